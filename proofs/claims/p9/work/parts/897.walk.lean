/-! the walk: every step -/
theorem dz_F1 {a : Int} {f1 f2 : Int32} {F : Nat} {K : List Nat} {A : List It} {z' : Zs} (h : dz a f1 f2 (F, K, A) z') (hr : 20 ≤ a ∧ a ≤ 38) : F = 1 := by
  have c : a = 20 ∨ a = 21 ∨ a = 22 ∨ a = 23 ∨ a = 24 ∨ a = 25 ∨ a = 26 ∨ a = 27 ∨ a = 28 ∨ a = 29 ∨ a = 30 ∨ a = 31 ∨ a = 32 ∨ a = 33 ∨ a = 34 ∨ a = 35 ∨ a = 36 ∨ a = 37 ∨ a = 38 := by omega
  rcases c with c | c | c | c | c | c | c | c | c | c | c | c | c | c | c | c | c | c | c
  · obtain ⟨K1, e1, -⟩ := dzi_20 h c
    exact (zs_inj e1).1.symm
  · obtain ⟨K1, e1, -⟩ := dzi_21 h c
    exact (zs_inj e1).1.symm
  · obtain ⟨K1, e1, -⟩ := dzi_22 h c
    exact (zs_inj e1).1.symm
  · obtain ⟨K1, e1, -⟩ := dzi_23 h c
    exact (zs_inj e1).1.symm
  · obtain ⟨K1, e1, -⟩ := dzi_24 h c
    exact (zs_inj e1).1.symm
  · obtain ⟨K1, e1, -⟩ := dzi_25 h c
    exact (zs_inj e1).1.symm
  · obtain ⟨K1, e1, -⟩ := dzi_26 h c
    exact (zs_inj e1).1.symm
  · obtain ⟨K1, e1, -⟩ := dzi_27 h c
    exact (zs_inj e1).1.symm
  · obtain ⟨K1, e1, -⟩ := dzi_28 h c
    exact (zs_inj e1).1.symm
  · obtain ⟨K1, e1, -⟩ := dzi_29 h c
    exact (zs_inj e1).1.symm
  · obtain ⟨K1, e1, -⟩ := dzi_30 h c
    exact (zs_inj e1).1.symm
  · obtain ⟨K1, e1, -⟩ := dzi_31 h c
    exact (zs_inj e1).1.symm
  · obtain ⟨K1, e1, -⟩ := dzi_32 h c
    exact (zs_inj e1).1.symm
  · obtain ⟨K1, e1, -⟩ := dzi_33 h c
    exact (zs_inj e1).1.symm
  · obtain ⟨K1, e1, -⟩ := dzi_34 h c
    exact (zs_inj e1).1.symm
  · obtain ⟨K1, e1, -⟩ := dzi_35 h c
    exact (zs_inj e1).1.symm
  · obtain ⟨K1, e1, -⟩ := dzi_36 h (Or.inl c)
    exact (zs_inj e1).1.symm
  · obtain ⟨K1, e1, -⟩ := dzi_36 h (Or.inr c)
    exact (zs_inj e1).1.symm
  · obtain ⟨K1, e1, -⟩ := dzi_38 h c
    exact (zs_inj e1).1.symm
theorem Int1 : (1 : Int32).toInt = 1 := by decide
section WKL
variable {σ s z t ρ : St} {g g' g1 : Gh} {X X0 Y : Nat → Prop} {b e e0 e' h h' H H0 H' L L' m n N N' Nb c d p tt j i F F' k B q E hd f : Nat} {K K2 M G D : List Nat} {A : List It} {x y v a op a1 a2 a3 : Int32}
/-- where the declarations' take() goes -/
theorem tk1_all {Q : St → Prop} (hr : 42 ≤ a.toInt ∧ a.toInt ≤ 49) (h42 : a.toInt = 42 → ∀ y, Q (upC (upC σ 8 6 (atv 32100 (σ 19) x)) 8 7 y)) (h43 : a.toInt = 43 → wk_X1_variable (atv 32100 (σ 19) x) (atv 32100 (σ 20) x) (atv 32100 (σ 21) x) σ (fun s => Q s)) (h44 : a.toInt = 44 → wk_X1_item σ (fun s => Q s)) (h45 : a.toInt = 45 → wk_X1_fill (atv 32100 (σ 19) x) σ (fun s => Q s)) (h46 : a.toInt = 46 → wk_X1_initial (atv 32100 (σ 19) x) (atv 32100 (σ 20) x) σ (fun s => Q s)) (h47 : a.toInt = 47 → wk_X1_function (atv 32100 (σ 19) x) (atv 32100 (σ 20) x) (atv 32100 (σ 21) x) σ (fun s => Q s)) (h48 : a.toInt = 48 → wk_X1_parameter (atv 32100 (σ 19) x) (atv 32100 (σ 20) x) σ (fun s => Q s)) (h49 : a.toInt = 49 → wk_X1_functionEnd σ (fun s => Q s)) : wk_X1_take a x σ Q := by
  unfold wk_X1_take
  exact ⟨fun c => ⟨fun _ => ⟨fun _ => h42 c _, fun _ => h42 c _⟩, fun _ => h42 c _⟩, fun _ => ⟨h43, fun _ => ⟨h44, fun _ => ⟨h45, fun _ => ⟨h46, fun _ => ⟨h47, fun _ => ⟨h48, fun _ => h49 (by omega)⟩⟩⟩⟩⟩⟩⟩
/-- what the walk keeps to between its steps -/
def WLx (ρ s : St) (BB NB : Int) (i : Nat) (z : Zs) : Prop := (s 6 3).toInt = 0 → ∃ Nb b e0 H0 g X, WSx ρ s z.1 z.2.1 z.2.2 Nb b e0 H0 g X ∧ (clen s : Int) + 2 * plc s z.2.2 + csum ρ (cn ρ - i) i ≤ BB ∧ (s 5 7).toInt + nsum ρ (cn ρ - i) i ≤ NB ∧ z.2.1.length ≤ i ∧ z.2.2.length ≤ 500
theorem kwk_g (k : KWk σ s) : (s 13) = (σ 13) ∧ (s 14) = (σ 14) ∧ (s 15) = (σ 15) ∧ (s 18) = (σ 18) ∧ (s 19) = (σ 19) ∧ (s 20) = (σ 20) ∧ (s 21) = (σ 21) ∧ (s 3 4) = (σ 3 4) ∧ s 1 = σ 1 := ⟨ko_rd k 13 (Or.inl (by decide)) rfl (fun _ => rfl), ko_rd k 14 (Or.inl (by decide)) rfl (fun _ => rfl), ko_rd k 15 (Or.inl (by decide)) rfl (fun _ => rfl), ko_rd k 18 (Or.inl (by decide)) rfl (fun _ => rfl), ko_rd k 19 (Or.inl (by decide)) rfl (fun _ => rfl), ko_rd k 20 (Or.inl (by decide)) rfl (fun _ => rfl), ko_rd k 21 (Or.inl (by decide)) rfl (fun _ => rfl), k 3 4 (op_lt (by decide)) rfl rfl, ko_rd k 1 (Or.inl (by decide)) rfl (fun _ => rfl)⟩
theorem cs_step (hi : i < q) : csum ρ (q - i) i = cst ρ i + csum ρ (q - (i + 1)) (i + 1) := by
  have : q - i = (q - (i + 1)) + 1 := by omega
  rw [this]
  rfl
theorem ns_step (hi : i < q) : nsum ρ (q - i) i = nst ρ i + nsum ρ (q - (i + 1)) (i + 1) := by
  have : q - i = (q - (i + 1)) + 1 := by omega
  rw [this]
  rfl
theorem cst_tab {n : Nat} (hn : n < 50) (h45 : n ≠ 45) (h : act σ i = (n : Int)) : cst σ i = ([0, 2, 3, 2, 0, 0, 3, 2, 2, 2, 3, 2, 0, 2, 2, 2, 0, 0, 0, 0, 0, 0, 1, 2, 2, 0, 0, 4, 2, 2, 0, 2, 0, 4, 4, 2, 2, 2, 3, 0, 0, 0, 0, 5, 3, 0, 3, 4, 0, 3] : List Nat).getD n 0 := by
  unfold cst
  rw [h, if_neg (by omega)]
  rfl
/-- a step behind which the next one stands; all that it says is put together -/
theorem wl_next {z1 : Zs} {BB NB : Int} (hi : i < cn ρ) (hK : z1.2.1.length ≤ i + 1) (hA : z1.2.2.length ≤ 500) (hv : (s 6 3).toInt = 0 → ∃ Nb b e0 H0 g X, WSx ρ s z1.1 z1.2.1 z1.2.2 Nb b e0 H0 g X ∧ (clen s : Int) + 2 * plc s z1.2.2 ≤ BB - csum ρ (cn ρ - (i + 1)) (i + 1)) (hn : (s 5 7).toInt ≤ NB - nsum ρ (cn ρ - (i + 1)) (i + 1)) : WLx ρ s BB NB (i + 1) z1 := fun f => by
  obtain ⟨Nb, b, e0, H0, g, X, h1, h2⟩ := hv f
  exact ⟨Nb, b, e0, H0, g, X, h1, by omega, by omega, hK, hA⟩
/-- one turn of the walk -/
theorem ws_turn {Q : Int32 → St → Prop} {z z1 : Zs} {BB NB : Int} {i1 : Nat} (nm : NMr ρ) (by' : ByteOK (ρ 1)) (hd : (ρ 5 1).toInt ≤ 10000) (hBB : BB ≤ 262144) (hNB : NB ≤ 65600) (wk : WKs ρ s) (wl : WLx ρ s BB NB i z) (hf : (s 6 3).toInt = 0) (hx : x.toInt = i) (hc : cn ρ ≤ 32100) (hi : i < cn ρ) (w : WS ρ i i1 z z1) (hi1 : i1 ≤ cn ρ) (k : ∀ (x' : Int32) s', x'.toInt + 1 = i1 → WKs ρ s' → WLx ρ s' BB NB i1 z1 → Q x' s') :
    (20 ≤ (atv 32100 (s 18) x).toInt → (40 ≤ (atv 32100 (s 18) x).toInt → ((atv 32100 (s 18) x).toInt = 40 → wk_X7_constant (x + (1 : Int32)) (atv 32100 (s 20) x) s (fun v s154 => Q (if x < (atv 32100 (s 20) x) then (atv 32100 (s 20) x) else x) (upC s154 8 8 v))) ∧ ((atv 32100 (s 18) x).toInt ≠ 40 → wk_X1_take (atv 32100 (s 18) x) x s (fun s125 => Q x s125))) ∧ ((atv 32100 (s 18) x).toInt < 40 → wk_X7_take (atv 32100 (s 18) x) x s (fun s105 => Q x s105))) ∧ ((atv 32100 (s 18) x).toInt < 20 → wk_X2_take x s (fun s88 => Q x s88)) := by
  obtain ⟨Nb, b, e0, H0, g, X, h, hb, hn, hK, hA⟩ := wl hf
  obtain ⟨F, K, A⟩ := z
  have h : WSx ρ s F K A Nb b e0 H0 g X := h
  have hb : (clen s : Int) + 2 * plc s A + csum ρ (cn ρ - i) i ≤ BB := hb
  have hK : K.length ≤ i := hK
  have hA : A.length ≤ 500 := hA
  obtain ⟨e13, e14, e15, e18, e19, e20, e21, e34, e1⟩ := kwk_g wk.1
  have hi3 : i < 32100 := by omega
  have ea : atv 32100 (s 18) x = (ρ 18) i := by rw [e18]; exact atv_at hx hi3
  have ea2 : atv 32100 (s 18) x = (s 18) i := atv_at hx hi3
  have et : atv 32100 (s 19) x = (ρ 19) i := by rw [e19]; exact atv_at hx hi3
  have ef : atv 32100 (s 20) x = (ρ 20) i := by rw [e20]; exact atv_at hx hi3
  have es : atv 32100 (s 21) x = (ρ 21) i := by rw [e21]; exact atv_at hx hi3
  have act' : act s i = act ρ i := by unfold act; rw [e18]
  have eact : ((ρ 18) i).toInt = act ρ i := rfl
  have ecst : cst s i = cst ρ i := cst_same e14 ⟨by rw [e18], by rw [e19]⟩
  have vx : vlx s ((ρ 19) i) = vlx ρ ((ρ 19) i) := by unfold vlx; rw [e14]
  have tx : tkx s ((ρ 19) i) = tkx ρ ((ρ 19) i) := by unfold tkx; rw [e13]
  have l0 : 0 ≤ (s 4 1).toInt := wk.2.2.2.1
  have c0 := clen_eq l0
  have step := cs_step (ρ := ρ) hi
  have stepn := ns_step (ρ := ρ) hi
  have cap : (s 4 1).toInt ≤ 262150 := by omega
  have hx1 : x.toInt + 1 = ((i + 1 : Nat) : Int) := by omega
  have nm' : NMr s := by unfold NMr; rw [e13, e14, e15]; exact nm
  have by2 : ByteOK (s 1) := by rw [e1]; exact by'
  have hd' : (s 5 1).toInt - (s 6 7).toInt ≤ 10000 := by
    have := wk.2.2.1.1
    omega
  rw [ea, eact, ef]
  rcases w with ⟨w1, w2, F2, K2', A2, B2, z1e, z2e, w3⟩ | ⟨w1, w3, w4⟩ | ⟨w1, w2, w3, w4, w5, F2, K2', z1e, z2e⟩
  · -- an expression's
    obtain ⟨q1, q2, q3⟩ := zs_inj z1e
    subst q1 q2 q3 z2e w1
    refine ⟨fun c => by omega, fun _ => ?_⟩
    refine ws_x wk h cap hA hx hi3 (by rw [act', e19, tx]; exact w3) (fun s2 k2 w2' hv => k x s2 hx1 w2' (wl_next hi (by clear hv; show K2'.length ≤ i + 1; omega) (dx_len w3 hA) (fun f2 => ?_) ?_))
    · obtain ⟨g', q4, q5⟩ := hv f2
      rw [ecst] at q5
      exact ⟨Nb, b, e0, H0, g', X, q4, by show (clen s2 : Int) + 2 * plc s2 B2 ≤ _; omega⟩
    · rw [show s2 5 7 = s 5 7 from k2 5 7 (op_lt (by decide)) rfl rfl]
      clear hv
      omega
  · -- a statement's or a declaration's
    subst w1
    have rg := dz_rng w3
    refine ⟨fun c20 => ⟨fun c40 => ⟨fun c => by omega, fun _ => ?_⟩, fun c40 => ?_⟩, fun c => by omega⟩
    · -- declarations
      rw [← ea]
      refine tk1_all (by rw [ea, eact]; omega) (fun c y => ?_) (fun c => ?_) (fun c => ?_) (fun c => ?_) (fun c => ?_) (fun c => ?_) (fun c => ?_) (fun c => ?_)
      all_goals rw [ea, eact] at c
      all_goals try rw [et]
      all_goals try rw [ef]
      all_goals try rw [es]
      · obtain ⟨F2, K2', e2, e3⟩ := dzi_42 w3 c
        obtain ⟨q1, q2, q3⟩ := zs_inj e2
        subst q1 q2 q3
        rw [e2] at e3
        subst e3
        generalize hs2 : upC (upC s 8 6 ((ρ 19) i)) 8 7 y = s2
        have kt : Kp [(8, 6), (8, 7), (8, 8)] [] s s2 := by rw [← hs2]; exact kp_f (kp_f kp_rf rfl) rfl
        have e4 : clen s2 = clen s := by unfold clen; rw [show s2 4 1 = s 4 1 from kt 4 1 rfl rfl]
        refine k x s2 hx1 (wk_D kt wk) (wl_next hi (by show K2'.length ≤ i + 1; omega) (Nat.zero_le _) (fun _ => ⟨Nb, b, e0, H0, g, X, ws_D kt h, by rw [e4]; show (clen s : Int) + 2 * (0 : Nat) ≤ _; have : plc s [] = 0 := rfl; omega⟩) ?_)
        rw [show s2 5 7 = s 5 7 from kt 5 7 rfl rfl]
        omega
      · obtain ⟨F2, K2', hF1, tp, e2, e3⟩ := dzi_43 w3 c
        obtain ⟨q1, q2, q3⟩ := zs_inj e2
        subst q1 q2 q3
        have p0 : plc s [] = 0 := rfl
        have tk2 : tkx s ((ρ 19) i) = 2 := by rw [tx]; exact w4 (Or.inl c)
        have ens : nst ρ i = (vlx ρ ((ρ 19) i)).toNat := if_pos (Or.inl c)
        have ecs := cst_tab (n := 43) (by decide) (by decide) c
        have ecs' : cst ρ i = 5 := ecs
        have zz : ∃ M, z1 = (F2, M, []) ∧ M.length ≤ K2'.length + 1 ∧ ((b4 ((ρ 21) i) ∧ M = 9 :: K2') ∨ (¬ b4 ((ρ 21) i) ∧ M = K2')) := by
          rcases e3 with ⟨b1, e3⟩ | ⟨b1, e3⟩
          · exact ⟨9 :: K2', e3, Nat.le_refl _, Or.inl ⟨b1, rfl⟩⟩
          · exact ⟨K2', e3.trans e2, Nat.le_succ _, Or.inr ⟨b1, rfl⟩⟩
        obtain ⟨M, ez, hM1, hM2⟩ := zz
        subst ez
        have f01 : F2 = 0 ∨ F2 = 1 := by omega
        rcases f01 with rfl | rfl
        · refine ws_var0 wk h tp nm' by2 tk2 hd' (by rw [vx]; omega) hM2 (fun s2 k2 w2' n2 hv => k x s2 hx1 w2' (wl_next hi (by clear hv; show M.length ≤ i + 1; omega) (Nat.zero_le _) (fun f2 => ?_) (by clear hv; rw [vx] at n2; omega)))
          obtain ⟨Nb', b', e1', g', X', q4, q5⟩ := hv f2
          clear hv
          exact ⟨Nb', b', e1', 0, g', X', q4, by show (clen s2 : Int) + 2 * (0 : Nat) ≤ _; omega⟩
        · refine ws_var1 wk h tp cap hM2 (fun s2 k2 w2' n2 hv => k x s2 hx1 w2' (wl_next hi (by clear hv; show M.length ≤ i + 1; omega) (Nat.zero_le _) (fun f2 => ?_) (by clear hv; rw [n2]; omega)))
          obtain ⟨e1', g', q4, q5⟩ := hv f2
          clear hv
          exact ⟨Nb, b, e1', 0, g', X, q4, by show (clen s2 : Int) + 2 * (0 : Nat) ≤ _; omega⟩
      · obtain ⟨F2, K2', c9, hc9, e2, e3⟩ := dzi_44 w3 c
        obtain ⟨q1, q2, q3⟩ := zs_inj e2
        subst q1 q2 q3 e3
        have ecs : cst ρ i = 3 := cst_tab (n := 44) (by decide) (by decide) c
        refine ws_item (by omega) wk h cap (fun s2 k2 w2' n2 hv => k x s2 hx1 w2' (wl_next hi (by clear hv; show K2'.length + 1 ≤ i + 1; simp only [List.length_cons] at hK; omega) (Nat.zero_le _) (fun f2 => ?_) (by clear hv; rw [n2]; omega)))
        obtain ⟨e1', H1, g', X', q4, q5⟩ := hv f2
        clear hv
        exact ⟨Nb, b, e1', H1, g', X', q4, by show (clen s2 : Int) + 2 * (0 : Nat) ≤ _; omega⟩
      · obtain ⟨F2, K2', e2, e3⟩ := dzi_45 w3 c
        obtain ⟨q1, q2, q3⟩ := zs_inj e2
        subst q1 q2 q3 e3
        have p0 : plc s [] = 0 := rfl
        have ecs : cst ρ i = 4 * (vlx ρ ((ρ 19) i)).toNat := by
          unfold cst
          rw [if_pos c, c]
          show 0 + _ = _
          omega
        refine ws_fill wk h (by rw [vx]; omega) (fun s2 k2 w2' n2 hv => k x s2 hx1 w2' (wl_next hi (by clear hv; show K2'.length + 1 ≤ i + 1; simp only [List.length_cons] at hK; omega) (Nat.zero_le _) (fun f2 => ?_) (by clear hv; rw [n2]; omega)))
        obtain ⟨e1', g', q4, q5⟩ := hv f2
        clear hv
        rw [vx] at q5
        exact ⟨Nb, b, e1', H0, g', X, q4, by show (clen s2 : Int) + 2 * (0 : Nat) ≤ _; omega⟩
      · obtain ⟨F2, K2', e3, e2⟩ := dzi_46 w3 c
        subst e3
        have ecs : cst ρ i = 3 := cst_tab (n := 46) (by decide) (by decide) c
        have fin : ∀ c9 : Nat, 9 ≤ c9 → F = F2 → K = c9 :: K2' → ((((ρ 20) i).toInt = 0 ∧ c9 = 9 ∧ A = [iV]) ∨ (((ρ 20) i).toInt = 1 ∧ A = []) ∨ (((ρ 20) i).toInt = 2 ∧ c9 = 11 ∧ A = [])) → wk_X1_initial ((ρ 19) i) ((ρ 20) i) s (fun s => Q x s) := fun c9 h9 q1 q2 hAA => by
          subst q1 q2
          refine ws_initial h9 wk h hAA cap (fun s2 k2 w2' n2 hv => k x s2 hx1 w2' (wl_next hi (by clear hv; show K2'.length ≤ i + 1; simp only [List.length_cons] at hK; omega) (Nat.zero_le _) (fun f2 => ?_) (by clear hv; rw [n2]; omega)))
          obtain ⟨e1', H1, g', X', q4, q5⟩ := hv f2
          clear hv
          exact ⟨Nb, b, e1', H1, g', X', q4, by show (clen s2 : Int) + 2 * (0 : Nat) ≤ _; omega⟩
        rcases e2 with ⟨p1, p2⟩ | ⟨p1, p2 | p2⟩ | ⟨p1, p2⟩
        · obtain ⟨q1, q2, q3⟩ := zs_inj p2
          exact fin 9 (by decide) q1.symm q2.symm (Or.inl ⟨p1, rfl, q3.symm⟩)
        · obtain ⟨q1, q2, q3⟩ := zs_inj p2
          exact fin 9 (by decide) q1.symm q2.symm (Or.inr (Or.inl ⟨p1, q3.symm⟩))
        · obtain ⟨q1, q2, q3⟩ := zs_inj p2
          exact fin 10 (by decide) q1.symm q2.symm (Or.inr (Or.inl ⟨p1, q3.symm⟩))
        · obtain ⟨q1, q2, q3⟩ := zs_inj p2
          exact fin 11 (by decide) q1.symm q2.symm (Or.inr (Or.inr ⟨p1, rfl, q3.symm⟩))
      · obtain ⟨e2, sp, e3⟩ := dzi_47 w3 c
        obtain ⟨q1, q2, q3⟩ := zs_inj e2
        subst q1 q2 q3
        have p0 : plc s [] = 0 := rfl
        have tk2 : tkx s ((ρ 19) i) = 2 := by rw [tx]; exact w4 (Or.inr c)
        have ens : nst ρ i = (vlx ρ ((ρ 19) i)).toNat := if_pos (Or.inr c)
        have ecs : cst ρ i = 4 := cst_tab (n := 47) (by decide) (by decide) c
        have zz : ∃ M, z1 = (M, [], []) ∧ ((b4 ((ρ 21) i) ∧ M = 1 + spar ((ρ 20) i)) ∨ (¬ b4 ((ρ 21) i) ∧ M = 0)) := by
          rcases e3 with ⟨b1, e3⟩ | ⟨b1, e3⟩
          · exact ⟨_, e3, Or.inl ⟨b1, rfl⟩⟩
          · exact ⟨_, e3, Or.inr ⟨b1, rfl⟩⟩
        obtain ⟨M, ez, hM2⟩ := zz
        subst ez
        refine ws_func wk h nm' by2 tk2 hd' (by rw [vx]; omega) sp cap hM2 (fun s2 k2 w2' n2 hv => k x s2 hx1 w2' (wl_next hi (Nat.zero_le _) (Nat.zero_le _) (fun f2 => ?_) (by clear hv; rw [vx] at n2; omega)))
        obtain ⟨Nb', b', e1', g', X', q4, q5⟩ := hv f2
        clear hv
        exact ⟨Nb', b', e1', 0, g', X', q4, by show (clen s2 : Int) + 2 * (0 : Nat) ≤ _; omega⟩
      · obtain ⟨F2, e2, e3⟩ := dzi_48 w3 c
        obtain ⟨q1, q2, q3⟩ := zs_inj e2
        subst q1 q2 q3 e3
        have p0 : plc s [] = 0 := rfl
        refine ws_param wk h (fun s2 k2 w2' n2 hv => k x s2 hx1 w2' (wl_next hi (Nat.zero_le _) (Nat.zero_le _) (fun f2 => ?_) (by clear hv; rw [n2]; omega)))
        obtain ⟨e1', g', q4, q5⟩ := hv f2
        clear hv
        exact ⟨Nb, b, e1', 0, g', X, q4, by show (clen s2 : Int) + 2 * (0 : Nat) ≤ _; omega⟩
      · obtain ⟨e2, e3⟩ := dzi_49 w3 c
        obtain ⟨q1, q2, q3⟩ := zs_inj e2
        subst q1 q2 q3 e3
        have p0 : plc s [] = 0 := rfl
        have ecs : cst ρ i = 3 := cst_tab (n := 49) (by decide) (by decide) c
        refine ws_fnEnd wk h cap (fun s2 k2 w2' n2 hv => k x s2 hx1 w2' (wl_next hi (Nat.zero_le _) (Nat.zero_le _) (fun f2 => ?_) (by clear hv; rw [n2]; omega)))
        obtain ⟨Nb', b', e1', g', X', q4, q5⟩ := hv f2
        clear hv
        exact ⟨Nb', b', e1', 0, g', X', q4, by show (clen s2 : Int) + 2 * (0 : Nat) ≤ _; omega⟩
    · -- statements
      have F1 : F = 1 := dz_F1 w3 (by omega)
      subst F1
      refine ws_s (f1 := (ρ 20) i) (f2 := (ρ 21) i) wk h cap hx hi3 (by omega) (by rw [e18]) (by rw [act']; omega) (by rw [act', e20, e21]; exact w3) hf (fun s2 M ez hM k2 w2' hv => ?_)
      subst ez
      refine k x s2 hx1 w2' (wl_next hi (by clear hv; show M.length ≤ i + 1; omega) (Nat.zero_le _) (fun f2 => ?_) ?_)
      · obtain ⟨e1', g', X', q4, q5⟩ := hv f2
        rw [ecst] at q5
        exact ⟨Nb, b, e1', 0, g', X', q4, by show (clen s2 : Int) + 2 * (0 : Nat) ≤ _; omega⟩
      · rw [show s2 5 7 = s 5 7 from k2 5 7 (op_lt (by decide)) rfl rfl]
        clear hv
        omega
  · -- a size
    have qq := zs_inj z1e
    obtain ⟨q1, q2, q3⟩ := qq
    subst q1 q2 q3
    rw [z1e] at z2e
    subst z2e
    refine ⟨fun _ => ⟨fun _ => ⟨fun _ => ?_, fun c => absurd w1 c⟩, fun c => by omega⟩, fun c => by omega⟩
    have p0 : plc s [] = 0 := rfl
    have ei1 : (if x < ((ρ 20) i) then ((ρ 20) i) else x).toInt + 1 = i1 := by
      rw [if_pos (Int32.lt_iff_toInt_lt.mpr (by omega))]
      omega
    have x1 : (x + (1 : Int32)).toInt = ((i + 1 : Nat) : Int) := by rw [ad0 Int1 (by omega) (by omega)]; omega
    have nlen : (i + 1) + (i1 - 1 - (i + 1)) = i1 - 1 := by omega
    have csplit : csum ρ (cn ρ - i) i = cst ρ i + (csum ρ (i1 - 1 - (i + 1)) (i + 1) + (cst ρ (i1 - 1) + csum ρ (cn ρ - i1) i1)) := by
      rw [step]
      have e1' : cn ρ - (i + 1) = (i1 - 1 - (i + 1)) + (cn ρ - (i1 - 1)) := by omega
      rw [e1', csum_app, nlen, cs_step (ρ := ρ) (q := cn ρ) (i := i1 - 1) (by omega)]
      have : i1 - 1 + 1 = i1 := by omega
      rw [this]
    have nsplit : nsum ρ (cn ρ - i) i = nst ρ i + (nsum ρ (i1 - 1 - (i + 1)) (i + 1) + (nst ρ (i1 - 1) + nsum ρ (cn ρ - i1) i1)) := by
      rw [stepn]
      have e1' : cn ρ - (i + 1) = (i1 - 1 - (i + 1)) + (cn ρ - (i1 - 1)) := by omega
      rw [e1', nsum_app, nlen, ns_step (ρ := ρ) (q := cn ρ) (i := i1 - 1) (by omega)]
      have : i1 - 1 + 1 = i1 := by omega
      rw [this]
    have sm : ∀ q, csum s q (i + 1) = csum ρ q (i + 1) := fun q => csum_same e14 q _ (fun j _ _ => ⟨by rw [e18], by rw [e19]⟩)
    refine sp_constant (f := i + 1) (n := i1 - 1 - (i + 1)) wk.2.1 (sb_nil h.2.1) hf x1 (by rw [nlen]; omega) (by omega) (xr_same e13 _ _ _ _ (fun j _ _ => ⟨by rw [e18], by rw [e19]⟩) w5) (by rw [sm]; omega) (fun v t kt mt t4 wt ct ft => ?_)
    obtain ⟨w6, h6⟩ := ws_const wk h kt mt t4 wt ct
    have ecl : clen t = clen s := by unfold clen; rw [t4]
    generalize hu : upC t 8 8 v = u
    have ku : Kp [(8, 6), (8, 7), (8, 8)] [] t u := by rw [← hu]; exact kp_f kp_rf rfl
    have ecu : clen u = clen t := by unfold clen; rw [show u 4 1 = t 4 1 from ku 4 1 rfl rfl]
    have en : u 5 7 = s 5 7 := (ku 5 7 rfl rfl).trans (kt 5 7 (op_lt (by decide)) rfl rfl)
    refine k _ u ei1 (wk_D ku w6) (fun _ => ⟨Nb, b, e0, H0, g, X, ws_D ku h6, by show (clen u : Int) + 2 * (0 : Nat) + (csum ρ (cn ρ - i1) i1 : Nat) ≤ BB; omega, by rw [en]; omega, by show K2'.length ≤ i1; omega, Nat.zero_le _⟩)
end WKL
