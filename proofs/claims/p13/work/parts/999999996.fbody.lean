/-! functions: bodies and ends, both sides -/
section FBD
variable {w s r s1 s2 s3 σ σ' σ0 σ1 τ t : St} {kd vl : Nat → Int} {n S S' m m' lo u d p : Nat} {vs z : List Nat} {a a1 a2 a3 v sig : Int32} {Q : St → Prop} {lk rs rr k3 : Int} {l : List (Nat × Nat)} {F0 body stc : Prop}
theorem xl_settle (kk : ∀ s, Kp [] [24] w s → Q s) : pk_X0_settle_r48 a w Q := by
  unfold pk_X0_settle_r48
  refine ⟨fun _ _ s => Kp [] [24] w s, kp_rf, fun x y s ks => ⟨fun _ => kk s ks, fun _ => ⟨fun _ => kk s ks, fun _ => ⟨fun s => Kp [] [24] w s, fun s h => h, True, fun _ => ⟨fun _ => ks, fun _ => ⟨fun _ => ks, fun _ => kp_F ks rfl⟩⟩, fun _ => trivial, fun _ => ⟨fun _ => trivial, fun _ => ⟨fun _ => trivial, fun _ => kp_F (kp_F ks rfl) rfl⟩⟩⟩⟩⟩⟩
theorem xl_thread (kk : ∀ s, Kp [] [24] w s → Q s) : pk_X0_thread a w Q := by
  unfold pk_X0_thread
  refine ⟨fun _ _ s => Kp [] [24] w s, kp_rf, fun x y s ks => ⟨fun _ => kk s ks, fun _ => ⟨fun _ => kk s ks, fun _ => ⟨fun s => Kp [] [24] w s, fun s h => h, fun _ => ks, fun _ => ⟨fun _ => ks, fun _ => ⟨fun _ _ => True, trivial, fun x2 y2 _ => ⟨True, fun _ => kp_F ks rfl, fun _ => trivial, fun _ => ⟨fun _ => trivial, fun _ => trivial⟩⟩⟩⟩⟩⟩⟩⟩
theorem xf_end (kk : ∀ s, Kp [(4, 1), (6, 6), (6, 10), (6, 15), (6, 17)] [24, 48] w s → (s 6 6).toInt = -1 → (s 6 15).toInt = 0 → Q s) : pk_X1_functionEnd w Q := by
  unfold pk_X1_functionEnd pk_X8_parameters
  refine xl_emit (fun v8 s8 k8 => xl_emit (fun v21 s21 k21 => ⟨fun _ _ _ s => Kp [(4, 1)] [24, 48] w s, kp_sub (kp_tr k8 k21) rfl rfl, fun x3 x4 x5 s72 k72 => ⟨fun _ => xl_settle (fun s255 k255 => ?_), fun _ => ⟨fun _ => True, fun y _ _ => ⟨fun _ => True, fun y2 _ => ⟨fun _ => True, fun y1 _ => ⟨fun _ => True, fun y3 _ => kp_F k72 rfl, fun _ => trivial, fun _ => trivial⟩, True, fun _ => trivial, fun _ => trivial, fun _ => ⟨fun _ => trivial, fun _ => trivial⟩⟩, fun _ => trivial, fun _ => trivial⟩, fun _ => trivial, fun _ => trivial⟩⟩⟩))
  have kz : Kp [(4, 1)] [24, 48] w s255 := kp_tr (kp_F (kp_F (kp_F (kp_F k72 rfl) rfl) rfl) rfl) (kp_sub k255 rfl rfl)
  have fin : ∀ s, Kp [(4, 1)] [24, 48] w s → pk_X11_leave s (fun s283 => Q s283) := fun s ks => by
    unfold pk_X11_leave
    refine kk _ (kp_f (kp_f (kp_f (kp_f (kp_sub ks rfl rfl) rfl) rfl) rfl) rfl) ?_ ?_
    · rw [rdA_ne (by decide), rdA_ne (by decide), rdA_ne (by decide), rdA_eq rfl]; rfl
    · rw [rdA_ne (by decide), rdA_eq rfl]; rfl
  exact ⟨fun s => Kp [(4, 1)] [24, 48] w s, fun s ks => fin s ks, fun _ => kz, fun _ => xl_thread (fun s ks => kp_tr kz (kp_sub ks rfl rfl))⟩
/-- what the end of a body leaves in the reference -/
abbrev ENr (a b : St) : Prop := Kp [(0, 10), (0, 17), (0, 53), (0, 45)] [8, 26, 27, 28, 29, 30, 54] a b
theorem en_g (k : ENr σ s) : ∀ c, c ≠ 0 → c ≠ 8 → c ≠ 26 → c ≠ 27 → c ≠ 28 → c ≠ 29 → c ≠ 30 → c ≠ 54 → s c = σ c := fun c h0 h1 h2 h3 h4 h5 h6 h7 => funext (fun j => k c j (by
  simp only [List.contains_cons, List.contains_nil, Bool.or_false, Bool.or_eq_false_iff, beq_eq_false_iff_ne, ne_eq, Prod.mk.injEq, not_and]
  omega) (by
  simp only [List.contains_cons, List.contains_nil, Bool.or_false, Bool.or_eq_false_iff, beq_eq_false_iff_ne, ne_eq]
  omega))
theorem rg_end (h : RGs kd vl n S m lo d σ) (k : ENr σ s) (h53 : (s 0 53).toInt = 0) : RGs kd vl n 0 m lo d s := by
  obtain ⟨⟨h1, h2, h3, h4, h5, h6, h7, h8, h9, h10, h11, h12⟩, q2, ⟨Lc, l1, l2, l3⟩, q4, q5⟩ := h
  have gs := en_g k
  have g2 := gs 2 (by decide) (by decide) (by decide) (by decide) (by decide) (by decide) (by decide) (by decide)
  have g3 := gs 3 (by decide) (by decide) (by decide) (by decide) (by decide) (by decide) (by decide) (by decide)
  have g4 := gs 4 (by decide) (by decide) (by decide) (by decide) (by decide) (by decide) (by decide) (by decide)
  have g6 := gs 6 (by decide) (by decide) (by decide) (by decide) (by decide) (by decide) (by decide) (by decide)
  have g9 := gs 9 (by decide) (by decide) (by decide) (by decide) (by decide) (by decide) (by decide) (by decide)
  have g10 := gs 10 (by decide) (by decide) (by decide) (by decide) (by decide) (by decide) (by decide) (by decide)
  have g15 := gs 15 (by decide) (by decide) (by decide) (by decide) (by decide) (by decide) (by decide) (by decide)
  have g16 := gs 16 (by decide) (by decide) (by decide) (by decide) (by decide) (by decide) (by decide) (by decide)
  have g18 := gs 18 (by decide) (by decide) (by decide) (by decide) (by decide) (by decide) (by decide) (by decide)
  have g19 := gs 19 (by decide) (by decide) (by decide) (by decide) (by decide) (by decide) (by decide) (by decide)
  have g22 := gs 22 (by decide) (by decide) (by decide) (by decide) (by decide) (by decide) (by decide) (by decide)
  have g31 := gs 31 (by decide) (by decide) (by decide) (by decide) (by decide) (by decide) (by decide) (by decide)
  have g35 := gs 35 (by decide) (by decide) (by decide) (by decide) (by decide) (by decide) (by decide) (by decide)
  refine ⟨⟨?_, ?_, ?_, ⟨h53, by decide, fun j hj => absurd hj (Nat.not_lt_zero j)⟩, ?_, h6, ⟨?_, fun j hj => absurd hj (Nat.not_lt_zero j)⟩, ?_, ?_, ?_, ?_, by rw [k 0 12 rfl rfl]; exact h12⟩, by rw [k 0 54 rfl rfl]; exact q2, ⟨Lc, by rw [k 0 49 rfl rfl]; exact l1, Nat.zero_le _, l3⟩, by rw [k 0 15 rfl rfl]; exact q4, by rw [g6]; exact q5⟩
  · unfold RTk at h1 ⊢; rw [g2]; exact h1
  · unfold TNm at h2 ⊢; rw [g3, g4]; exact h2
  · rw [g6]; exact h3
  · unfold EOKm at h5 ⊢; rw [g18, g19, g22, k 0 35 rfl rfl, k 0 36 rfl rfl, k 0 31 rfl rfl]; exact h5
  · rw [g31]; exact h7.1
  · rw [g10]; exact h8
  · rw [g35]; exact h9
  · rw [g9, g10, g15, g16]; exact h10
  · rw [k 0 37 rfl rfl]; exact h11
theorem re_end (h : REq kd n S m lo w σ) (kw : Kp [(4, 1), (6, 6), (6, 10), (6, 15), (6, 17)] [24, 48] w s) (h15 : (s 6 15).toInt = 0) (k : ENr σ σ') (h53 : (σ' 0 53).toInt = 0) : REq kd n 0 m lo s σ' := by
  obtain ⟨hT, hL, hO, hD, y1, y2⟩ := h
  have gs := en_g k
  have cs : ∀ c, c ≠ 4 → c ≠ 6 → c ≠ 24 → c ≠ 48 → s c = w c := fun c h4 h6 h1 h2 => funext (fun j => kw c j (by
    simp only [List.contains_cons, List.contains_nil, Bool.or_false, Bool.or_eq_false_iff, beq_eq_false_iff_ne, ne_eq, Prod.mk.injEq, not_and]
    omega) (by
    simp only [List.contains_cons, List.contains_nil, Bool.or_false, Bool.or_eq_false_iff, beq_eq_false_iff_ne, ne_eq]
    omega))
  have c5 := cs 5 (by decide) (by decide) (by decide) (by decide)
  have c25 := cs 25 (by decide) (by decide) (by decide) (by decide)
  have c26 := cs 26 (by decide) (by decide) (by decide) (by decide)
  have c27 := cs 27 (by decide) (by decide) (by decide) (by decide)
  have c28 := cs 28 (by decide) (by decide) (by decide) (by decide)
  have c38 := cs 38 (by decide) (by decide) (by decide) (by decide)
  have c39 := cs 39 (by decide) (by decide) (by decide) (by decide)
  have g1 := gs 1 (by decide) (by decide) (by decide) (by decide) (by decide) (by decide) (by decide) (by decide)
  have g2 := gs 2 (by decide) (by decide) (by decide) (by decide) (by decide) (by decide) (by decide) (by decide)
  have g3 := gs 3 (by decide) (by decide) (by decide) (by decide) (by decide) (by decide) (by decide) (by decide)
  have g4 := gs 4 (by decide) (by decide) (by decide) (by decide) (by decide) (by decide) (by decide) (by decide)
  have g6 := gs 6 (by decide) (by decide) (by decide) (by decide) (by decide) (by decide) (by decide) (by decide)
  have g9 := gs 9 (by decide) (by decide) (by decide) (by decide) (by decide) (by decide) (by decide) (by decide)
  have g10 := gs 10 (by decide) (by decide) (by decide) (by decide) (by decide) (by decide) (by decide) (by decide)
  have g11 := gs 11 (by decide) (by decide) (by decide) (by decide) (by decide) (by decide) (by decide) (by decide)
  have g12 := gs 12 (by decide) (by decide) (by decide) (by decide) (by decide) (by decide) (by decide) (by decide)
  have g13 := gs 13 (by decide) (by decide) (by decide) (by decide) (by decide) (by decide) (by decide) (by decide)
  have g14 := gs 14 (by decide) (by decide) (by decide) (by decide) (by decide) (by decide) (by decide) (by decide)
  have g15 := gs 15 (by decide) (by decide) (by decide) (by decide) (by decide) (by decide) (by decide) (by decide)
  have g16 := gs 16 (by decide) (by decide) (by decide) (by decide) (by decide) (by decide) (by decide) (by decide)
  have g17 := gs 17 (by decide) (by decide) (by decide) (by decide) (by decide) (by decide) (by decide) (by decide)
  have g18 := gs 18 (by decide) (by decide) (by decide) (by decide) (by decide) (by decide) (by decide) (by decide)
  have g19 := gs 19 (by decide) (by decide) (by decide) (by decide) (by decide) (by decide) (by decide) (by decide)
  have g20 := gs 20 (by decide) (by decide) (by decide) (by decide) (by decide) (by decide) (by decide) (by decide)
  have g21 := gs 21 (by decide) (by decide) (by decide) (by decide) (by decide) (by decide) (by decide) (by decide)
  have g22 := gs 22 (by decide) (by decide) (by decide) (by decide) (by decide) (by decide) (by decide) (by decide)
  refine ⟨tk_fr hT (cs 1 (by decide) (by decide) (by decide) (by decide)) (cs 13 (by decide) (by decide) (by decide) (by decide)) (cs 14 (by decide) (by decide) (by decide) (by decide)) (cs 15 (by decide) (by decide) (by decide) (by decide)) g1 g2 g3 g4 g6, ⟨h15, h53, by decide, fun j hj => absurd hj (Nat.not_lt_zero j), fun j hj => absurd hj (Nat.not_lt_zero j)⟩, ?_, ?_, fun j hj => absurd hj (Nat.not_lt_zero j), fun i hi => ?_⟩
  · unfold OUR ORR FLq NSm EOKm otk at hO ⊢
    rw [c5, c25, c26, c27, c28, c38, c39, kw 6 7 rfl rfl, g1, g3, g4, g9, g10, g11, g12, g13, g14, g15, g16, g17, g18, g19, g20, g21, g22, k 0 35 rfl rfl, k 0 36 rfl rfl, k 0 31 rfl rfl]
    exact hO
  · rw [kw 6 5 rfl rfl, k 0 37 rfl rfl]
    exact hD
  · rw [c26, c5]
    exact y2 i hi
/-- the reference: a function's body and its rows -/
theorem es_body {Q : St → St → List Nat → Prop} (hG : RGs kd vl n S m lo 1 σ) (hg : GMt σ n p) (c22 : kd p = 22)
    (kk : ∀ s t z p' gs s0 s1 S', EVq (fun N => STn kd vl N 1 1 (p + 1)) (some (p', gs)) → p < p' → GMt s n p' → RGs kd vl n 0 m lo 1 s → MNq σ s → TFq τ vs t z → Kp [(0, 55), (0, 56), (0, 57), (0, 58), (0, 59), (0, 10)] [] σ s0 → ((s0 0 55).toInt ≠ 0 ↔ a.toInt = -1) → s0 0 56 = a → (s0 0 57).toInt = 0 → WSq kd n m lo 1 0 S S' gs s0 s1 → ENr s1 s → (s 0 53).toInt = 0 → Q s t z) (kn : EVq (fun N => STn kd vl N 1 1 (p + 1)) none → F0) : pp_bodyOf a σ τ vs Q (fun _ _ _ => F0) := by
  unfold pp_bodyOf
  refine ⟨fun y => y.toInt ≠ 0 ↔ a.toInt = -1, fun y _ hy => ?_, fun c => ⟨fun h => absurd rfl h, fun h => absurd h c⟩, fun c => ⟨fun _ => c, fun _ => by decide⟩⟩
  have k0 : Kp [(0, 55), (0, 56), (0, 57), (0, 58), (0, 59), (0, 10)] [] σ (upC (upC (upC (upC (upC (upC σ 0 55 y) 0 56 a) 0 57 (0 : Int32)) 0 58 ((-1) : Int32)) 0 59 ((-1) : Int32)) 0 10 ((σ 0 10) + (1 : Int32))) := kp_f (kp_f (kp_f (kp_f (kp_f (kp_f kp_rf rfl) rfl) rfl) rfl) rfl) rfl
  have e55 : (upC (upC (upC (upC (upC (upC σ 0 55 y) 0 56 a) 0 57 (0 : Int32)) 0 58 ((-1) : Int32)) 0 59 ((-1) : Int32)) 0 10 ((σ 0 10) + (1 : Int32))) 0 55 = y := by rw [rdA_ne (by decide), rdA_ne (by decide), rdA_ne (by decide), rdA_ne (by decide), rdA_ne (by decide), rdA_eq rfl]
  have e56 : (upC (upC (upC (upC (upC (upC σ 0 55 y) 0 56 a) 0 57 (0 : Int32)) 0 58 ((-1) : Int32)) 0 59 ((-1) : Int32)) 0 10 ((σ 0 10) + (1 : Int32))) 0 56 = a := by rw [rdA_ne (by decide), rdA_ne (by decide), rdA_ne (by decide), rdA_ne (by decide), rdA_eq rfl]
  have e57 : ((upC (upC (upC (upC (upC (upC σ 0 55 y) 0 56 a) 0 57 (0 : Int32)) 0 58 ((-1) : Int32)) 0 59 ((-1) : Int32)) 0 10 ((σ 0 10) + (1 : Int32))) 0 57).toInt = 0 := by rw [rdA_ne (by decide), rdA_ne (by decide), rdA_ne (by decide), rdA_eq rfl]; rfl
  have g0 : GMt (upC (upC (upC (upC (upC (upC σ 0 55 y) 0 56 a) 0 57 (0 : Int32)) 0 58 ((-1) : Int32)) 0 59 ((-1) : Int32)) 0 10 ((σ 0 10) + (1 : Int32))) n (p + 1) := by
    have h1 := gm_up hG.1.1 hg (by rw [c22]; decide)
    refine ⟨?_, h1.2⟩
    rw [rdA_eq rfl]
    have h2 := h1.1
    rw [rdA_eq rfl] at h2
    exact h2
  generalize upC (upC (upC (upC (upC (upC σ 0 55 y) 0 56 a) 0 57 (0 : Int32)) 0 58 ((-1) : Int32)) 0 59 ((-1) : Int32)) 0 10 ((σ 0 10) + (1 : Int32)) = s0 at k0 e55 e56 e57 g0
  have e12 : s0 0 12 = σ 0 12 := k0 0 12 rfl rfl
  have hG0 : RGs kd vl n S m lo 1 s0 := by
    obtain ⟨h1, h2, h3, h4, h5⟩ := hG
    refine ⟨rgm_dd h1 (dd_k k0 rfl rfl) (by rw [e12]; exact rgq_0 h1), by rw [k0 0 54 rfl rfl]; exact h2, by rw [k0 0 49 rfl rfl]; exact h3, by rw [k0 0 15 rfl rfl]; exact h4, fun q hq => by rw [k0 6 q rfl rfl]; exact h5 q hq⟩
  refine ⟨fun s t z => ∃ (pc Sc : Nat) (gc : List Gsq), p + 1 ≤ pc ∧ GMt s n pc ∧ RGs kd vl n Sc m lo 1 s ∧ MNq s0 s ∧ s 0 57 = s0 0 57 ∧ TFq τ vs t z ∧ (∀ R, EVq (fun N => STn kd vl N 1 1 pc) R → EVq (fun N => STn kd vl N 1 1 (p + 1)) (R.map (fun r => (r.1, gc ++ r.2)))) ∧ WSq kd n m lo 1 0 S Sc gc s0 s, ⟨p + 1, S, [], Nat.le_refl _, g0, hG0, fun h => h, rfl, tf_rf, fun R hR => ?_, ws_nil ds_rf rfl rfl⟩, ?_⟩
  · cases R with
    | none => exact hR
    | some r => exact hR
  rintro s54 t54 z54 ⟨pc, Sc, gc, hp, gs, hGs, hm, h57, htf, hev, hW⟩
  refine mr_is1 hGs.1.1 gs (c := 23) (by decide) (by decide) (fun v57 hv57 => ⟨fun c => ?_, fun c => ?_⟩)
  · have k23 := hv57.1 c
    have ka : Kp [(0, 10)] [] s54 (upC s54 0 10 ((s54 0 10) + (1 : Int32))) := kp_f kp_rf rfl
    have ga := gm_up hGs.1.1 gs (by rw [k23]; decide)
    generalize upC s54 0 10 ((s54 0 10) + (1 : Int32)) = sa at ka ga
    refine ⟨fun s t z => t = t54 ∧ z = z54 ∧ Kp [(0, 17)] [8] sa s, ?_, fun _ => mr_put1 (fun s1 k1 => mr_put0 (fun s2 k2 => ⟨rfl, rfl, kp_tr k1 k2⟩)), fun _ => mr_put0 (fun s1 k1 => ⟨rfl, rfl, k1⟩)⟩
    rintro s109 t109 z109 ⟨et, ez, k109⟩
    rw [et, ez]
    have fin : ∀ sF, Kp [(0, 17), (0, 53), (0, 45)] [8, 26, 27, 28, 29, 30, 54] sa sF → (sF 0 53).toInt = 0 → Q sF t54 z54 := fun sF kF f53 => by
      have kE : ENr s54 sF := kp_tr (kp_sub ka rfl rfl) (kp_sub kF rfl rfl)
      refine kk sF t54 z54 (pc + 1) (gc ++ []) s0 s54 Sc (hev _ (sl_e k23)) (by omega) (gm_k ga (kF 0 10 rfl rfl)) (rg_end hGs kE f53) (fun hx => ?_) htf k0 (by rw [e55]; exact hy) e56 e57 (by rw [List.append_nil]; exact hW) kE f53
      rw [kE 0 12 rfl rfl]
      exact hm (by rw [e12]; exact hx)
    refine ⟨fun _ _ _ _ _ => ?_, fun _ => fin _ (kp_f (kp_sub k109 rfl rfl) rfl) (by rw [rdA_eq rfl]; rfl)⟩
    refine ⟨fun _ _ s t z => t = t54 ∧ z = z54 ∧ Kp [(0, 17), (0, 53)] [8, 26, 27, 28, 29] sa s ∧ (s 0 53).toInt = 0, ⟨rfl, rfl, kp_a (kp_a (kp_a (kp_a (kp_f (kp_sub k109 rfl rfl) rfl) rfl) rfl) rfl) rfl, ?_⟩, ?_⟩
    · rw [rdC_ne (by decide), rdC_ne (by decide), rdC_ne (by decide), rdC_ne (by decide), rdA_eq rfl]; rfl
    rintro x y s165 t165 z165 ⟨et2, ez2, k165, f53⟩
    rw [et2, ez2]
    refine ⟨fun _ _ _ => fin _ (kp_f (kp_a (kp_a (kp_sub k165 rfl rfl) rfl) rfl) rfl) (by rw [rdA_ne (by decide), rdC_ne (by decide), rdC_ne (by decide)]; exact f53), fun _ _ => ⟨fun _ => True, fun y2 _ _ => ⟨fun _ => True, fun y3 _ _ => mr_put1 (fun s224 k224 => ⟨fun _ => True, fun x4 _ => ⟨rfl, rfl, kp_tr k165 (kp_sub k224 rfl rfl), by rw [k224 0 53 rfl rfl]; exact f53⟩, fun _ => trivial, fun _ _ => trivial⟩), fun _ => trivial, fun _ => trivial⟩, True, fun _ => trivial, fun _ => trivial, fun _ _ => ⟨fun _ => trivial, fun _ => trivial⟩⟩⟩
  · have k23 : kd pc ≠ 23 := fun h => (hv57.2 h) c
    refine es_stmt1 (kd := kd) (vl := vl) (n := n) (m := m) (lo := lo) (d := 1) (p := pc) (a := (1 : Int32)) rfl (Nat.le_refl 1) (by decide) Sc s54 t54 z54 _ F0 hGs gs (by rw [h57, on_0]; omega) (fun s2 t2 z2 he => ?_) (fun hn => kn (hev none (sl_s k23 (ev_b0 hn))))
    obtain ⟨p1, S2, g1, h1, h2, h3, h4, h5, h6, h7, h8⟩ := he
    exact ⟨p1, S2, gc ++ g1, by omega, h3, h4, fun hx => h5 (hm hx), h6.trans h57, tf_tr htf h7, sl_step k23 h1 hev, ws_app hW (h8 0 (by rw [on_0]; exact Nat.zero_lt_one)) h5⟩
/-- the class's step of a function's name, beside the reference -/
theorem uf_step {rest : Prop} (hE : REq kd n 0 m lo w s1) (hf : (w 6 3).toInt = 0) (n1 : (s1 0 12).toInt = 0) (h15 : (s1 0 15).toInt = 0) (ha : a.toInt = (u : Int)) (hu : u ≤ n) (ku : kd u = 2) (hl : lk = 0 ∨ lk = 1 ∨ lk = 2) (hr : a2.toInt = rs) (hr5 : -1 ≤ rs ∧ rs ≤ 5) {b c : Int32} (hb : b.toInt = sgI l) (hc : (c.toInt = (rs + 1) * 8 + lk ∧ ¬ body) ∨ (c.toInt = (rs + 1) * 8 + lk + 4 ∧ body)) (hst3 : a3 = 0 ∨ a3 = 1) (hst : lk = 1 ↔ a3.toInt ≠ 0) (hl8 : l.length ≤ 8) (ht : Tyq l) (hrr : EFm s1 lo (lo + m) u rr) (hfn : FNf s1 s2 lo m u v a2 a3 body l rr) (hft : FTq s1 s3 (BFm s1 m lo a2 a3 body l rr)) (hgd : ¬ BFm s1 m lo a2 a3 body l rr → GFd s1 s3 u m lo m' a2 a3 body l rr)
    (kb : (s3 0 12).toInt ≠ 0 → ∀ s, (s 6 3).toInt ≠ 0 → Q s) (kk : ∀ s (d : Nat), d < 10100 → (s 6 3).toInt = 0 → (s3 0 12).toInt = 0 → REq kd n 0 m' lo s s3 → FUf w s u m d (rr = -1) a2 b (lk = 1) body → Q s) : pk_X1_function a b c w Q := by
  have hj : ∀ r : Nat, r < m → (JFw w ((w 5 1).toInt.toNat - m + r) a2 b (lk = 1) body ↔ JFm s1 (lo + r) a2 a3 body l) := fun r hr => jf_eq (hE.2.2.1.2.2.2.2.2 r hr) hl8 ht hb hst3 hst
  have hrm : ∀ r : Nat, rr = ((lo + r : Nat) : Int) → r < m := fun r hr => by
    rcases hrr with ⟨e, h1, h2, h3, h4, h5⟩ | ⟨h1, h2⟩
    · omega
    · omega
  have heq : BFw w m lo a2 b (lk = 1) body rr ↔ BFm s1 m lo a2 a3 body l rr := by
    unfold BFw BFm
    constructor
    · rintro (h | ⟨r, h1, h2⟩)
      · exact Or.inl h
      · exact Or.inr ⟨r, h1, fun hx => h2 ((hj r (hrm r h1)).2 hx)⟩
    · rintro (h | ⟨r, h1, h2⟩)
      · exact Or.inl h
      · exact Or.inr ⟨r, h1, fun hx => h2 ((hj r (hrm r h1)).1 hx)⟩
  have hlm : rr = -1 → m < 100 → lo + m < 10000 ∧ (s1 0 31).toInt + ((s1 4 u).toInt - (s1 3 u).toInt) ≤ 65536 := fun h hm => by
    rcases hfn with ⟨_, h100, _⟩ | ⟨_, _, h1, _, q, h2, _⟩ | ⟨r, h3, _⟩
    · omega
    · have := h2.2.2.1
      have := h2.2.2.2.1
      exact ⟨h1, by omega⟩
    · omega
  refine xf_function (rs := rs) (lk := lk) (res := a2) (stc := lk = 1) (body := body) hE hf ha hu ku hl hr5 hc hr Iff.rfl hrr hlm (fun hbf s h63 => kb (hft.2.2 (Or.inr ⟨heq.1 hbf, by omega⟩)) s h63) (fun nb s d q0 q1 hfu => ?_)
  have nb2 := fun h => nb (heq.2 h)
  have n3 : (s3 0 12).toInt = 0 := Decidable.byContradiction (fun hx => (hft.2.1 hx).elim (fun h => h n1) (fun h => nb2 h.1))
  have hq : rr = -1 ∨ ∃ r : Nat, r < m ∧ rr = ((lo + r : Nat) : Int) := by
    rcases hrr with ⟨e, h1, h2, h3, h4, h5⟩ | ⟨h1, h2⟩
    · exact Or.inr ⟨e - lo, by omega, by omega⟩
    · exact Or.inl h2
  have hd9 : d < 10100 := by
    have h1 := hE.2.2.1.2.2.2.1.1
    have h2 := hE.2.2.1.2.2.2.2.1.2.2.2.1
    rcases hq with h | ⟨r, _, h⟩
    · have := (q0 h).2
      omega
    · have := (q1 r h).1
      have := (q1 r h).2
      omega
  refine kk s d hd9 hfu.2.1 n3 (re_gfun hE hu ku hq q0 q1 hfu (fun r hr => ?_) (fun h => (hlm h (q0 h).1).1) hl8 ht hb (by omega) hst (hgd nb2)) hfu
  rw [(q1 r hr).2]
  exact Classical.byContradiction (fun h => nb (Or.inr ⟨r, hr, h⟩))
end FBD
