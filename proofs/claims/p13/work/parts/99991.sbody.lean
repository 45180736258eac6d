/-! statements: breaks, returns, scopes, lists, loops -/
section SBD
variable {w s r σ σ' σ0 σ1 σ2 σ3 τ t : St} {kd vl : Nat → Int} {n S S1 S2 m lo d O p q k : Nat} {vs z : List Nat} {g g1 g2 gc : List Gsq} {l : List Stq} {F0 : Prop} {a : Int32} {Q : St → Prop} {ky ty h zz f i : Int} {x : Int32}
theorem on_2 : onq 2 d = d + 1 := rfl
theorem on_0 : onq 0 d = d := rfl
theorem on_1 : onq 1 d = d := rfl
theorem xs_brk (hO : (w 9 5).toInt = (O : Int)) (hO9 : O ≤ 26) (h0 : (w 6 3).toInt = 0) (kk : ∀ s, Kp [(4, 1), (6, 3), (6, 4)] [24, 51] w s → ((s 6 3).toInt ≠ 0 ↔ ¬ ∃ i, i < O ∧ (w 49 i).toInt ≠ 0) → Q s) : pk_X7_leave_r51 a w Q := by
  unfold pk_X7_leave_r51
  refine ⟨fun x => ∃ j : Nat, x.toInt = (j : Int) - 1 ∧ j ≤ O ∧ ∀ i, j ≤ i → i < O → (w 49 i).toInt = 0, ⟨O, by rw [sb1 (by omega), hO], Nat.le_refl O, fun i h1 h2 => absurd h2 (Nat.not_lt.mpr h1)⟩, ?_⟩
  rintro x ⟨j, hx, hj, hz⟩
  refine ⟨0 ≤ x.toInt → (w 49 (j - 1)).toInt ≠ 0, fun hJ => ⟨fun c => xl_emit (fun v s ks => kk _ (kp_F (kp_sub ks rfl rfl) rfl) ?_), fun c => xl_fail (by decide) (fun s ks hs => kk s (kp_sub ks rfl rfl) ?_)⟩, fun c hc => absurd hc (by omega), fun c => ?_⟩
  · rw [rdF_ne (by decide), ks 6 3 rfl rfl]
    exact ⟨fun hx => absurd h0 hx, fun hx => absurd ⟨j - 1, by omega, hJ c⟩ hx⟩
  · exact ⟨fun _ ⟨i, i1, i2⟩ => i2 (hz i (by omega) i1), fun _ => hs⟩
  · rw [atv_at (j := j - 1) (by rw [hx]; omega) (by omega)]
    refine ⟨fun h1 _ => h1, fun h1 => ⟨j - 1, by rw [dc1 (by omega), hx]; omega, by omega, fun i i1 i2 => ?_⟩⟩
    by_cases ci : i = j - 1
    · rw [ci]
      exact h1
    · exact hz i (by omega) i2
theorem xs_cont (hO : (w 9 5).toInt = (O : Int)) (hO9 : O ≤ 26) (h0 : (w 6 3).toInt = 0) (kk : ∀ s, Kp [(4, 1), (6, 3), (6, 4)] [24, 52] w s → ((s 6 3).toInt ≠ 0 ↔ ¬ ∃ i, i < O ∧ (w 49 i).toInt ≠ 0) → Q s) : pk_X7_leave_r52 a w Q := by
  unfold pk_X7_leave_r52
  refine ⟨fun x => ∃ j : Nat, x.toInt = (j : Int) - 1 ∧ j ≤ O ∧ ∀ i, j ≤ i → i < O → (w 49 i).toInt = 0, ⟨O, by rw [sb1 (by omega), hO], Nat.le_refl O, fun i h1 h2 => absurd h2 (Nat.not_lt.mpr h1)⟩, ?_⟩
  rintro x ⟨j, hx, hj, hz⟩
  refine ⟨0 ≤ x.toInt → (w 49 (j - 1)).toInt ≠ 0, fun hJ => ⟨fun c => xl_emit (fun v s ks => kk _ (kp_F (kp_sub ks rfl rfl) rfl) ?_), fun c => xl_fail (by decide) (fun s ks hs => kk s (kp_sub ks rfl rfl) ?_)⟩, fun c hc => absurd hc (by omega), fun c => ?_⟩
  · rw [rdF_ne (by decide), ks 6 3 rfl rfl]
    exact ⟨fun hx => absurd h0 hx, fun hx => absurd ⟨j - 1, by omega, hJ c⟩ hx⟩
  · exact ⟨fun _ ⟨i, i1, i2⟩ => i2 (hz i (by omega) i1), fun _ => hs⟩
  · rw [atv_at (j := j - 1) (by rw [hx]; omega) (by omega)]
    refine ⟨fun h1 _ => h1, fun h1 => ⟨j - 1, by rw [dc1 (by omega), hx]; omega, by omega, fun i i1 i2 => ?_⟩⟩
    by_cases ci : i = j - 1
    · rw [ci]
      exact h1
    · exact hz i (by omega) i2
/-- a break or a continue -/
theorem ws_leave {y : Int} (hy : y = 36 ∨ y = 37) (hO9 : O ≤ 26) (r : DSw σ σ') (e57 : σ' 0 57 = σ 0 57) (hf' : (σ 0 12).toInt = 0 → ((σ' 0 12).toInt ≠ 0 ↔ ¬ 0 < (σ 0 57).toInt)) : WSq kd n m lo d O S S [gq (stp y p)] σ σ' := by
  intro h0 w hR hf
  have main : ∀ s, Kp [(4, 1), (6, 3), (6, 4)] [24, 51, 52] w s → ((s 6 3).toInt ≠ 0 ↔ ¬ ∃ i, i < O ∧ (w 49 i).toInt ≠ 0) → ((s 6 3).toInt ≠ 0 → (σ' 0 12).toInt ≠ 0) ∧ ((s 6 3).toInt = 0 → (σ' 0 12).toInt = 0 ∧ RSq kd n S m lo d O 0 s σ' ∧ ∀ i, i < O → s 49 i = w 49 i) := fun s ks hs => by
    have hl : (s 6 3).toInt ≠ 0 ↔ (σ' 0 12).toInt ≠ 0 := by rw [hs, hR.2.2, hf' h0]
    exact ⟨hl.1, fun hx => ⟨Decidable.byContradiction (fun hn => hl.2 hn hx), ⟨ro_cs hR.1 (cs_w (sw_k ks rfl rfl)) r (by rw [ks 7 7 rfl rfl]; exact hR.1.2.1), lp_at hR.2 (by rw [ks 9 5 rfl rfl]; exact hR.2.1) (fun i _ => ks 49 i rfl rfl) e57⟩, fun i _ => ks 49 i rfl rfl⟩⟩
  rcases hy with rfl | rfl
  · exact gv_s (by simp [stp]) (fun _ a b e0 e1 e2 => x7_brk e0 (by simp [stp]) (xs_brk hR.2.1 hO9 hf (fun s ks hs => main s (kp_sub ks rfl rfl) hs))) (fun hx => absurd hf hx)
  · exact gv_s (by simp [stp]) (fun _ a b e0 e1 e2 => x7_cont e0 (by simp [stp]) (xs_cont hR.2.1 hO9 hf (fun s ks hs => main s (kp_sub ks rfl rfl) hs))) (fun hx => absurd hf hx)
/-- a return, without and with a value -/
theorem sa_38 (h0 : (w 6 3).toInt = 0) : SAq (stp 38 p) w (fun s => Kp [(4, 1), (6, 3), (6, 4)] [24] w s ∧ ((s 6 3).toInt ≠ 0 ↔ (atv 10100 (w 26) (w 6 6)).toInt ≠ -1)) := fun a b e0 e1 e2 => x7_ret e0 (by simp [stp]) (fun y hy => by
  have y0 : y.toInt = 0 := Decidable.byContradiction (fun c => (hy.1 c) e2)
  unfold pk_X7_giveBack
  refine ⟨fun v => (v.toInt ≠ 0 ↔ (atv 10100 (w 26) (w 6 6)).toInt = -1), fun v _ hv => ?_, fun c => ⟨fun hx => absurd rfl hx, fun hx => absurd hx c⟩, fun c => ⟨fun _ => c, fun _ => by decide⟩⟩
  refine ⟨fun v2 s => (v2.toInt ≠ 0 ↔ (atv 10100 (w 26) (w 6 6)).toInt = -1) ∧ Kp [(4, 1)] [24] w s, fun v2 s _ hv2 => ?_, fun _ => xl_emit (fun _ s ks => ⟨hv, ks⟩), fun c => absurd y0 c⟩
  refine xl_emit (fun _ s2 k2 => ?_)
  have kk := kp_tr hv2.2 k2
  refine ⟨fun c => ⟨kp_sub kk rfl rfl, ?_⟩, fun c => xl_fail (by decide) (fun s3 k3 f3 => ⟨kp_tr (kp_sub kk rfl rfl) (kp_sub k3 rfl rfl), fun _ hx => absurd c (hv2.1.2 hx), fun _ => f3⟩)⟩
  rw [kk 6 3 rfl rfl]
  exact ⟨fun hx => absurd h0 hx, fun hx => absurd (hv2.1.1 c) hx⟩)
theorem sa_38c (hc : (w 7 7).toInt = 1) (h0 : (w 6 3).toInt = 0) (hA : AVq w 65 ky ty h zz f x i) (hk : 0 ≤ ky ∧ ky ≤ 3) : SAq (38, p, 1, 0) w (fun s => STx 0 w s ∧ (s 7 7).toInt = 0 ∧ ((s 6 3).toInt ≠ 0 ↔ ¬ ((ty = (atv 10100 (w 26) (w 6 6)).toInt ∧ (atv 10100 (w 26) (w 6 6)).toInt ≠ -1) ∨ (0 < (atv 10100 (w 26) (w 6 6)).toInt ∧ zz ≠ 0)))) := fun a b e0 e1 e2 => x7_ret e0 (by simp) (fun y hy => by
  have y1 : y.toInt ≠ 0 := hy.2 (by rw [e2]; simp)
  unfold pk_X7_giveBack
  refine ⟨fun v => True, fun v _ _ => ?_, fun c => trivial, fun c => trivial⟩
  refine ⟨fun v2 s => (v2.toInt ≠ 0 ↔ ((ty = (atv 10100 (w 26) (w 6 6)).toInt ∧ (atv 10100 (w 26) (w 6 6)).toInt ≠ -1) ∨ (0 < (atv 10100 (w 26) (w 6 6)).toInt ∧ zz ≠ 0))) ∧ STx 0 w s ∧ s 6 3 = w 6 3 ∧ (s 7 7).toInt = 0, fun v2 s _ hv2 => ?_, fun c => absurd c y1, fun _ => xl_pop (j := 0) (by rw [hc]; rfl) (by omega) hA hk (fun s ks e6 e7 hA2 => xl_fits hA2.2.1 hA2.2.2.2.1 (fun v hv1 hv2 => ⟨?_, ks, e6, e7⟩))⟩
  · obtain ⟨g1, g2, g3, g4⟩ := hv2
    refine xl_emit (fun _ s2 k2 => ⟨fun c => ⟨stq_tr g2 (stq_kp (kp_sub k2 rfl rfl)), by rw [k2 7 7 rfl rfl]; exact g4, ?_⟩, fun c => xl_fail (by decide) (fun s3 k3 f3 => ⟨stq_tr g2 (stq_tr (stq_kp (kp_sub k2 rfl rfl)) (stq_kp (kp_sub k3 rfl rfl))), by rw [k3 7 7 rfl rfl, k2 7 7 rfl rfl]; exact g4, fun _ hx => absurd c (g1.2 hx), fun _ => f3⟩)⟩)
    rw [k2 6 3 rfl rfl, g3]
    exact ⟨fun hx => absurd h0 hx, fun hx => absurd (g1.1 c) hx⟩
  · rw [← hv2]
    rcases hv1 with e | e
    · rw [e]; decide
    · rw [e]; decide)
theorem mr_aimAll {Q : St → St → List Nat → Prop} {b : Int32} (kk : ∀ s, Kp [] [8] σ s → Q s τ vs) : pp_aimAll a b σ τ vs Q := by
  unfold pp_aimAll
  refine ⟨fun _ s t z => t = τ ∧ z = vs ∧ Kp [] [8] σ s, ⟨rfl, rfl, kp_rf⟩, ?_⟩
  rintro x s t z ⟨rfl, rfl, ks⟩
  exact ⟨fun _ => kk s ks, fun _ _ _ => ⟨rfl, rfl, kp_a ks rfl⟩⟩
theorem ws_scope (k54 : Kp [(0, 10), (0, 54)] [] σ σ1) (e54 : (σ1 0 54).toInt = (d : Int) + 1) (hd : d < 52) (hW : WSq kd n m lo (d + 1) O S S1 g σ1 σ2) (hk : k ≤ S1) (kr2 : Kp [(0, 53), (0, 54)] [] σ2 σ3) (e53 : (σ3 0 53).toInt = (k : Int)) (e54' : (σ3 0 54).toInt = (d : Int)) (hj1 : ∀ j, k ≤ j → j < S1 → (σ2 36 j).toInt = (d : Int) + 1) (hj2 : 0 < k → (σ2 36 (k - 1)).toInt ≠ (d : Int) + 1) : WSq kd n m lo d O S k ([gq (stp 20 p)] ++ g ++ [gq (stp 21 q)]) σ σ3 := by
  intro h0 w hR hf
  rw [List.append_assoc]
  refine gv_app (gv_s (x := stp 20 p) (by simp [stp]) (fun _ => sa_20 hR.1.2.2.1.1 hd (fun s1 ks e17 e45 => ?_)) (fun hx => absurd hf hx))
  have hR1 := ro_open hR.1 ks e17 e45 k54 e54
  have hL : LPq O s1 σ1 := lp_at hR.2 (by rw [ks 9 5 rfl rfl]; exact hR.2.1) (fun i _ => ks 49 i rfl rfl) (k54 0 57 rfl rfl)
  refine gv_app (gv_mono (hW (by rw [k54 0 12 rfl rfl]; exact h0) s1 ⟨hR1, hL⟩ (by rw [ks 6 3 rfl rfl]; exact hf)) (fun s3 hs => ?_) (fun hx => by rw [kr2 0 12 rfl rfl]; exact hx))
  by_cases c0 : (s3 6 3).toInt = 0
  · obtain ⟨a1, a2, a3⟩ := hs.2 c0
    refine gv_s (x := stp 21 q) (by simp [stp]) (fun _ => sa_21 (d := d) (by rw [a2.1.2.2.1.1]; rfl) hd (fun s4 k4 e17' e15 => ⟨fun hx => absurd (by rw [k4 6 3 rfl rfl]; exact c0) hx, fun _ => ⟨by rw [kr2 0 12 rfl rfl]; exact a1, ⟨ro_close a2.1 hk k4 e17' e15 kr2 e53 e54' hj1 hj2, lp_at a2.2 (by rw [k4 9 5 rfl rfl]; exact a2.2.1) (fun i _ => k4 49 i rfl rfl) (kr2 0 57 rfl rfl)⟩, fun i hi => by rw [k4 49 i rfl rfl, a3 i hi, ks 49 i rfl rfl]⟩⟩)) (fun hx => absurd c0 hx)
  · have : (σ3 0 12).toInt ≠ 0 := by rw [kr2 0 12 rfl rfl]; exact hs.1 c0
    exact gv_bad c0 this (fun s' h => ⟨fun _ => this, fun hx => absurd hx h⟩)
theorem sl_step {pc p1 : Nat} (c : kd pc ≠ 23) (h1 : EVq (fun N => STn kd vl N 0 d pc) (some (p1, g1))) (hh : ∀ R, EVq (fun N => STn kd vl N 1 d pc) R → EVq (fun N => STn kd vl N 1 d p) (R.map (fun r => (r.1, gc ++ r.2)))) : ∀ R, EVq (fun N => STn kd vl N 1 d p1) R → EVq (fun N => STn kd vl N 1 d p) (R.map (fun r => (r.1, (gc ++ g1) ++ r.2))) := by
  intro R hR
  cases R with
  | none => exact hh none (sl_s c (ev_b h1 (ev_b0 hR)))
  | some r =>
    have := hh (some (r.1, g1 ++ r.2)) (sl_s c (ev_b h1 (ev_b hR ev_c)))
    rw [show ((some r).map (fun r : Nat × List Gsq => (r.1, (gc ++ g1) ++ r.2))) = some (r.1, gc ++ (g1 ++ r.2)) from by rw [← List.append_assoc]; rfl]
    exact this
variable {Kstatement Kinner Kblock : Int32 → St → St → List Nat → (St → St → List Nat → Prop) → (St → St → List Nat → Prop) → Prop} {Kloop : Int32 → Int32 → Int32 → St → St → List Nat → (St → St → List Nat → Prop) → (St → St → List Nat → Prop) → Prop} {KdoStatement KforStatement : Int32 → Int32 → St → St → List Nat → (St → St → List Nat → Prop) → (St → St → List Nat → Prop) → Prop}
theorem es_inner (ha : a.toInt = (d : Int)) (hd : d ≤ 25) (hK : ∀ v : Int32, v.toInt = (d : Int) + 1 → ∀ p, SWr kd vl n m lo 0 (d + 1) p (Kstatement v)) : SWr kd vl n m lo 2 d p (pp_inner Kstatement Kinner Kblock Kloop KdoStatement KforStatement a) := by
  intro S σ τ vs Q F hG hg h57 kk kn
  unfold pp_inner
  have k54 : Kp [(0, 54)] [] σ (upC σ 0 54 ((σ 0 54) + (1 : Int32))) := kp_f kp_rf rfl
  have e54 : ((upC σ 0 54 ((σ 0 54) + (1 : Int32))) 0 54).toInt = (d : Int) + 1 := by rw [rdA_eq rfl, ad1 (by rw [hG.2.1]; omega), hG.2.1]
  refine hK (a + (1 : Int32)) (by rw [ad1 (by omega), ha]) p S _ τ vs _ F (rg_open hG (kp_sub k54 rfl rfl) e54) (gm_k hg (k54 0 10 rfl rfl)) (by rw [k54 0 57 rfl rfl]; exact h57) (fun s t z he => ?_) (fun hn => kn (st_b (ev_b0 hn)))
  obtain ⟨p', S', g, h1, h2, h3, h4, h5, h6, h7, h8⟩ := he
  refine mr_close h4.1.2.2.2.1.1 h4.1.2.2.2.1.2.1 (by rw [h4.2.1]; rfl) (fun s2 k kr2 hk e53 e54' hj1 hj2 => kk s2 t z ⟨p', k, [gq (stp 20 p)] ++ g ++ [gq (stp 21 p')], st_b (ev_b h1 ev_c), h2, gm_k h3 (kr2 0 10 rfl rfl), rg_close h4 hk kr2 e53 e54', fun hx => ?_, ?_, h7, fun O hO => ws_scope (kp_sub k54 rfl rfl) e54 (by omega) (h8 O hO) hk kr2 e53 e54' hj1 hj2⟩)
  · rw [kr2 0 12 rfl rfl]
    exact h5 (by rw [k54 0 12 rfl rfl]; exact hx)
  · rw [kr2 0 57 rfl rfl, h6, k54 0 57 rfl rfl]
end SBD
