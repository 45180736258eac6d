/-! items of a unit -/
section ITM
variable {s σ τ : St} {kd vl : Nat → Int} {n m lo d p q ty : Nat} {vs : List Nat} {lk : Int} {F0 : Prop} {a : Int32}
theorem mr_isWord {Q : Int32 → Prop} {c : Nat} (tk : RTk σ kd n) (g : GMt σ n p) (hc : c ≤ 62) (ha : rkI (c : Int) = a.toInt) (k : ∀ v : Int32, (v = 0 ∨ v = 1) → (v.toInt ≠ 0 ↔ kd p = (c : Int)) → Q v) : pp_isWord a σ τ vs Q := by
  unfold pp_isWord
  have e : (σ 0 10).toNatClampNeg = p := nat_of g.1
  have r := rk_to tk g.2 c hc ha
  rw [e]
  exact fun _ => ⟨fun h => k 0 (Or.inl rfl) ⟨fun h0 => absurd rfl h0, fun h1 => absurd (r.2 h1) h⟩, fun h => k 1 (Or.inr rfl) ⟨fun _ => r.1 h, fun _ => by decide⟩⟩
theorem lkq_1 {k : Int} : lkq k = 1 ↔ k = 7 := by
  unfold lkq
  by_cases h : k = 7
  · rw [if_pos h]; exact ⟨fun _ => h, fun _ => rfl⟩
  · rw [if_neg h]
    by_cases h8 : k = 8
    · rw [if_pos h8]; omega
    · rw [if_neg h8]; omega
theorem lkq_2 {k : Int} : lkq k = 2 ↔ k = 8 := by
  unfold lkq
  by_cases h : k = 7
  · rw [if_pos h]; omega
  · rw [if_neg h]
    by_cases h8 : k = 8
    · rw [if_pos h8]; exact ⟨fun _ => h8, fun _ => rfl⟩
    · rw [if_neg h8]; omega
theorem lkq_r {k : Int} : lkq k = 0 ∨ lkq k = 1 ∨ lkq k = 2 := by
  unfold lkq
  by_cases h : k = 7
  · rw [if_pos h]; exact Or.inr (Or.inl rfl)
  · rw [if_neg h]
    by_cases h8 : k = 8
    · rw [if_pos h8]; exact Or.inr (Or.inr rfl)
    · rw [if_neg h8]; exact Or.inl rfl
theorem vn_eq (hs : SRq kd 5 p = some (ty, q)) (c : kd q = 2) : (fun N => VNn kd vl N lk p) = fun N => VSn kd vl N lk q ty (q + 1) := funext (fun N => by
  unfold VNn
  rw [hs]
  exact if_pos c)
theorem es_item {Q : St → St → List Nat → Prop} (hG : RGs kd vl n 0 m lo d σ) (hg : GMt σ n p)
    (kk : ∀ s t z p' m' d' g, EVq (fun N => I1n kd vl N (lkq (kd p)) (if lkq (kd p) = 0 then p else p + 1)) (some (p', g)) → p < p' → GMt s n p' → RGs kd vl n 0 m' lo d' s → MNq σ s → TFq τ vs t z → USq kd n m m' lo g σ s → Q s t z) (kn : EVq (fun N => I1n kd vl N (lkq (kd p)) (if lkq (kd p) = 0 then p else p + 1)) none → F0) : pp_item σ τ vs Q (fun _ _ _ => F0) := by
  unfold pp_item
  refine mr_isWord hG.1.1 hg (c := 7) (by decide) (by decide) (fun v3 h3 w3 => mr_isWord hG.1.1 hg (c := 8) (by decide) (by decide) (fun v10 h10 w10 => ?_))
  have hst : lkq (kd p) = 1 ↔ v3.toInt ≠ 0 := ⟨fun h => w3.2 (lkq_1.1 h), fun h => lkq_1.2 (w3.1 h)⟩
  have hex : lkq (kd p) = 2 ↔ v10.toInt ≠ 0 := ⟨fun h => w10.2 (lkq_2.1 h), fun h => lkq_2.2 (w10.1 h)⟩
  have hl : lkq (kd p) = 0 ∨ lkq (kd p) = 1 ∨ lkq (kd p) = 2 := lkq_r
  have h0 : kd p = 7 ∨ kd p = 8 → ¬ lkq (kd p) = 0 := fun h hx => by
    rcases h with h | h
    · have := lkq_1.2 h; omega
    · have := lkq_2.2 h; omega
  have h1 : ¬ (kd p = 7 ∨ kd p = 8) → lkq (kd p) = 0 := fun h => by
    rcases hl with h' | h' | h'
    · exact h'
    · exact absurd (Or.inl (lkq_1.1 h')) h
    · exact absurd (Or.inr (lkq_2.1 h')) h
  generalize hp1 : (if lkq (kd p) = 0 then p else p + 1) = p1 at kk kn
  have hpp : p ≤ p1 := by rw [← hp1]; split <;> omega
  generalize lkq (kd p) = lk at hst hex hl kk kn h0 h1 hp1
  refine ⟨fun s t z => t = τ ∧ z = vs ∧ GMt s n p1 ∧ Kp [(0, 10)] [] σ s, ?_, kd p = 7 ∨ kd p = 8, fun hj => ⟨rfl, rfl, ?_, kp_f kp_rf rfl⟩, fun c => Or.inl (w3.1 c), fun c3 => ⟨fun c10 => ⟨rfl, rfl, ?_, kp_rf⟩, fun c => Or.inr (w10.1 c)⟩⟩
  rotate_left
  · rw [← hp1, if_neg (h0 hj)]
    exact gm_up hG.1.1 hg (by rcases hj with h | h <;> omega)
  · have : ¬ (kd p = 7 ∨ kd p = 8) := fun h => by
      rcases h with h | h
      · exact (w3.2 h) c3
      · exact (w10.2 h) c10
    rw [← hp1, if_pos (h1 this)]
    exact hg
  rintro s t z ⟨et, ez, g1, k1⟩
  rw [et, ez]
  have tk1 : RTk s kd n := rtk_k k1 (fun _ => rfl) rfl hG.1.1
  have en1 : (s 0 10).toNatClampNeg = p1 := nat_of g1.1
  have r6 : (s 2 p1).toInt = 6 ↔ kd p1 = 6 := rk_to tk1 g1.2 6 (by decide) (j := 6) (by decide)
  have r5 : (s 2 p1).toInt = 5 ↔ kd p1 = 5 := rk_to tk1 g1.2 5 (by decide) (j := 5) (by decide)
  have hn16 := tk1.1
  -- what stands behind, in any state that differs by the place alone
  have go : ∀ s', Kp [(0, 10)] [] σ s' → RGs kd vl n 0 m lo d s' ∧ s' 0 12 = σ 0 12 ∧ DDq σ s' := fun s' k' => by
    have e12 : s' 0 12 = σ 0 12 := k' 0 12 rfl rfl
    have dd := ds_k k' rfl rfl
    exact ⟨rg_ds hG dd (by rw [e12]; exact rgq_0 hG.1), e12, dd.1⟩
  have fin : ∀ s', Kp [(0, 10)] [] σ s' → ∀ s2 t2 z2 p' m' d' g, EVq (fun N => I1n kd vl N lk p1) (some (p', g)) → p < p' → GMt s2 n p' → RGs kd vl n 0 m' lo d' s2 → MNq s' s2 → TFq τ vs t2 z2 → USq kd n m m' lo g s' s2 → Q s2 t2 z2 := fun s' k' s2 t2 z2 p' m' d' g hev hp hgm hR hm htf hu => by
    obtain ⟨_, e12, dd⟩ := go s' k'
    exact kk s2 t2 z2 p' m' d' g hev hp hgm hR (fun hx => hm (by rw [e12]; exact hx)) htf (us_src dd e12 hu)
  have func : ∀ (a1 a2 : Int32) (u q : Nat) (rs : Int) (s' : St), a1.toInt = (u : Int) → u ≤ n → kd u = 2 → a2.toInt = rs → -1 ≤ rs ∧ rs ≤ 5 → Kp [(0, 10)] [] σ s' → GMt s' n q → p < q → (∀ R, EVq (fun N => FUn kd vl N lk rs u q) R → EVq (fun N => I1n kd vl N lk p1) R) → pp_function a1 a2 v3 s' τ vs (fun s185 t185 z185 => Q s185 t185 z185) (fun _ _ _ => F0) := fun a1 a2 u q rs s' ha1 hun ku ha2 hrs k' g' hpq hI => by
    obtain ⟨hG', e12, dd⟩ := go s' k'
    exact es_function ha1 hun ku ha2 hrs h3 hl hst hG' g' (fun s2 t2 z2 p' m' d' g hev hp hgm hR hm htf hu => fin s' k' s2 t2 z2 p' m' d' g (hI _ hev) (by omega) hgm hR hm htf hu) (fun hn => kn (hI _ hn))
  rw [en1]
  refine fun _ => ⟨fun n6 => ?_, fun c6 => ?_⟩
  rotate_left
  · have k6 := r6.1 c6
    have ga := gm_up tk1 g1 (by omega)
    have ka : Kp [(0, 10)] [] s (upC s 0 10 ((s 0 10) + (1 : Int32))) := kp_f kp_rf rfl
    have e1 : ((s 0 10) + (1 : Int32)).toInt = ((p1 + 1 : Nat) : Int) := by rw [ad1 (by have := g1.1; have := g1.2; omega), g1.1]; rfl
    have n1 : ((s 0 10) + (1 : Int32)).toNatClampNeg = p1 + 1 := nat_of e1
    have r2 : (s 2 (p1 + 1)).toInt = 2 ↔ kd (p1 + 1) = 2 := rk_to tk1 ga.2 2 (by decide) (j := 2) (by decide)
    rw [n1]
    refine fun _ => ⟨fun c2 => ?_, fun c2 => ?_⟩
    · have k2 := r2.1 c2
      have gb := gm_up (rtk_k ka (fun _ => rfl) rfl tk1) ga (by omega)
      have eb : upC (upC s 0 10 ((s 0 10) + (1 : Int32))) 0 10 (((upC s 0 10 ((s 0 10) + (1 : Int32))) 0 10) + (1 : Int32)) = upC (upC s 0 10 ((s 0 10) + (1 : Int32))) 0 10 (((s 0 10) + (1 : Int32)) + (1 : Int32)) := by rw [rdA_eq rfl]
      rw [eb] at gb
      exact func _ _ (p1 + 1) (p1 + 2) (-1) _ e1 ga.2 k2 (by decide) (by decide) (kp_tr k1 (kp_tr ka (kp_f kp_rf rfl))) gb (by omega) (fun R h => i1_v k6 k2 h)
    · have k2 : kd (p1 + 1) ≠ 2 := fun h => c2 (r2.2 h)
      unfold pp_wrong pp_wrongAt
      exact fun _ => kn (i1_v0 k6 k2)
  have k6 : kd p1 ≠ 6 := fun h => n6 (r6.2 h)
  refine fun _ => ⟨fun c5 => ?_, fun n5 => ?_⟩
  rotate_left
  · have k5 : kd p1 ≠ 5 := fun h => n5 (r5.2 h)
    unfold pp_wrong pp_wrongAt
    exact fun _ => kn (i1_0 k6 k5)
  have k5 := r5.1 c5
  have ga := gm_up tk1 g1 (by omega)
  have e1 : ((s 0 10) + (1 : Int32)).toInt = ((p1 + 1 : Nat) : Int) := by rw [ad1 (by have := g1.1; have := g1.2; omega), g1.1]; rfl
  have ka : Kp [(0, 10)] [] s (upC s 0 10 ((s 0 10) + (1 : Int32))) := kp_f kp_rf rfl
  generalize upC s 0 10 ((s 0 10) + (1 : Int32)) = sa at ga ka
  have tka : RTk sa kd n := rtk_k ka (fun _ => rfl) rfl tk1
  have ksa : Kp [(0, 10)] [] σ sa := kp_tr k1 ka
  refine mr_stars tka ga (fun y s131 i q hy hi hs hq g131 k131 => ?_) (fun hs => kn (i1_s0 k5 hs))
  have tk131 : RTk s131 kd n := rtk_k k131 (fun _ => rfl) rfl tka
  have en : (s131 0 10).toNatClampNeg = q := nat_of g131.1
  have r2 : (s131 2 q).toInt = 2 ↔ kd q = 2 := rk_to tk131 g131.2 2 (by decide) (j := 2) (by decide)
  have kb : Kp [(0, 10)] [] σ s131 := kp_tr ksa k131
  rw [en]
  refine fun _ => ⟨fun c2 => ?_, fun c2 => ?_⟩
  rotate_left
  · have k2 : kd q ≠ 2 := fun h => c2 (r2.2 h)
    unfold pp_wrong pp_wrongAt
    exact fun _ => kn (i1_s1 k5 hs k2)
  have k2 := r2.1 c2
  have gq := gm_up tk131 g131 (by omega)
  have kq : Kp [(0, 10)] [] s131 (upC s131 0 10 ((s131 0 10) + (1 : Int32))) := kp_f kp_rf rfl
  generalize upC s131 0 10 ((s131 0 10) + (1 : Int32)) = sq at gq kq
  have tkq : RTk sq kd n := rtk_k kq (fun _ => rfl) rfl tk131
  have kσq : Kp [(0, 10)] [] σ sq := kp_tr kb kq
  refine mr_is1 tkq gq (c := 20) (by decide) (by decide) (fun v173 w173 => ⟨fun cv => ?_, fun cv => ?_⟩)
  · have c20 : kd (q + 1) ≠ 20 := fun h => (w173.2 h) cv
    have kr : Kp [(0, 10)] [] σ (upC sq 0 10 ((s 0 10) + (1 : Int32))) := kp_tr kσq (kp_f kp_rf rfl)
    have gr : GMt (upC sq 0 10 ((s 0 10) + (1 : Int32))) n (p1 + 1) := ⟨by rw [rdA_eq rfl]; exact e1, ga.2⟩
    generalize upC sq 0 10 ((s 0 10) + (1 : Int32)) = sr at kr gr
    obtain ⟨hG', e12, dd⟩ := go sr kr
    have hI : ∀ R, EVq (fun N => VNn kd vl N lk (p1 + 1)) R → EVq (fun N => I1n kd vl N lk p1) R := fun R h => i1_w k5 hs k2 c20 (by rw [vn_eq hs k2] at h; exact h)
    exact es_uvars h3 hl hst hex hG' gr (fun s2 t2 z2 p' m' g hev hp hgm hR hm htf hu => fin sr kr s2 t2 z2 p' m' d g (hI _ hev) (by omega) hgm hR hm htf hu) (fun hn => kn (hI _ hn))
  · have c20 := w173.1 cv
    exact func _ _ q (q + 1) (i : Int) sq g131.1 g131.2 k2 hy (by omega) kσq gq (by omega) (fun R h => i1_f k5 hs k2 c20 h)
end ITM
