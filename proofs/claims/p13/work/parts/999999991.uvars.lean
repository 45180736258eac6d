/-! the unit: variables, one behind the other; heads of functions -/
section UVA
variable {w s r σ σ' σ1 σ2 τ t : St} {kd vl : Nat → Int} {n m m' m1 m2 lo d p : Nat} {vs z : List Nat} {g g2 : List Gsq} {lk : Int} {F0 : Prop} {a1 a2 a3 : Int32}
theorem us_nil (dd : DDq σ σ') (e12 : σ' 0 12 = σ 0 12) : USq kd n m m lo [] σ σ' := fun h0 w hR hf => ⟨fun hx => absurd hf hx, fun _ => ⟨by rw [e12]; exact h0, re_cd hR.1 cd_rf dd, hR.2⟩⟩
theorem us_src (dd : DDq σ σ1) (e12 : σ1 0 12 = σ 0 12) (h : USq kd n m m' lo g σ1 σ') : USq kd n m m' lo g σ σ' := fun h0 w hR hf => h (by rw [e12]; exact h0) w ⟨re_cd hR.1 cd_rf dd, hR.2⟩ hf
theorem us_ref (h : USq kd n m m' lo g σ σ1) (dd : DDq σ1 σ') (e12 : σ' 0 12 = σ1 0 12) : USq kd n m m' lo g σ σ' := fun h0 w hR hf => by
  rw [e12]
  exact gv_mono (h h0 w hR hf) (fun s hs => ⟨hs.1, fun c => ⟨(hs.2 c).1, re_cd (hs.2 c).2.1 cd_rf dd, (hs.2 c).2.2⟩⟩) id
theorem us_app (h1 : USq kd n m m1 lo g σ σ1) (h2 : USq kd n m1 m2 lo g2 σ1 σ2) (hm : MNq σ1 σ2) : USq kd n m m2 lo (g ++ g2) σ σ2 := by
  intro h0 w hR hf
  refine gv_app (gv_mono (h1 h0 w hR hf) (fun s hs => ?_) hm)
  by_cases c0 : (s 6 3).toInt = 0
  · obtain ⟨g1, g2'⟩ := hs.2 c0
    exact h2 g1 s g2' c0
  · have := hm (hs.1 c0)
    exact gv_bad c0 this (fun s' h => ⟨fun _ => this, fun hx => absurd hx h⟩)
/-- variables of the unit, behind the int -/
theorem es_uvars {Q : St → St → List Nat → Prop} (hst3 : a1 = 0 ∨ a1 = 1) (hl : lk = 0 ∨ lk = 1 ∨ lk = 2) (hst : lk = 1 ↔ a1.toInt ≠ 0) (hex : lk = 2 ↔ a2.toInt ≠ 0) (hG : RGs kd vl n 0 m lo d σ) (hg : GMt σ n p)
    (kk : ∀ s t z p' m' g, EVq (fun N => VNn kd vl N lk p) (some (p', g)) → p < p' → GMt s n p' → RGs kd vl n 0 m' lo d s → MNq σ s → TFq τ vs t z → USq kd n m m' lo g σ s → Q s t z) (kn : EVq (fun N => VNn kd vl N lk p) none → F0) : pp_variables a1 a2 (0 : Int32) σ τ vs Q (fun _ _ _ => F0) := by
  refine vars_loop (n := n) (lk := lk) (p0 := p) (I := fun p g s t z => ∃ m', GMt s n p ∧ RGs kd vl n 0 m' lo d s ∧ MNq σ s ∧ TFq τ vs t z ∧ USq kd n m m' lo g σ s) (fun p g s t z h => ?_) (fun p p' g s s' t z h k g' => ?_) (fun p g s t z a v u ty Q h hau hvt hty ku hu hup k1 k0 => ?_) ⟨m, hg, hG, id, tf_rf, us_nil dd_rf rfl⟩ (fun p' g s t z hev hp hI => ?_) kn
  · obtain ⟨m', h1, h2, _⟩ := h
    exact ⟨h2.1.1, h1⟩
  · obtain ⟨m', h1, h2, h3, h4, h5⟩ := h
    have e : s' 0 12 = s 0 12 := k 0 12 rfl rfl
    have dd := ds_k k rfl rfl
    exact ⟨m', g', rg_ds h2 dd (by rw [e]; exact rgq_0 h2.1), fun hx => by rw [e]; exact h3 hx, h4, us_ref h5 dd.1 e⟩
  · obtain ⟨m', i1, i2, i3, i4, i5⟩ := h
    refine es_gvar hau hu ku hvt hty rfl hst3 hl hst hex i2 i1 (fun s' t' z' p' m2 g' hev hp' g1 hG1 hm e57 htf hw => ?_) k0
    exact k1 p' g' s' t' z' hev hp' ⟨m2, g1, hG1, fun hx => hm (i3 hx), tf_tr i4 htf, us_app i5 hw hm⟩
  · obtain ⟨m', i1, i2, i3, i4, i5⟩ := hI
    exact kk s t z p' m' g hev hp i1 i2 i3 i4 i5
end UVA
/-- what stands in a head's rows -/
def HRq (kd : Nat → Int) (n : Nat) (s : St) (l : List (Nat × Nat)) : Prop := (s 0 64).toInt = (l.length : Int) ∧ l.length ≤ 8 ∧ ∀ k x, l[k]? = some x → (s 37 k).toInt = (x.1 : Int) ∧ x.1 ≤ 6 ∧ x.2 ≤ n ∧ (kd x.2 = 2 → (s 38 k).toInt = (x.2 : Int)) ∧ (kd x.2 ≠ 2 → (s 38 k).toInt < 0)
section HEA
variable {w s r σ σ' σ1 σ2 τ t : St} {kd vl : Nat → Int} {n m lo d p : Nat} {vs z : List Nat} {F0 : Prop}
theorem sr_5 {i q : Nat} : ∀ {k p : Nat}, SRq kd k p = some (i, q) → i ≤ k
  | 0, p, h => by
    unfold SRq at h
    by_cases c : kd p = 45
    · rw [if_pos c] at h; cases h
    · rw [if_neg c] at h
      cases h
      exact Nat.le_refl _
  | k + 1, p, h => by
    unfold SRq at h
    by_cases c : kd p = 45
    · rw [if_pos c] at h
      cases h1 : SRq kd k (p + 1) with
      | none => rw [h1] at h; cases h
      | some r =>
        rw [h1] at h
        have h2 : r.1 + 1 = i ∧ r.2 = q := by
          have := Option.some.inj h
          exact ⟨congrArg Prod.fst this, congrArg Prod.snd this⟩
        have := sr_5 (i := r.1) (q := r.2) (k := k) (p := p + 1) (by rw [h1])
        omega
    · rw [if_neg c] at h
      cases h
      exact Nat.zero_le _
theorem hr_add {l0 : List (Nat × Nat)} {x : Nat × Nat} (h : HRq kd n σ l0) (hlt : l0.length < 8) (hx1 : x.1 ≤ 6) (hx2 : x.2 ≤ n) {a b c : Int32} (ea : a.toInt = (x.1 : Int)) (eb : kd x.2 = 2 → b.toInt = (x.2 : Int)) (eb0 : kd x.2 ≠ 2 → b.toInt < 0) (k : Kp [(0, 10)] [] (upC (upC (upC (upC σ 37 (σ 0 64).toNatClampNeg a) 38 (σ 0 64).toNatClampNeg b) 39 (σ 0 64).toNatClampNeg c) 0 64 ((σ 0 64) + (1 : Int32))) s) : HRq kd n s (l0 ++ [x]) := by
  obtain ⟨h1, h2, h3⟩ := h
  have en : (σ 0 64).toNatClampNeg = l0.length := nat_of h1
  rw [en] at k
  have e37 : ∀ j, s 37 j = if j = l0.length then a else σ 37 j := fun j => by rw [k 37 j rfl rfl, rdC_ne (by decide), rdC_ne (by decide), rdC_ne (by decide), rdC_eq]
  have e38 : ∀ j, s 38 j = if j = l0.length then b else σ 38 j := fun j => by rw [k 38 j rfl rfl, rdC_ne (by decide), rdC_ne (by decide), rdC_eq, rdC_ne (by decide)]
  refine ⟨?_, by rw [List.length_append]; exact hlt, fun q y hy => ?_⟩
  · rw [k 0 64 rfl rfl, rdA_eq rfl, ad1 (by omega), h1, List.length_append]
    rfl
  · rw [e37, e38]
    by_cases c : q = l0.length
    · rw [if_pos c, if_pos c]
      rw [c, List.getElem?_append_right (Nat.le_refl _), Nat.sub_self] at hy
      have : x = y := Option.some.inj hy
      rw [← this]
      exact ⟨ea, hx1, hx2, eb, eb0⟩
    · have hq : q < l0.length := by
        have := (List.getElem?_eq_some_iff.mp hy).1
        rw [List.length_append] at this
        have : q < l0.length + 1 := this
        omega
      rw [if_neg c, if_neg c]
      rw [List.getElem?_append_left hq] at hy
      exact h3 q y hy
theorem mr_head {Q : St → St → List Nat → Prop} (tk : RTk σ kd n) (hg : GMt σ n p) (kk : ∀ s p' l, HDn kd p = some (p', l) → p < p' → GMt s n p' → Kp [(0, 10), (0, 64)] [37, 38, 39] σ s → HRq kd n s l → Q s τ vs) (kn : HDn kd p = none → F0) : pp_head σ τ vs Q (fun _ _ _ => F0) := by
  unfold pp_head
  have hn := tk.1
  have k0 : Kp [(0, 64)] [] σ (upC σ 0 64 (0 : Int32)) := kp_f kp_rf rfl
  have e64 : ((upC σ 0 64 (0 : Int32)) 0 64).toInt = 0 := by rw [rdA_eq rfl]; rfl
  have g0 : GMt (upC σ 0 64 (0 : Int32)) n p := gm_k hg (rdA_ne (by decide))
  generalize upC σ 0 64 (0 : Int32) = σ0 at k0 e64 g0
  have tk0 : RTk σ0 kd n := rtk_k k0 (fun _ => rfl) rfl tk
  have hr0 : ∀ s, Kp [(0, 10)] [] σ0 s → HRq kd n s [] := fun s k => ⟨by rw [k 0 64 rfl rfl]; exact e64, by decide, fun k x h => by cases h⟩
  refine mr_expect tk0 g0 (c := 20) (by decide) (by decide) (fun c20 s8 k8 g8 => ?_) (fun c20 => kn (by unfold HDn; rw [if_neg c20]))
  have tk8 : RTk s8 kd n := rtk_k k8 (fun _ => rfl) rfl tk0
  have hd : ∀ R, (if kd (p + 1) = 6 then some (p + 2, []) else if kd (p + 1) = 21 then some (p + 1, []) else PMn kd 8 (p + 1)) = R → HDn kd p = R.bind fun r => if kd r.1 = 21 then some (r.1 + 1, r.2) else none := fun R hR => by
    unfold HDn
    rw [if_pos c20, hR]
  refine mr_accept1 tk8 g8 (c := 21) (by decide) (by decide) (fun v14 s14 p14 hv k14 g14 f1 f0 => ⟨fun cv => ?_, fun cv => ?_⟩)
  rotate_left
  · have c21 := hv.1 cv
    rw [f1 c21] at g14
    have h6 : kd (p + 1) ≠ 6 := by omega
    refine kk s14 (p + 2) [] ?_ (by omega) g14 (kp_tr (kp_sub k0 rfl rfl) (kp_tr (kp_sub k8 rfl rfl) (kp_sub k14 rfl rfl))) (hr0 s14 (kp_tr k8 k14))
    rw [hd (some (p + 1, [])) (by rw [if_neg h6, if_pos c21])]
    exact if_pos c21
  have c21 : kd (p + 1) ≠ 21 := fun h => (hv.2 h) cv
  rw [f0 c21] at g14
  have tk14 : RTk s14 kd n := rtk_k k14 (fun _ => rfl) rfl tk8
  have e14 : (s14 0 10).toNatClampNeg = p + 1 := nat_of g14.1
  have r6 : (s14 2 (p + 1)).toInt = 6 ↔ kd (p + 1) = 6 := rk_to tk14 g14.2 6 (by decide) (j := 6) (by decide)
  rw [e14]
  refine fun _ => ⟨fun n6 => ?_, fun c6 => ?_⟩
  rotate_left
  · have k6 := r6.1 c6
    have ka : Kp [(0, 10)] [] s14 (upC s14 0 10 ((s14 0 10) + (1 : Int32))) := kp_f kp_rf rfl
    have ga := gm_up tk14 g14 (by omega)
    have tka : RTk (upC s14 0 10 ((s14 0 10) + (1 : Int32))) kd n := rtk_k ka (fun _ => rfl) rfl tk14
    have hd6 := hd (some (p + 2, [])) (by rw [if_pos k6])
    refine mr_expect tka ga (c := 21) (by decide) (by decide) (fun c s48 k48 g48 => ?_) (fun c => kn (by rw [hd6]; exact if_neg c))
    exact kk s48 (p + 3) [] (by rw [hd6]; exact if_pos c) (by omega) g48 (kp_tr (kp_sub k0 rfl rfl) (kp_tr (kp_sub k8 rfl rfl) (kp_tr (kp_sub k14 rfl rfl) (kp_tr (kp_sub ka rfl rfl) (kp_sub k48 rfl rfl))))) (hr0 s48 (kp_tr k8 (kp_tr k14 (kp_tr ka k48))))
  have k6 : kd (p + 1) ≠ 6 := fun h => n6 (r6.2 h)
  have hdp := hd (PMn kd 8 (p + 1)) (by rw [if_neg k6, if_neg c21])
  refine ⟨fun s t z => t = τ ∧ z = vs ∧ ∃ (p1 : Nat) (l0 : List (Nat × Nat)), p + 1 ≤ p1 ∧ GMt s n p1 ∧ Kp [(0, 10), (0, 64)] [37, 38, 39] σ s ∧ HRq kd n s l0 ∧ ∀ R, PMn kd (8 - l0.length) p1 = R → PMn kd 8 (p + 1) = R.map (fun r => (r.1, l0 ++ r.2)), ⟨rfl, rfl, p + 1, [], Nat.le_refl _, g14, kp_tr (kp_sub k0 rfl rfl) (kp_tr (kp_sub k8 rfl rfl) (kp_sub k14 rfl rfl)), hr0 s14 (kp_tr k8 k14), fun R h => ?_⟩, ?_⟩
  · show PMn kd 8 (p + 1) = R.map (fun r => (r.1, [] ++ r.2))
    rw [← h]
    show PMn kd 8 (p + 1) = (PMn kd 8 (p + 1)).map (fun r => (r.1, [] ++ r.2))
    cases PMn kd 8 (p + 1) with
    | none => rfl
    | some r => rfl
  rintro s t z ⟨et, ez, p1, l0, hp, g1, kσ, hH, hR⟩
  rw [et, ez]
  have tk1 : RTk s kd n := rtk_k kσ (fun _ => rfl) rfl tk
  have e1 : (s 0 10).toNatClampNeg = p1 := nat_of g1.1
  have r5 : (s 2 p1).toInt = 5 ↔ kd p1 = 5 := rk_to tk1 g1.2 5 (by decide) (j := 5) (by decide)
  have none_of : PMn kd (8 - l0.length) p1 = none → F0 := fun h => kn (by rw [hdp, hR _ h]; rfl)
  rw [e1]
  refine fun _ => ⟨kd p1 ≠ 5 ∨ l0.length = 8, fun hj => ?_, fun c => Or.inl (fun h => c (r5.2 h)), fun c => ⟨fun c8 => ?_, fun c8 => Or.inr (by have := hH.1; omega)⟩⟩
  · unfold pp_wrong pp_wrongAt
    refine fun _ => none_of ?_
    rcases hj with h | h
    · cases h8 : 8 - l0.length with
      | zero => rfl
      | succ k => unfold PMn; rw [if_neg h]
    · rw [h]
      rfl
  have k5 := r5.1 c
  have hlt : l0.length < 8 := by
    have h1 := hH.1
    have h2 := hH.2.1
    omega
  have e8 : 8 - l0.length = (8 - (l0.length + 1)) + 1 := by omega
  have ka : Kp [(0, 10)] [] s (upC s 0 10 ((s 0 10) + (1 : Int32))) := kp_f kp_rf rfl
  have ga := gm_up tk1 g1 (by omega)
  generalize upC s 0 10 ((s 0 10) + (1 : Int32)) = sa at ka ga
  have tka : RTk sa kd n := rtk_k ka (fun _ => rfl) rfl tk1
  refine mr_stars tka ga (fun y s90 i q hy hi hs hq g90 k90 => ?_) (fun hs => none_of (by rw [e8, PMn, if_pos k5, hs]; rfl))
  have tk90 : RTk s90 kd n := rtk_k k90 (fun _ => rfl) rfl tka
  have e90 : (s90 0 10).toNatClampNeg = q := nat_of g90.1
  have r2 : (s90 2 q).toInt = 2 ↔ kd q = 2 := rk_to tk90 g90.2 2 (by decide) (j := 2) (by decide)
  have kb : Kp [(0, 10)] [] s s90 := kp_tr ka k90
  rw [e90]
  refine fun _ => ⟨fun x s' t' z' => t' = τ ∧ z' = vs ∧ Kp [(0, 10)] [] s s' ∧ GMt s' n (if kd q = 2 then q + 1 else q) ∧ (kd q = 2 → x.toInt = (q : Int)) ∧ (kd q ≠ 2 → x.toInt < 0), ?_, fun c2 => ⟨rfl, rfl, kb, ?_, fun h => absurd (r2.2 h) c2, fun _ => by decide⟩, fun c2 => ⟨rfl, rfl, kp_tr kb (kp_f kp_rf rfl), ?_, fun _ => g90.1, fun h => absurd (r2.1 c2) h⟩⟩
  rotate_left
  · rw [if_neg (fun h => c2 (r2.2 h))]
    exact g90
  · rw [if_pos (r2.1 c2)]
    exact gm_up tk90 g90 (by have := r2.1 c2; omega)
  rintro x s124 t124 z124 ⟨et1, ez1, k124, g124, x2, x0⟩
  rw [et1, ez1]
  have tk124 : RTk s124 kd n := rtk_k k124 (fun _ => rfl) rfl tk1
  -- behind the name: [ ] or not
  have pm : ∀ R, ((if kd (if kd q = 2 then q + 1 else q) = 24 then (if kd ((if kd q = 2 then q + 1 else q) + 1) = 25 then some ((if kd q = 2 then q + 1 else q) + 2, i + 1) else none) else some ((if kd q = 2 then q + 1 else q), i)).bind fun e => if kd e.1 = 26 then (PMn kd (8 - (l0.length + 1)) (e.1 + 1)).bind fun r => some (r.1, (e.2, if kd q = 2 then q else e.1) :: r.2) else some (e.1, [(e.2, if kd q = 2 then q else e.1)])) = R → PMn kd (8 - l0.length) p1 = R := fun R h => by
    rw [e8, PMn, if_pos k5, hs]
    exact h
  generalize hq1 : (if kd q = 2 then q + 1 else q) = q1 at g124 pm
  have hqq : q ≤ q1 := by rw [← hq1]; split <;> omega
  refine mr_accept1 tk124 g124 (c := 24) (by decide) (by decide) (fun v127 s127 p127 hv127 k127 g127 f24 n24 => ⟨fun x1 s' t' z' => t' = τ ∧ z' = vs ∧ ∃ (q2 i2 : Nat), q1 ≤ q2 ∧ x1.toInt = (i2 : Int) ∧ i2 ≤ 6 ∧ Kp [(0, 10)] [] s s' ∧ GMt s' n q2 ∧ ∀ R, (if kd q2 = 26 then (PMn kd (8 - (l0.length + 1)) (q2 + 1)).bind fun r => some (r.1, (i2, if kd q = 2 then q else q2) :: r.2) else some (q2, [(i2, if kd q = 2 then q else q2)])) = R → PMn kd (8 - l0.length) p1 = R, ?_, fun c0 => ?_, fun c1 => ?_⟩)
  rotate_left
  · have c24 : kd q1 ≠ 24 := fun h => (hv127.2 h) c0
    rw [n24 c24] at g127
    exact ⟨rfl, rfl, q1, i, Nat.le_refl _, hy, by omega, kp_tr k124 k127, g127, fun R h => pm R (by rw [if_neg c24]; exact h)⟩
  · have c24 := hv127.1 c1
    rw [f24 c24] at g127
    have tk127 : RTk s127 kd n := rtk_k k127 (fun _ => rfl) rfl tk124
    refine mr_expect tk127 g127 (c := 25) (by decide) (by decide) (fun c25 s136 k136 g136 => ⟨rfl, rfl, q1 + 2, i + 1, by omega, ?_, by omega, kp_tr k124 (kp_tr k127 k136), g136, fun R h => pm R (by rw [if_pos c24, if_pos c25]; exact h)⟩) (fun c25 => none_of (pm none (by rw [if_pos c24, if_neg c25]; rfl)))
    show (y + (1 : Int32)).toInt = _
    rw [ad1 (by omega), hy]
    rfl
  rintro x1 s142 t142 z142 ⟨et2, ez2, q2, i2, hq2, hx1, hi2, k142, g142, pm2⟩
  rw [et2, ez2]
  have hH142 : HRq kd n s142 l0 := by
    obtain ⟨b1, b2, b3⟩ := hH
    refine ⟨by rw [k142 0 64 rfl rfl]; exact b1, b2, fun k x hx => ?_⟩
    rw [k142 37 k rfl rfl, k142 38 k rfl rfl]
    exact b3 k x hx
  have kσ142 : Kp [(0, 10), (0, 64)] [37, 38, 39] σ s142 := kp_tr kσ (kp_sub k142 rfl rfl)
  have tk142 : RTk s142 kd n := rtk_k k142 (fun _ => rfl) rfl tk1
  refine fun _ _ _ => ?_
  have kc : Kp [(0, 64)] [37, 38, 39] s142 (upC (upC (upC (upC s142 37 (s142 0 64).toNatClampNeg x1) 38 (s142 0 64).toNatClampNeg x) 39 (s142 0 64).toNatClampNeg (s142 0 10)) 0 64 ((s142 0 64) + (1 : Int32))) := kp_f (kp_a (kp_a (kp_a kp_rf rfl) rfl) rfl) rfl
  have hadd : ∀ s', Kp [(0, 10)] [] (upC (upC (upC (upC s142 37 (s142 0 64).toNatClampNeg x1) 38 (s142 0 64).toNatClampNeg x) 39 (s142 0 64).toNatClampNeg (s142 0 10)) 0 64 ((s142 0 64) + (1 : Int32))) s' → (kd q ≠ 2 → kd q2 ≠ 2) → HRq kd n s' (l0 ++ [(i2, if kd q = 2 then q else q2)]) := fun s' k' hn2 => by
    refine hr_add hH142 hlt hi2 ?_ hx1 ?_ ?_ k'
    · show (if kd q = 2 then q else q2) ≤ n
      have := g90.2
      have := g142.2
      split <;> omega
    · show kd (if kd q = 2 then q else q2) = 2 → x.toInt = ((if kd q = 2 then q else q2 : Nat) : Int)
      by_cases cq : kd q = 2
      · rw [if_pos cq]; exact fun _ => x2 cq
      · rw [if_neg cq]; exact fun h => absurd h (hn2 cq)
    · show kd (if kd q = 2 then q else q2) ≠ 2 → x.toInt < 0
      by_cases cq : kd q = 2
      · rw [if_pos cq]; exact fun h => absurd cq h
      · rw [if_neg cq]; exact fun _ => x0 cq
  have g142' : GMt (upC (upC (upC (upC s142 37 (s142 0 64).toNatClampNeg x1) 38 (s142 0 64).toNatClampNeg x) 39 (s142 0 64).toNatClampNeg (s142 0 10)) 0 64 ((s142 0 64) + (1 : Int32))) n q2 := gm_k g142 (kc 0 10 rfl rfl)
  have tk142' : RTk (upC (upC (upC (upC s142 37 (s142 0 64).toNatClampNeg x1) 38 (s142 0 64).toNatClampNeg x) 39 (s142 0 64).toNatClampNeg (s142 0 10)) 0 64 ((s142 0 64) + (1 : Int32))) kd n := rtk_k kc (fun _ => rfl) rfl tk142
  generalize upC (upC (upC (upC s142 37 (s142 0 64).toNatClampNeg x1) 38 (s142 0 64).toNatClampNeg x) 39 (s142 0 64).toNatClampNeg (s142 0 10)) 0 64 ((s142 0 64) + (1 : Int32)) = sb at kc hadd g142' tk142'
  refine mr_accept1 tk142' g142' (c := 26) (by decide) (by decide) (fun v188 s188 p188 hv188 k188 g188 f26 n26 => ⟨fun c1 => ?_, fun c0 => ?_⟩)
  · have c26 := hv188.1 c1
    rw [f26 c26] at g188
    refine ⟨rfl, rfl, q2 + 1, l0 ++ [(i2, if kd q = 2 then q else q2)], by omega, g188, kp_tr kσ142 (kp_tr (kp_sub kc rfl rfl) (kp_sub k188 rfl rfl)), hadd s188 k188 (fun _ => by omega), fun R h => ?_⟩
    rw [List.length_append] at h
    replace h : PMn kd (8 - (l0.length + 1)) (q2 + 1) = R := h
    have := hR _ (pm2 _ (by rw [if_pos c26, h]))
    rw [this]
    cases R with
    | none => rfl
    | some r =>
      show some (r.1, l0 ++ ((i2, if kd q = 2 then q else q2) :: r.2)) = some (r.1, l0 ++ [(i2, if kd q = 2 then q else q2)] ++ r.2)
      rw [List.append_assoc]
      rfl
  · have c26 : kd q2 ≠ 26 := fun h => (hv188.2 h) c0
    rw [n26 c26] at g188
    have tk188 : RTk s188 kd n := rtk_k k188 (fun _ => rfl) rfl tk142'
    have hpm := hR _ (pm2 _ (by rw [if_neg c26]))
    rw [hpm] at hdp
    refine mr_expect tk188 g188 (c := 21) (by decide) (by decide) (fun c s197 k197 g197 => ?_) (fun c => kn (by rw [hdp]; exact if_neg c))
    exact kk s197 (q2 + 1) (l0 ++ [(i2, if kd q = 2 then q else q2)]) (by rw [hdp]; exact if_pos c) (by omega) g197 (kp_tr kσ142 (kp_tr (kp_sub kc rfl rfl) (kp_tr (kp_sub k188 rfl rfl) (kp_sub k197 rfl rfl)))) (hadd s197 (kp_tr k188 k197) (fun _ => by omega))
end HEA
