/-! an initial of an array: both sides -/
section ROI
variable {w s r s8 s9 σ σ' σ1 τ t : St} {kd vl : Nat → Int} {n S m lo d cnt p q pc p1 ty : Nat} {vs z : List Nat} {loc ok : Prop} {gc : List Gsq} {a1 a2 a3 a4 : Int32} {F0 : Prop} {K T H Z F : Int} {X : Int32} {l : List Stq}
theorem es_rowInitial {Q : Int32 → St → St → List Nat → Prop} (h1 : a1.toInt = (ty : Int)) (h4 : a4.toInt ≠ 0 ↔ loc) (hG : RGs kd vl n S m lo d σ) (hg : GMt σ n (p + 1)) (kk : ∀ v s t z, IPq kd vl n S m lo d true ty loc a2.toInt p σ τ vs v s t z → Q v s t z) (kn : EVq (fun N => INn kd vl N true ty p) none → F0) : pp_rowInitial a1 a2 a3 a4 σ τ vs Q (fun _ _ _ => F0) := by
  unfold pp_rowInitial
  have h15 : (σ 0 15).toInt = 0 := hG.2.2.2.1
  have tk := hG.1.1
  have hn := tk.1
  have g1 := hg.1
  have gn := hg.2
  have e2 : ((σ 0 10) + (1 : Int32)).toInt = ((p + 2 : Nat) : Int) := by rw [ad1 (by omega), g1]; rfl
  have n1 : (σ 0 10).toNatClampNeg = p + 1 := nat_of g1
  have n2 : ((σ 0 10) + (1 : Int32)).toNatClampNeg = p + 2 := nat_of e2
  have r4 := rk_to tk (q := p + 1) gn 4 (by decide) (j := 4) (by decide)
  have k4n : kd (p + 1) = 4 → p + 2 ≤ n := fun h => by
    have h2 := tk.2.2.2.2
    by_cases c : p + 1 = n
    · rw [← c, h] at h2
      omega
    · omega
  rw [n1, n2]
  refine fun _ => ⟨¬ ALq kd (p + 1), fun hna => ?_, fun c4 ha => c4 (r4.2 ha.1), fun c4 _ => ⟨ALq kd (p + 1), fun hal => ?_, fun c => ⟨r4.1 c4, Or.inl ((rk_to tk (k4n (r4.1 c4)) 26 (by decide) (j := 58) (by decide)).1 c)⟩, fun c _ => ⟨fun c2 ha => ?_, fun c2 => ⟨r4.1 c4, Or.inr ((rk_to tk (k4n (r4.1 c4)) 27 (by decide) (j := 59) (by decide)).1 c2)⟩⟩⟩⟩
  · have nal : ¬ ((true : Bool) = true ∧ ALq kd (p + 1)) := fun h => hna h.2
    have nal2 : ¬ ((true : Bool) = true ∧ ALq kd (p + 1) ∧ ty = 0) := fun h => hna h.2.1
    refine mr_is1 tk hg (c := 22) (by decide) (by decide) (fun v3 hv3 => ⟨fun c => ?_, fun c => ?_⟩)
    · have k22 : kd (p + 1) ≠ 22 := fun h => (hv3.2 h) c
      refine es_expr hG hg (fun u s8 t8 z8 p' l K T H Z F' I X hev hp g8 hG8 hr hm htf hu hun hmv hvr hact hex => ?_) (fun hn => kn (ev_f k22 (ev_f nal2 (ev_b0 hn))))
      refine mr_read hmv (fun _ s14 t14 kw hne hmv2 => ?_)
      have e12 : s14 0 12 = s8 0 12 := kw 0 12 rfl rfl
      have hG14 := rg_ds hG8 (ds_k kw rfl rfl) (by rw [e12]; exact rgq_0 hG8.1)
      refine kk 0 s14 t14 z8 ⟨p', gqs l ++ [gq (stp 46 p)], 0, ev_f k22 (ev_f nal2 (ev_b hev (by rw [if_neg nal]; exact ev_c))), tl_no k22 nal, hp, gm_k g8 (kw 0 10 rfl rfl), hG14, fun hx => by rw [e12]; exact hm hx, kp_tr hr (ke_k kw rfl rfl), tf_read htf hun hne, Or.inl rfl, fun _ _ => ⟨rfl, fun w Q B h12 hB hq => gv_arr hact h12 hB hq⟩, fun ext s2 k2 f2 => ?_⟩
      intro h0 w hR hf h77 h11 h9 h15w h16 hbr hrow hext
      have hB : (s2 0 12).toInt ≠ 0 := bad_in hG14.2.2.2.1 f2 (Or.inl rfl)
      exact gv_arr hact (hbr.2 rfl) hB (fun s' h => ⟨fun _ => hB, fun hx => absurd hx h⟩)
    · have k22 : kd (p + 1) = 22 := hv3.1 c
      refine es_braces (loc := loc) k22 rfl h4 (by omega) hG hg (fun v s t z p' gc cnt ok hit hp g1 hG1 hm hke htf hc1 hir hv1 hv2 => ?_) (fun hn => kn (ev_t k22 (ev_b0 hn)))
      refine kk v s t z ⟨p', gc ++ [gq (46, p, 1, 0)], (cnt : Int), ev_t k22 (ev_b hit ev_c), tl_it k22 hit hc1, by omega, g1, hG1, hm, hke, htf, hv1, fun _ h => absurd (Or.inl k22) h, fun ext s2 k2 f2 => ?_⟩
      intro h0 w hR hf h77 h11 h9 h15w h16 hbr hrow hext
      have hmB : MNq s s2 := fun hx => f2.2.2 (Or.inl hx)
      refine gv_app (gv_mono (hir h0 w hR hf h77 (by rw [h1]; exact h11) h9 h15w h16) (fun r hr => ?_) (fun hx => hmB hx))
      by_cases c1 : (r 6 3).toInt = 0
      · obtain ⟨g0', g2, g3, g4, g5, g6⟩ := hr.2 c1
        have f12 : r 8 12 = w 8 12 := g4 8 12 (op_lt (by decide)) rfl rfl
        have f13 : r 8 13 = w 8 13 := g4 8 13 (op_lt (by decide)) rfl rfl
        have n12 := hbr.2 rfl
        have cells := hrow ⟨rfl, Or.inl k22⟩
        refine gv_d (x := (46, p, 1, 0)) (by simp) (fun _ => da_init (fun a b _ eb => xi_init1 eb c1 (fun s3 ks e7 e6 => ?_))) (fun hx => absurd c1 hx)
        refine in_end (A := v.toInt = 0 ∨ ext) (bad := True) (ext := True) g0' hG1.2.2.2.1 k2 f2 g2 g4 ks (by rw [e7]; exact g3) ?_
        rw [e6, f12, f13, g6, hext]
        constructor
        · rintro ((h | h) | h)
          · refine Or.inl (Decidable.byContradiction (fun hx => ?_))
            obtain ⟨y1, y2⟩ := hv2.1 hx
            rcases h with h | h
            · exact h y1
            · have := h.2
              omega
          · exact absurd h n12
          · exact Or.inr h
        · rintro (h | h)
          · refine Or.inl (Or.inl ?_)
            by_cases co : ok
            · refine Or.inr ⟨hc1, ?_⟩
              have : ¬ ((cnt : Int) ≤ a2.toInt) := fun hx => (hv2.2 ⟨co, hx⟩) h
              omega
            · exact Or.inl co
          · exact Or.inr h
      · have := hmB (hr.1 c1)
        exact gv_bad c1 this (fun s' h => ⟨fun _ => this, fun hx => absurd hx h⟩)
  · have k4 := hal.1
    have hp2 := k4n k4
    have k22 : kd (p + 1) ≠ 22 := by omega
    have ka : Kp [(0, 10)] [] σ (upC σ 0 10 ((σ 0 10) + (1 : Int32))) := kp_f kp_rf rfl
    have ga : GMt (upC σ 0 10 ((σ 0 10) + (1 : Int32))) n (p + 2) := gm_up tk hg (by omega)
    generalize upC σ 0 10 ((σ 0 10) + (1 : Int32)) = σa at ka ga
    refine mr_fill (fun s8 k8 => ?_)
    have kz : Kp [(0, 10), (0, 17), (0, 39)] [8, 25] σ s8 := kp_tr (kp_sub ka rfl rfl) (kp_sub k8 rfl rfl)
    have e12 : s8 0 12 = σ 0 12 := kz 0 12 rfl rfl
    have g8 : GMt s8 n (p + 2) := gm_k ga (k8 0 10 rfl rfl)
    have hG8 : RGs kd vl n S m lo d s8 := rg_ds hG (ds_k kz rfl rfl) (by rw [e12]; exact rgq_0 hG.1)
    have e6 : s8 6 (p + 1) = σ 6 (p + 1) := kz 6 (p + 1) rfl rfl
    have dd : DDq σ s8 := dd_k kz rfl rfl
    rw [e6]
    have main : ∀ (v : Int32) (g : List Gsq), (v = 0 ∨ v = 1) → EVq (fun N => INn kd vl N true ty p) (some (p + 2, g, vl (p + 1) + 1)) → (∀ (ext : Prop) (s2 : St), Kp [(0, 12), (0, 13)] [] s8 s2 → FTq s8 s2 (v.toInt = 0 ∨ ext) → INq kd n S m lo loc (true = true) (kd (p + 1) = 22 ∨ ALq kd (p + 1)) ext (ty : Int) a2.toInt g σ s2) → Q v s8 τ vs := fun v g hv hev hin =>
      kk v s8 τ vs ⟨p + 2, g, vl (p + 1) + 1, hev, tl_al rfl hal, by omega, g8, hG8, fun hx => by rw [e12]; exact hx, ke_k kz rfl rfl, tf_rf, hv, fun _ h => absurd (Or.inr hal) h, hin⟩
    refine ⟨fun c => ?_, fun c _ => ?_⟩
    · have nty : ¬ ((true : Bool) = true ∧ ALq kd (p + 1) ∧ ty = 0) := fun h => c (by rw [h1, h.2.2]; rfl)
      refine main 0 _ (Or.inl rfl) (ev_f k22 (ev_f nty (ev_b (ex_alone hal) (by rw [if_pos ⟨rfl, hal⟩]; exact ev_c)))) (fun ext s2 k2 f2 => ?_)
      intro h0 w hR hf h77 h11 h9 h15w h16 hbr hrow hext
      have hB : (s2 0 12).toInt ≠ 0 := bad_in hG8.2.2.2.1 f2 (Or.inl rfl)
      refine gv_arr (fun y hy => ?_) (hbr.2 rfl) hB (fun s' h => ⟨fun _ => hB, fun hx => absurd hx h⟩)
      rw [List.mem_singleton] at hy
      rw [hy]
      exact ⟨show (1 : Int) ≤ 2 by decide, show (2 : Int) ≤ 16 by decide⟩
    · have ty0 : ty = 0 := by omega
      have hevf : EVq (fun N => INn kd vl N true ty p) (some (p + 2, [gq (stp 45 (p + 1)), gq (46, p, 2, 0)], vl (p + 1) + 1)) := ev_f k22 (ev_t ⟨rfl, hal, ty0⟩ ev_c)
      have step : ∀ (v : Int32), (v = 0 ∨ v = 1) → (v.toInt ≠ 0 ↔ (σ 6 (p + 1)).toInt ≤ a2.toInt) → Q v s8 τ vs := fun v hv hv2 => by
        refine main v _ hv hevf (fun ext s2 k2 f2 => ?_)
        intro h0 w hR hf h77 h11 h9 h15w h16 hbr hrow hext
        have c0 : (s8 0 12).toInt = 0 := by rw [e12]; exact h0
        obtain ⟨w1, w2, w3⟩ := hR.1.2.2.2.2.2 (p + 1) gn k4
        have cells := hrow ⟨rfl, Or.inr hal⟩
        refine gv_app (l := [gq (stp 45 (p + 1))]) (l2 := [gq (46, p, 2, 0)]) (gv_d (x := stp 45 (p + 1)) (by simp [stp]) (fun _ => da_fill (fun a ea => xi_fill (u := p + 1) ea (by omega) ⟨w2, w3⟩ (fun r ks e7 e6' e16 => ?_))) (fun hx => absurd hf hx))
        have f12 : r 8 12 = w 8 12 := ks 8 12 (op_lt (by decide)) rfl rfl
        have f13 : r 8 13 = w 8 13 := ks 8 13 (op_lt (by decide)) rfl rfl
        have c1 : (r 6 3).toInt = 0 := by rw [e6']; exact hf
        refine gv_d (x := (46, p, 2, 0)) (by simp) (fun _ => da_init (fun a b _ eb => xi_init2 eb c1 (fun s3 ks3 e7' e6'' => ?_))) (fun hx => absurd c1 hx)
        refine in_end (A := v.toInt = 0 ∨ ext) (bad := True) (ext := True) c0 hG8.2.2.2.1 k2 f2 (re_cd hR (cd_ko ks rfl rfl) dd) (stk_i ks) ks3 (by rw [e7', e7]; exact h77) ?_
        rw [e6'', f13, e16, hext]
        constructor
        · rintro (h | h)
          · refine Or.inl (Decidable.byContradiction (fun hx => ?_))
            have := hv2.1 hx
            omega
          · exact Or.inr h
        · rintro (h | h)
          · refine Or.inl ?_
            have : ¬ ((σ 6 (p + 1)).toInt ≤ a2.toInt) := fun hx => (hv2.2 hx) h
            omega
          · exact Or.inr h
      exact ⟨fun c2 => step 0 (Or.inl rfl) ⟨fun h => absurd rfl h, fun h => by omega⟩, fun c2 => step 1 (Or.inr rfl) ⟨fun _ => c2, fun _ => by decide⟩⟩
  · rcases ha.2 with h | h
    · exact c ((rk_to tk (k4n ha.1) 26 (by decide) (j := 58) (by decide)).2 h)
    · exact c2 ((rk_to tk (k4n ha.1) 27 (by decide) (j := 59) (by decide)).2 h)
end ROI
