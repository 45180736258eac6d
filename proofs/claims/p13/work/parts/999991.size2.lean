/-! sizes: the class's value, the reference's -/
section SIZ2
variable {w s r σ σ' σ1 s11 τ t : St} {kd vl : Nat → Int} {n S m lo d p : Nat} {vs z : List Nat} {l : List Stq} {Q P : St → Prop} {B : Prop} {K T H Z F : Int} {X : Int32} {F0 : Prop}
theorem ca_size (hX : EXq kd n S m lo 0 l σ σ' K T H Z F X) (h15 : 0 < (σ 0 15).toInt) (h0 : (σ 0 12).toInt = 0) (hR : REq kd n S m lo w σ) (hf : (w 6 3).toInt = 0) (h77 : (w 7 7).toInt = 0)
    (kb : F ≠ 1 → ∀ s, (s 6 3).toInt = 0 → (s 8 8).toInt = 0 → (∀ c, ¬ FRw c → ∀ j, ¬ (c = 8 ∧ j = 8) → s c j = w c j) → Q s)
    (kg : ∀ s, (s 6 3).toInt = 0 → (s 7 7).toInt = 0 → REq kd n S m lo s σ' → Ko [(4, 1), (6, 3), (6, 4), (7, 7), (6, 5), (5, 9), (8, 8)] [24, 43, 17, 31, 32, 33, 25, 39] w s → (F = 1 → (s 8 8).toInt = if X.toInt < 0 then 0 else X.toInt) → (F ≠ 1 → (s 8 8).toInt = 0) → Q s) : CAq l w Q := by
  intro a b ha hb hb9 ht
  have bd : BDr σ σ' F → F ≠ 1 := fun h => by
    rcases h with h | h
    · omega
    · exact h.2
  refine ca_walk ha hb hb9 ht (hX h0 w hR hf h77) (fun s11 hfr hJ y hy => ?_)
  by_cases c0 : (s11 6 3).toInt = 0
  · have hP := hJ.elim (fun h => absurd c0 h.1) (fun h => h.2 c0)
    obtain ⟨g1, g2, g3, g4, g5, g6, i, g7⟩ := hP
    obtain ⟨_, _, _, _, a6, a8, _⟩ := g7
    refine xl_cut (fun s72 k72 => ?_)
    have k1 : Kp [(4, 1), (6, 3)] [24] s11 s72 := kp_tr (kp_f kp_rf rfl) (kp_sub k72 rfl rfl)
    have e63 : (s72 6 3).toInt = 0 := by rw [k72 6 3 rfl rfl, rdA_eq rfl]; rfl
    refine xl_top (j := 0) (by rw [k1 7 7 rfl rfl]; exact g6) (by omega) ⟨fun cy => absurd cy (hy.2 c0), fun _ => ?_⟩
    have fin : ∀ v : Int32, (F = 1 → v.toInt = if X.toInt < 0 then 0 else X.toInt) → (F ≠ 1 → v.toInt = 0) → Q (upC (upC s72 7 7 (0 : Int32)) 8 8 v) := fun v v1 v0 => by
      have kk : Kp [(4, 1), (6, 3), (7, 7), (8, 8)] [24] s11 (upC (upC s72 7 7 (0 : Int32)) 8 8 v) := kp_f (kp_f (kp_sub k1 rfl rfl) rfl) rfl
      refine kg _ ?_ ?_ (re_cd g4 (cd_ko (ko_kp kk) rfl rfl) dd_rf) (ko_tr (ko_sub g5.1 rfl rfl) (ko_sub (ko_kp kk) rfl rfl)) (fun h => ?_) (fun h => ?_)
      · rw [rdC_ne (by decide), rdC_ne (by decide)]; exact e63
      · rw [rdC_ne (by decide), rdA_eq rfl]; rfl
      · rw [rdA_eq rfl]; exact v1 h
      · rw [rdA_eq rfl]; exact v0 h
    have r6 : (upC s72 7 7 (0 : Int32)) (65 + 0) 6 = s11 (65 + 0) 6 := by rw [rdC_ne (by decide), k1 (65 + 0) 6 rfl rfl]
    have r8 : (upC s72 7 7 (0 : Int32)) (65 + 0) 8 = s11 (65 + 0) 8 := by rw [rdC_ne (by decide), k1 (65 + 0) 8 rfl rfl]
    unfold pk_X6_isConstant
    rw [r6, r8, a6]
    refine ⟨fun c => ⟨fun _ => fin _ (fun h => absurd h c) (fun _ => rfl), fun hx => absurd rfl hx⟩, fun c => ⟨fun hx => absurd hx (by decide), fun _ => fin _ (fun h => ?_) (fun h => absurd c h)⟩⟩
    rw [a8 h]
    by_cases c2 : X < (0 : Int32)
    · rw [if_pos c2, if_pos (show X.toInt < 0 from Int32.lt_iff_toInt_lt.mp c2)]
      rfl
    · rw [if_neg c2, if_neg (show ¬ X.toInt < 0 from fun hx => c2 (Int32.lt_iff_toInt_lt.mpr hx))]
  · have hF : F ≠ 1 := hJ.elim (fun h => bd h.2) (fun h => bd (h.1 c0))
    unfold pk_X0_cut
    refine xl_topAny (fun u => ⟨fun _ => kb hF _ ?_ ?_ (fun c hc j hj => ?_), fun cy => absurd (hy.1 cy) c0⟩)
    · rw [rdC_ne (by decide), rdC_ne (by decide), rdC_ne (by decide), rdA_eq rfl]; rfl
    · rw [rdA_eq rfl]; rfl
    · have hfr2 : FRs w (upC (upC (upC s11 6 3 (0 : Int32)) 4 1 (if ((upC s11 6 3 (0 : Int32)) 4 1) < w 4 1 then ((upC s11 6 3 (0 : Int32)) 4 1) else w 4 1)) 7 7 (0 : Int32)) := fr_c (fr_c (fr_c hfr (frw (by decide))) (frw (by decide))) (frw (by decide))
      by_cases c8 : c = 8
      · have hj8 : j ≠ 8 := fun e => hj ⟨c8, e⟩
        rw [c8, rdA_ne hj8]
        rw [c8] at hc
        exact congrFun (hfr2 8 hc) j
      · rw [rdC_ne c8]
        exact congrFun (hfr2 c hc) j
/-- the reference's size -/
theorem es_sizeAt {Q : Int32 → St → St → List Nat → Prop} (hG : RGs kd vl n S m lo d σ) (hg : GMt σ n p) (kk : ∀ (v : Int32) s t z p' l σ1 s1 K T H Z F X, PVq kd 0 1 0 p [] (some (p', l)) → p < p' → GMt s n p' → RGs kd vl n S m lo d s → s 0 12 = σ 0 12 → s 0 57 = σ 0 57 → TFq τ vs t z → (∀ y, y ∈ l → 1 ≤ y.1 ∧ y.1 ≤ 16) → 0 < (σ1 0 15).toInt → σ1 0 12 = σ 0 12 → DDq σ σ1 → DDq s1 s → EXq kd n S m lo 0 l σ1 s1 K T H Z F X → KEr σ1 s1 → Kp [(0, 10), (0, 12), (0, 13), (0, 15), (0, 17), (0, 37), (0, 39)] [8, 33, 14, 25, 21] σ s → (v.toInt = if F = 1 ∧ 1 ≤ X.toInt then X.toInt else -1) → Q v s t z) (kn : PVq kd 0 1 0 p [] none → F0) : pp_sizeAt σ τ vs Q (fun _ _ _ => F0) := by
  unfold pp_sizeAt
  have h15 : (σ 0 15).toInt = 0 := hG.2.2.2.1
  have k0 : Kp [(0, 15)] [] σ (upC σ 0 15 ((σ 0 15) + (1 : Int32))) := kp_f kp_rf rfl
  have e15 : (upC σ 0 15 ((σ 0 15) + (1 : Int32))) 0 15 = (σ 0 15) + (1 : Int32) := rdA_eq rfl
  generalize upC σ 0 15 ((σ 0 15) + (1 : Int32)) = σ1 at k0 e15
  have i15 : (σ1 0 15).toInt = 1 := by rw [e15, ad1 (by omega), h15]; rfl
  have d01 : DDq σ σ1 := dd_k k0 rfl rfl
  have hG1 : RGm kd n S m lo σ1 := rgm_dd hG.1 d01 (by rw [k0 0 12 rfl rfl]; exact rgq_0 hG.1)
  refine cj_wpE_expression (Q1 := EPq kd n S m lo 0 1 0 p σ1 τ vs) (Q2 := fun _ s _ _ => FSs σ1 s) (T1 := fun _ _ _ => F0) (T2 := fun _ _ _ => True) (fun u s17 t z he hs => ?_) (fun _ _ _ h _ => h) (er_expr p σ1 τ vs _ F0 hG1 (gm_k hg (k0 0 10 rfl rfl)) (fun u s t z he => he) (fun hn => kn (hn []))) (fs_expr fs_rf (fun _ _ _ _ h => h) (fun _ _ _ => trivial))
  obtain ⟨p', l, h1, h2, h3, h4, h5, h6, h7, h8, h9, K, T, H, Z, F', I, X, g1, g2, g3, g4⟩ := he
  have hv : PVq kd 0 1 0 p [] (some (p', l)) := h1 []
  have e17 : s17 0 15 = σ1 0 15 := hs.1
  have e12 : s17 0 12 = σ 0 12 := by rw [hs.2 (by rw [i15]; decide), k0 0 12 rfl rfl]
  have kS : Kp [(0, 15), (0, 17)] [] s17 (upC (upC s17 0 15 ((s17 0 15) - (1 : Int32))) 0 17 (σ 0 17)) := kp_f (kp_f kp_rf rfl) rfl
  have f15 : (upC (upC s17 0 15 ((s17 0 15) - (1 : Int32))) 0 17 (σ 0 17)) 0 15 = σ 0 15 := by
    rw [rdA_ne (by decide), rdA_eq rfl]
    exact ieq (by rw [e17, sb1 (by rw [i15]; decide), i15, h15]; rfl)
  generalize hsE : upC (upC s17 0 15 ((s17 0 15) - (1 : Int32))) 0 17 (σ 0 17) = sE at kS f15
  have dE : DDq s17 sE := dd_k kS rfl rfl
  have eE : sE 0 12 = σ 0 12 := by rw [kS 0 12 rfl rfl, e12]
  have hGE : RGs kd vl n S m lo d sE := by
    obtain ⟨q1, q2, q3, q4, q5⟩ := hG
    refine ⟨rgm_dd h6 dE (by rw [eE]; exact rgq_0 q1), by rw [kS 0 54 rfl rfl, h4 0 54 rfl rfl, k0 0 54 rfl rfl]; exact q2, ?_, by rw [f15]; exact q4, ?_⟩
    · rw [kS 0 49 rfl rfl, h4 0 49 rfl rfl, k0 0 49 rfl rfl]
      exact q3
    · rw [show sE 6 = σ 6 from funext (fun j => by rw [kS 6 j rfl rfl, h4 6 j rfl rfl, k0 6 j rfl rfl])]
      exact q5
  have fin : ∀ v : Int32, (v.toInt = if F' = 1 ∧ 1 ≤ X.toInt then X.toInt else -1) → Q v sE t z := fun v hv2 =>
    kk v sE t z p' l σ1 s17 K T H Z F' X hv h2 (gm_k h3 (kS 0 10 rfl rfl)) hGE eE (by rw [kS 0 57 rfl rfl, h4 0 57 rfl rfl, k0 0 57 rfl rfl]) h7 (pv_act hv) (by rw [i15]; decide) (k0 0 12 rfl rfl) d01 dE (g4 0 (by
      unfold ROq rmq
      rw [if_pos rfl]
      omega)) h4 (kp_tr (kp_sub k0 rfl rfl) (kp_tr (kp_sub h4 rfl rfl) (kp_sub kS rfl rfl))) hv2
  obtain ⟨m1, m0, m3, m5, m6, m7, m2⟩ := g1
  rw [m6]
  refine fun _ => ⟨fun c => fin _ (by rw [if_neg (fun hx => c hx.1)]; rfl), fun c => mr_isInt ⟨m1, m0, m3, m5, m6, m7, m2⟩ (fun hT => ⟨fun hx => absurd hx (by decide), fun _ => ?_⟩) (fun hT => absurd (g2.2.2.2.2.1 c) hT)⟩
  rw [m7 c]
  exact ⟨fun c1 => fin _ (by rw [if_neg (fun hx => by omega)]; rfl), fun c1 => fin _ (by rw [if_pos ⟨c, c1⟩])⟩
end SIZ2
