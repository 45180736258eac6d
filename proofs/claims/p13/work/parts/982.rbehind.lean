/-! the reference's expressions: what stands behind a primary one -/
/-- so far: at p1, behind l; G tells what the grammar still wants -/
def EBq (kd : Nat → Int) (n S m lo d r p : Nat) (G : Nat → List Stq → Prop) (σ τ : St) (vs : List Nat) (u : Nat) (s t : St) (z : List Nat) : Prop :=
  ∃ (p1 : Nat) (l : List Stq), G p1 l ∧ p < p1 ∧ GMt s n p1 ∧ KEr σ s ∧ MNq σ s ∧ RGm kd n S m lo s ∧ TFq τ vs t z ∧ u ∈ z ∧ u ∉ vs
    ∧ ∃ (K T H Z F I : Int) (X : Int32), MVq t u K T H Z F X I ∧ VRq K T H Z F ∧ H ≤ (p1 : Int) - p ∧ ∀ c, ROq c d r → EXq kd n S m lo c l σ s K T H Z F X
section RBH
variable {σ σ1 σ2 σ3 s s2 τ t t2 : St} {kd : Nat → Int} {n S m lo d p p1 u q c : Nat} {vs z : List Nat} {a b : Int32} {l l1 : List Stq} {K T H Z F I T3 : Int} {X : Int32} {B : Prop}
variable {Kexpression Kchoice : Int32 → St → St → List Nat → (Nat → St → St → List Nat → Prop) → (St → St → List Nat → Prop) → Prop} {Kbinary : Int32 → Int32 → St → St → List Nat → (Nat → St → St → List Nat → Prop) → (St → St → List Nat → Prop) → Prop} {Kdecided : Int32 → Nat → Int32 → Int32 → St → St → List Nat → (Nat → St → St → List Nat → Prop) → (St → St → List Nat → Prop) → Prop} {Kunary Kbehind Kprimary : Int32 → St → St → List Nat → (Nat → St → St → List Nat → Prop) → (St → St → List Nat → Prop) → Prop} {Kcall_0 : Int32 → Int32 → St → St → List Nat → (Nat → St → St → List Nat → Prop) → (St → St → List Nat → Prop) → Prop}
/-- one more or less, behind it; whatever its type is called where it is bad -/
theorem ex_step3 (hA : EXq kd n S m lo c l1 σ σ1 K T H Z F X) (vA : VRq K T H Z F) (hc : c < 490) (k1 : KEr σ σ1) (k3 : KPr σ1 σ3) (f3 : FTq σ1 σ3 (B ∨ 60 < 1 + H)) (hB : T ≠ -2 → (B ↔ ¬ (1 ≤ K ∧ K ≤ 3)) ∧ (¬ B → T3 = T)) :
    EXq kd n S m lo c (l1 ++ [stp 13 q]) σ σ3 0 T3 (1 + H) 0 0 0 := by
  refine ex_end1 hA k1 k3 f3 (fun hx => absurd hx (by decide)) (fun s i c0 g2 g3 g4 g6 g7 Q kk => xk_step (fun a ha => xl_top g6 (by omega) (xt_step g6 (by omega) c0 g7 (by have := vA.2.2.1; omega) (fun s4 k4 e47 hA4 ef => kk s4 k4 e47 (by rw [ef, (hB g2).1]) (fun hb _ => ⟨by rw [(hB g2).2 hb]; exact g2, 0, by rw [(hB g2).2 hb]; exact hA4⟩)))))
theorem rgq_p (hG : RGm kd n S m lo σ) (ks : Kp [(0, 10)] [] σ s) : RGm kd n S m lo s := rgm_k hG (kpr_p ks).1 (by rw [ks 0 37 rfl rfl]; exact hG.2.2.2.2.2.2.2.2.2.2.1) (by rw [ks 0 12 rfl rfl]; exact hG.2.2.2.2.2.2.2.2.2.2.2)
theorem rgq_w (hG : RGm kd n S m lo σ) (ks : KWr σ s) : RGm kd n S m lo s := rgm_k hG (kpr_x (kw_x ks)).1 (by rw [ks 0 37 rfl rfl]; exact hG.2.2.2.2.2.2.2.2.2.2.1) (by rw [ks 0 12 rfl rfl]; exact hG.2.2.2.2.2.2.2.2.2.2.2)
theorem rgq_0 (hG : RGm kd n S m lo σ) : 0 ≤ (σ 0 12).toInt := hG.2.2.2.2.2.2.2.2.2.2.2
theorem rgq_D (hG : RGm kd n S m lo σ) : ∃ D : Nat, (σ 0 37).toInt = (D : Int) ∧ D ≤ 16000 := hG.2.2.2.2.2.2.2.2.2.2.1
/-- what is read: only its Value changes -/
theorem tf_read (h7 : TFq τ vs t z) (h9 : u ∉ vs) (hne : ∀ v, v ≠ u → ∀ m, t2 v m = t v m) : TFq τ vs t2 z := ⟨h7.1, fun w hw m => by
  rw [hne w (fun e => h9 (by rw [← e]; exact hw)) m]
  exact h7.2 w hw m⟩
theorem ro_in {d r c : Nat} (hd : d < 25) (h : ROq c d r) (hr : 1 ≤ r) : ROq (c + 1) (d + 1) 13 ∧ c < 480 := by
  unfold ROq at h ⊢
  omega
theorem er_behind (ha : a.toInt = (d : Int)) (hd : d ≤ 25) (hp1 : ¬ UNq (kd p)) (hp2 : ¬ (kd p = 20 ∧ kd (p + 1) = 5))
    (hP : ERq kd n S m lo 4 d 0 p (Kprimary a)) (hE : d < 25 → ∀ v : Int32, v.toInt = (d : Int) + 1 → ∀ p, ERq kd n S m lo 0 (d + 1) 0 p (Kexpression v)) :
    ERq kd n S m lo 2 d 0 p (fun σ τ vs Q T => pp_behind Kexpression Kchoice Kbinary Kdecided Kunary Kbehind Kprimary Kcall_0 a σ τ vs Q T) := by
  intro σ τ vs Q F hG hg hk hn
  show pp_behind Kexpression Kchoice Kbinary Kdecided Kunary Kbehind Kprimary Kcall_0 a σ τ vs Q (fun _ _ _ => F)
  unfold pp_behind
  have hn16 := hG.1.1
  refine hP σ τ vs _ F hG hg (fun u s t z he => ?_) (fun hnone => hn (fun L => pv_b0 hp1 hp2 (hnone L)))
  refine ⟨fun u s t z => EBq kd n S m lo d 1 p (fun p1 l => ∀ L R, PVq kd 6 d 0 p1 (L ++ l) R → PVq kd 2 d 0 p L R) σ τ vs u s t z, ?_, ?_⟩
  · obtain ⟨p', l, h1, h2, h3, h4, h5, h6, h7, h8, h9, K, T, H, Z, F', I, X, g1, g2, g3, g4⟩ := he
    exact ⟨p', l, fun L R hR => pv_b1 hp1 hp2 (h1 L) hR, h2, h3, h4, h5, h6, h7, h8, h9, K, T, H, Z, F', I, X, g1, g2, g3, g4⟩
  rintro x s6 t6 z6 ⟨p1, l, h1, h2, h3, h4, h5, h6, h7, h8, h9, K, T, H, Z, F', I, X, g1, g2, g3, g4⟩
  have hpn := h3.2
  have hH : 0 ≤ H ∧ H ≤ 20000 := by have := g2.2.2.1; omega
  have none6 : (∀ L, PVq kd 6 d 0 p1 (L ++ l) none) → F := fun hx => hn (fun L => h1 L none (hx L))
  have step : (kd p1 = 61 ∨ kd p1 = 62) → pp_sign s6 t6 z6 (fun v48 => pp_stepped x v48 (1 : Int32) (s6 0 10) (upC s6 0 10 ((s6 0 10) + (1 : Int32))) t6 z6 (fun u69 s69 t69 z69 => EBq kd n S m lo d 1 p (fun p1 l => ∀ L R, PVq kd 6 d 0 p1 (L ++ l) R → PVq kd 2 d 0 p L R) σ τ vs u69 s69 t69 z69)) := fun k6 => by
    refine mr_sign h6.1 h3 (fun v48 hv => ?_)
    have k0 : Kp [(0, 10)] [] s6 (upC s6 0 10 ((s6 0 10) + (1 : Int32))) := kp_f kp_rf rfl
    have gu := gm_up h6.1 h3 (by omega)
    refine mr_stepped (by rw [k0 0 12 rfl rfl]; exact rgq_0 h6) g1 h8 hH (fun q s2 t2 T' hq ks tf mv t1 t2' f3 => ?_)
    have k3 : KPr s6 s2 := kpr_tr (kpr_p k0) (kpr_x ks)
    have f3' := ft_from (k0 0 12 rfl rfl) (k0 0 15 rfl rfl) f3
    have vK := g2.1
    have vT := g2.2.1
    have vKT := g2.2.2.2.2.2.2.2
    refine ⟨p1 + 1, l ++ [stp 13 p1], fun L R hR => h1 L R (pv_h4 k6 (by rw [List.append_assoc]; exact hR)), by omega, gm_k gu (ks 0 10 rfl rfl), kp_tr h4 k3.1, fun hx => f3'.2.2 (Or.inl (h5 hx)), rgm_k h6 k3.1 (by rw [k3.2.2.1]; exact rgq_D h6) f3'.1, tf_tr h7 tf, List.mem_append_right _ (List.mem_singleton.mpr rfl), fun hx => hq (h7.1 q hx), 0, T', 1 + H, 0, 0, 0, 0, mv, ⟨by omega, ?_, by omega, fun hx => absurd rfl hx, fun hx => absurd hx (by decide), fun hx => absurd hx (by decide), by omega, fun hx => by omega⟩, by omega, fun c hc => ?_⟩
    · by_cases c : K = 0 ∨ T < 0
      · rw [t1 c]; omega
      · rw [t2' c]; exact vT
    · refine ex_step3 (g4 c hc) g2 (by unfold ROq at hc; omega) h4 k3 f3' (fun hT => ⟨⟨fun hx => by omega, fun hx => by omega⟩, fun hx => t2' hx⟩)
  have index : kd p1 = 24 → pp_read_1 x s6 t6 z6 (fun s78 t78 z78 => pp_deeper a s78 t78 z78 (fun v83 s83 t83 z83 => Kexpression v83 (upC s83 0 10 ((s83 0 10) + (1 : Int32))) t83 z83 (fun u101 s101 t101 z101 => pp_read_1 u101 s101 t101 z101 (fun s109 t109 z109 => pp_expect (25 : Int32) s109 t109 z109 (fun s115 t115 z115 => pp_isPointer x s115 t115 z115 (fun v120 => ∃ J139 : Int32 → Prop, (∀ (y1_139 : Int32), y1_139 = 0 ∨ y1_139 = 1 → (J139 y1_139 → (pp_must y1_139 (s6 0 10) s115 t115 z115 (fun s140 t140 z140 => pp_isPointer x s140 t140 z140 (fun v145 => ∃ J162 : Int32 → Prop, (∀ (y1_162 : Int32), J162 y1_162 → (pp_made y1_162 x u101 (s6 0 10) s140 t140 z140 (fun u166 s166 t166 z166 => pp_put_2 (11 : Int32) (36 : Int32) (0 : Int32) s166 t166 z166 (fun s177 t177 z177 => (u166 ∈ z177) → (EBq kd n S m lo d 1 p (fun p1 l => ∀ L R, PVq kd 6 d 0 p1 (L ++ l) R → PVq kd 2 d 0 p L R) σ τ vs u166 s177 (upC (upC t177 u166 1 (3 : Int32)) u166 4 (s6 0 10)) z177))))) ∧ ((v145.toInt = 0 → (J162 ((-2) : Int32))) ∧ (v145.toInt ≠ 0 → ((x ∈ z140) → (J162 ((t140 x 0) - (1 : Int32))))))))))) ∧ (∃ J138 : Prop, (J138 → (J139 (0 : Int32))) ∧ ((v120.toInt = 0 → (J138)) ∧ (v120.toInt ≠ 0 → (pp_isInt u101 s115 t115 z115 (fun v128 => (v128.toInt = 0 → (J138)) ∧ (v128.toInt ≠ 0 → (J139 (1 : Int32)))))))))) (fun _ _ _ => F))) (fun _ _ _ => F)) (fun _ _ _ => F)) := fun k24 => by
    refine mr_read g1 (fun _ sr tr kr hne g1' => ?_)
    have tfr : TFq τ vs tr z6 := tf_read h7 h9 hne
    refine mr_deeper ha hd (fun hd2 v hv => ?_) (fun hd2 => none6 (fun L => pv_h0 k24 hd2))
    have k0 : Kp [(0, 10)] [] sr (upC sr 0 10 ((sr 0 10) + (1 : Int32))) := kp_f kp_rf rfl
    have hGr := rgq_w h6 kr
    have gr : GMt sr n p1 := gm_k h3 (kr 0 10 rfl rfl)
    have gu := gm_up hGr.1 gr (by omega)
    have hGu := rgq_p hGr k0
    generalize hsu : upC sr 0 10 ((sr 0 10) + (1 : Int32)) = su at k0 gu hGu ⊢
    have kru : KPr s6 su := kpr_tr (kpr_x (kw_x kr)) (kpr_p k0)
    have e12u : su 0 12 = s6 0 12 := (k0 0 12 rfl rfl).trans (kr 0 12 rfl rfl)
    refine hE hd2 v hv (p1 + 1) su tr z6 _ F hGu gu (fun u2 sx tx zx hx => ?_) (fun hnone => none6 (fun L => pv_h1 k24 hd2 (hnone (L ++ l ++ [stp 7 p1]))))
    obtain ⟨p2, l2, i1, i2, i3, i4, i5, i6, i7, i8, i9, K2, T2, H2, Z2, F2, I2, X2, j1, j2, j3, j4⟩ := hx
    have hp2n := i3.2
    have hH2 : 0 ≤ H2 ∧ H2 ≤ 20000 := by have := j2.2.2.1; omega
    have xz : x ∈ zx := i7.1 x h8
    have xu : x ≠ u2 := fun e => i9 (by rw [← e]; exact h8)
    have g1x := mv_tf g1' h8 i7
    refine mr_read j1 (fun _ sy ty ky hney j1' => ?_)
    have g1y : MVq ty x 0 T H Z F' X I := mv_eq g1x (fun m => hney x xu m)
    have hGy := rgq_w i6 ky
    refine mr_expect hGy.1 (gm_k i3 (ky 0 10 rfl rfl)) (c := 25) (by decide) (by decide) (fun k25 s' ks' g' => ?_) (fun k25 => none6 (fun L => pv_h2 k24 hd2 (i1 (L ++ l ++ [stp 7 p1])) k25))
    have hG' := rgq_p hGy ks'
    have tf2 : TFq τ vs ty zx := tf_read (tf_tr tfr i7) (fun hx => i9 (h7.1 _ hx)) hney
    have sv : KPr s6 s6 → KPr sx s' := fun _ => kpr_tr (kpr_x (kw_x ky)) (kpr_p ks')
    refine mr_isP g1y (fun v120 w120 e120 => ?_)
    refine ⟨fun y => (y.toInt = 0 ↔ T2 ≠ 0 ∨ T < 1), fun y _ hy => ?_, T2 ≠ 0 ∨ T < 1, fun hx => ⟨fun _ => hx, fun _ => rfl⟩, fun hx => Or.inr (by omega), fun hx => mr_isI j1' (fun v128 w128 e128 => ⟨fun hy => Or.inl (fun h0 => absurd hy (by have := e128.2 h0; exact this)), fun hy => ⟨fun h1 => absurd h1 (by decide), fun h1 => by
      have := e128.1 hy
      have := e120.1 hx
      omega⟩⟩)⟩
    refine mr_must (rgq_0 hG') (fun s8 k8 f8 => mr_isP g1y (fun v145 w145 e145 => ?_))
    refine ⟨fun y => y.toInt = (if 0 < T then T - 1 else -2), fun y1 hy1 => ?_, fun hx => ?_, fun hx _ => ?_⟩
    · refine mr_made f8.1 g1y j1' xz i8 ⟨hH.1, hH.2, hH2.1, hH2.2⟩ (fun q s9 t9 hq k9 tf9 t0 mv f9 => mr_put2 (fun sp kp hqz => ?_))
      have k3 : KPr sx sp := kpr_tr (sv kpr_rf) (kpr_tr (kpr_x (kf_x k8)) (kpr_tr (kpr_x (kf_x k9)) (kpr_x (kw_x kp))))
      have e10 : sp 0 10 = s' 0 10 := (kp 0 10 rfl rfl).trans ((k9 0 10 rfl rfl).trans (k8 0 10 rfl rfl))
      have f3 : FTq sx sp ((T2 ≠ 0 ∨ T < 1) ∨ 60 < 1 + mxq H H2) := ft_from ((ks' 0 12 rfl rfl).trans (ky 0 12 rfl rfl)) ((ks' 0 15 rfl rfl).trans (ky 0 15 rfl rfl)) (ft_k (ft_iff (ft_tr f8 f9 (k8 0 15 rfl rfl)) (or_congr hy Iff.rfl)) (kp 0 12 rfl rfl))
      rw [hy1] at mv
      have hqvs : q ∉ vs := fun hx => hq (i7.1 q (h7.1 q hx))
      have m1 : MVq (upC t9 q 1 (3 : Int32)) q 3 (if 0 < T then T - 1 else -2) (1 + mxq H H2) 0 0 0 0 := mv_how mv (by rw [t0 2 (by decide) (by decide)]; rfl)
      have vT := g2.2.1
      have hmx : 1 + mxq H H2 ≤ (p2 : Int) + 1 - p ∧ 1 ≤ mxq H H2 := by
        have a1 := g2.2.2.1
        unfold mxq
        split <;> omega
      refine ⟨p2 + 1, l ++ [stp 7 p1] ++ l2 ++ [stp 10 p1], fun L R hR => h1 L R (pv_h3 k24 hd2 (i1 (L ++ l ++ [stp 7 p1])) k25 ?_), by omega, gm_k g' e10, kp_tr h4 (kp_tr kru.1 (kp_tr i4 k3.1)), fun hx => f3.2.2 (Or.inl (i5 (by rw [e12u]; exact h5 hx))), rgm_k i6 k3.1 (by rw [k3.2.2.1]; exact rgq_D i6) f3.1, tf_up (tf_up (tf_tr tf2 tf9) hqvs) hqvs, List.mem_append_right _ (List.mem_singleton.mpr rfl), hqvs, 3, _, 1 + mxq H H2, 0, 0, 0, 0, mv_tok m1, ⟨by omega, ?_, by omega, fun hx => absurd rfl hx, fun hx => absurd hx (by decide), fun hx => absurd hx (by decide), by omega, fun _ => ?_⟩, by omega, fun c hc => ?_⟩
      · simp only [List.append_assoc] at hR ⊢
        exact hR
      · split <;> omega
      · split <;> omega
      · obtain ⟨r1, r2⟩ := ro_in hd2 hc (by decide)
        refine ex_index (g4 c hc) (ex_src kru e12u (j4 (c + 1) r1)) g2 j2 h3.2 k24 (by omega) h4 (kp_tr kru.1 i4) (fun hx => i5 (by rw [e12u]; exact hx)) k3 f3 (fun _ _ => ⟨Iff.rfl, fun hb => by rw [if_pos (by omega)]⟩)
    · have h0 : ¬ 0 < T := fun hy => absurd hx (e145.2 hy)
      rw [if_neg h0]
      rfl
    · have h0 : 0 < T := e145.1 hx
      have e := g1y.2.1
      have := g2.2.1
      show ((ty x 0) - (1 : Int32)).toInt = _
      rw [if_pos h0, sb1 (by omega), e]
  refine mr_is h6.1 h3 (c := 24) (by decide) (by decide) (fun k24 => ?_) (fun k24 => ?_)
  · refine ⟨True, fun _ => mr_is h6.1 h3 (c := 24) (by decide) (by decide) (fun _ => ⟨fun _ => index k24, fun hx => absurd hx (by decide)⟩) (fun hx => absurd k24 hx), fun _ => trivial, fun hx => absurd hx (by decide)⟩
  · refine ⟨kd p1 = 61 ∨ kd p1 = 62, fun hj => mr_is h6.1 h3 (c := 24) (by decide) (by decide) (fun hx => absurd hx k24) (fun _ => ⟨fun hx => absurd rfl hx, fun _ => step hj⟩), fun hx => absurd rfl hx, fun _ => mr_is h6.1 h3 (c := 61) (by decide) (by decide) (fun k => ⟨fun _ => Or.inl k, fun hx => absurd hx (by decide)⟩) (fun k61 => ⟨fun hx => absurd rfl hx, fun _ => mr_is h6.1 h3 (c := 62) (by decide) (by decide) (fun k => ⟨fun hx => absurd hx (by decide), fun _ => Or.inr k⟩) (fun k62 => ⟨fun _ => ?_, fun hx => absurd rfl hx⟩)⟩)⟩
    exact hk x s6 t6 z6 ⟨p1, l, fun L => h1 L _ (pv_h5 ⟨k24, k61, k62⟩), h2, h3, h4, h5, h6, h7, h8, h9, K, T, H, Z, F', I, X, g1, g2, g3, g4⟩
end RBH
