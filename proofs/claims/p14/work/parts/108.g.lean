section
/-! the reference's expressions: unary, whole -/
section RUW
variable {σ s τ t : St} {kd : Nat → Int} {n S m lo d p : Nat} {vs : List Nat} {a : Int32}
variable {Kexpression Kchoice : Int32 → St → St → List Nat → (Nat → St → St → List Nat → Prop) → (St → St → List Nat → Prop) → Prop} {Kbinary : Int32 → Int32 → St → St → List Nat → (Nat → St → St → List Nat → Prop) → (St → St → List Nat → Prop) → Prop} {Kdecided : Int32 → Nat → Int32 → Int32 → St → St → List Nat → (Nat → St → St → List Nat → Prop) → (St → St → List Nat → Prop) → Prop} {Kunary Kbehind Kprimary : Int32 → St → St → List Nat → (Nat → St → St → List Nat → Prop) → (St → St → List Nat → Prop) → Prop} {Kcall_0 : Int32 → Int32 → St → St → List Nat → (Nat → St → St → List Nat → Prop) → (St → St → List Nat → Prop) → Prop}
theorem er_unary (ha : a.toInt = (d : Int)) (hd : d ≤ 25)
    (hU : d < 25 → ∀ v : Int32, v.toInt = (d : Int) + 1 → ∀ p, ERq kd n S m lo 2 (d + 1) 0 p (Kunary v))
    (hB : ∀ p, ¬ UNq (kd p) → ¬ (kd p = 20 ∧ kd (p + 1) = 5) → ERq kd n S m lo 2 d 0 p (Kbehind a)) :
    ERq kd n S m lo 2 d 0 p (fun σ τ vs Q T => pp_unary Kexpression Kchoice Kbinary Kdecided Kunary Kbehind Kprimary Kcall_0 a σ τ vs Q T) := by
  intro σ τ vs Q F hG hg hk hn
  show pp_unary Kexpression Kchoice Kbinary Kdecided Kunary Kbehind Kprimary Kcall_0 a σ τ vs Q (fun _ _ _ => F)
  unfold pp_unary
  have hk62 := hG.1.2.2.1 p
  have hn16 := hG.1.1
  have hgr : ∀ {s : St}, Kp [(0, 10)] [] σ s → RGm kd n S m lo s := fun {s} ks => rgm_k hG (kpr_p ks).1 (by rw [ks 0 37 rfl rfl]; exact hG.2.2.2.2.2.2.2.2.2.2.1) (by rw [ks 0 12 rfl rfl]; exact hG.2.2.2.2.2.2.2.2.2.2.2)
  refine mr_sign hG.1 hg (fun v6 hv => ?_)
  obtain ⟨i41, i37, i33, i38, i18, i19⟩ := rk_iff3 (sg := kd p) hk62 hv
  obtain ⟨i42, i20, _⟩ := rk_iff5 hk62
  rw [← hv] at i42 i20
  refine ⟨UNq (kd p), fun hun => ?_, fun c => by have := i37.1 c; unfold UNq; omega, fun n37 => ⟨fun c => by have := i41.1 c; unfold UNq; omega, fun n41 => ⟨fun c => by have := i42.1 c; unfold UNq; omega, fun n42 => ⟨fun c => by have := i38.1 c; unfold UNq; omega, fun n38 => ⟨fun c => by have := i33.1 c; unfold UNq; omega, fun n33 => ⟨fun c => by have := i18.1 c; unfold UNq; omega, fun n18 => ⟨fun n19 => ?_, fun c => by have := i19.1 c; unfold UNq; omega⟩⟩⟩⟩⟩⟩⟩
  · have h2 : 2 ≤ kd p := by unfold UNq at hun; omega
    refine mr_deeper ha hd (fun hd2 v hv' => ?_) (fun hd2 => hn (fun L => pv_u0 hun hd2))
    have k0 : Kp [(0, 10)] [] σ (upC σ 0 10 ((σ 0 10) + (1 : Int32))) := kp_f kp_rf rfl
    exact hU hd2 v hv' (p + 1) _ τ vs _ F (hgr k0) (gm_up hG.1 hg h2) (fun u s t z he => er_sign hg.2 hn16 hd2 hun hk62 hv k0 he hk) (fun hnone => hn (fun L => pv_u1 hun hd2 (hnone L)))
  · have nun : ¬ UNq (kd p) := fun hun => by
      unfold UNq at hun
      rcases hun with e | e | e | e | e | e | e
      · exact n37 (i37.2 e)
      · exact n41 (i41.2 e)
      · exact n42 (i42.2 e)
      · exact n38 (i38.2 e)
      · exact n33 (i33.2 e)
      · exact n18 (i18.2 e)
      · exact n19 (i19.2 e)
    refine ⟨¬ (kd p = 20 ∧ kd (p + 1) = 5), fun hj => hB p nun hj σ τ vs _ F hG hg hk hn, fun c hx => c (i20.2 hx.1), fun c _ => ?_⟩
    have k20 := i20.1 c
    have hlt := gm_lt hG.1 hg (by omega)
    have e1 : ((σ 0 10) + (1 : Int32)).toNatClampNeg = p + 1 := nat_of (by rw [ad0 i1 (by have := hg.1; omega) (by have := hg.1; omega), hg.1]; rfl)
    rw [e1, hG.1.2.1 (p + 1) (by omega)]
    have i5 := (rk_iff5 (hG.1.2.2.1 (p + 1))).2.2
    refine ⟨fun c5 hx => c5 (i5.2 hx.2), fun c5 => ?_⟩
    have k5 := i5.1 c5
    have k01 : Kp [(0, 10)] [] σ (upC σ 0 10 ((σ 0 10) + (1 : Int32))) := kp_f kp_rf rfl
    have hlt2 : p + 1 < n := gm_lt (hgr k01).1 (gm_up hG.1 hg (by omega)) (by omega)
    refine mr_deeper ha hd (fun hd2 v hv' => ?_) (fun hd2 => hn (fun L => pv_t0 ⟨k20, k5⟩ hd2))
    have k0 : Kp [(0, 10)] [] σ (upC σ 0 10 ((σ 0 10) + (2 : Int32))) := kp_f kp_rf rfl
    have g2 : GMt (upC σ 0 10 ((σ 0 10) + (2 : Int32))) n (p + 2) := by
      refine ⟨?_, by omega⟩
      rw [rdA_eq rfl, ad0 (n := 2) (by decide) (by have := hg.1; omega) (by have := hg.1; omega), hg.1]
      rfl
    refine mr_stars (hgr k0).1 g2 (fun x s1 i p1 hx hi5 hs hpp g1 ks1 => ?_) (fun hs => hn (fun L => pv_t1 ⟨k20, k5⟩ hd2 hs))
    have k1 := kp_tr k0 ks1
    refine mr_expect (hgr k1).1 g1 (c := 21) (by decide) (by decide) (fun k21 s2 ks2 g2' => ?_) (fun k21 => hn (fun L => pv_t2 ⟨k20, k5⟩ hd2 hs k21))
    have k2 := kp_tr k1 ks2
    refine hU hd2 v hv' (p1 + 1) s2 τ vs _ F (hgr k2) g2' (fun u s t z he => ?_) (fun hnone => hn (fun L => pv_t3 ⟨k20, k5⟩ hd2 hs k21 (hnone L)))
    obtain ⟨p', l, h1, h2, h3, h4, h5, h6, h7, h8, h9, K, T, H, Z, F', I, X, g3, g4, g5, g6⟩ := he
    have hp' := h3.2
    have hH : 0 ≤ H ∧ H ≤ 20000 := by have := g4.2.2.1; omega
    refine mr_read g3 (fun _ sr tr kr hne g1' => mr_isA g1' (fun v7 _ w7 => mr_must (by rw [kr 0 12 rfl rfl]; exact h6.2.2.2.2.2.2.2.2.2.2.2) (fun s8 k8 f8 => mr_made f8.1 g1' g1' h8 h8 ⟨hH.1, hH.2, hH.1, hH.2⟩ (fun q s9 t9 hq k9 tf t0 mv f9 => hk q s9 t9 _ ?_))))
    rw [mx_same] at mv f9
    have tfr : TFq τ vs tr z := ⟨h7.1, fun w hw k => by
      rw [hne w (fun e => h9 (by rw [← e]; exact hw)) k]
      exact h7.2 w hw k⟩
    have k3 : KPr s s9 := kpr_tr (kpr_x (kw_x kr)) (kpr_tr (kpr_x (kf_x k8)) (kpr_x (kf_x k9)))
    have f3 : FTq s s9 (v7.toInt = 0 ∨ 60 < 1 + H) := ft_from (kr 0 12 rfl rfl) (kr 0 15 rfl rfl) (ft_tr f8 f9 (k8 0 15 rfl rfl))
    have e12 : s2 0 12 = σ 0 12 := k2 0 12 rfl rfl
    rw [hx] at mv
    have vT := g4.2.1
    refine ⟨p', l ++ [(12, p, (i : Int), 0)], fun L => ?_, by omega, gm_k h3 (((k9 0 10 rfl rfl).trans (k8 0 10 rfl rfl)).trans (kr 0 10 rfl rfl)), kp_tr (kpr_p k2).1 (kp_tr h4 k3.1), fun hy => f3.2.2 (Or.inl (h5 (by rw [e12]; exact hy))), rgm_k h6 k3.1 (by rw [k3.2.2.1]; exact h6.2.2.2.2.2.2.2.2.2.2.1) f3.1, tf_new tfr tf, List.mem_append_right _ (List.mem_singleton.mpr rfl), fun hy => hq (h7.1 q hy), 0, i, 1 + H, 0, 0, 0, 0, mv, ⟨by omega, by omega, by omega, fun hy => absurd rfl hy, fun hy => absurd hy (by decide), fun hy => absurd hy (by decide), by omega, fun hy => by omega⟩, by omega, fun c hc => ex_src (kpr_p k2) e12 ?_⟩
    · have := pv_t3 (m := 0) ⟨k20, k5⟩ hd2 hs k21 (h1 L)
      rw [← List.append_assoc]
      exact this
    · have hc2 : ROq c (d + 1) (rmq 2 0) ∧ c < 490 := by
        unfold ROq rmq at hc ⊢
        rw [if_neg (by decide), if_neg (by decide), if_neg (by decide)] at hc ⊢
        omega
      exact ex_cast (g6 c hc2.1) g4 hc2.2 h4 k3 f3 (by omega) (fun hT => ⟨fun hy => by omega, fun hy => by omega⟩)
end RUW
end

section
/-! the reference's expressions: what stands behind a primary one -/
/-- so far: at p1, behind l; G tells what the grammar still wants -/
def EBq (kd : Nat → Int) (n S m lo d r p : Nat) (G : Nat → List Stq → Prop) (σ τ : St) (vs : List Nat) (u : Nat) (s t : St) (z : List Nat) : Prop :=
  ∃ (p1 : Nat) (l : List Stq), G p1 l ∧ p < p1 ∧ GMt s n p1 ∧ KEr σ s ∧ MNq σ s ∧ RGm kd n S m lo s ∧ TFq τ vs t z ∧ u ∈ z ∧ u ∉ vs
    ∧ ∃ (K T H Z F I : Int) (X : Int32), MVq t u K T H Z F X I ∧ VRq K T H Z F ∧ H ≤ (p1 : Int) - p ∧ ∀ c, ROq c d r → EXq kd n S m lo c l σ s K T H Z F X
section RBH
variable {σ σ1 σ2 σ3 s s2 τ t t2 : St} {kd : Nat → Int} {n S m lo d p p1 u q c : Nat} {vs z : List Nat} {a b : Int32} {l l1 : List Stq} {K T H Z F I T3 : Int} {X : Int32} {B : Prop}
variable {Kexpression Kchoice : Int32 → St → St → List Nat → (Nat → St → St → List Nat → Prop) → (St → St → List Nat → Prop) → Prop} {Kbinary : Int32 → Int32 → St → St → List Nat → (Nat → St → St → List Nat → Prop) → (St → St → List Nat → Prop) → Prop} {Kdecided : Int32 → Nat → Int32 → Int32 → St → St → List Nat → (Nat → St → St → List Nat → Prop) → (St → St → List Nat → Prop) → Prop} {Kunary Kbehind Kprimary : Int32 → St → St → List Nat → (Nat → St → St → List Nat → Prop) → (St → St → List Nat → Prop) → Prop} {Kcall_0 : Int32 → Int32 → St → St → List Nat → (Nat → St → St → List Nat → Prop) → (St → St → List Nat → Prop) → Prop}
/-- one more or less, behind it; whatever its type is called where it is bad -/
theorem ex_step3 (hA : EXq kd n S m lo c l1 σ σ1 K T H Z F X) (vA : VRq K T H Z F) (hc : c < 490) (k1 : KEr σ σ1) (k3 : KPr σ1 σ3) (f3 : FTq σ1 σ3 (B ∨ 60 < 1 + H)) (hB : T ≠ -2 → (B ↔ ¬ (1 ≤ K ∧ K ≤ 3)) ∧ (¬ B → T3 = T)) :
    EXq kd n S m lo c (l1 ++ [stp 13 q]) σ σ3 0 T3 (1 + H) 0 0 0 := by
  refine ex_end1 hA k1 k3 f3 (fun hx => absurd hx (by decide)) (fun s i c0 g2 g3 g4 g6 g7 Q kk => xk_step (fun a ha => xl_top g6 (by omega) (xt_step g6 (by omega) c0 g7 (by have := vA.2.2.1; omega) (fun s4 k4 e47 hA4 ef => kk s4 k4 e47 (by rw [ef, (hB g2).1]) (fun hb _ => ⟨by rw [(hB g2).2 hb]; exact g2, 0, by rw [(hB g2).2 hb]; exact hA4⟩)))))
theorem rgq_p (hG : RGm kd n S m lo σ) (ks : Kp [(0, 10)] [] σ s) : RGm kd n S m lo s := rgm_k hG (kpr_p ks).1 (by rw [ks 0 37 rfl rfl]; exact hG.2.2.2.2.2.2.2.2.2.2.1) (by rw [ks 0 12 rfl rfl]; exact hG.2.2.2.2.2.2.2.2.2.2.2)
theorem rgq_w (hG : RGm kd n S m lo σ) (ks : KWr σ s) : RGm kd n S m lo s := rgm_k hG (kpr_x (kw_x ks)).1 (by rw [ks 0 37 rfl rfl]; exact hG.2.2.2.2.2.2.2.2.2.2.1) (by rw [ks 0 12 rfl rfl]; exact hG.2.2.2.2.2.2.2.2.2.2.2)
theorem rgq_0 (hG : RGm kd n S m lo σ) : 0 ≤ (σ 0 12).toInt := hG.2.2.2.2.2.2.2.2.2.2.2
theorem rgq_D (hG : RGm kd n S m lo σ) : ∃ D : Nat, (σ 0 37).toInt = (D : Int) ∧ D ≤ 16000 := hG.2.2.2.2.2.2.2.2.2.2.1
/-- what is read: only its Value changes -/
theorem tf_read (h7 : TFq τ vs t z) (h9 : u ∉ vs) (hne : ∀ v, v ≠ u → ∀ m, t2 v m = t v m) : TFq τ vs t2 z := ⟨h7.1, fun w hw m => by
  rw [hne w (fun e => h9 (by rw [← e]; exact hw)) m]
  exact h7.2 w hw m⟩
theorem ro_in {d r c : Nat} (hd : d < 25) (h : ROq c d r) (hr : 1 ≤ r) : ROq (c + 1) (d + 1) 13 ∧ c < 480 := by
  unfold ROq at h ⊢
  omega
theorem er_behind (ha : a.toInt = (d : Int)) (hd : d ≤ 25) (hp1 : ¬ UNq (kd p)) (hp2 : ¬ (kd p = 20 ∧ kd (p + 1) = 5))
    (hP : ERq kd n S m lo 4 d 0 p (Kprimary a)) (hE : d < 25 → ∀ v : Int32, v.toInt = (d : Int) + 1 → ∀ p, ERq kd n S m lo 0 (d + 1) 0 p (Kexpression v)) :
    ERq kd n S m lo 2 d 0 p (fun σ τ vs Q T => pp_behind Kexpression Kchoice Kbinary Kdecided Kunary Kbehind Kprimary Kcall_0 a σ τ vs Q T) := by
  intro σ τ vs Q F hG hg hk hn
  show pp_behind Kexpression Kchoice Kbinary Kdecided Kunary Kbehind Kprimary Kcall_0 a σ τ vs Q (fun _ _ _ => F)
  unfold pp_behind
  have hn16 := hG.1.1
  refine hP σ τ vs _ F hG hg (fun u s t z he => ?_) (fun hnone => hn (fun L => pv_b0 hp1 hp2 (hnone L)))
  refine ⟨fun u s t z => EBq kd n S m lo d 1 p (fun p1 l => ∀ L R, PVq kd 6 d 0 p1 (L ++ l) R → PVq kd 2 d 0 p L R) σ τ vs u s t z, ?_, ?_⟩
  · obtain ⟨p', l, h1, h2, h3, h4, h5, h6, h7, h8, h9, K, T, H, Z, F', I, X, g1, g2, g3, g4⟩ := he
    exact ⟨p', l, fun L R hR => pv_b1 hp1 hp2 (h1 L) hR, h2, h3, h4, h5, h6, h7, h8, h9, K, T, H, Z, F', I, X, g1, g2, g3, g4⟩
  rintro x s6 t6 z6 ⟨p1, l, h1, h2, h3, h4, h5, h6, h7, h8, h9, K, T, H, Z, F', I, X, g1, g2, g3, g4⟩
  have hpn := h3.2
  have hH : 0 ≤ H ∧ H ≤ 20000 := by have := g2.2.2.1; omega
  have none6 : (∀ L, PVq kd 6 d 0 p1 (L ++ l) none) → F := fun hx => hn (fun L => h1 L none (hx L))
  have step : (kd p1 = 61 ∨ kd p1 = 62) → pp_sign s6 t6 z6 (fun v48 => pp_stepped x v48 (1 : Int32) (s6 0 10) (upC s6 0 10 ((s6 0 10) + (1 : Int32))) t6 z6 (fun u69 s69 t69 z69 => EBq kd n S m lo d 1 p (fun p1 l => ∀ L R, PVq kd 6 d 0 p1 (L ++ l) R → PVq kd 2 d 0 p L R) σ τ vs u69 s69 t69 z69)) := fun k6 => by
    refine mr_sign h6.1 h3 (fun v48 hv => ?_)
    have k0 : Kp [(0, 10)] [] s6 (upC s6 0 10 ((s6 0 10) + (1 : Int32))) := kp_f kp_rf rfl
    have gu := gm_up h6.1 h3 (by omega)
    refine mr_stepped (by rw [k0 0 12 rfl rfl]; exact rgq_0 h6) g1 h8 hH (fun q s2 t2 T' hq ks tf mv t1 t2' f3 => ?_)
    have k3 : KPr s6 s2 := kpr_tr (kpr_p k0) (kpr_x ks)
    have f3' := ft_from (k0 0 12 rfl rfl) (k0 0 15 rfl rfl) f3
    have vK := g2.1
    have vT := g2.2.1
    have vKT := g2.2.2.2.2.2.2.2
    refine ⟨p1 + 1, l ++ [stp 13 p1], fun L R hR => h1 L R (pv_h4 k6 (by rw [List.append_assoc]; exact hR)), by omega, gm_k gu (ks 0 10 rfl rfl), kp_tr h4 k3.1, fun hx => f3'.2.2 (Or.inl (h5 hx)), rgm_k h6 k3.1 (by rw [k3.2.2.1]; exact rgq_D h6) f3'.1, tf_tr h7 tf, List.mem_append_right _ (List.mem_singleton.mpr rfl), fun hx => hq (h7.1 q hx), 0, T', 1 + H, 0, 0, 0, 0, mv, ⟨by omega, ?_, by omega, fun hx => absurd rfl hx, fun hx => absurd hx (by decide), fun hx => absurd hx (by decide), by omega, fun hx => by omega⟩, by omega, fun c hc => ?_⟩
    · by_cases c : K = 0 ∨ T < 0
      · rw [t1 c]; omega
      · rw [t2' c]; exact vT
    · refine ex_step3 (g4 c hc) g2 (by unfold ROq at hc; omega) h4 k3 f3' (fun hT => ⟨⟨fun hx => by omega, fun hx => by omega⟩, fun hx => t2' hx⟩)
  have index : kd p1 = 24 → pp_read_1 x s6 t6 z6 (fun s78 t78 z78 => pp_deeper a s78 t78 z78 (fun v83 s83 t83 z83 => Kexpression v83 (upC s83 0 10 ((s83 0 10) + (1 : Int32))) t83 z83 (fun u101 s101 t101 z101 => pp_read_1 u101 s101 t101 z101 (fun s109 t109 z109 => pp_expect (25 : Int32) s109 t109 z109 (fun s115 t115 z115 => pp_isPointer x s115 t115 z115 (fun v120 => ∃ J139 : Int32 → Prop, (∀ (y1_139 : Int32), y1_139 = 0 ∨ y1_139 = 1 → (J139 y1_139 → (pp_must y1_139 (s6 0 10) s115 t115 z115 (fun s140 t140 z140 => pp_isPointer x s140 t140 z140 (fun v145 => ∃ J162 : Int32 → Prop, (∀ (y1_162 : Int32), J162 y1_162 → (pp_made y1_162 x u101 (s6 0 10) s140 t140 z140 (fun u166 s166 t166 z166 => pp_put_2 (11 : Int32) (36 : Int32) (0 : Int32) s166 t166 z166 (fun s177 t177 z177 => (u166 ∈ z177) → (EBq kd n S m lo d 1 p (fun p1 l => ∀ L R, PVq kd 6 d 0 p1 (L ++ l) R → PVq kd 2 d 0 p L R) σ τ vs u166 s177 (upC (upC t177 u166 1 (3 : Int32)) u166 4 (s6 0 10)) z177))))) ∧ ((v145.toInt = 0 → (J162 ((-2) : Int32))) ∧ (v145.toInt ≠ 0 → ((x ∈ z140) → (J162 ((t140 x 0) - (1 : Int32))))))))))) ∧ (∃ J138 : Prop, (J138 → (J139 (0 : Int32))) ∧ ((v120.toInt = 0 → (J138)) ∧ (v120.toInt ≠ 0 → (pp_isInt u101 s115 t115 z115 (fun v128 => (v128.toInt = 0 → (J138)) ∧ (v128.toInt ≠ 0 → (J139 (1 : Int32)))))))))) (fun _ _ _ => F))) (fun _ _ _ => F)) (fun _ _ _ => F)) := fun k24 => by
    refine mr_read g1 (fun _ sr tr kr hne g1' => ?_)
    have tfr : TFq τ vs tr z6 := tf_read h7 h9 hne
    refine mr_deeper ha hd (fun hd2 v hv => ?_) (fun hd2 => none6 (fun L => pv_h0 k24 hd2))
    have k0 : Kp [(0, 10)] [] sr (upC sr 0 10 ((sr 0 10) + (1 : Int32))) := kp_f kp_rf rfl
    have hGr := rgq_w h6 kr
    have gr : GMt sr n p1 := gm_k h3 (kr 0 10 rfl rfl)
    have gu := gm_up hGr.1 gr (by omega)
    have hGu := rgq_p hGr k0
    generalize hsu : upC sr 0 10 ((sr 0 10) + (1 : Int32)) = su at k0 gu hGu ⊢
    have kru : KPr s6 su := kpr_tr (kpr_x (kw_x kr)) (kpr_p k0)
    have e12u : su 0 12 = s6 0 12 := (k0 0 12 rfl rfl).trans (kr 0 12 rfl rfl)
    refine hE hd2 v hv (p1 + 1) su tr z6 _ F hGu gu (fun u2 sx tx zx hx => ?_) (fun hnone => none6 (fun L => pv_h1 k24 hd2 (hnone (L ++ l ++ [stp 7 p1]))))
    obtain ⟨p2, l2, i1, i2, i3, i4, i5, i6, i7, i8, i9, K2, T2, H2, Z2, F2, I2, X2, j1, j2, j3, j4⟩ := hx
    have hp2n := i3.2
    have hH2 : 0 ≤ H2 ∧ H2 ≤ 20000 := by have := j2.2.2.1; omega
    have xz : x ∈ zx := i7.1 x h8
    have xu : x ≠ u2 := fun e => i9 (by rw [← e]; exact h8)
    have g1x := mv_tf g1' h8 i7
    refine mr_read j1 (fun _ sy ty ky hney j1' => ?_)
    have g1y : MVq ty x 0 T H Z F' X I := mv_eq g1x (fun m => hney x xu m)
    have hGy := rgq_w i6 ky
    refine mr_expect hGy.1 (gm_k i3 (ky 0 10 rfl rfl)) (c := 25) (by decide) (by decide) (fun k25 s' ks' g' => ?_) (fun k25 => none6 (fun L => pv_h2 k24 hd2 (i1 (L ++ l ++ [stp 7 p1])) k25))
    have hG' := rgq_p hGy ks'
    have tf2 : TFq τ vs ty zx := tf_read (tf_tr tfr i7) (fun hx => i9 (h7.1 _ hx)) hney
    have sv : KPr s6 s6 → KPr sx s' := fun _ => kpr_tr (kpr_x (kw_x ky)) (kpr_p ks')
    refine mr_isP g1y (fun v120 w120 e120 => ?_)
    refine ⟨fun y => (y.toInt = 0 ↔ T2 ≠ 0 ∨ T < 1), fun y _ hy => ?_, T2 ≠ 0 ∨ T < 1, fun hx => ⟨fun _ => hx, fun _ => rfl⟩, fun hx => Or.inr (by omega), fun hx => mr_isI j1' (fun v128 w128 e128 => ⟨fun hy => Or.inl (fun h0 => absurd hy (by have := e128.2 h0; exact this)), fun hy => ⟨fun h1 => absurd h1 (by decide), fun h1 => by
      have := e128.1 hy
      have := e120.1 hx
      omega⟩⟩)⟩
    refine mr_must (rgq_0 hG') (fun s8 k8 f8 => mr_isP g1y (fun v145 w145 e145 => ?_))
    refine ⟨fun y => y.toInt = (if 0 < T then T - 1 else -2), fun y1 hy1 => ?_, fun hx => ?_, fun hx _ => ?_⟩
    · refine mr_made f8.1 g1y j1' xz i8 ⟨hH.1, hH.2, hH2.1, hH2.2⟩ (fun q s9 t9 hq k9 tf9 t0 mv f9 => mr_put2 (fun sp kp hqz => ?_))
      have k3 : KPr sx sp := kpr_tr (sv kpr_rf) (kpr_tr (kpr_x (kf_x k8)) (kpr_tr (kpr_x (kf_x k9)) (kpr_x (kw_x kp))))
      have e10 : sp 0 10 = s' 0 10 := (kp 0 10 rfl rfl).trans ((k9 0 10 rfl rfl).trans (k8 0 10 rfl rfl))
      have f3 : FTq sx sp ((T2 ≠ 0 ∨ T < 1) ∨ 60 < 1 + mxq H H2) := ft_from ((ks' 0 12 rfl rfl).trans (ky 0 12 rfl rfl)) ((ks' 0 15 rfl rfl).trans (ky 0 15 rfl rfl)) (ft_k (ft_iff (ft_tr f8 f9 (k8 0 15 rfl rfl)) (or_congr hy Iff.rfl)) (kp 0 12 rfl rfl))
      rw [hy1] at mv
      have hqvs : q ∉ vs := fun hx => hq (i7.1 q (h7.1 q hx))
      have m1 : MVq (upC t9 q 1 (3 : Int32)) q 3 (if 0 < T then T - 1 else -2) (1 + mxq H H2) 0 0 0 0 := mv_how mv (by rw [t0 2 (by decide) (by decide)]; rfl)
      have vT := g2.2.1
      have hmx : 1 + mxq H H2 ≤ (p2 : Int) + 1 - p ∧ 1 ≤ mxq H H2 := by
        have a1 := g2.2.2.1
        unfold mxq
        split <;> omega
      refine ⟨p2 + 1, l ++ [stp 7 p1] ++ l2 ++ [stp 10 p1], fun L R hR => h1 L R (pv_h3 k24 hd2 (i1 (L ++ l ++ [stp 7 p1])) k25 ?_), by omega, gm_k g' e10, kp_tr h4 (kp_tr kru.1 (kp_tr i4 k3.1)), fun hx => f3.2.2 (Or.inl (i5 (by rw [e12u]; exact h5 hx))), rgm_k i6 k3.1 (by rw [k3.2.2.1]; exact rgq_D i6) f3.1, tf_up (tf_up (tf_tr tf2 tf9) hqvs) hqvs, List.mem_append_right _ (List.mem_singleton.mpr rfl), hqvs, 3, _, 1 + mxq H H2, 0, 0, 0, 0, mv_tok m1, ⟨by omega, ?_, by omega, fun hx => absurd rfl hx, fun hx => absurd hx (by decide), fun hx => absurd hx (by decide), by omega, fun _ => ?_⟩, by omega, fun c hc => ?_⟩
      · simp only [List.append_assoc] at hR ⊢
        exact hR
      · split <;> omega
      · split <;> omega
      · obtain ⟨r1, r2⟩ := ro_in hd2 hc (by decide)
        refine ex_index (g4 c hc) (ex_src kru e12u (j4 (c + 1) r1)) g2 j2 h3.2 k24 (by omega) h4 (kp_tr kru.1 i4) (fun hx => i5 (by rw [e12u]; exact hx)) k3 f3 (fun _ _ => ⟨Iff.rfl, fun hb => by rw [if_pos (by omega)]⟩)
    · have h0 : ¬ 0 < T := fun hy => absurd hx (e145.2 hy)
      rw [if_neg h0]
      rfl
    · have h0 : 0 < T := e145.1 hx
      have e := g1y.2.1
      have := g2.2.1
      show ((ty x 0) - (1 : Int32)).toInt = _
      rw [if_pos h0, sb1 (by omega), e]
  refine mr_is h6.1 h3 (c := 24) (by decide) (by decide) (fun k24 => ?_) (fun k24 => ?_)
  · refine ⟨True, fun _ => mr_is h6.1 h3 (c := 24) (by decide) (by decide) (fun _ => ⟨fun _ => index k24, fun hx => absurd hx (by decide)⟩) (fun hx => absurd k24 hx), fun _ => trivial, fun hx => absurd hx (by decide)⟩
  · refine ⟨kd p1 = 61 ∨ kd p1 = 62, fun hj => mr_is h6.1 h3 (c := 24) (by decide) (by decide) (fun hx => absurd hx k24) (fun _ => ⟨fun hx => absurd rfl hx, fun _ => step hj⟩), fun hx => absurd rfl hx, fun _ => mr_is h6.1 h3 (c := 61) (by decide) (by decide) (fun k => ⟨fun _ => Or.inl k, fun hx => absurd hx (by decide)⟩) (fun k61 => ⟨fun hx => absurd rfl hx, fun _ => mr_is h6.1 h3 (c := 62) (by decide) (by decide) (fun k => ⟨fun hx => absurd hx (by decide), fun _ => Or.inr k⟩) (fun k62 => ⟨fun _ => ?_, fun hx => absurd rfl hx⟩)⟩)⟩
    exact hk x s6 t6 z6 ⟨p1, l, fun L => h1 L _ (pv_h5 ⟨k24, k61, k62⟩), h2, h3, h4, h5, h6, h7, h8, h9, K, T, H, Z, F', I, X, g1, g2, g3, g4⟩
end RBH
end

section
/-! the reference's expressions: two sides -/
/-- the right side of the sign at p1, and the sign: from the left Value on -/
def ETq (kd : Nat → Int) (n S m lo d p1 : Nat) (K T H Z F : Int) (X : Int32) (σ τ : St) (vs : List Nat) (q : Nat) (s t : St) (z : List Nat) : Prop :=
  ∃ (p2 : Nat) (l2 : List Stq) (σ2 : St) (K2 T2 H2 Z2 F2 T3 F3 I : Int) (X2 X3 : Int32) (B : Prop), (∀ L, PVq kd 7 d ((lvq (kd p1)).toNat + 1) (p1 + 1) L (some (p2, L ++ l2))) ∧ p1 + 1 < p2 ∧ GMt s n p2 ∧ KEr σ σ2 ∧ MNq σ σ2 ∧ RGm kd n S m lo s ∧ TFq τ vs t z ∧ q ∈ z ∧ q ∉ vs
    ∧ MVq t q 0 T3 (1 + mxq H H2) 0 F3 X3 I ∧ VRq 0 T3 (1 + mxq H H2) 0 F3 ∧ VRq K2 T2 H2 Z2 F2 ∧ H2 ≤ (p2 : Int) - ((p1 + 1 : Nat) : Int) ∧ (∀ c, ROq c d (rmq 7 ((lvq (kd p1)).toNat + 1)) → EXq kd n S m lo c l2 σ σ2 K2 T2 H2 Z2 F2 X2)
    ∧ KPr σ2 s ∧ FTq σ2 s (B ∨ 60 < 1 + mxq H H2) ∧ (F3 = 1 → F = 1 ∧ F2 = 1 ∧ ¬ B ∧ 1 + mxq H H2 ≤ 60) ∧ (T ≠ -2 → T2 ≠ -2 → (B ↔ tyq (kd p1) T T2 Z Z2 = -2) ∧ (¬ B → 1 + mxq H H2 ≤ 60 → T3 = tyq (kd p1) T T2 Z Z2 ∧ F3 = fcq (kd p1) F F2 X2 ∧ (F3 = 1 → X3 = wkq (kd p1) X X2)))
/-- && and ||: behind the sign -/
def EDq (kd : Nat → Int) (n S m lo d : Nat) (f : Int32 → Nat → Int32 → St → St → List Nat → (Nat → St → St → List Nat → Prop) → (St → St → List Nat → Prop) → Prop) : Prop :=
  ∀ (x tk : Int32) (u p1 : Nat) (σ τ : St) (vs : List Nat) (K T H Z F I : Int) (X : Int32) (Q : Nat → St → St → List Nat → Prop) (E : Prop), kd p1 = 57 ∨ kd p1 = 58 → x.toInt = rkI (kd p1) - 32 → p1 ≤ n → RGm kd n S m lo σ → GMt σ n (p1 + 1) → u ∈ vs → MVq τ u K T H Z F X I → VRq K T H Z F → H ≤ 20000 →
    (∀ q s t z, ETq kd n S m lo d p1 K T H Z F X σ τ vs q s t z → Q q s t z) → ((∀ L, PVq kd 7 d ((lvq (kd p1)).toNat + 1) (p1 + 1) L none) → E) → f x u tk σ τ vs Q (fun _ _ _ => E)
section RBI
variable {σ σ1 σ2 σ3 s s2 τ t t2 : St} {kd : Nat → Int} {n S m lo d p p1 k u q c : Nat} {vs z : List Nat} {a b : Int32} {l l1 : List Stq} {K T H Z F I T3 : Int} {X : Int32} {B : Prop}
variable {Kexpression Kchoice : Int32 → St → St → List Nat → (Nat → St → St → List Nat → Prop) → (St → St → List Nat → Prop) → Prop} {Kbinary : Int32 → Int32 → St → St → List Nat → (Nat → St → St → List Nat → Prop) → (St → St → List Nat → Prop) → Prop} {Kdecided : Int32 → Nat → Int32 → Int32 → St → St → List Nat → (Nat → St → St → List Nat → Prop) → (St → St → List Nat → Prop) → Prop} {Kunary Kbehind Kprimary : Int32 → St → St → List Nat → (Nat → St → St → List Nat → Prop) → (St → St → List Nat → Prop) → Prop} {Kcall_0 : Int32 → Int32 → St → St → List Nat → (Nat → St → St → List Nat → Prop) → (St → St → List Nat → Prop) → Prop}
theorem rk_58 : rkI 57 - 32 = 10 ∧ rkI 58 - 32 = 11 := by decide
theorem rk_1011 : ∀ a : Nat, a < 63 → (rkI (a : Int) - 32 = 10 ↔ a = 57) ∧ (rkI (a : Int) - 32 = 11 ↔ a = 58) := by decide
theorem rk_iff6 {k : Int} (hr : 0 ≤ k ∧ k ≤ 62) : (rkI k - 32 = 10 ↔ k = 57) ∧ (rkI k - 32 = 11 ↔ k = 58) := by
  have hi := rk_1011 k.toNat (by omega)
  rw [show ((k.toNat : Nat) : Int) = k from by omega] at hi
  omega
theorem rmq_7 : rmq 7 k = 12 - k := rfl
theorem lv_n (x : Int) : ((lvq x).toNat : Int) = lvq x ∧ (lvq x).toNat ≤ 10 := by
  have := lvq_r x
  omega
theorem ty_dec {x y zx zy : Int} (hs : B = True ∨ True) : tyq 57 x y zx zy = tyq 58 x y zx zy := by
  unfold tyq
  simp
theorem er_decided {a2 : Int32} (ha : a2.toInt = (d : Int)) (hd : d ≤ 25) (hB : ∀ (k p : Nat) (v : Int32), v.toInt = (k : Int) → 1 ≤ k → k ≤ 11 → ERq kd n S m lo 7 d k p (Kbinary v a2)) :
    EDq kd n S m lo d (fun x u tk σ τ vs Q T => pp_decided Kexpression Kchoice Kbinary Kdecided Kunary Kbehind Kprimary Kcall_0 x u tk a2 σ τ vs Q T) := by
  intro x tk u p1 σ τ vs K T H Z F I X Q E hsg hx hp1 hG hg hu hA vA hH hk hn
  show pp_decided Kexpression Kchoice Kbinary Kdecided Kunary Kbehind Kprimary Kcall_0 x u tk a2 σ τ vs Q (fun _ _ _ => E)
  unfold pp_decided
  have hk62 := hG.1.2.2.1 p1
  have hn16 := hG.1.1
  have hl := lv_n (kd p1)
  refine ⟨fun _ => True, fun y _ => mr_open (fun v14 s14 k14 => mr_rank hk62 hx (fun v21 hv21 => ?_)), fun _ => trivial, fun _ => trivial⟩
  have hG14 := rgq_w hG k14
  refine hB ((lvq (kd p1)).toNat + 1) (p1 + 1) (v21 + (1 : Int32)) (by rw [ad1 (by omega), hv21]; omega) (by omega) (by omega) s14 τ vs _ E hG14 (gm_k hg (k14 0 10 rfl rfl)) (fun q2 s t z he => ?_) (fun hnone => hn hnone)
  obtain ⟨p2, l2, i1, i2, i3, i4, i5, i6, i7, i8, i9, K2, T2, H2, Z2, F2, I2, X2, j1, j2, j3, j4⟩ := he
  have hp2n := i3.2
  have hH1 : 0 ≤ H ∧ H ≤ 20000 := by have := vA.2.2.1; omega
  have hH2 : 0 ≤ H2 ∧ H2 ≤ 20000 := by have := j2.2.2.1; omega
  have uz : u ∈ z := i7.1 u hu
  have uq : u ≠ q2 := fun e => i9 (by rw [← e]; exact hu)
  have hAz := mv_tf hA hu i7
  refine mr_read j1 (fun _ sr tr kr hne j1' => mr_put0 (fun s42 k42 => mr_open (fun v48 s48 k48 => mr_aim (fun s56 k56 => ?_))))
  have hAr : MVq tr u K T H Z F X I := mv_eq hAz (fun m => hne u uq m)
  refine ⟨fun _ => True, fun y2 _ _ => mr_put1 (fun s72 k72 => mr_aim (fun s78 k78 => mr_isA hAr (fun v83 w83 e83 => ?_))), fun _ => trivial, fun _ => trivial⟩
  have kw : KWr s s78 := kp_tr (kp_tr (kp_tr (kp_tr (kp_tr kr k42) k48) k56) k72) k78
  have hG78 := rgq_w i6 kw
  refine ⟨fun y => (y.toInt = 0 ↔ T < 0 ∨ T2 < 0), fun y _ hy => mr_must (rgq_0 hG78) (fun s8 k8 f8 => mr_made f8.1 hAr j1' uz i8 ⟨hH1.1, hH1.2, hH2.1, hH2.2⟩ (fun q s9 t9 hq k9 tf9 t0 mv f9 => hk q s9 t9 _ ?_)), T < 0 ∨ T2 < 0, fun hx => ⟨fun _ => hx, fun _ => rfl⟩, fun hx => Or.inl (by omega), fun hx => mr_isA j1' (fun v91 w91 e91 => ⟨fun hy => Or.inr (by omega), fun hy => ⟨fun h1 => absurd h1 (by decide), fun h1 => by
    have := e91.1 hy
    have := e83.1 hx
    omega⟩⟩)⟩
  have kp := kpr_x (kw_x kw)
  have k3 : KPr s s9 := kpr_tr kp (kpr_tr (kpr_x (kf_x k8)) (kpr_x (kf_x k9)))
  have f3 : FTq s s9 ((T < 0 ∨ T2 < 0) ∨ 60 < 1 + mxq H H2) := ft_from (kw 0 12 rfl rfl) (kw 0 15 rfl rfl) (ft_iff (ft_tr f8 f9 (k8 0 15 rfl rfl)) (or_congr hy Iff.rfl))
  have tf2 : TFq τ vs t9 (z ++ [q]) := tf_tr (tf_read i7 i9 hne) tf9
  have k14' : KPr σ s14 := kpr_x (kw_x k14)
  have e12 : s14 0 12 = σ 0 12 := k14 0 12 rfl rfl
  refine ⟨p2, l2, s, K2, T2, H2, Z2, F2, 0, 0, 0, X2, 0, T < 0 ∨ T2 < 0, i1, i2, gm_k i3 ((k9 0 10 rfl rfl).trans ((k8 0 10 rfl rfl).trans (kw 0 10 rfl rfl))), kp_tr k14'.1 i4, fun hx => i5 (by rw [e12]; exact hx), rgm_k i6 k3.1 (by rw [k3.2.2.1]; exact rgq_D i6) f3.1, tf2, List.mem_append_right _ (List.mem_singleton.mpr rfl), fun hx => hq (i7.1 q hx), mv, ⟨by omega, by omega, ?_, fun hx => absurd rfl hx, fun hx => absurd hx (by decide), fun hx => absurd hx (by decide), by omega, fun hx => by omega⟩, j2, j3, fun c hc => ex_src k14' e12 (j4 c hc), k3, f3, fun hx => absurd hx (by decide), fun h1 h2 => ⟨?_, fun hb _ => ⟨?_, ?_, fun hx => absurd hx (by decide)⟩⟩⟩
  · have := vA.2.2.1
    unfold mxq
    split <;> omega
  · have t1 := vA.2.1
    have t2 := j2.2.1
    unfold tyq
    rcases hsg with e | e <;> rw [e] <;> simp <;> omega
  · have t1 := vA.2.1
    have t2 := j2.2.1
    unfold tyq
    rw [if_neg (by omega), if_pos hsg]
  · unfold fcq
    rw [if_neg (by omega), if_neg (by omega), if_neg (by omega)]
end RBI
end

section
/-! the reference's expressions: two sides, whole -/
section RBJ
variable {σ σ1 σ2 σ3 s s2 τ t t2 : St} {kd : Nat → Int} {n S m lo d p p1 k u q c r : Nat} {vs z : List Nat} {a b : Int32} {l l1 : List Stq} {K T H Z F I T3 : Int} {X : Int32} {B : Prop} {G G2 : Nat → List Stq → Prop}
variable {Kexpression Kchoice : Int32 → St → St → List Nat → (Nat → St → St → List Nat → Prop) → (St → St → List Nat → Prop) → Prop} {Kbinary : Int32 → Int32 → St → St → List Nat → (Nat → St → St → List Nat → Prop) → (St → St → List Nat → Prop) → Prop} {Kdecided : Int32 → Nat → Int32 → Int32 → St → St → List Nat → (Nat → St → St → List Nat → Prop) → (St → St → List Nat → Prop) → Prop} {Kunary Kbehind Kprimary : Int32 → St → St → List Nat → (Nat → St → St → List Nat → Prop) → (St → St → List Nat → Prop) → Prop} {Kcall_0 : Int32 → Int32 → St → St → List Nat → (Nat → St → St → List Nat → Prop) → (St → St → List Nat → Prop) → Prop}
theorem vr_z (h : VRq K T H Z F) (hz : Z ≠ 0) : T ≠ -1 := by
  rw [h.2.2.2.2.1 (h.2.2.2.1 hz)]
  decide
theorem vr_0 (h : VRq K T H Z F) : VRq 0 T H Z F := ⟨by omega, h.2.1, h.2.2.1, h.2.2.2.1, h.2.2.2.2.1, h.2.2.2.2.2.1, h.2.2.2.2.2.2.1, fun hx => by omega⟩
/-- two sides, so far -/
theorem eb_next {t6 : St} {z6 : List Nat} (hl : 41 ≤ kd p1 ∧ kd p1 ≤ 58) (hpn : p1 ≤ n) (hr : k + r = 12) (hk : (k : Int) ≤ lvq (kd p1)) (hG : ∀ p2 l2, (∀ L, PVq kd 7 d ((lvq (kd p1)).toNat + 1) (p1 + 1) L (some (p2, L ++ l2))) → G2 p2 (l ++ [stp 7 p1] ++ l2 ++ [stp 8 p1])) (hp : p < p1) (h4 : KEr σ s) (h5 : MNq σ s) (h7 : TFq τ vs t6 z6) (hvs : ∀ w, w ∈ vs → w ∈ z6) (vA : VRq K T H Z F) (hH : H ≤ (p1 : Int) - p) (hX : ∀ c, ROq c d r → EXq kd n S m lo c l σ s K T H Z F X) (kk : KPr s σ1) (e12 : σ1 0 12 = s 0 12)
    (hE : ETq kd n S m lo d p1 0 T H Z F X σ1 t6 z6 q s2 t z) : EBq kd n S m lo d r p G2 σ τ vs q s2 t z := by
  obtain ⟨p2, l2, σ2, K2, T2, H2, Z2, F2, T3, F3, I, X2, X3, B, i1, i2, i3, i4, i5, i6, i7, i8, i9, mv, v3, v2, hH2, j4, k3, f3, hF, hT⟩ := hE
  have hl10 := lv_n (kd p1)
  refine ⟨p2, l ++ [stp 7 p1] ++ l2 ++ [stp 8 p1], hG p2 l2 i1, by omega, i3, kp_tr h4 (kp_tr kk.1 (kp_tr i4 k3.1)), fun hx => f3.2.2 (Or.inl (i5 (by rw [e12]; exact h5 hx))), i6, tf_tr h7 i7, i8, fun hx => i9 (hvs q hx), 0, T3, 1 + mxq H H2, 0, F3, I, X3, mv, v3, ?_, fun c hc => ?_⟩
  · unfold mxq
    split <;> omega
  · have hc2 : ROq (c + 1) d (rmq 7 ((lvq (kd p1)).toNat + 1)) ∧ c < 490 := by
      rw [rmq_7]
      unfold ROq at hc ⊢
      omega
    exact ex_two (hX c hc) (ex_src kk e12 (j4 (c + 1) hc2.1)) vA v2 hpn rfl hl hc2.2 h4 (kp_tr kk.1 i4) (fun hx => i5 (by rw [e12]; exact hx)) k3 f3 hF hT
theorem er_binary {a2 : Int32} (ha1 : a.toInt = (k : Int)) (ha : a2.toInt = (d : Int)) (hd : d ≤ 25) (hk1 : 1 ≤ k) (hk11 : k ≤ 11) (hU : ERq kd n S m lo 2 d 0 p (Kunary a2)) (hD : EDq kd n S m lo d (fun x u tk => Kdecided x u tk a2)) (hB : ∀ (k p : Nat) (v : Int32), v.toInt = (k : Int) → 1 ≤ k → k ≤ 11 → ERq kd n S m lo 7 d k p (Kbinary v a2)) :
    ERq kd n S m lo 7 d k p (fun σ τ vs Q T => pp_binary Kexpression Kchoice Kbinary Kdecided Kunary Kbehind Kprimary Kcall_0 a a2 σ τ vs Q T) := by
  intro σ τ vs Q F0 hG hg hq0 hn
  show pp_binary Kexpression Kchoice Kbinary Kdecided Kunary Kbehind Kprimary Kcall_0 a a2 σ τ vs Q (fun _ _ _ => F0)
  unfold pp_binary
  have hn16 := hG.1.1
  refine hU σ τ vs _ F0 hG hg (fun u s t z he => ?_) (fun hnone => hn (fun L => pv_l0 (hnone L)))
  refine ⟨fun u s t z => EBq kd n S m lo d (12 - k) p (fun p1 l => ∀ L R, PVq kd 8 d k p1 (L ++ l) R → PVq kd 7 d k p L R) σ τ vs u s t z, ?_, ?_⟩
  · obtain ⟨p', l, h1, h2, h3, h4, h5, h6, h7, h8, h9, K, T, H, Z, F', I, X, g1, g2, g3, g4⟩ := he
    refine ⟨p', l, fun L R hR => pv_l1 (h1 L) hR, h2, h3, h4, h5, h6, h7, h8, h9, K, T, H, Z, F', I, X, g1, g2, g3, fun c hc => g4 c ?_⟩
    unfold ROq at hc ⊢
    show c + 14 * (25 - d) + 1 ≤ 470
    omega
  rintro x s6 t6 z6 ⟨p1, l, h1, h2, h3, h4, h5, h6, h7, h8, h9, K, T, H, Z, F', I, X, g1, g2, g3, g4⟩
  have hpn := h3.2
  have hk62 := h6.1.2.2.1 p1
  have hl10 := lv_n (kd p1)
  have hlr := lvq_r (kd p1)
  have none8 : (∀ L, PVq kd 8 d k p1 (L ++ l) none) → F0 := fun hx => hn (fun L => h1 L none (hx L))
  refine mr_sign h6.1 h3 (fun v7 hv7 => mr_rank hk62 hv7 (fun v10 hv10 => ⟨fun hlt => ?_, fun hle => mr_sign h6.1 h3 (fun v18 hv18 => ?_)⟩))
  · refine hq0 x s6 t6 z6 ⟨p1, l, fun L => h1 L _ (pv_l2 (by omega)), h2, h3, h4, h5, h6, h7, h8, h9, K, T, H, Z, F', I, X, g1, g2, g3, fun c hc => g4 c ?_⟩
    rw [rmq_7] at hc
    exact hc
  have hkl : (k : Int) ≤ lvq (kd p1) := by omega
  have hsg : 41 ≤ kd p1 ∧ kd p1 ≤ 58 := hlr.2.2 (by omega)
  have k0 : Kp [(0, 10)] [] s6 (upC s6 0 10 ((s6 0 10) + (1 : Int32))) := kp_f kp_rf rfl
  have gu := gm_up h6.1 h3 (by omega)
  have hGu := rgq_p h6 k0
  generalize hsu : upC s6 0 10 ((s6 0 10) + (1 : Int32)) = su at k0 gu hGu ⊢
  refine mr_read (σ := su) g1 (fun _ sr tr kr hne g1' => ?_)
  have kru : KPr s6 sr := kpr_tr (kpr_p k0) (kpr_x (kw_x kr))
  have e12u : sr 0 12 = s6 0 12 := (kr 0 12 rfl rfl).trans (k0 0 12 rfl rfl)
  have hGr := rgq_w hGu kr
  have gr : GMt sr n (p1 + 1) := gm_k gu (kr 0 10 rfl rfl)
  have tfr : TFq τ vs tr z6 := tf_read h7 h9 hne
  obtain ⟨i10, i11⟩ := rk_iff6 hk62
  rw [← hv18] at i10 i11
  have fin : ∀ q s t z, ETq kd n S m lo d p1 0 T H Z F' X sr tr z6 q s t z → EBq kd n S m lo d (12 - k) p (fun p1 l => ∀ L R, PVq kd 8 d k p1 (L ++ l) R → PVq kd 7 d k p L R) σ τ vs q s t z := fun q s t z he =>
    eb_next hsg hpn (by omega) hkl (fun p2 l2 hl2 L R hR => h1 L R (pv_l4 hkl (hl2 (L ++ l ++ [stp 7 p1])) (by simp only [List.append_assoc] at hR ⊢; exact hR))) h2 h4 h5 tfr h7.1 g2 g3 g4 kru e12u he
  have bad : (∀ L, PVq kd 7 d ((lvq (kd p1)).toNat + 1) (p1 + 1) L none) → F0 := fun hnone => none8 (fun L => pv_l3 hkl (hnone (L ++ l ++ [stp 7 p1])))
  have hH1 : 0 ≤ H ∧ H ≤ 20000 := by have := g2.2.2.1; omega
  refine ⟨fun q s t z => EBq kd n S m lo d (12 - k) p (fun p1 l => ∀ L R, PVq kd 8 d k p1 (L ++ l) R → PVq kd 7 d k p L R) σ τ vs q s t z, fun _ _ _ _ hx => hx, kd p1 = 57 ∨ kd p1 = 58, fun hj => ?_, fun c => Or.inr (i11.1 c), fun n11 => ⟨fun n10 => ?_, fun c => Or.inl (i10.1 c)⟩⟩
  · exact hD v18 (s6 0 10) x p1 sr tr z6 0 T H Z F' I X _ F0 hj hv18 hpn hGr gr h8 g1' (vr_0 g2) hH1.2 fin bad
  · have hr56 : 41 ≤ kd p1 ∧ kd p1 ≤ 56 := by
      have := fun e => n10 (i10.2 e)
      have := fun e => n11 (i11.2 e)
      omega
    refine mr_rank hk62 hv18 (fun v75 hv75 => hB ((lvq (kd p1)).toNat + 1) (p1 + 1) (v75 + (1 : Int32)) (by rw [ad1 (by omega), hv75]; omega) (by omega) (by omega) sr tr z6 _ F0 hGr gr (fun q2 s t z he => ?_) bad)
    obtain ⟨p2, l2, i1, i2, i3, i4, i5, i6, i7, i8, i9, K2, T2, H2, Z2, F2, I2, X2, j1, j2, j3, j4⟩ := he
    have hp2n := i3.2
    have hH2 : 0 ≤ H2 ∧ H2 ≤ 20000 := by have := j2.2.2.1; omega
    have xz : x ∈ z := i7.1 x h8
    have xq : x ≠ q2 := fun e => i9 (by rw [← e]; exact h8)
    refine mr_read j1 (fun _ sy ty ky hney j1' => ?_)
    have hAy : MVq ty x 0 T H Z F' X I := mv_eq (mv_tf g1' h8 i7) (fun m => hney x xq m)
    have vA := g2
    refine mr_two (by rw [ky 0 12 rfl rfl]; exact rgq_0 i6) hAy j1' xz i8 hr56 hv18 ⟨vA.2.1.1, vA.2.1.2, j2.2.1.1, j2.2.1.2⟩ ⟨vr_z vA, vr_z j2⟩ ⟨vA.2.2.2.2.1, vA.2.2.2.2.2.1, j2.2.2.2.2.1, j2.2.2.2.2.2.1⟩ ⟨hH1.1, hH1.2, hH2.1, hH2.2⟩ (fun q s9 t9 T3 F3 X3 hq f02 k9 tf9 mv hT3 hF1 hF2 f9 hT => fin q s9 t9 _ ?_)
    have k3 : KPr s s9 := kpr_tr (kpr_x (kw_x ky)) (kpr_x k9)
    have f3 : FTq s s9 (T3 = -2 ∨ 60 < 1 + mxq H H2) := ft_from (ky 0 12 rfl rfl) (ky 0 15 rfl rfl) f9
    refine ⟨p2, l2, s, K2, T2, H2, Z2, F2, T3, F3, 0, X2, X3, T3 = -2, i1, i2, gm_k i3 ((k9 0 10 rfl rfl).trans (ky 0 10 rfl rfl)), i4, i5, rgm_k i6 k3.1 (by rw [k3.2.2.1]; exact rgq_D i6) f3.1, tf_tr (tf_read i7 i9 hney) tf9, List.mem_append_right _ (List.mem_singleton.mpr rfl), fun hx => hq (i7.1 q hx), mv, ⟨by omega, hT3, ?_, fun hx => absurd rfl hx, fun hx => (hF1 hx).1, fun hx => Or.inl (hF2 hx), f02, fun hx => by omega⟩, j2, j3, j4, k3, f3, fun hx => ⟨(hF1 hx).2.1, (hF1 hx).2.2.1, by rw [(hF1 hx).1]; decide, (hF1 hx).2.2.2⟩, fun e1 e2 => ⟨by rw [(hT e1 e2).1], fun hb hh => ⟨(hT e1 e2).1, (hT e1 e2).2 hb hh⟩⟩⟩
    unfold mxq
    split <;> omega
end RBJ
end

section
/-! the reference's expressions: choices, whole -/
section RCC
variable {σ s τ t : St} {kd : Nat → Int} {n S m lo d p p1 k u q c r : Nat} {vs z : List Nat} {a b : Int32} {K T H Z F I : Int} {X : Int32}
variable {Kexpression Kchoice : Int32 → St → St → List Nat → (Nat → St → St → List Nat → Prop) → (St → St → List Nat → Prop) → Prop} {Kbinary : Int32 → Int32 → St → St → List Nat → (Nat → St → St → List Nat → Prop) → (St → St → List Nat → Prop) → Prop} {Kdecided : Int32 → Nat → Int32 → Int32 → St → St → List Nat → (Nat → St → St → List Nat → Prop) → (St → St → List Nat → Prop) → Prop} {Kunary Kbehind Kprimary : Int32 → St → St → List Nat → (Nat → St → St → List Nat → Prop) → (St → St → List Nat → Prop) → Prop} {Kcall_0 : Int32 → Int32 → St → St → List Nat → (Nat → St → St → List Nat → Prop) → (St → St → List Nat → Prop) → Prop}
theorem mv_hgt (hA : MVq t q k T H Z F X I) : MVq (upC t q 3 a) q k T a.toInt Z F X I := by
  obtain ⟨q0, q1, q2, q3, q4, q5, q6⟩ := hA
  refine ⟨?_, ?_, ?_, ?_, ?_, fun hf => ?_, fun hi => ?_⟩
  · rw [rdA_ne (by decide)]; exact q0
  · rw [rdA_ne (by decide)]; exact q1
  · rw [rdA_eq rfl]
  · rw [rdA_ne (by decide)]; exact q3
  · rw [rdA_ne (by decide)]; exact q4
  · rw [rdA_ne (by decide)]; exact q5 hf
  · rw [rdA_ne (by decide)]; exact q6 hi
def alq (T2 Z2 T3 Z3 : Int) : Prop := (T2 = T3 ∧ 0 ≤ T2) ∨ (0 < T2 ∧ Z3 ≠ 0) ∨ (0 < T3 ∧ Z2 ≠ 0)
theorem er_choice (ha : a.toInt = (d : Int)) (hd : d ≤ 25) (hB : ERq kd n S m lo 7 d 1 p (Kbinary (1 : Int32) a)) (hE : d < 25 → ∀ v : Int32, v.toInt = (d : Int) + 1 → ∀ p, ERq kd n S m lo 0 (d + 1) 0 p (Kexpression v)) (hC : d < 25 → ∀ v : Int32, v.toInt = (d : Int) + 1 → ∀ p, ERq kd n S m lo 1 (d + 1) 0 p (Kchoice v)) :
    ERq kd n S m lo 1 d 0 p (fun σ τ vs Q T => pp_choice Kexpression Kchoice Kbinary Kdecided Kunary Kbehind Kprimary Kcall_0 a σ τ vs Q T) := by
  intro σ τ vs Q F0 hG hg hk hn
  show pp_choice Kexpression Kchoice Kbinary Kdecided Kunary Kbehind Kprimary Kcall_0 a σ τ vs Q (fun _ _ _ => F0)
  unfold pp_choice
  have hn16 := hG.1.1
  refine hB σ τ vs _ F0 hG hg (fun x s3 t3 z3 he => ?_) (fun hnone => hn (fun L => pv_c0 (hnone L)))
  obtain ⟨p1, l, h1, h2, h3, h4, h5, h6, h7, h8, h9, K, T, H, Z, F', I, X, g1, g2, g3, g4⟩ := he
  have hpn := h3.2
  have hH1 : 0 ≤ H ∧ H ≤ 20000 := by have := g2.2.2.1; omega
  refine mr_is h6.1 h3 (c := 28) (by decide) (by decide) (fun k28 => ⟨fun _ => ?_, fun hx => absurd hx (by decide)⟩) (fun k28 => ⟨fun hx => absurd rfl hx, fun _ => ?_⟩)
  rotate_left
  · refine hk x s3 t3 z3 ⟨p1, l, fun L => pv_c1 (h1 L) k28, h2, h3, h4, h5, h6, h7, h8, h9, K, T, H, Z, F', I, X, g1, g2, g3, fun c hc => g4 c ?_⟩
    unfold ROq at hc ⊢
    rw [rmq_7]
    have e : rmq 1 0 = 12 := rfl
    rw [e] at hc
    omega
  refine mr_read g1 (fun _ sr tr kr hne g1' => ?_)
  have tfr : TFq τ vs tr z3 := tf_read h7 h9 hne
  refine mr_deeper ha hd (fun hd2 v hv => ?_) (fun hd2 => hn (fun L => pv_c2 (h1 L) k28 hd2))
  have k0 : Kp [(0, 10)] [] sr (upC sr 0 10 ((sr 0 10) + (1 : Int32))) := kp_f kp_rf rfl
  have hGr := rgq_w h6 kr
  have gu := gm_up hGr.1 (gm_k h3 (kr 0 10 rfl rfl)) (by omega)
  have hGu := rgq_p hGr k0
  generalize hsu : upC sr 0 10 ((sr 0 10) + (1 : Int32)) = su at k0 gu hGu ⊢
  refine mr_open (σ := su) (fun v48 s48 k48 => ?_)
  have kA : KPr s3 s48 := kpr_tr (kpr_x (kw_x kr)) (kpr_tr (kpr_p k0) (kpr_x (kw_x k48)))
  have eA : s48 0 12 = s3 0 12 := (k48 0 12 rfl rfl).trans ((k0 0 12 rfl rfl).trans (kr 0 12 rfl rfl))
  refine hE hd2 v hv (p1 + 1) s48 tr z3 _ F0 (rgq_w hGu k48) (gm_k gu (k48 0 10 rfl rfl)) (fun u2 sE tE zE hx => ?_) (fun hnone => hn (fun L => pv_c3 (h1 L) k28 hd2 (hnone (L ++ l ++ [stp 14 p1]))))
  obtain ⟨p2, l2, i1, i2, i3, i4, i5, i6, i7, i8, i9, K2, T2, H2, Z2, F2, I2, X2, j1, j2, j3, j4⟩ := hx
  have hp2n := i3.2
  have hH2 : 0 ≤ H2 ∧ H2 ≤ 20000 := by have := j2.2.2.1; omega
  have xz2 : x ∈ zE := i7.1 x h8
  have xu2 : x ≠ u2 := fun e => i9 (by rw [← e]; exact h8)
  refine mr_read j1 (fun _ sy ty ky hney j1' => mr_open (fun v70 s70 k70 => mr_aim (fun s78 k78 => ?_)))
  have kw : KWr sE s78 := kp_tr (kp_tr ky k70) k78
  have hG78 := rgq_w i6 kw
  have g78 : GMt s78 n p2 := gm_k i3 (kw 0 10 rfl rfl)
  have hAy : MVq ty x 0 T H Z F' X I := mv_eq (mv_tf g1' h8 i7) (fun m => hney x xu2 m)
  have tf2 : TFq τ vs ty zE := tf_read (tf_tr tfr i7) (fun hx => i9 (h7.1 _ hx)) hney
  refine mr_is hG78.1 g78 (c := 29) (by decide) (by decide) (fun k29 => ⟨fun _ => ?_, fun hx => absurd hx (by decide)⟩) (fun k29 => ⟨fun hx => absurd rfl hx, fun _ => ?_⟩)
  rotate_left
  · unfold pp_wrong pp_wrongAt
    exact fun _ => hn (fun L => pv_c4 (h1 L) k28 hd2 (i1 (L ++ l ++ [stp 14 p1])) k29)
  refine mr_deeper ha hd (fun _ v2 hv2 => ?_) (fun hd3 => absurd hd2 hd3)
  have k1 : Kp [(0, 10)] [] s78 (upC s78 0 10 ((s78 0 10) + (1 : Int32))) := kp_f kp_rf rfl
  have gc := gm_up hG78.1 g78 (by omega)
  have hGc := rgq_p hG78 k1
  generalize hsc : upC s78 0 10 ((s78 0 10) + (1 : Int32)) = sc at k1 gc hGc ⊢
  have kB : KPr sE sc := kpr_tr (kpr_x (kw_x kw)) (kpr_p k1)
  have eB : sc 0 12 = sE 0 12 := (k1 0 12 rfl rfl).trans (kw 0 12 rfl rfl)
  refine hC hd2 v2 hv2 (p2 + 1) sc ty zE _ F0 hGc gc (fun u3 sC tC zC hx => ?_) (fun hnone => hn (fun L => by
    have := pv_c5 (m := 0) (h1 L) k28 hd2 (i1 (L ++ l ++ [stp 14 p1])) k29 (hnone (L ++ l ++ [stp 14 p1] ++ l2 ++ [stp 15 p1]))
    exact this))
  obtain ⟨p3, l3, n1, n2, n3, n4, n5, n6, n7, n8, n9, K3, T3, H3, Z3, F3, I3, X3, m1, m2, m3, m4⟩ := hx
  have hp3n := n3.2
  have hH3 : 0 ≤ H3 ∧ H3 ≤ 20000 := by have := m2.2.2.1; omega
  have xz3 : x ∈ zC := n7.1 x xz2
  have uz3 : u2 ∈ zC := n7.1 u2 i8
  have xu3 : x ≠ u3 := fun e => n9 (by rw [← e]; exact xz2)
  have uu3 : u2 ≠ u3 := fun e => n9 (by rw [← e]; exact i8)
  refine mr_read m1 (fun _ sz tz kz hnez m1' => mr_aim (fun s129 k129 => fun _ _ => ?_))
  have kC : KWr sC s129 := kp_tr kz k129
  have hG129 := rgq_w n6 kC
  have hAz : MVq tz x 0 T H Z F' X I := mv_eq (mv_tf hAy xz2 n7) (fun m => hnez x xu3 m)
  have hBz : MVq tz u2 0 T2 H2 Z2 F2 X2 I2 := mv_eq (mv_tf j1' i8 n7) (fun m => hnez u2 uu3 m)
  have tf3 : TFq τ vs tz zC := tf_read (tf_tr tf2 n7) (fun hx => n9 (i7.1 _ (h7.1 _ hx))) hnez
  have vT := g2.2.1
  have vT2 := j2.2.1
  have vT3 := m2.2.1
  have hmxT : -2 ≤ mxq T2 T3 ∧ mxq T2 T3 ≤ 9 := by unfold mxq; split <;> omega
  have e20 := hBz.2.1
  have e30 := m1'.2.1
  have e25 := hBz.2.2.2.1
  have e35 := m1'.2.2.2.1
  refine ⟨fun y => (y.toInt ≠ 0 ↔ alq T2 Z2 T3 Z3), fun y0 _ hy0 => ?_, alq T2 Z2 T3 Z3, fun hx => ⟨fun _ => hx, fun _ => by decide⟩, ¬ (T2 = T3 ∧ 0 ≤ T2), fun hx => ?_, ?_, ?_⟩
  · refine mr_isA hAz (fun v194 w194 e194 => ⟨fun y => (y.toInt = 0 ↔ T < 0 ∨ ¬ alq T2 Z2 T3 Z3), fun y1 _ hy1 => ?_, T < 0 ∨ ¬ alq T2 Z2 T3 Z3, fun hx => ⟨fun _ => hx, fun _ => rfl⟩, fun hx => Or.inl (by omega), fun hx => ⟨fun hy => Or.inr (fun hz => absurd hy (hy0.2 hz)), fun hy => ⟨fun h1 => absurd h1 (by decide), fun h1 => h1.elim (fun h1 => by
      have := e194.1 hx
      omega) (fun h1 => absurd (hy0.1 hy) h1)⟩⟩⟩)
    refine mr_must (rgq_0 hG129) (fun s8 k8 f8 => ⟨fun y => (alq T2 Z2 T3 Z3 → y.toInt = mxq T2 T3) ∧ (¬ alq T2 Z2 T3 Z3 → y.toInt = -2), fun y2 hy2 => ?_, fun hx => ⟨fun hz => absurd hx (hy0.2 hz), fun _ => rfl⟩, fun hx _ _ => ⟨fun _ => ?_, fun hz => absurd (hy0.1 hx) hz⟩⟩)
    rotate_left
    · rw [mx_int, e20, e30]
    refine mr_made f8.1 hBz m1' uz3 n8 ⟨hH2.1, hH2.2, hH3.1, hH3.2⟩ (fun q s9 t9 hq k9 tf9 t0 mv f9 => ?_)
    intro _ _
    have hA9 := mv_tf hAz xz3 tf9
    have ex3 := hA9.2.2.1
    have eq3 := mv.2.2.1
    have hqvs : q ∉ vs := fun hx => hq (tf3.1 q hx)
    have tf4 : TFq τ vs t9 (zC ++ [q]) := tf_tr tf3 tf9
    have ey2 : -2 ≤ y2.toInt ∧ y2.toInt ≤ 9 := by
      by_cases c : alq T2 Z2 T3 Z3
      · rw [hy2.1 c]; exact hmxT
      · rw [hy2.2 c]; omega
    have f39 : FTq sC s9 ((T < 0 ∨ ¬ alq T2 Z2 T3 Z3) ∨ 60 < 1 + mxq H2 H3) := ft_from (kC 0 12 rfl rfl) (kC 0 15 rfl rfl) (ft_iff (ft_tr f8 f9 (k8 0 15 rfl rfl)) (or_congr hy1 Iff.rfl))
    have k39 : KPr sC s9 := kpr_tr (kpr_x (kw_x kC)) (kpr_tr (kpr_x (kf_x k8)) (kpr_x (kf_x k9)))
    have e39 : s9 0 10 = sC 0 10 := (k9 0 10 rfl rfl).trans ((k8 0 10 rfl rfl).trans (kC 0 10 rfl rfl))
    have fin : ∀ s10 t10, KPr s9 s10 → s10 0 10 = s9 0 10 → TFq τ vs t10 (zC ++ [q]) → MVq t10 q 0 y2.toInt (1 + mxq H (mxq H2 H3)) 0 0 0 0 → FTq sC s10 ((T < 0 ∨ ¬ alq T2 Z2 T3 Z3) ∨ 60 < 1 + mxq H (mxq H2 H3)) → Q q s10 t10 (zC ++ [q]) := fun s10 t10 ka eb tfx mvx fx => hk q s10 t10 _ (by
      have k3 := kpr_tr k39 ka
      refine ⟨p3, l ++ [stp 14 p1] ++ l2 ++ [stp 15 p1] ++ l3 ++ [stp 16 p1], fun L => ?_, by omega, gm_k n3 (eb.trans e39), kp_tr h4 (kp_tr kA.1 (kp_tr i4 (kp_tr kB.1 (kp_tr n4 k3.1)))), fun hx => fx.2.2 (Or.inl (n5 (by rw [eB]; exact i5 (by rw [eA]; exact h5 hx)))), rgm_k n6 k3.1 (by rw [k3.2.2.1]; exact rgq_D n6) fx.1, tfx, List.mem_append_right _ (List.mem_singleton.mpr rfl), hqvs, 0, y2.toInt, 1 + mxq H (mxq H2 H3), 0, 0, 0, 0, mvx, ⟨by omega, ey2, ?_, fun hx => absurd rfl hx, fun hx => absurd hx (by decide), fun hx => absurd hx (by decide), by omega, fun hx => by omega⟩, ?_, fun c hc => ?_⟩
      · have this : PVq kd 1 d 0 p L (some (p3, L ++ l ++ [stp 14 p1] ++ l2 ++ [stp 15 p1] ++ l3 ++ [stp 16 p1])) := pv_c5 (m := 0) (h1 L) k28 hd2 (i1 (L ++ l ++ [stp 14 p1])) k29 (n1 (L ++ l ++ [stp 14 p1] ++ l2 ++ [stp 15 p1]))
        simp only [List.append_assoc] at this ⊢
        exact this
      · unfold mxq; (repeat' split) <;> omega
      · unfold mxq; (repeat' split) <;> omega
      · have hc2 : ROq c d (rmq 7 1) ∧ ROq (c + 1) (d + 1) 13 ∧ ROq (c + 2) (d + 1) 12 ∧ c < 490 := by
          rw [rmq_7]
          unfold ROq at hc ⊢
          have e : rmq 1 0 = 12 := rfl
          rw [e] at hc
          omega
        refine ex_choice (g4 c hc2.1) (ex_src kA eA (j4 (c + 1) hc2.2.1)) (ex_src kB eB (m4 (c + 2) hc2.2.2.1)) g2 j2 m2 hc2.2.2.2 h4 (kp_tr kA.1 i4) (kp_tr kB.1 n4) (fun hx => i5 (by rw [eA]; exact hx)) (fun hx => n5 (by rw [eB]; exact hx)) k3 fx (fun q1 q2 q3 => ⟨?_, fun hb => hy2.1 (Classical.byContradiction (fun hz => hb (Or.inr hz)))⟩)
        unfold chB alq
        clear mvx fx f39 f9 f8 mv
        constructor
        · rintro (hx | hx)
          · exact Or.inl (by omega)
          · refine Or.inr (fun hy => hx ?_)
            rcases hy with (hy | hy) | (hy | hy)
            · exact Or.inl ⟨hy.1.symm, by omega⟩
            · exact Or.inr (Or.inl hy)
            · exact Or.inl ⟨hy.1, by omega⟩
            · exact Or.inr (Or.inr hy)
        · rintro (hx | hx)
          · exact Or.inl (by omega)
          · refine Or.inr (fun hy => hx ?_)
            rcases hy with hy | hy | hy
            · exact Or.inr (Or.inl ⟨hy.1, by omega⟩)
            · exact Or.inl (Or.inr hy)
            · exact Or.inr (Or.inr hy))
    have hHx : ((t9 x 3) + (1 : Int32)).toInt = H + 1 := by rw [ad1 (by omega), ex3]
    rw [hHx, eq3]
    refine ⟨fun hle => fin s9 t9 kpr_rf rfl tf4 ?_ (ft_iff f39 (or_congr Iff.rfl ?_)), fun hlt => ⟨fun h60 => fin s9 _ kpr_rf rfl (tf_up tf4 hqvs) ?_ (ft_iff f39 (or_congr Iff.rfl ?_)), fun h60 => mr_tell f39.1 (by decide) (fun s10 k10 f10 => fin s10 _ (kpr_x (kf_x k10)) (k10 0 10 rfl rfl) (tf_up tf4 hqvs) ?_ (ft_iff (ft_tr f39 f10 ?_) ?_))⟩⟩
    · have e : 1 + mxq H2 H3 = 1 + mxq H (mxq H2 H3) := by
        generalize mxq H2 H3 = M at hle
        unfold mxq
        split <;> omega
      rw [← e]
      exact mv
    · have e : 1 + mxq H2 H3 = 1 + mxq H (mxq H2 H3) := by
        generalize mxq H2 H3 = M at hle
        unfold mxq
        split <;> omega
      rw [← e]
    · have mh := mv_hgt (a := (t9 x 3) + (1 : Int32)) mv
      rw [hHx] at mh
      have e : H + 1 = 1 + mxq H (mxq H2 H3) := by
        generalize mxq H2 H3 = M at hlt
        unfold mxq
        split <;> omega
      rw [← e]
      exact mh
    · have e : H + 1 = 1 + mxq H (mxq H2 H3) := by
        generalize mxq H2 H3 = M at hlt
        unfold mxq
        split <;> omega
      rw [← e]
      omega
    · have mh := mv_hgt (a := (t9 x 3) + (1 : Int32)) mv
      rw [hHx] at mh
      have e : H + 1 = 1 + mxq H (mxq H2 H3) := by
        generalize mxq H2 H3 = M at hlt
        unfold mxq
        split <;> omega
      rw [← e]
      exact mh
    · exact k39.1 0 15 rfl rfl
    · have e : H + 1 = 1 + mxq H (mxq H2 H3) := by
        generalize mxq H2 H3 = M at hlt
        unfold mxq
        split <;> omega
      rw [← e]
      exact ⟨fun _ => Or.inr h60, fun _ => Or.inr trivial⟩
  · refine mr_isP hBz (fun v155 w155 e155 => ⟨¬ (T2 = T3 ∧ 0 ≤ T2) ∧ ¬ (0 < T2 ∧ Z3 ≠ 0), fun hy => mr_isP m1' (fun v171 w171 e171 => ⟨¬ alq T2 Z2 T3 Z3, fun hz => ⟨fun h1 => absurd rfl h1, fun h1 => absurd h1 hz⟩, fun hz hx2 => ?_, fun hz => ⟨fun h5z hx2 => ?_, fun h5z => ?_⟩⟩), fun hz => ⟨hx, fun h1 => absurd hz (e155.2 h1.1)⟩, fun hz => ⟨fun h5z => Or.inr (Or.inl ⟨e155.1 hz, by rw [← e35]; exact h5z⟩), fun h5z => ⟨hx, fun h1 => h1.2 (by rw [← e35]; exact h5z)⟩⟩⟩)
    · rcases hx2 with h1 | h1 | h1
      · exact hy.1 h1
      · exact hy.2 h1
      · exact e171.2 h1.1 hz
    · rcases hx2 with h1 | h1 | h1
      · exact hy.1 h1
      · exact hy.2 h1
      · exact h1.2 (by rw [← e25]; exact h5z)
    · exact Or.inr (Or.inr ⟨e171.1 hz, by rw [← e25]; exact h5z⟩)
  · intro hx hy
    exact hx (by rw [e20, e30]; exact hy.1)
  · intro hx
    refine mr_isA hBz (fun v147 w147 e147 => ⟨fun hz => Or.inl ⟨by rw [← e20, ← e30]; exact hx, e147.1 hz⟩, fun hz hy => absurd hz (e147.2 hy.2)⟩)
end RCC
end

section
/-! the reference's expressions: assignments, whole -/
def asM (sg K T T2 Z2 : Int) : Prop := K = 0 ∨ ¬ (if sg = 30 then T2 = T ∨ (0 < T ∧ Z2 ≠ 0) else if sg = 33 ∨ sg = 34 then 0 ≤ T ∧ T2 = 0 else T = 0 ∧ T2 = 0)
section RAS
variable {σ s τ t : St} {kd : Nat → Int} {n S m lo d p p1 k u q c r : Nat} {vs z : List Nat} {a b : Int32} {K T H Z F I : Int} {X : Int32}
variable {Kexpression Kchoice : Int32 → St → St → List Nat → (Nat → St → St → List Nat → Prop) → (St → St → List Nat → Prop) → Prop} {Kbinary : Int32 → Int32 → St → St → List Nat → (Nat → St → St → List Nat → Prop) → (St → St → List Nat → Prop) → Prop} {Kdecided : Int32 → Nat → Int32 → Int32 → St → St → List Nat → (Nat → St → St → List Nat → Prop) → (St → St → List Nat → Prop) → Prop} {Kunary Kbehind Kprimary : Int32 → St → St → List Nat → (Nat → St → St → List Nat → Prop) → (St → St → List Nat → Prop) → Prop} {Kcall_0 : Int32 → Int32 → St → St → List Nat → (Nat → St → St → List Nat → Prop) → (St → St → List Nat → Prop) → Prop}
theorem rk_asg : ∀ a : Nat, a < 41 → a < 30 ∨ (a = 30 ∧ rkI (a : Int) - 32 = 30) ∨ (31 ≤ a ∧ rkI (a : Int) - 32 = (a : Int) - 31) := by decide
theorem mr_worked {Q : Int32 → Prop} {k : Int} (hk : 30 ≤ k ∧ k ≤ 40) (ha : a.toInt = rkI k - 32) (kk : ∀ v : Int32, (v.toInt = 30 ↔ k = 30) → (v.toInt = 36 ↔ k = 33) → (v.toInt = 37 ↔ k = 34) → Q v) : pp_worked a σ τ vs Q := by
  have h := rk_asg k.toNat (by omega)
  rw [show ((k.toNat : Nat) : Int) = k from by omega, ← ha] at h
  have e16 : (16 : Int32).toInt = 16 := rfl
  have e17 : (17 : Int32).toInt = 17 := rfl
  have e36 : (36 : Int32).toInt = 36 := rfl
  have e37 : (37 : Int32).toInt = 37 := rfl
  have e38 : (38 : Int32).toInt = 38 := rfl
  have e39 : (39 : Int32).toInt = 39 := rfl
  have e40 : (40 : Int32).toInt = 40 := rfl
  have e33 : (33 : Int32).toInt = 33 := rfl
  have e31 : (31 : Int32).toInt = 31 := rfl
  have e32 : (32 : Int32).toInt = 32 := rfl
  have e30 : (30 : Int32).toInt = 30 := rfl
  unfold pp_worked
  clear ha
  generalize a.toInt = m at h
  refine ⟨fun c => kk _ ?_ ?_ ?_, fun c0 => ⟨fun c => kk _ ?_ ?_ ?_, fun c1 => ⟨fun c => kk _ ?_ ?_ ?_, fun c2 => ⟨fun c => kk _ ?_ ?_ ?_, fun c3 => ⟨fun c => kk _ ?_ ?_ ?_, fun c4 => ⟨fun c => kk _ ?_ ?_ ?_, fun c5 => ⟨fun c => kk _ ?_ ?_ ?_, fun c6 => ⟨fun c => kk _ ?_ ?_ ?_, fun c7 => ⟨fun c => kk _ ?_ ?_ ?_, fun c8 => ⟨fun c => kk _ ?_ ?_ ?_, fun c9 => kk _ ?_ ?_ ?_⟩⟩⟩⟩⟩⟩⟩⟩⟩⟩ <;> clear kk <;> omega
theorem er_expression (ha : a.toInt = (d : Int)) (hd : d ≤ 25) (hC : ERq kd n S m lo 1 d 0 p (Kchoice a)) (hE : d < 25 → ∀ v : Int32, v.toInt = (d : Int) + 1 → ∀ p, ERq kd n S m lo 0 (d + 1) 0 p (Kexpression v)) :
    ERq kd n S m lo 0 d 0 p (fun σ τ vs Q T => pp_expression Kexpression Kchoice Kbinary Kdecided Kunary Kbehind Kprimary Kcall_0 a σ τ vs Q T) := by
  intro σ τ vs Q F0 hG hg hk hn
  show pp_expression Kexpression Kchoice Kbinary Kdecided Kunary Kbehind Kprimary Kcall_0 a σ τ vs Q (fun _ _ _ => F0)
  unfold pp_expression
  have hn16 := hG.1.1
  refine hC σ τ vs _ F0 hG hg (fun x s3 t3 z3 he => ?_) (fun hnone => hn (fun L => pv_e0 (hnone L)))
  obtain ⟨p1, l, h1, h2, h3, h4, h5, h6, h7, h8, h9, K, T, H, Z, F', I, X, g1, g2, g3, g4⟩ := he
  have hpn := h3.2
  have hH1 : 0 ≤ H ∧ H ≤ 20000 := by have := g2.2.2.1; omega
  have hk62 := h6.1.2.2.1 p1
  refine mr_sign h6.1 h3 (fun v7 hv7 => mr_isAssignment hk62 hv7 (fun kas => ⟨fun _ => ?_, fun hx => absurd hx (by decide)⟩) (fun kas => ⟨fun hx => absurd rfl hx, fun _ => ?_⟩))
  rotate_left
  · refine hk x s3 t3 z3 ⟨p1, l, fun L => pv_e1 (h1 L) kas, h2, h3, h4, h5, h6, h7, h8, h9, K, T, H, Z, F', I, X, g1, g2, g3, fun c hc => g4 c ?_⟩
    unfold ROq at hc ⊢
    have e : rmq 1 0 = 12 := rfl
    have e0 : rmq 0 0 = 13 := rfl
    rw [e0] at hc
    rw [e]
    omega
  refine mr_deeper ha hd (fun hd2 v hv => ?_) (fun hd2 => hn (fun L => pv_e2 (h1 L) kas hd2))
  have k0 : Kp [(0, 10)] [] s3 (upC s3 0 10 ((s3 0 10) + (1 : Int32))) := kp_f kp_rf rfl
  have gu := gm_up h6.1 h3 (by omega)
  have hGu := rgq_p h6 k0
  generalize hsu : upC s3 0 10 ((s3 0 10) + (1 : Int32)) = su at k0 gu hGu ⊢
  have eK := g1.1
  have eT := g1.2.1
  have vK := g2.1
  have vT := g2.2.1
  have vKT := g2.2.2.2.2.2.2.2
  intro _
  refine ⟨fun y => (y.toInt = 0 ↔ K = 0), fun y55 _ hy55 => ⟨fun _ => True, fun y70 _ _ => ⟨fun s t z => t = t3 ∧ z = z3 ∧ KWr su s, ?_, ?_, ?_⟩, fun _ => trivial, fun _ => trivial⟩, ?_, ?_⟩
  rotate_left
  · exact fun _ => ⟨rfl, rfl, kp_rf⟩
  · exact fun _ => mr_put1 (σ := su) (fun s86 k86 => ⟨rfl, rfl, k86⟩)
  · exact fun c => ⟨fun _ => eK.symm.trans c, fun _ => rfl⟩
  · exact fun c => ⟨fun hx => absurd hx (by decide), fun hx => absurd (eK.trans hx) c⟩
  rintro s89 t89 z89 ⟨rfl, rfl, k89⟩
  refine mr_worked kas hv7 (fun v90 w30 w36 w37 => ⟨fun s t z => t = t89 ∧ z = z89 ∧ KWr su s, ?_, ?_, ?_⟩)
  rotate_left
  · exact fun _ => ⟨rfl, rfl, k89⟩
  · exact fun _ => ⟨fun _ => ⟨rfl, rfl, k89⟩, fun _ => mr_put0 (fun s110 k110 => fun _ => mr_put1 (fun s122 k122 => ⟨rfl, rfl, kp_tr (kp_tr k89 k110) k122⟩))⟩
  rintro s125 t125 z125 ⟨rfl, rfl, k125⟩
  refine ⟨fun s t z => t = t125 ∧ z = z125 ∧ KWr su s, ?_, ?_, ?_⟩
  rotate_left
  · exact fun _ => ⟨rfl, rfl, k125⟩
  · exact fun _ _ => ⟨fun _ => ⟨rfl, rfl, k125⟩, fun _ => mr_put1 (fun s146 k146 => ⟨rfl, rfl, kp_tr k125 k146⟩)⟩
  rintro s149 t149 z149 ⟨rfl, rfl, k149⟩
  have kA : KPr s3 s149 := kpr_tr (kpr_p k0) (kpr_x (kw_x k149))
  have eA : s149 0 12 = s3 0 12 := (k149 0 12 rfl rfl).trans (k0 0 12 rfl rfl)
  refine hE hd2 v hv (p1 + 1) s149 t149 z149 _ F0 (rgq_w hGu k149) (gm_k gu (k149 0 10 rfl rfl)) (fun u2 sE tE zE hx => ?_) (fun hnone => hn (fun L => by
    have := pv_e3 (m := 0) (h1 L) kas hd2 (hnone (L ++ l ++ [stp 7 p1]))
    exact this))
  obtain ⟨p2, l2, i1, i2, i3, i4, i5, i6, i7, i8, i9, K2, T2, H2, Z2, F2, I2, X2, j1, j2, j3, j4⟩ := hx
  have hp2n := i3.2
  have hH2 : 0 ≤ H2 ∧ H2 ≤ 20000 := by have := j2.2.2.1; omega
  have xz : x ∈ zE := i7.1 x h8
  have xu : x ≠ u2 := fun e => i9 (by rw [← e]; exact h8)
  refine mr_read j1 (fun _ sy ty ky hney j1' => ?_)
  have hAy : MVq ty x K T H Z F' X I := mv_eq (mv_tf g1 h8 i7) (fun m => hney x xu m)
  have eTy := hAy.2.1
  have tf2 : TFq τ vs ty zE := tf_read (tf_tr h7 i7) (fun hx => i9 (h7.1 _ hx)) hney
  have hGy := rgq_w i6 ky
  have jB : ∀ {P : Prop}, ((asM (kd p1) K T T2 Z2) → P) → (asM (kd p1) K T T2 Z2) → P := fun h => h
  refine ⟨fun y => (y.toInt = 0 ↔ asM (kd p1) K T T2 Z2), fun y242 _ hy242 => ?_, asM (kd p1) K T T2 Z2, fun hx => ⟨fun _ => hx, fun _ => rfl⟩, fun c => Or.inl (hy55.1 c), fun c => ⟨¬ asM (kd p1) K T T2 Z2, fun hx => ⟨fun h => absurd h (by decide), fun h => absurd h hx⟩, ?_, ?_⟩⟩
  · refine mr_must (rgq_0 hGy) (fun s8 k8 f8 => ⟨fun y => (¬ asM (kd p1) K T T2 Z2 → y.toInt = T) ∧ (asM (kd p1) K T T2 Z2 → y.toInt = -2), fun y1 hy1 => ?_, fun c => ⟨fun h => absurd (hy242.1 c) h, fun _ => rfl⟩, fun c _ => ⟨fun _ => eTy, fun h => absurd (hy242.2 h) c⟩⟩)
    refine mr_made f8.1 hAy j1' xz i8 ⟨hH1.1, hH1.2, hH2.1, hH2.2⟩ (fun q s9 t9 hq k9 tf9 t0 mv f9 => ?_)
    have f39 : FTq sE s9 (asM (kd p1) K T T2 Z2 ∨ 60 < 1 + mxq H H2) := ft_from (ky 0 12 rfl rfl) (ky 0 15 rfl rfl) (ft_iff (ft_tr f8 f9 (k8 0 15 rfl rfl)) (or_congr hy242 Iff.rfl))
    have k39 : KPr sE s9 := kpr_tr (kpr_x (kw_x ky)) (kpr_tr (kpr_x (kf_x k8)) (kpr_x (kf_x k9)))
    have e39 : s9 0 10 = sE 0 10 := (k9 0 10 rfl rfl).trans ((k8 0 10 rfl rfl).trans (ky 0 10 rfl rfl))
    have hqvs : q ∉ vs := fun hx => hq (tf2.1 q hx)
    have ey1 : -2 ≤ y1.toInt ∧ y1.toInt ≤ 9 := by
      by_cases c : asM (kd p1) K T T2 Z2
      · rw [hy1.2 c]; omega
      · rw [hy1.1 c]; exact vT
    have fin : ∀ s10, KWr s9 s10 → Q q s10 t9 (zE ++ [q]) := fun s10 k10 => hk q s10 t9 _ (by
      have k3 := kpr_tr k39 (kpr_x (kw_x k10))
      have fx : FTq sE s10 (asM (kd p1) K T T2 Z2 ∨ 60 < 1 + mxq H H2) := ft_k f39 (k10 0 12 rfl rfl)
      refine ⟨p2, l ++ [stp 7 p1] ++ l2 ++ [stp 9 p1], fun L => ?_, by omega, gm_k i3 ((k10 0 10 rfl rfl).trans e39), kp_tr h4 (kp_tr kA.1 (kp_tr i4 k3.1)), fun hx => fx.2.2 (Or.inl (i5 (by rw [eA]; exact h5 hx))), rgm_k i6 k3.1 (by rw [k3.2.2.1]; exact rgq_D i6) fx.1, tf_tr tf2 tf9, List.mem_append_right _ (List.mem_singleton.mpr rfl), hqvs, 0, y1.toInt, 1 + mxq H H2, 0, 0, 0, 0, mv, ⟨by omega, ey1, ?_, fun hx => absurd rfl hx, fun hx => absurd hx (by decide), fun hx => absurd hx (by decide), by omega, fun hx => by omega⟩, ?_, fun c hc => ?_⟩
      · have this : PVq kd 0 d 0 p L (some (p2, L ++ l ++ [stp 7 p1] ++ l2 ++ [stp 9 p1])) := pv_e3 (m := 0) (h1 L) kas hd2 (i1 (L ++ l ++ [stp 7 p1]))
        simp only [List.append_assoc] at this ⊢
        exact this
      · unfold mxq; split <;> omega
      · unfold mxq; split <;> omega
      · have hc2 : ROq c d (rmq 1 0) ∧ ROq (c + 1) (d + 1) 13 ∧ c < 490 := by
          have e : rmq 1 0 = 12 := rfl
          have e0 : rmq 0 0 = 13 := rfl
          rw [e]
          unfold ROq at hc ⊢
          rw [e0] at hc
          omega
        refine ex_assign (g4 c hc2.1) (ex_src kA eA (j4 (c + 1) hc2.2.1)) g2 j2 hpn rfl kas hc2.2.2 h4 (kp_tr kA.1 i4) (fun hx => i5 (by rw [eA]; exact hx)) k3 fx (fun q1 q2 => ⟨?_, fun hb => hy1.1 hb⟩)
        have eB : ∀ P P2 : Prop, (K ≠ 0 → (P ↔ P2)) → ((K = 0 ∨ ¬ P) ↔ (¬ (1 ≤ K ∧ K ≤ 3) ∨ ¬ P2)) := fun P P2 h => by
          by_cases c : K = 0
          · exact ⟨fun _ => Or.inl (by omega), fun _ => Or.inl c⟩
          · rw [h c]
            exact or_congr ⟨fun hx => absurd hx c, fun hx => absurd (by omega) hx⟩ Iff.rfl
        refine eB _ _ (fun hK => ?_)
        have hT1 : T ≠ -1 := vKT (by omega)
        by_cases c30 : kd p1 = 30
        · rw [if_pos c30, if_pos c30]
          exact or_congr ⟨fun h => ⟨h, hT1⟩, fun h => h.1⟩ Iff.rfl
        · rw [if_neg c30, if_neg c30]
          by_cases c33 : kd p1 = 33 ∨ kd p1 = 34
          · rw [if_pos c33]
            exact ⟨fun h => ⟨h.2, c33.elim Or.inl (fun h => Or.inr (Or.inl h))⟩, fun h => ⟨by omega, h.1⟩⟩
          · rw [if_neg c33]
            exact ⟨fun h => ⟨h.2, Or.inr (Or.inr h.1)⟩, fun h => ⟨h.2.elim (fun e => absurd (Or.inl e) c33) (fun e => e.elim (fun e => absurd (Or.inr e) c33) id), h.1⟩⟩)
    refine ⟨fun s t z => t = t9 ∧ z = zE ++ [q] ∧ KWr s9 s, ?_, fun _ => ⟨rfl, rfl, kp_rf⟩, fun _ _ => mr_put2 (fun s296 k296 => ⟨rfl, rfl, k296⟩)⟩
    rintro s299 t299 z299 ⟨rfl, rfl, k299⟩
    exact ⟨fun _ _ => mr_put1 (fun s327 k327 => fin s327 (kp_tr k299 k327)), fun _ _ => mr_put1 (fun s314 k314 => fin s314 (kp_tr k299 k314))⟩
  · intro n30
    have c30 : kd p1 ≠ 30 := fun e => n30 (w30.2 e)
    have hK : K ≠ 0 := fun e => c (hy55.2 e)
    have un : asM (kd p1) K T T2 Z2 ↔ ¬ (if kd p1 = 33 ∨ kd p1 = 34 then 0 ≤ T ∧ T2 = 0 else T = 0 ∧ T2 = 0) := by
      unfold asM
      rw [if_neg c30]
      exact ⟨fun h => h.elim (fun e => absurd e hK) id, Or.inr⟩
    refine ⟨kd p1 = 33 ∨ kd p1 = 34, fun hj _ => ?_, fun e => Or.inl (w36.1 e), fun n36 => ⟨fun n37 => ?_, fun e => Or.inr (w37.1 e)⟩⟩
    · rw [if_pos hj] at un
      rw [eTy]
      refine ⟨fun hT => un.2 (fun h => by omega), fun hT => mr_isI j1' (fun v213 _ e213 => ⟨fun hx => un.2 (fun h => absurd hx (e213.2 h.2)), fun hx => fun h => un.1 h ⟨hT, e213.1 hx⟩⟩)⟩
    · have c33 : ¬ (kd p1 = 33 ∨ kd p1 = 34) := fun h => h.elim (fun e => n36 (w36.2 e)) (fun e => n37 (w37.2 e))
      rw [if_neg c33] at un
      exact mr_isI hAy (fun v223 _ e223 => ⟨fun hx => un.2 (fun h => absurd hx (e223.2 h.1)), fun hx => mr_isI j1' (fun v231 _ e231 => ⟨fun hy => un.2 (fun h => absurd hy (e231.2 h.2)), fun hy => fun h => un.1 h ⟨e223.1 hx, e231.1 hy⟩⟩)⟩)
  · intro e30 _
    have c30 : kd p1 = 30 := w30.1 e30
    have hK : K ≠ 0 := fun e => c (hy55.2 e)
    have un : asM (kd p1) K T T2 Z2 ↔ ¬ (T2 = T ∨ (0 < T ∧ Z2 ≠ 0)) := by
      unfold asM
      rw [if_pos c30]
      exact ⟨fun h => h.elim (fun e => absurd e hK) id, Or.inr⟩
    refine mr_fits j1' (fun v181 w181 e181 => ?_)
    rw [eTy] at e181
    exact ⟨fun hx => un.2 (fun h => by have := e181.2 h; omega), fun hx => fun h => un.1 h (e181.1 (by omega))⟩
end RAS
end

section
/-! the reference's expressions: calls, whole -/
section RCW
variable {σ s τ t : St} {kd : Nat → Int} {n S m lo d p p1 k u q c r : Nat} {vs z : List Nat} {a b : Int32} {K T H Z F I : Int} {X : Int32}
variable {Kexpression Kchoice : Int32 → St → St → List Nat → (Nat → St → St → List Nat → Prop) → (St → St → List Nat → Prop) → Prop} {Kbinary : Int32 → Int32 → St → St → List Nat → (Nat → St → St → List Nat → Prop) → (St → St → List Nat → Prop) → Prop} {Kdecided : Int32 → Nat → Int32 → Int32 → St → St → List Nat → (Nat → St → St → List Nat → Prop) → (St → St → List Nat → Prop) → Prop} {Kunary Kbehind Kprimary : Int32 → St → St → List Nat → (Nat → St → St → List Nat → Prop) → (St → St → List Nat → Prop) → Prop} {Kcall_0 : Int32 → Int32 → St → St → List Nat → (Nat → St → St → List Nat → Prop) → (St → St → List Nat → Prop) → Prop}
theorem mr_must1 {Q : St → St → List Nat → Prop} (h : a.toInt ≠ 0) (kk : Q σ τ vs) : pp_must a b σ τ vs Q := ⟨fun _ => kk, fun e => absurd e h⟩
/-- the end of a call: its height -/
theorem mr_high {Q : Nat → St → St → List Nat → Prop} {y x7 tk : Int32} (h0 : 0 ≤ (σ 0 12).toInt) (hq : q ∉ vs) (hx : 0 ≤ x7.toInt ∧ x7.toInt ≤ 20000) (kk : ∀ s t, KFr σ s → TFq τ vs t (vs ++ [q]) → MVq t q 0 y.toInt (1 + x7.toInt) 0 0 0 0 → FTq σ s (60 < 1 + x7.toInt) → Q q s t (vs ++ [q])) :
    pp_Vinit q y σ (upF τ q (fun _ => 0)) (vs ++ [q]) (fun s309 t309 z309 => (q ∈ z309) → (((x7 + (1 : Int32)).toInt ≤ 60 → (Q q s309 (upC t309 q 3 (x7 + (1 : Int32))) z309)) ∧ (60 < (x7 + (1 : Int32)).toInt → (pp_tell (4 : Int32) tk s309 (upC t309 q 3 (x7 + (1 : Int32))) z309 (fun s336 t336 z336 => Q q s336 t336 z336))))) := by
  obtain ⟨m1, m2⟩ := nv_made (τ := τ) (a := y) hq
  unfold pp_Vinit
  intro _ _
  have e1 : (x7 + (1 : Int32)).toInt = 1 + x7.toInt := by rw [ad1 (by omega)]; omega
  have mh := mv_hgt (a := x7 + (1 : Int32)) m1
  rw [e1] at mh ⊢
  have tf := tf_up (m := 3) (a := x7 + (1 : Int32)) m2 hq
  exact ⟨fun h => kk σ _ kp_rf tf mh (ft_iff (ft_rf h0) ⟨fun hx => hx.elim, fun hx => by omega⟩), fun h => mr_tell h0 (by decide) (fun s k f => kk s _ k tf mh (ft_iff f ⟨fun _ => h, fun _ => trivial⟩))⟩
theorem mul8q {x : Int32} (h0 : 0 ≤ x.toInt) (h1 : x.toInt ≤ 20000) : ((8 : Int32) * x).toInt = 8 * x.toInt := by
  rw [Int32.toInt_mul]
  have e8 : ((8 : Int32)).toInt = 8 := rfl
  rw [e8, Int.bmod_def]
  have e : ((2 ^ 32 : Nat) : Int) = 4294967296 := by decide
  rw [e]
  split <;> omega
end RCW
end

section
/-! the reference's expressions: calls, whole, on -/
/-- a call so far: N arguments, none higher than Hm -/
def CBq (kd : Nat → Int) (n S m lo d p : Nat) (gd : Prop) (r : Nat) (G : Nat → List Stq → Prop) (σ τ : St) (vs : List Nat) (N Hm : Int) (ok : Prop) (s t : St) (z : List Nat) : Prop :=
  ∃ (p1 : Nat) (l : List Stq), G p1 l ∧ p + 2 ≤ p1 ∧ GMt s n p1 ∧ KEr σ s ∧ MNq σ s ∧ RGm kd n S m lo s ∧ TFq τ vs t z ∧ (0 ≤ N ∧ N + p + 2 ≤ p1) ∧ (0 ≤ Hm ∧ Hm + p + 2 ≤ p1)
    ∧ (gd → ∀ c, ROq c d 1 → CLq kd n S m lo c ([stp 4 p] ++ l) σ s r N Hm ok)
section RCX
variable {σ σ1 σ' s τ t : St} {kd : Nat → Int} {n S m lo d p p1 k u q c r : Nat} {vs z : List Nat} {a b : Int32} {l : List Stq} {K T H Z F I N Hm : Int} {X : Int32} {ok ok2 : Prop}
variable {Kexpression Kchoice : Int32 → St → St → List Nat → (Nat → St → St → List Nat → Prop) → (St → St → List Nat → Prop) → Prop} {Kbinary : Int32 → Int32 → St → St → List Nat → (Nat → St → St → List Nat → Prop) → (St → St → List Nat → Prop) → Prop} {Kdecided : Int32 → Nat → Int32 → Int32 → St → St → List Nat → (Nat → St → St → List Nat → Prop) → (St → St → List Nat → Prop) → Prop} {Kunary Kbehind Kprimary : Int32 → St → St → List Nat → (Nat → St → St → List Nat → Prop) → (St → St → List Nat → Prop) → Prop} {Kcall_0 : Int32 → Int32 → St → St → List Nat → (Nat → St → St → List Nat → Prop) → (St → St → List Nat → Prop) → Prop}
theorem cl_iff (h : CLq kd n S m lo c l σ σ' r N Hm ok) (e : ok ↔ ok2) : CLq kd n S m lo c l σ σ' r N Hm ok2 := by
  have e' : ok = ok2 := propext e
  rw [← e']
  exact h
theorem mr_must2 {Q : St → St → List Nat → Prop} (h0 : 0 ≤ (σ 0 12).toInt) (kk : ∀ s, KFr σ s → FTq σ s (a.toInt = 0) → (a.toInt ≠ 0 → s = σ) → Q s τ vs) : pp_must a b σ τ vs Q :=
  ⟨fun h => kk σ kp_rf (ft_iff (ft_rf h0) ⟨fun hx => hx.elim, fun e => h e⟩) (fun _ => rfl), fun e => mr_tell h0 (by decide) (fun s k f => kk s k (ft_iff f ⟨fun _ => e, fun _ => trivial⟩) (fun h => absurd e h))⟩
theorem mr_is1 {Q : Int32 → Prop} {c : Int} (tk : RTk σ kd n) (g : GMt σ n p) (hc : 0 ≤ c ∧ c ≤ 62) (ha : ((32 : Int32) + a).toInt = rkI c) (kk : ∀ v : Int32, (v.toInt ≠ 0 ↔ kd p = c) → Q v) : pp_is a σ τ vs Q :=
  mr_is tk g hc ha (fun h => kk 1 ⟨fun _ => h, fun _ => by decide⟩) (fun h => kk 0 ⟨fun hx => absurd rfl hx, fun hx => absurd hx h⟩)
theorem mr_accept1 {Q : Int32 → St → St → List Nat → Prop} {c : Int} (tk : RTk σ kd n) (g : GMt σ n p) (hc : 2 ≤ c ∧ c ≤ 62) (ha : ((32 : Int32) + a).toInt = rkI c) (kk : ∀ (v : Int32) s p1, (v.toInt ≠ 0 ↔ kd p = c) → Kp [(0, 10)] [] σ s → GMt s n p1 → (kd p = c → p1 = p + 1) → (kd p ≠ c → p1 = p) → Q v s τ vs) : pp_accept a σ τ vs Q :=
  mr_accept tk g hc ha (fun h s k g' => kk 1 s (p + 1) ⟨fun _ => h, fun _ => by decide⟩ k g' (fun _ => rfl) (fun hx => absurd h hx)) (fun h => kk 0 σ p ⟨fun hx => absurd rfl hx, fun hx => absurd hx h⟩ kp_rf g (fun hx => absurd hx h) (fun _ => rfl))
theorem er_call {a1 a2 : Int32} (ha : a2.toInt = (d : Int)) (hd : d ≤ 25) (hb : a1.toInt = (p : Int)) (k2 : kd p = 2) (k20 : kd (p + 1) = 20) (hE : d < 25 → ∀ v : Int32, v.toInt = (d : Int) + 1 → ∀ p, ERq kd n S m lo 0 (d + 1) 0 p (Kexpression v)) :
    ECq kd n S m lo d p (fun σ τ vs Q T => pp_call_0 Kexpression Kchoice Kbinary Kdecided Kunary Kbehind Kprimary Kcall_0 a1 a2 σ τ vs Q T) := by
  intro σ τ vs Q F0 hG hg hk hn
  show pp_call_0 Kexpression Kchoice Kbinary Kdecided Kunary Kbehind Kprimary Kcall_0 a1 a2 σ τ vs Q (fun _ _ _ => F0)
  unfold pp_call_0
  have hn16 := hG.1.1
  have hpn : p ≤ n := by have := hg.2; omega
  have tu := hG.2.1 p hpn k2
  have hE0 := hG.2.2.2.2.1
  refine mr_local hb tu hG.2.2.2.1 (fun v2 hv2 => ⟨fun y => (LFm σ S p (-1) ∧ EFm σ lo (lo + m) p y.toInt) ∨ (y.toInt = -1 ∧ ∃ v : Int, 0 ≤ v ∧ LFm σ S p v), fun y hy => ?_, fun hx => mr_entity hb tu hE0 (fun v14 hv14 => Or.inl ⟨?_, hv14⟩), fun hx => Or.inr ⟨rfl, v2.toInt, hx, hv2⟩⟩)
  rotate_left
  · have e : v2.toInt = -1 := by
      rcases hv2 with ⟨j, _, _, _, e⟩ | ⟨_, e⟩
      · have := hG.2.2.2.2.2.2.2.2.1 j
        omega
      · exact e
    rw [← e]
    exact hv2
  refine ⟨fun y37 => (y37.toInt ≠ 0 ↔ 0 ≤ y.toInt ∧ (σ 9 y.toInt.toNat).toInt = 2), fun y37 w37 h37 => ?_, ¬ (0 ≤ y.toInt ∧ (σ 9 y.toInt.toNat).toInt = 2), fun hx => ⟨fun h => absurd rfl h, fun h => absurd h hx⟩, fun hx h => by omega, fun hx _ => ⟨fun h9 h => h9 h.2, fun h9 => ⟨fun _ => ⟨hx, h9⟩, fun _ => by decide⟩⟩⟩
  obtain ⟨r, hgood⟩ : ∃ r, y37.toInt ≠ 0 → (y.toNatClampNeg = lo + r ∧ y.toInt = ((lo + r : Nat) : Int) ∧ r < m ∧ LFm σ S p (-1) ∧ EFm σ lo (lo + m) p ((lo + r : Nat) : Int) ∧ (σ 9 (lo + r)).toInt = 2 ∧ lo + r < 10000) := by
    by_cases c : y37.toInt ≠ 0
    · obtain ⟨c1, c2⟩ := h37.1 c
      rcases hy with ⟨hl, he⟩ | ⟨hy, _⟩
      · have he' := he
        rcases he with ⟨e, e1, e2, e3, e4, e5⟩ | ⟨_, e5⟩
        · obtain ⟨r, rfl⟩ : ∃ r, e = lo + r := ⟨e - lo, by omega⟩
          rw [e5] at he' c2
          exact ⟨r, fun _ => ⟨nat_of e5, e5, by omega, hl, he', c2, by have := hE0.2.2.2.1; omega⟩⟩
        · omega
      · omega
    · exact ⟨0, fun h => absurd h c⟩
  have hbadf : y37.toInt = 0 → (LFm σ S p (-1) → EFm σ lo (lo + m) p (-1) ∨ ∃ e : Nat, EFm σ lo (lo + m) p e ∧ (σ 9 e).toInt ≠ 2) := by
    intro c hl
    rcases hy with ⟨_, he⟩ | ⟨_, v, hv, hl2⟩
    · by_cases c2 : 0 ≤ y.toInt
      · exact Or.inr ⟨y.toInt.toNat, by rw [Int.toNat_of_nonneg c2]; exact he, fun h => absurd c (h37.2 ⟨c2, h⟩)⟩
      · rcases he with ⟨e, _, _, _, _, e5⟩ | ⟨e4, e5⟩
        · omega
        · exact Or.inl (Or.inr ⟨e4, rfl⟩)
    · have := lf_one hl hl2
      omega
  clear hy hv2
  refine mr_must2 (rgq_0 hG) (fun s43 k43 f43 w43 => ⟨fun s t z => t = τ ∧ z = vs ∧ KEr σ s ∧ s 0 12 = s43 0 12 ∧ s 0 10 = σ 0 10 ∧ s 0 37 = σ 0 37 ∧ s 21 = σ 21 ∧ (y37.toInt ≠ 0 → ∀ k, s 14 k = if k = lo + r then 1 else σ 14 k), fun s58 t58 z58 h58 => ?_, fun h => ⟨rfl, rfl, kp_sub k43 rfl rfl, rfl, k43 0 10 rfl rfl, k43 0 37 rfl rfl, funext (fun i => k43 21 i rfl rfl), fun h2 => absurd h h2⟩, fun h _ => ⟨rfl, rfl, kp_a (kp_sub k43 rfl rfl) rfl, rfl, k43 0 10 rfl rfl, k43 0 37 rfl rfl, funext (fun i => k43 21 i rfl rfl), fun _ k => ?_⟩⟩)
  rotate_left
  · have en : vp_nar .boolean (1 : Int32) = 1 := rfl
    rw [rdA, (hgood h).1, en]
    split
    · rfl
    · exact k43 14 k rfl rfl
  obtain ⟨et, ez, q1, q2, q3, q4, q5, q6⟩ := h58
  rw [et, ez]
  clear et ez
  have hidx : y37.toInt ≠ 0 → (y - (s58 22 (s58 0 35).toNatClampNeg)).toNatClampNeg = r := fun h => by
    have e35 : s58 0 35 = σ 0 35 := q1 0 35 rfl rfl
    have e22 : s58 22 (σ 0 35).toNatClampNeg = σ 22 (σ 0 35).toNatClampNeg := q1 22 _ rfl rfl
    obtain ⟨g1, g2, g3, _, _, _, g4⟩ := hgood h
    have el := hE0.1
    rw [e35, e22]
    refine nat_of ?_
    rw [sb (by omega) (by omega), g2, el]
    omega
  refine ⟨fun s t z => t = τ ∧ z = vs ∧ KEr σ s ∧ s 0 12 = s43 0 12 ∧ s 0 10 = σ 0 10 ∧ s 0 37 = σ 0 37 ∧ (y37.toInt ≠ 0 → (∀ k, s 14 k = if k = lo + r then 1 else σ 14 k) ∧ ∀ k, (s 21 k).toInt < 0 ↔ k ≠ r ∧ (σ 21 k).toInt < 0), fun s99 t99 z99 h99 => ?_, fun h => ⟨rfl, rfl, q1, q2, q3, q4, fun h2 => absurd h h2⟩, fun h _ _ => ⟨fun hx => ⟨rfl, rfl, q1, q2, q3, q4, fun _ => ⟨q6 h, fun k => ?_⟩⟩, fun hx _ _ => ⟨rfl, rfl, kp_a q1 rfl, q2, q3, q4, fun _ => ⟨fun k => ?_, fun k => ?_⟩⟩⟩⟩
  rotate_left
  · rw [hidx h, q5] at hx
    rw [q5]
    refine ⟨fun hk => ⟨fun e => ?_, hk⟩, fun hk => hk.2⟩
    rw [e] at hk
    omega
  · rw [rdC_ne (by decide)]
    exact q6 h k
  · rw [rdA, hidx h, q5]
    by_cases c : k = r
    · rw [if_pos c, hb]
      exact ⟨fun hx => by omega, fun hx => absurd c hx.1⟩
    · rw [if_neg c]
      exact ⟨fun hx => ⟨c, hx⟩, fun hx => hx.2⟩
  obtain ⟨et, ez, q1, q2, q3, q4, q6⟩ := h99
  rw [et, ez]
  clear et ez hidx
  have hG99 : RGm kd n S m lo s99 := rgm_k hG q1 (by rw [q4]; exact rgq_D hG) (by rw [q2]; exact f43.1)
  have g99 : GMt s99 n (p + 1) := gm_k hg q3
  refine mr_deeper ha hd (fun hd2 v hv => ?_) (fun hd2 => hn (fun L => pv_k0 k2 k20 hd2))
  have k0 : Kp [(0, 10)] [] s99 (upC s99 0 10 ((s99 0 10) + (1 : Int32))) := kp_f kp_rf rfl
  have gu := gm_up hG99.1 g99 (by omega)
  have hGu := rgq_p hG99 k0
  generalize hsu : upC s99 0 10 ((s99 0 10) + (1 : Int32)) = su at k0 gu hGu ⊢
  have kEu : KEr σ su := kp_tr q1 (kpr_p k0).1
  have e12u : su 0 12 = s43 0 12 := (k0 0 12 rfl rfl).trans q2
  have e37u : su 0 37 = σ 0 37 := (k0 0 37 rfl rfl).trans q4
  have mnu : MNq σ su := fun hx => by rw [e12u]; exact f43.2.2 (Or.inl hx)
  have cl0 : y37.toInt ≠ 0 → ∀ c, ROq c d 1 → CLq kd n S m lo c ([stp 4 p] ++ []) σ su r 0 0 True := fun h c hc => by
    obtain ⟨g1, g2, g3, g4, g5, g6, g7⟩ := hgood h
    exact cl_callee hpn k2 (by unfold ROq at hc; omega) kEu g4 g5 g6 g3 (by rw [e12u, w43 h]) e37u (fun k => ((k0 14 k rfl rfl).trans ((q6 h).1 k))) (fun k => by rw [k0 21 k rfl rfl]; exact (q6 h).2 k)
  have bd0 : y37.toInt = 0 → FTq σ s43 True := fun h => ft_iff f43 ⟨fun _ => trivial, fun _ => h⟩
  have z2 : 0 ≤ (0 : Int32).toInt ∧ (0 : Int32).toInt + (p : Int) + 2 ≤ ((p + 2 : Nat) : Int) := by rw [i0]; omega
  refine mr_is1 hGu.1 gu (c := 21) (by decide) (by decide) (fun v128 e128 => ?_)
  refine ⟨fun x6 x7 x8 s t z => CBq kd n S m lo d p (y37.toInt ≠ 0) r (fun p1 l => (kd p1 = 21 → ∀ L, PVq kd 4 d 0 p L (some (p1 + 1, L ++ [stp 4 p] ++ l ++ [stp 6 p]))) ∧ (kd p1 ≠ 21 → ∀ L, PVq kd 4 d 0 p L none)) σ τ vs x6.toInt x7.toInt (x8.toInt ≠ 0) s t z ∧ MNq s43 s, ?_, ?_, ?_⟩
  · rintro x6 x7 x8 s t z w8 ⟨⟨p1, l, ⟨h1, h1b⟩, h2, h3, h4, h5, h6, h7, h8, h9, h10⟩, hmn⟩
    have hp1n := h3.2
    refine mr_expect h6.1 h3 (c := 21) (by decide) (by decide) (fun k21 s' ks' g' => ?_) (fun k21 => hn (h1b k21))
    have hG' := rgq_p h6 ks'
    refine ⟨fun y => (y37.toInt ≠ 0 → (y.toInt ≠ 0 ↔ x8.toInt ≠ 0 ∧ x6.toInt = (s' 15 (lo + r)).toInt)) ∧ (y37.toInt = 0 → y.toInt = 0), fun y253 w253 h253 => ?_, y37.toInt ≠ 0 → ¬ (x8.toInt ≠ 0 ∧ x6.toInt = (s' 15 (lo + r)).toInt), fun hx => ⟨fun h => ⟨fun h2 => absurd rfl h2, fun h2 => absurd h2 (hx h)⟩, fun _ => rfl⟩, fun e _ hx => hx.1 e, fun e8 => ⟨fun e37 h => absurd e37 h, fun e37 _ => ⟨fun hx _ hy => hx ?_, fun hx => ⟨fun _ => ⟨fun _ => ⟨e8, ?_⟩, fun _ => by decide⟩, fun h => absurd h e37⟩⟩⟩⟩
    rotate_left
    · rw [(hgood e37).1]
      exact hy.2
    · rw [(hgood e37).1] at hx
      exact hx
    refine mr_must (rgq_0 hG') (fun s8 k8 f8 => ⟨fun _ => True, fun y280 _ _ => mr_put2 (fun s286 k286 => fun _ q hq => ⟨fun y => (y37.toInt ≠ 0 → y.toInt = (σ 10 (lo + r)).toInt) ∧ (y37.toInt = 0 → y.toInt = -2), fun y309 h309 => ?_, fun h => ⟨fun h2 => absurd h h2, fun _ => rfl⟩, fun h _ => ⟨fun _ => ?_, fun h2 => absurd h2 h⟩⟩), fun _ => trivial, fun _ _ => trivial⟩)
    rotate_left
    · rw [(hgood h).1]
      have e : s286 10 (lo + r) = σ 10 (lo + r) := (k286 10 _ rfl rfl).trans ((k8 10 _ rfl rfl).trans ((ks' 10 _ rfl rfl).trans (h4 10 _ rfl rfl)))
      rw [e]
    refine mr_high (by rw [k286 0 12 rfl rfl]; exact f8.1) hq (by omega) (fun sF tF kF tfF mv fF => hk q sF tF _ ?_)
    have k3 : KPr s sF := kpr_tr (kpr_p ks') (kpr_tr (kpr_x (kf_x k8)) (kpr_tr (kpr_x (kw_x k286)) (kpr_x (kf_x kF))))
    have e10 : sF 0 10 = s' 0 10 := (kF 0 10 rfl rfl).trans ((k286 0 10 rfl rfl).trans (k8 0 10 rfl rfl))
    have f3 : FTq s sF (y253.toInt = 0 ∨ 60 < 1 + x7.toInt) := ft_from (ks' 0 12 rfl rfl) (ks' 0 15 rfl rfl) (ft_tr (ft_k f8 (k286 0 12 rfl rfl)) fF ((k286 0 15 rfl rfl).trans (k8 0 15 rfl rfl)))
    have e309 : -2 ≤ y309.toInt ∧ y309.toInt ≤ 9 := by
      by_cases c : y37.toInt ≠ 0
      · rw [h309.1 c]
        have := hG.2.2.2.2.2.2.2.1 (lo + r)
        have := (hG.2.2.2.2.2.2.2.2.2.1 (lo + r) (by omega) (by have := (hgood c).2.2.1; omega)).1.2
        omega
      · rw [h309.2 (by omega)]
        omega
    refine ⟨p1 + 1, [stp 4 p] ++ l ++ [stp 6 p], fun L => ?_, by omega, gm_k g' e10, kp_tr h4 k3.1, fun hx => f3.2.2 (Or.inl (h5 hx)), rgm_k h6 k3.1 (by rw [k3.2.2.1]; exact rgq_D h6) f3.1, tf_tr h7 tfF, List.mem_append_right _ (List.mem_singleton.mpr rfl), fun hx => hq (h7.1 q hx), 0, y309.toInt, 1 + x7.toInt, 0, 0, 0, 0, mv, ⟨by omega, e309, by omega, fun hx => absurd rfl hx, fun hx => absurd hx (by decide), fun hx => absurd hx (by decide), by omega, fun hx => by omega⟩, by omega, fun c hc => ?_⟩
    · have := h1 k21 L
      simp only [List.append_assoc] at this ⊢
      exact this
    · have hc2 : ROq c d 1 ∧ c < 480 := by
        have e : rmq 4 0 = 1 := rfl
        unfold ROq at hc ⊢
        rw [e] at hc
        omega
      by_cases hgd : y37.toInt ≠ 0
      · obtain ⟨g1, g2, g3, g4, g5, g6, g7⟩ := hgood hgd
        have e9 : s 9 (lo + r) = σ 9 (lo + r) := h4 9 _ rfl rfl
        have e10' : s 10 (lo + r) = σ 10 (lo + r) := h4 10 _ rfl rfl
        have e15 : s' 15 (lo + r) = s 15 (lo + r) := ks' 15 _ rfl rfl
        have f4 : FTq s sF (¬ (x8.toInt ≠ 0 ∧ x6.toInt = (s 15 (lo + r)).toInt) ∨ 60 < 1 + x7.toInt) := ft_iff f3 (or_congr (by
          have := h253.1 hgd
          rw [e15] at this
          rw [← this]
          omega) Iff.rfl)
        have := cl_call (q := p) (h10 hgd c hc2.1) hc2.2 h9.1 g3 (by rw [e9]; exact g6) h4 k3 f4
        rw [e10', ← h309.1 hgd] at this
        exact this
      · have e37 : y37.toInt = 0 := by omega
        rw [List.append_assoc]
        exact ex_nocall hpn k2 (by omega) (hbadf e37) (bd0 e37) (k43 0 15 rfl rfl) (fun hx => f3.2.2 (Or.inl (hmn hx)))
  · intro h
    have k21 := e128.1 h
    refine ⟨⟨p + 2, [], ⟨fun _ L => ?_, fun hx => absurd k21 hx⟩, by omega, gu, kEu, mnu, hGu, tf_rf, z2, z2, fun h c hc => cl_iff (cl0 h c hc) ⟨fun _ => by decide, fun _ => trivial⟩⟩, fun hx => by rw [e12u]; exact hx⟩
    have := pv_k1 (m := 0) (L := L) k2 k20 hd2 k21
    rw [List.append_nil]
    exact this
  · intro h
    have k21 : kd (p + 2) ≠ 21 := fun e => absurd h (e128.2 e)
    refine ⟨fun x6 x7 x8 s t z => CBq kd n S m lo d p (y37.toInt ≠ 0) r (fun p1 l => ∀ L R, PVq kd 5 d p p1 (L ++ [stp 4 p] ++ l) R → PVq kd 4 d 0 p L R) σ τ vs x6.toInt x7.toInt (x8.toInt ≠ 0) s t z ∧ MNq s43 s, ⟨⟨p + 2, [], fun L R hR => pv_k2 k2 k20 hd2 k21 (by rw [List.append_nil] at hR; exact hR), by omega, gu, kEu, mnu, hGu, tf_rf, z2, z2, fun h c hc => cl_iff (cl0 h c hc) ⟨fun _ => by decide, fun _ => trivial⟩⟩, fun hx => by rw [e12u]; exact hx⟩, ?_⟩
    rintro x6 x7 x8 s t z w8 ⟨⟨p1, l, h1, h2, h3, h4, h5, h6, h7, h8, h9, h10⟩, hmn⟩
    have hp1n := h3.2
    refine hE hd2 v hv p1 s t z _ F0 h6 h3 (fun u2 sE tE zE hx => ?_) (fun hnone => hn (fun L => h1 L none (pv_a0 (hnone (L ++ [stp 4 p] ++ l)))))
    obtain ⟨p2, l2, i1, i2, i3, i4, i5, i6, i7, i8, i9, K2, T2, H2, Z2, F2, I2, X2, j1, j2, j3, j4⟩ := hx
    have hp2n := i3.2
    have hH2 := j2.2.2.1
    refine mr_read j1 (fun _ sy ty ky hney j1' => ?_)
    have hGy := rgq_w i6 ky
    refine ⟨fun y => (y37.toInt ≠ 0 → (y.toInt ≠ 0 ↔ x8.toInt ≠ 0 ∧ AGm sE (lo + r) x6.toInt T2 Z2)), fun y194 w194 h194 _ => ?_, y37.toInt ≠ 0 → ¬ (x8.toInt ≠ 0 ∧ AGm sE (lo + r) x6.toInt T2 Z2), fun hx h => ⟨fun h2 => absurd rfl h2, fun h2 => absurd h2 (hx h)⟩, fun e _ hx => hx.1 e, fun e8 => ⟨fun e37 h => absurd e37 h, fun e37 _ => ?_⟩⟩
    · refine mr_accept1 hGy.1 (gm_k i3 (ky 0 10 rfl rfl)) (c := 26) (by decide) (by decide) (fun v214 s214 p3 e214 k214 g214 hp26 hp27 => ?_)
      have k3 : KPr sE s214 := kpr_tr (kpr_x (kw_x ky)) (kpr_p k214)
      have e12 : s214 0 12 = sE 0 12 := (k214 0 12 rfl rfl).trans (ky 0 12 rfl rfl)
      have e6 : (x6 + 1).toInt = x6.toInt + 1 := ad1 (by omega)
      have e7 : (if x7 < (ty u2 3) then (ty u2 3) else x7).toInt = mxq x7.toInt H2 := by rw [mx_int, j1'.2.2.1]
      have hp3 : p2 ≤ p3 := by
        by_cases c : kd p2 = 26
        · have := hp26 c; omega
        · have := hp27 c; omega
      have hmx : 0 ≤ mxq x7.toInt H2 ∧ mxq x7.toInt H2 + p + 2 ≤ p3 := by
        unfold mxq
        split <;> omega
      have all : ∀ G : Nat → List Stq → Prop, G p3 (l ++ l2 ++ [stp 5 p]) → CBq kd n S m lo d p (y37.toInt ≠ 0) r G σ τ vs (x6 + 1).toInt (if x7 < (ty u2 3) then (ty u2 3) else x7).toInt (y194.toInt ≠ 0) s214 ty zE ∧ MNq s43 s214 := fun G hGG => by
        rw [e6, e7]
        refine ⟨⟨p3, l ++ l2 ++ [stp 5 p], hGG, by omega, g214, kp_tr h4 (kp_tr i4 k3.1), fun hx => by rw [e12]; exact i5 (h5 hx), rgq_p hGy k214, tf_tr h7 (tf_read i7 i9 hney), ⟨by omega, by omega⟩, hmx, fun hgd c hc => ?_⟩, fun hx => by rw [e12]; exact i5 (hmn hx)⟩
        obtain ⟨g1, g2, g3, g4, g5, g6, g7⟩ := hgood hgd
        obtain ⟨r1, r2⟩ := ro_in hd2 hc (by decide)
        have e9 : sE 9 (lo + r) = σ 9 (lo + r) := (i4 9 _ rfl rfl).trans (h4 9 _ rfl rfl)
        have := cl_arg (q := p) (h10 hgd c hc) (j4 (c + 1) r1) j2 r2 ⟨h8.1, by omega⟩ g3 (by rw [e9]; exact g6) (fun hN => (i6.2.2.2.2.2.2.2.2.2.1 (lo + r) (by omega) (by omega)).2 (by rw [e9]; have := g6; omega) x6.toInt.toNat (by omega)) h4 i4 i5 k3 e12
        simp only [List.append_assoc] at this ⊢
        exact cl_iff this (h194 hgd).symm
      refine ⟨fun hx => ?_, fun hx => ?_⟩
      · have c := e214.1 hx
        obtain rfl := hp26 c
        refine all _ (fun L R hR => h1 L R (pv_a1 (i1 (L ++ [stp 4 p] ++ l)) c ?_))
        simp only [List.append_assoc] at hR ⊢
        exact hR
      · have c : kd p2 ≠ 26 := fun e => absurd hx (e214.2 e)
        obtain rfl := hp27 c
        refine all _ ⟨fun c1 L => ?_, fun c1 L => h1 L none (pv_a3 (i1 (L ++ [stp 4 p] ++ l)) c c1)⟩
        have := h1 L _ (pv_a2 (i1 (L ++ [stp 4 p] ++ l)) c1)
        simp only [List.append_assoc] at this ⊢
        exact this
    · obtain ⟨g1, g2, g3, g4, g5, g6, g7⟩ := hgood e37
      rw [g1]
      have e15 : sy 15 (lo + r) = sE 15 (lo + r) := ky 15 _ rfl rfl
      rw [e15]
      refine ⟨fun hx _ hy => by have := hy.2.1; omega, fun hx _ => ?_⟩
      have e8y : ((8 : Int32) * y).toInt = 8 * y.toInt := mul8q (by omega) (by omega)
      have ei : (((8 : Int32) * y) + x6).toNatClampNeg = 8 * (lo + r) + x6.toInt.toNat := nat_of (by
        rw [ad (by omega) (by omega), e8y, g2]
        omega)
      have e16 : sy 16 (8 * (lo + r) + x6.toInt.toNat) = sE 16 (8 * (lo + r) + x6.toInt.toNat) := ky 16 _ rfl rfl
      rw [ei, e16]
      refine mr_fits j1' (fun v183 w183 e183 => ⟨fun hy _ hz => ?_, fun hy _ => ⟨fun _ => ⟨e8, hx, e183.1 (by omega)⟩, fun _ => by decide⟩⟩)
      have := e183.2 hz.2.2
      omega
end RCX
end

section
/-! the reference's expressions: all of the group -/
def GXQ (kd : Nat → Int) (n S m lo : Nat) (g : KTE) : Prop := ∀ (d : Nat) (a : Int32), a.toInt = (d : Int) → d ≤ 25 →
  (∀ p, ERq kd n S m lo 0 d 0 p (g.1 a)) ∧ (∀ p, ERq kd n S m lo 1 d 0 p (g.2.1 a)) ∧ (∀ (k p : Nat) (v : Int32), v.toInt = (k : Int) → 1 ≤ k → k ≤ 11 → ERq kd n S m lo 7 d k p (g.2.2.1 v a)) ∧ EDq kd n S m lo d (fun x u tk => g.2.2.2.1 x u tk a)
  ∧ (∀ p, ERq kd n S m lo 2 d 0 p (g.2.2.2.2.1 a)) ∧ (∀ p, ¬ UNq (kd p) → ¬ (kd p = 20 ∧ kd (p + 1) = 5) → ERq kd n S m lo 2 d 0 p (g.2.2.2.2.2.1 a)) ∧ (∀ p, ERq kd n S m lo 4 d 0 p (g.2.2.2.2.2.2.1 a))
  ∧ ∀ p, kd p = 2 → kd (p + 1) = 20 → ∀ b : Int32, b.toInt = (p : Int) → ECq kd n S m lo d p (g.2.2.2.2.2.2.2 b a)
theorem er_group {kd : Nat → Int} {n S m lo : Nat} : ∀ N, GXQ kd n S m lo (PKKE N)
  | 0 => fun d a _ _ => ⟨fun _ _ _ _ _ _ _ _ _ _ => trivial, fun _ _ _ _ _ _ _ _ _ _ => trivial, fun _ _ _ _ _ _ _ _ _ _ _ _ _ _ _ => trivial, fun _ _ _ _ _ _ _ _ _ _ _ _ _ _ _ _ _ _ _ _ _ _ _ _ _ _ _ => trivial, fun _ _ _ _ _ _ _ _ _ _ => trivial, fun _ _ _ _ _ _ _ _ _ _ _ _ => trivial, fun _ _ _ _ _ _ _ _ _ _ => trivial, fun _ _ _ _ _ _ _ _ _ _ _ _ _ _ => trivial⟩
  | N + 1 => fun d a ha hd => by
    have ih := er_group (kd := kd) (n := n) (S := S) (m := m) (lo := lo) N
    obtain ⟨h0, h1, h7, hD, h2, hB, h4, hC⟩ := ih d a ha hd
    have up : ∀ {P : Int32 → Prop}, (d < 25 → ∀ v : Int32, v.toInt = (d : Int) + 1 → P v) → (d < 25 → ∀ v : Int32, v.toInt = (d : Int) + 1 → P v) := fun h => h
    have e0 : d < 25 → ∀ v : Int32, v.toInt = (d : Int) + 1 → ∀ p, ERq kd n S m lo 0 (d + 1) 0 p ((PKKE N).1 v) := fun hd2 v hv => (ih (d + 1) v (by rw [hv]; rfl) (by omega)).1
    have e1 : d < 25 → ∀ v : Int32, v.toInt = (d : Int) + 1 → ∀ p, ERq kd n S m lo 1 (d + 1) 0 p ((PKKE N).2.1 v) := fun hd2 v hv => (ih (d + 1) v (by rw [hv]; rfl) (by omega)).2.1
    have e2 : d < 25 → ∀ v : Int32, v.toInt = (d : Int) + 1 → ∀ p, ERq kd n S m lo 2 (d + 1) 0 p ((PKKE N).2.2.2.2.1 v) := fun hd2 v hv => (ih (d + 1) v (by rw [hv]; rfl) (by omega)).2.2.2.2.1
    exact ⟨fun p => er_expression (Kexpression := (PKKE N).1) (Kchoice := (PKKE N).2.1) (Kbinary := (PKKE N).2.2.1) (Kdecided := (PKKE N).2.2.2.1) (Kunary := (PKKE N).2.2.2.2.1) (Kbehind := (PKKE N).2.2.2.2.2.1) (Kprimary := (PKKE N).2.2.2.2.2.2.1) (Kcall_0 := (PKKE N).2.2.2.2.2.2.2) ha hd (h1 p) e0, fun p => er_choice (Kexpression := (PKKE N).1) (Kchoice := (PKKE N).2.1) (Kbinary := (PKKE N).2.2.1) (Kdecided := (PKKE N).2.2.2.1) (Kunary := (PKKE N).2.2.2.2.1) (Kbehind := (PKKE N).2.2.2.2.2.1) (Kprimary := (PKKE N).2.2.2.2.2.2.1) (Kcall_0 := (PKKE N).2.2.2.2.2.2.2) ha hd (h7 1 p 1 rfl (by omega) (by omega)) e0 e1, fun k p v hv hk1 hk2 => er_binary (Kexpression := (PKKE N).1) (Kchoice := (PKKE N).2.1) (Kbinary := (PKKE N).2.2.1) (Kdecided := (PKKE N).2.2.2.1) (Kunary := (PKKE N).2.2.2.2.1) (Kbehind := (PKKE N).2.2.2.2.2.1) (Kprimary := (PKKE N).2.2.2.2.2.2.1) (Kcall_0 := (PKKE N).2.2.2.2.2.2.2) hv ha hd hk1 hk2 (h2 p) hD h7, er_decided (Kexpression := (PKKE N).1) (Kchoice := (PKKE N).2.1) (Kbinary := (PKKE N).2.2.1) (Kdecided := (PKKE N).2.2.2.1) (Kunary := (PKKE N).2.2.2.2.1) (Kbehind := (PKKE N).2.2.2.2.2.1) (Kprimary := (PKKE N).2.2.2.2.2.2.1) (Kcall_0 := (PKKE N).2.2.2.2.2.2.2) ha hd h7, fun p => er_unary (Kexpression := (PKKE N).1) (Kchoice := (PKKE N).2.1) (Kbinary := (PKKE N).2.2.1) (Kdecided := (PKKE N).2.2.2.1) (Kunary := (PKKE N).2.2.2.2.1) (Kbehind := (PKKE N).2.2.2.2.2.1) (Kprimary := (PKKE N).2.2.2.2.2.2.1) (Kcall_0 := (PKKE N).2.2.2.2.2.2.2) ha hd e2 hB, fun p c1 c2 => er_behind (Kexpression := (PKKE N).1) (Kchoice := (PKKE N).2.1) (Kbinary := (PKKE N).2.2.1) (Kdecided := (PKKE N).2.2.2.1) (Kunary := (PKKE N).2.2.2.2.1) (Kbehind := (PKKE N).2.2.2.2.2.1) (Kprimary := (PKKE N).2.2.2.2.2.2.1) (Kcall_0 := (PKKE N).2.2.2.2.2.2.2) ha hd c1 c2 (h4 p) e0, fun p => er_primary (Kexpression := (PKKE N).1) (Kchoice := (PKKE N).2.1) (Kbinary := (PKKE N).2.2.1) (Kdecided := (PKKE N).2.2.2.1) (Kunary := (PKKE N).2.2.2.2.1) (Kbehind := (PKKE N).2.2.2.2.2.1) (Kprimary := (PKKE N).2.2.2.2.2.2.1) (Kcall_0 := (PKKE N).2.2.2.2.2.2.2) ha hd e0 (fun p c1 c2 b hb => hC p c1 c2 b hb), fun p c1 c2 b hb => er_call (Kexpression := (PKKE N).1) (Kchoice := (PKKE N).2.1) (Kbinary := (PKKE N).2.2.1) (Kdecided := (PKKE N).2.2.2.1) (Kunary := (PKKE N).2.2.2.2.1) (Kbehind := (PKKE N).2.2.2.2.2.1) (Kprimary := (PKKE N).2.2.2.2.2.2.1) (Kcall_0 := (PKKE N).2.2.2.2.2.2.2) ha hd hb c1 c2 e0⟩
/-- an expression of a statement or of an initial -/
theorem er_expr {kd : Nat → Int} {n S m lo : Nat} (p : Nat) : ERq kd n S m lo 0 1 0 p (ppE_expression (1 : Int32)) := (er_group 1100 1 1 rfl (by omega)).1 p
end

