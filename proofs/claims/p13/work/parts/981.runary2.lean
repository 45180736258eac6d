/-! the reference's expressions: unary, whole -/
section RUW
variable {σ s τ t : St} {kd : Nat → Int} {n S m lo d p : Nat} {vs : List Nat} {a : Int32}
variable {Kexpression Kchoice : Int32 → St → St → List Nat → (Nat → St → St → List Nat → Prop) → (St → St → List Nat → Prop) → Prop} {Kbinary : Int32 → Int32 → St → St → List Nat → (Nat → St → St → List Nat → Prop) → (St → St → List Nat → Prop) → Prop} {Kdecided : Int32 → Nat → Int32 → Int32 → St → St → List Nat → (Nat → St → St → List Nat → Prop) → (St → St → List Nat → Prop) → Prop} {Kunary Kbehind Kprimary : Int32 → St → St → List Nat → (Nat → St → St → List Nat → Prop) → (St → St → List Nat → Prop) → Prop} {Kcall_0 : Int32 → Int32 → St → St → List Nat → (Nat → St → St → List Nat → Prop) → (St → St → List Nat → Prop) → Prop}
theorem er_unary (ha : a.toInt = (d : Int)) (hd : d ≤ 25)
    (hU : d < 25 → ∀ v : Int32, v.toInt = (d : Int) + 1 → ∀ p, ERq kd n S m lo 2 (d + 1) 0 p (Kunary v))
    (hB : ∀ p, ¬ UNq (kd p) → ¬ (kd p = 20 ∧ kd (p + 1) = 5) → ERq kd n S m lo 2 d 0 p (Kbehind a)) :
    ERq kd n S m lo 2 d 0 p (fun σ τ vs Q T => pp_unary Kexpression Kchoice Kbinary Kdecided Kunary Kbehind Kprimary Kcall_0 a σ τ vs Q T) := by
  intro σ τ vs Q F hG hg hk hn
  show pp_unary Kexpression Kchoice Kbinary Kdecided Kunary Kbehind Kprimary Kcall_0 a σ τ vs Q (fun _ _ _ => F)
  unfold pp_unary
  have hk62 := hG.1.2.2.1 p
  have hn16 := hG.1.1
  have hgr : ∀ {s : St}, Kp [(0, 10)] [] σ s → RGm kd n S m lo s := fun {s} ks => rgm_k hG (kpr_p ks).1 (by rw [ks 0 37 rfl rfl]; exact hG.2.2.2.2.2.2.2.2.2.2.1) (by rw [ks 0 12 rfl rfl]; exact hG.2.2.2.2.2.2.2.2.2.2.2)
  refine mr_sign hG.1 hg (fun v6 hv => ?_)
  obtain ⟨i41, i37, i33, i38, i18, i19⟩ := rk_iff3 (sg := kd p) hk62 hv
  obtain ⟨i42, i20, _⟩ := rk_iff5 hk62
  rw [← hv] at i42 i20
  refine ⟨UNq (kd p), fun hun => ?_, fun c => by have := i37.1 c; unfold UNq; omega, fun n37 => ⟨fun c => by have := i41.1 c; unfold UNq; omega, fun n41 => ⟨fun c => by have := i42.1 c; unfold UNq; omega, fun n42 => ⟨fun c => by have := i38.1 c; unfold UNq; omega, fun n38 => ⟨fun c => by have := i33.1 c; unfold UNq; omega, fun n33 => ⟨fun c => by have := i18.1 c; unfold UNq; omega, fun n18 => ⟨fun n19 => ?_, fun c => by have := i19.1 c; unfold UNq; omega⟩⟩⟩⟩⟩⟩⟩
  · have h2 : 2 ≤ kd p := by unfold UNq at hun; omega
    refine mr_deeper ha hd (fun hd2 v hv' => ?_) (fun hd2 => hn (fun L => pv_u0 hun hd2))
    have k0 : Kp [(0, 10)] [] σ (upC σ 0 10 ((σ 0 10) + (1 : Int32))) := kp_f kp_rf rfl
    exact hU hd2 v hv' (p + 1) _ τ vs _ F (hgr k0) (gm_up hG.1 hg h2) (fun u s t z he => er_sign hg.2 hn16 hd2 hun hk62 hv k0 he hk) (fun hnone => hn (fun L => pv_u1 hun hd2 (hnone L)))
  · have nun : ¬ UNq (kd p) := fun hun => by
      unfold UNq at hun
      rcases hun with e | e | e | e | e | e | e
      · exact n37 (i37.2 e)
      · exact n41 (i41.2 e)
      · exact n42 (i42.2 e)
      · exact n38 (i38.2 e)
      · exact n33 (i33.2 e)
      · exact n18 (i18.2 e)
      · exact n19 (i19.2 e)
    refine ⟨¬ (kd p = 20 ∧ kd (p + 1) = 5), fun hj => hB p nun hj σ τ vs _ F hG hg hk hn, fun c hx => c (i20.2 hx.1), fun c _ => ?_⟩
    have k20 := i20.1 c
    have hlt := gm_lt hG.1 hg (by omega)
    have e1 : ((σ 0 10) + (1 : Int32)).toNatClampNeg = p + 1 := nat_of (by rw [ad0 i1 (by have := hg.1; omega) (by have := hg.1; omega), hg.1]; rfl)
    rw [e1, hG.1.2.1 (p + 1) (by omega)]
    have i5 := (rk_iff5 (hG.1.2.2.1 (p + 1))).2.2
    refine ⟨fun c5 hx => c5 (i5.2 hx.2), fun c5 => ?_⟩
    have k5 := i5.1 c5
    have k01 : Kp [(0, 10)] [] σ (upC σ 0 10 ((σ 0 10) + (1 : Int32))) := kp_f kp_rf rfl
    have hlt2 : p + 1 < n := gm_lt (hgr k01).1 (gm_up hG.1 hg (by omega)) (by omega)
    refine mr_deeper ha hd (fun hd2 v hv' => ?_) (fun hd2 => hn (fun L => pv_t0 ⟨k20, k5⟩ hd2))
    have k0 : Kp [(0, 10)] [] σ (upC σ 0 10 ((σ 0 10) + (2 : Int32))) := kp_f kp_rf rfl
    have g2 : GMt (upC σ 0 10 ((σ 0 10) + (2 : Int32))) n (p + 2) := by
      refine ⟨?_, by omega⟩
      rw [rdA_eq rfl, ad0 (n := 2) (by decide) (by have := hg.1; omega) (by have := hg.1; omega), hg.1]
      rfl
    refine mr_stars (hgr k0).1 g2 (fun x s1 i p1 hx hi5 hs hpp g1 ks1 => ?_) (fun hs => hn (fun L => pv_t1 ⟨k20, k5⟩ hd2 hs))
    have k1 := kp_tr k0 ks1
    refine mr_expect (hgr k1).1 g1 (c := 21) (by decide) (by decide) (fun k21 s2 ks2 g2' => ?_) (fun k21 => hn (fun L => pv_t2 ⟨k20, k5⟩ hd2 hs k21))
    have k2 := kp_tr k1 ks2
    refine hU hd2 v hv' (p1 + 1) s2 τ vs _ F (hgr k2) g2' (fun u s t z he => ?_) (fun hnone => hn (fun L => pv_t3 ⟨k20, k5⟩ hd2 hs k21 (hnone L)))
    obtain ⟨p', l, h1, h2, h3, h4, h5, h6, h7, h8, h9, K, T, H, Z, F', I, X, g3, g4, g5, g6⟩ := he
    have hp' := h3.2
    have hH : 0 ≤ H ∧ H ≤ 20000 := by have := g4.2.2.1; omega
    refine mr_read g3 (fun _ sr tr kr hne g1' => mr_isA g1' (fun v7 _ w7 => mr_must (by rw [kr 0 12 rfl rfl]; exact h6.2.2.2.2.2.2.2.2.2.2.2) (fun s8 k8 f8 => mr_made f8.1 g1' g1' h8 h8 ⟨hH.1, hH.2, hH.1, hH.2⟩ (fun q s9 t9 hq k9 tf t0 mv f9 => hk q s9 t9 _ ?_))))
    rw [mx_same] at mv f9
    have tfr : TFq τ vs tr z := ⟨h7.1, fun w hw k => by
      rw [hne w (fun e => h9 (by rw [← e]; exact hw)) k]
      exact h7.2 w hw k⟩
    have k3 : KPr s s9 := kpr_tr (kpr_x (kw_x kr)) (kpr_tr (kpr_x (kf_x k8)) (kpr_x (kf_x k9)))
    have f3 : FTq s s9 (v7.toInt = 0 ∨ 60 < 1 + H) := ft_from (kr 0 12 rfl rfl) (kr 0 15 rfl rfl) (ft_tr f8 f9 (k8 0 15 rfl rfl))
    have e12 : s2 0 12 = σ 0 12 := k2 0 12 rfl rfl
    rw [hx] at mv
    have vT := g4.2.1
    refine ⟨p', l ++ [(12, p, (i : Int), 0)], fun L => ?_, by omega, gm_k h3 (((k9 0 10 rfl rfl).trans (k8 0 10 rfl rfl)).trans (kr 0 10 rfl rfl)), kp_tr (kpr_p k2).1 (kp_tr h4 k3.1), fun hy => f3.2.2 (Or.inl (h5 (by rw [e12]; exact hy))), rgm_k h6 k3.1 (by rw [k3.2.2.1]; exact h6.2.2.2.2.2.2.2.2.2.2.1) f3.1, tf_new tfr tf, List.mem_append_right _ (List.mem_singleton.mpr rfl), fun hy => hq (h7.1 q hy), 0, i, 1 + H, 0, 0, 0, 0, mv, ⟨by omega, by omega, by omega, fun hy => absurd rfl hy, fun hy => absurd hy (by decide), fun hy => absurd hy (by decide), by omega, fun hy => by omega⟩, by omega, fun c hc => ex_src (kpr_p k2) e12 ?_⟩
    · have := pv_t3 (m := 0) ⟨k20, k5⟩ hd2 hs k21 (h1 L)
      rw [← List.append_assoc]
      exact this
    · have hc2 : ROq c (d + 1) (rmq 2 0) ∧ c < 490 := by
        unfold ROq rmq at hc ⊢
        rw [if_neg (by decide), if_neg (by decide), if_neg (by decide)] at hc ⊢
        omega
      exact ex_cast (g6 c hc2.1) g4 hc2.2 h4 k3 f3 (by omega) (fun hT => ⟨fun hy => by omega, fun hy => by omega⟩)
end RUW
