/-! the reference's expressions: two sides, whole -/
section RBJ
variable {σ σ1 σ2 σ3 s s2 τ t t2 : St} {kd : Nat → Int} {n S m lo d p p1 k u q c r : Nat} {vs z : List Nat} {a b : Int32} {l l1 : List Stq} {K T H Z F I T3 : Int} {X : Int32} {B : Prop} {G G2 : Nat → List Stq → Prop}
variable {Kexpression Kchoice : Int32 → St → St → List Nat → (Nat → St → St → List Nat → Prop) → (St → St → List Nat → Prop) → Prop} {Kbinary : Int32 → Int32 → St → St → List Nat → (Nat → St → St → List Nat → Prop) → (St → St → List Nat → Prop) → Prop} {Kdecided : Int32 → Nat → Int32 → Int32 → St → St → List Nat → (Nat → St → St → List Nat → Prop) → (St → St → List Nat → Prop) → Prop} {Kunary Kbehind Kprimary : Int32 → St → St → List Nat → (Nat → St → St → List Nat → Prop) → (St → St → List Nat → Prop) → Prop} {Kcall_0 : Int32 → Int32 → St → St → List Nat → (Nat → St → St → List Nat → Prop) → (St → St → List Nat → Prop) → Prop}
theorem vr_z (h : VRq K T H Z F) (hz : Z ≠ 0) : T ≠ -1 := by
  rw [h.2.2.2.2.1 (h.2.2.2.1 hz)]
  decide
theorem vr_0 (h : VRq K T H Z F) : VRq 0 T H Z F := ⟨by omega, h.2.1, h.2.2.1, h.2.2.2.1, h.2.2.2.2.1, h.2.2.2.2.2.1, h.2.2.2.2.2.2.1, fun hx => by omega⟩
/-- two sides, so far -/
theorem eb_next {t6 : St} {z6 : List Nat} (hl : 41 ≤ kd p1 ∧ kd p1 ≤ 58) (hpn : p1 ≤ n) (hr : k + r = 12) (hk : (k : Int) ≤ lvq (kd p1)) (hG : ∀ p2 l2, (∀ L, PVq kd 7 d ((lvq (kd p1)).toNat + 1) (p1 + 1) L (some (p2, L ++ l2))) → G2 p2 (l ++ [stp 7 p1] ++ l2 ++ [stp 8 p1])) (hp : p < p1) (h4 : KEr σ s) (h5 : MNq σ s) (h7 : TFq τ vs t6 z6) (hvs : ∀ w, w ∈ vs → w ∈ z6) (vA : VRq K T H Z F) (hH : H ≤ (p1 : Int) - p) (hX : ∀ c, ROq c d r → EXq kd n S m lo c l σ s K T H Z F X) (kk : KPr s σ1) (e12 : σ1 0 12 = s 0 12)
    (hE : ETq kd n S m lo d p1 0 T H Z F X σ1 t6 z6 q s2 t z) : EBq kd n S m lo d r p G2 σ τ vs q s2 t z := by
  obtain ⟨p2, l2, σ2, K2, T2, H2, Z2, F2, T3, F3, I, X2, X3, B, i1, i2, i3, i4, i5, i6, i7, i8, i9, mv, v3, v2, hH2, j4, k3, f3, hF, hT⟩ := hE
  have hl10 := lv_n (kd p1)
  refine ⟨p2, l ++ [stp 7 p1] ++ l2 ++ [stp 8 p1], hG p2 l2 i1, by omega, i3, kp_tr h4 (kp_tr kk.1 (kp_tr i4 k3.1)), fun hx => f3.2.2 (Or.inl (i5 (by rw [e12]; exact h5 hx))), i6, tf_tr h7 i7, i8, fun hx => i9 (hvs q hx), 0, T3, 1 + mxq H H2, 0, F3, I, X3, mv, v3, ?_, fun c hc => ?_⟩
  · unfold mxq
    split <;> omega
  · have hc2 : ROq (c + 1) d (rmq 7 ((lvq (kd p1)).toNat + 1)) ∧ c < 490 := by
      rw [rmq_7]
      unfold ROq at hc ⊢
      omega
    exact ex_two (hX c hc) (ex_src kk e12 (j4 (c + 1) hc2.1)) vA v2 hpn rfl hl hc2.2 h4 (kp_tr kk.1 i4) (fun hx => i5 (by rw [e12]; exact hx)) k3 f3 hF hT
theorem er_binary {a2 : Int32} (ha1 : a.toInt = (k : Int)) (ha : a2.toInt = (d : Int)) (hd : d ≤ 25) (hk1 : 1 ≤ k) (hk11 : k ≤ 11) (hU : ERq kd n S m lo 2 d 0 p (Kunary a2)) (hD : EDq kd n S m lo d (fun x u tk => Kdecided x u tk a2)) (hB : ∀ (k p : Nat) (v : Int32), v.toInt = (k : Int) → 1 ≤ k → k ≤ 11 → ERq kd n S m lo 7 d k p (Kbinary v a2)) :
    ERq kd n S m lo 7 d k p (fun σ τ vs Q T => pp_binary Kexpression Kchoice Kbinary Kdecided Kunary Kbehind Kprimary Kcall_0 a a2 σ τ vs Q T) := by
  intro σ τ vs Q F0 hG hg hq0 hn
  show pp_binary Kexpression Kchoice Kbinary Kdecided Kunary Kbehind Kprimary Kcall_0 a a2 σ τ vs Q (fun _ _ _ => F0)
  unfold pp_binary
  have hn16 := hG.1.1
  refine hU σ τ vs _ F0 hG hg (fun u s t z he => ?_) (fun hnone => hn (fun L => pv_l0 (hnone L)))
  refine ⟨fun u s t z => EBq kd n S m lo d (12 - k) p (fun p1 l => ∀ L R, PVq kd 8 d k p1 (L ++ l) R → PVq kd 7 d k p L R) σ τ vs u s t z, ?_, ?_⟩
  · obtain ⟨p', l, h1, h2, h3, h4, h5, h6, h7, h8, h9, K, T, H, Z, F', I, X, g1, g2, g3, g4⟩ := he
    refine ⟨p', l, fun L R hR => pv_l1 (h1 L) hR, h2, h3, h4, h5, h6, h7, h8, h9, K, T, H, Z, F', I, X, g1, g2, g3, fun c hc => g4 c ?_⟩
    unfold ROq at hc ⊢
    show c + 14 * (25 - d) + 1 ≤ 470
    omega
  rintro x s6 t6 z6 ⟨p1, l, h1, h2, h3, h4, h5, h6, h7, h8, h9, K, T, H, Z, F', I, X, g1, g2, g3, g4⟩
  have hpn := h3.2
  have hk62 := h6.1.2.2.1 p1
  have hl10 := lv_n (kd p1)
  have hlr := lvq_r (kd p1)
  have none8 : (∀ L, PVq kd 8 d k p1 (L ++ l) none) → F0 := fun hx => hn (fun L => h1 L none (hx L))
  refine mr_sign h6.1 h3 (fun v7 hv7 => mr_rank hk62 hv7 (fun v10 hv10 => ⟨fun hlt => ?_, fun hle => mr_sign h6.1 h3 (fun v18 hv18 => ?_)⟩))
  · refine hq0 x s6 t6 z6 ⟨p1, l, fun L => h1 L _ (pv_l2 (by omega)), h2, h3, h4, h5, h6, h7, h8, h9, K, T, H, Z, F', I, X, g1, g2, g3, fun c hc => g4 c ?_⟩
    rw [rmq_7] at hc
    exact hc
  have hkl : (k : Int) ≤ lvq (kd p1) := by omega
  have hsg : 41 ≤ kd p1 ∧ kd p1 ≤ 58 := hlr.2.2 (by omega)
  have k0 : Kp [(0, 10)] [] s6 (upC s6 0 10 ((s6 0 10) + (1 : Int32))) := kp_f kp_rf rfl
  have gu := gm_up h6.1 h3 (by omega)
  have hGu := rgq_p h6 k0
  generalize hsu : upC s6 0 10 ((s6 0 10) + (1 : Int32)) = su at k0 gu hGu ⊢
  refine mr_read (σ := su) g1 (fun _ sr tr kr hne g1' => ?_)
  have kru : KPr s6 sr := kpr_tr (kpr_p k0) (kpr_x (kw_x kr))
  have e12u : sr 0 12 = s6 0 12 := (kr 0 12 rfl rfl).trans (k0 0 12 rfl rfl)
  have hGr := rgq_w hGu kr
  have gr : GMt sr n (p1 + 1) := gm_k gu (kr 0 10 rfl rfl)
  have tfr : TFq τ vs tr z6 := tf_read h7 h9 hne
  obtain ⟨i10, i11⟩ := rk_iff6 hk62
  rw [← hv18] at i10 i11
  have fin : ∀ q s t z, ETq kd n S m lo d p1 0 T H Z F' X sr tr z6 q s t z → EBq kd n S m lo d (12 - k) p (fun p1 l => ∀ L R, PVq kd 8 d k p1 (L ++ l) R → PVq kd 7 d k p L R) σ τ vs q s t z := fun q s t z he =>
    eb_next hsg hpn (by omega) hkl (fun p2 l2 hl2 L R hR => h1 L R (pv_l4 hkl (hl2 (L ++ l ++ [stp 7 p1])) (by simp only [List.append_assoc] at hR ⊢; exact hR))) h2 h4 h5 tfr h7.1 g2 g3 g4 kru e12u he
  have bad : (∀ L, PVq kd 7 d ((lvq (kd p1)).toNat + 1) (p1 + 1) L none) → F0 := fun hnone => none8 (fun L => pv_l3 hkl (hnone (L ++ l ++ [stp 7 p1])))
  have hH1 : 0 ≤ H ∧ H ≤ 20000 := by have := g2.2.2.1; omega
  refine ⟨fun q s t z => EBq kd n S m lo d (12 - k) p (fun p1 l => ∀ L R, PVq kd 8 d k p1 (L ++ l) R → PVq kd 7 d k p L R) σ τ vs q s t z, fun _ _ _ _ hx => hx, kd p1 = 57 ∨ kd p1 = 58, fun hj => ?_, fun c => Or.inr (i11.1 c), fun n11 => ⟨fun n10 => ?_, fun c => Or.inl (i10.1 c)⟩⟩
  · exact hD v18 (s6 0 10) x p1 sr tr z6 0 T H Z F' I X _ F0 hj hv18 hpn hGr gr h8 g1' (vr_0 g2) hH1.2 fin bad
  · have hr56 : 41 ≤ kd p1 ∧ kd p1 ≤ 56 := by
      have := fun e => n10 (i10.2 e)
      have := fun e => n11 (i11.2 e)
      omega
    refine mr_rank hk62 hv18 (fun v75 hv75 => hB ((lvq (kd p1)).toNat + 1) (p1 + 1) (v75 + (1 : Int32)) (by rw [ad1 (by omega), hv75]; omega) (by omega) (by omega) sr tr z6 _ F0 hGr gr (fun q2 s t z he => ?_) bad)
    obtain ⟨p2, l2, i1, i2, i3, i4, i5, i6, i7, i8, i9, K2, T2, H2, Z2, F2, I2, X2, j1, j2, j3, j4⟩ := he
    have hp2n := i3.2
    have hH2 : 0 ≤ H2 ∧ H2 ≤ 20000 := by have := j2.2.2.1; omega
    have xz : x ∈ z := i7.1 x h8
    have xq : x ≠ q2 := fun e => i9 (by rw [← e]; exact h8)
    refine mr_read j1 (fun _ sy ty ky hney j1' => ?_)
    have hAy : MVq ty x 0 T H Z F' X I := mv_eq (mv_tf g1' h8 i7) (fun m => hney x xq m)
    have vA := g2
    refine mr_two (by rw [ky 0 12 rfl rfl]; exact rgq_0 i6) hAy j1' xz i8 hr56 hv18 ⟨vA.2.1.1, vA.2.1.2, j2.2.1.1, j2.2.1.2⟩ ⟨vr_z vA, vr_z j2⟩ ⟨vA.2.2.2.2.1, vA.2.2.2.2.2.1, j2.2.2.2.2.1, j2.2.2.2.2.2.1⟩ ⟨hH1.1, hH1.2, hH2.1, hH2.2⟩ (fun q s9 t9 T3 F3 X3 hq f02 k9 tf9 mv hT3 hF1 hF2 f9 hT => fin q s9 t9 _ ?_)
    have k3 : KPr s s9 := kpr_tr (kpr_x (kw_x ky)) (kpr_x k9)
    have f3 : FTq s s9 (T3 = -2 ∨ 60 < 1 + mxq H H2) := ft_from (ky 0 12 rfl rfl) (ky 0 15 rfl rfl) f9
    refine ⟨p2, l2, s, K2, T2, H2, Z2, F2, T3, F3, 0, X2, X3, T3 = -2, i1, i2, gm_k i3 ((k9 0 10 rfl rfl).trans (ky 0 10 rfl rfl)), i4, i5, rgm_k i6 k3.1 (by rw [k3.2.2.1]; exact rgq_D i6) f3.1, tf_tr (tf_read i7 i9 hney) tf9, List.mem_append_right _ (List.mem_singleton.mpr rfl), fun hx => hq (i7.1 q hx), mv, ⟨by omega, hT3, ?_, fun hx => absurd rfl hx, fun hx => (hF1 hx).1, fun hx => Or.inl (hF2 hx), f02, fun hx => by omega⟩, j2, j3, j4, k3, f3, fun hx => ⟨(hF1 hx).2.1, (hF1 hx).2.2.1, by rw [(hF1 hx).1]; decide, (hF1 hx).2.2.2⟩, fun e1 e2 => ⟨by rw [(hT e1 e2).1], fun hb hh => ⟨(hT e1 e2).1, (hT e1 e2).2 hb hh⟩⟩⟩
    unfold mxq
    split <;> omega
end RBJ
