/-! the reference's expressions: the primary ones, whole -/
section RPS
variable {σ s τ t : St} {kd : Nat → Int} {n S m lo d p : Nat} {vs : List Nat} {a : Int32}
variable {Kexpression Kchoice : Int32 → St → St → List Nat → (Nat → St → St → List Nat → Prop) → (St → St → List Nat → Prop) → Prop} {Kbinary : Int32 → Int32 → St → St → List Nat → (Nat → St → St → List Nat → Prop) → (St → St → List Nat → Prop) → Prop} {Kdecided : Int32 → Nat → Int32 → Int32 → St → St → List Nat → (Nat → St → St → List Nat → Prop) → (St → St → List Nat → Prop) → Prop} {Kunary Kbehind Kprimary : Int32 → St → St → List Nat → (Nat → St → St → List Nat → Prop) → (St → St → List Nat → Prop) → Prop} {Kcall_0 : Int32 → Int32 → St → St → List Nat → (Nat → St → St → List Nat → Prop) → (St → St → List Nat → Prop) → Prop}
/-- a call: behind its name -/
def ECq (kd : Nat → Int) (n S m lo d p : Nat) (f : St → St → List Nat → (Nat → St → St → List Nat → Prop) → (St → St → List Nat → Prop) → Prop) : Prop :=
  ∀ (σ τ : St) (vs : List Nat) (Q : Nat → St → St → List Nat → Prop) (F : Prop), RGm kd n S m lo σ → GMt σ n (p + 1) → (∀ u s t z, EPq kd n S m lo 4 d 0 p σ τ vs u s t z → Q u s t z) → ((∀ L, PVq kd 4 d 0 p L none) → F) → f σ τ vs Q (fun _ _ _ => F)
theorem ep_src {σ0 : St} {u : Nat} {z : List Nat} {sel k : Nat} (k0 : Kp [(0, 10)] [] σ0 σ) (h : EPq kd n S m lo sel d k p σ τ vs u s t z) : EPq kd n S m lo sel d k p σ0 τ vs u s t z := by
  obtain ⟨p', l, h1, h2, h3, h4, h5, h6, h7, h8, h9, K, T, H, Z, F, I, X, g1, g2, g3, g4⟩ := h
  have e12 : σ 0 12 = σ0 0 12 := k0 0 12 rfl rfl
  refine ⟨p', l, h1, h2, h3, kp_tr (kpr_p k0).1 h4, ?_, h6, h7, h8, h9, K, T, H, Z, F, I, X, g1, g2, g3, fun c hc => ex_src (kpr_p k0) e12 (g4 c hc)⟩
  unfold MNq at h5 ⊢
  rw [← e12]
  exact h5
theorem er_primary (ha : a.toInt = (d : Int)) (hd : d ≤ 25)
    (hE : d < 25 → ∀ v : Int32, v.toInt = (d : Int) + 1 → ∀ p, ERq kd n S m lo 0 (d + 1) 0 p (Kexpression v))
    (hC : ∀ p, kd p = 2 → kd (p + 1) = 20 → ∀ b : Int32, b.toInt = (p : Int) → ECq kd n S m lo d p (Kcall_0 b a)) :
    ERq kd n S m lo 4 d 0 p (fun σ τ vs Q T => pp_primary Kexpression Kchoice Kbinary Kdecided Kunary Kbehind Kprimary Kcall_0 a σ τ vs Q T) := by
  intro σ τ vs Q F hG hg hk hn
  show pp_primary Kexpression Kchoice Kbinary Kdecided Kunary Kbehind Kprimary Kcall_0 a σ τ vs Q (fun _ _ _ => F)
  unfold pp_primary
  rw [nat_of hg.1, hG.1.2.1 p hg.2]
  have up : 2 ≤ kd p → GMt (upC σ 0 10 ((σ 0 10) + (1 : Int32))) n (p + 1) := fun h2 => gm_up hG.1 hg h2
  have k0 : Kp [(0, 10)] [] σ (upC σ 0 10 ((σ 0 10) + (1 : Int32))) := kp_f kp_rf rfl
  generalize hs1 : upC σ 0 10 ((σ 0 10) + (1 : Int32)) = σ1 at up k0 ⊢
  have e12 : σ1 0 12 = σ 0 12 := k0 0 12 rfl rfl
  have hD1 : ∃ D : Nat, (σ1 0 37).toInt = (D : Int) ∧ D ≤ 16000 := by
    rw [k0 0 37 rfl rfl]
    exact hG.2.2.2.2.2.2.2.2.2.2.1
  have h121 : 0 ≤ (σ1 0 12).toInt := by
    rw [e12]
    exact hG.2.2.2.2.2.2.2.2.2.2.2
  have hG1 : RGm kd n S m lo σ1 := rgm_k hG (kpr_p k0).1 hD1 h121
  refine fun _ => ⟨fun n3 _ => ⟨fun n4 _ => ⟨fun n2 => ?_, fun e2 => ?_⟩, fun e4 => ?_⟩, fun e3 _ => ?_⟩
  · refine mr_is hG.1 hg (c := 20) (by decide) (by decide) (fun k20 => ⟨fun _ => mr_deeper ha hd (fun hd2 v hv => ?_) (fun hd2 => hn (fun L => pv_r0 k20 hd2)), fun hx => absurd hx (by decide)⟩) (fun k20 => ⟨fun hx => absurd rfl hx, fun _ => ?_⟩)
    · rw [hs1]
      refine hE hd2 v hv (p + 1) σ1 τ vs _ F hG1 (up (by omega)) (fun u s t z he => ?_) (fun hnone => hn (fun L => pv_r1 k20 hd2 (hnone L)))
      obtain ⟨p', l, h1, h2, h3, h4, h5, h6, h7, h8, h9, K, T, H, Z, F', I, X, g1, g2, g3, g4⟩ := he
      refine mr_expect h6.1 h3 (c := 21) (by decide) (by decide) (fun k21 s' ks' g' => hk u s' t z ?_) (fun k21 => hn (fun L => pv_r2 k20 hd2 (h1 L) k21))
      have e12' : s' 0 12 = s 0 12 := ks' 0 12 rfl rfl
      refine ep_src k0 ⟨p' + 1, l, fun L => pv_r3 k20 hd2 (h1 L) k21, by omega, g', kp_tr h4 (kpr_p ks').1, fun hx => by rw [e12']; exact h5 hx, rgm_k h6 (kpr_p ks').1 ?_ ?_, h7, h8, h9, K, T, H, Z, F', I, X, g1, g2, by omega, fun c hc => ex_ref (g4 c ?_) (kpr_p ks') e12'⟩
      · rw [ks' 0 37 rfl rfl]
        exact h6.2.2.2.2.2.2.2.2.2.2.1
      · rw [e12']
        exact h6.2.2.2.2.2.2.2.2.2.2.2
      · unfold ROq rmq at hc ⊢
        rw [if_pos rfl]
        rw [if_neg (by decide), if_neg (by decide), if_neg (by decide)] at hc
        omega
    · unfold pp_wrong pp_wrongAt
      exact fun _ => hn (fun L => pv_n ⟨fun e => n2 (by rw [e]; decide), fun e => n3 (by rw [e]; decide), fun e => n4 (by rw [e]; decide), k20⟩)
  · have k2 := rk_is hG 2 (by decide) 2 (by decide) e2
    have g1 := up (by rw [k2]; decide)
    refine mr_is hG1.1 g1 (c := 20) (by decide) (by decide) (fun k20 => ⟨fun hx => absurd hx (by decide), fun _ => ?_⟩) (fun k20 => ⟨fun _ => ?_, fun hx => absurd rfl hx⟩)
    · exact hC p k2 k20 (σ 0 10) hg.1 σ1 τ vs _ F hG1 g1 (fun u s t z he => hk u s t z (ep_src k0 he)) hn
    · refine mr_named h121 hg.1 (hG1.2.1 p hg.2 k2) hG1.2.2.2.1 hG1.2.2.2.2.1 ⟨fun j => by have := hG1.2.2.2.2.2.2.1.1 j; omega, fun j => by have := hG1.2.2.2.2.2.2.2.1 j; omega⟩ hG1.2.2.2.2.2.2.2.2.1 (fun q s t K T F' I B hq ks tf mv hN hf => hk q s t _ ?_)
      have kr : KEr σ1 s := kp_sub ks rfl rfl
      refine ep_one hG hg (by omega) (fun L => pv_p2 k2 k20) k0 g1 kr (ks 0 10 rfl rfl) (by rw [ks 0 37 rfl rfl]; exact hD1) hf.1 (fun hx => hf.2.2 (Or.inl hx)) tf hq mv ?_ (fun c hc => ex_named hg.2 k2 (by omega) kr hN hf (ks 0 37 rfl rfl) (funext (fun j => ks 21 j rfl rfl)))
      have y1 := hG1.2.2.2.2.2.2.1
      have y2 := hG1.2.2.2.2.2.2.2.1
      have y3 := hG1.2.2.2.2.2.2.2.2.2.1
      rcases hN with ⟨v, hv, _, g3, g4, g5, _⟩ | ⟨_, e, he, g2, _, g3, g4, g5, _⟩ | ⟨_, _, _, g3, g4, g5, _⟩
      · have := y1.1 v
        have : (σ1 31 v).toInt ≤ 8 := by
          rcases hv with ⟨j, j1, _, _, j4⟩ | ⟨_, j4⟩
          · have := y1.2 j j1
            rwa [show (σ1 35 j).toInt.toNat = v from by omega] at this
          · omega
        refine ⟨?_, ?_, by omega, fun hx => absurd rfl hx, fun hx => by omega, fun hx => by omega, by omega, fun _ => ?_⟩
        · rw [g3]; split <;> omega
        · rw [g4]; split <;> omega
        · rw [g4]; split <;> omega
      · have r1 := y2 e
        have r2 : lo ≤ e ∧ e < lo + m := by
          rcases he with ⟨e', e1, e2, _, _, e5⟩ | ⟨_, e2⟩ <;> omega
        have r3 := (y3 e r2.1 r2.2).1.1 g2
        have r4 := (y3 e r2.1 r2.2).1.2
        refine ⟨?_, ?_, by omega, fun hx => absurd rfl hx, fun hx => ?_, fun hx => ?_, ?_, fun _ => ?_⟩
        · rw [g3]; split <;> omega
        · rw [g4]; split <;> omega
        · rw [g5] at hx; split at hx <;> omega
        · rw [g4]; split <;> omega
        · rw [g5]; split <;> omega
        · rw [g4]; split <;> omega
      · exact ⟨by omega, by omega, by omega, fun hx => absurd rfl hx, fun hx => by omega, fun hx => by omega, by omega, fun hx => by omega⟩
  · have k4 := rk_is hG 4 (by decide) 4 (by decide) e4
    obtain ⟨D, hD, hD9⟩ := hD1
    have hl := hG1.2.2.1 p hg.2 k4
    refine mr_text h121 hg.1 hD (by omega) rfl hl (fun q s t hq ks tf mv hf e37 => hk q s t _ ?_)
    have kr : KEr σ1 s := kp_sub ks rfl rfl
    refine ep_one hG hg (by omega) (fun L => pv_p4 k4) k0 (up (by omega)) kr (ks 0 10 rfl rfl) ?_ hf.1 (fun hx => hf.2.2 (Or.inl hx)) tf hq mv ⟨by omega, by omega, by omega, fun hz => absurd rfl hz, fun h => absurd h (by decide), fun _ => by omega, by omega, fun hx => by omega⟩ (fun c hc => ex_string hg.2 k4 (by omega) kr (funext (fun j => ks 14 j rfl rfl)) (funext (fun j => ks 21 j rfl rfl)) hD hf e37)
    by_cases c1 : 16000 < (D : Int) + (σ1 6 p).toInt + 1
    · rw [if_pos c1] at e37
      exact ⟨D, e37, hD9⟩
    · rw [if_neg c1] at e37
      exact ⟨((D : Int) + (σ1 6 p).toInt + 1).toNat, by omega, by omega⟩
  · have k3 := rk_is hG 3 (by decide) 3 (by decide) e3
    refine mr_put1 (fun s ks _ q hq => ?_)
    unfold pp_Vinit pp_Vconstant
    obtain ⟨m1, m2⟩ := nv_made (τ := τ) (a := 0) hq
    have ew : s 6 p = σ1 6 p := ks 6 p rfl rfl
    have kpw : KPr σ1 s := kpr_x (kw_x ks)
    have fin : ∀ b : Int32, b.toInt = (if (σ1 6 p).toInt = 0 then 1 else 0) → Q q s (upC (upC (upC (upC (upC (upF τ q (fun _ => 0)) q 3 (1 : Int32)) q 0 (0 : Int32)) q 6 (1 : Int32)) q 7 (s 6 p)) q 5 b) (vs ++ [q]) := fun b hb => hk q s _ _ (by
      have mv := mv_zero (b := b) (mv_const (y := s 6 p) m1)
      rw [hb, ew] at mv
      rw [ew]
      exact ep_one hG hg (by omega) (fun L => pv_p3 k3) k0 (up (by omega)) kpw.1 (ks 0 10 rfl rfl) (by rw [ks 0 37 rfl rfl]; exact hD1) (by rw [ks 0 12 rfl rfl]; exact h121) (fun hx => by rw [ks 0 12 rfl rfl]; exact hx) (tf_up (tf_up (tf_up m2 hq) hq) hq) hq mv vr_num (fun c hc => ex_number hg.2 k3 (by omega) kpw (ks 0 12 rfl rfl)))
    refine fun _ _ _ _ _ => ⟨fun c _ => fin 0 ?_, fun c _ => fin 1 ?_⟩
    · rw [ew] at c
      rw [if_neg c]
      rfl
    · rw [ew] at c
      rw [if_pos c]
      rfl
end RPS
