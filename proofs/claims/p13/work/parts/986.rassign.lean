/-! the reference's expressions: assignments, whole -/
def asM (sg K T T2 Z2 : Int) : Prop := K = 0 ∨ ¬ (if sg = 30 then T2 = T ∨ (0 < T ∧ Z2 ≠ 0) else if sg = 33 ∨ sg = 34 then 0 ≤ T ∧ T2 = 0 else T = 0 ∧ T2 = 0)
section RAS
variable {σ s τ t : St} {kd : Nat → Int} {n S m lo d p p1 k u q c r : Nat} {vs z : List Nat} {a b : Int32} {K T H Z F I : Int} {X : Int32}
variable {Kexpression Kchoice : Int32 → St → St → List Nat → (Nat → St → St → List Nat → Prop) → (St → St → List Nat → Prop) → Prop} {Kbinary : Int32 → Int32 → St → St → List Nat → (Nat → St → St → List Nat → Prop) → (St → St → List Nat → Prop) → Prop} {Kdecided : Int32 → Nat → Int32 → Int32 → St → St → List Nat → (Nat → St → St → List Nat → Prop) → (St → St → List Nat → Prop) → Prop} {Kunary Kbehind Kprimary : Int32 → St → St → List Nat → (Nat → St → St → List Nat → Prop) → (St → St → List Nat → Prop) → Prop} {Kcall_0 : Int32 → Int32 → St → St → List Nat → (Nat → St → St → List Nat → Prop) → (St → St → List Nat → Prop) → Prop}
theorem rk_asg : ∀ a : Nat, a < 41 → a < 30 ∨ (a = 30 ∧ rkI (a : Int) - 32 = 30) ∨ (31 ≤ a ∧ rkI (a : Int) - 32 = (a : Int) - 31) := by decide
theorem mr_worked {Q : Int32 → Prop} {k : Int} (hk : 30 ≤ k ∧ k ≤ 40) (ha : a.toInt = rkI k - 32) (kk : ∀ v : Int32, (v.toInt = 30 ↔ k = 30) → (v.toInt = 36 ↔ k = 33) → (v.toInt = 37 ↔ k = 34) → Q v) : pp_worked a σ τ vs Q := by
  have h := rk_asg k.toNat (by omega)
  rw [show ((k.toNat : Nat) : Int) = k from by omega, ← ha] at h
  have e16 : (16 : Int32).toInt = 16 := rfl
  have e17 : (17 : Int32).toInt = 17 := rfl
  have e36 : (36 : Int32).toInt = 36 := rfl
  have e37 : (37 : Int32).toInt = 37 := rfl
  have e38 : (38 : Int32).toInt = 38 := rfl
  have e39 : (39 : Int32).toInt = 39 := rfl
  have e40 : (40 : Int32).toInt = 40 := rfl
  have e33 : (33 : Int32).toInt = 33 := rfl
  have e31 : (31 : Int32).toInt = 31 := rfl
  have e32 : (32 : Int32).toInt = 32 := rfl
  have e30 : (30 : Int32).toInt = 30 := rfl
  unfold pp_worked
  clear ha
  generalize a.toInt = m at h
  refine ⟨fun c => kk _ ?_ ?_ ?_, fun c0 => ⟨fun c => kk _ ?_ ?_ ?_, fun c1 => ⟨fun c => kk _ ?_ ?_ ?_, fun c2 => ⟨fun c => kk _ ?_ ?_ ?_, fun c3 => ⟨fun c => kk _ ?_ ?_ ?_, fun c4 => ⟨fun c => kk _ ?_ ?_ ?_, fun c5 => ⟨fun c => kk _ ?_ ?_ ?_, fun c6 => ⟨fun c => kk _ ?_ ?_ ?_, fun c7 => ⟨fun c => kk _ ?_ ?_ ?_, fun c8 => ⟨fun c => kk _ ?_ ?_ ?_, fun c9 => kk _ ?_ ?_ ?_⟩⟩⟩⟩⟩⟩⟩⟩⟩⟩ <;> clear kk <;> omega
theorem er_expression (ha : a.toInt = (d : Int)) (hd : d ≤ 25) (hC : ERq kd n S m lo 1 d 0 p (Kchoice a)) (hE : d < 25 → ∀ v : Int32, v.toInt = (d : Int) + 1 → ∀ p, ERq kd n S m lo 0 (d + 1) 0 p (Kexpression v)) :
    ERq kd n S m lo 0 d 0 p (fun σ τ vs Q T => pp_expression Kexpression Kchoice Kbinary Kdecided Kunary Kbehind Kprimary Kcall_0 a σ τ vs Q T) := by
  intro σ τ vs Q F0 hG hg hk hn
  show pp_expression Kexpression Kchoice Kbinary Kdecided Kunary Kbehind Kprimary Kcall_0 a σ τ vs Q (fun _ _ _ => F0)
  unfold pp_expression
  have hn16 := hG.1.1
  refine hC σ τ vs _ F0 hG hg (fun x s3 t3 z3 he => ?_) (fun hnone => hn (fun L => pv_e0 (hnone L)))
  obtain ⟨p1, l, h1, h2, h3, h4, h5, h6, h7, h8, h9, K, T, H, Z, F', I, X, g1, g2, g3, g4⟩ := he
  have hpn := h3.2
  have hH1 : 0 ≤ H ∧ H ≤ 20000 := by have := g2.2.2.1; omega
  have hk62 := h6.1.2.2.1 p1
  refine mr_sign h6.1 h3 (fun v7 hv7 => mr_isAssignment hk62 hv7 (fun kas => ⟨fun _ => ?_, fun hx => absurd hx (by decide)⟩) (fun kas => ⟨fun hx => absurd rfl hx, fun _ => ?_⟩))
  rotate_left
  · refine hk x s3 t3 z3 ⟨p1, l, fun L => pv_e1 (h1 L) kas, h2, h3, h4, h5, h6, h7, h8, h9, K, T, H, Z, F', I, X, g1, g2, g3, fun c hc => g4 c ?_⟩
    unfold ROq at hc ⊢
    have e : rmq 1 0 = 12 := rfl
    have e0 : rmq 0 0 = 13 := rfl
    rw [e0] at hc
    rw [e]
    omega
  refine mr_deeper ha hd (fun hd2 v hv => ?_) (fun hd2 => hn (fun L => pv_e2 (h1 L) kas hd2))
  have k0 : Kp [(0, 10)] [] s3 (upC s3 0 10 ((s3 0 10) + (1 : Int32))) := kp_f kp_rf rfl
  have gu := gm_up h6.1 h3 (by omega)
  have hGu := rgq_p h6 k0
  generalize hsu : upC s3 0 10 ((s3 0 10) + (1 : Int32)) = su at k0 gu hGu ⊢
  have eK := g1.1
  have eT := g1.2.1
  have vK := g2.1
  have vT := g2.2.1
  have vKT := g2.2.2.2.2.2.2.2
  intro _
  refine ⟨fun y => (y.toInt = 0 ↔ K = 0), fun y55 _ hy55 => ⟨fun _ => True, fun y70 _ _ => ⟨fun s t z => t = t3 ∧ z = z3 ∧ KWr su s, ?_, ?_, ?_⟩, fun _ => trivial, fun _ => trivial⟩, ?_, ?_⟩
  rotate_left
  · exact fun _ => ⟨rfl, rfl, kp_rf⟩
  · exact fun _ => mr_put1 (σ := su) (fun s86 k86 => ⟨rfl, rfl, k86⟩)
  · exact fun c => ⟨fun _ => eK.symm.trans c, fun _ => rfl⟩
  · exact fun c => ⟨fun hx => absurd hx (by decide), fun hx => absurd (eK.trans hx) c⟩
  rintro s89 t89 z89 ⟨rfl, rfl, k89⟩
  refine mr_worked kas hv7 (fun v90 w30 w36 w37 => ⟨fun s t z => t = t89 ∧ z = z89 ∧ KWr su s, ?_, ?_, ?_⟩)
  rotate_left
  · exact fun _ => ⟨rfl, rfl, k89⟩
  · exact fun _ => ⟨fun _ => ⟨rfl, rfl, k89⟩, fun _ => mr_put0 (fun s110 k110 => fun _ => mr_put1 (fun s122 k122 => ⟨rfl, rfl, kp_tr (kp_tr k89 k110) k122⟩))⟩
  rintro s125 t125 z125 ⟨rfl, rfl, k125⟩
  refine ⟨fun s t z => t = t125 ∧ z = z125 ∧ KWr su s, ?_, ?_, ?_⟩
  rotate_left
  · exact fun _ => ⟨rfl, rfl, k125⟩
  · exact fun _ _ => ⟨fun _ => ⟨rfl, rfl, k125⟩, fun _ => mr_put1 (fun s146 k146 => ⟨rfl, rfl, kp_tr k125 k146⟩)⟩
  rintro s149 t149 z149 ⟨rfl, rfl, k149⟩
  have kA : KPr s3 s149 := kpr_tr (kpr_p k0) (kpr_x (kw_x k149))
  have eA : s149 0 12 = s3 0 12 := (k149 0 12 rfl rfl).trans (k0 0 12 rfl rfl)
  refine hE hd2 v hv (p1 + 1) s149 t149 z149 _ F0 (rgq_w hGu k149) (gm_k gu (k149 0 10 rfl rfl)) (fun u2 sE tE zE hx => ?_) (fun hnone => hn (fun L => by
    have := pv_e3 (m := 0) (h1 L) kas hd2 (hnone (L ++ l ++ [stp 7 p1]))
    exact this))
  obtain ⟨p2, l2, i1, i2, i3, i4, i5, i6, i7, i8, i9, K2, T2, H2, Z2, F2, I2, X2, j1, j2, j3, j4⟩ := hx
  have hp2n := i3.2
  have hH2 : 0 ≤ H2 ∧ H2 ≤ 20000 := by have := j2.2.2.1; omega
  have xz : x ∈ zE := i7.1 x h8
  have xu : x ≠ u2 := fun e => i9 (by rw [← e]; exact h8)
  refine mr_read j1 (fun _ sy ty ky hney j1' => ?_)
  have hAy : MVq ty x K T H Z F' X I := mv_eq (mv_tf g1 h8 i7) (fun m => hney x xu m)
  have eTy := hAy.2.1
  have tf2 : TFq τ vs ty zE := tf_read (tf_tr h7 i7) (fun hx => i9 (h7.1 _ hx)) hney
  have hGy := rgq_w i6 ky
  have jB : ∀ {P : Prop}, ((asM (kd p1) K T T2 Z2) → P) → (asM (kd p1) K T T2 Z2) → P := fun h => h
  refine ⟨fun y => (y.toInt = 0 ↔ asM (kd p1) K T T2 Z2), fun y242 _ hy242 => ?_, asM (kd p1) K T T2 Z2, fun hx => ⟨fun _ => hx, fun _ => rfl⟩, fun c => Or.inl (hy55.1 c), fun c => ⟨¬ asM (kd p1) K T T2 Z2, fun hx => ⟨fun h => absurd h (by decide), fun h => absurd h hx⟩, ?_, ?_⟩⟩
  · refine mr_must (rgq_0 hGy) (fun s8 k8 f8 => ⟨fun y => (¬ asM (kd p1) K T T2 Z2 → y.toInt = T) ∧ (asM (kd p1) K T T2 Z2 → y.toInt = -2), fun y1 hy1 => ?_, fun c => ⟨fun h => absurd (hy242.1 c) h, fun _ => rfl⟩, fun c _ => ⟨fun _ => eTy, fun h => absurd (hy242.2 h) c⟩⟩)
    refine mr_made f8.1 hAy j1' xz i8 ⟨hH1.1, hH1.2, hH2.1, hH2.2⟩ (fun q s9 t9 hq k9 tf9 t0 mv f9 => ?_)
    have f39 : FTq sE s9 (asM (kd p1) K T T2 Z2 ∨ 60 < 1 + mxq H H2) := ft_from (ky 0 12 rfl rfl) (ky 0 15 rfl rfl) (ft_iff (ft_tr f8 f9 (k8 0 15 rfl rfl)) (or_congr hy242 Iff.rfl))
    have k39 : KPr sE s9 := kpr_tr (kpr_x (kw_x ky)) (kpr_tr (kpr_x (kf_x k8)) (kpr_x (kf_x k9)))
    have e39 : s9 0 10 = sE 0 10 := (k9 0 10 rfl rfl).trans ((k8 0 10 rfl rfl).trans (ky 0 10 rfl rfl))
    have hqvs : q ∉ vs := fun hx => hq (tf2.1 q hx)
    have ey1 : -2 ≤ y1.toInt ∧ y1.toInt ≤ 9 := by
      by_cases c : asM (kd p1) K T T2 Z2
      · rw [hy1.2 c]; omega
      · rw [hy1.1 c]; exact vT
    have fin : ∀ s10, KWr s9 s10 → Q q s10 t9 (zE ++ [q]) := fun s10 k10 => hk q s10 t9 _ (by
      have k3 := kpr_tr k39 (kpr_x (kw_x k10))
      have fx : FTq sE s10 (asM (kd p1) K T T2 Z2 ∨ 60 < 1 + mxq H H2) := ft_k f39 (k10 0 12 rfl rfl)
      refine ⟨p2, l ++ [stp 7 p1] ++ l2 ++ [stp 9 p1], fun L => ?_, by omega, gm_k i3 ((k10 0 10 rfl rfl).trans e39), kp_tr h4 (kp_tr kA.1 (kp_tr i4 k3.1)), fun hx => fx.2.2 (Or.inl (i5 (by rw [eA]; exact h5 hx))), rgm_k i6 k3.1 (by rw [k3.2.2.1]; exact rgq_D i6) fx.1, tf_tr tf2 tf9, List.mem_append_right _ (List.mem_singleton.mpr rfl), hqvs, 0, y1.toInt, 1 + mxq H H2, 0, 0, 0, 0, mv, ⟨by omega, ey1, ?_, fun hx => absurd rfl hx, fun hx => absurd hx (by decide), fun hx => absurd hx (by decide), by omega, fun hx => by omega⟩, ?_, fun c hc => ?_⟩
      · have this : PVq kd 0 d 0 p L (some (p2, L ++ l ++ [stp 7 p1] ++ l2 ++ [stp 9 p1])) := pv_e3 (m := 0) (h1 L) kas hd2 (i1 (L ++ l ++ [stp 7 p1]))
        simp only [List.append_assoc] at this ⊢
        exact this
      · unfold mxq; split <;> omega
      · unfold mxq; split <;> omega
      · have hc2 : ROq c d (rmq 1 0) ∧ ROq (c + 1) (d + 1) 13 ∧ c < 490 := by
          have e : rmq 1 0 = 12 := rfl
          have e0 : rmq 0 0 = 13 := rfl
          rw [e]
          unfold ROq at hc ⊢
          rw [e0] at hc
          omega
        refine ex_assign (g4 c hc2.1) (ex_src kA eA (j4 (c + 1) hc2.2.1)) g2 j2 hpn rfl kas hc2.2.2 h4 (kp_tr kA.1 i4) (fun hx => i5 (by rw [eA]; exact hx)) k3 fx (fun q1 q2 => ⟨?_, fun hb => hy1.1 hb⟩)
        have eB : ∀ P P2 : Prop, (K ≠ 0 → (P ↔ P2)) → ((K = 0 ∨ ¬ P) ↔ (¬ (1 ≤ K ∧ K ≤ 3) ∨ ¬ P2)) := fun P P2 h => by
          by_cases c : K = 0
          · exact ⟨fun _ => Or.inl (by omega), fun _ => Or.inl c⟩
          · rw [h c]
            exact or_congr ⟨fun hx => absurd hx c, fun hx => absurd (by omega) hx⟩ Iff.rfl
        refine eB _ _ (fun hK => ?_)
        have hT1 : T ≠ -1 := vKT (by omega)
        by_cases c30 : kd p1 = 30
        · rw [if_pos c30, if_pos c30]
          exact or_congr ⟨fun h => ⟨h, hT1⟩, fun h => h.1⟩ Iff.rfl
        · rw [if_neg c30, if_neg c30]
          by_cases c33 : kd p1 = 33 ∨ kd p1 = 34
          · rw [if_pos c33]
            exact ⟨fun h => ⟨h.2, c33.elim Or.inl (fun h => Or.inr (Or.inl h))⟩, fun h => ⟨by omega, h.1⟩⟩
          · rw [if_neg c33]
            exact ⟨fun h => ⟨h.2, Or.inr (Or.inr h.1)⟩, fun h => ⟨h.2.elim (fun e => absurd (Or.inl e) c33) (fun e => e.elim (fun e => absurd (Or.inr e) c33) id), h.1⟩⟩)
    refine ⟨fun s t z => t = t9 ∧ z = zE ++ [q] ∧ KWr s9 s, ?_, fun _ => ⟨rfl, rfl, kp_rf⟩, fun _ _ => mr_put2 (fun s296 k296 => ⟨rfl, rfl, k296⟩)⟩
    rintro s299 t299 z299 ⟨rfl, rfl, k299⟩
    exact ⟨fun _ _ => mr_put1 (fun s327 k327 => fin s327 (kp_tr k299 k327)), fun _ _ => mr_put1 (fun s314 k314 => fin s314 (kp_tr k299 k314))⟩
  · intro n30
    have c30 : kd p1 ≠ 30 := fun e => n30 (w30.2 e)
    have hK : K ≠ 0 := fun e => c (hy55.2 e)
    have un : asM (kd p1) K T T2 Z2 ↔ ¬ (if kd p1 = 33 ∨ kd p1 = 34 then 0 ≤ T ∧ T2 = 0 else T = 0 ∧ T2 = 0) := by
      unfold asM
      rw [if_neg c30]
      exact ⟨fun h => h.elim (fun e => absurd e hK) id, Or.inr⟩
    refine ⟨kd p1 = 33 ∨ kd p1 = 34, fun hj _ => ?_, fun e => Or.inl (w36.1 e), fun n36 => ⟨fun n37 => ?_, fun e => Or.inr (w37.1 e)⟩⟩
    · rw [if_pos hj] at un
      rw [eTy]
      refine ⟨fun hT => un.2 (fun h => by omega), fun hT => mr_isI j1' (fun v213 _ e213 => ⟨fun hx => un.2 (fun h => absurd hx (e213.2 h.2)), fun hx => fun h => un.1 h ⟨hT, e213.1 hx⟩⟩)⟩
    · have c33 : ¬ (kd p1 = 33 ∨ kd p1 = 34) := fun h => h.elim (fun e => n36 (w36.2 e)) (fun e => n37 (w37.2 e))
      rw [if_neg c33] at un
      exact mr_isI hAy (fun v223 _ e223 => ⟨fun hx => un.2 (fun h => absurd hx (e223.2 h.1)), fun hx => mr_isI j1' (fun v231 _ e231 => ⟨fun hy => un.2 (fun h => absurd hy (e231.2 h.2)), fun hy => fun h => un.1 h ⟨e223.1 hx, e231.1 hy⟩⟩)⟩)
  · intro e30 _
    have c30 : kd p1 = 30 := w30.1 e30
    have hK : K ≠ 0 := fun e => c (hy55.2 e)
    have un : asM (kd p1) K T T2 Z2 ↔ ¬ (T2 = T ∨ (0 < T ∧ Z2 ≠ 0)) := by
      unfold asM
      rw [if_pos c30]
      exact ⟨fun h => h.elim (fun e => absurd e hK) id, Or.inr⟩
    refine mr_fits j1' (fun v181 w181 e181 => ?_)
    rw [eTy] at e181
    exact ⟨fun hx => un.2 (fun h => by have := e181.2 h; omega), fun hx => fun h => un.1 h (e181.1 (by omega))⟩
end RAS
