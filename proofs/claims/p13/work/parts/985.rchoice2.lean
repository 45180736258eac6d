/-! the reference's expressions: choices, whole -/
section RCC
variable {σ s τ t : St} {kd : Nat → Int} {n S m lo d p p1 k u q c r : Nat} {vs z : List Nat} {a b : Int32} {K T H Z F I : Int} {X : Int32}
variable {Kexpression Kchoice : Int32 → St → St → List Nat → (Nat → St → St → List Nat → Prop) → (St → St → List Nat → Prop) → Prop} {Kbinary : Int32 → Int32 → St → St → List Nat → (Nat → St → St → List Nat → Prop) → (St → St → List Nat → Prop) → Prop} {Kdecided : Int32 → Nat → Int32 → Int32 → St → St → List Nat → (Nat → St → St → List Nat → Prop) → (St → St → List Nat → Prop) → Prop} {Kunary Kbehind Kprimary : Int32 → St → St → List Nat → (Nat → St → St → List Nat → Prop) → (St → St → List Nat → Prop) → Prop} {Kcall_0 : Int32 → Int32 → St → St → List Nat → (Nat → St → St → List Nat → Prop) → (St → St → List Nat → Prop) → Prop}
theorem mv_hgt (hA : MVq t q k T H Z F X I) : MVq (upC t q 3 a) q k T a.toInt Z F X I := by
  obtain ⟨q0, q1, q2, q3, q4, q5, q6⟩ := hA
  refine ⟨?_, ?_, ?_, ?_, ?_, fun hf => ?_, fun hi => ?_⟩
  · rw [rdA_ne (by decide)]; exact q0
  · rw [rdA_ne (by decide)]; exact q1
  · rw [rdA_eq rfl]
  · rw [rdA_ne (by decide)]; exact q3
  · rw [rdA_ne (by decide)]; exact q4
  · rw [rdA_ne (by decide)]; exact q5 hf
  · rw [rdA_ne (by decide)]; exact q6 hi
def alq (T2 Z2 T3 Z3 : Int) : Prop := (T2 = T3 ∧ 0 ≤ T2) ∨ (0 < T2 ∧ Z3 ≠ 0) ∨ (0 < T3 ∧ Z2 ≠ 0)
theorem er_choice (ha : a.toInt = (d : Int)) (hd : d ≤ 25) (hB : ERq kd n S m lo 7 d 1 p (Kbinary (1 : Int32) a)) (hE : d < 25 → ∀ v : Int32, v.toInt = (d : Int) + 1 → ∀ p, ERq kd n S m lo 0 (d + 1) 0 p (Kexpression v)) (hC : d < 25 → ∀ v : Int32, v.toInt = (d : Int) + 1 → ∀ p, ERq kd n S m lo 1 (d + 1) 0 p (Kchoice v)) :
    ERq kd n S m lo 1 d 0 p (fun σ τ vs Q T => pp_choice Kexpression Kchoice Kbinary Kdecided Kunary Kbehind Kprimary Kcall_0 a σ τ vs Q T) := by
  intro σ τ vs Q F0 hG hg hk hn
  show pp_choice Kexpression Kchoice Kbinary Kdecided Kunary Kbehind Kprimary Kcall_0 a σ τ vs Q (fun _ _ _ => F0)
  unfold pp_choice
  have hn16 := hG.1.1
  refine hB σ τ vs _ F0 hG hg (fun x s3 t3 z3 he => ?_) (fun hnone => hn (fun L => pv_c0 (hnone L)))
  obtain ⟨p1, l, h1, h2, h3, h4, h5, h6, h7, h8, h9, K, T, H, Z, F', I, X, g1, g2, g3, g4⟩ := he
  have hpn := h3.2
  have hH1 : 0 ≤ H ∧ H ≤ 20000 := by have := g2.2.2.1; omega
  refine mr_is h6.1 h3 (c := 28) (by decide) (by decide) (fun k28 => ⟨fun _ => ?_, fun hx => absurd hx (by decide)⟩) (fun k28 => ⟨fun hx => absurd rfl hx, fun _ => ?_⟩)
  rotate_left
  · refine hk x s3 t3 z3 ⟨p1, l, fun L => pv_c1 (h1 L) k28, h2, h3, h4, h5, h6, h7, h8, h9, K, T, H, Z, F', I, X, g1, g2, g3, fun c hc => g4 c ?_⟩
    unfold ROq at hc ⊢
    rw [rmq_7]
    have e : rmq 1 0 = 12 := rfl
    rw [e] at hc
    omega
  refine mr_read g1 (fun _ sr tr kr hne g1' => ?_)
  have tfr : TFq τ vs tr z3 := tf_read h7 h9 hne
  refine mr_deeper ha hd (fun hd2 v hv => ?_) (fun hd2 => hn (fun L => pv_c2 (h1 L) k28 hd2))
  have k0 : Kp [(0, 10)] [] sr (upC sr 0 10 ((sr 0 10) + (1 : Int32))) := kp_f kp_rf rfl
  have hGr := rgq_w h6 kr
  have gu := gm_up hGr.1 (gm_k h3 (kr 0 10 rfl rfl)) (by omega)
  have hGu := rgq_p hGr k0
  generalize hsu : upC sr 0 10 ((sr 0 10) + (1 : Int32)) = su at k0 gu hGu ⊢
  refine mr_open (σ := su) (fun v48 s48 k48 => ?_)
  have kA : KPr s3 s48 := kpr_tr (kpr_x (kw_x kr)) (kpr_tr (kpr_p k0) (kpr_x (kw_x k48)))
  have eA : s48 0 12 = s3 0 12 := (k48 0 12 rfl rfl).trans ((k0 0 12 rfl rfl).trans (kr 0 12 rfl rfl))
  refine hE hd2 v hv (p1 + 1) s48 tr z3 _ F0 (rgq_w hGu k48) (gm_k gu (k48 0 10 rfl rfl)) (fun u2 sE tE zE hx => ?_) (fun hnone => hn (fun L => pv_c3 (h1 L) k28 hd2 (hnone (L ++ l ++ [stp 14 p1]))))
  obtain ⟨p2, l2, i1, i2, i3, i4, i5, i6, i7, i8, i9, K2, T2, H2, Z2, F2, I2, X2, j1, j2, j3, j4⟩ := hx
  have hp2n := i3.2
  have hH2 : 0 ≤ H2 ∧ H2 ≤ 20000 := by have := j2.2.2.1; omega
  have xz2 : x ∈ zE := i7.1 x h8
  have xu2 : x ≠ u2 := fun e => i9 (by rw [← e]; exact h8)
  refine mr_read j1 (fun _ sy ty ky hney j1' => mr_open (fun v70 s70 k70 => mr_aim (fun s78 k78 => ?_)))
  have kw : KWr sE s78 := kp_tr (kp_tr ky k70) k78
  have hG78 := rgq_w i6 kw
  have g78 : GMt s78 n p2 := gm_k i3 (kw 0 10 rfl rfl)
  have hAy : MVq ty x 0 T H Z F' X I := mv_eq (mv_tf g1' h8 i7) (fun m => hney x xu2 m)
  have tf2 : TFq τ vs ty zE := tf_read (tf_tr tfr i7) (fun hx => i9 (h7.1 _ hx)) hney
  refine mr_is hG78.1 g78 (c := 29) (by decide) (by decide) (fun k29 => ⟨fun _ => ?_, fun hx => absurd hx (by decide)⟩) (fun k29 => ⟨fun hx => absurd rfl hx, fun _ => ?_⟩)
  rotate_left
  · unfold pp_wrong pp_wrongAt
    exact fun _ => hn (fun L => pv_c4 (h1 L) k28 hd2 (i1 (L ++ l ++ [stp 14 p1])) k29)
  refine mr_deeper ha hd (fun _ v2 hv2 => ?_) (fun hd3 => absurd hd2 hd3)
  have k1 : Kp [(0, 10)] [] s78 (upC s78 0 10 ((s78 0 10) + (1 : Int32))) := kp_f kp_rf rfl
  have gc := gm_up hG78.1 g78 (by omega)
  have hGc := rgq_p hG78 k1
  generalize hsc : upC s78 0 10 ((s78 0 10) + (1 : Int32)) = sc at k1 gc hGc ⊢
  have kB : KPr sE sc := kpr_tr (kpr_x (kw_x kw)) (kpr_p k1)
  have eB : sc 0 12 = sE 0 12 := (k1 0 12 rfl rfl).trans (kw 0 12 rfl rfl)
  refine hC hd2 v2 hv2 (p2 + 1) sc ty zE _ F0 hGc gc (fun u3 sC tC zC hx => ?_) (fun hnone => hn (fun L => by
    have := pv_c5 (m := 0) (h1 L) k28 hd2 (i1 (L ++ l ++ [stp 14 p1])) k29 (hnone (L ++ l ++ [stp 14 p1] ++ l2 ++ [stp 15 p1]))
    exact this))
  obtain ⟨p3, l3, n1, n2, n3, n4, n5, n6, n7, n8, n9, K3, T3, H3, Z3, F3, I3, X3, m1, m2, m3, m4⟩ := hx
  have hp3n := n3.2
  have hH3 : 0 ≤ H3 ∧ H3 ≤ 20000 := by have := m2.2.2.1; omega
  have xz3 : x ∈ zC := n7.1 x xz2
  have uz3 : u2 ∈ zC := n7.1 u2 i8
  have xu3 : x ≠ u3 := fun e => n9 (by rw [← e]; exact xz2)
  have uu3 : u2 ≠ u3 := fun e => n9 (by rw [← e]; exact i8)
  refine mr_read m1 (fun _ sz tz kz hnez m1' => mr_aim (fun s129 k129 => fun _ _ => ?_))
  have kC : KWr sC s129 := kp_tr kz k129
  have hG129 := rgq_w n6 kC
  have hAz : MVq tz x 0 T H Z F' X I := mv_eq (mv_tf hAy xz2 n7) (fun m => hnez x xu3 m)
  have hBz : MVq tz u2 0 T2 H2 Z2 F2 X2 I2 := mv_eq (mv_tf j1' i8 n7) (fun m => hnez u2 uu3 m)
  have tf3 : TFq τ vs tz zC := tf_read (tf_tr tf2 n7) (fun hx => n9 (i7.1 _ (h7.1 _ hx))) hnez
  have vT := g2.2.1
  have vT2 := j2.2.1
  have vT3 := m2.2.1
  have hmxT : -2 ≤ mxq T2 T3 ∧ mxq T2 T3 ≤ 9 := by unfold mxq; split <;> omega
  have e20 := hBz.2.1
  have e30 := m1'.2.1
  have e25 := hBz.2.2.2.1
  have e35 := m1'.2.2.2.1
  refine ⟨fun y => (y.toInt ≠ 0 ↔ alq T2 Z2 T3 Z3), fun y0 _ hy0 => ?_, alq T2 Z2 T3 Z3, fun hx => ⟨fun _ => hx, fun _ => by decide⟩, ¬ (T2 = T3 ∧ 0 ≤ T2), fun hx => ?_, ?_, ?_⟩
  · refine mr_isA hAz (fun v194 w194 e194 => ⟨fun y => (y.toInt = 0 ↔ T < 0 ∨ ¬ alq T2 Z2 T3 Z3), fun y1 _ hy1 => ?_, T < 0 ∨ ¬ alq T2 Z2 T3 Z3, fun hx => ⟨fun _ => hx, fun _ => rfl⟩, fun hx => Or.inl (by omega), fun hx => ⟨fun hy => Or.inr (fun hz => absurd hy (hy0.2 hz)), fun hy => ⟨fun h1 => absurd h1 (by decide), fun h1 => h1.elim (fun h1 => by
      have := e194.1 hx
      omega) (fun h1 => absurd (hy0.1 hy) h1)⟩⟩⟩)
    refine mr_must (rgq_0 hG129) (fun s8 k8 f8 => ⟨fun y => (alq T2 Z2 T3 Z3 → y.toInt = mxq T2 T3) ∧ (¬ alq T2 Z2 T3 Z3 → y.toInt = -2), fun y2 hy2 => ?_, fun hx => ⟨fun hz => absurd hx (hy0.2 hz), fun _ => rfl⟩, fun hx _ _ => ⟨fun _ => ?_, fun hz => absurd (hy0.1 hx) hz⟩⟩)
    rotate_left
    · rw [mx_int, e20, e30]
    refine mr_made f8.1 hBz m1' uz3 n8 ⟨hH2.1, hH2.2, hH3.1, hH3.2⟩ (fun q s9 t9 hq k9 tf9 t0 mv f9 => ?_)
    intro _ _
    have hA9 := mv_tf hAz xz3 tf9
    have ex3 := hA9.2.2.1
    have eq3 := mv.2.2.1
    have hqvs : q ∉ vs := fun hx => hq (tf3.1 q hx)
    have tf4 : TFq τ vs t9 (zC ++ [q]) := tf_tr tf3 tf9
    have ey2 : -2 ≤ y2.toInt ∧ y2.toInt ≤ 9 := by
      by_cases c : alq T2 Z2 T3 Z3
      · rw [hy2.1 c]; exact hmxT
      · rw [hy2.2 c]; omega
    have f39 : FTq sC s9 ((T < 0 ∨ ¬ alq T2 Z2 T3 Z3) ∨ 60 < 1 + mxq H2 H3) := ft_from (kC 0 12 rfl rfl) (kC 0 15 rfl rfl) (ft_iff (ft_tr f8 f9 (k8 0 15 rfl rfl)) (or_congr hy1 Iff.rfl))
    have k39 : KPr sC s9 := kpr_tr (kpr_x (kw_x kC)) (kpr_tr (kpr_x (kf_x k8)) (kpr_x (kf_x k9)))
    have e39 : s9 0 10 = sC 0 10 := (k9 0 10 rfl rfl).trans ((k8 0 10 rfl rfl).trans (kC 0 10 rfl rfl))
    have fin : ∀ s10 t10, KPr s9 s10 → s10 0 10 = s9 0 10 → TFq τ vs t10 (zC ++ [q]) → MVq t10 q 0 y2.toInt (1 + mxq H (mxq H2 H3)) 0 0 0 0 → FTq sC s10 ((T < 0 ∨ ¬ alq T2 Z2 T3 Z3) ∨ 60 < 1 + mxq H (mxq H2 H3)) → Q q s10 t10 (zC ++ [q]) := fun s10 t10 ka eb tfx mvx fx => hk q s10 t10 _ (by
      have k3 := kpr_tr k39 ka
      refine ⟨p3, l ++ [stp 14 p1] ++ l2 ++ [stp 15 p1] ++ l3 ++ [stp 16 p1], fun L => ?_, by omega, gm_k n3 (eb.trans e39), kp_tr h4 (kp_tr kA.1 (kp_tr i4 (kp_tr kB.1 (kp_tr n4 k3.1)))), fun hx => fx.2.2 (Or.inl (n5 (by rw [eB]; exact i5 (by rw [eA]; exact h5 hx)))), rgm_k n6 k3.1 (by rw [k3.2.2.1]; exact rgq_D n6) fx.1, tfx, List.mem_append_right _ (List.mem_singleton.mpr rfl), hqvs, 0, y2.toInt, 1 + mxq H (mxq H2 H3), 0, 0, 0, 0, mvx, ⟨by omega, ey2, ?_, fun hx => absurd rfl hx, fun hx => absurd hx (by decide), fun hx => absurd hx (by decide), by omega, fun hx => by omega⟩, ?_, fun c hc => ?_⟩
      · have this : PVq kd 1 d 0 p L (some (p3, L ++ l ++ [stp 14 p1] ++ l2 ++ [stp 15 p1] ++ l3 ++ [stp 16 p1])) := pv_c5 (m := 0) (h1 L) k28 hd2 (i1 (L ++ l ++ [stp 14 p1])) k29 (n1 (L ++ l ++ [stp 14 p1] ++ l2 ++ [stp 15 p1]))
        simp only [List.append_assoc] at this ⊢
        exact this
      · unfold mxq; (repeat' split) <;> omega
      · unfold mxq; (repeat' split) <;> omega
      · have hc2 : ROq c d (rmq 7 1) ∧ ROq (c + 1) (d + 1) 13 ∧ ROq (c + 2) (d + 1) 12 ∧ c < 490 := by
          rw [rmq_7]
          unfold ROq at hc ⊢
          have e : rmq 1 0 = 12 := rfl
          rw [e] at hc
          omega
        refine ex_choice (g4 c hc2.1) (ex_src kA eA (j4 (c + 1) hc2.2.1)) (ex_src kB eB (m4 (c + 2) hc2.2.2.1)) g2 j2 m2 hc2.2.2.2 h4 (kp_tr kA.1 i4) (kp_tr kB.1 n4) (fun hx => i5 (by rw [eA]; exact hx)) (fun hx => n5 (by rw [eB]; exact hx)) k3 fx (fun q1 q2 q3 => ⟨?_, fun hb => hy2.1 (Classical.byContradiction (fun hz => hb (Or.inr hz)))⟩)
        unfold chB alq
        clear mvx fx f39 f9 f8 mv
        constructor
        · rintro (hx | hx)
          · exact Or.inl (by omega)
          · refine Or.inr (fun hy => hx ?_)
            rcases hy with (hy | hy) | (hy | hy)
            · exact Or.inl ⟨hy.1.symm, by omega⟩
            · exact Or.inr (Or.inl hy)
            · exact Or.inl ⟨hy.1, by omega⟩
            · exact Or.inr (Or.inr hy)
        · rintro (hx | hx)
          · exact Or.inl (by omega)
          · refine Or.inr (fun hy => hx ?_)
            rcases hy with hy | hy | hy
            · exact Or.inr (Or.inl ⟨hy.1, by omega⟩)
            · exact Or.inl (Or.inr hy)
            · exact Or.inr (Or.inr hy))
    have hHx : ((t9 x 3) + (1 : Int32)).toInt = H + 1 := by rw [ad1 (by omega), ex3]
    rw [hHx, eq3]
    refine ⟨fun hle => fin s9 t9 kpr_rf rfl tf4 ?_ (ft_iff f39 (or_congr Iff.rfl ?_)), fun hlt => ⟨fun h60 => fin s9 _ kpr_rf rfl (tf_up tf4 hqvs) ?_ (ft_iff f39 (or_congr Iff.rfl ?_)), fun h60 => mr_tell f39.1 (by decide) (fun s10 k10 f10 => fin s10 _ (kpr_x (kf_x k10)) (k10 0 10 rfl rfl) (tf_up tf4 hqvs) ?_ (ft_iff (ft_tr f39 f10 ?_) ?_))⟩⟩
    · have e : 1 + mxq H2 H3 = 1 + mxq H (mxq H2 H3) := by
        generalize mxq H2 H3 = M at hle
        unfold mxq
        split <;> omega
      rw [← e]
      exact mv
    · have e : 1 + mxq H2 H3 = 1 + mxq H (mxq H2 H3) := by
        generalize mxq H2 H3 = M at hle
        unfold mxq
        split <;> omega
      rw [← e]
    · have mh := mv_hgt (a := (t9 x 3) + (1 : Int32)) mv
      rw [hHx] at mh
      have e : H + 1 = 1 + mxq H (mxq H2 H3) := by
        generalize mxq H2 H3 = M at hlt
        unfold mxq
        split <;> omega
      rw [← e]
      exact mh
    · have e : H + 1 = 1 + mxq H (mxq H2 H3) := by
        generalize mxq H2 H3 = M at hlt
        unfold mxq
        split <;> omega
      rw [← e]
      omega
    · have mh := mv_hgt (a := (t9 x 3) + (1 : Int32)) mv
      rw [hHx] at mh
      have e : H + 1 = 1 + mxq H (mxq H2 H3) := by
        generalize mxq H2 H3 = M at hlt
        unfold mxq
        split <;> omega
      rw [← e]
      exact mh
    · exact k39.1 0 15 rfl rfl
    · have e : H + 1 = 1 + mxq H (mxq H2 H3) := by
        generalize mxq H2 H3 = M at hlt
        unfold mxq
        split <;> omega
      rw [← e]
      exact ⟨fun _ => Or.inr h60, fun _ => Or.inr trivial⟩
  · refine mr_isP hBz (fun v155 w155 e155 => ⟨¬ (T2 = T3 ∧ 0 ≤ T2) ∧ ¬ (0 < T2 ∧ Z3 ≠ 0), fun hy => mr_isP m1' (fun v171 w171 e171 => ⟨¬ alq T2 Z2 T3 Z3, fun hz => ⟨fun h1 => absurd rfl h1, fun h1 => absurd h1 hz⟩, fun hz hx2 => ?_, fun hz => ⟨fun h5z hx2 => ?_, fun h5z => ?_⟩⟩), fun hz => ⟨hx, fun h1 => absurd hz (e155.2 h1.1)⟩, fun hz => ⟨fun h5z => Or.inr (Or.inl ⟨e155.1 hz, by rw [← e35]; exact h5z⟩), fun h5z => ⟨hx, fun h1 => h1.2 (by rw [← e35]; exact h5z)⟩⟩⟩)
    · rcases hx2 with h1 | h1 | h1
      · exact hy.1 h1
      · exact hy.2 h1
      · exact e171.2 h1.1 hz
    · rcases hx2 with h1 | h1 | h1
      · exact hy.1 h1
      · exact hy.2 h1
      · exact h1.2 (by rw [← e25]; exact h5z)
    · exact Or.inr (Or.inr ⟨e171.1 hz, by rw [← e25]; exact h5z⟩)
  · intro hx hy
    exact hx (by rw [e20, e30]; exact hy.1)
  · intro hx
    refine mr_isA hBz (fun v147 w147 e147 => ⟨fun hz => Or.inl ⟨by rw [← e20, ← e30]; exact hx, e147.1 hz⟩, fun hz hy => absurd hz (e147.2 hy.2)⟩)
end RCC
