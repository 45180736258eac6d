/-! the reference's expressions: two sides -/
/-- the right side of the sign at p1, and the sign: from the left Value on -/
def ETq (kd : Nat → Int) (n S m lo d p1 : Nat) (K T H Z F : Int) (X : Int32) (σ τ : St) (vs : List Nat) (q : Nat) (s t : St) (z : List Nat) : Prop :=
  ∃ (p2 : Nat) (l2 : List Stq) (σ2 : St) (K2 T2 H2 Z2 F2 T3 F3 I : Int) (X2 X3 : Int32) (B : Prop), (∀ L, PVq kd 7 d ((lvq (kd p1)).toNat + 1) (p1 + 1) L (some (p2, L ++ l2))) ∧ p1 + 1 < p2 ∧ GMt s n p2 ∧ KEr σ σ2 ∧ MNq σ σ2 ∧ RGm kd n S m lo s ∧ TFq τ vs t z ∧ q ∈ z ∧ q ∉ vs
    ∧ MVq t q 0 T3 (1 + mxq H H2) 0 F3 X3 I ∧ VRq 0 T3 (1 + mxq H H2) 0 F3 ∧ VRq K2 T2 H2 Z2 F2 ∧ H2 ≤ (p2 : Int) - ((p1 + 1 : Nat) : Int) ∧ (∀ c, ROq c d (rmq 7 ((lvq (kd p1)).toNat + 1)) → EXq kd n S m lo c l2 σ σ2 K2 T2 H2 Z2 F2 X2)
    ∧ KPr σ2 s ∧ FTq σ2 s (B ∨ 60 < 1 + mxq H H2) ∧ (F3 = 1 → F = 1 ∧ F2 = 1 ∧ ¬ B ∧ 1 + mxq H H2 ≤ 60) ∧ (T ≠ -2 → T2 ≠ -2 → (B ↔ tyq (kd p1) T T2 Z Z2 = -2) ∧ (¬ B → 1 + mxq H H2 ≤ 60 → T3 = tyq (kd p1) T T2 Z Z2 ∧ F3 = fcq (kd p1) F F2 X2 ∧ (F3 = 1 → X3 = wkq (kd p1) X X2)))
/-- && and ||: behind the sign -/
def EDq (kd : Nat → Int) (n S m lo d : Nat) (f : Int32 → Nat → Int32 → St → St → List Nat → (Nat → St → St → List Nat → Prop) → (St → St → List Nat → Prop) → Prop) : Prop :=
  ∀ (x tk : Int32) (u p1 : Nat) (σ τ : St) (vs : List Nat) (K T H Z F I : Int) (X : Int32) (Q : Nat → St → St → List Nat → Prop) (E : Prop), kd p1 = 57 ∨ kd p1 = 58 → x.toInt = rkI (kd p1) - 32 → p1 ≤ n → RGm kd n S m lo σ → GMt σ n (p1 + 1) → u ∈ vs → MVq τ u K T H Z F X I → VRq K T H Z F → H ≤ 20000 →
    (∀ q s t z, ETq kd n S m lo d p1 K T H Z F X σ τ vs q s t z → Q q s t z) → ((∀ L, PVq kd 7 d ((lvq (kd p1)).toNat + 1) (p1 + 1) L none) → E) → f x u tk σ τ vs Q (fun _ _ _ => E)
section RBI
variable {σ σ1 σ2 σ3 s s2 τ t t2 : St} {kd : Nat → Int} {n S m lo d p p1 k u q c : Nat} {vs z : List Nat} {a b : Int32} {l l1 : List Stq} {K T H Z F I T3 : Int} {X : Int32} {B : Prop}
variable {Kexpression Kchoice : Int32 → St → St → List Nat → (Nat → St → St → List Nat → Prop) → (St → St → List Nat → Prop) → Prop} {Kbinary : Int32 → Int32 → St → St → List Nat → (Nat → St → St → List Nat → Prop) → (St → St → List Nat → Prop) → Prop} {Kdecided : Int32 → Nat → Int32 → Int32 → St → St → List Nat → (Nat → St → St → List Nat → Prop) → (St → St → List Nat → Prop) → Prop} {Kunary Kbehind Kprimary : Int32 → St → St → List Nat → (Nat → St → St → List Nat → Prop) → (St → St → List Nat → Prop) → Prop} {Kcall_0 : Int32 → Int32 → St → St → List Nat → (Nat → St → St → List Nat → Prop) → (St → St → List Nat → Prop) → Prop}
theorem rk_58 : rkI 57 - 32 = 10 ∧ rkI 58 - 32 = 11 := by decide
theorem rk_1011 : ∀ a : Nat, a < 63 → (rkI (a : Int) - 32 = 10 ↔ a = 57) ∧ (rkI (a : Int) - 32 = 11 ↔ a = 58) := by decide
theorem rk_iff6 {k : Int} (hr : 0 ≤ k ∧ k ≤ 62) : (rkI k - 32 = 10 ↔ k = 57) ∧ (rkI k - 32 = 11 ↔ k = 58) := by
  have hi := rk_1011 k.toNat (by omega)
  rw [show ((k.toNat : Nat) : Int) = k from by omega] at hi
  omega
theorem rmq_7 : rmq 7 k = 12 - k := rfl
theorem lv_n (x : Int) : ((lvq x).toNat : Int) = lvq x ∧ (lvq x).toNat ≤ 10 := by
  have := lvq_r x
  omega
theorem ty_dec {x y zx zy : Int} (hs : B = True ∨ True) : tyq 57 x y zx zy = tyq 58 x y zx zy := by
  unfold tyq
  simp
theorem er_decided {a2 : Int32} (ha : a2.toInt = (d : Int)) (hd : d ≤ 25) (hB : ∀ (k p : Nat) (v : Int32), v.toInt = (k : Int) → 1 ≤ k → k ≤ 11 → ERq kd n S m lo 7 d k p (Kbinary v a2)) :
    EDq kd n S m lo d (fun x u tk σ τ vs Q T => pp_decided Kexpression Kchoice Kbinary Kdecided Kunary Kbehind Kprimary Kcall_0 x u tk a2 σ τ vs Q T) := by
  intro x tk u p1 σ τ vs K T H Z F I X Q E hsg hx hp1 hG hg hu hA vA hH hk hn
  show pp_decided Kexpression Kchoice Kbinary Kdecided Kunary Kbehind Kprimary Kcall_0 x u tk a2 σ τ vs Q (fun _ _ _ => E)
  unfold pp_decided
  have hk62 := hG.1.2.2.1 p1
  have hn16 := hG.1.1
  have hl := lv_n (kd p1)
  refine ⟨fun _ => True, fun y _ => mr_open (fun v14 s14 k14 => mr_rank hk62 hx (fun v21 hv21 => ?_)), fun _ => trivial, fun _ => trivial⟩
  have hG14 := rgq_w hG k14
  refine hB ((lvq (kd p1)).toNat + 1) (p1 + 1) (v21 + (1 : Int32)) (by rw [ad1 (by omega), hv21]; omega) (by omega) (by omega) s14 τ vs _ E hG14 (gm_k hg (k14 0 10 rfl rfl)) (fun q2 s t z he => ?_) (fun hnone => hn hnone)
  obtain ⟨p2, l2, i1, i2, i3, i4, i5, i6, i7, i8, i9, K2, T2, H2, Z2, F2, I2, X2, j1, j2, j3, j4⟩ := he
  have hp2n := i3.2
  have hH1 : 0 ≤ H ∧ H ≤ 20000 := by have := vA.2.2.1; omega
  have hH2 : 0 ≤ H2 ∧ H2 ≤ 20000 := by have := j2.2.2.1; omega
  have uz : u ∈ z := i7.1 u hu
  have uq : u ≠ q2 := fun e => i9 (by rw [← e]; exact hu)
  have hAz := mv_tf hA hu i7
  refine mr_read j1 (fun _ sr tr kr hne j1' => mr_put0 (fun s42 k42 => mr_open (fun v48 s48 k48 => mr_aim (fun s56 k56 => ?_))))
  have hAr : MVq tr u K T H Z F X I := mv_eq hAz (fun m => hne u uq m)
  refine ⟨fun _ => True, fun y2 _ _ => mr_put1 (fun s72 k72 => mr_aim (fun s78 k78 => mr_isA hAr (fun v83 w83 e83 => ?_))), fun _ => trivial, fun _ => trivial⟩
  have kw : KWr s s78 := kp_tr (kp_tr (kp_tr (kp_tr (kp_tr kr k42) k48) k56) k72) k78
  have hG78 := rgq_w i6 kw
  refine ⟨fun y => (y.toInt = 0 ↔ T < 0 ∨ T2 < 0), fun y _ hy => mr_must (rgq_0 hG78) (fun s8 k8 f8 => mr_made f8.1 hAr j1' uz i8 ⟨hH1.1, hH1.2, hH2.1, hH2.2⟩ (fun q s9 t9 hq k9 tf9 t0 mv f9 => hk q s9 t9 _ ?_)), T < 0 ∨ T2 < 0, fun hx => ⟨fun _ => hx, fun _ => rfl⟩, fun hx => Or.inl (by omega), fun hx => mr_isA j1' (fun v91 w91 e91 => ⟨fun hy => Or.inr (by omega), fun hy => ⟨fun h1 => absurd h1 (by decide), fun h1 => by
    have := e91.1 hy
    have := e83.1 hx
    omega⟩⟩)⟩
  have kp := kpr_x (kw_x kw)
  have k3 : KPr s s9 := kpr_tr kp (kpr_tr (kpr_x (kf_x k8)) (kpr_x (kf_x k9)))
  have f3 : FTq s s9 ((T < 0 ∨ T2 < 0) ∨ 60 < 1 + mxq H H2) := ft_from (kw 0 12 rfl rfl) (kw 0 15 rfl rfl) (ft_iff (ft_tr f8 f9 (k8 0 15 rfl rfl)) (or_congr hy Iff.rfl))
  have tf2 : TFq τ vs t9 (z ++ [q]) := tf_tr (tf_read i7 i9 hne) tf9
  have k14' : KPr σ s14 := kpr_x (kw_x k14)
  have e12 : s14 0 12 = σ 0 12 := k14 0 12 rfl rfl
  refine ⟨p2, l2, s, K2, T2, H2, Z2, F2, 0, 0, 0, X2, 0, T < 0 ∨ T2 < 0, i1, i2, gm_k i3 ((k9 0 10 rfl rfl).trans ((k8 0 10 rfl rfl).trans (kw 0 10 rfl rfl))), kp_tr k14'.1 i4, fun hx => i5 (by rw [e12]; exact hx), rgm_k i6 k3.1 (by rw [k3.2.2.1]; exact rgq_D i6) f3.1, tf2, List.mem_append_right _ (List.mem_singleton.mpr rfl), fun hx => hq (i7.1 q hx), mv, ⟨by omega, by omega, ?_, fun hx => absurd rfl hx, fun hx => absurd hx (by decide), fun hx => absurd hx (by decide), by omega, fun hx => by omega⟩, j2, j3, fun c hc => ex_src k14' e12 (j4 c hc), k3, f3, fun hx => absurd hx (by decide), fun h1 h2 => ⟨?_, fun hb _ => ⟨?_, ?_, fun hx => absurd hx (by decide)⟩⟩⟩
  · have := vA.2.2.1
    unfold mxq
    split <;> omega
  · have t1 := vA.2.1
    have t2 := j2.2.1
    unfold tyq
    rcases hsg with e | e <;> rw [e] <;> simp <;> omega
  · have t1 := vA.2.1
    have t2 := j2.2.1
    unfold tyq
    rw [if_neg (by omega), if_pos hsg]
  · unfold fcq
    rw [if_neg (by omega), if_neg (by omega), if_neg (by omega)]
end RBI
