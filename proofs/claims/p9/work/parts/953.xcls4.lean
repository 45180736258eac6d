/-! the steps of expressions: the class's, signs before, casts, choices, calls -/
def uyB (sg k ty : Int) : Prop := if sg = 61 ∨ sg = 62 then ¬ (1 ≤ k ∧ k ≤ 3) else if sg = 48 then ¬ (1 ≤ k ∧ k ≤ 3) ∨ 9 ≤ ty else if sg = 45 then ty < 1 else ivB sg ty
def uyK (sg : Int) : Int := if sg = 45 then 3 else 0
def uyT (sg ty : Int) : Int := if sg = 61 ∨ sg = 62 then ty else if sg = 48 then ty + 1 else if sg = 45 then ty - 1 else 0
def uyF (sg k f : Int) : Int := if sg = 48 then (if k = 2 then 2 else 0) else if sg = 44 ∨ sg = 59 ∨ sg = 60 then (if f = 1 then 1 else 0) else 0
def chB (ty ty2 z2 ty3 z3 : Int) : Prop := ty = -1 ∨ ¬ (((ty3 = ty2 ∧ ty2 ≠ -1) ∨ (0 < ty2 ∧ z3 ≠ 0)) ∨ ((ty2 = ty3 ∧ ty3 ≠ -1) ∨ (0 < ty3 ∧ z2 ≠ 0)))
section XCO
variable {w s t : St} {j : Nat} {k ty h z f i k2 ty2 h2 z2 f2 i2 k3 ty3 h3 z3 f3 i3 sg : Int} {x x2 x3 a b c d : Int32}
theorem xt_unary {Q : St → Prop} (hc : (w 7 7).toInt = (j : Int) + 1) (hj : j < 500) (h0 : (w 6 3).toInt = 0) (hA : AVq w (65 + j) k ty h z f x i) (hk : 0 ≤ k ∧ k ≤ 3) (hty : -2 ≤ ty ∧ ty ≤ 100) (hh : 0 ≤ h ∧ h ≤ 100) (hs : (atv 16002 (w 13) a).toInt = sg) (hr : UNq sg)
    (kk : ∀ s, STx j w s → (s 7 7).toInt = (j : Int) + 1 → (∃ i', AVq s (65 + j) (uyK sg) (uyT sg ty) (1 + h) 0 (uyF sg k f) (ivq sg x) i') → ((s 6 3).toInt ≠ 0 ↔ uyB sg k ty ∨ 60 < 1 + h) → Q s) : pk_X2_unary a w Q := by
  unfold pk_X2_unary pk_X2_kindOf
  refine xl_top hc hj ⟨sg = 61 ∨ sg = 62, fun hsg => xt_step hc hj h0 hA hh (fun s k1 e7 a1 f1 => kk s k1 e7 ⟨0, ?_⟩ ?_), fun e => Or.inl (by omega), fun e => ⟨fun e2 => ?_, fun e2 => Or.inr (by omega)⟩⟩
  · have e1 : uyK sg = 0 := by unfold uyK; rw [if_neg (by omega)]
    have e2 : uyT sg ty = ty := by unfold uyT; rw [if_pos hsg]
    have e3 : uyF sg k f = 0 := by unfold uyF; rw [if_neg (by omega), if_neg (by omega)]
    rw [e1, e2, e3]
    exact ⟨a1.1, a1.2.1, a1.2.2.1, a1.2.2.2.1, a1.2.2.2.2.1, fun hf => absurd hf (by decide), fun hi => absurd hi (by decide)⟩
  · rw [f1, uyB, if_pos hsg]
  rw [hs] at e e2
  refine ⟨fun s => STx j w s ∧ (s 7 7).toInt = (j : Int) + 1 ∧ (∃ i', AVq s (65 + j) (uyK sg) (uyT sg ty) h 0 (uyF sg k f) (ivq sg x) i') ∧ ((s 6 3).toInt ≠ 0 ↔ uyB sg k ty), ?_, ?_⟩
  · rintro s1 ⟨k1, e7, ⟨i', a1⟩, f1⟩
    have e1 := hgt1 a1.2.2.1 hh
    refine xl_raise a1 hj (fun s7 k7 e77 a7 f7 => kk s7 (stq_tr k1 k7) (by rw [e77]; exact e7) ⟨i', by rw [e1] at a7; exact a7⟩ (by rw [f7, f1, e1]))
  · rw [hs]
    refine ⟨fun n48 => ⟨fun n45 => xl_loaded hA hk hj (fun s1 k1 e6 e7 a1 => xl_invert (sg := sg) a1 hj (by rw [e6]; exact h0) hs (by omega) (fun s2 k2' e72 a2 f2' => ⟨stq_tr k1 k2', by rw [e72, e7]; exact hc, ⟨0, ?_⟩, ?_⟩)), fun n45 => xl_loaded hA hk hj (fun s1 k1 e6 e7 a1 => xl_pointed a1 hj hty (fun s2 k2' e72 a2 _ f2' => ⟨stq_tr k1 k2', by rw [e72, e7]; exact hc, ⟨(s2 (65 + j) 4).toInt, ?_⟩, ?_⟩))⟩, fun n48 => ?_⟩
    · have e1 : uyK sg = 0 := by unfold uyK; rw [if_neg n45]
      have e3 : uyT sg ty = 0 := by unfold uyT; rw [if_neg (by omega), if_neg n48, if_neg n45]
      have e4 : uyF sg k f = if f = 1 then 1 else 0 := by unfold uyF; rw [if_neg n48, if_pos (by omega)]
      rw [e1, e3, e4]
      exact a2
    · rw [f2', uyB, if_neg (by omega), if_neg n48, if_neg n45]
    · have e1 : uyK sg = 3 := by unfold uyK; rw [if_pos n45]
      have e3 : uyT sg ty = ty - 1 := by unfold uyT; rw [if_neg (by omega), if_neg n48, if_pos n45]
      have e4 : uyF sg k f = 0 := by unfold uyF; rw [if_neg n48, if_neg (by omega)]
      rw [e1, e3, e4]
      exact ⟨a2.1, a2.2.1, a2.2.2.1, a2.2.2.2.1, a2.2.2.2.2.1, fun hf => absurd hf (by decide), a2.2.2.2.2.2.2⟩
    · rw [f2', e6, h0, uyB, if_neg (by omega), if_neg n48, if_pos n45]
      exact ⟨fun hx => by rcases hx with hx | hx; exact absurd rfl hx; exact hx, Or.inr⟩
    · have e1 : uyK sg = 0 := by unfold uyK; rw [if_neg (by omega)]
      have e3 : uyT sg ty = ty + 1 := by unfold uyT; rw [if_neg (by omega), if_pos n48]
      have e4 : uyF sg k f = if k = 2 then 2 else 0 := by unfold uyF; rw [if_pos n48]
      have ub : uyB sg k ty ↔ ¬ (1 ≤ k ∧ k ≤ 3) ∨ 9 ≤ ty := by unfold uyB; rw [if_neg (by omega), if_pos n48]
      have nf : (if k = 2 then (2 : Int) else 0) ≠ 1 := by split <;> omega
      have main : ∀ v38 : Int32, (v38.toInt ≠ 0 ↔ 1 ≤ k ∧ k ≤ 3) → ∃ J58 : St → Prop, (∀ (s58 : St), J58 s58 → (pk_X2_address (65 + j) s58 (fun s60 => (STx j w s60 ∧ (s60 7 7).toInt = (j : Int) + 1 ∧ (∃ i', AVq s60 (65 + j) (uyK sg) (uyT sg ty) h 0 (uyF sg k f) (ivq sg x) i') ∧ ((s60 6 3).toInt ≠ 0 ↔ uyB sg k ty))))) ∧ (∃ J53 : Prop, (J53 → (pk_X2_refuse a w (fun s55 => J58 s55))) ∧ ((v38.toInt = 0 → (J53)) ∧ (v38.toInt ≠ 0 → (((w (65 + j) 1).toInt < 9 → (J58 w)) ∧ (9 ≤ (w (65 + j) 1).toInt → (J53)))))) := by
        intro v38 hv
        refine ⟨fun s => STx j w s ∧ s 7 7 = w 7 7 ∧ AVq s (65 + j) k ty h z f x i ∧ ((s 6 3).toInt ≠ 0 ↔ ¬ (1 ≤ k ∧ k ≤ 3) ∨ 9 ≤ ty), ?_, ¬ (1 ≤ k ∧ k ≤ 3) ∨ 9 ≤ ty, fun hb => xl_refuse (fun s2 k2' f2' => ⟨stq_kp (e63 k2'), k2' 7 7 rfl rfl, av_kp hA (e63 k2'), ⟨fun _ => hb, fun _ => f2'⟩⟩), fun d => Or.inl (fun hx => hv.mpr hx d), fun d => ⟨fun d2 => ⟨stq_rf, rfl, hA, ?_⟩, fun d2 => Or.inr (by have := hA.2.1; omega)⟩⟩
        · rintro s1 ⟨k1, e7, a1, f1⟩
          refine xl_address a1 hj hty (fun s2 k2' e72 e62 a2 => ⟨stq_tr k1 k2', by rw [e72, e7]; exact hc, ⟨0, ?_⟩, by rw [e62, f1, ub]⟩)
          rw [e1, e3, e4]
          exact ⟨a2.1, a2.2.1, a2.2.2.1, a2.2.2.2.1, a2.2.2.2.2.1, fun hf => absurd hf nf, a2.2.2.2.2.2.2⟩
        · rw [h0]
          refine ⟨fun hx => absurd rfl hx, fun hx => ?_⟩
          rcases hx with hx | hx
          · exact absurd (hv.mp d) hx
          · have := hA.2.1
            omega
      exact xl_isPlace hA.1 (fun hp => main 1 ⟨fun _ => hp, fun _ => by decide⟩) (fun hp => main 0 ⟨fun hx => absurd rfl hx, fun hx => absurd hx hp⟩)
theorem xt_cast {Q : St → Prop} (hc : (w 7 7).toInt = (j : Int) + 1) (hj : j < 500) (h0 : (w 6 3).toInt = 0) (hA : AVq w (65 + j) k ty h z f x i) (hk : 0 ≤ k ∧ k ≤ 3) (hh : 0 ≤ h ∧ h ≤ 100)
    (kk : ∀ s, STx j w s → (s 7 7).toInt = (j : Int) + 1 → AVq s (65 + j) 0 b.toInt (1 + h) 0 0 0 0 → ((s 6 3).toInt ≠ 0 ↔ ty = -1 ∨ 60 < 1 + h) → Q s) : pk_X2_cast a b w Q := by
  unfold pk_X2_cast
  refine xl_top hc hj (xl_loaded hA hk hj (fun s0 k0 e60 e70 a0 => ⟨fun s => STx j w s ∧ s 7 7 = w 7 7 ∧ AVq s (65 + j) 0 ty h z f x i ∧ ((s 6 3).toInt ≠ 0 ↔ ty = -1), ?_, fun d => ⟨k0, e70, a0, by rw [e60, h0]; exact ⟨fun hx => absurd rfl hx, fun hx => by have := a0.2.1; omega⟩⟩, fun d => xl_refuse (fun s2 k2' f2' => ⟨stq_tr k0 (stq_kp (e63 k2')), (k2' 7 7 rfl rfl).trans e70, av_kp a0 (e63 k2'), ⟨fun _ => by have := a0.2.1; omega, fun _ => f2'⟩⟩)⟩))
  rintro s1 ⟨k1, e7, a1, f1⟩
  have a1' : AVq s1 (65 + j) 0 ty h z f (s1 (65 + j) 8) i := ⟨a1.1, a1.2.1, a1.2.2.1, a1.2.2.2.1, a1.2.2.2.2.1, fun _ => rfl, a1.2.2.2.2.2.2⟩
  refine xl_become a1' hj (fun hf => absurd hf (by decide)) (fun s5 k5 e65 e75 a5 o5 n5 => ?_)
  have e1 := hgt1 a5.2.2.1 hh
  refine xl_raise a5 hj (fun s7 k7 e77 a7 f7 => kk s7 (stq_tr k1 (stq_tr k5 k7)) ?_ ?_ ?_)
  · rw [e77, e75, e7]
    exact hc
  · rw [e1] at a7
    exact ⟨a7.1, a7.2.1, a7.2.2.1, a7.2.2.2.1, a7.2.2.2.2.1, fun hf => absurd hf (by decide), fun hi => absurd hi (by decide)⟩
  · rw [e1, e65] at f7
    rw [f7, f1]
theorem xl_unless {Q : Int32 → St → Prop} {q : Nat} (kk : ∀ v s, Kp [(4, 1)] [24] w s → Q v s) : pk_X2_unless q b w Q := by
  unfold pk_X2_unless
  refine ⟨True, fun _ => xl_emit kk, fun _ => trivial, fun _ => ?_⟩
  unfold pk_X6_isConstant
  exact ⟨fun _ => ⟨fun _ => trivial, fun e => absurd rfl e⟩, fun _ => ⟨fun e => absurd e (by decide), fun _ => xl_cut (fun s ks => ⟨fun _ => xl_emit (fun v s2 k2' => kk v s2 (kp_tr ks k2')), fun _ => kk _ s ks⟩)⟩⟩
theorem xt_quest {Q : St → Prop} (hc : (w 7 7).toInt = (j : Int) + 1) (hj : j < 500) (hA : AVq w (65 + j) k ty h z f x i) (hk : 0 ≤ k ∧ k ≤ 3) (kk : ∀ s, STx j w s → (s 7 7).toInt = (j : Int) + 1 → s 6 3 = w 6 3 → AVq s (65 + j) 0 ty h z f x i → Q s) :
    pk_X2_top w (fun u216 => pk_X2_top w (fun u222 => pk_X2_loaded u222 w (fun u225 s225 => pk_X2_unless u225 ((-1) : Int32) s225 (fun v229 s229 => ∀ s45n : St, s45n = upC s229 u216 10 v229 → (Q s45n))))) := by
  refine xl_top hc hj (xl_top hc hj (xl_loaded hA hk hj (fun s0 k0 e60 e70 a0 => xl_unless (fun v s1 k1 s2 e2 => ?_))))
  subst e2
  refine kk _ (stq_tr k0 (stq_tr (stq_kp (e24 k1)) (stq_op hj))) ?_ ?_ (av_up (av_kp a0 (e24 k1)) (by decide))
  · rw [rdC_ne (by omega), k1 7 7 rfl rfl, e70]
    exact hc
  · rw [rdC_ne (by omega), k1 6 3 rfl rfl, e60]
theorem xt_colon {Q : St → Prop} (hc : (w 7 7).toInt = (j : Int) + 2) (hj : j < 498) (hA : AVq w (65 + j) 0 ty h z f x i) (hB : AVq w (65 + (j + 1)) k2 ty2 h2 z2 f2 x2 i2) (hk : 0 ≤ k2 ∧ k2 ≤ 3) (kk : ∀ s, STx j w s → (s 7 7).toInt = (j : Int) + 2 → s 6 3 = w 6 3 → AVq s (65 + j) 0 ty h z f x i → AVq s (65 + (j + 1)) 0 ty2 h2 z2 f2 x2 i2 → Q s) : pk_X2_colon w Q := by
  unfold pk_X2_colon
  refine xl_top (j := j + 1) (by omega) (by omega) (xl_loaded hB hk (by omega) (fun s0 k0 e60 e70 b0 => ?_))
  have a0 : AVq s0 (65 + j) 0 ty h z f x i := av_eq hA (fun m => k0.2 j m (by omega))
  have e : ((s0 7 7) - (2 : Int32)).toInt = j := by rw [e70, sbc (n := 2) (by decide) (by omega) (by omega)]; omega
  refine ⟨fun y => y = 65 + j, fun y _ hy => ?_, False, fun hf => hf.elim, fun d => by rw [e70] at d; omega, fun d => ⟨fun d2 => by rw [e70] at d2; omega, fun _ _ => by rw [show ((s0 7 7) - (2 : Int32)).toNatClampNeg = j from by rw [nt', e]; rfl]⟩⟩
  subst hy
  refine xl_emit (fun v s1 k1 => xl_aim (fun s2 k2' s3 e3 => ?_))
  subst e3
  have kz := e24 (kp_tr k1 k2')
  have b1 := av_kp b0 kz
  refine kk _ (stq_tr (stq_le k0 (by omega)) (stq_tr (stq_kp kz) (stq_op (by omega)))) ?_ ?_ (av_up (av_kp a0 kz) (by decide)) (av_eq b1 (fun m => by rw [rdC_ne (by omega)]))
  · rw [rdC_ne (by omega), (kp_tr k1 k2') 7 7 rfl rfl, e70]
    exact hc
  · rw [rdC_ne (by omega), (kp_tr k1 k2') 6 3 rfl rfl, e60]
theorem xt_choice {Q : St → Prop} (hc : (w 7 7).toInt = (j : Int) + 3) (hj : j < 497) (h0 : (w 6 3).toInt = 0) (hA : AVq w (65 + j) 0 ty h z f x i) (hB : AVq w (65 + (j + 1)) 0 ty2 h2 z2 f2 x2 i2) (hC : AVq w (65 + (j + 2)) k3 ty3 h3 z3 f3 x3 i3) (hk : 0 ≤ k3 ∧ k3 ≤ 3) (hh : 0 ≤ h ∧ h ≤ 100 ∧ 0 ≤ h2 ∧ h2 ≤ 100 ∧ 0 ≤ h3 ∧ h3 ≤ 100)
    (kk : ∀ s, STx j w s → (s 7 7).toInt = (j : Int) + 1 → AVq s (65 + j) 0 (mxq ty2 ty3) (1 + mxq h (mxq h2 h3)) 0 0 0 0 → ((s 6 3).toInt ≠ 0 ↔ chB ty ty2 z2 ty3 z3 ∨ 60 < 1 + mxq h (mxq h2 h3)) → Q s) : pk_X2_choice a w Q := by
  unfold pk_X2_choice
  refine xl_pop (j := j + 2) (by omega) (by omega) hC hk (fun s1 k1 e6 e7 c1 => ?_)
  have b1 : AVq s1 (65 + (j + 1)) 0 ty2 h2 z2 f2 x2 i2 := av_eq hB (fun m => k1.2 (j + 1) m (by omega))
  have a1 : AVq s1 (65 + j) 0 ty h z f x i := av_eq hA (fun m => k1.2 j m (by omega))
  unfold pk_X2_pop
  refine xl_top (j := j + 1) (by omega) (by omega) ?_
  unfold pk_X2_loaded
  refine xl_isPlace b1.1 (fun hp => by omega) (fun _ => ⟨fun _ => ⟨fun d => by omega, fun _ => ?_⟩, fun e => absurd rfl e⟩)
  have kp7 : Kp [(7, 7)] [] s1 (upC s1 7 7 ((s1 7 7) - (1 : Int32))) := kp_f kp_rf rfl
  have e72 : (upC s1 7 7 ((s1 7 7) - (1 : Int32)) 7 7).toInt = (j : Int) + 1 := by rw [rdA_eq rfl, sb1 (by omega), e7]; omega
  generalize upC s1 7 7 ((s1 7 7) - (1 : Int32)) = s2 at kp7 e72
  have kz : Kp [(4, 1), (6, 3), (6, 4), (7, 7)] [24, 43] s1 s2 := kp_sub kp7 rfl rfl
  refine xl_top (j := j) e72 (by omega) (xl_aim (fun s3 k3' => ?_))
  have kz2 := kp_tr kz (e24 k3')
  have a3 := av_kp a1 kz2
  have b3 := av_kp b1 kz2
  have c3 := av_kp c1 kz2
  have e63' : (s3 6 3).toInt = 0 := by rw [k3' 6 3 rfl rfl, kp7 6 3 rfl rfl, e6]; exact h0
  have e73 : (s3 7 7).toInt = (j : Int) + 1 := by rw [k3' 7 7 rfl rfl]; exact e72
  refine ⟨fun s => STx j w s ∧ s 7 7 = s3 7 7 ∧ AVq s (65 + j) 0 ty h z f x i ∧ AVq s (65 + (j + 1)) 0 ty2 h2 z2 f2 x2 i2 ∧ AVq s (65 + (j + 2)) 0 ty3 h3 z3 f3 x3 i3 ∧ ((s 6 3).toInt ≠ 0 ↔ chB ty ty2 z2 ty3 z3), ?_, chB ty ty2 z2 ty3 z3, fun hb => xl_refuse (fun s4 k4 f4 => ⟨stq_tr (stq_le k1 (by omega)) (stq_tr (stq_kp kz2) (stq_kp (e63 k4))), k4 7 7 rfl rfl, av_kp a3 (e63 k4), av_kp b3 (e63 k4), av_kp c3 (e63 k4), ⟨fun _ => hb, fun _ => f4⟩⟩), fun d => Or.inl (by have := a3.2.1; omega), fun d => ?_⟩
  · rintro s4 ⟨k4, e74, a4, b4, c4, f4⟩
    have a4' : AVq s4 (65 + j) 0 ty h z f (s4 (65 + j) 8) i := ⟨a4.1, a4.2.1, a4.2.2.1, a4.2.2.2.1, a4.2.2.2.2.1, fun _ => rfl, a4.2.2.2.2.2.2⟩
    refine xl_become a4' (by omega) (fun hf => absurd hf (by decide)) (fun s5 k5 e65 e75 a5 o5 n5 => ?_)
    have et : (if (s4 (65 + (j + 1)) 1) < (s4 (65 + (j + 2)) 1) then (s4 (65 + (j + 2)) 1) else (s4 (65 + (j + 1)) 1)).toInt = mxq ty2 ty3 := by rw [mx_int, b4.2.1, c4.2.1]
    have eb : (s4 (65 + (j + 1)) 2).toInt = h2 := b4.2.2.1
    have ec : (s4 (65 + (j + 2)) 2).toInt = h3 := c4.2.2.1
    have em2 : (if (s4 (65 + (j + 1)) 2) < (s4 (65 + (j + 2)) 2) then (s4 (65 + (j + 2)) 2) else (s4 (65 + (j + 1)) 2)).toInt = mxq h2 h3 := by rw [mx_int, eb, ec]
    have r1 := mxq_r (h := h2) (h2 := h3) ⟨hh.2.2.1, hh.2.2.2.1⟩ ⟨hh.2.2.2.2.1, hh.2.2.2.2.2⟩
    have r2 := mxq_r (h := h) (h2 := mxq h2 h3) ⟨hh.1, hh.2.1⟩ r1
    have em : (if (s4 (65 + j) 2) < (if (s4 (65 + (j + 1)) 2) < (s4 (65 + (j + 2)) 2) then (s4 (65 + (j + 2)) 2) else (s4 (65 + (j + 1)) 2)) then (if (s4 (65 + (j + 1)) 2) < (s4 (65 + (j + 2)) 2) then (s4 (65 + (j + 2)) 2) else (s4 (65 + (j + 1)) 2)) else (s4 (65 + j) 2)).toInt = mxq h (mxq h2 h3) := by rw [mx_int, em2, a4.2.2.1]
    have e1 : ((1 : Int32) + (if (s4 (65 + j) 2) < (if (s4 (65 + (j + 1)) 2) < (s4 (65 + (j + 2)) 2) then (s4 (65 + (j + 2)) 2) else (s4 (65 + (j + 1)) 2)) then (if (s4 (65 + (j + 1)) 2) < (s4 (65 + (j + 2)) 2) then (s4 (65 + (j + 2)) 2) else (s4 (65 + (j + 1)) 2)) else (s4 (65 + j) 2))).toInt = 1 + mxq h (mxq h2 h3) := by rw [ad (by rw [em, i1]; omega) (by rw [em, i1]; omega), em, i1]
    refine xl_raise a5 (by omega) (fun s7 k7 e77 a7 f7 => kk s7 (stq_tr k4 (stq_tr k5 k7)) ?_ ?_ ?_)
    · rw [e77, e75, e74]
      exact e73
    · rw [e1, et] at a7
      exact ⟨a7.1, a7.2.1, a7.2.2.1, a7.2.2.2.1, a7.2.2.2.2.1, fun hf => absurd hf (by decide), fun hi => absurd hi (by decide)⟩
    · rw [e1, e65] at f7
      rw [f7, f4]
  · have ok : ¬ chB ty ty2 z2 ty3 z3 → STx j w s3 ∧ s3 7 7 = s3 7 7 ∧ AVq s3 (65 + j) 0 ty h z f x i ∧ AVq s3 (65 + (j + 1)) 0 ty2 h2 z2 f2 x2 i2 ∧ AVq s3 (65 + (j + 2)) 0 ty3 h3 z3 f3 x3 i3 ∧ ((s3 6 3).toInt ≠ 0 ↔ chB ty ty2 z2 ty3 z3) := fun hn => ⟨stq_tr (stq_le k1 (by omega)) (stq_kp kz2), rfl, a3, b3, c3, by rw [e63']; exact ⟨fun hx => absurd rfl hx, fun hx => absurd hx hn⟩⟩
    have t1 : ty ≠ -1 := by have := a3.2.1; omega
    refine xl_fits c3.2.1 c3.2.2.2.1 (fun v hv0 hv => ⟨fun d2 => ok (fun hb => ?_), fun d2 => xl_fits b3.2.1 b3.2.2.2.1 (fun v2 hv20 hv2 => ⟨fun d3 => ok (fun hb => ?_), fun d3 => Or.inr (fun hb => ?_)⟩)⟩)
    · have h5 := hv.mp (by omega)
      rw [b3.2.1] at h5
      rcases hb with hb | hb
      · exact t1 hb
      · exact hb (Or.inl h5)
    · have h5 := hv2.mp (by omega)
      rw [c3.2.1] at h5
      rcases hb with hb | hb
      · exact t1 hb
      · exact hb (Or.inr h5)
    · rcases hb with hb | hb
      · rw [← b3.2.1] at hb
        have := hv.mpr hb
        omega
      · rw [← c3.2.1] at hb
        have := hv2.mpr hb
        omega
/-- a call's arguments: parameters of a signature -/
def sgN (sig : Int32) : Int := (ushr sig (24 : Int32)).toInt
def sgT (sig n : Int32) : Int := ((ushr sig ((3 : Int32) * n)) &&& (7 : Int32)).toInt
def agB (sig n : Int32) (ty z : Int) : Prop := sgN sig ≤ n.toInt ∨ ¬ ((ty = sgT sig n ∧ sgT sig n ≠ -1) ∨ (0 < sgT sig n ∧ z ≠ 0))
theorem xt_argument {Q : St → Prop} {n m : Int32} {sig : Int32} (hc : (w 7 7).toInt = (j : Int) + 2) (hj : j < 498) (hA : AVq w (65 + j) 4 ty h z f x i) (hn : w (65 + j) 11 = n) (hm : w (65 + j) 12 = m) (hn9 : 0 ≤ n.toInt ∧ n.toInt ≤ 20000) (hB : AVq w (65 + (j + 1)) k2 ty2 h2 z2 f2 x2 i2) (hk : 0 ≤ k2 ∧ k2 ≤ 3) (hsig : atv 10100 (w 27) (w (65 + j) 4) = sig)
    (kk : ∀ s, STx j w s → (s 7 7).toInt = (j : Int) + 1 → s 6 3 = w 6 3 → AVq s (65 + j) 4 ty (mxq h h2) z f x i → (s (65 + j) 11).toInt = n.toInt + 1 → ((s (65 + j) 12).toInt ≠ 0 ↔ m.toInt ≠ 0 ∨ agB sig n ty2 z2) → Q s) : pk_X2_argument w Q := by
  unfold pk_X2_argument pk_X8_parameters pk_X8_parameter
  refine xl_pop (j := j + 1) (by omega) (by omega) hB hk (fun s1 k1 e6 e7 b1 => xl_top (j := j) e7 (by omega) ?_)
  have a1 : AVq s1 (65 + j) 4 ty h z f x i := av_eq hA (fun m => k1.2 j m (by omega))
  have o1 : ∀ m, s1 (65 + j) m = w (65 + j) m := fun m => k1.2 j m (by omega)
  have e27 : s1 27 = w 27 := ko_rd k1.1 27 (by omega) rfl (fun _ => rfl)
  rw [e27, o1 4, hsig, o1 11, hn]
  refine ⟨fun s => STx j w s ∧ s 7 7 = s1 7 7 ∧ s 6 3 = w 6 3 ∧ AVq s (65 + j) 4 ty h z f x i ∧ s (65 + j) 11 = n ∧ ((s (65 + j) 12).toInt ≠ 0 ↔ m.toInt ≠ 0 ∨ agB sig n ty2 z2) ∧ (s (65 + (j + 1)) 2).toInt = h2, ?_, agB sig n ty2 z2, fun hb => ?_, fun d => Or.inl d, fun d => xl_fits b1.2.1 b1.2.2.2.1 (fun v hv0 hv => ⟨fun d2 => ⟨stq_le k1 (by omega), rfl, e6, a1, by rw [o1 11, hn], ?_, b1.2.2.1⟩, fun d2 => Or.inr (fun hb => ?_)⟩)⟩
  · rintro s2 ⟨k2', e72, e62, a2, n2, m2, hb2⟩
    rintro s4 rfl s6 rfl
    have e11 : (upC s2 (65 + j) 11 ((s2 (65 + j) 11) + (1 : Int32))) (65 + (j + 1)) 2 = s2 (65 + (j + 1)) 2 := by rw [rdC_ne (by omega)]
    have e12 : (upC s2 (65 + j) 11 ((s2 (65 + j) 11) + (1 : Int32))) (65 + j) 2 = s2 (65 + j) 2 := by rw [rdA_ne (by decide)]
    rw [e11, e12]
    obtain ⟨q0, q1, q2, q3, q4, q5, q6⟩ := a2
    refine kk _ (stq_tr k2' (stq_tr (stq_op (by omega)) (stq_op (by omega)))) ?_ ?_ ⟨?_, ?_, ?_, ?_, ?_, fun hf => ?_, fun hi => ?_⟩ ?_ ?_
    · rw [rdC_ne (by omega), rdC_ne (by omega), e72]
      exact e7
    · rw [rdC_ne (by omega), rdC_ne (by omega)]
      exact e62
    · rw [rdA_ne (by decide), rdA_ne (by decide)]
      exact q0
    · rw [rdA_ne (by decide), rdA_ne (by decide)]
      exact q1
    · rw [rdA_eq rfl, mx_int, q2, hb2]
    · rw [rdA_ne (by decide), rdA_ne (by decide)]
      exact q3
    · rw [rdA_ne (by decide), rdA_ne (by decide)]
      exact q4
    · rw [rdA_ne (by decide), rdA_ne (by decide)]
      exact q5 hf
    · rw [rdA_ne (by decide), rdA_ne (by decide)]
      exact q6 hi
    · rw [rdA_ne (by decide), rdA_eq rfl, n2, ad0 i1 (by omega) (by omega)]
    · rw [rdA_ne (by decide), rdA_ne (by decide)]
      exact m2
  · rintro s9 rfl
    refine ⟨stq_tr (stq_le k1 (by omega)) (stq_op (by omega)), ?_, ?_, av_up a1 (by decide), ?_, ?_, ?_⟩
    · rw [rdC_ne (by omega)]
    · rw [rdC_ne (by omega)]
      exact e6
    · rw [rdA_ne (by decide), o1 11, hn]
    · rw [rdA_eq rfl]
      exact ⟨fun _ => Or.inr hb, fun _ => by decide⟩
    · rw [rdC_ne (by omega)]
      exact b1.2.2.1
  · rw [o1 12, hm]
    refine ⟨Or.inl, fun hx => ?_⟩
    rcases hx with hx | hx
    · exact hx
    · have h5 := hv.mp (by omega)
      rcases hx with hx | hx
      · unfold sgN at hx
        omega
      · exact absurd h5 hx
  · have := hv.mpr hb
    omega
theorem xt_call {Q : St → Prop} {n m : Int32} {sig : Int32} (hc : (w 7 7).toInt = (j : Int) + 1) (hj : j < 500) (h0 : (w 6 3).toInt = 0) (hA : AVq w (65 + j) 4 ty h z f x i) (hn : w (65 + j) 11 = n) (hm : w (65 + j) 12 = m) (hsig : atv 10100 (w 27) (w (65 + j) 4) = sig) (hh : 0 ≤ h ∧ h ≤ 100)
    (kk : ∀ s, STx j w s → (s 7 7).toInt = (j : Int) + 1 → AVq s (65 + j) 0 ty (1 + h) 0 0 0 0 → ((s 6 3).toInt ≠ 0 ↔ (m.toInt ≠ 0 ∨ n.toInt ≠ sgN sig) ∨ 60 < 1 + h) → Q s) : pk_X2_call a w Q := by
  unfold pk_X2_call pk_X8_parameters pk_X2_lineOf
  refine xl_top hc hj ?_
  rw [hsig, hn, hm]
  refine ⟨fun s => STx j w s ∧ s 7 7 = w 7 7 ∧ AVq s (65 + j) 4 ty h z f x i ∧ ((s 6 3).toInt ≠ 0 ↔ (m.toInt ≠ 0 ∨ n.toInt ≠ sgN sig)), ?_, m.toInt ≠ 0 ∨ n.toInt ≠ sgN sig, fun hb => xl_refuse (fun s2 k2' f2' => ⟨stq_kp (e63 k2'), k2' 7 7 rfl rfl, av_kp hA (e63 k2'), ⟨fun _ => hb, fun _ => f2'⟩⟩), fun d => Or.inl d, fun d => ⟨fun d2 => ⟨stq_rf, rfl, hA, by rw [h0]; exact ⟨fun hx => absurd rfl hx, fun hx => by rcases hx with hx | hx; exact absurd d hx; exact absurd d2 hx⟩⟩, fun d2 => Or.inr d2⟩⟩
  rintro s1 ⟨k1, e7, a1, f1⟩
  refine xl_emit (fun _ s2 k2' => ?_)
  have a2 := av_kp a1 (e24 k2')
  have a2' : AVq s2 (65 + j) 4 ty h z f (s2 (65 + j) 8) i := ⟨a2.1, a2.2.1, a2.2.2.1, a2.2.2.2.1, a2.2.2.2.2.1, fun _ => rfl, a2.2.2.2.2.2.2⟩
  refine xl_become a2' hj (fun hf => absurd hf (by decide)) (fun s5 k5 e65 e75 a5 o5 n5 => ?_)
  have e1 : ((s5 (65 + j) 2) + (1 : Int32)).toInt = 1 + h := by rw [ad0 i1 (by rw [a5.2.2.1]; omega) (by rw [a5.2.2.1]; omega), a5.2.2.1]; omega
  refine xl_raise a5 hj (fun s7 k7 e77 a7 f7 => kk s7 (stq_tr k1 (stq_tr (stq_kp (e24 k2')) (stq_tr k5 k7))) ?_ ?_ ?_)
  · rw [e77, e75, k2' 7 7 rfl rfl, e7]
    exact hc
  · rw [e1, a2.2.1] at a7
    exact ⟨a7.1, a7.2.1, a7.2.2.1, a7.2.2.2.1, a7.2.2.2.2.1, fun hf => absurd hf (by decide), fun hi => absurd hi (by decide)⟩
  · rw [e1, e65, k2' 6 3 rfl rfl] at f7
    rw [f7, f1]
end XCO
