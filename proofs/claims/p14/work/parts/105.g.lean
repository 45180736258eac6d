section
/-! the steps of expressions: the class's, assignments, places, casts, choices -/
def ivq (sg : Int) (x : Int32) : Int32 := if sg = 44 then -x else if sg = 60 then x ^^^ ((-1) : Int32) else if x.toInt = 0 then 1 else 0
section XCN
variable {w s t : St} {j : Nat} {k ty h z f i k2 ty2 h2 z2 f2 i2 k3 ty3 h3 z3 f3 i3 sg : Int} {x x2 x3 a b c d : Int32}
theorem mxq_r (h1 : 0 ≤ h ∧ h ≤ 100) (h2' : 0 ≤ h2 ∧ h2 ≤ 100) : 0 ≤ mxq h h2 ∧ mxq h h2 ≤ 100 := by unfold mxq; split <;> omega
/-- the height behind two -/
theorem hgt2 {q1 q2 : Nat} (e1 : (w q1 2).toInt = h) (e2 : (w q2 2).toInt = h2) (hh : 0 ≤ h ∧ h ≤ 100 ∧ 0 ≤ h2 ∧ h2 ≤ 100) : ((1 : Int32) + (if (w q1 2) < (w q2 2) then (w q2 2) else (w q1 2))).toInt = 1 + mxq h h2 := by
  have hm := mxq_r (h := h) (h2 := h2) ⟨hh.1, hh.2.1⟩ ⟨hh.2.2.1, hh.2.2.2⟩
  have em : (if (w q1 2) < (w q2 2) then (w q2 2) else (w q1 2)).toInt = mxq h h2 := by rw [mx_int, e1, e2]
  rw [ad (by rw [em, i1]; omega) (by rw [em, i1]; omega), em, i1]
theorem hgt1 {q1 : Nat} (e1 : (w q1 2).toInt = h) (hh : 0 ≤ h ∧ h ≤ 100) : ((1 : Int32) + (w q1 2)).toInt = 1 + h := by
  rw [ad (by rw [e1, i1]; omega) (by rw [e1, i1]; omega), e1, i1]
def asB (sg k ty ty2 z2 : Int) : Prop := ¬ (1 ≤ k ∧ k ≤ 3) ∨ ¬ (if sg = 30 then (ty2 = ty ∧ ty ≠ -1) ∨ (0 < ty ∧ z2 ≠ 0) else ty2 = 0 ∧ (sg = 33 ∨ sg = 34 ∨ ty = 0))
theorem xt_assign {Q : St → Prop} (hc : (w 7 7).toInt = (j : Int) + 2) (hj : j < 498) (h0 : (w 6 3).toInt = 0) (hA : AVq w (65 + j) k ty h z f x i) (hB : AVq w (65 + (j + 1)) k2 ty2 h2 z2 f2 x2 i2) (hk : 0 ≤ k2 ∧ k2 ≤ 3) (hh : 0 ≤ h ∧ h ≤ 100 ∧ 0 ≤ h2 ∧ h2 ≤ 100) (hs : (atv 16002 (w 13) a).toInt = sg)
    (kk : ∀ s, STx j w s → (s 7 7).toInt = (j : Int) + 1 → AVq s (65 + j) 0 ty (1 + mxq h h2) 0 0 0 0 → ((s 6 3).toInt ≠ 0 ↔ asB sg k ty ty2 z2 ∨ 60 < 1 + mxq h h2) → Q s) : pk_X2_assign a w Q := by
  unfold pk_X2_assign pk_X2_kindOf pk_X2_lineOf
  refine xl_pop (j := j + 1) (by omega) (by omega) hB hk (fun s1 k1 e6 e7 b1 => xl_top (j := j) e7 (by omega) ?_)
  have a1 : AVq s1 (65 + j) k ty h z f x i := av_eq hA (fun m => k1.2 j m (by omega))
  refine ⟨fun y => (y.toInt = 1 ↔ sg = 33 ∨ sg = 34) ∧ (y.toInt = 0 ∨ y.toInt = 1), fun y _ hy => ⟨fun y2 => (y2.toInt = 1 ↔ (if sg = 30 then (ty2 = ty ∧ ty ≠ -1) ∨ (0 < ty ∧ z2 ≠ 0) else ty2 = 0 ∧ (sg = 33 ∨ sg = 34 ∨ ty = 0))) ∧ (y2.toInt = 0 ∨ y2.toInt = 1), fun y2 _ hy2 => xl_isPlace a1.1 ?_ ?_, ?_⟩, ?_⟩
  rotate_left 2
  · refine ⟨fun c => ?_, fun c => xl_fits b1.2.1 b1.2.2.2.1 (fun v hv0 hv => ⟨?_, hv0⟩)⟩
    · rw [hs] at c
      refine ⟨ty2 ≠ 0 ∨ (ty ≠ 0 ∧ ¬ (sg = 33 ∨ sg = 34)), fun hj1 => ⟨?_, Or.inl rfl⟩, fun d => Or.inl (by have := b1.2.1; omega), fun d => ⟨sg = 33 ∨ sg = 34 ∨ ty = 0, fun hj1 => ⟨?_, Or.inr rfl⟩, fun e => by omega, fun e => ⟨fun e2 => Or.inr ⟨by have := a1.2.1; omega, by omega⟩, fun e2 => Or.inr (Or.inr (by have := a1.2.1; omega))⟩⟩⟩
      · rw [if_neg c]
        exact ⟨fun hx => absurd hx (by decide), fun hx => by omega⟩
      · rw [if_neg c]
        exact ⟨fun _ => ⟨by have := b1.2.1; omega, hj1⟩, fun _ => rfl⟩
    · rw [hs] at c
      rw [if_pos c, hv, a1.2.1]
  · rw [hs]
    exact ⟨sg = 33 ∨ sg = 34, fun hj1 => ⟨⟨fun _ => hj1, fun _ => rfl⟩, Or.inr rfl⟩, fun c => Or.inl c, fun c => ⟨fun c2 => ⟨⟨fun hx => absurd hx (by decide), fun hx => by omega⟩, Or.inl rfl⟩, fun c2 => Or.inr c2⟩⟩
  all_goals
    intro hpl
    refine ⟨fun s => STx j w s ∧ s 7 7 = s1 7 7 ∧ AVq s (65 + j) k ty h z f x i ∧ AVq s (65 + (j + 1)) 0 ty2 h2 z2 f2 x2 i2 ∧ ((s 6 3).toInt ≠ 0 ↔ asB sg k ty ty2 z2), ?_, ?_⟩
    · rintro s2 ⟨k2', e72, a2, b2, f2'⟩
      refine ⟨fun s => STx j w s ∧ s 7 7 = s1 7 7 ∧ AVq s (65 + j) k ty h z f x i ∧ AVq s (65 + (j + 1)) 0 ty2 h2 z2 f2 x2 i2 ∧ ((s 6 3).toInt ≠ 0 ↔ asB sg k ty ty2 z2), ?_, fun _ => ⟨k2', e72, a2, b2, f2'⟩, fun _ => ?_⟩
      · rintro s3 ⟨k3', e73, a3, b3, f3'⟩
        refine ⟨fun s => STx j w s ∧ s 7 7 = s1 7 7 ∧ AVq s (65 + j) k ty h z f x i ∧ AVq s (65 + (j + 1)) 0 ty2 h2 z2 f2 x2 i2 ∧ ((s 6 3).toInt ≠ 0 ↔ asB sg k ty ty2 z2), ?_, fun _ => ⟨fun _ => True, fun y3 _ => xl_emit (fun _ s4 k4 => ⟨stq_tr k3' (stq_kp (e24 k4)), (k4 7 7 rfl rfl).trans e73, av_kp a3 (e24 k4), av_kp b3 (e24 k4), by rw [k4 6 3 rfl rfl]; exact f3'⟩), fun _ => trivial, fun _ => trivial⟩, fun _ => xl_emit (fun _ s4 k4 => ⟨stq_tr k3' (stq_kp (e24 k4)), (k4 7 7 rfl rfl).trans e73, av_kp a3 (e24 k4), av_kp b3 (e24 k4), by rw [k4 6 3 rfl rfl]; exact f3'⟩)⟩
        rintro s4 ⟨k4', e74, a4, b4, f4'⟩
        have a4' : AVq s4 (65 + j) k ty h z f (s4 (65 + j) 8) i := ⟨a4.1, a4.2.1, a4.2.2.1, a4.2.2.2.1, a4.2.2.2.2.1, fun _ => rfl, a4.2.2.2.2.2.2⟩
        refine xl_become a4' (by omega) (fun hf => absurd hf (by decide)) (fun s5 k5 e65 e75 a5 o5 n5 => ?_)
        have eh2 : (s5 (65 + (j + 1)) 2).toInt = h2 := by
          rw [n5 _ 2 (by omega)]
          exact b4.2.2.1
        have e1 := hgt2 a5.2.2.1 eh2 hh
        refine xl_raise a5 (by omega) (fun s7 k7 e77 a7 f7 => kk s7 (stq_tr k4' (stq_tr k5 k7)) ?_ ?_ ?_)
        · rw [e77, e75, e74]
          exact e7
        · rw [e1, a4.2.1] at a7
          exact ⟨a7.1, a7.2.1, a7.2.2.1, a7.2.2.2.1, a7.2.2.2.2.1, fun hf => absurd hf (by decide), fun hi => absurd hi (by decide)⟩
        · rw [e1, e65] at f7
          rw [f7, f4']
      · exact xl_operate (fun s3 k3' => ⟨stq_tr k2' (stq_kp (e24 k3')), (k3' 7 7 rfl rfl).trans e72, av_kp a2 (e24 k3'), av_kp b2 (e24 k3'), by rw [k3' 6 3 rfl rfl]; exact f2'⟩)
    · have bad : asB sg k ty ty2 z2 → pk_X2_refuse a s1 (fun s96 => STx j w s96 ∧ s96 7 7 = s1 7 7 ∧ AVq s96 (65 + j) k ty h z f x i ∧ AVq s96 (65 + (j + 1)) 0 ty2 h2 z2 f2 x2 i2 ∧ ((s96 6 3).toInt ≠ 0 ↔ asB sg k ty ty2 z2)) := fun hb => xl_refuse (fun s2 k2' f2' => ⟨stq_tr (stq_le k1 (by omega)) (stq_kp (e63 k2')), k2' 7 7 rfl rfl, av_kp a1 (e63 k2'), av_kp b1 (e63 k2'), ⟨fun _ => hb, fun _ => f2'⟩⟩)
      refine ⟨asB sg k ty ty2 z2, bad, fun c => Or.inl ?_, fun c => ⟨fun c2 => ⟨stq_le k1 (by omega), rfl, a1, b1, ?_⟩, fun c2 => Or.inr (fun hq => ?_)⟩⟩
      · first
          | exact hpl
          | exact absurd c (by decide)
      · rw [e6, h0]
        refine ⟨fun hx => absurd rfl hx, fun hx => ?_⟩
        rcases hx with hx | hx
        · first
            | exact absurd hpl hx
            | exact absurd rfl c
        · exact absurd (hy2.1.mp (by omega)) hx
      · have := hy2.1.mpr hq
        omega
theorem kp65 {c m : Nat} (hk : Kp [(6, 3), (6, 4)] [] w s) (hc : 65 ≤ c) : s c m = w c m := by
  have e := (stq_kp (j := c + 1) (e63 hk)).2 (c - 65) m (by omega)
  rwa [show 65 + (c - 65) = c from by omega] at e
/-- a pointer becomes the cell -/
theorem xl_pointed {Q : St → Prop} (hA : AVq w (65 + j) 0 ty h z f x i) (hj : j < 500) (hty : -2 ≤ ty ∧ ty ≤ 100) (kk : ∀ s, STx j w s → s 7 7 = w 7 7 → AVq s (65 + j) 3 (ty - 1) h 0 0 0 (s (65 + j) 4).toInt → (∀ c m, 65 ≤ c → c ≠ 65 + j → s c m = w c m) → ((s 6 3).toInt ≠ 0 ↔ (w 6 3).toInt ≠ 0 ∨ ty < 1) → Q s) : pk_X2_pointed (65 + j) a w Q := by
  unfold pk_X2_pointed
  refine ⟨fun s => STx j w s ∧ s 7 7 = w 7 7 ∧ AVq s (65 + j) 0 ty h z f x i ∧ (∀ c m, 65 ≤ c → c ≠ 65 + j → s c m = w c m) ∧ ((s 6 3).toInt ≠ 0 ↔ (w 6 3).toInt ≠ 0 ∨ ty < 1), ?_, fun c => ⟨stq_rf, rfl, hA, fun _ _ _ _ => rfl, ⟨Or.inl, fun hx => by rcases hx with hx | hx; exact hx; have := hA.2.1; omega⟩⟩, fun c => xl_refuse (fun s2 k2' f2' => ⟨stq_kp (e63 k2'), k2' 7 7 rfl rfl, av_kp hA (e63 k2'), fun c m hc _ => kp65 k2' hc, ⟨fun _ => Or.inr (by have := hA.2.1; omega), fun _ => f2'⟩⟩)⟩
  · rintro s1 ⟨k1, e7, a1, n1, f1⟩
    have a1' : AVq s1 (65 + j) 0 ty h z f (s1 (65 + j) 8) i := ⟨a1.1, a1.2.1, a1.2.2.1, a1.2.2.2.1, a1.2.2.2.2.1, fun _ => rfl, a1.2.2.2.2.2.2⟩
    refine xl_become a1' hj (fun hf => absurd hf (by decide)) (fun s5 k5 e65 e75 a5 o5 n5 => ?_)
    rintro s6 rfl
    unfold pk_X2_lineOf
    rintro s8 rfl
    have et : ((s1 (65 + j) 1) - (1 : Int32)).toInt = ty - 1 := by rw [sbc i1 (by rw [a1.2.1]; omega) (by rw [a1.2.1]; omega), a1.2.1]
    refine kk _ (stq_tr k1 (stq_tr k5 (stq_tr (stq_op hj) (stq_op hj)))) ?_ ⟨?_, ?_, ?_, ?_, ?_, fun hf => absurd hf (by decide), fun _ => rfl⟩ (fun c m hc hcm => ?_) ?_
    · rw [rdC_ne (by omega), rdC_ne (by omega), e75]
      exact e7
    · rw [rdA_ne (by decide), rdA_eq rfl]
      rfl
    · rw [rdA_ne (by decide), rdA_ne (by decide), a5.2.1]
      exact et
    · rw [rdA_ne (by decide), rdA_ne (by decide)]
      exact a5.2.2.1
    · rw [rdA_ne (by decide), rdA_ne (by decide)]
      exact a5.2.2.2.1
    · rw [rdA_ne (by decide), rdA_ne (by decide)]
      exact a5.2.2.2.2.1
    · rw [rdC_ne hcm, rdC_ne hcm, n5 c m hcm]
      exact n1 c m hc hcm
    · rw [rdC_ne (by omega), rdC_ne (by omega), e65]
      exact f1
theorem xt_index {Q : St → Prop} (hc : (w 7 7).toInt = (j : Int) + 2) (hj : j < 498) (h0 : (w 6 3).toInt = 0) (hA : AVq w (65 + j) 0 ty h z f x i) (hB : AVq w (65 + (j + 1)) k2 ty2 h2 z2 f2 x2 i2) (hk : 0 ≤ k2 ∧ k2 ≤ 3) (hty : -2 ≤ ty ∧ ty ≤ 100) (hh : 0 ≤ h ∧ h ≤ 100 ∧ 0 ≤ h2 ∧ h2 ≤ 100)
    (kk : ∀ s, STx j w s → (s 7 7).toInt = (j : Int) + 1 → AVq s (65 + j) 3 (ty - 1) (1 + mxq h h2) 0 0 0 (s (65 + j) 4).toInt → ((s 6 3).toInt ≠ 0 ↔ (ty2 ≠ 0 ∨ ty < 1) ∨ 60 < 1 + mxq h h2) → Q s) : pk_X2_index a w Q := by
  unfold pk_X2_index
  refine xl_pop (j := j + 1) (by omega) (by omega) hB hk (fun s1 k1 e6 e7 b1 => xl_top (j := j) e7 (by omega) ?_)
  have a1 : AVq s1 (65 + j) 0 ty h z f x i := av_eq hA (fun m => k1.2 j m (by omega))
  refine ⟨fun s => STx j w s ∧ s 7 7 = s1 7 7 ∧ AVq s (65 + j) 0 ty h z f x i ∧ AVq s (65 + (j + 1)) 0 ty2 h2 z2 f2 x2 i2 ∧ ((s 6 3).toInt ≠ 0 ↔ ty2 ≠ 0), ?_, fun c => ⟨stq_le k1 (by omega), rfl, a1, b1, by rw [e6, h0]; exact ⟨fun hx => absurd rfl hx, fun hx => by have := b1.2.1; omega⟩⟩, fun c => xl_refuse (fun s2 k2' f2' => ⟨stq_tr (stq_le k1 (by omega)) (stq_kp (e63 k2')), k2' 7 7 rfl rfl, av_kp a1 (e63 k2'), av_kp b1 (e63 k2'), ⟨fun _ => by have := b1.2.1; omega, fun _ => f2'⟩⟩)⟩
  rintro s2 ⟨k2', e72, a2, b2, f2'⟩
  refine xl_emit (fun _ s3 k3' => xl_pointed (av_kp a2 (e24 k3')) (by omega) hty (fun s4 k4 e74 a4 n4 f4 => ?_))
  have eh2 : (s4 (65 + (j + 1)) 2).toInt = h2 := by
    rw [n4 _ 2 (by omega) (by omega)]
    exact (av_kp b2 (e24 k3')).2.2.1
  have e1 := hgt2 a4.2.2.1 eh2 hh
  refine xl_raise a4 (by omega) (fun s7 k7 e77 a7 f7 => kk s7 (stq_tr k2' (stq_tr (stq_kp (e24 k3')) (stq_tr k4 k7))) ?_ ?_ ?_)
  · rw [e77, e74, k3' 7 7 rfl rfl, e72]
    exact e7
  · rw [e1] at a7
    exact ⟨a7.1, a7.2.1, a7.2.2.1, a7.2.2.2.1, a7.2.2.2.2.1, fun hf => absurd hf (by decide), fun _ => rfl⟩
  · rw [e1, f4, k3' 6 3 rfl rfl, f2'] at f7
    exact f7
theorem xt_step {Q : St → Prop} (hc : (w 7 7).toInt = (j : Int) + 1) (hj : j < 500) (h0 : (w 6 3).toInt = 0) (hA : AVq w (65 + j) k ty h z f x i) (hh : 0 ≤ h ∧ h ≤ 100)
    (kk : ∀ s, STx j w s → (s 7 7).toInt = (j : Int) + 1 → AVq s (65 + j) 0 ty (1 + h) 0 0 0 0 → ((s 6 3).toInt ≠ 0 ↔ ¬ (1 ≤ k ∧ k ≤ 3) ∨ 60 < 1 + h) → Q s) : pk_X2_step (65 + j) a b w Q := by
  unfold pk_X2_step
  have main : ∀ v1 : Int32, (v1.toInt ≠ 0 ↔ 1 ≤ k ∧ k ≤ 3) → ∃ J12 : St → Prop, (∀ (s12 : St), J12 s12 → (pk_X2_kindOf a s12 (fun v14 => ∃ J27 : Int32 → Prop, (∀ (y0_27 : Int32), J27 y0_27 → (∃ J39 : Int32 → Prop, (∀ (y0_39 : Int32), J39 y0_39 → (∃ J102 : St → Prop, (∀ (s102 : St), J102 s102 → (pk_X6_become (65 + j) (s102 (65 + j) 1) (0 : Int32) s102 (fun s108 => pk_X2_raise (65 + j) ((1 : Int32) + (s108 (65 + j) 2)) a s108 (fun s120 => Q s120)))) ∧ (((s12 (65 + j) 0).toInt ≠ 3 → (∃ J90 : Int32 → Prop, (∀ (y1_90 : Int32), J90 y1_90 → (pk_X0_emit y1_90 (s12 (65 + j) 4) y0_27 y0_39 s12 (fun v98 s98 => J102 s98))) ∧ (((s12 (65 + j) 0).toInt ≠ 1 → (J90 (7 : Int32))) ∧ ((s12 (65 + j) 0).toInt = 1 → (J90 (10 : Int32)))))) ∧ ((s12 (65 + j) 0).toInt = 3 → (pk_X2_lineOf a s12 (fun v57 => pk_X0_emit (20 : Int32) v57 y0_27 y0_39 s12 (fun v64 s64 => J102 s64))))))) ∧ ((b.toInt = 0 → (J39 (0 : Int32))) ∧ (b.toInt ≠ 0 → (J39 y0_27))))) ∧ ((v14.toInt ≠ 61 → (J27 ((-1) : Int32))) ∧ (v14.toInt = 61 → (J27 (1 : Int32))))))) ∧ ((v1.toInt ≠ 0 → (J12 w)) ∧ (v1.toInt = 0 → (pk_X2_refuse a w (fun s9 => J12 s9)))) := by
    intro v1 hv1
    refine ⟨fun s => STx j w s ∧ s 7 7 = w 7 7 ∧ AVq s (65 + j) k ty h z f x i ∧ ((s 6 3).toInt ≠ 0 ↔ ¬ (1 ≤ k ∧ k ≤ 3)), ?_, fun c => ⟨stq_rf, rfl, hA, by rw [h0]; exact ⟨fun hx => absurd rfl hx, fun hx => absurd (hv1.mp c) hx⟩⟩, fun c => xl_refuse (fun s2 k2' f2' => ⟨stq_kp (e63 k2'), k2' 7 7 rfl rfl, av_kp hA (e63 k2'), ⟨fun _ hx => absurd c (hv1.mpr hx), fun _ => f2'⟩⟩)⟩
    rintro s1 ⟨k1, e7, a1, f1⟩
    unfold pk_X2_kindOf pk_X2_lineOf
    refine ⟨fun _ => True, fun y _ => ⟨fun _ => True, fun y2 _ => ⟨fun s => STx j w s ∧ s 7 7 = w 7 7 ∧ AVq s (65 + j) k ty h z f x i ∧ ((s 6 3).toInt ≠ 0 ↔ ¬ (1 ≤ k ∧ k ≤ 3)), ?_, fun _ => ⟨fun _ => True, fun y3 _ => xl_emit (fun _ s2 k2' => ⟨stq_tr k1 (stq_kp (e24 k2')), (k2' 7 7 rfl rfl).trans e7, av_kp a1 (e24 k2'), by rw [k2' 6 3 rfl rfl]; exact f1⟩), fun _ => trivial, fun _ => trivial⟩, fun _ => xl_emit (fun _ s2 k2' => ⟨stq_tr k1 (stq_kp (e24 k2')), (k2' 7 7 rfl rfl).trans e7, av_kp a1 (e24 k2'), by rw [k2' 6 3 rfl rfl]; exact f1⟩)⟩, fun _ => trivial, fun _ => trivial⟩, fun _ => trivial, fun _ => trivial⟩
    rintro s4 ⟨k4', e74, a4, f4'⟩
    have a4' : AVq s4 (65 + j) k ty h z f (s4 (65 + j) 8) i := ⟨a4.1, a4.2.1, a4.2.2.1, a4.2.2.2.1, a4.2.2.2.2.1, fun _ => rfl, a4.2.2.2.2.2.2⟩
    refine xl_become a4' hj (fun hf => absurd hf (by decide)) (fun s5 k5 e65 e75 a5 o5 n5 => ?_)
    have e1 := hgt1 a5.2.2.1 hh
    refine xl_raise a5 hj (fun s7 k7 e77 a7 f7 => kk s7 (stq_tr k4' (stq_tr k5 k7)) ?_ ?_ ?_)
    · rw [e77, e75, e74]
      exact hc
    · rw [e1, a4.2.1] at a7
      exact ⟨a7.1, a7.2.1, a7.2.2.1, a7.2.2.2.1, a7.2.2.2.2.1, fun hf => absurd hf (by decide), fun hi => absurd hi (by decide)⟩
    · rw [e1, e65] at f7
      rw [f7, f4']
  exact xl_isPlace hA.1 (fun hp => main 1 ⟨fun _ => hp, fun _ => by decide⟩) (fun hp => main 0 ⟨fun hx => absurd rfl hx, fun hx => absurd hx hp⟩)
theorem xl_inverted {Q : Int32 → Prop} (hs : (sg = 44 ∧ a.toInt = 22) ∨ (sg = 60 ∧ a.toInt = 23) ∨ (sg = 59 ∧ a.toInt = 24)) (kk : Q (ivq sg b)) : pk_X5_inverted a b w Q := by
  unfold ivq at kk
  unfold pk_X5_inverted
  rcases hs with ⟨h1, h2⟩ | ⟨h1, h2⟩ | ⟨h1, h2⟩
  · rw [if_pos h1] at kk
    exact ⟨fun _ => kk, fun n => absurd h2 n⟩
  · rw [if_neg (by omega), if_pos h1] at kk
    exact ⟨fun n => by omega, fun _ => ⟨fun _ => kk, fun n => absurd h2 n⟩⟩
  · rw [if_neg (by omega), if_neg (by omega)] at kk
    refine ⟨fun n => by omega, fun _ => ⟨fun n => by omega, fun _ => ⟨fun _ => ⟨fun e => ?_, fun e => ?_⟩, fun n => absurd h2 n⟩⟩⟩
    · rwa [if_neg e] at kk
    · rwa [if_pos e] at kk
def ivB (sg ty : Int) : Prop := if sg = 59 then ty = -1 else ty ≠ 0
theorem xl_invert {Q : St → Prop} (hA : AVq w (65 + j) 0 ty h z f x i) (hj : j < 500) (h0 : (w 6 3).toInt = 0) (hb : b.toInt = sg) (hs : sg = 44 ∨ sg = 60 ∨ sg = 59)
    (kk : ∀ s, STx j w s → s 7 7 = w 7 7 → AVq s (65 + j) 0 0 h 0 (if f = 1 then 1 else 0) (ivq sg x) 0 → ((s 6 3).toInt ≠ 0 ↔ ivB sg ty) → Q s) : pk_X2_invert (65 + j) b c w Q := by
  unfold pk_X2_invert
  refine ⟨fun s => STx j w s ∧ s 7 7 = w 7 7 ∧ AVq s (65 + j) 0 ty h z f x i ∧ ((s 6 3).toInt ≠ 0 ↔ ivB sg ty), ?_, ivB sg ty, fun hj1 => xl_refuse (fun s2 k2' f2' => ⟨stq_kp (e63 k2'), k2' 7 7 rfl rfl, av_kp hA (e63 k2'), ⟨fun _ => hj1, fun _ => f2'⟩⟩), fun d => ⟨fun e => ⟨stq_rf, rfl, hA, by rw [h0]; exact ⟨fun hx => absurd rfl hx, fun hx => by unfold ivB at hx; rw [if_neg (by omega)] at hx; have := hA.2.1; omega⟩⟩, fun e => by unfold ivB; rw [if_neg (by omega)]; have := hA.2.1; omega⟩, fun d => ⟨fun e => ⟨stq_rf, rfl, hA, by rw [h0]; exact ⟨fun hx => absurd rfl hx, fun hx => by unfold ivB at hx; rw [if_pos (by omega)] at hx; have := hA.2.1; omega⟩⟩, fun e => by unfold ivB; rw [if_pos (by omega)]; have := hA.2.1; omega⟩⟩
  rintro s1 ⟨k1, e7, a1, f1⟩
  refine ⟨fun y => (sg = 44 ∧ y.toInt = 22) ∨ (sg = 60 ∧ y.toInt = 23) ∨ (sg = 59 ∧ y.toInt = 24), fun y hy => xl_emit (fun _ s2 k2' => xl_inverted hy ?_), fun d => ⟨fun e => Or.inl ⟨by omega, by decide⟩, fun e => Or.inr (Or.inl ⟨by omega, by decide⟩)⟩, fun d => Or.inr (Or.inr ⟨by omega, by decide⟩)⟩
  have a2 := av_kp a1 (e24 k2')
  rintro s4 rfl
  have a3 : AVq (upC s2 (65 + j) 8 (ivq sg (s2 (65 + j) 8))) (65 + j) 0 ty h z f (ivq sg x) i := by
    obtain ⟨q0, q1, q2, q3, q4, q5, q6⟩ := a2
    exact ⟨by rw [rdA_ne (by decide)]; exact q0, by rw [rdA_ne (by decide)]; exact q1, by rw [rdA_ne (by decide)]; exact q2, by rw [rdA_ne (by decide)]; exact q3, by rw [rdA_ne (by decide)]; exact q4, fun hf => by rw [rdA_eq rfl, q5 hf], fun hi => absurd hi (by decide)⟩
  have k3 : STx j s2 (upC s2 (65 + j) 8 (ivq sg (s2 (65 + j) 8))) := stq_op hj
  have e37 : upC s2 (65 + j) 8 (ivq sg (s2 (65 + j) 8)) 7 7 = w 7 7 := by rw [rdC_ne (by omega), k2' 7 7 rfl rfl]; exact e7
  have e36 : upC s2 (65 + j) 8 (ivq sg (s2 (65 + j) 8)) 6 3 = s1 6 3 := by rw [rdC_ne (by omega), k2' 6 3 rfl rfl]
  generalize upC s2 (65 + j) 8 (ivq sg (s2 (65 + j) 8)) = s3 at a3 k3 e37 e36
  have fin : ∀ y2 : Int32, y2.toInt = (if f = 1 then 1 else 0) → pk_X6_become (65 + j) (0 : Int32) y2 s3 (fun s95 => pk_X2_fold (65 + j) s95 (fun s100 => Q s100)) := fun y2 hy2 => by
    have a3' : AVq s3 (65 + j) 0 ty h z f (ivq sg x) i := a3
    refine xl_become (x := ivq sg x) a3 hj (fun hf => a3.2.2.2.2.2.1 (by rw [hy2] at hf; by_cases q : f = 1; exact q; rw [if_neg q] at hf; omega)) (fun s5 k5 e65 e75 a5 o5 n5 => xl_fold a5 (fun s6 k6 => kk s6 (stq_tr k1 (stq_tr (stq_kp (e24 k2')) (stq_tr k3 (stq_tr k5 (stq_kp (e24 k6)))))) ?_ ?_ ?_))
    · rw [k6 7 7 rfl rfl, e75]
      exact e37
    · rw [hy2] at a5
      exact av_kp a5 (e24 k6)
    · rw [k6 6 3 rfl rfl, e65, e36]
      exact f1
  have a36 := a3.2.2.2.2.1
  unfold pk_X6_isConstant
  refine ⟨fun d => ⟨fun y2 => y2.toInt = (if f = 1 then 1 else 0), fun y2 _ hy2 => fin y2 hy2, fun _ => by rw [if_neg (by omega)]; rfl, fun e => absurd rfl e⟩, fun d => ⟨fun y2 => y2.toInt = (if f = 1 then 1 else 0), fun y2 _ hy2 => fin y2 hy2, fun e => absurd e (by decide), fun _ => by rw [if_pos (by omega)]; rfl⟩⟩
theorem xl_address {Q : St → Prop} (hA : AVq w (65 + j) k ty h z f x i) (hj : j < 500) (hty : -2 ≤ ty ∧ ty ≤ 100) (kk : ∀ s, STx j w s → s 7 7 = w 7 7 → s 6 3 = w 6 3 → AVq s (65 + j) 0 (ty + 1) h 0 (if k = 2 then 2 else 0) 0 0 → Q s) : pk_X2_address (65 + j) w Q := by
  unfold pk_X2_address
  have fin : ∀ s1, STx j w s1 → s1 7 7 = w 7 7 → s1 6 3 = w 6 3 → AVq s1 (65 + j) k ty h z f x i → ∀ y2 : Int32, y2.toInt = (if k = 2 then 2 else 0) → pk_X6_become (65 + j) ((s1 (65 + j) 1) + (1 : Int32)) y2 s1 (fun s91 => ∀ s4n : St, s4n = upC s91 (65 + j) 7 (s91 (65 + j) 4) → (∀ s6n : St, s6n = upC s4n (65 + j) 8 (0 : Int32) → (Q s6n))) := fun s1 k1 e7 e6 a1 y2 hy2 => by
    have a1' : AVq s1 (65 + j) k ty h z f (s1 (65 + j) 8) i := ⟨a1.1, a1.2.1, a1.2.2.1, a1.2.2.2.1, a1.2.2.2.2.1, fun _ => rfl, a1.2.2.2.2.2.2⟩
    refine xl_become a1' hj (fun _ => rfl) (fun s5 k5 e65 e75 a5 o5 n5 => ?_)
    rintro s6 rfl s8 rfl
    have et : ((s1 (65 + j) 1) + (1 : Int32)).toInt = ty + 1 := by rw [adc i1 (by rw [a1.2.1]; omega) (by rw [a1.2.1]; omega), a1.2.1]
    have nf : (if k = 2 then (2 : Int) else 0) ≠ 1 := by split <;> omega
    refine kk _ (stq_tr k1 (stq_tr k5 (stq_tr (stq_op hj) (stq_op hj)))) ?_ ?_ ⟨?_, ?_, ?_, ?_, ?_, fun hf => absurd hf nf, fun hi => absurd hi (by decide)⟩
    · rw [rdC_ne (by omega), rdC_ne (by omega), e75]
      exact e7
    · rw [rdC_ne (by omega), rdC_ne (by omega), e65]
      exact e6
    · rw [rdA_ne (by decide), rdA_ne (by decide)]
      exact a5.1
    · rw [rdA_ne (by decide), rdA_ne (by decide), a5.2.1]
      exact et
    · rw [rdA_ne (by decide), rdA_ne (by decide)]
      exact a5.2.2.1
    · rw [rdA_ne (by decide), rdA_ne (by decide)]
      exact a5.2.2.2.1
    · rw [rdA_ne (by decide), rdA_ne (by decide), a5.2.2.2.2.1]
      exact hy2
  refine ⟨fun y => y.toInt ≠ 0 ↔ k = 2, fun y _ hy => ⟨fun s => STx j w s ∧ s 7 7 = w 7 7 ∧ s 6 3 = w 6 3 ∧ AVq s (65 + j) k ty h z f x i, ?_, fun d => ⟨fun _ => ⟨stq_rf, rfl, rfl, hA⟩, fun _ => xl_emit (fun _ s1 k1 => ⟨stq_kp (e24 k1), k1 7 7 rfl rfl, k1 6 3 rfl rfl, av_kp hA (e24 k1)⟩)⟩, fun d => ?_⟩, fun d => ⟨fun hx => absurd rfl hx, fun hx => by have := hA.1; omega⟩, fun d => ⟨fun _ => by have := hA.1; omega, fun _ => by decide⟩⟩
  · rintro s1 ⟨k1, e7, e6, a1⟩
    exact ⟨fun y2 => y2.toInt = (if k = 2 then 2 else 0), fun y2 hy2 => fin s1 k1 e7 e6 a1 y2 hy2, fun d => by rw [if_neg (fun hx => hy.mpr hx d)]; rfl, fun d => by rw [if_pos (hy.mp d)]; rfl⟩
  · have k43 : Kp [] [43] w (upF w 43 (setv 100 (w 43) (w (65 + j) 4) (1 : Int32))) := kp_F kp_rf rfl
    refine xl_emit (fun _ s1 k1 => ?_)
    have kz : Kp [(4, 1), (6, 3), (6, 4), (7, 7)] [24, 43] w s1 := kp_tr (kp_sub k43 rfl rfl) (e24 k1)
    exact ⟨stq_kp kz, (kp_tr (kp_sub k43 (fs' := [(4, 1)]) (cs' := [24, 43]) rfl rfl) (kp_sub k1 rfl rfl)) 7 7 rfl rfl, (kp_tr (kp_sub k43 (fs' := [(4, 1)]) (cs' := [24, 43]) rfl rfl) (kp_sub k1 rfl rfl)) 6 3 rfl rfl, av_kp hA kz⟩
end XCN
end

section
/-! the steps of expressions: the class's, signs before, casts, choices, calls -/
def uyB (sg k ty : Int) : Prop := if sg = 61 ∨ sg = 62 then ¬ (1 ≤ k ∧ k ≤ 3) else if sg = 48 then ¬ (1 ≤ k ∧ k ≤ 3) ∨ 9 ≤ ty else if sg = 45 then ty < 1 else ivB sg ty
def uyK (sg : Int) : Int := if sg = 45 then 3 else 0
def uyT (sg ty : Int) : Int := if sg = 61 ∨ sg = 62 then ty else if sg = 48 then ty + 1 else if sg = 45 then ty - 1 else 0
def uyF (sg k f : Int) : Int := if sg = 48 then (if k = 2 then 2 else 0) else if sg = 44 ∨ sg = 59 ∨ sg = 60 then (if f = 1 then 1 else 0) else 0
def chB (ty ty2 z2 ty3 z3 : Int) : Prop := ty = -1 ∨ ¬ (((ty3 = ty2 ∧ ty2 ≠ -1) ∨ (0 < ty2 ∧ z3 ≠ 0)) ∨ ((ty2 = ty3 ∧ ty3 ≠ -1) ∨ (0 < ty3 ∧ z2 ≠ 0)))
section XCO
variable {w s t : St} {j : Nat} {k ty h z f i k2 ty2 h2 z2 f2 i2 k3 ty3 h3 z3 f3 i3 sg : Int} {x x2 x3 a b c d : Int32}
theorem xt_unary {Q : St → Prop} (hc : (w 7 7).toInt = (j : Int) + 1) (hj : j < 500) (h0 : (w 6 3).toInt = 0) (hA : AVq w (65 + j) k ty h z f x i) (hk : 0 ≤ k ∧ k ≤ 3) (hty : -2 ≤ ty ∧ ty ≤ 100) (hh : 0 ≤ h ∧ h ≤ 100) (hs : (atv 16002 (w 13) a).toInt = sg) (hr : UNq sg)
    (kk : ∀ s, STx j w s → (s 7 7).toInt = (j : Int) + 1 → (∃ i', AVq s (65 + j) (uyK sg) (uyT sg ty) (1 + h) 0 (uyF sg k f) (ivq sg x) i') → ((s 6 3).toInt ≠ 0 ↔ uyB sg k ty ∨ 60 < 1 + h) → Q s) : pk_X2_unary a w Q := by
  unfold pk_X2_unary pk_X2_kindOf
  refine xl_top hc hj ⟨sg = 61 ∨ sg = 62, fun hsg => xt_step hc hj h0 hA hh (fun s k1 e7 a1 f1 => kk s k1 e7 ⟨0, ?_⟩ ?_), fun e => Or.inl (by omega), fun e => ⟨fun e2 => ?_, fun e2 => Or.inr (by omega)⟩⟩
  · have e1 : uyK sg = 0 := by unfold uyK; rw [if_neg (by omega)]
    have e2 : uyT sg ty = ty := by unfold uyT; rw [if_pos hsg]
    have e3 : uyF sg k f = 0 := by unfold uyF; rw [if_neg (by omega), if_neg (by omega)]
    rw [e1, e2, e3]
    exact ⟨a1.1, a1.2.1, a1.2.2.1, a1.2.2.2.1, a1.2.2.2.2.1, fun hf => absurd hf (by decide), fun hi => absurd hi (by decide)⟩
  · rw [f1, uyB, if_pos hsg]
  rw [hs] at e e2
  refine ⟨fun s => STx j w s ∧ (s 7 7).toInt = (j : Int) + 1 ∧ (∃ i', AVq s (65 + j) (uyK sg) (uyT sg ty) h 0 (uyF sg k f) (ivq sg x) i') ∧ ((s 6 3).toInt ≠ 0 ↔ uyB sg k ty), ?_, ?_⟩
  · rintro s1 ⟨k1, e7, ⟨i', a1⟩, f1⟩
    have e1 := hgt1 a1.2.2.1 hh
    refine xl_raise a1 hj (fun s7 k7 e77 a7 f7 => kk s7 (stq_tr k1 k7) (by rw [e77]; exact e7) ⟨i', by rw [e1] at a7; exact a7⟩ (by rw [f7, f1, e1]))
  · rw [hs]
    refine ⟨fun n48 => ⟨fun n45 => xl_loaded hA hk hj (fun s1 k1 e6 e7 a1 => xl_invert (sg := sg) a1 hj (by rw [e6]; exact h0) hs (by omega) (fun s2 k2' e72 a2 f2' => ⟨stq_tr k1 k2', by rw [e72, e7]; exact hc, ⟨0, ?_⟩, ?_⟩)), fun n45 => xl_loaded hA hk hj (fun s1 k1 e6 e7 a1 => xl_pointed a1 hj hty (fun s2 k2' e72 a2 _ f2' => ⟨stq_tr k1 k2', by rw [e72, e7]; exact hc, ⟨(s2 (65 + j) 4).toInt, ?_⟩, ?_⟩))⟩, fun n48 => ?_⟩
    · have e1 : uyK sg = 0 := by unfold uyK; rw [if_neg n45]
      have e3 : uyT sg ty = 0 := by unfold uyT; rw [if_neg (by omega), if_neg n48, if_neg n45]
      have e4 : uyF sg k f = if f = 1 then 1 else 0 := by unfold uyF; rw [if_neg n48, if_pos (by omega)]
      rw [e1, e3, e4]
      exact a2
    · rw [f2', uyB, if_neg (by omega), if_neg n48, if_neg n45]
    · have e1 : uyK sg = 3 := by unfold uyK; rw [if_pos n45]
      have e3 : uyT sg ty = ty - 1 := by unfold uyT; rw [if_neg (by omega), if_neg n48, if_pos n45]
      have e4 : uyF sg k f = 0 := by unfold uyF; rw [if_neg n48, if_neg (by omega)]
      rw [e1, e3, e4]
      exact ⟨a2.1, a2.2.1, a2.2.2.1, a2.2.2.2.1, a2.2.2.2.2.1, fun hf => absurd hf (by decide), a2.2.2.2.2.2.2⟩
    · rw [f2', e6, h0, uyB, if_neg (by omega), if_neg n48, if_pos n45]
      exact ⟨fun hx => by rcases hx with hx | hx; exact absurd rfl hx; exact hx, Or.inr⟩
    · have e1 : uyK sg = 0 := by unfold uyK; rw [if_neg (by omega)]
      have e3 : uyT sg ty = ty + 1 := by unfold uyT; rw [if_neg (by omega), if_pos n48]
      have e4 : uyF sg k f = if k = 2 then 2 else 0 := by unfold uyF; rw [if_pos n48]
      have ub : uyB sg k ty ↔ ¬ (1 ≤ k ∧ k ≤ 3) ∨ 9 ≤ ty := by unfold uyB; rw [if_neg (by omega), if_pos n48]
      have nf : (if k = 2 then (2 : Int) else 0) ≠ 1 := by split <;> omega
      have main : ∀ v38 : Int32, (v38.toInt ≠ 0 ↔ 1 ≤ k ∧ k ≤ 3) → ∃ J58 : St → Prop, (∀ (s58 : St), J58 s58 → (pk_X2_address (65 + j) s58 (fun s60 => (STx j w s60 ∧ (s60 7 7).toInt = (j : Int) + 1 ∧ (∃ i', AVq s60 (65 + j) (uyK sg) (uyT sg ty) h 0 (uyF sg k f) (ivq sg x) i') ∧ ((s60 6 3).toInt ≠ 0 ↔ uyB sg k ty))))) ∧ (∃ J53 : Prop, (J53 → (pk_X2_refuse a w (fun s55 => J58 s55))) ∧ ((v38.toInt = 0 → (J53)) ∧ (v38.toInt ≠ 0 → (((w (65 + j) 1).toInt < 9 → (J58 w)) ∧ (9 ≤ (w (65 + j) 1).toInt → (J53)))))) := by
        intro v38 hv
        refine ⟨fun s => STx j w s ∧ s 7 7 = w 7 7 ∧ AVq s (65 + j) k ty h z f x i ∧ ((s 6 3).toInt ≠ 0 ↔ ¬ (1 ≤ k ∧ k ≤ 3) ∨ 9 ≤ ty), ?_, ¬ (1 ≤ k ∧ k ≤ 3) ∨ 9 ≤ ty, fun hb => xl_refuse (fun s2 k2' f2' => ⟨stq_kp (e63 k2'), k2' 7 7 rfl rfl, av_kp hA (e63 k2'), ⟨fun _ => hb, fun _ => f2'⟩⟩), fun d => Or.inl (fun hx => hv.mpr hx d), fun d => ⟨fun d2 => ⟨stq_rf, rfl, hA, ?_⟩, fun d2 => Or.inr (by have := hA.2.1; omega)⟩⟩
        · rintro s1 ⟨k1, e7, a1, f1⟩
          refine xl_address a1 hj hty (fun s2 k2' e72 e62 a2 => ⟨stq_tr k1 k2', by rw [e72, e7]; exact hc, ⟨0, ?_⟩, by rw [e62, f1, ub]⟩)
          rw [e1, e3, e4]
          exact ⟨a2.1, a2.2.1, a2.2.2.1, a2.2.2.2.1, a2.2.2.2.2.1, fun hf => absurd hf nf, a2.2.2.2.2.2.2⟩
        · rw [h0]
          refine ⟨fun hx => absurd rfl hx, fun hx => ?_⟩
          rcases hx with hx | hx
          · exact absurd (hv.mp d) hx
          · have := hA.2.1
            omega
      exact xl_isPlace hA.1 (fun hp => main 1 ⟨fun _ => hp, fun _ => by decide⟩) (fun hp => main 0 ⟨fun hx => absurd rfl hx, fun hx => absurd hx hp⟩)
theorem xt_cast {Q : St → Prop} (hc : (w 7 7).toInt = (j : Int) + 1) (hj : j < 500) (h0 : (w 6 3).toInt = 0) (hA : AVq w (65 + j) k ty h z f x i) (hk : 0 ≤ k ∧ k ≤ 3) (hh : 0 ≤ h ∧ h ≤ 100)
    (kk : ∀ s, STx j w s → (s 7 7).toInt = (j : Int) + 1 → AVq s (65 + j) 0 b.toInt (1 + h) 0 0 0 0 → ((s 6 3).toInt ≠ 0 ↔ ty = -1 ∨ 60 < 1 + h) → Q s) : pk_X2_cast a b w Q := by
  unfold pk_X2_cast
  refine xl_top hc hj (xl_loaded hA hk hj (fun s0 k0 e60 e70 a0 => ⟨fun s => STx j w s ∧ s 7 7 = w 7 7 ∧ AVq s (65 + j) 0 ty h z f x i ∧ ((s 6 3).toInt ≠ 0 ↔ ty = -1), ?_, fun d => ⟨k0, e70, a0, by rw [e60, h0]; exact ⟨fun hx => absurd rfl hx, fun hx => by have := a0.2.1; omega⟩⟩, fun d => xl_refuse (fun s2 k2' f2' => ⟨stq_tr k0 (stq_kp (e63 k2')), (k2' 7 7 rfl rfl).trans e70, av_kp a0 (e63 k2'), ⟨fun _ => by have := a0.2.1; omega, fun _ => f2'⟩⟩)⟩))
  rintro s1 ⟨k1, e7, a1, f1⟩
  have a1' : AVq s1 (65 + j) 0 ty h z f (s1 (65 + j) 8) i := ⟨a1.1, a1.2.1, a1.2.2.1, a1.2.2.2.1, a1.2.2.2.2.1, fun _ => rfl, a1.2.2.2.2.2.2⟩
  refine xl_become a1' hj (fun hf => absurd hf (by decide)) (fun s5 k5 e65 e75 a5 o5 n5 => ?_)
  have e1 := hgt1 a5.2.2.1 hh
  refine xl_raise a5 hj (fun s7 k7 e77 a7 f7 => kk s7 (stq_tr k1 (stq_tr k5 k7)) ?_ ?_ ?_)
  · rw [e77, e75, e7]
    exact hc
  · rw [e1] at a7
    exact ⟨a7.1, a7.2.1, a7.2.2.1, a7.2.2.2.1, a7.2.2.2.2.1, fun hf => absurd hf (by decide), fun hi => absurd hi (by decide)⟩
  · rw [e1, e65] at f7
    rw [f7, f1]
theorem xl_unless {Q : Int32 → St → Prop} {q : Nat} (kk : ∀ v s, Kp [(4, 1)] [24] w s → Q v s) : pk_X2_unless q b w Q := by
  unfold pk_X2_unless
  refine ⟨True, fun _ => xl_emit kk, fun _ => trivial, fun _ => ?_⟩
  unfold pk_X6_isConstant
  exact ⟨fun _ => ⟨fun _ => trivial, fun e => absurd rfl e⟩, fun _ => ⟨fun e => absurd e (by decide), fun _ => xl_cut (fun s ks => ⟨fun _ => xl_emit (fun v s2 k2' => kk v s2 (kp_tr ks k2')), fun _ => kk _ s ks⟩)⟩⟩
theorem xt_quest {Q : St → Prop} (hc : (w 7 7).toInt = (j : Int) + 1) (hj : j < 500) (hA : AVq w (65 + j) k ty h z f x i) (hk : 0 ≤ k ∧ k ≤ 3) (kk : ∀ s, STx j w s → (s 7 7).toInt = (j : Int) + 1 → s 6 3 = w 6 3 → AVq s (65 + j) 0 ty h z f x i → Q s) :
    pk_X2_top w (fun u216 => pk_X2_top w (fun u222 => pk_X2_loaded u222 w (fun u225 s225 => pk_X2_unless u225 ((-1) : Int32) s225 (fun v229 s229 => ∀ s45n : St, s45n = upC s229 u216 10 v229 → (Q s45n))))) := by
  refine xl_top hc hj (xl_top hc hj (xl_loaded hA hk hj (fun s0 k0 e60 e70 a0 => xl_unless (fun v s1 k1 s2 e2 => ?_))))
  subst e2
  refine kk _ (stq_tr k0 (stq_tr (stq_kp (e24 k1)) (stq_op hj))) ?_ ?_ (av_up (av_kp a0 (e24 k1)) (by decide))
  · rw [rdC_ne (by omega), k1 7 7 rfl rfl, e70]
    exact hc
  · rw [rdC_ne (by omega), k1 6 3 rfl rfl, e60]
theorem xt_colon {Q : St → Prop} (hc : (w 7 7).toInt = (j : Int) + 2) (hj : j < 498) (hA : AVq w (65 + j) 0 ty h z f x i) (hB : AVq w (65 + (j + 1)) k2 ty2 h2 z2 f2 x2 i2) (hk : 0 ≤ k2 ∧ k2 ≤ 3) (kk : ∀ s, STx j w s → (s 7 7).toInt = (j : Int) + 2 → s 6 3 = w 6 3 → AVq s (65 + j) 0 ty h z f x i → AVq s (65 + (j + 1)) 0 ty2 h2 z2 f2 x2 i2 → Q s) : pk_X2_colon w Q := by
  unfold pk_X2_colon
  refine xl_top (j := j + 1) (by omega) (by omega) (xl_loaded hB hk (by omega) (fun s0 k0 e60 e70 b0 => ?_))
  have a0 : AVq s0 (65 + j) 0 ty h z f x i := av_eq hA (fun m => k0.2 j m (by omega))
  have e : ((s0 7 7) - (2 : Int32)).toInt = j := by rw [e70, sbc (n := 2) (by decide) (by omega) (by omega)]; omega
  refine ⟨fun y => y = 65 + j, fun y _ hy => ?_, False, fun hf => hf.elim, fun d => by rw [e70] at d; omega, fun d => ⟨fun d2 => by rw [e70] at d2; omega, fun _ _ => by rw [show ((s0 7 7) - (2 : Int32)).toNatClampNeg = j from by rw [nt', e]; rfl]⟩⟩
  subst hy
  refine xl_emit (fun v s1 k1 => xl_aim (fun s2 k2' s3 e3 => ?_))
  subst e3
  have kz := e24 (kp_tr k1 k2')
  have b1 := av_kp b0 kz
  refine kk _ (stq_tr (stq_le k0 (by omega)) (stq_tr (stq_kp kz) (stq_op (by omega)))) ?_ ?_ (av_up (av_kp a0 kz) (by decide)) (av_eq b1 (fun m => by rw [rdC_ne (by omega)]))
  · rw [rdC_ne (by omega), (kp_tr k1 k2') 7 7 rfl rfl, e70]
    exact hc
  · rw [rdC_ne (by omega), (kp_tr k1 k2') 6 3 rfl rfl, e60]
theorem xt_choice {Q : St → Prop} (hc : (w 7 7).toInt = (j : Int) + 3) (hj : j < 497) (h0 : (w 6 3).toInt = 0) (hA : AVq w (65 + j) 0 ty h z f x i) (hB : AVq w (65 + (j + 1)) 0 ty2 h2 z2 f2 x2 i2) (hC : AVq w (65 + (j + 2)) k3 ty3 h3 z3 f3 x3 i3) (hk : 0 ≤ k3 ∧ k3 ≤ 3) (hh : 0 ≤ h ∧ h ≤ 100 ∧ 0 ≤ h2 ∧ h2 ≤ 100 ∧ 0 ≤ h3 ∧ h3 ≤ 100)
    (kk : ∀ s, STx j w s → (s 7 7).toInt = (j : Int) + 1 → AVq s (65 + j) 0 (mxq ty2 ty3) (1 + mxq h (mxq h2 h3)) 0 0 0 0 → ((s 6 3).toInt ≠ 0 ↔ chB ty ty2 z2 ty3 z3 ∨ 60 < 1 + mxq h (mxq h2 h3)) → Q s) : pk_X2_choice a w Q := by
  unfold pk_X2_choice
  refine xl_pop (j := j + 2) (by omega) (by omega) hC hk (fun s1 k1 e6 e7 c1 => ?_)
  have b1 : AVq s1 (65 + (j + 1)) 0 ty2 h2 z2 f2 x2 i2 := av_eq hB (fun m => k1.2 (j + 1) m (by omega))
  have a1 : AVq s1 (65 + j) 0 ty h z f x i := av_eq hA (fun m => k1.2 j m (by omega))
  unfold pk_X2_pop
  refine xl_top (j := j + 1) (by omega) (by omega) ?_
  unfold pk_X2_loaded
  refine xl_isPlace b1.1 (fun hp => by omega) (fun _ => ⟨fun _ => ⟨fun d => by omega, fun _ => ?_⟩, fun e => absurd rfl e⟩)
  have kp7 : Kp [(7, 7)] [] s1 (upC s1 7 7 ((s1 7 7) - (1 : Int32))) := kp_f kp_rf rfl
  have e72 : (upC s1 7 7 ((s1 7 7) - (1 : Int32)) 7 7).toInt = (j : Int) + 1 := by rw [rdA_eq rfl, sb1 (by omega), e7]; omega
  generalize upC s1 7 7 ((s1 7 7) - (1 : Int32)) = s2 at kp7 e72
  have kz : Kp [(4, 1), (6, 3), (6, 4), (7, 7)] [24, 43] s1 s2 := kp_sub kp7 rfl rfl
  refine xl_top (j := j) e72 (by omega) (xl_aim (fun s3 k3' => ?_))
  have kz2 := kp_tr kz (e24 k3')
  have a3 := av_kp a1 kz2
  have b3 := av_kp b1 kz2
  have c3 := av_kp c1 kz2
  have e63' : (s3 6 3).toInt = 0 := by rw [k3' 6 3 rfl rfl, kp7 6 3 rfl rfl, e6]; exact h0
  have e73 : (s3 7 7).toInt = (j : Int) + 1 := by rw [k3' 7 7 rfl rfl]; exact e72
  refine ⟨fun s => STx j w s ∧ s 7 7 = s3 7 7 ∧ AVq s (65 + j) 0 ty h z f x i ∧ AVq s (65 + (j + 1)) 0 ty2 h2 z2 f2 x2 i2 ∧ AVq s (65 + (j + 2)) 0 ty3 h3 z3 f3 x3 i3 ∧ ((s 6 3).toInt ≠ 0 ↔ chB ty ty2 z2 ty3 z3), ?_, chB ty ty2 z2 ty3 z3, fun hb => xl_refuse (fun s4 k4 f4 => ⟨stq_tr (stq_le k1 (by omega)) (stq_tr (stq_kp kz2) (stq_kp (e63 k4))), k4 7 7 rfl rfl, av_kp a3 (e63 k4), av_kp b3 (e63 k4), av_kp c3 (e63 k4), ⟨fun _ => hb, fun _ => f4⟩⟩), fun d => Or.inl (by have := a3.2.1; omega), fun d => ?_⟩
  · rintro s4 ⟨k4, e74, a4, b4, c4, f4⟩
    have a4' : AVq s4 (65 + j) 0 ty h z f (s4 (65 + j) 8) i := ⟨a4.1, a4.2.1, a4.2.2.1, a4.2.2.2.1, a4.2.2.2.2.1, fun _ => rfl, a4.2.2.2.2.2.2⟩
    refine xl_become a4' (by omega) (fun hf => absurd hf (by decide)) (fun s5 k5 e65 e75 a5 o5 n5 => ?_)
    have et : (if (s4 (65 + (j + 1)) 1) < (s4 (65 + (j + 2)) 1) then (s4 (65 + (j + 2)) 1) else (s4 (65 + (j + 1)) 1)).toInt = mxq ty2 ty3 := by rw [mx_int, b4.2.1, c4.2.1]
    have eb : (s4 (65 + (j + 1)) 2).toInt = h2 := b4.2.2.1
    have ec : (s4 (65 + (j + 2)) 2).toInt = h3 := c4.2.2.1
    have em2 : (if (s4 (65 + (j + 1)) 2) < (s4 (65 + (j + 2)) 2) then (s4 (65 + (j + 2)) 2) else (s4 (65 + (j + 1)) 2)).toInt = mxq h2 h3 := by rw [mx_int, eb, ec]
    have r1 := mxq_r (h := h2) (h2 := h3) ⟨hh.2.2.1, hh.2.2.2.1⟩ ⟨hh.2.2.2.2.1, hh.2.2.2.2.2⟩
    have r2 := mxq_r (h := h) (h2 := mxq h2 h3) ⟨hh.1, hh.2.1⟩ r1
    have em : (if (s4 (65 + j) 2) < (if (s4 (65 + (j + 1)) 2) < (s4 (65 + (j + 2)) 2) then (s4 (65 + (j + 2)) 2) else (s4 (65 + (j + 1)) 2)) then (if (s4 (65 + (j + 1)) 2) < (s4 (65 + (j + 2)) 2) then (s4 (65 + (j + 2)) 2) else (s4 (65 + (j + 1)) 2)) else (s4 (65 + j) 2)).toInt = mxq h (mxq h2 h3) := by rw [mx_int, em2, a4.2.2.1]
    have e1 : ((1 : Int32) + (if (s4 (65 + j) 2) < (if (s4 (65 + (j + 1)) 2) < (s4 (65 + (j + 2)) 2) then (s4 (65 + (j + 2)) 2) else (s4 (65 + (j + 1)) 2)) then (if (s4 (65 + (j + 1)) 2) < (s4 (65 + (j + 2)) 2) then (s4 (65 + (j + 2)) 2) else (s4 (65 + (j + 1)) 2)) else (s4 (65 + j) 2))).toInt = 1 + mxq h (mxq h2 h3) := by rw [ad (by rw [em, i1]; omega) (by rw [em, i1]; omega), em, i1]
    refine xl_raise a5 (by omega) (fun s7 k7 e77 a7 f7 => kk s7 (stq_tr k4 (stq_tr k5 k7)) ?_ ?_ ?_)
    · rw [e77, e75, e74]
      exact e73
    · rw [e1, et] at a7
      exact ⟨a7.1, a7.2.1, a7.2.2.1, a7.2.2.2.1, a7.2.2.2.2.1, fun hf => absurd hf (by decide), fun hi => absurd hi (by decide)⟩
    · rw [e1, e65] at f7
      rw [f7, f4]
  · have ok : ¬ chB ty ty2 z2 ty3 z3 → STx j w s3 ∧ s3 7 7 = s3 7 7 ∧ AVq s3 (65 + j) 0 ty h z f x i ∧ AVq s3 (65 + (j + 1)) 0 ty2 h2 z2 f2 x2 i2 ∧ AVq s3 (65 + (j + 2)) 0 ty3 h3 z3 f3 x3 i3 ∧ ((s3 6 3).toInt ≠ 0 ↔ chB ty ty2 z2 ty3 z3) := fun hn => ⟨stq_tr (stq_le k1 (by omega)) (stq_kp kz2), rfl, a3, b3, c3, by rw [e63']; exact ⟨fun hx => absurd rfl hx, fun hx => absurd hx hn⟩⟩
    have t1 : ty ≠ -1 := by have := a3.2.1; omega
    refine xl_fits c3.2.1 c3.2.2.2.1 (fun v hv0 hv => ⟨fun d2 => ok (fun hb => ?_), fun d2 => xl_fits b3.2.1 b3.2.2.2.1 (fun v2 hv20 hv2 => ⟨fun d3 => ok (fun hb => ?_), fun d3 => Or.inr (fun hb => ?_)⟩)⟩)
    · have h5 := hv.mp (by omega)
      rw [b3.2.1] at h5
      rcases hb with hb | hb
      · exact t1 hb
      · exact hb (Or.inl h5)
    · have h5 := hv2.mp (by omega)
      rw [c3.2.1] at h5
      rcases hb with hb | hb
      · exact t1 hb
      · exact hb (Or.inr h5)
    · rcases hb with hb | hb
      · rw [← b3.2.1] at hb
        have := hv.mpr hb
        omega
      · rw [← c3.2.1] at hb
        have := hv2.mpr hb
        omega
/-- a call's arguments: parameters of a signature -/
def sgN (sig : Int32) : Int := (ushr sig (24 : Int32)).toInt
def sgT (sig n : Int32) : Int := ((ushr sig ((3 : Int32) * n)) &&& (7 : Int32)).toInt
def agB (sig n : Int32) (ty z : Int) : Prop := sgN sig ≤ n.toInt ∨ ¬ ((ty = sgT sig n ∧ sgT sig n ≠ -1) ∨ (0 < sgT sig n ∧ z ≠ 0))
theorem xt_argument {Q : St → Prop} {n m : Int32} {sig : Int32} (hc : (w 7 7).toInt = (j : Int) + 2) (hj : j < 498) (hA : AVq w (65 + j) 4 ty h z f x i) (hn : w (65 + j) 11 = n) (hm : w (65 + j) 12 = m) (hn9 : 0 ≤ n.toInt ∧ n.toInt ≤ 20000) (hB : AVq w (65 + (j + 1)) k2 ty2 h2 z2 f2 x2 i2) (hk : 0 ≤ k2 ∧ k2 ≤ 3) (hsig : atv 10100 (w 27) (w (65 + j) 4) = sig)
    (kk : ∀ s, STx j w s → (s 7 7).toInt = (j : Int) + 1 → s 6 3 = w 6 3 → AVq s (65 + j) 4 ty (mxq h h2) z f x i → (s (65 + j) 11).toInt = n.toInt + 1 → ((s (65 + j) 12).toInt ≠ 0 ↔ m.toInt ≠ 0 ∨ agB sig n ty2 z2) → Q s) : pk_X2_argument w Q := by
  unfold pk_X2_argument pk_X8_parameters pk_X8_parameter
  refine xl_pop (j := j + 1) (by omega) (by omega) hB hk (fun s1 k1 e6 e7 b1 => xl_top (j := j) e7 (by omega) ?_)
  have a1 : AVq s1 (65 + j) 4 ty h z f x i := av_eq hA (fun m => k1.2 j m (by omega))
  have o1 : ∀ m, s1 (65 + j) m = w (65 + j) m := fun m => k1.2 j m (by omega)
  have e27 : s1 27 = w 27 := ko_rd k1.1 27 (by omega) rfl (fun _ => rfl)
  rw [e27, o1 4, hsig, o1 11, hn]
  refine ⟨fun s => STx j w s ∧ s 7 7 = s1 7 7 ∧ s 6 3 = w 6 3 ∧ AVq s (65 + j) 4 ty h z f x i ∧ s (65 + j) 11 = n ∧ ((s (65 + j) 12).toInt ≠ 0 ↔ m.toInt ≠ 0 ∨ agB sig n ty2 z2) ∧ (s (65 + (j + 1)) 2).toInt = h2, ?_, agB sig n ty2 z2, fun hb => ?_, fun d => Or.inl d, fun d => xl_fits b1.2.1 b1.2.2.2.1 (fun v hv0 hv => ⟨fun d2 => ⟨stq_le k1 (by omega), rfl, e6, a1, by rw [o1 11, hn], ?_, b1.2.2.1⟩, fun d2 => Or.inr (fun hb => ?_)⟩)⟩
  · rintro s2 ⟨k2', e72, e62, a2, n2, m2, hb2⟩
    rintro s4 rfl s6 rfl
    have e11 : (upC s2 (65 + j) 11 ((s2 (65 + j) 11) + (1 : Int32))) (65 + (j + 1)) 2 = s2 (65 + (j + 1)) 2 := by rw [rdC_ne (by omega)]
    have e12 : (upC s2 (65 + j) 11 ((s2 (65 + j) 11) + (1 : Int32))) (65 + j) 2 = s2 (65 + j) 2 := by rw [rdA_ne (by decide)]
    rw [e11, e12]
    obtain ⟨q0, q1, q2, q3, q4, q5, q6⟩ := a2
    refine kk _ (stq_tr k2' (stq_tr (stq_op (by omega)) (stq_op (by omega)))) ?_ ?_ ⟨?_, ?_, ?_, ?_, ?_, fun hf => ?_, fun hi => ?_⟩ ?_ ?_
    · rw [rdC_ne (by omega), rdC_ne (by omega), e72]
      exact e7
    · rw [rdC_ne (by omega), rdC_ne (by omega)]
      exact e62
    · rw [rdA_ne (by decide), rdA_ne (by decide)]
      exact q0
    · rw [rdA_ne (by decide), rdA_ne (by decide)]
      exact q1
    · rw [rdA_eq rfl, mx_int, q2, hb2]
    · rw [rdA_ne (by decide), rdA_ne (by decide)]
      exact q3
    · rw [rdA_ne (by decide), rdA_ne (by decide)]
      exact q4
    · rw [rdA_ne (by decide), rdA_ne (by decide)]
      exact q5 hf
    · rw [rdA_ne (by decide), rdA_ne (by decide)]
      exact q6 hi
    · rw [rdA_ne (by decide), rdA_eq rfl, n2, ad0 i1 (by omega) (by omega)]
    · rw [rdA_ne (by decide), rdA_ne (by decide)]
      exact m2
  · rintro s9 rfl
    refine ⟨stq_tr (stq_le k1 (by omega)) (stq_op (by omega)), ?_, ?_, av_up a1 (by decide), ?_, ?_, ?_⟩
    · rw [rdC_ne (by omega)]
    · rw [rdC_ne (by omega)]
      exact e6
    · rw [rdA_ne (by decide), o1 11, hn]
    · rw [rdA_eq rfl]
      exact ⟨fun _ => Or.inr hb, fun _ => by decide⟩
    · rw [rdC_ne (by omega)]
      exact b1.2.2.1
  · rw [o1 12, hm]
    refine ⟨Or.inl, fun hx => ?_⟩
    rcases hx with hx | hx
    · exact hx
    · have h5 := hv.mp (by omega)
      rcases hx with hx | hx
      · unfold sgN at hx
        omega
      · exact absurd h5 hx
  · have := hv.mpr hb
    omega
theorem xt_call {Q : St → Prop} {n m : Int32} {sig : Int32} (hc : (w 7 7).toInt = (j : Int) + 1) (hj : j < 500) (h0 : (w 6 3).toInt = 0) (hA : AVq w (65 + j) 4 ty h z f x i) (hn : w (65 + j) 11 = n) (hm : w (65 + j) 12 = m) (hsig : atv 10100 (w 27) (w (65 + j) 4) = sig) (hh : 0 ≤ h ∧ h ≤ 100)
    (kk : ∀ s, STx j w s → (s 7 7).toInt = (j : Int) + 1 → AVq s (65 + j) 0 ty (1 + h) 0 0 0 0 → ((s 6 3).toInt ≠ 0 ↔ (m.toInt ≠ 0 ∨ n.toInt ≠ sgN sig) ∨ 60 < 1 + h) → Q s) : pk_X2_call a w Q := by
  unfold pk_X2_call pk_X8_parameters pk_X2_lineOf
  refine xl_top hc hj ?_
  rw [hsig, hn, hm]
  refine ⟨fun s => STx j w s ∧ s 7 7 = w 7 7 ∧ AVq s (65 + j) 4 ty h z f x i ∧ ((s 6 3).toInt ≠ 0 ↔ (m.toInt ≠ 0 ∨ n.toInt ≠ sgN sig)), ?_, m.toInt ≠ 0 ∨ n.toInt ≠ sgN sig, fun hb => xl_refuse (fun s2 k2' f2' => ⟨stq_kp (e63 k2'), k2' 7 7 rfl rfl, av_kp hA (e63 k2'), ⟨fun _ => hb, fun _ => f2'⟩⟩), fun d => Or.inl d, fun d => ⟨fun d2 => ⟨stq_rf, rfl, hA, by rw [h0]; exact ⟨fun hx => absurd rfl hx, fun hx => by rcases hx with hx | hx; exact absurd d hx; exact absurd d2 hx⟩⟩, fun d2 => Or.inr d2⟩⟩
  rintro s1 ⟨k1, e7, a1, f1⟩
  refine xl_emit (fun _ s2 k2' => ?_)
  have a2 := av_kp a1 (e24 k2')
  have a2' : AVq s2 (65 + j) 4 ty h z f (s2 (65 + j) 8) i := ⟨a2.1, a2.2.1, a2.2.2.1, a2.2.2.2.1, a2.2.2.2.2.1, fun _ => rfl, a2.2.2.2.2.2.2⟩
  refine xl_become a2' hj (fun hf => absurd hf (by decide)) (fun s5 k5 e65 e75 a5 o5 n5 => ?_)
  have e1 : ((s5 (65 + j) 2) + (1 : Int32)).toInt = 1 + h := by rw [ad0 i1 (by rw [a5.2.2.1]; omega) (by rw [a5.2.2.1]; omega), a5.2.2.1]; omega
  refine xl_raise a5 hj (fun s7 k7 e77 a7 f7 => kk s7 (stq_tr k1 (stq_tr (stq_kp (e24 k2')) (stq_tr k5 k7))) ?_ ?_ ?_)
  · rw [e77, e75, k2' 7 7 rfl rfl, e7]
    exact hc
  · rw [e1, a2.2.1] at a7
    exact ⟨a7.1, a7.2.1, a7.2.2.1, a7.2.2.2.1, a7.2.2.2.2.1, fun hf => absurd hf (by decide), fun hi => absurd hi (by decide)⟩
  · rw [e1, e65, k2' 6 3 rfl rfl] at f7
    rw [f7, f1]
end XCO
end

section
/-! the steps of expressions: the class's, names and strings -/
/-- a name's token -/
def TNq (w : St) (t : Nat) : Prop := t < 16002 ∧ 0 ≤ (w 15 t).toInt ∧ 0 ≤ (w 14 t).toInt ∧ (w 15 t).toInt + (w 14 t).toInt ≤ 16000
def NMw (w : St) (t u : Nat) : Prop := (w 14 t).toInt = (w 14 u).toInt ∧ ∀ i : Nat, (i : Int) < (w 14 t).toInt → (w 1 ((w 15 t).toInt.toNat + i)).toInt = (w 1 ((w 15 u).toInt.toNat + i)).toInt
/-- the token of the j-th local that is seen; of the i-th name outside of functions -/
def ltk (w : St) (j : Nat) : Nat := (w 40 ((w 44 j).toInt.toNat)).toInt.toNat
def otk (w : St) (i : Nat) : Nat := (w 38 i).toInt.toNat
def LOKq (w : St) (S : Nat) : Prop := (w 6 15).toInt = (S : Int) ∧ S ≤ 100 ∧ ∀ j, j < S → (0 ≤ (w 44 j).toInt ∧ (w 44 j).toInt < 100) ∧ 0 ≤ (w 40 ((w 44 j).toInt.toNat)).toInt ∧ TNq w (ltk w j)
def OOKq (w : St) (n : Nat) : Prop := (w 6 7).toInt = (n : Int) ∧ n ≤ 100 ∧ (n : Int) ≤ (w 5 1).toInt ∧ (w 5 1).toInt ≤ 10100 ∧ ∀ i, i < n → 0 ≤ (w 38 i).toInt ∧ TNq w (otk w i)
def LFq (w : St) (S lo u : Nat) (v : Int) : Prop := (∃ j, lo ≤ j ∧ j < S ∧ NMw w (ltk w j) u ∧ (∀ j', j < j' → j' < S → ¬ NMw w (ltk w j') u) ∧ v = (w 44 j).toInt) ∨ ((∀ j, lo ≤ j → j < S → ¬ NMw w (ltk w j) u) ∧ v = -1)
def OFq (w : St) (n u : Nat) (v : Int) : Prop := (∃ i : Nat, i < n ∧ NMw w (otk w i) u ∧ (∀ i', i' < i → ¬ NMw w (otk w i') u) ∧ v = i) ∨ ((∀ i, i < n → ¬ NMw w (otk w i) u) ∧ v = -1)
def STy (j : Nat) (a b : St) : Prop := Ko [(4, 1), (6, 3), (6, 4), (7, 7)] [24, 43, 25, 39] a b ∧ LOW j a b
def STs (j : Nat) (a b : St) : Prop := Ko [(4, 1), (6, 3), (6, 4), (7, 7), (6, 5), (5, 9)] [24, 43, 17, 31, 32, 33] a b ∧ LOW j a b
section XCP
variable {w s t : St} {j : Nat} {k ty h z f i : Int} {x a b c d : Int32}
theorem sty_of (h : STx j w s) : STy j w s := ⟨ko_sub h.1 rfl rfl, h.2⟩
theorem sts_of (h : STx j w s) : STs j w s := ⟨ko_sub h.1 rfl rfl, h.2⟩
theorem sty_tr (h : STy j w s) (g : STy j s t) : STy j w t := ⟨ko_tr h.1 g.1, low_tr h.2 g.2⟩
theorem sts_tr (h : STs j w s) (g : STs j s t) : STs j w t := ⟨ko_tr h.1 g.1, low_tr h.2 g.2⟩
theorem low_fs {n : Nat} {fs : List (Nat × Nat)} {cs : List Nat} (hk : Kp fs cs w s) (h1 : ∀ c k, 65 ≤ c → fs.contains (c, k) = false) (h2 : ∀ c, 65 ≤ c → cs.contains c = false) : LOW n w s := fun i m _ => hk (65 + i) m (h1 _ _ (by omega)) (h2 _ (by omega))
theorem low25 {n : Nat} (hk : Kp [] [25] w s) : LOW n w s := fun i m _ => hk (65 + i) m rfl (by
  simp only [List.contains_cons, List.contains_nil, Bool.or_false, beq_eq_false_iff_ne, ne_eq]
  omega)
theorem low39 {n : Nat} (hk : Kp [] [39] w s) : LOW n w s := fun i m _ => hk (65 + i) m rfl (by
  simp only [List.contains_cons, List.contains_nil, Bool.or_false, beq_eq_false_iff_ne, ne_eq]
  omega)
theorem xl_sameName {Q : Int32 → Prop} {t u : Nat} (ht : a.toInt = (t : Int)) (hu : b.toInt = (u : Int)) (tn : TNq w t) (un : TNq w u) (kk : ∀ v : Int32, (v.toInt = 0 ∨ v.toInt = 1) → (v.toInt = 1 ↔ NMw w t u) → Q v) : pk_X10_sameName a b w Q := by
  obtain ⟨t1, t2, t3, t4⟩ := tn
  obtain ⟨u1, u2, u3, u4⟩ := un
  have e1 : atv 16002 (w 14) a = w 14 t := atv_at ht t1
  have e2 : atv 16002 (w 14) b = w 14 u := atv_at hu u1
  have e3 : atv 16002 (w 15) a = w 15 t := atv_at ht t1
  have e4 : atv 16002 (w 15) b = w 15 u := atv_at hu u1
  unfold pk_X10_sameName
  rw [e1, e2, e3, e4]
  refine ⟨fun e => ⟨fun y => 0 ≤ y.toInt ∧ y.toInt ≤ (w 14 t).toInt ∧ ∀ i : Nat, (i : Int) < y.toInt → (w 1 ((w 15 t).toInt.toNat + i)).toInt = (w 1 ((w 15 u).toInt.toNat + i)).toInt, ⟨by decide, t3, fun i hi => by rw [i0] at hi; omega⟩, ?_⟩, fun e => kk 0 (Or.inl rfl) ⟨fun hx => absurd hx (by decide), fun hx => absurd hx.1 e⟩⟩
  rintro y ⟨y1, y2, y3⟩
  have a1 : ((w 15 t) + y).toInt = (w 15 t).toInt + y.toInt := ad (by omega) (by omega)
  have a2 : ((w 15 u) + y).toInt = (w 15 u).toInt + y.toInt := ad (by omega) (by omega)
  have n1 : ((w 15 t) + y).toNatClampNeg = (w 15 t).toInt.toNat + y.toInt.toNat := by rw [nt', a1]; omega
  have n2 : ((w 15 u) + y).toNatClampNeg = (w 15 u).toInt.toNat + y.toInt.toNat := by rw [nt', a2]; omega
  rw [n1, n2]
  refine ⟨fun c1 => kk 1 (Or.inr rfl) ⟨fun _ => ⟨e, fun i hi => y3 i (by omega)⟩, fun _ => rfl⟩, fun c1 => ⟨fun c2 => by omega, fun c2 => ⟨fun c3 => by omega, fun c3 _ _ => ⟨fun c4 => ⟨?_, ?_, fun i hi => ?_⟩, fun c4 => kk 0 (Or.inl rfl) ⟨fun hx => absurd hx (by decide), fun hx => absurd (hx.2 y.toInt.toNat (by omega)) c4⟩⟩⟩⟩⟩
  · rw [ad1 (by omega)]
    omega
  · rw [ad1 (by omega)]
    omega
  · rw [ad1 (by omega)] at hi
    by_cases q : (i : Int) = y.toInt
    · have : i = y.toInt.toNat := by omega
      subst this
      exact c4
    · exact y3 i (by omega)
theorem xl_localFrom {Q : Int32 → Prop} {S lo u : Nat} (ha : a.toInt = (lo : Int)) (hu : b.toInt = (u : Int)) (un : TNq w u) (hS : LOKq w S) (kk : ∀ v : Int32, LFq w S lo u v.toInt → Q v) : pk_X11_localFrom a b w Q := by
  obtain ⟨s1, s2, s3⟩ := hS
  unfold pk_X11_localFrom
  have e0 : ((w 6 15) - (1 : Int32)).toInt = (S : Int) - 1 := by rw [sb1 (by omega), s1]
  refine ⟨fun y => -1 ≤ y.toInt ∧ y.toInt < S ∧ ∀ j : Nat, y.toInt < j → j < S → ¬ NMw w (ltk w j) u, ⟨by omega, by omega, fun j h1 h2 => by omega⟩, ?_⟩
  rintro y ⟨y1, y2, y3⟩
  refine ⟨fun c => kk _ (Or.inr ⟨fun j h1 h2 => y3 j (by omega) h2, by decide⟩), fun c => ?_⟩
  obtain ⟨m, hm⟩ : ∃ m : Nat, y.toInt = m := ⟨y.toInt.toNat, by omega⟩
  obtain ⟨⟨r1, r2⟩, r3, r4⟩ := s3 m (by omega)
  have e1 : atv 100 (w 44) y = w 44 m := atv_at hm (by omega)
  have e2 : atv 100 (w 40) (w 44 m) = w 40 ((w 44 m).toInt.toNat) := atv_at (j := (w 44 m).toInt.toNat) (by omega) (by omega)
  rw [e1, e2]
  refine xl_sameName (t := ltk w m) (by unfold ltk; omega) hu r4 un (fun v hv0 hv => ⟨fun c1 => ?_, fun c1 => kk _ (Or.inl ⟨m, by omega, by omega, hv.mp (by omega), fun j' h1 h2 => y3 j' (by omega) h2, rfl⟩)⟩)
  have e3 : (y + (-1)).toInt = y.toInt - 1 := dc1 (by omega)
  refine ⟨?_, ?_, fun j' h1 h2 => ?_⟩
  · rw [e3]
    clear e3
    omega
  · rw [e3]
    clear e3
    omega
  · rw [e3] at h1
    clear e3
    by_cases q : j' = m
    · subst q
      intro hx
      have := hv.mpr hx
      omega
    · exact y3 j' (by omega) h2
theorem xl_outerOf {Q : Int32 → Prop} {n u : Nat} (hu : b.toInt = (u : Int)) (un : TNq w u) (hO : OOKq w n) (kk : ∀ v : Int32, ∀ r, OFq w n u r → ((r < 0 ∧ v.toInt < 0) ∨ (0 ≤ r ∧ v.toInt = (w 5 1).toInt - n + r)) → Q v) : pk_X11_outerOf b w Q := by
  obtain ⟨s1, s2, s3, s4, s5⟩ := hO
  unfold pk_X11_outerOf
  refine ⟨fun y => 0 ≤ y.toInt ∧ y.toInt ≤ n ∧ ∀ i : Nat, (i : Int) < y.toInt → ¬ NMw w (otk w i) u, ⟨by decide, by rw [i0]; omega, fun i h => by rw [i0] at h; omega⟩, ?_⟩
  rintro y ⟨y1, y2, y3⟩
  refine ⟨fun c => kk _ (-1) (Or.inr ⟨fun i hi => y3 i (by omega), rfl⟩) (Or.inl ⟨by omega, by decide⟩), fun c => ?_⟩
  obtain ⟨m, hm⟩ : ∃ m : Nat, y.toInt = m := ⟨y.toInt.toNat, by omega⟩
  obtain ⟨r1, r2⟩ := s5 m (by omega)
  have e1 : atv 100 (w 38) y = w 38 m := atv_at hm (by omega)
  have e2 : ((w 5 1) - (w 6 7)).toInt = (w 5 1).toInt - n := by rw [sb (by omega) (by omega), s1]
  have e3 : (((w 5 1) - (w 6 7)) + y).toInt = (w 5 1).toInt - n + m := by rw [ad (by omega) (by omega), e2, hm]
  rw [e1]
  refine xl_sameName (t := otk w m) (by unfold otk; omega) hu r2 un (fun v hv0 hv => ⟨fun c1 => ⟨by rw [ad1 (by omega)]; omega, by rw [ad1 (by omega)]; omega, fun i hi => ?_⟩, fun c1 => kk _ m (Or.inl ⟨m, by omega, hv.mp (by omega), fun i hi => y3 i (by omega), rfl⟩) (Or.inr ⟨by omega, e3⟩)⟩)
  rw [ad1 (by omega)] at hi
  by_cases q : i = m
  · subst q
    intro hx
    have := hv.mpr hx
    omega
  · exact y3 i (by omega)
theorem xl_is {Q : Int32 → Prop} (kk : ∀ v : Int32, (v.toInt = 0 ∨ v.toInt = 1) → (v.toInt ≠ 0 ↔ ((atv 10100 (w 25) a) &&& b).toInt ≠ 0) → Q v) : pk_X8_is a b w Q := by
  unfold pk_X8_is
  exact ⟨fun c => kk 0 (Or.inl rfl) ⟨fun hx => absurd rfl hx, fun hx => absurd c hx⟩, fun c => kk 1 (Or.inr rfl) ⟨fun _ => c, fun _ => by decide⟩⟩
theorem xl_mark {Q : St → Prop} {dn : Nat} (hd : a.toInt = (dn : Int)) (hdn : dn < 10100) (kk : ∀ s, Kp [] [25] w s → (∀ m, s 25 m = if m = dn then (w 25 dn) ||| b else w 25 m) → Q s) : pk_X8_mark a b w Q := by
  unfold pk_X8_mark
  refine kk _ (kp_F kp_rf rfl) (fun m => ?_)
  rw [rdF_eq, setv_at hd hdn, atv_at hd hdn]
theorem xl_mark0 {Q : St → Prop} (hd : a.toInt < 0) (kk : Q w) : pk_X8_mark a b w Q := by
  unfold pk_X8_mark
  have e : setv 10100 (w 25) a ((atv 10100 (w 25) a) ||| b) = w 25 := setv_out (Or.inl hd)
  rw [e, upF_id]
  exact kk
theorem lf_in {S u v : Nat} (h : LFq w S 0 u (v : Int)) : ∃ j', j' < S ∧ (w 44 j').toInt.toNat = v := by
  rcases h with ⟨j', _, h1, _, _, h2⟩ | ⟨_, h2⟩
  · exact ⟨j', h1, by omega⟩
  · omega
/-- a name: a local, a variable outside of functions, or a fault -/
theorem xt_named {Q : St → Prop} {S n u : Nat} (hc : (w 7 7).toInt = (j : Int)) (hj : j < 500) (h0 : (w 6 3).toInt = 0) (hu : a.toInt = (u : Int)) (un : TNq w u) (hS : LOKq w S) (hO : OOKq w n) (hty : (∀ j', j' < S → -1 ≤ (w 41 ((w 44 j').toInt.toNat)).toInt ∧ (w 41 ((w 44 j').toInt.toNat)).toInt ≤ 9) ∧ (∀ i, i < n → -1 ≤ (w 26 ((w 5 1).toInt.toNat - n + i)).toInt ∧ (w 26 ((w 5 1).toInt.toNat - n + i)).toInt ≤ 9))
    (kl : ∀ s (v : Nat), LFq w S 0 u v → v < 100 → STx j w s → s 6 3 = w 6 3 → (s 7 7).toInt = (j : Int) + 1 → AVq s (65 + j) (if (w 42 v).toInt < 0 then 1 else 0) (if (w 42 v).toInt < 0 then (w 41 v).toInt else (w 41 v).toInt + 1) 1 0 0 0 v → Q s)
    (ko : ∀ s (r : Nat), LFq w S 0 u (-1) → OFq w n u r → ∀ dn : Nat, (dn : Int) = (w 5 1).toInt - n + r → dn < 10100 → ((w 25 dn) &&& (1 : Int32)).toInt = 0 → STy j w s → s 6 3 = w 6 3 → (s 7 7).toInt = (j : Int) + 1 → s 39 = w 39 → (∀ m, s 25 m = if m = dn then (w 25 dn) ||| (8 : Int32) else w 25 m) → AVq s (65 + j) (if (w 27 dn).toInt < 0 then 2 else 0) (if (w 27 dn).toInt < 0 then (w 26 dn).toInt else (w 26 dn).toInt + 1) 1 0 (if (w 27 dn).toInt < 0 then 0 else 2) 0 dn → Q s)
    (kb : ∀ s, (LFq w S 0 u (-1) ∧ (OFq w n u (-1) ∨ ∃ r : Nat, OFq w n u r ∧ ∀ dn : Nat, (dn : Int) = (w 5 1).toInt - n + r → ((w 25 dn) &&& (1 : Int32)).toInt ≠ 0)) → (s 6 3).toInt ≠ 0 → Q s) : pk_X2_named a w Q := by
  unfold pk_X2_named
  refine xl_localFrom (lo := 0) rfl hu un hS (fun lv hlv => ?_)
  have hO' := hO
  obtain ⟨o1, o2, o3, o4, o5⟩ := hO'
  -- what was found
  refine ⟨fun y => (0 ≤ lv.toInt ∧ y.toInt = -1) ∨ (lv.toInt < 0 ∧ ∃ r, OFq w n u r ∧ ((r < 0 ∧ y.toInt < 0) ∨ (0 ≤ r ∧ y.toInt = (w 5 1).toInt - n + r))), ?_, fun c => Or.inl ⟨c, by decide⟩, fun c => xl_outerOf hu un hO (fun v r hr hv => Or.inr ⟨c, r, hr, hv⟩)⟩
  rintro y hy
  have lvr : lv.toInt < 0 → lv.toInt = -1 := fun hx => by
    rcases hlv with ⟨j1, q1, q2, q3, q4, q5⟩ | ⟨q1, q2⟩
    · have := (hS.2.2 j1 q2).1.1
      omega
    · exact q2
  refine ⟨0 ≤ lv.toInt ∨ (lv.toInt < 0 ∧ 0 ≤ y.toInt ∧ ((atv 10100 (w 25) y) &&& (1 : Int32)).toInt = 0), ?_, fun c => Or.inl c, fun c => ⟨y.toInt < 0 ∨ ((atv 10100 (w 25) y) &&& (1 : Int32)).toInt ≠ 0, fun hb => xl_refuse (fun s ks fs => kb s ⟨by rw [← lvr c]; exact hlv, ?_⟩ fs), fun c2 => Or.inl c2, fun c2 => xl_is (fun v hv0 hv => ⟨fun c3 => Or.inr ⟨c, c2, ?_⟩, fun c3 => Or.inr (hv.mp c3)⟩)⟩⟩
  · intro hgood
    refine xl_push hc hj (fun s1 k1 e6 e7 a1 _ => ?_)
    rintro s2 rfl
    have e41 : s1 41 = w 41 := ko_rd k1.1 41 (by omega) rfl (fun _ => rfl)
    have e26 : s1 26 = w 26 := ko_rd k1.1 26 (by omega) rfl (fun _ => rfl)
    have e42 : s1 42 = w 42 := ko_rd k1.1 42 (by omega) rfl (fun _ => rfl)
    have e27 : s1 27 = w 27 := ko_rd k1.1 27 (by omega) rfl (fun _ => rfl)
    have e25 : s1 25 = w 25 := ko_rd k1.1 25 (by omega) rfl (fun _ => rfl)
    have e39 : s1 39 = w 39 := ko_rd k1.1 39 (by omega) rfl (fun _ => rfl)
    by_cases cl : 0 ≤ lv.toInt
    · obtain ⟨v, hv⟩ : ∃ v : Nat, lv.toInt = v := ⟨lv.toInt.toNat, by omega⟩
      have hv9 : v < 100 := by
        rcases hlv with ⟨j1, q1, q2, q3, q4, q5⟩ | ⟨q1, q2⟩
        · have := (hS.2.2 j1 q2).1.2
          omega
        · omega
      have hyn : y.toInt = -1 := by rcases hy with hy | hy <;> omega
      have ei : (if lv < y then y else lv) = lv := if_neg (fun hx => by have := i_lt.mp hx; omega)
      rw [ei]
      refine ⟨fun y1 => y1.toInt = 1, ?_, fun c => by omega, fun _ => by decide⟩
      rintro y1 hy1 s3 rfl
      refine ⟨fun y2 => y2 = w 41 v, ?_, fun c => by omega, fun _ => ?_⟩
      · rintro y2 rfl s4 rfl
        refine xl_mark0 (by omega) ⟨fun c => by omega, fun _ => ?_⟩
        obtain ⟨q0, q1, q2, q3, q4, q5, q6⟩ := a1
        have a4 : AVq (upC (upC (upC s1 (65 + j) 4 lv) (65 + j) 0 y1) (65 + j) 1 (w 41 v)) (65 + j) 1 (w 41 v).toInt 1 0 0 0 v := by
          refine ⟨?_, ?_, ?_, ?_, ?_, fun hf => absurd hf (by decide), fun _ => ?_⟩
          · rw [rdA_ne (by decide), rdA_eq rfl]
            exact hy1
          · rw [rdA_eq rfl]
          · rw [rdA_ne (by decide), rdA_ne (by decide), rdA_ne (by decide)]
            exact q2
          · rw [rdA_ne (by decide), rdA_ne (by decide), rdA_ne (by decide)]
            exact q3
          · rw [rdA_ne (by decide), rdA_ne (by decide), rdA_ne (by decide)]
            exact q4
          · rw [rdA_ne (by decide), rdA_ne (by decide), rdA_eq rfl]
            exact hv
        have k4 : STx j w (upC (upC (upC s1 (65 + j) 4 lv) (65 + j) 0 y1) (65 + j) 1 (w 41 v)) := stq_tr k1 (stq_tr (stq_op hj) (stq_tr (stq_op hj) (stq_op hj)))
        have e4i : upC (upC (upC s1 (65 + j) 4 lv) (65 + j) 0 y1) (65 + j) 1 (w 41 v) (65 + j) 4 = lv := by rw [rdA_ne (by decide), rdA_ne (by decide), rdA_eq rfl]
        have e442 : upC (upC (upC s1 (65 + j) 4 lv) (65 + j) 0 y1) (65 + j) 1 (w 41 v) 42 = w 42 := by rw [rdC_ne (by omega), rdC_ne (by omega), rdC_ne (by omega), e42]
        have e46 : upC (upC (upC s1 (65 + j) 4 lv) (65 + j) 0 y1) (65 + j) 1 (w 41 v) 6 3 = w 6 3 := by rw [rdC_ne (by omega), rdC_ne (by omega), rdC_ne (by omega), e6]
        have e47 : (upC (upC (upC s1 (65 + j) 4 lv) (65 + j) 0 y1) (65 + j) 1 (w 41 v) 7 7).toInt = (j : Int) + 1 := by rw [rdC_ne (by omega), rdC_ne (by omega), rdC_ne (by omega), e7]
        generalize upC (upC (upC s1 (65 + j) 4 lv) (65 + j) 0 y1) (65 + j) 1 (w 41 v) = s4 at a4 k4 e4i e442 e46 e47
        have ea : atv 100 (s4 42) (s4 (65 + j) 4) = w 42 v := by rw [e442, e4i]; exact atv_at hv hv9
        rw [ea]
        refine ⟨fun c => kl s4 v (by rw [← hv]; exact hlv) hv9 k4 e46 e47 ?_, fun c => xl_address a4 hj (by
          obtain ⟨j', j1, j2⟩ := lf_in (v := v) (by rw [← hv]; exact hlv)
          have := hty.1 j' j1
          rw [j2] at this
          omega) (fun s5 k5 e57 e56 a5 => kl s5 v (by rw [← hv]; exact hlv) hv9 (stq_tr k4 k5) (e56.trans e46) (by rw [e57]; exact e47) ?_)⟩
        · rw [if_pos c, if_pos c]
          exact a4
        · rw [if_neg (by omega), if_neg (by omega)]
          exact ⟨a5.1, a5.2.1, a5.2.2.1, a5.2.2.2.1, a5.2.2.2.2.1, fun hf => absurd hf (by decide), fun hi => absurd hi (by decide)⟩
      · have : upC (upC s1 (65 + j) 4 lv) (65 + j) 0 y1 41 = w 41 := by rw [rdC_ne (by omega), rdC_ne (by omega), e41]
        rw [this]
        exact atv_at hv hv9
    · have hg2 : 0 ≤ y.toInt ∧ ((atv 10100 (w 25) y) &&& (1 : Int32)).toInt = 0 := by rcases hgood with h | h; exact absurd h cl; exact h.2
      obtain ⟨r, hr, hrv⟩ : ∃ r, OFq w n u r ∧ 0 ≤ r ∧ y.toInt = (w 5 1).toInt - n + r := by
        rcases hy with hy | ⟨_, r, hr, hv | hv⟩
        · omega
        · omega
        · exact ⟨r, hr, hv⟩
      obtain ⟨rn, hrn⟩ : ∃ rn : Nat, r = rn := ⟨r.toNat, by omega⟩
      subst hrn
      obtain ⟨dn, hdn⟩ : ∃ dn : Nat, y.toInt = dn := ⟨y.toInt.toNat, by omega⟩
      have hrn9 : rn < n := by
        rcases hr with ⟨i', q1, _, _, q2⟩ | ⟨_, q2⟩ <;> omega
      have hdn9 : dn < 10100 := by omega
      have ei : (if lv < y then y else lv) = y := if_pos (i_lt.mpr (by omega))
      rw [ei]
      refine ⟨fun y1 => y1.toInt = 2, ?_, fun c => by decide, fun _ => by omega⟩
      rintro y1 hy1 s3 rfl
      refine ⟨fun y2 => y2 = w 26 dn, ?_, fun _ => ?_, fun c => by omega⟩
      · rintro y2 rfl s4 rfl
        refine xl_mark hdn hdn9 (fun s5 k5 m5 => ⟨fun _ => ?_, fun c => by omega⟩)
        obtain ⟨q0, q1, q2, q3, q4, q5, q6⟩ := a1
        have o5 : ∀ m, s5 (65 + j) m = upC (upC (upC s1 (65 + j) 4 y) (65 + j) 0 y1) (65 + j) 1 (w 26 dn) (65 + j) m := fun m => low25 (n := j + 1) k5 j m (by omega)
        have a5 : AVq s5 (65 + j) 2 (w 26 dn).toInt 1 0 0 0 dn := by
          refine ⟨?_, ?_, ?_, ?_, ?_, fun hf => absurd hf (by decide), fun _ => ?_⟩
          · rw [o5, rdA_ne (by decide), rdA_eq rfl]
            exact hy1
          · rw [o5, rdA_eq rfl]
          · rw [o5, rdA_ne (by decide), rdA_ne (by decide), rdA_ne (by decide)]
            exact q2
          · rw [o5, rdA_ne (by decide), rdA_ne (by decide), rdA_ne (by decide)]
            exact q3
          · rw [o5, rdA_ne (by decide), rdA_ne (by decide), rdA_ne (by decide)]
            exact q4
          · rw [o5, rdA_ne (by decide), rdA_ne (by decide), rdA_eq rfl]
            exact hdn
        have k6 : STy j w s5 := sty_tr (sty_of (stq_tr k1 (stq_tr (stq_op hj) (stq_tr (stq_op hj) (stq_op hj))))) ⟨ko_kp (kp_sub k5 rfl rfl), low25 k5⟩
        have e4i : s5 (65 + j) 4 = y := by rw [o5, rdA_ne (by decide), rdA_ne (by decide), rdA_eq rfl]
        have e527 : s5 27 = w 27 := by rw [show s5 27 = upC (upC (upC s1 (65 + j) 4 y) (65 + j) 0 y1) (65 + j) 1 (w 26 dn) 27 from funext (fun m => k5 27 m rfl rfl), rdC_ne (by omega), rdC_ne (by omega), rdC_ne (by omega), e27]
        have e539 : s5 39 = w 39 := by rw [show s5 39 = upC (upC (upC s1 (65 + j) 4 y) (65 + j) 0 y1) (65 + j) 1 (w 26 dn) 39 from funext (fun m => k5 39 m rfl rfl), rdC_ne (by omega), rdC_ne (by omega), rdC_ne (by omega), e39]
        have m25 : ∀ m, s5 25 m = if m = dn then (w 25 dn) ||| (8 : Int32) else w 25 m := fun m => by
          rw [m5 m]
          have : upC (upC (upC s1 (65 + j) 4 y) (65 + j) 0 y1) (65 + j) 1 (w 26 dn) 25 = w 25 := by rw [rdC_ne (by omega), rdC_ne (by omega), rdC_ne (by omega), e25]
          rw [this]
        have e56 : s5 6 3 = w 6 3 := by rw [k5 6 3 rfl rfl, rdC_ne (by omega), rdC_ne (by omega), rdC_ne (by omega), e6]
        have e57 : (s5 7 7).toInt = (j : Int) + 1 := by rw [k5 7 7 rfl rfl, rdC_ne (by omega), rdC_ne (by omega), rdC_ne (by omega), e7]
        have ea : atv 10100 (s5 27) (s5 (65 + j) 4) = w 27 dn := by rw [e527, e4i]; exact atv_at hdn hdn9
        have hf1 : ((w 25 dn) &&& (1 : Int32)).toInt = 0 := by
          have := hg2.2
          rwa [atv_at hdn hdn9] at this
        have hlm : LFq w S 0 u (-1) := by rw [← lvr (by omega)]; exact hlv
        rw [ea]
        refine ⟨fun c => ko s5 rn hlm hr dn (by omega) hdn9 hf1 k6 e56 e57 e539 m25 ?_, fun c => xl_address a5 hj (by
          have := hty.2 rn hrn9
          rw [show (w 5 1).toInt.toNat - n + rn = dn from by omega] at this
          omega) (fun s7 k7 e77 e76 a7 => ko s7 rn hlm hr dn (by omega) hdn9 hf1 (sty_tr k6 (sty_of k7)) (e76.trans e56) (by rw [e77]; exact e57) ?_ (fun m => ?_) ?_)⟩
        · rw [if_pos c, if_pos c, if_pos c]
          exact a5
        · rw [show s7 39 = s5 39 from ko_rd k7.1 39 (by omega) rfl (fun _ => rfl), e539]
        · rw [show s7 25 = s5 25 from ko_rd k7.1 25 (by omega) rfl (fun _ => rfl), m25]
        · rw [if_neg (by omega), if_neg (by omega), if_neg (by omega)]
          exact ⟨a7.1, a7.2.1, a7.2.2.1, a7.2.2.2.1, a7.2.2.2.2.1, fun hf => absurd hf (by decide), fun hi => absurd hi (by decide)⟩
      · have : upC (upC s1 (65 + j) 4 y) (65 + j) 0 y1 26 = w 26 := by rw [rdC_ne (by omega), rdC_ne (by omega), e26]
        rw [this]
        exact atv_at hdn hdn9
  · rcases hy with hy | ⟨_, r, hr, hv⟩
    · omega
    · rcases hv with hv | hv
      · left
        have : r = -1 := by
          rcases hr with ⟨i', _, _, _, q2⟩ | ⟨_, q2⟩ <;> omega
        rw [← this]
        exact hr
      · right
        have hb2 : ((atv 10100 (w 25) y) &&& (1 : Int32)).toInt ≠ 0 := by
          rcases hb with hb | hb
          · have hr9 : r < n := by
              rcases hr with ⟨i', q1, _, _, q2⟩ | ⟨_, q2⟩ <;> omega
            omega
          · exact hb
        obtain ⟨rn, hrn⟩ : ∃ rn : Nat, r = rn := ⟨r.toNat, by omega⟩
        subst hrn
        have hr9 : rn < n := by
          rcases hr with ⟨i', q1, _, _, q2⟩ | ⟨_, q2⟩ <;> omega
        refine ⟨rn, hr, fun dn hdn => ?_⟩
        rwa [atv_at (j := dn) (by omega) (by omega)] at hb2
  · by_cases q : ((atv 10100 (w 25) y) &&& (1 : Int32)).toInt = 0
    · exact q
    · have := hv.mpr q
      omega
end XCP
end

section
/-! the steps of expressions: the class's, what is called, strings -/
section XCQ
variable {w s t : St} {j : Nat} {k ty h z f i : Int} {x a b c d : Int32}
theorem xt_callee {Q : St → Prop} {S n u : Nat} (hc : (w 7 7).toInt = (j : Int)) (hj : j < 500) (h0 : (w 6 3).toInt = 0) (hu : a.toInt = (u : Int)) (un : TNq w u) (hS : LOKq w S) (hO : OOKq w n)
    (ko : ∀ s (r : Nat), LFq w S 0 u (-1) → OFq w n u r → ∀ dn : Nat, (dn : Int) = (w 5 1).toInt - n + r → dn < 10100 → ((w 25 dn) &&& (1 : Int32)).toInt ≠ 0 → STy j w s → s 6 3 = w 6 3 → (s 7 7).toInt = (j : Int) + 1 → (∀ m, s 39 m = if m = r ∧ (w 39 r).toInt < 0 then a else w 39 m) → (∀ m, s 25 m = if m = dn then (w 25 dn) ||| (8 : Int32) else w 25 m) → AVq s (65 + j) 4 (w 26 dn).toInt 0 0 0 0 dn → (s (65 + j) 11).toInt = 0 ∧ (s (65 + j) 12).toInt = 0 → Q s)
    (kb : ∀ s, (LFq w S 0 u (-1) → (OFq w n u (-1) ∨ ∃ r : Nat, OFq w n u r ∧ ∀ dn : Nat, (dn : Int) = (w 5 1).toInt - n + r → ((w 25 dn) &&& (1 : Int32)).toInt = 0)) → (s 6 3).toInt ≠ 0 → Q s) : pk_X2_callee a w Q := by
  unfold pk_X2_callee
  refine xl_localFrom (lo := 0) rfl hu un hS (fun lv hlv => ?_)
  have hO' := hO
  obtain ⟨o1, o2, o3, o4, o5⟩ := hO'
  have lvr : lv.toInt < 0 → lv.toInt = -1 := fun hx => by
    rcases hlv with ⟨j1, q1, q2, q3, q4, q5⟩ | ⟨q1, q2⟩
    · have := (hS.2.2 j1 q2).1.1
      omega
    · exact q2
  have lvn : 0 ≤ lv.toInt → ¬ LFq w S 0 u (-1) := fun hx hl => by
    rcases hlv with ⟨j1, q1, q2, q3, q4, q5⟩ | ⟨q1, q2⟩
    · rcases hl with ⟨j2, p1, p2, p3, p4, p5⟩ | ⟨p1, p2⟩
      · have := (hS.2.2 j2 p2).1.1
        omega
      · exact p1 j1 q1 q2 q3
    · omega
  refine ⟨fun y => (0 ≤ lv.toInt ∧ y.toInt = -1) ∨ (lv.toInt < 0 ∧ ∃ r, OFq w n u r ∧ ((r < 0 ∧ y.toInt < 0) ∨ (0 ≤ r ∧ y.toInt = (w 5 1).toInt - n + r))), ?_, fun c => Or.inl ⟨c, by decide⟩, fun c => xl_outerOf hu un hO (fun v r hr hv => Or.inr ⟨c, r, hr, hv⟩)⟩
  rintro y hy
  refine ⟨0 ≤ lv.toInt ∨ (lv.toInt < 0 ∧ (y.toInt < 0 ∨ ((atv 10100 (w 25) y) &&& (1 : Int32)).toInt = 0)), fun hb => xl_refuse (fun s ks fs => kb s (fun hl => ?_) fs), fun c => ?_, fun c => xl_is (fun v hv0 hv => ⟨fun c3 => ?_, fun c3 => Or.inr ⟨?_, Or.inr ?_⟩⟩)⟩
  · rcases hb with hb | ⟨hb1, hb⟩
    · exact absurd hl (lvn hb)
    rcases hy with hy | ⟨_, r, hr, hv⟩
    · omega
    · rcases hv with hv | hv
      · left
        have : r = -1 := by
          rcases hr with ⟨i', _, _, _, q2⟩ | ⟨_, q2⟩ <;> omega
        rw [← this]
        exact hr
      · right
        obtain ⟨rn, hrn⟩ : ∃ rn : Nat, r = rn := ⟨r.toNat, by omega⟩
        subst hrn
        have hr9 : rn < n := by
          rcases hr with ⟨i', q1, _, _, q2⟩ | ⟨_, q2⟩ <;> omega
        refine ⟨rn, hr, fun dn hdn => ?_⟩
        rcases hb with hb | hb
        · omega
        · rwa [atv_at (j := dn) (by omega) (by omega)] at hb
  · by_cases q : 0 ≤ lv.toInt
    · exact Or.inl q
    · exact Or.inr ⟨by omega, Or.inl c⟩
  · have cl : lv.toInt < 0 := by rcases hy with hy | hy <;> omega
    obtain ⟨r, hr, hrv⟩ : ∃ r, OFq w n u r ∧ 0 ≤ r ∧ y.toInt = (w 5 1).toInt - n + r := by
      rcases hy with hy | ⟨_, r, hr, hv | hv⟩
      · omega
      · omega
      · exact ⟨r, hr, hv⟩
    obtain ⟨rn, hrn⟩ : ∃ rn : Nat, r = rn := ⟨r.toNat, by omega⟩
    subst hrn
    obtain ⟨dn, hdn⟩ : ∃ dn : Nat, y.toInt = dn := ⟨y.toInt.toNat, by omega⟩
    have hrn9 : rn < n := by
      rcases hr with ⟨i', q1, _, _, q2⟩ | ⟨_, q2⟩ <;> omega
    have hdn9 : dn < 10100 := by omega
    have hfl : ((w 25 dn) &&& (1 : Int32)).toInt ≠ 0 := by
      have := hv.mp c3
      rwa [atv_at hdn hdn9] at this
    unfold pk_X11_mentionCall
    refine xl_mark hdn hdn9 (fun s5 k5 m5 => ?_)
    have e2 : ((w 5 1) - (w 6 7)).toInt = (w 5 1).toInt - n := by rw [sb (by omega) (by omega), o1]
    have e3 : (y - ((w 5 1) - (w 6 7))).toInt = (rn : Int) := by rw [sb (by omega) (by omega), e2]; omega
    have e539 : s5 39 = w 39 := funext (fun m => k5 39 m rfl rfl)
    have ea : atv 100 (s5 39) (y - ((w 5 1) - (w 6 7))) = w 39 rn := by rw [e539]; exact atv_at e3 (by omega)
    rw [ea]
    have fin : ∀ s6, Kp [] [39] s5 s6 → (∀ m, s6 39 m = if m = rn ∧ (w 39 rn).toInt < 0 then a else w 39 m) → pk_X2_push s6 (fun u57 s57 => ∀ s10n : St, s10n = upC s57 u57 0 (4 : Int32) → (∀ s12n : St, s12n = upC s10n u57 4 y → (∀ s14n : St, s14n = upC s12n u57 1 (atv 10100 (s12n 26) y) → (∀ s16n : St, s16n = upC s14n u57 2 (0 : Int32) → (Q s16n))))) := fun s6 k6 m6 => by
      have kk6 : STy j w s6 := sty_tr ⟨ko_kp (kp_sub k5 rfl rfl), low25 k5⟩ ⟨ko_kp (kp_sub k6 rfl rfl), low39 k6⟩
      have e67 : (s6 7 7).toInt = (j : Int) := by rw [k6 7 7 rfl rfl, k5 7 7 rfl rfl]; exact hc
      refine xl_push e67 hj (fun s7 k7 e76 e77 a7 x7 => ?_)
      rintro s8 rfl s9 rfl s10 rfl s11 rfl
      have e26 : upC (upC s7 (65 + j) 0 (4 : Int32)) (65 + j) 4 y 26 = w 26 := by rw [rdC_ne (by omega), rdC_ne (by omega), show s7 26 = s6 26 from ko_rd k7.1 26 (by omega) rfl (fun _ => rfl), show s6 26 = s5 26 from funext (fun m => k6 26 m rfl rfl), show s5 26 = w 26 from funext (fun m => k5 26 m rfl rfl)]
      rw [e26, atv_at hdn hdn9]
      obtain ⟨q0, q1, q2, q3, q4, q5, q6⟩ := a7
      refine ko _ rn (by rw [← lvr cl]; exact hlv) hr dn (by omega) hdn9 hfl (sty_tr kk6 (sty_of (stq_tr k7 (stq_tr (stq_op hj) (stq_tr (stq_op hj) (stq_tr (stq_op hj) (stq_op hj))))))) ?_ ?_ (fun m => ?_) (fun m => ?_) ⟨?_, ?_, ?_, ?_, ?_, fun hf => absurd hf (by decide), fun _ => ?_⟩ ⟨?_, ?_⟩
      · rw [rdC_ne (by omega), rdC_ne (by omega), rdC_ne (by omega), rdC_ne (by omega), e76, k6 6 3 rfl rfl, k5 6 3 rfl rfl]
      · rw [rdC_ne (by omega), rdC_ne (by omega), rdC_ne (by omega), rdC_ne (by omega)]
        exact e77
      · rw [rdC_ne (by omega), rdC_ne (by omega), rdC_ne (by omega), rdC_ne (by omega), show s7 39 = s6 39 from ko_rd k7.1 39 (by omega) rfl (fun _ => rfl)]
        exact m6 m
      · rw [rdC_ne (by omega), rdC_ne (by omega), rdC_ne (by omega), rdC_ne (by omega), show s7 25 = s6 25 from ko_rd k7.1 25 (by omega) rfl (fun _ => rfl), show s6 25 m = s5 25 m from k6 25 m rfl rfl]
        exact m5 m
      · rw [rdA_ne (by decide), rdA_ne (by decide), rdA_ne (by decide), rdA_eq rfl]
        rfl
      · rw [rdA_ne (by decide), rdA_eq rfl]
      · rw [rdA_eq rfl]
        rfl
      · rw [rdA_ne (by decide), rdA_ne (by decide), rdA_ne (by decide), rdA_ne (by decide)]
        exact q3
      · rw [rdA_ne (by decide), rdA_ne (by decide), rdA_ne (by decide), rdA_ne (by decide)]
        exact q4
      · rw [rdA_ne (by decide), rdA_ne (by decide), rdA_eq rfl]
        exact hdn
      · rw [rdA_ne (by decide), rdA_ne (by decide), rdA_ne (by decide), rdA_ne (by decide)]
        exact x7.1
      · rw [rdA_ne (by decide), rdA_ne (by decide), rdA_ne (by decide), rdA_ne (by decide)]
        exact x7.2
    refine ⟨fun c => fin s5 kp_rf (fun m => by rw [e539, if_neg (by omega)]), fun c => fin _ (kp_F kp_rf rfl) (fun m => ?_)⟩
    rw [rdF_eq, e539, setv_at e3 (by omega)]
    dsimp only
    by_cases q : m = rn
    · rw [if_pos q, if_pos ⟨q, c⟩]
    · rw [if_neg q, if_neg (fun hx => q hx.1)]
  · rcases hy with hy | hy
    · omega
    · exact hy.1
  · by_cases q : ((atv 10100 (w 25) y) &&& (1 : Int32)).toInt = 0
    · exact q
    · have := hv.mpr q
      omega
theorem xl_readCodes {Q : Int32 → St → Prop} {u : Nat} (hu : a.toInt = (u : Int)) (hun : u < 16002) (hv : 0 ≤ (w 14 u).toInt ∧ (w 14 u).toInt ≤ 200) (kk : ∀ v s, v = w 14 u → Kp [] [17] w s → Q v s) : pk_X10_readCodes a w Q := by
  have e200 : ((200 : Int32)).toInt = 200 := by decide
  have e1 : atv 16002 (w 14) a = w 14 u := atv_at hu hun
  have e2 : (if (200 : Int32) < (w 14 u) then (200 : Int32) else (w 14 u)) = w 14 u := if_neg (fun hx => by have := i_lt.mp hx; omega)
  unfold pk_X10_readCodes
  rw [e1, e2]
  refine ⟨fun _ _ s => Kp [] [17] w s, kp_rf, fun x y s ks => ⟨fun _ => kk _ s rfl ks, fun _ => ?_⟩⟩
  -- whatever the codes are
  have any1 : ∀ (P : Int32 → Prop) (p q : Int32) (r : St), (∀ v, P v) → pk_X10_byteAt p r P := fun P p q r hp => by
    unfold pk_X10_byteAt
    exact ⟨fun _ => hp _, fun _ => ⟨fun _ => hp _, fun _ => ⟨fun _ => hp _, fun _ _ => hp _⟩⟩⟩
  unfold pk_X10_codeAt pk_X10_widthAt
  refine any1 _ _ 0 _ (fun v => ?_)
  have go : ∀ v45 : Int32, pk_X10_byteAt x (upF s 17 (setv 200 (s 17) y v45)) (fun v2 => (v2.toInt ≠ 92 → (Kp [] [17] w (upF s 17 (setv 200 (s 17) y v45)))) ∧ (v2.toInt = 92 → (Kp [] [17] w (upF s 17 (setv 200 (s 17) y v45))))) := fun v45 => any1 _ _ 0 _ (fun v2 => ⟨fun _ => kp_tr ks (kp_F kp_rf rfl), fun _ => kp_tr ks (kp_F kp_rf rfl)⟩)
  exact ⟨fun _ => any1 _ _ 0 _ (fun v3 => ⟨fun _ => go _, fun _ => ⟨fun _ => go _, fun _ => ⟨fun _ => go _, fun _ => ⟨fun _ => go _, fun _ => ⟨fun _ => go _, fun _ => go _⟩⟩⟩⟩⟩), fun _ => ⟨fun _ => go _, fun _ => ⟨fun _ => go _, fun _ => ⟨fun _ => go _, fun _ => go _⟩⟩⟩⟩
theorem xt_string {Q : St → Prop} {u : Nat} {D : Int} (hc : (w 7 7).toInt = (j : Int)) (hj : j < 500) (h0 : (w 6 3).toInt = 0) (hu : a.toInt = (u : Int)) (hun : u < 16002) (hv : 0 ≤ (w 14 u).toInt ∧ (w 14 u).toInt ≤ 200) (hD : (w 6 5).toInt = D) (hD9 : 0 ≤ D ∧ D ≤ 16000)
    (kk : ∀ s, STs j w s → (s 7 7).toInt = (j : Int) + 1 → (s 6 5).toInt = D + (w 14 u).toInt + 1 → AVq s (65 + j) 0 1 1 0 2 0 0 → ((s 6 3).toInt ≠ 0 ↔ 16000 < D + (w 14 u).toInt + 1) → Q s) : pk_X2_string a w Q := by
  unfold pk_X2_string
  refine xl_readCodes hu hun hv (fun v s1 ev k1 => ?_)
  subst ev
  have e65 : s1 6 5 = w 6 5 := k1 6 5 rfl rfl
  have ev1 : ((w 14 u) + (1 : Int32)).toInt = (w 14 u).toInt + 1 := ad0 i1 (by omega) (by omega)
  have ed : ((s1 6 5) + ((w 14 u) + (1 : Int32))).toInt = D + (w 14 u).toInt + 1 := by rw [ad (by rw [e65, ev1]; omega) (by rw [e65, ev1]; omega), e65, ev1]; omega
  have ed2 : (((s1 6 5) + (w 14 u)) + (1 : Int32)).toInt = D + (w 14 u).toInt + 1 := by
    have q : ((s1 6 5) + (w 14 u)).toInt = D + (w 14 u).toInt := by rw [ad (by rw [e65]; omega) (by rw [e65]; omega), e65]; omega
    rw [ad0 i1 (by omega) (by omega), q]
  have kl : ∀ {r r2 : St}, Kp [(6, 5), (5, 9)] [17, 31, 32, 33] r r2 → STs j r r2 := fun {r r2} hk => ⟨ko_kp (kp_sub hk rfl rfl), fun i' m _ => hk (65 + i') m (by
    simp only [List.contains_cons, List.contains_nil, Bool.or_false, Bool.or_eq_false_iff, beq_eq_false_iff_ne, ne_eq, Prod.mk.injEq, not_and]
    omega) (by
    simp only [List.contains_cons, List.contains_nil, Bool.or_false, Bool.or_eq_false_iff, beq_eq_false_iff_ne, ne_eq]
    omega)⟩
  refine ⟨fun s => STs j w s ∧ (s 7 7).toInt = (j : Int) ∧ s 6 5 = s1 6 5 ∧ ((s 6 3).toInt ≠ 0 ↔ 16000 < D + (w 14 u).toInt + 1), ?_, fun c => ⟨kl (kp_sub k1 rfl rfl), by rw [k1 7 7 rfl rfl]; exact hc, rfl, by rw [k1 6 3 rfl rfl, h0]; exact ⟨fun hx => absurd rfl hx, fun hx => by omega⟩⟩, fun c => xl_fail (by decide) (fun s2 k2 f2 => ⟨sts_tr (kl (kp_sub k1 rfl rfl)) (sts_of (stq_kp (e63 k2))), by rw [k2 7 7 rfl rfl, k1 7 7 rfl rfl]; exact hc, k2 6 5 rfl rfl, ⟨fun _ => by omega, fun _ => f2⟩⟩)⟩
  rintro s2 ⟨k2, e27, e265, f2⟩
  refine ⟨fun _ s => STs j w s ∧ (s 7 7).toInt = (j : Int) ∧ (s 6 5).toInt = D + (w 14 u).toInt + 1 ∧ ((s 6 3).toInt ≠ 0 ↔ 16000 < D + (w 14 u).toInt + 1), ⟨sts_tr k2 (kl (kp_f kp_rf rfl)), by rw [rdC_ne (by decide)]; exact e27, by rw [rdA_eq rfl, e265]; exact ed, by rw [rdA_ne (by decide)]; exact f2⟩, ?_⟩
  rintro x4 s3 ⟨k3, e37, e365, f3⟩
  refine ⟨fun _ => xl_push e37 hj (fun s4 k4 e46 e47 a4 _ => ?_), fun _ => ?_⟩
  · have a4' : AVq s4 (65 + j) 0 0 1 0 0 (s4 (65 + j) 8) 0 := ⟨a4.1, a4.2.1, a4.2.2.1, a4.2.2.2.1, a4.2.2.2.2.1, fun _ => rfl, a4.2.2.2.2.2.2⟩
    refine xl_become a4' hj (fun _ => rfl) (fun s5 k5 e56 e57 a5 o5 n5 => ?_)
    rintro s6 rfl s7 rfl
    refine xl_emit (fun _ s8 k8 => ?_)
    have kz : STx j s3 s8 := stq_tr k4 (stq_tr k5 (stq_tr (stq_op hj) (stq_tr (stq_op hj) (stq_kp (e24 k8)))))
    refine kk s8 (sts_tr k3 (sts_of kz)) ?_ ?_ (av_kp ⟨?_, ?_, ?_, ?_, ?_, fun hf => absurd hf (by decide), fun hi => absurd hi (by decide)⟩ (e24 k8)) ?_
    · rw [k8 7 7 rfl rfl, rdC_ne (by omega), rdC_ne (by omega), e57]
      exact e47
    · rw [show s8 6 5 = s3 6 5 from kz.1 6 5 (op_lt (by decide)) rfl rfl]
      exact e365
    · rw [rdA_ne (by decide), rdA_ne (by decide)]
      exact a5.1
    · rw [rdA_ne (by decide), rdA_ne (by decide)]
      exact a5.2.1
    · rw [rdA_ne (by decide), rdA_ne (by decide)]
      exact a5.2.2.1
    · rw [rdA_ne (by decide), rdA_ne (by decide)]
      exact a5.2.2.2.1
    · rw [rdA_ne (by decide), rdA_ne (by decide)]
      exact a5.2.2.2.2.1
    · rw [k8 6 3 rfl rfl, rdC_ne (by omega), rdC_ne (by omega), e56, e46]
      exact f3
  · unfold pk_X8_addInitial
    have kq : Kp [(5, 9)] [31, 32, 33] s3 (upC (upF (upF (upF s3 31 (setv 65536 (s3 31) (s3 5 9) ((s1 6 5) + x4))) 32 (setv 65536 ((upF s3 31 (setv 65536 (s3 31) (s3 5 9) ((s1 6 5) + x4))) 32) (s3 5 9) ((-2) : Int32))) 33 (setv 65536 ((upF (upF s3 31 (setv 65536 (s3 31) (s3 5 9) ((s1 6 5) + x4))) 32 (setv 65536 ((upF s3 31 (setv 65536 (s3 31) (s3 5 9) ((s1 6 5) + x4))) 32) (s3 5 9) ((-2) : Int32))) 33) (s3 5 9) (atv 200 (s3 17) x4))) 5 9 (if (65536 : Int32) < ((s3 5 9) + (1 : Int32)) then (65536 : Int32) else ((s3 5 9) + (1 : Int32)))) := kp_f (kp_F (kp_F (kp_F kp_rf rfl) rfl) rfl) rfl
    refine ⟨sts_tr k3 (kl (kp_sub kq rfl rfl)), ?_, ?_, ?_⟩
    · rw [kq 7 7 rfl rfl]
      exact e37
    · rw [kq 6 5 rfl rfl]
      exact e365
    · rw [kq 6 3 rfl rfl]
      exact f3
end XCQ
end

