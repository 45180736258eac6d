/-! the steps of expressions: the class's, assignments, places, casts, choices -/
def ivq (sg : Int) (x : Int32) : Int32 := if sg = 44 then -x else if sg = 60 then x ^^^ ((-1) : Int32) else if x.toInt = 0 then 1 else 0
section XCN
variable {w s t : St} {j : Nat} {k ty h z f i k2 ty2 h2 z2 f2 i2 k3 ty3 h3 z3 f3 i3 sg : Int} {x x2 x3 a b c d : Int32}
theorem mxq_r (h1 : 0 ≤ h ∧ h ≤ 100) (h2' : 0 ≤ h2 ∧ h2 ≤ 100) : 0 ≤ mxq h h2 ∧ mxq h h2 ≤ 100 := by unfold mxq; split <;> omega
/-- the height behind two -/
theorem hgt2 {q1 q2 : Nat} (e1 : (w q1 2).toInt = h) (e2 : (w q2 2).toInt = h2) (hh : 0 ≤ h ∧ h ≤ 100 ∧ 0 ≤ h2 ∧ h2 ≤ 100) : ((1 : Int32) + (if (w q1 2) < (w q2 2) then (w q2 2) else (w q1 2))).toInt = 1 + mxq h h2 := by
  have hm := mxq_r (h := h) (h2 := h2) ⟨hh.1, hh.2.1⟩ ⟨hh.2.2.1, hh.2.2.2⟩
  have em : (if (w q1 2) < (w q2 2) then (w q2 2) else (w q1 2)).toInt = mxq h h2 := by rw [mx_int, e1, e2]
  rw [ad (by rw [em, i1]; omega) (by rw [em, i1]; omega), em, i1]
theorem hgt1 {q1 : Nat} (e1 : (w q1 2).toInt = h) (hh : 0 ≤ h ∧ h ≤ 100) : ((1 : Int32) + (w q1 2)).toInt = 1 + h := by
  rw [ad (by rw [e1, i1]; omega) (by rw [e1, i1]; omega), e1, i1]
def asB (sg k ty ty2 z2 : Int) : Prop := ¬ (1 ≤ k ∧ k ≤ 3) ∨ ¬ (if sg = 30 then (ty2 = ty ∧ ty ≠ -1) ∨ (0 < ty ∧ z2 ≠ 0) else ty2 = 0 ∧ (sg = 33 ∨ sg = 34 ∨ ty = 0))
theorem xt_assign {Q : St → Prop} (hc : (w 7 7).toInt = (j : Int) + 2) (hj : j < 498) (h0 : (w 6 3).toInt = 0) (hA : AVq w (65 + j) k ty h z f x i) (hB : AVq w (65 + (j + 1)) k2 ty2 h2 z2 f2 x2 i2) (hk : 0 ≤ k2 ∧ k2 ≤ 3) (hh : 0 ≤ h ∧ h ≤ 100 ∧ 0 ≤ h2 ∧ h2 ≤ 100) (hs : (atv 16002 (w 13) a).toInt = sg)
    (kk : ∀ s, STx j w s → (s 7 7).toInt = (j : Int) + 1 → AVq s (65 + j) 0 ty (1 + mxq h h2) 0 0 0 0 → ((s 6 3).toInt ≠ 0 ↔ asB sg k ty ty2 z2 ∨ 60 < 1 + mxq h h2) → Q s) : pk_X2_assign a w Q := by
  unfold pk_X2_assign pk_X2_kindOf pk_X2_lineOf
  refine xl_pop (j := j + 1) (by omega) (by omega) hB hk (fun s1 k1 e6 e7 b1 => xl_top (j := j) e7 (by omega) ?_)
  have a1 : AVq s1 (65 + j) k ty h z f x i := av_eq hA (fun m => k1.2 j m (by omega))
  refine ⟨fun y => (y.toInt = 1 ↔ sg = 33 ∨ sg = 34) ∧ (y.toInt = 0 ∨ y.toInt = 1), fun y _ hy => ⟨fun y2 => (y2.toInt = 1 ↔ (if sg = 30 then (ty2 = ty ∧ ty ≠ -1) ∨ (0 < ty ∧ z2 ≠ 0) else ty2 = 0 ∧ (sg = 33 ∨ sg = 34 ∨ ty = 0))) ∧ (y2.toInt = 0 ∨ y2.toInt = 1), fun y2 _ hy2 => xl_isPlace a1.1 ?_ ?_, ?_⟩, ?_⟩
  rotate_left 2
  · refine ⟨fun c => ?_, fun c => xl_fits b1.2.1 b1.2.2.2.1 (fun v hv0 hv => ⟨?_, hv0⟩)⟩
    · rw [hs] at c
      refine ⟨ty2 ≠ 0 ∨ (ty ≠ 0 ∧ ¬ (sg = 33 ∨ sg = 34)), fun hj1 => ⟨?_, Or.inl rfl⟩, fun d => Or.inl (by have := b1.2.1; omega), fun d => ⟨sg = 33 ∨ sg = 34 ∨ ty = 0, fun hj1 => ⟨?_, Or.inr rfl⟩, fun e => by omega, fun e => ⟨fun e2 => Or.inr ⟨by have := a1.2.1; omega, by omega⟩, fun e2 => Or.inr (Or.inr (by have := a1.2.1; omega))⟩⟩⟩
      · rw [if_neg c]
        exact ⟨fun hx => absurd hx (by decide), fun hx => by omega⟩
      · rw [if_neg c]
        exact ⟨fun _ => ⟨by have := b1.2.1; omega, hj1⟩, fun _ => rfl⟩
    · rw [hs] at c
      rw [if_pos c, hv, a1.2.1]
  · rw [hs]
    exact ⟨sg = 33 ∨ sg = 34, fun hj1 => ⟨⟨fun _ => hj1, fun _ => rfl⟩, Or.inr rfl⟩, fun c => Or.inl c, fun c => ⟨fun c2 => ⟨⟨fun hx => absurd hx (by decide), fun hx => by omega⟩, Or.inl rfl⟩, fun c2 => Or.inr c2⟩⟩
  all_goals
    intro hpl
    refine ⟨fun s => STx j w s ∧ s 7 7 = s1 7 7 ∧ AVq s (65 + j) k ty h z f x i ∧ AVq s (65 + (j + 1)) 0 ty2 h2 z2 f2 x2 i2 ∧ ((s 6 3).toInt ≠ 0 ↔ asB sg k ty ty2 z2), ?_, ?_⟩
    · rintro s2 ⟨k2', e72, a2, b2, f2'⟩
      refine ⟨fun s => STx j w s ∧ s 7 7 = s1 7 7 ∧ AVq s (65 + j) k ty h z f x i ∧ AVq s (65 + (j + 1)) 0 ty2 h2 z2 f2 x2 i2 ∧ ((s 6 3).toInt ≠ 0 ↔ asB sg k ty ty2 z2), ?_, fun _ => ⟨k2', e72, a2, b2, f2'⟩, fun _ => ?_⟩
      · rintro s3 ⟨k3', e73, a3, b3, f3'⟩
        refine ⟨fun s => STx j w s ∧ s 7 7 = s1 7 7 ∧ AVq s (65 + j) k ty h z f x i ∧ AVq s (65 + (j + 1)) 0 ty2 h2 z2 f2 x2 i2 ∧ ((s 6 3).toInt ≠ 0 ↔ asB sg k ty ty2 z2), ?_, fun _ => ⟨fun _ => True, fun y3 _ => xl_emit (fun _ s4 k4 => ⟨stq_tr k3' (stq_kp (e24 k4)), (k4 7 7 rfl rfl).trans e73, av_kp a3 (e24 k4), av_kp b3 (e24 k4), by rw [k4 6 3 rfl rfl]; exact f3'⟩), fun _ => trivial, fun _ => trivial⟩, fun _ => xl_emit (fun _ s4 k4 => ⟨stq_tr k3' (stq_kp (e24 k4)), (k4 7 7 rfl rfl).trans e73, av_kp a3 (e24 k4), av_kp b3 (e24 k4), by rw [k4 6 3 rfl rfl]; exact f3'⟩)⟩
        rintro s4 ⟨k4', e74, a4, b4, f4'⟩
        have a4' : AVq s4 (65 + j) k ty h z f (s4 (65 + j) 8) i := ⟨a4.1, a4.2.1, a4.2.2.1, a4.2.2.2.1, a4.2.2.2.2.1, fun _ => rfl, a4.2.2.2.2.2.2⟩
        refine xl_become a4' (by omega) (fun hf => absurd hf (by decide)) (fun s5 k5 e65 e75 a5 o5 n5 => ?_)
        have eh2 : (s5 (65 + (j + 1)) 2).toInt = h2 := by
          rw [n5 _ 2 (by omega)]
          exact b4.2.2.1
        have e1 := hgt2 a5.2.2.1 eh2 hh
        refine xl_raise a5 (by omega) (fun s7 k7 e77 a7 f7 => kk s7 (stq_tr k4' (stq_tr k5 k7)) ?_ ?_ ?_)
        · rw [e77, e75, e74]
          exact e7
        · rw [e1, a4.2.1] at a7
          exact ⟨a7.1, a7.2.1, a7.2.2.1, a7.2.2.2.1, a7.2.2.2.2.1, fun hf => absurd hf (by decide), fun hi => absurd hi (by decide)⟩
        · rw [e1, e65] at f7
          rw [f7, f4']
      · exact xl_operate (fun s3 k3' => ⟨stq_tr k2' (stq_kp (e24 k3')), (k3' 7 7 rfl rfl).trans e72, av_kp a2 (e24 k3'), av_kp b2 (e24 k3'), by rw [k3' 6 3 rfl rfl]; exact f2'⟩)
    · have bad : asB sg k ty ty2 z2 → pk_X2_refuse a s1 (fun s96 => STx j w s96 ∧ s96 7 7 = s1 7 7 ∧ AVq s96 (65 + j) k ty h z f x i ∧ AVq s96 (65 + (j + 1)) 0 ty2 h2 z2 f2 x2 i2 ∧ ((s96 6 3).toInt ≠ 0 ↔ asB sg k ty ty2 z2)) := fun hb => xl_refuse (fun s2 k2' f2' => ⟨stq_tr (stq_le k1 (by omega)) (stq_kp (e63 k2')), k2' 7 7 rfl rfl, av_kp a1 (e63 k2'), av_kp b1 (e63 k2'), ⟨fun _ => hb, fun _ => f2'⟩⟩)
      refine ⟨asB sg k ty ty2 z2, bad, fun c => Or.inl ?_, fun c => ⟨fun c2 => ⟨stq_le k1 (by omega), rfl, a1, b1, ?_⟩, fun c2 => Or.inr (fun hq => ?_)⟩⟩
      · first
          | exact hpl
          | exact absurd c (by decide)
      · rw [e6, h0]
        refine ⟨fun hx => absurd rfl hx, fun hx => ?_⟩
        rcases hx with hx | hx
        · first
            | exact absurd hpl hx
            | exact absurd rfl c
        · exact absurd (hy2.1.mp (by omega)) hx
      · have := hy2.1.mpr hq
        omega
theorem kp65 {c m : Nat} (hk : Kp [(6, 3), (6, 4)] [] w s) (hc : 65 ≤ c) : s c m = w c m := by
  have e := (stq_kp (j := c + 1) (e63 hk)).2 (c - 65) m (by omega)
  rwa [show 65 + (c - 65) = c from by omega] at e
/-- a pointer becomes the cell -/
theorem xl_pointed {Q : St → Prop} (hA : AVq w (65 + j) 0 ty h z f x i) (hj : j < 500) (hty : -2 ≤ ty ∧ ty ≤ 100) (kk : ∀ s, STx j w s → s 7 7 = w 7 7 → AVq s (65 + j) 3 (ty - 1) h 0 0 0 (s (65 + j) 4).toInt → (∀ c m, 65 ≤ c → c ≠ 65 + j → s c m = w c m) → ((s 6 3).toInt ≠ 0 ↔ (w 6 3).toInt ≠ 0 ∨ ty < 1) → Q s) : pk_X2_pointed (65 + j) a w Q := by
  unfold pk_X2_pointed
  refine ⟨fun s => STx j w s ∧ s 7 7 = w 7 7 ∧ AVq s (65 + j) 0 ty h z f x i ∧ (∀ c m, 65 ≤ c → c ≠ 65 + j → s c m = w c m) ∧ ((s 6 3).toInt ≠ 0 ↔ (w 6 3).toInt ≠ 0 ∨ ty < 1), ?_, fun c => ⟨stq_rf, rfl, hA, fun _ _ _ _ => rfl, ⟨Or.inl, fun hx => by rcases hx with hx | hx; exact hx; have := hA.2.1; omega⟩⟩, fun c => xl_refuse (fun s2 k2' f2' => ⟨stq_kp (e63 k2'), k2' 7 7 rfl rfl, av_kp hA (e63 k2'), fun c m hc _ => kp65 k2' hc, ⟨fun _ => Or.inr (by have := hA.2.1; omega), fun _ => f2'⟩⟩)⟩
  · rintro s1 ⟨k1, e7, a1, n1, f1⟩
    have a1' : AVq s1 (65 + j) 0 ty h z f (s1 (65 + j) 8) i := ⟨a1.1, a1.2.1, a1.2.2.1, a1.2.2.2.1, a1.2.2.2.2.1, fun _ => rfl, a1.2.2.2.2.2.2⟩
    refine xl_become a1' hj (fun hf => absurd hf (by decide)) (fun s5 k5 e65 e75 a5 o5 n5 => ?_)
    rintro s6 rfl
    unfold pk_X2_lineOf
    rintro s8 rfl
    have et : ((s1 (65 + j) 1) - (1 : Int32)).toInt = ty - 1 := by rw [sbc i1 (by rw [a1.2.1]; omega) (by rw [a1.2.1]; omega), a1.2.1]
    refine kk _ (stq_tr k1 (stq_tr k5 (stq_tr (stq_op hj) (stq_op hj)))) ?_ ⟨?_, ?_, ?_, ?_, ?_, fun hf => absurd hf (by decide), fun _ => rfl⟩ (fun c m hc hcm => ?_) ?_
    · rw [rdC_ne (by omega), rdC_ne (by omega), e75]
      exact e7
    · rw [rdA_ne (by decide), rdA_eq rfl]
      rfl
    · rw [rdA_ne (by decide), rdA_ne (by decide), a5.2.1]
      exact et
    · rw [rdA_ne (by decide), rdA_ne (by decide)]
      exact a5.2.2.1
    · rw [rdA_ne (by decide), rdA_ne (by decide)]
      exact a5.2.2.2.1
    · rw [rdA_ne (by decide), rdA_ne (by decide)]
      exact a5.2.2.2.2.1
    · rw [rdC_ne hcm, rdC_ne hcm, n5 c m hcm]
      exact n1 c m hc hcm
    · rw [rdC_ne (by omega), rdC_ne (by omega), e65]
      exact f1
theorem xt_index {Q : St → Prop} (hc : (w 7 7).toInt = (j : Int) + 2) (hj : j < 498) (h0 : (w 6 3).toInt = 0) (hA : AVq w (65 + j) 0 ty h z f x i) (hB : AVq w (65 + (j + 1)) k2 ty2 h2 z2 f2 x2 i2) (hk : 0 ≤ k2 ∧ k2 ≤ 3) (hty : -2 ≤ ty ∧ ty ≤ 100) (hh : 0 ≤ h ∧ h ≤ 100 ∧ 0 ≤ h2 ∧ h2 ≤ 100)
    (kk : ∀ s, STx j w s → (s 7 7).toInt = (j : Int) + 1 → AVq s (65 + j) 3 (ty - 1) (1 + mxq h h2) 0 0 0 (s (65 + j) 4).toInt → ((s 6 3).toInt ≠ 0 ↔ (ty2 ≠ 0 ∨ ty < 1) ∨ 60 < 1 + mxq h h2) → Q s) : pk_X2_index a w Q := by
  unfold pk_X2_index
  refine xl_pop (j := j + 1) (by omega) (by omega) hB hk (fun s1 k1 e6 e7 b1 => xl_top (j := j) e7 (by omega) ?_)
  have a1 : AVq s1 (65 + j) 0 ty h z f x i := av_eq hA (fun m => k1.2 j m (by omega))
  refine ⟨fun s => STx j w s ∧ s 7 7 = s1 7 7 ∧ AVq s (65 + j) 0 ty h z f x i ∧ AVq s (65 + (j + 1)) 0 ty2 h2 z2 f2 x2 i2 ∧ ((s 6 3).toInt ≠ 0 ↔ ty2 ≠ 0), ?_, fun c => ⟨stq_le k1 (by omega), rfl, a1, b1, by rw [e6, h0]; exact ⟨fun hx => absurd rfl hx, fun hx => by have := b1.2.1; omega⟩⟩, fun c => xl_refuse (fun s2 k2' f2' => ⟨stq_tr (stq_le k1 (by omega)) (stq_kp (e63 k2')), k2' 7 7 rfl rfl, av_kp a1 (e63 k2'), av_kp b1 (e63 k2'), ⟨fun _ => by have := b1.2.1; omega, fun _ => f2'⟩⟩)⟩
  rintro s2 ⟨k2', e72, a2, b2, f2'⟩
  refine xl_emit (fun _ s3 k3' => xl_pointed (av_kp a2 (e24 k3')) (by omega) hty (fun s4 k4 e74 a4 n4 f4 => ?_))
  have eh2 : (s4 (65 + (j + 1)) 2).toInt = h2 := by
    rw [n4 _ 2 (by omega) (by omega)]
    exact (av_kp b2 (e24 k3')).2.2.1
  have e1 := hgt2 a4.2.2.1 eh2 hh
  refine xl_raise a4 (by omega) (fun s7 k7 e77 a7 f7 => kk s7 (stq_tr k2' (stq_tr (stq_kp (e24 k3')) (stq_tr k4 k7))) ?_ ?_ ?_)
  · rw [e77, e74, k3' 7 7 rfl rfl, e72]
    exact e7
  · rw [e1] at a7
    exact ⟨a7.1, a7.2.1, a7.2.2.1, a7.2.2.2.1, a7.2.2.2.2.1, fun hf => absurd hf (by decide), fun _ => rfl⟩
  · rw [e1, f4, k3' 6 3 rfl rfl, f2'] at f7
    exact f7
theorem xt_step {Q : St → Prop} (hc : (w 7 7).toInt = (j : Int) + 1) (hj : j < 500) (h0 : (w 6 3).toInt = 0) (hA : AVq w (65 + j) k ty h z f x i) (hh : 0 ≤ h ∧ h ≤ 100)
    (kk : ∀ s, STx j w s → (s 7 7).toInt = (j : Int) + 1 → AVq s (65 + j) 0 ty (1 + h) 0 0 0 0 → ((s 6 3).toInt ≠ 0 ↔ ¬ (1 ≤ k ∧ k ≤ 3) ∨ 60 < 1 + h) → Q s) : pk_X2_step (65 + j) a b w Q := by
  unfold pk_X2_step
  have main : ∀ v1 : Int32, (v1.toInt ≠ 0 ↔ 1 ≤ k ∧ k ≤ 3) → ∃ J12 : St → Prop, (∀ (s12 : St), J12 s12 → (pk_X2_kindOf a s12 (fun v14 => ∃ J27 : Int32 → Prop, (∀ (y0_27 : Int32), J27 y0_27 → (∃ J39 : Int32 → Prop, (∀ (y0_39 : Int32), J39 y0_39 → (∃ J102 : St → Prop, (∀ (s102 : St), J102 s102 → (pk_X6_become (65 + j) (s102 (65 + j) 1) (0 : Int32) s102 (fun s108 => pk_X2_raise (65 + j) ((1 : Int32) + (s108 (65 + j) 2)) a s108 (fun s120 => Q s120)))) ∧ (((s12 (65 + j) 0).toInt ≠ 3 → (∃ J90 : Int32 → Prop, (∀ (y1_90 : Int32), J90 y1_90 → (pk_X0_emit y1_90 (s12 (65 + j) 4) y0_27 y0_39 s12 (fun v98 s98 => J102 s98))) ∧ (((s12 (65 + j) 0).toInt ≠ 1 → (J90 (7 : Int32))) ∧ ((s12 (65 + j) 0).toInt = 1 → (J90 (10 : Int32)))))) ∧ ((s12 (65 + j) 0).toInt = 3 → (pk_X2_lineOf a s12 (fun v57 => pk_X0_emit (20 : Int32) v57 y0_27 y0_39 s12 (fun v64 s64 => J102 s64))))))) ∧ ((b.toInt = 0 → (J39 (0 : Int32))) ∧ (b.toInt ≠ 0 → (J39 y0_27))))) ∧ ((v14.toInt ≠ 61 → (J27 ((-1) : Int32))) ∧ (v14.toInt = 61 → (J27 (1 : Int32))))))) ∧ ((v1.toInt ≠ 0 → (J12 w)) ∧ (v1.toInt = 0 → (pk_X2_refuse a w (fun s9 => J12 s9)))) := by
    intro v1 hv1
    refine ⟨fun s => STx j w s ∧ s 7 7 = w 7 7 ∧ AVq s (65 + j) k ty h z f x i ∧ ((s 6 3).toInt ≠ 0 ↔ ¬ (1 ≤ k ∧ k ≤ 3)), ?_, fun c => ⟨stq_rf, rfl, hA, by rw [h0]; exact ⟨fun hx => absurd rfl hx, fun hx => absurd (hv1.mp c) hx⟩⟩, fun c => xl_refuse (fun s2 k2' f2' => ⟨stq_kp (e63 k2'), k2' 7 7 rfl rfl, av_kp hA (e63 k2'), ⟨fun _ hx => absurd c (hv1.mpr hx), fun _ => f2'⟩⟩)⟩
    rintro s1 ⟨k1, e7, a1, f1⟩
    unfold pk_X2_kindOf pk_X2_lineOf
    refine ⟨fun _ => True, fun y _ => ⟨fun _ => True, fun y2 _ => ⟨fun s => STx j w s ∧ s 7 7 = w 7 7 ∧ AVq s (65 + j) k ty h z f x i ∧ ((s 6 3).toInt ≠ 0 ↔ ¬ (1 ≤ k ∧ k ≤ 3)), ?_, fun _ => ⟨fun _ => True, fun y3 _ => xl_emit (fun _ s2 k2' => ⟨stq_tr k1 (stq_kp (e24 k2')), (k2' 7 7 rfl rfl).trans e7, av_kp a1 (e24 k2'), by rw [k2' 6 3 rfl rfl]; exact f1⟩), fun _ => trivial, fun _ => trivial⟩, fun _ => xl_emit (fun _ s2 k2' => ⟨stq_tr k1 (stq_kp (e24 k2')), (k2' 7 7 rfl rfl).trans e7, av_kp a1 (e24 k2'), by rw [k2' 6 3 rfl rfl]; exact f1⟩)⟩, fun _ => trivial, fun _ => trivial⟩, fun _ => trivial, fun _ => trivial⟩
    rintro s4 ⟨k4', e74, a4, f4'⟩
    have a4' : AVq s4 (65 + j) k ty h z f (s4 (65 + j) 8) i := ⟨a4.1, a4.2.1, a4.2.2.1, a4.2.2.2.1, a4.2.2.2.2.1, fun _ => rfl, a4.2.2.2.2.2.2⟩
    refine xl_become a4' hj (fun hf => absurd hf (by decide)) (fun s5 k5 e65 e75 a5 o5 n5 => ?_)
    have e1 := hgt1 a5.2.2.1 hh
    refine xl_raise a5 hj (fun s7 k7 e77 a7 f7 => kk s7 (stq_tr k4' (stq_tr k5 k7)) ?_ ?_ ?_)
    · rw [e77, e75, e74]
      exact hc
    · rw [e1, a4.2.1] at a7
      exact ⟨a7.1, a7.2.1, a7.2.2.1, a7.2.2.2.1, a7.2.2.2.2.1, fun hf => absurd hf (by decide), fun hi => absurd hi (by decide)⟩
    · rw [e1, e65] at f7
      rw [f7, f4']
  exact xl_isPlace hA.1 (fun hp => main 1 ⟨fun _ => hp, fun _ => by decide⟩) (fun hp => main 0 ⟨fun hx => absurd rfl hx, fun hx => absurd hx hp⟩)
theorem xl_inverted {Q : Int32 → Prop} (hs : (sg = 44 ∧ a.toInt = 22) ∨ (sg = 60 ∧ a.toInt = 23) ∨ (sg = 59 ∧ a.toInt = 24)) (kk : Q (ivq sg b)) : pk_X5_inverted a b w Q := by
  unfold ivq at kk
  unfold pk_X5_inverted
  rcases hs with ⟨h1, h2⟩ | ⟨h1, h2⟩ | ⟨h1, h2⟩
  · rw [if_pos h1] at kk
    exact ⟨fun _ => kk, fun n => absurd h2 n⟩
  · rw [if_neg (by omega), if_pos h1] at kk
    exact ⟨fun n => by omega, fun _ => ⟨fun _ => kk, fun n => absurd h2 n⟩⟩
  · rw [if_neg (by omega), if_neg (by omega)] at kk
    refine ⟨fun n => by omega, fun _ => ⟨fun n => by omega, fun _ => ⟨fun _ => ⟨fun e => ?_, fun e => ?_⟩, fun n => absurd h2 n⟩⟩⟩
    · rwa [if_neg e] at kk
    · rwa [if_pos e] at kk
def ivB (sg ty : Int) : Prop := if sg = 59 then ty = -1 else ty ≠ 0
theorem xl_invert {Q : St → Prop} (hA : AVq w (65 + j) 0 ty h z f x i) (hj : j < 500) (h0 : (w 6 3).toInt = 0) (hb : b.toInt = sg) (hs : sg = 44 ∨ sg = 60 ∨ sg = 59)
    (kk : ∀ s, STx j w s → s 7 7 = w 7 7 → AVq s (65 + j) 0 0 h 0 (if f = 1 then 1 else 0) (ivq sg x) 0 → ((s 6 3).toInt ≠ 0 ↔ ivB sg ty) → Q s) : pk_X2_invert (65 + j) b c w Q := by
  unfold pk_X2_invert
  refine ⟨fun s => STx j w s ∧ s 7 7 = w 7 7 ∧ AVq s (65 + j) 0 ty h z f x i ∧ ((s 6 3).toInt ≠ 0 ↔ ivB sg ty), ?_, ivB sg ty, fun hj1 => xl_refuse (fun s2 k2' f2' => ⟨stq_kp (e63 k2'), k2' 7 7 rfl rfl, av_kp hA (e63 k2'), ⟨fun _ => hj1, fun _ => f2'⟩⟩), fun d => ⟨fun e => ⟨stq_rf, rfl, hA, by rw [h0]; exact ⟨fun hx => absurd rfl hx, fun hx => by unfold ivB at hx; rw [if_neg (by omega)] at hx; have := hA.2.1; omega⟩⟩, fun e => by unfold ivB; rw [if_neg (by omega)]; have := hA.2.1; omega⟩, fun d => ⟨fun e => ⟨stq_rf, rfl, hA, by rw [h0]; exact ⟨fun hx => absurd rfl hx, fun hx => by unfold ivB at hx; rw [if_pos (by omega)] at hx; have := hA.2.1; omega⟩⟩, fun e => by unfold ivB; rw [if_pos (by omega)]; have := hA.2.1; omega⟩⟩
  rintro s1 ⟨k1, e7, a1, f1⟩
  refine ⟨fun y => (sg = 44 ∧ y.toInt = 22) ∨ (sg = 60 ∧ y.toInt = 23) ∨ (sg = 59 ∧ y.toInt = 24), fun y hy => xl_emit (fun _ s2 k2' => xl_inverted hy ?_), fun d => ⟨fun e => Or.inl ⟨by omega, by decide⟩, fun e => Or.inr (Or.inl ⟨by omega, by decide⟩)⟩, fun d => Or.inr (Or.inr ⟨by omega, by decide⟩)⟩
  have a2 := av_kp a1 (e24 k2')
  rintro s4 rfl
  have a3 : AVq (upC s2 (65 + j) 8 (ivq sg (s2 (65 + j) 8))) (65 + j) 0 ty h z f (ivq sg x) i := by
    obtain ⟨q0, q1, q2, q3, q4, q5, q6⟩ := a2
    exact ⟨by rw [rdA_ne (by decide)]; exact q0, by rw [rdA_ne (by decide)]; exact q1, by rw [rdA_ne (by decide)]; exact q2, by rw [rdA_ne (by decide)]; exact q3, by rw [rdA_ne (by decide)]; exact q4, fun hf => by rw [rdA_eq rfl, q5 hf], fun hi => absurd hi (by decide)⟩
  have k3 : STx j s2 (upC s2 (65 + j) 8 (ivq sg (s2 (65 + j) 8))) := stq_op hj
  have e37 : upC s2 (65 + j) 8 (ivq sg (s2 (65 + j) 8)) 7 7 = w 7 7 := by rw [rdC_ne (by omega), k2' 7 7 rfl rfl]; exact e7
  have e36 : upC s2 (65 + j) 8 (ivq sg (s2 (65 + j) 8)) 6 3 = s1 6 3 := by rw [rdC_ne (by omega), k2' 6 3 rfl rfl]
  generalize upC s2 (65 + j) 8 (ivq sg (s2 (65 + j) 8)) = s3 at a3 k3 e37 e36
  have fin : ∀ y2 : Int32, y2.toInt = (if f = 1 then 1 else 0) → pk_X6_become (65 + j) (0 : Int32) y2 s3 (fun s95 => pk_X2_fold (65 + j) s95 (fun s100 => Q s100)) := fun y2 hy2 => by
    have a3' : AVq s3 (65 + j) 0 ty h z f (ivq sg x) i := a3
    refine xl_become (x := ivq sg x) a3 hj (fun hf => a3.2.2.2.2.2.1 (by rw [hy2] at hf; by_cases q : f = 1; exact q; rw [if_neg q] at hf; omega)) (fun s5 k5 e65 e75 a5 o5 n5 => xl_fold a5 (fun s6 k6 => kk s6 (stq_tr k1 (stq_tr (stq_kp (e24 k2')) (stq_tr k3 (stq_tr k5 (stq_kp (e24 k6)))))) ?_ ?_ ?_))
    · rw [k6 7 7 rfl rfl, e75]
      exact e37
    · rw [hy2] at a5
      exact av_kp a5 (e24 k6)
    · rw [k6 6 3 rfl rfl, e65, e36]
      exact f1
  have a36 := a3.2.2.2.2.1
  unfold pk_X6_isConstant
  refine ⟨fun d => ⟨fun y2 => y2.toInt = (if f = 1 then 1 else 0), fun y2 _ hy2 => fin y2 hy2, fun _ => by rw [if_neg (by omega)]; rfl, fun e => absurd rfl e⟩, fun d => ⟨fun y2 => y2.toInt = (if f = 1 then 1 else 0), fun y2 _ hy2 => fin y2 hy2, fun e => absurd e (by decide), fun _ => by rw [if_pos (by omega)]; rfl⟩⟩
theorem xl_address {Q : St → Prop} (hA : AVq w (65 + j) k ty h z f x i) (hj : j < 500) (hty : -2 ≤ ty ∧ ty ≤ 100) (kk : ∀ s, STx j w s → s 7 7 = w 7 7 → s 6 3 = w 6 3 → AVq s (65 + j) 0 (ty + 1) h 0 (if k = 2 then 2 else 0) 0 0 → Q s) : pk_X2_address (65 + j) w Q := by
  unfold pk_X2_address
  have fin : ∀ s1, STx j w s1 → s1 7 7 = w 7 7 → s1 6 3 = w 6 3 → AVq s1 (65 + j) k ty h z f x i → ∀ y2 : Int32, y2.toInt = (if k = 2 then 2 else 0) → pk_X6_become (65 + j) ((s1 (65 + j) 1) + (1 : Int32)) y2 s1 (fun s91 => ∀ s4n : St, s4n = upC s91 (65 + j) 7 (s91 (65 + j) 4) → (∀ s6n : St, s6n = upC s4n (65 + j) 8 (0 : Int32) → (Q s6n))) := fun s1 k1 e7 e6 a1 y2 hy2 => by
    have a1' : AVq s1 (65 + j) k ty h z f (s1 (65 + j) 8) i := ⟨a1.1, a1.2.1, a1.2.2.1, a1.2.2.2.1, a1.2.2.2.2.1, fun _ => rfl, a1.2.2.2.2.2.2⟩
    refine xl_become a1' hj (fun _ => rfl) (fun s5 k5 e65 e75 a5 o5 n5 => ?_)
    rintro s6 rfl s8 rfl
    have et : ((s1 (65 + j) 1) + (1 : Int32)).toInt = ty + 1 := by rw [adc i1 (by rw [a1.2.1]; omega) (by rw [a1.2.1]; omega), a1.2.1]
    have nf : (if k = 2 then (2 : Int) else 0) ≠ 1 := by split <;> omega
    refine kk _ (stq_tr k1 (stq_tr k5 (stq_tr (stq_op hj) (stq_op hj)))) ?_ ?_ ⟨?_, ?_, ?_, ?_, ?_, fun hf => absurd hf nf, fun hi => absurd hi (by decide)⟩
    · rw [rdC_ne (by omega), rdC_ne (by omega), e75]
      exact e7
    · rw [rdC_ne (by omega), rdC_ne (by omega), e65]
      exact e6
    · rw [rdA_ne (by decide), rdA_ne (by decide)]
      exact a5.1
    · rw [rdA_ne (by decide), rdA_ne (by decide), a5.2.1]
      exact et
    · rw [rdA_ne (by decide), rdA_ne (by decide)]
      exact a5.2.2.1
    · rw [rdA_ne (by decide), rdA_ne (by decide)]
      exact a5.2.2.2.1
    · rw [rdA_ne (by decide), rdA_ne (by decide), a5.2.2.2.2.1]
      exact hy2
  refine ⟨fun y => y.toInt ≠ 0 ↔ k = 2, fun y _ hy => ⟨fun s => STx j w s ∧ s 7 7 = w 7 7 ∧ s 6 3 = w 6 3 ∧ AVq s (65 + j) k ty h z f x i, ?_, fun d => ⟨fun _ => ⟨stq_rf, rfl, rfl, hA⟩, fun _ => xl_emit (fun _ s1 k1 => ⟨stq_kp (e24 k1), k1 7 7 rfl rfl, k1 6 3 rfl rfl, av_kp hA (e24 k1)⟩)⟩, fun d => ?_⟩, fun d => ⟨fun hx => absurd rfl hx, fun hx => by have := hA.1; omega⟩, fun d => ⟨fun _ => by have := hA.1; omega, fun _ => by decide⟩⟩
  · rintro s1 ⟨k1, e7, e6, a1⟩
    exact ⟨fun y2 => y2.toInt = (if k = 2 then 2 else 0), fun y2 hy2 => fin s1 k1 e7 e6 a1 y2 hy2, fun d => by rw [if_neg (fun hx => hy.mpr hx d)]; rfl, fun d => by rw [if_pos (hy.mp d)]; rfl⟩
  · have k43 : Kp [] [43] w (upF w 43 (setv 100 (w 43) (w (65 + j) 4) (1 : Int32))) := kp_F kp_rf rfl
    refine xl_emit (fun _ s1 k1 => ?_)
    have kz : Kp [(4, 1), (6, 3), (6, 4), (7, 7)] [24, 43] w s1 := kp_tr (kp_sub k43 rfl rfl) (e24 k1)
    exact ⟨stq_kp kz, (kp_tr (kp_sub k43 (fs' := [(4, 1)]) (cs' := [24, 43]) rfl rfl) (kp_sub k1 rfl rfl)) 7 7 rfl rfl, (kp_tr (kp_sub k43 (fs' := [(4, 1)]) (cs' := [24, 43]) rfl rfl) (kp_sub k1 rfl rfl)) 6 3 rfl rfl, av_kp hA kz⟩
end XCN
