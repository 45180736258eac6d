section
/-! the steps of expressions: what the class's do to operands -/
/-- an operand: kind, type, height, zero, form, value, index -/
def AVq (w : St) (q : Nat) (k t h z f : Int) (x : Int32) (i : Int) : Prop := (w q 0).toInt = k ∧ (w q 1).toInt = t ∧ (w q 2).toInt = h ∧ (w q 3).toInt = z ∧ (w q 6).toInt = f ∧ (f = 1 → w q 8 = x) ∧ (1 ≤ k → (w q 4).toInt = i)
/-- what a step leaves: but for code, faults, the count of operands, which locals have cells -/
def STx (j : Nat) (a b : St) : Prop := Ko [(4, 1), (6, 3), (6, 4), (7, 7)] [24, 43] a b ∧ LOW j a b
def tyq (sg ta tb za zb : Int) : Int :=
  if ta = -1 ∨ tb = -1 then -2 else if sg = 57 ∨ sg = 58 then 0
  else if sg = 51 ∨ sg = 52 then (if ta = tb ∨ (0 < tb ∧ za ≠ 0) ∨ (0 < ta ∧ zb ≠ 0) then 0 else -2)
  else if 53 ≤ sg ∧ sg ≤ 56 then (if ta = tb then 0 else -2)
  else if sg = 43 then (if tb = 0 then ta else if ta = 0 then tb else -2)
  else if sg = 44 then (if tb = 0 then ta else if ta = tb then 0 else -2)
  else if ta = 0 ∧ tb = 0 then 0 else -2
def fcq (sg fa fb : Int) (xb : Int32) : Int :=
  if fa = 1 ∧ fb = 1 ∧ sg < 57 ∧ ¬ ((sg = 46 ∨ sg = 47) ∧ xb.toInt = 0) then 1 else if (sg = 43 ∨ sg = 44) ∧ fa = 2 ∧ fb = 1 then 2 else if sg = 43 ∧ fa = 1 ∧ fb = 2 then 2 else 0
/-- of two constants, by a sign -/
def wkq (sg : Int) (a b : Int32) : Int32 :=
  if sg = 41 then a <<< ((b &&& (31 : Int32)) &&& 31) else if sg = 42 then a >>> ((b &&& (31 : Int32)) &&& 31) else if sg = 43 then a + b else if sg = 44 then a - b else if sg = 45 then a * b
  else if sg = 46 then a / b else if sg = 47 then a - a / b * b else if sg = 48 then a &&& b else if sg = 49 then a ||| b else if sg = 50 then a ^^^ b
  else if (sg = 51 ∧ a.toInt = b.toInt) ∨ (sg = 52 ∧ a.toInt ≠ b.toInt) ∨ (sg = 53 ∧ a.toInt < b.toInt) ∨ (sg = 54 ∧ b.toInt < a.toInt) ∨ (sg = 55 ∧ a.toInt ≤ b.toInt) ∨ (sg = 56 ∧ b.toInt ≤ a.toInt) then 1 else 0
def mxq (a b : Int) : Int := if a < b then b else a
section XCL
variable {w s t : St} {q j : Nat} {k ty h z f i : Int} {x a b c d : Int32}
theorem op_in (hj : j < 500) : isOp (65 + j) := Or.inr ⟨by omega, by omega⟩
theorem stq_rf : STx j w w := ⟨ko_rf, low_rf⟩
theorem stq_tr (h : STx j w s) (g : STx j s t) : STx j w t := ⟨ko_tr h.1 g.1, low_tr h.2 g.2⟩
theorem stq_le {j2 : Nat} (h : STx j w s) (hj : j2 ≤ j) : STx j2 w s := ⟨h.1, low_le h.2 hj⟩
theorem stq_kp (h : Kp [(4, 1), (6, 3), (6, 4), (7, 7)] [24, 43] w s) : STx j w s := ⟨ko_kp h, fun i k _ => h (65 + i) k (by
  have : ¬ (65 + i = 4) ∧ ¬ (65 + i = 6) ∧ ¬ (65 + i = 7) := by omega
  simp only [List.contains_cons, List.contains_nil, Bool.or_false, Bool.or_eq_false_iff, beq_eq_false_iff_ne, ne_eq, Prod.mk.injEq, not_and]
  omega) (by
  simp only [List.contains_cons, List.contains_nil, Bool.or_false, Bool.or_eq_false_iff, beq_eq_false_iff_ne, ne_eq]
  omega)⟩
theorem stq_op {k : Nat} {v : Int32} (hj : j < 500) : STx j w (upC w (65 + j) k v) := ⟨ko_op ko_rf (op_in hj), fun i m hi => by rw [rdC_ne (by omega)]⟩
theorem xl_emit {Q : Int32 → St → Prop} (kk : ∀ v s, Kp [(4, 1)] [24] w s → Q v s) : pk_X0_emit a b c d w Q := by
  unfold pk_X0_emit
  refine ⟨fun _ => kk _ _ kp_rf, fun _ => ⟨fun _ => kk _ _ kp_rf, fun _ _ _ _ _ => ⟨fun _ => kk _ _ (kp_f (kp_a (kp_a (kp_a (kp_a kp_rf rfl) rfl) rfl) rfl) rfl), fun _ => ⟨fun _ => kk _ _ (kp_f (kp_a (kp_a (kp_a (kp_a kp_rf rfl) rfl) rfl) rfl) rfl), fun _ _ => kk _ _ (kp_f (kp_a (kp_a (kp_a (kp_a kp_rf rfl) rfl) rfl) rfl) rfl)⟩⟩⟩⟩
theorem xl_cut {Q : St → Prop} (kk : ∀ s, Kp [(4, 1)] [24] w s → Q s) : pk_X0_cut a w Q := kk _ (kp_f kp_rf rfl)
theorem xl_aim {Q : St → Prop} (kk : ∀ s, Kp [(4, 1)] [24] w s → Q s) : pk_X0_aim a b w Q := by
  unfold pk_X0_aim
  refine ⟨fun _ _ s => Kp [(4, 1)] [24] w s, kp_rf, fun x y s ks => ⟨fun _ => kk s ks, fun _ => ⟨fun _ => kk s ks, fun _ => kp_tr ks (kp_F kp_rf rfl)⟩⟩⟩
theorem av_eq (h0 : AVq w q k ty h z f x i) (e : ∀ m, s q m = w q m) : AVq s q k ty h z f x i := by
  unfold AVq
  rw [e 0, e 1, e 2, e 3, e 4, e 6, e 8]
  exact h0
theorem av_kp (h0 : AVq w (65 + j) k ty h z f x i) (e : Kp [(4, 1), (6, 3), (6, 4), (7, 7)] [24, 43] w s) : AVq s (65 + j) k ty h z f x i := av_eq h0 (fun m => (stq_kp (j := j + 1) e).2 j m (by omega))
theorem e24 (h : Kp [(4, 1)] [24] w s) : Kp [(4, 1), (6, 3), (6, 4), (7, 7)] [24, 43] w s := kp_sub h rfl rfl
theorem xl_top {Q : Nat → Prop} (hc : (w 7 7).toInt = (j : Int) + 1) (hj : j < 500) (kk : Q (65 + j)) : pk_X2_top w Q := by
  have e : ((w 7 7) - (1 : Int32)).toInt = j := by rw [sb1 (by omega)]; omega
  unfold pk_X2_top
  refine ⟨fun c => by omega, fun c => ⟨fun c2 => by omega, fun c2 _ => ?_⟩⟩
  rw [show ((w 7 7) - (1 : Int32)).toNatClampNeg = j from by rw [nt', e]; rfl]
  exact kk
theorem xl_isPlace {Q : Int32 → Prop} (hk : (w q 0).toInt = k) (h1 : 1 ≤ k ∧ k ≤ 3 → Q 1) (h0 : ¬ (1 ≤ k ∧ k ≤ 3) → Q 0) : pk_X6_isPlace q w Q := by
  unfold pk_X6_isPlace
  exact ⟨fun c => h1 (by omega), fun c => ⟨fun c => h1 (by omega), fun c => ⟨fun c => h0 (by omega), fun c => h1 (by omega)⟩⟩⟩
/-- reads it: a place becomes a value -/
theorem xl_loaded {Q : Nat → St → Prop} (hA : AVq w (65 + j) k ty h z f x i) (hk : 0 ≤ k ∧ k ≤ 3) (hj : j < 500) (kk : ∀ s, STx j w s → (s 6 3) = w 6 3 → s 7 7 = w 7 7 → AVq s (65 + j) 0 ty h z f x i → Q (65 + j) s) : pk_X2_loaded (65 + j) w Q := by
  have go : ∀ s1 s2, Kp [(4, 1)] [24] w s1 → s2 = upC s1 (65 + j) 0 (0 : Int32) → Q (65 + j) s2 := fun s1 s2 k1 e2 => by
    have k2 : STx j w s2 := by
      rw [e2]
      exact stq_tr (stq_kp (e24 k1)) (stq_op hj)
    have a1 := av_kp hA (e24 k1)
    refine kk s2 k2 ?_ ?_ ?_
    · rw [e2, rdC_ne (by omega)]
      exact k1 6 3 rfl rfl
    · rw [e2, rdC_ne (by omega)]
      exact k1 7 7 rfl rfl
    · obtain ⟨q0, q1, q2, q3, q4, q5, q6⟩ := a1
      rw [e2]
      refine ⟨by rw [rdA_eq rfl]; rfl, by rw [rdA_ne (by decide)]; exact q1, by rw [rdA_ne (by decide)]; exact q2, by rw [rdA_ne (by decide)]; exact q3, by rw [rdA_ne (by decide)]; exact q4, fun hf => by rw [rdA_ne (by decide)]; exact q5 hf, fun h => by omega⟩
  unfold pk_X2_loaded
  refine xl_isPlace hA.1 (fun c => ⟨fun z => absurd z (by decide), fun _ => ⟨fun _ => ⟨fun _ => True, fun y _ => xl_emit (fun v s1 k1 s2 e2 => go s1 s2 k1 e2), fun _ => trivial, fun _ => trivial⟩, fun _ => xl_emit (fun v s1 k1 s2 e2 => go s1 s2 k1 e2)⟩⟩) (fun c => ⟨fun _ => kk w stq_rf rfl rfl ?_, fun z => absurd rfl z⟩)
  have : k = 0 := by omega
  subst this
  exact hA
theorem xl_pop {Q : Nat → St → Prop} (hc : (w 7 7).toInt = (j : Int) + 1) (hj : j < 500) (hA : AVq w (65 + j) k ty h z f x i) (hk : 0 ≤ k ∧ k ≤ 3) (kk : ∀ s, STx j w s → s 6 3 = w 6 3 → (s 7 7).toInt = j → AVq s (65 + j) 0 ty h z f x i → Q (65 + j) s) : pk_X2_pop w Q := by
  unfold pk_X2_pop
  refine xl_top hc hj (xl_loaded hA hk hj (fun s ks e6 e7 a1 => ⟨fun c => by rw [e7] at c; omega, fun c => ?_⟩))
  have k2 : Kp [(7, 7)] [] s (upC s 7 7 ((s 7 7) - (1 : Int32))) := kp_f kp_rf rfl
  have e77 : (upC s 7 7 ((s 7 7) - (1 : Int32)) 7 7).toInt = j := by rw [rdA_eq rfl, sb1 (by omega), e7]; omega
  generalize upC s 7 7 ((s 7 7) - (1 : Int32)) = s2 at k2 e77
  exact kk s2 (stq_tr ks (stq_kp (kp_sub k2 rfl rfl))) ((k2 6 3 rfl rfl).trans e6) e77 (av_kp a1 (kp_sub k2 rfl rfl))
theorem xl_fits {Q : Int32 → Prop} {wt : Int32} (h1 : (w q 1).toInt = ty) (h3 : (w q 3).toInt = z) (kk : ∀ v : Int32, (v.toInt = 0 ∨ v.toInt = 1) → (v.toInt = 1 ↔ (ty = wt.toInt ∧ wt.toInt ≠ -1) ∨ (0 < wt.toInt ∧ z ≠ 0)) → Q v) : pk_X6_fits q wt w Q := by
  unfold pk_X6_fits
  refine ⟨¬ (ty = wt.toInt ∧ wt.toInt ≠ -1), fun hj => ⟨fun c => kk 0 (Or.inl rfl) ⟨fun h => absurd h (by decide), fun h => by omega⟩, fun c => ⟨fun c2 => kk 0 (Or.inl rfl) ⟨fun h => absurd h (by decide), fun h => by omega⟩, fun c2 => kk 1 (Or.inr rfl) ⟨fun _ => Or.inr ⟨c, by omega⟩, fun _ => rfl⟩⟩⟩, fun c h => by omega, fun c => ⟨fun c2 => kk 1 (Or.inr rfl) ⟨fun _ => Or.inl ⟨by omega, c2⟩, fun _ => rfl⟩, fun c2 h => by omega⟩⟩
theorem xl_fail {Q : St → Prop} (ha : a.toInt ≠ 0) (kk : ∀ s, Kp [(6, 3), (6, 4)] [] w s → (s 6 3).toInt ≠ 0 → Q s) : pk_X11_fail a b w Q := by
  unfold pk_X11_fail
  refine ⟨fun c => kk w kp_rf c, fun c => kk _ (kp_f (kp_f kp_rf rfl) rfl) ?_⟩
  rw [rdA_ne (by decide), rdA_eq rfl]
  exact ha
theorem xl_refuse {Q : St → Prop} (kk : ∀ s, Kp [(6, 3), (6, 4)] [] w s → (s 6 3).toInt ≠ 0 → Q s) : pk_X2_refuse a w Q := by
  unfold pk_X2_refuse
  exact xl_fail (by decide) kk
theorem e63 (h : Kp [(6, 3), (6, 4)] [] w s) : Kp [(4, 1), (6, 3), (6, 4), (7, 7)] [24, 43] w s := kp_sub h rfl rfl
/-- its height, told behind all else -/
theorem xl_raise {Q : St → Prop} {h2 : Int32} (hA : AVq w (65 + j) k ty h z f x i) (hj : j < 500) (kk : ∀ s, STx j w s → s 7 7 = w 7 7 → AVq s (65 + j) k ty h2.toInt z f x i → ((s 6 3).toInt ≠ 0 ↔ (w 6 3).toInt ≠ 0 ∨ 60 < h2.toInt) → Q s) : pk_X2_raise (65 + j) h2 b w Q := by
  unfold pk_X2_raise
  rintro s0 rfl
  have a1 : AVq (upC w (65 + j) 2 h2) (65 + j) k ty h2.toInt z f x i := by
    obtain ⟨q0, q1, q2, q3, q4, q5, q6⟩ := hA
    refine ⟨by rw [rdA_ne (by decide)]; exact q0, by rw [rdA_ne (by decide)]; exact q1, by rw [rdA_eq rfl], by rw [rdA_ne (by decide)]; exact q3, by rw [rdA_ne (by decide)]; exact q4, fun hf => by rw [rdA_ne (by decide)]; exact q5 hf, fun hi => by rw [rdA_ne (by decide)]; exact q6 hi⟩
  have e6 : upC w (65 + j) 2 h2 6 3 = w 6 3 := by rw [rdC_ne (by omega)]
  have e7 : upC w (65 + j) 2 h2 7 7 = w 7 7 := by rw [rdC_ne (by omega)]
  have k1 : STx j w (upC w (65 + j) 2 h2) := stq_op hj
  generalize upC w (65 + j) 2 h2 = s at a1 e6 e7 k1
  refine ⟨fun c => kk s k1 e7 a1 (by rw [e6]; exact ⟨Or.inl, fun h => by rcases h with h | h <;> omega⟩), fun c => xl_fail (by decide) (fun s2 k2 f2 => kk s2 (stq_tr k1 (stq_kp (e63 k2))) ((k2 7 7 rfl rfl).trans e7) (av_kp a1 (e63 k2)) ⟨fun _ => Or.inr c, fun _ => f2⟩)⟩
theorem xl_become {Q : St → Prop} {t2 f2 : Int32} (hA : AVq w (65 + j) k ty h z f x i) (hj : j < 500) (hf : f2.toInt = 1 → w (65 + j) 8 = x) (kk : ∀ s, STx j w s → s 6 3 = w 6 3 → s 7 7 = w 7 7 → AVq s (65 + j) 0 t2.toInt h 0 f2.toInt x 0 → (∀ m, m = 2 ∨ 4 ≤ m ∧ m ≠ 6 → s (65 + j) m = w (65 + j) m) → (∀ c m, c ≠ 65 + j → s c m = w c m) → Q s) : pk_X6_become (65 + j) t2 f2 w Q := by
  unfold pk_X6_become
  rintro s0 rfl s2 rfl s4 rfl s6 rfl
  refine kk _ (stq_tr (stq_tr (stq_tr (stq_op hj) (stq_op hj)) (stq_op hj)) (stq_op hj)) ?_ ?_ ?_ (fun m hm => ?_) (fun c m hcm => by rw [rdC_ne hcm, rdC_ne hcm, rdC_ne hcm, rdC_ne hcm])
  · rw [rdC_ne (by omega), rdC_ne (by omega), rdC_ne (by omega), rdC_ne (by omega)]
  · rw [rdC_ne (by omega), rdC_ne (by omega), rdC_ne (by omega), rdC_ne (by omega)]
  · refine ⟨?_, ?_, ?_, ?_, ?_, fun h => ?_, fun h => by omega⟩
    · rw [rdA_ne (by decide), rdA_ne (by decide), rdA_ne (by decide), rdA_eq rfl]
      rfl
    · rw [rdA_ne (by decide), rdA_ne (by decide), rdA_eq rfl]
    · rw [rdA_ne (by decide), rdA_ne (by decide), rdA_ne (by decide), rdA_ne (by decide)]
      exact hA.2.2.1
    · rw [rdA_eq rfl]
      rfl
    · rw [rdA_ne (by decide), rdA_eq rfl]
    · rw [rdA_ne (by decide), rdA_ne (by decide), rdA_ne (by decide), rdA_ne (by decide)]
      exact hf h
  · rw [rdA_ne (by omega), rdA_ne (by omega), rdA_ne (by omega), rdA_ne (by omega)]
theorem xl_fold {Q : St → Prop} (hA : AVq w (65 + j) k ty h z f x i) (kk : ∀ s, Kp [(4, 1)] [24] w s → Q s) : pk_X2_fold (65 + j) w Q := by
  unfold pk_X2_fold
  refine ⟨fun _ => kk w kp_rf, fun _ => ?_⟩
  unfold pk_X6_isConstant
  exact ⟨fun _ => ⟨fun _ => kk w kp_rf, fun z => absurd rfl z⟩, fun _ => ⟨fun z => absurd z (by decide), fun _ => xl_cut (fun s ks => xl_emit (fun _ s2 k2 => kk s2 (kp_tr ks k2)))⟩⟩
theorem xl_operate {Q : St → Prop} (kk : ∀ s, Kp [(4, 1)] [24] w s → Q s) : pk_X2_operate a b c w Q := by
  unfold pk_X2_operate
  exact ⟨fun _ => True, fun y _ _ => ⟨fun _ => True, fun y2 _ => xl_emit (fun _ s ks => kk s ks), fun _ => trivial, fun _ => trivial⟩, True, fun _ => trivial, fun _ => trivial, fun _ => ⟨fun _ => trivial, fun _ => ⟨fun _ => trivial, fun _ => trivial⟩⟩⟩
theorem mx_int {a b : Int32} : (if a < b then b else a).toInt = mxq a.toInt b.toInt := by
  unfold mxq
  by_cases c : a < b
  · rw [if_pos c, if_pos (i_lt.mp c)]
  · rw [if_neg c, if_neg (fun h => c (i_lt.mpr h))]
end XCL
end

section
/-! the steps of expressions: the class's, one by one -/
section XCM
variable {w s t : St} {j : Nat} {k ty h z f i k2 ty2 h2 z2 f2 i2 sg : Int} {x x2 a b c d : Int32}
theorem xl_push {Q : Nat → St → Prop} (hc : (w 7 7).toInt = (j : Int)) (hj : j < 500) (kk : ∀ s, STx j w s → s 6 3 = w 6 3 → (s 7 7).toInt = (j : Int) + 1 → AVq s (65 + j) 0 0 1 0 0 0 0 → (s (65 + j) 11).toInt = 0 ∧ (s (65 + j) 12).toInt = 0 → Q (65 + j) s) : pk_X2_push w Q := by
  unfold pk_X2_push
  refine ⟨fun y => y = 65 + j, fun y _ hy => ?_, False, fun hf => hf.elim, fun c => by omega, fun c => ⟨fun c2 => by omega, fun _ _ => by rw [show (w 7 7).toNatClampNeg = j from by rw [nt', hc]; rfl]⟩⟩
  subst hy
  unfold pk_X6_reset
  rintro s0 rfl s2 rfl s4 rfl s6 rfl s8 rfl s10 rfl s12 rfl s14 rfl s16 rfl s18 rfl s20 rfl s22 rfl s24 rfl
  generalize hv : upC (upC (upC (upC (upC (upC (upC (upC (upC (upC (upC (upC (upC w (65 + j) 0 (0 : Int32)) (65 + j) 1 (0 : Int32)) (65 + j) 2 (1 : Int32)) (65 + j) 3 (0 : Int32)) (65 + j) 4 ((-1) : Int32)) (65 + j) 5 (0 : Int32)) (65 + j) 6 (0 : Int32)) (65 + j) 7 ((-2) : Int32)) (65 + j) 8 (0 : Int32)) (65 + j) 9 (w 4 1)) (65 + j) 10 ((-1) : Int32)) (65 + j) 11 (0 : Int32)) (65 + j) 12 (0 : Int32) = v
  have kv : STx j w v := by
    rw [← hv]
    exact stq_tr (stq_tr (stq_tr (stq_tr (stq_tr (stq_tr (stq_tr (stq_tr (stq_tr (stq_tr (stq_tr (stq_tr (stq_op hj) (stq_op hj)) (stq_op hj)) (stq_op hj)) (stq_op hj)) (stq_op hj)) (stq_op hj)) (stq_op hj)) (stq_op hj)) (stq_op hj)) (stq_op hj)) (stq_op hj)) (stq_op hj)
  have ev : ∀ c m, c ≠ 65 + j → v c m = w c m := fun c m hcm => by
    rw [← hv]
    rw [rdC_ne hcm, rdC_ne hcm, rdC_ne hcm, rdC_ne hcm, rdC_ne hcm, rdC_ne hcm, rdC_ne hcm, rdC_ne hcm, rdC_ne hcm, rdC_ne hcm, rdC_ne hcm, rdC_ne hcm, rdC_ne hcm]
  have r : ∀ m, v (65 + j) m = if m = 12 then 0 else if m = 11 then 0 else if m = 10 then -1 else if m = 9 then w 4 1 else if m = 8 then 0 else if m = 7 then -2 else if m = 6 then 0 else if m = 5 then 0 else if m = 4 then -1 else if m = 3 then 0 else if m = 2 then 1 else if m = 1 then 0 else if m = 0 then 0 else w (65 + j) m := fun m => by
    rw [← hv]
    simp only [rdA]
  have k2 : Kp [(7, 7)] [] v (upC v 7 7 ((v 7 7) + (1 : Int32))) := kp_f kp_rf rfl
  have e77 : (upC v 7 7 ((v 7 7) + (1 : Int32)) 7 7).toInt = (j : Int) + 1 := by rw [rdA_eq rfl, ev 7 7 (by omega), ad0 i1 (by omega) (by omega), hc]
  generalize upC v 7 7 ((v 7 7) + (1 : Int32)) = s at k2 e77
  have es : ∀ m, s (65 + j) m = v (65 + j) m := fun m => (stq_kp (j := j + 1) (kp_sub k2 rfl rfl)).2 j m (by omega)
  refine kk s (stq_tr kv (stq_kp (kp_sub k2 rfl rfl))) ((k2 6 3 rfl rfl).trans (ev 6 3 (by omega))) e77 ⟨?_, ?_, ?_, ?_, ?_, fun h => absurd h (by decide), fun h => absurd h (by decide)⟩ ⟨?_, ?_⟩
  · rw [es, r]; rfl
  · rw [es, r]; rfl
  · rw [es, r]; rfl
  · rw [es, r]; rfl
  · rw [es, r]; rfl
  · rw [es, r]; rfl
  · rw [es, r]; rfl
/-- one field of an operand -/
theorem av_up {m : Nat} {v : Int32} (hA : AVq w (65 + j) k ty h z f x i) (hm : m ≠ 0 ∧ m ≠ 1 ∧ m ≠ 2 ∧ m ≠ 3 ∧ m ≠ 4 ∧ m ≠ 6 ∧ m ≠ 8) : AVq (upC w (65 + j) m v) (65 + j) k ty h z f x i := by
  obtain ⟨q0, q1, q2, q3, q4, q5, q6⟩ := hA
  exact ⟨by rw [rdA_ne (by omega)]; exact q0, by rw [rdA_ne (by omega)]; exact q1, by rw [rdA_ne (by omega)]; exact q2, by rw [rdA_ne (by omega)]; exact q3, by rw [rdA_ne (by omega)]; exact q4, fun hf => by rw [rdA_ne (by omega)]; exact q5 hf, fun hi => by rw [rdA_ne (by omega)]; exact q6 hi⟩
theorem xt_number {Q : St → Prop} {v : Int32} (hc : (w 7 7).toInt = (j : Int)) (hj : j < 500) (hv : atv 16002 (w 14) a = v) (kk : ∀ s, STx j w s → s 6 3 = w 6 3 → (s 7 7).toInt = (j : Int) + 1 → AVq s (65 + j) 0 0 1 (if v.toInt = 0 then 1 else 0) 1 v 0 → Q s) : pk_X2_number a w Q := by
  unfold pk_X2_number
  refine xl_push hc hj (fun s1 k1 e6 e7 hA _ => ?_)
  rintro s2 rfl s3 rfl
  have e14 : s1 14 = w 14 := ko_rd k1.1 14 (by omega) rfl (fun _ => rfl)
  have e14b : upC s1 (65 + j) 6 (1 : Int32) 14 = w 14 := by
    rw [rdC_ne (by omega)]
    exact e14
  rw [e14b, hv]
  obtain ⟨q0, q1, q2, q3, q4, q5, q6⟩ := hA
  have fin : ∀ y : Int32, y.toInt = (if v.toInt = 0 then 1 else 0) → ∀ s6, s6 = upC (upC (upC s1 (65 + j) 6 (1 : Int32)) (65 + j) 8 v) (65 + j) 3 y → pk_X0_emit (1 : Int32) (s6 (65 + j) 8) (0 : Int32) (0 : Int32) s6 (fun v52 s52 => Q s52) := fun y hy s6 h6 => by
    subst h6
    refine xl_emit (fun _ s ks => kk s (stq_tr k1 (stq_tr (stq_op hj) (stq_tr (stq_op hj) (stq_tr (stq_op hj) (stq_kp (e24 ks)))))) ?_ ?_ (av_kp ⟨?_, ?_, ?_, ?_, ?_, fun _ => ?_, fun h => absurd h (by decide)⟩ (e24 ks)))
    · rw [ks 6 3 rfl rfl, rdC_ne (by omega), rdC_ne (by omega), rdC_ne (by omega)]
      exact e6
    · rw [ks 7 7 rfl rfl, rdC_ne (by omega), rdC_ne (by omega), rdC_ne (by omega)]
      exact e7
    · rw [rdA_ne (by decide), rdA_ne (by decide), rdA_ne (by decide)]
      exact q0
    · rw [rdA_ne (by decide), rdA_ne (by decide), rdA_ne (by decide)]
      exact q1
    · rw [rdA_ne (by decide), rdA_ne (by decide), rdA_ne (by decide)]
      exact q2
    · rw [rdA_eq rfl]
      exact hy
    · rw [rdA_ne (by decide), rdA_ne (by decide), rdA_eq rfl]
      rfl
    · rw [rdA_ne (by decide), rdA_eq rfl]
  refine ⟨fun y => y.toInt = (if v.toInt = 0 then 1 else 0), fun y _ hy s6 h6 => fin y hy s6 h6, fun c => ?_, fun c => ?_⟩
  · rw [rdA_eq rfl] at c
    rw [if_neg c]
    rfl
  · rw [rdA_eq rfl] at c
    rw [if_pos c]
    rfl
theorem xl_fetch {Q : St → Prop} {q : Nat} (kk : ∀ s, Kp [(4, 1)] [24] w s → Q s) : pk_X2_fetch q b w Q := by
  unfold pk_X2_fetch
  refine ⟨fun _ => xl_isPlace rfl (fun _ => ⟨fun z => absurd z (by decide), fun _ => ⟨fun _ => True, fun y _ => xl_emit (fun _ s ks => kk s ks), fun _ => trivial, fun _ => trivial⟩⟩) (fun _ => ⟨fun _ => kk w kp_rf, fun z => absurd rfl z⟩), fun _ => xl_emit (fun _ s ks => kk s ks)⟩
theorem xt_left {Q : St → Prop} (hc : (w 7 7).toInt = (j : Int) + 1) (hj : j < 500) (hA : AVq w (65 + j) k ty h z f x i) (hk : 0 ≤ k ∧ k ≤ 3) (hs : (atv 16002 (w 13) a).toInt = sg) (kk : ∀ s, STx j w s → s 6 3 = w 6 3 → (s 7 7).toInt = (j : Int) + 1 → AVq s (65 + j) (if 30 ≤ sg ∧ sg ≤ 40 then k else 0) ty h z f x i → Q s) : pk_X2_left a w Q := by
  unfold pk_X2_left pk_X2_kindOf
  refine xl_top hc hj ⟨fun s => STx j w s ∧ s 6 3 = w 6 3 ∧ (s 7 7).toInt = (j : Int) + 1 ∧ AVq s (65 + j) (if 30 ≤ sg ∧ sg ≤ 40 then k else 0) ty h z f x i, ?_, ?_⟩
  · rintro s ⟨k1, e6, e7, a1⟩
    refine ⟨True, fun _ => ⟨fun _ => True, fun y _ => xl_emit (fun v s1 ks s2 e2 => ?_), fun _ => trivial, fun _ => trivial⟩, fun _ => trivial, fun _ => ⟨fun _ => kk s k1 e6 e7 a1, fun _ => trivial⟩⟩
    subst e2
    refine kk _ (stq_tr k1 (stq_tr (stq_kp (e24 ks)) (stq_op hj))) ?_ ?_ (av_up (av_kp a1 (e24 ks)) (by decide))
    · rw [rdC_ne (by omega), ks 6 3 rfl rfl]
      exact e6
    · rw [rdC_ne (by omega), ks 7 7 rfl rfl]
      exact e7
  · refine ⟨¬ (31 ≤ sg ∧ sg ≤ 40), fun hj1 => ⟨fun c => ⟨stq_rf, rfl, hc, by rw [if_pos (by omega)]; exact hA⟩, fun c => xl_loaded hA hk hj (fun s k1 e6 e7 a1 => ⟨k1, e6, by rw [e7]; exact hc, by rw [if_neg (by omega)]; exact a1⟩)⟩, fun c h => by omega, fun c => ⟨fun c2 h => by omega, fun c2 => ?_⟩⟩
    exact xl_fetch (fun s ks => ⟨stq_kp (e24 ks), ks 6 3 rfl rfl, by rw [ks 7 7 rfl rfl]; exact hc, by rw [if_pos (by omega)]; exact av_kp hA (e24 ks)⟩)
theorem xl_typeOf {Q : Int32 → Prop} {q1 q2 : Nat} (hs : a.toInt = sg) (h1 : (w q1 1).toInt = ty) (h2 : (w q2 1).toInt = ty2) (z1 : (w q1 3).toInt = z) (hz2 : (w q2 3).toInt = z2) (kk : ∀ v : Int32, v.toInt = tyq sg ty ty2 z z2 → Q v) : pk_X2_typeOf a q1 q2 w Q := by
  have m2 : ((-2 : Int32)).toInt = -2 := by decide
  have m0 : ((0 : Int32)).toInt = 0 := by decide
  unfold pk_X2_typeOf
  refine ⟨fun c => kk _ ?_, fun c => ⟨fun c2 => ⟨fun y => (y.toInt = 1 ↔ ty = ty2) ∧ (y.toInt = 0 ∨ y.toInt = 1), fun y _ hy => ⟨¬ (sg = 43 ∨ sg = 44 ∨ (51 ≤ sg ∧ sg ≤ 58)), fun hj => ⟨fun d => kk _ ?_, fun d => ⟨fun d2 => kk _ ?_, fun d2 => kk _ ?_⟩⟩, 53 ≤ sg ∧ sg ≤ 56, fun hj => ⟨fun d => kk _ ?_, fun d => kk _ ?_⟩, sg = 51 ∨ sg = 52, fun hj => xl_fits h1 z1 (fun v hv0 hv => ⟨fun d => kk _ ?_, fun d => xl_fits h2 hz2 (fun v2 hv20 hv2 => ⟨fun d2 => kk _ ?_, fun d2 => kk _ ?_⟩)⟩), ?_⟩, fun d => ⟨⟨fun h => absurd h (by decide), fun h => by omega⟩, Or.inl rfl⟩, fun d => ⟨⟨fun _ => by omega, fun _ => rfl⟩, Or.inr rfl⟩⟩, fun c2 => kk _ ?_⟩⟩
  · unfold tyq
    rw [if_pos (by omega), m2]
  · unfold tyq
    (repeat' split) <;> omega
  · unfold tyq
    (repeat' split) <;> omega
  · unfold tyq
    (repeat' split) <;> omega
  · unfold tyq
    (repeat' split) <;> omega
  · unfold tyq
    (repeat' split) <;> omega
  · unfold tyq
    (repeat' split) <;> omega
  · unfold tyq
    (repeat' split) <;> omega
  · unfold tyq
    (repeat' split) <;> omega
  · have g43 : sg = 43 → ((ty2 ≠ 0 → (ty ≠ 0 → Q (-2)) ∧ (ty = 0 → Q (w q2 1))) ∧ (ty2 = 0 → Q (w q1 1))) := fun hsg => ⟨fun d => ⟨fun d2 => kk _ (by unfold tyq; (repeat' split) <;> omega), fun d2 => kk _ (by unfold tyq; (repeat' split) <;> omega)⟩, fun d => kk _ (by unfold tyq; (repeat' split) <;> omega)⟩
    have g44 : sg = 44 → ((ty2 ≠ 0 → (y.toInt = 0 → Q (-2)) ∧ (y.toInt ≠ 0 → Q 0)) ∧ (ty2 = 0 → Q (w q1 1))) := fun hsg => ⟨fun d => ⟨fun d2 => kk _ (by unfold tyq; (repeat' split) <;> omega), fun d2 => kk _ (by unfold tyq; (repeat' split) <;> omega)⟩, fun d => kk _ (by unfold tyq; (repeat' split) <;> omega)⟩
    have g57 : sg = 57 ∨ sg = 58 → Q 0 := fun hsg => kk _ (by unfold tyq; (repeat' split) <;> omega)
    rw [h1, h2]
    rw [hs]
    refine ⟨fun c => g43 c, fun n1 => ⟨fun c => g44 c, fun n2 => ⟨fun c => by omega, fun n3 => ⟨fun c => by omega, fun n4 => ⟨fun c => by omega, fun n5 => ⟨fun c => by omega, fun n6 => ⟨fun c => by omega, fun n7 => ⟨fun c => by omega, fun n8 => ⟨fun c => by omega, fun n9 => ⟨fun c => by omega, fun n10 => ⟨fun c => by omega, fun n11 => ⟨fun c => by omega, fun n12 => ⟨fun c => by omega, fun n13 => ⟨fun c => by omega, fun n14 => ⟨fun c => g57 (Or.inl c), fun n15 => ⟨fun c => g57 (Or.inr c), fun n16 => by omega⟩⟩⟩⟩⟩⟩⟩⟩⟩⟩⟩⟩⟩⟩⟩⟩
  · unfold tyq
    rw [if_pos (by omega), m2]
theorem xl_compared {Q : Int32 → Prop} (hs : a.toInt = sg) (h5 : 51 ≤ sg ∧ sg ≤ 56) (kk : ∀ v : Int32, (v.toInt = 0 ∨ v.toInt = 1) → (v.toInt = 1 ↔ ((sg = 51 ∧ b.toInt = c.toInt) ∨ (sg = 52 ∧ b.toInt ≠ c.toInt) ∨ (sg = 53 ∧ b.toInt < c.toInt) ∨ (sg = 54 ∧ c.toInt < b.toInt) ∨ (sg = 55 ∧ b.toInt ≤ c.toInt) ∨ (sg = 56 ∧ c.toInt ≤ b.toInt))) → Q v) : pk_X5_compared a b c w Q := by
  have k0 : ¬ ((sg = 51 ∧ b.toInt = c.toInt) ∨ (sg = 52 ∧ b.toInt ≠ c.toInt) ∨ (sg = 53 ∧ b.toInt < c.toInt) ∨ (sg = 54 ∧ c.toInt < b.toInt) ∨ (sg = 55 ∧ b.toInt ≤ c.toInt) ∨ (sg = 56 ∧ c.toInt ≤ b.toInt)) → Q 0 := fun hn => kk 0 (Or.inl rfl) ⟨fun h => absurd h (by decide), fun h => absurd h hn⟩
  have k1 : ((sg = 51 ∧ b.toInt = c.toInt) ∨ (sg = 52 ∧ b.toInt ≠ c.toInt) ∨ (sg = 53 ∧ b.toInt < c.toInt) ∨ (sg = 54 ∧ c.toInt < b.toInt) ∨ (sg = 55 ∧ b.toInt ≤ c.toInt) ∨ (sg = 56 ∧ c.toInt ≤ b.toInt)) → Q 1 := fun hn => kk 1 (Or.inr rfl) ⟨fun _ => hn, fun _ => rfl⟩
  unfold pk_X5_compared
  rw [hs]
  exact ⟨fun e => ⟨fun d => k0 (by omega), fun d => k1 (by omega)⟩, fun n1 => ⟨fun e => ⟨fun d => k0 (by omega), fun d => k1 (by omega)⟩, fun n2 => ⟨fun e => ⟨fun d => k0 (by omega), fun d => k1 (by omega)⟩, fun n3 => ⟨fun e => ⟨fun d => k0 (by omega), fun d => k1 (by omega)⟩, fun n4 => ⟨fun e => ⟨fun d => k0 (by omega), fun d => k1 (by omega)⟩, fun n5 => ⟨fun e => ⟨fun d => k0 (by omega), fun d => k1 (by omega)⟩, fun n6 => by omega⟩⟩⟩⟩⟩⟩
theorem xl_worked {Q : Int32 → Prop} (hs : a.toInt = sg) (hr : 41 ≤ sg ∧ sg ≤ 56) (hq : ¬ ((sg = 46 ∨ sg = 47) ∧ c.toInt = 0)) (kk : Q (wkq sg b c)) : pk_X5_worked a b c w Q := by
  unfold pk_X5_worked
  rw [hs]
  unfold wkq at kk
  by_cases c1 : sg = 41
  · rw [if_pos c1] at kk
    exact ⟨fun _ => kk, fun n => absurd c1 n⟩
  rw [if_neg c1] at kk
  refine ⟨fun e => absurd e c1, fun _ => ?_⟩
  by_cases c2 : sg = 42
  · rw [if_pos c2] at kk
    exact ⟨fun _ => kk, fun n => absurd c2 n⟩
  rw [if_neg c2] at kk
  refine ⟨fun e => absurd e c2, fun _ => ?_⟩
  by_cases c3 : sg = 43
  · rw [if_pos c3] at kk
    exact ⟨fun _ => kk, fun n => absurd c3 n⟩
  rw [if_neg c3] at kk
  refine ⟨fun e => absurd e c3, fun _ => ?_⟩
  by_cases c4 : sg = 44
  · rw [if_pos c4] at kk
    exact ⟨fun _ => kk, fun n => absurd c4 n⟩
  rw [if_neg c4] at kk
  refine ⟨fun e => absurd e c4, fun _ => ?_⟩
  by_cases c5 : sg = 45
  · rw [if_pos c5] at kk
    exact ⟨fun _ => kk, fun n => absurd c5 n⟩
  rw [if_neg c5] at kk
  refine ⟨fun e => absurd e c5, fun _ => ?_⟩
  by_cases c6 : sg = 46
  · rw [if_pos c6] at kk
    exact ⟨fun _ => ⟨fun _ _ => kk, fun d => absurd ⟨Or.inl c6, d⟩ hq⟩, fun n => absurd c6 n⟩
  rw [if_neg c6] at kk
  refine ⟨fun e => absurd e c6, fun _ => ?_⟩
  by_cases c7 : sg = 47
  · rw [if_pos c7] at kk
    exact ⟨fun _ => ⟨fun _ _ => kk, fun d => absurd ⟨Or.inr c7, d⟩ hq⟩, fun n => absurd c7 n⟩
  rw [if_neg c7] at kk
  refine ⟨fun e => absurd e c7, fun _ => ?_⟩
  by_cases c8 : sg = 48
  · rw [if_pos c8] at kk
    exact ⟨fun _ => kk, fun n => absurd c8 n⟩
  rw [if_neg c8] at kk
  refine ⟨fun e => absurd e c8, fun _ => ?_⟩
  by_cases c9 : sg = 49
  · rw [if_pos c9] at kk
    exact ⟨fun _ => kk, fun n => absurd c9 n⟩
  rw [if_neg c9] at kk
  refine ⟨fun e => absurd e c9, fun _ => ?_⟩
  by_cases c10 : sg = 50
  · rw [if_pos c10] at kk
    exact ⟨fun _ => kk, fun n => absurd c10 n⟩
  rw [if_neg c10] at kk
  refine ⟨fun e => absurd e c10, fun _ => xl_compared hs (by omega) (fun v hv0 hv => ⟨fun d => ?_, fun d => ?_⟩)⟩
  · rw [if_neg (fun hh => by have := hv.mpr hh; omega)] at kk
    exact kk
  · rw [if_pos (hv.mp (by omega))] at kk
    exact kk
/-- form and value of two sides -/
theorem xl_combine {Q : St → Prop} (hs : a.toInt = sg) (hr : 41 ≤ sg ∧ sg ≤ 58) (hA : AVq w (65 + j) k ty h z f x i) (hB : (w (65 + (j + 1)) 6).toInt = f2) (hB8 : f2 = 1 → w (65 + (j + 1)) 8 = x2) (hj : j < 500) (kk : ∀ s, STx j w s → (∀ c m, c ≠ 65 + j → s c m = w c m) → AVq s (65 + j) k ty h z (fcq sg f f2 x2) (wkq sg x x2) i → Q s) : pk_X2_combine a (65 + j) (65 + (j + 1)) w Q := by
  obtain ⟨q0, q1, q2, q3, q4, q5, q6⟩ := hA
  -- the form alone
  have go6 : ∀ v : Int32, v.toInt = fcq sg f f2 x2 → v.toInt ≠ 1 → Q (upC w (65 + j) 6 v) := fun v hv h1 => by
    refine kk _ (stq_op hj) (fun c m hcm => by rw [rdC_ne hcm]) ⟨by rw [rdA_ne (by decide)]; exact q0, by rw [rdA_ne (by decide)]; exact q1, by rw [rdA_ne (by decide)]; exact q2, by rw [rdA_ne (by decide)]; exact q3, by rw [rdA_eq rfl]; exact hv, fun h => by omega, fun hi => by rw [rdA_ne (by decide)]; exact q6 hi⟩
  have go8 : ∀ v : Int32, fcq sg f f2 x2 = f → (f = 1 → v = wkq sg x x2) → Q (upC w (65 + j) 8 v) := fun v hf hv => by
    refine kk _ (stq_op hj) (fun c m hcm => by rw [rdC_ne hcm]) ⟨by rw [rdA_ne (by decide)]; exact q0, by rw [rdA_ne (by decide)]; exact q1, by rw [rdA_ne (by decide)]; exact q2, by rw [rdA_ne (by decide)]; exact q3, by rw [rdA_ne (by decide), hf]; exact q4, fun h => by rw [rdA_eq rfl]; exact hv (by omega), fun hi => by rw [rdA_ne (by decide)]; exact q6 hi⟩
  have z0 : ((0 : Int32)).toInt = 0 := by decide
  have isC : ∀ (q : Nat) (fv : Int) (P : Int32 → Prop), (w q 6).toInt = fv → (fv = 1 → P 1) → (fv ≠ 1 → P 0) → pk_X6_isConstant q w P := fun q fv P h1 hp hn => by
    unfold pk_X6_isConstant
    exact ⟨fun c => hn (by omega), fun c => hp (by omega)⟩
  unfold pk_X2_combine
  refine ⟨fun y => f2 = 1 → (y.toInt = 0 ↔ ¬ ((sg = 46 ∨ sg = 47) ∧ x2.toInt = 0)), fun y hy0 hy => ⟨fun y2 => y2.toInt = 0 ↔ ¬ (sg = 43 ∨ sg = 44), fun y2 hy20 hy2 => isC _ f _ q4 (fun c => ?_) (fun c => ?_), ?_⟩, ?_⟩
  -- left is a constant
  · subst c
    refine ⟨¬ (f2 = 1 ∧ sg < 57 ∧ ¬ ((sg = 46 ∨ sg = 47) ∧ x2.toInt = 0)), fun hj1 => ⟨True, fun _ => ⟨fun e => ?_, fun e => ?_⟩, fun _ => trivial, fun e => ⟨fun _ => trivial, fun e2 => by omega⟩⟩, fun e => absurd e (by decide), fun _ => isC _ f2 _ hB (fun c2 => ⟨fun e => absurd e (by decide), fun _ => ⟨fun e => by omega, fun e => ⟨fun e2 => ?_, fun e2 => ?_⟩⟩⟩) (fun c2 => ⟨fun _ => by omega, fun e => absurd rfl e⟩)⟩
    · rintro s6 rfl
      refine go6 0 ?_ (by decide)
      rw [z0, fcq, if_neg (by omega), if_neg (by omega), if_neg (by omega)]
    · refine isC _ 1 _ q4 (fun _ => ⟨fun e2 => absurd e2 (by decide), fun _ => ⟨fun e3 => ?_, fun e3 => ?_⟩⟩) (fun c2 => absurd rfl c2)
      · rintro s15 rfl
        refine go6 0 ?_ (by decide)
        rw [z0, fcq, if_neg (by omega), if_neg (by omega), if_neg (by omega)]
      · rintro s18 rfl s20 rfl s22 rfl
        have hf : fcq sg 1 f2 x2 = 2 := by rw [fcq, if_neg (by omega), if_neg (by omega), if_pos (by omega)]
        refine kk _ (stq_tr (stq_op hj) (stq_tr (stq_op hj) (stq_op hj))) (fun c m hcm => by rw [rdC_ne hcm, rdC_ne hcm, rdC_ne hcm]) ⟨by rw [rdA_ne (by decide), rdA_ne (by decide), rdA_ne (by decide)]; exact q0, by rw [rdA_ne (by decide), rdA_ne (by decide), rdA_ne (by decide)]; exact q1, by rw [rdA_ne (by decide), rdA_ne (by decide), rdA_ne (by decide)]; exact q2, by rw [rdA_ne (by decide), rdA_ne (by decide), rdA_ne (by decide)]; exact q3, by rw [rdA_ne (by decide), rdA_ne (by decide), rdA_eq rfl, hf]; rfl, fun h => by omega, fun hi => by rw [rdA_ne (by decide), rdA_ne (by decide), rdA_ne (by decide)]; exact q6 hi⟩
    · exact fun hq => e2 ((hy c2).mpr hq.2.2)
    · have hn := (hy c2).mp e2
      rw [q5 rfl, hB8 c2]
      refine xl_worked hs (by omega) hn ?_
      rintro s44 rfl
      refine go8 _ ?_ (fun _ => rfl)
      rw [fcq, if_pos ⟨rfl, c2, by omega, hn⟩]
  -- left is none
  · refine ⟨True, fun _ => ⟨¬ ((sg = 43 ∨ sg = 44) ∧ f = 2 ∧ f2 = 1), fun hj1 => ⟨fun e => ?_, fun e => isC _ f _ q4 (fun c2 => absurd c2 c) (fun _ => ⟨fun _ => ?_, fun e2 => absurd rfl e2⟩)⟩, fun e => by omega, fun e => ⟨fun e2 => by omega, fun e2 => isC _ f2 _ hB (fun c2 => ⟨fun e3 => absurd e3 (by decide), fun _ => ?_⟩) (fun c2 => ⟨fun _ => by omega, fun e3 => absurd rfl e3⟩)⟩⟩, fun _ => trivial, fun e => absurd rfl e⟩
    · rintro s6 rfl
      refine go6 0 ?_ (by decide)
      rw [z0, fcq, if_neg (by omega), if_neg (by omega), if_neg (by omega)]
    · rintro s6 rfl
      refine go6 0 ?_ (by decide)
      rw [z0, fcq, if_neg (by omega), if_neg (by omega), if_neg (by omega)]
    · refine xl_worked hs (by omega) (by omega) ?_
      rintro s32 rfl
      refine go8 _ ?_ (fun h => absurd h c)
      rw [fcq, if_neg (by omega), if_pos (by omega)]
      omega
  · refine ⟨sg = 43 ∨ sg = 44, fun h => ⟨fun e => absurd e (by decide), fun e => absurd h e⟩, fun e => Or.inl (by omega), fun e => ⟨fun e2 => ⟨fun _ => by omega, fun _ => rfl⟩, fun e2 => Or.inr (by omega)⟩⟩
  · refine ⟨f2 = 1 → ¬ ((sg = 46 ∨ sg = 47) ∧ x2.toInt = 0), fun h e => ⟨fun _ => h e, fun _ => rfl⟩, sg = 46 ∨ sg = 47, fun h => ⟨fun e e2 => ?_, fun e e2 => ?_⟩, fun e => Or.inl (by omega), fun e => ⟨fun e2 _ => by omega, fun e2 => Or.inr (by omega)⟩⟩
    · rw [hB8 e2] at e
      omega
    · rw [hB8 e2] at e
      exact ⟨fun e3 => absurd e3 (by decide), fun e3 => absurd ⟨h, e⟩ e3⟩
theorem av_ne {q : Nat} (h0 : AVq w q k ty h z f x i) (e : ∀ c m, c ≠ 65 + j → s c m = w c m) (hq : q ≠ 65 + j) : AVq s q k ty h z f x i := av_eq h0 (fun m => e q m hq)
/-- two sides -/
theorem xt_binary {Q : St → Prop} (hc : (w 7 7).toInt = (j : Int) + 2) (hj : j < 498) (h0 : (w 6 3).toInt = 0) (hA : AVq w (65 + j) 0 ty h z f x i) (hB : AVq w (65 + (j + 1)) k2 ty2 h2 z2 f2 x2 i2) (hk : 0 ≤ k2 ∧ k2 ≤ 3) (hh : 0 ≤ h ∧ h ≤ 100 ∧ 0 ≤ h2 ∧ h2 ≤ 100) (hs : (atv 16002 (w 13) a).toInt = sg) (hr : 41 ≤ sg ∧ sg ≤ 58)
    (kk : ∀ s, STx j w s → (s 7 7).toInt = (j : Int) + 1 → AVq s (65 + j) 0 (tyq sg ty ty2 z z2) (1 + mxq h h2) 0 (fcq sg f f2 x2) (wkq sg x x2) 0 → ((s 6 3).toInt ≠ 0 ↔ tyq sg ty ty2 z z2 = -2 ∨ 60 < 1 + mxq h h2) → Q s) : pk_X2_binary a w Q := by
  have m2 : ((-2 : Int32)).toInt = -2 := by decide
  unfold pk_X2_binary pk_X2_kindOf
  refine xl_pop (j := j + 1) (by omega) (by omega) hB hk (fun s1 k1 e6 e7 b1 => xl_top (j := j) e7 (by omega) ?_)
  have a1 : AVq s1 (65 + j) 0 ty h z f x i := av_eq hA (fun m => k1.2 j m (by omega))
  refine xl_typeOf hs a1.2.1 b1.2.1 a1.2.2.2.1 b1.2.2.2.1 (fun v hv => ⟨fun s => STx j w s ∧ s 7 7 = s1 7 7 ∧ AVq s (65 + j) 0 ty h z f x i ∧ AVq s (65 + (j + 1)) 0 ty2 h2 z2 f2 x2 i2 ∧ ((s 6 3).toInt ≠ 0 ↔ v.toInt = -2), ?_, fun c => ⟨stq_le k1 (by omega), rfl, a1, b1, by rw [e6, h0]; exact ⟨fun h => absurd rfl h, fun h => absurd h c⟩⟩, fun c => xl_refuse (fun s2 k2 f2' => ⟨stq_tr (stq_le k1 (by omega)) (stq_kp (e63 k2)), k2 7 7 rfl rfl, av_kp a1 (e63 k2), av_kp b1 (e63 k2), ⟨fun _ => c, fun _ => f2'⟩⟩)⟩)
  rintro s2 ⟨k2', e72, a2, b2, f2'⟩
  refine ⟨fun s => STx j w s ∧ s 7 7 = s1 7 7 ∧ AVq s (65 + j) 0 ty h z f x i ∧ AVq s (65 + (j + 1)) 0 ty2 h2 z2 f2 x2 i2 ∧ ((s 6 3).toInt ≠ 0 ↔ v.toInt = -2), ?_, ?_⟩
  · rintro s3 ⟨k3, e73, a3, b3, f3⟩
    refine xl_combine hs hr a3 b3.2.2.2.2.1 b3.2.2.2.2.2.1 (by omega) (fun s4 k4 o4 a4 => ?_)
    have b4 := av_ne b3 o4 (by omega)
    refine xl_become a4 (by omega) (fun hf => a4.2.2.2.2.2.1 (by have := a4.2.2.2.2.1; omega)) (fun s5 k5 e65 e75 a5 o5 n5 => ?_)
    rw [a4.2.2.2.2.1] at a5
    refine xl_fold a5 (fun s6 k6 => ?_)
    have a6 := av_kp a5 (e24 k6)
    have eh1 := a6.2.2.1
    have eh2 : (s6 (65 + (j + 1)) 2).toInt = h2 := by
      have q1 : s6 (65 + (j + 1)) 2 = s5 (65 + (j + 1)) 2 := (stq_kp (j := j + 2) (e24 k6)).2 (j + 1) 2 (by omega)
      rw [q1, n5 _ 2 (by omega)]
      exact b4.2.2.1
    have em : (if (s6 (65 + j) 2) < (s6 (65 + (j + 1)) 2) then (s6 (65 + (j + 1)) 2) else (s6 (65 + j) 2)).toInt = mxq h h2 := by rw [mx_int, eh1, eh2]
    have hm : 0 ≤ mxq h h2 ∧ mxq h h2 ≤ 100 := by unfold mxq; split <;> omega
    have e1 : ((1 : Int32) + (if (s6 (65 + j) 2) < (s6 (65 + (j + 1)) 2) then (s6 (65 + (j + 1)) 2) else (s6 (65 + j) 2))).toInt = 1 + mxq h h2 := by
      rw [ad (by rw [em, i1]; omega) (by rw [em, i1]; omega), em, i1]
    refine xl_raise a6 (by omega) (fun s7 k7 e77 a7 f7 => kk s7 ?_ ?_ ?_ ?_)
    · exact stq_tr k3 (stq_tr k4 (stq_tr k5 (stq_tr (stq_kp (e24 k6)) k7)))
    · rw [e77, k6 7 7 rfl rfl, e75, o4 7 7 (by omega), e73]
      exact e7
    · rw [e1, hv] at a7
      exact a7
    · rw [e1, k6 6 3 rfl rfl, e65, o4 6 3 (by omega)] at f7
      rw [f7, f3, hv]
  · refine ⟨True, fun _ => xl_emit (fun _ s3 k3 => xl_aim (fun s4 k4 => ⟨stq_tr k2' (stq_kp (e24 (kp_tr k3 k4))), ?_, av_kp a2 (e24 (kp_tr k3 k4)), av_kp b2 (e24 (kp_tr k3 k4)), ?_⟩)), fun _ => trivial, fun _ => ⟨fun _ => ⟨fun _ => True, fun y2 _ _ => xl_operate (fun s3 k3 => ⟨stq_tr k2' (stq_kp (e24 k3)), ?_, av_kp a2 (e24 k3), av_kp b2 (e24 k3), ?_⟩), fun _ => trivial, fun _ => trivial⟩, fun _ => trivial⟩⟩
    · rw [(kp_tr k3 k4) 7 7 rfl rfl]
      exact e72
    · rw [(kp_tr k3 k4) 6 3 rfl rfl]
      exact f2'
    · rw [k3 7 7 rfl rfl]
      exact e72
    · rw [k3 6 3 rfl rfl]
      exact f2'
end XCM
end

section
/-! the steps of expressions: the class's, assignments, places, casts, choices -/
def ivq (sg : Int) (x : Int32) : Int32 := if sg = 44 then -x else if sg = 60 then x ^^^ ((-1) : Int32) else if x.toInt = 0 then 1 else 0
section XCN
variable {w s t : St} {j : Nat} {k ty h z f i k2 ty2 h2 z2 f2 i2 k3 ty3 h3 z3 f3 i3 sg : Int} {x x2 x3 a b c d : Int32}
theorem mxq_r (h1 : 0 ≤ h ∧ h ≤ 100) (h2' : 0 ≤ h2 ∧ h2 ≤ 100) : 0 ≤ mxq h h2 ∧ mxq h h2 ≤ 100 := by unfold mxq; split <;> omega
/-- the height behind two -/
theorem hgt2 {q1 q2 : Nat} (e1 : (w q1 2).toInt = h) (e2 : (w q2 2).toInt = h2) (hh : 0 ≤ h ∧ h ≤ 100 ∧ 0 ≤ h2 ∧ h2 ≤ 100) : ((1 : Int32) + (if (w q1 2) < (w q2 2) then (w q2 2) else (w q1 2))).toInt = 1 + mxq h h2 := by
  have hm := mxq_r (h := h) (h2 := h2) ⟨hh.1, hh.2.1⟩ ⟨hh.2.2.1, hh.2.2.2⟩
  have em : (if (w q1 2) < (w q2 2) then (w q2 2) else (w q1 2)).toInt = mxq h h2 := by rw [mx_int, e1, e2]
  rw [ad (by rw [em, i1]; omega) (by rw [em, i1]; omega), em, i1]
theorem hgt1 {q1 : Nat} (e1 : (w q1 2).toInt = h) (hh : 0 ≤ h ∧ h ≤ 100) : ((1 : Int32) + (w q1 2)).toInt = 1 + h := by
  rw [ad (by rw [e1, i1]; omega) (by rw [e1, i1]; omega), e1, i1]
def asB (sg k ty ty2 z2 : Int) : Prop := ¬ (1 ≤ k ∧ k ≤ 3) ∨ ¬ (if sg = 30 then (ty2 = ty ∧ ty ≠ -1) ∨ (0 < ty ∧ z2 ≠ 0) else ty2 = 0 ∧ (sg = 33 ∨ sg = 34 ∨ ty = 0))
theorem xt_assign {Q : St → Prop} (hc : (w 7 7).toInt = (j : Int) + 2) (hj : j < 498) (h0 : (w 6 3).toInt = 0) (hA : AVq w (65 + j) k ty h z f x i) (hB : AVq w (65 + (j + 1)) k2 ty2 h2 z2 f2 x2 i2) (hk : 0 ≤ k2 ∧ k2 ≤ 3) (hh : 0 ≤ h ∧ h ≤ 100 ∧ 0 ≤ h2 ∧ h2 ≤ 100) (hs : (atv 16002 (w 13) a).toInt = sg)
    (kk : ∀ s, STx j w s → (s 7 7).toInt = (j : Int) + 1 → AVq s (65 + j) 0 ty (1 + mxq h h2) 0 0 0 0 → ((s 6 3).toInt ≠ 0 ↔ asB sg k ty ty2 z2 ∨ 60 < 1 + mxq h h2) → Q s) : pk_X2_assign a w Q := by
  unfold pk_X2_assign pk_X2_kindOf pk_X2_lineOf
  refine xl_pop (j := j + 1) (by omega) (by omega) hB hk (fun s1 k1 e6 e7 b1 => xl_top (j := j) e7 (by omega) ?_)
  have a1 : AVq s1 (65 + j) k ty h z f x i := av_eq hA (fun m => k1.2 j m (by omega))
  refine ⟨fun y => (y.toInt = 1 ↔ sg = 33 ∨ sg = 34) ∧ (y.toInt = 0 ∨ y.toInt = 1), fun y _ hy => ⟨fun y2 => (y2.toInt = 1 ↔ (if sg = 30 then (ty2 = ty ∧ ty ≠ -1) ∨ (0 < ty ∧ z2 ≠ 0) else ty2 = 0 ∧ (sg = 33 ∨ sg = 34 ∨ ty = 0))) ∧ (y2.toInt = 0 ∨ y2.toInt = 1), fun y2 _ hy2 => xl_isPlace a1.1 ?_ ?_, ?_⟩, ?_⟩
  rotate_left 2
  · refine ⟨fun c => ?_, fun c => xl_fits b1.2.1 b1.2.2.2.1 (fun v hv0 hv => ⟨?_, hv0⟩)⟩
    · rw [hs] at c
      refine ⟨ty2 ≠ 0 ∨ (ty ≠ 0 ∧ ¬ (sg = 33 ∨ sg = 34)), fun hj1 => ⟨?_, Or.inl rfl⟩, fun d => Or.inl (by have := b1.2.1; omega), fun d => ⟨sg = 33 ∨ sg = 34 ∨ ty = 0, fun hj1 => ⟨?_, Or.inr rfl⟩, fun e => by omega, fun e => ⟨fun e2 => Or.inr ⟨by have := a1.2.1; omega, by omega⟩, fun e2 => Or.inr (Or.inr (by have := a1.2.1; omega))⟩⟩⟩
      · rw [if_neg c]
        exact ⟨fun hx => absurd hx (by decide), fun hx => by omega⟩
      · rw [if_neg c]
        exact ⟨fun _ => ⟨by have := b1.2.1; omega, hj1⟩, fun _ => rfl⟩
    · rw [hs] at c
      rw [if_pos c, hv, a1.2.1]
  · rw [hs]
    exact ⟨sg = 33 ∨ sg = 34, fun hj1 => ⟨⟨fun _ => hj1, fun _ => rfl⟩, Or.inr rfl⟩, fun c => Or.inl c, fun c => ⟨fun c2 => ⟨⟨fun hx => absurd hx (by decide), fun hx => by omega⟩, Or.inl rfl⟩, fun c2 => Or.inr c2⟩⟩
  all_goals
    intro hpl
    refine ⟨fun s => STx j w s ∧ s 7 7 = s1 7 7 ∧ AVq s (65 + j) k ty h z f x i ∧ AVq s (65 + (j + 1)) 0 ty2 h2 z2 f2 x2 i2 ∧ ((s 6 3).toInt ≠ 0 ↔ asB sg k ty ty2 z2), ?_, ?_⟩
    · rintro s2 ⟨k2', e72, a2, b2, f2'⟩
      refine ⟨fun s => STx j w s ∧ s 7 7 = s1 7 7 ∧ AVq s (65 + j) k ty h z f x i ∧ AVq s (65 + (j + 1)) 0 ty2 h2 z2 f2 x2 i2 ∧ ((s 6 3).toInt ≠ 0 ↔ asB sg k ty ty2 z2), ?_, fun _ => ⟨k2', e72, a2, b2, f2'⟩, fun _ => ?_⟩
      · rintro s3 ⟨k3', e73, a3, b3, f3'⟩
        refine ⟨fun s => STx j w s ∧ s 7 7 = s1 7 7 ∧ AVq s (65 + j) k ty h z f x i ∧ AVq s (65 + (j + 1)) 0 ty2 h2 z2 f2 x2 i2 ∧ ((s 6 3).toInt ≠ 0 ↔ asB sg k ty ty2 z2), ?_, fun _ => ⟨fun _ => True, fun y3 _ => xl_emit (fun _ s4 k4 => ⟨stq_tr k3' (stq_kp (e24 k4)), (k4 7 7 rfl rfl).trans e73, av_kp a3 (e24 k4), av_kp b3 (e24 k4), by rw [k4 6 3 rfl rfl]; exact f3'⟩), fun _ => trivial, fun _ => trivial⟩, fun _ => xl_emit (fun _ s4 k4 => ⟨stq_tr k3' (stq_kp (e24 k4)), (k4 7 7 rfl rfl).trans e73, av_kp a3 (e24 k4), av_kp b3 (e24 k4), by rw [k4 6 3 rfl rfl]; exact f3'⟩)⟩
        rintro s4 ⟨k4', e74, a4, b4, f4'⟩
        have a4' : AVq s4 (65 + j) k ty h z f (s4 (65 + j) 8) i := ⟨a4.1, a4.2.1, a4.2.2.1, a4.2.2.2.1, a4.2.2.2.2.1, fun _ => rfl, a4.2.2.2.2.2.2⟩
        refine xl_become a4' (by omega) (fun hf => absurd hf (by decide)) (fun s5 k5 e65 e75 a5 o5 n5 => ?_)
        have eh2 : (s5 (65 + (j + 1)) 2).toInt = h2 := by
          rw [n5 _ 2 (by omega)]
          exact b4.2.2.1
        have e1 := hgt2 a5.2.2.1 eh2 hh
        refine xl_raise a5 (by omega) (fun s7 k7 e77 a7 f7 => kk s7 (stq_tr k4' (stq_tr k5 k7)) ?_ ?_ ?_)
        · rw [e77, e75, e74]
          exact e7
        · rw [e1, a4.2.1] at a7
          exact ⟨a7.1, a7.2.1, a7.2.2.1, a7.2.2.2.1, a7.2.2.2.2.1, fun hf => absurd hf (by decide), fun hi => absurd hi (by decide)⟩
        · rw [e1, e65] at f7
          rw [f7, f4']
      · exact xl_operate (fun s3 k3' => ⟨stq_tr k2' (stq_kp (e24 k3')), (k3' 7 7 rfl rfl).trans e72, av_kp a2 (e24 k3'), av_kp b2 (e24 k3'), by rw [k3' 6 3 rfl rfl]; exact f2'⟩)
    · have bad : asB sg k ty ty2 z2 → pk_X2_refuse a s1 (fun s96 => STx j w s96 ∧ s96 7 7 = s1 7 7 ∧ AVq s96 (65 + j) k ty h z f x i ∧ AVq s96 (65 + (j + 1)) 0 ty2 h2 z2 f2 x2 i2 ∧ ((s96 6 3).toInt ≠ 0 ↔ asB sg k ty ty2 z2)) := fun hb => xl_refuse (fun s2 k2' f2' => ⟨stq_tr (stq_le k1 (by omega)) (stq_kp (e63 k2')), k2' 7 7 rfl rfl, av_kp a1 (e63 k2'), av_kp b1 (e63 k2'), ⟨fun _ => hb, fun _ => f2'⟩⟩)
      refine ⟨asB sg k ty ty2 z2, bad, fun c => Or.inl ?_, fun c => ⟨fun c2 => ⟨stq_le k1 (by omega), rfl, a1, b1, ?_⟩, fun c2 => Or.inr (fun hq => ?_)⟩⟩
      · first
          | exact hpl
          | exact absurd c (by decide)
      · rw [e6, h0]
        refine ⟨fun hx => absurd rfl hx, fun hx => ?_⟩
        rcases hx with hx | hx
        · first
            | exact absurd hpl hx
            | exact absurd rfl c
        · exact absurd (hy2.1.mp (by omega)) hx
      · have := hy2.1.mpr hq
        omega
theorem kp65 {c m : Nat} (hk : Kp [(6, 3), (6, 4)] [] w s) (hc : 65 ≤ c) : s c m = w c m := by
  have e := (stq_kp (j := c + 1) (e63 hk)).2 (c - 65) m (by omega)
  rwa [show 65 + (c - 65) = c from by omega] at e
/-- a pointer becomes the cell -/
theorem xl_pointed {Q : St → Prop} (hA : AVq w (65 + j) 0 ty h z f x i) (hj : j < 500) (hty : -2 ≤ ty ∧ ty ≤ 100) (kk : ∀ s, STx j w s → s 7 7 = w 7 7 → AVq s (65 + j) 3 (ty - 1) h 0 0 0 (s (65 + j) 4).toInt → (∀ c m, 65 ≤ c → c ≠ 65 + j → s c m = w c m) → ((s 6 3).toInt ≠ 0 ↔ (w 6 3).toInt ≠ 0 ∨ ty < 1) → Q s) : pk_X2_pointed (65 + j) a w Q := by
  unfold pk_X2_pointed
  refine ⟨fun s => STx j w s ∧ s 7 7 = w 7 7 ∧ AVq s (65 + j) 0 ty h z f x i ∧ (∀ c m, 65 ≤ c → c ≠ 65 + j → s c m = w c m) ∧ ((s 6 3).toInt ≠ 0 ↔ (w 6 3).toInt ≠ 0 ∨ ty < 1), ?_, fun c => ⟨stq_rf, rfl, hA, fun _ _ _ _ => rfl, ⟨Or.inl, fun hx => by rcases hx with hx | hx; exact hx; have := hA.2.1; omega⟩⟩, fun c => xl_refuse (fun s2 k2' f2' => ⟨stq_kp (e63 k2'), k2' 7 7 rfl rfl, av_kp hA (e63 k2'), fun c m hc _ => kp65 k2' hc, ⟨fun _ => Or.inr (by have := hA.2.1; omega), fun _ => f2'⟩⟩)⟩
  · rintro s1 ⟨k1, e7, a1, n1, f1⟩
    have a1' : AVq s1 (65 + j) 0 ty h z f (s1 (65 + j) 8) i := ⟨a1.1, a1.2.1, a1.2.2.1, a1.2.2.2.1, a1.2.2.2.2.1, fun _ => rfl, a1.2.2.2.2.2.2⟩
    refine xl_become a1' hj (fun hf => absurd hf (by decide)) (fun s5 k5 e65 e75 a5 o5 n5 => ?_)
    rintro s6 rfl
    unfold pk_X2_lineOf
    rintro s8 rfl
    have et : ((s1 (65 + j) 1) - (1 : Int32)).toInt = ty - 1 := by rw [sbc i1 (by rw [a1.2.1]; omega) (by rw [a1.2.1]; omega), a1.2.1]
    refine kk _ (stq_tr k1 (stq_tr k5 (stq_tr (stq_op hj) (stq_op hj)))) ?_ ⟨?_, ?_, ?_, ?_, ?_, fun hf => absurd hf (by decide), fun _ => rfl⟩ (fun c m hc hcm => ?_) ?_
    · rw [rdC_ne (by omega), rdC_ne (by omega), e75]
      exact e7
    · rw [rdA_ne (by decide), rdA_eq rfl]
      rfl
    · rw [rdA_ne (by decide), rdA_ne (by decide), a5.2.1]
      exact et
    · rw [rdA_ne (by decide), rdA_ne (by decide)]
      exact a5.2.2.1
    · rw [rdA_ne (by decide), rdA_ne (by decide)]
      exact a5.2.2.2.1
    · rw [rdA_ne (by decide), rdA_ne (by decide)]
      exact a5.2.2.2.2.1
    · rw [rdC_ne hcm, rdC_ne hcm, n5 c m hcm]
      exact n1 c m hc hcm
    · rw [rdC_ne (by omega), rdC_ne (by omega), e65]
      exact f1
theorem xt_index {Q : St → Prop} (hc : (w 7 7).toInt = (j : Int) + 2) (hj : j < 498) (h0 : (w 6 3).toInt = 0) (hA : AVq w (65 + j) 0 ty h z f x i) (hB : AVq w (65 + (j + 1)) k2 ty2 h2 z2 f2 x2 i2) (hk : 0 ≤ k2 ∧ k2 ≤ 3) (hty : -2 ≤ ty ∧ ty ≤ 100) (hh : 0 ≤ h ∧ h ≤ 100 ∧ 0 ≤ h2 ∧ h2 ≤ 100)
    (kk : ∀ s, STx j w s → (s 7 7).toInt = (j : Int) + 1 → AVq s (65 + j) 3 (ty - 1) (1 + mxq h h2) 0 0 0 (s (65 + j) 4).toInt → ((s 6 3).toInt ≠ 0 ↔ (ty2 ≠ 0 ∨ ty < 1) ∨ 60 < 1 + mxq h h2) → Q s) : pk_X2_index a w Q := by
  unfold pk_X2_index
  refine xl_pop (j := j + 1) (by omega) (by omega) hB hk (fun s1 k1 e6 e7 b1 => xl_top (j := j) e7 (by omega) ?_)
  have a1 : AVq s1 (65 + j) 0 ty h z f x i := av_eq hA (fun m => k1.2 j m (by omega))
  refine ⟨fun s => STx j w s ∧ s 7 7 = s1 7 7 ∧ AVq s (65 + j) 0 ty h z f x i ∧ AVq s (65 + (j + 1)) 0 ty2 h2 z2 f2 x2 i2 ∧ ((s 6 3).toInt ≠ 0 ↔ ty2 ≠ 0), ?_, fun c => ⟨stq_le k1 (by omega), rfl, a1, b1, by rw [e6, h0]; exact ⟨fun hx => absurd rfl hx, fun hx => by have := b1.2.1; omega⟩⟩, fun c => xl_refuse (fun s2 k2' f2' => ⟨stq_tr (stq_le k1 (by omega)) (stq_kp (e63 k2')), k2' 7 7 rfl rfl, av_kp a1 (e63 k2'), av_kp b1 (e63 k2'), ⟨fun _ => by have := b1.2.1; omega, fun _ => f2'⟩⟩)⟩
  rintro s2 ⟨k2', e72, a2, b2, f2'⟩
  refine xl_emit (fun _ s3 k3' => xl_pointed (av_kp a2 (e24 k3')) (by omega) hty (fun s4 k4 e74 a4 n4 f4 => ?_))
  have eh2 : (s4 (65 + (j + 1)) 2).toInt = h2 := by
    rw [n4 _ 2 (by omega) (by omega)]
    exact (av_kp b2 (e24 k3')).2.2.1
  have e1 := hgt2 a4.2.2.1 eh2 hh
  refine xl_raise a4 (by omega) (fun s7 k7 e77 a7 f7 => kk s7 (stq_tr k2' (stq_tr (stq_kp (e24 k3')) (stq_tr k4 k7))) ?_ ?_ ?_)
  · rw [e77, e74, k3' 7 7 rfl rfl, e72]
    exact e7
  · rw [e1] at a7
    exact ⟨a7.1, a7.2.1, a7.2.2.1, a7.2.2.2.1, a7.2.2.2.2.1, fun hf => absurd hf (by decide), fun _ => rfl⟩
  · rw [e1, f4, k3' 6 3 rfl rfl, f2'] at f7
    exact f7
theorem xt_step {Q : St → Prop} (hc : (w 7 7).toInt = (j : Int) + 1) (hj : j < 500) (h0 : (w 6 3).toInt = 0) (hA : AVq w (65 + j) k ty h z f x i) (hh : 0 ≤ h ∧ h ≤ 100)
    (kk : ∀ s, STx j w s → (s 7 7).toInt = (j : Int) + 1 → AVq s (65 + j) 0 ty (1 + h) 0 0 0 0 → ((s 6 3).toInt ≠ 0 ↔ ¬ (1 ≤ k ∧ k ≤ 3) ∨ 60 < 1 + h) → Q s) : pk_X2_step (65 + j) a b w Q := by
  unfold pk_X2_step
  have main : ∀ v1 : Int32, (v1.toInt ≠ 0 ↔ 1 ≤ k ∧ k ≤ 3) → ∃ J12 : St → Prop, (∀ (s12 : St), J12 s12 → (pk_X2_kindOf a s12 (fun v14 => ∃ J27 : Int32 → Prop, (∀ (y0_27 : Int32), J27 y0_27 → (∃ J39 : Int32 → Prop, (∀ (y0_39 : Int32), J39 y0_39 → (∃ J102 : St → Prop, (∀ (s102 : St), J102 s102 → (pk_X6_become (65 + j) (s102 (65 + j) 1) (0 : Int32) s102 (fun s108 => pk_X2_raise (65 + j) ((1 : Int32) + (s108 (65 + j) 2)) a s108 (fun s120 => Q s120)))) ∧ (((s12 (65 + j) 0).toInt ≠ 3 → (∃ J90 : Int32 → Prop, (∀ (y1_90 : Int32), J90 y1_90 → (pk_X0_emit y1_90 (s12 (65 + j) 4) y0_27 y0_39 s12 (fun v98 s98 => J102 s98))) ∧ (((s12 (65 + j) 0).toInt ≠ 1 → (J90 (7 : Int32))) ∧ ((s12 (65 + j) 0).toInt = 1 → (J90 (10 : Int32)))))) ∧ ((s12 (65 + j) 0).toInt = 3 → (pk_X2_lineOf a s12 (fun v57 => pk_X0_emit (20 : Int32) v57 y0_27 y0_39 s12 (fun v64 s64 => J102 s64))))))) ∧ ((b.toInt = 0 → (J39 (0 : Int32))) ∧ (b.toInt ≠ 0 → (J39 y0_27))))) ∧ ((v14.toInt ≠ 61 → (J27 ((-1) : Int32))) ∧ (v14.toInt = 61 → (J27 (1 : Int32))))))) ∧ ((v1.toInt ≠ 0 → (J12 w)) ∧ (v1.toInt = 0 → (pk_X2_refuse a w (fun s9 => J12 s9)))) := by
    intro v1 hv1
    refine ⟨fun s => STx j w s ∧ s 7 7 = w 7 7 ∧ AVq s (65 + j) k ty h z f x i ∧ ((s 6 3).toInt ≠ 0 ↔ ¬ (1 ≤ k ∧ k ≤ 3)), ?_, fun c => ⟨stq_rf, rfl, hA, by rw [h0]; exact ⟨fun hx => absurd rfl hx, fun hx => absurd (hv1.mp c) hx⟩⟩, fun c => xl_refuse (fun s2 k2' f2' => ⟨stq_kp (e63 k2'), k2' 7 7 rfl rfl, av_kp hA (e63 k2'), ⟨fun _ hx => absurd c (hv1.mpr hx), fun _ => f2'⟩⟩)⟩
    rintro s1 ⟨k1, e7, a1, f1⟩
    unfold pk_X2_kindOf pk_X2_lineOf
    refine ⟨fun _ => True, fun y _ => ⟨fun _ => True, fun y2 _ => ⟨fun s => STx j w s ∧ s 7 7 = w 7 7 ∧ AVq s (65 + j) k ty h z f x i ∧ ((s 6 3).toInt ≠ 0 ↔ ¬ (1 ≤ k ∧ k ≤ 3)), ?_, fun _ => ⟨fun _ => True, fun y3 _ => xl_emit (fun _ s2 k2' => ⟨stq_tr k1 (stq_kp (e24 k2')), (k2' 7 7 rfl rfl).trans e7, av_kp a1 (e24 k2'), by rw [k2' 6 3 rfl rfl]; exact f1⟩), fun _ => trivial, fun _ => trivial⟩, fun _ => xl_emit (fun _ s2 k2' => ⟨stq_tr k1 (stq_kp (e24 k2')), (k2' 7 7 rfl rfl).trans e7, av_kp a1 (e24 k2'), by rw [k2' 6 3 rfl rfl]; exact f1⟩)⟩, fun _ => trivial, fun _ => trivial⟩, fun _ => trivial, fun _ => trivial⟩
    rintro s4 ⟨k4', e74, a4, f4'⟩
    have a4' : AVq s4 (65 + j) k ty h z f (s4 (65 + j) 8) i := ⟨a4.1, a4.2.1, a4.2.2.1, a4.2.2.2.1, a4.2.2.2.2.1, fun _ => rfl, a4.2.2.2.2.2.2⟩
    refine xl_become a4' hj (fun hf => absurd hf (by decide)) (fun s5 k5 e65 e75 a5 o5 n5 => ?_)
    have e1 := hgt1 a5.2.2.1 hh
    refine xl_raise a5 hj (fun s7 k7 e77 a7 f7 => kk s7 (stq_tr k4' (stq_tr k5 k7)) ?_ ?_ ?_)
    · rw [e77, e75, e74]
      exact hc
    · rw [e1, a4.2.1] at a7
      exact ⟨a7.1, a7.2.1, a7.2.2.1, a7.2.2.2.1, a7.2.2.2.2.1, fun hf => absurd hf (by decide), fun hi => absurd hi (by decide)⟩
    · rw [e1, e65] at f7
      rw [f7, f4']
  exact xl_isPlace hA.1 (fun hp => main 1 ⟨fun _ => hp, fun _ => by decide⟩) (fun hp => main 0 ⟨fun hx => absurd rfl hx, fun hx => absurd hx hp⟩)
theorem xl_inverted {Q : Int32 → Prop} (hs : (sg = 44 ∧ a.toInt = 22) ∨ (sg = 60 ∧ a.toInt = 23) ∨ (sg = 59 ∧ a.toInt = 24)) (kk : Q (ivq sg b)) : pk_X5_inverted a b w Q := by
  unfold ivq at kk
  unfold pk_X5_inverted
  rcases hs with ⟨h1, h2⟩ | ⟨h1, h2⟩ | ⟨h1, h2⟩
  · rw [if_pos h1] at kk
    exact ⟨fun _ => kk, fun n => absurd h2 n⟩
  · rw [if_neg (by omega), if_pos h1] at kk
    exact ⟨fun n => by omega, fun _ => ⟨fun _ => kk, fun n => absurd h2 n⟩⟩
  · rw [if_neg (by omega), if_neg (by omega)] at kk
    refine ⟨fun n => by omega, fun _ => ⟨fun n => by omega, fun _ => ⟨fun _ => ⟨fun e => ?_, fun e => ?_⟩, fun n => absurd h2 n⟩⟩⟩
    · rwa [if_neg e] at kk
    · rwa [if_pos e] at kk
def ivB (sg ty : Int) : Prop := if sg = 59 then ty = -1 else ty ≠ 0
theorem xl_invert {Q : St → Prop} (hA : AVq w (65 + j) 0 ty h z f x i) (hj : j < 500) (h0 : (w 6 3).toInt = 0) (hb : b.toInt = sg) (hs : sg = 44 ∨ sg = 60 ∨ sg = 59)
    (kk : ∀ s, STx j w s → s 7 7 = w 7 7 → AVq s (65 + j) 0 0 h 0 (if f = 1 then 1 else 0) (ivq sg x) 0 → ((s 6 3).toInt ≠ 0 ↔ ivB sg ty) → Q s) : pk_X2_invert (65 + j) b c w Q := by
  unfold pk_X2_invert
  refine ⟨fun s => STx j w s ∧ s 7 7 = w 7 7 ∧ AVq s (65 + j) 0 ty h z f x i ∧ ((s 6 3).toInt ≠ 0 ↔ ivB sg ty), ?_, ivB sg ty, fun hj1 => xl_refuse (fun s2 k2' f2' => ⟨stq_kp (e63 k2'), k2' 7 7 rfl rfl, av_kp hA (e63 k2'), ⟨fun _ => hj1, fun _ => f2'⟩⟩), fun d => ⟨fun e => ⟨stq_rf, rfl, hA, by rw [h0]; exact ⟨fun hx => absurd rfl hx, fun hx => by unfold ivB at hx; rw [if_neg (by omega)] at hx; have := hA.2.1; omega⟩⟩, fun e => by unfold ivB; rw [if_neg (by omega)]; have := hA.2.1; omega⟩, fun d => ⟨fun e => ⟨stq_rf, rfl, hA, by rw [h0]; exact ⟨fun hx => absurd rfl hx, fun hx => by unfold ivB at hx; rw [if_pos (by omega)] at hx; have := hA.2.1; omega⟩⟩, fun e => by unfold ivB; rw [if_pos (by omega)]; have := hA.2.1; omega⟩⟩
  rintro s1 ⟨k1, e7, a1, f1⟩
  refine ⟨fun y => (sg = 44 ∧ y.toInt = 22) ∨ (sg = 60 ∧ y.toInt = 23) ∨ (sg = 59 ∧ y.toInt = 24), fun y hy => xl_emit (fun _ s2 k2' => xl_inverted hy ?_), fun d => ⟨fun e => Or.inl ⟨by omega, by decide⟩, fun e => Or.inr (Or.inl ⟨by omega, by decide⟩)⟩, fun d => Or.inr (Or.inr ⟨by omega, by decide⟩)⟩
  have a2 := av_kp a1 (e24 k2')
  rintro s4 rfl
  have a3 : AVq (upC s2 (65 + j) 8 (ivq sg (s2 (65 + j) 8))) (65 + j) 0 ty h z f (ivq sg x) i := by
    obtain ⟨q0, q1, q2, q3, q4, q5, q6⟩ := a2
    exact ⟨by rw [rdA_ne (by decide)]; exact q0, by rw [rdA_ne (by decide)]; exact q1, by rw [rdA_ne (by decide)]; exact q2, by rw [rdA_ne (by decide)]; exact q3, by rw [rdA_ne (by decide)]; exact q4, fun hf => by rw [rdA_eq rfl, q5 hf], fun hi => absurd hi (by decide)⟩
  have k3 : STx j s2 (upC s2 (65 + j) 8 (ivq sg (s2 (65 + j) 8))) := stq_op hj
  have e37 : upC s2 (65 + j) 8 (ivq sg (s2 (65 + j) 8)) 7 7 = w 7 7 := by rw [rdC_ne (by omega), k2' 7 7 rfl rfl]; exact e7
  have e36 : upC s2 (65 + j) 8 (ivq sg (s2 (65 + j) 8)) 6 3 = s1 6 3 := by rw [rdC_ne (by omega), k2' 6 3 rfl rfl]
  generalize upC s2 (65 + j) 8 (ivq sg (s2 (65 + j) 8)) = s3 at a3 k3 e37 e36
  have fin : ∀ y2 : Int32, y2.toInt = (if f = 1 then 1 else 0) → pk_X6_become (65 + j) (0 : Int32) y2 s3 (fun s95 => pk_X2_fold (65 + j) s95 (fun s100 => Q s100)) := fun y2 hy2 => by
    have a3' : AVq s3 (65 + j) 0 ty h z f (ivq sg x) i := a3
    refine xl_become (x := ivq sg x) a3 hj (fun hf => a3.2.2.2.2.2.1 (by rw [hy2] at hf; by_cases q : f = 1; exact q; rw [if_neg q] at hf; omega)) (fun s5 k5 e65 e75 a5 o5 n5 => xl_fold a5 (fun s6 k6 => kk s6 (stq_tr k1 (stq_tr (stq_kp (e24 k2')) (stq_tr k3 (stq_tr k5 (stq_kp (e24 k6)))))) ?_ ?_ ?_))
    · rw [k6 7 7 rfl rfl, e75]
      exact e37
    · rw [hy2] at a5
      exact av_kp a5 (e24 k6)
    · rw [k6 6 3 rfl rfl, e65, e36]
      exact f1
  have a36 := a3.2.2.2.2.1
  unfold pk_X6_isConstant
  refine ⟨fun d => ⟨fun y2 => y2.toInt = (if f = 1 then 1 else 0), fun y2 _ hy2 => fin y2 hy2, fun _ => by rw [if_neg (by omega)]; rfl, fun e => absurd rfl e⟩, fun d => ⟨fun y2 => y2.toInt = (if f = 1 then 1 else 0), fun y2 _ hy2 => fin y2 hy2, fun e => absurd e (by decide), fun _ => by rw [if_pos (by omega)]; rfl⟩⟩
theorem xl_address {Q : St → Prop} (hA : AVq w (65 + j) k ty h z f x i) (hj : j < 500) (hty : -2 ≤ ty ∧ ty ≤ 100) (kk : ∀ s, STx j w s → s 7 7 = w 7 7 → s 6 3 = w 6 3 → AVq s (65 + j) 0 (ty + 1) h 0 (if k = 2 then 2 else 0) 0 0 → Q s) : pk_X2_address (65 + j) w Q := by
  unfold pk_X2_address
  have fin : ∀ s1, STx j w s1 → s1 7 7 = w 7 7 → s1 6 3 = w 6 3 → AVq s1 (65 + j) k ty h z f x i → ∀ y2 : Int32, y2.toInt = (if k = 2 then 2 else 0) → pk_X6_become (65 + j) ((s1 (65 + j) 1) + (1 : Int32)) y2 s1 (fun s91 => ∀ s4n : St, s4n = upC s91 (65 + j) 7 (s91 (65 + j) 4) → (∀ s6n : St, s6n = upC s4n (65 + j) 8 (0 : Int32) → (Q s6n))) := fun s1 k1 e7 e6 a1 y2 hy2 => by
    have a1' : AVq s1 (65 + j) k ty h z f (s1 (65 + j) 8) i := ⟨a1.1, a1.2.1, a1.2.2.1, a1.2.2.2.1, a1.2.2.2.2.1, fun _ => rfl, a1.2.2.2.2.2.2⟩
    refine xl_become a1' hj (fun _ => rfl) (fun s5 k5 e65 e75 a5 o5 n5 => ?_)
    rintro s6 rfl s8 rfl
    have et : ((s1 (65 + j) 1) + (1 : Int32)).toInt = ty + 1 := by rw [adc i1 (by rw [a1.2.1]; omega) (by rw [a1.2.1]; omega), a1.2.1]
    have nf : (if k = 2 then (2 : Int) else 0) ≠ 1 := by split <;> omega
    refine kk _ (stq_tr k1 (stq_tr k5 (stq_tr (stq_op hj) (stq_op hj)))) ?_ ?_ ⟨?_, ?_, ?_, ?_, ?_, fun hf => absurd hf nf, fun hi => absurd hi (by decide)⟩
    · rw [rdC_ne (by omega), rdC_ne (by omega), e75]
      exact e7
    · rw [rdC_ne (by omega), rdC_ne (by omega), e65]
      exact e6
    · rw [rdA_ne (by decide), rdA_ne (by decide)]
      exact a5.1
    · rw [rdA_ne (by decide), rdA_ne (by decide), a5.2.1]
      exact et
    · rw [rdA_ne (by decide), rdA_ne (by decide)]
      exact a5.2.2.1
    · rw [rdA_ne (by decide), rdA_ne (by decide)]
      exact a5.2.2.2.1
    · rw [rdA_ne (by decide), rdA_ne (by decide), a5.2.2.2.2.1]
      exact hy2
  refine ⟨fun y => y.toInt ≠ 0 ↔ k = 2, fun y _ hy => ⟨fun s => STx j w s ∧ s 7 7 = w 7 7 ∧ s 6 3 = w 6 3 ∧ AVq s (65 + j) k ty h z f x i, ?_, fun d => ⟨fun _ => ⟨stq_rf, rfl, rfl, hA⟩, fun _ => xl_emit (fun _ s1 k1 => ⟨stq_kp (e24 k1), k1 7 7 rfl rfl, k1 6 3 rfl rfl, av_kp hA (e24 k1)⟩)⟩, fun d => ?_⟩, fun d => ⟨fun hx => absurd rfl hx, fun hx => by have := hA.1; omega⟩, fun d => ⟨fun _ => by have := hA.1; omega, fun _ => by decide⟩⟩
  · rintro s1 ⟨k1, e7, e6, a1⟩
    exact ⟨fun y2 => y2.toInt = (if k = 2 then 2 else 0), fun y2 hy2 => fin s1 k1 e7 e6 a1 y2 hy2, fun d => by rw [if_neg (fun hx => hy.mpr hx d)]; rfl, fun d => by rw [if_pos (hy.mp d)]; rfl⟩
  · have k43 : Kp [] [43] w (upF w 43 (setv 100 (w 43) (w (65 + j) 4) (1 : Int32))) := kp_F kp_rf rfl
    refine xl_emit (fun _ s1 k1 => ?_)
    have kz : Kp [(4, 1), (6, 3), (6, 4), (7, 7)] [24, 43] w s1 := kp_tr (kp_sub k43 rfl rfl) (e24 k1)
    exact ⟨stq_kp kz, (kp_tr (kp_sub k43 (fs' := [(4, 1)]) (cs' := [24, 43]) rfl rfl) (kp_sub k1 rfl rfl)) 7 7 rfl rfl, (kp_tr (kp_sub k43 (fs' := [(4, 1)]) (cs' := [24, 43]) rfl rfl) (kp_sub k1 rfl rfl)) 6 3 rfl rfl, av_kp hA kz⟩
end XCN
end

section
/-! the steps of expressions: the class's, signs before, casts, choices, calls -/
def uyB (sg k ty : Int) : Prop := if sg = 61 ∨ sg = 62 then ¬ (1 ≤ k ∧ k ≤ 3) else if sg = 48 then ¬ (1 ≤ k ∧ k ≤ 3) ∨ 9 ≤ ty else if sg = 45 then ty < 1 else ivB sg ty
def uyK (sg : Int) : Int := if sg = 45 then 3 else 0
def uyT (sg ty : Int) : Int := if sg = 61 ∨ sg = 62 then ty else if sg = 48 then ty + 1 else if sg = 45 then ty - 1 else 0
def uyF (sg k f : Int) : Int := if sg = 48 then (if k = 2 then 2 else 0) else if sg = 44 ∨ sg = 59 ∨ sg = 60 then (if f = 1 then 1 else 0) else 0
def chB (ty ty2 z2 ty3 z3 : Int) : Prop := ty = -1 ∨ ¬ (((ty3 = ty2 ∧ ty2 ≠ -1) ∨ (0 < ty2 ∧ z3 ≠ 0)) ∨ ((ty2 = ty3 ∧ ty3 ≠ -1) ∨ (0 < ty3 ∧ z2 ≠ 0)))
section XCO
variable {w s t : St} {j : Nat} {k ty h z f i k2 ty2 h2 z2 f2 i2 k3 ty3 h3 z3 f3 i3 sg : Int} {x x2 x3 a b c d : Int32}
theorem xt_unary {Q : St → Prop} (hc : (w 7 7).toInt = (j : Int) + 1) (hj : j < 500) (h0 : (w 6 3).toInt = 0) (hA : AVq w (65 + j) k ty h z f x i) (hk : 0 ≤ k ∧ k ≤ 3) (hty : -2 ≤ ty ∧ ty ≤ 100) (hh : 0 ≤ h ∧ h ≤ 100) (hs : (atv 16002 (w 13) a).toInt = sg) (hr : UNq sg)
    (kk : ∀ s, STx j w s → (s 7 7).toInt = (j : Int) + 1 → (∃ i', AVq s (65 + j) (uyK sg) (uyT sg ty) (1 + h) 0 (uyF sg k f) (ivq sg x) i') → ((s 6 3).toInt ≠ 0 ↔ uyB sg k ty ∨ 60 < 1 + h) → Q s) : pk_X2_unary a w Q := by
  unfold pk_X2_unary pk_X2_kindOf
  refine xl_top hc hj ⟨sg = 61 ∨ sg = 62, fun hsg => xt_step hc hj h0 hA hh (fun s k1 e7 a1 f1 => kk s k1 e7 ⟨0, ?_⟩ ?_), fun e => Or.inl (by omega), fun e => ⟨fun e2 => ?_, fun e2 => Or.inr (by omega)⟩⟩
  · have e1 : uyK sg = 0 := by unfold uyK; rw [if_neg (by omega)]
    have e2 : uyT sg ty = ty := by unfold uyT; rw [if_pos hsg]
    have e3 : uyF sg k f = 0 := by unfold uyF; rw [if_neg (by omega), if_neg (by omega)]
    rw [e1, e2, e3]
    exact ⟨a1.1, a1.2.1, a1.2.2.1, a1.2.2.2.1, a1.2.2.2.2.1, fun hf => absurd hf (by decide), fun hi => absurd hi (by decide)⟩
  · rw [f1, uyB, if_pos hsg]
  rw [hs] at e e2
  refine ⟨fun s => STx j w s ∧ (s 7 7).toInt = (j : Int) + 1 ∧ (∃ i', AVq s (65 + j) (uyK sg) (uyT sg ty) h 0 (uyF sg k f) (ivq sg x) i') ∧ ((s 6 3).toInt ≠ 0 ↔ uyB sg k ty), ?_, ?_⟩
  · rintro s1 ⟨k1, e7, ⟨i', a1⟩, f1⟩
    have e1 := hgt1 a1.2.2.1 hh
    refine xl_raise a1 hj (fun s7 k7 e77 a7 f7 => kk s7 (stq_tr k1 k7) (by rw [e77]; exact e7) ⟨i', by rw [e1] at a7; exact a7⟩ (by rw [f7, f1, e1]))
  · rw [hs]
    refine ⟨fun n48 => ⟨fun n45 => xl_loaded hA hk hj (fun s1 k1 e6 e7 a1 => xl_invert (sg := sg) a1 hj (by rw [e6]; exact h0) hs (by omega) (fun s2 k2' e72 a2 f2' => ⟨stq_tr k1 k2', by rw [e72, e7]; exact hc, ⟨0, ?_⟩, ?_⟩)), fun n45 => xl_loaded hA hk hj (fun s1 k1 e6 e7 a1 => xl_pointed a1 hj hty (fun s2 k2' e72 a2 _ f2' => ⟨stq_tr k1 k2', by rw [e72, e7]; exact hc, ⟨(s2 (65 + j) 4).toInt, ?_⟩, ?_⟩))⟩, fun n48 => ?_⟩
    · have e1 : uyK sg = 0 := by unfold uyK; rw [if_neg n45]
      have e3 : uyT sg ty = 0 := by unfold uyT; rw [if_neg (by omega), if_neg n48, if_neg n45]
      have e4 : uyF sg k f = if f = 1 then 1 else 0 := by unfold uyF; rw [if_neg n48, if_pos (by omega)]
      rw [e1, e3, e4]
      exact a2
    · rw [f2', uyB, if_neg (by omega), if_neg n48, if_neg n45]
    · have e1 : uyK sg = 3 := by unfold uyK; rw [if_pos n45]
      have e3 : uyT sg ty = ty - 1 := by unfold uyT; rw [if_neg (by omega), if_neg n48, if_pos n45]
      have e4 : uyF sg k f = 0 := by unfold uyF; rw [if_neg n48, if_neg (by omega)]
      rw [e1, e3, e4]
      exact ⟨a2.1, a2.2.1, a2.2.2.1, a2.2.2.2.1, a2.2.2.2.2.1, fun hf => absurd hf (by decide), a2.2.2.2.2.2.2⟩
    · rw [f2', e6, h0, uyB, if_neg (by omega), if_neg n48, if_pos n45]
      exact ⟨fun hx => by rcases hx with hx | hx; exact absurd rfl hx; exact hx, Or.inr⟩
    · have e1 : uyK sg = 0 := by unfold uyK; rw [if_neg (by omega)]
      have e3 : uyT sg ty = ty + 1 := by unfold uyT; rw [if_neg (by omega), if_pos n48]
      have e4 : uyF sg k f = if k = 2 then 2 else 0 := by unfold uyF; rw [if_pos n48]
      have ub : uyB sg k ty ↔ ¬ (1 ≤ k ∧ k ≤ 3) ∨ 9 ≤ ty := by unfold uyB; rw [if_neg (by omega), if_pos n48]
      have nf : (if k = 2 then (2 : Int) else 0) ≠ 1 := by split <;> omega
      have main : ∀ v38 : Int32, (v38.toInt ≠ 0 ↔ 1 ≤ k ∧ k ≤ 3) → ∃ J58 : St → Prop, (∀ (s58 : St), J58 s58 → (pk_X2_address (65 + j) s58 (fun s60 => (STx j w s60 ∧ (s60 7 7).toInt = (j : Int) + 1 ∧ (∃ i', AVq s60 (65 + j) (uyK sg) (uyT sg ty) h 0 (uyF sg k f) (ivq sg x) i') ∧ ((s60 6 3).toInt ≠ 0 ↔ uyB sg k ty))))) ∧ (∃ J53 : Prop, (J53 → (pk_X2_refuse a w (fun s55 => J58 s55))) ∧ ((v38.toInt = 0 → (J53)) ∧ (v38.toInt ≠ 0 → (((w (65 + j) 1).toInt < 9 → (J58 w)) ∧ (9 ≤ (w (65 + j) 1).toInt → (J53)))))) := by
        intro v38 hv
        refine ⟨fun s => STx j w s ∧ s 7 7 = w 7 7 ∧ AVq s (65 + j) k ty h z f x i ∧ ((s 6 3).toInt ≠ 0 ↔ ¬ (1 ≤ k ∧ k ≤ 3) ∨ 9 ≤ ty), ?_, ¬ (1 ≤ k ∧ k ≤ 3) ∨ 9 ≤ ty, fun hb => xl_refuse (fun s2 k2' f2' => ⟨stq_kp (e63 k2'), k2' 7 7 rfl rfl, av_kp hA (e63 k2'), ⟨fun _ => hb, fun _ => f2'⟩⟩), fun d => Or.inl (fun hx => hv.mpr hx d), fun d => ⟨fun d2 => ⟨stq_rf, rfl, hA, ?_⟩, fun d2 => Or.inr (by have := hA.2.1; omega)⟩⟩
        · rintro s1 ⟨k1, e7, a1, f1⟩
          refine xl_address a1 hj hty (fun s2 k2' e72 e62 a2 => ⟨stq_tr k1 k2', by rw [e72, e7]; exact hc, ⟨0, ?_⟩, by rw [e62, f1, ub]⟩)
          rw [e1, e3, e4]
          exact ⟨a2.1, a2.2.1, a2.2.2.1, a2.2.2.2.1, a2.2.2.2.2.1, fun hf => absurd hf nf, a2.2.2.2.2.2.2⟩
        · rw [h0]
          refine ⟨fun hx => absurd rfl hx, fun hx => ?_⟩
          rcases hx with hx | hx
          · exact absurd (hv.mp d) hx
          · have := hA.2.1
            omega
      exact xl_isPlace hA.1 (fun hp => main 1 ⟨fun _ => hp, fun _ => by decide⟩) (fun hp => main 0 ⟨fun hx => absurd rfl hx, fun hx => absurd hx hp⟩)
theorem xt_cast {Q : St → Prop} (hc : (w 7 7).toInt = (j : Int) + 1) (hj : j < 500) (h0 : (w 6 3).toInt = 0) (hA : AVq w (65 + j) k ty h z f x i) (hk : 0 ≤ k ∧ k ≤ 3) (hh : 0 ≤ h ∧ h ≤ 100)
    (kk : ∀ s, STx j w s → (s 7 7).toInt = (j : Int) + 1 → AVq s (65 + j) 0 b.toInt (1 + h) 0 0 0 0 → ((s 6 3).toInt ≠ 0 ↔ ty = -1 ∨ 60 < 1 + h) → Q s) : pk_X2_cast a b w Q := by
  unfold pk_X2_cast
  refine xl_top hc hj (xl_loaded hA hk hj (fun s0 k0 e60 e70 a0 => ⟨fun s => STx j w s ∧ s 7 7 = w 7 7 ∧ AVq s (65 + j) 0 ty h z f x i ∧ ((s 6 3).toInt ≠ 0 ↔ ty = -1), ?_, fun d => ⟨k0, e70, a0, by rw [e60, h0]; exact ⟨fun hx => absurd rfl hx, fun hx => by have := a0.2.1; omega⟩⟩, fun d => xl_refuse (fun s2 k2' f2' => ⟨stq_tr k0 (stq_kp (e63 k2')), (k2' 7 7 rfl rfl).trans e70, av_kp a0 (e63 k2'), ⟨fun _ => by have := a0.2.1; omega, fun _ => f2'⟩⟩)⟩))
  rintro s1 ⟨k1, e7, a1, f1⟩
  have a1' : AVq s1 (65 + j) 0 ty h z f (s1 (65 + j) 8) i := ⟨a1.1, a1.2.1, a1.2.2.1, a1.2.2.2.1, a1.2.2.2.2.1, fun _ => rfl, a1.2.2.2.2.2.2⟩
  refine xl_become a1' hj (fun hf => absurd hf (by decide)) (fun s5 k5 e65 e75 a5 o5 n5 => ?_)
  have e1 := hgt1 a5.2.2.1 hh
  refine xl_raise a5 hj (fun s7 k7 e77 a7 f7 => kk s7 (stq_tr k1 (stq_tr k5 k7)) ?_ ?_ ?_)
  · rw [e77, e75, e7]
    exact hc
  · rw [e1] at a7
    exact ⟨a7.1, a7.2.1, a7.2.2.1, a7.2.2.2.1, a7.2.2.2.2.1, fun hf => absurd hf (by decide), fun hi => absurd hi (by decide)⟩
  · rw [e1, e65] at f7
    rw [f7, f1]
theorem xl_unless {Q : Int32 → St → Prop} {q : Nat} (kk : ∀ v s, Kp [(4, 1)] [24] w s → Q v s) : pk_X2_unless q b w Q := by
  unfold pk_X2_unless
  refine ⟨True, fun _ => xl_emit kk, fun _ => trivial, fun _ => ?_⟩
  unfold pk_X6_isConstant
  exact ⟨fun _ => ⟨fun _ => trivial, fun e => absurd rfl e⟩, fun _ => ⟨fun e => absurd e (by decide), fun _ => xl_cut (fun s ks => ⟨fun _ => xl_emit (fun v s2 k2' => kk v s2 (kp_tr ks k2')), fun _ => kk _ s ks⟩)⟩⟩
theorem xt_quest {Q : St → Prop} (hc : (w 7 7).toInt = (j : Int) + 1) (hj : j < 500) (hA : AVq w (65 + j) k ty h z f x i) (hk : 0 ≤ k ∧ k ≤ 3) (kk : ∀ s, STx j w s → (s 7 7).toInt = (j : Int) + 1 → s 6 3 = w 6 3 → AVq s (65 + j) 0 ty h z f x i → Q s) :
    pk_X2_top w (fun u216 => pk_X2_top w (fun u222 => pk_X2_loaded u222 w (fun u225 s225 => pk_X2_unless u225 ((-1) : Int32) s225 (fun v229 s229 => ∀ s45n : St, s45n = upC s229 u216 10 v229 → (Q s45n))))) := by
  refine xl_top hc hj (xl_top hc hj (xl_loaded hA hk hj (fun s0 k0 e60 e70 a0 => xl_unless (fun v s1 k1 s2 e2 => ?_))))
  subst e2
  refine kk _ (stq_tr k0 (stq_tr (stq_kp (e24 k1)) (stq_op hj))) ?_ ?_ (av_up (av_kp a0 (e24 k1)) (by decide))
  · rw [rdC_ne (by omega), k1 7 7 rfl rfl, e70]
    exact hc
  · rw [rdC_ne (by omega), k1 6 3 rfl rfl, e60]
theorem xt_colon {Q : St → Prop} (hc : (w 7 7).toInt = (j : Int) + 2) (hj : j < 498) (hA : AVq w (65 + j) 0 ty h z f x i) (hB : AVq w (65 + (j + 1)) k2 ty2 h2 z2 f2 x2 i2) (hk : 0 ≤ k2 ∧ k2 ≤ 3) (kk : ∀ s, STx j w s → (s 7 7).toInt = (j : Int) + 2 → s 6 3 = w 6 3 → AVq s (65 + j) 0 ty h z f x i → AVq s (65 + (j + 1)) 0 ty2 h2 z2 f2 x2 i2 → Q s) : pk_X2_colon w Q := by
  unfold pk_X2_colon
  refine xl_top (j := j + 1) (by omega) (by omega) (xl_loaded hB hk (by omega) (fun s0 k0 e60 e70 b0 => ?_))
  have a0 : AVq s0 (65 + j) 0 ty h z f x i := av_eq hA (fun m => k0.2 j m (by omega))
  have e : ((s0 7 7) - (2 : Int32)).toInt = j := by rw [e70, sbc (n := 2) (by decide) (by omega) (by omega)]; omega
  refine ⟨fun y => y = 65 + j, fun y _ hy => ?_, False, fun hf => hf.elim, fun d => by rw [e70] at d; omega, fun d => ⟨fun d2 => by rw [e70] at d2; omega, fun _ _ => by rw [show ((s0 7 7) - (2 : Int32)).toNatClampNeg = j from by rw [nt', e]; rfl]⟩⟩
  subst hy
  refine xl_emit (fun v s1 k1 => xl_aim (fun s2 k2' s3 e3 => ?_))
  subst e3
  have kz := e24 (kp_tr k1 k2')
  have b1 := av_kp b0 kz
  refine kk _ (stq_tr (stq_le k0 (by omega)) (stq_tr (stq_kp kz) (stq_op (by omega)))) ?_ ?_ (av_up (av_kp a0 kz) (by decide)) (av_eq b1 (fun m => by rw [rdC_ne (by omega)]))
  · rw [rdC_ne (by omega), (kp_tr k1 k2') 7 7 rfl rfl, e70]
    exact hc
  · rw [rdC_ne (by omega), (kp_tr k1 k2') 6 3 rfl rfl, e60]
theorem xt_choice {Q : St → Prop} (hc : (w 7 7).toInt = (j : Int) + 3) (hj : j < 497) (h0 : (w 6 3).toInt = 0) (hA : AVq w (65 + j) 0 ty h z f x i) (hB : AVq w (65 + (j + 1)) 0 ty2 h2 z2 f2 x2 i2) (hC : AVq w (65 + (j + 2)) k3 ty3 h3 z3 f3 x3 i3) (hk : 0 ≤ k3 ∧ k3 ≤ 3) (hh : 0 ≤ h ∧ h ≤ 100 ∧ 0 ≤ h2 ∧ h2 ≤ 100 ∧ 0 ≤ h3 ∧ h3 ≤ 100)
    (kk : ∀ s, STx j w s → (s 7 7).toInt = (j : Int) + 1 → AVq s (65 + j) 0 (mxq ty2 ty3) (1 + mxq h (mxq h2 h3)) 0 0 0 0 → ((s 6 3).toInt ≠ 0 ↔ chB ty ty2 z2 ty3 z3 ∨ 60 < 1 + mxq h (mxq h2 h3)) → Q s) : pk_X2_choice a w Q := by
  unfold pk_X2_choice
  refine xl_pop (j := j + 2) (by omega) (by omega) hC hk (fun s1 k1 e6 e7 c1 => ?_)
  have b1 : AVq s1 (65 + (j + 1)) 0 ty2 h2 z2 f2 x2 i2 := av_eq hB (fun m => k1.2 (j + 1) m (by omega))
  have a1 : AVq s1 (65 + j) 0 ty h z f x i := av_eq hA (fun m => k1.2 j m (by omega))
  unfold pk_X2_pop
  refine xl_top (j := j + 1) (by omega) (by omega) ?_
  unfold pk_X2_loaded
  refine xl_isPlace b1.1 (fun hp => by omega) (fun _ => ⟨fun _ => ⟨fun d => by omega, fun _ => ?_⟩, fun e => absurd rfl e⟩)
  have kp7 : Kp [(7, 7)] [] s1 (upC s1 7 7 ((s1 7 7) - (1 : Int32))) := kp_f kp_rf rfl
  have e72 : (upC s1 7 7 ((s1 7 7) - (1 : Int32)) 7 7).toInt = (j : Int) + 1 := by rw [rdA_eq rfl, sb1 (by omega), e7]; omega
  generalize upC s1 7 7 ((s1 7 7) - (1 : Int32)) = s2 at kp7 e72
  have kz : Kp [(4, 1), (6, 3), (6, 4), (7, 7)] [24, 43] s1 s2 := kp_sub kp7 rfl rfl
  refine xl_top (j := j) e72 (by omega) (xl_aim (fun s3 k3' => ?_))
  have kz2 := kp_tr kz (e24 k3')
  have a3 := av_kp a1 kz2
  have b3 := av_kp b1 kz2
  have c3 := av_kp c1 kz2
  have e63' : (s3 6 3).toInt = 0 := by rw [k3' 6 3 rfl rfl, kp7 6 3 rfl rfl, e6]; exact h0
  have e73 : (s3 7 7).toInt = (j : Int) + 1 := by rw [k3' 7 7 rfl rfl]; exact e72
  refine ⟨fun s => STx j w s ∧ s 7 7 = s3 7 7 ∧ AVq s (65 + j) 0 ty h z f x i ∧ AVq s (65 + (j + 1)) 0 ty2 h2 z2 f2 x2 i2 ∧ AVq s (65 + (j + 2)) 0 ty3 h3 z3 f3 x3 i3 ∧ ((s 6 3).toInt ≠ 0 ↔ chB ty ty2 z2 ty3 z3), ?_, chB ty ty2 z2 ty3 z3, fun hb => xl_refuse (fun s4 k4 f4 => ⟨stq_tr (stq_le k1 (by omega)) (stq_tr (stq_kp kz2) (stq_kp (e63 k4))), k4 7 7 rfl rfl, av_kp a3 (e63 k4), av_kp b3 (e63 k4), av_kp c3 (e63 k4), ⟨fun _ => hb, fun _ => f4⟩⟩), fun d => Or.inl (by have := a3.2.1; omega), fun d => ?_⟩
  · rintro s4 ⟨k4, e74, a4, b4, c4, f4⟩
    have a4' : AVq s4 (65 + j) 0 ty h z f (s4 (65 + j) 8) i := ⟨a4.1, a4.2.1, a4.2.2.1, a4.2.2.2.1, a4.2.2.2.2.1, fun _ => rfl, a4.2.2.2.2.2.2⟩
    refine xl_become a4' (by omega) (fun hf => absurd hf (by decide)) (fun s5 k5 e65 e75 a5 o5 n5 => ?_)
    have et : (if (s4 (65 + (j + 1)) 1) < (s4 (65 + (j + 2)) 1) then (s4 (65 + (j + 2)) 1) else (s4 (65 + (j + 1)) 1)).toInt = mxq ty2 ty3 := by rw [mx_int, b4.2.1, c4.2.1]
    have eb : (s4 (65 + (j + 1)) 2).toInt = h2 := b4.2.2.1
    have ec : (s4 (65 + (j + 2)) 2).toInt = h3 := c4.2.2.1
    have em2 : (if (s4 (65 + (j + 1)) 2) < (s4 (65 + (j + 2)) 2) then (s4 (65 + (j + 2)) 2) else (s4 (65 + (j + 1)) 2)).toInt = mxq h2 h3 := by rw [mx_int, eb, ec]
    have r1 := mxq_r (h := h2) (h2 := h3) ⟨hh.2.2.1, hh.2.2.2.1⟩ ⟨hh.2.2.2.2.1, hh.2.2.2.2.2⟩
    have r2 := mxq_r (h := h) (h2 := mxq h2 h3) ⟨hh.1, hh.2.1⟩ r1
    have em : (if (s4 (65 + j) 2) < (if (s4 (65 + (j + 1)) 2) < (s4 (65 + (j + 2)) 2) then (s4 (65 + (j + 2)) 2) else (s4 (65 + (j + 1)) 2)) then (if (s4 (65 + (j + 1)) 2) < (s4 (65 + (j + 2)) 2) then (s4 (65 + (j + 2)) 2) else (s4 (65 + (j + 1)) 2)) else (s4 (65 + j) 2)).toInt = mxq h (mxq h2 h3) := by rw [mx_int, em2, a4.2.2.1]
    have e1 : ((1 : Int32) + (if (s4 (65 + j) 2) < (if (s4 (65 + (j + 1)) 2) < (s4 (65 + (j + 2)) 2) then (s4 (65 + (j + 2)) 2) else (s4 (65 + (j + 1)) 2)) then (if (s4 (65 + (j + 1)) 2) < (s4 (65 + (j + 2)) 2) then (s4 (65 + (j + 2)) 2) else (s4 (65 + (j + 1)) 2)) else (s4 (65 + j) 2))).toInt = 1 + mxq h (mxq h2 h3) := by rw [ad (by rw [em, i1]; omega) (by rw [em, i1]; omega), em, i1]
    refine xl_raise a5 (by omega) (fun s7 k7 e77 a7 f7 => kk s7 (stq_tr k4 (stq_tr k5 k7)) ?_ ?_ ?_)
    · rw [e77, e75, e74]
      exact e73
    · rw [e1, et] at a7
      exact ⟨a7.1, a7.2.1, a7.2.2.1, a7.2.2.2.1, a7.2.2.2.2.1, fun hf => absurd hf (by decide), fun hi => absurd hi (by decide)⟩
    · rw [e1, e65] at f7
      rw [f7, f4]
  · have ok : ¬ chB ty ty2 z2 ty3 z3 → STx j w s3 ∧ s3 7 7 = s3 7 7 ∧ AVq s3 (65 + j) 0 ty h z f x i ∧ AVq s3 (65 + (j + 1)) 0 ty2 h2 z2 f2 x2 i2 ∧ AVq s3 (65 + (j + 2)) 0 ty3 h3 z3 f3 x3 i3 ∧ ((s3 6 3).toInt ≠ 0 ↔ chB ty ty2 z2 ty3 z3) := fun hn => ⟨stq_tr (stq_le k1 (by omega)) (stq_kp kz2), rfl, a3, b3, c3, by rw [e63']; exact ⟨fun hx => absurd rfl hx, fun hx => absurd hx hn⟩⟩
    have t1 : ty ≠ -1 := by have := a3.2.1; omega
    refine xl_fits c3.2.1 c3.2.2.2.1 (fun v hv0 hv => ⟨fun d2 => ok (fun hb => ?_), fun d2 => xl_fits b3.2.1 b3.2.2.2.1 (fun v2 hv20 hv2 => ⟨fun d3 => ok (fun hb => ?_), fun d3 => Or.inr (fun hb => ?_)⟩)⟩)
    · have h5 := hv.mp (by omega)
      rw [b3.2.1] at h5
      rcases hb with hb | hb
      · exact t1 hb
      · exact hb (Or.inl h5)
    · have h5 := hv2.mp (by omega)
      rw [c3.2.1] at h5
      rcases hb with hb | hb
      · exact t1 hb
      · exact hb (Or.inr h5)
    · rcases hb with hb | hb
      · rw [← b3.2.1] at hb
        have := hv.mpr hb
        omega
      · rw [← c3.2.1] at hb
        have := hv2.mpr hb
        omega
/-- a call's arguments: parameters of a signature -/
def sgN (sig : Int32) : Int := (ushr sig (24 : Int32)).toInt
def sgT (sig n : Int32) : Int := ((ushr sig ((3 : Int32) * n)) &&& (7 : Int32)).toInt
def agB (sig n : Int32) (ty z : Int) : Prop := sgN sig ≤ n.toInt ∨ ¬ ((ty = sgT sig n ∧ sgT sig n ≠ -1) ∨ (0 < sgT sig n ∧ z ≠ 0))
theorem xt_argument {Q : St → Prop} {n m : Int32} {sig : Int32} (hc : (w 7 7).toInt = (j : Int) + 2) (hj : j < 498) (hA : AVq w (65 + j) 4 ty h z f x i) (hn : w (65 + j) 11 = n) (hm : w (65 + j) 12 = m) (hn9 : 0 ≤ n.toInt ∧ n.toInt ≤ 20000) (hB : AVq w (65 + (j + 1)) k2 ty2 h2 z2 f2 x2 i2) (hk : 0 ≤ k2 ∧ k2 ≤ 3) (hsig : atv 10100 (w 27) (w (65 + j) 4) = sig)
    (kk : ∀ s, STx j w s → (s 7 7).toInt = (j : Int) + 1 → s 6 3 = w 6 3 → AVq s (65 + j) 4 ty (mxq h h2) z f x i → (s (65 + j) 11).toInt = n.toInt + 1 → ((s (65 + j) 12).toInt ≠ 0 ↔ m.toInt ≠ 0 ∨ agB sig n ty2 z2) → Q s) : pk_X2_argument w Q := by
  unfold pk_X2_argument pk_X8_parameters pk_X8_parameter
  refine xl_pop (j := j + 1) (by omega) (by omega) hB hk (fun s1 k1 e6 e7 b1 => xl_top (j := j) e7 (by omega) ?_)
  have a1 : AVq s1 (65 + j) 4 ty h z f x i := av_eq hA (fun m => k1.2 j m (by omega))
  have o1 : ∀ m, s1 (65 + j) m = w (65 + j) m := fun m => k1.2 j m (by omega)
  have e27 : s1 27 = w 27 := ko_rd k1.1 27 (by omega) rfl (fun _ => rfl)
  rw [e27, o1 4, hsig, o1 11, hn]
  refine ⟨fun s => STx j w s ∧ s 7 7 = s1 7 7 ∧ s 6 3 = w 6 3 ∧ AVq s (65 + j) 4 ty h z f x i ∧ s (65 + j) 11 = n ∧ ((s (65 + j) 12).toInt ≠ 0 ↔ m.toInt ≠ 0 ∨ agB sig n ty2 z2) ∧ (s (65 + (j + 1)) 2).toInt = h2, ?_, agB sig n ty2 z2, fun hb => ?_, fun d => Or.inl d, fun d => xl_fits b1.2.1 b1.2.2.2.1 (fun v hv0 hv => ⟨fun d2 => ⟨stq_le k1 (by omega), rfl, e6, a1, by rw [o1 11, hn], ?_, b1.2.2.1⟩, fun d2 => Or.inr (fun hb => ?_)⟩)⟩
  · rintro s2 ⟨k2', e72, e62, a2, n2, m2, hb2⟩
    rintro s4 rfl s6 rfl
    have e11 : (upC s2 (65 + j) 11 ((s2 (65 + j) 11) + (1 : Int32))) (65 + (j + 1)) 2 = s2 (65 + (j + 1)) 2 := by rw [rdC_ne (by omega)]
    have e12 : (upC s2 (65 + j) 11 ((s2 (65 + j) 11) + (1 : Int32))) (65 + j) 2 = s2 (65 + j) 2 := by rw [rdA_ne (by decide)]
    rw [e11, e12]
    obtain ⟨q0, q1, q2, q3, q4, q5, q6⟩ := a2
    refine kk _ (stq_tr k2' (stq_tr (stq_op (by omega)) (stq_op (by omega)))) ?_ ?_ ⟨?_, ?_, ?_, ?_, ?_, fun hf => ?_, fun hi => ?_⟩ ?_ ?_
    · rw [rdC_ne (by omega), rdC_ne (by omega), e72]
      exact e7
    · rw [rdC_ne (by omega), rdC_ne (by omega)]
      exact e62
    · rw [rdA_ne (by decide), rdA_ne (by decide)]
      exact q0
    · rw [rdA_ne (by decide), rdA_ne (by decide)]
      exact q1
    · rw [rdA_eq rfl, mx_int, q2, hb2]
    · rw [rdA_ne (by decide), rdA_ne (by decide)]
      exact q3
    · rw [rdA_ne (by decide), rdA_ne (by decide)]
      exact q4
    · rw [rdA_ne (by decide), rdA_ne (by decide)]
      exact q5 hf
    · rw [rdA_ne (by decide), rdA_ne (by decide)]
      exact q6 hi
    · rw [rdA_ne (by decide), rdA_eq rfl, n2, ad0 i1 (by omega) (by omega)]
    · rw [rdA_ne (by decide), rdA_ne (by decide)]
      exact m2
  · rintro s9 rfl
    refine ⟨stq_tr (stq_le k1 (by omega)) (stq_op (by omega)), ?_, ?_, av_up a1 (by decide), ?_, ?_, ?_⟩
    · rw [rdC_ne (by omega)]
    · rw [rdC_ne (by omega)]
      exact e6
    · rw [rdA_ne (by decide), o1 11, hn]
    · rw [rdA_eq rfl]
      exact ⟨fun _ => Or.inr hb, fun _ => by decide⟩
    · rw [rdC_ne (by omega)]
      exact b1.2.2.1
  · rw [o1 12, hm]
    refine ⟨Or.inl, fun hx => ?_⟩
    rcases hx with hx | hx
    · exact hx
    · have h5 := hv.mp (by omega)
      rcases hx with hx | hx
      · unfold sgN at hx
        omega
      · exact absurd h5 hx
  · have := hv.mpr hb
    omega
theorem xt_call {Q : St → Prop} {n m : Int32} {sig : Int32} (hc : (w 7 7).toInt = (j : Int) + 1) (hj : j < 500) (h0 : (w 6 3).toInt = 0) (hA : AVq w (65 + j) 4 ty h z f x i) (hn : w (65 + j) 11 = n) (hm : w (65 + j) 12 = m) (hsig : atv 10100 (w 27) (w (65 + j) 4) = sig) (hh : 0 ≤ h ∧ h ≤ 100)
    (kk : ∀ s, STx j w s → (s 7 7).toInt = (j : Int) + 1 → AVq s (65 + j) 0 ty (1 + h) 0 0 0 0 → ((s 6 3).toInt ≠ 0 ↔ (m.toInt ≠ 0 ∨ n.toInt ≠ sgN sig) ∨ 60 < 1 + h) → Q s) : pk_X2_call a w Q := by
  unfold pk_X2_call pk_X8_parameters pk_X2_lineOf
  refine xl_top hc hj ?_
  rw [hsig, hn, hm]
  refine ⟨fun s => STx j w s ∧ s 7 7 = w 7 7 ∧ AVq s (65 + j) 4 ty h z f x i ∧ ((s 6 3).toInt ≠ 0 ↔ (m.toInt ≠ 0 ∨ n.toInt ≠ sgN sig)), ?_, m.toInt ≠ 0 ∨ n.toInt ≠ sgN sig, fun hb => xl_refuse (fun s2 k2' f2' => ⟨stq_kp (e63 k2'), k2' 7 7 rfl rfl, av_kp hA (e63 k2'), ⟨fun _ => hb, fun _ => f2'⟩⟩), fun d => Or.inl d, fun d => ⟨fun d2 => ⟨stq_rf, rfl, hA, by rw [h0]; exact ⟨fun hx => absurd rfl hx, fun hx => by rcases hx with hx | hx; exact absurd d hx; exact absurd d2 hx⟩⟩, fun d2 => Or.inr d2⟩⟩
  rintro s1 ⟨k1, e7, a1, f1⟩
  refine xl_emit (fun _ s2 k2' => ?_)
  have a2 := av_kp a1 (e24 k2')
  have a2' : AVq s2 (65 + j) 4 ty h z f (s2 (65 + j) 8) i := ⟨a2.1, a2.2.1, a2.2.2.1, a2.2.2.2.1, a2.2.2.2.2.1, fun _ => rfl, a2.2.2.2.2.2.2⟩
  refine xl_become a2' hj (fun hf => absurd hf (by decide)) (fun s5 k5 e65 e75 a5 o5 n5 => ?_)
  have e1 : ((s5 (65 + j) 2) + (1 : Int32)).toInt = 1 + h := by rw [ad0 i1 (by rw [a5.2.2.1]; omega) (by rw [a5.2.2.1]; omega), a5.2.2.1]; omega
  refine xl_raise a5 hj (fun s7 k7 e77 a7 f7 => kk s7 (stq_tr k1 (stq_tr (stq_kp (e24 k2')) (stq_tr k5 k7))) ?_ ?_ ?_)
  · rw [e77, e75, k2' 7 7 rfl rfl, e7]
    exact hc
  · rw [e1, a2.2.1] at a7
    exact ⟨a7.1, a7.2.1, a7.2.2.1, a7.2.2.2.1, a7.2.2.2.2.1, fun hf => absurd hf (by decide), fun hi => absurd hi (by decide)⟩
  · rw [e1, e65, k2' 6 3 rfl rfl] at f7
    rw [f7, f1]
end XCO
end

