/-! the steps of expressions: what the class's do to operands -/
/-- an operand: kind, type, height, zero, form, value, index -/
def AVq (w : St) (q : Nat) (k t h z f : Int) (x : Int32) (i : Int) : Prop := (w q 0).toInt = k ∧ (w q 1).toInt = t ∧ (w q 2).toInt = h ∧ (w q 3).toInt = z ∧ (w q 6).toInt = f ∧ (f = 1 → w q 8 = x) ∧ (1 ≤ k → (w q 4).toInt = i)
/-- what a step leaves: but for code, faults, the count of operands, which locals have cells -/
def STx (j : Nat) (a b : St) : Prop := Ko [(4, 1), (6, 3), (6, 4), (7, 7)] [24, 43] a b ∧ LOW j a b
def tyq (sg ta tb za zb : Int) : Int :=
  if ta = -1 ∨ tb = -1 then -2 else if sg = 57 ∨ sg = 58 then 0
  else if sg = 51 ∨ sg = 52 then (if ta = tb ∨ (0 < tb ∧ za ≠ 0) ∨ (0 < ta ∧ zb ≠ 0) then 0 else -2)
  else if 53 ≤ sg ∧ sg ≤ 56 then (if ta = tb then 0 else -2)
  else if sg = 43 then (if tb = 0 then ta else if ta = 0 then tb else -2)
  else if sg = 44 then (if tb = 0 then ta else if ta = tb then 0 else -2)
  else if ta = 0 ∧ tb = 0 then 0 else -2
def fcq (sg fa fb : Int) (xb : Int32) : Int :=
  if fa = 1 ∧ fb = 1 ∧ sg < 57 ∧ ¬ ((sg = 46 ∨ sg = 47) ∧ xb.toInt = 0) then 1 else if (sg = 43 ∨ sg = 44) ∧ fa = 2 ∧ fb = 1 then 2 else if sg = 43 ∧ fa = 1 ∧ fb = 2 then 2 else 0
/-- of two constants, by a sign -/
def wkq (sg : Int) (a b : Int32) : Int32 :=
  if sg = 41 then a <<< ((b &&& (31 : Int32)) &&& 31) else if sg = 42 then a >>> ((b &&& (31 : Int32)) &&& 31) else if sg = 43 then a + b else if sg = 44 then a - b else if sg = 45 then a * b
  else if sg = 46 then a / b else if sg = 47 then a - a / b * b else if sg = 48 then a &&& b else if sg = 49 then a ||| b else if sg = 50 then a ^^^ b
  else if (sg = 51 ∧ a.toInt = b.toInt) ∨ (sg = 52 ∧ a.toInt ≠ b.toInt) ∨ (sg = 53 ∧ a.toInt < b.toInt) ∨ (sg = 54 ∧ b.toInt < a.toInt) ∨ (sg = 55 ∧ a.toInt ≤ b.toInt) ∨ (sg = 56 ∧ b.toInt ≤ a.toInt) then 1 else 0
def mxq (a b : Int) : Int := if a < b then b else a
section XCL
variable {w s t : St} {q j : Nat} {k ty h z f i : Int} {x a b c d : Int32}
theorem op_in (hj : j < 500) : isOp (65 + j) := Or.inr ⟨by omega, by omega⟩
theorem stq_rf : STx j w w := ⟨ko_rf, low_rf⟩
theorem stq_tr (h : STx j w s) (g : STx j s t) : STx j w t := ⟨ko_tr h.1 g.1, low_tr h.2 g.2⟩
theorem stq_le {j2 : Nat} (h : STx j w s) (hj : j2 ≤ j) : STx j2 w s := ⟨h.1, low_le h.2 hj⟩
theorem stq_kp (h : Kp [(4, 1), (6, 3), (6, 4), (7, 7)] [24, 43] w s) : STx j w s := ⟨ko_kp h, fun i k _ => h (65 + i) k (by
  have : ¬ (65 + i = 4) ∧ ¬ (65 + i = 6) ∧ ¬ (65 + i = 7) := by omega
  simp only [List.contains_cons, List.contains_nil, Bool.or_false, Bool.or_eq_false_iff, beq_eq_false_iff_ne, ne_eq, Prod.mk.injEq, not_and]
  omega) (by
  simp only [List.contains_cons, List.contains_nil, Bool.or_false, Bool.or_eq_false_iff, beq_eq_false_iff_ne, ne_eq]
  omega)⟩
theorem stq_op {k : Nat} {v : Int32} (hj : j < 500) : STx j w (upC w (65 + j) k v) := ⟨ko_op ko_rf (op_in hj), fun i m hi => by rw [rdC_ne (by omega)]⟩
theorem xl_emit {Q : Int32 → St → Prop} (kk : ∀ v s, Kp [(4, 1)] [24] w s → Q v s) : pk_X0_emit a b c d w Q := by
  unfold pk_X0_emit
  refine ⟨fun _ => kk _ _ kp_rf, fun _ => ⟨fun _ => kk _ _ kp_rf, fun _ _ _ _ _ => ⟨fun _ => kk _ _ (kp_f (kp_a (kp_a (kp_a (kp_a kp_rf rfl) rfl) rfl) rfl) rfl), fun _ => ⟨fun _ => kk _ _ (kp_f (kp_a (kp_a (kp_a (kp_a kp_rf rfl) rfl) rfl) rfl) rfl), fun _ _ => kk _ _ (kp_f (kp_a (kp_a (kp_a (kp_a kp_rf rfl) rfl) rfl) rfl) rfl)⟩⟩⟩⟩
theorem xl_cut {Q : St → Prop} (kk : ∀ s, Kp [(4, 1)] [24] w s → Q s) : pk_X0_cut a w Q := kk _ (kp_f kp_rf rfl)
theorem xl_aim {Q : St → Prop} (kk : ∀ s, Kp [(4, 1)] [24] w s → Q s) : pk_X0_aim a b w Q := by
  unfold pk_X0_aim
  refine ⟨fun _ _ s => Kp [(4, 1)] [24] w s, kp_rf, fun x y s ks => ⟨fun _ => kk s ks, fun _ => ⟨fun _ => kk s ks, fun _ => kp_tr ks (kp_F kp_rf rfl)⟩⟩⟩
theorem av_eq (h0 : AVq w q k ty h z f x i) (e : ∀ m, s q m = w q m) : AVq s q k ty h z f x i := by
  unfold AVq
  rw [e 0, e 1, e 2, e 3, e 4, e 6, e 8]
  exact h0
theorem av_kp (h0 : AVq w (65 + j) k ty h z f x i) (e : Kp [(4, 1), (6, 3), (6, 4), (7, 7)] [24, 43] w s) : AVq s (65 + j) k ty h z f x i := av_eq h0 (fun m => (stq_kp (j := j + 1) e).2 j m (by omega))
theorem e24 (h : Kp [(4, 1)] [24] w s) : Kp [(4, 1), (6, 3), (6, 4), (7, 7)] [24, 43] w s := kp_sub h rfl rfl
theorem xl_top {Q : Nat → Prop} (hc : (w 7 7).toInt = (j : Int) + 1) (hj : j < 500) (kk : Q (65 + j)) : pk_X2_top w Q := by
  have e : ((w 7 7) - (1 : Int32)).toInt = j := by rw [sb1 (by omega)]; omega
  unfold pk_X2_top
  refine ⟨fun c => by omega, fun c => ⟨fun c2 => by omega, fun c2 _ => ?_⟩⟩
  rw [show ((w 7 7) - (1 : Int32)).toNatClampNeg = j from by rw [nt', e]; rfl]
  exact kk
theorem xl_isPlace {Q : Int32 → Prop} (hk : (w q 0).toInt = k) (h1 : 1 ≤ k ∧ k ≤ 3 → Q 1) (h0 : ¬ (1 ≤ k ∧ k ≤ 3) → Q 0) : pk_X6_isPlace q w Q := by
  unfold pk_X6_isPlace
  exact ⟨fun c => h1 (by omega), fun c => ⟨fun c => h1 (by omega), fun c => ⟨fun c => h0 (by omega), fun c => h1 (by omega)⟩⟩⟩
/-- reads it: a place becomes a value -/
theorem xl_loaded {Q : Nat → St → Prop} (hA : AVq w (65 + j) k ty h z f x i) (hk : 0 ≤ k ∧ k ≤ 3) (hj : j < 500) (kk : ∀ s, STx j w s → (s 6 3) = w 6 3 → s 7 7 = w 7 7 → AVq s (65 + j) 0 ty h z f x i → Q (65 + j) s) : pk_X2_loaded (65 + j) w Q := by
  have go : ∀ s1 s2, Kp [(4, 1)] [24] w s1 → s2 = upC s1 (65 + j) 0 (0 : Int32) → Q (65 + j) s2 := fun s1 s2 k1 e2 => by
    have k2 : STx j w s2 := by
      rw [e2]
      exact stq_tr (stq_kp (e24 k1)) (stq_op hj)
    have a1 := av_kp hA (e24 k1)
    refine kk s2 k2 ?_ ?_ ?_
    · rw [e2, rdC_ne (by omega)]
      exact k1 6 3 rfl rfl
    · rw [e2, rdC_ne (by omega)]
      exact k1 7 7 rfl rfl
    · obtain ⟨q0, q1, q2, q3, q4, q5, q6⟩ := a1
      rw [e2]
      refine ⟨by rw [rdA_eq rfl]; rfl, by rw [rdA_ne (by decide)]; exact q1, by rw [rdA_ne (by decide)]; exact q2, by rw [rdA_ne (by decide)]; exact q3, by rw [rdA_ne (by decide)]; exact q4, fun hf => by rw [rdA_ne (by decide)]; exact q5 hf, fun h => by omega⟩
  unfold pk_X2_loaded
  refine xl_isPlace hA.1 (fun c => ⟨fun z => absurd z (by decide), fun _ => ⟨fun _ => ⟨fun _ => True, fun y _ => xl_emit (fun v s1 k1 s2 e2 => go s1 s2 k1 e2), fun _ => trivial, fun _ => trivial⟩, fun _ => xl_emit (fun v s1 k1 s2 e2 => go s1 s2 k1 e2)⟩⟩) (fun c => ⟨fun _ => kk w stq_rf rfl rfl ?_, fun z => absurd rfl z⟩)
  have : k = 0 := by omega
  subst this
  exact hA
theorem xl_pop {Q : Nat → St → Prop} (hc : (w 7 7).toInt = (j : Int) + 1) (hj : j < 500) (hA : AVq w (65 + j) k ty h z f x i) (hk : 0 ≤ k ∧ k ≤ 3) (kk : ∀ s, STx j w s → s 6 3 = w 6 3 → (s 7 7).toInt = j → AVq s (65 + j) 0 ty h z f x i → Q (65 + j) s) : pk_X2_pop w Q := by
  unfold pk_X2_pop
  refine xl_top hc hj (xl_loaded hA hk hj (fun s ks e6 e7 a1 => ⟨fun c => by rw [e7] at c; omega, fun c => ?_⟩))
  have k2 : Kp [(7, 7)] [] s (upC s 7 7 ((s 7 7) - (1 : Int32))) := kp_f kp_rf rfl
  have e77 : (upC s 7 7 ((s 7 7) - (1 : Int32)) 7 7).toInt = j := by rw [rdA_eq rfl, sb1 (by omega), e7]; omega
  generalize upC s 7 7 ((s 7 7) - (1 : Int32)) = s2 at k2 e77
  exact kk s2 (stq_tr ks (stq_kp (kp_sub k2 rfl rfl))) ((k2 6 3 rfl rfl).trans e6) e77 (av_kp a1 (kp_sub k2 rfl rfl))
theorem xl_fits {Q : Int32 → Prop} {wt : Int32} (h1 : (w q 1).toInt = ty) (h3 : (w q 3).toInt = z) (kk : ∀ v : Int32, (v.toInt = 0 ∨ v.toInt = 1) → (v.toInt = 1 ↔ (ty = wt.toInt ∧ wt.toInt ≠ -1) ∨ (0 < wt.toInt ∧ z ≠ 0)) → Q v) : pk_X6_fits q wt w Q := by
  unfold pk_X6_fits
  refine ⟨¬ (ty = wt.toInt ∧ wt.toInt ≠ -1), fun hj => ⟨fun c => kk 0 (Or.inl rfl) ⟨fun h => absurd h (by decide), fun h => by omega⟩, fun c => ⟨fun c2 => kk 0 (Or.inl rfl) ⟨fun h => absurd h (by decide), fun h => by omega⟩, fun c2 => kk 1 (Or.inr rfl) ⟨fun _ => Or.inr ⟨c, by omega⟩, fun _ => rfl⟩⟩⟩, fun c h => by omega, fun c => ⟨fun c2 => kk 1 (Or.inr rfl) ⟨fun _ => Or.inl ⟨by omega, c2⟩, fun _ => rfl⟩, fun c2 h => by omega⟩⟩
theorem xl_fail {Q : St → Prop} (ha : a.toInt ≠ 0) (kk : ∀ s, Kp [(6, 3), (6, 4)] [] w s → (s 6 3).toInt ≠ 0 → Q s) : pk_X11_fail a b w Q := by
  unfold pk_X11_fail
  refine ⟨fun c => kk w kp_rf c, fun c => kk _ (kp_f (kp_f kp_rf rfl) rfl) ?_⟩
  rw [rdA_ne (by decide), rdA_eq rfl]
  exact ha
theorem xl_refuse {Q : St → Prop} (kk : ∀ s, Kp [(6, 3), (6, 4)] [] w s → (s 6 3).toInt ≠ 0 → Q s) : pk_X2_refuse a w Q := by
  unfold pk_X2_refuse
  exact xl_fail (by decide) kk
theorem e63 (h : Kp [(6, 3), (6, 4)] [] w s) : Kp [(4, 1), (6, 3), (6, 4), (7, 7)] [24, 43] w s := kp_sub h rfl rfl
/-- its height, told behind all else -/
theorem xl_raise {Q : St → Prop} {h2 : Int32} (hA : AVq w (65 + j) k ty h z f x i) (hj : j < 500) (kk : ∀ s, STx j w s → s 7 7 = w 7 7 → AVq s (65 + j) k ty h2.toInt z f x i → ((s 6 3).toInt ≠ 0 ↔ (w 6 3).toInt ≠ 0 ∨ 60 < h2.toInt) → Q s) : pk_X2_raise (65 + j) h2 b w Q := by
  unfold pk_X2_raise
  rintro s0 rfl
  have a1 : AVq (upC w (65 + j) 2 h2) (65 + j) k ty h2.toInt z f x i := by
    obtain ⟨q0, q1, q2, q3, q4, q5, q6⟩ := hA
    refine ⟨by rw [rdA_ne (by decide)]; exact q0, by rw [rdA_ne (by decide)]; exact q1, by rw [rdA_eq rfl], by rw [rdA_ne (by decide)]; exact q3, by rw [rdA_ne (by decide)]; exact q4, fun hf => by rw [rdA_ne (by decide)]; exact q5 hf, fun hi => by rw [rdA_ne (by decide)]; exact q6 hi⟩
  have e6 : upC w (65 + j) 2 h2 6 3 = w 6 3 := by rw [rdC_ne (by omega)]
  have e7 : upC w (65 + j) 2 h2 7 7 = w 7 7 := by rw [rdC_ne (by omega)]
  have k1 : STx j w (upC w (65 + j) 2 h2) := stq_op hj
  generalize upC w (65 + j) 2 h2 = s at a1 e6 e7 k1
  refine ⟨fun c => kk s k1 e7 a1 (by rw [e6]; exact ⟨Or.inl, fun h => by rcases h with h | h <;> omega⟩), fun c => xl_fail (by decide) (fun s2 k2 f2 => kk s2 (stq_tr k1 (stq_kp (e63 k2))) ((k2 7 7 rfl rfl).trans e7) (av_kp a1 (e63 k2)) ⟨fun _ => Or.inr c, fun _ => f2⟩)⟩
theorem xl_become {Q : St → Prop} {t2 f2 : Int32} (hA : AVq w (65 + j) k ty h z f x i) (hj : j < 500) (hf : f2.toInt = 1 → w (65 + j) 8 = x) (kk : ∀ s, STx j w s → s 6 3 = w 6 3 → s 7 7 = w 7 7 → AVq s (65 + j) 0 t2.toInt h 0 f2.toInt x 0 → (∀ m, m = 2 ∨ 4 ≤ m ∧ m ≠ 6 → s (65 + j) m = w (65 + j) m) → (∀ c m, c ≠ 65 + j → s c m = w c m) → Q s) : pk_X6_become (65 + j) t2 f2 w Q := by
  unfold pk_X6_become
  rintro s0 rfl s2 rfl s4 rfl s6 rfl
  refine kk _ (stq_tr (stq_tr (stq_tr (stq_op hj) (stq_op hj)) (stq_op hj)) (stq_op hj)) ?_ ?_ ?_ (fun m hm => ?_) (fun c m hcm => by rw [rdC_ne hcm, rdC_ne hcm, rdC_ne hcm, rdC_ne hcm])
  · rw [rdC_ne (by omega), rdC_ne (by omega), rdC_ne (by omega), rdC_ne (by omega)]
  · rw [rdC_ne (by omega), rdC_ne (by omega), rdC_ne (by omega), rdC_ne (by omega)]
  · refine ⟨?_, ?_, ?_, ?_, ?_, fun h => ?_, fun h => by omega⟩
    · rw [rdA_ne (by decide), rdA_ne (by decide), rdA_ne (by decide), rdA_eq rfl]
      rfl
    · rw [rdA_ne (by decide), rdA_ne (by decide), rdA_eq rfl]
    · rw [rdA_ne (by decide), rdA_ne (by decide), rdA_ne (by decide), rdA_ne (by decide)]
      exact hA.2.2.1
    · rw [rdA_eq rfl]
      rfl
    · rw [rdA_ne (by decide), rdA_eq rfl]
    · rw [rdA_ne (by decide), rdA_ne (by decide), rdA_ne (by decide), rdA_ne (by decide)]
      exact hf h
  · rw [rdA_ne (by omega), rdA_ne (by omega), rdA_ne (by omega), rdA_ne (by omega)]
theorem xl_fold {Q : St → Prop} (hA : AVq w (65 + j) k ty h z f x i) (kk : ∀ s, Kp [(4, 1)] [24] w s → Q s) : pk_X2_fold (65 + j) w Q := by
  unfold pk_X2_fold
  refine ⟨fun _ => kk w kp_rf, fun _ => ?_⟩
  unfold pk_X6_isConstant
  exact ⟨fun _ => ⟨fun _ => kk w kp_rf, fun z => absurd rfl z⟩, fun _ => ⟨fun z => absurd z (by decide), fun _ => xl_cut (fun s ks => xl_emit (fun _ s2 k2 => kk s2 (kp_tr ks k2)))⟩⟩
theorem xl_operate {Q : St → Prop} (kk : ∀ s, Kp [(4, 1)] [24] w s → Q s) : pk_X2_operate a b c w Q := by
  unfold pk_X2_operate
  exact ⟨fun _ => True, fun y _ _ => ⟨fun _ => True, fun y2 _ => xl_emit (fun _ s ks => kk s ks), fun _ => trivial, fun _ => trivial⟩, True, fun _ => trivial, fun _ => trivial, fun _ => ⟨fun _ => trivial, fun _ => ⟨fun _ => trivial, fun _ => trivial⟩⟩⟩
theorem mx_int {a b : Int32} : (if a < b then b else a).toInt = mxq a.toInt b.toInt := by
  unfold mxq
  by_cases c : a < b
  · rw [if_pos c, if_pos (i_lt.mp c)]
  · rw [if_neg c, if_neg (fun h => c (i_lt.mpr h))]
end XCL
