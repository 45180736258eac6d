/-! the steps of expressions: the class's, one by one -/
section XCM
variable {w s t : St} {j : Nat} {k ty h z f i k2 ty2 h2 z2 f2 i2 sg : Int} {x x2 a b c d : Int32}
theorem xl_push {Q : Nat → St → Prop} (hc : (w 7 7).toInt = (j : Int)) (hj : j < 500) (kk : ∀ s, STx j w s → s 6 3 = w 6 3 → (s 7 7).toInt = (j : Int) + 1 → AVq s (65 + j) 0 0 1 0 0 0 0 → (s (65 + j) 11).toInt = 0 ∧ (s (65 + j) 12).toInt = 0 → Q (65 + j) s) : pk_X2_push w Q := by
  unfold pk_X2_push
  refine ⟨fun y => y = 65 + j, fun y _ hy => ?_, False, fun hf => hf.elim, fun c => by omega, fun c => ⟨fun c2 => by omega, fun _ _ => by rw [show (w 7 7).toNatClampNeg = j from by rw [nt', hc]; rfl]⟩⟩
  subst hy
  unfold pk_X6_reset
  rintro s0 rfl s2 rfl s4 rfl s6 rfl s8 rfl s10 rfl s12 rfl s14 rfl s16 rfl s18 rfl s20 rfl s22 rfl s24 rfl
  generalize hv : upC (upC (upC (upC (upC (upC (upC (upC (upC (upC (upC (upC (upC w (65 + j) 0 (0 : Int32)) (65 + j) 1 (0 : Int32)) (65 + j) 2 (1 : Int32)) (65 + j) 3 (0 : Int32)) (65 + j) 4 ((-1) : Int32)) (65 + j) 5 (0 : Int32)) (65 + j) 6 (0 : Int32)) (65 + j) 7 ((-2) : Int32)) (65 + j) 8 (0 : Int32)) (65 + j) 9 (w 4 1)) (65 + j) 10 ((-1) : Int32)) (65 + j) 11 (0 : Int32)) (65 + j) 12 (0 : Int32) = v
  have kv : STx j w v := by
    rw [← hv]
    exact stq_tr (stq_tr (stq_tr (stq_tr (stq_tr (stq_tr (stq_tr (stq_tr (stq_tr (stq_tr (stq_tr (stq_tr (stq_op hj) (stq_op hj)) (stq_op hj)) (stq_op hj)) (stq_op hj)) (stq_op hj)) (stq_op hj)) (stq_op hj)) (stq_op hj)) (stq_op hj)) (stq_op hj)) (stq_op hj)) (stq_op hj)
  have ev : ∀ c m, c ≠ 65 + j → v c m = w c m := fun c m hcm => by
    rw [← hv]
    rw [rdC_ne hcm, rdC_ne hcm, rdC_ne hcm, rdC_ne hcm, rdC_ne hcm, rdC_ne hcm, rdC_ne hcm, rdC_ne hcm, rdC_ne hcm, rdC_ne hcm, rdC_ne hcm, rdC_ne hcm, rdC_ne hcm]
  have r : ∀ m, v (65 + j) m = if m = 12 then 0 else if m = 11 then 0 else if m = 10 then -1 else if m = 9 then w 4 1 else if m = 8 then 0 else if m = 7 then -2 else if m = 6 then 0 else if m = 5 then 0 else if m = 4 then -1 else if m = 3 then 0 else if m = 2 then 1 else if m = 1 then 0 else if m = 0 then 0 else w (65 + j) m := fun m => by
    rw [← hv]
    simp only [rdA]
  have k2 : Kp [(7, 7)] [] v (upC v 7 7 ((v 7 7) + (1 : Int32))) := kp_f kp_rf rfl
  have e77 : (upC v 7 7 ((v 7 7) + (1 : Int32)) 7 7).toInt = (j : Int) + 1 := by rw [rdA_eq rfl, ev 7 7 (by omega), ad0 i1 (by omega) (by omega), hc]
  generalize upC v 7 7 ((v 7 7) + (1 : Int32)) = s at k2 e77
  have es : ∀ m, s (65 + j) m = v (65 + j) m := fun m => (stq_kp (j := j + 1) (kp_sub k2 rfl rfl)).2 j m (by omega)
  refine kk s (stq_tr kv (stq_kp (kp_sub k2 rfl rfl))) ((k2 6 3 rfl rfl).trans (ev 6 3 (by omega))) e77 ⟨?_, ?_, ?_, ?_, ?_, fun h => absurd h (by decide), fun h => absurd h (by decide)⟩ ⟨?_, ?_⟩
  · rw [es, r]; rfl
  · rw [es, r]; rfl
  · rw [es, r]; rfl
  · rw [es, r]; rfl
  · rw [es, r]; rfl
  · rw [es, r]; rfl
  · rw [es, r]; rfl
/-- one field of an operand -/
theorem av_up {m : Nat} {v : Int32} (hA : AVq w (65 + j) k ty h z f x i) (hm : m ≠ 0 ∧ m ≠ 1 ∧ m ≠ 2 ∧ m ≠ 3 ∧ m ≠ 4 ∧ m ≠ 6 ∧ m ≠ 8) : AVq (upC w (65 + j) m v) (65 + j) k ty h z f x i := by
  obtain ⟨q0, q1, q2, q3, q4, q5, q6⟩ := hA
  exact ⟨by rw [rdA_ne (by omega)]; exact q0, by rw [rdA_ne (by omega)]; exact q1, by rw [rdA_ne (by omega)]; exact q2, by rw [rdA_ne (by omega)]; exact q3, by rw [rdA_ne (by omega)]; exact q4, fun hf => by rw [rdA_ne (by omega)]; exact q5 hf, fun hi => by rw [rdA_ne (by omega)]; exact q6 hi⟩
theorem xt_number {Q : St → Prop} {v : Int32} (hc : (w 7 7).toInt = (j : Int)) (hj : j < 500) (hv : atv 16002 (w 14) a = v) (kk : ∀ s, STx j w s → s 6 3 = w 6 3 → (s 7 7).toInt = (j : Int) + 1 → AVq s (65 + j) 0 0 1 (if v.toInt = 0 then 1 else 0) 1 v 0 → Q s) : pk_X2_number a w Q := by
  unfold pk_X2_number
  refine xl_push hc hj (fun s1 k1 e6 e7 hA _ => ?_)
  rintro s2 rfl s3 rfl
  have e14 : s1 14 = w 14 := ko_rd k1.1 14 (by omega) rfl (fun _ => rfl)
  have e14b : upC s1 (65 + j) 6 (1 : Int32) 14 = w 14 := by
    rw [rdC_ne (by omega)]
    exact e14
  rw [e14b, hv]
  obtain ⟨q0, q1, q2, q3, q4, q5, q6⟩ := hA
  have fin : ∀ y : Int32, y.toInt = (if v.toInt = 0 then 1 else 0) → ∀ s6, s6 = upC (upC (upC s1 (65 + j) 6 (1 : Int32)) (65 + j) 8 v) (65 + j) 3 y → pk_X0_emit (1 : Int32) (s6 (65 + j) 8) (0 : Int32) (0 : Int32) s6 (fun v52 s52 => Q s52) := fun y hy s6 h6 => by
    subst h6
    refine xl_emit (fun _ s ks => kk s (stq_tr k1 (stq_tr (stq_op hj) (stq_tr (stq_op hj) (stq_tr (stq_op hj) (stq_kp (e24 ks)))))) ?_ ?_ (av_kp ⟨?_, ?_, ?_, ?_, ?_, fun _ => ?_, fun h => absurd h (by decide)⟩ (e24 ks)))
    · rw [ks 6 3 rfl rfl, rdC_ne (by omega), rdC_ne (by omega), rdC_ne (by omega)]
      exact e6
    · rw [ks 7 7 rfl rfl, rdC_ne (by omega), rdC_ne (by omega), rdC_ne (by omega)]
      exact e7
    · rw [rdA_ne (by decide), rdA_ne (by decide), rdA_ne (by decide)]
      exact q0
    · rw [rdA_ne (by decide), rdA_ne (by decide), rdA_ne (by decide)]
      exact q1
    · rw [rdA_ne (by decide), rdA_ne (by decide), rdA_ne (by decide)]
      exact q2
    · rw [rdA_eq rfl]
      exact hy
    · rw [rdA_ne (by decide), rdA_ne (by decide), rdA_eq rfl]
      rfl
    · rw [rdA_ne (by decide), rdA_eq rfl]
  refine ⟨fun y => y.toInt = (if v.toInt = 0 then 1 else 0), fun y _ hy s6 h6 => fin y hy s6 h6, fun c => ?_, fun c => ?_⟩
  · rw [rdA_eq rfl] at c
    rw [if_neg c]
    rfl
  · rw [rdA_eq rfl] at c
    rw [if_pos c]
    rfl
theorem xl_fetch {Q : St → Prop} {q : Nat} (kk : ∀ s, Kp [(4, 1)] [24] w s → Q s) : pk_X2_fetch q b w Q := by
  unfold pk_X2_fetch
  refine ⟨fun _ => xl_isPlace rfl (fun _ => ⟨fun z => absurd z (by decide), fun _ => ⟨fun _ => True, fun y _ => xl_emit (fun _ s ks => kk s ks), fun _ => trivial, fun _ => trivial⟩⟩) (fun _ => ⟨fun _ => kk w kp_rf, fun z => absurd rfl z⟩), fun _ => xl_emit (fun _ s ks => kk s ks)⟩
theorem xt_left {Q : St → Prop} (hc : (w 7 7).toInt = (j : Int) + 1) (hj : j < 500) (hA : AVq w (65 + j) k ty h z f x i) (hk : 0 ≤ k ∧ k ≤ 3) (hs : (atv 16002 (w 13) a).toInt = sg) (kk : ∀ s, STx j w s → s 6 3 = w 6 3 → (s 7 7).toInt = (j : Int) + 1 → AVq s (65 + j) (if 30 ≤ sg ∧ sg ≤ 40 then k else 0) ty h z f x i → Q s) : pk_X2_left a w Q := by
  unfold pk_X2_left pk_X2_kindOf
  refine xl_top hc hj ⟨fun s => STx j w s ∧ s 6 3 = w 6 3 ∧ (s 7 7).toInt = (j : Int) + 1 ∧ AVq s (65 + j) (if 30 ≤ sg ∧ sg ≤ 40 then k else 0) ty h z f x i, ?_, ?_⟩
  · rintro s ⟨k1, e6, e7, a1⟩
    refine ⟨True, fun _ => ⟨fun _ => True, fun y _ => xl_emit (fun v s1 ks s2 e2 => ?_), fun _ => trivial, fun _ => trivial⟩, fun _ => trivial, fun _ => ⟨fun _ => kk s k1 e6 e7 a1, fun _ => trivial⟩⟩
    subst e2
    refine kk _ (stq_tr k1 (stq_tr (stq_kp (e24 ks)) (stq_op hj))) ?_ ?_ (av_up (av_kp a1 (e24 ks)) (by decide))
    · rw [rdC_ne (by omega), ks 6 3 rfl rfl]
      exact e6
    · rw [rdC_ne (by omega), ks 7 7 rfl rfl]
      exact e7
  · refine ⟨¬ (31 ≤ sg ∧ sg ≤ 40), fun hj1 => ⟨fun c => ⟨stq_rf, rfl, hc, by rw [if_pos (by omega)]; exact hA⟩, fun c => xl_loaded hA hk hj (fun s k1 e6 e7 a1 => ⟨k1, e6, by rw [e7]; exact hc, by rw [if_neg (by omega)]; exact a1⟩)⟩, fun c h => by omega, fun c => ⟨fun c2 h => by omega, fun c2 => ?_⟩⟩
    exact xl_fetch (fun s ks => ⟨stq_kp (e24 ks), ks 6 3 rfl rfl, by rw [ks 7 7 rfl rfl]; exact hc, by rw [if_pos (by omega)]; exact av_kp hA (e24 ks)⟩)
theorem xl_typeOf {Q : Int32 → Prop} {q1 q2 : Nat} (hs : a.toInt = sg) (h1 : (w q1 1).toInt = ty) (h2 : (w q2 1).toInt = ty2) (z1 : (w q1 3).toInt = z) (hz2 : (w q2 3).toInt = z2) (kk : ∀ v : Int32, v.toInt = tyq sg ty ty2 z z2 → Q v) : pk_X2_typeOf a q1 q2 w Q := by
  have m2 : ((-2 : Int32)).toInt = -2 := by decide
  have m0 : ((0 : Int32)).toInt = 0 := by decide
  unfold pk_X2_typeOf
  refine ⟨fun c => kk _ ?_, fun c => ⟨fun c2 => ⟨fun y => (y.toInt = 1 ↔ ty = ty2) ∧ (y.toInt = 0 ∨ y.toInt = 1), fun y _ hy => ⟨¬ (sg = 43 ∨ sg = 44 ∨ (51 ≤ sg ∧ sg ≤ 58)), fun hj => ⟨fun d => kk _ ?_, fun d => ⟨fun d2 => kk _ ?_, fun d2 => kk _ ?_⟩⟩, 53 ≤ sg ∧ sg ≤ 56, fun hj => ⟨fun d => kk _ ?_, fun d => kk _ ?_⟩, sg = 51 ∨ sg = 52, fun hj => xl_fits h1 z1 (fun v hv0 hv => ⟨fun d => kk _ ?_, fun d => xl_fits h2 hz2 (fun v2 hv20 hv2 => ⟨fun d2 => kk _ ?_, fun d2 => kk _ ?_⟩)⟩), ?_⟩, fun d => ⟨⟨fun h => absurd h (by decide), fun h => by omega⟩, Or.inl rfl⟩, fun d => ⟨⟨fun _ => by omega, fun _ => rfl⟩, Or.inr rfl⟩⟩, fun c2 => kk _ ?_⟩⟩
  · unfold tyq
    rw [if_pos (by omega), m2]
  · unfold tyq
    (repeat' split) <;> omega
  · unfold tyq
    (repeat' split) <;> omega
  · unfold tyq
    (repeat' split) <;> omega
  · unfold tyq
    (repeat' split) <;> omega
  · unfold tyq
    (repeat' split) <;> omega
  · unfold tyq
    (repeat' split) <;> omega
  · unfold tyq
    (repeat' split) <;> omega
  · unfold tyq
    (repeat' split) <;> omega
  · have g43 : sg = 43 → ((ty2 ≠ 0 → (ty ≠ 0 → Q (-2)) ∧ (ty = 0 → Q (w q2 1))) ∧ (ty2 = 0 → Q (w q1 1))) := fun hsg => ⟨fun d => ⟨fun d2 => kk _ (by unfold tyq; (repeat' split) <;> omega), fun d2 => kk _ (by unfold tyq; (repeat' split) <;> omega)⟩, fun d => kk _ (by unfold tyq; (repeat' split) <;> omega)⟩
    have g44 : sg = 44 → ((ty2 ≠ 0 → (y.toInt = 0 → Q (-2)) ∧ (y.toInt ≠ 0 → Q 0)) ∧ (ty2 = 0 → Q (w q1 1))) := fun hsg => ⟨fun d => ⟨fun d2 => kk _ (by unfold tyq; (repeat' split) <;> omega), fun d2 => kk _ (by unfold tyq; (repeat' split) <;> omega)⟩, fun d => kk _ (by unfold tyq; (repeat' split) <;> omega)⟩
    have g57 : sg = 57 ∨ sg = 58 → Q 0 := fun hsg => kk _ (by unfold tyq; (repeat' split) <;> omega)
    rw [h1, h2]
    rw [hs]
    refine ⟨fun c => g43 c, fun n1 => ⟨fun c => g44 c, fun n2 => ⟨fun c => by omega, fun n3 => ⟨fun c => by omega, fun n4 => ⟨fun c => by omega, fun n5 => ⟨fun c => by omega, fun n6 => ⟨fun c => by omega, fun n7 => ⟨fun c => by omega, fun n8 => ⟨fun c => by omega, fun n9 => ⟨fun c => by omega, fun n10 => ⟨fun c => by omega, fun n11 => ⟨fun c => by omega, fun n12 => ⟨fun c => by omega, fun n13 => ⟨fun c => by omega, fun n14 => ⟨fun c => g57 (Or.inl c), fun n15 => ⟨fun c => g57 (Or.inr c), fun n16 => by omega⟩⟩⟩⟩⟩⟩⟩⟩⟩⟩⟩⟩⟩⟩⟩⟩
  · unfold tyq
    rw [if_pos (by omega), m2]
theorem xl_compared {Q : Int32 → Prop} (hs : a.toInt = sg) (h5 : 51 ≤ sg ∧ sg ≤ 56) (kk : ∀ v : Int32, (v.toInt = 0 ∨ v.toInt = 1) → (v.toInt = 1 ↔ ((sg = 51 ∧ b.toInt = c.toInt) ∨ (sg = 52 ∧ b.toInt ≠ c.toInt) ∨ (sg = 53 ∧ b.toInt < c.toInt) ∨ (sg = 54 ∧ c.toInt < b.toInt) ∨ (sg = 55 ∧ b.toInt ≤ c.toInt) ∨ (sg = 56 ∧ c.toInt ≤ b.toInt))) → Q v) : pk_X5_compared a b c w Q := by
  have k0 : ¬ ((sg = 51 ∧ b.toInt = c.toInt) ∨ (sg = 52 ∧ b.toInt ≠ c.toInt) ∨ (sg = 53 ∧ b.toInt < c.toInt) ∨ (sg = 54 ∧ c.toInt < b.toInt) ∨ (sg = 55 ∧ b.toInt ≤ c.toInt) ∨ (sg = 56 ∧ c.toInt ≤ b.toInt)) → Q 0 := fun hn => kk 0 (Or.inl rfl) ⟨fun h => absurd h (by decide), fun h => absurd h hn⟩
  have k1 : ((sg = 51 ∧ b.toInt = c.toInt) ∨ (sg = 52 ∧ b.toInt ≠ c.toInt) ∨ (sg = 53 ∧ b.toInt < c.toInt) ∨ (sg = 54 ∧ c.toInt < b.toInt) ∨ (sg = 55 ∧ b.toInt ≤ c.toInt) ∨ (sg = 56 ∧ c.toInt ≤ b.toInt)) → Q 1 := fun hn => kk 1 (Or.inr rfl) ⟨fun _ => hn, fun _ => rfl⟩
  unfold pk_X5_compared
  rw [hs]
  exact ⟨fun e => ⟨fun d => k0 (by omega), fun d => k1 (by omega)⟩, fun n1 => ⟨fun e => ⟨fun d => k0 (by omega), fun d => k1 (by omega)⟩, fun n2 => ⟨fun e => ⟨fun d => k0 (by omega), fun d => k1 (by omega)⟩, fun n3 => ⟨fun e => ⟨fun d => k0 (by omega), fun d => k1 (by omega)⟩, fun n4 => ⟨fun e => ⟨fun d => k0 (by omega), fun d => k1 (by omega)⟩, fun n5 => ⟨fun e => ⟨fun d => k0 (by omega), fun d => k1 (by omega)⟩, fun n6 => by omega⟩⟩⟩⟩⟩⟩
theorem xl_worked {Q : Int32 → Prop} (hs : a.toInt = sg) (hr : 41 ≤ sg ∧ sg ≤ 56) (hq : ¬ ((sg = 46 ∨ sg = 47) ∧ c.toInt = 0)) (kk : Q (wkq sg b c)) : pk_X5_worked a b c w Q := by
  unfold pk_X5_worked
  rw [hs]
  unfold wkq at kk
  by_cases c1 : sg = 41
  · rw [if_pos c1] at kk
    exact ⟨fun _ => kk, fun n => absurd c1 n⟩
  rw [if_neg c1] at kk
  refine ⟨fun e => absurd e c1, fun _ => ?_⟩
  by_cases c2 : sg = 42
  · rw [if_pos c2] at kk
    exact ⟨fun _ => kk, fun n => absurd c2 n⟩
  rw [if_neg c2] at kk
  refine ⟨fun e => absurd e c2, fun _ => ?_⟩
  by_cases c3 : sg = 43
  · rw [if_pos c3] at kk
    exact ⟨fun _ => kk, fun n => absurd c3 n⟩
  rw [if_neg c3] at kk
  refine ⟨fun e => absurd e c3, fun _ => ?_⟩
  by_cases c4 : sg = 44
  · rw [if_pos c4] at kk
    exact ⟨fun _ => kk, fun n => absurd c4 n⟩
  rw [if_neg c4] at kk
  refine ⟨fun e => absurd e c4, fun _ => ?_⟩
  by_cases c5 : sg = 45
  · rw [if_pos c5] at kk
    exact ⟨fun _ => kk, fun n => absurd c5 n⟩
  rw [if_neg c5] at kk
  refine ⟨fun e => absurd e c5, fun _ => ?_⟩
  by_cases c6 : sg = 46
  · rw [if_pos c6] at kk
    exact ⟨fun _ => ⟨fun _ _ => kk, fun d => absurd ⟨Or.inl c6, d⟩ hq⟩, fun n => absurd c6 n⟩
  rw [if_neg c6] at kk
  refine ⟨fun e => absurd e c6, fun _ => ?_⟩
  by_cases c7 : sg = 47
  · rw [if_pos c7] at kk
    exact ⟨fun _ => ⟨fun _ _ => kk, fun d => absurd ⟨Or.inr c7, d⟩ hq⟩, fun n => absurd c7 n⟩
  rw [if_neg c7] at kk
  refine ⟨fun e => absurd e c7, fun _ => ?_⟩
  by_cases c8 : sg = 48
  · rw [if_pos c8] at kk
    exact ⟨fun _ => kk, fun n => absurd c8 n⟩
  rw [if_neg c8] at kk
  refine ⟨fun e => absurd e c8, fun _ => ?_⟩
  by_cases c9 : sg = 49
  · rw [if_pos c9] at kk
    exact ⟨fun _ => kk, fun n => absurd c9 n⟩
  rw [if_neg c9] at kk
  refine ⟨fun e => absurd e c9, fun _ => ?_⟩
  by_cases c10 : sg = 50
  · rw [if_pos c10] at kk
    exact ⟨fun _ => kk, fun n => absurd c10 n⟩
  rw [if_neg c10] at kk
  refine ⟨fun e => absurd e c10, fun _ => xl_compared hs (by omega) (fun v hv0 hv => ⟨fun d => ?_, fun d => ?_⟩)⟩
  · rw [if_neg (fun hh => by have := hv.mpr hh; omega)] at kk
    exact kk
  · rw [if_pos (hv.mp (by omega))] at kk
    exact kk
/-- form and value of two sides -/
theorem xl_combine {Q : St → Prop} (hs : a.toInt = sg) (hr : 41 ≤ sg ∧ sg ≤ 58) (hA : AVq w (65 + j) k ty h z f x i) (hB : (w (65 + (j + 1)) 6).toInt = f2) (hB8 : f2 = 1 → w (65 + (j + 1)) 8 = x2) (hj : j < 500) (kk : ∀ s, STx j w s → (∀ c m, c ≠ 65 + j → s c m = w c m) → AVq s (65 + j) k ty h z (fcq sg f f2 x2) (wkq sg x x2) i → Q s) : pk_X2_combine a (65 + j) (65 + (j + 1)) w Q := by
  obtain ⟨q0, q1, q2, q3, q4, q5, q6⟩ := hA
  -- the form alone
  have go6 : ∀ v : Int32, v.toInt = fcq sg f f2 x2 → v.toInt ≠ 1 → Q (upC w (65 + j) 6 v) := fun v hv h1 => by
    refine kk _ (stq_op hj) (fun c m hcm => by rw [rdC_ne hcm]) ⟨by rw [rdA_ne (by decide)]; exact q0, by rw [rdA_ne (by decide)]; exact q1, by rw [rdA_ne (by decide)]; exact q2, by rw [rdA_ne (by decide)]; exact q3, by rw [rdA_eq rfl]; exact hv, fun h => by omega, fun hi => by rw [rdA_ne (by decide)]; exact q6 hi⟩
  have go8 : ∀ v : Int32, fcq sg f f2 x2 = f → (f = 1 → v = wkq sg x x2) → Q (upC w (65 + j) 8 v) := fun v hf hv => by
    refine kk _ (stq_op hj) (fun c m hcm => by rw [rdC_ne hcm]) ⟨by rw [rdA_ne (by decide)]; exact q0, by rw [rdA_ne (by decide)]; exact q1, by rw [rdA_ne (by decide)]; exact q2, by rw [rdA_ne (by decide)]; exact q3, by rw [rdA_ne (by decide), hf]; exact q4, fun h => by rw [rdA_eq rfl]; exact hv (by omega), fun hi => by rw [rdA_ne (by decide)]; exact q6 hi⟩
  have z0 : ((0 : Int32)).toInt = 0 := by decide
  have isC : ∀ (q : Nat) (fv : Int) (P : Int32 → Prop), (w q 6).toInt = fv → (fv = 1 → P 1) → (fv ≠ 1 → P 0) → pk_X6_isConstant q w P := fun q fv P h1 hp hn => by
    unfold pk_X6_isConstant
    exact ⟨fun c => hn (by omega), fun c => hp (by omega)⟩
  unfold pk_X2_combine
  refine ⟨fun y => f2 = 1 → (y.toInt = 0 ↔ ¬ ((sg = 46 ∨ sg = 47) ∧ x2.toInt = 0)), fun y hy0 hy => ⟨fun y2 => y2.toInt = 0 ↔ ¬ (sg = 43 ∨ sg = 44), fun y2 hy20 hy2 => isC _ f _ q4 (fun c => ?_) (fun c => ?_), ?_⟩, ?_⟩
  -- left is a constant
  · subst c
    refine ⟨¬ (f2 = 1 ∧ sg < 57 ∧ ¬ ((sg = 46 ∨ sg = 47) ∧ x2.toInt = 0)), fun hj1 => ⟨True, fun _ => ⟨fun e => ?_, fun e => ?_⟩, fun _ => trivial, fun e => ⟨fun _ => trivial, fun e2 => by omega⟩⟩, fun e => absurd e (by decide), fun _ => isC _ f2 _ hB (fun c2 => ⟨fun e => absurd e (by decide), fun _ => ⟨fun e => by omega, fun e => ⟨fun e2 => ?_, fun e2 => ?_⟩⟩⟩) (fun c2 => ⟨fun _ => by omega, fun e => absurd rfl e⟩)⟩
    · rintro s6 rfl
      refine go6 0 ?_ (by decide)
      rw [z0, fcq, if_neg (by omega), if_neg (by omega), if_neg (by omega)]
    · refine isC _ 1 _ q4 (fun _ => ⟨fun e2 => absurd e2 (by decide), fun _ => ⟨fun e3 => ?_, fun e3 => ?_⟩⟩) (fun c2 => absurd rfl c2)
      · rintro s15 rfl
        refine go6 0 ?_ (by decide)
        rw [z0, fcq, if_neg (by omega), if_neg (by omega), if_neg (by omega)]
      · rintro s18 rfl s20 rfl s22 rfl
        have hf : fcq sg 1 f2 x2 = 2 := by rw [fcq, if_neg (by omega), if_neg (by omega), if_pos (by omega)]
        refine kk _ (stq_tr (stq_op hj) (stq_tr (stq_op hj) (stq_op hj))) (fun c m hcm => by rw [rdC_ne hcm, rdC_ne hcm, rdC_ne hcm]) ⟨by rw [rdA_ne (by decide), rdA_ne (by decide), rdA_ne (by decide)]; exact q0, by rw [rdA_ne (by decide), rdA_ne (by decide), rdA_ne (by decide)]; exact q1, by rw [rdA_ne (by decide), rdA_ne (by decide), rdA_ne (by decide)]; exact q2, by rw [rdA_ne (by decide), rdA_ne (by decide), rdA_ne (by decide)]; exact q3, by rw [rdA_ne (by decide), rdA_ne (by decide), rdA_eq rfl, hf]; rfl, fun h => by omega, fun hi => by rw [rdA_ne (by decide), rdA_ne (by decide), rdA_ne (by decide)]; exact q6 hi⟩
    · exact fun hq => e2 ((hy c2).mpr hq.2.2)
    · have hn := (hy c2).mp e2
      rw [q5 rfl, hB8 c2]
      refine xl_worked hs (by omega) hn ?_
      rintro s44 rfl
      refine go8 _ ?_ (fun _ => rfl)
      rw [fcq, if_pos ⟨rfl, c2, by omega, hn⟩]
  -- left is none
  · refine ⟨True, fun _ => ⟨¬ ((sg = 43 ∨ sg = 44) ∧ f = 2 ∧ f2 = 1), fun hj1 => ⟨fun e => ?_, fun e => isC _ f _ q4 (fun c2 => absurd c2 c) (fun _ => ⟨fun _ => ?_, fun e2 => absurd rfl e2⟩)⟩, fun e => by omega, fun e => ⟨fun e2 => by omega, fun e2 => isC _ f2 _ hB (fun c2 => ⟨fun e3 => absurd e3 (by decide), fun _ => ?_⟩) (fun c2 => ⟨fun _ => by omega, fun e3 => absurd rfl e3⟩)⟩⟩, fun _ => trivial, fun e => absurd rfl e⟩
    · rintro s6 rfl
      refine go6 0 ?_ (by decide)
      rw [z0, fcq, if_neg (by omega), if_neg (by omega), if_neg (by omega)]
    · rintro s6 rfl
      refine go6 0 ?_ (by decide)
      rw [z0, fcq, if_neg (by omega), if_neg (by omega), if_neg (by omega)]
    · refine xl_worked hs (by omega) (by omega) ?_
      rintro s32 rfl
      refine go8 _ ?_ (fun h => absurd h c)
      rw [fcq, if_neg (by omega), if_pos (by omega)]
      omega
  · refine ⟨sg = 43 ∨ sg = 44, fun h => ⟨fun e => absurd e (by decide), fun e => absurd h e⟩, fun e => Or.inl (by omega), fun e => ⟨fun e2 => ⟨fun _ => by omega, fun _ => rfl⟩, fun e2 => Or.inr (by omega)⟩⟩
  · refine ⟨f2 = 1 → ¬ ((sg = 46 ∨ sg = 47) ∧ x2.toInt = 0), fun h e => ⟨fun _ => h e, fun _ => rfl⟩, sg = 46 ∨ sg = 47, fun h => ⟨fun e e2 => ?_, fun e e2 => ?_⟩, fun e => Or.inl (by omega), fun e => ⟨fun e2 _ => by omega, fun e2 => Or.inr (by omega)⟩⟩
    · rw [hB8 e2] at e
      omega
    · rw [hB8 e2] at e
      exact ⟨fun e3 => absurd e3 (by decide), fun e3 => absurd ⟨h, e⟩ e3⟩
theorem av_ne {q : Nat} (h0 : AVq w q k ty h z f x i) (e : ∀ c m, c ≠ 65 + j → s c m = w c m) (hq : q ≠ 65 + j) : AVq s q k ty h z f x i := av_eq h0 (fun m => e q m hq)
/-- two sides -/
theorem xt_binary {Q : St → Prop} (hc : (w 7 7).toInt = (j : Int) + 2) (hj : j < 498) (h0 : (w 6 3).toInt = 0) (hA : AVq w (65 + j) 0 ty h z f x i) (hB : AVq w (65 + (j + 1)) k2 ty2 h2 z2 f2 x2 i2) (hk : 0 ≤ k2 ∧ k2 ≤ 3) (hh : 0 ≤ h ∧ h ≤ 100 ∧ 0 ≤ h2 ∧ h2 ≤ 100) (hs : (atv 16002 (w 13) a).toInt = sg) (hr : 41 ≤ sg ∧ sg ≤ 58)
    (kk : ∀ s, STx j w s → (s 7 7).toInt = (j : Int) + 1 → AVq s (65 + j) 0 (tyq sg ty ty2 z z2) (1 + mxq h h2) 0 (fcq sg f f2 x2) (wkq sg x x2) 0 → ((s 6 3).toInt ≠ 0 ↔ tyq sg ty ty2 z z2 = -2 ∨ 60 < 1 + mxq h h2) → Q s) : pk_X2_binary a w Q := by
  have m2 : ((-2 : Int32)).toInt = -2 := by decide
  unfold pk_X2_binary pk_X2_kindOf
  refine xl_pop (j := j + 1) (by omega) (by omega) hB hk (fun s1 k1 e6 e7 b1 => xl_top (j := j) e7 (by omega) ?_)
  have a1 : AVq s1 (65 + j) 0 ty h z f x i := av_eq hA (fun m => k1.2 j m (by omega))
  refine xl_typeOf hs a1.2.1 b1.2.1 a1.2.2.2.1 b1.2.2.2.1 (fun v hv => ⟨fun s => STx j w s ∧ s 7 7 = s1 7 7 ∧ AVq s (65 + j) 0 ty h z f x i ∧ AVq s (65 + (j + 1)) 0 ty2 h2 z2 f2 x2 i2 ∧ ((s 6 3).toInt ≠ 0 ↔ v.toInt = -2), ?_, fun c => ⟨stq_le k1 (by omega), rfl, a1, b1, by rw [e6, h0]; exact ⟨fun h => absurd rfl h, fun h => absurd h c⟩⟩, fun c => xl_refuse (fun s2 k2 f2' => ⟨stq_tr (stq_le k1 (by omega)) (stq_kp (e63 k2)), k2 7 7 rfl rfl, av_kp a1 (e63 k2), av_kp b1 (e63 k2), ⟨fun _ => c, fun _ => f2'⟩⟩)⟩)
  rintro s2 ⟨k2', e72, a2, b2, f2'⟩
  refine ⟨fun s => STx j w s ∧ s 7 7 = s1 7 7 ∧ AVq s (65 + j) 0 ty h z f x i ∧ AVq s (65 + (j + 1)) 0 ty2 h2 z2 f2 x2 i2 ∧ ((s 6 3).toInt ≠ 0 ↔ v.toInt = -2), ?_, ?_⟩
  · rintro s3 ⟨k3, e73, a3, b3, f3⟩
    refine xl_combine hs hr a3 b3.2.2.2.2.1 b3.2.2.2.2.2.1 (by omega) (fun s4 k4 o4 a4 => ?_)
    have b4 := av_ne b3 o4 (by omega)
    refine xl_become a4 (by omega) (fun hf => a4.2.2.2.2.2.1 (by have := a4.2.2.2.2.1; omega)) (fun s5 k5 e65 e75 a5 o5 n5 => ?_)
    rw [a4.2.2.2.2.1] at a5
    refine xl_fold a5 (fun s6 k6 => ?_)
    have a6 := av_kp a5 (e24 k6)
    have eh1 := a6.2.2.1
    have eh2 : (s6 (65 + (j + 1)) 2).toInt = h2 := by
      have q1 : s6 (65 + (j + 1)) 2 = s5 (65 + (j + 1)) 2 := (stq_kp (j := j + 2) (e24 k6)).2 (j + 1) 2 (by omega)
      rw [q1, n5 _ 2 (by omega)]
      exact b4.2.2.1
    have em : (if (s6 (65 + j) 2) < (s6 (65 + (j + 1)) 2) then (s6 (65 + (j + 1)) 2) else (s6 (65 + j) 2)).toInt = mxq h h2 := by rw [mx_int, eh1, eh2]
    have hm : 0 ≤ mxq h h2 ∧ mxq h h2 ≤ 100 := by unfold mxq; split <;> omega
    have e1 : ((1 : Int32) + (if (s6 (65 + j) 2) < (s6 (65 + (j + 1)) 2) then (s6 (65 + (j + 1)) 2) else (s6 (65 + j) 2))).toInt = 1 + mxq h h2 := by
      rw [ad (by rw [em, i1]; omega) (by rw [em, i1]; omega), em, i1]
    refine xl_raise a6 (by omega) (fun s7 k7 e77 a7 f7 => kk s7 ?_ ?_ ?_ ?_)
    · exact stq_tr k3 (stq_tr k4 (stq_tr k5 (stq_tr (stq_kp (e24 k6)) k7)))
    · rw [e77, k6 7 7 rfl rfl, e75, o4 7 7 (by omega), e73]
      exact e7
    · rw [e1, hv] at a7
      exact a7
    · rw [e1, k6 6 3 rfl rfl, e65, o4 6 3 (by omega)] at f7
      rw [f7, f3, hv]
  · refine ⟨True, fun _ => xl_emit (fun _ s3 k3 => xl_aim (fun s4 k4 => ⟨stq_tr k2' (stq_kp (e24 (kp_tr k3 k4))), ?_, av_kp a2 (e24 (kp_tr k3 k4)), av_kp b2 (e24 (kp_tr k3 k4)), ?_⟩)), fun _ => trivial, fun _ => ⟨fun _ => ⟨fun _ => True, fun y2 _ _ => xl_operate (fun s3 k3 => ⟨stq_tr k2' (stq_kp (e24 k3)), ?_, av_kp a2 (e24 k3), av_kp b2 (e24 k3), ?_⟩), fun _ => trivial, fun _ => trivial⟩, fun _ => trivial⟩⟩
    · rw [(kp_tr k3 k4) 7 7 rfl rfl]
      exact e72
    · rw [(kp_tr k3 k4) 6 3 rfl rfl]
      exact f2'
    · rw [k3 7 7 rfl rfl]
      exact e72
    · rw [k3 6 3 rfl rfl]
      exact f2'
end XCM
