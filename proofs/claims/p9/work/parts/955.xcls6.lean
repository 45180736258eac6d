/-! the steps of expressions: the class's, what is called, strings -/
section XCQ
variable {w s t : St} {j : Nat} {k ty h z f i : Int} {x a b c d : Int32}
theorem xt_callee {Q : St → Prop} {S n u : Nat} (hc : (w 7 7).toInt = (j : Int)) (hj : j < 500) (h0 : (w 6 3).toInt = 0) (hu : a.toInt = (u : Int)) (un : TNq w u) (hS : LOKq w S) (hO : OOKq w n)
    (ko : ∀ s (r : Nat), LFq w S 0 u (-1) → OFq w n u r → ∀ dn : Nat, (dn : Int) = (w 5 1).toInt - n + r → dn < 10100 → ((w 25 dn) &&& (1 : Int32)).toInt ≠ 0 → STy j w s → s 6 3 = w 6 3 → (s 7 7).toInt = (j : Int) + 1 → (∀ m, s 39 m = if m = r ∧ (w 39 r).toInt < 0 then a else w 39 m) → (∀ m, s 25 m = if m = dn then (w 25 dn) ||| (8 : Int32) else w 25 m) → AVq s (65 + j) 4 (w 26 dn).toInt 0 0 0 0 dn → (s (65 + j) 11).toInt = 0 ∧ (s (65 + j) 12).toInt = 0 → Q s)
    (kb : ∀ s, (LFq w S 0 u (-1) → (OFq w n u (-1) ∨ ∃ r : Nat, OFq w n u r ∧ ∀ dn : Nat, (dn : Int) = (w 5 1).toInt - n + r → ((w 25 dn) &&& (1 : Int32)).toInt = 0)) → (s 6 3).toInt ≠ 0 → Q s) : pk_X2_callee a w Q := by
  unfold pk_X2_callee
  refine xl_localFrom (lo := 0) rfl hu un hS (fun lv hlv => ?_)
  have hO' := hO
  obtain ⟨o1, o2, o3, o4, o5⟩ := hO'
  have lvr : lv.toInt < 0 → lv.toInt = -1 := fun hx => by
    rcases hlv with ⟨j1, q1, q2, q3, q4, q5⟩ | ⟨q1, q2⟩
    · have := (hS.2.2 j1 q2).1.1
      omega
    · exact q2
  have lvn : 0 ≤ lv.toInt → ¬ LFq w S 0 u (-1) := fun hx hl => by
    rcases hlv with ⟨j1, q1, q2, q3, q4, q5⟩ | ⟨q1, q2⟩
    · rcases hl with ⟨j2, p1, p2, p3, p4, p5⟩ | ⟨p1, p2⟩
      · have := (hS.2.2 j2 p2).1.1
        omega
      · exact p1 j1 q1 q2 q3
    · omega
  refine ⟨fun y => (0 ≤ lv.toInt ∧ y.toInt = -1) ∨ (lv.toInt < 0 ∧ ∃ r, OFq w n u r ∧ ((r < 0 ∧ y.toInt < 0) ∨ (0 ≤ r ∧ y.toInt = (w 5 1).toInt - n + r))), ?_, fun c => Or.inl ⟨c, by decide⟩, fun c => xl_outerOf hu un hO (fun v r hr hv => Or.inr ⟨c, r, hr, hv⟩)⟩
  rintro y hy
  refine ⟨0 ≤ lv.toInt ∨ (lv.toInt < 0 ∧ (y.toInt < 0 ∨ ((atv 10100 (w 25) y) &&& (1 : Int32)).toInt = 0)), fun hb => xl_refuse (fun s ks fs => kb s (fun hl => ?_) fs), fun c => ?_, fun c => xl_is (fun v hv0 hv => ⟨fun c3 => ?_, fun c3 => Or.inr ⟨?_, Or.inr ?_⟩⟩)⟩
  · rcases hb with hb | ⟨hb1, hb⟩
    · exact absurd hl (lvn hb)
    rcases hy with hy | ⟨_, r, hr, hv⟩
    · omega
    · rcases hv with hv | hv
      · left
        have : r = -1 := by
          rcases hr with ⟨i', _, _, _, q2⟩ | ⟨_, q2⟩ <;> omega
        rw [← this]
        exact hr
      · right
        obtain ⟨rn, hrn⟩ : ∃ rn : Nat, r = rn := ⟨r.toNat, by omega⟩
        subst hrn
        have hr9 : rn < n := by
          rcases hr with ⟨i', q1, _, _, q2⟩ | ⟨_, q2⟩ <;> omega
        refine ⟨rn, hr, fun dn hdn => ?_⟩
        rcases hb with hb | hb
        · omega
        · rwa [atv_at (j := dn) (by omega) (by omega)] at hb
  · by_cases q : 0 ≤ lv.toInt
    · exact Or.inl q
    · exact Or.inr ⟨by omega, Or.inl c⟩
  · have cl : lv.toInt < 0 := by rcases hy with hy | hy <;> omega
    obtain ⟨r, hr, hrv⟩ : ∃ r, OFq w n u r ∧ 0 ≤ r ∧ y.toInt = (w 5 1).toInt - n + r := by
      rcases hy with hy | ⟨_, r, hr, hv | hv⟩
      · omega
      · omega
      · exact ⟨r, hr, hv⟩
    obtain ⟨rn, hrn⟩ : ∃ rn : Nat, r = rn := ⟨r.toNat, by omega⟩
    subst hrn
    obtain ⟨dn, hdn⟩ : ∃ dn : Nat, y.toInt = dn := ⟨y.toInt.toNat, by omega⟩
    have hrn9 : rn < n := by
      rcases hr with ⟨i', q1, _, _, q2⟩ | ⟨_, q2⟩ <;> omega
    have hdn9 : dn < 10100 := by omega
    have hfl : ((w 25 dn) &&& (1 : Int32)).toInt ≠ 0 := by
      have := hv.mp c3
      rwa [atv_at hdn hdn9] at this
    unfold pk_X11_mentionCall
    refine xl_mark hdn hdn9 (fun s5 k5 m5 => ?_)
    have e2 : ((w 5 1) - (w 6 7)).toInt = (w 5 1).toInt - n := by rw [sb (by omega) (by omega), o1]
    have e3 : (y - ((w 5 1) - (w 6 7))).toInt = (rn : Int) := by rw [sb (by omega) (by omega), e2]; omega
    have e539 : s5 39 = w 39 := funext (fun m => k5 39 m rfl rfl)
    have ea : atv 100 (s5 39) (y - ((w 5 1) - (w 6 7))) = w 39 rn := by rw [e539]; exact atv_at e3 (by omega)
    rw [ea]
    have fin : ∀ s6, Kp [] [39] s5 s6 → (∀ m, s6 39 m = if m = rn ∧ (w 39 rn).toInt < 0 then a else w 39 m) → pk_X2_push s6 (fun u57 s57 => ∀ s10n : St, s10n = upC s57 u57 0 (4 : Int32) → (∀ s12n : St, s12n = upC s10n u57 4 y → (∀ s14n : St, s14n = upC s12n u57 1 (atv 10100 (s12n 26) y) → (∀ s16n : St, s16n = upC s14n u57 2 (0 : Int32) → (Q s16n))))) := fun s6 k6 m6 => by
      have kk6 : STy j w s6 := sty_tr ⟨ko_kp (kp_sub k5 rfl rfl), low25 k5⟩ ⟨ko_kp (kp_sub k6 rfl rfl), low39 k6⟩
      have e67 : (s6 7 7).toInt = (j : Int) := by rw [k6 7 7 rfl rfl, k5 7 7 rfl rfl]; exact hc
      refine xl_push e67 hj (fun s7 k7 e76 e77 a7 x7 => ?_)
      rintro s8 rfl s9 rfl s10 rfl s11 rfl
      have e26 : upC (upC s7 (65 + j) 0 (4 : Int32)) (65 + j) 4 y 26 = w 26 := by rw [rdC_ne (by omega), rdC_ne (by omega), show s7 26 = s6 26 from ko_rd k7.1 26 (by omega) rfl (fun _ => rfl), show s6 26 = s5 26 from funext (fun m => k6 26 m rfl rfl), show s5 26 = w 26 from funext (fun m => k5 26 m rfl rfl)]
      rw [e26, atv_at hdn hdn9]
      obtain ⟨q0, q1, q2, q3, q4, q5, q6⟩ := a7
      refine ko _ rn (by rw [← lvr cl]; exact hlv) hr dn (by omega) hdn9 hfl (sty_tr kk6 (sty_of (stq_tr k7 (stq_tr (stq_op hj) (stq_tr (stq_op hj) (stq_tr (stq_op hj) (stq_op hj))))))) ?_ ?_ (fun m => ?_) (fun m => ?_) ⟨?_, ?_, ?_, ?_, ?_, fun hf => absurd hf (by decide), fun _ => ?_⟩ ⟨?_, ?_⟩
      · rw [rdC_ne (by omega), rdC_ne (by omega), rdC_ne (by omega), rdC_ne (by omega), e76, k6 6 3 rfl rfl, k5 6 3 rfl rfl]
      · rw [rdC_ne (by omega), rdC_ne (by omega), rdC_ne (by omega), rdC_ne (by omega)]
        exact e77
      · rw [rdC_ne (by omega), rdC_ne (by omega), rdC_ne (by omega), rdC_ne (by omega), show s7 39 = s6 39 from ko_rd k7.1 39 (by omega) rfl (fun _ => rfl)]
        exact m6 m
      · rw [rdC_ne (by omega), rdC_ne (by omega), rdC_ne (by omega), rdC_ne (by omega), show s7 25 = s6 25 from ko_rd k7.1 25 (by omega) rfl (fun _ => rfl), show s6 25 m = s5 25 m from k6 25 m rfl rfl]
        exact m5 m
      · rw [rdA_ne (by decide), rdA_ne (by decide), rdA_ne (by decide), rdA_eq rfl]
        rfl
      · rw [rdA_ne (by decide), rdA_eq rfl]
      · rw [rdA_eq rfl]
        rfl
      · rw [rdA_ne (by decide), rdA_ne (by decide), rdA_ne (by decide), rdA_ne (by decide)]
        exact q3
      · rw [rdA_ne (by decide), rdA_ne (by decide), rdA_ne (by decide), rdA_ne (by decide)]
        exact q4
      · rw [rdA_ne (by decide), rdA_ne (by decide), rdA_eq rfl]
        exact hdn
      · rw [rdA_ne (by decide), rdA_ne (by decide), rdA_ne (by decide), rdA_ne (by decide)]
        exact x7.1
      · rw [rdA_ne (by decide), rdA_ne (by decide), rdA_ne (by decide), rdA_ne (by decide)]
        exact x7.2
    refine ⟨fun c => fin s5 kp_rf (fun m => by rw [e539, if_neg (by omega)]), fun c => fin _ (kp_F kp_rf rfl) (fun m => ?_)⟩
    rw [rdF_eq, e539, setv_at e3 (by omega)]
    dsimp only
    by_cases q : m = rn
    · rw [if_pos q, if_pos ⟨q, c⟩]
    · rw [if_neg q, if_neg (fun hx => q hx.1)]
  · rcases hy with hy | hy
    · omega
    · exact hy.1
  · by_cases q : ((atv 10100 (w 25) y) &&& (1 : Int32)).toInt = 0
    · exact q
    · have := hv.mpr q
      omega
theorem xl_readCodes {Q : Int32 → St → Prop} {u : Nat} (hu : a.toInt = (u : Int)) (hun : u < 16002) (hv : 0 ≤ (w 14 u).toInt ∧ (w 14 u).toInt ≤ 200) (kk : ∀ v s, v = w 14 u → Kp [] [17] w s → Q v s) : pk_X10_readCodes a w Q := by
  have e200 : ((200 : Int32)).toInt = 200 := by decide
  have e1 : atv 16002 (w 14) a = w 14 u := atv_at hu hun
  have e2 : (if (200 : Int32) < (w 14 u) then (200 : Int32) else (w 14 u)) = w 14 u := if_neg (fun hx => by have := i_lt.mp hx; omega)
  unfold pk_X10_readCodes
  rw [e1, e2]
  refine ⟨fun _ _ s => Kp [] [17] w s, kp_rf, fun x y s ks => ⟨fun _ => kk _ s rfl ks, fun _ => ?_⟩⟩
  -- whatever the codes are
  have any1 : ∀ (P : Int32 → Prop) (p q : Int32) (r : St), (∀ v, P v) → pk_X10_byteAt p r P := fun P p q r hp => by
    unfold pk_X10_byteAt
    exact ⟨fun _ => hp _, fun _ => ⟨fun _ => hp _, fun _ => ⟨fun _ => hp _, fun _ _ => hp _⟩⟩⟩
  unfold pk_X10_codeAt pk_X10_widthAt
  refine any1 _ _ 0 _ (fun v => ?_)
  have go : ∀ v45 : Int32, pk_X10_byteAt x (upF s 17 (setv 200 (s 17) y v45)) (fun v2 => (v2.toInt ≠ 92 → (Kp [] [17] w (upF s 17 (setv 200 (s 17) y v45)))) ∧ (v2.toInt = 92 → (Kp [] [17] w (upF s 17 (setv 200 (s 17) y v45))))) := fun v45 => any1 _ _ 0 _ (fun v2 => ⟨fun _ => kp_tr ks (kp_F kp_rf rfl), fun _ => kp_tr ks (kp_F kp_rf rfl)⟩)
  exact ⟨fun _ => any1 _ _ 0 _ (fun v3 => ⟨fun _ => go _, fun _ => ⟨fun _ => go _, fun _ => ⟨fun _ => go _, fun _ => ⟨fun _ => go _, fun _ => ⟨fun _ => go _, fun _ => go _⟩⟩⟩⟩⟩), fun _ => ⟨fun _ => go _, fun _ => ⟨fun _ => go _, fun _ => ⟨fun _ => go _, fun _ => go _⟩⟩⟩⟩
theorem xt_string {Q : St → Prop} {u : Nat} {D : Int} (hc : (w 7 7).toInt = (j : Int)) (hj : j < 500) (h0 : (w 6 3).toInt = 0) (hu : a.toInt = (u : Int)) (hun : u < 16002) (hv : 0 ≤ (w 14 u).toInt ∧ (w 14 u).toInt ≤ 200) (hD : (w 6 5).toInt = D) (hD9 : 0 ≤ D ∧ D ≤ 16000)
    (kk : ∀ s, STs j w s → (s 7 7).toInt = (j : Int) + 1 → (s 6 5).toInt = D + (w 14 u).toInt + 1 → AVq s (65 + j) 0 1 1 0 2 0 0 → ((s 6 3).toInt ≠ 0 ↔ 16000 < D + (w 14 u).toInt + 1) → Q s) : pk_X2_string a w Q := by
  unfold pk_X2_string
  refine xl_readCodes hu hun hv (fun v s1 ev k1 => ?_)
  subst ev
  have e65 : s1 6 5 = w 6 5 := k1 6 5 rfl rfl
  have ev1 : ((w 14 u) + (1 : Int32)).toInt = (w 14 u).toInt + 1 := ad0 i1 (by omega) (by omega)
  have ed : ((s1 6 5) + ((w 14 u) + (1 : Int32))).toInt = D + (w 14 u).toInt + 1 := by rw [ad (by rw [e65, ev1]; omega) (by rw [e65, ev1]; omega), e65, ev1]; omega
  have ed2 : (((s1 6 5) + (w 14 u)) + (1 : Int32)).toInt = D + (w 14 u).toInt + 1 := by
    have q : ((s1 6 5) + (w 14 u)).toInt = D + (w 14 u).toInt := by rw [ad (by rw [e65]; omega) (by rw [e65]; omega), e65]; omega
    rw [ad0 i1 (by omega) (by omega), q]
  have kl : ∀ {r r2 : St}, Kp [(6, 5), (5, 9)] [17, 31, 32, 33] r r2 → STs j r r2 := fun {r r2} hk => ⟨ko_kp (kp_sub hk rfl rfl), fun i' m _ => hk (65 + i') m (by
    simp only [List.contains_cons, List.contains_nil, Bool.or_false, Bool.or_eq_false_iff, beq_eq_false_iff_ne, ne_eq, Prod.mk.injEq, not_and]
    omega) (by
    simp only [List.contains_cons, List.contains_nil, Bool.or_false, Bool.or_eq_false_iff, beq_eq_false_iff_ne, ne_eq]
    omega)⟩
  refine ⟨fun s => STs j w s ∧ (s 7 7).toInt = (j : Int) ∧ s 6 5 = s1 6 5 ∧ ((s 6 3).toInt ≠ 0 ↔ 16000 < D + (w 14 u).toInt + 1), ?_, fun c => ⟨kl (kp_sub k1 rfl rfl), by rw [k1 7 7 rfl rfl]; exact hc, rfl, by rw [k1 6 3 rfl rfl, h0]; exact ⟨fun hx => absurd rfl hx, fun hx => by omega⟩⟩, fun c => xl_fail (by decide) (fun s2 k2 f2 => ⟨sts_tr (kl (kp_sub k1 rfl rfl)) (sts_of (stq_kp (e63 k2))), by rw [k2 7 7 rfl rfl, k1 7 7 rfl rfl]; exact hc, k2 6 5 rfl rfl, ⟨fun _ => by omega, fun _ => f2⟩⟩)⟩
  rintro s2 ⟨k2, e27, e265, f2⟩
  refine ⟨fun _ s => STs j w s ∧ (s 7 7).toInt = (j : Int) ∧ (s 6 5).toInt = D + (w 14 u).toInt + 1 ∧ ((s 6 3).toInt ≠ 0 ↔ 16000 < D + (w 14 u).toInt + 1), ⟨sts_tr k2 (kl (kp_f kp_rf rfl)), by rw [rdC_ne (by decide)]; exact e27, by rw [rdA_eq rfl, e265]; exact ed, by rw [rdA_ne (by decide)]; exact f2⟩, ?_⟩
  rintro x4 s3 ⟨k3, e37, e365, f3⟩
  refine ⟨fun _ => xl_push e37 hj (fun s4 k4 e46 e47 a4 _ => ?_), fun _ => ?_⟩
  · have a4' : AVq s4 (65 + j) 0 0 1 0 0 (s4 (65 + j) 8) 0 := ⟨a4.1, a4.2.1, a4.2.2.1, a4.2.2.2.1, a4.2.2.2.2.1, fun _ => rfl, a4.2.2.2.2.2.2⟩
    refine xl_become a4' hj (fun _ => rfl) (fun s5 k5 e56 e57 a5 o5 n5 => ?_)
    rintro s6 rfl s7 rfl
    refine xl_emit (fun _ s8 k8 => ?_)
    have kz : STx j s3 s8 := stq_tr k4 (stq_tr k5 (stq_tr (stq_op hj) (stq_tr (stq_op hj) (stq_kp (e24 k8)))))
    refine kk s8 (sts_tr k3 (sts_of kz)) ?_ ?_ (av_kp ⟨?_, ?_, ?_, ?_, ?_, fun hf => absurd hf (by decide), fun hi => absurd hi (by decide)⟩ (e24 k8)) ?_
    · rw [k8 7 7 rfl rfl, rdC_ne (by omega), rdC_ne (by omega), e57]
      exact e47
    · rw [show s8 6 5 = s3 6 5 from kz.1 6 5 (op_lt (by decide)) rfl rfl]
      exact e365
    · rw [rdA_ne (by decide), rdA_ne (by decide)]
      exact a5.1
    · rw [rdA_ne (by decide), rdA_ne (by decide)]
      exact a5.2.1
    · rw [rdA_ne (by decide), rdA_ne (by decide)]
      exact a5.2.2.1
    · rw [rdA_ne (by decide), rdA_ne (by decide)]
      exact a5.2.2.2.1
    · rw [rdA_ne (by decide), rdA_ne (by decide)]
      exact a5.2.2.2.2.1
    · rw [k8 6 3 rfl rfl, rdC_ne (by omega), rdC_ne (by omega), e56, e46]
      exact f3
  · unfold pk_X8_addInitial
    have kq : Kp [(5, 9)] [31, 32, 33] s3 (upC (upF (upF (upF s3 31 (setv 65536 (s3 31) (s3 5 9) ((s1 6 5) + x4))) 32 (setv 65536 ((upF s3 31 (setv 65536 (s3 31) (s3 5 9) ((s1 6 5) + x4))) 32) (s3 5 9) ((-2) : Int32))) 33 (setv 65536 ((upF (upF s3 31 (setv 65536 (s3 31) (s3 5 9) ((s1 6 5) + x4))) 32 (setv 65536 ((upF s3 31 (setv 65536 (s3 31) (s3 5 9) ((s1 6 5) + x4))) 32) (s3 5 9) ((-2) : Int32))) 33) (s3 5 9) (atv 200 (s3 17) x4))) 5 9 (if (65536 : Int32) < ((s3 5 9) + (1 : Int32)) then (65536 : Int32) else ((s3 5 9) + (1 : Int32)))) := kp_f (kp_F (kp_F (kp_F kp_rf rfl) rfl) rfl) rfl
    refine ⟨sts_tr k3 (kl (kp_sub kq rfl rfl)), ?_, ?_, ?_⟩
    · rw [kq 7 7 rfl rfl]
      exact e37
    · rw [kq 6 5 rfl rfl]
      exact e365
    · rw [kq 6 3 rfl rfl]
      exact f3
end XCQ
