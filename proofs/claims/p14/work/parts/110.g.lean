section
/-! the class's grammar of statements: conditions, the head of a for, simple statements -/
def SIn (kd : Nat → Int) (n p : Nat) : Option (Nat × List Gsq) :=
  if kd p = 14 then (if kd (p + 1) = 27 then some (p + 2, [gq (stp 36 p)]) else none)
  else if kd p = 15 then (if kd (p + 1) = 27 then some (p + 2, [gq (stp 37 p)]) else none)
  else if kd p = 16 then (if kd (p + 1) = 27 then some (p + 2, [gq (stp 38 p)]) else (EXn kd n (p + 1)).bind fun r => if kd r.1 = 27 then some (r.1 + 1, r.2 ++ [gq (38, p, 1, 0)]) else none)
  else (EXn kd n p).bind fun r => if kd r.1 = 27 then some (r.1 + 1, r.2 ++ [gq (stp 22 p)]) else none
section SSI
variable {kd vl : Nat → Int} {n p d w : Nat} {σ0 σ s : St} {g : List Gsq} {a1 a2 : Int32} {k : Int} {Q : St → Prop}
theorem app3 {a b c : List Gsq} : a ++ b ++ c = a ++ (b ++ c) := List.append_assoc a b c
theorem gt_condition (t0 : TKv σ0 kd vl n) (h : GTq kd n σ0 σ p g) (hl : (lnq g : Int) ≤ 2 * p + 66) (ha : a1.toInt = k) (hk : k ≠ 40) (hw : a2.toInt = (w : Int))
    (k1 : ∀ s p' g', EVq (fun n => CNn kd n k w p) (some (p', g')) → GTq kd n σ0 s p' (g ++ g') → (lnq g' : Int) + 2 * p + 4 ≤ 2 * p' → p < p' → Q s) (k0 : ∀ s, GJq σ0 s → EVq (fun n => CNn kd n k w p) none → Q s) : pk_X3_condition a1 a2 σ Q := by
  have h16 := t0.1.2.1
  unfold pk_X3_condition
  have tail : ∀ s14, GJq σ0 s14 → EVq (fun n => CNn kd n k w p) none → pk_X3_add a1 a2 (0 : Int32) (0 : Int32) s14 (fun v22 s22 => Q s22) := fun s14 j14 hn => gj_add j14 (fun _ s22 j22 => k0 s22 j22 hn)
  refine gt_expect t0 h (by decide) (fun c20 s3 g3 => ?_) (fun c20 s3 j3 => gj_expr j3 (fun s8 j8 => gj_expect j8 (by decide) (fun s14 j14 => tail s14 j14 (ev_f c20 ev_c))))
  refine gt_expr t0 g3 (by omega) (fun s8 p1 l hev hlen g8 hb hpp => gt_expect t0 g8 (by decide) (fun c21 s14 g14 => ?_) (fun c21 s14 j14 => tail s14 j14 (ev_t c20 (ev_b hev (ev_f c21 ev_c))))) (fun s8 j8 hev => gj_expect j8 (by decide) (fun s14 j14 => tail s14 j14 (ev_t c20 (ev_b0 hev))))
  have hp1 := gt_n g8
  refine gt_add (a := (k, w, 0, 0)) g14 (by rw [lnq_app]; omega) hk (by rw [ha, hw]; rfl) (fun v s22 g22 _ => k1 s22 (p1 + 1) (gqs l ++ [gq (stp k w)]) (ev_t c20 (ev_b hev (ev_t c21 ev_c))) (by rw [← List.append_assoc]; exact g22) ?_ (by omega))
  have e1 := lnq_one (a := stp k w) hk
  rw [lnq_app]
  omega
theorem gj_condition (h : GJq σ0 σ) (k : ∀ s, GJq σ0 s → Q s) : pk_X3_condition a1 a2 σ Q := by
  unfold pk_X3_condition
  exact gj_expect h (by decide) (fun s3 j3 => gj_expr j3 (fun s8 j8 => gj_expect j8 (by decide) (fun s14 j14 => gj_add j14 (fun _ s22 j22 => k s22 j22))))
theorem gj_counted (h : GJq σ0 σ) (k : ∀ s, GJq σ0 s → Q s) : pk_X3_counted a1 σ Q := by
  unfold pk_X3_counted
  have nk : ∀ s, GJq σ0 s → (s 3 2).toInt ≠ 27 ∧ (s 3 2).toInt ≠ 21 := fun s j => by have := j.2.2; omega
  refine gj_expect h (by decide) (fun s3 j3 => ⟨fun s => GJq σ0 s, fun s30 j30 => gj_expect j30 (by decide) (fun s33 j33 => gj_add j33 (fun _ s42 j42 => ⟨fun _ => True, fun y60 _ _ => ⟨fun s => GJq σ0 s, fun s70 j70 => ⟨fun _ => True, fun y83 _ _ => gj_add j70 (fun _ s84 j84 => gj_expect j84 (by decide) (fun s91 j91 => ⟨fun s => GJq σ0 s, fun s118 j118 => gj_expect j118 (by decide) (fun s121 j121 => gj_add j121 (fun _ s130 j130 => k s130 j130)), fun c => absurd c (nk s91 j91).2, fun _ => gj_expr j91 (fun s105 j105 => gj_add j105 (fun _ s114 j114 => j114))⟩)), fun _ => trivial, fun _ => trivial⟩, fun _ => j42, fun _ => gj_expr j42 (fun s67 j67 => j67)⟩, fun _ => trivial, fun _ => trivial⟩)), fun c => absurd c (nk s3 j3).1, fun _ => gj_expr j3 (fun s17 j17 => gj_add j17 (fun _ s26 j26 => j26))⟩)
theorem gt_counted (t0 : TKv σ0 kd vl n) (h : GTq kd n σ0 σ (p + 1) g) (hl : (lnq g : Int) ≤ 2 * p + 64) (ha : a1.toInt = (p : Int))
    (k1 : ∀ s p' g', EVq (fun n => FHn kd n p) (some (p', g')) → GTq kd n σ0 s p' (g ++ g') → (lnq g' : Int) + 2 * p + 4 ≤ 2 * p' → p + 1 < p' → Q s) (k0 : ∀ s, GJq σ0 s → EVq (fun n => FHn kd n p) none → Q s) : pk_X3_counted a1 σ Q := by
  have h16 := t0.1.2.1
  unfold pk_X3_counted
  have nk : ∀ s, GJq σ0 s → (s 3 2).toInt ≠ 27 ∧ (s 3 2).toInt ≠ 21 := fun s j => by have := j.2.2; omega
  -- behind: from the third part on, and all that is none
  have bad4 : ∀ s118, GJq σ0 s118 → EVq (fun n => FHn kd n p) none → pk_X3_expect (21 : Int32) s118 (fun s121 => pk_X3_add (34 : Int32) a1 (0 : Int32) (0 : Int32) s121 (fun v130 s130 => Q s130)) := fun s118 j118 hn => gj_expect j118 (by decide) (fun s121 j121 => gj_add j121 (fun _ s130 j130 => k0 s130 j130 hn))
  refine gt_expect t0 h (by decide) (fun c20 s3 g3 => ?_) (fun c20 s3 j3 => ?_)
  · refine ⟨fun s => (∃ p1 ga, EVq (fun n => if kd (p + 2) = 27 then some (p + 2, []) else (EXn kd n (p + 2)).bind fun r => some (r.1, r.2 ++ [gq (stp 22 p)])) (some (p1, ga)) ∧ GTq kd n σ0 s p1 (g ++ ga) ∧ (lnq ga : Int) + 2 * p + 4 ≤ 2 * p1 ∧ p + 2 ≤ p1) ∨ (GJq σ0 s ∧ EVq (fun n => FHn kd n p) none), ?_, ?_, ?_⟩
    rotate_left
    · intro c
      rw [gt_kd g3] at c
      exact Or.inl ⟨p + 2, [], ev_t c ev_c, by rw [List.append_nil]; exact g3, by rw [lnq_nil]; omega, by omega⟩
    · intro c
      rw [gt_kd g3] at c
      refine gt_expr t0 g3 (by omega) (fun s17 p1 l hev hlen g17 hb hpp => ?_) (fun s17 j17 hev => gj_add j17 (fun _ s26 j26 => Or.inr ⟨j26, ev_t c20 (ev_b0 (ev_f c (ev_b0 hev)))⟩))
      have hp1 := gt_n g17
      have e1 := lnq_one (a := stp 22 p) (by simp [stp])
      refine gt_add (a := stp 22 p) g17 (by rw [lnq_app]; omega) (by simp [stp]) (by rw [ha]; rfl) (fun _ s26 g26 _ => Or.inl ⟨p1, gqs l ++ [gq (stp 22 p)], ev_f c (ev_b hev ev_c), by rw [← List.append_assoc]; exact g26, by rw [lnq_app]; omega, by omega⟩)
    rintro s30 (⟨p1, ga, hA, g30, hb1, hp1⟩ | ⟨j30, hn⟩)
    rotate_left
    · refine gj_expect j30 (by decide) (fun s33 j33 => gj_add j33 (fun _ s42 j42 => ⟨fun _ => True, fun y60 _ _ => ⟨fun s => GJq σ0 s, fun s70 j70 => ⟨fun _ => True, fun y83 _ _ => gj_add j70 (fun _ s84 j84 => gj_expect j84 (by decide) (fun s91 j91 => ⟨fun s => GJq σ0 s, fun s118 j118 => bad4 s118 j118 hn, fun c => absurd c (nk s91 j91).2, fun _ => gj_expr j91 (fun s105 j105 => gj_add j105 (fun _ s114 j114 => j114))⟩)), fun _ => trivial, fun _ => trivial⟩, fun _ => j42, fun _ => gj_expr j42 (fun s67 j67 => j67)⟩, fun _ => trivial, fun _ => trivial⟩))
    have hn1 := gt_n g30
    refine gt_expect t0 g30 (by decide) (fun c27 s33 g33 => ?_) (fun c27 s33 j33 => ?_)
    rotate_left
    · have hn : EVq (fun n => FHn kd n p) none := ev_t c20 (ev_b hA (ev_f c27 ev_c))
      exact gj_add j33 (fun _ s42 j42 => ⟨fun _ => True, fun y60 _ _ => ⟨fun s => GJq σ0 s, fun s70 j70 => ⟨fun _ => True, fun y83 _ _ => gj_add j70 (fun _ s84 j84 => gj_expect j84 (by decide) (fun s91 j91 => ⟨fun s => GJq σ0 s, fun s118 j118 => bad4 s118 j118 hn, fun c => absurd c (nk s91 j91).2, fun _ => gj_expr j91 (fun s105 j105 => gj_add j105 (fun _ s114 j114 => j114))⟩)), fun _ => trivial, fun _ => trivial⟩, fun _ => j42, fun _ => gj_expr j42 (fun s67 j67 => j67)⟩, fun _ => trivial, fun _ => trivial⟩)
    have e32 := lnq_one (a := stp 32 p) (by simp [stp])
    refine gt_add (a := stp 32 p) g33 (by rw [lnq_app]; omega) (by simp [stp]) (by rw [ha]; rfl) (fun _ s42 g42 _ => ?_)
    have hn2 := gt_n g42
    refine ⟨fun y => (y.toInt = 0 ↔ kd (p1 + 1) = 27), fun y60 _ hy60 => ⟨fun s => (∃ p2 gb, EVq (fun n => if kd (p1 + 1) = 27 then some (p1 + 1, [], (0 : Int)) else (EXn kd n (p1 + 1)).bind fun r => some (r.1, r.2, 1)) (some (p2, gb, (if kd (p1 + 1) = 27 then 0 else 1))) ∧ GTq kd n σ0 s p2 (g ++ ga ++ [gq (stp 32 p)] ++ gb) ∧ (lnq gb : Int) + 2 * p1 + 2 ≤ 2 * p2) ∨ (GJq σ0 s ∧ EVq (fun n => FHn kd n p) none), ?_, ?_, ?_⟩, ?_, ?_⟩
    rotate_left
    · intro c
      have c' := hy60.1 c
      exact Or.inl ⟨p1 + 1, [], by rw [if_pos c']; exact ev_t c' ev_c, by rw [List.append_nil]; exact g42, by rw [lnq_nil]; omega⟩
    · intro c
      have c' : kd (p1 + 1) ≠ 27 := fun e => c (hy60.2 e)
      refine gt_expr t0 g42 (by rw [lnq_app, lnq_app]; omega) (fun s67 p2 l hev hlen g67 hb hpp => Or.inl ⟨p2, gqs l, by rw [if_neg c']; exact ev_f c' (ev_b hev ev_c), g67, by omega⟩) (fun s67 j67 hev => Or.inr ⟨j67, ev_t c20 (ev_b hA (ev_t c27 (ev_b0 (ev_f c' (ev_b0 hev)))))⟩)
    · intro c
      rw [gt_kd g42] at c
      exact ⟨fun _ => c, fun _ => rfl⟩
    · intro c
      rw [gt_kd g42] at c
      exact ⟨fun h => absurd h (by decide), fun h => absurd h c⟩
    rintro s70 (⟨p2, gb, hB, g70, hb2⟩ | ⟨j70, hn⟩)
    rotate_left
    · exact ⟨fun _ => True, fun y83 _ _ => gj_add j70 (fun _ s84 j84 => gj_expect j84 (by decide) (fun s91 j91 => ⟨fun s => GJq σ0 s, fun s118 j118 => bad4 s118 j118 hn, fun c => absurd c (nk s91 j91).2, fun _ => gj_expr j91 (fun s105 j105 => gj_add j105 (fun _ s114 j114 => j114))⟩)), fun _ => trivial, fun _ => trivial⟩
    have hn3 := gt_n g70
    refine ⟨fun y => y.toInt = (if kd (p1 + 1) = 27 then 0 else 1), fun y83 _ hy83 => ?_, fun c => by rw [if_pos (hy60.1 c)]; rfl, fun c => by rw [if_neg (fun e => c (hy60.2 e))]; rfl⟩
    have e33 := lnq_one (a := (33, p, (if kd (p1 + 1) = 27 then 0 else 1), 0)) (by simp)
    refine gt_add (a := (33, p, (if kd (p1 + 1) = 27 then 0 else 1), 0)) g70 (by rw [lnq_app, lnq_app, lnq_app]; omega) (by simp) (by rw [ha, hy83]; rfl) (fun _ s84 g84 _ => ?_)
    refine gt_expect t0 g84 (by decide) (fun c27b s91 g91 => ?_) (fun c27b s91 j91 => ?_)
    rotate_left
    · exact ⟨fun s => GJq σ0 s, fun s118 j118 => bad4 s118 j118 (ev_t c20 (ev_b hA (ev_t c27 (ev_b hB (ev_f c27b ev_c))))), fun c => absurd c (nk s91 j91).2, fun _ => gj_expr j91 (fun s105 j105 => gj_add j105 (fun _ s114 j114 => j114))⟩
    have hn4 := gt_n g91
    refine ⟨fun s => (∃ p3 gc, EVq (fun n => if kd (p2 + 1) = 21 then some (p2 + 1, []) else (EXn kd n (p2 + 1)).bind fun r => some (r.1, r.2 ++ [gq (stp 22 p)])) (some (p3, gc)) ∧ GTq kd n σ0 s p3 (g ++ ga ++ [gq (stp 32 p)] ++ gb ++ [gq (33, p, (if kd (p1 + 1) = 27 then 0 else 1), 0)] ++ gc) ∧ (lnq gc : Int) + 2 * p2 + 2 ≤ 2 * p3) ∨ (GJq σ0 s ∧ EVq (fun n => FHn kd n p) none), ?_, ?_, ?_⟩
    rotate_left
    · intro c
      rw [gt_kd g91] at c
      exact Or.inl ⟨p2 + 1, [], ev_t c ev_c, by rw [List.append_nil]; exact g91, by rw [lnq_nil]; omega⟩
    · intro c
      rw [gt_kd g91] at c
      refine gt_expr t0 g91 (by rw [lnq_app, lnq_app, lnq_app, lnq_app]; omega) (fun s105 p3 l hev hlen g105 hb hpp => ?_) (fun s105 j105 hev => gj_add j105 (fun _ s114 j114 => Or.inr ⟨j114, ev_t c20 (ev_b hA (ev_t c27 (ev_b hB (ev_t c27b (ev_b0 (ev_f c (ev_b0 hev)))))))⟩))
      have hp3 := gt_n g105
      have e1 := lnq_one (a := stp 22 p) (by simp [stp])
      refine gt_add (a := stp 22 p) g105 (by rw [lnq_app, lnq_app, lnq_app, lnq_app, lnq_app]; omega) (by simp [stp]) (by rw [ha]; rfl) (fun _ s114 g114 _ => Or.inl ⟨p3, gqs l ++ [gq (stp 22 p)], ev_f c (ev_b hev ev_c), by rw [← List.append_assoc]; exact g114, by rw [lnq_app]; omega⟩)
    rintro s118 (⟨p3, gc, hC, g118, hb3⟩ | ⟨j118, hn⟩)
    rotate_left
    · exact bad4 s118 j118 hn
    have hn5 := gt_n g118
    refine gt_expect t0 g118 (by decide) (fun c21 s121 g121 => ?_) (fun c21 s121 j121 => gj_add j121 (fun _ s130 j130 => k0 s130 j130 (ev_t c20 (ev_b hA (ev_t c27 (ev_b hB (ev_t c27b (ev_b hC (ev_f c21 ev_c)))))))))
    have e34 := lnq_one (a := stp 34 p) (by simp [stp])
    refine gt_add (a := stp 34 p) g121 (by rw [lnq_app, lnq_app, lnq_app, lnq_app, lnq_app]; omega) (by simp [stp]) (by rw [ha]; rfl) (fun _ s130 g130 _ => k1 s130 (p3 + 1) (ga ++ [gq (stp 32 p)] ++ gb ++ [gq (33, p, (if kd (p1 + 1) = 27 then 0 else 1), 0)] ++ gc ++ [gq (stp 34 p)]) (ev_t c20 (ev_b hA (ev_t c27 (ev_b hB (ev_t c27b (ev_b hC (ev_t c21 ev_c))))))) ?_ ?_ (by omega))
    · simp only [List.append_assoc] at g130 ⊢
      exact g130
    · rw [lnq_app, lnq_app, lnq_app, lnq_app, lnq_app]
      omega
  · have hn : EVq (fun n => FHn kd n p) none := ev_f c20 ev_c
    exact ⟨fun s => GJq σ0 s, fun s30 j30 => gj_expect j30 (by decide) (fun s33 j33 => gj_add j33 (fun _ s42 j42 => ⟨fun _ => True, fun y60 _ _ => ⟨fun s => GJq σ0 s, fun s70 j70 => ⟨fun _ => True, fun y83 _ _ => gj_add j70 (fun _ s84 j84 => gj_expect j84 (by decide) (fun s91 j91 => ⟨fun s => GJq σ0 s, fun s118 j118 => bad4 s118 j118 hn, fun c => absurd c (nk s91 j91).2, fun _ => gj_expr j91 (fun s105 j105 => gj_add j105 (fun _ s114 j114 => j114))⟩)), fun _ => trivial, fun _ => trivial⟩, fun _ => j42, fun _ => gj_expr j42 (fun s67 j67 => j67)⟩, fun _ => trivial, fun _ => trivial⟩)), fun c => absurd c (nk s3 j3).1, fun _ => gj_expr j3 (fun s17 j17 => gj_add j17 (fun _ s26 j26 => j26))⟩
theorem gj_simple (h : GJq σ0 σ) (k : ∀ s, GJq σ0 s → Q s) : pk_X3_simple σ Q := by
  unfold pk_X3_simple
  have e := h.2.2
  exact ⟨fun s => GJq σ0 s, fun s127 j127 => gj_expect j127 (by decide) k, False, fun f => f.elim, fun c => by omega, fun _ => ⟨fun _ => ⟨fun _ => gj_expr h (fun s114 j114 => gj_add j114 (fun _ s123 j123 => j123)), fun c => by omega⟩, fun c => by omega⟩⟩
theorem gt_simple (t0 : TKv σ0 kd vl n) (h : GTq kd n σ0 σ p g) (hl : (lnq g : Int) ≤ 2 * p + 66)
    (k1 : ∀ s p' g', EVq (fun n => SIn kd n p) (some (p', g')) → GTq kd n σ0 s p' (g ++ g') → (lnq g' : Int) + 2 * p + 2 ≤ 2 * p' → p < p' → Q s) (k0 : ∀ s, GJq σ0 s → EVq (fun n => SIn kd n p) none → Q s) : pk_X3_simple σ Q := by
  have h16 := t0.1.2.1
  have ek := gt_kd h
  have ep := gt_at h
  have hpn := gt_n h
  unfold pk_X3_simple
  refine ⟨fun s => (∃ p1 g', GTq kd n σ0 s p1 (g ++ g') ∧ (lnq g' : Int) + 2 * p ≤ 2 * p1 ∧ p < p1 ∧ (kd p1 = 27 → EVq (fun n => SIn kd n p) (some (p1 + 1, g'))) ∧ (kd p1 ≠ 27 → EVq (fun n => SIn kd n p) none)) ∨ (GJq σ0 s ∧ EVq (fun n => SIn kd n p) none), ?_, ?_⟩
  · rintro s127 (⟨p1, g', g127, hb, hpp, y1, y0⟩ | ⟨j127, hn⟩)
    · exact gt_expect t0 g127 (by decide) (fun c s g1 => k1 s (p1 + 1) g' (y1 c) g1 (by omega) (by omega)) (fun c s j => k0 s j (y0 c))
    · exact gj_expect j127 (by decide) (fun s j => k0 s j hn)
  rw [ek]
  refine ⟨kd p = 14 ∨ kd p = 15, fun hj => ⟨fun y => y.toInt = (if kd p = 14 then 36 else 37), fun y hy => ?_, fun c => by rw [if_neg c]; rfl, fun c => by rw [if_pos c]; rfl⟩, fun c => Or.inl c, fun n14 => ⟨fun n15 => ⟨fun n16 => ?_, fun c16 => ?_⟩, fun c => Or.inr c⟩⟩
  · have e1 := lnq_one (a := stp (if kd p = 14 then 36 else 37) p) (by simp only [stp]; split <;> decide)
    refine gt_add (a := stp (if kd p = 14 then 36 else 37) p) h (by omega) (by simp only [stp]; split <;> decide) (by rw [hy, ep]; rfl) (fun _ s43 g43 _ => gt_adv t0 g43 (by omega) (fun s48 g48 => Or.inl ⟨p + 1, _, g48, by omega, by omega, fun c => ?_, fun c => ?_⟩))
    · rcases hj with e | e
      · rw [if_pos e]; exact ev_t e (ev_t c ev_c)
      · have n14 : kd p ≠ 14 := by omega
        rw [if_neg n14]; exact ev_f n14 (ev_t e (ev_t c ev_c))
    · rcases hj with e | e
      · exact ev_t e (ev_f c ev_c)
      · exact ev_f (by omega) (ev_t e (ev_f c ev_c))
  · refine gt_expr t0 h (by omega) (fun s p1 l hev hlen g1 hb hpp => ?_) (fun s j hev => gj_add j (fun _ s2 j2 => Or.inr ⟨j2, ev_f n14 (ev_f n15 (ev_f n16 (ev_b0 hev)))⟩))
    have hp1 := gt_n g1
    have e1 := lnq_one (a := stp 22 p) (by simp [stp])
    exact gt_add (a := stp 22 p) g1 (by rw [lnq_app]; omega) (by simp [stp]) (by rw [ep]; rfl) (fun _ s2 g2 _ => Or.inl ⟨p1, gqs l ++ [gq (stp 22 p)], by rw [← List.append_assoc]; exact g2, by rw [lnq_app]; omega, hpp, fun c => ev_f n14 (ev_f n15 (ev_f n16 (ev_b hev (ev_t c ev_c)))), fun c => ev_f n14 (ev_f n15 (ev_f n16 (ev_b hev (ev_f c ev_c))))⟩)
  · refine gt_adv t0 h (by omega) (fun s64 g64 => ?_)
    have hn64 := gt_n g64
    refine ⟨fun y => (y.toInt = 0 ↔ kd (p + 1) = 27), fun y81 _ hy81 => ⟨fun s => (∃ p1 gb, GTq kd n σ0 s p1 (g ++ gb) ∧ (lnq gb : Int) + 2 * p + 1 ≤ 2 * p1 ∧ p < p1 ∧ (kd p1 = 27 → EVq (fun n => SIn kd n p) (some (p1 + 1, gb ++ [gq (38, p, (if kd (p + 1) = 27 then 0 else 1), 0)]))) ∧ (kd p1 ≠ 27 → EVq (fun n => SIn kd n p) none)) ∨ (GJq σ0 s ∧ EVq (fun n => SIn kd n p) none), ?_, ?_, ?_⟩, fun c => ?_, fun c => ?_⟩
    · rintro s91 (⟨p1, gb, g91, hb, hpp, y1, y0⟩ | ⟨j91, hn⟩)
      · have hp1 := gt_n g91
        refine ⟨fun y => y.toInt = (if kd (p + 1) = 27 then 0 else 1), fun y hy' hy => ?_, fun c => by rw [if_pos (hy81.1 c)]; rfl, fun c => by rw [if_neg (fun e => c (hy81.2 e))]; rfl⟩
        have e1 := lnq_one (a := (38, p, (if kd (p + 1) = 27 then 0 else 1), 0)) (by simp)
        exact gt_add (a := (38, p, (if kd (p + 1) = 27 then 0 else 1), 0)) g91 (by rw [lnq_app]; omega) (by simp) (by rw [hy, ep]; rfl) (fun _ s2 g2 _ => Or.inl ⟨p1, _, by rw [← List.append_assoc]; exact g2, by rw [lnq_app]; omega, hpp, y1, y0⟩)
      · exact ⟨fun _ => True, fun y _ _ => gj_add j91 (fun _ s2 j2 => Or.inr ⟨j2, hn⟩), fun _ => trivial, fun _ => trivial⟩
    · intro c
      have c' := hy81.1 c
      refine Or.inl ⟨p + 1, [], by rw [List.append_nil]; exact g64, by rw [lnq_nil]; omega, by omega, fun c2 => ?_, fun c2 => absurd c' c2⟩
      rw [if_pos c']
      exact ev_f n14 (ev_f n15 (ev_t c16 (ev_t c' ev_c)))
    · intro c
      have c' : kd (p + 1) ≠ 27 := fun e => c (hy81.2 e)
      refine gt_expr t0 g64 (by omega) (fun s p1 l hev hlen g1 hb hpp => Or.inl ⟨p1, gqs l, g1, by omega, by omega, fun c2 => ?_, fun c2 => ev_f n14 (ev_f n15 (ev_t c16 (ev_f c' (ev_b hev (ev_f c2 ev_c)))))⟩) (fun s j hev => Or.inr ⟨j, ev_f n14 (ev_f n15 (ev_t c16 (ev_f c' (ev_b0 hev))))⟩)
      rw [if_neg c']
      exact ev_f n14 (ev_f n15 (ev_t c16 (ev_f c' (ev_b hev (ev_t c2 ev_c)))))
    · rw [gt_kd g64] at c
      exact ⟨fun _ => c, fun _ => rfl⟩
    · rw [gt_kd g64] at c
      exact ⟨fun h => absurd h (by decide), fun h => absurd h c⟩
end SSI
end

section
/-! the class's grammar of statements: variables -/
section SVA
variable {kd vl : Nat → Int} {n p d w ty : Nat} {σ0 σ s : St} {g : List Gsq} {a1 a2 a3 : Int32} {k lk : Int} {Q : St → Prop}
theorem ev_k {α : Type} {o R : Option α} (h : o = R) : EVq (fun _ => o) R := ⟨0, fun _ _ => h⟩
theorem tbl_p20 {A B : List Stq} {a y x : Int} {q : Nat} {i v : Int32} (h : TBL s (A ++ ((a, q, x, y) :: B))) (hi : i.toInt = (A.length : Int)) (hl : A.length < 32100) : TBL (upF s 20 (setv 32100 (s 20) i v)) (A ++ ((a, q, v.toInt, y) :: B)) := by
  obtain ⟨h1, h2⟩ := h
  have e20 : ∀ j, (setv 32100 (s 20) i v) j = if j = A.length then v else s 20 j := fun j => by rw [setv_at hi hl]
  refine ⟨?_, fun j b r z w e => ?_⟩
  · rw [rdF_ne (by decide), h1]
    simp only [List.length_append, List.length_cons]
  · rw [rdF_ne (by decide), rdF_ne (by decide), rdF_eq, rdF_ne (by decide), e20]
    by_cases c : j < A.length
    · rw [if_neg (by omega)]
      rw [List.getElem?_append_left c] at e
      exact h2 j b r z w (by rw [List.getElem?_append_left c]; exact e)
    · rw [List.getElem?_append_right (by omega)] at e
      by_cases q0 : j = A.length
      · have e0 : j - A.length = 0 := by omega
        rw [e0] at e
        have e' : some ((a, q, v.toInt, y) : Stq) = some (b, r, z, w) := e
        cases e'
        have := h2 j a q x y (by rw [List.getElem?_append_right (by omega), e0]; rfl)
        rw [if_pos q0]
        exact ⟨this.1, this.2.1, rfl, this.2.2.2⟩
      · rw [if_neg q0]
        obtain ⟨m, hm⟩ : ∃ m, j - A.length = m + 1 := ⟨j - A.length - 1, by omega⟩
        rw [hm] at e
        exact h2 j b r z w (by rw [List.getElem?_append_right (by omega), hm]; exact e)
theorem tbl_p21 {A B : List Stq} {a y x : Int} {q : Nat} {i v : Int32} (h : TBL s (A ++ ((a, q, x, y) :: B))) (hi : i.toInt = (A.length : Int)) (hl : A.length < 32100) : TBL (upF s 21 (setv 32100 (s 21) i v)) (A ++ ((a, q, x, v.toInt) :: B)) := by
  obtain ⟨h1, h2⟩ := h
  have e20 : ∀ j, (setv 32100 (s 21) i v) j = if j = A.length then v else s 21 j := fun j => by rw [setv_at hi hl]
  refine ⟨?_, fun j b r z w e => ?_⟩
  · rw [rdF_ne (by decide), h1]
    simp only [List.length_append, List.length_cons]
  · rw [rdF_ne (by decide), rdF_ne (by decide), rdF_ne (by decide), rdF_eq, e20]
    by_cases c : j < A.length
    · rw [if_neg (by omega)]
      rw [List.getElem?_append_left c] at e
      exact h2 j b r z w (by rw [List.getElem?_append_left c]; exact e)
    · rw [List.getElem?_append_right (by omega)] at e
      by_cases q0 : j = A.length
      · have e0 : j - A.length = 0 := by omega
        rw [e0] at e
        have e' : some ((a, q, x, v.toInt) : Stq) = some (b, r, z, w) := e
        cases e'
        have := h2 j a q x y (by rw [List.getElem?_append_right (by omega), e0]; rfl)
        rw [if_pos q0]
        exact ⟨this.1, this.2.1, this.2.2.1, rfl⟩
      · rw [if_neg q0]
        obtain ⟨m, hm⟩ : ∃ m, j - A.length = m + 1 := ⟨j - A.length - 1, by omega⟩
        rw [hm] at e
        exact h2 j b r z w (by rw [List.getElem?_append_right (by omega), hm]; exact e)
theorem kg_F {c : Nat} {f : Nat → Int32} (hc : [18, 19, 20, 21, 22, 23].contains c = true) : KGq s (upF s c f) := kp_F kp_rf hc
theorem gst_F {c : Nat} {f : Nat → Int32} {L L2 : List Stq} (h : GSt kd n s p L) (hc : c ≠ 3) (ht : TBL (upF s c f) L2) : GSt kd n (upF s c f) p L2 := by
  obtain ⟨h1, h2, h3, h4, h5⟩ := h
  refine ⟨?_, ?_, h3, ?_, ht⟩
  · rw [rdF_ne (Ne.symm hc)]; exact h1
  · rw [rdF_ne (Ne.symm hc)]; exact h2
  · rw [rdF_ne (Ne.symm hc)]; exact h4
theorem gj_F {c : Nat} {f : Nat → Int32} (h : GJq σ0 s) (hc : [18, 19, 20, 21, 22, 23].contains c = true) : GJq σ0 (upF s c f) := by
  have hc3 : c ≠ 3 := fun e => by rw [e] at hc; exact absurd hc (by decide)
  refine gj_k h (kg_F hc) ⟨?_, ?_⟩
  · rw [rdF_ne (Ne.symm hc3)]; exact h.2.1
  · rw [rdF_ne (Ne.symm hc3)]; exact h.2.2
theorem gt_bracket {Q : Int32 → St → Prop} (t0 : TKv σ0 kd vl n) (h : GTq kd n σ0 σ p g) (c24 : kd p = 24) (hl : (lnq g : Int) ≤ 2 * p + 66)
    (k1 : ∀ v s p' gb gv, EVq (fun n => BKn kd n p) (some (p', gb, gv)) → GTq kd n σ0 s p' (g ++ gb ++ [gq (42, p, gv, 0)]) → v.toInt = (lnq (g ++ gb) : Int) → (lnq gb : Int) + 2 * p + 3 ≤ 2 * p' → p < p' → Q v s) (k0 : ∀ v s, GJq σ0 s → EVq (fun n => BKn kd n p) none → Q v s) : pk_X3_bracket σ Q := by
  have h16 := t0.1.2.1
  have ep := gt_at h
  unfold pk_X3_bracket
  refine gt_adv t0 h (by omega) (fun s6 g6 => ?_)
  have hn6 := gt_n g6
  refine ⟨fun y => (y.toInt = 0 ↔ kd (p + 1) = 25), fun y23 _ hy23 => ⟨fun s => (∃ p1 gb, GTq kd n σ0 s p1 (g ++ gb) ∧ (lnq gb : Int) + 2 * p + 1 ≤ 2 * p1 ∧ p < p1 ∧ (kd p1 = 25 → EVq (fun n => BKn kd n p) (some (p1 + 1, gb, (if kd (p + 1) = 25 then 0 else 1)))) ∧ (kd p1 ≠ 25 → EVq (fun n => BKn kd n p) none)) ∨ (GJq σ0 s ∧ EVq (fun n => BKn kd n p) none), ?_, ?_, ?_⟩, fun c => ?_, fun c => ?_⟩
  · rintro s60 (⟨p1, gb, g60, hb, hpp, y1, y0⟩ | ⟨j60, hn⟩)
    · have hn1 := gt_n g60
      have e42 := lnq_one (a := (42, p, (if kd (p + 1) = 25 then 0 else 1), 0)) (by simp)
      refine gt_expect t0 g60 (by decide) (fun c25 s63 g63 => ⟨fun y => y.toInt = (if kd (p + 1) = 25 then 0 else 1), fun y79 _ hy79 => ?_, fun c => by rw [if_pos (hy23.1 c)]; rfl, fun c => by rw [if_neg (fun e => c (hy23.2 e))]; rfl⟩) (fun c25 s63 j63 => ⟨fun _ => True, fun y79 _ _ => gj_add j63 (fun v80 s80 j80 => k0 v80 s80 j80 (y0 c25)), fun _ => trivial, fun _ => trivial⟩)
      exact gt_add (a := (42, p, (if kd (p + 1) = 25 then 0 else 1), 0)) g63 (by rw [lnq_app]; omega) (by simp) (by rw [ep, hy79]; rfl) (fun v80 s80 g80 hv => k1 v80 s80 (p1 + 1) gb _ (y1 c25) g80 hv (by omega) (by omega))
    · exact gj_expect j60 (by decide) (fun s63 j63 => ⟨fun _ => True, fun y79 _ _ => gj_add j63 (fun v80 s80 j80 => k0 v80 s80 j80 hn), fun _ => trivial, fun _ => trivial⟩)
  · intro c
    have c' := hy23.1 c
    refine Or.inl ⟨p + 1, [], by rw [List.append_nil]; exact g6, by rw [lnq_nil]; omega, by omega, fun _ => ?_, fun c2 => absurd c' c2⟩
    rw [if_pos c']
    exact ev_t c' ev_c
  · intro c
    have c' : kd (p + 1) ≠ 25 := fun e => c (hy23.2 e)
    have hk0 : (lnq g : Int) ≤ 32090 := by omega
    refine pg_add (a := (40, p, 0, 0)) g6.2.1 hk0 (by rw [ep]; rfl) (fun v34 s34 k34 gs34 hv34 => ?_)
    have l1 : ((fltq 0 g ++ [((40, p, 0, 0) : Stq)]).length : Int) = (lnq g : Int) + 1 := by rw [List.length_append]; rfl
    refine gr_expr t0 (kp_tr g6.1 (kg4 k34)) gs34 (by rw [k34 3 9 rfl rfl]; exact g6.2.2) (by rw [l1]; omega) (fun s40 p1 l hv hact hk40 gs40 h940 hb hpp => ?_) (fun s40 j40 hv => gj_add j40 (fun v54 s54 j54 => Or.inr ⟨gj_F j54 rfl, ev_f c' (ev_b0 hv)⟩))
    have hp1 := gs40.2.2.1
    have l2 : ((fltq 0 g ++ [((40, p, 0, 0) : Stq)] ++ l).length : Int) = (lnq g : Int) + 1 + l.length := by rw [List.length_append]; omega
    refine pg_add (a := stp 41 p) gs40 (by rw [l2]; omega) (by rw [ep]; rfl) (fun v54 s54 k54 gs54 hv54 => ?_)
    have ef : fltq 0 (g ++ [((40, p, 0, 0), l)]) = fltq 0 g ++ (((40, p, v54.toInt, 0) : Stq) :: (l ++ [stp 41 p])) := by
      rw [flt_app]
      have : fltq (0 + (fltq 0 g).length) [(((40, p, 0, 0) : Stq), l)] = [((40, p, ((0 + (fltq 0 g).length : Nat) : Int) + 1 + (l.length : Int), 0) : Stq)] ++ l ++ [stp 41 p] ++ [] := rfl
      rw [this, hv54, l2]
      have e0 : ((0 + (fltq 0 g).length : Nat) : Int) = (lnq g : Int) := by unfold lnq; omega
      rw [e0, List.append_nil]
      rfl
    have es := lnq_size (y := ((40, p, 0, 0) : Stq)) (l := l) rfl
    have tb : TBL s54 (fltq 0 g ++ (((40, p, 0, 0) : Stq) :: (l ++ [stp 41 p]))) := by
      have := gs54.2.2.2.2
      simp only [List.append_assoc, List.cons_append, List.nil_append] at this
      exact this
    refine Or.inl ⟨p1, [((40, p, 0, 0), l)], ⟨kp_tr hk40 (kp_tr (kg4 k54) (kg_F rfl)), gst_F gs54 (by decide) (by rw [ef]; exact tbl_p20 tb hv34 (by have : (fltq 0 g).length = lnq g := rfl; omega)), by rw [rdF_ne (by decide), k54 3 9 rfl rfl]; exact h940⟩, by omega, by omega, fun c2 => ?_, fun c2 => ev_f c' (ev_b hv (ev_f c2 ev_c))⟩
    rw [if_neg c']
    exact ev_f c' (ev_b hv (ev_t c2 ev_c))
  · rw [gt_kd g6] at c
    exact ⟨fun _ => c, fun _ => rfl⟩
  · rw [gt_kd g6] at c
    exact ⟨fun h => absurd h (by decide), fun h => absurd h c⟩
end SVA
end

section
/-! the class's grammar of statements: initials -/
section SIT
variable {kd vl : Nat → Int} {n p d w ty : Nat} {σ0 σ s : St} {g : List Gsq} {a1 a2 a3 : Int32} {k lk : Int} {Q : St → Prop}
/-- initials so far: R what is still to come -/
theorem it_more {p1 : Nat} {l : List Stq} {gi : List Gsq} {x : Nat} {p0 : Nat} (hv : EVq (fun n => EXn kd n p1) (some (w, gqs l))) (c : kd w = 26)
    (h1 : ∀ q l k, EVq (fun n => ITn kd n p1) (some (q, l, k)) → EVq (fun n => ITn kd n p0) (some (q, gi ++ l, x + k))) (h0 : EVq (fun n => ITn kd n p1) none → EVq (fun n => ITn kd n p0) none) :
    (∀ q l2 k, EVq (fun n => ITn kd n (w + 1)) (some (q, l2, k)) → EVq (fun n => ITn kd n p0) (some (q, gi ++ (gqs l ++ [gq (stp 44 w)]) ++ l2, (x + 1) + k))) ∧ (EVq (fun n => ITn kd n (w + 1)) none → EVq (fun n => ITn kd n p0) none) := by
  refine ⟨fun q l2 k h => ?_, fun h => h0 (ev_up (ev_b hv (ev_t c (ev_b0 h))))⟩
  have := h1 q (gqs l ++ [gq (stp 44 w)] ++ l2) (k + 1) (ev_up (ev_b hv (ev_t c (ev_b h ev_c))))
  rw [show x + 1 + k = x + (k + 1) from by omega]
  simp only [List.append_assoc] at this ⊢
  exact this
theorem gt_initial (t0 : TKv σ0 kd vl n) (br : Bool) (G : Int → List Gsq) (hset : ∀ s p ri (v : Int32), GTq kd n σ0 s p (G 0 ++ ri) → GTq kd n σ0 (upF s 21 (setv 32100 (s 21) a1 v)) p (G (if br = true then v.toInt else 0) ++ ri)) (hG : br = false → ∀ c, G c = G 0) (hlen : ∀ c, lnq (G c) = lnq (G 0))
    (h : GTq kd n σ0 σ p (G 0)) (c30 : kd p = 30) (ha1 : 0 ≤ a1.toInt ↔ br = true) (ha2 : a2.toInt = (ty : Int)) (hl : (lnq (G 0) : Int) ≤ 2 * p + 66)
    (k1 : ∀ s p' ri cnt, EVq (fun n => INn kd vl n br ty p) (some (p', ri, cnt)) → GTq kd n σ0 s p' (G cnt ++ ri) → (lnq ri : Int) + 2 * p + 1 ≤ 2 * p' → p < p' → Q s) (k0 : ∀ s, GJq σ0 s → EVq (fun n => INn kd vl n br ty p) none → Q s) : pk_X3_initial a1 a2 σ Q := by
  have h16 := t0.1.2.1
  have ep := gt_at h
  unfold pk_X3_initial
  refine gt_adv t0 h (by omega) (fun s6 g6 => ?_)
  have hn6 := gt_n g6
  have ek6 := gt_kd g6
  have ep6 := gt_at g6
  have tk6 := gt_tk t0 g6
  have hs6 : ∀ s, GTq kd n σ0 s (p + 1) (G 0) → GTq kd n σ0 (upF s 21 (setv 32100 (s 21) a1 ((atv 16002 (s6 14) (s6 3 1)) + (1 : Int32)))) (p + 1) (G (if br = true then ((atv 16002 (s6 14) (s6 3 1)) + (1 : Int32)).toInt else 0)) := fun s hs => by
    have := hset s (p + 1) [] ((atv 16002 (s6 14) (s6 3 1)) + (1 : Int32)) (by rw [List.append_nil]; exact hs)
    rw [List.append_nil] at this
    exact this
  have hv14 : kd (p + 1) = 4 → ((atv 16002 (s6 14) (s6 3 1)) + (1 : Int32)).toInt = vl (p + 1) + 1 := fun c => by
    have e := t0.2 (p + 1) hn6 c
    have e14 : s6 14 = σ0 14 := funext (fun j => g6.1 14 j rfl rfl)
    rw [atv_at ep6 (by omega), e14]
    rw [ad1 (by omega), e.1]
  have hk2 : kd (p + 1) = 4 → (atv 16002 (s6 13) ((s6 3 1) + (1 : Int32))).toInt = kd (p + 2) := fun c => by
    have hlt := gst_kd tk6 g6.2.1 (by omega)
    have e2 : ((s6 3 1) + (1 : Int32)).toInt = ((p + 2 : Nat) : Int) := by rw [ad1 (by omega), ep6]; omega
    rw [atv_at e2 (by omega)]
    exact tk6.2.2.1 (p + 2) (by omega)
  refine ⟨fun y => (y.toInt ≠ 0 ↔ br = true ∧ ALq kd (p + 1)), fun y58 _ hy58 => ?_, ¬ (br = true ∧ ALq kd (p + 1)), fun hx => ⟨fun h => absurd rfl h, fun h => absurd h hx⟩, fun c hx => by have := ha1.2 hx.1; omega, fun c => ⟨fun c4 hx => ?_, fun c4 => ⟨br = true ∧ ALq kd (p + 1), fun hx => ⟨fun _ => hx, fun _ => by decide⟩, fun c26 => ?_, fun n26 => ⟨fun n27 hx => ?_, fun c27 => ?_⟩⟩⟩⟩
  rotate_left
  · rw [ek6] at c4
    exact c4 hx.2.1
  · rw [ek6] at c4
    rw [hk2 c4] at c26
    exact ⟨ha1.1 c, c4, Or.inl c26⟩
  · rw [ek6] at c4
    rw [hk2 c4] at n26 n27
    exact hx.2.2.elim n26 n27
  · rw [ek6] at c4
    rw [hk2 c4] at c27
    exact ⟨ha1.1 c, c4, Or.inr c27⟩
  refine ⟨fun s => GTq kd n σ0 s (p + 1) (G (if br = true ∧ ALq kd (p + 1) then vl (p + 1) + 1 else 0)), fun s89 g89 => ?_, fun c => ?_, fun c => ?_⟩
  rotate_left
  · rw [if_neg (fun hx => (hy58.2 hx) c)]
    exact g6
  · have hx := hy58.1 c
    have := hs6 s6 g6
    rw [if_pos hx.1, hv14 hx.2.1] at this
    rw [if_pos hx]
    exact this
  have ek := gt_kd g89
  have ep89 := gt_at g89
  rw [ek]
  refine ⟨fun n22 => ⟨¬ (br = true ∧ ALq kd (p + 1) ∧ ty = 0), fun hj => ?_, fun c hx => (hy58.2 ⟨hx.1, hx.2.1⟩) c, fun c => ⟨fun c2 hx => c2 (by rw [ha2, hx.2.2]; rfl), fun c2 => ?_⟩⟩, fun c22 => ?_⟩
  · refine gt_expr t0 g89 (by rw [hlen]; omega) (fun s227 p1 l hev hln g227 hb hpp => ?_) (fun s227 j227 hev => gj_add j227 (fun _ s236 j236 => k0 s236 j236 (ev_f n22 (ev_f hj (ev_b0 hev)))))
    have hp1 := gt_n g227
    have e46 := lnq_one (a := stp 46 p) (by simp [stp])
    refine gt_add (a := stp 46 p) g227 (by rw [lnq_app, hlen]; omega) (by simp [stp]) (by rw [ep]; rfl) (fun _ s236 g236 _ => k1 s236 p1 (gqs l ++ [gq (stp 46 p)]) _ (ev_f n22 (ev_f hj (ev_b hev ev_c))) (by rw [← List.append_assoc]; exact g236) (by rw [lnq_app]; omega) (by omega))
  · have hx := hy58.1 c
    have ht : ty = 0 := by omega
    have c4 := hx.2.1
    have e45 := lnq_one (a := stp 45 (p + 1)) (by simp [stp])
    have e46 := lnq_one (a := ((46, p, 2, 0) : Stq)) (by simp)
    rw [if_pos hx] at g89
    refine gt_add (a := stp 45 (p + 1)) g89 (by rw [hlen]; omega) (by simp [stp]) (by rw [ep89]; rfl) (fun _ s204 g204 _ => gt_adv t0 g204 (by omega) (fun s209 g209 => gt_add (a := (46, p, 2, 0)) g209 (by have := gt_n g209; rw [lnq_app, hlen]; omega) (by simp) (by rw [ep]; rfl) (fun _ s218 g218 _ => k1 s218 (p + 2) ([gq (stp 45 (p + 1))] ++ [gq (46, p, 2, 0)]) (vl (p + 1) + 1) (ev_f n22 (ev_t ⟨hx.1, hx.2, ht⟩ ev_c)) ?_ ?_ (by omega))))
    · rw [← List.append_assoc]
      exact g218
    · rw [lnq_app]
      omega
  · have nal : ¬ (br = true ∧ ALq kd (p + 1)) := fun hx => by have := hx.2.1; omega
    rw [if_neg nal] at g89
    refine gt_adv t0 g89 (by omega) (fun s99 g99 => ?_)
    have hn99 := gt_n g99
    refine ⟨fun x6 x7 s => (∃ p1 gi, (x7.toInt = 1 ∧ GTq kd n σ0 s p1 (G 0 ++ gi) ∧ (0 ≤ x6.toInt ∧ x6.toInt + p + 2 ≤ p1) ∧ (lnq gi : Int) + 2 * p + 4 ≤ 2 * p1 ∧ (∀ q l k, EVq (fun n => ITn kd n p1) (some (q, l, k)) → EVq (fun n => ITn kd n (p + 2)) (some (q, gi ++ l, x6.toInt.toNat + k))) ∧ (EVq (fun n => ITn kd n p1) none → EVq (fun n => ITn kd n (p + 2)) none))
      ∨ (x7.toInt = 0 ∧ GTq kd n σ0 s p1 (G 0 ++ gi) ∧ (0 ≤ x6.toInt ∧ x6.toInt ≤ 20000) ∧ (lnq gi : Int) + 2 * p + 4 ≤ 2 * p1 ∧ (kd p1 = 23 → EVq (fun n => ITn kd n (p + 2)) (some (p1 + 1, gi, x6.toInt.toNat))) ∧ (kd p1 ≠ 23 → EVq (fun n => ITn kd n (p + 2)) none)))
      ∨ (x7.toInt = 0 ∧ GJq σ0 s ∧ EVq (fun n => ITn kd n (p + 2)) none), ?_, ?_⟩
    · refine Or.inl ⟨p + 2, [], Or.inl ⟨rfl, by rw [List.append_nil]; exact g99, ⟨by decide, by rw [i0]; omega⟩, by rw [lnq_nil]; omega, fun q l k hx => ?_, id⟩⟩
      have e0 : (0 : Int32).toInt.toNat + k = k := by rw [i0]; omega
      rw [e0, List.nil_append]
      exact hx
    rintro x6 x7 s108 w7 hL
    have nofin : EVq (fun n => ITn kd n (p + 2)) none → EVq (fun n => INn kd vl n br ty p) none := fun hx => ev_t c22 (ev_b0 hx)
    have tail : ∀ s, GJq σ0 s → EVq (fun n => ITn kd n (p + 2)) none → pk_X3_expect (23 : Int32) s (fun s160 => pk_X3_add (46 : Int32) (σ 3 1) (1 : Int32) (0 : Int32) (upF s160 21 (setv 32100 (s160 21) a1 x6)) (fun v179 s179 => Q s179)) := fun s j hn => gj_expect j (by decide) (fun s160 j160 => gj_add (gj_F j160 rfl) (fun _ s179 j179 => k0 s179 j179 (nofin hn)))
    have more : x7.toInt ≠ 0 → pkG_expression (1 : Int32) s108 (fun s127 => pk_X3_add (44 : Int32) (s127 3 1) (0 : Int32) (0 : Int32) s127 (fun v139 s139 => pk_X3_accept (26 : Int32) s139 (fun v146 s146 => (∃ p1 gi, (v146.toInt = 1 ∧ GTq kd n σ0 s146 p1 (G 0 ++ gi) ∧ (0 ≤ (x6 + 1).toInt ∧ (x6 + 1).toInt + p + 2 ≤ p1) ∧ (lnq gi : Int) + 2 * p + 4 ≤ 2 * p1 ∧ (∀ q l k, EVq (fun n => ITn kd n p1) (some (q, l, k)) → EVq (fun n => ITn kd n (p + 2)) (some (q, gi ++ l, (x6 + 1).toInt.toNat + k))) ∧ (EVq (fun n => ITn kd n p1) none → EVq (fun n => ITn kd n (p + 2)) none))
      ∨ (v146.toInt = 0 ∧ GTq kd n σ0 s146 p1 (G 0 ++ gi) ∧ (0 ≤ (x6 + 1).toInt ∧ (x6 + 1).toInt ≤ 20000) ∧ (lnq gi : Int) + 2 * p + 4 ≤ 2 * p1 ∧ (kd p1 = 23 → EVq (fun n => ITn kd n (p + 2)) (some (p1 + 1, gi, (x6 + 1).toInt.toNat))) ∧ (kd p1 ≠ 23 → EVq (fun n => ITn kd n (p + 2)) none)))
      ∨ (v146.toInt = 0 ∧ GJq σ0 s146 ∧ EVq (fun n => ITn kd n (p + 2)) none)))) := fun c7 => by
      rcases hL with ⟨p1, gi, ⟨e7, g108, hx6, hb, hc1, hc0⟩ | ⟨e7, _⟩⟩ | ⟨e7, _⟩
      · have hp1 := gt_n g108
        refine gt_expr t0 g108 (by rw [lnq_app]; omega) (fun s127 p2 l hev hln g127 hb2 hpp => ?_) (fun s127 j127 hev => gj_add j127 (fun _ s139 j139 => gj_accept j139 (by decide) (Or.inr ⟨rfl, j139, hc0 (ev_up (ev_b0 hev))⟩)))
        have hp2 := gt_n g127
        have ep2 := gt_at g127
        have e44 := lnq_one (a := stp 44 p2) (by simp [stp])
        refine gt_add (a := stp 44 p2) g127 (by rw [lnq_app, lnq_app]; omega) (by simp [stp]) (by rw [ep2]; rfl) (fun _ s139 g139 _ => ?_)
        have e6 : (x6 + 1).toInt = x6.toInt + 1 := ad1 (by omega)
        have en : (x6 + 1).toInt.toNat = x6.toInt.toNat + 1 := by rw [e6]; omega
        have eg : G 0 ++ gi ++ gqs l ++ [gq (stp 44 p2)] = G 0 ++ (gi ++ (gqs l ++ [gq (stp 44 p2)])) := by simp only [List.append_assoc]
        have lg : (lnq (gi ++ (gqs l ++ [gq (stp 44 p2)])) : Int) = lnq gi + l.length + 1 := by rw [lnq_app, lnq_app]; omega
        rw [eg] at g139
        refine gt_accept t0 g139 (by decide) (fun c26 s146 g146 => Or.inl ⟨p2 + 1, gi ++ (gqs l ++ [gq (stp 44 p2)]), Or.inl ⟨rfl, g146, by rw [e6]; omega, by omega, ?_, ?_⟩⟩) (fun n26 => Or.inl ⟨p2, gi ++ (gqs l ++ [gq (stp 44 p2)]), Or.inr ⟨rfl, g139, by rw [e6]; omega, by omega, fun c23 => ?_, fun n23 => hc0 (ev_up (ev_b hev (ev_f n26 (ev_f n23 ev_c))))⟩⟩)
        · rw [en]
          exact (it_more hev c26 hc1 hc0).1
        · exact (it_more hev c26 hc1 hc0).2
        · rw [en]
          exact hc1 _ _ _ (ev_up (ev_b hev (ev_f n26 (ev_t c23 ev_c))))
      · exact absurd e7 c7
      · exact absurd e7 c7
    have hcnt : x7.toInt = 1 → ∀ p1 gi, GTq kd n σ0 s108 p1 (G 0 ++ gi) → (s108 2 4).toInt = (n : Int) + 1 ∧ p1 ≤ n := fun _ p1 gi g => ⟨(gt_tk t0 g).1, gt_n g⟩
    refine ⟨x7.toInt = 0, fun hj => ?_, fun c => ?_, fun c => ⟨id, fun c7 => more c7⟩⟩
    · rcases hL with ⟨p1, gi, ⟨e7, _⟩ | ⟨e7, g108, hx6, hb, y1, y0⟩⟩ | ⟨e7, j108, hn⟩
      · omega
      · have hp1 := gt_n g108
        have e46 := lnq_one (a := ((46, p, 1, 0) : Stq)) (by simp)
        refine gt_expect t0 g108 (by decide) (fun c23 s160 g160 => ?_) (fun c23 s160 j160 => gj_add (gj_F j160 rfl) (fun _ s179 j179 => k0 s179 j179 (nofin (y0 c23))))
        have gs := hset s160 (p1 + 1) gi x6 g160
        refine gt_add (a := (46, p, 1, 0)) gs (by rw [lnq_app, hlen]; omega) (by simp) (by rw [ep]; rfl) (fun _ s179 g179 _ => k1 s179 (p1 + 1) (gi ++ [gq (46, p, 1, 0)]) (x6.toInt.toNat : Int) (ev_t c22 (ev_b (y1 c23) ev_c)) ?_ (by rw [lnq_app]; omega) (by omega))
        rw [show ((x6.toInt.toNat : Nat) : Int) = x6.toInt from by omega, ← List.append_assoc]
        by_cases c : br = true
        · rw [if_pos c] at g179
          exact g179
        · rw [if_neg c] at g179
          rw [hG (by simpa using c)]
          exact g179
      · exact tail s108 j108 hn
    · rcases hL with ⟨p1, gi, ⟨e7, g108, hx6, _⟩ | ⟨e7, _⟩⟩ | ⟨e7, _⟩
      · have := hcnt e7 p1 gi g108
        omega
      · exact e7
      · exact e7
end SIT
end

section
/-! the class's grammar of statements: variables, whole -/
section SVS
variable {kd vl : Nat → Int} {n p d w ty nm : Nat} {σ0 σ s : St} {g : List Gsq} {a1 a2 a3 : Int32} {k lk : Int} {Q : St → Prop}
theorem flt_mid {X r : List Gsq} {a : Stq} (h : a.1 ≠ 40) : fltq 0 (X ++ [gq a] ++ r) = fltq 0 X ++ (a :: fltq (0 + ((fltq 0 X).length + 1)) r) := by
  rw [flt_app, flt_add h, List.append_assoc, List.length_append]
  rfl
theorem gj_variables (h : GJq σ0 σ) (k : ∀ s, GJq σ0 s → Q s) : pk_X3_variables a1 a2 a3 σ Q := by
  unfold pk_X3_variables
  refine ⟨fun _ _ _ _ s => GJq σ0 s, h, fun x4 x5 x6 x7 s w6 j => ⟨True, fun _ => gj_expect j (by decide) k, fun _ => trivial, fun _ => ⟨fun _ => trivial, fun _ => ?_⟩⟩⟩
  have e := j.2.2
  exact ⟨fun _ s => GJq σ0 s, fun y s45 j45 => ⟨fun y => y.toInt = 0, fun y61 _ h61 => ⟨fun _ => True, fun y82 _ => gj_add j45 (fun _ s82 j82 => ⟨fun s => GJq σ0 s, fun s99 j99 => gj_accept j99 (by decide) ⟨fun _ _ s => GJq σ0 s, fun _ _ s j => j, fun _ => j99, fun c => absurd rfl c⟩, fun _ => j82, fun c => absurd h61 c⟩), fun _ => trivial, fun _ => trivial⟩, fun _ => rfl, fun c => by have := j45.2.2; omega⟩, fun _ => j, fun c => by omega⟩
/-- behind a variable's name and its [ ]: tB its steps, by the size that is told behind = -/
def VBq (kd vl : Nat → Int) (n : Nat) (σ0 : St) (g : List Gsq) (lk : Int) (nm ty p1 : Nat) (y : Int32) (s : St) : Prop :=
  (∃ (br : Bool) (pb : Nat) (tB : Int → List Gsq), GTq kd n σ0 s pb (g ++ tB 0) ∧ (0 ≤ y.toInt ↔ br = true) ∧ (br = false → ∀ c, tB c = tB 0) ∧ (∀ c, lnq (tB c) = lnq (tB 0)) ∧ (lnq (tB 0) : Int) + 2 * p1 ≤ 2 * pb ∧ p1 ≤ pb
    ∧ (∀ s q r (v : Int32), GTq kd n σ0 s q (g ++ tB 0 ++ r) → GTq kd n σ0 (upF s 21 (setv 32100 (s 21) y v)) q (g ++ tB (if br = true then v.toInt else 0) ++ r))
    ∧ (kd pb = 30 → (∀ q ri c, EVq (fun n => INn kd vl n br ty pb) (some (q, ri, c)) → EVq (fun n => V1n kd vl n lk nm ty p1) (some (q, tB c ++ [gq (43, nm, (ty : Int), lk + 4)] ++ ri))) ∧ (EVq (fun n => INn kd vl n br ty pb) none → EVq (fun n => V1n kd vl n lk nm ty p1) none))
    ∧ (kd pb ≠ 30 → EVq (fun n => V1n kd vl n lk nm ty p1) (some (pb, tB 0 ++ [gq (43, nm, (ty : Int), lk)]))))
  ∨ (GJq σ0 s ∧ EVq (fun n => V1n kd vl n lk nm ty p1) none)
theorem vb_none (h : GTq kd n σ0 σ p g) (c : kd p ≠ 24) : VBq kd vl n σ0 g lk nm ty p ((-1) : Int32) σ := by
  refine Or.inl ⟨false, p, fun _ => [], by rw [List.append_nil]; exact h, ⟨fun h => absurd h (by decide), fun h => absurd h (by decide)⟩, fun _ _ => rfl, fun _ => rfl, by rw [lnq_nil]; omega, Nat.le_refl _, fun s q r v hs => ?_, fun c30 => ⟨fun q ri cnt hi => ev_f c (ev_t c30 (ev_b hi ev_c)), fun hi => ev_f c (ev_t c30 (ev_b0 hi))⟩, fun c30 => ev_f c (ev_f c30 ev_c)⟩
  rw [setv_out (Or.inl (by decide)), upF_id]
  exact hs
theorem vb_some {v : Int32} {gb : List Gsq} {gv : Int} {p' : Nat} (t0 : TKv σ0 kd vl n) (c : kd p = 24) (hb : EVq (fun n => BKn kd n p) (some (p', gb, gv))) (h : GTq kd n σ0 s p' (g ++ gb ++ [gq (42, p, gv, 0)])) (hv : v.toInt = (lnq (g ++ gb) : Int)) (hl : (lnq (g ++ gb) : Int) ≤ 32090) (hb2 : (lnq gb : Int) + 2 * p + 3 ≤ 2 * p') (hpp : p < p') : VBq kd vl n σ0 g lk nm ty p v s := by
  have e42 : ∀ x : Int, lnq (gb ++ [gq (42, p, gv, x)]) = lnq gb + 1 := fun x => by rw [lnq_app, lnq_one (a := (42, p, gv, x)) (by simp)]
  refine Or.inl ⟨true, p', fun x => gb ++ [gq (42, p, gv, x)], by rw [← List.append_assoc]; exact h, ⟨fun _ => rfl, fun _ => by omega⟩, fun hx => absurd hx (by decide), fun x => by rw [e42, e42], by rw [e42]; omega, by omega, fun s q r x hs => ?_, fun c30 => ⟨fun q ri cnt hi => ?_, fun hi => ev_t c (ev_b hb (ev_t c30 (ev_b0 hi)))⟩, fun c30 => ?_⟩
  · rw [if_pos rfl]
    obtain ⟨h1, h2, h3⟩ := hs
    have ea : ∀ x : Int, g ++ (gb ++ [gq (42, p, gv, x)]) ++ r = (g ++ gb) ++ [gq (42, p, gv, x)] ++ r := fun x => by simp only [List.append_assoc]
    have tb := h2.2.2.2.2
    rw [ea, flt_mid (by simp)] at tb
    refine ⟨kp_tr h1 (kg_F rfl), gst_F h2 (by decide) ?_, by rw [rdF_ne (by decide)]; exact h3⟩
    rw [ea, flt_mid (by simp)]
    exact tbl_p21 tb hv (by have : (fltq 0 (g ++ gb)).length = lnq (g ++ gb) := rfl; omega)
  · exact ev_t c (ev_b hb (ev_t c30 (ev_b hi ev_c)))
  · exact ev_t c (ev_b hb (ev_f c30 ev_c))
theorem gt_variables (t0 : TKv σ0 kd vl n) (h : GTq kd n σ0 σ p g) (hl : (lnq g : Int) ≤ 2 * p + 64) (hp1 : 1 ≤ p) (ha1 : a1.toInt = (nm : Int)) (ha2 : a2.toInt = (ty : Int)) (hlk : 0 ≤ lk ∧ lk ≤ 2) (ha3 : a3.toInt = lk)
    (k1 : ∀ s p' g', EVq (fun n => VSn kd vl n lk nm ty p) (some (p', g')) → GTq kd n σ0 s p' (g ++ g') → (lnq g' : Int) + 2 * p + 1 ≤ 2 * p' → p < p' → Q s) (k0 : ∀ s, GJq σ0 s → EVq (fun n => VSn kd vl n lk nm ty p) none → Q s) : pk_X3_variables a1 a2 a3 σ Q := by
  have h16 := t0.1.2.1
  unfold pk_X3_variables
  refine ⟨fun x4 x5 x6 x7 s => (∃ p1 gi, GTq kd n σ0 s p1 (g ++ gi) ∧ p ≤ p1 ∧ ((x6.toInt = 1 ∧ (lnq gi : Int) + 2 * p ≤ 2 * p1 ∧ (n : Int) + 1 + p ≤ x7.toInt + p1 ∧ ∃ nm2 ty2 : Nat, x4.toInt = (nm2 : Int) ∧ x5.toInt = (ty2 : Int) ∧ (∀ q l, EVq (fun n => VSn kd vl n lk nm2 ty2 p1) (some (q, l)) → EVq (fun n => VSn kd vl n lk nm ty p) (some (q, gi ++ l))) ∧ (EVq (fun n => VSn kd vl n lk nm2 ty2 p1) none → EVq (fun n => VSn kd vl n lk nm ty p) none))
      ∨ (x6.toInt = 0 ∧ (lnq gi : Int) + 2 * p ≤ 2 * p1 + 1 ∧ (kd p1 = 27 → EVq (fun n => VSn kd vl n lk nm ty p) (some (p1 + 1, gi))) ∧ (kd p1 ≠ 27 → EVq (fun n => VSn kd vl n lk nm ty p) none))))
    ∨ (GJq σ0 s ∧ EVq (fun n => VSn kd vl n lk nm ty p) none), ?_, ?_⟩
  · have e4 : (σ 2 4).toInt = (n : Int) + 1 := (gt_tk t0 h).1
    refine Or.inl ⟨p, [], by rw [List.append_nil]; exact h, Nat.le_refl _, Or.inl ⟨rfl, by rw [lnq_nil]; omega, by omega, nm, ty, ha1, ha2, fun q l hx => by rw [List.nil_append]; exact hx, id⟩⟩
  rintro x4 x5 x6 x7 s18 w6 hL
  rcases hL with ⟨p1, gi, g18, hpp, ⟨e6, hb, hc, nm2, ty2, e4, e5, y1, y0⟩ | ⟨e6, hb, y1, y0⟩⟩ | ⟨j18, hn⟩
  rotate_left
  · have hn1 := gt_n g18
    refine ⟨True, fun _ => gt_expect t0 g18 (by decide) (fun c s138 g138 => k1 s138 (p1 + 1) gi (y1 c) g138 (by omega) (by omega)) (fun c s138 j138 => k0 s138 j138 (y0 c)), fun _ => trivial, fun _ => ⟨fun _ => trivial, fun c => absurd e6 c⟩⟩
  · refine ⟨True, fun _ => gj_expect j18 (by decide) (fun s138 j138 => k0 s138 j138 hn), fun _ => trivial, fun _ => ⟨fun _ => trivial, fun _ => ?_⟩⟩
    have e := j18.2.2
    exact ⟨fun _ s => GJq σ0 s, fun y s45 j45 => ⟨fun y => y.toInt = 0, fun y61 _ h61 => ⟨fun _ => True, fun y82 _ => gj_add j45 (fun _ s82 j82 => ⟨fun s => GJq σ0 s, fun s99 j99 => gj_accept j99 (by decide) ⟨fun _ _ s => GJq σ0 s, fun _ _ s j => Or.inr ⟨j, hn⟩, fun _ => j99, fun c => absurd rfl c⟩, fun _ => j82, fun c => absurd h61 c⟩), fun _ => trivial, fun _ => trivial⟩, fun _ => rfl, fun c => by have := j45.2.2; omega⟩, fun _ => j18, fun c => by omega⟩
  have hn1 := gt_n g18
  have lg1 : (lnq (g ++ gi) : Int) = lnq g + lnq gi := by rw [lnq_app]; omega
  have none1 : EVq (fun n => V1n kd vl n lk nm2 ty2 p1) none → EVq (fun n => VSn kd vl n lk nm ty p) none := fun hx => y0 (ev_up (ev_b0 hx))
  refine ⟨False, fun f => f.elim, fun c => by omega, fun _ => ⟨fun c => by omega, fun _ => ⟨fun y s => VBq kd vl n σ0 (g ++ gi) lk nm2 ty2 p1 y s, ?_, fun c => vb_none g18 (by rw [gt_kd g18] at c; exact c), fun c => ?_⟩⟩⟩
  rotate_left
  · have c24 : kd p1 = 24 := by rw [gt_kd g18] at c; exact c
    exact gt_bracket t0 g18 c24 (by omega) (fun v s p' gb gv hb' g' hv hb2 hpp2 => vb_some t0 c24 hb' g' hv (by have := gt_n g'; rw [lnq_app]; omega) hb2 hpp2) (fun v s j hb' => Or.inr ⟨j, ev_t c24 (ev_b0 hb')⟩)
  rintro y45 s45 (⟨br, pb, tB, g45, hbr, htB, hln, hbb, hpb, hset, z30, zn⟩ | ⟨j45, hnv⟩)
  rotate_left
  · exact ⟨fun y => y.toInt = 0, fun y61 _ h61 => ⟨fun _ => True, fun y82 _ => gj_add j45 (fun _ s82 j82 => ⟨fun s => GJq σ0 s, fun s99 j99 => gj_accept j99 (by decide) ⟨fun _ _ s => GJq σ0 s, fun _ _ s j => Or.inr ⟨j, none1 hnv⟩, fun _ => j99, fun c => absurd rfl c⟩, fun _ => j82, fun c => absurd h61 c⟩), fun _ => trivial, fun _ => trivial⟩, fun _ => rfl, fun c => by have := j45.2.2; omega⟩
  have hnb := gt_n g45
  refine ⟨fun y => (y.toInt ≠ 0 ↔ kd pb = 30), fun y61 _ h61 => ⟨fun y => y.toInt = (if kd pb = 30 then lk + 4 else lk), fun y82 h82 => ?_, fun c => ?_, fun c => ?_⟩, fun c => ?_, fun c => ?_⟩
  rotate_left
  · rw [if_neg (fun e => h61.2 e c)]
    exact ha3
  · rw [if_pos (h61.1 c)]
    show (a3 + (4 : Int32)).toInt = lk + 4
    rw [adc i4 (by omega) (by omega), ha3]
  · rw [gt_kd g45] at c
    exact ⟨fun h => absurd rfl h, fun h => absurd h c⟩
  · rw [gt_kd g45] at c
    exact ⟨fun _ => c, fun _ => by decide⟩
  have e43 : ∀ x : Int, lnq [gq (43, nm2, (ty2 : Int), x)] = 1 := fun x => lnq_one (a := (43, nm2, (ty2 : Int), x)) (by simp)
  refine gt_add (a := (43, nm2, (ty2 : Int), (if kd pb = 30 then lk + 4 else lk))) g45 (by rw [lnq_app]; omega) (by simp) (by rw [e4, e5, h82]; rfl) (fun _ s82 g82 _ => ?_)
  refine ⟨fun s => (∃ p2 g2, EVq (fun n => V1n kd vl n lk nm2 ty2 p1) (some (p2, g2)) ∧ GTq kd n σ0 s p2 (g ++ gi ++ g2) ∧ (lnq g2 : Int) + 2 * p1 ≤ 2 * p2 + 1 ∧ p1 ≤ p2) ∨ (GJq σ0 s ∧ EVq (fun n => V1n kd vl n lk nm2 ty2 p1) none), ?_, fun c => ?_, fun c => ?_⟩
  rotate_left
  · have c30 : kd pb ≠ 30 := fun e => h61.2 e c
    rw [if_neg c30] at g82
    refine Or.inl ⟨pb, tB 0 ++ [gq (43, nm2, (ty2 : Int), lk)], zn c30, by rw [← List.append_assoc]; exact g82, by rw [lnq_app, e43]; omega, hpb⟩
  · have c30 := h61.1 c
    rw [if_pos c30] at g82
    refine gt_initial t0 br (fun x => g ++ gi ++ tB x ++ [gq (43, nm2, (ty2 : Int), lk + 4)]) ?_ ?_ ?_ g82 c30 hbr e5 (by show (lnq (g ++ gi ++ tB 0 ++ [gq (43, nm2, (ty2 : Int), lk + 4)]) : Int) ≤ _; rw [lnq_app, lnq_app, e43]; omega) (fun s p' ri cnt hi g' hb' hpp' => Or.inl ⟨p', tB cnt ++ [gq (43, nm2, (ty2 : Int), lk + 4)] ++ ri, (z30 c30).1 p' ri cnt hi, ?_, ?_, by omega⟩) (fun s j hi => Or.inr ⟨j, (z30 c30).2 hi⟩)
    · intro s q r v hs
      have := hset s q ([gq (43, nm2, (ty2 : Int), lk + 4)] ++ r) v (by
        simp only [List.append_assoc] at hs ⊢
        exact hs)
      simp only [List.append_assoc] at this ⊢
      exact this
    · intro hf x
      show g ++ gi ++ tB x ++ [gq (43, nm2, (ty2 : Int), lk + 4)] = g ++ gi ++ tB 0 ++ [gq (43, nm2, (ty2 : Int), lk + 4)]
      rw [htB hf x]
    · intro x
      show lnq (g ++ gi ++ tB x ++ [gq (43, nm2, (ty2 : Int), lk + 4)]) = lnq (g ++ gi ++ tB 0 ++ [gq (43, nm2, (ty2 : Int), lk + 4)])
      rw [lnq_app, lnq_app, lnq_app (g1 := g ++ gi ++ tB 0), lnq_app (g1 := g ++ gi) (g2 := tB 0), hln]
    · simp only [List.append_assoc] at g' ⊢
      exact g'
    · rw [lnq_app, lnq_app, e43, hln]
      omega
  rintro s99 (⟨p2, g2, hv1, g99, hb2, hp12⟩ | ⟨j99, hnv⟩)
  rotate_left
  · exact gj_accept j99 (by decide) ⟨fun _ _ s => GJq σ0 s, fun _ _ s j => Or.inr ⟨j, none1 hnv⟩, fun _ => j99, fun c => absurd rfl c⟩
  have hn2 := gt_n g99
  refine gt_accept t0 g99 (by decide) (fun c26 s102 g102 => ⟨fun x4 x5 s => (∃ p3 t3 q3, SRq kd 5 (p2 + 1) = some (t3, q3) ∧ p3 = q3 + 1 ∧ kd q3 = 2 ∧ x4.toInt = (q3 : Int) ∧ x5.toInt = (t3 : Int) ∧ p2 + 1 ≤ q3 ∧ GTq kd n σ0 s p3 (g ++ gi ++ g2)) ∨ (GJq σ0 s ∧ EVq (fun n => VSn kd vl n lk nm ty p) none), ?_, fun c => absurd c (by decide), fun _ => ?_⟩) (fun n26 => ⟨fun _ _ s => GTq kd n σ0 s p2 (g ++ gi ++ g2), fun x4 x5 s g129 => Or.inl ⟨p2, gi ++ g2, by rw [← List.append_assoc]; exact g129, by omega, Or.inr ⟨rfl, by rw [lnq_app]; omega, fun c27 => y1 _ _ (ev_up (ev_b hv1 (ev_f n26 (ev_t c27 ev_c)))), fun n27 => y0 (ev_up (ev_b hv1 (ev_f n26 (ev_f n27 ev_c))))⟩⟩, fun _ => g99, fun c => absurd rfl c⟩)
  · rintro x4' x5' s129 (⟨p3, t3, q3, hs, rfl, k2, ex4, ex5, hq3, g129⟩ | ⟨j129, hn⟩)
    · have hn3 := gt_n g129
      refine Or.inl ⟨q3 + 1, gi ++ g2, by rw [← List.append_assoc]; exact g129, by omega, Or.inl ⟨rfl, by rw [lnq_app]; omega, ?_, q3, t3, ex4, ex5, fun q l hx => ?_, fun hx => y0 (ev_up (ev_b hv1 (ev_t c26 (ev_b (ev_k hs) (ev_t k2 (ev_b0 hx))))))⟩⟩
      · rw [dc1 (by omega)]
        omega
      · have := y1 q (g2 ++ l) (ev_up (ev_b hv1 (ev_t c26 (ev_b (ev_k hs) (ev_t k2 (ev_b hx ev_c))))))
        rw [List.append_assoc]
        exact this
    · exact Or.inr ⟨j129, hn⟩
  · refine gt_stars t0 g102 (fun v s t q3 hs hv g113 hq3 ht => gt_expect t0 g113 (by decide) (fun c2 s126 g126 => Or.inl ⟨q3 + 1, t, q3, hs, rfl, c2, gt_at g113, hv, hq3, g126⟩) (fun c2 s126 j126 => Or.inr ⟨j126, y0 (ev_up (ev_b hv1 (ev_t c26 (ev_b (ev_k hs) (ev_f c2 ev_c)))))⟩)) (fun v s hs j113 => gj_expect j113 (by decide) (fun s126 j126 => Or.inr ⟨j126, y0 (ev_up (ev_b hv1 (ev_t c26 (ev_b0 (ev_k hs)))))⟩))
end SVS
end

section
/-! the class's grammar of statements, whole -/
section SST
variable {kd vl : Nat → Int} {n p d w ty nm : Nat} {σ0 σ s : St} {g : List Gsq} {a1 a2 a3 : Int32} {Q : St → Prop} {R : Option (Nat × List Gsq)}
theorem st_0 (h : 25 < d) : EVq (fun n => STn kd vl n 0 d p) none := ev_up (ev_t h ev_c)
theorem st_22 (hd : ¬ 25 < d) (c : kd p = 22) (h : EVq (fun n => (STn kd vl n 1 (d + 1) (p + 1)).bind fun r => some (r.1, [gq (stp 20 p)] ++ r.2 ++ [gq (stp 21 p)])) R) : EVq (fun n => STn kd vl n 0 d p) R := ev_up (ev_f hd (ev_t c h))
theorem st_27 (hd : ¬ 25 < d) (c : kd p = 27) : EVq (fun n => STn kd vl n 0 d p) (some (p + 1, [])) := ev_up (ev_f hd (ev_f (by omega) (ev_t c ev_c)))
theorem st_5 (hd : ¬ 25 < d) (c : kd p = 5) (h : EVq (fun n => (SRq kd 5 (p + 1)).bind fun t => if kd t.2 = 2 then VSn kd vl n 0 t.2 t.1 (t.2 + 1) else none) R) : EVq (fun n => STn kd vl n 0 d p) R := ev_up (ev_f hd (ev_f (by omega) (ev_f (by omega) (ev_t c h))))
theorem st_9 (hd : ¬ 25 < d) (c : kd p = 9) (h : EVq (fun n => (CNn kd n 23 p (p + 1)).bind fun c => (STn kd vl n 2 d c.1).bind fun b => if kd b.1 = 10 then (STn kd vl n 2 d (b.1 + 1)).bind fun e => some (e.1, c.2 ++ b.2 ++ [gq (stp 24 p)] ++ e.2 ++ [gq (stp 25 p)]) else some (b.1, c.2 ++ b.2 ++ [gq (stp 25 p)])) R) : EVq (fun n => STn kd vl n 0 d p) R := ev_up (ev_f hd (ev_f (by omega) (ev_f (by omega) (ev_f (by omega) (ev_t c h)))))
theorem st_11 (hd : ¬ 25 < d) (c : kd p = 11) (h : EVq (fun n => (CNn kd n 27 p (p + 1)).bind fun c => (STn kd vl n 2 d c.1).bind fun b => some (b.1, [gq (stp 26 p)] ++ c.2 ++ b.2 ++ [gq (stp 28 p)])) R) : EVq (fun n => STn kd vl n 0 d p) R := ev_up (ev_f hd (ev_f (by omega) (ev_f (by omega) (ev_f (by omega) (ev_f (by omega) (ev_t c h))))))
theorem st_12 (hd : ¬ 25 < d) (c : kd p = 12) (h : EVq (fun n => (STn kd vl n 2 d (p + 1)).bind fun b => if kd b.1 = 11 then (CNn kd n 31 b.1 (b.1 + 1)).bind fun c => if kd c.1 = 27 then some (c.1 + 1, [gq (stp 29 p)] ++ b.2 ++ [gq (stp 30 b.1)] ++ c.2) else none else none) R) : EVq (fun n => STn kd vl n 0 d p) R := ev_up (ev_f hd (ev_f (by omega) (ev_f (by omega) (ev_f (by omega) (ev_f (by omega) (ev_f (by omega) (ev_t c h)))))))
theorem st_13 (hd : ¬ 25 < d) (c : kd p = 13) (h : EVq (fun n => (FHn kd n p).bind fun h => (STn kd vl n 2 d h.1).bind fun b => some (b.1, h.2 ++ b.2 ++ [gq (stp 35 p)])) R) : EVq (fun n => STn kd vl n 0 d p) R := ev_up (ev_f hd (ev_f (by omega) (ev_f (by omega) (ev_f (by omega) (ev_f (by omega) (ev_f (by omega) (ev_f (by omega) (ev_t c h))))))))
theorem st_s (hd : ¬ 25 < d) (c : kd p ≠ 22 ∧ kd p ≠ 27 ∧ kd p ≠ 5 ∧ kd p ≠ 9 ∧ kd p ≠ 11 ∧ kd p ≠ 12 ∧ kd p ≠ 13) (h : EVq (fun n => SIn kd n p) R) : EVq (fun n => STn kd vl n 0 d p) R := by
  refine ev_up (ev_f hd (ev_f c.1 (ev_f c.2.1 (ev_f c.2.2.1 (ev_f c.2.2.2.1 (ev_f c.2.2.2.2.1 (ev_f c.2.2.2.2.2.1 (ev_f c.2.2.2.2.2.2 ?_))))))))
  exact h
theorem st_b (h : EVq (fun n => (STn kd vl n 0 (d + 1) p).bind fun r => some (r.1, [gq (stp 20 p)] ++ r.2 ++ [gq (stp 21 r.1)])) R) : EVq (fun n => STn kd vl n 2 d p) R := ev_up h
theorem sl_e (c : kd p = 23) : EVq (fun n => STn kd vl n 1 d p) (some (p + 1, [])) := ev_up (ev_t c ev_c)
theorem sl_s (c : kd p ≠ 23) (h : EVq (fun n => (STn kd vl n 0 d p).bind fun r => (STn kd vl n 1 d r.1).bind fun q => some (q.1, r.2 ++ q.2)) R) : EVq (fun n => STn kd vl n 1 d p) R := ev_up (ev_f c h)
/-- a method of the group: of statements (0), of bodies (2) -/
def SGt (kd vl : Nat → Int) (n : Nat) (σ0 : St) (sel D : Nat) (B b : Int) (pre : Nat → Prop) (K : Int32 → St → (St → Prop) → Prop) : Prop :=
  ∀ (a1 : Int32) (d p : Nat) (σ : St) (g : List Gsq) (Q : St → Prop), a1.toInt = (d : Int) → d ≤ D → GTq kd n σ0 σ p g → (lnq g : Int) ≤ 2 * p + B → 1 ≤ p → pre p →
  (∀ s p' g', EVq (fun n => STn kd vl n sel d p) (some (p', g')) → GTq kd n σ0 s p' (g ++ g') → (lnq g' : Int) + 2 * p + b ≤ 2 * p' → p < p' → Q s) → (∀ s, GJq σ0 s → EVq (fun n => STn kd vl n sel d p) none → Q s) → K a1 σ Q
def SLt (kd vl : Nat → Int) (n : Nat) (σ0 : St) (K : Int32 → St → (St → Prop) → Prop) : Prop :=
  ∀ (a1 : Int32) (d p : Nat) (σ : St) (g : List Gsq) (Q : St → Prop), a1.toInt = (d : Int) → d ≤ 26 → GTq kd n σ0 σ p g → kd p = 22 → (lnq g : Int) ≤ 2 * p + 63 → 1 ≤ p →
  (∀ s p' g', EVq (fun n => STn kd vl n 1 d (p + 1)) (some (p', g')) → GTq kd n σ0 s p' (g ++ g') → (lnq g' : Int) + 2 * p + 4 ≤ 2 * p' → p + 1 < p' → Q s) → (∀ s, GJq σ0 s → EVq (fun n => STn kd vl n 1 d (p + 1)) none → Q s) → K a1 σ Q
def SJt (σ0 : St) (K : Int32 → St → (St → Prop) → Prop) : Prop := ∀ (a1 : Int32) (σ : St) (Q : St → Prop), GJq σ0 σ → (∀ s, GJq σ0 s → Q s) → K a1 σ Q
variable {Kbody Kconditional Kloop Kstatement Kstatements : Int32 → St → (St → Prop) → Prop}
theorem gj_body (js : SJt σ0 Kstatement) : SJt σ0 (pk_X3_body Kbody Kconditional Kloop Kstatement Kstatements) := fun a1 σ Q j k => by
  unfold pk_X3_body
  exact gj_add j (fun _ s9 j9 => js _ s9 _ j9 (fun s17 j17 => gj_add j17 (fun _ s29 j29 => k s29 j29)))
theorem gt_body (t0 : TKv σ0 kd vl n) (hs : SGt kd vl n σ0 0 26 62 1 (fun _ => True) Kstatement) : SGt kd vl n σ0 2 25 61 (-1) (fun _ => True) (pk_X3_body Kbody Kconditional Kloop Kstatement Kstatements) := fun a1 d p σ g Q ha hd h hl hp _ k1 k0 => by
  have h16 := t0.1.2.1
  have hpn := gt_n h
  have e20 := lnq_one (a := stp 20 p) (by simp [stp])
  unfold pk_X3_body
  refine gt_add (a := stp 20 p) h (by omega) (by simp [stp]) (by rw [gt_at h]; rfl) (fun _ s9 g9 _ => ?_)
  refine hs (a1 + (1 : Int32)) (d + 1) p s9 _ _ (by rw [ad1 (by omega), ha]; rfl) (by omega) g9 (by rw [lnq_app]; omega) hp trivial (fun s17 p1 gs hev g17 hb hpp => ?_) (fun s17 j17 hev => gj_add j17 (fun _ s29 j29 => k0 s29 j29 (st_b (ev_b0 hev))))
  have hp1 := gt_n g17
  have e21 := lnq_one (a := stp 21 p1) (by simp [stp])
  refine gt_add (a := stp 21 p1) g17 (by rw [lnq_app, lnq_app]; omega) (by simp [stp]) (by rw [gt_at g17]; rfl) (fun _ s29 g29 _ => k1 s29 p1 ([gq (stp 20 p)] ++ gs ++ [gq (stp 21 p1)]) (st_b (ev_b hev ev_c)) ?_ (by rw [lnq_app, lnq_app]; omega) hpp)
  simp only [List.append_assoc] at g29 ⊢
  exact g29
theorem gt_conditional (t0 : TKv σ0 kd vl n) (hb0 : SGt kd vl n σ0 2 25 61 (-1) (fun _ => True) Kbody) (jb : SJt σ0 Kbody) : SGt kd vl n σ0 0 25 62 1 (fun p => kd p = 9) (pk_X3_conditional Kbody Kconditional Kloop Kstatement Kstatements) := fun a1 d p σ g Q ha hd h hl hp c9 k1 k0 => by
  have h16 := t0.1.2.1
  have hd' : ¬ 25 < d := by omega
  unfold pk_X3_conditional
  have nk : ∀ s, GJq σ0 s → (s 3 2).toInt ≠ 10 := fun s j => by have := j.2.2; omega
  have bad : ∀ s, GJq σ0 s → EVq (fun n => STn kd vl n 0 d p) none → ∃ J49 : St → Prop, (∀ (s49 : St), J49 s49 → (pk_X3_add (25 : Int32) (σ 3 1) (0 : Int32) (0 : Int32) s49 (fun v55 s55 => Q s55))) ∧ (((s 3 2).toInt ≠ 10 → (J49 s)) ∧ ((s 3 2).toInt = 10 → (pk_X3_add (24 : Int32) (σ 3 1) (0 : Int32) (0 : Int32) s (fun v36 s36 => pk_X3_advance s36 (fun s41 => Kbody a1 s41 (fun s46 => J49 s46)))))) := fun s j hn =>
    ⟨fun s => GJq σ0 s, fun s49 j49 => gj_add j49 (fun _ s55 j55 => k0 s55 j55 hn), fun _ => j, fun c => absurd c (nk s j)⟩
  refine gt_adv t0 h (by omega) (fun s6 g6 => gt_condition t0 g6 (by omega) rfl (by decide) (gt_at h) (fun s13 p1 gc hc g13 hb1 hpp1 => ?_) (fun s13 j13 hc => jb _ s13 _ j13 (fun s18 j18 => bad s18 j18 (st_9 hd' c9 (ev_b0 hc)))))
  have hn1 := gt_n g13
  refine hb0 a1 d p1 s13 _ _ ha hd g13 (by rw [lnq_app]; omega) (by omega) trivial (fun s18 p2 gb hbd g18 hb2 hpp2 => ?_) (fun s18 j18 hbd => bad s18 j18 (st_9 hd' c9 (ev_b hc (ev_b0 hbd))))
  have hn2 := gt_n g18
  have e25 := lnq_one (a := stp 25 p) (by simp [stp])
  have e24 := lnq_one (a := stp 24 p) (by simp [stp])
  refine ⟨fun s => (∃ p3 g3, GTq kd n σ0 s p3 (g ++ g3) ∧ EVq (fun n => STn kd vl n 0 d p) (some (p3, g3 ++ [gq (stp 25 p)])) ∧ (lnq g3 : Int) + 2 * p + 2 ≤ 2 * p3 ∧ p < p3) ∨ (GJq σ0 s ∧ EVq (fun n => STn kd vl n 0 d p) none), ?_, ?_, ?_⟩
  · rintro s49 (⟨p3, g3, g49, hev, hb3, hpp3⟩ | ⟨j49, hn⟩)
    · have hn3 := gt_n g49
      exact gt_add (a := stp 25 p) g49 (by rw [lnq_app]; omega) (by simp [stp]) (by rw [gt_at h]; rfl) (fun _ s55 g55 _ => k1 s55 p3 (g3 ++ [gq (stp 25 p)]) hev (by rw [← List.append_assoc]; exact g55) (by rw [lnq_app]; omega) hpp3)
    · exact gj_add j49 (fun _ s55 j55 => k0 s55 j55 hn)
  · intro c
    rw [gt_kd g18] at c
    exact Or.inl ⟨p2, gc ++ gb, by rw [← List.append_assoc]; exact g18, st_9 hd' c9 (ev_b hc (ev_b hbd (ev_f c ev_c))), by rw [lnq_app]; omega, by omega⟩
  · intro c
    rw [gt_kd g18] at c
    refine gt_add (a := stp 24 p) g18 (by rw [lnq_app, lnq_app]; omega) (by simp [stp]) (by rw [gt_at h]; rfl) (fun _ s36 g36 _ => gt_adv t0 g36 (by omega) (fun s41 g41 => ?_))
    refine hb0 a1 d (p2 + 1) s41 _ _ ha hd g41 (by rw [lnq_app, lnq_app, lnq_app]; omega) (by omega) trivial (fun s46 p3 ge he g46 hb3 hpp3 => Or.inl ⟨p3, gc ++ gb ++ [gq (stp 24 p)] ++ ge, ?_, st_9 hd' c9 (ev_b hc (ev_b hbd (ev_t c (ev_b he ev_c)))), by rw [lnq_app, lnq_app, lnq_app]; omega, by omega⟩) (fun s46 j46 he => Or.inr ⟨j46, st_9 hd' c9 (ev_b hc (ev_b hbd (ev_t c (ev_b0 he))))⟩)
    simp only [List.append_assoc] at g46 ⊢
    exact g46
theorem gt_loop (t0 : TKv σ0 kd vl n) (hb0 : SGt kd vl n σ0 2 25 61 (-1) (fun _ => True) Kbody) (jb : SJt σ0 Kbody) : SGt kd vl n σ0 0 25 62 1 (fun p => kd p = 11 ∨ kd p = 12 ∨ kd p = 13) (pk_X3_loop Kbody Kconditional Kloop Kstatement Kstatements) := fun a1 d p σ g Q ha hd h hl hp cl k1 k0 => by
  have h16 := t0.1.2.1
  have hd' : ¬ 25 < d := by omega
  have ek := gt_kd h
  have ep := gt_at h
  unfold pk_X3_loop
  refine gt_adv t0 h (by omega) (fun s11 g11 => ?_)
  have hn11 := gt_n g11
  rw [ek]
  refine ⟨fun n11 => ⟨fun n12 => ?_, fun c12 => ?_⟩, fun c11 => ?_⟩
  · have c13 : kd p = 13 := by omega
    have e35 := lnq_one (a := stp 35 p) (by simp [stp])
    refine gt_counted t0 g11 (by omega) ep (fun s118 p1 gh hh g118 hb1 hpp1 => ?_) (fun s118 j118 hh => jb _ s118 _ j118 (fun s123 j123 => gj_add j123 (fun _ s132 j132 => k0 s132 j132 (st_13 hd' c13 (ev_b0 hh)))))
    refine hb0 a1 d p1 s118 _ _ ha hd g118 (by rw [lnq_app]; omega) (by omega) trivial (fun s123 p2 gb hbd g123 hb2 hpp2 => ?_) (fun s123 j123 hbd => gj_add j123 (fun _ s132 j132 => k0 s132 j132 (st_13 hd' c13 (ev_b hh (ev_b0 hbd)))))
    have hn2 := gt_n g123
    refine gt_add (a := stp 35 p) g123 (by rw [lnq_app, lnq_app]; omega) (by simp [stp]) (by rw [ep]; rfl) (fun _ s132 g132 _ => k1 s132 p2 (gh ++ gb ++ [gq (stp 35 p)]) (st_13 hd' c13 (ev_b hh (ev_b hbd ev_c))) ?_ (by rw [lnq_app, lnq_app]; omega) (by omega))
    simp only [List.append_assoc] at g132 ⊢
    exact g132
  · have e29 := lnq_one (a := stp 29 p) (by simp [stp])
    refine gt_add (a := stp 29 p) g11 (by omega) (by simp [stp]) (by rw [ep]; rfl) (fun _ s67 g67 _ => ?_)
    have tailj : ∀ s73, GJq σ0 s73 → EVq (fun n => STn kd vl n 0 d p) none → pk_X3_expect (11 : Int32) s73 (fun s85 => pk_X3_add (30 : Int32) (s73 3 1) (0 : Int32) (0 : Int32) s85 (fun v95 s95 => pk_X3_condition (31 : Int32) (s73 3 1) s95 (fun s104 => pk_X3_expect (27 : Int32) s104 (fun s110 => Q s110)))) := fun s73 j73 hn => gj_expect j73 (by decide) (fun s85 j85 => gj_add j85 (fun _ s95 j95 => gj_condition j95 (fun s104 j104 => gj_expect j104 (by decide) (fun s110 j110 => k0 s110 j110 hn))))
    refine hb0 a1 d (p + 1) s67 _ _ ha hd g67 (by rw [lnq_app]; omega) (by omega) trivial (fun s73 p1 gb hbd g73 hb1 hpp1 => ?_) (fun s73 j73 hbd => tailj s73 j73 (st_12 hd' c12 (ev_b0 hbd)))
    have hn1 := gt_n g73
    have e30 := lnq_one (a := stp 30 p1) (by simp [stp])
    refine gt_expect t0 g73 (by decide) (fun c11 s85 g85 => ?_) (fun c11 s85 j85 => gj_add j85 (fun _ s95 j95 => gj_condition j95 (fun s104 j104 => gj_expect j104 (by decide) (fun s110 j110 => k0 s110 j110 (st_12 hd' c12 (ev_b hbd (ev_f c11 ev_c)))))))
    refine gt_add (a := stp 30 p1) g85 (by have := gt_n g85; rw [lnq_app, lnq_app]; omega) (by simp [stp]) (by rw [gt_at g73]; rfl) (fun _ s95 g95 _ => ?_)
    refine gt_condition t0 g95 (by rw [lnq_app, lnq_app, lnq_app]; omega) rfl (by decide) (gt_at g73) (fun s104 p2 gc hc g104 hb2 hpp2 => ?_) (fun s104 j104 hc => gj_expect j104 (by decide) (fun s110 j110 => k0 s110 j110 (st_12 hd' c12 (ev_b hbd (ev_t c11 (ev_b0 hc))))))
    refine gt_expect t0 g104 (by decide) (fun c27 s110 g110 => k1 s110 (p2 + 1) ([gq (stp 29 p)] ++ gb ++ [gq (stp 30 p1)] ++ gc) (st_12 hd' c12 (ev_b hbd (ev_t c11 (ev_b hc (ev_t c27 ev_c))))) ?_ (by rw [lnq_app, lnq_app, lnq_app]; omega) (by omega)) (fun c27 s110 j110 => k0 s110 j110 (st_12 hd' c12 (ev_b hbd (ev_t c11 (ev_b hc (ev_f c27 ev_c))))))
    simp only [List.append_assoc] at g110 ⊢
    exact g110
  · have e26 := lnq_one (a := stp 26 p) (by simp [stp])
    have e28 := lnq_one (a := stp 28 p) (by simp [stp])
    refine gt_add (a := stp 26 p) g11 (by omega) (by simp [stp]) (by rw [ep]; rfl) (fun _ s26 g26 _ => ?_)
    refine gt_condition t0 g26 (by rw [lnq_app]; omega) rfl (by decide) ep (fun s34 p1 gc hc g34 hb1 hpp1 => ?_) (fun s34 j34 hc => jb _ s34 _ j34 (fun s39 j39 => gj_add j39 (fun _ s48 j48 => k0 s48 j48 (st_11 hd' c11 (ev_b0 hc)))))
    refine hb0 a1 d p1 s34 _ _ ha hd g34 (by rw [lnq_app, lnq_app]; omega) (by omega) trivial (fun s39 p2 gb hbd g39 hb2 hpp2 => ?_) (fun s39 j39 hbd => gj_add j39 (fun _ s48 j48 => k0 s48 j48 (st_11 hd' c11 (ev_b hc (ev_b0 hbd)))))
    have hn2 := gt_n g39
    refine gt_add (a := stp 28 p) g39 (by rw [lnq_app, lnq_app, lnq_app]; omega) (by simp [stp]) (by rw [ep]; rfl) (fun _ s48 g48 _ => k1 s48 p2 ([gq (stp 26 p)] ++ gc ++ gb ++ [gq (stp 28 p)]) (st_11 hd' c11 (ev_b hc (ev_b hbd ev_c))) ?_ (by rw [lnq_app, lnq_app, lnq_app]; omega) (by omega))
    simp only [List.append_assoc] at g48 ⊢
    exact g48
theorem gj_statements : SJt σ0 (pk_X3_statements Kbody Kconditional Kloop Kstatement Kstatements) := fun a1 σ Q j k => by
  unfold pk_X3_statements
  exact gj_expect j (by decide) (fun s3 j3 => ⟨fun _ s => GJq σ0 s, j3, fun x2 s14 j14 => ⟨True, fun _ => gj_expect j14 (by decide) k, fun _ => trivial, fun _ => ⟨fun _ => trivial, fun c => by have := j14.2.1; omega⟩⟩⟩)
theorem gt_statements (t0 : TKv σ0 kd vl n) (hs : SGt kd vl n σ0 0 26 62 1 (fun _ => True) Kstatement) : SLt kd vl n σ0 (pk_X3_statements Kbody Kconditional Kloop Kstatement Kstatements) := fun a1 d p σ g Q ha hd h c22 hl hp k1 k0 => by
  have h16 := t0.1.2.1
  unfold pk_X3_statements
  refine gt_expect t0 h (by decide) (fun _ s3 g3 => ?_) (fun c => absurd c22 c)
  refine ⟨fun x s => (∃ p1 gi, GTq kd n σ0 s p1 (g ++ gi) ∧ p + 1 ≤ p1 ∧ (lnq gi : Int) + 2 * (p + 1) ≤ 2 * p1 ∧ (n : Int) + p + 2 ≤ x.toInt + p1 ∧ (∀ q l, EVq (fun n => STn kd vl n 1 d p1) (some (q, l)) → EVq (fun n => STn kd vl n 1 d (p + 1)) (some (q, gi ++ l))) ∧ (EVq (fun n => STn kd vl n 1 d p1) none → EVq (fun n => STn kd vl n 1 d (p + 1)) none)) ∨ (GJq σ0 s ∧ EVq (fun n => STn kd vl n 1 d (p + 1)) none), ?_, ?_⟩
  · have e4 : (s3 2 4).toInt = (n : Int) + 1 := (gt_tk t0 g3).1
    exact Or.inl ⟨p + 1, [], by rw [List.append_nil]; exact g3, by omega, by rw [lnq_nil]; omega, by omega, fun q l hx => by rw [List.nil_append]; exact hx, id⟩
  rintro x s14 (⟨p1, gi, g14, hpp, hb, hc, y1, y0⟩ | ⟨j14, hn⟩)
  · have hn1 := gt_n g14
    have ek := gt_kd g14
    have ew : (s14 3 3).toInt < 0 := g14.2.1.1
    refine ⟨kd p1 = 23, fun c23 => ?_, fun c => by omega, fun _ => ⟨fun c => by omega, fun _ => ⟨fun c => by omega, fun c => ?_⟩⟩⟩
    · refine gt_expect t0 g14 (by decide) (fun _ s48 g48 => k1 s48 (p1 + 1) gi ?_ g48 (by omega) (by omega)) (fun c => absurd c23 c)
      have := y1 _ _ (sl_e c23)
      rw [List.append_nil] at this
      exact this
    · rw [ek] at c
      refine hs a1 d p1 s14 _ _ ha (by omega) g14 (by rw [lnq_app]; omega) (by omega) trivial (fun s36 p2 gs hev g36 hb2 hpp2 => Or.inl ⟨p2, gi ++ gs, by rw [← List.append_assoc]; exact g36, by omega, by rw [lnq_app]; omega, ?_, fun q l hx => ?_, fun hx => y0 (sl_s c (ev_b hev (ev_b0 hx)))⟩) (fun s36 j36 hev => Or.inr ⟨j36, y0 (sl_s c (ev_b0 hev))⟩)
      · have := gt_n g36
        rw [dc1 (by omega)]
        omega
      · have := y1 q (gs ++ l) (sl_s c (ev_b hev (ev_b hx ev_c)))
        rw [List.append_assoc]
        exact this
  · exact ⟨True, fun _ => gj_expect j14 (by decide) (fun s48 j48 => k0 s48 j48 hn), fun _ => trivial, fun _ => ⟨fun _ => trivial, fun c => by have := j14.2.1; omega⟩⟩
theorem gj_statement : SJt σ0 (pk_X3_statement Kbody Kconditional Kloop Kstatement Kstatements) := fun a1 σ Q j k => by
  have e := j.2.2
  unfold pk_X3_statement
  exact ⟨fun _ => ⟨True, fun _ => gj_simple j k, False, fun f => f.elim, ⟨fun c => by omega, fun _ => ⟨fun _ => trivial, fun _ => ⟨fun _ => trivial, fun _ => ⟨fun _ => trivial, fun _ => ⟨fun c => by omega, fun _ => ⟨fun _ => trivial, fun _ => ⟨fun c => by omega, fun _ => ⟨fun c => by omega, fun _ => ⟨fun c => by omega, fun _ => ⟨fun _ => trivial, fun _ => ⟨fun _ => trivial, fun _ => ⟨fun _ => trivial, fun _ => ⟨fun _ => trivial, fun _ => ⟨fun _ => trivial, fun _ => ⟨fun _ => trivial, fun _ => ⟨fun _ => trivial, fun _ => ⟨fun _ => trivial, fun _ => ⟨fun c => by omega, fun _ => ⟨fun _ => trivial, fun _ => ⟨fun _ => trivial, fun _ => ⟨fun _ => trivial, fun _ => ⟨fun _ => trivial, fun _ => ⟨fun c => by omega, fun _ => trivial⟩⟩⟩⟩⟩⟩⟩⟩⟩⟩⟩⟩⟩⟩⟩⟩⟩⟩⟩⟩⟩⟩⟩⟩, fun _ => gj_fail j k⟩
theorem gt_statement (t0 : TKv σ0 kd vl n) (hc0 : SGt kd vl n σ0 0 25 62 1 (fun p => kd p = 9) Kconditional) (hl0 : SGt kd vl n σ0 0 25 62 1 (fun p => kd p = 11 ∨ kd p = 12 ∨ kd p = 13) Kloop) (hs0 : SLt kd vl n σ0 Kstatements) : SGt kd vl n σ0 0 26 62 1 (fun _ => True) (pk_X3_statement Kbody Kconditional Kloop Kstatement Kstatements) := fun a1 d p σ g Q ha hd h hl hp _ k1 k0 => by
  have h16 := t0.1.2.1
  have ek := gt_kd h
  have ep := gt_at h
  have hk := kd_r t0.1 p
  have hpn := gt_n h
  unfold pk_X3_statement
  rw [ek]
  refine ⟨fun hd25 => ?_, fun c => gt_fail h (fun s7 j7 => k0 s7 j7 (st_0 (by omega)))⟩
  have hd' : ¬ 25 < d := by omega
  have semi : kd p = 27 → pk_X3_advance σ (fun s159 => Q s159) := fun c => gt_adv t0 h (by omega) (fun s159 g159 => k1 s159 (p + 1) [] (st_27 hd' c) (by rw [List.append_nil]; exact g159) (by rw [lnq_nil]; omega) (by omega))
  have e20 := lnq_one (a := stp 20 p) (by simp [stp])
  have e21 := lnq_one (a := stp 21 p) (by simp [stp])
  have block : kd p = 22 → pk_X3_add (20 : Int32) (σ 3 1) (0 : Int32) (0 : Int32) σ (fun v134 s134 => Kstatements (a1 + (1 : Int32)) s134 (fun s142 => pk_X3_add (21 : Int32) (σ 3 1) (0 : Int32) (0 : Int32) s142 (fun v151 s151 => Q s151))) := fun c => by
    refine gt_add (a := stp 20 p) h (by omega) (by simp [stp]) (by rw [ep]; rfl) (fun _ s134 g134 _ => hs0 (a1 + (1 : Int32)) (d + 1) p s134 _ _ (by rw [ad1 (by omega), ha]; rfl) (by omega) g134 c (by rw [lnq_app]; omega) hp (fun s142 p1 gs hev g142 hb hpp => ?_) (fun s142 j142 hev => gj_add j142 (fun _ s151 j151 => k0 s151 j151 (st_22 hd' c (ev_b0 hev)))))
    refine gt_add (a := stp 21 p) g142 (by have := gt_n g142; rw [lnq_app, lnq_app]; omega) (by simp [stp]) (by rw [ep]; rfl) (fun _ s151 g151 _ => k1 s151 p1 ([gq (stp 20 p)] ++ gs ++ [gq (stp 21 p)]) (st_22 hd' c (ev_b hev ev_c)) ?_ (by rw [lnq_app, lnq_app]; omega) (by omega))
    simp only [List.append_assoc] at g151 ⊢
    exact g151
  have five : kd p = 5 → pk_X3_advance σ (fun s166 => pk_X3_stars s166 (fun v170 s170 => pk_X3_expect (2 : Int32) s170 (fun s182 => pk_X3_variables (s170 3 1) v170 (0 : Int32) s182 (fun s190 => Q s190)))) := fun c => by
    refine gt_adv t0 h (by omega) (fun s166 g166 => gt_stars t0 g166 (fun v s170 t p1 hst hv g170 hp1 ht => gt_expect t0 g170 (by decide) (fun c2 s182 g182 => ?_) (fun c2 s182 j182 => gj_variables j182 (fun s190 j190 => k0 s190 j190 (st_5 hd' c (ev_b (ev_k hst) (ev_f c2 ev_c)))))) (fun v s170 hst j170 => gj_expect j170 (by decide) (fun s182 j182 => gj_variables j182 (fun s190 j190 => k0 s190 j190 (st_5 hd' c (ev_b0 (ev_k hst)))))))
    exact gt_variables (lk := 0) t0 g182 (by omega) (by omega) (gt_at g170) hv (by omega) rfl (fun s190 p2 gs hev g190 hb hpp => k1 s190 p2 gs (st_5 hd' c (ev_b (ev_k hst) (ev_t c2 hev))) g190 (by omega) (by omega)) (fun s190 j190 hev => k0 s190 j190 (st_5 hd' c (ev_b (ev_k hst) (ev_t c2 hev))))
  have hcond : kd p = 9 → Kconditional a1 σ (fun s198 => Q s198) := fun c => hc0 a1 d p σ g _ ha (by omega) h hl hp c k1 k0
  exact ⟨kd p ≠ 22 ∧ kd p ≠ 27 ∧ kd p ≠ 5 ∧ kd p ≠ 9 ∧ kd p ≠ 11 ∧ kd p ≠ 12 ∧ kd p ≠ 13, fun hj => gt_simple t0 h (by omega) (fun s p' g' hev g1 hb hpp => k1 s p' g' (st_s hd' hj hev) g1 (by omega) hpp) (fun s j hev => k0 s j (st_s hd' hj hev)), kd p = 11 ∨ kd p = 12 ∨ kd p = 13, fun hj => hl0 a1 d p σ g _ ha (by omega) h hl hp hj k1 k0, ⟨fun c => five c, fun n5 => ⟨fun c => by omega, fun n6 => ⟨fun c => by omega, fun n7 => ⟨fun c => by omega, fun n8 => ⟨fun c => hcond c, fun n9 => ⟨fun c => by omega, fun n10 => ⟨fun c => by omega, fun n11 => ⟨fun c => by omega, fun n12 => ⟨fun c => by omega, fun n13 => ⟨fun c => by omega, fun n14 => ⟨fun c => by omega, fun n15 => ⟨fun c => by omega, fun n16 => ⟨fun c => by omega, fun n17 => ⟨fun c => by omega, fun n18 => ⟨fun c => by omega, fun n19 => ⟨fun c => by omega, fun n20 => ⟨fun c => by omega, fun n21 => ⟨fun c => block c, fun n22 => ⟨fun c => by omega, fun n23 => ⟨fun c => by omega, fun n24 => ⟨fun c => by omega, fun n25 => ⟨fun c => by omega, fun n26 => ⟨fun c => semi c, fun n27 => (by omega)⟩⟩⟩⟩⟩⟩⟩⟩⟩⟩⟩⟩⟩⟩⟩⟩⟩⟩⟩⟩⟩⟩⟩⟩
theorem pg_KVB (t0 : TKv σ0 kd vl n) : ∀ N, (SGt kd vl n σ0 2 25 61 (-1) (fun _ => True) (PKVB N).1 ∧ SJt σ0 (PKVB N).1) ∧ SGt kd vl n σ0 0 25 62 1 (fun p => kd p = 9) (PKVB N).2.1 ∧ SGt kd vl n σ0 0 25 62 1 (fun p => kd p = 11 ∨ kd p = 12 ∨ kd p = 13) (PKVB N).2.2.1 ∧ (SGt kd vl n σ0 0 26 62 1 (fun _ => True) (PKVB N).2.2.2.1 ∧ SJt σ0 (PKVB N).2.2.2.1) ∧ (SLt kd vl n σ0 (PKVB N).2.2.2.2 ∧ SJt σ0 (PKVB N).2.2.2.2)
  | 0 => ⟨⟨fun _ _ _ _ _ _ _ _ _ _ _ _ _ _ => trivial, fun _ _ _ _ _ => trivial⟩, fun _ _ _ _ _ _ _ _ _ _ _ _ _ _ => trivial, fun _ _ _ _ _ _ _ _ _ _ _ _ _ _ => trivial, ⟨fun _ _ _ _ _ _ _ _ _ _ _ _ _ _ => trivial, fun _ _ _ _ _ => trivial⟩, ⟨fun _ _ _ _ _ _ _ _ _ _ _ _ _ _ => trivial, fun _ _ _ _ _ => trivial⟩⟩
  | N + 1 => by
    obtain ⟨⟨hb, jb⟩, hc, hl, ⟨hs, js⟩, hss, jss⟩ := pg_KVB t0 N
    exact ⟨⟨gt_body (Kbody := (PKVB N).1) (Kconditional := (PKVB N).2.1) (Kloop := (PKVB N).2.2.1) (Kstatement := (PKVB N).2.2.2.1) (Kstatements := (PKVB N).2.2.2.2) t0 hs, gj_body (Kbody := (PKVB N).1) (Kconditional := (PKVB N).2.1) (Kloop := (PKVB N).2.2.1) (Kstatement := (PKVB N).2.2.2.1) (Kstatements := (PKVB N).2.2.2.2) js⟩, gt_conditional (Kbody := (PKVB N).1) (Kconditional := (PKVB N).2.1) (Kloop := (PKVB N).2.2.1) (Kstatement := (PKVB N).2.2.2.1) (Kstatements := (PKVB N).2.2.2.2) t0 hb jb, gt_loop (Kbody := (PKVB N).1) (Kconditional := (PKVB N).2.1) (Kloop := (PKVB N).2.2.1) (Kstatement := (PKVB N).2.2.2.1) (Kstatements := (PKVB N).2.2.2.2) t0 hb jb, ⟨gt_statement (Kbody := (PKVB N).1) (Kconditional := (PKVB N).2.1) (Kloop := (PKVB N).2.2.1) (Kstatement := (PKVB N).2.2.2.1) (Kstatements := (PKVB N).2.2.2.2) t0 hc hl hss, gj_statement (Kbody := (PKVB N).1) (Kconditional := (PKVB N).2.1) (Kloop := (PKVB N).2.2.1) (Kstatement := (PKVB N).2.2.2.1) (Kstatements := (PKVB N).2.2.2.2)⟩, gt_statements (Kbody := (PKVB N).1) (Kconditional := (PKVB N).2.1) (Kloop := (PKVB N).2.2.1) (Kstatement := (PKVB N).2.2.2.1) (Kstatements := (PKVB N).2.2.2.2) t0 hs, gj_statements (Kbody := (PKVB N).1) (Kconditional := (PKVB N).2.1) (Kloop := (PKVB N).2.2.1) (Kstatement := (PKVB N).2.2.2.1) (Kstatements := (PKVB N).2.2.2.2)⟩
theorem gtG_statements (t0 : TKv σ0 kd vl n) : SLt kd vl n σ0 pkG_statements := (pg_KVB t0 160).2.2.2.2.1
theorem gjG_statements (t0 : TKv σ0 kd vl n) : SJt σ0 pkG_statements := (pg_KVB t0 160).2.2.2.2.2
end SST
end

section
/-! signatures -/
section SIG
variable {l l2 : List (Nat × Nat)} {x : Nat × Nat} {k i n W : Nat}
def Tyq (l : List (Nat × Nat)) : Prop := ∀ x, x ∈ l → x.1 ≤ 6
theorem sgv_app : ∀ {l : List (Nat × Nat)}, sgV (l ++ [x]) = sgV l + 8 ^ l.length * x.1
  | [] => by
    show x.1 + 8 * 0 = 0 + 8 ^ 0 * x.1
    omega
  | y :: l => by
    show y.1 + 8 * sgV (l ++ [x]) = (y.1 + 8 * sgV l) + 8 ^ (l.length + 1) * x.1
    rw [sgv_app (l := l), Nat.pow_succ, Nat.mul_add, Nat.mul_comm (8 ^ l.length) 8, Nat.mul_assoc, Nat.add_assoc]
theorem sgv_lt : ∀ {l : List (Nat × Nat)}, Tyq l → sgV l < 8 ^ l.length
  | [], _ => by decide
  | y :: l, h => by
    have h1 := sgv_lt (l := l) (fun z hz => h z (List.mem_cons_of_mem _ hz))
    have h2 := h y (List.mem_cons_self ..)
    show y.1 + 8 * sgV l < 8 ^ (l.length + 1)
    rw [Nat.pow_succ]
    omega
theorem p8_le : ∀ k, k < 9 → 8 ^ k ≤ 16777216 := by decide
theorem p8_2 : ∀ k, k < 9 → 8 ^ k = 2 ^ (3 * k) := by decide
theorem sg_or {V t : Nat} (hk : k < 8) (hV : V < 8 ^ k) (ht : t < 8) : (16777216 * (k + 1) + V) ||| (8 ^ k * t) = 16777216 * (k + 1) + (V + 8 ^ k * t) := by
  have h1 := p8_le (k + 1) (by omega)
  have h2 := p8_2 k (by omega)
  have h3 : 8 ^ (k + 1) = 8 * 8 ^ k := by rw [Nat.pow_succ, Nat.mul_comm]
  have h4 : 8 ^ k * t ≤ 8 ^ k * 7 := Nat.mul_le_mul_left _ (by omega)
  have l24 : ∀ q, q < 16777216 → q < 2 ^ 24 := fun q hq => hq
  have e24 : (2 : Nat) ^ 24 = 16777216 := by decide
  have a1 := Nat.two_pow_add_eq_or_of_lt (l24 V (by omega)) (k + 1)
  have a2 := Nat.two_pow_add_eq_or_of_lt (l24 (V + 8 ^ k * t) (by omega)) (k + 1)
  have a3 := Nat.two_pow_add_eq_or_of_lt (i := 3 * k) (b := V) (by rw [← h2]; exact hV) t
  rw [e24] at a1 a2
  rw [← h2] at a3
  rw [a1, Nat.or_assoc, Nat.or_comm V, ← a3, Nat.add_comm (8 ^ k * t) V, ← a2]
theorem ush_n {s : Int32} (hn : n < 2 ^ 32) (hs : ((s.toUInt32 &&& Int32.toUInt32 31).toBitVec % 32).toNat = k) : ushr (nI n) s = nI (n / 2 ^ k) := by
  unfold ushr
  exact pk_ushrN hn s k hs
theorem sh24 : (((24 : Int32).toUInt32 &&& Int32.toUInt32 31).toBitVec % 32).toNat = 24 := by decide
theorem sh3k : ∀ k, k < 9 → ((((3 : Int32) * nI k).toUInt32 &&& Int32.toUInt32 31).toBitVec % 32).toNat = 3 * k := by decide
theorem sl3k : ∀ k, k < 9 → ((((3 : Int32) * nI k) &&& 31).toBitVec.smod 32).toNat = 3 * k := by decide
theorem sgx_lt (hl : l.length ≤ 8) (ht : Tyq l) : sgX l < 16777216 * l.length + 16777216 := by
  have h1 := sgv_lt ht
  have h2 := p8_le l.length (by omega)
  unfold sgX
  omega
theorem sgn_X (hl : l.length ≤ 8) (ht : Tyq l) : ushr (nI (sgX l)) (24 : Int32) = nI l.length := by
  have h1 := sgx_lt hl ht
  have h2 : 16777216 * l.length ≤ sgX l := Nat.le_add_right _ _
  rw [ush_n (k := 24) (by omega) sh24]
  have e24 : (2 : Nat) ^ 24 = 16777216 := by decide
  rw [e24, show sgX l / 16777216 = l.length from by omega]
theorem sg_with (hl : l.length < 8) (ht : Tyq l) (hx : x.1 ≤ 6) : ((nI (sgX l) + (16777216 : Int32)) ||| (nI x.1 <<< (((3 : Int32) * ushr (nI (sgX l)) (24 : Int32)) &&& 31))) = nI (sgX (l ++ [x])) := by
  rw [sgn_X (by omega) ht]
  have h2 := p8_2 l.length (by omega)
  have h3 := p8_le (l.length + 1) (by omega)
  have h4 : 8 ^ (l.length + 1) = 8 * 8 ^ l.length := by rw [Nat.pow_succ, Nat.mul_comm]
  have h5 : x.1 * 8 ^ l.length ≤ 6 * 8 ^ l.length := Nat.mul_le_mul_right _ hx
  rw [pk_shlN _ (3 * l.length) (sl3k l.length (by omega)) (by rw [← h2]; omega), ← h2]
  have e1 : nI (sgX l) + (16777216 : Int32) = nI (16777216 * (l.length + 1) + sgV l) := by
    have : (16777216 : Int32) = nI 16777216 := rfl
    rw [this]
    show Int32.ofNat (sgX l) + Int32.ofNat 16777216 = Int32.ofNat (16777216 * (l.length + 1) + sgV l)
    rw [← Int32.ofNat_add]
    unfold sgX
    rw [show 16777216 * l.length + sgV l + 16777216 = 16777216 * (l.length + 1) + sgV l from by omega]
  rw [e1, or_nI, Nat.mul_comm x.1, sg_or hl (sgv_lt ht) (by omega)]
  unfold sgX
  rw [sgv_app, List.length_append]
  rfl
theorem and7 (h : n < 2 ^ 32) : nI n &&& (7 : Int32) = nI (n % 8) := pk_andN (k := 3) h (by decide)
/-- the i-th of a signature -/
theorem sgv_at : ∀ {l : List (Nat × Nat)} {i W : Nat}, Tyq l → l[i]? = some x → (sgV l + 8 ^ l.length * W) / 8 ^ i % 8 = x.1
  | [], i, W, _, h => by cases i <;> cases h
  | y :: l, 0, W, ht, h => by
    cases h
    have h2 := ht _ (List.mem_cons_self ..)
    show (x.1 + 8 * sgV l + 8 ^ (l.length + 1) * W) / 1 % 8 = x.1
    rw [Nat.pow_succ, Nat.mul_comm (8 ^ l.length) 8, Nat.mul_assoc]
    omega
  | y :: l, i + 1, W, ht, h => by
    have h' : l[i]? = some x := h
    have ih := sgv_at (W := W) (fun z hz => ht z (List.mem_cons_of_mem _ hz)) h'
    have h2 := ht _ (List.mem_cons_self ..)
    have e : (sgV (y :: l) + 8 ^ (y :: l).length * W) / 8 = sgV l + 8 ^ l.length * W := by
      show (y.1 + 8 * sgV l + 8 ^ (l.length + 1) * W) / 8 = _
      rw [Nat.pow_succ, Nat.mul_comm (8 ^ l.length) 8, Nat.mul_assoc]
      omega
    rw [Nat.pow_succ, Nat.mul_comm (8 ^ i) 8, ← Nat.div_div_eq_div_mul, e]
    exact ih
theorem p24_8 : ∀ k, k < 9 → 8 ^ k * 2 ^ (24 - 3 * k) = 16777216 := by decide
theorem sgt_X (hl : l.length ≤ 8) (ht : Tyq l) (h : l[i]? = some x) (hi : i < l.length) : sgT (nI (sgX l)) (nI i) = (x.1 : Int) := by
  have h1 := sgx_lt hl ht
  have h2 := p8_2 i (by omega)
  have h3 := p24_8 l.length (by omega)
  have h4 := sgv_at (W := 2 ^ (24 - 3 * l.length) * l.length) ht h
  have e : sgV l + 8 ^ l.length * (2 ^ (24 - 3 * l.length) * l.length) = sgX l := by
    rw [← Nat.mul_assoc, h3]
    unfold sgX
    omega
  rw [e, h2] at h4
  unfold sgT
  have h5 : sgX l / 2 ^ (3 * i) ≤ sgX l := Nat.div_le_self _ _
  rw [ush_n (k := 3 * i) (by omega) (sh3k i (by omega)), and7 (by omega), h4]
  have := ht x (List.mem_of_getElem? h)
  exact nI_toInt (by omega)
theorem sgn_I (hl : l.length ≤ 8) (ht : Tyq l) : sgN (nI (sgX l)) = (l.length : Int) := by
  unfold sgN
  rw [sgn_X hl ht]
  exact nI_toInt (by omega)
theorem sgx_int (hl : l.length ≤ 8) (ht : Tyq l) : (nI (sgX l)).toInt = sgI l := by
  have := sgx_lt hl ht
  exact nI_toInt (by omega)
theorem m8r {x : Int32} (h0 : -100 ≤ x.toInt) (h1 : x.toInt ≤ 100) : (x * (8 : Int32)).toInt = x.toInt * 8 := by
  rw [Int32.toInt_mul]
  have e8 : ((8 : Int32)).toInt = 8 := rfl
  rw [e8, Int.bmod_def]
  have e : ((2 ^ 32 : Nat) : Int) = 4294967296 := by decide
  rw [e]
  split <;> omega
end SIG
end

