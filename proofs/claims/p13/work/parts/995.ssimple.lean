/-! the class's grammar of statements: conditions, the head of a for, simple statements -/
def SIn (kd : Nat → Int) (n p : Nat) : Option (Nat × List Gsq) :=
  if kd p = 14 then (if kd (p + 1) = 27 then some (p + 2, [gq (stp 36 p)]) else none)
  else if kd p = 15 then (if kd (p + 1) = 27 then some (p + 2, [gq (stp 37 p)]) else none)
  else if kd p = 16 then (if kd (p + 1) = 27 then some (p + 2, [gq (stp 38 p)]) else (EXn kd n (p + 1)).bind fun r => if kd r.1 = 27 then some (r.1 + 1, r.2 ++ [gq (38, p, 1, 0)]) else none)
  else (EXn kd n p).bind fun r => if kd r.1 = 27 then some (r.1 + 1, r.2 ++ [gq (stp 22 p)]) else none
section SSI
variable {kd vl : Nat → Int} {n p d w : Nat} {σ0 σ s : St} {g : List Gsq} {a1 a2 : Int32} {k : Int} {Q : St → Prop}
theorem app3 {a b c : List Gsq} : a ++ b ++ c = a ++ (b ++ c) := List.append_assoc a b c
theorem gt_condition (t0 : TKv σ0 kd vl n) (h : GTq kd n σ0 σ p g) (hl : (lnq g : Int) ≤ 2 * p + 66) (ha : a1.toInt = k) (hk : k ≠ 40) (hw : a2.toInt = (w : Int))
    (k1 : ∀ s p' g', EVq (fun n => CNn kd n k w p) (some (p', g')) → GTq kd n σ0 s p' (g ++ g') → (lnq g' : Int) + 2 * p + 4 ≤ 2 * p' → p < p' → Q s) (k0 : ∀ s, GJq σ0 s → EVq (fun n => CNn kd n k w p) none → Q s) : pk_X3_condition a1 a2 σ Q := by
  have h16 := t0.1.2.1
  unfold pk_X3_condition
  have tail : ∀ s14, GJq σ0 s14 → EVq (fun n => CNn kd n k w p) none → pk_X3_add a1 a2 (0 : Int32) (0 : Int32) s14 (fun v22 s22 => Q s22) := fun s14 j14 hn => gj_add j14 (fun _ s22 j22 => k0 s22 j22 hn)
  refine gt_expect t0 h (by decide) (fun c20 s3 g3 => ?_) (fun c20 s3 j3 => gj_expr j3 (fun s8 j8 => gj_expect j8 (by decide) (fun s14 j14 => tail s14 j14 (ev_f c20 ev_c))))
  refine gt_expr t0 g3 (by omega) (fun s8 p1 l hev hlen g8 hb hpp => gt_expect t0 g8 (by decide) (fun c21 s14 g14 => ?_) (fun c21 s14 j14 => tail s14 j14 (ev_t c20 (ev_b hev (ev_f c21 ev_c))))) (fun s8 j8 hev => gj_expect j8 (by decide) (fun s14 j14 => tail s14 j14 (ev_t c20 (ev_b0 hev))))
  have hp1 := gt_n g8
  refine gt_add (a := (k, w, 0, 0)) g14 (by rw [lnq_app]; omega) hk (by rw [ha, hw]; rfl) (fun v s22 g22 _ => k1 s22 (p1 + 1) (gqs l ++ [gq (stp k w)]) (ev_t c20 (ev_b hev (ev_t c21 ev_c))) (by rw [← List.append_assoc]; exact g22) ?_ (by omega))
  have e1 := lnq_one (a := stp k w) hk
  rw [lnq_app]
  omega
theorem gj_condition (h : GJq σ0 σ) (k : ∀ s, GJq σ0 s → Q s) : pk_X3_condition a1 a2 σ Q := by
  unfold pk_X3_condition
  exact gj_expect h (by decide) (fun s3 j3 => gj_expr j3 (fun s8 j8 => gj_expect j8 (by decide) (fun s14 j14 => gj_add j14 (fun _ s22 j22 => k s22 j22))))
theorem gj_counted (h : GJq σ0 σ) (k : ∀ s, GJq σ0 s → Q s) : pk_X3_counted a1 σ Q := by
  unfold pk_X3_counted
  have nk : ∀ s, GJq σ0 s → (s 3 2).toInt ≠ 27 ∧ (s 3 2).toInt ≠ 21 := fun s j => by have := j.2.2; omega
  refine gj_expect h (by decide) (fun s3 j3 => ⟨fun s => GJq σ0 s, fun s30 j30 => gj_expect j30 (by decide) (fun s33 j33 => gj_add j33 (fun _ s42 j42 => ⟨fun _ => True, fun y60 _ _ => ⟨fun s => GJq σ0 s, fun s70 j70 => ⟨fun _ => True, fun y83 _ _ => gj_add j70 (fun _ s84 j84 => gj_expect j84 (by decide) (fun s91 j91 => ⟨fun s => GJq σ0 s, fun s118 j118 => gj_expect j118 (by decide) (fun s121 j121 => gj_add j121 (fun _ s130 j130 => k s130 j130)), fun c => absurd c (nk s91 j91).2, fun _ => gj_expr j91 (fun s105 j105 => gj_add j105 (fun _ s114 j114 => j114))⟩)), fun _ => trivial, fun _ => trivial⟩, fun _ => j42, fun _ => gj_expr j42 (fun s67 j67 => j67)⟩, fun _ => trivial, fun _ => trivial⟩)), fun c => absurd c (nk s3 j3).1, fun _ => gj_expr j3 (fun s17 j17 => gj_add j17 (fun _ s26 j26 => j26))⟩)
theorem gt_counted (t0 : TKv σ0 kd vl n) (h : GTq kd n σ0 σ (p + 1) g) (hl : (lnq g : Int) ≤ 2 * p + 64) (ha : a1.toInt = (p : Int))
    (k1 : ∀ s p' g', EVq (fun n => FHn kd n p) (some (p', g')) → GTq kd n σ0 s p' (g ++ g') → (lnq g' : Int) + 2 * p + 4 ≤ 2 * p' → p + 1 < p' → Q s) (k0 : ∀ s, GJq σ0 s → EVq (fun n => FHn kd n p) none → Q s) : pk_X3_counted a1 σ Q := by
  have h16 := t0.1.2.1
  unfold pk_X3_counted
  have nk : ∀ s, GJq σ0 s → (s 3 2).toInt ≠ 27 ∧ (s 3 2).toInt ≠ 21 := fun s j => by have := j.2.2; omega
  -- behind: from the third part on, and all that is none
  have bad4 : ∀ s118, GJq σ0 s118 → EVq (fun n => FHn kd n p) none → pk_X3_expect (21 : Int32) s118 (fun s121 => pk_X3_add (34 : Int32) a1 (0 : Int32) (0 : Int32) s121 (fun v130 s130 => Q s130)) := fun s118 j118 hn => gj_expect j118 (by decide) (fun s121 j121 => gj_add j121 (fun _ s130 j130 => k0 s130 j130 hn))
  refine gt_expect t0 h (by decide) (fun c20 s3 g3 => ?_) (fun c20 s3 j3 => ?_)
  · refine ⟨fun s => (∃ p1 ga, EVq (fun n => if kd (p + 2) = 27 then some (p + 2, []) else (EXn kd n (p + 2)).bind fun r => some (r.1, r.2 ++ [gq (stp 22 p)])) (some (p1, ga)) ∧ GTq kd n σ0 s p1 (g ++ ga) ∧ (lnq ga : Int) + 2 * p + 4 ≤ 2 * p1 ∧ p + 2 ≤ p1) ∨ (GJq σ0 s ∧ EVq (fun n => FHn kd n p) none), ?_, ?_, ?_⟩
    rotate_left
    · intro c
      rw [gt_kd g3] at c
      exact Or.inl ⟨p + 2, [], ev_t c ev_c, by rw [List.append_nil]; exact g3, by rw [lnq_nil]; omega, by omega⟩
    · intro c
      rw [gt_kd g3] at c
      refine gt_expr t0 g3 (by omega) (fun s17 p1 l hev hlen g17 hb hpp => ?_) (fun s17 j17 hev => gj_add j17 (fun _ s26 j26 => Or.inr ⟨j26, ev_t c20 (ev_b0 (ev_f c (ev_b0 hev)))⟩))
      have hp1 := gt_n g17
      have e1 := lnq_one (a := stp 22 p) (by simp [stp])
      refine gt_add (a := stp 22 p) g17 (by rw [lnq_app]; omega) (by simp [stp]) (by rw [ha]; rfl) (fun _ s26 g26 _ => Or.inl ⟨p1, gqs l ++ [gq (stp 22 p)], ev_f c (ev_b hev ev_c), by rw [← List.append_assoc]; exact g26, by rw [lnq_app]; omega, by omega⟩)
    rintro s30 (⟨p1, ga, hA, g30, hb1, hp1⟩ | ⟨j30, hn⟩)
    rotate_left
    · refine gj_expect j30 (by decide) (fun s33 j33 => gj_add j33 (fun _ s42 j42 => ⟨fun _ => True, fun y60 _ _ => ⟨fun s => GJq σ0 s, fun s70 j70 => ⟨fun _ => True, fun y83 _ _ => gj_add j70 (fun _ s84 j84 => gj_expect j84 (by decide) (fun s91 j91 => ⟨fun s => GJq σ0 s, fun s118 j118 => bad4 s118 j118 hn, fun c => absurd c (nk s91 j91).2, fun _ => gj_expr j91 (fun s105 j105 => gj_add j105 (fun _ s114 j114 => j114))⟩)), fun _ => trivial, fun _ => trivial⟩, fun _ => j42, fun _ => gj_expr j42 (fun s67 j67 => j67)⟩, fun _ => trivial, fun _ => trivial⟩))
    have hn1 := gt_n g30
    refine gt_expect t0 g30 (by decide) (fun c27 s33 g33 => ?_) (fun c27 s33 j33 => ?_)
    rotate_left
    · have hn : EVq (fun n => FHn kd n p) none := ev_t c20 (ev_b hA (ev_f c27 ev_c))
      exact gj_add j33 (fun _ s42 j42 => ⟨fun _ => True, fun y60 _ _ => ⟨fun s => GJq σ0 s, fun s70 j70 => ⟨fun _ => True, fun y83 _ _ => gj_add j70 (fun _ s84 j84 => gj_expect j84 (by decide) (fun s91 j91 => ⟨fun s => GJq σ0 s, fun s118 j118 => bad4 s118 j118 hn, fun c => absurd c (nk s91 j91).2, fun _ => gj_expr j91 (fun s105 j105 => gj_add j105 (fun _ s114 j114 => j114))⟩)), fun _ => trivial, fun _ => trivial⟩, fun _ => j42, fun _ => gj_expr j42 (fun s67 j67 => j67)⟩, fun _ => trivial, fun _ => trivial⟩)
    have e32 := lnq_one (a := stp 32 p) (by simp [stp])
    refine gt_add (a := stp 32 p) g33 (by rw [lnq_app]; omega) (by simp [stp]) (by rw [ha]; rfl) (fun _ s42 g42 _ => ?_)
    have hn2 := gt_n g42
    refine ⟨fun y => (y.toInt = 0 ↔ kd (p1 + 1) = 27), fun y60 _ hy60 => ⟨fun s => (∃ p2 gb, EVq (fun n => if kd (p1 + 1) = 27 then some (p1 + 1, [], (0 : Int)) else (EXn kd n (p1 + 1)).bind fun r => some (r.1, r.2, 1)) (some (p2, gb, (if kd (p1 + 1) = 27 then 0 else 1))) ∧ GTq kd n σ0 s p2 (g ++ ga ++ [gq (stp 32 p)] ++ gb) ∧ (lnq gb : Int) + 2 * p1 + 2 ≤ 2 * p2) ∨ (GJq σ0 s ∧ EVq (fun n => FHn kd n p) none), ?_, ?_, ?_⟩, ?_, ?_⟩
    rotate_left
    · intro c
      have c' := hy60.1 c
      exact Or.inl ⟨p1 + 1, [], by rw [if_pos c']; exact ev_t c' ev_c, by rw [List.append_nil]; exact g42, by rw [lnq_nil]; omega⟩
    · intro c
      have c' : kd (p1 + 1) ≠ 27 := fun e => c (hy60.2 e)
      refine gt_expr t0 g42 (by rw [lnq_app, lnq_app]; omega) (fun s67 p2 l hev hlen g67 hb hpp => Or.inl ⟨p2, gqs l, by rw [if_neg c']; exact ev_f c' (ev_b hev ev_c), g67, by omega⟩) (fun s67 j67 hev => Or.inr ⟨j67, ev_t c20 (ev_b hA (ev_t c27 (ev_b0 (ev_f c' (ev_b0 hev)))))⟩)
    · intro c
      rw [gt_kd g42] at c
      exact ⟨fun _ => c, fun _ => rfl⟩
    · intro c
      rw [gt_kd g42] at c
      exact ⟨fun h => absurd h (by decide), fun h => absurd h c⟩
    rintro s70 (⟨p2, gb, hB, g70, hb2⟩ | ⟨j70, hn⟩)
    rotate_left
    · exact ⟨fun _ => True, fun y83 _ _ => gj_add j70 (fun _ s84 j84 => gj_expect j84 (by decide) (fun s91 j91 => ⟨fun s => GJq σ0 s, fun s118 j118 => bad4 s118 j118 hn, fun c => absurd c (nk s91 j91).2, fun _ => gj_expr j91 (fun s105 j105 => gj_add j105 (fun _ s114 j114 => j114))⟩)), fun _ => trivial, fun _ => trivial⟩
    have hn3 := gt_n g70
    refine ⟨fun y => y.toInt = (if kd (p1 + 1) = 27 then 0 else 1), fun y83 _ hy83 => ?_, fun c => by rw [if_pos (hy60.1 c)]; rfl, fun c => by rw [if_neg (fun e => c (hy60.2 e))]; rfl⟩
    have e33 := lnq_one (a := (33, p, (if kd (p1 + 1) = 27 then 0 else 1), 0)) (by simp)
    refine gt_add (a := (33, p, (if kd (p1 + 1) = 27 then 0 else 1), 0)) g70 (by rw [lnq_app, lnq_app, lnq_app]; omega) (by simp) (by rw [ha, hy83]; rfl) (fun _ s84 g84 _ => ?_)
    refine gt_expect t0 g84 (by decide) (fun c27b s91 g91 => ?_) (fun c27b s91 j91 => ?_)
    rotate_left
    · exact ⟨fun s => GJq σ0 s, fun s118 j118 => bad4 s118 j118 (ev_t c20 (ev_b hA (ev_t c27 (ev_b hB (ev_f c27b ev_c))))), fun c => absurd c (nk s91 j91).2, fun _ => gj_expr j91 (fun s105 j105 => gj_add j105 (fun _ s114 j114 => j114))⟩
    have hn4 := gt_n g91
    refine ⟨fun s => (∃ p3 gc, EVq (fun n => if kd (p2 + 1) = 21 then some (p2 + 1, []) else (EXn kd n (p2 + 1)).bind fun r => some (r.1, r.2 ++ [gq (stp 22 p)])) (some (p3, gc)) ∧ GTq kd n σ0 s p3 (g ++ ga ++ [gq (stp 32 p)] ++ gb ++ [gq (33, p, (if kd (p1 + 1) = 27 then 0 else 1), 0)] ++ gc) ∧ (lnq gc : Int) + 2 * p2 + 2 ≤ 2 * p3) ∨ (GJq σ0 s ∧ EVq (fun n => FHn kd n p) none), ?_, ?_, ?_⟩
    rotate_left
    · intro c
      rw [gt_kd g91] at c
      exact Or.inl ⟨p2 + 1, [], ev_t c ev_c, by rw [List.append_nil]; exact g91, by rw [lnq_nil]; omega⟩
    · intro c
      rw [gt_kd g91] at c
      refine gt_expr t0 g91 (by rw [lnq_app, lnq_app, lnq_app, lnq_app]; omega) (fun s105 p3 l hev hlen g105 hb hpp => ?_) (fun s105 j105 hev => gj_add j105 (fun _ s114 j114 => Or.inr ⟨j114, ev_t c20 (ev_b hA (ev_t c27 (ev_b hB (ev_t c27b (ev_b0 (ev_f c (ev_b0 hev)))))))⟩))
      have hp3 := gt_n g105
      have e1 := lnq_one (a := stp 22 p) (by simp [stp])
      refine gt_add (a := stp 22 p) g105 (by rw [lnq_app, lnq_app, lnq_app, lnq_app, lnq_app]; omega) (by simp [stp]) (by rw [ha]; rfl) (fun _ s114 g114 _ => Or.inl ⟨p3, gqs l ++ [gq (stp 22 p)], ev_f c (ev_b hev ev_c), by rw [← List.append_assoc]; exact g114, by rw [lnq_app]; omega⟩)
    rintro s118 (⟨p3, gc, hC, g118, hb3⟩ | ⟨j118, hn⟩)
    rotate_left
    · exact bad4 s118 j118 hn
    have hn5 := gt_n g118
    refine gt_expect t0 g118 (by decide) (fun c21 s121 g121 => ?_) (fun c21 s121 j121 => gj_add j121 (fun _ s130 j130 => k0 s130 j130 (ev_t c20 (ev_b hA (ev_t c27 (ev_b hB (ev_t c27b (ev_b hC (ev_f c21 ev_c)))))))))
    have e34 := lnq_one (a := stp 34 p) (by simp [stp])
    refine gt_add (a := stp 34 p) g121 (by rw [lnq_app, lnq_app, lnq_app, lnq_app, lnq_app]; omega) (by simp [stp]) (by rw [ha]; rfl) (fun _ s130 g130 _ => k1 s130 (p3 + 1) (ga ++ [gq (stp 32 p)] ++ gb ++ [gq (33, p, (if kd (p1 + 1) = 27 then 0 else 1), 0)] ++ gc ++ [gq (stp 34 p)]) (ev_t c20 (ev_b hA (ev_t c27 (ev_b hB (ev_t c27b (ev_b hC (ev_t c21 ev_c))))))) ?_ ?_ (by omega))
    · simp only [List.append_assoc] at g130 ⊢
      exact g130
    · rw [lnq_app, lnq_app, lnq_app, lnq_app, lnq_app]
      omega
  · have hn : EVq (fun n => FHn kd n p) none := ev_f c20 ev_c
    exact ⟨fun s => GJq σ0 s, fun s30 j30 => gj_expect j30 (by decide) (fun s33 j33 => gj_add j33 (fun _ s42 j42 => ⟨fun _ => True, fun y60 _ _ => ⟨fun s => GJq σ0 s, fun s70 j70 => ⟨fun _ => True, fun y83 _ _ => gj_add j70 (fun _ s84 j84 => gj_expect j84 (by decide) (fun s91 j91 => ⟨fun s => GJq σ0 s, fun s118 j118 => bad4 s118 j118 hn, fun c => absurd c (nk s91 j91).2, fun _ => gj_expr j91 (fun s105 j105 => gj_add j105 (fun _ s114 j114 => j114))⟩)), fun _ => trivial, fun _ => trivial⟩, fun _ => j42, fun _ => gj_expr j42 (fun s67 j67 => j67)⟩, fun _ => trivial, fun _ => trivial⟩)), fun c => absurd c (nk s3 j3).1, fun _ => gj_expr j3 (fun s17 j17 => gj_add j17 (fun _ s26 j26 => j26))⟩
theorem gj_simple (h : GJq σ0 σ) (k : ∀ s, GJq σ0 s → Q s) : pk_X3_simple σ Q := by
  unfold pk_X3_simple
  have e := h.2.2
  exact ⟨fun s => GJq σ0 s, fun s127 j127 => gj_expect j127 (by decide) k, False, fun f => f.elim, fun c => by omega, fun _ => ⟨fun _ => ⟨fun _ => gj_expr h (fun s114 j114 => gj_add j114 (fun _ s123 j123 => j123)), fun c => by omega⟩, fun c => by omega⟩⟩
theorem gt_simple (t0 : TKv σ0 kd vl n) (h : GTq kd n σ0 σ p g) (hl : (lnq g : Int) ≤ 2 * p + 66)
    (k1 : ∀ s p' g', EVq (fun n => SIn kd n p) (some (p', g')) → GTq kd n σ0 s p' (g ++ g') → (lnq g' : Int) + 2 * p + 2 ≤ 2 * p' → p < p' → Q s) (k0 : ∀ s, GJq σ0 s → EVq (fun n => SIn kd n p) none → Q s) : pk_X3_simple σ Q := by
  have h16 := t0.1.2.1
  have ek := gt_kd h
  have ep := gt_at h
  have hpn := gt_n h
  unfold pk_X3_simple
  refine ⟨fun s => (∃ p1 g', GTq kd n σ0 s p1 (g ++ g') ∧ (lnq g' : Int) + 2 * p ≤ 2 * p1 ∧ p < p1 ∧ (kd p1 = 27 → EVq (fun n => SIn kd n p) (some (p1 + 1, g'))) ∧ (kd p1 ≠ 27 → EVq (fun n => SIn kd n p) none)) ∨ (GJq σ0 s ∧ EVq (fun n => SIn kd n p) none), ?_, ?_⟩
  · rintro s127 (⟨p1, g', g127, hb, hpp, y1, y0⟩ | ⟨j127, hn⟩)
    · exact gt_expect t0 g127 (by decide) (fun c s g1 => k1 s (p1 + 1) g' (y1 c) g1 (by omega) (by omega)) (fun c s j => k0 s j (y0 c))
    · exact gj_expect j127 (by decide) (fun s j => k0 s j hn)
  rw [ek]
  refine ⟨kd p = 14 ∨ kd p = 15, fun hj => ⟨fun y => y.toInt = (if kd p = 14 then 36 else 37), fun y hy => ?_, fun c => by rw [if_neg c]; rfl, fun c => by rw [if_pos c]; rfl⟩, fun c => Or.inl c, fun n14 => ⟨fun n15 => ⟨fun n16 => ?_, fun c16 => ?_⟩, fun c => Or.inr c⟩⟩
  · have e1 := lnq_one (a := stp (if kd p = 14 then 36 else 37) p) (by simp only [stp]; split <;> decide)
    refine gt_add (a := stp (if kd p = 14 then 36 else 37) p) h (by omega) (by simp only [stp]; split <;> decide) (by rw [hy, ep]; rfl) (fun _ s43 g43 _ => gt_adv t0 g43 (by omega) (fun s48 g48 => Or.inl ⟨p + 1, _, g48, by omega, by omega, fun c => ?_, fun c => ?_⟩))
    · rcases hj with e | e
      · rw [if_pos e]; exact ev_t e (ev_t c ev_c)
      · have n14 : kd p ≠ 14 := by omega
        rw [if_neg n14]; exact ev_f n14 (ev_t e (ev_t c ev_c))
    · rcases hj with e | e
      · exact ev_t e (ev_f c ev_c)
      · exact ev_f (by omega) (ev_t e (ev_f c ev_c))
  · refine gt_expr t0 h (by omega) (fun s p1 l hev hlen g1 hb hpp => ?_) (fun s j hev => gj_add j (fun _ s2 j2 => Or.inr ⟨j2, ev_f n14 (ev_f n15 (ev_f n16 (ev_b0 hev)))⟩))
    have hp1 := gt_n g1
    have e1 := lnq_one (a := stp 22 p) (by simp [stp])
    exact gt_add (a := stp 22 p) g1 (by rw [lnq_app]; omega) (by simp [stp]) (by rw [ep]; rfl) (fun _ s2 g2 _ => Or.inl ⟨p1, gqs l ++ [gq (stp 22 p)], by rw [← List.append_assoc]; exact g2, by rw [lnq_app]; omega, hpp, fun c => ev_f n14 (ev_f n15 (ev_f n16 (ev_b hev (ev_t c ev_c)))), fun c => ev_f n14 (ev_f n15 (ev_f n16 (ev_b hev (ev_f c ev_c))))⟩)
  · refine gt_adv t0 h (by omega) (fun s64 g64 => ?_)
    have hn64 := gt_n g64
    refine ⟨fun y => (y.toInt = 0 ↔ kd (p + 1) = 27), fun y81 _ hy81 => ⟨fun s => (∃ p1 gb, GTq kd n σ0 s p1 (g ++ gb) ∧ (lnq gb : Int) + 2 * p + 1 ≤ 2 * p1 ∧ p < p1 ∧ (kd p1 = 27 → EVq (fun n => SIn kd n p) (some (p1 + 1, gb ++ [gq (38, p, (if kd (p + 1) = 27 then 0 else 1), 0)]))) ∧ (kd p1 ≠ 27 → EVq (fun n => SIn kd n p) none)) ∨ (GJq σ0 s ∧ EVq (fun n => SIn kd n p) none), ?_, ?_, ?_⟩, fun c => ?_, fun c => ?_⟩
    · rintro s91 (⟨p1, gb, g91, hb, hpp, y1, y0⟩ | ⟨j91, hn⟩)
      · have hp1 := gt_n g91
        refine ⟨fun y => y.toInt = (if kd (p + 1) = 27 then 0 else 1), fun y hy' hy => ?_, fun c => by rw [if_pos (hy81.1 c)]; rfl, fun c => by rw [if_neg (fun e => c (hy81.2 e))]; rfl⟩
        have e1 := lnq_one (a := (38, p, (if kd (p + 1) = 27 then 0 else 1), 0)) (by simp)
        exact gt_add (a := (38, p, (if kd (p + 1) = 27 then 0 else 1), 0)) g91 (by rw [lnq_app]; omega) (by simp) (by rw [hy, ep]; rfl) (fun _ s2 g2 _ => Or.inl ⟨p1, _, by rw [← List.append_assoc]; exact g2, by rw [lnq_app]; omega, hpp, y1, y0⟩)
      · exact ⟨fun _ => True, fun y _ _ => gj_add j91 (fun _ s2 j2 => Or.inr ⟨j2, hn⟩), fun _ => trivial, fun _ => trivial⟩
    · intro c
      have c' := hy81.1 c
      refine Or.inl ⟨p + 1, [], by rw [List.append_nil]; exact g64, by rw [lnq_nil]; omega, by omega, fun c2 => ?_, fun c2 => absurd c' c2⟩
      rw [if_pos c']
      exact ev_f n14 (ev_f n15 (ev_t c16 (ev_t c' ev_c)))
    · intro c
      have c' : kd (p + 1) ≠ 27 := fun e => c (hy81.2 e)
      refine gt_expr t0 g64 (by omega) (fun s p1 l hev hlen g1 hb hpp => Or.inl ⟨p1, gqs l, g1, by omega, by omega, fun c2 => ?_, fun c2 => ev_f n14 (ev_f n15 (ev_t c16 (ev_f c' (ev_b hev (ev_f c2 ev_c)))))⟩) (fun s j hev => Or.inr ⟨j, ev_f n14 (ev_f n15 (ev_t c16 (ev_f c' (ev_b0 hev))))⟩)
      rw [if_neg c']
      exact ev_f n14 (ev_f n15 (ev_t c16 (ev_f c' (ev_b hev (ev_t c2 ev_c)))))
    · rw [gt_kd g64] at c
      exact ⟨fun _ => c, fun _ => rfl⟩
    · rw [gt_kd g64] at c
      exact ⟨fun h => absurd h (by decide), fun h => absurd h c⟩
end SSI
