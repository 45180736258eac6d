/-! the class's grammar of statements: variables -/
section SVA
variable {kd vl : Nat → Int} {n p d w ty : Nat} {σ0 σ s : St} {g : List Gsq} {a1 a2 a3 : Int32} {k lk : Int} {Q : St → Prop}
theorem ev_k {α : Type} {o R : Option α} (h : o = R) : EVq (fun _ => o) R := ⟨0, fun _ _ => h⟩
theorem tbl_p20 {A B : List Stq} {a y x : Int} {q : Nat} {i v : Int32} (h : TBL s (A ++ ((a, q, x, y) :: B))) (hi : i.toInt = (A.length : Int)) (hl : A.length < 32100) : TBL (upF s 20 (setv 32100 (s 20) i v)) (A ++ ((a, q, v.toInt, y) :: B)) := by
  obtain ⟨h1, h2⟩ := h
  have e20 : ∀ j, (setv 32100 (s 20) i v) j = if j = A.length then v else s 20 j := fun j => by rw [setv_at hi hl]
  refine ⟨?_, fun j b r z w e => ?_⟩
  · rw [rdF_ne (by decide), h1]
    simp only [List.length_append, List.length_cons]
  · rw [rdF_ne (by decide), rdF_ne (by decide), rdF_eq, rdF_ne (by decide), e20]
    by_cases c : j < A.length
    · rw [if_neg (by omega)]
      rw [List.getElem?_append_left c] at e
      exact h2 j b r z w (by rw [List.getElem?_append_left c]; exact e)
    · rw [List.getElem?_append_right (by omega)] at e
      by_cases q0 : j = A.length
      · have e0 : j - A.length = 0 := by omega
        rw [e0] at e
        have e' : some ((a, q, v.toInt, y) : Stq) = some (b, r, z, w) := e
        cases e'
        have := h2 j a q x y (by rw [List.getElem?_append_right (by omega), e0]; rfl)
        rw [if_pos q0]
        exact ⟨this.1, this.2.1, rfl, this.2.2.2⟩
      · rw [if_neg q0]
        obtain ⟨m, hm⟩ : ∃ m, j - A.length = m + 1 := ⟨j - A.length - 1, by omega⟩
        rw [hm] at e
        exact h2 j b r z w (by rw [List.getElem?_append_right (by omega), hm]; exact e)
theorem tbl_p21 {A B : List Stq} {a y x : Int} {q : Nat} {i v : Int32} (h : TBL s (A ++ ((a, q, x, y) :: B))) (hi : i.toInt = (A.length : Int)) (hl : A.length < 32100) : TBL (upF s 21 (setv 32100 (s 21) i v)) (A ++ ((a, q, x, v.toInt) :: B)) := by
  obtain ⟨h1, h2⟩ := h
  have e20 : ∀ j, (setv 32100 (s 21) i v) j = if j = A.length then v else s 21 j := fun j => by rw [setv_at hi hl]
  refine ⟨?_, fun j b r z w e => ?_⟩
  · rw [rdF_ne (by decide), h1]
    simp only [List.length_append, List.length_cons]
  · rw [rdF_ne (by decide), rdF_ne (by decide), rdF_ne (by decide), rdF_eq, e20]
    by_cases c : j < A.length
    · rw [if_neg (by omega)]
      rw [List.getElem?_append_left c] at e
      exact h2 j b r z w (by rw [List.getElem?_append_left c]; exact e)
    · rw [List.getElem?_append_right (by omega)] at e
      by_cases q0 : j = A.length
      · have e0 : j - A.length = 0 := by omega
        rw [e0] at e
        have e' : some ((a, q, x, v.toInt) : Stq) = some (b, r, z, w) := e
        cases e'
        have := h2 j a q x y (by rw [List.getElem?_append_right (by omega), e0]; rfl)
        rw [if_pos q0]
        exact ⟨this.1, this.2.1, this.2.2.1, rfl⟩
      · rw [if_neg q0]
        obtain ⟨m, hm⟩ : ∃ m, j - A.length = m + 1 := ⟨j - A.length - 1, by omega⟩
        rw [hm] at e
        exact h2 j b r z w (by rw [List.getElem?_append_right (by omega), hm]; exact e)
theorem kg_F {c : Nat} {f : Nat → Int32} (hc : [18, 19, 20, 21, 22, 23].contains c = true) : KGq s (upF s c f) := kp_F kp_rf hc
theorem gst_F {c : Nat} {f : Nat → Int32} {L L2 : List Stq} (h : GSt kd n s p L) (hc : c ≠ 3) (ht : TBL (upF s c f) L2) : GSt kd n (upF s c f) p L2 := by
  obtain ⟨h1, h2, h3, h4, h5⟩ := h
  refine ⟨?_, ?_, h3, ?_, ht⟩
  · rw [rdF_ne (Ne.symm hc)]; exact h1
  · rw [rdF_ne (Ne.symm hc)]; exact h2
  · rw [rdF_ne (Ne.symm hc)]; exact h4
theorem gj_F {c : Nat} {f : Nat → Int32} (h : GJq σ0 s) (hc : [18, 19, 20, 21, 22, 23].contains c = true) : GJq σ0 (upF s c f) := by
  have hc3 : c ≠ 3 := fun e => by rw [e] at hc; exact absurd hc (by decide)
  refine gj_k h (kg_F hc) ⟨?_, ?_⟩
  · rw [rdF_ne (Ne.symm hc3)]; exact h.2.1
  · rw [rdF_ne (Ne.symm hc3)]; exact h.2.2
theorem gt_bracket {Q : Int32 → St → Prop} (t0 : TKv σ0 kd vl n) (h : GTq kd n σ0 σ p g) (c24 : kd p = 24) (hl : (lnq g : Int) ≤ 2 * p + 66)
    (k1 : ∀ v s p' gb gv, EVq (fun n => BKn kd n p) (some (p', gb, gv)) → GTq kd n σ0 s p' (g ++ gb ++ [gq (42, p, gv, 0)]) → v.toInt = (lnq (g ++ gb) : Int) → (lnq gb : Int) + 2 * p + 3 ≤ 2 * p' → p < p' → Q v s) (k0 : ∀ v s, GJq σ0 s → EVq (fun n => BKn kd n p) none → Q v s) : pk_X3_bracket σ Q := by
  have h16 := t0.1.2.1
  have ep := gt_at h
  unfold pk_X3_bracket
  refine gt_adv t0 h (by omega) (fun s6 g6 => ?_)
  have hn6 := gt_n g6
  refine ⟨fun y => (y.toInt = 0 ↔ kd (p + 1) = 25), fun y23 _ hy23 => ⟨fun s => (∃ p1 gb, GTq kd n σ0 s p1 (g ++ gb) ∧ (lnq gb : Int) + 2 * p + 1 ≤ 2 * p1 ∧ p < p1 ∧ (kd p1 = 25 → EVq (fun n => BKn kd n p) (some (p1 + 1, gb, (if kd (p + 1) = 25 then 0 else 1)))) ∧ (kd p1 ≠ 25 → EVq (fun n => BKn kd n p) none)) ∨ (GJq σ0 s ∧ EVq (fun n => BKn kd n p) none), ?_, ?_, ?_⟩, fun c => ?_, fun c => ?_⟩
  · rintro s60 (⟨p1, gb, g60, hb, hpp, y1, y0⟩ | ⟨j60, hn⟩)
    · have hn1 := gt_n g60
      have e42 := lnq_one (a := (42, p, (if kd (p + 1) = 25 then 0 else 1), 0)) (by simp)
      refine gt_expect t0 g60 (by decide) (fun c25 s63 g63 => ⟨fun y => y.toInt = (if kd (p + 1) = 25 then 0 else 1), fun y79 _ hy79 => ?_, fun c => by rw [if_pos (hy23.1 c)]; rfl, fun c => by rw [if_neg (fun e => c (hy23.2 e))]; rfl⟩) (fun c25 s63 j63 => ⟨fun _ => True, fun y79 _ _ => gj_add j63 (fun v80 s80 j80 => k0 v80 s80 j80 (y0 c25)), fun _ => trivial, fun _ => trivial⟩)
      exact gt_add (a := (42, p, (if kd (p + 1) = 25 then 0 else 1), 0)) g63 (by rw [lnq_app]; omega) (by simp) (by rw [ep, hy79]; rfl) (fun v80 s80 g80 hv => k1 v80 s80 (p1 + 1) gb _ (y1 c25) g80 hv (by omega) (by omega))
    · exact gj_expect j60 (by decide) (fun s63 j63 => ⟨fun _ => True, fun y79 _ _ => gj_add j63 (fun v80 s80 j80 => k0 v80 s80 j80 hn), fun _ => trivial, fun _ => trivial⟩)
  · intro c
    have c' := hy23.1 c
    refine Or.inl ⟨p + 1, [], by rw [List.append_nil]; exact g6, by rw [lnq_nil]; omega, by omega, fun _ => ?_, fun c2 => absurd c' c2⟩
    rw [if_pos c']
    exact ev_t c' ev_c
  · intro c
    have c' : kd (p + 1) ≠ 25 := fun e => c (hy23.2 e)
    have hk0 : (lnq g : Int) ≤ 32090 := by omega
    refine pg_add (a := (40, p, 0, 0)) g6.2.1 hk0 (by rw [ep]; rfl) (fun v34 s34 k34 gs34 hv34 => ?_)
    have l1 : ((fltq 0 g ++ [((40, p, 0, 0) : Stq)]).length : Int) = (lnq g : Int) + 1 := by rw [List.length_append]; rfl
    refine gr_expr t0 (kp_tr g6.1 (kg4 k34)) gs34 (by rw [k34 3 9 rfl rfl]; exact g6.2.2) (by rw [l1]; omega) (fun s40 p1 l hv hact hk40 gs40 h940 hb hpp => ?_) (fun s40 j40 hv => gj_add j40 (fun v54 s54 j54 => Or.inr ⟨gj_F j54 rfl, ev_f c' (ev_b0 hv)⟩))
    have hp1 := gs40.2.2.1
    have l2 : ((fltq 0 g ++ [((40, p, 0, 0) : Stq)] ++ l).length : Int) = (lnq g : Int) + 1 + l.length := by rw [List.length_append]; omega
    refine pg_add (a := stp 41 p) gs40 (by rw [l2]; omega) (by rw [ep]; rfl) (fun v54 s54 k54 gs54 hv54 => ?_)
    have ef : fltq 0 (g ++ [((40, p, 0, 0), l)]) = fltq 0 g ++ (((40, p, v54.toInt, 0) : Stq) :: (l ++ [stp 41 p])) := by
      rw [flt_app]
      have : fltq (0 + (fltq 0 g).length) [(((40, p, 0, 0) : Stq), l)] = [((40, p, ((0 + (fltq 0 g).length : Nat) : Int) + 1 + (l.length : Int), 0) : Stq)] ++ l ++ [stp 41 p] ++ [] := rfl
      rw [this, hv54, l2]
      have e0 : ((0 + (fltq 0 g).length : Nat) : Int) = (lnq g : Int) := by unfold lnq; omega
      rw [e0, List.append_nil]
      rfl
    have es := lnq_size (y := ((40, p, 0, 0) : Stq)) (l := l) rfl
    have tb : TBL s54 (fltq 0 g ++ (((40, p, 0, 0) : Stq) :: (l ++ [stp 41 p]))) := by
      have := gs54.2.2.2.2
      simp only [List.append_assoc, List.cons_append, List.nil_append] at this
      exact this
    refine Or.inl ⟨p1, [((40, p, 0, 0), l)], ⟨kp_tr hk40 (kp_tr (kg4 k54) (kg_F rfl)), gst_F gs54 (by decide) (by rw [ef]; exact tbl_p20 tb hv34 (by have : (fltq 0 g).length = lnq g := rfl; omega)), by rw [rdF_ne (by decide), k54 3 9 rfl rfl]; exact h940⟩, by omega, by omega, fun c2 => ?_, fun c2 => ev_f c' (ev_b hv (ev_f c2 ev_c))⟩
    rw [if_neg c']
    exact ev_f c' (ev_b hv (ev_t c2 ev_c))
  · rw [gt_kd g6] at c
    exact ⟨fun _ => c, fun _ => rfl⟩
  · rw [gt_kd g6] at c
    exact ⟨fun h => absurd h (by decide), fun h => absurd h c⟩
end SVA
