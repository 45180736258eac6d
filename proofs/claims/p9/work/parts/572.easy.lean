/-! the calls that read, feed, end, pick, input -/
section ESY
variable {σ s τ t : St} {vs z : List Nat}
theorem nt20 : ((20 : Int32)).toInt = 20 := by decide
theorem nug_tr (h : NUG σ vs) (k : Kp [(0, 1)] [1] σ s) (ht : 0 ≤ (s 0 1).toInt ∧ (s 0 1).toInt ≤ (σ 0 1).toInt) : NUG s vs := by
  obtain ⟨⟨t1, t2⟩, ⟨o1, o2⟩, ⟨n1, n2⟩, ⟨w1, w2⟩, ⟨i1, i2⟩, v1, ⟨b1, b2⟩⟩ := h
  have e2 : (s 0 2) = (σ 0 2) := k _ _ rfl rfl
  have e35 : (s 0 35) = (σ 0 35) := k _ _ rfl rfl
  have e31 : (s 0 31) = (σ 0 31) := k _ _ rfl rfl
  have e17 : (s 0 17) = (σ 0 17) := k _ _ rfl rfl
  have e39 : (s 0 39) = (σ 0 39) := k _ _ rfl rfl
  have e45 : (s 0 45) = (σ 0 45) := k _ _ rfl rfl
  unfold NUG
  rw [e2, e35, e31, e17, e39, e45]
  exact ⟨by omega, by omega, by omega, by omega, by omega, by omega, by omega⟩
theorem gi_tr (h : GLI σ τ vs) (k : Kp [(0, 1)] [1] σ s) (ht : 0 ≤ (s 0 1).toInt ∧ (s 0 1).toInt ≤ (σ 0 1).toInt) : GLI s τ vs :=
  gi_misc h (kp_sub k rfl rfl) (nug_tr h.1 k ht) (by
    have e1 : (s 0 88) = (σ 0 88) := k _ _ rfl rfl
    have e2 : (s 0 91) = (σ 0 91) := k _ _ rfl rfl
    unfold MIS
    rw [e1, e2]
    exact h.2.2.2.2.2.2)
/-- feed: its answer, exactly -/
theorem sp_feed {a1 a2 a3 a4 a5 : Int32} {Q : Int32 → St → St → List Nat → Prop} (h : GLI σ τ vs) (hF : (σ 0 2).toInt ≤ 10220) (h0 : 0 ≤ (σ 0 2).toInt) (k0 : 16000 < (σ 0 1).toInt + 20 → Q (-1) σ τ vs) (k1 : (σ 0 1).toInt + 20 ≤ 16000 → ∀ (r : Int32) s, r.toInt = (σ 0 1).toInt + 20 → (s 0 1).toInt = (σ 0 1).toInt + 20 → (s 0 2).toInt = (σ 0 2).toInt + 20 → GLI s τ vs → Q r s τ vs) : wp_feed a1 a2 a3 a4 a5 σ τ vs Q := by
  have h9 := h
  obtain ⟨⟨⟨t1, t2⟩, ⟨o1, o2⟩, ⟨n1, n2⟩, ⟨w1, w2⟩, ⟨i1, i2⟩, v1, ⟨b1, b2⟩⟩, hE, hA, hO, hP, hL, hM⟩ := h9
  have e1 : ((σ 0 1) + (20 : Int32)).toInt = (σ 0 1).toInt + 20 := adc (by decide) (by omega) (by omega)
  have e2 : ((σ 0 2) + (20 : Int32)).toInt = (σ 0 2).toInt + 20 := adc (by decide) (by omega) (by omega)
  unfold wp_feed
  refine ⟨fun c => k0 (by omega), fun c => ⟨fun _ => ?_, fun c2 => by omega⟩⟩
  refine ⟨fun n x s t z => (n : Int) = 20 - x.toInt ∧ 0 ≤ x.toInt ∧ x.toInt ≤ 20 ∧ Kp [] [1] σ s ∧ t = τ ∧ z = vs, ⟨20, by decide, by decide, by decide, kp_rf, rfl, rfl⟩, ?_⟩
  rintro n x s t z ⟨q1, q2, q3, kk, rfl, rfl⟩
  have f1 : (s 0 1) = (σ 0 1) := kk _ _ rfl rfl
  have f2 : (s 0 2) = (σ 0 2) := kk _ _ rfl rfl
  refine ⟨fun _ => ?_, fun c3 => ⟨fun _ => True, fun y _ => ?_, fun _ => ⟨fun _ => ⟨fun _ => ⟨fun _ => trivial, fun _ => trivial⟩, fun _ => trivial⟩, fun _ => trivial⟩, fun _ => trivial⟩⟩
  · rw [f1, f2]
    have g1 : ((upC (upC s 0 1 ((σ 0 1) + (20 : Int32))) 0 2 ((σ 0 2) + (20 : Int32))) 0 1).toInt = (σ 0 1).toInt + 20 := e1
    have g2 : ((upC (upC s 0 1 ((σ 0 1) + (20 : Int32))) 0 2 ((σ 0 2) + (20 : Int32))) 0 2).toInt = (σ 0 2).toInt + 20 := e2
    have k9 : Kp [(0, 1), (0, 2)] [1] σ (upC (upC s 0 1 ((σ 0 1) + (20 : Int32))) 0 2 ((σ 0 2) + (20 : Int32))) := kp_f (kp_f (kp_sub kk rfl rfl) rfl) rfl
    generalize (upC (upC s 0 1 ((σ 0 1) + (20 : Int32))) 0 2 ((σ 0 2) + (20 : Int32))) = S at g1 g2 k9
    refine k1 (by omega) _ S e1 g1 g2 (gi_misc h (kp_sub k9 rfl rfl) ?_ ?_)
    · have e35 : (S 0 35) = (σ 0 35) := k9 _ _ rfl rfl
      have e31 : (S 0 31) = (σ 0 31) := k9 _ _ rfl rfl
      have e17 : (S 0 17) = (σ 0 17) := k9 _ _ rfl rfl
      have e39 : (S 0 39) = (σ 0 39) := k9 _ _ rfl rfl
      have e45 : (S 0 45) = (σ 0 45) := k9 _ _ rfl rfl
      unfold NUG
      rw [g1, g2, e35, e31, e17, e39, e45]
      exact ⟨by omega, by omega, by omega, by omega, by omega, by omega, by omega⟩
    · have e88 : (S 0 88) = (σ 0 88) := k9 _ _ rfl rfl
      have e91 : (S 0 91) = (σ 0 91) := k9 _ _ rfl rfl
      unfold MIS
      rw [e88, e91]
      exact hM
  · have e3 : ((s 0 1) + x).toInt = (σ 0 1).toInt + x.toInt := by rw [f1]; exact ad (by omega) (by omega)
    have e4 := ad1 (x := x) (by omega)
    exact ⟨by omega, n - 1, by omega, by omega, by omega, by omega, kp_a kk rfl, rfl, rfl⟩
/-- end: its answer, exactly -/
theorem sp_end {a : Int32} {Q : Int32 → St → St → List Nat → Prop} (h : GLI σ τ vs) (k0 : a.toInt < 0 ∨ (σ 0 1).toInt < a.toInt → Q (-1) σ τ vs) (k1 : 0 ≤ a.toInt → a.toInt ≤ (σ 0 1).toInt → ∀ s, (s 0 1).toInt = a.toInt → (s 0 2) = (σ 0 2) → GLI s τ vs → Q a s τ vs) : wp_end a σ τ vs Q := by
  unfold wp_end
  exact ⟨fun c => k0 (Or.inl c), fun c => ⟨fun c2 => k1 c c2 _ rfl rfl (gi_tr h (kp_f kp_rf rfl) ⟨c, c2⟩), fun c2 => k0 (Or.inr c2)⟩⟩
theorem sp_place {Q : Int32 → Prop} (k : ∀ r, Q r) : wp_place σ τ vs Q := k _
theorem sp_objects {Q : Int32 → Prop} (k : ∀ r, Q r) : wp_objects σ τ vs Q := k _
theorem sp_fault {a : Int32} {Q : Int32 → Prop} (k : ∀ r, Q r) : wp_fault a σ τ vs Q := ⟨fun _ => ⟨fun _ => k _, fun _ => k _⟩, fun _ => k _⟩
theorem sp_result {Q : Int32 → Prop} (k : ∀ r, Q r) : wp_result σ τ vs Q := k _
theorem sp_turns {Q : Int32 → Prop} (k : ∀ r, Q r) : wp_turns σ τ vs Q := k _
theorem sp_trap {a : Int32} {Q : Int32 → Prop} (k : ∀ r, Q r) : wp_trap a σ τ vs Q := ⟨fun _ => ⟨fun _ => k _, fun _ => k _⟩, fun _ => k _⟩
theorem sp_written {Q : Int32 → Prop} (k : ∀ r, Q r) : wp_written σ τ vs Q := k _
theorem sp_strays {Q : Int32 → Prop} (k : ∀ r, Q r) : wp_strays σ τ vs Q := k _
theorem sp_peek {a : Int32} {Q : Int32 → Prop} (k : ∀ r, Q r) : wp_peek a σ τ vs Q := ⟨fun _ => k _, fun _ => ⟨fun _ => k _, fun c => ⟨fun _ => k _, fun c2 => ⟨⟨c, c2⟩, k _⟩⟩⟩⟩
theorem sp_out {a : Int32} {Q : Int32 → Prop} (h : GLI σ τ vs) (k : ∀ r, Q r) : wp_out a σ τ vs Q := by
  obtain ⟨m1, m2⟩ := h.2.2.2.2.2.2.2
  exact ⟨fun _ => k _, fun c => ⟨fun _ => k _, fun c2 => ⟨⟨c, by omega⟩, k _⟩⟩⟩
theorem sp_input {a : Int32} {Q : Int32 → St → St → List Nat → Prop} (h : GLI σ τ vs) (k : ∀ r s, GLI s τ vs → (s 0 1) = (σ 0 1) → (s 0 2) = (σ 0 2) → Q r s τ vs) : wp_input a σ τ vs Q := by
  obtain ⟨⟨m1, m2⟩, m3⟩ := h.2.2.2.2.2.2
  unfold wp_input
  refine ⟨fun c => ⟨⟨m1, by omega⟩, k _ _ (gi_misc h (kp_f (kp_a kp_rf rfl) rfl) h.1 ?_) rfl rfl⟩, fun _ => k _ _ h rfl rfl⟩
  have e := ad1 (x := (σ 0 88)) (by omega)
  refine ⟨?_, m3⟩
  show 0 ≤ ((σ 0 88) + (1 : Int32)).toInt ∧ ((σ 0 88) + (1 : Int32)).toInt ≤ 4096
  omega
theorem sp_isObject {a : Int32} {Q : Int32 → Prop} (k0 : Q 0) (k1 : 1 ≤ a.toInt → a.toInt ≤ (σ 0 35).toInt → Q 1) : wp_isObject a σ τ vs Q := ⟨fun _ => k0, fun c => ⟨fun _ => k0, fun c2 => k1 c c2⟩⟩
/-- an object's rows -/
theorem ob_rows (h : GLI σ τ vs) {a : Int32} (a1 : 1 ≤ a.toInt) (a2 : a.toInt ≤ (σ 0 35).toInt) : (a - (1 : Int32)).toInt = a.toInt - 1 ∧ (a - (1 : Int32)).toNatClampNeg + 1 = a.toNatClampNeg ∧ ((a - (1 : Int32)).toNatClampNeg : Int) = a.toInt - 1 ∧ OBJ σ (a - (1 : Int32)).toNatClampNeg ∧ ((σ 22) a.toNatClampNeg).toInt = fO σ ((a - (1 : Int32)).toNatClampNeg + 1) ∧ fO σ ((a - (1 : Int32)).toNatClampNeg + 1) ≤ 10000 ∧ a.toInt ≤ 100 := by
  have e := sb1 (x := a) (by omega)
  have n1 := nt (x := a) (by omega)
  have n2 := nt (x := a - (1 : Int32)) (by omega)
  have e3 : (a - (1 : Int32)).toNatClampNeg + 1 = a.toNatClampNeg := by omega
  have ob := h.2.2.2.1 (a - (1 : Int32)).toNatClampNeg (by omega)
  have o2 := h.1.2.1.2
  have := ob.1
  exact ⟨e, e3, by omega, ob, by unfold fO; rw [e3], by omega, by omega⟩
theorem sp_symbolAt {a b : Int32} {Q : Int32 → Prop} (h : GLI σ τ vs) (k : ∀ r : Int32, r.toInt < 10000 → Q r) : wp_symbolAt a b σ τ vs Q := by
  unfold wp_symbolAt
  have em : ((-1 : Int32)).toInt < 10000 := by decide
  refine sp_isObject ⟨fun _ => k _ em, no0⟩ (fun c1 c2 => ⟨no1, fun _ => ⟨fun _ => ?_, fun _ => k _ em⟩⟩)
  obtain ⟨e1, e2, e3, ⟨⟨o1, o2, o3, o4⟩, -⟩, e4, e5, e6⟩ := ob_rows h c1 c2
  have ef : ((σ 22) (a - (1 : Int32)).toNatClampNeg).toInt = fO σ (a - (1 : Int32)).toNatClampNeg := rfl
  refine ⟨by omega, fun n x4 x5 => (n : Int) = fO σ ((a - (1 : Int32)).toNatClampNeg + 1) - x5.toInt ∧ 0 ≤ x5.toInt, ⟨(fO σ ((a - (1 : Int32)).toNatClampNeg + 1) - fO σ (a - (1 : Int32)).toNatClampNeg).toNat, by omega, by omega⟩, ?_⟩
  rintro n x4 x5 ⟨q1, q2⟩
  refine ⟨by omega, fun _ => k _ em, fun c3 => ?_⟩
  rw [e4] at c3
  have e7 := ad1 (x := x5) (by omega)
  exact ⟨by omega, fun _ => True, fun _ _ => ⟨n - 1, by omega, by omega, by omega⟩, fun _ => ⟨fun _ => trivial, fun _ => k _ (by omega)⟩, fun _ => trivial⟩
theorem sp_symbols {a : Int32} {Q : Int32 → Prop} (h : GLI σ τ vs) (c1 : 1 ≤ a.toInt) (c2 : a.toInt ≤ (σ 0 35).toInt) (k : ∀ r : Int32, Q r) : wp_symbols a σ τ vs Q := by
  unfold wp_symbols
  obtain ⟨e1, e2, e3, ⟨⟨o1, o2, o3, o4⟩, -⟩, e4, e5, e6⟩ := ob_rows h c1 c2
  have ef : ((σ 22) (a - (1 : Int32)).toNatClampNeg).toInt = fO σ (a - (1 : Int32)).toNatClampNeg := rfl
  refine ⟨by omega, fun n x4 x5 => (n : Int) = fO σ ((a - (1 : Int32)).toNatClampNeg + 1) - x5.toInt ∧ 0 ≤ x5.toInt, ⟨(fO σ ((a - (1 : Int32)).toNatClampNeg + 1) - fO σ (a - (1 : Int32)).toNatClampNeg).toNat, by omega, by omega⟩, ?_⟩
  rintro n x4 x5 ⟨q1, q2⟩
  refine ⟨by omega, fun _ => k _, fun c3 => ?_⟩
  rw [e4] at c3
  have e7 := ad1 (x := x5) (by omega)
  exact ⟨by omega, fun _ => True, fun _ _ => ⟨n - 1, by omega, by omega, by omega⟩, fun _ => trivial, fun _ => trivial⟩
theorem sp_count {a b : Int32} {Q : Int32 → Prop} (h : GLI σ τ vs) (k : ∀ r : Int32, Q r) : wp_count a b σ τ vs Q := by
  unfold wp_count
  refine sp_isObject ⟨no0, fun _ => k _⟩ (fun c1 c2 => ⟨fun _ => ⟨fun _ => ⟨fun _ => k _, fun _ => ?_⟩, fun _ => sp_symbols h c1 c2 (fun r => k r)⟩, no1⟩)
  obtain ⟨e1, e2, e3, -, e4, e5, e6⟩ := ob_rows h c1 c2
  exact ⟨by omega, k _⟩
theorem sp_name {a b c : Int32} {Q : Int32 → Prop} (h : GLI σ τ vs) (k : ∀ r : Int32, Q r) : wp_name a b c σ τ vs Q := by
  unfold wp_name
  refine sp_symbolAt h (fun v hv => ⟨fun _ => k _, fun c1 => ⟨fun _ => k _, fun c2 => ⟨by omega, fun _ => k _, fun c3 => ?_⟩⟩⟩)
  obtain ⟨m1, m2, m3⟩ := h.2.2.1.2.2.2.2.2.1 v.toNatClampNeg
  have e : ((σ 18) v.toNatClampNeg + c).toInt = ((σ 18) v.toNatClampNeg).toInt + c.toInt := ad (by omega) (by omega)
  exact ⟨by omega, by omega, k _⟩
theorem sp_symbol {a b : Int32} {Q : Int32 → Prop} (h : GLI σ τ vs) (k : ∀ r : Int32, Q r) : wp_symbol a b σ τ vs Q := by
  unfold wp_symbol
  refine sp_symbolAt h (fun v hv => ⟨fun c1 => ⟨by omega, by omega, fun _ => True, fun _ _ => ⟨by omega, fun _ => k _, fun _ => ⟨by omega, fun _ => k _, fun _ => k _⟩⟩, fun _ => trivial, fun _ => trivial⟩, fun _ => k _⟩)
end ESY
/-! as many different picks as there are objects, at most -/
theorem pigeon (m : Nat) : ∀ (n : Nat) (f : Nat → Nat), (∀ k, k < n → f k < m) → (∀ j k, j < k → k < n → f j ≠ f k) → n ≤ m := by
  induction m with
  | zero =>
    intro n f h _
    cases n with
    | zero => exact Nat.le_refl _
    | succ n => exact absurd (h 0 (Nat.succ_pos _)) (Nat.not_lt_zero _)
  | succ m ih =>
    intro n f h g
    cases n with
    | zero => exact Nat.zero_le _
    | succ n =>
      refine Nat.succ_le_succ (ih n (fun k => if f k = m then f n else f k) (fun k hk => ?_) (fun j k hj hk => ?_))
      · show (if f k = m then f n else f k) < m
        have h1 := h k (by omega)
        have h2 := h n (by omega)
        have h3 := g k n hk (by omega)
        split
        · omega
        · omega
      · show (if f j = m then f n else f j) ≠ (if f k = m then f n else f k)
        have h1 := g j k hj (by omega)
        have h2 := g j n (by omega) (by omega)
        have h3 := g k n hk (by omega)
        split <;> split <;> omega
section PIK
variable {σ s τ t : St} {vs z : List Nat}
theorem sp_pick {a : Int32} {Q : Int32 → St → St → List Nat → Prop} (h : GLI σ τ vs) (k : ∀ r s, GLI s τ vs → (s 0 1) = (σ 0 1) → (s 0 2) = (σ 0 2) → Q r s τ vs) : wp_pick a σ τ vs Q := by
  have h9 := h
  obtain ⟨hN, hE, hA, hO, ⟨⟨p1, p2⟩, p3, p4⟩, hL, hM⟩ := h9
  unfold wp_pick
  refine sp_isObject ⟨no0, fun _ => k _ _ h rfl rfl⟩ (fun c1 c2 => ⟨fun _ => ?_, no1⟩)
  have e0 : (0 : Int32).toInt = 0 := by decide
  refine ⟨fun n x => (n : Int) = (σ 0 67).toInt - x.toInt ∧ 0 ≤ x.toInt ∧ ∀ j : Nat, (j : Int) < x.toInt → (σ 40) j ≠ a, ⟨(σ 0 67).toNatClampNeg, by have := nt p1; omega, by decide, fun j hj => by omega⟩, ?_⟩
  rintro n x ⟨q1, q2, q3⟩
  have nx := nt q2
  refine ⟨fun c => ?_, fun c => ⟨by omega, fun c3 => ?_, fun _ => k _ _ h rfl rfl⟩⟩
  · have np := nt p1
    have no := nt hN.2.1.1
    have h100 := hN.2.1.2
    have lt : (σ 0 67).toInt < (σ 0 35).toInt := by
      have pg := pigeon (σ 0 35).toNatClampNeg ((σ 0 67).toNatClampNeg + 1) (fun j => if j = (σ 0 67).toNatClampNeg then a.toNatClampNeg - 1 else ((σ 40) j).toNatClampNeg - 1) (fun j hj => ?_) (fun i j hi hj => ?_)
      · omega
      · show (if j = (σ 0 67).toNatClampNeg then a.toNatClampNeg - 1 else ((σ 40) j).toNatClampNeg - 1) < _
        by_cases e : j = (σ 0 67).toNatClampNeg
        · rw [if_pos e]
          have := nt (x := a) (by omega)
          omega
        · rw [if_neg e]
          have := p3 j (by omega)
          have := nt (x := (σ 40) j) (by omega)
          omega
      · show (if i = (σ 0 67).toNatClampNeg then a.toNatClampNeg - 1 else ((σ 40) i).toNatClampNeg - 1) ≠ (if j = (σ 0 67).toNatClampNeg then a.toNatClampNeg - 1 else ((σ 40) j).toNatClampNeg - 1)
        rw [if_neg (by omega)]
        have i1 := p3 i (by omega)
        have i2 := nt (x := (σ 40) i) (by omega)
        by_cases e : j = (σ 0 67).toNatClampNeg
        · rw [if_pos e]
          have a2 := nt (x := a) (by omega)
          intro q
          exact q3 i (by omega) (ieq (by omega))
        · rw [if_neg e]
          have j1 := p3 j (by omega)
          have j2 := nt (x := (σ 40) j) (by omega)
          intro q
          exact p4 i j hi (by omega) (ieq (by omega))
    refine ⟨by omega, ?_⟩
    have e1 := ad1 (x := (σ 0 67)) (by omega)
    generalize hS : (upC (upC σ 40 (σ 0 67).toNatClampNeg a) 0 67 ((σ 0 67) + (1 : Int32))) = S
    have x40 : ∀ j, (S 40) j = if j = (σ 0 67).toNatClampNeg then a else (σ 40) j := fun j => by
      rw [← hS]; simp only [rdC, Nat.reduceEqDiff, if_true, if_false]
    have x67 : (S 0 67).toInt = (σ 0 67).toInt + 1 := by rw [← hS]; exact e1
    have x : ∀ j, j ≠ 67 → S 0 j = σ 0 j := fun j q => by
      rw [← hS]; simp only [rdC, Nat.reduceEqDiff, if_true, if_false, if_neg q]
    have xa : ∀ c, c ≠ 0 → c ≠ 40 → S c = σ c := fun c q1 q2 => funext (fun j => by
      rw [← hS]; simp only [rdC, if_neg q1, if_neg q2])
    clear hS
    refine k _ S ?_ (x 1 (by decide)) (x 2 (by decide))
    refine ⟨?_, ?_, ?_, fun o ho => ?_, ⟨by omega, fun j hj => ?_, fun i j hi hj => ?_⟩, ?_, ?_⟩
    · unfold NUG
      rw [x 1 (by decide), x 2 (by decide), x 35 (by decide), x 31 (by decide), x 17 (by decide), x 39 (by decide), x 45 (by decide)]
      exact hN
    · unfold ENG
      rw [x 36 (by decide), x 39 (by decide), x 35 (by decide), xa 22 (by decide) (by decide), xa 24 (by decide) (by decide)]
      exact hE
    · unfold ARG NMo VTy
      rw [xa 3 (by decide) (by decide), xa 4 (by decide) (by decide), xa 34 (by decide) (by decide), xa 35 (by decide) (by decide), xa 21 (by decide) (by decide), xa 15 (by decide) (by decide), xa 18 (by decide) (by decide), xa 19 (by decide) (by decide), xa 31 (by decide) (by decide), xa 10 (by decide) (by decide), xa 9 (by decide) (by decide), xa 17 (by decide) (by decide), xa 16 (by decide) (by decide), xa 32 (by decide) (by decide)]
      exact hA
    · rw [x 35 (by decide)] at ho
      exact obj_old ⟨fun o _ => ⟨by rw [xa 22 (by decide) (by decide)], by rw [xa 24 (by decide) (by decide)]⟩, fun o _ => by rw [xa 23 (by decide) (by decide)], fun e _ => ⟨by rw [xa 9 (by decide) (by decide)], by rw [xa 10 (by decide) (by decide)], by rw [xa 15 (by decide) (by decide)], by rw [xa 12 (by decide) (by decide)], fun q => by rw [xa 14 (by decide) (by decide)]; exact q, by rw [xa 13 (by decide) (by decide)], by rw [xa 17 (by decide) (by decide)]⟩, ⟨fun j _ => by rw [xa 8 (by decide) (by decide)], fun b _ => ⟨by rw [xa 26 (by decide) (by decide)], by rw [xa 27 (by decide) (by decide)], by rw [xa 28 (by decide) (by decide)], by rw [xa 29 (by decide) (by decide)], by rw [xa 30 (by decide) (by decide)], by rw [xa 54 (by decide) (by decide)]⟩, fun j _ => by rw [xa 25 (by decide) (by decide)]⟩, by rw [x 17 (by decide)]; exact Int.le_refl _, by rw [x 45 (by decide)]; exact Int.le_refl _, by rw [x 35 (by decide)]; exact Int.le_refl _⟩ hE hO ho
    · rw [x40, x 35 (by decide)]
      by_cases e : j = (σ 0 67).toNatClampNeg
      · rw [if_pos e]; exact ⟨c1, c2⟩
      · rw [if_neg e]; exact p3 j (by omega)
    · rw [x40, x40, if_neg (by omega)]
      by_cases e : j = (σ 0 67).toNatClampNeg
      · rw [if_pos e]
        exact q3 i (by omega)
      · rw [if_neg e]
        exact p4 i j hi (by omega)
    · exact lnk_old ⟨fun o _ => ⟨by rw [xa 22 (by decide) (by decide)], by rw [xa 24 (by decide) (by decide)]⟩, fun o _ => by rw [xa 23 (by decide) (by decide)], fun e _ => ⟨by rw [xa 9 (by decide) (by decide)], by rw [xa 10 (by decide) (by decide)], by rw [xa 15 (by decide) (by decide)], by rw [xa 12 (by decide) (by decide)], fun q => by rw [xa 14 (by decide) (by decide)]; exact q, by rw [xa 13 (by decide) (by decide)], by rw [xa 17 (by decide) (by decide)]⟩, ⟨fun j _ => by rw [xa 8 (by decide) (by decide)], fun b _ => ⟨by rw [xa 26 (by decide) (by decide)], by rw [xa 27 (by decide) (by decide)], by rw [xa 28 (by decide) (by decide)], by rw [xa 29 (by decide) (by decide)], by rw [xa 30 (by decide) (by decide)], by rw [xa 54 (by decide) (by decide)]⟩, fun j _ => by rw [xa 25 (by decide) (by decide)]⟩, by rw [x 17 (by decide)]; exact Int.le_refl _, by rw [x 45 (by decide)]; exact Int.le_refl _, by rw [x 35 (by decide)]; exact Int.le_refl _⟩ ⟨xa 43 (by decide) (by decide), xa 41 (by decide) (by decide), x 70 (by decide), x 78 (by decide)⟩ hE hO hL
    · unfold MIS
      rw [x 88 (by decide), x 91 (by decide)]
      exact hM
  · have e1 := ad1 (x := x) (by omega)
    refine ⟨n - 1, by omega, by omega, by omega, fun j hj => ?_⟩
    by_cases e : j = x.toNatClampNeg
    · rw [e]
      exact fun q => c3 (by rw [q])
    · exact q3 j (by omega)
end PIK
