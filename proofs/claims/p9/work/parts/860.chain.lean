/-! chains of jumps, each of which holds the one before it -/
def CHW (w : Nat → Int32) : Int32 → List Nat → Prop
  | c, [] => c.toInt < 0
  | c, p :: l => c.toInt = p ∧ CHW w (w (p + 1)) l ∧ ∀ q ∈ l, q + 2 ≤ p
def pat (w : Nat → Int32) (l : List Nat) (v : Int32) (i : Nat) : Int32 := if ∃ p, p ∈ l ∧ i = p + 1 then v else w i
section CHN
variable {σ s t : St} {g g' : Gh} {CP : Int → Nat → Prop} {X : Nat → Prop} {w w' : Nat → Int32} {b e H L : Nat} {x y v : Int32} {l : List Nat}
theorem pat_nil : pat w [] v = w := funext (fun i => if_neg (fun ⟨p, h, _⟩ => by cases h))
theorem pat_in {p : Nat} (h : p ∈ l) : pat w l v (p + 1) = v := if_pos ⟨p, h, rfl⟩
theorem pat_out {i : Nat} (h : ∀ p, p ∈ l → i ≠ p + 1) : pat w l v i = w i := if_neg (fun ⟨p, h1, h2⟩ => h p h1 h2)
theorem chw_len : ∀ (l : List Nat) (c : Int32) (e : Nat), CHW w c l → (∀ p ∈ l, p + 2 ≤ e) → l.length ≤ e
  | [], c, e => fun _ _ => Nat.zero_le _
  | p :: l, c, e => fun h he => by
    obtain ⟨h1, h2, h3⟩ := h
    have := chw_len l _ p h2 h3
    have := he p (List.mem_cons_self)
    show l.length + 1 ≤ e
    omega
theorem chw_mono : ∀ (l : List Nat) (c : Int32), (∀ p ∈ l, w' (p + 1) = w (p + 1)) → CHW w c l → CHW w' c l
  | [], c => fun _ h => h
  | p :: l, c => fun e h => by
    obtain ⟨h1, h2, h3⟩ := h
    refine ⟨h1, ?_, h3⟩
    rw [e p List.mem_cons_self]
    exact chw_mono l _ (fun q hq => e q (List.mem_cons_of_mem _ hq)) h2
/-- a chain is aimed -/
theorem sp_aimN {Q : St → Prop} (hc : CHW (σ 24) x l) (hl : ∀ p ∈ l, p + 2 ≤ clen σ) (h0 : 0 ≤ (σ 4 1).toInt) (h1 : (σ 4 1).toInt ≤ 262200) (k : Q (upF σ 24 (pat (σ 24) l y))) : wk_X0_aim x y σ Q := by
  have en := clen_eq h0
  have ll := chw_len l x (clen σ) hc hl
  unfold wk_X0_aim
  refine ⟨fun n x3 x4 s => ∃ l1 l2, (∀ p, p ∈ l ↔ p ∈ l1 ∨ p ∈ l2) ∧ n = l2.length ∧ CHW (σ 24) x3 l2 ∧ (∀ p ∈ l2, p + 2 ≤ clen σ) ∧ (∀ q ∈ l1, ∀ p ∈ l2, p + 2 ≤ q) ∧ (l2.length : Int) ≤ x4.toInt ∧ s = upF σ 24 (pat (σ 24) l1 y), ⟨l.length, [], l, fun p => ⟨Or.inr, fun h => h.elim (fun h => by cases h) id⟩, rfl, hc, hl, fun q hq => (by cases hq), by omega, ?_⟩, ?_⟩
  · rw [pat_nil]
    exact upF_id.symm
  · rintro n x3 x4 s ⟨l1, l2, hm, hn, h3, h4, h5, h6, rfl⟩
    have fin : l2 = [] → Q (upF σ 24 (pat (σ 24) l1 y)) := fun e => by
      have : pat (σ 24) l1 y = pat (σ 24) l y := funext (fun i => by
        have ee : (∃ p, p ∈ l1 ∧ i = p + 1) ↔ (∃ p, p ∈ l ∧ i = p + 1) := ⟨fun ⟨p, a, c⟩ => ⟨p, (hm p).mpr (Or.inl a), c⟩, fun ⟨p, a, c⟩ => ⟨p, ((hm p).mp a).elim id (fun z => by rw [e] at z; cases z), c⟩⟩
        unfold pat
        by_cases c : ∃ p, p ∈ l1 ∧ i = p + 1
        · rw [if_pos c, if_pos (ee.mp c)]
        · rw [if_neg c, if_neg (fun z => c (ee.mpr z))])
      rw [this]
      exact k
    match l2, hm, hn, h3, h4, h5, h6, fin with
    | [], hm, hn, h3, h4, h5, h6, fin => exact ⟨fun _ => fin rfl, fun _ => ⟨fun _ => fin rfl, fun c => absurd h3 (by show ¬ x3.toInt < 0; omega)⟩⟩
    | p :: l3, hm, hn, ⟨a1, a2, a3⟩, h4, h5, h6, fin =>
      have hp := h4 p List.mem_cons_self
      have el : ((p :: l3).length : Int) = l3.length + 1 := rfl
      have e1 : (x3 + (1 : Int32)).toInt = ((p + 1 : Nat) : Int) := by rw [ad0 i1 (by omega) (by omega)]; omega
      refine ⟨fun c => by omega, fun c => ⟨fun c2 => by omega, fun _ => ⟨l3.length, ?_, l1 ++ [p], l3, ?_, rfl, ?_, fun q hq => h4 q (List.mem_cons_of_mem _ hq), ?_, ?_, ?_⟩⟩⟩
      · rw [hn]
        show l3.length < l3.length + 1
        omega
      · intro q
        rw [hm q, List.mem_append, List.mem_singleton, List.mem_cons]
        constructor
        · rintro (h | h | h)
          · exact Or.inl (Or.inl h)
          · exact Or.inl (Or.inr h)
          · exact Or.inr h
        · rintro ((h | h) | h)
          · exact Or.inl h
          · exact Or.inr (Or.inl h)
          · exact Or.inr (Or.inr h)
      · have er : atv 262208 ((upF σ 24 (pat (σ 24) l1 y)) 24) (x3 + (1 : Int32)) = (σ 24) (p + 1) := by
          rw [rdF_eq, atv_at e1 (by omega)]
          exact pat_out (fun q hq => by have := h5 q hq p List.mem_cons_self; omega)
        rw [er]
        exact a2
      · intro q hq r hr
        rw [List.mem_append, List.mem_singleton] at hq
        rcases hq with hq | hq
        · exact h5 q hq r (List.mem_cons_of_mem _ hr)
        · subst hq
          exact a3 r hr
      · rw [dc1 (by omega)]
        omega
      · have es : setv 262208 ((upF σ 24 (pat (σ 24) l1 y)) 24) (x3 + (1 : Int32)) y = pat (σ 24) (l1 ++ [p]) y := by
          rw [rdF_eq, setv_at e1 (by omega)]
          funext i
          show (if i = p + 1 then y else pat (σ 24) l1 y i) = _
          by_cases c1 : i = p + 1
          · rw [if_pos c1, c1]
            exact (pat_in (by rw [List.mem_append, List.mem_singleton]; exact Or.inr rfl)).symm
          · rw [if_neg c1]
            have ee : (∃ q, q ∈ l1 ∧ i = q + 1) ↔ (∃ q, q ∈ l1 ++ [p] ∧ i = q + 1) := ⟨fun ⟨q, a, c⟩ => ⟨q, by rw [List.mem_append]; exact Or.inl a, c⟩, fun ⟨q, a, c⟩ => ⟨q, by
              rw [List.mem_append, List.mem_singleton] at a
              rcases a with a | a
              · exact a
              · rw [a] at c
                exact absurd c c1, c⟩⟩
            unfold pat
            by_cases c : ∃ q, q ∈ l1 ∧ i = q + 1
            · rw [if_pos c, if_pos (ee.mp c)]
            · rw [if_neg c, if_neg (fun z => c (ee.mpr z))]
        rw [es]
        unfold upF
        funext q
        by_cases c : q = 24
        · rw [if_pos c, if_pos c]
        · rw [if_neg c, if_neg c, if_neg c]
/-- a jump that waits for an aim at t, where nothing is on the stack -/
def PJ (w : Nat → Int32) (g : Gh) (e p t : Nat) : Prop := ∃ n k : Nat, (w p).toInt = n ∧ (n = 26 ∨ n = 27) ∧ g p = some (if n = 26 then 0 else 1, k) ∧ p + 2 ≤ e ∧ Jn g k p t 0
theorem typ_aimN {tt : Nat} (hv : v.toInt = tt) (hte : tt ≤ e) : ∀ (l : List Nat) (w : Nat → Int32) (X : Nat → Prop), (∀ p ∈ l, PJ w g e p tt) → TYp w g CP X b e H L → TYp (pat w l v) g CP (fun q => X q ∧ ¬ q ∈ l) b e H L
  | [], w, X => fun _ T => by
    rw [pat_nil]
    exact typ_mono (fun _ _ => rfl) agr_rf (fun _ _ h => h) (fun q hq => ⟨hq, fun h => by cases h⟩) T
  | p :: l, w, X => fun hp T => by
    have ih := typ_aimN hv hte l w X (fun q hq => hp q (List.mem_cons_of_mem _ hq)) T
    obtain ⟨n, k, a1, a2, a3, a4, a5⟩ := hp p List.mem_cons_self
    have Tb := T
    have n26 : 26 ≤ n ∧ n ≤ 30 := by omega
    -- no jump of the list stands in another
    have np : ∀ q, q ∈ l → p ≠ q + 1 := fun q hq e2 => by
      obtain ⟨n2, k2, b1, b2, b3, b4, b5⟩ := hp q (List.mem_cons_of_mem _ hq)
      obtain ⟨-, m, d1, d2, d3, d4⟩ := Tb.2.2.2 q _ _ b3 (by omega)
      have em : m = n2 := by omega
      subst em
      have l2 : ln m = 2 := by rcases b2 with c | c <;> subst c <;> rfl
      have := d4 p (by omega) (by omega)
      rw [rs_le (by omega), a3] at this
      cases this
    have wp : pat w l v p = w p := pat_out np
    have e2 : pat w (p :: l) v = fun i => if i = p + 1 then v else pat w l v i := funext (fun i => by
      by_cases c : i = p + 1
      · rw [if_pos c, c]
        exact pat_in List.mem_cons_self
      · rw [if_neg c]
        have ee : (∃ q, q ∈ l ∧ i = q + 1) ↔ (∃ q, q ∈ p :: l ∧ i = q + 1) := ⟨fun ⟨q, a, c⟩ => ⟨q, List.mem_cons_of_mem _ a, c⟩, fun ⟨q, a, c2⟩ => ⟨q, (List.mem_cons.mp a).elim (fun z => absurd (by rw [z] at c2; exact c2) c) id, c2⟩⟩
        unfold pat
        by_cases c3 : ∃ q, q ∈ l ∧ i = q + 1
        · rw [if_pos c3, if_pos (ee.mp c3)]
        · rw [if_neg c3, if_neg (fun z => c3 (ee.mpr z))])
    refine typ_aim (w := pat w l v) (X := fun q => X q ∧ ¬ q ∈ p :: l) (p := p) (t := tt) (n := n) (h0 := if n = 26 then 0 else 1) (k0 := k) (ht := 0) (v := v) (typ_mono (fun _ _ => rfl) agr_rf (fun _ _ h => h) (fun q hq => ?_) ih) a3 a4 (by rw [wp]; exact a1) n26 (fun i hi => by rw [e2]; exact if_neg hi) (by rw [e2]; exact if_pos rfl) hv hte a5 ⟨fun c => ?_, fun c => ?_⟩
    · by_cases c : q = p
      · exact Or.inr c
      · exact Or.inl ⟨hq.1, fun z => (List.mem_cons.mp z).elim c hq.2⟩
    · rcases a2 with e | e
      · rw [if_pos e]
      · omega
    · rcases a2 with e | e
      · omega
      · rw [if_neg (by omega)]
end CHN
