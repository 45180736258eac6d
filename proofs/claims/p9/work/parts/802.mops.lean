/-! the machine: what an operation does to the top of the stack -/
abbrev KPE (a b : St) : Prop := Kp [(12, 9), (11, 1), (11, 2)] [60, 61, 62, 63] a b
def PE (σ s : St) (d : Int) : Prop := KPE σ s ∧ (s 12 9).toInt = (σ 12 9).toInt + d
abbrev KFE (a b : St) : Prop := Kp [(12, 9), (12, 13), (12, 16), (12, 17), (12, 15), (11, 1), (11, 2)] [60, 61, 62, 63] a b
/-- it ended -/
def FE (σ s : St) : Prop := KFE σ s ∧ (s 12 13).toInt ≠ -1
def TB (σ : St) : Prop := 0 ≤ (σ 12 9).toInt ∧ (σ 12 9).toInt ≤ 200000
section MOP
variable {σ s t : St} {a b : Int32}
theorem pe_tr {d d' : Int} (h : PE σ s d) (g : PE s t d') : PE σ t (d + d') := ⟨kp_tr h.1 g.1, by rw [g.2, h.2]; omega⟩
theorem fe_pe {d : Int} (h : PE σ s d) (g : FE s t) : FE σ t := ⟨kp_tr (kp_sub h.1 rfl rfl) g.1, g.2⟩
theorem sk_push {Q : St → Prop} (h : TB σ) (k : ∀ s, PE σ s 1 → Q s) : wk_X5_push a σ Q :=
  k _ ⟨kp_f (kp_F kp_rf rfl) rfl, by rw [rdA_eq rfl]; have := h.2; exact ad1 (by omega)⟩
theorem sk_pop {Q : Int32 → St → Prop} (h : TB σ) (k : ∀ v s, PE σ s (-1) → Q v s) : wk_X5_pop σ Q :=
  k _ _ ⟨kp_f kp_rf rfl, by rw [rdA_eq rfl, sb1 (by have := h.1; omega)]; omega⟩
theorem sp_peeked {Q : Int32 → Prop} (k : ∀ v, Q v) : wk_X5_peeked σ Q := k _
theorem sp_mfail {Q : St → Prop} (ha : a.toInt ≠ -1) (k : ∀ s, FE σ s → Q s) : wk_X5_fail a b σ Q :=
  k _ ⟨kp_f (kp_f (kp_f kp_rf rfl) rfl) rfl, ha⟩
theorem tb_F {p : Nat} {f : Nat → Int32} (hp : p ≠ 12) (h : TB σ) : TB (upF σ p f) := by
  unfold TB
  rw [rdF_ne (Ne.symm hp)]
  exact h
theorem pe_F {p : Nat} {f : Nat → Int32} {d : Int} (hp : [60, 61, 62, 63].contains p = true) (h : PE (upF σ p f) s d) : PE σ s d := by
  have h12 : (12 : Nat) ≠ p := fun e => by
    subst e
    exact absurd hp (by decide)
  refine ⟨kp_tr (kp_F kp_rf hp) h.1, ?_⟩
  rw [h.2, rdF_ne h12]
theorem pe_0 {p : Nat} {f : Nat → Int32} {d : Int} (hp : [60, 61, 62, 63].contains p = true) (h : PE σ s d) : PE σ (upF s p f) d := by
  have h12 : (12 : Nat) ≠ p := fun e => by
    subst e
    exact absurd hp (by decide)
  refine ⟨kp_F h.1 hp, ?_⟩
  rw [rdF_ne h12]
  exact h.2
theorem pe_rf : PE σ σ 0 := ⟨kp_rf, by omega⟩
theorem sp_step62 {Q : St → Prop} (h : TB σ) (k : ∀ s, PE σ s 1 → Q s) : wk_X5_stepped_r62 a b σ Q := by
  unfold wk_X5_stepped_r62
  exact sk_push (tb_F (by decide) h) (fun s hs => k s (pe_F rfl hs))
theorem sp_step63 {Q : St → Prop} (h : TB σ) (k : ∀ s, PE σ s 1 → Q s) : wk_X5_stepped_r63 a b σ Q := by
  unfold wk_X5_stepped_r63
  exact sk_push (tb_F (by decide) h) (fun s hs => k s (pe_F rfl hs))
theorem sp_inverted {Q : Int32 → Prop} (k : ∀ v, Q v) : wk_X5_inverted a b σ Q :=
  ⟨fun _ => k _, fun _ => ⟨fun _ => k _, fun _ => ⟨fun _ => ⟨fun _ => k _, fun _ => k _⟩, fun _ => ⟨fun _ => k _, fun _ => k _⟩⟩⟩⟩
theorem sk_compared {c : Int32} {Q : Int32 → Prop} (k : ∀ v, Q v) : wk_X5_compared c a b σ Q := by
  unfold wk_X5_compared
  repeat' (first | exact k _ | apply And.intro | intro _)
theorem int_nz {x : Int32} (h : x.toInt ≠ 0) : ¬ x = 0 := fun e => h (by rw [e]; decide)
theorem sk_worked {c : Int32} {Q : Int32 → Prop} (k : ∀ v, Q v) : wk_X5_worked c a b σ Q := by
  unfold wk_X5_worked
  repeat' (first | exact k _ | exact int_nz (by assumption) | exact sk_compared (fun v => ⟨fun _ => k _, fun _ => k _⟩) | apply And.intro | intro _)
theorem sk_isCell {Q : Int32 → Prop} (k : ∀ v, Q v) : wk_X5_isCell a σ Q :=
  ⟨fun _ => k _, fun _ => ⟨fun _ => k _, fun _ => k _⟩⟩
theorem tb_pe {d : Int} (h : PE σ s d) (h0 : 0 ≤ (σ 12 9).toInt + d) (h1 : (σ 12 9).toInt + d ≤ 200000) : TB s := ⟨by rw [h.2]; exact h0, by rw [h.2]; exact h1⟩
theorem sp_calculate {Q : St → Prop} (h : 2 ≤ (σ 12 9).toInt ∧ (σ 12 9).toInt ≤ 150000) (k : ∀ s, PE σ s (-1) ∨ FE σ s → Q s) : wk_X5_calculate a b σ Q := by
  unfold wk_X5_calculate
  refine sk_pop ⟨by omega, by omega⟩ (fun v s hs => sk_pop (tb_pe hs (by omega) (by omega)) (fun v2 s2 hs2 => ?_))
  have h2 := pe_tr hs hs2
  have fl : wk_X5_fail (1 : Int32) (atv 262208 (s2 24) (b + (1 : Int32))) s2 (fun s39 => Q s39) := sp_mfail (by decide) (fun s3 hs3 => k s3 (Or.inr (fe_pe h2 hs3)))
  have go : wk_X5_worked a v2 v s2 (fun v50 => wk_X5_push v50 s2 (fun s53 => Q s53)) := sk_worked (fun v3 => sk_push (tb_pe h2 (by omega) (by omega)) (fun s3 hs3 => k s3 (Or.inl (pe_tr h2 hs3))))
  exact ⟨True, fun _ => go, True, fun _ => ⟨fun _ => trivial, fun _ => fl⟩, fun _ => trivial, fun _ => ⟨fun _ => trivial, fun _ => trivial⟩⟩
theorem sk_plain {n : Nat} {Q : St → Prop} (h : 1 ≤ (σ 12 9).toInt ∧ (σ 12 9).toInt ≤ 150000) (hn : a.toInt = n) (h1 : 1 ≤ n) (h2 : n ≤ 10) (k : ∀ s, PE σ s (de n) → Q s) : wk_X5_plain a b σ Q := by
  have hT : TB σ := ⟨by omega, by omega⟩
  have g : ∀ m : Nat, a.toInt = (m : Int) → n = m := fun m e => by omega
  unfold wk_X5_plain
  refine ⟨fun c => ?_, fun c1 => ⟨fun c => ?_, fun c2 => ⟨fun c => ?_, fun c3 => ⟨fun c => ?_, fun c4 => ⟨fun c => ?_, fun c5 => ⟨fun c => ?_, fun c6 => ⟨fun c => ?_, fun c7 => ⟨fun c => ?_, fun c8 => ⟨fun c => ?_, fun c9 => ?_⟩⟩⟩⟩⟩⟩⟩⟩⟩
  · cases g 1 c; exact sk_push hT (fun s hs => k s hs)
  · cases g 2 c; exact sk_pop hT (fun v s hs => k s hs)
  · cases g 3 c; exact sk_push hT (fun s hs => k s hs)
  · cases g 4 c; exact sk_push hT (fun s hs => k s hs)
  · cases g 5 c; exact sk_push hT (fun s hs => k s hs)
  · cases g 6 c; exact k _ (pe_0 rfl pe_rf)
  · cases g 7 c; exact sp_step62 hT (fun s hs => k s hs)
  · cases g 8 c; exact sk_push hT (fun s hs => k s hs)
  · cases g 9 c; exact k _ (pe_0 rfl pe_rf)
  · cases g 10 (by omega); exact sp_step63 hT (fun s hs => k s hs)
theorem sp_inFrame {n : Nat} {Q : St → Prop} (h : 1 ≤ (σ 12 9).toInt ∧ (σ 12 9).toInt ≤ 150000) (hn : a.toInt = n) (h1 : 11 ≤ n) (h2 : n ≤ 17) (k : ∀ s, PE σ s (de n) → Q s) : wk_X5_inFrame a b σ Q := by
  have hT : TB σ := ⟨by omega, by omega⟩
  have g : ∀ m : Nat, a.toInt = (m : Int) → n = m := fun m e => by omega
  unfold wk_X5_inFrame
  refine ⟨fun c => ?_, fun c1 => ⟨fun c => ?_, fun c2 => ⟨fun c => ?_, fun c3 => ⟨fun c => ?_, fun c4 => ⟨fun c => ?_, fun c5 => ⟨fun c => ?_, fun c6 => ?_⟩⟩⟩⟩⟩⟩
  · cases g 11 c; exact sk_push hT (fun s hs => k s hs)
  · cases g 12 c; exact k _ (pe_0 rfl pe_rf)
  · cases g 13 c; exact sp_step62 hT (fun s hs => k s hs)
  · cases g 14 c; exact sk_push hT (fun s hs => k s hs)
  · cases g 15 c
    refine ⟨fun n x s => (x.toInt = 32768 - (n : Int) ∧ 0 ≤ x.toInt) ∧ PE σ s 0, ⟨32768, by decide, pe_rf⟩, ?_⟩
    rintro m x s ⟨⟨q1, q2⟩, hs⟩
    refine ⟨fun _ => k s hs, fun _ => ⟨fun _ => k s hs, fun c => ⟨m - 1, by omega, ?_, pe_0 rfl hs⟩⟩⟩
    have e := ad1 (x := x) (by omega)
    exact ⟨by rw [e]; omega, by omega⟩
  · cases g 16 c; exact sk_pop hT (fun v s hs => k _ (pe_0 rfl hs))
  · cases g 17 (by omega); exact k _ (pe_0 rfl pe_rf)
theorem sp_reach {n : Nat} {Q : St → Prop} (h : 2 ≤ (σ 12 9).toInt ∧ (σ 12 9).toInt ≤ 150000) (hn : a.toInt = n) (h1 : 18 ≤ n) (h2 : n ≤ 21) (k : ∀ s, PE σ s (de n) ∨ FE σ s → Q s) : wk_X5_reach a b σ Q := by
  have hT : TB σ := ⟨by omega, by omega⟩
  have g : ∀ m : Nat, a.toInt = (m : Int) → n = m := fun m e => by omega
  unfold wk_X5_reach
  refine ⟨fun _ s => PE σ s (if n = 19 then -1 else 0), ?_, fun c => by rw [if_neg (by omega)]; exact pe_rf, fun c => sk_pop hT (fun v s hs => by rw [if_pos (by omega)]; exact hs)⟩
  intro y s hs
  have hs2 := hs.2
  have hT2 : TB s := ⟨by rw [hs2]; split <;> omega, by rw [hs2]; split <;> omega⟩
  refine sk_pop hT2 (fun v s3 hs3 => sk_isCell (fun v2 => ⟨fun _ => ⟨fun c1 => ⟨fun c2 => ⟨fun c3 => ?_, fun c => ?_⟩, fun c => ?_⟩, fun c => ?_⟩, fun _ => ?_⟩))
  all_goals have h3 := pe_tr hs hs3
  · cases g 21 (by omega)
    rw [if_neg (by decide)] at h3
    have h3' := h3.2
    refine sk_push (tb_pe h3 (by omega) (by omega)) (fun s4 hs4 => ?_)
    have h4 := pe_tr h3 hs4
    exact sk_push (tb_pe h4 (by omega) (by omega)) (fun s5 hs5 => k s5 (Or.inl (pe_tr h4 hs5)))
  · cases g 20 c
    rw [if_neg (by decide)] at h3
    exact sp_step62 (tb_pe h3 (by omega) (by omega)) (fun s4 hs4 => k s4 (Or.inl (pe_tr h3 hs4)))
  · cases g 19 c
    rw [if_pos rfl] at h3
    exact sk_push (tb_F (by decide) (tb_pe h3 (by omega) (by omega))) (fun s4 hs4 => k s4 (Or.inl (pe_tr h3 (pe_F rfl hs4))))
  · cases g 18 c
    rw [if_neg (by decide)] at h3
    exact sk_push (tb_pe h3 (by omega) (by omega)) (fun s4 hs4 => k s4 (Or.inl (pe_tr h3 hs4)))
  · exact sp_mfail (by decide) (fun s4 hs4 => k s4 (Or.inr (fe_pe h3 hs4)))
theorem pe_A {p : Nat} {v : Int32} {d : Int} (hp : p = 1 ∨ p = 2) (h : PE σ s d) : PE σ (upC s 11 p v) d := by
  refine ⟨?_, h.2⟩
  rcases hp with e | e <;> subst e <;> exact kp_f h.1 rfl
theorem sp_next {Q : Int32 → St → Prop} (k : ∀ v s, PE σ s 0 → Q v s) : wk_X9_next σ Q := by
  unfold wk_X9_next
  refine ⟨fun _ => k _ _ pe_rf, fun c => ⟨fun _ => k _ _ pe_rf, fun c2 => ⟨fun c3 => ⟨?_, k _ _ (pe_A (Or.inl rfl) pe_rf)⟩, fun _ => k _ _ pe_rf⟩⟩⟩
  have e := ad1 (x := (σ 11 1)) (by omega)
  have e2 := sb1 (x := (σ 11 1) + (1 : Int32)) (by omega)
  exact ⟨by omega, by omega⟩
theorem sp_tput {Q : Int32 → St → Prop} (k : ∀ v s, PE σ s 0 → (v = 0 ∨ v = 1) → Q v s) : wk_X9_put a σ Q := by
  unfold wk_X9_put
  refine ⟨fun _ => k _ _ pe_rf (Or.inl rfl), fun c => ⟨fun c2 => ⟨⟨c, c2⟩, k _ _ (pe_A (Or.inr rfl) ⟨kp_a kp_rf rfl, ?_⟩) (Or.inr rfl)⟩, fun _ => k _ _ pe_rf (Or.inl rfl)⟩⟩
  rw [rdC_ne (by decide)]
  omega
theorem sp_tprint {Q : Int32 → St → Prop} (k : ∀ v s, PE σ s 0 → (v = 0 ∨ v = 1) → Q v s) : wk_X9_print a σ Q := by
  unfold wk_X9_print
  refine ⟨fun n _ x => x.toInt = 10 - (n : Int) ∧ 0 ≤ x.toInt, ⟨10, by decide⟩, ?_⟩
  rintro n12 x4 x6 ⟨q1, q2⟩
  refine ⟨True, fun _ => ?_, fun _ => trivial, fun c => ⟨fun _ => trivial, fun _ => ⟨n12 - 1, by omega, ?_⟩⟩⟩
  · refine ⟨fun _ s => PE σ s 0, ?_, fun s => PE σ s 0, fun s hs => hs, fun _ => pe_rf, fun _ => sp_tput (fun v s hs _ => ⟨fun _ => hs, fun _ => hs⟩)⟩
    intro y s hz hs
    refine ⟨fun n x _ s => n = ldn x ∧ PE σ s 0, ⟨_, rfl, hs⟩, ?_⟩
    rintro n x y2 s2 hz2 ⟨r1, hs2⟩
    refine ⟨fun _ => k _ s2 hs2 hz2, fun c => ⟨fun _ => k _ s2 hs2 hz2, fun _ => ⟨lne_of c, sp_tput (fun v s3 hs3 _ => ⟨ldn (x / 10), by rw [r1]; exact ldn_lt c, rfl, pe_tr hs2 hs3⟩)⟩⟩⟩
  · have e := ad1 (x := x6) (by omega)
    exact ⟨by rw [e]; omega, by omega⟩
theorem sp_useLibrary {Q : St → Prop} (h : 1 ≤ (σ 12 9).toInt ∧ (σ 12 9).toInt ≤ 150000) (k : ∀ s, PE σ s (if a.toInt = 0 then 1 else 0) ∨ FE σ s → Q s) : wk_X5_useLibrary a b σ Q := by
  have hT : TB σ := ⟨by omega, by omega⟩
  unfold wk_X5_useLibrary
  refine ⟨fun _ s => PE σ s (if a.toInt = 0 then 0 else -1), ?_, fun c => sk_pop hT (fun v s hs => by rw [if_neg c]; exact hs), fun c => by rw [if_pos c]; exact pe_rf⟩
  intro y s hs
  refine ⟨fun _ s => PE σ s (if a.toInt = 0 then 0 else -1), ?_, fun _ => hs, fun _ => sp_next (fun v s2 hs2 => by have := pe_tr hs hs2; rw [Int.add_zero] at this; exact this)⟩
  intro y1 s2 hs2
  refine sk_push (by have e := hs2.2; exact ⟨by rw [e]; split <;> omega, by rw [e]; split <;> omega⟩) (fun s3 hs3 => ?_)
  have h3 : PE σ s3 (if a.toInt = 0 then 1 else 0) := by
    have := pe_tr hs2 hs3
    by_cases c : a.toInt = 0
    · rw [if_pos c] at this ⊢; exact this
    · rw [if_neg c] at this ⊢; exact this
  refine ⟨fun s => PE σ s (if a.toInt = 0 then 1 else 0), fun s4 hs4 => sp_mfail (by decide) (fun s5 hs5 => k s5 (Or.inr (fe_pe hs4 hs5))), fun s => PE σ s (if a.toInt = 0 then 1 else 0), ?_, fun _ => h3, fun _ => sp_tput (fun v s4 hs4 _ => ?_)⟩
  · intro s4 hs4
    refine ⟨fun s => PE σ s (if a.toInt = 0 then 1 else 0), fun s5 hs5 => ⟨fun _ => k s5 (Or.inl hs5), fun _ => k _ (Or.inr ⟨kp_f (kp_f (kp_sub hs5.1 rfl rfl) rfl) rfl, by show (5 : Int32).toInt ≠ -1; decide⟩)⟩, fun _ => hs4, fun _ => sp_tprint (fun v s5 hs5 _ => ?_)⟩
    have := pe_tr hs4 hs5
    rw [Int.add_zero] at this
    exact ⟨fun _ => this, fun _ => this⟩
  · have := pe_tr h3 hs4
    rw [Int.add_zero] at this
    exact ⟨fun _ => this, fun _ => this⟩
theorem sp_mturn {Q : Int32 → St → Prop} (k1 : (σ 12 14).toInt < (σ 12 12).toInt → Q 1 (upC σ 12 14 ((σ 12 14) + (1 : Int32)))) (k0 : ∀ s, FE σ s → Q 0 s) : wk_X5_turn a σ Q :=
  ⟨k1, fun _ => sp_mfail (by decide) (fun s hs => k0 s hs)⟩
theorem sp_copyParameters {Q : St → Prop} (hb : a.toInt ≤ 8) (k : ∀ s, PE σ s 0 → Q s) : wk_X5_copyParameters a b σ Q := by
  unfold wk_X5_copyParameters
  refine ⟨fun n _ x s => (x.toInt = 8 - (n : Int) ∧ 0 ≤ x.toInt) ∧ PE σ s 0, ⟨8, by decide, pe_rf⟩, ?_⟩
  rintro n x3 x4 s ⟨⟨q1, q2⟩, hs⟩
  refine ⟨fun _ => k s hs, fun c => ?_⟩
  have e := ad1 (x := x4) (by omega)
  refine ⟨fun _ s => PE σ s 0, fun y s2 hs2 => ⟨n - 1, by omega, ⟨by rw [e]; omega, by omega⟩, hs2⟩, fun _ => hs, fun _ => pe_0 rfl hs⟩
end MOP
