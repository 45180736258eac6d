/-! how many initials stand in { }: counted ahead -/
def opq (k : Int) : Int := if k = 20 ∨ k = 22 ∨ k = 24 then 1 else if k = 21 ∨ k = 23 ∨ k = 25 then -1 else 0
def tdn (kd : Nat → Int) : Nat → Nat → Int → Int → Option Int
  | 0, _, _, _ => none
  | f + 1, p, n, o => if kd p = 0 ∨ kd p = 1 then some n else if o + opq (kd p) = 0 then some n else tdn kd f (p + 1) (if kd p = 26 ∧ o + opq (kd p) = 1 then n + 1 else n) (o + opq (kd p))
def TDq (kd : Nat → Int) (p : Nat) (n o R : Int) : Prop := EVq (fun f => tdn kd f p n o) (some R)
section TLD
variable {kd : Nat → Int} {p p1 i : Nat} {n o R : Int}
theorem td_s (c1 : kd p ≠ 0) (c2 : kd p ≠ 1) (c3 : o + opq (kd p) ≠ 0) (h : TDq kd (p + 1) (if kd p = 26 ∧ o + opq (kd p) = 1 then n + 1 else n) (o + opq (kd p)) R) : TDq kd p n o R :=
  ev_up (ev_f (fun h => h.elim c1 c2) (ev_f c3 h))
theorem td_z (c1 : 2 ≤ kd p) (c2 : opq (kd p) = 0) (c3 : kd p ≠ 26) (ho : 1 ≤ o) (h : TDq kd (p + 1) n o R) : TDq kd p n o R := by
  refine td_s (by omega) (by omega) (by omega) ?_
  rw [if_neg (fun h => c3 h.1), c2, Int.add_zero]
  exact h
theorem td_o (c : kd p = 20 ∨ kd p = 22 ∨ kd p = 24) (ho : 0 ≤ o) (h : TDq kd (p + 1) n (o + 1) R) : TDq kd p n o R := by
  have e : opq (kd p) = 1 := if_pos c
  refine td_s (by omega) (by omega) (by omega) ?_
  rw [if_neg (by omega), e]
  exact h
theorem td_cl (c : kd p = 21 ∨ kd p = 23 ∨ kd p = 25) (ho : 1 ≤ o) (h : TDq kd (p + 1) n o R) : TDq kd p n (o + 1) R := by
  have e : opq (kd p) = -1 := (if_neg (by omega)).trans (if_pos c)
  refine td_s (by omega) (by omega) (by omega) ?_
  rw [if_neg (by omega), e, show o + 1 + -1 = o from by omega]
  exact h
theorem td_cm (c : kd p = 26) (ho : 2 ≤ o) (h : TDq kd (p + 1) n o R) : TDq kd p n o R := by
  have e : opq (kd p) = 0 := by rw [c]; rfl
  refine td_s (by omega) (by omega) (by omega) ?_
  rw [if_neg (by omega), e, Int.add_zero]
  exact h
theorem td_c1 (c : kd p = 26) (h : TDq kd (p + 1) (n + 1) 1 R) : TDq kd p n 1 R := by
  have e : opq (kd p) = 0 := by rw [c]; rfl
  refine td_s (by omega) (by omega) (by omega) ?_
  rw [if_pos ⟨c, by omega⟩, e, Int.add_zero]
  exact h
theorem td_end (c : kd p = 23) : TDq kd p n 1 n := ev_up (ev_f (by omega) (ev_t (by rw [c]; rfl) ev_c))
theorem td_k (k : Int) (c : kd p = k) (h2 : 2 ≤ k) (c2 : opq k = 0) (c3 : k ≠ 26) (ho : 1 ≤ o) (h : TDq kd (p + 1) n o R) : TDq kd p n o R := td_z (by omega) (by rw [c]; exact c2) (by omega) ho h
theorem td_sr : ∀ {f p i p1 : Nat}, SRq kd f p = some (i, p1) → 1 ≤ o → TDq kd p1 n o R → TDq kd p n o R
  | 0, p, i, p1, h, ho, g => by
    rw [SRq] at h
    split at h
    · cases h
    · cases h
      exact g
  | f + 1, p, i, p1, h, ho, g => by
    rw [SRq] at h
    split at h
    · next c =>
      obtain ⟨⟨j, p2⟩, h1, h2⟩ := bind_in h
      cases h2
      exact td_k 45 c (by omega) rfl (by decide) ho (td_sr h1 ho g)
    · cases h
      exact g
theorem op_r (h : (30 ≤ kd p ∧ kd p ≤ 62) ∨ (2 ≤ kd p ∧ kd p ≤ 19) ∨ kd p = 28 ∨ kd p = 29) (ho : 1 ≤ o) (g : TDq kd (p + 1) n o R) : TDq kd p n o R :=
  td_z (by omega) ((if_neg (by omega)).trans (if_neg (by omega))) (by omega) ho g
def Ctd (kd : Nat → Int) (sel d m p : Nat) (L : List Stq) (p' : Nat) (L' : List Stq) : Prop := (sel = 7 ∨ sel = 8 → 1 ≤ m) → ∀ n o R, 1 ≤ o → TDq kd p' n o R → TDq kd p n (if sel = 5 then o + 1 else o) R
theorem pi_td : PIq kd (Ctd kd) := by
  refine ⟨?_, ?_, ?_, ?_, ?_, ?_, ?_, ?_, ?_, ?_, ?_, ?_, ?_, ?_, ?_, ?_, ?_, ?_, ?_, ?_, ?_⟩
  · exact fun d m p L p1 L1 h c _ => h (by omega)
  · exact fun d m p L p1 L1 p2 L2 h c hd h2 hm n o R ho g => h (by omega) n o R ho (op_r (by omega) ho (h2 (by omega) n o R ho g))
  · exact fun d m p L p1 L1 h c _ => h (by omega)
  · exact fun d m p L p1 L1 p2 L2 p3 L3 h c hd h2 c2 h3 hm n o R ho g => h (by omega) n o R ho (op_r (by omega) ho (h2 (by omega) n o R ho (op_r (by omega) ho (h3 (by omega) n o R ho g))))
  · exact fun d m p L p1 L1 c hd h hm n o R ho g => op_r (by unfold UNq at c; omega) ho (h (by omega) n o R ho g)
  · exact fun d m p L i p1 p2 L2 c hd hs c2 h hm n o R ho g => td_o (Or.inl c.1) (by omega) (td_k 5 c.2 (by omega) rfl (by decide) (by omega) (td_sr hs (by omega) (td_cl (Or.inl c2) ho (h (by omega) n o R ho g))))
  · exact fun d m p L p1 L1 p2 L2 c c2 h h2 hm n o R ho g => h (by omega) n o R ho (h2 (by omega) n o R ho g)
  · exact fun d m p L c hm n o R ho g => td_k 3 c (by omega) rfl (by decide) ho g
  · exact fun d m p L c hm n o R ho g => td_k 4 c (by omega) rfl (by decide) ho g
  · exact fun d m p L c c2 hm n o R ho g => td_k 2 c (by omega) rfl (by decide) ho g
  · exact fun d m p L c c2 hd c3 hm n o R ho g => td_k 2 c (by omega) rfl (by decide) ho (td_o (Or.inl c2) (by omega) (td_cl (Or.inl c3) ho g))
  · exact fun d m p L p1 L1 c c2 hd c3 h hm n o R ho g => td_k 2 c (by omega) rfl (by decide) ho (td_o (Or.inl c2) (by omega) (h (by omega) n o R ho g))
  · exact fun d m p L p1 L1 c hd h c2 hm n o R ho g => td_o (Or.inl c) (by omega) (h (by omega) n (o + 1) R (by omega) (td_cl (Or.inl c2) ho g))
  · exact fun d m p L p1 L1 p2 L2 h c h2 hm n o R ho g => h (by omega) n (o + 1) R (by omega) (td_cm c (by omega) (h2 (by omega) n o R ho g))
  · exact fun d m p L p1 L1 h c hm n o R ho g => h (by omega) n (o + 1) R (by omega) (td_cl (Or.inl c) ho g)
  · exact fun d m p L p1 L1 p2 L2 c hd h c2 h2 hm n o R ho g => td_o (Or.inr (Or.inr c)) (by omega) (h (by omega) n (o + 1) R (by omega) (td_cl (Or.inr (Or.inr c2)) ho (h2 (by omega) n o R ho g)))
  · exact fun d m p L p1 L1 c h hm n o R ho g => op_r (by omega) ho (h (by omega) n o R ho g)
  · exact fun d m p L c hm n o R ho g => g
  · exact fun d m p L p1 L1 p2 L2 h h2 hm n o R ho g => h (by omega) n o R ho (h2 (by omega) n o R ho g)
  · exact fun d m p L c hm n o R ho g => g
  · exact fun d m p L p1 L1 p2 L2 c h h2 hm n o R ho g => op_r (by
      have := (lvq_r (kd p)).2.2
      have := hm (Or.inr rfl)
      omega) ho (h (by omega) n o R ho (h2 (by omega) n o R ho g))
theorem td_ex {f : Nat} {l : List Gsq} (h : EXn kd f p = some (p1, l)) (ho : 1 ≤ o) (g : TDq kd p1 n o R) : TDq kd p n o R := by
  obtain ⟨⟨p2, l2⟩, h1, h2⟩ := bind_in h
  cases h2
  exact pe_ind pi_td _ _ _ _ _ _ _ _ h1 (by omega) n o R ho g
theorem td_it : ∀ {f p p' k : Nat} {l : List Gsq} {n : Int}, ITn kd f p = some (p', l, k) → TDq kd p n 1 (n + (k : Int) - 1)
  | 0, p, p', k, l, n, h => by cases h
  | f + 1, p, p', k, l, n, h => by
    obtain ⟨⟨p1, l1⟩, h1, h2⟩ := bind_in h
    by_cases c : kd p1 = 26
    · replace h2 := (if_pos c).symm.trans h2
      obtain ⟨⟨p2, l2, k2⟩, h3, h4⟩ := bind_in h2
      cases h4
      have := td_it (n := n + 1) h3
      refine td_ex h1 (by omega) (td_c1 c ?_)
      rw [show n + ((k2 + 1 : Nat) : Int) - 1 = n + 1 + (k2 : Int) - 1 from by omega]
      exact this
    · replace h2 := (if_neg c).symm.trans h2
      by_cases c3 : kd p1 = 23
      · replace h2 := (if_pos c3).symm.trans h2
        cases h2
        refine td_ex h1 (by omega) ?_
        rw [show n + ((1 : Nat) : Int) - 1 = n from by omega]
        exact td_end c3
      · replace h2 := (if_neg c3).symm.trans h2
        cases h2
end TLD
