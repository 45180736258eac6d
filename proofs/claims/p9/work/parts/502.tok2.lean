/-! the tokenizer: the table of tokens -/
def Kp (fs : List (Nat × Nat)) (cs : List Nat) (a b : St) : Prop := ∀ c k, fs.contains (c, k) = false → cs.contains c = false → b c k = a c k
theorem kp_rf {fs : List (Nat × Nat)} {cs : List Nat} {a : St} : Kp fs cs a a := fun _ _ _ _ => rfl
theorem kp_tr {fs : List (Nat × Nat)} {cs : List Nat} {a b c : St} (h : Kp fs cs a b) (g : Kp fs cs b c) : Kp fs cs a c := fun x k h1 h2 => (g x k h1 h2).trans (h x k h1 h2)
theorem kp_f {fs : List (Nat × Nat)} {cs : List Nat} {a b : St} {p k : Nat} {v : Int32} (h : Kp fs cs a b) (hm : fs.contains (p, k) = true) : Kp fs cs a (upC b p k v) := fun c j h1 h2 => by
  rw [rdC]
  by_cases e1 : c = p
  · subst e1
    rw [if_pos rfl]
    by_cases e2 : j = k
    · subst e2; rw [hm] at h1; cases h1
    · rw [if_neg e2]; exact h c j h1 h2
  · rw [if_neg e1]; exact h c j h1 h2
theorem kp_a {fs : List (Nat × Nat)} {cs : List Nat} {a b : St} {p k : Nat} {v : Int32} (h : Kp fs cs a b) (hm : cs.contains p = true) : Kp fs cs a (upC b p k v) := fun c j h1 h2 => by
  rw [rdC]
  by_cases e1 : c = p
  · subst e1; rw [hm] at h2; cases h2
  · rw [if_neg e1]; exact h c j h1 h2
theorem kp_sub {fs fs' : List (Nat × Nat)} {cs cs' : List Nat} {a b : St} (h : Kp fs cs a b) (s1 : fs.all (fun x => fs'.contains x || cs'.contains x.1) = true) (s2 : cs.all (fun x => cs'.contains x) = true) : Kp fs' cs' a b := fun c j h1 h2 => by
  refine h c j ?_ ?_
  · cases q : fs.contains (c, j) with
    | false => rfl
    | true =>
      have h3 := List.all_eq_true.mp s1 (c, j) (List.contains_iff_mem.mp q)
      simp only [h1, h2, Bool.or_self] at h3
      cases h3
  · cases q : cs.contains c with
    | false => rfl
    | true =>
      have h3 := List.all_eq_true.mp s2 c (List.contains_iff_mem.mp q)
      rw [h2] at h3
      cases h3
abbrev KT (a b : St) : Prop := Kp [(0, 8)] [2, 3, 4, 5, 6] a b
def tkn (σ : St) (a b c d e : Int32) : St := upC (upC (upC (upC (upC (upC σ 2 (σ 0 8).toNatClampNeg a) 3 (σ 0 8).toNatClampNeg b) 4 (σ 0 8).toNatClampNeg c) 5 (σ 0 8).toNatClampNeg d) 6 (σ 0 8).toNatClampNeg e) 0 8 ((σ 0 8) + 1)
section TKN
variable {σ : St} {a b c d e : Int32}
theorem tkn_n : ((tkn σ a b c d e) 0 8) = (σ 0 8) + 1 := by unfold tkn; rw [rdA_eq rfl]
theorem tkn_kinds (j : Nat) : tkn σ a b c d e 2 j = if j = (σ 0 8).toNatClampNeg then a else (σ 2) j := by
  unfold tkn; simp only [rdC, Nat.reduceEqDiff, if_true, if_false]
theorem tkn_froms (j : Nat) : tkn σ a b c d e 3 j = if j = (σ 0 8).toNatClampNeg then b else (σ 3) j := by
  unfold tkn; simp only [rdC, Nat.reduceEqDiff, if_true, if_false]
theorem tkn_tos (j : Nat) : tkn σ a b c d e 4 j = if j = (σ 0 8).toNatClampNeg then c else (σ 4) j := by
  unfold tkn; simp only [rdC, Nat.reduceEqDiff, if_true, if_false]
theorem tkn_values (j : Nat) : tkn σ a b c d e 6 j = if j = (σ 0 8).toNatClampNeg then e else (σ 6) j := by
  unfold tkn; simp only [rdC, Nat.reduceEqDiff, if_true, if_false]
theorem tkn_size : ((tkn σ a b c d e) 0 9) = (σ 0 9) := rfl
theorem tkn_kp : KT σ (tkn σ a b c d e) := kp_f (kp_a (kp_a (kp_a (kp_a (kp_a kp_rf rfl) rfl) rfl) rfl) rfl) rfl
theorem sp_token {τ : St} {vs : List Nat} {Q : St → St → List Nat → Prop} (h0 : 0 ≤ (σ 0 8).toInt) (h1 : (σ 0 8).toInt < 16002) (h : Q (tkn σ a b c d e) τ vs) : wp_token a b c d e σ τ vs Q := by
  unfold wp_token
  exact ⟨⟨h0, h1⟩, ⟨h0, h1⟩, ⟨h0, h1⟩, ⟨h0, h1⟩, ⟨h0, h1⟩, h⟩
end TKN
/-- tokens so far, up to place k -/
def TI (σ : St) (k : Int) : Prop := 0 ≤ (σ 0 8).toInt ∧ (σ 0 8).toInt ≤ k ∧ k ≤ (σ 0 9).toInt ∧ (σ 0 9).toInt ≤ 16000 ∧ AllIn 0 16000 (σ 3) ∧ AllIn 0 16000 (σ 4) ∧
  (∀ j : Nat, (j : Int) < (σ 0 8).toInt → 2 ≤ ((σ 2) j).toInt ∧ ((σ 3) j).toInt + 1 ≤ ((σ 4) j).toInt ∧ ((σ 4) j).toInt ≤ k ∧ (((σ 2) j).toInt = 4 → 0 ≤ ((σ 6) j).toInt ∧ ((σ 6) j).toInt ≤ 200 ∧ ((σ 3) j).toInt + ((σ 6) j).toInt + 2 ≤ ((σ 4) j).toInt)) ∧
  (∀ j : Nat, (j : Int) + 1 < (σ 0 8).toInt → ((σ 4) j).toInt ≤ ((σ 3) (j + 1)).toInt)
/-- the table whole: the last one is the end, or none -/
def TK (σ : St) : Prop := 1 ≤ (σ 0 8).toInt ∧ (σ 0 8).toInt ≤ 16001 ∧ 0 ≤ (σ 0 9).toInt ∧ (σ 0 9).toInt ≤ 16000 ∧ AllIn 0 16000 (σ 3) ∧ AllIn 0 16000 (σ 4) ∧ (∀ j : Nat, (j : Int) < (σ 0 8).toInt → ((σ 3) j).toInt ≤ (σ 0 9).toInt ∧ 0 ≤ ((σ 2) j).toInt) ∧
  (∀ j : Nat, (j : Int) < (σ 0 8).toInt → 2 ≤ ((σ 2) j).toInt → (j : Int) + 1 < (σ 0 8).toInt ∧ ((σ 3) j).toInt + 1 ≤ ((σ 4) j).toInt ∧ ((σ 4) j).toInt ≤ ((σ 3) (j + 1)).toInt ∧ (((σ 2) j).toInt = 4 → 0 ≤ ((σ 6) j).toInt ∧ ((σ 6) j).toInt ≤ 200 ∧ ((σ 3) j).toInt + ((σ 6) j).toInt + 2 ≤ ((σ 4) j).toInt))
theorem allin_if {lo hi : Int} {f g : Nat → Int32} {n : Nat} {v : Int32} (h : AllIn lo hi f) (e : ∀ j, g j = if j = n then v else f j) (hv : lo ≤ v.toInt ∧ v.toInt ≤ hi) : AllIn lo hi g := fun j => by
  rw [e]
  by_cases q : j = n
  · rw [if_pos q]; exact hv
  · rw [if_neg q]; exact h j
theorem TI_add {σ : St} {k : Int} {a b c d e : Int32} (h : TI σ k) (ha : 2 ≤ a.toInt) (hb : k ≤ b.toInt) (hc : b.toInt + 1 ≤ c.toInt) (hs : c.toInt ≤ (σ 0 9).toInt) (he : a.toInt = 4 → 0 ≤ e.toInt ∧ e.toInt ≤ 200 ∧ b.toInt + e.toInt + 2 ≤ c.toInt) : TI (tkn σ a b c d e) c.toInt := by
  obtain ⟨h1, h2, h3, h4, h5, h6, h7, h8⟩ := h
  have e1 : ((tkn σ a b c d e) 0 8).toInt = (σ 0 8).toInt + 1 := by rw [tkn_n, ad1 (by omega)]
  have en := nt h1
  refine ⟨by omega, by omega, by rw [tkn_size]; exact hs, by rw [tkn_size]; exact h4, allin_if h5 tkn_froms (by omega), allin_if h6 tkn_tos (by omega), fun j hj => ?_, fun j hj => ?_⟩
  · rw [tkn_kinds, tkn_froms, tkn_tos, tkn_values]
    by_cases q : j = (σ 0 8).toNatClampNeg
    · simp only [if_pos q]
      exact ⟨ha, hc, Int.le_refl _, he⟩
    · simp only [if_neg q]
      obtain ⟨g1, g2, g3, g4⟩ := h7 j (by omega)
      exact ⟨g1, g2, by omega, g4⟩
  · rw [tkn_froms, tkn_tos]
    rw [if_neg (show ¬ j = (σ 0 8).toNatClampNeg by omega)]
    by_cases q : j + 1 = (σ 0 8).toNatClampNeg
    · rw [if_pos q]
      have := (h7 j (by omega)).2.2.1
      omega
    · rw [if_neg q]
      exact h8 j (by omega)
theorem TI_end {σ : St} {k : Int} {a b c d e : Int32} (h : TI σ k) (ha : 0 ≤ a.toInt ∧ a.toInt < 2) (hb : k ≤ b.toInt) (hs : b.toInt ≤ (σ 0 9).toInt) (hc : 0 ≤ c.toInt ∧ c.toInt ≤ 16000) : TK (tkn σ a b c d e) := by
  obtain ⟨h1, h2, h3, h4, h5, h6, h7, h8⟩ := h
  have e1 : ((tkn σ a b c d e) 0 8).toInt = (σ 0 8).toInt + 1 := by rw [tkn_n, ad1 (by omega)]
  have en := nt h1
  refine ⟨by omega, by omega, by rw [tkn_size]; omega, by rw [tkn_size]; exact h4, allin_if h5 tkn_froms (by omega), allin_if h6 tkn_tos hc, fun j hj => ?_, fun j hj h2k => ?_⟩
  · rw [tkn_froms, tkn_size, tkn_kinds]
    by_cases q : j = (σ 0 8).toNatClampNeg
    · rw [if_pos q, if_pos q]; exact ⟨hs, ha.1⟩
    · rw [if_neg q, if_neg q]
      have := h7 j (by omega)
      omega
  · rw [tkn_kinds] at h2k
    rw [tkn_kinds, tkn_froms, tkn_tos, tkn_values, tkn_froms]
    by_cases q : j = (σ 0 8).toNatClampNeg
    · rw [if_pos q] at h2k
      omega
    · simp only [if_neg q]
      obtain ⟨g1, g2, g3, g4⟩ := h7 j (by omega)
      refine ⟨by omega, g2, ?_, g4⟩
      by_cases q2 : j + 1 = (σ 0 8).toNatClampNeg
      · rw [if_pos q2]; omega
      · rw [if_neg q2]; exact h8 j (by omega)
/-- what is no token was put behind the others -/
def BD (σ s : St) : Prop := TK s ∧ (s 0 8).toInt = (σ 0 8).toInt + 1 ∧ ((s 2) (σ 0 8).toNatClampNeg).toInt = 1 ∧ KT σ s
/-- one more token -/
def GD (σ s : St) (k r : Int) : Prop := TI s r ∧ k < r ∧ (s 0 8).toInt = (σ 0 8).toInt + 1 ∧ 2 ≤ ((s 2) (σ 0 8).toNatClampNeg).toInt ∧ KT σ s
section TOK
variable {σ τ : St} {vs : List Nat} {k : Int32}
theorem sp_bad {p : Int32} {k : Int} {Q : Int32 → St → St → List Nat → Prop} (hT : TI σ k) (h1 : k ≤ p.toInt) (h2 : p.toInt ≤ (σ 0 9).toInt) (h : ∀ s, BD σ s → Q p s τ vs) : wp_bad p σ τ vs Q := by
  have hT9 := hT
  obtain ⟨g1, g2, g3, g4, -⟩ := hT9
  unfold wp_bad
  refine sp_token g1 (by omega) (h _ ⟨TI_end hT (by decide) h1 h2 (by omega), by rw [tkn_n, ad1 (by omega)], ?_, tkn_kp⟩)
  rw [tkn_kinds, if_pos rfl]
  decide
theorem GD_of {a b c d e : Int32} {k : Int} (h : TI σ k) (ha : 2 ≤ a.toInt) (hb : k = b.toInt) (hc : b.toInt + 1 ≤ c.toInt) (hs : c.toInt ≤ (σ 0 9).toInt) (he : a.toInt = 4 → 0 ≤ e.toInt ∧ e.toInt ≤ 200 ∧ b.toInt + e.toInt + 2 ≤ c.toInt) : GD σ (tkn σ a b c d e) k c.toInt := by
  have hT := h
  obtain ⟨g1, g2, g3, g4, -⟩ := hT
  refine ⟨TI_add h ha (by omega) hc hs he, by omega, by rw [tkn_n, ad1 (by omega)], ?_, tkn_kp⟩
  rw [tkn_kinds, if_pos rfl]
  exact ha
theorem sp_lineEnd {Q : Int32 → St → St → List Nat → Prop} (hT : TI σ k.toInt) (h0 : 0 ≤ k.toInt) (hk : k.toInt < (σ 0 9).toInt) (hc : (lookV σ k).toInt = 47) (h : ∀ r, k.toInt < r.toInt → r.toInt ≤ (σ 0 9).toInt → Q r σ τ vs) (hb : ∀ r s, BD σ s → Q r s τ vs) : wp_lineEnd k σ τ vs Q := by
  have hs : (σ 0 9).toInt ≤ 16000 := hT.2.2.2.1
  unfold wp_lineEnd
  refine ⟨fun n x => (n : Int) = (σ 0 9).toInt - x.toInt ∧ k.toInt ≤ x.toInt ∧ x.toInt ≤ (σ 0 9).toInt, ⟨((σ 0 9).toInt - k.toInt).toNat, by omega, Int.le_refl _, by omega⟩, fun n x ⟨hn, h1, h2⟩ => ⟨fun c => h x (by omega) h2, fun c => sp_look (by omega) hs ⟨fun c2 => h x ?_ h2, fun c2 => sp_look (by omega) hs (sp_isAllowed ⟨fun c3 => ⟨n - 1, by omega, ?_, ?_, ?_⟩, fun c3 => sp_bad hT h1 h2 (fun s hs => hb _ s hs)⟩)⟩⟩⟩
  · by_cases q : x.toInt = k.toInt
    · rw [ieq q, hc] at c2
      omega
    · omega
  · have e := ad1 (x := x) (by omega)
    omega
  · have e := ad1 (x := x) (by omega)
    omega
  · have e := ad1 (x := x) (by omega)
    omega
theorem sp_remarkEnd {l : Int32} {Q : Int32 → St → St → List Nat → Prop} (hT : TI σ k.toInt) (h0 : 0 ≤ k.toInt) (hk : k.toInt + 1 < (σ 0 9).toInt) (h : ∀ r, k.toInt < r.toInt → r.toInt ≤ (σ 0 9).toInt → Q r σ τ vs) (hb : ∀ r s, BD σ s → Q r s τ vs) : wp_remarkEnd k l σ τ vs Q := by
  have hs : (σ 0 9).toInt ≤ 16000 := hT.2.2.2.1
  have e2 : (k + (2 : Int32)).toInt = k.toInt + 2 := adc (by decide) (by omega) (by omega)
  unfold wp_remarkEnd
  refine ⟨fun n x => (n : Int) = (σ 0 9).toInt - x.toInt ∧ k.toInt + 2 ≤ x.toInt ∧ x.toInt ≤ (σ 0 9).toInt, ⟨((σ 0 9).toInt - k.toInt - 2).toNat, by omega, by omega, by omega⟩, fun n x ⟨hn, h1, h2⟩ => ?_⟩
  refine ⟨(σ 0 9).toInt ≤ x.toInt ∨ (x.toInt + 1 < (σ 0 9).toInt), fun hj => ⟨fun c => sp_bad hT (by omega) (by omega) (fun s hs => hb _ s hs), fun c => h _ ?_ ?_⟩, fun c => Or.inl c, fun c => sp_look (by omega) hs ?_⟩
  · have e := adc (x := x) (y := (2 : Int32)) (n := 2) (by decide) (by omega) (by omega)
    omega
  · have e := adc (x := x) (y := (2 : Int32)) (n := 2) (by decide) (by omega) (by omega)
    omega
  · have e1 := ad1 (x := x) (by omega)
    refine ⟨True, fun _ => sp_look (by omega) hs (sp_isAllowed ⟨fun c3 => ⟨n - 1, by omega, by omega, by omega, by omega⟩, fun c3 => sp_bad hT (by omega) h2 (fun s hs => hb _ s hs)⟩), fun _ => trivial, fun _ => sp_look (by omega) hs ⟨fun c4 => Or.inr ?_, fun _ => trivial⟩⟩
    have := look_lt' (σ := σ) (k := x + 1) (by omega)
    omega
end TOK
