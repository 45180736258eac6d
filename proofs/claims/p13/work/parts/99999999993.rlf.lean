/-! all of what is declared, alike on both sides; names' bytes -/
def LIBx (w : St) : Prop := (∀ d, d < 4 → w 25 d = sc0 25 d ∧ w 26 d = sc0 26 d ∧ w 27 d = sc0 27 d ∧ w 28 d = sc0 28 d ∧ w 29 d = sc0 29 d) ∧ ∀ i, i < 15 → w 30 i = sc0 30 i
/-- a name -/
def NAq (w σ : St) (e : Nat) : Prop := (w 29 (e + 4)).toInt - (w 29 (e + 3)).toInt = (σ 19 e).toInt ∧ 0 ≤ (σ 19 e).toInt ∧ 0 ≤ (w 29 (e + 3)).toInt ∧ 0 ≤ (σ 18 e).toInt ∧ (w 29 (e + 4)).toInt ≤ (w 5 7).toInt ∧ (σ 18 e).toInt + (σ 19 e).toInt ≤ (σ 0 31).toInt ∧ ∀ k : Nat, (k : Int) < (σ 19 e).toInt → (w 30 ((w 29 (e + 3)).toInt.toNat + k)).toInt = (σ 20 ((σ 18 e).toInt.toNat + k)).toInt ∧ 48 ≤ (σ 20 ((σ 18 e).toInt.toNat + k)).toInt ∧ (σ 20 ((σ 18 e).toInt.toNat + k)).toInt ≤ 122
/-- one that is declared: type, use, size or signature, name -/
def EAr (w σ : St) (e : Nat) : Prop := ((w 26 (e + 4)).toInt = (σ 10 e).toInt ∧ ((σ 9 e).toInt = 1 → (σ 13 e).toInt ≠ 0 → w 28 (e + 4) = σ 17 e)) ∧ (FLq w (e + 4) 8 ↔ (σ 14 e).toInt ≠ 0) ∧ (¬ FLq w (e + 4) 1 → (w 27 (e + 4)).toInt = (σ 11 e).toInt ∧ -1 ≤ (w 27 (e + 4)).toInt) ∧ (FLq w (e + 4) 1 → sgN (w 27 (e + 4)) = (σ 15 e).toInt ∧ (σ 15 e).toInt ≤ 8 ∧ (∀ k : Int32, 0 ≤ k.toInt → k.toInt < (σ 15 e).toInt → sgT (w 27 (e + 4)) k = (σ 16 (8 * e + k.toInt.toNat)).toInt) ∧ ∃ l : List (Nat × Nat), l.length ≤ 8 ∧ (∀ x, x ∈ l → x.1 ≤ 6) ∧ (w 27 (e + 4)).toInt = sgI l) ∧ NAq w σ e
/-- two names are one -/
def SAMm (σ : St) (e f : Nat) : Prop := (σ 19 e).toInt = (σ 19 f).toInt ∧ ∀ k : Nat, (k : Int) < (σ 19 e).toInt → (σ 20 ((σ 18 e).toInt.toNat + k)).toInt = (σ 20 ((σ 18 f).toInt.toNat + k)).toInt
/-- in a unit all names differ -/
def DSTm (σ : St) : Prop := ∀ A : Nat, (A : Int) < (σ 0 35).toInt → ∀ e f : Nat, (σ 22 A).toInt ≤ e → e < f → (f : Int) < (σ 22 (A + 1)).toInt → ¬ SAMm σ e f
def RLf (w σ : St) : Prop := LIBx w ∧ (∀ e : Nat, (e : Int) < (σ 0 36).toInt → EAr w σ e) ∧ DSTm σ ∧ B13 σ
section RLF
variable {w σ s t : St} {e f n j : Nat} {k v x : Int32} {p q en N i c : Int} {g : Nat → Int32} {b : Int → Int} {y : TSq}
theorem tok_nd (h : TOKq b p k v en) (hk : k.toInt = 2) : ∀ i, p ≤ i → i < p + v.toInt → NDq (b i) := by
  unfold TOKq at h
  by_cases c1 : LTq (b p)
  · rw [if_pos c1] at h
    obtain ⟨h1, h2, h3, h4⟩ := h
    intro i a1 a2
    exact h1.2.1 i a1 (by omega)
  · rw [if_neg c1] at h
    exfalso
    by_cases c2 : DGq (b p)
    · rw [if_pos c2] at h
      by_cases c3 : HSq b p
      · rw [if_pos c3] at h
        have := h.2.2.1
        omega
      · rw [if_neg c3] at h
        have := h.2.2.1
        omega
    · rw [if_neg c2] at h
      by_cases c3 : b p = 39
      · rw [if_pos c3] at h
        have := h.2.2.2.1
        omega
      · rw [if_neg c3] at h
        by_cases c4 : b p = 34
        · rw [if_pos c4] at h
          obtain ⟨m, _, _, h3, _⟩ := h
          omega
        · rw [if_neg c4] at h
          obtain ⟨m, _, _, h3, _⟩ := h
          omega
theorem rch_nd (h : RCHq b (0, []) y) : ∀ (j : Nat) (k v : Int32) (q : Int), y.2[j]? = some (k, v, q) → k.toInt = 2 → ∀ i, q ≤ i → i < q + v.toInt → NDq (b i) := by
  refine h (fun y => ∀ (j : Nat) (k v : Int32) (q : Int), y.2[j]? = some (k, v, q) → k.toInt = 2 → ∀ i, q ≤ i → i < q + v.toInt → NDq (b i)) (fun j k v q h => by cases h) ?_
  rintro u v h3 (⟨b1, b2⟩ | ⟨⟨b0, _, _⟩, k, x, en, ht, ev⟩)
  · rw [b2]
    exact h3
  · rw [ev]
    intro j k' v' q' hj
    rcases app_at hj with ⟨_, hj'⟩ | ⟨_, hj'⟩
    · exact h3 j k' v' q' hj'
    · cases hj'
      exact fun hk => tok_nd ht hk
theorem byt_nd (hi : 0 ≤ i) (hg : -128 ≤ (g i.toNat).toInt ∧ (g i.toNat).toInt ≤ 127) (h : NDq (byt g N i)) : 48 ≤ (g i.toNat).toInt ∧ (g i.toNat).toInt ≤ 122 := by
  have hr : 48 ≤ byt g N i ∧ byt g N i ≤ 122 := by
    rcases h with h | h <;> omega
  have hlt := (byt_in (f := g) (N := N) (i := i) (by omega)).2
  unfold byt at hr
  rw [if_pos ⟨hi, hlt⟩] at hr
  have := (bq hg (c := ((g i.toNat) &&& 255).toInt) (by omega)).1 rfl
  omega
/-- a symbol's name: what is asked of what was there before stays where nothing of it is written -/
theorem naq_same (h : NAq w σ e) (e29 : t 29 (e + 4) = w 29 (e + 4) ∧ t 29 (e + 3) = w 29 (e + 3)) (e30 : ∀ i : Nat, (i : Int) < (w 5 7).toInt → t 30 i = w 30 i) (e57 : (w 5 7).toInt ≤ (t 5 7).toInt) (s18 : s 18 e = σ 18 e) (s19 : s 19 e = σ 19 e) (s20 : ∀ i : Nat, (i : Int) < (σ 0 31).toInt → s 20 i = σ 20 i) (s31 : (σ 0 31).toInt ≤ (s 0 31).toInt) : NAq t s e := by
  obtain ⟨h1, h2, h3, h4, h5, h6, h7⟩ := h
  unfold NAq
  rw [e29.1, e29.2, s18, s19]
  refine ⟨h1, h2, h3, h4, by omega, by omega, fun k hk => ?_⟩
  rw [e30 _ (by omega), s20 _ (by omega)]
  exact h7 k hk
theorem enr_same (h : EAr w σ e) (e29 : t 29 (e + 4) = w 29 (e + 4) ∧ t 29 (e + 3) = w 29 (e + 3)) (e30 : ∀ i : Nat, (i : Int) < (w 5 7).toInt → t 30 i = w 30 i) (e57 : (w 5 7).toInt ≤ (t 5 7).toInt) (e25 : t 25 (e + 4) = w 25 (e + 4)) (e26 : t 26 (e + 4) = w 26 (e + 4)) (e27 : t 27 (e + 4) = w 27 (e + 4)) (e28 : t 28 (e + 4) = w 28 (e + 4)) (sr : ∀ c, c = 10 ∨ c = 11 ∨ c = 14 ∨ c = 15 ∨ c = 18 ∨ c = 19 ∨ c = 9 ∨ c = 13 ∨ c = 17 → s c e = σ c e) (s16 : ∀ k, k < 8 → s 16 (8 * e + k) = σ 16 (8 * e + k)) (s20 : ∀ i : Nat, (i : Int) < (σ 0 31).toInt → s 20 i = σ 20 i) (s31 : (σ 0 31).toInt ≤ (s 0 31).toInt) : EAr t s e := by
  obtain ⟨h1, h2, h3, h4, h5⟩ := h
  refine ⟨by rw [e26, e28, sr 10 (by omega), sr 9 (by omega), sr 13 (by omega), sr 17 (by omega)]; exact h1, ?_, ?_, ?_, naq_same h5 e29 e30 e57 (sr 18 (by omega)) (sr 19 (by omega)) s20 s31⟩
  · unfold FLq at h2 ⊢
    rw [e25, sr 14 (by omega)]
    exact h2
  · unfold FLq at h3 ⊢
    rw [e25, e27, sr 11 (by omega)]
    exact h3
  · unfold FLq at h4 ⊢
    rw [e25, e27, sr 15 (by omega)]
    intro hf
    obtain ⟨a1, a2, a3, a4⟩ := h4 hf
    refine ⟨a1, a2, fun k k0 k1 => ?_, a4⟩
    rw [s16 _ (by omega)]
    exact a3 k k0 k1
theorem sam_same (h19 : s 19 e = σ 19 e ∧ s 19 f = σ 19 f) (h18 : s 18 e = σ 18 e ∧ s 18 f = σ 18 f) (he : 0 ≤ (σ 18 e).toInt ∧ (σ 18 e).toInt + (σ 19 e).toInt ≤ (σ 0 31).toInt) (hf : 0 ≤ (σ 18 f).toInt ∧ (σ 18 f).toInt + (σ 19 f).toInt ≤ (σ 0 31).toInt) (s20 : ∀ i : Nat, (i : Int) < (σ 0 31).toInt → s 20 i = σ 20 i) (h : SAMm s e f) : SAMm σ e f := by
  unfold SAMm at h
  rw [h19.1, h19.2, h18.1, h18.2] at h
  refine ⟨h.1, fun k hk => ?_⟩
  have := h.2 k hk
  have h1 := h.1
  rw [s20 _ (by omega), s20 _ (by omega)] at this
  exact this
theorem lib_same (h : LIBx w) (e1 : ∀ d, d < 4 → t 25 d = w 25 d ∧ t 26 d = w 26 d ∧ t 27 d = w 27 d ∧ t 28 d = w 28 d ∧ t 29 d = w 29 d) (e2 : ∀ i, i < 15 → t 30 i = w 30 i) : LIBx t := by
  refine ⟨fun d hd => ?_, fun i hi => (e2 i hi).trans (h.2 i hi)⟩
  obtain ⟨a1, a2, a3, a4, a5⟩ := e1 d hd
  obtain ⟨b1, b2, b3, b4, b5⟩ := h.1 d hd
  exact ⟨a1.trans b1, a2.trans b2, a3.trans b3, a4.trans b4, a5.trans b5⟩
/-- where nothing of all this is written -/
theorem rlf_same (h : RLf w σ) (ew : ∀ c, 25 ≤ c → c ≤ 30 → t c = w c) (e57 : t 5 7 = w 5 7) (es : ∀ c, (9 ≤ c ∧ c ≤ 20) ∨ c = 22 → s c = σ c) (s31 : s 0 31 = σ 0 31) (s35 : s 0 35 = σ 0 35) (s36 : s 0 36 = σ 0 36) : RLf t s := by
  obtain ⟨h1, h2, h3, h4⟩ := h
  refine ⟨?_, fun e he => ?_, ?_, fun q => by rw [es 13 (by omega)]; exact h4 q⟩
  · unfold LIBx
    rw [ew 25 (by omega) (by omega), ew 26 (by omega) (by omega), ew 27 (by omega) (by omega), ew 28 (by omega) (by omega), ew 29 (by omega) (by omega), ew 30 (by omega) (by omega)]
    exact h1
  · rw [s36] at he
    have hh := h2 e he
    unfold EAr NAq FLq at hh ⊢
    rw [ew 25 (by omega) (by omega), ew 26 (by omega) (by omega), ew 27 (by omega) (by omega), ew 28 (by omega) (by omega), ew 29 (by omega) (by omega), ew 30 (by omega) (by omega), e57, s31, es 9 (by omega), es 10 (by omega), es 11 (by omega), es 13 (by omega), es 14 (by omega), es 15 (by omega), es 16 (by omega), es 17 (by omega), es 18 (by omega), es 19 (by omega), es 20 (by omega)]
    exact hh
  · unfold DSTm SAMm at h3 ⊢
    rw [s35, es 22 (by omega), es 18 (by omega), es 19 (by omega), es 20 (by omega)]
    exact h3
end RLF
