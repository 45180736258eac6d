/-! tokens as a text tells them -/
def byt (f : Nat → Int32) (N i : Int) : Int := if 0 ≤ i ∧ i < N then ((f i.toNat) &&& (255 : Int32)).toInt else -1
abbrev LTq (c : Int) : Prop := (97 ≤ c ∧ c ≤ 122) ∨ (65 ≤ c ∧ c ≤ 90) ∨ c = 95
abbrev DGq (c : Int) : Prop := 48 ≤ c ∧ c ≤ 57
abbrev NDq (c : Int) : Prop := ((97 ≤ c ∧ c ≤ 122) ∨ (65 ≤ c ∧ c ≤ 90) ∨ c = 95) ∨ (48 ≤ c ∧ c ≤ 57)
abbrev AOq (c : Int) : Prop := (32 ≤ c ∧ c ≤ 126) ∨ c = 9 ∨ c = 10 ∨ c = 13
abbrev BKq (c : Int) : Prop := c = 9 ∨ c = 10 ∨ c = 13 ∨ c = 32
def hxq (c : Int) : Int := if 48 ≤ c ∧ c ≤ 57 then c - 48 else if 97 ≤ c ∧ c ≤ 102 then c - 87 else if 65 ≤ c ∧ c ≤ 70 then c - 55 else -1
abbrev HXq (c : Int) : Prop := (48 ≤ c ∧ c ≤ 57) ∨ (97 ≤ c ∧ c ≤ 102) ∨ (65 ≤ c ∧ c ≤ 70)
def cdq (b : Int → Int) (q i : Int) : Int := if b i = 92 then (if b (i + 1) = 34 ∨ b (i + 1) = 39 ∨ b (i + 1) = 92 then b (i + 1) else if b (i + 1) = 48 then 0 else if b (i + 1) = 110 then 10 else -1) else if 32 ≤ b i ∧ b i ≤ 126 ∧ b i ≠ q then b i else -1
def wdq (b : Int → Int) (i : Int) : Int := if b i = 92 then 2 else 1
def ENq (P : Int → Prop) (b : Int → Int) (p e : Int) : Prop := p ≤ e ∧ (∀ i, p ≤ i → i < e → P (b i)) ∧ ¬ P (b e)
def bWd (w : Nat) : Nat := ([0, 4, 9, 16, 23, 26, 31, 37, 40, 44, 50, 59] : List Nat).getD w 66
def lWd (w : Nat) : Nat := ([3, 4, 6, 6, 2, 4, 5, 2, 3, 5, 8, 6] : List Nat).getD w 0
def bSg (w : Nat) : Nat := ([0, 2, 4, 6, 8, 10, 12, 14, 16, 18, 20, 22, 26, 30, 33, 36, 39, 42, 45, 48, 51, 54, 57, 60, 62, 64, 66, 68, 70, 72, 74, 76, 79, 82, 84, 86, 89, 92, 95, 98, 100, 102, 105] : List Nat).getD w 108
def lSg (w : Nat) : Nat := ([1, 1, 1, 1, 1, 1, 1, 1, 1, 1, 1, 3, 3, 2, 2, 2, 2, 2, 2, 2, 2, 2, 2, 1, 1, 1, 1, 1, 1, 1, 1, 2, 2, 1, 1, 2, 2, 2, 2, 1, 1, 2, 2] : List Nat).getD w 0
/-- word w, sign w, stands at p with n bytes -/
def WMq (b : Int → Int) (p n : Int) (w : Nat) : Prop := w < 12 ∧ (lWd w : Int) = n ∧ ∀ i : Nat, i < lWd w → b (p + i) = (chI (gC 2 (bWd w + i))).toInt
def SMq (b : Int → Int) (p n : Int) (w : Nat) : Prop := w < 43 ∧ (lSg w : Int) = n ∧ ∀ i : Nat, i < lSg w → b (p + i) = (chI (gC 3 (bSg w + i))).toInt
def hvq (b : Int → Int) (p : Int) : Nat → Int32
  | 0 => 0
  | n + 1 => hvq b p n * 16 + Int32.ofInt (hxq (b (p + n)))
def dvq (b : Int → Int) (p : Int) : Nat → Int
  | 0 => 0
  | n + 1 => dvq b p n * 10 + (b (p + n) - 48)
def spq (b : Int → Int) (p : Int) : Nat → Int
  | 0 => p + 1
  | n + 1 => spq b p n + wdq b (spq b p n)
def STq (b : Int → Int) (p : Int) (n : Nat) : Prop := n ≤ 200 ∧ (∀ j, j < n → b (spq b p j) ≠ 34 ∧ 0 ≤ cdq b 34 (spq b p j)) ∧ b (spq b p n) = 34
def SBq (b : Int → Int) (p : Int) : Prop := ∃ n, n ≤ 200 ∧ (∀ j, j < n → b (spq b p j) ≠ 34 ∧ 0 ≤ cdq b 34 (spq b p j)) ∧ b (spq b p n) ≠ 34 ∧ (cdq b 34 (spq b p n) < 0 ∨ n = 200)
abbrev HSq (b : Int → Int) (p : Int) : Prop := b p = 48 ∧ b (p + 1) = 120 ∧ HXq (b (p + 2))
/-- a token of kind k and value v stands at p up to e -/
def TOKq (b : Int → Int) (p : Int) (k v : Int32) (e : Int) : Prop :=
  if LTq (b p) then ENq NDq b p e ∧ e - p ≤ 24 ∧ v.toInt = e - p ∧ ((∃ w, WMq b p (e - p) w ∧ k.toInt = 5 + w) ∨ ((∀ w, ¬ WMq b p (e - p) w) ∧ k.toInt = 2))
  else if DGq (b p) then
    (if HSq b p then ENq HXq b (p + 2) e ∧ e - p ≤ 10 ∧ k.toInt = 3 ∧ v = hvq b (p + 2) (e - p - 2).toNat
    else ENq DGq b p e ∧ dvq b p (e - p).toNat ≤ 2147483647 ∧ k.toInt = 3 ∧ v.toInt = dvq b p (e - p).toNat)
  else if b p = 39 then 0 ≤ cdq b 39 (p + 1) ∧ b (p + 1 + wdq b (p + 1)) = 39 ∧ e = p + 2 + wdq b (p + 1) ∧ k.toInt = 3 ∧ v.toInt = cdq b 39 (p + 1)
  else if b p = 34 then ∃ n : Nat, STq b p n ∧ e = spq b p n + 1 ∧ k.toInt = 4 ∧ v.toInt = n
  else ∃ w, SMq b p (e - p) w ∧ (∀ w' n, SMq b p n w' → n ≤ e - p) ∧ k.toInt = 20 + w ∧ v = 0
/-- what stands at p is no token -/
def BADq (b : Int → Int) (p : Int) : Prop :=
  0 ≤ b p ∧ if LTq (b p) then ∃ e, ENq NDq b p e ∧ 24 < e - p
  else if DGq (b p) then
    (if HSq b p then ∃ e, ENq HXq b (p + 2) e ∧ 10 < e - p
    else ∃ e, ENq DGq b p e ∧ 2147483647 < dvq b p (e - p).toNat)
  else if b p = 39 then cdq b 39 (p + 1) < 0 ∨ b (p + 1 + wdq b (p + 1)) ≠ 39
  else if b p = 34 then SBq b p
  else ∀ w n, ¬ SMq b p n w
abbrev CMq (b : Int → Int) (p : Int) : Prop := b p = 47 ∧ (b (p + 1) = 47 ∨ b (p + 1) = 42)
abbrev INl (c : Int) : Prop := ((32 ≤ c ∧ c ≤ 126) ∨ c = 9 ∨ c = 10 ∨ c = 13) ∧ c ≠ 10
def CMe (b : Int → Int) (p e : Int) : Prop := p + 2 ≤ e ∧ (∀ i, p + 2 ≤ i → i < e → AOq (b i) ∧ ¬ (b i = 42 ∧ b (i + 1) = 47)) ∧ (AOq (b e) → b e = 42 ∧ b (e + 1) = 47)
/-- a blank at p, up to e -/
def BLq (b : Int → Int) (p e : Int) : Prop :=
  if b p = 47 then (if b (p + 1) = 47 then ENq INl b p e ∧ (b e = 10 ∨ b e < 0) else b (p + 1) = 42 ∧ ∃ i, CMe b p i ∧ AOq (b i) ∧ e = i + 2)
  else BKq (b p) ∧ e = p + 1
/-- a blank at p that is none -/
def BBq (b : Int → Int) (p : Int) : Prop := b p = 47 ∧ if b (p + 1) = 47 then ∃ e, ENq INl b p e ∧ ¬ AOq (b e) ∧ 0 ≤ b e else b (p + 1) = 42 ∧ ∃ i, CMe b p i ∧ ¬ AOq (b i)
abbrev TSq : Type := Int × List (Int32 × Int32 × Int)
def STPq (b : Int → Int) (x y : TSq) : Prop := (BLq b x.1 y.1 ∧ y.2 = x.2) ∨ ((0 ≤ b x.1 ∧ ¬ BKq (b x.1) ∧ ¬ CMq b x.1) ∧ ∃ k v e, TOKq b x.1 k v e ∧ y = (e, x.2 ++ [(k, v, x.1)]))
/-- what the tokens end with: 0 the text's end, 1 no token -/
def FINq (b : Int → Int) (p : Int) (c : Int32) : Prop := (b p < 0 ∧ c = 0) ∨ ((BBq b p ∨ ((¬ BKq (b p) ∧ ¬ CMq b p) ∧ BADq b p)) ∧ c = 1)
def RCHq (b : Int → Int) (x y : TSq) : Prop := ∀ S : TSq → Prop, S x → (∀ u v, S u → STPq b u v → S v) → S y
section TQ
variable {b : Int → Int} {p e e' n n' : Int} {k k' v v' c c' : Int32} {x y z : TSq} {P : Int → Prop} {w w' m m' : Nat}
theorem b255 (x : Int32) : 0 ≤ (x &&& (255 : Int32)).toInt ∧ (x &&& (255 : Int32)).toInt ≤ 255 := by
  have h : (x &&& (255 : Int32)).toBitVec.toNat ≤ 255 := by
    rw [Int32.toBitVec_and, BitVec.toNat_and]
    exact Nat.and_le_right
  have e : (x &&& (255 : Int32)).toInt = ((x &&& (255 : Int32)).toBitVec.toNat : Int) := BitVec.toInt_eq_toNat_of_lt (by omega)
  omega
theorem byt_in {f : Nat → Int32} {N i : Int} (h : 0 ≤ byt f N i) : 0 ≤ i ∧ i < N := by
  unfold byt at h
  by_cases c : 0 ≤ i ∧ i < N
  · exact c
  · rw [if_neg c] at h
    omega
theorem byt_pos {f : Nat → Int32} {N i : Int} (h : 0 ≤ i ∧ i < N) : 0 ≤ byt f N i := by
  rw [byt, if_pos h]
  exact (b255 _).1
theorem byt_ge {f : Nat → Int32} {N i : Int} : -1 ≤ byt f N i ∧ byt f N i ≤ 255 := by
  unfold byt
  by_cases c : 0 ≤ i ∧ i < N
  · rw [if_pos c]
    have := b255 (f i.toNat)
    omega
  · rw [if_neg c]
    omega
theorem en_one (h : ENq P b p e) (h' : ENq P b p e') : e = e' := by
  obtain ⟨a1, a2, a3⟩ := h
  obtain ⟨c1, c2, c3⟩ := h'
  by_cases q : e < e'
  · exact absurd (c2 e a1 q) a3
  by_cases q' : e' < e
  · exact absurd (a2 e' c1 q') c3
  omega
theorem wd_tab : ∀ w, w < 12 → ∀ w', w' < 12 → lWd w = lWd w' → (∀ i, i < 8 → i < lWd w → (chI (gC 2 (bWd w + i))).toInt = (chI (gC 2 (bWd w' + i))).toInt) → w = w' := by decide +kernel
theorem sg_tab : ∀ w, w < 43 → ∀ w', w' < 43 → lSg w = lSg w' → (∀ i, i < 3 → i < lSg w → (chI (gC 3 (bSg w + i))).toInt = (chI (gC 3 (bSg w' + i))).toInt) → w = w' := by decide +kernel
theorem sg_len : ∀ w, w < 43 → 1 ≤ lSg w ∧ lSg w ≤ 3 := by decide
theorem wd_len : ∀ w, w < 12 → 1 ≤ lWd w ∧ lWd w ≤ 8 := by decide
theorem wm_one (h : WMq b p n w) (h' : WMq b p n w') : w = w' := by
  refine wd_tab w h.1 w' h'.1 (by have := h.2.1; have := h'.2.1; omega) (fun i _ hi => ?_)
  rw [← h.2.2 i hi, ← h'.2.2 i (by have := h.2.1; have := h'.2.1; omega)]
theorem sm_one (h : SMq b p n w) (h' : SMq b p n w') : w = w' := by
  refine sg_tab w h.1 w' h'.1 (by have := h.2.1; have := h'.2.1; omega) (fun i _ hi => ?_)
  rw [← h.2.2 i hi, ← h'.2.2 i (by have := h.2.1; have := h'.2.1; omega)]
theorem st_one (h : STq b p m) (h' : STq b p m') : m = m' := by
  by_cases q : m < m'
  · exact absurd h.2.2 (h'.2.1 m q).1
  by_cases q' : m' < m
  · exact absurd h'.2.2 (h.2.1 m' q').1
  omega
theorem st_sb (h : STq b p m) (h' : SBq b p) : False := by
  obtain ⟨i, i1, i2, i3, i4⟩ := h'
  by_cases q : m < i
  · exact (i2 m q).1 h.2.2
  by_cases q' : i < m
  · have := (h.2.1 i q').2
    have := h.1
    omega
  have e : i = m := by omega
  rw [e] at i3
  exact i3 h.2.2
theorem cm_one (h : CMe b p e) (h' : CMe b p e') : e = e' := by
  obtain ⟨a1, a2, a3⟩ := h
  obtain ⟨c1, c2, c3⟩ := h'
  by_cases q : e < e'
  · have := c2 e a1 q
    exact absurd (a3 this.1) this.2
  by_cases q' : e' < e
  · have := a2 e' c1 q'
    exact absurd (c3 this.1) this.2
  omega
theorem tok_one (h : TOKq b p k v e) (h' : TOKq b p k' v' e') : k = k' ∧ v = v' ∧ e = e' := by
  unfold TOKq at h h'
  by_cases c1 : LTq (b p)
  · rw [if_pos c1] at h h'
    obtain ⟨a1, a2, a3, a4⟩ := h
    obtain ⟨c1, c2, c3, c4⟩ := h'
    have ee := en_one a1 c1
    subst ee
    refine ⟨ieq ?_, ieq (by omega), rfl⟩
    rcases a4 with ⟨w, q1, q2⟩ | ⟨q1, q2⟩
    · rcases c4 with ⟨w', r1, r2⟩ | ⟨r1, r2⟩
      · have := wm_one q1 r1
        omega
      · exact absurd q1 (r1 w)
    · rcases c4 with ⟨w', r1, r2⟩ | ⟨r1, r2⟩
      · exact absurd r1 (q1 w')
      · omega
  rw [if_neg c1] at h h'
  by_cases c2 : DGq (b p)
  · rw [if_pos c2] at h h'
    by_cases c3 : HSq b p
    · rw [if_pos c3] at h h'
      obtain ⟨a1, a2, a3, a4⟩ := h
      obtain ⟨c1, c2, c3, c4⟩ := h'
      have ee := en_one a1 c1
      subst ee
      exact ⟨ieq (by omega), by rw [a4, c4], rfl⟩
    · rw [if_neg c3] at h h'
      obtain ⟨a1, a2, a3, a4⟩ := h
      obtain ⟨c1, c2, c3, c4⟩ := h'
      have ee := en_one a1 c1
      subst ee
      exact ⟨ieq (by omega), ieq (by rw [a4, c4]), rfl⟩
  rw [if_neg c2] at h h'
  by_cases c3 : b p = 39
  · rw [if_pos c3] at h h'
    obtain ⟨_, _, a3, a4, a5⟩ := h
    obtain ⟨_, _, c3, c4, c5⟩ := h'
    exact ⟨ieq (by omega), ieq (by rw [a5, c5]), by rw [a3, c3]⟩
  rw [if_neg c3] at h h'
  by_cases c4 : b p = 34
  · rw [if_pos c4] at h h'
    obtain ⟨m, a1, a2, a3, a4⟩ := h
    obtain ⟨m', c1, c2, c3, c4⟩ := h'
    have ee := st_one a1 c1
    subst ee
    exact ⟨ieq (by omega), ieq (by omega), by rw [a2, c2]⟩
  rw [if_neg c4] at h h'
  obtain ⟨w, a1, a2, a3, a4⟩ := h
  obtain ⟨w', d1, d2, d3, d4⟩ := h'
  have ee : e - p = e' - p := by
    have := a2 w' _ d1
    have := d2 w _ a1
    omega
  rw [← ee] at d1
  have := sm_one a1 d1
  exact ⟨ieq (by omega), by rw [a4, d4], by omega⟩
theorem tok_bad (h : TOKq b p k v e) (h' : BADq b p) : False := by
  unfold TOKq at h
  unfold BADq at h'
  replace h' := h'.2
  by_cases c1 : LTq (b p)
  · rw [if_pos c1] at h h'
    obtain ⟨e', r1, r2⟩ := h'
    have := en_one h.1 r1
    have := h.2.1
    omega
  rw [if_neg c1] at h h'
  by_cases c2 : DGq (b p)
  · rw [if_pos c2] at h h'
    by_cases c3 : HSq b p
    · rw [if_pos c3] at h h'
      obtain ⟨e', r1, r2⟩ := h'
      have := en_one h.1 r1
      have := h.2.1
      omega
    · rw [if_neg c3] at h h'
      obtain ⟨e', r1, r2⟩ := h'
      have ee := en_one h.1 r1
      subst ee
      have := h.2.1
      omega
  rw [if_neg c2] at h h'
  by_cases c3 : b p = 39
  · rw [if_pos c3] at h h'
    rcases h' with h' | h'
    · have := h.1
      omega
    · exact h' h.2.1
  rw [if_neg c3] at h h'
  by_cases c4 : b p = 34
  · rw [if_pos c4] at h h'
    obtain ⟨m, a1, _⟩ := h
    exact st_sb a1 h'
  rw [if_neg c4] at h h'
  obtain ⟨w, a1, _⟩ := h
  exact h' w _ a1
theorem bl_one (h : BLq b p e) (h' : BLq b p e') : e = e' := by
  unfold BLq at h h'
  by_cases c1 : b p = 47
  · rw [if_pos c1] at h h'
    by_cases c2 : b (p + 1) = 47
    · rw [if_pos c2] at h h'
      exact en_one h.1 h'.1
    · rw [if_neg c2] at h h'
      obtain ⟨_, i, a1, _, a2⟩ := h
      obtain ⟨_, i', d1, _, d2⟩ := h'
      have := cm_one a1 d1
      omega
  · rw [if_neg c1] at h h'
    rw [h.2, h'.2]
theorem bl_bb (h : BLq b p e) (h' : BBq b p) : False := by
  unfold BLq at h
  obtain ⟨c1, h'⟩ := h'
  rw [if_pos c1] at h
  by_cases c2 : b (p + 1) = 47
  · rw [if_pos c2] at h h'
    obtain ⟨i, a1, a2, a3⟩ := h'
    have := en_one h.1 a1
    subst this
    have := h.2
    omega
  · rw [if_neg c2] at h h'
    obtain ⟨_, i, a1, a3, a2⟩ := h
    obtain ⟨_, i', d1, d2⟩ := h'
    have := cm_one a1 d1
    subst this
    exact d2 a3
theorem bl_is (h : BLq b p e) : 0 ≤ b p ∧ (BKq (b p) ∨ CMq b p) := by
  unfold BLq at h
  by_cases c1 : b p = 47
  · rw [if_pos c1] at h
    by_cases c2 : b (p + 1) = 47
    · exact ⟨by omega, Or.inr ⟨c1, Or.inl c2⟩⟩
    · rw [if_neg c2] at h
      exact ⟨by omega, Or.inr ⟨c1, Or.inr h.1⟩⟩
  · rw [if_neg c1] at h
    exact ⟨by have := h.1; omega, Or.inl h.1⟩
theorem bb_is (h : BBq b p) : CMq b p := by
  obtain ⟨c1, h⟩ := h
  by_cases c2 : b (p + 1) = 47
  · exact ⟨c1, Or.inl c2⟩
  · rw [if_neg c2] at h
    exact ⟨c1, Or.inr h.1⟩
theorem stp_one (h : STPq b x y) (h' : STPq b x z) : y = z := by
  rcases h with ⟨h1, h2⟩ | ⟨⟨h0, h1, h2⟩, k, v, e, h3, h4⟩
  · rcases h' with ⟨g1, g2⟩ | ⟨⟨g0, g1, g2⟩, k', v', e', g3, g4⟩
    · have := bl_one h1 g1
      exact Prod.ext this (by rw [h2, g2])
    · rcases (bl_is h1).2 with q | q
      · exact absurd q g1
      · exact absurd q g2
  · rcases h' with ⟨g1, g2⟩ | ⟨⟨g0, g1, g2⟩, k', v', e', g3, g4⟩
    · rcases (bl_is g1).2 with q | q
      · exact absurd q h1
      · exact absurd q h2
    · obtain ⟨e1, e2, e3⟩ := tok_one h3 g3
      rw [h4, g4, e1, e2, e3]
theorem stp_fin (h : STPq b x y) (h' : FINq b x.1 c) : False := by
  rcases h with ⟨h1, h2⟩ | ⟨⟨h0, h1, h2⟩, k, v, e, h3, h4⟩
  · obtain ⟨q0, q⟩ := bl_is h1
    rcases h' with ⟨g, _⟩ | ⟨g | ⟨⟨g1, g2⟩, g⟩, _⟩
    · omega
    · exact bl_bb h1 g
    · rcases q with q | q
      · exact g1 q
      · exact g2 q
  · rcases h' with ⟨g, _⟩ | ⟨g | ⟨⟨g1, g2⟩, g⟩, _⟩
    · omega
    · exact h2 (bb_is g)
    · exact tok_bad h3 g
theorem fin_one (h : FINq b p c) (h' : FINq b p c') : c = c' := by
  have key : b p < 0 → (BBq b p ∨ ((¬ BKq (b p) ∧ ¬ CMq b p) ∧ BADq b p)) → False := fun q r => by
    rcases r with r | r
    · have := r.1
      omega
    · have := r.2.1
      omega
  rcases h with ⟨h1, h2⟩ | ⟨h1, h2⟩
  · rcases h' with ⟨g1, g2⟩ | ⟨g1, g2⟩
    · rw [h2, g2]
    · exact (key h1 g1).elim
  · rcases h' with ⟨g1, g2⟩ | ⟨g1, g2⟩
    · exact (key g1 h1).elim
    · rw [h2, g2]
theorem rch_0 : RCHq b x x := fun _ h _ => h
theorem rch_s (h : RCHq b x y) (g : STPq b y z) : RCHq b x z := fun S h1 h2 => h2 y z (h S h1 h2) g
theorem rch_st (g : STPq b x y) (h : RCHq b y z) : RCHq b x z := fun S h1 h2 => h S (h2 x y h1 g) h2
theorem rch_cs (h : RCHq b x z) : x = z ∨ ∃ y, STPq b x y ∧ RCHq b y z :=
  h (fun u => x = u ∨ ∃ y, STPq b x y ∧ RCHq b y u) (Or.inl rfl) (fun u v h g => by
    rcases h with h | ⟨y, h1, h2⟩
    · subst h
      exact Or.inr ⟨v, g, rch_0⟩
    · exact Or.inr ⟨y, h1, rch_s h2 g⟩)
/-- what the tokens are is one -/
theorem rch_one (h : RCHq b x y) (f : FINq b y.1 c) (h' : RCHq b x z) (f' : FINq b z.1 c') : y = z ∧ c = c' := by
  have key : RCHq b z y := h' (fun u => RCHq b u y) h (fun u v hu g => by
    rcases rch_cs hu with q | ⟨t, q1, q2⟩
    · subst q
      exact (stp_fin g f).elim
    · rwa [stp_one g q1])
  rcases rch_cs key with q | ⟨t, q1, q2⟩
  · subst q
    exact ⟨rfl, fin_one f f'⟩
  · exact (stp_fin q1 f').elim
theorem sp_up : ∀ m, p + 1 + m ≤ spq b p m
  | 0 => by
    show p + 1 + ((0 : Nat) : Int) ≤ p + 1
    omega
  | m + 1 => by
    have := sp_up m
    have h : spq b p (m + 1) = spq b p m + wdq b (spq b p m) := rfl
    have : 1 ≤ wdq b (spq b p m) := by
      unfold wdq
      split <;> omega
    omega
theorem tok_up (h : TOKq b p k v e) : p < e := by
  unfold TOKq at h
  by_cases c1 : LTq (b p)
  · rw [if_pos c1] at h
    obtain ⟨⟨a1, a2, a3⟩, _⟩ := h
    by_cases q : p = e
    · rw [← q] at a3
      exact absurd (Or.inl c1) a3
    · omega
  rw [if_neg c1] at h
  by_cases c2 : DGq (b p)
  · rw [if_pos c2] at h
    by_cases c3 : HSq b p
    · rw [if_pos c3] at h
      have := h.1.1
      omega
    · rw [if_neg c3] at h
      obtain ⟨⟨a1, a2, a3⟩, _⟩ := h
      by_cases q : p = e
      · rw [← q] at a3
        exact absurd c2 a3
      · omega
  rw [if_neg c2] at h
  by_cases c3 : b p = 39
  · rw [if_pos c3] at h
    have : 1 ≤ wdq b (p + 1) := by
      unfold wdq
      split <;> omega
    have := h.2.2.1
    omega
  rw [if_neg c3] at h
  by_cases c4 : b p = 34
  · rw [if_pos c4] at h
    obtain ⟨m, _, a, _⟩ := h
    have := sp_up (p := p) (b := b) m
    omega
  rw [if_neg c4] at h
  obtain ⟨w, a1, _⟩ := h
  have := (sg_len w a1.1).1
  have := a1.2.1
  omega
theorem bl_up (h : BLq b p e) : p < e := by
  unfold BLq at h
  by_cases c1 : b p = 47
  · rw [if_pos c1] at h
    by_cases c2 : b (p + 1) = 47
    · rw [if_pos c2] at h
      obtain ⟨⟨a1, a2, a3⟩, _⟩ := h
      by_cases q : p = e
      · rw [← q, c1] at a3
        exact absurd (by omega) a3
      · omega
    · rw [if_neg c2] at h
      obtain ⟨_, i, ⟨a1, _⟩, _, a2⟩ := h
      omega
  · rw [if_neg c1] at h
    omega
end TQ
