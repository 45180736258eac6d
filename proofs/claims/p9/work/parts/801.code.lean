/-! code, with the height of the stack and a level at each instruction -/
def Jn (g : Gh) (k pc t h : Nat) : Prop := ∃ k', g t = some (h, k') ∧ (k' < k ∨ (k' = k ∧ pc < t))
def PLn (n : Nat) : Prop := n ≤ 25 ∨ 41 ≤ n
/-- an instruction; pd: its aim is still open -/
def OPk (n : Nat) (a : Int) (g : Gh) (CP : Int → Nat → Prop) (pd : Prop) (pc h k : Nat) : Prop :=
  (1 ≤ n ∧ n ≤ 60 ∧ (n ≤ 33 ∨ 41 ≤ n)) ∧
  (PLn n → po n ≤ h ∧ ∃ h' : Nat, (h' : Int) = h + de n ∧ Jn g k pc (pc + ln n) h') ∧
  (n = 26 → pd ∨ (0 ≤ a ∧ Jn g k pc a.toNat h)) ∧
  (n = 27 ∨ n = 28 → 1 ≤ h ∧ Jn g k pc (pc + 2) (h - 1) ∧ (pd ∨ (0 ≤ a ∧ Jn g k pc a.toNat (h - 1)))) ∧
  (n = 29 ∨ n = 30 → 1 ≤ h ∧ Jn g k pc (pc + 2) (h - 1) ∧ (pd ∨ (0 ≤ a ∧ Jn g k pc a.toNat h))) ∧
  (n = 31 → ∃ k', g (pc + 2) = some (h, k')) ∧
  (n = 32 → ∃ m, CP a m ∧ m ≤ h ∧ Jn g k pc (pc + 3) (h - m + 1)) ∧
  (n = 33 → 1 ≤ h)
def OPy (w : Nat → Int32) (g : Gh) (CP : Int → Nat → Prop) (pd : Prop) (pc h k : Nat) : Prop := ∃ n : Nat, (w pc).toInt = n ∧ OPk n (w (pc + 1)).toInt g CP pd pc h k
/-- where it ends, the next begins; nothing begins within -/
def BDw (w : Nat → Int32) (g : Gh) (e pc : Nat) : Prop := ∃ n : Nat, (w pc).toInt = n ∧ pc + ln n ≤ e ∧ g (pc + ln n) ≠ none ∧ ∀ j, pc < j → j < pc + ln n → g j = none
section OPS
variable {w w' : Nat → Int32} {g g' : Gh} {CP CP' : Int → Nat → Prop} {pd pd' : Prop} {n pc h k : Nat} {a : Int}
theorem jn_mono {t h' : Nat} (hg : ∀ q v, g q = some v → g' q = some v) (H : Jn g k pc t h') : Jn g' k pc t h' := by
  obtain ⟨k', h2, h3⟩ := H
  exact ⟨k', hg _ _ h2, h3⟩
theorem opk_mono (hg : ∀ q v, g q = some v → g' q = some v) (hC : ∀ a m, CP a m → CP' a m) (hp : pd → pd') (H : OPk n a g CP pd pc h k) : OPk n a g' CP' pd' pc h k := by
  obtain ⟨h1, h2, h3, h4, h5, h6, h7, h8⟩ := H
  refine ⟨h1, fun c => ?_, fun c => ?_, fun c => ?_, fun c => ?_, fun c => ?_, fun c => ?_, h8⟩
  · obtain ⟨a1, h', a2, a3⟩ := h2 c
    exact ⟨a1, h', a2, jn_mono hg a3⟩
  · exact (h3 c).imp hp (fun q => ⟨q.1, jn_mono hg q.2⟩)
  · obtain ⟨a1, a2, a3⟩ := h4 c
    exact ⟨a1, jn_mono hg a2, a3.imp hp (fun q => ⟨q.1, jn_mono hg q.2⟩)⟩
  · obtain ⟨a1, a2, a3⟩ := h5 c
    exact ⟨a1, jn_mono hg a2, a3.imp hp (fun q => ⟨q.1, jn_mono hg q.2⟩)⟩
  · obtain ⟨k', a1⟩ := h6 c
    exact ⟨k', hg _ _ a1⟩
  · obtain ⟨m, a1, a2, a3⟩ := h7 c
    exact ⟨m, hC _ _ a1, a2, jn_mono hg a3⟩
theorem opw_mono (hw : w' pc = w pc) (hw1 : w' (pc + 1) = w (pc + 1)) (hg : ∀ q v, g q = some v → g' q = some v) (hC : ∀ a m, CP a m → CP' a m) (hp : pd → pd') (H : OPy w g CP pd pc h k) : OPy w' g' CP' pd' pc h k := by
  obtain ⟨n, h1, h2⟩ := H
  exact ⟨n, by rw [hw]; exact h1, by rw [hw1]; exact opk_mono hg hC hp h2⟩
theorem opk_pl (h0 : 1 ≤ n) (h1 : n ≤ 60) (hp : n ≤ 25 ∨ 41 ≤ n) (h2 : po n ≤ h) {h' : Nat} (h3 : (h' : Int) = h + de n) (h4 : Jn g k pc (pc + ln n) h') : OPk n a g CP pd pc h k :=
  ⟨⟨h0, h1, by omega⟩, fun _ => ⟨h2, h', h3, h4⟩, fun c => by omega, fun c => by omega, fun c => by omega, fun c => by omega, fun c => by omega, fun c => by omega⟩
end OPS
/-- a function's code, whole: header, its words up to the last return -/
def FUNc (w : Nat → Int32) (CP : Int → Nat → Prop) (N hd n L : Nat) (g : Gh) : Prop :=
  hd + 4 < N ∧ (0 ≤ (w hd).toInt ∧ (w hd).toInt ≤ 1000000) ∧ (w (hd + 1)).toInt = L ∧ L ≤ 100 ∧ (w (hd + 2)).toInt = n ∧ n ≤ 8 ∧ (∃ k, g (hd + 4) = some (0, k)) ∧ ∀ q h k, g q = some (h, k) → q < N ∧ h ≤ 420 ∧ OPy w g CP False q h k
/-! a rank among the instructions -/
def lwr (g : Gh) (k pc q : Nat) : Bool := match g q with
  | some (_, k') => decide (k' < k ∨ (k' = k ∧ pc < q))
  | none => false
def cnt (p : Nat → Bool) : Nat → Nat
  | 0 => 0
  | n + 1 => cnt p n + (if p n then 1 else 0)
theorem cnt_le (p : Nat → Bool) : ∀ n, cnt p n ≤ n := fun n => by
  induction n with
  | zero => exact Nat.le_refl _
  | succ n ih =>
    show cnt p n + _ ≤ _
    by_cases c : p n
    · rw [if_pos c]; omega
    · rw [if_neg c]; omega
theorem cnt_mono {p p' : Nat → Bool} (h : ∀ q, p q = true → p' q = true) : ∀ n, cnt p n ≤ cnt p' n := fun n => by
  induction n with
  | zero => exact Nat.le_refl _
  | succ n ih =>
    show cnt p n + _ ≤ cnt p' n + _
    by_cases c : p n
    · rw [if_pos c, if_pos (h _ c)]; omega
    · rw [if_neg c]; omega
theorem cnt_lt {p p' : Nat → Bool} (h : ∀ q, p q = true → p' q = true) {r : Nat} (h1 : p' r = true) (h2 : p r = false) : ∀ n, r < n → cnt p n < cnt p' n := fun n => by
  induction n with
  | zero => exact fun c => absurd c (Nat.not_lt_zero _)
  | succ n ih =>
    intro c
    show cnt p n + _ < cnt p' n + _
    by_cases e : r = n
    · subst e
      have := cnt_mono h r
      rw [if_pos h1, h2, if_neg (by decide)]
      omega
    · have := ih (by omega)
      by_cases c2 : p n
      · rw [if_pos c2, if_pos (h _ c2)]; omega
      · rw [if_neg c2]; omega
def rk (g : Gh) (N k pc : Nat) : Nat := cnt (lwr g k pc) N
theorem rk_jn {g : Gh} {N k pc t h : Nat} {k' : Nat} (e : g t = some (h, k')) (hl : k' < k ∨ (k' = k ∧ pc < t)) (ht : t < N) : rk g N k' t < rk g N k pc := by
  refine cnt_lt (r := t) (fun q hq => ?_) ?_ ?_ N ht
  · unfold lwr at hq ⊢
    cases e2 : g q with
    | none => rw [e2] at hq; cases hq
    | some v =>
      obtain ⟨a, b⟩ := v
      rw [e2] at hq
      have h1 := of_decide_eq_true hq
      exact decide_eq_true (by omega)
  · unfold lwr
    rw [e]
    exact decide_eq_true hl
  · unfold lwr
    rw [e]
    exact decide_eq_false (by omega)
