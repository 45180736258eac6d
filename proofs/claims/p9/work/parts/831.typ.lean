/-! typed code up to a place -/
def rs (g : Gh) (e : Nat) : Gh := fun q => if q ≤ e then g q else none
def TYp (w : Nat → Int32) (g : Gh) (CP : Int → Nat → Prop) (X : Nat → Prop) (b e H L : Nat) : Prop :=
  b ≤ e ∧ g e = some (H, L) ∧ ((∀ q, q < b → g q = none) ∧ g b = some (0, 0)) ∧ ∀ q h k, g q = some (h, k) → q < e → OPy w (rs g e) CP (X q) q h k ∧ BDw w (rs g e) e q
def BND (g : Gh) (s e B : Nat) : Prop := ∀ q h k, s ≤ q → q ≤ e → g q = some (h, k) → h ≤ B
def AGR (g g' : Gh) (e : Nat) : Prop := ∀ q, q ≤ e → g' q = g q
section TYP
variable {w w' : Nat → Int32} {g g' g'' : Gh} {CP CP' : Int → Nat → Prop} {X X' : Nat → Prop} {b e e' s H L H' L' : Nat}
theorem agr_rf : AGR g g e := fun _ _ => rfl
theorem agr_tr (h : AGR g g' e) (h2 : AGR g' g'' e') (he : e ≤ e') : AGR g g'' e := fun q hq => (h2 q (Nat.le_trans hq he)).trans (h q hq)
theorem agr_le (h : AGR g g' e) (he : e' ≤ e) : AGR g g' e' := fun q hq => h q (Nat.le_trans hq he)
theorem rs_le {q : Nat} (h : q ≤ e) : rs g e q = g q := if_pos h
theorem rs_gt {q : Nat} (h : e < q) : rs g e q = none := if_neg (by omega)
theorem rs_agr (h : AGR g g' e) : rs g' e = rs g e := funext (fun q => by
  unfold rs
  by_cases c : q ≤ e
  · rw [if_pos c, if_pos c, h q c]
  · rw [if_neg c, if_neg c])
theorem rs_up (he : e ≤ e') {q : Nat} {v : Nat × Nat} (h : rs g e q = some v) : rs g e' q = some v := by
  unfold rs at h ⊢
  by_cases c : q ≤ e
  · rw [if_pos c] at h
    rw [if_pos (by omega)]
    exact h
  · rw [if_neg c] at h
    cases h
theorem bnd_le {s' e' B B' : Nat} (h : BND g s e B) (h1 : s ≤ s') (h2 : e' ≤ e) (h3 : B ≤ B') : BND g s' e' B' := fun q hh k a b c => Nat.le_trans (h q hh k (by omega) (by omega) c) h3
theorem bnd_agr {B : Nat} (h : BND g s e B) (a : AGR g g' e) : BND g' s e B := fun q hh k x y z => h q hh k x y (by rw [← a q y]; exact z)
/-- an instruction of one word tells nothing of the next -/
theorem opk_arg {n pc h k : Nat} {a a' : Int} {pd : Prop} (hn : n < 26 ∨ 31 = n ∨ 32 < n) (H0 : OPk n a g CP pd pc h k) : OPk n a' g CP pd pc h k := by
  have k1 : n ≠ 26 := by omega
  have k2 : ¬ (n = 27 ∨ n = 28) := by omega
  have k3 : ¬ (n = 29 ∨ n = 30) := by omega
  have k4 : n ≠ 32 := by omega
  obtain ⟨h1, h2, h3, h4, h5, h6, h7, h8⟩ := H0
  exact ⟨h1, h2, fun c => absurd c k1, fun c => absurd c k2, fun c => absurd c k3, h6, fun c => absurd c k4, h8⟩
theorem ln_2 : ∀ n, n < 61 → 26 ≤ n → n ≤ 32 → n ≠ 31 → 2 ≤ ln n := by decide
/-- typed code stays so where its words and heights stay -/
theorem typ_mono (hw : ∀ q, q < e → w' q = w q) (hg : AGR g g' e) (hC : ∀ a m, CP a m → CP' a m) (hX : ∀ q, X q → X' q) (T : TYp w g CP X b e H L) : TYp w' g' CP' X' b e H L := by
  obtain ⟨h1, h2, h3, h4⟩ := T
  refine ⟨h1, by rw [hg e (Nat.le_refl _)]; exact h2, ⟨fun q hq => by rw [hg q (by omega)]; exact h3.1 q hq, by rw [hg b h1]; exact h3.2⟩, fun q h k hq hlt => ?_⟩
  rw [hg q (by omega)] at hq
  obtain ⟨⟨n, o1, o2⟩, n', d1, d2, d3, d4⟩ := h4 q h k hq hlt
  have en : n' = n := by omega
  subst en
  rw [rs_agr hg]
  refine ⟨⟨n', by rw [hw q hlt]; exact o1, ?_⟩, n', by rw [hw q hlt]; exact d1, d2, d3, d4⟩
  have o3 := opk_mono (g' := rs g e) (CP' := CP') (pd' := X' q) (fun _ _ h => h) hC (hX q) o2
  by_cases c : n' < 26 ∨ 31 = n' ∨ 32 < n'
  · exact opk_arg c o3
  · have := ln_2 n' (by have := o2.1.2.1; omega) (by omega) (by omega) (by omega)
    rw [hw (q + 1) (by omega)]
    exact o3
/-- one more instruction; the state behind it as is said -/
theorem typ_ext {n : Nat} (T : TYp w g CP X b e H L) (hw : ∀ q, q < e → w' q = w q) (hX : ∀ q, X q → X' q) (h0 : (w' e).toInt = n) (hl : 1 ≤ ln n)
    (ho : ∀ g', AGR g g' e → g' (e + ln n) = some (H', L') → (∀ q, e + ln n < q → g' q = none) → OPk n (w' (e + 1)).toInt g' CP (X' e) e H L) :
    ∃ g', TYp w' g' CP X' b (e + ln n) H' L' ∧ AGR g g' e ∧ (∀ j, e < j → j < e + ln n → g' j = none) := by
  obtain ⟨h1, h2, h3, h4⟩ := T
  let g' : Gh := fun q => if q = e + ln n then some (H', L') else if q ≤ e then g q else none
  have ga : AGR g g' e := fun q hq => by
    show (if q = e + ln n then _ else _) = _
    rw [if_neg (by omega), if_pos hq]
  have ge : g' (e + ln n) = some (H', L') := if_pos rfl
  have gi : ∀ j, e < j → j < e + ln n → g' j = none := fun j j1 j2 => by
    show (if j = e + ln n then _ else _) = _
    rw [if_neg (by omega), if_neg (by omega)]
  have gt : ∀ q, e + ln n < q → g' q = none := fun q hq => by
    show (if q = e + ln n then _ else _) = _
    rw [if_neg (by omega), if_neg (by omega)]
  have gr : rs g' (e + ln n) = g' := funext (fun q => by
    unfold rs
    by_cases c : q ≤ e + ln n
    · rw [if_pos c]
    · rw [if_neg c, gt q (by omega)])
  refine ⟨g', ⟨by omega, ge, ⟨fun q hq => by rw [ga q (by omega)]; exact h3.1 q hq, by rw [ga b h1]; exact h3.2⟩, fun q h k hq hlt => ?_⟩, ga, gi⟩
  rw [gr]
  by_cases c : q = e
  · subst c
    rw [ga q (Nat.le_refl _), h2] at hq
    cases hq
    exact ⟨⟨n, h0, ho g' ga ge gt⟩, n, h0, Nat.le_refl _, (by rw [ge]; exact fun z => by cases z), gi⟩
  · have c2 : q < e := by
      by_cases c3 : q < e
      · exact c3
      · rw [gi q (by omega) hlt] at hq
        cases hq
    have T2 := typ_mono (w' := w') (g' := g') (CP' := CP) (X' := X') hw ga (fun _ _ h => h) hX ⟨h1, h2, h3, h4⟩
    obtain ⟨o, n2, d1, d2, d3, d4⟩ := T2.2.2.2 q h k hq c2
    have up : ∀ p v, rs g' e p = some v → g' p = some v := fun p v z => by
      have := rs_up (g := g') (e := e) (e' := e + ln n) (by omega) z
      rw [gr] at this
      exact this
    refine ⟨opw_mono rfl rfl up (fun _ _ h => h) id o, n2, d1, by omega, ?_, fun j j1 j2 => ?_⟩
    · intro z
      rw [rs_le d2] at d3
      exact d3 z
    · have := d4 j j1 j2
      rw [rs_le (by omega)] at this
      exact this
/-- a plain instruction -/
theorem typ_pl {n : Nat} (T : TYp w g CP X b e H L) (hw : ∀ q, q < e → w' q = w q) (h0 : (w' e).toInt = n) (n1 : 1 ≤ n) (n60 : n ≤ 60) (pl : n ≤ 25 ∨ 41 ≤ n) (hp : po n ≤ H) (hd : (H' : Int) = H + de n) :
    ∃ g', TYp w' g' CP X b (e + ln n) H' L ∧ AGR g g' e ∧ (∀ j, e < j → j < e + ln n → g' j = none) := by
  have l1 := (ln_pos n (by omega) n1 (by omega)).1
  exact typ_ext T hw (fun _ h => h) h0 l1 (fun g' _ ge _ => opk_pl n1 n60 pl hp hd ⟨L, ge, Or.inr ⟨rfl, by omega⟩⟩)
/-- an open jump: 26 .. 30; behind it stands what is asked -/
theorem typ_hole {n : Nat} (T : TYp w g CP X b e H L) (hw : ∀ q, q < e → w' q = w q) (h0 : (w' e).toInt = n) (hn : 26 ≤ n ∧ n ≤ 30) (hh : n ≠ 26 → 1 ≤ H ∧ H' = H - 1 ∧ L' = L) :
    ∃ g', TYp w' g' CP (fun q => X q ∨ q = e) b (e + 2) H' L' ∧ AGR g g' e ∧ g' (e + 1) = none := by
  have l2 : ln n = 2 := by
    have : n = 26 ∨ n = 27 ∨ n = 28 ∨ n = 29 ∨ n = 30 := by omega
    rcases this with c | c | c | c | c <;> subst c <;> rfl
  have key : ∀ g' : Gh, g' (e + ln n) = some (H', L') → OPk n (w' (e + 1)).toInt g' CP (X e ∨ e = e) e H L := fun g' ge => by
    rw [l2] at ge
    refine ⟨⟨by omega, by omega, by omega⟩, fun c => by exfalso; unfold PLn at c; omega, fun _ => Or.inl (Or.inr rfl), fun c => ?_, fun c => ?_, fun c => by exfalso; omega, fun c => by exfalso; omega, fun c => by exfalso; omega⟩
    · obtain ⟨a1, a2, a3⟩ := hh (by omega)
      subst a2 a3
      exact ⟨a1, ⟨_, ge, Or.inr ⟨rfl, by omega⟩⟩, Or.inl (Or.inr rfl)⟩
    · obtain ⟨a1, a2, a3⟩ := hh (by omega)
      subst a2 a3
      exact ⟨a1, ⟨_, ge, Or.inr ⟨rfl, by omega⟩⟩, Or.inl (Or.inr rfl)⟩
  obtain ⟨g', t1, t2, t3⟩ := typ_ext (X' := fun q => X q ∨ q = e) (H' := H') (L' := L') T hw (fun _ h => Or.inl h) h0 (by omega) (fun g' _ ge _ => key g' ge)
  rw [l2] at t1 t3
  exact ⟨g', t1, t2, t3 (e + 1) (by omega) (by omega)⟩
/-- an open jump is aimed: at t, where the height is what it brings -/
theorem typ_aim {p t n h0 k0 ht : Nat} {v : Int32} (T : TYp w g CP (fun q => X q ∨ q = p) b e H L) (hp : g p = some (h0, k0)) (hpe : p + 2 ≤ e) (hn : (w p).toInt = n) (hn2 : 26 ≤ n ∧ n ≤ 30) (hw : ∀ q, q ≠ p + 1 → w' q = w q) (hv : w' (p + 1) = v) (hvt : v.toInt = t) (hte : t ≤ e) (hj : Jn g k0 p t ht) (hh : (n = 26 ∨ n = 29 ∨ n = 30 → ht = h0) ∧ (n = 27 ∨ n = 28 → ht = h0 - 1)) : TYp w' g CP X b e H L := by
  obtain ⟨h1, h2, h3, h4⟩ := T
  have l2 : ln n = 2 := by
    have : n = 26 ∨ n = 27 ∨ n = 28 ∨ n = 29 ∨ n = 30 := by omega
    rcases this with c | c | c | c | c <;> subst c <;> rfl
  have pn : g (p + 1) = none := by
    obtain ⟨-, m, d1, d2, d3, d4⟩ := h4 p h0 k0 hp (by omega)
    have : m = n := by omega
    subst this
    have := d4 (p + 1) (by omega) (by omega)
    rw [rs_le (by omega)] at this
    exact this
  refine ⟨h1, h2, h3, fun q h k hq hlt => ?_⟩
  obtain ⟨⟨m, o1, o2⟩, m', d1, d2, d3, d4⟩ := h4 q h k hq hlt
  have em : m' = m := by omega
  subst em
  have q1 : q ≠ p + 1 := fun c => by
    rw [c, pn] at hq
    cases hq
  refine ⟨⟨m', by rw [hw q q1]; exact o1, ?_⟩, m', by rw [hw q q1]; exact d1, d2, d3, d4⟩
  by_cases c : q = p
  · subst c
    rw [hp] at hq
    cases hq
    have em : m' = n := by omega
    subst em
    rw [hv, hvt]
    have ej : Jn (rs g e) k0 q t ht := by
      obtain ⟨k', x1, x2⟩ := hj
      exact ⟨k', by rw [rs_le hte]; exact x1, x2⟩
    have t0 : (0 : Int) ≤ (t : Int) := by omega
    have n32 : m' ≠ 32 := by omega
    have tn : ((t : Nat) : Int).toNat = t := by omega
    obtain ⟨y1, y2, y3, y4, y5, y6, y7, y8⟩ := o2
    refine ⟨y1, y2, fun c => Or.inr ⟨t0, ?_⟩, fun c => ⟨(y4 c).1, (y4 c).2.1, Or.inr ⟨t0, ?_⟩⟩, fun c => ⟨(y5 c).1, (y5 c).2.1, Or.inr ⟨t0, ?_⟩⟩, y6, fun c => absurd c n32, y8⟩
    · rw [← hh.1 (Or.inl c)]
      exact ej
    · rw [← hh.2 c]
      exact ej
    · rw [← hh.1 (Or.inr c)]
      exact ej
  · have o3 := opk_mono (g' := rs g e) (CP' := CP) (pd' := X q) (fun _ _ h => h) (fun _ _ h => h) (fun z => z.elim id (fun z => absurd z c)) o2
    rw [hw (q + 1) (by omega)]
    exact o3
end TYP
