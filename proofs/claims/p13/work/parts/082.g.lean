section
/-! typed code up to a place -/
def rs (g : Gh) (e : Nat) : Gh := fun q => if q ≤ e then g q else none
def TYp (w : Nat → Int32) (g : Gh) (CP : Int → Nat → Prop) (X : Nat → Prop) (b e H L : Nat) : Prop :=
  b ≤ e ∧ g e = some (H, L) ∧ ((∀ q, q < b → g q = none) ∧ g b = some (0, 0)) ∧ ∀ q h k, g q = some (h, k) → q < e → OPy w (rs g e) CP (X q) q h k ∧ BDw w (rs g e) e q
def BND (g : Gh) (s e B : Nat) : Prop := ∀ q h k, s ≤ q → q ≤ e → g q = some (h, k) → h ≤ B
def AGR (g g' : Gh) (e : Nat) : Prop := ∀ q, q ≤ e → g' q = g q
section TYP
variable {w w' : Nat → Int32} {g g' g'' : Gh} {CP CP' : Int → Nat → Prop} {X X' : Nat → Prop} {b e e' s H L H' L' : Nat}
theorem agr_rf : AGR g g e := fun _ _ => rfl
theorem agr_tr (h : AGR g g' e) (h2 : AGR g' g'' e') (he : e ≤ e') : AGR g g'' e := fun q hq => (h2 q (Nat.le_trans hq he)).trans (h q hq)
theorem agr_le (h : AGR g g' e) (he : e' ≤ e) : AGR g g' e' := fun q hq => h q (Nat.le_trans hq he)
theorem rs_le {q : Nat} (h : q ≤ e) : rs g e q = g q := if_pos h
theorem rs_gt {q : Nat} (h : e < q) : rs g e q = none := if_neg (by omega)
theorem rs_agr (h : AGR g g' e) : rs g' e = rs g e := funext (fun q => by
  unfold rs
  by_cases c : q ≤ e
  · rw [if_pos c, if_pos c, h q c]
  · rw [if_neg c, if_neg c])
theorem rs_up (he : e ≤ e') {q : Nat} {v : Nat × Nat} (h : rs g e q = some v) : rs g e' q = some v := by
  unfold rs at h ⊢
  by_cases c : q ≤ e
  · rw [if_pos c] at h
    rw [if_pos (by omega)]
    exact h
  · rw [if_neg c] at h
    cases h
theorem bnd_le {s' e' B B' : Nat} (h : BND g s e B) (h1 : s ≤ s') (h2 : e' ≤ e) (h3 : B ≤ B') : BND g s' e' B' := fun q hh k a b c => Nat.le_trans (h q hh k (by omega) (by omega) c) h3
theorem bnd_agr {B : Nat} (h : BND g s e B) (a : AGR g g' e) : BND g' s e B := fun q hh k x y z => h q hh k x y (by rw [← a q y]; exact z)
/-- an instruction of one word tells nothing of the next -/
theorem opk_arg {n pc h k : Nat} {a a' : Int} {pd : Prop} (hn : n < 26 ∨ 31 = n ∨ 32 < n) (H0 : OPk n a g CP pd pc h k) : OPk n a' g CP pd pc h k := by
  have k1 : n ≠ 26 := by omega
  have k2 : ¬ (n = 27 ∨ n = 28) := by omega
  have k3 : ¬ (n = 29 ∨ n = 30) := by omega
  have k4 : n ≠ 32 := by omega
  obtain ⟨h1, h2, h3, h4, h5, h6, h7, h8⟩ := H0
  exact ⟨h1, h2, fun c => absurd c k1, fun c => absurd c k2, fun c => absurd c k3, h6, fun c => absurd c k4, h8⟩
theorem ln_2 : ∀ n, n < 61 → 26 ≤ n → n ≤ 32 → n ≠ 31 → 2 ≤ ln n := by decide
/-- typed code stays so where its words and heights stay -/
theorem typ_mono (hw : ∀ q, q < e → w' q = w q) (hg : AGR g g' e) (hC : ∀ a m, CP a m → CP' a m) (hX : ∀ q, X q → X' q) (T : TYp w g CP X b e H L) : TYp w' g' CP' X' b e H L := by
  obtain ⟨h1, h2, h3, h4⟩ := T
  refine ⟨h1, by rw [hg e (Nat.le_refl _)]; exact h2, ⟨fun q hq => by rw [hg q (by omega)]; exact h3.1 q hq, by rw [hg b h1]; exact h3.2⟩, fun q h k hq hlt => ?_⟩
  rw [hg q (by omega)] at hq
  obtain ⟨⟨n, o1, o2⟩, n', d1, d2, d3, d4⟩ := h4 q h k hq hlt
  have en : n' = n := by omega
  subst en
  rw [rs_agr hg]
  refine ⟨⟨n', by rw [hw q hlt]; exact o1, ?_⟩, n', by rw [hw q hlt]; exact d1, d2, d3, d4⟩
  have o3 := opk_mono (g' := rs g e) (CP' := CP') (pd' := X' q) (fun _ _ h => h) hC (hX q) o2
  by_cases c : n' < 26 ∨ 31 = n' ∨ 32 < n'
  · exact opk_arg c o3
  · have := ln_2 n' (by have := o2.1.2.1; omega) (by omega) (by omega) (by omega)
    rw [hw (q + 1) (by omega)]
    exact o3
/-- one more instruction; the state behind it as is said -/
theorem typ_ext {n : Nat} (T : TYp w g CP X b e H L) (hw : ∀ q, q < e → w' q = w q) (hX : ∀ q, X q → X' q) (h0 : (w' e).toInt = n) (hl : 1 ≤ ln n)
    (ho : ∀ g', AGR g g' e → g' (e + ln n) = some (H', L') → (∀ q, e + ln n < q → g' q = none) → OPk n (w' (e + 1)).toInt g' CP (X' e) e H L) :
    ∃ g', TYp w' g' CP X' b (e + ln n) H' L' ∧ AGR g g' e ∧ (∀ j, e < j → j < e + ln n → g' j = none) := by
  obtain ⟨h1, h2, h3, h4⟩ := T
  let g' : Gh := fun q => if q = e + ln n then some (H', L') else if q ≤ e then g q else none
  have ga : AGR g g' e := fun q hq => by
    show (if q = e + ln n then _ else _) = _
    rw [if_neg (by omega), if_pos hq]
  have ge : g' (e + ln n) = some (H', L') := if_pos rfl
  have gi : ∀ j, e < j → j < e + ln n → g' j = none := fun j j1 j2 => by
    show (if j = e + ln n then _ else _) = _
    rw [if_neg (by omega), if_neg (by omega)]
  have gt : ∀ q, e + ln n < q → g' q = none := fun q hq => by
    show (if q = e + ln n then _ else _) = _
    rw [if_neg (by omega), if_neg (by omega)]
  have gr : rs g' (e + ln n) = g' := funext (fun q => by
    unfold rs
    by_cases c : q ≤ e + ln n
    · rw [if_pos c]
    · rw [if_neg c, gt q (by omega)])
  refine ⟨g', ⟨by omega, ge, ⟨fun q hq => by rw [ga q (by omega)]; exact h3.1 q hq, by rw [ga b h1]; exact h3.2⟩, fun q h k hq hlt => ?_⟩, ga, gi⟩
  rw [gr]
  by_cases c : q = e
  · subst c
    rw [ga q (Nat.le_refl _), h2] at hq
    cases hq
    exact ⟨⟨n, h0, ho g' ga ge gt⟩, n, h0, Nat.le_refl _, (by rw [ge]; exact fun z => by cases z), gi⟩
  · have c2 : q < e := by
      by_cases c3 : q < e
      · exact c3
      · rw [gi q (by omega) hlt] at hq
        cases hq
    have T2 := typ_mono (w' := w') (g' := g') (CP' := CP) (X' := X') hw ga (fun _ _ h => h) hX ⟨h1, h2, h3, h4⟩
    obtain ⟨o, n2, d1, d2, d3, d4⟩ := T2.2.2.2 q h k hq c2
    have up : ∀ p v, rs g' e p = some v → g' p = some v := fun p v z => by
      have := rs_up (g := g') (e := e) (e' := e + ln n) (by omega) z
      rw [gr] at this
      exact this
    refine ⟨opw_mono rfl rfl up (fun _ _ h => h) id o, n2, d1, by omega, ?_, fun j j1 j2 => ?_⟩
    · intro z
      rw [rs_le d2] at d3
      exact d3 z
    · have := d4 j j1 j2
      rw [rs_le (by omega)] at this
      exact this
/-- a plain instruction -/
theorem typ_pl {n : Nat} (T : TYp w g CP X b e H L) (hw : ∀ q, q < e → w' q = w q) (h0 : (w' e).toInt = n) (n1 : 1 ≤ n) (n60 : n ≤ 60) (pl : n ≤ 25 ∨ 41 ≤ n) (hp : po n ≤ H) (hd : (H' : Int) = H + de n) :
    ∃ g', TYp w' g' CP X b (e + ln n) H' L ∧ AGR g g' e ∧ (∀ j, e < j → j < e + ln n → g' j = none) := by
  have l1 := (ln_pos n (by omega) n1 (by omega)).1
  exact typ_ext T hw (fun _ h => h) h0 l1 (fun g' _ ge _ => opk_pl n1 n60 pl hp hd ⟨L, ge, Or.inr ⟨rfl, by omega⟩⟩)
/-- an open jump: 26 .. 30; behind it stands what is asked -/
theorem typ_hole {n : Nat} (T : TYp w g CP X b e H L) (hw : ∀ q, q < e → w' q = w q) (h0 : (w' e).toInt = n) (hn : 26 ≤ n ∧ n ≤ 30) (hh : n ≠ 26 → 1 ≤ H ∧ H' = H - 1 ∧ L' = L) :
    ∃ g', TYp w' g' CP (fun q => X q ∨ q = e) b (e + 2) H' L' ∧ AGR g g' e ∧ g' (e + 1) = none := by
  have l2 : ln n = 2 := by
    have : n = 26 ∨ n = 27 ∨ n = 28 ∨ n = 29 ∨ n = 30 := by omega
    rcases this with c | c | c | c | c <;> subst c <;> rfl
  have key : ∀ g' : Gh, g' (e + ln n) = some (H', L') → OPk n (w' (e + 1)).toInt g' CP (X e ∨ e = e) e H L := fun g' ge => by
    rw [l2] at ge
    refine ⟨⟨by omega, by omega, by omega⟩, fun c => by exfalso; unfold PLn at c; omega, fun _ => Or.inl (Or.inr rfl), fun c => ?_, fun c => ?_, fun c => by exfalso; omega, fun c => by exfalso; omega, fun c => by exfalso; omega⟩
    · obtain ⟨a1, a2, a3⟩ := hh (by omega)
      subst a2 a3
      exact ⟨a1, ⟨_, ge, Or.inr ⟨rfl, by omega⟩⟩, Or.inl (Or.inr rfl)⟩
    · obtain ⟨a1, a2, a3⟩ := hh (by omega)
      subst a2 a3
      exact ⟨a1, ⟨_, ge, Or.inr ⟨rfl, by omega⟩⟩, Or.inl (Or.inr rfl)⟩
  obtain ⟨g', t1, t2, t3⟩ := typ_ext (X' := fun q => X q ∨ q = e) (H' := H') (L' := L') T hw (fun _ h => Or.inl h) h0 (by omega) (fun g' _ ge _ => key g' ge)
  rw [l2] at t1 t3
  exact ⟨g', t1, t2, t3 (e + 1) (by omega) (by omega)⟩
/-- an open jump is aimed: at t, where the height is what it brings -/
theorem typ_aim {p t n h0 k0 ht : Nat} {v : Int32} (T : TYp w g CP (fun q => X q ∨ q = p) b e H L) (hp : g p = some (h0, k0)) (hpe : p + 2 ≤ e) (hn : (w p).toInt = n) (hn2 : 26 ≤ n ∧ n ≤ 30) (hw : ∀ q, q ≠ p + 1 → w' q = w q) (hv : w' (p + 1) = v) (hvt : v.toInt = t) (hte : t ≤ e) (hj : Jn g k0 p t ht) (hh : (n = 26 ∨ n = 29 ∨ n = 30 → ht = h0) ∧ (n = 27 ∨ n = 28 → ht = h0 - 1)) : TYp w' g CP X b e H L := by
  obtain ⟨h1, h2, h3, h4⟩ := T
  have l2 : ln n = 2 := by
    have : n = 26 ∨ n = 27 ∨ n = 28 ∨ n = 29 ∨ n = 30 := by omega
    rcases this with c | c | c | c | c <;> subst c <;> rfl
  have pn : g (p + 1) = none := by
    obtain ⟨-, m, d1, d2, d3, d4⟩ := h4 p h0 k0 hp (by omega)
    have : m = n := by omega
    subst this
    have := d4 (p + 1) (by omega) (by omega)
    rw [rs_le (by omega)] at this
    exact this
  refine ⟨h1, h2, h3, fun q h k hq hlt => ?_⟩
  obtain ⟨⟨m, o1, o2⟩, m', d1, d2, d3, d4⟩ := h4 q h k hq hlt
  have em : m' = m := by omega
  subst em
  have q1 : q ≠ p + 1 := fun c => by
    rw [c, pn] at hq
    cases hq
  refine ⟨⟨m', by rw [hw q q1]; exact o1, ?_⟩, m', by rw [hw q q1]; exact d1, d2, d3, d4⟩
  by_cases c : q = p
  · subst c
    rw [hp] at hq
    cases hq
    have em : m' = n := by omega
    subst em
    rw [hv, hvt]
    have ej : Jn (rs g e) k0 q t ht := by
      obtain ⟨k', x1, x2⟩ := hj
      exact ⟨k', by rw [rs_le hte]; exact x1, x2⟩
    have t0 : (0 : Int) ≤ (t : Int) := by omega
    have n32 : m' ≠ 32 := by omega
    have tn : ((t : Nat) : Int).toNat = t := by omega
    obtain ⟨y1, y2, y3, y4, y5, y6, y7, y8⟩ := o2
    refine ⟨y1, y2, fun c => Or.inr ⟨t0, ?_⟩, fun c => ⟨(y4 c).1, (y4 c).2.1, Or.inr ⟨t0, ?_⟩⟩, fun c => ⟨(y5 c).1, (y5 c).2.1, Or.inr ⟨t0, ?_⟩⟩, y6, fun c => absurd c n32, y8⟩
    · rw [← hh.1 (Or.inl c)]
      exact ej
    · rw [← hh.2 c]
      exact ej
    · rw [← hh.1 (Or.inr c)]
      exact ej
  · have o3 := opk_mono (g' := rs g e) (CP' := CP) (pd' := X q) (fun _ _ h => h) (fun _ _ h => h) (fun z => z.elim id (fun z => absurd z c)) o2
    rw [hw (q + 1) (by omega)]
    exact o3
end TYP
end

section
/-! the operands that wait, and their code -/
def KDq (σ : St) (q : Nat) : Int := (σ q 0).toInt
def HT (σ : St) (q : Nat) : Nat := (σ q 2).toInt.toNat
/-- a height that was told -/
def HOK (σ : St) (q : Nat) : Prop := 1 ≤ (σ q 2).toInt ∧ (σ q 2).toInt ≤ 60
def HB (σ : St) (g : Gh) (q s Hs e : Nat) : Prop := HOK σ q ∧ BND g s e (Hs + 7 * HT σ q)
def XU (X : Nat → Prop) (j : Nat) : Nat → Prop := fun q => X q ∨ q = j
/-- a jump that waits in an operand -/
def JW (σ : St) (g : Gh) (q s e L : Nat) (j : Nat) (n : Nat) (h : Nat) : Prop := (σ q 10).toInt = j ∧ s ≤ j ∧ j + 2 = e ∧ ((σ 24) j).toInt = n ∧ g j = some (h, L) ∧ ((σ 24) (j + 1)).toInt < 0
def itV (σ : St) (g : Gh) (q s Hs e H : Nat) : Prop := (0 ≤ KDq σ q ∧ KDq σ q ≤ 3) ∧ (KDq σ q = 1 ∨ KDq σ q = 2 → H = Hs) ∧ (KDq σ q = 0 ∨ KDq σ q = 3 → H = Hs + 1) ∧ HB σ g q s Hs e ∧ ((σ q 6).toInt = 1 → KDq σ q = 0 ∧ s + 2 ≤ e)
def itL (σ : St) (g : Gh) (L sg q s Hs : Nat) (Xs : Nat → Prop) (e H : Nat) (X : Nat → Prop) : Prop := HB σ g q s Hs e ∧ (0 ≤ KDq σ q ∧ KDq σ q ≤ 3) ∧ ((σ q 6).toInt = 1 → KDq σ q = 0 ∧ s + 2 ≤ e) ∧
  ((sg = 57 ∨ sg = 58) → H = Hs ∧ KDq σ q = 0 ∧ ∃ j n, (n = 29 ∨ n = 30) ∧ JW σ g q s e L j n (Hs + 1) ∧ X = XU Xs j) ∧
  (¬ (sg = 57 ∨ sg = 58) → X = Xs) ∧
  (sg = 30 → (KDq σ q = 1 ∨ KDq σ q = 2 → H = Hs) ∧ (KDq σ q = 0 ∨ KDq σ q = 3 → H = Hs + 1)) ∧
  (31 ≤ sg ∧ sg ≤ 40 → (KDq σ q = 3 → H = Hs + 2) ∧ (KDq σ q ≠ 3 → H = Hs + 1)) ∧
  (sg = 24 ∨ (41 ≤ sg ∧ sg ≤ 56) → H = Hs + 1 ∧ KDq σ q = 0)
def itQ (σ : St) (g : Gh) (L q s Hs : Nat) (Xs : Nat → Prop) (e H : Nat) (X : Nat → Prop) : Prop := H = Hs ∧ HB σ g q s Hs e ∧ (((σ q 10).toInt < 0 ∧ X = Xs) ∨ ∃ j n h, ((n = 26 ∧ h = Hs) ∨ (n = 27 ∧ h = Hs + 1)) ∧ JW σ g q s e L j n h ∧ X = XU Xs j)
def itC (σ : St) (g : Gh) (L q s Hs : Nat) (Xs : Nat → Prop) (e H : Nat) (X : Nat → Prop) : Prop := H = Hs ∧ HOK σ q ∧ HOK σ (q + 1) ∧ BND g s e (Hs + 7 * max (HT σ q) (HT σ (q + 1))) ∧ ∃ j, JW σ g q s e L j 26 (Hs + 1) ∧ X = XU Xs j
def itF (σ : St) (g : Gh) (CP : Int → Nat → Prop) (q s Hs : Nat) (Xs : Nat → Prop) (e H : Nat) (X : Nat → Prop) : Prop := X = Xs ∧ KDq σ q = 4 ∧ ∃ ar : Nat, (σ q 11).toInt = ar ∧ s + ar ≤ e ∧ H = Hs + ar ∧ (0 ≤ (σ q 2).toInt ∧ (σ q 2).toInt ≤ 60) ∧ (1 ≤ ar → 1 ≤ (σ q 2).toInt) ∧
  ∃ pr : Nat, pr ≤ 8 ∧ spar (atv 10100 (σ 27) (σ q 4)) = pr ∧ CP (σ q 4).toInt pr ∧ ((σ q 12).toInt = 0 → ar ≤ pr ∧ BND g s e (Hs + 7 * HT σ q + 7))
def ITx (σ : St) (g : Gh) (CP : Int → Nat → Prop) (b L : Nat) (it : It) (q s Hs : Nat) (Xs : Nat → Prop) (e H : Nat) (X : Nat → Prop) : Prop :=
  s ≤ e ∧ (σ q 9).toInt = s ∧ TYp (σ 24) g CP X b e H L ∧ (it.1 = 0 → X = Xs ∧ itV σ g q s Hs e H) ∧ (it.1 = 1 → itL σ g L it.2 q s Hs Xs e H X) ∧ (it.1 = 2 → itQ σ g L q s Hs Xs e H X) ∧ (it.1 = 3 → itC σ g L q s Hs Xs e H X) ∧ (it.1 = 5 → itF σ g CP q s Hs Xs e H X)
/-- no first of two sides on top -/
def NC (A : List It) : Prop := ∀ y B, A = y :: B → y.1 ≠ 3
def RLx (σ : St) (g : Gh) (CP : Int → Nat → Prop) (X0 : Nat → Prop) (b e0 H0 L : Nat) : List It → Nat → Nat → (Nat → Prop) → Prop
  | [], e, H, X => e = e0 ∧ H = H0 ∧ X = X0 ∧ TYp (σ 24) g CP X b e H L
  | it :: A, e, H, X => if it.1 = 4 then RLx σ g CP X0 b e0 H0 L A e H X ∧ KDq σ (65 + A.length) = 0 else NC A ∧ ∃ s Hs Xs, RLx σ g CP X0 b e0 H0 L A s Hs Xs ∧ ITx σ g CP b L it (65 + A.length) s Hs Xs e H X
section ITS
variable {σ s t : St} {g g' : Gh} {CP CP' : Int → Nat → Prop} {X0 X : Nat → Prop} {b e0 H0 L e H : Nat} {A : List It} {it : It}
theorem rlx_typ : ∀ (A : List It) (e H : Nat) (X : Nat → Prop), RLx σ g CP X0 b e0 H0 L A e H X → TYp (σ 24) g CP X b e H L ∧ e0 ≤ e
  | [], e, H, X => fun h => ⟨h.2.2.2, by rw [h.1]; exact Nat.le_refl _⟩
  | it :: A, e, H, X => fun h => by
    unfold RLx at h
    by_cases c : it.1 = 4
    · rw [if_pos c] at h
      exact rlx_typ A e H X h.1
    · rw [if_neg c] at h
      obtain ⟨-, s, Hs, Xs, h1, h2⟩ := h
      have := (rlx_typ A s Hs Xs h1).2
      exact ⟨h2.2.2.1, Nat.le_trans this h2.1⟩
/-- it stays where code, heights and operands stay -/
theorem rlx_mono (hC : ∀ a m, CP a m → CP' a m) (hx : (s 27) = (σ 27)) : ∀ (A : List It) (e H : Nat) (X : Nat → Prop), (∀ q, q < e → (s 24) q = (σ 24) q) → AGR g g' e → LOW A.length σ s → (NC A ∨ ∀ k, s (65 + A.length) k = σ (65 + A.length) k) → RLx σ g CP X0 b e0 H0 L A e H X → RLx s g' CP' X0 b e0 H0 L A e H X
  | [], e, H, X => fun hw hg _ _ h => ⟨h.1, h.2.1, h.2.2.1, typ_mono hw hg hC (fun _ h => h) h.2.2.2⟩
  | it :: A, e, H, X => fun hw hg hl hm h => by
    have hl' : ∀ k, s (65 + A.length) k = σ (65 + A.length) k := fun k => hl A.length k (by show A.length < A.length + 1; omega)
    have ekd : KDq s (65 + A.length) = KDq σ (65 + A.length) := by unfold KDq; rw [hl']
    unfold RLx at h ⊢
    by_cases c : it.1 = 4
    · rw [if_pos c] at h ⊢
      exact ⟨rlx_mono hC hx A e H X hw hg (low_le hl (Nat.le_succ _)) (Or.inr hl') h.1, by rw [ekd]; exact h.2⟩
    · rw [if_neg c] at h ⊢
      obtain ⟨nc, s0, Hs, Xs, h1, i1, i2, i3, i4, i5, i6, i7, i8⟩ := h
      have eht : HT s (65 + A.length) = HT σ (65 + A.length) := by unfold HT; rw [hl']
      have hok : HOK s (65 + A.length) = HOK σ (65 + A.length) := by unfold HOK; rw [hl']
      have hb : HB σ g (65 + A.length) s0 Hs e → HB s g' (65 + A.length) s0 Hs e := fun z => ⟨by rw [hok]; exact z.1, by rw [eht]; exact bnd_agr z.2 hg⟩
      have jw : ∀ j n h, JW σ g (65 + A.length) s0 e L j n h → JW s g' (65 + A.length) s0 e L j n h := fun j n h z => ⟨by rw [hl']; exact z.1, z.2.1, z.2.2.1, by rw [hw j (by have := z.2.2.1; omega)]; exact z.2.2.2.1, by rw [hg j (by have := z.2.2.1; omega)]; exact z.2.2.2.2.1, by rw [hw (j + 1) (by have := z.2.2.1; omega)]; exact z.2.2.2.2.2⟩
      refine ⟨nc, s0, Hs, Xs, rlx_mono hC hx A s0 Hs Xs (fun q hq => hw q (by omega)) (agr_le hg i1) (low_le hl (Nat.le_succ _)) (Or.inl nc) h1, i1, by rw [hl']; exact i2, typ_mono hw hg hC (fun _ h => h) i3, fun q => ?_, fun q => ?_, fun q => ?_, fun q => ?_, fun q => ?_⟩
      · obtain ⟨a0, a1, a2, a3, a4, a5⟩ := i4 q
        exact ⟨a0, by rw [ekd]; exact a1, by rw [ekd]; exact a2, by rw [ekd]; exact a3, hb a4, by rw [hl', ekd]; exact a5⟩
      · obtain ⟨a1, a2, a3, a4, a5, a6, a7, a8⟩ := i5 q
        refine ⟨hb a1, by rw [ekd]; exact a2, by rw [hl', ekd]; exact a3, fun z => ?_, a5, by rw [ekd]; exact a6, by rw [ekd]; exact a7, by rw [ekd]; exact a8⟩
        obtain ⟨b1, b2, j, n, b3, b4, b5⟩ := a4 z
        exact ⟨b1, by rw [ekd]; exact b2, j, n, b3, jw _ _ _ b4, b5⟩
      · obtain ⟨a1, a2, a3⟩ := i6 q
        refine ⟨a1, hb a2, ?_⟩
        rcases a3 with ⟨b1, b2⟩ | ⟨j, n, h, b1, b2, b3⟩
        · exact Or.inl ⟨by rw [hl']; exact b1, b2⟩
        · exact Or.inr ⟨j, n, h, b1, jw _ _ _ b2, b3⟩
      · obtain ⟨a1, a2, a3, a4, j, a5, a6⟩ := i7 q
        rcases hm with hm | hm
        · exact absurd q (hm it A rfl)
        · have hm' : ∀ k, s (65 + A.length + 1) k = σ (65 + A.length + 1) k := hm
          have hok1 : HOK s (65 + A.length + 1) = HOK σ (65 + A.length + 1) := by unfold HOK; rw [hm']
          have eht1 : HT s (65 + A.length + 1) = HT σ (65 + A.length + 1) := by unfold HT; rw [hm']
          exact ⟨a1, by rw [hok]; exact a2, by rw [hok1]; exact a3, by rw [eht, eht1]; exact bnd_agr a4 hg, j, jw _ _ _ a5, a6⟩
      · obtain ⟨a1, a2, ar, a3, a4, a5, a6, a7, pr, a8, a9, c1, c2⟩ := i8 q
        refine ⟨a1, by rw [ekd]; exact a2, ar, by rw [hl']; exact a3, a4, a5, by rw [hl']; exact a6, by rw [hl']; exact a7, pr, a8, by rw [hl', hx]; exact a9, by rw [hl']; exact hC _ _ c1, fun z => ?_⟩
        rw [hl'] at z
        rw [eht]
        exact ⟨(c2 z).1, bnd_agr (c2 z).2 hg⟩
end ITS
end

section
/-! operands: made, read, told -/
/-- only the cell q changed -/
def RO (q : Nat) (a b : St) : Prop := ∀ c k, c ≠ q → b c k = a c k
section OPB
variable {σ s t : St} {g g' : Gh} {CP CP' : Int → Nat → Prop} {X0 X : Nat → Prop} {b e0 H0 L e H n q : Nat} {A B : List It} {it : It} {x y : Int32}
theorem ro_up {k : Nat} {v : Int32} (h : RO q σ s) : RO q σ (upC s q k v) := fun c j hc => by rw [rdC_ne hc]; exact h c j hc
theorem ro_rf : RO q σ σ := fun _ _ _ => rfl
theorem ro_tr (h : RO q σ s) (h2 : RO q s t) : RO q σ t := fun c k hc => (h2 c k hc).trans (h c k hc)
theorem ro_ko {fs : List (Nat × Nat)} {cs : List Nat} (h : RO q σ s) (hq : isOp q) : Ko fs cs σ s := fun c k h0 _ _ => h c k (fun e => h0 (by rw [e]; exact hq))
theorem ro_low (h : RO q σ s) (hq : 65 + n ≤ q) : LOW n σ s := fun j k hj => h _ k (by omega)
theorem isOp_at (hn : n < 500) : isOp (65 + n) := Or.inr ⟨by omega, by omega⟩
theorem sp_reset {Q : St → Prop} (k : ∀ s, RO q σ s → KDq s q = 0 → (s q 1) = 0 → (s q 2).toInt = 1 → (s q 6) = 0 → (s q 9) = x → (s q 10).toInt = -1 → (s q 11) = 0 → (s q 12) = 0 → Q s) : wk_X6_reset q x σ Q := by
  unfold wk_X6_reset
  rintro _ rfl _ rfl _ rfl _ rfl _ rfl _ rfl _ rfl _ rfl _ rfl _ rfl _ rfl _ rfl _ rfl
  refine k _ (ro_up (ro_up (ro_up (ro_up (ro_up (ro_up (ro_up (ro_up (ro_up (ro_up (ro_up (ro_up (ro_up ro_rf))))))))))))) ?_ ?_ ?_ ?_ ?_ ?_ ?_ ?_
  · unfold KDq
    simp only [rdA, Nat.reduceEqDiff, if_true, if_false]
    rfl
  all_goals simp only [rdA, Nat.reduceEqDiff, if_true, if_false]
  · rfl
  · rfl
theorem sp_become {v w : Int32} {Q : St → Prop} (k : ∀ s, RO q σ s → KDq s q = 0 → (s q 1) = v → (s q 6) = w → (∀ j, j ≠ 0 → j ≠ 1 → j ≠ 6 → j ≠ 3 → s q j = σ q j) → Q s) : wk_X6_become q v w σ Q := by
  unfold wk_X6_become
  rintro _ rfl _ rfl _ rfl _ rfl
  refine k _ (ro_up (ro_up (ro_up (ro_up ro_rf)))) ?_ ?_ ?_ ?_
  · unfold KDq
    simp only [rdA, Nat.reduceEqDiff, if_true, if_false]
    rfl
  · simp only [rdA, Nat.reduceEqDiff, if_true, if_false]
  · simp only [rdA, Nat.reduceEqDiff, if_true, if_false]
  · intro j j0 j1 j6 j3
    rw [rdA_ne j3, rdA_ne j6, rdA_ne j1, rdA_ne j0]
/-- an operand is made -/
def PSH (σ s : St) (n : Nat) : Prop := Ko [(7, 7)] [] σ s ∧ LOW n σ s ∧ (s 7 7).toInt = n + 1 ∧ KDq s (65 + n) = 0 ∧ (s (65 + n) 2).toInt = 1 ∧ (s (65 + n) 6) = 0 ∧ (s (65 + n) 9) = (σ 4 1) ∧ (s (65 + n) 11) = 0 ∧ (s (65 + n) 12) = 0
theorem sp_opush {Q : Nat → St → Prop} (hc : (σ 7 7).toInt = n) (hn : n < 500) (k : ∀ s, PSH σ s n → Q (65 + n) s) : wk_X2_push σ Q := by
  have en : (σ 7 7).toNatClampNeg = n := by rw [nt', hc]; rfl
  unfold wk_X2_push
  refine ⟨fun q => q = 65 + n, ?_, False, fun f => f.elim, fun c => by omega, fun _ => ⟨fun c => by omega, fun _ => ⟨⟨by omega, by omega⟩, by rw [en]⟩⟩⟩
  rintro u - rfl
  refine sp_reset (fun s r k0 k1 k2 k6 k9 k10 k11 k12 => k _ ?_)
  have e7 : (s 7 7) = (σ 7 7) := r 7 7 (by omega)
  have ne : ∀ j, upC s 7 7 ((s 7 7) + (1 : Int32)) (65 + n) j = s (65 + n) j := fun j => by rw [rdC_ne (by omega)]
  refine ⟨ko_tr (ro_ko r (isOp_at hn)) (ko_kp (kp_f kp_rf rfl)), low_tr (ro_low r (Nat.le_refl _)) (low_kp (fs := [(7, 7)]) (cs := []) (kp_f kp_rf rfl) rfl rfl), ?_, ?_, ?_, ?_, ?_, ?_, ?_⟩
  · rw [rdA_eq rfl, e7, ad1 (by omega), hc]
  · unfold KDq
    rw [ne]
    exact k0
  · rw [ne]; exact k2
  · rw [ne]; exact k6
  · rw [ne]; exact k9
  · rw [ne]; exact k11
  · rw [ne]; exact k12
theorem sp_otop {Q : Nat → Prop} (hc : (σ 7 7).toInt = ((n + 1 : Nat) : Int)) (hn : n < 500) (k : Q (65 + n)) : wk_X2_top σ Q := by
  have e1 : ((σ 7 7) - (1 : Int32)).toInt = n := by rw [sb1 (by omega)]; omega
  have en : ((σ 7 7) - (1 : Int32)).toNatClampNeg = n := by rw [nt', e1]; rfl
  unfold wk_X2_top
  exact ⟨fun c => by omega, fun _ => ⟨fun c => by omega, fun _ => ⟨⟨by omega, by omega⟩, by rw [en]; exact k⟩⟩⟩
theorem sp_isPlace {Q : Int32 → Prop} (k0 : ¬ (1 ≤ KDq σ q ∧ KDq σ q ≤ 3) → Q 0) (k1 : 1 ≤ KDq σ q ∧ KDq σ q ≤ 3 → Q 1) : wk_X6_isPlace q σ Q := by
  unfold wk_X6_isPlace
  unfold KDq at k0 k1
  exact ⟨fun c => k1 (by omega), fun _ => ⟨fun c => k1 (by omega), fun _ => ⟨fun c => k0 (by omega), fun c => k1 (by omega)⟩⟩⟩
theorem sp_isConstant {Q : Int32 → Prop} (k0 : (σ q 6).toInt ≠ 1 → Q 0) (k1 : (σ q 6).toInt = 1 → Q 1) : wk_X6_isConstant q σ Q := ⟨k0, k1⟩
theorem sk_fits {Q : Int32 → Prop} (k0 : Q 0) (k1 : Q 1) : wk_X6_fits q x σ Q := by
  unfold wk_X6_fits
  exact ⟨True, fun _ => ⟨fun _ => k0, fun _ => ⟨fun _ => k0, fun _ => k1⟩⟩, fun _ => trivial, fun _ => ⟨fun _ => k1, fun _ => trivial⟩⟩
theorem sp_ufail {Q : St → Prop} (hx : x.toInt ≠ 0) (k : ∀ s, Kp [(6, 3), (6, 4)] [] σ s → (s 6 3).toInt ≠ 0 → Q s) : wk_X11_fail x y σ Q :=
  ⟨fun c => k _ kp_rf c, fun _ => k _ (kp_f (kp_f kp_rf rfl) rfl) hx⟩
theorem sp_refuse {Q : St → Prop} (k : ∀ s, Kp [(6, 3), (6, 4)] [] σ s → (s 6 3).toInt ≠ 0 → Q s) : wk_X2_refuse x σ Q := by
  unfold wk_X2_refuse
  exact sp_ufail (by decide) k
/-- the height is told: a fault above 60 -/
theorem sp_raise {v : Int32} {Q : St → Prop} (hq : q ≠ 6) (k : ∀ s, Ko [(6, 3), (6, 4)] [] (upC σ q 2 v) s → (∀ c j, c ≠ 6 → s c j = upC σ q 2 v c j) → ((s = upC σ q 2 v ∧ v.toInt ≤ 60) ∨ (s 6 3).toInt ≠ 0) → Q s) : wk_X2_raise q v x σ Q := by
  unfold wk_X2_raise
  rintro _ rfl
  refine ⟨fun c => k _ ko_rf (fun _ _ _ => rfl) (Or.inl ⟨rfl, c⟩), fun _ => sp_ufail (by decide) (fun s hs hf => k s (ko_kp hs) (fun c j hc => hs c j ?_ rfl) (Or.inr hf))⟩
  simp only [List.contains_cons, List.contains_nil, Bool.or_false, Bool.or_eq_false_iff]
  have : ((c, j) == ((6 : Nat), (3 : Nat))) = false := by
    cases z : ((c, j) == ((6 : Nat), (3 : Nat))) with
    | false => rfl
    | true =>
      have := eq_of_beq z
      exact absurd (congrArg Prod.fst this) hc
  have h2 : ((c, j) == ((6 : Nat), (4 : Nat))) = false := by
    cases z : ((c, j) == ((6 : Nat), (4 : Nat))) with
    | false => rfl
    | true =>
      have := eq_of_beq z
      exact absurd (congrArg Prod.fst this) hc
  exact ⟨this, h2⟩
theorem sp_kindOf {Q : Int32 → Prop} (k : ∀ v : Int32, v.toInt = tkx σ x → Q v) : wk_X2_kindOf x σ Q := k _ rfl
theorem sp_lineOf {Q : Int32 → Prop} (k : ∀ v : Int32, Q v) : wk_X2_lineOf x σ Q := k _
/-- a place is read: its operand a value -/
def LDs (σ s : St) (q : Nat) : Prop := Ko [(4, 1)] [24] σ s ∧ (∀ c k, c ≠ q → c ≠ 4 → c ≠ 24 → s c k = σ c k) ∧ KDq s q = 0 ∧ (∀ j, j ≠ 0 → s q j = σ q j) ∧ (∀ j, j < clen σ → (s 24) j = (σ 24) j) ∧ (σ 4 1).toInt ≤ (s 4 1).toInt ∧ ((s 4 1).toInt : Int) ≤ (σ 4 1).toInt + 2 ∧ (¬ (1 ≤ KDq σ q ∧ KDq σ q ≤ 3) → s = σ)
theorem em_cells {op a b c : Int32} (h : EMi σ s op a b c) (j k : Nat) (h4 : j ≠ 4) (h24 : j ≠ 24) : s j k = σ j k := h.1 j k (by
  simp only [List.contains_cons, List.contains_nil, Bool.or_false]
  cases z : ((j, k) == ((4 : Nat), (1 : Nat))) with
  | false => rfl
  | true =>
    have := eq_of_beq z
    exact absurd (congrArg Prod.fst this) h4) (by
  simp only [List.contains_cons, List.contains_nil, Bool.or_false]
  cases z : (j == (24 : Nat)) with
  | false => rfl
  | true => exact absurd (eq_of_beq z) h24)
theorem sp_loaded {Q : Nat → St → Prop} (h0 : 0 ≤ (σ 4 1).toInt) (h1 : (σ 4 1).toInt < 262200) (hq : isOp q) (hk : 0 ≤ KDq σ q ∧ KDq σ q ≤ 4)
    (k : ∀ s, LDs σ s q → (1 ≤ KDq σ q ∧ KDq σ q ≤ 3 → ∃ (n : Nat) (s1 : St) (a b c op : Int32), op.toInt = n ∧ (n = 18 ∧ KDq σ q = 3 ∨ (n = 5 ∨ n = 8) ∧ KDq σ q ≠ 3) ∧ EMi σ s1 op a b c ∧ s = upC s1 q 0 0) → (KDq σ q = 0 ∨ KDq σ q = 4 → s = σ ∧ KDq σ q = KDq s q) → Q q s) (k4 : KDq σ q ≠ 4) : wk_X2_loaded q σ Q := by
  unfold wk_X2_loaded
  have q4 : q ≠ 4 := fun e => by unfold isOp at hq; omega
  have q24 : q ≠ 24 := fun e => by unfold isOp at hq; omega
  have fin : ∀ (n : Nat) (op a b c : Int32) (s1 : St), op.toInt = n → (n = 18 ∧ KDq σ q = 3 ∨ (n = 5 ∨ n = 8) ∧ KDq σ q ≠ 3) → 1 ≤ KDq σ q ∧ KDq σ q ≤ 3 → EMi σ s1 op a b c → Q q (upC s1 q 0 (0 : Int32)) := fun n op a b c s1 hn hk2 hp em => by
    have l2 : ln n = 2 := by
      have : n = 18 ∨ n = 5 ∨ n = 8 := by omega
      rcases this with e | e | e <;> subst e <;> rfl
    have e5 : op.toInt.toNat = n := by omega
    have el : ((upC s1 q 0 (0 : Int32)) 4 1).toInt = (σ 4 1).toInt + 2 := by
      rw [rdC_ne (Ne.symm q4), em.2.1, e5, l2]
      rfl
    refine k _ ⟨ko_op (ko_kp em.1) hq, fun c k hc h4 h24 => by rw [rdC_ne hc]; exact em_cells em c k h4 h24, ?_, fun j hj => by rw [rdA_ne hj]; exact em_cells em q j q4 q24, fun j hj => by rw [rdC_ne (Ne.symm q24)]; exact em.2.2.1 j hj, by omega, by omega, fun z => absurd hp z⟩ (fun _ => ⟨n, s1, a, b, c, op, hn, hk2, em, rfl⟩) (fun z => by omega)
    unfold KDq
    rw [rdA_eq rfl]
    rfl
  refine sp_isPlace (fun np => ⟨fun _ => ?_, fun e => absurd rfl e⟩) (fun p => ⟨fun e => absurd e (by decide), fun _ => ⟨fun n3 => ?_, fun c3 => ?_⟩⟩)
  · have z0 : KDq σ q = 0 := by omega
    exact k σ ⟨ko_rf, fun _ _ _ _ _ => rfl, z0, fun _ _ => rfl, fun _ _ => rfl, by omega, by omega, fun _ => rfl⟩ (fun z => absurd z np) (fun _ => ⟨rfl, rfl⟩)
  · have n3' : KDq σ q ≠ 3 := n3
    refine ⟨fun y => y = 5 ∨ y = 8, ?_, fun _ => Or.inl rfl, fun _ => Or.inr rfl⟩
    rintro y hy
    have hy2 : ∃ n : Nat, y.toInt = n ∧ (n = 5 ∨ n = 8) := by
      rcases hy with e | e <;> subst e
      · exact ⟨5, rfl, Or.inl rfl⟩
      · exact ⟨8, rfl, Or.inr rfl⟩
    obtain ⟨n, hn, hn2⟩ := hy2
    refine sk_emit hn (by omega) h0 (by omega) (fun v s1 _ em => ?_)
    rintro _ rfl
    exact fin n y _ _ _ s1 hn (Or.inr ⟨hn2, n3'⟩) p em
  · have c3' : KDq σ q = 3 := c3
    refine sk_emit (n := 18) rfl (by decide) h0 (by omega) (fun v s1 _ em => ?_)
    rintro _ rfl
    exact fin 18 _ _ _ _ s1 rfl (Or.inl ⟨rfl, c3'⟩) p em
end OPB
end

section
/-! a step of an expression: what it keeps, what it leaves -/
abbrev KXE (a b : St) : Prop := Ko [(7, 7), (4, 1), (6, 3), (6, 4), (6, 5), (5, 9)] [17, 24, 25, 31, 32, 33, 39, 43] a b
def FLb (x f : Int32) : Prop := (x &&& f).toInt ≠ 0
def MKs (σ s : St) : Prop := (∀ j, ((s 25) j &&& 1 = (σ 25) j &&& 1) ∧ ((s 25) j &&& 2 = (σ 25) j &&& 2) ∧ ((s 25) j &&& 4 = (σ 25) j &&& 4) ∧ (FLb ((σ 25) j) 8 → FLb ((s 25) j) 8)) ∧ ∀ i, 0 ≤ ((σ 39) i).toInt → 0 ≤ ((s 39) i).toInt
/-- a function of this unit that may be called with so many -/
def CPu (σ : St) (a : Int) (m : Nat) : Prop := ((σ 5 1).toInt - (σ 6 7).toInt ≤ a ∧ a < (σ 5 1).toInt ∧ 0 ≤ a ∧ a < 10100) ∧ FLb ((σ 25) a.toNat) 1 ∧ FLb ((σ 25) a.toNat) 8 ∧ 0 ≤ ((σ 39) (a - ((σ 5 1).toInt - (σ 6 7).toInt)).toNat).toInt ∧ spar ((σ 27) a.toNat) = m
def plc (σ : St) : List It → Nat
  | [] => 0
  | it :: A => (if (it.1 = 0 ∨ it.1 = 1) ∧ 1 ≤ KDq σ (65 + A.length) ∧ KDq σ (65 + A.length) ≤ 3 then 1 else 0) + plc σ A
def XC (σ : St) (g : Gh) (X0 : Nat → Prop) (b e0 H0 L : Nat) (A : List It) : Prop := (σ 7 7).toInt = A.length ∧ NC A ∧ 0 ≤ (σ 4 1).toInt ∧ ∃ H X, RLx σ g (CPu σ) X0 b e0 H0 L A (clen σ) H X
def XRs (σ s : St) (g : Gh) (X0 : Nat → Prop) (b e0 H0 L : Nat) (A B : List It) (c : Nat) : Prop :=
  KXE σ s ∧ MKs σ s ∧ (∀ j, j < e0 → (s 24) j = (σ 24) j) ∧ (e0 : Int) ≤ (s 4 1).toInt ∧ ((s 6 3).toInt = 0 → (σ 6 3).toInt = 0) ∧ (s 4 1).toInt ≤ (σ 4 1).toInt + 12 ∧
  ((s 6 3).toInt = 0 → ∃ g', AGR g g' e0 ∧ XC s g' X0 b e0 H0 L B ∧ clen s + 2 * plc s B ≤ clen σ + 2 * plc σ A + c)
section XBS
variable {σ s t : St} {g g' : Gh} {CP CP' : Int → Nat → Prop} {X0 X Xs : Nat → Prop} {b e0 H0 L e H H' n q s0 Hs : Nat} {A B S : List It} {it : It} {x y : Int32}
theorem mks_rf : MKs σ σ := ⟨fun _ => ⟨rfl, rfl, rfl, id⟩, fun _ h => h⟩
theorem mks_tr (h : MKs σ s) (g : MKs s t) : MKs σ t := ⟨fun j => ⟨(g.1 j).1.trans (h.1 j).1, (g.1 j).2.1.trans (h.1 j).2.1, (g.1 j).2.2.1.trans (h.1 j).2.2.1, fun z => (g.1 j).2.2.2 ((h.1 j).2.2.2 z)⟩, fun i z => g.2 i (h.2 i z)⟩
theorem mks_eq (h1 : (s 25) = (σ 25)) (h2 : (s 39) = (σ 39)) : MKs σ s := ⟨fun j => by rw [h1]; exact ⟨rfl, rfl, rfl, id⟩, fun i z => by rw [h2]; exact z⟩
theorem flb1 {j : Nat} (h : MKs σ s) : FLb ((s 25) j) 1 ↔ FLb ((σ 25) j) 1 := by unfold FLb; rw [(h.1 j).1]
theorem cpu_mono (k : KXE σ s) (m : MKs σ s) : ∀ a n, CPu σ a n → CPu s a n := fun a n ⟨h1, h2, h3, h4, h5⟩ => by
  have e1 : (s 5 1) = (σ 5 1) := k 5 1 (op_lt (by decide)) rfl rfl
  have e2 : (s 6 7) = (σ 6 7) := k 6 7 (op_lt (by decide)) rfl rfl
  have e3 : (s 27) = (σ 27) := funext (fun j => k 27 j (op_lt (by decide)) rfl rfl)
  exact ⟨by rw [e1, e2]; exact h1, (flb1 m).mpr h2, (m.1 _).2.2.2 h3, by rw [e1, e2]; exact m.2 _ h4, by rw [e3]; exact h5⟩
theorem plc_low : ∀ A : List It, LOW A.length σ s → plc s A = plc σ A
  | [] => fun _ => rfl
  | it :: A => fun h => by
    have e : KDq s (65 + A.length) = KDq σ (65 + A.length) := by
      unfold KDq
      rw [h A.length 0 (by show A.length < A.length + 1; omega)]
    show (if (it.1 = 0 ∨ it.1 = 1) ∧ 1 ≤ KDq s (65 + A.length) ∧ KDq s (65 + A.length) ≤ 3 then 1 else 0) + plc s A = (if (it.1 = 0 ∨ it.1 = 1) ∧ 1 ≤ KDq σ (65 + A.length) ∧ KDq σ (65 + A.length) ≤ 3 then 1 else 0) + plc σ A
    rw [e, plc_low A (low_le h (Nat.le_succ _))]
theorem plc_0 (h : KDq σ (65 + A.length) = 0 ∨ KDq σ (65 + A.length) = 4) : plc σ (it :: A) = plc σ A := by
  show (if (it.1 = 0 ∨ it.1 = 1) ∧ 1 ≤ KDq σ (65 + A.length) ∧ KDq σ (65 + A.length) ≤ 3 then 1 else 0) + plc σ A = _
  rw [if_neg (by omega)]
  omega
theorem plc_1 (h : it.1 = 0 ∨ it.1 = 1) (h2 : 1 ≤ KDq σ (65 + A.length) ∧ KDq σ (65 + A.length) ≤ 3) : plc σ (it :: A) = plc σ A + 1 := by
  show (if (it.1 = 0 ∨ it.1 = 1) ∧ 1 ≤ KDq σ (65 + A.length) ∧ KDq σ (65 + A.length) ≤ 3 then 1 else 0) + plc σ A = _
  rw [if_pos ⟨h, h2⟩]
  omega
theorem plc_ge : plc σ A ≤ plc σ (it :: A) := Nat.le_add_left _ _
theorem nc_of (h : it.1 ≠ 3) : NC (it :: A) := fun y B e => by
  have := (List.cons.inj e).1
  rw [← this]
  exact h
theorem bnd_ext {B n : Nat} (h : BND g s0 e B) (a : AGR g g' e) (hi : ∀ j, e < j → j < e + n → g' j = none) (he : g' (e + n) = some (H', L)) (hB : H' ≤ B) : BND g' s0 (e + n) B := fun p hh k p1 p2 p3 => by
  by_cases c : p ≤ e
  · exact h p hh k p1 c (by rw [← a p c]; exact p3)
  · by_cases c2 : p < e + n
    · rw [hi p (by omega) c2] at p3
      cases p3
    · have : p = e + n := by omega
      rw [this, he] at p3
      cases p3
      exact hB
theorem bnd_one {B : Nat} (he : g e = some (H, L)) (hB : H ≤ B) : BND g e e B := fun p hh k p1 p2 p3 => by
  have : p = e := by omega
  rw [this, he] at p3
  cases p3
  exact hB
theorem rlx_V (nc : NC S) (h : RLx σ g CP X0 b e0 H0 L S s0 Hs Xs) (hs : s0 ≤ e) (h9 : (σ (65 + S.length) 9).toInt = s0) (T : TYp (σ 24) g CP Xs b e H L) (v : itV σ g (65 + S.length) s0 Hs e H) : RLx σ g CP X0 b e0 H0 L (iV :: S) e H Xs := by
  unfold RLx
  rw [if_neg (by decide)]
  exact ⟨nc, s0, Hs, Xs, h, hs, h9, T, fun _ => ⟨rfl, v⟩, fun c => absurd c (by decide), fun c => absurd c (by decide), fun c => absurd c (by decide), fun c => absurd c (by decide)⟩
theorem rlx_Vi (h : RLx σ g CP X0 b e0 H0 L (iV :: S) e H X) : NC S ∧ ∃ s0 Hs, RLx σ g CP X0 b e0 H0 L S s0 Hs X ∧ s0 ≤ e ∧ (σ (65 + S.length) 9).toInt = s0 ∧ TYp (σ 24) g CP X b e H L ∧ itV σ g (65 + S.length) s0 Hs e H := by
  unfold RLx at h
  rw [if_neg (by decide)] at h
  obtain ⟨nc, s0, Hs, Xs, h1, h2, h3, h4, h5, -⟩ := h
  obtain ⟨rfl, v⟩ := h5 rfl
  exact ⟨nc, s0, Hs, h1, h2, h3, h4, v⟩
theorem rlx_L {sg : Int} (nc : NC S) (h : RLx σ g CP X0 b e0 H0 L S s0 Hs Xs) (hs : s0 ≤ e) (h9 : (σ (65 + S.length) 9).toInt = s0) (T : TYp (σ 24) g CP X b e H L) (v : itL σ g L sg.toNat (65 + S.length) s0 Hs Xs e H X) : RLx σ g CP X0 b e0 H0 L (iL sg :: S) e H X := by
  unfold RLx
  rw [if_neg (by show ¬ (1 : Nat) = 4; decide)]
  exact ⟨nc, s0, Hs, Xs, h, hs, h9, T, fun c => absurd c (by show ¬ (1 : Nat) = 0; decide), fun _ => v, fun c => absurd c (by show ¬ (1 : Nat) = 2; decide), fun c => absurd c (by show ¬ (1 : Nat) = 3; decide), fun c => absurd c (by show ¬ (1 : Nat) = 5; decide)⟩
theorem rlx_Li {sg : Int} (h : RLx σ g CP X0 b e0 H0 L (iL sg :: S) e H X) : NC S ∧ ∃ s0 Hs Xs, RLx σ g CP X0 b e0 H0 L S s0 Hs Xs ∧ s0 ≤ e ∧ (σ (65 + S.length) 9).toInt = s0 ∧ TYp (σ 24) g CP X b e H L ∧ itL σ g L sg.toNat (65 + S.length) s0 Hs Xs e H X := by
  unfold RLx at h
  rw [if_neg (by show ¬ (1 : Nat) = 4; decide)] at h
  obtain ⟨nc, s0, Hs, Xs, h1, h2, h3, h4, -, h5, -⟩ := h
  exact ⟨nc, s0, Hs, Xs, h1, h2, h3, h4, h5 rfl⟩
theorem rlx_Q (nc : NC S) (h : RLx σ g CP X0 b e0 H0 L S s0 Hs Xs) (hs : s0 ≤ e) (h9 : (σ (65 + S.length) 9).toInt = s0) (T : TYp (σ 24) g CP X b e H L) (v : itQ σ g L (65 + S.length) s0 Hs Xs e H X) : RLx σ g CP X0 b e0 H0 L (iQ :: S) e H X := by
  unfold RLx
  rw [if_neg (by decide)]
  exact ⟨nc, s0, Hs, Xs, h, hs, h9, T, fun c => absurd c (by decide), fun c => absurd c (by decide), fun _ => v, fun c => absurd c (by decide), fun c => absurd c (by decide)⟩
theorem rlx_Qi (h : RLx σ g CP X0 b e0 H0 L (iQ :: S) e H X) : NC S ∧ ∃ s0 Hs Xs, RLx σ g CP X0 b e0 H0 L S s0 Hs Xs ∧ s0 ≤ e ∧ (σ (65 + S.length) 9).toInt = s0 ∧ TYp (σ 24) g CP X b e H L ∧ itQ σ g L (65 + S.length) s0 Hs Xs e H X := by
  unfold RLx at h
  rw [if_neg (by decide)] at h
  obtain ⟨nc, s0, Hs, Xs, h1, h2, h3, h4, -, -, h5, -⟩ := h
  exact ⟨nc, s0, Hs, Xs, h1, h2, h3, h4, h5 rfl⟩
theorem rlx_C (nc : NC S) (h : RLx σ g CP X0 b e0 H0 L S s0 Hs Xs) (hs : s0 ≤ e) (h9 : (σ (65 + S.length) 9).toInt = s0) (T : TYp (σ 24) g CP X b e H L) (v : itC σ g L (65 + S.length) s0 Hs Xs e H X) (hk : KDq σ (65 + (S.length + 1)) = 0) : RLx σ g CP X0 b e0 H0 L (iM :: iC :: S) e H X := by
  unfold RLx
  rw [if_pos (show iM.1 = 4 from rfl)]
  refine ⟨?_, hk⟩
  unfold RLx
  rw [if_neg (by decide)]
  exact ⟨nc, s0, Hs, Xs, h, hs, h9, T, fun c => absurd c (by decide), fun c => absurd c (by decide), fun c => absurd c (by decide), fun _ => v, fun c => absurd c (by decide)⟩
theorem rlx_Ci (h : RLx σ g CP X0 b e0 H0 L (iM :: iC :: S) e H X) : KDq σ (65 + (S.length + 1)) = 0 ∧ NC S ∧ ∃ s0 Hs Xs, RLx σ g CP X0 b e0 H0 L S s0 Hs Xs ∧ s0 ≤ e ∧ (σ (65 + S.length) 9).toInt = s0 ∧ TYp (σ 24) g CP X b e H L ∧ itC σ g L (65 + S.length) s0 Hs Xs e H X := by
  unfold RLx at h
  rw [if_pos (show iM.1 = 4 from rfl)] at h
  obtain ⟨h, hk⟩ := h
  unfold RLx at h
  rw [if_neg (by decide)] at h
  obtain ⟨nc, s0, Hs, Xs, h1, h2, h3, h4, -, -, -, h5, -⟩ := h
  exact ⟨hk, nc, s0, Hs, Xs, h1, h2, h3, h4, h5 rfl⟩
theorem rlx_F (nc : NC S) (h : RLx σ g CP X0 b e0 H0 L S s0 Hs Xs) (hs : s0 ≤ e) (h9 : (σ (65 + S.length) 9).toInt = s0) (T : TYp (σ 24) g CP X b e H L) (v : itF σ g CP (65 + S.length) s0 Hs Xs e H X) : RLx σ g CP X0 b e0 H0 L (iF :: S) e H X := by
  unfold RLx
  rw [if_neg (by decide)]
  exact ⟨nc, s0, Hs, Xs, h, hs, h9, T, fun c => absurd c (by decide), fun c => absurd c (by decide), fun c => absurd c (by decide), fun c => absurd c (by decide), fun _ => v⟩
theorem rlx_Fi (h : RLx σ g CP X0 b e0 H0 L (iF :: S) e H X) : NC S ∧ ∃ s0 Hs Xs, RLx σ g CP X0 b e0 H0 L S s0 Hs Xs ∧ s0 ≤ e ∧ (σ (65 + S.length) 9).toInt = s0 ∧ TYp (σ 24) g CP X b e H L ∧ itF σ g CP (65 + S.length) s0 Hs Xs e H X := by
  unfold RLx at h
  rw [if_neg (by decide)] at h
  obtain ⟨nc, s0, Hs, Xs, h1, h2, h3, h4, -, -, -, -, h5⟩ := h
  exact ⟨nc, s0, Hs, Xs, h1, h2, h3, h4, h5 rfl⟩
end XBS
end

section
/-! steps of an expression: numbers -/
section XLF
variable {σ s t : St} {g g' : Gh} {CP CP' : Int → Nat → Prop} {X0 X Xs : Nat → Prop} {b e0 H0 L e H H' n q s0 Hs : Nat} {A B S : List It} {it : It} {x y : Int32}
theorem em_words {op a b c : Int32} (h : EMi σ s op a b c) : ∀ j, j < clen σ → (s 24) j = (σ 24) j := h.2.2.1
theorem em_clen {op a b c : Int32} {n : Nat} (h : EMi σ s op a b c) (hn : op.toInt = n) (h0 : 0 ≤ (σ 4 1).toInt) : clen s = clen σ + ln n := by
  have e := h.2.1
  have en : op.toInt.toNat = n := by omega
  rw [en] at e
  have e1 := clen_eq h0
  have e2 := clen_eq (σ := s) (by omega)
  omega
/-- an operand is made, its code put behind all -/
theorem xr_leaf {op a1 a2 a3 : Int32} {m c : Nat} {s1 : St} (h : XC σ g X0 b e0 H0 L A) (hf : (s 6 3).toInt = 0 → (σ 6 3).toInt = 0) (hA : A.length < 500)
    (k1 : KXE σ s1) (mk : MKs σ s1) (l1 : LOW A.length σ s1) (w1 : (s1 24) = (σ 24)) (c1 : (s1 4 1) = (σ 4 1)) (cn1 : (s1 7 7).toInt = A.length + 1) (st1 : (s1 (65 + A.length) 9) = (σ 4 1)) (ht1 : (s1 (65 + A.length) 2).toInt = 1) (kd1 : KDq s1 (65 + A.length) = 0) (f6 : (s1 (65 + A.length) 6).toInt = 1 → 2 ≤ ln m)
    (em : EMi s1 s op a1 a2 a3) (hm : op.toInt = m) (m0 : 1 ≤ m ∧ m ≤ 25) (mp : po m = 0) (md : de m = 1) (mc : ln m ≤ c) (fu : (s 6 3) = (s1 6 3)) : XRs σ s g X0 b e0 H0 L A (iV :: A) c := by
  obtain ⟨h1, h2, h3, H, X, h4⟩ := h
  have hT := rlx_typ A _ H X h4
  have cl1 : clen s1 = clen σ := by unfold clen; rw [c1]
  have h31 : 0 ≤ (s1 4 1).toInt := by rw [c1]; exact h3
  have kem : KXE s1 s := ko_sub (ko_kp em.1) rfl rfl
  have ec := em_clen em hm h31
  have en := clen_eq h3
  have en1 := clen_eq h31
  have ce : ∀ j k, j ≠ 4 → j ≠ 24 → s j k = s1 j k := em_cells em
  have fl : (s 25) = (s1 25) := funext (fun j => ce 25 j (by decide) (by decide))
  have ct : (s 39) = (s1 39) := funext (fun j => ce 39 j (by decide) (by decide))
  have mk2 : MKs σ s := mks_tr mk (mks_eq fl ct)
  have k2 : KXE σ s := ko_tr k1 kem
  have ws : ∀ j, j < clen σ → (s 24) j = (σ 24) j := fun j hj => (em.2.2.1 j (by rw [cl1]; exact hj)).trans (by rw [w1])
  have lm : (s 4 1).toInt = (σ 4 1).toInt + ln m := by
    have e := em.2.1
    have en : op.toInt.toNat = m := by omega
    rw [en, c1] at e
    exact e
  have l4 : ∀ m, m < 61 → ln m ≤ 4 := by decide
  have l5 := l4 m (by omega)
  refine ⟨k2, mk2, fun j hj => ws j (by have := hT.2; omega), by have := hT.2; omega, hf, by omega, fun hf0 => ?_⟩
  have hlow : LOW A.length σ s := fun j k hj => by rw [ce _ k (by omega) (by omega)]; exact l1 j k hj
  have op0 : (s 24) (clen σ) = op := by rw [← cl1]; exact em.2.2.2.1
  obtain ⟨g', T', ag, gi⟩ := typ_pl (w' := (s 24)) (n := m) (H' := H + 1) (typ_mono (g' := g) (CP' := CPu s) (fun q _ => rfl) agr_rf (cpu_mono k2 mk2) (fun _ z => z) hT.1) (fun q hq => ws q hq) (by rw [op0]; exact hm) m0.1 (by omega) (Or.inl m0.2) (by omega) (by rw [md]; omega)
  have ecs : clen s = clen σ + ln m := by omega
  have hR : RLx s g' (CPu s) X0 b e0 H0 L A (clen σ) H X := rlx_mono (cpu_mono k2 mk2) (funext (fun j => k2 27 j (op_lt (by decide)) rfl rfl)) A _ H X ws ag hlow (Or.inl h2) h4
  refine ⟨g', agr_le ag hT.2, ⟨?_, nc_of (by decide), by omega, H + 1, X, ?_⟩, ?_⟩
  · have : (s 7 7).toInt = (s1 7 7).toInt := by rw [ce 7 7 (by decide) (by decide)]
    rw [this, cn1]
    show _ = ((A.length + 1 : Nat) : Int)
    omega
  · rw [ecs]
    have kd : KDq s (65 + A.length) = 0 := by
      unfold KDq
      rw [ce _ 0 (by omega) (by omega)]
      exact kd1
    have htx : (s (65 + A.length) 2).toInt = 1 := by rw [ce _ 2 (by omega) (by omega)]; exact ht1
    refine rlx_V h2 hR (Nat.le_add_right _ _) (by rw [ce _ 9 (by omega) (by omega), st1, en]) T' ⟨by omega, fun z => by omega, fun _ => rfl, ⟨⟨by omega, by omega⟩, ?_⟩, fun z => ⟨kd, ?_⟩⟩
    · have eh : HT s (65 + A.length) = 1 := by unfold HT; rw [htx]; rfl
      rw [eh]
      have hg : g (clen σ) = some (H, L) := hT.1.2.1
      exact bnd_ext (bnd_one (L := L) hg (by omega)) ag gi T'.2.1 (by omega)
    · rw [ce _ 6 (by omega) (by omega)] at z
      have := f6 z
      omega
  · have pk : plc s (iV :: A) = plc s A := plc_0 (Or.inl (by
      unfold KDq
      rw [ce _ 0 (by omega) (by omega)]
      exact kd1))
    rw [pk, plc_low A hlow]
    omega
end XLF
end

section
/-! names: looked up, marked, called -/
def PLA (σ : St) : Prop := ∀ j, 0 ≤ ((σ 15) j).toInt ∧ ((σ 15) j).toInt ≤ 16000
section XNM
variable {σ s t : St} {x y : Int32} {n : Nat}
theorem atv_pla (h : PLA σ) (x : Int32) : 0 ≤ (atv 16002 (σ 15) x).toInt ∧ (atv 16002 (σ 15) x).toInt ≤ 16000 := by
  rcases atv_cases 16002 (σ 15) x with ⟨e, -⟩ | ⟨j, -, -, e⟩
  · rw [e]
    exact ⟨by decide, by decide⟩
  · rw [e]
    exact h j
theorem sp_sameName {Q : Int32 → Prop} (hp : PLA σ) (k0 : Q 0) (k1 : Q 1) : wk_X10_sameName x y σ Q := by
  have hx := atv_pla hp x
  have hy := atv_pla hp y
  unfold wk_X10_sameName
  refine ⟨fun _ => ⟨fun n z => (n : Int) = 20000 - z.toInt ∧ 0 ≤ z.toInt, ⟨20000, by decide⟩, ?_⟩, fun _ => k0⟩
  rintro m z ⟨h1, h2⟩
  have e0 : z.toInt ≤ 20000 → (atv 16002 (σ 15) x + z).toInt = (atv 16002 (σ 15) x).toInt + z.toInt := fun h => ad (by omega) (by omega)
  have e1 : z.toInt ≤ 20000 → (atv 16002 (σ 15) y + z).toInt = (atv 16002 (σ 15) y).toInt + z.toInt := fun h => ad (by omega) (by omega)
  have hz : z.toInt ≤ 20000 := by omega
  have e0' := e0 hz
  have e1' := e1 hz
  refine ⟨fun _ => k1, fun _ => ⟨fun _ => k0, fun c => ⟨fun _ => k0, fun c2 => ⟨⟨by omega, c⟩, ⟨by omega, c2⟩, fun _ => ⟨m - 1, ?_, ?_, ?_⟩, fun _ => k0⟩⟩⟩⟩
  · omega
  · rw [ad1 (by omega)]
    omega
  · rw [ad1 (by omega)]
    omega
theorem sp_localFrom {Q : Int32 → Prop} (hp : PLA σ) (hs : (σ 6 15).toInt ≤ 1000 ∧ -1000 ≤ (σ 6 15).toInt) (hx : 0 ≤ x.toInt) (k : ∀ v, Q v) : wk_X11_localFrom x y σ Q := by
  unfold wk_X11_localFrom
  refine ⟨fun n z => n = (z.toInt + 1).toNat, ⟨_, rfl⟩, ?_⟩
  rintro m z h1
  refine ⟨fun _ => k _, fun c => sp_sameName hp ⟨fun _ => ⟨((z + (-1 : Int32)).toInt + 1).toNat, ?_, rfl⟩, fun _ => k _⟩ ⟨fun e => absurd e (by decide), fun _ => k _⟩⟩
  rw [dc1 (by omega)]
  omega
/-- the declaration outside of functions with a name -/
theorem sp_outerOf {Q : Int32 → Prop} (hp : PLA σ) (ho : 0 ≤ (σ 6 7).toInt ∧ (σ 6 7).toInt ≤ 100) (hd : (σ 6 7).toInt ≤ (σ 5 1).toInt ∧ (σ 5 1).toInt ≤ 10100) (k0 : Q (-1)) (k1 : ∀ v : Int32, (σ 5 1).toInt - (σ 6 7).toInt ≤ v.toInt → v.toInt < (σ 5 1).toInt → Q v) : wk_X11_outerOf y σ Q := by
  unfold wk_X11_outerOf
  refine ⟨fun n z => n = (100 - z.toInt).toNat ∧ 0 ≤ z.toInt, ⟨_, rfl, by decide⟩, ?_⟩
  rintro m z ⟨h1, h2⟩
  refine ⟨fun _ => k0, fun c => sp_sameName hp ⟨fun _ => ⟨(100 - (z + 1).toInt).toNat, ?_, rfl, ?_⟩, fun e => absurd rfl e⟩ ⟨fun e => absurd e (by decide), fun _ => ?_⟩⟩
  · rw [ad1 (by omega)]
    omega
  · rw [ad1 (by omega)]
    omega
  · have e1 : ((σ 5 1) - (σ 6 7)).toInt = (σ 5 1).toInt - (σ 6 7).toInt := sb (by omega) (by omega)
    have e2 : (((σ 5 1) - (σ 6 7)) + z).toInt = (σ 5 1).toInt - (σ 6 7).toInt + z.toInt := by rw [ad (by omega) (by omega), e1]
    exact k1 _ (by rw [e2]; omega) (by rw [e2]; omega)
theorem and_or (x y z : Int32) : (x ||| y) &&& z = (x &&& z) ||| (y &&& z) := by
  apply Int32.toBitVec_inj.1
  apply BitVec.eq_of_getLsbD_eq
  intro i hi
  simp [Bool.and_or_distrib_right]
theorem flb_or {x y z : Int32} (h : FLb x z) (hz : y &&& z = 0 ∨ (y &&& z = z)) (hz2 : z = 1 ∨ z = 2 ∨ z = 4 ∨ z = 8) : FLb (x ||| y) z := by
  unfold FLb at h ⊢
  rw [and_or]
  rcases hz with e | e
  · rw [e, Int32.or_zero]
    exact h
  · rw [e]
    intro c
    have c2 : (x &&& z) ||| z = 0 := Int32.toInt_inj.mp c
    have c5 : ((x &&& z) ||| z) &&& z = z := by
      apply Int32.toBitVec_inj.1
      apply BitVec.eq_of_getLsbD_eq
      intro i hi
      simp
      intro q1
      exact Or.inr q1
    rw [c2, Int32.zero_and] at c5
    rcases hz2 with e | e | e | e <;> subst e <;> exact absurd c5 (by decide)
theorem flb_set {x z : Int32} (hz2 : z = 1 ∨ z = 2 ∨ z = 4 ∨ z = 8) : FLb (x ||| z) z := by
  unfold FLb
  intro c
  have c2 : (x ||| z) &&& z = 0 := Int32.toInt_inj.mp c
  have c5 : (x ||| z) &&& z = z := by
    apply Int32.toBitVec_inj.1
    apply BitVec.eq_of_getLsbD_eq
    intro i hi
    simp
    intro q2
    exact Or.inr q2
  rw [c2] at c5
  rcases hz2 with e | e | e | e <;> subst e <;> exact absurd c5 (by decide)
/-- a mention -/
theorem sp_mark8 {Q : St → Prop} (k : ∀ s, Kp [] [25] σ s → MKs σ s → (∀ j : Nat, x.toInt = j → j < 10100 → FLb ((s 25) j) 8) → Q s) : wk_X8_mark x 8 σ Q := by
  unfold wk_X8_mark
  refine k _ (kp_F kp_rf rfl) ⟨fun j => ?_, fun i z => z⟩ (fun j h1 h2 => ?_)
  · show ((setv 10100 (σ 25) x _) j &&& 1 = _) ∧ ((setv 10100 (σ 25) x _) j &&& 2 = _) ∧ ((setv 10100 (σ 25) x _) j &&& 4 = _) ∧ (_ → FLb ((setv 10100 (σ 25) x _) j) 8)
    rcases setv_cases 10100 (σ 25) x (atv 10100 (σ 25) x ||| 8) with ⟨e, -⟩ | ⟨i, e1, e2, e3⟩
    · rw [e]
      exact ⟨rfl, rfl, rfl, id⟩
    · rw [e3, atv_at e1 e2]
      by_cases c : j = i
      · subst c
        simp only [if_true]
        have z1 : (8 : Int32) &&& 1 = 0 := by decide
        have z2 : (8 : Int32) &&& 2 = 0 := by decide
        have z4 : (8 : Int32) &&& 4 = 0 := by decide
        refine ⟨by rw [and_or, z1, Int32.or_zero], by rw [and_or, z2, Int32.or_zero], by rw [and_or, z4, Int32.or_zero], fun _ => flb_set (by decide)⟩
      · simp only [if_neg c]
        exact ⟨trivial, trivial, trivial, id⟩
  · show FLb ((setv 10100 (σ 25) x _) j) 8
    rw [setv_at h1 h2]
    simp only [if_true]
    exact flb_set (by decide)
theorem sk_is {f : Int32} {Q : Int32 → Prop} (k0 : ¬ FLb (atv 10100 (σ 25) x) f → Q 0) (k1 : FLb (atv 10100 (σ 25) x) f → Q 1) : wk_X8_is x f σ Q := ⟨fun c => k0 (fun h => h c), fun c => k1 c⟩
end XNM
end

section
/-! steps of an expression: a number, a function's name -/
/-- what a unit keeps while it is compiled -/
def UXs (σ : St) : Prop := PLA σ ∧ (0 ≤ (σ 6 7).toInt ∧ (σ 6 7).toInt ≤ 100) ∧ ((σ 6 7).toInt ≤ (σ 5 1).toInt ∧ (σ 5 1).toInt ≤ 10100) ∧ ((σ 6 15).toInt ≤ 1000 ∧ -1000 ≤ (σ 6 15).toInt) ∧ (∀ j, FLb ((σ 25) j) 1 → spar ((σ 27) j) ≤ 8)
section XL2
variable {σ s t : St} {g g' : Gh} {CP CP' : Int → Nat → Prop} {X0 X Xs : Nat → Prop} {b e0 H0 L e H H' n q s0 Hs : Nat} {A B S : List It} {it : It} {x y : Int32}
theorem uxs_k (k : KXE σ s) (m : MKs σ s) (h : UXs σ) : UXs s := by
  have e1 : (s 5 1) = (σ 5 1) := k 5 1 (op_lt (by decide)) rfl rfl
  have e2 : (s 6 7) = (σ 6 7) := k 6 7 (op_lt (by decide)) rfl rfl
  have e3 : (s 27) = (σ 27) := funext (fun j => k 27 j (op_lt (by decide)) rfl rfl)
  have e4 : (s 6 15) = (σ 6 15) := k 6 15 (op_lt (by decide)) rfl rfl
  have e5 : (s 15) = (σ 15) := funext (fun j => k 15 j (op_lt (by decide)) rfl rfl)
  obtain ⟨h1, h2, h3, h4, h5⟩ := h
  exact ⟨by unfold PLA; rw [e5]; exact h1, by rw [e2]; exact h2, by rw [e1, e2]; exact h3, by rw [e4]; exact h4, fun j q => by rw [e3]; exact h5 j ((flb1 m).mp q)⟩
theorem psh_k (p : PSH σ s n) : KXE σ s := ko_sub p.1 rfl rfl
theorem ro_mks (h : RO q σ s) (hq : q ≠ 25) (hq2 : q ≠ 39) : MKs σ s := mks_eq (funext (fun j => h 25 j (Ne.symm hq))) (funext (fun j => h 39 j (Ne.symm hq2)))
theorem psh_rows (p : PSH σ s n) : (s 24) = (σ 24) ∧ (s 4 1) = (σ 4 1) ∧ (s 25) = (σ 25) ∧ (s 39) = (σ 39) ∧ (s 6 3) = (σ 6 3) :=
  ⟨funext (fun j => p.1 24 j (op_lt (by decide)) rfl rfl), p.1 4 1 (op_lt (by decide)) rfl rfl, funext (fun j => p.1 25 j (op_lt (by decide)) rfl rfl), funext (fun j => p.1 39 j (op_lt (by decide)) rfl rfl), p.1 6 3 (op_lt (by decide)) rfl rfl⟩
theorem xs_number {Q : St → Prop} (h : XC σ g X0 b e0 H0 L A) (cap : (σ 4 1).toInt ≤ 262150) (hA : A.length < 500) (k : ∀ s, XRs σ s g X0 b e0 H0 L A (iV :: A) 2 → Q s) : wk_X2_number x σ Q := by
  unfold wk_X2_number
  refine sp_opush h.1 hA (fun s1 p => ?_)
  rintro _ rfl _ rfl
  refine ⟨fun _ => True, fun y1 _ _ => ?_, fun _ => trivial, fun _ => trivial⟩
  rintro _ rfl
  have hop := isOp_at hA
  obtain ⟨w1, c1, fl1, ct1, fu1⟩ := psh_rows p
  generalize hz : upC (upC (upC s1 (65 + A.length) 6 (1 : Int32)) (65 + A.length) 8 (atv 16002 ((upC s1 (65 + A.length) 6 (1 : Int32)) 14) x)) (65 + A.length) 3 y1 = z
  have hro : RO (65 + A.length) s1 z := by rw [← hz]; exact ro_up (ro_up (ro_up ro_rf))
  have zq : ∀ j, j ≠ 6 → j ≠ 8 → j ≠ 3 → z (65 + A.length) j = s1 (65 + A.length) j := fun j h6 h8 h3 => by rw [← hz, rdA_ne h3, rdA_ne h8, rdA_ne h6]
  have kz : KXE σ z := ko_tr (psh_k p) (ro_ko hro hop)
  have mz : MKs σ z := mks_tr (mks_eq fl1 ct1) (ro_mks hro (by omega) (by omega))
  have cz : (z 4 1) = (σ 4 1) := (hro 4 1 (by omega)).trans c1
  have z0 : 0 ≤ (z 4 1).toInt := by rw [cz]; exact h.2.2.1
  have z1 : (z 4 1).toInt < 262204 := by rw [cz]; omega
  refine sk_emit (n := 1) rfl (by decide) z0 z1 (fun v s _ em => k s ?_)
  have fz : (z 6 3) = (σ 6 3) := (hro 6 3 (by omega)).trans fu1
  have fs : (s 6 3) = (z 6 3) := em_cells em 6 3 (by decide) (by decide)
  exact xr_leaf h (fun hf => by rw [fs, fz] at hf; exact hf) hA kz mz (low_tr p.2.1 (ro_low hro (Nat.le_refl _))) ((funext (fun j => hro 24 j (by omega))).trans w1) cz (by rw [hro 7 7 (by omega)]; exact p.2.2.1) (by rw [zq 9 (by decide) (by decide) (by decide)]; exact p.2.2.2.2.2.2.1) (by rw [zq 2 (by decide) (by decide) (by decide)]; exact p.2.2.2.2.1) (by unfold KDq; rw [zq 0 (by decide) (by decide) (by decide)]; exact p.2.2.2.1) (fun _ => by decide) em (m := 1) rfl (by decide) rfl rfl (by decide) fs
theorem sp_mentionCall {Q : St → Prop} (u : UXs σ) (hx : (σ 5 1).toInt - (σ 6 7).toInt ≤ x.toInt ∧ x.toInt < (σ 5 1).toInt) (hy : 0 ≤ y.toInt) (k : ∀ s, Kp [] [25, 39] σ s → MKs σ s → (∀ j : Nat, x.toInt = j → FLb ((s 25) j) 8) → 0 ≤ ((s 39) (x.toInt - ((σ 5 1).toInt - (σ 6 7).toInt)).toNat).toInt → Q s) : wk_X11_mentionCall x y σ Q := by
  obtain ⟨u1, u2, u3, u4, u5⟩ := u
  have e1 : ((σ 5 1) - (σ 6 7)).toInt = (σ 5 1).toInt - (σ 6 7).toInt := sb (by omega) (by omega)
  have e2 : (x - ((σ 5 1) - (σ 6 7))).toInt = x.toInt - ((σ 5 1).toInt - (σ 6 7).toInt) := by rw [sb (by omega) (by omega), e1]
  obtain ⟨i, hi⟩ : ∃ i : Nat, x.toInt - ((σ 5 1).toInt - (σ 6 7).toInt) = i := ⟨(x.toInt - ((σ 5 1).toInt - (σ 6 7).toInt)).toNat, by omega⟩
  have ei : (x.toInt - ((σ 5 1).toInt - (σ 6 7).toInt)).toNat = i := by omega
  unfold wk_X11_mentionCall
  refine sp_mark8 (fun s hs m hf => ?_)
  have fl : ∀ j : Nat, x.toInt = j → FLb ((s 25) j) 8 := fun j hj => hf j hj (by omega)
  have ec : (s 39) = (σ 39) := funext (fun j => hs 39 j rfl rfl)
  have ea : atv 100 (s 39) (x - ((σ 5 1) - (σ 6 7))) = (s 39) i := atv_at (by omega) (by omega)
  rw [ei] at k
  refine ⟨fun c => k s (kp_sub hs rfl rfl) m fl (by rw [ea] at c; exact c), fun c => ?_⟩
  rw [ea] at c
  have es : setv 100 (s 39) (x - ((σ 5 1) - (σ 6 7))) y = fun j => if j = i then y else (s 39) j := setv_at (by omega) (by omega)
  refine k _ (kp_F (kp_sub hs rfl rfl) rfl) ⟨fun j => m.1 j, fun j hj => ?_⟩ fl ?_
  · show 0 ≤ ((setv 100 (s 39) (x - ((σ 5 1) - (σ 6 7))) y) j).toInt
    rw [es]
    show 0 ≤ (if j = i then y else (s 39) j).toInt
    split
    · exact hy
    · rw [ec]
      exact hj
  · show 0 ≤ ((setv 100 (s 39) (x - ((σ 5 1) - (σ 6 7))) y) i).toInt
    rw [es]
    show 0 ≤ (if i = i then y else (s 39) i).toInt
    rw [if_pos rfl]
    exact hy
/-- a fault, and nothing else -/
theorem xr_bad {B : List It} {c : Nat} (h : XC σ g X0 b e0 H0 L A) (k : Kp [(6, 3), (6, 4)] [] σ s) (hf : (s 6 3).toInt ≠ 0) : XRs σ s g X0 b e0 H0 L A B c := by
  obtain ⟨h1, h2, h3, H, X, h4⟩ := h
  have hT := rlx_typ A _ H X h4
  have e1 : (s 4 1) = (σ 4 1) := k 4 1 rfl rfl
  have en := clen_eq h3
  refine ⟨ko_sub (ko_kp k) rfl rfl, mks_eq (funext (fun j => k 25 j rfl rfl)) (funext (fun j => k 39 j rfl rfl)), fun j _ => k 24 j rfl rfl, by rw [e1]; have := hT.2; omega, fun c => absurd c hf, by rw [e1]; omega, fun c => absurd c hf⟩
theorem xs_callee {Q : St → Prop} (u : UXs σ) (h : XC σ g X0 b e0 H0 L A) (hA : A.length < 500) (htk : tkx σ x = 2) (k : ∀ s, XRs σ s g X0 b e0 H0 L A (iF :: A) 0 → Q s) : wk_X2_callee x σ Q := by
  have hx : 0 ≤ x.toInt := by
    unfold tkx at htk
    rcases atv_cases 16002 (σ 13) x with ⟨e, -⟩ | ⟨j, e, -, -⟩
    · rw [e] at htk
      exact absurd htk (by decide)
    · omega
  have u' := u
  obtain ⟨u1, u2, u3, u4, u5⟩ := u'
  have refuse : wk_X2_refuse x σ (fun s43 => Q s43) := sp_refuse (fun s hs hf => k s (xr_bad h hs hf))
  unfold wk_X2_callee
  refine sp_localFrom u1 u4 (by decide) (fun v => ?_)
  refine ⟨fun y => y = -1 ∨ ((σ 5 1).toInt - (σ 6 7).toInt ≤ y.toInt ∧ y.toInt < (σ 5 1).toInt), ?_, fun _ => Or.inl rfl, fun _ => sp_outerOf u1 u2 u3 (Or.inl rfl) (fun v a b => Or.inr ⟨a, b⟩)⟩
  intro y hy
  refine ⟨True, fun _ => refuse, fun _ => trivial, fun c => sk_is (fun _ => ⟨fun e => absurd rfl e, fun _ => trivial⟩) (fun fl => ⟨fun _ => ?_, fun e => absurd e (by decide)⟩)⟩
  have hy2 : (σ 5 1).toInt - (σ 6 7).toInt ≤ y.toInt ∧ y.toInt < (σ 5 1).toInt := by
    rcases hy with e | e
    · rw [e] at c
      exact absurd c (by decide)
    · exact e
  refine sp_mentionCall u hy2 hx (fun s1 k1 m1 f8 ct => ?_)
  have e7 : (s1 7 7) = (σ 7 7) := k1 7 7 rfl rfl
  refine sp_opush (n := A.length) (by rw [e7]; exact h.1) hA (fun s2 p => ?_)
  rintro _ rfl _ rfl _ rfl _ rfl
  have hop := isOp_at hA
  obtain ⟨w2, c2, fl2, ct2, fu2⟩ := psh_rows p
  generalize hz : upC (upC (upC (upC s2 (65 + A.length) 0 (4 : Int32)) (65 + A.length) 4 y) (65 + A.length) 1 (atv 10100 ((upC (upC s2 (65 + A.length) 0 (4 : Int32)) (65 + A.length) 4 y) 26) y)) (65 + A.length) 2 (0 : Int32) = z
  have hro : RO (65 + A.length) s2 z := by rw [← hz]; exact ro_up (ro_up (ro_up (ro_up ro_rf)))
  have zq : ∀ j, z (65 + A.length) j = if j = 2 then 0 else if j = 1 then (atv 10100 ((upC (upC s2 (65 + A.length) 0 (4 : Int32)) (65 + A.length) 4 y) 26) y) else if j = 4 then y else if j = 0 then 4 else s2 (65 + A.length) j := fun j => by rw [← hz, rdA, rdA, rdA, rdA]
  have kz : KXE σ z := ko_tr (ko_tr (ko_sub (ko_kp k1) rfl rfl) (psh_k p)) (ro_ko hro hop)
  have mz : MKs σ z := mks_tr (mks_tr m1 (mks_eq fl2 ct2)) (ro_mks hro (by omega) (by omega))
  have wz : (z 24) = (σ 24) := (funext (fun j => hro 24 j (by omega))).trans (w2.trans (funext (fun j => k1 24 j rfl rfl)))
  have clz : (z 4 1) = (σ 4 1) := (hro 4 1 (by omega)).trans (c2.trans (k1 4 1 rfl rfl))
  have fz : (z 6 3) = (σ 6 3) := (hro 6 3 (by omega)).trans (fu2.trans (k1 6 3 rfl rfl))
  have lz : LOW A.length σ z := low_tr (low_tr (low_kp k1 rfl rfl) p.2.1) (ro_low hro (Nat.le_refl _))
  have h' := h
  obtain ⟨h1, h2, h3, H, X, h4⟩ := h'
  have hT := rlx_typ A _ H X h4
  have en := clen_eq h3
  have ecl : clen z = clen σ := by unfold clen; rw [clz]
  refine k z ⟨kz, mz, fun j _ => by rw [wz], by rw [clz]; have := hT.2; omega, fun hf => by rw [fz] at hf; exact hf, by rw [clz]; omega, fun _ => ⟨g, agr_rf, ⟨?_, nc_of (by decide), by rw [clz]; exact h3, H, X, ?_⟩, ?_⟩⟩
  · rw [hro 7 7 (by omega), p.2.2.1]
    show _ = ((A.length + 1 : Nat) : Int)
    omega
  · have hR : RLx z g (CPu z) X0 b e0 H0 L A (clen σ) H X := rlx_mono (cpu_mono kz mz) (funext (fun j => kz 27 j (op_lt (by decide)) rfl rfl)) A _ H X (fun j _ => by rw [wz]) agr_rf lz (Or.inl h2) h4
    have hT2 := (rlx_typ A _ H X hR).1
    rw [ecl]
    have ey : y.toInt = ((y.toInt.toNat : Nat) : Int) := by omega
    have ext : (z 27) = (σ 27) := funext (fun j => kz 27 j (op_lt (by decide)) rfl rfl)
    have fl1 : FLb ((σ 25) y.toInt.toNat) 1 := by
      rw [atv_at (f := (σ 25)) ey (by omega)] at fl
      exact fl
    refine rlx_F h2 hR (Nat.le_refl _) ?_ hT2 ⟨rfl, ?_, 0, ?_, by omega, by omega, ?_, fun c => absurd c (by decide), spar ((σ 27) y.toInt.toNat), u5 _ fl1, ?_, ?_, fun _ => ⟨Nat.zero_le _, ?_⟩⟩
    · rw [zq]
      show (s2 (65 + A.length) 9).toInt = _
      rw [p.2.2.2.2.2.2.1, k1 4 1 rfl rfl]
      exact en.symm
    · unfold KDq
      rw [zq]
      rfl
    · rw [zq]
      show (s2 (65 + A.length) 11).toInt = _
      rw [p.2.2.2.2.2.2.2.1]
      rfl
    · rw [zq]
      show (0 : Int) ≤ 0 ∧ (0 : Int) ≤ 60
      omega
    · rw [zq, ext]
      show spar (atv 10100 (σ 27) y) = _
      rw [atv_at ey (by omega)]
    · rw [zq]
      show CPu z y.toInt _
      have e1 : (z 5 1) = (σ 5 1) := kz 5 1 (op_lt (by decide)) rfl rfl
      have e2 : (z 6 7) = (σ 6 7) := kz 6 7 (op_lt (by decide)) rfl rfl
      have efl : (z 25) = (s1 25) := (funext (fun j => hro 25 j (by omega))).trans fl2
      have ect : (z 39) = (s1 39) := (funext (fun j => hro 39 j (by omega))).trans ct2
      exact ⟨by rw [e1, e2]; omega, (flb1 mz).mpr fl1, by rw [efl]; exact f8 _ ey, by rw [e1, e2, ect]; exact ct, by rw [ext]⟩
    · exact bnd_one hT2.2.1 (by omega)
  · rw [plc_0 (Or.inr (by unfold KDq; rw [zq]; rfl)), plc_low A lz]
    omega
end XL2
end

section
/-! the top operand: read, taken -/
def pk (σ : St) (q : Nat) : Nat := if 1 ≤ KDq σ q ∧ KDq σ q ≤ 3 then 1 else 0
/-- the value on top, and what stands below it -/
def VAL (s : St) (g : Gh) (X0 : Nat → Prop) (b e0 H0 L : Nat) (S : List It) (s0 Hs : Nat) (X : Nat → Prop) : Prop := NC S ∧ RLx s g (CPu s) X0 b e0 H0 L S s0 Hs X ∧ s0 ≤ clen s ∧ (s (65 + S.length) 9).toInt = s0 ∧ TYp (s 24) g (CPu s) X b (clen s) (Hs + 1) L ∧ itV s g (65 + S.length) s0 Hs (clen s) (Hs + 1) ∧ KDq s (65 + S.length) = 0
section XLD
variable {σ s t : St} {g g' : Gh} {CP CP' : Int → Nat → Prop} {X0 X Xs : Nat → Prop} {b e0 H0 L e H H' n q s0 Hs : Nat} {A B S : List It} {it : It} {x y : Int32}
theorem lds_k (h : LDs σ s q) : KXE σ s := ko_sub h.1 rfl rfl
theorem lds_m (h : LDs σ s q) (hq : q ≠ 25 ∧ q ≠ 39) : MKs σ s := mks_eq (funext (fun j => h.2.1 25 j (Ne.symm hq.1) (by decide) (by decide))) (funext (fun j => h.2.1 39 j (Ne.symm hq.2) (by decide) (by decide)))
theorem lds_low (h : LDs σ s q) (hq : 65 + n ≤ q) : LOW n σ s := fun j k hj => h.2.1 _ k (by omega) (by omega) (by omega)
theorem plc_V : plc σ (iV :: S) = pk σ (65 + S.length) + plc σ S := by
  unfold pk
  show (if (iV.1 = 0 ∨ iV.1 = 1) ∧ 1 ≤ KDq σ (65 + S.length) ∧ KDq σ (65 + S.length) ≤ 3 then 1 else 0) + plc σ S = _
  by_cases c : 1 ≤ KDq σ (65 + S.length) ∧ KDq σ (65 + S.length) ≤ 3
  · rw [if_pos c, if_pos ⟨Or.inl rfl, c⟩]
  · rw [if_neg c, if_neg (fun z => c z.2)]
theorem plc_L {sg : Int} : plc σ (iL sg :: S) = pk σ (65 + S.length) + plc σ S := by
  unfold pk
  show (if ((iL sg).1 = 0 ∨ (iL sg).1 = 1) ∧ 1 ≤ KDq σ (65 + S.length) ∧ KDq σ (65 + S.length) ≤ 3 then 1 else 0) + plc σ S = _
  by_cases c : 1 ≤ KDq σ (65 + S.length) ∧ KDq σ (65 + S.length) ≤ 3
  · rw [if_pos c, if_pos ⟨Or.inr rfl, c⟩]
  · rw [if_neg c, if_neg (fun z => c z.2)]
theorem xc_loaded {Q : Nat → St → Prop} (h : XC σ g X0 b e0 H0 L (iV :: S)) (hS : S.length < 500) (cap : (σ 4 1).toInt ≤ 262180)
    (k : ∀ s g' s0 Hs X, LDs σ s (65 + S.length) → AGR g g' (clen σ) → VAL s g' X0 b e0 H0 L S s0 Hs X → e0 ≤ s0 → clen s ≤ clen σ + 2 * pk σ (65 + S.length) → 0 ≤ (s 4 1).toInt → Q (65 + S.length) s) : wk_X2_loaded (65 + S.length) σ Q := by
  obtain ⟨h1, h2, h3, H, X, h4⟩ := h
  obtain ⟨nc, s0, Hs, r1, r2, r3, r4, v⟩ := rlx_Vi h4
  have hT := rlx_typ S _ _ _ r1
  have v' := v
  obtain ⟨v1, v2, v3, ⟨v4, v5⟩, v6⟩ := v'
  have hq := isOp_at hS
  have en := clen_eq h3
  refine sp_loaded h3 (by omega) hq ⟨v1.1, by omega⟩ (fun s ld kp kn => ?_) (by omega)
  have k2 := lds_k ld
  have m2 := lds_m ld ⟨by omega, by omega⟩
  have low : LOW S.length σ s := lds_low ld (Nat.le_refl _)
  have ext : (s 27) = (σ 27) := funext (fun j => k2 27 j (op_lt (by decide)) rfl rfl)
  have ht : HT s (65 + S.length) = HT σ (65 + S.length) := by unfold HT; rw [ld.2.2.2.1 2 (by decide)]
  have hok : HOK s (65 + S.length) := by unfold HOK; rw [ld.2.2.2.1 2 (by decide)]; exact v4
  have s3 : 0 ≤ (s 4 1).toInt := by have := ld.2.2.2.2.2.1; omega
  by_cases c : 1 ≤ KDq σ (65 + S.length) ∧ KDq σ (65 + S.length) ≤ 3
  · obtain ⟨m, s1, a1, a2, a3, op, hm, hm2, em, es⟩ := kp c
    have l2 : ln m = 2 := by
      have : m = 18 ∨ m = 5 ∨ m = 8 := by omega
      rcases this with e | e | e <;> subst e <;> rfl
    have ws : ∀ j, j < clen σ → (s 24) j = (σ 24) j := ld.2.2.2.2.1
    have wop : (s 24) (clen σ) = op := by
      rw [es, rdC_ne (by omega)]
      exact em.2.2.2.1
    have ecl : clen s = clen σ + 2 := by
      have e1 := em_clen em hm h3
      have : clen s = clen s1 := by
        unfold clen
        rw [es, rdC_ne (by omega)]
      rw [this, e1, l2]
    have hpo : po m ≤ H ∧ ((Hs + 1 : Nat) : Int) = H + de m := by
      rcases hm2 with ⟨e, e2⟩ | ⟨e, e2⟩
      · subst e
        have := v3 (Or.inr e2)
        have d : de 18 = 0 := rfl
        have p : po 18 = 1 := rfl
        rw [d, p]
        omega
      · have := v2 (by omega)
        have d : de m = 1 := by rcases e with e | e <;> subst e <;> rfl
        have p : po m = 0 := by rcases e with e | e <;> subst e <;> rfl
        rw [d, p]
        omega
    obtain ⟨g', T', ag, gi⟩ := typ_pl (w' := (s 24)) (n := m) (H' := Hs + 1) (typ_mono (g' := g) (CP' := CPu s) (fun q _ => rfl) agr_rf (cpu_mono k2 m2) (fun _ z => z) r4) ws (by rw [wop]; exact hm) (by omega) (by omega) (by omega) hpo.1 hpo.2
    rw [l2] at T' gi
    rw [← ecl] at T'
    have gi' : ∀ j, clen σ < j → j < clen σ + 2 → g' j = none := gi
    refine k s g' s0 Hs X ld ag ⟨nc, rlx_mono (cpu_mono k2 m2) ext S _ _ _ (fun j hj => ws j (by omega)) (agr_le ag r2) low (Or.inl nc) r1, by omega, by rw [ld.2.2.2.1 9 (by decide)]; exact r3, T', ⟨by rw [ld.2.2.1]; omega, fun z => by rw [ld.2.2.1] at z; omega, fun _ => rfl, ⟨hok, ?_⟩, fun z => ⟨ld.2.2.1, by rw [ld.2.2.2.1 6 (by decide)] at z; have := (v6 z).2; omega⟩⟩, ld.2.2.1⟩ (by have := hT.2; omega) (by unfold pk; rw [if_pos c]; omega) s3
    rw [ht, ecl]
    exact bnd_ext v5 ag gi' (by rw [← ecl]; exact T'.2.1) (by have := v4.1; unfold HT; omega)
  · have kd : KDq σ (65 + S.length) = 0 := by omega
    obtain ⟨es, -⟩ := kn (Or.inl kd)
    subst es
    have eH := v3 (Or.inl kd)
    subst eH
    exact k s g s0 Hs X ld agr_rf ⟨nc, r1, r2, r3, r4, v, kd⟩ (by have := hT.2; omega) (Nat.le_add_right _ _) h3
/-- it is taken away: its value is left on the stack -/
theorem xc_pop {Q : Nat → St → Prop} (h : XC σ g X0 b e0 H0 L (iV :: S)) (hS : S.length < 500) (cap : (σ 4 1).toInt ≤ 262180)
    (k : ∀ s g' s0 Hs X, KXE σ s → MKs σ s → LOW S.length σ s → (∀ j, j ≠ 0 → s (65 + S.length) j = σ (65 + S.length) j) → (∀ c j, 65 + S.length < c → s c j = σ c j) → (∀ j, j < clen σ → (s 24) j = (σ 24) j) → AGR g g' (clen σ) → VAL s g' X0 b e0 H0 L S s0 Hs X → (s 7 7).toInt = S.length → e0 ≤ s0 → clen s ≤ clen σ + 2 * pk σ (65 + S.length) → clen σ ≤ clen s → 0 ≤ (s 4 1).toInt → (s 6 3) = (σ 6 3) → Q (65 + S.length) s) : wk_X2_pop σ Q := by
  have cnt := h.1
  unfold wk_X2_pop
  refine sp_otop (n := S.length) (by rw [cnt]; rfl) hS (xc_loaded h hS cap (fun s g' s0 Hs X ld ag va he hc hl => ?_))
  have e7 : (s 7 7) = (σ 7 7) := ld.2.1 7 7 (by omega) (by decide) (by decide)
  have cnt' : (σ 7 7).toInt = ((S.length + 1 : Nat) : Int) := cnt
  refine ⟨fun c => ?_, fun _ => ?_⟩
  · have : (s 7 7).toInt ≤ 0 := c
    rw [e7] at this
    omega
  have s3 : 0 ≤ (σ 4 1).toInt := h.2.2.1
  have en := clen_eq s3
  have en2 := clen_eq hl
  have lw := ld.2.2.2.2.2.1
  generalize hz : upC s 7 7 ((s 7 7) - (1 : Int32)) = z
  have zc : ∀ c j, c ≠ 7 → z c j = s c j := fun c j hc7 => by rw [← hz, rdC_ne hc7]
  have z7 : (z 7 7).toInt = S.length := by
    rw [← hz, rdA_eq rfl, e7, sb1 (by omega)]
    omega
  have kz : KXE s z := by rw [← hz]; exact ko_kp (kp_f kp_rf rfl)
  have k2 := lds_k ld
  have mz : MKs s z := mks_eq (funext (fun j => zc 25 j (by decide))) (funext (fun j => zc 39 j (by decide)))
  have zcl : clen z = clen s := by unfold clen; rw [zc 4 1 (by decide)]
  obtain ⟨nc, r1, r2, r3, r4, r5, r6⟩ := va
  obtain ⟨w1, w2, w3, ⟨w4, w5⟩, w6⟩ := r5
  have kd : KDq z (65 + S.length) = KDq s (65 + S.length) := by unfold KDq; rw [zc _ 0 (by omega)]
  have ht : HT z (65 + S.length) = HT s (65 + S.length) := by unfold HT; rw [zc _ 2 (by omega)]
  have hok : HOK z (65 + S.length) := by unfold HOK; rw [zc _ 2 (by omega)]; exact w4
  have lz : ∀ n, LOW n s z := fun n j k _ => zc _ k (by omega)
  refine k z g' s0 Hs X (ko_tr k2 kz) (mks_tr (lds_m ld ⟨by omega, by omega⟩) mz) (low_tr (lds_low ld (Nat.le_refl _)) (lz _)) (fun j hj => by rw [zc _ j (by omega)]; exact ld.2.2.2.1 j hj) (fun c j hc => by rw [zc c j (by omega)]; exact ld.2.1 c j (by omega) (by omega) (by omega)) (fun j hj => by rw [show (z 24) j = (s 24) j from zc 24 j (by decide)]; exact ld.2.2.2.2.1 j hj) ag ⟨nc, ?_, by rw [zcl]; exact r2, by rw [zc _ 9 (by omega)]; exact r3, ?_, ⟨by rw [kd]; exact w1, by rw [kd]; exact w2, by rw [kd]; exact w3, ⟨hok, by rw [ht, zcl]; exact w5⟩, by rw [kd, zc _ 6 (by omega), zcl]; exact w6⟩, by rw [kd]; exact r6⟩ z7 he (by rw [zcl]; exact hc) (by rw [zcl]; omega) (by rw [zc 4 1 (by decide)]; exact hl) ?_
  · exact rlx_mono (cpu_mono kz mz) (funext (fun j => zc 27 j (by decide))) S _ _ _ (fun j _ => zc 24 j (by decide)) agr_rf (lz _) (Or.inl nc) r1
  · rw [zcl]
    exact typ_mono (fun j _ => zc 24 j (by decide)) agr_rf (cpu_mono kz mz) (fun _ h => h) r4
  · rw [zc 6 3 (by decide)]
    exact ld.2.1 6 3 (by omega) (by decide) (by decide)
end XLD
end

section
/-! steps of an expression: arguments, calls -/
section XCA
variable {σ s t : St} {g g' : Gh} {CP CP' : Int → Nat → Prop} {X0 X Xs : Nat → Prop} {b e0 H0 L e H H' n q s0 Hs : Nat} {A B S : List It} {it : It} {x y : Int32}
theorem max_i {a b : Int32} : (if a < b then b else a).toInt = max a.toInt b.toInt := by
  by_cases c : a < b
  · rw [if_pos c]
    have := Int32.lt_iff_toInt_lt.mp c
    omega
  · rw [if_neg c]
    have : ¬ a.toInt < b.toInt := fun h => c (Int32.lt_iff_toInt_lt.mpr h)
    omega
theorem bnd_join {s9 s1 B e' : Nat} (h : BND g s9 e B) (h2 : BND g s1 e' B) (hs : s1 ≤ e) : BND g s9 e' B := fun p hh k p1 p2 p3 => by
  by_cases c : p ≤ e
  · exact h p hh k p1 c p3
  · exact h2 p hh k (by omega) p2 p3
theorem xs_argument {Q : St → Prop} (h : XC σ g X0 b e0 H0 L (iV :: iF :: S)) (cap : (σ 4 1).toInt ≤ 262150) (hS : S.length + 1 < 500) (k : ∀ s, XRs σ s g X0 b e0 H0 L (iV :: iF :: S) (iF :: S) 0 → Q s) : wk_X2_argument σ Q := by
  unfold wk_X2_argument
  refine xc_pop (S := iF :: S) h hS (by omega) (fun s1 g' s0 Hs X k1 m1 l1 f1 hi w1 ag va cnt he hc hc2 h3 fu => ?_)
  obtain ⟨nc, r1, r2, r3, r4, ⟨v1, v2, v3, ⟨v4, v5⟩, v6⟩, v7⟩ := va
  obtain ⟨nc2, s00, Hs0, Xs, i1, i2, i3, i4, i5, i6, ar, i7, i8, i9, j1, j2, pr, j3, j4, j5, j6⟩ := rlx_Fi r1
  subst i5
  refine sp_otop (n := S.length) (by rw [cnt]; rfl) (by omega) ?_
  unfold wk_X8_parameters
  have e1 := clen_eq h3
  have lt : s0 < clen s1 := by
    by_cases c : s0 = clen s1
    · have t1 := i4.2.1
      have t2 := r4.2.1
      rw [c, t2] at t1
      have := (Option.some.inj t1)
      have := congrArg Prod.fst this
      have : Hs + 1 = Hs := this
      omega
    · omega
  have hu1 : ∀ j, j ≠ 0 → s1 (65 + (S.length + 1)) j = σ (65 + (S.length + 1)) j := f1
  have c0 := clen_eq (σ := σ) h.2.2.1
  have pk1 : pk σ (65 + (iF :: S).length) ≤ 1 := by unfold pk; split <;> omega
  have he0 : e0 ≤ clen σ := by
    obtain ⟨-, -, -, H9, X9, h9⟩ := h
    exact (rlx_typ _ _ _ _ h9).2
  -- what is left: the operand of the function told anew
  have fin : ∀ s58 : St, (s58 = s1 ∧ ar < pr) ∨ s58 = upC s1 (65 + S.length) 12 (1 : Int32) → ∀ s4n : St, s4n = upC s58 (65 + S.length) 11 ((s58 (65 + S.length) 11) + (1 : Int32)) → ∀ s6n : St, s6n = upC s4n (65 + S.length) 2 (if (s4n (65 + S.length) 2) < (s4n (65 + (iF :: S).length) 2) then (s4n (65 + (iF :: S).length) 2) else (s4n (65 + S.length) 2)) → Q s6n := by
    intro s58 h58 s4n e4 z ez
    have r58 : RO (65 + S.length) s1 s58 := by
      rcases h58 with ⟨e, -⟩ | e
      · rw [e]; exact ro_rf
      · rw [e]; exact ro_up ro_rf
    have rz : RO (65 + S.length) s1 z := by rw [ez, e4]; exact ro_up (ro_up r58)
    have q58 : ∀ j, j ≠ 12 → s58 (65 + S.length) j = s1 (65 + S.length) j := fun j hj => by
      rcases h58 with ⟨e, -⟩ | e
      · rw [e]
      · rw [e, rdA_ne hj]
    have hop := isOp_at (n := S.length) (by omega)
    have zq : ∀ j, j ≠ 2 → j ≠ 11 → z (65 + S.length) j = s58 (65 + S.length) j := fun j j2 j11 => by rw [ez, rdA_ne j2, e4, rdA_ne j11]
    have z11 : (z (65 + S.length) 11).toInt = ((ar + 1 : Nat) : Int) := by
      rw [ez, rdA_ne (by decide), e4, rdA_eq rfl, q58 11 (by decide), ad1 (by omega), i7]
      omega
    have t2 : s4n (65 + S.length) 2 = s1 (65 + S.length) 2 := by rw [e4, rdA_ne (by decide)]; exact q58 2 (by decide)
    have t3 : s4n (65 + (iF :: S).length) 2 = s1 (65 + (S.length + 1)) 2 := by
      show s4n (65 + (S.length + 1)) 2 = _
      rw [e4, rdC_ne (by omega)]
      exact r58 _ _ (by omega)
    have z2 : (z (65 + S.length) 2).toInt = max (s1 (65 + S.length) 2).toInt (s1 (65 + (S.length + 1)) 2).toInt := by
      rw [ez, rdA_eq rfl, max_i, t2, t3]
    have v4' : 1 ≤ (s1 (65 + (S.length + 1)) 2).toInt ∧ (s1 (65 + (S.length + 1)) 2).toInt ≤ 60 := v4
    have v5' : BND g' s0 (clen s1) (Hs + 7 * (s1 (65 + (S.length + 1)) 2).toInt.toNat) := v5
    have kz : KXE σ z := ko_tr k1 (ro_ko rz hop)
    have mz1 : MKs s1 z := ro_mks rz (by omega) (by omega)
    have mz : MKs σ z := mks_tr m1 mz1
    have wz : (z 24) = (s1 24) := funext (fun j => rz 24 j (by omega))
    have clz : (z 4 1) = (s1 4 1) := rz 4 1 (by omega)
    have ecl : clen z = clen s1 := by unfold clen; rw [clz]
    have fz : (z 6 3) = (σ 6 3) := (rz 6 3 (by omega)).trans fu
    have lz : LOW S.length s1 z := ro_low rz (Nat.le_refl _)
    have xz : (z 27) = (s1 27) := funext (fun j => rz 27 j (by omega))
    have kz1 : KXE s1 z := ro_ko rz hop
    have cm := cpu_mono kz1 mz1
    refine k z ⟨kz, mz, fun j hj => by rw [wz]; exact w1 j (by omega), by rw [clz]; omega, fun hf => by rw [fz] at hf; exact hf, by rw [clz]; omega, fun hf => ⟨g', agr_le ag (by omega), ⟨?_, nc_of (by decide), by rw [clz]; exact h3, Hs + 1, X, ?_⟩, ?_⟩⟩
    · rw [rz 7 7 (by omega), cnt]
    · rw [ecl]
      have hR : RLx z g' (CPu z) X0 b e0 H0 L S s00 Hs0 X := rlx_mono cm xz S _ _ _ (fun j _ => by rw [wz]) agr_rf lz (Or.inl nc2) i1
      have q12 : (z (65 + S.length) 12).toInt = 0 → (s1 (65 + S.length) 12).toInt = 0 ∧ ar < pr := fun hz => by
        rcases h58 with ⟨e, e2⟩ | e
        · rw [zq 12 (by decide) (by decide), e] at hz
          exact ⟨hz, e2⟩
        · rw [zq 12 (by decide) (by decide), e, rdA_eq rfl] at hz
          exact absurd hz (by decide)
      have nf := nt (x := z (65 + S.length) 2)
      refine rlx_F nc2 hR (by omega) (by rw [zq 9 (by decide) (by decide), q58 9 (by decide)]; exact i3) (by rw [wz]; exact typ_mono (fun _ _ => rfl) agr_rf cm (fun _ h => h) r4) ⟨rfl, by unfold KDq; rw [zq 0 (by decide) (by decide), q58 0 (by decide)]; exact i6, ar + 1, z11, by omega, by omega, by omega, fun _ => by omega, pr, j3, by rw [zq 4 (by decide) (by decide), q58 4 (by decide), xz]; exact j4, by rw [zq 4 (by decide) (by decide), q58 4 (by decide)]; exact cm _ _ j5, fun hz => ?_⟩
      obtain ⟨a1, a2⟩ := q12 hz
      obtain ⟨a3, a4⟩ := j6 a1
      have ht : HT z (65 + S.length) = (max (s1 (65 + S.length) 2).toInt (s1 (65 + (S.length + 1)) 2).toInt).toNat := by unfold HT; rw [z2]
      have ht1 : HT s1 (65 + S.length) = (s1 (65 + S.length) 2).toInt.toNat := rfl
      have b1 : Hs0 + 7 * HT s1 (65 + S.length) + 7 ≤ Hs0 + 7 * HT z (65 + S.length) + 7 := by rw [ht, ht1]; omega
      have b2 : Hs + 7 * (s1 (65 + (S.length + 1)) 2).toInt.toNat ≤ Hs0 + 7 * HT z (65 + S.length) + 7 := by rw [ht]; omega
      exact ⟨by omega, bnd_join (bnd_le a4 (Nat.le_refl _) (Nat.le_refl _) b1) (bnd_le v5' (Nat.le_refl _) (Nat.le_refl _) b2) (Nat.le_refl _)⟩
    · have p1 : plc z (iF :: S) = plc z S := plc_0 (Or.inr (by unfold KDq; rw [zq 0 (by decide) (by decide), q58 0 (by decide)]; exact i6))
      have p2 : plc z S = plc σ S := (plc_low S lz).trans (plc_low S (low_le l1 (Nat.le_succ _)))
      have p3 : plc σ (iV :: iF :: S) = pk σ (65 + (iF :: S).length) + plc σ (iF :: S) := plc_V
      have p4 : plc σ S ≤ plc σ (iF :: S) := plc_ge
      omega
  refine ⟨fun s58 => (s58 = s1 ∧ ar < pr) ∨ s58 = upC s1 (65 + S.length) 12 (1 : Int32), fin, True, fun _ s9 e9 => Or.inr e9, fun _ => trivial, fun c => ?_⟩
  unfold wk_X8_parameter
  have arp : ar < pr := by
    have j4' : (ushr (atv 10100 (s1 27) (s1 (65 + S.length) 4)) (24 : Int32)).toInt.toNat = pr := j4
    omega
  exact sk_fits ⟨fun e => absurd rfl e, fun _ => trivial⟩ ⟨fun _ => Or.inl ⟨rfl, arp⟩, fun _ => trivial⟩
theorem xs_call {Q : St → Prop} (h : XC σ g X0 b e0 H0 L (iF :: S)) (cap : (σ 4 1).toInt ≤ 262150) (hS : S.length < 500) (k : ∀ s, XRs σ s g X0 b e0 H0 L (iF :: S) (iV :: S) 3 → Q s) : wk_X2_call x σ Q := by
  obtain ⟨h1, h2, h3, H, X, h4⟩ := h
  obtain ⟨nc2, s00, Hs0, Xs, i1, i2, i3, i4, i5, i6, ar, i7, i8, i9, j1, j2, pr, j3, j4, j5, j6⟩ := rlx_Fi h4
  subst i5
  have hT := rlx_typ S _ _ _ i1
  have en := clen_eq h3
  have hop := isOp_at hS
  unfold wk_X2_call
  refine sp_otop (n := S.length) (by rw [h1]; rfl) hS ?_
  refine ⟨fun s => (s = σ ∧ (σ (65 + S.length) 12).toInt = 0 ∧ ar = pr) ∨ (Kp [(6, 3), (6, 4)] [] σ s ∧ (s 6 3).toInt ≠ 0), ?_, True, fun _ => sp_refuse (fun s hs hf => Or.inr ⟨hs, hf⟩), fun _ => trivial, fun c => ?_⟩
  · intro s41 h41
    have ks : Kp [(6, 3), (6, 4)] [] σ s41 := by
      rcases h41 with ⟨e, -⟩ | ⟨e, -⟩
      · rw [e]; exact kp_rf
      · exact e
    have cl41 : (s41 4 1) = (σ 4 1) := ks 4 1 rfl rfl
    have sq : ∀ c j, c ≠ 6 → s41 c j = σ c j := fun c j hc => ks c j (by
      simp only [List.contains_cons, List.contains_nil, Bool.or_false, Bool.or_eq_false_iff]
      refine ⟨?_, ?_⟩
      · cases z : ((c, j) == ((6 : Nat), (3 : Nat))) with
        | false => rfl
        | true => exact absurd (congrArg Prod.fst (eq_of_beq z)) hc
      · cases z : ((c, j) == ((6 : Nat), (4 : Nat))) with
        | false => rfl
        | true => exact absurd (congrArg Prod.fst (eq_of_beq z)) hc) rfl
    refine sp_lineOf (fun v => sk_emit (n := 32) rfl (by decide) (by rw [cl41]; exact h3) (by rw [cl41]; omega) (fun v2 s57 _ em => ?_))
    refine sp_become (fun s67 r67 b0 b1 b6 bq => ?_)
    have c41 : clen s41 = clen σ := by unfold clen; rw [cl41]
    have e57 : clen s57 = clen σ + 3 := by
      have := em_clen em (n := 32) rfl (by rw [cl41]; exact h3)
      have l3 : ln 32 = 3 := rfl
      omega
    have s57q : ∀ j, s57 (65 + S.length) j = σ (65 + S.length) j := fun j => (em_cells em _ j (by omega) (by omega)).trans (sq _ j (by omega))
    have q2 : s67 (65 + S.length) 2 = σ (65 + S.length) 2 := (bq 2 (by decide) (by decide) (by decide) (by decide)).trans (s57q 2)
    have e2 : (s67 (65 + S.length) 2 + (1 : Int32)).toInt = (σ (65 + S.length) 2).toInt + 1 := by rw [q2, ad1 (by omega)]
    refine sp_raise (q := 65 + S.length) (by omega) (fun z kz zc zo => ?_)
    -- all that is kept
    have rz6 : ∀ c j, c ≠ 65 + S.length → c ≠ 4 → c ≠ 24 → c ≠ 6 → z c j = σ c j := fun c j hc h4' h24 h6 => by
      rw [zc c j h6, rdC_ne hc, r67 c j hc, em_cells em c j h4' h24]
      exact sq c j h6
    have kall : KXE σ z := ko_tr (ko_tr (ko_tr (ko_sub (ko_kp ks) rfl rfl) (ko_sub (ko_kp em.1) rfl rfl)) (ro_ko r67 hop)) (ko_tr (ko_op ko_rf hop) (ko_sub kz rfl rfl))
    have mall : MKs σ z := mks_eq (funext (fun j => rz6 25 j (by omega) (by decide) (by decide) (by decide))) (funext (fun j => rz6 39 j (by omega) (by decide) (by decide) (by decide)))
    have z24 : (z 24) = (s57 24) := funext (fun j => by rw [zc 24 j (by decide), rdC_ne (by omega), r67 24 j (by omega)])
    have z4 : (z 4 1) = (s57 4 1) := by rw [zc 4 1 (by decide), rdC_ne (by omega), r67 4 1 (by omega)]
    have ecz : clen z = clen σ + 3 := by
      have : clen z = clen s57 := by unfold clen; rw [z4]
      omega
    have lz : (z 4 1).toInt = (σ 4 1).toInt + 3 := by
      rw [z4, em.2.1, cl41]
      rfl
    have ws : ∀ j, j < clen σ → (z 24) j = (σ 24) j := fun j hj => by
      rw [z24, em.2.2.1 j (by omega)]
      exact sq 24 j (by decide)
    have w0 : (z 24) (clen σ) = 32 := by rw [z24, ← c41]; exact em.2.2.2.1
    have w1 : (z 24) (clen σ + 1) = σ (65 + S.length) 4 := by rw [z24, ← c41, em.2.2.2.2.1]; exact sq _ 4 (by omega)
    have z63 : (z 6 3).toInt = 0 → (s41 6 3).toInt = 0 ∧ z = upC s67 (65 + S.length) 2 (s67 (65 + S.length) 2 + (1 : Int32)) ∧ (s67 (65 + S.length) 2 + (1 : Int32)).toInt ≤ 60 := fun hf => by
      rcases zo with ⟨e, e3⟩ | e
      · refine ⟨?_, e, e3⟩
        rw [e, rdC_ne (by omega), r67 6 3 (by omega), em_cells em 6 3 (by decide) (by decide)] at hf
        exact hf
      · exact absurd hf e
    refine k z ⟨kall, mall, fun j hj => ws j (by omega), by rw [lz]; omega, fun hf => ?_, by rw [lz]; omega, fun hf => ?_⟩
    · have h0 := (z63 hf).1
      rcases h41 with ⟨e, -⟩ | ⟨-, e⟩
      · rw [e] at h0; exact h0
      · exact absurd h0 e
    · obtain ⟨h0, ez, h60⟩ := z63 hf
      rcases h41 with ⟨e41, hm, har⟩ | ⟨-, e⟩
      · obtain ⟨a3, a4⟩ := j6 hm
        have cm := cpu_mono kall mall
        have xz : (z 27) = (σ 27) := funext (fun j => rz6 27 j (by omega) (by decide) (by decide) (by decide))
        have low : LOW S.length σ z := fun j k hj => rz6 _ k (by omega) (by omega) (by omega) (by omega)
        have T0 : TYp (z 24) g (CPu z) X b (clen σ) H L := typ_mono ws agr_rf cm (fun _ h => h) i4
        obtain ⟨g', T', ag, gi⟩ := typ_ext (w' := (z 24)) (X' := X) (n := 32) (H' := Hs0 + 1) (L' := L) T0 (fun _ _ => rfl) (fun _ h => h) (by rw [w0]; rfl) (by decide) (fun g' _ ge _ => by
          rw [w1]
          refine ⟨⟨by decide, by decide, by decide⟩, fun c => by exfalso; unfold PLn at c; omega, fun c => absurd c (by decide), fun c => absurd c (by decide), fun c => absurd c (by decide), fun c => absurd c (by decide), fun _ => ⟨pr, cm _ _ j5, by omega, ?_⟩, fun c => absurd c (by decide)⟩
          have eh : H - pr + 1 = Hs0 + 1 := by omega
          rw [eh]
          exact ⟨L, ge, Or.inr ⟨rfl, by omega⟩⟩)
        have l3 : ln 32 = 3 := rfl
        rw [l3] at T' gi
        have zqv : ∀ j, j ≠ 2 → z (65 + S.length) j = s67 (65 + S.length) j := fun j hj => by rw [ez, rdA_ne hj]
        have z2 : (z (65 + S.length) 2).toInt = (σ (65 + S.length) 2).toInt + 1 := by rw [ez, rdA_eq rfl, e2]
        have kd : KDq z (65 + S.length) = 0 := by unfold KDq; rw [zqv 0 (by decide)]; exact b0
        have hR : RLx z g' (CPu z) X0 b e0 H0 L S s00 Hs0 X := rlx_mono cm xz S _ _ _ (fun j hj => ws j (by omega)) (agr_le ag i2) low (Or.inl nc2) i1
        refine ⟨g', agr_le ag (by omega), ⟨?_, nc_of (by decide), by rw [lz]; omega, Hs0 + 1, X, ?_⟩, ?_⟩
        · rw [rz6 7 7 (by omega) (by decide) (by decide) (by decide), h1]
          rfl
        · rw [ecz]
          refine rlx_V nc2 hR (by omega) (by rw [zqv 9 (by decide), bq 9 (by decide) (by decide) (by decide) (by decide), s57q]; exact i3) T' ⟨by omega, fun z => by omega, fun _ => rfl, ⟨⟨by omega, by omega⟩, ?_⟩, fun z6 => ?_⟩
          · have ht : HT z (65 + S.length) = HT σ (65 + S.length) + 1 := by unfold HT; rw [z2]; omega
            rw [ht]
            exact bnd_ext (bnd_le a4 (Nat.le_refl _) (Nat.le_refl _) (by omega)) ag gi T'.2.1 (by omega)
          · rw [zqv 6 (by decide), b6] at z6
            exact absurd z6 (by decide)
        · have p1 : plc z (iV :: S) = plc z S := plc_0 (Or.inl kd)
          have p2 : plc z S = plc σ S := plc_low S low
          have p4 : plc σ S ≤ plc σ (iF :: S) := plc_ge
          omega
      · exact absurd h0 e
  · unfold wk_X8_parameters
    refine ⟨fun c2 => Or.inl ⟨rfl, c, ?_⟩, fun _ => trivial⟩
    have j4' : (ushr (atv 10100 (σ 27) (σ (65 + S.length) 4)) (24 : Int32)).toInt.toNat = pr := j4
    have c2' : (σ (65 + S.length) 11).toInt = (ushr (atv 10100 (σ 27) (σ (65 + S.length) 4)) (24 : Int32)).toInt := c2
    omega
end XCA
end

