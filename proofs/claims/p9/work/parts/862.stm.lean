/-! steps of statements: a value taken, an instruction put -/
/-- what a step of a statement keeps: rows and counts of expressions, code -/
abbrev KXS (a b : St) : Prop := Ko [(7, 7), (4, 1), (6, 3), (6, 4), (6, 5), (5, 9), (9, 5)] [17, 24, 25, 31, 32, 33, 39, 43, 49, 50, 51, 52, 53, 54] a b
/-- between statements, within a function: typed code up to the end, the jumps that wait -/
def SB (σ : St) (g : Gh) (b : Nat) (K : List Nat) (X : Nat → Prop) (H0 : Nat) : Prop := TYp (σ 24) g (CPu σ) X b (clen σ) H0 (LV K) ∧ CX σ g (clen σ) K X ∧ (σ 7 7).toInt = 0 ∧ 0 ≤ (σ 4 1).toInt ∧ (σ 9 5).toInt = nzr K ∧ BND g b (clen σ) (H0 + 420)
section STM
variable {σ s z t : St} {g g' g1 : Gh} {X X0 Y : Nat → Prop} {b e e0 H H0 L m n : Nat} {K : List Nat} {x y : Int32}
theorem xc_nil (h : SB σ g b K X H0) : XC σ g X b (clen σ) H0 (LV K) [] := ⟨h.2.2.1, (fun y B e => by cases e), h.2.2.2.1, H0, X, rfl, rfl, rfl, h.1⟩
/-- an expression stands behind the last statement -/
def SE (σ : St) (g : Gh) (b : Nat) (K : List Nat) (X : Nat → Prop) (H0 e0 : Nat) (A : List It) : Prop := XC σ g X b e0 H0 (LV K) A ∧ CX σ g e0 K X ∧ (σ 9 5).toInt = nzr K ∧ BND g b e0 (H0 + 420)
theorem se_nil (h : SB σ g b K X H0) : SE σ g b K X H0 (clen σ) [] := ⟨xc_nil h, h.2.1, h.2.2.2.2.1, h.2.2.2.2.2⟩
theorem sb_nil (h : SE σ g b K X H0 e0 []) : SB σ g b K X H0 := by
  obtain ⟨⟨h1, h2, h3, H, X', h4⟩, h5, h6, h7⟩ := h
  obtain ⟨rfl, rfl, rfl, T⟩ := h4
  exact ⟨T, h5, h1, h3, h6, h7⟩
theorem kw_e (k : KXE σ s) : (s 49) = (σ 49) ∧ (s 50) = (σ 50) ∧ (s 51) = (σ 51) ∧ (s 52) = (σ 52) ∧ (s 53) = (σ 53) ∧ (s 54) = (σ 54) ∧ (s 9 5) = (σ 9 5) :=
  ⟨ko_rd k 49 (Or.inr (by decide)) rfl (fun _ => rfl), ko_rd k 50 (Or.inr (by decide)) rfl (fun _ => rfl), ko_rd k 51 (Or.inr (by decide)) rfl (fun _ => rfl), ko_rd k 52 (Or.inr (by decide)) rfl (fun _ => rfl), ko_rd k 53 (Or.inr (by decide)) rfl (fun _ => rfl), ko_rd k 54 (Or.inr (by decide)) rfl (fun _ => rfl), k 9 5 (op_lt (by decide)) rfl rfl⟩
theorem cx_e (k : KXE σ s) (hw : ∀ q, q < e → (s 24) q = (σ 24) q) (hg : AGR g g' e) {e' : Nat} (he : e ≤ e') (h : CX σ g e K X) : CX s g' e' K X := by
  obtain ⟨a1, a2, a3, a4, a5, a6, -⟩ := kw_e k
  exact cx_mono K X (fun j _ => ⟨by rw [a1], by rw [a2], by rw [a3], by rw [a4], by rw [a5], by rw [a6]⟩) hw hg he h
/-- a step of the expression -/
theorem se_take {i : Nat} {A B : List It} {Q : St → Prop} (u : UXs σ) (h : SE σ g b K X H0 e0 A) (cap : (σ 4 1).toInt ≤ 262150) (hA : A.length ≤ 500) (hx : x.toInt = i) (hi : i < 32100) (hd : dx (act σ i) (tkx σ ((σ 19) i)) A B) (k : ∀ s, KXE σ s → MKs σ s → (∀ j, j < e0 → (s 24) j = (σ 24) j) → (e0 : Int) ≤ (s 4 1).toInt → (s 4 1).toInt ≤ (σ 4 1).toInt + 12 → ((s 6 3).toInt = 0 → ∃ g', AGR g g' e0 ∧ SE s g' b K X H0 e0 B ∧ clen s + 2 * plc s B ≤ clen σ + 2 * plc σ A + cst σ i) → Q s) : wk_X2_take x σ Q := by
  obtain ⟨h1, h2, h3, h4⟩ := h
  refine xs_take u h1 cap hA hx hi hd (fun s r => ?_)
  obtain ⟨r1, r2, r3, r4, r5, r6, r7⟩ := r
  refine k s r1 r2 r3 r4 r6 (fun hf => ?_)
  obtain ⟨g', a1, a2, a3⟩ := r7 hf
  exact ⟨g', a1, ⟨a2, cx_e r1 r3 a1 (Nat.le_refl _) h2, by rw [(kw_e r1).2.2.2.2.2.2]; exact h3, bnd_agr h4 a1⟩, a3⟩
/-- the value of an expression is taken: it is left on the stack -/
def VS (s : St) (g : Gh) (b : Nat) (K : List Nat) (X : Nat → Prop) (H0 e0 : Nat) : Prop := TYp (s 24) g (CPu s) X b (clen s) (H0 + 1) (LV K) ∧ CX s g e0 K X ∧ (s 7 7).toInt = 0 ∧ 0 ≤ (s 4 1).toInt ∧ (s 9 5).toInt = nzr K ∧ BND g b (clen s) (H0 + 420) ∧ e0 ≤ clen s ∧ TYp (s 24) g (CPu s) X b e0 H0 (LV K) ∧ (s 65 9).toInt = e0 ∧ ((s 65 6).toInt = 1 → e0 + 2 ≤ clen s)
theorem vs_pop {Q : Nat → St → Prop} (h : SE σ g b K X H0 e0 [iV]) (cap : (σ 4 1).toInt ≤ 262180) (k : ∀ s g', KXE σ s → MKs σ s → (∀ j, j < e0 → (s 24) j = (σ 24) j) → AGR g g' e0 → VS s g' b K X H0 e0 → clen s ≤ clen σ + 2 * plc σ [iV] → (s 6 3) = (σ 6 3) → (∀ j, j ≠ 0 → s 65 j = σ 65 j) → Q 65 s) : wk_X2_pop σ Q := by
  obtain ⟨h1, h2, h3, h4⟩ := h
  have he0 := xc_e0 h1
  refine xc_pop (S := []) h1 (by decide) cap (fun s g' s0 Hs X' k1 m1 l1 f1 hi w1 ag va cnt he hc hc2 hl fu => ?_)
  obtain ⟨nc, ⟨rfl, rfl, rfl, r1⟩, r2, r3, r4, ⟨v1, v2, v3, ⟨v4, v5⟩, v6⟩, v7⟩ := va
  have v4' : 1 ≤ (s 65 2).toInt ∧ (s 65 2).toInt ≤ 60 := v4
  have hb : BND g' s0 (clen s) (Hs + 7 * HT s 65) := v5
  have ht : HT s 65 ≤ 60 := by unfold HT; omega
  have p1 : plc σ [iV] = pk σ 65 + 0 := plc_V
  have hc' : clen s ≤ clen σ + 2 * pk σ 65 := hc
  have ag0 := agr_le ag he0
  exact k s g' k1 m1 (fun j hj => w1 j (by omega)) ag0 ⟨r4, cx_e k1 (fun q hq => w1 q (by omega)) ag0 (Nat.le_refl _) h2, cnt, hl, by rw [(kw_e k1).2.2.2.2.2.2]; exact h3, bnd_join (bnd_le (bnd_agr h4 ag0) (Nat.le_refl _) (Nat.le_refl _) (by omega)) (bnd_le hb (Nat.le_refl _) (Nat.le_refl _) (by omega)) (Nat.le_refl _), r2, r1, r3, fun c => (v6 c).2⟩ (by omega) fu (fun j hj => f1 j hj)
/-- and a plain instruction that uses it up -/
theorem vs_emit {op a1 a2 a3 : Int32} {k : Nat} (h : VS s g b K X H0 e0) (em : EMi s t op a1 a2 a3) (hk : op.toInt = k) (k1 : 1 ≤ k ∧ k ≤ 25) (hp : po k ≤ 1) (hd : de k = -1 ∨ de k = 0) : ∃ g', AGR g g' (clen s) ∧ (de k = -1 → SB t g' b K X H0) ∧ (de k = 0 → TYp (t 24) g' (CPu t) X b (clen t) (H0 + 1) (LV K)) := by
  obtain ⟨h1, h2, h3, h4, h5, h6, h7, h8, h9, h10⟩ := h
  obtain ⟨ek, emk, el, ex, ef, ee⟩ := em_k em
  have ec := em_clen em hk h4
  have el2 := em_len em hk
  have w0 : (t 24) (clen s) = op := em.2.2.2.1
  rcases hd with d | d
  · obtain ⟨g2, T2, ag2, gi2⟩ := typ_pl (w' := (t 24)) (n := k) (H' := H0) (typ_mono (fun q _ => rfl) agr_rf (cpu_mono ek emk) (fun _ z => z) h1) em.2.2.1 (by rw [w0]; exact hk) k1.1 (by omega) (Or.inl k1.2) (by omega) (by rw [d]; omega)
    refine ⟨g2, ag2, fun _ => ⟨by rw [ec]; exact T2, cx_e ek (fun q hq => em.2.2.1 q (by omega)) (agr_le ag2 h7) (by omega) h2, by rw [ee]; exact h3, by omega, by rw [(kw_e ek).2.2.2.2.2.2]; exact h5, ?_⟩, fun c => by omega⟩
    rw [ec]
    exact bnd_ext h6 ag2 gi2 T2.2.1 (by omega)
  · obtain ⟨g2, T2, ag2, gi2⟩ := typ_pl (w' := (t 24)) (n := k) (H' := H0 + 1) (typ_mono (fun q _ => rfl) agr_rf (cpu_mono ek emk) (fun _ z => z) h1) em.2.2.1 (by rw [w0]; exact hk) k1.1 (by omega) (Or.inl k1.2) (by omega) (by rw [d]; omega)
    exact ⟨g2, ag2, fun c => by omega, fun _ => by rw [ec]; exact T2⟩
end STM
