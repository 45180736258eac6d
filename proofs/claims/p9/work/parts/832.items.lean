/-! the operands that wait, and their code -/
def KDq (σ : St) (q : Nat) : Int := (σ q 0).toInt
def HT (σ : St) (q : Nat) : Nat := (σ q 2).toInt.toNat
/-- a height that was told -/
def HOK (σ : St) (q : Nat) : Prop := 1 ≤ (σ q 2).toInt ∧ (σ q 2).toInt ≤ 60
def HB (σ : St) (g : Gh) (q s Hs e : Nat) : Prop := HOK σ q ∧ BND g s e (Hs + 7 * HT σ q)
def XU (X : Nat → Prop) (j : Nat) : Nat → Prop := fun q => X q ∨ q = j
/-- a jump that waits in an operand -/
def JW (σ : St) (g : Gh) (q s e L : Nat) (j : Nat) (n : Nat) (h : Nat) : Prop := (σ q 10).toInt = j ∧ s ≤ j ∧ j + 2 = e ∧ ((σ 24) j).toInt = n ∧ g j = some (h, L) ∧ ((σ 24) (j + 1)).toInt < 0
def itV (σ : St) (g : Gh) (q s Hs e H : Nat) : Prop := (0 ≤ KDq σ q ∧ KDq σ q ≤ 3) ∧ (KDq σ q = 1 ∨ KDq σ q = 2 → H = Hs) ∧ (KDq σ q = 0 ∨ KDq σ q = 3 → H = Hs + 1) ∧ HB σ g q s Hs e ∧ ((σ q 6).toInt = 1 → KDq σ q = 0 ∧ s + 2 ≤ e)
def itL (σ : St) (g : Gh) (L sg q s Hs : Nat) (Xs : Nat → Prop) (e H : Nat) (X : Nat → Prop) : Prop := HB σ g q s Hs e ∧ (0 ≤ KDq σ q ∧ KDq σ q ≤ 3) ∧ ((σ q 6).toInt = 1 → KDq σ q = 0 ∧ s + 2 ≤ e) ∧
  ((sg = 57 ∨ sg = 58) → H = Hs ∧ KDq σ q = 0 ∧ ∃ j n, (n = 29 ∨ n = 30) ∧ JW σ g q s e L j n (Hs + 1) ∧ X = XU Xs j) ∧
  (¬ (sg = 57 ∨ sg = 58) → X = Xs) ∧
  (sg = 30 → (KDq σ q = 1 ∨ KDq σ q = 2 → H = Hs) ∧ (KDq σ q = 0 ∨ KDq σ q = 3 → H = Hs + 1)) ∧
  (31 ≤ sg ∧ sg ≤ 40 → (KDq σ q = 3 → H = Hs + 2) ∧ (KDq σ q ≠ 3 → H = Hs + 1)) ∧
  (sg = 24 ∨ (41 ≤ sg ∧ sg ≤ 56) → H = Hs + 1 ∧ KDq σ q = 0)
def itQ (σ : St) (g : Gh) (L q s Hs : Nat) (Xs : Nat → Prop) (e H : Nat) (X : Nat → Prop) : Prop := H = Hs ∧ HB σ g q s Hs e ∧ (((σ q 10).toInt < 0 ∧ X = Xs) ∨ ∃ j n h, ((n = 26 ∧ h = Hs) ∨ (n = 27 ∧ h = Hs + 1)) ∧ JW σ g q s e L j n h ∧ X = XU Xs j)
def itC (σ : St) (g : Gh) (L q s Hs : Nat) (Xs : Nat → Prop) (e H : Nat) (X : Nat → Prop) : Prop := H = Hs ∧ HOK σ q ∧ HOK σ (q + 1) ∧ BND g s e (Hs + 7 * max (HT σ q) (HT σ (q + 1))) ∧ ∃ j, JW σ g q s e L j 26 (Hs + 1) ∧ X = XU Xs j
def itF (σ : St) (g : Gh) (CP : Int → Nat → Prop) (q s Hs : Nat) (Xs : Nat → Prop) (e H : Nat) (X : Nat → Prop) : Prop := X = Xs ∧ KDq σ q = 4 ∧ ∃ ar : Nat, (σ q 11).toInt = ar ∧ s + ar ≤ e ∧ H = Hs + ar ∧ (0 ≤ (σ q 2).toInt ∧ (σ q 2).toInt ≤ 60) ∧ (1 ≤ ar → 1 ≤ (σ q 2).toInt) ∧
  ∃ pr : Nat, pr ≤ 8 ∧ spar (atv 10100 (σ 27) (σ q 4)) = pr ∧ CP (σ q 4).toInt pr ∧ ((σ q 12).toInt = 0 → ar ≤ pr ∧ BND g s e (Hs + 7 * HT σ q + 7))
def ITx (σ : St) (g : Gh) (CP : Int → Nat → Prop) (b L : Nat) (it : It) (q s Hs : Nat) (Xs : Nat → Prop) (e H : Nat) (X : Nat → Prop) : Prop :=
  s ≤ e ∧ (σ q 9).toInt = s ∧ TYp (σ 24) g CP X b e H L ∧ (it.1 = 0 → X = Xs ∧ itV σ g q s Hs e H) ∧ (it.1 = 1 → itL σ g L it.2 q s Hs Xs e H X) ∧ (it.1 = 2 → itQ σ g L q s Hs Xs e H X) ∧ (it.1 = 3 → itC σ g L q s Hs Xs e H X) ∧ (it.1 = 5 → itF σ g CP q s Hs Xs e H X)
/-- no first of two sides on top -/
def NC (A : List It) : Prop := ∀ y B, A = y :: B → y.1 ≠ 3
def RLx (σ : St) (g : Gh) (CP : Int → Nat → Prop) (X0 : Nat → Prop) (b e0 H0 L : Nat) : List It → Nat → Nat → (Nat → Prop) → Prop
  | [], e, H, X => e = e0 ∧ H = H0 ∧ X = X0 ∧ TYp (σ 24) g CP X b e H L
  | it :: A, e, H, X => if it.1 = 4 then RLx σ g CP X0 b e0 H0 L A e H X ∧ KDq σ (65 + A.length) = 0 else NC A ∧ ∃ s Hs Xs, RLx σ g CP X0 b e0 H0 L A s Hs Xs ∧ ITx σ g CP b L it (65 + A.length) s Hs Xs e H X
section ITS
variable {σ s t : St} {g g' : Gh} {CP CP' : Int → Nat → Prop} {X0 X : Nat → Prop} {b e0 H0 L e H : Nat} {A : List It} {it : It}
theorem rlx_typ : ∀ (A : List It) (e H : Nat) (X : Nat → Prop), RLx σ g CP X0 b e0 H0 L A e H X → TYp (σ 24) g CP X b e H L ∧ e0 ≤ e
  | [], e, H, X => fun h => ⟨h.2.2.2, by rw [h.1]; exact Nat.le_refl _⟩
  | it :: A, e, H, X => fun h => by
    unfold RLx at h
    by_cases c : it.1 = 4
    · rw [if_pos c] at h
      exact rlx_typ A e H X h.1
    · rw [if_neg c] at h
      obtain ⟨-, s, Hs, Xs, h1, h2⟩ := h
      have := (rlx_typ A s Hs Xs h1).2
      exact ⟨h2.2.2.1, Nat.le_trans this h2.1⟩
/-- it stays where code, heights and operands stay -/
theorem rlx_mono (hC : ∀ a m, CP a m → CP' a m) (hx : (s 27) = (σ 27)) : ∀ (A : List It) (e H : Nat) (X : Nat → Prop), (∀ q, q < e → (s 24) q = (σ 24) q) → AGR g g' e → LOW A.length σ s → (NC A ∨ ∀ k, s (65 + A.length) k = σ (65 + A.length) k) → RLx σ g CP X0 b e0 H0 L A e H X → RLx s g' CP' X0 b e0 H0 L A e H X
  | [], e, H, X => fun hw hg _ _ h => ⟨h.1, h.2.1, h.2.2.1, typ_mono hw hg hC (fun _ h => h) h.2.2.2⟩
  | it :: A, e, H, X => fun hw hg hl hm h => by
    have hl' : ∀ k, s (65 + A.length) k = σ (65 + A.length) k := fun k => hl A.length k (by show A.length < A.length + 1; omega)
    have ekd : KDq s (65 + A.length) = KDq σ (65 + A.length) := by unfold KDq; rw [hl']
    unfold RLx at h ⊢
    by_cases c : it.1 = 4
    · rw [if_pos c] at h ⊢
      exact ⟨rlx_mono hC hx A e H X hw hg (low_le hl (Nat.le_succ _)) (Or.inr hl') h.1, by rw [ekd]; exact h.2⟩
    · rw [if_neg c] at h ⊢
      obtain ⟨nc, s0, Hs, Xs, h1, i1, i2, i3, i4, i5, i6, i7, i8⟩ := h
      have eht : HT s (65 + A.length) = HT σ (65 + A.length) := by unfold HT; rw [hl']
      have hok : HOK s (65 + A.length) = HOK σ (65 + A.length) := by unfold HOK; rw [hl']
      have hb : HB σ g (65 + A.length) s0 Hs e → HB s g' (65 + A.length) s0 Hs e := fun z => ⟨by rw [hok]; exact z.1, by rw [eht]; exact bnd_agr z.2 hg⟩
      have jw : ∀ j n h, JW σ g (65 + A.length) s0 e L j n h → JW s g' (65 + A.length) s0 e L j n h := fun j n h z => ⟨by rw [hl']; exact z.1, z.2.1, z.2.2.1, by rw [hw j (by have := z.2.2.1; omega)]; exact z.2.2.2.1, by rw [hg j (by have := z.2.2.1; omega)]; exact z.2.2.2.2.1, by rw [hw (j + 1) (by have := z.2.2.1; omega)]; exact z.2.2.2.2.2⟩
      refine ⟨nc, s0, Hs, Xs, rlx_mono hC hx A s0 Hs Xs (fun q hq => hw q (by omega)) (agr_le hg i1) (low_le hl (Nat.le_succ _)) (Or.inl nc) h1, i1, by rw [hl']; exact i2, typ_mono hw hg hC (fun _ h => h) i3, fun q => ?_, fun q => ?_, fun q => ?_, fun q => ?_, fun q => ?_⟩
      · obtain ⟨a0, a1, a2, a3, a4, a5⟩ := i4 q
        exact ⟨a0, by rw [ekd]; exact a1, by rw [ekd]; exact a2, by rw [ekd]; exact a3, hb a4, by rw [hl', ekd]; exact a5⟩
      · obtain ⟨a1, a2, a3, a4, a5, a6, a7, a8⟩ := i5 q
        refine ⟨hb a1, by rw [ekd]; exact a2, by rw [hl', ekd]; exact a3, fun z => ?_, a5, by rw [ekd]; exact a6, by rw [ekd]; exact a7, by rw [ekd]; exact a8⟩
        obtain ⟨b1, b2, j, n, b3, b4, b5⟩ := a4 z
        exact ⟨b1, by rw [ekd]; exact b2, j, n, b3, jw _ _ _ b4, b5⟩
      · obtain ⟨a1, a2, a3⟩ := i6 q
        refine ⟨a1, hb a2, ?_⟩
        rcases a3 with ⟨b1, b2⟩ | ⟨j, n, h, b1, b2, b3⟩
        · exact Or.inl ⟨by rw [hl']; exact b1, b2⟩
        · exact Or.inr ⟨j, n, h, b1, jw _ _ _ b2, b3⟩
      · obtain ⟨a1, a2, a3, a4, j, a5, a6⟩ := i7 q
        rcases hm with hm | hm
        · exact absurd q (hm it A rfl)
        · have hm' : ∀ k, s (65 + A.length + 1) k = σ (65 + A.length + 1) k := hm
          have hok1 : HOK s (65 + A.length + 1) = HOK σ (65 + A.length + 1) := by unfold HOK; rw [hm']
          have eht1 : HT s (65 + A.length + 1) = HT σ (65 + A.length + 1) := by unfold HT; rw [hm']
          exact ⟨a1, by rw [hok]; exact a2, by rw [hok1]; exact a3, by rw [eht, eht1]; exact bnd_agr a4 hg, j, jw _ _ _ a5, a6⟩
      · obtain ⟨a1, a2, ar, a3, a4, a5, a6, a7, pr, a8, a9, c1, c2⟩ := i8 q
        refine ⟨a1, by rw [ekd]; exact a2, ar, by rw [hl']; exact a3, a4, a5, by rw [hl']; exact a6, by rw [hl']; exact a7, pr, a8, by rw [hl', hx]; exact a9, by rw [hl']; exact hC _ _ c1, fun z => ?_⟩
        rw [hl'] at z
        rw [eht]
        exact ⟨(c2 z).1, bnd_agr (c2 z).2 hg⟩
end ITS
