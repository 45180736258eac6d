/-! a step of an expression: what it keeps, what it leaves -/
abbrev KXE (a b : St) : Prop := Ko [(7, 7), (4, 1), (6, 3), (6, 4), (6, 5), (5, 9)] [17, 24, 25, 31, 32, 33, 39, 43] a b
def FLb (x f : Int32) : Prop := (x &&& f).toInt ≠ 0
def MKs (σ s : St) : Prop := (∀ j, ((s 25) j &&& 1 = (σ 25) j &&& 1) ∧ ((s 25) j &&& 2 = (σ 25) j &&& 2) ∧ ((s 25) j &&& 4 = (σ 25) j &&& 4) ∧ (FLb ((σ 25) j) 8 → FLb ((s 25) j) 8)) ∧ ∀ i, 0 ≤ ((σ 39) i).toInt → 0 ≤ ((s 39) i).toInt
/-- a function of this unit that may be called with so many -/
def CPu (σ : St) (a : Int) (m : Nat) : Prop := ((σ 5 1).toInt - (σ 6 7).toInt ≤ a ∧ a < (σ 5 1).toInt ∧ 0 ≤ a ∧ a < 10100) ∧ FLb ((σ 25) a.toNat) 1 ∧ FLb ((σ 25) a.toNat) 8 ∧ 0 ≤ ((σ 39) (a - ((σ 5 1).toInt - (σ 6 7).toInt)).toNat).toInt ∧ spar ((σ 27) a.toNat) = m
def plc (σ : St) : List It → Nat
  | [] => 0
  | it :: A => (if (it.1 = 0 ∨ it.1 = 1) ∧ 1 ≤ KDq σ (65 + A.length) ∧ KDq σ (65 + A.length) ≤ 3 then 1 else 0) + plc σ A
def XC (σ : St) (g : Gh) (X0 : Nat → Prop) (b e0 H0 L : Nat) (A : List It) : Prop := (σ 7 7).toInt = A.length ∧ NC A ∧ 0 ≤ (σ 4 1).toInt ∧ ∃ H X, RLx σ g (CPu σ) X0 b e0 H0 L A (clen σ) H X
def XRs (σ s : St) (g : Gh) (X0 : Nat → Prop) (b e0 H0 L : Nat) (A B : List It) (c : Nat) : Prop :=
  KXE σ s ∧ MKs σ s ∧ (∀ j, j < e0 → (s 24) j = (σ 24) j) ∧ (e0 : Int) ≤ (s 4 1).toInt ∧ ((s 6 3).toInt = 0 → (σ 6 3).toInt = 0) ∧ (s 4 1).toInt ≤ (σ 4 1).toInt + 12 ∧
  ((s 6 3).toInt = 0 → ∃ g', AGR g g' e0 ∧ XC s g' X0 b e0 H0 L B ∧ clen s + 2 * plc s B ≤ clen σ + 2 * plc σ A + c)
section XBS
variable {σ s t : St} {g g' : Gh} {CP CP' : Int → Nat → Prop} {X0 X Xs : Nat → Prop} {b e0 H0 L e H H' n q s0 Hs : Nat} {A B S : List It} {it : It} {x y : Int32}
theorem mks_rf : MKs σ σ := ⟨fun _ => ⟨rfl, rfl, rfl, id⟩, fun _ h => h⟩
theorem mks_tr (h : MKs σ s) (g : MKs s t) : MKs σ t := ⟨fun j => ⟨(g.1 j).1.trans (h.1 j).1, (g.1 j).2.1.trans (h.1 j).2.1, (g.1 j).2.2.1.trans (h.1 j).2.2.1, fun z => (g.1 j).2.2.2 ((h.1 j).2.2.2 z)⟩, fun i z => g.2 i (h.2 i z)⟩
theorem mks_eq (h1 : (s 25) = (σ 25)) (h2 : (s 39) = (σ 39)) : MKs σ s := ⟨fun j => by rw [h1]; exact ⟨rfl, rfl, rfl, id⟩, fun i z => by rw [h2]; exact z⟩
theorem flb1 {j : Nat} (h : MKs σ s) : FLb ((s 25) j) 1 ↔ FLb ((σ 25) j) 1 := by unfold FLb; rw [(h.1 j).1]
theorem cpu_mono (k : KXE σ s) (m : MKs σ s) : ∀ a n, CPu σ a n → CPu s a n := fun a n ⟨h1, h2, h3, h4, h5⟩ => by
  have e1 : (s 5 1) = (σ 5 1) := k 5 1 (op_lt (by decide)) rfl rfl
  have e2 : (s 6 7) = (σ 6 7) := k 6 7 (op_lt (by decide)) rfl rfl
  have e3 : (s 27) = (σ 27) := funext (fun j => k 27 j (op_lt (by decide)) rfl rfl)
  exact ⟨by rw [e1, e2]; exact h1, (flb1 m).mpr h2, (m.1 _).2.2.2 h3, by rw [e1, e2]; exact m.2 _ h4, by rw [e3]; exact h5⟩
theorem plc_low : ∀ A : List It, LOW A.length σ s → plc s A = plc σ A
  | [] => fun _ => rfl
  | it :: A => fun h => by
    have e : KDq s (65 + A.length) = KDq σ (65 + A.length) := by
      unfold KDq
      rw [h A.length 0 (by show A.length < A.length + 1; omega)]
    show (if (it.1 = 0 ∨ it.1 = 1) ∧ 1 ≤ KDq s (65 + A.length) ∧ KDq s (65 + A.length) ≤ 3 then 1 else 0) + plc s A = (if (it.1 = 0 ∨ it.1 = 1) ∧ 1 ≤ KDq σ (65 + A.length) ∧ KDq σ (65 + A.length) ≤ 3 then 1 else 0) + plc σ A
    rw [e, plc_low A (low_le h (Nat.le_succ _))]
theorem plc_0 (h : KDq σ (65 + A.length) = 0 ∨ KDq σ (65 + A.length) = 4) : plc σ (it :: A) = plc σ A := by
  show (if (it.1 = 0 ∨ it.1 = 1) ∧ 1 ≤ KDq σ (65 + A.length) ∧ KDq σ (65 + A.length) ≤ 3 then 1 else 0) + plc σ A = _
  rw [if_neg (by omega)]
  omega
theorem plc_1 (h : it.1 = 0 ∨ it.1 = 1) (h2 : 1 ≤ KDq σ (65 + A.length) ∧ KDq σ (65 + A.length) ≤ 3) : plc σ (it :: A) = plc σ A + 1 := by
  show (if (it.1 = 0 ∨ it.1 = 1) ∧ 1 ≤ KDq σ (65 + A.length) ∧ KDq σ (65 + A.length) ≤ 3 then 1 else 0) + plc σ A = _
  rw [if_pos ⟨h, h2⟩]
  omega
theorem plc_ge : plc σ A ≤ plc σ (it :: A) := Nat.le_add_left _ _
theorem nc_of (h : it.1 ≠ 3) : NC (it :: A) := fun y B e => by
  have := (List.cons.inj e).1
  rw [← this]
  exact h
theorem bnd_ext {B n : Nat} (h : BND g s0 e B) (a : AGR g g' e) (hi : ∀ j, e < j → j < e + n → g' j = none) (he : g' (e + n) = some (H', L)) (hB : H' ≤ B) : BND g' s0 (e + n) B := fun p hh k p1 p2 p3 => by
  by_cases c : p ≤ e
  · exact h p hh k p1 c (by rw [← a p c]; exact p3)
  · by_cases c2 : p < e + n
    · rw [hi p (by omega) c2] at p3
      cases p3
    · have : p = e + n := by omega
      rw [this, he] at p3
      cases p3
      exact hB
theorem bnd_one {B : Nat} (he : g e = some (H, L)) (hB : H ≤ B) : BND g e e B := fun p hh k p1 p2 p3 => by
  have : p = e := by omega
  rw [this, he] at p3
  cases p3
  exact hB
theorem rlx_V (nc : NC S) (h : RLx σ g CP X0 b e0 H0 L S s0 Hs Xs) (hs : s0 ≤ e) (h9 : (σ (65 + S.length) 9).toInt = s0) (T : TYp (σ 24) g CP Xs b e H L) (v : itV σ g (65 + S.length) s0 Hs e H) : RLx σ g CP X0 b e0 H0 L (iV :: S) e H Xs := by
  unfold RLx
  rw [if_neg (by decide)]
  exact ⟨nc, s0, Hs, Xs, h, hs, h9, T, fun _ => ⟨rfl, v⟩, fun c => absurd c (by decide), fun c => absurd c (by decide), fun c => absurd c (by decide), fun c => absurd c (by decide)⟩
theorem rlx_Vi (h : RLx σ g CP X0 b e0 H0 L (iV :: S) e H X) : NC S ∧ ∃ s0 Hs, RLx σ g CP X0 b e0 H0 L S s0 Hs X ∧ s0 ≤ e ∧ (σ (65 + S.length) 9).toInt = s0 ∧ TYp (σ 24) g CP X b e H L ∧ itV σ g (65 + S.length) s0 Hs e H := by
  unfold RLx at h
  rw [if_neg (by decide)] at h
  obtain ⟨nc, s0, Hs, Xs, h1, h2, h3, h4, h5, -⟩ := h
  obtain ⟨rfl, v⟩ := h5 rfl
  exact ⟨nc, s0, Hs, h1, h2, h3, h4, v⟩
theorem rlx_L {sg : Int} (nc : NC S) (h : RLx σ g CP X0 b e0 H0 L S s0 Hs Xs) (hs : s0 ≤ e) (h9 : (σ (65 + S.length) 9).toInt = s0) (T : TYp (σ 24) g CP X b e H L) (v : itL σ g L sg.toNat (65 + S.length) s0 Hs Xs e H X) : RLx σ g CP X0 b e0 H0 L (iL sg :: S) e H X := by
  unfold RLx
  rw [if_neg (by show ¬ (1 : Nat) = 4; decide)]
  exact ⟨nc, s0, Hs, Xs, h, hs, h9, T, fun c => absurd c (by show ¬ (1 : Nat) = 0; decide), fun _ => v, fun c => absurd c (by show ¬ (1 : Nat) = 2; decide), fun c => absurd c (by show ¬ (1 : Nat) = 3; decide), fun c => absurd c (by show ¬ (1 : Nat) = 5; decide)⟩
theorem rlx_Li {sg : Int} (h : RLx σ g CP X0 b e0 H0 L (iL sg :: S) e H X) : NC S ∧ ∃ s0 Hs Xs, RLx σ g CP X0 b e0 H0 L S s0 Hs Xs ∧ s0 ≤ e ∧ (σ (65 + S.length) 9).toInt = s0 ∧ TYp (σ 24) g CP X b e H L ∧ itL σ g L sg.toNat (65 + S.length) s0 Hs Xs e H X := by
  unfold RLx at h
  rw [if_neg (by show ¬ (1 : Nat) = 4; decide)] at h
  obtain ⟨nc, s0, Hs, Xs, h1, h2, h3, h4, -, h5, -⟩ := h
  exact ⟨nc, s0, Hs, Xs, h1, h2, h3, h4, h5 rfl⟩
theorem rlx_Q (nc : NC S) (h : RLx σ g CP X0 b e0 H0 L S s0 Hs Xs) (hs : s0 ≤ e) (h9 : (σ (65 + S.length) 9).toInt = s0) (T : TYp (σ 24) g CP X b e H L) (v : itQ σ g L (65 + S.length) s0 Hs Xs e H X) : RLx σ g CP X0 b e0 H0 L (iQ :: S) e H X := by
  unfold RLx
  rw [if_neg (by decide)]
  exact ⟨nc, s0, Hs, Xs, h, hs, h9, T, fun c => absurd c (by decide), fun c => absurd c (by decide), fun _ => v, fun c => absurd c (by decide), fun c => absurd c (by decide)⟩
theorem rlx_Qi (h : RLx σ g CP X0 b e0 H0 L (iQ :: S) e H X) : NC S ∧ ∃ s0 Hs Xs, RLx σ g CP X0 b e0 H0 L S s0 Hs Xs ∧ s0 ≤ e ∧ (σ (65 + S.length) 9).toInt = s0 ∧ TYp (σ 24) g CP X b e H L ∧ itQ σ g L (65 + S.length) s0 Hs Xs e H X := by
  unfold RLx at h
  rw [if_neg (by decide)] at h
  obtain ⟨nc, s0, Hs, Xs, h1, h2, h3, h4, -, -, h5, -⟩ := h
  exact ⟨nc, s0, Hs, Xs, h1, h2, h3, h4, h5 rfl⟩
theorem rlx_C (nc : NC S) (h : RLx σ g CP X0 b e0 H0 L S s0 Hs Xs) (hs : s0 ≤ e) (h9 : (σ (65 + S.length) 9).toInt = s0) (T : TYp (σ 24) g CP X b e H L) (v : itC σ g L (65 + S.length) s0 Hs Xs e H X) (hk : KDq σ (65 + (S.length + 1)) = 0) : RLx σ g CP X0 b e0 H0 L (iM :: iC :: S) e H X := by
  unfold RLx
  rw [if_pos (show iM.1 = 4 from rfl)]
  refine ⟨?_, hk⟩
  unfold RLx
  rw [if_neg (by decide)]
  exact ⟨nc, s0, Hs, Xs, h, hs, h9, T, fun c => absurd c (by decide), fun c => absurd c (by decide), fun c => absurd c (by decide), fun _ => v, fun c => absurd c (by decide)⟩
theorem rlx_Ci (h : RLx σ g CP X0 b e0 H0 L (iM :: iC :: S) e H X) : KDq σ (65 + (S.length + 1)) = 0 ∧ NC S ∧ ∃ s0 Hs Xs, RLx σ g CP X0 b e0 H0 L S s0 Hs Xs ∧ s0 ≤ e ∧ (σ (65 + S.length) 9).toInt = s0 ∧ TYp (σ 24) g CP X b e H L ∧ itC σ g L (65 + S.length) s0 Hs Xs e H X := by
  unfold RLx at h
  rw [if_pos (show iM.1 = 4 from rfl)] at h
  obtain ⟨h, hk⟩ := h
  unfold RLx at h
  rw [if_neg (by decide)] at h
  obtain ⟨nc, s0, Hs, Xs, h1, h2, h3, h4, -, -, -, h5, -⟩ := h
  exact ⟨hk, nc, s0, Hs, Xs, h1, h2, h3, h4, h5 rfl⟩
theorem rlx_F (nc : NC S) (h : RLx σ g CP X0 b e0 H0 L S s0 Hs Xs) (hs : s0 ≤ e) (h9 : (σ (65 + S.length) 9).toInt = s0) (T : TYp (σ 24) g CP X b e H L) (v : itF σ g CP (65 + S.length) s0 Hs Xs e H X) : RLx σ g CP X0 b e0 H0 L (iF :: S) e H X := by
  unfold RLx
  rw [if_neg (by decide)]
  exact ⟨nc, s0, Hs, Xs, h, hs, h9, T, fun c => absurd c (by decide), fun c => absurd c (by decide), fun c => absurd c (by decide), fun c => absurd c (by decide), fun _ => v⟩
theorem rlx_Fi (h : RLx σ g CP X0 b e0 H0 L (iF :: S) e H X) : NC S ∧ ∃ s0 Hs Xs, RLx σ g CP X0 b e0 H0 L S s0 Hs Xs ∧ s0 ≤ e ∧ (σ (65 + S.length) 9).toInt = s0 ∧ TYp (σ 24) g CP X b e H L ∧ itF σ g CP (65 + S.length) s0 Hs Xs e H X := by
  unfold RLx at h
  rw [if_neg (by decide)] at h
  obtain ⟨nc, s0, Hs, Xs, h1, h2, h3, h4, -, -, -, -, h5⟩ := h
  exact ⟨nc, s0, Hs, Xs, h1, h2, h3, h4, h5 rfl⟩
end XBS
