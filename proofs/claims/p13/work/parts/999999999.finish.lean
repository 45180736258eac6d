/-! the end of a unit: what has no body -/
/-- a static function of the unit that is called and has no body -/
def NBk (w : St) (m i : Nat) : Prop := FLq w ((w 5 1).toInt.toNat - m + i) 2 ∧ ¬ FLq w ((w 5 1).toInt.toNat - m + i) 4 ∧ 0 ≤ (w 39 i).toInt
def NBp (σ : St) (lo i : Nat) : Prop := (σ 9 (lo + i)).toInt = 2 ∧ (σ 12 (lo + i)).toInt ≠ 0 ∧ (σ 13 (lo + i)).toInt = 0 ∧ 0 ≤ (σ 21 i).toInt
section FNS
variable {w s σ τ : St} {kd : Nat → Int} {n m lo i : Nat} {vs : List Nat} {x x1 : Int32} {P : Nat → Prop}
theorem nb_eq (h : ORR w σ kd n i ((w 5 1).toInt.toNat - m + i) (lo + i)) : NBk w m i ↔ NBp σ lo i := by
  obtain ⟨_, _, _, _, h1, h9, _, _, _, _, h39, h2, h4, h124, _, _, _⟩ := h
  have e39 : 0 ≤ (w 39 i).toInt ↔ 0 ≤ (σ 21 i).toInt := by omega
  constructor
  · rintro ⟨a, b, c⟩
    have c1 := Classical.byContradiction (fun hx => b (h124 hx a))
    exact ⟨h9.resolve_left (h1.1 c1), h2.1 a, Classical.byContradiction (fun hx => b (h4.2 hx)), e39.1 c⟩
  · rintro ⟨a, b, c, d⟩
    exact ⟨h2.2 b, fun hx => (h4.1 hx) c, e39.2 d⟩
/-- one more looked at -/
theorem some_no (h : 0 ≤ x.toInt ↔ ∃ j, j < i ∧ P j) (hn : ¬ P i) : 0 ≤ x.toInt ↔ ∃ j, j < i + 1 ∧ P j := by
  rw [h]
  constructor
  · rintro ⟨j, hj, hp⟩; exact ⟨j, Nat.lt_succ_of_lt hj, hp⟩
  · rintro ⟨j, hj, hp⟩
    rcases Nat.lt_succ_iff_lt_or_eq.mp hj with h' | h'
    · exact ⟨j, h', hp⟩
    · rw [h'] at hp; exact absurd hp hn
theorem some_yes (hx : 0 ≤ x.toInt) (hp : P i) : 0 ≤ x.toInt ↔ ∃ j, j < i + 1 ∧ P j := ⟨fun _ => ⟨i, Nat.lt_succ_self i, hp⟩, fun _ => hx⟩
theorem no_zero : ¬ ∃ j, j < 0 ∧ P j := fun ⟨j, hj, _⟩ => absurd hj (Nat.not_lt_zero j)
theorem fd_at {a b x : Int32} (ha : b.toInt = (m : Int)) (hm : m ≤ 100) (h51 : (m : Int) ≤ a.toInt ∧ a.toInt ≤ 10100) (hx : x.toInt = (i : Int)) (hi : i < m) : ((a - b) + x).toInt = ((a.toInt.toNat - m + i : Nat) : Int) ∧ a.toInt.toNat - m + i < 10100 := by
  have e1 := sb (x := a) (y := b) (by omega) (by omega)
  rw [ad (by rw [e1]; omega) (by rw [e1]; omega), e1]
  omega
theorem xf_finish {Q : St → Prop} (h67 : (w 6 7).toInt = (m : Int)) (hm : m ≤ 100) (h51 : (m : Int) ≤ (w 5 1).toInt ∧ (w 5 1).toInt ≤ 10100) (kk : ∀ s, Kp [(6, 3), (6, 4)] [] w s → ((s 6 3).toInt ≠ 0 ↔ (w 6 3).toInt ≠ 0 ∨ ∃ i, i < m ∧ NBk w m i) → Q s) : pk_X11_finish w Q := by
  unfold pk_X11_finish
  refine ⟨fun x1 x2 => ∃ i : Nat, x2.toInt = (i : Int) ∧ i ≤ m ∧ (0 ≤ x1.toInt ↔ ∃ j, j < i ∧ NBk w m j), ⟨0, rfl, Nat.zero_le _, ⟨fun h => absurd h (by decide), fun h => absurd h no_zero⟩⟩, ?_⟩
  rintro x1 x2 ⟨i, hx2, him, hb⟩
  refine ⟨fun c => ?_, fun c => ?_⟩
  · have ei : i = m := by clear hb; omega
    rw [ei] at hb
    exact ⟨fun c1 => kk w kp_rf ⟨Or.inl, fun h => h.elim id (fun h' => absurd (hb.2 h') (Int.not_le.mpr c1))⟩, fun c1 => xl_fail (by decide) (fun s k h => kk s k ⟨fun _ => Or.inr (hb.1 c1), fun _ => h⟩)⟩
  · have hi : i < m := by clear hb; omega
    obtain ⟨ed, hd⟩ := fd_at (a := w 5 1) (b := w 6 7) h67 hm h51 hx2 hi
    have af : atv 10100 (w 25) (((w 5 1) - (w 6 7)) + x2) = w 25 ((w 5 1).toInt.toNat - m + i) := atv_at ed hd
    have at39 : atv 100 (w 39) x2 = w 39 i := atv_at hx2 (Nat.lt_of_lt_of_le hi hm)
    have e1 : (x2 + 1).toInt = ((i + 1 : Nat) : Int) := by
      clear hb
      rw [ad1 (by omega), hx2]; rfl
    refine xl_is (fun v43 _ h43 => ?_)
    rw [af] at h43
    refine ⟨fun y => y.toInt ≠ 0 ↔ FLq w ((w 5 1).toInt.toNat - m + i) 2 ∧ ¬ FLq w ((w 5 1).toInt.toNat - m + i) 4, fun y _ hy => ?_, ¬ (FLq w ((w 5 1).toInt.toNat - m + i) 2 ∧ ¬ FLq w ((w 5 1).toInt.toNat - m + i) 4), fun hj => ⟨fun h => absurd rfl h, fun h => absurd h hj⟩, fun c0 h => (h43.2 h.1) c0, fun c0 => xl_is (fun v55 _ h55 => ?_)⟩
    rotate_left
    · rw [af] at h55
      exact ⟨fun c1 h => h.2 (h55.1 c1), fun c1 => ⟨fun _ => ⟨h43.1 c0, fun h => (h55.2 h) c1⟩, fun _ => by decide⟩⟩
    rw [at39]
    refine ⟨fun x => (0 ≤ x.toInt ↔ ∃ j, j < i + 1 ∧ NBk w m j), fun x hx => ⟨i + 1, e1, hi, hx⟩, fun c0 => some_no hb (fun h => (hy.2 ⟨h.1, h.2.1⟩) c0), fun c0 => ⟨fun c39 => some_no hb (fun h => absurd h.2.2 (Int.not_le.mpr c39)), fun c39 => ?_⟩⟩
    have nb : NBk w m i := ⟨(hy.1 c0).1, (hy.1 c0).2, c39⟩
    exact ⟨True, fun _ => some_yes c39 nb, fun _ => trivial, fun c1 => ⟨fun _ => some_yes c1 nb, fun _ => trivial⟩⟩
theorem mr_bodiless {Q : St → St → List Nat → Prop} (hE : EOKm σ lo (lo + m)) (hm : m ≤ 100) (h0 : 0 ≤ (σ 0 12).toInt) (h15 : (σ 0 15).toInt = 0) (kk : ∀ s, KFr σ s → ((s 0 12).toInt ≠ 0 ↔ (σ 0 12).toInt ≠ 0 ∨ ∃ i, i < m ∧ NBp σ lo i) → 0 ≤ (s 0 12).toInt → Q s τ vs) : pp_bodiless σ τ vs Q := by
  obtain ⟨e22, e36, _, hle, _⟩ := hE
  unfold pp_bodiless
  generalize σ 22 (σ 0 35).toNatClampNeg = f at e22
  refine fun _ => ⟨fun x1 x2 => ∃ i : Nat, x2.toInt = ((lo + i : Nat) : Int) ∧ i ≤ m ∧ (0 ≤ x1.toInt ↔ ∃ j, j < i ∧ NBp σ lo j), ⟨0, e22, Nat.zero_le _, ⟨fun h => absurd h (by decide), fun h => absurd h no_zero⟩⟩, ?_⟩
  rintro x1 x2 ⟨i, hx2, him, hb⟩
  refine ⟨fun c => ?_, fun c => ?_⟩
  · have ei : i = m := by clear hb; omega
    rw [ei] at hb
    exact ⟨fun c1 => kk σ kp_rf ⟨Or.inl, fun h => h.elim id (fun h' => absurd (hb.2 h') (Int.not_le.mpr c1))⟩ h0, fun c1 => mr_tell h0 (by decide) (fun s k h => kk s k ⟨fun _ => Or.inr (hb.1 c1), fun _ => h.2.2 (Or.inr ⟨trivial, by clear hb; omega⟩)⟩ h.1)⟩
  · have hi : i < m := by clear hb; omega
    have e1 : (x2 + 1).toInt = ((lo + (i + 1) : Nat) : Int) := by
      clear hb
      rw [ad1 (by omega), hx2]; rfl
    have en : x2.toNatClampNeg = lo + i := nat_of hx2
    have ef : (x2 - f).toNatClampNeg = i := nat_of (by clear hb; rw [sb (by omega) (by omega)]; omega)
    rw [en, ef]
    refine fun _ _ _ => ⟨fun x => (0 ≤ x.toInt ↔ ∃ j, j < i + 1 ∧ NBp σ lo j), fun x hx => ⟨i + 1, e1, hi, hx⟩, fun c0 => some_no hb (fun h => c0 h.1), fun c9 _ => ⟨fun c0 => some_no hb (fun h => h.2.1 c0), fun c12 _ => ⟨fun c0 => some_no hb (fun h => c0 h.2.2.1), fun c13 => ⟨fun c0 => some_no hb (fun h => absurd h.2.2.2 (Int.not_le.mpr c0)), fun c21 => ?_⟩⟩⟩⟩
    have nb : NBp σ lo i := ⟨c9, c12, c13, c21⟩
    exact ⟨True, fun _ => some_yes c21 nb, fun _ => trivial, fun c1 => ⟨fun _ => some_yes c1 nb, fun _ => trivial⟩⟩
end FNS
