/-! between calls -/
/-- what a unit's code may call -/
def CPo (σ : St) (o : Nat) (a : Int) (m : Nat) : Prop := (((σ 34) (o - 1)).toInt ≤ a ∧ a < ((σ 34) o).toInt ∧ 0 ≤ a ∧ a < 10100) ∧ FLb ((σ 25) a.toNat) 1 ∧ FLb ((σ 25) a.toNat) 8 ∧ spar ((σ 27) a.toNat) = m ∧ (FLb ((σ 25) a.toNat) 2 → FLb ((σ 25) a.toNat) 4)
/-- a kept unit's functions -/
def FNo (σ : St) (o : Nat) : Prop := ∀ d : Nat, ((σ 34) (o - 1)).toInt ≤ d → (d : Int) < ((σ 34) o).toInt → FLb ((σ 25) d) 1 → FLb ((σ 25) d) 4 → ∃ hd L g, ((σ 28) d).toInt = (hd : Nat) ∧ FUNe (σ 24) (CPo σ o) (clen σ) hd (spar ((σ 27) d)) L g
def LKe (κ : St) (Fs : Nat → Nat → Prop) (N : Nat) : Prop := ∀ hd n, Fs hd n → ∃ L g, FUNe (κ 24) (CPI κ Fs) N hd n L g
/-- what is linked can be run -/
def RDy (σ : St) : Prop := (σ 10 2).toInt ≠ 0 → ∃ Fs hd, LKe σ Fs (clen σ) ∧ (σ 10 11).toInt = (hd : Nat) ∧ Fs hd 0
/-- the library's declarations -/
def LBr (σ : St) : Prop := ((σ 29) 0).toInt = 3 ∧ ∀ d : Nat, d < 4 → FLb ((σ 25) d) 1 ∧ FLb ((σ 25) d) 4 ∧ ((σ 28) d).toInt = -1 - d ∧ spar ((σ 27) d) = (if d = 0 then 0 else 1)
/-- what is picked -/
def PKx (σ : St) (o : Nat) : Prop := (1 ≤ (σ 10 5).toInt ∧ (σ 10 5).toInt ≤ o + 1) ∧ ((σ 56) 0).toInt = 0 ∧ (∀ j : Nat, 1 ≤ j → (j : Int) < (σ 10 5).toInt → 1 ≤ ((σ 56) j).toInt ∧ ((σ 56) j).toInt ≤ o) ∧ ∀ i j : Nat, 1 ≤ i → i < j → (j : Int) < (σ 10 5).toInt → ((σ 56) i).toInt ≠ ((σ 56) j).toInt
/-- the ends of the objects' declarations -/
def DEx (σ : St) (o : Nat) : Prop := ((σ 34) 0).toInt = 4 ∧ ∀ k, k < o → ((σ 34) k).toInt ≤ ((σ 34) (k + 1)).toInt ∧ ((σ 34) (k + 1)).toInt ≤ ((σ 34) k).toInt + 100
/-- the bytes that are fed and what came of them -/
def FDx (σ : St) : Prop := (0 ≤ (σ 0 1).toInt ∧ (σ 0 1).toInt ≤ 16000 ∧ (σ 0 1).toInt ≤ (σ 0 2).toInt ∧ (σ 0 2).toInt ≤ 65536) ∧ (0 ≤ (σ 4 1).toInt ∧ (σ 4 1).toInt ≤ 4 * ((σ 0 2).toInt - (σ 0 1).toInt)) ∧ (0 ≤ (σ 5 7).toInt ∧ (σ 5 7).toInt ≤ 15 + ((σ 0 2).toInt - (σ 0 1).toInt))
def IVx (σ : St) (o : Nat) : Prop := ((σ 5 13).toInt = o ∧ o ≤ 100) ∧ DEx σ o ∧ (σ 5 1).toInt = ((σ 34) o).toInt ∧ (σ 4 1).toInt = ((σ 36) o).toInt ∧ FDx σ ∧ NME σ ∧ (PLA σ ∧ NMr σ ∧ ByteOK (σ 1) ∧ ∀ j, FLb ((σ 25) j) 1 → spar ((σ 27) j) ≤ 8) ∧ LBr σ ∧ (∀ k, 1 ≤ k → k ≤ o → FNo σ k) ∧ RDy σ ∧ PKx σ o ∧ (σ 12 18).toInt = 0 ∧ 0 ≤ (σ 11 0).toInt
/-- what was there stays -/
def BLx (σ s : St) (o : Nat) : Prop := (∀ d : Nat, (d : Int) < (σ 5 1).toInt → (s 27) d = (σ 27) d ∧ (s 28) d = (σ 28) d ∧ (s 29) d = (σ 29) d ∧ ((s 25) d &&& 1 = (σ 25) d &&& 1) ∧ ((s 25) d &&& 2 = (σ 25) d &&& 2) ∧ ((s 25) d &&& 4 = (σ 25) d &&& 4) ∧ (FLb ((σ 25) d) 8 → FLb ((s 25) d) 8)) ∧ (∀ j, j < clen σ → (s 24) j = (σ 24) j) ∧ clen σ ≤ clen s ∧ (∀ k, k ≤ o → (s 34) k = (σ 34) k) ∧ (s 59) = (σ 59) ∧ s 10 = σ 10 ∧ (s 56) = (σ 56)
section IVS
variable {σ s z t ρ : St} {n m i j k o d : Nat} {x y v a a1 a2 a3 : Int32}
theorem de_le (h : DEx σ o) : ∀ k, k ≤ o → 4 ≤ ((σ 34) k).toInt ∧ ((σ 34) k).toInt ≤ 4 + 100 * (k : Int)
  | 0, _ => by rw [h.1]; omega
  | k + 1, hk => by
    have h1 := de_le h k (by omega)
    have h2 := h.2 k (by omega)
    omega
theorem de_mono (h : DEx σ o) (hi : i ≤ o) : ∀ k, k ≤ i → ((σ 34) k).toInt ≤ ((σ 34) i).toInt := by
  induction i with
  | zero => intro k hk; rw [show k = 0 from by omega]; exact Int.le_refl _
  | succ i ih =>
    intro k hk
    by_cases c : k = i + 1
    · rw [c]; exact Int.le_refl _
    · exact Int.le_trans (ih (by omega) k (by omega)) (h.2 i (by omega)).1
theorem flb_iff (h : x &&& a = y &&& a) : FLb x a ↔ FLb y a := by unfold FLb; rw [h]
theorem bl_cp (b : BLx σ s o) (hk : k ≤ o) (he : ((σ 34) k).toInt ≤ (σ 5 1).toInt) : ∀ a m, CPo σ k a m → CPo s k a m := fun a m ⟨⟨c1, c2, c3, c4⟩, h1, h2, h3, h4⟩ => by
  obtain ⟨b1, b2, b3, b4, b5, b6, b7⟩ := b
  obtain ⟨r1, r2, r3, r4, r5, r6, r7⟩ := b1 a.toNat (by omega)
  unfold CPo
  rw [b4 (k - 1) (by omega), b4 k hk, r1]
  exact ⟨⟨c1, c2, c3, c4⟩, (flb_iff r4).mpr h1, r7 h2, h3, fun q => (flb_iff r6).mpr (h4 ((flb_iff r5).mp q))⟩
theorem bl_fn (b : BLx σ s o) (hk : k ≤ o) (he : ((σ 34) k).toInt ≤ (σ 5 1).toInt) (h : FNo σ k) : FNo s k := fun d h1 h2 h3 h4 => by
  have cp := bl_cp b hk he
  obtain ⟨b1, b2, b3, b4, b5, b6, b7⟩ := b
  rw [b4 (k - 1) (by omega)] at h1
  rw [b4 k hk] at h2
  obtain ⟨r1, r2, r3, r4, r5, r6, r7⟩ := b1 d (by omega)
  obtain ⟨hd, L, g, q1, q2⟩ := h d h1 h2 ((flb_iff r4).mp h3) ((flb_iff r6).mp h4)
  exact ⟨hd, L, g, by rw [r2]; exact q1, by rw [r1]; exact fune_mono b2 cp b3 q2⟩
theorem bl_lb (b : BLx σ s o) (hd : 4 ≤ (σ 5 1).toInt) (h : LBr σ) : LBr s := by
  obtain ⟨b1, b2, b3, b4, b5, b6, b7⟩ := b
  refine ⟨by rw [(b1 0 (by omega)).2.2.1]; exact h.1, fun d hd4 => ?_⟩
  obtain ⟨r1, r2, r3, r4, r5, r6, r7⟩ := b1 d (by omega)
  obtain ⟨q1, q2, q3, q4⟩ := h.2 d hd4
  exact ⟨(flb_iff r4).mpr q1, (flb_iff r6).mpr q2, by rw [r2]; exact q3, by rw [r1]; exact q4⟩
theorem cpi_mono {κ κ' : St} {Fs : Nat → Nat → Prop} (e : (κ' 59) = (κ 59)) : ∀ a m, CPI κ Fs a m → CPI κ' Fs a m := fun a m h => by
  unfold CPI at h ⊢
  rw [e]
  exact h
theorem bl_rd (b : BLx σ s o) (h : RDy σ) : RDy s := fun hr => by
  obtain ⟨b1, b2, b3, b4, b5, b6, b7⟩ := b
  rw [b6] at hr
  obtain ⟨Fs, hd, q1, q2, q3⟩ := h hr
  refine ⟨Fs, hd, fun hd' n hf => ?_, by rw [b6]; exact q2, q3⟩
  obtain ⟨L, g, f⟩ := q1 hd' n hf
  exact ⟨L, g, fune_mono b2 (cpi_mono b5) b3 f⟩
theorem bl_pk {o' : Nat} (b : BLx σ s o) (ho : o ≤ o') (h : PKx σ o) : PKx s o' := by
  obtain ⟨b1, b2, b3, b4, b5, b6, b7⟩ := b
  obtain ⟨⟨h1, h2⟩, h3, h4, h5⟩ := h
  unfold PKx
  rw [b6, b7]
  exact ⟨⟨h1, by omega⟩, h3, fun j j1 j2 => ⟨(h4 j j1 j2).1, by have := (h4 j j1 j2).2; omega⟩, h5⟩
theorem nme_cut (h : NME σ) (e : ∀ d : Nat, (d : Int) < (σ 5 1).toInt → (s 29) d = (σ 29) d) (b : ∀ d, 0 ≤ ((s 29) d).toInt ∧ ((s 29) d).toInt ≤ 65600) (ed : (s 5 1).toInt = (σ 5 1).toInt) (en : (s 5 7).toInt = (σ 5 7).toInt) : NME s := ⟨fun d hd => by rw [e d (by omega), en]; exact h.1 d (by omega), b⟩
end IVS
