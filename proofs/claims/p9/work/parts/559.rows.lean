/-! the rows of a body: where its locals lie -/
section ROW
variable {σ s s' τ t t' : St} {vs z z' : List Nat}
theorem mxv {y : Int32} : ((if y < (1 : Int32) then (1 : Int32) else y).toInt = if y.toInt < 1 then 1 else y.toInt) ∧ ((if y < (0 : Int32) then (0 : Int32) else y).toInt = if y.toInt < 0 then 0 else y.toInt) := by
  have e1 : (1 : Int32).toInt = 1 := by decide
  have e0 : (0 : Int32).toInt = 0 := by decide
  constructor
  · by_cases c : y < (1 : Int32)
    · rw [if_pos c, if_pos (by rw [← e1]; exact Int32.lt_iff_toInt_lt.mp c), e1]
    · rw [if_neg c, if_neg (fun q => c (Int32.lt_iff_toInt_lt.mpr (by rw [e1]; exact q)))]
  · by_cases c : y < (0 : Int32)
    · rw [if_pos c, if_pos (by rw [← e0]; exact Int32.lt_iff_toInt_lt.mp c), e0]
    · rw [if_neg c, if_neg (fun q => c (Int32.lt_iff_toInt_lt.mpr (by rw [e0]; exact q)))]
theorem row_mono {w : Nat → Int32} {r : Nat} {a b : Int} (h : RowOK w r a) (hab : a ≤ b) : RowOK w r b := ⟨fun q => by have := h.1 q; omega, fun q => by have := h.2 q; omega⟩
theorem row_w {w w' : Nat → Int32} {r : Nat} {a : Int} (h : RowOK w r a) (h1 : w' r = w r) (h2 : w' (r + 1) = w (r + 1)) : RowOK w' r a := by
  unfold RowOK at *
  rw [h1, h2]
  exact h
def RWx (σ s : St) (c k : Int) : Prop := Kp [(0, 17)] [8] σ s ∧ RW σ s ∧ (s 0 17).toInt = (σ 0 17).toInt + 2 * k ∧ (0 ≤ c ∧ c ≤ 4000 * k) ∧ ∀ j : Nat, (j : Int) < k → RowOK (s 8) (wcn σ + 2 * j) c
theorem rw_put {a b : Int32} {c c' k : Int} (h0 : 0 ≤ (σ 0 17).toInt) (hk : 0 ≤ k) (h : RWx σ s c k) (p : PU s s' [a, b]) (hc : c ≤ c' ∧ c' ≤ c + 4000) (hr : (0 ≤ a.toInt → a.toInt < c') ∧ (0 < b.toInt → 0 ≤ a.toInt ∧ a.toInt + b.toInt ≤ c')) : RWx σ s' c' (k + 1) := by
  obtain ⟨h1, h2, h3, ⟨h4, h5⟩, h6⟩ := h
  have e0 : (wcn σ : Int) = (σ 0 17).toInt := nt h0
  have e1 : (wcn s : Int) = (s 0 17).toInt := nt (by omega)
  have W : (s' 0 17).toInt = (s 0 17).toInt + 2 := p.2.1
  have w0 : (s' 8) (wcn s) = a := p.2.2.2 0 a rfl
  have w1 : (s' 8) (wcn s + 1) = b := p.2.2.2 1 b rfl
  refine ⟨kp_tr h1 p.1, fun j hj => (p.2.2.1 j (by omega)).trans (h2 j hj), by omega, by omega, fun j hj => ?_⟩
  by_cases q : (j : Int) < k
  · exact row_mono (row_w (h6 j q) (p.2.2.1 _ (by omega)) (p.2.2.1 _ (by omega))) hc.1
  · have e2 : wcn σ + 2 * j = wcn s := by omega
    rw [e2]
    unfold RowOK
    rw [w0, w1]
    exact hr
theorem sp_rows {K : Int32 → St → St → List Nat → Prop} (h0 : 0 ≤ (σ 0 17).toInt ∧ (σ 0 17).toInt ≤ 480000) (hl : 0 ≤ (σ 0 49).toInt ∧ (σ 0 49).toInt ≤ 100) (hs : AllIn (-1) 4000 (σ 32)) (k : ∀ (c : Int32) s, RWx σ s c.toInt (σ 0 49).toInt → K c s τ vs) : ∃ L165 : Nat → Int32 → Int32 → St → St → List Nat → Prop, (∃ n, L165 n (0 : Int32) (0 : Int32) σ τ vs) ∧ ∀ (n165 : Nat) (x4_165 : Int32) (x5_165 : Int32) (s165 t165 : St) (z165 : List Nat), L165 n165 x4_165 x5_165 s165 t165 z165 → (((s165 0 49).toInt ≤ x5_165.toInt → K x4_165 s165 t165 z165) ∧ (x5_165.toInt < (s165 0 49).toInt → ((0 ≤ x5_165.toInt ∧ x5_165.toInt < 100) ∧ (∃ J199 : Int32 → Prop, (∀ (y0_199 : Int32), y0_199 = 0 ∨ y0_199 = 1 → J199 y0_199 → ((∃ J213 : Int32 → Prop, (∀ (y1_213 : Int32), J213 y1_213 → (((0 ≤ x5_165.toInt ∧ x5_165.toInt < 100) ∧ wp_put_1 y1_213 (if (s165 32 x5_165.toNatClampNeg) < (0 : Int32) then (0 : Int32) else (s165 32 x5_165.toNatClampNeg)) s165 t165 z165 (fun s224 t224 z224 => (∃ J248 : Int32 → Prop, (∀ (x4_248 : Int32), J248 x4_248 → (∃ m, m < n165 ∧ L165 m x4_248 (x5_165 + 1) s224 t224 z224)) ∧ (y0_199.toInt = 0 → J248 x4_165) ∧ (y0_199.toInt ≠ 0 → ((0 ≤ x5_165.toInt ∧ x5_165.toInt < 100) ∧ J248 (x4_165 + (if (s224 32 x5_165.toNatClampNeg) < (1 : Int32) then (1 : Int32) else (s224 32 x5_165.toNatClampNeg)))))))))) ∧ (y0_199.toInt = 0 → J213 ((-1) : Int32)) ∧ (y0_199.toInt ≠ 0 → J213 x4_165)))) ∧ (∃ J194 : Prop, (J194  → (J199 (1 : Int32))) ∧ ((s165 33 x5_165.toNatClampNeg).toInt ≠ 0 → J194) ∧ ((s165 33 x5_165.toNatClampNeg).toInt = 0 → ((0 ≤ x5_165.toInt ∧ x5_165.toInt < 100) ∧ ((s165 32 x5_165.toNatClampNeg).toInt < 0 → J199 (0 : Int32)) ∧ (0 ≤ (s165 32 x5_165.toNatClampNeg).toInt → J194)))))))) := by
  have z0 : (0 : Int32).toInt = 0 := by decide
  refine ⟨fun n c x s t z => (n : Int) = (σ 0 49).toInt - x.toInt ∧ (0 ≤ x.toInt ∧ x.toInt ≤ (σ 0 49).toInt) ∧ τ = t ∧ vs = z ∧ RWx σ s c.toInt x.toInt, ⟨((σ 0 49).toInt).toNat, by rw [z0]; omega, by rw [z0]; omega, rfl, rfl, kp_rf, fun _ _ => rfl, by rw [z0]; omega, by rw [z0]; omega, fun j hj => by rw [z0] at hj; omega⟩, ?_⟩
  rintro n c x s _ _ ⟨hn, hx, rfl, rfl, hr⟩
  have el : (s 0 49) = (σ 0 49) := hr.1 _ _ rfl rfl
  have es : (s 32) x.toNatClampNeg = (σ 32) x.toNatClampNeg := hr.1 32 _ rfl rfl
  have hz := hs x.toNatClampNeg
  have hW := hr.2.2.1
  have hC := hr.2.2.2.1
  have e1 : (x + 1).toInt = x.toInt + 1 := ad1 (by omega)
  refine ⟨fun c1 => ?_, fun c1 => ?_⟩
  · rw [el] at c1
    have e : x.toInt = (σ 0 49).toInt := by omega
    refine k c s ?_
    rw [← e]
    exact hr
  rw [el] at c1
  refine ⟨by omega, fun y => y.toInt = 0 → ((σ 32) x.toNatClampNeg).toInt < 0, fun y _ hy => ?_, True, fun _ => fun q => absurd q (by decide), fun _ => trivial, fun _ => ⟨by omega, fun q _ => by rw [← es]; exact q, fun _ => trivial⟩⟩
  rw [es]
  obtain ⟨m1, m0⟩ := mxv (y := (σ 32) x.toNatClampNeg)
  refine ⟨fun v => (y.toInt = 0 → v.toInt = -1) ∧ (y.toInt ≠ 0 → v = c), fun v hv => ⟨by omega, sp_put_1 (by omega) (by omega) (fun s2 p => ?_)⟩, fun q => ⟨fun _ => by decide, fun q2 => absurd q q2⟩, fun q => ⟨fun q2 => absurd q2 q, fun _ => rfl⟩⟩
  have es2 : (s2 32) x.toNatClampNeg = (σ 32) x.toNatClampNeg := (p.1 32 _ rfl rfl).trans es
  rw [es2]
  generalize hb : (if (σ 32 x.toNatClampNeg) < (0 : Int32) then (0 : Int32) else (σ 32 x.toNatClampNeg)) = b at *
  generalize hm : (if (σ 32 x.toNatClampNeg) < (1 : Int32) then (1 : Int32) else (σ 32 x.toNatClampNeg)) = m at *
  refine ⟨fun c' => RWx σ s2 c'.toInt (x.toInt + 1), fun c' h => ⟨((σ 0 49).toInt - x.toInt - 1).toNat, by omega, by omega, by omega, rfl, rfl, by rw [e1]; exact h⟩, fun q => ?_, fun q => ⟨by omega, ?_⟩⟩
  · have v1 := hv.1 q
    have s1 := hy q
    rw [if_pos s1] at m0
    exact rw_put h0.1 hx.1 hr p (by omega) ⟨fun q2 => by omega, fun q2 => by omega⟩
  · have v1 := hv.2 q
    subst v1
    have ea : (v + m).toInt = v.toInt + m.toInt := ad (by split at m1 <;> omega) (by split at m1 <;> omega)
    show RWx σ s2 (v + m).toInt (x.toInt + 1)
    rw [ea]
    exact rw_put h0.1 hx.1 hr p (by split at m1 <;> omega) ⟨fun _ => by split at m1 <;> omega, fun q2 => ⟨hC.1, by split at m1 <;> split at m0 <;> omega⟩⟩
end ROW
