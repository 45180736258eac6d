/-! names are looked up -/
def kxI (σ : St) (x : Int32) : Int32 := atv 101 (σ 56) x
def LOi (σ : St) (x : Int32) : Int := if 0 < (kxI σ x).toInt then (atv 101 (σ 34) (kxI σ x - (1 : Int32))).toInt else 0
def HIi (σ : St) (x : Int32) : Int := (atv 101 (σ 34) (kxI σ x)).toInt
def RGi (σ : St) (x d : Int32) : Prop := LOi σ x ≤ d.toInt ∧ d.toInt < HIi σ x
/-- the first that fits -/
def FSTi (σ : St) (n : Int) (C : Int32 → Prop) (v : Int32) : Prop := (v = -1 ∧ ∀ x, 0 ≤ x.toInt → x.toInt < n → ∀ d, RGi σ x d → ¬ C d) ∨ ∃ x, (0 ≤ x.toInt ∧ x.toInt < n) ∧ RGi σ x v ∧ C v ∧ (∀ x', 0 ≤ x'.toInt → x'.toInt < x.toInt → ∀ d, RGi σ x' d → ¬ C d) ∧ ∀ d, RGi σ x d → d.toInt < v.toInt → ¬ C d
/-- a declaration's name is that one -/
def NMq (σ : St) (B : Nat → Int32) (cap : Nat) (d a3 a4 : Int32) : Prop := ((atv 10100 (σ 29) d) - (atv 10100 (σ 29) (d - (1 : Int32)))).toInt = a4.toInt ∧ ∀ x : Nat, (x : Int) < a4.toInt → (atv 10100 (σ 29) (d - (1 : Int32))).toInt + x < 65600 ∧ 0 ≤ a3.toInt ∧ a3.toInt + x < cap ∧ (σ 30 ((atv 10100 (σ 29) (d - (1 : Int32))).toInt + x).toNat).toInt = (B (a3.toInt + x).toNat).toInt
def CDi (σ : St) (B : Nat → Int32) (cap : Nat) (a3 a4 d : Int32) : Prop := FLb (atv 10100 (σ 25) d) 4 ∧ ¬ FLb (atv 10100 (σ 25) d) 2 ∧ NMq σ B cap d a3 a4
/-- its definition in the picked units -/
def DFi (σ : St) (n : Int) (d v : Int32) : Prop := FSTi σ n (CDi σ (σ 30) 65600 (atv 10100 (σ 29) (d - (1 : Int32))) ((atv 10100 (σ 29) d) - (atv 10100 (σ 29) (d - (1 : Int32))))) v
section FND
variable {σ s z t ρ : St} {m i j k o d : Nat} {n : Int} {x y v a a1 a2 a3 a4 a5 : Int32} {C : Int32 → Prop}
theorem fst_one {v' : Int32} (h : FSTi σ n C v) (h' : FSTi σ n C v') : v = v' := by
  rcases h with ⟨q1, q2⟩ | ⟨x, q1, q2, q3, q4, q5⟩
  · rcases h' with ⟨p1, p2⟩ | ⟨x', p1, p2, p3, p4, p5⟩
    · rw [q1, p1]
    · exact absurd p3 (q2 x' p1.1 p1.2 v' p2)
  · rcases h' with ⟨p1, p2⟩ | ⟨x', p1, p2, p3, p4, p5⟩
    · exact absurd q3 (p2 x q1.1 q1.2 v q2)
    · by_cases c1 : x.toInt < x'.toInt
      · exact absurd q3 (p4 x q1.1 c1 v q2)
      by_cases c2 : x'.toInt < x.toInt
      · exact absurd p3 (q4 x' p1.1 c2 v' p2)
      have ex : x = x' := Int32.toInt_inj.mp (by omega)
      subst ex
      by_cases c3 : v.toInt < v'.toInt
      · exact absurd q3 (p5 v q2 c3)
      by_cases c4 : v'.toInt < v.toInt
      · exact absurd p3 (q5 v' p2 c4)
      exact Int32.toInt_inj.mp (by omega)
def NEb (σ : St) : Prop := ∀ d, 0 ≤ ((σ 29) d).toInt ∧ ((σ 29) d).toInt ≤ 65600
theorem neb_at (h : NEb σ) (x : Int32) : 0 ≤ (atv 10100 (σ 29) x).toInt ∧ (atv 10100 (σ 29) x).toInt ≤ 65600 := by
  rcases atv_cases 10100 (σ 29) x with ⟨q1, q2⟩ | ⟨j, q1, q2, q3⟩
  · rw [q1]; decide
  · rw [q3]; exact h j
theorem sp_isNamed30 {Q : Int32 → Prop} (hb : NEb σ) (h3 : a3.toInt ≤ 65600) (h4 : a4.toInt ≤ 65600) (k1 : NMq σ (σ 30) 65600 a1 a3 a4 → Q 1) (k0 : ¬ NMq σ (σ 30) 65600 a1 a3 a4 → Q 0) : wk_X8_isNamed_r30 a1 a3 a4 σ Q := by
  have b := neb_at hb (a1 - (1 : Int32))
  unfold wk_X8_isNamed_r30
  refine ⟨fun e => ?_, fun e => k0 (fun q => e q.1)⟩
  refine ⟨fun m x => m = (a4.toInt - x.toInt).toNat ∧ 0 ≤ x.toInt ∧ ∀ y : Nat, (y : Int) < x.toInt → (atv 10100 (σ 29) (a1 - (1 : Int32))).toInt + y < 65600 ∧ 0 ≤ a3.toInt ∧ a3.toInt + y < (65600 : Nat) ∧ (σ 30 ((atv 10100 (σ 29) (a1 - (1 : Int32))).toInt + y).toNat).toInt = (σ 30 (a3.toInt + y).toNat).toInt, ⟨_, rfl, by decide, fun y hy => absurd hy (by rw [i0]; omega)⟩, ?_⟩
  rintro m x ⟨hm, h0, ha⟩
  refine ⟨fun c => k1 ⟨e, fun y hy => ha y (by omega)⟩, fun c => ?_⟩
  have up := up_lt c
  obtain ⟨X, hX⟩ : ∃ X : Nat, x.toInt = X := ⟨x.toInt.toNat, by omega⟩
  have e1 : ((atv 10100 (σ 29) (a1 - (1 : Int32))) + x).toInt = (atv 10100 (σ 29) (a1 - (1 : Int32))).toInt + X := by rw [ad (by omega) (by omega), hX]
  refine ⟨fun c1 => k0 (fun q => ?_), fun c1 => ⟨fun c2 => k0 (fun q => ?_), fun c2 => ?_⟩⟩
  · have := (q.2 X (by omega)).1
    omega
  · have := (q.2 X (by omega)).2.1
    omega
  have e2 : (a3 + x).toInt = a3.toInt + X := by rw [ad (by omega) (by omega), hX]
  refine ⟨fun c3 => k0 (fun q => ?_), fun c3 => ⟨⟨by omega, c1⟩, ⟨by omega, c3⟩, fun c4 => ?_, fun c4 => k0 (fun q => ?_)⟩⟩
  · have := (q.2 X (by omega)).2.2.1
    omega
  · rw [nt', nt', e1, e2] at c4
    refine ⟨_, by rw [up]; omega, rfl, by rw [up]; omega, fun y hy => ?_⟩
    rw [up] at hy
    by_cases cy : y = X
    · rw [cy]
      exact ⟨by omega, c2, by omega, c4⟩
    · exact ha y (by omega)
  · rw [nt', nt', e1, e2] at c4
    exact c4 (q.2 X (by omega)).2.2.2
theorem sp_isNamed55 {Q : Int32 → Prop} (hb : NEb σ) (h3 : a3.toInt ≤ 65600) (h4 : a4.toInt ≤ 65600) (k1 : NMq σ (σ 55) 4 a1 a3 a4 → Q 1) (k0 : ¬ NMq σ (σ 55) 4 a1 a3 a4 → Q 0) : wk_X8_isNamed_r55 a1 a3 a4 σ Q := by
  have b := neb_at hb (a1 - (1 : Int32))
  unfold wk_X8_isNamed_r55
  refine ⟨fun e => ?_, fun e => k0 (fun q => e q.1)⟩
  refine ⟨fun m x => m = (a4.toInt - x.toInt).toNat ∧ 0 ≤ x.toInt ∧ ∀ y : Nat, (y : Int) < x.toInt → (atv 10100 (σ 29) (a1 - (1 : Int32))).toInt + y < 65600 ∧ 0 ≤ a3.toInt ∧ a3.toInt + y < (4 : Nat) ∧ (σ 30 ((atv 10100 (σ 29) (a1 - (1 : Int32))).toInt + y).toNat).toInt = (σ 55 (a3.toInt + y).toNat).toInt, ⟨_, rfl, by decide, fun y hy => absurd hy (by rw [i0]; omega)⟩, ?_⟩
  rintro m x ⟨hm, h0, ha⟩
  refine ⟨fun c => k1 ⟨e, fun y hy => ha y (by omega)⟩, fun c => ?_⟩
  have up := up_lt c
  obtain ⟨X, hX⟩ : ∃ X : Nat, x.toInt = X := ⟨x.toInt.toNat, by omega⟩
  have e1 : ((atv 10100 (σ 29) (a1 - (1 : Int32))) + x).toInt = (atv 10100 (σ 29) (a1 - (1 : Int32))).toInt + X := by rw [ad (by omega) (by omega), hX]
  refine ⟨fun c1 => k0 (fun q => ?_), fun c1 => ⟨fun c2 => k0 (fun q => ?_), fun c2 => ?_⟩⟩
  · have := (q.2 X (by omega)).1
    omega
  · have := (q.2 X (by omega)).2.1
    omega
  have e2 : (a3 + x).toInt = a3.toInt + X := by rw [ad (by omega) (by omega), hX]
  refine ⟨fun c3 => k0 (fun q => ?_), fun c3 => ⟨⟨by omega, c1⟩, ⟨by omega, c3⟩, fun c4 => ?_, fun c4 => k0 (fun q => ?_)⟩⟩
  · have := (q.2 X (by omega)).2.2.1
    omega
  · rw [nt', nt', e1, e2] at c4
    refine ⟨_, by rw [up]; omega, rfl, by rw [up]; omega, fun y hy => ?_⟩
    rw [up] at hy
    by_cases cy : y = X
    · rw [cy]
      exact ⟨by omega, c2, by omega, c4⟩
    · exact ha y (by omega)
  · rw [nt', nt', e1, e2] at c4
    exact c4 (q.2 X (by omega)).2.2.2
theorem sp_firstI {Q : Int32 → Prop} (k : ∀ v : Int32, v.toInt = LOi σ x → Q v) : wk_X8_firstOf (atv 101 (σ 56) x) σ Q := by
  unfold wk_X8_firstOf
  refine ⟨fun c => k _ ?_, fun c => k _ ?_⟩
  · unfold LOi kxI
    rw [if_pos c]
  · unfold LOi kxI
    rw [if_neg (by omega)]
    rfl
theorem sp_find30 {Q : Int32 → Prop} (hb : NEb σ) (h3 : a4.toInt ≤ 65600) (h4 : a5.toInt ≤ 65600) (k : ∀ v, FSTi σ a2.toInt (CDi σ (σ 30) 65600 a4 a5) v → Q v) : wk_X4_find_r56_r30 a2 a4 a5 σ Q := by
  unfold wk_X4_find_r56_r30
  refine ⟨fun m x => m = (a2.toInt - x.toInt).toNat ∧ 0 ≤ x.toInt ∧ ∀ x', 0 ≤ x'.toInt → x'.toInt < x.toInt → ∀ d, RGi σ x' d → ¬ CDi σ (σ 30) 65600 a4 a5 d, ⟨_, rfl, by decide, fun x' p1 p2 => absurd p2 (by rw [i0]; omega)⟩, ?_⟩
  rintro m x ⟨hm, h0, ha⟩
  refine ⟨fun c => k _ (Or.inl ⟨rfl, fun x' p1 p2 => ha x' p1 (by omega)⟩), fun c => sp_firstI (fun v0 hv0 => ?_)⟩
  have up := up_lt c
  refine ⟨fun q y => q = (HIi σ x - y.toInt).toNat ∧ LOi σ x ≤ y.toInt ∧ ∀ d, RGi σ x d → d.toInt < y.toInt → ¬ CDi σ (σ 30) 65600 a4 a5 d, ⟨_, rfl, by omega, fun d p1 p2 => absurd p1.1 (by omega)⟩, ?_⟩
  rintro q y ⟨hq, hl, hy⟩
  refine ⟨fun c1 => ?_, fun c1 => ?_⟩
  · have c2 : HIi σ x ≤ y.toInt := c1
    refine ⟨_, by rw [up]; omega, rfl, by rw [up]; omega, fun x' p1 p2 d p3 => ?_⟩
    rw [up] at p2
    by_cases ce : x'.toInt = x.toInt
    · have ex : x' = x := Int32.toInt_inj.mp ce
      subst ex
      exact hy d p3 (by have := p3.2; omega)
    · exact ha x' p1 (by omega) d p3
  · have c2 : y.toInt < HIi σ x := c1
    have upy := up_lt c1
    have nx : ¬ CDi σ (σ 30) 65600 a4 a5 y → ∃ p, p < q ∧ (p = (HIi σ x - (y + 1).toInt).toNat ∧ LOi σ x ≤ (y + 1).toInt ∧ ∀ d, RGi σ x d → d.toInt < (y + 1).toInt → ¬ CDi σ (σ 30) 65600 a4 a5 d) := fun nc => by
      refine ⟨_, by rw [upy]; omega, rfl, by rw [upy]; omega, fun d p1 p2 => ?_⟩
      rw [upy] at p2
      by_cases ce : d.toInt = y.toInt
      · have ex : d = y := Int32.toInt_inj.mp ce
        rw [ex]
        exact nc
      · exact hy d p1 (by omega)
    refine is_all (fun v52 n52 y52 _ => ⟨¬ CDi σ (σ 30) 65600 a4 a5 y, nx, fun c3 q1 => n52 c3 q1.1, fun c3 => is_all (fun v65 n65 y65 _ => ⟨fun c4 q1 => q1.2.1 (y65 c4), fun c4 => sp_isNamed30 hb h3 h4 (fun nq => ⟨fun z => absurd z (by decide), fun _ => k y (Or.inr ⟨x, ⟨h0, c⟩, ⟨hl, c2⟩, ⟨y52 c3, n65 c4, nq⟩, ha, hy⟩)⟩) (fun nq => ⟨fun _ q1 => nq q1.2.2, fun z => absurd rfl z⟩)⟩)⟩)
theorem sp_find55 {Q : Int32 → Prop} (hb : NEb σ) (h3 : a4.toInt ≤ 65600) (h4 : a5.toInt ≤ 65600) (k : ∀ v, FSTi σ a2.toInt (CDi σ (σ 55) 4 a4 a5) v → Q v) : wk_X4_find_r56_r55 a2 a4 a5 σ Q := by
  unfold wk_X4_find_r56_r55
  refine ⟨fun m x => m = (a2.toInt - x.toInt).toNat ∧ 0 ≤ x.toInt ∧ ∀ x', 0 ≤ x'.toInt → x'.toInt < x.toInt → ∀ d, RGi σ x' d → ¬ CDi σ (σ 55) 4 a4 a5 d, ⟨_, rfl, by decide, fun x' p1 p2 => absurd p2 (by rw [i0]; omega)⟩, ?_⟩
  rintro m x ⟨hm, h0, ha⟩
  refine ⟨fun c => k _ (Or.inl ⟨rfl, fun x' p1 p2 => ha x' p1 (by omega)⟩), fun c => sp_firstI (fun v0 hv0 => ?_)⟩
  have up := up_lt c
  refine ⟨fun q y => q = (HIi σ x - y.toInt).toNat ∧ LOi σ x ≤ y.toInt ∧ ∀ d, RGi σ x d → d.toInt < y.toInt → ¬ CDi σ (σ 55) 4 a4 a5 d, ⟨_, rfl, by omega, fun d p1 p2 => absurd p1.1 (by omega)⟩, ?_⟩
  rintro q y ⟨hq, hl, hy⟩
  refine ⟨fun c1 => ?_, fun c1 => ?_⟩
  · have c2 : HIi σ x ≤ y.toInt := c1
    refine ⟨_, by rw [up]; omega, rfl, by rw [up]; omega, fun x' p1 p2 d p3 => ?_⟩
    rw [up] at p2
    by_cases ce : x'.toInt = x.toInt
    · have ex : x' = x := Int32.toInt_inj.mp ce
      subst ex
      exact hy d p3 (by have := p3.2; omega)
    · exact ha x' p1 (by omega) d p3
  · have c2 : y.toInt < HIi σ x := c1
    have upy := up_lt c1
    have nx : ¬ CDi σ (σ 55) 4 a4 a5 y → ∃ p, p < q ∧ (p = (HIi σ x - (y + 1).toInt).toNat ∧ LOi σ x ≤ (y + 1).toInt ∧ ∀ d, RGi σ x d → d.toInt < (y + 1).toInt → ¬ CDi σ (σ 55) 4 a4 a5 d) := fun nc => by
      refine ⟨_, by rw [upy]; omega, rfl, by rw [upy]; omega, fun d p1 p2 => ?_⟩
      rw [upy] at p2
      by_cases ce : d.toInt = y.toInt
      · have ex : d = y := Int32.toInt_inj.mp ce
        rw [ex]
        exact nc
      · exact hy d p1 (by omega)
    refine is_all (fun v52 n52 y52 _ => ⟨¬ CDi σ (σ 55) 4 a4 a5 y, nx, fun c3 q1 => n52 c3 q1.1, fun c3 => is_all (fun v65 n65 y65 _ => ⟨fun c4 q1 => q1.2.1 (y65 c4), fun c4 => sp_isNamed55 hb h3 h4 (fun nq => ⟨fun z => absurd z (by decide), fun _ => k y (Or.inr ⟨x, ⟨h0, c⟩, ⟨hl, c2⟩, ⟨y52 c3, n65 c4, nq⟩, ha, hy⟩)⟩) (fun nq => ⟨fun _ q1 => nq q1.2.2, fun z => absurd rfl z⟩)⟩)⟩)
theorem sp_definition {Q : Int32 → Prop} (hb : NEb σ) (k : ∀ v, DFi σ a1.toInt a2 v → Q v) : wk_X4_definition a1 a2 σ Q := by
  unfold wk_X4_definition wk_X8_nameStart
  have b1 := neb_at hb (a2 - (1 : Int32))
  have b2 := neb_at hb a2
  exact sp_find30 hb b1.2 (by rw [sb (by omega) (by omega)]; omega) k
theorem dfi_same (h56 : s 56 = σ 56) (h34 : s 34 = σ 34) (h25 : s 25 = σ 25) (h29 : s 29 = σ 29) (h30 : s 30 = σ 30) : DFi s n x v ↔ DFi σ n x v := by
  unfold DFi FSTi CDi NMq RGi LOi HIi kxI
  rw [h56, h34, h25, h29, h30]
theorem rgi_same (h56 : s 56 = σ 56) (h34 : s 34 = σ 34) : RGi s x y ↔ RGi σ x y := by
  unfold RGi LOi HIi kxI
  rw [h56, h34]
end FND
