/-! link(): what is wrong -/
def AGi (σ : St) (d v : Int32) : Prop := FLb (atv 10100 (σ 25) d) 1 → 0 ≤ v.toInt → FLb (atv 10100 (σ 25) v) 1 ∧ atv 10100 (σ 27) d = atv 10100 (σ 27) v
def GDi (σ : St) (n : Int) (a d : Int32) : Prop := (a.toInt = 32 → ¬ FLb (atv 10100 (σ 25) d) 4 → FLb (atv 10100 (σ 25) d) 8 → ∃ v, DFi σ n d v ∧ 0 ≤ v.toInt) ∧ (a.toInt = 33 → ¬ FLb (atv 10100 (σ 25) d) 4 → ∃ v, DFi σ n d v ∧ AGi σ d v)
/-- a fault's number finds nothing -/
def LKd (σ : St) (a : Int32) : Prop := ∀ x, 1 ≤ x.toInt → x.toInt < (σ 10 5).toInt → ∀ d, RGi σ x d → ¬ FLb (atv 10100 (σ 25) d) 2 → GDi σ (σ 10 5).toInt a d
section LOK
variable {σ s z t ρ : St} {m i j k o d : Nat} {n : Int} {x y v a a1 a2 a3 a4 a5 : Int32} {C : Int32 → Prop}
theorem sp_agrees {Q : Int32 → Prop} (k0 : Q 0) (k1 : AGi σ a1 a2 → Q 1) : wk_X4_agrees a1 a2 σ Q := by
  unfold wk_X4_agrees
  refine is_all (fun v31 n31 y31 _ => ⟨fun y => y.toInt ≠ 0 → v31.toInt = 0, fun y0 _ hy => ⟨fun c => k1 (fun _ q => by omega), fun c => is_all (fun v69 n69 y69 _ => ⟨fun _ => k0, fun e => ⟨fun _ => k0, fun _ => ⟨fun e2 => k1 (fun f _ => ⟨?_, Int32.toInt_inj.mp e2⟩), fun _ => ⟨fun _ => k0, fun c1 => k1 (fun f _ => absurd f (n31 (hy c1)))⟩⟩⟩⟩)⟩, True, fun _ z => absurd rfl z, fun _ => trivial, fun c => ⟨fun _ => trivial, fun _ => ⟨fun _ => trivial, fun _ _ => c⟩⟩⟩)
  by_cases c2 : v69.toInt = 0
  · exact absurd f (n31 (by omega))
  · exact y69 c2
theorem sp_isWrong {Q : Int32 → Prop} (hb : NEb σ) (k0 : GDi σ (σ 10 5).toInt a1 a3 → Q 0) (k1 : Q 1) : wk_X4_isWrong a1 a2 a3 σ Q := by
  unfold wk_X4_isWrong
  refine is_all (fun v6 n6 y6 _ => ⟨fun c => ⟨fun c32 => ⟨fun c33 => k0 ⟨fun e => absurd e c32, fun e => absurd e c33⟩, fun c33 => sp_definition hb (fun v hv => sp_agrees ⟨fun z => absurd rfl z, fun _ => k1⟩ (fun ag => ⟨fun _ => k0 ⟨fun e => absurd e c32, fun _ _ => ⟨v, hv, ag⟩⟩, fun z => absurd z (by decide)⟩))⟩, fun c32 => is_all (fun v46 n46 y46 _ => ⟨fun c46 => k0 ⟨fun _ _ f8 => absurd f8 (n46 c46), fun e => by omega⟩, fun _ => sp_definition hb (fun v hv => ⟨fun cv => k0 ⟨fun _ _ _ => ⟨v, hv, cv⟩, fun e => by omega⟩, fun _ => k1⟩)⟩)⟩, fun c => ⟨fun _ => k0 ⟨fun _ nf => absurd (y6 c) nf, fun _ nf => absurd (y6 c) nf⟩, fun _ => sp_definition hb (fun v _ => ⟨fun _ => k0 ⟨fun _ nf => absurd (y6 c) nf, fun _ nf => absurd (y6 c) nf⟩, fun _ => k1⟩)⟩⟩)
theorem sk_look {Q : Int32 → St → Prop} (hb : NEb σ) (k0 : LKd σ a1 → Q 0 σ) (k1 : ∀ u, Kp [(10, 3), (10, 4)] [] σ u → Q a1 u) : wk_X4_look a1 σ Q := by
  unfold wk_X4_look
  refine ⟨fun m x => m = ((σ 10 5).toInt - x.toInt).toNat ∧ 1 ≤ x.toInt ∧ ∀ x', 1 ≤ x'.toInt → x'.toInt < x.toInt → ∀ d, RGi σ x' d → ¬ FLb (atv 10100 (σ 25) d) 2 → GDi σ (σ 10 5).toInt a1 d, ⟨_, rfl, by decide, fun x' p1 p2 => absurd p2 (by rw [i1]; omega)⟩, ?_⟩
  rintro m x ⟨hm, h0, ha⟩
  refine ⟨fun c => k0 (fun x' p1 p2 => ha x' p1 (by omega)), fun c => sp_firstI (fun v0 hv0 => ?_)⟩
  have up := up_lt c
  refine ⟨fun q _ y => q = (HIi σ x - y.toInt).toNat ∧ LOi σ x ≤ y.toInt ∧ ∀ d, RGi σ x d → d.toInt < y.toInt → ¬ FLb (atv 10100 (σ 25) d) 2 → GDi σ (σ 10 5).toInt a1 d, ⟨_, rfl, by omega, fun d p1 p2 => absurd p1.1 (by omega)⟩, ?_⟩
  rintro q w y ⟨hq, hl, hy⟩
  refine ⟨fun c1 => ?_, fun c1 => ?_⟩
  · have c2 : HIi σ x ≤ y.toInt := c1
    refine ⟨_, by rw [up]; omega, rfl, by rw [up]; omega, fun x' p1 p2 d p3 => ?_⟩
    rw [up] at p2
    by_cases ce : x'.toInt = x.toInt
    · have ex : x' = x := Int32.toInt_inj.mp ce
      subst ex
      exact hy d p3 (by have := p3.2; omega)
    · exact ha x' p1 (by omega) d p3
  · have c2 : y.toInt < HIi σ x := c1
    have upy := up_lt c1
    have nx : (¬ FLb (atv 10100 (σ 25) y) 2 → GDi σ (σ 10 5).toInt a1 y) → ∃ p, p < q ∧ (p = (HIi σ x - (y + 1).toInt).toNat ∧ LOi σ x ≤ (y + 1).toInt ∧ ∀ d, RGi σ x d → d.toInt < (y + 1).toInt → ¬ FLb (atv 10100 (σ 25) d) 2 → GDi σ (σ 10 5).toInt a1 d) := fun nc => by
      refine ⟨_, by rw [upy]; omega, rfl, by rw [upy]; omega, fun d p1 p2 => ?_⟩
      rw [upy] at p2
      by_cases ce : d.toInt = y.toInt
      · have ex : d = y := Int32.toInt_inj.mp ce
        rw [ex]
        exact nc
      · exact hy d p1 (by omega)
    refine is_all (fun v55 n55 y55 _ => ⟨fun y0 => y0.toInt = 0 → FLb (atv 10100 (σ 25) y) 2, fun y0 _ hy0 => ⟨¬ FLb (atv 10100 (σ 25) y) 2 → GDi σ (σ 10 5).toInt a1 y, fun hj => ⟨fun _ => True, fun y1 _ _ => nx hj, fun _ => trivial, fun _ => trivial⟩, fun c3 nf => absurd (hy0 c3) nf, fun _ => sp_isWrong hb (fun g => ⟨fun _ _ => g, fun z => absurd rfl z⟩) ⟨fun z => absurd z (by decide), fun _ => k1 _ (kp_f (kp_f kp_rf rfl) rfl)⟩⟩, fun c3 _ => y55 c3, fun _ z => absurd z (by decide)⟩)
end LOK
