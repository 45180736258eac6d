/-! names: looked up, marked, called -/
def PLA (σ : St) : Prop := ∀ j, 0 ≤ ((σ 15) j).toInt ∧ ((σ 15) j).toInt ≤ 16000
section XNM
variable {σ s t : St} {x y : Int32} {n : Nat}
theorem atv_pla (h : PLA σ) (x : Int32) : 0 ≤ (atv 16002 (σ 15) x).toInt ∧ (atv 16002 (σ 15) x).toInt ≤ 16000 := by
  rcases atv_cases 16002 (σ 15) x with ⟨e, -⟩ | ⟨j, -, -, e⟩
  · rw [e]
    exact ⟨by decide, by decide⟩
  · rw [e]
    exact h j
theorem sp_sameName {Q : Int32 → Prop} (hp : PLA σ) (k0 : Q 0) (k1 : Q 1) : wk_X10_sameName x y σ Q := by
  have hx := atv_pla hp x
  have hy := atv_pla hp y
  unfold wk_X10_sameName
  refine ⟨fun _ => ⟨fun n z => (n : Int) = 20000 - z.toInt ∧ 0 ≤ z.toInt, ⟨20000, by decide⟩, ?_⟩, fun _ => k0⟩
  rintro m z ⟨h1, h2⟩
  have e0 : z.toInt ≤ 20000 → (atv 16002 (σ 15) x + z).toInt = (atv 16002 (σ 15) x).toInt + z.toInt := fun h => ad (by omega) (by omega)
  have e1 : z.toInt ≤ 20000 → (atv 16002 (σ 15) y + z).toInt = (atv 16002 (σ 15) y).toInt + z.toInt := fun h => ad (by omega) (by omega)
  have hz : z.toInt ≤ 20000 := by omega
  have e0' := e0 hz
  have e1' := e1 hz
  refine ⟨fun _ => k1, fun _ => ⟨fun _ => k0, fun c => ⟨fun _ => k0, fun c2 => ⟨⟨by omega, c⟩, ⟨by omega, c2⟩, fun _ => ⟨m - 1, ?_, ?_, ?_⟩, fun _ => k0⟩⟩⟩⟩
  · omega
  · rw [ad1 (by omega)]
    omega
  · rw [ad1 (by omega)]
    omega
theorem sp_localFrom {Q : Int32 → Prop} (hp : PLA σ) (hs : (σ 6 15).toInt ≤ 1000 ∧ -1000 ≤ (σ 6 15).toInt) (hx : 0 ≤ x.toInt) (k : ∀ v, Q v) : wk_X11_localFrom x y σ Q := by
  unfold wk_X11_localFrom
  refine ⟨fun n z => n = (z.toInt + 1).toNat, ⟨_, rfl⟩, ?_⟩
  rintro m z h1
  refine ⟨fun _ => k _, fun c => sp_sameName hp ⟨fun _ => ⟨((z + (-1 : Int32)).toInt + 1).toNat, ?_, rfl⟩, fun _ => k _⟩ ⟨fun e => absurd e (by decide), fun _ => k _⟩⟩
  rw [dc1 (by omega)]
  omega
/-- the declaration outside of functions with a name -/
theorem sp_outerOf {Q : Int32 → Prop} (hp : PLA σ) (ho : 0 ≤ (σ 6 7).toInt ∧ (σ 6 7).toInt ≤ 100) (hd : (σ 6 7).toInt ≤ (σ 5 1).toInt ∧ (σ 5 1).toInt ≤ 10100) (k0 : Q (-1)) (k1 : ∀ v : Int32, (σ 5 1).toInt - (σ 6 7).toInt ≤ v.toInt → v.toInt < (σ 5 1).toInt → Q v) : wk_X11_outerOf y σ Q := by
  unfold wk_X11_outerOf
  refine ⟨fun n z => n = (100 - z.toInt).toNat ∧ 0 ≤ z.toInt, ⟨_, rfl, by decide⟩, ?_⟩
  rintro m z ⟨h1, h2⟩
  refine ⟨fun _ => k0, fun c => sp_sameName hp ⟨fun _ => ⟨(100 - (z + 1).toInt).toNat, ?_, rfl, ?_⟩, fun e => absurd rfl e⟩ ⟨fun e => absurd e (by decide), fun _ => ?_⟩⟩
  · rw [ad1 (by omega)]
    omega
  · rw [ad1 (by omega)]
    omega
  · have e1 : ((σ 5 1) - (σ 6 7)).toInt = (σ 5 1).toInt - (σ 6 7).toInt := sb (by omega) (by omega)
    have e2 : (((σ 5 1) - (σ 6 7)) + z).toInt = (σ 5 1).toInt - (σ 6 7).toInt + z.toInt := by rw [ad (by omega) (by omega), e1]
    exact k1 _ (by rw [e2]; omega) (by rw [e2]; omega)
theorem and_or (x y z : Int32) : (x ||| y) &&& z = (x &&& z) ||| (y &&& z) := by
  apply Int32.toBitVec_inj.1
  apply BitVec.eq_of_getLsbD_eq
  intro i hi
  simp [Bool.and_or_distrib_right]
theorem flb_or {x y z : Int32} (h : FLb x z) (hz : y &&& z = 0 ∨ (y &&& z = z)) (hz2 : z = 1 ∨ z = 2 ∨ z = 4 ∨ z = 8) : FLb (x ||| y) z := by
  unfold FLb at h ⊢
  rw [and_or]
  rcases hz with e | e
  · rw [e, Int32.or_zero]
    exact h
  · rw [e]
    intro c
    have c2 : (x &&& z) ||| z = 0 := Int32.toInt_inj.mp c
    have c5 : ((x &&& z) ||| z) &&& z = z := by
      apply Int32.toBitVec_inj.1
      apply BitVec.eq_of_getLsbD_eq
      intro i hi
      simp
      intro q1
      exact Or.inr q1
    rw [c2, Int32.zero_and] at c5
    rcases hz2 with e | e | e | e <;> subst e <;> exact absurd c5 (by decide)
theorem flb_set {x z : Int32} (hz2 : z = 1 ∨ z = 2 ∨ z = 4 ∨ z = 8) : FLb (x ||| z) z := by
  unfold FLb
  intro c
  have c2 : (x ||| z) &&& z = 0 := Int32.toInt_inj.mp c
  have c5 : (x ||| z) &&& z = z := by
    apply Int32.toBitVec_inj.1
    apply BitVec.eq_of_getLsbD_eq
    intro i hi
    simp
    intro q2
    exact Or.inr q2
  rw [c2] at c5
  rcases hz2 with e | e | e | e <;> subst e <;> exact absurd c5 (by decide)
/-- a mention -/
theorem sp_mark8 {Q : St → Prop} (k : ∀ s, Kp [] [25] σ s → MKs σ s → (∀ j : Nat, x.toInt = j → j < 10100 → FLb ((s 25) j) 8) → Q s) : wk_X8_mark x 8 σ Q := by
  unfold wk_X8_mark
  refine k _ (kp_F kp_rf rfl) ⟨fun j => ?_, fun i z => z⟩ (fun j h1 h2 => ?_)
  · show ((setv 10100 (σ 25) x _) j &&& 1 = _) ∧ ((setv 10100 (σ 25) x _) j &&& 2 = _) ∧ ((setv 10100 (σ 25) x _) j &&& 4 = _) ∧ (_ → FLb ((setv 10100 (σ 25) x _) j) 8)
    rcases setv_cases 10100 (σ 25) x (atv 10100 (σ 25) x ||| 8) with ⟨e, -⟩ | ⟨i, e1, e2, e3⟩
    · rw [e]
      exact ⟨rfl, rfl, rfl, id⟩
    · rw [e3, atv_at e1 e2]
      by_cases c : j = i
      · subst c
        simp only [if_true]
        have z1 : (8 : Int32) &&& 1 = 0 := by decide
        have z2 : (8 : Int32) &&& 2 = 0 := by decide
        have z4 : (8 : Int32) &&& 4 = 0 := by decide
        refine ⟨by rw [and_or, z1, Int32.or_zero], by rw [and_or, z2, Int32.or_zero], by rw [and_or, z4, Int32.or_zero], fun _ => flb_set (by decide)⟩
      · simp only [if_neg c]
        exact ⟨trivial, trivial, trivial, id⟩
  · show FLb ((setv 10100 (σ 25) x _) j) 8
    rw [setv_at h1 h2]
    simp only [if_true]
    exact flb_set (by decide)
theorem sk_is {f : Int32} {Q : Int32 → Prop} (k0 : ¬ FLb (atv 10100 (σ 25) x) f → Q 0) (k1 : FLb (atv 10100 (σ 25) x) f → Q 1) : wk_X8_is x f σ Q := ⟨fun c => k0 (fun h => h c), fun c => k1 c⟩
end XNM
