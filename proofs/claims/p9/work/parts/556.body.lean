/-! the same head again -/
section BOD
variable {σ s s' τ t t' : St} {vs z z' : List Nat}
theorem sp_isSameHead {e ty : Int32} {Q : Int32 → Prop} (he : 0 ≤ e.toInt ∧ e.toInt < 10000) (hd : HDs σ) (k0 : Q 0) (k1 : ((σ 10) e.toNatClampNeg).toInt = ty.toInt → ((σ 15) e.toNatClampNeg).toInt = (σ 0 64).toInt → Q 1) : wp_isSameHead e ty σ τ vs Q := by
  obtain ⟨⟨h1, h2⟩, h3⟩ := hd
  have m8 := mul8 (x := e) he.1 (by omega)
  unfold wp_isSameHead
  refine ⟨he, fun _ => k0, fun c1 => ⟨he, fun c2 => ?_, fun _ => k0⟩⟩
  refine ⟨fun n x => (n : Int) = (σ 0 64).toInt - x.toInt ∧ 0 ≤ x.toInt ∧ x.toInt ≤ (σ 0 64).toInt, ⟨((σ 0 64).toInt).toNat, by rw [show (0 : Int32).toInt = 0 from rfl]; omega, by decide, by rw [show (0 : Int32).toInt = 0 from rfl]; exact h1⟩, fun n x ⟨q1, q2, q3⟩ => ⟨fun _ => k1 c1 c2, fun c3 => ?_⟩⟩
  have a8 : (((8 : Int32) * e) + x).toInt = 8 * e.toInt + x.toInt := by rw [← m8]; exact ad (by omega) (by omega)
  have e1 : (x + 1).toInt = x.toInt + 1 := ad1 (by omega)
  exact ⟨by rw [a8]; omega, by omega, fun _ => ⟨((σ 0 64).toInt - x.toInt - 1).toNat, by omega, by omega, by omega, by omega⟩, fun _ => k0⟩
end BOD
