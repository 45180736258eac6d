/-! the reference's expressions: stars -/
section RSR
variable {σ s τ t : St} {kd : Nat → Int} {n p : Nat} {vs : List Nat}
theorem mr_stars {Q : Int32 → St → St → List Nat → Prop} {F : Prop} (tk : RTk σ kd n) (g : GMt σ n p) (k1 : ∀ (x : Int32) (s : St) (i p1 : Nat), x.toInt = (i : Int) → i ≤ 5 → SRq kd 5 p = some (i, p1) → p ≤ p1 → GMt s n p1 → Kp [(0, 10)] [] σ s → Q x s τ vs) (k0 : SRq kd 5 p = none → F) : pp_stars σ τ vs Q (fun _ _ _ => F) := by
  unfold pp_stars
  refine ⟨fun x s t z => ∃ i p1 : Nat, x.toInt = (i : Int) ∧ i ≤ 5 ∧ p ≤ p1 ∧ GMt s n p1 ∧ Kp [(0, 10)] [] σ s ∧ t = τ ∧ z = vs ∧ SRq kd 5 p = (SRq kd (5 - i) p1).bind fun r => some (r.1 + i, r.2), ⟨0, p, by decide, by decide, by omega, g, kp_rf, rfl, rfl, ?_⟩, ?_⟩
  · cases SRq kd 5 p with
    | none => rfl
    | some r => rfl
  · rintro x s t z ⟨i, p1, e1, e2, e3, e4, e5, rfl, rfl, e6⟩
    have tk' : RTk s kd n := rtk_k e5 (fun _ => rfl) rfl tk
    refine mr_is tk' e4 (c := 45) (by decide) (by decide) (fun k => ⟨fun hx => absurd hx (by decide), fun _ => ⟨fun c => ?_, fun c => ?_⟩⟩) (fun k => ⟨fun _ => ?_, fun hx => absurd rfl hx⟩)
    · refine ⟨i + 1, p1 + 1, by rw [ad1 (by omega)]; omega, by omega, by omega, gm_up tk' e4 (by omega), kp_tr e5 (kp_f kp_rf rfl), rfl, rfl, ?_⟩
      have e7 : 5 - i = (4 - i) + 1 := by omega
      have e8 : 5 - (i + 1) = 4 - i := by omega
      rw [e7] at e6
      rw [e8, e6, SRq, if_pos k]
      cases SRq kd (4 - i) (p1 + 1) with
      | none => rfl
      | some r =>
        show some (r.1 + 1 + i, r.2) = some (r.1 + (i + 1), r.2)
        rw [show r.1 + 1 + i = r.1 + (i + 1) from by omega]
    · unfold pp_wrong pp_wrongAt
      intro _
      refine k0 ?_
      obtain rfl : i = 5 := by omega
      rw [e6, show 5 - 5 = 0 from rfl, SRq, if_pos k]
      rfl
    · refine k1 x s i p1 e1 e2 ?_ e3 e4 e5
      rw [e6]
      cases 5 - i with
      | zero => rw [SRq, if_neg k]; simp
      | succ j => rw [SRq, if_neg k]; simp
end RSR
