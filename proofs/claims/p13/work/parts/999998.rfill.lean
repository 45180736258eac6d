/-! the reference: a string that fills -/
section RFI
variable {w s r σ σ' τ t : St} {vs z : List Nat} {a1 a2 a3 a4 : Int32}
theorem mr_fill {Q : St → St → List Nat → Prop} (kk : ∀ s, Kp [(0, 17), (0, 39)] [8, 25] σ s → Q s τ vs) : pp_fill a1 a2 a3 a4 σ τ vs Q := by
  unfold pp_fill
  refine ⟨fun _ => ⟨fun _ _ => ?_, fun _ _ => ⟨fun _ => kk _ kp_rf, fun _ _ => mr_codes (fun s ks => kk s (kp_sub ks rfl rfl))⟩⟩, fun _ => kk _ kp_rf⟩
  refine ⟨fun _ _ s t z => t = τ ∧ z = vs ∧ Kp [(0, 17)] [8] σ s, ⟨rfl, rfl, kp_rf⟩, ?_⟩
  rintro x y s t z ⟨e1, e2, ks⟩
  rw [e1, e2]
  refine fun _ => ⟨fun _ => kk s (kp_sub ks rfl rfl), fun _ => mr_put1 (fun s1 k1 => mr_put1 (fun s2 k2 => mr_put2 (fun s3 k3 => mr_code (fun v => mr_put1 (fun s4 k4 => mr_put1 (fun s5 k5 => mr_put0 (fun s6 k6 => mr_look (fun v2 => ?_))))))))⟩
  have kz : Kp [(0, 17)] [8] σ s6 := kp_tr ks (kp_tr k1 (kp_tr k2 (kp_tr k3 (kp_tr k4 (kp_tr k5 k6)))))
  exact ⟨fun _ => True, fun _ _ => ⟨rfl, rfl, kz⟩, fun _ => trivial, fun _ => trivial⟩
end RFI
