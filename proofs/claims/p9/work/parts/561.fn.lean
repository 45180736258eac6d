/-! a body is put down -/
abbrev KFn (σ s : St) : Prop := Kp [(0, 17), (0, 53), (0, 45)] [8, 26, 27, 28, 29, 30, 54] σ s
section FNB
variable {σ s s' τ t t' : St} {vs z z' : List Nat}
theorem ur_fn (h : PA σ τ) (k : KFn σ s) (hh : (s 0 53) = 0) (hw : (σ 0 17).toInt ≤ (s 0 17).toInt) (hr : RW σ s) (hb : (σ 0 45).toInt ≤ (s 0 45).toInt) (hu : UB σ s) : UR σ vs s τ vs := by
  obtain ⟨hT, hA, ⟨n1, n2, n3, n4, n5, n6, n7⟩, ⟨a1, a2, a3, a4, a5, a6, a7, a8, a9, b1, b2, b3⟩, hV⟩ := h
  have f1 : (s 0 35) = (σ 0 35) := k _ _ rfl rfl
  have f3 : (s 0 12) = (σ 0 12) := k _ _ rfl rfl
  have f4 : (s 0 36) = (σ 0 36) := k _ _ rfl rfl
  have f5 : (s 0 15) = (σ 0 15) := k _ _ rfl rfl
  have f6 : (s 0 37) = (σ 0 37) := k _ _ rfl rfl
  have f2 : (s 0 10) = (σ 0 10) := k _ _ rfl rfl
  have f9 : (s 0 8) = (σ 0 8) := k _ _ rfl rfl
  have e3 : (s 3) = (σ 3) := funext (fun j => k 3 j rfl rfl)
  have hp : pos σ ≤ pos s := by
    unfold pos
    rw [f2, e3]
    exact Int.le_refl _
  have hi : (s 0 53).toInt = 0 := by rw [hh]; decide
  have f10 : (s 0 49) = (σ 0 49) := k _ _ rfl rfl
  have f8 : (s 0 39) = (σ 0 39) := k _ _ rfl rfl
  have e34 : (s 34) = (σ 34) := funext (fun j => k 34 j rfl rfl)
  have e35 : (s 35) = (σ 35) := funext (fun j => k 35 j rfl rfl)
  have e31 : (s 31) = (σ 31) := funext (fun j => k 31 j rfl rfl)
  have e32 : (s 32) = (σ 32) := funext (fun j => k 32 j rfl rfl)
  have e21 : (s 21) = (σ 21) := funext (fun j => k 21 j rfl rfl)
  have e15 : (s 15) = (σ 15) := funext (fun j => k 15 j rfl rfl)
  have e18 : (s 18) = (σ 18) := funext (fun j => k 18 j rfl rfl)
  have e19 : (s 19) = (σ 19) := funext (fun j => k 19 j rfl rfl)
  have e10 : (s 10) = (σ 10) := funext (fun j => k 10 j rfl rfl)
  have e9 : (s 9) = (σ 9) := funext (fun j => k 9 j rfl rfl)
  have e17 : (s 17) = (σ 17) := funext (fun j => k 17 j rfl rfl)
  have e16 : (s 16) = (σ 16) := funext (fun j => k 16 j rfl rfl)
  have eK : KU σ s := kp_sub k rfl rfl
  have eF := ku_Fi eK
  refine ⟨eK, ⟨tk_kp k rfl rfl ⟨rfl, rfl, rfl, rfl, rfl⟩ rfl hT, (by unfold AtOK; rw [f2, f9]; exact hA), ⟨by rw [f1]; exact n1, by rw [eF, f4]; exact n2, (by rw [hi, f10]; omega), by rw [f6]; exact n4, by omega, by rw [f8]; exact n6, by rw [f5]; exact n7⟩, ⟨by rw [e34]; exact a1, by rw [e35]; exact a2, by rw [e21]; exact a3, by rw [e15]; exact a4, by unfold NMo; rw [e18, e19]; exact a5, by rw [e31]; exact a6, by rw [e10]; exact a7, by unfold VTy; rw [e9, e10]; exact a8, (fun j hj => by rw [hi] at hj; omega), by rw [e17]; exact b1, by rw [e16]; exact b2, by rw [e32]; exact b3⟩, hV⟩, hr, of_eq f3, ⟨hw, by rw [f8]; exact Int.le_refl _, hp, by rw [f4]; exact Int.le_refl _, hb, by rw [f6]; exact Int.le_refl _⟩, fun _ h => h, Nat.le_refl _, fun j _ => k 25 j rfl rfl, ⟨fun j _ => ⟨k 9 j rfl rfl, k 10 j rfl rfl, k 15 j rfl rfl, k 12 j rfl rfl, fun q => by rw [k 14 j rfl rfl]; exact q⟩, fun n _ q => by rw [e21]; exact q, fun j _ => ⟨k 13 j rfl rfl, k 17 j rfl rfl⟩⟩, hu⟩
end FNB
