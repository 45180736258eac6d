/-! the beginning of a body -/
abbrev KHw (σ s : St) : Prop := Kp [(0, 10), (0, 64), (0, 55), (0, 56), (0, 57), (0, 58), (0, 59), (0, 60), (0, 54), (0, 65), (0, 53), (0, 49)] [37, 38, 39] σ s
section BGN
variable {σ s s' τ t t' : St} {vs z z' : List Nat} {g g' : Gh} {X X' : Nat → Prop} {E0 H L : Nat}
theorem ur_hw (h : PA σ τ) (k : KHw σ s) (hl : 0 ≤ (s 0 53).toInt ∧ (s 0 53).toInt ≤ (s 0 49).toInt ∧ (s 0 49).toInt ≤ 100) (hL : HLd s) (ha : AtOK s) (hp : pos σ ≤ pos s) : UR σ vs s τ vs := by
  obtain ⟨hT, hA, ⟨n1, n2, n3, n4, n5, n6, n7⟩, ⟨a1, a2, a3, a4, a5, a6, a7, a8, a9, b1, b2, b3⟩, hV⟩ := h
  have f1 : (s 0 35) = (σ 0 35) := k _ _ rfl rfl
  have f3 : (s 0 12) = (σ 0 12) := k _ _ rfl rfl
  have f4 : (s 0 36) = (σ 0 36) := k _ _ rfl rfl
  have f5 : (s 0 15) = (σ 0 15) := k _ _ rfl rfl
  have f6 : (s 0 37) = (σ 0 37) := k _ _ rfl rfl
  have f7 : (s 0 17) = (σ 0 17) := k _ _ rfl rfl
  have f8 : (s 0 39) = (σ 0 39) := k _ _ rfl rfl
  have f11 : (s 0 45) = (σ 0 45) := k _ _ rfl rfl
  have e34 : (s 34) = (σ 34) := funext (fun j => k 34 j rfl rfl)
  have e35 : (s 35) = (σ 35) := funext (fun j => k 35 j rfl rfl)
  have e31 : (s 31) = (σ 31) := funext (fun j => k 31 j rfl rfl)
  have e32 : (s 32) = (σ 32) := funext (fun j => k 32 j rfl rfl)
  have e21 : (s 21) = (σ 21) := funext (fun j => k 21 j rfl rfl)
  have e15 : (s 15) = (σ 15) := funext (fun j => k 15 j rfl rfl)
  have e18 : (s 18) = (σ 18) := funext (fun j => k 18 j rfl rfl)
  have e19 : (s 19) = (σ 19) := funext (fun j => k 19 j rfl rfl)
  have e10 : (s 10) = (σ 10) := funext (fun j => k 10 j rfl rfl)
  have e9 : (s 9) = (σ 9) := funext (fun j => k 9 j rfl rfl)
  have e17 : (s 17) = (σ 17) := funext (fun j => k 17 j rfl rfl)
  have e16 : (s 16) = (σ 16) := funext (fun j => k 16 j rfl rfl)
  have eK : KU σ s := kp_sub k rfl rfl
  have eF := ku_Fi eK
  refine ⟨eK, ⟨tk_kp k rfl rfl ⟨rfl, rfl, rfl, rfl, rfl⟩ rfl hT, ha, ⟨by rw [f1]; exact n1, by rw [eF, f4]; exact n2, hl, by rw [f6]; exact n4, by rw [f7]; exact n5, by rw [f8]; exact n6, by rw [f5]; exact n7⟩, ⟨by rw [e34]; exact a1, by rw [e35]; exact a2, by rw [e21]; exact a3, by rw [e15]; exact a4, by unfold NMo; rw [e18, e19]; exact a5, by rw [e31]; exact a6, by rw [e10]; exact a7, by unfold VTy; rw [e9, e10]; exact a8, hL, by rw [e17]; exact b1, by rw [e16]; exact b2, by rw [e32]; exact b3⟩, hV⟩, fun j _ => k 8 j rfl rfl, of_eq f3, ⟨by rw [f7]; exact Int.le_refl _, by rw [f8]; exact Int.le_refl _, hp, by rw [f4]; exact Int.le_refl _, by rw [f11]; exact Int.le_refl _, by rw [f6]; exact Int.le_refl _⟩, fun _ h => h, Nat.le_refl _, fun j _ => k 25 j rfl rfl, ⟨fun j _ => ⟨k 9 j rfl rfl, k 10 j rfl rfl, k 15 j rfl rfl, k 12 j rfl rfl, fun q => by rw [k 14 j rfl rfl]; exact q⟩, fun n _ q => by rw [e21]; exact q, fun j _ => ⟨k 13 j rfl rfl, k 17 j rfl rfl⟩⟩, fun b _ => ⟨k 26 b rfl rfl, k 27 b rfl rfl, k 28 b rfl rfl, k 29 b rfl rfl, k 30 b rfl rfl, k 54 b rfl rfl⟩⟩
theorem vr_hw (h : PA σ τ) (hn : 0 ≤ (σ 0 31).toInt) (k : KHw σ s) (hl : 0 ≤ (s 0 53).toInt ∧ (s 0 53).toInt ≤ (s 0 49).toInt ∧ (s 0 49).toInt ≤ 100) (hL : HLd s) (ha : AtOK s) (hp : pos σ ≤ pos s) : VRx σ vs s τ vs 0 := by
  have f4 : (s 0 36) = (σ 0 36) := k _ _ rfl rfl
  have f6 : (s 0 37) = (σ 0 37) := k _ _ rfl rfl
  have f7 : (s 0 17) = (σ 0 17) := k _ _ rfl rfl
  have f8 : (s 0 39) = (σ 0 39) := k _ _ rfl rfl
  have f9 : (s 0 31) = (σ 0 31) := k _ _ rfl rfl
  have f10 : (s 0 45) = (σ 0 45) := k _ _ rfl rfl
  have u := ur_hw (vs := vs) h k hl hL ha hp
  refine ⟨u, ⟨by rw [f7]; omega, by rw [f8]; omega, by omega⟩, fun f1 f2 f hg => good_ur u (fun q => by rw [f6]; exact itd_le (itd_of (funext (fun j => k 25 j rfl rfl)) f8 q) (Int.le_refl _)) (fun e e1 e2 e3 e4 => Or.inl ⟨by rw [← f4]; exact e2, ?_, k 17 e rfl rfl⟩) hg, by rw [f9, f10]; omega⟩
  have e9 : (s 13) e = (σ 13) e := k 13 e rfl rfl
  rw [← e9]; exact e4
/-- nothing put yet -/
theorem ty_begin (L : Nat) : TY σ (fun q => if q = wcn σ then some (0, L) else none) (fun _ => False) (wcn σ) 0 L := by
  refine ⟨Nat.le_refl _, if_pos rfl, fun q hq => if_neg (by omega), fun q hq => if_neg (by omega), fun q h k hq hl => ?_⟩
  have hq' : (if q = wcn σ then some (0, L) else none) = some (h, k) := hq
  rw [if_neg (by omega)] at hq'
  cases hq'
end BGN
