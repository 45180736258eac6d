/-! the reference's expressions: calls, whole -/
section RCW
variable {σ s τ t : St} {kd : Nat → Int} {n S m lo d p p1 k u q c r : Nat} {vs z : List Nat} {a b : Int32} {K T H Z F I : Int} {X : Int32}
variable {Kexpression Kchoice : Int32 → St → St → List Nat → (Nat → St → St → List Nat → Prop) → (St → St → List Nat → Prop) → Prop} {Kbinary : Int32 → Int32 → St → St → List Nat → (Nat → St → St → List Nat → Prop) → (St → St → List Nat → Prop) → Prop} {Kdecided : Int32 → Nat → Int32 → Int32 → St → St → List Nat → (Nat → St → St → List Nat → Prop) → (St → St → List Nat → Prop) → Prop} {Kunary Kbehind Kprimary : Int32 → St → St → List Nat → (Nat → St → St → List Nat → Prop) → (St → St → List Nat → Prop) → Prop} {Kcall_0 : Int32 → Int32 → St → St → List Nat → (Nat → St → St → List Nat → Prop) → (St → St → List Nat → Prop) → Prop}
theorem mr_must1 {Q : St → St → List Nat → Prop} (h : a.toInt ≠ 0) (kk : Q σ τ vs) : pp_must a b σ τ vs Q := ⟨fun _ => kk, fun e => absurd e h⟩
/-- the end of a call: its height -/
theorem mr_high {Q : Nat → St → St → List Nat → Prop} {y x7 tk : Int32} (h0 : 0 ≤ (σ 0 12).toInt) (hq : q ∉ vs) (hx : 0 ≤ x7.toInt ∧ x7.toInt ≤ 20000) (kk : ∀ s t, KFr σ s → TFq τ vs t (vs ++ [q]) → MVq t q 0 y.toInt (1 + x7.toInt) 0 0 0 0 → FTq σ s (60 < 1 + x7.toInt) → Q q s t (vs ++ [q])) :
    pp_Vinit q y σ (upF τ q (fun _ => 0)) (vs ++ [q]) (fun s309 t309 z309 => (q ∈ z309) → (((x7 + (1 : Int32)).toInt ≤ 60 → (Q q s309 (upC t309 q 3 (x7 + (1 : Int32))) z309)) ∧ (60 < (x7 + (1 : Int32)).toInt → (pp_tell (4 : Int32) tk s309 (upC t309 q 3 (x7 + (1 : Int32))) z309 (fun s336 t336 z336 => Q q s336 t336 z336))))) := by
  obtain ⟨m1, m2⟩ := nv_made (τ := τ) (a := y) hq
  unfold pp_Vinit
  intro _ _
  have e1 : (x7 + (1 : Int32)).toInt = 1 + x7.toInt := by rw [ad1 (by omega)]; omega
  have mh := mv_hgt (a := x7 + (1 : Int32)) m1
  rw [e1] at mh ⊢
  have tf := tf_up (m := 3) (a := x7 + (1 : Int32)) m2 hq
  exact ⟨fun h => kk σ _ kp_rf tf mh (ft_iff (ft_rf h0) ⟨fun hx => hx.elim, fun hx => by omega⟩), fun h => mr_tell h0 (by decide) (fun s k f => kk s _ k tf mh (ft_iff f ⟨fun _ => h, fun _ => trivial⟩))⟩
theorem mul8q {x : Int32} (h0 : 0 ≤ x.toInt) (h1 : x.toInt ≤ 20000) : ((8 : Int32) * x).toInt = 8 * x.toInt := by
  rw [Int32.toInt_mul]
  have e8 : ((8 : Int32)).toInt = 8 := rfl
  rw [e8, Int.bmod_def]
  have e : ((2 ^ 32 : Nat) : Int) = 4294967296 := by decide
  rw [e]
  split <;> omega
end RCW
