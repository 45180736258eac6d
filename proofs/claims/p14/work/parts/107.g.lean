section
/-! both sides: what an expression leaves -/
/-- types and heights of what there is -/
def TYR (w : St) (S m : Nat) : Prop := (∀ j, j < S → -1 ≤ (w 41 ((w 44 j).toInt.toNat)).toInt ∧ (w 41 ((w 44 j).toInt.toNat)).toInt ≤ 9) ∧ (∀ i, i < m → -1 ≤ (w 26 ((w 5 1).toInt.toNat - m + i)).toInt ∧ (w 26 ((w 5 1).toInt.toNat - m + i)).toInt ≤ 9)
/-- both sides alike within a function or an initial -/
def REq (kd : Nat → Int) (n S m lo : Nat) (w σ : St) : Prop := TKR w σ kd n ∧ LOR w σ kd n S ∧ OUR w σ kd n m lo ∧ (∃ D : Nat, (w 6 5).toInt = (D : Int) ∧ (σ 0 37).toInt = (D : Int) ∧ D ≤ 16000) ∧ TYR w S m
/-- what steps of expressions leave as it is -/
def STe (j : Nat) (a b : St) : Prop := Ko [(4, 1), (6, 3), (6, 4), (7, 7), (6, 5), (5, 9)] [24, 43, 17, 31, 32, 33, 25, 39] a b ∧ LOW j a b
/-- what the reference's expressions leave as it is -/
abbrev KEr (a b : St) : Prop := Kp [(0, 10), (0, 12), (0, 13), (0, 17), (0, 37), (0, 39)] [8, 33, 14, 25, 21] a b
/-- it is bad: told, or, where nothing is told, not known -/
def BDr (σ σ' : St) (F : Int) : Prop := ((σ 0 15).toInt ≤ 0 ∧ (σ' 0 12).toInt ≠ 0) ∨ (0 < (σ 0 15).toInt ∧ F ≠ 1)
/-- the class's walk over l leaves the like of the Value -/
def EXq (kd : Nat → Int) (n S m lo c : Nat) (l : List Stq) (σ σ' : St) (K T H Z F : Int) (X : Int32) : Prop :=
  (σ 0 12).toInt = 0 → ∀ w, REq kd n S m lo w σ → (w 6 3).toInt = 0 → (w 7 7).toInt = (c : Int) → XW l w (fun s => ((s 6 3).toInt ≠ 0 → BDr σ σ' F) ∧ ((s 6 3).toInt = 0 → (σ' 0 12).toInt = 0 ∧ T ≠ -2 ∧ H ≤ 60 ∧ REq kd n S m lo s σ' ∧ STe c w s ∧ (s 7 7).toInt = (c : Int) + 1 ∧ ∃ i, AVq s (65 + c) K T H Z F X i)) (BDr σ σ' F)
/-- a Value as it may be -/
def VRq (K T H Z F : Int) : Prop := (0 ≤ K ∧ K ≤ 3) ∧ (-2 ≤ T ∧ T ≤ 9) ∧ (1 ≤ H) ∧ (Z ≠ 0 → F = 1) ∧ (F = 1 → T = 0) ∧ (F = 2 → 0 < T ∨ T = -2) ∧ (0 ≤ F ∧ F ≤ 2) ∧ (1 ≤ K → T ≠ -1)
section RAT
variable {w σ s r τ t : St} {kd : Nat → Int} {n S m lo u v c p j : Nat} {l l2 : List Stq} {Q Q2 : St → Prop} {B B2 : Prop} {K T H Z F : Int} {X : Int32}
theorem xk_number {p : Nat} (h : ∀ a : Int32, a.toInt = (p : Int) → pk_X2_number a w Q) : XTq (stp 1 p) w Q := fun a e0 e2 e3 => by
  have e1 : (atv 32100 (w 18) a).toInt = 1 := e0
  unfold pk_X2_take
  exact ⟨fun _ => h _ e2, fun h => absurd e1 h⟩
theorem xk_string {p : Nat} (h : ∀ a : Int32, a.toInt = (p : Int) → pk_X2_string a w Q) : XTq (stp 2 p) w Q := fun a e0 e2 e3 => by
  have e1 : (atv 32100 (w 18) a).toInt = 2 := e0
  unfold pk_X2_take
  exact ⟨fun h => absurd (e1.symm.trans h) (by decide), fun _ => ⟨fun _ => h _ e2, fun h => absurd e1 h⟩⟩
theorem xk_named {p : Nat} (h : ∀ a : Int32, a.toInt = (p : Int) → pk_X2_named a w Q) : XTq (stp 3 p) w Q := fun a e0 e2 e3 => by
  have e1 : (atv 32100 (w 18) a).toInt = 3 := e0
  unfold pk_X2_take
  exact ⟨fun h => absurd (e1.symm.trans h) (by decide), fun _ => ⟨fun h => absurd (e1.symm.trans h) (by decide), fun _ => ⟨fun _ => h _ e2, fun h => absurd e1 h⟩⟩⟩
theorem xk_callee {p : Nat} (h : ∀ a : Int32, a.toInt = (p : Int) → pk_X2_callee a w Q) : XTq (stp 4 p) w Q := fun a e0 e2 e3 => by
  have e1 : (atv 32100 (w 18) a).toInt = 4 := e0
  unfold pk_X2_take
  exact ⟨fun h => absurd (e1.symm.trans h) (by decide), fun _ => ⟨fun h => absurd (e1.symm.trans h) (by decide), fun _ => ⟨fun h => absurd (e1.symm.trans h) (by decide), fun _ => ⟨fun _ => h _ e2, fun h => absurd e1 h⟩⟩⟩⟩
theorem xk_argument {p : Nat} (h : pk_X2_argument w Q) : XTq (stp 5 p) w Q := fun a e0 e2 e3 => by
  have e1 : (atv 32100 (w 18) a).toInt = 5 := e0
  unfold pk_X2_take
  exact ⟨fun h => absurd (e1.symm.trans h) (by decide), fun _ => ⟨fun h => absurd (e1.symm.trans h) (by decide), fun _ => ⟨fun h => absurd (e1.symm.trans h) (by decide), fun _ => ⟨fun h => absurd (e1.symm.trans h) (by decide), fun _ => ⟨fun _ => h, fun h => absurd e1 h⟩⟩⟩⟩⟩
theorem xk_call {p : Nat} (h : ∀ a : Int32, a.toInt = (p : Int) → pk_X2_call a w Q) : XTq (stp 6 p) w Q := fun a e0 e2 e3 => by
  have e1 : (atv 32100 (w 18) a).toInt = 6 := e0
  unfold pk_X2_take
  exact ⟨fun h => absurd (e1.symm.trans h) (by decide), fun _ => ⟨fun h => absurd (e1.symm.trans h) (by decide), fun _ => ⟨fun h => absurd (e1.symm.trans h) (by decide), fun _ => ⟨fun h => absurd (e1.symm.trans h) (by decide), fun _ => ⟨fun h => absurd (e1.symm.trans h) (by decide), fun _ => ⟨fun _ => h _ e2, fun h => absurd e1 h⟩⟩⟩⟩⟩⟩
theorem xk_left {p : Nat} (h : ∀ a : Int32, a.toInt = (p : Int) → pk_X2_left a w Q) : XTq (stp 7 p) w Q := fun a e0 e2 e3 => by
  have e1 : (atv 32100 (w 18) a).toInt = 7 := e0
  unfold pk_X2_take
  exact ⟨fun h => absurd (e1.symm.trans h) (by decide), fun _ => ⟨fun h => absurd (e1.symm.trans h) (by decide), fun _ => ⟨fun h => absurd (e1.symm.trans h) (by decide), fun _ => ⟨fun h => absurd (e1.symm.trans h) (by decide), fun _ => ⟨fun h => absurd (e1.symm.trans h) (by decide), fun _ => ⟨fun h => absurd (e1.symm.trans h) (by decide), fun _ => ⟨fun _ => h _ e2, fun h => absurd e1 h⟩⟩⟩⟩⟩⟩⟩
theorem xk_binary {p : Nat} (h : ∀ a : Int32, a.toInt = (p : Int) → pk_X2_binary a w Q) : XTq (stp 8 p) w Q := fun a e0 e2 e3 => by
  have e1 : (atv 32100 (w 18) a).toInt = 8 := e0
  unfold pk_X2_take
  exact ⟨fun h => absurd (e1.symm.trans h) (by decide), fun _ => ⟨fun h => absurd (e1.symm.trans h) (by decide), fun _ => ⟨fun h => absurd (e1.symm.trans h) (by decide), fun _ => ⟨fun h => absurd (e1.symm.trans h) (by decide), fun _ => ⟨fun h => absurd (e1.symm.trans h) (by decide), fun _ => ⟨fun h => absurd (e1.symm.trans h) (by decide), fun _ => ⟨fun h => absurd (e1.symm.trans h) (by decide), fun _ => ⟨fun _ => h _ e2, fun h => absurd e1 h⟩⟩⟩⟩⟩⟩⟩⟩
theorem xk_assign {p : Nat} (h : ∀ a : Int32, a.toInt = (p : Int) → pk_X2_assign a w Q) : XTq (stp 9 p) w Q := fun a e0 e2 e3 => by
  have e1 : (atv 32100 (w 18) a).toInt = 9 := e0
  unfold pk_X2_take
  exact ⟨fun h => absurd (e1.symm.trans h) (by decide), fun _ => ⟨fun h => absurd (e1.symm.trans h) (by decide), fun _ => ⟨fun h => absurd (e1.symm.trans h) (by decide), fun _ => ⟨fun h => absurd (e1.symm.trans h) (by decide), fun _ => ⟨fun h => absurd (e1.symm.trans h) (by decide), fun _ => ⟨fun h => absurd (e1.symm.trans h) (by decide), fun _ => ⟨fun h => absurd (e1.symm.trans h) (by decide), fun _ => ⟨fun h => absurd (e1.symm.trans h) (by decide), fun _ => ⟨fun _ => h _ e2, fun h => absurd e1 h⟩⟩⟩⟩⟩⟩⟩⟩⟩
theorem xk_index {p : Nat} (h : ∀ a : Int32, a.toInt = (p : Int) → pk_X2_index a w Q) : XTq (stp 10 p) w Q := fun a e0 e2 e3 => by
  have e1 : (atv 32100 (w 18) a).toInt = 10 := e0
  unfold pk_X2_take
  exact ⟨fun h => absurd (e1.symm.trans h) (by decide), fun _ => ⟨fun h => absurd (e1.symm.trans h) (by decide), fun _ => ⟨fun h => absurd (e1.symm.trans h) (by decide), fun _ => ⟨fun h => absurd (e1.symm.trans h) (by decide), fun _ => ⟨fun h => absurd (e1.symm.trans h) (by decide), fun _ => ⟨fun h => absurd (e1.symm.trans h) (by decide), fun _ => ⟨fun h => absurd (e1.symm.trans h) (by decide), fun _ => ⟨fun h => absurd (e1.symm.trans h) (by decide), fun _ => ⟨fun h => absurd (e1.symm.trans h) (by decide), fun _ => ⟨fun _ => h _ e2, fun h => absurd e1 h⟩⟩⟩⟩⟩⟩⟩⟩⟩⟩
theorem xk_unary {p : Nat} (h : ∀ a : Int32, a.toInt = (p : Int) → pk_X2_unary a w Q) : XTq (stp 11 p) w Q := fun a e0 e2 e3 => by
  have e1 : (atv 32100 (w 18) a).toInt = 11 := e0
  unfold pk_X2_take
  exact ⟨fun h => absurd (e1.symm.trans h) (by decide), fun _ => ⟨fun h => absurd (e1.symm.trans h) (by decide), fun _ => ⟨fun h => absurd (e1.symm.trans h) (by decide), fun _ => ⟨fun h => absurd (e1.symm.trans h) (by decide), fun _ => ⟨fun h => absurd (e1.symm.trans h) (by decide), fun _ => ⟨fun h => absurd (e1.symm.trans h) (by decide), fun _ => ⟨fun h => absurd (e1.symm.trans h) (by decide), fun _ => ⟨fun h => absurd (e1.symm.trans h) (by decide), fun _ => ⟨fun h => absurd (e1.symm.trans h) (by decide), fun _ => ⟨fun h => absurd (e1.symm.trans h) (by decide), fun _ => ⟨fun _ => h _ e2, fun h => absurd e1 h⟩⟩⟩⟩⟩⟩⟩⟩⟩⟩⟩
theorem xk_cast {p : Nat} {v : Int} (h : ∀ a b : Int32, a.toInt = (p : Int) → b.toInt = v → pk_X2_cast a b w Q) : XTq ((12, p, v, 0)) w Q := fun a e0 e2 e3 => by
  have e1 : (atv 32100 (w 18) a).toInt = 12 := e0
  unfold pk_X2_take
  exact ⟨fun h => absurd (e1.symm.trans h) (by decide), fun _ => ⟨fun h => absurd (e1.symm.trans h) (by decide), fun _ => ⟨fun h => absurd (e1.symm.trans h) (by decide), fun _ => ⟨fun h => absurd (e1.symm.trans h) (by decide), fun _ => ⟨fun h => absurd (e1.symm.trans h) (by decide), fun _ => ⟨fun h => absurd (e1.symm.trans h) (by decide), fun _ => ⟨fun h => absurd (e1.symm.trans h) (by decide), fun _ => ⟨fun h => absurd (e1.symm.trans h) (by decide), fun _ => ⟨fun h => absurd (e1.symm.trans h) (by decide), fun _ => ⟨fun h => absurd (e1.symm.trans h) (by decide), fun _ => ⟨fun h => absurd (e1.symm.trans h) (by decide), fun _ => ⟨fun _ => h _ _ e2 e3, fun h => absurd e1 h⟩⟩⟩⟩⟩⟩⟩⟩⟩⟩⟩⟩
theorem xk_colon {p : Nat} (h : pk_X2_colon w Q) : XTq (stp 15 p) w Q := fun a e0 e2 e3 => by
  have e1 : (atv 32100 (w 18) a).toInt = 15 := e0
  unfold pk_X2_take
  exact ⟨fun h => absurd (e1.symm.trans h) (by decide), fun _ => ⟨fun h => absurd (e1.symm.trans h) (by decide), fun _ => ⟨fun h => absurd (e1.symm.trans h) (by decide), fun _ => ⟨fun h => absurd (e1.symm.trans h) (by decide), fun _ => ⟨fun h => absurd (e1.symm.trans h) (by decide), fun _ => ⟨fun h => absurd (e1.symm.trans h) (by decide), fun _ => ⟨fun h => absurd (e1.symm.trans h) (by decide), fun _ => ⟨fun h => absurd (e1.symm.trans h) (by decide), fun _ => ⟨fun h => absurd (e1.symm.trans h) (by decide), fun _ => ⟨fun h => absurd (e1.symm.trans h) (by decide), fun _ => ⟨fun h => absurd (e1.symm.trans h) (by decide), fun _ => ⟨fun h => absurd (e1.symm.trans h) (by decide), fun _ => ⟨fun h => absurd (e1.symm.trans h) (by decide), fun _ => ⟨fun h => absurd (e1.symm.trans h) (by decide), fun _ => ⟨fun _ => h, fun h => absurd e1 h⟩⟩⟩⟩⟩⟩⟩⟩⟩⟩⟩⟩⟩⟩⟩
theorem xk_choice {p : Nat} (h : ∀ a : Int32, a.toInt = (p : Int) → pk_X2_choice a w Q) : XTq (stp 16 p) w Q := fun a e0 e2 e3 => by
  have e1 : (atv 32100 (w 18) a).toInt = 16 := e0
  unfold pk_X2_take
  exact ⟨fun h => absurd (e1.symm.trans h) (by decide), fun _ => ⟨fun h => absurd (e1.symm.trans h) (by decide), fun _ => ⟨fun h => absurd (e1.symm.trans h) (by decide), fun _ => ⟨fun h => absurd (e1.symm.trans h) (by decide), fun _ => ⟨fun h => absurd (e1.symm.trans h) (by decide), fun _ => ⟨fun h => absurd (e1.symm.trans h) (by decide), fun _ => ⟨fun h => absurd (e1.symm.trans h) (by decide), fun _ => ⟨fun h => absurd (e1.symm.trans h) (by decide), fun _ => ⟨fun h => absurd (e1.symm.trans h) (by decide), fun _ => ⟨fun h => absurd (e1.symm.trans h) (by decide), fun _ => ⟨fun h => absurd (e1.symm.trans h) (by decide), fun _ => ⟨fun h => absurd (e1.symm.trans h) (by decide), fun _ => ⟨fun h => absurd (e1.symm.trans h) (by decide), fun _ => ⟨fun h => absurd (e1.symm.trans h) (by decide), fun _ => ⟨fun h => absurd (e1.symm.trans h) (by decide), fun _ => h _ e2⟩⟩⟩⟩⟩⟩⟩⟩⟩⟩⟩⟩⟩⟩⟩
theorem xk_step {p : Nat} (h : ∀ a : Int32, a.toInt = (p : Int) → pk_X2_top w (fun u => pk_X2_step u a (1 : Int32) w Q)) : XTq (stp 13 p) w Q := fun a e0 e2 e3 => by
  have e1 : (atv 32100 (w 18) a).toInt = 13 := e0
  unfold pk_X2_take
  exact ⟨fun h => absurd (e1.symm.trans h) (by decide), fun _ => ⟨fun h => absurd (e1.symm.trans h) (by decide), fun _ => ⟨fun h => absurd (e1.symm.trans h) (by decide), fun _ => ⟨fun h => absurd (e1.symm.trans h) (by decide), fun _ => ⟨fun h => absurd (e1.symm.trans h) (by decide), fun _ => ⟨fun h => absurd (e1.symm.trans h) (by decide), fun _ => ⟨fun h => absurd (e1.symm.trans h) (by decide), fun _ => ⟨fun h => absurd (e1.symm.trans h) (by decide), fun _ => ⟨fun h => absurd (e1.symm.trans h) (by decide), fun _ => ⟨fun h => absurd (e1.symm.trans h) (by decide), fun _ => ⟨fun h => absurd (e1.symm.trans h) (by decide), fun _ => ⟨fun h => absurd (e1.symm.trans h) (by decide), fun _ => ⟨fun _ => h _ e2, fun h => absurd e1 h⟩⟩⟩⟩⟩⟩⟩⟩⟩⟩⟩⟩⟩
theorem ste_rf : STe j w w := ⟨ko_rf, low_rf⟩
theorem ste_tr (h : STe j w s) (g : STe j s t) : STe j w t := ⟨ko_tr h.1 g.1, low_tr h.2 g.2⟩
theorem ste_le {j2 : Nat} (h : STe j w s) (hj : j2 ≤ j) : STe j2 w s := ⟨h.1, low_le h.2 hj⟩
theorem ste_x (h : STx j w s) : STe j w s := ⟨ko_sub h.1 rfl rfl, h.2⟩
theorem ste_y (h : STy j w s) : STe j w s := ⟨ko_sub h.1 rfl rfl, h.2⟩
theorem ste_s (h : STs j w s) : STe j w s := ⟨ko_sub h.1 rfl rfl, h.2⟩
theorem fl_eq {d : Nat} {b : Int32} (e : s 25 = w 25) : FLq s d b ↔ FLq w d b := by unfold FLq; rw [e]
/-- what is alike stays so -/
theorem re_up {σ' : St} (h : REq kd n S m lo w σ) (hs : STe j w s) (hr : KEr σ σ')
    (h25 : ∀ i, i < m → ((FLq s ((w 5 1).toInt.toNat - m + i) 1 ↔ FLq w ((w 5 1).toInt.toNat - m + i) 1) ∧ (FLq s ((w 5 1).toInt.toNat - m + i) 2 ↔ FLq w ((w 5 1).toInt.toNat - m + i) 2) ∧ (FLq s ((w 5 1).toInt.toNat - m + i) 4 ↔ FLq w ((w 5 1).toInt.toNat - m + i) 4)) ∧ (FLq s ((w 5 1).toInt.toNat - m + i) 8 ↔ (σ' 14 (lo + i)).toInt ≠ 0) ∧ ((s 39 i).toInt < 0 ↔ (σ' 21 i).toInt < 0))
    (hD : ∃ D : Nat, (s 6 5).toInt = (D : Int) ∧ (σ' 0 37).toInt = (D : Int) ∧ D ≤ 16000) : REq kd n S m lo s σ' := by
  obtain ⟨⟨k1, k2, k3, k4, k5, k6⟩, ⟨l1, l2, l3, l4, l5⟩, ⟨o1, o2, o3, o4, o5, o6⟩, hd, y1, y2⟩ := h
  have c1 : s 1 = w 1 := ko_rd hs.1 1 (by omega) rfl (fun _ => rfl)
  have c13 : s 13 = w 13 := ko_rd hs.1 13 (by omega) rfl (fun _ => rfl)
  have c14 : s 14 = w 14 := ko_rd hs.1 14 (by omega) rfl (fun _ => rfl)
  have c15 : s 15 = w 15 := ko_rd hs.1 15 (by omega) rfl (fun _ => rfl)
  have c26 : s 26 = w 26 := ko_rd hs.1 26 (by omega) rfl (fun _ => rfl)
  have c27 : s 27 = w 27 := ko_rd hs.1 27 (by omega) rfl (fun _ => rfl)
  have c38 : s 38 = w 38 := ko_rd hs.1 38 (by omega) rfl (fun _ => rfl)
  have c40 : s 40 = w 40 := ko_rd hs.1 40 (by omega) rfl (fun _ => rfl)
  have c41 : s 41 = w 41 := ko_rd hs.1 41 (by omega) rfl (fun _ => rfl)
  have c42 : s 42 = w 42 := ko_rd hs.1 42 (by omega) rfl (fun _ => rfl)
  have c44 : s 44 = w 44 := ko_rd hs.1 44 (by omega) rfl (fun _ => rfl)
  have f1 : s 6 15 = w 6 15 := hs.1 6 15 (op_lt (by omega)) rfl rfl
  have f2 : s 6 7 = w 6 7 := hs.1 6 7 (op_lt (by omega)) rfl rfl
  have f3 : s 5 1 = w 5 1 := hs.1 5 1 (op_lt (by omega)) rfl rfl
  have g : ∀ i, i ≠ 0 → i ≠ 8 → i ≠ 33 → i ≠ 14 → i ≠ 25 → i ≠ 21 → σ' i = σ i := fun i a1 a2 a3 a4 a5 a6 => funext (fun j => hr i j (by
    simp only [List.contains_cons, List.contains_nil, Bool.or_false, Bool.or_eq_false_iff, beq_eq_false_iff_ne, ne_eq, Prod.mk.injEq, not_and]
    omega) (by
    simp only [List.contains_cons, List.contains_nil, Bool.or_false, Bool.or_eq_false_iff, beq_eq_false_iff_ne, ne_eq]
    omega))
  have g1 := g 1 (by decide) (by decide) (by decide) (by decide) (by decide) (by decide)
  have g2 := g 2 (by decide) (by decide) (by decide) (by decide) (by decide) (by decide)
  have g3 := g 3 (by decide) (by decide) (by decide) (by decide) (by decide) (by decide)
  have g4 := g 4 (by decide) (by decide) (by decide) (by decide) (by decide) (by decide)
  have g6 := g 6 (by decide) (by decide) (by decide) (by decide) (by decide) (by decide)
  have g9 := g 9 (by decide) (by decide) (by decide) (by decide) (by decide) (by decide)
  have g10 := g 10 (by decide) (by decide) (by decide) (by decide) (by decide) (by decide)
  have g11 := g 11 (by decide) (by decide) (by decide) (by decide) (by decide) (by decide)
  have g12 := g 12 (by decide) (by decide) (by decide) (by decide) (by decide) (by decide)
  have g13 := g 13 (by decide) (by decide) (by decide) (by decide) (by decide) (by decide)
  have g15 := g 15 (by decide) (by decide) (by decide) (by decide) (by decide) (by decide)
  have g16 := g 16 (by decide) (by decide) (by decide) (by decide) (by decide) (by decide)
  have g18 := g 18 (by decide) (by decide) (by decide) (by decide) (by decide) (by decide)
  have g19 := g 19 (by decide) (by decide) (by decide) (by decide) (by decide) (by decide)
  have g20 := g 20 (by decide) (by decide) (by decide) (by decide) (by decide) (by decide)
  have g22 := g 22 (by decide) (by decide) (by decide) (by decide) (by decide) (by decide)
  have g31 := g 31 (by decide) (by decide) (by decide) (by decide) (by decide) (by decide)
  have g32 := g 32 (by decide) (by decide) (by decide) (by decide) (by decide) (by decide)
  have g34 := g 34 (by decide) (by decide) (by decide) (by decide) (by decide) (by decide)
  have g35 := g 35 (by decide) (by decide) (by decide) (by decide) (by decide) (by decide)
  have e35 : σ' 0 35 = σ 0 35 := hr 0 35 rfl rfl
  have e36 : σ' 0 36 = σ 0 36 := hr 0 36 rfl rfl
  have e53 : σ' 0 53 = σ 0 53 := hr 0 53 rfl rfl
  have tn : ∀ u, TNm σ u → TNm σ' u := fun u hu => by
    unfold TNm
    rw [g3, g4]
    exact hu
  refine ⟨⟨rtk_k hr (fun _ => rfl) rfl k1, ?_, ?_, ?_, ?_, ?_⟩, ⟨?_, ?_, l3, ?_, ?_⟩, ⟨?_, o2, ?_, ?_, ?_, ?_⟩, hD, ?_, ?_⟩
  · rw [c13]; exact k2
  · rw [c1, g1]; exact k3
  · rw [c15, c14, g3, g4]
    exact fun p hp hk => ⟨(k4 p hp hk).1, (k4 p hp hk).2.1, tn p (k4 p hp hk).2.2⟩
  · rw [c14, g6]; exact k5
  · rw [c14, g6]; exact k6
  · rw [f1]; exact l1
  · rw [e53]; exact l2
  · rw [c44, c40, g34, g35]
    have em : ∀ j, mtk σ' j = mtk σ j := fun j => by unfold mtk; rw [g34]
    intro j hj
    rw [em]
    exact l4 j hj
  · rw [c44, c41, c42, g31, g32]; exact l5
  · rw [f2]; exact o1
  · rw [f3]; exact o3
  · rw [f3, show s 5 7 = w 5 7 from hs.1 5 7 (op_lt (by omega)) rfl rfl, show σ' 0 31 = σ 0 31 from hr 0 31 rfl rfl]; exact o4
  · unfold EOKm
    rw [e35, e36, g22, g18, g19, show σ' 0 31 = σ 0 31 from hr 0 31 rfl rfl]
    exact o5
  · intro i hi
    rw [f3]
    obtain ⟨q1, q2, q3, q4, q5, q5b, q6, q7, q8, q9⟩ := o6 i hi
    obtain ⟨⟨r1, r1b, r1c⟩, r2, r3⟩ := h25 i hi
    have eo : otk s i = otk w i := by unfold otk; rw [c38]
    unfold ORR NSm
    rw [eo, c38, c26, c27, g1, g3, g4, g9, g10, g11, g12, g13, g15, g16, g18, g19, g20, r1, r1b, r1c]
    exact ⟨q1, q2, q3, q4, q5, q5b, q6, r2, q8, q9.1, r3, q9.2.2⟩ -- the rest of what is declared
  · rw [c41, c44]; exact y1
  · rw [c26, f3]; exact y2
theorem x25 (h : STx j w s) : s 25 = w 25 := ko_rd h.1 25 (by omega) rfl (fun _ => rfl)
theorem s25 (h : STs j w s) : s 25 = w 25 := ko_rd h.1 25 (by omega) rfl (fun _ => rfl)
theorem x39 (h : STx j w s) : s 39 = w 39 := ko_rd h.1 39 (by omega) rfl (fun _ => rfl)
theorem s39 (h : STs j w s) : s 39 = w 39 := ko_rd h.1 39 (by omega) rfl (fun _ => rfl)
theorem x65 (h : STx j w s) : s 6 5 = w 6 5 := h.1 6 5 (op_lt (by omega)) rfl rfl
theorem y65 (h : STy j w s) : s 6 5 = w 6 5 := h.1 6 5 (op_lt (by omega)) rfl rfl
/-- the reference goes on without a fault, a name or a string -/
def KPr (a b : St) : Prop := KEr a b ∧ b 14 = a 14 ∧ b 0 37 = a 0 37 ∧ b 21 = a 21
theorem re_same {σ' : St} (h : REq kd n S m lo w σ) (hs : STe j w s) (hr : KPr σ σ') (e25 : s 25 = w 25) (e39 : s 39 = w 39) (e65 : s 6 5 = w 6 5) : REq kd n S m lo s σ' := by
  refine re_up h hs hr.1 (fun i hi => ⟨⟨fl_eq e25, fl_eq e25, fl_eq e25⟩, (fl_eq e25).trans ?_, ?_⟩) ?_
  · rw [hr.2.1]
    obtain ⟨_, _, _, _, _, _, _, q8, _⟩ := h.2.2.1.2.2.2.2.2 i hi
    exact q8
  · rw [e39, hr.2.2.2]
    obtain ⟨_, _, _, _, _, _, _, _, _, _, q9⟩ := h.2.2.1.2.2.2.2.2 i hi
    exact q9.1
  · rw [e65, hr.2.2.1]
    exact h.2.2.2.1
theorem re_xk {σ' : St} (h : REq kd n S m lo w σ) (ks : STx j w s) (hr : KPr σ σ') : REq kd n S m lo s σ' := re_same h (ste_x ks) hr (x25 ks) (x39 ks) (x65 ks)
theorem re_x (h : REq kd n S m lo w σ) (ks : STx j w s) : REq kd n S m lo s σ := re_xk h ks ⟨kp_rf, rfl, rfl, rfl⟩
end RAT
end

section
/-! both sides: numbers, strings, names -/
section RAU
variable {w σ σ' s r τ t : St} {kd : Nat → Int} {n S m lo u v c p j : Nat} {l l2 : List Stq} {Q Q2 : St → Prop} {B B2 : Prop} {K T H Z F I : Int} {X : Int32}
theorem bd_of (h0 : (σ 0 12).toInt = 0) (hf : FTq σ σ' B) (hb : B) (hF : F ≠ 1) : BDr σ σ' F := by
  unfold BDr
  by_cases q : (σ 0 15).toInt ≤ 0
  · exact Or.inl ⟨q, hf.2.2 (Or.inr ⟨hb, q⟩)⟩
  · exact Or.inr ⟨by omega, hF⟩
theorem nbq_of (h0 : (σ 0 12).toInt = 0) (hf : FTq σ σ' B) (hb : ¬ B) : (σ' 0 12).toInt = 0 := by
  by_cases q : (σ' 0 12).toInt = 0
  · exact q
  · rcases hf.2.1 q with h | h
    · exact absurd h0 h
    · exact absurd h.1 hb
theorem ex_number (hp : p ≤ n) (hk : kd p = 3) (hc : c < 500) (hr : KPr σ σ') (e12 : σ' 0 12 = σ 0 12) : EXq kd n S m lo c [stp 1 p] σ σ' 0 0 1 (if (σ 6 p).toInt = 0 then 1 else 0) 1 (σ 6 p) := by
  intro h0 w hR hf hc7
  refine xw_one (fun _ => xk_number (fun a ha => xt_number hc7 hc (v := σ 6 p) ?_ (fun s ks e6 e7 hA => ⟨fun hx => absurd (by rw [e6]; exact hf) hx, fun _ => ⟨by rw [e12]; exact h0, by decide, by decide, re_xk hR ks hr, ste_x ks, e7, 0, hA⟩⟩))) (fun hx => absurd hf hx)
  rw [← hR.1.2.2.2.2.1 p hp hk]
  exact atv_at ha (by have := hR.1.1.1; omega)
theorem ex_string {D : Nat} (hp : p ≤ n) (hk : kd p = 4) (hc : c < 500) (hr : KEr σ σ') (e14 : σ' 14 = σ 14) (e21 : σ' 21 = σ 21) (hD : (σ 0 37).toInt = (D : Int)) (hf : FTq σ σ' (16000 < (D : Int) + (σ 6 p).toInt + 1)) (e37 : (σ' 0 37).toInt = (if 16000 < (D : Int) + (σ 6 p).toInt + 1 then (D : Int) else (D : Int) + (σ 6 p).toInt + 1)) : EXq kd n S m lo c [stp 2 p] σ σ' 0 1 1 0 2 0 := by
  intro h0 w hR hfw hc7
  obtain ⟨D', d1, d2, d3⟩ := hR.2.2.2.1
  obtain ⟨t1, t2, t3⟩ := hR.1.2.2.2.2.2 p hp hk
  refine xw_one (fun _ => xk_string (fun a ha => xt_string hc7 hc hfw ha (by have := hR.1.1.1; omega) ⟨t2, t3⟩ d1 (by omega) (fun s ks e7 eD hA ef => ?_))) (fun hx => absurd hfw hx)
  rw [t1] at eD ef
  refine ⟨fun hx => bd_of h0 hf (by have := ef.1 hx; omega) (by decide), fun hx => ?_⟩
  have hn : ¬ 16000 < (D : Int) + (σ 6 p).toInt + 1 := fun hy => ef.2 (by omega) hx
  rw [if_neg hn] at e37
  refine ⟨nbq_of h0 hf hn, by decide, by decide, ?_, ste_s ks, e7, 0, hA⟩
  refine re_up hR (ste_s ks) hr (fun i hi => ⟨⟨fl_eq (s25 ks), fl_eq (s25 ks), fl_eq (s25 ks)⟩, (fl_eq (s25 ks)).trans ?_, ?_⟩) ⟨((D : Int) + (σ 6 p).toInt + 1).toNat, by omega, by omega, by omega⟩
  · rw [e14]
    obtain ⟨_, _, _, _, _, _, _, q8, _⟩ := hR.2.2.1.2.2.2.2.2 i hi
    exact q8
  · rw [s39 ks, e21]
    obtain ⟨_, _, _, _, _, _, _, _, _, _, q9⟩ := hR.2.2.1.2.2.2.2.2 i hi
    exact q9.1
theorem lf_one {a b : Int} (h : LFm σ S u a) (g : LFm σ S u b) : a = b := by
  rcases h with ⟨j, j1, j2, j3, j4⟩ | ⟨j1, j2⟩
  · rcases g with ⟨i, i1, i2, i3, i4⟩ | ⟨i1, i2⟩
    · by_cases q : i = j
      · rw [j4, i4, q]
      · by_cases q2 : i < j
        · exact absurd j2 (i3 j q2 j1)
        · exact absurd i2 (j3 i (by omega) i1)
    · exact absurd j2 (i1 j j1)
  · rcases g with ⟨i, i1, i2, i3, i4⟩ | ⟨i1, i2⟩
    · exact absurd i2 (j1 i i1)
    · rw [j2, i2]
theorem ef_one {a b : Int} (h : EFm σ lo n u a) (g : EFm σ lo n u b) : a = b := by
  rcases h with ⟨j, j0, j1, j2, j3, j4⟩ | ⟨j1, j2⟩
  · rcases g with ⟨i, i0, i1, i2, i3, i4⟩ | ⟨i1, i2⟩
    · by_cases q : i = j
      · rw [j4, i4, q]
      · by_cases q2 : i < j
        · exact absurd i2 (j3 i i0 q2)
        · exact absurd j2 (i3 j j0 (by omega))
    · exact absurd j2 (i1 j j0 j1)
  · rcases g with ⟨i, i0, i1, i2, i3, i4⟩ | ⟨i1, i2⟩
    · exact absurd i2 (j1 i i0 i1)
    · rw [j2, i2]
theorem or_81 (x : Int32) : ((x ||| (8 : Int32)) &&& (1 : Int32)) = x &&& (1 : Int32) := by
  have key : ∀ i : Nat, i < 32 → ((Int32.toBitVec 8).getLsbD i && (Int32.toBitVec 1).getLsbD i) = false := by decide
  apply Int32.toBitVec_inj.mp
  simp only [Int32.toBitVec_and, Int32.toBitVec_or]
  apply BitVec.eq_of_getLsbD_eq
  intro i hi
  have k := key i hi
  simp only [BitVec.getLsbD_and, BitVec.getLsbD_or]
  revert k
  generalize (Int32.toBitVec 8).getLsbD i = a
  generalize (Int32.toBitVec 1).getLsbD i = b
  generalize x.toBitVec.getLsbD i = d
  cases a <;> cases b <;> cases d <;> decide
theorem or_82 (x : Int32) : ((x ||| (8 : Int32)) &&& (2 : Int32)) = x &&& (2 : Int32) := by
  have key : ∀ i : Nat, i < 32 → ((Int32.toBitVec 8).getLsbD i && (Int32.toBitVec 2).getLsbD i) = false := by decide
  apply Int32.toBitVec_inj.mp
  simp only [Int32.toBitVec_and, Int32.toBitVec_or]
  apply BitVec.eq_of_getLsbD_eq
  intro i hi
  have k := key i hi
  simp only [BitVec.getLsbD_and, BitVec.getLsbD_or]
  revert k
  generalize (Int32.toBitVec 8).getLsbD i = a
  generalize (Int32.toBitVec 2).getLsbD i = b
  generalize x.toBitVec.getLsbD i = d
  cases a <;> cases b <;> cases d <;> decide
theorem or_84 (x : Int32) : ((x ||| (8 : Int32)) &&& (4 : Int32)) = x &&& (4 : Int32) := by
  have key : ∀ i : Nat, i < 32 → ((Int32.toBitVec 8).getLsbD i && (Int32.toBitVec 4).getLsbD i) = false := by decide
  apply Int32.toBitVec_inj.mp
  simp only [Int32.toBitVec_and, Int32.toBitVec_or]
  apply BitVec.eq_of_getLsbD_eq
  intro i hi
  have k := key i hi
  simp only [BitVec.getLsbD_and, BitVec.getLsbD_or]
  revert k
  generalize (Int32.toBitVec 8).getLsbD i = a
  generalize (Int32.toBitVec 4).getLsbD i = b
  generalize x.toBitVec.getLsbD i = d
  cases a <;> cases b <;> cases d <;> decide
theorem or_88 (x : Int32) : ((x ||| (8 : Int32)) &&& (8 : Int32)) = 8 := by
  apply Int32.toBitVec_inj.mp
  simp only [Int32.toBitVec_and, Int32.toBitVec_or]
  apply BitVec.eq_of_getLsbD_eq
  intro i hi
  simp only [BitVec.getLsbD_and, BitVec.getLsbD_or]
  generalize (Int32.toBitVec 8).getLsbD i = a
  generalize x.toBitVec.getLsbD i = d
  cases a <;> cases d <;> decide
theorem ex_named (hp : p ≤ n) (hk : kd p = 2) (hc : c < 500) (hr : KEr σ σ') (hN : NRq σ σ' S lo (lo + m) p K T F I B) (hf : FTq σ σ' B) (e37 : σ' 0 37 = σ 0 37) (e21 : σ' 21 = σ 21) : EXq kd n S m lo c [stp 3 p] σ σ' K T 1 0 F 0 := by
  intro h0 w hR hfw hc7
  have hR' := hR
  obtain ⟨hT, hL, hO, hD, y1, y2⟩ := hR'
  obtain ⟨oi1, oi2⟩ := ou_alike hT hO hp hk
  have lal : ∀ {v : Int}, LFq w S 0 p v ↔ LFm σ S p v := lo_alike hT hL hp hk
  refine xw_one (fun _ => xk_named (fun a ha => xt_named (S := S) (n := m) hc7 hc hfw ha (tn_class hT (by have := hT.1.1; omega) hp hk) (lo_class hT hL) (ou_class hT hO) ⟨y1, y2⟩ ?_ ?_ ?_)) (fun hx => absurd hfw hx)
  · intro s v hl hv ks e6 e7 hA
    have hl' := lal.1 hl
    refine ⟨fun hx => absurd (by rw [e6]; exact hfw) hx, fun _ => ?_⟩
    rcases hN with ⟨v', g1, g2, g3, g4, g5, g6, g7⟩ | ⟨g1, _⟩ | ⟨g1, _⟩
    · obtain rfl : v = v' := by have := lf_one hl' g1; omega
      obtain ⟨j', j1, j2⟩ := lf_in hl
      obtain ⟨z1, z2⟩ := hL.2.2.2.2 j' j1
      have yv := y1 j' j1
      rw [j2] at z1 z2 yv
      have eK : (if (w 42 v).toInt < 0 then (1 : Int) else 0) = K := by rw [g3]; (repeat' split) <;> omega
      have eT : (if (w 42 v).toInt < 0 then (w 41 v).toInt else (w 41 v).toInt + 1) = T := by rw [g4]; (repeat' split) <;> omega
      rw [eK, eT] at hA
      have hT2 : T ≠ -2 := by rw [← eT]; split <;> omega
      rw [g5]
      exact ⟨nbq_of h0 hf g2, hT2, by decide, re_xk hR ks ⟨hr, g7, e37, e21⟩, ste_x ks, e7, v, hA⟩
    · have := lf_one hl' g1; omega
    · have := lf_one hl' g1; omega
  · intro s r hl ho dn hdn hdn9 hfl ks e6 e7 e39 e25 hA
    have hl' := lal.1 hl
    obtain ⟨hrm, he⟩ := (oi2 r).1 ho
    have ed : dn = (w 5 1).toInt.toNat - m + r := by have := hO.2.2.1; omega
    have orr := hO.2.2.2.2.2 r hrm
    rw [← ed] at orr
    obtain ⟨q1, q2, q3, q4, q5, q5b, q6, q7, q8, q9⟩ := orr
    have nf : ¬ FLq w dn 1 := fun hx => hx hfl
    refine ⟨fun hx => absurd (by rw [e6]; exact hfw) hx, fun _ => ?_⟩
    rcases hN with ⟨v', g1, _⟩ | ⟨g1, e, g2, g3, g4, g5, g6, g7, g8, g9⟩ | ⟨g1, g2, _⟩
    · have h1 := lf_one hl' g1; omega
    · obtain rfl : e = lo + r := by have := ef_one he g2; omega
      have yv := y2 r hrm
      rw [← ed] at yv
      have q8' := q8 nf
      have eK : (if (w 27 dn).toInt < 0 then (2 : Int) else 0) = K := by rw [g5]; (repeat' split) <;> omega
      have eT : (if (w 27 dn).toInt < 0 then (w 26 dn).toInt else (w 26 dn).toInt + 1) = T := by rw [g6]; (repeat' split) <;> omega
      have eF : (if (w 27 dn).toInt < 0 then (0 : Int) else 2) = F := by rw [g7]; (repeat' split) <;> omega
      rw [eK, eT, eF] at hA
      have hT2 : T ≠ -2 := by rw [← eT]; split <;> omega
      refine ⟨nbq_of h0 hf g4, hT2, by decide, re_up hR (ste_y ks) hr (fun i hi => ?_) (by rw [y65 ks, e37]; exact hD), ste_y ks, e7, dn, hA⟩
      obtain ⟨_, _, _, _, _, _, _, p8, _, _, p9⟩ := hO.2.2.2.2.2 i hi
      rw [e39, e21]
      by_cases q : i = r
      · subst q
        rw [← ed] at p8 ⊢
        unfold FLq
        rw [e25, if_pos rfl, or_81, or_82, or_84, or_88, g9, if_pos rfl]
        exact ⟨⟨Iff.rfl, Iff.rfl, Iff.rfl⟩, ⟨fun _ => by decide, fun _ => by decide⟩, p9.1⟩
      · have hm := hO.2.2.1
        unfold FLq
        rw [e25, if_neg (by omega), g9, if_neg (by omega)]
        exact ⟨⟨Iff.rfl, Iff.rfl, Iff.rfl⟩, p8, p9.1⟩
    · exfalso
      rcases g2 with g2 | ⟨e, g2, g3⟩
      · have := ef_one he g2; omega
      · obtain rfl : e = lo + r := by have := ef_one he g2; omega
        exact nf (q5.2 g3)
  · intro s hb hfs
    refine ⟨fun _ => ?_, fun hx => absurd hx hfs⟩
    obtain ⟨hl, hb⟩ := hb
    have hl' := lal.1 hl
    rcases hN with ⟨v', g1, _⟩ | ⟨g1, e, g2, g3, _⟩ | ⟨g1, g2, g3, g4, g5, g6, g7⟩
    · have h1 := lf_one hl' g1; omega
    · exfalso
      rcases hb with hb | ⟨r, hb, hfl⟩
      · have := ef_one (oi1.1 hb) g2; omega
      · obtain ⟨hrm, he⟩ := (oi2 r).1 hb
        obtain rfl : e = lo + r := by have := ef_one he g2; omega
        obtain ⟨q1, q2, q3, q4, q5, _⟩ := hO.2.2.2.2.2 r hrm
        have := hO.2.2.1
        exact q5.1 (hfl _ (by omega)) g3
    · exact bd_of h0 hf g3 (by rw [g6]; decide)
end RAU
end

section
/-! both sides: operators -/
section RTW
variable {w σ σ1 σ2 σ3 σ' s r τ t : St} {kd : Nat → Int} {n S m lo u v c p q j : Nat} {l l1 l2 : List Stq} {Q Q2 : St → Prop} {B B2 : Prop} {K T H Z F I K2 T2 H2 Z2 F2 T3 F3 sg : Int} {X X2 X3 : Int32}
theorem kpr_rf : KPr σ σ := ⟨kp_rf, rfl, rfl, rfl⟩
theorem kpr_tr (h : KPr σ s) (g : KPr s r) : KPr σ r := ⟨kp_tr h.1 g.1, g.2.1.trans h.2.1, g.2.2.1.trans h.2.2.1, g.2.2.2.trans h.2.2.2⟩
theorem kpr_x (h : KXr σ s) : KPr σ s := ⟨kp_sub h rfl rfl, funext (fun i => h 14 i rfl rfl), h 0 37 rfl rfl, funext (fun i => h 21 i rfl rfl)⟩
theorem kpr_p (h : Kp [(0, 10)] [] σ s) : KPr σ s := ⟨kp_sub h rfl rfl, funext (fun i => h 14 i rfl rfl), h 0 37 rfl rfl, funext (fun i => h 21 i rfl rfl)⟩
theorem re_ref (h : REq kd n S m lo w σ) (k : KPr σ σ') : REq kd n S m lo w σ' := re_same h (ste_rf (j := 0)) k rfl rfl rfl
theorem ker_15 (h : KEr σ σ') : σ' 0 15 = σ 0 15 := h 0 15 rfl rfl
theorem bd_mono (hb : BDr σ σ1 F) (h15 : σ1 0 15 = σ 0 15) (h1 : (σ1 0 12).toInt ≠ 0 → (σ' 0 12).toInt ≠ 0) (h2 : F ≠ 1 → F2 ≠ 1) : BDr σ σ' F2 := by
  rcases hb with hb | hb
  · exact Or.inl ⟨hb.1, h1 hb.2⟩
  · exact Or.inr ⟨hb.1, h2 hb.2⟩
theorem bd_from (hb : BDr σ1 σ2 F) (h15 : σ1 0 15 = σ 0 15) : BDr σ σ2 F := by
  unfold BDr at hb ⊢
  rw [h15] at hb
  exact hb
theorem av_x {q : Nat} {x x2 : Int32} {k t h z f i : Int} (hA : AVq w q k t h z f x i) (e : f = 1 → x2 = x) : AVq w q k t h z f x2 i := by
  obtain ⟨q0, q1, q2, q3, q4, q5, q6⟩ := hA
  exact ⟨q0, q1, q2, q3, q4, fun hf => (q5 hf).trans (e hf).symm, q6⟩
/-- what comes behind an expression -/
theorem ex_then (hE : EXq kd n S m lo c l1 σ σ1 K T H Z F X) (h0 : (σ 0 12).toInt = 0) (hR : REq kd n S m lo w σ) (hf : (w 6 3).toInt = 0) (hc7 : (w 7 7).toInt = (c : Int)) (hb : BDr σ σ1 F → B) (hq : ∀ s, (s 6 3).toInt ≠ 0 → B → Q s)
    (kk : ∀ s i, (s 6 3).toInt = 0 → (σ1 0 12).toInt = 0 → T ≠ -2 → H ≤ 60 → REq kd n S m lo s σ1 → STe c w s → (s 7 7).toInt = (c : Int) + 1 → AVq s (65 + c) K T H Z F X i → XW l2 s Q B) : XW (l1 ++ l2) w Q B := by
  refine xw_app (xw_mono (hE h0 w hR hf hc7) (fun s hs => ?_) hb)
  by_cases c0 : (s 6 3).toInt = 0
  · obtain ⟨g1, g2, g3, g4, g5, g6, i, g7⟩ := hs.2 c0
    exact kk s i c0 g1 g2 g3 g4 g5 g6 g7
  · exact xw_bad c0 (hb (hs.1 c0)) (fun s' h => hq s' h (hb (hs.1 c0)))
theorem kd_at (hR : REq kd n S m lo w σ) {a : Int32} (ha : a.toInt = (q : Int)) (hq : q ≤ n) : (atv 16002 (w 13) a).toInt = kd q := by
  rw [atv_at ha (by have := hR.1.1.1; omega)]
  exact hR.1.2.1 q hq
/-- an expression whose Value changes no more in the reference -/
theorem ex_ref (hE : EXq kd n S m lo c l σ σ1 K T H Z F X) (k : KPr σ1 σ') (e12 : σ' 0 12 = σ1 0 12) : EXq kd n S m lo c l σ σ' K T H Z F X := by
  intro h0 w hR hf hc7
  have hb : BDr σ σ1 F → BDr σ σ' F := fun hb => by
    unfold BDr
    rw [e12]
    exact hb
  refine xw_mono (hE h0 w hR hf hc7) (fun s hs => ⟨fun hx => hb (hs.1 hx), fun hx => ?_⟩) hb
  obtain ⟨g1, g2, g3, g4, g5⟩ := hs.2 hx
  exact ⟨by rw [e12]; exact g1, g2, g3, re_ref g4 k, g5⟩
/-- two sides -/
theorem ex_two (hA : EXq kd n S m lo c l1 σ σ1 K T H Z F X) (hB : EXq kd n S m lo (c + 1) l2 σ1 σ2 K2 T2 H2 Z2 F2 X2) (vA : VRq K T H Z F) (vB : VRq K2 T2 H2 Z2 F2) (hq : q ≤ n) (hs : kd q = sg) (hr : 41 ≤ sg ∧ sg ≤ 58) (hc : c < 490)
    (k1 : KEr σ σ1) (k2 : KEr σ1 σ2) (m2 : (σ1 0 12).toInt ≠ 0 → (σ2 0 12).toInt ≠ 0) (k3 : KPr σ2 σ3) (f3 : FTq σ2 σ3 (B ∨ 60 < 1 + mxq H H2))
    (hF : F3 = 1 → F = 1 ∧ F2 = 1 ∧ ¬ B ∧ 1 + mxq H H2 ≤ 60) (hT : T ≠ -2 → T2 ≠ -2 → (B ↔ tyq sg T T2 Z Z2 = -2) ∧ (¬ B → 1 + mxq H H2 ≤ 60 → T3 = tyq sg T T2 Z Z2 ∧ F3 = fcq sg F F2 X2 ∧ (F3 = 1 → X3 = wkq sg X X2))) :
    EXq kd n S m lo c (l1 ++ [stp 7 q] ++ l2 ++ [stp 8 q]) σ σ3 0 T3 (1 + mxq H H2) 0 F3 X3 := by
  intro h0 w hR hf hc7
  have e15 : σ1 0 15 = σ 0 15 := ker_15 k1
  have f23 : (σ2 0 12).toInt ≠ 0 → (σ3 0 12).toInt ≠ 0 := fun hx => f3.2.2 (Or.inl hx)
  have hbA : BDr σ σ1 F → BDr σ σ3 F3 := fun hb => bd_mono hb e15 (fun hx => f23 (m2 hx)) (fun hx hy => hx (hF hy).1)
  have hbB : BDr σ1 σ2 F2 → BDr σ σ3 F3 := fun hb => bd_mono (bd_from hb e15) ((ker_15 k2).trans e15) f23 (fun hx hy => hx (hF hy).2.1)
  have qb : ∀ s, (s 6 3).toInt ≠ 0 → BDr σ σ3 F3 → ((s 6 3).toInt ≠ 0 → BDr σ σ3 F3) ∧ ((s 6 3).toInt = 0 → (σ3 0 12).toInt = 0 ∧ T3 ≠ -2 ∧ 1 + mxq H H2 ≤ 60 ∧ REq kd n S m lo s σ3 ∧ STe c w s ∧ (s 7 7).toInt = (c : Int) + 1 ∧ ∃ i, AVq s (65 + c) 0 T3 (1 + mxq H H2) 0 F3 X3 i) := fun s hx hb => ⟨fun _ => hb, fun hy => absurd hy hx⟩
  rw [List.append_assoc, List.append_assoc]
  refine ex_then hA h0 hR hf hc7 hbA qb (fun s i c0 g1 g2 g3 g4 g5 g6 g7 => xw_app (xw_one (fun _ => xk_left (fun a ha => xt_left g6 (by omega) g7 vA.1 (kd_at g4 ha hq) (fun s2 ks e6 e7 hA2 => ?_))) (fun hx => absurd c0 hx)))
  rw [if_neg (by omega)] at hA2
  have r2 : REq kd n S m lo s2 σ1 := re_x g4 ks
  refine ex_then hB g1 r2 (by rw [e6]; exact c0) e7 hbB qb (fun s3 i3 c3 d1 d2 d3 d4 d5 d6 d7 => xw_one (fun _ => xk_binary (fun a ha => ?_)) (fun hx => absurd c3 hx))
  have hA3 : AVq s3 (65 + c) 0 T H Z F X i := av_eq hA2 (fun k => d5.2 c k (by omega))
  refine xt_binary (by rw [d6]; omega) (by omega) c3 hA3 d7 vB.1 (by have := vA.2.2.1; have := vB.2.2.1; omega) ((kd_at d4 ha hq).trans hs) hr (fun s4 k4 e47 hA4 ef => ?_)
  obtain ⟨t1, t2⟩ := hT g2 d2
  refine ⟨fun hx => ?_, fun hx => ?_⟩
  · have hb : B ∨ 60 < 1 + mxq H H2 := (ef.1 hx).imp t1.2 id
    by_cases q15 : (σ 0 15).toInt ≤ 0
    · exact Or.inl ⟨q15, f3.2.2 (Or.inr ⟨hb, by rw [(ker_15 k2).trans e15]; exact q15⟩)⟩
    · refine Or.inr ⟨by omega, fun hy => ?_⟩
      obtain ⟨_, _, y1, y2⟩ := hF hy
      rcases hb with hb | hb
      · exact y1 hb
      · omega
  · have hb : ¬ (B ∨ 60 < 1 + mxq H H2) := fun hy => ef.2 (hy.imp t1.1 id) hx
    have hh3 : 1 + mxq H H2 ≤ 60 := Int.not_lt.mp (fun hy => hb (Or.inr hy))
    obtain ⟨t3, t4, t5⟩ := t2 (fun hy => hb (Or.inl hy)) hh3
    have ht3 : T3 ≠ -2 := fun hy => hb (Or.inl (t1.2 (t3.symm.trans hy)))
    rw [← t3, ← t4] at hA4
    refine ⟨nbq_of d1 f3 hb, ht3, hh3, re_ref (re_x d4 k4) k3, ste_tr (ste_tr g5 (ste_x ks)) (ste_tr (ste_le d5 (by omega)) (ste_x k4)), e47, 0, av_x hA4 t5⟩
end RTW
end

section
/-! both sides: operators, on -/
section RON
variable {w σ σ1 σ2 σ3 σ' s r τ t : St} {kd : Nat → Int} {n S m lo u v c p q j : Nat} {l l1 l2 : List Stq} {Q Q2 : St → Prop} {B B2 : Prop} {K T H Z F I K2 T2 H2 Z2 F2 K3 T3 Z3 F3 sg : Int} {X X2 X3 : Int32}
/-- the end of a step over one -/
theorem ex_end1 (hA : EXq kd n S m lo c l1 σ σ1 K T H Z F X) (k1 : KEr σ σ1) (k3 : KPr σ1 σ3) (f3 : FTq σ1 σ3 (B ∨ 60 < 1 + H)) {y : Stq} (hF : F3 = 1 → F = 1 ∧ ¬ B ∧ 1 + H ≤ 60)
    (hx : ∀ s i, (s 6 3).toInt = 0 → T ≠ -2 → H ≤ 60 → REq kd n S m lo s σ1 → (s 7 7).toInt = (c : Int) + 1 → AVq s (65 + c) K T H Z F X i →
      ∀ Q : St → Prop, (∀ s4, STx c s s4 → (s4 7 7).toInt = (c : Int) + 1 → ((s4 6 3).toInt ≠ 0 ↔ B ∨ 60 < 1 + H) → (¬ B → 1 + H ≤ 60 → T3 ≠ -2 ∧ ∃ i, AVq s4 (65 + c) K3 T3 (1 + H) Z3 F3 X3 i) → Q s4) → XTq y s Q) :
    EXq kd n S m lo c (l1 ++ [y]) σ σ3 K3 T3 (1 + H) Z3 F3 X3 := by
  intro h0 w hR hf hc7
  have e15 : σ1 0 15 = σ 0 15 := ker_15 k1
  have f13 : (σ1 0 12).toInt ≠ 0 → (σ3 0 12).toInt ≠ 0 := fun hx => f3.2.2 (Or.inl hx)
  have hbA : BDr σ σ1 F → BDr σ σ3 F3 := fun hb => bd_mono hb e15 f13 (fun hx hy => hx (hF hy).1)
  refine ex_then hA h0 hR hf hc7 hbA (fun s hx hb => ⟨fun _ => hb, fun hy => absurd hy hx⟩) (fun s i c0 g1 g2 g3 g4 g5 g6 g7 => xw_one (fun _ => hx s i c0 g2 g3 g4 g6 g7 _ (fun s4 k4 e47 ef hA4 => ?_)) (fun hx => absurd c0 hx))
  refine ⟨fun hx => ?_, fun hx => ?_⟩
  · have hb := ef.1 hx
    by_cases q15 : (σ 0 15).toInt ≤ 0
    · exact Or.inl ⟨q15, f3.2.2 (Or.inr ⟨hb, by rw [e15]; exact q15⟩)⟩
    · refine Or.inr ⟨by omega, fun hy => ?_⟩
      obtain ⟨_, y1, y2⟩ := hF hy
      rcases hb with hb | hb
      · exact y1 hb
      · omega
  · have hb : ¬ (B ∨ 60 < 1 + H) := fun hy => ef.2 hy hx
    have hh3 : 1 + H ≤ 60 := Int.not_lt.mp (fun hy => hb (Or.inr hy))
    obtain ⟨ht3, hA5⟩ := hA4 (fun hy => hb (Or.inl hy)) hh3
    exact ⟨nbq_of g1 f3 hb, ht3, hh3, re_ref (re_x g4 k4) k3, ste_tr g5 (ste_x k4), e47, hA5⟩
/-- one, by a sign before it -/
theorem ex_unary (hA : EXq kd n S m lo c l1 σ σ1 K T H Z F X) (vA : VRq K T H Z F) (hq : q ≤ n) (hs : kd q = sg) (hr : UNq sg) (hc : c < 490) (k1 : KEr σ σ1) (k3 : KPr σ1 σ3) (f3 : FTq σ1 σ3 (B ∨ 60 < 1 + H)) (hF : F3 = 1 → F = 1 ∧ ¬ B ∧ 1 + H ≤ 60)
    (hU : T ≠ -2 → (B ↔ uyB sg K T) ∧ (¬ B → 1 + H ≤ 60 → T3 ≠ -2 ∧ K3 = uyK sg ∧ T3 = uyT sg T ∧ F3 = uyF sg K F ∧ (F3 = 1 → X3 = ivq sg X))) :
    EXq kd n S m lo c (l1 ++ [stp 11 q]) σ σ3 K3 T3 (1 + H) 0 F3 X3 := by
  refine ex_end1 hA k1 k3 f3 hF (fun s i c0 g2 g3 g4 g6 g7 Q kk => xk_unary (fun a ha => xt_unary g6 (by omega) c0 g7 vA.1 (by have := vA.2.1; omega) (by have := vA.2.2.1; omega) ((kd_at g4 ha hq).trans hs) hr (fun s4 k4 e47 hA4 ef => ?_)))
  obtain ⟨u1, u2⟩ := hU g2
  refine kk s4 k4 e47 (by rw [ef, u1]) (fun hb hh => ?_)
  obtain ⟨w1, w2, w3, w4, w5⟩ := u2 hb hh
  obtain ⟨i', hA5⟩ := hA4
  rw [← w2, ← w3, ← w4] at hA5
  exact ⟨w1, i', av_x hA5 w5⟩
/-- one more or less, behind it -/
theorem ex_step (hA : EXq kd n S m lo c l1 σ σ1 K T H Z F X) (vA : VRq K T H Z F) (hc : c < 490) (k1 : KEr σ σ1) (k3 : KPr σ1 σ3) (f3 : FTq σ1 σ3 (B ∨ 60 < 1 + H)) (hB : T ≠ -2 → (B ↔ ¬ (1 ≤ K ∧ K ≤ 3))) :
    EXq kd n S m lo c (l1 ++ [stp 13 q]) σ σ3 0 T (1 + H) 0 0 0 := by
  refine ex_end1 hA k1 k3 f3 (fun hx => absurd hx (by decide)) (fun s i c0 g2 g3 g4 g6 g7 Q kk => xk_step (fun a ha => xl_top g6 (by omega) (xt_step g6 (by omega) c0 g7 (by have := vA.2.2.1; omega) (fun s4 k4 e47 hA4 ef => kk s4 k4 e47 (by rw [ef, hB g2]) (fun _ _ => ⟨g2, 0, hA4⟩)))))
end RON
end

section
/-! both sides: operators, on: casts, indices, assignments -/
section RMO
variable {w σ σ1 σ2 σ3 σ' s r τ t : St} {kd : Nat → Int} {n S m lo u c p q j : Nat} {l l1 l2 : List Stq} {Q Q2 : St → Prop} {B B2 : Prop} {K T H Z F I K2 T2 H2 Z2 F2 K3 T3 Z3 F3 sg v : Int} {X X2 X3 : Int32}
/-- a cast -/
theorem ex_cast (hA : EXq kd n S m lo c l1 σ σ1 K T H Z F X) (vA : VRq K T H Z F) (hc : c < 490) (k1 : KEr σ σ1) (k3 : KPr σ1 σ3) (f3 : FTq σ1 σ3 (B ∨ 60 < 1 + H)) (hv : v ≠ -2) (hB : T ≠ -2 → (B ↔ T = -1)) :
    EXq kd n S m lo c (l1 ++ [(12, q, v, 0)]) σ σ3 0 v (1 + H) 0 0 0 := by
  refine ex_end1 hA k1 k3 f3 (fun hx => absurd hx (by decide)) (fun s i c0 g2 g3 g4 g6 g7 Q kk => xk_cast (fun a b ha hb => xt_cast g6 (by omega) c0 g7 vA.1 (by have := vA.2.2.1; omega) (fun s4 k4 e47 hA4 ef => kk s4 k4 e47 (by rw [ef, hB g2]) (fun _ _ => ⟨hv, 0, by rw [← hb]; exact hA4⟩))))
/-- the end of a step over two -/
theorem ex_end2 (hA : EXq kd n S m lo c l1 σ σ1 K T H Z F X) (hB : EXq kd n S m lo (c + 1) l2 σ1 σ2 K2 T2 H2 Z2 F2 X2) (vA : VRq K T H Z F) (hq : q ≤ n) (hc : c < 490)
    (k1 : KEr σ σ1) (k2 : KEr σ1 σ2) (m2 : (σ1 0 12).toInt ≠ 0 → (σ2 0 12).toInt ≠ 0) (k3 : KPr σ2 σ3) (f3 : FTq σ2 σ3 (B ∨ 60 < 1 + mxq H H2)) {y : Stq} (hF : F3 = 1 → F = 1 ∧ F2 = 1 ∧ ¬ B ∧ 1 + mxq H H2 ≤ 60)
    (hx : ∀ s i i2, (s 6 3).toInt = 0 → T ≠ -2 → T2 ≠ -2 → H ≤ 60 → H2 ≤ 60 → REq kd n S m lo s σ2 → (s 7 7).toInt = (c : Int) + 2 → AVq s (65 + c) (if 30 ≤ kd q ∧ kd q ≤ 40 then K else 0) T H Z F X i → AVq s (65 + (c + 1)) K2 T2 H2 Z2 F2 X2 i2 →
      ∀ Q : St → Prop, (∀ s4, STx c s s4 → (s4 7 7).toInt = (c : Int) + 1 → ((s4 6 3).toInt ≠ 0 ↔ B ∨ 60 < 1 + mxq H H2) → (¬ B → 1 + mxq H H2 ≤ 60 → T3 ≠ -2 ∧ ∃ i, AVq s4 (65 + c) K3 T3 (1 + mxq H H2) Z3 F3 X3 i) → Q s4) → XTq y s Q) :
    EXq kd n S m lo c (l1 ++ [stp 7 q] ++ l2 ++ [y]) σ σ3 K3 T3 (1 + mxq H H2) Z3 F3 X3 := by
  intro h0 w hR hf hc7
  have e15 : σ1 0 15 = σ 0 15 := ker_15 k1
  have f23 : (σ2 0 12).toInt ≠ 0 → (σ3 0 12).toInt ≠ 0 := fun hx => f3.2.2 (Or.inl hx)
  have hbA : BDr σ σ1 F → BDr σ σ3 F3 := fun hb => bd_mono hb e15 (fun hx => f23 (m2 hx)) (fun hx hy => hx (hF hy).1)
  have hbB : BDr σ1 σ2 F2 → BDr σ σ3 F3 := fun hb => bd_mono (bd_from hb e15) ((ker_15 k2).trans e15) f23 (fun hx hy => hx (hF hy).2.1)
  have qb : ∀ s, (s 6 3).toInt ≠ 0 → BDr σ σ3 F3 → ((s 6 3).toInt ≠ 0 → BDr σ σ3 F3) ∧ ((s 6 3).toInt = 0 → (σ3 0 12).toInt = 0 ∧ T3 ≠ -2 ∧ 1 + mxq H H2 ≤ 60 ∧ REq kd n S m lo s σ3 ∧ STe c w s ∧ (s 7 7).toInt = (c : Int) + 1 ∧ ∃ i, AVq s (65 + c) K3 T3 (1 + mxq H H2) Z3 F3 X3 i) := fun s hx hb => ⟨fun _ => hb, fun hy => absurd hy hx⟩
  rw [List.append_assoc, List.append_assoc]
  refine ex_then hA h0 hR hf hc7 hbA qb (fun s i c0 g1 g2 g3 g4 g5 g6 g7 => xw_app (xw_one (fun _ => xk_left (fun a ha => xt_left g6 (by omega) g7 vA.1 (kd_at g4 ha hq) (fun s2 ks e6 e7 hA2 => ?_))) (fun hx => absurd c0 hx)))
  have r2 : REq kd n S m lo s2 σ1 := re_x g4 ks
  refine ex_then hB g1 r2 (by rw [e6]; exact c0) e7 hbB qb (fun s3 i3 c3 d1 d2 d3 d4 d5 d6 d7 => xw_one (fun _ => ?_) (fun hx => absurd c3 hx))
  have hA3 := av_eq (s := s3) hA2 (fun k => d5.2 c k (by omega))
  refine hx s3 i i3 c3 g2 d2 g3 d3 d4 (by rw [d6]; omega) hA3 d7 _ (fun s4 k4 e47 ef hA4 => ?_)
  refine ⟨fun hx => ?_, fun hx => ?_⟩
  · have hb := ef.1 hx
    by_cases q15 : (σ 0 15).toInt ≤ 0
    · exact Or.inl ⟨q15, f3.2.2 (Or.inr ⟨hb, by rw [(ker_15 k2).trans e15]; exact q15⟩)⟩
    · refine Or.inr ⟨by omega, fun hy => ?_⟩
      obtain ⟨_, _, y1, y2⟩ := hF hy
      rcases hb with hb | hb
      · exact y1 hb
      · omega
  · have hb : ¬ (B ∨ 60 < 1 + mxq H H2) := fun hy => ef.2 hy hx
    have hh3 : 1 + mxq H H2 ≤ 60 := Int.not_lt.mp (fun hy => hb (Or.inr hy))
    obtain ⟨ht3, hA5⟩ := hA4 (fun hy => hb (Or.inl hy)) hh3
    exact ⟨nbq_of d1 f3 hb, ht3, hh3, re_ref (re_x d4 k4) k3, ste_tr (ste_tr g5 (ste_x ks)) (ste_tr (ste_le d5 (by omega)) (ste_x k4)), e47, hA5⟩
/-- an index -/
theorem ex_index (hA : EXq kd n S m lo c l1 σ σ1 K T H Z F X) (hB : EXq kd n S m lo (c + 1) l2 σ1 σ2 K2 T2 H2 Z2 F2 X2) (vA : VRq K T H Z F) (vB : VRq K2 T2 H2 Z2 F2) (hq : q ≤ n) (hs : kd q = 24) (hc : c < 490)
    (k1 : KEr σ σ1) (k2 : KEr σ1 σ2) (m2 : (σ1 0 12).toInt ≠ 0 → (σ2 0 12).toInt ≠ 0) (k3 : KPr σ2 σ3) (f3 : FTq σ2 σ3 (B ∨ 60 < 1 + mxq H H2)) (hb : T ≠ -2 → T2 ≠ -2 → (B ↔ (T2 ≠ 0 ∨ T < 1)) ∧ (¬ B → T3 = T - 1)) :
    EXq kd n S m lo c (l1 ++ [stp 7 q] ++ l2 ++ [stp 10 q]) σ σ3 3 T3 (1 + mxq H H2) 0 0 0 := by
  refine ex_end2 hA hB vA hq hc k1 k2 m2 k3 f3 (fun hx => absurd hx (by decide)) (fun s i i2 c0 g2 d2 g3 d3 g4 g6 g7 d7 Q kk => xk_index (fun a ha => ?_))
  rw [if_neg (by omega)] at g7
  obtain ⟨b1, b2⟩ := hb g2 d2
  refine xt_index g6 (by omega) c0 g7 d7 vB.1 (by have := vA.2.1; omega) (by have := vA.2.2.1; have := vB.2.2.1; omega) (fun s4 k4 e47 hA4 ef => kk s4 k4 e47 (by rw [ef, b1]) (fun hx _ => ?_))
  have e3 := b2 hx
  have nb : ¬ (T2 ≠ 0 ∨ T < 1) := fun hy => hx (b1.2 hy)
  refine ⟨by omega, (s4 (65 + c) 4).toInt, ?_⟩
  rw [e3]
  exact hA4
/-- an assignment -/
theorem ex_assign (hA : EXq kd n S m lo c l1 σ σ1 K T H Z F X) (hB : EXq kd n S m lo (c + 1) l2 σ1 σ2 K2 T2 H2 Z2 F2 X2) (vA : VRq K T H Z F) (vB : VRq K2 T2 H2 Z2 F2) (hq : q ≤ n) (hs : kd q = sg) (hr : 30 ≤ sg ∧ sg ≤ 40) (hc : c < 490)
    (k1 : KEr σ σ1) (k2 : KEr σ1 σ2) (m2 : (σ1 0 12).toInt ≠ 0 → (σ2 0 12).toInt ≠ 0) (k3 : KPr σ2 σ3) (f3 : FTq σ2 σ3 (B ∨ 60 < 1 + mxq H H2)) (hb : T ≠ -2 → T2 ≠ -2 → (B ↔ asB sg K T T2 Z2) ∧ (¬ B → T3 = T)) :
    EXq kd n S m lo c (l1 ++ [stp 7 q] ++ l2 ++ [stp 9 q]) σ σ3 0 T3 (1 + mxq H H2) 0 0 0 := by
  refine ex_end2 hA hB vA hq hc k1 k2 m2 k3 f3 (fun hx => absurd hx (by decide)) (fun s i i2 c0 g2 d2 g3 d3 g4 g6 g7 d7 Q kk => xk_assign (fun a ha => ?_))
  rw [if_pos (by omega)] at g7
  obtain ⟨b1, b2⟩ := hb g2 d2
  refine xt_assign g6 (by omega) c0 g7 d7 vB.1 (by have := vA.2.2.1; have := vB.2.2.1; omega) ((kd_at g4 ha hq).trans hs) (fun s4 k4 e47 hA4 ef => kk s4 k4 e47 (by rw [ef, b1]) (fun hx _ => ⟨by rw [b2 hx]; exact g2, 0, ?_⟩))
  rw [b2 hx]
  exact hA4
end RMO
end

section
/-! both sides: choices -/
section RCH
variable {w σ σ1 σ2 σ3 σ4 s r : St} {kd : Nat → Int} {n S m lo c p q : Nat} {l l1 l2 l3 : List Stq} {Q : St → Prop} {B : Prop} {K T H Z F K2 T2 H2 Z2 F2 K3 T3 H3 Z3 F3 T4 : Int} {X X2 X3 : Int32}
theorem xk_quest (h : pk_X2_top w (fun u216 => pk_X2_top w (fun u222 => pk_X2_loaded u222 w (fun u225 s225 => pk_X2_unless u225 ((-1) : Int32) s225 (fun v229 s229 => ∀ s45n : St, s45n = upC s229 u216 10 v229 → (Q s45n)))))) : XTq (stp 14 p) w Q := fun a e0 e2 e3 => by
  have e1 : (atv 32100 (w 18) a).toInt = 14 := e0
  unfold pk_X2_take
  exact ⟨fun h => absurd (e1.symm.trans h) (by decide), fun _ => ⟨fun h => absurd (e1.symm.trans h) (by decide), fun _ => ⟨fun h => absurd (e1.symm.trans h) (by decide), fun _ => ⟨fun h => absurd (e1.symm.trans h) (by decide), fun _ => ⟨fun h => absurd (e1.symm.trans h) (by decide), fun _ => ⟨fun h => absurd (e1.symm.trans h) (by decide), fun _ => ⟨fun h => absurd (e1.symm.trans h) (by decide), fun _ => ⟨fun h => absurd (e1.symm.trans h) (by decide), fun _ => ⟨fun h => absurd (e1.symm.trans h) (by decide), fun _ => ⟨fun h => absurd (e1.symm.trans h) (by decide), fun _ => ⟨fun h => absurd (e1.symm.trans h) (by decide), fun _ => ⟨fun h => absurd (e1.symm.trans h) (by decide), fun _ => ⟨fun h => absurd (e1.symm.trans h) (by decide), fun _ => ⟨fun _ => h, fun h => absurd e1 h⟩⟩⟩⟩⟩⟩⟩⟩⟩⟩⟩⟩⟩⟩
theorem ex_choice (hA : EXq kd n S m lo c l1 σ σ1 K T H Z F X) (hB : EXq kd n S m lo (c + 1) l2 σ1 σ2 K2 T2 H2 Z2 F2 X2) (hC : EXq kd n S m lo (c + 2) l3 σ2 σ3 K3 T3 H3 Z3 F3 X3) (vA : VRq K T H Z F) (vB : VRq K2 T2 H2 Z2 F2) (vC : VRq K3 T3 H3 Z3 F3) (hc : c < 490)
    (k1 : KEr σ σ1) (k2 : KEr σ1 σ2) (k3 : KEr σ2 σ3) (m2 : (σ1 0 12).toInt ≠ 0 → (σ2 0 12).toInt ≠ 0) (m3 : (σ2 0 12).toInt ≠ 0 → (σ3 0 12).toInt ≠ 0) (k4 : KPr σ3 σ4) (f4 : FTq σ3 σ4 (B ∨ 60 < 1 + mxq H (mxq H2 H3))) (hb : T ≠ -2 → T2 ≠ -2 → T3 ≠ -2 → (B ↔ chB T T2 Z2 T3 Z3) ∧ (¬ B → T4 = mxq T2 T3)) :
    EXq kd n S m lo c (l1 ++ [stp 14 q] ++ l2 ++ [stp 15 q] ++ l3 ++ [stp 16 q]) σ σ4 0 T4 (1 + mxq H (mxq H2 H3)) 0 0 0 := by
  intro h0 w hR hf hc7
  have e15 : σ1 0 15 = σ 0 15 := ker_15 k1
  have e25 : σ2 0 15 = σ 0 15 := (ker_15 k2).trans e15
  have e35 : σ3 0 15 = σ 0 15 := (ker_15 k3).trans e25
  have f34 : (σ3 0 12).toInt ≠ 0 → (σ4 0 12).toInt ≠ 0 := fun hx => f4.2.2 (Or.inl hx)
  have hbA : BDr σ σ1 F → BDr σ σ4 0 := fun hb => bd_mono hb e15 (fun hx => f34 (m3 (m2 hx))) (fun _ => by decide)
  have hbB : BDr σ1 σ2 F2 → BDr σ σ4 0 := fun hb => bd_mono (bd_from hb e15) e25 (fun hx => f34 (m3 hx)) (fun _ => by decide)
  have hbC : BDr σ2 σ3 F3 → BDr σ σ4 0 := fun hb => bd_mono (bd_from hb e25) e35 f34 (fun _ => by decide)
  have qb : ∀ s, (s 6 3).toInt ≠ 0 → BDr σ σ4 0 → ((s 6 3).toInt ≠ 0 → BDr σ σ4 0) ∧ ((s 6 3).toInt = 0 → (σ4 0 12).toInt = 0 ∧ T4 ≠ -2 ∧ 1 + mxq H (mxq H2 H3) ≤ 60 ∧ REq kd n S m lo s σ4 ∧ STe c w s ∧ (s 7 7).toInt = (c : Int) + 1 ∧ ∃ i, AVq s (65 + c) 0 T4 (1 + mxq H (mxq H2 H3)) 0 0 0 i) := fun s hx hb => ⟨fun _ => hb, fun hy => absurd hy hx⟩
  rw [List.append_assoc, List.append_assoc, List.append_assoc, List.append_assoc]
  refine ex_then hA h0 hR hf hc7 hbA qb (fun s i c0 g1 g2 g3 g4 g5 g6 g7 => xw_app (xw_one (fun _ => xk_quest (xt_quest g6 (by omega) g7 vA.1 (fun s2 ks e7 e6 hA2 => ?_))) (fun hx => absurd c0 hx)))
  have r2 : REq kd n S m lo s2 σ1 := re_x g4 ks
  refine ex_then hB g1 r2 (by rw [e6]; exact c0) e7 hbB qb (fun s3 i3 c3 d1 d2 d3 d4 d5 d6 d7 => xw_app (xw_one (fun _ => xk_colon ?_) (fun hx => absurd c3 hx)))
  have hA3 : AVq s3 (65 + c) 0 T H Z F X i := av_eq hA2 (fun k => d5.2 c k (by omega))
  refine xt_colon (by rw [d6]; omega) (by omega) hA3 d7 vB.1 (fun s4 k5 e47 e46 hA4 hB4 => ?_)
  have r4 : REq kd n S m lo s4 σ2 := re_x d4 k5
  refine ex_then hC d1 r4 (by rw [e46]; exact c3) (by rw [e47]; omega) hbC qb (fun s5 i5 c5 b1 b2 b3 b4 b5 b6 b7 => xw_one (fun _ => xk_choice (fun a ha => ?_)) (fun hx => absurd c5 hx))
  have hA5 : AVq s5 (65 + c) 0 T H Z F X i := av_eq hA4 (fun k => b5.2 c k (by omega))
  have hB5 : AVq s5 (65 + (c + 1)) 0 T2 H2 Z2 F2 X2 i3 := av_eq hB4 (fun k => b5.2 (c + 1) k (by omega))
  refine xt_choice (by rw [b6]; omega) (by omega) c5 hA5 hB5 b7 vC.1 (by have := vA.2.2.1; have := vB.2.2.1; have := vC.2.2.1; omega) (fun s6 k6 e67 hA6 ef => ?_)
  obtain ⟨t1, t2⟩ := hb g2 d2 b2
  refine ⟨fun hx => ?_, fun hx => ?_⟩
  · have hb := (ef.1 hx).imp t1.2 id
    by_cases q15 : (σ 0 15).toInt ≤ 0
    · exact Or.inl ⟨q15, f4.2.2 (Or.inr ⟨hb, by rw [e35]; exact q15⟩)⟩
    · exact Or.inr ⟨by omega, by decide⟩
  · have hb : ¬ (B ∨ 60 < 1 + mxq H (mxq H2 H3)) := fun hy => ef.2 (hy.imp t1.1 id) hx
    have hh3 : 1 + mxq H (mxq H2 H3) ≤ 60 := Int.not_lt.mp (fun hy => hb (Or.inr hy))
    have t3 := t2 (fun hy => hb (Or.inl hy))
    rw [← t3] at hA6
    have ht4 : T4 ≠ -2 := by
      rw [t3]
      unfold mxq
      have := vB.2.1
      have := vC.2.1
      split <;> omega
    exact ⟨nbq_of b1 f4 hb, ht4, hh3, re_ref (re_x b4 k6) k4, ste_tr (ste_tr (ste_tr g5 (ste_x ks)) (ste_tr (ste_le d5 (by omega)) (ste_x k5))) (ste_tr (ste_le b5 (by omega)) (ste_x k6)), e67, 0, hA6⟩
end RCH
end

section
/-! both sides: calls -/
/-- of the entity e: so many arguments, none higher than Hm, all of them right -/
def CLq (kd : Nat → Int) (n S m lo c : Nat) (l : List Stq) (σ σ' : St) (r : Nat) (N Hm : Int) (ok : Prop) : Prop :=
  (σ 0 12).toInt = 0 → ∀ w, REq kd n S m lo w σ → (w 6 3).toInt = 0 → (w 7 7).toInt = (c : Int) → XW l w (fun s => ((s 6 3).toInt ≠ 0 → BDr σ σ' 0) ∧ ((s 6 3).toInt = 0 → (σ' 0 12).toInt = 0 ∧ Hm ≤ 60 ∧ REq kd n S m lo s σ' ∧ STe c w s ∧ (s 7 7).toInt = (c : Int) + 1 ∧ (∃ z x, AVq s (65 + c) 4 (σ' 10 (lo + r)).toInt Hm z 0 x (((s 5 1).toInt.toNat - m + r : Nat) : Int)) ∧ (s (65 + c) 11).toInt = N ∧ ((s (65 + c) 12).toInt ≠ 0 ↔ ¬ ok))) (BDr σ σ' 0)
section RCL
variable {w σ σ1 σ2 σ3 σ' s t : St} {kd : Nat → Int} {n S m lo c p q r : Nat} {l l1 l2 : List Stq} {Q : St → Prop} {B ok : Prop} {K T H Z F N Hm : Int} {X : Int32}
/-- what is called, found -/
theorem cl_callee (hp : p ≤ n) (hk : kd p = 2) (hc : c < 490) (hr : KEr σ σ') (hl : LFm σ S p (-1)) (he : EFm σ lo (lo + m) p ((lo + r : Nat) : Int)) (h9 : (σ 9 (lo + r)).toInt = 2) (hrm : r < m) (e12 : σ' 0 12 = σ 0 12) (e37 : σ' 0 37 = σ 0 37)
    (e14 : ∀ k, σ' 14 k = if k = lo + r then 1 else σ 14 k) (e21 : ∀ k, (σ' 21 k).toInt < 0 ↔ k ≠ r ∧ (σ 21 k).toInt < 0) : CLq kd n S m lo c [stp 4 p] σ σ' r 0 0 True := by
  intro h0 w hR hf hc7
  have hR' := hR
  obtain ⟨hT, hL, hO, hD, y1, y2⟩ := hR'
  obtain ⟨oi1, oi2⟩ := ou_alike hT hO hp hk
  have lal : ∀ {v : Int}, LFq w S 0 p v ↔ LFm σ S p v := lo_alike hT hL hp hk
  refine xw_one (fun _ => xk_callee (fun a ha => xt_callee (S := S) (n := m) hc7 (by omega) hf ha (tn_class hT (by have := hT.1.1; omega) hp hk) (lo_class hT hL) (ou_class hT hO) ?_ ?_)) (fun hx => absurd hf hx)
  · intro s r' hl' ho dn hdn hdn9 hfl ks e6 e7 e39 e25 hA h11
    obtain ⟨hrm', he'⟩ := (oi2 r').1 ho
    obtain rfl : r' = r := by have := ef_one he he'; omega
    have ed : dn = (w 5 1).toInt.toNat - m + r' := by have := hO.2.2.1; omega
    refine ⟨fun hx => absurd (by rw [e6]; exact hf) hx, fun _ => ⟨by rw [e12]; exact h0, by decide, re_up hR (ste_y ks) hr (fun i hi => ?_) (by rw [y65 ks, e37]; exact hD), ste_y ks, e7, ⟨0, 0, ?_⟩, by rw [h11.1], by rw [h11.2]; exact ⟨fun hx => absurd rfl hx, fun hx => absurd trivial hx⟩⟩⟩
    · obtain ⟨_, _, _, _, _, _, _, p8, _, _, p9⟩ := hO.2.2.2.2.2 i hi
      rw [e39, e21]
      by_cases q : i = r'
      · subst q
        rw [← ed] at p8 ⊢
        unfold FLq
        rw [e25, if_pos rfl, or_81, or_82, or_84, or_88, e14, if_pos rfl]
        refine ⟨⟨Iff.rfl, Iff.rfl, Iff.rfl⟩, ⟨fun _ => by decide, fun _ => by decide⟩, ⟨fun hx => ?_, fun hx => absurd rfl hx.1⟩⟩
        by_cases q2 : (w 39 i).toInt < 0
        · rw [if_pos ⟨rfl, q2⟩] at hx
          omega
        · rw [if_neg (fun hy => q2 hy.2)] at hx
          exact absurd hx q2
      · have hm := hO.2.2.1
        unfold FLq
        rw [e25, if_neg (by omega), e14, if_neg (by omega), if_neg (fun hy => q hy.1)]
        exact ⟨⟨Iff.rfl, Iff.rfl, Iff.rfl⟩, p8, ⟨fun hx => ⟨q, p9.1.1 hx⟩, fun hx => p9.1.2 hx.2⟩⟩
    · obtain ⟨q1, q2, q3, q4, q5, q5b, q6, _⟩ := hO.2.2.2.2.2 r' hrm
      have e51 : s 5 1 = w 5 1 := ks.1 5 1 (op_lt (by omega)) rfl rfl
      have e10 : σ' 10 (lo + r') = σ 10 (lo + r') := hr 10 _ rfl rfl
      rw [e51, ← ed, e10, ← q6, ← ed]
      exact hA
  · intro s hb hfs
    exfalso
    rcases hb (lal.2 hl) with hb | ⟨r', hb, hfl⟩
    · have := ef_one (oi1.1 hb) he; omega
    · obtain ⟨hrm', he'⟩ := (oi2 r').1 hb
      obtain rfl : r' = r := by have := ef_one he he'; omega
      obtain ⟨q1, q2, q3, q4, q5, _⟩ := hO.2.2.2.2.2 r' hrm
      have := hO.2.2.1
      exact q5.2 (by omega) (hfl _ (by omega))
/-- what is called, not found -/
theorem ex_nocall (hp : p ≤ n) (hk : kd p = 2) (hc : c < 490) (hn : LFm σ S p (-1) → EFm σ lo (lo + m) p (-1) ∨ ∃ e : Nat, EFm σ lo (lo + m) p e ∧ (σ 9 e).toInt ≠ 2) (hf : FTq σ σ1 True) (e15 : σ1 0 15 = σ 0 15) (h1 : (σ1 0 12).toInt ≠ 0 → (σ' 0 12).toInt ≠ 0) : EXq kd n S m lo c ([stp 4 p] ++ l) σ σ' K T H Z 0 X := by
  intro h0 w hR hfw hc7
  have hR' := hR
  obtain ⟨hT, hL, hO, hD, y1, y2⟩ := hR'
  obtain ⟨oi1, oi2⟩ := ou_alike hT hO hp hk
  have lal : ∀ {v : Int}, LFq w S 0 p v ↔ LFm σ S p v := lo_alike hT hL hp hk
  have hbd : BDr σ σ' 0 := bd_mono (bd_of h0 hf trivial (by decide) : BDr σ σ1 0) e15 h1 (fun _ => by decide)
  refine xw_app (xw_one (fun _ => xk_callee (fun a ha => xt_callee (S := S) (n := m) hc7 (by omega) hfw ha (tn_class hT (by have := hT.1.1; omega) hp hk) (lo_class hT hL) (ou_class hT hO) ?_ ?_)) (fun hx => absurd hfw hx))
  · intro s r' hl' ho dn hdn hdn9 hfl _ _ _ _ _ _ _
    exfalso
    obtain ⟨hrm', he'⟩ := (oi2 r').1 ho
    have ed : dn = (w 5 1).toInt.toNat - m + r' := by have := hO.2.2.1; omega
    obtain ⟨q1, q2, q3, q4, q5, q5b, _⟩ := hO.2.2.2.2.2 r' hrm'
    rcases hn (lal.1 hl') with hx | ⟨e, hx, hy⟩
    · have := ef_one hx he'; omega
    · obtain rfl : e = lo + r' := by have := ef_one hx he'; omega
      rw [← ed] at q5
      have := q5.1 hfl
      omega
  · intro s hb hfs
    exact xw_bad hfs hbd (fun s' h' => ⟨fun _ => hbd, fun hy => absurd hy h'⟩)
end RCL
end

section
/-! both sides: calls, on -/
section RCM
variable {w σ σ1 σ2 σ3 σ' s t : St} {kd : Nat → Int} {n S m lo c p q r : Nat} {l l1 l2 : List Stq} {Q : St → Prop} {B ok : Prop} {K T H Z F N Hm : Int} {X : Int32}
/-- an argument is right -/
def AGm (σ : St) (e : Nat) (N T Z : Int) : Prop := N < (σ 15 e).toInt ∧ (T = (σ 16 (8 * e + N.toNat)).toInt ∨ (0 < (σ 16 (8 * e + N.toNat)).toInt ∧ Z ≠ 0))
theorem cl_arg (hC : CLq kd n S m lo c l σ σ1 r N Hm ok) (hE : EXq kd n S m lo (c + 1) l2 σ1 σ2 K T H Z F X) (vE : VRq K T H Z F) (hc : c < 480) (hN : 0 ≤ N ∧ N ≤ 17000) (hrm : r < m) (h9 : (σ2 9 (lo + r)).toInt = 2) (hP : N < (σ2 15 (lo + r)).toInt → (σ2 16 (8 * (lo + r) + N.toNat)).toInt ≠ -1)
    (k1 : KEr σ σ1) (k2 : KEr σ1 σ2) (m2 : (σ1 0 12).toInt ≠ 0 → (σ2 0 12).toInt ≠ 0) (k3 : KPr σ2 σ3) (e12 : σ3 0 12 = σ2 0 12) :
    CLq kd n S m lo c (l ++ l2 ++ [stp 5 q]) σ σ3 r (N + 1) (mxq Hm H) (ok ∧ AGm σ2 (lo + r) N T Z) := by
  intro h0 w hR hf hc7
  have e15 : σ1 0 15 = σ 0 15 := ker_15 k1
  have e25 : σ2 0 15 = σ 0 15 := (ker_15 k2).trans e15
  have hbA : BDr σ σ1 0 → BDr σ σ3 0 := fun hb => bd_mono hb e15 (fun hx => by rw [e12]; exact m2 hx) (fun _ => by decide)
  have hbB : BDr σ1 σ2 F → BDr σ σ3 0 := fun hb => bd_mono (bd_from hb e15) e25 (fun hx => by rw [e12]; exact hx) (fun _ => by decide)
  have qb : ∀ s, (s 6 3).toInt ≠ 0 → BDr σ σ3 0 → ((s 6 3).toInt ≠ 0 → BDr σ σ3 0) ∧ ((s 6 3).toInt = 0 → (σ3 0 12).toInt = 0 ∧ mxq Hm H ≤ 60 ∧ REq kd n S m lo s σ3 ∧ STe c w s ∧ (s 7 7).toInt = (c : Int) + 1 ∧ (∃ z x, AVq s (65 + c) 4 (σ3 10 (lo + r)).toInt (mxq Hm H) z 0 x (((s 5 1).toInt.toNat - m + r : Nat) : Int)) ∧ (s (65 + c) 11).toInt = N + 1 ∧ ((s (65 + c) 12).toInt ≠ 0 ↔ ¬ (ok ∧ AGm σ2 (lo + r) N T Z))) := fun s hx hb => ⟨fun _ => hb, fun hy => absurd hy hx⟩
  rw [List.append_assoc]
  refine xw_app (xw_mono (hC h0 w hR hf hc7) (fun s hs => ?_) hbA)
  by_cases c0 : (s 6 3).toInt = 0
  · obtain ⟨g1, g2, g3, g4, g5, ⟨z, x, g6⟩, g7, g8⟩ := hs.2 c0
    refine ex_then hE g1 g3 c0 (by rw [g5]; omega) hbB qb (fun s3 i3 c3 d1 d2 d3 d4 d5 d6 d7 => xw_one (fun _ => xk_argument ?_) (fun hx => absurd c3 hx))
    have keep : ∀ k, s3 (65 + c) k = s (65 + c) k := fun k => d5.2 c k (by omega)
    have hA3 := av_eq (s := s3) g6 keep
    have o := d4.2.2.1
    have e51 : s3 5 1 = s 5 1 := d5.1 5 1 (op_lt (by omega)) rfl rfl
    obtain ⟨q1, q2, q3, q4, q5, q5b, q6, q7, q8, q9, q10⟩ := o.2.2.2.2.2 r hrm
    obtain ⟨s1, s2, s3'⟩ := q9 (q5.2 (by omega))
    have hdn : (s3 5 1).toInt.toNat - m + r < 10100 := by have := o.2.2.1; have := o.2.2.2.1.1; have := o.2.2.2.2.1.2.2.2.1; omega
    have hix : (s3 (65 + c) 4).toInt = (((s3 5 1).toInt.toNat - m + r : Nat) : Int) := by
      rw [keep 4, e51]
      exact g6.2.2.2.2.2.2 (by decide)
    refine xt_argument (n := s3 (65 + c) 11) (m := s3 (65 + c) 12) (sig := s3 27 ((s3 5 1).toInt.toNat - m + r)) (by rw [d6]; omega) (by omega) hA3 rfl rfl (by rw [keep 11, g7]; omega) d7 vE.1 (atv_at hix hdn) (fun s4 k4 e47 e46 hA4 h11 h12 => ⟨fun hx => absurd (by rw [e46]; exact c3) hx, fun _ => ⟨by rw [e12]; exact d1, ?_, re_xk d4 k4 k3, ste_tr g4 (ste_tr (ste_le d5 (by omega)) (ste_x k4)), e47, ⟨z, x, ?_⟩, by rw [h11, keep 11, g7], ?_⟩⟩)
    · unfold mxq
      split <;> omega
    · have e10 : σ3 10 (lo + r) = σ1 10 (lo + r) := (k3.1 10 _ rfl rfl).trans (k2 10 _ rfl rfl)
      have e51' : s4 5 1 = s 5 1 := (k4.1 5 1 (op_lt (by omega)) rfl rfl).trans e51
      rw [e10, e51']
      exact hA4
    · rw [h12, keep 12, g8]
      unfold agB AGm
      rw [s1, keep 11, g7]
      by_cases cN : N < (σ2 15 (lo + r)).toInt
      · have hs := s3' (s 0 0) 
        have ht : sgT (s3 27 ((s3 5 1).toInt.toNat - m + r)) (s (65 + c) 11) = (σ2 16 (8 * (lo + r) + N.toNat)).toInt := by
          rw [s3' (s (65 + c) 11) (by omega) (by omega), g7]
        rw [ht]
        have hp := hP cN
        generalize (σ2 16 (8 * (lo + r) + N.toNat)).toInt = P at hp
        clear hs ht
        constructor
        · rintro (h | h | h) hy
          · exact h hy.1
          · omega
          · rcases hy.2.2 with hz | hz
            · exact h (Or.inl ⟨hz, hp⟩)
            · exact h (Or.inr hz)
        · intro hy
          by_cases qo : ok
          · refine Or.inr (Or.inr (fun hz => hy ⟨qo, cN, ?_⟩))
            rcases hz with hz | hz
            · exact Or.inl hz.1
            · exact Or.inr hz
          · exact Or.inl qo
      · constructor
        · intro _ hy
          exact cN hy.2.1
        · intro _
          exact Or.inr (Or.inl (by omega))
  · exact xw_bad c0 (hbA (hs.1 c0)) (fun s' h => qb s' h (hbA (hs.1 c0)))
theorem cl_call (hC : CLq kd n S m lo c l σ σ1 r N Hm ok) (hc : c < 480) (hHm : 0 ≤ Hm) (hrm : r < m) (h9 : (σ1 9 (lo + r)).toInt = 2) (k1 : KEr σ σ1) (k3 : KPr σ1 σ3) (f3 : FTq σ1 σ3 (¬ (ok ∧ N = (σ1 15 (lo + r)).toInt) ∨ 60 < 1 + Hm)) :
    EXq kd n S m lo c (l ++ [stp 6 q]) σ σ3 0 (σ1 10 (lo + r)).toInt (1 + Hm) 0 0 0 := by
  intro h0 w hR hf hc7
  have e15 : σ1 0 15 = σ 0 15 := ker_15 k1
  have hbA : BDr σ σ1 0 → BDr σ σ3 0 := fun hb => bd_mono hb e15 (fun hx => f3.2.2 (Or.inl hx)) (fun _ => by decide)
  refine xw_app (xw_mono (hC h0 w hR hf hc7) (fun s hs => ?_) hbA)
  by_cases c0 : (s 6 3).toInt = 0
  · obtain ⟨g1, g2, g3, g4, g5, ⟨z, x, g6⟩, g7, g8⟩ := hs.2 c0
    have o := g3.2.2.1
    obtain ⟨q1, q2, q3, q4, q5, q5b, q6, q7, q8, q9, q10⟩ := o.2.2.2.2.2 r hrm
    obtain ⟨s1, s2, s3'⟩ := q9 (q5.2 (by omega))
    have hdn : (s 5 1).toInt.toNat - m + r < 10100 := by have := o.2.2.1; have := o.2.2.2.1.1; have := o.2.2.2.2.1.2.2.2.1; omega
    refine xw_one (fun _ => xk_call (fun a ha => xt_call (n := s (65 + c) 11) (m := s (65 + c) 12) (sig := s 27 ((s 5 1).toInt.toNat - m + r)) g5 (by omega) c0 g6 rfl rfl (atv_at (g6.2.2.2.2.2.2 (by decide)) hdn) (by omega) (fun s4 k4 e47 hA4 ef => ?_))) (fun hx => absurd c0 hx)
    have eB : ((s (65 + c) 12).toInt ≠ 0 ∨ (s (65 + c) 11).toInt ≠ sgN (s 27 ((s 5 1).toInt.toNat - m + r))) ↔ ¬ (ok ∧ N = (σ1 15 (lo + r)).toInt) := by
      rw [g8, g7, s1]
      exact ⟨fun h hy => h.elim (fun h => h hy.1) (fun h => h hy.2), fun h => by
        by_cases qo : ok
        · exact Or.inr (fun hz => h ⟨qo, hz⟩)
        · exact Or.inl qo⟩
    rw [eB] at ef
    refine ⟨fun hx => ?_, fun hx => ?_⟩
    · have hb := ef.1 hx
      by_cases q15 : (σ 0 15).toInt ≤ 0
      · exact Or.inl ⟨q15, f3.2.2 (Or.inr ⟨hb, by rw [e15]; exact q15⟩)⟩
      · exact Or.inr ⟨by omega, by decide⟩
    · have hb := fun hy => ef.2 hy hx
      refine ⟨nbq_of g1 f3 hb, ?_, Int.not_lt.mp (fun hy => hb (Or.inr hy)), re_xk g3 k4 k3, ste_tr g4 (ste_x k4), e47, 0, hA4⟩
      have := g3.2.2.2.2.2 r hrm
      omega
  · exact xw_bad c0 (hbA (hs.1 c0)) (fun s' h => ⟨fun _ => hbA (hs.1 c0), fun hy => absurd hy h⟩)
end RCM
end

section
/-! the reference's expressions: what is wanted and what is left -/
/-- what the reference wants of its own state -/
def RGm (kd : Nat → Int) (n S m lo : Nat) (σ : St) : Prop := RTk σ kd n ∧ (∀ p, p ≤ n → kd p = 2 → TNm σ p) ∧ (∀ p, p ≤ n → kd p = 4 → 0 ≤ (σ 6 p).toInt ∧ (σ 6 p).toInt ≤ 16000) ∧ LOKm σ S ∧ EOKm σ lo (lo + m) ∧ m ≤ 100 ∧ ((∀ j, 0 ≤ (σ 31 j).toInt ∧ (σ 31 j).toInt ≤ 10) ∧ ∀ j, j < S → (σ 31 ((σ 35 j).toInt.toNat)).toInt ≤ 8) ∧ (∀ j, -2 ≤ (σ 10 j).toInt ∧ (σ 10 j).toInt ≤ 10) ∧ (∀ j, -1 ≤ (σ 35 j).toInt) ∧ (∀ e : Nat, lo ≤ e → e < lo + m → (((σ 9 e).toInt = 1 → 0 ≤ (σ 10 e).toInt) ∧ (σ 10 e).toInt ≤ 8) ∧ ((σ 9 e).toInt ≠ 1 → ∀ j : Nat, (j : Int) < (σ 15 e).toInt → (σ 16 (8 * e + j)).toInt ≠ -1)) ∧ (∃ D : Nat, (σ 0 37).toInt = (D : Int) ∧ D ≤ 16000) ∧ 0 ≤ (σ 0 12).toInt
/-- told once, told for ever -/
def MNq (a b : St) : Prop := (a 0 12).toInt ≠ 0 → (b 0 12).toInt ≠ 0
/-- operands below: room for what is deeper -/
def ROq (c d k : Nat) : Prop := c + 14 * (25 - d) + k ≤ 470
def rmq (sel k : Nat) : Nat := if sel = 0 then 13 else if sel = 1 then 12 else if sel = 7 then 12 - k else 1
/-- what an expression leaves in the reference -/
def EPq (kd : Nat → Int) (n S m lo sel d k p : Nat) (σ τ : St) (vs : List Nat) (u : Nat) (s t : St) (z : List Nat) : Prop :=
  ∃ (p' : Nat) (l : List Stq), (∀ L, PVq kd sel d k p L (some (p', L ++ l))) ∧ p < p' ∧ GMt s n p' ∧ KEr σ s ∧ MNq σ s ∧ RGm kd n S m lo s ∧ TFq τ vs t z ∧ u ∈ z ∧ u ∉ vs
    ∧ ∃ (K T H Z F I : Int) (X : Int32), MVq t u K T H Z F X I ∧ VRq K T H Z F ∧ H ≤ (p' : Int) - p ∧ ∀ c, ROq c d (rmq sel k) → EXq kd n S m lo c l σ s K T H Z F X
/-- a method of the group: d deep, from p on -/
def ERq (kd : Nat → Int) (n S m lo sel d k p : Nat) (f : St → St → List Nat → (Nat → St → St → List Nat → Prop) → (St → St → List Nat → Prop) → Prop) : Prop :=
  ∀ (σ τ : St) (vs : List Nat) (Q : Nat → St → St → List Nat → Prop) (F : Prop), RGm kd n S m lo σ → GMt σ n p → (∀ u s t z, EPq kd n S m lo sel d k p σ τ vs u s t z → Q u s t z) → ((∀ L, PVq kd sel d k p L none) → F) → f σ τ vs Q (fun _ _ _ => F)
section RGP
variable {w σ σ' s r τ t : St} {kd : Nat → Int} {n S m lo c d k p p' sel u : Nat} {vs z : List Nat}
theorem rgm_k (h : RGm kd n S m lo σ) (hr : KEr σ σ') (hD : ∃ D : Nat, (σ' 0 37).toInt = (D : Int) ∧ D ≤ 16000) (hf : 0 ≤ (σ' 0 12).toInt) : RGm kd n S m lo σ' := by
  obtain ⟨h1, h2, h3, h4, h5, h6, h7, h8, h9, h10, h11, h12⟩ := h
  have g : ∀ i, i ≠ 0 → i ≠ 8 → i ≠ 33 → i ≠ 14 → i ≠ 25 → i ≠ 21 → σ' i = σ i := fun i a1 a2 a3 a4 a5 a6 => funext (fun j => hr i j (by
    simp only [List.contains_cons, List.contains_nil, Bool.or_false, Bool.or_eq_false_iff, beq_eq_false_iff_ne, ne_eq, Prod.mk.injEq, not_and]
    omega) (by
    simp only [List.contains_cons, List.contains_nil, Bool.or_false, Bool.or_eq_false_iff, beq_eq_false_iff_ne, ne_eq]
    omega))
  have g1 := g 1 (by decide) (by decide) (by decide) (by decide) (by decide) (by decide)
  have g3 := g 3 (by decide) (by decide) (by decide) (by decide) (by decide) (by decide)
  have g4 := g 4 (by decide) (by decide) (by decide) (by decide) (by decide) (by decide)
  have g6 := g 6 (by decide) (by decide) (by decide) (by decide) (by decide) (by decide)
  have g10 := g 10 (by decide) (by decide) (by decide) (by decide) (by decide) (by decide)
  have g15 := g 15 (by decide) (by decide) (by decide) (by decide) (by decide) (by decide)
  have g16 := g 16 (by decide) (by decide) (by decide) (by decide) (by decide) (by decide)
  have g18 := g 18 (by decide) (by decide) (by decide) (by decide) (by decide) (by decide)
  have g19 := g 19 (by decide) (by decide) (by decide) (by decide) (by decide) (by decide)
  have g22 := g 22 (by decide) (by decide) (by decide) (by decide) (by decide) (by decide)
  have g31 := g 31 (by decide) (by decide) (by decide) (by decide) (by decide) (by decide)
  have g34 := g 34 (by decide) (by decide) (by decide) (by decide) (by decide) (by decide)
  have g35 := g 35 (by decide) (by decide) (by decide) (by decide) (by decide) (by decide)
  refine ⟨rtk_k hr (fun _ => rfl) rfl h1, ?_, ?_, ?_, ?_, h6, ?_, ?_, ?_, ?_, hD, hf⟩
  · unfold TNm
    rw [g3, g4]
    exact h2
  · rw [g6]; exact h3
  · have em : ∀ j, mtk σ' j = mtk σ j := fun j => by unfold mtk; rw [g34]
    unfold LOKm TNm
    rw [show σ' 0 53 = σ 0 53 from hr 0 53 rfl rfl, g34, g3, g4]
    refine ⟨h4.1, h4.2.1, fun j hj => ?_⟩
    rw [em]
    exact h4.2.2 j hj
  · unfold EOKm
    rw [show σ' 0 35 = σ 0 35 from hr 0 35 rfl rfl, show σ' 0 36 = σ 0 36 from hr 0 36 rfl rfl, g22, g18, g19, show σ' 0 31 = σ 0 31 from hr 0 31 rfl rfl]
    exact h5
  · rw [g31, g35]; exact h7
  · rw [g10]; exact h8
  · rw [g35]; exact h9
  · rw [g15, g16, g 9 (by decide) (by decide) (by decide) (by decide) (by decide) (by decide), g10]; exact h10
theorem ex_src {l : List Stq} {K T H Z F : Int} {X : Int32} (k0 : KPr σ r) (e12 : r 0 12 = σ 0 12) (h : EXq kd n S m lo c l r σ' K T H Z F X) : EXq kd n S m lo c l σ σ' K T H Z F X := by
  have e15 : r 0 15 = σ 0 15 := k0.1 0 15 rfl rfl
  have eB : BDr r σ' F ↔ BDr σ σ' F := by unfold BDr; rw [e15]
  intro h0 w hR hf hc
  have hR' : REq kd n S m lo w r := re_same hR (ste_rf (j := 0)) k0 rfl rfl rfl
  exact xw_mono (h (by rw [e12]; exact h0) w hR' hf hc) (fun s hs => ⟨fun hx => eB.1 (hs.1 hx), hs.2⟩) eB.1
end RGP
end

section
/-! the reference's expressions: the primary ones -/
section RPR
variable {w σ σ' σ1 s r τ t : St} {kd : Nat → Int} {n S m lo c d k p p' sel u q : Nat} {vs z : List Nat} {K T H Z F I : Int} {X a b : Int32}
theorem mv_zero (hA : MVq t q k T H Z F X I) : MVq (upC t q 5 b) q k T H b.toInt F X I := by
  obtain ⟨q0, q1, q2, q3, q4, q5, q6⟩ := hA
  refine ⟨?_, ?_, ?_, ?_, ?_, fun hf => ?_, fun hi => ?_⟩
  · rw [rdA_ne (by decide)]; exact q0
  · rw [rdA_ne (by decide)]; exact q1
  · rw [rdA_ne (by decide)]; exact q2
  · rw [rdA_eq rfl]
  · rw [rdA_ne (by decide)]; exact q4
  · rw [rdA_ne (by decide)]; exact q5 hf
  · rw [rdA_ne (by decide)]; exact q6 hi
theorem rk_is (hG : RGm kd n S m lo σ) (c : Nat) (hc : c ≤ 62) (j : Int) (hj : rkI (c : Int) = j) (h : rkI (kd p) = j) : kd p = (c : Int) := rk_one (hG.1.2.2.1 p) (by omega) (by rw [h, hj])
theorem gm_k (h : GMt σ n p) (e : s 0 10 = σ 0 10) : GMt s n p := by
  unfold GMt
  rw [e]
  exact h
theorem vr_num {Z : Int} : VRq 0 0 1 Z 1 := ⟨by omega, by omega, by omega, fun _ => rfl, fun _ => rfl, fun h => absurd h (by decide), by omega, fun _ => by decide⟩
/-- an end of a primary one, a token long -/
theorem ep_one {y : Stq} (hG : RGm kd n S m lo σ) (hg : GMt σ n p) (h2 : 2 ≤ kd p) (hpv : ∀ L, PVq kd 4 d 0 p L (some (p + 1, L ++ [y]))) (k0 : Kp [(0, 10)] [] σ σ1) (g1 : GMt σ1 n (p + 1)) (hr : KEr σ1 s) (e10 : s 0 10 = σ1 0 10) (hD : ∃ D : Nat, (s 0 37).toInt = (D : Int) ∧ D ≤ 16000) (h12 : 0 ≤ (s 0 12).toInt) (hM : MNq σ1 s) (hT : TFq τ vs t (vs ++ [q])) (hq : q ∉ vs) (mv : MVq t q K T 1 Z F X I) (vr : VRq K T 1 Z F)
    (hX : ∀ c, c < 480 → EXq kd n S m lo c [y] σ1 s K T 1 Z F X) : EPq kd n S m lo 4 d 0 p σ τ vs q s t (vs ++ [q]) := by
  have kk : KEr σ s := kp_tr (kpr_p k0).1 hr
  have e12 : σ1 0 12 = σ 0 12 := k0 0 12 rfl rfl
  refine ⟨p + 1, [y], hpv, by omega, gm_k g1 e10, kk, ?_, rgm_k hG kk hD h12, hT, List.mem_append_right _ (List.mem_singleton.mpr rfl), hq, K, T, 1, Z, F, I, X, mv, vr, by omega, fun c hc => ex_src (kpr_p k0) e12 (hX c ?_)⟩
  · unfold MNq at hM ⊢
    rw [← e12]
    exact hM
  · unfold ROq at hc
    omega
end RPR
end

section
/-! the reference's expressions: the primary ones, whole -/
section RPS
variable {σ s τ t : St} {kd : Nat → Int} {n S m lo d p : Nat} {vs : List Nat} {a : Int32}
variable {Kexpression Kchoice : Int32 → St → St → List Nat → (Nat → St → St → List Nat → Prop) → (St → St → List Nat → Prop) → Prop} {Kbinary : Int32 → Int32 → St → St → List Nat → (Nat → St → St → List Nat → Prop) → (St → St → List Nat → Prop) → Prop} {Kdecided : Int32 → Nat → Int32 → Int32 → St → St → List Nat → (Nat → St → St → List Nat → Prop) → (St → St → List Nat → Prop) → Prop} {Kunary Kbehind Kprimary : Int32 → St → St → List Nat → (Nat → St → St → List Nat → Prop) → (St → St → List Nat → Prop) → Prop} {Kcall_0 : Int32 → Int32 → St → St → List Nat → (Nat → St → St → List Nat → Prop) → (St → St → List Nat → Prop) → Prop}
/-- a call: behind its name -/
def ECq (kd : Nat → Int) (n S m lo d p : Nat) (f : St → St → List Nat → (Nat → St → St → List Nat → Prop) → (St → St → List Nat → Prop) → Prop) : Prop :=
  ∀ (σ τ : St) (vs : List Nat) (Q : Nat → St → St → List Nat → Prop) (F : Prop), RGm kd n S m lo σ → GMt σ n (p + 1) → (∀ u s t z, EPq kd n S m lo 4 d 0 p σ τ vs u s t z → Q u s t z) → ((∀ L, PVq kd 4 d 0 p L none) → F) → f σ τ vs Q (fun _ _ _ => F)
theorem ep_src {σ0 : St} {u : Nat} {z : List Nat} {sel k : Nat} (k0 : Kp [(0, 10)] [] σ0 σ) (h : EPq kd n S m lo sel d k p σ τ vs u s t z) : EPq kd n S m lo sel d k p σ0 τ vs u s t z := by
  obtain ⟨p', l, h1, h2, h3, h4, h5, h6, h7, h8, h9, K, T, H, Z, F, I, X, g1, g2, g3, g4⟩ := h
  have e12 : σ 0 12 = σ0 0 12 := k0 0 12 rfl rfl
  refine ⟨p', l, h1, h2, h3, kp_tr (kpr_p k0).1 h4, ?_, h6, h7, h8, h9, K, T, H, Z, F, I, X, g1, g2, g3, fun c hc => ex_src (kpr_p k0) e12 (g4 c hc)⟩
  unfold MNq at h5 ⊢
  rw [← e12]
  exact h5
theorem er_primary (ha : a.toInt = (d : Int)) (hd : d ≤ 25)
    (hE : d < 25 → ∀ v : Int32, v.toInt = (d : Int) + 1 → ∀ p, ERq kd n S m lo 0 (d + 1) 0 p (Kexpression v))
    (hC : ∀ p, kd p = 2 → kd (p + 1) = 20 → ∀ b : Int32, b.toInt = (p : Int) → ECq kd n S m lo d p (Kcall_0 b a)) :
    ERq kd n S m lo 4 d 0 p (fun σ τ vs Q T => pp_primary Kexpression Kchoice Kbinary Kdecided Kunary Kbehind Kprimary Kcall_0 a σ τ vs Q T) := by
  intro σ τ vs Q F hG hg hk hn
  show pp_primary Kexpression Kchoice Kbinary Kdecided Kunary Kbehind Kprimary Kcall_0 a σ τ vs Q (fun _ _ _ => F)
  unfold pp_primary
  rw [nat_of hg.1, hG.1.2.1 p hg.2]
  have up : 2 ≤ kd p → GMt (upC σ 0 10 ((σ 0 10) + (1 : Int32))) n (p + 1) := fun h2 => gm_up hG.1 hg h2
  have k0 : Kp [(0, 10)] [] σ (upC σ 0 10 ((σ 0 10) + (1 : Int32))) := kp_f kp_rf rfl
  generalize hs1 : upC σ 0 10 ((σ 0 10) + (1 : Int32)) = σ1 at up k0 ⊢
  have e12 : σ1 0 12 = σ 0 12 := k0 0 12 rfl rfl
  have hD1 : ∃ D : Nat, (σ1 0 37).toInt = (D : Int) ∧ D ≤ 16000 := by
    rw [k0 0 37 rfl rfl]
    exact hG.2.2.2.2.2.2.2.2.2.2.1
  have h121 : 0 ≤ (σ1 0 12).toInt := by
    rw [e12]
    exact hG.2.2.2.2.2.2.2.2.2.2.2
  have hG1 : RGm kd n S m lo σ1 := rgm_k hG (kpr_p k0).1 hD1 h121
  refine fun _ => ⟨fun n3 _ => ⟨fun n4 _ => ⟨fun n2 => ?_, fun e2 => ?_⟩, fun e4 => ?_⟩, fun e3 _ => ?_⟩
  · refine mr_is hG.1 hg (c := 20) (by decide) (by decide) (fun k20 => ⟨fun _ => mr_deeper ha hd (fun hd2 v hv => ?_) (fun hd2 => hn (fun L => pv_r0 k20 hd2)), fun hx => absurd hx (by decide)⟩) (fun k20 => ⟨fun hx => absurd rfl hx, fun _ => ?_⟩)
    · rw [hs1]
      refine hE hd2 v hv (p + 1) σ1 τ vs _ F hG1 (up (by omega)) (fun u s t z he => ?_) (fun hnone => hn (fun L => pv_r1 k20 hd2 (hnone L)))
      obtain ⟨p', l, h1, h2, h3, h4, h5, h6, h7, h8, h9, K, T, H, Z, F', I, X, g1, g2, g3, g4⟩ := he
      refine mr_expect h6.1 h3 (c := 21) (by decide) (by decide) (fun k21 s' ks' g' => hk u s' t z ?_) (fun k21 => hn (fun L => pv_r2 k20 hd2 (h1 L) k21))
      have e12' : s' 0 12 = s 0 12 := ks' 0 12 rfl rfl
      refine ep_src k0 ⟨p' + 1, l, fun L => pv_r3 k20 hd2 (h1 L) k21, by omega, g', kp_tr h4 (kpr_p ks').1, fun hx => by rw [e12']; exact h5 hx, rgm_k h6 (kpr_p ks').1 ?_ ?_, h7, h8, h9, K, T, H, Z, F', I, X, g1, g2, by omega, fun c hc => ex_ref (g4 c ?_) (kpr_p ks') e12'⟩
      · rw [ks' 0 37 rfl rfl]
        exact h6.2.2.2.2.2.2.2.2.2.2.1
      · rw [e12']
        exact h6.2.2.2.2.2.2.2.2.2.2.2
      · unfold ROq rmq at hc ⊢
        rw [if_pos rfl]
        rw [if_neg (by decide), if_neg (by decide), if_neg (by decide)] at hc
        omega
    · unfold pp_wrong pp_wrongAt
      exact fun _ => hn (fun L => pv_n ⟨fun e => n2 (by rw [e]; decide), fun e => n3 (by rw [e]; decide), fun e => n4 (by rw [e]; decide), k20⟩)
  · have k2 := rk_is hG 2 (by decide) 2 (by decide) e2
    have g1 := up (by rw [k2]; decide)
    refine mr_is hG1.1 g1 (c := 20) (by decide) (by decide) (fun k20 => ⟨fun hx => absurd hx (by decide), fun _ => ?_⟩) (fun k20 => ⟨fun _ => ?_, fun hx => absurd rfl hx⟩)
    · exact hC p k2 k20 (σ 0 10) hg.1 σ1 τ vs _ F hG1 g1 (fun u s t z he => hk u s t z (ep_src k0 he)) hn
    · refine mr_named h121 hg.1 (hG1.2.1 p hg.2 k2) hG1.2.2.2.1 hG1.2.2.2.2.1 ⟨fun j => by have := hG1.2.2.2.2.2.2.1.1 j; omega, fun j => by have := hG1.2.2.2.2.2.2.2.1 j; omega⟩ hG1.2.2.2.2.2.2.2.2.1 (fun q s t K T F' I B hq ks tf mv hN hf => hk q s t _ ?_)
      have kr : KEr σ1 s := kp_sub ks rfl rfl
      refine ep_one hG hg (by omega) (fun L => pv_p2 k2 k20) k0 g1 kr (ks 0 10 rfl rfl) (by rw [ks 0 37 rfl rfl]; exact hD1) hf.1 (fun hx => hf.2.2 (Or.inl hx)) tf hq mv ?_ (fun c hc => ex_named hg.2 k2 (by omega) kr hN hf (ks 0 37 rfl rfl) (funext (fun j => ks 21 j rfl rfl)))
      have y1 := hG1.2.2.2.2.2.2.1
      have y2 := hG1.2.2.2.2.2.2.2.1
      have y3 := hG1.2.2.2.2.2.2.2.2.2.1
      rcases hN with ⟨v, hv, _, g3, g4, g5, _⟩ | ⟨_, e, he, g2, _, g3, g4, g5, _⟩ | ⟨_, _, _, g3, g4, g5, _⟩
      · have := y1.1 v
        have : (σ1 31 v).toInt ≤ 8 := by
          rcases hv with ⟨j, j1, _, _, j4⟩ | ⟨_, j4⟩
          · have := y1.2 j j1
            rwa [show (σ1 35 j).toInt.toNat = v from by omega] at this
          · omega
        refine ⟨?_, ?_, by omega, fun hx => absurd rfl hx, fun hx => by omega, fun hx => by omega, by omega, fun _ => ?_⟩
        · rw [g3]; split <;> omega
        · rw [g4]; split <;> omega
        · rw [g4]; split <;> omega
      · have r1 := y2 e
        have r2 : lo ≤ e ∧ e < lo + m := by
          rcases he with ⟨e', e1, e2, _, _, e5⟩ | ⟨_, e2⟩ <;> omega
        have r3 := (y3 e r2.1 r2.2).1.1 g2
        have r4 := (y3 e r2.1 r2.2).1.2
        refine ⟨?_, ?_, by omega, fun hx => absurd rfl hx, fun hx => ?_, fun hx => ?_, ?_, fun _ => ?_⟩
        · rw [g3]; split <;> omega
        · rw [g4]; split <;> omega
        · rw [g5] at hx; split at hx <;> omega
        · rw [g4]; split <;> omega
        · rw [g5]; split <;> omega
        · rw [g4]; split <;> omega
      · exact ⟨by omega, by omega, by omega, fun hx => absurd rfl hx, fun hx => by omega, fun hx => by omega, by omega, fun hx => by omega⟩
  · have k4 := rk_is hG 4 (by decide) 4 (by decide) e4
    obtain ⟨D, hD, hD9⟩ := hD1
    have hl := hG1.2.2.1 p hg.2 k4
    refine mr_text h121 hg.1 hD (by omega) rfl hl (fun q s t hq ks tf mv hf e37 => hk q s t _ ?_)
    have kr : KEr σ1 s := kp_sub ks rfl rfl
    refine ep_one hG hg (by omega) (fun L => pv_p4 k4) k0 (up (by omega)) kr (ks 0 10 rfl rfl) ?_ hf.1 (fun hx => hf.2.2 (Or.inl hx)) tf hq mv ⟨by omega, by omega, by omega, fun hz => absurd rfl hz, fun h => absurd h (by decide), fun _ => by omega, by omega, fun hx => by omega⟩ (fun c hc => ex_string hg.2 k4 (by omega) kr (funext (fun j => ks 14 j rfl rfl)) (funext (fun j => ks 21 j rfl rfl)) hD hf e37)
    by_cases c1 : 16000 < (D : Int) + (σ1 6 p).toInt + 1
    · rw [if_pos c1] at e37
      exact ⟨D, e37, hD9⟩
    · rw [if_neg c1] at e37
      exact ⟨((D : Int) + (σ1 6 p).toInt + 1).toNat, by omega, by omega⟩
  · have k3 := rk_is hG 3 (by decide) 3 (by decide) e3
    refine mr_put1 (fun s ks _ q hq => ?_)
    unfold pp_Vinit pp_Vconstant
    obtain ⟨m1, m2⟩ := nv_made (τ := τ) (a := 0) hq
    have ew : s 6 p = σ1 6 p := ks 6 p rfl rfl
    have kpw : KPr σ1 s := kpr_x (kw_x ks)
    have fin : ∀ b : Int32, b.toInt = (if (σ1 6 p).toInt = 0 then 1 else 0) → Q q s (upC (upC (upC (upC (upC (upF τ q (fun _ => 0)) q 3 (1 : Int32)) q 0 (0 : Int32)) q 6 (1 : Int32)) q 7 (s 6 p)) q 5 b) (vs ++ [q]) := fun b hb => hk q s _ _ (by
      have mv := mv_zero (b := b) (mv_const (y := s 6 p) m1)
      rw [hb, ew] at mv
      rw [ew]
      exact ep_one hG hg (by omega) (fun L => pv_p3 k3) k0 (up (by omega)) kpw.1 (ks 0 10 rfl rfl) (by rw [ks 0 37 rfl rfl]; exact hD1) (by rw [ks 0 12 rfl rfl]; exact h121) (fun hx => by rw [ks 0 12 rfl rfl]; exact hx) (tf_up (tf_up (tf_up m2 hq) hq) hq) hq mv vr_num (fun c hc => ex_number hg.2 k3 (by omega) kpw (ks 0 12 rfl rfl)))
    refine fun _ _ _ _ _ => ⟨fun c _ => fin 0 ?_, fun c _ => fin 1 ?_⟩
    · rw [ew] at c
      rw [if_neg c]
      rfl
    · rw [ew] at c
      rw [if_pos c]
      rfl
end RPS
end

section
/-! the reference's expressions: signs before one -/
section RUN
variable {σ σ1 σ2 s s2 τ t t2 : St} {kd : Nat → Int} {n S m lo d p p' c u q : Nat} {vs z : List Nat} {l : List Stq} {K T H Z F I K3 T3 F3 sg : Int} {X X3 : Int32} {B : Prop} {a : Int32}
theorem ft_from (e12 : s 0 12 = σ 0 12) (e15 : s 0 15 = σ 0 15) (h : FTq s s2 B) : FTq σ s2 B := by
  unfold FTq at h ⊢
  rw [e12, e15] at h
  exact h
theorem tf_new (hT : TFq τ vs t z) (hT2 : TFq t z t2 (z ++ [q])) : TFq τ vs t2 (z ++ [q]) := tf_tr hT hT2
/-- the end of a sign before one -/
theorem ep_un (hp : p ≤ n) (h2 : 2 ≤ kd p) (hd : d < 25) (hun : UNq (kd p)) (k0 : Kp [(0, 10)] [] σ σ1)
    (h1 : ∀ L, PVq kd 2 (d + 1) 0 (p + 1) L (some (p', L ++ l))) (hpp : p + 1 < p') (hg : GMt s n p') (hr : KEr σ1 s) (hM : MNq σ1 s) (hG : RGm kd n S m lo s) (hT : TFq τ vs t z) (hvs : u ∉ vs)
    (vr : VRq K T H Z F) (hH : H ≤ (p' : Int) - ((p + 1 : Nat) : Int)) (hX : ∀ c, ROq c (d + 1) (rmq 2 0) → EXq kd n S m lo c l σ1 s K T H Z F X)
    (k3 : KPr s s2) (e10 : s2 0 10 = s 0 10) (f3 : FTq s s2 (B ∨ 60 < 1 + H)) (hq : q ∉ z) (hT2 : TFq τ vs t2 (z ++ [q])) (mv : MVq t2 q K3 T3 (1 + H) 0 F3 X3 I) (v3 : VRq K3 T3 (1 + H) 0 F3)
    (hF : F3 = 1 → F = 1 ∧ ¬ B ∧ 1 + H ≤ 60) (hU : T ≠ -2 → (B ↔ uyB (kd p) K T) ∧ (¬ B → 1 + H ≤ 60 → T3 ≠ -2 ∧ K3 = uyK (kd p) ∧ T3 = uyT (kd p) T ∧ F3 = uyF (kd p) K F ∧ (F3 = 1 → X3 = ivq (kd p) X))) :
    EPq kd n S m lo 2 d 0 p σ τ vs q s2 t2 (z ++ [q]) := by
  have e12 : σ1 0 12 = σ 0 12 := k0 0 12 rfl rfl
  refine ⟨p', l ++ [stp 11 p], fun L => ?_, by omega, gm_k hg e10, kp_tr (kpr_p k0).1 (kp_tr hr k3.1), fun hx => f3.2.2 (Or.inl (hM (by rw [e12]; exact hx))), rgm_k hG k3.1 ?_ f3.1, hT2, List.mem_append_right _ (List.mem_singleton.mpr rfl), fun hx => hq (hT.1 q hx), K3, T3, 1 + H, 0, F3, I, X3, mv, v3, by omega, fun c hc => ex_src (kpr_p k0) e12 ?_⟩
  · have := pv_u1 (m := 0) hun hd (h1 L)
    rw [← List.append_assoc]
    exact this
  · rw [k3.2.2.1]
    exact hG.2.2.2.2.2.2.2.2.2.2.1
  · have hc2 : ROq c (d + 1) (rmq 2 0) ∧ c < 490 := by
      unfold ROq rmq at hc ⊢
      rw [if_neg (by decide), if_neg (by decide), if_neg (by decide)] at hc ⊢
      omega
    exact ex_unary (hX c hc2.1) vr hp rfl hun hc2.2 hr k3 f3 hF hU
end RUN
end

section
/-! the reference's expressions: stars -/
section RSR
variable {σ s τ t : St} {kd : Nat → Int} {n p : Nat} {vs : List Nat}
theorem mr_stars {Q : Int32 → St → St → List Nat → Prop} {F : Prop} (tk : RTk σ kd n) (g : GMt σ n p) (k1 : ∀ (x : Int32) (s : St) (i p1 : Nat), x.toInt = (i : Int) → i ≤ 5 → SRq kd 5 p = some (i, p1) → p ≤ p1 → GMt s n p1 → Kp [(0, 10)] [] σ s → Q x s τ vs) (k0 : SRq kd 5 p = none → F) : pp_stars σ τ vs Q (fun _ _ _ => F) := by
  unfold pp_stars
  refine ⟨fun x s t z => ∃ i p1 : Nat, x.toInt = (i : Int) ∧ i ≤ 5 ∧ p ≤ p1 ∧ GMt s n p1 ∧ Kp [(0, 10)] [] σ s ∧ t = τ ∧ z = vs ∧ SRq kd 5 p = (SRq kd (5 - i) p1).bind fun r => some (r.1 + i, r.2), ⟨0, p, by decide, by decide, by omega, g, kp_rf, rfl, rfl, ?_⟩, ?_⟩
  · cases SRq kd 5 p with
    | none => rfl
    | some r => rfl
  · rintro x s t z ⟨i, p1, e1, e2, e3, e4, e5, rfl, rfl, e6⟩
    have tk' : RTk s kd n := rtk_k e5 (fun _ => rfl) rfl tk
    refine mr_is tk' e4 (c := 45) (by decide) (by decide) (fun k => ⟨fun hx => absurd hx (by decide), fun _ => ⟨fun c => ?_, fun c => ?_⟩⟩) (fun k => ⟨fun _ => ?_, fun hx => absurd rfl hx⟩)
    · refine ⟨i + 1, p1 + 1, by rw [ad1 (by omega)]; omega, by omega, by omega, gm_up tk' e4 (by omega), kp_tr e5 (kp_f kp_rf rfl), rfl, rfl, ?_⟩
      have e7 : 5 - i = (4 - i) + 1 := by omega
      have e8 : 5 - (i + 1) = 4 - i := by omega
      rw [e7] at e6
      rw [e8, e6, SRq, if_pos k]
      cases SRq kd (4 - i) (p1 + 1) with
      | none => rfl
      | some r =>
        show some (r.1 + 1 + i, r.2) = some (r.1 + (i + 1), r.2)
        rw [show r.1 + 1 + i = r.1 + (i + 1) from by omega]
    · unfold pp_wrong pp_wrongAt
      intro _
      refine k0 ?_
      obtain rfl : i = 5 := by omega
      rw [e6, show 5 - 5 = 0 from rfl, SRq, if_pos k]
      rfl
    · refine k1 x s i p1 e1 e2 ?_ e3 e4 e5
      rw [e6]
      cases 5 - i with
      | zero => rw [SRq, if_neg k]; simp
      | succ j => rw [SRq, if_neg k]; simp
end RSR
end

section
/-! the reference's expressions: unary -/
section RUO
variable {σ σ1 s s2 τ t : St} {kd : Nat → Int} {n S m lo d p u q : Nat} {vs z : List Nat} {a b : Int32} {K T H Z F I : Int} {X : Int32} {B : Prop}
theorem rk_iff4 : ∀ a : Nat, a < 63 → (rkI (a : Int) - 32 = 42 ↔ a = 60) ∧ (rkI (a : Int) - 32 = 20 ↔ a = 20) ∧ (rkI (a : Int) = 5 ↔ a = 5) := by decide
theorem rk_iff5 {k : Int} (hr : 0 ≤ k ∧ k ≤ 62) : (rkI k - 32 = 42 ↔ k = 60) ∧ (rkI k - 32 = 20 ↔ k = 20) ∧ (rkI k = 5 ↔ k = 5) := by
  have hi := rk_iff4 k.toNat (by omega)
  rw [show ((k.toNat : Nat) : Int) = k from by omega] at hi
  omega
/-- what stands behind a sign, and the sign -/
theorem er_sign {v6 : Int32} {Q : Nat → St → St → List Nat → Prop} (hp : p ≤ n) (hn : n ≤ 16000) (hd : d < 25) (hun : UNq (kd p)) (hk62 : 0 ≤ kd p ∧ kd p ≤ 62) (hv : v6.toInt = rkI (kd p) - 32) (k0 : Kp [(0, 10)] [] σ σ1) (he : EPq kd n S m lo 2 (d + 1) 0 (p + 1) σ1 τ vs u s t z) (hk : ∀ q s2 t2 z2, EPq kd n S m lo 2 d 0 p σ τ vs q s2 t2 z2 → Q q s2 t2 z2) :
    (v6.toInt ≠ 33 → (∃ J103 : Prop, (J103 → (pp_stepped u v6 (0 : Int32) b s t z (fun u109 s109 t109 z109 => Q u109 s109 t109 z109))) ∧ ((v6.toInt = 18 → (J103)) ∧ (v6.toInt ≠ 18 → ((v6.toInt ≠ 19 → (pp_read_1 u s t z (fun s116 t116 z116 => (v6.toInt ≠ 38 → (pp_one_2 v6 u b s116 t116 z116 (fun u140 s140 t140 z140 => Q u140 s140 t140 z140))) ∧ (v6.toInt = 38 → (pp_pointedTo u b s116 t116 z116 (fun u129 s129 t129 z129 => Q u129 s129 t129 z129)))))) ∧ (v6.toInt = 19 → (J103))))))) ∧ (v6.toInt = 33 → (pp_pointed u b s t z (fun u87 s87 t87 z87 => Q u87 s87 t87 z87))) := by
  obtain ⟨i41, i37, i33, i38, i18, i19⟩ := rk_iff3 (sg := kd p) hk62 hv
  obtain ⟨p', l, h1, h2, h3, h4, h5, h6, h7, h8, h9, K, T, H, Z, F, I, X, g1, g2, g3, g4⟩ := he
  have hp' := h3.2
  have hH : 0 ≤ H ∧ H ≤ 20000 := by have := g2.2.2.1; omega
  have h0 : 0 ≤ (s 0 12).toInt := h6.2.2.2.2.2.2.2.2.2.2.2
  have vK := g2.1
  have vT := g2.2.1
  have vF1 := g2.2.2.2.2.1
  have vKT := g2.2.2.2.2.2.2.2
  have h2p : 2 ≤ kd p := by unfold UNq at hun; omega
  have fin := fun {B : Prop} {K3 T3 F3 : Int} {X3 : Int32} {q : Nat} {s2 t2 : St} => ep_un (σ := σ) (τ := τ) (vs := vs) (B := B) (K3 := K3) (T3 := T3) (F3 := F3) (X3 := X3) (q := q) (s2 := s2) (t2 := t2) (I := 0) hp h2p hd hun k0 h1 h2 h3 h4 h5 h6 h7 h9 g2 g3 g4
  refine ⟨fun c33 => ⟨kd p = 61 ∨ kd p = 62, fun hj => ?_, fun c => Or.inl (i18.1 c), fun c18 => ⟨fun c19 => ?_, fun c => Or.inr (i19.1 c)⟩⟩, fun c33 => ?_⟩
  · refine mr_stepped h0 g1 h8 hH (fun q s2 t2 T' hq ks tf mv t1 t2' f3 => hk q s2 t2 _ (fin (kpr_x ks) (ks 0 10 rfl rfl) f3 hq (tf_new h7 tf) mv ?_ (fun hx => absurd hx (by decide)) (fun hT => ?_)))
    · refine ⟨by omega, ?_, by omega, fun hx => absurd rfl hx, fun hx => absurd hx (by decide), fun hx => absurd hx (by decide), by omega, fun hx => by omega⟩
      by_cases c : K = 0 ∨ T < 0
      · rw [t1 c]; omega
      · rw [t2' c]; exact vT
    · have e61 : uyB (kd p) K T ↔ ¬ (1 ≤ K ∧ K ≤ 3) := by unfold uyB; rw [if_pos hj]
      rw [e61]
      refine ⟨⟨fun hx => by omega, fun hx => by omega⟩, fun hx _ => ?_⟩
      have := t2' hx
      refine ⟨by omega, ?_, ?_, ?_, fun hy => absurd hy (by decide)⟩
      · unfold uyK; rw [if_neg (by omega)]
      · unfold uyT; rw [if_pos hj]; exact this
      · unfold uyF; rw [if_neg (by omega), if_neg (by omega)]
  · refine mr_read g1 (fun _ sr tr kr hne g1' => ?_)
    have tfr : TFq τ vs tr z := ⟨h7.1, fun w hw m => by
      rw [hne w (fun e => h9 (by rw [← e]; exact hw)) m]
      exact h7.2 w hw m⟩
    have h0r : 0 ≤ (sr 0 12).toInt := by rw [kr 0 12 rfl rfl]; exact h0
    have no48 : kd p ≠ 48 := fun e => c33 (i33.2 e)
    have no61 : kd p ≠ 61 := fun e => c18 (i18.2 e)
    have no62 : kd p ≠ 62 := fun e => c19 (i19.2 e)
    refine ⟨fun c38 => ?_, fun c38 => ?_⟩
    · have no45 : kd p ≠ 45 := fun e => c38 (i38.2 e)
      have hr : kd p = 44 ∨ kd p = 59 ∨ kd p = 60 := by unfold UNq at hun; omega
      refine mr_one (sg := kd p) h0r g1' h8 hr hv vF1 hH (fun q s2 t2 F' X' hq ks tf mv f01 f1 f3 f60 => hk q s2 t2 _ (fin (kpr_tr (kpr_x (kw_x kr)) (kpr_x ks)) ((ks 0 10 rfl rfl).trans (kr 0 10 rfl rfl)) (ft_from (kr 0 12 rfl rfl) (kr 0 15 rfl rfl) f3) hq (tf_new tfr tf) mv ?_ (fun hx => ?_) (fun hT => ?_)))
      · exact ⟨by omega, by omega, by omega, fun hx => absurd rfl hx, fun _ => rfl, fun hx => by omega, by omega, fun hx => by omega⟩
      · obtain ⟨y1, y2⟩ := f1 hx
        refine ⟨y1, ?_, y2⟩
        have := vF1 y1
        unfold onB
        split <;> omega
      · have e59 : onB (kd p) T ↔ uyB (kd p) K T := by
          have eu : uyB (kd p) K T ↔ ivB (kd p) T := by unfold uyB; rw [if_neg (by omega), if_neg no48, if_neg no45]
          rw [eu]
          unfold onB ivB
          split <;> omega
        refine ⟨e59, fun hx hh => ?_⟩
        obtain ⟨y1, y2⟩ := f60 hh
        refine ⟨by decide, ?_, ?_, ?_, y2⟩
        · unfold uyK; rw [if_neg no45]
        · unfold uyT; rw [if_neg (by omega), if_neg no48, if_neg no45]
        · unfold uyF; rw [if_neg no48, if_pos (by omega)]; exact y1
    · have k45 := i38.1 c38
      refine mr_pointedTo h0r g1' h8 vT hH (fun q s2 t2 hq ks tf mv f3 => hk q s2 t2 _ (fin (kpr_tr (kpr_x (kw_x kr)) (kpr_x ks)) ((ks 0 10 rfl rfl).trans (kr 0 10 rfl rfl)) (ft_from (kr 0 12 rfl rfl) (kr 0 15 rfl rfl) f3) hq (tf_new tfr tf) mv ?_ (fun hx => absurd hx (by decide)) (fun hT => ?_)))
      · refine ⟨by omega, ?_, by omega, fun hx => absurd rfl hx, fun hx => absurd hx (by decide), fun hx => absurd hx (by decide), by omega, fun _ => ?_⟩
        · split <;> omega
        · split <;> omega
      · have e45 : uyB (kd p) K T ↔ T < 1 := by
          unfold uyB
          rw [if_neg (by omega), if_neg (by omega), if_pos k45]
        rw [e45]
        refine ⟨Iff.rfl, fun hx hh => ⟨?_, ?_, ?_, ?_, fun hy => absurd hy (by decide)⟩⟩
        · split <;> omega
        · unfold uyK; rw [if_pos k45]
        · unfold uyT; rw [if_pos (show 0 < T by omega), if_neg (by omega), if_neg (by omega), if_pos k45]
        · unfold uyF; rw [if_neg (by omega), if_neg (by omega)]
  · have k48 := i33.1 c33
    refine mr_pointed h0 g1 h8 vK vT hH (fun q s2 t2 T' F' hq ks tf mv t1 t2' f' f3 => hk q s2 t2 _ (fin (kpr_x ks) (ks 0 10 rfl rfl) f3 hq (tf_new h7 tf) mv ?_ (fun hx => ?_) (fun hT => ?_)))
    · refine ⟨by omega, ?_, by omega, fun hx => absurd rfl hx, fun hx => ?_, fun hx => ?_, ?_, fun hx => by omega⟩
      · by_cases c : ptB K T
        · rw [t1 c]; omega
        · rw [t2' c]; unfold ptB at c; omega
      · rw [f'] at hx; split at hx <;> omega
      · by_cases c : ptB K T
        · exact Or.inr (t1 c)
        · have := t2' c
          unfold ptB at c
          exact Or.inl (by omega)
      · rw [f']; split <;> omega
    · rw [f'] at hx; split at hx <;> omega
    · have e48 : uyB (kd p) K T ↔ ¬ (1 ≤ K ∧ K ≤ 3) ∨ 9 ≤ T := by unfold uyB; rw [if_neg (by omega), if_pos k48]
      rw [e48]
      unfold ptB at t1 t2' ⊢
      refine ⟨⟨fun hx => by omega, fun hx => by omega⟩, fun hx hh => ?_⟩
      have := t2' hx
      refine ⟨by omega, ?_, ?_, ?_, fun hy => ?_⟩
      · unfold uyK; rw [if_neg (by omega)]
      · unfold uyT; rw [if_neg (by omega), if_pos k48]; exact this
      · unfold uyF
        rw [if_pos k48, f']
        by_cases c : K = 2
        · rw [if_pos ⟨c, hh⟩, if_pos c]
        · rw [if_neg (fun hy => c hy.1), if_neg c]
      · rw [f'] at hy; split at hy <;> omega
end RUO
end

