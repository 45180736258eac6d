/-! both sides: what an expression leaves -/
/-- types and heights of what there is -/
def TYR (w : St) (S m : Nat) : Prop := (∀ j, j < S → -1 ≤ (w 41 ((w 44 j).toInt.toNat)).toInt ∧ (w 41 ((w 44 j).toInt.toNat)).toInt ≤ 9) ∧ (∀ i, i < m → -1 ≤ (w 26 ((w 5 1).toInt.toNat - m + i)).toInt ∧ (w 26 ((w 5 1).toInt.toNat - m + i)).toInt ≤ 9)
/-- both sides alike within a function or an initial -/
def REq (kd : Nat → Int) (n S m lo : Nat) (w σ : St) : Prop := TKR w σ kd n ∧ LOR w σ kd n S ∧ OUR w σ kd n m lo ∧ (∃ D : Nat, (w 6 5).toInt = (D : Int) ∧ (σ 0 37).toInt = (D : Int) ∧ D ≤ 16000) ∧ TYR w S m
/-- what steps of expressions leave as it is -/
def STe (j : Nat) (a b : St) : Prop := Ko [(4, 1), (6, 3), (6, 4), (7, 7), (6, 5), (5, 9)] [24, 43, 17, 31, 32, 33, 25, 39] a b ∧ LOW j a b
/-- what the reference's expressions leave as it is -/
abbrev KEr (a b : St) : Prop := Kp [(0, 10), (0, 12), (0, 13), (0, 17), (0, 37), (0, 39)] [8, 33, 14, 25, 21] a b
/-- it is bad: told, or, where nothing is told, not known -/
def BDr (σ σ' : St) (F : Int) : Prop := ((σ 0 15).toInt ≤ 0 ∧ (σ' 0 12).toInt ≠ 0) ∨ (0 < (σ 0 15).toInt ∧ F ≠ 1)
/-- the class's walk over l leaves the like of the Value -/
def EXq (kd : Nat → Int) (n S m lo c : Nat) (l : List Stq) (σ σ' : St) (K T H Z F : Int) (X : Int32) : Prop :=
  (σ 0 12).toInt = 0 → ∀ w, REq kd n S m lo w σ → (w 6 3).toInt = 0 → (w 7 7).toInt = (c : Int) → XW l w (fun s => ((s 6 3).toInt ≠ 0 → BDr σ σ' F) ∧ ((s 6 3).toInt = 0 → (σ' 0 12).toInt = 0 ∧ T ≠ -2 ∧ H ≤ 60 ∧ REq kd n S m lo s σ' ∧ STe c w s ∧ (s 7 7).toInt = (c : Int) + 1 ∧ ∃ i, AVq s (65 + c) K T H Z F X i)) (BDr σ σ' F)
/-- a Value as it may be -/
def VRq (K T H Z F : Int) : Prop := (0 ≤ K ∧ K ≤ 3) ∧ (-2 ≤ T ∧ T ≤ 9) ∧ (1 ≤ H) ∧ (Z ≠ 0 → F = 1) ∧ (F = 1 → T = 0) ∧ (F = 2 → 0 < T ∨ T = -2) ∧ (0 ≤ F ∧ F ≤ 2) ∧ (1 ≤ K → T ≠ -1)
section RAT
variable {w σ s r τ t : St} {kd : Nat → Int} {n S m lo u v c p j : Nat} {l l2 : List Stq} {Q Q2 : St → Prop} {B B2 : Prop} {K T H Z F : Int} {X : Int32}
theorem xk_number {p : Nat} (h : ∀ a : Int32, a.toInt = (p : Int) → pk_X2_number a w Q) : XTq (stp 1 p) w Q := fun a e0 e2 e3 => by
  have e1 : (atv 32100 (w 18) a).toInt = 1 := e0
  unfold pk_X2_take
  exact ⟨fun _ => h _ e2, fun h => absurd e1 h⟩
theorem xk_string {p : Nat} (h : ∀ a : Int32, a.toInt = (p : Int) → pk_X2_string a w Q) : XTq (stp 2 p) w Q := fun a e0 e2 e3 => by
  have e1 : (atv 32100 (w 18) a).toInt = 2 := e0
  unfold pk_X2_take
  exact ⟨fun h => absurd (e1.symm.trans h) (by decide), fun _ => ⟨fun _ => h _ e2, fun h => absurd e1 h⟩⟩
theorem xk_named {p : Nat} (h : ∀ a : Int32, a.toInt = (p : Int) → pk_X2_named a w Q) : XTq (stp 3 p) w Q := fun a e0 e2 e3 => by
  have e1 : (atv 32100 (w 18) a).toInt = 3 := e0
  unfold pk_X2_take
  exact ⟨fun h => absurd (e1.symm.trans h) (by decide), fun _ => ⟨fun h => absurd (e1.symm.trans h) (by decide), fun _ => ⟨fun _ => h _ e2, fun h => absurd e1 h⟩⟩⟩
theorem xk_callee {p : Nat} (h : ∀ a : Int32, a.toInt = (p : Int) → pk_X2_callee a w Q) : XTq (stp 4 p) w Q := fun a e0 e2 e3 => by
  have e1 : (atv 32100 (w 18) a).toInt = 4 := e0
  unfold pk_X2_take
  exact ⟨fun h => absurd (e1.symm.trans h) (by decide), fun _ => ⟨fun h => absurd (e1.symm.trans h) (by decide), fun _ => ⟨fun h => absurd (e1.symm.trans h) (by decide), fun _ => ⟨fun _ => h _ e2, fun h => absurd e1 h⟩⟩⟩⟩
theorem xk_argument {p : Nat} (h : pk_X2_argument w Q) : XTq (stp 5 p) w Q := fun a e0 e2 e3 => by
  have e1 : (atv 32100 (w 18) a).toInt = 5 := e0
  unfold pk_X2_take
  exact ⟨fun h => absurd (e1.symm.trans h) (by decide), fun _ => ⟨fun h => absurd (e1.symm.trans h) (by decide), fun _ => ⟨fun h => absurd (e1.symm.trans h) (by decide), fun _ => ⟨fun h => absurd (e1.symm.trans h) (by decide), fun _ => ⟨fun _ => h, fun h => absurd e1 h⟩⟩⟩⟩⟩
theorem xk_call {p : Nat} (h : ∀ a : Int32, a.toInt = (p : Int) → pk_X2_call a w Q) : XTq (stp 6 p) w Q := fun a e0 e2 e3 => by
  have e1 : (atv 32100 (w 18) a).toInt = 6 := e0
  unfold pk_X2_take
  exact ⟨fun h => absurd (e1.symm.trans h) (by decide), fun _ => ⟨fun h => absurd (e1.symm.trans h) (by decide), fun _ => ⟨fun h => absurd (e1.symm.trans h) (by decide), fun _ => ⟨fun h => absurd (e1.symm.trans h) (by decide), fun _ => ⟨fun h => absurd (e1.symm.trans h) (by decide), fun _ => ⟨fun _ => h _ e2, fun h => absurd e1 h⟩⟩⟩⟩⟩⟩
theorem xk_left {p : Nat} (h : ∀ a : Int32, a.toInt = (p : Int) → pk_X2_left a w Q) : XTq (stp 7 p) w Q := fun a e0 e2 e3 => by
  have e1 : (atv 32100 (w 18) a).toInt = 7 := e0
  unfold pk_X2_take
  exact ⟨fun h => absurd (e1.symm.trans h) (by decide), fun _ => ⟨fun h => absurd (e1.symm.trans h) (by decide), fun _ => ⟨fun h => absurd (e1.symm.trans h) (by decide), fun _ => ⟨fun h => absurd (e1.symm.trans h) (by decide), fun _ => ⟨fun h => absurd (e1.symm.trans h) (by decide), fun _ => ⟨fun h => absurd (e1.symm.trans h) (by decide), fun _ => ⟨fun _ => h _ e2, fun h => absurd e1 h⟩⟩⟩⟩⟩⟩⟩
theorem xk_binary {p : Nat} (h : ∀ a : Int32, a.toInt = (p : Int) → pk_X2_binary a w Q) : XTq (stp 8 p) w Q := fun a e0 e2 e3 => by
  have e1 : (atv 32100 (w 18) a).toInt = 8 := e0
  unfold pk_X2_take
  exact ⟨fun h => absurd (e1.symm.trans h) (by decide), fun _ => ⟨fun h => absurd (e1.symm.trans h) (by decide), fun _ => ⟨fun h => absurd (e1.symm.trans h) (by decide), fun _ => ⟨fun h => absurd (e1.symm.trans h) (by decide), fun _ => ⟨fun h => absurd (e1.symm.trans h) (by decide), fun _ => ⟨fun h => absurd (e1.symm.trans h) (by decide), fun _ => ⟨fun h => absurd (e1.symm.trans h) (by decide), fun _ => ⟨fun _ => h _ e2, fun h => absurd e1 h⟩⟩⟩⟩⟩⟩⟩⟩
theorem xk_assign {p : Nat} (h : ∀ a : Int32, a.toInt = (p : Int) → pk_X2_assign a w Q) : XTq (stp 9 p) w Q := fun a e0 e2 e3 => by
  have e1 : (atv 32100 (w 18) a).toInt = 9 := e0
  unfold pk_X2_take
  exact ⟨fun h => absurd (e1.symm.trans h) (by decide), fun _ => ⟨fun h => absurd (e1.symm.trans h) (by decide), fun _ => ⟨fun h => absurd (e1.symm.trans h) (by decide), fun _ => ⟨fun h => absurd (e1.symm.trans h) (by decide), fun _ => ⟨fun h => absurd (e1.symm.trans h) (by decide), fun _ => ⟨fun h => absurd (e1.symm.trans h) (by decide), fun _ => ⟨fun h => absurd (e1.symm.trans h) (by decide), fun _ => ⟨fun h => absurd (e1.symm.trans h) (by decide), fun _ => ⟨fun _ => h _ e2, fun h => absurd e1 h⟩⟩⟩⟩⟩⟩⟩⟩⟩
theorem xk_index {p : Nat} (h : ∀ a : Int32, a.toInt = (p : Int) → pk_X2_index a w Q) : XTq (stp 10 p) w Q := fun a e0 e2 e3 => by
  have e1 : (atv 32100 (w 18) a).toInt = 10 := e0
  unfold pk_X2_take
  exact ⟨fun h => absurd (e1.symm.trans h) (by decide), fun _ => ⟨fun h => absurd (e1.symm.trans h) (by decide), fun _ => ⟨fun h => absurd (e1.symm.trans h) (by decide), fun _ => ⟨fun h => absurd (e1.symm.trans h) (by decide), fun _ => ⟨fun h => absurd (e1.symm.trans h) (by decide), fun _ => ⟨fun h => absurd (e1.symm.trans h) (by decide), fun _ => ⟨fun h => absurd (e1.symm.trans h) (by decide), fun _ => ⟨fun h => absurd (e1.symm.trans h) (by decide), fun _ => ⟨fun h => absurd (e1.symm.trans h) (by decide), fun _ => ⟨fun _ => h _ e2, fun h => absurd e1 h⟩⟩⟩⟩⟩⟩⟩⟩⟩⟩
theorem xk_unary {p : Nat} (h : ∀ a : Int32, a.toInt = (p : Int) → pk_X2_unary a w Q) : XTq (stp 11 p) w Q := fun a e0 e2 e3 => by
  have e1 : (atv 32100 (w 18) a).toInt = 11 := e0
  unfold pk_X2_take
  exact ⟨fun h => absurd (e1.symm.trans h) (by decide), fun _ => ⟨fun h => absurd (e1.symm.trans h) (by decide), fun _ => ⟨fun h => absurd (e1.symm.trans h) (by decide), fun _ => ⟨fun h => absurd (e1.symm.trans h) (by decide), fun _ => ⟨fun h => absurd (e1.symm.trans h) (by decide), fun _ => ⟨fun h => absurd (e1.symm.trans h) (by decide), fun _ => ⟨fun h => absurd (e1.symm.trans h) (by decide), fun _ => ⟨fun h => absurd (e1.symm.trans h) (by decide), fun _ => ⟨fun h => absurd (e1.symm.trans h) (by decide), fun _ => ⟨fun h => absurd (e1.symm.trans h) (by decide), fun _ => ⟨fun _ => h _ e2, fun h => absurd e1 h⟩⟩⟩⟩⟩⟩⟩⟩⟩⟩⟩
theorem xk_cast {p : Nat} {v : Int} (h : ∀ a b : Int32, a.toInt = (p : Int) → b.toInt = v → pk_X2_cast a b w Q) : XTq ((12, p, v, 0)) w Q := fun a e0 e2 e3 => by
  have e1 : (atv 32100 (w 18) a).toInt = 12 := e0
  unfold pk_X2_take
  exact ⟨fun h => absurd (e1.symm.trans h) (by decide), fun _ => ⟨fun h => absurd (e1.symm.trans h) (by decide), fun _ => ⟨fun h => absurd (e1.symm.trans h) (by decide), fun _ => ⟨fun h => absurd (e1.symm.trans h) (by decide), fun _ => ⟨fun h => absurd (e1.symm.trans h) (by decide), fun _ => ⟨fun h => absurd (e1.symm.trans h) (by decide), fun _ => ⟨fun h => absurd (e1.symm.trans h) (by decide), fun _ => ⟨fun h => absurd (e1.symm.trans h) (by decide), fun _ => ⟨fun h => absurd (e1.symm.trans h) (by decide), fun _ => ⟨fun h => absurd (e1.symm.trans h) (by decide), fun _ => ⟨fun h => absurd (e1.symm.trans h) (by decide), fun _ => ⟨fun _ => h _ _ e2 e3, fun h => absurd e1 h⟩⟩⟩⟩⟩⟩⟩⟩⟩⟩⟩⟩
theorem xk_colon {p : Nat} (h : pk_X2_colon w Q) : XTq (stp 15 p) w Q := fun a e0 e2 e3 => by
  have e1 : (atv 32100 (w 18) a).toInt = 15 := e0
  unfold pk_X2_take
  exact ⟨fun h => absurd (e1.symm.trans h) (by decide), fun _ => ⟨fun h => absurd (e1.symm.trans h) (by decide), fun _ => ⟨fun h => absurd (e1.symm.trans h) (by decide), fun _ => ⟨fun h => absurd (e1.symm.trans h) (by decide), fun _ => ⟨fun h => absurd (e1.symm.trans h) (by decide), fun _ => ⟨fun h => absurd (e1.symm.trans h) (by decide), fun _ => ⟨fun h => absurd (e1.symm.trans h) (by decide), fun _ => ⟨fun h => absurd (e1.symm.trans h) (by decide), fun _ => ⟨fun h => absurd (e1.symm.trans h) (by decide), fun _ => ⟨fun h => absurd (e1.symm.trans h) (by decide), fun _ => ⟨fun h => absurd (e1.symm.trans h) (by decide), fun _ => ⟨fun h => absurd (e1.symm.trans h) (by decide), fun _ => ⟨fun h => absurd (e1.symm.trans h) (by decide), fun _ => ⟨fun h => absurd (e1.symm.trans h) (by decide), fun _ => ⟨fun _ => h, fun h => absurd e1 h⟩⟩⟩⟩⟩⟩⟩⟩⟩⟩⟩⟩⟩⟩⟩
theorem xk_choice {p : Nat} (h : ∀ a : Int32, a.toInt = (p : Int) → pk_X2_choice a w Q) : XTq (stp 16 p) w Q := fun a e0 e2 e3 => by
  have e1 : (atv 32100 (w 18) a).toInt = 16 := e0
  unfold pk_X2_take
  exact ⟨fun h => absurd (e1.symm.trans h) (by decide), fun _ => ⟨fun h => absurd (e1.symm.trans h) (by decide), fun _ => ⟨fun h => absurd (e1.symm.trans h) (by decide), fun _ => ⟨fun h => absurd (e1.symm.trans h) (by decide), fun _ => ⟨fun h => absurd (e1.symm.trans h) (by decide), fun _ => ⟨fun h => absurd (e1.symm.trans h) (by decide), fun _ => ⟨fun h => absurd (e1.symm.trans h) (by decide), fun _ => ⟨fun h => absurd (e1.symm.trans h) (by decide), fun _ => ⟨fun h => absurd (e1.symm.trans h) (by decide), fun _ => ⟨fun h => absurd (e1.symm.trans h) (by decide), fun _ => ⟨fun h => absurd (e1.symm.trans h) (by decide), fun _ => ⟨fun h => absurd (e1.symm.trans h) (by decide), fun _ => ⟨fun h => absurd (e1.symm.trans h) (by decide), fun _ => ⟨fun h => absurd (e1.symm.trans h) (by decide), fun _ => ⟨fun h => absurd (e1.symm.trans h) (by decide), fun _ => h _ e2⟩⟩⟩⟩⟩⟩⟩⟩⟩⟩⟩⟩⟩⟩⟩
theorem xk_step {p : Nat} (h : ∀ a : Int32, a.toInt = (p : Int) → pk_X2_top w (fun u => pk_X2_step u a (1 : Int32) w Q)) : XTq (stp 13 p) w Q := fun a e0 e2 e3 => by
  have e1 : (atv 32100 (w 18) a).toInt = 13 := e0
  unfold pk_X2_take
  exact ⟨fun h => absurd (e1.symm.trans h) (by decide), fun _ => ⟨fun h => absurd (e1.symm.trans h) (by decide), fun _ => ⟨fun h => absurd (e1.symm.trans h) (by decide), fun _ => ⟨fun h => absurd (e1.symm.trans h) (by decide), fun _ => ⟨fun h => absurd (e1.symm.trans h) (by decide), fun _ => ⟨fun h => absurd (e1.symm.trans h) (by decide), fun _ => ⟨fun h => absurd (e1.symm.trans h) (by decide), fun _ => ⟨fun h => absurd (e1.symm.trans h) (by decide), fun _ => ⟨fun h => absurd (e1.symm.trans h) (by decide), fun _ => ⟨fun h => absurd (e1.symm.trans h) (by decide), fun _ => ⟨fun h => absurd (e1.symm.trans h) (by decide), fun _ => ⟨fun h => absurd (e1.symm.trans h) (by decide), fun _ => ⟨fun _ => h _ e2, fun h => absurd e1 h⟩⟩⟩⟩⟩⟩⟩⟩⟩⟩⟩⟩⟩
theorem ste_rf : STe j w w := ⟨ko_rf, low_rf⟩
theorem ste_tr (h : STe j w s) (g : STe j s t) : STe j w t := ⟨ko_tr h.1 g.1, low_tr h.2 g.2⟩
theorem ste_le {j2 : Nat} (h : STe j w s) (hj : j2 ≤ j) : STe j2 w s := ⟨h.1, low_le h.2 hj⟩
theorem ste_x (h : STx j w s) : STe j w s := ⟨ko_sub h.1 rfl rfl, h.2⟩
theorem ste_y (h : STy j w s) : STe j w s := ⟨ko_sub h.1 rfl rfl, h.2⟩
theorem ste_s (h : STs j w s) : STe j w s := ⟨ko_sub h.1 rfl rfl, h.2⟩
theorem fl_eq {d : Nat} {b : Int32} (e : s 25 = w 25) : FLq s d b ↔ FLq w d b := by unfold FLq; rw [e]
/-- what is alike stays so -/
theorem re_up {σ' : St} (h : REq kd n S m lo w σ) (hs : STe j w s) (hr : KEr σ σ')
    (h25 : ∀ i, i < m → ((FLq s ((w 5 1).toInt.toNat - m + i) 1 ↔ FLq w ((w 5 1).toInt.toNat - m + i) 1) ∧ (FLq s ((w 5 1).toInt.toNat - m + i) 2 ↔ FLq w ((w 5 1).toInt.toNat - m + i) 2) ∧ (FLq s ((w 5 1).toInt.toNat - m + i) 4 ↔ FLq w ((w 5 1).toInt.toNat - m + i) 4)) ∧ (FLq s ((w 5 1).toInt.toNat - m + i) 8 ↔ (σ' 14 (lo + i)).toInt ≠ 0) ∧ ((s 39 i).toInt < 0 ↔ (σ' 21 i).toInt < 0))
    (hD : ∃ D : Nat, (s 6 5).toInt = (D : Int) ∧ (σ' 0 37).toInt = (D : Int) ∧ D ≤ 16000) : REq kd n S m lo s σ' := by
  obtain ⟨⟨k1, k2, k3, k4, k5, k6⟩, ⟨l1, l2, l3, l4, l5⟩, ⟨o1, o2, o3, o4, o5, o6⟩, hd, y1, y2⟩ := h
  have c1 : s 1 = w 1 := ko_rd hs.1 1 (by omega) rfl (fun _ => rfl)
  have c13 : s 13 = w 13 := ko_rd hs.1 13 (by omega) rfl (fun _ => rfl)
  have c14 : s 14 = w 14 := ko_rd hs.1 14 (by omega) rfl (fun _ => rfl)
  have c15 : s 15 = w 15 := ko_rd hs.1 15 (by omega) rfl (fun _ => rfl)
  have c26 : s 26 = w 26 := ko_rd hs.1 26 (by omega) rfl (fun _ => rfl)
  have c27 : s 27 = w 27 := ko_rd hs.1 27 (by omega) rfl (fun _ => rfl)
  have c28 : s 28 = w 28 := ko_rd hs.1 28 (by omega) rfl (fun _ => rfl)
  have c38 : s 38 = w 38 := ko_rd hs.1 38 (by omega) rfl (fun _ => rfl)
  have c40 : s 40 = w 40 := ko_rd hs.1 40 (by omega) rfl (fun _ => rfl)
  have c41 : s 41 = w 41 := ko_rd hs.1 41 (by omega) rfl (fun _ => rfl)
  have c42 : s 42 = w 42 := ko_rd hs.1 42 (by omega) rfl (fun _ => rfl)
  have c44 : s 44 = w 44 := ko_rd hs.1 44 (by omega) rfl (fun _ => rfl)
  have f1 : s 6 15 = w 6 15 := hs.1 6 15 (op_lt (by omega)) rfl rfl
  have f2 : s 6 7 = w 6 7 := hs.1 6 7 (op_lt (by omega)) rfl rfl
  have f3 : s 5 1 = w 5 1 := hs.1 5 1 (op_lt (by omega)) rfl rfl
  have g : ∀ i, i ≠ 0 → i ≠ 8 → i ≠ 33 → i ≠ 14 → i ≠ 25 → i ≠ 21 → σ' i = σ i := fun i a1 a2 a3 a4 a5 a6 => funext (fun j => hr i j (by
    simp only [List.contains_cons, List.contains_nil, Bool.or_false, Bool.or_eq_false_iff, beq_eq_false_iff_ne, ne_eq, Prod.mk.injEq, not_and]
    omega) (by
    simp only [List.contains_cons, List.contains_nil, Bool.or_false, Bool.or_eq_false_iff, beq_eq_false_iff_ne, ne_eq]
    omega))
  have g1 := g 1 (by decide) (by decide) (by decide) (by decide) (by decide) (by decide)
  have g2 := g 2 (by decide) (by decide) (by decide) (by decide) (by decide) (by decide)
  have g3 := g 3 (by decide) (by decide) (by decide) (by decide) (by decide) (by decide)
  have g4 := g 4 (by decide) (by decide) (by decide) (by decide) (by decide) (by decide)
  have g6 := g 6 (by decide) (by decide) (by decide) (by decide) (by decide) (by decide)
  have g9 := g 9 (by decide) (by decide) (by decide) (by decide) (by decide) (by decide)
  have g10 := g 10 (by decide) (by decide) (by decide) (by decide) (by decide) (by decide)
  have g11 := g 11 (by decide) (by decide) (by decide) (by decide) (by decide) (by decide)
  have g12 := g 12 (by decide) (by decide) (by decide) (by decide) (by decide) (by decide)
  have g13 := g 13 (by decide) (by decide) (by decide) (by decide) (by decide) (by decide)
  have g15 := g 15 (by decide) (by decide) (by decide) (by decide) (by decide) (by decide)
  have g16 := g 16 (by decide) (by decide) (by decide) (by decide) (by decide) (by decide)
  have g17 := g 17 (by decide) (by decide) (by decide) (by decide) (by decide) (by decide)
  have g18 := g 18 (by decide) (by decide) (by decide) (by decide) (by decide) (by decide)
  have g19 := g 19 (by decide) (by decide) (by decide) (by decide) (by decide) (by decide)
  have g20 := g 20 (by decide) (by decide) (by decide) (by decide) (by decide) (by decide)
  have g22 := g 22 (by decide) (by decide) (by decide) (by decide) (by decide) (by decide)
  have g31 := g 31 (by decide) (by decide) (by decide) (by decide) (by decide) (by decide)
  have g32 := g 32 (by decide) (by decide) (by decide) (by decide) (by decide) (by decide)
  have g34 := g 34 (by decide) (by decide) (by decide) (by decide) (by decide) (by decide)
  have g35 := g 35 (by decide) (by decide) (by decide) (by decide) (by decide) (by decide)
  have e35 : σ' 0 35 = σ 0 35 := hr 0 35 rfl rfl
  have e36 : σ' 0 36 = σ 0 36 := hr 0 36 rfl rfl
  have e53 : σ' 0 53 = σ 0 53 := hr 0 53 rfl rfl
  have tn : ∀ u, TNm σ u → TNm σ' u := fun u hu => by
    unfold TNm
    rw [g3, g4]
    exact hu
  refine ⟨⟨rtk_k hr (fun _ => rfl) rfl k1, ?_, ?_, ?_, ?_, ?_⟩, ⟨?_, ?_, l3, ?_, ?_⟩, ⟨?_, o2, ?_, ?_, ?_, ?_⟩, hD, ?_, ?_⟩
  · rw [c13]; exact k2
  · rw [c1, g1]; exact k3
  · rw [c15, c14, g3, g4]
    exact fun p hp hk => ⟨(k4 p hp hk).1, (k4 p hp hk).2.1, tn p (k4 p hp hk).2.2⟩
  · rw [c14, g6]; exact k5
  · rw [c14, g6]; exact k6
  · rw [f1]; exact l1
  · rw [e53]; exact l2
  · rw [c44, c40, g34, g35]
    have em : ∀ j, mtk σ' j = mtk σ j := fun j => by unfold mtk; rw [g34]
    intro j hj
    rw [em]
    exact l4 j hj
  · rw [c44, c41, c42, g31, g32]; exact l5
  · rw [f2]; exact o1
  · rw [f3]; exact o3
  · rw [f3, show s 5 7 = w 5 7 from hs.1 5 7 (op_lt (by omega)) rfl rfl, show σ' 0 31 = σ 0 31 from hr 0 31 rfl rfl]; exact o4
  · unfold EOKm
    rw [e35, e36, g22, g18, g19, show σ' 0 31 = σ 0 31 from hr 0 31 rfl rfl]
    exact o5
  · intro i hi
    rw [f3]
    obtain ⟨q1, q2, q3, q4, q5, q5b, q6, q7, q8, q9⟩ := o6 i hi
    obtain ⟨⟨r1, r1b, r1c⟩, r2, r3⟩ := h25 i hi
    have eo : otk s i = otk w i := by unfold otk; rw [c38]
    unfold ORR NSm
    rw [eo, c38, c26, c27, c28, g1, g3, g4, g9, g10, g11, g12, g13, g15, g16, g17, g18, g19, g20, r1, r1b, r1c]
    exact ⟨q1, q2, q3, q4, q5, q5b, q6, r2, q8, q9.1, r3, q9.2.2⟩ -- the rest of what is declared
  · rw [c41, c44]; exact y1
  · rw [c26, f3]; exact y2
theorem x25 (h : STx j w s) : s 25 = w 25 := ko_rd h.1 25 (by omega) rfl (fun _ => rfl)
theorem s25 (h : STs j w s) : s 25 = w 25 := ko_rd h.1 25 (by omega) rfl (fun _ => rfl)
theorem x39 (h : STx j w s) : s 39 = w 39 := ko_rd h.1 39 (by omega) rfl (fun _ => rfl)
theorem s39 (h : STs j w s) : s 39 = w 39 := ko_rd h.1 39 (by omega) rfl (fun _ => rfl)
theorem x65 (h : STx j w s) : s 6 5 = w 6 5 := h.1 6 5 (op_lt (by omega)) rfl rfl
theorem y65 (h : STy j w s) : s 6 5 = w 6 5 := h.1 6 5 (op_lt (by omega)) rfl rfl
/-- the reference goes on without a fault, a name or a string -/
def KPr (a b : St) : Prop := KEr a b ∧ b 14 = a 14 ∧ b 0 37 = a 0 37 ∧ b 21 = a 21
theorem re_same {σ' : St} (h : REq kd n S m lo w σ) (hs : STe j w s) (hr : KPr σ σ') (e25 : s 25 = w 25) (e39 : s 39 = w 39) (e65 : s 6 5 = w 6 5) : REq kd n S m lo s σ' := by
  refine re_up h hs hr.1 (fun i hi => ⟨⟨fl_eq e25, fl_eq e25, fl_eq e25⟩, (fl_eq e25).trans ?_, ?_⟩) ?_
  · rw [hr.2.1]
    obtain ⟨_, _, _, _, _, _, _, q8, _⟩ := h.2.2.1.2.2.2.2.2 i hi
    exact q8
  · rw [e39, hr.2.2.2]
    obtain ⟨_, _, _, _, _, _, _, _, _, _, q9⟩ := h.2.2.1.2.2.2.2.2 i hi
    exact q9.1
  · rw [e65, hr.2.2.1]
    exact h.2.2.2.1
theorem re_xk {σ' : St} (h : REq kd n S m lo w σ) (ks : STx j w s) (hr : KPr σ σ') : REq kd n S m lo s σ' := re_same h (ste_x ks) hr (x25 ks) (x39 ks) (x65 ks)
theorem re_x (h : REq kd n S m lo w σ) (ks : STx j w s) : REq kd n S m lo s σ := re_xk h ks ⟨kp_rf, rfl, rfl, rfl⟩
end RAT
