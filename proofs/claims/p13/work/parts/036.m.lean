abbrev KTE : Type := (Int32 → St → St → List Nat → (Nat → St → St → List Nat → Prop) → (St → St → List Nat → Prop) → Prop) × (Int32 → St → St → List Nat → (Nat → St → St → List Nat → Prop) → (St → St → List Nat → Prop) → Prop) × (Int32 → Int32 → St → St → List Nat → (Nat → St → St → List Nat → Prop) → (St → St → List Nat → Prop) → Prop) × (Int32 → Nat → Int32 → Int32 → St → St → List Nat → (Nat → St → St → List Nat → Prop) → (St → St → List Nat → Prop) → Prop) × (Int32 → St → St → List Nat → (Nat → St → St → List Nat → Prop) → (St → St → List Nat → Prop) → Prop) × (Int32 → St → St → List Nat → (Nat → St → St → List Nat → Prop) → (St → St → List Nat → Prop) → Prop) × (Int32 → St → St → List Nat → (Nat → St → St → List Nat → Prop) → (St → St → List Nat → Prop) → Prop) × (Int32 → Int32 → St → St → List Nat → (Nat → St → St → List Nat → Prop) → (St → St → List Nat → Prop) → Prop)
def KKE : Nat → KTE
  | 0 => (fun _ _ _ _ _ _ => False, fun _ _ _ _ _ _ => False, fun _ _ _ _ _ _ _ => False, fun _ _ _ _ _ _ _ _ _ => False, fun _ _ _ _ _ _ => False, fun _ _ _ _ _ _ => False, fun _ _ _ _ _ _ => False, fun _ _ _ _ _ _ _ => False)
  | n + 1 => (wp_expression ((KKE n).1) ((KKE n).2.1) ((KKE n).2.2.1) ((KKE n).2.2.2.1) ((KKE n).2.2.2.2.1) ((KKE n).2.2.2.2.2.1) ((KKE n).2.2.2.2.2.2.1) ((KKE n).2.2.2.2.2.2.2), wp_choice ((KKE n).1) ((KKE n).2.1) ((KKE n).2.2.1) ((KKE n).2.2.2.1) ((KKE n).2.2.2.2.1) ((KKE n).2.2.2.2.2.1) ((KKE n).2.2.2.2.2.2.1) ((KKE n).2.2.2.2.2.2.2), wp_binary ((KKE n).1) ((KKE n).2.1) ((KKE n).2.2.1) ((KKE n).2.2.2.1) ((KKE n).2.2.2.2.1) ((KKE n).2.2.2.2.2.1) ((KKE n).2.2.2.2.2.2.1) ((KKE n).2.2.2.2.2.2.2), wp_decided ((KKE n).1) ((KKE n).2.1) ((KKE n).2.2.1) ((KKE n).2.2.2.1) ((KKE n).2.2.2.2.1) ((KKE n).2.2.2.2.2.1) ((KKE n).2.2.2.2.2.2.1) ((KKE n).2.2.2.2.2.2.2), wp_unary ((KKE n).1) ((KKE n).2.1) ((KKE n).2.2.1) ((KKE n).2.2.2.1) ((KKE n).2.2.2.2.1) ((KKE n).2.2.2.2.2.1) ((KKE n).2.2.2.2.2.2.1) ((KKE n).2.2.2.2.2.2.2), wp_behind ((KKE n).1) ((KKE n).2.1) ((KKE n).2.2.1) ((KKE n).2.2.2.1) ((KKE n).2.2.2.2.1) ((KKE n).2.2.2.2.2.1) ((KKE n).2.2.2.2.2.2.1) ((KKE n).2.2.2.2.2.2.2), wp_primary ((KKE n).1) ((KKE n).2.1) ((KKE n).2.2.1) ((KKE n).2.2.2.1) ((KKE n).2.2.2.2.1) ((KKE n).2.2.2.2.2.1) ((KKE n).2.2.2.2.2.2.1) ((KKE n).2.2.2.2.2.2.2), wp_call_0 ((KKE n).1) ((KKE n).2.1) ((KKE n).2.2.1) ((KKE n).2.2.2.1) ((KKE n).2.2.2.2.1) ((KKE n).2.2.2.2.2.1) ((KKE n).2.2.2.2.2.2.1) ((KKE n).2.2.2.2.2.2.2))
set_option maxHeartbeats 4000000 in
theorem ckE (a : Nat → Nat) (r : Nat → Nat) (n : Nat) : (∀ {a1 : Int32} {σ τ : St} {vs : List Nat} {Q : Nat → St → St → List Nat → Prop} {T : St → St → List Nat → Prop}, vs.length ≤ CAP → (KKE n).1 a1 σ τ vs Q T → ∀ (l : Launch) (D : va_G) (cy : Nat → ClassId), Ct l D cy SM r (EM a) y_X14_expression (Cond.code y_X14_expression b_X14_expression 12 (some (.object "LinkedUnitsModel$Value"))) (4 + n) [.ref (r 0), .int a1] σ τ vs (QAs Q) T) ∧ (∀ {a1 : Int32} {σ τ : St} {vs : List Nat} {Q : Nat → St → St → List Nat → Prop} {T : St → St → List Nat → Prop}, vs.length ≤ CAP → (KKE n).2.1 a1 σ τ vs Q T → ∀ (l : Launch) (D : va_G) (cy : Nat → ClassId), Ct l D cy SM r (EM a) y_X14_choice (Cond.code y_X14_choice b_X14_choice 12 (some (.object "LinkedUnitsModel$Value"))) (4 + n) [.ref (r 0), .int a1] σ τ vs (QAs Q) T) ∧ (∀ {a1 : Int32} {a2 : Int32} {σ τ : St} {vs : List Nat} {Q : Nat → St → St → List Nat → Prop} {T : St → St → List Nat → Prop}, vs.length ≤ CAP → (KKE n).2.2.1 a1 a2 σ τ vs Q T → ∀ (l : Launch) (D : va_G) (cy : Nat → ClassId), Ct l D cy SM r (EM a) y_X14_binary (Cond.code y_X14_binary b_X14_binary 7 (some (.object "LinkedUnitsModel$Value"))) (4 + n) [.ref (r 0), .int a1, .int a2] σ τ vs (QAs Q) T) ∧ (∀ {a1 : Int32} {a2 : Nat} {a3 : Int32} {a4 : Int32} {σ τ : St} {vs : List Nat} {Q : Nat → St → St → List Nat → Prop} {T : St → St → List Nat → Prop}, vs.length ≤ CAP → (KKE n).2.2.2.1 a1 a2 a3 a4 σ τ vs Q T → ∀ (l : Launch) (D : va_G) (cy : Nat → ClassId), Ct l D cy SM r (EM a) y_X14_decided (Cond.code y_X14_decided b_X14_decided 8 (some (.object "LinkedUnitsModel$Value"))) (4 + n) [.ref (r 0), .int a1, .ref a2, .int a3, .int a4] σ τ vs (QAs Q) T) ∧ (∀ {a1 : Int32} {σ τ : St} {vs : List Nat} {Q : Nat → St → St → List Nat → Prop} {T : St → St → List Nat → Prop}, vs.length ≤ CAP → (KKE n).2.2.2.2.1 a1 σ τ vs Q T → ∀ (l : Launch) (D : va_G) (cy : Nat → ClassId), Ct l D cy SM r (EM a) y_X14_unary (Cond.code y_X14_unary b_X14_unary 7 (some (.object "LinkedUnitsModel$Value"))) (4 + n) [.ref (r 0), .int a1] σ τ vs (QAs Q) T) ∧ (∀ {a1 : Int32} {σ τ : St} {vs : List Nat} {Q : Nat → St → St → List Nat → Prop} {T : St → St → List Nat → Prop}, vs.length ≤ CAP → (KKE n).2.2.2.2.2.1 a1 σ τ vs Q T → ∀ (l : Launch) (D : va_G) (cy : Nat → ClassId), Ct l D cy SM r (EM a) y_X14_behind (Cond.code y_X14_behind b_X14_behind 7 (some (.object "LinkedUnitsModel$Value"))) (4 + n) [.ref (r 0), .int a1] σ τ vs (QAs Q) T) ∧ (∀ {a1 : Int32} {σ τ : St} {vs : List Nat} {Q : Nat → St → St → List Nat → Prop} {T : St → St → List Nat → Prop}, vs.length ≤ CAP → (KKE n).2.2.2.2.2.2.1 a1 σ τ vs Q T → ∀ (l : Launch) (D : va_G) (cy : Nat → ClassId), Ct l D cy SM r (EM a) y_X14_primary (Cond.code y_X14_primary b_X14_primary 5 (some (.object "LinkedUnitsModel$Value"))) (4 + n) [.ref (r 0), .int a1] σ τ vs (QAs Q) T) ∧ (∀ {a1 : Int32} {a2 : Int32} {σ τ : St} {vs : List Nat} {Q : Nat → St → St → List Nat → Prop} {T : St → St → List Nat → Prop}, vs.length ≤ CAP → (KKE n).2.2.2.2.2.2.2 a1 a2 σ τ vs Q T → ∀ (l : Launch) (D : va_G) (cy : Nat → ClassId), Ct l D cy SM r (EM a) y_X14_call_0 (Cond.code y_X14_call_0 b_X14_call_0 10 (some (.object "LinkedUnitsModel$Value"))) (4 + n) [.ref (r 0), .int a1, .int a2] σ τ vs (QAs Q) T) := by
  induction n with
  | zero => exact ⟨fun _ h => h.elim, fun _ h => h.elim, fun _ h => h.elim, fun _ h => h.elim, fun _ h => h.elim, fun _ h => h.elim, fun _ h => h.elim, fun _ h => h.elim⟩
  | succ n ih =>
    obtain ⟨hexpression, hchoice, hbinary, hdecided, hunary, hbehind, hprimary, hcall_0⟩ := ih
    exact ⟨fun hc w => ct_expression a r (4 + n) (Nat.le_trans (Nat.le_of_ble_eq_true rfl) (Nat.le_add_right _ n)) ((KKE n).1) ((KKE n).2.1) ((KKE n).2.2.1) ((KKE n).2.2.2.1) ((KKE n).2.2.2.2.1) ((KKE n).2.2.2.2.2.1) ((KKE n).2.2.2.2.2.2.1) ((KKE n).2.2.2.2.2.2.2) hexpression hchoice hc w, fun hc w => ct_choice a r (4 + n) (Nat.le_trans (Nat.le_of_ble_eq_true rfl) (Nat.le_add_right _ n)) ((KKE n).1) ((KKE n).2.1) ((KKE n).2.2.1) ((KKE n).2.2.2.1) ((KKE n).2.2.2.2.1) ((KKE n).2.2.2.2.2.1) ((KKE n).2.2.2.2.2.2.1) ((KKE n).2.2.2.2.2.2.2) hexpression hchoice hbinary hc w, fun hc w => ct_binary a r (4 + n) (Nat.le_trans (Nat.le_of_ble_eq_true rfl) (Nat.le_add_right _ n)) ((KKE n).1) ((KKE n).2.1) ((KKE n).2.2.1) ((KKE n).2.2.2.1) ((KKE n).2.2.2.2.1) ((KKE n).2.2.2.2.2.1) ((KKE n).2.2.2.2.2.2.1) ((KKE n).2.2.2.2.2.2.2) hbinary hdecided hunary hc w, fun hc w => ct_decided a r (4 + n) (Nat.le_trans (Nat.le_of_ble_eq_true rfl) (Nat.le_add_right _ n)) ((KKE n).1) ((KKE n).2.1) ((KKE n).2.2.1) ((KKE n).2.2.2.1) ((KKE n).2.2.2.2.1) ((KKE n).2.2.2.2.2.1) ((KKE n).2.2.2.2.2.2.1) ((KKE n).2.2.2.2.2.2.2) hbinary hc w, fun hc w => ct_unary a r (4 + n) (Nat.le_trans (Nat.le_of_ble_eq_true rfl) (Nat.le_add_right _ n)) ((KKE n).1) ((KKE n).2.1) ((KKE n).2.2.1) ((KKE n).2.2.2.1) ((KKE n).2.2.2.2.1) ((KKE n).2.2.2.2.2.1) ((KKE n).2.2.2.2.2.2.1) ((KKE n).2.2.2.2.2.2.2) hunary hbehind hc w, fun hc w => ct_behind a r (4 + n) (Nat.le_trans (Nat.le_of_ble_eq_true rfl) (Nat.le_add_right _ n)) ((KKE n).1) ((KKE n).2.1) ((KKE n).2.2.1) ((KKE n).2.2.2.1) ((KKE n).2.2.2.2.1) ((KKE n).2.2.2.2.2.1) ((KKE n).2.2.2.2.2.2.1) ((KKE n).2.2.2.2.2.2.2) hexpression hprimary hc w, fun hc w => ct_primary a r (4 + n) (Nat.le_trans (Nat.le_of_ble_eq_true rfl) (Nat.le_add_right _ n)) ((KKE n).1) ((KKE n).2.1) ((KKE n).2.2.1) ((KKE n).2.2.2.1) ((KKE n).2.2.2.2.1) ((KKE n).2.2.2.2.2.1) ((KKE n).2.2.2.2.2.2.1) ((KKE n).2.2.2.2.2.2.2) hexpression hcall_0 hc w, fun hc w => ct_call_0 a r (4 + n) (Nat.le_trans (Nat.le_of_ble_eq_true rfl) (Nat.le_add_right _ n)) ((KKE n).1) ((KKE n).2.1) ((KKE n).2.2.1) ((KKE n).2.2.2.1) ((KKE n).2.2.2.2.1) ((KKE n).2.2.2.2.2.1) ((KKE n).2.2.2.2.2.2.1) ((KKE n).2.2.2.2.2.2.2) hexpression hc w⟩
def wpE_expression : Int32 → St → St → List Nat → (Nat → St → St → List Nat → Prop) → (St → St → List Nat → Prop) → Prop := (KKE 1100).1
theorem ctE_expression (a : Nat → Nat) (r : Nat → Nat) {a1 : Int32} {σ τ : St} {vs : List Nat} {Q : Nat → St → St → List Nat → Prop} {T : St → St → List Nat → Prop} (hcap : vs.length ≤ CAP) (w : wpE_expression a1 σ τ vs Q T) (l : Launch) (D : va_G) (cy : Nat → ClassId) : Ct l D cy SM r (EM a) y_X14_expression (Cond.code y_X14_expression b_X14_expression 12 (some (.object "LinkedUnitsModel$Value"))) 1104 [.ref (r 0), .int a1] σ τ vs (QAs Q) T := (ckE a r 1100).1 hcap w l D cy
def wpE_choice : Int32 → St → St → List Nat → (Nat → St → St → List Nat → Prop) → (St → St → List Nat → Prop) → Prop := (KKE 1100).2.1
theorem ctE_choice (a : Nat → Nat) (r : Nat → Nat) {a1 : Int32} {σ τ : St} {vs : List Nat} {Q : Nat → St → St → List Nat → Prop} {T : St → St → List Nat → Prop} (hcap : vs.length ≤ CAP) (w : wpE_choice a1 σ τ vs Q T) (l : Launch) (D : va_G) (cy : Nat → ClassId) : Ct l D cy SM r (EM a) y_X14_choice (Cond.code y_X14_choice b_X14_choice 12 (some (.object "LinkedUnitsModel$Value"))) 1104 [.ref (r 0), .int a1] σ τ vs (QAs Q) T := (ckE a r 1100).2.1 hcap w l D cy
def wpE_binary : Int32 → Int32 → St → St → List Nat → (Nat → St → St → List Nat → Prop) → (St → St → List Nat → Prop) → Prop := (KKE 1100).2.2.1
theorem ctE_binary (a : Nat → Nat) (r : Nat → Nat) {a1 : Int32} {a2 : Int32} {σ τ : St} {vs : List Nat} {Q : Nat → St → St → List Nat → Prop} {T : St → St → List Nat → Prop} (hcap : vs.length ≤ CAP) (w : wpE_binary a1 a2 σ τ vs Q T) (l : Launch) (D : va_G) (cy : Nat → ClassId) : Ct l D cy SM r (EM a) y_X14_binary (Cond.code y_X14_binary b_X14_binary 7 (some (.object "LinkedUnitsModel$Value"))) 1104 [.ref (r 0), .int a1, .int a2] σ τ vs (QAs Q) T := (ckE a r 1100).2.2.1 hcap w l D cy
def wpE_decided : Int32 → Nat → Int32 → Int32 → St → St → List Nat → (Nat → St → St → List Nat → Prop) → (St → St → List Nat → Prop) → Prop := (KKE 1100).2.2.2.1
theorem ctE_decided (a : Nat → Nat) (r : Nat → Nat) {a1 : Int32} {a2 : Nat} {a3 : Int32} {a4 : Int32} {σ τ : St} {vs : List Nat} {Q : Nat → St → St → List Nat → Prop} {T : St → St → List Nat → Prop} (hcap : vs.length ≤ CAP) (w : wpE_decided a1 a2 a3 a4 σ τ vs Q T) (l : Launch) (D : va_G) (cy : Nat → ClassId) : Ct l D cy SM r (EM a) y_X14_decided (Cond.code y_X14_decided b_X14_decided 8 (some (.object "LinkedUnitsModel$Value"))) 1104 [.ref (r 0), .int a1, .ref a2, .int a3, .int a4] σ τ vs (QAs Q) T := (ckE a r 1100).2.2.2.1 hcap w l D cy
def wpE_unary : Int32 → St → St → List Nat → (Nat → St → St → List Nat → Prop) → (St → St → List Nat → Prop) → Prop := (KKE 1100).2.2.2.2.1
theorem ctE_unary (a : Nat → Nat) (r : Nat → Nat) {a1 : Int32} {σ τ : St} {vs : List Nat} {Q : Nat → St → St → List Nat → Prop} {T : St → St → List Nat → Prop} (hcap : vs.length ≤ CAP) (w : wpE_unary a1 σ τ vs Q T) (l : Launch) (D : va_G) (cy : Nat → ClassId) : Ct l D cy SM r (EM a) y_X14_unary (Cond.code y_X14_unary b_X14_unary 7 (some (.object "LinkedUnitsModel$Value"))) 1104 [.ref (r 0), .int a1] σ τ vs (QAs Q) T := (ckE a r 1100).2.2.2.2.1 hcap w l D cy
def wpE_behind : Int32 → St → St → List Nat → (Nat → St → St → List Nat → Prop) → (St → St → List Nat → Prop) → Prop := (KKE 1100).2.2.2.2.2.1
theorem ctE_behind (a : Nat → Nat) (r : Nat → Nat) {a1 : Int32} {σ τ : St} {vs : List Nat} {Q : Nat → St → St → List Nat → Prop} {T : St → St → List Nat → Prop} (hcap : vs.length ≤ CAP) (w : wpE_behind a1 σ τ vs Q T) (l : Launch) (D : va_G) (cy : Nat → ClassId) : Ct l D cy SM r (EM a) y_X14_behind (Cond.code y_X14_behind b_X14_behind 7 (some (.object "LinkedUnitsModel$Value"))) 1104 [.ref (r 0), .int a1] σ τ vs (QAs Q) T := (ckE a r 1100).2.2.2.2.2.1 hcap w l D cy
def wpE_primary : Int32 → St → St → List Nat → (Nat → St → St → List Nat → Prop) → (St → St → List Nat → Prop) → Prop := (KKE 1100).2.2.2.2.2.2.1
theorem ctE_primary (a : Nat → Nat) (r : Nat → Nat) {a1 : Int32} {σ τ : St} {vs : List Nat} {Q : Nat → St → St → List Nat → Prop} {T : St → St → List Nat → Prop} (hcap : vs.length ≤ CAP) (w : wpE_primary a1 σ τ vs Q T) (l : Launch) (D : va_G) (cy : Nat → ClassId) : Ct l D cy SM r (EM a) y_X14_primary (Cond.code y_X14_primary b_X14_primary 5 (some (.object "LinkedUnitsModel$Value"))) 1104 [.ref (r 0), .int a1] σ τ vs (QAs Q) T := (ckE a r 1100).2.2.2.2.2.2.1 hcap w l D cy
def wpE_call_0 : Int32 → Int32 → St → St → List Nat → (Nat → St → St → List Nat → Prop) → (St → St → List Nat → Prop) → Prop := (KKE 1100).2.2.2.2.2.2.2
theorem ctE_call_0 (a : Nat → Nat) (r : Nat → Nat) {a1 : Int32} {a2 : Int32} {σ τ : St} {vs : List Nat} {Q : Nat → St → St → List Nat → Prop} {T : St → St → List Nat → Prop} (hcap : vs.length ≤ CAP) (w : wpE_call_0 a1 a2 σ τ vs Q T) (l : Launch) (D : va_G) (cy : Nat → ClassId) : Ct l D cy SM r (EM a) y_X14_call_0 (Cond.code y_X14_call_0 b_X14_call_0 10 (some (.object "LinkedUnitsModel$Value"))) 1104 [.ref (r 0), .int a1, .int a2] σ τ vs (QAs Q) T := (ckE a r 1100).2.2.2.2.2.2.2 hcap w l D cy
def wp_sizeAt (σ τ : St) (vs : List Nat) (Q : Int32 → St → St → List Nat → Prop) (T : St → St → List Nat → Prop) : Prop :=
  wpE_expression (1 : Int32) (upC σ 0 15 ((σ 0 15) + (1 : Int32))) τ vs (fun u17 s17 t17 z17 => (u17 ∈ z17 ∧ ((t17 u17 6).toInt ≠ 1 → Q ((-1) : Int32) (upC (upC s17 0 15 ((s17 0 15) - (1 : Int32))) 0 17 (σ 0 17)) t17 z17) ∧ ((t17 u17 6).toInt = 1 → wp_isInt u17 (upC (upC s17 0 15 ((s17 0 15) - (1 : Int32))) 0 17 (σ 0 17)) t17 z17 (fun v45 => (v45.toInt = 0 → Q ((-1) : Int32) (upC (upC s17 0 15 ((s17 0 15) - (1 : Int32))) 0 17 (σ 0 17)) t17 z17) ∧ (v45.toInt ≠ 0 → ((t17 u17 7).toInt < 1 → Q ((-1) : Int32) (upC (upC s17 0 15 ((s17 0 15) - (1 : Int32))) 0 17 (σ 0 17)) t17 z17) ∧ (1 ≤ (t17 u17 7).toInt → Q (t17 u17 7) (upC (upC s17 0 15 ((s17 0 15) - (1 : Int32))) 0 17 (σ 0 17)) t17 z17)))))) T
set_option maxHeartbeats 4000000 in
set_option maxRecDepth 100000 in
theorem ct_sizeAt (a : Nat → Nat) (r : Nat → Nat) {σ τ : St} {vs : List Nat} {Q : Int32 → St → St → List Nat → Prop} {T : St → St → List Nat → Prop} (hcap : vs.length ≤ CAP) (w : wp_sizeAt  σ τ vs Q T) (l : Launch) (D : va_G) (cy : Nat → ClassId) : Ct l D cy SM r (EM a) y_X14_sizeAt (Cond.code y_X14_sizeAt b_X14_sizeAt 3 (some .int)) 1105 [.ref (r 0)] σ τ vs (QIs Q) T := by
  unfold wp_sizeAt at w
  refine Ct_of (EM_ok a) (by decide) (Nat.le_of_ble_eq_true rfl) hcap (fun X hnn hF => ?_)
  show G SM r X σ τ vs [(0, .ref (r 0))] [] 0
  refine g_aload_n hF d_X14_sizeAt_0 rfl 0 rfl ?_
  refine g_dup hF d_X14_sizeAt_1 rfl ?_
  refine g_get (v := .int (σ 0 15)) hF 15 obM_0 (by decide) m_1880 rfl d_X14_sizeAt_2 ?_
  refine g_iconst hF (v := 1) d_X14_sizeAt_5 (by decide) ?_
  refine g_iadd hF d_X14_sizeAt_6 ?_
  refine g_put (v := ((σ 0 15) + (1 : Int32))) hF 15 obM_0 (by decide) m_1880 rfl rfl rfl d_X14_sizeAt_7 ?_
  refine g_aload_n hF d_X14_sizeAt_10 rfl 0 rfl ?_
  refine g_get (v := .int (σ 0 17)) hF 17 obM_0 (by decide) m_1882 rfl d_X14_sizeAt_11 ?_
  refine g_istore_n hF [(1, .int (σ 0 17)), (0, .ref (r 0))] d_X14_sizeAt_14 rfl hnn (by decide) rfl ?_
  refine g_aload_n hF d_X14_sizeAt_15 rfl 1 rfl ?_
  refine g_iconst hF (v := 1) d_X14_sizeAt_16 (by decide) ?_
  refine g_callV (As := [.int 1]) (rest := []) hF (fun l D cy => (ctE_expression a r hcap w) l D cy) (Nat.le_of_ble_eq_true rfl) mV_X14_expression m_2361 (recv_ob obM_0) rfl rfl (Nat.le_of_ble_eq_true rfl) d_X14_sizeAt_17 (kA (fun u17 s17 t17 z17 w1 => ?_)) (fun σ9 τ9 vs9 h9 => g_out hF stopM rfl h9)
  refine g_astore_n hF [(2, .ref u17), (1, .int (σ 0 17)), (0, .ref (r 0))] d_X14_sizeAt_20 rfl hnn (by decide) rfl ?_
  refine g_aload_n hF d_X14_sizeAt_21 rfl 2 rfl ?_
  refine g_dup hF d_X14_sizeAt_22 rfl ?_
  refine g_get (v := .int (s17 0 15)) hF 15 obM_0 (by decide) m_1880 rfl d_X14_sizeAt_23 ?_
  refine g_iconst hF (v := 1) d_X14_sizeAt_26 (by decide) ?_
  refine g_isub hF d_X14_sizeAt_27 ?_
  refine g_put (v := ((s17 0 15) - (1 : Int32))) hF 15 obM_0 (by decide) m_1880 rfl rfl rfl d_X14_sizeAt_28 ?_
  refine g_aload_n hF d_X14_sizeAt_31 rfl 2 rfl ?_
  refine g_iload_n hF d_X14_sizeAt_32 rfl 1 rfl ?_
  refine g_put (v := (σ 0 17)) hF 17 obM_0 (by decide) m_1882 rfl rfl rfl d_X14_sizeAt_33 ?_
  refine g_aload_n hF d_X14_sizeAt_36 rfl 0 rfl ?_
  obtain ⟨hm1, w2⟩ := w1
  refine g_vget hF 6 hm1 clsVC (by decide) m_2408 d_X14_sizeAt_37 ?_
  refine g_top (v := (t17 u17 6)) rfl ?_
  refine g_iconst hF (v := 1) d_X14_sizeAt_40 (by decide) ?_
  refine g_icmp_ne (yv := 1) hF 66 d_X14_sizeAt_41 (by decide) rfl (by decide) (fun c => ?_) (fun c => ?_)
  · have w3 := w2.1 c
    refine g_iconst hF (v := (-1)) d_X14_sizeAt_66 (by decide) ?_
    exact g_iret hF rfl d_X14_sizeAt_67 ⟨((-1) : Int32), rfl, w3⟩
  · have w4 := w2.2 c
    refine g_aload_n hF d_X14_sizeAt_44 rfl 0 rfl ?_
    refine g_cap (fun hc4 => ?_)
    refine g_callS (As := [.ref u17]) (rest := []) hF (fun l D cy => (ct_isInt a r hc4 w4) l D cy) (Nat.le_of_ble_eq_true rfl) mS_X14_isInt m_2471 rfl rfl (Nat.le_of_ble_eq_true rfl) d_X14_sizeAt_45 (krZ (fun v45 hz45 w6 => ?_)) (fun _ _ _ h => h.elim)
    refine g_if_eq hF 66 d_X14_sizeAt_48 (by decide) rfl (fun c => ?_) (fun c => ?_)
    · have w7 := w6.1 c
      refine g_iconst hF (v := (-1)) d_X14_sizeAt_66 (by decide) ?_
      exact g_iret hF rfl d_X14_sizeAt_67 ⟨((-1) : Int32), rfl, w7⟩
    · have w8 := w6.2 c
      refine g_aload_n hF d_X14_sizeAt_51 rfl 0 rfl ?_
      refine g_vget hF 7 hm1 clsVC (by decide) m_2410 d_X14_sizeAt_52 ?_
      refine g_top (v := (t17 u17 7)) rfl ?_
      refine g_iconst hF (v := 1) d_X14_sizeAt_55 (by decide) ?_
      refine g_icmp_lt (yv := 1) hF 66 d_X14_sizeAt_56 (by decide) rfl (by decide) (fun c => ?_) (fun c => ?_)
      · have w9 := w8.1 c
        refine g_iconst hF (v := (-1)) d_X14_sizeAt_66 (by decide) ?_
        exact g_iret hF rfl d_X14_sizeAt_67 ⟨((-1) : Int32), rfl, w9⟩
      · have w10 := w8.2 c
        refine g_aload_n hF d_X14_sizeAt_59 rfl 0 rfl ?_
        refine g_vget hF 7 hm1 clsVC (by decide) m_2410 d_X14_sizeAt_60 ?_
        refine g_top (v := (t17 u17 7)) rfl ?_
        refine g_goto hF 67 d_X14_sizeAt_63 (by decide) ?_
        exact g_iret hF rfl d_X14_sizeAt_67 ⟨(t17 u17 7), rfl, w10⟩
def wp_one_1 (a1 : Int32) (a2 : Int32) (a3 : Int32) (a4 : Int32) (σ τ : St) (vs : List Nat) (Q : Int32 → St → St → List Nat → Prop) (T : St → St → List Nat → Prop) : Prop :=
  wpE_expression (1 : Int32) σ τ vs (fun u8 s8 t8 z8 => wp_read_1 u8 s8 t8 z8 (fun s16 t16 z16 => (a4.toInt ≠ 0 → (∃ J108 : St → St → List Nat → Prop, (∀ (s108 t108 : St) (z108 : List Nat), J108 s108 t108 z108 → ((∃ J127 : St → St → List Nat → Prop, (∀ (s127 t127 : St) (z127 : List Nat), J127 s127 t127 z127 → (wp_fits u8 a1 s127 t127 z127 (fun v130 => Q v130 s127 t127 z127))) ∧ (a3.toInt < 0 → J127 s108 t108 z108) ∧ (0 ≤ a3.toInt → ((0 ≤ a3.toInt ∧ a3.toInt < 100) ∧ (0 ≤ (s108 32 a3.toNatClampNeg).toInt → J127 s108 t108 z108) ∧ ((s108 32 a3.toNatClampNeg).toInt < 0 → wp_put_0 (10 : Int32) s108 t108 z108 (fun s124 t124 z124 => J127 s124 t124 z124))))))) ∧ (a3.toInt < 0 → J108 s16 t16 z16) ∧ (0 ≤ a3.toInt → ((0 ≤ a3.toInt ∧ a3.toInt < 100) ∧ (0 ≤ (s16 32 a3.toNatClampNeg).toInt → J108 s16 t16 z16) ∧ ((s16 32 a3.toNatClampNeg).toInt < 0 → wp_put_1 (7 : Int32) a3 s16 t16 z16 (fun s105 t105 z105 => J108 s105 t105 z105)))))) ∧ (a4.toInt = 0 → wp_isInitial u8 a1 (upC s16 0 17 (σ 0 17)) t16 z16 (fun v34 => (∃ J80 : St → St → List Nat → Prop, (∀ (s80 t80 : St) (z80 : List Nat), J80 s80 t80 z80 → (wp_isInitial u8 a1 s80 t80 z80 (fun v84 => Q v84 s80 t80 z80))) ∧ (v34.toInt = 0 → J80 (upC s16 0 17 (σ 0 17)) t16 z16) ∧ (v34.toInt ≠ 0 → (u8 ∈ z16 ∧ (∃ J59 : Int32 → Prop, (∀ (y2_59 : Int32), J59 y2_59 → ((∃ J77 : Int32 → Prop, (∀ (y3_77 : Int32), J77 y3_77 → (wp_init a2 y2_59 y3_77 (upC s16 0 17 (σ 0 17)) t16 z16 (fun s77 t77 z77 => J80 s77 t77 z77))) ∧ ((t16 u8 6).toInt ≠ 2 → J77 (0 : Int32)) ∧ ((t16 u8 6).toInt = 2 → J77 (t16 u8 8))))) ∧ ((t16 u8 5).toInt = 0 → J59 (t16 u8 7)) ∧ ((t16 u8 5).toInt ≠ 0 → J59 (0 : Int32)))))))))) T
set_option maxHeartbeats 4000000 in
set_option maxRecDepth 100000 in
theorem ct_one_1 (a : Nat → Nat) (r : Nat → Nat) {a1 : Int32} {a2 : Int32} {a3 : Int32} {a4 : Int32} {σ τ : St} {vs : List Nat} {Q : Int32 → St → St → List Nat → Prop} {T : St → St → List Nat → Prop} (hcap : vs.length ≤ CAP) (w : wp_one_1 a1 a2 a3 a4 σ τ vs Q T) (l : Launch) (D : va_G) (cy : Nat → ClassId) : Ct l D cy SM r (EM a) y_X14_one_1 (Cond.code y_X14_one_1 b_X14_one_1 7 (some .boolean)) 1105 [.ref (r 0), .int a1, .int a2, .int a3, .int a4] σ τ vs (QZs Q) T := by
  unfold wp_one_1 at w
  refine Ct_of (EM_ok a) (by decide) (Nat.le_of_ble_eq_true rfl) hcap (fun X hnn hF => ?_)
  show G SM r X σ τ vs [(0, .ref (r 0)), (1, .int a1), (2, .int a2), (3, .int a3), (4, .int a4)] [] 0
  refine g_aload_n hF d_X14_one_1_0 rfl 0 rfl ?_
  refine g_get (v := .int (σ 0 17)) hF 17 obM_0 (by decide) m_1882 rfl d_X14_one_1_1 ?_
  refine g_istore hF [(5, .int (σ 0 17)), (0, .ref (r 0)), (1, .int a1), (2, .int a2), (3, .int a3), (4, .int a4)] d_X14_one_1_4 hnn (by decide) rfl ?_
  refine g_aload_n hF d_X14_one_1_6 rfl 1 rfl ?_
  refine g_iconst hF (v := 1) d_X14_one_1_7 (by decide) ?_
  refine g_callV (As := [.int 1]) (rest := []) hF (fun l D cy => (ctE_expression a r hcap w) l D cy) (Nat.le_of_ble_eq_true rfl) mV_X14_expression m_2361 (recv_ob obM_0) rfl rfl (Nat.le_of_ble_eq_true rfl) d_X14_one_1_8 (kA (fun u8 s8 t8 z8 w1 => ?_)) (fun σ9 τ9 vs9 h9 => g_out hF stopM rfl h9)
  refine g_astore hF [(6, .ref u8), (5, .int (σ 0 17)), (0, .ref (r 0)), (1, .int a1), (2, .int a2), (3, .int a3), (4, .int a4)] d_X14_one_1_11 hnn (by decide) rfl ?_
  refine g_aload_n hF d_X14_one_1_13 rfl 2 rfl ?_
  refine g_aload hF d_X14_one_1_14 0 rfl ?_
  refine g_cap (fun hc1 => ?_)
  refine g_callV (As := [.ref u8]) (rest := []) hF (fun l D cy => (ct_read_1 a r hc1 w1) l D cy) (Nat.le_of_ble_eq_true rfl) mV_X14_read_1 m_2453 (recv_ob obM_0) rfl rfl (Nat.le_of_ble_eq_true rfl) d_X14_one_1_16 (kV (fun s16 t16 z16 w3 => ?_)) (fun _ _ _ h => h.elim)
  refine g_iload hF d_X14_one_1_19 6 rfl ?_
  refine g_if_ne hF 88 d_X14_one_1_21 (by decide) rfl (fun c => ?_) (fun c => ?_)
  · have w4 := w3.1 c
    refine g_iload_n hF d_X14_one_1_88 rfl 5 rfl ?_
    obtain ⟨J108, h108, w5⟩ := w4
    have b108 : ∀ (s108 t108 : St) (z108 : List Nat), J108 s108 t108 z108 → G SM r X s108 t108 z108 [(0, .ref (r 0)), (1, .int a1), (3, .int a3), (6, .ref u8)] [] 108 := by
      intro s108 t108 z108  w108_
      have w108_ := h108 s108 t108 z108  w108_
      refine g_iload_n hF d_X14_one_1_108 rfl 2 rfl ?_
      obtain ⟨J127, h127, w6⟩ := w108_
      have b127 : ∀ (s127 t127 : St) (z127 : List Nat), J127 s127 t127 z127 → G SM r X s127 t127 z127 [(1, .int a1), (6, .ref u8)] [] 127 := by
        intro s127 t127 z127  w127_
        have w127_ := h127 s127 t127 z127  w127_
        refine g_aload hF d_X14_one_1_127 1 rfl ?_
        refine g_iload_n hF d_X14_one_1_129 rfl 0 rfl ?_
        refine g_cap (fun hc6 => ?_)
        refine g_callS (As := [.ref u8, .int a1]) (rest := []) hF (fun l D cy => (ct_fits a r hc6 w127_) l D cy) (Nat.le_of_ble_eq_true rfl) mS_X14_fits m_2506 rfl rfl (Nat.le_of_ble_eq_true rfl) d_X14_one_1_130 (krZ (fun v130 hz130 w8 => ?_)) (fun _ _ _ h => h.elim)
        exact g_zret hF rfl (k_nz hz130) d_X14_one_1_133 ⟨v130, rfl, hz130, w8⟩
      refine g_if_lt hF 127 d_X14_one_1_109 (by decide) rfl (fun c => ?_) (fun c => ?_)
      · have w9 := w6.1 c
        exact g_sub (L' := [(1, .int a1), (6, .ref u8)]) [1, 3] rfl (b127 s108 t108 z108 w9)
      · have w10 := w6.2 c
        refine g_aload_n hF d_X14_one_1_112 rfl 0 rfl ?_
        refine g_get (v := .ref (r 32)) hF 47 obM_0 (by decide) m_1912 rfl d_X14_one_1_113 ?_
        refine g_iload_n hF d_X14_one_1_116 rfl 2 rfl ?_
        have w11 := w10.2
        refine g_iald hF arM_32 (s_in (Nat.le_of_ble_eq_true rfl) w10.1.1 w10.1.2) d_X14_one_1_117 ?_
        refine g_top (v := (s108 32 a3.toNatClampNeg)) rfl ?_
        refine g_if_ge hF 127 d_X14_one_1_118 (by decide) rfl (fun c => ?_) (fun c => ?_)
        · have w12 := w11.1 c
          exact g_sub (L' := [(1, .int a1), (6, .ref u8)]) [1, 3] rfl (b127 s108 t108 z108 w12)
        · have w13 := w11.2 c
          refine g_aload_n hF d_X14_one_1_121 rfl 0 rfl ?_
          refine g_bipush hF (v := 10) d_X14_one_1_122 (by decide) ?_
          refine g_cap (fun hc13 => ?_)
          refine g_callV (As := [.int 10]) (rest := []) hF (fun l D cy => (ct_put_0 a r hc13 w13) l D cy) (Nat.le_of_ble_eq_true rfl) mV_X14_put_0 m_2437 (recv_ob obM_0) rfl rfl (Nat.le_of_ble_eq_true rfl) d_X14_one_1_124 (kV (fun s124 t124 z124 w15 => ?_)) (fun _ _ _ h => h.elim)
          exact g_sub (L' := [(1, .int a1), (6, .ref u8)]) [1, 3] rfl (b127 s124 t124 z124 w15)
    refine g_if_lt hF 108 d_X14_one_1_89 (by decide) rfl (fun c => ?_) (fun c => ?_)
    · have w16 := w5.1 c
      exact g_sub (L' := [(0, .ref (r 0)), (1, .int a1), (3, .int a3), (6, .ref u8)]) [2, 3, 5, 0] rfl (b108 s16 t16 z16 w16)
    · have w17 := w5.2 c
      refine g_aload_n hF d_X14_one_1_92 rfl 2 rfl ?_
      refine g_get (v := .ref (r 32)) hF 47 obM_0 (by decide) m_1912 rfl d_X14_one_1_93 ?_
      refine g_iload_n hF d_X14_one_1_96 rfl 5 rfl ?_
      have w18 := w17.2
      refine g_iald hF arM_32 (s_in (Nat.le_of_ble_eq_true rfl) w17.1.1 w17.1.2) d_X14_one_1_97 ?_
      refine g_top (v := (s16 32 a3.toNatClampNeg)) rfl ?_
      refine g_if_ge hF 108 d_X14_one_1_98 (by decide) rfl (fun c => ?_) (fun c => ?_)
      · have w19 := w18.1 c
        exact g_sub (L' := [(0, .ref (r 0)), (1, .int a1), (3, .int a3), (6, .ref u8)]) [2, 3, 5, 0] rfl (b108 s16 t16 z16 w19)
      · have w20 := w18.2 c
        refine g_aload_n hF d_X14_one_1_101 rfl 2 rfl ?_
        refine g_bipush hF (v := 7) d_X14_one_1_102 (by decide) ?_
        refine g_iload_n hF d_X14_one_1_104 rfl 5 rfl ?_
        refine g_cap (fun hc20 => ?_)
        refine g_callV (As := [.int 7, .int a3]) (rest := []) hF (fun l D cy => (ct_put_1 a r hc20 w20) l D cy) (Nat.le_of_ble_eq_true rfl) mV_X14_put_1 m_2433 (recv_ob obM_0) rfl rfl (Nat.le_of_ble_eq_true rfl) d_X14_one_1_105 (kV (fun s105 t105 z105 w22 => ?_)) (fun _ _ _ h => h.elim)
        exact g_sub (L' := [(0, .ref (r 0)), (1, .int a1), (3, .int a3), (6, .ref u8)]) [2, 3, 5, 0] rfl (b108 s105 t105 z105 w22)
  · have w23 := w3.2 c
    refine g_aload_n hF d_X14_one_1_24 rfl 2 rfl ?_
    refine g_iload hF d_X14_one_1_25 1 rfl ?_
    refine g_put (v := (σ 0 17)) hF 17 obM_0 (by decide) m_1882 rfl rfl rfl d_X14_one_1_27 ?_
    refine g_aload_n hF d_X14_one_1_30 rfl 2 rfl ?_
    refine g_aload hF d_X14_one_1_31 0 rfl ?_
    refine g_iload_n hF d_X14_one_1_33 rfl 3 rfl ?_
    refine g_cap (fun hc23 => ?_)
    refine g_callV (As := [.ref u8, .int a1]) (rest := []) hF (fun l D cy => (ct_isInitial a r hc23 w23) l D cy) (Nat.le_of_ble_eq_true rfl) mV_X14_isInitial m_2580 (recv_ob obM_0) rfl rfl (Nat.le_of_ble_eq_true rfl) d_X14_one_1_34 (krZ (fun v34 hz34 w25 => ?_)) (fun _ _ _ h => h.elim)
    obtain ⟨J80, h80, w26⟩ := w25
    have b80 : ∀ (s80 t80 : St) (z80 : List Nat), J80 s80 t80 z80 → G SM r X s80 t80 z80 [(0, .ref (r 0)), (1, .int a1), (6, .ref u8)] [] 80 := by
      intro s80 t80 z80  w80_
      have w80_ := h80 s80 t80 z80  w80_
      refine g_aload_n hF d_X14_one_1_80 rfl 0 rfl ?_
      refine g_aload hF d_X14_one_1_81 2 rfl ?_
      refine g_iload_n hF d_X14_one_1_83 rfl 1 rfl ?_
      refine g_cap (fun hc26 => ?_)
      refine g_callV (As := [.ref u8, .int a1]) (rest := []) hF (fun l D cy => (ct_isInitial a r hc26 w80_) l D cy) (Nat.le_of_ble_eq_true rfl) mV_X14_isInitial m_2580 (recv_ob obM_0) rfl rfl (Nat.le_of_ble_eq_true rfl) d_X14_one_1_84 (krZ (fun v84 hz84 w28 => ?_)) (fun _ _ _ h => h.elim)
      exact g_zret hF rfl (k_nz hz84) d_X14_one_1_87 ⟨v84, rfl, hz84, w28⟩
    refine g_if_eq hF 80 d_X14_one_1_37 (by decide) rfl (fun c => ?_) (fun c => ?_)
    · have w29 := w26.1 c
      exact g_sub (L' := [(0, .ref (r 0)), (1, .int a1), (6, .ref u8)]) [2, 3, 0] rfl (b80 (upC s16 0 17 (σ 0 17)) t16 z16 w29)
    · have w30 := w26.2 c
      refine g_aload_n hF d_X14_one_1_40 rfl 2 rfl ?_
      refine g_iload_n hF d_X14_one_1_41 rfl 4 rfl ?_
      refine g_aload hF d_X14_one_1_42 0 rfl ?_
      obtain ⟨hm30, w31⟩ := w30
      refine g_vget hF 5 hm30 clsVC (by decide) m_2406 d_X14_one_1_44 ?_
      refine g_top (v := (t16 u8 5)) rfl ?_
      obtain ⟨J59, h59, w32⟩ := w31
      have b59 : ∀ (y2_59 : Int32), J59 y2_59 → G SM r X (upC s16 0 17 (σ 0 17)) t16 z16 [(0, .ref (r 0)), (1, .int a1), (6, .ref u8)] [.int y2_59, .int a2, .ref (r 0)] 59 := by
        intro y2_59  w59_
        have w59_ := h59 y2_59  w59_
        refine g_aload hF d_X14_one_1_59 2 rfl ?_
        refine g_vget hF 6 hm30 clsVC (by decide) m_2408 d_X14_one_1_61 ?_
        refine g_top (v := (t16 u8 6)) rfl ?_
        refine g_iconst hF (v := 2) d_X14_one_1_64 (by decide) ?_
        obtain ⟨J77, h77, w33⟩ := w59_
        have b77 : ∀ (y3_77 : Int32), J77 y3_77 → G SM r X (upC s16 0 17 (σ 0 17)) t16 z16 [(0, .ref (r 0)), (1, .int a1), (6, .ref u8)] [.int y3_77, .int y2_59, .int a2, .ref (r 0)] 77 := by
          intro y3_77  w77_
          have w77_ := h77 y3_77  w77_
          refine g_callV (As := [.int a2, .int y2_59, .int y3_77]) (rest := []) hF (fun l D cy => (ct_init a r hc23 w77_) l D cy) (Nat.le_of_ble_eq_true rfl) mV_X14_init m_2494 (recv_ob obM_0) rfl rfl (Nat.le_of_ble_eq_true rfl) d_X14_one_1_77 (kV (fun s77 t77 z77 w34 => ?_)) (fun _ _ _ h => h.elim)
          exact b80 s77 t77 z77 w34
        refine g_icmp_ne (yv := 2) hF 76 d_X14_one_1_65 (by decide) rfl (by decide) (fun c => ?_) (fun c => ?_)
        · have w35 := w33.1 c
          refine g_iconst hF (v := 0) d_X14_one_1_76 (by decide) ?_
          exact b77 (0 : Int32) w35
        · have w36 := w33.2 c
          refine g_aload hF d_X14_one_1_68 2 rfl ?_
          refine g_vget hF 8 hm30 clsVC (by decide) m_2412 d_X14_one_1_70 ?_
          refine g_top (v := (t16 u8 8)) rfl ?_
          refine g_goto hF 77 d_X14_one_1_73 (by decide) ?_
          exact b77 (t16 u8 8) w36
      refine g_if_eq hF 54 d_X14_one_1_47 (by decide) rfl (fun c => ?_) (fun c => ?_)
      · have w37 := w32.1 c
        refine g_aload hF d_X14_one_1_54 0 rfl ?_
        refine g_vget hF 7 hm30 clsVC (by decide) m_2410 d_X14_one_1_56 ?_
        refine g_top (v := (t16 u8 7)) rfl ?_
        exact g_sub (L' := [(0, .ref (r 0)), (1, .int a1), (6, .ref u8)]) [2, 3, 0] rfl (b59 (t16 u8 7) w37)
      · have w38 := w32.2 c
        refine g_iconst hF (v := 0) d_X14_one_1_50 (by decide) ?_
        refine g_goto hF 59 d_X14_one_1_51 (by decide) ?_
        exact g_sub (L' := [(0, .ref (r 0)), (1, .int a1), (6, .ref u8)]) [2, 3, 0] rfl (b59 (0 : Int32) w38)
def wp_condition (a1 : Int32) (σ τ : St) (vs : List Nat) (Q : St → St → List Nat → Prop) (T : St → St → List Nat → Prop) : Prop :=
  wp_expect (20 : Int32) σ τ vs (fun s3 t3 z3 => wpE_expression (1 : Int32) s3 t3 z3 (fun u8 s8 t8 z8 => wp_read_1 u8 s8 t8 z8 (fun s14 t14 z14 => wp_expect (21 : Int32) s14 t14 z14 (fun s20 t20 z20 => wp_isAny u8 s20 t20 z20 (fun v25 => wp_must v25 a1 s20 t20 z20 (fun s29 t29 z29 => Q s29 t29 z29))) T)) T) T
set_option maxHeartbeats 4000000 in
set_option maxRecDepth 100000 in
theorem ct_condition (a : Nat → Nat) (r : Nat → Nat) {a1 : Int32} {σ τ : St} {vs : List Nat} {Q : St → St → List Nat → Prop} {T : St → St → List Nat → Prop} (hcap : vs.length ≤ CAP) (w : wp_condition a1 σ τ vs Q T) (l : Launch) (D : va_G) (cy : Nat → ClassId) : Ct l D cy SM r (EM a) y_X14_condition (Cond.code y_X14_condition b_X14_condition 3 none) 1105 [.ref (r 0), .int a1] σ τ vs (QVs Q) T := by
  unfold wp_condition at w
  refine Ct_of (EM_ok a) (by decide) (Nat.le_of_ble_eq_true rfl) hcap (fun X hnn hF => ?_)
  show G SM r X σ τ vs [(0, .ref (r 0)), (1, .int a1)] [] 0
  refine g_aload_n hF d_X14_condition_0 rfl 0 rfl ?_
  refine g_bipush hF (v := 20) d_X14_condition_1 (by decide) ?_
  refine g_callV (As := [.int 20]) (rest := []) hF (fun l D cy => (ct_expect a r hcap w) l D cy) (Nat.le_of_ble_eq_true rfl) mV_X14_expect m_2285 (recv_ob obM_0) rfl rfl (Nat.le_of_ble_eq_true rfl) d_X14_condition_3 (kV (fun s3 t3 z3 w1 => ?_)) (fun σ9 τ9 vs9 h9 => g_out hF stopM rfl h9)
  refine g_aload_n hF d_X14_condition_6 rfl 0 rfl ?_
  refine g_iconst hF (v := 1) d_X14_condition_7 (by decide) ?_
  refine g_cap (fun hc1 => ?_)
  refine g_callV (As := [.int 1]) (rest := []) hF (fun l D cy => (ctE_expression a r hc1 w1) l D cy) (Nat.le_of_ble_eq_true rfl) mV_X14_expression m_2361 (recv_ob obM_0) rfl rfl (Nat.le_of_ble_eq_true rfl) d_X14_condition_8 (kA (fun u8 s8 t8 z8 w3 => ?_)) (fun σ9 τ9 vs9 h9 => g_out hF stopM rfl h9)
  refine g_astore_n hF [(2, .ref u8), (0, .ref (r 0)), (1, .int a1)] d_X14_condition_11 rfl hnn (by decide) rfl ?_
  refine g_aload_n hF d_X14_condition_12 rfl 1 rfl ?_
  refine g_aload_n hF d_X14_condition_13 rfl 0 rfl ?_
  refine g_cap (fun hc3 => ?_)
  refine g_callV (As := [.ref u8]) (rest := []) hF (fun l D cy => (ct_read_1 a r hc3 w3) l D cy) (Nat.le_of_ble_eq_true rfl) mV_X14_read_1 m_2453 (recv_ob obM_0) rfl rfl (Nat.le_of_ble_eq_true rfl) d_X14_condition_14 (kV (fun s14 t14 z14 w5 => ?_)) (fun _ _ _ h => h.elim)
  refine g_aload_n hF d_X14_condition_17 rfl 1 rfl ?_
  refine g_bipush hF (v := 21) d_X14_condition_18 (by decide) ?_
  refine g_cap (fun hc5 => ?_)
  refine g_callV (As := [.int 21]) (rest := []) hF (fun l D cy => (ct_expect a r hc5 w5) l D cy) (Nat.le_of_ble_eq_true rfl) mV_X14_expect m_2285 (recv_ob obM_0) rfl rfl (Nat.le_of_ble_eq_true rfl) d_X14_condition_20 (kV (fun s20 t20 z20 w7 => ?_)) (fun σ9 τ9 vs9 h9 => g_out hF stopM rfl h9)
  refine g_aload_n hF d_X14_condition_23 rfl 1 rfl ?_
  refine g_aload_n hF d_X14_condition_24 rfl 0 rfl ?_
  refine g_cap (fun hc7 => ?_)
  refine g_callS (As := [.ref u8]) (rest := [.ref (r 0)]) hF (fun l D cy => (ct_isAny a r hc7 w7) l D cy) (Nat.le_of_ble_eq_true rfl) mS_X14_isAny m_2468 rfl rfl (Nat.le_of_ble_eq_true rfl) d_X14_condition_25 (krZ (fun v25 hz25 w9 => ?_)) (fun _ _ _ h => h.elim)
  refine g_iload_n hF d_X14_condition_28 rfl 2 rfl ?_
  refine g_callV (As := [.int v25, .int a1]) (rest := []) hF (fun l D cy => (ct_must a r hc7 w9) l D cy) (Nat.le_of_ble_eq_true rfl) mV_X14_must m_2313 (recv_ob obM_0) rfl rfl (Nat.le_of_ble_eq_true rfl) d_X14_condition_29 (kV (fun s29 t29 z29 w10 => ?_)) (fun _ _ _ h => h.elim)
  exact g_vret hF rfl d_X14_condition_32 ⟨rfl, w10⟩
def wp_doStatement (Kstatement : Int32 → St → St → List Nat → (St → St → List Nat → Prop) → (St → St → List Nat → Prop) → Prop) (Kinner : Int32 → St → St → List Nat → (St → St → List Nat → Prop) → (St → St → List Nat → Prop) → Prop) (Kblock : Int32 → St → St → List Nat → (St → St → List Nat → Prop) → (St → St → List Nat → Prop) → Prop) (Kloop : Int32 → Int32 → Int32 → St → St → List Nat → (St → St → List Nat → Prop) → (St → St → List Nat → Prop) → Prop) (KdoStatement : Int32 → Int32 → St → St → List Nat → (St → St → List Nat → Prop) → (St → St → List Nat → Prop) → Prop) (KforStatement : Int32 → Int32 → St → St → List Nat → (St → St → List Nat → Prop) → (St → St → List Nat → Prop) → Prop) (a1 : Int32) (a2 : Int32) (σ τ : St) (vs : List Nat) (Q : St → St → List Nat → Prop) (T : St → St → List Nat → Prop) : Prop :=
  Kloop a1 a2 ((-1) : Int32) (upC σ 0 10 ((σ 0 10) + (1 : Int32))) τ vs (fun s19 t19 z19 => wp_isWord (11 : Int32) (upC s19 0 58 (s19 0 60)) t19 z19 (fun v39 => (v39.toInt ≠ 0 → wp_condition (s19 0 10) (upC (upC s19 0 58 (s19 0 60)) 0 10 ((s19 0 10) + (1 : Int32))) t19 z19 (fun s69 t69 z69 => wp_expect (27 : Int32) s69 t69 z69 (fun s75 t75 z75 => wp_put_1 (17 : Int32) (σ 0 17) s75 t75 z75 (fun s82 t82 z82 => wp_aimAll (s19 0 58) (s82 0 17) s82 t82 z82 (fun s92 t92 z92 => Q s92 t92 z92))) T) T) ∧ (v39.toInt = 0 → wp_wrong (upC s19 0 58 (s19 0 60)) t19 z19 (fun s46 t46 z46 => T s46 t46 z46)))) T
set_option maxHeartbeats 4000000 in
set_option maxRecDepth 100000 in
theorem ct_doStatement (a : Nat → Nat) (r : Nat → Nat) (dK : Nat) (hdK : 1106 ≤ dK) (Kstatement : Int32 → St → St → List Nat → (St → St → List Nat → Prop) → (St → St → List Nat → Prop) → Prop) (Kinner : Int32 → St → St → List Nat → (St → St → List Nat → Prop) → (St → St → List Nat → Prop) → Prop) (Kblock : Int32 → St → St → List Nat → (St → St → List Nat → Prop) → (St → St → List Nat → Prop) → Prop) (Kloop : Int32 → Int32 → Int32 → St → St → List Nat → (St → St → List Nat → Prop) → (St → St → List Nat → Prop) → Prop) (KdoStatement : Int32 → Int32 → St → St → List Nat → (St → St → List Nat → Prop) → (St → St → List Nat → Prop) → Prop) (KforStatement : Int32 → Int32 → St → St → List Nat → (St → St → List Nat → Prop) → (St → St → List Nat → Prop) → Prop) (hKloop : ∀ {a1 : Int32} {a2 : Int32} {a3 : Int32} {σ τ : St} {vs : List Nat} {Q : St → St → List Nat → Prop} {T : St → St → List Nat → Prop}, vs.length ≤ CAP → Kloop a1 a2 a3 σ τ vs Q T → ∀ (l : Launch) (D : va_G) (cy : Nat → ClassId), Ct l D cy SM r (EM a) y_X14_loop (Cond.code y_X14_loop b_X14_loop 6 none) dK [.ref (r 0), .int a1, .int a2, .int a3] σ τ vs (QVs Q) T) {a1 : Int32} {a2 : Int32} {σ τ : St} {vs : List Nat} {Q : St → St → List Nat → Prop} {T : St → St → List Nat → Prop} (hcap : vs.length ≤ CAP) (w : wp_doStatement Kstatement Kinner Kblock Kloop KdoStatement KforStatement a1 a2 σ τ vs Q T) (l : Launch) (D : va_G) (cy : Nat → ClassId) : Ct l D cy SM r (EM a) y_X14_doStatement (Cond.code y_X14_doStatement b_X14_doStatement 6 none) (dK + 1) [.ref (r 0), .int a1, .int a2] σ τ vs (QVs Q) T := by
  unfold wp_doStatement at w
  refine Ct_of (EM_ok a) (by decide) (Nat.le_of_ble_eq_true rfl) hcap (fun X hnn hF => ?_)
  show G SM r X σ τ vs [(0, .ref (r 0)), (1, .int a1), (2, .int a2)] [] 0
  refine g_aload_n hF d_X14_doStatement_0 rfl 0 rfl ?_
  refine g_dup hF d_X14_doStatement_1 rfl ?_
  refine g_get (v := .int (σ 0 10)) hF 10 obM_0 (by decide) m_1875 rfl d_X14_doStatement_2 ?_
  refine g_iconst hF (v := 1) d_X14_doStatement_5 (by decide) ?_
  refine g_iadd hF d_X14_doStatement_6 ?_
  refine g_put (v := ((σ 0 10) + (1 : Int32))) hF 10 obM_0 (by decide) m_1875 rfl rfl rfl d_X14_doStatement_7 ?_
  refine g_aload_n hF d_X14_doStatement_10 rfl 0 rfl ?_
  refine g_get (v := .int (σ 0 17)) hF 17 obM_0 (by decide) m_1882 rfl d_X14_doStatement_11 ?_
  refine g_istore_n hF [(3, .int (σ 0 17)), (0, .ref (r 0)), (1, .int a1), (2, .int a2)] d_X14_doStatement_14 rfl hnn (by decide) rfl ?_
  refine g_aload_n hF d_X14_doStatement_15 rfl 1 rfl ?_
  refine g_iload_n hF d_X14_doStatement_16 rfl 2 rfl ?_
  refine g_iload_n hF d_X14_doStatement_17 rfl 3 rfl ?_
  refine g_iconst hF (v := (-1)) d_X14_doStatement_18 (by decide) ?_
  refine g_callV (As := [.int a1, .int a2, .int (-1)]) (rest := []) hF (fun l D cy => (hKloop hcap w) l D cy) (Nat.le_refl _) mV_X14_loop m_2600 (recv_ob obM_0) rfl rfl (Nat.le_of_ble_eq_true rfl) d_X14_doStatement_19 (kV (fun s19 t19 z19 w1 => ?_)) (fun σ9 τ9 vs9 h9 => g_out hF stopM rfl h9)
  refine g_aload_n hF d_X14_doStatement_22 rfl 1 rfl ?_
  refine g_get (v := .int (s19 0 58)) hF 58 obM_0 (by decide) m_1923 rfl d_X14_doStatement_23 ?_
  refine g_istore hF [(4, .int (s19 0 58)), (3, .int (σ 0 17)), (0, .ref (r 0)), (1, .int a1), (2, .int a2)] d_X14_doStatement_26 hnn (by decide) rfl ?_
  refine g_aload_n hF d_X14_doStatement_28 rfl 2 rfl ?_
  refine g_aload_n hF d_X14_doStatement_29 rfl 2 rfl ?_
  refine g_get (v := .int (s19 0 60)) hF 60 obM_0 (by decide) m_1925 rfl d_X14_doStatement_30 ?_
  refine g_put (v := (s19 0 60)) hF 58 obM_0 (by decide) m_1923 rfl rfl rfl d_X14_doStatement_33 ?_
  refine g_aload_n hF d_X14_doStatement_36 rfl 2 rfl ?_
  refine g_bipush hF (v := 11) d_X14_doStatement_37 (by decide) ?_
  refine g_cap (fun hc1 => ?_)
  refine g_callV (As := [.int 11]) (rest := []) hF (fun l D cy => (ct_isWord a r hc1 w1) l D cy) (Nat.add_le_add_right (Nat.le_trans (Nat.le_of_ble_eq_true rfl) hdK) 1) mV_X14_isWord m_2273 (recv_ob obM_0) rfl rfl (Nat.le_of_ble_eq_true rfl) d_X14_doStatement_39 (krZ (fun v39 hz39 w3 => ?_)) (fun _ _ _ h => h.elim)
  refine g_if_ne hF 50 d_X14_doStatement_42 (by decide) rfl (fun c => ?_) (fun c => ?_)
  · have w4 := w3.1 c
    refine g_aload_n hF d_X14_doStatement_50 rfl 2 rfl ?_
    refine g_get (v := .int (s19 0 10)) hF 10 obM_0 (by decide) m_1875 rfl d_X14_doStatement_51 ?_
    refine g_istore hF [(5, .int (s19 0 10)), (4, .int (s19 0 58)), (3, .int (σ 0 17)), (0, .ref (r 0)), (1, .int a1), (2, .int a2)] d_X14_doStatement_54 hnn (by decide) rfl ?_
    refine g_aload_n hF d_X14_doStatement_56 rfl 3 rfl ?_
    refine g_dup hF d_X14_doStatement_57 rfl ?_
    refine g_get (v := .int (s19 0 10)) hF 10 obM_0 (by decide) m_1875 rfl d_X14_doStatement_58 ?_
    refine g_iconst hF (v := 1) d_X14_doStatement_61 (by decide) ?_
    refine g_iadd hF d_X14_doStatement_62 ?_
    refine g_put (v := ((s19 0 10) + (1 : Int32))) hF 10 obM_0 (by decide) m_1875 rfl rfl rfl d_X14_doStatement_63 ?_
    refine g_aload_n hF d_X14_doStatement_66 rfl 3 rfl ?_
    refine g_iload hF d_X14_doStatement_67 0 rfl ?_
    refine g_callV (As := [.int (s19 0 10)]) (rest := []) hF (fun l D cy => (ct_condition a r hc1 w4) l D cy) (Nat.add_le_add_right (Nat.le_trans (Nat.le_of_ble_eq_true rfl) hdK) 1) mV_X14_condition m_2588 (recv_ob obM_0) rfl rfl (Nat.le_of_ble_eq_true rfl) d_X14_doStatement_69 (kV (fun s69 t69 z69 w5 => ?_)) (fun σ9 τ9 vs9 h9 => g_out hF stopM rfl h9)
    refine g_aload_n hF d_X14_doStatement_72 rfl 3 rfl ?_
    refine g_bipush hF (v := 27) d_X14_doStatement_73 (by decide) ?_
    refine g_cap (fun hc5 => ?_)
    refine g_callV (As := [.int 27]) (rest := []) hF (fun l D cy => (ct_expect a r hc5 w5) l D cy) (Nat.add_le_add_right (Nat.le_trans (Nat.le_of_ble_eq_true rfl) hdK) 1) mV_X14_expect m_2285 (recv_ob obM_0) rfl rfl (Nat.le_of_ble_eq_true rfl) d_X14_doStatement_75 (kV (fun s75 t75 z75 w7 => ?_)) (fun σ9 τ9 vs9 h9 => g_out hF stopM rfl h9)
    refine g_aload_n hF d_X14_doStatement_78 rfl 3 rfl ?_
    refine g_bipush hF (v := 17) d_X14_doStatement_79 (by decide) ?_
    refine g_iload_n hF d_X14_doStatement_81 rfl 2 rfl ?_
    refine g_cap (fun hc7 => ?_)
    refine g_callV (As := [.int 17, .int (σ 0 17)]) (rest := []) hF (fun l D cy => (ct_put_1 a r hc7 w7) l D cy) (Nat.add_le_add_right (Nat.le_trans (Nat.le_of_ble_eq_true rfl) hdK) 1) mV_X14_put_1 m_2433 (recv_ob obM_0) rfl rfl (Nat.le_of_ble_eq_true rfl) d_X14_doStatement_82 (kV (fun s82 t82 z82 w9 => ?_)) (fun _ _ _ h => h.elim)
    refine g_aload_n hF d_X14_doStatement_85 rfl 3 rfl ?_
    refine g_iload hF d_X14_doStatement_86 1 rfl ?_
    refine g_aload_n hF d_X14_doStatement_88 rfl 3 rfl ?_
    refine g_get (v := .int (s82 0 17)) hF 17 obM_0 (by decide) m_1882 rfl d_X14_doStatement_89 ?_
    refine g_cap (fun hc9 => ?_)
    refine g_callV (As := [.int (s19 0 58), .int (s82 0 17)]) (rest := []) hF (fun l D cy => (ct_aimAll a r hc9 w9) l D cy) (Nat.add_le_add_right (Nat.le_trans (Nat.le_of_ble_eq_true rfl) hdK) 1) mV_X14_aimAll m_2604 (recv_ob obM_0) rfl rfl (Nat.le_of_ble_eq_true rfl) d_X14_doStatement_92 (kV (fun s92 t92 z92 w11 => ?_)) (fun _ _ _ h => h.elim)
    exact g_vret hF rfl d_X14_doStatement_95 ⟨rfl, w11⟩
  · have w12 := w3.2 c
    refine g_aload_n hF d_X14_doStatement_45 rfl 2 rfl ?_
    refine g_callV (As := []) (rest := []) hF (fun l D cy => (ct_wrong a r hc1 w12) l D cy) (Nat.add_le_add_right (Nat.le_trans (Nat.le_of_ble_eq_true rfl) hdK) 1) mV_X14_wrong m_2261 (recv_ob obM_0) rfl rfl (Nat.le_of_ble_eq_true rfl) d_X14_doStatement_46 (kX (fun s46 t46 z46 w13 => ?_)) (fun _ _ _ h => h.elim)
    exact g_athrow hF d_X14_doStatement_49 (g_out hF stopM rfl w13)
def wp_plain (σ τ : St) (vs : List Nat) (Q : St → St → List Nat → Prop) (T : St → St → List Nat → Prop) : Prop :=
  wpE_expression (1 : Int32) σ τ vs (fun u2 s2 t2 z2 => wp_read_2 u2 (0 : Int32) s2 t2 z2 (fun s9 t9 z9 => Q s9 t9 z9)) T
set_option maxHeartbeats 4000000 in
set_option maxRecDepth 100000 in
theorem ct_plain (a : Nat → Nat) (r : Nat → Nat) {σ τ : St} {vs : List Nat} {Q : St → St → List Nat → Prop} {T : St → St → List Nat → Prop} (hcap : vs.length ≤ CAP) (w : wp_plain  σ τ vs Q T) (l : Launch) (D : va_G) (cy : Nat → ClassId) : Ct l D cy SM r (EM a) y_X14_plain (Cond.code y_X14_plain b_X14_plain 2 none) 1105 [.ref (r 0)] σ τ vs (QVs Q) T := by
  unfold wp_plain at w
  refine Ct_of (EM_ok a) (by decide) (Nat.le_of_ble_eq_true rfl) hcap (fun X hnn hF => ?_)
  show G SM r X σ τ vs [(0, .ref (r 0))] [] 0
  refine g_aload_n hF d_X14_plain_0 rfl 0 rfl ?_
  refine g_iconst hF (v := 1) d_X14_plain_1 (by decide) ?_
  refine g_callV (As := [.int 1]) (rest := []) hF (fun l D cy => (ctE_expression a r hcap w) l D cy) (Nat.le_of_ble_eq_true rfl) mV_X14_expression m_2361 (recv_ob obM_0) rfl rfl (Nat.le_of_ble_eq_true rfl) d_X14_plain_2 (kA (fun u2 s2 t2 z2 w1 => ?_)) (fun σ9 τ9 vs9 h9 => g_out hF stopM rfl h9)
  refine g_astore_n hF [(1, .ref u2), (0, .ref (r 0))] d_X14_plain_5 rfl hnn (by decide) rfl ?_
  refine g_aload_n hF d_X14_plain_6 rfl 1 rfl ?_
  refine g_aload_n hF d_X14_plain_7 rfl 0 rfl ?_
  refine g_iconst hF (v := 0) d_X14_plain_8 (by decide) ?_
  refine g_cap (fun hc1 => ?_)
  refine g_callV (As := [.ref u2, .int 0]) (rest := []) hF (fun l D cy => (ct_read_2 a r hc1 w1) l D cy) (Nat.le_of_ble_eq_true rfl) mV_X14_read_2 m_2620 (recv_ob obM_0) rfl rfl (Nat.le_of_ble_eq_true rfl) d_X14_plain_9 (kV (fun s9 t9 z9 w3 => ?_)) (fun _ _ _ h => h.elim)
  exact g_vret hF rfl d_X14_plain_12 ⟨rfl, w3⟩
def wp_returnStatement (a1 : Int32) (σ τ : St) (vs : List Nat) (Q : St → St → List Nat → Prop) (T : St → St → List Nat → Prop) : Prop :=
  wp_is (27 : Int32) (upC σ 0 10 ((σ 0 10) + (1 : Int32))) τ vs (fun v13 => (∃ J82 : St → St → List Nat → Prop, (∀ (s82 t82 : St) (z82 : List Nat), J82 s82 t82 z82 → (wp_expect (27 : Int32) s82 t82 z82 (fun s85 t85 z85 => Q s85 t85 z85) T)) ∧ (v13.toInt = 0 → wpE_expression (1 : Int32) (upC σ 0 10 ((σ 0 10) + (1 : Int32))) τ vs (fun u39 s39 t39 z39 => wp_read_1 u39 s39 t39 z39 (fun s45 t45 z45 => (∃ J72 : Int32 → Prop, (∀ (y1_72 : Int32), y1_72 = 0 ∨ y1_72 = 1 → J72 y1_72 → (wp_must y1_72 a1 s45 t45 z45 (fun s73 t73 z73 => wp_put_0 (21 : Int32) s73 t73 z73 (fun s79 t79 z79 => J82 s79 t79 z79)))) ∧ (∃ J71 : Prop, (J71  → (J72 (0 : Int32))) ∧ ((s45 0 55).toInt ≠ 0 → J71) ∧ ((s45 0 55).toInt = 0 → wp_fits u39 (s45 0 56) s45 t45 z45 (fun v61 => (v61.toInt = 0 → J71) ∧ (v61.toInt ≠ 0 → J72 (1 : Int32)))))))) T) ∧ (v13.toInt ≠ 0 → wp_must (σ 0 55) a1 (upC σ 0 10 ((σ 0 10) + (1 : Int32))) τ vs (fun s25 t25 z25 => wp_put_0 (20 : Int32) s25 t25 z25 (fun s31 t31 z31 => J82 s31 t31 z31)))))
set_option maxHeartbeats 4000000 in
set_option maxRecDepth 100000 in
theorem ct_returnStatement (a : Nat → Nat) (r : Nat → Nat) {a1 : Int32} {σ τ : St} {vs : List Nat} {Q : St → St → List Nat → Prop} {T : St → St → List Nat → Prop} (hcap : vs.length ≤ CAP) (w : wp_returnStatement a1 σ τ vs Q T) (l : Launch) (D : va_G) (cy : Nat → ClassId) : Ct l D cy SM r (EM a) y_X14_returnStatement (Cond.code y_X14_returnStatement b_X14_returnStatement 3 none) 1105 [.ref (r 0), .int a1] σ τ vs (QVs Q) T := by
  unfold wp_returnStatement at w
  refine Ct_of (EM_ok a) (by decide) (Nat.le_of_ble_eq_true rfl) hcap (fun X hnn hF => ?_)
  show G SM r X σ τ vs [(0, .ref (r 0)), (1, .int a1)] [] 0
  refine g_aload_n hF d_X14_returnStatement_0 rfl 0 rfl ?_
  refine g_dup hF d_X14_returnStatement_1 rfl ?_
  refine g_get (v := .int (σ 0 10)) hF 10 obM_0 (by decide) m_1875 rfl d_X14_returnStatement_2 ?_
  refine g_iconst hF (v := 1) d_X14_returnStatement_5 (by decide) ?_
  refine g_iadd hF d_X14_returnStatement_6 ?_
  refine g_put (v := ((σ 0 10) + (1 : Int32))) hF 10 obM_0 (by decide) m_1875 rfl rfl rfl d_X14_returnStatement_7 ?_
  refine g_aload_n hF d_X14_returnStatement_10 rfl 0 rfl ?_
  refine g_bipush hF (v := 27) d_X14_returnStatement_11 (by decide) ?_
  refine g_callV (As := [.int 27]) (rest := []) hF (fun l D cy => (ct_is a r hcap w) l D cy) (Nat.le_of_ble_eq_true rfl) mV_X14_is m_2289 (recv_ob obM_0) rfl rfl (Nat.le_of_ble_eq_true rfl) d_X14_returnStatement_13 (krZ (fun v13 hz13 w1 => ?_)) (fun _ _ _ h => h.elim)
  obtain ⟨J82, h82, w2⟩ := w1
  have b82 : ∀ (s82 t82 : St) (z82 : List Nat), J82 s82 t82 z82 → G SM r X s82 t82 z82 [(0, .ref (r 0))] [] 82 := by
    intro s82 t82 z82  w82_
    have w82_ := h82 s82 t82 z82  w82_
    refine g_aload_n hF d_X14_returnStatement_82 rfl 0 rfl ?_
    refine g_bipush hF (v := 27) d_X14_returnStatement_83 (by decide) ?_
    refine g_cap (fun hc2 => ?_)
    refine g_callV (As := [.int 27]) (rest := []) hF (fun l D cy => (ct_expect a r hc2 w82_) l D cy) (Nat.le_of_ble_eq_true rfl) mV_X14_expect m_2285 (recv_ob obM_0) rfl rfl (Nat.le_of_ble_eq_true rfl) d_X14_returnStatement_85 (kV (fun s85 t85 z85 w4 => ?_)) (fun σ9 τ9 vs9 h9 => g_out hF stopM rfl h9)
    exact g_vret hF rfl d_X14_returnStatement_88 ⟨rfl, w4⟩
  refine g_if_eq hF 37 d_X14_returnStatement_16 (by decide) rfl (fun c => ?_) (fun c => ?_)
  · have w5 := w2.1 c
    refine g_aload_n hF d_X14_returnStatement_37 rfl 0 rfl ?_
    refine g_iconst hF (v := 1) d_X14_returnStatement_38 (by decide) ?_
    refine g_callV (As := [.int 1]) (rest := []) hF (fun l D cy => (ctE_expression a r hcap w5) l D cy) (Nat.le_of_ble_eq_true rfl) mV_X14_expression m_2361 (recv_ob obM_0) rfl rfl (Nat.le_of_ble_eq_true rfl) d_X14_returnStatement_39 (kA (fun u39 s39 t39 z39 w6 => ?_)) (fun σ9 τ9 vs9 h9 => g_out hF stopM rfl h9)
    refine g_astore_n hF [(2, .ref u39), (0, .ref (r 0)), (1, .int a1)] d_X14_returnStatement_42 rfl hnn (by decide) rfl ?_
    refine g_aload_n hF d_X14_returnStatement_43 rfl 1 rfl ?_
    refine g_aload_n hF d_X14_returnStatement_44 rfl 0 rfl ?_
    refine g_cap (fun hc6 => ?_)
    refine g_callV (As := [.ref u39]) (rest := []) hF (fun l D cy => (ct_read_1 a r hc6 w6) l D cy) (Nat.le_of_ble_eq_true rfl) mV_X14_read_1 m_2453 (recv_ob obM_0) rfl rfl (Nat.le_of_ble_eq_true rfl) d_X14_returnStatement_45 (kV (fun s45 t45 z45 w8 => ?_)) (fun _ _ _ h => h.elim)
    refine g_aload_n hF d_X14_returnStatement_48 rfl 1 rfl ?_
    refine g_aload_n hF d_X14_returnStatement_49 rfl 1 rfl ?_
    refine g_get (v := .int (s45 0 55)) hF 55 obM_0 (by decide) m_1920 rfl d_X14_returnStatement_50 ?_
    obtain ⟨J72, h72, w9⟩ := w8
    have b72 : ∀ (y1_72 : Int32), y1_72 = 0 ∨ y1_72 = 1 → J72 y1_72 → G SM r X s45 t45 z45 [(0, .ref (r 0)), (1, .int a1)] [.int y1_72, .ref (r 0)] 72 := by
      intro y1_72 hy1_72 w72_
      have w72_ := h72 y1_72 hy1_72 w72_
      refine g_iload_n hF d_X14_returnStatement_72 rfl 1 rfl ?_
      refine g_cap (fun hc9 => ?_)
      refine g_callV (As := [.int y1_72, .int a1]) (rest := []) hF (fun l D cy => (ct_must a r hc9 w72_) l D cy) (Nat.le_of_ble_eq_true rfl) mV_X14_must m_2313 (recv_ob obM_0) rfl rfl (Nat.le_of_ble_eq_true rfl) d_X14_returnStatement_73 (kV (fun s73 t73 z73 w11 => ?_)) (fun _ _ _ h => h.elim)
      refine g_aload_n hF d_X14_returnStatement_76 rfl 0 rfl ?_
      refine g_bipush hF (v := 21) d_X14_returnStatement_77 (by decide) ?_
      refine g_cap (fun hc11 => ?_)
      refine g_callV (As := [.int 21]) (rest := []) hF (fun l D cy => (ct_put_0 a r hc11 w11) l D cy) (Nat.le_of_ble_eq_true rfl) mV_X14_put_0 m_2437 (recv_ob obM_0) rfl rfl (Nat.le_of_ble_eq_true rfl) d_X14_returnStatement_79 (kV (fun s79 t79 z79 w13 => ?_)) (fun _ _ _ h => h.elim)
      exact g_sub (L' := [(0, .ref (r 0))]) [0] rfl (b82 s79 t79 z79 w13)
    obtain ⟨J71, h71, w14⟩ := w9
    have b71 : J71  → G SM r X s45 t45 z45 [(0, .ref (r 0)), (1, .int a1)] [.ref (r 0)] 71 := by
      intro   w71_
      have w71_ := h71   w71_
      refine g_iconst hF (v := 0) d_X14_returnStatement_71 (by decide) ?_
      exact b72 (0 : Int32) (Or.inl rfl) w71_
    refine g_if_ne hF 71 d_X14_returnStatement_53 (by decide) rfl (fun c => ?_) (fun c => ?_)
    · have w15 := w14.1 c
      exact g_sub (L' := [(0, .ref (r 0)), (1, .int a1)]) [1, 2] rfl (b71  w15)
    · have w16 := w14.2 c
      refine g_aload_n hF d_X14_returnStatement_56 rfl 0 rfl ?_
      refine g_aload_n hF d_X14_returnStatement_57 rfl 1 rfl ?_
      refine g_get (v := .int (s45 0 56)) hF 56 obM_0 (by decide) m_1921 rfl d_X14_returnStatement_58 ?_
      refine g_cap (fun hc16 => ?_)
      refine g_callS (As := [.ref u39, .int (s45 0 56)]) (rest := [.ref (r 0)]) hF (fun l D cy => (ct_fits a r hc16 w16) l D cy) (Nat.le_of_ble_eq_true rfl) mS_X14_fits m_2506 rfl rfl (Nat.le_of_ble_eq_true rfl) d_X14_returnStatement_61 (krZ (fun v61 hz61 w18 => ?_)) (fun _ _ _ h => h.elim)
      refine g_if_eq hF 71 d_X14_returnStatement_64 (by decide) rfl (fun c => ?_) (fun c => ?_)
      · have w19 := w18.1 c
        exact g_sub (L' := [(0, .ref (r 0)), (1, .int a1)]) [1, 2] rfl (b71  w19)
      · have w20 := w18.2 c
        refine g_iconst hF (v := 1) d_X14_returnStatement_67 (by decide) ?_
        refine g_goto hF 72 d_X14_returnStatement_68 (by decide) ?_
        exact g_sub (L' := [(0, .ref (r 0)), (1, .int a1)]) [1, 2] rfl (b72 (1 : Int32) (Or.inr rfl) w20)
  · have w21 := w2.2 c
    refine g_aload_n hF d_X14_returnStatement_19 rfl 0 rfl ?_
    refine g_aload_n hF d_X14_returnStatement_20 rfl 0 rfl ?_
    refine g_get (v := .int (σ 0 55)) hF 55 obM_0 (by decide) m_1920 rfl d_X14_returnStatement_21 ?_
    refine g_iload_n hF d_X14_returnStatement_24 rfl 1 rfl ?_
    refine g_callV (As := [.int (σ 0 55), .int a1]) (rest := []) hF (fun l D cy => (ct_must a r hcap w21) l D cy) (Nat.le_of_ble_eq_true rfl) mV_X14_must m_2313 (recv_ob obM_0) rfl rfl (Nat.le_of_ble_eq_true rfl) d_X14_returnStatement_25 (kV (fun s25 t25 z25 w22 => ?_)) (fun _ _ _ h => h.elim)
    refine g_aload_n hF d_X14_returnStatement_28 rfl 0 rfl ?_
    refine g_bipush hF (v := 20) d_X14_returnStatement_29 (by decide) ?_
    refine g_cap (fun hc22 => ?_)
    refine g_callV (As := [.int 20]) (rest := []) hF (fun l D cy => (ct_put_0 a r hc22 w22) l D cy) (Nat.le_of_ble_eq_true rfl) mV_X14_put_0 m_2437 (recv_ob obM_0) rfl rfl (Nat.le_of_ble_eq_true rfl) d_X14_returnStatement_31 (kV (fun s31 t31 z31 w24 => ?_)) (fun _ _ _ h => h.elim)
    refine g_goto hF 82 d_X14_returnStatement_34 (by decide) ?_
    exact g_sub (L' := [(0, .ref (r 0))]) [0] rfl (b82 s31 t31 z31 w24)
def wp_link (σ τ : St) (vs : List Nat) (Q : Int32 → St → St → List Nat → Prop) : Prop :=
  ∃ L23 : Nat → Int32 → St → St → List Nat → Prop, (∃ n, L23 n (31 : Int32) (upC (upC (upC σ 0 67 (0 : Int32)) 0 71 ((-1) : Int32)) 0 72 ((-1) : Int32)) τ vs) ∧ ∀ (n23 : Nat) (x2_23 : Int32) (s23 t23 : St) (z23 : List Nat), L23 n23 x2_23 s23 t23 z23 → ((34 ≤ x2_23.toInt → wp_mainOf (σ 0 67) s23 t23 z23 (fun v49 => (0 ≤ v49.toInt → ∃ L65 : Nat → Int32 → Int32 → Prop, (∃ n, L65 n (0 : Int32) (0 : Int32)) ∧ ∀ (n65 : Nat) (x3_65 : Int32) (x4_65 : Int32), L65 n65 x3_65 x4_65 → (((σ 0 67).toInt ≤ x4_65.toInt → (x3_65.toInt ≤ 16000 → wp_layAll (σ 0 67) (upC s23 0 78 v49) t23 z23 (fun s111 t111 z111 => Q (0 : Int32) s111 t111 z111)) ∧ (16000 < x3_65.toInt → Q ((-35) : Int32) s23 t23 z23)) ∧ (x4_65.toInt < (σ 0 67).toInt → ((0 ≤ x4_65.toInt ∧ x4_65.toInt < 100) ∧ ((0 ≤ ((s23 40 x4_65.toNatClampNeg) - (1 : Int32)).toInt ∧ ((s23 40 x4_65.toNatClampNeg) - (1 : Int32)).toInt < 102) ∧ ∃ m, m < n65 ∧ L65 m (x3_65 + (s23 23 ((s23 40 x4_65.toNatClampNeg) - (1 : Int32)).toNatClampNeg)) (x4_65 + 1)))))) ∧ (v49.toInt < 0 → Q ((-34) : Int32) s23 t23 z23))) ∧ (x2_23.toInt < 34 → wp_isFault x2_23 (σ 0 67) s23 t23 z23 (fun v32 s32 t32 z32 => (v32.toInt = 0 → ∃ m, m < n23 ∧ L23 m (x2_23 + 1) s32 t32 z32) ∧ (v32.toInt ≠ 0 → Q (-x2_23) s32 t32 z32))))
set_option maxHeartbeats 4000000 in
set_option maxRecDepth 100000 in
theorem ct_link (a : Nat → Nat) (r : Nat → Nat) {σ τ : St} {vs : List Nat} {Q : Int32 → St → St → List Nat → Prop} (hcap : vs.length ≤ CAP) (w : wp_link  σ τ vs Q) (l : Launch) (D : va_G) (cy : Nat → ClassId) : Ct l D cy SM r (EM a) y_X14_link (Cond.code y_X14_link b_X14_link 5 (some .int)) 7 [.ref (r 0)] σ τ vs (QIs Q) QT0 := by
  unfold wp_link at w
  refine Ct_of (EM_ok a) (by decide) (Nat.le_of_ble_eq_true rfl) hcap (fun X hnn hF => ?_)
  show G SM r X σ τ vs [(0, .ref (r 0))] [] 0
  refine g_aload_n hF d_X14_link_0 rfl 0 rfl ?_
  refine g_get (v := .int (σ 0 67)) hF 67 obM_0 (by decide) m_1932 rfl d_X14_link_1 ?_
  refine g_istore_n hF [(1, .int (σ 0 67)), (0, .ref (r 0))] d_X14_link_4 rfl hnn (by decide) rfl ?_
  refine g_aload_n hF d_X14_link_5 rfl 1 rfl ?_
  refine g_iconst hF (v := 0) d_X14_link_6 (by decide) ?_
  refine g_put (v := 0) hF 67 obM_0 (by decide) m_1932 rfl rfl rfl d_X14_link_7 ?_
  refine g_aload_n hF d_X14_link_10 rfl 1 rfl ?_
  refine g_iconst hF (v := (-1)) d_X14_link_11 (by decide) ?_
  refine g_put (v := (-1)) hF 71 obM_0 (by decide) m_1936 rfl rfl rfl d_X14_link_12 ?_
  refine g_aload_n hF d_X14_link_15 rfl 1 rfl ?_
  refine g_iconst hF (v := (-1)) d_X14_link_16 (by decide) ?_
  refine g_put (v := (-1)) hF 72 obM_0 (by decide) m_1937 rfl rfl rfl d_X14_link_17 ?_
  refine g_bipush hF (v := 31) d_X14_link_20 (by decide) ?_
  refine g_istore_n hF [(2, .int 31), (1, .int (σ 0 67)), (0, .ref (r 0))] d_X14_link_22 rfl hnn (by decide) rfl ?_
  obtain ⟨L23, ⟨i23, u23⟩, h23⟩ := w
  have b23 : ∀ (n23 : Nat) (x2_23 : Int32) (s23 t23 : St) (z23 : List Nat), L23 n23 x2_23 s23 t23 z23 → G SM r X s23 t23 z23 [(0, .ref (r 0)), (1, .int (σ 0 67)), (2, .int x2_23)] [] 23 := by
    intro n23
    induction n23 using Nat.strongRecOn with
    | _ n23 ih23 =>
      intro x2_23 s23 t23 z23  w23_
      have w23_ := h23 n23 x2_23 s23 t23 z23  w23_
      refine g_iload_n hF d_X14_link_23 rfl 2 rfl ?_
      refine g_bipush hF (v := 34) d_X14_link_24 (by decide) ?_
      refine g_icmp_ge (yv := 34) hF 47 d_X14_link_26 (by decide) rfl (by decide) (fun c => ?_) (fun c => ?_)
      · have w1 := w23_.1 c
        refine g_aload_n hF d_X14_link_47 rfl 0 rfl ?_
        refine g_iload_n hF d_X14_link_48 rfl 1 rfl ?_
        refine g_cap (fun hc1 => ?_)
        refine g_callV (As := [.int (σ 0 67)]) (rest := []) hF (fun l D cy => (ct_mainOf a r hc1 w1) l D cy) (Nat.le_of_ble_eq_true rfl) mV_X14_mainOf m_2709 (recv_ob obM_0) rfl rfl (Nat.le_of_ble_eq_true rfl) d_X14_link_49 (krI (fun v49 w3 => ?_)) (fun _ _ _ h => h.elim)
        refine g_istore_n hF [(2, .int v49), (0, .ref (r 0)), (1, .int (σ 0 67))] d_X14_link_52 rfl hnn (by decide) rfl ?_
        refine g_iload_n hF d_X14_link_53 rfl 0 rfl ?_
        refine g_if_ge hF 60 d_X14_link_54 (by decide) rfl (fun c => ?_) (fun c => ?_)
        · have w4 := w3.1 c
          refine g_iconst hF (v := 0) d_X14_link_60 (by decide) ?_
          refine g_istore_n hF [(3, .int 0), (2, .int v49), (0, .ref (r 0)), (1, .int (σ 0 67))] d_X14_link_61 rfl hnn (by decide) rfl ?_
          refine g_iconst hF (v := 0) d_X14_link_62 (by decide) ?_
          refine g_istore hF [(4, .int 0), (3, .int 0), (2, .int v49), (0, .ref (r 0)), (1, .int (σ 0 67))] d_X14_link_63 hnn (by decide) rfl ?_
          obtain ⟨L65, ⟨i65, u65⟩, h65⟩ := w4
          have b65 : ∀ (n65 : Nat) (x3_65 : Int32) (x4_65 : Int32), L65 n65 x3_65 x4_65 → G SM r X s23 t23 z23 [(0, .ref (r 0)), (1, .int (σ 0 67)), (2, .int v49), (3, .int x3_65), (4, .int x4_65)] [] 65 := by
            intro n65
            induction n65 using Nat.strongRecOn with
            | _ n65 ih65 =>
              intro x3_65 x4_65  w65_
              have w65_ := h65 n65 x3_65 x4_65  w65_
              refine g_iload hF d_X14_link_65 4 rfl ?_
              refine g_iload_n hF d_X14_link_67 rfl 1 rfl ?_
              refine g_icmp_ge hF 94 d_X14_link_68 (by decide) rfl rfl (fun c => ?_) (fun c => ?_)
              · have w5 := w65_.1 c
                refine g_iload_n hF d_X14_link_94 rfl 3 rfl ?_
                refine g_sipush hF (v := 16000) d_X14_link_95 (by decide) ?_
                refine g_icmp_le (yv := 16000) hF 104 d_X14_link_98 (by decide) rfl (by decide) (fun c => ?_) (fun c => ?_)
                · have w6 := w5.1 c
                  refine g_aload_n hF d_X14_link_104 rfl 0 rfl ?_
                  refine g_iload_n hF d_X14_link_105 rfl 2 rfl ?_
                  refine g_put (v := v49) hF 78 obM_0 (by decide) m_1943 rfl rfl rfl d_X14_link_106 ?_
                  refine g_aload_n hF d_X14_link_109 rfl 0 rfl ?_
                  refine g_iload_n hF d_X14_link_110 rfl 1 rfl ?_
                  refine g_callV (As := [.int (σ 0 67)]) (rest := []) hF (fun l D cy => (ct_layAll a r hc1 w6) l D cy) (Nat.le_of_ble_eq_true rfl) mV_X14_layAll m_2713 (recv_ob obM_0) rfl rfl (Nat.le_of_ble_eq_true rfl) d_X14_link_111 (kV (fun s111 t111 z111 w7 => ?_)) (fun _ _ _ h => h.elim)
                  refine g_iconst hF (v := 0) d_X14_link_114 (by decide) ?_
                  exact g_iret hF rfl d_X14_link_115 ⟨(0 : Int32), rfl, w7⟩
                · have w8 := w5.2 c
                  refine g_bipush hF (v := (-35)) d_X14_link_101 (by decide) ?_
                  exact g_iret hF rfl d_X14_link_103 ⟨((-35) : Int32), rfl, w8⟩
              · have w9 := w65_.2 c
                refine g_iload_n hF d_X14_link_71 rfl 3 rfl ?_
                refine g_aload_n hF d_X14_link_72 rfl 0 rfl ?_
                refine g_get (v := .ref (r 23)) hF 33 obM_0 (by decide) m_1898 rfl d_X14_link_73 ?_
                refine g_aload_n hF d_X14_link_76 rfl 0 rfl ?_
                refine g_get (v := .ref (r 40)) hF 66 obM_0 (by decide) m_1931 rfl d_X14_link_77 ?_
                refine g_iload hF d_X14_link_80 4 rfl ?_
                have w10 := w9.2
                refine g_iald hF arM_40 (s_in (Nat.le_of_ble_eq_true rfl) w9.1.1 w9.1.2) d_X14_link_82 ?_
                refine g_top (v := (s23 40 x4_65.toNatClampNeg)) rfl ?_
                refine g_iconst hF (v := 1) d_X14_link_83 (by decide) ?_
                refine g_isub hF d_X14_link_84 ?_
                have w11 := w10.2
                refine g_iald hF arM_23 (s_in (Nat.le_of_ble_eq_true rfl) w10.1.1 w10.1.2) d_X14_link_85 ?_
                refine g_top (v := (s23 23 ((s23 40 x4_65.toNatClampNeg) - (1 : Int32)).toNatClampNeg)) rfl ?_
                refine g_iadd hF d_X14_link_86 ?_
                refine g_istore_n hF [(3, .int (x3_65 + (s23 23 ((s23 40 x4_65.toNatClampNeg) - (1 : Int32)).toNatClampNeg))), (0, .ref (r 0)), (1, .int (σ 0 67)), (2, .int v49), (4, .int x4_65)] d_X14_link_87 rfl hnn (by decide) rfl ?_
                refine g_iinc hF (x4_65 + 1) [(4, .int (x4_65 + 1)), (3, .int (x3_65 + (s23 23 ((s23 40 x4_65.toNatClampNeg) - (1 : Int32)).toNatClampNeg))), (0, .ref (r 0)), (1, .int (σ 0 67)), (2, .int v49)] d_X14_link_88 4 rfl rfl hnn (by decide) rfl ?_
                refine g_goto hF 65 d_X14_link_91 (by decide) ?_
                obtain ⟨m65, hm65, w9⟩ := w11
                exact g_sub (L' := [(0, .ref (r 0)), (1, .int (σ 0 67)), (2, .int v49), (3, .int (x3_65 + (s23 23 ((s23 40 x4_65.toNatClampNeg) - (1 : Int32)).toNatClampNeg))), (4, .int (x4_65 + 1))]) [2, 3, 4, 1, 0] rfl (ih65 m65 hm65 (x3_65 + (s23 23 ((s23 40 x4_65.toNatClampNeg) - (1 : Int32)).toNatClampNeg)) (x4_65 + 1) w9)
          exact g_sub (L' := [(0, .ref (r 0)), (1, .int (σ 0 67)), (2, .int v49), (3, .int 0), (4, .int 0)]) [3, 4, 2, 1, 0] rfl (b65 i65 (0 : Int32) (0 : Int32) u65)
        · have w12 := w3.2 c
          refine g_bipush hF (v := (-34)) d_X14_link_57 (by decide) ?_
          exact g_iret hF rfl d_X14_link_59 ⟨((-34) : Int32), rfl, w12⟩
      · have w13 := w23_.2 c
        refine g_aload_n hF d_X14_link_29 rfl 0 rfl ?_
        refine g_iload_n hF d_X14_link_30 rfl 2 rfl ?_
        refine g_iload_n hF d_X14_link_31 rfl 1 rfl ?_
        refine g_cap (fun hc13 => ?_)
        refine g_callV (As := [.int x2_23, .int (σ 0 67)]) (rest := []) hF (fun l D cy => (ct_isFault a r hc13 w13) l D cy) (Nat.le_of_ble_eq_true rfl) mV_X14_isFault m_2676 (recv_ob obM_0) rfl rfl (Nat.le_of_ble_eq_true rfl) d_X14_link_32 (kZ (fun v32 s32 t32 z32 hz32 w15 => ?_)) (fun _ _ _ h => h.elim)
        refine g_if_eq hF 41 d_X14_link_35 (by decide) rfl (fun c => ?_) (fun c => ?_)
        · have w16 := w15.1 c
          refine g_iinc hF (x2_23 + 1) [(2, .int (x2_23 + 1)), (0, .ref (r 0)), (1, .int (σ 0 67))] d_X14_link_41 2 rfl rfl hnn (by decide) rfl ?_
          refine g_goto hF 23 d_X14_link_44 (by decide) ?_
          obtain ⟨m23, hm23, w9⟩ := w16
          exact g_sub (L' := [(0, .ref (r 0)), (1, .int (σ 0 67)), (2, .int (x2_23 + 1))]) [1, 2, 0] rfl (ih23 m23 hm23 (x2_23 + 1) s32 t32 z32 w9)
        · have w17 := w15.2 c
          refine g_iload_n hF d_X14_link_38 rfl 2 rfl ?_
          refine g_ineg hF d_X14_link_39 ?_
          exact g_iret hF rfl d_X14_link_40 ⟨(-x2_23), rfl, w17⟩
  exact g_sub (L' := [(0, .ref (r 0)), (1, .int (σ 0 67)), (2, .int 31)]) [2, 1, 0] rfl (b23 i23 (31 : Int32) (upC (upC (upC σ 0 67 (0 : Int32)) 0 71 ((-1) : Int32)) 0 72 ((-1) : Int32)) τ vs u23)
