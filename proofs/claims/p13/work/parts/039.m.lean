abbrev KTS : Type := (Int32 → St → St → List Nat → (St → St → List Nat → Prop) → (St → St → List Nat → Prop) → Prop) × (Int32 → St → St → List Nat → (St → St → List Nat → Prop) → (St → St → List Nat → Prop) → Prop) × (Int32 → St → St → List Nat → (St → St → List Nat → Prop) → (St → St → List Nat → Prop) → Prop) × (Int32 → Int32 → Int32 → St → St → List Nat → (St → St → List Nat → Prop) → (St → St → List Nat → Prop) → Prop) × (Int32 → Int32 → St → St → List Nat → (St → St → List Nat → Prop) → (St → St → List Nat → Prop) → Prop) × (Int32 → Int32 → St → St → List Nat → (St → St → List Nat → Prop) → (St → St → List Nat → Prop) → Prop)
def KKS : Nat → KTS
  | 0 => (fun _ _ _ _ _ _ => False, fun _ _ _ _ _ _ => False, fun _ _ _ _ _ _ => False, fun _ _ _ _ _ _ _ _ => False, fun _ _ _ _ _ _ _ => False, fun _ _ _ _ _ _ _ => False)
  | n + 1 => (wp_statement ((KKS n).1) ((KKS n).2.1) ((KKS n).2.2.1) ((KKS n).2.2.2.1) ((KKS n).2.2.2.2.1) ((KKS n).2.2.2.2.2), wp_inner ((KKS n).1) ((KKS n).2.1) ((KKS n).2.2.1) ((KKS n).2.2.2.1) ((KKS n).2.2.2.2.1) ((KKS n).2.2.2.2.2), wp_block ((KKS n).1) ((KKS n).2.1) ((KKS n).2.2.1) ((KKS n).2.2.2.1) ((KKS n).2.2.2.2.1) ((KKS n).2.2.2.2.2), wp_loop ((KKS n).1) ((KKS n).2.1) ((KKS n).2.2.1) ((KKS n).2.2.2.1) ((KKS n).2.2.2.2.1) ((KKS n).2.2.2.2.2), wp_doStatement ((KKS n).1) ((KKS n).2.1) ((KKS n).2.2.1) ((KKS n).2.2.2.1) ((KKS n).2.2.2.2.1) ((KKS n).2.2.2.2.2), wp_forStatement ((KKS n).1) ((KKS n).2.1) ((KKS n).2.2.1) ((KKS n).2.2.2.1) ((KKS n).2.2.2.2.1) ((KKS n).2.2.2.2.2))
set_option maxHeartbeats 4000000 in
theorem ckS (a : Nat → Nat) (r : Nat → Nat) (n : Nat) : (∀ {a1 : Int32} {σ τ : St} {vs : List Nat} {Q : St → St → List Nat → Prop} {T : St → St → List Nat → Prop}, vs.length ≤ CAP → (KKS n).1 a1 σ τ vs Q T → ∀ (l : Launch) (D : va_G) (cy : Nat → ClassId), Ct l D cy SM r (EM a) y_X14_statement (Cond.code y_X14_statement b_X14_statement 6 none) (1110 + n) [.ref (r 0), .int a1] σ τ vs (QVs Q) T) ∧ (∀ {a1 : Int32} {σ τ : St} {vs : List Nat} {Q : St → St → List Nat → Prop} {T : St → St → List Nat → Prop}, vs.length ≤ CAP → (KKS n).2.1 a1 σ τ vs Q T → ∀ (l : Launch) (D : va_G) (cy : Nat → ClassId), Ct l D cy SM r (EM a) y_X14_inner (Cond.code y_X14_inner b_X14_inner 2 none) (1110 + n) [.ref (r 0), .int a1] σ τ vs (QVs Q) T) ∧ (∀ {a1 : Int32} {σ τ : St} {vs : List Nat} {Q : St → St → List Nat → Prop} {T : St → St → List Nat → Prop}, vs.length ≤ CAP → (KKS n).2.2.1 a1 σ τ vs Q T → ∀ (l : Launch) (D : va_G) (cy : Nat → ClassId), Ct l D cy SM r (EM a) y_X14_block (Cond.code y_X14_block b_X14_block 2 none) (1110 + n) [.ref (r 0), .int a1] σ τ vs (QVs Q) T) ∧ (∀ {a1 : Int32} {a2 : Int32} {a3 : Int32} {σ τ : St} {vs : List Nat} {Q : St → St → List Nat → Prop} {T : St → St → List Nat → Prop}, vs.length ≤ CAP → (KKS n).2.2.2.1 a1 a2 a3 σ τ vs Q T → ∀ (l : Launch) (D : va_G) (cy : Nat → ClassId), Ct l D cy SM r (EM a) y_X14_loop (Cond.code y_X14_loop b_X14_loop 6 none) (1110 + n) [.ref (r 0), .int a1, .int a2, .int a3] σ τ vs (QVs Q) T) ∧ (∀ {a1 : Int32} {a2 : Int32} {σ τ : St} {vs : List Nat} {Q : St → St → List Nat → Prop} {T : St → St → List Nat → Prop}, vs.length ≤ CAP → (KKS n).2.2.2.2.1 a1 a2 σ τ vs Q T → ∀ (l : Launch) (D : va_G) (cy : Nat → ClassId), Ct l D cy SM r (EM a) y_X14_doStatement (Cond.code y_X14_doStatement b_X14_doStatement 6 none) (1110 + n) [.ref (r 0), .int a1, .int a2] σ τ vs (QVs Q) T) ∧ (∀ {a1 : Int32} {a2 : Int32} {σ τ : St} {vs : List Nat} {Q : St → St → List Nat → Prop} {T : St → St → List Nat → Prop}, vs.length ≤ CAP → (KKS n).2.2.2.2.2 a1 a2 σ τ vs Q T → ∀ (l : Launch) (D : va_G) (cy : Nat → ClassId), Ct l D cy SM r (EM a) y_X14_forStatement (Cond.code y_X14_forStatement b_X14_forStatement 8 none) (1110 + n) [.ref (r 0), .int a1, .int a2] σ τ vs (QVs Q) T) := by
  induction n with
  | zero => exact ⟨fun _ h => h.elim, fun _ h => h.elim, fun _ h => h.elim, fun _ h => h.elim, fun _ h => h.elim, fun _ h => h.elim⟩
  | succ n ih =>
    obtain ⟨hstatement, hinner, hblock, hloop, hdoStatement, hforStatement⟩ := ih
    exact ⟨fun hc w => ct_statement a r (1110 + n) (Nat.le_trans (Nat.le_of_ble_eq_true rfl) (Nat.le_add_right _ n)) ((KKS n).1) ((KKS n).2.1) ((KKS n).2.2.1) ((KKS n).2.2.2.1) ((KKS n).2.2.2.2.1) ((KKS n).2.2.2.2.2) hinner hblock hloop hdoStatement hforStatement hc w, fun hc w => ct_inner a r (1110 + n) (Nat.le_trans (Nat.le_of_ble_eq_true rfl) (Nat.le_add_right _ n)) ((KKS n).1) ((KKS n).2.1) ((KKS n).2.2.1) ((KKS n).2.2.2.1) ((KKS n).2.2.2.2.1) ((KKS n).2.2.2.2.2) hstatement hc w, fun hc w => ct_block a r (1110 + n) (Nat.le_trans (Nat.le_of_ble_eq_true rfl) (Nat.le_add_right _ n)) ((KKS n).1) ((KKS n).2.1) ((KKS n).2.2.1) ((KKS n).2.2.2.1) ((KKS n).2.2.2.2.1) ((KKS n).2.2.2.2.2) hstatement hc w, fun hc w => ct_loop a r (1110 + n) (Nat.le_trans (Nat.le_of_ble_eq_true rfl) (Nat.le_add_right _ n)) ((KKS n).1) ((KKS n).2.1) ((KKS n).2.2.1) ((KKS n).2.2.2.1) ((KKS n).2.2.2.2.1) ((KKS n).2.2.2.2.2) hinner hc w, fun hc w => ct_doStatement a r (1110 + n) (Nat.le_trans (Nat.le_of_ble_eq_true rfl) (Nat.le_add_right _ n)) ((KKS n).1) ((KKS n).2.1) ((KKS n).2.2.1) ((KKS n).2.2.2.1) ((KKS n).2.2.2.2.1) ((KKS n).2.2.2.2.2) hloop hc w, fun hc w => ct_forStatement a r (1110 + n) (Nat.le_trans (Nat.le_of_ble_eq_true rfl) (Nat.le_add_right _ n)) ((KKS n).1) ((KKS n).2.1) ((KKS n).2.2.1) ((KKS n).2.2.2.1) ((KKS n).2.2.2.2.1) ((KKS n).2.2.2.2.2) hloop hc w⟩
def wpS_statement : Int32 → St → St → List Nat → (St → St → List Nat → Prop) → (St → St → List Nat → Prop) → Prop := (KKS 120).1
theorem ctS_statement (a : Nat → Nat) (r : Nat → Nat) {a1 : Int32} {σ τ : St} {vs : List Nat} {Q : St → St → List Nat → Prop} {T : St → St → List Nat → Prop} (hcap : vs.length ≤ CAP) (w : wpS_statement a1 σ τ vs Q T) (l : Launch) (D : va_G) (cy : Nat → ClassId) : Ct l D cy SM r (EM a) y_X14_statement (Cond.code y_X14_statement b_X14_statement 6 none) 1230 [.ref (r 0), .int a1] σ τ vs (QVs Q) T := (ckS a r 120).1 hcap w l D cy
def wpS_inner : Int32 → St → St → List Nat → (St → St → List Nat → Prop) → (St → St → List Nat → Prop) → Prop := (KKS 120).2.1
theorem ctS_inner (a : Nat → Nat) (r : Nat → Nat) {a1 : Int32} {σ τ : St} {vs : List Nat} {Q : St → St → List Nat → Prop} {T : St → St → List Nat → Prop} (hcap : vs.length ≤ CAP) (w : wpS_inner a1 σ τ vs Q T) (l : Launch) (D : va_G) (cy : Nat → ClassId) : Ct l D cy SM r (EM a) y_X14_inner (Cond.code y_X14_inner b_X14_inner 2 none) 1230 [.ref (r 0), .int a1] σ τ vs (QVs Q) T := (ckS a r 120).2.1 hcap w l D cy
def wpS_block : Int32 → St → St → List Nat → (St → St → List Nat → Prop) → (St → St → List Nat → Prop) → Prop := (KKS 120).2.2.1
theorem ctS_block (a : Nat → Nat) (r : Nat → Nat) {a1 : Int32} {σ τ : St} {vs : List Nat} {Q : St → St → List Nat → Prop} {T : St → St → List Nat → Prop} (hcap : vs.length ≤ CAP) (w : wpS_block a1 σ τ vs Q T) (l : Launch) (D : va_G) (cy : Nat → ClassId) : Ct l D cy SM r (EM a) y_X14_block (Cond.code y_X14_block b_X14_block 2 none) 1230 [.ref (r 0), .int a1] σ τ vs (QVs Q) T := (ckS a r 120).2.2.1 hcap w l D cy
def wpS_loop : Int32 → Int32 → Int32 → St → St → List Nat → (St → St → List Nat → Prop) → (St → St → List Nat → Prop) → Prop := (KKS 120).2.2.2.1
theorem ctS_loop (a : Nat → Nat) (r : Nat → Nat) {a1 : Int32} {a2 : Int32} {a3 : Int32} {σ τ : St} {vs : List Nat} {Q : St → St → List Nat → Prop} {T : St → St → List Nat → Prop} (hcap : vs.length ≤ CAP) (w : wpS_loop a1 a2 a3 σ τ vs Q T) (l : Launch) (D : va_G) (cy : Nat → ClassId) : Ct l D cy SM r (EM a) y_X14_loop (Cond.code y_X14_loop b_X14_loop 6 none) 1230 [.ref (r 0), .int a1, .int a2, .int a3] σ τ vs (QVs Q) T := (ckS a r 120).2.2.2.1 hcap w l D cy
def wpS_doStatement : Int32 → Int32 → St → St → List Nat → (St → St → List Nat → Prop) → (St → St → List Nat → Prop) → Prop := (KKS 120).2.2.2.2.1
theorem ctS_doStatement (a : Nat → Nat) (r : Nat → Nat) {a1 : Int32} {a2 : Int32} {σ τ : St} {vs : List Nat} {Q : St → St → List Nat → Prop} {T : St → St → List Nat → Prop} (hcap : vs.length ≤ CAP) (w : wpS_doStatement a1 a2 σ τ vs Q T) (l : Launch) (D : va_G) (cy : Nat → ClassId) : Ct l D cy SM r (EM a) y_X14_doStatement (Cond.code y_X14_doStatement b_X14_doStatement 6 none) 1230 [.ref (r 0), .int a1, .int a2] σ τ vs (QVs Q) T := (ckS a r 120).2.2.2.2.1 hcap w l D cy
def wpS_forStatement : Int32 → Int32 → St → St → List Nat → (St → St → List Nat → Prop) → (St → St → List Nat → Prop) → Prop := (KKS 120).2.2.2.2.2
theorem ctS_forStatement (a : Nat → Nat) (r : Nat → Nat) {a1 : Int32} {a2 : Int32} {σ τ : St} {vs : List Nat} {Q : St → St → List Nat → Prop} {T : St → St → List Nat → Prop} (hcap : vs.length ≤ CAP) (w : wpS_forStatement a1 a2 σ τ vs Q T) (l : Launch) (D : va_G) (cy : Nat → ClassId) : Ct l D cy SM r (EM a) y_X14_forStatement (Cond.code y_X14_forStatement b_X14_forStatement 8 none) 1230 [.ref (r 0), .int a1, .int a2] σ τ vs (QVs Q) T := (ckS a r 120).2.2.2.2.2 hcap w l D cy
def wp_bodyOf (a1 : Int32) (σ τ : St) (vs : List Nat) (Q : St → St → List Nat → Prop) (T : St → St → List Nat → Prop) : Prop :=
  (∃ J11 : Int32 → Prop, (∀ (y1_11 : Int32), y1_11 = 0 ∨ y1_11 = 1 → J11 y1_11 → (∃ L54 : Nat → St → St → List Nat → Prop, (∃ n, L54 n (upC (upC (upC (upC (upC (upC σ 0 55 y1_11) 0 56 a1) 0 57 (0 : Int32)) 0 58 ((-1) : Int32)) 0 59 ((-1) : Int32)) 0 10 ((σ 0 10) + (1 : Int32))) τ vs) ∧ ∀ (n54 : Nat) (s54 t54 : St) (z54 : List Nat), L54 n54 s54 t54 z54 → (wp_is (23 : Int32) s54 t54 z54 (fun v57 => (v57.toInt ≠ 0 → (∃ J109 : St → St → List Nat → Prop, (∀ (s109 t109 : St) (z109 : List Nat), J109 s109 t109 z109 → (((σ 0 45).toInt ≠ 10000 → ((0 ≤ (σ 0 45).toInt ∧ (σ 0 45).toInt < 10000) ∧ ((0 ≤ (σ 0 45).toInt ∧ (σ 0 45).toInt < 10000) ∧ ((0 ≤ (σ 0 45).toInt ∧ (σ 0 45).toInt < 10000) ∧ ((0 ≤ (σ 0 45).toInt ∧ (σ 0 45).toInt < 10000) ∧ ∃ L165 : Nat → Int32 → Int32 → St → St → List Nat → Prop, (∃ n, L165 n (0 : Int32) (0 : Int32) (upC (upC (upC (upC (upC s109 0 53 (0 : Int32)) 26 (σ 0 45).toNatClampNeg (σ 0 17)) 27 (σ 0 45).toNatClampNeg (s109 0 35)) 28 (σ 0 45).toNatClampNeg (s109 0 49)) 29 (σ 0 45).toNatClampNeg (s109 0 17)) t109 z109) ∧ ∀ (n165 : Nat) (x4_165 : Int32) (x5_165 : Int32) (s165 t165 : St) (z165 : List Nat), L165 n165 x4_165 x5_165 s165 t165 z165 → (((s165 0 49).toInt ≤ x5_165.toInt → ((0 ≤ (σ 0 45).toInt ∧ (σ 0 45).toInt < 10000) ∧ ((0 ≤ (σ 0 45).toInt ∧ (σ 0 45).toInt < 10000) ∧ Q (upC (upC (upC s165 30 (σ 0 45).toNatClampNeg x4_165) 54 (σ 0 45).toNatClampNeg (s165 0 65)) 0 45 ((σ 0 45) + (1 : Int32))) t165 z165))) ∧ (x5_165.toInt < (s165 0 49).toInt → ((0 ≤ x5_165.toInt ∧ x5_165.toInt < 100) ∧ (∃ J199 : Int32 → Prop, (∀ (y0_199 : Int32), y0_199 = 0 ∨ y0_199 = 1 → J199 y0_199 → ((∃ J213 : Int32 → Prop, (∀ (y1_213 : Int32), J213 y1_213 → (((0 ≤ x5_165.toInt ∧ x5_165.toInt < 100) ∧ wp_put_1 y1_213 (if (s165 32 x5_165.toNatClampNeg) < (0 : Int32) then (0 : Int32) else (s165 32 x5_165.toNatClampNeg)) s165 t165 z165 (fun s224 t224 z224 => (∃ J248 : Int32 → Prop, (∀ (x4_248 : Int32), J248 x4_248 → (∃ m, m < n165 ∧ L165 m x4_248 (x5_165 + 1) s224 t224 z224)) ∧ (y0_199.toInt = 0 → J248 x4_165) ∧ (y0_199.toInt ≠ 0 → ((0 ≤ x5_165.toInt ∧ x5_165.toInt < 100) ∧ J248 (x4_165 + (if (s224 32 x5_165.toNatClampNeg) < (1 : Int32) then (1 : Int32) else (s224 32 x5_165.toNatClampNeg)))))))))) ∧ (y0_199.toInt = 0 → J213 ((-1) : Int32)) ∧ (y0_199.toInt ≠ 0 → J213 x4_165)))) ∧ (∃ J194 : Prop, (J194  → (J199 (1 : Int32))) ∧ ((s165 33 x5_165.toNatClampNeg).toInt ≠ 0 → J194) ∧ ((s165 33 x5_165.toNatClampNeg).toInt = 0 → ((0 ≤ x5_165.toInt ∧ x5_165.toInt < 100) ∧ ((s165 32 x5_165.toNatClampNeg).toInt < 0 → J199 (0 : Int32)) ∧ (0 ≤ (s165 32 x5_165.toNatClampNeg).toInt → J194))))))))))))) ∧ ((σ 0 45).toInt = 10000 → Q (upC s109 0 53 (0 : Int32)) t109 z109))) ∧ ((s54 0 55).toInt = 0 → wp_put_1 (0 : Int32) (0 : Int32) (upC s54 0 10 ((s54 0 10) + (1 : Int32))) t54 z54 (fun s100 t100 z100 => wp_put_0 (21 : Int32) s100 t100 z100 (fun s106 t106 z106 => J109 s106 t106 z106))) ∧ ((s54 0 55).toInt ≠ 0 → wp_put_0 (20 : Int32) (upC s54 0 10 ((s54 0 10) + (1 : Int32))) t54 z54 (fun s91 t91 z91 => J109 s91 t91 z91)))) ∧ (v57.toInt = 0 → wpS_statement (1 : Int32) s54 t54 z54 (fun s65 t65 z65 => ∃ m, m < n54 ∧ L54 m s65 t65 z65) T))))) ∧ (a1.toInt ≠ -1 → J11 (0 : Int32)) ∧ (a1.toInt = -1 → J11 (1 : Int32)))
set_option maxHeartbeats 4000000 in
set_option maxRecDepth 100000 in
theorem ct_bodyOf (a : Nat → Nat) (r : Nat → Nat) {a1 : Int32} {σ τ : St} {vs : List Nat} {Q : St → St → List Nat → Prop} {T : St → St → List Nat → Prop} (hcap : vs.length ≤ CAP) (w : wp_bodyOf a1 σ τ vs Q T) (l : Launch) (D : va_G) (cy : Nat → ClassId) : Ct l D cy SM r (EM a) y_X14_bodyOf (Cond.code y_X14_bodyOf b_X14_bodyOf 7 none) 1231 [.ref (r 0), .int a1] σ τ vs (QVs Q) T := by
  unfold wp_bodyOf at w
  refine Ct_of (EM_ok a) (by decide) (Nat.le_of_ble_eq_true rfl) hcap (fun X hnn hF => ?_)
  show G SM r X σ τ vs [(0, .ref (r 0)), (1, .int a1)] [] 0
  refine g_aload_n hF d_X14_bodyOf_0 rfl 0 rfl ?_
  refine g_iload_n hF d_X14_bodyOf_1 rfl 1 rfl ?_
  refine g_iconst hF (v := (-1)) d_X14_bodyOf_2 (by decide) ?_
  obtain ⟨J11, h11, w1⟩ := w
  have b11 : ∀ (y1_11 : Int32), y1_11 = 0 ∨ y1_11 = 1 → J11 y1_11 → G SM r X σ τ vs [(0, .ref (r 0)), (1, .int a1)] [.int y1_11, .ref (r 0)] 11 := by
    intro y1_11 hy1_11 w11_
    have w11_ := h11 y1_11 hy1_11 w11_
    refine g_putZ (v := y1_11) hF 55 obM_0 (by decide) m_1920 rfl rfl rfl hy1_11 d_X14_bodyOf_11 ?_
    refine g_aload_n hF d_X14_bodyOf_14 rfl 0 rfl ?_
    refine g_iload_n hF d_X14_bodyOf_15 rfl 1 rfl ?_
    refine g_put (v := a1) hF 56 obM_0 (by decide) m_1921 rfl rfl rfl d_X14_bodyOf_16 ?_
    refine g_aload_n hF d_X14_bodyOf_19 rfl 0 rfl ?_
    refine g_iconst hF (v := 0) d_X14_bodyOf_20 (by decide) ?_
    refine g_put (v := 0) hF 57 obM_0 (by decide) m_1922 rfl rfl rfl d_X14_bodyOf_21 ?_
    refine g_aload_n hF d_X14_bodyOf_24 rfl 0 rfl ?_
    refine g_iconst hF (v := (-1)) d_X14_bodyOf_25 (by decide) ?_
    refine g_put (v := (-1)) hF 58 obM_0 (by decide) m_1923 rfl rfl rfl d_X14_bodyOf_26 ?_
    refine g_aload_n hF d_X14_bodyOf_29 rfl 0 rfl ?_
    refine g_iconst hF (v := (-1)) d_X14_bodyOf_30 (by decide) ?_
    refine g_put (v := (-1)) hF 59 obM_0 (by decide) m_1924 rfl rfl rfl d_X14_bodyOf_31 ?_
    refine g_aload_n hF d_X14_bodyOf_34 rfl 0 rfl ?_
    refine g_get (v := .int (σ 0 17)) hF 17 obM_0 (by decide) m_1882 rfl d_X14_bodyOf_35 ?_
    refine g_istore_n hF [(2, .int (σ 0 17)), (0, .ref (r 0)), (1, .int a1)] d_X14_bodyOf_38 rfl hnn (by decide) rfl ?_
    refine g_aload_n hF d_X14_bodyOf_39 rfl 1 rfl ?_
    refine g_get (v := .int (σ 0 45)) hF 45 obM_0 (by decide) m_1910 rfl d_X14_bodyOf_40 ?_
    refine g_istore_n hF [(3, .int (σ 0 45)), (2, .int (σ 0 17)), (0, .ref (r 0)), (1, .int a1)] d_X14_bodyOf_43 rfl hnn (by decide) rfl ?_
    refine g_aload_n hF d_X14_bodyOf_44 rfl 2 rfl ?_
    refine g_dup hF d_X14_bodyOf_45 rfl ?_
    refine g_get (v := .int (σ 0 10)) hF 10 obM_0 (by decide) m_1875 rfl d_X14_bodyOf_46 ?_
    refine g_iconst hF (v := 1) d_X14_bodyOf_49 (by decide) ?_
    refine g_iadd hF d_X14_bodyOf_50 ?_
    refine g_put (v := ((σ 0 10) + (1 : Int32))) hF 10 obM_0 (by decide) m_1875 rfl rfl rfl d_X14_bodyOf_51 ?_
    obtain ⟨L54, ⟨i54, u54⟩, h54⟩ := w11_
    have b54 : ∀ (n54 : Nat) (s54 t54 : St) (z54 : List Nat), L54 n54 s54 t54 z54 → G SM r X s54 t54 z54 [(0, .ref (r 0)), (2, .int (σ 0 17)), (3, .int (σ 0 45))] [] 54 := by
      intro n54
      induction n54 using Nat.strongRecOn with
      | _ n54 ih54 =>
        intro s54 t54 z54  w54_
        have w54_ := h54 n54 s54 t54 z54  w54_
        refine g_aload_n hF d_X14_bodyOf_54 rfl 0 rfl ?_
        refine g_bipush hF (v := 23) d_X14_bodyOf_55 (by decide) ?_
        refine g_cap (fun hc1 => ?_)
        refine g_callV (As := [.int 23]) (rest := []) hF (fun l D cy => (ct_is a r hc1 w54_) l D cy) (Nat.le_of_ble_eq_true rfl) mV_X14_is m_2289 (recv_ob obM_0) rfl rfl (Nat.le_of_ble_eq_true rfl) d_X14_bodyOf_57 (krZ (fun v57 hz57 w3 => ?_)) (fun _ _ _ h => h.elim)
        refine g_if_ne hF 71 d_X14_bodyOf_60 (by decide) rfl (fun c => ?_) (fun c => ?_)
        · have w4 := w3.1 c
          refine g_aload_n hF d_X14_bodyOf_71 rfl 0 rfl ?_
          refine g_dup hF d_X14_bodyOf_72 rfl ?_
          refine g_get (v := .int (s54 0 10)) hF 10 obM_0 (by decide) m_1875 rfl d_X14_bodyOf_73 ?_
          refine g_iconst hF (v := 1) d_X14_bodyOf_76 (by decide) ?_
          refine g_iadd hF d_X14_bodyOf_77 ?_
          refine g_put (v := ((s54 0 10) + (1 : Int32))) hF 10 obM_0 (by decide) m_1875 rfl rfl rfl d_X14_bodyOf_78 ?_
          refine g_aload_n hF d_X14_bodyOf_81 rfl 0 rfl ?_
          refine g_get (v := .int (s54 0 55)) hF 55 obM_0 (by decide) m_1920 rfl d_X14_bodyOf_82 ?_
          obtain ⟨J109, h109, w5⟩ := w4
          have b109 : ∀ (s109 t109 : St) (z109 : List Nat), J109 s109 t109 z109 → G SM r X s109 t109 z109 [(0, .ref (r 0)), (2, .int (σ 0 17)), (3, .int (σ 0 45))] [] 109 := by
            intro s109 t109 z109  w109_
            have w109_ := h109 s109 t109 z109  w109_
            refine g_aload_n hF d_X14_bodyOf_109 rfl 0 rfl ?_
            refine g_iconst hF (v := 0) d_X14_bodyOf_110 (by decide) ?_
            refine g_put (v := 0) hF 53 obM_0 (by decide) m_1918 rfl rfl rfl d_X14_bodyOf_111 ?_
            refine g_iload_n hF d_X14_bodyOf_114 rfl 2 rfl ?_
            refine g_sipush hF (v := 10000) d_X14_bodyOf_115 (by decide) ?_
            refine g_icmp_ne (yv := 10000) hF 122 d_X14_bodyOf_118 (by decide) rfl (by decide) (fun c => ?_) (fun c => ?_)
            · have w6 := w109_.1 c
              refine g_aload_n hF d_X14_bodyOf_122 rfl 0 rfl ?_
              refine g_get (v := .ref (r 26)) hF 40 obM_0 (by decide) m_1905 rfl d_X14_bodyOf_123 ?_
              refine g_iload_n hF d_X14_bodyOf_126 rfl 2 rfl ?_
              refine g_iload_n hF d_X14_bodyOf_127 rfl 1 rfl ?_
              have w7 := w6.2
              refine g_iast hF arM_26 (s_in (Nat.le_of_ble_eq_true rfl) w6.1.1 w6.1.2) d_X14_bodyOf_128 ?_
              refine g_aload_n hF d_X14_bodyOf_129 rfl 0 rfl ?_
              refine g_get (v := .ref (r 27)) hF 41 obM_0 (by decide) m_1906 rfl d_X14_bodyOf_130 ?_
              refine g_iload_n hF d_X14_bodyOf_133 rfl 2 rfl ?_
              refine g_aload_n hF d_X14_bodyOf_134 rfl 0 rfl ?_
              refine g_get (v := .int (s109 0 35)) hF 35 obM_0 (by decide) m_1900 rfl d_X14_bodyOf_135 ?_
              have w8 := w7.2
              refine g_iast hF arM_27 (s_in (Nat.le_of_ble_eq_true rfl) w7.1.1 w7.1.2) d_X14_bodyOf_138 ?_
              refine g_aload_n hF d_X14_bodyOf_139 rfl 0 rfl ?_
              refine g_get (v := .ref (r 28)) hF 42 obM_0 (by decide) m_1907 rfl d_X14_bodyOf_140 ?_
              refine g_iload_n hF d_X14_bodyOf_143 rfl 2 rfl ?_
              refine g_aload_n hF d_X14_bodyOf_144 rfl 0 rfl ?_
              refine g_get (v := .int (s109 0 49)) hF 49 obM_0 (by decide) m_1914 rfl d_X14_bodyOf_145 ?_
              have w9 := w8.2
              refine g_iast hF arM_28 (s_in (Nat.le_of_ble_eq_true rfl) w8.1.1 w8.1.2) d_X14_bodyOf_148 ?_
              refine g_aload_n hF d_X14_bodyOf_149 rfl 0 rfl ?_
              refine g_get (v := .ref (r 29)) hF 43 obM_0 (by decide) m_1908 rfl d_X14_bodyOf_150 ?_
              refine g_iload_n hF d_X14_bodyOf_153 rfl 2 rfl ?_
              refine g_aload_n hF d_X14_bodyOf_154 rfl 0 rfl ?_
              refine g_get (v := .int (s109 0 17)) hF 17 obM_0 (by decide) m_1882 rfl d_X14_bodyOf_155 ?_
              have w10 := w9.2
              refine g_iast hF arM_29 (s_in (Nat.le_of_ble_eq_true rfl) w9.1.1 w9.1.2) d_X14_bodyOf_158 ?_
              refine g_iconst hF (v := 0) d_X14_bodyOf_159 (by decide) ?_
              refine g_istore hF [(4, .int 0), (0, .ref (r 0)), (2, .int (σ 0 17)), (3, .int (σ 0 45))] d_X14_bodyOf_160 hnn (by decide) rfl ?_
              refine g_iconst hF (v := 0) d_X14_bodyOf_162 (by decide) ?_
              refine g_istore hF [(5, .int 0), (4, .int 0), (0, .ref (r 0)), (2, .int (σ 0 17)), (3, .int (σ 0 45))] d_X14_bodyOf_163 hnn (by decide) rfl ?_
              obtain ⟨L165, ⟨i165, u165⟩, h165⟩ := w10
              have b165 : ∀ (n165 : Nat) (x4_165 : Int32) (x5_165 : Int32) (s165 t165 : St) (z165 : List Nat), L165 n165 x4_165 x5_165 s165 t165 z165 → G SM r X s165 t165 z165 [(0, .ref (r 0)), (3, .int (σ 0 45)), (4, .int x4_165), (5, .int x5_165)] [] 165 := by
                intro n165
                induction n165 using Nat.strongRecOn with
                | _ n165 ih165 =>
                  intro x4_165 x5_165 s165 t165 z165  w165_
                  have w165_ := h165 n165 x4_165 x5_165 s165 t165 z165  w165_
                  refine g_iload hF d_X14_bodyOf_165 3 rfl ?_
                  refine g_aload_n hF d_X14_bodyOf_167 rfl 0 rfl ?_
                  refine g_get (v := .int (s165 0 49)) hF 49 obM_0 (by decide) m_1914 rfl d_X14_bodyOf_168 ?_
                  refine g_icmp_ge hF 254 d_X14_bodyOf_171 (by decide) rfl rfl (fun c => ?_) (fun c => ?_)
                  · have w11 := w165_.1 c
                    refine g_aload_n hF d_X14_bodyOf_254 rfl 0 rfl ?_
                    refine g_get (v := .ref (r 30)) hF 44 obM_0 (by decide) m_1909 rfl d_X14_bodyOf_255 ?_
                    refine g_iload_n hF d_X14_bodyOf_258 rfl 1 rfl ?_
                    refine g_iload hF d_X14_bodyOf_259 2 rfl ?_
                    have w12 := w11.2
                    refine g_iast hF arM_30 (s_in (Nat.le_of_ble_eq_true rfl) w11.1.1 w11.1.2) d_X14_bodyOf_261 ?_
                    refine g_aload_n hF d_X14_bodyOf_262 rfl 0 rfl ?_
                    refine g_get (v := .ref (r 54)) hF 99 obM_0 (by decide) m_1964 rfl d_X14_bodyOf_263 ?_
                    refine g_iload_n hF d_X14_bodyOf_266 rfl 1 rfl ?_
                    refine g_aload_n hF d_X14_bodyOf_267 rfl 0 rfl ?_
                    refine g_get (v := .int (s165 0 65)) hF 65 obM_0 (by decide) m_1930 rfl d_X14_bodyOf_268 ?_
                    have w13 := w12.2
                    refine g_iast hF arM_54 (s_in (Nat.le_of_ble_eq_true rfl) w12.1.1 w12.1.2) d_X14_bodyOf_271 ?_
                    refine g_aload_n hF d_X14_bodyOf_272 rfl 0 rfl ?_
                    refine g_iload_n hF d_X14_bodyOf_273 rfl 1 rfl ?_
                    refine g_iconst hF (v := 1) d_X14_bodyOf_274 (by decide) ?_
                    refine g_iadd hF d_X14_bodyOf_275 ?_
                    refine g_put (v := ((σ 0 45) + (1 : Int32))) hF 45 obM_0 (by decide) m_1910 rfl rfl rfl d_X14_bodyOf_276 ?_
                    exact g_vret hF rfl d_X14_bodyOf_279 ⟨rfl, w13⟩
                  · have w14 := w165_.2 c
                    refine g_aload_n hF d_X14_bodyOf_174 rfl 0 rfl ?_
                    refine g_get (v := .ref (r 33)) hF 48 obM_0 (by decide) m_1913 rfl d_X14_bodyOf_175 ?_
                    refine g_iload hF d_X14_bodyOf_178 3 rfl ?_
                    have w15 := w14.2
                    refine g_zald hF arM_33 (s_in (Nat.le_of_ble_eq_true rfl) w14.1.1 w14.1.2) d_X14_bodyOf_180 ?_
                    refine g_top (v := (s165 33 x5_165.toNatClampNeg)) rfl ?_
                    obtain ⟨J199, h199, w16⟩ := w15
                    have b199 : ∀ (y0_199 : Int32), y0_199 = 0 ∨ y0_199 = 1 → J199 y0_199 → G SM r X s165 t165 z165 [(0, .ref (r 0)), (3, .int (σ 0 45)), (4, .int x4_165), (5, .int x5_165)] [.int y0_199] 199 := by
                      intro y0_199 hy0_199 w199_
                      have w199_ := h199 y0_199 hy0_199 w199_
                      refine g_istore hF [(6, .int y0_199), (0, .ref (r 0)), (3, .int (σ 0 45)), (4, .int x4_165), (5, .int x5_165)] d_X14_bodyOf_199 hnn (by decide) rfl ?_
                      refine g_aload_n hF d_X14_bodyOf_201 rfl 1 rfl ?_
                      refine g_iload hF d_X14_bodyOf_202 0 rfl ?_
                      obtain ⟨J213, h213, w17⟩ := w199_
                      have b213 : ∀ (y1_213 : Int32), J213 y1_213 → G SM r X s165 t165 z165 [(0, .ref (r 0)), (3, .int (σ 0 45)), (4, .int x4_165), (5, .int x5_165), (6, .int y0_199)] [.int y1_213, .ref (r 0)] 213 := by
                        intro y1_213  w213_
                        have w213_ := h213 y1_213  w213_
                        refine g_aload_n hF d_X14_bodyOf_213 rfl 0 rfl ?_
                        refine g_get (v := .ref (r 32)) hF 47 obM_0 (by decide) m_1912 rfl d_X14_bodyOf_214 ?_
                        refine g_iload hF d_X14_bodyOf_217 3 rfl ?_
                        have w18 := w213_.2
                        refine g_iald hF arM_32 (s_in (Nat.le_of_ble_eq_true rfl) w213_.1.1 w213_.1.2) d_X14_bodyOf_219 ?_
                        refine g_top (v := (s165 32 x5_165.toNatClampNeg)) rfl ?_
                        refine g_iconst hF (v := 0) d_X14_bodyOf_220 (by decide) ?_
                        refine g_mmax hF (Nat.le_of_ble_eq_true rfl) m_2432 m_1131 m_23 m_1132 (Nat.le_of_ble_eq_true rfl) d_X14_bodyOf_221 ?_
                        refine g_cap (fun hc18 => ?_)
                        refine g_callV (As := [.int y1_213, .int (if (s165 32 x5_165.toNatClampNeg) < (0 : Int32) then (0 : Int32) else (s165 32 x5_165.toNatClampNeg))]) (rest := []) hF (fun l D cy => (ct_put_1 a r hc18 w18) l D cy) (Nat.le_of_ble_eq_true rfl) mV_X14_put_1 m_2433 (recv_ob obM_0) rfl rfl (Nat.le_of_ble_eq_true rfl) d_X14_bodyOf_224 (kV (fun s224 t224 z224 w20 => ?_)) (fun _ _ _ h => h.elim)
                        refine g_iload hF d_X14_bodyOf_227 4 rfl ?_
                        obtain ⟨J248, h248, w21⟩ := w20
                        have b248 : ∀ (x4_248 : Int32), J248 x4_248 → G SM r X s224 t224 z224 [(0, .ref (r 0)), (3, .int (σ 0 45)), (4, .int x4_248), (5, .int x5_165)] [] 248 := by
                          intro x4_248  w248_
                          have w248_ := h248 x4_248  w248_
                          refine g_iinc hF (x5_165 + 1) [(5, .int (x5_165 + 1)), (0, .ref (r 0)), (3, .int (σ 0 45)), (4, .int x4_248)] d_X14_bodyOf_248 3 rfl rfl hnn (by decide) rfl ?_
                          refine g_goto hF 165 d_X14_bodyOf_251 (by decide) ?_
                          obtain ⟨m165, hm165, w9⟩ := w248_
                          exact g_sub (L' := [(0, .ref (r 0)), (3, .int (σ 0 45)), (4, .int x4_248), (5, .int (x5_165 + 1))]) [1, 2, 3, 0] rfl (ih165 m165 hm165 x4_248 (x5_165 + 1) s224 t224 z224 w9)
                        refine g_if_eq hF 248 d_X14_bodyOf_229 (by decide) rfl (fun c => ?_) (fun c => ?_)
                        · have w22 := w21.1 c
                          exact g_sub (L' := [(0, .ref (r 0)), (3, .int (σ 0 45)), (4, .int x4_165), (5, .int x5_165)]) [0, 1, 2, 3] rfl (b248 x4_165 w22)
                        · have w23 := w21.2 c
                          refine g_iload hF d_X14_bodyOf_232 2 rfl ?_
                          refine g_aload_n hF d_X14_bodyOf_234 rfl 0 rfl ?_
                          refine g_get (v := .ref (r 32)) hF 47 obM_0 (by decide) m_1912 rfl d_X14_bodyOf_235 ?_
                          refine g_iload hF d_X14_bodyOf_238 3 rfl ?_
                          have w24 := w23.2
                          refine g_iald hF arM_32 (s_in (Nat.le_of_ble_eq_true rfl) w23.1.1 w23.1.2) d_X14_bodyOf_240 ?_
                          refine g_top (v := (s224 32 x5_165.toNatClampNeg)) rfl ?_
                          refine g_iconst hF (v := 1) d_X14_bodyOf_241 (by decide) ?_
                          refine g_mmax hF (Nat.le_of_ble_eq_true rfl) m_2432 m_1131 m_23 m_1132 (Nat.le_of_ble_eq_true rfl) d_X14_bodyOf_242 ?_
                          refine g_iadd hF d_X14_bodyOf_245 ?_
                          refine g_istore hF [(4, .int (x4_165 + (if (s224 32 x5_165.toNatClampNeg) < (1 : Int32) then (1 : Int32) else (s224 32 x5_165.toNatClampNeg)))), (0, .ref (r 0)), (3, .int (σ 0 45)), (5, .int x5_165), (6, .int y0_199)] d_X14_bodyOf_246 hnn (by decide) rfl ?_
                          exact g_sub (L' := [(0, .ref (r 0)), (3, .int (σ 0 45)), (4, .int (x4_165 + (if (s224 32 x5_165.toNatClampNeg) < (1 : Int32) then (1 : Int32) else (s224 32 x5_165.toNatClampNeg)))), (5, .int x5_165)]) [1, 2, 0, 3] rfl (b248 (x4_165 + (if (s224 32 x5_165.toNatClampNeg) < (1 : Int32) then (1 : Int32) else (s224 32 x5_165.toNatClampNeg))) w24)
                      refine g_if_eq hF 212 d_X14_bodyOf_204 (by decide) rfl (fun c => ?_) (fun c => ?_)
                      · have w25 := w17.1 c
                        refine g_iconst hF (v := (-1)) d_X14_bodyOf_212 (by decide) ?_
                        exact g_sub (L' := [(0, .ref (r 0)), (3, .int (σ 0 45)), (4, .int x4_165), (5, .int x5_165), (6, .int y0_199)]) [1, 2, 3, 4, 0] rfl (b213 ((-1) : Int32) w25)
                      · have w26 := w17.2 c
                        refine g_iload hF d_X14_bodyOf_207 3 rfl ?_
                        refine g_goto hF 213 d_X14_bodyOf_209 (by decide) ?_
                        exact g_sub (L' := [(0, .ref (r 0)), (3, .int (σ 0 45)), (4, .int x4_165), (5, .int x5_165), (6, .int y0_199)]) [1, 2, 3, 4, 0] rfl (b213 x4_165 w26)
                    obtain ⟨J194, h194, w27⟩ := w16
                    have b194 : J194  → G SM r X s165 t165 z165 [(0, .ref (r 0)), (3, .int (σ 0 45)), (4, .int x4_165), (5, .int x5_165)] [] 194 := by
                      intro   w194_
                      have w194_ := h194   w194_
                      refine g_iconst hF (v := 1) d_X14_bodyOf_194 (by decide) ?_
                      refine g_goto hF 199 d_X14_bodyOf_195 (by decide) ?_
                      exact b199 (1 : Int32) (Or.inr rfl) w194_
                    refine g_if_ne hF 194 d_X14_bodyOf_181 (by decide) rfl (fun c => ?_) (fun c => ?_)
                    · have w28 := w27.1 c
                      exact b194  w28
                    · have w29 := w27.2 c
                      refine g_aload_n hF d_X14_bodyOf_184 rfl 0 rfl ?_
                      refine g_get (v := .ref (r 32)) hF 47 obM_0 (by decide) m_1912 rfl d_X14_bodyOf_185 ?_
                      refine g_iload hF d_X14_bodyOf_188 3 rfl ?_
                      have w30 := w29.2
                      refine g_iald hF arM_32 (s_in (Nat.le_of_ble_eq_true rfl) w29.1.1 w29.1.2) d_X14_bodyOf_190 ?_
                      refine g_top (v := (s165 32 x5_165.toNatClampNeg)) rfl ?_
                      refine g_if_lt hF 198 d_X14_bodyOf_191 (by decide) rfl (fun c => ?_) (fun c => ?_)
                      · have w31 := w30.1 c
                        refine g_iconst hF (v := 0) d_X14_bodyOf_198 (by decide) ?_
                        exact b199 (0 : Int32) (Or.inl rfl) w31
                      · have w32 := w30.2 c
                        exact b194  w32
              exact g_sub (L' := [(0, .ref (r 0)), (3, .int (σ 0 45)), (4, .int 0), (5, .int 0)]) [2, 4, 1, 0] rfl (b165 i165 (0 : Int32) (0 : Int32) (upC (upC (upC (upC (upC s109 0 53 (0 : Int32)) 26 (σ 0 45).toNatClampNeg (σ 0 17)) 27 (σ 0 45).toNatClampNeg (s109 0 35)) 28 (σ 0 45).toNatClampNeg (s109 0 49)) 29 (σ 0 45).toNatClampNeg (s109 0 17)) t109 z109 u165)
            · have w33 := w109_.2 c
              exact g_vret hF rfl d_X14_bodyOf_121 ⟨rfl, w33⟩
          refine g_if_eq hF 97 d_X14_bodyOf_85 (by decide) rfl (fun c => ?_) (fun c => ?_)
          · have w34 := w5.1 c
            refine g_aload_n hF d_X14_bodyOf_97 rfl 0 rfl ?_
            refine g_iconst hF (v := 0) d_X14_bodyOf_98 (by decide) ?_
            refine g_iconst hF (v := 0) d_X14_bodyOf_99 (by decide) ?_
            refine g_callV (As := [.int 0, .int 0]) (rest := []) hF (fun l D cy => (ct_put_1 a r hc1 w34) l D cy) (Nat.le_of_ble_eq_true rfl) mV_X14_put_1 m_2433 (recv_ob obM_0) rfl rfl (Nat.le_of_ble_eq_true rfl) d_X14_bodyOf_100 (kV (fun s100 t100 z100 w35 => ?_)) (fun _ _ _ h => h.elim)
            refine g_aload_n hF d_X14_bodyOf_103 rfl 0 rfl ?_
            refine g_bipush hF (v := 21) d_X14_bodyOf_104 (by decide) ?_
            refine g_cap (fun hc35 => ?_)
            refine g_callV (As := [.int 21]) (rest := []) hF (fun l D cy => (ct_put_0 a r hc35 w35) l D cy) (Nat.le_of_ble_eq_true rfl) mV_X14_put_0 m_2437 (recv_ob obM_0) rfl rfl (Nat.le_of_ble_eq_true rfl) d_X14_bodyOf_106 (kV (fun s106 t106 z106 w37 => ?_)) (fun _ _ _ h => h.elim)
            exact b109 s106 t106 z106 w37
          · have w38 := w5.2 c
            refine g_aload_n hF d_X14_bodyOf_88 rfl 0 rfl ?_
            refine g_bipush hF (v := 20) d_X14_bodyOf_89 (by decide) ?_
            refine g_callV (As := [.int 20]) (rest := []) hF (fun l D cy => (ct_put_0 a r hc1 w38) l D cy) (Nat.le_of_ble_eq_true rfl) mV_X14_put_0 m_2437 (recv_ob obM_0) rfl rfl (Nat.le_of_ble_eq_true rfl) d_X14_bodyOf_91 (kV (fun s91 t91 z91 w39 => ?_)) (fun _ _ _ h => h.elim)
            refine g_goto hF 109 d_X14_bodyOf_94 (by decide) ?_
            exact b109 s91 t91 z91 w39
        · have w40 := w3.2 c
          refine g_aload_n hF d_X14_bodyOf_63 rfl 0 rfl ?_
          refine g_iconst hF (v := 1) d_X14_bodyOf_64 (by decide) ?_
          refine g_callV (As := [.int 1]) (rest := []) hF (fun l D cy => (ctS_statement a r hc1 w40) l D cy) (Nat.le_of_ble_eq_true rfl) mV_X14_statement m_2345 (recv_ob obM_0) rfl rfl (Nat.le_of_ble_eq_true rfl) d_X14_bodyOf_65 (kV (fun s65 t65 z65 w41 => ?_)) (fun σ9 τ9 vs9 h9 => g_out hF stopM rfl h9)
          refine g_goto hF 54 d_X14_bodyOf_68 (by decide) ?_
          obtain ⟨m54, hm54, w9⟩ := w41
          exact ih54 m54 hm54 s65 t65 z65 w9
    exact g_sub (L' := [(0, .ref (r 0)), (2, .int (σ 0 17)), (3, .int (σ 0 45))]) [2, 1, 0] rfl (b54 i54 (upC (upC (upC (upC (upC (upC σ 0 55 y1_11) 0 56 a1) 0 57 (0 : Int32)) 0 58 ((-1) : Int32)) 0 59 ((-1) : Int32)) 0 10 ((σ 0 10) + (1 : Int32))) τ vs u54)
  refine g_icmp_ne (yv := -1) hF 10 d_X14_bodyOf_3 (by decide) rfl (by decide) (fun c => ?_) (fun c => ?_)
  · have w42 := w1.1 c
    refine g_iconst hF (v := 0) d_X14_bodyOf_10 (by decide) ?_
    exact b11 (0 : Int32) (Or.inl rfl) w42
  · have w43 := w1.2 c
    refine g_iconst hF (v := 1) d_X14_bodyOf_6 (by decide) ?_
    refine g_goto hF 11 d_X14_bodyOf_7 (by decide) ?_
    exact b11 (1 : Int32) (Or.inr rfl) w43
def wp_function (a1 : Int32) (a2 : Int32) (a3 : Int32) (σ τ : St) (vs : List Nat) (Q : St → St → List Nat → Prop) (T : St → St → List Nat → Prop) : Prop :=
  wp_head σ τ vs (fun s1 t1 z1 => wp_is (22 : Int32) s1 t1 z1 (fun v7 => wp_entity a1 s1 t1 z1 (fun v14 => (∃ J162 : Int32 → St → St → List Nat → Prop, (∀ (x5_162 : Int32) (s162 t162 : St) (z162 : List Nat), J162 x5_162 s162 t162 z162 → ((v7.toInt ≠ 0 → (∃ J209 : St → St → List Nat → Prop, (∀ (s209 t209 : St) (z209 : List Nat), J209 s209 t209 z209 → (∃ L235 : Nat → Int32 → St → St → List Nat → Prop, (∃ n, L235 n (0 : Int32) (upC (upC (upC (upC s209 0 49 (0 : Int32)) 0 53 (0 : Int32)) 0 54 (1 : Int32)) 0 65 (s209 0 64)) t209 z209) ∧ ∀ (n235 : Nat) (x6_235 : Int32) (s235 t235 : St) (z235 : List Nat), L235 n235 x6_235 s235 t235 z235 → (((s235 0 64).toInt ≤ x6_235.toInt → wp_bodyOf a2 s235 t235 z235 (fun s359 t359 z359 => Q s359 t359 z359) T) ∧ (x6_235.toInt < (s235 0 64).toInt → ((0 ≤ x6_235.toInt ∧ x6_235.toInt < 8) ∧ (∃ J351 : St → St → List Nat → Prop, (∀ (s351 t351 : St) (z351 : List Nat), J351 s351 t351 z351 → (∃ m, m < n235 ∧ L235 m (x6_235 + 1) s351 t351 z351)) ∧ (0 ≤ (s235 38 x6_235.toNatClampNeg).toInt → ((0 ≤ x6_235.toInt ∧ x6_235.toInt < 8) ∧ wp_isHeldHere (s235 38 x6_235.toNatClampNeg) s235 t235 z235 (fun v297 => (∃ J308 : Int32 → Prop, (∀ (y1_308 : Int32), y1_308 = 0 ∨ y1_308 = 1 → J308 y1_308 → (((0 ≤ x6_235.toInt ∧ x6_235.toInt < 8) ∧ wp_must y1_308 (s235 38 x6_235.toNatClampNeg) s235 t235 z235 (fun s315 t315 z315 => ((0 ≤ x6_235.toInt ∧ x6_235.toInt < 8) ∧ ((0 ≤ x6_235.toInt ∧ x6_235.toInt < 8) ∧ wp_declareLocal (s315 38 x6_235.toNatClampNeg) (s315 37 x6_235.toNatClampNeg) s315 t315 z315 (fun v333 s333 t333 z333 => ((0 ≤ x6_235.toInt ∧ x6_235.toInt < 8) ∧ wp_hold (s333 38 x6_235.toNatClampNeg) v333 s333 t333 z333 (fun s348 t348 z348 => J351 s348 t348 z348))))))))) ∧ (v297.toInt ≠ 0 → J308 (0 : Int32)) ∧ (v297.toInt = 0 → J308 (1 : Int32)))))) ∧ ((s235 38 x6_235.toNatClampNeg).toInt < 0 → ((0 ≤ x6_235.toInt ∧ x6_235.toInt < 8) ∧ wp_tell (2 : Int32) (s235 39 x6_235.toNatClampNeg) s235 t235 z235 (fun s263 t263 z263 => ((0 ≤ x6_235.toInt ∧ x6_235.toInt < 8) ∧ ((0 ≤ x6_235.toInt ∧ x6_235.toInt < 8) ∧ wp_declareLocal (s263 39 x6_235.toNatClampNeg) (s263 37 x6_235.toNatClampNeg) s263 t263 z263 (fun v281 s281 t281 z281 => J351 s281 t281 z281)))))))))))) ∧ (x5_162.toInt < 0 → J209 s162 t162 z162) ∧ (0 ≤ x5_162.toInt → ((0 ≤ x5_162.toInt ∧ x5_162.toInt < 10000) ∧ ((s162 9 x5_162.toNatClampNeg).toInt ≠ 2 → J209 s162 t162 z162) ∧ ((s162 9 x5_162.toNatClampNeg).toInt = 2 → ((0 ≤ x5_162.toInt ∧ x5_162.toInt < 10000) ∧ ((0 ≤ x5_162.toInt ∧ x5_162.toInt < 10000) ∧ J209 (upC (upC s162 13 x5_162.toNatClampNeg (vp_nar .boolean (1 : Int32))) 17 x5_162.toNatClampNeg (s162 0 45)) t162 z162))))))) ∧ (v7.toInt = 0 → wp_expect (27 : Int32) s162 t162 z162 (fun s170 t170 z170 => Q s170 t170 z170) T))) ∧ (v14.toInt < 0 → wp_declare a1 (2 : Int32) s1 t1 z1 (fun v87 s87 t87 z87 => (v87.toInt < 0 → J162 v87 s87 t87 z87) ∧ (0 ≤ v87.toInt → ((0 ≤ v87.toInt ∧ v87.toInt < 10000) ∧ ((0 ≤ v87.toInt ∧ v87.toInt < 10000) ∧ ((0 ≤ v87.toInt ∧ v87.toInt < 10000) ∧ ∃ L127 : Nat → Int32 → St → St → List Nat → Prop, (∃ n, L127 n (0 : Int32) (upC (upC (upC s87 10 v87.toNatClampNeg a2) 12 v87.toNatClampNeg (vp_nar .boolean a3)) 15 v87.toNatClampNeg (s87 0 64)) t87 z87) ∧ ∀ (n127 : Nat) (x6_127 : Int32) (s127 t127 : St) (z127 : List Nat), L127 n127 x6_127 s127 t127 z127 → (((s127 0 64).toInt ≤ x6_127.toInt → J162 v87 s127 t127 z127) ∧ (x6_127.toInt < (s127 0 64).toInt → ((0 ≤ x6_127.toInt ∧ x6_127.toInt < 8) ∧ ((0 ≤ (((8 : Int32) * v87) + x6_127).toInt ∧ (((8 : Int32) * v87) + x6_127).toInt < 80000) ∧ ∃ m, m < n127 ∧ L127 m (x6_127 + 1) (upC s127 16 (((8 : Int32) * v87) + x6_127).toNatClampNeg (s127 37 x6_127.toNatClampNeg)) t127 z127)))))))))) ∧ (0 ≤ v14.toInt → ((0 ≤ v14.toInt ∧ v14.toInt < 10000) ∧ (∃ J77 : Int32 → Prop, (∀ (y1_77 : Int32), y1_77 = 0 ∨ y1_77 = 1 → J77 y1_77 → (wp_must y1_77 a1 s1 t1 z1 (fun s78 t78 z78 => J162 v14 s78 t78 z78))) ∧ (∃ J76 : Prop, (J76  → (J77 (0 : Int32))) ∧ ((s1 9 v14.toNatClampNeg).toInt ≠ 2 → J76) ∧ ((s1 9 v14.toNatClampNeg).toInt = 2 → wp_isSameHead v14 a2 s1 t1 z1 (fun v40 => (v40.toInt = 0 → J76) ∧ (v40.toInt ≠ 0 → ((0 ≤ v14.toInt ∧ v14.toInt < 10000) ∧ ((s1 12 v14.toNatClampNeg).toInt ≠ a3.toInt → J76) ∧ ((s1 12 v14.toNatClampNeg).toInt = a3.toInt → (∃ J72 : Prop, (J72  → (J77 (1 : Int32))) ∧ (v7.toInt = 0 → J72) ∧ (v7.toInt ≠ 0 → ((0 ≤ v14.toInt ∧ v14.toInt < 10000) ∧ ((s1 13 v14.toNatClampNeg).toInt ≠ 0 → J76) ∧ ((s1 13 v14.toNatClampNeg).toInt = 0 → J72))))))))))))))))) T
set_option maxHeartbeats 4000000 in
set_option maxRecDepth 100000 in
theorem ct_function (a : Nat → Nat) (r : Nat → Nat) {a1 : Int32} {a2 : Int32} {a3 : Int32} {σ τ : St} {vs : List Nat} {Q : St → St → List Nat → Prop} {T : St → St → List Nat → Prop} (hcap : vs.length ≤ CAP) (w : wp_function a1 a2 a3 σ τ vs Q T) (l : Launch) (D : va_G) (cy : Nat → ClassId) : Ct l D cy SM r (EM a) y_X14_function (Cond.code y_X14_function b_X14_function 8 none) 1232 [.ref (r 0), .int a1, .int a2, .int a3] σ τ vs (QVs Q) T := by
  unfold wp_function at w
  refine Ct_of (EM_ok a) (by decide) (Nat.le_of_ble_eq_true rfl) hcap (fun X hnn hF => ?_)
  show G SM r X σ τ vs [(0, .ref (r 0)), (1, .int a1), (2, .int a2), (3, .int a3)] [] 0
  refine g_aload_n hF d_X14_function_0 rfl 0 rfl ?_
  refine g_callV (As := []) (rest := []) hF (fun l D cy => (ct_head a r hcap w) l D cy) (Nat.le_of_ble_eq_true rfl) mV_X14_head m_2281 (recv_ob obM_0) rfl rfl (Nat.le_of_ble_eq_true rfl) d_X14_function_1 (kV (fun s1 t1 z1 w1 => ?_)) (fun σ9 τ9 vs9 h9 => g_out hF stopM rfl h9)
  refine g_aload_n hF d_X14_function_4 rfl 0 rfl ?_
  refine g_bipush hF (v := 22) d_X14_function_5 (by decide) ?_
  refine g_cap (fun hc1 => ?_)
  refine g_callV (As := [.int 22]) (rest := []) hF (fun l D cy => (ct_is a r hc1 w1) l D cy) (Nat.le_of_ble_eq_true rfl) mV_X14_is m_2289 (recv_ob obM_0) rfl rfl (Nat.le_of_ble_eq_true rfl) d_X14_function_7 (krZ (fun v7 hz7 w3 => ?_)) (fun _ _ _ h => h.elim)
  refine g_istore hF [(4, .int v7), (0, .ref (r 0)), (1, .int a1), (2, .int a2), (3, .int a3)] d_X14_function_10 hnn (by decide) rfl ?_
  refine g_aload_n hF d_X14_function_12 rfl 1 rfl ?_
  refine g_iload_n hF d_X14_function_13 rfl 2 rfl ?_
  refine g_callV (As := [.int a1]) (rest := []) hF (fun l D cy => (ct_entity a r hc1 w3) l D cy) (Nat.le_of_ble_eq_true rfl) mV_X14_entity m_2301 (recv_ob obM_0) rfl rfl (Nat.le_of_ble_eq_true rfl) d_X14_function_14 (krI (fun v14 w4 => ?_)) (fun _ _ _ h => h.elim)
  refine g_istore hF [(5, .int v14), (4, .int v7), (0, .ref (r 0)), (1, .int a1), (2, .int a2), (3, .int a3)] d_X14_function_17 hnn (by decide) rfl ?_
  refine g_iload hF d_X14_function_19 0 rfl ?_
  obtain ⟨J162, h162, w5⟩ := w4
  have b162 : ∀ (x5_162 : Int32) (s162 t162 : St) (z162 : List Nat), J162 x5_162 s162 t162 z162 → G SM r X s162 t162 z162 [(0, .ref (r 0)), (2, .int a2), (4, .int v7), (5, .int x5_162)] [] 162 := by
    intro x5_162 s162 t162 z162  w162_
    have w162_ := h162 x5_162 s162 t162 z162  w162_
    refine g_iload hF d_X14_function_162 2 rfl ?_
    refine g_if_ne hF 174 d_X14_function_164 (by decide) rfl (fun c => ?_) (fun c => ?_)
    · have w6 := w162_.1 c
      refine g_iload hF d_X14_function_174 3 rfl ?_
      obtain ⟨J209, h209, w7⟩ := w6
      have b209 : ∀ (s209 t209 : St) (z209 : List Nat), J209 s209 t209 z209 → G SM r X s209 t209 z209 [(0, .ref (r 0)), (2, .int a2)] [] 209 := by
        intro s209 t209 z209  w209_
        have w209_ := h209 s209 t209 z209  w209_
        refine g_aload_n hF d_X14_function_209 rfl 0 rfl ?_
        refine g_iconst hF (v := 0) d_X14_function_210 (by decide) ?_
        refine g_put (v := 0) hF 49 obM_0 (by decide) m_1914 rfl rfl rfl d_X14_function_211 ?_
        refine g_aload_n hF d_X14_function_214 rfl 0 rfl ?_
        refine g_iconst hF (v := 0) d_X14_function_215 (by decide) ?_
        refine g_put (v := 0) hF 53 obM_0 (by decide) m_1918 rfl rfl rfl d_X14_function_216 ?_
        refine g_aload_n hF d_X14_function_219 rfl 0 rfl ?_
        refine g_iconst hF (v := 1) d_X14_function_220 (by decide) ?_
        refine g_put (v := 1) hF 54 obM_0 (by decide) m_1919 rfl rfl rfl d_X14_function_221 ?_
        refine g_aload_n hF d_X14_function_224 rfl 0 rfl ?_
        refine g_aload_n hF d_X14_function_225 rfl 0 rfl ?_
        refine g_get (v := .int (s209 0 64)) hF 64 obM_0 (by decide) m_1929 rfl d_X14_function_226 ?_
        refine g_put (v := (s209 0 64)) hF 65 obM_0 (by decide) m_1930 rfl rfl rfl d_X14_function_229 ?_
        refine g_iconst hF (v := 0) d_X14_function_232 (by decide) ?_
        refine g_istore hF [(6, .int 0), (0, .ref (r 0)), (2, .int a2)] d_X14_function_233 hnn (by decide) rfl ?_
        obtain ⟨L235, ⟨i235, u235⟩, h235⟩ := w209_
        have b235 : ∀ (n235 : Nat) (x6_235 : Int32) (s235 t235 : St) (z235 : List Nat), L235 n235 x6_235 s235 t235 z235 → G SM r X s235 t235 z235 [(0, .ref (r 0)), (2, .int a2), (6, .int x6_235)] [] 235 := by
          intro n235
          induction n235 using Nat.strongRecOn with
          | _ n235 ih235 =>
            intro x6_235 s235 t235 z235  w235_
            have w235_ := h235 n235 x6_235 s235 t235 z235  w235_
            refine g_iload hF d_X14_function_235 2 rfl ?_
            refine g_aload_n hF d_X14_function_237 rfl 0 rfl ?_
            refine g_get (v := .int (s235 0 64)) hF 64 obM_0 (by decide) m_1929 rfl d_X14_function_238 ?_
            refine g_icmp_ge hF 357 d_X14_function_241 (by decide) rfl rfl (fun c => ?_) (fun c => ?_)
            · have w8 := w235_.1 c
              refine g_aload_n hF d_X14_function_357 rfl 0 rfl ?_
              refine g_iload_n hF d_X14_function_358 rfl 1 rfl ?_
              refine g_cap (fun hc8 => ?_)
              refine g_callV (As := [.int a2]) (rest := []) hF (fun l D cy => (ct_bodyOf a r hc8 w8) l D cy) (Nat.le_of_ble_eq_true rfl) mV_X14_bodyOf m_2341 (recv_ob obM_0) rfl rfl (Nat.le_of_ble_eq_true rfl) d_X14_function_359 (kV (fun s359 t359 z359 w10 => ?_)) (fun σ9 τ9 vs9 h9 => g_out hF stopM rfl h9)
              exact g_vret hF rfl d_X14_function_362 ⟨rfl, w10⟩
            · have w11 := w235_.2 c
              refine g_aload_n hF d_X14_function_244 rfl 0 rfl ?_
              refine g_get (v := .ref (r 38)) hF 62 obM_0 (by decide) m_1927 rfl d_X14_function_245 ?_
              refine g_iload hF d_X14_function_248 2 rfl ?_
              have w12 := w11.2
              refine g_iald hF arM_38 (s_in (Nat.le_of_ble_eq_true rfl) w11.1.1 w11.1.2) d_X14_function_250 ?_
              refine g_top (v := (s235 38 x6_235.toNatClampNeg)) rfl ?_
              obtain ⟨J351, h351, w13⟩ := w12
              have b351 : ∀ (s351 t351 : St) (z351 : List Nat), J351 s351 t351 z351 → G SM r X s351 t351 z351 [(0, .ref (r 0)), (2, .int a2), (6, .int x6_235)] [] 351 := by
                intro s351 t351 z351  w351_
                have w351_ := h351 s351 t351 z351  w351_
                refine g_iinc hF (x6_235 + 1) [(6, .int (x6_235 + 1)), (0, .ref (r 0)), (2, .int a2)] d_X14_function_351 2 rfl rfl hnn (by decide) rfl ?_
                refine g_goto hF 235 d_X14_function_354 (by decide) ?_
                obtain ⟨m235, hm235, w9⟩ := w351_
                exact g_sub (L' := [(0, .ref (r 0)), (2, .int a2), (6, .int (x6_235 + 1))]) [1, 2, 0] rfl (ih235 m235 hm235 (x6_235 + 1) s351 t351 z351 w9)
              refine g_if_ge hF 288 d_X14_function_251 (by decide) rfl (fun c => ?_) (fun c => ?_)
              · have w14 := w13.1 c
                refine g_aload_n hF d_X14_function_288 rfl 0 rfl ?_
                refine g_aload_n hF d_X14_function_289 rfl 0 rfl ?_
                refine g_aload_n hF d_X14_function_290 rfl 0 rfl ?_
                refine g_get (v := .ref (r 38)) hF 62 obM_0 (by decide) m_1927 rfl d_X14_function_291 ?_
                refine g_iload hF d_X14_function_294 2 rfl ?_
                have w15 := w14.2
                refine g_iald hF arM_38 (s_in (Nat.le_of_ble_eq_true rfl) w14.1.1 w14.1.2) d_X14_function_296 ?_
                refine g_top (v := (s235 38 x6_235.toNatClampNeg)) rfl ?_
                refine g_cap (fun hc15 => ?_)
                refine g_callV (As := [.int (s235 38 x6_235.toNatClampNeg)]) (rest := [.ref (r 0)]) hF (fun l D cy => (ct_isHeldHere a r hc15 w15) l D cy) (Nat.le_of_ble_eq_true rfl) mV_X14_isHeldHere m_2329 (recv_ob obM_0) rfl rfl (Nat.le_of_ble_eq_true rfl) d_X14_function_297 (krZ (fun v297 hz297 w17 => ?_)) (fun _ _ _ h => h.elim)
                obtain ⟨J308, h308, w18⟩ := w17
                have b308 : ∀ (y1_308 : Int32), y1_308 = 0 ∨ y1_308 = 1 → J308 y1_308 → G SM r X s235 t235 z235 [(0, .ref (r 0)), (2, .int a2), (6, .int x6_235)] [.int y1_308, .ref (r 0)] 308 := by
                  intro y1_308 hy1_308 w308_
                  have w308_ := h308 y1_308 hy1_308 w308_
                  refine g_aload_n hF d_X14_function_308 rfl 0 rfl ?_
                  refine g_get (v := .ref (r 38)) hF 62 obM_0 (by decide) m_1927 rfl d_X14_function_309 ?_
                  refine g_iload hF d_X14_function_312 2 rfl ?_
                  have w19 := w308_.2
                  refine g_iald hF arM_38 (s_in (Nat.le_of_ble_eq_true rfl) w308_.1.1 w308_.1.2) d_X14_function_314 ?_
                  refine g_top (v := (s235 38 x6_235.toNatClampNeg)) rfl ?_
                  refine g_callV (As := [.int y1_308, .int (s235 38 x6_235.toNatClampNeg)]) (rest := []) hF (fun l D cy => (ct_must a r hc15 w19) l D cy) (Nat.le_of_ble_eq_true rfl) mV_X14_must m_2313 (recv_ob obM_0) rfl rfl (Nat.le_of_ble_eq_true rfl) d_X14_function_315 (kV (fun s315 t315 z315 w20 => ?_)) (fun _ _ _ h => h.elim)
                  refine g_aload_n hF d_X14_function_318 rfl 0 rfl ?_
                  refine g_aload_n hF d_X14_function_319 rfl 0 rfl ?_
                  refine g_get (v := .ref (r 38)) hF 62 obM_0 (by decide) m_1927 rfl d_X14_function_320 ?_
                  refine g_iload hF d_X14_function_323 2 rfl ?_
                  have w21 := w20.2
                  refine g_iald hF arM_38 (s_in (Nat.le_of_ble_eq_true rfl) w20.1.1 w20.1.2) d_X14_function_325 ?_
                  refine g_top (v := (s315 38 x6_235.toNatClampNeg)) rfl ?_
                  refine g_aload_n hF d_X14_function_326 rfl 0 rfl ?_
                  refine g_get (v := .ref (r 37)) hF 61 obM_0 (by decide) m_1926 rfl d_X14_function_327 ?_
                  refine g_iload hF d_X14_function_330 2 rfl ?_
                  have w22 := w21.2
                  refine g_iald hF arM_37 (s_in (Nat.le_of_ble_eq_true rfl) w21.1.1 w21.1.2) d_X14_function_332 ?_
                  refine g_top (v := (s315 37 x6_235.toNatClampNeg)) rfl ?_
                  refine g_cap (fun hc22 => ?_)
                  refine g_callV (As := [.int (s315 38 x6_235.toNatClampNeg), .int (s315 37 x6_235.toNatClampNeg)]) (rest := []) hF (fun l D cy => (ct_declareLocal a r hc22 w22) l D cy) (Nat.le_of_ble_eq_true rfl) mV_X14_declareLocal m_2325 (recv_ob obM_0) rfl rfl (Nat.le_of_ble_eq_true rfl) d_X14_function_333 (kI (fun v333 s333 t333 z333 w24 => ?_)) (fun _ _ _ h => h.elim)
                  refine g_istore hF [(7, .int v333), (0, .ref (r 0)), (2, .int a2), (6, .int x6_235)] d_X14_function_336 hnn (by decide) rfl ?_
                  refine g_aload_n hF d_X14_function_338 rfl 1 rfl ?_
                  refine g_aload_n hF d_X14_function_339 rfl 1 rfl ?_
                  refine g_get (v := .ref (r 38)) hF 62 obM_0 (by decide) m_1927 rfl d_X14_function_340 ?_
                  refine g_iload hF d_X14_function_343 3 rfl ?_
                  have w25 := w24.2
                  refine g_iald hF arM_38 (s_in (Nat.le_of_ble_eq_true rfl) w24.1.1 w24.1.2) d_X14_function_345 ?_
                  refine g_top (v := (s333 38 x6_235.toNatClampNeg)) rfl ?_
                  refine g_iload hF d_X14_function_346 0 rfl ?_
                  refine g_cap (fun hc25 => ?_)
                  refine g_callV (As := [.int (s333 38 x6_235.toNatClampNeg), .int v333]) (rest := []) hF (fun l D cy => (ct_hold a r hc25 w25) l D cy) (Nat.le_of_ble_eq_true rfl) mV_X14_hold m_2337 (recv_ob obM_0) rfl rfl (Nat.le_of_ble_eq_true rfl) d_X14_function_348 (kV (fun s348 t348 z348 w27 => ?_)) (fun _ _ _ h => h.elim)
                  exact g_sub (L' := [(0, .ref (r 0)), (2, .int a2), (6, .int x6_235)]) [1, 2, 3] rfl (b351 s348 t348 z348 w27)
                refine g_if_ne hF 307 d_X14_function_300 (by decide) rfl (fun c => ?_) (fun c => ?_)
                · have w28 := w18.1 c
                  refine g_iconst hF (v := 0) d_X14_function_307 (by decide) ?_
                  exact b308 (0 : Int32) (Or.inl rfl) w28
                · have w29 := w18.2 c
                  refine g_iconst hF (v := 1) d_X14_function_303 (by decide) ?_
                  refine g_goto hF 308 d_X14_function_304 (by decide) ?_
                  exact b308 (1 : Int32) (Or.inr rfl) w29
              · have w30 := w13.2 c
                refine g_aload_n hF d_X14_function_254 rfl 0 rfl ?_
                refine g_iconst hF (v := 2) d_X14_function_255 (by decide) ?_
                refine g_aload_n hF d_X14_function_256 rfl 0 rfl ?_
                refine g_get (v := .ref (r 39)) hF 63 obM_0 (by decide) m_1928 rfl d_X14_function_257 ?_
                refine g_iload hF d_X14_function_260 2 rfl ?_
                have w31 := w30.2
                refine g_iald hF arM_39 (s_in (Nat.le_of_ble_eq_true rfl) w30.1.1 w30.1.2) d_X14_function_262 ?_
                refine g_top (v := (s235 39 x6_235.toNatClampNeg)) rfl ?_
                refine g_cap (fun hc31 => ?_)
                refine g_callV (As := [.int 2, .int (s235 39 x6_235.toNatClampNeg)]) (rest := []) hF (fun l D cy => (ct_tell a r hc31 w31) l D cy) (Nat.le_of_ble_eq_true rfl) mV_X14_tell m_2317 (recv_ob obM_0) rfl rfl (Nat.le_of_ble_eq_true rfl) d_X14_function_263 (kV (fun s263 t263 z263 w33 => ?_)) (fun _ _ _ h => h.elim)
                refine g_aload_n hF d_X14_function_266 rfl 0 rfl ?_
                refine g_aload_n hF d_X14_function_267 rfl 0 rfl ?_
                refine g_get (v := .ref (r 39)) hF 63 obM_0 (by decide) m_1928 rfl d_X14_function_268 ?_
                refine g_iload hF d_X14_function_271 2 rfl ?_
                have w34 := w33.2
                refine g_iald hF arM_39 (s_in (Nat.le_of_ble_eq_true rfl) w33.1.1 w33.1.2) d_X14_function_273 ?_
                refine g_top (v := (s263 39 x6_235.toNatClampNeg)) rfl ?_
                refine g_aload_n hF d_X14_function_274 rfl 0 rfl ?_
                refine g_get (v := .ref (r 37)) hF 61 obM_0 (by decide) m_1926 rfl d_X14_function_275 ?_
                refine g_iload hF d_X14_function_278 2 rfl ?_
                have w35 := w34.2
                refine g_iald hF arM_37 (s_in (Nat.le_of_ble_eq_true rfl) w34.1.1 w34.1.2) d_X14_function_280 ?_
                refine g_top (v := (s263 37 x6_235.toNatClampNeg)) rfl ?_
                refine g_cap (fun hc35 => ?_)
                refine g_callV (As := [.int (s263 39 x6_235.toNatClampNeg), .int (s263 37 x6_235.toNatClampNeg)]) (rest := []) hF (fun l D cy => (ct_declareLocal a r hc35 w35) l D cy) (Nat.le_of_ble_eq_true rfl) mV_X14_declareLocal m_2325 (recv_ob obM_0) rfl rfl (Nat.le_of_ble_eq_true rfl) d_X14_function_281 (kI (fun v281 s281 t281 z281 w37 => ?_)) (fun _ _ _ h => h.elim)
                refine g_pop hF d_X14_function_284 rfl ?_
                refine g_goto hF 351 d_X14_function_285 (by decide) ?_
                exact b351 s281 t281 z281 w37
        exact g_sub (L' := [(0, .ref (r 0)), (2, .int a2), (6, .int 0)]) [1, 2, 0] rfl (b235 i235 (0 : Int32) (upC (upC (upC (upC s209 0 49 (0 : Int32)) 0 53 (0 : Int32)) 0 54 (1 : Int32)) 0 65 (s209 0 64)) t209 z209 u235)
      refine g_if_lt hF 209 d_X14_function_176 (by decide) rfl (fun c => ?_) (fun c => ?_)
      · have w38 := w7.1 c
        exact g_sub (L' := [(0, .ref (r 0)), (2, .int a2)]) [0, 1] rfl (b209 s162 t162 z162 w38)
      · have w39 := w7.2 c
        refine g_aload_n hF d_X14_function_179 rfl 0 rfl ?_
        refine g_get (v := .ref (r 9)) hF 18 obM_0 (by decide) m_1883 rfl d_X14_function_180 ?_
        refine g_iload hF d_X14_function_183 3 rfl ?_
        have w40 := w39.2
        refine g_iald hF arM_9 (s_in (Nat.le_of_ble_eq_true rfl) w39.1.1 w39.1.2) d_X14_function_185 ?_
        refine g_top (v := (s162 9 x5_162.toNatClampNeg)) rfl ?_
        refine g_iconst hF (v := 2) d_X14_function_186 (by decide) ?_
        refine g_icmp_ne (yv := 2) hF 209 d_X14_function_187 (by decide) rfl (by decide) (fun c => ?_) (fun c => ?_)
        · have w41 := w40.1 c
          exact g_sub (L' := [(0, .ref (r 0)), (2, .int a2)]) [0, 1] rfl (b209 s162 t162 z162 w41)
        · have w42 := w40.2 c
          refine g_aload_n hF d_X14_function_190 rfl 0 rfl ?_
          refine g_get (v := .ref (r 13)) hF 22 obM_0 (by decide) m_1887 rfl d_X14_function_191 ?_
          refine g_iload hF d_X14_function_194 3 rfl ?_
          refine g_iconst hF (v := 1) d_X14_function_196 (by decide) ?_
          have w43 := w42.2
          refine g_zast hF arM_13 (s_in (Nat.le_of_ble_eq_true rfl) w42.1.1 w42.1.2) d_X14_function_197 ?_
          refine g_aload_n hF d_X14_function_198 rfl 0 rfl ?_
          refine g_get (v := .ref (r 17)) hF 26 obM_0 (by decide) m_1891 rfl d_X14_function_199 ?_
          refine g_iload hF d_X14_function_202 3 rfl ?_
          refine g_aload_n hF d_X14_function_204 rfl 0 rfl ?_
          refine g_get (v := .int (s162 0 45)) hF 45 obM_0 (by decide) m_1910 rfl d_X14_function_205 ?_
          have w44 := w43.2
          refine g_iast hF arM_17 (s_in (Nat.le_of_ble_eq_true rfl) w43.1.1 w43.1.2) d_X14_function_208 ?_
          exact g_sub (L' := [(0, .ref (r 0)), (2, .int a2)]) [0, 1] rfl (b209 (upC (upC s162 13 x5_162.toNatClampNeg (vp_nar .boolean (1 : Int32))) 17 x5_162.toNatClampNeg (s162 0 45)) t162 z162 w44)
    · have w45 := w162_.2 c
      refine g_aload_n hF d_X14_function_167 rfl 0 rfl ?_
      refine g_bipush hF (v := 27) d_X14_function_168 (by decide) ?_
      refine g_cap (fun hc45 => ?_)
      refine g_callV (As := [.int 27]) (rest := []) hF (fun l D cy => (ct_expect a r hc45 w45) l D cy) (Nat.le_of_ble_eq_true rfl) mV_X14_expect m_2285 (recv_ob obM_0) rfl rfl (Nat.le_of_ble_eq_true rfl) d_X14_function_170 (kV (fun s170 t170 z170 w47 => ?_)) (fun σ9 τ9 vs9 h9 => g_out hF stopM rfl h9)
      exact g_vret hF rfl d_X14_function_173 ⟨rfl, w47⟩
  refine g_if_lt hF 84 d_X14_function_21 (by decide) rfl (fun c => ?_) (fun c => ?_)
  · have w48 := w5.1 c
    refine g_aload_n hF d_X14_function_84 rfl 2 rfl ?_
    refine g_iload_n hF d_X14_function_85 rfl 3 rfl ?_
    refine g_iconst hF (v := 2) d_X14_function_86 (by decide) ?_
    refine g_callV (As := [.int a1, .int 2]) (rest := []) hF (fun l D cy => (ct_declare a r hc1 w48) l D cy) (Nat.le_of_ble_eq_true rfl) mV_X14_declare m_2321 (recv_ob obM_0) rfl rfl (Nat.le_of_ble_eq_true rfl) d_X14_function_87 (kI (fun v87 s87 t87 z87 w49 => ?_)) (fun _ _ _ h => h.elim)
    refine g_istore hF [(5, .int v87), (4, .int v7), (0, .ref (r 0)), (1, .int a1), (2, .int a2), (3, .int a3)] d_X14_function_90 hnn (by decide) rfl ?_
    refine g_iload hF d_X14_function_92 0 rfl ?_
    refine g_if_lt hF 162 d_X14_function_94 (by decide) rfl (fun c => ?_) (fun c => ?_)
    · have w50 := w49.1 c
      exact g_sub (L' := [(0, .ref (r 0)), (2, .int a2), (4, .int v7), (5, .int v87)]) [2, 4, 1, 0] rfl (b162 v87 s87 t87 z87 w50)
    · have w51 := w49.2 c
      refine g_aload_n hF d_X14_function_97 rfl 2 rfl ?_
      refine g_get (v := .ref (r 10)) hF 19 obM_0 (by decide) m_1884 rfl d_X14_function_98 ?_
      refine g_iload hF d_X14_function_101 0 rfl ?_
      refine g_iload_n hF d_X14_function_103 rfl 4 rfl ?_
      have w52 := w51.2
      refine g_iast hF arM_10 (s_in (Nat.le_of_ble_eq_true rfl) w51.1.1 w51.1.2) d_X14_function_104 ?_
      refine g_aload_n hF d_X14_function_105 rfl 2 rfl ?_
      refine g_get (v := .ref (r 12)) hF 21 obM_0 (by decide) m_1886 rfl d_X14_function_106 ?_
      refine g_iload hF d_X14_function_109 0 rfl ?_
      refine g_iload_n hF d_X14_function_111 rfl 5 rfl ?_
      have w53 := w52.2
      refine g_zast hF arM_12 (s_in (Nat.le_of_ble_eq_true rfl) w52.1.1 w52.1.2) d_X14_function_112 ?_
      refine g_aload_n hF d_X14_function_113 rfl 2 rfl ?_
      refine g_get (v := .ref (r 15)) hF 24 obM_0 (by decide) m_1889 rfl d_X14_function_114 ?_
      refine g_iload hF d_X14_function_117 0 rfl ?_
      refine g_aload_n hF d_X14_function_119 rfl 2 rfl ?_
      refine g_get (v := .int (s87 0 64)) hF 64 obM_0 (by decide) m_1929 rfl d_X14_function_120 ?_
      have w54 := w53.2
      refine g_iast hF arM_15 (s_in (Nat.le_of_ble_eq_true rfl) w53.1.1 w53.1.2) d_X14_function_123 ?_
      refine g_iconst hF (v := 0) d_X14_function_124 (by decide) ?_
      refine g_istore hF [(6, .int 0), (5, .int v87), (4, .int v7), (0, .ref (r 0)), (1, .int a1), (2, .int a2), (3, .int a3)] d_X14_function_125 hnn (by decide) rfl ?_
      obtain ⟨L127, ⟨i127, u127⟩, h127⟩ := w54
      have b127 : ∀ (n127 : Nat) (x6_127 : Int32) (s127 t127 : St) (z127 : List Nat), L127 n127 x6_127 s127 t127 z127 → G SM r X s127 t127 z127 [(0, .ref (r 0)), (2, .int a2), (4, .int v7), (5, .int v87), (6, .int x6_127)] [] 127 := by
        intro n127
        induction n127 using Nat.strongRecOn with
        | _ n127 ih127 =>
          intro x6_127 s127 t127 z127  w127_
          have w127_ := h127 n127 x6_127 s127 t127 z127  w127_
          refine g_iload hF d_X14_function_127 4 rfl ?_
          refine g_aload_n hF d_X14_function_129 rfl 0 rfl ?_
          refine g_get (v := .int (s127 0 64)) hF 64 obM_0 (by decide) m_1929 rfl d_X14_function_130 ?_
          refine g_icmp_ge hF 162 d_X14_function_133 (by decide) rfl rfl (fun c => ?_) (fun c => ?_)
          · have w55 := w127_.1 c
            exact g_sub (L' := [(0, .ref (r 0)), (2, .int a2), (4, .int v7), (5, .int v87)]) [0, 1, 2, 3] rfl (b162 v87 s127 t127 z127 w55)
          · have w56 := w127_.2 c
            refine g_aload_n hF d_X14_function_136 rfl 0 rfl ?_
            refine g_get (v := .ref (r 16)) hF 25 obM_0 (by decide) m_1890 rfl d_X14_function_137 ?_
            refine g_bipush hF (v := 8) d_X14_function_140 (by decide) ?_
            refine g_iload hF d_X14_function_142 3 rfl ?_
            refine g_imul hF d_X14_function_144 ?_
            refine g_iload hF d_X14_function_145 4 rfl ?_
            refine g_iadd hF d_X14_function_147 ?_
            refine g_aload_n hF d_X14_function_148 rfl 0 rfl ?_
            refine g_get (v := .ref (r 37)) hF 61 obM_0 (by decide) m_1926 rfl d_X14_function_149 ?_
            refine g_iload hF d_X14_function_152 4 rfl ?_
            have w57 := w56.2
            refine g_iald hF arM_37 (s_in (Nat.le_of_ble_eq_true rfl) w56.1.1 w56.1.2) d_X14_function_154 ?_
            refine g_top (v := (s127 37 x6_127.toNatClampNeg)) rfl ?_
            have w58 := w57.2
            refine g_iast hF arM_16 (s_in (Nat.le_of_ble_eq_true rfl) w57.1.1 w57.1.2) d_X14_function_155 ?_
            refine g_iinc hF (x6_127 + 1) [(6, .int (x6_127 + 1)), (0, .ref (r 0)), (2, .int a2), (4, .int v7), (5, .int v87)] d_X14_function_156 4 rfl rfl hnn (by decide) rfl ?_
            refine g_goto hF 127 d_X14_function_159 (by decide) ?_
            obtain ⟨m127, hm127, w9⟩ := w58
            exact g_sub (L' := [(0, .ref (r 0)), (2, .int a2), (4, .int v7), (5, .int v87), (6, .int (x6_127 + 1))]) [1, 2, 3, 4, 0] rfl (ih127 m127 hm127 (x6_127 + 1) (upC s127 16 (((8 : Int32) * v87) + x6_127).toNatClampNeg (s127 37 x6_127.toNatClampNeg)) t127 z127 w9)
      exact g_sub (L' := [(0, .ref (r 0)), (2, .int a2), (4, .int v7), (5, .int v87), (6, .int 0)]) [3, 5, 2, 1, 0] rfl (b127 i127 (0 : Int32) (upC (upC (upC s87 10 v87.toNatClampNeg a2) 12 v87.toNatClampNeg (vp_nar .boolean a3)) 15 v87.toNatClampNeg (s87 0 64)) t87 z87 u127)
  · have w59 := w5.2 c
    refine g_aload_n hF d_X14_function_24 rfl 2 rfl ?_
    refine g_aload_n hF d_X14_function_25 rfl 2 rfl ?_
    refine g_get (v := .ref (r 9)) hF 18 obM_0 (by decide) m_1883 rfl d_X14_function_26 ?_
    refine g_iload hF d_X14_function_29 0 rfl ?_
    have w60 := w59.2
    refine g_iald hF arM_9 (s_in (Nat.le_of_ble_eq_true rfl) w59.1.1 w59.1.2) d_X14_function_31 ?_
    refine g_top (v := (s1 9 v14.toNatClampNeg)) rfl ?_
    refine g_iconst hF (v := 2) d_X14_function_32 (by decide) ?_
    obtain ⟨J77, h77, w61⟩ := w60
    have b77 : ∀ (y1_77 : Int32), y1_77 = 0 ∨ y1_77 = 1 → J77 y1_77 → G SM r X s1 t1 z1 [(0, .ref (r 0)), (1, .int a1), (2, .int a2), (4, .int v7), (5, .int v14)] [.int y1_77, .ref (r 0)] 77 := by
      intro y1_77 hy1_77 w77_
      have w77_ := h77 y1_77 hy1_77 w77_
      refine g_iload_n hF d_X14_function_77 rfl 1 rfl ?_
      refine g_callV (As := [.int y1_77, .int a1]) (rest := []) hF (fun l D cy => (ct_must a r hc1 w77_) l D cy) (Nat.le_of_ble_eq_true rfl) mV_X14_must m_2313 (recv_ob obM_0) rfl rfl (Nat.le_of_ble_eq_true rfl) d_X14_function_78 (kV (fun s78 t78 z78 w62 => ?_)) (fun _ _ _ h => h.elim)
      refine g_goto hF 162 d_X14_function_81 (by decide) ?_
      exact g_sub (L' := [(0, .ref (r 0)), (2, .int a2), (4, .int v7), (5, .int v14)]) [0, 2, 3, 4] rfl (b162 v14 s78 t78 z78 w62)
    obtain ⟨J76, h76, w63⟩ := w61
    have b76 : J76  → G SM r X s1 t1 z1 [(0, .ref (r 0)), (1, .int a1), (2, .int a2), (4, .int v7), (5, .int v14)] [.ref (r 0)] 76 := by
      intro   w76_
      have w76_ := h76   w76_
      refine g_iconst hF (v := 0) d_X14_function_76 (by decide) ?_
      exact b77 (0 : Int32) (Or.inl rfl) w76_
    refine g_icmp_ne (yv := 2) hF 76 d_X14_function_33 (by decide) rfl (by decide) (fun c => ?_) (fun c => ?_)
    · have w64 := w63.1 c
      exact g_sub (L' := [(0, .ref (r 0)), (1, .int a1), (2, .int a2), (4, .int v7), (5, .int v14)]) [2, 3, 4, 1, 0] rfl (b76  w64)
    · have w65 := w63.2 c
      refine g_aload_n hF d_X14_function_36 rfl 2 rfl ?_
      refine g_iload hF d_X14_function_37 0 rfl ?_
      refine g_iload_n hF d_X14_function_39 rfl 4 rfl ?_
      refine g_callV (As := [.int v14, .int a2]) (rest := [.ref (r 0)]) hF (fun l D cy => (ct_isSameHead a r hc1 w65) l D cy) (Nat.le_of_ble_eq_true rfl) mV_X14_isSameHead m_2309 (recv_ob obM_0) rfl rfl (Nat.le_of_ble_eq_true rfl) d_X14_function_40 (krZ (fun v40 hz40 w66 => ?_)) (fun _ _ _ h => h.elim)
      refine g_if_eq hF 76 d_X14_function_43 (by decide) rfl (fun c => ?_) (fun c => ?_)
      · have w67 := w66.1 c
        exact g_sub (L' := [(0, .ref (r 0)), (1, .int a1), (2, .int a2), (4, .int v7), (5, .int v14)]) [2, 3, 4, 1, 0] rfl (b76  w67)
      · have w68 := w66.2 c
        refine g_aload_n hF d_X14_function_46 rfl 2 rfl ?_
        refine g_get (v := .ref (r 12)) hF 21 obM_0 (by decide) m_1886 rfl d_X14_function_47 ?_
        refine g_iload hF d_X14_function_50 0 rfl ?_
        have w69 := w68.2
        refine g_zald hF arM_12 (s_in (Nat.le_of_ble_eq_true rfl) w68.1.1 w68.1.2) d_X14_function_52 ?_
        refine g_top (v := (s1 12 v14.toNatClampNeg)) rfl ?_
        refine g_iload_n hF d_X14_function_53 rfl 5 rfl ?_
        refine g_icmp_ne hF 76 d_X14_function_54 (by decide) rfl rfl (fun c => ?_) (fun c => ?_)
        · have w70 := w69.1 c
          exact g_sub (L' := [(0, .ref (r 0)), (1, .int a1), (2, .int a2), (4, .int v7), (5, .int v14)]) [2, 3, 4, 1, 0] rfl (b76  w70)
        · have w71 := w69.2 c
          refine g_iload hF d_X14_function_57 1 rfl ?_
          obtain ⟨J72, h72, w72⟩ := w71
          have b72 : J72  → G SM r X s1 t1 z1 [(0, .ref (r 0)), (1, .int a1), (2, .int a2), (4, .int v7), (5, .int v14)] [.ref (r 0)] 72 := by
            intro   w72_
            have w72_ := h72   w72_
            refine g_iconst hF (v := 1) d_X14_function_72 (by decide) ?_
            refine g_goto hF 77 d_X14_function_73 (by decide) ?_
            exact b77 (1 : Int32) (Or.inr rfl) w72_
          refine g_if_eq hF 72 d_X14_function_59 (by decide) rfl (fun c => ?_) (fun c => ?_)
          · have w73 := w72.1 c
            exact g_sub (L' := [(0, .ref (r 0)), (1, .int a1), (2, .int a2), (4, .int v7), (5, .int v14)]) [2, 3, 4, 1, 0] rfl (b72  w73)
          · have w74 := w72.2 c
            refine g_aload_n hF d_X14_function_62 rfl 2 rfl ?_
            refine g_get (v := .ref (r 13)) hF 22 obM_0 (by decide) m_1887 rfl d_X14_function_63 ?_
            refine g_iload hF d_X14_function_66 0 rfl ?_
            have w75 := w74.2
            refine g_zald hF arM_13 (s_in (Nat.le_of_ble_eq_true rfl) w74.1.1 w74.1.2) d_X14_function_68 ?_
            refine g_top (v := (s1 13 v14.toNatClampNeg)) rfl ?_
            refine g_if_ne hF 76 d_X14_function_69 (by decide) rfl (fun c => ?_) (fun c => ?_)
            · have w76 := w75.1 c
              exact g_sub (L' := [(0, .ref (r 0)), (1, .int a1), (2, .int a2), (4, .int v7), (5, .int v14)]) [2, 3, 4, 1, 0] rfl (b76  w76)
            · have w77 := w75.2 c
              exact g_sub (L' := [(0, .ref (r 0)), (1, .int a1), (2, .int a2), (4, .int v7), (5, .int v14)]) [2, 3, 4, 1, 0] rfl (b72  w77)
def wp_item (σ τ : St) (vs : List Nat) (Q : St → St → List Nat → Prop) (T : St → St → List Nat → Prop) : Prop :=
  wp_isWord (7 : Int32) σ τ vs (fun v3 => wp_isWord (8 : Int32) σ τ vs (fun v10 => (∃ J32 : St → St → List Nat → Prop, (∀ (s32 t32 : St) (z32 : List Nat), J32 s32 t32 z32 → (((0 ≤ (s32 0 10).toInt ∧ (s32 0 10).toInt < 16002) ∧ ((s32 2 (s32 0 10).toNatClampNeg).toInt ≠ 6 → ((0 ≤ (s32 0 10).toInt ∧ (s32 0 10).toInt < 16002) ∧ ((s32 2 (s32 0 10).toNatClampNeg).toInt = 5 → wp_stars (upC s32 0 10 ((s32 0 10) + (1 : Int32))) t32 z32 (fun v131 s131 t131 z131 => ((0 ≤ (s131 0 10).toInt ∧ (s131 0 10).toInt < 16002) ∧ ((s131 2 (s131 0 10).toNatClampNeg).toInt = 2 → wp_is (20 : Int32) (upC s131 0 10 ((s131 0 10) + (1 : Int32))) t131 z131 (fun v173 => (v173.toInt = 0 → wp_variables v3 v10 (0 : Int32) (upC (upC s131 0 10 ((s131 0 10) + (1 : Int32))) 0 10 ((s32 0 10) + (1 : Int32))) t131 z131 (fun s198 t198 z198 => Q s198 t198 z198) T) ∧ (v173.toInt ≠ 0 → wp_function (s131 0 10) v131 v3 (upC s131 0 10 ((s131 0 10) + (1 : Int32))) t131 z131 (fun s185 t185 z185 => Q s185 t185 z185) T))) ∧ ((s131 2 (s131 0 10).toNatClampNeg).toInt ≠ 2 → wp_wrong s131 t131 z131 (fun s150 t150 z150 => T s150 t150 z150)))) T) ∧ ((s32 2 (s32 0 10).toNatClampNeg).toInt ≠ 5 → wp_wrong s32 t32 z32 (fun s111 t111 z111 => T s111 t111 z111)))) ∧ ((s32 2 (s32 0 10).toNatClampNeg).toInt = 6 → ((0 ≤ ((s32 0 10) + (1 : Int32)).toInt ∧ ((s32 0 10) + (1 : Int32)).toInt < 16002) ∧ ((s32 2 ((s32 0 10) + (1 : Int32)).toNatClampNeg).toInt = 2 → wp_function ((s32 0 10) + (1 : Int32)) ((-1) : Int32) v3 (upC (upC s32 0 10 ((s32 0 10) + (1 : Int32))) 0 10 (((s32 0 10) + (1 : Int32)) + (1 : Int32))) t32 z32 (fun s93 t93 z93 => Q s93 t93 z93) T) ∧ ((s32 2 ((s32 0 10) + (1 : Int32)).toNatClampNeg).toInt ≠ 2 → wp_wrong (upC s32 0 10 ((s32 0 10) + (1 : Int32))) t32 z32 (fun s70 t70 z70 => T s70 t70 z70))))))) ∧ (∃ J22 : Prop, (J22  → (J32 (upC σ 0 10 ((σ 0 10) + (1 : Int32))) τ vs)) ∧ (v3.toInt ≠ 0 → J22) ∧ (v3.toInt = 0 → (v10.toInt = 0 → J32 σ τ vs) ∧ (v10.toInt ≠ 0 → J22))))))
set_option maxHeartbeats 4000000 in
set_option maxRecDepth 100000 in
theorem ct_item (a : Nat → Nat) (r : Nat → Nat) {σ τ : St} {vs : List Nat} {Q : St → St → List Nat → Prop} {T : St → St → List Nat → Prop} (hcap : vs.length ≤ CAP) (w : wp_item  σ τ vs Q T) (l : Launch) (D : va_G) (cy : Nat → ClassId) : Ct l D cy SM r (EM a) y_X14_item (Cond.code y_X14_item b_X14_item 6 none) 1233 [.ref (r 0)] σ τ vs (QVs Q) T := by
  unfold wp_item at w
  refine Ct_of (EM_ok a) (by decide) (Nat.le_of_ble_eq_true rfl) hcap (fun X hnn hF => ?_)
  show G SM r X σ τ vs [(0, .ref (r 0))] [] 0
  refine g_aload_n hF d_X14_item_0 rfl 0 rfl ?_
  refine g_bipush hF (v := 7) d_X14_item_1 (by decide) ?_
  refine g_callV (As := [.int 7]) (rest := []) hF (fun l D cy => (ct_isWord a r hcap w) l D cy) (Nat.le_of_ble_eq_true rfl) mV_X14_isWord m_2273 (recv_ob obM_0) rfl rfl (Nat.le_of_ble_eq_true rfl) d_X14_item_3 (krZ (fun v3 hz3 w1 => ?_)) (fun _ _ _ h => h.elim)
  refine g_istore_n hF [(1, .int v3), (0, .ref (r 0))] d_X14_item_6 rfl hnn (by decide) rfl ?_
  refine g_aload_n hF d_X14_item_7 rfl 1 rfl ?_
  refine g_bipush hF (v := 8) d_X14_item_8 (by decide) ?_
  refine g_callV (As := [.int 8]) (rest := []) hF (fun l D cy => (ct_isWord a r hcap w1) l D cy) (Nat.le_of_ble_eq_true rfl) mV_X14_isWord m_2273 (recv_ob obM_0) rfl rfl (Nat.le_of_ble_eq_true rfl) d_X14_item_10 (krZ (fun v10 hz10 w2 => ?_)) (fun _ _ _ h => h.elim)
  refine g_istore_n hF [(2, .int v10), (1, .int v3), (0, .ref (r 0))] d_X14_item_13 rfl hnn (by decide) rfl ?_
  refine g_iload_n hF d_X14_item_14 rfl 1 rfl ?_
  obtain ⟨J32, h32, w3⟩ := w2
  have b32 : ∀ (s32 t32 : St) (z32 : List Nat), J32 s32 t32 z32 → G SM r X s32 t32 z32 [(0, .ref (r 0)), (1, .int v3), (2, .int v10)] [] 32 := by
    intro s32 t32 z32  w32_
    have w32_ := h32 s32 t32 z32  w32_
    refine g_aload_n hF d_X14_item_32 rfl 0 rfl ?_
    refine g_get (v := .ref (r 2)) hF 3 obM_0 (by decide) m_1868 rfl d_X14_item_33 ?_
    refine g_aload_n hF d_X14_item_36 rfl 0 rfl ?_
    refine g_get (v := .int (s32 0 10)) hF 10 obM_0 (by decide) m_1875 rfl d_X14_item_37 ?_
    have w4 := w32_.2
    refine g_iald hF arM_2 (s_in (Nat.le_of_ble_eq_true rfl) w32_.1.1 w32_.1.2) d_X14_item_40 ?_
    refine g_top (v := (s32 2 (s32 0 10).toNatClampNeg)) rfl ?_
    refine g_bipush hF (v := 6) d_X14_item_41 (by decide) ?_
    refine g_icmp_ne (yv := 6) hF 97 d_X14_item_43 (by decide) rfl (by decide) (fun c => ?_) (fun c => ?_)
    · have w5 := w4.1 c
      refine g_aload_n hF d_X14_item_97 rfl 0 rfl ?_
      refine g_get (v := .ref (r 2)) hF 3 obM_0 (by decide) m_1868 rfl d_X14_item_98 ?_
      refine g_aload_n hF d_X14_item_101 rfl 0 rfl ?_
      refine g_get (v := .int (s32 0 10)) hF 10 obM_0 (by decide) m_1875 rfl d_X14_item_102 ?_
      have w6 := w5.2
      refine g_iald hF arM_2 (s_in (Nat.le_of_ble_eq_true rfl) w5.1.1 w5.1.2) d_X14_item_105 ?_
      refine g_top (v := (s32 2 (s32 0 10).toNatClampNeg)) rfl ?_
      refine g_iconst hF (v := 5) d_X14_item_106 (by decide) ?_
      refine g_icmp_eq (yv := 5) hF 115 d_X14_item_107 (by decide) rfl (by decide) (fun c => ?_) (fun c => ?_)
      · have w7 := w6.1 c
        refine g_aload_n hF d_X14_item_115 rfl 0 rfl ?_
        refine g_dup hF d_X14_item_116 rfl ?_
        refine g_get (v := .int (s32 0 10)) hF 10 obM_0 (by decide) m_1875 rfl d_X14_item_117 ?_
        refine g_iconst hF (v := 1) d_X14_item_120 (by decide) ?_
        refine g_iadd hF d_X14_item_121 ?_
        refine g_put (v := ((s32 0 10) + (1 : Int32))) hF 10 obM_0 (by decide) m_1875 rfl rfl rfl d_X14_item_122 ?_
        refine g_aload_n hF d_X14_item_125 rfl 0 rfl ?_
        refine g_get (v := .int ((s32 0 10) + (1 : Int32))) hF 10 obM_0 (by decide) m_1875 rfl d_X14_item_126 ?_
        refine g_istore_n hF [(3, .int ((s32 0 10) + (1 : Int32))), (0, .ref (r 0)), (1, .int v3), (2, .int v10)] d_X14_item_129 rfl hnn (by decide) rfl ?_
        refine g_aload_n hF d_X14_item_130 rfl 1 rfl ?_
        refine g_cap (fun hc7 => ?_)
        refine g_callV (As := []) (rest := []) hF (fun l D cy => (ct_stars a r hc7 w7) l D cy) (Nat.le_of_ble_eq_true rfl) mV_X14_stars m_2297 (recv_ob obM_0) rfl rfl (Nat.le_of_ble_eq_true rfl) d_X14_item_131 (kI (fun v131 s131 t131 z131 w9 => ?_)) (fun σ9 τ9 vs9 h9 => g_out hF stopM rfl h9)
        refine g_istore hF [(4, .int v131), (3, .int ((s32 0 10) + (1 : Int32))), (0, .ref (r 0)), (1, .int v3), (2, .int v10)] d_X14_item_134 hnn (by decide) rfl ?_
        refine g_aload_n hF d_X14_item_136 rfl 2 rfl ?_
        refine g_get (v := .ref (r 2)) hF 3 obM_0 (by decide) m_1868 rfl d_X14_item_137 ?_
        refine g_aload_n hF d_X14_item_140 rfl 2 rfl ?_
        refine g_get (v := .int (s131 0 10)) hF 10 obM_0 (by decide) m_1875 rfl d_X14_item_141 ?_
        have w10 := w9.2
        refine g_iald hF arM_2 (s_in (Nat.le_of_ble_eq_true rfl) w9.1.1 w9.1.2) d_X14_item_144 ?_
        refine g_top (v := (s131 2 (s131 0 10).toNatClampNeg)) rfl ?_
        refine g_iconst hF (v := 2) d_X14_item_145 (by decide) ?_
        refine g_icmp_eq (yv := 2) hF 154 d_X14_item_146 (by decide) rfl (by decide) (fun c => ?_) (fun c => ?_)
        · have w11 := w10.1 c
          refine g_aload_n hF d_X14_item_154 rfl 2 rfl ?_
          refine g_get (v := .int (s131 0 10)) hF 10 obM_0 (by decide) m_1875 rfl d_X14_item_155 ?_
          refine g_istore hF [(5, .int (s131 0 10)), (4, .int v131), (3, .int ((s32 0 10) + (1 : Int32))), (0, .ref (r 0)), (1, .int v3), (2, .int v10)] d_X14_item_158 hnn (by decide) rfl ?_
          refine g_aload_n hF d_X14_item_160 rfl 3 rfl ?_
          refine g_dup hF d_X14_item_161 rfl ?_
          refine g_get (v := .int (s131 0 10)) hF 10 obM_0 (by decide) m_1875 rfl d_X14_item_162 ?_
          refine g_iconst hF (v := 1) d_X14_item_165 (by decide) ?_
          refine g_iadd hF d_X14_item_166 ?_
          refine g_put (v := ((s131 0 10) + (1 : Int32))) hF 10 obM_0 (by decide) m_1875 rfl rfl rfl d_X14_item_167 ?_
          refine g_aload_n hF d_X14_item_170 rfl 3 rfl ?_
          refine g_bipush hF (v := 20) d_X14_item_171 (by decide) ?_
          refine g_cap (fun hc11 => ?_)
          refine g_callV (As := [.int 20]) (rest := []) hF (fun l D cy => (ct_is a r hc11 w11) l D cy) (Nat.le_of_ble_eq_true rfl) mV_X14_is m_2289 (recv_ob obM_0) rfl rfl (Nat.le_of_ble_eq_true rfl) d_X14_item_173 (krZ (fun v173 hz173 w13 => ?_)) (fun _ _ _ h => h.elim)
          refine g_if_eq hF 189 d_X14_item_176 (by decide) rfl (fun c => ?_) (fun c => ?_)
          · have w14 := w13.1 c
            refine g_aload_n hF d_X14_item_189 rfl 3 rfl ?_
            refine g_iload_n hF d_X14_item_190 rfl 2 rfl ?_
            refine g_put (v := ((s32 0 10) + (1 : Int32))) hF 10 obM_0 (by decide) m_1875 rfl rfl rfl d_X14_item_191 ?_
            refine g_aload_n hF d_X14_item_194 rfl 3 rfl ?_
            refine g_iload_n hF d_X14_item_195 rfl 4 rfl ?_
            refine g_iload_n hF d_X14_item_196 rfl 5 rfl ?_
            refine g_iconst hF (v := 0) d_X14_item_197 (by decide) ?_
            refine g_callV (As := [.int v3, .int v10, .int 0]) (rest := []) hF (fun l D cy => (ct_variables a r hc11 w14) l D cy) (Nat.le_of_ble_eq_true rfl) mV_X14_variables m_2349 (recv_ob obM_0) rfl rfl (Nat.le_of_ble_eq_true rfl) d_X14_item_198 (kV (fun s198 t198 z198 w15 => ?_)) (fun σ9 τ9 vs9 h9 => g_out hF stopM rfl h9)
            exact g_vret hF rfl d_X14_item_201 ⟨rfl, w15⟩
          · have w16 := w13.2 c
            refine g_aload_n hF d_X14_item_179 rfl 3 rfl ?_
            refine g_iload hF d_X14_item_180 0 rfl ?_
            refine g_iload hF d_X14_item_182 1 rfl ?_
            refine g_iload_n hF d_X14_item_184 rfl 4 rfl ?_
            refine g_callV (As := [.int (s131 0 10), .int v131, .int v3]) (rest := []) hF (fun l D cy => (ct_function a r hc11 w16) l D cy) (Nat.le_of_ble_eq_true rfl) mV_X14_function m_2277 (recv_ob obM_0) rfl rfl (Nat.le_of_ble_eq_true rfl) d_X14_item_185 (kV (fun s185 t185 z185 w17 => ?_)) (fun σ9 τ9 vs9 h9 => g_out hF stopM rfl h9)
            exact g_vret hF rfl d_X14_item_188 ⟨rfl, w17⟩
        · have w18 := w10.2 c
          refine g_aload_n hF d_X14_item_149 rfl 2 rfl ?_
          refine g_cap (fun hc18 => ?_)
          refine g_callV (As := []) (rest := []) hF (fun l D cy => (ct_wrong a r hc18 w18) l D cy) (Nat.le_of_ble_eq_true rfl) mV_X14_wrong m_2261 (recv_ob obM_0) rfl rfl (Nat.le_of_ble_eq_true rfl) d_X14_item_150 (kX (fun s150 t150 z150 w20 => ?_)) (fun _ _ _ h => h.elim)
          exact g_athrow hF d_X14_item_153 (g_out hF stopM rfl w20)
      · have w21 := w6.2 c
        refine g_aload_n hF d_X14_item_110 rfl 0 rfl ?_
        refine g_cap (fun hc21 => ?_)
        refine g_callV (As := []) (rest := []) hF (fun l D cy => (ct_wrong a r hc21 w21) l D cy) (Nat.le_of_ble_eq_true rfl) mV_X14_wrong m_2261 (recv_ob obM_0) rfl rfl (Nat.le_of_ble_eq_true rfl) d_X14_item_111 (kX (fun s111 t111 z111 w23 => ?_)) (fun _ _ _ h => h.elim)
        exact g_athrow hF d_X14_item_114 (g_out hF stopM rfl w23)
    · have w24 := w4.2 c
      refine g_aload_n hF d_X14_item_46 rfl 0 rfl ?_
      refine g_dup hF d_X14_item_47 rfl ?_
      refine g_get (v := .int (s32 0 10)) hF 10 obM_0 (by decide) m_1875 rfl d_X14_item_48 ?_
      refine g_iconst hF (v := 1) d_X14_item_51 (by decide) ?_
      refine g_iadd hF d_X14_item_52 ?_
      refine g_put (v := ((s32 0 10) + (1 : Int32))) hF 10 obM_0 (by decide) m_1875 rfl rfl rfl d_X14_item_53 ?_
      refine g_aload_n hF d_X14_item_56 rfl 0 rfl ?_
      refine g_get (v := .ref (r 2)) hF 3 obM_0 (by decide) m_1868 rfl d_X14_item_57 ?_
      refine g_aload_n hF d_X14_item_60 rfl 0 rfl ?_
      refine g_get (v := .int ((s32 0 10) + (1 : Int32))) hF 10 obM_0 (by decide) m_1875 rfl d_X14_item_61 ?_
      have w25 := w24.2
      refine g_iald hF arM_2 (s_in (Nat.le_of_ble_eq_true rfl) w24.1.1 w24.1.2) d_X14_item_64 ?_
      refine g_top (v := (s32 2 ((s32 0 10) + (1 : Int32)).toNatClampNeg)) rfl ?_
      refine g_iconst hF (v := 2) d_X14_item_65 (by decide) ?_
      refine g_icmp_eq (yv := 2) hF 74 d_X14_item_66 (by decide) rfl (by decide) (fun c => ?_) (fun c => ?_)
      · have w26 := w25.1 c
        refine g_aload_n hF d_X14_item_74 rfl 0 rfl ?_
        refine g_get (v := .int ((s32 0 10) + (1 : Int32))) hF 10 obM_0 (by decide) m_1875 rfl d_X14_item_75 ?_
        refine g_istore_n hF [(3, .int ((s32 0 10) + (1 : Int32))), (0, .ref (r 0)), (1, .int v3), (2, .int v10)] d_X14_item_78 rfl hnn (by decide) rfl ?_
        refine g_aload_n hF d_X14_item_79 rfl 1 rfl ?_
        refine g_dup hF d_X14_item_80 rfl ?_
        refine g_get (v := .int ((s32 0 10) + (1 : Int32))) hF 10 obM_0 (by decide) m_1875 rfl d_X14_item_81 ?_
        refine g_iconst hF (v := 1) d_X14_item_84 (by decide) ?_
        refine g_iadd hF d_X14_item_85 ?_
        refine g_put (v := (((s32 0 10) + (1 : Int32)) + (1 : Int32))) hF 10 obM_0 (by decide) m_1875 rfl rfl rfl d_X14_item_86 ?_
        refine g_aload_n hF d_X14_item_89 rfl 1 rfl ?_
        refine g_iload_n hF d_X14_item_90 rfl 0 rfl ?_
        refine g_iconst hF (v := (-1)) d_X14_item_91 (by decide) ?_
        refine g_iload_n hF d_X14_item_92 rfl 2 rfl ?_
        refine g_cap (fun hc26 => ?_)
        refine g_callV (As := [.int ((s32 0 10) + (1 : Int32)), .int (-1), .int v3]) (rest := []) hF (fun l D cy => (ct_function a r hc26 w26) l D cy) (Nat.le_of_ble_eq_true rfl) mV_X14_function m_2277 (recv_ob obM_0) rfl rfl (Nat.le_of_ble_eq_true rfl) d_X14_item_93 (kV (fun s93 t93 z93 w28 => ?_)) (fun σ9 τ9 vs9 h9 => g_out hF stopM rfl h9)
        exact g_vret hF rfl d_X14_item_96 ⟨rfl, w28⟩
      · have w29 := w25.2 c
        refine g_aload_n hF d_X14_item_69 rfl 0 rfl ?_
        refine g_cap (fun hc29 => ?_)
        refine g_callV (As := []) (rest := []) hF (fun l D cy => (ct_wrong a r hc29 w29) l D cy) (Nat.le_of_ble_eq_true rfl) mV_X14_wrong m_2261 (recv_ob obM_0) rfl rfl (Nat.le_of_ble_eq_true rfl) d_X14_item_70 (kX (fun s70 t70 z70 w31 => ?_)) (fun _ _ _ h => h.elim)
        exact g_athrow hF d_X14_item_73 (g_out hF stopM rfl w31)
  obtain ⟨J22, h22, w32⟩ := w3
  have b22 : J22  → G SM r X σ τ vs [(0, .ref (r 0)), (1, .int v3), (2, .int v10)] [] 22 := by
    intro   w22_
    have w22_ := h22   w22_
    refine g_aload_n hF d_X14_item_22 rfl 0 rfl ?_
    refine g_dup hF d_X14_item_23 rfl ?_
    refine g_get (v := .int (σ 0 10)) hF 10 obM_0 (by decide) m_1875 rfl d_X14_item_24 ?_
    refine g_iconst hF (v := 1) d_X14_item_27 (by decide) ?_
    refine g_iadd hF d_X14_item_28 ?_
    refine g_put (v := ((σ 0 10) + (1 : Int32))) hF 10 obM_0 (by decide) m_1875 rfl rfl rfl d_X14_item_29 ?_
    exact b32 (upC σ 0 10 ((σ 0 10) + (1 : Int32))) τ vs w22_
  refine g_if_ne hF 22 d_X14_item_15 (by decide) rfl (fun c => ?_) (fun c => ?_)
  · have w33 := w32.1 c
    exact g_sub (L' := [(0, .ref (r 0)), (1, .int v3), (2, .int v10)]) [2, 1, 0] rfl (b22  w33)
  · have w34 := w32.2 c
    refine g_iload_n hF d_X14_item_18 rfl 0 rfl ?_
    refine g_if_eq hF 32 d_X14_item_19 (by decide) rfl (fun c => ?_) (fun c => ?_)
    · have w35 := w34.1 c
      exact g_sub (L' := [(0, .ref (r 0)), (1, .int v3), (2, .int v10)]) [2, 1, 0] rfl (b32 σ τ vs w35)
    · have w36 := w34.2 c
      exact g_sub (L' := [(0, .ref (r 0)), (1, .int v3), (2, .int v10)]) [2, 1, 0] rfl (b22  w36)
