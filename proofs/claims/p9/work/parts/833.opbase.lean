/-! operands: made, read, told -/
/-- only the cell q changed -/
def RO (q : Nat) (a b : St) : Prop := ∀ c k, c ≠ q → b c k = a c k
section OPB
variable {σ s t : St} {g g' : Gh} {CP CP' : Int → Nat → Prop} {X0 X : Nat → Prop} {b e0 H0 L e H n q : Nat} {A B : List It} {it : It} {x y : Int32}
theorem ro_up {k : Nat} {v : Int32} (h : RO q σ s) : RO q σ (upC s q k v) := fun c j hc => by rw [rdC_ne hc]; exact h c j hc
theorem ro_rf : RO q σ σ := fun _ _ _ => rfl
theorem ro_tr (h : RO q σ s) (h2 : RO q s t) : RO q σ t := fun c k hc => (h2 c k hc).trans (h c k hc)
theorem ro_ko {fs : List (Nat × Nat)} {cs : List Nat} (h : RO q σ s) (hq : isOp q) : Ko fs cs σ s := fun c k h0 _ _ => h c k (fun e => h0 (by rw [e]; exact hq))
theorem ro_low (h : RO q σ s) (hq : 65 + n ≤ q) : LOW n σ s := fun j k hj => h _ k (by omega)
theorem isOp_at (hn : n < 500) : isOp (65 + n) := Or.inr ⟨by omega, by omega⟩
theorem sp_reset {Q : St → Prop} (k : ∀ s, RO q σ s → KDq s q = 0 → (s q 1) = 0 → (s q 2).toInt = 1 → (s q 6) = 0 → (s q 9) = x → (s q 10).toInt = -1 → (s q 11) = 0 → (s q 12) = 0 → Q s) : wk_X6_reset q x σ Q := by
  unfold wk_X6_reset
  rintro _ rfl _ rfl _ rfl _ rfl _ rfl _ rfl _ rfl _ rfl _ rfl _ rfl _ rfl _ rfl _ rfl
  refine k _ (ro_up (ro_up (ro_up (ro_up (ro_up (ro_up (ro_up (ro_up (ro_up (ro_up (ro_up (ro_up (ro_up ro_rf))))))))))))) ?_ ?_ ?_ ?_ ?_ ?_ ?_ ?_
  · unfold KDq
    simp only [rdA, Nat.reduceEqDiff, if_true, if_false]
    rfl
  all_goals simp only [rdA, Nat.reduceEqDiff, if_true, if_false]
  · rfl
  · rfl
theorem sp_become {v w : Int32} {Q : St → Prop} (k : ∀ s, RO q σ s → KDq s q = 0 → (s q 1) = v → (s q 6) = w → (∀ j, j ≠ 0 → j ≠ 1 → j ≠ 6 → j ≠ 3 → s q j = σ q j) → Q s) : wk_X6_become q v w σ Q := by
  unfold wk_X6_become
  rintro _ rfl _ rfl _ rfl _ rfl
  refine k _ (ro_up (ro_up (ro_up (ro_up ro_rf)))) ?_ ?_ ?_ ?_
  · unfold KDq
    simp only [rdA, Nat.reduceEqDiff, if_true, if_false]
    rfl
  · simp only [rdA, Nat.reduceEqDiff, if_true, if_false]
  · simp only [rdA, Nat.reduceEqDiff, if_true, if_false]
  · intro j j0 j1 j6 j3
    rw [rdA_ne j3, rdA_ne j6, rdA_ne j1, rdA_ne j0]
/-- an operand is made -/
def PSH (σ s : St) (n : Nat) : Prop := Ko [(7, 7)] [] σ s ∧ LOW n σ s ∧ (s 7 7).toInt = n + 1 ∧ KDq s (65 + n) = 0 ∧ (s (65 + n) 2).toInt = 1 ∧ (s (65 + n) 6) = 0 ∧ (s (65 + n) 9) = (σ 4 1) ∧ (s (65 + n) 11) = 0 ∧ (s (65 + n) 12) = 0
theorem sp_opush {Q : Nat → St → Prop} (hc : (σ 7 7).toInt = n) (hn : n < 500) (k : ∀ s, PSH σ s n → Q (65 + n) s) : wk_X2_push σ Q := by
  have en : (σ 7 7).toNatClampNeg = n := by rw [nt', hc]; rfl
  unfold wk_X2_push
  refine ⟨fun q => q = 65 + n, ?_, False, fun f => f.elim, fun c => by omega, fun _ => ⟨fun c => by omega, fun _ => ⟨⟨by omega, by omega⟩, by rw [en]⟩⟩⟩
  rintro u - rfl
  refine sp_reset (fun s r k0 k1 k2 k6 k9 k10 k11 k12 => k _ ?_)
  have e7 : (s 7 7) = (σ 7 7) := r 7 7 (by omega)
  have ne : ∀ j, upC s 7 7 ((s 7 7) + (1 : Int32)) (65 + n) j = s (65 + n) j := fun j => by rw [rdC_ne (by omega)]
  refine ⟨ko_tr (ro_ko r (isOp_at hn)) (ko_kp (kp_f kp_rf rfl)), low_tr (ro_low r (Nat.le_refl _)) (low_kp (fs := [(7, 7)]) (cs := []) (kp_f kp_rf rfl) rfl rfl), ?_, ?_, ?_, ?_, ?_, ?_, ?_⟩
  · rw [rdA_eq rfl, e7, ad1 (by omega), hc]
  · unfold KDq
    rw [ne]
    exact k0
  · rw [ne]; exact k2
  · rw [ne]; exact k6
  · rw [ne]; exact k9
  · rw [ne]; exact k11
  · rw [ne]; exact k12
theorem sp_otop {Q : Nat → Prop} (hc : (σ 7 7).toInt = ((n + 1 : Nat) : Int)) (hn : n < 500) (k : Q (65 + n)) : wk_X2_top σ Q := by
  have e1 : ((σ 7 7) - (1 : Int32)).toInt = n := by rw [sb1 (by omega)]; omega
  have en : ((σ 7 7) - (1 : Int32)).toNatClampNeg = n := by rw [nt', e1]; rfl
  unfold wk_X2_top
  exact ⟨fun c => by omega, fun _ => ⟨fun c => by omega, fun _ => ⟨⟨by omega, by omega⟩, by rw [en]; exact k⟩⟩⟩
theorem sp_isPlace {Q : Int32 → Prop} (k0 : ¬ (1 ≤ KDq σ q ∧ KDq σ q ≤ 3) → Q 0) (k1 : 1 ≤ KDq σ q ∧ KDq σ q ≤ 3 → Q 1) : wk_X6_isPlace q σ Q := by
  unfold wk_X6_isPlace
  unfold KDq at k0 k1
  exact ⟨fun c => k1 (by omega), fun _ => ⟨fun c => k1 (by omega), fun _ => ⟨fun c => k0 (by omega), fun c => k1 (by omega)⟩⟩⟩
theorem sp_isConstant {Q : Int32 → Prop} (k0 : (σ q 6).toInt ≠ 1 → Q 0) (k1 : (σ q 6).toInt = 1 → Q 1) : wk_X6_isConstant q σ Q := ⟨k0, k1⟩
theorem sk_fits {Q : Int32 → Prop} (k0 : Q 0) (k1 : Q 1) : wk_X6_fits q x σ Q := by
  unfold wk_X6_fits
  exact ⟨True, fun _ => ⟨fun _ => k0, fun _ => ⟨fun _ => k0, fun _ => k1⟩⟩, fun _ => trivial, fun _ => ⟨fun _ => k1, fun _ => trivial⟩⟩
theorem sp_ufail {Q : St → Prop} (hx : x.toInt ≠ 0) (k : ∀ s, Kp [(6, 3), (6, 4)] [] σ s → (s 6 3).toInt ≠ 0 → Q s) : wk_X11_fail x y σ Q :=
  ⟨fun c => k _ kp_rf c, fun _ => k _ (kp_f (kp_f kp_rf rfl) rfl) hx⟩
theorem sp_refuse {Q : St → Prop} (k : ∀ s, Kp [(6, 3), (6, 4)] [] σ s → (s 6 3).toInt ≠ 0 → Q s) : wk_X2_refuse x σ Q := by
  unfold wk_X2_refuse
  exact sp_ufail (by decide) k
/-- the height is told: a fault above 60 -/
theorem sp_raise {v : Int32} {Q : St → Prop} (hq : q ≠ 6) (k : ∀ s, Ko [(6, 3), (6, 4)] [] (upC σ q 2 v) s → (∀ c j, c ≠ 6 → s c j = upC σ q 2 v c j) → ((s = upC σ q 2 v ∧ v.toInt ≤ 60) ∨ (s 6 3).toInt ≠ 0) → Q s) : wk_X2_raise q v x σ Q := by
  unfold wk_X2_raise
  rintro _ rfl
  refine ⟨fun c => k _ ko_rf (fun _ _ _ => rfl) (Or.inl ⟨rfl, c⟩), fun _ => sp_ufail (by decide) (fun s hs hf => k s (ko_kp hs) (fun c j hc => hs c j ?_ rfl) (Or.inr hf))⟩
  simp only [List.contains_cons, List.contains_nil, Bool.or_false, Bool.or_eq_false_iff]
  have : ((c, j) == ((6 : Nat), (3 : Nat))) = false := by
    cases z : ((c, j) == ((6 : Nat), (3 : Nat))) with
    | false => rfl
    | true =>
      have := eq_of_beq z
      exact absurd (congrArg Prod.fst this) hc
  have h2 : ((c, j) == ((6 : Nat), (4 : Nat))) = false := by
    cases z : ((c, j) == ((6 : Nat), (4 : Nat))) with
    | false => rfl
    | true =>
      have := eq_of_beq z
      exact absurd (congrArg Prod.fst this) hc
  exact ⟨this, h2⟩
theorem sp_kindOf {Q : Int32 → Prop} (k : ∀ v : Int32, v.toInt = tkx σ x → Q v) : wk_X2_kindOf x σ Q := k _ rfl
theorem sp_lineOf {Q : Int32 → Prop} (k : ∀ v : Int32, Q v) : wk_X2_lineOf x σ Q := k _
/-- a place is read: its operand a value -/
def LDs (σ s : St) (q : Nat) : Prop := Ko [(4, 1)] [24] σ s ∧ (∀ c k, c ≠ q → c ≠ 4 → c ≠ 24 → s c k = σ c k) ∧ KDq s q = 0 ∧ (∀ j, j ≠ 0 → s q j = σ q j) ∧ (∀ j, j < clen σ → (s 24) j = (σ 24) j) ∧ (σ 4 1).toInt ≤ (s 4 1).toInt ∧ ((s 4 1).toInt : Int) ≤ (σ 4 1).toInt + 2 ∧ (¬ (1 ≤ KDq σ q ∧ KDq σ q ≤ 3) → s = σ)
theorem em_cells {op a b c : Int32} (h : EMi σ s op a b c) (j k : Nat) (h4 : j ≠ 4) (h24 : j ≠ 24) : s j k = σ j k := h.1 j k (by
  simp only [List.contains_cons, List.contains_nil, Bool.or_false]
  cases z : ((j, k) == ((4 : Nat), (1 : Nat))) with
  | false => rfl
  | true =>
    have := eq_of_beq z
    exact absurd (congrArg Prod.fst this) h4) (by
  simp only [List.contains_cons, List.contains_nil, Bool.or_false]
  cases z : (j == (24 : Nat)) with
  | false => rfl
  | true => exact absurd (eq_of_beq z) h24)
theorem sp_loaded {Q : Nat → St → Prop} (h0 : 0 ≤ (σ 4 1).toInt) (h1 : (σ 4 1).toInt < 262200) (hq : isOp q) (hk : 0 ≤ KDq σ q ∧ KDq σ q ≤ 4)
    (k : ∀ s, LDs σ s q → (1 ≤ KDq σ q ∧ KDq σ q ≤ 3 → ∃ (n : Nat) (s1 : St) (a b c op : Int32), op.toInt = n ∧ (n = 18 ∧ KDq σ q = 3 ∨ (n = 5 ∨ n = 8) ∧ KDq σ q ≠ 3) ∧ EMi σ s1 op a b c ∧ s = upC s1 q 0 0) → (KDq σ q = 0 ∨ KDq σ q = 4 → s = σ ∧ KDq σ q = KDq s q) → Q q s) (k4 : KDq σ q ≠ 4) : wk_X2_loaded q σ Q := by
  unfold wk_X2_loaded
  have q4 : q ≠ 4 := fun e => by unfold isOp at hq; omega
  have q24 : q ≠ 24 := fun e => by unfold isOp at hq; omega
  have fin : ∀ (n : Nat) (op a b c : Int32) (s1 : St), op.toInt = n → (n = 18 ∧ KDq σ q = 3 ∨ (n = 5 ∨ n = 8) ∧ KDq σ q ≠ 3) → 1 ≤ KDq σ q ∧ KDq σ q ≤ 3 → EMi σ s1 op a b c → Q q (upC s1 q 0 (0 : Int32)) := fun n op a b c s1 hn hk2 hp em => by
    have l2 : ln n = 2 := by
      have : n = 18 ∨ n = 5 ∨ n = 8 := by omega
      rcases this with e | e | e <;> subst e <;> rfl
    have e5 : op.toInt.toNat = n := by omega
    have el : ((upC s1 q 0 (0 : Int32)) 4 1).toInt = (σ 4 1).toInt + 2 := by
      rw [rdC_ne (Ne.symm q4), em.2.1, e5, l2]
      rfl
    refine k _ ⟨ko_op (ko_kp em.1) hq, fun c k hc h4 h24 => by rw [rdC_ne hc]; exact em_cells em c k h4 h24, ?_, fun j hj => by rw [rdA_ne hj]; exact em_cells em q j q4 q24, fun j hj => by rw [rdC_ne (Ne.symm q24)]; exact em.2.2.1 j hj, by omega, by omega, fun z => absurd hp z⟩ (fun _ => ⟨n, s1, a, b, c, op, hn, hk2, em, rfl⟩) (fun z => by omega)
    unfold KDq
    rw [rdA_eq rfl]
    rfl
  refine sp_isPlace (fun np => ⟨fun _ => ?_, fun e => absurd rfl e⟩) (fun p => ⟨fun e => absurd e (by decide), fun _ => ⟨fun n3 => ?_, fun c3 => ?_⟩⟩)
  · have z0 : KDq σ q = 0 := by omega
    exact k σ ⟨ko_rf, fun _ _ _ _ _ => rfl, z0, fun _ _ => rfl, fun _ _ => rfl, by omega, by omega, fun _ => rfl⟩ (fun z => absurd z np) (fun _ => ⟨rfl, rfl⟩)
  · have n3' : KDq σ q ≠ 3 := n3
    refine ⟨fun y => y = 5 ∨ y = 8, ?_, fun _ => Or.inl rfl, fun _ => Or.inr rfl⟩
    rintro y hy
    have hy2 : ∃ n : Nat, y.toInt = n ∧ (n = 5 ∨ n = 8) := by
      rcases hy with e | e <;> subst e
      · exact ⟨5, rfl, Or.inl rfl⟩
      · exact ⟨8, rfl, Or.inr rfl⟩
    obtain ⟨n, hn, hn2⟩ := hy2
    refine sk_emit hn (by omega) h0 (by omega) (fun v s1 _ em => ?_)
    rintro _ rfl
    exact fin n y _ _ _ s1 hn (Or.inr ⟨hn2, n3'⟩) p em
  · have c3' : KDq σ q = 3 := c3
    refine sk_emit (n := 18) rfl (by decide) h0 (by omega) (fun v s1 _ em => ?_)
    rintro _ rfl
    exact fin 18 _ _ _ _ s1 rfl (Or.inl ⟨rfl, c3'⟩) p em
end OPB
