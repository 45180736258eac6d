/-! the class's formulas: at() and set() as terms, answers -/
def atv (n : Nat) (f : Nat → Int32) (i : Int32) : Int32 := if 0 ≤ i.toInt ∧ i.toInt < n then f i.toNatClampNeg else 0
def setv (n : Nat) (f : Nat → Int32) (i v : Int32) : Nat → Int32 := if 0 ≤ i.toInt ∧ i.toInt < n then (fun k => if k = i.toNatClampNeg then v else f k) else f
def ushr (x y : Int32) : Int32 := (x.toUInt32 >>> (y.toUInt32 &&& Int32.toUInt32 31)).toInt32
def cpy (f : Nat → Int32) (i : Int32) (h : Nat → Int32) (j n : Int32) : Nat → Int32 := fun k => if j.toNatClampNeg ≤ k ∧ k < j.toNatClampNeg + n.toNatClampNeg then f (i.toNatClampNeg + (k - j.toNatClampNeg)) else h k
def gL0 : List Int32 := [8, 8, 9, 9, 10, 10, 10, 5, 3, 4, 6, 6, 7, 7, 7, 7, 1, 2]
def gL1 : List Int32 := [0, 2, 1, 3, 2, 2, 2, 4, 2, 2, 4, 2, 2, 4, 2, 3, 3, 4, 2, 2, 4, 2, 1, 1, 1, 1, 2, 2, 2, 2, 2, 2, 3, 1, 0, 0, 0, 0, 0, 0, 0, 1, 1, 1, 1, 1, 2, 2, 1, 1, 1, 1, 1, 1, 1, 1, 1, 1, 1, 1, 1]
def gS0 : List Int32 := [105, 110, 116, 32, 118, 111, 105, 100, 32, 115, 116, 97, 116, 105, 99, 32, 101, 120, 116, 101, 114, 110, 32, 105, 102, 32, 101, 108, 115, 101, 32, 119, 104, 105, 108, 101, 32, 100, 111, 32, 102, 111, 114, 32, 98, 114, 101, 97, 107, 32, 99, 111, 110, 116, 105, 110, 117, 101, 32, 114, 101, 116, 117, 114, 110, 32]
def gS1 : List Int32 := [40, 32, 41, 32, 123, 32, 125, 32, 91, 32, 93, 32, 44, 32, 59, 32, 63, 32, 58, 32, 61, 32, 60, 60, 61, 32, 62, 62, 61, 32, 43, 61, 32, 45, 61, 32, 42, 61, 32, 47, 61, 32, 37, 61, 32, 38, 61, 32, 124, 61, 32, 94, 61, 32, 60, 60, 32, 62, 62, 32, 43, 32, 45, 32, 42, 32, 47, 32, 37, 32, 38, 32, 124, 32, 94, 32, 61, 61, 32, 33, 61, 32, 60, 32, 62, 32, 60, 61, 32, 62, 61, 32, 124, 124, 32, 38, 38, 32, 33, 32, 126, 32, 43, 43, 32, 45, 45, 32]
def gC (k j : Nat) : Int32 := (([gL0, gL1, gS0, gS1] : List (List Int32)).getD k []).getD j 0
theorem isOp_row {i : Int32} (h : 0 ≤ i.toInt ∧ i.toInt < 500) : isOp (65 + i.toNatClampNeg) := by
  have e : ((i.toNatClampNeg : Nat) : Int) = i.toInt := Int.toNat_of_nonneg h.1
  exact Or.inr ⟨Nat.le_add_right _ _, by omega⟩
theorem atv_in {n : Nat} {f : Nat → Int32} {i : Int32} (h : vp_in i n) (hn : n < 2 ^ 31) : atv n f i = f i.toNatClampNeg := by
  obtain ⟨j, hj, e⟩ := vp_in_of h hn
  have e2 : i.toInt = j := by rw [e, nI_toInt (by omega)]
  unfold atv
  rw [if_pos ⟨by omega, by omega⟩]
theorem atv_out {n : Nat} {f : Nat → Int32} {i : Int32} (h : i.toInt < 0 ∨ (n : Int) ≤ i.toInt) : atv n f i = 0 := by
  unfold atv
  rw [if_neg (by omega)]
theorem setv_in {n : Nat} {f : Nat → Int32} {i v : Int32} (h : vp_in i n) (hn : n < 2 ^ 31) : setv n f i v = fun k => if k = i.toNatClampNeg then v else f k := by
  obtain ⟨j, hj, e⟩ := vp_in_of h hn
  have e2 : i.toInt = j := by rw [e, nI_toInt (by omega)]
  unfold setv
  rw [if_pos ⟨by omega, by omega⟩]
theorem setv_out {n : Nat} {f : Nat → Int32} {i v : Int32} (h : i.toInt < 0 ∨ (n : Int) ≤ i.toInt) : setv n f i v = f := by
  unfold setv
  rw [if_neg (by omega)]
theorem upF_id {σ : St} {j : Nat} : upF σ j (σ j) = σ := funext (fun z => by unfold upF; split <;> simp_all)
section KS
variable {S : Sh} {r : Nat → Nat} {X : Cx} {L : List (Nat × Value)} {rest : List Value} {pc : Nat} {σ : St}
theorem kQ {v : Int32} (k : G S r X σ Z0 [] L (.int v :: rest) pc) : ∀ v' σ' τ' vs', QI (fun x σ9 => x = v ∧ σ9 = σ) v' σ' τ' vs' → G S r X σ' τ' vs' L (v'.toList ++ rest) pc := by
  rintro v' σ' τ' vs' ⟨rfl, rfl, x, rfl, rfl, rfl⟩
  exact k
theorem kU {t : St} (k : G S r X t Z0 [] L rest pc) : ∀ v' σ' τ' vs', QV (fun σ9 => σ9 = t) v' σ' τ' vs' → G S r X σ' τ' vs' L (v'.toList ++ rest) pc := by
  rintro v' σ' τ' vs' ⟨rfl, rfl, rfl, rfl⟩
  exact k
theorem qV {Q : St → Prop} (k : ∀ σ', Q σ' → G S r X σ' Z0 [] L rest pc) : ∀ v σ' τ' vs', QV Q v σ' τ' vs' → G S r X σ' τ' vs' L (v.toList ++ rest) pc := k_v k
theorem qI {Q : Int32 → St → Prop} (k : ∀ x σ', Q x σ' → G S r X σ' Z0 [] L (.int x :: rest) pc) : ∀ v σ' τ' vs', QI Q v σ' τ' vs' → G S r X σ' τ' vs' L (v.toList ++ rest) pc := k_i k
theorem qIr {Q : Int32 → Prop} (k : ∀ x, Q x → G S r X σ Z0 [] L (.int x :: rest) pc) : ∀ v σ' τ' vs', QI (fun x σ9 => σ9 = σ ∧ Q x) v σ' τ' vs' → G S r X σ' τ' vs' L (v.toList ++ rest) pc := by
  rintro v σ' τ' vs' ⟨rfl, rfl, x, rfl, rfl, h⟩
  exact k x h
theorem qZ {Q : Int32 → St → Prop} (k : ∀ x σ', (x = 0 ∨ x = 1) → Q x σ' → G S r X σ' Z0 [] L (.int x :: rest) pc) : ∀ v σ' τ' vs', QI (fun x σ9 => (x = 0 ∨ x = 1) ∧ Q x σ9) v σ' τ' vs' → G S r X σ' τ' vs' L (v.toList ++ rest) pc := by
  rintro v σ' τ' vs' ⟨rfl, rfl, x, rfl, hz, h⟩
  exact k x _ hz h
theorem qZr {Q : Int32 → Prop} (k : ∀ x : Int32, (x = 0 ∨ x = 1) → Q x → G S r X σ Z0 [] L (.int x :: rest) pc) : ∀ v σ' τ' vs', QI (fun x σ9 => (x = 0 ∨ x = 1) ∧ σ9 = σ ∧ Q x) v σ' τ' vs' → G S r X σ' τ' vs' L (v.toList ++ rest) pc := by
  rintro v σ' τ' vs' ⟨rfl, rfl, x, rfl, hz, rfl, h⟩
  exact k x hz h
theorem qJ {Q : Int64 → St → Prop} (k : ∀ x σ', Q x σ' → G S r X σ' Z0 [] L (.long x :: rest) pc) : ∀ v σ' τ' vs', QL Q v σ' τ' vs' → G S r X σ' τ' vs' L (v.toList ++ rest) pc := by
  rintro v σ' τ' vs' ⟨rfl, rfl, x, rfl, h⟩
  exact k x _ h
theorem qA {Q : Nat → St → Prop} (k : ∀ q σ', isOp q → Q q σ' → G S r X σ' Z0 [] L (.ref (r q) :: rest) pc) : ∀ v σ' τ' vs', QA r (fun q σ9 => isOp q ∧ Q q σ9) v σ' τ' vs' → G S r X σ' τ' vs' L (v.toList ++ rest) pc := by
  rintro v σ' τ' vs' ⟨rfl, rfl, q, rfl, hz, h⟩
  exact k q _ hz h
theorem qAr {Q : Nat → Prop} (k : ∀ q, isOp q → Q q → G S r X σ Z0 [] L (.ref (r q) :: rest) pc) : ∀ v σ' τ' vs', QA r (fun q σ9 => isOp q ∧ σ9 = σ ∧ Q q) v σ' τ' vs' → G S r X σ' τ' vs' L (v.toList ++ rest) pc := by
  rintro v σ' τ' vs' ⟨rfl, rfl, q, rfl, hz, rfl, h⟩
  exact k q hz h
end KS
theorem c_atv (a : Nat → Nat) (r : Nat → Nat) (σ : St) {j n : Nat} (ho : ArOK SC j 1 n) (hn : n < 2 ^ 31) (i : Int32) (l : Launch) (D : va_G) (cy : Nat → ClassId) : Ct l D cy SC r (EC a gC) y_X12_at (Cond.code y_X12_at b_X12_at 2 (some .int)) 0 [.ref (r j), .int i] σ Z0 [] (QI (fun v9 σ9 => v9 = atv n (σ j) i ∧ σ9 = σ)) QT0 := by
  refine (c_at a gC r σ ho hn i l D cy).mono ?_ (fun _ _ _ h => h)
  rintro v σ' τ' vs' ⟨e1, e2, x, e3, h, e4⟩
  refine ⟨e1, e2, x, e3, ?_, e4⟩
  rcases h with ⟨h1, h2⟩ | ⟨h1, h2⟩
  · rw [h1]
    refine (atv_out ?_).symm
    by_cases q : i.toInt < 0
    · exact Or.inl q
    · refine Or.inr (Int.not_lt.mp (fun q2 => h2 (s_in hn (by omega) q2)))
  · rw [h2, atv_in h1 hn]
theorem c_setv (a : Nat → Nat) (r : Nat → Nat) (σ : St) {j n : Nat} (ho : ArOK SC j 1 n) (hn : n < 2 ^ 31) (i v : Int32) (l : Launch) (D : va_G) (cy : Nat → ClassId) : Ct l D cy SC r (EC a gC) y_X12_set (Cond.code y_X12_set b_X12_set 3 none) 0 [.ref (r j), .int i, .int v] σ Z0 [] (QV (fun σ9 => σ9 = upF σ j (setv n (σ j) i v))) QT0 := by
  refine Ct_of (EC_ok a gC) (by decide) (Nat.le_of_ble_eq_true rfl) (by decide) (fun X hnn hF => ?_)
  show G SC r X σ Z0 [] [(0, .ref (r j)), (1, .int i), (2, .int v)] [] 0
  refine g_iload_n hF d_X12_set_0 rfl 1 rfl ?_
  refine g_if_lt hF 14 d_X12_set_1 (by decide) rfl (fun c1 => ?_) (fun c1 => ?_)
  · exact g_vret hF rfl d_X12_set_14 ⟨rfl, rfl, rfl, by rw [setv_out (Or.inl c1), upF_id]⟩
  · refine g_iload_n hF d_X12_set_4 rfl 1 rfl ?_
    refine g_aload_n hF d_X12_set_5 rfl 0 rfl ?_
    refine g_alen hF ho (fun _ => ⟨1, _, rfl⟩) (v := nI n) rfl d_X12_set_6 ?_
    refine g_icmp_ge hF 14 d_X12_set_7 (by decide) rfl (nI_toInt hn) (fun c2 => ?_) (fun c2 => ?_)
    · exact g_vret hF rfl d_X12_set_14 ⟨rfl, rfl, rfl, by rw [setv_out (Or.inr c2), upF_id]⟩
    · refine g_aload_n hF d_X12_set_10 rfl 0 rfl ?_
      refine g_iload_n hF d_X12_set_11 rfl 1 rfl ?_
      refine g_iload_n hF d_X12_set_12 rfl 2 rfl ?_
      refine g_iast hF ho (s_in hn c1 c2) d_X12_set_13 ?_
      refine g_vret hF rfl d_X12_set_14 ⟨rfl, rfl, rfl, ?_⟩
      rw [setv_in (s_in hn c1 c2) hn]
      funext z
      unfold upC upF
      split <;> simp_all
theorem c_atT0 (a : Nat → Nat) (r : Nat → Nat) (σ0 : St) (i : Int32) (l : Launch) (D : va_G) (cy : Nat → ClassId) : Ct l D cy SC r (EC a gC) y_X12_at (Cond.code y_X12_at b_X12_at 2 (some .int)) 0 [.ref (a 0), .int i] σ0 Z0 [] (QI (fun v9 σ9 => v9 = atv 18 (gC 0) i ∧ σ9 = σ0)) QT0 := by
  have hn : 18 < 2 ^ 31 := by decide
  refine Ct_of (EC_ok a gC) (by decide) (Nat.le_of_ble_eq_true rfl) (by decide) (fun X hnn hF => ?_)
  show G SC r X σ0 Z0 [] [(0, .ref (a 0)), (1, .int i)] [] 0
  refine g_iload_n hF d_X12_at_0 rfl 1 rfl ?_
  refine g_if_lt hF 16 d_X12_at_1 (by decide) rfl (fun c1 => ?_) (fun c1 => ?_)
  · refine g_iconst hF (v := 0) d_X12_at_16 (by decide) ?_
    exact g_iret hF rfl d_X12_at_17 ⟨rfl, rfl, 0, rfl, (atv_out (Or.inl c1)).symm, rfl⟩
  · refine g_iload_n hF d_X12_at_4 rfl 1 rfl ?_
    refine g_aload_n hF d_X12_at_5 rfl 0 rfl ?_
    refine g_tlen hF (fun A s h => EC_t0 h) (v := nI 18) rfl d_X12_at_6 ?_
    refine g_icmp_ge hF 16 d_X12_at_7 (by decide) rfl (nI_toInt hn) (fun c2 => ?_) (fun c2 => ?_)
    · refine g_iconst hF (v := 0) d_X12_at_16 (by decide) ?_
      exact g_iret hF rfl d_X12_at_17 ⟨rfl, rfl, 0, rfl, (atv_out (Or.inr c2)).symm, rfl⟩
    · refine g_aload_n hF d_X12_at_10 rfl 0 rfl ?_
      refine g_iload_n hF d_X12_at_11 rfl 1 rfl ?_
      refine g_ti hF (fun A s h => EC_t0 h) (s_in hn c1 c2) d_X12_at_12 ?_
      refine g_goto hF 17 d_X12_at_13 (by decide) ?_
      exact g_iret hF rfl d_X12_at_17 ⟨rfl, rfl, _, rfl, (atv_in (s_in hn c1 c2) hn).symm, rfl⟩
theorem c_atT1 (a : Nat → Nat) (r : Nat → Nat) (σ0 : St) (i : Int32) (l : Launch) (D : va_G) (cy : Nat → ClassId) : Ct l D cy SC r (EC a gC) y_X12_at (Cond.code y_X12_at b_X12_at 2 (some .int)) 0 [.ref (a 1), .int i] σ0 Z0 [] (QI (fun v9 σ9 => v9 = atv 61 (gC 1) i ∧ σ9 = σ0)) QT0 := by
  have hn : 61 < 2 ^ 31 := by decide
  refine Ct_of (EC_ok a gC) (by decide) (Nat.le_of_ble_eq_true rfl) (by decide) (fun X hnn hF => ?_)
  show G SC r X σ0 Z0 [] [(0, .ref (a 1)), (1, .int i)] [] 0
  refine g_iload_n hF d_X12_at_0 rfl 1 rfl ?_
  refine g_if_lt hF 16 d_X12_at_1 (by decide) rfl (fun c1 => ?_) (fun c1 => ?_)
  · refine g_iconst hF (v := 0) d_X12_at_16 (by decide) ?_
    exact g_iret hF rfl d_X12_at_17 ⟨rfl, rfl, 0, rfl, (atv_out (Or.inl c1)).symm, rfl⟩
  · refine g_iload_n hF d_X12_at_4 rfl 1 rfl ?_
    refine g_aload_n hF d_X12_at_5 rfl 0 rfl ?_
    refine g_tlen hF (fun A s h => EC_t1 h) (v := nI 61) rfl d_X12_at_6 ?_
    refine g_icmp_ge hF 16 d_X12_at_7 (by decide) rfl (nI_toInt hn) (fun c2 => ?_) (fun c2 => ?_)
    · refine g_iconst hF (v := 0) d_X12_at_16 (by decide) ?_
      exact g_iret hF rfl d_X12_at_17 ⟨rfl, rfl, 0, rfl, (atv_out (Or.inr c2)).symm, rfl⟩
    · refine g_aload_n hF d_X12_at_10 rfl 0 rfl ?_
      refine g_iload_n hF d_X12_at_11 rfl 1 rfl ?_
      refine g_ti hF (fun A s h => EC_t1 h) (s_in hn c1 c2) d_X12_at_12 ?_
      refine g_goto hF 17 d_X12_at_13 (by decide) ?_
      exact g_iret hF rfl d_X12_at_17 ⟨rfl, rfl, _, rfl, (atv_in (s_in hn c1 c2) hn).symm, rfl⟩
