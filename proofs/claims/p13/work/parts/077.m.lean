set_option maxHeartbeats 4000000 in
set_option maxRecDepth 100000 in
theorem kt_X9_useUp (a : Nat → Nat) (r : Nat → Nat) {σ : St} {Q : St → Prop} (w : wk_X9_useUp  σ Q) (l : Launch) (D : va_G) (cy : Nat → ClassId) : Ct l D cy SC r (EC a gC) y_X9_useUp (Cond.code y_X9_useUp b_X9_useUp 1 none) 0 [.ref (r 11)] σ Z0 [] (QV Q) QT0 := by
  unfold wk_X9_useUp at w
  refine Ct_of (EC_ok a gC) (by decide) (Nat.le_of_ble_eq_true rfl) (by decide) (fun X hnn hF => ?_)
  show G SC r X σ Z0 [] [(0, .ref (r 11))] [] 0
  refine g_aload_n hF d_X9_useUp_0 rfl 0 rfl ?_
  refine g_iconst hF (v := 0) d_X9_useUp_1 (by decide) ?_
  refine g_put (v := 0) hF 0 obC_11 (by decide) m_646 rfl rfl rfl d_X9_useUp_2 ?_
  exact g_vret hF rfl d_X9_useUp_5 ⟨rfl, rfl, rfl, w⟩
set_option maxHeartbeats 4000000 in
set_option maxRecDepth 100000 in
theorem kt_X5_stray (a : Nat → Nat) (r : Nat → Nat) {σ : St} {Q : St → Prop} (w : wk_X5_stray  σ Q) (l : Launch) (D : va_G) (cy : Nat → ClassId) : Ct l D cy SC r (EC a gC) y_X5_stray (Cond.code y_X5_stray b_X5_stray 1 none) 0 [.ref (r 12)] σ Z0 [] (QV Q) QT0 := by
  unfold wk_X5_stray at w
  refine Ct_of (EC_ok a gC) (by decide) (Nat.le_of_ble_eq_true rfl) (by decide) (fun X hnn hF => ?_)
  show G SC r X σ Z0 [] [(0, .ref (r 12))] [] 0
  refine g_aload_n hF d_X5_stray_0 rfl 0 rfl ?_
  refine g_dup hF d_X5_stray_1 rfl ?_
  refine g_get (v := .int (σ 12 18)) hF 18 obC_12 (by decide) m_694 rfl d_X5_stray_2 ?_
  refine g_iconst hF (v := 1) d_X5_stray_5 (by decide) ?_
  refine g_iadd hF d_X5_stray_6 ?_
  refine g_put (v := ((σ 12 18) + (1 : Int32))) hF 18 obC_12 (by decide) m_694 rfl rfl rfl d_X5_stray_7 ?_
  refine g_aload_n hF d_X5_stray_10 rfl 0 rfl ?_
  refine g_iconst hF (v := 0) d_X5_stray_11 (by decide) ?_
  refine g_put (v := 0) hF 13 obC_12 (by decide) m_685 rfl rfl rfl d_X5_stray_12 ?_
  exact g_vret hF rfl d_X5_stray_15 ⟨rfl, rfl, rfl, w⟩
set_option maxHeartbeats 4000000 in
set_option maxRecDepth 100000 in
theorem kt_X5_push (a : Nat → Nat) (r : Nat → Nat) {a1 : Int32} {σ : St} {Q : St → Prop} (w : wk_X5_push a1 σ Q) (l : Launch) (D : va_G) (cy : Nat → ClassId) : Ct l D cy SC r (EC a gC) y_X5_push (Cond.code y_X5_push b_X5_push 2 none) 1 [.ref (r 12), .int a1] σ Z0 [] (QV Q) QT0 := by
  unfold wk_X5_push at w
  refine Ct_of (EC_ok a gC) (by decide) (Nat.le_of_ble_eq_true rfl) (by decide) (fun X hnn hF => ?_)
  show G SC r X σ Z0 [] [(0, .ref (r 12)), (1, .int a1)] [] 0
  refine g_aload_n hF d_X5_push_0 rfl 0 rfl ?_
  refine g_get (v := .ref (r 63)) hF 5 obC_12 (by decide) m_677 rfl d_X5_push_1 ?_
  refine g_aload_n hF d_X5_push_4 rfl 0 rfl ?_
  refine g_get (v := .int (σ 12 9)) hF 9 obC_12 (by decide) m_681 rfl d_X5_push_5 ?_
  refine g_iload_n hF d_X5_push_8 rfl 1 rfl ?_
  refine g_callSN (As := [.ref (r 63), .int (σ 12 9), .int a1]) (rest := []) hF (c_setv a r σ arC_63 (by decide) (σ 12 9) a1) (Nat.le_of_ble_eq_true rfl) mS_X12_set nm_1661 rfl rfl (Nat.le_of_ble_eq_true rfl) d_X5_push_9 (kU ?_)
  refine g_aload_n hF d_X5_push_12 rfl 0 rfl ?_
  refine g_dup hF d_X5_push_13 rfl ?_
  refine g_get (v := .int (σ 12 9)) hF 9 obC_12 (by decide) m_681 rfl d_X5_push_14 ?_
  refine g_iconst hF (v := 1) d_X5_push_17 (by decide) ?_
  refine g_iadd hF d_X5_push_18 ?_
  refine g_put (v := ((σ 12 9) + (1 : Int32))) hF 9 obC_12 (by decide) m_681 rfl rfl rfl d_X5_push_19 ?_
  exact g_vret hF rfl d_X5_push_22 ⟨rfl, rfl, rfl, w⟩
set_option maxHeartbeats 4000000 in
set_option maxRecDepth 100000 in
theorem kt_X5_pop (a : Nat → Nat) (r : Nat → Nat) {σ : St} {Q : Int32 → St → Prop} (w : wk_X5_pop  σ Q) (l : Launch) (D : va_G) (cy : Nat → ClassId) : Ct l D cy SC r (EC a gC) y_X5_pop (Cond.code y_X5_pop b_X5_pop 1 (some .int)) 1 [.ref (r 12)] σ Z0 [] (QI Q) QT0 := by
  unfold wk_X5_pop at w
  refine Ct_of (EC_ok a gC) (by decide) (Nat.le_of_ble_eq_true rfl) (by decide) (fun X hnn hF => ?_)
  show G SC r X σ Z0 [] [(0, .ref (r 12))] [] 0
  refine g_aload_n hF d_X5_pop_0 rfl 0 rfl ?_
  refine g_dup hF d_X5_pop_1 rfl ?_
  refine g_get (v := .int (σ 12 9)) hF 9 obC_12 (by decide) m_681 rfl d_X5_pop_2 ?_
  refine g_iconst hF (v := 1) d_X5_pop_5 (by decide) ?_
  refine g_isub hF d_X5_pop_6 ?_
  refine g_put (v := ((σ 12 9) - (1 : Int32))) hF 9 obC_12 (by decide) m_681 rfl rfl rfl d_X5_pop_7 ?_
  refine g_aload_n hF d_X5_pop_10 rfl 0 rfl ?_
  refine g_get (v := .ref (r 63)) hF 5 obC_12 (by decide) m_677 rfl d_X5_pop_11 ?_
  refine g_aload_n hF d_X5_pop_14 rfl 0 rfl ?_
  refine g_get (v := .int ((σ 12 9) - (1 : Int32))) hF 9 obC_12 (by decide) m_681 rfl d_X5_pop_15 ?_
  refine g_callSN (As := [.ref (r 63), .int ((σ 12 9) - (1 : Int32))]) (rest := []) hF (c_atv a r (upC σ 12 9 ((σ 12 9) - (1 : Int32))) arC_63 (by decide) ((σ 12 9) - (1 : Int32))) (Nat.le_of_ble_eq_true rfl) mS_X12_at nm_1660 rfl rfl (Nat.le_of_ble_eq_true rfl) d_X5_pop_18 (kQ ?_)
  refine g_top (v := (atv 148496 (σ 63) ((σ 12 9) - (1 : Int32)))) rfl ?_
  exact g_iret hF rfl d_X5_pop_21 ⟨rfl, rfl, (atv 148496 (σ 63) ((σ 12 9) - (1 : Int32))), rfl, w⟩
set_option maxHeartbeats 4000000 in
set_option maxRecDepth 100000 in
theorem kt_X5_peeked (a : Nat → Nat) (r : Nat → Nat) {σ : St} {Q : Int32 → Prop} (w : wk_X5_peeked  σ Q) (l : Launch) (D : va_G) (cy : Nat → ClassId) : Ct l D cy SC r (EC a gC) y_X5_peeked (Cond.code y_X5_peeked b_X5_peeked 1 (some .int)) 1 [.ref (r 12)] σ Z0 [] (QI (fun x σ9 => σ9 = σ ∧ Q x)) QT0 := by
  unfold wk_X5_peeked at w
  refine Ct_of (EC_ok a gC) (by decide) (Nat.le_of_ble_eq_true rfl) (by decide) (fun X hnn hF => ?_)
  show G SC r X σ Z0 [] [(0, .ref (r 12))] [] 0
  refine g_aload_n hF d_X5_peeked_0 rfl 0 rfl ?_
  refine g_get (v := .ref (r 63)) hF 5 obC_12 (by decide) m_677 rfl d_X5_peeked_1 ?_
  refine g_aload_n hF d_X5_peeked_4 rfl 0 rfl ?_
  refine g_get (v := .int (σ 12 9)) hF 9 obC_12 (by decide) m_681 rfl d_X5_peeked_5 ?_
  refine g_iconst hF (v := 1) d_X5_peeked_8 (by decide) ?_
  refine g_isub hF d_X5_peeked_9 ?_
  refine g_callSN (As := [.ref (r 63), .int ((σ 12 9) - (1 : Int32))]) (rest := []) hF (c_atv a r σ arC_63 (by decide) ((σ 12 9) - (1 : Int32))) (Nat.le_of_ble_eq_true rfl) mS_X12_at nm_1660 rfl rfl (Nat.le_of_ble_eq_true rfl) d_X5_peeked_10 (kQ ?_)
  refine g_top (v := (atv 148496 (σ 63) ((σ 12 9) - (1 : Int32)))) rfl ?_
  exact g_iret hF rfl d_X5_peeked_13 ⟨rfl, rfl, (atv 148496 (σ 63) ((σ 12 9) - (1 : Int32))), rfl, ⟨rfl, w⟩⟩
set_option maxHeartbeats 4000000 in
set_option maxRecDepth 100000 in
theorem kt_X5_stepped_r62 (a : Nat → Nat) (r : Nat → Nat) {a2 : Int32} {a3 : Int32} {σ : St} {Q : St → Prop} (w : wk_X5_stepped_r62 a2 a3 σ Q) (l : Launch) (D : va_G) (cy : Nat → ClassId) : Ct l D cy SC r (EC a gC) y_X5_stepped (Cond.code y_X5_stepped b_X5_stepped 5 none) 2 [.ref (r 12), .ref (r 62), .int a2, .int a3] σ Z0 [] (QV Q) QT0 := by
  unfold wk_X5_stepped_r62 at w
  refine Ct_of (EC_ok a gC) (by decide) (Nat.le_of_ble_eq_true rfl) (by decide) (fun X hnn hF => ?_)
  show G SC r X σ Z0 [] [(0, .ref (r 12)), (1, .ref (r 62)), (2, .int a2), (3, .int a3)] [] 0
  refine g_aload_n hF d_X5_stepped_0 rfl 1 rfl ?_
  refine g_iload_n hF d_X5_stepped_1 rfl 2 rfl ?_
  refine g_callSN (As := [.ref (r 62), .int a2]) (rest := []) hF (c_atv a r σ arC_62 (by decide) a2) (Nat.le_of_ble_eq_true rfl) mS_X12_at nm_1660 rfl rfl (Nat.le_of_ble_eq_true rfl) d_X5_stepped_2 (kQ ?_)
  refine g_top (v := (atv 32768 (σ 62) a2)) rfl ?_
  refine g_aload_n hF d_X5_stepped_5 rfl 0 rfl ?_
  refine g_get (v := .ref (r 24)) hF 3 obC_12 (by decide) m_674 rfl d_X5_stepped_6 ?_
  refine g_iload_n hF d_X5_stepped_9 rfl 3 rfl ?_
  refine g_iconst hF (v := 2) d_X5_stepped_10 (by decide) ?_
  refine g_iadd hF d_X5_stepped_11 ?_
  refine g_callSN (As := [.ref (r 24), .int (a3 + (2 : Int32))]) (rest := [.int (atv 32768 (σ 62) a2)]) hF (c_atv a r σ arC_24 (by decide) (a3 + (2 : Int32))) (Nat.le_of_ble_eq_true rfl) mS_X12_at nm_1660 rfl rfl (Nat.le_of_ble_eq_true rfl) d_X5_stepped_12 (kQ ?_)
  refine g_top (v := (atv 262208 (σ 24) (a3 + (2 : Int32)))) rfl ?_
  refine g_iadd hF d_X5_stepped_15 ?_
  refine g_istore hF [(4, .int ((atv 32768 (σ 62) a2) + (atv 262208 (σ 24) (a3 + (2 : Int32))))), (0, .ref (r 12)), (1, .ref (r 62)), (2, .int a2), (3, .int a3)] d_X5_stepped_16 hnn (by decide) rfl ?_
  refine g_aload_n hF d_X5_stepped_18 rfl 2 rfl ?_
  refine g_iload_n hF d_X5_stepped_19 rfl 3 rfl ?_
  refine g_iload hF d_X5_stepped_20 0 rfl ?_
  refine g_callSN (As := [.ref (r 62), .int a2, .int ((atv 32768 (σ 62) a2) + (atv 262208 (σ 24) (a3 + (2 : Int32))))]) (rest := []) hF (c_setv a r σ arC_62 (by decide) a2 ((atv 32768 (σ 62) a2) + (atv 262208 (σ 24) (a3 + (2 : Int32))))) (Nat.le_of_ble_eq_true rfl) mS_X12_set nm_1661 rfl rfl (Nat.le_of_ble_eq_true rfl) d_X5_stepped_22 (kU ?_)
  refine g_aload_n hF d_X5_stepped_25 rfl 1 rfl ?_
  refine g_iload hF d_X5_stepped_26 0 rfl ?_
  refine g_aload_n hF d_X5_stepped_28 rfl 1 rfl ?_
  refine g_get (v := .ref (r 24)) hF 3 obC_12 (by decide) m_674 rfl d_X5_stepped_29 ?_
  refine g_iload_n hF d_X5_stepped_32 rfl 4 rfl ?_
  refine g_iconst hF (v := 3) d_X5_stepped_33 (by decide) ?_
  refine g_iadd hF d_X5_stepped_34 ?_
  refine g_callSN (As := [.ref (r 24), .int (a3 + (3 : Int32))]) (rest := [.int ((atv 32768 (σ 62) a2) + (atv 262208 (σ 24) (a3 + (2 : Int32)))), .ref (r 12)]) hF (c_atv a r (upF σ 62 (setv 32768 (σ 62) a2 ((atv 32768 (σ 62) a2) + (atv 262208 (σ 24) (a3 + (2 : Int32)))))) arC_24 (by decide) (a3 + (3 : Int32))) (Nat.le_of_ble_eq_true rfl) mS_X12_at nm_1660 rfl rfl (Nat.le_of_ble_eq_true rfl) d_X5_stepped_35 (kQ ?_)
  refine g_top (v := (atv 262208 (σ 24) (a3 + (3 : Int32)))) rfl ?_
  refine g_isub hF d_X5_stepped_38 ?_
  refine g_callV (As := [.int (((atv 32768 (σ 62) a2) + (atv 262208 (σ 24) (a3 + (2 : Int32)))) - (atv 262208 (σ 24) (a3 + (3 : Int32))))]) (rest := []) hF (fun l D cy => kt_X5_push a r w l D cy) (Nat.le_of_ble_eq_true rfl) mV_X5_push m_1686 (recv_ob obC_12) rfl rfl (Nat.le_of_ble_eq_true rfl) d_X5_stepped_39 (qV (fun s39 w1 => ?_)) (fun _ _ _ h => h.elim)
  exact g_vret hF rfl d_X5_stepped_42 ⟨rfl, rfl, rfl, w1⟩
set_option maxHeartbeats 4000000 in
set_option maxRecDepth 100000 in
theorem kt_X5_stepped_r63 (a : Nat → Nat) (r : Nat → Nat) {a2 : Int32} {a3 : Int32} {σ : St} {Q : St → Prop} (w : wk_X5_stepped_r63 a2 a3 σ Q) (l : Launch) (D : va_G) (cy : Nat → ClassId) : Ct l D cy SC r (EC a gC) y_X5_stepped (Cond.code y_X5_stepped b_X5_stepped 5 none) 2 [.ref (r 12), .ref (r 63), .int a2, .int a3] σ Z0 [] (QV Q) QT0 := by
  unfold wk_X5_stepped_r63 at w
  refine Ct_of (EC_ok a gC) (by decide) (Nat.le_of_ble_eq_true rfl) (by decide) (fun X hnn hF => ?_)
  show G SC r X σ Z0 [] [(0, .ref (r 12)), (1, .ref (r 63)), (2, .int a2), (3, .int a3)] [] 0
  refine g_aload_n hF d_X5_stepped_0 rfl 1 rfl ?_
  refine g_iload_n hF d_X5_stepped_1 rfl 2 rfl ?_
  refine g_callSN (As := [.ref (r 63), .int a2]) (rest := []) hF (c_atv a r σ arC_63 (by decide) a2) (Nat.le_of_ble_eq_true rfl) mS_X12_at nm_1660 rfl rfl (Nat.le_of_ble_eq_true rfl) d_X5_stepped_2 (kQ ?_)
  refine g_top (v := (atv 148496 (σ 63) a2)) rfl ?_
  refine g_aload_n hF d_X5_stepped_5 rfl 0 rfl ?_
  refine g_get (v := .ref (r 24)) hF 3 obC_12 (by decide) m_674 rfl d_X5_stepped_6 ?_
  refine g_iload_n hF d_X5_stepped_9 rfl 3 rfl ?_
  refine g_iconst hF (v := 2) d_X5_stepped_10 (by decide) ?_
  refine g_iadd hF d_X5_stepped_11 ?_
  refine g_callSN (As := [.ref (r 24), .int (a3 + (2 : Int32))]) (rest := [.int (atv 148496 (σ 63) a2)]) hF (c_atv a r σ arC_24 (by decide) (a3 + (2 : Int32))) (Nat.le_of_ble_eq_true rfl) mS_X12_at nm_1660 rfl rfl (Nat.le_of_ble_eq_true rfl) d_X5_stepped_12 (kQ ?_)
  refine g_top (v := (atv 262208 (σ 24) (a3 + (2 : Int32)))) rfl ?_
  refine g_iadd hF d_X5_stepped_15 ?_
  refine g_istore hF [(4, .int ((atv 148496 (σ 63) a2) + (atv 262208 (σ 24) (a3 + (2 : Int32))))), (0, .ref (r 12)), (1, .ref (r 63)), (2, .int a2), (3, .int a3)] d_X5_stepped_16 hnn (by decide) rfl ?_
  refine g_aload_n hF d_X5_stepped_18 rfl 2 rfl ?_
  refine g_iload_n hF d_X5_stepped_19 rfl 3 rfl ?_
  refine g_iload hF d_X5_stepped_20 0 rfl ?_
  refine g_callSN (As := [.ref (r 63), .int a2, .int ((atv 148496 (σ 63) a2) + (atv 262208 (σ 24) (a3 + (2 : Int32))))]) (rest := []) hF (c_setv a r σ arC_63 (by decide) a2 ((atv 148496 (σ 63) a2) + (atv 262208 (σ 24) (a3 + (2 : Int32))))) (Nat.le_of_ble_eq_true rfl) mS_X12_set nm_1661 rfl rfl (Nat.le_of_ble_eq_true rfl) d_X5_stepped_22 (kU ?_)
  refine g_aload_n hF d_X5_stepped_25 rfl 1 rfl ?_
  refine g_iload hF d_X5_stepped_26 0 rfl ?_
  refine g_aload_n hF d_X5_stepped_28 rfl 1 rfl ?_
  refine g_get (v := .ref (r 24)) hF 3 obC_12 (by decide) m_674 rfl d_X5_stepped_29 ?_
  refine g_iload_n hF d_X5_stepped_32 rfl 4 rfl ?_
  refine g_iconst hF (v := 3) d_X5_stepped_33 (by decide) ?_
  refine g_iadd hF d_X5_stepped_34 ?_
  refine g_callSN (As := [.ref (r 24), .int (a3 + (3 : Int32))]) (rest := [.int ((atv 148496 (σ 63) a2) + (atv 262208 (σ 24) (a3 + (2 : Int32)))), .ref (r 12)]) hF (c_atv a r (upF σ 63 (setv 148496 (σ 63) a2 ((atv 148496 (σ 63) a2) + (atv 262208 (σ 24) (a3 + (2 : Int32)))))) arC_24 (by decide) (a3 + (3 : Int32))) (Nat.le_of_ble_eq_true rfl) mS_X12_at nm_1660 rfl rfl (Nat.le_of_ble_eq_true rfl) d_X5_stepped_35 (kQ ?_)
  refine g_top (v := (atv 262208 (σ 24) (a3 + (3 : Int32)))) rfl ?_
  refine g_isub hF d_X5_stepped_38 ?_
  refine g_callV (As := [.int (((atv 148496 (σ 63) a2) + (atv 262208 (σ 24) (a3 + (2 : Int32)))) - (atv 262208 (σ 24) (a3 + (3 : Int32))))]) (rest := []) hF (fun l D cy => kt_X5_push a r w l D cy) (Nat.le_of_ble_eq_true rfl) mV_X5_push m_1686 (recv_ob obC_12) rfl rfl (Nat.le_of_ble_eq_true rfl) d_X5_stepped_39 (qV (fun s39 w1 => ?_)) (fun _ _ _ h => h.elim)
  exact g_vret hF rfl d_X5_stepped_42 ⟨rfl, rfl, rfl, w1⟩
set_option maxHeartbeats 4000000 in
set_option maxRecDepth 100000 in
theorem kt_X5_plain (a : Nat → Nat) (r : Nat → Nat) {a1 : Int32} {a2 : Int32} {σ : St} {Q : St → Prop} (w : wk_X5_plain a1 a2 σ Q) (l : Launch) (D : va_G) (cy : Nat → ClassId) : Ct l D cy SC r (EC a gC) y_X5_plain (Cond.code y_X5_plain b_X5_plain 5 none) 3 [.ref (r 12), .int a1, .int a2] σ Z0 [] (QV Q) QT0 := by
  unfold wk_X5_plain at w
  refine Ct_of (EC_ok a gC) (by decide) (Nat.le_of_ble_eq_true rfl) (by decide) (fun X hnn hF => ?_)
  show G SC r X σ Z0 [] [(0, .ref (r 12)), (1, .int a1), (2, .int a2)] [] 0
  refine g_aload_n hF d_X5_plain_0 rfl 0 rfl ?_
  refine g_get (v := .ref (r 24)) hF 3 obC_12 (by decide) m_674 rfl d_X5_plain_1 ?_
  refine g_iload_n hF d_X5_plain_4 rfl 2 rfl ?_
  refine g_iconst hF (v := 1) d_X5_plain_5 (by decide) ?_
  refine g_iadd hF d_X5_plain_6 ?_
  refine g_callSN (As := [.ref (r 24), .int (a2 + (1 : Int32))]) (rest := []) hF (c_atv a r σ arC_24 (by decide) (a2 + (1 : Int32))) (Nat.le_of_ble_eq_true rfl) mS_X12_at nm_1660 rfl rfl (Nat.le_of_ble_eq_true rfl) d_X5_plain_7 (kQ ?_)
  refine g_top (v := (atv 262208 (σ 24) (a2 + (1 : Int32)))) rfl ?_
  refine g_istore_n hF [(3, .int (atv 262208 (σ 24) (a2 + (1 : Int32)))), (0, .ref (r 12)), (1, .int a1), (2, .int a2)] d_X5_plain_10 rfl hnn (by decide) rfl ?_
  refine g_aload_n hF d_X5_plain_11 rfl 1 rfl ?_
  refine g_get (v := .ref (r 24)) hF 3 obC_12 (by decide) m_674 rfl d_X5_plain_12 ?_
  refine g_iload_n hF d_X5_plain_15 rfl 3 rfl ?_
  refine g_iconst hF (v := 2) d_X5_plain_16 (by decide) ?_
  refine g_iadd hF d_X5_plain_17 ?_
  refine g_callSN (As := [.ref (r 24), .int (a2 + (2 : Int32))]) (rest := []) hF (c_atv a r σ arC_24 (by decide) (a2 + (2 : Int32))) (Nat.le_of_ble_eq_true rfl) mS_X12_at nm_1660 rfl rfl (Nat.le_of_ble_eq_true rfl) d_X5_plain_18 (kQ ?_)
  refine g_top (v := (atv 262208 (σ 24) (a2 + (2 : Int32)))) rfl ?_
  refine g_istore hF [(4, .int (atv 262208 (σ 24) (a2 + (2 : Int32)))), (3, .int (atv 262208 (σ 24) (a2 + (1 : Int32)))), (0, .ref (r 12)), (1, .int a1), (2, .int a2)] d_X5_plain_21 hnn (by decide) rfl ?_
  refine g_iload_n hF d_X5_plain_23 rfl 3 rfl ?_
  refine (Decidable.em (a1.toInt = 1)).elim (fun q24_0 => ?_) (fun q24_0 => ?_)
  · have w1 := w.1 q24_0
    refine g_tableIn (off := 52) hF 76 d_X5_plain_24 q24_0 (by decide) (by decide) (by decide +kernel) (by decide) ?_
    refine g_aload_n hF d_X5_plain_76 rfl 2 rfl ?_
    refine g_iload_n hF d_X5_plain_77 rfl 1 rfl ?_
    refine g_callV (As := [.int (atv 262208 (σ 24) (a2 + (1 : Int32)))]) (rest := []) hF (fun l D cy => kt_X5_push a r w1 l D cy) (Nat.le_of_ble_eq_true rfl) mV_X5_push m_1686 (recv_ob obC_12) rfl rfl (Nat.le_of_ble_eq_true rfl) d_X5_plain_78 (qV (fun s78 w2 => ?_)) (fun _ _ _ h => h.elim)
    refine g_goto hF 259 d_X5_plain_81 (by decide) ?_
    exact g_vret hF rfl d_X5_plain_259 ⟨rfl, rfl, rfl, w2⟩
  have w3 := w.2 q24_0
  refine (Decidable.em (a1.toInt = 2)).elim (fun q24_1 => ?_) (fun q24_1 => ?_)
  · have w4 := w3.1 q24_1
    refine g_tableIn (off := 60) hF 84 d_X5_plain_24 q24_1 (by decide) (by decide) (by decide +kernel) (by decide) ?_
    refine g_aload_n hF d_X5_plain_84 rfl 2 rfl ?_
    refine g_callV (As := []) (rest := []) hF (fun l D cy => kt_X5_pop a r w4 l D cy) (Nat.le_of_ble_eq_true rfl) mV_X5_pop m_1681 (recv_ob obC_12) rfl rfl (Nat.le_of_ble_eq_true rfl) d_X5_plain_85 (qI (fun v85 s85 w5 => ?_)) (fun _ _ _ h => h.elim)
    refine g_pop hF d_X5_plain_88 rfl ?_
    refine g_goto hF 259 d_X5_plain_89 (by decide) ?_
    exact g_vret hF rfl d_X5_plain_259 ⟨rfl, rfl, rfl, w5⟩
  have w6 := w3.2 q24_1
  refine (Decidable.em (a1.toInt = 3)).elim (fun q24_2 => ?_) (fun q24_2 => ?_)
  · have w7 := w6.1 q24_2
    refine g_tableIn (off := 68) hF 92 d_X5_plain_24 q24_2 (by decide) (by decide) (by decide +kernel) (by decide) ?_
    refine g_aload_n hF d_X5_plain_92 rfl 2 rfl ?_
    refine g_aload_n hF d_X5_plain_93 rfl 2 rfl ?_
    refine g_get (v := .ref (r 10)) hF 1 obC_12 (by decide) m_672 rfl d_X5_plain_94 ?_
    refine g_getN (v := .ref (r 58)) hF 9 obC_10 (by decide) nm_610 rfl d_X5_plain_97 ?_
    refine g_iload_n hF d_X5_plain_100 rfl 1 rfl ?_
    refine g_callSN (As := [.ref (r 58), .int (atv 262208 (σ 24) (a2 + (1 : Int32)))]) (rest := [.ref (r 12)]) hF (c_atv a r σ arC_58 (by decide) (atv 262208 (σ 24) (a2 + (1 : Int32)))) (Nat.le_of_ble_eq_true rfl) mS_X12_at nm_1660 rfl rfl (Nat.le_of_ble_eq_true rfl) d_X5_plain_101 (kQ ?_)
    refine g_top (v := (atv 101 (σ 58) (atv 262208 (σ 24) (a2 + (1 : Int32))))) rfl ?_
    refine g_iload hF d_X5_plain_104 0 rfl ?_
    refine g_iadd hF d_X5_plain_106 ?_
    refine g_callV (As := [.int ((atv 101 (σ 58) (atv 262208 (σ 24) (a2 + (1 : Int32)))) + (atv 262208 (σ 24) (a2 + (2 : Int32))))]) (rest := []) hF (fun l D cy => kt_X5_push a r w7 l D cy) (Nat.le_of_ble_eq_true rfl) mV_X5_push m_1686 (recv_ob obC_12) rfl rfl (Nat.le_of_ble_eq_true rfl) d_X5_plain_107 (qV (fun s107 w8 => ?_)) (fun _ _ _ h => h.elim)
    refine g_goto hF 259 d_X5_plain_110 (by decide) ?_
    exact g_vret hF rfl d_X5_plain_259 ⟨rfl, rfl, rfl, w8⟩
  have w9 := w6.2 q24_2
  refine (Decidable.em (a1.toInt = 4)).elim (fun q24_3 => ?_) (fun q24_3 => ?_)
  · have w10 := w9.1 q24_3
    refine g_tableIn (off := 89) hF 113 d_X5_plain_24 q24_3 (by decide) (by decide) (by decide +kernel) (by decide) ?_
    refine g_aload_n hF d_X5_plain_113 rfl 2 rfl ?_
    refine g_aload_n hF d_X5_plain_114 rfl 2 rfl ?_
    refine g_get (v := .ref (r 10)) hF 1 obC_12 (by decide) m_672 rfl d_X5_plain_115 ?_
    refine g_getN (v := .ref (r 59)) hF 10 obC_10 (by decide) nm_612 rfl d_X5_plain_118 ?_
    refine g_iload_n hF d_X5_plain_121 rfl 1 rfl ?_
    refine g_callSN (As := [.ref (r 59), .int (atv 262208 (σ 24) (a2 + (1 : Int32)))]) (rest := [.ref (r 12)]) hF (c_atv a r σ arC_59 (by decide) (atv 262208 (σ 24) (a2 + (1 : Int32)))) (Nat.le_of_ble_eq_true rfl) mS_X12_at nm_1660 rfl rfl (Nat.le_of_ble_eq_true rfl) d_X5_plain_122 (kQ ?_)
    refine g_top (v := (atv 10100 (σ 59) (atv 262208 (σ 24) (a2 + (1 : Int32))))) rfl ?_
    refine g_callV (As := [.int (atv 10100 (σ 59) (atv 262208 (σ 24) (a2 + (1 : Int32))))]) (rest := []) hF (fun l D cy => kt_X5_push a r w10 l D cy) (Nat.le_of_ble_eq_true rfl) mV_X5_push m_1686 (recv_ob obC_12) rfl rfl (Nat.le_of_ble_eq_true rfl) d_X5_plain_125 (qV (fun s125 w11 => ?_)) (fun _ _ _ h => h.elim)
    refine g_goto hF 259 d_X5_plain_128 (by decide) ?_
    exact g_vret hF rfl d_X5_plain_259 ⟨rfl, rfl, rfl, w11⟩
  have w12 := w9.2 q24_3
  refine (Decidable.em (a1.toInt = 5)).elim (fun q24_4 => ?_) (fun q24_4 => ?_)
  · have w13 := w12.1 q24_4
    refine g_tableIn (off := 107) hF 131 d_X5_plain_24 q24_4 (by decide) (by decide) (by decide +kernel) (by decide) ?_
    refine g_aload_n hF d_X5_plain_131 rfl 2 rfl ?_
    refine g_aload_n hF d_X5_plain_132 rfl 2 rfl ?_
    refine g_get (v := .ref (r 62)) hF 4 obC_12 (by decide) m_675 rfl d_X5_plain_133 ?_
    refine g_aload_n hF d_X5_plain_136 rfl 2 rfl ?_
    refine g_get (v := .ref (r 10)) hF 1 obC_12 (by decide) m_672 rfl d_X5_plain_137 ?_
    refine g_getN (v := .ref (r 59)) hF 10 obC_10 (by decide) nm_612 rfl d_X5_plain_140 ?_
    refine g_iload_n hF d_X5_plain_143 rfl 1 rfl ?_
    refine g_callSN (As := [.ref (r 59), .int (atv 262208 (σ 24) (a2 + (1 : Int32)))]) (rest := [.ref (r 62), .ref (r 12)]) hF (c_atv a r σ arC_59 (by decide) (atv 262208 (σ 24) (a2 + (1 : Int32)))) (Nat.le_of_ble_eq_true rfl) mS_X12_at nm_1660 rfl rfl (Nat.le_of_ble_eq_true rfl) d_X5_plain_144 (kQ ?_)
    refine g_top (v := (atv 10100 (σ 59) (atv 262208 (σ 24) (a2 + (1 : Int32))))) rfl ?_
    refine g_callSN (As := [.ref (r 62), .int (atv 10100 (σ 59) (atv 262208 (σ 24) (a2 + (1 : Int32))))]) (rest := [.ref (r 12)]) hF (c_atv a r σ arC_62 (by decide) (atv 10100 (σ 59) (atv 262208 (σ 24) (a2 + (1 : Int32))))) (Nat.le_of_ble_eq_true rfl) mS_X12_at nm_1660 rfl rfl (Nat.le_of_ble_eq_true rfl) d_X5_plain_147 (kQ ?_)
    refine g_top (v := (atv 32768 (σ 62) (atv 10100 (σ 59) (atv 262208 (σ 24) (a2 + (1 : Int32)))))) rfl ?_
    refine g_callV (As := [.int (atv 32768 (σ 62) (atv 10100 (σ 59) (atv 262208 (σ 24) (a2 + (1 : Int32)))))]) (rest := []) hF (fun l D cy => kt_X5_push a r w13 l D cy) (Nat.le_of_ble_eq_true rfl) mV_X5_push m_1686 (recv_ob obC_12) rfl rfl (Nat.le_of_ble_eq_true rfl) d_X5_plain_150 (qV (fun s150 w14 => ?_)) (fun _ _ _ h => h.elim)
    refine g_goto hF 259 d_X5_plain_153 (by decide) ?_
    exact g_vret hF rfl d_X5_plain_259 ⟨rfl, rfl, rfl, w14⟩
  have w15 := w12.2 q24_4
  refine (Decidable.em (a1.toInt = 6)).elim (fun q24_5 => ?_) (fun q24_5 => ?_)
  · have w16 := w15.1 q24_5
    refine g_tableIn (off := 132) hF 156 d_X5_plain_24 q24_5 (by decide) (by decide) (by decide +kernel) (by decide) ?_
    refine g_aload_n hF d_X5_plain_156 rfl 2 rfl ?_
    refine g_get (v := .ref (r 62)) hF 4 obC_12 (by decide) m_675 rfl d_X5_plain_157 ?_
    refine g_aload_n hF d_X5_plain_160 rfl 2 rfl ?_
    refine g_get (v := .ref (r 10)) hF 1 obC_12 (by decide) m_672 rfl d_X5_plain_161 ?_
    refine g_getN (v := .ref (r 59)) hF 10 obC_10 (by decide) nm_612 rfl d_X5_plain_164 ?_
    refine g_iload_n hF d_X5_plain_167 rfl 1 rfl ?_
    refine g_callSN (As := [.ref (r 59), .int (atv 262208 (σ 24) (a2 + (1 : Int32)))]) (rest := [.ref (r 62)]) hF (c_atv a r σ arC_59 (by decide) (atv 262208 (σ 24) (a2 + (1 : Int32)))) (Nat.le_of_ble_eq_true rfl) mS_X12_at nm_1660 rfl rfl (Nat.le_of_ble_eq_true rfl) d_X5_plain_168 (kQ ?_)
    refine g_top (v := (atv 10100 (σ 59) (atv 262208 (σ 24) (a2 + (1 : Int32))))) rfl ?_
    refine g_aload_n hF d_X5_plain_171 rfl 2 rfl ?_
    refine g_callV (As := []) (rest := [.int (atv 10100 (σ 59) (atv 262208 (σ 24) (a2 + (1 : Int32)))), .ref (r 62)]) hF (fun l D cy => kt_X5_peeked a r w16 l D cy) (Nat.le_of_ble_eq_true rfl) mV_X5_peeked m_1744 (recv_ob obC_12) rfl rfl (Nat.le_of_ble_eq_true rfl) d_X5_plain_172 (qIr (fun v172 w17 => ?_)) (fun _ _ _ h => h.elim)
    refine g_callSN (As := [.ref (r 62), .int (atv 10100 (σ 59) (atv 262208 (σ 24) (a2 + (1 : Int32)))), .int v172]) (rest := []) hF (c_setv a r σ arC_62 (by decide) (atv 10100 (σ 59) (atv 262208 (σ 24) (a2 + (1 : Int32)))) v172) (Nat.le_of_ble_eq_true rfl) mS_X12_set nm_1661 rfl rfl (Nat.le_of_ble_eq_true rfl) d_X5_plain_175 (kU ?_)
    refine g_goto hF 259 d_X5_plain_178 (by decide) ?_
    exact g_vret hF rfl d_X5_plain_259 ⟨rfl, rfl, rfl, w17⟩
  have w18 := w15.2 q24_5
  refine (Decidable.em (a1.toInt = 7)).elim (fun q24_6 => ?_) (fun q24_6 => ?_)
  · have w19 := w18.1 q24_6
    refine g_tableIn (off := 157) hF 181 d_X5_plain_24 q24_6 (by decide) (by decide) (by decide +kernel) (by decide) ?_
    refine g_aload_n hF d_X5_plain_181 rfl 2 rfl ?_
    refine g_aload_n hF d_X5_plain_182 rfl 2 rfl ?_
    refine g_get (v := .ref (r 62)) hF 4 obC_12 (by decide) m_675 rfl d_X5_plain_183 ?_
    refine g_aload_n hF d_X5_plain_186 rfl 2 rfl ?_
    refine g_get (v := .ref (r 10)) hF 1 obC_12 (by decide) m_672 rfl d_X5_plain_187 ?_
    refine g_getN (v := .ref (r 59)) hF 10 obC_10 (by decide) nm_612 rfl d_X5_plain_190 ?_
    refine g_iload_n hF d_X5_plain_193 rfl 1 rfl ?_
    refine g_callSN (As := [.ref (r 59), .int (atv 262208 (σ 24) (a2 + (1 : Int32)))]) (rest := [.ref (r 62), .ref (r 12)]) hF (c_atv a r σ arC_59 (by decide) (atv 262208 (σ 24) (a2 + (1 : Int32)))) (Nat.le_of_ble_eq_true rfl) mS_X12_at nm_1660 rfl rfl (Nat.le_of_ble_eq_true rfl) d_X5_plain_194 (kQ ?_)
    refine g_top (v := (atv 10100 (σ 59) (atv 262208 (σ 24) (a2 + (1 : Int32))))) rfl ?_
    refine g_iload_n hF d_X5_plain_197 rfl 4 rfl ?_
    refine g_callV (As := [.ref (r 62), .int (atv 10100 (σ 59) (atv 262208 (σ 24) (a2 + (1 : Int32)))), .int a2]) (rest := []) hF (fun l D cy => kt_X5_stepped_r62 a r w19 l D cy) (Nat.le_of_ble_eq_true rfl) mV_X5_stepped m_1736 (recv_ob obC_12) rfl rfl (Nat.le_of_ble_eq_true rfl) d_X5_plain_198 (qV (fun s198 w20 => ?_)) (fun _ _ _ h => h.elim)
    refine g_goto hF 259 d_X5_plain_201 (by decide) ?_
    exact g_vret hF rfl d_X5_plain_259 ⟨rfl, rfl, rfl, w20⟩
  have w21 := w18.2 q24_6
  refine (Decidable.em (a1.toInt = 8)).elim (fun q24_7 => ?_) (fun q24_7 => ?_)
  · have w22 := w21.1 q24_7
    refine g_tableIn (off := 180) hF 204 d_X5_plain_24 q24_7 (by decide) (by decide) (by decide +kernel) (by decide) ?_
    refine g_aload_n hF d_X5_plain_204 rfl 2 rfl ?_
    refine g_aload_n hF d_X5_plain_205 rfl 2 rfl ?_
    refine g_get (v := .ref (r 63)) hF 5 obC_12 (by decide) m_677 rfl d_X5_plain_206 ?_
    refine g_aload_n hF d_X5_plain_209 rfl 2 rfl ?_
    refine g_get (v := .int (σ 12 10)) hF 10 obC_12 (by decide) m_682 rfl d_X5_plain_210 ?_
    refine g_iload_n hF d_X5_plain_213 rfl 1 rfl ?_
    refine g_iadd hF d_X5_plain_214 ?_
    refine g_callSN (As := [.ref (r 63), .int ((σ 12 10) + (atv 262208 (σ 24) (a2 + (1 : Int32))))]) (rest := [.ref (r 12)]) hF (c_atv a r σ arC_63 (by decide) ((σ 12 10) + (atv 262208 (σ 24) (a2 + (1 : Int32))))) (Nat.le_of_ble_eq_true rfl) mS_X12_at nm_1660 rfl rfl (Nat.le_of_ble_eq_true rfl) d_X5_plain_215 (kQ ?_)
    refine g_top (v := (atv 148496 (σ 63) ((σ 12 10) + (atv 262208 (σ 24) (a2 + (1 : Int32)))))) rfl ?_
    refine g_callV (As := [.int (atv 148496 (σ 63) ((σ 12 10) + (atv 262208 (σ 24) (a2 + (1 : Int32)))))]) (rest := []) hF (fun l D cy => kt_X5_push a r w22 l D cy) (Nat.le_of_ble_eq_true rfl) mV_X5_push m_1686 (recv_ob obC_12) rfl rfl (Nat.le_of_ble_eq_true rfl) d_X5_plain_218 (qV (fun s218 w23 => ?_)) (fun _ _ _ h => h.elim)
    refine g_goto hF 259 d_X5_plain_221 (by decide) ?_
    exact g_vret hF rfl d_X5_plain_259 ⟨rfl, rfl, rfl, w23⟩
  have w24 := w21.2 q24_7
  refine (Decidable.em (a1.toInt = 9)).elim (fun q24_8 => ?_) (fun q24_8 => ?_)
  · have w25 := w24.1 q24_8
    refine g_tableIn (off := 200) hF 224 d_X5_plain_24 q24_8 (by decide) (by decide) (by decide +kernel) (by decide) ?_
    refine g_aload_n hF d_X5_plain_224 rfl 2 rfl ?_
    refine g_get (v := .ref (r 63)) hF 5 obC_12 (by decide) m_677 rfl d_X5_plain_225 ?_
    refine g_aload_n hF d_X5_plain_228 rfl 2 rfl ?_
    refine g_get (v := .int (σ 12 10)) hF 10 obC_12 (by decide) m_682 rfl d_X5_plain_229 ?_
    refine g_iload_n hF d_X5_plain_232 rfl 1 rfl ?_
    refine g_iadd hF d_X5_plain_233 ?_
    refine g_aload_n hF d_X5_plain_234 rfl 2 rfl ?_
    refine g_callV (As := []) (rest := [.int ((σ 12 10) + (atv 262208 (σ 24) (a2 + (1 : Int32)))), .ref (r 63)]) hF (fun l D cy => kt_X5_peeked a r w25 l D cy) (Nat.le_of_ble_eq_true rfl) mV_X5_peeked m_1744 (recv_ob obC_12) rfl rfl (Nat.le_of_ble_eq_true rfl) d_X5_plain_235 (qIr (fun v235 w26 => ?_)) (fun _ _ _ h => h.elim)
    refine g_callSN (As := [.ref (r 63), .int ((σ 12 10) + (atv 262208 (σ 24) (a2 + (1 : Int32)))), .int v235]) (rest := []) hF (c_setv a r σ arC_63 (by decide) ((σ 12 10) + (atv 262208 (σ 24) (a2 + (1 : Int32)))) v235) (Nat.le_of_ble_eq_true rfl) mS_X12_set nm_1661 rfl rfl (Nat.le_of_ble_eq_true rfl) d_X5_plain_238 (kU ?_)
    refine g_goto hF 259 d_X5_plain_241 (by decide) ?_
    exact g_vret hF rfl d_X5_plain_259 ⟨rfl, rfl, rfl, w26⟩
  have w27 := w24.2 q24_8
  refine g_tableOut hF 244 d_X5_plain_24 rfl (tbo_1_9 q24_0 q24_1 q24_2 q24_3 q24_4 q24_5 q24_6 q24_7 q24_8) (by decide) ?_
  refine g_aload_n hF d_X5_plain_244 rfl 2 rfl ?_
  refine g_aload_n hF d_X5_plain_245 rfl 2 rfl ?_
  refine g_get (v := .ref (r 63)) hF 5 obC_12 (by decide) m_677 rfl d_X5_plain_246 ?_
  refine g_aload_n hF d_X5_plain_249 rfl 2 rfl ?_
  refine g_get (v := .int (σ 12 10)) hF 10 obC_12 (by decide) m_682 rfl d_X5_plain_250 ?_
  refine g_iload_n hF d_X5_plain_253 rfl 1 rfl ?_
  refine g_iadd hF d_X5_plain_254 ?_
  refine g_iload_n hF d_X5_plain_255 rfl 4 rfl ?_
  refine g_callV (As := [.ref (r 63), .int ((σ 12 10) + (atv 262208 (σ 24) (a2 + (1 : Int32)))), .int a2]) (rest := []) hF (fun l D cy => kt_X5_stepped_r63 a r w27 l D cy) (Nat.le_of_ble_eq_true rfl) mV_X5_stepped m_1736 (recv_ob obC_12) rfl rfl (Nat.le_of_ble_eq_true rfl) d_X5_plain_256 (qV (fun s256 w28 => ?_)) (fun _ _ _ h => h.elim)
  exact g_vret hF rfl d_X5_plain_259 ⟨rfl, rfl, rfl, w28⟩
set_option maxHeartbeats 4000000 in
set_option maxRecDepth 100000 in
theorem kt_X5_inFrame (a : Nat → Nat) (r : Nat → Nat) {a1 : Int32} {a2 : Int32} {σ : St} {Q : St → Prop} (w : wk_X5_inFrame a1 a2 σ Q) (l : Launch) (D : va_G) (cy : Nat → ClassId) : Ct l D cy SC r (EC a gC) y_X5_inFrame (Cond.code y_X5_inFrame b_X5_inFrame 6 none) 3 [.ref (r 12), .int a1, .int a2] σ Z0 [] (QV Q) QT0 := by
  unfold wk_X5_inFrame at w
  refine Ct_of (EC_ok a gC) (by decide) (Nat.le_of_ble_eq_true rfl) (by decide) (fun X hnn hF => ?_)
  show G SC r X σ Z0 [] [(0, .ref (r 12)), (1, .int a1), (2, .int a2)] [] 0
  refine g_aload_n hF d_X5_inFrame_0 rfl 0 rfl ?_
  refine g_get (v := .int (σ 12 11)) hF 11 obC_12 (by decide) m_683 rfl d_X5_inFrame_1 ?_
  refine g_aload_n hF d_X5_inFrame_4 rfl 0 rfl ?_
  refine g_get (v := .ref (r 24)) hF 3 obC_12 (by decide) m_674 rfl d_X5_inFrame_5 ?_
  refine g_iload_n hF d_X5_inFrame_8 rfl 2 rfl ?_
  refine g_iconst hF (v := 1) d_X5_inFrame_9 (by decide) ?_
  refine g_iadd hF d_X5_inFrame_10 ?_
  refine g_callSN (As := [.ref (r 24), .int (a2 + (1 : Int32))]) (rest := [.int (σ 12 11)]) hF (c_atv a r σ arC_24 (by decide) (a2 + (1 : Int32))) (Nat.le_of_ble_eq_true rfl) mS_X12_at nm_1660 rfl rfl (Nat.le_of_ble_eq_true rfl) d_X5_inFrame_11 (kQ ?_)
  refine g_top (v := (atv 262208 (σ 24) (a2 + (1 : Int32)))) rfl ?_
  refine g_iadd hF d_X5_inFrame_14 ?_
  refine g_istore_n hF [(3, .int ((σ 12 11) + (atv 262208 (σ 24) (a2 + (1 : Int32))))), (0, .ref (r 12)), (1, .int a1), (2, .int a2)] d_X5_inFrame_15 rfl hnn (by decide) rfl ?_
  refine g_aload_n hF d_X5_inFrame_16 rfl 1 rfl ?_
  refine g_get (v := .ref (r 24)) hF 3 obC_12 (by decide) m_674 rfl d_X5_inFrame_17 ?_
  refine g_iload_n hF d_X5_inFrame_20 rfl 3 rfl ?_
  refine g_iconst hF (v := 2) d_X5_inFrame_21 (by decide) ?_
  refine g_iadd hF d_X5_inFrame_22 ?_
  refine g_callSN (As := [.ref (r 24), .int (a2 + (2 : Int32))]) (rest := []) hF (c_atv a r σ arC_24 (by decide) (a2 + (2 : Int32))) (Nat.le_of_ble_eq_true rfl) mS_X12_at nm_1660 rfl rfl (Nat.le_of_ble_eq_true rfl) d_X5_inFrame_23 (kQ ?_)
  refine g_top (v := (atv 262208 (σ 24) (a2 + (2 : Int32)))) rfl ?_
  refine g_istore hF [(4, .int (atv 262208 (σ 24) (a2 + (2 : Int32)))), (3, .int ((σ 12 11) + (atv 262208 (σ 24) (a2 + (1 : Int32))))), (0, .ref (r 12)), (1, .int a1), (2, .int a2)] d_X5_inFrame_26 hnn (by decide) rfl ?_
  refine g_iload_n hF d_X5_inFrame_28 rfl 3 rfl ?_
  refine (Decidable.em (a1.toInt = 11)).elim (fun q29_0 => ?_) (fun q29_0 => ?_)
  · have w1 := w.1 q29_0
    refine g_tableIn (off := 39) hF 68 d_X5_inFrame_29 q29_0 (by decide) (by decide) (by decide +kernel) (by decide) ?_
    refine g_aload_n hF d_X5_inFrame_68 rfl 2 rfl ?_
    refine g_aload_n hF d_X5_inFrame_69 rfl 2 rfl ?_
    refine g_get (v := .ref (r 62)) hF 4 obC_12 (by decide) m_675 rfl d_X5_inFrame_70 ?_
    refine g_iload_n hF d_X5_inFrame_73 rfl 1 rfl ?_
    refine g_callSN (As := [.ref (r 62), .int ((σ 12 11) + (atv 262208 (σ 24) (a2 + (1 : Int32))))]) (rest := [.ref (r 12)]) hF (c_atv a r σ arC_62 (by decide) ((σ 12 11) + (atv 262208 (σ 24) (a2 + (1 : Int32))))) (Nat.le_of_ble_eq_true rfl) mS_X12_at nm_1660 rfl rfl (Nat.le_of_ble_eq_true rfl) d_X5_inFrame_74 (kQ ?_)
    refine g_top (v := (atv 32768 (σ 62) ((σ 12 11) + (atv 262208 (σ 24) (a2 + (1 : Int32)))))) rfl ?_
    refine g_callV (As := [.int (atv 32768 (σ 62) ((σ 12 11) + (atv 262208 (σ 24) (a2 + (1 : Int32)))))]) (rest := []) hF (fun l D cy => kt_X5_push a r w1 l D cy) (Nat.le_of_ble_eq_true rfl) mV_X5_push m_1686 (recv_ob obC_12) rfl rfl (Nat.le_of_ble_eq_true rfl) d_X5_inFrame_77 (qV (fun s77 w2 => ?_)) (fun _ _ _ h => h.elim)
    refine g_goto hF 196 d_X5_inFrame_80 (by decide) ?_
    exact g_vret hF rfl d_X5_inFrame_196 ⟨rfl, rfl, rfl, w2⟩
  have w3 := w.2 q29_0
  refine (Decidable.em (a1.toInt = 12)).elim (fun q29_1 => ?_) (fun q29_1 => ?_)
  · have w4 := w3.1 q29_1
    refine g_tableIn (off := 54) hF 83 d_X5_inFrame_29 q29_1 (by decide) (by decide) (by decide +kernel) (by decide) ?_
    refine g_aload_n hF d_X5_inFrame_83 rfl 2 rfl ?_
    refine g_get (v := .ref (r 62)) hF 4 obC_12 (by decide) m_675 rfl d_X5_inFrame_84 ?_
    refine g_iload_n hF d_X5_inFrame_87 rfl 1 rfl ?_
    refine g_aload_n hF d_X5_inFrame_88 rfl 2 rfl ?_
    refine g_callV (As := []) (rest := [.int ((σ 12 11) + (atv 262208 (σ 24) (a2 + (1 : Int32)))), .ref (r 62)]) hF (fun l D cy => kt_X5_peeked a r w4 l D cy) (Nat.le_of_ble_eq_true rfl) mV_X5_peeked m_1744 (recv_ob obC_12) rfl rfl (Nat.le_of_ble_eq_true rfl) d_X5_inFrame_89 (qIr (fun v89 w5 => ?_)) (fun _ _ _ h => h.elim)
    refine g_callSN (As := [.ref (r 62), .int ((σ 12 11) + (atv 262208 (σ 24) (a2 + (1 : Int32)))), .int v89]) (rest := []) hF (c_setv a r σ arC_62 (by decide) ((σ 12 11) + (atv 262208 (σ 24) (a2 + (1 : Int32)))) v89) (Nat.le_of_ble_eq_true rfl) mS_X12_set nm_1661 rfl rfl (Nat.le_of_ble_eq_true rfl) d_X5_inFrame_92 (kU ?_)
    refine g_goto hF 196 d_X5_inFrame_95 (by decide) ?_
    exact g_vret hF rfl d_X5_inFrame_196 ⟨rfl, rfl, rfl, w5⟩
  have w6 := w3.2 q29_1
  refine (Decidable.em (a1.toInt = 13)).elim (fun q29_2 => ?_) (fun q29_2 => ?_)
  · have w7 := w6.1 q29_2
    refine g_tableIn (off := 69) hF 98 d_X5_inFrame_29 q29_2 (by decide) (by decide) (by decide +kernel) (by decide) ?_
    refine g_aload_n hF d_X5_inFrame_98 rfl 2 rfl ?_
    refine g_aload_n hF d_X5_inFrame_99 rfl 2 rfl ?_
    refine g_get (v := .ref (r 62)) hF 4 obC_12 (by decide) m_675 rfl d_X5_inFrame_100 ?_
    refine g_iload_n hF d_X5_inFrame_103 rfl 1 rfl ?_
    refine g_iload_n hF d_X5_inFrame_104 rfl 4 rfl ?_
    refine g_callV (As := [.ref (r 62), .int ((σ 12 11) + (atv 262208 (σ 24) (a2 + (1 : Int32)))), .int a2]) (rest := []) hF (fun l D cy => kt_X5_stepped_r62 a r w7 l D cy) (Nat.le_of_ble_eq_true rfl) mV_X5_stepped m_1736 (recv_ob obC_12) rfl rfl (Nat.le_of_ble_eq_true rfl) d_X5_inFrame_105 (qV (fun s105 w8 => ?_)) (fun _ _ _ h => h.elim)
    refine g_goto hF 196 d_X5_inFrame_108 (by decide) ?_
    exact g_vret hF rfl d_X5_inFrame_196 ⟨rfl, rfl, rfl, w8⟩
  have w9 := w6.2 q29_2
  refine (Decidable.em (a1.toInt = 14)).elim (fun q29_3 => ?_) (fun q29_3 => ?_)
  · have w10 := w9.1 q29_3
    refine g_tableIn (off := 82) hF 111 d_X5_inFrame_29 q29_3 (by decide) (by decide) (by decide +kernel) (by decide) ?_
    refine g_aload_n hF d_X5_inFrame_111 rfl 2 rfl ?_
    refine g_iload_n hF d_X5_inFrame_112 rfl 1 rfl ?_
    refine g_callV (As := [.int ((σ 12 11) + (atv 262208 (σ 24) (a2 + (1 : Int32))))]) (rest := []) hF (fun l D cy => kt_X5_push a r w10 l D cy) (Nat.le_of_ble_eq_true rfl) mV_X5_push m_1686 (recv_ob obC_12) rfl rfl (Nat.le_of_ble_eq_true rfl) d_X5_inFrame_113 (qV (fun s113 w11 => ?_)) (fun _ _ _ h => h.elim)
    refine g_goto hF 196 d_X5_inFrame_116 (by decide) ?_
    exact g_vret hF rfl d_X5_inFrame_196 ⟨rfl, rfl, rfl, w11⟩
  have w12 := w9.2 q29_3
  refine (Decidable.em (a1.toInt = 15)).elim (fun q29_4 => ?_) (fun q29_4 => ?_)
  · have w13 := w12.1 q29_4
    refine g_tableIn (off := 90) hF 119 d_X5_inFrame_29 q29_4 (by decide) (by decide) (by decide +kernel) (by decide) ?_
    refine g_iconst hF (v := 0) d_X5_inFrame_119 (by decide) ?_
    refine g_istore hF [(5, .int 0), (4, .int (atv 262208 (σ 24) (a2 + (2 : Int32)))), (3, .int ((σ 12 11) + (atv 262208 (σ 24) (a2 + (1 : Int32))))), (0, .ref (r 12)), (1, .int a1), (2, .int a2)] d_X5_inFrame_120 hnn (by decide) rfl ?_
    obtain ⟨L122, ⟨i122, u122⟩, h122⟩ := w13
    have b122 : ∀ (n122 : Nat) (x5_122 : Int32) (s122 : St), L122 n122 x5_122 s122 → G SC r X s122 Z0 [] [(0, .ref (r 12)), (3, .int ((σ 12 11) + (atv 262208 (σ 24) (a2 + (1 : Int32))))), (4, .int (atv 262208 (σ 24) (a2 + (2 : Int32)))), (5, .int x5_122)] [] 122 := by
      intro n122
      induction n122 using Nat.strongRecOn with
      | _ n122 ih122 =>
        intro x5_122 s122  w122_
        have w122_ := h122 n122 x5_122 s122  w122_
        refine g_iload hF d_X5_inFrame_122 3 rfl ?_
        refine g_iload hF d_X5_inFrame_124 2 rfl ?_
        refine g_icmp_ge hF 154 d_X5_inFrame_126 (by decide) rfl rfl (fun c => ?_) (fun c => ?_)
        · have w14 := w122_.1 c
          refine g_goto hF 196 d_X5_inFrame_154 (by decide) ?_
          exact g_vret hF rfl d_X5_inFrame_196 ⟨rfl, rfl, rfl, w14⟩
        · have w15 := w122_.2 c
          refine g_iload hF d_X5_inFrame_129 3 rfl ?_
          refine g_ldc (v := 32768) hF m_669 d_X5_inFrame_131 ?_
          refine g_icmp_ge (yv := 32768) hF 154 d_X5_inFrame_133 (by decide) rfl (by decide) (fun c => ?_) (fun c => ?_)
          · have w16 := w15.1 c
            refine g_goto hF 196 d_X5_inFrame_154 (by decide) ?_
            exact g_vret hF rfl d_X5_inFrame_196 ⟨rfl, rfl, rfl, w16⟩
          · have w17 := w15.2 c
            refine g_aload_n hF d_X5_inFrame_136 rfl 0 rfl ?_
            refine g_get (v := .ref (r 62)) hF 4 obC_12 (by decide) m_675 rfl d_X5_inFrame_137 ?_
            refine g_iload_n hF d_X5_inFrame_140 rfl 1 rfl ?_
            refine g_iload hF d_X5_inFrame_141 3 rfl ?_
            refine g_iadd hF d_X5_inFrame_143 ?_
            refine g_iconst hF (v := 0) d_X5_inFrame_144 (by decide) ?_
            refine g_callSN (As := [.ref (r 62), .int (((σ 12 11) + (atv 262208 (σ 24) (a2 + (1 : Int32)))) + x5_122), .int 0]) (rest := []) hF (c_setv a r s122 arC_62 (by decide) (((σ 12 11) + (atv 262208 (σ 24) (a2 + (1 : Int32)))) + x5_122) (0 : Int32)) (Nat.le_of_ble_eq_true rfl) mS_X12_set nm_1661 rfl rfl (Nat.le_of_ble_eq_true rfl) d_X5_inFrame_145 (kU ?_)
            refine g_iinc hF (x5_122 + 1) [(5, .int (x5_122 + 1)), (0, .ref (r 12)), (3, .int ((σ 12 11) + (atv 262208 (σ 24) (a2 + (1 : Int32))))), (4, .int (atv 262208 (σ 24) (a2 + (2 : Int32))))] d_X5_inFrame_148 3 rfl rfl hnn (by decide) rfl ?_
            refine g_goto hF 122 d_X5_inFrame_151 (by decide) ?_
            obtain ⟨m122, hm122, w9⟩ := w17
            exact g_sub (L' := [(0, .ref (r 12)), (3, .int ((σ 12 11) + (atv 262208 (σ 24) (a2 + (1 : Int32))))), (4, .int (atv 262208 (σ 24) (a2 + (2 : Int32)))), (5, .int (x5_122 + 1))]) [1, 2, 3, 0] rfl (ih122 m122 hm122 (x5_122 + 1) (upF s122 62 (setv 32768 (s122 62) (((σ 12 11) + (atv 262208 (σ 24) (a2 + (1 : Int32)))) + x5_122) (0 : Int32))) w9)
    exact g_sub (L' := [(0, .ref (r 12)), (3, .int ((σ 12 11) + (atv 262208 (σ 24) (a2 + (1 : Int32))))), (4, .int (atv 262208 (σ 24) (a2 + (2 : Int32)))), (5, .int 0)]) [3, 2, 1, 0] rfl (b122 i122 (0 : Int32) σ u122)
  have w18 := w12.2 q29_4
  refine (Decidable.em (a1.toInt = 16)).elim (fun q29_5 => ?_) (fun q29_5 => ?_)
  · have w19 := w18.1 q29_5
    refine g_tableIn (off := 128) hF 157 d_X5_inFrame_29 q29_5 (by decide) (by decide) (by decide +kernel) (by decide) ?_
    refine g_aload_n hF d_X5_inFrame_157 rfl 2 rfl ?_
    refine g_get (v := .ref (r 62)) hF 4 obC_12 (by decide) m_675 rfl d_X5_inFrame_158 ?_
    refine g_iload_n hF d_X5_inFrame_161 rfl 1 rfl ?_
    refine g_iload hF d_X5_inFrame_162 0 rfl ?_
    refine g_iadd hF d_X5_inFrame_164 ?_
    refine g_aload_n hF d_X5_inFrame_165 rfl 2 rfl ?_
    refine g_callV (As := []) (rest := [.int (((σ 12 11) + (atv 262208 (σ 24) (a2 + (1 : Int32)))) + (atv 262208 (σ 24) (a2 + (2 : Int32)))), .ref (r 62)]) hF (fun l D cy => kt_X5_pop a r w19 l D cy) (Nat.le_of_ble_eq_true rfl) mV_X5_pop m_1681 (recv_ob obC_12) rfl rfl (Nat.le_of_ble_eq_true rfl) d_X5_inFrame_166 (qI (fun v166 s166 w20 => ?_)) (fun _ _ _ h => h.elim)
    refine g_callSN (As := [.ref (r 62), .int (((σ 12 11) + (atv 262208 (σ 24) (a2 + (1 : Int32)))) + (atv 262208 (σ 24) (a2 + (2 : Int32)))), .int v166]) (rest := []) hF (c_setv a r s166 arC_62 (by decide) (((σ 12 11) + (atv 262208 (σ 24) (a2 + (1 : Int32)))) + (atv 262208 (σ 24) (a2 + (2 : Int32)))) v166) (Nat.le_of_ble_eq_true rfl) mS_X12_set nm_1661 rfl rfl (Nat.le_of_ble_eq_true rfl) d_X5_inFrame_169 (kU ?_)
    refine g_goto hF 196 d_X5_inFrame_172 (by decide) ?_
    exact g_vret hF rfl d_X5_inFrame_196 ⟨rfl, rfl, rfl, w20⟩
  have w21 := w18.2 q29_5
  refine g_tableOut hF 175 d_X5_inFrame_29 rfl (tbo_11_16 q29_0 q29_1 q29_2 q29_3 q29_4 q29_5) (by decide) ?_
  refine g_aload_n hF d_X5_inFrame_175 rfl 2 rfl ?_
  refine g_get (v := .ref (r 62)) hF 4 obC_12 (by decide) m_675 rfl d_X5_inFrame_176 ?_
  refine g_iload_n hF d_X5_inFrame_179 rfl 1 rfl ?_
  refine g_iload hF d_X5_inFrame_180 0 rfl ?_
  refine g_iadd hF d_X5_inFrame_182 ?_
  refine g_aload_n hF d_X5_inFrame_183 rfl 2 rfl ?_
  refine g_get (v := .ref (r 24)) hF 3 obC_12 (by decide) m_674 rfl d_X5_inFrame_184 ?_
  refine g_iload_n hF d_X5_inFrame_187 rfl 4 rfl ?_
  refine g_iconst hF (v := 3) d_X5_inFrame_188 (by decide) ?_
  refine g_iadd hF d_X5_inFrame_189 ?_
  refine g_callSN (As := [.ref (r 24), .int (a2 + (3 : Int32))]) (rest := [.int (((σ 12 11) + (atv 262208 (σ 24) (a2 + (1 : Int32)))) + (atv 262208 (σ 24) (a2 + (2 : Int32)))), .ref (r 62)]) hF (c_atv a r σ arC_24 (by decide) (a2 + (3 : Int32))) (Nat.le_of_ble_eq_true rfl) mS_X12_at nm_1660 rfl rfl (Nat.le_of_ble_eq_true rfl) d_X5_inFrame_190 (kQ ?_)
  refine g_top (v := (atv 262208 (σ 24) (a2 + (3 : Int32)))) rfl ?_
  refine g_callSN (As := [.ref (r 62), .int (((σ 12 11) + (atv 262208 (σ 24) (a2 + (1 : Int32)))) + (atv 262208 (σ 24) (a2 + (2 : Int32)))), .int (atv 262208 (σ 24) (a2 + (3 : Int32)))]) (rest := []) hF (c_setv a r σ arC_62 (by decide) (((σ 12 11) + (atv 262208 (σ 24) (a2 + (1 : Int32)))) + (atv 262208 (σ 24) (a2 + (2 : Int32)))) (atv 262208 (σ 24) (a2 + (3 : Int32)))) (Nat.le_of_ble_eq_true rfl) mS_X12_set nm_1661 rfl rfl (Nat.le_of_ble_eq_true rfl) d_X5_inFrame_193 (kU ?_)
  exact g_vret hF rfl d_X5_inFrame_196 ⟨rfl, rfl, rfl, w21⟩
set_option maxHeartbeats 4000000 in
set_option maxRecDepth 100000 in
theorem kt_X5_isCell (a : Nat → Nat) (r : Nat → Nat) {a0 : Int32} {σ : St} {Q : Int32 → Prop} (w : wk_X5_isCell a0 σ Q) (l : Launch) (D : va_G) (cy : Nat → ClassId) : Ct l D cy SC r (EC a gC) y_X5_isCell (Cond.code y_X5_isCell b_X5_isCell 1 (some .boolean)) 0 [.int a0] σ Z0 [] (QI (fun x σ9 => (x = 0 ∨ x = 1) ∧ σ9 = σ ∧ Q x)) QT0 := by
  unfold wk_X5_isCell at w
  refine Ct_of (EC_ok a gC) (by decide) (Nat.le_of_ble_eq_true rfl) (by decide) (fun X hnn hF => ?_)
  show G SC r X σ Z0 [] [(0, .int a0)] [] 0
  refine g_iload_n hF d_X5_isCell_0 rfl 0 rfl ?_
  refine g_bipush hF (v := 16) d_X5_isCell_1 (by decide) ?_
  refine g_icmp_lt (yv := 16) hF 16 d_X5_isCell_3 (by decide) rfl (by decide) (fun c => ?_) (fun c => ?_)
  · have w1 := w.1 c
    refine g_iconst hF (v := 0) d_X5_isCell_16 (by decide) ?_
    exact g_zret hF rfl (k_nz (Or.inl rfl)) d_X5_isCell_17 ⟨rfl, rfl, (0 : Int32), rfl, (Or.inl rfl), ⟨rfl, w1⟩⟩
  · have w2 := w.2 c
    refine g_iload_n hF d_X5_isCell_6 rfl 0 rfl ?_
    refine g_ldc (v := 32768) hF m_669 d_X5_isCell_7 ?_
    refine g_icmp_ge (yv := 32768) hF 16 d_X5_isCell_9 (by decide) rfl (by decide) (fun c => ?_) (fun c => ?_)
    · have w3 := w2.1 c
      refine g_iconst hF (v := 0) d_X5_isCell_16 (by decide) ?_
      exact g_zret hF rfl (k_nz (Or.inl rfl)) d_X5_isCell_17 ⟨rfl, rfl, (0 : Int32), rfl, (Or.inl rfl), ⟨rfl, w3⟩⟩
    · have w4 := w2.2 c
      refine g_iconst hF (v := 1) d_X5_isCell_12 (by decide) ?_
      refine g_goto hF 17 d_X5_isCell_13 (by decide) ?_
      exact g_zret hF rfl (k_nz (Or.inr rfl)) d_X5_isCell_17 ⟨rfl, rfl, (1 : Int32), rfl, (Or.inr rfl), ⟨rfl, w4⟩⟩
set_option maxHeartbeats 4000000 in
set_option maxRecDepth 100000 in
theorem kt_X5_reach (a : Nat → Nat) (r : Nat → Nat) {a1 : Int32} {a2 : Int32} {σ : St} {Q : St → Prop} (w : wk_X5_reach a1 a2 σ Q) (l : Launch) (D : va_G) (cy : Nat → ClassId) : Ct l D cy SC r (EC a gC) y_X5_reach (Cond.code y_X5_reach b_X5_reach 6 none) 3 [.ref (r 12), .int a1, .int a2] σ Z0 [] (QV Q) QT0 := by
  unfold wk_X5_reach at w
  refine Ct_of (EC_ok a gC) (by decide) (Nat.le_of_ble_eq_true rfl) (by decide) (fun X hnn hF => ?_)
  show G SC r X σ Z0 [] [(0, .ref (r 12)), (1, .int a1), (2, .int a2)] [] 0
  refine g_aload_n hF d_X5_reach_0 rfl 0 rfl ?_
  refine g_get (v := .ref (r 24)) hF 3 obC_12 (by decide) m_674 rfl d_X5_reach_1 ?_
  refine g_iload_n hF d_X5_reach_4 rfl 2 rfl ?_
  refine g_iconst hF (v := 1) d_X5_reach_5 (by decide) ?_
  refine g_iadd hF d_X5_reach_6 ?_
  refine g_callSN (As := [.ref (r 24), .int (a2 + (1 : Int32))]) (rest := []) hF (c_atv a r σ arC_24 (by decide) (a2 + (1 : Int32))) (Nat.le_of_ble_eq_true rfl) mS_X12_at nm_1660 rfl rfl (Nat.le_of_ble_eq_true rfl) d_X5_reach_7 (kQ ?_)
  refine g_top (v := (atv 262208 (σ 24) (a2 + (1 : Int32)))) rfl ?_
  refine g_istore_n hF [(3, .int (atv 262208 (σ 24) (a2 + (1 : Int32)))), (0, .ref (r 12)), (1, .int a1), (2, .int a2)] d_X5_reach_10 rfl hnn (by decide) rfl ?_
  refine g_iload_n hF d_X5_reach_11 rfl 2 rfl ?_
  refine g_bipush hF (v := 19) d_X5_reach_12 (by decide) ?_
  obtain ⟨J25, h25, w1⟩ := w
  have b25 : ∀ (y0_25 : Int32) (s25 : St), J25 y0_25 s25 → G SC r X s25 Z0 [] [(0, .ref (r 12)), (1, .int a1), (2, .int a2), (3, .int (atv 262208 (σ 24) (a2 + (1 : Int32))))] [.int y0_25] 25 := by
    intro y0_25 s25  w25_
    have w25_ := h25 y0_25 s25  w25_
    refine g_istore hF [(4, .int y0_25), (0, .ref (r 12)), (1, .int a1), (2, .int a2), (3, .int (atv 262208 (σ 24) (a2 + (1 : Int32))))] d_X5_reach_25 hnn (by decide) rfl ?_
    refine g_aload_n hF d_X5_reach_27 rfl 1 rfl ?_
    refine g_callV (As := []) (rest := []) hF (fun l D cy => kt_X5_pop a r w25_ l D cy) (Nat.le_of_ble_eq_true rfl) mV_X5_pop m_1681 (recv_ob obC_12) rfl rfl (Nat.le_of_ble_eq_true rfl) d_X5_reach_28 (qI (fun v28 s28 w2 => ?_)) (fun _ _ _ h => h.elim)
    refine g_istore hF [(5, .int v28), (4, .int y0_25), (0, .ref (r 12)), (1, .int a1), (2, .int a2), (3, .int (atv 262208 (σ 24) (a2 + (1 : Int32))))] d_X5_reach_31 hnn (by decide) rfl ?_
    refine g_iload hF d_X5_reach_33 0 rfl ?_
    refine g_callS (As := [.int v28]) (rest := []) hF (fun l D cy => kt_X5_isCell a r w2 l D cy) (Nat.le_of_ble_eq_true rfl) mS_X5_isCell m_1733 rfl rfl (Nat.le_of_ble_eq_true rfl) d_X5_reach_35 (qZr (fun v35 hz35 w3 => ?_)) (fun _ _ _ h => h.elim)
    refine g_if_ne hF 50 d_X5_reach_38 (by decide) rfl (fun c => ?_) (fun c => ?_)
    · have w4 := w3.1 c
      refine g_iload_n hF d_X5_reach_50 rfl 3 rfl ?_
      refine g_bipush hF (v := 18) d_X5_reach_51 (by decide) ?_
      refine g_icmp_ne (yv := 18) hF 72 d_X5_reach_53 (by decide) rfl (by decide) (fun c => ?_) (fun c => ?_)
      · have w5 := w4.1 c
        refine g_iload_n hF d_X5_reach_72 rfl 3 rfl ?_
        refine g_bipush hF (v := 19) d_X5_reach_73 (by decide) ?_
        refine g_icmp_ne (yv := 19) hF 98 d_X5_reach_75 (by decide) rfl (by decide) (fun c => ?_) (fun c => ?_)
        · have w6 := w5.1 c
          refine g_iload_n hF d_X5_reach_98 rfl 3 rfl ?_
          refine g_bipush hF (v := 20) d_X5_reach_99 (by decide) ?_
          refine g_icmp_ne (yv := 20) hF 118 d_X5_reach_101 (by decide) rfl (by decide) (fun c => ?_) (fun c => ?_)
          · have w7 := w6.1 c
            refine g_aload_n hF d_X5_reach_118 rfl 2 rfl ?_
            refine g_iload hF d_X5_reach_119 0 rfl ?_
            refine g_callV (As := [.int v28]) (rest := []) hF (fun l D cy => kt_X5_push a r w7 l D cy) (Nat.le_of_ble_eq_true rfl) mV_X5_push m_1686 (recv_ob obC_12) rfl rfl (Nat.le_of_ble_eq_true rfl) d_X5_reach_121 (qV (fun s121 w8 => ?_)) (fun _ _ _ h => h.elim)
            refine g_aload_n hF d_X5_reach_124 rfl 2 rfl ?_
            refine g_aload_n hF d_X5_reach_125 rfl 2 rfl ?_
            refine g_get (v := .ref (r 62)) hF 4 obC_12 (by decide) m_675 rfl d_X5_reach_126 ?_
            refine g_iload hF d_X5_reach_129 0 rfl ?_
            refine g_callSN (As := [.ref (r 62), .int v28]) (rest := [.ref (r 12)]) hF (c_atv a r s121 arC_62 (by decide) v28) (Nat.le_of_ble_eq_true rfl) mS_X12_at nm_1660 rfl rfl (Nat.le_of_ble_eq_true rfl) d_X5_reach_131 (kQ ?_)
            refine g_top (v := (atv 32768 (s121 62) v28)) rfl ?_
            refine g_callV (As := [.int (atv 32768 (s121 62) v28)]) (rest := []) hF (fun l D cy => kt_X5_push a r w8 l D cy) (Nat.le_of_ble_eq_true rfl) mV_X5_push m_1686 (recv_ob obC_12) rfl rfl (Nat.le_of_ble_eq_true rfl) d_X5_reach_134 (qV (fun s134 w9 => ?_)) (fun _ _ _ h => h.elim)
            exact g_vret hF rfl d_X5_reach_137 ⟨rfl, rfl, rfl, w9⟩
          · have w10 := w6.2 c
            refine g_aload_n hF d_X5_reach_104 rfl 2 rfl ?_
            refine g_aload_n hF d_X5_reach_105 rfl 2 rfl ?_
            refine g_get (v := .ref (r 62)) hF 4 obC_12 (by decide) m_675 rfl d_X5_reach_106 ?_
            refine g_iload hF d_X5_reach_109 0 rfl ?_
            refine g_iload_n hF d_X5_reach_111 rfl 4 rfl ?_
            refine g_callV (As := [.ref (r 62), .int v28, .int a2]) (rest := []) hF (fun l D cy => kt_X5_stepped_r62 a r w10 l D cy) (Nat.le_of_ble_eq_true rfl) mV_X5_stepped m_1736 (recv_ob obC_12) rfl rfl (Nat.le_of_ble_eq_true rfl) d_X5_reach_112 (qV (fun s112 w11 => ?_)) (fun _ _ _ h => h.elim)
            refine g_goto hF 137 d_X5_reach_115 (by decide) ?_
            exact g_vret hF rfl d_X5_reach_137 ⟨rfl, rfl, rfl, w11⟩
        · have w12 := w5.2 c
          refine g_aload_n hF d_X5_reach_78 rfl 2 rfl ?_
          refine g_get (v := .ref (r 62)) hF 4 obC_12 (by decide) m_675 rfl d_X5_reach_79 ?_
          refine g_iload hF d_X5_reach_82 0 rfl ?_
          refine g_iload hF d_X5_reach_84 1 rfl ?_
          refine g_callSN (As := [.ref (r 62), .int v28, .int y0_25]) (rest := []) hF (c_setv a r s28 arC_62 (by decide) v28 y0_25) (Nat.le_of_ble_eq_true rfl) mS_X12_set nm_1661 rfl rfl (Nat.le_of_ble_eq_true rfl) d_X5_reach_86 (kU ?_)
          refine g_aload_n hF d_X5_reach_89 rfl 2 rfl ?_
          refine g_iload hF d_X5_reach_90 1 rfl ?_
          refine g_callV (As := [.int y0_25]) (rest := []) hF (fun l D cy => kt_X5_push a r w12 l D cy) (Nat.le_of_ble_eq_true rfl) mV_X5_push m_1686 (recv_ob obC_12) rfl rfl (Nat.le_of_ble_eq_true rfl) d_X5_reach_92 (qV (fun s92 w13 => ?_)) (fun _ _ _ h => h.elim)
          refine g_goto hF 137 d_X5_reach_95 (by decide) ?_
          exact g_vret hF rfl d_X5_reach_137 ⟨rfl, rfl, rfl, w13⟩
      · have w14 := w4.2 c
        refine g_aload_n hF d_X5_reach_56 rfl 2 rfl ?_
        refine g_aload_n hF d_X5_reach_57 rfl 2 rfl ?_
        refine g_get (v := .ref (r 62)) hF 4 obC_12 (by decide) m_675 rfl d_X5_reach_58 ?_
        refine g_iload hF d_X5_reach_61 0 rfl ?_
        refine g_callSN (As := [.ref (r 62), .int v28]) (rest := [.ref (r 12)]) hF (c_atv a r s28 arC_62 (by decide) v28) (Nat.le_of_ble_eq_true rfl) mS_X12_at nm_1660 rfl rfl (Nat.le_of_ble_eq_true rfl) d_X5_reach_63 (kQ ?_)
        refine g_top (v := (atv 32768 (s28 62) v28)) rfl ?_
        refine g_callV (As := [.int (atv 32768 (s28 62) v28)]) (rest := []) hF (fun l D cy => kt_X5_push a r w14 l D cy) (Nat.le_of_ble_eq_true rfl) mV_X5_push m_1686 (recv_ob obC_12) rfl rfl (Nat.le_of_ble_eq_true rfl) d_X5_reach_66 (qV (fun s66 w15 => ?_)) (fun _ _ _ h => h.elim)
        refine g_goto hF 137 d_X5_reach_69 (by decide) ?_
        exact g_vret hF rfl d_X5_reach_137 ⟨rfl, rfl, rfl, w15⟩
    · have w16 := w3.2 c
      refine g_aload_n hF d_X5_reach_41 rfl 2 rfl ?_
      refine g_iconst hF (v := 2) d_X5_reach_42 (by decide) ?_
      refine g_iload_n hF d_X5_reach_43 rfl 5 rfl ?_
      refine g_callV (As := [.int 2, .int (atv 262208 (σ 24) (a2 + (1 : Int32)))]) (rest := []) hF (fun l D cy => kt_X5_fail a r w16 l D cy) (Nat.le_of_ble_eq_true rfl) mV_X5_fail m_1656 (recv_ob obC_12) rfl rfl (Nat.le_of_ble_eq_true rfl) d_X5_reach_44 (qV (fun s44 w17 => ?_)) (fun _ _ _ h => h.elim)
      refine g_goto hF 137 d_X5_reach_47 (by decide) ?_
      exact g_vret hF rfl d_X5_reach_137 ⟨rfl, rfl, rfl, w17⟩
  refine g_icmp_ne (yv := 19) hF 24 d_X5_reach_14 (by decide) rfl (by decide) (fun c => ?_) (fun c => ?_)
  · have w18 := w1.1 c
    refine g_iconst hF (v := 0) d_X5_reach_24 (by decide) ?_
    exact g_sub (L' := [(0, .ref (r 12)), (1, .int a1), (2, .int a2), (3, .int (atv 262208 (σ 24) (a2 + (1 : Int32))))]) [1, 2, 3, 0] rfl (b25 (0 : Int32) σ w18)
  · have w19 := w1.2 c
    refine g_aload_n hF d_X5_reach_17 rfl 1 rfl ?_
    refine g_callV (As := []) (rest := []) hF (fun l D cy => kt_X5_pop a r w19 l D cy) (Nat.le_of_ble_eq_true rfl) mV_X5_pop m_1681 (recv_ob obC_12) rfl rfl (Nat.le_of_ble_eq_true rfl) d_X5_reach_18 (qI (fun v18 s18 w20 => ?_)) (fun _ _ _ h => h.elim)
    refine g_goto hF 25 d_X5_reach_21 (by decide) ?_
    exact g_sub (L' := [(0, .ref (r 12)), (1, .int a1), (2, .int a2), (3, .int (atv 262208 (σ 24) (a2 + (1 : Int32))))]) [1, 2, 3, 0] rfl (b25 v18 s18 w20)
set_option maxHeartbeats 4000000 in
set_option maxRecDepth 100000 in
theorem kt_X5_decide (a : Nat → Nat) (r : Nat → Nat) {a1 : Int32} {a2 : Int32} {σ : St} {Q : St → Prop} (ha1 : a1 = 0 ∨ a1 = 1) (w : wk_X5_decide a1 a2 σ Q) (l : Launch) (D : va_G) (cy : Nat → ClassId) : Ct l D cy SC r (EC a gC) y_X5_decide (Cond.code y_X5_decide b_X5_decide 3 none) 2 [.ref (r 12), .int a1, .int a2] σ Z0 [] (QV Q) QT0 := by
  unfold wk_X5_decide at w
  refine Ct_of (EC_ok a gC) (by decide) (Nat.le_of_ble_eq_true rfl) (by decide) (fun X hnn hF => ?_)
  show G SC r X σ Z0 [] [(0, .ref (r 12)), (1, .int a1), (2, .int a2)] [] 0
  refine g_aload_n hF d_X5_decide_0 rfl 0 rfl ?_
  refine g_callV (As := []) (rest := []) hF (fun l D cy => kt_X5_pop a r w l D cy) (Nat.le_of_ble_eq_true rfl) mV_X5_pop m_1681 (recv_ob obC_12) rfl rfl (Nat.le_of_ble_eq_true rfl) d_X5_decide_1 (qI (fun v1 s1 w1 => ?_)) (fun _ _ _ h => h.elim)
  obtain ⟨J12, h12, w2⟩ := w1
  have b12 : ∀ (y0_12 : Int32), y0_12 = 0 ∨ y0_12 = 1 → J12 y0_12 → G SC r X s1 Z0 [] [(0, .ref (r 12)), (1, .int a1), (2, .int a2)] [.int y0_12] 12 := by
    intro y0_12 hy0_12 w12_
    have w12_ := h12 y0_12 hy0_12 w12_
    refine g_iload_n hF d_X5_decide_12 rfl 1 rfl ?_
    refine g_icmp_ne hF 34 d_X5_decide_13 (by decide) rfl rfl (fun c => ?_) (fun c => ?_)
    · have w3 := w12_.1 c
      exact g_vret hF rfl d_X5_decide_34 ⟨rfl, rfl, rfl, w3⟩
    · have w4 := w12_.2 c
      refine g_aload_n hF d_X5_decide_16 rfl 0 rfl ?_
      refine g_iload_n hF d_X5_decide_17 rfl 1 rfl ?_
      obtain ⟨J26, h26, w5⟩ := w4
      have b26 : ∀ (y1_26 : Int32), y1_26 = 0 ∨ y1_26 = 1 → J26 y1_26 → G SC r X s1 Z0 [] [(0, .ref (r 12)), (2, .int a2)] [.int y1_26, .ref (r 12)] 26 := by
        intro y1_26 hy1_26 w26_
        have w26_ := h26 y1_26 hy1_26 w26_
        refine g_callV (As := [.int y1_26]) (rest := []) hF (fun l D cy => kt_X5_push a r w26_ l D cy) (Nat.le_of_ble_eq_true rfl) mV_X5_push m_1686 (recv_ob obC_12) rfl rfl (Nat.le_of_ble_eq_true rfl) d_X5_decide_26 (qV (fun s26 w6 => ?_)) (fun _ _ _ h => h.elim)
        refine g_aload_n hF d_X5_decide_29 rfl 0 rfl ?_
        refine g_iload_n hF d_X5_decide_30 rfl 1 rfl ?_
        refine g_put (v := a2) hF 8 obC_12 (by decide) m_680 rfl rfl rfl d_X5_decide_31 ?_
        exact g_vret hF rfl d_X5_decide_34 ⟨rfl, rfl, rfl, w6⟩
      refine g_if_eq hF 25 d_X5_decide_18 (by decide) rfl (fun c => ?_) (fun c => ?_)
      · have w7 := w5.1 c
        refine g_iconst hF (v := 0) d_X5_decide_25 (by decide) ?_
        exact g_sub (L' := [(0, .ref (r 12)), (2, .int a2)]) [0, 2] rfl (b26 (0 : Int32) (Or.inl rfl) w7)
      · have w8 := w5.2 c
        refine g_iconst hF (v := 1) d_X5_decide_21 (by decide) ?_
        refine g_goto hF 26 d_X5_decide_22 (by decide) ?_
        exact g_sub (L' := [(0, .ref (r 12)), (2, .int a2)]) [0, 2] rfl (b26 (1 : Int32) (Or.inr rfl) w8)
  refine g_if_eq hF 11 d_X5_decide_4 (by decide) rfl (fun c => ?_) (fun c => ?_)
  · have w9 := w2.1 c
    refine g_iconst hF (v := 0) d_X5_decide_11 (by decide) ?_
    exact b12 (0 : Int32) (Or.inl rfl) w9
  · have w10 := w2.2 c
    refine g_iconst hF (v := 1) d_X5_decide_7 (by decide) ?_
    refine g_goto hF 12 d_X5_decide_8 (by decide) ?_
    exact b12 (1 : Int32) (Or.inr rfl) w10
set_option maxHeartbeats 4000000 in
set_option maxRecDepth 100000 in
theorem kt_X9_put (a : Nat → Nat) (r : Nat → Nat) {a1 : Int32} {σ : St} {Q : Int32 → St → Prop} (w : wk_X9_put a1 σ Q) (l : Launch) (D : va_G) (cy : Nat → ClassId) : Ct l D cy SC r (EC a gC) y_X9_put (Cond.code y_X9_put b_X9_put 2 (some .boolean)) 0 [.ref (r 11), .int a1] σ Z0 [] (QI (fun x σ9 => (x = 0 ∨ x = 1) ∧ Q x σ9)) QT0 := by
  unfold wk_X9_put at w
  refine Ct_of (EC_ok a gC) (by decide) (Nat.le_of_ble_eq_true rfl) (by decide) (fun X hnn hF => ?_)
  show G SC r X σ Z0 [] [(0, .ref (r 11)), (1, .int a1)] [] 0
  refine g_aload_n hF d_X9_put_0 rfl 0 rfl ?_
  refine g_get (v := .int (σ 11 2)) hF 2 obC_11 (by decide) m_648 rfl d_X9_put_1 ?_
  refine g_if_lt hF 19 d_X9_put_4 (by decide) rfl (fun c => ?_) (fun c => ?_)
  · have w1 := w.1 c
    refine g_iconst hF (v := 0) d_X9_put_19 (by decide) ?_
    exact g_zret hF rfl (k_nz (Or.inl rfl)) d_X9_put_20 ⟨rfl, rfl, (0 : Int32), rfl, (Or.inl rfl), w1⟩
  · have w2 := w.2 c
    refine g_aload_n hF d_X9_put_7 rfl 0 rfl ?_
    refine g_get (v := .int (σ 11 2)) hF 2 obC_11 (by decide) m_648 rfl d_X9_put_8 ?_
    refine g_aload_n hF d_X9_put_11 rfl 0 rfl ?_
    refine g_get (v := .ref (r 61)) hF 4 obC_11 (by decide) m_651 rfl d_X9_put_12 ?_
    refine g_alen hF arC_61 (fun _ => ⟨0, _, rfl⟩) (v := 4096) (by decide) d_X9_put_15 ?_
    refine g_icmp_lt (yv := 4096) hF 21 d_X9_put_16 (by decide) rfl (by decide) (fun c => ?_) (fun c => ?_)
    · have w3 := w2.1 c
      refine g_aload_n hF d_X9_put_21 rfl 0 rfl ?_
      refine g_get (v := .ref (r 61)) hF 4 obC_11 (by decide) m_651 rfl d_X9_put_22 ?_
      refine g_aload_n hF d_X9_put_25 rfl 0 rfl ?_
      refine g_get (v := .int (σ 11 2)) hF 2 obC_11 (by decide) m_648 rfl d_X9_put_26 ?_
      refine g_iload_n hF d_X9_put_29 rfl 1 rfl ?_
      refine g_i2b hF d_X9_put_30 ?_
      have w4 := w3.2
      refine g_bast hF arC_61 (s_in (Nat.le_of_ble_eq_true rfl) w3.1.1 w3.1.2) d_X9_put_31 ?_
      refine g_aload_n hF d_X9_put_32 rfl 0 rfl ?_
      refine g_dup hF d_X9_put_33 rfl ?_
      refine g_get (v := .int (σ 11 2)) hF 2 obC_11 (by decide) m_648 rfl d_X9_put_34 ?_
      refine g_iconst hF (v := 1) d_X9_put_37 (by decide) ?_
      refine g_iadd hF d_X9_put_38 ?_
      refine g_put (v := ((σ 11 2) + (1 : Int32))) hF 2 obC_11 (by decide) m_648 rfl rfl rfl d_X9_put_39 ?_
      refine g_iconst hF (v := 1) d_X9_put_42 (by decide) ?_
      exact g_zret hF rfl (k_nz (Or.inr rfl)) d_X9_put_43 ⟨rfl, rfl, (1 : Int32), rfl, (Or.inr rfl), w4⟩
    · have w5 := w2.2 c
      refine g_iconst hF (v := 0) d_X9_put_19 (by decide) ?_
      exact g_zret hF rfl (k_nz (Or.inl rfl)) d_X9_put_20 ⟨rfl, rfl, (0 : Int32), rfl, (Or.inl rfl), w5⟩
