/-! contracts of the formulas -/
theorem tbo_1_9 {x : Int} (h1 : ¬ x = 1) (h2 : ¬ x = 2) (h3 : ¬ x = 3) (h4 : ¬ x = 4) (h5 : ¬ x = 5) (h6 : ¬ x = 6) (h7 : ¬ x = 7) (h8 : ¬ x = 8) (h9 : ¬ x = 9) : x < 1 ∨ 9 < x := by omega
theorem tbo_1_15 {x : Int} (h1 : ¬ x = 1) (h2 : ¬ x = 2) (h3 : ¬ x = 3) (h4 : ¬ x = 4) (h5 : ¬ x = 5) (h6 : ¬ x = 6) (h7 : ¬ x = 7) (h8 : ¬ x = 8) (h9 : ¬ x = 9) (h10 : ¬ x = 10) (h11 : ¬ x = 11) (h12 : ¬ x = 12) (h13 : ¬ x = 13) (h14 : ¬ x = 14) (h15 : ¬ x = 15) : x < 1 ∨ 15 < x := by omega
theorem tbo_5_27 {x : Int} (h5 : ¬ x = 5) (h6 : ¬ x = 6) (h7 : ¬ x = 7) (h8 : ¬ x = 8) (h9 : ¬ x = 9) (h10 : ¬ x = 10) (h11 : ¬ x = 11) (h12 : ¬ x = 12) (h13 : ¬ x = 13) (h14 : ¬ x = 14) (h15 : ¬ x = 15) (h16 : ¬ x = 16) (h17 : ¬ x = 17) (h18 : ¬ x = 18) (h19 : ¬ x = 19) (h20 : ¬ x = 20) (h21 : ¬ x = 21) (h22 : ¬ x = 22) (h23 : ¬ x = 23) (h24 : ¬ x = 24) (h25 : ¬ x = 25) (h26 : ¬ x = 26) (h27 : ¬ x = 27) : x < 5 ∨ 27 < x := by omega
theorem tbo_11_16 {x : Int} (h11 : ¬ x = 11) (h12 : ¬ x = 12) (h13 : ¬ x = 13) (h14 : ¬ x = 14) (h15 : ¬ x = 15) (h16 : ¬ x = 16) : x < 11 ∨ 16 < x := by omega
theorem tbo_20_38 {x : Int} (h20 : ¬ x = 20) (h21 : ¬ x = 21) (h22 : ¬ x = 22) (h23 : ¬ x = 23) (h24 : ¬ x = 24) (h25 : ¬ x = 25) (h26 : ¬ x = 26) (h27 : ¬ x = 27) (h28 : ¬ x = 28) (h29 : ¬ x = 29) (h30 : ¬ x = 30) (h31 : ¬ x = 31) (h32 : ¬ x = 32) (h33 : ¬ x = 33) (h34 : ¬ x = 34) (h35 : ¬ x = 35) (h36 : ¬ x = 36) (h37 : ¬ x = 37) (h38 : ¬ x = 38) : x < 20 ∨ 38 < x := by omega
theorem tbo_22_24 {x : Int} (h22 : ¬ x = 22) (h23 : ¬ x = 23) (h24 : ¬ x = 24) : x < 22 ∨ 24 < x := by omega
theorem tbo_26_32 {x : Int} (h26 : ¬ x = 26) (h27 : ¬ x = 27) (h28 : ¬ x = 28) (h29 : ¬ x = 29) (h30 : ¬ x = 30) (h31 : ¬ x = 31) (h32 : ¬ x = 32) : x < 26 ∨ 32 < x := by omega
theorem tbo_41_50 {x : Int} (h41 : ¬ x = 41) (h42 : ¬ x = 42) (h43 : ¬ x = 43) (h44 : ¬ x = 44) (h45 : ¬ x = 45) (h46 : ¬ x = 46) (h47 : ¬ x = 47) (h48 : ¬ x = 48) (h49 : ¬ x = 49) (h50 : ¬ x = 50) : x < 41 ∨ 50 < x := by omega
theorem tbo_42_48 {x : Int} (h42 : ¬ x = 42) (h43 : ¬ x = 43) (h44 : ¬ x = 44) (h45 : ¬ x = 45) (h46 : ¬ x = 46) (h47 : ¬ x = 47) (h48 : ¬ x = 48) : x < 42 ∨ 48 < x := by omega
theorem tbo_43_58 {x : Int} (h43 : ¬ x = 43) (h44 : ¬ x = 44) (h45 : ¬ x = 45) (h46 : ¬ x = 46) (h47 : ¬ x = 47) (h48 : ¬ x = 48) (h49 : ¬ x = 49) (h50 : ¬ x = 50) (h51 : ¬ x = 51) (h52 : ¬ x = 52) (h53 : ¬ x = 53) (h54 : ¬ x = 54) (h55 : ¬ x = 55) (h56 : ¬ x = 56) (h57 : ¬ x = 57) (h58 : ¬ x = 58) : x < 43 ∨ 58 < x := by omega
theorem tbo_44_62 {x : Int} (h44 : ¬ x = 44) (h45 : ¬ x = 45) (h46 : ¬ x = 46) (h47 : ¬ x = 47) (h48 : ¬ x = 48) (h49 : ¬ x = 49) (h50 : ¬ x = 50) (h51 : ¬ x = 51) (h52 : ¬ x = 52) (h53 : ¬ x = 53) (h54 : ¬ x = 54) (h55 : ¬ x = 55) (h56 : ¬ x = 56) (h57 : ¬ x = 57) (h58 : ¬ x = 58) (h59 : ¬ x = 59) (h60 : ¬ x = 60) (h61 : ¬ x = 61) (h62 : ¬ x = 62) : x < 44 ∨ 62 < x := by omega
theorem tbo_51_60 {x : Int} (h51 : ¬ x = 51) (h52 : ¬ x = 52) (h53 : ¬ x = 53) (h54 : ¬ x = 54) (h55 : ¬ x = 55) (h56 : ¬ x = 56) (h57 : ¬ x = 57) (h58 : ¬ x = 58) (h59 : ¬ x = 59) (h60 : ¬ x = 60) : x < 51 ∨ 60 < x := by omega
set_option maxHeartbeats 4000000 in
set_option maxRecDepth 100000 in
theorem kt_X12_takeBytes (a : Nat → Nat) (r : Nat → Nat) {a1 : Int32} {σ : St} {Q : St → Prop} (w : wk_X12_takeBytes a1 σ Q) (l : Launch) (D : va_G) (cy : Nat → ClassId) : Ct l D cy SC r (EC a gC) y_X12_takeBytes (Cond.code y_X12_takeBytes b_X12_takeBytes 3 none) 0 [.ref (r 0), .int a1] σ Z0 [] (QV Q) QT0 := by
  unfold wk_X12_takeBytes at w
  refine Ct_of (EC_ok a gC) (by decide) (Nat.le_of_ble_eq_true rfl) (by decide) (fun X hnn hF => ?_)
  show G SC r X σ Z0 [] [(0, .ref (r 0)), (1, .int a1)] [] 0
  refine g_bipush hF (v := 24) d_X12_takeBytes_0 (by decide) ?_
  refine g_istore_n hF [(2, .int 24), (0, .ref (r 0)), (1, .int a1)] d_X12_takeBytes_2 rfl hnn (by decide) rfl ?_
  obtain ⟨L3, ⟨i3, u3⟩, h3⟩ := w
  have b3 : ∀ (n3 : Nat) (x2_3 : Int32) (s3 : St), L3 n3 x2_3 s3 → G SC r X s3 Z0 [] [(0, .ref (r 0)), (1, .int a1), (2, .int x2_3)] [] 3 := by
    intro n3
    induction n3 using Nat.strongRecOn with
    | _ n3 ih3 =>
      intro x2_3 s3  w3_
      have w3_ := h3 n3 x2_3 s3  w3_
      refine g_iload_n hF d_X12_takeBytes_3 rfl 2 rfl ?_
      refine g_if_lt hF 48 d_X12_takeBytes_4 (by decide) rfl (fun c => ?_) (fun c => ?_)
      · have w1 := w3_.1 c
        exact g_vret hF rfl d_X12_takeBytes_48 ⟨rfl, rfl, rfl, w1⟩
      · have w2 := w3_.2 c
        refine g_aload_n hF d_X12_takeBytes_7 rfl 0 rfl ?_
        refine g_get (v := .int (s3 0 1)) hF 1 obC_0 (by decide) m_736 rfl d_X12_takeBytes_8 ?_
        refine g_aload_n hF d_X12_takeBytes_11 rfl 0 rfl ?_
        refine g_get (v := .ref (r 1)) hF 0 obC_0 (by decide) m_735 rfl d_X12_takeBytes_12 ?_
        refine g_alen hF arC_1 (fun _ => ⟨0, _, rfl⟩) (v := 16000) (by decide) d_X12_takeBytes_15 ?_
        refine g_icmp_ge (yv := 16000) hF 48 d_X12_takeBytes_16 (by decide) rfl (by decide) (fun c => ?_) (fun c => ?_)
        · have w3 := w2.1 c
          exact g_vret hF rfl d_X12_takeBytes_48 ⟨rfl, rfl, rfl, w3⟩
        · have w4 := w2.2 c
          refine g_aload_n hF d_X12_takeBytes_19 rfl 0 rfl ?_
          refine g_get (v := .ref (r 1)) hF 0 obC_0 (by decide) m_735 rfl d_X12_takeBytes_20 ?_
          refine g_aload_n hF d_X12_takeBytes_23 rfl 0 rfl ?_
          refine g_get (v := .int (s3 0 1)) hF 1 obC_0 (by decide) m_736 rfl d_X12_takeBytes_24 ?_
          refine g_iload_n hF d_X12_takeBytes_27 rfl 1 rfl ?_
          refine g_iload_n hF d_X12_takeBytes_28 rfl 2 rfl ?_
          refine g_ishr hF d_X12_takeBytes_29 ?_
          refine g_i2b hF d_X12_takeBytes_30 ?_
          have w5 := w4.2
          refine g_bast hF arC_1 (s_in (Nat.le_of_ble_eq_true rfl) w4.1.1 w4.1.2) d_X12_takeBytes_31 ?_
          refine g_aload_n hF d_X12_takeBytes_32 rfl 0 rfl ?_
          refine g_dup hF d_X12_takeBytes_33 rfl ?_
          refine g_get (v := .int (s3 0 1)) hF 1 obC_0 (by decide) m_736 rfl d_X12_takeBytes_34 ?_
          refine g_iconst hF (v := 1) d_X12_takeBytes_37 (by decide) ?_
          refine g_iadd hF d_X12_takeBytes_38 ?_
          refine g_put (v := ((s3 0 1) + (1 : Int32))) hF 1 obC_0 (by decide) m_736 rfl rfl rfl d_X12_takeBytes_39 ?_
          refine g_iinc hF (x2_3 + (-8)) [(2, .int (x2_3 + (-8))), (0, .ref (r 0)), (1, .int a1)] d_X12_takeBytes_42 2 rfl rfl hnn (by decide) rfl ?_
          refine g_goto hF 3 d_X12_takeBytes_45 (by decide) ?_
          obtain ⟨m3, hm3, w9⟩ := w5
          exact g_sub (L' := [(0, .ref (r 0)), (1, .int a1), (2, .int (x2_3 + (-8)))]) [1, 2, 0] rfl (ih3 m3 hm3 (x2_3 + (-8)) (upC (upC s3 1 (s3 0 1).toNatClampNeg (vp_nar .byte (a1 >>> (x2_3 &&& 31)).toInt8.toInt32)) 0 1 ((s3 0 1) + (1 : Int32))) w9)
  exact g_sub (L' := [(0, .ref (r 0)), (1, .int a1), (2, .int 24)]) [1, 2, 0] rfl (b3 i3 (24 : Int32) σ u3)
set_option maxHeartbeats 4000000 in
set_option maxRecDepth 100000 in
theorem kt_X12_feed (a : Nat → Nat) (r : Nat → Nat) {a1 : Int32} {a2 : Int32} {a3 : Int32} {a4 : Int32} {a5 : Int32} {σ : St} {Q : Int32 → St → Prop} (w : wk_X12_feed a1 a2 a3 a4 a5 σ Q) (l : Launch) (D : va_G) (cy : Nat → ClassId) : Ct l D cy SC r (EC a gC) y_X12_feed (Cond.code y_X12_feed b_X12_feed 6 (some .int)) 1 [.ref (r 0), .int a1, .int a2, .int a3, .int a4, .int a5] σ Z0 [] (QI Q) QT0 := by
  unfold wk_X12_feed at w
  refine Ct_of (EC_ok a gC) (by decide) (Nat.le_of_ble_eq_true rfl) (by decide) (fun X hnn hF => ?_)
  show G SC r X σ Z0 [] [(0, .ref (r 0)), (1, .int a1), (2, .int a2), (3, .int a3), (4, .int a4), (5, .int a5)] [] 0
  refine g_aload_n hF d_X12_feed_0 rfl 0 rfl ?_
  refine g_get (v := .int (σ 0 1)) hF 1 obC_0 (by decide) m_736 rfl d_X12_feed_1 ?_
  refine g_bipush hF (v := 20) d_X12_feed_4 (by decide) ?_
  refine g_iadd hF d_X12_feed_6 ?_
  refine g_sipush hF (v := 16000) d_X12_feed_7 (by decide) ?_
  refine g_icmp_gt (yv := 16000) hF 25 d_X12_feed_10 (by decide) rfl (by decide) (fun c => ?_) (fun c => ?_)
  · have w1 := w.1 c
    refine g_iconst hF (v := (-1)) d_X12_feed_25 (by decide) ?_
    exact g_iret hF rfl d_X12_feed_26 ⟨rfl, rfl, ((-1) : Int32), rfl, w1⟩
  · have w2 := w.2 c
    refine g_aload_n hF d_X12_feed_13 rfl 0 rfl ?_
    refine g_get (v := .int (σ 0 2)) hF 2 obC_0 (by decide) m_737 rfl d_X12_feed_14 ?_
    refine g_bipush hF (v := 20) d_X12_feed_17 (by decide) ?_
    refine g_iadd hF d_X12_feed_19 ?_
    refine g_ldc (v := 65536) hF m_785 d_X12_feed_20 ?_
    refine g_icmp_le (yv := 65536) hF 27 d_X12_feed_22 (by decide) rfl (by decide) (fun c => ?_) (fun c => ?_)
    · have w3 := w2.1 c
      refine g_aload_n hF d_X12_feed_27 rfl 0 rfl ?_
      refine g_iload_n hF d_X12_feed_28 rfl 1 rfl ?_
      refine g_callV (As := [.int a1]) (rest := []) hF (fun l D cy => kt_X12_takeBytes a r w3 l D cy) (Nat.le_of_ble_eq_true rfl) mV_X12_takeBytes m_786 (recv_ob obC_0) rfl rfl (Nat.le_of_ble_eq_true rfl) d_X12_feed_29 (qV (fun s29 w4 => ?_)) (fun _ _ _ h => h.elim)
      refine g_aload_n hF d_X12_feed_32 rfl 0 rfl ?_
      refine g_iload_n hF d_X12_feed_33 rfl 2 rfl ?_
      refine g_callV (As := [.int a2]) (rest := []) hF (fun l D cy => kt_X12_takeBytes a r w4 l D cy) (Nat.le_of_ble_eq_true rfl) mV_X12_takeBytes m_786 (recv_ob obC_0) rfl rfl (Nat.le_of_ble_eq_true rfl) d_X12_feed_34 (qV (fun s34 w5 => ?_)) (fun _ _ _ h => h.elim)
      refine g_aload_n hF d_X12_feed_37 rfl 0 rfl ?_
      refine g_iload_n hF d_X12_feed_38 rfl 3 rfl ?_
      refine g_callV (As := [.int a3]) (rest := []) hF (fun l D cy => kt_X12_takeBytes a r w5 l D cy) (Nat.le_of_ble_eq_true rfl) mV_X12_takeBytes m_786 (recv_ob obC_0) rfl rfl (Nat.le_of_ble_eq_true rfl) d_X12_feed_39 (qV (fun s39 w6 => ?_)) (fun _ _ _ h => h.elim)
      refine g_aload_n hF d_X12_feed_42 rfl 0 rfl ?_
      refine g_iload hF d_X12_feed_43 4 rfl ?_
      refine g_callV (As := [.int a4]) (rest := []) hF (fun l D cy => kt_X12_takeBytes a r w6 l D cy) (Nat.le_of_ble_eq_true rfl) mV_X12_takeBytes m_786 (recv_ob obC_0) rfl rfl (Nat.le_of_ble_eq_true rfl) d_X12_feed_45 (qV (fun s45 w7 => ?_)) (fun _ _ _ h => h.elim)
      refine g_aload_n hF d_X12_feed_48 rfl 0 rfl ?_
      refine g_iload hF d_X12_feed_49 5 rfl ?_
      refine g_callV (As := [.int a5]) (rest := []) hF (fun l D cy => kt_X12_takeBytes a r w7 l D cy) (Nat.le_of_ble_eq_true rfl) mV_X12_takeBytes m_786 (recv_ob obC_0) rfl rfl (Nat.le_of_ble_eq_true rfl) d_X12_feed_51 (qV (fun s51 w8 => ?_)) (fun _ _ _ h => h.elim)
      refine g_aload_n hF d_X12_feed_54 rfl 0 rfl ?_
      refine g_dup hF d_X12_feed_55 rfl ?_
      refine g_get (v := .int (s51 0 2)) hF 2 obC_0 (by decide) m_737 rfl d_X12_feed_56 ?_
      refine g_bipush hF (v := 20) d_X12_feed_59 (by decide) ?_
      refine g_iadd hF d_X12_feed_61 ?_
      refine g_put (v := ((s51 0 2) + (20 : Int32))) hF 2 obC_0 (by decide) m_737 rfl rfl rfl d_X12_feed_62 ?_
      refine g_aload_n hF d_X12_feed_65 rfl 0 rfl ?_
      refine g_get (v := .int (s51 0 1)) hF 1 obC_0 (by decide) m_736 rfl d_X12_feed_66 ?_
      exact g_iret hF rfl d_X12_feed_69 ⟨rfl, rfl, (s51 0 1), rfl, w8⟩
    · have w9 := w2.2 c
      refine g_iconst hF (v := (-1)) d_X12_feed_25 (by decide) ?_
      exact g_iret hF rfl d_X12_feed_26 ⟨rfl, rfl, ((-1) : Int32), rfl, w9⟩
set_option maxHeartbeats 4000000 in
set_option maxRecDepth 100000 in
theorem kt_X12_end (a : Nat → Nat) (r : Nat → Nat) {a1 : Int32} {σ : St} {Q : Int32 → St → Prop} (w : wk_X12_end a1 σ Q) (l : Launch) (D : va_G) (cy : Nat → ClassId) : Ct l D cy SC r (EC a gC) y_X12_end (Cond.code y_X12_end b_X12_end 2 (some .int)) 0 [.ref (r 0), .int a1] σ Z0 [] (QI Q) QT0 := by
  unfold wk_X12_end at w
  refine Ct_of (EC_ok a gC) (by decide) (Nat.le_of_ble_eq_true rfl) (by decide) (fun X hnn hF => ?_)
  show G SC r X σ Z0 [] [(0, .ref (r 0)), (1, .int a1)] [] 0
  refine g_iload_n hF d_X12_end_0 rfl 1 rfl ?_
  refine g_if_lt hF 12 d_X12_end_1 (by decide) rfl (fun c => ?_) (fun c => ?_)
  · have w1 := w.1 c
    refine g_iconst hF (v := (-1)) d_X12_end_12 (by decide) ?_
    exact g_iret hF rfl d_X12_end_13 ⟨rfl, rfl, ((-1) : Int32), rfl, w1⟩
  · have w2 := w.2 c
    refine g_iload_n hF d_X12_end_4 rfl 1 rfl ?_
    refine g_aload_n hF d_X12_end_5 rfl 0 rfl ?_
    refine g_get (v := .int (σ 0 1)) hF 1 obC_0 (by decide) m_736 rfl d_X12_end_6 ?_
    refine g_icmp_le hF 14 d_X12_end_9 (by decide) rfl rfl (fun c => ?_) (fun c => ?_)
    · have w3 := w2.1 c
      refine g_aload_n hF d_X12_end_14 rfl 0 rfl ?_
      refine g_iload_n hF d_X12_end_15 rfl 1 rfl ?_
      refine g_put (v := a1) hF 1 obC_0 (by decide) m_736 rfl rfl rfl d_X12_end_16 ?_
      refine g_iload_n hF d_X12_end_19 rfl 1 rfl ?_
      exact g_iret hF rfl d_X12_end_20 ⟨rfl, rfl, a1, rfl, w3⟩
    · have w4 := w2.2 c
      refine g_iconst hF (v := (-1)) d_X12_end_12 (by decide) ?_
      exact g_iret hF rfl d_X12_end_13 ⟨rfl, rfl, ((-1) : Int32), rfl, w4⟩
set_option maxHeartbeats 4000000 in
set_option maxRecDepth 100000 in
theorem kt_X10_byteAt (a : Nat → Nat) (r : Nat → Nat) {a1 : Int32} {σ : St} {Q : Int32 → Prop} (w : wk_X10_byteAt a1 σ Q) (l : Launch) (D : va_G) (cy : Nat → ClassId) : Ct l D cy SC r (EC a gC) y_X10_byteAt (Cond.code y_X10_byteAt b_X10_byteAt 2 (some .int)) 0 [.ref (r 2), .int a1] σ Z0 [] (QI (fun x σ9 => σ9 = σ ∧ Q x)) QT0 := by
  unfold wk_X10_byteAt at w
  refine Ct_of (EC_ok a gC) (by decide) (Nat.le_of_ble_eq_true rfl) (by decide) (fun X hnn hF => ?_)
  show G SC r X σ Z0 [] [(0, .ref (r 2)), (1, .int a1)] [] 0
  refine g_iload_n hF d_X10_byteAt_0 rfl 1 rfl ?_
  refine g_if_lt hF 34 d_X10_byteAt_1 (by decide) rfl (fun c => ?_) (fun c => ?_)
  · have w1 := w.1 c
    refine g_iconst hF (v := (-1)) d_X10_byteAt_34 (by decide) ?_
    exact g_iret hF rfl d_X10_byteAt_35 ⟨rfl, rfl, ((-1) : Int32), rfl, ⟨rfl, w1⟩⟩
  · have w2 := w.2 c
    refine g_iload_n hF d_X10_byteAt_4 rfl 1 rfl ?_
    refine g_aload_n hF d_X10_byteAt_5 rfl 0 rfl ?_
    refine g_get (v := .int (σ 2 1)) hF 1 obC_2 (by decide) m_43 rfl d_X10_byteAt_6 ?_
    refine g_icmp_ge hF 34 d_X10_byteAt_9 (by decide) rfl rfl (fun c => ?_) (fun c => ?_)
    · have w3 := w2.1 c
      refine g_iconst hF (v := (-1)) d_X10_byteAt_34 (by decide) ?_
      exact g_iret hF rfl d_X10_byteAt_35 ⟨rfl, rfl, ((-1) : Int32), rfl, ⟨rfl, w3⟩⟩
    · have w4 := w2.2 c
      refine g_iload_n hF d_X10_byteAt_12 rfl 1 rfl ?_
      refine g_aload_n hF d_X10_byteAt_13 rfl 0 rfl ?_
      refine g_get (v := .ref (r 1)) hF 0 obC_2 (by decide) m_41 rfl d_X10_byteAt_14 ?_
      refine g_alen hF arC_1 (fun _ => ⟨0, _, rfl⟩) (v := 16000) (by decide) d_X10_byteAt_17 ?_
      refine g_icmp_ge (yv := 16000) hF 34 d_X10_byteAt_18 (by decide) rfl (by decide) (fun c => ?_) (fun c => ?_)
      · have w5 := w4.1 c
        refine g_iconst hF (v := (-1)) d_X10_byteAt_34 (by decide) ?_
        exact g_iret hF rfl d_X10_byteAt_35 ⟨rfl, rfl, ((-1) : Int32), rfl, ⟨rfl, w5⟩⟩
      · have w6 := w4.2 c
        refine g_aload_n hF d_X10_byteAt_21 rfl 0 rfl ?_
        refine g_get (v := .ref (r 1)) hF 0 obC_2 (by decide) m_41 rfl d_X10_byteAt_22 ?_
        refine g_iload_n hF d_X10_byteAt_25 rfl 1 rfl ?_
        have w7 := w6.2
        refine g_bald hF arC_1 (s_in (Nat.le_of_ble_eq_true rfl) w6.1.1 w6.1.2) d_X10_byteAt_26 ?_
        refine g_top (v := (σ 1 a1.toNatClampNeg)) rfl ?_
        refine g_sipush hF (v := 255) d_X10_byteAt_27 (by decide) ?_
        refine g_iand hF d_X10_byteAt_30 ?_
        refine g_goto hF 35 d_X10_byteAt_31 (by decide) ?_
        exact g_iret hF rfl d_X10_byteAt_35 ⟨rfl, rfl, ((σ 1 a1.toNatClampNeg) &&& (255 : Int32)), rfl, ⟨rfl, w7⟩⟩
set_option maxHeartbeats 4000000 in
set_option maxRecDepth 100000 in
theorem kt_X10_add (a : Nat → Nat) (r : Nat → Nat) {a1 : Int32} {a2 : Int32} {a3 : Int32} {σ : St} {Q : Int32 → St → Prop} (w : wk_X10_add a1 a2 a3 σ Q) (l : Launch) (D : va_G) (cy : Nat → ClassId) : Ct l D cy SC r (EC a gC) y_X10_add (Cond.code y_X10_add b_X10_add 4 (some .boolean)) 0 [.ref (r 2), .int a1, .int a2, .int a3] σ Z0 [] (QI (fun x σ9 => (x = 0 ∨ x = 1) ∧ Q x σ9)) QT0 := by
  unfold wk_X10_add at w
  refine Ct_of (EC_ok a gC) (by decide) (Nat.le_of_ble_eq_true rfl) (by decide) (fun X hnn hF => ?_)
  show G SC r X σ Z0 [] [(0, .ref (r 2)), (1, .int a1), (2, .int a2), (3, .int a3)] [] 0
  refine g_aload_n hF d_X10_add_0 rfl 0 rfl ?_
  refine g_get (v := .int (σ 2 4)) hF 4 obC_2 (by decide) m_46 rfl d_X10_add_1 ?_
  obtain ⟨J111, h111, w1⟩ := w
  have b111 : ∀ (s111 : St), J111 s111 → G SC r X s111 Z0 [] [(0, .ref (r 2)), (3, .int a3)] [] 111 := by
    intro s111  w111_
    have w111_ := h111 s111  w111_
    refine g_aload_n hF d_X10_add_111 rfl 0 rfl ?_
    refine g_dup hF d_X10_add_112 rfl ?_
    refine g_get (v := .int (s111 2 2)) hF 2 obC_2 (by decide) m_44 rfl d_X10_add_113 ?_
    refine g_iload_n hF d_X10_add_116 rfl 1 rfl ?_
    refine g_iadd hF d_X10_add_117 ?_
    refine g_put (v := ((s111 2 2) + a3)) hF 2 obC_2 (by decide) m_44 rfl rfl rfl d_X10_add_118 ?_
    refine g_iconst hF (v := 1) d_X10_add_121 (by decide) ?_
    exact g_zret hF rfl (k_nz (Or.inr rfl)) d_X10_add_122 ⟨rfl, rfl, (1 : Int32), rfl, (Or.inr rfl), w111_⟩
  refine g_if_lt hF 111 d_X10_add_4 (by decide) rfl (fun c => ?_) (fun c => ?_)
  · have w2 := w1.1 c
    exact g_sub (L' := [(0, .ref (r 2)), (3, .int a3)]) [0, 3] rfl (b111 σ w2)
  · have w3 := w1.2 c
    refine g_aload_n hF d_X10_add_7 rfl 0 rfl ?_
    refine g_get (v := .int (σ 2 4)) hF 4 obC_2 (by decide) m_46 rfl d_X10_add_8 ?_
    refine g_aload_n hF d_X10_add_11 rfl 0 rfl ?_
    refine g_get (v := .ref (r 13)) hF 5 obC_2 (by decide) m_48 rfl d_X10_add_12 ?_
    refine g_alen hF arC_13 (fun _ => ⟨1, _, rfl⟩) (v := 16002) (by decide) d_X10_add_15 ?_
    refine g_icmp_ge (yv := 16002) hF 111 d_X10_add_16 (by decide) rfl (by decide) (fun c => ?_) (fun c => ?_)
    · have w4 := w3.1 c
      exact g_sub (L' := [(0, .ref (r 2)), (3, .int a3)]) [0, 3] rfl (b111 σ w4)
    · have w5 := w3.2 c
      refine g_aload_n hF d_X10_add_19 rfl 0 rfl ?_
      refine g_get (v := .int (σ 2 4)) hF 4 obC_2 (by decide) m_46 rfl d_X10_add_20 ?_
      refine g_aload_n hF d_X10_add_23 rfl 0 rfl ?_
      refine g_get (v := .ref (r 14)) hF 6 obC_2 (by decide) m_52 rfl d_X10_add_24 ?_
      refine g_alen hF arC_14 (fun _ => ⟨1, _, rfl⟩) (v := 16002) (by decide) d_X10_add_27 ?_
      refine g_icmp_ge (yv := 16002) hF 111 d_X10_add_28 (by decide) rfl (by decide) (fun c => ?_) (fun c => ?_)
      · have w6 := w5.1 c
        exact g_sub (L' := [(0, .ref (r 2)), (3, .int a3)]) [0, 3] rfl (b111 σ w6)
      · have w7 := w5.2 c
        refine g_aload_n hF d_X10_add_31 rfl 0 rfl ?_
        refine g_get (v := .int (σ 2 4)) hF 4 obC_2 (by decide) m_46 rfl d_X10_add_32 ?_
        refine g_aload_n hF d_X10_add_35 rfl 0 rfl ?_
        refine g_get (v := .ref (r 15)) hF 7 obC_2 (by decide) m_56 rfl d_X10_add_36 ?_
        refine g_alen hF arC_15 (fun _ => ⟨1, _, rfl⟩) (v := 16002) (by decide) d_X10_add_39 ?_
        refine g_icmp_ge (yv := 16002) hF 111 d_X10_add_40 (by decide) rfl (by decide) (fun c => ?_) (fun c => ?_)
        · have w8 := w7.1 c
          exact g_sub (L' := [(0, .ref (r 2)), (3, .int a3)]) [0, 3] rfl (b111 σ w8)
        · have w9 := w7.2 c
          refine g_aload_n hF d_X10_add_43 rfl 0 rfl ?_
          refine g_get (v := .int (σ 2 4)) hF 4 obC_2 (by decide) m_46 rfl d_X10_add_44 ?_
          refine g_aload_n hF d_X10_add_47 rfl 0 rfl ?_
          refine g_get (v := .ref (r 16)) hF 8 obC_2 (by decide) m_59 rfl d_X10_add_48 ?_
          refine g_alen hF arC_16 (fun _ => ⟨1, _, rfl⟩) (v := 16002) (by decide) d_X10_add_51 ?_
          refine g_icmp_ge (yv := 16002) hF 111 d_X10_add_52 (by decide) rfl (by decide) (fun c => ?_) (fun c => ?_)
          · have w10 := w9.1 c
            exact g_sub (L' := [(0, .ref (r 2)), (3, .int a3)]) [0, 3] rfl (b111 σ w10)
          · have w11 := w9.2 c
            refine g_aload_n hF d_X10_add_55 rfl 0 rfl ?_
            refine g_get (v := .ref (r 13)) hF 5 obC_2 (by decide) m_48 rfl d_X10_add_56 ?_
            refine g_aload_n hF d_X10_add_59 rfl 0 rfl ?_
            refine g_get (v := .int (σ 2 4)) hF 4 obC_2 (by decide) m_46 rfl d_X10_add_60 ?_
            refine g_iload_n hF d_X10_add_63 rfl 1 rfl ?_
            have w12 := w11.2
            refine g_iast hF arC_13 (s_in (Nat.le_of_ble_eq_true rfl) w11.1.1 w11.1.2) d_X10_add_64 ?_
            refine g_aload_n hF d_X10_add_65 rfl 0 rfl ?_
            refine g_get (v := .ref (r 14)) hF 6 obC_2 (by decide) m_52 rfl d_X10_add_66 ?_
            refine g_aload_n hF d_X10_add_69 rfl 0 rfl ?_
            refine g_get (v := .int (σ 2 4)) hF 4 obC_2 (by decide) m_46 rfl d_X10_add_70 ?_
            refine g_iload_n hF d_X10_add_73 rfl 2 rfl ?_
            have w13 := w12.2
            refine g_iast hF arC_14 (s_in (Nat.le_of_ble_eq_true rfl) w12.1.1 w12.1.2) d_X10_add_74 ?_
            refine g_aload_n hF d_X10_add_75 rfl 0 rfl ?_
            refine g_get (v := .ref (r 15)) hF 7 obC_2 (by decide) m_56 rfl d_X10_add_76 ?_
            refine g_aload_n hF d_X10_add_79 rfl 0 rfl ?_
            refine g_get (v := .int (σ 2 4)) hF 4 obC_2 (by decide) m_46 rfl d_X10_add_80 ?_
            refine g_aload_n hF d_X10_add_83 rfl 0 rfl ?_
            refine g_get (v := .int (σ 2 2)) hF 2 obC_2 (by decide) m_44 rfl d_X10_add_84 ?_
            have w14 := w13.2
            refine g_iast hF arC_15 (s_in (Nat.le_of_ble_eq_true rfl) w13.1.1 w13.1.2) d_X10_add_87 ?_
            refine g_aload_n hF d_X10_add_88 rfl 0 rfl ?_
            refine g_get (v := .ref (r 16)) hF 8 obC_2 (by decide) m_59 rfl d_X10_add_89 ?_
            refine g_aload_n hF d_X10_add_92 rfl 0 rfl ?_
            refine g_get (v := .int (σ 2 4)) hF 4 obC_2 (by decide) m_46 rfl d_X10_add_93 ?_
            refine g_aload_n hF d_X10_add_96 rfl 0 rfl ?_
            refine g_get (v := .int (σ 2 3)) hF 3 obC_2 (by decide) m_45 rfl d_X10_add_97 ?_
            have w15 := w14.2
            refine g_iast hF arC_16 (s_in (Nat.le_of_ble_eq_true rfl) w14.1.1 w14.1.2) d_X10_add_100 ?_
            refine g_aload_n hF d_X10_add_101 rfl 0 rfl ?_
            refine g_dup hF d_X10_add_102 rfl ?_
            refine g_get (v := .int (σ 2 4)) hF 4 obC_2 (by decide) m_46 rfl d_X10_add_103 ?_
            refine g_iconst hF (v := 1) d_X10_add_106 (by decide) ?_
            refine g_iadd hF d_X10_add_107 ?_
            refine g_put (v := ((σ 2 4) + (1 : Int32))) hF 4 obC_2 (by decide) m_46 rfl rfl rfl d_X10_add_108 ?_
            exact g_sub (L' := [(0, .ref (r 2)), (3, .int a3)]) [0, 3] rfl (b111 (upC (upC (upC (upC (upC σ 13 (σ 2 4).toNatClampNeg a1) 14 (σ 2 4).toNatClampNeg a2) 15 (σ 2 4).toNatClampNeg (σ 2 2)) 16 (σ 2 4).toNatClampNeg (σ 2 3)) 2 4 ((σ 2 4) + (1 : Int32))) w15)
set_option maxHeartbeats 4000000 in
set_option maxRecDepth 100000 in
theorem kt_X10_bad (a : Nat → Nat) (r : Nat → Nat) {a1 : Int32} {σ : St} {Q : Int32 → St → Prop} (w : wk_X10_bad a1 σ Q) (l : Launch) (D : va_G) (cy : Nat → ClassId) : Ct l D cy SC r (EC a gC) y_X10_bad (Cond.code y_X10_bad b_X10_bad 2 (some .boolean)) 1 [.ref (r 2), .int a1] σ Z0 [] (QI (fun x σ9 => (x = 0 ∨ x = 1) ∧ Q x σ9)) QT0 := by
  unfold wk_X10_bad at w
  refine Ct_of (EC_ok a gC) (by decide) (Nat.le_of_ble_eq_true rfl) (by decide) (fun X hnn hF => ?_)
  show G SC r X σ Z0 [] [(0, .ref (r 2)), (1, .int a1)] [] 0
  refine g_aload_n hF d_X10_bad_0 rfl 0 rfl ?_
  refine g_iload_n hF d_X10_bad_1 rfl 1 rfl ?_
  refine g_put (v := a1) hF 2 obC_2 (by decide) m_44 rfl rfl rfl d_X10_bad_2 ?_
  refine g_aload_n hF d_X10_bad_5 rfl 0 rfl ?_
  refine g_iconst hF (v := 1) d_X10_bad_6 (by decide) ?_
  refine g_iconst hF (v := 0) d_X10_bad_7 (by decide) ?_
  refine g_iconst hF (v := 0) d_X10_bad_8 (by decide) ?_
  refine g_callV (As := [.int 1, .int 0, .int 0]) (rest := []) hF (fun l D cy => kt_X10_add a r w l D cy) (Nat.le_of_ble_eq_true rfl) mV_X10_add m_821 (recv_ob obC_2) rfl rfl (Nat.le_of_ble_eq_true rfl) d_X10_bad_9 (qZ (fun v9 s9 hz9 w1 => ?_)) (fun _ _ _ h => h.elim)
  refine g_pop hF d_X10_bad_12 rfl ?_
  refine g_iconst hF (v := 0) d_X10_bad_13 (by decide) ?_
  exact g_zret hF rfl (k_nz (Or.inl rfl)) d_X10_bad_14 ⟨rfl, rfl, (0 : Int32), rfl, (Or.inl rfl), w1⟩
set_option maxHeartbeats 4000000 in
set_option maxRecDepth 100000 in
theorem kt_X10_mayOccur (a : Nat → Nat) (r : Nat → Nat) {a0 : Int32} {σ : St} {Q : Int32 → Prop} (w : wk_X10_mayOccur a0 σ Q) (l : Launch) (D : va_G) (cy : Nat → ClassId) : Ct l D cy SC r (EC a gC) y_X10_mayOccur (Cond.code y_X10_mayOccur b_X10_mayOccur 1 (some .boolean)) 0 [.int a0] σ Z0 [] (QI (fun x σ9 => (x = 0 ∨ x = 1) ∧ σ9 = σ ∧ Q x)) QT0 := by
  unfold wk_X10_mayOccur at w
  refine Ct_of (EC_ok a gC) (by decide) (Nat.le_of_ble_eq_true rfl) (by decide) (fun X hnn hF => ?_)
  show G SC r X σ Z0 [] [(0, .int a0)] [] 0
  refine g_iload_n hF d_X10_mayOccur_0 rfl 0 rfl ?_
  refine g_bipush hF (v := 32) d_X10_mayOccur_1 (by decide) ?_
  obtain ⟨J12, h12, w1⟩ := w
  have b12 : J12  → G SC r X σ Z0 [] [(0, .int a0)] [] 12 := by
    intro   w12_
    have w12_ := h12   w12_
    refine g_iload_n hF d_X10_mayOccur_12 rfl 0 rfl ?_
    refine g_bipush hF (v := 9) d_X10_mayOccur_13 (by decide) ?_
    refine g_icmp_eq (yv := 9) hF 30 d_X10_mayOccur_15 (by decide) rfl (by decide) (fun c => ?_) (fun c => ?_)
    · have w2 := w12_.1 c
      refine g_iconst hF (v := 1) d_X10_mayOccur_30 (by decide) ?_
      refine g_goto hF 35 d_X10_mayOccur_31 (by decide) ?_
      exact g_zret hF rfl (k_nz (Or.inr rfl)) d_X10_mayOccur_35 ⟨rfl, rfl, (1 : Int32), rfl, (Or.inr rfl), ⟨rfl, w2⟩⟩
    · have w3 := w12_.2 c
      refine g_iload_n hF d_X10_mayOccur_18 rfl 0 rfl ?_
      refine g_bipush hF (v := 10) d_X10_mayOccur_19 (by decide) ?_
      refine g_icmp_eq (yv := 10) hF 30 d_X10_mayOccur_21 (by decide) rfl (by decide) (fun c => ?_) (fun c => ?_)
      · have w4 := w3.1 c
        refine g_iconst hF (v := 1) d_X10_mayOccur_30 (by decide) ?_
        refine g_goto hF 35 d_X10_mayOccur_31 (by decide) ?_
        exact g_zret hF rfl (k_nz (Or.inr rfl)) d_X10_mayOccur_35 ⟨rfl, rfl, (1 : Int32), rfl, (Or.inr rfl), ⟨rfl, w4⟩⟩
      · have w5 := w3.2 c
        refine g_iload_n hF d_X10_mayOccur_24 rfl 0 rfl ?_
        refine g_bipush hF (v := 13) d_X10_mayOccur_25 (by decide) ?_
        refine g_icmp_ne (yv := 13) hF 34 d_X10_mayOccur_27 (by decide) rfl (by decide) (fun c => ?_) (fun c => ?_)
        · have w6 := w5.1 c
          refine g_iconst hF (v := 0) d_X10_mayOccur_34 (by decide) ?_
          exact g_zret hF rfl (k_nz (Or.inl rfl)) d_X10_mayOccur_35 ⟨rfl, rfl, (0 : Int32), rfl, (Or.inl rfl), ⟨rfl, w6⟩⟩
        · have w7 := w5.2 c
          refine g_iconst hF (v := 1) d_X10_mayOccur_30 (by decide) ?_
          refine g_goto hF 35 d_X10_mayOccur_31 (by decide) ?_
          exact g_zret hF rfl (k_nz (Or.inr rfl)) d_X10_mayOccur_35 ⟨rfl, rfl, (1 : Int32), rfl, (Or.inr rfl), ⟨rfl, w7⟩⟩
  refine g_icmp_lt (yv := 32) hF 12 d_X10_mayOccur_3 (by decide) rfl (by decide) (fun c => ?_) (fun c => ?_)
  · have w8 := w1.1 c
    exact b12  w8
  · have w9 := w1.2 c
    refine g_iload_n hF d_X10_mayOccur_6 rfl 0 rfl ?_
    refine g_bipush hF (v := 126) d_X10_mayOccur_7 (by decide) ?_
    refine g_icmp_le (yv := 126) hF 30 d_X10_mayOccur_9 (by decide) rfl (by decide) (fun c => ?_) (fun c => ?_)
    · have w10 := w9.1 c
      refine g_iconst hF (v := 1) d_X10_mayOccur_30 (by decide) ?_
      refine g_goto hF 35 d_X10_mayOccur_31 (by decide) ?_
      exact g_zret hF rfl (k_nz (Or.inr rfl)) d_X10_mayOccur_35 ⟨rfl, rfl, (1 : Int32), rfl, (Or.inr rfl), ⟨rfl, w10⟩⟩
    · have w11 := w9.2 c
      exact b12  w11
set_option maxHeartbeats 4000000 in
set_option maxRecDepth 100000 in
theorem kt_X10_skipComment (a : Nat → Nat) (r : Nat → Nat) {σ : St} {Q : Int32 → St → Prop} (w : wk_X10_skipComment  σ Q) (l : Launch) (D : va_G) (cy : Nat → ClassId) : Ct l D cy SC r (EC a gC) y_X10_skipComment (Cond.code y_X10_skipComment b_X10_skipComment 3 (some .boolean)) 2 [.ref (r 2)] σ Z0 [] (QI (fun x σ9 => (x = 0 ∨ x = 1) ∧ Q x σ9)) QT0 := by
  unfold wk_X10_skipComment at w
  refine Ct_of (EC_ok a gC) (by decide) (Nat.le_of_ble_eq_true rfl) (by decide) (fun X hnn hF => ?_)
  show G SC r X σ Z0 [] [(0, .ref (r 2))] [] 0
  refine g_aload_n hF d_X10_skipComment_0 rfl 0 rfl ?_
  refine g_get (v := .int (σ 2 2)) hF 2 obC_2 (by decide) m_44 rfl d_X10_skipComment_1 ?_
  refine g_iconst hF (v := 2) d_X10_skipComment_4 (by decide) ?_
  refine g_iadd hF d_X10_skipComment_5 ?_
  refine g_istore_n hF [(1, .int ((σ 2 2) + (2 : Int32))), (0, .ref (r 2))] d_X10_skipComment_6 rfl hnn (by decide) rfl ?_
  obtain ⟨L7, ⟨i7, u7⟩, h7⟩ := w
  have b7 : ∀ (n7 : Nat) (x1_7 : Int32) (s7 : St), L7 n7 x1_7 s7 → G SC r X s7 Z0 [] [(0, .ref (r 2)), (1, .int x1_7)] [] 7 := by
    intro n7
    induction n7 using Nat.strongRecOn with
    | _ n7 ih7 =>
      intro x1_7 s7  w7_
      have w7_ := h7 n7 x1_7 s7  w7_
      refine g_iload_n hF d_X10_skipComment_7 rfl 1 rfl ?_
      refine g_aload_n hF d_X10_skipComment_8 rfl 0 rfl ?_
      refine g_get (v := .int (s7 2 1)) hF 1 obC_2 (by decide) m_43 rfl d_X10_skipComment_9 ?_
      refine g_icmp_ge hF 87 d_X10_skipComment_12 (by decide) rfl rfl (fun c => ?_) (fun c => ?_)
      · have w1 := w7_.1 c
        refine g_aload_n hF d_X10_skipComment_87 rfl 0 rfl ?_
        refine g_aload_n hF d_X10_skipComment_88 rfl 0 rfl ?_
        refine g_get (v := .int (s7 2 2)) hF 2 obC_2 (by decide) m_44 rfl d_X10_skipComment_89 ?_
        refine g_callV (As := [.int (s7 2 2)]) (rest := []) hF (fun l D cy => kt_X10_bad a r w1 l D cy) (Nat.le_of_ble_eq_true rfl) mV_X10_bad m_817 (recv_ob obC_2) rfl rfl (Nat.le_of_ble_eq_true rfl) d_X10_skipComment_92 (qZ (fun v92 s92 hz92 w2 => ?_)) (fun _ _ _ h => h.elim)
        exact g_zret hF rfl (k_nz hz92) d_X10_skipComment_95 ⟨rfl, rfl, v92, rfl, hz92, w2⟩
      · have w3 := w7_.2 c
        refine g_aload_n hF d_X10_skipComment_15 rfl 0 rfl ?_
        refine g_iload_n hF d_X10_skipComment_16 rfl 1 rfl ?_
        refine g_callV (As := [.int x1_7]) (rest := []) hF (fun l D cy => kt_X10_byteAt a r w3 l D cy) (Nat.le_of_ble_eq_true rfl) mV_X10_byteAt m_806 (recv_ob obC_2) rfl rfl (Nat.le_of_ble_eq_true rfl) d_X10_skipComment_17 (qIr (fun v17 w4 => ?_)) (fun _ _ _ h => h.elim)
        refine g_istore_n hF [(2, .int v17), (0, .ref (r 2)), (1, .int x1_7)] d_X10_skipComment_20 rfl hnn (by decide) rfl ?_
        refine g_iload_n hF d_X10_skipComment_21 rfl 0 rfl ?_
        refine g_callS (As := [.int v17]) (rest := []) hF (fun l D cy => kt_X10_mayOccur a r w4 l D cy) (Nat.le_of_ble_eq_true rfl) mS_X10_mayOccur m_814 rfl rfl (Nat.le_of_ble_eq_true rfl) d_X10_skipComment_22 (qZr (fun v22 hz22 w5 => ?_)) (fun _ _ _ h => h.elim)
        refine g_if_ne hF 34 d_X10_skipComment_25 (by decide) rfl (fun c => ?_) (fun c => ?_)
        · have w6 := w5.1 c
          refine g_aload_n hF d_X10_skipComment_34 rfl 1 rfl ?_
          refine g_dup hF d_X10_skipComment_35 rfl ?_
          refine g_get (v := .int (s7 2 3)) hF 3 obC_2 (by decide) m_45 rfl d_X10_skipComment_36 ?_
          refine g_iload_n hF d_X10_skipComment_39 rfl 0 rfl ?_
          refine g_bipush hF (v := 10) d_X10_skipComment_40 (by decide) ?_
          obtain ⟨J50, h50, w7⟩ := w6
          have b50 : ∀ (y2_50 : Int32), y2_50 = 0 ∨ y2_50 = 1 → J50 y2_50 → G SC r X s7 Z0 [] [(0, .ref (r 2)), (1, .int x1_7), (2, .int v17)] [.int y2_50, .int (s7 2 3), .ref (r 2)] 50 := by
            intro y2_50 hy2_50 w50_
            have w50_ := h50 y2_50 hy2_50 w50_
            refine g_iadd hF d_X10_skipComment_50 ?_
            refine g_put (v := ((s7 2 3) + y2_50)) hF 3 obC_2 (by decide) m_45 rfl rfl rfl d_X10_skipComment_51 ?_
            refine g_iload_n hF d_X10_skipComment_54 rfl 2 rfl ?_
            refine g_bipush hF (v := 42) d_X10_skipComment_55 (by decide) ?_
            obtain ⟨J81, h81, w8⟩ := w50_
            have b81 : J81  → G SC r X (upC s7 2 3 ((s7 2 3) + y2_50)) Z0 [] [(0, .ref (r 2)), (1, .int x1_7)] [] 81 := by
              intro   w81_
              have w81_ := h81   w81_
              refine g_iinc hF (x1_7 + 1) [(1, .int (x1_7 + 1)), (0, .ref (r 2))] d_X10_skipComment_81 1 rfl rfl hnn (by decide) rfl ?_
              refine g_goto hF 7 d_X10_skipComment_84 (by decide) ?_
              obtain ⟨m7, hm7, w9⟩ := w81_
              exact g_sub (L' := [(0, .ref (r 2)), (1, .int (x1_7 + 1))]) [1, 0] rfl (ih7 m7 hm7 (x1_7 + 1) (upC s7 2 3 ((s7 2 3) + y2_50)) w9)
            refine g_icmp_ne (yv := 42) hF 81 d_X10_skipComment_57 (by decide) rfl (by decide) (fun c => ?_) (fun c => ?_)
            · have w9 := w8.1 c
              exact g_sub (L' := [(0, .ref (r 2)), (1, .int x1_7)]) [0, 1] rfl (b81  w9)
            · have w10 := w8.2 c
              refine g_aload_n hF d_X10_skipComment_60 rfl 0 rfl ?_
              refine g_iload_n hF d_X10_skipComment_61 rfl 1 rfl ?_
              refine g_iconst hF (v := 1) d_X10_skipComment_62 (by decide) ?_
              refine g_iadd hF d_X10_skipComment_63 ?_
              refine g_callV (As := [.int (x1_7 + (1 : Int32))]) (rest := []) hF (fun l D cy => kt_X10_byteAt a r w10 l D cy) (Nat.le_of_ble_eq_true rfl) mV_X10_byteAt m_806 (recv_ob obC_2) rfl rfl (Nat.le_of_ble_eq_true rfl) d_X10_skipComment_64 (qIr (fun v64 w11 => ?_)) (fun _ _ _ h => h.elim)
              refine g_bipush hF (v := 47) d_X10_skipComment_67 (by decide) ?_
              refine g_icmp_ne (yv := 47) hF 81 d_X10_skipComment_69 (by decide) rfl (by decide) (fun c => ?_) (fun c => ?_)
              · have w12 := w11.1 c
                exact g_sub (L' := [(0, .ref (r 2)), (1, .int x1_7)]) [0, 1] rfl (b81  w12)
              · have w13 := w11.2 c
                refine g_aload_n hF d_X10_skipComment_72 rfl 0 rfl ?_
                refine g_iload_n hF d_X10_skipComment_73 rfl 1 rfl ?_
                refine g_iconst hF (v := 2) d_X10_skipComment_74 (by decide) ?_
                refine g_iadd hF d_X10_skipComment_75 ?_
                refine g_put (v := (x1_7 + (2 : Int32))) hF 2 obC_2 (by decide) m_44 rfl rfl rfl d_X10_skipComment_76 ?_
                refine g_iconst hF (v := 1) d_X10_skipComment_79 (by decide) ?_
                exact g_zret hF rfl (k_nz (Or.inr rfl)) d_X10_skipComment_80 ⟨rfl, rfl, (1 : Int32), rfl, (Or.inr rfl), w13⟩
          refine g_icmp_ne (yv := 10) hF 49 d_X10_skipComment_42 (by decide) rfl (by decide) (fun c => ?_) (fun c => ?_)
          · have w14 := w7.1 c
            refine g_iconst hF (v := 0) d_X10_skipComment_49 (by decide) ?_
            exact g_sub (L' := [(0, .ref (r 2)), (1, .int x1_7), (2, .int v17)]) [1, 2, 0] rfl (b50 (0 : Int32) (Or.inl rfl) w14)
          · have w15 := w7.2 c
            refine g_iconst hF (v := 1) d_X10_skipComment_45 (by decide) ?_
            refine g_goto hF 50 d_X10_skipComment_46 (by decide) ?_
            exact g_sub (L' := [(0, .ref (r 2)), (1, .int x1_7), (2, .int v17)]) [1, 2, 0] rfl (b50 (1 : Int32) (Or.inr rfl) w15)
        · have w16 := w5.2 c
          refine g_aload_n hF d_X10_skipComment_28 rfl 1 rfl ?_
          refine g_iload_n hF d_X10_skipComment_29 rfl 2 rfl ?_
          refine g_callV (As := [.int x1_7]) (rest := []) hF (fun l D cy => kt_X10_bad a r w16 l D cy) (Nat.le_of_ble_eq_true rfl) mV_X10_bad m_817 (recv_ob obC_2) rfl rfl (Nat.le_of_ble_eq_true rfl) d_X10_skipComment_30 (qZ (fun v30 s30 hz30 w17 => ?_)) (fun _ _ _ h => h.elim)
          exact g_zret hF rfl (k_nz hz30) d_X10_skipComment_33 ⟨rfl, rfl, v30, rfl, hz30, w17⟩
  exact g_sub (L' := [(0, .ref (r 2)), (1, .int ((σ 2 2) + (2 : Int32)))]) [1, 0] rfl (b7 i7 ((σ 2 2) + (2 : Int32)) σ u7)
set_option maxHeartbeats 4000000 in
set_option maxRecDepth 100000 in
theorem kt_X10_skipLine (a : Nat → Nat) (r : Nat → Nat) {σ : St} {Q : Int32 → St → Prop} (w : wk_X10_skipLine  σ Q) (l : Launch) (D : va_G) (cy : Nat → ClassId) : Ct l D cy SC r (EC a gC) y_X10_skipLine (Cond.code y_X10_skipLine b_X10_skipLine 1 (some .boolean)) 2 [.ref (r 2)] σ Z0 [] (QI (fun x σ9 => (x = 0 ∨ x = 1) ∧ Q x σ9)) QT0 := by
  unfold wk_X10_skipLine at w
  refine Ct_of (EC_ok a gC) (by decide) (Nat.le_of_ble_eq_true rfl) (by decide) (fun X hnn hF => ?_)
  show G SC r X σ Z0 [] [(0, .ref (r 2))] [] 0
  obtain ⟨L0, ⟨i0, u0⟩, h0⟩ := w
  have b0 : ∀ (n0 : Nat) (s0 : St), L0 n0 s0 → G SC r X s0 Z0 [] [(0, .ref (r 2))] [] 0 := by
    intro n0
    induction n0 using Nat.strongRecOn with
    | _ n0 ih0 =>
      intro s0  w0_
      have w0_ := h0 n0 s0  w0_
      refine g_aload_n hF d_X10_skipLine_0 rfl 0 rfl ?_
      refine g_get (v := .int (s0 2 2)) hF 2 obC_2 (by decide) m_44 rfl d_X10_skipLine_1 ?_
      refine g_aload_n hF d_X10_skipLine_4 rfl 0 rfl ?_
      refine g_get (v := .int (s0 2 1)) hF 1 obC_2 (by decide) m_43 rfl d_X10_skipLine_5 ?_
      refine g_icmp_ge hF 60 d_X10_skipLine_8 (by decide) rfl rfl (fun c => ?_) (fun c => ?_)
      · have w1 := w0_.1 c
        refine g_iconst hF (v := 1) d_X10_skipLine_60 (by decide) ?_
        exact g_zret hF rfl (k_nz (Or.inr rfl)) d_X10_skipLine_61 ⟨rfl, rfl, (1 : Int32), rfl, (Or.inr rfl), w1⟩
      · have w2 := w0_.2 c
        refine g_aload_n hF d_X10_skipLine_11 rfl 0 rfl ?_
        refine g_aload_n hF d_X10_skipLine_12 rfl 0 rfl ?_
        refine g_get (v := .int (s0 2 2)) hF 2 obC_2 (by decide) m_44 rfl d_X10_skipLine_13 ?_
        refine g_callV (As := [.int (s0 2 2)]) (rest := []) hF (fun l D cy => kt_X10_byteAt a r w2 l D cy) (Nat.le_of_ble_eq_true rfl) mV_X10_byteAt m_806 (recv_ob obC_2) rfl rfl (Nat.le_of_ble_eq_true rfl) d_X10_skipLine_16 (qIr (fun v16 w3 => ?_)) (fun _ _ _ h => h.elim)
        refine g_bipush hF (v := 10) d_X10_skipLine_19 (by decide) ?_
        refine g_icmp_eq (yv := 10) hF 60 d_X10_skipLine_21 (by decide) rfl (by decide) (fun c => ?_) (fun c => ?_)
        · have w4 := w3.1 c
          refine g_iconst hF (v := 1) d_X10_skipLine_60 (by decide) ?_
          exact g_zret hF rfl (k_nz (Or.inr rfl)) d_X10_skipLine_61 ⟨rfl, rfl, (1 : Int32), rfl, (Or.inr rfl), w4⟩
        · have w5 := w3.2 c
          refine g_aload_n hF d_X10_skipLine_24 rfl 0 rfl ?_
          refine g_aload_n hF d_X10_skipLine_25 rfl 0 rfl ?_
          refine g_get (v := .int (s0 2 2)) hF 2 obC_2 (by decide) m_44 rfl d_X10_skipLine_26 ?_
          refine g_callV (As := [.int (s0 2 2)]) (rest := []) hF (fun l D cy => kt_X10_byteAt a r w5 l D cy) (Nat.le_of_ble_eq_true rfl) mV_X10_byteAt m_806 (recv_ob obC_2) rfl rfl (Nat.le_of_ble_eq_true rfl) d_X10_skipLine_29 (qIr (fun v29 w6 => ?_)) (fun _ _ _ h => h.elim)
          refine g_callS (As := [.int v29]) (rest := []) hF (fun l D cy => kt_X10_mayOccur a r w6 l D cy) (Nat.le_of_ble_eq_true rfl) mS_X10_mayOccur m_814 rfl rfl (Nat.le_of_ble_eq_true rfl) d_X10_skipLine_32 (qZr (fun v32 hz32 w7 => ?_)) (fun _ _ _ h => h.elim)
          refine g_if_ne hF 47 d_X10_skipLine_35 (by decide) rfl (fun c => ?_) (fun c => ?_)
          · have w8 := w7.1 c
            refine g_aload_n hF d_X10_skipLine_47 rfl 0 rfl ?_
            refine g_dup hF d_X10_skipLine_48 rfl ?_
            refine g_get (v := .int (s0 2 2)) hF 2 obC_2 (by decide) m_44 rfl d_X10_skipLine_49 ?_
            refine g_iconst hF (v := 1) d_X10_skipLine_52 (by decide) ?_
            refine g_iadd hF d_X10_skipLine_53 ?_
            refine g_put (v := ((s0 2 2) + (1 : Int32))) hF 2 obC_2 (by decide) m_44 rfl rfl rfl d_X10_skipLine_54 ?_
            refine g_goto hF 0 d_X10_skipLine_57 (by decide) ?_
            obtain ⟨m0, hm0, w9⟩ := w8
            exact ih0 m0 hm0 (upC s0 2 2 ((s0 2 2) + (1 : Int32))) w9
          · have w9 := w7.2 c
            refine g_aload_n hF d_X10_skipLine_38 rfl 0 rfl ?_
            refine g_aload_n hF d_X10_skipLine_39 rfl 0 rfl ?_
            refine g_get (v := .int (s0 2 2)) hF 2 obC_2 (by decide) m_44 rfl d_X10_skipLine_40 ?_
            refine g_callV (As := [.int (s0 2 2)]) (rest := []) hF (fun l D cy => kt_X10_bad a r w9 l D cy) (Nat.le_of_ble_eq_true rfl) mV_X10_bad m_817 (recv_ob obC_2) rfl rfl (Nat.le_of_ble_eq_true rfl) d_X10_skipLine_43 (qZ (fun v43 s43 hz43 w10 => ?_)) (fun _ _ _ h => h.elim)
            exact g_zret hF rfl (k_nz hz43) d_X10_skipLine_46 ⟨rfl, rfl, v43, rfl, hz43, w10⟩
  exact b0 i0 σ u0
set_option maxHeartbeats 4000000 in
set_option maxRecDepth 100000 in
theorem kt_X10_skipBlanks (a : Nat → Nat) (r : Nat → Nat) {σ : St} {Q : Int32 → St → Prop} (w : wk_X10_skipBlanks  σ Q) (l : Launch) (D : va_G) (cy : Nat → ClassId) : Ct l D cy SC r (EC a gC) y_X10_skipBlanks (Cond.code y_X10_skipBlanks b_X10_skipBlanks 4 (some .boolean)) 3 [.ref (r 2)] σ Z0 [] (QI (fun x σ9 => (x = 0 ∨ x = 1) ∧ Q x σ9)) QT0 := by
  unfold wk_X10_skipBlanks at w
  refine Ct_of (EC_ok a gC) (by decide) (Nat.le_of_ble_eq_true rfl) (by decide) (fun X hnn hF => ?_)
  show G SC r X σ Z0 [] [(0, .ref (r 2))] [] 0
  refine g_iconst hF (v := 0) d_X10_skipBlanks_0 (by decide) ?_
  refine g_istore_n hF [(1, .int 0), (0, .ref (r 2))] d_X10_skipBlanks_1 rfl hnn (by decide) rfl ?_
  obtain ⟨L2, ⟨i2, u2⟩, h2⟩ := w
  have b2 : ∀ (n2 : Nat) (x1_2 : Int32) (s2 : St), L2 n2 x1_2 s2 → G SC r X s2 Z0 [] [(0, .ref (r 2)), (1, .int x1_2)] [] 2 := by
    intro n2
    induction n2 using Nat.strongRecOn with
    | _ n2 ih2 =>
      intro x1_2 s2  w2_
      have w2_ := h2 n2 x1_2 s2  w2_
      refine g_iload_n hF d_X10_skipBlanks_2 rfl 1 rfl ?_
      refine g_aload_n hF d_X10_skipBlanks_3 rfl 0 rfl ?_
      refine g_get (v := .int (s2 2 1)) hF 1 obC_2 (by decide) m_43 rfl d_X10_skipBlanks_4 ?_
      refine g_icmp_gt hF 142 d_X10_skipBlanks_7 (by decide) rfl rfl (fun c => ?_) (fun c => ?_)
      · have w1 := w2_.1 c
        refine g_iconst hF (v := 1) d_X10_skipBlanks_142 (by decide) ?_
        exact g_zret hF rfl (k_nz (Or.inr rfl)) d_X10_skipBlanks_143 ⟨rfl, rfl, (1 : Int32), rfl, (Or.inr rfl), w1⟩
      · have w2 := w2_.2 c
        refine g_aload_n hF d_X10_skipBlanks_10 rfl 0 rfl ?_
        refine g_aload_n hF d_X10_skipBlanks_11 rfl 0 rfl ?_
        refine g_get (v := .int (s2 2 2)) hF 2 obC_2 (by decide) m_44 rfl d_X10_skipBlanks_12 ?_
        refine g_callV (As := [.int (s2 2 2)]) (rest := []) hF (fun l D cy => kt_X10_byteAt a r w2 l D cy) (Nat.le_of_ble_eq_true rfl) mV_X10_byteAt m_806 (recv_ob obC_2) rfl rfl (Nat.le_of_ble_eq_true rfl) d_X10_skipBlanks_15 (qIr (fun v15 w3 => ?_)) (fun _ _ _ h => h.elim)
        refine g_istore_n hF [(2, .int v15), (0, .ref (r 2)), (1, .int x1_2)] d_X10_skipBlanks_18 rfl hnn (by decide) rfl ?_
        refine g_iload_n hF d_X10_skipBlanks_19 rfl 0 rfl ?_
        refine g_bipush hF (v := 47) d_X10_skipBlanks_20 (by decide) ?_
        obtain ⟨J39, h39, w4⟩ := w3
        have b39 : ∀ (y0_39 : Int32), J39 y0_39 → G SC r X s2 Z0 [] [(0, .ref (r 2)), (1, .int x1_2), (2, .int v15)] [.int y0_39] 39 := by
          intro y0_39  w39_
          have w39_ := h39 y0_39  w39_
          refine g_istore_n hF [(3, .int y0_39), (0, .ref (r 2)), (1, .int x1_2), (2, .int v15)] d_X10_skipBlanks_39 rfl hnn (by decide) rfl ?_
          refine g_iload_n hF d_X10_skipBlanks_40 rfl 0 rfl ?_
          refine g_bipush hF (v := 47) d_X10_skipBlanks_41 (by decide) ?_
          obtain ⟨J136, h136, w5⟩ := w39_
          have b136 : ∀ (s136 : St), J136 s136 → G SC r X s136 Z0 [] [(0, .ref (r 2)), (1, .int x1_2)] [] 136 := by
            intro s136  w136_
            have w136_ := h136 s136  w136_
            refine g_iinc hF (x1_2 + 1) [(1, .int (x1_2 + 1)), (0, .ref (r 2))] d_X10_skipBlanks_136 1 rfl rfl hnn (by decide) rfl ?_
            refine g_goto hF 2 d_X10_skipBlanks_139 (by decide) ?_
            obtain ⟨m2, hm2, w9⟩ := w136_
            exact g_sub (L' := [(0, .ref (r 2)), (1, .int (x1_2 + 1))]) [1, 0] rfl (ih2 m2 hm2 (x1_2 + 1) s136 w9)
          obtain ⟨J52, h52, w6⟩ := w5
          have b52 : J52  → G SC r X s2 Z0 [] [(0, .ref (r 2)), (1, .int x1_2), (3, .int y0_39)] [] 52 := by
            intro   w52_
            have w52_ := h52   w52_
            refine g_iload_n hF d_X10_skipBlanks_52 rfl 2 rfl ?_
            refine g_bipush hF (v := 47) d_X10_skipBlanks_53 (by decide) ?_
            refine g_icmp_ne (yv := 47) hF 68 d_X10_skipBlanks_55 (by decide) rfl (by decide) (fun c => ?_) (fun c => ?_)
            · have w7 := w52_.1 c
              refine g_aload_n hF d_X10_skipBlanks_68 rfl 0 rfl ?_
              refine g_callV (As := []) (rest := []) hF (fun l D cy => kt_X10_skipComment a r w7 l D cy) (Nat.le_of_ble_eq_true rfl) mV_X10_skipComment m_825 (recv_ob obC_2) rfl rfl (Nat.le_of_ble_eq_true rfl) d_X10_skipBlanks_69 (qZ (fun v69 s69 hz69 w8 => ?_)) (fun _ _ _ h => h.elim)
              refine g_if_ne hF 136 d_X10_skipBlanks_72 (by decide) rfl (fun c => ?_) (fun c => ?_)
              · have w9 := w8.1 c
                exact g_sub (L' := [(0, .ref (r 2)), (1, .int x1_2)]) [0, 1] rfl (b136 s69 w9)
              · have w10 := w8.2 c
                refine g_iconst hF (v := 0) d_X10_skipBlanks_75 (by decide) ?_
                exact g_zret hF rfl (k_nz (Or.inl rfl)) d_X10_skipBlanks_76 ⟨rfl, rfl, (0 : Int32), rfl, (Or.inl rfl), w10⟩
            · have w11 := w52_.2 c
              refine g_aload_n hF d_X10_skipBlanks_58 rfl 0 rfl ?_
              refine g_callV (As := []) (rest := []) hF (fun l D cy => kt_X10_skipLine a r w11 l D cy) (Nat.le_of_ble_eq_true rfl) mV_X10_skipLine m_810 (recv_ob obC_2) rfl rfl (Nat.le_of_ble_eq_true rfl) d_X10_skipBlanks_59 (qZ (fun v59 s59 hz59 w12 => ?_)) (fun _ _ _ h => h.elim)
              refine g_if_eq hF 75 d_X10_skipBlanks_62 (by decide) rfl (fun c => ?_) (fun c => ?_)
              · have w13 := w12.1 c
                refine g_iconst hF (v := 0) d_X10_skipBlanks_75 (by decide) ?_
                exact g_zret hF rfl (k_nz (Or.inl rfl)) d_X10_skipBlanks_76 ⟨rfl, rfl, (0 : Int32), rfl, (Or.inl rfl), w13⟩
              · have w14 := w12.2 c
                refine g_goto hF 136 d_X10_skipBlanks_65 (by decide) ?_
                exact g_sub (L' := [(0, .ref (r 2)), (1, .int x1_2)]) [0, 1] rfl (b136 s59 w14)
          refine g_icmp_eq (yv := 47) hF 52 d_X10_skipBlanks_43 (by decide) rfl (by decide) (fun c => ?_) (fun c => ?_)
          · have w15 := w6.1 c
            exact g_sub (L' := [(0, .ref (r 2)), (1, .int x1_2), (3, .int y0_39)]) [1, 2, 0] rfl (b52  w15)
          · have w16 := w6.2 c
            refine g_iload_n hF d_X10_skipBlanks_46 rfl 0 rfl ?_
            refine g_bipush hF (v := 42) d_X10_skipBlanks_47 (by decide) ?_
            refine g_icmp_ne (yv := 42) hF 77 d_X10_skipBlanks_49 (by decide) rfl (by decide) (fun c => ?_) (fun c => ?_)
            · have w17 := w16.1 c
              refine g_iload_n hF d_X10_skipBlanks_77 rfl 3 rfl ?_
              refine g_bipush hF (v := 9) d_X10_skipBlanks_78 (by decide) ?_
              obtain ⟨J101, h101, w18⟩ := w17
              have b101 : J101  → G SC r X s2 Z0 [] [(0, .ref (r 2)), (1, .int x1_2), (2, .int v15)] [] 101 := by
                intro   w101_
                have w101_ := h101   w101_
                refine g_aload_n hF d_X10_skipBlanks_101 rfl 0 rfl ?_
                refine g_dup hF d_X10_skipBlanks_102 rfl ?_
                refine g_get (v := .int (s2 2 3)) hF 3 obC_2 (by decide) m_45 rfl d_X10_skipBlanks_103 ?_
                refine g_iload_n hF d_X10_skipBlanks_106 rfl 2 rfl ?_
                refine g_bipush hF (v := 10) d_X10_skipBlanks_107 (by decide) ?_
                obtain ⟨J117, h117, w19⟩ := w101_
                have b117 : ∀ (y2_117 : Int32), y2_117 = 0 ∨ y2_117 = 1 → J117 y2_117 → G SC r X s2 Z0 [] [(0, .ref (r 2)), (1, .int x1_2)] [.int y2_117, .int (s2 2 3), .ref (r 2)] 117 := by
                  intro y2_117 hy2_117 w117_
                  have w117_ := h117 y2_117 hy2_117 w117_
                  refine g_iadd hF d_X10_skipBlanks_117 ?_
                  refine g_put (v := ((s2 2 3) + y2_117)) hF 3 obC_2 (by decide) m_45 rfl rfl rfl d_X10_skipBlanks_118 ?_
                  refine g_aload_n hF d_X10_skipBlanks_121 rfl 0 rfl ?_
                  refine g_dup hF d_X10_skipBlanks_122 rfl ?_
                  refine g_get (v := .int (s2 2 2)) hF 2 obC_2 (by decide) m_44 rfl d_X10_skipBlanks_123 ?_
                  refine g_iconst hF (v := 1) d_X10_skipBlanks_126 (by decide) ?_
                  refine g_iadd hF d_X10_skipBlanks_127 ?_
                  refine g_put (v := ((s2 2 2) + (1 : Int32))) hF 2 obC_2 (by decide) m_44 rfl rfl rfl d_X10_skipBlanks_128 ?_
                  refine g_goto hF 136 d_X10_skipBlanks_131 (by decide) ?_
                  exact b136 (upC (upC s2 2 3 ((s2 2 3) + y2_117)) 2 2 ((s2 2 2) + (1 : Int32))) w117_
                refine g_icmp_ne (yv := 10) hF 116 d_X10_skipBlanks_109 (by decide) rfl (by decide) (fun c => ?_) (fun c => ?_)
                · have w20 := w19.1 c
                  refine g_iconst hF (v := 0) d_X10_skipBlanks_116 (by decide) ?_
                  exact g_sub (L' := [(0, .ref (r 2)), (1, .int x1_2)]) [0, 1] rfl (b117 (0 : Int32) (Or.inl rfl) w20)
                · have w21 := w19.2 c
                  refine g_iconst hF (v := 1) d_X10_skipBlanks_112 (by decide) ?_
                  refine g_goto hF 117 d_X10_skipBlanks_113 (by decide) ?_
                  exact g_sub (L' := [(0, .ref (r 2)), (1, .int x1_2)]) [0, 1] rfl (b117 (1 : Int32) (Or.inr rfl) w21)
              refine g_icmp_eq (yv := 9) hF 101 d_X10_skipBlanks_80 (by decide) rfl (by decide) (fun c => ?_) (fun c => ?_)
              · have w22 := w18.1 c
                exact g_sub (L' := [(0, .ref (r 2)), (1, .int x1_2), (2, .int v15)]) [1, 2, 3] rfl (b101  w22)
              · have w23 := w18.2 c
                refine g_iload_n hF d_X10_skipBlanks_83 rfl 3 rfl ?_
                refine g_bipush hF (v := 10) d_X10_skipBlanks_84 (by decide) ?_
                refine g_icmp_eq (yv := 10) hF 101 d_X10_skipBlanks_86 (by decide) rfl (by decide) (fun c => ?_) (fun c => ?_)
                · have w24 := w23.1 c
                  exact g_sub (L' := [(0, .ref (r 2)), (1, .int x1_2), (2, .int v15)]) [1, 2, 3] rfl (b101  w24)
                · have w25 := w23.2 c
                  refine g_iload_n hF d_X10_skipBlanks_89 rfl 3 rfl ?_
                  refine g_bipush hF (v := 13) d_X10_skipBlanks_90 (by decide) ?_
                  refine g_icmp_eq (yv := 13) hF 101 d_X10_skipBlanks_92 (by decide) rfl (by decide) (fun c => ?_) (fun c => ?_)
                  · have w26 := w25.1 c
                    exact g_sub (L' := [(0, .ref (r 2)), (1, .int x1_2), (2, .int v15)]) [1, 2, 3] rfl (b101  w26)
                  · have w27 := w25.2 c
                    refine g_iload_n hF d_X10_skipBlanks_95 rfl 3 rfl ?_
                    refine g_bipush hF (v := 32) d_X10_skipBlanks_96 (by decide) ?_
                    refine g_icmp_ne (yv := 32) hF 134 d_X10_skipBlanks_98 (by decide) rfl (by decide) (fun c => ?_) (fun c => ?_)
                    · have w28 := w27.1 c
                      refine g_iconst hF (v := 1) d_X10_skipBlanks_134 (by decide) ?_
                      exact g_zret hF rfl (k_nz (Or.inr rfl)) d_X10_skipBlanks_135 ⟨rfl, rfl, (1 : Int32), rfl, (Or.inr rfl), w28⟩
                    · have w29 := w27.2 c
                      exact g_sub (L' := [(0, .ref (r 2)), (1, .int x1_2), (2, .int v15)]) [1, 2, 3] rfl (b101  w29)
            · have w30 := w16.2 c
              exact g_sub (L' := [(0, .ref (r 2)), (1, .int x1_2), (3, .int y0_39)]) [1, 2, 0] rfl (b52  w30)
        refine g_icmp_ne (yv := 47) hF 38 d_X10_skipBlanks_22 (by decide) rfl (by decide) (fun c => ?_) (fun c => ?_)
        · have w31 := w4.1 c
          refine g_iconst hF (v := (-1)) d_X10_skipBlanks_38 (by decide) ?_
          exact g_sub (L' := [(0, .ref (r 2)), (1, .int x1_2), (2, .int v15)]) [1, 2, 0] rfl (b39 ((-1) : Int32) w31)
        · have w32 := w4.2 c
          refine g_aload_n hF d_X10_skipBlanks_25 rfl 1 rfl ?_
          refine g_aload_n hF d_X10_skipBlanks_26 rfl 1 rfl ?_
          refine g_get (v := .int (s2 2 2)) hF 2 obC_2 (by decide) m_44 rfl d_X10_skipBlanks_27 ?_
          refine g_iconst hF (v := 1) d_X10_skipBlanks_30 (by decide) ?_
          refine g_iadd hF d_X10_skipBlanks_31 ?_
          refine g_callV (As := [.int ((s2 2 2) + (1 : Int32))]) (rest := []) hF (fun l D cy => kt_X10_byteAt a r w32 l D cy) (Nat.le_of_ble_eq_true rfl) mV_X10_byteAt m_806 (recv_ob obC_2) rfl rfl (Nat.le_of_ble_eq_true rfl) d_X10_skipBlanks_32 (qIr (fun v32 w33 => ?_)) (fun _ _ _ h => h.elim)
          refine g_goto hF 39 d_X10_skipBlanks_35 (by decide) ?_
          exact g_sub (L' := [(0, .ref (r 2)), (1, .int x1_2), (2, .int v15)]) [1, 2, 0] rfl (b39 v32 w33)
  exact g_sub (L' := [(0, .ref (r 2)), (1, .int 0)]) [1, 0] rfl (b2 i2 (0 : Int32) σ u2)
set_option maxHeartbeats 4000000 in
set_option maxRecDepth 100000 in
theorem kt_X10_isLetter (a : Nat → Nat) (r : Nat → Nat) {a0 : Int32} {σ : St} {Q : Int32 → Prop} (w : wk_X10_isLetter a0 σ Q) (l : Launch) (D : va_G) (cy : Nat → ClassId) : Ct l D cy SC r (EC a gC) y_X10_isLetter (Cond.code y_X10_isLetter b_X10_isLetter 1 (some .boolean)) 0 [.int a0] σ Z0 [] (QI (fun x σ9 => (x = 0 ∨ x = 1) ∧ σ9 = σ ∧ Q x)) QT0 := by
  unfold wk_X10_isLetter at w
  refine Ct_of (EC_ok a gC) (by decide) (Nat.le_of_ble_eq_true rfl) (by decide) (fun X hnn hF => ?_)
  show G SC r X σ Z0 [] [(0, .int a0)] [] 0
  refine g_iload_n hF d_X10_isLetter_0 rfl 0 rfl ?_
  refine g_bipush hF (v := 97) d_X10_isLetter_1 (by decide) ?_
  obtain ⟨J12, h12, w1⟩ := w
  have b12 : J12  → G SC r X σ Z0 [] [(0, .int a0)] [] 12 := by
    intro   w12_
    have w12_ := h12   w12_
    refine g_iload_n hF d_X10_isLetter_12 rfl 0 rfl ?_
    refine g_bipush hF (v := 65) d_X10_isLetter_13 (by decide) ?_
    obtain ⟨J24, h24, w2⟩ := w12_
    have b24 : J24  → G SC r X σ Z0 [] [(0, .int a0)] [] 24 := by
      intro   w24_
      have w24_ := h24   w24_
      refine g_iload_n hF d_X10_isLetter_24 rfl 0 rfl ?_
      refine g_bipush hF (v := 95) d_X10_isLetter_25 (by decide) ?_
      refine g_icmp_ne (yv := 95) hF 34 d_X10_isLetter_27 (by decide) rfl (by decide) (fun c => ?_) (fun c => ?_)
      · have w3 := w24_.1 c
        refine g_iconst hF (v := 0) d_X10_isLetter_34 (by decide) ?_
        exact g_zret hF rfl (k_nz (Or.inl rfl)) d_X10_isLetter_35 ⟨rfl, rfl, (0 : Int32), rfl, (Or.inl rfl), ⟨rfl, w3⟩⟩
      · have w4 := w24_.2 c
        refine g_iconst hF (v := 1) d_X10_isLetter_30 (by decide) ?_
        refine g_goto hF 35 d_X10_isLetter_31 (by decide) ?_
        exact g_zret hF rfl (k_nz (Or.inr rfl)) d_X10_isLetter_35 ⟨rfl, rfl, (1 : Int32), rfl, (Or.inr rfl), ⟨rfl, w4⟩⟩
    refine g_icmp_lt (yv := 65) hF 24 d_X10_isLetter_15 (by decide) rfl (by decide) (fun c => ?_) (fun c => ?_)
    · have w5 := w2.1 c
      exact b24  w5
    · have w6 := w2.2 c
      refine g_iload_n hF d_X10_isLetter_18 rfl 0 rfl ?_
      refine g_bipush hF (v := 90) d_X10_isLetter_19 (by decide) ?_
      refine g_icmp_le (yv := 90) hF 30 d_X10_isLetter_21 (by decide) rfl (by decide) (fun c => ?_) (fun c => ?_)
      · have w7 := w6.1 c
        refine g_iconst hF (v := 1) d_X10_isLetter_30 (by decide) ?_
        refine g_goto hF 35 d_X10_isLetter_31 (by decide) ?_
        exact g_zret hF rfl (k_nz (Or.inr rfl)) d_X10_isLetter_35 ⟨rfl, rfl, (1 : Int32), rfl, (Or.inr rfl), ⟨rfl, w7⟩⟩
      · have w8 := w6.2 c
        exact b24  w8
  refine g_icmp_lt (yv := 97) hF 12 d_X10_isLetter_3 (by decide) rfl (by decide) (fun c => ?_) (fun c => ?_)
  · have w9 := w1.1 c
    exact b12  w9
  · have w10 := w1.2 c
    refine g_iload_n hF d_X10_isLetter_6 rfl 0 rfl ?_
    refine g_bipush hF (v := 122) d_X10_isLetter_7 (by decide) ?_
    refine g_icmp_le (yv := 122) hF 30 d_X10_isLetter_9 (by decide) rfl (by decide) (fun c => ?_) (fun c => ?_)
    · have w11 := w10.1 c
      refine g_iconst hF (v := 1) d_X10_isLetter_30 (by decide) ?_
      refine g_goto hF 35 d_X10_isLetter_31 (by decide) ?_
      exact g_zret hF rfl (k_nz (Or.inr rfl)) d_X10_isLetter_35 ⟨rfl, rfl, (1 : Int32), rfl, (Or.inr rfl), ⟨rfl, w11⟩⟩
    · have w12 := w10.2 c
      exact b12  w12
set_option maxHeartbeats 4000000 in
set_option maxRecDepth 100000 in
theorem kt_X10_isDigit (a : Nat → Nat) (r : Nat → Nat) {a0 : Int32} {σ : St} {Q : Int32 → Prop} (w : wk_X10_isDigit a0 σ Q) (l : Launch) (D : va_G) (cy : Nat → ClassId) : Ct l D cy SC r (EC a gC) y_X10_isDigit (Cond.code y_X10_isDigit b_X10_isDigit 1 (some .boolean)) 0 [.int a0] σ Z0 [] (QI (fun x σ9 => (x = 0 ∨ x = 1) ∧ σ9 = σ ∧ Q x)) QT0 := by
  unfold wk_X10_isDigit at w
  refine Ct_of (EC_ok a gC) (by decide) (Nat.le_of_ble_eq_true rfl) (by decide) (fun X hnn hF => ?_)
  show G SC r X σ Z0 [] [(0, .int a0)] [] 0
  refine g_iload_n hF d_X10_isDigit_0 rfl 0 rfl ?_
  refine g_bipush hF (v := 48) d_X10_isDigit_1 (by decide) ?_
  refine g_icmp_lt (yv := 48) hF 16 d_X10_isDigit_3 (by decide) rfl (by decide) (fun c => ?_) (fun c => ?_)
  · have w1 := w.1 c
    refine g_iconst hF (v := 0) d_X10_isDigit_16 (by decide) ?_
    exact g_zret hF rfl (k_nz (Or.inl rfl)) d_X10_isDigit_17 ⟨rfl, rfl, (0 : Int32), rfl, (Or.inl rfl), ⟨rfl, w1⟩⟩
  · have w2 := w.2 c
    refine g_iload_n hF d_X10_isDigit_6 rfl 0 rfl ?_
    refine g_bipush hF (v := 57) d_X10_isDigit_7 (by decide) ?_
    refine g_icmp_gt (yv := 57) hF 16 d_X10_isDigit_9 (by decide) rfl (by decide) (fun c => ?_) (fun c => ?_)
    · have w3 := w2.1 c
      refine g_iconst hF (v := 0) d_X10_isDigit_16 (by decide) ?_
      exact g_zret hF rfl (k_nz (Or.inl rfl)) d_X10_isDigit_17 ⟨rfl, rfl, (0 : Int32), rfl, (Or.inl rfl), ⟨rfl, w3⟩⟩
    · have w4 := w2.2 c
      refine g_iconst hF (v := 1) d_X10_isDigit_12 (by decide) ?_
      refine g_goto hF 17 d_X10_isDigit_13 (by decide) ?_
      exact g_zret hF rfl (k_nz (Or.inr rfl)) d_X10_isDigit_17 ⟨rfl, rfl, (1 : Int32), rfl, (Or.inr rfl), ⟨rfl, w4⟩⟩
set_option maxHeartbeats 4000000 in
set_option maxRecDepth 100000 in
theorem kt_X10_mayGoOn (a : Nat → Nat) (r : Nat → Nat) {a0 : Int32} {σ : St} {Q : Int32 → Prop} (w : wk_X10_mayGoOn a0 σ Q) (l : Launch) (D : va_G) (cy : Nat → ClassId) : Ct l D cy SC r (EC a gC) y_X10_mayGoOn (Cond.code y_X10_mayGoOn b_X10_mayGoOn 1 (some .boolean)) 0 [.int a0] σ Z0 [] (QI (fun x σ9 => (x = 0 ∨ x = 1) ∧ σ9 = σ ∧ Q x)) QT0 := by
  unfold wk_X10_mayGoOn at w
  refine Ct_of (EC_ok a gC) (by decide) (Nat.le_of_ble_eq_true rfl) (by decide) (fun X hnn hF => ?_)
  show G SC r X σ Z0 [] [(0, .int a0)] [] 0
  refine g_iload_n hF d_X10_mayGoOn_0 rfl 0 rfl ?_
  refine g_bipush hF (v := 61) d_X10_mayGoOn_1 (by decide) ?_
  refine g_icmp_eq (yv := 61) hF 42 d_X10_mayGoOn_3 (by decide) rfl (by decide) (fun c => ?_) (fun c => ?_)
  · have w1 := w.1 c
    refine g_iconst hF (v := 1) d_X10_mayGoOn_42 (by decide) ?_
    refine g_goto hF 47 d_X10_mayGoOn_43 (by decide) ?_
    exact g_zret hF rfl (k_nz (Or.inr rfl)) d_X10_mayGoOn_47 ⟨rfl, rfl, (1 : Int32), rfl, (Or.inr rfl), ⟨rfl, w1⟩⟩
  · have w2 := w.2 c
    refine g_iload_n hF d_X10_mayGoOn_6 rfl 0 rfl ?_
    refine g_bipush hF (v := 60) d_X10_mayGoOn_7 (by decide) ?_
    refine g_icmp_eq (yv := 60) hF 42 d_X10_mayGoOn_9 (by decide) rfl (by decide) (fun c => ?_) (fun c => ?_)
    · have w3 := w2.1 c
      refine g_iconst hF (v := 1) d_X10_mayGoOn_42 (by decide) ?_
      refine g_goto hF 47 d_X10_mayGoOn_43 (by decide) ?_
      exact g_zret hF rfl (k_nz (Or.inr rfl)) d_X10_mayGoOn_47 ⟨rfl, rfl, (1 : Int32), rfl, (Or.inr rfl), ⟨rfl, w3⟩⟩
    · have w4 := w2.2 c
      refine g_iload_n hF d_X10_mayGoOn_12 rfl 0 rfl ?_
      refine g_bipush hF (v := 62) d_X10_mayGoOn_13 (by decide) ?_
      refine g_icmp_eq (yv := 62) hF 42 d_X10_mayGoOn_15 (by decide) rfl (by decide) (fun c => ?_) (fun c => ?_)
      · have w5 := w4.1 c
        refine g_iconst hF (v := 1) d_X10_mayGoOn_42 (by decide) ?_
        refine g_goto hF 47 d_X10_mayGoOn_43 (by decide) ?_
        exact g_zret hF rfl (k_nz (Or.inr rfl)) d_X10_mayGoOn_47 ⟨rfl, rfl, (1 : Int32), rfl, (Or.inr rfl), ⟨rfl, w5⟩⟩
      · have w6 := w4.2 c
        refine g_iload_n hF d_X10_mayGoOn_18 rfl 0 rfl ?_
        refine g_bipush hF (v := 43) d_X10_mayGoOn_19 (by decide) ?_
        refine g_icmp_eq (yv := 43) hF 42 d_X10_mayGoOn_21 (by decide) rfl (by decide) (fun c => ?_) (fun c => ?_)
        · have w7 := w6.1 c
          refine g_iconst hF (v := 1) d_X10_mayGoOn_42 (by decide) ?_
          refine g_goto hF 47 d_X10_mayGoOn_43 (by decide) ?_
          exact g_zret hF rfl (k_nz (Or.inr rfl)) d_X10_mayGoOn_47 ⟨rfl, rfl, (1 : Int32), rfl, (Or.inr rfl), ⟨rfl, w7⟩⟩
        · have w8 := w6.2 c
          refine g_iload_n hF d_X10_mayGoOn_24 rfl 0 rfl ?_
          refine g_bipush hF (v := 45) d_X10_mayGoOn_25 (by decide) ?_
          refine g_icmp_eq (yv := 45) hF 42 d_X10_mayGoOn_27 (by decide) rfl (by decide) (fun c => ?_) (fun c => ?_)
          · have w9 := w8.1 c
            refine g_iconst hF (v := 1) d_X10_mayGoOn_42 (by decide) ?_
            refine g_goto hF 47 d_X10_mayGoOn_43 (by decide) ?_
            exact g_zret hF rfl (k_nz (Or.inr rfl)) d_X10_mayGoOn_47 ⟨rfl, rfl, (1 : Int32), rfl, (Or.inr rfl), ⟨rfl, w9⟩⟩
          · have w10 := w8.2 c
            refine g_iload_n hF d_X10_mayGoOn_30 rfl 0 rfl ?_
            refine g_bipush hF (v := 38) d_X10_mayGoOn_31 (by decide) ?_
            refine g_icmp_eq (yv := 38) hF 42 d_X10_mayGoOn_33 (by decide) rfl (by decide) (fun c => ?_) (fun c => ?_)
            · have w11 := w10.1 c
              refine g_iconst hF (v := 1) d_X10_mayGoOn_42 (by decide) ?_
              refine g_goto hF 47 d_X10_mayGoOn_43 (by decide) ?_
              exact g_zret hF rfl (k_nz (Or.inr rfl)) d_X10_mayGoOn_47 ⟨rfl, rfl, (1 : Int32), rfl, (Or.inr rfl), ⟨rfl, w11⟩⟩
            · have w12 := w10.2 c
              refine g_iload_n hF d_X10_mayGoOn_36 rfl 0 rfl ?_
              refine g_bipush hF (v := 124) d_X10_mayGoOn_37 (by decide) ?_
              refine g_icmp_ne (yv := 124) hF 46 d_X10_mayGoOn_39 (by decide) rfl (by decide) (fun c => ?_) (fun c => ?_)
              · have w13 := w12.1 c
                refine g_iconst hF (v := 0) d_X10_mayGoOn_46 (by decide) ?_
                exact g_zret hF rfl (k_nz (Or.inl rfl)) d_X10_mayGoOn_47 ⟨rfl, rfl, (0 : Int32), rfl, (Or.inl rfl), ⟨rfl, w13⟩⟩
              · have w14 := w12.2 c
                refine g_iconst hF (v := 1) d_X10_mayGoOn_42 (by decide) ?_
                refine g_goto hF 47 d_X10_mayGoOn_43 (by decide) ?_
                exact g_zret hF rfl (k_nz (Or.inr rfl)) d_X10_mayGoOn_47 ⟨rfl, rfl, (1 : Int32), rfl, (Or.inr rfl), ⟨rfl, w14⟩⟩
