set_option maxHeartbeats 4000000 in
theorem ckvB (a : Nat → Nat) (r : Nat → Nat) (n : Nat) : (∀ {a1 : Int32} {σ : St} {Q : St → Prop}, (KVB n).1 a1 σ Q → ∀ (l : Launch) (D : va_G) (cy : Nat → ClassId), Ct l D cy SC r (EC a gC) y_X3_body (Cond.code y_X3_body b_X3_body 2 none) (245 + n) [.ref (r 3), .int a1] σ Z0 [] (QV Q) QT0) ∧ (∀ {a1 : Int32} {σ : St} {Q : St → Prop}, (KVB n).2.1 a1 σ Q → ∀ (l : Launch) (D : va_G) (cy : Nat → ClassId), Ct l D cy SC r (EC a gC) y_X3_conditional (Cond.code y_X3_conditional b_X3_conditional 3 none) (245 + n) [.ref (r 3), .int a1] σ Z0 [] (QV Q) QT0) ∧ (∀ {a1 : Int32} {σ : St} {Q : St → Prop}, (KVB n).2.2.1 a1 σ Q → ∀ (l : Launch) (D : va_G) (cy : Nat → ClassId), Ct l D cy SC r (EC a gC) y_X3_loop (Cond.code y_X3_loop b_X3_loop 5 none) (245 + n) [.ref (r 3), .int a1] σ Z0 [] (QV Q) QT0) ∧ (∀ {a1 : Int32} {σ : St} {Q : St → Prop}, (KVB n).2.2.2.1 a1 σ Q → ∀ (l : Launch) (D : va_G) (cy : Nat → ClassId), Ct l D cy SC r (EC a gC) y_X3_statement (Cond.code y_X3_statement b_X3_statement 5 none) (245 + n) [.ref (r 3), .int a1] σ Z0 [] (QV Q) QT0) ∧ (∀ {a1 : Int32} {σ : St} {Q : St → Prop}, (KVB n).2.2.2.2 a1 σ Q → ∀ (l : Launch) (D : va_G) (cy : Nat → ClassId), Ct l D cy SC r (EC a gC) y_X3_statements (Cond.code y_X3_statements b_X3_statements 3 none) (245 + n) [.ref (r 3), .int a1] σ Z0 [] (QV Q) QT0) := by
  induction n with
  | zero => exact ⟨fun h => h.elim, fun h => h.elim, fun h => h.elim, fun h => h.elim, fun h => h.elim⟩
  | succ n ih =>
    obtain ⟨hbody, hconditional, hloop, hstatement, hstatements⟩ := ih
    exact ⟨fun w => kt_X3_body a r (245 + n) (Nat.le_trans (Nat.le_of_ble_eq_true rfl) (Nat.le_add_right _ n)) ((KVB n).1) ((KVB n).2.1) ((KVB n).2.2.1) ((KVB n).2.2.2.1) ((KVB n).2.2.2.2) hstatement w, fun w => kt_X3_conditional a r (245 + n) (Nat.le_trans (Nat.le_of_ble_eq_true rfl) (Nat.le_add_right _ n)) ((KVB n).1) ((KVB n).2.1) ((KVB n).2.2.1) ((KVB n).2.2.2.1) ((KVB n).2.2.2.2) hbody w, fun w => kt_X3_loop a r (245 + n) (Nat.le_trans (Nat.le_of_ble_eq_true rfl) (Nat.le_add_right _ n)) ((KVB n).1) ((KVB n).2.1) ((KVB n).2.2.1) ((KVB n).2.2.2.1) ((KVB n).2.2.2.2) hbody w, fun w => kt_X3_statement a r (245 + n) (Nat.le_trans (Nat.le_of_ble_eq_true rfl) (Nat.le_add_right _ n)) ((KVB n).1) ((KVB n).2.1) ((KVB n).2.2.1) ((KVB n).2.2.2.1) ((KVB n).2.2.2.2) hconditional hloop hstatements w, fun w => kt_X3_statements a r (245 + n) (Nat.le_trans (Nat.le_of_ble_eq_true rfl) (Nat.le_add_right _ n)) ((KVB n).1) ((KVB n).2.1) ((KVB n).2.2.1) ((KVB n).2.2.2.1) ((KVB n).2.2.2.2) hstatement w⟩
theorem ktG_body (a : Nat → Nat) (r : Nat → Nat) {a1 : Int32} {σ : St} {Q : St → Prop} (w : wkG_body a1 σ Q) (l : Launch) (D : va_G) (cy : Nat → ClassId) : Ct l D cy SC r (EC a gC) y_X3_body (Cond.code y_X3_body b_X3_body 2 none) 405 [.ref (r 3), .int a1] σ Z0 [] (QV Q) QT0 := (ckvB a r 160).1 w l D cy
theorem ktG_conditional (a : Nat → Nat) (r : Nat → Nat) {a1 : Int32} {σ : St} {Q : St → Prop} (w : wkG_conditional a1 σ Q) (l : Launch) (D : va_G) (cy : Nat → ClassId) : Ct l D cy SC r (EC a gC) y_X3_conditional (Cond.code y_X3_conditional b_X3_conditional 3 none) 405 [.ref (r 3), .int a1] σ Z0 [] (QV Q) QT0 := (ckvB a r 160).2.1 w l D cy
theorem ktG_loop (a : Nat → Nat) (r : Nat → Nat) {a1 : Int32} {σ : St} {Q : St → Prop} (w : wkG_loop a1 σ Q) (l : Launch) (D : va_G) (cy : Nat → ClassId) : Ct l D cy SC r (EC a gC) y_X3_loop (Cond.code y_X3_loop b_X3_loop 5 none) 405 [.ref (r 3), .int a1] σ Z0 [] (QV Q) QT0 := (ckvB a r 160).2.2.1 w l D cy
theorem ktG_statement (a : Nat → Nat) (r : Nat → Nat) {a1 : Int32} {σ : St} {Q : St → Prop} (w : wkG_statement a1 σ Q) (l : Launch) (D : va_G) (cy : Nat → ClassId) : Ct l D cy SC r (EC a gC) y_X3_statement (Cond.code y_X3_statement b_X3_statement 5 none) 405 [.ref (r 3), .int a1] σ Z0 [] (QV Q) QT0 := (ckvB a r 160).2.2.2.1 w l D cy
theorem ktG_statements (a : Nat → Nat) (r : Nat → Nat) {a1 : Int32} {σ : St} {Q : St → Prop} (w : wkG_statements a1 σ Q) (l : Launch) (D : va_G) (cy : Nat → ClassId) : Ct l D cy SC r (EC a gC) y_X3_statements (Cond.code y_X3_statements b_X3_statements 3 none) 405 [.ref (r 3), .int a1] σ Z0 [] (QV Q) QT0 := (ckvB a r 160).2.2.2.2 w l D cy
set_option maxHeartbeats 4000000 in
set_option maxRecDepth 100000 in
theorem kt_X3_read (a : Nat → Nat) (r : Nat → Nat) {σ : St} {Q : Int32 → St → Prop} (w : wk_X3_read  σ Q) (l : Launch) (D : va_G) (cy : Nat → ClassId) : Ct l D cy SC r (EC a gC) y_X3_read (Cond.code y_X3_read b_X3_read 6 (some .boolean)) 406 [.ref (r 3)] σ Z0 [] (QI (fun x σ9 => (x = 0 ∨ x = 1) ∧ Q x σ9)) QT0 := by
  unfold wk_X3_read at w
  refine Ct_of (EC_ok a gC) (by decide) (Nat.le_of_ble_eq_true rfl) (by decide) (fun X hnn hF => ?_)
  show G SC r X σ Z0 [] [(0, .ref (r 3))] [] 0
  refine g_aload_n hF d_X3_read_0 rfl 0 rfl ?_
  refine g_iconst hF (v := 0) d_X3_read_1 (by decide) ?_
  refine g_put (v := 0) hF 4 obC_3 (by decide) m_99 rfl rfl rfl d_X3_read_2 ?_
  refine g_aload_n hF d_X3_read_5 rfl 0 rfl ?_
  refine g_iconst hF (v := 0) d_X3_read_6 (by decide) ?_
  refine g_put (v := 0) hF 9 obC_3 (by decide) m_114 rfl rfl rfl d_X3_read_7 ?_
  refine g_aload_n hF d_X3_read_10 rfl 0 rfl ?_
  refine g_iconst hF (v := (-1)) d_X3_read_11 (by decide) ?_
  refine g_put (v := (-1)) hF 3 obC_3 (by decide) m_97 rfl rfl rfl d_X3_read_12 ?_
  refine g_aload_n hF d_X3_read_15 rfl 0 rfl ?_
  refine g_iconst hF (v := (-1)) d_X3_read_16 (by decide) ?_
  refine g_put (v := (-1)) hF 1 obC_3 (by decide) m_95 rfl rfl rfl d_X3_read_17 ?_
  refine g_aload_n hF d_X3_read_20 rfl 0 rfl ?_
  refine g_callV (As := []) (rest := []) hF (fun l D cy => kt_X3_advance a r w l D cy) (Nat.le_of_ble_eq_true rfl) mV_X3_advance m_899 (recv_ob obC_3) rfl rfl (Nat.le_of_ble_eq_true rfl) d_X3_read_21 (qV (fun s21 w1 => ?_)) (fun _ _ _ h => h.elim)
  refine g_aload_n hF d_X3_read_24 rfl 0 rfl ?_
  refine g_get (v := .ref (r 2)) hF 0 obC_3 (by decide) m_94 rfl d_X3_read_25 ?_
  refine g_getN (v := .int (s21 2 4)) hF 4 obC_2 (by decide) nm_47 rfl d_X3_read_28 ?_
  refine g_istore_n hF [(1, .int (s21 2 4)), (0, .ref (r 3))] d_X3_read_31 rfl hnn (by decide) rfl ?_
  obtain ⟨L32, ⟨i32, u32⟩, h32⟩ := w1
  have b32 : ∀ (n32 : Nat) (x1_32 : Int32) (s32 : St), L32 n32 x1_32 s32 → G SC r X s32 Z0 [] [(0, .ref (r 3)), (1, .int x1_32)] [] 32 := by
    intro n32
    induction n32 using Nat.strongRecOn with
    | _ n32 ih32 =>
      intro x1_32 s32  w32_
      have w32_ := h32 n32 x1_32 s32  w32_
      refine g_iload_n hF d_X3_read_32 rfl 1 rfl ?_
      obtain ⟨J199, h199, w2⟩ := w32_
      have b199 : J199  → G SC r X s32 Z0 [] [(0, .ref (r 3))] [] 199 := by
        intro   w199_
        have w199_ := h199   w199_
        refine g_aload_n hF d_X3_read_199 rfl 0 rfl ?_
        refine g_get (v := .int (s32 3 3)) hF 3 obC_3 (by decide) m_97 rfl d_X3_read_200 ?_
        refine g_if_ge hF 210 d_X3_read_203 (by decide) rfl (fun c => ?_) (fun c => ?_)
        · have w3 := w199_.1 c
          refine g_iconst hF (v := 0) d_X3_read_210 (by decide) ?_
          exact g_zret hF rfl (k_nz (Or.inl rfl)) d_X3_read_211 ⟨rfl, rfl, (0 : Int32), rfl, (Or.inl rfl), w3⟩
        · have w4 := w199_.2 c
          refine g_iconst hF (v := 1) d_X3_read_206 (by decide) ?_
          refine g_goto hF 211 d_X3_read_207 (by decide) ?_
          exact g_zret hF rfl (k_nz (Or.inr rfl)) d_X3_read_211 ⟨rfl, rfl, (1 : Int32), rfl, (Or.inr rfl), w4⟩
      refine g_if_le hF 199 d_X3_read_33 (by decide) rfl (fun c => ?_) (fun c => ?_)
      · have w5 := w2.1 c
        exact g_sub (L' := [(0, .ref (r 3))]) [0] rfl (b199  w5)
      · have w6 := w2.2 c
        refine g_aload_n hF d_X3_read_36 rfl 0 rfl ?_
        refine g_get (v := .int (s32 3 3)) hF 3 obC_3 (by decide) m_97 rfl d_X3_read_37 ?_
        refine g_if_ge hF 199 d_X3_read_40 (by decide) rfl (fun c => ?_) (fun c => ?_)
        · have w7 := w6.1 c
          exact g_sub (L' := [(0, .ref (r 3))]) [0] rfl (b199  w7)
        · have w8 := w6.2 c
          refine g_aload_n hF d_X3_read_43 rfl 0 rfl ?_
          refine g_get (v := .int (s32 3 2)) hF 2 obC_3 (by decide) m_96 rfl d_X3_read_44 ?_
          refine g_if_eq hF 199 d_X3_read_47 (by decide) rfl (fun c => ?_) (fun c => ?_)
          · have w9 := w8.1 c
            exact g_sub (L' := [(0, .ref (r 3))]) [0] rfl (b199  w9)
          · have w10 := w8.2 c
            refine g_aload_n hF d_X3_read_50 rfl 0 rfl ?_
            refine g_get (v := .int (s32 3 2)) hF 2 obC_3 (by decide) m_96 rfl d_X3_read_51 ?_
            refine g_bipush hF (v := 7) d_X3_read_54 (by decide) ?_
            obtain ⟨J77, h77, w11⟩ := w10
            have b77 : ∀ (y0_77 : Int32), J77 y0_77 → G SC r X s32 Z0 [] [(0, .ref (r 3)), (1, .int x1_32)] [.int y0_77] 77 := by
              intro y0_77  w77_
              have w77_ := h77 y0_77  w77_
              refine g_istore_n hF [(2, .int y0_77), (0, .ref (r 3)), (1, .int x1_32)] d_X3_read_77 rfl hnn (by decide) rfl ?_
              refine g_iload_n hF d_X3_read_78 rfl 0 rfl ?_
              obtain ⟨J86, h86, w12⟩ := w77_
              have b86 : ∀ (s86 : St), J86 s86 → G SC r X s86 Z0 [] [(0, .ref (r 3)), (1, .int x1_32), (2, .int y0_77)] [] 86 := by
                intro s86  w86_
                have w86_ := h86 s86  w86_
                refine g_aload_n hF d_X3_read_86 rfl 0 rfl ?_
                refine g_get (v := .int (s86 3 2)) hF 2 obC_3 (by decide) m_96 rfl d_X3_read_87 ?_
                refine g_bipush hF (v := 6) d_X3_read_90 (by decide) ?_
                obtain ⟨J100, h100, w13⟩ := w86_
                have b100 : ∀ (y0_100 : Int32), y0_100 = 0 ∨ y0_100 = 1 → J100 y0_100 → G SC r X s86 Z0 [] [(0, .ref (r 3)), (1, .int x1_32), (2, .int y0_77)] [.int y0_100] 100 := by
                  intro y0_100 hy0_100 w100_
                  have w100_ := h100 y0_100 hy0_100 w100_
                  refine g_istore_n hF [(3, .int y0_100), (0, .ref (r 3)), (1, .int x1_32), (2, .int y0_77)] d_X3_read_100 rfl hnn (by decide) rfl ?_
                  refine g_aload_n hF d_X3_read_101 rfl 1 rfl ?_
                  refine g_iload_n hF d_X3_read_102 rfl 0 rfl ?_
                  obtain ⟨J112, h112, w14⟩ := w100_
                  have b112 : ∀ (y1_112 : Int32), J112 y1_112 → G SC r X s86 Z0 [] [(0, .ref (r 3)), (1, .int x1_32), (2, .int y0_77), (3, .int y0_100)] [.int y1_112, .ref (r 3)] 112 := by
                    intro y1_112  w112_
                    have w112_ := h112 y1_112  w112_
                    refine g_callV (As := [.int y1_112]) (rest := []) hF (fun l D cy => kt_X3_expect a r w112_ l D cy) (Nat.le_of_ble_eq_true rfl) mV_X3_expect m_903 (recv_ob obC_3) rfl rfl (Nat.le_of_ble_eq_true rfl) d_X3_read_112 (qV (fun s112 w15 => ?_)) (fun _ _ _ h => h.elim)
                    refine g_iload_n hF d_X3_read_115 rfl 3 rfl ?_
                    obtain ⟨J127, h127, w16⟩ := w15
                    have b127 : ∀ (y0_127 : Int32) (s127 : St), J127 y0_127 s127 → G SC r X s127 Z0 [] [(0, .ref (r 3)), (1, .int x1_32), (2, .int y0_77), (3, .int y0_100)] [.int y0_127] 127 := by
                      intro y0_127 s127  w127_
                      have w127_ := h127 y0_127 s127  w127_
                      refine g_istore hF [(4, .int y0_127), (0, .ref (r 3)), (1, .int x1_32), (2, .int y0_77), (3, .int y0_100)] d_X3_read_127 hnn (by decide) rfl ?_
                      refine g_aload_n hF d_X3_read_129 rfl 1 rfl ?_
                      refine g_get (v := .int (s127 3 1)) hF 1 obC_3 (by decide) m_95 rfl d_X3_read_130 ?_
                      refine g_istore hF [(5, .int (s127 3 1)), (4, .int y0_127), (0, .ref (r 3)), (1, .int x1_32), (2, .int y0_77), (3, .int y0_100)] d_X3_read_133 hnn (by decide) rfl ?_
                      refine g_aload_n hF d_X3_read_135 rfl 2 rfl ?_
                      refine g_iconst hF (v := 2) d_X3_read_136 (by decide) ?_
                      refine g_callV (As := [.int 2]) (rest := []) hF (fun l D cy => kt_X3_expect a r w127_ l D cy) (Nat.le_of_ble_eq_true rfl) mV_X3_expect m_903 (recv_ob obC_3) rfl rfl (Nat.le_of_ble_eq_true rfl) d_X3_read_137 (qV (fun s137 w17 => ?_)) (fun _ _ _ h => h.elim)
                      refine g_iload_n hF d_X3_read_140 rfl 5 rfl ?_
                      obtain ⟨J193, h193, w18⟩ := w17
                      have b193 : ∀ (s193 : St), J193 s193 → G SC r X s193 Z0 [] [(0, .ref (r 3)), (1, .int x1_32)] [] 193 := by
                        intro s193  w193_
                        have w193_ := h193 s193  w193_
                        refine g_iinc hF (x1_32 + (-1)) [(1, .int (x1_32 + (-1))), (0, .ref (r 3))] d_X3_read_193 1 rfl rfl hnn (by decide) rfl ?_
                        refine g_goto hF 32 d_X3_read_196 (by decide) ?_
                        obtain ⟨m32, hm32, w9⟩ := w193_
                        exact g_sub (L' := [(0, .ref (r 3)), (1, .int (x1_32 + (-1)))]) [1, 0] rfl (ih32 m32 hm32 (x1_32 + (-1)) s193 w9)
                      obtain ⟨J165, h165, w19⟩ := w18
                      have b165 : J165  → G SC r X s137 Z0 [] [(0, .ref (r 3)), (1, .int x1_32), (2, .int y0_77), (4, .int y0_127), (5, .int (s127 3 1))] [] 165 := by
                        intro   w165_
                        have w165_ := h165   w165_
                        refine g_aload_n hF d_X3_read_165 rfl 0 rfl ?_
                        refine g_iload hF d_X3_read_166 4 rfl ?_
                        refine g_iload hF d_X3_read_168 3 rfl ?_
                        refine g_iload_n hF d_X3_read_170 rfl 2 rfl ?_
                        refine g_callV (As := [.int (s127 3 1), .int y0_127, .int y0_77]) (rest := []) hF (fun l D cy => kt_X3_head a r w165_ l D cy) (Nat.le_of_ble_eq_true rfl) mV_X3_head m_986 (recv_ob obC_3) rfl rfl (Nat.le_of_ble_eq_true rfl) d_X3_read_171 (qZ (fun v171 s171 hz171 w20 => ?_)) (fun _ _ _ h => h.elim)
                        refine g_if_eq hF 193 d_X3_read_174 (by decide) rfl (fun c => ?_) (fun c => ?_)
                        · have w21 := w20.1 c
                          exact g_sub (L' := [(0, .ref (r 3)), (1, .int x1_32)]) [0, 1] rfl (b193 s171 w21)
                        · have w22 := w20.2 c
                          refine g_aload_n hF d_X3_read_177 rfl 0 rfl ?_
                          refine g_iconst hF (v := 1) d_X3_read_178 (by decide) ?_
                          refine g_callV (As := [.int 1]) (rest := []) hF (fun l D cy => ktG_statements a r w22 l D cy) (Nat.le_of_ble_eq_true rfl) mV_X3_statements m_1004 (recv_ob obC_3) rfl rfl (Nat.le_of_ble_eq_true rfl) d_X3_read_179 (qV (fun s179 w23 => ?_)) (fun _ _ _ h => h.elim)
                          refine g_aload_n hF d_X3_read_182 rfl 0 rfl ?_
                          refine g_bipush hF (v := 49) d_X3_read_183 (by decide) ?_
                          refine g_iload hF d_X3_read_185 4 rfl ?_
                          refine g_iconst hF (v := 0) d_X3_read_187 (by decide) ?_
                          refine g_iconst hF (v := 0) d_X3_read_188 (by decide) ?_
                          refine g_callV (As := [.int 49, .int (s127 3 1), .int 0, .int 0]) (rest := []) hF (fun l D cy => kt_X3_add a r w23 l D cy) (Nat.le_of_ble_eq_true rfl) mV_X3_add m_923 (recv_ob obC_3) rfl rfl (Nat.le_of_ble_eq_true rfl) d_X3_read_189 (qI (fun v189 s189 w24 => ?_)) (fun _ _ _ h => h.elim)
                          refine g_pop hF d_X3_read_192 rfl ?_
                          exact g_sub (L' := [(0, .ref (r 3)), (1, .int x1_32)]) [0, 1] rfl (b193 s189 w24)
                      refine g_if_ne hF 165 d_X3_read_141 (by decide) rfl (fun c => ?_) (fun c => ?_)
                      · have w25 := w19.1 c
                        exact g_sub (L' := [(0, .ref (r 3)), (1, .int x1_32), (2, .int y0_77), (4, .int y0_127), (5, .int (s127 3 1))]) [2, 3, 4, 1, 0] rfl (b165  w25)
                      · have w26 := w19.2 c
                        refine g_aload_n hF d_X3_read_144 rfl 2 rfl ?_
                        refine g_get (v := .int (s137 3 2)) hF 2 obC_3 (by decide) m_96 rfl d_X3_read_145 ?_
                        refine g_bipush hF (v := 20) d_X3_read_148 (by decide) ?_
                        refine g_icmp_eq (yv := 20) hF 165 d_X3_read_150 (by decide) rfl (by decide) (fun c => ?_) (fun c => ?_)
                        · have w27 := w26.1 c
                          exact g_sub (L' := [(0, .ref (r 3)), (1, .int x1_32), (2, .int y0_77), (4, .int y0_127), (5, .int (s127 3 1))]) [2, 3, 4, 1, 0] rfl (b165  w27)
                        · have w28 := w26.2 c
                          refine g_aload_n hF d_X3_read_153 rfl 2 rfl ?_
                          refine g_iload hF d_X3_read_154 0 rfl ?_
                          refine g_iload hF d_X3_read_156 1 rfl ?_
                          refine g_iload_n hF d_X3_read_158 rfl 4 rfl ?_
                          refine g_callV (As := [.int (s127 3 1), .int y0_127, .int y0_77]) (rest := []) hF (fun l D cy => kt_X3_variables a r w28 l D cy) (Nat.le_of_ble_eq_true rfl) mV_X3_variables m_915 (recv_ob obC_3) rfl rfl (Nat.le_of_ble_eq_true rfl) d_X3_read_159 (qV (fun s159 w29 => ?_)) (fun _ _ _ h => h.elim)
                          refine g_goto hF 193 d_X3_read_162 (by decide) ?_
                          exact g_sub (L' := [(0, .ref (r 3)), (1, .int x1_32)]) [2, 3] rfl (b193 s159 w29)
                    refine g_if_eq hF 123 d_X3_read_116 (by decide) rfl (fun c => ?_) (fun c => ?_)
                    · have w30 := w16.1 c
                      refine g_aload_n hF d_X3_read_123 rfl 0 rfl ?_
                      refine g_callV (As := []) (rest := []) hF (fun l D cy => kt_X3_stars a r w30 l D cy) (Nat.le_of_ble_eq_true rfl) mV_X3_stars m_911 (recv_ob obC_3) rfl rfl (Nat.le_of_ble_eq_true rfl) d_X3_read_124 (qI (fun v124 s124 w31 => ?_)) (fun _ _ _ h => h.elim)
                      exact b127 v124 s124 w31
                    · have w32 := w16.2 c
                      refine g_iconst hF (v := (-1)) d_X3_read_119 (by decide) ?_
                      refine g_goto hF 127 d_X3_read_120 (by decide) ?_
                      exact b127 ((-1) : Int32) s112 w32
                  refine g_if_eq hF 111 d_X3_read_103 (by decide) rfl (fun c => ?_) (fun c => ?_)
                  · have w33 := w14.1 c
                    refine g_iconst hF (v := 5) d_X3_read_111 (by decide) ?_
                    exact g_sub (L' := [(0, .ref (r 3)), (1, .int x1_32), (2, .int y0_77), (3, .int y0_100)]) [1, 2, 3, 0] rfl (b112 (5 : Int32) w33)
                  · have w34 := w14.2 c
                    refine g_bipush hF (v := 6) d_X3_read_106 (by decide) ?_
                    refine g_goto hF 112 d_X3_read_108 (by decide) ?_
                    exact g_sub (L' := [(0, .ref (r 3)), (1, .int x1_32), (2, .int y0_77), (3, .int y0_100)]) [1, 2, 3, 0] rfl (b112 (6 : Int32) w34)
                refine g_icmp_ne (yv := 6) hF 99 d_X3_read_92 (by decide) rfl (by decide) (fun c => ?_) (fun c => ?_)
                · have w35 := w13.1 c
                  refine g_iconst hF (v := 0) d_X3_read_99 (by decide) ?_
                  exact b100 (0 : Int32) (Or.inl rfl) w35
                · have w36 := w13.2 c
                  refine g_iconst hF (v := 1) d_X3_read_95 (by decide) ?_
                  refine g_goto hF 100 d_X3_read_96 (by decide) ?_
                  exact b100 (1 : Int32) (Or.inr rfl) w36
              refine g_if_eq hF 86 d_X3_read_79 (by decide) rfl (fun c => ?_) (fun c => ?_)
              · have w37 := w12.1 c
                exact g_sub (L' := [(0, .ref (r 3)), (1, .int x1_32), (2, .int y0_77)]) [1, 2, 0] rfl (b86 s32 w37)
              · have w38 := w12.2 c
                refine g_aload_n hF d_X3_read_82 rfl 1 rfl ?_
                refine g_callV (As := []) (rest := []) hF (fun l D cy => kt_X3_advance a r w38 l D cy) (Nat.le_of_ble_eq_true rfl) mV_X3_advance m_899 (recv_ob obC_3) rfl rfl (Nat.le_of_ble_eq_true rfl) d_X3_read_83 (qV (fun s83 w39 => ?_)) (fun _ _ _ h => h.elim)
                exact g_sub (L' := [(0, .ref (r 3)), (1, .int x1_32), (2, .int y0_77)]) [1, 2, 0] rfl (b86 s83 w39)
            refine g_icmp_ne (yv := 7) hF 63 d_X3_read_56 (by decide) rfl (by decide) (fun c => ?_) (fun c => ?_)
            · have w40 := w11.1 c
              refine g_aload_n hF d_X3_read_63 rfl 0 rfl ?_
              refine g_get (v := .int (s32 3 2)) hF 2 obC_3 (by decide) m_96 rfl d_X3_read_64 ?_
              refine g_bipush hF (v := 8) d_X3_read_67 (by decide) ?_
              refine g_icmp_ne (yv := 8) hF 76 d_X3_read_69 (by decide) rfl (by decide) (fun c => ?_) (fun c => ?_)
              · have w41 := w40.1 c
                refine g_iconst hF (v := 0) d_X3_read_76 (by decide) ?_
                exact b77 (0 : Int32) w41
              · have w42 := w40.2 c
                refine g_iconst hF (v := 2) d_X3_read_72 (by decide) ?_
                refine g_goto hF 77 d_X3_read_73 (by decide) ?_
                exact b77 (2 : Int32) w42
            · have w43 := w11.2 c
              refine g_iconst hF (v := 1) d_X3_read_59 (by decide) ?_
              refine g_goto hF 77 d_X3_read_60 (by decide) ?_
              exact b77 (1 : Int32) w43
  exact g_sub (L' := [(0, .ref (r 3)), (1, .int (s21 2 4))]) [1, 0] rfl (b32 i32 (s21 2 4) s21 u32)
set_option maxHeartbeats 4000000 in
set_option maxRecDepth 100000 in
theorem kt_X11_leave (a : Nat → Nat) (r : Nat → Nat) {σ : St} {Q : St → Prop} (w : wk_X11_leave  σ Q) (l : Launch) (D : va_G) (cy : Nat → ClassId) : Ct l D cy SC r (EC a gC) y_X11_leave (Cond.code y_X11_leave b_X11_leave 1 none) 0 [.ref (r 6)] σ Z0 [] (QV Q) QT0 := by
  unfold wk_X11_leave at w
  refine Ct_of (EC_ok a gC) (by decide) (Nat.le_of_ble_eq_true rfl) (by decide) (fun X hnn hF => ?_)
  show G SC r X σ Z0 [] [(0, .ref (r 6))] [] 0
  refine g_aload_n hF d_X11_leave_0 rfl 0 rfl ?_
  refine g_iconst hF (v := (-1)) d_X11_leave_1 (by decide) ?_
  refine g_put (v := (-1)) hF 6 obC_6 (by decide) m_324 rfl rfl rfl d_X11_leave_2 ?_
  refine g_aload_n hF d_X11_leave_5 rfl 0 rfl ?_
  refine g_iconst hF (v := 0) d_X11_leave_6 (by decide) ?_
  refine g_put (v := 0) hF 10 obC_6 (by decide) m_331 rfl rfl rfl d_X11_leave_7 ?_
  refine g_aload_n hF d_X11_leave_10 rfl 0 rfl ?_
  refine g_iconst hF (v := 0) d_X11_leave_11 (by decide) ?_
  refine g_put (v := 0) hF 15 obC_6 (by decide) m_342 rfl rfl rfl d_X11_leave_12 ?_
  refine g_aload_n hF d_X11_leave_15 rfl 0 rfl ?_
  refine g_iconst hF (v := 0) d_X11_leave_16 (by decide) ?_
  refine g_put (v := 0) hF 17 obC_6 (by decide) m_344 rfl rfl rfl d_X11_leave_17 ?_
  exact g_vret hF rfl d_X11_leave_20 ⟨rfl, rfl, rfl, w⟩
set_option maxHeartbeats 4000000 in
set_option maxRecDepth 100000 in
theorem kt_X11_begin (a : Nat → Nat) (r : Nat → Nat) {a1 : Int32} {σ : St} {Q : St → Prop} (w : wk_X11_begin a1 σ Q) (l : Launch) (D : va_G) (cy : Nat → ClassId) : Ct l D cy SC r (EC a gC) y_X11_begin (Cond.code y_X11_begin b_X11_begin 2 none) 1 [.ref (r 6), .int a1] σ Z0 [] (QV Q) QT0 := by
  unfold wk_X11_begin at w
  refine Ct_of (EC_ok a gC) (by decide) (Nat.le_of_ble_eq_true rfl) (by decide) (fun X hnn hF => ?_)
  show G SC r X σ Z0 [] [(0, .ref (r 6)), (1, .int a1)] [] 0
  refine g_aload_n hF d_X11_begin_0 rfl 0 rfl ?_
  refine g_iload_n hF d_X11_begin_1 rfl 1 rfl ?_
  refine g_put (v := a1) hF 2 obC_6 (by decide) m_311 rfl rfl rfl d_X11_begin_2 ?_
  refine g_aload_n hF d_X11_begin_5 rfl 0 rfl ?_
  refine g_iconst hF (v := 0) d_X11_begin_6 (by decide) ?_
  refine g_put (v := 0) hF 3 obC_6 (by decide) m_314 rfl rfl rfl d_X11_begin_7 ?_
  refine g_aload_n hF d_X11_begin_10 rfl 0 rfl ?_
  refine g_iconst hF (v := (-1)) d_X11_begin_11 (by decide) ?_
  refine g_put (v := (-1)) hF 4 obC_6 (by decide) m_318 rfl rfl rfl d_X11_begin_12 ?_
  refine g_aload_n hF d_X11_begin_15 rfl 0 rfl ?_
  refine g_iconst hF (v := 0) d_X11_begin_16 (by decide) ?_
  refine g_put (v := 0) hF 5 obC_6 (by decide) m_320 rfl rfl rfl d_X11_begin_17 ?_
  refine g_aload_n hF d_X11_begin_20 rfl 0 rfl ?_
  refine g_iconst hF (v := 0) d_X11_begin_21 (by decide) ?_
  refine g_put (v := 0) hF 7 obC_6 (by decide) m_327 rfl rfl rfl d_X11_begin_22 ?_
  refine g_aload_n hF d_X11_begin_25 rfl 0 rfl ?_
  refine g_callV (As := []) (rest := []) hF (fun l D cy => kt_X11_leave a r w l D cy) (Nat.le_of_ble_eq_true rfl) mV_X11_leave m_1045 (recv_ob obC_6) rfl rfl (Nat.le_of_ble_eq_true rfl) d_X11_begin_26 (qV (fun s26 w1 => ?_)) (fun _ _ _ h => h.elim)
  exact g_vret hF rfl d_X11_begin_29 ⟨rfl, rfl, rfl, w1⟩
set_option maxHeartbeats 4000000 in
set_option maxRecDepth 100000 in
theorem kt_X1_begin (a : Nat → Nat) (r : Nat → Nat) {σ : St} {Q : St → Prop} (w : wk_X1_begin  σ Q) (l : Launch) (D : va_G) (cy : Nat → ClassId) : Ct l D cy SC r (EC a gC) y_X1_begin (Cond.code y_X1_begin b_X1_begin 1 none) 0 [.ref (r 8)] σ Z0 [] (QV Q) QT0 := by
  unfold wk_X1_begin at w
  refine Ct_of (EC_ok a gC) (by decide) (Nat.le_of_ble_eq_true rfl) (by decide) (fun X hnn hF => ?_)
  show G SC r X σ Z0 [] [(0, .ref (r 8))] [] 0
  refine g_aload_n hF d_X1_begin_0 rfl 0 rfl ?_
  refine g_iconst hF (v := (-1)) d_X1_begin_1 (by decide) ?_
  refine g_put (v := (-1)) hF 6 obC_8 (by decide) m_497 rfl rfl rfl d_X1_begin_2 ?_
  refine g_aload_n hF d_X1_begin_5 rfl 0 rfl ?_
  refine g_iconst hF (v := 0) d_X1_begin_6 (by decide) ?_
  refine g_put (v := 0) hF 8 obC_8 (by decide) m_499 rfl rfl rfl d_X1_begin_7 ?_
  exact g_vret hF rfl d_X1_begin_10 ⟨rfl, rfl, rfl, w⟩
set_option maxHeartbeats 4000000 in
set_option maxRecDepth 100000 in
theorem kt_X11_fail (a : Nat → Nat) (r : Nat → Nat) {a1 : Int32} {a2 : Int32} {σ : St} {Q : St → Prop} (w : wk_X11_fail a1 a2 σ Q) (l : Launch) (D : va_G) (cy : Nat → ClassId) : Ct l D cy SC r (EC a gC) y_X11_fail (Cond.code y_X11_fail b_X11_fail 3 none) 0 [.ref (r 6), .int a1, .int a2] σ Z0 [] (QV Q) QT0 := by
  unfold wk_X11_fail at w
  refine Ct_of (EC_ok a gC) (by decide) (Nat.le_of_ble_eq_true rfl) (by decide) (fun X hnn hF => ?_)
  show G SC r X σ Z0 [] [(0, .ref (r 6)), (1, .int a1), (2, .int a2)] [] 0
  refine g_aload_n hF d_X11_fail_0 rfl 0 rfl ?_
  refine g_get (v := .int (σ 6 3)) hF 3 obC_6 (by decide) m_314 rfl d_X11_fail_1 ?_
  refine g_if_ne hF 17 d_X11_fail_4 (by decide) rfl (fun c => ?_) (fun c => ?_)
  · have w1 := w.1 c
    exact g_vret hF rfl d_X11_fail_17 ⟨rfl, rfl, rfl, w1⟩
  · have w2 := w.2 c
    refine g_aload_n hF d_X11_fail_7 rfl 0 rfl ?_
    refine g_iload_n hF d_X11_fail_8 rfl 1 rfl ?_
    refine g_put (v := a1) hF 3 obC_6 (by decide) m_314 rfl rfl rfl d_X11_fail_9 ?_
    refine g_aload_n hF d_X11_fail_12 rfl 0 rfl ?_
    refine g_iload_n hF d_X11_fail_13 rfl 2 rfl ?_
    refine g_put (v := a2) hF 4 obC_6 (by decide) m_318 rfl rfl rfl d_X11_fail_14 ?_
    exact g_vret hF rfl d_X11_fail_17 ⟨rfl, rfl, rfl, w2⟩
set_option maxHeartbeats 4000000 in
set_option maxRecDepth 100000 in
theorem kt_X8_is (a : Nat → Nat) (r : Nat → Nat) {a1 : Int32} {a2 : Int32} {σ : St} {Q : Int32 → Prop} (w : wk_X8_is a1 a2 σ Q) (l : Launch) (D : va_G) (cy : Nat → ClassId) : Ct l D cy SC r (EC a gC) y_X8_is (Cond.code y_X8_is b_X8_is 3 (some .boolean)) 1 [.ref (r 5), .int a1, .int a2] σ Z0 [] (QI (fun x σ9 => (x = 0 ∨ x = 1) ∧ σ9 = σ ∧ Q x)) QT0 := by
  unfold wk_X8_is at w
  refine Ct_of (EC_ok a gC) (by decide) (Nat.le_of_ble_eq_true rfl) (by decide) (fun X hnn hF => ?_)
  show G SC r X σ Z0 [] [(0, .ref (r 5)), (1, .int a1), (2, .int a2)] [] 0
  refine g_aload_n hF d_X8_is_0 rfl 0 rfl ?_
  refine g_get (v := .ref (r 25)) hF 2 obC_5 (by decide) m_224 rfl d_X8_is_1 ?_
  refine g_iload_n hF d_X8_is_4 rfl 1 rfl ?_
  refine g_callSN (As := [.ref (r 25), .int a1]) (rest := []) hF (c_atv a r σ arC_25 (by decide) a1) (Nat.le_of_ble_eq_true rfl) mS_X12_at nm_1125 rfl rfl (Nat.le_of_ble_eq_true rfl) d_X8_is_5 (kQ ?_)
  refine g_top (v := (atv 10100 (σ 25) a1)) rfl ?_
  refine g_iload_n hF d_X8_is_8 rfl 2 rfl ?_
  refine g_iand hF d_X8_is_9 ?_
  refine g_if_eq hF 17 d_X8_is_10 (by decide) rfl (fun c => ?_) (fun c => ?_)
  · have w1 := w.1 c
    refine g_iconst hF (v := 0) d_X8_is_17 (by decide) ?_
    exact g_zret hF rfl (k_nz (Or.inl rfl)) d_X8_is_18 ⟨rfl, rfl, (0 : Int32), rfl, (Or.inl rfl), ⟨rfl, w1⟩⟩
  · have w2 := w.2 c
    refine g_iconst hF (v := 1) d_X8_is_13 (by decide) ?_
    refine g_goto hF 18 d_X8_is_14 (by decide) ?_
    exact g_zret hF rfl (k_nz (Or.inr rfl)) d_X8_is_18 ⟨rfl, rfl, (1 : Int32), rfl, (Or.inr rfl), ⟨rfl, w2⟩⟩
set_option maxHeartbeats 4000000 in
set_option maxRecDepth 100000 in
theorem kt_X11_finish (a : Nat → Nat) (r : Nat → Nat) {σ : St} {Q : St → Prop} (w : wk_X11_finish  σ Q) (l : Launch) (D : va_G) (cy : Nat → ClassId) : Ct l D cy SC r (EC a gC) y_X11_finish (Cond.code y_X11_finish b_X11_finish 6 none) 2 [.ref (r 6)] σ Z0 [] (QV Q) QT0 := by
  unfold wk_X11_finish at w
  refine Ct_of (EC_ok a gC) (by decide) (Nat.le_of_ble_eq_true rfl) (by decide) (fun X hnn hF => ?_)
  show G SC r X σ Z0 [] [(0, .ref (r 6))] [] 0
  refine g_iconst hF (v := (-1)) d_X11_finish_0 (by decide) ?_
  refine g_istore_n hF [(1, .int (-1)), (0, .ref (r 6))] d_X11_finish_1 rfl hnn (by decide) rfl ?_
  refine g_iconst hF (v := 0) d_X11_finish_2 (by decide) ?_
  refine g_istore_n hF [(2, .int 0), (1, .int (-1)), (0, .ref (r 6))] d_X11_finish_3 rfl hnn (by decide) rfl ?_
  obtain ⟨L4, ⟨i4, u4⟩, h4⟩ := w
  have b4 : ∀ (n4 : Nat) (x1_4 : Int32) (x2_4 : Int32), L4 n4 x1_4 x2_4 → G SC r X σ Z0 [] [(0, .ref (r 6)), (1, .int x1_4), (2, .int x2_4)] [] 4 := by
    intro n4
    induction n4 using Nat.strongRecOn with
    | _ n4 ih4 =>
      intro x1_4 x2_4  w4_
      have w4_ := h4 n4 x1_4 x2_4  w4_
      refine g_iload_n hF d_X11_finish_4 rfl 2 rfl ?_
      refine g_aload_n hF d_X11_finish_5 rfl 0 rfl ?_
      refine g_get (v := .int (σ 6 7)) hF 7 obC_6 (by decide) m_327 rfl d_X11_finish_6 ?_
      refine g_icmp_ge hF 97 d_X11_finish_9 (by decide) rfl rfl (fun c => ?_) (fun c => ?_)
      · have w1 := w4_.1 c
        refine g_iload_n hF d_X11_finish_97 rfl 1 rfl ?_
        refine g_if_lt hF 107 d_X11_finish_98 (by decide) rfl (fun c => ?_) (fun c => ?_)
        · have w2 := w1.1 c
          exact g_vret hF rfl d_X11_finish_107 ⟨rfl, rfl, rfl, w2⟩
        · have w3 := w1.2 c
          refine g_aload_n hF d_X11_finish_101 rfl 0 rfl ?_
          refine g_iconst hF (v := 2) d_X11_finish_102 (by decide) ?_
          refine g_iload_n hF d_X11_finish_103 rfl 1 rfl ?_
          refine g_callV (As := [.int 2, .int x1_4]) (rest := []) hF (fun l D cy => kt_X11_fail a r w3 l D cy) (Nat.le_of_ble_eq_true rfl) mV_X11_fail m_1487 (recv_ob obC_6) rfl rfl (Nat.le_of_ble_eq_true rfl) d_X11_finish_104 (qV (fun s104 w4 => ?_)) (fun _ _ _ h => h.elim)
          exact g_vret hF rfl d_X11_finish_107 ⟨rfl, rfl, rfl, w4⟩
      · have w5 := w4_.2 c
        refine g_aload_n hF d_X11_finish_12 rfl 0 rfl ?_
        refine g_get (v := .ref (r 5)) hF 1 obC_6 (by decide) m_309 rfl d_X11_finish_13 ?_
        refine g_getN (v := .int (σ 5 1)) hF 1 obC_5 (by decide) nm_223 rfl d_X11_finish_16 ?_
        refine g_aload_n hF d_X11_finish_19 rfl 0 rfl ?_
        refine g_get (v := .int (σ 6 7)) hF 7 obC_6 (by decide) m_327 rfl d_X11_finish_20 ?_
        refine g_isub hF d_X11_finish_23 ?_
        refine g_iload_n hF d_X11_finish_24 rfl 2 rfl ?_
        refine g_iadd hF d_X11_finish_25 ?_
        refine g_istore_n hF [(3, .int (((σ 5 1) - (σ 6 7)) + x2_4)), (0, .ref (r 6)), (1, .int x1_4), (2, .int x2_4)] d_X11_finish_26 rfl hnn (by decide) rfl ?_
        refine g_aload_n hF d_X11_finish_27 rfl 1 rfl ?_
        refine g_get (v := .ref (r 39)) hF 9 obC_6 (by decide) m_330 rfl d_X11_finish_28 ?_
        refine g_iload_n hF d_X11_finish_31 rfl 3 rfl ?_
        refine g_callSN (As := [.ref (r 39), .int x2_4]) (rest := []) hF (c_atv a r σ arC_39 (by decide) x2_4) (Nat.le_of_ble_eq_true rfl) mS_X12_at nm_1112 rfl rfl (Nat.le_of_ble_eq_true rfl) d_X11_finish_32 (kQ ?_)
        refine g_top (v := (atv 100 (σ 39) x2_4)) rfl ?_
        refine g_istore hF [(4, .int (atv 100 (σ 39) x2_4)), (3, .int (((σ 5 1) - (σ 6 7)) + x2_4)), (0, .ref (r 6)), (1, .int x1_4), (2, .int x2_4)] d_X11_finish_35 hnn (by decide) rfl ?_
        refine g_aload_n hF d_X11_finish_37 rfl 2 rfl ?_
        refine g_get (v := .ref (r 5)) hF 1 obC_6 (by decide) m_309 rfl d_X11_finish_38 ?_
        refine g_iload_n hF d_X11_finish_41 rfl 1 rfl ?_
        refine g_iconst hF (v := 2) d_X11_finish_42 (by decide) ?_
        refine g_callVN (As := [.int (((σ 5 1) - (σ 6 7)) + x2_4), .int 2]) (rest := []) hF (fun l D cy => kt_X8_is a r w5 l D cy) (Nat.le_of_ble_eq_true rfl) mV_X8_is nm_1486 (recv_ob obC_5) rfl rfl (Nat.le_of_ble_eq_true rfl) d_X11_finish_43 (qZr (fun v43 hz43 w6 => ?_))
        obtain ⟨J66, h66, w7⟩ := w6
        have b66 : ∀ (y0_66 : Int32), y0_66 = 0 ∨ y0_66 = 1 → J66 y0_66 → G SC r X σ Z0 [] [(0, .ref (r 6)), (1, .int x1_4), (2, .int x2_4), (4, .int (atv 100 (σ 39) x2_4))] [.int y0_66] 66 := by
          intro y0_66 hy0_66 w66_
          have w66_ := h66 y0_66 hy0_66 w66_
          refine g_istore hF [(5, .int y0_66), (0, .ref (r 6)), (1, .int x1_4), (2, .int x2_4), (4, .int (atv 100 (σ 39) x2_4))] d_X11_finish_66 hnn (by decide) rfl ?_
          refine g_iload hF d_X11_finish_68 0 rfl ?_
          obtain ⟨J91, h91, w8⟩ := w66_
          have b91 : ∀ (x1_91 : Int32), J91 x1_91 → G SC r X σ Z0 [] [(0, .ref (r 6)), (1, .int x1_91), (2, .int x2_4)] [] 91 := by
            intro x1_91  w91_
            have w91_ := h91 x1_91  w91_
            refine g_iinc hF (x2_4 + 1) [(2, .int (x2_4 + 1)), (0, .ref (r 6)), (1, .int x1_91)] d_X11_finish_91 2 rfl rfl hnn (by decide) rfl ?_
            refine g_goto hF 4 d_X11_finish_94 (by decide) ?_
            obtain ⟨m4, hm4, w9⟩ := w91_
            exact g_sub (L' := [(0, .ref (r 6)), (1, .int x1_91), (2, .int (x2_4 + 1))]) [1, 2, 0] rfl (ih4 m4 hm4 x1_91 (x2_4 + 1) w9)
          refine g_if_eq hF 91 d_X11_finish_70 (by decide) rfl (fun c => ?_) (fun c => ?_)
          · have w9 := w8.1 c
            exact g_sub (L' := [(0, .ref (r 6)), (1, .int x1_4), (2, .int x2_4)]) [1, 2, 3] rfl (b91 x1_4 w9)
          · have w10 := w8.2 c
            refine g_iload hF d_X11_finish_73 4 rfl ?_
            refine g_if_lt hF 91 d_X11_finish_75 (by decide) rfl (fun c => ?_) (fun c => ?_)
            · have w11 := w10.1 c
              exact g_sub (L' := [(0, .ref (r 6)), (1, .int x1_4), (2, .int x2_4)]) [1, 2, 3] rfl (b91 x1_4 w11)
            · have w12 := w10.2 c
              refine g_iload_n hF d_X11_finish_78 rfl 2 rfl ?_
              obtain ⟨J88, h88, w13⟩ := w12
              have b88 : J88  → G SC r X σ Z0 [] [(0, .ref (r 6)), (2, .int x2_4), (4, .int (atv 100 (σ 39) x2_4))] [] 88 := by
                intro   w88_
                have w88_ := h88   w88_
                refine g_iload hF d_X11_finish_88 2 rfl ?_
                refine g_istore_n hF [(1, .int (atv 100 (σ 39) x2_4)), (0, .ref (r 6)), (2, .int x2_4), (4, .int (atv 100 (σ 39) x2_4))] d_X11_finish_90 rfl hnn (by decide) rfl ?_
                exact g_sub (L' := [(0, .ref (r 6)), (1, .int (atv 100 (σ 39) x2_4)), (2, .int x2_4)]) [1, 0, 2] rfl (b91 (atv 100 (σ 39) x2_4) w88_)
              refine g_if_lt hF 88 d_X11_finish_79 (by decide) rfl (fun c => ?_) (fun c => ?_)
              · have w14 := w13.1 c
                exact g_sub (L' := [(0, .ref (r 6)), (2, .int x2_4), (4, .int (atv 100 (σ 39) x2_4))]) [1, 3, 4] rfl (b88  w14)
              · have w15 := w13.2 c
                refine g_iload hF d_X11_finish_82 4 rfl ?_
                refine g_iload_n hF d_X11_finish_84 rfl 2 rfl ?_
                refine g_icmp_ge hF 91 d_X11_finish_85 (by decide) rfl rfl (fun c => ?_) (fun c => ?_)
                · have w16 := w15.1 c
                  exact g_sub (L' := [(0, .ref (r 6)), (1, .int x1_4), (2, .int x2_4)]) [1, 2, 3] rfl (b91 x1_4 w16)
                · have w17 := w15.2 c
                  exact g_sub (L' := [(0, .ref (r 6)), (2, .int x2_4), (4, .int (atv 100 (σ 39) x2_4))]) [1, 3, 4] rfl (b88  w17)
        obtain ⟨J65, h65, w18⟩ := w7
        have b65 : J65  → G SC r X σ Z0 [] [(0, .ref (r 6)), (1, .int x1_4), (2, .int x2_4), (4, .int (atv 100 (σ 39) x2_4))] [] 65 := by
          intro   w65_
          have w65_ := h65   w65_
          refine g_iconst hF (v := 0) d_X11_finish_65 (by decide) ?_
          exact b66 (0 : Int32) (Or.inl rfl) w65_
        refine g_if_eq hF 65 d_X11_finish_46 (by decide) rfl (fun c => ?_) (fun c => ?_)
        · have w19 := w18.1 c
          exact g_sub (L' := [(0, .ref (r 6)), (1, .int x1_4), (2, .int x2_4), (4, .int (atv 100 (σ 39) x2_4))]) [2, 3, 4, 0] rfl (b65  w19)
        · have w20 := w18.2 c
          refine g_aload_n hF d_X11_finish_49 rfl 2 rfl ?_
          refine g_get (v := .ref (r 5)) hF 1 obC_6 (by decide) m_309 rfl d_X11_finish_50 ?_
          refine g_iload_n hF d_X11_finish_53 rfl 1 rfl ?_
          refine g_iconst hF (v := 4) d_X11_finish_54 (by decide) ?_
          refine g_callVN (As := [.int (((σ 5 1) - (σ 6 7)) + x2_4), .int 4]) (rest := []) hF (fun l D cy => kt_X8_is a r w20 l D cy) (Nat.le_of_ble_eq_true rfl) mV_X8_is nm_1486 (recv_ob obC_5) rfl rfl (Nat.le_of_ble_eq_true rfl) d_X11_finish_55 (qZr (fun v55 hz55 w21 => ?_))
          refine g_if_ne hF 65 d_X11_finish_58 (by decide) rfl (fun c => ?_) (fun c => ?_)
          · have w22 := w21.1 c
            exact g_sub (L' := [(0, .ref (r 6)), (1, .int x1_4), (2, .int x2_4), (4, .int (atv 100 (σ 39) x2_4))]) [2, 3, 4, 0] rfl (b65  w22)
          · have w23 := w21.2 c
            refine g_iconst hF (v := 1) d_X11_finish_61 (by decide) ?_
            refine g_goto hF 66 d_X11_finish_62 (by decide) ?_
            exact g_sub (L' := [(0, .ref (r 6)), (1, .int x1_4), (2, .int x2_4), (4, .int (atv 100 (σ 39) x2_4))]) [2, 3, 4, 0] rfl (b66 (1 : Int32) (Or.inr rfl) w23)
  exact g_sub (L' := [(0, .ref (r 6)), (1, .int (-1)), (2, .int 0)]) [2, 1, 0] rfl (b4 i4 ((-1) : Int32) (0 : Int32) u4)
set_option maxHeartbeats 4000000 in
set_option maxRecDepth 100000 in
theorem kt_X0_cut (a : Nat → Nat) (r : Nat → Nat) {a1 : Int32} {σ : St} {Q : St → Prop} (w : wk_X0_cut a1 σ Q) (l : Launch) (D : va_G) (cy : Nat → ClassId) : Ct l D cy SC r (EC a gC) y_X0_cut (Cond.code y_X0_cut b_X0_cut 2 none) 1 [.ref (r 4), .int a1] σ Z0 [] (QV Q) QT0 := by
  unfold wk_X0_cut at w
  refine Ct_of (EC_ok a gC) (by decide) (Nat.le_of_ble_eq_true rfl) (by decide) (fun X hnn hF => ?_)
  show G SC r X σ Z0 [] [(0, .ref (r 4)), (1, .int a1)] [] 0
  refine g_aload_n hF d_X0_cut_0 rfl 0 rfl ?_
  refine g_iload_n hF d_X0_cut_1 rfl 1 rfl ?_
  refine g_aload_n hF d_X0_cut_2 rfl 0 rfl ?_
  refine g_get (v := .int (σ 4 1)) hF 1 obC_4 (by decide) m_152 rfl d_X0_cut_3 ?_
  refine g_mmin hF (Nat.le_of_ble_eq_true rfl) m_1241 m_1087 m_23 m_1088 (Nat.le_of_ble_eq_true rfl) d_X0_cut_6 ?_
  refine g_put (v := (if (σ 4 1) < a1 then (σ 4 1) else a1)) hF 1 obC_4 (by decide) m_152 rfl rfl rfl d_X0_cut_9 ?_
  exact g_vret hF rfl d_X0_cut_12 ⟨rfl, rfl, rfl, w⟩
set_option maxHeartbeats 4000000 in
set_option maxRecDepth 100000 in
theorem kt_X2_top (a : Nat → Nat) (r : Nat → Nat) {σ : St} {Q : Nat → Prop} (w : wk_X2_top  σ Q) (l : Launch) (D : va_G) (cy : Nat → ClassId) : Ct l D cy SC r (EC a gC) y_X2_top (Cond.code y_X2_top b_X2_top 1 (some (.object "LinkedUnits$Operand"))) 0 [.ref (r 7)] σ Z0 [] (QA r (fun q σ9 => isOp q ∧ σ9 = σ ∧ Q q)) QT0 := by
  unfold wk_X2_top at w
  refine Ct_of (EC_ok a gC) (by decide) (Nat.le_of_ble_eq_true rfl) (by decide) (fun X hnn hF => ?_)
  show G SC r X σ Z0 [] [(0, .ref (r 7))] [] 0
  refine g_aload_n hF d_X2_top_0 rfl 0 rfl ?_
  refine g_get (v := .int (σ 7 7)) hF 7 obC_7 (by decide) m_464 rfl d_X2_top_1 ?_
  refine g_if_le hF 33 d_X2_top_4 (by decide) rfl (fun c => ?_) (fun c => ?_)
  · have w1 := w.1 c
    refine g_aload_n hF d_X2_top_33 rfl 0 rfl ?_
    refine g_get (v := .ref (r 47)) hF 6 obC_7 (by decide) m_463 rfl d_X2_top_34 ?_
    exact g_aret hF rfl d_X2_top_37 ⟨rfl, rfl, 47, rfl, (Or.inl rfl), ⟨rfl, w1⟩⟩
  · have w2 := w.2 c
    refine g_aload_n hF d_X2_top_7 rfl 0 rfl ?_
    refine g_get (v := .int (σ 7 7)) hF 7 obC_7 (by decide) m_464 rfl d_X2_top_8 ?_
    refine g_aload_n hF d_X2_top_11 rfl 0 rfl ?_
    refine g_get (v := .ref (r 46)) hF 5 obC_7 (by decide) m_462 rfl d_X2_top_12 ?_
    refine g_alenR hF (by decide) rfl (v := 500) (by decide) d_X2_top_15 ?_
    refine g_icmp_gt (yv := 500) hF 33 d_X2_top_16 (by decide) rfl (by decide) (fun c => ?_) (fun c => ?_)
    · have w3 := w2.1 c
      refine g_aload_n hF d_X2_top_33 rfl 0 rfl ?_
      refine g_get (v := .ref (r 47)) hF 6 obC_7 (by decide) m_463 rfl d_X2_top_34 ?_
      exact g_aret hF rfl d_X2_top_37 ⟨rfl, rfl, 47, rfl, (Or.inl rfl), ⟨rfl, w3⟩⟩
    · have w4 := w2.2 c
      refine g_aload_n hF d_X2_top_19 rfl 0 rfl ?_
      refine g_get (v := .ref (r 46)) hF 5 obC_7 (by decide) m_462 rfl d_X2_top_20 ?_
      refine g_aload_n hF d_X2_top_23 rfl 0 rfl ?_
      refine g_get (v := .int (σ 7 7)) hF 7 obC_7 (by decide) m_464 rfl d_X2_top_24 ?_
      refine g_iconst hF (v := 1) d_X2_top_27 (by decide) ?_
      refine g_isub hF d_X2_top_28 ?_
      have w5 := w4.2
      refine g_aald hF (by decide) rfl (s_in (Nat.le_of_ble_eq_true rfl) w4.1.1 w4.1.2) d_X2_top_29 ?_
      refine g_goto hF 37 d_X2_top_30 (by decide) ?_
      exact g_aret hF rfl d_X2_top_37 ⟨rfl, rfl, (65 + ((σ 7 7) - (1 : Int32)).toNatClampNeg), rfl, (isOp_row w4.1), ⟨rfl, w5⟩⟩
set_option maxHeartbeats 4000000 in
set_option maxRecDepth 100000 in
theorem kt_X6_isConstant (a : Nat → Nat) (r : Nat → Nat) {a0 : Nat} {σ : St} {Q : Int32 → Prop} (ha0 : isOp a0) (w : wk_X6_isConstant a0 σ Q) (l : Launch) (D : va_G) (cy : Nat → ClassId) : Ct l D cy SC r (EC a gC) y_X6_isConstant (Cond.code y_X6_isConstant b_X6_isConstant 1 (some .boolean)) 0 [.ref (r a0)] σ Z0 [] (QI (fun x σ9 => (x = 0 ∨ x = 1) ∧ σ9 = σ ∧ Q x)) QT0 := by
  unfold wk_X6_isConstant at w
  refine Ct_of (EC_ok a gC) (by decide) (Nat.le_of_ble_eq_true rfl) (by decide) (fun X hnn hF => ?_)
  show G SC r X σ Z0 [] [(0, .ref (r a0))] [] 0
  refine g_aload_n hF d_X6_isConstant_0 rfl 0 rfl ?_
  refine g_get (v := .int (σ a0 6)) hF 6 (obC_op ha0) (by decide) m_411 (fval_op ha0) d_X6_isConstant_1 ?_
  refine g_iconst hF (v := 1) d_X6_isConstant_4 (by decide) ?_
  refine g_icmp_ne (yv := 1) hF 12 d_X6_isConstant_5 (by decide) rfl (by decide) (fun c => ?_) (fun c => ?_)
  · have w1 := w.1 c
    refine g_iconst hF (v := 0) d_X6_isConstant_12 (by decide) ?_
    exact g_zret hF rfl (k_nz (Or.inl rfl)) d_X6_isConstant_13 ⟨rfl, rfl, (0 : Int32), rfl, (Or.inl rfl), ⟨rfl, w1⟩⟩
  · have w2 := w.2 c
    refine g_iconst hF (v := 1) d_X6_isConstant_8 (by decide) ?_
    refine g_goto hF 13 d_X6_isConstant_9 (by decide) ?_
    exact g_zret hF rfl (k_nz (Or.inr rfl)) d_X6_isConstant_13 ⟨rfl, rfl, (1 : Int32), rfl, (Or.inr rfl), ⟨rfl, w2⟩⟩
set_option maxHeartbeats 4000000 in
set_option maxRecDepth 100000 in
theorem kt_X6_reset (a : Nat → Nat) (r : Nat → Nat) {a0 : Nat} {a1 : Int32} {σ : St} {Q : St → Prop} (ha0 : isOp a0) (w : wk_X6_reset a0 a1 σ Q) (l : Launch) (D : va_G) (cy : Nat → ClassId) : Ct l D cy SC r (EC a gC) y_X6_reset (Cond.code y_X6_reset b_X6_reset 2 none) 0 [.ref (r a0), .int a1] σ Z0 [] (QV Q) QT0 := by
  unfold wk_X6_reset at w
  refine Ct_of (EC_ok a gC) (by decide) (Nat.le_of_ble_eq_true rfl) (by decide) (fun X hnn hF => ?_)
  show G SC r X σ Z0 [] [(0, .ref (r a0)), (1, .int a1)] [] 0
  refine g_aload_n hF d_X6_reset_0 rfl 0 rfl ?_
  refine g_iconst hF (v := 0) d_X6_reset_1 (by decide) ?_
  refine g_put (v := 0) hF 0 (obC_op ha0) (by decide) m_398 rfl rfl (rf_op ha0) d_X6_reset_2 ?_
  obtain ⟨s0n, es0n⟩ : ∃ z, z = upC σ a0 0 (0 : Int32) := ⟨_, rfl⟩
  rw [← es0n]
  have w2 := w s0n es0n
  refine g_aload_n hF d_X6_reset_5 rfl 0 rfl ?_
  refine g_iconst hF (v := 0) d_X6_reset_6 (by decide) ?_
  refine g_put (v := 0) hF 1 (obC_op ha0) (by decide) m_400 rfl rfl (rf_op ha0) d_X6_reset_7 ?_
  obtain ⟨s2n, es2n⟩ : ∃ z, z = upC s0n a0 1 (0 : Int32) := ⟨_, rfl⟩
  rw [← es2n]
  have w4 := w2 s2n es2n
  refine g_aload_n hF d_X6_reset_10 rfl 0 rfl ?_
  refine g_iconst hF (v := 1) d_X6_reset_11 (by decide) ?_
  refine g_put (v := 1) hF 2 (obC_op ha0) (by decide) m_403 rfl rfl (rf_op ha0) d_X6_reset_12 ?_
  obtain ⟨s4n, es4n⟩ : ∃ z, z = upC s2n a0 2 (1 : Int32) := ⟨_, rfl⟩
  rw [← es4n]
  have w6 := w4 s4n es4n
  refine g_aload_n hF d_X6_reset_15 rfl 0 rfl ?_
  refine g_iconst hF (v := 0) d_X6_reset_16 (by decide) ?_
  refine g_putZ (v := 0) hF 3 (obC_op ha0) (by decide) m_405 rfl rfl (rf_op ha0) (Or.inl rfl) d_X6_reset_17 ?_
  obtain ⟨s6n, es6n⟩ : ∃ z, z = upC s4n a0 3 (0 : Int32) := ⟨_, rfl⟩
  rw [← es6n]
  have w8 := w6 s6n es6n
  refine g_aload_n hF d_X6_reset_20 rfl 0 rfl ?_
  refine g_iconst hF (v := (-1)) d_X6_reset_21 (by decide) ?_
  refine g_put (v := (-1)) hF 4 (obC_op ha0) (by decide) m_407 rfl rfl (rf_op ha0) d_X6_reset_22 ?_
  obtain ⟨s8n, es8n⟩ : ∃ z, z = upC s6n a0 4 ((-1) : Int32) := ⟨_, rfl⟩
  rw [← es8n]
  have w10 := w8 s8n es8n
  refine g_aload_n hF d_X6_reset_25 rfl 0 rfl ?_
  refine g_iconst hF (v := 0) d_X6_reset_26 (by decide) ?_
  refine g_put (v := 0) hF 5 (obC_op ha0) (by decide) m_409 rfl rfl (rf_op ha0) d_X6_reset_27 ?_
  obtain ⟨s10n, es10n⟩ : ∃ z, z = upC s8n a0 5 (0 : Int32) := ⟨_, rfl⟩
  rw [← es10n]
  have w12 := w10 s10n es10n
  refine g_aload_n hF d_X6_reset_30 rfl 0 rfl ?_
  refine g_iconst hF (v := 0) d_X6_reset_31 (by decide) ?_
  refine g_put (v := 0) hF 6 (obC_op ha0) (by decide) m_411 rfl rfl (rf_op ha0) d_X6_reset_32 ?_
  obtain ⟨s12n, es12n⟩ : ∃ z, z = upC s10n a0 6 (0 : Int32) := ⟨_, rfl⟩
  rw [← es12n]
  have w14 := w12 s12n es12n
  refine g_aload_n hF d_X6_reset_35 rfl 0 rfl ?_
  refine g_bipush hF (v := (-2)) d_X6_reset_36 (by decide) ?_
  refine g_put (v := (-2)) hF 7 (obC_op ha0) (by decide) m_413 rfl rfl (rf_op ha0) d_X6_reset_38 ?_
  obtain ⟨s14n, es14n⟩ : ∃ z, z = upC s12n a0 7 ((-2) : Int32) := ⟨_, rfl⟩
  rw [← es14n]
  have w16 := w14 s14n es14n
  refine g_aload_n hF d_X6_reset_41 rfl 0 rfl ?_
  refine g_iconst hF (v := 0) d_X6_reset_42 (by decide) ?_
  refine g_put (v := 0) hF 8 (obC_op ha0) (by decide) m_416 rfl rfl (rf_op ha0) d_X6_reset_43 ?_
  obtain ⟨s16n, es16n⟩ : ∃ z, z = upC s14n a0 8 (0 : Int32) := ⟨_, rfl⟩
  rw [← es16n]
  have w18 := w16 s16n es16n
  refine g_aload_n hF d_X6_reset_46 rfl 0 rfl ?_
  refine g_iload_n hF d_X6_reset_47 rfl 1 rfl ?_
  refine g_put (v := a1) hF 9 (obC_op ha0) (by decide) m_420 rfl rfl (rf_op ha0) d_X6_reset_48 ?_
  obtain ⟨s18n, es18n⟩ : ∃ z, z = upC s16n a0 9 a1 := ⟨_, rfl⟩
  rw [← es18n]
  have w20 := w18 s18n es18n
  refine g_aload_n hF d_X6_reset_51 rfl 0 rfl ?_
  refine g_iconst hF (v := (-1)) d_X6_reset_52 (by decide) ?_
  refine g_put (v := (-1)) hF 10 (obC_op ha0) (by decide) m_423 rfl rfl (rf_op ha0) d_X6_reset_53 ?_
  obtain ⟨s20n, es20n⟩ : ∃ z, z = upC s18n a0 10 ((-1) : Int32) := ⟨_, rfl⟩
  rw [← es20n]
  have w22 := w20 s20n es20n
  refine g_aload_n hF d_X6_reset_56 rfl 0 rfl ?_
  refine g_iconst hF (v := 0) d_X6_reset_57 (by decide) ?_
  refine g_put (v := 0) hF 11 (obC_op ha0) (by decide) m_425 rfl rfl (rf_op ha0) d_X6_reset_58 ?_
  obtain ⟨s22n, es22n⟩ : ∃ z, z = upC s20n a0 11 (0 : Int32) := ⟨_, rfl⟩
  rw [← es22n]
  have w24 := w22 s22n es22n
  refine g_aload_n hF d_X6_reset_61 rfl 0 rfl ?_
  refine g_iconst hF (v := 0) d_X6_reset_62 (by decide) ?_
  refine g_putZ (v := 0) hF 12 (obC_op ha0) (by decide) m_427 rfl rfl (rf_op ha0) (Or.inl rfl) d_X6_reset_63 ?_
  obtain ⟨s24n, es24n⟩ : ∃ z, z = upC s22n a0 12 (0 : Int32) := ⟨_, rfl⟩
  rw [← es24n]
  have w26 := w24 s24n es24n
  exact g_vret hF rfl d_X6_reset_66 ⟨rfl, rfl, rfl, w26⟩
set_option maxHeartbeats 4000000 in
set_option maxRecDepth 100000 in
theorem kt_X2_push (a : Nat → Nat) (r : Nat → Nat) {σ : St} {Q : Nat → St → Prop} (w : wk_X2_push  σ Q) (l : Launch) (D : va_G) (cy : Nat → ClassId) : Ct l D cy SC r (EC a gC) y_X2_push (Cond.code y_X2_push b_X2_push 2 (some (.object "LinkedUnits$Operand"))) 1 [.ref (r 7)] σ Z0 [] (QA r (fun q σ9 => isOp q ∧ Q q σ9)) QT0 := by
  unfold wk_X2_push at w
  refine Ct_of (EC_ok a gC) (by decide) (Nat.le_of_ble_eq_true rfl) (by decide) (fun X hnn hF => ?_)
  show G SC r X σ Z0 [] [(0, .ref (r 7))] [] 0
  refine g_aload_n hF d_X2_push_0 rfl 0 rfl ?_
  refine g_get (v := .int (σ 7 7)) hF 7 obC_7 (by decide) m_464 rfl d_X2_push_1 ?_
  obtain ⟨J35, h35, w1⟩ := w
  have b35 : ∀ (y0_35 : Nat), isOp y0_35 → J35 y0_35 → G SC r X σ Z0 [] [(0, .ref (r 7))] [.ref (r y0_35)] 35 := by
    intro y0_35 hy0_35 w35_
    have w35_ := h35 y0_35 hy0_35 w35_
    refine g_astore_n hF [(1, .ref (r y0_35)), (0, .ref (r 7))] d_X2_push_35 rfl hnn (by decide) rfl ?_
    refine g_aload_n hF d_X2_push_36 rfl 0 rfl ?_
    refine g_aload_n hF d_X2_push_37 rfl 1 rfl ?_
    refine g_get (v := .ref (r 4)) hF 4 obC_7 (by decide) m_461 rfl d_X2_push_38 ?_
    refine g_getN (v := .int (σ 4 1)) hF 1 obC_4 (by decide) nm_155 rfl d_X2_push_41 ?_
    refine g_callVN (As := [.int (σ 4 1)]) (rest := []) hF (fun l D cy => kt_X6_reset a r hy0_35 w35_ l D cy) (Nat.le_of_ble_eq_true rfl) mV_X6_reset nm_1067 (recv_ob (obC_op hy0_35)) rfl rfl (Nat.le_of_ble_eq_true rfl) d_X2_push_44 (qV (fun s44 w2 => ?_))
    refine g_aload_n hF d_X2_push_47 rfl 1 rfl ?_
    refine g_dup hF d_X2_push_48 rfl ?_
    refine g_get (v := .int (s44 7 7)) hF 7 obC_7 (by decide) m_464 rfl d_X2_push_49 ?_
    refine g_iconst hF (v := 1) d_X2_push_52 (by decide) ?_
    refine g_iadd hF d_X2_push_53 ?_
    refine g_put (v := ((s44 7 7) + (1 : Int32))) hF 7 obC_7 (by decide) m_464 rfl rfl rfl d_X2_push_54 ?_
    refine g_aload_n hF d_X2_push_57 rfl 0 rfl ?_
    exact g_aret hF rfl d_X2_push_58 ⟨rfl, rfl, y0_35, rfl, hy0_35, w2⟩
  obtain ⟨J31, h31, w3⟩ := w1
  have b31 : J31  → G SC r X σ Z0 [] [(0, .ref (r 7))] [] 31 := by
    intro   w31_
    have w31_ := h31   w31_
    refine g_aload_n hF d_X2_push_31 rfl 0 rfl ?_
    refine g_get (v := .ref (r 47)) hF 6 obC_7 (by decide) m_463 rfl d_X2_push_32 ?_
    exact b35 47 (Or.inl rfl) w31_
  refine g_if_lt hF 31 d_X2_push_4 (by decide) rfl (fun c => ?_) (fun c => ?_)
  · have w4 := w3.1 c
    exact b31  w4
  · have w5 := w3.2 c
    refine g_aload_n hF d_X2_push_7 rfl 0 rfl ?_
    refine g_get (v := .int (σ 7 7)) hF 7 obC_7 (by decide) m_464 rfl d_X2_push_8 ?_
    refine g_aload_n hF d_X2_push_11 rfl 0 rfl ?_
    refine g_get (v := .ref (r 46)) hF 5 obC_7 (by decide) m_462 rfl d_X2_push_12 ?_
    refine g_alenR hF (by decide) rfl (v := 500) (by decide) d_X2_push_15 ?_
    refine g_icmp_ge (yv := 500) hF 31 d_X2_push_16 (by decide) rfl (by decide) (fun c => ?_) (fun c => ?_)
    · have w6 := w5.1 c
      exact b31  w6
    · have w7 := w5.2 c
      refine g_aload_n hF d_X2_push_19 rfl 0 rfl ?_
      refine g_get (v := .ref (r 46)) hF 5 obC_7 (by decide) m_462 rfl d_X2_push_20 ?_
      refine g_aload_n hF d_X2_push_23 rfl 0 rfl ?_
      refine g_get (v := .int (σ 7 7)) hF 7 obC_7 (by decide) m_464 rfl d_X2_push_24 ?_
      have w8 := w7.2
      refine g_aald hF (by decide) rfl (s_in (Nat.le_of_ble_eq_true rfl) w7.1.1 w7.1.2) d_X2_push_27 ?_
      refine g_goto hF 35 d_X2_push_28 (by decide) ?_
      exact b35 (65 + (σ 7 7).toNatClampNeg) (isOp_row w7.1) w8
set_option maxHeartbeats 4000000 in
set_option maxRecDepth 100000 in
theorem kt_X0_emit (a : Nat → Nat) (r : Nat → Nat) {a1 : Int32} {a2 : Int32} {a3 : Int32} {a4 : Int32} {σ : St} {Q : Int32 → St → Prop} (w : wk_X0_emit a1 a2 a3 a4 σ Q) (l : Launch) (D : va_G) (cy : Nat → ClassId) : Ct l D cy SC r (EC a gC) y_X0_emit (Cond.code y_X0_emit b_X0_emit 6 (some .int)) 0 [.ref (r 4), .int a1, .int a2, .int a3, .int a4] σ Z0 [] (QI Q) QT0 := by
  unfold wk_X0_emit at w
  refine Ct_of (EC_ok a gC) (by decide) (Nat.le_of_ble_eq_true rfl) (by decide) (fun X hnn hF => ?_)
  show G SC r X σ Z0 [] [(0, .ref (r 4)), (1, .int a1), (2, .int a2), (3, .int a3), (4, .int a4)] [] 0
  refine g_aload_n hF d_X0_emit_0 rfl 0 rfl ?_
  refine g_get (v := .int (σ 4 1)) hF 1 obC_4 (by decide) m_152 rfl d_X0_emit_1 ?_
  refine g_istore hF [(5, .int (σ 4 1)), (0, .ref (r 4)), (1, .int a1), (2, .int a2), (3, .int a3), (4, .int a4)] d_X0_emit_4 hnn (by decide) rfl ?_
  refine g_iload hF d_X0_emit_6 0 rfl ?_
  refine g_if_lt hF 90 d_X0_emit_8 (by decide) rfl (fun c => ?_) (fun c => ?_)
  · have w1 := w.1 c
    refine g_iload hF d_X0_emit_90 0 rfl ?_
    exact g_iret hF rfl d_X0_emit_92 ⟨rfl, rfl, (σ 4 1), rfl, w1⟩
  · have w2 := w.2 c
    refine g_iload hF d_X0_emit_11 0 rfl ?_
    refine g_aload_n hF d_X0_emit_13 rfl 1 rfl ?_
    refine g_get (v := .ref (r 24)) hF 0 obC_4 (by decide) m_149 rfl d_X0_emit_14 ?_
    refine g_alen hF arC_24 (fun _ => ⟨1, _, rfl⟩) (v := 262208) (by decide) d_X0_emit_17 ?_
    refine g_iconst hF (v := 4) d_X0_emit_18 (by decide) ?_
    refine g_isub hF d_X0_emit_19 ?_
    refine g_top (v := 262204) (by decide) ?_
    refine g_icmp_ge (yv := 262204) hF 90 d_X0_emit_20 (by decide) rfl (by decide) (fun c => ?_) (fun c => ?_)
    · have w3 := w2.1 c
      refine g_iload hF d_X0_emit_90 0 rfl ?_
      exact g_iret hF rfl d_X0_emit_92 ⟨rfl, rfl, (σ 4 1), rfl, w3⟩
    · have w4 := w2.2 c
      refine g_aload_n hF d_X0_emit_23 rfl 1 rfl ?_
      refine g_get (v := .ref (r 24)) hF 0 obC_4 (by decide) m_149 rfl d_X0_emit_24 ?_
      refine g_iload hF d_X0_emit_27 0 rfl ?_
      refine g_iload_n hF d_X0_emit_29 rfl 2 rfl ?_
      have w5 := w4.2
      refine g_iast hF arC_24 (s_in (Nat.le_of_ble_eq_true rfl) w4.1.1 w4.1.2) d_X0_emit_30 ?_
      refine g_aload_n hF d_X0_emit_31 rfl 1 rfl ?_
      refine g_get (v := .ref (r 24)) hF 0 obC_4 (by decide) m_149 rfl d_X0_emit_32 ?_
      refine g_iload hF d_X0_emit_35 0 rfl ?_
      refine g_iconst hF (v := 1) d_X0_emit_37 (by decide) ?_
      refine g_iadd hF d_X0_emit_38 ?_
      refine g_iload_n hF d_X0_emit_39 rfl 3 rfl ?_
      have w6 := w5.2
      refine g_iast hF arC_24 (s_in (Nat.le_of_ble_eq_true rfl) w5.1.1 w5.1.2) d_X0_emit_40 ?_
      refine g_aload_n hF d_X0_emit_41 rfl 1 rfl ?_
      refine g_get (v := .ref (r 24)) hF 0 obC_4 (by decide) m_149 rfl d_X0_emit_42 ?_
      refine g_iload hF d_X0_emit_45 0 rfl ?_
      refine g_iconst hF (v := 2) d_X0_emit_47 (by decide) ?_
      refine g_iadd hF d_X0_emit_48 ?_
      refine g_iload_n hF d_X0_emit_49 rfl 4 rfl ?_
      have w7 := w6.2
      refine g_iast hF arC_24 (s_in (Nat.le_of_ble_eq_true rfl) w6.1.1 w6.1.2) d_X0_emit_50 ?_
      refine g_aload_n hF d_X0_emit_51 rfl 1 rfl ?_
      refine g_get (v := .ref (r 24)) hF 0 obC_4 (by decide) m_149 rfl d_X0_emit_52 ?_
      refine g_iload hF d_X0_emit_55 0 rfl ?_
      refine g_iconst hF (v := 3) d_X0_emit_57 (by decide) ?_
      refine g_iadd hF d_X0_emit_58 ?_
      refine g_iload hF d_X0_emit_59 5 rfl ?_
      have w8 := w7.2
      refine g_iast hF arC_24 (s_in (Nat.le_of_ble_eq_true rfl) w7.1.1 w7.1.2) d_X0_emit_61 ?_
      refine g_aload_n hF d_X0_emit_62 rfl 1 rfl ?_
      refine g_iload hF d_X0_emit_63 0 rfl ?_
      refine g_iload_n hF d_X0_emit_65 rfl 2 rfl ?_
      refine g_if_lt hF 85 d_X0_emit_66 (by decide) rfl (fun c => ?_) (fun c => ?_)
      · have w9 := w8.1 c
        refine g_iconst hF (v := 0) d_X0_emit_85 (by decide) ?_
        refine g_iadd hF d_X0_emit_86 ?_
        refine g_put (v := ((σ 4 1) + (0 : Int32))) hF 1 obC_4 (by decide) m_152 rfl rfl rfl d_X0_emit_87 ?_
        refine g_iload hF d_X0_emit_90 0 rfl ?_
        exact g_iret hF rfl d_X0_emit_92 ⟨rfl, rfl, (σ 4 1), rfl, w9⟩
      · have w10 := w8.2 c
        refine g_iload_n hF d_X0_emit_69 rfl 2 rfl ?_
        refine g_gets hF (fun A s h => EC_z1 h) m_1075 d_X0_emit_70 ?_
        refine g_tlen hF (fun A s h => EC_t1 h) (v := 61) (by decide) d_X0_emit_73 ?_
        refine g_icmp_ge (yv := 61) hF 85 d_X0_emit_74 (by decide) rfl (by decide) (fun c => ?_) (fun c => ?_)
        · have w11 := w10.1 c
          refine g_iconst hF (v := 0) d_X0_emit_85 (by decide) ?_
          refine g_iadd hF d_X0_emit_86 ?_
          refine g_put (v := ((σ 4 1) + (0 : Int32))) hF 1 obC_4 (by decide) m_152 rfl rfl rfl d_X0_emit_87 ?_
          refine g_iload hF d_X0_emit_90 0 rfl ?_
          exact g_iret hF rfl d_X0_emit_92 ⟨rfl, rfl, (σ 4 1), rfl, w11⟩
        · have w12 := w10.2 c
          refine g_gets hF (fun A s h => EC_z1 h) m_1075 d_X0_emit_77 ?_
          refine g_iload_n hF d_X0_emit_80 rfl 2 rfl ?_
          have w13 := w12.2
          refine g_ti hF (fun A s h => EC_t1 h) (s_in (Nat.le_of_ble_eq_true rfl) w12.1.1 w12.1.2) d_X0_emit_81 ?_
          refine g_top (v := (gC 1 a1.toNatClampNeg)) rfl ?_
          refine g_goto hF 86 d_X0_emit_82 (by decide) ?_
          refine g_iadd hF d_X0_emit_86 ?_
          refine g_put (v := ((σ 4 1) + (gC 1 a1.toNatClampNeg))) hF 1 obC_4 (by decide) m_152 rfl rfl rfl d_X0_emit_87 ?_
          refine g_iload hF d_X0_emit_90 0 rfl ?_
          exact g_iret hF rfl d_X0_emit_92 ⟨rfl, rfl, (σ 4 1), rfl, w13⟩
set_option maxHeartbeats 4000000 in
set_option maxRecDepth 100000 in
theorem kt_X2_number (a : Nat → Nat) (r : Nat → Nat) {a1 : Int32} {σ : St} {Q : St → Prop} (w : wk_X2_number a1 σ Q) (l : Launch) (D : va_G) (cy : Nat → ClassId) : Ct l D cy SC r (EC a gC) y_X2_number (Cond.code y_X2_number b_X2_number 3 none) 2 [.ref (r 7), .int a1] σ Z0 [] (QV Q) QT0 := by
  unfold wk_X2_number at w
  refine Ct_of (EC_ok a gC) (by decide) (Nat.le_of_ble_eq_true rfl) (by decide) (fun X hnn hF => ?_)
  show G SC r X σ Z0 [] [(0, .ref (r 7)), (1, .int a1)] [] 0
  refine g_aload_n hF d_X2_number_0 rfl 0 rfl ?_
  refine g_callV (As := []) (rest := []) hF (fun l D cy => kt_X2_push a r w l D cy) (Nat.le_of_ble_eq_true rfl) mV_X2_push m_1063 (recv_ob obC_7) rfl rfl (Nat.le_of_ble_eq_true rfl) d_X2_number_1 (qA (fun u1 s1 hz1 w1 => ?_)) (fun _ _ _ h => h.elim)
  refine g_astore_n hF [(2, .ref (r u1)), (0, .ref (r 7)), (1, .int a1)] d_X2_number_4 rfl hnn (by decide) rfl ?_
  refine g_aload_n hF d_X2_number_5 rfl 0 rfl ?_
  refine g_iconst hF (v := 1) d_X2_number_6 (by decide) ?_
  refine g_putN (v := 1) hF 6 (obC_op hz1) (by decide) nm_412 rfl rfl (rf_op hz1) d_X2_number_7 ?_
  obtain ⟨s1n, es1n⟩ : ∃ z, z = upC s1 u1 6 (1 : Int32) := ⟨_, rfl⟩
  rw [← es1n]
  have w3 := w1 s1n es1n
  refine g_aload_n hF d_X2_number_10 rfl 0 rfl ?_
  refine g_aload_n hF d_X2_number_11 rfl 1 rfl ?_
  refine g_get (v := .ref (r 2)) hF 1 obC_7 (by decide) m_457 rfl d_X2_number_12 ?_
  refine g_getN (v := .ref (r 14)) hF 6 obC_2 (by decide) nm_53 rfl d_X2_number_15 ?_
  refine g_iload_n hF d_X2_number_18 rfl 2 rfl ?_
  refine g_callSN (As := [.ref (r 14), .int a1]) (rest := [.ref (r u1)]) hF (c_atv a r s1n arC_14 (by decide) a1) (Nat.le_of_ble_eq_true rfl) mS_X12_at nm_1058 rfl rfl (Nat.le_of_ble_eq_true rfl) d_X2_number_19 (kQ ?_)
  refine g_top (v := (atv 16002 (s1n 14) a1)) rfl ?_
  refine g_putN (v := (atv 16002 (s1n 14) a1)) hF 8 (obC_op hz1) (by decide) nm_418 rfl rfl (rf_op hz1) d_X2_number_22 ?_
  obtain ⟨s3n, es3n⟩ : ∃ z, z = upC s1n u1 8 (atv 16002 (s1n 14) a1) := ⟨_, rfl⟩
  rw [← es3n]
  have w5 := w3 s3n es3n
  refine g_aload_n hF d_X2_number_25 rfl 0 rfl ?_
  refine g_aload_n hF d_X2_number_26 rfl 0 rfl ?_
  refine g_getN (v := .int (s3n u1 8)) hF 8 (obC_op hz1) (by decide) nm_418 (fval_op hz1) d_X2_number_27 ?_
  obtain ⟨J38, h38, w6⟩ := w5
  have b38 : ∀ (y1_38 : Int32), y1_38 = 0 ∨ y1_38 = 1 → J38 y1_38 → G SC r X s3n Z0 [] [(0, .ref (r 7)), (2, .ref (r u1))] [.int y1_38, .ref (r u1)] 38 := by
    intro y1_38 hy1_38 w38_
    have w38_ := h38 y1_38 hy1_38 w38_
    refine g_putZN (v := y1_38) hF 3 (obC_op hz1) (by decide) nm_406 rfl rfl (rf_op hz1) hy1_38 d_X2_number_38 ?_
    obtain ⟨s6n, es6n⟩ : ∃ z, z = upC s3n u1 3 y1_38 := ⟨_, rfl⟩
    rw [← es6n]
    have w8 := w38_ s6n es6n
    refine g_aload_n hF d_X2_number_41 rfl 0 rfl ?_
    refine g_get (v := .ref (r 4)) hF 4 obC_7 (by decide) m_461 rfl d_X2_number_42 ?_
    refine g_iconst hF (v := 1) d_X2_number_45 (by decide) ?_
    refine g_aload_n hF d_X2_number_46 rfl 1 rfl ?_
    refine g_getN (v := .int (s6n u1 8)) hF 8 (obC_op hz1) (by decide) nm_418 (fval_op hz1) d_X2_number_47 ?_
    refine g_iconst hF (v := 0) d_X2_number_50 (by decide) ?_
    refine g_iconst hF (v := 0) d_X2_number_51 (by decide) ?_
    refine g_callVN (As := [.int 1, .int (s6n u1 8), .int 0, .int 0]) (rest := []) hF (fun l D cy => kt_X0_emit a r w8 l D cy) (Nat.le_of_ble_eq_true rfl) mV_X0_emit nm_1071 (recv_ob obC_4) rfl rfl (Nat.le_of_ble_eq_true rfl) d_X2_number_52 (qI (fun v52 s52 w9 => ?_))
    refine g_pop hF d_X2_number_55 rfl ?_
    exact g_vret hF rfl d_X2_number_56 ⟨rfl, rfl, rfl, w9⟩
  refine g_if_ne hF 37 d_X2_number_30 (by decide) rfl (fun c => ?_) (fun c => ?_)
  · have w10 := w6.1 c
    refine g_iconst hF (v := 0) d_X2_number_37 (by decide) ?_
    exact g_sub (L' := [(0, .ref (r 7)), (2, .ref (r u1))]) [1, 0] rfl (b38 (0 : Int32) (Or.inl rfl) w10)
  · have w11 := w6.2 c
    refine g_iconst hF (v := 1) d_X2_number_33 (by decide) ?_
    refine g_goto hF 38 d_X2_number_34 (by decide) ?_
    exact g_sub (L' := [(0, .ref (r 7)), (2, .ref (r u1))]) [1, 0] rfl (b38 (1 : Int32) (Or.inr rfl) w11)
