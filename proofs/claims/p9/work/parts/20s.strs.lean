/-! String.length, charAt on a constant text -/
def QS (σ τ : St) (vs : List Nat) (P : Option Value → Prop) : QR := fun v σ' τ' vs' => σ' = σ ∧ τ' = τ ∧ vs' = vs ∧ P v
def sE (own : String) (k : Nat) (tx : String) (N : Nat) (sa sv : Nat) (f : Nat → Int32) (A : Nat → Prop) (U : State) : Prop :=
  vk_R own k tx sa U ∧ va_O "java/lang/String" sa A U U.heap ∧ va_OF "java/lang/String" "coder" "B" (.int 0) sa A U U.heap ∧ va_OF "java/lang/String" "value" "[B" (.ref sv) sa A U U.heap ∧ va_T .byte sv N (fun j => .int (f j)) A U U.heap ∧ va_Z "java/lang/String" "COMPACT_STRINGS" "Z" (.int 1) A U U.heap ∧ va_Zq "jdk/internal/util/Preconditions" "SIOOBE_FORMATTER" "Ljava/util/function/BiFunction;" A U U.heap
theorem sE_ok (own : String) (k : Nat) (tx : String) (N : Nat) (sa sv : Nat) (f : Nat → Int32) : EnvOK (sE own k tx N sa sv f) := by
  intro A B s U hW hq hAB h
  obtain ⟨h1, h2, h3, h4, h5, h6, h7⟩ := h
  exact ⟨vk_R.warm hW h1, (va_O.moved hW.alike (h2.kept hq)).narrow hAB, (va_OF.moved hW.alike (h3.kept hq)).narrow hAB, (va_OF.moved hW.alike (h4.kept hq)).narrow hAB, (va_T.moved hW.alike (h5.kept hq)).narrow hAB, (va_Z.moved hW.alike (h6.kept hq)).narrow hAB, (va_Zq.moved hW.alike (h7.kept hq)).narrow hAB⟩
section GS
variable {S : Sh} {r : Nat → Nat} {E : (Nat → Prop) → State → Prop} {σ τ : St} {vs : List Nat} {own : String} {kk N sa sv : Nat} {tx : String} {f : Nat → Int32}
theorem g_i2c {X : Cx} {ex : List ExceptionTableEntry} {cc : ByteArray} {own : String} {ret : Option FieldType} {d : Nat} {Qr : QR} {Qt : QT} {L : List (Nat × Value)} {rest : List Value} {pc : Nat} (hF : Fx S r X ex cc own ret d Qr Qt E) {x : Int32} (hd : decode cc pc = .ok (.i2c, 1)) (k : G S r X σ τ vs L (.int ((x.toUInt32 % 65536).toInt32) :: rest) (pc + 1)) : G S r X σ τ vs L (.int x :: rest) pc := by
  obtain ⟨p, l, e, R, s, m, args, below, meth, c, A, D, cy, Q, nL, n0⟩ := X
  obtain ⟨hx, hb, hml, hown, hret, hlk, hR, hQ, hg, hNW, hK, hA, hE, hEo, hex⟩ := hF
  intro H locs ls hP hD hS hl h1 h2
  exact lv_i2c hx hb hd rfl (k H locs ls hP hD hS hl h1 h2)
theorem recv_str (h : ∀ A s, E A s → sE own kk tx N sa sv f A s) : Recv S r E vs "java/lang/String" sa := fun D cy A s H locs σ τ _ _ hS hE => by
  obtain ⟨cell, h1, h2, h3, -⟩ := (h A s hE).2.1.kept hS.2.1
  exact ⟨cell, h1, h2, h3⟩
theorem t_pci (hEo : EnvOK E) (hcap : vs.length ≤ CAP) (k n : Int32) (v3 : Value) (h3 : v3.category = 1) (h0 : 0 ≤ k.toInt) (h1 : k.toInt < n.toInt) (l : Launch) (D : va_G) (cy : Nat → ClassId) : Ct l D cy S r E y_Preconditions_checkIndex (Cond.code y_Preconditions_checkIndex b_Preconditions_checkIndex 3 (some .int)) 0 [.int k, .int n, v3] σ τ vs (QS σ τ vs (fun v => v = some (.int k))) (fun _ _ _ => False) := by
  refine Ct_of hEo (by decide) ?_ hcap (fun X hnn hF => ?_)
  · cases v3 <;> first | exact Nat.le_of_ble_eq_true rfl | (cases h3)
  have e9 : lv_args 0 [.int k, .int n, v3] = [(0, .int k), (1, .int n), (2, v3)] := by
    cases v3 <;> first | rfl | (cases h3)
  rw [e9]
  refine g_iload_n hF d_Preconditions_checkIndex_0 rfl 0 rfl ?_
  refine g_if_lt hF 9 d_Preconditions_checkIndex_1 (by decide) rfl (fun c => absurd c (by omega)) (fun c => ?_)
  refine g_iload_n hF d_Preconditions_checkIndex_4 rfl 0 rfl ?_
  refine g_iload_n hF d_Preconditions_checkIndex_5 rfl 1 rfl ?_
  refine g_icmp_lt hF 16 d_Preconditions_checkIndex_6 (by decide) rfl rfl (fun c => ?_) (fun c => absurd h1 (by omega))
  refine g_iload_n hF d_Preconditions_checkIndex_16 rfl 0 rfl ?_
  exact g_iret hF rfl d_Preconditions_checkIndex_17 ⟨rfl, rfl, rfl, rfl⟩
theorem t_sci (hEo : EnvOK E) (hE : ∀ A s, E A s → sE own kk tx N sa sv f A s) (hcap : vs.length ≤ CAP) (k n : Int32) (h0 : 0 ≤ k.toInt) (h1 : k.toInt < n.toInt) (l : Launch) (D : va_G) (cy : Nat → ClassId) : Ct l D cy S r E y_String_checkIndex (Cond.code y_String_checkIndex b_String_checkIndex 2 none) 1 [.int k, .int n] σ τ vs (QS σ τ vs (fun v => v = none)) (fun _ _ _ => False) := by
  refine Ct_of hEo (by decide) (Nat.le_of_ble_eq_true rfl) hcap (fun X hnn hF => ?_)
  show G S r X σ τ vs [(0, .int k), (1, .int n)] [] 0
  refine g_iload_n hF d_String_checkIndex_0 rfl 0 rfl ?_
  refine g_iload_n hF d_String_checkIndex_1 rfl 1 rfl ?_
  refine g_getsq hF (fun A s h => (hE A s h).2.2.2.2.2.2) m_195 d_String_checkIndex_2 (fun v3 h3 => ?_)
  refine g_callS (As := [.int k, .int n, v3]) (rest := []) hF (t_pci hEo hcap k n v3 h3 h0 h1) (Nat.le_of_ble_eq_true rfl) mS_Preconditions_checkIndex m_197 rfl rfl (Nat.le_of_ble_eq_true rfl) d_String_checkIndex_5 ?_ (fun _ _ _ h => h.elim)
  rintro v σ' τ' vs' ⟨rfl, rfl, rfl, rfl⟩
  refine g_pop hF d_String_checkIndex_8 rfl ?_
  exact g_vret hF rfl d_String_checkIndex_9 ⟨rfl, rfl, rfl, rfl⟩
theorem t_lch (hEo : EnvOK E) (hE : ∀ A s, E A s → sE own kk tx N sa sv f A s) (hcap : vs.length ≤ CAP) (hN : N < 2 ^ 31) (k : Int32) (h0 : 0 ≤ k.toInt) (h1 : k.toInt < N) (l : Launch) (D : va_G) (cy : Nat → ClassId) : Ct l D cy S r E y_StringLatin1_charAt (Cond.code y_StringLatin1_charAt b_StringLatin1_charAt 2 (some .char)) 2 [.ref sv, .int k] σ τ vs (QS σ τ vs (fun v => ∃ x : Int32, v = some (.int x) ∧ narrow .char (.int x) = .int x)) (fun _ _ _ => False) := by
  refine Ct_of hEo (by decide) (Nat.le_of_ble_eq_true rfl) hcap (fun X hnn hF => ?_)
  show G S r X σ τ vs [(0, .ref sv), (1, .int k)] [] 0
  refine g_iload_n hF d_StringLatin1_charAt_0 rfl 1 rfl ?_
  refine g_aload_n hF d_StringLatin1_charAt_1 rfl 0 rfl ?_
  refine g_tlen hF (fun A s h => (hE A s h).2.2.2.2.1) (v := nI N) rfl d_StringLatin1_charAt_2 ?_
  refine g_callS (As := [.int k, .int (nI N)]) (rest := []) hF (t_sci hEo hE hcap k (nI N) h0 (by rw [nI_toInt hN]; exact h1)) (Nat.le_of_ble_eq_true rfl) mS_String_checkIndex m_192 rfl rfl (Nat.le_of_ble_eq_true rfl) d_StringLatin1_charAt_3 ?_ (fun _ _ _ h => h.elim)
  rintro v σ' τ' vs' ⟨rfl, rfl, rfl, rfl⟩
  refine g_aload_n hF d_StringLatin1_charAt_6 rfl 0 rfl ?_
  refine g_iload_n hF d_StringLatin1_charAt_7 rfl 1 rfl ?_
  refine g_tb hF (fun A s h => (hE A s h).2.2.2.2.1) (s_in hN h0 h1) d_StringLatin1_charAt_8 ?_
  refine g_sipush hF (v := 255) d_StringLatin1_charAt_9 (by decide) ?_
  refine g_iand hF d_StringLatin1_charAt_12 ?_
  refine g_i2c hF d_StringLatin1_charAt_13 ?_
  exact g_zret hF rfl (pk_nc _) d_StringLatin1_charAt_14 ⟨rfl, rfl, rfl, _, rfl, pk_nc _⟩
theorem t_coder (hEo : EnvOK E) (hE : ∀ A s, E A s → sE own kk tx N sa sv f A s) (hcap : vs.length ≤ CAP) (l : Launch) (D : va_G) (cy : Nat → ClassId) : Ct l D cy S r E y_String_coder (Cond.code y_String_coder b_String_coder 1 (some .byte)) 0 [.ref sa] σ τ vs (QS σ τ vs (fun v => v = some (.int 0))) (fun _ _ _ => False) := by
  refine Ct_of hEo (by decide) (Nat.le_of_ble_eq_true rfl) hcap (fun X hnn hF => ?_)
  show G S r X σ τ vs [(0, .ref sa)] [] 0
  refine g_gets hF (fun A s h => (hE A s h).2.2.2.2.2.1) m_179 d_String_coder_0 ?_
  refine g_if_eq (xv := 1) hF 13 d_String_coder_3 (by decide) (by decide) (fun c => absurd c (by decide)) (fun _ => ?_)
  refine g_aload_n hF d_String_coder_6 rfl 0 rfl ?_
  refine g_envf hF (fun A s h => (hE A s h).2.2.1) m_2842 d_String_coder_7 ?_
  refine g_goto hF 14 d_String_coder_10 (by decide) ?_
  exact g_zret hF rfl rfl d_String_coder_14 ⟨rfl, rfl, rfl, rfl⟩
theorem t_lat (hEo : EnvOK E) (hE : ∀ A s, E A s → sE own kk tx N sa sv f A s) (hcap : vs.length ≤ CAP) (l : Launch) (D : va_G) (cy : Nat → ClassId) : Ct l D cy S r E y_String_isLatin1 (Cond.code y_String_isLatin1 b_String_isLatin1 1 (some .boolean)) 0 [.ref sa] σ τ vs (QS σ τ vs (fun v => v = some (.int 1))) (fun _ _ _ => False) := by
  refine Ct_of hEo (by decide) (Nat.le_of_ble_eq_true rfl) hcap (fun X hnn hF => ?_)
  show G S r X σ τ vs [(0, .ref sa)] [] 0
  refine g_gets hF (fun A s h => (hE A s h).2.2.2.2.2.1) m_179 d_String_isLatin1_0 ?_
  refine g_if_eq (xv := 1) hF 17 d_String_isLatin1_3 (by decide) (by decide) (fun c => absurd c (by decide)) (fun _ => ?_)
  refine g_aload_n hF d_String_isLatin1_6 rfl 0 rfl ?_
  refine g_envf hF (fun A s h => (hE A s h).2.2.1) m_2842 d_String_isLatin1_7 ?_
  refine g_if_ne (xv := 0) hF 17 d_String_isLatin1_10 (by decide) (by decide) (fun c => absurd c (by decide)) (fun _ => ?_)
  refine g_iconst hF (v := 1) d_String_isLatin1_13 (by decide) ?_
  refine g_goto hF 18 d_String_isLatin1_14 (by decide) ?_
  exact g_zret hF rfl rfl d_String_isLatin1_18 ⟨rfl, rfl, rfl, rfl⟩
theorem t_len (hEo : EnvOK E) (hE : ∀ A s, E A s → sE own kk tx N sa sv f A s) (hcap : vs.length ≤ CAP) (l : Launch) (D : va_G) (cy : Nat → ClassId) : Ct l D cy S r E y_String_length (Cond.code y_String_length b_String_length 1 (some .int)) 1 [.ref sa] σ τ vs (QS σ τ vs (fun v => v = some (.int (nI N)))) (fun _ _ _ => False) := by
  refine Ct_of hEo (by decide) (Nat.le_of_ble_eq_true rfl) hcap (fun X hnn hF => ?_)
  show G S r X σ τ vs [(0, .ref sa)] [] 0
  refine g_aload_n hF d_String_length_0 rfl 0 rfl ?_
  refine g_envf hF (fun A s h => (hE A s h).2.2.2.1) m_2841 d_String_length_1 ?_
  refine g_tlen hF (fun A s h => (hE A s h).2.2.2.2.1) (v := nI N) rfl d_String_length_4 ?_
  refine g_aload_n hF d_String_length_5 rfl 0 rfl ?_
  refine g_callV (As := []) (rest := [.int (nI N)]) hF (t_coder hEo hE hcap) (Nat.le_of_ble_eq_true rfl) mV_String_coder m_175 (recv_str hE) rfl rfl (Nat.le_of_ble_eq_true rfl) d_String_length_6 ?_ (fun _ _ _ h => h.elim)
  rintro v σ' τ' vs' ⟨rfl, rfl, rfl, rfl⟩
  refine g_ishr hF d_String_length_9 ?_
  refine g_top (v := nI N) (s_shr0 _) ?_
  exact g_iret hF rfl d_String_length_10 ⟨rfl, rfl, rfl, rfl⟩
theorem t_ch (hEo : EnvOK E) (hE : ∀ A s, E A s → sE own kk tx N sa sv f A s) (hcap : vs.length ≤ CAP) (hN : N < 2 ^ 31) (k : Int32) (h0 : 0 ≤ k.toInt) (h1 : k.toInt < N) (l : Launch) (D : va_G) (cy : Nat → ClassId) : Ct l D cy S r E y_String_charAt (Cond.code y_String_charAt b_String_charAt 2 (some .char)) 3 [.ref sa, .int k] σ τ vs (QS σ τ vs (fun v => ∃ x : Int32, v = some (.int x))) (fun _ _ _ => False) := by
  refine Ct_of hEo (by decide) (Nat.le_of_ble_eq_true rfl) hcap (fun X hnn hF => ?_)
  show G S r X σ τ vs [(0, .ref sa), (1, .int k)] [] 0
  refine g_aload_n hF d_String_charAt_0 rfl 0 rfl ?_
  refine g_callV (As := []) (rest := []) hF (t_lat hEo hE hcap) (Nat.le_of_ble_eq_true rfl) mV_String_isLatin1 m_185 (recv_str hE) rfl rfl (Nat.le_of_ble_eq_true rfl) d_String_charAt_1 ?_ (fun _ _ _ h => h.elim)
  rintro v σ' τ' vs' ⟨rfl, rfl, rfl, rfl⟩
  refine g_if_eq (xv := 1) hF 16 d_String_charAt_4 (by decide) (by decide) (fun c => absurd c (by decide)) (fun _ => ?_)
  refine g_aload_n hF d_String_charAt_7 rfl 0 rfl ?_
  refine g_envf hF (fun A s h => (hE A s h).2.2.2.1) m_2841 d_String_charAt_8 ?_
  refine g_iload_n hF d_String_charAt_11 rfl 1 rfl ?_
  refine g_callS (As := [.ref sv, .int k]) (rest := []) hF (t_lch hEo hE hcap hN k h0 h1) (Nat.le_of_ble_eq_true rfl) mS_StringLatin1_charAt m_189 rfl rfl (Nat.le_of_ble_eq_true rfl) d_String_charAt_12 ?_ (fun _ _ _ h => h.elim)
  rintro v σ' τ' vs' ⟨rfl, rfl, rfl, x, rfl, hx⟩
  exact g_zret hF rfl hx d_String_charAt_15 ⟨rfl, rfl, rfl, x, rfl⟩
theorem k_sv {X : Cx} {L : List (Nat × Value)} {rest : List Value} {pc : Nat} {v0 : Int32} (k : G S r X σ τ vs L (.int v0 :: rest) pc) : ∀ v σ' τ' vs', QS σ τ vs (fun v => v = some (.int v0)) v σ' τ' vs' → G S r X σ' τ' vs' L (v.toList ++ rest) pc := by
  rintro v σ' τ' vs' ⟨rfl, rfl, rfl, rfl⟩
  exact k
theorem k_sx {X : Cx} {L : List (Nat × Value)} {rest : List Value} {pc : Nat} (k : ∀ x : Int32, G S r X σ τ vs L (.int x :: rest) pc) : ∀ v σ' τ' vs', QS σ τ vs (fun v => ∃ x : Int32, v = some (.int x)) v σ' τ' vs' → G S r X σ' τ' vs' L (v.toList ++ rest) pc := by
  rintro v σ' τ' vs' ⟨rfl, rfl, rfl, x, rfl⟩
  exact k x
end GS
