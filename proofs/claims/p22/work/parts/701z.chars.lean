/-! characters, for rounds over the class alone -/
section GS2
variable {S : Sh} {r : Nat → Nat} {E : (Nat → Prop) → State → Prop} {σ τ : St} {vs : List Nat} {own : String} {kk N sa sv : Nat} {tx : String} {f : Nat → Int32}
theorem t_lch2 (hEo : EnvOK E) (hE : ∀ A s, E A s → sE own kk tx N sa sv f A s) (hcap : vs.length ≤ CAP) (hN : N < 2 ^ 31) (k : Int32) (h0 : 0 ≤ k.toInt) (h1 : k.toInt < N) (l : Launch) (D : va_G) (cy : Nat → ClassId) : Ct l D cy S r E y_StringLatin1_charAt (Cond.code y_StringLatin1_charAt b_StringLatin1_charAt 2 (some .char)) 2 [.ref sv, .int k] σ τ vs (QS σ τ vs (fun v => v = some (.int (chI (f k.toNatClampNeg))))) (fun _ _ _ => False) := by
  refine Ct_of hEo (by decide) (Nat.le_of_ble_eq_true rfl) hcap (fun X hnn hF => ?_)
  show G S r X σ τ vs [(0, .ref sv), (1, .int k)] [] 0
  refine g_iload_n hF d_StringLatin1_charAt_0 rfl 1 rfl ?_
  refine g_aload_n hF d_StringLatin1_charAt_1 rfl 0 rfl ?_
  refine g_tlen hF (fun A s h => (hE A s h).2.2.2.2.1) (v := nI N) rfl d_StringLatin1_charAt_2 ?_
  refine g_callS (As := [.int k, .int (nI N)]) (rest := []) hF (t_sci hEo hE hcap k (nI N) h0 (by rw [nI_toInt hN]; exact h1)) (Nat.le_of_ble_eq_true rfl) mS_String_checkIndex m_192 rfl rfl (Nat.le_of_ble_eq_true rfl) d_StringLatin1_charAt_3 ?_ (fun _ _ _ h => h.elim)
  rintro v σ' τ' vs' ⟨rfl, rfl, rfl, rfl⟩
  refine g_aload_n hF d_StringLatin1_charAt_6 rfl 0 rfl ?_
  refine g_iload_n hF d_StringLatin1_charAt_7 rfl 1 rfl ?_
  refine g_tb hF (fun A s h => (hE A s h).2.2.2.2.1) (s_in hN h0 h1) d_StringLatin1_charAt_8 ?_
  refine g_sipush hF (v := 255) d_StringLatin1_charAt_9 (by decide) ?_
  refine g_iand hF d_StringLatin1_charAt_12 ?_
  refine g_i2c hF d_StringLatin1_charAt_13 ?_
  exact g_zret hF rfl (pk_nc _) d_StringLatin1_charAt_14 ⟨rfl, rfl, rfl, rfl⟩
theorem t_ch2 (hEo : EnvOK E) (hE : ∀ A s, E A s → sE own kk tx N sa sv f A s) (hcap : vs.length ≤ CAP) (hN : N < 2 ^ 31) (k : Int32) (h0 : 0 ≤ k.toInt) (h1 : k.toInt < N) (l : Launch) (D : va_G) (cy : Nat → ClassId) : Ct l D cy S r E y_String_charAt (Cond.code y_String_charAt b_String_charAt 2 (some .char)) 3 [.ref sa, .int k] σ τ vs (QS σ τ vs (fun v => v = some (.int (chI (f k.toNatClampNeg))))) (fun _ _ _ => False) := by
  refine Ct_of hEo (by decide) (Nat.le_of_ble_eq_true rfl) hcap (fun X hnn hF => ?_)
  show G S r X σ τ vs [(0, .ref sa), (1, .int k)] [] 0
  refine g_aload_n hF d_String_charAt_0 rfl 0 rfl ?_
  refine g_callV (As := []) (rest := []) hF (t_lat hEo hE hcap) (Nat.le_of_ble_eq_true rfl) mV_String_isLatin1 m_185 (recv_str hE) rfl rfl (Nat.le_of_ble_eq_true rfl) d_String_charAt_1 ?_ (fun _ _ _ h => h.elim)
  rintro v σ' τ' vs' ⟨rfl, rfl, rfl, rfl⟩
  refine g_if_eq (xv := 1) hF 16 d_String_charAt_4 (by decide) (by decide) (fun c => absurd c (by decide)) (fun _ => ?_)
  refine g_aload_n hF d_String_charAt_7 rfl 0 rfl ?_
  refine g_envf hF (fun A s h => (hE A s h).2.2.2.1) m_2841 d_String_charAt_8 ?_
  refine g_iload_n hF d_String_charAt_11 rfl 1 rfl ?_
  refine g_callS (As := [.ref sv, .int k]) (rest := []) hF (t_lch2 hEo hE hcap hN k h0 h1) (Nat.le_of_ble_eq_true rfl) mS_StringLatin1_charAt m_189 rfl rfl (Nat.le_of_ble_eq_true rfl) d_String_charAt_12 ?_ (fun _ _ _ h => h.elim)
  rintro v σ' τ' vs' ⟨rfl, rfl, rfl, rfl⟩
  exact g_zret hF rfl (pk_nc _) d_String_charAt_15 ⟨rfl, rfl, rfl, rfl⟩
end GS2
