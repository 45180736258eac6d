/-! the statements' group -/
section STI
variable {σ s s' τ t t' : St} {vs z z' : List Nat}
theorem sp_statement {k1 k2 k3 : KZ} {k4 : KL} {k5 k6 : Int32 → KZ} {d : Int} (hI : d ≤ 25 → SS k2 d) (hBl : d ≤ 25 → SS k3 d) (hL : d ≤ 25 → SSl k4 d) (hD : d ≤ 25 → SSd k5 d 12) (hF : d ≤ 25 → SSd k6 d 13) : SS (wp_statement k1 k2 k3 k4 k5 k6) d := by
  intro a σ τ vs Q T had hP hS hB kQ kT
  unfold wp_statement
  have h0 := hP.2.2.1.2.2.2.2.1
  have htk := at_tok hP.1 hP.2.1
  refine ⟨fun hd => ⟨htk, True, fun _ => ?_, kd σ = 14 ∨ kd σ = 15, fun hj => sp_jump hP hS hB hj kQ kT, fun c => ?_, fun _ => ?_⟩, fun _ => sp_wrong hP (fun s' hs => kT _ _ _ (rt_rtx hs))⟩
  · -- a block, an expression, none
    refine sp_is hP (fun hk => ⟨no1, fun _ => ?_⟩) (fun hk => ⟨fun _ => ?_, no0⟩)
    · exact hBl (by omega) a σ τ vs _ T had hP hS hB kQ kT
    · have fin : ∀ s t z, RL σ vs s t z ∧ NCt σ vs s z 0 ∧ TE σ s 501 0 0 → wp_expect (27 : Int32) s t z (fun s427 t427 z427 => Q s427 t427 z427) T := fun s t z ⟨r, nc, te⟩ => by
        refine sp_expect r.2.1 (by decide) (fun hk2 ro po wo ico => ?_) (fun s' hs => kT _ _ _ (rt_rtx (rt_of r nc.2.2 hs)))
        have h0s := r.2.1.2.2.1.2.2.2.2.1
        obtain ⟨m1, m2, m3⟩ := nc
        have mp := r.2.2.2.2.2.2.2.1
        exact kQ _ _ _ ⟨[], [], sr_rl h0 (rl_tr r ro) (te_rl h0 r ro te (te_nxt h0s ro)) (by omega), ⟨by omega, by omega, by omega⟩, by omega⟩
      refine sp_is hP (fun hk2 => ⟨fun s t z => RL σ vs s t z ∧ NCt σ vs s z 0 ∧ TE σ s 501 0 0, fin, fun _ => ⟨rl_rf hP, nct_rf, te_rf⟩, no1⟩) (fun hk2 => ⟨fun s t z => RL σ vs s t z ∧ NCt σ vs s z 0 ∧ TE σ s 501 0 0, fin, no0, fun _ => sp_plain hP hB (fun s t z r nc p te => ⟨r, nct_le nc (by omega), te⟩) (fun s' t' z' hs => kT _ _ _ (rt_rtx hs))⟩)
  · -- int
    have hk : kd σ = 5 := c
    obtain ⟨rn, pn, wn, icn⟩ := rl_nxt (vs := vs) hP (by omega)
    have hBn : NB (nxt σ) vs := nb_of hB rn (by omega) (by omega) (by omega)
    show wp_variables _ _ _ (nxt σ) τ vs _ T
    refine sp_variablesL rn.2.1 (ps_rs hS (rs_rl rn)) hBn (by decide) (fun s t z sr nc p => kQ _ _ _ (pq_pre (c := 40) h0 rn (te_nxt h0 rn) ⟨by omega, by omega, by omega⟩ (by omega) ⟨[], [], sr, nc, p⟩)) (fun s' t' z' hs => kT _ _ _ (rt_rs (rs_rl rn) (by omega) hs))
  · refine ⟨fun _ => trivial, fun _ => ⟨fun _ => trivial, fun _ => ⟨fun _ => trivial, fun _ => ⟨fun c => ?_, fun _ => ⟨fun _ => trivial, fun _ => ⟨fun c => ?_, fun _ => ⟨fun c => ?_, fun _ => ⟨fun c => ?_, fun _ => ⟨fun c => Or.inl c, fun _ => ⟨fun c => Or.inr c, fun _ => ⟨fun c => ?_, fun _ => trivial⟩⟩⟩⟩⟩⟩⟩⟩⟩⟩⟩
    · exact sp_ifS (hI (by omega)) had hP hS hB c kQ kT
    · exact sp_while (hL (by omega)) had hP hS hB c kQ kT
    · exact hD (by omega) a _ σ τ vs _ T had hP hS hB htk c kQ kT
    · exact hF (by omega) a _ σ τ vs _ T had hP hS hB htk c kQ kT
    · exact sp_return hP hS hB htk c (fun s t z sr nc p => kQ _ _ _ ⟨[], [], sr, nc, p⟩) (fun s' t' z' hs => kT _ _ _ (rt_rtx hs))
end STI
/-- at so much fuel -/
def SFu (n : Nat) : Prop := ∀ d : Int, 0 ≤ d → d ≤ 26 →
  (4 + 4 * (26 - d) < n → SS (KKS n).1 d) ∧
  (d ≤ 25 → 1 + 4 * (26 - d) < n → SS (KKS n).2.1 d) ∧
  (d ≤ 25 → 1 + 4 * (26 - d) < n → SS (KKS n).2.2.1 d) ∧
  (d ≤ 25 → 2 + 4 * (26 - d) < n → SSl (KKS n).2.2.2.1 d) ∧
  (d ≤ 25 → 3 + 4 * (26 - d) < n → SSd (KKS n).2.2.2.2.1 d 12) ∧
  (d ≤ 25 → 3 + 4 * (26 - d) < n → SSd (KKS n).2.2.2.2.2 d 13)
theorem sf_all (n : Nat) : SFu n := by
  induction n with
  | zero =>
    intro d h1 h2
    refine ⟨fun h => ?_, fun _ h => ?_, fun _ h => ?_, fun _ h => ?_, fun _ h => ?_, fun _ h => ?_⟩
    all_goals omega
  | succ n ih =>
    intro d h1 h2
    obtain ⟨g1, g2, g3, g4, g5, g6⟩ := ih d h1 h2
    have up : d ≤ 25 → 4 + 4 * (25 - d) < (n : Int) → SS (KKS n).1 (d + 1) := fun h h' => (ih (d + 1) (by omega) (by omega)).1 (by omega)
    refine ⟨fun h => ?_, fun hd h => ?_, fun hd h => ?_, fun hd h => ?_, fun hd h => ?_, fun hd h => ?_⟩
    · show SS (wp_statement ((KKS n).1) ((KKS n).2.1) ((KKS n).2.2.1) ((KKS n).2.2.2.1) ((KKS n).2.2.2.2.1) ((KKS n).2.2.2.2.2)) d
      exact sp_statement (fun hd => g2 hd (by omega)) (fun hd => g3 hd (by omega)) (fun hd => g4 hd (by omega)) (fun hd => g5 hd (by omega)) (fun hd => g6 hd (by omega))
    · show SS (wp_inner ((KKS n).1) ((KKS n).2.1) ((KKS n).2.2.1) ((KKS n).2.2.2.1) ((KKS n).2.2.2.2.1) ((KKS n).2.2.2.2.2)) d
      exact sp_inner ⟨h1, hd⟩ (up hd (by omega))
    · show SS (wp_block ((KKS n).1) ((KKS n).2.1) ((KKS n).2.2.1) ((KKS n).2.2.2.1) ((KKS n).2.2.2.2.1) ((KKS n).2.2.2.2.2)) d
      exact sp_block ⟨h1, hd⟩ (up hd (by omega))
    · show SSl (wp_loop ((KKS n).1) ((KKS n).2.1) ((KKS n).2.2.1) ((KKS n).2.2.2.1) ((KKS n).2.2.2.2.1) ((KKS n).2.2.2.2.2)) d
      exact sp_loop (g2 hd (by omega))
    · show SSd (wp_doStatement ((KKS n).1) ((KKS n).2.1) ((KKS n).2.2.1) ((KKS n).2.2.2.1) ((KKS n).2.2.2.2.1) ((KKS n).2.2.2.2.2)) d 12
      exact sp_do (g4 hd (by omega))
    · show SSd (wp_forStatement ((KKS n).1) ((KKS n).2.1) ((KKS n).2.2.1) ((KKS n).2.2.2.1) ((KKS n).2.2.2.2.1) ((KKS n).2.2.2.2.2)) d 13
      exact sp_for (g4 hd (by omega))
/-- a statement of a function's outermost block -/
theorem ss_stmt : SS wpS_statement 1 := (sf_all 120 1 (by omega) (by omega)).1 (by omega)
