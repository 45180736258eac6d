/-! primary -/
def SXc (K : Int32 → KX) (d : Int) (N : Nat) : Prop := ∀ (tk a : Int32) (σ τ : St) (vs : List Nat) (Q : Nat → St → St → List Nat → Prop) (T : St → St → List Nat → Prop), a.toInt = d → PA σ τ → NB σ vs → (0 ≤ tk.toInt ∧ tk.toInt < 16002) → kd σ = 52 → (∀ u s t z, RE σ τ vs N 0 u s t z → Q u s t z) → (∀ s t z, RTx σ vs s t z → T s t z) → K tk a σ τ vs Q T
section PRI
variable {σ s s' τ t t' : St} {vs z z' : List Nat}
theorem nxt_str (h : TK σ) (ha : AtOK σ) (hk : kd σ = 4) : pos σ + ((σ 6) (σ 0 10).toNatClampNeg).toInt + 2 ≤ pos (nxt σ) := by
  have hn := nt ha.1
  obtain ⟨h1, h2, h3, h4, h5, h6, h7, h8⟩ := h
  have h9 := ha.2
  have hk' : ((σ 2) (σ 0 10).toNatClampNeg).toInt = 4 := hk
  obtain ⟨g1, g2, g3, g4⟩ := h8 (σ 0 10).toNatClampNeg (by omega) (by omega)
  have g5 := (g4 hk').2.2
  have e1 : ((nxt σ) 0 10).toInt = (σ 0 10).toInt + 1 := by rw [nxt_at, ad1 (by omega)]
  have e2 : ((nxt σ) 0 10).toNatClampNeg = (σ 0 10).toNatClampNeg + 1 := by rw [nt', e1]; omega
  unfold pos
  rw [e2]
  have e4 : ((nxt σ) 3) = (σ 3) := rfl
  rw [e4]
  omega
theorem re_opc {N a u : Nat} {c : Int} {s2 t2 : St} {z2 : List Nat} (h : PA σ τ) (r : RL σ vs s t z) (vf : VFr τ vs t) (te : TE σ s N 0 a) (hw : (s 0 17).toInt + 28 ≤ (σ 0 17).toInt + 40 * (pos s - pos σ)) (hi : (s 0 39).toInt + 6 + c ≤ (σ 0 39).toInt + 12 * (pos s - pos σ)) (hz : (z.length : Int) + 1 ≤ vs.length + 2 * (pos s - pos σ)) (o : ROx s t z N a c u s2 t2 z2) : RE σ τ vs N 0 u s2 t2 z2 := by
  obtain ⟨o1, o2, o3, o4, o5, o6, o7, o8⟩ := o
  have m := o1.2.2.2.2.2.2.2.1
  exact ⟨rl_tr r o1, vfr_tr vf r.2.2.2.2.2.2.2.2.1 o2, ⟨o3.1, fun c => o3.2 (r.2.2.2.2.2.2.2.2.1 _ c)⟩, o4, by omega, by omega, by omega, te_rl h.2.2.1.2.2.2.2.1 r o1 te o8⟩
theorem sp_primary {k1 k2 : KX} {k3 : Int32 → KX} {k4 : Int32 → Nat → Int32 → KX} {k5 k6 k7 : KX} {k8 : Int32 → KX} {d : Int} {M N : Nat} (hd : 1 ≤ d ∧ d ≤ 25) (hE : d + 1 ≤ 25 → SX k1 (d + 1) M) (hC : SXc k8 d N) (hM : 1 ≤ M) (hN : M ≤ N) : SX (wp_primary k1 k2 k3 k4 k5 k6 k7 k8) d N := by
  intro a σ τ vs Q T had hP hB1 kQ kT
  unfold wp_primary
  have h0 := hP.2.2.1.2.2.2.2.1
  have htk := at_tok hP.1 hP.2.1
  have hAt := hP.2.1
  have hcap := nb_cap hB1 hP
  refine ⟨htk, fun n3 => ⟨htk, fun n4 => ⟨htk, fun n2 => ?_, fun e2 => ?_⟩, fun e4 => ?_⟩, fun e3 => ⟨htk, ?_⟩⟩
  · -- ( expression )
    refine sp_is hP (fun hk => ⟨fun _ => ?_, no1⟩) (fun _ => ⟨no0, fun _ => sp_wrong hP (fun s hs => kT _ _ _ hs)⟩)
    have hk2 : kd σ = 52 := hk
    refine sp_deeper hP (by omega) (fun hd2 ed => ?_) (fun s hs => kT _ _ _ hs)
    obtain ⟨rn, pn, wn, icn⟩ := rl_nxt (vs := vs) hP (by omega)
    have hBn : NB (nxt σ) vs := nb_of hB1 rn (by omega) (by omega) (by omega)
    show k1 _ (nxt σ) τ vs _ T
    refine hE (by omega) _ (nxt σ) τ vs _ T (by omega) rn.2.1 hBn (fun u s t z r => ?_) (fun s' t' z' hs => kT _ _ _ (rt_of rn (by omega) hs))
    have r2 := rl_tr rn r.1
    have q1 := r.2.2.2.2.1
    have q2 := r.2.2.2.2.2.1
    have q3 := r.2.2.2.2.2.2.1
    refine sp_expect r.1.2.1 (by decide) (fun hk3 r4' p4 w4 i4 => ?_) (fun s' hs => kT _ _ _ (rt_of r2 (by omega) hs))
    exact kQ _ _ _ _ ⟨rl_tr r2 r4', r.2.1, r.2.2.1, r.2.2.2.1, by omega, by omega, by omega, te_rl h0 r2 r4' (te_rl h0 rn r.1 (te_nxt h0 rn) (te_le r.2.2.2.2.2.2.2 hN)) (te_nxt r.1.2.1.2.2.1.2.2.2.2.1 r4')⟩
  · -- a name
    have hk : kd σ = 2 := e2
    obtain ⟨rn, pn, wn, icn⟩ := rl_nxt (vs := vs) hP (by omega)
    have hBn : NB (nxt σ) vs := nb_of hB1 rn (by omega) (by omega) (by omega)
    refine sp_is (σ := nxt σ) rn.2.1 (fun hk2 => ⟨no1, fun _ => ?_⟩) (fun _ => ⟨fun _ => ?_, no0⟩)
    · refine hC _ a (nxt σ) τ vs _ T had rn.2.1 hBn htk hk2 (fun u s t z r => ?_) (fun s' t' z' hs => kT _ _ _ (rt_of rn (by omega) hs))
      have q1 := r.2.2.2.2.1
      have q2 := r.2.2.2.2.2.1
      have q3 := r.2.2.2.2.2.2.1
      exact kQ _ _ _ _ ⟨rl_tr rn r.1, r.2.1, r.2.2.1, r.2.2.2.1, by omega, by omega, by omega, te_rl h0 rn r.1 (te_nxt h0 rn) r.2.2.2.2.2.2.2⟩
    · exact sp_named (σ := nxt σ) (N := N) rn.2.1 hAt (by show ((nxt σ) 0 17).toInt ≤ 499000; omega) hcap.1 (by omega) (fun u s t z o => kQ _ _ _ _ (re_op hP rn (fun _ _ => rfl) (te_nxt h0 rn) (by omega) (by omega) (by omega) o))
  · -- a text
    have hk : kd σ = 4 := e4
    obtain ⟨rn, pn, wn, icn⟩ := rl_nxt (vs := vs) hP (by omega)
    have ps := nxt_str hP.1 hP.2.1 hk
    have hv := STR_ok hP.1 hAt e4
    exact sp_text (σ := nxt σ) (N := N) rn.2.1 hAt e4 (by show ((nxt σ) 0 17).toInt ≤ 499000; omega) (by show ((nxt σ) 0 39).toInt ≤ 180000; omega) hcap.1 (by omega) (fun u s t z o => kQ _ _ _ _ (re_opc hP rn (fun _ _ => rfl) (te_nxt h0 rn) (by omega) (by show ((nxt σ) 0 39).toInt + 6 + 3 * ((σ 6) (σ 0 10).toNatClampNeg).toInt ≤ _; omega) (by omega) o))
  · -- a number
    have hk : kd σ = 3 := e3
    obtain ⟨rn, pn, wn, icn⟩ := rl_nxt (vs := vs) hP (by omega)
    have h0n := rn.2.1.2.2.1.2.2.2.2.1
    show wp_put_1 (0 : Int32) _ (nxt σ) τ vs _
    refine sp_put_1 h0n (by omega) (fun s2 p2 => ⟨hcap.1, fun q hq => sp_Vinit (fun t2 ht2 => ⟨htk, by simp, sp_Vconstant (by simp) ⟨htk, fun _ => ⟨by simp, ?_⟩, fun _ => ⟨by simp, ?_⟩⟩⟩)⟩)
    all_goals
      have sq := sq_pu p2
      have rC := sq_rl (vs := vs) rn.2.1 sq
      have v3 := vnw_const (v := (s2 6) (σ 0 10).toNatClampNeg) (vnw_nv ht2)
      have hh : upC (upC t2 q 6 (1 : Int32)) q 7 ((s2 6) (σ 0 10).toNatClampNeg) q 1 = 0 := by rw [how_const]; exact (nv_at ht2).2.1
      have ht : upC (upC t2 q 6 (1 : Int32)) q 7 ((s2 6) (σ 0 10).toNatClampNeg) q 0 = 0 := by
        simp only [rdA, Nat.reduceEqDiff, if_true, if_false]
        exact (nv_at ht2).1
      have fk : ∀ w : Int32, FOK (upC (upC (upC t2 q 6 (1 : Int32)) q 7 ((s2 6) (σ 0 10).toNatClampNeg)) q 5 w) q := fun w => by
        have h9 := v3.2
        unfold FOK at *
        simp only [rdA, Nat.reduceEqDiff, if_true, if_false] at h9 ⊢
        exact ⟨h9.1, h9.2.1, h9.2.2.1, h9.2.2.2.1, h9.2.2.2.2.1, fun _ => by rw [(nv_at ht2).1]; rfl⟩
      refine kQ _ _ _ _ (re_op hP rn (fun _ _ => rfl) (te_nxt h0 rn) (by omega) (by omega) (by omega) (rox_new rC hq (vnw_up v3 (fk _)) (fun c => ?_) (by have := p2.2.1; simp only [List.length_cons, List.length_nil] at this; omega) (by rw [ic_sq sq]; omega) ?_))
      · rw [rdA, if_neg (by decide), hh] at c
        exact absurd c (by decide)
      · rw [ev_1 (Or.inl (by rw [rdA, if_neg (by decide), hh]; rfl)) (by rw [rdA, if_neg (by decide), ht]; decide)]
        exact te_put (n := 2) h0n p2 rfl (by decide) rfl (k := 0) rfl (fun g' H L x hH hn hx => hn) (by omega)
end PRI
