/-! variables outside of functions: all of a line -/
section VGL
variable {σ s s' τ t t' : St} {vs z z' : List Nat}
theorem tok_len (h : PA σ τ) (hk : 2 ≤ kd σ) : ((σ 3) (σ 0 10).toNatClampNeg).toInt + 1 ≤ ((σ 4) (σ 0 10).toNatClampNeg).toInt ∧ ((σ 4) (σ 0 10).toNatClampNeg).toInt ≤ pos (nxt σ) := by
  have hT := h.1
  have ha := h.2.1
  have hn := nt ha.1
  obtain ⟨h1, h2, h3, h4, h5, h6, h7, h8⟩ := hT
  have h9 := ha.2
  obtain ⟨g1, g2, g3, -⟩ := h8 _ (by omega) hk
  have e1 : ((nxt σ) 0 10).toInt = (σ 0 10).toInt + 1 := by rw [nxt_at, ad1 (by omega)]
  have e2 : ((nxt σ) 0 10).toNatClampNeg = (σ 0 10).toNatClampNeg + 1 := by rw [nt', e1]; omega
  refine ⟨g2, ?_⟩
  unfold pos
  rw [e2]
  have e4 : ((nxt σ) 3) = (σ 3) := rfl
  rw [e4]
  exact g3
theorem vr_le {l m : Int} (h : VRx σ vs s t z l) (hl : l ≤ m) : VRx σ vs s t z m := ⟨h.1, h.2.1, h.2.2.1, by have := h.2.2.2; omega⟩
theorem vr_nx {c : Int} (hn : 0 ≤ (σ 0 31).toInt) (r : RL σ vs s t z) (n : NCt σ vs s z c) (hc : 0 ≤ c) : VRx σ vs s t z (pos s - pos σ) := vr_le (vr_rl hn r n hc) (by have := r.2.2.2.2.2.2.2.1; omega)
theorem vr_cut {l : Int} {T : St → St → List Nat → Prop} (kT : ∀ s t z, UT σ vs s t z → T s t z) (v : VRx σ vs s t z l) : ∀ s' t' z', UT s z s' t' z' → T s' t' z' := fun s' t' z' hs => kT _ _ _ (ut_ur v.1 v.2.1.2.2 hs)
theorem vr_cutx {l : Int} {T : St → St → List Nat → Prop} (kT : ∀ s t z, UT σ vs s t z → T s t z) (v : VRx σ vs s t z l) : ∀ s', RTx s z s' t z → T s' t z := fun s' hs => vr_cut kT v _ _ _ (ut_rt (rt_rtx hs))
theorem vr_ps {l m : Int} (v : VRx σ vs s t z (pos s - pos σ)) (g : VRx s z s' t' z' l) (h : l ≤ m) (hm : m ≤ pos s' - pos s) : VRx σ vs s' t' z' (pos s' - pos σ) := vr_le (vr_tr v g) (by omega)
theorem sp_variablesG {a1 a2 f : Int32} {Q T : St → St → List Nat → Prop} (h : PA σ τ) (hS : PU2 σ) (hB : NB σ vs) (hf : f.toInt = 0) (k : ∀ s t z, VRx σ vs s t z (pos s - pos σ) → pos σ < pos s → Q s t z) (kT : ∀ s t z, UT σ vs s t z → T s t z) : wp_variables a1 a2 f σ τ vs Q T := by
  obtain ⟨hS1, hS2, hS3⟩ := hS
  unfold wp_variables
  refine ⟨fun n x s t z => n = ((σ 0 9).toInt - pos s).toNat ∧ VRx σ vs s t z (pos s - pos σ), ⟨_, rfl, vr_nx (c := 0) hS2 (rl_rf h) nct_rf (by omega)⟩, ?_⟩
  rintro n x s t z - ⟨hn, v⟩
  have hPs := v.1.2.1
  have hBs := vr_nb hB v
  have esz := ur_sz v.1
  have mp := v.1.2.2.2.2.1.2.2.1
  have vn := v.2.2.2
  refine ⟨fun _ => ?_, fun _ => ?_⟩
  · refine sp_expect hPs (by decide) (fun hk ro po wo ico => ?_) (vr_cutx kT v)
    have vo := vr_nx (c := 0) vn.1 ro ⟨by omega, by omega, by omega⟩ (by omega)
    exact k _ _ _ (vr_ps v vo (Int.le_refl _) (Int.le_refl _)) (by omega)
  · refine sp_stars hPs (fun ty s1 ty0 ty5 hs1 => ?_) (vr_cutx kT v)
    have r1 := sn_rl (vs := z) hPs hs1
    have hP1 := r1.2.1
    obtain ⟨w1, i1⟩ := sn_wc hs1
    have p1 := hs1.2.2
    have v1 := vr_ps v (vr_nx (c := 0) vn.1 r1 ⟨by omega, by omega, by omega⟩ (by omega)) (Int.le_refl _) (Int.le_refl _)
    have htk := at_tok hP1.1 hP1.2.1
    refine ⟨htk, fun hk => ?_, fun _ => sp_wrong hP1 (vr_cutx kT v1)⟩
    have hk2 : kd s1 = 2 := hk
    obtain ⟨rn, pn, wn, icn⟩ := rl_nxt (vs := z) hP1 (by omega)
    obtain ⟨l1, l2⟩ := tok_len hP1 (by omega)
    have v2 := vr_rl (c := 0) v1.2.2.2.1 rn ⟨by omega, by omega, by omega⟩ (by omega)
    have hPn := rn.2.1
    have hpn := pos_in hPn.1 hPn.2.1
    have v3 := vr_tr v1 v2
    have szn := ur_sz v3.1
    have nbn := v3.2.2.2
    have hBn := vr_nb hB v3
    have hSn : ((nxt s1) 0 15).toInt = 0 := by rw [ur_sil v3.1]; exact hS1
    have p1' : ((s1 3) (s1 0 10).toNatClampNeg).toInt = pos s1 := rfl
    show wp_variable _ _ _ _ _ (nxt s1) t z _ T
    refine sp_variableG hPn hSn hBn htk (by show ((s1 3) _).toInt ≤ ((s1 4) _).toInt; omega) (by show _ ∧ ((nxt s1) 0 31).toInt + (((s1 4) _).toInt - ((s1 3) _).toInt) ≤ 60000; omega) ⟨ty0, by omega⟩ hf (fun s3 t3 z3 v4 => ?_) (vr_cut kT v3)
    have v4' : VRx (nxt s1) z s3 t3 z3 (((s1 4) (s1 0 10).toNatClampNeg).toInt - ((s1 3) (s1 0 10).toNatClampNeg).toInt) := v4
    have m4 := v4'.1.2.2.2.2.1.2.2.1
    have v5 : VRx σ vs s3 t3 z3 (pos s3 - pos σ) := vr_le (vr_tr v3 v4') (by omega)
    have hP3 := v5.1.2.1
    have hp3 := pos_in hP3.1 hP3.2.1
    have sz3 := ur_sz v5.1
    unfold wp_accept
    refine sp_is hP3 (fun hk3 => ⟨fun _ => ?_, no1⟩) (fun _ => ⟨no0, fun _ => ⟨((σ 0 9).toInt - pos s3).toNat, by omega, rfl, v5⟩⟩)
    have hk3' : kd s3 = 58 := hk3
    obtain ⟨ro, po, wo, ico⟩ := rl_nxt (vs := z3) hP3 (by omega)
    have hpo := pos_in ro.2.1.1 ro.2.1.2.1
    have szo := rl_sz ro
    have vo := vr_nx (c := 0) v5.2.2.2.1 ro ⟨by omega, by omega, by omega⟩ (by omega)
    exact ⟨((σ 0 9).toInt - pos (nxt s3)).toNat, by omega, rfl, vr_ps v5 vo (Int.le_refl _) (Int.le_refl _)⟩
end VGL
