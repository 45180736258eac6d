/-! an item of a unit -/
section ITM
variable {σ s s' τ t t' : St} {vs z z' : List Nat}
theorem sp_isWordb {a : Int32} {Q : Int32 → Prop} (h : PA σ τ) (k : ∀ v : Int32, (v.toInt ≠ 0 → kd σ = a.toInt) → Q v) : wp_isWord a σ τ vs Q := sp_isWord h (fun q => k 1 (fun _ => q)) (fun _ => k 0 no0)
theorem at_back {a b : St} {v : Int32} (k : Kp [(0, 10)] [] a b) : upC b 0 10 v = upC a 0 10 v := by
  funext c j
  rw [rdC, rdC]
  by_cases e : c = 0
  · subst e
    rw [if_pos rfl, if_pos rfl]
    by_cases e2 : j = 10
    · rw [if_pos e2, if_pos e2]
    · rw [if_neg e2, if_neg e2]
      exact k 0 j (by simp; exact e2) rfl
  · rw [if_neg e, if_neg e]
    exact k c j (by simp; intro h; exact absurd h e) rfl
theorem fy_vr {c l : Int} (v : VRx σ vs s t z 0) (g : FNy s z s' t' z' c l) (hc : NCt σ vs s z 80) (hc2 : -80 ≤ c) (hl : l ≤ pos s' - pos σ) : FNy σ vs s' t' z' 0 (pos s' - pos σ) := by
  obtain ⟨v1, ⟨n1, n2, n3⟩, v3, v4⟩ := v
  obtain ⟨g1, ⟨m1, m2, m3⟩, g3, g4, g5⟩ := g
  obtain ⟨x1, x2, x3⟩ := hc
  exact ⟨ur_tr v1 g1, ⟨by omega, by omega, by omega⟩, gp_tr v3 g1.2.2.2.1 (ur_sil g1) g3, by omega, by omega⟩
def ITy (σ : St) (vs : List Nat) (s t : St) (z : List Nat) : Prop := FNy σ vs s t z 0 (pos s - pos σ) ∧ pos σ + 2 ≤ pos s
theorem sn_vr (h : PA σ τ) (hn : 0 ≤ (σ 0 31).toInt) (p : SNx σ s) : VRx σ vs s τ vs 0 := by
  obtain ⟨w1, i1⟩ := sn_wc p
  have p1 := p.2.2
  exact vr_rl (c := 0) hn (sn_rl (vs := vs) h p) ⟨by omega, by omega, by omega⟩ (by omega)
theorem sn_nx (h : PA s τ) (hk : 2 ≤ kd s) (p : SNx σ s) : SNx σ (nxt s) ∧ pos s + 1 ≤ pos (nxt s) := by
  obtain ⟨rn, pn, wn, icn⟩ := rl_nxt (vs := []) h hk
  exact ⟨⟨kp_tr p.1 (kp_sub nxt_kp rfl rfl), rn.2.1.2.1, by have := p.2.2; omega⟩, pn⟩
theorem sp_fnItem {tk ty st : Int32} {Q T : St → St → List Nat → Prop} (h : PA σ τ) (hS : PU2 σ) (hB : NB σ vs) (hb : 0 ≤ (σ 0 45).toInt ∧ (σ 0 45).toInt < 10000) (hs : SNx σ s) (hp : pos σ + 1 ≤ pos s) (hk : kd s = 2) (hty : -1 ≤ ty.toInt ∧ ty.toInt ≤ 10) (etk : tk = (s 0 10)) (k : ∀ s t z, ITy σ vs s t z → Q s t z) (kT : ∀ s t z, UT σ vs s t z → T s t z) : wp_function tk ty st (nxt s) τ vs Q T := by
  subst etk
  obtain ⟨hS1, hS2, hS3⟩ := hS
  have v1 := sn_vr (vs := vs) h hS2 hs
  have hP1 := v1.1.2.1
  obtain ⟨hs2, p2⟩ := sn_nx hP1 (by omega) hs
  have v2 := sn_vr (vs := vs) h hS2 hs2
  have hP2 := v2.1.2.1
  obtain ⟨w2, i2⟩ := sn_wc hs2
  obtain ⟨l1, l2⟩ := tok_len hP1 (by omega)
  have hp2 := pos_in hP2.1 hP2.2.1
  have sz2 := ur_sz v2.1
  have nb2 := v2.2.2.2
  have p1' : ((s 3) (s 0 10).toNatClampNeg).toInt = pos s := rfl
  refine sp_function hP2 (by rw [ur_sil v2.1]; exact hS1) (vr_nb hB v2) (at_tok hP1.1 hP1.2.1) (by show ((s 3) _).toInt ≤ ((s 4) _).toInt; omega) (by show _ ∧ ((nxt s) 0 31).toInt + (((s 4) _).toInt - ((s 3) _).toInt) ≤ 60000; omega) hty (by omega) (fun s' t' z' g => ?_) (fun s' t' z' g => kT _ _ _ (ut_ur v2.1 (by omega) g))
  have m := g.1.2.2.2.2.1.2.2.1
  refine k _ _ _ ⟨fy_vr v2 g ⟨by omega, by omega, by omega⟩ (by omega) ?_, by omega⟩
  show ((s 4) _).toInt - ((s 3) _).toInt ≤ _
  omega
theorem sp_item {Q T : St → St → List Nat → Prop} (h : PA σ τ) (hS : PU2 σ) (hB : NB σ vs) (hb : 0 ≤ (σ 0 45).toInt ∧ (σ 0 45).toInt < 10000) (k : ∀ s t z, ITy σ vs s t z → Q s t z) (kT : ∀ s t z, UT σ vs s t z → T s t z) : wp_item σ τ vs Q T := by
  have hn := hS.2.1
  unfold wp_item
  refine sp_isWordb h (fun v3 hv3 => sp_isWordb h (fun v10 hv10 => ?_))
  have e7 : ((7 : Int32)).toInt = 7 := by decide
  have e8 : ((8 : Int32)).toInt = 8 := by decide
  have s0 : SNx σ σ := ⟨kp_rf, h.2.1, Int.le_refl _⟩
  refine ⟨fun s t z => τ = t ∧ vs = z ∧ SNx σ s, ?_, 2 ≤ kd σ, fun c => ⟨rfl, rfl, (sn_nx h c s0).1⟩, fun c => by rw [hv3 c, e7]; decide, fun _ => ⟨fun _ => ⟨rfl, rfl, s0⟩, fun c => by rw [hv10 c, e8]; decide⟩⟩
  rintro s _ _ ⟨rfl, rfl, hs⟩
  have v1 := sn_vr (vs := vs) h hn hs
  have hP1 := v1.1.2.1
  have htk := at_tok hP1.1 hP1.2.1
  refine ⟨htk, fun _ => ⟨htk, fun hk => ?_, fun _ => sp_wrong hP1 (vr_cutx kT v1)⟩, fun hk => ?_⟩
  · have hk5 : kd s = 5 := hk
    obtain ⟨hs2, p2⟩ := sn_nx hP1 (by omega) hs
    have v2 := sn_vr (vs := vs) h hn hs2
    have hP2 := v2.1.2.1
    rw [show upC s 0 10 ((s 0 10) + (1 : Int32)) = nxt s from rfl]
    refine sp_stars hP2 (fun ty s3 ty0 ty5 hs3 => ?_) (vr_cutx kT v2)
    have hs3' : SNx σ s3 := ⟨kp_tr hs2.1 hs3.1, hs3.2.1, Int.le_trans hs2.2.2 hs3.2.2⟩
    have v3 := sn_vr (vs := vs) h hn hs3'
    have hP3 := v3.1.2.1
    have p3 := hs3.2.2
    have p1 := hs.2.2
    refine ⟨at_tok hP3.1 hP3.2.1, fun hk3 => ?_, fun _ => sp_wrong hP3 (vr_cutx kT v3)⟩
    have hk3' : kd s3 = 2 := hk3
    obtain ⟨hs4, p4⟩ := sn_nx hP3 (by omega) hs3'
    have v4 := sn_vr (vs := vs) h hn hs4
    have hP4 := v4.1.2.1
    rw [show upC s3 0 10 ((s3 0 10) + (1 : Int32)) = nxt s3 from rfl]
    refine sp_isb hP4 (fun v173 _ => ⟨fun _ => ?_, fun _ => ?_⟩)
    · have eb : upC (nxt s3) 0 10 ((s 0 10) + (1 : Int32)) = nxt s := by
        rw [at_back (a := s) (kp_tr (kp_tr nxt_kp hs3.1) nxt_kp)]
        rfl
      rw [eb]
      have hp2 := pos_in hP2.1 hP2.2.1
      have sz2 := ur_sz v2.1
      have nb2 := v2.2.2.2
      obtain ⟨hS1, hS2, hS3⟩ := hS
      refine sp_variablesG hP2 ⟨by rw [ur_sil v2.1]; exact hS1, by omega, by omega⟩ (vr_nb hB v2) rfl (fun s' t' z' g gp => ?_) (vr_cut kT v2)
      have v5 := vr_tr v2 g
      obtain ⟨q1, q2, q3, q4⟩ := v5
      exact k _ _ _ ⟨⟨q1, q2, q3, by omega, by omega⟩, by omega⟩
    · exact sp_fnItem h hS hB hb hs3' (by omega) hk3' ⟨by omega, by omega⟩ rfl k kT
  · have hk6 : kd s = 6 := hk
    obtain ⟨hs2, p2⟩ := sn_nx hP1 (by omega) hs
    have v2 := sn_vr (vs := vs) h hn hs2
    have hP2 := v2.1.2.1
    have p1 := hs.2.2
    refine ⟨at_tok hP2.1 hP2.2.1, fun hk3 => ?_, fun _ => sp_wrong hP2 (vr_cutx kT v2)⟩
    exact sp_fnItem (s := nxt s) h hS hB hb hs2 (by omega) hk3 ⟨by decide, by decide⟩ rfl k kT
end ITM
