/-! unary operators, casts -/
section UNA
variable {σ s s' τ t t' : St} {vs z z' : List Nat}
def SNx (σ s : St) : Prop := Kp [(0, 10)] [] σ s ∧ AtOK s ∧ pos σ ≤ pos s
theorem sn_rf (h : AtOK σ) : SNx σ σ := ⟨kp_rf, h, Int.le_refl _⟩
theorem sn_rl (h : PA σ τ) (p : SNx σ s) : RL σ vs s τ vs := by
  obtain ⟨p1, p2, p3⟩ := p
  have h9 := h
  obtain ⟨h1, h2, ⟨n1, n2, n3, n4, n5, n6, n7⟩, ⟨-, -, a3, -⟩, h5⟩ := h9
  have e3 : (s 0 37) = (σ 0 37) := p1 _ _ rfl rfl
  have e4 : (s 0 39) = (σ 0 39) := p1 _ _ rfl rfl
  have e6 : (s 0 17) = (σ 0 17) := p1 _ _ rfl rfl
  have e8 : (s 0 12) = (σ 0 12) := p1 _ _ rfl rfl
  have e5 : (s 21) = (σ 21) := funext (fun j => p1 21 j rfl rfl)
  have k : KE σ s := kp_sub p1 rfl rfl
  refine ⟨k, pa_ke h k p2 (by rw [e3]; exact n4) (by rw [e6]; exact n5) (by rw [e4]; exact n6) (by rw [e5]; exact a3) h5, fun j _ => p1 8 j rfl rfl, mon_of (funext (fun j => p1 14 j rfl rfl)) e5, of_eq e8, by rw [e6]; exact Int.le_refl _, by rw [e4]; exact Int.le_refl _, p3, fun _ h => h, Nat.le_refl _, ie_of (funext (fun j => p1 25 j rfl rfl)) e4 e3⟩
theorem sn_wc (p : SNx σ s) : (s 0 17).toInt = (σ 0 17).toInt ∧ (s 0 39).toInt = (σ 0 39).toInt := ⟨by rw [p.1 0 17 rfl rfl], by rw [p.1 0 39 rfl rfl]⟩
theorem sn_te {N a : Nat} (h : PA σ τ) (p : SNx σ s) : TE σ s N a a := by
  have r := sn_rl (vs := []) h p
  exact te_same h.2.2.1.2.2.2.2.1 (p.1 0 17 rfl rfl) r.2.2.1 (ev_ke r.1 r.2.2.2.1)
theorem sn_tr (h : SNx σ s) (g : SNx s s') : SNx σ s' := ⟨kp_tr h.1 g.1, g.2.1, Int.le_trans h.2.2 g.2.2⟩
theorem sn_nxt (h : PA σ τ) (hk : 2 ≤ kd σ) : SNx σ (nxt σ) ∧ pos σ + 1 ≤ pos (nxt σ) := by
  obtain ⟨g1, g2⟩ := nxt_ok h.1 h.2.1 hk
  exact ⟨⟨nxt_kp, g1, by omega⟩, g2⟩
theorem sp_stars {Q : Int32 → St → St → List Nat → Prop} {T : St → St → List Nat → Prop} (h : PA σ τ) (k : ∀ (r : Int32) s, 0 ≤ r.toInt → r.toInt ≤ 5 → SNx σ s → Q r s τ vs) (kt : ∀ s, RTx σ vs s τ vs → T s τ vs) : wp_stars σ τ vs Q T := by
  have e0 : (0 : Int32).toInt = 0 := by decide
  unfold wp_stars
  refine ⟨fun n x s t z => (n : Int) = 5 - x.toInt ∧ 0 ≤ x.toInt ∧ x.toInt ≤ 5 ∧ τ = t ∧ vs = z ∧ SNx σ s, ⟨5, by omega, by omega, by omega, rfl, rfl, sn_rf h.2.1⟩, ?_⟩
  rintro n x s _ _ ⟨q1, q2, q3, rfl, rfl, hs⟩
  have r := sn_rl (vs := vs) h hs
  refine sp_is r.2.1 (fun hk => ⟨no1, fun _ => ⟨fun c => ?_, fun _ => sp_wrong r.2.1 (fun s' hs' => kt _ (rt_of r (by have := hs.2.2; omega) hs'))⟩⟩) (fun _ => ⟨fun _ => k _ _ q2 q3 hs, no0⟩)
  have hk2 : kd s = 70 := hk
  have e := ad1 (x := x) (by omega)
  exact ⟨n - 1, by omega, by omega, by omega, by omega, rfl, rfl, sn_tr hs (sn_nxt r.2.1 (by omega)).1⟩
theorem up_up {c k : Nat} {a b : Int32} : upC (upC σ c k a) c k b = upC σ c k b := by
  funext q j
  by_cases e : q = c
  · subst e
    rw [rdA, rdA, rdA]
    by_cases e2 : j = k
    · rw [if_pos e2, if_pos e2]
    · rw [if_neg e2, if_neg e2, if_neg e2]
  · rw [rdC, if_neg e, rdC, if_neg e, rdC, if_neg e]
theorem nxt2 : upC σ 0 10 ((σ 0 10) + (2 : Int32)) = nxt (nxt σ) := by
  unfold nxt
  rw [up_up]
  have e : upC σ 0 10 ((σ 0 10) + 1) 0 10 = (σ 0 10) + 1 := rdA_eq rfl
  rw [e, Int32.add_assoc]
  rfl
/-- an operator behind a part -/
theorem re_op {N a u : Nat} {s2 t2 : St} {z2 : List Nat} (h : PA σ τ) (r : RL σ vs s t z) (vf : VFr τ vs t) (te : TE σ s N 0 a) (hw : (s 0 17).toInt + 28 ≤ (σ 0 17).toInt + 40 * (pos s - pos σ)) (hi : (s 0 39).toInt + 6 ≤ (σ 0 39).toInt + 12 * (pos s - pos σ)) (hz : (z.length : Int) + 1 ≤ vs.length + 2 * (pos s - pos σ)) (o : ROx s t z N a 0 u s2 t2 z2) : RE σ τ vs N 0 u s2 t2 z2 := by
  obtain ⟨o1, o2, o3, o4, o5, o6, o7, o8⟩ := o
  have m := o1.2.2.2.2.2.2.2.1
  exact ⟨rl_tr r o1, vfr_tr vf r.2.2.2.2.2.2.2.2.1 o2, ⟨o3.1, fun c => o3.2 (r.2.2.2.2.2.2.2.2.1 _ c)⟩, o4, by omega, by omega, by omega, te_rl h.2.2.1.2.2.2.2.1 r o1 te o8⟩
theorem sp_unary {k1 k2 : KX} {k3 : Int32 → KX} {k4 : Int32 → Nat → Int32 → KX} {k5 k6 k7 : KX} {k8 : Int32 → KX} {d : Int} {M N : Nat} (hd : 1 ≤ d ∧ d ≤ 25) (hU : d + 1 ≤ 25 → SX k5 (d + 1) M) (hB : SX k6 d N) (hM : 1 ≤ M) (hN : M ≤ N) : SX (wp_unary k1 k2 k3 k4 k5 k6 k7 k8) d N := by
  intro a σ τ vs Q T had hP hB1 kQ kT
  unfold wp_unary
  have h0 := hP.2.2.1.2.2.2.2.1
  have htk := at_tok hP.1 hP.2.1
  have hcap := nb_cap hB1 hP
  have pre : (18 ≤ (sg σ).toInt ∧ (sg σ).toInt ≤ 42) → wp_deeper a σ τ vs (fun v54 s54 t54 z54 => k5 v54 (upC s54 0 10 ((s54 0 10) + (1 : Int32))) t54 z54 (fun u72 s72 t72 z72 => ((sg σ).toInt ≠ 33 → (∃ J103 : Prop, (J103 → (wp_stepped u72 (sg σ) (0 : Int32) (σ 0 10) s72 t72 z72 (fun u109 s109 t109 z109 => Q u109 s109 t109 z109))) ∧ ((sg σ).toInt = 18 → J103) ∧ ((sg σ).toInt ≠ 18 → ((sg σ).toInt ≠ 19 → wp_read_1 u72 s72 t72 z72 (fun s116 t116 z116 => ((sg σ).toInt ≠ 38 → wp_one_2 (sg σ) u72 (σ 0 10) s116 t116 z116 (fun u140 s140 t140 z140 => Q u140 s140 t140 z140)) ∧ ((sg σ).toInt = 38 → wp_pointedTo u72 (σ 0 10) s116 t116 z116 (fun u129 s129 t129 z129 => Q u129 s129 t129 z129)))) ∧ ((sg σ).toInt = 19 → J103)))) ∧ ((sg σ).toInt = 33 → wp_pointed u72 (σ 0 10) s72 t72 z72 (fun u87 s87 t87 z87 => Q u87 s87 t87 z87))) T) T := fun hc => by
    have hk := kd_sg hc (by omega) (by omega)
    refine sp_deeper hP (by omega) (fun hd2 ed => ?_) (fun s hs => kT _ _ _ hs)
    obtain ⟨rn, pn, wn, icn⟩ := rl_nxt (vs := vs) hP (by omega)
    have hBn : NB (nxt σ) vs := nb_of hB1 rn (by omega) (by omega) (by omega)
    show k5 _ (nxt σ) τ vs _ T
    refine hU (by omega) _ (nxt σ) τ vs _ T (by omega) rn.2.1 hBn (fun u s t z r => ?_) (fun s' t' z' hs => kT _ _ _ (rt_of rn (by omega) hs))
    have hPs := r.1.2.1
    have hBs := re_nb hBn r
    have hcs := nb_cap hBs hPs
    have r2 := rl_tr rn r.1
    have q1 := r.2.2.2.2.1
    have q2 := r.2.2.2.2.2.1
    have q3 := r.2.2.2.2.2.2.1
    have te1 : TE σ s N 0 (ev t u) := te_rl h0 rn r.1 (te_nxt h0 rn) (te_le r.2.2.2.2.2.2.2 hN)
    have stp : wp_stepped u (sg σ) (0 : Int32) (σ 0 10) s t z (fun u109 s109 t109 z109 => Q u109 s109 t109 z109) := sp_stepped hPs r.2.2.1.1 r.2.2.2.1 (by omega) htk hcs.1 (by omega) (fun w s' t' z' o => kQ _ _ _ _ (re_op hP r2 r.2.1 te1 (by omega) (by omega) (by omega) o))
    refine ⟨fun _ => ⟨True, fun _ => stp, fun _ => trivial, fun _ => ⟨fun _ => ?_, fun _ => trivial⟩⟩, fun _ => sp_pointed hPs r.2.2.1.1 r.2.2.2.1 (by omega) htk hcs.1 (by omega) (fun w s' t' z' o => kQ _ _ _ _ (re_op hP r2 r.2.1 te1 (by omega) (by omega) (by omega) o))⟩
    refine sp_read hPs hBs r.2.2.1.1 (fun s2 hrd => ?_)
    obtain ⟨g1, g2, g3, g4, g5, g6, g7, g8⟩ := re_read rn.2.1 r hrd hM
    have hP2 := g1.2.1
    have hB2 : NB s2 z := nb_of hBn g1 (by omega) (by omega) g5
    have hc2 := nb_cap hB2 hP2
    have r3 := rl_tr rn g1
    have te2 : TE σ s2 N 0 (ev (upC t u 1 (0 : Int32)) u) := te_rl h0 rn g1 (te_nxt h0 rn) (te_le g6 hN)
    have hh : (upC t u 1 (0 : Int32) u 1).toInt = 0 := by rw [rdA, if_pos rfl]; rfl
    exact ⟨fun _ => sp_one_2 hP2 r.2.2.1.1 hh (by omega) htk hc2.1 (by omega) (fun w s' t' z' o => kQ _ _ _ _ (re_op hP r3 g2 te2 (by omega) (by omega) (by omega) o)), fun _ => sp_pointedTo hP2 r.2.2.1.1 hh htk hc2.1 (fun w s' t' z' o => kQ _ _ _ _ (re_op hP r3 g2 te2 (by omega) (by omega) (by omega) o))⟩
  refine sp_sign hP ⟨18 ≤ (sg σ).toInt ∧ (sg σ).toInt ≤ 42, pre, fun c => ⟨by omega, by omega⟩, fun _ => ⟨fun c => ⟨by omega, by omega⟩, fun _ => ⟨fun c => ⟨by omega, by omega⟩, fun _ => ⟨fun c => ⟨by omega, by omega⟩, fun _ => ⟨fun c => ⟨by omega, by omega⟩, fun _ => ⟨fun c => ⟨by omega, by omega⟩, fun _ => ⟨fun _ => ?_, fun c => ⟨by omega, by omega⟩⟩⟩⟩⟩⟩⟩⟩
  refine ⟨True, fun _ => hB a σ τ vs _ T had hP hB1 kQ kT, fun _ => trivial, fun c20 => ?_⟩
  have hk : kd σ = 52 := sg_kd c20 (by omega) (by omega)
  obtain ⟨rn, pn, wn, icn⟩ := rl_nxt (vs := vs) hP (by omega)
  have e1 : ((σ 0 10) + (1 : Int32)).toInt = (σ 0 10).toInt + 1 := ad1 (by omega)
  have an : ((nxt σ) 0 10) = (σ 0 10) + 1 := nxt_at
  have htn := at_tok rn.2.1.1 rn.2.1.2.1
  rw [an] at htn
  refine ⟨htn, fun _ => trivial, fun hint => ?_⟩
  have hk2 : kd (nxt σ) = 5 := by
    unfold kd
    rw [an]
    exact hint
  refine sp_deeper hP (by omega) (fun hd2 ed => ?_) (fun s hs => kT _ _ _ hs)
  rw [nxt2]
  obtain ⟨rm, pm, wm, icm⟩ := rl_nxt (vs := vs) rn.2.1 (by omega)
  have r2 := rl_tr rn rm
  refine sp_stars r2.2.1 (fun ty s3 ty0 ty5 hs3 => ?_) (fun s' hs => kT _ _ _ (rt_of r2 (by omega) hs))
  have rs := sn_rl (vs := vs) r2.2.1 hs3
  have r3 := rl_tr r2 rs
  obtain ⟨ws, is⟩ := sn_wc hs3
  have ps := hs3.2.2
  refine sp_expect r3.2.1 (by decide) (fun hk3 r4' p4 w4 i4 => ?_) (fun s' hs => kT _ _ _ (rt_of r3 (by omega) hs))
  have r4 := rl_tr r3 r4'
  have hB4 : NB (nxt s3) vs := nb_of hB1 r4 (by omega) (by omega) (by omega)
  refine hU (by omega) _ (nxt s3) τ vs _ T (by omega) r4.2.1 hB4 (fun u s t z r => ?_) (fun s' t' z' hs => kT _ _ _ (rt_of r4 (by omega) hs))
  refine sp_read r.1.2.1 (re_nb hB4 r) r.2.2.1.1 (fun s6 hrd => ?_)
  obtain ⟨g1, g2, g3, g4, g5, g6, g7, g8⟩ := re_read r4.2.1 r hrd hM
  have hP6 := g1.2.1
  have hB6 : NB s6 z := nb_of hB4 g1 (by omega) (by omega) g5
  have hc6 := nb_cap hB6 hP6
  have h06 := hP6.2.2.1.2.2.2.2.1
  have hu := r.2.2.1.1
  have r6 := rl_tr r4 g1
  have te4 : TE σ (nxt s3) N 0 0 := te_rl h0 r3 r4' (te_rl h0 r2 rs (te_rl h0 rn rm (te_nxt h0 rn) (te_nxt rn.2.1.2.2.1.2.2.2.2.1 rm)) (sn_te r2.2.1 hs3)) (te_nxt r3.2.1.2.2.1.2.2.2.2.1 r4')
  have te6 := te_rl h0 r4 g1 te4 (te_le g6 hN)
  have key : ∀ y : Int32, (y.toInt ≠ 0 → (upC t u 1 (0 : Int32) u 0).toInt ≠ -1) → wp_must y (σ 0 10) s6 (upC t u 1 (0 : Int32)) z (fun s215 t215 z215 => wp_made ty u u (σ 0 10) s215 t215 z215 (fun u226 s226 t226 z226 => Q u226 s226 t226 z226)) := fun y hy => sp_must htk (fun s7 hs hf => sp_made hu hu hc6.1 htk (fun q s8 t8 hgt hq hv hs' => by
    have sq := sq_tr (sq_tl hs) (sq_tl hs')
    have rC := sq_rl (vs := z) hP6 sq
    have v9 := vnw_nv hv
    have P8 := pos_sq sq
    have I8 : (s8 0 39).toInt = (s6 0 39).toInt := by rw [ic_sq sq]
    have W8 := (sq_wc sq h06).2.1
    have rF := rl_tr r6 rC
    refine kQ _ _ _ _ ⟨rl_val rF v9, vfr_tr g2 r6.2.2.2.2.2.2.2.2.1 (vfr_vnw hq v9), ⟨by simp, fun c => hq (r6.2.2.2.2.2.2.2.2.1 _ c)⟩, fun c => ?_, by omega, by omega, ?_, ?_⟩
    · rw [(nv_at hv).2.1] at c
      exact absurd c (by decide)
    · simp only [List.length_append, List.length_cons, List.length_nil]
      omega
    · rw [ev_nv hv (by omega)]
      refine te_if (P := (upC t u 1 (0 : Int32) u 0).toInt ≠ -1) (fun a1 a2 => hy (hf (of0 hs'.2 a1) (sil_sq (sq_tl hs') a2))) (fun g => ?_)
      have eu : ev (upC t u 1 (0 : Int32)) u = 1 := ev_st (by rw [rdA, if_pos rfl]; rfl) g
      rw [eu] at te6
      exact te_rl h0 r6 rC te6 (te_sq h06 (sq_tl hs) (sq_tl hs') (te_tl h06 hs) (te_tl (sq_wc (sq_tl hs) h06).1 hs'))))
  exact sp_isAny hu (fun c => key 1 (fun _ => by omega)) (fun _ => key 0 no0)
end UNA
