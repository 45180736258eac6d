/-! ? : -/
section CH2
variable {σ s s' τ t t' : St} {vs z z' : List Nat}
theorem nv_h {u : Nat} {ty hgt v : Int32} (p : NV τ u ty hgt t) : NV τ u ty v (upC t u 3 v) := by
  refine ⟨fun w hw => ?_, ?_⟩
  · show upF t u _ w = _
    rw [upF_ne hw, p.1 w hw]
  · funext f
    rw [rdA, p.2]
    by_cases c : f = 3
    · rw [if_pos c, if_pos c]
    · rw [if_neg c]
      show (if f = 3 then _ else _) = _
      rw [if_neg c, if_neg c]
theorem sp_choice {k1 k2 : KX} {k3 : Int32 → KX} {k4 : Int32 → Nat → Int32 → KX} {k5 k6 k7 : KX} {k8 : Int32 → KX} {d : Int} {M N : Nat} (hd : 1 ≤ d ∧ d ≤ 25) (hB : SXb k3 1 d N) (hE : d + 1 ≤ 25 → SX k1 (d + 1) M) (hC : d + 1 ≤ 25 → SX k2 (d + 1) M) (hM : 1 ≤ M) (hN : M + 1 ≤ N) : SX (wp_choice k1 k2 k3 k4 k5 k6 k7 k8) d N := by
  intro a σ τ vs Q T had hP hB1 kQ kT
  unfold wp_choice
  have h0 := hP.2.2.1.2.2.2.2.1
  refine hB 1 (by decide) a σ τ vs _ T had hP hB1 (fun u s t z r => ?_) kT
  have hPs := r.1.2.1
  have hBs := re_nb hB1 r
  have h0s := hPs.2.2.1.2.2.2.2.1
  have htk := at_tok hPs.1 hPs.2.1
  refine sp_is hPs (fun hk => ⟨fun _ => ?_, no1⟩) (fun _ => ⟨no0, fun _ => kQ _ _ _ _ r⟩)
  have hk2 : kd s = 60 := hk
  refine sp_read hPs hBs r.2.2.1.1 (fun s2 hrd => ?_)
  obtain ⟨g1, g2, g3, g4, g5, g6, g7, g8⟩ := re_read hP r hrd (by omega : 1 ≤ N)
  have hP2 := g1.2.1
  have h02 := hP2.2.2.1.2.2.2.2.1
  have hB2 : NB s2 z := nb_of hB1 g1 (by omega) (by omega) g5
  have hk3 : kd s2 = 60 := by
    have e1 : (s2 0 10) = (s 0 10) := by
      obtain ⟨⟨v1, v2⟩, -⟩ := hPs.2.2.2.2 u
      obtain ⟨p0, p1, p2, p3⟩ := hrd
      rcases (by omega : (t u 1).toInt = 0 ∨ (t u 1).toInt = 1 ∨ (t u 1).toInt = 2 ∨ (t u 1).toInt = 3) with c | c | c | c
      · rw [p0 c]
      · exact (p1 c).1 _ _ rfl rfl
      · obtain ⟨l, q⟩ := p2 c
        exact q.1 _ _ rfl rfl
      · obtain ⟨l, q⟩ := p3 c
        exact q.1 _ _ rfl rfl
    have e2 : (s2 2) = (s 2) := funext (fun j => g8.1 2 j rfl rfl)
    unfold kd
    rw [e1, e2]
    exact hk2
  refine sp_deeper hP2 (by omega) (fun hd2 ed => ?_) (fun s' hs => kT _ _ _ (rt_of g1 g5 hs))
  obtain ⟨rn, pn, wn, icn⟩ := rl_nxt (vs := z) hP2 (by omega)
  have hPn := rn.2.1
  have h5 := hP2.2.2.2.2
  have r3 := rl_tr g1 rn
  have hcap2 := nb_cap hB2 hP2
  show wp_open (16 : Int32) (nxt s2) (upC t u 1 (0 : Int32)) z _
  refine sp_open (by omega) (by omega) (fun a1 s4 p4 e4 => ?_)
  have W4 : (s4 0 17).toInt = ((nxt s2) 0 17).toInt + 2 := p4.2.1
  have r4 := rl_pu (vs := z) (z := z) hPn p4 h5 (fun _ h => h) (Nat.le_refl _)
  have P4 := pos_sq (sq_pu p4)
  have I4 : (s4 0 39).toInt = ((nxt s2) 0 39).toInt := by rw [ic_sq (sq_pu p4)]
  have r34 := rl_tr r3 r4
  have hB4 : NB s4 z := nb_of hB2 (rl_tr rn r4) (by omega) (by omega) (by omega)
  refine hE (by omega) _ s4 _ z _ T (by omega) r4.2.1 hB4 (fun u5 s5 t5 z5 r5 => ?_) (fun s' t' z' hs => kT _ _ _ (rt_of r34 (by omega) hs))
  refine sp_read r5.1.2.1 (re_nb hB4 r5) r5.2.2.1.1 (fun s6 hrd6 => ?_)
  obtain ⟨b1, b2, b3, b4, b5, b6, b7, b8⟩ := re_read r4.2.1 r5 hrd6 hM
  have hP6 := b1.2.1
  have h06 := hP6.2.2.1.2.2.2.2.1
  have hB6 : NB s6 z5 := nb_of hB4 b1 (by omega) (by omega) b5
  have hcap6 := nb_cap hB6 hP6
  have m6 := b1.2.2.2.2.2.1
  refine sp_open h06 (by omega) (fun a7 s7 p7 e7 => ?_)
  have W7 : (s7 0 17).toInt = (s6 0 17).toInt + 2 := p7.2.1
  have n3 : (wcn (nxt s2) : Int) = ((nxt s2) 0 17).toInt := nt (by omega)
  have n6 : (wcn s6 : Int) = (s6 0 17).toInt := nt h06
  have h5' := hP6.2.2.2.2
  refine sp_aim (p := wcn (nxt s2)) (by omega) (by omega) ?_
  have r7 := rl_pu (vs := z5) (z := z5) hP6 p7 h5' (fun _ h => h) (Nat.le_refl _)
  have r37 := rl_tr (rl_tr r34 b1) r7
  have mg1 := g1.2.2.2.2.2.1
  have rA := rl_aim (p := wcn (nxt s2)) r37 (by omega)
  have rA6 := rl_aim (p := wcn (nxt s2)) (rl_tr (rl_tr r4 b1) r7) (by omega)
  have hPA := rA.2.1
  have htA : (s7 0 8) = (σ 0 8) := rl_tok r37
  have PA_ : pos (aimS s7 (wcn (nxt s2))) = pos s6 := (show pos s7 = pos s6 from pos_sq (sq_pu p7))
  have IA : ((aimS s7 (wcn (nxt s2))) 0 39).toInt = (s6 0 39).toInt := by
    show (s7 0 39).toInt = _
    rw [ic_sq (sq_pu p7)]
  have WA : ((aimS s7 (wcn (nxt s2))) 0 17).toInt = (s7 0 17).toInt := rfl
  have SA : ((aimS s7 (wcn (nxt s2))) 0 9).toInt = (σ 0 9).toInt := rl_sz rA
  refine sp_is hPA (fun hk7 => ⟨fun _ => ?_, no1⟩) (fun _ => ⟨no0, fun _ => sp_wrong hPA (fun s' hs => kT _ _ _ (rt_of rA (by omega) hs))⟩)
  have hk7' : kd (aimS s7 (wcn (nxt s2))) = 61 := hk7
  refine sp_deeper hPA (by omega) (fun _ _ => ?_) (fun s' hs => kT _ _ _ (rt_of rA (by omega) hs))
  obtain ⟨ro, po, wo, ico⟩ := rl_nxt (vs := z5) hPA (by omega)
  have rAo := rl_tr rA ro
  have hBo : NB (nxt (aimS s7 (wcn (nxt s2)))) z5 := nb_of hB1 rAo (by omega) (by omega) (by omega)
  refine hC (by omega) _ _ _ z5 _ T (by omega) ro.2.1 hBo (fun u8 s8 t8 z8 r8 => ?_) (fun s' t' z' hs => kT _ _ _ (rt_of rAo (by omega) hs))
  refine sp_read r8.1.2.1 (re_nb hBo r8) r8.2.2.1.1 (fun s9 hrd9 => ?_)
  obtain ⟨f1, f2, f3, f4, f5, f6, f7, f8⟩ := re_read ro.2.1 r8 hrd9 hM
  have hP9 := f1.2.1
  have m9 := f1.2.2.2.2.2.1
  have hB9 := nb_of hBo f1 (by omega) (by omega) f5
  have hcap9 := nb_cap hB9 hP9
  refine sp_aim (p := wcn s6) (by omega) (by omega) ?_
  have r9 := rl_tr rAo f1
  have rB := rl_aim (p := wcn s6) r9 (by omega)
  have hPB := rB.2.1
  have h0B : 0 ≤ ((aimS s9 (wcn s6)) 0 17).toInt := hPB.2.2.1.2.2.2.2.1
  have z1 : u ∈ z8 := f1.2.2.2.2.2.2.2.2.1 _ (b1.2.2.2.2.2.2.2.2.1 _ r.2.2.1.1)
  have z5' : u5 ∈ z8 := f1.2.2.2.2.2.2.2.2.1 _ r5.2.2.1.1
  have z8' := r8.2.2.1.1
  have ne5 : u5 ≠ u8 := fun e => r8.2.2.1.2 (e ▸ r5.2.2.1.1)
  have ne1 : u ≠ u8 := fun e => r8.2.2.1.2 (e ▸ b1.2.2.2.2.2.2.2.2.1 _ r.2.2.1.1)
  have ne15 : u ≠ u5 := fun e => r5.2.2.1.2 (e ▸ r.2.2.1.1)
  have F5 : (upC t8 u8 1 (0 : Int32)) u5 = upC t5 u5 1 (0 : Int32) u5 := by
    show upF t8 u8 _ u5 = _
    rw [upF_ne ne5]
    exact r8.2.1 u5 r5.2.2.1.1
  have F1 : (upC t8 u8 1 (0 : Int32)) u = upC t u 1 (0 : Int32) u := by
    show upF t8 u8 _ u = _
    rw [upF_ne ne1, r8.2.1 u (b1.2.2.2.2.2.2.2.2.1 _ r.2.2.1.1)]
    show upF t5 u5 _ u = _
    rw [upF_ne ne15]
    exact r5.2.1 u r.2.2.1.1
  -- the values' types
  have zz := hPB.2.2.2.2
  have key : ∀ (y : Int32) (y2 : Int32), (y2.toInt ≠ 0 → (upC t8 u8 1 (0 : Int32) u 0).toInt ≠ -1 ∧ (upC t8 u8 1 (0 : Int32) u5 0).toInt ≠ -1 ∧ (upC t8 u8 1 (0 : Int32) u8 0).toInt ≠ -1) → (y.toInt ≠ 0 → (upC t8 u8 1 (0 : Int32) u5 0).toInt ≠ -1 ∧ (upC t8 u8 1 (0 : Int32) u8 0).toInt ≠ -1) → wp_must y2 (s 0 10) (aimS s9 (wcn s6)) (upC t8 u8 1 (0 : Int32)) z8 (fun s211 t211 z211 => (∃ J238 : Int32 → Prop, (∀ (y1_238 : Int32), J238 y1_238 → (wp_made y1_238 u5 u8 (s 0 10) s211 t211 z211 (fun u243 s243 t243 z243 => (u ∈ z243 ∧ (u243 ∈ z243 ∧ (((t243 u 3) + (1 : Int32)).toInt ≤ (t243 u243 3).toInt → Q u243 s243 t243 z243) ∧ ((t243 u243 3).toInt < ((t243 u 3) + (1 : Int32)).toInt → (((t243 u 3) + (1 : Int32)).toInt ≤ 60 → Q u243 s243 (upC t243 u243 3 ((t243 u 3) + (1 : Int32))) z243) ∧ (60 < ((t243 u 3) + (1 : Int32)).toInt → wp_tell (4 : Int32) (s 0 10) s243 (upC t243 u243 3 ((t243 u 3) + (1 : Int32))) z243 (fun s286 t286 z286 => Q u243 s286 t286 z286)))))))) ∧ (y.toInt = 0 → J238 ((-2) : Int32)) ∧ (y.toInt ≠ 0 → (u5 ∈ z211 ∧ (u8 ∈ z211 ∧ J238 (if (t211 u5 0) < (t211 u8 0) then (t211 u8 0) else (t211 u5 0))))))) := fun y y2 hy2 hy => by
    refine sp_must htk (fun s10 hs hf => ⟨fun ty => ty.toInt ≠ -1, fun ty hty => sp_made z5' z8' hcap9.1 htk (fun q s11 t11 hgt hq hv hs' => ?_), fun _ => by decide, fun c => ⟨z5', z8', ?_⟩⟩)
    rotate_left 1
    · obtain ⟨c1, c2⟩ := hy c
      show (if (upC t8 u8 1 (0 : Int32) u5 0) < (upC t8 u8 1 (0 : Int32) u8 0) then (upC t8 u8 1 (0 : Int32) u8 0) else (upC t8 u8 1 (0 : Int32) u5 0)).toInt ≠ -1
      split
      · exact c2
      · exact c1
    have fin : ∀ s12 t12 hgt2, NV (upC t8 u8 1 (0 : Int32)) q ty hgt2 t12 → TL s11 s12 → Q q s12 t12 (z8 ++ [q]) := fun s12 t12 hgt2 hv2 hs2 => by
      have sq := sq_tr (sq_tl hs) (sq_tr (sq_tl hs') (sq_tl hs2))
      have rC := sq_rl (vs := z8) hPB sq
      have rF := rl_tr rB rC
      have v9 := vnw_nv hv2
      have PF : pos s12 = pos s9 := (show pos s12 = pos (aimS s9 (wcn s6)) from pos_sq sq)
      have IF : (s12 0 39).toInt = (s9 0 39).toInt := by rw [ic_sq sq]; rfl
      have WF : (s12 0 17).toInt = (s9 0 17).toInt := by
        have a1 := sq.2.2.2.1
        have a2 := sq.2.2.2.2
        have a3 : ((aimS s9 (wcn s6)) 0 17).toInt = (s9 0 17).toInt := rfl
        omega
      refine kQ _ _ _ _ ⟨rl_val rF v9, ?_, ⟨by simp, fun c => hq (rB.2.2.2.2.2.2.2.2.1 _ c)⟩, fun c => ?_, by omega, by omega, ?_, ?_⟩
      · have w1 := vfr_tr g2 g1.2.2.2.2.2.2.2.2.1 b2
        have w2 := vfr_tr w1 (fun w hw => b1.2.2.2.2.2.2.2.2.1 _ (g1.2.2.2.2.2.2.2.2.1 _ hw)) f2
        exact vfr_tr w2 rB.2.2.2.2.2.2.2.2.1 (vfr_vnw hq v9)
      · rw [(nv_at hv2).2.1] at c
        exact absurd c (by decide)
      · simp only [List.length_append, List.length_cons, List.length_nil]
        omega
      · rw [ev_nv hv2 hty]
        refine te_if (P := (upC t8 u8 1 (0 : Int32) u 0).toInt ≠ -1 ∧ (upC t8 u8 1 (0 : Int32) u5 0).toInt ≠ -1 ∧ (upC t8 u8 1 (0 : Int32) u8 0).toInt ≠ -1) (fun a1 a2 => hy2 (hf (of0 hs'.2 (of0 hs2.2 a1)) (sil_sq (sq_tr (sq_tl hs') (sq_tl hs2)) a2))) (fun g => ?_)
        have eu : ev (upC t u 1 (0 : Int32)) u = 1 := ev_st (by rw [rdA, if_pos rfl]; rfl) (by rw [← F1]; exact g.1)
        have eu5 : ev (upC t5 u5 1 (0 : Int32)) u5 = 1 := ev_st (by rw [rdA, if_pos rfl]; rfl) (by rw [← F5]; exact g.2.1)
        have eu8 : ev (upC t8 u8 1 (0 : Int32)) u8 = 1 := ev_st (by rw [rdA, if_pos rfl]; rfl) g.2.2
        rw [eu] at g6
        rw [eu5] at b6
        rw [eu8] at f6
        have t1 : TE σ (nxt s2) N 0 1 := te_rl h0 g1 rn g6 (te_nxt h02 rn)
        have h0A : 0 ≤ ((aimS s7 (wcn (nxt s2))) 0 17).toInt := hPA.2.2.1.2.2.2.2.1
        have t5 : TE (aimS s7 (wcn (nxt s2))) s9 M 0 1 := te_rl h0A ro f1 (te_nxt h0A ro) f6
        have tf : TE (nxt s2) (aimS s9 (wcn s6)) N 1 1 := te_fork (Or.inl rfl) (by omega) p4 b1.2.2.1 b1.2.2.2.2.2.1 b6 p7 rfl (rl_tr ro f1).2.2.1 (rl_tr ro f1).2.2.2.2.2.1 t5 rfl (of_tr (of_eq (σ := s6) (s := aimS s7 (wcn (nxt s2))) (p7.1 0 12 rfl rfl)) (rl_tr ro f1).2.2.2.2.1) ((rl_sil (rl_tr ro f1)).trans (p7.1 0 15 rfl rfl)) hN
        have rn9 : RL (nxt s2) z (aimS s9 (wcn s6)) (upC t8 u8 1 (0 : Int32)) z8 := rl_aim (rl_tr (rl_tr rA6 ro) f1) (by omega)
        exact te_rl h0 rB rC (te_rl h0 r3 rn9 t1 tf) (te_sq h0B (sq_tl hs) (sq_tr (sq_tl hs') (sq_tl hs2)) (te_tl h0B hs) (te_sq (sq_wc (sq_tl hs) h0B).1 (sq_tl hs') (sq_tl hs2) (te_tl (sq_wc (sq_tl hs) h0B).1 hs') (te_tl (sq_wc (sq_tr (sq_tl hs) (sq_tl hs')) h0B).1 hs2)))
    refine ⟨by simp [z1], by simp, fun _ => fin _ _ _ hv tl_rf, fun _ => ⟨fun _ => fin _ _ _ (nv_h hv) tl_rf, fun _ => sp_tell (by decide) htk (fun s12 hs2 _ => fin _ _ _ (nv_h hv) hs2)⟩⟩
  refine ⟨z5', z8', fun y => y.toInt ≠ 0 → (upC t8 u8 1 (0 : Int32) u5 0).toInt ≠ -1 ∧ (upC t8 u8 1 (0 : Int32) u8 0).toInt ≠ -1, fun y _ hy => sp_isAny z1 (fun c1 => ⟨fun y2 => y2.toInt ≠ 0 → (upC t8 u8 1 (0 : Int32) u 0).toInt ≠ -1 ∧ (upC t8 u8 1 (0 : Int32) u5 0).toInt ≠ -1 ∧ (upC t8 u8 1 (0 : Int32) u8 0).toInt ≠ -1, fun y2 _ hy2 => key y y2 hy2 hy, ⟨True, fun _ => no0, no1, fun _ => ⟨fun _ => trivial, fun c _ => ⟨by omega, hy c⟩⟩⟩⟩) (fun c1 => ⟨fun y2 => y2.toInt ≠ 0 → (upC t8 u8 1 (0 : Int32) u 0).toInt ≠ -1 ∧ (upC t8 u8 1 (0 : Int32) u5 0).toInt ≠ -1 ∧ (upC t8 u8 1 (0 : Int32) u8 0).toInt ≠ -1, fun y2 _ hy2 => key y y2 hy2 hy, ⟨True, fun _ => no0, fun _ => trivial, no0⟩⟩), ?_⟩
  have zz5 := (zz u5).2.2.2.2.2
  have zz8 := (zz u8).2.2.2.2.2
  have j189 : ∀ {P : Prop}, (P → (0 : Int32).toInt ≠ 0 → (upC t8 u8 1 (0 : Int32) u5 0).toInt ≠ -1 ∧ (upC t8 u8 1 (0 : Int32) u8 0).toInt ≠ -1) := fun _ c => absurd rfl c
  refine ⟨(upC t8 u8 1 (0 : Int32) u5 0).toInt ≠ -1 ∧ (upC t8 u8 1 (0 : Int32) u8 0).toInt ≠ -1, fun c _ => c, ⟨True, fun _ => ?_, fun _ => trivial, fun ce => sp_isAny z5' (fun c => ⟨fun _ => ⟨by omega, by omega⟩, fun _ => trivial⟩) (fun _ => ⟨no0, fun _ => trivial⟩)⟩⟩
  have P2 : wp_isPointer u8 (aimS s9 (wcn s6)) (upC t8 u8 1 (0 : Int32)) z8 (fun v171 => (∃ J189 : Prop, (J189 → ((0 : Int32).toInt ≠ 0 → (upC t8 u8 1 (0 : Int32) u5 0).toInt ≠ -1 ∧ (upC t8 u8 1 (0 : Int32) u8 0).toInt ≠ -1)) ∧ (v171.toInt = 0 → J189) ∧ (v171.toInt ≠ 0 → ((upC t8 u8 1 (0 : Int32) u5 5).toInt = 0 → J189) ∧ ((upC t8 u8 1 (0 : Int32) u5 5).toInt ≠ 0 → (upC t8 u8 1 (0 : Int32) u5 0).toInt ≠ -1 ∧ (upC t8 u8 1 (0 : Int32) u8 0).toInt ≠ -1)))) := sp_isPointer z8' (fun c => ⟨True, fun _ => no0, no1, fun _ => ⟨fun _ => trivial, fun cz => ⟨by have := zz5 cz; omega, by omega⟩⟩⟩) (fun _ => ⟨True, fun _ => no0, fun _ => trivial, no0⟩)
  exact sp_isPointer z5' (fun c => ⟨True, fun _ => P2, no1, fun _ => ⟨fun cz => ⟨by omega, by have := zz8 cz; omega⟩, fun _ => trivial⟩⟩) (fun _ => ⟨True, fun _ => P2, fun _ => trivial, no0⟩)
end CH2
