/-! behind: [ ], ++, -- -/
section BEH
variable {σ s s' τ t t' : St} {vs z z' : List Nat}
theorem rd_kd {u : Nat} (h : PA s t) (p : RDx s t u s') : kd s' = kd s ∧ (s' 0 10) = (s 0 10) := by
  obtain ⟨⟨v1, v2⟩, -⟩ := h.2.2.2.2 u
  have key : ∀ ws : List Int32, PU s s' ws → kd s' = kd s ∧ (s' 0 10) = (s 0 10) := fun ws q => by
    have e1 : (s' 0 10) = (s 0 10) := q.1 _ _ rfl rfl
    have e2 : (s' 2) = (s 2) := funext (fun j => q.1 2 j rfl rfl)
    unfold kd
    rw [e1, e2]
    exact ⟨rfl, rfl⟩
  obtain ⟨p0, p1, p2, p3⟩ := p
  rcases (by omega : (t u 1).toInt = 0 ∨ (t u 1).toInt = 1 ∨ (t u 1).toInt = 2 ∨ (t u 1).toInt = 3) with c | c | c | c
  · rw [p0 c]
    exact ⟨rfl, rfl⟩
  · exact key _ (p1 c)
  · obtain ⟨l, q⟩ := p2 c
    exact key _ q
  · obtain ⟨l, q⟩ := p3 c
    exact key _ q
theorem sp_behind {k1 k2 : KX} {k3 : Int32 → KX} {k4 : Int32 → Nat → Int32 → KX} {k5 k6 k7 : KX} {k8 : Int32 → KX} {d : Int} {M N : Nat} (hd : 1 ≤ d ∧ d ≤ 25) (hP7 : SX k7 d N) (hE : d + 1 ≤ 25 → SX k1 (d + 1) M) (hM : 1 ≤ M) (hN : M + 1 ≤ N) : SX (wp_behind k1 k2 k3 k4 k5 k6 k7 k8) d N := by
  intro a σ τ vs Q T had hP hB1 kQ kT
  unfold wp_behind
  have h0 := hP.2.2.1.2.2.2.2.1
  refine hP7 a σ τ vs _ T had hP hB1 (fun u2 s2 t2 z2 r2 => ?_) kT
  refine ⟨fun n x s t z => n = ((σ 0 9).toInt - pos s).toNat ∧ RE σ τ vs N 0 x s t z, ⟨_, rfl, r2⟩, fun n x s t z ⟨hn, r⟩ => ?_⟩
  have hPs := r.1.2.1
  have hBs := re_nb hB1 r
  have hcs := nb_cap hBs hPs
  have h0s := hPs.2.2.1.2.2.2.2.1
  have htk := at_tok hPs.1 hPs.2.1
  have hx := r.2.2.1.1
  have q1 := r.2.2.2.2.1
  have q2 := r.2.2.2.2.2.1
  have q3 := r.2.2.2.2.2.2.1
  have hsz := rl_sz r.1
  have back : ∀ u s' t' z', RE σ τ vs N 0 u s' t' z' → pos s < pos s' → ∃ m, m < n ∧ (m = ((σ 0 9).toInt - pos s').toNat ∧ RE σ τ vs N 0 u s' t' z') := fun u s' t' z' r' hp => by
    have := pos_in r'.1.2.1.1 r'.1.2.1.2.1
    have e := rl_sz r'.1
    exact ⟨_, by omega, rfl, r'⟩
  have main : (kd s = 56 ∨ kd s = 50 ∨ kd s = 51) → wp_is (24 : Int32) s t z (fun v41 => (v41.toInt ≠ 0 → wp_read_1 x s t z (fun s78 t78 z78 => wp_deeper a s78 t78 z78 (fun v83 s83 t83 z83 => k1 v83 (upC s83 0 10 ((s83 0 10) + (1 : Int32))) t83 z83 (fun u101 s101 t101 z101 => wp_read_1 u101 s101 t101 z101 (fun s109 t109 z109 => wp_expect (25 : Int32) s109 t109 z109 (fun s115 t115 z115 => wp_isPointer x s115 t115 z115 (fun v120 => (∃ J139 : Int32 → Prop, (∀ (y1_139 : Int32), y1_139 = 0 ∨ y1_139 = 1 → J139 y1_139 → (wp_must y1_139 (s 0 10) s115 t115 z115 (fun s140 t140 z140 => wp_isPointer x s140 t140 z140 (fun v145 => (∃ J162 : Int32 → Prop, (∀ (y1_162 : Int32), J162 y1_162 → (wp_made y1_162 x u101 (s 0 10) s140 t140 z140 (fun u166 s166 t166 z166 => wp_put_2 (11 : Int32) (36 : Int32) (0 : Int32) s166 t166 z166 (fun s177 t177 z177 => (u166 ∈ z177 ∧ ∃ m, m < n ∧ (m = ((σ 0 9).toInt - pos s177).toNat ∧ RE σ τ vs N 0 u166 s177 (upC (upC t177 u166 1 (3 : Int32)) u166 4 (s 0 10)) z177)))))) ∧ (v145.toInt = 0 → J162 ((-2) : Int32)) ∧ (v145.toInt ≠ 0 → (x ∈ z140 ∧ J162 ((t140 x 0) - (1 : Int32))))))))) ∧ (∃ J138 : Prop, (J138 → (J139 (0 : Int32))) ∧ (v120.toInt = 0 → J138) ∧ (v120.toInt ≠ 0 → wp_isInt u101 s115 t115 z115 (fun v128 => (v128.toInt = 0 → J138) ∧ (v128.toInt ≠ 0 → J139 (1 : Int32)))))))) T)) T) T)) ∧ (v41.toInt = 0 → wp_sign s t z (fun v48 => wp_stepped x v48 (1 : Int32) (s 0 10) (upC s 0 10 ((s 0 10) + (1 : Int32))) t z (fun u69 s69 t69 z69 => ∃ m, m < n ∧ (m = ((σ 0 9).toInt - pos s69).toNat ∧ RE σ τ vs N 0 u69 s69 t69 z69))))) := fun hc => by
    refine sp_is hPs (fun hk => ⟨fun _ => ?_, no1⟩) (fun _ => ⟨no0, fun _ => sp_sign hPs ?_⟩)
    · -- [ ]
      have hk2 : kd s = 56 := hk
      refine sp_read hPs hBs hx (fun s3 hrd => ?_)
      obtain ⟨g1, g2, g3, g4, g5, g6, g7, g8⟩ := re_read hP r hrd (by omega)
      have hP3 := g1.2.1
      have h03 := hP3.2.2.1.2.2.2.2.1
      have hk3 : kd s3 = 56 := by rw [(rd_kd hPs hrd).1]; exact hk2
      refine sp_deeper hP3 (by omega) (fun hd2 ed => ?_) (fun s' hs => kT _ _ _ (rt_of g1 g5 hs))
      obtain ⟨rn, pn, wn, icn⟩ := rl_nxt (vs := z) hP3 (by omega)
      have r4 := rl_tr g1 rn
      have hB4 : NB (nxt s3) z := nb_of hB1 r4 (by omega) (by omega) (by omega)
      show k1 _ (nxt s3) _ z _ T
      refine hE (by omega) _ (nxt s3) _ z _ T (by omega) rn.2.1 hB4 (fun u s5 t5 z5 r5 => ?_) (fun s' t' z' hs => kT _ _ _ (rt_of r4 (by omega) hs))
      refine sp_read r5.1.2.1 (re_nb hB4 r5) r5.2.2.1.1 (fun s6 hrd6 => ?_)
      obtain ⟨b1, b2, b3, b4, b5, b6, b7, b8⟩ := re_read rn.2.1 r5 hrd6 hM
      have hP6 := b1.2.1
      have r6 := rl_tr r4 b1
      have m6 := b1.2.2.2.2.2.2.2.1
      refine sp_expect hP6 (by decide) (fun hk6 r7' p7 w7 i7 => ?_) (fun s' hs => kT _ _ _ (rt_of r6 (by omega) hs))
      have hP7 := r7'.2.1
      have h07 := hP7.2.2.1.2.2.2.2.1
      have r7 := rl_tr r6 r7'
      have hB7 : NB (nxt s6) z5 := nb_of hB1 r7 (by omega) (by omega) (by omega)
      have hc7 := nb_cap hB7 hP7
      have hx5 : x ∈ z5 := b1.2.2.2.2.2.2.2.2.1 _ hx
      have hu5 := r5.2.2.1.1
      have hne : x ≠ u := fun e => r5.2.2.1.2 (e ▸ hx)
      have fx : (upC t5 u 1 (0 : Int32)) x = upC t x 1 (0 : Int32) x := by
        show upF t5 u _ x = _
        rw [upF_ne hne]
        exact r5.2.1 x hx
      have te7 : 0 < (upC t5 u 1 (0 : Int32) x 0).toInt ∧ (upC t5 u 1 (0 : Int32) u 0).toInt = 0 → TE σ (nxt s6) N 0 2 := fun g => by
        have ex : ev (upC t x 1 (0 : Int32)) x = 1 := ev_st (by rw [rdA, if_pos rfl]; rfl) (by rw [← fx]; omega)
        have eu : ev (upC t5 u 1 (0 : Int32)) u = 1 := ev_st (by rw [rdA, if_pos rfl]; rfl) (by omega)
        rw [ex] at g6
        rw [eu] at b6
        have t4 : TE σ (nxt s3) N 0 1 := te_rl h0 g1 rn g6 (te_nxt h03 rn)
        exact te_rl h0 r6 r7' (te_rl h0 r4 b1 t4 (te_up (c := 1) b6 (by omega))) (te_nxt hP6.2.2.1.2.2.2.2.1 r7')
      have key : ∀ y : Int32, (y.toInt ≠ 0 → 0 < (upC t5 u 1 (0 : Int32) x 0).toInt ∧ (upC t5 u 1 (0 : Int32) u 0).toInt = 0) → wp_must y (s 0 10) (nxt s6) (upC t5 u 1 (0 : Int32)) z5 (fun s140 t140 z140 => wp_isPointer x s140 t140 z140 (fun v145 => (∃ J162 : Int32 → Prop, (∀ (y1_162 : Int32), J162 y1_162 → (wp_made y1_162 x u (s 0 10) s140 t140 z140 (fun u166 s166 t166 z166 => wp_put_2 (11 : Int32) (36 : Int32) (0 : Int32) s166 t166 z166 (fun s177 t177 z177 => (u166 ∈ z177 ∧ ∃ m, m < n ∧ (m = ((σ 0 9).toInt - pos s177).toNat ∧ RE σ τ vs N 0 u166 s177 (upC (upC t177 u166 1 (3 : Int32)) u166 4 (s 0 10)) z177)))))) ∧ (v145.toInt = 0 → J162 ((-2) : Int32)) ∧ (v145.toInt ≠ 0 → (x ∈ z140 ∧ J162 ((t140 x 0) - (1 : Int32)))))) ) := fun y hy => by
        refine sp_must htk (fun s8 hs hf => ?_)
        have mk : ∀ ty : Int32, ty.toInt ≠ -1 → wp_made ty x u (s 0 10) s8 (upC t5 u 1 (0 : Int32)) z5 (fun u166 s166 t166 z166 => wp_put_2 (11 : Int32) (36 : Int32) (0 : Int32) s166 t166 z166 (fun s177 t177 z177 => (u166 ∈ z177 ∧ ∃ m, m < n ∧ (m = ((σ 0 9).toInt - pos s177).toNat ∧ RE σ τ vs N 0 u166 s177 (upC (upC t177 u166 1 (3 : Int32)) u166 4 (s 0 10)) z177)))) := fun ty hty => by
          refine sp_made hx5 hu5 hc7.1 htk (fun q s9 t9 hgt hq hv hs' => ?_)
          have sq := sq_tr (sq_tl hs) (sq_tl hs')
          have w9 := sq_wc sq h07
          refine sp_put_2 w9.1 (by omega) (fun s10 p10 => ⟨by simp, ?_⟩)
          have sq10 := sq_tr sq (sq_pu p10)
          have rC := sq_rl (vs := z5) hP7 sq10
          have rF := rl_tr r7 rC
          have et : (t9 q 0).toInt = ty.toInt := by rw [(nv_at hv).1]
          have v9 := vnw_how (hw := 3) (vnw_nv hv) (by decide) htk (by rw [et]; exact hty)
          have P10 := pos_sq sq10
          have I10 : (s10 0 39).toInt = ((nxt s6) 0 39).toInt := by rw [ic_sq sq10]
          have W10 := (sq_wc sq10 h07).2.1
          simp only [List.length_cons, List.length_nil] at W10
          refine back _ _ _ _ ⟨rl_val rF v9, vfr_tr (vfr_tr g2 g1.2.2.2.2.2.2.2.2.1 b2) r7.2.2.2.2.2.2.2.2.1 (vfr_vnw hq v9), ⟨by simp, fun c => hq (r7.2.2.2.2.2.2.2.2.1 _ c)⟩, fun c => ?_, by omega, by omega, ?_, ?_⟩ (by omega)
          · simp only [rdA, Nat.reduceEqDiff, if_true, if_false] at c
            exact absurd c (by decide)
          · simp only [List.length_append, List.length_cons, List.length_nil]
            omega
          · have e9 : ev (upC (upC t9 q 1 (3 : Int32)) q 4 (s 0 10)) q = 1 := by
              refine ev_1 (Or.inr ?_) ?_
              · simp only [rdA, Nat.reduceEqDiff, if_true, if_false]; rfl
              · simp only [rdA, Nat.reduceEqDiff, if_true, if_false]
                rw [et]; exact hty
            rw [e9]
            refine te_if (fun a1 a2 => hy (hf (of0 hs'.2 (of0 (sq_pu p10).2.1 a1)) (sil_sq (sq_tr (sq_tl hs') (sq_pu p10)) a2))) (fun g => ?_)
            refine te_rl h0 r7 rC (te7 g) (te_sq h07 sq (sq_pu p10) (te_sq h07 (sq_tl hs) (sq_tl hs') (te_tl h07 hs) (te_tl (sq_wc (sq_tl hs) h07).1 hs')) (te_put (n := 3) w9.1 p10 rfl (by decide) rfl (k := 11) rfl (fun g' H L x hH hn hx => ⟨by omega, ?_⟩) (by omega)))
            have e9 : H + 2 - 1 = H + 1 := by omega
            rw [e9]; exact hn
        refine sp_isPointer hx5 (fun c => ⟨fun ty => ty.toInt ≠ -1, mk, no1, fun _ => ⟨hx5, ?_⟩⟩) (fun _ => ⟨fun ty => ty.toInt ≠ -1, mk, fun _ => by decide, no0⟩)
        have e := sb1 (x := upC t5 u 1 (0 : Int32) x 0) (by omega)
        show (upC t5 u 1 (0 : Int32) x 0 - (1 : Int32)).toInt ≠ -1
        omega
      refine sp_isPointer hx5 (fun c => ⟨fun y => y.toInt ≠ 0 → 0 < (upC t5 u 1 (0 : Int32) x 0).toInt ∧ (upC t5 u 1 (0 : Int32) u 0).toInt = 0, fun y _ hy => key y hy, ⟨True, fun _ => no0, no1, fun _ => sp_isInt hu5 (fun c2 => ⟨no1, fun _ _ => ⟨c, c2⟩⟩) (fun _ => ⟨fun _ => trivial, no0⟩)⟩⟩) (fun c => ⟨fun y => y.toInt ≠ 0 → 0 < (upC t5 u 1 (0 : Int32) x 0).toInt ∧ (upC t5 u 1 (0 : Int32) u 0).toInt = 0, fun y _ hy => key y hy, ⟨True, fun _ => no0, fun _ => trivial, no0⟩⟩)
    · -- ++, --
      obtain ⟨rn, pn, wn, icn⟩ := rl_nxt (vs := z) hPs (by omega)
      have rA := rl_tr r.1 rn
      refine sp_stepped (σ := nxt s) (N := N) rn.2.1 hx r.2.2.2.1 (by show ((nxt s) 0 17).toInt ≤ 499000; omega) htk hcs.1 (by omega) (fun w s' t' z' o => ?_)
      refine back _ _ _ _ (re_op hP rA r.2.1 (te_rl h0 r.1 rn r.2.2.2.2.2.2.2 (te_nxt h0s rn)) (by omega) (by omega) (by omega) o) ?_
      have := o.1.2.2.2.2.2.2.2.1
      omega
  refine sp_is hPs (fun hk => ⟨_, main, fun _ => Or.inl hk, no1⟩) (fun h56 => ⟨_, main, no0, fun _ => sp_is hPs (fun hk => ⟨fun _ => Or.inr (Or.inl hk), no1⟩) (fun h50 => ⟨no0, fun _ => sp_is hPs (fun hk => ⟨no1, fun _ => Or.inr (Or.inr hk)⟩) (fun h51 => ⟨fun _ => kQ _ _ _ _ r, no0⟩)⟩)⟩)
end BEH
