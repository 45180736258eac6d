/-! initials in functions -/
section INI
variable {σ s s' τ t t' : St} {vs z z' : List Nat}
theorem sp_one1L {ty c n f : Int32} {Q : Int32 → St → St → List Nat → Prop} {T : St → St → List Nat → Prop} (h : PA σ τ) (hB : NB σ vs) (hf : f.toInt ≠ 0) (hty : 0 ≤ ty.toInt) (hn : 0 ≤ n.toInt → n.toInt ≤ 99 ∧ n.toInt < (σ 0 49).toInt) (k : ∀ (v : Int32) s t z, (v = 0 ∨ v = 1) → RL σ vs s t z → NCt σ vs s z 12 → pos σ < pos s → (v.toInt ≠ 0 → (0 ≤ n.toInt ∧ ((σ 32) n.toNatClampNeg).toInt < 0 → TE σ s 501 0 0) ∧ (n.toInt < 0 → TE σ s 501 0 1)) → Q v s t z) (kT : ∀ s t z, RTx σ vs s t z → T s t z) : wp_one_1 ty c n f σ τ vs Q T := by
  have h0 := h.2.2.1.2.2.2.2.1
  unfold wp_one_1
  refine sx_expr 1 σ τ vs _ T (by decide) h hB (fun u s t z r => ?_) kT
  refine sp_read r.1.2.1 (re_nb hB r) r.2.2.1.1 (fun s2 hrd => ⟨fun _ => ?_, fun c => absurd c hf⟩)
  obtain ⟨g1, g2, g3, g4, g5, g6, g7, g8⟩ := re_read h r hrd (by omega)
  have hP2 := g1.2.1
  have h02 := hP2.2.2.1.2.2.2.2.1
  have hc2 := nb_cap (nb_of hB g1 (by omega) (by omega) g5) hP2
  have hu := r.2.2.1.1
  have m2 := g1.2.2.2.2.2.1
  have els : ∀ j, (s2 32) j = (σ 32) j := fun j => g1.1 32 j rfl rfl
  have fin : ∀ (s3 : St) (N : Int), SQ s2 s3 N → N ≤ 3 → ((upC t u 1 (0 : Int32) u 0).toInt ≠ -1 → (0 ≤ n.toInt ∧ ((σ 32) n.toNatClampNeg).toInt < 0 → TE σ s3 501 0 0) ∧ (n.toInt < 0 → TE σ s3 501 0 1)) → wp_fits u ty s3 (upC t u 1 (0 : Int32)) z (fun v130 => Q v130 s3 (upC t u 1 (0 : Int32)) z) := fun s3 N sq hN hte => by
    have rC := sq_rl (vs := z) hP2 sq
    have P3 := pos_sq sq
    have I3 : (s3 0 39).toInt = (s2 0 39).toInt := by rw [ic_sq sq]
    have W3 := sq.2.2.2.2
    refine sp_fits hu (fun c => k 1 _ _ _ (Or.inr rfl) (rl_tr g1 rC) ⟨by omega, by omega, by omega⟩ (by omega) (fun _ => hte ?_)) (k 0 _ _ _ (Or.inl rfl) (rl_tr g1 rC) ⟨by omega, by omega, by omega⟩ (by omega) no0)
    rcases c with c | ⟨-, c⟩
    · omega
    · have := (hP2.2.2.2.2 u).2.2.2.2.2 c
      omega
  have eu : (upC t u 1 (0 : Int32) u 0).toInt ≠ -1 → ev (upC t u 1 (0 : Int32)) u = 1 := fun c => ev_st (by rw [rdA, if_pos rfl]; rfl) c
  have sq0 : SQ s2 s2 0 := sq_rf
  refine ⟨fun s3 t3 z3 => upC t u 1 (0 : Int32) = t3 ∧ z = z3 ∧ ((n.toInt < 0 ∨ 0 ≤ ((σ 32) n.toNatClampNeg).toInt) → s3 = s2) ∧ (0 ≤ n.toInt ∧ ((σ 32) n.toNatClampNeg).toInt < 0 → PU s2 s3 [7, n]), ?_, fun c => ⟨rfl, rfl, fun _ => rfl, fun q => by omega⟩, fun c => ⟨by have := hn c; omega, fun c2 => ⟨rfl, rfl, fun _ => rfl, fun q => by rw [els] at c2; omega⟩, fun c2 => sp_put_1 h02 (by omega) (fun s3 p3 => ⟨rfl, rfl, fun q => by rw [els] at c2; omega, fun _ => p3⟩)⟩⟩
  rintro s3 _ _ ⟨rfl, rfl, a1, a2⟩
  have el3 : (s3 32) n.toNatClampNeg = (σ 32) n.toNatClampNeg := by
    by_cases c : 0 ≤ n.toInt ∧ ((σ 32) n.toNatClampNeg).toInt < 0
    · rw [(a2 c).1 32 _ rfl rfl]; exact els _
    · rw [a1 (by omega)]; exact els _
  refine ⟨fun s4 t4 z4 => upC t u 1 (0 : Int32) = t4 ∧ z = z4 ∧ ∃ N, SQ s2 s4 N ∧ N ≤ 3 ∧ ((upC t u 1 (0 : Int32) u 0).toInt ≠ -1 → (0 ≤ n.toInt ∧ ((σ 32) n.toNatClampNeg).toInt < 0 → TE σ s4 501 0 0) ∧ (n.toInt < 0 → TE σ s4 501 0 1)), ?_, fun c => ?_, fun c => ⟨by have := hn c; omega, fun c2 => ?_, fun c2 => ?_⟩⟩
  · rintro s4 _ _ ⟨rfl, rfl, N, b1, b2, b3⟩
    exact fin s4 N b1 b2 b3
  · have e := a1 (Or.inl c)
    subst e
    refine ⟨rfl, rfl, 0, sq0, by omega, fun q => ⟨fun q2 => by omega, fun _ => ?_⟩⟩
    rw [eu q] at g6
    exact g6
  · rw [el3] at c2
    have e := a1 (Or.inr c2)
    subst e
    exact ⟨rfl, rfl, 0, sq0, by omega, fun q => ⟨fun q2 => by omega, fun q2 => by omega⟩⟩
  · rw [el3] at c2
    have p3 := a2 ⟨c, c2⟩
    have w3 := sq_wc (sq_pu p3) h02
    simp only [List.length_cons, List.length_nil] at w3
    refine sp_put_0 w3.1 (by omega) (fun s4 p4 => ⟨rfl, rfl, 3, sq_tr (sq_pu p3) (sq_pu p4), by omega, fun q => ⟨fun _ => ?_, fun q2 => by omega⟩⟩)
    rw [eu q] at g6
    have nl := hn c
    have el : (s3 0 49) = (σ 0 49) := (p3.1 0 49 rfl rfl).trans (rl_loc g1)
    have t1 : TE s2 s3 501 1 1 := te_put (n := 2) h02 p3 rfl (by decide) rfl (k := 7) rfl (fun g' H L x hH hn9 hx => ⟨by rw [hx _ rfl, el]; omega, by omega, hn9⟩) (by omega)
    have t2 : TE s3 s4 501 1 0 := te_put (n := 1) w3.1 p4 rfl (by decide) rfl (k := 10) rfl (fun g' H L x hH hn9 hx => ⟨by omega, by
      have e9 : H + 1 - 1 = H + 0 := by omega
      rw [e9]; exact hn9⟩) (by omega)
    exact te_rl h0 g1 (sq_rl (vs := z) hP2 (sq_tr (sq_pu p3) (sq_pu p4))) g6 (te_sq h02 (sq_pu p3) (sq_pu p4) t1 t2)
/-- cell n of an array comes onto the stack -/
theorem sp_cellAt {a n : Int32} {Q : St → St → List Nat → Prop} (h : PA σ τ) (hw : (σ 0 17).toInt ≤ 499000) (ha : 0 ≤ a.toInt ∧ a.toInt < (σ 0 49).toInt) (k : ∀ s, SQ σ s 7 → TE σ s 510 0 1 → Q s τ vs) : wp_put_1 (4 : Int32) a σ τ vs (fun s1 t1 z1 => wp_put_1 (0 : Int32) n s1 t1 z1 (fun s2 t2 z2 => wp_put_2 (11 : Int32) (36 : Int32) (0 : Int32) s2 t2 z2 Q)) := by
  have h0 := h.2.2.1.2.2.2.2.1
  refine sp_put_1 h0 (by omega) (fun s1 p1 => ?_)
  have w1 := sq_wc (sq_pu p1) h0
  simp only [List.length_cons, List.length_nil] at w1
  refine sp_put_1 w1.1 (by omega) (fun s2 p2 => ?_)
  have w2 := sq_wc (sq_pu p2) w1.1
  simp only [List.length_cons, List.length_nil] at w2
  refine sp_put_2 w2.1 (by omega) (fun s3 p3 => k s3 (sq_tr (sq_pu p1) (sq_tr (sq_pu p2) (sq_pu p3))) ?_)
  have el : (s1 0 49) = (σ 0 49) := p1.1 _ _ rfl rfl
  refine te_sq h0 (sq_pu p1) (sq_tr (sq_pu p2) (sq_pu p3)) (te_put (n := 2) (b := 1) h0 p1 rfl (by decide) rfl (k := 4) rfl (fun g' H L x hH hn hx => ⟨by rw [hx _ rfl, el]; exact ha, hn⟩) (by omega)) (te_sq w1.1 (sq_pu p2) (sq_pu p3) (te_put (n := 2) (b := 2) w1.1 p2 rfl (by decide) rfl (k := 0) rfl (fun g' H L x hH hn hx => hn) (by omega)) (te_put (n := 3) w2.1 p3 rfl (by decide) rfl (k := 11) rfl (fun g' H L x hH hn hx => ⟨by omega, ?_⟩) (by omega)))
  have e9 : H + 2 - 1 = H + 1 := by omega
  rw [e9]; exact hn
theorem te_wd {N : Nat} (h0 : 0 ≤ (σ 0 17).toInt) (hN : 2 ≤ N) {l : Int32} {s1 s2 : St} (p1 : PU σ s1 [6, l]) (p2 : PU s1 s2 [10]) : TE σ s2 N 2 0 := by
  have w1 := sq_wc (sq_pu p1) h0
  refine te_sq h0 (sq_pu p1) (sq_pu p2) (te_put (n := 2) (b := 1) h0 p1 rfl (by decide) rfl (k := 6) rfl (fun g' H L x hH hn hx => ⟨by omega, ?_⟩) (by omega)) (te_put (n := 1) w1.1 p2 rfl (by decide) rfl (k := 10) rfl (fun g' H L x hH hn hx => ⟨by omega, ?_⟩) (by omega))
  · have e9 : H + 2 - 1 = H + 1 := by omega
    rw [e9]; exact hn
  · have e9 : H + 1 - 1 = H + 0 := by omega
    rw [e9]; exact hn
theorem sp_bracesL {cells ty first n f : Int32} {Q : Int32 → St → St → List Nat → Prop} {T : St → St → List Nat → Prop} (h : PA σ τ) (hB : NB σ vs) (hf : f.toInt ≠ 0) (hty : 0 ≤ ty.toInt) (hn : 0 ≤ n.toInt → n.toInt ≤ 99 ∧ n.toInt < (σ 0 49).toInt) (k : ∀ (v : Int32) s t z, (v = 0 ∨ v = 1) → RL σ vs s t z → NCt σ vs s z 0 → pos σ < pos s → (v.toInt ≠ 0 → 0 ≤ n.toInt → TE σ s 512 0 0) → Q v s t z) (kT : ∀ s t z, RTx σ vs s t z → T s t z) : wp_braces cells ty first n f σ τ vs Q T := by
  have h0 := h.2.2.1.2.2.2.2.1
  unfold wp_braces
  refine sp_expect h (by decide) (fun hk rn pn wn icn => ?_) (fun s hs => kT _ _ _ hs)
  generalize nxt σ = s0 at *
  have hP0 := rn.2.1
  have te0 : TE σ s0 512 0 0 ∨ True := Or.inr trivial
  refine ⟨fun m x y s t z => m = ((σ 0 9).toInt - pos s).toNat ∧ RL σ vs s t z ∧ NCt σ vs s z 30 ∧ pos σ < pos s ∧ (x.toInt ≠ 0 → 0 ≤ n.toInt → TE s0 s 512 0 0) ∧ RL s0 vs s t z, ⟨_, rfl, rn, ⟨by omega, by omega, by omega⟩, by omega, fun _ _ => te_rf, rl_rf hP0⟩, ?_⟩
  rintro m x y s t z hx ⟨q1, q2, q3, q4, q5, q6⟩
  have hPs := q2.2.1
  have h0s := hPs.2.2.1.2.2.2.2.1
  have hBs : NB s z := nct_nb hB (rs_rl q2) q3 (by omega)
  have hcs := nb_cap hBs hPs
  have esz := rl_sz q2
  have eloc := rl_loc q2
  refine ⟨fun w s9 t9 z9 => RL σ vs s9 t9 z9 ∧ NCt σ vs s9 z9 12 ∧ pos s < pos s9 ∧ (w.toInt ≠ 0 → 0 ≤ n.toInt → TE s0 s9 512 0 0) ∧ RL s0 vs s9 t9 z9, ?_, fun c => absurd c hf, fun _ => ?_⟩
  · rintro w s9 t9 z9 hw ⟨a1, a2, a3, a4, a5⟩
    have hP9 := a1.2.1
    unfold wp_accept
    refine sp_is hP9 (fun hk9 => ⟨fun _ => ⟨fun _ => ?_, no1⟩, no1⟩) (fun _ => ⟨no0, fun _ => ⟨no0, fun _ => ?_⟩⟩)
    · have hk9' : kd s9 = 58 := hk9
      obtain ⟨ro, po, wo, ico⟩ := rl_nxt (vs := z9) hP9 (by omega)
      have r9 := rl_tr a1 ro
      have hp := pos_in ro.2.1.1 ro.2.1.2.1
      have e9 := rl_sz r9
      obtain ⟨b1, b2, b3⟩ := a2
      have r09 := rl_tr a5 ro
      refine ⟨((σ 0 9).toInt - pos (nxt s9)).toNat, by omega, rfl, r9, ?_, ?_, fun c1 c2 => ?_, r09⟩
      · show NCt σ vs (nxt s9) z9 30
        exact ⟨by omega, by omega, by omega⟩
      · show _ < pos (nxt s9)
        omega
      · exact te_rl hP0.2.2.1.2.2.2.2.1 a5 ro (a4 c1 c2) (te_nxt hP9.2.2.1.2.2.2.2.1 ro)
    · refine sp_expect hP9 (by decide) (fun hk9 ro po wo ico => ?_) (fun s' hs => kT _ _ _ (rt_of a1 a2.2.2 hs))
      have r9 := rl_tr a1 ro
      obtain ⟨b1, b2, b3⟩ := a2
      have fin : ∀ v : Int32, (v = 0 ∨ v = 1) → (v.toInt ≠ 0 → w.toInt ≠ 0) → Q v (nxt s9) t9 z9 := fun v hv c => by
        refine k v _ _ _ hv r9 ⟨by omega, by omega, by omega⟩ (by omega) (fun c1 c2 => ?_)
        have t1 : TE σ s0 512 0 0 := te_same h0 (ieq wn) rn.2.2.1 (ev_ke rn.1 rn.2.2.2.1)
        exact te_rl h0 rn (rl_tr a5 ro) t1 (te_rl hP0.2.2.1.2.2.2.2.1 a5 ro (a4 (c c1) c2) (te_nxt hP9.2.2.1.2.2.2.2.1 ro))
      exact ⟨fun _ => fin 0 (Or.inl rfl) no0, fun c => ⟨fun _ => fin 0 (Or.inl rfl) no0, fun _ => fin 1 (Or.inr rfl) (fun _ => c)⟩⟩
  · -- in a function
    refine ⟨fun s1 t1 z1 => t = t1 ∧ z = z1 ∧ SQ s s1 7 ∧ (0 ≤ n.toInt → TE s s1 510 0 1), ?_, fun c => ⟨rfl, rfl, ⟨kp_rf, of_rf, fun _ _ => rfl, Int.le_refl _, by omega⟩, fun q => by omega⟩, fun c => sp_cellAt hPs (by omega) ⟨c, by rw [eloc]; exact (hn c).2⟩ (fun s1 sq te => ⟨rfl, rfl, sq, fun _ => te⟩)⟩
    rintro s1 _ _ ⟨rfl, rfl, sq1, te1⟩
    have r1 := sq_rl (vs := z) hPs sq1
    have P1 := pos_sq sq1
    have I1 : (s1 0 39).toInt = (s 0 39).toInt := by rw [ic_sq sq1]
    have W1 := (sq_wc sq1 h0s).2.1
    obtain ⟨n1, n2, n3⟩ := q3
    have rA := rl_tr q2 r1
    have hB1 : NB s1 z := nb_of hB rA (by omega) (by omega) (by omega)
    refine sp_one1L r1.2.1 hB1 (by decide) hty (fun c => absurd c (by decide)) (fun v s2 t2 z2 hv r2 nc2 p2 te2 => ?_) (fun s' t' z' hs => kT _ _ _ (rt_of rA (by omega) hs))
    have hP2 := r2.2.1
    have h02 := hP2.2.2.1.2.2.2.2.1
    obtain ⟨m1, m2, m3⟩ := nc2
    have r12 := rl_tr r1 r2
    have rB := rl_tr q2 r12
    have hc2 := nb_cap (nb_of hB rB (by omega) (by omega) (by omega)) hP2
    -- behind the expression
    have cont : ∀ w : Int32, (w = 0 ∨ w = 1) → (w.toInt ≠ 0 → x.toInt ≠ 0 ∧ v.toInt ≠ 0) → (∃ J90 : St → St → List Nat → Prop, (∀ (s90 t90 : St) (z90 : List Nat), J90 s90 t90 z90 → (RL σ vs s90 t90 z90 ∧ NCt σ vs s90 z90 12 ∧ pos s < pos s90 ∧ (w.toInt ≠ 0 → 0 ≤ n.toInt → TE s0 s90 512 0 0) ∧ RL s0 vs s90 t90 z90)) ∧ (n.toInt < 0 → J90 s2 t2 z2) ∧ (0 ≤ n.toInt → wp_put_1 (6 : Int32) (0 : Int32) s2 t2 z2 (fun s81 t81 z81 => wp_put_0 (10 : Int32) s81 t81 z81 (fun s87 t87 z87 => J90 s87 t87 z87)))) := fun w hw hwc => by
      refine ⟨_, fun _ _ _ h => h, fun c => ⟨rB, ⟨by omega, by omega, by omega⟩, by omega, fun _ c2 => by omega, rl_tr q6 r12⟩, fun c => sp_put_1 h02 (by omega) (fun s3 p3 => ?_)⟩
      have w3 := sq_wc (sq_pu p3) h02
      simp only [List.length_cons, List.length_nil] at w3
      refine sp_put_0 w3.1 (by omega) (fun s4 p4 => ?_)
      have sq4 := sq_tr (sq_pu p3) (sq_pu p4)
      have r4 := sq_rl (vs := z2) hP2 sq4
      have P4 := pos_sq sq4
      have I4 : (s4 0 39).toInt = (s2 0 39).toInt := by rw [ic_sq sq4]
      have W4 := (sq_wc sq4 h02).2.1
      simp only [List.length_cons, List.length_nil] at W4
      refine ⟨rl_tr rB r4, ⟨by omega, by omega, by omega⟩, by omega, fun c1 c2 => ?_, rl_tr (rl_tr q6 r12) r4⟩
      obtain ⟨d1, d2⟩ := hwc c1
      have t2' : TE s1 s2 512 1 2 := te_up (c := 1) ((te2 d2).2 (by decide)) (by omega)
      exact te_rl hP0.2.2.1.2.2.2.2.1 (rl_tr q6 r12) r4 (te_rl hP0.2.2.1.2.2.2.2.1 q6 r12 (q5 d1 c2) (te_rl h0s r1 r2 (te_le (te1 c2) (by omega)) t2')) (te_wd h02 (by omega) p3 p4)
    refine ⟨fun w => w.toInt ≠ 0 → x.toInt ≠ 0 ∧ v.toInt ≠ 0, fun w hw hwc => cont w hw hwc, ⟨True, fun _ => no0, fun _ => trivial, fun c1 => ⟨fun _ => trivial, fun c2 _ => ⟨c1, c2⟩⟩⟩⟩
end INI
