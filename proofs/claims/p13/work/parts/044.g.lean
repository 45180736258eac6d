section
/-! initials in functions -/
section INI
variable {σ s s' τ t t' : St} {vs z z' : List Nat}
theorem sp_one1L {ty c n f : Int32} {Q : Int32 → St → St → List Nat → Prop} {T : St → St → List Nat → Prop} (h : PA σ τ) (hB : NB σ vs) (hf : f.toInt ≠ 0) (hty : 0 ≤ ty.toInt) (hn : 0 ≤ n.toInt → n.toInt ≤ 99 ∧ n.toInt < (σ 0 49).toInt) (k : ∀ (v : Int32) s t z, (v = 0 ∨ v = 1) → RL σ vs s t z → NCt σ vs s z 12 → pos σ < pos s → (v.toInt ≠ 0 → (0 ≤ n.toInt ∧ ((σ 32) n.toNatClampNeg).toInt < 0 → TE σ s 501 0 0) ∧ (n.toInt < 0 → TE σ s 501 0 1)) → Q v s t z) (kT : ∀ s t z, RTx σ vs s t z → T s t z) : wp_one_1 ty c n f σ τ vs Q T := by
  have h0 := h.2.2.1.2.2.2.2.1
  unfold wp_one_1
  refine sx_expr 1 σ τ vs _ T (by decide) h hB (fun u s t z r => ?_) kT
  refine sp_read r.1.2.1 (re_nb hB r) r.2.2.1.1 (fun s2 hrd => ⟨fun _ => ?_, fun c => absurd c hf⟩)
  obtain ⟨g1, g2, g3, g4, g5, g6, g7, g8⟩ := re_read h r hrd (by omega)
  have hP2 := g1.2.1
  have h02 := hP2.2.2.1.2.2.2.2.1
  have hc2 := nb_cap (nb_of hB g1 (by omega) (by omega) g5) hP2
  have hu := r.2.2.1.1
  have m2 := g1.2.2.2.2.2.1
  have els : ∀ j, (s2 32) j = (σ 32) j := fun j => g1.1 32 j rfl rfl
  have fin : ∀ (s3 : St) (N : Int), SQ s2 s3 N → N ≤ 3 → ((upC t u 1 (0 : Int32) u 0).toInt ≠ -1 → (0 ≤ n.toInt ∧ ((σ 32) n.toNatClampNeg).toInt < 0 → TE σ s3 501 0 0) ∧ (n.toInt < 0 → TE σ s3 501 0 1)) → wp_fits u ty s3 (upC t u 1 (0 : Int32)) z (fun v130 => Q v130 s3 (upC t u 1 (0 : Int32)) z) := fun s3 N sq hN hte => by
    have rC := sq_rl (vs := z) hP2 sq
    have P3 := pos_sq sq
    have I3 : (s3 0 39).toInt = (s2 0 39).toInt := by rw [ic_sq sq]
    have W3 := sq.2.2.2.2
    refine sp_fits hu (fun c => k 1 _ _ _ (Or.inr rfl) (rl_tr g1 rC) ⟨by omega, by omega, by omega⟩ (by omega) (fun _ => hte ?_)) (k 0 _ _ _ (Or.inl rfl) (rl_tr g1 rC) ⟨by omega, by omega, by omega⟩ (by omega) no0)
    rcases c with c | ⟨-, c⟩
    · omega
    · have := (hP2.2.2.2.2 u).2.2.2.2.2 c
      omega
  have eu : (upC t u 1 (0 : Int32) u 0).toInt ≠ -1 → ev (upC t u 1 (0 : Int32)) u = 1 := fun c => ev_st (by rw [rdA, if_pos rfl]; rfl) c
  have sq0 : SQ s2 s2 0 := sq_rf
  refine ⟨fun s3 t3 z3 => upC t u 1 (0 : Int32) = t3 ∧ z = z3 ∧ ((n.toInt < 0 ∨ 0 ≤ ((σ 32) n.toNatClampNeg).toInt) → s3 = s2) ∧ (0 ≤ n.toInt ∧ ((σ 32) n.toNatClampNeg).toInt < 0 → PU s2 s3 [7, n]), ?_, fun c => ⟨rfl, rfl, fun _ => rfl, fun q => by omega⟩, fun c => ⟨by have := hn c; omega, fun c2 => ⟨rfl, rfl, fun _ => rfl, fun q => by rw [els] at c2; omega⟩, fun c2 => sp_put_1 h02 (by omega) (fun s3 p3 => ⟨rfl, rfl, fun q => by rw [els] at c2; omega, fun _ => p3⟩)⟩⟩
  rintro s3 _ _ ⟨rfl, rfl, a1, a2⟩
  have el3 : (s3 32) n.toNatClampNeg = (σ 32) n.toNatClampNeg := by
    by_cases c : 0 ≤ n.toInt ∧ ((σ 32) n.toNatClampNeg).toInt < 0
    · rw [(a2 c).1 32 _ rfl rfl]; exact els _
    · rw [a1 (by omega)]; exact els _
  refine ⟨fun s4 t4 z4 => upC t u 1 (0 : Int32) = t4 ∧ z = z4 ∧ ∃ N, SQ s2 s4 N ∧ N ≤ 3 ∧ ((upC t u 1 (0 : Int32) u 0).toInt ≠ -1 → (0 ≤ n.toInt ∧ ((σ 32) n.toNatClampNeg).toInt < 0 → TE σ s4 501 0 0) ∧ (n.toInt < 0 → TE σ s4 501 0 1)), ?_, fun c => ?_, fun c => ⟨by have := hn c; omega, fun c2 => ?_, fun c2 => ?_⟩⟩
  · rintro s4 _ _ ⟨rfl, rfl, N, b1, b2, b3⟩
    exact fin s4 N b1 b2 b3
  · have e := a1 (Or.inl c)
    subst e
    refine ⟨rfl, rfl, 0, sq0, by omega, fun q => ⟨fun q2 => by omega, fun _ => ?_⟩⟩
    rw [eu q] at g6
    exact g6
  · rw [el3] at c2
    have e := a1 (Or.inr c2)
    subst e
    exact ⟨rfl, rfl, 0, sq0, by omega, fun q => ⟨fun q2 => by omega, fun q2 => by omega⟩⟩
  · rw [el3] at c2
    have p3 := a2 ⟨c, c2⟩
    have w3 := sq_wc (sq_pu p3) h02
    simp only [List.length_cons, List.length_nil] at w3
    refine sp_put_0 w3.1 (by omega) (fun s4 p4 => ⟨rfl, rfl, 3, sq_tr (sq_pu p3) (sq_pu p4), by omega, fun q => ⟨fun _ => ?_, fun q2 => by omega⟩⟩)
    rw [eu q] at g6
    have nl := hn c
    have el : (s3 0 49) = (σ 0 49) := (p3.1 0 49 rfl rfl).trans (rl_loc g1)
    have t1 : TE s2 s3 501 1 1 := te_put (n := 2) h02 p3 rfl (by decide) rfl (k := 7) rfl (fun g' H L x hH hn9 hx => ⟨by rw [hx _ rfl, el]; omega, by omega, hn9⟩) (by omega)
    have t2 : TE s3 s4 501 1 0 := te_put (n := 1) w3.1 p4 rfl (by decide) rfl (k := 10) rfl (fun g' H L x hH hn9 hx => ⟨by omega, by
      have e9 : H + 1 - 1 = H + 0 := by omega
      rw [e9]; exact hn9⟩) (by omega)
    exact te_rl h0 g1 (sq_rl (vs := z) hP2 (sq_tr (sq_pu p3) (sq_pu p4))) g6 (te_sq h02 (sq_pu p3) (sq_pu p4) t1 t2)
/-- cell n of an array comes onto the stack -/
theorem sp_cellAt {a n : Int32} {Q : St → St → List Nat → Prop} (h : PA σ τ) (hw : (σ 0 17).toInt ≤ 499000) (ha : 0 ≤ a.toInt ∧ a.toInt < (σ 0 49).toInt) (k : ∀ s, SQ σ s 7 → TE σ s 510 0 1 → Q s τ vs) : wp_put_1 (4 : Int32) a σ τ vs (fun s1 t1 z1 => wp_put_1 (0 : Int32) n s1 t1 z1 (fun s2 t2 z2 => wp_put_2 (11 : Int32) (36 : Int32) (0 : Int32) s2 t2 z2 Q)) := by
  have h0 := h.2.2.1.2.2.2.2.1
  refine sp_put_1 h0 (by omega) (fun s1 p1 => ?_)
  have w1 := sq_wc (sq_pu p1) h0
  simp only [List.length_cons, List.length_nil] at w1
  refine sp_put_1 w1.1 (by omega) (fun s2 p2 => ?_)
  have w2 := sq_wc (sq_pu p2) w1.1
  simp only [List.length_cons, List.length_nil] at w2
  refine sp_put_2 w2.1 (by omega) (fun s3 p3 => k s3 (sq_tr (sq_pu p1) (sq_tr (sq_pu p2) (sq_pu p3))) ?_)
  have el : (s1 0 49) = (σ 0 49) := p1.1 _ _ rfl rfl
  refine te_sq h0 (sq_pu p1) (sq_tr (sq_pu p2) (sq_pu p3)) (te_put (n := 2) (b := 1) h0 p1 rfl (by decide) rfl (k := 4) rfl (fun g' H L x hH hn hx => ⟨by rw [hx _ rfl, el]; exact ha, hn⟩) (by omega)) (te_sq w1.1 (sq_pu p2) (sq_pu p3) (te_put (n := 2) (b := 2) w1.1 p2 rfl (by decide) rfl (k := 0) rfl (fun g' H L x hH hn hx => hn) (by omega)) (te_put (n := 3) w2.1 p3 rfl (by decide) rfl (k := 11) rfl (fun g' H L x hH hn hx => ⟨by omega, ?_⟩) (by omega)))
  have e9 : H + 2 - 1 = H + 1 := by omega
  rw [e9]; exact hn
theorem te_wd {N : Nat} (h0 : 0 ≤ (σ 0 17).toInt) (hN : 2 ≤ N) {l : Int32} {s1 s2 : St} (p1 : PU σ s1 [6, l]) (p2 : PU s1 s2 [10]) : TE σ s2 N 2 0 := by
  have w1 := sq_wc (sq_pu p1) h0
  refine te_sq h0 (sq_pu p1) (sq_pu p2) (te_put (n := 2) (b := 1) h0 p1 rfl (by decide) rfl (k := 6) rfl (fun g' H L x hH hn hx => ⟨by omega, ?_⟩) (by omega)) (te_put (n := 1) w1.1 p2 rfl (by decide) rfl (k := 10) rfl (fun g' H L x hH hn hx => ⟨by omega, ?_⟩) (by omega))
  · have e9 : H + 2 - 1 = H + 1 := by omega
    rw [e9]; exact hn
  · have e9 : H + 1 - 1 = H + 0 := by omega
    rw [e9]; exact hn
theorem sp_bracesL {cells ty first n f : Int32} {Q : Int32 → St → St → List Nat → Prop} {T : St → St → List Nat → Prop} (h : PA σ τ) (hB : NB σ vs) (hf : f.toInt ≠ 0) (hty : 0 ≤ ty.toInt) (hn : 0 ≤ n.toInt → n.toInt ≤ 99 ∧ n.toInt < (σ 0 49).toInt) (k : ∀ (v : Int32) s t z, (v = 0 ∨ v = 1) → RL σ vs s t z → NCt σ vs s z 0 → pos σ < pos s → (v.toInt ≠ 0 → 0 ≤ n.toInt → TE σ s 512 0 0) → Q v s t z) (kT : ∀ s t z, RTx σ vs s t z → T s t z) : wp_braces cells ty first n f σ τ vs Q T := by
  have h0 := h.2.2.1.2.2.2.2.1
  unfold wp_braces
  refine sp_expect h (by decide) (fun hk rn pn wn icn => ?_) (fun s hs => kT _ _ _ hs)
  generalize nxt σ = s0 at *
  have hP0 := rn.2.1
  have te0 : TE σ s0 512 0 0 ∨ True := Or.inr trivial
  refine ⟨fun m x y s t z => m = ((σ 0 9).toInt - pos s).toNat ∧ RL σ vs s t z ∧ NCt σ vs s z 30 ∧ pos σ < pos s ∧ (x.toInt ≠ 0 → 0 ≤ n.toInt → TE s0 s 512 0 0) ∧ RL s0 vs s t z, ⟨_, rfl, rn, ⟨by omega, by omega, by omega⟩, by omega, fun _ _ => te_rf, rl_rf hP0⟩, ?_⟩
  rintro m x y s t z hx ⟨q1, q2, q3, q4, q5, q6⟩
  have hPs := q2.2.1
  have h0s := hPs.2.2.1.2.2.2.2.1
  have hBs : NB s z := nct_nb hB (rs_rl q2) q3 (by omega)
  have hcs := nb_cap hBs hPs
  have esz := rl_sz q2
  have eloc := rl_loc q2
  refine ⟨fun w s9 t9 z9 => RL σ vs s9 t9 z9 ∧ NCt σ vs s9 z9 12 ∧ pos s < pos s9 ∧ (w.toInt ≠ 0 → 0 ≤ n.toInt → TE s0 s9 512 0 0) ∧ RL s0 vs s9 t9 z9, ?_, fun c => absurd c hf, fun _ => ?_⟩
  · rintro w s9 t9 z9 hw ⟨a1, a2, a3, a4, a5⟩
    have hP9 := a1.2.1
    unfold wp_accept
    refine sp_is hP9 (fun hk9 => ⟨fun _ => ⟨fun _ => ?_, no1⟩, no1⟩) (fun _ => ⟨no0, fun _ => ⟨no0, fun _ => ?_⟩⟩)
    · have hk9' : kd s9 = 58 := hk9
      obtain ⟨ro, po, wo, ico⟩ := rl_nxt (vs := z9) hP9 (by omega)
      have r9 := rl_tr a1 ro
      have hp := pos_in ro.2.1.1 ro.2.1.2.1
      have e9 := rl_sz r9
      obtain ⟨b1, b2, b3⟩ := a2
      have r09 := rl_tr a5 ro
      refine ⟨((σ 0 9).toInt - pos (nxt s9)).toNat, by omega, rfl, r9, ?_, ?_, fun c1 c2 => ?_, r09⟩
      · show NCt σ vs (nxt s9) z9 30
        exact ⟨by omega, by omega, by omega⟩
      · show _ < pos (nxt s9)
        omega
      · exact te_rl hP0.2.2.1.2.2.2.2.1 a5 ro (a4 c1 c2) (te_nxt hP9.2.2.1.2.2.2.2.1 ro)
    · refine sp_expect hP9 (by decide) (fun hk9 ro po wo ico => ?_) (fun s' hs => kT _ _ _ (rt_of a1 a2.2.2 hs))
      have r9 := rl_tr a1 ro
      obtain ⟨b1, b2, b3⟩ := a2
      have fin : ∀ v : Int32, (v = 0 ∨ v = 1) → (v.toInt ≠ 0 → w.toInt ≠ 0) → Q v (nxt s9) t9 z9 := fun v hv c => by
        refine k v _ _ _ hv r9 ⟨by omega, by omega, by omega⟩ (by omega) (fun c1 c2 => ?_)
        have t1 : TE σ s0 512 0 0 := te_same h0 (ieq wn) rn.2.2.1 (ev_ke rn.1 rn.2.2.2.1)
        exact te_rl h0 rn (rl_tr a5 ro) t1 (te_rl hP0.2.2.1.2.2.2.2.1 a5 ro (a4 (c c1) c2) (te_nxt hP9.2.2.1.2.2.2.2.1 ro))
      exact ⟨fun _ => fin 0 (Or.inl rfl) no0, fun c => ⟨fun _ => fin 0 (Or.inl rfl) no0, fun _ => fin 1 (Or.inr rfl) (fun _ => c)⟩⟩
  · -- in a function
    refine ⟨fun s1 t1 z1 => t = t1 ∧ z = z1 ∧ SQ s s1 7 ∧ (0 ≤ n.toInt → TE s s1 510 0 1), ?_, fun c => ⟨rfl, rfl, ⟨kp_rf, of_rf, fun _ _ => rfl, Int.le_refl _, by omega⟩, fun q => by omega⟩, fun c => sp_cellAt hPs (by omega) ⟨c, by rw [eloc]; exact (hn c).2⟩ (fun s1 sq te => ⟨rfl, rfl, sq, fun _ => te⟩)⟩
    rintro s1 _ _ ⟨rfl, rfl, sq1, te1⟩
    have r1 := sq_rl (vs := z) hPs sq1
    have P1 := pos_sq sq1
    have I1 : (s1 0 39).toInt = (s 0 39).toInt := by rw [ic_sq sq1]
    have W1 := (sq_wc sq1 h0s).2.1
    obtain ⟨n1, n2, n3⟩ := q3
    have rA := rl_tr q2 r1
    have hB1 : NB s1 z := nb_of hB rA (by omega) (by omega) (by omega)
    refine sp_one1L r1.2.1 hB1 (by decide) hty (fun c => absurd c (by decide)) (fun v s2 t2 z2 hv r2 nc2 p2 te2 => ?_) (fun s' t' z' hs => kT _ _ _ (rt_of rA (by omega) hs))
    have hP2 := r2.2.1
    have h02 := hP2.2.2.1.2.2.2.2.1
    obtain ⟨m1, m2, m3⟩ := nc2
    have r12 := rl_tr r1 r2
    have rB := rl_tr q2 r12
    have hc2 := nb_cap (nb_of hB rB (by omega) (by omega) (by omega)) hP2
    -- behind the expression
    have cont : ∀ w : Int32, (w = 0 ∨ w = 1) → (w.toInt ≠ 0 → x.toInt ≠ 0 ∧ v.toInt ≠ 0) → (∃ J90 : St → St → List Nat → Prop, (∀ (s90 t90 : St) (z90 : List Nat), J90 s90 t90 z90 → (RL σ vs s90 t90 z90 ∧ NCt σ vs s90 z90 12 ∧ pos s < pos s90 ∧ (w.toInt ≠ 0 → 0 ≤ n.toInt → TE s0 s90 512 0 0) ∧ RL s0 vs s90 t90 z90)) ∧ (n.toInt < 0 → J90 s2 t2 z2) ∧ (0 ≤ n.toInt → wp_put_1 (6 : Int32) (0 : Int32) s2 t2 z2 (fun s81 t81 z81 => wp_put_0 (10 : Int32) s81 t81 z81 (fun s87 t87 z87 => J90 s87 t87 z87)))) := fun w hw hwc => by
      refine ⟨_, fun _ _ _ h => h, fun c => ⟨rB, ⟨by omega, by omega, by omega⟩, by omega, fun _ c2 => by omega, rl_tr q6 r12⟩, fun c => sp_put_1 h02 (by omega) (fun s3 p3 => ?_)⟩
      have w3 := sq_wc (sq_pu p3) h02
      simp only [List.length_cons, List.length_nil] at w3
      refine sp_put_0 w3.1 (by omega) (fun s4 p4 => ?_)
      have sq4 := sq_tr (sq_pu p3) (sq_pu p4)
      have r4 := sq_rl (vs := z2) hP2 sq4
      have P4 := pos_sq sq4
      have I4 : (s4 0 39).toInt = (s2 0 39).toInt := by rw [ic_sq sq4]
      have W4 := (sq_wc sq4 h02).2.1
      simp only [List.length_cons, List.length_nil] at W4
      refine ⟨rl_tr rB r4, ⟨by omega, by omega, by omega⟩, by omega, fun c1 c2 => ?_, rl_tr (rl_tr q6 r12) r4⟩
      obtain ⟨d1, d2⟩ := hwc c1
      have t2' : TE s1 s2 512 1 2 := te_up (c := 1) ((te2 d2).2 (by decide)) (by omega)
      exact te_rl hP0.2.2.1.2.2.2.2.1 (rl_tr q6 r12) r4 (te_rl hP0.2.2.1.2.2.2.2.1 q6 r12 (q5 d1 c2) (te_rl h0s r1 r2 (te_le (te1 c2) (by omega)) t2')) (te_wd h02 (by omega) p3 p4)
    refine ⟨fun w => w.toInt ≠ 0 → x.toInt ≠ 0 ∧ v.toInt ≠ 0, fun w hw hwc => cont w hw hwc, ⟨True, fun _ => no0, fun _ => trivial, fun c1 => ⟨fun _ => trivial, fun c2 _ => ⟨c1, c2⟩⟩⟩⟩
end INI
end

section
/-! variables in functions -/
section VAR
variable {σ s s' τ t t' : St} {vs z z' : List Nat}
theorem sp_fillL {tk cells n f : Int32} {Q : St → St → List Nat → Prop} (h : PA σ τ) (ht : 0 ≤ tk.toInt ∧ tk.toInt < 16002) (h2 : 0 ≤ ((σ 6) tk.toNatClampNeg).toInt ∧ ((σ 6) tk.toNatClampNeg).toInt ≤ 200) (hw : (σ 0 17).toInt ≤ 420000) (hf : f.toInt ≠ 0) (hn : 0 ≤ n.toInt → n.toInt ≤ 99 ∧ n.toInt < (σ 0 49).toInt) (k : ∀ s, SQ σ s (12 * ((σ 6) tk.toNatClampNeg).toInt) → (0 ≤ n.toInt → TE σ s 512 0 0) → Q s τ vs) : wp_fill tk cells n f σ τ vs Q := by
  have h0 := h.2.2.1.2.2.2.2.1
  have hs := h.1.2.2.2.1
  have f1 := h.1.2.2.2.2.1 tk.toNatClampNeg
  have e1 := ad1 (x := (σ 3) tk.toNatClampNeg) (by omega)
  have e0 : (0 : Int32).toInt = 0 := by decide
  unfold wp_fill
  refine ⟨fun c => ⟨fun _ => ⟨ht, ?_⟩, fun c2 => absurd c2 hf⟩, fun c => k σ ⟨kp_rf, of_rf, fun _ _ => rfl, Int.le_refl _, by omega⟩ (fun q => by omega)⟩
  refine ⟨fun m x i s t z => (m : Int) = ((σ 6) tk.toNatClampNeg).toInt - i.toInt ∧ 0 ≤ i.toInt ∧ i.toInt ≤ ((σ 6) tk.toNatClampNeg).toInt ∧ 0 ≤ x.toInt ∧ x.toInt ≤ 16001 + 2 * i.toInt ∧ τ = t ∧ vs = z ∧ SQ σ s (12 * i.toInt) ∧ TE σ s 512 0 0, ⟨((σ 6) tk.toNatClampNeg).toInt.toNat, by omega, by omega, by omega, by omega, by omega, rfl, rfl, ⟨kp_rf, of_rf, fun _ _ => rfl, Int.le_refl _, by omega⟩, te_rf⟩, ?_⟩
  rintro m x i s _ _ ⟨q1, q2, q3, q4, q5, rfl, rfl, q6, q7⟩
  have v1 : (s 6) tk.toNatClampNeg = (σ 6) tk.toNatClampNeg := q6.1 _ _ rfl rfl
  have hPs := (sq_rl (vs := vs) h q6).2.1
  have w6 := sq_wc q6 h0
  have hl : (s 0 49) = (σ 0 49) := q6.1 _ _ rfl rfl
  refine ⟨ht, fun c2 => ?_, fun c2 => ?_⟩
  · rw [v1] at c2
    have e : i.toInt = ((σ 6) tk.toNatClampNeg).toInt := by omega
    rw [e] at q6
    exact k s q6 (fun _ => q7)
  · rw [v1] at c2
    have nn := hn c
    refine sp_cellAt hPs (by omega) (by rw [hl]; omega) (fun s1 sq1 te1 => ?_)
    have hP1 := (sq_rl (vs := vs) hPs sq1).2.1
    have w1 := sq_wc sq1 w6.1
    have sz1 : (s1 0 9) = (σ 0 9) := (sq1.1 0 9 rfl rfl).trans (q6.1 0 9 rfl rfl)
    refine sp_code (by rw [sz1]; exact hs) q4 (by omega) (fun r hr => sp_put_1 w1.1 (by omega) (fun s2 p2 => ?_))
    have w2 := sq_wc (sq_pu p2) w1.1
    simp only [List.length_cons, List.length_nil] at w2
    refine sp_put_1 w2.1 (by omega) (fun s3 p3 => ?_)
    have w3 := sq_wc (sq_pu p3) w2.1
    simp only [List.length_cons, List.length_nil] at w3
    refine sp_put_0 w3.1 (by omega) (fun s4 p4 => ?_)
    have sq4 := sq_tr sq1 (sq_tr (sq_pu p2) (sq_tr (sq_pu p3) (sq_pu p4)))
    have w4 := sq_wc (sq_pu p4) w3.1
    simp only [List.length_cons, List.length_nil] at w4
    have sz4 : (s4 0 9) = (s 0 9) := sq4.1 0 9 rfl rfl
    have szs : (s 0 9) = (σ 0 9) := q6.1 0 9 rfl rfl
    refine sp_look q4 (by rw [sz4, szs]; exact hs) ?_
    have e2 := ad1 (x := i) (by omega)
    have te4 : TE s s4 512 0 0 := te_sq w6.1 sq1 (sq_tr (sq_pu p2) (sq_tr (sq_pu p3) (sq_pu p4))) (te_le te1 (by omega)) (te_sq w1.1 (sq_pu p2) (sq_tr (sq_pu p3) (sq_pu p4)) (te_put (n := 2) (b := 2) w1.1 p2 rfl (by decide) rfl (k := 0) rfl (fun g' H L x hH hn hx => hn) (by omega)) (te_wd w2.1 (by omega) p3 p4))
    have sqf : SQ σ s4 (12 * (i + 1).toInt) := by
      have a := sq_tr q6 sq4
      refine ⟨a.1, a.2.1, a.2.2.1, a.2.2.2.1, ?_⟩
      have := w4.2.1
      omega
    refine ⟨fun y => 1 ≤ y.toInt ∧ y.toInt ≤ 2, fun y ⟨y1, y2⟩ => ⟨m - 1, by omega, ?_⟩, fun _ => by decide, fun _ => by decide⟩
    have e4 : (x + y).toInt = x.toInt + y.toInt := ad (by omega) (by omega)
    exact ⟨by omega, by omega, by omega, by omega, by omega, rfl, rfl, sqf, te_sq h0 q6 sq4 q7 te4⟩
def IRel (σ : St) (vs : List Nat) (n : Int32) (v : Int32) (s t : St) (z : List Nat) : Prop := RL σ vs s t z ∧ NCt σ vs s z 0 ∧ (v.toInt ≠ 0 → 0 ≤ n.toInt → TE σ s 512 0 0)
theorem sp_rowInitialL {ty cells n f : Int32} {Q : Int32 → St → St → List Nat → Prop} {T : St → St → List Nat → Prop} (h : PA σ τ) (hB : NB σ vs) (hf : f.toInt ≠ 0) (hty : 0 ≤ ty.toInt) (hn : 0 ≤ n.toInt → n.toInt ≤ 99 ∧ n.toInt < (σ 0 49).toInt) (k : ∀ (v : Int32) s t z, (v = 0 ∨ v = 1) → IRel σ vs n v s t z → Q v s t z) (kT : ∀ s t z, RTx σ vs s t z → T s t z) : wp_rowInitial ty cells n f σ τ vs Q T := by
  have h0 := h.2.2.1.2.2.2.2.1
  have htk := at_tok h.1 h.2.1
  have hcap := nb_cap hB h
  unfold wp_rowInitial
  refine ⟨htk, ⟨True, fun _ => ?_, fun _ => trivial, fun c4 => ?_⟩⟩
  · refine sp_is h (fun hk => ⟨no1, fun _ => ?_⟩) (fun hk => ⟨fun _ => ?_, no0⟩)
    · exact sp_bracesL h hB hf hty hn (fun v s t z hv r nc p te => k v s t z hv ⟨r, nc, te⟩) kT
    · refine sx_expr 1 σ τ vs _ T (by decide) h hB (fun u s t z r => ?_) kT
      refine sp_read r.1.2.1 (re_nb hB r) r.2.2.1.1 (fun s2 hrd => ?_)
      obtain ⟨g1, g2, g3, g4, g5, g6, g7, g8⟩ := re_read h r hrd (by omega)
      exact k 0 _ _ _ (Or.inl rfl) ⟨g1, ⟨by omega, by omega, by omega⟩, no0⟩
  · have hk : kd σ = 4 := c4
    obtain ⟨rn, pn, wn, icn⟩ := rl_nxt (vs := vs) h (by omega)
    have htn := at_tok rn.2.1.1 rn.2.1.2.1
    rw [nxt_at] at htn
    have hv := STR_ok h.1 h.2.1 c4
    have ps := nxt_str h.1 h.2.1 hk
    have hn2 : 0 ≤ n.toInt → n.toInt ≤ 99 ∧ n.toInt < ((nxt σ) 0 49).toInt := hn
    refine ⟨htn, ⟨True, fun _ => ?_, fun _ => trivial, fun _ => ⟨htn, fun _ => trivial, fun _ => trivial⟩⟩⟩
    show wp_fill _ _ _ _ (nxt σ) τ vs _
    refine sp_fillL rn.2.1 htk (by show _ ∧ _; exact ⟨hv.1, hv.2.1⟩) (by omega) hf hn2 (fun s sq te => ?_)
    have rC := sq_rl (vs := vs) rn.2.1 sq
    have P := pos_sq sq
    have I : (s 0 39).toInt = ((nxt σ) 0 39).toInt := by rw [ic_sq sq]
    have W := (sq_wc sq rn.2.1.2.2.1.2.2.2.2.1).2.1
    have ev1 : ((nxt σ) 6) (σ 0 10).toNatClampNeg = (σ 6) (σ 0 10).toNatClampNeg := rfl
    rw [ev1] at W
    have rel : ∀ v : Int32, IRel σ vs n v s τ vs := fun v => ⟨rl_tr rn rC, ⟨by omega, by omega, by omega⟩, fun _ c => te_rl h0 rn rC (te_nxt h0 rn) (te c)⟩
    exact ⟨fun _ => k 0 _ _ _ (Or.inl rfl) (rel _), fun _ => ⟨htk, fun _ => k 0 _ _ _ (Or.inl rfl) (rel _), fun _ => k 1 _ _ _ (Or.inr rfl) (rel _)⟩⟩
theorem sp_oneInitialL {ty n f : Int32} {Q : Int32 → St → St → List Nat → Prop} {T : St → St → List Nat → Prop} (h : PA σ τ) (hB : NB σ vs) (hf : f.toInt ≠ 0) (hty : 0 ≤ ty.toInt) (hn : 0 ≤ n.toInt → (n.toInt ≤ 99 ∧ n.toInt < (σ 0 49).toInt) ∧ ((σ 32) n.toNatClampNeg).toInt < 0) (k : ∀ (v : Int32) s t z, (v = 0 ∨ v = 1) → IRel σ vs n v s t z → Q v s t z) (kT : ∀ s t z, RTx σ vs s t z → T s t z) : wp_oneInitial ty n f σ τ vs Q T := by
  unfold wp_oneInitial
  refine sp_is h (fun hk => ⟨no1, fun _ => ?_⟩) (fun hk => ⟨fun _ => ?_, no0⟩)
  · exact sp_bracesL h hB hf hty (fun c => (hn c).1) (fun v s t z hv r nc p te => k 0 s t z (Or.inl rfl) ⟨r, nc, no0⟩) kT
  · refine ⟨fun _ => True, fun y _ => sp_one1L h hB hf hty (fun c => (hn c).1) (fun v s t z hv r nc p te => k v s t z hv ⟨r, nct_le nc (by omega), fun c1 c2 => te_le ((te c1).1 ⟨c2, (hn c2).2⟩) (by omega)⟩) kT, ⟨True, fun _ => trivial, fun _ => trivial, fun c => absurd c hf⟩⟩
theorem sp_variableL {tk ty a3 a4 f : Int32} {Q : St → St → List Nat → Prop} {T : St → St → List Nat → Prop} (h : PA σ τ) (hS : PSt σ) (hB : NB σ vs) (hB2 : (σ 0 17).toInt + 2 + 40 * ((σ 0 9).toInt - pos σ) ≤ 410000) (ht : 0 ≤ tk.toInt ∧ tk.toInt < 16002) (hty : 0 ≤ ty.toInt ∧ ty.toInt ≤ 10) (hf : f.toInt ≠ 0) (k : ∀ s t z, SRt σ vs 0 0 s t z [] [] → NCt σ vs s z (-2) → Q s t z) (kT : ∀ s t z, RTt σ vs s t z → T s t z) : wp_variable tk ty a3 a4 f σ τ vs Q T := by
  have h0 := h.2.2.1.2.2.2.2.1
  have htk := at_tok h.1 h.2.1
  have cut : ∀ {s t z c}, SRt σ vs 0 0 s t z [] [] → NCt σ vs s z c → -2 ≤ c → ∀ s' t' z', RTt s z s' t' z' → T s' t' z' := fun sr nc _ s' t' z' hs => kT _ _ _ (rt_rs sr.1 nc.2.2 hs)
  -- from the size on
  have main : ∀ (x6 x7 x8 : Int32) s t z, (x6.toInt < 0 ∨ (0 ≤ x6.toInt ∧ x6.toInt < 16002)) → SRt σ vs 0 0 s t z [] [] → NCt σ vs s z 0 → True := fun _ _ _ _ _ _ _ _ _ => trivial
  unfold wp_variable
  have J95 : ∀ (x6 x7 x8 : Int32) (s t : St) (z : List Nat), ((x6.toInt < 0 ∨ (0 ≤ x6.toInt ∧ x6.toInt < 16002)) ∧ SRt σ vs 0 0 s t z [] [] ∧ NCt σ vs s z 0) → True := fun _ _ _ _ _ _ _ => trivial
  refine sp_is h (fun hk => ⟨fun x6 x7 x8 s t z => (x6.toInt < 0 ∨ (0 ≤ x6.toInt ∧ x6.toInt < 16002)) ∧ SRt σ vs 0 0 s t z [] [] ∧ NCt σ vs s z 0, ?_, no1, fun _ => ?_⟩) (fun hk => ⟨fun x6 x7 x8 s t z => (x6.toInt < 0 ∨ (0 ≤ x6.toInt ∧ x6.toInt < 16002)) ∧ SRt σ vs 0 0 s t z [] [] ∧ NCt σ vs s z 0, ?_, fun _ => ?_, no0⟩)
  case refine_4 => exact ⟨Or.inl (by decide), sr_rl h0 (rl_rf h) (te_rf (N := 0)) (by omega), nct_rf⟩
  case refine_2 =>
    -- [
    have hk2 : kd σ = 56 := hk
    obtain ⟨rn, pn, wn, icn⟩ := rl_nxt (vs := vs) h (by omega)
    have hPn := rn.2.1
    have srn : SRt σ vs 0 0 (nxt σ) τ vs [] [] := sr_rl h0 rn (te_nxt (N := 0) h0 rn) (by omega)
    have ncn : NCt σ vs (nxt σ) vs 40 := ⟨by omega, by omega, by omega⟩
    have hSn := ps_rs hS srn.1
    rw [show upC σ 0 10 ((σ 0 10) + (1 : Int32)) = nxt σ from rfl]
    have fin : ∀ (y48 y63 : Int32) s t z, RL (nxt σ) vs s t z → NCt (nxt σ) vs s z 0 → (s 0 17) = ((nxt σ) 0 17) → wp_expect (25 : Int32) s t z (fun s68 t68 z68 => (y48.toInt ≠ 0 → (((σ 0 10).toInt < 0 ∨ (0 ≤ (σ 0 10).toInt ∧ (σ 0 10).toInt < 16002)) ∧ SRt σ vs 0 0 s68 t68 z68 [] [] ∧ NCt σ vs s68 z68 0)) ∧ (y48.toInt = 0 → wp_is (30 : Int32) s68 t68 z68 (fun v79 => (v79.toInt = 0 → (((σ 0 10).toInt < 0 ∨ (0 ≤ (σ 0 10).toInt ∧ (σ 0 10).toInt < 16002)) ∧ SRt σ vs 0 0 s68 t68 z68 [] [] ∧ NCt σ vs s68 z68 0)) ∧ (v79.toInt ≠ 0 → wp_told s68 t68 z68 (fun v86 => (((σ 0 10).toInt < 0 ∨ (0 ≤ (σ 0 10).toInt ∧ (σ 0 10).toInt < 16002)) ∧ SRt σ vs 0 0 s68 t68 z68 [] [] ∧ NCt σ vs s68 z68 0)))))) T := fun y48 y63 s t z r nc hw9 => by
      have hPs := r.2.1
      have te : TE (nxt σ) s 0 0 0 := te_same hPn.2.2.1.2.2.2.2.1 hw9 r.2.2.1 (ev_ke r.1 r.2.2.2.1)
      have sr := sr_tr h0 srn (sr_rl hPn.2.2.1.2.2.2.2.1 r te (by omega))
      have nc2 := nct_tr ncn nc
      refine sp_expect hPs (by decide) (fun hk3 ro po wo ico => ?_) (fun s' hs => cut sr (show NCt σ vs s z 0 from nct_le nc2 (by omega)) (by omega) _ _ _ (rt_rtx hs))
      have h0s := hPs.2.2.1.2.2.2.2.1
      have srf := sr_tr h0 sr (sr_rl h0s ro (te_nxt (N := 0) h0s ro) (by omega))
      have ncf : NCt σ vs (nxt s) z 0 := by
        obtain ⟨n1, n2, n3⟩ := nc2
        exact ⟨by omega, by omega, by omega⟩
      have res : (((σ 0 10).toInt < 0 ∨ (0 ≤ (σ 0 10).toInt ∧ (σ 0 10).toInt < 16002)) ∧ SRt σ vs 0 0 (nxt s) t z [] [] ∧ NCt σ vs (nxt s) z 0) := ⟨Or.inr htk, srf, ncf⟩
      exact ⟨fun _ => res, fun _ => sp_is ro.2.1 (fun hk4 => ⟨no1, fun _ => sp_told ro.2.1 (by have : kd (nxt s) = 62 := hk4; omega) (fun _ => res)⟩) (fun _ => ⟨fun _ => res, no0⟩)⟩
    refine sp_is hPn (fun hk3 => ⟨fun y => y.toInt = 0, fun y48 _ hy => ?_, fun _ => rfl, no1⟩) (fun hk3 => ⟨fun y => y.toInt ≠ 0, fun y48 _ hy => ?_, no0, fun _ => by decide⟩)
    · exact ⟨fun y63 s t z => RL (nxt σ) vs s t z ∧ NCt (nxt σ) vs s z 0 ∧ (s 0 17) = ((nxt σ) 0 17), fun y63 s t z ⟨a1, a2, a3⟩ => fin y48 y63 s t z a1 a2 a3, fun _ => ⟨rl_rf hPn, nct_rf, rfl⟩, fun c => absurd hy c⟩
    · refine ⟨fun y63 s t z => RL (nxt σ) vs s t z ∧ NCt (nxt σ) vs s z 0 ∧ (s 0 17) = ((nxt σ) 0 17), fun y63 s t z ⟨a1, a2, a3⟩ => fin y48 y63 s t z a1 a2 a3, fun c => absurd c hy, fun _ => ?_⟩
      exact sp_sizeAt hPn hSn.1 (nct_nb hB srn.1 ncn (by omega)) (fun r s t z r1 nc p hw9 => ⟨r1, nc, hw9⟩) (fun s' t' z' hs => cut srn ncn (by omega) _ _ _ hs)
  all_goals
    rintro x6 x7 x8 s1 t1 z1 - ⟨hx6, sr1, nc1⟩
    have hP1 := sr1.1.2.1
    refine ⟨fun y => y.toInt ≠ 0 → x6.toInt < 0 ∨ x7.toInt ≤ 4000, fun y119 _ hy119 => ⟨fun y => (x6.toInt < 0 → y.toInt < 0) ∧ y.toInt ≤ 4000, fun y141 hy141' => ⟨fun y s t z => SRt σ vs 0 0 s t z [] [] ∧ NCt σ vs s z 0 ∧ (y.toInt < 0 → (s 0 12).toInt = 0 → (s 0 15).toInt = 0 → False) ∧ (0 ≤ y.toInt → (y.toInt ≤ 99 ∧ y.toInt < (s 0 49).toInt ∧ (s 0 53).toInt < (s 0 49).toInt) ∧ (x6.toInt < 0 → ((s 32) y.toNatClampNeg).toInt < 0)), ?_, fun c => absurd c hf, fun _ => ?_⟩, fun c => ⟨fun _ => ⟨fun q => by omega, by decide⟩, fun c2 => ⟨fun q => by omega, by rcases hy119 c2 with q | q <;> omega⟩⟩, fun _ => ⟨fun _ => by decide, by decide⟩⟩, ⟨x6.toInt < 0 ∨ x7.toInt ≤ 4000, fun c _ => c, fun c => Or.inl c, fun _ => ⟨True, fun _ => no0, fun _ => trivial, fun _ => ⟨fun _ => trivial, fun c => Or.inr c⟩⟩⟩⟩
    rotate_left 1
    · obtain ⟨hy141, hy141b⟩ := hy141'
      refine sp_localName hP1 ht hty hy141b (fun r s q f1 f2 => ?_)
      obtain ⟨a1, a2⟩ := qt_sr (a := 0) hP1.2.2.1.2.2.2.2.1 q
      exact ⟨sr_tr h0 sr1 a1, nct_tr nc1 a2, f1, fun c => ⟨⟨(f2 c).1, (f2 c).2.1, (f2 c).2.2.1⟩, fun c2 => (f2 c).2.2.2 (hy141 c2)⟩⟩
    rintro y170 s2 t2 z2 ⟨sr2, nc2, f2, g2⟩
    have tl : ∀ {s t z}, SRt σ vs 0 0 s t z [] [] ∧ NCt σ vs s z 0 ∧ (y170.toInt < 0 → (s 0 12).toInt = 0 → (s 0 15).toInt = 0 → False) ∧ (0 ≤ y170.toInt → (y170.toInt ≤ 99 ∧ y170.toInt < (s 0 49).toInt ∧ (s 0 53).toInt < (s 0 49).toInt) ∧ (x6.toInt < 0 → ((s 32) y170.toNatClampNeg).toInt < 0)) → ∀ s', TL s s' → SRt σ vs 0 0 s' t z [] [] ∧ NCt σ vs s' z 0 ∧ (y170.toInt < 0 → (s' 0 12).toInt = 0 → (s' 0 15).toInt = 0 → False) ∧ (0 ≤ y170.toInt → (y170.toInt ≤ 99 ∧ y170.toInt < (s' 0 49).toInt ∧ (s' 0 53).toInt < (s' 0 49).toInt) ∧ (x6.toInt < 0 → ((s' 32) y170.toNatClampNeg).toInt < 0)) := fun ⟨b1, b2, b3, b4⟩ s' hs => by
      obtain ⟨a1, a2⟩ := qt_sr (a := 0) b1.1.2.1.2.2.1.2.2.2.2.1 (qt_tl b1.1.2.1 hs)
      have e1 : (s' 0 49) = _ := hs.1 0 49 rfl rfl
      have e2 : (s' 0 53) = _ := hs.1 0 53 rfl rfl
      have e3 : (s' 32) y170.toNatClampNeg = _ := hs.1 32 _ rfl rfl
      have e4 : (s' 0 15) = _ := hs.1 0 15 rfl rfl
      exact ⟨sr_tr h0 b1 a1, nct_tr b2 a2, fun c f1 f2 => b3 c (of0 hs.2 f1) (by rw [← e4]; exact f2), by rw [e1, e2, e3]; exact b4⟩
    refine ⟨fun s t z => SRt σ vs 0 0 s t z [] [] ∧ NCt σ vs s z 0 ∧ (y170.toInt < 0 → (s 0 12).toInt = 0 → (s 0 15).toInt = 0 → False) ∧ (0 ≤ y170.toInt → (y170.toInt ≤ 99 ∧ y170.toInt < (s 0 49).toInt ∧ (s 0 53).toInt < (s 0 49).toInt) ∧ (x6.toInt < 0 → ((s 32) y170.toNatClampNeg).toInt < 0)), ?_, fun _ => ⟨sr2, nc2, f2, g2⟩, fun c6 => ?_⟩
    rotate_left 1
    · have hx6' : 0 ≤ x6.toInt ∧ x6.toInt < 16002 := by omega
      refine ⟨fun s t z => SRt σ vs 0 0 s t z [] [] ∧ NCt σ vs s z 0 ∧ (y170.toInt < 0 → (s 0 12).toInt = 0 → (s 0 15).toInt = 0 → False) ∧ (0 ≤ y170.toInt → (y170.toInt ≤ 99 ∧ y170.toInt < (s 0 49).toInt ∧ (s 0 53).toInt < (s 0 49).toInt) ∧ (x6.toInt < 0 → ((s 32) y170.toNatClampNeg).toInt < 0)), ?_, fun _ => ⟨sr2, nc2, f2, g2⟩, fun _ => sp_tell (by decide) hx6' (fun s hs _ => tl ⟨sr2, nc2, f2, g2⟩ s hs)⟩
      rintro s3 t3 z3 b
      refine ⟨fun _ => True, fun y _ _ => sp_must hx6' (fun s hs _ => tl b s hs), ⟨True, fun _ => trivial, fun _ => trivial, fun _ => ⟨True, fun _ => trivial, fun _ => trivial, fun _ => ⟨fun _ => trivial, fun _ => ⟨fun _ => trivial, fun _ => sp_is b.1.1.2.1 (fun _ => ⟨fun _ => trivial, fun _ => trivial⟩) (fun _ => ⟨fun _ => trivial, fun _ => trivial⟩)⟩⟩⟩⟩⟩
    rintro s3 t3 z3 b3
    refine ⟨fun s t z => SRt σ vs 0 0 s t z [] [] ∧ NCt σ vs s z 0 ∧ (y170.toInt < 0 → (s 0 12).toInt = 0 → (s 0 15).toInt = 0 → False) ∧ (0 ≤ y170.toInt → (y170.toInt ≤ 99 ∧ y170.toInt < (s 0 49).toInt ∧ (s 0 53).toInt < (s 0 49).toInt) ∧ (x6.toInt < 0 → ((s 32) y170.toNatClampNeg).toInt < 0)), ?_, fun _ => b3, fun c => absurd c hf⟩
    rintro s4 t4 z4 ⟨sr4, nc4, f4, g4⟩
    have hP4 := sr4.1.2.1
    have h04 := hP4.2.2.1.2.2.2.2.1
    have hB4 := nct_nb hB sr4.1 nc4 (by omega)
    have hc4 := nb_cap hB4 hP4
    refine ⟨fun s t z => SRt σ vs 0 0 s t z [] [] ∧ NCt σ vs s z (-2) ∧ (y170.toInt < 0 → (s 0 12).toInt = 0 → (s 0 15).toInt = 0 → False) ∧ (0 ≤ y170.toInt → (y170.toInt ≤ 99 ∧ y170.toInt < (s 0 49).toInt) ∧ (x6.toInt < 0 → ((s 32) y170.toNatClampNeg).toInt < 0)), ?_, fun c => absurd c hf, fun _ => ⟨fun c => ⟨sr4, nct_le nc4 (by omega), f4, fun c2 => by omega⟩, fun c => ?_⟩⟩
    rotate_left 1
    · obtain ⟨⟨d1, d2, d3⟩, d4⟩ := g4 c
      refine sp_hold hP4 ht ⟨c, d1, d2⟩ d3 (fun s5 q5 el eh els => ?_)
      obtain ⟨a1, a2⟩ := qt_sr (a := 0) h04 q5
      have hP5 := q5.1.2.1
      have h05 := hP5.2.2.1.2.2.2.2.1
      have w5 := (qt_pos q5).2.1
      refine sp_put_1 h05 (by rw [w5]; omega) (fun s6 p6 => ?_)
      have r6 := rl_pu (vs := z4) (z := z4) hP5 p6 hP5.2.2.2.2 (fun _ h => h) (Nat.le_refl _)
      have e6 : (s6 0 49) = (s4 0 49) := (p6.1 0 49 rfl rfl).trans el
      have te6 : TE s5 s6 2 0 0 := te_put (n := 2) h05 p6 rfl (by decide) rfl (k := 8) rfl (fun g' H L x hH hn hx => ⟨by rw [hx _ rfl, e6]; omega, hn⟩) (by omega)
      have W6 : (s6 0 17).toInt = (s5 0 17).toInt + 2 := p6.2.1
      have I6 := ic_sq (sq_pu p6)
      have P6 := pos_sq (sq_pu p6)
      refine ⟨sr_tr h0 sr4 (sr_tr h04 a1 (sr_rl h05 r6 te6 (by omega))), ?_, fun c2 => by omega, fun _ => ⟨⟨d1, by rw [e6]; exact d2⟩, fun c2 => ?_⟩⟩
      · obtain ⟨n1, n2, n3⟩ := nct_tr nc4 a2
        exact ⟨by rw [P6]; omega, by rw [I6, P6]; exact n2, by rw [P6]; exact n3⟩
      · have e7 : (s6 32) y170.toNatClampNeg = (s5 32) y170.toNatClampNeg := p6.1 32 _ rfl rfl
        have e8 : (s5 32) y170.toNatClampNeg = (s4 32) y170.toNatClampNeg := by rw [els]
        rw [e7, e8]
        exact d4 c2
    rintro s5 t5 z5 ⟨sr5, nc5, f5, g5⟩
    have hP5 := sr5.1.2.1
    have h05 := hP5.2.2.1.2.2.2.2.1
    refine sp_is hP5 (fun hk5 => ⟨fun _ => ?_, no1⟩) (fun _ => ⟨no0, fun _ => k _ _ _ sr5 nc5⟩)
    have hk5' : kd s5 = 62 := hk5
    have htk5 := at_tok hP5.1 hP5.2.1
    obtain ⟨rn, pn, wn, icn⟩ := rl_nxt (vs := z5) hP5 (by omega)
    have hPn := rn.2.1
    rw [show upC s5 0 10 ((s5 0 10) + (1 : Int32)) = nxt s5 from rfl]
    have srn := sr_tr h0 sr5 (sr_rl h05 rn (te_nxt (N := 0) h05 rn) (by omega))
    have ncn : NCt σ vs (nxt s5) z5 38 := by
      obtain ⟨n1, n2, n3⟩ := nc5
      exact ⟨by omega, by omega, by omega⟩
    have hBn := nct_nb hB srn.1 ncn (by omega)
    have gn : 0 ≤ y170.toInt → y170.toInt ≤ 99 ∧ y170.toInt < ((nxt s5) 0 49).toInt := fun c => (g5 c).1
    have fin : ∀ (v : Int32) s t z, (v = 0 ∨ v = 1) → IRel (nxt s5) z5 y170 v s t z → (∃ J361 : Int32 → Prop, (∀ (y1_361 : Int32), y1_361 = 0 ∨ y1_361 = 1 → J361 y1_361 → (wp_must y1_361 (s5 0 10) s t z (fun s363 t363 z363 => Q s363 t363 z363))) ∧ (∃ J360 : Prop, (J360 → (J361 (0 : Int32))) ∧ (v.toInt = 0 → J360) ∧ (v.toInt ≠ 0 → (a4.toInt ≠ 0 → J360) ∧ (a4.toInt = 0 → J361 (1 : Int32))))) := fun v s t z hv ⟨r, nc, te⟩ => by
      refine ⟨fun y => y.toInt ≠ 0 → v.toInt ≠ 0, fun y _ hy => sp_must htk5 (fun s6 hs hf6 => ?_), ⟨True, fun _ => no0, fun _ => trivial, fun c => ⟨fun _ => trivial, fun _ _ => c⟩⟩⟩
      have q6 := rl_tl (vs := z) (z := z) r.2.1 hs r.2.1.2.2.2.2 (fun _ h => h) (Nat.le_refl _)
      have r6 := rl_tr r q6
      have h0s := r.2.1.2.2.1.2.2.2.2.1
      have te6 : TE (nxt s5) s6 512 0 0 := by
        refine te_if (P := v.toInt ≠ 0 ∧ 0 ≤ y170.toInt) (fun b1 b2 => ⟨hy (hf6 b1 b2), ?_⟩) (fun c => te_rl hPn.2.2.1.2.2.2.2.1 r q6 (te c.1 c.2) (te_tl h0s hs))
        by_cases c : y170.toInt < 0
        · exact (f5 c (of0 (rl_tr rn r6).2.2.2.2.1 b1) (by rw [← rl_sil (rl_tr rn r6)]; exact b2)).elim
        · omega
      refine k _ _ _ (sr_tr h0 srn (sr_rl hPn.2.2.1.2.2.2.2.1 r6 te6 (by omega))) ?_
      obtain ⟨n1, n2, n3⟩ := nct_tr ncn nc
      have P6 := pos_sq (sq_tl hs)
      have I6 := ic_sq (sq_tl hs)
      have W6 : (s6 0 17) = (s 0 17) := hs.1 0 17 rfl rfl
      exact ⟨by rw [W6, P6]; omega, by rw [I6, P6]; exact n2, by rw [P6]; exact n3⟩
    refine ⟨fun v s t z => (v = 0 ∨ v = 1) ∧ IRel (nxt s5) z5 y170 v s t z, fun v s t z _ ⟨hv, hr⟩ => fin v s t z hv hr, fun c6 => ?_, fun c6 => ?_⟩
    · exact sp_oneInitialL hPn hBn hf hty.1 (fun c => ⟨gn c, (g5 c).2 c6⟩) (fun v s t z hv hr => ⟨hv, hr⟩) (fun s' t' z' hs => cut srn ncn (by omega) _ _ _ (rt_rtx hs))
    · exact sp_rowInitialL hPn hBn hf hty.1 gn (fun v s t z hv hr => ⟨hv, hr⟩) (fun s' t' z' hs => cut srn ncn (by omega) _ _ _ (rt_rtx hs))
end VAR
end

section
/-! lists of variables; the body of a loop -/
abbrev KZ : Type := Int32 → St → St → List Nat → (St → St → List Nat → Prop) → (St → St → List Nat → Prop) → Prop
def PQ (σ : St) (vs : List Nat) (s t : St) (z : List Nat) : Prop := ∃ B G, SRt σ vs 0 0 s t z B G ∧ NCt σ vs s z 0 ∧ pos σ < pos s
def SS (K : KZ) (d : Int) : Prop := ∀ (a : Int32) (σ τ : St) (vs : List Nat) (Q T : St → St → List Nat → Prop), a.toInt = d → PA σ τ → PSt σ → NB σ vs → (∀ s t z, PQ σ vs s t z → Q s t z) → (∀ s t z, RTt σ vs s t z → T s t z) → K a σ τ vs Q T
section LOO
variable {σ s s' τ t t' : St} {vs z z' : List Nat} {g g' : Gh} {X X' : Nat → Prop} {E0 H L : Nat}
theorem sp_variablesL {a1 a2 f : Int32} {Q T : St → St → List Nat → Prop} (h : PA σ τ) (hS : PSt σ) (hB : NB σ vs) (hf : f.toInt ≠ 0) (k : ∀ s t z, SRt σ vs 0 0 s t z [] [] → NCt σ vs s z 0 → pos σ < pos s → Q s t z) (kT : ∀ s t z, RTt σ vs s t z → T s t z) : wp_variables a1 a2 f σ τ vs Q T := by
  have h0 := h.2.2.1.2.2.2.2.1
  unfold wp_variables
  refine ⟨fun n x s t z => n = ((σ 0 9).toInt - pos s).toNat ∧ SRt σ vs 0 0 s t z [] [] ∧ NCt σ vs s z 0, ⟨_, rfl, sr_rl h0 (rl_rf h) (te_rf (N := 0)) (by omega), nct_rf⟩, ?_⟩
  rintro n x s t z - ⟨hn, sr, nc⟩
  have hPs := sr.1.2.1
  have h0s := hPs.2.2.1.2.2.2.2.1
  have hBs := nct_nb hB sr.1 nc (by omega)
  have esz := rs_sz sr.1
  have mp := sr.1.2.2.2.2.2.2.2.1
  have cut : ∀ s' t' z', RTt s z s' t' z' → T s' t' z' := fun s' t' z' hs => kT _ _ _ (rt_rs sr.1 nc.2.2 hs)
  obtain ⟨n1, n2, n3⟩ := nc
  refine ⟨fun _ => ?_, fun _ => ?_⟩
  · refine sp_expect hPs (by decide) (fun hk ro po wo ico => ?_) (fun s' hs => cut _ _ _ (rt_rtx hs))
    exact k _ _ _ (sr_tr h0 sr (sr_rl h0s ro (te_nxt (N := 0) h0s ro) (by omega))) ⟨by omega, by omega, by omega⟩ (by omega)
  · refine sp_stars hPs (fun ty s1 ty0 ty5 hs1 => ?_) (fun s' hs => cut _ _ _ (rt_rtx hs))
    have r1 := sn_rl (vs := z) hPs hs1
    have hP1 := r1.2.1
    have h01 := hP1.2.2.1.2.2.2.2.1
    obtain ⟨w1, i1⟩ := sn_wc hs1
    have p1 := hs1.2.2
    have sr1 := sr_tr h0 sr (sr_rl h0s r1 (sn_te (N := 0) hPs hs1) (by omega))
    have htk := at_tok hP1.1 hP1.2.1
    have cut1 : ∀ s' t' z', RTt s1 z s' t' z' → T s' t' z' := fun s' t' z' hs => kT _ _ _ (rt_rs sr1.1 (by omega) hs)
    refine ⟨htk, fun hk => ?_, fun _ => sp_wrong hP1 (fun s' hs => cut1 _ _ _ (rt_rtx hs))⟩
    have hk2 : kd s1 = 2 := hk
    obtain ⟨rn, pn, wn, icn⟩ := rl_nxt (vs := z) hP1 (by omega)
    have sr2 := sr_tr h0 sr1 (sr_rl h01 rn (te_nxt (N := 0) h01 rn) (by omega))
    have nc2 : NCt σ vs (nxt s1) z 40 := ⟨by omega, by omega, by omega⟩
    have hB2 := nct_nb hB sr2.1 nc2 (by omega)
    have sz2 := rs_sz sr2.1
    have hb2 : ((nxt s1) 0 17).toInt + 2 + 40 * (((nxt s1) 0 9).toInt - pos (nxt s1)) ≤ 410000 := by
      obtain ⟨b1, -⟩ := hB
      rw [sz2]
      omega
    show wp_variable _ _ _ _ _ (nxt s1) t z _ T
    refine sp_variableL rn.2.1 (ps_rs hS sr2.1) hB2 hb2 htk ⟨ty0, by omega⟩ hf (fun s3 t3 z3 sr3 nc3 => ?_) (fun s' t' z' hs => kT _ _ _ (rt_rs sr2.1 nc2.2.2 hs))
    have srA := sr_tr h0 sr2 sr3
    have ncA := nct_tr nc2 nc3
    have hP3 := sr3.1.2.1
    have h03 := hP3.2.2.1.2.2.2.2.1
    have m3 := sr3.1.2.2.2.2.2.2.2.1
    have hp3 := pos_in hP3.1 hP3.2.1
    have sz3 := rs_sz srA.1
    unfold wp_accept
    refine sp_is hP3 (fun hk3 => ⟨fun _ => ?_, no1⟩) (fun _ => ⟨no0, fun _ => ⟨((σ 0 9).toInt - pos s3).toNat, by omega, rfl, srA, nct_le ncA (by omega)⟩⟩)
    have hk3' : kd s3 = 58 := hk3
    obtain ⟨ro, po, wo, ico⟩ := rl_nxt (vs := z3) hP3 (by omega)
    have hpo := pos_in ro.2.1.1 ro.2.1.2.1
    have szo := rl_sz ro
    refine ⟨((σ 0 9).toInt - pos (nxt s3)).toNat, by omega, rfl, sr_tr h0 srA (sr_rl h03 ro (te_nxt (N := 0) h03 ro) (by omega)), ?_⟩
    obtain ⟨b1, b2, b3⟩ := ncA
    show NCt σ vs (nxt s3) z3 0
    exact ⟨by omega, by omega, by omega⟩
theorem hol_le {w : Nat → Int32} {L L' b : Nat} (h : Hol w g L b) (hL : L' ≤ L) : Hol w g L' b := by
  obtain ⟨q, k, h1, h2, h3, h4, h5, h6⟩ := h
  exact ⟨q, k, h1, h2, by omega, h4, h5, h6⟩
theorem hol_low {w : Nat → Int32} {L b n : Nat} {v : Nat × Nat} (h : Hol w g L b) (hb : b < n) : Hol w (fun q => if q = n then some v else g q) L b := by
  obtain ⟨q, k, h1, h2, h3, h4, h5, h6⟩ := h
  refine ⟨q, k, h1, ?_, h3, ?_, h5, ?_⟩
  · show (if q = n then _ else _) = _
    rw [if_neg (by omega)]; exact h2
  · show (if q + 1 = n then _ else _) = _
    rw [if_neg (by omega)]; exact h4
  · show (if q + 2 = n then _ else _) ≠ _
    split
    · exact fun c => by cases c
    · exact h6
/-- the fields that a loop turns over -/
theorem rs_f {p : Nat} {v : Int32} (r : RSt σ vs s t z) (hp : p = 54 ∨ p = 57 ∨ p = 58 ∨ p = 59 ∨ p = 60) : RSt σ vs (upC s 0 p v) t z := by
  obtain ⟨h1, h2, h3, h4, h5, h6, h7, h8, h9, h10, h11, h12⟩ := r
  rcases hp with rfl | rfl | rfl | rfl | rfl
  all_goals exact ⟨kp_f h1 rfl, ⟨tk_kp (fs := [(0, 54), (0, 57), (0, 58), (0, 59), (0, 60)]) (cs := []) (kp_f kp_rf rfl) rfl rfl ⟨rfl, rfl, rfl, rfl, rfl⟩ rfl h2.1, h2.2.1, h2.2.2.1, h2.2.2.2.1, h2.2.2.2.2⟩, h3, h4, h5, h6, h7, h8, h9, h10, h11, h12⟩
theorem ty_rs (h : TY σ g X E0 H L) (h0 : 0 ≤ (σ 0 17).toInt) (r : RSt σ vs s t z) (hw : (s 0 17) = (σ 0 17)) : TY s g X E0 H L := ty_same h h0 hw r.2.2.1 (rs_ev r)
/-- what the body of a loop leaves: jumps out of it -/
def LQ (σ : St) (vs : List Nat) (top : Int) (s t : St) (z : List Nat) : Prop := RSt σ vs s t z ∧ NCt σ vs s z (-2) ∧ pos σ < pos s ∧ (s 0 57) = (σ 0 57) ∧ (s 0 59) = (σ 0 59) ∧ (s 0 60) = (σ 0 58) ∧ ∃ B : List Nat, (∀ b ∈ B, wcn σ < b ∧ b < wcn s) ∧ Ch (s 8) (s 0 58).toInt B ∧
  ∀ g X E0 L, TY σ g X E0 0 L → (0 ≤ top → ∃ kT, g top.toNat = some (0, kT) ∧ kT ≤ L + 1) → (s 0 12).toInt = 0 → (s 0 15).toInt = 0 → ∃ g', TY s g' (Xh X B) E0 0 (if 0 ≤ top then L + 2 else L + 1) ∧ Ext g g' (wcn σ) ∧ ∀ b ∈ B, Hol (s 8) g' (L + 2) b
def SSl (K : Int32 → Int32 → Int32 → St → St → List Nat → (St → St → List Nat → Prop) → (St → St → List Nat → Prop) → Prop) (d : Int) : Prop := ∀ (a wd tp : Int32) (σ τ : St) (vs : List Nat) (Q T : St → St → List Nat → Prop), a.toInt = d → PA σ τ → PSt σ → NB σ vs → (σ 0 17).toInt + 2 + 40 * ((σ 0 9).toInt - pos σ) ≤ 410000 → (0 ≤ wd.toInt ∧ wd.toInt < 16002) → tp.toInt ≤ (σ 0 17).toInt → (∀ s t z, LQ σ vs tp.toInt s t z → Q s t z) → (∀ s t z, RTt σ vs s t z → T s t z) → K a wd tp σ τ vs Q T
theorem sp_loop {k1 k2 k3 : KZ} {k4 : Int32 → Int32 → Int32 → St → St → List Nat → (St → St → List Nat → Prop) → (St → St → List Nat → Prop) → Prop} {k5 k6 : Int32 → KZ} {d : Int} (hI : SS k2 d) : SSl (wp_loop k1 k2 k3 k4 k5 k6) d := by
  intro a wd tp σ τ vs Q T had hP hS hB hB2 hwd htp kQ kT
  unfold wp_loop
  have h0 := hP.2.2.1.2.2.2.2.1
  have hc := nb_cap hB hP
  have r1 : RSt σ vs (upC (upC (upC σ 0 58 ((-1) : Int32)) 0 59 ((-1) : Int32)) 0 57 ((σ 0 57) + (1 : Int32))) τ vs := rs_f (rs_f (rs_f (rs_rf hP) (by omega)) (by omega)) (by omega)
  have hb1 : ((upC (upC (upC σ 0 58 ((-1) : Int32)) 0 59 ((-1) : Int32)) 0 57 ((σ 0 57) + (1 : Int32))) 0 58) = -1 := rfl
  have hg1 : ((upC (upC (upC σ 0 58 ((-1) : Int32)) 0 59 ((-1) : Int32)) 0 57 ((σ 0 57) + (1 : Int32))) 0 59) = -1 := rfl
  have wc1 : ((upC (upC (upC σ 0 58 ((-1) : Int32)) 0 59 ((-1) : Int32)) 0 57 ((σ 0 57) + (1 : Int32))) 0 17) = (σ 0 17) := rfl
  have ps1 : pos (upC (upC (upC σ 0 58 ((-1) : Int32)) 0 59 ((-1) : Int32)) 0 57 ((σ 0 57) + (1 : Int32))) = pos σ := rfl
  have ic1 : ((upC (upC (upC σ 0 58 ((-1) : Int32)) 0 59 ((-1) : Int32)) 0 57 ((σ 0 57) + (1 : Int32))) 0 39) = (σ 0 39) := rfl
  have lo1 : ((upC (upC (upC σ 0 58 ((-1) : Int32)) 0 59 ((-1) : Int32)) 0 57 ((σ 0 57) + (1 : Int32))) 0 57) = (σ 0 57) + (1 : Int32) := rfl
  generalize (upC (upC (upC σ 0 58 ((-1) : Int32)) 0 59 ((-1) : Int32)) 0 57 ((σ 0 57) + (1 : Int32))) = s1 at *
  refine ⟨hwd, sp_put_1 (by rw [wc1]; exact h0) (by rw [wc1]; omega) (fun s2 p2 => ?_)⟩
  have hP1 := r1.2.1
  have rl2 := rl_pu (vs := vs) (z := vs) hP1 p2 hP1.2.2.2.2 (fun _ h => h) (Nat.le_refl _)
  have r2 := rs_tr r1 (rs_rl rl2)
  have W2 : (s2 0 17).toInt = (σ 0 17).toInt + 2 := by rw [p2.2.1, wc1]; rfl
  have P2 : pos s2 = pos σ := (pos_sq (sq_pu p2)).trans ps1
  have I2 : (s2 0 39) = (σ 0 39) := (ic_sq (sq_pu p2)).trans ic1
  have nc2 : NCt σ vs s2 vs (-2) := ⟨by omega, by rw [I2, P2]; omega, by rw [P2]; omega⟩
  have hB2' : NB s2 vs := by
    obtain ⟨b1, b2, b3⟩ := hB
    have e := rs_sz r2
    unfold NB
    rw [e, P2, I2]
    exact ⟨by omega, b2, b3⟩
  refine hI a s2 τ vs _ T had r2.2.1 (ps_rs hS r2) hB2' (fun s3 t3 z3 pq => ?_) (fun s' t' z' hs => kT _ _ _ (rt_rs r2 (by omega) hs))
  obtain ⟨B, G, sr3, nc3, p3⟩ := pq
  have r3 := rs_tr r2 sr3.1
  have hP3 := sr3.1.2.1
  have h02 := r2.2.1.2.2.1.2.2.2.2.1
  have h03 := hP3.2.2.1.2.2.2.2.1
  obtain ⟨c1, c2, c3, c4, c5⟩ := sr3.2.1
  have n0 : (wcn σ : Int) = (σ 0 17).toInt := nt h0
  have n2 : (wcn s2 : Int) = (s2 0 17).toInt := nt h02
  have n3 : (wcn s3 : Int) = (s3 0 17).toInt := nt h03
  have b2 : (s2 0 58) = -1 := (p2.1 0 58 rfl rfl).trans hb1
  have g2 : (s2 0 59) = -1 := (p2.1 0 59 rfl rfl).trans hg1
  have C4 := c4 [] (fun b hb => absurd hb List.not_mem_nil) (by rw [b2]; exact (by decide : ((-1 : Int32)).toInt < 0))
  have C5 := c5 [] (fun b hb => absurd hb List.not_mem_nil) (by rw [g2]; exact (by decide : ((-1 : Int32)).toInt < 0))
  rw [List.append_nil] at C4 C5
  have hw3 : (s3 0 17).toInt ≤ 500000 := by
    have := (nb_cap (nct_nb hB2' sr3.1 nc3 (by omega)) hP3).2.1
    omega
  -- where it goes on
  have hto : ∀ to : Int32, ((tp.toInt < 0 ∧ to = (s3 0 17)) ∨ (0 ≤ tp.toInt ∧ to = tp)) → wp_aimAll (s3 0 59) to (upC s3 0 57 ((s3 0 57) - (1 : Int32))) t3 z3 (fun s76 t76 z76 => Q (upC (upC s76 0 59 (σ 0 59)) 0 60 (σ 0 58)) t76 z76) := fun to hto => by
    refine sp_aimAll (B := G) C5 (fun b hb => by have := c2 b hb; omega) (fun s4 al => ?_)
    have r3' : RSt σ vs (upC s3 0 57 ((s3 0 57) - (1 : Int32))) t3 z3 := rs_f r3 (by omega)
    have r4 := rs_al r3' al (fun b hb => by have := c2 b hb; omega) h0
    have r5 : RSt σ vs (upC (upC s4 0 59 (σ 0 59)) 0 60 (σ 0 58)) t3 z3 := rs_f (rs_f r4 (by omega)) (by omega)
    have a0 : ∀ j, s4 0 j = (upC s3 0 57 ((s3 0 57) - (1 : Int32))) 0 j := fun j => al.1 0 j rfl rfl
    have aw : (s4 0 17) = (s3 0 17) := a0 17
    have afr : (s4 3) = (s3 3) := funext (fun j => al.1 3 j rfl rfl)
    have aP : pos (upC (upC s4 0 59 (σ 0 59)) 0 60 (σ 0 58)) = pos s3 := by
      unfold pos
      show ((s4 3) (s4 0 10).toNatClampNeg).toInt = _
      rw [afr, a0 10]
      rfl
    have ab : (s4 0 58) = (s3 0 58) := a0 58
    obtain ⟨m1, m2, m3⟩ := nct_tr nc2 nc3
    refine kQ _ _ _ ⟨r5, ⟨?_, ?_, ?_⟩, by rw [aP]; omega, ?_, ?_, ?_, B, fun b hb => ?_, ?_, fun g X E0 L hT htop hf hs => ?_⟩
    · rw [aP]
      show (s4 0 17).toInt + -2 ≤ _
      rw [aw]; omega
    · rw [aP]
      show (s4 0 39).toInt ≤ _
      rw [a0 39]; exact m2
    · rw [aP]; exact m3
    · show (s4 0 57) = _
      rw [a0 57]
      show upC s3 0 57 ((s3 0 57) - (1 : Int32)) 0 57 = _
      rw [rdA_eq rfl, sr3.2.2.2.1, p2.1 0 57 rfl rfl, lo1]
      have : ((σ 0 57) + 1) - (1 : Int32) = (σ 0 57) := by
        rw [Int32.sub_eq_add_neg, Int32.add_assoc]
        have e : (1 : Int32) + -1 = 0 := by decide
        rw [e, Int32.add_zero]
      exact this
    · show upC (upC s4 0 59 (σ 0 59)) 0 60 (σ 0 58) 0 59 = _
      rw [rdA_ne (by decide), rdA_eq rfl]
    · rw [rdA_eq rfl]
    · have e9 : wcn (upC (upC s4 0 59 (σ 0 59)) 0 60 (σ 0 58)) = wcn s3 := by
        show ((s4 0 17)).toNatClampNeg = _
        rw [aw]; rfl
      rw [e9]
      have := c1 b hb
      omega
    · show Ch (s4 8) ((s4 0 58)).toInt B
      rw [ab]
      refine ch_w (fun b hb => ?_) C4
      rw [al.2, if_neg (c3 b hb)]
      rfl
    · -- heights
      have hf3 : (s3 0 12).toInt = 0 := by
        have : (s4 0 12).toInt = 0 := hf
        rw [a0 12] at this; exact this
      have hs3 : (s3 0 15).toInt = 0 := by
        have : (s4 0 15).toInt = 0 := hs
        rw [a0 15] at this; exact this
      obtain ⟨g1, t1, x1, -⟩ := ty_put1 (H' := 0) (L' := L + 2) (n := 2) (k := 18) (ty_rs hT h0 r1 wc1) (by rw [wc1]; exact h0) p2 rfl (by decide) rfl rfl (fun g' x hg hn hx => ⟨by omega, _, hn⟩)
      have x1' : Ext g g1 (wcn σ) := by
        have : wcn s1 = wcn σ := by unfold wcn; rw [wc1]
        rw [← this]; exact x1
      obtain ⟨g2', t2, x2, o2⟩ := sr3.2.2.1 g1 X E0 (L + 2) t1 hf3 hs3
      have xx : Ext g g2' (wcn σ) := ext_tr x1' x2 (by omega)
      have oB : ∀ b ∈ B, Hol (s3 8) g2' (L + 2) b := fun b hb => o2 b (List.mem_append.mpr (Or.inl hb))
      have oG : ∀ b ∈ G, Hol (s3 8) g2' (L + 2) b := fun b hb => o2 b (List.mem_append.mpr (Or.inr hb))
      have wB : ∀ q, q ∉ G → (s4 8) q = (s3 8) q := fun q hq => by rw [al.2, if_neg hq]; rfl
      have hBw : ∀ {gg : Gh} b, b ∈ B → Hol (s3 8) gg (L + 2) b → Hol (s4 8) gg (L + 2) b := fun {gg} b hb ⟨q, k, h1, h2, h3, h4, h5, h6⟩ => by
        refine ⟨q, k, h1, h2, h3, h4, ?_, h6⟩
        by_cases c : q ∈ G
        · -- no jump stands in a jump
          obtain ⟨q', k', d1, -, -, d2, -⟩ := oG q c
          have hbb := oB b hb
          obtain ⟨q9, k9, f1, f2, -, f3, f4, f5⟩ := hbb
          have : q9 = q := by omega
          subst this
          rw [← d1, f2] at d2
          cases d2
        · rw [wB q c]; exact h5
      have t3' : TY (upC s3 0 57 ((s3 0 57) - (1 : Int32))) g2' (Xh X (G ++ B)) E0 0 (L + 2) := ty_X (ty_rs t2 h03 (rs_f (rs_rf (vs := vs) hP3) (by omega)) rfl) (fun q hq => hq.imp id (fun h => List.mem_append.mpr ((List.mem_append.mp h).symm)))
      by_cases c : 0 ≤ tp.toInt
      · rw [if_pos c]
        obtain ⟨kT', e1, e2⟩ := htop c
        have eto : to = tp := by
          rcases hto with ⟨q, -⟩ | ⟨-, q⟩
          · omega
          · exact q
        have t4 := ty_aimall (T := tp.toInt.toNat) (kT := kT') t3' al (fun b hb => hol_le (oG b hb) (by omega)) (by rw [eto]; omega) (by rw [xx _ (by omega)]; exact e1) (fun b hb hb2 => c3 b hb2 hb) (fun b hb => hol_le (oB b hb) (by omega))
        exact ⟨g2', ty_rs t4 (by rw [aw]; exact h03) (rs_f (rs_f (rs_rf (vs := vs) r4.2.1) (by omega)) (by omega)) rfl, xx, fun b hb => hBw b hb (oB b hb)⟩
      · rw [if_neg c]
        have eto : to = (s3 0 17) := by
          rcases hto with ⟨-, q⟩ | ⟨q, -⟩
          · exact q
          · omega
        have t3'' := ty_low (L' := L + 1) t3' (by omega)
        have en : wcn (upC s3 0 57 ((s3 0 57) - (1 : Int32))) = wcn s3 := rfl
        rw [en] at t3''
        have bl : ∀ b ∈ B, b < wcn s3 := fun b hb => (c1 b hb).2
        have gl : ∀ b ∈ G, b < wcn s3 := fun b hb => (c2 b hb).2
        have t4 := ty_aimall (T := wcn s3) (kT := L + 1) t3'' al (fun b hb => hol_low (oG b hb) (gl b hb)) (by rw [eto]; exact n3.symm) (if_pos rfl) (fun b hb hb2 => c3 b hb2 hb) (fun b hb => hol_le (hol_low (oB b hb) (bl b hb)) (by omega))
        refine ⟨_, ty_rs t4 (by rw [aw]; exact h03) (rs_f (rs_f (rs_rf (vs := vs) r4.2.1) (by omega)) (by omega)) rfl, fun q hq => ?_, fun b hb => hBw b hb (hol_low (oB b hb) (bl b hb))⟩
        have m3' := rs_wcn sr3.1 h02
        show (if q = wcn s3 then _ else _) = _
        rw [if_neg (by omega)]
        exact xx q hq
  exact ⟨fun to => (tp.toInt < 0 ∧ to = (s3 0 17)) ∨ (0 ≤ tp.toInt ∧ to = tp), fun to h => hto to h, fun c => Or.inl ⟨c, rfl⟩, fun c => Or.inr ⟨c, rfl⟩⟩
end LOO
end

section
/-! statements: inner ones, blocks, jumps -/
section ST3
variable {σ s s' τ t t' : St} {vs z z' : List Nat} {g g' : Gh} {X X' : Nat → Prop} {E0 H L : Nat}
theorem ty_hole2 {ws : List Int32} {H' L' : Nat} (h : TY σ g X E0 H L) (h0 : 0 ≤ (σ 0 17).toInt) (p : PU σ s ws) (hn : ws.length = 2) :
    ∃ g', TY s g' (fun q => X q ∨ q = wcn σ) E0 H' L' ∧ Ext g g' (wcn σ) ∧ g' (wcn σ) = some (H, L) ∧ g' (wcn σ + 1) = none := by
  obtain ⟨g', h1, h2, h3⟩ := ty_ext2 (X' := fun q => X q ∨ q = wcn σ) (H' := H') (L' := L') h h0 (by decide : 0 < 2) (by rw [p.2.1, hn]) p.2.2.1 (ev_pu p) (fun _ h => Or.inl h) (fun g' hg c1 c2 hx => absurd (Or.inr rfl) hx)
  refine ⟨g', h1, h2, ?_, h3 _ (by omega) (by omega)⟩
  rw [h2 _ (Nat.le_refl _)]
  exact h.2.1
theorem rs_aim {p : Nat} (r : RSt σ vs s t z) (hp : (σ 0 17).toInt ≤ (p + 1 : Nat)) : RSt σ vs (aimS s p) t z := by
  obtain ⟨h1, h2, h3, h4, h5, h6, h7, h8, h9, h10, h11, h12⟩ := r
  exact ⟨kp_a h1 rfl, ⟨tk_kp (fs := []) (cs := [8]) (kp_a kp_rf rfl) rfl rfl ⟨rfl, rfl, rfl, rfl, rfl⟩ rfl h2.1, h2.2.1, h2.2.2.1, h2.2.2.2.1, h2.2.2.2.2⟩, fun j hj => by
    show upC s 8 (p + 1) _ 8 j = _
    rw [rdA_ne (by omega)]
    exact h3 j hj, h4, h5, h6, h7, h8, h9, h10, h11, h12⟩
theorem chn_aim {p : Nat} {B G : List Nat} (h : CHN σ s B G) (hp : wcn σ ≤ p) (hB : ∀ b ∈ B, b ≠ p + 1) (hG : ∀ b ∈ G, b ≠ p + 1) : CHN σ (aimS s p) B G := by
  obtain ⟨c1, c2, c3, c4, c5⟩ := h
  refine ⟨c1, c2, c3, fun A hA hC => ch_w (fun b hb => ?_) (c4 A hA hC), fun A hA hC => ch_w (fun b hb => ?_) (c5 A hA hC)⟩
  · show upC s 8 (p + 1) _ 8 b = _
    refine rdA_ne ?_
    rcases List.mem_append.mp hb with k | k
    · exact hB b k
    · have := hA b k; omega
  · show upC s 8 (p + 1) _ 8 b = _
    refine rdA_ne ?_
    rcases List.mem_append.mp hb with k | k
    · exact hG b k
    · have := hA b k; omega
theorem hol_aim {p b : Nat} (h : Hol (s 8) g L b) (hg : g (p + 1) = none) : Hol ((aimS s p) 8) g L b := by
  obtain ⟨q, k, h1, h2, h3, h4, h5, h6⟩ := h
  refine ⟨q, k, h1, h2, h3, h4, ?_, h6⟩
  show upC s 8 (p + 1) _ 8 q = _
  rw [rdA_ne]
  · exact h5
  · intro e
    rw [e, hg] at h2
    cases h2
theorem sp_inner {k1 k2 k3 : KZ} {k4 : Int32 → Int32 → Int32 → St → St → List Nat → (St → St → List Nat → Prop) → (St → St → List Nat → Prop) → Prop} {k5 k6 : Int32 → KZ} {d : Int} (hd : 0 ≤ d ∧ d ≤ 25) (hK : SS k1 (d + 1)) : SS (wp_inner k1 k2 k3 k4 k5 k6) d := by
  intro a σ τ vs Q T had hP hS hB kQ kT
  unfold wp_inner
  have h0 := hP.2.2.1.2.2.2.2.1
  have r1 : RSt σ vs (upC σ 0 54 ((σ 0 54) + (1 : Int32))) τ vs := rs_f (rs_rf hP) (by omega)
  have sr1 : SRt σ vs 0 0 (upC σ 0 54 ((σ 0 54) + (1 : Int32))) τ vs [] [] := ⟨r1, chn_no h0 (fun _ _ => rfl) rfl rfl, fun g X E0 L hT hf hs => ⟨g, ty_X (ty_rs hT h0 r1 rfl) (fun q hq => Or.inl hq), ext_rf, fun b hb => absurd hb List.not_mem_nil⟩, rfl, fun _ _ _ => ⟨rfl, rfl⟩⟩
  refine hK (a + 1) _ τ vs _ T (by rw [ad1 (by omega)]; omega) r1.2.1 (ps_rs hS r1) hB (fun s t z pq => ?_) (fun s' t' z' hs => kT _ _ _ (rt_rs r1 (by show (vs.length : Int) ≤ vs.length + 2 * (pos σ - pos σ); omega) hs))
  obtain ⟨B, G, sr, nc, p⟩ := pq
  have hPs := sr.1.2.1
  refine sp_close hPs (fun s2 q2 => ?_)
  obtain ⟨a1, a2⟩ := qt_sr (a := 0) hPs.2.2.1.2.2.2.2.1 q2
  have P2 := (qt_pos q2).1
  have sra := sr_tr h0 (sr_tr h0 sr1 sr) a1
  have nca : NCt σ vs s2 z 0 := nct_tr (c := 0) (d := 0) nc a2
  have pp : pos σ < pos s2 := by rw [P2]; exact p
  exact kQ _ _ _ ⟨_, _, sra, nca, pp⟩
theorem sp_block {k1 k2 k3 : KZ} {k4 : Int32 → Int32 → Int32 → St → St → List Nat → (St → St → List Nat → Prop) → (St → St → List Nat → Prop) → Prop} {k5 k6 : Int32 → KZ} {d : Int} (hd : 0 ≤ d ∧ d ≤ 25) (hK : SS k1 (d + 1)) : SS (wp_block k1 k2 k3 k4 k5 k6) d := by
  intro a σ τ vs Q T had hP hS hB kQ kT
  unfold wp_block
  have h0 := hP.2.2.1.2.2.2.2.1
  refine sp_expect hP (by decide) (fun hk rn pn wn icn => ?_) (fun s hs => kT _ _ _ (rt_rtx hs))
  have hPn := rn.2.1
  have h0n := hPn.2.2.1.2.2.2.2.1
  have srn : SRt σ vs 0 0 (nxt σ) τ vs [] [] := sr_rl h0 rn (te_nxt (N := 0) h0 rn) (by omega)
  have r1 : RSt (nxt σ) vs (upC (nxt σ) 0 54 (((nxt σ) 0 54) + (1 : Int32))) τ vs := rs_f (rs_rf hPn) (by omega)
  have sr1 : SRt (nxt σ) vs 0 0 (upC (nxt σ) 0 54 (((nxt σ) 0 54) + (1 : Int32))) τ vs [] [] := ⟨r1, chn_no h0n (fun _ _ => rfl) rfl rfl, fun g X E0 L hT hf hs => ⟨g, ty_X (ty_rs hT h0n r1 rfl) (fun q hq => Or.inl hq), ext_rf, fun b hb => absurd hb List.not_mem_nil⟩, rfl, fun _ _ _ => ⟨rfl, rfl⟩⟩
  have srA := sr_tr h0 srn sr1
  have PA_ : pos (upC (nxt σ) 0 54 (((nxt σ) 0 54) + (1 : Int32))) = pos (nxt σ) := rfl
  refine ⟨fun n s t z => n = ((σ 0 9).toInt - pos s).toNat ∧ pos σ < pos s ∧ NCt σ vs s z 0 ∧ ∃ B G, SRt σ vs 0 0 s t z B G, ⟨_, rfl, by rw [PA_]; omega, ⟨by rw [PA_]; show ((nxt σ) 0 17).toInt + 0 ≤ _; omega, by rw [PA_]; show ((nxt σ) 0 39).toInt ≤ _; omega, by rw [PA_]; omega⟩, _, _, srA⟩, ?_⟩
  rintro n s t z ⟨hn, hp, nc, B, G, sr⟩
  have hPs := sr.1.2.1
  have h0s := hPs.2.2.1.2.2.2.2.1
  refine sp_is hPs (fun hk2 => ⟨fun _ => ?_, no1⟩) (fun hk2 => ⟨no0, fun _ => ?_⟩)
  · have hk2' : kd s = 55 := hk2
    obtain ⟨ro, po, wo, ico⟩ := rl_nxt (vs := z) hPs (by omega)
    have sro := sr_tr h0 sr (sr_rl h0s ro (te_nxt (N := 0) h0s ro) (by omega))
    show wp_close (nxt s) t z _
    refine sp_close ro.2.1 (fun s2 q2 => ?_)
    obtain ⟨a1, a2⟩ := qt_sr (a := 0) ro.2.1.2.2.1.2.2.2.2.1 q2
    have P2 := (qt_pos q2).1
    obtain ⟨n1, n2, n3⟩ := nc
    have nco : NCt σ vs (nxt s) z 0 := ⟨by omega, by omega, by omega⟩
    exact kQ _ _ _ ⟨_, _, sr_tr h0 sro a1, nct_tr (c := 0) (d := 0) nco a2, by omega⟩
  · refine hK (a + 1) s t z _ T (by rw [ad1 (by omega)]; omega) hPs (ps_rs hS sr.1) (nct_nb hB sr.1 nc (by omega)) (fun s2 t2 z2 pq => ?_) (fun s' t' z' hs => kT _ _ _ (rt_rs sr.1 nc.2.2 hs))
    obtain ⟨B2, G2, sr2, nc2, p2⟩ := pq
    have hp2 := pos_in sr2.1.2.1.1 sr2.1.2.1.2.1
    have sz2 := rs_sz (rs_tr sr.1 sr2.1)
    exact ⟨((σ 0 9).toInt - pos s2).toNat, by omega, rfl, by omega, nct_tr (c := 0) (d := 0) nc nc2, _, _, sr_tr h0 sr sr2⟩
/-- an if without else, behind its condition -/
theorem ts_if {s1 s2 s3 : St} {B G : List Nat} (h0 : 0 ≤ (s1 0 17).toInt) (p2 : PU s1 s2 [16, -1]) (hi : TSt s2 s3 0 0 B G) (r3 : RW s2 s3) (w3 : (s2 0 17).toInt ≤ (s3 0 17).toInt) (hb : ∀ b ∈ B ++ G, wcn s2 < b) : TSt s1 (aimS s3 (wcn s1)) 1 0 B G := by
  intro g X E0 L hT hf hs
  have W2 : (s2 0 17).toInt = (s1 0 17).toInt + 2 := p2.2.1
  have n1 : (wcn s1 : Int) = (s1 0 17).toInt := nt h0
  have n2 : (wcn s2 : Int) = (s2 0 17).toInt := nt (by omega)
  have n3 : (wcn s3 : Int) = (s3 0 17).toInt := nt (by omega)
  obtain ⟨g1, t1, x1, a1, b1⟩ := ty_hole2 (H' := 0) (L' := L) hT h0 p2 rfl
  obtain ⟨g2, t2, x2, o2⟩ := hi g1 _ E0 L t1 hf hs
  have k1 : g2 (wcn s1) = some (1, L) := by rw [x2 _ (by omega), a1]
  have k2 : g2 (wcn s1 + 1) = none := by rw [x2 _ (by omega), b1]
  have k3 : g2 (wcn s1 + 2) = some (0, L) := by
    have : wcn s1 + 2 = wcn s2 := by omega
    rw [this, x2 _ (by omega)]
    exact t1.2.1
  have o1 : (s3 8) (wcn s1) = 16 := by
    rw [r3 _ (by omega)]
    exact p2.2.2.2 0 _ rfl
  refine ⟨g2, ty_aim (ty_X t2 (fun q hq => ?_)) (by omega) (by omega) k2 (fun h k hh => ?_), ext_tr x1 x2 (by omega), fun b hb => hol_aim (o2 b hb) k2⟩
  · rcases hq with (hq | hq) | hq
    · exact Or.inl (Or.inl hq)
    · exact Or.inr hq
    · exact Or.inl (Or.inr hq)
  · rw [k1] at hh
    cases hh
    exact okc_br o1 (Or.inl rfl) (by omega) (by omega) ⟨by omega, L, t2.2.1, Or.inr ⟨rfl, by omega⟩⟩ ⟨by omega, L, k3, Or.inr ⟨rfl, by omega⟩⟩
theorem ts_ifelse {s1 s2 s3 s4 s5 s6 s7 : St} {B G B' G' : List Nat} (h0 : 0 ≤ (s1 0 17).toInt) (p2 : PU s1 s2 [16, -1]) (hi : TSt s2 s3 0 0 B G) (r3 : RW s2 s3) (w3 : (s2 0 17).toInt ≤ (s3 0 17).toInt) (hb : ∀ b ∈ B ++ G, wcn s2 < b ∧ b < wcn s3) (p4 : PU s3 s4 [15, -1]) (e5 : s5 = aimS s4 (wcn s1)) (hj : TSt s5 s6 0 0 B' G') (r6 : RW s5 s6) (w6 : (s5 0 17).toInt ≤ (s6 0 17).toInt) (hb' : ∀ b ∈ B' ++ G', wcn s5 < b) (e7 : s7 = aimS s6 (wcn s3)) (f3 : OF s3 s6) (l3 : (s6 0 15) = (s3 0 15)) : TSt s1 s7 1 0 (B' ++ B) (G' ++ G) := by
  intro g X E0 L hT hf hs
  subst e5
  subst e7
  have W2 : (s2 0 17).toInt = (s1 0 17).toInt + 2 := p2.2.1
  have W4 : (s4 0 17).toInt = (s3 0 17).toInt + 2 := p4.2.1
  have W5 : ((aimS s4 (wcn s1)) 0 17).toInt = (s4 0 17).toInt := rfl
  have n1 : (wcn s1 : Int) = (s1 0 17).toInt := nt h0
  have n2 : (wcn s2 : Int) = (s2 0 17).toInt := nt (by omega)
  have n3 : (wcn s3 : Int) = (s3 0 17).toInt := nt (by omega)
  have n4 : (wcn s4 : Int) = (s4 0 17).toInt := nt (by omega)
  have n5 : wcn (aimS s4 (wcn s1)) = wcn s4 := rfl
  have n6 : (wcn s6 : Int) = (s6 0 17).toInt := nt (by omega)
  have hf6 : (s6 0 12).toInt = 0 := hf
  have hs6 : (s6 0 15).toInt = 0 := hs
  have hf3 := of0 f3 hf6
  have hs3 : (s3 0 15).toInt = 0 := by rw [← l3]; exact hs6
  obtain ⟨g1, t1, x1, a1, b1⟩ := ty_hole2 (H' := 0) (L' := L) hT h0 p2 rfl
  obtain ⟨g2, t2, x2, o2⟩ := hi g1 _ E0 L t1 hf3 hs3
  obtain ⟨g3, t3, x3, a3, b3⟩ := ty_hole2 (H' := 0) (L' := L) t2 (by omega) p4 rfl
  have k1 : g3 (wcn s1) = some (1, L) := by rw [x3 _ (by omega), x2 _ (by omega), a1]
  have k2 : g3 (wcn s1 + 1) = none := by rw [x3 _ (by omega), x2 _ (by omega), b1]
  have k3 : g3 (wcn s1 + 2) = some (0, L) := by
    have : wcn s1 + 2 = wcn s2 := by omega
    rw [this, x3 _ (by omega), x2 _ (by omega)]
    exact t1.2.1
  have k4 : g3 (wcn s4) = some (0, L) := t3.2.1
  have o1 : (s4 8) (wcn s1) = 16 := by
    rw [p4.2.2.1 _ (by omega), r3 _ (by omega)]
    exact p2.2.2.2 0 _ rfl
  have t4 : TY (aimS s4 (wcn s1)) g3 (fun q => Xh X (B ++ G) q ∨ q = wcn s3) E0 0 L := by
    refine ty_aim (ty_X t3 (fun q hq => ?_)) (by omega) (by omega) k2 (fun h k hh => ?_)
    · rcases hq with ((hq | hq) | hq) | hq
      · exact Or.inl (Or.inl (Or.inl hq))
      · exact Or.inr hq
      · exact Or.inl (Or.inl (Or.inr hq))
      · exact Or.inl (Or.inr hq)
    · rw [k1] at hh
      cases hh
      exact okc_br o1 (Or.inl rfl) (by omega) (by omega) ⟨by omega, L, k4, Or.inr ⟨rfl, by omega⟩⟩ ⟨by omega, L, k3, Or.inr ⟨rfl, by omega⟩⟩
  obtain ⟨g5, t5, x5, o5⟩ := hj g3 _ E0 L t4 hf6 hs6
  rw [n5] at x5
  have q1 : g5 (wcn s3 + 1) = none := by rw [x5 _ (by omega), b3]
  have o6 : (s6 8) (wcn s3) = 15 := by
    rw [r6 _ (by omega)]
    show upC s4 8 (wcn s1 + 1) _ 8 (wcn s3) = _
    rw [rdA_ne (by omega)]
    exact p4.2.2.2 0 _ rfl
  have q2 : g5 (wcn s3) = some (0, L) := by rw [x5 _ (by omega), a3]
  refine ⟨g5, ty_aim (ty_X t5 (fun q hq => ?_)) (by omega) (by omega) q1 (fun h k hh => ?_), ext_tr (ext_tr (ext_tr x1 x2 (by omega)) x3 (by omega)) x5 (by omega), fun b hb9 => ?_⟩
  · rcases hq with ((hq | hq) | hq) | hq
    · exact Or.inl (Or.inl hq)
    · refine Or.inl (Or.inr ?_)
      rcases List.mem_append.mp hq with h | h
      · simp [h]
      · simp [h]
    · exact Or.inr hq
    · refine Or.inl (Or.inr ?_)
      rcases List.mem_append.mp hq with h | h
      · simp [h]
      · simp [h]
  · rw [q2] at hh
    cases hh
    refine okc_go o6 (by omega) ⟨by omega, L, t5.2.1, Or.inr ⟨rfl, by omega⟩⟩ ?_
    have : wcn s3 + 2 = wcn s4 := by omega
    rw [this, x5 _ (by omega), k4]
    exact fun q => by cases q
  · have old : b ∈ B ++ G → Hol ((aimS s6 (wcn s3)) 8) g5 L b := fun h => by
      have bb := hb b h
      have h1 : Hol ((aimS s4 (wcn s1)) 8) g3 L b := hol_aim (ho_mono (o2 b h) bb.2 x3 (fun q hq => p4.2.2.1 q (by omega))) k2
      exact hol_aim (ho_mono (n := wcn s4) h1 (by omega) x5 (fun q hq => r6 q (by omega))) q1
    have new : b ∈ B' ++ G' → Hol ((aimS s6 (wcn s3)) 8) g5 L b := fun h => hol_aim (o5 b h) q1
    rcases List.mem_append.mp hb9 with h | h
    · rcases List.mem_append.mp h with k | k
      · exact new (List.mem_append.mpr (Or.inl k))
      · exact old (List.mem_append.mpr (Or.inl k))
    · rcases List.mem_append.mp h with k | k
      · exact new (List.mem_append.mpr (Or.inr k))
      · exact old (List.mem_append.mpr (Or.inr k))
end ST3
end

section
/-! while, do, for -/
abbrev KL : Type := Int32 → Int32 → Int32 → St → St → List Nat → (St → St → List Nat → Prop) → (St → St → List Nat → Prop) → Prop
def LT (s2 s3 : St) (top : Int) (B : List Nat) : Prop := ∀ g X E0 L, TY s2 g X E0 0 L → (0 ≤ top → ∃ kT, g top.toNat = some (0, kT) ∧ kT ≤ L + 1) → (s3 0 12).toInt = 0 → (s3 0 15).toInt = 0 → ∃ g', TY s3 g' (Xh X B) E0 0 (if 0 ≤ top then L + 2 else L + 1) ∧ Ext g g' (wcn s2) ∧ ∀ b ∈ B, Hol (s3 8) g' (L + 2) b
section WHI
variable {σ s s' τ t t' : St} {vs z z' : List Nat} {g g' : Gh} {X X' : Nat → Prop} {E0 H L : Nat}
/-- a jump back -/
theorem ty_back {tp : Int32} {T kT L' : Nat} (h : TY σ g X E0 0 L) (h0 : 0 ≤ (σ 0 17).toInt) (p : PU σ s [15, tp]) (ht : tp.toInt = (T : Int)) (hg : g T = some (0, kT)) (hk : kT < L) : ∃ g', TY s g' X E0 0 L' ∧ Ext g g' (wcn σ) := by
  obtain ⟨g1, t1, x1, -⟩ := ty_put1 (H' := 0) (L' := L') (n := 2) (k := 15) h h0 p rfl (by decide) rfl rfl (fun g' x hg9 hn hx => by
    have e : x = (T : Int) := by rw [hx _ rfl, ht]
    rw [e]
    exact ⟨by omega, ⟨by omega, kT, by rw [Int.toNat_natCast]; exact hg9 _ _ hg, Or.inl hk⟩, by rw [hn]; exact fun c => by cases c⟩)
  exact ⟨g1, t1, x1⟩
theorem hol_kp {w w' : Nat → Int32} {b n : Nat} (h : Hol w g L b) (hb : b < n) (he : Ext g g' n) (hw : ∀ q, q < n → w' q = w q) : Hol w' g' L b := ho_mono h hb he hw
theorem ts_while {s0 s1 s2 s3 s3' s4 s6 : St} {tp : Int32} {B : List Nat} (h0 : 0 ≤ (s0 0 17).toInt) (c1 : TE s0 s1 501 0 1) (w1 : (s0 0 17).toInt ≤ (s1 0 17).toInt) (p2 : PU s1 s2 [16, -1]) (ht : tp.toInt = (s0 0 17).toInt) (hl : LT s2 s3 tp.toInt B) (r3 : RW s2 s3) (w3 : (s2 0 17).toInt ≤ (s3 0 17).toInt) (hb : ∀ b ∈ B, wcn s2 < b ∧ b < wcn s3) (e3 : RSt s3 vs s3' t z) (e3w : (s3' 0 17) = (s3 0 17)) (e3x : ∀ q, (s3' 8) q = (s3 8) q) (p4 : PU s3' s4 [15, tp]) (al : ALx (aimS s4 (wcn s1)) s6 B (s4 0 17)) (f1 : OF s1 s3) (l1 : (s3 0 15) = (s1 0 15)) (f3 : OF s3 s4) (l3 : (s4 0 15) = (s3 0 15)) : TSt s0 s6 0 0 [] [] := by
  intro g X E0 L hT hf hs
  have a0 : ∀ j, s6 0 j = s4 0 j := fun j => al.1 0 j rfl rfl
  have W2 : (s2 0 17).toInt = (s1 0 17).toInt + 2 := p2.2.1
  have W3 : (s3' 0 17).toInt = (s3 0 17).toInt := by rw [e3w]
  have W4 : (s4 0 17).toInt = (s3' 0 17).toInt + 2 := p4.2.1
  have n0 : (wcn s0 : Int) = (s0 0 17).toInt := nt h0
  have n1 : (wcn s1 : Int) = (s1 0 17).toInt := nt (by omega)
  have n2 : (wcn s2 : Int) = (s2 0 17).toInt := nt (by omega)
  have n3 : (wcn s3 : Int) = (s3 0 17).toInt := nt (by omega)
  have n3' : wcn s3' = wcn s3 := by unfold wcn; rw [e3w]
  have n4 : (wcn s4 : Int) = (s4 0 17).toInt := nt (by omega)
  have hf4 : (s4 0 12).toInt = 0 := by rw [← a0 12]; exact hf
  have hs4 : (s4 0 15).toInt = 0 := by rw [← a0 15]; exact hs
  have hf3 := of0 f3 hf4
  have hs3 : (s3 0 15).toInt = 0 := by rw [← l3]; exact hs4
  obtain ⟨g1, t1, x1⟩ := c1 g X E0 0 L (by rw [Nat.zero_add]; exact hT) (by omega) (of0 f1 hf3) (by rw [← l1]; exact hs3)
  rw [Nat.zero_add] at t1
  obtain ⟨g2, t2, x2, a2, b2⟩ := ty_hole2 (H' := 0) (L' := L) t1 (by omega) p2 rfl
  have top0 : g2 tp.toInt.toNat = some (0, L) := by
    have : tp.toInt.toNat = wcn s0 := by omega
    rw [this, x2 _ (by omega), x1 _ (Nat.le_refl _)]
    exact hT.2.1
  obtain ⟨g3, t3, x3, o3⟩ := hl g2 _ E0 L t2 (fun _ => ⟨L, top0, by omega⟩) hf3 hs3
  rw [if_pos (by omega)] at t3
  have t3' := ty_rs t3 (by omega) e3 e3w
  obtain ⟨g4, t4, x4⟩ := ty_back (L' := L) (T := wcn s0) (kT := L) t3' (by omega) p4 (by omega) (by
    have : g3 (wcn s0) = g2 (wcn s0) := x3 _ (by omega)
    rw [this]
    have e : wcn s0 = tp.toInt.toNat := by omega
    rw [e]; exact top0) (by omega)
  rw [n3'] at x4
  have k1 : g4 (wcn s1) = some (1, L) := by rw [x4 _ (by omega), x3 _ (by omega), a2]
  have k2 : g4 (wcn s1 + 1) = none := by rw [x4 _ (by omega), x3 _ (by omega), b2]
  have k3 : g4 (wcn s1 + 2) = some (0, L) := by
    have : wcn s1 + 2 = wcn s2 := by omega
    rw [this, x4 _ (by omega), x3 _ (by omega)]
    exact t2.2.1
  have o1 : (s4 8) (wcn s1) = 16 := by
    rw [p4.2.2.1 _ (by omega), e3x, r3 _ (by omega)]
    exact p2.2.2.2 0 _ rfl
  have t5 : TY (aimS s4 (wcn s1)) g4 (Xh X B) E0 0 L := by
    refine ty_aim (ty_X t4 (fun q hq => ?_)) (by omega) (by omega) k2 (fun h k hh => ?_)
    · rcases hq with (hq | hq) | hq
      · exact Or.inl (Or.inl hq)
      · exact Or.inr hq
      · exact Or.inl (Or.inr hq)
    · rw [k1] at hh
      cases hh
      exact okc_br o1 (Or.inl rfl) (by omega) (by omega) ⟨by omega, L, t4.2.1, Or.inr ⟨rfl, by omega⟩⟩ ⟨by omega, L, k3, Or.inr ⟨rfl, by omega⟩⟩
  have oB : ∀ b ∈ B, Hol ((aimS s4 (wcn s1)) 8) g4 (L + 2) b := fun b hb9 => hol_aim (ho_mono (o3 b hb9) (hb b hb9).2 x4 (fun q hq => by rw [p4.2.2.1 q (by omega), e3x])) k2
  have t6 := ty_aimall (G := []) (T := wcn s4) (kT := L) (ty_X t5 (fun q hq => hq.imp id (fun h => by rw [List.append_nil]; exact h))) al (fun b hb9 => hol_le (oB b hb9) (by omega)) n4.symm t4.2.1 (fun b _ => List.not_mem_nil) (fun b hb9 => absurd hb9 List.not_mem_nil)
  exact ⟨g4, ty_X t6 (fun q hq => Or.inl (hq.elim id (fun c => absurd c List.not_mem_nil))), ext_tr (ext_tr (ext_tr x1 x2 (by omega)) x3 (by omega)) x4 (by omega), fun b hb9 => absurd hb9 List.not_mem_nil⟩
theorem nct_aim {p : Nat} {c : Int} (h : NCt σ vs s z c) : NCt σ vs (aimS s p) z c := h
theorem nct_al {B : List Nat} {to : Int32} {c : Int} (h : NCt σ vs s z c) (al : ALx s s' B to) : NCt σ vs s' z c ∧ pos s' = pos s := by
  have a0 : ∀ j, s' 0 j = s 0 j := fun j => al.1 0 j rfl rfl
  have afr : (s' 3) = (s 3) := funext (fun j => al.1 3 j rfl rfl)
  have aP : pos s' = pos s := by unfold pos; rw [afr, a0]
  unfold NCt
  rw [aP, a0, a0]
  exact ⟨h, rfl⟩
theorem sp_while {k4 : KL} {d : Int} (hL : SSl k4 d) {a : Int32} {Q T : St → St → List Nat → Prop} (had : a.toInt = d) (hP : PA σ τ) (hS : PSt σ) (hB : NB σ vs) (hk : kd σ = 11) (kQ : ∀ s t z, PQ σ vs s t z → Q s t z) (kT : ∀ s t z, RTt σ vs s t z → T s t z) : wp_condition (σ 0 10) (upC σ 0 10 ((σ 0 10) + (1 : Int32))) τ vs (fun s206 t206 z206 => wp_open (16 : Int32) s206 t206 z206 (fun v212 s212 t212 z212 => k4 a (σ 0 10) (σ 0 17) s212 t212 z212 (fun s221 t221 z221 => wp_put_1 (15 : Int32) (σ 0 17) (upC s221 0 58 (s221 0 60)) t221 z221 (fun s242 t242 z242 => wp_aim v212 s242 t242 z242 (fun s248 t248 z248 => wp_aimAll (s221 0 58) (s248 0 17) s248 t248 z248 (fun s258 t258 z258 => Q s258 t258 z258)))) T)) T := by
  have h0 := hP.2.2.1.2.2.2.2.1
  have htk := at_tok hP.1 hP.2.1
  obtain ⟨rn, pn, wn, icn⟩ := rl_nxt (vs := vs) hP (by omega)
  have hPn := rn.2.1
  have h0n := hPn.2.2.1.2.2.2.2.1
  have hBn : NB (nxt σ) vs := nb_of hB rn (by omega) (by omega) (by omega)
  rw [show upC σ 0 10 ((σ 0 10) + (1 : Int32)) = nxt σ from rfl]
  refine sp_condition hPn hBn htk (fun s1 t1 z1 r1 nc1 te1 => ?_) (fun s' t' z' hs => kT _ _ _ (rt_rtx (rt_of rn (by omega) hs)))
  have hP1 := r1.2.1
  have h01 := hP1.2.2.1.2.2.2.2.1
  have hB1 := nb_of hBn r1 (by have := nc1.1; omega) nc1.2.1 nc1.2.2
  have hc1 := nb_cap hB1 hP1
  refine sp_open h01 (by omega) (fun v s2 p2 ev2 => ?_)
  have rl2 := rl_pu (vs := z1) (z := z1) hP1 p2 hP1.2.2.2.2 (fun _ h => h) (Nat.le_refl _)
  have W2 : (s2 0 17).toInt = (s1 0 17).toInt + 2 := p2.2.1
  have P2 := pos_sq (sq_pu p2)
  have I2 := ic_sq (sq_pu p2)
  have rA := rl_tr rn (rl_tr r1 rl2)
  obtain ⟨m1, m2, m3⟩ := nc1
  have ncA : NCt σ vs s2 z1 58 := ⟨by omega, by rw [I2]; omega, by omega⟩
  have hBA := nct_nb hB (rs_rl rA) ncA (by omega)
  have szA := rl_sz rA
  have hp2 := pos_in rl2.2.1.1 rl2.2.1.2.1
  have mw1 := r1.2.2.2.2.2.1
  have hS2 := ps_rs hS (rs_rl rA)
  have hbb : (s2 0 17).toInt + 2 + 40 * ((s2 0 9).toInt - pos s2) ≤ 410000 := by
    obtain ⟨b1, -⟩ := hB
    obtain ⟨n1, -⟩ := ncA
    rw [szA]
    omega
  refine hL a _ _ s2 t1 z1 _ T had rl2.2.1 hS2 hBA hbb htk (by omega) (fun s3 t3 z3 lq => ?_) (fun s' t' z' hs => kT _ _ _ (rt_rs (rs_rl rA) (by omega) hs))
  obtain ⟨r3, nc3, p3, lo3, go3, ob3, B, hBb, hC, hLT⟩ := lq
  have hP3 := r3.2.1
  have h03 := hP3.2.2.1.2.2.2.2.1
  have rsA3 := rs_tr (rs_rl rA) r3
  have nc03 := nct_tr ncA nc3
  have hc3 := nb_cap (nct_nb hB rsA3 nc03 (by omega)) hP3
  have r3' : RSt s3 z3 (upC s3 0 58 (s3 0 60)) t3 z3 := rs_f (rs_rf hP3) (by omega)
  have w3' : ((upC s3 0 58 (s3 0 60)) 0 17) = (s3 0 17) := rfl
  have x3' : ∀ q, ((upC s3 0 58 (s3 0 60)) 8) q = (s3 8) q := fun _ => rfl
  have b3' : ((upC s3 0 58 (s3 0 60)) 0 58) = (s2 0 58) := by rw [rdA_eq rfl]; exact ob3
  have g3' : ((upC s3 0 58 (s3 0 60)) 0 59) = (s3 0 59) := rfl
  have l3' : ((upC s3 0 58 (s3 0 60)) 0 57) = (s3 0 57) := rfl
  have f3' : ((upC s3 0 58 (s3 0 60)) 0 12) = (s3 0 12) := rfl
  have si3' : ((upC s3 0 58 (s3 0 60)) 0 15) = (s3 0 15) := rfl
  have ps3' : pos (upC s3 0 58 (s3 0 60)) = pos s3 := rfl
  have ic3' : ((upC s3 0 58 (s3 0 60)) 0 39) = (s3 0 39) := rfl
  generalize (upC s3 0 58 (s3 0 60)) = s3p at *
  have hP3p := r3'.2.1
  refine sp_put_1 (by rw [w3']; exact h03) (by rw [w3']; omega) (fun s4 p4 => ?_)
  have W4 : (s4 0 17).toInt = (s3 0 17).toInt + 2 := by rw [p4.2.1, w3']; rfl
  have rl4 := rl_pu (vs := z3) (z := z3) hP3p p4 hP3p.2.2.2.2 (fun _ h => h) (Nat.le_refl _)
  have n0 : (wcn σ : Int) = (σ 0 17).toInt := nt h0
  have n1 : (wcn s1 : Int) = (s1 0 17).toInt := nt h01
  have n2 : (wcn s2 : Int) = (s2 0 17).toInt := nt (by omega)
  have n3 : (wcn s3 : Int) = (s3 0 17).toInt := nt h03
  have m3w := r3.2.2.2.2.2.1
  refine sp_aim (p := wcn s1) (by omega) (by omega) ?_
  have rs4 := rs_tr rsA3 (rs_tr r3' (rs_rl rl4))
  have rs5 := rs_aim (p := wcn s1) rs4 (by omega)
  have C5 : Ch ((aimS s4 (wcn s1)) 8) (s3 0 58).toInt B := ch_w (fun b hb => by
    show upC s4 8 (wcn s1 + 1) _ 8 b = _
    have := hBb b hb
    rw [rdA_ne (by omega), p4.2.2.1 b (by rw [w3']; omega), x3']) hC
  refine sp_aimAll C5 (fun b hb => by have := (hBb b hb).2; omega) (fun s6 al => ?_)
  have rs6 := rs_al rs5 al (fun b hb => by have := (hBb b hb).1; omega) h0
  have a0 : ∀ j, s6 0 j = s4 0 j := fun j => al.1 0 j rfl rfl
  have P4 : pos s4 = pos s3 := (pos_sq (sq_pu p4)).trans ps3'
  have I4 : (s4 0 39) = (s3 0 39) := (ic_sq (sq_pu p4)).trans ic3'
  have nc4 : NCt σ vs s4 z3 0 := by
    obtain ⟨d1, d2, d3⟩ := nc03
    exact ⟨by rw [P4]; omega, by rw [I4, P4]; exact d2, by rw [P4]; exact d3⟩
  obtain ⟨nc6, P6⟩ := nct_al (nct_aim (p := wcn s1) nc4) al
  have PA4 : pos (aimS s4 (wcn s1)) = pos s4 := rfl
  have eB : (s6 0 58) = (σ 0 58) := by
    rw [a0 58, p4.1 0 58 rfl rfl, b3']
    exact rA.1 0 58 rfl rfl
  have eG : (s6 0 59) = (σ 0 59) := by
    rw [a0 59, p4.1 0 59 rfl rfl, g3', go3]
    exact rA.1 0 59 rfl rfl
  have eL : (s6 0 57) = (σ 0 57) := by
    rw [a0 57, p4.1 0 57 rfl rfl, l3', lo3]
    exact rA.1 0 57 rfl rfl
  have f34 : (s4 0 12) = (s3 0 12) := (p4.1 0 12 rfl rfl).trans f3'
  have l34 : (s4 0 15) = (s3 0 15) := (p4.1 0 15 rfl rfl).trans si3'
  have f12 : (s2 0 12) = (s1 0 12) := p2.1 0 12 rfl rfl
  have l12 : (s2 0 15) = (s1 0 15) := p2.1 0 15 rfl rfl
  have ts := ts_while (vs := z3) (s0 := nxt σ) (tp := σ 0 17) h0n te1 mw1 p2 rfl hLT r3.2.2.1 m3w hBb r3' w3' x3' p4 al (of_tr (of_eq f12) r3.2.2.2.2.1) (by rw [rs_sil r3, l12]) (of_eq f34) l34
  refine kQ _ _ _ ⟨[], [], ⟨rs6, chn_no h0 rs6.2.2.1 eB eG, fun g X E0 L hT hf hs => ?_, eL, fun _ _ _ => ⟨rfl, rfl⟩⟩, nc6, by omega⟩
  exact ts g X E0 L (ty_same hT h0 rfl rn.2.2.1 (ev_ke rn.1 rn.2.2.2.1)) hf hs
end WHI
end

section
/-! do -/
def SSd (K : Int32 → KZ) (d n : Int) : Prop := ∀ (a tk : Int32) (σ τ : St) (vs : List Nat) (Q T : St → St → List Nat → Prop), a.toInt = d → PA σ τ → PSt σ → NB σ vs → (0 ≤ tk.toInt ∧ tk.toInt < 16002) → kd σ = n → (∀ s t z, PQ σ vs s t z → Q s t z) → (∀ s t z, RTt σ vs s t z → T s t z) → K a tk σ τ vs Q T
section DOO
variable {σ s s' τ t t' : St} {vs z z' : List Nat} {g g' : Gh} {X X' : Nat → Prop} {E0 H L : Nat}
theorem ts_do {s0 s1 s1p s2 s3 s4 : St} {tp : Int32} {B : List Nat} (h0 : 0 ≤ (s0 0 17).toInt) (ht : tp.toInt = (s0 0 17).toInt) (hl : LT s0 s1 (-1) B) (w1 : (s0 0 17).toInt ≤ (s1 0 17).toInt) (hb : ∀ b ∈ B, wcn s0 < b ∧ b < wcn s1) (e1 : RSt s1 vs s1p t z) (e1w : (s1p 0 17) = (s1 0 17)) (e1x : ∀ q, (s1p 8) q = (s1 8) q) (c2 : TE s1p s2 501 0 1) (w2 : (s1p 0 17).toInt ≤ (s2 0 17).toInt) (r2 : RW s1p s2) (p3 : PU s2 s3 [17, tp]) (al : ALx s3 s4 B (s3 0 17)) (f1 : OF s1 s2) (l1 : (s2 0 15) = (s1 0 15)) (f3 : OF s2 s3) (l3 : (s3 0 15) = (s2 0 15)) : TSt s0 s4 0 0 [] [] := by
  intro g X E0 L hT hf hs
  have a0 : ∀ j, s4 0 j = s3 0 j := fun j => al.1 0 j rfl rfl
  have W1 : (s1p 0 17).toInt = (s1 0 17).toInt := by rw [e1w]
  have W3 : (s3 0 17).toInt = (s2 0 17).toInt + 2 := p3.2.1
  have n0 : (wcn s0 : Int) = (s0 0 17).toInt := nt h0
  have n1 : (wcn s1 : Int) = (s1 0 17).toInt := nt (by omega)
  have n1p : wcn s1p = wcn s1 := by unfold wcn; rw [e1w]
  have n2 : (wcn s2 : Int) = (s2 0 17).toInt := nt (by omega)
  have n3 : (wcn s3 : Int) = (s3 0 17).toInt := nt (by omega)
  have hf3 : (s3 0 12).toInt = 0 := by rw [← a0 12]; exact hf
  have hs3 : (s3 0 15).toInt = 0 := by rw [← a0 15]; exact hs
  have hf2 := of0 f3 hf3
  have hs2 : (s2 0 15).toInt = 0 := by rw [← l3]; exact hs3
  have hf1 := of0 f1 hf2
  have hs1 : (s1 0 15).toInt = 0 := by rw [← l1]; exact hs2
  obtain ⟨g1, t1, x1, o1⟩ := hl g X E0 L hT (fun c => absurd c (by decide)) hf1 hs1
  rw [if_neg (by decide)] at t1
  obtain ⟨g2, t2, x2⟩ := c2 g1 (Xh X B) E0 0 (L + 1) (by rw [Nat.zero_add]; exact ty_rs t1 (by omega) e1 e1w) (by omega) hf2 hs2
  rw [Nat.zero_add] at t2
  rw [n1p] at x2
  have top0 : g2 (wcn s0) = some (0, L) := by rw [x2 _ (by omega), x1 _ (Nat.le_refl _)]; exact hT.2.1
  obtain ⟨g3, t3, x3, -⟩ := ty_put1 (H' := 0) (L' := L) (n := 2) (k := 17) t2 (by omega) p3 rfl (by decide) rfl rfl (fun g' x hg9 hn hx => by
    have e : x = (wcn s0 : Int) := by rw [hx _ rfl, ht]; exact n0.symm
    rw [e]
    exact ⟨by omega, by omega, ⟨by omega, L, by rw [Int.toNat_natCast]; exact hg9 _ _ top0, Or.inl (by omega)⟩, ⟨by omega, L, hn, Or.inl (by omega)⟩⟩)
  have oB : ∀ b ∈ B, Hol (s3 8) g3 (L + 2) b := fun b hb9 => ho_mono (n := wcn s1) (ho_mono (n := wcn s1) (o1 b hb9) (hb b hb9).2 x2 (fun q hq => by rw [r2 q (by omega), e1x])) (hb b hb9).2 (fun q hq => x3 q (by omega)) (fun q hq => p3.2.2.1 q (by omega))
  have t4 := ty_aimall (G := []) (T := wcn s3) (kT := L) (ty_X t3 (fun q hq => hq.imp id (fun h => by rw [List.append_nil]; exact h))) al (fun b hb9 => hol_le (oB b hb9) (by omega)) n3.symm t3.2.1 (fun b _ => List.not_mem_nil) (fun b hb9 => absurd hb9 List.not_mem_nil)
  exact ⟨g3, ty_X t4 (fun q hq => Or.inl (hq.elim id (fun c => absurd c List.not_mem_nil))), ext_tr (ext_tr x1 x2 (by omega)) x3 (by omega), fun b hb9 => absurd hb9 List.not_mem_nil⟩
theorem sp_do {k1 k2 k3 : KZ} {k4 : KL} {k5 k6 : Int32 → KZ} {d : Int} (hL : SSl k4 d) : SSd (wp_doStatement k1 k2 k3 k4 k5 k6) d 12 := by
  intro a tk σ τ vs Q T had hP hS hB htk hk kQ kT
  unfold wp_doStatement
  have h0 := hP.2.2.1.2.2.2.2.1
  obtain ⟨rn, pn, wn, icn⟩ := rl_nxt (vs := vs) hP (by omega)
  have hPn := rn.2.1
  have h0n := hPn.2.2.1.2.2.2.2.1
  have hBn : NB (nxt σ) vs := nb_of hB rn (by omega) (by omega) (by omega)
  have szn := rl_sz rn
  have hbb : ((nxt σ) 0 17).toInt + 2 + 40 * (((nxt σ) 0 9).toInt - pos (nxt σ)) ≤ 410000 := by
    obtain ⟨b1, -⟩ := hB
    rw [szn]; omega
  rw [show upC σ 0 10 ((σ 0 10) + (1 : Int32)) = nxt σ from rfl]
  refine hL a tk (-1) (nxt σ) τ vs _ T had hPn (ps_rs hS (rs_rl rn)) hBn hbb htk (by have : ((-1 : Int32)).toInt = -1 := by decide
                                                                                     rw [this]; omega) (fun s1 t1 z1 lq => ?_) (fun s' t' z' hs => kT _ _ _ (rt_rs (rs_rl rn) (by omega) hs))
  obtain ⟨r1, nc1, p1, lo1, go1, ob1, B, hBb, hC, hLT⟩ := lq
  have hP1 := r1.2.1
  have h01 := hP1.2.2.1.2.2.2.2.1
  have rs1 := rs_tr (rs_rl rn) r1
  have ncn : NCt σ vs (nxt σ) vs 40 := ⟨by omega, by omega, by omega⟩
  have nc01 := nct_tr ncn nc1
  have r1' : RSt s1 z1 (upC s1 0 58 (s1 0 60)) t1 z1 := rs_f (rs_rf hP1) (by omega)
  have w1' : ((upC s1 0 58 (s1 0 60)) 0 17) = (s1 0 17) := rfl
  have x1' : ∀ q, ((upC s1 0 58 (s1 0 60)) 8) q = (s1 8) q := fun _ => rfl
  have b1' : ((upC s1 0 58 (s1 0 60)) 0 58) = ((nxt σ) 0 58) := by rw [rdA_eq rfl]; exact ob1
  have g1' : ((upC s1 0 58 (s1 0 60)) 0 59) = (s1 0 59) := rfl
  have l1' : ((upC s1 0 58 (s1 0 60)) 0 57) = (s1 0 57) := rfl
  have f1' : ((upC s1 0 58 (s1 0 60)) 0 12) = (s1 0 12) := rfl
  have si1' : ((upC s1 0 58 (s1 0 60)) 0 15) = (s1 0 15) := rfl
  have ps1' : pos (upC s1 0 58 (s1 0 60)) = pos s1 := rfl
  have ic1' : ((upC s1 0 58 (s1 0 60)) 0 39) = (s1 0 39) := rfl
  have at1' : ((upC s1 0 58 (s1 0 60)) 0 10) = (s1 0 10) := rfl
  have rsA := rs_tr rs1 r1'
  have ncA : NCt σ vs (upC s1 0 58 (s1 0 60)) z1 38 := nc01
  rw [show (upC (upC s1 0 58 (s1 0 60)) 0 10 ((s1 0 10) + (1 : Int32))) = nxt (upC s1 0 58 (s1 0 60)) from rfl]
  generalize (upC s1 0 58 (s1 0 60)) = s1p at *
  have hPp := r1'.2.1
  have h0p := hPp.2.2.1.2.2.2.2.1
  have cut : ∀ s' t' z', RTt s1p z1 s' t' z' → T s' t' z' := fun s' t' z' hs => kT _ _ _ (rt_rs rsA ncA.2.2 hs)
  refine sp_isWord hPp (fun hk2 => ⟨fun _ => ?_, no1⟩) (fun _ => ⟨no0, fun _ => sp_wrong hPp (fun s' hs => cut _ _ _ (rt_rtx hs))⟩)
  have hk2' : kd s1p = 11 := hk2
  obtain ⟨ro, po, wo, ico⟩ := rl_nxt (vs := z1) hPp (by omega)
  have rsB := rs_tr rsA (rs_rl ro)
  obtain ⟨m1, m2, m3⟩ := ncA
  have ncB : NCt σ vs (nxt s1p) z1 78 := ⟨by omega, by omega, by omega⟩
  have htk1 := at_tok hPp.1 hPp.2.1
  rw [at1'] at htk1
  refine sp_condition ro.2.1 (nct_nb hB rsB ncB (by omega)) htk1 (fun s2 t2 z2 r2 nc2 te2 => ?_) (fun s' t' z' hs => kT _ _ _ (rt_rs rsB (by omega) (rt_rtx hs)))
  have rsC := rs_tr rsB (rs_rl r2)
  have ncC := nct_tr ncB nc2
  have hP2 := r2.2.1
  refine sp_expect hP2 (by decide) (fun hk3 rq pq wq icq => ?_) (fun s' hs => kT _ _ _ (rt_rs rsC ncC.2.2 (rt_rtx hs)))
  have hPq := rq.2.1
  have h0q := hPq.2.2.1.2.2.2.2.1
  have rsD := rs_tr rsC (rs_rl rq)
  obtain ⟨q1, q2, q3⟩ := ncC
  have ncD : NCt σ vs (nxt s2) z2 138 := ⟨by omega, by omega, by omega⟩
  have hcD := nb_cap (nct_nb hB rsD ncD (by omega)) hPq
  refine sp_put_1 h0q (by omega) (fun s3 p3 => ?_)
  have rl3 := rl_pu (vs := z2) (z := z2) hPq p3 hPq.2.2.2.2 (fun _ h => h) (Nat.le_refl _)
  have rs3 := rs_tr rsD (rs_rl rl3)
  have W3 : (s3 0 17).toInt = ((nxt s2) 0 17).toInt + 2 := p3.2.1
  have P3 := pos_sq (sq_pu p3)
  have I3 := ic_sq (sq_pu p3)
  have n0 : (wcn σ : Int) = (σ 0 17).toInt := nt h0
  have n0n : (wcn (nxt σ) : Int) = ((nxt σ) 0 17).toInt := nt h0n
  have n1 : (wcn s1 : Int) = (s1 0 17).toInt := nt h01
  have mw2 := r2.2.2.2.2.2.1
  have W1p : (s1p 0 17).toInt = (s1 0 17).toInt := by rw [w1']
  have rwAll : ∀ q : Nat, (q : Int) < (s1 0 17).toInt → (s3 8) q = (s1 8) q := fun q hq => by
    rw [p3.2.2.1 q (by omega)]
    show (s2 8) q = _
    rw [r2.2.2.1 q (by omega)]
    show (s1p 8) q = _
    exact x1' q
  have C3 : Ch (s3 8) (s1 0 58).toInt B := ch_w (fun b hb => rwAll b (by have := (hBb b hb).2; omega)) hC
  have mw1 := r1.2.2.2.2.2.1
  refine sp_aimAll C3 (fun b hb => by have := (hBb b hb).2; omega) (fun s4 al => ?_)
  have rs4 := rs_al rs3 al (fun b hb => by have := (hBb b hb).1; omega) h0
  have a0 : ∀ j, s4 0 j = s3 0 j := fun j => al.1 0 j rfl rfl
  have nc3 : NCt σ vs s3 z2 0 := by
    obtain ⟨d1, d2, d3⟩ := ncD
    exact ⟨by rw [P3]; omega, by rw [I3, P3]; exact d2, by rw [P3]; exact d3⟩
  obtain ⟨nc4, P4⟩ := nct_al nc3 al
  have fr : ∀ j, j = 58 ∨ j = 59 ∨ j = 57 → s4 0 j = s1p 0 j := fun j hj => by
    rw [a0 j]
    rcases hj with rfl | rfl | rfl
    · rw [p3.1 0 58 rfl rfl, rq.1 0 58 rfl rfl, r2.1 0 58 rfl rfl]; exact ro.1 0 58 rfl rfl
    · rw [p3.1 0 59 rfl rfl, rq.1 0 59 rfl rfl, r2.1 0 59 rfl rfl]; exact ro.1 0 59 rfl rfl
    · rw [p3.1 0 57 rfl rfl, rq.1 0 57 rfl rfl, r2.1 0 57 rfl rfl]; exact ro.1 0 57 rfl rfl
  have eB : (s4 0 58) = (σ 0 58) := by rw [fr 58 (by omega), b1']; rfl
  have eG : (s4 0 59) = (σ 0 59) := by rw [fr 59 (by omega), g1', go1]; rfl
  have eL : (s4 0 57) = (σ 0 57) := by rw [fr 57 (by omega), l1', lo1]; rfl
  have te : TE s1p (nxt s2) 501 0 1 := te_rl h0p (rl_tr ro r2) rq (te_rl h0p ro r2 (te_nxt h0p ro) te2) (te_nxt hP2.2.2.1.2.2.2.2.1 rq)
  have rr := rl_tr (rl_tr ro r2) rq
  have ts := ts_do (vs := z1) (s0 := nxt σ) (tp := σ 0 17) h0n rfl hLT mw1 hBb r1' w1' x1' te rr.2.2.2.2.2.1 rr.2.2.1 p3 al (of_tr (of_eq f1') rr.2.2.2.2.1) ((rl_sil rr).trans si1') rl3.2.2.2.2.1 (p3.1 0 15 rfl rfl)
  refine kQ _ _ _ ⟨[], [], ⟨rs4, chn_no h0 rs4.2.2.1 eB eG, fun g X E0 L hT hf hs => ?_, eL, fun _ _ _ => ⟨rfl, rfl⟩⟩, nc4, by omega⟩
  exact ts g X E0 L (ty_same hT h0 rfl rn.2.2.1 (ev_ke rn.1 rn.2.2.2.1)) hf hs
end DOO
end

