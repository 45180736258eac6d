/-! variables in functions -/
section VAR
variable {σ s s' τ t t' : St} {vs z z' : List Nat}
theorem sp_fillL {tk cells n f : Int32} {Q : St → St → List Nat → Prop} (h : PA σ τ) (ht : 0 ≤ tk.toInt ∧ tk.toInt < 16002) (h2 : 0 ≤ ((σ 6) tk.toNatClampNeg).toInt ∧ ((σ 6) tk.toNatClampNeg).toInt ≤ 200) (hw : (σ 0 17).toInt ≤ 420000) (hf : f.toInt ≠ 0) (hn : 0 ≤ n.toInt → n.toInt ≤ 99 ∧ n.toInt < (σ 0 49).toInt) (k : ∀ s, SQ σ s (12 * ((σ 6) tk.toNatClampNeg).toInt) → (0 ≤ n.toInt → TE σ s 512 0 0) → Q s τ vs) : wp_fill tk cells n f σ τ vs Q := by
  have h0 := h.2.2.1.2.2.2.2.1
  have hs := h.1.2.2.2.1
  have f1 := h.1.2.2.2.2.1 tk.toNatClampNeg
  have e1 := ad1 (x := (σ 3) tk.toNatClampNeg) (by omega)
  have e0 : (0 : Int32).toInt = 0 := by decide
  unfold wp_fill
  refine ⟨fun c => ⟨fun _ => ⟨ht, ?_⟩, fun c2 => absurd c2 hf⟩, fun c => k σ ⟨kp_rf, of_rf, fun _ _ => rfl, Int.le_refl _, by omega⟩ (fun q => by omega)⟩
  refine ⟨fun m x i s t z => (m : Int) = ((σ 6) tk.toNatClampNeg).toInt - i.toInt ∧ 0 ≤ i.toInt ∧ i.toInt ≤ ((σ 6) tk.toNatClampNeg).toInt ∧ 0 ≤ x.toInt ∧ x.toInt ≤ 16001 + 2 * i.toInt ∧ τ = t ∧ vs = z ∧ SQ σ s (12 * i.toInt) ∧ TE σ s 512 0 0, ⟨((σ 6) tk.toNatClampNeg).toInt.toNat, by omega, by omega, by omega, by omega, by omega, rfl, rfl, ⟨kp_rf, of_rf, fun _ _ => rfl, Int.le_refl _, by omega⟩, te_rf⟩, ?_⟩
  rintro m x i s _ _ ⟨q1, q2, q3, q4, q5, rfl, rfl, q6, q7⟩
  have v1 : (s 6) tk.toNatClampNeg = (σ 6) tk.toNatClampNeg := q6.1 _ _ rfl rfl
  have hPs := (sq_rl (vs := vs) h q6).2.1
  have w6 := sq_wc q6 h0
  have hl : (s 0 49) = (σ 0 49) := q6.1 _ _ rfl rfl
  refine ⟨ht, fun c2 => ?_, fun c2 => ?_⟩
  · rw [v1] at c2
    have e : i.toInt = ((σ 6) tk.toNatClampNeg).toInt := by omega
    rw [e] at q6
    exact k s q6 (fun _ => q7)
  · rw [v1] at c2
    have nn := hn c
    refine sp_cellAt hPs (by omega) (by rw [hl]; omega) (fun s1 sq1 te1 => ?_)
    have hP1 := (sq_rl (vs := vs) hPs sq1).2.1
    have w1 := sq_wc sq1 w6.1
    have sz1 : (s1 0 9) = (σ 0 9) := (sq1.1 0 9 rfl rfl).trans (q6.1 0 9 rfl rfl)
    refine sp_code (by rw [sz1]; exact hs) q4 (by omega) (fun r hr => sp_put_1 w1.1 (by omega) (fun s2 p2 => ?_))
    have w2 := sq_wc (sq_pu p2) w1.1
    simp only [List.length_cons, List.length_nil] at w2
    refine sp_put_1 w2.1 (by omega) (fun s3 p3 => ?_)
    have w3 := sq_wc (sq_pu p3) w2.1
    simp only [List.length_cons, List.length_nil] at w3
    refine sp_put_0 w3.1 (by omega) (fun s4 p4 => ?_)
    have sq4 := sq_tr sq1 (sq_tr (sq_pu p2) (sq_tr (sq_pu p3) (sq_pu p4)))
    have w4 := sq_wc (sq_pu p4) w3.1
    simp only [List.length_cons, List.length_nil] at w4
    have sz4 : (s4 0 9) = (s 0 9) := sq4.1 0 9 rfl rfl
    have szs : (s 0 9) = (σ 0 9) := q6.1 0 9 rfl rfl
    refine sp_look q4 (by rw [sz4, szs]; exact hs) ?_
    have e2 := ad1 (x := i) (by omega)
    have te4 : TE s s4 512 0 0 := te_sq w6.1 sq1 (sq_tr (sq_pu p2) (sq_tr (sq_pu p3) (sq_pu p4))) (te_le te1 (by omega)) (te_sq w1.1 (sq_pu p2) (sq_tr (sq_pu p3) (sq_pu p4)) (te_put (n := 2) (b := 2) w1.1 p2 rfl (by decide) rfl (k := 0) rfl (fun g' H L x hH hn hx => hn) (by omega)) (te_wd w2.1 (by omega) p3 p4))
    have sqf : SQ σ s4 (12 * (i + 1).toInt) := by
      have a := sq_tr q6 sq4
      refine ⟨a.1, a.2.1, a.2.2.1, a.2.2.2.1, ?_⟩
      have := w4.2.1
      omega
    refine ⟨fun y => 1 ≤ y.toInt ∧ y.toInt ≤ 2, fun y ⟨y1, y2⟩ => ⟨m - 1, by omega, ?_⟩, fun _ => by decide, fun _ => by decide⟩
    have e4 : (x + y).toInt = x.toInt + y.toInt := ad (by omega) (by omega)
    exact ⟨by omega, by omega, by omega, by omega, by omega, rfl, rfl, sqf, te_sq h0 q6 sq4 q7 te4⟩
def IRel (σ : St) (vs : List Nat) (n : Int32) (v : Int32) (s t : St) (z : List Nat) : Prop := RL σ vs s t z ∧ NCt σ vs s z 0 ∧ (v.toInt ≠ 0 → 0 ≤ n.toInt → TE σ s 512 0 0)
theorem sp_rowInitialL {ty cells n f : Int32} {Q : Int32 → St → St → List Nat → Prop} {T : St → St → List Nat → Prop} (h : PA σ τ) (hB : NB σ vs) (hf : f.toInt ≠ 0) (hty : 0 ≤ ty.toInt) (hn : 0 ≤ n.toInt → n.toInt ≤ 99 ∧ n.toInt < (σ 0 49).toInt) (k : ∀ (v : Int32) s t z, (v = 0 ∨ v = 1) → IRel σ vs n v s t z → Q v s t z) (kT : ∀ s t z, RTx σ vs s t z → T s t z) : wp_rowInitial ty cells n f σ τ vs Q T := by
  have h0 := h.2.2.1.2.2.2.2.1
  have htk := at_tok h.1 h.2.1
  have hcap := nb_cap hB h
  unfold wp_rowInitial
  refine ⟨htk, ⟨True, fun _ => ?_, fun _ => trivial, fun c4 => ?_⟩⟩
  · refine sp_is h (fun hk => ⟨no1, fun _ => ?_⟩) (fun hk => ⟨fun _ => ?_, no0⟩)
    · exact sp_bracesL h hB hf hty hn (fun v s t z hv r nc p te => k v s t z hv ⟨r, nc, te⟩) kT
    · refine sx_expr 1 σ τ vs _ T (by decide) h hB (fun u s t z r => ?_) kT
      refine sp_read r.1.2.1 (re_nb hB r) r.2.2.1.1 (fun s2 hrd => ?_)
      obtain ⟨g1, g2, g3, g4, g5, g6, g7, g8⟩ := re_read h r hrd (by omega)
      exact k 0 _ _ _ (Or.inl rfl) ⟨g1, ⟨by omega, by omega, by omega⟩, no0⟩
  · have hk : kd σ = 4 := c4
    obtain ⟨rn, pn, wn, icn⟩ := rl_nxt (vs := vs) h (by omega)
    have htn := at_tok rn.2.1.1 rn.2.1.2.1
    rw [nxt_at] at htn
    have hv := STR_ok h.1 h.2.1 c4
    have ps := nxt_str h.1 h.2.1 hk
    have hn2 : 0 ≤ n.toInt → n.toInt ≤ 99 ∧ n.toInt < ((nxt σ) 0 49).toInt := hn
    refine ⟨htn, ⟨True, fun _ => ?_, fun _ => trivial, fun _ => ⟨htn, fun _ => trivial, fun _ => trivial⟩⟩⟩
    show wp_fill _ _ _ _ (nxt σ) τ vs _
    refine sp_fillL rn.2.1 htk (by show _ ∧ _; exact ⟨hv.1, hv.2.1⟩) (by omega) hf hn2 (fun s sq te => ?_)
    have rC := sq_rl (vs := vs) rn.2.1 sq
    have P := pos_sq sq
    have I : (s 0 39).toInt = ((nxt σ) 0 39).toInt := by rw [ic_sq sq]
    have W := (sq_wc sq rn.2.1.2.2.1.2.2.2.2.1).2.1
    have ev1 : ((nxt σ) 6) (σ 0 10).toNatClampNeg = (σ 6) (σ 0 10).toNatClampNeg := rfl
    rw [ev1] at W
    have rel : ∀ v : Int32, IRel σ vs n v s τ vs := fun v => ⟨rl_tr rn rC, ⟨by omega, by omega, by omega⟩, fun _ c => te_rl h0 rn rC (te_nxt h0 rn) (te c)⟩
    exact ⟨fun _ => k 0 _ _ _ (Or.inl rfl) (rel _), fun _ => ⟨htk, fun _ => k 0 _ _ _ (Or.inl rfl) (rel _), fun _ => k 1 _ _ _ (Or.inr rfl) (rel _)⟩⟩
theorem sp_oneInitialL {ty n f : Int32} {Q : Int32 → St → St → List Nat → Prop} {T : St → St → List Nat → Prop} (h : PA σ τ) (hB : NB σ vs) (hf : f.toInt ≠ 0) (hty : 0 ≤ ty.toInt) (hn : 0 ≤ n.toInt → (n.toInt ≤ 99 ∧ n.toInt < (σ 0 49).toInt) ∧ ((σ 32) n.toNatClampNeg).toInt < 0) (k : ∀ (v : Int32) s t z, (v = 0 ∨ v = 1) → IRel σ vs n v s t z → Q v s t z) (kT : ∀ s t z, RTx σ vs s t z → T s t z) : wp_oneInitial ty n f σ τ vs Q T := by
  unfold wp_oneInitial
  refine sp_is h (fun hk => ⟨no1, fun _ => ?_⟩) (fun hk => ⟨fun _ => ?_, no0⟩)
  · exact sp_bracesL h hB hf hty (fun c => (hn c).1) (fun v s t z hv r nc p te => k 0 s t z (Or.inl rfl) ⟨r, nc, no0⟩) kT
  · refine ⟨fun _ => True, fun y _ => sp_one1L h hB hf hty (fun c => (hn c).1) (fun v s t z hv r nc p te => k v s t z hv ⟨r, nct_le nc (by omega), fun c1 c2 => te_le ((te c1).1 ⟨c2, (hn c2).2⟩) (by omega)⟩) kT, ⟨True, fun _ => trivial, fun _ => trivial, fun c => absurd c hf⟩⟩
theorem sp_variableL {tk ty a3 a4 f : Int32} {Q : St → St → List Nat → Prop} {T : St → St → List Nat → Prop} (h : PA σ τ) (hS : PSt σ) (hB : NB σ vs) (hB2 : (σ 0 17).toInt + 2 + 40 * ((σ 0 9).toInt - pos σ) ≤ 410000) (ht : 0 ≤ tk.toInt ∧ tk.toInt < 16002) (hty : 0 ≤ ty.toInt ∧ ty.toInt ≤ 10) (hf : f.toInt ≠ 0) (k : ∀ s t z, SRt σ vs 0 0 s t z [] [] → NCt σ vs s z (-2) → Q s t z) (kT : ∀ s t z, RTt σ vs s t z → T s t z) : wp_variable tk ty a3 a4 f σ τ vs Q T := by
  have h0 := h.2.2.1.2.2.2.2.1
  have htk := at_tok h.1 h.2.1
  have cut : ∀ {s t z c}, SRt σ vs 0 0 s t z [] [] → NCt σ vs s z c → -2 ≤ c → ∀ s' t' z', RTt s z s' t' z' → T s' t' z' := fun sr nc _ s' t' z' hs => kT _ _ _ (rt_rs sr.1 nc.2.2 hs)
  -- from the size on
  have main : ∀ (x6 x7 x8 : Int32) s t z, (x6.toInt < 0 ∨ (0 ≤ x6.toInt ∧ x6.toInt < 16002)) → SRt σ vs 0 0 s t z [] [] → NCt σ vs s z 0 → True := fun _ _ _ _ _ _ _ _ _ => trivial
  unfold wp_variable
  have J95 : ∀ (x6 x7 x8 : Int32) (s t : St) (z : List Nat), ((x6.toInt < 0 ∨ (0 ≤ x6.toInt ∧ x6.toInt < 16002)) ∧ SRt σ vs 0 0 s t z [] [] ∧ NCt σ vs s z 0) → True := fun _ _ _ _ _ _ _ => trivial
  refine sp_is h (fun hk => ⟨fun x6 x7 x8 s t z => (x6.toInt < 0 ∨ (0 ≤ x6.toInt ∧ x6.toInt < 16002)) ∧ SRt σ vs 0 0 s t z [] [] ∧ NCt σ vs s z 0, ?_, no1, fun _ => ?_⟩) (fun hk => ⟨fun x6 x7 x8 s t z => (x6.toInt < 0 ∨ (0 ≤ x6.toInt ∧ x6.toInt < 16002)) ∧ SRt σ vs 0 0 s t z [] [] ∧ NCt σ vs s z 0, ?_, fun _ => ?_, no0⟩)
  case refine_4 => exact ⟨Or.inl (by decide), sr_rl h0 (rl_rf h) (te_rf (N := 0)) (by omega), nct_rf⟩
  case refine_2 =>
    -- [
    have hk2 : kd σ = 56 := hk
    obtain ⟨rn, pn, wn, icn⟩ := rl_nxt (vs := vs) h (by omega)
    have hPn := rn.2.1
    have srn : SRt σ vs 0 0 (nxt σ) τ vs [] [] := sr_rl h0 rn (te_nxt (N := 0) h0 rn) (by omega)
    have ncn : NCt σ vs (nxt σ) vs 40 := ⟨by omega, by omega, by omega⟩
    have hSn := ps_rs hS srn.1
    rw [show upC σ 0 10 ((σ 0 10) + (1 : Int32)) = nxt σ from rfl]
    have fin : ∀ (y48 y63 : Int32) s t z, RL (nxt σ) vs s t z → NCt (nxt σ) vs s z 0 → (s 0 17) = ((nxt σ) 0 17) → wp_expect (25 : Int32) s t z (fun s68 t68 z68 => (y48.toInt ≠ 0 → (((σ 0 10).toInt < 0 ∨ (0 ≤ (σ 0 10).toInt ∧ (σ 0 10).toInt < 16002)) ∧ SRt σ vs 0 0 s68 t68 z68 [] [] ∧ NCt σ vs s68 z68 0)) ∧ (y48.toInt = 0 → wp_is (30 : Int32) s68 t68 z68 (fun v79 => (v79.toInt = 0 → (((σ 0 10).toInt < 0 ∨ (0 ≤ (σ 0 10).toInt ∧ (σ 0 10).toInt < 16002)) ∧ SRt σ vs 0 0 s68 t68 z68 [] [] ∧ NCt σ vs s68 z68 0)) ∧ (v79.toInt ≠ 0 → wp_told s68 t68 z68 (fun v86 => (((σ 0 10).toInt < 0 ∨ (0 ≤ (σ 0 10).toInt ∧ (σ 0 10).toInt < 16002)) ∧ SRt σ vs 0 0 s68 t68 z68 [] [] ∧ NCt σ vs s68 z68 0)))))) T := fun y48 y63 s t z r nc hw9 => by
      have hPs := r.2.1
      have te : TE (nxt σ) s 0 0 0 := te_same hPn.2.2.1.2.2.2.2.1 hw9 r.2.2.1 (ev_ke r.1 r.2.2.2.1)
      have sr := sr_tr h0 srn (sr_rl hPn.2.2.1.2.2.2.2.1 r te (by omega))
      have nc2 := nct_tr ncn nc
      refine sp_expect hPs (by decide) (fun hk3 ro po wo ico => ?_) (fun s' hs => cut sr (show NCt σ vs s z 0 from nct_le nc2 (by omega)) (by omega) _ _ _ (rt_rtx hs))
      have h0s := hPs.2.2.1.2.2.2.2.1
      have srf := sr_tr h0 sr (sr_rl h0s ro (te_nxt (N := 0) h0s ro) (by omega))
      have ncf : NCt σ vs (nxt s) z 0 := by
        obtain ⟨n1, n2, n3⟩ := nc2
        exact ⟨by omega, by omega, by omega⟩
      have res : (((σ 0 10).toInt < 0 ∨ (0 ≤ (σ 0 10).toInt ∧ (σ 0 10).toInt < 16002)) ∧ SRt σ vs 0 0 (nxt s) t z [] [] ∧ NCt σ vs (nxt s) z 0) := ⟨Or.inr htk, srf, ncf⟩
      exact ⟨fun _ => res, fun _ => sp_is ro.2.1 (fun hk4 => ⟨no1, fun _ => sp_told ro.2.1 (by have : kd (nxt s) = 62 := hk4; omega) (fun _ => res)⟩) (fun _ => ⟨fun _ => res, no0⟩)⟩
    refine sp_is hPn (fun hk3 => ⟨fun y => y.toInt = 0, fun y48 _ hy => ?_, fun _ => rfl, no1⟩) (fun hk3 => ⟨fun y => y.toInt ≠ 0, fun y48 _ hy => ?_, no0, fun _ => by decide⟩)
    · exact ⟨fun y63 s t z => RL (nxt σ) vs s t z ∧ NCt (nxt σ) vs s z 0 ∧ (s 0 17) = ((nxt σ) 0 17), fun y63 s t z ⟨a1, a2, a3⟩ => fin y48 y63 s t z a1 a2 a3, fun _ => ⟨rl_rf hPn, nct_rf, rfl⟩, fun c => absurd hy c⟩
    · refine ⟨fun y63 s t z => RL (nxt σ) vs s t z ∧ NCt (nxt σ) vs s z 0 ∧ (s 0 17) = ((nxt σ) 0 17), fun y63 s t z ⟨a1, a2, a3⟩ => fin y48 y63 s t z a1 a2 a3, fun c => absurd c hy, fun _ => ?_⟩
      exact sp_sizeAt hPn hSn.1 (nct_nb hB srn.1 ncn (by omega)) (fun r s t z r1 nc p hw9 => ⟨r1, nc, hw9⟩) (fun s' t' z' hs => cut srn ncn (by omega) _ _ _ hs)
  all_goals
    rintro x6 x7 x8 s1 t1 z1 - ⟨hx6, sr1, nc1⟩
    have hP1 := sr1.1.2.1
    refine ⟨fun y => y.toInt ≠ 0 → x6.toInt < 0 ∨ x7.toInt ≤ 4000, fun y119 _ hy119 => ⟨fun y => (x6.toInt < 0 → y.toInt < 0) ∧ y.toInt ≤ 4000, fun y141 hy141' => ⟨fun y s t z => SRt σ vs 0 0 s t z [] [] ∧ NCt σ vs s z 0 ∧ (y.toInt < 0 → (s 0 12).toInt = 0 → (s 0 15).toInt = 0 → False) ∧ (0 ≤ y.toInt → (y.toInt ≤ 99 ∧ y.toInt < (s 0 49).toInt ∧ (s 0 53).toInt < (s 0 49).toInt) ∧ (x6.toInt < 0 → ((s 32) y.toNatClampNeg).toInt < 0)), ?_, fun c => absurd c hf, fun _ => ?_⟩, fun c => ⟨fun _ => ⟨fun q => by omega, by decide⟩, fun c2 => ⟨fun q => by omega, by rcases hy119 c2 with q | q <;> omega⟩⟩, fun _ => ⟨fun _ => by decide, by decide⟩⟩, ⟨x6.toInt < 0 ∨ x7.toInt ≤ 4000, fun c _ => c, fun c => Or.inl c, fun _ => ⟨True, fun _ => no0, fun _ => trivial, fun _ => ⟨fun _ => trivial, fun c => Or.inr c⟩⟩⟩⟩
    rotate_left 1
    · obtain ⟨hy141, hy141b⟩ := hy141'
      refine sp_localName hP1 ht hty hy141b (fun r s q f1 f2 => ?_)
      obtain ⟨a1, a2⟩ := qt_sr (a := 0) hP1.2.2.1.2.2.2.2.1 q
      exact ⟨sr_tr h0 sr1 a1, nct_tr nc1 a2, f1, fun c => ⟨⟨(f2 c).1, (f2 c).2.1, (f2 c).2.2.1⟩, fun c2 => (f2 c).2.2.2 (hy141 c2)⟩⟩
    rintro y170 s2 t2 z2 ⟨sr2, nc2, f2, g2⟩
    have tl : ∀ {s t z}, SRt σ vs 0 0 s t z [] [] ∧ NCt σ vs s z 0 ∧ (y170.toInt < 0 → (s 0 12).toInt = 0 → (s 0 15).toInt = 0 → False) ∧ (0 ≤ y170.toInt → (y170.toInt ≤ 99 ∧ y170.toInt < (s 0 49).toInt ∧ (s 0 53).toInt < (s 0 49).toInt) ∧ (x6.toInt < 0 → ((s 32) y170.toNatClampNeg).toInt < 0)) → ∀ s', TL s s' → SRt σ vs 0 0 s' t z [] [] ∧ NCt σ vs s' z 0 ∧ (y170.toInt < 0 → (s' 0 12).toInt = 0 → (s' 0 15).toInt = 0 → False) ∧ (0 ≤ y170.toInt → (y170.toInt ≤ 99 ∧ y170.toInt < (s' 0 49).toInt ∧ (s' 0 53).toInt < (s' 0 49).toInt) ∧ (x6.toInt < 0 → ((s' 32) y170.toNatClampNeg).toInt < 0)) := fun ⟨b1, b2, b3, b4⟩ s' hs => by
      obtain ⟨a1, a2⟩ := qt_sr (a := 0) b1.1.2.1.2.2.1.2.2.2.2.1 (qt_tl b1.1.2.1 hs)
      have e1 : (s' 0 49) = _ := hs.1 0 49 rfl rfl
      have e2 : (s' 0 53) = _ := hs.1 0 53 rfl rfl
      have e3 : (s' 32) y170.toNatClampNeg = _ := hs.1 32 _ rfl rfl
      have e4 : (s' 0 15) = _ := hs.1 0 15 rfl rfl
      exact ⟨sr_tr h0 b1 a1, nct_tr b2 a2, fun c f1 f2 => b3 c (of0 hs.2 f1) (by rw [← e4]; exact f2), by rw [e1, e2, e3]; exact b4⟩
    refine ⟨fun s t z => SRt σ vs 0 0 s t z [] [] ∧ NCt σ vs s z 0 ∧ (y170.toInt < 0 → (s 0 12).toInt = 0 → (s 0 15).toInt = 0 → False) ∧ (0 ≤ y170.toInt → (y170.toInt ≤ 99 ∧ y170.toInt < (s 0 49).toInt ∧ (s 0 53).toInt < (s 0 49).toInt) ∧ (x6.toInt < 0 → ((s 32) y170.toNatClampNeg).toInt < 0)), ?_, fun _ => ⟨sr2, nc2, f2, g2⟩, fun c6 => ?_⟩
    rotate_left 1
    · have hx6' : 0 ≤ x6.toInt ∧ x6.toInt < 16002 := by omega
      refine ⟨fun s t z => SRt σ vs 0 0 s t z [] [] ∧ NCt σ vs s z 0 ∧ (y170.toInt < 0 → (s 0 12).toInt = 0 → (s 0 15).toInt = 0 → False) ∧ (0 ≤ y170.toInt → (y170.toInt ≤ 99 ∧ y170.toInt < (s 0 49).toInt ∧ (s 0 53).toInt < (s 0 49).toInt) ∧ (x6.toInt < 0 → ((s 32) y170.toNatClampNeg).toInt < 0)), ?_, fun _ => ⟨sr2, nc2, f2, g2⟩, fun _ => sp_tell (by decide) hx6' (fun s hs _ => tl ⟨sr2, nc2, f2, g2⟩ s hs)⟩
      rintro s3 t3 z3 b
      refine ⟨fun _ => True, fun y _ _ => sp_must hx6' (fun s hs _ => tl b s hs), ⟨True, fun _ => trivial, fun _ => trivial, fun _ => ⟨True, fun _ => trivial, fun _ => trivial, fun _ => ⟨fun _ => trivial, fun _ => ⟨fun _ => trivial, fun _ => sp_is b.1.1.2.1 (fun _ => ⟨fun _ => trivial, fun _ => trivial⟩) (fun _ => ⟨fun _ => trivial, fun _ => trivial⟩)⟩⟩⟩⟩⟩
    rintro s3 t3 z3 b3
    refine ⟨fun s t z => SRt σ vs 0 0 s t z [] [] ∧ NCt σ vs s z 0 ∧ (y170.toInt < 0 → (s 0 12).toInt = 0 → (s 0 15).toInt = 0 → False) ∧ (0 ≤ y170.toInt → (y170.toInt ≤ 99 ∧ y170.toInt < (s 0 49).toInt ∧ (s 0 53).toInt < (s 0 49).toInt) ∧ (x6.toInt < 0 → ((s 32) y170.toNatClampNeg).toInt < 0)), ?_, fun _ => b3, fun c => absurd c hf⟩
    rintro s4 t4 z4 ⟨sr4, nc4, f4, g4⟩
    have hP4 := sr4.1.2.1
    have h04 := hP4.2.2.1.2.2.2.2.1
    have hB4 := nct_nb hB sr4.1 nc4 (by omega)
    have hc4 := nb_cap hB4 hP4
    refine ⟨fun s t z => SRt σ vs 0 0 s t z [] [] ∧ NCt σ vs s z (-2) ∧ (y170.toInt < 0 → (s 0 12).toInt = 0 → (s 0 15).toInt = 0 → False) ∧ (0 ≤ y170.toInt → (y170.toInt ≤ 99 ∧ y170.toInt < (s 0 49).toInt) ∧ (x6.toInt < 0 → ((s 32) y170.toNatClampNeg).toInt < 0)), ?_, fun c => absurd c hf, fun _ => ⟨fun c => ⟨sr4, nct_le nc4 (by omega), f4, fun c2 => by omega⟩, fun c => ?_⟩⟩
    rotate_left 1
    · obtain ⟨⟨d1, d2, d3⟩, d4⟩ := g4 c
      refine sp_hold hP4 ht ⟨c, d1, d2⟩ d3 (fun s5 q5 el eh els => ?_)
      obtain ⟨a1, a2⟩ := qt_sr (a := 0) h04 q5
      have hP5 := q5.1.2.1
      have h05 := hP5.2.2.1.2.2.2.2.1
      have w5 := (qt_pos q5).2.1
      refine sp_put_1 h05 (by rw [w5]; omega) (fun s6 p6 => ?_)
      have r6 := rl_pu (vs := z4) (z := z4) hP5 p6 hP5.2.2.2.2 (fun _ h => h) (Nat.le_refl _)
      have e6 : (s6 0 49) = (s4 0 49) := (p6.1 0 49 rfl rfl).trans el
      have te6 : TE s5 s6 2 0 0 := te_put (n := 2) h05 p6 rfl (by decide) rfl (k := 8) rfl (fun g' H L x hH hn hx => ⟨by rw [hx _ rfl, e6]; omega, hn⟩) (by omega)
      have W6 : (s6 0 17).toInt = (s5 0 17).toInt + 2 := p6.2.1
      have I6 := ic_sq (sq_pu p6)
      have P6 := pos_sq (sq_pu p6)
      refine ⟨sr_tr h0 sr4 (sr_tr h04 a1 (sr_rl h05 r6 te6 (by omega))), ?_, fun c2 => by omega, fun _ => ⟨⟨d1, by rw [e6]; exact d2⟩, fun c2 => ?_⟩⟩
      · obtain ⟨n1, n2, n3⟩ := nct_tr nc4 a2
        exact ⟨by rw [P6]; omega, by rw [I6, P6]; exact n2, by rw [P6]; exact n3⟩
      · have e7 : (s6 32) y170.toNatClampNeg = (s5 32) y170.toNatClampNeg := p6.1 32 _ rfl rfl
        have e8 : (s5 32) y170.toNatClampNeg = (s4 32) y170.toNatClampNeg := by rw [els]
        rw [e7, e8]
        exact d4 c2
    rintro s5 t5 z5 ⟨sr5, nc5, f5, g5⟩
    have hP5 := sr5.1.2.1
    have h05 := hP5.2.2.1.2.2.2.2.1
    refine sp_is hP5 (fun hk5 => ⟨fun _ => ?_, no1⟩) (fun _ => ⟨no0, fun _ => k _ _ _ sr5 nc5⟩)
    have hk5' : kd s5 = 62 := hk5
    have htk5 := at_tok hP5.1 hP5.2.1
    obtain ⟨rn, pn, wn, icn⟩ := rl_nxt (vs := z5) hP5 (by omega)
    have hPn := rn.2.1
    rw [show upC s5 0 10 ((s5 0 10) + (1 : Int32)) = nxt s5 from rfl]
    have srn := sr_tr h0 sr5 (sr_rl h05 rn (te_nxt (N := 0) h05 rn) (by omega))
    have ncn : NCt σ vs (nxt s5) z5 38 := by
      obtain ⟨n1, n2, n3⟩ := nc5
      exact ⟨by omega, by omega, by omega⟩
    have hBn := nct_nb hB srn.1 ncn (by omega)
    have gn : 0 ≤ y170.toInt → y170.toInt ≤ 99 ∧ y170.toInt < ((nxt s5) 0 49).toInt := fun c => (g5 c).1
    have fin : ∀ (v : Int32) s t z, (v = 0 ∨ v = 1) → IRel (nxt s5) z5 y170 v s t z → (∃ J361 : Int32 → Prop, (∀ (y1_361 : Int32), y1_361 = 0 ∨ y1_361 = 1 → J361 y1_361 → (wp_must y1_361 (s5 0 10) s t z (fun s363 t363 z363 => Q s363 t363 z363))) ∧ (∃ J360 : Prop, (J360 → (J361 (0 : Int32))) ∧ (v.toInt = 0 → J360) ∧ (v.toInt ≠ 0 → (a4.toInt ≠ 0 → J360) ∧ (a4.toInt = 0 → J361 (1 : Int32))))) := fun v s t z hv ⟨r, nc, te⟩ => by
      refine ⟨fun y => y.toInt ≠ 0 → v.toInt ≠ 0, fun y _ hy => sp_must htk5 (fun s6 hs hf6 => ?_), ⟨True, fun _ => no0, fun _ => trivial, fun c => ⟨fun _ => trivial, fun _ _ => c⟩⟩⟩
      have q6 := rl_tl (vs := z) (z := z) r.2.1 hs r.2.1.2.2.2.2 (fun _ h => h) (Nat.le_refl _)
      have r6 := rl_tr r q6
      have h0s := r.2.1.2.2.1.2.2.2.2.1
      have te6 : TE (nxt s5) s6 512 0 0 := by
        refine te_if (P := v.toInt ≠ 0 ∧ 0 ≤ y170.toInt) (fun b1 b2 => ⟨hy (hf6 b1 b2), ?_⟩) (fun c => te_rl hPn.2.2.1.2.2.2.2.1 r q6 (te c.1 c.2) (te_tl h0s hs))
        by_cases c : y170.toInt < 0
        · exact (f5 c (of0 (rl_tr rn r6).2.2.2.2.1 b1) (by rw [← rl_sil (rl_tr rn r6)]; exact b2)).elim
        · omega
      refine k _ _ _ (sr_tr h0 srn (sr_rl hPn.2.2.1.2.2.2.2.1 r6 te6 (by omega))) ?_
      obtain ⟨n1, n2, n3⟩ := nct_tr ncn nc
      have P6 := pos_sq (sq_tl hs)
      have I6 := ic_sq (sq_tl hs)
      have W6 : (s6 0 17) = (s 0 17) := hs.1 0 17 rfl rfl
      exact ⟨by rw [W6, P6]; omega, by rw [I6, P6]; exact n2, by rw [P6]; exact n3⟩
    refine ⟨fun v s t z => (v = 0 ∨ v = 1) ∧ IRel (nxt s5) z5 y170 v s t z, fun v s t z _ ⟨hv, hr⟩ => fin v s t z hv hr, fun c6 => ?_, fun c6 => ?_⟩
    · exact sp_oneInitialL hPn hBn hf hty.1 (fun c => ⟨gn c, (g5 c).2 c6⟩) (fun v s t z hv hr => ⟨hv, hr⟩) (fun s' t' z' hs => cut srn ncn (by omega) _ _ _ (rt_rtx hs))
    · exact sp_rowInitialL hPn hBn hf hty.1 gn (fun v s t z hv hr => ⟨hv, hr⟩) (fun s' t' z' hs => cut srn ncn (by omega) _ _ _ (rt_rtx hs))
end VAR
