/-! a statement -/
section STT
variable {σ s s' τ t t' : St} {vs z z' : List Nat} {g g' : Gh} {X X' : Nat → Prop} {E0 H L : Nat}
theorem sr_pre {B G : List Nat} (h0 : 0 ≤ (σ 0 17).toInt) (rn : RL σ vs s t z) (te : TE σ s 501 0 0) (h : SRt s z 0 0 s' t' z' B G) : SRt σ vs 0 0 s' t' z' B G := by
  have := sr_tr h0 (sr_rl h0 rn te (by omega)) h
  rw [List.append_nil, List.append_nil] at this
  exact this
theorem pq_pre {c : Int} (h0 : 0 ≤ (σ 0 17).toInt) (rn : RL σ vs s t z) (te : TE σ s 501 0 0) (nc : NCt σ vs s z c) (hc : 0 ≤ c) (h : PQ s z s' t' z') : PQ σ vs s' t' z' := by
  obtain ⟨B, G, sr, n, p⟩ := h
  have mp := rn.2.2.2.2.2.2.2.1
  exact ⟨B, G, sr_pre h0 rn te sr, nct_le (nct_tr nc n) (by omega), by omega⟩
theorem sp_ifS {k2 : KZ} {d : Int} (hI : SS k2 d) {a : Int32} {Q T : St → St → List Nat → Prop} (had : a.toInt = d) (hP : PA σ τ) (hS : PSt σ) (hB : NB σ vs) (hk : kd σ = 9) (kQ : ∀ s t z, PQ σ vs s t z → Q s t z) (kT : ∀ s t z, RTt σ vs s t z → T s t z) : wp_condition (σ 0 10) (upC σ 0 10 ((σ 0 10) + (1 : Int32))) τ vs (fun s120 t120 z120 => wp_open (16 : Int32) s120 t120 z120 (fun v126 s126 t126 z126 => k2 a s126 t126 z126 (fun s132 t132 z132 => wp_isWord (10 : Int32) s132 t132 z132 (fun v138 => (v138.toInt ≠ 0 → wp_open (15 : Int32) (upC s132 0 10 ((s132 0 10) + (1 : Int32))) t132 z132 (fun v165 s165 t165 z165 => wp_aim v126 s165 t165 z165 (fun s172 t172 z172 => k2 a s172 t172 z172 (fun s177 t177 z177 => wp_aim v165 s177 t177 z177 (fun s183 t183 z183 => Q s183 t183 z183)) T))) ∧ (v138.toInt = 0 → wp_aim v126 s132 t132 z132 (fun s146 t146 z146 => Q s146 t146 z146)))) T)) T := by
  have h0 := hP.2.2.1.2.2.2.2.1
  have htk := at_tok hP.1 hP.2.1
  obtain ⟨rn, pn, wn, icn⟩ := rl_nxt (vs := vs) hP (by omega)
  have hPn := rn.2.1
  have h0n := hPn.2.2.1.2.2.2.2.1
  have hBn : NB (nxt σ) vs := nb_of hB rn (by omega) (by omega) (by omega)
  rw [show upC σ 0 10 ((σ 0 10) + (1 : Int32)) = nxt σ from rfl]
  refine sp_condition hPn hBn htk (fun s1 t1 z1 r1 nc1 te1 => ?_) (fun s' t' z' hs => kT _ _ _ (rt_rtx (rt_of rn (by omega) hs)))
  have hP1 := r1.2.1
  have h01 := hP1.2.2.1.2.2.2.2.1
  have r01 := rl_tr rn r1
  have nc01 : NCt σ vs s1 z1 60 := by
    obtain ⟨m1, m2, m3⟩ := nc1
    exact ⟨by omega, by omega, by omega⟩
  have sr1 : SRt σ vs 0 1 s1 t1 z1 [] [] := sr_rl h0 r01 (te_rl h0 rn r1 (te_nxt h0 rn) te1) (by omega)
  have hc1 := nb_cap (nct_nb hB (rs_rl r01) nc01 (by omega)) hP1
  refine sp_open h01 (by omega) (fun v s2 p2 ev2 => ?_)
  have rl2 := rl_pu (vs := z1) (z := z1) hP1 p2 hP1.2.2.2.2 (fun _ h => h) (Nat.le_refl _)
  have W2 : (s2 0 17).toInt = (s1 0 17).toInt + 2 := p2.2.1
  have P2 := pos_sq (sq_pu p2)
  have I2 := ic_sq (sq_pu p2)
  have r02 := rl_tr r01 rl2
  have nc02 : NCt σ vs s2 z1 58 := by
    obtain ⟨m1, m2, m3⟩ := nc01
    exact ⟨by omega, by rw [I2]; omega, by omega⟩
  have hP2 := rl2.2.1
  have h02 := hP2.2.2.1.2.2.2.2.1
  refine hI a s2 t1 z1 _ T had hP2 (ps_rs hS (rs_rl r02)) (nct_nb hB (rs_rl r02) nc02 (by omega)) (fun s3 t3 z3 pq => ?_) (fun s' t' z' hs => kT _ _ _ (rt_rs (rs_rl r02) nc02.2.2 hs))
  obtain ⟨B, G, sr3, nc3, p3⟩ := pq
  have hP3 := sr3.1.2.1
  have h03 := hP3.2.2.1.2.2.2.2.1
  have nc03 := nct_tr nc02 nc3
  have rs3 := rs_tr (rs_rl r02) sr3.1
  have n1 : (wcn s1 : Int) = (s1 0 17).toInt := nt h01
  have n2 : (wcn s2 : Int) = (s2 0 17).toInt := nt h02
  have n3 : (wcn s3 : Int) = (s3 0 17).toInt := nt h03
  have mw3 := sr3.1.2.2.2.2.2.1
  have mp1 := r01.2.2.2.2.2.2.2.1
  have hc3 := nb_cap (nct_nb hB rs3 nc03 (by omega)) hP3
  have c12 : CHN s1 s2 [] [] := chn_no h01 p2.2.2.1 (p2.1 0 58 rfl rfl) (p2.1 0 59 rfl rfl)
  have c13 : CHN s1 s3 B G := by
    have := chn_tr c12 sr3.2.1 (by omega) (by omega)
    rw [List.append_nil, List.append_nil] at this
    exact this
  have hbb : ∀ b ∈ B ++ G, wcn s2 < b ∧ b < wcn s3 := fun b hb => by
    rcases List.mem_append.mp hb with h | h
    · exact sr3.2.1.1 b h
    · exact sr3.2.1.2.1 b h
  have lo12 : (s2 0 57) = (s1 0 57) := p2.1 0 57 rfl rfl
  have si12 : (s2 0 15) = (s1 0 15) := p2.1 0 15 rfl rfl
  refine sp_isWord hP3 (fun hk3 => ⟨fun _ => ?_, no1⟩) (fun hk3 => ⟨no0, fun _ => ?_⟩)
  · -- else
    have hk3' : kd s3 = 10 := hk3
    obtain ⟨ro, po, wo, ico⟩ := rl_nxt (vs := z3) hP3 (by omega)
    have hPo := ro.2.1
    have h0o := hPo.2.2.1.2.2.2.2.1
    have sro : SRt s2 z1 0 0 (nxt s3) t3 z3 B G := by
      have := sr_tr h02 sr3 (sr_rl h03 ro (te_nxt (N := 0) h03 ro) (by omega))
      exact this
    rw [show upC s3 0 10 ((s3 0 10) + (1 : Int32)) = nxt s3 from rfl]
    have nc0o : NCt σ vs (nxt s3) z3 98 := by
      obtain ⟨m1, m2, m3⟩ := nc03
      exact ⟨by omega, by omega, by omega⟩
    have no_ : wcn (nxt s3) = wcn s3 := rfl
    have c1o : CHN s1 (nxt s3) B G := by
      have := chn_tr c12 sro.2.1 (by omega) (by omega)
      rw [List.append_nil, List.append_nil] at this
      exact this
    refine sp_open h0o (by omega) (fun v4 s4 p4 ev4 => ?_)
    have rl4 := rl_pu (vs := z3) (z := z3) hPo p4 hPo.2.2.2.2 (fun _ h => h) (Nat.le_refl _)
    have W4 : (s4 0 17).toInt = ((nxt s3) 0 17).toInt + 2 := p4.2.1
    have P4 := pos_sq (sq_pu p4)
    have I4 := ic_sq (sq_pu p4)
    have rs4 := rs_tr (rs_tr rs3 (rs_rl ro)) (rs_rl rl4)
    refine sp_aim (p := wcn s1) (by omega) (by omega) ?_
    have n0 : (wcn σ : Int) = (σ 0 17).toInt := nt h0
    have mw1 := r01.2.2.2.2.2.1
    have rs5 := rs_aim (p := wcn s1) rs4 (by omega)
    have hP5 := rs5.2.1
    have nc5 : NCt σ vs (aimS s4 (wcn s1)) z3 96 := by
      obtain ⟨m1, m2, m3⟩ := nc0o
      have nn : NCt σ vs s4 z3 96 := ⟨by omega, by rw [I4]; omega, by omega⟩
      exact nn
    refine hI a _ t3 z3 _ T had hP5 (ps_rs hS rs5) (nct_nb hB rs5 nc5 (by omega)) (fun s6 t6 z6 pq => ?_) (fun s' t' z' hs => kT _ _ _ (rt_rs rs5 nc5.2.2 hs))
    obtain ⟨B', G', sr6, nc6, p6⟩ := pq
    have hP6 := sr6.1.2.1
    have h06 := hP6.2.2.1.2.2.2.2.1
    have nc06 := nct_tr nc5 nc6
    have rs6 := rs_tr rs5 sr6.1
    have hc6 := nb_cap (nct_nb hB rs6 nc06 (by omega)) hP6
    have mw6 := sr6.1.2.2.2.2.2.1
    have n5 : wcn (aimS s4 (wcn s1)) = wcn s4 := rfl
    have n4 : (wcn s4 : Int) = (s4 0 17).toInt := nt (by omega)
    have n6 : (wcn s6 : Int) = (s6 0 17).toInt := nt h06
    have W5 : ((aimS s4 (wcn s1)) 0 17).toInt = (s4 0 17).toInt := rfl
    refine sp_aim (p := wcn (nxt s3)) (by omega) (by omega) ?_
    have rs7 := rs_aim (p := wcn (nxt s3)) rs6 (by omega)
    have ts := ts_ifelse h01 p2 sro.2.2.1 sro.1.2.2.1 (by show (s2 0 17).toInt ≤ ((nxt s3) 0 17).toInt; omega) hbb p4 rfl sr6.2.2.1 sr6.1.2.2.1 mw6 (fun b hb => by
      rcases List.mem_append.mp hb with h | h
      · exact (sr6.2.1.1 b h).1
      · exact (sr6.2.1.2.1 b h).1) rfl (of_tr rl4.2.2.2.2.1 sr6.1.2.2.2.2.1) (by rw [rs_sil sr6.1]; exact p4.1 0 15 rfl rfl)
    have c14 : CHN s1 s4 B G := by
      have := chn_tr c1o (chn_no h0o p4.2.2.1 (p4.1 0 58 rfl rfl) (p4.1 0 59 rfl rfl)) (by omega) (by omega)
      exact this
    have c15 : CHN s1 (aimS s4 (wcn s1)) B G := chn_aim c14 (Nat.le_refl _) (fun b hb => by have := hbb b (by simp [hb]); omega) (fun b hb => by have := hbb b (by simp [hb]); omega)
    have c16 := chn_tr c15 sr6.2.1 (by omega) (by omega)
    have c17 := chn_aim (p := wcn (nxt s3)) c16 (by omega) (fun b hb => by
      rcases List.mem_append.mp hb with h | h
      · have := (sr6.2.1.1 b h).1; omega
      · have := hbb b (by simp [h]); omega) (fun b hb => by
      rcases List.mem_append.mp hb with h | h
      · have := (sr6.2.1.2.1 b h).1; omega
      · have := hbb b (by simp [h]); omega)
    have eL1 : ((nxt s3) 0 57) = (s1 0 57) := sro.2.2.2.1.trans lo12
    have eL6 : (s6 0 57) = (s1 0 57) := by
      have e : ((aimS s4 (wcn s1)) 0 57) = ((nxt s3) 0 57) := p4.1 0 57 rfl rfl
      rw [sr6.2.2.2.1, e, eL1]
    have rs17 : RSt s1 z1 (aimS s6 (wcn (nxt s3))) t6 z6 := rs_aim (rs_tr (rs_aim (p := wcn s1) (rs_tr (rs_rl rl2) (rs_tr sro.1 (rs_rl rl4))) (by omega)) sr6.1) (by omega)
    have srF : SRt s1 z1 1 0 (aimS s6 (wcn (nxt s3))) t6 z6 (B' ++ B) (G' ++ G) := ⟨rs17, c17, ts, eL6, fun f1 f2 f3 => by
      have f6 : (s6 0 12).toInt = 0 := f1
      have l6 : (s6 0 15).toInt = 0 := f2
      have eL5 : ((aimS s4 (wcn s1)) 0 57) = (s1 0 57) := (p4.1 0 57 rfl rfl : (s4 0 57) = ((nxt s3) 0 57)).trans eL1
      obtain ⟨b1, b2⟩ := sr6.2.2.2.2 f6 l6 (by rw [eL5]; exact f3)
      have f4 : (s4 0 12).toInt = 0 := of0 sr6.1.2.2.2.2.1 f6
      have l4 : (s4 0 15).toInt = 0 := by
        have := rs_sil sr6.1
        rw [this] at l6; exact l6
      have fo : ((nxt s3) 0 12).toInt = 0 := of0 rl4.2.2.2.2.1 f4
      have lo : ((nxt s3) 0 15).toInt = 0 := by
        have := rl_sil rl4
        rw [this] at l4; exact l4
      obtain ⟨b3, b4⟩ := sro.2.2.2.2 fo lo (by rw [lo12]; exact f3)
      rw [b1, b2, b3, b4]
      exact ⟨rfl, rfl⟩⟩
    have fin := sr_tr h0 sr1 srF
    refine kQ _ _ _ ⟨_, _, fin, nct_le (c := 96) nc06 (by omega), ?_⟩
    show pos σ < pos s6
    have : pos (aimS s4 (wcn s1)) = pos s4 := rfl
    omega
  · -- none
    refine sp_aim (p := wcn s1) (by omega) (by omega) ?_
    have ts := ts_if h01 p2 sr3.2.2.1 sr3.1.2.2.1 mw3 (fun b hb => (hbb b hb).1)
    have c14 := chn_aim (p := wcn s1) c13 (Nat.le_refl _) (fun b hb => by have := hbb b (by simp [hb]); omega) (fun b hb => by have := hbb b (by simp [hb]); omega)
    have rs14 : RSt s1 z1 (aimS s3 (wcn s1)) t3 z3 := rs_aim (rs_tr (rs_rl rl2) sr3.1) (by omega)
    have srF : SRt s1 z1 1 0 (aimS s3 (wcn s1)) t3 z3 B G := ⟨rs14, c14, ts, sr3.2.2.2.1.trans lo12, fun f1 f2 f3 => sr3.2.2.2.2 f1 f2 (by rw [lo12]; exact f3)⟩
    have fin := sr_tr h0 sr1 srF
    refine kQ _ _ _ ⟨_, _, fin, nct_le (c := 58) nc03 (by omega), ?_⟩
    show pos σ < pos s3
    omega
theorem sp_jump {Q T : St → St → List Nat → Prop} (hP : PA σ τ) (hS : PSt σ) (hB : NB σ vs) (hk : kd σ = 14 ∨ kd σ = 15) (kQ : ∀ s t z, PQ σ vs s t z → Q s t z) (kT : ∀ s t z, RTt σ vs s t z → T s t z) : ((0 ≤ (σ 0 10).toInt ∧ (σ 0 10).toInt < 16002) ∧ (∃ J301 : Int32 → Prop, (∀ (y0_301 : Int32), y0_301 = 0 ∨ y0_301 = 1 → J301 y0_301 → (wp_expect (27 : Int32) (upC σ 0 10 ((σ 0 10) + (1 : Int32))) τ vs (fun s315 t315 z315 => (∃ J331 : Int32 → Prop, (∀ (y1_331 : Int32), y1_331 = 0 ∨ y1_331 = 1 → J331 y1_331 → (wp_must y1_331 (σ 0 10) s315 t315 z315 (fun s332 t332 z332 => (∃ J353 : Int32 → Prop, (∀ (y2_353 : Int32), J353 y2_353 → (wp_put_1 (15 : Int32) y2_353 s332 t332 z332 (fun s353 t353 z353 => (y0_301.toInt = 0 → Q (upC s353 0 59 ((s353 0 17) - (1 : Int32))) t353 z353) ∧ (y0_301.toInt ≠ 0 → Q (upC s353 0 58 ((s353 0 17) - (1 : Int32))) t353 z353)))) ∧ (y0_301.toInt = 0 → J353 (s332 0 59)) ∧ (y0_301.toInt ≠ 0 → J353 (s332 0 58)))))) ∧ ((s315 0 57).toInt ≤ 0 → J331 (0 : Int32)) ∧ (0 < (s315 0 57).toInt → J331 (1 : Int32)))) T)) ∧ ((σ 2 (σ 0 10).toNatClampNeg).toInt ≠ 14 → J301 (0 : Int32)) ∧ ((σ 2 (σ 0 10).toNatClampNeg).toInt = 14 → J301 (1 : Int32)))) := by
  have h0 := hP.2.2.1.2.2.2.2.1
  have htk := at_tok hP.1 hP.2.1
  obtain ⟨rn, pn, wn, icn⟩ := rl_nxt (vs := vs) hP (by omega)
  have hPn := rn.2.1
  have h0n := hPn.2.2.1.2.2.2.2.1
  refine ⟨htk, fun _ => True, fun y0 hy0 _ => ?_, fun _ => trivial, fun _ => trivial⟩
  rw [show upC σ 0 10 ((σ 0 10) + (1 : Int32)) = nxt σ from rfl]
  refine sp_expect hPn (by decide) (fun hk1 ra pa wa ica => ?_) (fun s' hs => kT _ _ _ (rt_rtx (rt_of rn (by omega) hs)))
  have r1 := rl_tr rn ra
  have hP1 := ra.2.1
  have te1 : TE σ (nxt (nxt σ)) 501 0 0 := te_rl h0 rn ra (te_nxt h0 rn) (te_nxt h0n ra)
  have nc1 : NCt σ vs (nxt (nxt σ)) vs 80 := ⟨by omega, by omega, by omega⟩
  have pp : pos σ < pos (nxt (nxt σ)) := by omega
  generalize nxt (nxt σ) = s1 at *
  have h01 := hP1.2.2.1.2.2.2.2.1
  have hc1 := nb_cap (nct_nb hB (rs_rl r1) nc1 (by omega)) hP1
  refine ⟨fun y => y.toInt ≠ 0 → 0 < (s1 0 57).toInt, fun y1 _ hy1 => sp_must htk (fun s2 hs hf => ?_), fun _ => no0, fun c _ => c⟩
  have sq := sq_tl hs
  have w2 := sq_wc sq h01
  have rl2 := sq_rl (vs := vs) hP1 sq
  have sr2 : SRt s1 vs 0 0 s2 τ vs [] [] := sr_rl h01 rl2 (te_tl (N := 0) h01 hs) (by omega)
  have P2 := pos_sq sq
  have I2 := ic_sq sq
  have hP2 := rl2.2.1
  have lo2 : (s2 0 57) = (s1 0 57) := hs.1 0 57 rfl rfl
  have ok2 : (s2 0 12).toInt = 0 → (s2 0 15).toInt = 0 → 0 < (s1 0 57).toInt := fun f1 f2 => hy1 (hf f1 f2)
  have main : ∀ (p : Nat) (isB : Bool) (y2 : Int32), (isB = true → p = 58) → (isB = false → p = 59) → y2 = s2 0 p → ∀ s3, PU s2 s3 [15, y2] → Q (upC s3 0 p ((s3 0 17) - (1 : Int32))) τ vs := fun p isB y2 hp1 hp2 hy2 s3 p3 => by
    have hp : p = 58 ∨ p = 59 := by cases isB <;> simp_all
    have rl3 := rl_pu (vs := vs) (z := vs) hP2 p3 hP2.2.2.2.2 (fun _ h => h) (Nat.le_refl _)
    have W3 : (s3 0 17).toInt = (s2 0 17).toInt + 2 := p3.2.1
    have P3 := pos_sq (sq_pu p3)
    have I3 := ic_sq (sq_pu p3)
    have n2 : (wcn s2 : Int) = (s2 0 17).toInt := nt w2.1
    have n3 : (wcn s3 : Int) = (s3 0 17).toInt := nt (by omega)
    have eh : ((s3 0 17) - (1 : Int32)).toInt = ((wcn s2 + 1 : Nat) : Int) := by rw [sb1 (by omega)]; omega
    have rs4 : RSt s2 vs (upC s3 0 p ((s3 0 17) - (1 : Int32))) τ vs := rs_f (rs_rl rl3) (by omega)
    have e0 : ∀ j, j ≠ p → (upC s3 0 p ((s3 0 17) - (1 : Int32))) 0 j = s3 0 j := fun j hj => rdA_ne hj
    have ex : ∀ q, ((upC s3 0 p ((s3 0 17) - (1 : Int32))) 8) q = (s3 8) q := fun _ => rfl
    have ep : (upC s3 0 p ((s3 0 17) - (1 : Int32))) 0 p = (s3 0 17) - (1 : Int32) := rdA_eq rfl
    have ew : ((upC s3 0 p ((s3 0 17) - (1 : Int32))) 0 17) = (s3 0 17) := e0 17 (by omega)
    have wn4 : wcn (upC s3 0 p ((s3 0 17) - (1 : Int32))) = wcn s3 := by unfold wcn; rw [ew]
    have hw0 : (s3 8) (wcn s2) = 15 := p3.2.2.2 0 _ rfl
    have hw1 : (s3 8) (wcn s2 + 1) = y2 := p3.2.2.2 1 _ rfl
    have newC : ∀ A : List Nat, (∀ b ∈ A, b < wcn s2) → Ch (s2 8) (s2 0 p).toInt A → Ch ((upC s3 0 p ((s3 0 17) - (1 : Int32))) 8) (upC s3 0 p ((s3 0 17) - (1 : Int32)) 0 p).toInt ((wcn s2 + 1) :: A) := fun A hA hC => by
      rw [ep]
      refine ⟨eh, fun c hc => by have := hA c hc; omega, ?_⟩
      show Ch (s3 8) ((s3 8) (wcn s2 + 1)).toInt A
      rw [hw1, hy2]
      exact ch_w (fun b hb => p3.2.2.1 b (by have := hA b hb; omega)) hC
    have oldC : ∀ q, q ≠ p → q ≠ 17 → ∀ A : List Nat, (∀ b ∈ A, b < wcn s2) → Ch (s2 8) (s2 0 q).toInt A → Ch ((upC s3 0 p ((s3 0 17) - (1 : Int32))) 8) (upC s3 0 p ((s3 0 17) - (1 : Int32)) 0 q).toInt A := fun q hq hq2 A hA hC => by
      rw [e0 q hq]
      have e9 : s3 0 q = s2 0 q := p3.1 0 q (by
        show ([(0, 17)] : List (Nat × Nat)).contains (0, q) = false
        rw [List.contains_cons, List.contains_nil, Bool.or_false]
        exact beq_eq_false_iff_ne.mpr (fun e => hq2 (by cases e; rfl))) rfl
      rw [e9]
      exact ch_w (fun b hb => p3.2.2.1 b (by have := hA b hb; omega)) hC
    have tst : ∀ B G : List Nat, (∀ b, b ∈ B ++ G ↔ b = wcn s2 + 1) → TSt s2 (upC s3 0 p ((s3 0 17) - (1 : Int32))) 0 0 B G := fun B G hBG g X E0 L hT hf9 hs9 => by
      obtain ⟨g1, t1, x1, a1, b1⟩ := ty_hole2 (H' := 0) (L' := L) hT w2.1 p3 rfl
      have t2 := ty_rs t1 (by omega) (rs_f (rs_rf (vs := vs) rl3.2.1) (by omega) : RSt s3 vs (upC s3 0 p ((s3 0 17) - (1 : Int32))) τ vs) ew
      refine ⟨g1, ty_X t2 (fun q hq => hq.imp id (fun e => (hBG _).mpr (by omega))), x1, fun b hb => ?_⟩
      refine ⟨wcn s2, L, (hBG b).mp hb, a1, Nat.le_refl _, b1, hw0, ?_⟩
      have : wcn s2 + 2 = wcn s3 := by omega
      rw [this, t1.2.1]
      exact fun c => by cases c
    have rwr : wcn s2 < wcn s2 + 1 ∧ wcn s2 + 1 < wcn (upC s3 0 p ((s3 0 17) - (1 : Int32))) := by rw [wn4]; omega
    have eLp : ((upC s3 0 p ((s3 0 17) - (1 : Int32))) 0 57) = (s2 0 57) := (e0 57 (by omega)).trans (p3.1 0 57 rfl rfl)
    have empt : ∀ {B G : List Nat}, ((upC s3 0 p ((s3 0 17) - (1 : Int32))) 0 12).toInt = 0 → ((upC s3 0 p ((s3 0 17) - (1 : Int32))) 0 15).toInt = 0 → (s2 0 57).toInt ≤ 0 → B = [] ∧ G = [] := fun {B G} f1 f2 f3 => by
      rw [e0 12 (by omega)] at f1
      rw [e0 15 (by omega)] at f2
      have e12 : (s3 0 12) = (s2 0 12) := p3.1 0 12 rfl rfl
      have e15 : (s3 0 15) = (s2 0 15) := p3.1 0 15 rfl rfl
      rw [e12] at f1
      rw [e15] at f2
      have := ok2 f1 f2
      rw [lo2] at f3
      omega
    have sr4 : ∃ B G, SRt s2 vs 0 0 (upC s3 0 p ((s3 0 17) - (1 : Int32))) τ vs B G := by
      rcases hp with hp | hp
      · subst hp
        refine ⟨[wcn s2 + 1], [], rs4, ⟨fun b hb => ?_, fun b hb => absurd hb List.not_mem_nil, fun b _ => List.not_mem_nil, fun A hA hC => newC A hA hC, fun A hA hC => oldC 59 (by decide) (by decide) A hA hC⟩, tst _ _ (fun b => by simp), eLp, fun f1 f2 f3 => empt f1 f2 f3⟩
        rw [List.mem_singleton.mp hb]; exact rwr
      · subst hp
        refine ⟨[], [wcn s2 + 1], rs4, ⟨fun b hb => absurd hb List.not_mem_nil, fun b hb => ?_, fun b hb => absurd hb List.not_mem_nil, fun A hA hC => oldC 58 (by decide) (by decide) A hA hC, fun A hA hC => newC A hA hC⟩, tst _ _ (fun b => by simp), eLp, fun f1 f2 f3 => empt f1 f2 f3⟩
        rw [List.mem_singleton.mp hb]; exact rwr
    obtain ⟨B, G, sr4⟩ := sr4
    have srF := sr_tr h0 (sr_rl h0 r1 te1 (by omega)) (sr_tr h01 sr2 sr4)
    have P4 : pos (upC s3 0 p ((s3 0 17) - (1 : Int32))) = pos s1 := by
      have e1 : (upC s3 0 p ((s3 0 17) - (1 : Int32))) 0 10 = s3 0 10 := e0 10 (by omega)
      unfold pos
      rw [e1]
      show ((s3 3) (s3 0 10).toNatClampNeg).toInt = _
      have := P3.trans P2
      unfold pos at this
      exact this
    obtain ⟨m1, m2, m3⟩ := nc1
    refine kQ _ _ _ ⟨_, _, srF, ⟨?_, ?_, ?_⟩, by rw [P4]; exact pp⟩
    · rw [P4, ew]; omega
    · rw [P4, e0 39 (by omega), I3, I2]; exact m2
    · rw [P4]; exact m3
  refine ⟨fun y2 => (y0.toInt = 0 → y2 = s2 0 59) ∧ (y0.toInt ≠ 0 → y2 = s2 0 58), fun y2 ⟨ha, hb⟩ => ?_, fun c => ⟨fun _ => rfl, fun q => absurd c q⟩, fun c => ⟨fun q => absurd q c, fun _ => rfl⟩⟩
  by_cases c : y0.toInt = 0
  · exact sp_put_1 w2.1 (by omega) (fun s3 p3 => ⟨fun _ => main 59 false y2 (fun e => by cases e) (fun _ => rfl) (ha c) s3 p3, fun q => absurd c q⟩)
  · exact sp_put_1 w2.1 (by omega) (fun s3 p3 => ⟨fun q => absurd q c, fun _ => main 58 true y2 (fun _ => rfl) (fun e => by cases e) (hb c) s3 p3⟩)
end STT
