/-! lists of variables; the body of a loop -/
abbrev KZ : Type := Int32 → St → St → List Nat → (St → St → List Nat → Prop) → (St → St → List Nat → Prop) → Prop
def PQ (σ : St) (vs : List Nat) (s t : St) (z : List Nat) : Prop := ∃ B G, SRt σ vs 0 0 s t z B G ∧ NCt σ vs s z 0 ∧ pos σ < pos s
def SS (K : KZ) (d : Int) : Prop := ∀ (a : Int32) (σ τ : St) (vs : List Nat) (Q T : St → St → List Nat → Prop), a.toInt = d → PA σ τ → PSt σ → NB σ vs → (∀ s t z, PQ σ vs s t z → Q s t z) → (∀ s t z, RTt σ vs s t z → T s t z) → K a σ τ vs Q T
section LOO
variable {σ s s' τ t t' : St} {vs z z' : List Nat} {g g' : Gh} {X X' : Nat → Prop} {E0 H L : Nat}
theorem sp_variablesL {a1 a2 f : Int32} {Q T : St → St → List Nat → Prop} (h : PA σ τ) (hS : PSt σ) (hB : NB σ vs) (hf : f.toInt ≠ 0) (k : ∀ s t z, SRt σ vs 0 0 s t z [] [] → NCt σ vs s z 0 → pos σ < pos s → Q s t z) (kT : ∀ s t z, RTt σ vs s t z → T s t z) : wp_variables a1 a2 f σ τ vs Q T := by
  have h0 := h.2.2.1.2.2.2.2.1
  unfold wp_variables
  refine ⟨fun n x s t z => n = ((σ 0 9).toInt - pos s).toNat ∧ SRt σ vs 0 0 s t z [] [] ∧ NCt σ vs s z 0, ⟨_, rfl, sr_rl h0 (rl_rf h) (te_rf (N := 0)) (by omega), nct_rf⟩, ?_⟩
  rintro n x s t z - ⟨hn, sr, nc⟩
  have hPs := sr.1.2.1
  have h0s := hPs.2.2.1.2.2.2.2.1
  have hBs := nct_nb hB sr.1 nc (by omega)
  have esz := rs_sz sr.1
  have mp := sr.1.2.2.2.2.2.2.2.1
  have cut : ∀ s' t' z', RTt s z s' t' z' → T s' t' z' := fun s' t' z' hs => kT _ _ _ (rt_rs sr.1 nc.2.2 hs)
  obtain ⟨n1, n2, n3⟩ := nc
  refine ⟨fun _ => ?_, fun _ => ?_⟩
  · refine sp_expect hPs (by decide) (fun hk ro po wo ico => ?_) (fun s' hs => cut _ _ _ (rt_rtx hs))
    exact k _ _ _ (sr_tr h0 sr (sr_rl h0s ro (te_nxt (N := 0) h0s ro) (by omega))) ⟨by omega, by omega, by omega⟩ (by omega)
  · refine sp_stars hPs (fun ty s1 ty0 ty5 hs1 => ?_) (fun s' hs => cut _ _ _ (rt_rtx hs))
    have r1 := sn_rl (vs := z) hPs hs1
    have hP1 := r1.2.1
    have h01 := hP1.2.2.1.2.2.2.2.1
    obtain ⟨w1, i1⟩ := sn_wc hs1
    have p1 := hs1.2.2
    have sr1 := sr_tr h0 sr (sr_rl h0s r1 (sn_te (N := 0) hPs hs1) (by omega))
    have htk := at_tok hP1.1 hP1.2.1
    have cut1 : ∀ s' t' z', RTt s1 z s' t' z' → T s' t' z' := fun s' t' z' hs => kT _ _ _ (rt_rs sr1.1 (by omega) hs)
    refine ⟨htk, fun hk => ?_, fun _ => sp_wrong hP1 (fun s' hs => cut1 _ _ _ (rt_rtx hs))⟩
    have hk2 : kd s1 = 2 := hk
    obtain ⟨rn, pn, wn, icn⟩ := rl_nxt (vs := z) hP1 (by omega)
    have sr2 := sr_tr h0 sr1 (sr_rl h01 rn (te_nxt (N := 0) h01 rn) (by omega))
    have nc2 : NCt σ vs (nxt s1) z 40 := ⟨by omega, by omega, by omega⟩
    have hB2 := nct_nb hB sr2.1 nc2 (by omega)
    have sz2 := rs_sz sr2.1
    have hb2 : ((nxt s1) 0 17).toInt + 2 + 40 * (((nxt s1) 0 9).toInt - pos (nxt s1)) ≤ 410000 := by
      obtain ⟨b1, -⟩ := hB
      rw [sz2]
      omega
    show wp_variable _ _ _ _ _ (nxt s1) t z _ T
    refine sp_variableL rn.2.1 (ps_rs hS sr2.1) hB2 hb2 htk ⟨ty0, by omega⟩ hf (fun s3 t3 z3 sr3 nc3 => ?_) (fun s' t' z' hs => kT _ _ _ (rt_rs sr2.1 nc2.2.2 hs))
    have srA := sr_tr h0 sr2 sr3
    have ncA := nct_tr nc2 nc3
    have hP3 := sr3.1.2.1
    have h03 := hP3.2.2.1.2.2.2.2.1
    have m3 := sr3.1.2.2.2.2.2.2.2.1
    have hp3 := pos_in hP3.1 hP3.2.1
    have sz3 := rs_sz srA.1
    unfold wp_accept
    refine sp_is hP3 (fun hk3 => ⟨fun _ => ?_, no1⟩) (fun _ => ⟨no0, fun _ => ⟨((σ 0 9).toInt - pos s3).toNat, by omega, rfl, srA, nct_le ncA (by omega)⟩⟩)
    have hk3' : kd s3 = 58 := hk3
    obtain ⟨ro, po, wo, ico⟩ := rl_nxt (vs := z3) hP3 (by omega)
    have hpo := pos_in ro.2.1.1 ro.2.1.2.1
    have szo := rl_sz ro
    refine ⟨((σ 0 9).toInt - pos (nxt s3)).toNat, by omega, rfl, sr_tr h0 srA (sr_rl h03 ro (te_nxt (N := 0) h03 ro) (by omega)), ?_⟩
    obtain ⟨b1, b2, b3⟩ := ncA
    show NCt σ vs (nxt s3) z3 0
    exact ⟨by omega, by omega, by omega⟩
theorem hol_le {w : Nat → Int32} {L L' b : Nat} (h : Hol w g L b) (hL : L' ≤ L) : Hol w g L' b := by
  obtain ⟨q, k, h1, h2, h3, h4, h5, h6⟩ := h
  exact ⟨q, k, h1, h2, by omega, h4, h5, h6⟩
theorem hol_low {w : Nat → Int32} {L b n : Nat} {v : Nat × Nat} (h : Hol w g L b) (hb : b < n) : Hol w (fun q => if q = n then some v else g q) L b := by
  obtain ⟨q, k, h1, h2, h3, h4, h5, h6⟩ := h
  refine ⟨q, k, h1, ?_, h3, ?_, h5, ?_⟩
  · show (if q = n then _ else _) = _
    rw [if_neg (by omega)]; exact h2
  · show (if q + 1 = n then _ else _) = _
    rw [if_neg (by omega)]; exact h4
  · show (if q + 2 = n then _ else _) ≠ _
    split
    · exact fun c => by cases c
    · exact h6
/-- the fields that a loop turns over -/
theorem rs_f {p : Nat} {v : Int32} (r : RSt σ vs s t z) (hp : p = 54 ∨ p = 57 ∨ p = 58 ∨ p = 59 ∨ p = 60) : RSt σ vs (upC s 0 p v) t z := by
  obtain ⟨h1, h2, h3, h4, h5, h6, h7, h8, h9, h10, h11, h12⟩ := r
  rcases hp with rfl | rfl | rfl | rfl | rfl
  all_goals exact ⟨kp_f h1 rfl, ⟨tk_kp (fs := [(0, 54), (0, 57), (0, 58), (0, 59), (0, 60)]) (cs := []) (kp_f kp_rf rfl) rfl rfl ⟨rfl, rfl, rfl, rfl, rfl⟩ rfl h2.1, h2.2.1, h2.2.2.1, h2.2.2.2.1, h2.2.2.2.2⟩, h3, h4, h5, h6, h7, h8, h9, h10, h11, h12⟩
theorem ty_rs (h : TY σ g X E0 H L) (h0 : 0 ≤ (σ 0 17).toInt) (r : RSt σ vs s t z) (hw : (s 0 17) = (σ 0 17)) : TY s g X E0 H L := ty_same h h0 hw r.2.2.1 (rs_ev r)
/-- what the body of a loop leaves: jumps out of it -/
def LQ (σ : St) (vs : List Nat) (top : Int) (s t : St) (z : List Nat) : Prop := RSt σ vs s t z ∧ NCt σ vs s z (-2) ∧ pos σ < pos s ∧ (s 0 57) = (σ 0 57) ∧ (s 0 59) = (σ 0 59) ∧ (s 0 60) = (σ 0 58) ∧ ∃ B : List Nat, (∀ b ∈ B, wcn σ < b ∧ b < wcn s) ∧ Ch (s 8) (s 0 58).toInt B ∧
  ∀ g X E0 L, TY σ g X E0 0 L → (0 ≤ top → ∃ kT, g top.toNat = some (0, kT) ∧ kT ≤ L + 1) → (s 0 12).toInt = 0 → (s 0 15).toInt = 0 → ∃ g', TY s g' (Xh X B) E0 0 (if 0 ≤ top then L + 2 else L + 1) ∧ Ext g g' (wcn σ) ∧ ∀ b ∈ B, Hol (s 8) g' (L + 2) b
def SSl (K : Int32 → Int32 → Int32 → St → St → List Nat → (St → St → List Nat → Prop) → (St → St → List Nat → Prop) → Prop) (d : Int) : Prop := ∀ (a wd tp : Int32) (σ τ : St) (vs : List Nat) (Q T : St → St → List Nat → Prop), a.toInt = d → PA σ τ → PSt σ → NB σ vs → (σ 0 17).toInt + 2 + 40 * ((σ 0 9).toInt - pos σ) ≤ 410000 → (0 ≤ wd.toInt ∧ wd.toInt < 16002) → tp.toInt ≤ (σ 0 17).toInt → (∀ s t z, LQ σ vs tp.toInt s t z → Q s t z) → (∀ s t z, RTt σ vs s t z → T s t z) → K a wd tp σ τ vs Q T
theorem sp_loop {k1 k2 k3 : KZ} {k4 : Int32 → Int32 → Int32 → St → St → List Nat → (St → St → List Nat → Prop) → (St → St → List Nat → Prop) → Prop} {k5 k6 : Int32 → KZ} {d : Int} (hI : SS k2 d) : SSl (wp_loop k1 k2 k3 k4 k5 k6) d := by
  intro a wd tp σ τ vs Q T had hP hS hB hB2 hwd htp kQ kT
  unfold wp_loop
  have h0 := hP.2.2.1.2.2.2.2.1
  have hc := nb_cap hB hP
  have r1 : RSt σ vs (upC (upC (upC σ 0 58 ((-1) : Int32)) 0 59 ((-1) : Int32)) 0 57 ((σ 0 57) + (1 : Int32))) τ vs := rs_f (rs_f (rs_f (rs_rf hP) (by omega)) (by omega)) (by omega)
  have hb1 : ((upC (upC (upC σ 0 58 ((-1) : Int32)) 0 59 ((-1) : Int32)) 0 57 ((σ 0 57) + (1 : Int32))) 0 58) = -1 := rfl
  have hg1 : ((upC (upC (upC σ 0 58 ((-1) : Int32)) 0 59 ((-1) : Int32)) 0 57 ((σ 0 57) + (1 : Int32))) 0 59) = -1 := rfl
  have wc1 : ((upC (upC (upC σ 0 58 ((-1) : Int32)) 0 59 ((-1) : Int32)) 0 57 ((σ 0 57) + (1 : Int32))) 0 17) = (σ 0 17) := rfl
  have ps1 : pos (upC (upC (upC σ 0 58 ((-1) : Int32)) 0 59 ((-1) : Int32)) 0 57 ((σ 0 57) + (1 : Int32))) = pos σ := rfl
  have ic1 : ((upC (upC (upC σ 0 58 ((-1) : Int32)) 0 59 ((-1) : Int32)) 0 57 ((σ 0 57) + (1 : Int32))) 0 39) = (σ 0 39) := rfl
  have lo1 : ((upC (upC (upC σ 0 58 ((-1) : Int32)) 0 59 ((-1) : Int32)) 0 57 ((σ 0 57) + (1 : Int32))) 0 57) = (σ 0 57) + (1 : Int32) := rfl
  generalize (upC (upC (upC σ 0 58 ((-1) : Int32)) 0 59 ((-1) : Int32)) 0 57 ((σ 0 57) + (1 : Int32))) = s1 at *
  refine ⟨hwd, sp_put_1 (by rw [wc1]; exact h0) (by rw [wc1]; omega) (fun s2 p2 => ?_)⟩
  have hP1 := r1.2.1
  have rl2 := rl_pu (vs := vs) (z := vs) hP1 p2 hP1.2.2.2.2 (fun _ h => h) (Nat.le_refl _)
  have r2 := rs_tr r1 (rs_rl rl2)
  have W2 : (s2 0 17).toInt = (σ 0 17).toInt + 2 := by rw [p2.2.1, wc1]; rfl
  have P2 : pos s2 = pos σ := (pos_sq (sq_pu p2)).trans ps1
  have I2 : (s2 0 39) = (σ 0 39) := (ic_sq (sq_pu p2)).trans ic1
  have nc2 : NCt σ vs s2 vs (-2) := ⟨by omega, by rw [I2, P2]; omega, by rw [P2]; omega⟩
  have hB2' : NB s2 vs := by
    obtain ⟨b1, b2, b3⟩ := hB
    have e := rs_sz r2
    unfold NB
    rw [e, P2, I2]
    exact ⟨by omega, b2, b3⟩
  refine hI a s2 τ vs _ T had r2.2.1 (ps_rs hS r2) hB2' (fun s3 t3 z3 pq => ?_) (fun s' t' z' hs => kT _ _ _ (rt_rs r2 (by omega) hs))
  obtain ⟨B, G, sr3, nc3, p3⟩ := pq
  have r3 := rs_tr r2 sr3.1
  have hP3 := sr3.1.2.1
  have h02 := r2.2.1.2.2.1.2.2.2.2.1
  have h03 := hP3.2.2.1.2.2.2.2.1
  obtain ⟨c1, c2, c3, c4, c5⟩ := sr3.2.1
  have n0 : (wcn σ : Int) = (σ 0 17).toInt := nt h0
  have n2 : (wcn s2 : Int) = (s2 0 17).toInt := nt h02
  have n3 : (wcn s3 : Int) = (s3 0 17).toInt := nt h03
  have b2 : (s2 0 58) = -1 := (p2.1 0 58 rfl rfl).trans hb1
  have g2 : (s2 0 59) = -1 := (p2.1 0 59 rfl rfl).trans hg1
  have C4 := c4 [] (fun b hb => absurd hb List.not_mem_nil) (by rw [b2]; exact (by decide : ((-1 : Int32)).toInt < 0))
  have C5 := c5 [] (fun b hb => absurd hb List.not_mem_nil) (by rw [g2]; exact (by decide : ((-1 : Int32)).toInt < 0))
  rw [List.append_nil] at C4 C5
  have hw3 : (s3 0 17).toInt ≤ 500000 := by
    have := (nb_cap (nct_nb hB2' sr3.1 nc3 (by omega)) hP3).2.1
    omega
  -- where it goes on
  have hto : ∀ to : Int32, ((tp.toInt < 0 ∧ to = (s3 0 17)) ∨ (0 ≤ tp.toInt ∧ to = tp)) → wp_aimAll (s3 0 59) to (upC s3 0 57 ((s3 0 57) - (1 : Int32))) t3 z3 (fun s76 t76 z76 => Q (upC (upC s76 0 59 (σ 0 59)) 0 60 (σ 0 58)) t76 z76) := fun to hto => by
    refine sp_aimAll (B := G) C5 (fun b hb => by have := c2 b hb; omega) (fun s4 al => ?_)
    have r3' : RSt σ vs (upC s3 0 57 ((s3 0 57) - (1 : Int32))) t3 z3 := rs_f r3 (by omega)
    have r4 := rs_al r3' al (fun b hb => by have := c2 b hb; omega) h0
    have r5 : RSt σ vs (upC (upC s4 0 59 (σ 0 59)) 0 60 (σ 0 58)) t3 z3 := rs_f (rs_f r4 (by omega)) (by omega)
    have a0 : ∀ j, s4 0 j = (upC s3 0 57 ((s3 0 57) - (1 : Int32))) 0 j := fun j => al.1 0 j rfl rfl
    have aw : (s4 0 17) = (s3 0 17) := a0 17
    have afr : (s4 3) = (s3 3) := funext (fun j => al.1 3 j rfl rfl)
    have aP : pos (upC (upC s4 0 59 (σ 0 59)) 0 60 (σ 0 58)) = pos s3 := by
      unfold pos
      show ((s4 3) (s4 0 10).toNatClampNeg).toInt = _
      rw [afr, a0 10]
      rfl
    have ab : (s4 0 58) = (s3 0 58) := a0 58
    obtain ⟨m1, m2, m3⟩ := nct_tr nc2 nc3
    refine kQ _ _ _ ⟨r5, ⟨?_, ?_, ?_⟩, by rw [aP]; omega, ?_, ?_, ?_, B, fun b hb => ?_, ?_, fun g X E0 L hT htop hf hs => ?_⟩
    · rw [aP]
      show (s4 0 17).toInt + -2 ≤ _
      rw [aw]; omega
    · rw [aP]
      show (s4 0 39).toInt ≤ _
      rw [a0 39]; exact m2
    · rw [aP]; exact m3
    · show (s4 0 57) = _
      rw [a0 57]
      show upC s3 0 57 ((s3 0 57) - (1 : Int32)) 0 57 = _
      rw [rdA_eq rfl, sr3.2.2.2.1, p2.1 0 57 rfl rfl, lo1]
      have : ((σ 0 57) + 1) - (1 : Int32) = (σ 0 57) := by
        rw [Int32.sub_eq_add_neg, Int32.add_assoc]
        have e : (1 : Int32) + -1 = 0 := by decide
        rw [e, Int32.add_zero]
      exact this
    · show upC (upC s4 0 59 (σ 0 59)) 0 60 (σ 0 58) 0 59 = _
      rw [rdA_ne (by decide), rdA_eq rfl]
    · rw [rdA_eq rfl]
    · have e9 : wcn (upC (upC s4 0 59 (σ 0 59)) 0 60 (σ 0 58)) = wcn s3 := by
        show ((s4 0 17)).toNatClampNeg = _
        rw [aw]; rfl
      rw [e9]
      have := c1 b hb
      omega
    · show Ch (s4 8) ((s4 0 58)).toInt B
      rw [ab]
      refine ch_w (fun b hb => ?_) C4
      rw [al.2, if_neg (c3 b hb)]
      rfl
    · -- heights
      have hf3 : (s3 0 12).toInt = 0 := by
        have : (s4 0 12).toInt = 0 := hf
        rw [a0 12] at this; exact this
      have hs3 : (s3 0 15).toInt = 0 := by
        have : (s4 0 15).toInt = 0 := hs
        rw [a0 15] at this; exact this
      obtain ⟨g1, t1, x1, -⟩ := ty_put1 (H' := 0) (L' := L + 2) (n := 2) (k := 18) (ty_rs hT h0 r1 wc1) (by rw [wc1]; exact h0) p2 rfl (by decide) rfl rfl (fun g' x hg hn hx => ⟨by omega, _, hn⟩)
      have x1' : Ext g g1 (wcn σ) := by
        have : wcn s1 = wcn σ := by unfold wcn; rw [wc1]
        rw [← this]; exact x1
      obtain ⟨g2', t2, x2, o2⟩ := sr3.2.2.1 g1 X E0 (L + 2) t1 hf3 hs3
      have xx : Ext g g2' (wcn σ) := ext_tr x1' x2 (by omega)
      have oB : ∀ b ∈ B, Hol (s3 8) g2' (L + 2) b := fun b hb => o2 b (List.mem_append.mpr (Or.inl hb))
      have oG : ∀ b ∈ G, Hol (s3 8) g2' (L + 2) b := fun b hb => o2 b (List.mem_append.mpr (Or.inr hb))
      have wB : ∀ q, q ∉ G → (s4 8) q = (s3 8) q := fun q hq => by rw [al.2, if_neg hq]; rfl
      have hBw : ∀ {gg : Gh} b, b ∈ B → Hol (s3 8) gg (L + 2) b → Hol (s4 8) gg (L + 2) b := fun {gg} b hb ⟨q, k, h1, h2, h3, h4, h5, h6⟩ => by
        refine ⟨q, k, h1, h2, h3, h4, ?_, h6⟩
        by_cases c : q ∈ G
        · -- no jump stands in a jump
          obtain ⟨q', k', d1, -, -, d2, -⟩ := oG q c
          have hbb := oB b hb
          obtain ⟨q9, k9, f1, f2, -, f3, f4, f5⟩ := hbb
          have : q9 = q := by omega
          subst this
          rw [← d1, f2] at d2
          cases d2
        · rw [wB q c]; exact h5
      have t3' : TY (upC s3 0 57 ((s3 0 57) - (1 : Int32))) g2' (Xh X (G ++ B)) E0 0 (L + 2) := ty_X (ty_rs t2 h03 (rs_f (rs_rf (vs := vs) hP3) (by omega)) rfl) (fun q hq => hq.imp id (fun h => List.mem_append.mpr ((List.mem_append.mp h).symm)))
      by_cases c : 0 ≤ tp.toInt
      · rw [if_pos c]
        obtain ⟨kT', e1, e2⟩ := htop c
        have eto : to = tp := by
          rcases hto with ⟨q, -⟩ | ⟨-, q⟩
          · omega
          · exact q
        have t4 := ty_aimall (T := tp.toInt.toNat) (kT := kT') t3' al (fun b hb => hol_le (oG b hb) (by omega)) (by rw [eto]; omega) (by rw [xx _ (by omega)]; exact e1) (fun b hb hb2 => c3 b hb2 hb) (fun b hb => hol_le (oB b hb) (by omega))
        exact ⟨g2', ty_rs t4 (by rw [aw]; exact h03) (rs_f (rs_f (rs_rf (vs := vs) r4.2.1) (by omega)) (by omega)) rfl, xx, fun b hb => hBw b hb (oB b hb)⟩
      · rw [if_neg c]
        have eto : to = (s3 0 17) := by
          rcases hto with ⟨-, q⟩ | ⟨q, -⟩
          · exact q
          · omega
        have t3'' := ty_low (L' := L + 1) t3' (by omega)
        have en : wcn (upC s3 0 57 ((s3 0 57) - (1 : Int32))) = wcn s3 := rfl
        rw [en] at t3''
        have bl : ∀ b ∈ B, b < wcn s3 := fun b hb => (c1 b hb).2
        have gl : ∀ b ∈ G, b < wcn s3 := fun b hb => (c2 b hb).2
        have t4 := ty_aimall (T := wcn s3) (kT := L + 1) t3'' al (fun b hb => hol_low (oG b hb) (gl b hb)) (by rw [eto]; exact n3.symm) (if_pos rfl) (fun b hb hb2 => c3 b hb2 hb) (fun b hb => hol_le (hol_low (oB b hb) (bl b hb)) (by omega))
        refine ⟨_, ty_rs t4 (by rw [aw]; exact h03) (rs_f (rs_f (rs_rf (vs := vs) r4.2.1) (by omega)) (by omega)) rfl, fun q hq => ?_, fun b hb => hBw b hb (hol_low (oB b hb) (bl b hb))⟩
        have m3' := rs_wcn sr3.1 h02
        show (if q = wcn s3 then _ else _) = _
        rw [if_neg (by omega)]
        exact xx q hq
  exact ⟨fun to => (tp.toInt < 0 ∧ to = (s3 0 17)) ∨ (0 ≤ tp.toInt ∧ to = tp), fun to h => hto to h, fun c => Or.inl ⟨c, rfl⟩, fun c => Or.inr ⟨c, rfl⟩⟩
end LOO
