/-! do -/
def SSd (K : Int32 → KZ) (d n : Int) : Prop := ∀ (a tk : Int32) (σ τ : St) (vs : List Nat) (Q T : St → St → List Nat → Prop), a.toInt = d → PA σ τ → PSt σ → NB σ vs → (0 ≤ tk.toInt ∧ tk.toInt < 16002) → kd σ = n → (∀ s t z, PQ σ vs s t z → Q s t z) → (∀ s t z, RTt σ vs s t z → T s t z) → K a tk σ τ vs Q T
section DOO
variable {σ s s' τ t t' : St} {vs z z' : List Nat} {g g' : Gh} {X X' : Nat → Prop} {E0 H L : Nat}
theorem ts_do {s0 s1 s1p s2 s3 s4 : St} {tp : Int32} {B : List Nat} (h0 : 0 ≤ (s0 0 17).toInt) (ht : tp.toInt = (s0 0 17).toInt) (hl : LT s0 s1 (-1) B) (w1 : (s0 0 17).toInt ≤ (s1 0 17).toInt) (hb : ∀ b ∈ B, wcn s0 < b ∧ b < wcn s1) (e1 : RSt s1 vs s1p t z) (e1w : (s1p 0 17) = (s1 0 17)) (e1x : ∀ q, (s1p 8) q = (s1 8) q) (c2 : TE s1p s2 501 0 1) (w2 : (s1p 0 17).toInt ≤ (s2 0 17).toInt) (r2 : RW s1p s2) (p3 : PU s2 s3 [17, tp]) (al : ALx s3 s4 B (s3 0 17)) (f1 : OF s1 s2) (l1 : (s2 0 15) = (s1 0 15)) (f3 : OF s2 s3) (l3 : (s3 0 15) = (s2 0 15)) : TSt s0 s4 0 0 [] [] := by
  intro g X E0 L hT hf hs
  have a0 : ∀ j, s4 0 j = s3 0 j := fun j => al.1 0 j rfl rfl
  have W1 : (s1p 0 17).toInt = (s1 0 17).toInt := by rw [e1w]
  have W3 : (s3 0 17).toInt = (s2 0 17).toInt + 2 := p3.2.1
  have n0 : (wcn s0 : Int) = (s0 0 17).toInt := nt h0
  have n1 : (wcn s1 : Int) = (s1 0 17).toInt := nt (by omega)
  have n1p : wcn s1p = wcn s1 := by unfold wcn; rw [e1w]
  have n2 : (wcn s2 : Int) = (s2 0 17).toInt := nt (by omega)
  have n3 : (wcn s3 : Int) = (s3 0 17).toInt := nt (by omega)
  have hf3 : (s3 0 12).toInt = 0 := by rw [← a0 12]; exact hf
  have hs3 : (s3 0 15).toInt = 0 := by rw [← a0 15]; exact hs
  have hf2 := of0 f3 hf3
  have hs2 : (s2 0 15).toInt = 0 := by rw [← l3]; exact hs3
  have hf1 := of0 f1 hf2
  have hs1 : (s1 0 15).toInt = 0 := by rw [← l1]; exact hs2
  obtain ⟨g1, t1, x1, o1⟩ := hl g X E0 L hT (fun c => absurd c (by decide)) hf1 hs1
  rw [if_neg (by decide)] at t1
  obtain ⟨g2, t2, x2⟩ := c2 g1 (Xh X B) E0 0 (L + 1) (by rw [Nat.zero_add]; exact ty_rs t1 (by omega) e1 e1w) (by omega) hf2 hs2
  rw [Nat.zero_add] at t2
  rw [n1p] at x2
  have top0 : g2 (wcn s0) = some (0, L) := by rw [x2 _ (by omega), x1 _ (Nat.le_refl _)]; exact hT.2.1
  obtain ⟨g3, t3, x3, -⟩ := ty_put1 (H' := 0) (L' := L) (n := 2) (k := 17) t2 (by omega) p3 rfl (by decide) rfl rfl (fun g' x hg9 hn hx => by
    have e : x = (wcn s0 : Int) := by rw [hx _ rfl, ht]; exact n0.symm
    rw [e]
    exact ⟨by omega, by omega, ⟨by omega, L, by rw [Int.toNat_natCast]; exact hg9 _ _ top0, Or.inl (by omega)⟩, ⟨by omega, L, hn, Or.inl (by omega)⟩⟩)
  have oB : ∀ b ∈ B, Hol (s3 8) g3 (L + 2) b := fun b hb9 => ho_mono (n := wcn s1) (ho_mono (n := wcn s1) (o1 b hb9) (hb b hb9).2 x2 (fun q hq => by rw [r2 q (by omega), e1x])) (hb b hb9).2 (fun q hq => x3 q (by omega)) (fun q hq => p3.2.2.1 q (by omega))
  have t4 := ty_aimall (G := []) (T := wcn s3) (kT := L) (ty_X t3 (fun q hq => hq.imp id (fun h => by rw [List.append_nil]; exact h))) al (fun b hb9 => hol_le (oB b hb9) (by omega)) n3.symm t3.2.1 (fun b _ => List.not_mem_nil) (fun b hb9 => absurd hb9 List.not_mem_nil)
  exact ⟨g3, ty_X t4 (fun q hq => Or.inl (hq.elim id (fun c => absurd c List.not_mem_nil))), ext_tr (ext_tr x1 x2 (by omega)) x3 (by omega), fun b hb9 => absurd hb9 List.not_mem_nil⟩
theorem sp_do {k1 k2 k3 : KZ} {k4 : KL} {k5 k6 : Int32 → KZ} {d : Int} (hL : SSl k4 d) : SSd (wp_doStatement k1 k2 k3 k4 k5 k6) d 12 := by
  intro a tk σ τ vs Q T had hP hS hB htk hk kQ kT
  unfold wp_doStatement
  have h0 := hP.2.2.1.2.2.2.2.1
  obtain ⟨rn, pn, wn, icn⟩ := rl_nxt (vs := vs) hP (by omega)
  have hPn := rn.2.1
  have h0n := hPn.2.2.1.2.2.2.2.1
  have hBn : NB (nxt σ) vs := nb_of hB rn (by omega) (by omega) (by omega)
  have szn := rl_sz rn
  have hbb : ((nxt σ) 0 17).toInt + 2 + 40 * (((nxt σ) 0 9).toInt - pos (nxt σ)) ≤ 410000 := by
    obtain ⟨b1, -⟩ := hB
    rw [szn]; omega
  rw [show upC σ 0 10 ((σ 0 10) + (1 : Int32)) = nxt σ from rfl]
  refine hL a tk (-1) (nxt σ) τ vs _ T had hPn (ps_rs hS (rs_rl rn)) hBn hbb htk (by have : ((-1 : Int32)).toInt = -1 := by decide
                                                                                     rw [this]; omega) (fun s1 t1 z1 lq => ?_) (fun s' t' z' hs => kT _ _ _ (rt_rs (rs_rl rn) (by omega) hs))
  obtain ⟨r1, nc1, p1, lo1, go1, ob1, B, hBb, hC, hLT⟩ := lq
  have hP1 := r1.2.1
  have h01 := hP1.2.2.1.2.2.2.2.1
  have rs1 := rs_tr (rs_rl rn) r1
  have ncn : NCt σ vs (nxt σ) vs 40 := ⟨by omega, by omega, by omega⟩
  have nc01 := nct_tr ncn nc1
  have r1' : RSt s1 z1 (upC s1 0 58 (s1 0 60)) t1 z1 := rs_f (rs_rf hP1) (by omega)
  have w1' : ((upC s1 0 58 (s1 0 60)) 0 17) = (s1 0 17) := rfl
  have x1' : ∀ q, ((upC s1 0 58 (s1 0 60)) 8) q = (s1 8) q := fun _ => rfl
  have b1' : ((upC s1 0 58 (s1 0 60)) 0 58) = ((nxt σ) 0 58) := by rw [rdA_eq rfl]; exact ob1
  have g1' : ((upC s1 0 58 (s1 0 60)) 0 59) = (s1 0 59) := rfl
  have l1' : ((upC s1 0 58 (s1 0 60)) 0 57) = (s1 0 57) := rfl
  have f1' : ((upC s1 0 58 (s1 0 60)) 0 12) = (s1 0 12) := rfl
  have si1' : ((upC s1 0 58 (s1 0 60)) 0 15) = (s1 0 15) := rfl
  have ps1' : pos (upC s1 0 58 (s1 0 60)) = pos s1 := rfl
  have ic1' : ((upC s1 0 58 (s1 0 60)) 0 39) = (s1 0 39) := rfl
  have at1' : ((upC s1 0 58 (s1 0 60)) 0 10) = (s1 0 10) := rfl
  have rsA := rs_tr rs1 r1'
  have ncA : NCt σ vs (upC s1 0 58 (s1 0 60)) z1 38 := nc01
  rw [show (upC (upC s1 0 58 (s1 0 60)) 0 10 ((s1 0 10) + (1 : Int32))) = nxt (upC s1 0 58 (s1 0 60)) from rfl]
  generalize (upC s1 0 58 (s1 0 60)) = s1p at *
  have hPp := r1'.2.1
  have h0p := hPp.2.2.1.2.2.2.2.1
  have cut : ∀ s' t' z', RTt s1p z1 s' t' z' → T s' t' z' := fun s' t' z' hs => kT _ _ _ (rt_rs rsA ncA.2.2 hs)
  refine sp_isWord hPp (fun hk2 => ⟨fun _ => ?_, no1⟩) (fun _ => ⟨no0, fun _ => sp_wrong hPp (fun s' hs => cut _ _ _ (rt_rtx hs))⟩)
  have hk2' : kd s1p = 11 := hk2
  obtain ⟨ro, po, wo, ico⟩ := rl_nxt (vs := z1) hPp (by omega)
  have rsB := rs_tr rsA (rs_rl ro)
  obtain ⟨m1, m2, m3⟩ := ncA
  have ncB : NCt σ vs (nxt s1p) z1 78 := ⟨by omega, by omega, by omega⟩
  have htk1 := at_tok hPp.1 hPp.2.1
  rw [at1'] at htk1
  refine sp_condition ro.2.1 (nct_nb hB rsB ncB (by omega)) htk1 (fun s2 t2 z2 r2 nc2 te2 => ?_) (fun s' t' z' hs => kT _ _ _ (rt_rs rsB (by omega) (rt_rtx hs)))
  have rsC := rs_tr rsB (rs_rl r2)
  have ncC := nct_tr ncB nc2
  have hP2 := r2.2.1
  refine sp_expect hP2 (by decide) (fun hk3 rq pq wq icq => ?_) (fun s' hs => kT _ _ _ (rt_rs rsC ncC.2.2 (rt_rtx hs)))
  have hPq := rq.2.1
  have h0q := hPq.2.2.1.2.2.2.2.1
  have rsD := rs_tr rsC (rs_rl rq)
  obtain ⟨q1, q2, q3⟩ := ncC
  have ncD : NCt σ vs (nxt s2) z2 138 := ⟨by omega, by omega, by omega⟩
  have hcD := nb_cap (nct_nb hB rsD ncD (by omega)) hPq
  refine sp_put_1 h0q (by omega) (fun s3 p3 => ?_)
  have rl3 := rl_pu (vs := z2) (z := z2) hPq p3 hPq.2.2.2.2 (fun _ h => h) (Nat.le_refl _)
  have rs3 := rs_tr rsD (rs_rl rl3)
  have W3 : (s3 0 17).toInt = ((nxt s2) 0 17).toInt + 2 := p3.2.1
  have P3 := pos_sq (sq_pu p3)
  have I3 := ic_sq (sq_pu p3)
  have n0 : (wcn σ : Int) = (σ 0 17).toInt := nt h0
  have n0n : (wcn (nxt σ) : Int) = ((nxt σ) 0 17).toInt := nt h0n
  have n1 : (wcn s1 : Int) = (s1 0 17).toInt := nt h01
  have mw2 := r2.2.2.2.2.2.1
  have W1p : (s1p 0 17).toInt = (s1 0 17).toInt := by rw [w1']
  have rwAll : ∀ q : Nat, (q : Int) < (s1 0 17).toInt → (s3 8) q = (s1 8) q := fun q hq => by
    rw [p3.2.2.1 q (by omega)]
    show (s2 8) q = _
    rw [r2.2.2.1 q (by omega)]
    show (s1p 8) q = _
    exact x1' q
  have C3 : Ch (s3 8) (s1 0 58).toInt B := ch_w (fun b hb => rwAll b (by have := (hBb b hb).2; omega)) hC
  have mw1 := r1.2.2.2.2.2.1
  refine sp_aimAll C3 (fun b hb => by have := (hBb b hb).2; omega) (fun s4 al => ?_)
  have rs4 := rs_al rs3 al (fun b hb => by have := (hBb b hb).1; omega) h0
  have a0 : ∀ j, s4 0 j = s3 0 j := fun j => al.1 0 j rfl rfl
  have nc3 : NCt σ vs s3 z2 0 := by
    obtain ⟨d1, d2, d3⟩ := ncD
    exact ⟨by rw [P3]; omega, by rw [I3, P3]; exact d2, by rw [P3]; exact d3⟩
  obtain ⟨nc4, P4⟩ := nct_al nc3 al
  have fr : ∀ j, j = 58 ∨ j = 59 ∨ j = 57 → s4 0 j = s1p 0 j := fun j hj => by
    rw [a0 j]
    rcases hj with rfl | rfl | rfl
    · rw [p3.1 0 58 rfl rfl, rq.1 0 58 rfl rfl, r2.1 0 58 rfl rfl]; exact ro.1 0 58 rfl rfl
    · rw [p3.1 0 59 rfl rfl, rq.1 0 59 rfl rfl, r2.1 0 59 rfl rfl]; exact ro.1 0 59 rfl rfl
    · rw [p3.1 0 57 rfl rfl, rq.1 0 57 rfl rfl, r2.1 0 57 rfl rfl]; exact ro.1 0 57 rfl rfl
  have eB : (s4 0 58) = (σ 0 58) := by rw [fr 58 (by omega), b1']; rfl
  have eG : (s4 0 59) = (σ 0 59) := by rw [fr 59 (by omega), g1', go1]; rfl
  have eL : (s4 0 57) = (σ 0 57) := by rw [fr 57 (by omega), l1', lo1]; rfl
  have te : TE s1p (nxt s2) 501 0 1 := te_rl h0p (rl_tr ro r2) rq (te_rl h0p ro r2 (te_nxt h0p ro) te2) (te_nxt hP2.2.2.1.2.2.2.2.1 rq)
  have rr := rl_tr (rl_tr ro r2) rq
  have ts := ts_do (vs := z1) (s0 := nxt σ) (tp := σ 0 17) h0n rfl hLT mw1 hBb r1' w1' x1' te rr.2.2.2.2.2.1 rr.2.2.1 p3 al (of_tr (of_eq f1') rr.2.2.2.2.1) ((rl_sil rr).trans si1') rl3.2.2.2.2.1 (p3.1 0 15 rfl rfl)
  refine kQ _ _ _ ⟨[], [], ⟨rs4, chn_no h0 rs4.2.2.1 eB eG, fun g X E0 L hT hf hs => ?_, eL, fun _ _ _ => ⟨rfl, rfl⟩⟩, nc4, by omega⟩
  exact ts g X E0 L (ty_same hT h0 rfl rn.2.2.1 (ev_ke rn.1 rn.2.2.2.1)) hf hs
end DOO
