/-! conditions, expressions as statements, return -/
section ST2
variable {σ s s' τ t t' : St} {vs z z' : List Nat} {g g' : Gh} {X X' : Nat → Prop} {E0 H L : Nat}
theorem ty_ext2 (h : TY σ g X E0 H L) (h0 : 0 ≤ (σ 0 17).toInt) {n H' L' : Nat} (hn : 0 < n) (hw : (s 0 17).toInt = (σ 0 17).toInt + n) (hr : RW σ s) (he : EV σ s) (hX : ∀ q, X q → X' q)
    (ho : ∀ g', (∀ q v, g q = some v → g' q = some v) → g' (wcn σ) = some (H, L) → g' (wcn σ + n) = some (H', L') → ¬ X' (wcn σ) → OKc s g' (wcn σ) H L) :
    ∃ g', TY s g' X' E0 H' L' ∧ Ext g g' (wcn σ) ∧ ∀ q, wcn σ < q → q < wcn σ + n → g' q = none := by
  have e0 : (wcn σ : Int) = (σ 0 17).toInt := nt h0
  have e1 : (wcn s : Int) = (s 0 17).toInt := nt (by omega)
  have en : wcn s = wcn σ + n := by omega
  obtain ⟨h1, h2, h3, h4, h5⟩ := h
  have hg : ∀ q v, g q = some v → (fun q => if q = wcn σ + n then some (H', L') else g q : Gh) q = some v := fun q v hv => by
    show (if q = wcn σ + n then _ else _) = _
    rw [if_neg, hv]
    intro e
    rw [h3 q (by omega)] at hv
    cases hv
  refine ⟨fun q => if q = wcn σ + n then some (H', L') else g q, ⟨by omega, by rw [en]; exact if_pos rfl, fun q hq => ?_, fun q hq => ?_, fun q h k hq hlt hx => ?_⟩, fun q hq => if_neg (by omega), fun q q1 q2 => ?_⟩
  · show (if q = wcn σ + n then _ else _) = _
    rw [if_neg (by omega)]
    exact h3 q (by omega)
  · show (if q = wcn σ + n then _ else _) = _
    rw [if_neg (by omega)]
    exact h4 q hq
  · have hq' : g q = some (h, k) := by
      have hq9 : (if q = wcn σ + n then some (H', L') else g q) = some (h, k) := hq
      rw [if_neg (by omega)] at hq9
      exact hq9
    by_cases q2 : q = wcn σ
    · subst q2
      rw [h2] at hq'
      cases hq'
      exact ho _ hg (hg _ _ h2) (if_pos rfl) hx
    · have q3 : q < wcn σ := by
        by_cases q4 : q < wcn σ
        · exact q4
        · rw [h3 q (by omega)] at hq'
          cases hq'
      refine okc_mono he (hr q (by omega)) ?_ hg (h5 q h k hq' q3 (fun z => hx (hX _ z)))
      by_cases q4 : q + 1 < wcn σ
      · exact Or.inr (hr _ (by omega))
      · exact Or.inl (fun p hp => h3 p (by omega))
  · show (if q = wcn σ + n then _ else _) = _
    rw [if_neg (by omega)]
    exact h3 q q1
/-- one instruction, and what stands behind it -/
theorem ty_put1 {ws : List Int32} {op : Int32} {n k H' L' : Nat} (h : TY σ g X E0 H L) (h0 : 0 ≤ (σ 0 17).toInt) (p : PU σ s ws) (hn : ws.length = n) (hn0 : 0 < n) (hop : ws[0]? = some op) (hk : op.toInt = k)
    (ho : ∀ (g' : Gh) (x : Int), (∀ q v, g q = some v → g' q = some v) → g' (wcn σ + n) = some (H', L') → (∀ v, ws[1]? = some v → x = v.toInt) → OPn k x g' (s 0 49).toInt ((s 0 55) ≠ 0) (CO s) (wcn σ) H L) : ∃ g', TY s g' X E0 H' L' ∧ Ext g g' (wcn σ) ∧ ∀ q, wcn σ < q → q < wcn σ + n → g' q = none := by
  have e1 : (s 8) (wcn σ) = op := p.2.2.2 0 op hop
  refine ty_ext2 (X' := X) h h0 hn0 (by rw [p.2.1, hn]) p.2.2.1 (ev_pu p) (fun _ h => h) (fun g' hg c1 c2 hx => ?_)
  have e3 : op.toInt.toNat = k := by omega
  refine ⟨by rw [e1]; omega, ?_⟩
  rw [e1, e3]
  exact ho g' _ hg c2 (fun v hv => by rw [p.2.2.2 1 v hv])
def NCt (σ : St) (vs : List Nat) (s : St) (z : List Nat) (c : Int) : Prop := (s 0 17).toInt + c ≤ (σ 0 17).toInt + 40 * (pos s - pos σ) ∧ (s 0 39).toInt ≤ (σ 0 39).toInt + 12 * (pos s - pos σ) ∧ (z.length : Int) ≤ vs.length + 2 * (pos s - pos σ)
theorem nct_le {c d : Int} (h : NCt σ vs s z c) (hd : d ≤ c) : NCt σ vs s z d := ⟨by have := h.1; omega, h.2⟩
theorem nct_tr {c d : Int} (h : NCt σ vs s z c) (g : NCt s z s' z' d) : NCt σ vs s' z' (c + d) := by
  obtain ⟨h1, h2, h3⟩ := h
  obtain ⟨g1, g2, g3⟩ := g
  exact ⟨by omega, by omega, by omega⟩
theorem nct_nb {c : Int} (h : NB σ vs) (r : RSt σ vs s t z) (n : NCt σ vs s z c) (hc : 0 ≤ c) : NB s z := rs_nb h r (by have := n.1; omega) n.2.1 n.2.2
theorem nct_rf : NCt σ vs σ vs 0 := ⟨by omega, by omega, by omega⟩
/-- what statements stand on beside -/
def PSt (σ : St) : Prop := (σ 0 15).toInt = 0 ∧ ((σ 0 55) = 0 → (σ 0 56).toInt ≠ -1)
theorem ps_rs (h : PSt σ) (r : RSt σ vs s t z) : PSt s := by
  have e1 := rs_sil r
  have e2 : (s 0 55) = (σ 0 55) := r.1 _ _ rfl rfl
  have e3 : (s 0 56) = (σ 0 56) := r.1 _ _ rfl rfl
  unfold PSt
  rw [e1, e2, e3]
  exact h
theorem sp_condition {tk : Int32} {Q T : St → St → List Nat → Prop} (h : PA σ τ) (hB : NB σ vs) (ht : 0 ≤ tk.toInt ∧ tk.toInt < 16002) (k : ∀ s t z, RL σ vs s t z → NCt σ vs s z 60 → TE σ s 501 0 1 → Q s t z) (kT : ∀ s t z, RTx σ vs s t z → T s t z) : wp_condition tk σ τ vs Q T := by
  have h0 := h.2.2.1.2.2.2.2.1
  unfold wp_condition
  refine sp_expect h (by decide) (fun hk rn pn wn icn => ?_) (fun s hs => kT _ _ _ hs)
  have hBn : NB (nxt σ) vs := nb_of hB rn (by omega) (by omega) (by omega)
  refine sx_expr 1 (nxt σ) τ vs _ T (by decide) rn.2.1 hBn (fun u s t z r => ?_) (fun s' t' z' hs => kT _ _ _ (rt_of rn (by omega) hs))
  refine sp_read r.1.2.1 (re_nb hBn r) r.2.2.1.1 (fun s2 hrd => ?_)
  obtain ⟨g1, g2, g3, g4, g5, g6, g7, g8⟩ := re_read rn.2.1 r hrd (by omega)
  have r2 := rl_tr rn g1
  have hP2 := g1.2.1
  refine sp_expect hP2 (by decide) (fun hk2 ro po wo ico => ?_) (fun s hs => kT _ _ _ (rt_of r2 (by omega) hs))
  have r3 := rl_tr r2 ro
  have hP3 := ro.2.1
  have hu := r.2.2.1.1
  have fin : ∀ y : Int32, (y.toInt ≠ 0 → (upC t u 1 (0 : Int32) u 0).toInt ≠ -1) → wp_must y tk (nxt s2) (upC t u 1 (0 : Int32)) z (fun s29 t29 z29 => Q s29 t29 z29) := fun y hy => by
    refine sp_must ht (fun s4 hs hf => ?_)
    have sq := sq_tl hs
    have rC := sq_rl (vs := z) hP3 sq
    have P4 := pos_sq sq
    have I4 : (s4 0 39).toInt = ((nxt s2) 0 39).toInt := by rw [ic_sq sq]
    have W4 : (s4 0 17).toInt ≤ ((nxt s2) 0 17).toInt + 0 := sq.2.2.2.2
    refine k _ _ _ (rl_tr r3 rC) ⟨by omega, by omega, by omega⟩ ?_
    refine te_if (P := (upC t u 1 (0 : Int32) u 0).toInt ≠ -1) (fun f1 f2 => hy (hf f1 f2)) (fun c => ?_)
    have eu : ev (upC t u 1 (0 : Int32)) u = 1 := ev_st (by rw [rdA, if_pos rfl]; rfl) c
    rw [eu] at g6
    have h03 := hP3.2.2.1.2.2.2.2.1
    exact te_rl h0 r3 rC (te_rl h0 r2 ro (te_rl h0 rn g1 (te_nxt h0 rn) g6) (te_nxt hP2.2.2.1.2.2.2.2.1 ro)) (te_tl h03 hs)
  exact sp_isAny hu (fun c => fin 1 (fun _ => by omega)) (fun _ => fin 0 no0)
theorem sp_plain {Q T : St → St → List Nat → Prop} (h : PA σ τ) (hB : NB σ vs) (k : ∀ s t z, RL σ vs s t z → NCt σ vs s z 10 → pos σ < pos s → TE σ s 501 0 0 → Q s t z) (kT : ∀ s t z, RTx σ vs s t z → T s t z) : wp_plain σ τ vs Q T := by
  have h0 := h.2.2.1.2.2.2.2.1
  unfold wp_plain
  refine sx_expr 1 σ τ vs _ T (by decide) h hB (fun u s t z r => ?_) kT
  have q1 := r.2.2.2.2.1
  have q2 := r.2.2.2.2.2.1
  have q3 := r.2.2.2.2.2.2.1
  have q4 := r.1.2.2.2.2.2.1
  have hPs := r.1.2.1
  unfold wp_read_2
  refine ⟨r.2.2.1.1, fun c => ?_, fun c => ?_⟩
  · refine sp_read hPs (re_nb hB r) r.2.2.1.1 (fun s2 hrd => ⟨fun c2 => absurd rfl c2, fun _ => ?_⟩)
    obtain ⟨g1, g2, g3, g4, g5, g6, g7, g8⟩ := re_read h r hrd (by omega)
    have hP2 := g1.2.1
    have h02 := hP2.2.2.1.2.2.2.2.1
    have hc2 := nb_cap (nb_of hB g1 (by omega) (by omega) g5) hP2
    refine sp_put_0 h02 (by omega) (fun s3 p3 => ?_)
    have sq := sq_pu p3
    have rC := sq_rl (vs := z) hP2 sq
    have P3 := pos_sq sq
    have I3 : (s3 0 39).toInt = (s2 0 39).toInt := by rw [ic_sq sq]
    have W3 : (s3 0 17).toInt = (s2 0 17).toInt + 1 := p3.2.1
    refine k _ _ _ (rl_tr g1 rC) ⟨by omega, by omega, by omega⟩ (by omega) ?_
    have eu : ev (upC t u 1 (0 : Int32)) u = 1 := ev_st (by rw [rdA, if_pos rfl]; rfl) (by rw [rdA, if_neg (by decide)]; exact c)
    rw [eu] at g6
    refine te_rl h0 g1 rC g6 (te_put (n := 1) h02 p3 rfl (by decide) rfl (k := 10) rfl (fun g' H L x hH hn hx => ⟨by omega, ?_⟩) (by omega))
    have e9 : H + 1 - 1 = H + 0 := by omega
    rw [e9]; exact hn
  · have hh : (t u 1).toInt = 0 := by
      have := (hPs.2.2.2.2 u).2.2.2.2.1
      by_cases e : (t u 1).toInt = 0
      · exact e
      · exact absurd c (this e)
    have e9 : ev t u = 0 := by
      unfold ev
      rw [if_neg (by omega), if_pos c]
    have te := r.2.2.2.2.2.2.2
    rw [e9] at te
    exact k _ _ _ r.1 ⟨by omega, by omega, by omega⟩ (by omega) te
theorem sp_return {tk : Int32} {Q T : St → St → List Nat → Prop} (h : PA σ τ) (hS : PSt σ) (hB : NB σ vs) (ht : 0 ≤ tk.toInt ∧ tk.toInt < 16002) (hk : kd σ = 16) (k : ∀ s t z, SRt σ vs 0 0 s t z [] [] → NCt σ vs s z 0 → pos σ < pos s → Q s t z) (kT : ∀ s t z, RTx σ vs s t z → T s t z) : wp_returnStatement tk σ τ vs Q T := by
  have h0 := h.2.2.1.2.2.2.2.1
  unfold wp_returnStatement
  obtain ⟨rn, pn, wn, icn⟩ := rl_nxt (vs := vs) h (by omega)
  have hPn := rn.2.1
  have h0n := hPn.2.2.1.2.2.2.2.1
  have hBn : NB (nxt σ) vs := nb_of hB rn (by omega) (by omega) (by omega)
  have hcn := nb_cap hBn hPn
  rw [show upC σ 0 10 ((σ 0 10) + (1 : Int32)) = nxt σ from rfl]
  have fin : ∀ (s t : St) (z : List Nat), RL σ vs s t z → NCt σ vs s z 0 → pos σ < pos s → (∀ g X E0 L, TY σ g X E0 0 L → (s 0 12).toInt = 0 → (s 0 15).toInt = 0 → ∃ g', TY s g' X E0 0 L ∧ Ext g g' (wcn σ)) → wp_expect (27 : Int32) s t z (fun s85 t85 z85 => Q s85 t85 z85) T := fun s t z r hn hp hty => by
    refine sp_expect r.2.1 (by decide) (fun hk2 ro po wo ico => ?_) (fun s hs => kT _ _ _ (rt_of r hn.2.2 hs))
    have rF := rl_tr r ro
    refine k _ _ _ ⟨rs_rl rF, chn_no h0 rF.2.2.1 (rF.1 0 58 rfl rfl) (rF.1 0 59 rfl rfl), fun g X E0 L hT hf hs => ?_, rF.1 0 57 rfl rfl, fun _ _ _ => ⟨rfl, rfl⟩⟩ ⟨by have := hn.1; omega, by have := hn.2.1; omega, by have := hn.2.2; omega⟩ (by omega)
    obtain ⟨g1, t1, x1⟩ := hty g X E0 L hT (of0 ro.2.2.2.2.1 hf) (by rw [← rl_sil ro]; exact hs)
    refine ⟨g1, ty_X (ty_same t1 r.2.1.2.2.1.2.2.2.2.1 rfl ro.2.2.1 (ev_ke ro.1 ro.2.2.2.1)) (fun q hq => Or.inl hq), x1, fun b hb => absurd hb List.not_mem_nil⟩
  refine sp_is hPn (fun hk2 => ?_) (fun hk2 => ?_)
  · refine ⟨fun s t z => RL σ vs s t z ∧ NCt σ vs s z 0 ∧ pos σ < pos s ∧ (∀ g X E0 L, TY σ g X E0 0 L → (s 0 12).toInt = 0 → (s 0 15).toInt = 0 → ∃ g', TY s g' X E0 0 L ∧ Ext g g' (wcn σ)), fun s t z ⟨h1, h2, h3, h4⟩ => fin s t z h1 h2 h3 h4, no1, fun _ => sp_must ht (fun s1 hs hf => ?_)⟩
    have sq1 := sq_tl hs
    have w1 := sq_wc sq1 h0n
    refine sp_put_0 w1.1 (by omega) (fun s2 p2 => ?_)
    have sq2 := sq_tr sq1 (sq_pu p2)
    have rC := sq_rl (vs := vs) hPn sq2
    have P2 := pos_sq sq2
    have I2 : (s2 0 39).toInt = ((nxt σ) 0 39).toInt := by rw [ic_sq sq2]
    have W2 := (sq_wc sq2 h0n).2.1
    simp only [List.length_cons, List.length_nil] at W2
    refine ⟨rl_tr rn rC, ⟨by omega, by omega, by omega⟩, by omega, fun g X E0 L hT hf2 hs2 => ?_⟩
    have hv := hf (of0 (sq_pu p2).2.1 hf2) (sil_sq (sq_pu p2) hs2)
    have t0 : TY (nxt σ) g X E0 0 L := ty_same hT h0 rfl rn.2.2.1 (ev_ke rn.1 rn.2.2.2.1)
    have t1 : TY s1 g X E0 0 L := ty_same t0 h0n (hs.1 0 17 rfl rfl) sq1.2.2.1 (ev_ke (sq_rl (vs := vs) hPn sq1).1 (sq_rl (vs := vs) hPn sq1).2.2.2.1)
    obtain ⟨g2, t2, x2, -⟩ := ty_put1 (H' := 0) (L' := L) (n := 1) (k := 20) t1 w1.1 p2 rfl (by decide) rfl rfl (fun g' x hg hn hx => ⟨rfl, fun e => hv (by
      have e1 : (s2 0 55) = ((nxt σ) 0 55) := sq2.1 0 55 rfl rfl
      have e2 : ((nxt σ) 0 55) = (σ 0 55) := rfl
      rw [e1, e2] at e
      rw [e]; rfl)⟩)
    have e9 : wcn s1 = wcn σ := by
      have a1 : (s1 0 17) = ((nxt σ) 0 17) := hs.1 0 17 rfl rfl
      unfold wcn
      rw [a1]; rfl
    rw [e9] at x2
    exact ⟨g2, t2, x2⟩
  · refine ⟨fun s t z => RL σ vs s t z ∧ NCt σ vs s z 0 ∧ pos σ < pos s ∧ (∀ g X E0 L, TY σ g X E0 0 L → (s 0 12).toInt = 0 → (s 0 15).toInt = 0 → ∃ g', TY s g' X E0 0 L ∧ Ext g g' (wcn σ)), fun s t z ⟨h1, h2, h3, h4⟩ => fin s t z h1 h2 h3 h4, fun _ => ?_, no0⟩
    refine sx_expr 1 (nxt σ) τ vs _ T (by decide) hPn hBn (fun u s t z r => ?_) (fun s' t' z' hs => kT _ _ _ (rt_of rn (by omega) hs))
    refine sp_read r.1.2.1 (re_nb hBn r) r.2.2.1.1 (fun s2 hrd => ?_)
    obtain ⟨g1, g2, g3, g4, g5, g6, g7, g8⟩ := re_read hPn r hrd (by omega)
    have r2 := rl_tr rn g1
    have hP2 := g1.2.1
    have h02 := hP2.2.2.1.2.2.2.2.1
    have hu := r.2.2.1.1
    have hc2 := nb_cap (nb_of hBn g1 (by omega) (by omega) g5) hP2
    have m2 := g1.2.2.2.2.2.2.2.1
    have eV : (s2 0 55) = (σ 0 55) := r2.1 0 55 rfl rfl
    have eR : (s2 0 56) = (σ 0 56) := r2.1 0 56 rfl rfl
    refine ⟨fun y => y.toInt ≠ 0 → (s2 0 55) = 0 ∧ (upC t u 1 (0 : Int32) u 0).toInt ≠ -1, fun y _ hy => sp_must ht (fun s3 hs hf => ?_), ⟨True, fun _ => no0, fun _ => trivial, fun c => sp_fits hu (fun c2 => ⟨no1, fun _ _ => ⟨ieq c, ?_⟩⟩) ⟨fun _ => trivial, no0⟩⟩⟩
    · have sq1 := sq_tl hs
      have w1 := sq_wc sq1 h02
      refine sp_put_0 w1.1 (by omega) (fun s4 p4 => ?_)
      have sq2 := sq_tr sq1 (sq_pu p4)
      have rC := sq_rl (vs := z) hP2 sq2
      have P4 := pos_sq sq2
      have I4 : (s4 0 39).toInt = (s2 0 39).toInt := by rw [ic_sq sq2]
      have W4 := (sq_wc sq2 h02).2.1
      simp only [List.length_cons, List.length_nil] at W4
      refine ⟨rl_tr r2 rC, ⟨by omega, by omega, by omega⟩, by omega, fun g X E0 L hT hf4 hs4 => ?_⟩
      have hv := hy (hf (of0 (sq_pu p4).2.1 hf4) (sil_sq (sq_pu p4) hs4))
      have eu : ev (upC t u 1 (0 : Int32)) u = 1 := ev_st (by rw [rdA, if_pos rfl]; rfl) hv.2
      rw [eu] at g6
      have te : TE σ s3 501 0 1 := te_rl h0 r2 (sq_rl (vs := z) hP2 sq1) (te_rl h0 rn g1 (te_nxt h0 rn) g6) (te_tl h02 hs)
      obtain ⟨g5', t5, x5⟩ := te g X E0 0 L (by rw [Nat.zero_add]; exact hT) (by omega) (of0 (sq_pu p4).2.1 hf4) (sil_sq (sq_pu p4) hs4)
      rw [Nat.zero_add] at t5
      obtain ⟨g7', t7, x7, -⟩ := ty_put1 (H' := 0) (L' := L) (n := 1) (k := 21) t5 w1.1 p4 rfl (by decide) rfl rfl (fun g' x hg hn hx => ⟨rfl, fun e => e (by
        have e1 : (s4 0 55) = (s2 0 55) := sq2.1 0 55 rfl rfl
        rw [e1]; exact hv.1)⟩)
      refine ⟨g7', t7, ext_tr x5 x7 ?_⟩
      have := rl_wcn (rl_tr r2 (sq_rl (vs := z) hP2 sq1)) h0
      exact this
    · have c' : (s2 0 55) = 0 := ieq c
      have := hS.2 (by rw [← eV]; exact c')
      rcases c2 with c2 | ⟨-, c2⟩
      · rw [c2, eR]; exact this
      · have := (hP2.2.2.2.2 u).2.2.2.2.2 c2
        omega
end ST2
