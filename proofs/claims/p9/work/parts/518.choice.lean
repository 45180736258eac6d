/-! choice, binary, decided -/
def SXb (K : Int32 → KX) (l d : Int) (N : Nat) : Prop := ∀ (l' : Int32), l'.toInt = l → SX (K l') d N
def RD (σ τ : St) (vs : List Nat) (N a : Nat) (u : Nat) (s t : St) (z : List Nat) : Prop := RL σ vs s t z ∧ VFr τ vs t ∧ (u ∈ z ∧ u ∉ vs) ∧ ((t u 1).toInt = 1 → (t u 2).toInt < (s 0 49).toInt) ∧ (s 0 17).toInt + 9 ≤ (σ 0 17).toInt + 40 * (pos s - pos σ) ∧ (s 0 39).toInt + 6 ≤ (σ 0 39).toInt + 12 * (pos s - pos σ) ∧ (z.length : Int) ≤ vs.length + 2 * (pos s - pos σ) + 1 ∧ TE σ s N a (ev t u)
def SXd (K : Int32 → Nat → Int32 → KX) (o d : Int) (N : Nat) : Prop := ∀ (op : Int32) (v : Nat) (tk a : Int32) (σ τ : St) (vs : List Nat) (Q : Nat → St → St → List Nat → Prop) (T : St → St → List Nat → Prop), op.toInt = o → a.toInt = d → PA σ τ → NB σ vs → (σ 0 17).toInt + 10 + 40 * ((σ 0 9).toInt - pos σ) ≤ 410000 → v ∈ vs → (τ v 1).toInt = 0 → (0 ≤ tk.toInt ∧ tk.toInt < 16002) → (∀ u s t z, RD σ τ vs N (ev τ v) u s t z → Q u s t z) → (∀ s t z, RTx σ vs s t z → T s t z) → K op v tk a σ τ vs Q T
section CHO
variable {σ s s' τ t t' : St} {vs z z' : List Nat}
theorem pos_sq {n : Int} (h : SQ σ s n) : pos s = pos σ := by
  unfold pos
  have e1 : (s 0 10) = (σ 0 10) := h.1 _ _ rfl rfl
  have e2 : (s 3) = (σ 3) := funext (fun j => h.1 3 j rfl rfl)
  rw [e1, e2]
theorem ic_sq {n : Int} (h : SQ σ s n) : (s 0 39) = (σ 0 39) := h.1 _ _ rfl rfl
theorem sp_aim {a : Int32} {p : Nat} {Q : St → St → List Nat → Prop} (ha : a.toInt = (p : Int) + 1) (hp : (p : Int) ≤ 500000) (k : Q (aimS σ p) τ vs) : wp_aim a σ τ vs Q := by
  unfold wp_aim
  have e : a.toNatClampNeg = p + 1 := by rw [nt', ha]; omega
  rw [e]
  exact ⟨⟨by omega, by omega⟩, k⟩
theorem sp_decided {k1 k2 : KX} {k3 : Int32 → KX} {k4 : Int32 → Nat → Int32 → KX} {k5 k6 k7 : KX} {k8 : Int32 → KX} {o d : Int} {M N : Nat} (ho : o = 10 ∨ o = 11) (hB : SXb k3 (rkf o + 1) d M) (hM : 1 ≤ M) (hN : M + 1 ≤ N) : SXd (wp_decided k1 k2 k3 k4 k5 k6 k7 k8) o d N := by
  intro op v tk a σ τ vs Q T hop had hP hB1 hB2 hv hh ht kQ kT
  unfold wp_decided
  have h0 := hP.2.2.1.2.2.2.2.1
  have hcap := nb_cap hB1 hP
  have hrk : 0 ≤ rkf o ∧ rkf o ≤ 10 := ⟨(rkf_rng o).1, (rkf_rng o).2.1⟩
  have h5 := hP.2.2.2.2
  refine ⟨fun y => y = 16 ∨ y = 17, fun y hy => sp_open h0 (by omega) (fun a1 s1 p1 e1 => sp_rank (fun r hr => ?_)), fun _ => Or.inr rfl, fun _ => Or.inl rfl⟩
  have r1 := rl_pu (vs := vs) hP p1 h5 (fun _ h => h) (Nat.le_refl _)
  have W1 : (s1 0 17).toInt = (σ 0 17).toInt + 2 := p1.2.1
  have q1 := sq_pu p1
  have P1 := pos_sq q1
  have I1 := ic_sq q1
  have hN1 : NB s1 vs := by
    obtain ⟨g1, g2, g3⟩ := hB1
    have e := rl_sz r1
    unfold NB
    rw [e, P1, I1]
    exact ⟨by omega, g2, g3⟩
  rw [hop] at hr
  refine hB _ (by rw [ad1 (by omega), hr]) a s1 τ vs _ T had r1.2.1 hN1 (fun u s2 t2 z2 r2 => ?_) (fun s t z hs => kT _ _ _ (rt_of r1 (by omega) hs))
  refine sp_read r2.1.2.1 (re_nb hN1 r2) r2.2.2.1.1 (fun s3 hrd => ?_)
  obtain ⟨g1, g2, g3, g4, g5, g6, g7, g8⟩ := re_read r1.2.1 r2 hrd hM
  have hP3 := g1.2.1
  have h03 := hP3.2.2.1.2.2.2.2.1
  have hB3 := nb_of hN1 g1 (by omega) (by omega) g5
  have hcap3 := nb_cap hB3 hP3
  refine sp_put_0 h03 (by omega) (fun s4 p4 => ?_)
  have q4 := sq_pu p4
  have W4 : (s4 0 17).toInt = (s3 0 17).toInt + 1 := p4.2.1
  refine sp_open (by omega) (by omega) (fun a5 s5 p5 e5 => ?_)
  have W5 : (s5 0 17).toInt = (s4 0 17).toInt + 2 := p5.2.1
  have n0 : (wcn σ : Int) = (σ 0 17).toInt := nt h0
  have n4 : (wcn s4 : Int) = (s4 0 17).toInt := nt (by omega)
  refine sp_aim (p := wcn σ) (by omega) (by omega) ?_
  have hu3 : u ∈ z2 := r2.2.2.1.1
  have hv3 : v ∈ z2 := r2.1.2.2.2.2.2.2.2.2.1 _ hv
  -- the stretch up to the second jump
  have r4 := rl_pu (vs := z2) (t := upC t2 u 1 (0 : Int32)) (z := z2) hP3 p4 hP3.2.2.2.2 (fun _ h => h) (Nat.le_refl _)
  have r5 := rl_pu (vs := z2) (t := upC t2 u 1 (0 : Int32)) (z := z2) r4.2.1 p5 hP3.2.2.2.2 (fun _ h => h) (Nat.le_refl _)
  have r14 := rl_tr g1 r4
  have r05 := rl_tr (rl_tr r1 r14) r5
  have rA := rl_aim (p := wcn σ) r05 (by omega)
  have WA : ((aimS s5 (wcn σ)) 0 17).toInt = (s5 0 17).toInt := rfl
  refine ⟨fun _ => True, fun y2 _ _ => sp_put_1 (by rw [WA]; omega) (by rw [WA]; omega) (fun s6 p6 => ?_), fun _ => trivial, fun _ => trivial⟩
  have W6 : (s6 0 17).toInt = (s5 0 17).toInt + 2 := p6.2.1
  refine sp_aim (p := wcn s4) (by omega) (by omega) ?_
  have r6 := rl_pu (vs := z2) (t := upC t2 u 1 (0 : Int32)) (z := z2) rA.2.1 p6 hP3.2.2.2.2 (fun _ h => h) (Nat.le_refl _)
  have m14 := r14.2.2.2.2.2.1
  have r06 := rl_aim (p := wcn s4) (rl_tr rA r6) (by omega)
  -- the types
  have hne : v ≠ u := fun e => r2.2.2.1.2 (e ▸ hv)
  have fv : (upC t2 u 1 (0 : Int32)) v = τ v := by
    show upF t2 u _ v = _
    rw [upF_ne hne]
    exact r2.2.1 v hv
  have wi : ∀ {P : Prop}, P → P := fun h => h
  have J : ∀ y : Int32, (y.toInt ≠ 0 → (τ v 0).toInt ≠ -1 ∧ (upC t2 u 1 (0 : Int32) u 0).toInt ≠ -1) → wp_must y tk (aimS s6 (wcn s4)) (upC t2 u 1 (0 : Int32)) z2 (fun s103 t103 z103 => wp_made (0 : Int32) v u tk s103 t103 z103 (fun u112 s112 t112 z112 => Q u112 s112 t112 z112)) := fun y hy9 => by
    refine sp_must ht (fun s7 hs hf => sp_made hv3 hu3 hcap3.1 ht (fun q s8 t8 hgt hq hv8 hs' => ?_))
    have sq := sq_tr (sq_tl hs) (sq_tl hs')
    have r7 := sq_rl (vs := z2) r06.2.1 sq
    have rF := rl_tr r06 r7
    have v9 := vnw_nv hv8
    have PF : pos s8 = pos s3 := by
      have a1 := pos_sq sq
      have a2 : pos (aimS s6 (wcn s4)) = pos s6 := rfl
      have a3 := pos_sq (sq_pu p6)
      have a4 : pos (aimS s5 (wcn σ)) = pos s5 := rfl
      have a5 := pos_sq (sq_pu p5)
      have a6 := pos_sq q4
      omega
    have IF : (s8 0 39).toInt = (s3 0 39).toInt := by
      have a1 := ic_sq sq
      have a2 : ((aimS s6 (wcn s4)) 0 39) = (s6 0 39) := rfl
      have a3 := ic_sq (sq_pu p6)
      have a4 : ((aimS s5 (wcn σ)) 0 39) = (s5 0 39) := rfl
      have a5 := ic_sq (sq_pu p5)
      have a6 := ic_sq q4
      rw [a1, a2, a3, a4, a5, a6]
    have WF : (s8 0 17).toInt = (s6 0 17).toInt := by
      have a1 := sq.2.2.2.1
      have a2 := sq.2.2.2.2
      have a3 : ((aimS s6 (wcn s4)) 0 17).toInt = (s6 0 17).toInt := rfl
      omega
    refine kQ _ _ _ _ ⟨rl_val rF v9, vfr_tr g2 r2.1.2.2.2.2.2.2.2.2.1 (vfr_vnw hq v9), ⟨by simp, fun c => hq (r2.1.2.2.2.2.2.2.2.2.1 _ c)⟩, fun c => ?_, by omega, by rw [← I1] at *; omega, ?_, ?_⟩
    · rw [(nv_at hv8).2.1] at c
      exact absurd c (by decide)
    · simp only [List.length_append, List.length_cons, List.length_nil]
      omega
    · rw [ev_nv hv8 (by decide)]
      refine te_if (P := (τ v 0).toInt ≠ -1 ∧ (upC t2 u 1 (0 : Int32) u 0).toInt ≠ -1) (fun f1 f2 => hy9 (hf (of0 hs'.2 f1) (sil_sq (sq_tl hs') f2))) (fun g => ?_)
      have eu : ev (upC t2 u 1 (0 : Int32)) u = 1 := ev_st (by rw [rdA, if_pos rfl]; rfl) g.2
      rw [eu] at g6
      rw [ev_st hh g.1]
      have t1 : TE s1 s4 M 0 1 := te_rl r1.2.1.2.2.1.2.2.2.2.1 g1 r4 g6 (te_put (n := 1) h03 p4 rfl (by decide) rfl (k := 24) rfl (fun g' H L x hH hn hx => ⟨by omega, hn⟩) hM)
      have t2' : TE (aimS s5 (wcn σ)) s6 M 0 1 := te_put (n := 2) (by rw [WA]; omega) p6 rfl (by decide) rfl (k := 0) rfl (fun g' H L x hH hn hx => hn) hM
      have tf : TE σ (aimS s6 (wcn s4)) N 1 1 := te_fork hy h0 p1 r14.2.2.1 r14.2.2.2.2.2.1 t1 p5 rfl r6.2.2.1 r6.2.2.2.2.2.1 t2' rfl (of_eq ((p6.1 0 12 rfl rfl).trans (p5.1 0 12 rfl rfl))) ((p6.1 0 15 rfl rfl).trans (p5.1 0 15 rfl rfl)) hN
      have h06 : 0 ≤ ((aimS s6 (wcn s4)) 0 17).toInt := by show 0 ≤ (s6 0 17).toInt; omega
      exact te_rl h0 r06 r7 tf (te_sq h06 (sq_tl hs) (sq_tl hs') (te_tl h06 hs) (te_tl (sq_wc (sq_tl hs) h06).1 hs'))
  refine sp_isAny hv3 (fun c1 => ?_) (fun c1 => ⟨fun y => y.toInt ≠ 0 → (τ v 0).toInt ≠ -1 ∧ (upC t2 u 1 (0 : Int32) u 0).toInt ≠ -1, fun y _ hy9 => J y hy9, ⟨True, fun _ => no0, fun _ => trivial, no0⟩⟩)
  rw [fv] at c1
  exact ⟨fun y => y.toInt ≠ 0 → (τ v 0).toInt ≠ -1 ∧ (upC t2 u 1 (0 : Int32) u 0).toInt ≠ -1, fun y _ hy9 => J y hy9, ⟨True, fun _ => no0, no1, fun _ => sp_isAny hu3 (fun c2 => ⟨no1, fun _ _ => ⟨by omega, by omega⟩⟩) (fun _ => ⟨fun _ => trivial, no0⟩)⟩⟩
theorem sp_binary {k1 k2 : KX} {k3 : Int32 → KX} {k4 : Int32 → Nat → Int32 → KX} {k5 k6 k7 : KX} {k8 : Int32 → KX} {l d : Int} {M N : Nat} (hl : 1 ≤ l ∧ l ≤ 11) (hU : SX k5 d N) (hD : ∀ o, o = 10 ∨ o = 11 → l ≤ rkf o → SXd k4 o d N) (hB : ∀ l', l ≤ l' → l' ≤ 10 → SXb k3 (l' + 1) d M) (hM : 1 ≤ M) (hN : M + 1 ≤ N) (hN2 : 2 ≤ N) : SXb (wp_binary k1 k2 k3 k4 k5 k6 k7 k8) l d N := by
  intro l' hl' a σ τ vs Q T had hP hB1 kQ kT
  unfold wp_binary
  have h0 := hP.2.2.1.2.2.2.2.1
  refine hU a σ τ vs _ T had hP hB1 (fun u2 s2 t2 z2 r2 => ?_) kT
  refine ⟨fun n x s t z => n = ((σ 0 9).toInt - pos s).toNat ∧ RE σ τ vs N 0 x s t z, ⟨_, rfl, r2⟩, fun n x s t z ⟨hn, r⟩ => ?_⟩
  have hPs := r.1.2.1
  have hBs := re_nb hB1 r
  have h0s := hPs.2.2.1.2.2.2.2.1
  refine sp_sign hPs (sp_rank (fun rk hrk => ⟨fun _ => kQ _ _ _ _ r, fun hle => sp_sign hPs ?_⟩))
  obtain ⟨k1', k2', k3'⟩ := rkf_rng (sg s).toInt
  have hrr := k3' (by omega)
  have hkd := kd_sg (σ := s) (lo := 10) (hi := 40) hrr (by omega) (by omega)
  obtain ⟨rn, pn, wn, icn⟩ := rl_nxt (vs := z) hPs (by omega)
  have hPn := rn.2.1
  have ht := at_tok hPs.1 hPs.2.1
  have hx : x ∈ z := r.2.2.1.1
  have hBn : NB (nxt s) z := nb_of hBs rn (by omega) (by omega) (by omega)
  refine sp_read hPn hBn hx (fun s4 hrd => ?_)
  have hx2 : x ∉ vs := r.2.2.1.2
  obtain ⟨g1, g2, g3, g4⟩ := rd_rl (vs := z) (z := z) hPn hrd (vok_how (u := x) hPn.2.2.2.2) (fun _ h => h) (Nat.le_refl _)
  have hP4 := g1.2.1
  have rA := rl_tr r.1 (rl_tr rn g1)
  have vA := vfr_how (u := x) (v := 0) r.2.1 hx2
  have e4 : TE σ s4 N 0 (ev (upC t x 1 (0 : Int32)) x) := te_rl h0 (rl_tr r.1 rn) g1 (te_rl h0 r.1 rn r.2.2.2.2.2.2.2 (te_nxt h0s rn)) (rd_te hPn hrd (by omega) r.2.2.2.1)
  have hh : (upC t x 1 (0 : Int32) x 1).toInt = 0 := by rw [rdA, if_pos rfl]; rfl
  have hB4 : NB s4 z := nb_of hBs (rl_tr rn g1) (by rw [g4]; omega) (by rw [g3, g4]; omega) (by rw [g4]; omega)
  have hsz4 := rl_sz rA
  have c1 := r.2.2.2.2.1
  have c2 := r.2.2.2.2.2.1
  have c3 := r.2.2.2.2.2.2.1
  have i4 : (s4 0 39).toInt = (s 0 39).toInt := by rw [g3]; exact icn
  have back : ∀ u s' t' z', RE σ τ vs N 0 u s' t' z' → pos s < pos s' → ∃ m, m < n ∧ (m = ((σ 0 9).toInt - pos s').toNat ∧ RE σ τ vs N 0 u s' t' z') := fun u s' t' z' r' hp => by
    have := pos_in r'.1.2.1.1 r'.1.2.1.2.1
    have e := rl_sz r'.1
    exact ⟨_, by omega, rfl, r'⟩
  refine ⟨fun u s' t' z' => RE σ τ vs N 0 u s' t' z' ∧ pos s < pos s', fun u s' t' z' ⟨h1, h2⟩ => back u s' t' z' h1 h2, ?_⟩
  have dec : ((sg s).toInt = 10 ∨ (sg s).toInt = 11) → k4 (sg s) x (s 0 10) a s4 (upC t x 1 (0 : Int32)) z (fun u65 s65 t65 z65 => RE σ τ vs N 0 u65 s65 t65 z65 ∧ pos s < pos s65) T := fun c => by
    refine hD _ c (by rw [← hrk]; omega) (sg s) x (s 0 10) a s4 _ z _ T rfl had hP4 hB4 ?_ hx hh ht (fun u s' t' z' r' => ?_) (fun s' t' z' hs => kT _ _ _ (rt_of rA (by rw [g4]; omega) hs))
    · obtain ⟨b1, b2, b3⟩ := hBs
      rw [hsz4, g4]
      have := rl_sz r.1
      omega
    · obtain ⟨q1, q2, q3, q4, q5, q6, q7, q8⟩ := r'
      refine ⟨⟨rl_tr rA q1, vfr_tr vA r.1.2.2.2.2.2.2.2.2.1 q2, ⟨q3.1, fun c => q3.2 (r.1.2.2.2.2.2.2.2.2.1 _ c)⟩, q4, by omega, by omega, by omega, te_rl h0 rA q1 e4 q8⟩, by have := q1.2.2.2.2.2.2.2.1; omega⟩
  refine ⟨(sg s).toInt = 10 ∨ (sg s).toInt = 11, fun c => dec c, fun c => Or.inr c, fun c11 => ⟨fun c10 => sp_rank (fun rk2 hrk2 => ?_), fun c => Or.inl c⟩⟩
  refine hB (rkf (sg s).toInt) (by omega) k2' _ (by rw [ad1 (by omega), hrk2]) a s4 _ z _ T had hP4 hB4 (fun u s5 t5 z5 r5 => ?_) (fun s' t' z' hs => kT _ _ _ (rt_of rA (by rw [g4]; omega) hs))
  refine sp_read r5.1.2.1 (re_nb hB4 r5) r5.2.2.1.1 (fun s6 hrd2 => ?_)
  obtain ⟨b1, b2, b3, b4, b5, b6, b7, b8⟩ := re_read hP4 r5 hrd2 hM
  have hP6 := b1.2.1
  have hB6 := nb_of hB4 b1 (by omega) (by omega) b5
  have hcap6 := nb_cap hB6 hP6
  have hx5 : x ∈ z5 := r5.1.2.2.2.2.2.2.2.2.1 _ hx
  have hne : x ≠ u := fun e => r5.2.2.1.2 (e ▸ hx)
  have fx : (upC t5 u 1 (0 : Int32)) x = upC t x 1 (0 : Int32) x := by
    show upF t5 u _ x = _
    rw [upF_ne hne]
    exact r5.2.1 x hx
  have hhx : (upC t5 u 1 (0 : Int32) x 1).toInt = 0 := by rw [fx]; exact hh
  have hhu : (upC t5 u 1 (0 : Int32) u 1).toInt = 0 := by rw [rdA, if_pos rfl]; rfl
  refine sp_two hP6 hx5 r5.2.2.1.1 hhx hhu (by omega) ht hcap6.1 hN2 (fun w s7 t7 z7 r7 => ?_)
  obtain ⟨q1, q2, q3, q4, q5, q6, q7, q8⟩ := r7
  have rF := rl_tr (rl_tr rA b1) q1
  have p7 : pos s6 ≤ pos s7 := q1.2.2.2.2.2.2.2.1
  have m6 : pos s4 ≤ pos s6 := b1.2.2.2.2.2.2.2.1
  refine ⟨⟨rF, vfr_tr (vfr_tr vA r.1.2.2.2.2.2.2.2.2.1 b2) (fun w hw => r5.1.2.2.2.2.2.2.2.2.1 _ (r.1.2.2.2.2.2.2.2.2.1 _ hw)) q2, ⟨q3.1, fun c => q3.2 (r5.1.2.2.2.2.2.2.2.2.1 _ (r.1.2.2.2.2.2.2.2.2.1 _ c))⟩, q4, by omega, by omega, by omega, ?_⟩, by omega⟩
  have ex : ev (upC t5 u 1 (0 : Int32)) x = ev (upC t x 1 (0 : Int32)) x := ev_eq (by rw [fx]) (by rw [fx])
  have t6 : TE s4 s6 N (ev (upC t x 1 (0 : Int32)) x + 0) (ev (upC t x 1 (0 : Int32)) x + ev (upC t5 u 1 (0 : Int32)) u) := te_up b6 (by have := ev_le (t := upC t x 1 (0 : Int32)) (u := x); omega)
  rw [ex] at q8
  exact te_rl h0 (rl_tr rA b1) q1 (te_rl h0 rA b1 e4 t6) q8
end CHO
