/-! calls -/
section CAL
variable {σ s s' τ t t' : St} {vs z z' : List Nat}
theorem mul8 {x : Int32} (h0 : 0 ≤ x.toInt) (h1 : x.toInt ≤ 20000) : ((8 : Int32) * x).toInt = 8 * x.toInt := by
  have h := Int32.toInt_mul (8 : Int32) x
  rw [Int.bmod_def] at h
  have e : ((2 ^ 32 : Nat) : Int) = 4294967296 := by decide
  have e8 : (8 : Int32).toInt = 8 := by decide
  rw [e, e8] at h
  rw [h, Int.emod_eq_of_lt (by omega) (by omega), if_pos (by omega)]
theorem sp_call {k1 k2 : KX} {k3 : Int32 → KX} {k4 : Int32 → Nat → Int32 → KX} {k5 k6 k7 : KX} {k8 : Int32 → KX} {d : Int} {M N : Nat} (hd : 1 ≤ d ∧ d ≤ 25) (hE : d + 1 ≤ 25 → SX k1 (d + 1) M) (hM : 1 ≤ M) (hN : M + 8 ≤ N) : SXc (wp_call_0 k1 k2 k3 k4 k5 k6 k7 k8) d N := by
  intro tk a σ τ vs Q T had hP hB1 htk hkd kQ kT
  unfold wp_call_0
  have h0 := hP.2.2.1.2.2.2.2.1
  have hcap := nb_cap hB1 hP
  have h9 := hP
  obtain ⟨hT, hA, ⟨n1, n2, n3, n4, n5, n6, n7⟩, ⟨a1, a2, a3, a4, a5, a6, a7, a8, a9, b1, b2, b3⟩, h5⟩ := h9
  have main : ∀ e : Int32, (e.toInt = -1 ∨ (Fi σ ≤ e.toInt ∧ e.toInt < (σ 0 36).toInt)) → ∀ y : Int32, (y = 0 ∨ y = 1) → (y.toInt ≠ 0 → 0 ≤ e.toInt ∧ ((σ 9) e.toNatClampNeg).toInt = 2) → wp_must y tk σ τ vs (fun s43 t43 z43 => (∃ J58 : St → St → List Nat → Prop, (∀ (s58 t58 : St) (z58 : List Nat), J58 s58 t58 z58 → ((∃ J99 : St → St → List Nat → Prop, (∀ (s99 t99 : St) (z99 : List Nat), J99 s99 t99 z99 → (wp_deeper a s99 t99 z99 (fun v101 s101 t101 z101 => wp_is (21 : Int32) (upC s101 0 10 ((s101 0 10) + (1 : Int32))) t101 z101 (fun v128 => (∃ J220 : Int32 → Int32 → Int32 → St → St → List Nat → Prop, (∀ (x6_220 : Int32) (x7_220 : Int32) (x8_220 : Int32) (s220 t220 : St) (z220 : List Nat), x8_220 = 0 ∨ x8_220 = 1 → J220 x6_220 x7_220 x8_220 s220 t220 z220 → (wp_expect (21 : Int32) s220 t220 z220 (fun s223 t223 z223 => (∃ J253 : Int32 → Prop, (∀ (y1_253 : Int32), y1_253 = 0 ∨ y1_253 = 1 → J253 y1_253 → (wp_must y1_253 tk s223 t223 z223 (fun s254 t254 z254 => (∃ J280 : Int32 → Prop, (∀ (y2_280 : Int32), J280 y2_280 → (((0 ≤ tk.toInt ∧ tk.toInt < 16002) ∧ wp_put_2 (19 : Int32) y2_280 (s254 5 tk.toNatClampNeg) s254 t254 z254 (fun s286 t286 z286 => ((z286).length < CAP ∧ ∀ q289 : Nat, q289 ∉ z286 → (∃ J309 : Int32 → Prop, (∀ (y2_309 : Int32), J309 y2_309 → (wp_Vinit q289 y2_309 s286 (upF t286 q289 (fun _ => 0)) (z286 ++ [q289]) (fun s309 t309 z309 => (q289 ∈ z309 ∧ ((x7_220 + (1 : Int32)).toInt ≤ 60 → Q q289 s309 (upC t309 q289 3 (x7_220 + (1 : Int32))) z309) ∧ (60 < (x7_220 + (1 : Int32)).toInt → wp_tell (4 : Int32) tk s309 (upC t309 q289 3 (x7_220 + (1 : Int32))) z309 (fun s336 t336 z336 => Q q289 s336 t336 z336)))))) ∧ (y.toInt = 0 → J309 ((-2) : Int32)) ∧ (y.toInt ≠ 0 → ((0 ≤ e.toInt ∧ e.toInt < 10000) ∧ J309 (s286 10 e.toNatClampNeg))))))))) ∧ (y.toInt = 0 → J280 (0 : Int32)) ∧ (y.toInt ≠ 0 → ((0 ≤ (s254 0 35).toInt ∧ (s254 0 35).toInt < 102) ∧ J280 (e - (s254 22 (s254 0 35).toNatClampNeg)))))))) ∧ (∃ J252 : Prop, (J252 → (J253 (0 : Int32))) ∧ (x8_220.toInt = 0 → J252) ∧ (x8_220.toInt ≠ 0 → (y.toInt = 0 → J252) ∧ (y.toInt ≠ 0 → ((0 ≤ e.toInt ∧ e.toInt < 10000) ∧ (x6_220.toInt ≠ (s223 15 e.toNatClampNeg).toInt → J252) ∧ (x6_220.toInt = (s223 15 e.toNatClampNeg).toInt → J253 (1 : Int32)))))))) T)) ∧ (v128.toInt ≠ 0 → J220 (0 : Int32) (0 : Int32) (1 : Int32) (upC s101 0 10 ((s101 0 10) + (1 : Int32))) t101 z101) ∧ (v128.toInt = 0 → ∃ L134 : Nat → Int32 → Int32 → Int32 → St → St → List Nat → Prop, (∃ n, L134 n (0 : Int32) (0 : Int32) (1 : Int32) (upC s101 0 10 ((s101 0 10) + (1 : Int32))) t101 z101) ∧ ∀ (n134 : Nat) (x6_134 : Int32) (x7_134 : Int32) (x8_134 : Int32) (s134 t134 : St) (z134 : List Nat), x8_134 = 0 ∨ x8_134 = 1 → L134 n134 x6_134 x7_134 x8_134 s134 t134 z134 → (k1 v101 s134 t134 z134 (fun u137 s137 t137 z137 => wp_read_1 u137 s137 t137 z137 (fun s145 t145 z145 => (∃ J194 : Int32 → Prop, (∀ (y0_194 : Int32), y0_194 = 0 ∨ y0_194 = 1 → J194 y0_194 → ((u137 ∈ z145 ∧ wp_accept (26 : Int32) s145 t145 z145 (fun v214 s214 t214 z214 => (v214.toInt ≠ 0 → ∃ m, m < n134 ∧ L134 m (x6_134 + 1) (if x7_134 < (t145 u137 3) then (t145 u137 3) else x7_134) y0_194 s214 t214 z214) ∧ (v214.toInt = 0 → J220 (x6_134 + 1) (if x7_134 < (t145 u137 3) then (t145 u137 3) else x7_134) y0_194 s214 t214 z214))))) ∧ (∃ J193 : Prop, (J193 → (J194 (0 : Int32))) ∧ (x8_134.toInt = 0 → J193) ∧ (x8_134.toInt ≠ 0 → (y.toInt = 0 → J193) ∧ (y.toInt ≠ 0 → ((0 ≤ e.toInt ∧ e.toInt < 10000) ∧ ((s145 15 e.toNatClampNeg).toInt ≤ x6_134.toInt → J193) ∧ (x6_134.toInt < (s145 15 e.toNatClampNeg).toInt → ((0 ≤ (((8 : Int32) * e) + x6_134).toInt ∧ (((8 : Int32) * e) + x6_134).toInt < 80000) ∧ wp_fits u137 (s145 16 (((8 : Int32) * e) + x6_134).toNatClampNeg) s145 t145 z145 (fun v183 => (v183.toInt = 0 → J193) ∧ (v183.toInt ≠ 0 → J194 (1 : Int32)))))))))))) T))))) T)) ∧ (y.toInt = 0 → J99 s58 t58 z58) ∧ (y.toInt ≠ 0 → ((0 ≤ (s58 0 35).toInt ∧ (s58 0 35).toInt < 102) ∧ ((0 ≤ (e - (s58 22 (s58 0 35).toNatClampNeg)).toInt ∧ (e - (s58 22 (s58 0 35).toNatClampNeg)).toInt < 100) ∧ (0 ≤ (s58 21 (e - (s58 22 (s58 0 35).toNatClampNeg)).toNatClampNeg).toInt → J99 s58 t58 z58) ∧ ((s58 21 (e - (s58 22 (s58 0 35).toNatClampNeg)).toNatClampNeg).toInt < 0 → ((0 ≤ (s58 0 35).toInt ∧ (s58 0 35).toInt < 102) ∧ ((0 ≤ (e - (s58 22 (s58 0 35).toNatClampNeg)).toInt ∧ (e - (s58 22 (s58 0 35).toNatClampNeg)).toInt < 100) ∧ J99 (upC s58 21 (e - (s58 22 (s58 0 35).toNatClampNeg)).toNatClampNeg tk) t58 z58))))))))) ∧ (y.toInt = 0 → J58 s43 t43 z43) ∧ (y.toInt ≠ 0 → ((0 ≤ e.toInt ∧ e.toInt < 10000) ∧ J58 (upC s43 14 e.toNatClampNeg (vp_nar .boolean (1 : Int32))) t43 z43)))) := fun e he y hy01 hy => by
    refine sp_must htk (fun s1 hs1 hf1 => ?_)
    have en : y.toInt ≠ 0 → Fi σ ≤ e.toInt ∧ e.toInt < (σ 0 36).toInt := fun c => by
      have := (hy c).1
      omega
    have hF : ((σ 22) (σ 0 35).toNatClampNeg).toInt = Fi σ := rfl
    have esub : y.toInt ≠ 0 → (e - ((σ 22) (σ 0 35).toNatClampNeg)).toInt = e.toInt - Fi σ := fun c => by
      have := en c
      rw [← hF]
      exact sb (by rw [hF]; omega) (by rw [hF]; omega)
    -- the states before the (
    refine ⟨fun s t z => τ = t ∧ vs = z ∧ RL σ vs s τ vs ∧ pos s = pos σ ∧ (s 0 10) = (σ 0 10) ∧ (s 0 17).toInt = (σ 0 17).toInt ∧ (s 0 39).toInt = (σ 0 39).toInt ∧ ((s 0 12).toInt = 0 → (s 0 15).toInt = 0 → y.toInt ≠ 0) ∧ (∀ N9 : Nat, TE σ s N9 0 0) ∧ (y.toInt ≠ 0 → (s 14) e.toNatClampNeg ≠ 0), ?_, ?_, ?_⟩
    rotate_left 1
    · intro c
      have sq := sq_tl hs1
      exact ⟨rfl, rfl, sq_rl hP sq, pos_sq sq, hs1.1 _ _ rfl rfl, by rw [hs1.1 0 17 rfl rfl], by rw [ic_sq sq], hf1, fun _ => te_tl h0 hs1, fun q => absurd c q⟩
    · intro c
      have e9 := en c
      have sq := sq_tl hs1
      have r0 := sq_rl (vs := vs) hP sq
      have rr : RL σ vs (upC s1 14 e.toNatClampNeg (vp_nar .boolean (1 : Int32))) τ vs := rl_mk hP (kp_a r0.1 rfl) (hs1.1 0 10 rfl rfl) r0.2.2.2.2.2.1 (fun j _ => hs1.1 8 j rfl rfl) r0.2.2.2.2.2.2.1 r0.2.1.2.2.1.2.2.2.1 r0.2.1.2.2.2.1.2.2.1 ⟨fun j q1 => by
        rw [rdA]
        by_cases q2 : j = e.toNatClampNeg
        · rw [if_pos q2, nar_b1]; decide
        · rw [if_neg q2]
          have f1 : (s1 14) j = (σ 14) j := hs1.1 14 j rfl rfl
          rw [f1]; exact q1, fun n q1 => by
        have f1 : (s1 21) n = (σ 21) n := hs1.1 21 n rfl rfl
        show 0 ≤ ((s1 21) n).toInt
        rw [f1]; exact q1⟩ hs1.2 (ie_of (funext (fun j => hs1.1 25 j rfl rfl)) (hs1.1 0 39 rfl rfl) (hs1.1 0 37 rfl rfl)) h5 (fun _ h => h) (Nat.le_refl _)
      exact ⟨by omega, rfl, rfl, rr, (show pos s1 = pos σ from pos_sq sq), hs1.1 0 10 rfl rfl, by show (s1 0 17).toInt = _; rw [hs1.1 0 17 rfl rfl], by show (s1 0 39).toInt = _; rw [hs1.1 0 39 rfl rfl], hf1, fun _ => te_same h0 (hs1.1 0 17 rfl rfl) rr.2.2.1 (ev_ke rr.1 rr.2.2.2.1), fun _ => by rw [rdA, if_pos rfl, nar_b1]; decide⟩
    rintro s2 _ _ ⟨rfl, rfl, r2, p2, at2, w2, i2, f2, te2, m2⟩
    have eo : (s2 0 35) = (σ 0 35) := r2.1 _ _ rfl rfl
    have ef : ((s2 22) (s2 0 35).toNatClampNeg) = (σ 22) (σ 0 35).toNatClampNeg := by rw [eo]; exact r2.1 22 _ rfl rfl
    rw [ef]
    refine ⟨fun s t z => τ = t ∧ vs = z ∧ RL σ vs s τ vs ∧ pos s = pos σ ∧ (s 0 10) = (σ 0 10) ∧ (s 0 17).toInt = (σ 0 17).toInt ∧ (s 0 39).toInt = (σ 0 39).toInt ∧ ((s 0 12).toInt = 0 → (s 0 15).toInt = 0 → y.toInt ≠ 0) ∧ (∀ N9 : Nat, TE σ s N9 0 0) ∧ (y.toInt ≠ 0 → (s 14) e.toNatClampNeg ≠ 0 ∧ 0 ≤ ((s 21) (e - ((σ 22) (σ 0 35).toNatClampNeg)).toNatClampNeg).toInt), ?_, fun c => ⟨rfl, rfl, r2, p2, at2, w2, i2, f2, te2, fun q => absurd c q⟩, fun c => ?_⟩
    rotate_left 1
    · have e9 := en c
      have e8 := esub c
      refine ⟨by rw [eo]; omega, by omega, fun c2 => ⟨rfl, rfl, r2, p2, at2, w2, i2, f2, te2, fun _ => ⟨m2 c, c2⟩⟩, fun c2 => ⟨by rw [eo]; omega, by omega, rfl, rfl, ?_⟩⟩
      have rr : RL σ vs (upC s2 21 (e - ((σ 22) (σ 0 35).toNatClampNeg)).toNatClampNeg tk) τ vs := rl_mk hP (kp_a r2.1 rfl) at2 r2.2.2.2.2.2.1 r2.2.2.1 r2.2.2.2.2.2.2.1 r2.2.1.2.2.1.2.2.2.1 (acr_up r2.2.1.2.2.2.1.2.2.1 ⟨by omega, by omega⟩) ⟨r2.2.2.2.1.1, fun n q1 => by
        rw [rdA]
        by_cases q2 : n = (e - ((σ 22) (σ 0 35).toNatClampNeg)).toNatClampNeg
        · rw [if_pos q2]; exact htk.1
        · rw [if_neg q2]
          exact r2.2.2.2.1.2 n q1⟩ r2.2.2.2.2.1 r2.2.2.2.2.2.2.2.2.2.2 h5 (fun _ h => h) (Nat.le_refl _)
      refine ⟨rr, p2, at2, w2, i2, f2, fun _ => te_same h0 ?_ rr.2.2.1 (ev_ke rr.1 rr.2.2.2.1), fun _ => ⟨m2 c, by rw [rdA, if_pos rfl]; exact htk.1⟩⟩
      exact ieq w2
    rintro s3 _ _ ⟨rfl, rfl, r3, p3, at3, w3, i3, f3, te3, m3⟩
    have hP3 := r3.2.1
    refine sp_deeper hP3 (by omega) (fun hd2 ed => ?_) (fun s hs => kT _ _ _ (rt_of r3 (by omega) hs))
    have hk3 : kd s3 = 52 := by
      have e2 : (s3 2) = (σ 2) := funext (fun j => r3.1 2 j rfl rfl)
      unfold kd at *
      rw [at3, e2]
      exact hkd
    obtain ⟨rn, pn, wn, icn⟩ := rl_nxt (vs := vs) hP3 (by omega)
    have r4 := rl_tr r3 rn
    have hP4 := rn.2.1
    have te4 : ∀ N9, TE σ (nxt s3) N9 0 0 := fun N9 => te_rl h0 r3 rn (te3 N9) (te_nxt hP3.2.2.1.2.2.2.2.1 rn)
    have m4 : y.toInt ≠ 0 → ((nxt s3) 14) e.toNatClampNeg ≠ 0 ∧ 0 ≤ (((nxt s3) 21) (e - ((σ 22) (σ 0 35).toNatClampNeg)).toNatClampNeg).toInt := m3
    have f4 : ((nxt s3) 0 12).toInt = 0 → ((nxt s3) 0 15).toInt = 0 → y.toInt ≠ 0 := f3
    rw [show upC s3 0 10 ((s3 0 10) + (1 : Int32)) = nxt s3 from rfl]
    generalize hs0 : nxt s3 = s0 at *
    have pc4 : y.toInt ≠ 0 → 0 ≤ ((σ 15) e.toNatClampNeg).toInt ∧ ((σ 15) e.toNatClampNeg).toInt ≤ 8 := fun _ => a4 _
    have hsz := rl_sz r4
    -- behind so many arguments
    have base : ∀ (Y : Int32) (s t : St) (z : List Nat), True := fun _ _ _ _ => trivial
    refine sp_is hP4 (fun hc => ?_) (fun hc => ?_)
    all_goals
      refine ⟨fun x6 _ x8 s t z => RL s0 vs s t z ∧ VFr τ vs t ∧ (s 0 17).toInt ≤ (s0 0 17).toInt + 40 * (pos s - pos s0) ∧ (s 0 39).toInt ≤ (s0 0 39).toInt + 12 * (pos s - pos s0) ∧ (z.length : Int) ≤ vs.length + 2 * (pos s - pos s0) ∧ (0 ≤ x6.toInt ∧ x6.toInt ≤ pos s - pos s0) ∧ (x8.toInt ≠ 0 → (x6.toInt ≠ 0 → y.toInt ≠ 0 ∧ x6.toInt ≤ ((σ 15) e.toNatClampNeg).toInt) ∧ TE s0 s N 0 x6.toInt.toNat), ?_, ?_, ?_⟩
    case refine_1.refine_2 => exact fun _ => ⟨rl_rf hP4, fun _ _ => rfl, by omega, by omega, by omega, ⟨by decide, by show (0 : Int) ≤ _; omega⟩, fun _ => ⟨fun q => absurd rfl q, te_rf⟩⟩
    case refine_1.refine_3 => exact fun c => absurd c (by decide)
    case refine_2.refine_2 => exact fun c => absurd rfl c
    case refine_2.refine_3 =>
      intro _
      refine ⟨fun n x6 _ x8 s t z => (n = ((σ 0 9).toInt - pos s).toNat) ∧ RL s0 vs s t z ∧ VFr τ vs t ∧ (s 0 17).toInt ≤ (s0 0 17).toInt + 40 * (pos s - pos s0) ∧ (s 0 39).toInt ≤ (s0 0 39).toInt + 12 * (pos s - pos s0) ∧ (z.length : Int) ≤ vs.length + 2 * (pos s - pos s0) ∧ (0 ≤ x6.toInt ∧ x6.toInt ≤ pos s - pos s0) ∧ (x8.toInt ≠ 0 → (x6.toInt ≠ 0 → y.toInt ≠ 0 ∧ x6.toInt ≤ ((σ 15) e.toNatClampNeg).toInt) ∧ TE s0 s N 0 x6.toInt.toNat), ⟨_, rfl, rl_rf hP4, fun _ _ => rfl, by omega, by omega, by omega, ⟨by decide, by show (0 : Int) ≤ _; omega⟩, fun _ => ⟨fun q => absurd rfl q, te_rf⟩⟩, ?_⟩
      rintro n x6 x7 x8 s t z - ⟨hn, l1, l2, l3, l4, l5, l6, l7⟩
      have r5 := rl_tr r4 l1
      have hB5 : NB s z := nb_of hB1 r5 (by omega) (by omega) (by omega)
      refine hE (by omega) _ s t z _ T (by omega) l1.2.1 hB5 (fun u s5 t5 z5 r => ?_) (fun s' t' z' hs => kT _ _ _ (rt_of r5 (by omega) hs))
      refine sp_read r.1.2.1 (re_nb hB5 r) r.2.2.1.1 (fun s6 hrd => ?_)
      obtain ⟨g1, g2, g3, g4, g5, g6, g7, g8⟩ := re_read l1.2.1 r hrd hM
      have hP6 := g1.2.1
      have l16 := rl_tr l1 g1
      have m6 := g1.2.2.2.2.2.2.2.1
      have hp6 := pos_in hP6.1 hP6.2.1
      have sz6 := rl_sz (rl_tr r5 g1)
      have hu := r.2.2.1.1
      have hp5 := pos_in l1.2.1.1 l1.2.1.2.1
      have hp4 := pos_in hP4.1 hP4.2.1
      have mw := g1.2.2.2.2.2.1
      have ex6 := ad1 (x := x6) (by omega)
      have v6 := vfr_tr l2 l1.2.2.2.2.2.2.2.2.1 g2
      have hpc : ∀ j, (s6 15) j = (σ 15) j := fun j => (rl_tr r5 g1).1 15 j rfl rfl
      have hpt : ∀ j, (s6 16) j = (σ 16) j := fun j => (rl_tr r5 g1).1 16 j rfl rfl
      refine ⟨fun w => w.toInt ≠ 0 → (x8.toInt ≠ 0 ∧ y.toInt ≠ 0 ∧ x6.toInt < ((σ 15) e.toNatClampNeg).toInt) ∧ (upC t5 u 1 (0 : Int32) u 0).toInt ≠ -1, fun w _ hw => ⟨hu, ?_⟩, ?_⟩
      · -- , or the end
        have step : w.toInt ≠ 0 → (y.toInt ≠ 0 ∧ (x6 + 1).toInt ≤ ((σ 15) e.toNatClampNeg).toInt) ∧ TE s0 s6 N 0 (x6 + 1).toInt.toNat := fun c => by
          obtain ⟨⟨c1, c2, c3⟩, c4⟩ := hw c
          obtain ⟨d1, d2⟩ := l7 c1
          have eu : ev (upC t5 u 1 (0 : Int32)) u = 1 := ev_st (by rw [rdA, if_pos rfl]; rfl) c4
          rw [eu] at g6
          have := (a4 e.toNatClampNeg).2
          refine ⟨⟨c2, by omega⟩, ?_⟩
          have e7 : (x6 + 1).toInt.toNat = x6.toInt.toNat + 1 := by omega
          rw [e7]
          exact te_rl hP4.2.2.1.2.2.2.2.1 l1 g1 d2 (te_up (c := x6.toInt.toNat) g6 (by omega))
        unfold wp_accept
        refine sp_is hP6 (fun hk6 => ⟨fun _ => ⟨fun _ => ?_, no1⟩, no1⟩) (fun _ => ⟨no0, fun _ => ⟨no0, fun _ => ?_⟩⟩)
        · have hk6' : kd s6 = 58 := hk6
          obtain ⟨ro, po, wo, ico⟩ := rl_nxt (vs := z5) hP6 (by omega)
          have hpo := pos_in ro.2.1.1 ro.2.1.2.1
          have szo := rl_sz ro
          refine ⟨((σ 0 9).toInt - pos (nxt s6)).toNat, by omega, rfl, rl_tr l16 ro, v6, ?_, ?_, ?_, ?_, fun c => ?_⟩
          · show ((nxt s6) 0 17).toInt ≤ (s0 0 17).toInt + 40 * (pos (nxt s6) - pos s0); omega
          · show ((nxt s6) 0 39).toInt ≤ (s0 0 39).toInt + 12 * (pos (nxt s6) - pos s0); omega
          · show _ ≤ (vs.length : Int) + 2 * (pos (nxt s6) - pos s0); omega
          · show _ ∧ _ ≤ pos (nxt s6) - pos s0; omega
          · exact ⟨fun _ => (step c).1, te_rl hP4.2.2.1.2.2.2.2.1 l16 ro (step c).2 (te_nxt hP6.2.2.1.2.2.2.2.1 ro)⟩
        · exact ⟨l16, v6, by omega, by omega, by omega, by omega, fun c => ⟨fun _ => (step c).1, (step c).2⟩⟩
      · -- whether it fits
        refine ⟨True, fun _ => no0, fun _ => trivial, fun c8 => ⟨fun _ => trivial, fun cy => ?_⟩⟩
        have e9 := en cy
        have e8 := (a4 e.toNatClampNeg)
        refine ⟨by omega, fun _ => trivial, fun c6 => ?_⟩
        rw [hpc] at c6
        have em := mul8 (x := e) (by omega) (by omega)
        have ea : ((8 : Int32) * e + x6).toInt = 8 * e.toInt + x6.toInt := by rw [ad (by omega) (by omega), em]
        refine ⟨by omega, sp_fits hu (fun c => ⟨no1, fun _ _ => ⟨⟨c8, cy, c6⟩, ?_⟩⟩) ⟨fun _ => trivial, no0⟩⟩
        rcases c with c | ⟨-, c⟩
        · rw [c, hpt]
          have := (b2 ((8 : Int32) * e + x6).toNatClampNeg).1
          omega
        · have := (hP6.2.2.2.2 u).2.2.2.2.2 c
          omega
    all_goals
      rintro x6 x7 x8 s t z - ⟨l1, l2, l3, l4, l5, l6, l7⟩
      have r5 := rl_tr r4 l1
      have hP5 := l1.2.1
      refine sp_expect hP5 (by decide) (fun hk5 ro po wo ico => ?_) (fun s' hs => kT _ _ _ (rt_of r5 (by omega) hs))
      have hP6 := ro.2.1
      have h06 := hP6.2.2.1.2.2.2.2.1
      have r6 := rl_tr r5 ro
      have hB6 : NB (nxt s) z := nb_of hB1 r6 (by omega) (by omega) (by omega)
      have hc6 := nb_cap hB6 hP6
      have hpc : ∀ j, ((nxt s) 15) j = (σ 15) j := fun j => r6.1 15 j rfl rfl
      have fin : ∀ w : Int32, (w.toInt ≠ 0 → x8.toInt ≠ 0 ∧ y.toInt ≠ 0 ∧ x6.toInt = ((σ 15) e.toNatClampNeg).toInt) → wp_must w tk (nxt s) t z (fun s254 t254 z254 => (∃ J280 : Int32 → Prop, (∀ (y2_280 : Int32), J280 y2_280 → (((0 ≤ tk.toInt ∧ tk.toInt < 16002) ∧ wp_put_2 (19 : Int32) y2_280 (s254 5 tk.toNatClampNeg) s254 t254 z254 (fun s286 t286 z286 => ((z286).length < CAP ∧ ∀ q289 : Nat, q289 ∉ z286 → (∃ J309 : Int32 → Prop, (∀ (y2_309 : Int32), J309 y2_309 → (wp_Vinit q289 y2_309 s286 (upF t286 q289 (fun _ => 0)) (z286 ++ [q289]) (fun s309 t309 z309 => (q289 ∈ z309 ∧ ((x7 + (1 : Int32)).toInt ≤ 60 → Q q289 s309 (upC t309 q289 3 (x7 + (1 : Int32))) z309) ∧ (60 < (x7 + (1 : Int32)).toInt → wp_tell (4 : Int32) tk s309 (upC t309 q289 3 (x7 + (1 : Int32))) z309 (fun s336 t336 z336 => Q q289 s336 t336 z336)))))) ∧ (y.toInt = 0 → J309 ((-2) : Int32)) ∧ (y.toInt ≠ 0 → ((0 ≤ e.toInt ∧ e.toInt < 10000) ∧ J309 (s286 10 e.toNatClampNeg))))))))) ∧ (y.toInt = 0 → J280 (0 : Int32)) ∧ (y.toInt ≠ 0 → ((0 ≤ (s254 0 35).toInt ∧ (s254 0 35).toInt < 102) ∧ J280 (e - (s254 22 (s254 0 35).toNatClampNeg)))))) := fun w hw => by
        refine sp_must htk (fun s7 hs7 hf7 => ?_)
        have sq7 := sq_tl hs7
        have w7 := sq_wc sq7 h06
        have r7' := sq_rl (vs := z) hP6 sq7
        have r7 := rl_tr r6 r7'
        have eo7 : (s7 0 35) = (σ 0 35) := r7.1 _ _ rfl rfl
        have ef7 : ((s7 22) (s7 0 35).toNatClampNeg) = (σ 22) (σ 0 35).toNatClampNeg := by rw [eo7]; exact r7.1 22 _ rfl rfl
        rw [ef7]
        refine ⟨fun y2 => y.toInt ≠ 0 → y2 = e - ((σ 22) (σ 0 35).toNatClampNeg), fun y2 hy2 => ⟨htk, sp_put_2 w7.1 (by omega) (fun s8 p8 => ⟨hc6.1, fun q hq => ⟨fun ty => y.toInt ≠ 0 → ty = (σ 10) e.toNatClampNeg, fun ty hty => sp_Vinit (fun t9 ht9 => ?_), fun c q => absurd c q, fun c => ⟨by have := en c; omega, fun _ => ?_⟩⟩⟩)⟩, fun c q => absurd c q, fun c => ⟨by rw [eo7]; omega, fun _ => rfl⟩⟩
        rotate_left 1
        · have e1 : (s8 10) e.toNatClampNeg = (s7 10) e.toNatClampNeg := p8.1 10 _ rfl rfl
          rw [e1]
          exact r7.1 10 _ rfl rfl
        have sq8 := sq_tr sq7 (sq_pu p8)
        have done : ∀ s9, TL s8 s9 → Q q s9 (upC t9 q 3 (x7 + (1 : Int32))) (z ++ [q]) := fun s9 hs9 => by
          have sq9 := sq_tr sq8 (sq_tl hs9)
          have rC := sq_rl (vs := z) hP6 sq9
          have rF := rl_tr r6 rC
          have hv := nv_h (v := x7 + (1 : Int32)) ht9
          have v9 := vnw_nv hv
          have P9 := pos_sq sq9
          have I9 : (s9 0 39).toInt = ((nxt s) 0 39).toInt := by rw [ic_sq sq9]
          have W9 := (sq_wc sq9 h06).2.1
          simp only [List.length_cons, List.length_nil] at W9
          refine kQ _ _ _ _ ⟨rl_val rF v9, vfr_tr l2 l1.2.2.2.2.2.2.2.2.1 (vfr_vnw hq v9), ⟨by simp, fun c => hq (r6.2.2.2.2.2.2.2.2.1 _ c)⟩, fun c => ?_, by omega, by omega, ?_, ?_⟩
          · rw [(nv_at hv).2.1] at c
            exact absurd c (by decide)
          · simp only [List.length_append, List.length_cons, List.length_nil]
            omega
          · refine te_if (P := x8.toInt ≠ 0 ∧ y.toInt ≠ 0 ∧ x6.toInt = ((σ 15) e.toNatClampNeg).toInt) (fun g1 g2 => hw (hf7 (of0 (sq_pu p8).2.1 (of0 hs9.2 g1)) (sil_sq (sq_tr (sq_pu p8) (sq_tl hs9)) g2))) (fun g => ?_)
            obtain ⟨c1, c2, c3⟩ := g
            have e9 := en c2
            have e8 := esub c2
            have ty1 := hty c2
            have hse := (hy c2).2
            have pc8 := a4 e.toNatClampNeg
            have eev : ev (upC t9 q 3 (x7 + (1 : Int32))) q = if ((σ 10) e.toNatClampNeg).toInt = -1 then 0 else 1 := by
              unfold ev
              rw [(nv_at hv).1, (nv_at hv).2.1, ty1, if_neg (by decide)]
            have t1 : TE σ (nxt s) N 0 x6.toInt.toNat := te_rl h0 r5 ro (te_rl h0 r4 l1 (te4 N) (l7 c1).2) (te_nxt hP5.2.2.1.2.2.2.2.1 ro)
            have nn : (e.toNatClampNeg : Int) = e.toInt := nt (by omega)
            have kF : Fi s8 = Fi σ := by
              unfold Fi
              have q1 : (s8 0 35) = (σ 0 35) := (p8.1 0 35 rfl rfl).trans eo7
              have q2 : (s8 22) = (σ 22) := funext (fun j => (p8.1 22 j rfl rfl).trans (r7.1 22 j rfl rfl))
              rw [q1, q2]
            have kE : (s8 0 36).toInt = (σ 0 36).toInt := by rw [p8.1 0 36 rfl rfl, r7.1 0 36 rfl rfl]
            have kS : (s8 9) e.toNatClampNeg = (σ 9) e.toNatClampNeg := (p8.1 9 _ rfl rfl).trans (r7.1 9 _ rfl rfl)
            have kT9 : (s8 10) e.toNatClampNeg = (σ 10) e.toNatClampNeg := (p8.1 10 _ rfl rfl).trans (r7.1 10 _ rfl rfl)
            have kC : (s8 15) e.toNatClampNeg = (σ 15) e.toNatClampNeg := (p8.1 15 _ rfl rfl).trans (r7.1 15 _ rfl rfl)
            have kM : (s8 14) e.toNatClampNeg ≠ 0 := by
              rw [p8.1 14 _ rfl rfl]
              exact (rl_tr (rl_tr l1 ro) r7').2.2.2.1.1 _ (m4 c2).1
            have kFC : 0 ≤ ((s8 21) (e - ((σ 22) (σ 0 35).toNatClampNeg)).toNatClampNeg).toInt := by
              rw [p8.1 21 _ rfl rfl]
              exact (rl_tr (rl_tr l1 ro) r7').2.2.2.1.2 _ (m4 c2).2
            have te8 : TE s7 s8 N x6.toInt.toNat (if ((σ 10) e.toNatClampNeg).toInt = -1 then 0 else 1) := by
              refine te_put (n := 3) w7.1 p8 rfl (by decide) rfl (k := 19) rfl (fun g' H L x hH hn hx => ?_) (by split <;> omega)
              have ex := hx _ rfl
              rw [hy2 c2] at ex
              refine ⟨_, ?_, hn⟩
              rw [ex]
              refine ⟨by omega, by rw [kF, kE]; omega, e.toNatClampNeg, by rw [kF]; omega, by rw [kS]; exact hse, kM, kFC, by rw [kC]; omega, ?_⟩
              rw [kC, kT9]
              split <;> omega
            rw [eev]
            exact te_rl h0 r6 rC t1 (te_sq h06 sq7 (sq_tr (sq_pu p8) (sq_tl hs9)) (te_tl h06 hs7) (te_sq w7.1 (sq_pu p8) (sq_tl hs9) te8 (te_tl (sq_wc (sq_pu p8) w7.1).1 hs9)))
        exact ⟨by simp, fun _ => done _ tl_rf, fun _ => sp_tell (by decide) htk (fun s9 hs9 _ => done s9 hs9)⟩
      refine ⟨fun w => w.toInt ≠ 0 → x8.toInt ≠ 0 ∧ y.toInt ≠ 0 ∧ x6.toInt = ((σ 15) e.toNatClampNeg).toInt, fun w _ hw => fin w hw, ⟨True, fun _ => no0, fun _ => trivial, fun c8 => ⟨fun _ => trivial, fun cy => ⟨by have := en cy; omega, fun _ => trivial, fun c6 => fun _ => ⟨c8, cy, by rw [hpc] at c6; exact c6⟩⟩⟩⟩⟩
  have tail : ∀ e : Int32, (e.toInt = -1 ∨ (Fi σ ≤ e.toInt ∧ e.toInt < (σ 0 36).toInt)) → (0 ≤ e.toInt → 0 ≤ e.toInt ∧ e.toInt < 10000) := fun e he _ => by omega
  refine sp_local hP htk (fun l l1 l2 l3 => ⟨fun e => e.toInt = -1 ∨ (Fi σ ≤ e.toInt ∧ e.toInt < (σ 0 36).toInt), fun e he => ⟨fun y => y.toInt ≠ 0 → 0 ≤ e.toInt ∧ ((σ 9) e.toNatClampNeg).toInt = 2, fun y hy01 hy => main e he y hy01 hy, ⟨True, fun _ => no0, fun _ => trivial, fun c => ⟨tail e he c, fun _ => trivial, fun c2 _ => ⟨c, c2⟩⟩⟩⟩, fun _ => sp_entity hP htk (Or.inl (by decide)) (fun r r1 r2 => Or.inr ⟨r1, r2⟩), fun _ => Or.inl (by decide)⟩)
end CAL
