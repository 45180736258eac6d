section
/-! calls -/
section CAL
variable {σ s s' τ t t' : St} {vs z z' : List Nat}
theorem mul8 {x : Int32} (h0 : 0 ≤ x.toInt) (h1 : x.toInt ≤ 20000) : ((8 : Int32) * x).toInt = 8 * x.toInt := by
  have h := Int32.toInt_mul (8 : Int32) x
  rw [Int.bmod_def] at h
  have e : ((2 ^ 32 : Nat) : Int) = 4294967296 := by decide
  have e8 : (8 : Int32).toInt = 8 := by decide
  rw [e, e8] at h
  rw [h, Int.emod_eq_of_lt (by omega) (by omega), if_pos (by omega)]
theorem sp_call {k1 k2 : KX} {k3 : Int32 → KX} {k4 : Int32 → Nat → Int32 → KX} {k5 k6 k7 : KX} {k8 : Int32 → KX} {d : Int} {M N : Nat} (hd : 1 ≤ d ∧ d ≤ 25) (hE : d + 1 ≤ 25 → SX k1 (d + 1) M) (hM : 1 ≤ M) (hN : M + 8 ≤ N) : SXc (wp_call_0 k1 k2 k3 k4 k5 k6 k7 k8) d N := by
  intro tk a σ τ vs Q T had hP hB1 htk hkd kQ kT
  unfold wp_call_0
  have h0 := hP.2.2.1.2.2.2.2.1
  have hcap := nb_cap hB1 hP
  have h9 := hP
  obtain ⟨hT, hA, ⟨n1, n2, n3, n4, n5, n6, n7⟩, ⟨a1, a2, a3, a4, a5, a6, a7, a8, a9, b1, b2, b3⟩, h5⟩ := h9
  have main : ∀ e : Int32, (e.toInt = -1 ∨ (Fi σ ≤ e.toInt ∧ e.toInt < (σ 0 36).toInt)) → ∀ y : Int32, (y = 0 ∨ y = 1) → (y.toInt ≠ 0 → 0 ≤ e.toInt ∧ ((σ 9) e.toNatClampNeg).toInt = 2) → wp_must y tk σ τ vs (fun s43 t43 z43 => (∃ J58 : St → St → List Nat → Prop, (∀ (s58 t58 : St) (z58 : List Nat), J58 s58 t58 z58 → ((∃ J99 : St → St → List Nat → Prop, (∀ (s99 t99 : St) (z99 : List Nat), J99 s99 t99 z99 → (wp_deeper a s99 t99 z99 (fun v101 s101 t101 z101 => wp_is (21 : Int32) (upC s101 0 10 ((s101 0 10) + (1 : Int32))) t101 z101 (fun v128 => (∃ J220 : Int32 → Int32 → Int32 → St → St → List Nat → Prop, (∀ (x6_220 : Int32) (x7_220 : Int32) (x8_220 : Int32) (s220 t220 : St) (z220 : List Nat), x8_220 = 0 ∨ x8_220 = 1 → J220 x6_220 x7_220 x8_220 s220 t220 z220 → (wp_expect (21 : Int32) s220 t220 z220 (fun s223 t223 z223 => (∃ J253 : Int32 → Prop, (∀ (y1_253 : Int32), y1_253 = 0 ∨ y1_253 = 1 → J253 y1_253 → (wp_must y1_253 tk s223 t223 z223 (fun s254 t254 z254 => (∃ J280 : Int32 → Prop, (∀ (y2_280 : Int32), J280 y2_280 → (((0 ≤ tk.toInt ∧ tk.toInt < 16002) ∧ wp_put_2 (19 : Int32) y2_280 (s254 5 tk.toNatClampNeg) s254 t254 z254 (fun s286 t286 z286 => ((z286).length < CAP ∧ ∀ q289 : Nat, q289 ∉ z286 → (∃ J309 : Int32 → Prop, (∀ (y2_309 : Int32), J309 y2_309 → (wp_Vinit q289 y2_309 s286 (upF t286 q289 (fun _ => 0)) (z286 ++ [q289]) (fun s309 t309 z309 => (q289 ∈ z309 ∧ ((x7_220 + (1 : Int32)).toInt ≤ 60 → Q q289 s309 (upC t309 q289 3 (x7_220 + (1 : Int32))) z309) ∧ (60 < (x7_220 + (1 : Int32)).toInt → wp_tell (4 : Int32) tk s309 (upC t309 q289 3 (x7_220 + (1 : Int32))) z309 (fun s336 t336 z336 => Q q289 s336 t336 z336)))))) ∧ (y.toInt = 0 → J309 ((-2) : Int32)) ∧ (y.toInt ≠ 0 → ((0 ≤ e.toInt ∧ e.toInt < 10000) ∧ J309 (s286 10 e.toNatClampNeg))))))))) ∧ (y.toInt = 0 → J280 (0 : Int32)) ∧ (y.toInt ≠ 0 → ((0 ≤ (s254 0 35).toInt ∧ (s254 0 35).toInt < 102) ∧ J280 (e - (s254 22 (s254 0 35).toNatClampNeg)))))))) ∧ (∃ J252 : Prop, (J252 → (J253 (0 : Int32))) ∧ (x8_220.toInt = 0 → J252) ∧ (x8_220.toInt ≠ 0 → (y.toInt = 0 → J252) ∧ (y.toInt ≠ 0 → ((0 ≤ e.toInt ∧ e.toInt < 10000) ∧ (x6_220.toInt ≠ (s223 15 e.toNatClampNeg).toInt → J252) ∧ (x6_220.toInt = (s223 15 e.toNatClampNeg).toInt → J253 (1 : Int32)))))))) T)) ∧ (v128.toInt ≠ 0 → J220 (0 : Int32) (0 : Int32) (1 : Int32) (upC s101 0 10 ((s101 0 10) + (1 : Int32))) t101 z101) ∧ (v128.toInt = 0 → ∃ L134 : Nat → Int32 → Int32 → Int32 → St → St → List Nat → Prop, (∃ n, L134 n (0 : Int32) (0 : Int32) (1 : Int32) (upC s101 0 10 ((s101 0 10) + (1 : Int32))) t101 z101) ∧ ∀ (n134 : Nat) (x6_134 : Int32) (x7_134 : Int32) (x8_134 : Int32) (s134 t134 : St) (z134 : List Nat), x8_134 = 0 ∨ x8_134 = 1 → L134 n134 x6_134 x7_134 x8_134 s134 t134 z134 → (k1 v101 s134 t134 z134 (fun u137 s137 t137 z137 => wp_read_1 u137 s137 t137 z137 (fun s145 t145 z145 => (∃ J194 : Int32 → Prop, (∀ (y0_194 : Int32), y0_194 = 0 ∨ y0_194 = 1 → J194 y0_194 → ((u137 ∈ z145 ∧ wp_accept (26 : Int32) s145 t145 z145 (fun v214 s214 t214 z214 => (v214.toInt ≠ 0 → ∃ m, m < n134 ∧ L134 m (x6_134 + 1) (if x7_134 < (t145 u137 3) then (t145 u137 3) else x7_134) y0_194 s214 t214 z214) ∧ (v214.toInt = 0 → J220 (x6_134 + 1) (if x7_134 < (t145 u137 3) then (t145 u137 3) else x7_134) y0_194 s214 t214 z214))))) ∧ (∃ J193 : Prop, (J193 → (J194 (0 : Int32))) ∧ (x8_134.toInt = 0 → J193) ∧ (x8_134.toInt ≠ 0 → (y.toInt = 0 → J193) ∧ (y.toInt ≠ 0 → ((0 ≤ e.toInt ∧ e.toInt < 10000) ∧ ((s145 15 e.toNatClampNeg).toInt ≤ x6_134.toInt → J193) ∧ (x6_134.toInt < (s145 15 e.toNatClampNeg).toInt → ((0 ≤ (((8 : Int32) * e) + x6_134).toInt ∧ (((8 : Int32) * e) + x6_134).toInt < 80000) ∧ wp_fits u137 (s145 16 (((8 : Int32) * e) + x6_134).toNatClampNeg) s145 t145 z145 (fun v183 => (v183.toInt = 0 → J193) ∧ (v183.toInt ≠ 0 → J194 (1 : Int32)))))))))))) T))))) T)) ∧ (y.toInt = 0 → J99 s58 t58 z58) ∧ (y.toInt ≠ 0 → ((0 ≤ (s58 0 35).toInt ∧ (s58 0 35).toInt < 102) ∧ ((0 ≤ (e - (s58 22 (s58 0 35).toNatClampNeg)).toInt ∧ (e - (s58 22 (s58 0 35).toNatClampNeg)).toInt < 100) ∧ (0 ≤ (s58 21 (e - (s58 22 (s58 0 35).toNatClampNeg)).toNatClampNeg).toInt → J99 s58 t58 z58) ∧ ((s58 21 (e - (s58 22 (s58 0 35).toNatClampNeg)).toNatClampNeg).toInt < 0 → ((0 ≤ (s58 0 35).toInt ∧ (s58 0 35).toInt < 102) ∧ ((0 ≤ (e - (s58 22 (s58 0 35).toNatClampNeg)).toInt ∧ (e - (s58 22 (s58 0 35).toNatClampNeg)).toInt < 100) ∧ J99 (upC s58 21 (e - (s58 22 (s58 0 35).toNatClampNeg)).toNatClampNeg tk) t58 z58))))))))) ∧ (y.toInt = 0 → J58 s43 t43 z43) ∧ (y.toInt ≠ 0 → ((0 ≤ e.toInt ∧ e.toInt < 10000) ∧ J58 (upC s43 14 e.toNatClampNeg (vp_nar .boolean (1 : Int32))) t43 z43)))) := fun e he y hy01 hy => by
    refine sp_must htk (fun s1 hs1 hf1 => ?_)
    have en : y.toInt ≠ 0 → Fi σ ≤ e.toInt ∧ e.toInt < (σ 0 36).toInt := fun c => by
      have := (hy c).1
      omega
    have hF : ((σ 22) (σ 0 35).toNatClampNeg).toInt = Fi σ := rfl
    have esub : y.toInt ≠ 0 → (e - ((σ 22) (σ 0 35).toNatClampNeg)).toInt = e.toInt - Fi σ := fun c => by
      have := en c
      rw [← hF]
      exact sb (by rw [hF]; omega) (by rw [hF]; omega)
    -- the states before the (
    refine ⟨fun s t z => τ = t ∧ vs = z ∧ RL σ vs s τ vs ∧ pos s = pos σ ∧ (s 0 10) = (σ 0 10) ∧ (s 0 17).toInt = (σ 0 17).toInt ∧ (s 0 39).toInt = (σ 0 39).toInt ∧ ((s 0 12).toInt = 0 → (s 0 15).toInt = 0 → y.toInt ≠ 0) ∧ (∀ N9 : Nat, TE σ s N9 0 0) ∧ (y.toInt ≠ 0 → (s 14) e.toNatClampNeg ≠ 0), ?_, ?_, ?_⟩
    rotate_left 1
    · intro c
      have sq := sq_tl hs1
      exact ⟨rfl, rfl, sq_rl hP sq, pos_sq sq, hs1.1 _ _ rfl rfl, by rw [hs1.1 0 17 rfl rfl], by rw [ic_sq sq], hf1, fun _ => te_tl h0 hs1, fun q => absurd c q⟩
    · intro c
      have e9 := en c
      have sq := sq_tl hs1
      have r0 := sq_rl (vs := vs) hP sq
      have rr : RL σ vs (upC s1 14 e.toNatClampNeg (vp_nar .boolean (1 : Int32))) τ vs := rl_mk hP (kp_a r0.1 rfl) (hs1.1 0 10 rfl rfl) r0.2.2.2.2.2.1 (fun j _ => hs1.1 8 j rfl rfl) r0.2.2.2.2.2.2.1 r0.2.1.2.2.1.2.2.2.1 r0.2.1.2.2.2.1.2.2.1 ⟨fun j q1 => by
        rw [rdA]
        by_cases q2 : j = e.toNatClampNeg
        · rw [if_pos q2, nar_b1]; decide
        · rw [if_neg q2]
          have f1 : (s1 14) j = (σ 14) j := hs1.1 14 j rfl rfl
          rw [f1]; exact q1, fun n q1 => by
        have f1 : (s1 21) n = (σ 21) n := hs1.1 21 n rfl rfl
        show 0 ≤ ((s1 21) n).toInt
        rw [f1]; exact q1⟩ hs1.2 (ie_of (funext (fun j => hs1.1 25 j rfl rfl)) (hs1.1 0 39 rfl rfl) (hs1.1 0 37 rfl rfl)) h5 (fun _ h => h) (Nat.le_refl _)
      exact ⟨by omega, rfl, rfl, rr, (show pos s1 = pos σ from pos_sq sq), hs1.1 0 10 rfl rfl, by show (s1 0 17).toInt = _; rw [hs1.1 0 17 rfl rfl], by show (s1 0 39).toInt = _; rw [hs1.1 0 39 rfl rfl], hf1, fun _ => te_same h0 (hs1.1 0 17 rfl rfl) rr.2.2.1 (ev_ke rr.1 rr.2.2.2.1), fun _ => by rw [rdA, if_pos rfl, nar_b1]; decide⟩
    rintro s2 _ _ ⟨rfl, rfl, r2, p2, at2, w2, i2, f2, te2, m2⟩
    have eo : (s2 0 35) = (σ 0 35) := r2.1 _ _ rfl rfl
    have ef : ((s2 22) (s2 0 35).toNatClampNeg) = (σ 22) (σ 0 35).toNatClampNeg := by rw [eo]; exact r2.1 22 _ rfl rfl
    rw [ef]
    refine ⟨fun s t z => τ = t ∧ vs = z ∧ RL σ vs s τ vs ∧ pos s = pos σ ∧ (s 0 10) = (σ 0 10) ∧ (s 0 17).toInt = (σ 0 17).toInt ∧ (s 0 39).toInt = (σ 0 39).toInt ∧ ((s 0 12).toInt = 0 → (s 0 15).toInt = 0 → y.toInt ≠ 0) ∧ (∀ N9 : Nat, TE σ s N9 0 0) ∧ (y.toInt ≠ 0 → (s 14) e.toNatClampNeg ≠ 0 ∧ 0 ≤ ((s 21) (e - ((σ 22) (σ 0 35).toNatClampNeg)).toNatClampNeg).toInt), ?_, fun c => ⟨rfl, rfl, r2, p2, at2, w2, i2, f2, te2, fun q => absurd c q⟩, fun c => ?_⟩
    rotate_left 1
    · have e9 := en c
      have e8 := esub c
      refine ⟨by rw [eo]; omega, by omega, fun c2 => ⟨rfl, rfl, r2, p2, at2, w2, i2, f2, te2, fun _ => ⟨m2 c, c2⟩⟩, fun c2 => ⟨by rw [eo]; omega, by omega, rfl, rfl, ?_⟩⟩
      have rr : RL σ vs (upC s2 21 (e - ((σ 22) (σ 0 35).toNatClampNeg)).toNatClampNeg tk) τ vs := rl_mk hP (kp_a r2.1 rfl) at2 r2.2.2.2.2.2.1 r2.2.2.1 r2.2.2.2.2.2.2.1 r2.2.1.2.2.1.2.2.2.1 (acr_up r2.2.1.2.2.2.1.2.2.1 ⟨by omega, by omega⟩) ⟨r2.2.2.2.1.1, fun n q1 => by
        rw [rdA]
        by_cases q2 : n = (e - ((σ 22) (σ 0 35).toNatClampNeg)).toNatClampNeg
        · rw [if_pos q2]; exact htk.1
        · rw [if_neg q2]
          exact r2.2.2.2.1.2 n q1⟩ r2.2.2.2.2.1 r2.2.2.2.2.2.2.2.2.2.2 h5 (fun _ h => h) (Nat.le_refl _)
      refine ⟨rr, p2, at2, w2, i2, f2, fun _ => te_same h0 ?_ rr.2.2.1 (ev_ke rr.1 rr.2.2.2.1), fun _ => ⟨m2 c, by rw [rdA, if_pos rfl]; exact htk.1⟩⟩
      exact ieq w2
    rintro s3 _ _ ⟨rfl, rfl, r3, p3, at3, w3, i3, f3, te3, m3⟩
    have hP3 := r3.2.1
    refine sp_deeper hP3 (by omega) (fun hd2 ed => ?_) (fun s hs => kT _ _ _ (rt_of r3 (by omega) hs))
    have hk3 : kd s3 = 52 := by
      have e2 : (s3 2) = (σ 2) := funext (fun j => r3.1 2 j rfl rfl)
      unfold kd at *
      rw [at3, e2]
      exact hkd
    obtain ⟨rn, pn, wn, icn⟩ := rl_nxt (vs := vs) hP3 (by omega)
    have r4 := rl_tr r3 rn
    have hP4 := rn.2.1
    have te4 : ∀ N9, TE σ (nxt s3) N9 0 0 := fun N9 => te_rl h0 r3 rn (te3 N9) (te_nxt hP3.2.2.1.2.2.2.2.1 rn)
    have m4 : y.toInt ≠ 0 → ((nxt s3) 14) e.toNatClampNeg ≠ 0 ∧ 0 ≤ (((nxt s3) 21) (e - ((σ 22) (σ 0 35).toNatClampNeg)).toNatClampNeg).toInt := m3
    have f4 : ((nxt s3) 0 12).toInt = 0 → ((nxt s3) 0 15).toInt = 0 → y.toInt ≠ 0 := f3
    rw [show upC s3 0 10 ((s3 0 10) + (1 : Int32)) = nxt s3 from rfl]
    generalize hs0 : nxt s3 = s0 at *
    have pc4 : y.toInt ≠ 0 → 0 ≤ ((σ 15) e.toNatClampNeg).toInt ∧ ((σ 15) e.toNatClampNeg).toInt ≤ 8 := fun _ => a4 _
    have hsz := rl_sz r4
    -- behind so many arguments
    have base : ∀ (Y : Int32) (s t : St) (z : List Nat), True := fun _ _ _ _ => trivial
    refine sp_is hP4 (fun hc => ?_) (fun hc => ?_)
    all_goals
      refine ⟨fun x6 _ x8 s t z => RL s0 vs s t z ∧ VFr τ vs t ∧ (s 0 17).toInt ≤ (s0 0 17).toInt + 40 * (pos s - pos s0) ∧ (s 0 39).toInt ≤ (s0 0 39).toInt + 12 * (pos s - pos s0) ∧ (z.length : Int) ≤ vs.length + 2 * (pos s - pos s0) ∧ (0 ≤ x6.toInt ∧ x6.toInt ≤ pos s - pos s0) ∧ (x8.toInt ≠ 0 → (x6.toInt ≠ 0 → y.toInt ≠ 0 ∧ x6.toInt ≤ ((σ 15) e.toNatClampNeg).toInt) ∧ TE s0 s N 0 x6.toInt.toNat), ?_, ?_, ?_⟩
    case refine_1.refine_2 => exact fun _ => ⟨rl_rf hP4, fun _ _ => rfl, by omega, by omega, by omega, ⟨by decide, by show (0 : Int) ≤ _; omega⟩, fun _ => ⟨fun q => absurd rfl q, te_rf⟩⟩
    case refine_1.refine_3 => exact fun c => absurd c (by decide)
    case refine_2.refine_2 => exact fun c => absurd rfl c
    case refine_2.refine_3 =>
      intro _
      refine ⟨fun n x6 _ x8 s t z => (n = ((σ 0 9).toInt - pos s).toNat) ∧ RL s0 vs s t z ∧ VFr τ vs t ∧ (s 0 17).toInt ≤ (s0 0 17).toInt + 40 * (pos s - pos s0) ∧ (s 0 39).toInt ≤ (s0 0 39).toInt + 12 * (pos s - pos s0) ∧ (z.length : Int) ≤ vs.length + 2 * (pos s - pos s0) ∧ (0 ≤ x6.toInt ∧ x6.toInt ≤ pos s - pos s0) ∧ (x8.toInt ≠ 0 → (x6.toInt ≠ 0 → y.toInt ≠ 0 ∧ x6.toInt ≤ ((σ 15) e.toNatClampNeg).toInt) ∧ TE s0 s N 0 x6.toInt.toNat), ⟨_, rfl, rl_rf hP4, fun _ _ => rfl, by omega, by omega, by omega, ⟨by decide, by show (0 : Int) ≤ _; omega⟩, fun _ => ⟨fun q => absurd rfl q, te_rf⟩⟩, ?_⟩
      rintro n x6 x7 x8 s t z - ⟨hn, l1, l2, l3, l4, l5, l6, l7⟩
      have r5 := rl_tr r4 l1
      have hB5 : NB s z := nb_of hB1 r5 (by omega) (by omega) (by omega)
      refine hE (by omega) _ s t z _ T (by omega) l1.2.1 hB5 (fun u s5 t5 z5 r => ?_) (fun s' t' z' hs => kT _ _ _ (rt_of r5 (by omega) hs))
      refine sp_read r.1.2.1 (re_nb hB5 r) r.2.2.1.1 (fun s6 hrd => ?_)
      obtain ⟨g1, g2, g3, g4, g5, g6, g7, g8⟩ := re_read l1.2.1 r hrd hM
      have hP6 := g1.2.1
      have l16 := rl_tr l1 g1
      have m6 := g1.2.2.2.2.2.2.2.1
      have hp6 := pos_in hP6.1 hP6.2.1
      have sz6 := rl_sz (rl_tr r5 g1)
      have hu := r.2.2.1.1
      have hp5 := pos_in l1.2.1.1 l1.2.1.2.1
      have hp4 := pos_in hP4.1 hP4.2.1
      have mw := g1.2.2.2.2.2.1
      have ex6 := ad1 (x := x6) (by omega)
      have v6 := vfr_tr l2 l1.2.2.2.2.2.2.2.2.1 g2
      have hpc : ∀ j, (s6 15) j = (σ 15) j := fun j => (rl_tr r5 g1).1 15 j rfl rfl
      have hpt : ∀ j, (s6 16) j = (σ 16) j := fun j => (rl_tr r5 g1).1 16 j rfl rfl
      refine ⟨fun w => w.toInt ≠ 0 → (x8.toInt ≠ 0 ∧ y.toInt ≠ 0 ∧ x6.toInt < ((σ 15) e.toNatClampNeg).toInt) ∧ (upC t5 u 1 (0 : Int32) u 0).toInt ≠ -1, fun w _ hw => ⟨hu, ?_⟩, ?_⟩
      · -- , or the end
        have step : w.toInt ≠ 0 → (y.toInt ≠ 0 ∧ (x6 + 1).toInt ≤ ((σ 15) e.toNatClampNeg).toInt) ∧ TE s0 s6 N 0 (x6 + 1).toInt.toNat := fun c => by
          obtain ⟨⟨c1, c2, c3⟩, c4⟩ := hw c
          obtain ⟨d1, d2⟩ := l7 c1
          have eu : ev (upC t5 u 1 (0 : Int32)) u = 1 := ev_st (by rw [rdA, if_pos rfl]; rfl) c4
          rw [eu] at g6
          have := (a4 e.toNatClampNeg).2
          refine ⟨⟨c2, by omega⟩, ?_⟩
          have e7 : (x6 + 1).toInt.toNat = x6.toInt.toNat + 1 := by omega
          rw [e7]
          exact te_rl hP4.2.2.1.2.2.2.2.1 l1 g1 d2 (te_up (c := x6.toInt.toNat) g6 (by omega))
        unfold wp_accept
        refine sp_is hP6 (fun hk6 => ⟨fun _ => ⟨fun _ => ?_, no1⟩, no1⟩) (fun _ => ⟨no0, fun _ => ⟨no0, fun _ => ?_⟩⟩)
        · have hk6' : kd s6 = 58 := hk6
          obtain ⟨ro, po, wo, ico⟩ := rl_nxt (vs := z5) hP6 (by omega)
          have hpo := pos_in ro.2.1.1 ro.2.1.2.1
          have szo := rl_sz ro
          refine ⟨((σ 0 9).toInt - pos (nxt s6)).toNat, by omega, rfl, rl_tr l16 ro, v6, ?_, ?_, ?_, ?_, fun c => ?_⟩
          · show ((nxt s6) 0 17).toInt ≤ (s0 0 17).toInt + 40 * (pos (nxt s6) - pos s0); omega
          · show ((nxt s6) 0 39).toInt ≤ (s0 0 39).toInt + 12 * (pos (nxt s6) - pos s0); omega
          · show _ ≤ (vs.length : Int) + 2 * (pos (nxt s6) - pos s0); omega
          · show _ ∧ _ ≤ pos (nxt s6) - pos s0; omega
          · exact ⟨fun _ => (step c).1, te_rl hP4.2.2.1.2.2.2.2.1 l16 ro (step c).2 (te_nxt hP6.2.2.1.2.2.2.2.1 ro)⟩
        · exact ⟨l16, v6, by omega, by omega, by omega, by omega, fun c => ⟨fun _ => (step c).1, (step c).2⟩⟩
      · -- whether it fits
        refine ⟨True, fun _ => no0, fun _ => trivial, fun c8 => ⟨fun _ => trivial, fun cy => ?_⟩⟩
        have e9 := en cy
        have e8 := (a4 e.toNatClampNeg)
        refine ⟨by omega, fun _ => trivial, fun c6 => ?_⟩
        rw [hpc] at c6
        have em := mul8 (x := e) (by omega) (by omega)
        have ea : ((8 : Int32) * e + x6).toInt = 8 * e.toInt + x6.toInt := by rw [ad (by omega) (by omega), em]
        refine ⟨by omega, sp_fits hu (fun c => ⟨no1, fun _ _ => ⟨⟨c8, cy, c6⟩, ?_⟩⟩) ⟨fun _ => trivial, no0⟩⟩
        rcases c with c | ⟨-, c⟩
        · rw [c, hpt]
          have := (b2 ((8 : Int32) * e + x6).toNatClampNeg).1
          omega
        · have := (hP6.2.2.2.2 u).2.2.2.2.2 c
          omega
    all_goals
      rintro x6 x7 x8 s t z - ⟨l1, l2, l3, l4, l5, l6, l7⟩
      have r5 := rl_tr r4 l1
      have hP5 := l1.2.1
      refine sp_expect hP5 (by decide) (fun hk5 ro po wo ico => ?_) (fun s' hs => kT _ _ _ (rt_of r5 (by omega) hs))
      have hP6 := ro.2.1
      have h06 := hP6.2.2.1.2.2.2.2.1
      have r6 := rl_tr r5 ro
      have hB6 : NB (nxt s) z := nb_of hB1 r6 (by omega) (by omega) (by omega)
      have hc6 := nb_cap hB6 hP6
      have hpc : ∀ j, ((nxt s) 15) j = (σ 15) j := fun j => r6.1 15 j rfl rfl
      have fin : ∀ w : Int32, (w.toInt ≠ 0 → x8.toInt ≠ 0 ∧ y.toInt ≠ 0 ∧ x6.toInt = ((σ 15) e.toNatClampNeg).toInt) → wp_must w tk (nxt s) t z (fun s254 t254 z254 => (∃ J280 : Int32 → Prop, (∀ (y2_280 : Int32), J280 y2_280 → (((0 ≤ tk.toInt ∧ tk.toInt < 16002) ∧ wp_put_2 (19 : Int32) y2_280 (s254 5 tk.toNatClampNeg) s254 t254 z254 (fun s286 t286 z286 => ((z286).length < CAP ∧ ∀ q289 : Nat, q289 ∉ z286 → (∃ J309 : Int32 → Prop, (∀ (y2_309 : Int32), J309 y2_309 → (wp_Vinit q289 y2_309 s286 (upF t286 q289 (fun _ => 0)) (z286 ++ [q289]) (fun s309 t309 z309 => (q289 ∈ z309 ∧ ((x7 + (1 : Int32)).toInt ≤ 60 → Q q289 s309 (upC t309 q289 3 (x7 + (1 : Int32))) z309) ∧ (60 < (x7 + (1 : Int32)).toInt → wp_tell (4 : Int32) tk s309 (upC t309 q289 3 (x7 + (1 : Int32))) z309 (fun s336 t336 z336 => Q q289 s336 t336 z336)))))) ∧ (y.toInt = 0 → J309 ((-2) : Int32)) ∧ (y.toInt ≠ 0 → ((0 ≤ e.toInt ∧ e.toInt < 10000) ∧ J309 (s286 10 e.toNatClampNeg))))))))) ∧ (y.toInt = 0 → J280 (0 : Int32)) ∧ (y.toInt ≠ 0 → ((0 ≤ (s254 0 35).toInt ∧ (s254 0 35).toInt < 102) ∧ J280 (e - (s254 22 (s254 0 35).toNatClampNeg)))))) := fun w hw => by
        refine sp_must htk (fun s7 hs7 hf7 => ?_)
        have sq7 := sq_tl hs7
        have w7 := sq_wc sq7 h06
        have r7' := sq_rl (vs := z) hP6 sq7
        have r7 := rl_tr r6 r7'
        have eo7 : (s7 0 35) = (σ 0 35) := r7.1 _ _ rfl rfl
        have ef7 : ((s7 22) (s7 0 35).toNatClampNeg) = (σ 22) (σ 0 35).toNatClampNeg := by rw [eo7]; exact r7.1 22 _ rfl rfl
        rw [ef7]
        refine ⟨fun y2 => y.toInt ≠ 0 → y2 = e - ((σ 22) (σ 0 35).toNatClampNeg), fun y2 hy2 => ⟨htk, sp_put_2 w7.1 (by omega) (fun s8 p8 => ⟨hc6.1, fun q hq => ⟨fun ty => y.toInt ≠ 0 → ty = (σ 10) e.toNatClampNeg, fun ty hty => sp_Vinit (fun t9 ht9 => ?_), fun c q => absurd c q, fun c => ⟨by have := en c; omega, fun _ => ?_⟩⟩⟩)⟩, fun c q => absurd c q, fun c => ⟨by rw [eo7]; omega, fun _ => rfl⟩⟩
        rotate_left 1
        · have e1 : (s8 10) e.toNatClampNeg = (s7 10) e.toNatClampNeg := p8.1 10 _ rfl rfl
          rw [e1]
          exact r7.1 10 _ rfl rfl
        have sq8 := sq_tr sq7 (sq_pu p8)
        have done : ∀ s9, TL s8 s9 → Q q s9 (upC t9 q 3 (x7 + (1 : Int32))) (z ++ [q]) := fun s9 hs9 => by
          have sq9 := sq_tr sq8 (sq_tl hs9)
          have rC := sq_rl (vs := z) hP6 sq9
          have rF := rl_tr r6 rC
          have hv := nv_h (v := x7 + (1 : Int32)) ht9
          have v9 := vnw_nv hv
          have P9 := pos_sq sq9
          have I9 : (s9 0 39).toInt = ((nxt s) 0 39).toInt := by rw [ic_sq sq9]
          have W9 := (sq_wc sq9 h06).2.1
          simp only [List.length_cons, List.length_nil] at W9
          refine kQ _ _ _ _ ⟨rl_val rF v9, vfr_tr l2 l1.2.2.2.2.2.2.2.2.1 (vfr_vnw hq v9), ⟨by simp, fun c => hq (r6.2.2.2.2.2.2.2.2.1 _ c)⟩, fun c => ?_, by omega, by omega, ?_, ?_⟩
          · rw [(nv_at hv).2.1] at c
            exact absurd c (by decide)
          · simp only [List.length_append, List.length_cons, List.length_nil]
            omega
          · refine te_if (P := x8.toInt ≠ 0 ∧ y.toInt ≠ 0 ∧ x6.toInt = ((σ 15) e.toNatClampNeg).toInt) (fun g1 g2 => hw (hf7 (of0 (sq_pu p8).2.1 (of0 hs9.2 g1)) (sil_sq (sq_tr (sq_pu p8) (sq_tl hs9)) g2))) (fun g => ?_)
            obtain ⟨c1, c2, c3⟩ := g
            have e9 := en c2
            have e8 := esub c2
            have ty1 := hty c2
            have hse := (hy c2).2
            have pc8 := a4 e.toNatClampNeg
            have eev : ev (upC t9 q 3 (x7 + (1 : Int32))) q = if ((σ 10) e.toNatClampNeg).toInt = -1 then 0 else 1 := by
              unfold ev
              rw [(nv_at hv).1, (nv_at hv).2.1, ty1, if_neg (by decide)]
            have t1 : TE σ (nxt s) N 0 x6.toInt.toNat := te_rl h0 r5 ro (te_rl h0 r4 l1 (te4 N) (l7 c1).2) (te_nxt hP5.2.2.1.2.2.2.2.1 ro)
            have nn : (e.toNatClampNeg : Int) = e.toInt := nt (by omega)
            have kF : Fi s8 = Fi σ := by
              unfold Fi
              have q1 : (s8 0 35) = (σ 0 35) := (p8.1 0 35 rfl rfl).trans eo7
              have q2 : (s8 22) = (σ 22) := funext (fun j => (p8.1 22 j rfl rfl).trans (r7.1 22 j rfl rfl))
              rw [q1, q2]
            have kE : (s8 0 36).toInt = (σ 0 36).toInt := by rw [p8.1 0 36 rfl rfl, r7.1 0 36 rfl rfl]
            have kS : (s8 9) e.toNatClampNeg = (σ 9) e.toNatClampNeg := (p8.1 9 _ rfl rfl).trans (r7.1 9 _ rfl rfl)
            have kT9 : (s8 10) e.toNatClampNeg = (σ 10) e.toNatClampNeg := (p8.1 10 _ rfl rfl).trans (r7.1 10 _ rfl rfl)
            have kC : (s8 15) e.toNatClampNeg = (σ 15) e.toNatClampNeg := (p8.1 15 _ rfl rfl).trans (r7.1 15 _ rfl rfl)
            have kM : (s8 14) e.toNatClampNeg ≠ 0 := by
              rw [p8.1 14 _ rfl rfl]
              exact (rl_tr (rl_tr l1 ro) r7').2.2.2.1.1 _ (m4 c2).1
            have kFC : 0 ≤ ((s8 21) (e - ((σ 22) (σ 0 35).toNatClampNeg)).toNatClampNeg).toInt := by
              rw [p8.1 21 _ rfl rfl]
              exact (rl_tr (rl_tr l1 ro) r7').2.2.2.1.2 _ (m4 c2).2
            have te8 : TE s7 s8 N x6.toInt.toNat (if ((σ 10) e.toNatClampNeg).toInt = -1 then 0 else 1) := by
              refine te_put (n := 3) w7.1 p8 rfl (by decide) rfl (k := 19) rfl (fun g' H L x hH hn hx => ?_) (by split <;> omega)
              have ex := hx _ rfl
              rw [hy2 c2] at ex
              refine ⟨_, ?_, hn⟩
              rw [ex]
              refine ⟨by omega, by rw [kF, kE]; omega, e.toNatClampNeg, by rw [kF]; omega, by rw [kS]; exact hse, kM, kFC, by rw [kC]; omega, ?_⟩
              rw [kC, kT9]
              split <;> omega
            rw [eev]
            exact te_rl h0 r6 rC t1 (te_sq h06 sq7 (sq_tr (sq_pu p8) (sq_tl hs9)) (te_tl h06 hs7) (te_sq w7.1 (sq_pu p8) (sq_tl hs9) te8 (te_tl (sq_wc (sq_pu p8) w7.1).1 hs9)))
        exact ⟨by simp, fun _ => done _ tl_rf, fun _ => sp_tell (by decide) htk (fun s9 hs9 _ => done s9 hs9)⟩
      refine ⟨fun w => w.toInt ≠ 0 → x8.toInt ≠ 0 ∧ y.toInt ≠ 0 ∧ x6.toInt = ((σ 15) e.toNatClampNeg).toInt, fun w _ hw => fin w hw, ⟨True, fun _ => no0, fun _ => trivial, fun c8 => ⟨fun _ => trivial, fun cy => ⟨by have := en cy; omega, fun _ => trivial, fun c6 => fun _ => ⟨c8, cy, by rw [hpc] at c6; exact c6⟩⟩⟩⟩⟩
  have tail : ∀ e : Int32, (e.toInt = -1 ∨ (Fi σ ≤ e.toInt ∧ e.toInt < (σ 0 36).toInt)) → (0 ≤ e.toInt → 0 ≤ e.toInt ∧ e.toInt < 10000) := fun e he _ => by omega
  refine sp_local hP htk (fun l l1 l2 l3 => ⟨fun e => e.toInt = -1 ∨ (Fi σ ≤ e.toInt ∧ e.toInt < (σ 0 36).toInt), fun e he => ⟨fun y => y.toInt ≠ 0 → 0 ≤ e.toInt ∧ ((σ 9) e.toNatClampNeg).toInt = 2, fun y hy01 hy => main e he y hy01 hy, ⟨True, fun _ => no0, fun _ => trivial, fun c => ⟨tail e he c, fun _ => trivial, fun c2 _ => ⟨c, c2⟩⟩⟩⟩, fun _ => sp_entity hP htk (Or.inl (by decide)) (fun r r1 r2 => Or.inr ⟨r1, r2⟩), fun _ => Or.inl (by decide)⟩)
end CAL
end

section
/-! the expressions' group -/
def NE (d : Int) : Nat := (20 * (26 - d) + 1).toNat
theorem sx_le {K : KX} {d : Int} {N N' : Nat} (h : SX K d N) (hN : N ≤ N') : SX K d N' := fun a σ τ vs Q T had hP hB kQ kT => h a σ τ vs Q T had hP hB (fun u s t z r => kQ u s t z ⟨r.1, r.2.1, r.2.2.1, r.2.2.2.1, r.2.2.2.2.1, r.2.2.2.2.2.1, r.2.2.2.2.2.2.1, te_le r.2.2.2.2.2.2.2 hN⟩) kT
theorem sxd_le {K : Int32 → Nat → Int32 → KX} {o d : Int} {N N' : Nat} (h : SXd K o d N) (hN : N ≤ N') : SXd K o d N' := fun op v tk a σ τ vs Q T h1 h2 h3 h4 h5 h6 h7 h8 kQ kT => h op v tk a σ τ vs Q T h1 h2 h3 h4 h5 h6 h7 h8 (fun u s t z r => kQ u s t z ⟨r.1, r.2.1, r.2.2.1, r.2.2.2.1, r.2.2.2.2.1, r.2.2.2.2.2.1, r.2.2.2.2.2.2.1, te_le r.2.2.2.2.2.2.2 hN⟩) kT
theorem sxc_le {K : Int32 → KX} {d : Int} {N N' : Nat} (h : SXc K d N) (hN : N ≤ N') : SXc K d N' := fun tk a σ τ vs Q T h1 h2 h3 h4 h5 kQ kT => h tk a σ τ vs Q T h1 h2 h3 h4 h5 (fun u s t z r => kQ u s t z ⟨r.1, r.2.1, r.2.2.1, r.2.2.2.1, r.2.2.2.2.1, r.2.2.2.2.2.1, r.2.2.2.2.2.2.1, te_le r.2.2.2.2.2.2.2 hN⟩) kT
/-- at so much fuel -/
def EF (n : Nat) : Prop := ∀ d : Int, 1 ≤ d → d ≤ 25 →
  (39 + 40 * (25 - d) < n → SX (KKE n).1 d (NE d)) ∧
  (38 + 40 * (25 - d) < n → SX (KKE n).2.1 d (NE d)) ∧
  (∀ l : Int, 1 ≤ l → l ≤ 11 → 31 - 2 * l + 40 * (25 - d) < n → SXb (KKE n).2.2.1 l d (NE (d + 1) + 8 + (13 - l).toNat)) ∧
  (∀ o : Int, o = 10 ∨ o = 11 → 30 - 2 * rkf o + 40 * (25 - d) < n → SXd (KKE n).2.2.2.1 o d (NE (d + 1) + 8 + (13 - rkf o).toNat)) ∧
  (7 + 40 * (25 - d) < n → SX (KKE n).2.2.2.2.1 d (NE (d + 1) + 8)) ∧
  (6 + 40 * (25 - d) < n → SX (KKE n).2.2.2.2.2.1 d (NE (d + 1) + 8)) ∧
  (5 + 40 * (25 - d) < n → SX (KKE n).2.2.2.2.2.2.1 d (NE (d + 1) + 8)) ∧
  (4 + 40 * (25 - d) < n → SXc (KKE n).2.2.2.2.2.2.2 d (NE (d + 1) + 8))
theorem ef_0 : EF 0 := fun d h1 h2 => by
  refine ⟨fun h => ?_, fun h => ?_, fun l l1 l2 h => ?_, fun o ho h => ?_, fun h => ?_, fun h => ?_, fun h => ?_, fun h => ?_⟩
  any_goals omega
  have := rkf_rng o
  omega
theorem rk10 : rkf 10 = 1 := by unfold rkf; rfl
theorem rk11 : rkf 11 = 2 := by unfold rkf; rfl
theorem ne_s {d : Int} (h1 : 1 ≤ d) (h2 : d ≤ 25) : NE d = NE (d + 1) + 20 ∧ 1 ≤ NE (d + 1) := by
  unfold NE
  omega
theorem ef_s {n : Nat} (ih : EF n) : EF (n + 1) := fun d h1 h2 => by
  obtain ⟨g1, g2, g3, g4, g5, g6, g7, g8⟩ := ih d h1 h2
  have up : d + 1 ≤ 25 → _ := fun h => ih (d + 1) (by omega) h
  obtain ⟨e1, e2⟩ := ne_s h1 h2
  have eE : 40 * (25 - d) - 1 < (n : Int) → d + 1 ≤ 25 → SX (KKE n).1 (d + 1) (NE (d + 1)) := fun hn h => (up h).1 (by omega)
  have eC : 40 * (25 - d) - 2 < (n : Int) → d + 1 ≤ 25 → SX (KKE n).2.1 (d + 1) (NE (d + 1)) := fun hn h => (up h).2.1 (by omega)
  refine ⟨fun hn => ?_, fun hn => ?_, fun l l1 l2 hn => ?_, fun o ho hn => ?_, fun hn => ?_, fun hn => ?_, fun hn => ?_, fun hn => ?_⟩
  · show SX (wp_expression ((KKE n).1) ((KKE n).2.1) ((KKE n).2.2.1) ((KKE n).2.2.2.1) ((KKE n).2.2.2.2.1) ((KKE n).2.2.2.2.2.1) ((KKE n).2.2.2.2.2.2.1) ((KKE n).2.2.2.2.2.2.2)) d _
    exact sp_expression ⟨h1, h2⟩ (g2 (by omega)) (eE (by omega)) e2 (by omega)
  · show SX (wp_choice ((KKE n).1) ((KKE n).2.1) ((KKE n).2.2.1) ((KKE n).2.2.2.1) ((KKE n).2.2.2.2.1) ((KKE n).2.2.2.2.2.1) ((KKE n).2.2.2.2.2.2.1) ((KKE n).2.2.2.2.2.2.2)) d _
    refine sp_choice ⟨h1, h2⟩ ?_ (eE (by omega)) (eC (by omega)) e2 (by omega)
    have := g3 1 (by omega) (by omega) (by omega)
    rw [e1]
    exact this
  · show SXb (wp_binary ((KKE n).1) ((KKE n).2.1) ((KKE n).2.2.1) ((KKE n).2.2.2.1) ((KKE n).2.2.2.2.1) ((KKE n).2.2.2.2.2.1) ((KKE n).2.2.2.2.2.2.1) ((KKE n).2.2.2.2.2.2.2)) l d _
    refine sp_binary (M := NE (d + 1) + 8 + (12 - l).toNat) ⟨l1, l2⟩ (sx_le (g5 (by omega)) (by omega)) (fun o ho hlo => ?_) (fun l' hl hl' => ?_) (by omega) (by omega) (by omega)
    · refine sxd_le (g4 o ho (by omega)) ?_
      omega
    · intro l2' hl2'
      exact sx_le (g3 (l' + 1) (by omega) (by omega) (by omega) l2' hl2') (by omega)
  · show SXd (wp_decided ((KKE n).1) ((KKE n).2.1) ((KKE n).2.2.1) ((KKE n).2.2.2.1) ((KKE n).2.2.2.2.1) ((KKE n).2.2.2.2.2.1) ((KKE n).2.2.2.2.2.2.1) ((KKE n).2.2.2.2.2.2.2)) o d _
    have hr : rkf o = 1 ∨ rkf o = 2 := by
      rcases ho with rfl | rfl
      · exact Or.inl rk10
      · exact Or.inr rk11
    refine sp_decided (M := NE (d + 1) + 8 + (12 - rkf o).toNat) ho ?_ (by omega) (by omega)
    have := g3 (rkf o + 1) (by omega) (by omega) (by omega)
    have e9 : (13 - (rkf o + 1)).toNat = (12 - rkf o).toNat := by omega
    rw [e9] at this
    exact this
  · show SX (wp_unary ((KKE n).1) ((KKE n).2.1) ((KKE n).2.2.1) ((KKE n).2.2.2.1) ((KKE n).2.2.2.2.1) ((KKE n).2.2.2.2.2.1) ((KKE n).2.2.2.2.2.2.1) ((KKE n).2.2.2.2.2.2.2)) d _
    refine sp_unary (M := NE (d + 1) + 8) ⟨h1, h2⟩ (fun h => ?_) (g6 (by omega)) (by omega) (Nat.le_refl _)
    have e3 := ne_s (d := d + 1) (by omega) h
    exact sx_le ((up h).2.2.2.2.1 (by omega)) (by omega)
  · show SX (wp_behind ((KKE n).1) ((KKE n).2.1) ((KKE n).2.2.1) ((KKE n).2.2.2.1) ((KKE n).2.2.2.2.1) ((KKE n).2.2.2.2.2.1) ((KKE n).2.2.2.2.2.2.1) ((KKE n).2.2.2.2.2.2.2)) d _
    exact sp_behind ⟨h1, h2⟩ (g7 (by omega)) (eE (by omega)) e2 (by omega)
  · show SX (wp_primary ((KKE n).1) ((KKE n).2.1) ((KKE n).2.2.1) ((KKE n).2.2.2.1) ((KKE n).2.2.2.2.1) ((KKE n).2.2.2.2.2.1) ((KKE n).2.2.2.2.2.2.1) ((KKE n).2.2.2.2.2.2.2)) d _
    exact sp_primary ⟨h1, h2⟩ (eE (by omega)) (g8 (by omega)) e2 (by omega)
  · show SXc (wp_call_0 ((KKE n).1) ((KKE n).2.1) ((KKE n).2.2.1) ((KKE n).2.2.2.1) ((KKE n).2.2.2.2.1) ((KKE n).2.2.2.2.2.1) ((KKE n).2.2.2.2.2.2.1) ((KKE n).2.2.2.2.2.2.2)) d _
    exact sp_call ⟨h1, h2⟩ (eE (by omega)) e2 (by omega)
theorem ef_all (n : Nat) : EF n := by
  induction n with
  | zero => exact ef_0
  | succ n ih => exact ef_s ih
/-- an expression of a statement, of an initial, of a size -/
theorem sx_expr : SX wpE_expression 1 501 := (ef_all 1100 1 (by omega) (by omega)).1 (by omega)
end

section
/-! stretches of statements -/
abbrev KSt (σ s : St) : Prop := Kp [(0, 10), (0, 12), (0, 13), (0, 14), (0, 17), (0, 37), (0, 39), (0, 49), (0, 53), (0, 54), (0, 57), (0, 58), (0, 59), (0, 60)] [8, 25, 33, 14, 21, 34, 35, 36, 31, 32] σ s
def RSt (σ : St) (vs : List Nat) (s t : St) (z : List Nat) : Prop := KSt σ s ∧ PA s t ∧ RW σ s ∧ MOn σ s ∧ OF σ s ∧ (σ 0 17).toInt ≤ (s 0 17).toInt ∧ (σ 0 39).toInt ≤ (s 0 39).toInt ∧ pos σ ≤ pos s ∧ (∀ u ∈ vs, u ∈ z) ∧ vs.length ≤ z.length ∧ IE σ s ∧ (σ 0 49).toInt ≤ (s 0 49).toInt
/-- what an exception leaves: silent may stand -/
def RTt (σ : St) (vs : List Nat) (s t : St) (z : List Nat) : Prop := (∃ s0, RSt σ vs s0 t z ∧ s = upC s0 0 15 (s 0 15)) ∧ (z.length : Int) ≤ vs.length + 2 * ((σ 0 9).toInt - pos σ)
section STM
variable {σ s s' τ t t' : St} {vs z z' : List Nat}
theorem rs_rf (h : PA σ τ) : RSt σ vs σ τ vs := ⟨kp_rf, h, fun _ _ => rfl, mon_rf, of_rf, Int.le_refl _, Int.le_refl _, Int.le_refl _, fun _ h => h, Nat.le_refl _, ie_rf, Int.le_refl _⟩
theorem rs_tr {s' t' : St} {z' : List Nat} (h : RSt σ vs s t z) (g : RSt s z s' t' z') : RSt σ vs s' t' z' := by
  obtain ⟨h1, h2, h3, h4, h5, h6, h7, h8, h9, h10, h11, h12⟩ := h
  obtain ⟨g1, g2, g3, g4, g5, g6, g7, g8, g9, g10, g11, g12⟩ := g
  exact ⟨kp_tr h1 g1, g2, fun j hj => (g3 j (by omega)).trans (h3 j hj), ⟨fun e he => g4.1 e (h4.1 e he), fun n hn => g4.2 n (h4.2 n hn)⟩, of_tr h5 g5, by omega, by omega, by omega, fun u hu => g9 u (h9 u hu), by omega, ie_tr h11 g11, by omega⟩
theorem rs_rl (r : RL σ vs s t z) : RSt σ vs s t z := by
  have e := rl_loc r
  obtain ⟨h1, h2, h3, h4, h5, h6, h7, h8, h9, h10, h11⟩ := r
  exact ⟨kp_sub h1 rfl rfl, h2, h3, h4, h5, h6, h7, h8, h9, h10, h11, by rw [e]; exact Int.le_refl _⟩
theorem rs_sz (r : RSt σ vs s t z) : (s 0 9).toInt = (σ 0 9).toInt := by rw [r.1 0 9 rfl rfl]
theorem rs_sil (r : RSt σ vs s t z) : (s 0 15) = (σ 0 15) := r.1 0 15 rfl rfl
theorem rs_tok (r : RSt σ vs s t z) : (s 0 8) = (σ 0 8) := r.1 0 8 rfl rfl
theorem rs_wcn (r : RSt σ vs s t z) (h0 : 0 ≤ (σ 0 17).toInt) : wcn σ ≤ wcn s := by
  have e1 : (wcn σ : Int) = (σ 0 17).toInt := nt h0
  have h := r.2.2.2.2.2.1
  have e2 : (wcn s : Int) = (s 0 17).toInt := nt (by omega)
  omega
theorem rs_ev (r : RSt σ vs s t z) : EV σ s := by
  obtain ⟨k, -, -, m, -, -, -, -, -, -, -, hl⟩ := r
  have f1 : (s 0 35) = (σ 0 35) := k _ _ rfl rfl
  have f2 : (s 0 36) = (σ 0 36) := k _ _ rfl rfl
  have e22 : (s 22) = (σ 22) := funext (fun j => k 22 j rfl rfl)
  have e15 : (s 15) = (σ 15) := funext (fun j => k 15 j rfl rfl)
  have e10 : (s 10) = (σ 10) := funext (fun j => k 10 j rfl rfl)
  have e9 : (s 9) = (σ 9) := funext (fun j => k 9 j rfl rfl)
  have eF : Fi s = Fi σ := by unfold Fi; rw [f1, e22]
  refine ⟨hl, k _ _ rfl rfl, fun n h h' ⟨c1, c2, e, c3, c4, c5, c6, c7, c8⟩ => ⟨c1, by rw [eF, f2]; exact c2, e, by rw [eF]; exact c3, by rw [e9]; exact c4, m.1 _ c5, m.2 _ c6, by rw [e15]; exact c7, by rw [e15, e10]; exact c8⟩⟩
theorem rs_nb (h : NB σ vs) (r : RSt σ vs s t z) (hw : (s 0 17).toInt ≤ (σ 0 17).toInt + 40 * (pos s - pos σ)) (hi : (s 0 39).toInt ≤ (σ 0 39).toInt + 12 * (pos s - pos σ)) (hz : (z.length : Int) ≤ vs.length + 2 * (pos s - pos σ)) : NB s z := by
  obtain ⟨h1, h2, h3⟩ := h
  have e := rs_sz r
  unfold NB
  rw [e]
  exact ⟨by omega, by omega, by omega⟩
theorem up_sil : σ = upC σ 0 15 (σ 0 15) := by
  funext c j
  rw [rdC]
  by_cases e : c = 0
  · rw [if_pos e]
    by_cases e2 : j = 15
    · rw [if_pos e2, e, e2]
    · rw [if_neg e2, e]
  · rw [if_neg e]
theorem rt_rtx (h : RTx σ vs s t z) : RTt σ vs s t z := ⟨⟨s, rs_rl h.1, up_sil⟩, h.2⟩
theorem rt_rs (r : RSt σ vs s t z) (hz : (z.length : Int) ≤ vs.length + 2 * (pos s - pos σ)) (g : RTt s z s' t' z') : RTt σ vs s' t' z' := by
  obtain ⟨⟨s0, g1, g2⟩, g3⟩ := g
  refine ⟨⟨s0, rs_tr r g1, g2⟩, ?_⟩
  rw [rs_sz r] at g3
  omega
/-! chains of jumps -/
def Ch (w : Nat → Int32) : Int → List Nat → Prop
  | p, [] => p < 0
  | p, b :: B => p = (b : Int) ∧ (∀ c ∈ B, c < b) ∧ Ch w (w b).toInt B
theorem ch_w {w w' : Nat → Int32} : ∀ {B : List Nat} {p : Int}, (∀ b ∈ B, w' b = w b) → Ch w p B → Ch w' p B
  | [], _, _, h => h
  | b :: B, p, hw, ⟨h1, h2, h3⟩ => ⟨h1, h2, by
      rw [hw b List.mem_cons_self]
      exact ch_w (fun c hc => hw c (List.mem_cons_of_mem _ hc)) h3⟩
def CHN (σ s : St) (B G : List Nat) : Prop := (∀ b ∈ B, wcn σ < b ∧ b < wcn s) ∧ (∀ b ∈ G, wcn σ < b ∧ b < wcn s) ∧ (∀ b ∈ B, b ∉ G) ∧ (∀ A : List Nat, (∀ b ∈ A, b < wcn σ) → Ch (σ 8) (σ 0 58).toInt A → Ch (s 8) (s 0 58).toInt (B ++ A)) ∧ (∀ A : List Nat, (∀ b ∈ A, b < wcn σ) → Ch (σ 8) (σ 0 59).toInt A → Ch (s 8) (s 0 59).toInt (G ++ A))
theorem chn_tr {B G B' G' : List Nat} (h : CHN σ s B G) (g : CHN s s' B' G') (h1 : wcn σ ≤ wcn s) (h2 : wcn s ≤ wcn s') : CHN σ s' (B' ++ B) (G' ++ G) := by
  obtain ⟨a1, a2, a3, a4, a5⟩ := h
  obtain ⟨b1, b2, b3, b4, b5⟩ := g
  refine ⟨fun b hb => ?_, fun b hb => ?_, fun b hb hg => ?_, fun A hA hC => ?_, fun A hA hC => ?_⟩
  · rcases List.mem_append.mp hb with h | h
    · have := b1 b h; omega
    · have := a1 b h; omega
  · rcases List.mem_append.mp hb with h | h
    · have := b2 b h; omega
    · have := a2 b h; omega
  · rcases List.mem_append.mp hb with h | h
    · rcases List.mem_append.mp hg with k | k
      · exact b3 b h k
      · have := b1 b h; have := a2 b k; omega
    · rcases List.mem_append.mp hg with k | k
      · have := a1 b h; have := b2 b k; omega
      · exact a3 b h k
  · rw [List.append_assoc]
    refine b4 (B ++ A) (fun b hb => ?_) (a4 A hA hC)
    rcases List.mem_append.mp hb with h | h
    · exact (a1 b h).2
    · have := hA b h; omega
  · rw [List.append_assoc]
    refine b5 (G ++ A) (fun b hb => ?_) (a5 A hA hC)
    rcases List.mem_append.mp hb with h | h
    · exact (a2 b h).2
    · have := hA b h; omega
theorem chn_no (h0 : 0 ≤ (σ 0 17).toInt) (hr : RW σ s) (hb : (s 0 58) = (σ 0 58)) (hg : (s 0 59) = (σ 0 59)) : CHN σ s [] [] := by
  have e0 : (wcn σ : Int) = (σ 0 17).toInt := nt h0
  refine ⟨fun b hb => absurd hb List.not_mem_nil, fun b hb => absurd hb List.not_mem_nil, fun b hb => absurd hb List.not_mem_nil, fun A hA hC => ?_, fun A hA hC => ?_⟩
  · rw [hb]
    exact ch_w (fun b hb => hr b (by have := hA b hb; omega)) hC
  · rw [hg]
    exact ch_w (fun b hb => hr b (by have := hA b hb; omega)) hC
/-- a jump that is still open: at no value, at a level of at least L -/
def Hol (w : Nat → Int32) (g : Gh) (L b : Nat) : Prop := ∃ q k, b = q + 1 ∧ g q = some (0, k) ∧ L ≤ k ∧ g (q + 1) = none ∧ w q = 15 ∧ g (q + 2) ≠ none
def Xh (X : Nat → Prop) (B : List Nat) : Nat → Prop := fun q => X q ∨ q + 1 ∈ B
def TSt (σ s : St) (a b : Nat) (B G : List Nat) : Prop := ∀ g X E0 L, TY σ g X E0 a L → (s 0 12).toInt = 0 → (s 0 15).toInt = 0 → ∃ g', TY s g' (Xh X (B ++ G)) E0 b L ∧ Ext g g' (wcn σ) ∧ ∀ h ∈ B ++ G, Hol (s 8) g' L h
theorem ho_mono {w w' : Nat → Int32} {g g' : Gh} {L b n : Nat} (h : Hol w g L b) (hb : b < n) (he : Ext g g' n) (hw : ∀ q, q < n → w' q = w q) : Hol w' g' L b := by
  obtain ⟨q, k, h1, h2, h3, h4, h5, h6⟩ := h
  exact ⟨q, k, h1, by rw [he q (by omega)]; exact h2, h3, by rw [he _ (by omega)]; exact h4, by rw [hw q (by omega)]; exact h5, by rw [he _ (by omega)]; exact h6⟩
theorem ts_te {N a b : Nat} (h : TE σ s N a b) (hN : N ≤ 546) : TSt σ s a b [] [] := fun g X E0 L hT hf hs => by
  obtain ⟨g', h1, h2⟩ := h g X E0 0 L (by rw [Nat.zero_add]; exact hT) (by omega) hf hs
  rw [Nat.zero_add] at h1
  exact ⟨g', ty_X h1 (fun q hq => Or.inl hq), h2, fun b hb => absurd hb List.not_mem_nil⟩
theorem ts_tr {a b c : Nat} {B G B' G' : List Nat} (h : TSt σ s a b B G) (g : TSt s s' b c B' G') (hB : ∀ b ∈ B ++ G, b < wcn s) (h1 : wcn σ ≤ wcn s) (h0 : 0 ≤ (s 0 17).toInt) (hr : RW s s') (ho : OF s s') (hs : (s' 0 15) = (s 0 15)) : TSt σ s' a c (B' ++ B) (G' ++ G) := fun g0 X E0 L hT hf hs9 => by
  have e0 : (wcn s : Int) = (s 0 17).toInt := nt h0
  obtain ⟨g1, t1, x1, o1⟩ := h g0 X E0 L hT (of0 ho hf) (by rw [← hs]; exact hs9)
  obtain ⟨g2, t2, x2, o2⟩ := g g1 _ E0 L t1 hf hs9
  refine ⟨g2, ty_X t2 (fun q hq => ?_), ext_tr x1 x2 h1, fun b hb => ?_⟩
  · rcases hq with (hq | hq) | hq
    · exact Or.inl hq
    · refine Or.inr ?_
      rcases List.mem_append.mp hq with h | h
      · simp [h]
      · simp [h]
    · refine Or.inr ?_
      rcases List.mem_append.mp hq with h | h
      · simp [h]
      · simp [h]
  · have old : b ∈ B ++ G → Hol (s' 8) g2 L b := fun hb => ho_mono (o1 b hb) (hB b hb) x2 (fun q hq => hr q (by omega))
    rcases List.mem_append.mp hb with h | h
    · rcases List.mem_append.mp h with k | k
      · exact o2 b (List.mem_append.mpr (Or.inl k))
      · exact old (List.mem_append.mpr (Or.inl k))
    · rcases List.mem_append.mp h with k | k
      · exact o2 b (List.mem_append.mpr (Or.inr k))
      · exact old (List.mem_append.mpr (Or.inr k))
/-- a stretch of statements: what it leaves open -/
def SRt (σ : St) (vs : List Nat) (a b : Nat) (s t : St) (z : List Nat) (B G : List Nat) : Prop := RSt σ vs s t z ∧ CHN σ s B G ∧ TSt σ s a b B G ∧ (s 0 57) = (σ 0 57) ∧ ((s 0 12).toInt = 0 → (s 0 15).toInt = 0 → (σ 0 57).toInt ≤ 0 → B = [] ∧ G = [])
theorem sr_b {a b : Nat} {B G : List Nat} (h : SRt σ vs a b s t z B G) : ∀ b ∈ B ++ G, b < wcn s := fun b hb => by
  rcases List.mem_append.mp hb with k | k
  · exact (h.2.1.1 b k).2
  · exact (h.2.1.2.1 b k).2
theorem sr_tr {a b c : Nat} {B G B' G' : List Nat} (h0 : 0 ≤ (σ 0 17).toInt) (h : SRt σ vs a b s t z B G) (g : SRt s z b c s' t' z' B' G') : SRt σ vs a c s' t' z' (B' ++ B) (G' ++ G) := by
  have hb := sr_b h
  obtain ⟨h1, h2, h3, h4, h5⟩ := h
  obtain ⟨g1, g2, g3, g4, g5⟩ := g
  have m1 := rs_wcn h1 h0
  have h0s := h1.2.1.2.2.1.2.2.2.2.1
  have m2 := rs_wcn g1 h0s
  refine ⟨rs_tr h1 g1, chn_tr h2 g2 m1 m2, ts_tr h3 g3 hb m1 h0s g1.2.2.1 g1.2.2.2.2.1 (rs_sil g1), g4.trans h4, fun f1 f2 f3 => ?_⟩
  obtain ⟨a1, a2⟩ := g5 f1 f2 (by rw [h4]; exact f3)
  obtain ⟨a3, a4⟩ := h5 (of0 g1.2.2.2.2.1 f1) (by rw [← rs_sil g1]; exact f2) f3
  rw [a1, a2, a3, a4]
  exact ⟨rfl, rfl⟩
theorem sr_rl {N a b : Nat} (h0 : 0 ≤ (σ 0 17).toInt) (r : RL σ vs s t z) (te : TE σ s N a b) (hN : N ≤ 546) : SRt σ vs a b s t z [] [] := ⟨rs_rl r, chn_no h0 r.2.2.1 (r.1 0 58 rfl rfl) (r.1 0 59 rfl rfl), ts_te te hN, r.1 0 57 rfl rfl, fun _ _ _ => ⟨rfl, rfl⟩⟩
end STM
end

section
/-! conditions, expressions as statements, return -/
section ST2
variable {σ s s' τ t t' : St} {vs z z' : List Nat} {g g' : Gh} {X X' : Nat → Prop} {E0 H L : Nat}
theorem ty_ext2 (h : TY σ g X E0 H L) (h0 : 0 ≤ (σ 0 17).toInt) {n H' L' : Nat} (hn : 0 < n) (hw : (s 0 17).toInt = (σ 0 17).toInt + n) (hr : RW σ s) (he : EV σ s) (hX : ∀ q, X q → X' q)
    (ho : ∀ g', (∀ q v, g q = some v → g' q = some v) → g' (wcn σ) = some (H, L) → g' (wcn σ + n) = some (H', L') → ¬ X' (wcn σ) → OKc s g' (wcn σ) H L) :
    ∃ g', TY s g' X' E0 H' L' ∧ Ext g g' (wcn σ) ∧ ∀ q, wcn σ < q → q < wcn σ + n → g' q = none := by
  have e0 : (wcn σ : Int) = (σ 0 17).toInt := nt h0
  have e1 : (wcn s : Int) = (s 0 17).toInt := nt (by omega)
  have en : wcn s = wcn σ + n := by omega
  obtain ⟨h1, h2, h3, h4, h5⟩ := h
  have hg : ∀ q v, g q = some v → (fun q => if q = wcn σ + n then some (H', L') else g q : Gh) q = some v := fun q v hv => by
    show (if q = wcn σ + n then _ else _) = _
    rw [if_neg, hv]
    intro e
    rw [h3 q (by omega)] at hv
    cases hv
  refine ⟨fun q => if q = wcn σ + n then some (H', L') else g q, ⟨by omega, by rw [en]; exact if_pos rfl, fun q hq => ?_, fun q hq => ?_, fun q h k hq hlt hx => ?_⟩, fun q hq => if_neg (by omega), fun q q1 q2 => ?_⟩
  · show (if q = wcn σ + n then _ else _) = _
    rw [if_neg (by omega)]
    exact h3 q (by omega)
  · show (if q = wcn σ + n then _ else _) = _
    rw [if_neg (by omega)]
    exact h4 q hq
  · have hq' : g q = some (h, k) := by
      have hq9 : (if q = wcn σ + n then some (H', L') else g q) = some (h, k) := hq
      rw [if_neg (by omega)] at hq9
      exact hq9
    by_cases q2 : q = wcn σ
    · subst q2
      rw [h2] at hq'
      cases hq'
      exact ho _ hg (hg _ _ h2) (if_pos rfl) hx
    · have q3 : q < wcn σ := by
        by_cases q4 : q < wcn σ
        · exact q4
        · rw [h3 q (by omega)] at hq'
          cases hq'
      refine okc_mono he (hr q (by omega)) ?_ hg (h5 q h k hq' q3 (fun z => hx (hX _ z)))
      by_cases q4 : q + 1 < wcn σ
      · exact Or.inr (hr _ (by omega))
      · exact Or.inl (fun p hp => h3 p (by omega))
  · show (if q = wcn σ + n then _ else _) = _
    rw [if_neg (by omega)]
    exact h3 q q1
/-- one instruction, and what stands behind it -/
theorem ty_put1 {ws : List Int32} {op : Int32} {n k H' L' : Nat} (h : TY σ g X E0 H L) (h0 : 0 ≤ (σ 0 17).toInt) (p : PU σ s ws) (hn : ws.length = n) (hn0 : 0 < n) (hop : ws[0]? = some op) (hk : op.toInt = k)
    (ho : ∀ (g' : Gh) (x : Int), (∀ q v, g q = some v → g' q = some v) → g' (wcn σ + n) = some (H', L') → (∀ v, ws[1]? = some v → x = v.toInt) → OPn k x g' (s 0 49).toInt ((s 0 55) ≠ 0) (CO s) (wcn σ) H L) : ∃ g', TY s g' X E0 H' L' ∧ Ext g g' (wcn σ) ∧ ∀ q, wcn σ < q → q < wcn σ + n → g' q = none := by
  have e1 : (s 8) (wcn σ) = op := p.2.2.2 0 op hop
  refine ty_ext2 (X' := X) h h0 hn0 (by rw [p.2.1, hn]) p.2.2.1 (ev_pu p) (fun _ h => h) (fun g' hg c1 c2 hx => ?_)
  have e3 : op.toInt.toNat = k := by omega
  refine ⟨by rw [e1]; omega, ?_⟩
  rw [e1, e3]
  exact ho g' _ hg c2 (fun v hv => by rw [p.2.2.2 1 v hv])
def NCt (σ : St) (vs : List Nat) (s : St) (z : List Nat) (c : Int) : Prop := (s 0 17).toInt + c ≤ (σ 0 17).toInt + 40 * (pos s - pos σ) ∧ (s 0 39).toInt ≤ (σ 0 39).toInt + 12 * (pos s - pos σ) ∧ (z.length : Int) ≤ vs.length + 2 * (pos s - pos σ)
theorem nct_le {c d : Int} (h : NCt σ vs s z c) (hd : d ≤ c) : NCt σ vs s z d := ⟨by have := h.1; omega, h.2⟩
theorem nct_tr {c d : Int} (h : NCt σ vs s z c) (g : NCt s z s' z' d) : NCt σ vs s' z' (c + d) := by
  obtain ⟨h1, h2, h3⟩ := h
  obtain ⟨g1, g2, g3⟩ := g
  exact ⟨by omega, by omega, by omega⟩
theorem nct_nb {c : Int} (h : NB σ vs) (r : RSt σ vs s t z) (n : NCt σ vs s z c) (hc : 0 ≤ c) : NB s z := rs_nb h r (by have := n.1; omega) n.2.1 n.2.2
theorem nct_rf : NCt σ vs σ vs 0 := ⟨by omega, by omega, by omega⟩
/-- what statements stand on beside -/
def PSt (σ : St) : Prop := (σ 0 15).toInt = 0 ∧ ((σ 0 55) = 0 → (σ 0 56).toInt ≠ -1)
theorem ps_rs (h : PSt σ) (r : RSt σ vs s t z) : PSt s := by
  have e1 := rs_sil r
  have e2 : (s 0 55) = (σ 0 55) := r.1 _ _ rfl rfl
  have e3 : (s 0 56) = (σ 0 56) := r.1 _ _ rfl rfl
  unfold PSt
  rw [e1, e2, e3]
  exact h
theorem sp_condition {tk : Int32} {Q T : St → St → List Nat → Prop} (h : PA σ τ) (hB : NB σ vs) (ht : 0 ≤ tk.toInt ∧ tk.toInt < 16002) (k : ∀ s t z, RL σ vs s t z → NCt σ vs s z 60 → TE σ s 501 0 1 → Q s t z) (kT : ∀ s t z, RTx σ vs s t z → T s t z) : wp_condition tk σ τ vs Q T := by
  have h0 := h.2.2.1.2.2.2.2.1
  unfold wp_condition
  refine sp_expect h (by decide) (fun hk rn pn wn icn => ?_) (fun s hs => kT _ _ _ hs)
  have hBn : NB (nxt σ) vs := nb_of hB rn (by omega) (by omega) (by omega)
  refine sx_expr 1 (nxt σ) τ vs _ T (by decide) rn.2.1 hBn (fun u s t z r => ?_) (fun s' t' z' hs => kT _ _ _ (rt_of rn (by omega) hs))
  refine sp_read r.1.2.1 (re_nb hBn r) r.2.2.1.1 (fun s2 hrd => ?_)
  obtain ⟨g1, g2, g3, g4, g5, g6, g7, g8⟩ := re_read rn.2.1 r hrd (by omega)
  have r2 := rl_tr rn g1
  have hP2 := g1.2.1
  refine sp_expect hP2 (by decide) (fun hk2 ro po wo ico => ?_) (fun s hs => kT _ _ _ (rt_of r2 (by omega) hs))
  have r3 := rl_tr r2 ro
  have hP3 := ro.2.1
  have hu := r.2.2.1.1
  have fin : ∀ y : Int32, (y.toInt ≠ 0 → (upC t u 1 (0 : Int32) u 0).toInt ≠ -1) → wp_must y tk (nxt s2) (upC t u 1 (0 : Int32)) z (fun s29 t29 z29 => Q s29 t29 z29) := fun y hy => by
    refine sp_must ht (fun s4 hs hf => ?_)
    have sq := sq_tl hs
    have rC := sq_rl (vs := z) hP3 sq
    have P4 := pos_sq sq
    have I4 : (s4 0 39).toInt = ((nxt s2) 0 39).toInt := by rw [ic_sq sq]
    have W4 : (s4 0 17).toInt ≤ ((nxt s2) 0 17).toInt + 0 := sq.2.2.2.2
    refine k _ _ _ (rl_tr r3 rC) ⟨by omega, by omega, by omega⟩ ?_
    refine te_if (P := (upC t u 1 (0 : Int32) u 0).toInt ≠ -1) (fun f1 f2 => hy (hf f1 f2)) (fun c => ?_)
    have eu : ev (upC t u 1 (0 : Int32)) u = 1 := ev_st (by rw [rdA, if_pos rfl]; rfl) c
    rw [eu] at g6
    have h03 := hP3.2.2.1.2.2.2.2.1
    exact te_rl h0 r3 rC (te_rl h0 r2 ro (te_rl h0 rn g1 (te_nxt h0 rn) g6) (te_nxt hP2.2.2.1.2.2.2.2.1 ro)) (te_tl h03 hs)
  exact sp_isAny hu (fun c => fin 1 (fun _ => by omega)) (fun _ => fin 0 no0)
theorem sp_plain {Q T : St → St → List Nat → Prop} (h : PA σ τ) (hB : NB σ vs) (k : ∀ s t z, RL σ vs s t z → NCt σ vs s z 10 → pos σ < pos s → TE σ s 501 0 0 → Q s t z) (kT : ∀ s t z, RTx σ vs s t z → T s t z) : wp_plain σ τ vs Q T := by
  have h0 := h.2.2.1.2.2.2.2.1
  unfold wp_plain
  refine sx_expr 1 σ τ vs _ T (by decide) h hB (fun u s t z r => ?_) kT
  have q1 := r.2.2.2.2.1
  have q2 := r.2.2.2.2.2.1
  have q3 := r.2.2.2.2.2.2.1
  have q4 := r.1.2.2.2.2.2.1
  have hPs := r.1.2.1
  unfold wp_read_2
  refine ⟨r.2.2.1.1, fun c => ?_, fun c => ?_⟩
  · refine sp_read hPs (re_nb hB r) r.2.2.1.1 (fun s2 hrd => ⟨fun c2 => absurd rfl c2, fun _ => ?_⟩)
    obtain ⟨g1, g2, g3, g4, g5, g6, g7, g8⟩ := re_read h r hrd (by omega)
    have hP2 := g1.2.1
    have h02 := hP2.2.2.1.2.2.2.2.1
    have hc2 := nb_cap (nb_of hB g1 (by omega) (by omega) g5) hP2
    refine sp_put_0 h02 (by omega) (fun s3 p3 => ?_)
    have sq := sq_pu p3
    have rC := sq_rl (vs := z) hP2 sq
    have P3 := pos_sq sq
    have I3 : (s3 0 39).toInt = (s2 0 39).toInt := by rw [ic_sq sq]
    have W3 : (s3 0 17).toInt = (s2 0 17).toInt + 1 := p3.2.1
    refine k _ _ _ (rl_tr g1 rC) ⟨by omega, by omega, by omega⟩ (by omega) ?_
    have eu : ev (upC t u 1 (0 : Int32)) u = 1 := ev_st (by rw [rdA, if_pos rfl]; rfl) (by rw [rdA, if_neg (by decide)]; exact c)
    rw [eu] at g6
    refine te_rl h0 g1 rC g6 (te_put (n := 1) h02 p3 rfl (by decide) rfl (k := 10) rfl (fun g' H L x hH hn hx => ⟨by omega, ?_⟩) (by omega))
    have e9 : H + 1 - 1 = H + 0 := by omega
    rw [e9]; exact hn
  · have hh : (t u 1).toInt = 0 := by
      have := (hPs.2.2.2.2 u).2.2.2.2.1
      by_cases e : (t u 1).toInt = 0
      · exact e
      · exact absurd c (this e)
    have e9 : ev t u = 0 := by
      unfold ev
      rw [if_neg (by omega), if_pos c]
    have te := r.2.2.2.2.2.2.2
    rw [e9] at te
    exact k _ _ _ r.1 ⟨by omega, by omega, by omega⟩ (by omega) te
theorem sp_return {tk : Int32} {Q T : St → St → List Nat → Prop} (h : PA σ τ) (hS : PSt σ) (hB : NB σ vs) (ht : 0 ≤ tk.toInt ∧ tk.toInt < 16002) (hk : kd σ = 16) (k : ∀ s t z, SRt σ vs 0 0 s t z [] [] → NCt σ vs s z 0 → pos σ < pos s → Q s t z) (kT : ∀ s t z, RTx σ vs s t z → T s t z) : wp_returnStatement tk σ τ vs Q T := by
  have h0 := h.2.2.1.2.2.2.2.1
  unfold wp_returnStatement
  obtain ⟨rn, pn, wn, icn⟩ := rl_nxt (vs := vs) h (by omega)
  have hPn := rn.2.1
  have h0n := hPn.2.2.1.2.2.2.2.1
  have hBn : NB (nxt σ) vs := nb_of hB rn (by omega) (by omega) (by omega)
  have hcn := nb_cap hBn hPn
  rw [show upC σ 0 10 ((σ 0 10) + (1 : Int32)) = nxt σ from rfl]
  have fin : ∀ (s t : St) (z : List Nat), RL σ vs s t z → NCt σ vs s z 0 → pos σ < pos s → (∀ g X E0 L, TY σ g X E0 0 L → (s 0 12).toInt = 0 → (s 0 15).toInt = 0 → ∃ g', TY s g' X E0 0 L ∧ Ext g g' (wcn σ)) → wp_expect (27 : Int32) s t z (fun s85 t85 z85 => Q s85 t85 z85) T := fun s t z r hn hp hty => by
    refine sp_expect r.2.1 (by decide) (fun hk2 ro po wo ico => ?_) (fun s hs => kT _ _ _ (rt_of r hn.2.2 hs))
    have rF := rl_tr r ro
    refine k _ _ _ ⟨rs_rl rF, chn_no h0 rF.2.2.1 (rF.1 0 58 rfl rfl) (rF.1 0 59 rfl rfl), fun g X E0 L hT hf hs => ?_, rF.1 0 57 rfl rfl, fun _ _ _ => ⟨rfl, rfl⟩⟩ ⟨by have := hn.1; omega, by have := hn.2.1; omega, by have := hn.2.2; omega⟩ (by omega)
    obtain ⟨g1, t1, x1⟩ := hty g X E0 L hT (of0 ro.2.2.2.2.1 hf) (by rw [← rl_sil ro]; exact hs)
    refine ⟨g1, ty_X (ty_same t1 r.2.1.2.2.1.2.2.2.2.1 rfl ro.2.2.1 (ev_ke ro.1 ro.2.2.2.1)) (fun q hq => Or.inl hq), x1, fun b hb => absurd hb List.not_mem_nil⟩
  refine sp_is hPn (fun hk2 => ?_) (fun hk2 => ?_)
  · refine ⟨fun s t z => RL σ vs s t z ∧ NCt σ vs s z 0 ∧ pos σ < pos s ∧ (∀ g X E0 L, TY σ g X E0 0 L → (s 0 12).toInt = 0 → (s 0 15).toInt = 0 → ∃ g', TY s g' X E0 0 L ∧ Ext g g' (wcn σ)), fun s t z ⟨h1, h2, h3, h4⟩ => fin s t z h1 h2 h3 h4, no1, fun _ => sp_must ht (fun s1 hs hf => ?_)⟩
    have sq1 := sq_tl hs
    have w1 := sq_wc sq1 h0n
    refine sp_put_0 w1.1 (by omega) (fun s2 p2 => ?_)
    have sq2 := sq_tr sq1 (sq_pu p2)
    have rC := sq_rl (vs := vs) hPn sq2
    have P2 := pos_sq sq2
    have I2 : (s2 0 39).toInt = ((nxt σ) 0 39).toInt := by rw [ic_sq sq2]
    have W2 := (sq_wc sq2 h0n).2.1
    simp only [List.length_cons, List.length_nil] at W2
    refine ⟨rl_tr rn rC, ⟨by omega, by omega, by omega⟩, by omega, fun g X E0 L hT hf2 hs2 => ?_⟩
    have hv := hf (of0 (sq_pu p2).2.1 hf2) (sil_sq (sq_pu p2) hs2)
    have t0 : TY (nxt σ) g X E0 0 L := ty_same hT h0 rfl rn.2.2.1 (ev_ke rn.1 rn.2.2.2.1)
    have t1 : TY s1 g X E0 0 L := ty_same t0 h0n (hs.1 0 17 rfl rfl) sq1.2.2.1 (ev_ke (sq_rl (vs := vs) hPn sq1).1 (sq_rl (vs := vs) hPn sq1).2.2.2.1)
    obtain ⟨g2, t2, x2, -⟩ := ty_put1 (H' := 0) (L' := L) (n := 1) (k := 20) t1 w1.1 p2 rfl (by decide) rfl rfl (fun g' x hg hn hx => ⟨rfl, fun e => hv (by
      have e1 : (s2 0 55) = ((nxt σ) 0 55) := sq2.1 0 55 rfl rfl
      have e2 : ((nxt σ) 0 55) = (σ 0 55) := rfl
      rw [e1, e2] at e
      rw [e]; rfl)⟩)
    have e9 : wcn s1 = wcn σ := by
      have a1 : (s1 0 17) = ((nxt σ) 0 17) := hs.1 0 17 rfl rfl
      unfold wcn
      rw [a1]; rfl
    rw [e9] at x2
    exact ⟨g2, t2, x2⟩
  · refine ⟨fun s t z => RL σ vs s t z ∧ NCt σ vs s z 0 ∧ pos σ < pos s ∧ (∀ g X E0 L, TY σ g X E0 0 L → (s 0 12).toInt = 0 → (s 0 15).toInt = 0 → ∃ g', TY s g' X E0 0 L ∧ Ext g g' (wcn σ)), fun s t z ⟨h1, h2, h3, h4⟩ => fin s t z h1 h2 h3 h4, fun _ => ?_, no0⟩
    refine sx_expr 1 (nxt σ) τ vs _ T (by decide) hPn hBn (fun u s t z r => ?_) (fun s' t' z' hs => kT _ _ _ (rt_of rn (by omega) hs))
    refine sp_read r.1.2.1 (re_nb hBn r) r.2.2.1.1 (fun s2 hrd => ?_)
    obtain ⟨g1, g2, g3, g4, g5, g6, g7, g8⟩ := re_read hPn r hrd (by omega)
    have r2 := rl_tr rn g1
    have hP2 := g1.2.1
    have h02 := hP2.2.2.1.2.2.2.2.1
    have hu := r.2.2.1.1
    have hc2 := nb_cap (nb_of hBn g1 (by omega) (by omega) g5) hP2
    have m2 := g1.2.2.2.2.2.2.2.1
    have eV : (s2 0 55) = (σ 0 55) := r2.1 0 55 rfl rfl
    have eR : (s2 0 56) = (σ 0 56) := r2.1 0 56 rfl rfl
    refine ⟨fun y => y.toInt ≠ 0 → (s2 0 55) = 0 ∧ (upC t u 1 (0 : Int32) u 0).toInt ≠ -1, fun y _ hy => sp_must ht (fun s3 hs hf => ?_), ⟨True, fun _ => no0, fun _ => trivial, fun c => sp_fits hu (fun c2 => ⟨no1, fun _ _ => ⟨ieq c, ?_⟩⟩) ⟨fun _ => trivial, no0⟩⟩⟩
    · have sq1 := sq_tl hs
      have w1 := sq_wc sq1 h02
      refine sp_put_0 w1.1 (by omega) (fun s4 p4 => ?_)
      have sq2 := sq_tr sq1 (sq_pu p4)
      have rC := sq_rl (vs := z) hP2 sq2
      have P4 := pos_sq sq2
      have I4 : (s4 0 39).toInt = (s2 0 39).toInt := by rw [ic_sq sq2]
      have W4 := (sq_wc sq2 h02).2.1
      simp only [List.length_cons, List.length_nil] at W4
      refine ⟨rl_tr r2 rC, ⟨by omega, by omega, by omega⟩, by omega, fun g X E0 L hT hf4 hs4 => ?_⟩
      have hv := hy (hf (of0 (sq_pu p4).2.1 hf4) (sil_sq (sq_pu p4) hs4))
      have eu : ev (upC t u 1 (0 : Int32)) u = 1 := ev_st (by rw [rdA, if_pos rfl]; rfl) hv.2
      rw [eu] at g6
      have te : TE σ s3 501 0 1 := te_rl h0 r2 (sq_rl (vs := z) hP2 sq1) (te_rl h0 rn g1 (te_nxt h0 rn) g6) (te_tl h02 hs)
      obtain ⟨g5', t5, x5⟩ := te g X E0 0 L (by rw [Nat.zero_add]; exact hT) (by omega) (of0 (sq_pu p4).2.1 hf4) (sil_sq (sq_pu p4) hs4)
      rw [Nat.zero_add] at t5
      obtain ⟨g7', t7, x7, -⟩ := ty_put1 (H' := 0) (L' := L) (n := 1) (k := 21) t5 w1.1 p4 rfl (by decide) rfl rfl (fun g' x hg hn hx => ⟨rfl, fun e => e (by
        have e1 : (s4 0 55) = (s2 0 55) := sq2.1 0 55 rfl rfl
        rw [e1]; exact hv.1)⟩)
      refine ⟨g7', t7, ext_tr x5 x7 ?_⟩
      have := rl_wcn (rl_tr r2 (sq_rl (vs := z) hP2 sq1)) h0
      exact this
    · have c' : (s2 0 55) = 0 := ieq c
      have := hS.2 (by rw [← eV]; exact c')
      rcases c2 with c2 | ⟨-, c2⟩
      · rw [c2, eR]; exact this
      · have := (hP2.2.2.2.2 u).2.2.2.2.2 c2
        omega
end ST2
end

section
/-! chains are aimed -/
section AIMS
variable {σ s s' τ t t' : St} {vs z z' : List Nat} {g g' : Gh} {X X' : Nat → Prop} {E0 H L : Nat}
def ALx (σ s : St) (B : List Nat) (to : Int32) : Prop := Kp [] [8] σ s ∧ ∀ j, (s 8) j = if j ∈ B then to else (σ 8) j
theorem sp_aimAll {a to : Int32} {B : List Nat} {Q : St → St → List Nat → Prop} (hC : Ch (σ 8) a.toInt B) (hB : ∀ b ∈ B, b < 500000) (k : ∀ s, ALx σ s B to → Q s τ vs) : wp_aimAll a to σ τ vs Q := by
  unfold wp_aimAll
  refine ⟨fun n x s t z => τ = t ∧ vs = z ∧ ∃ D R, B = D ++ R ∧ n = R.length ∧ ALx σ s D to ∧ Ch (s 8) x.toInt R ∧ ∀ d ∈ D, ∀ c ∈ R, c < d, ⟨B.length, rfl, rfl, [], B, rfl, rfl, ⟨kp_rf, fun j => by rw [if_neg List.not_mem_nil]⟩, hC, fun d hd => absurd hd List.not_mem_nil⟩, ?_⟩
  rintro n x s _ _ ⟨rfl, rfl, D, R, h1, h2, h3, h4, h5⟩
  cases R with
  | nil =>
    refine ⟨fun _ => ?_, fun c => absurd h4 (by show ¬ x.toInt < 0; omega)⟩
    rw [List.append_nil] at h1
    rw [h1] at k
    exact k s h3
  | cons b R =>
    obtain ⟨c1, c2, c3⟩ := h4
    have hb := hB b (by rw [h1]; simp)
    refine ⟨fun c => by omega, fun c => ⟨⟨c, by omega⟩, ⟨c, by omega⟩, R.length, by rw [h2]; exact Nat.lt_succ_self _, rfl, rfl, D ++ [b], R, by rw [h1]; simp, rfl, ⟨kp_a h3.1 rfl, fun j => ?_⟩, ?_, fun d hd e he => ?_⟩⟩
    · have eb : x.toNatClampNeg = b := by rw [nt', c1]; exact Int.toNat_natCast b
      show upC s 8 x.toNatClampNeg to 8 j = _
      rw [rdA, eb]
      by_cases e : j = b
      · rw [if_pos e, if_pos (by rw [e]; simp)]
      · rw [if_neg e, h3.2]
        by_cases e2 : j ∈ D
        · rw [if_pos e2, if_pos (by simp [e2])]
        · rw [if_neg e2, if_neg (by simp [e, e2])]
    · have eb : x.toNatClampNeg = b := by rw [nt', c1]; exact Int.toNat_natCast b
      rw [eb]
      exact ch_w (fun c hc => rdA_ne (by have := c2 c hc; omega)) c3
    · rcases List.mem_append.mp hd with h | h
      · exact h5 d h e (List.mem_cons_of_mem _ he)
      · rw [List.mem_singleton.mp h]
        exact c2 e he
theorem rs_al {B : List Nat} {to : Int32} (r : RSt σ vs s t z) (h : ALx s s' B to) (hB : ∀ b ∈ B, wcn σ < b) (h0 : 0 ≤ (σ 0 17).toInt) : RSt σ vs s' t z := by
  have e0 : (wcn σ : Int) = (σ 0 17).toInt := nt h0
  obtain ⟨h1, h2, h3, h4, h5, h6, h7, h8, h9, h10, h11, h12⟩ := r
  obtain ⟨k, w⟩ := h
  have f : ∀ j, s' 0 j = s 0 j := fun j => k 0 j rfl rfl
  have fr : (s' 3) = (s 3) := funext (fun j => k 3 j rfl rfl)
  have f1 : (s' 21) = (s 21) := funext (fun j => k 21 j rfl rfl)
  have f2 : (s' 14) = (s 14) := funext (fun j => k 14 j rfl rfl)
  refine ⟨kp_tr h1 (kp_sub k rfl rfl), pa_ke h2 (kp_sub k rfl rfl) (by unfold AtOK; rw [f, f]; exact h2.2.1) (by rw [f]; exact h2.2.2.1.2.2.2.1) (by rw [f]; exact h2.2.2.1.2.2.2.2.1) (by rw [f]; exact h2.2.2.1.2.2.2.2.2.1) (by rw [f1]; exact h2.2.2.2.1.2.2.1) h2.2.2.2.2, fun j hj => ?_, ⟨fun e he => by rw [f2]; exact h4.1 e he, fun n hn => by rw [f1]; exact h4.2 n hn⟩, of_tr h5 (of_eq (f _)), by rw [f]; exact h6, by rw [f]; exact h7, ?_, h9, h10, ie_tr h11 (ie_of (funext (fun j => k 25 j rfl rfl)) (f _) (f _)), by rw [f]; exact h12⟩
  · rw [w, if_neg (fun c => by have := hB j c; omega)]
    exact h3 j hj
  · unfold pos
    rw [f, fr]
    exact h8
/-- jumps that were open get their aim -/
theorem ty_aimall {B G : List Nat} {to : Int32} {T kT : Nat} (h : TY σ g (Xh X (B ++ G)) E0 H L) (hA : ALx σ s B to) (ho : ∀ b ∈ B, Hol (σ 8) g (kT + 1) b) (hto : to.toInt = (T : Int)) (hg : g T = some (0, kT)) (hBG : ∀ b ∈ B, b ∉ G) (hG : ∀ b ∈ G, Hol (σ 8) g 0 b) : TY s g (Xh X G) E0 H L := by
  obtain ⟨h1, h2, h3, h4, h5⟩ := h
  have f : ∀ j, s 0 j = σ 0 j := fun j => hA.1 0 j rfl rfl
  have en : wcn s = wcn σ := by unfold wcn; rw [f]
  have hev : EV σ s := ev_ke (kp_sub hA.1 rfl rfl) (mon_of (funext (fun j => hA.1 14 j rfl rfl)) (funext (fun j => hA.1 21 j rfl rfl)))
  refine ⟨by rw [en]; exact h1, by rw [en]; exact h2, by rw [en]; exact h3, h4, fun q h k hq hlt hx => ?_⟩
  rw [en] at hlt
  have hqB : q ∉ B := fun c => by
    obtain ⟨p, k9, e1, -, -, e2, -⟩ := ho q c
    rw [← e1, hq] at e2
    cases e2
  by_cases c : q + 1 ∈ B
  · obtain ⟨p, k9, e1, e2, e3, e4, e5, e6⟩ := ho _ c
    have e7 : p = q := by omega
    subst e7
    rw [hq] at e2
    cases e2
    have w1 : (s 8) p = 15 := by rw [hA.2, if_neg hqB]; exact e5
    have w2 : (s 8) (p + 1) = to := by rw [hA.2, if_pos c]
    unfold OKc OPw
    rw [w1, w2, hto]
    refine ⟨by decide, by omega, ?_, e6⟩
    exact ⟨by omega, kT, by rw [Int.toNat_natCast]; exact hg, Or.inl (by omega)⟩
  · refine okc_mono hev (by rw [hA.2, if_neg hqB]) (Or.inr (by rw [hA.2, if_neg c])) (fun _ _ h => h) (h5 q h k hq hlt (fun z => ?_))
    rcases z with z | z
    · exact hx (Or.inl z)
    · rcases List.mem_append.mp z with z | z
      · exact c z
      · exact hx (Or.inr z)
/-- the level at the end may be lowered -/
theorem nx_low {n k pc pc' h' L' : Nat} (hL : L' ≤ L) (hn : g n = some (H, L)) (h : Nx g k pc pc' h') : Nx (fun q => if q = n then some (H, L') else g q) k pc pc' h' := by
  obtain ⟨h1, k', h2, h3⟩ := h
  by_cases e : pc' = n
  · subst e
    rw [hn] at h2
    cases h2
    exact ⟨h1, L', if_pos rfl, by omega⟩
  · exact ⟨h1, k', by show (if pc' = n then _ else _) = _; rw [if_neg e]; exact h2, h3⟩
theorem opn_low {n m k pc h L' : Nat} {a nl : Int} {vd : Prop} {C : Int → Nat → Nat → Prop} (hL : L' ≤ L) (hn : g n = some (H, L)) (H9 : OPn m a g nl vd C pc h k) : OPn m a (fun q => if q = n then some (H, L') else g q) nl vd C pc h k := by
  have N : ∀ {pc' h'}, Nx g k pc pc' h' → Nx (fun q => if q = n then some (H, L') else g q) k pc pc' h' := fun x => nx_low hL hn x
  match m, H9 with
  | 0, H => exact N H
  | 1, H => exact ⟨H.1, N H.2⟩
  | 2, H => exact N H
  | 3, H => exact ⟨H.1, N H.2⟩
  | 4, H => exact ⟨H.1, N H.2⟩
  | 5, H => exact ⟨H.1, N H.2⟩
  | 6, H => exact ⟨H.1, N H.2⟩
  | 7, H => exact ⟨H.1, H.2.1, N H.2.2⟩
  | 8, H => exact ⟨H.1, N H.2⟩
  | 9, H => exact ⟨H.1, N H.2⟩
  | 10, H => exact ⟨H.1, N H.2⟩
  | 11, H => exact ⟨H.1, N H.2⟩
  | 12, H => exact ⟨H.1, N H.2⟩
  | 13, H => exact ⟨H.1, N H.2⟩
  | 14, H => exact ⟨H.1, N H.2⟩
  | 15, H9 =>
    refine ⟨H9.1, N H9.2.1, ?_⟩
    show (if pc + 2 = n then _ else _) ≠ none
    split
    · exact fun c => by cases c
    · exact H9.2.2
  | 16, H => exact ⟨H.1, H.2.1, N H.2.2.1, N H.2.2.2⟩
  | 17, H => exact ⟨H.1, H.2.1, N H.2.2.1, N H.2.2.2⟩
  | 18, H9 =>
    obtain ⟨h0, k', h1⟩ := H9
    by_cases e : pc + 2 = n
    · rw [e, hn] at h1
      cases h1
      exact ⟨h0, L', if_pos e⟩
    · exact ⟨h0, k', by show (if pc + 2 = n then _ else _) = _; rw [if_neg e]; exact h1⟩
  | 19, H =>
    obtain ⟨h', h1, h2⟩ := H
    exact ⟨h', h1, N h2⟩
  | 20, H => exact H
  | 21, H => exact H
  | 22, H => exact ⟨H.1, N H.2⟩
  | 23, H => exact ⟨H.1, N H.2⟩
  | 24, H => exact ⟨H.1, N H.2⟩
theorem ty_low {L' : Nat} (h : TY σ g X E0 H L) (hL : L' ≤ L) : TY σ (fun q => if q = wcn σ then some (H, L') else g q) X E0 H L' := by
  obtain ⟨h1, h2, h3, h4, h5⟩ := h
  refine ⟨h1, if_pos rfl, fun q hq => ?_, fun q hq => ?_, fun q h k hq hlt hx => ?_⟩
  · show (if q = wcn σ then _ else _) = _
    rw [if_neg (by omega)]; exact h3 q hq
  · show (if q = wcn σ then _ else _) = _
    rw [if_neg (by omega)]; exact h4 q hq
  · have hq' : g q = some (h, k) := by
      have hq9 : (if q = wcn σ then some (H, L') else g q) = some (h, k) := hq
      rw [if_neg (by omega)] at hq9
      exact hq9
    obtain ⟨a1, a2⟩ := h5 q h k hq' hlt hx
    exact ⟨a1, opn_low hL h2 a2⟩
end AIMS
end

section
/-! declarations of locals -/
section DEC
variable {σ s s' τ t t' : St} {vs z z' : List Nat}
theorem sp_told {Q : Int32 → Prop} (h : PA σ τ) (hk : 2 ≤ kd σ) (k : ∀ r, Q r) : wp_told σ τ vs Q := by
  obtain ⟨g1, g2⟩ := nxt_ok h.1 h.2.1 hk
  have a1 := h.2.1
  have ht := h.1.2.1
  have e1 : ((σ 0 10) + (1 : Int32)).toInt = (σ 0 10).toInt + 1 := ad1 (by have := at_tok h.1 h.2.1; omega)
  have e2 : (((σ 0 10) + (1 : Int32)) + (1 : Int32)).toInt = (σ 0 10).toInt + 2 := by rw [ad1 (by have := at_tok h.1 h.2.1; omega), e1]; omega
  have a2 : (σ 0 10).toInt + 1 < (σ 0 8).toInt := by
    have := g1.2
    rw [nxt_at, e1] at this
    exact this
  have a0 := a1.1
  obtain ⟨-, -, -, -, -, -, h7, h8⟩ := h.1
  unfold wp_told
  refine ⟨by omega, fun _ => True, fun y _ _ => ⟨by omega, fun _ => ⟨by omega, fun _ => ?_, fun _ => k _⟩, fun _ => ⟨fun _ => k _, fun _ => ⟨by omega, k _⟩⟩⟩, ⟨True, fun _ => trivial, fun _ => trivial, fun _ => ⟨by omega, fun _ => trivial, fun _ => trivial⟩⟩⟩
  refine ⟨fun n x _ _ => (n : Int) = (σ 0 8).toInt - x.toInt ∧ 0 ≤ x.toInt ∧ x.toInt < (σ 0 8).toInt, ⟨((σ 0 8).toInt - (σ 0 10).toInt - 1).toNat, by omega, by omega, by omega⟩, fun n x c o ⟨q1, q2, q3⟩ => ⟨by omega, fun _ => k _, fun c0 => ⟨by omega, fun _ => k _, fun c1 => ⟨by omega, ?_⟩⟩⟩⟩
  have en := nt q2
  have k0 := (h7 x.toNatClampNeg (by omega)).2
  have k1 := (h8 x.toNatClampNeg (by omega) (by omega)).1
  have e3 := ad1 (x := x) (by omega)
  exact ⟨fun _ => True, fun _ _ => ⟨fun _ => True, fun _ _ => ⟨fun _ => ⟨fun _ => True, fun _ _ => ⟨n - 1, by omega, by omega, by omega, by omega⟩, fun _ => trivial, fun _ => ⟨fun _ => trivial, fun _ => trivial⟩⟩, fun _ => k _⟩, ⟨True, fun _ => trivial, fun _ => trivial, fun _ => ⟨fun _ => trivial, fun _ => ⟨fun _ => trivial, fun _ => trivial⟩⟩⟩⟩, ⟨True, fun _ => trivial, fun _ => trivial, fun _ => ⟨fun _ => trivial, fun _ => ⟨fun _ => trivial, fun _ => trivial⟩⟩⟩⟩
theorem sp_isHeldHere {b : Int32} {Q : Int32 → Prop} (h : PA σ τ) (hb : 0 ≤ b.toInt ∧ b.toInt < 16002) (k1 : Q 1) (k0 : Q 0) : wp_isHeldHere b σ τ vs Q := by
  obtain ⟨hT, -, ⟨-, -, ⟨n1, n2, n3⟩, -⟩, ⟨a1, -⟩, -⟩ := h
  have e0 := sb1 (x := (σ 0 53)) (by omega)
  unfold wp_isHeldHere
  refine ⟨fun n x => (n : Int) = x.toInt + 1 ∧ -1 ≤ x.toInt ∧ x.toInt < (σ 0 53).toInt, ⟨((σ 0 53).toInt).toNat, by omega, by omega, by omega⟩, fun n x ⟨q1, q2, q3⟩ => ⟨fun _ => k0, fun c => ⟨⟨c, by omega⟩, fun _ => k0, fun _ => ⟨⟨c, by omega⟩, ?_⟩⟩⟩⟩
  have t1 := a1 x.toNatClampNeg
  exact sp_isSame hT ⟨t1.1, by omega⟩ hb ⟨fun c => absurd c (by decide), fun _ => k1⟩ ⟨fun _ => ⟨n - 1, dn_step q1 c q3⟩, fun c => absurd rfl c⟩
/-- a size is looked at: nothing is told, no word stays -/
theorem kp_drop {x : Nat × Nat} {fs : List (Nat × Nat)} {cs : List Nat} (h : Kp (x :: fs) cs σ s) (he : s x.1 x.2 = σ x.1 x.2) : Kp fs cs σ s := fun c k h1 h2 => by
  by_cases e : (c, k) = x
  · subst e; exact he
  · refine h c k ?_ h2
    rw [List.contains_cons, h1, Bool.or_false]
    exact beq_eq_false_iff_ne.mpr e
theorem add_sub1 {x : Int32} (h : 0 ≤ x.toInt ∧ x.toInt < 1000) : (x + 1) - (1 : Int32) = x := by
  have e1 := ad1 (x := x) (by omega)
  have e2 := sb1 (x := x + 1) (by omega)
  exact ieq (by omega)
theorem sp_sizeAt {Q : Int32 → St → St → List Nat → Prop} {T : St → St → List Nat → Prop} (h : PA σ τ) (hS : (σ 0 15).toInt = 0) (hB : NB σ vs) (k : ∀ r s t z, RL σ vs s t z → NCt σ vs s z 0 → pos σ < pos s → (s 0 17) = (σ 0 17) → Q r s t z) (kT : ∀ s t z, RTt σ vs s t z → T s t z) : wp_sizeAt σ τ vs Q T := by
  have h9 := h
  obtain ⟨h1, h2, ⟨n1, n2, n3, n4, n5, n6, n7⟩, ⟨a1, a2, a3, a4, a5, a6, a7, a8, a9, b1, b2, b3⟩, h5⟩ := h9
  have e1 : ((σ 0 15) + (1 : Int32)).toInt = 1 := by rw [ad1 (by omega)]; omega
  -- the state in which it is looked at
  have hP1 : PA (upC σ 0 15 ((σ 0 15) + (1 : Int32))) τ := ⟨tk_kp (fs := [(0, 15)]) (cs := []) (kp_f kp_rf rfl) rfl rfl ⟨rfl, rfl, rfl, rfl, rfl⟩ rfl h1, h2, ⟨n1, n2, n3, n4, n5, n6, by rw [rdA_eq rfl, e1]; decide⟩, ⟨a1, a2, a3, a4, a5, a6, a7, a8, a9, b1, b2, b3⟩, h5⟩
  have hB1 : NB (upC σ 0 15 ((σ 0 15) + (1 : Int32))) vs := hB
  unfold wp_sizeAt
  refine sx_expr 1 _ τ vs _ T (by decide) hP1 hB1 (fun u s t z r => ?_) (fun s t z hs => kT _ _ _ ?_)
  · have r1 := r.1
    obtain ⟨g1, g2, g3, g4, g5, g6, g7, g8, g9, g10, g11⟩ := r1
    obtain ⟨p1, p2, ⟨m1, m2, m3, m4, m5, m6, m7⟩, ⟨c1, c2, c3, c4, c5, c6, c7, c8, c9, d1, d2, d3⟩, p5⟩ := g2
    have q1 := r.2.2.2.2.1
    have q2 := r.2.2.2.2.2.1
    have q3 := r.2.2.2.2.2.2.1
    have P1 : pos (upC σ 0 15 ((σ 0 15) + (1 : Int32))) = pos σ := rfl
    have es : (s 0 15) = (σ 0 15) + (1 : Int32) := g1 0 15 rfl rfl
    have s2s : (s 0 15) - (1 : Int32) = (σ 0 15) := by rw [es]; exact add_sub1 (by omega)
    have P2 : pos (upC (upC s 0 15 ((s 0 15) - (1 : Int32))) 0 17 (σ 0 17)) = pos s := rfl
    have rF : RL σ vs (upC (upC s 0 15 ((s 0 15) - (1 : Int32))) 0 17 (σ 0 17)) t z := by
      refine ⟨?_, ⟨tk_kp (fs := [(0, 15), (0, 17)]) (cs := []) (kp_f (kp_f kp_rf rfl) rfl) rfl rfl ⟨rfl, rfl, rfl, rfl, rfl⟩ rfl p1, p2, ⟨m1, m2, m3, m4, by rw [rdA_eq rfl]; exact n5, m6, by show 0 ≤ ((s 0 15) - (1 : Int32)).toInt; rw [s2s]; exact n7⟩, ⟨c1, c2, c3, c4, c5, c6, c7, c8, c9, d1, d2, d3⟩, p5⟩, g3, g4, g5, by rw [rdA_eq rfl]; exact Int.le_refl _, g7, g8, g9, g10, g11⟩
      refine kp_f ?_ rfl
      refine kp_drop (x := (0, 15)) ?_ ?_
      · exact kp_f (kp_tr (kp_f (p := 0) (k := 15) kp_rf rfl) (kp_sub g1 rfl rfl)) rfl
      · show upC s 0 15 ((s 0 15) - (1 : Int32)) 0 15 = _
        rw [rdA_eq rfl]
        exact s2s
    have kk : ∀ r9 : Int32, Q r9 (upC (upC s 0 15 ((s 0 15) - (1 : Int32))) 0 17 (σ 0 17)) t z := fun r9 => by
      refine k r9 _ _ _ rF ⟨?_, ?_, ?_⟩ ?_ (rdA_eq rfl)
      · rw [P2, show ((upC (upC s 0 15 ((s 0 15) - (1 : Int32))) 0 17 (σ 0 17)) 0 17) = (σ 0 17) from rdA_eq rfl]
        have := g8
        rw [P1] at this
        omega
      · show (s 0 39).toInt ≤ _
        rw [P2]
        rw [P1] at q2
        have q2' : (s 0 39).toInt + 6 ≤ (σ 0 39).toInt + 12 * (pos s - pos σ) := q2
        omega
      · rw [P2]
        rw [P1] at q3
        omega
      · rw [P2]
        rw [P1] at q1
        have g6' : (σ 0 17).toInt ≤ (s 0 17).toInt := g6
        have q1' : (s 0 17).toInt + 20 ≤ (σ 0 17).toInt + 40 * (pos s - pos σ) := q1
        omega
    exact ⟨r.2.2.1.1, fun _ => kk _, fun _ => sp_isInt r.2.2.1.1 (fun _ => ⟨fun _ => kk _, fun _ => ⟨fun _ => kk _, fun _ => kk _⟩⟩) (fun _ => ⟨fun _ => kk _, fun _ => ⟨fun _ => kk _, fun _ => kk _⟩⟩)⟩
  · -- it is cut off
    obtain ⟨⟨g1, g2, g3, g4, g5, g6, g7, g8, g9, g10, g11⟩, hz⟩ := hs
    obtain ⟨p1, p2, ⟨m1, m2, m3, m4, m5, m6, m7⟩, ⟨c1, c2, c3, c4, c5, c6, c7, c8, c9, d1, d2, d3⟩, p5⟩ := g2
    refine ⟨⟨upC s 0 15 (σ 0 15), ⟨?_, ⟨tk_kp (fs := [(0, 15)]) (cs := []) (kp_f kp_rf rfl) rfl rfl ⟨rfl, rfl, rfl, rfl, rfl⟩ rfl p1, p2, ⟨m1, m2, m3, m4, m5, m6, by show 0 ≤ ((σ 0 15)).toInt; exact n7⟩, ⟨c1, c2, c3, c4, c5, c6, c7, c8, c9, d1, d2, d3⟩, p5⟩, g3, g4, g5, g6, g7, g8, g9, g10, g11, ?_⟩, ?_⟩, hz⟩
    · refine kp_drop (x := (0, 15)) ?_ ?_
      · exact kp_f (kp_tr (kp_f (p := 0) (k := 15) kp_rf rfl) (kp_sub g1 rfl rfl)) rfl
      · show upC s 0 15 _ 0 15 = _
        rw [rdA_eq rfl]
    · have : (s 0 49) = (σ 0 49) := g1 0 49 rfl rfl
      show _ ≤ (s 0 49).toInt
      rw [this]; exact Int.le_refl _
    · rw [up_up]
      exact up_sil
end DEC
end

section
/-! names of locals -/
section DC2
variable {σ s s' τ t t' : St} {vs z z' : List Nat}
abbrev KQ (σ s : St) : Prop := Kp [(0, 12), (0, 13), (0, 49), (0, 53), (0, 54)] [33, 34, 35, 36, 31, 32] σ s
def QTt (σ τ : St) (vs : List Nat) (s : St) : Prop := RSt σ vs s τ vs ∧ KQ σ s
theorem qt_tr {s' : St} (h : QTt σ τ vs s) (g : QTt s τ vs s') : QTt σ τ vs s' := ⟨rs_tr h.1 g.1, kp_tr h.2 g.2⟩
theorem qt_pos (h : QTt σ τ vs s) : pos s = pos σ ∧ (s 0 17) = (σ 0 17) ∧ (s 0 39) = (σ 0 39) ∧ kd s = kd σ ∧ (s 0 10) = (σ 0 10) := by
  have e1 : (s 0 10) = (σ 0 10) := h.2 _ _ rfl rfl
  have e2 : (s 3) = (σ 3) := funext (fun j => h.2 3 j rfl rfl)
  have e3 : (s 2) = (σ 2) := funext (fun j => h.2 2 j rfl rfl)
  unfold pos kd
  rw [e1, e2, e3]
  exact ⟨rfl, h.2 0 17 rfl rfl, h.2 0 39 rfl rfl, rfl, rfl⟩
theorem qt_sr {a : Nat} (h0 : 0 ≤ (σ 0 17).toInt) (h : QTt σ τ vs s) : SRt σ vs a a s τ vs [] [] ∧ NCt σ vs s vs 0 := by
  obtain ⟨p1, p2, p3, -, -⟩ := qt_pos h
  refine ⟨⟨h.1, chn_no h0 h.1.2.2.1 (h.2 0 58 rfl rfl) (h.2 0 59 rfl rfl), fun g X E0 L hT hf hs => ⟨g, ty_X (ty_same hT h0 p2 h.1.2.2.1 (rs_ev h.1)) (fun q hq => Or.inl hq), ext_rf, fun b hb => absurd hb List.not_mem_nil⟩, h.2 0 57 rfl rfl, fun _ _ _ => ⟨rfl, rfl⟩⟩, ?_⟩
  unfold NCt
  rw [p1, p2, p3]
  exact ⟨by omega, by omega, by omega⟩
theorem qt_mk (h : PA σ τ) (k : KQ σ s) (hn : 0 ≤ (s 0 53).toInt ∧ (s 0 53).toInt ≤ (s 0 49).toInt ∧ (s 0 49).toInt ≤ 100) (h1 : AllIn 0 16001 (s 34)) (h2 : AllIn 0 99 (s 35)) (h3 : AllIn 0 10 (s 31)) (h4 : HLd s) (h6 : AllIn (-1) 4000 (s 32)) (ho : OF σ s) (hl : (σ 0 49).toInt ≤ (s 0 49).toInt) : QTt σ τ vs s := by
  obtain ⟨hT, hA, ⟨n1, n2, n3, n4, n5, n6, n7⟩, ⟨a1, a2, a3, a4, a5, a6, a7, a8, a9, b1, b2, b3⟩, h5⟩ := h
  have e22 : (s 22) = (σ 22) := funext (fun j => k 22 j rfl rfl)
  have e15 : (s 15) = (σ 15) := funext (fun j => k 15 j rfl rfl)
  have e16 : (s 16) = (σ 16) := funext (fun j => k 16 j rfl rfl)
  have e17 : (s 17) = (σ 17) := funext (fun j => k 17 j rfl rfl)
  have e18 : (s 18) = (σ 18) := funext (fun j => k 18 j rfl rfl)
  have e19 : (s 19) = (σ 19) := funext (fun j => k 19 j rfl rfl)
  have e10 : (s 10) = (σ 10) := funext (fun j => k 10 j rfl rfl)
  have e9 : (s 9) = (σ 9) := funext (fun j => k 9 j rfl rfl)
  have e21 : (s 21) = (σ 21) := funext (fun j => k 21 j rfl rfl)
  have e14 : (s 14) = (σ 14) := funext (fun j => k 14 j rfl rfl)
  have e3 : (s 3) = (σ 3) := funext (fun j => k 3 j rfl rfl)
  have f1 : (s 0 35) = (σ 0 35) := k _ _ rfl rfl
  have f2 : (s 0 36) = (σ 0 36) := k _ _ rfl rfl
  have f3 : (s 0 10) = (σ 0 10) := k _ _ rfl rfl
  have f4 : (s 0 8) = (σ 0 8) := k _ _ rfl rfl
  have f5 : (s 0 15) = (σ 0 15) := k _ _ rfl rfl
  have f6 : (s 0 37) = (σ 0 37) := k _ _ rfl rfl
  have f7 : (s 0 17) = (σ 0 17) := k _ _ rfl rfl
  have f8 : (s 0 39) = (σ 0 39) := k _ _ rfl rfl
  have eF : Fi s = Fi σ := by unfold Fi; rw [f1, e22]
  refine ⟨⟨kp_sub k rfl rfl, ⟨tk_kp k rfl rfl ⟨rfl, rfl, rfl, rfl, rfl⟩ rfl hT, by unfold AtOK; rw [f3, f4]; exact hA, ⟨by rw [f1]; exact n1, by rw [eF, f2]; exact n2, hn, by rw [f6]; exact n4, by rw [f7]; exact n5, by rw [f8]; exact n6, by rw [f5]; exact n7⟩, ⟨h1, h2, by rw [e21]; exact a3, by rw [e15]; exact a4, ?_, h3, by rw [e10]; exact a7, ?_, h4, by rw [e17]; exact b1, by rw [e16]; exact b2, h6⟩, h5⟩, fun j _ => k 8 j rfl rfl, mon_of e14 e21, ho, by rw [f7]; exact Int.le_refl _, by rw [f8]; exact Int.le_refl _, ?_, fun _ h => h, Nat.le_refl _, ie_of (funext (fun j => k 25 j rfl rfl)) f8 f6, hl⟩, k⟩
  · unfold NMo; rw [e18, e19]; exact a5
  · unfold VTy; rw [e9, e10]; exact a8
  · unfold pos
    rw [f3, e3]
    exact Int.le_refl _
theorem qt_tl (h : PA σ τ) (p : TL σ s) : QTt σ τ vs s := by
  have h9 := h
  obtain ⟨hT, hA, ⟨n1, n2, n3, n4, n5, n6, n7⟩, ⟨a1, a2, a3, a4, a5, a6, a7, a8, a9, b1, b2, b3⟩, h5⟩ := h9
  have k : KQ σ s := kp_sub p.1 rfl rfl
  have e34 : (s 34) = (σ 34) := funext (fun j => p.1 34 j rfl rfl)
  have e35 : (s 35) = (σ 35) := funext (fun j => p.1 35 j rfl rfl)
  have e31 : (s 31) = (σ 31) := funext (fun j => p.1 31 j rfl rfl)
  have e32 : (s 32) = (σ 32) := funext (fun j => p.1 32 j rfl rfl)
  have f3 : (s 0 53) = (σ 0 53) := p.1 _ _ rfl rfl
  have f4 : (s 0 49) = (σ 0 49) := p.1 _ _ rfl rfl
  exact qt_mk h k (by rw [f3, f4]; exact n3) (by rw [e34]; exact a1) (by rw [e35]; exact a2) (by rw [e31]; exact a6) (by unfold HLd; rw [e35, f3, f4]; exact a9) (by rw [e32]; exact b3) p.2 (by rw [f4]; exact Int.le_refl _)
theorem sp_declareLocal {tk ty : Int32} {Q : Int32 → St → St → List Nat → Prop} (h : PA σ τ) (ht : 0 ≤ tk.toInt ∧ tk.toInt < 16002) (hty : 0 ≤ ty.toInt ∧ ty.toInt ≤ 10) (k : ∀ (r : Int32) s, QTt σ τ vs s → (r.toInt < 0 → (s 0 12).toInt = 0 → (s 0 15).toInt = 0 → False) → (0 ≤ r.toInt → r.toInt ≤ 99 ∧ r.toInt < (s 0 49).toInt ∧ (s 0 53).toInt < (s 0 49).toInt) → (s 0 53) = (σ 0 53) → (s 0 54) = (σ 0 54) → (s 34) = (σ 34) → (s 35) = (σ 35) → -1 ≤ r.toInt → Q r s τ vs) : wp_declareLocal tk ty σ τ vs Q := by
  have h9 := h
  obtain ⟨hT, hA, ⟨n1, n2, n3, n4, n5, n6, n7⟩, ⟨a1, a2, a3, a4, a5, a6, a7, a8, a9, b1, b2, b3⟩, h5⟩ := h9
  unfold wp_declareLocal
  refine ⟨fun c => ⟨by omega, by omega, by omega, ?_⟩, fun c => sp_tell (by decide) ht (fun s hs hf => k _ s (qt_tl h hs) (fun _ => hf) (fun c => absurd c (by decide)) (hs.1 0 53 rfl rfl) (hs.1 0 54 rfl rfl) (funext (fun j => hs.1 34 j rfl rfl)) (funext (fun j => hs.1 35 j rfl rfl)) (by decide))⟩
  have e1 : ((σ 0 49) + (1 : Int32)).toInt = (σ 0 49).toInt + 1 := ad1 (by omega)
  have e2 : (((σ 0 49) + (1 : Int32)) - (1 : Int32)).toInt = (σ 0 49).toInt := by rw [sb1 (by omega), e1]; omega
  have el : ((upC (upC (upC (upC σ 31 (σ 0 49).toNatClampNeg ty) 32 (σ 0 49).toNatClampNeg ((-1) : Int32)) 33 (σ 0 49).toNatClampNeg (vp_nar .boolean (0 : Int32))) 0 49 ((σ 0 49) + (1 : Int32))) 0 49).toInt = (σ 0 49).toInt + 1 := by rw [rdA_eq rfl]; exact e1
  refine k _ _ (qt_mk h (kp_f (kp_a (kp_a (kp_a kp_rf rfl) rfl) rfl) rfl) ?_ a1 a2 ?_ ?_ ?_ (Or.inl rfl) ?_) (fun c2 => by omega) (fun _ => ⟨by omega, by rw [el]; omega, ?_⟩) rfl rfl rfl rfl (by omega)
  · rw [el]
    show 0 ≤ (σ 0 53).toInt ∧ (σ 0 53).toInt ≤ _ ∧ _
    omega
  · show AllIn 0 10 (upC σ 31 (σ 0 49).toNatClampNeg ty 31)
    exact acr_up a6 hty
  · intro j hj
    rw [el]
    have := a9 j hj
    show ((σ 35) j).toInt < _
    omega
  · show AllIn (-1) 4000 (upC (upC σ 31 (σ 0 49).toNatClampNeg ty) 32 (σ 0 49).toNatClampNeg ((-1) : Int32) 32)
    exact acr_up b3 (by decide)
  · rw [el]; omega
  · rw [el]
    show (σ 0 53).toInt < _
    omega
theorem sp_hold {tk n : Int32} {Q : St → St → List Nat → Prop} (h : PA σ τ) (ht : 0 ≤ tk.toInt ∧ tk.toInt < 16002) (hn : 0 ≤ n.toInt ∧ n.toInt ≤ 99 ∧ n.toInt < (σ 0 49).toInt) (hh : (σ 0 53).toInt < (σ 0 49).toInt) (k : ∀ s, QTt σ τ vs s → (s 0 49) = (σ 0 49) → (s 0 53).toInt = (σ 0 53).toInt + 1 → (s 32) = (σ 32) → Q s τ vs) : wp_hold tk n σ τ vs Q := by
  have h9 := h
  obtain ⟨hT, hA, ⟨n1, n2, n3, n4, n5, n6, n7⟩, ⟨a1, a2, a3, a4, a5, a6, a7, a8, a9, b1, b2, b3⟩, h5⟩ := h9
  have e1 : ((σ 0 53) + (1 : Int32)).toInt = (σ 0 53).toInt + 1 := ad1 (by omega)
  have el : ((upC (upC (upC (upC σ 34 (σ 0 53).toNatClampNeg tk) 35 (σ 0 53).toNatClampNeg n) 36 (σ 0 53).toNatClampNeg (σ 0 54)) 0 53 ((σ 0 53) + (1 : Int32))) 0 53).toInt = (σ 0 53).toInt + 1 := by rw [rdA_eq rfl]; exact e1
  have en := nt n3.1
  unfold wp_hold
  refine ⟨by omega, by omega, by omega, k _ (qt_mk h (kp_f (kp_a (kp_a (kp_a kp_rf rfl) rfl) rfl) rfl) ?_ ?_ ?_ a6 ?_ b3 (Or.inl rfl) (Int.le_refl _)) rfl el rfl⟩
  · rw [el]
    show 0 ≤ _ ∧ _ ≤ (σ 0 49).toInt ∧ (σ 0 49).toInt ≤ 100
    omega
  · show AllIn 0 16001 (upC σ 34 (σ 0 53).toNatClampNeg tk 34)
    exact acr_up a1 ⟨by omega, by omega⟩
  · show AllIn 0 99 (upC (upC σ 34 (σ 0 53).toNatClampNeg tk) 35 (σ 0 53).toNatClampNeg n 35)
    exact acr_up a2 ⟨by omega, by omega⟩
  · intro j hj
    rw [el] at hj
    show (upC (upC σ 34 (σ 0 53).toNatClampNeg tk) 35 (σ 0 53).toNatClampNeg n 35 j).toInt < (σ 0 49).toInt
    rw [rdA]
    by_cases c : j = (σ 0 53).toNatClampNeg
    · rw [if_pos c]; exact hn.2.2
    · rw [if_neg c]
      exact a9 j (by omega)
theorem sp_close {Q : St → St → List Nat → Prop} (h : PA σ τ) (k : ∀ s, QTt σ τ vs s → Q s τ vs) : wp_close σ τ vs Q := by
  have h9 := h
  obtain ⟨hT, hA, ⟨n1, n2, n3, n4, n5, n6, n7⟩, ⟨a1, a2, a3, a4, a5, a6, a7, a8, a9, b1, b2, b3⟩, h5⟩ := h9
  unfold wp_close
  refine ⟨fun n s t z => τ = t ∧ vs = z ∧ (n : Int) = (s 0 53).toInt ∧ (s 0 53).toInt ≤ (σ 0 53).toInt ∧ 0 ≤ (s 0 53).toInt ∧ Kp [(0, 53)] [] σ s, ⟨((σ 0 53).toInt).toNat, rfl, rfl, by omega, Int.le_refl _, n3.1, kp_rf⟩, ?_⟩
  rintro n s _ _ ⟨rfl, rfl, q1, q2, q3, q4⟩
  have el : (s 0 49) = (σ 0 49) := q4 _ _ rfl rfl
  have e34 : (s 34) = (σ 34) := funext (fun j => q4 34 j rfl rfl)
  have e35 : (s 35) = (σ 35) := funext (fun j => q4 35 j rfl rfl)
  have e31 : (s 31) = (σ 31) := funext (fun j => q4 31 j rfl rfl)
  have fin : Q (upC s 0 54 ((s 0 54) - (1 : Int32))) τ vs := by
    refine k _ (qt_mk h (kp_f (kp_sub q4 rfl rfl) rfl) ?_ ?_ ?_ ?_ ?_ ?_ ?_ ?_)
    · show 0 ≤ (s 0 53).toInt ∧ (s 0 53).toInt ≤ (s 0 49).toInt ∧ (s 0 49).toInt ≤ 100
      rw [el]; omega
    · show AllIn 0 16001 (s 34)
      rw [e34]; exact a1
    · show AllIn 0 99 (s 35)
      rw [e35]; exact a2
    · show AllIn 0 10 (s 31)
      rw [e31]; exact a6
    · intro j hj
      show ((s 35) j).toInt < (s 0 49).toInt
      rw [e35, el]
      have hj' : (j : Int) < (s 0 53).toInt := hj
      exact a9 j (by omega)
    · show AllIn (-1) 4000 (s 32)
      have e32 : (s 32) = (σ 32) := funext (fun j => q4 32 j rfl rfl)
      rw [e32]; exact b3
    · have e : (s 0 12) = (σ 0 12) := q4 _ _ rfl rfl
      exact of_eq e
    · show _ ≤ (s 0 49).toInt
      rw [el]; exact Int.le_refl _
  have e1 : 0 < (s 0 53).toInt → ((s 0 53) - (1 : Int32)).toInt = (s 0 53).toInt - 1 := fun c => sb1 (by omega)
  refine ⟨fun _ => fin, fun c => ⟨by rw [e1 c]; omega, fun _ => fin, fun _ => ⟨n - 1, by omega, rfl, rfl, ?_, ?_, ?_, kp_f q4 rfl⟩⟩⟩
  · rw [rdA_eq rfl, e1 c]; omega
  · rw [rdA_eq rfl, e1 c]; omega
  · rw [rdA_eq rfl, e1 c]; omega
theorem mx1 {y : Int32} (h : y.toInt ≤ 4000) : 1 ≤ (if y < (1 : Int32) then (1 : Int32) else y).toInt ∧ (if y < (1 : Int32) then (1 : Int32) else y).toInt ≤ 4000 := by
  have e : (1 : Int32).toInt = 1 := by decide
  split
  · rw [e]; omega
  · rename_i c
    rw [Int32.lt_iff_toInt_lt, e] at c
    omega
theorem sp_localName {tk ty sz : Int32} {Q : Int32 → St → St → List Nat → Prop} (h : PA σ τ) (ht : 0 ≤ tk.toInt ∧ tk.toInt < 16002) (hty : 0 ≤ ty.toInt ∧ ty.toInt ≤ 10) (hsz : sz.toInt ≤ 4000) (k : ∀ (r : Int32) s, QTt σ τ vs s → (r.toInt < 0 → (s 0 12).toInt = 0 → (s 0 15).toInt = 0 → False) → (0 ≤ r.toInt → r.toInt ≤ 99 ∧ r.toInt < (s 0 49).toInt ∧ (s 0 53).toInt < (s 0 49).toInt ∧ (sz.toInt < 0 → ((s 32) r.toNatClampNeg).toInt < 0)) → Q r s τ vs) : wp_localName tk ty sz σ τ vs Q := by
  unfold wp_localName
  refine sp_isHeldHere h ht ⟨fun _ => True, fun y _ _ => ?_, fun _ => trivial, fun _ => trivial⟩ ⟨fun _ => True, fun y _ _ => ?_, fun _ => trivial, fun _ => trivial⟩
  all_goals
    refine sp_must ht (fun s1 hs1 hf1 => ?_)
    have q1 := qt_tl (vs := vs) h hs1
    refine sp_declareLocal q1.1.2.1 ht hty (fun r s q2 f2 f3 _ _ _ _ r1 => ⟨fun c => k r s (qt_tr q1 q2) f2 (fun c2 => absurd c (by omega)), fun c => ?_⟩)
    have h2 := q2.1.2.1
    have up : ∀ v : Int32, -1 ≤ v.toInt → v.toInt ≤ 4000 → QTt s τ vs (upC s 32 r.toNatClampNeg v) := fun v hv1 hv2 => by
      obtain ⟨hT, hA, ⟨n1, n2, n3, n4, n5, n6, n7⟩, ⟨a1, a2, a3, a4, a5, a6, a7, a8, a9, b1, b2, b3⟩, h5⟩ := h2
      exact qt_mk q2.1.2.1 (kp_a kp_rf rfl) n3 a1 a2 a6 a9 (acr_up b3 ⟨hv1, hv2⟩) (Or.inl rfl) (Int.le_refl _)
    obtain ⟨g1, g2, g3⟩ := f3 c
    exact ⟨fun c2 => ⟨by omega, k r _ (qt_tr q1 (qt_tr q2 (up _ (by have := mx1 hsz; omega) (mx1 hsz).2))) (fun c3 => absurd c (by omega)) (fun _ => ⟨g1, g2, g3, fun c3 => absurd c2 (by omega)⟩)⟩, fun c2 => ⟨by omega, k r _ (qt_tr q1 (qt_tr q2 (up _ (by decide) (by decide)))) (fun c3 => absurd c (by omega)) (fun _ => ⟨g1, g2, g3, fun _ => by rw [rdA_eq rfl]; decide⟩)⟩⟩
end DC2
end

