/-! bodyOf -/
def BOx (σ : St) (vs : List Nat) (ty : Int32) (s t : St) (z : List Nat) : Prop := UR σ vs s t z ∧ NCt σ vs s z (-123) ∧ pos σ + 2 ≤ pos s ∧ ((s 0 31) = (σ 0 31) ∧ (s 0 36) = (σ 0 36) ∧ (s 13) = (σ 13) ∧ (s 17) = (σ 17)) ∧ (∀ f, ITd σ f (σ 0 37).toInt → ITd s f (s 0 37).toInt) ∧ (s 0 45).toInt ≤ (σ 0 45).toInt + 1 ∧ ((s 0 12).toInt = 0 → (s 0 15).toInt = 0 → 0 ≤ (σ 0 65).toInt → (σ 0 65).toInt ≤ (σ 0 49).toInt → (s 0 45).toInt = (σ 0 45).toInt + 1 ∧ (s 54) (σ 0 45).toNatClampNeg = (σ 0 65) ∧ (s 27) (σ 0 45).toNatClampNeg = (σ 0 35) ∧ BT s (σ 0 45).toNatClampNeg (ty.toInt = -1) (CO s))
section BOF
variable {σ s s' τ t t' : St} {vs z z' : List Nat}
/-- the code before the rows -/
def BMx (σ1 : St) (s : St) (z : List Nat) (t s9 t9 : St) (z9 : List Nat) : Prop := t = t9 ∧ z = z9 ∧ UR s z s9 t z ∧ (KE s s9 ∧ ∀ f, ITd s f (s 0 37).toInt → ITd s9 f (s9 0 37).toInt) ∧ (pos s + 1 ≤ pos s9 ∧ (s9 0 17).toInt ≤ (s 0 17).toInt + 3 ∧ (s9 0 39) = (s 0 39)) ∧ ((s9 0 12).toInt = 0 → (s9 0 15).toInt = 0 → BCo s9 (wcn σ1))
theorem sp_bodyOf {ty : Int32} {Q T : St → St → List Nat → Prop} (h : PA σ τ) (hS : (σ 0 15).toInt = 0) (hB : NB σ vs) (hk : kd σ = 54) (hb : 0 ≤ (σ 0 45).toInt ∧ (σ 0 45).toInt < 10000) (k : ∀ s t z, BOx σ vs ty s t z → Q s t z) (kT : ∀ s t z, UT σ vs s t z → T s t z) : wp_bodyOf ty σ τ vs Q T := by
  obtain ⟨gn1, gn2⟩ := nxt_ok h.1 h.2.1 (by omega)
  have npos : ∀ s : St, s = upC σ 0 10 ((σ 0 10) + (1 : Int32)) → pos s = pos (nxt σ) := fun s e => by rw [e]; rfl
  unfold wp_bodyOf
  refine ⟨fun y => (y.toInt ≠ 0 ↔ ty.toInt = -1), fun y _ hy => ?_, fun c => ⟨fun q => absurd rfl q, fun q => absurd q c⟩, fun c => ⟨fun _ => c, fun _ => by decide⟩⟩
  have hkw : KHw σ (upC (upC (upC (upC (upC (upC σ 0 55 y) 0 56 ty) 0 57 (0 : Int32)) 0 58 ((-1) : Int32)) 0 59 ((-1) : Int32)) 0 10 ((σ 0 10) + (1 : Int32))) := kp_f (kp_f (kp_f (kp_f (kp_f (kp_f kp_rf rfl) rfl) rfl) rfl) rfl) rfl
  have hat : AtOK (upC (upC (upC (upC (upC (upC σ 0 55 y) 0 56 ty) 0 57 (0 : Int32)) 0 58 ((-1) : Int32)) 0 59 ((-1) : Int32)) 0 10 ((σ 0 10) + (1 : Int32))) := gn1
  have hpo : pos (upC (upC (upC (upC (upC (upC σ 0 55 y) 0 56 ty) 0 57 (0 : Int32)) 0 58 ((-1) : Int32)) 0 59 ((-1) : Int32)) 0 10 ((σ 0 10) + (1 : Int32))) = pos (nxt σ) := rfl
  have f55 : ((upC (upC (upC (upC (upC (upC σ 0 55 y) 0 56 ty) 0 57 (0 : Int32)) 0 58 ((-1) : Int32)) 0 59 ((-1) : Int32)) 0 10 ((σ 0 10) + (1 : Int32))) 0 55) = y := rfl
  have f56 : ((upC (upC (upC (upC (upC (upC σ 0 55 y) 0 56 ty) 0 57 (0 : Int32)) 0 58 ((-1) : Int32)) 0 59 ((-1) : Int32)) 0 10 ((σ 0 10) + (1 : Int32))) 0 56) = ty := rfl
  have f57 : ((upC (upC (upC (upC (upC (upC σ 0 55 y) 0 56 ty) 0 57 (0 : Int32)) 0 58 ((-1) : Int32)) 0 59 ((-1) : Int32)) 0 10 ((σ 0 10) + (1 : Int32))) 0 57) = 0 := rfl
  have fl : ((upC (upC (upC (upC (upC (upC σ 0 55 y) 0 56 ty) 0 57 (0 : Int32)) 0 58 ((-1) : Int32)) 0 59 ((-1) : Int32)) 0 10 ((σ 0 10) + (1 : Int32))) 0 49) = (σ 0 49) := rfl
  have fh : ((upC (upC (upC (upC (upC (upC σ 0 55 y) 0 56 ty) 0 57 (0 : Int32)) 0 58 ((-1) : Int32)) 0 59 ((-1) : Int32)) 0 10 ((σ 0 10) + (1 : Int32))) 0 53) = (σ 0 53) := rfl
  have fp : ((upC (upC (upC (upC (upC (upC σ 0 55 y) 0 56 ty) 0 57 (0 : Int32)) 0 58 ((-1) : Int32)) 0 59 ((-1) : Int32)) 0 10 ((σ 0 10) + (1 : Int32))) 0 65) = (σ 0 65) := rfl
  generalize (upC (upC (upC (upC (upC (upC σ 0 55 y) 0 56 ty) 0 57 (0 : Int32)) 0 58 ((-1) : Int32)) 0 59 ((-1) : Int32)) 0 10 ((σ 0 10) + (1 : Int32))) = σ1 at *
  have hn3 := h.2.2.1.2.2.1
  have e35 : (σ1 35) = (σ 35) := funext (fun j => hkw 35 j rfl rfl)
  have u1 : UR σ vs σ1 τ vs := ur_hw h hkw (by rw [fh, fl]; exact hn3) (by unfold HLd; rw [e35, fh, fl]; exact h.2.2.2.1.2.2.2.2.2.2.2.2.1) hat (by omega)
  have hP1 := u1.2.1
  have h01 := hP1.2.2.1.2.2.2.2.1
  have w1 : (σ1 0 17).toInt = (σ 0 17).toInt := by rw [hkw 0 17 rfl rfl]
  have i1 : (σ1 0 39).toInt = (σ 0 39).toInt := by rw [hkw 0 39 rfl rfl]
  have b1 : (σ1 0 45) = (σ 0 45) := hkw 0 45 rfl rfl
  have sz1 := ur_sz u1
  have hB1 : NB σ1 vs := by
    obtain ⟨q1, q2, q3⟩ := hB
    unfold NB
    rw [sz1]
    exact ⟨by omega, by omega, by omega⟩
  have e0 : (0 : Int32).toInt = 0 := by decide
  have hS1 : PSt σ1 := ⟨by rw [ur_sil u1]; exact hS, fun q => by
    rw [f55] at q
    rw [f56]
    exact fun q2 => hy.mpr q2 (by rw [q]; exact e0)⟩
  have cut : ∀ {s t z} {B G : List Nat}, SRt σ1 vs 0 0 s t z B G → NCt σ1 vs s z 0 → ∀ s' t' z', RTt s z s' t' z' → T s' t' z' := fun sr nc s' t' z' hs => kT _ _ _ (ut_ur (ur_tr u1 (ur_rs sr.1)) (by have := nc.2.2; omega) (ut_rt hs))
  refine ⟨fun n s t z => n = ((σ 0 9).toInt - pos s).toNat ∧ ∃ B G, SRt σ1 vs 0 0 s t z B G ∧ NCt σ1 vs s z 0, ⟨_, rfl, [], [], sr_rl h01 (rl_rf hP1) (te_rf (N := 0)) (by omega), nct_rf⟩, ?_⟩
  rintro n s t z ⟨hn, B, G, sr, nc⟩
  have hPs := sr.1.2.1
  have h0s := hPs.2.2.1.2.2.2.2.1
  have hBs := nct_nb hB1 sr.1 nc (by omega)
  have esz := rs_sz sr.1
  have hcs := nb_cap hBs hPs
  refine sp_is hPs (fun hk5 => ⟨fun _ => ?_, no1⟩) (fun _ => ⟨no0, fun _ => ?_⟩)
  rotate_left 1
  · refine ss_stmt (1 : Int32) s t z _ T (by decide) hPs (ps_rs hS1 sr.1) hBs (fun s' t' z' pq => ?_) (cut sr nc)
    obtain ⟨B', G', sr', nc', p'⟩ := pq
    have srA := sr_tr h01 sr sr'
    have ncA := nct_tr nc nc'
    have hPA := srA.1.2.1
    have hpA := pos_in hPA.1 hPA.2.1
    have szA := rs_sz srA.1
    exact ⟨((σ 0 9).toInt - pos s').toNat, by omega, rfl, _, _, srA, nct_le ncA (by omega)⟩
  have hk5' : kd s = 55 := hk5
  obtain ⟨ro, po, wo, ico⟩ := rl_nxt (vs := z) hPs (by omega)
  have hPo := ro.2.1
  have h0o := hPo.2.2.1.2.2.2.2.1
  have wn : wcn (nxt s) = wcn s := rfl
  -- the code is typed
  have typed : ((nxt s) 0 12).toInt = 0 → ((nxt s) 0 15).toInt = 0 → ∃ g, TY (nxt s) g (fun _ => False) (wcn σ1) 0 0 ∧ ∃ k, g (wcn σ1) = some (0, k) := fun q1 q2 => by
    obtain ⟨g1, t1, x1, -⟩ := sr.2.2.1 _ _ _ _ (ty_begin (σ := σ1) 0) (of0 ro.2.2.2.2.1 q1) (by rw [← rl_sil ro]; exact q2)
    obtain ⟨hB0, hG0⟩ := sr.2.2.2.2 (of0 ro.2.2.2.2.1 q1) (by rw [← rl_sil ro]; exact q2) (by rw [f57]; decide)
    obtain ⟨g2, t2, x2⟩ := te_nxt (N := 0) (a := 0) h0s ro g1 _ _ 0 0 t1 (by omega) q1 q2
    refine ⟨g2, ty_X t2 (fun q hq => ?_), 0, ?_⟩
    · rw [hB0, hG0] at hq
      rcases hq with hq | hq
      · exact hq.elim
      · exact (List.not_mem_nil hq).elim
    · have hle := t1.1
      rw [x2 _ hle, x1 _ (Nat.le_refl _)]
      exact if_pos rfl
  have eV : (s 0 55) = y := (sr.1.1 0 55 rfl rfl).trans f55
  have eVn : ((nxt s) 0 55) = y := eV
  have mk : ∀ s9 ws, PU (nxt s) s9 ws → ws.length ≤ 3 → ((s9 0 12).toInt = 0 → (s9 0 15).toInt = 0 → BCo s9 (wcn σ1)) → BMx σ1 s z t s9 t z := fun s9 ws p hl bc => by
    have rp := rl_pu (vs := z) (z := z) hPo p hPo.2.2.2.2 (fun _ h => h) (Nat.le_refl _)
    have ra := rl_tr ro rp
    have P9 := pos_sq (sq_pu p)
    have W9 : (s9 0 17).toInt = ((nxt s) 0 17).toInt + ws.length := p.2.1
    exact ⟨rfl, rfl, ur_rs (rs_rl ra), ⟨ra.1, ra.2.2.2.2.2.2.2.2.2.2.2.1⟩, ⟨by omega, by omega, by rw [ic_sq (sq_pu p)]; rfl⟩, bc⟩
  refine ⟨fun s9 t9 z9 => BMx σ1 s z t s9 t9 z9, ?_, fun c => ?_, fun c => ?_⟩
  rotate_left 1
  · rw [show upC s 0 10 ((s 0 10) + (1 : Int32)) = nxt s from rfl]
    refine sp_put_1 h0o (by omega) (fun s2 p => ?_)
    have W2 : (s2 0 17).toInt = ((nxt s) 0 17).toInt + 2 := p.2.1
    refine sp_put_0 (by omega) (by omega) (fun s3 p2 => mk s3 _ (pu_tr h0o p p2) (by decide) (fun q1 q2 => ?_))
    have a1 : (s3 0 12) = ((nxt s) 0 12) := (p2.1 _ _ rfl rfl).trans (p.1 _ _ rfl rfl)
    have a2 : (s3 0 15) = ((nxt s) 0 15) := (p2.1 _ _ rfl rfl).trans (p.1 _ _ rfl rfl)
    obtain ⟨g, t1, hE⟩ := typed (by rw [← a1]; exact q1) (by rw [← a2]; exact q2)
    have c' : y.toInt = 0 := by rw [← eV]; exact c
    exact bc_value t1 (fun _ q => q) h0o p p2 (by rw [eVn]; exact Int32.toInt_inj.mp c') hE
  · rw [show upC s 0 10 ((s 0 10) + (1 : Int32)) = nxt s from rfl]
    refine sp_put_0 h0o (by omega) (fun s2 p => mk s2 _ p (by decide) (fun q1 q2 => ?_))
    have a1 : (s2 0 12) = ((nxt s) 0 12) := p.1 _ _ rfl rfl
    have a2 : (s2 0 15) = ((nxt s) 0 15) := p.1 _ _ rfl rfl
    obtain ⟨g, t1, hE⟩ := typed (by rw [← a1]; exact q1) (by rw [← a2]; exact q2)
    have c' : y.toInt ≠ 0 := by rw [← eV]; exact c
    exact bc_leave t1 (fun _ q => q) h0o p (by rw [eVn]; exact fun q => c' (by rw [q]; exact e0)) hE
  rintro s9 _ _ ⟨rfl, rfl, u9, ⟨k9, it9⟩, ⟨p9, w9, i9⟩, bc9⟩
  have hP9 := u9.2.1
  have h09 := hP9.2.2.1.2.2.2.2.1
  have hl9 := hP9.2.2.1.2.2.1
  have b9 : (s9 0 45) = (σ 0 45) := (k9 0 45 rfl rfl).trans ((sr.1.1 0 45 rfl rfl).trans b1)
  have bo : ((σ 0 45).toNatClampNeg : Int) = (σ 0 45).toInt := nt hb.1
  have hl1 : (σ 0 49).toInt ≤ (s9 0 49).toInt := by
    have a1 := sr.1.2.2.2.2.2.2.2.2.2.2.2
    have a2 : (s9 0 49) = (s 0 49) := k9 0 49 rfl rfl
    rw [a2]
    rw [fl] at a1
    exact a1
  refine ⟨fun _ => ⟨hb, hb, hb, hb, ?_⟩, fun c => by omega⟩
  have kS : KFn s9 (upC (upC (upC (upC (upC s9 0 53 (0 : Int32)) 26 (σ 0 45).toNatClampNeg (σ 0 17)) 27 (σ 0 45).toNatClampNeg (s9 0 35)) 28 (σ 0 45).toNatClampNeg (s9 0 49)) 29 (σ 0 45).toNatClampNeg (s9 0 17)) := kp_a (kp_a (kp_a (kp_a (kp_f kp_rf rfl) rfl) rfl) rfl) rfl
  have S53 : (upC (upC (upC (upC (upC s9 0 53 (0 : Int32)) 26 (σ 0 45).toNatClampNeg (σ 0 17)) 27 (σ 0 45).toNatClampNeg (s9 0 35)) 28 (σ 0 45).toNatClampNeg (s9 0 49)) 29 (σ 0 45).toNatClampNeg (s9 0 17)) 0 53 = 0 := rfl
  have S17 : (upC (upC (upC (upC (upC s9 0 53 (0 : Int32)) 26 (σ 0 45).toNatClampNeg (σ 0 17)) 27 (σ 0 45).toNatClampNeg (s9 0 35)) 28 (σ 0 45).toNatClampNeg (s9 0 49)) 29 (σ 0 45).toNatClampNeg (s9 0 17)) 0 17 = s9 0 17 := rfl
  have S49 : (upC (upC (upC (upC (upC s9 0 53 (0 : Int32)) 26 (σ 0 45).toNatClampNeg (σ 0 17)) 27 (σ 0 45).toNatClampNeg (s9 0 35)) 28 (σ 0 45).toNatClampNeg (s9 0 49)) 29 (σ 0 45).toNatClampNeg (s9 0 17)) 0 49 = s9 0 49 := rfl
  have Sw : ∀ j, (upC (upC (upC (upC (upC s9 0 53 (0 : Int32)) 26 (σ 0 45).toNatClampNeg (σ 0 17)) 27 (σ 0 45).toNatClampNeg (s9 0 35)) 28 (σ 0 45).toNatClampNeg (s9 0 49)) 29 (σ 0 45).toNatClampNeg (s9 0 17)) 8 j = s9 8 j := fun _ => rfl
  have S30 : ∀ j, (upC (upC (upC (upC (upC s9 0 53 (0 : Int32)) 26 (σ 0 45).toNatClampNeg (σ 0 17)) 27 (σ 0 45).toNatClampNeg (s9 0 35)) 28 (σ 0 45).toNatClampNeg (s9 0 49)) 29 (σ 0 45).toNatClampNeg (s9 0 17)) 30 j = s9 30 j := fun _ => rfl
  have S54 : ∀ j, (upC (upC (upC (upC (upC s9 0 53 (0 : Int32)) 26 (σ 0 45).toNatClampNeg (σ 0 17)) 27 (σ 0 45).toNatClampNeg (s9 0 35)) 28 (σ 0 45).toNatClampNeg (s9 0 49)) 29 (σ 0 45).toNatClampNeg (s9 0 17)) 54 j = s9 54 j := fun _ => rfl
  have S32 : ∀ j, (upC (upC (upC (upC (upC s9 0 53 (0 : Int32)) 26 (σ 0 45).toNatClampNeg (σ 0 17)) 27 (σ 0 45).toNatClampNeg (s9 0 35)) 28 (σ 0 45).toNatClampNeg (s9 0 49)) 29 (σ 0 45).toNatClampNeg (s9 0 17)) 32 j = s9 32 j := fun _ => rfl
  have SA : ∀ j, (upC (upC (upC (upC (upC s9 0 53 (0 : Int32)) 26 (σ 0 45).toNatClampNeg (σ 0 17)) 27 (σ 0 45).toNatClampNeg (s9 0 35)) 28 (σ 0 45).toNatClampNeg (s9 0 49)) 29 (σ 0 45).toNatClampNeg (s9 0 17)) 26 j = (if j = (σ 0 45).toNatClampNeg then σ 0 17 else s9 26 j) ∧ (upC (upC (upC (upC (upC s9 0 53 (0 : Int32)) 26 (σ 0 45).toNatClampNeg (σ 0 17)) 27 (σ 0 45).toNatClampNeg (s9 0 35)) 28 (σ 0 45).toNatClampNeg (s9 0 49)) 29 (σ 0 45).toNatClampNeg (s9 0 17)) 27 j = (if j = (σ 0 45).toNatClampNeg then s9 0 35 else s9 27 j) ∧ (upC (upC (upC (upC (upC s9 0 53 (0 : Int32)) 26 (σ 0 45).toNatClampNeg (σ 0 17)) 27 (σ 0 45).toNatClampNeg (s9 0 35)) 28 (σ 0 45).toNatClampNeg (s9 0 49)) 29 (σ 0 45).toNatClampNeg (s9 0 17)) 28 j = (if j = (σ 0 45).toNatClampNeg then s9 0 49 else s9 28 j) ∧ (upC (upC (upC (upC (upC s9 0 53 (0 : Int32)) 26 (σ 0 45).toNatClampNeg (σ 0 17)) 27 (σ 0 45).toNatClampNeg (s9 0 35)) 28 (σ 0 45).toNatClampNeg (s9 0 49)) 29 (σ 0 45).toNatClampNeg (s9 0 17)) 29 j = (if j = (σ 0 45).toNatClampNeg then s9 0 17 else s9 29 j) := fun j => by
    simp only [rdC, Nat.reduceEqDiff, if_true, if_false]
    exact ⟨trivial, trivial, trivial, trivial⟩
  generalize (upC (upC (upC (upC (upC s9 0 53 (0 : Int32)) 26 (σ 0 45).toNatClampNeg (σ 0 17)) 27 (σ 0 45).toNatClampNeg (s9 0 35)) 28 (σ 0 45).toNatClampNeg (s9 0 49)) 29 (σ 0 45).toNatClampNeg (s9 0 17)) = S at *
  refine sp_rows (by rw [S17]; omega) (by rw [S49]; omega) (fun j => by rw [S32]; exact hP9.2.2.2.1.2.2.2.2.2.2.2.2.2.2.2 j) (fun c sr9 hr => ⟨hb, hb, ?_⟩)
  obtain ⟨r1, r2, r3, r4, r5⟩ := hr
  rw [S17, S49] at r3
  rw [S49] at r4
  have mp := sr.1.2.2.2.2.2.2.2.1
  have kF : KFn s9 (upC (upC (upC sr9 30 (σ 0 45).toNatClampNeg c) 54 (σ 0 45).toNatClampNeg (sr9 0 65)) 0 45 ((σ 0 45) + (1 : Int32))) := kp_f (kp_a (kp_a (kp_tr kS (kp_sub r1 rfl rfl)) rfl) rfl) rfl
  have F53 : (upC (upC (upC sr9 30 (σ 0 45).toNatClampNeg c) 54 (σ 0 45).toNatClampNeg (sr9 0 65)) 0 45 ((σ 0 45) + (1 : Int32))) 0 53 = 0 := (r1 0 53 rfl rfl).trans S53
  have F17 : (upC (upC (upC sr9 30 (σ 0 45).toNatClampNeg c) 54 (σ 0 45).toNatClampNeg (sr9 0 65)) 0 45 ((σ 0 45) + (1 : Int32))) 0 17 = sr9 0 17 := rfl
  have F45 : (upC (upC (upC sr9 30 (σ 0 45).toNatClampNeg c) 54 (σ 0 45).toNatClampNeg (sr9 0 65)) 0 45 ((σ 0 45) + (1 : Int32))) 0 45 = σ 0 45 + (1 : Int32) := rfl
  have Fw : ∀ j, (upC (upC (upC sr9 30 (σ 0 45).toNatClampNeg c) 54 (σ 0 45).toNatClampNeg (sr9 0 65)) 0 45 ((σ 0 45) + (1 : Int32))) 8 j = sr9 8 j := fun _ => rfl
  have e65 : sr9 0 65 = σ 0 65 := (r1 0 65 rfl rfl).trans ((kS 0 65 rfl rfl).trans ((k9 0 65 rfl rfl).trans ((sr.1.1 0 65 rfl rfl).trans fp)))
  have FA : ∀ j, ((upC (upC (upC sr9 30 (σ 0 45).toNatClampNeg c) 54 (σ 0 45).toNatClampNeg (sr9 0 65)) 0 45 ((σ 0 45) + (1 : Int32))) 30 j = if j = (σ 0 45).toNatClampNeg then c else sr9 30 j) ∧ ((upC (upC (upC sr9 30 (σ 0 45).toNatClampNeg c) 54 (σ 0 45).toNatClampNeg (sr9 0 65)) 0 45 ((σ 0 45) + (1 : Int32))) 54 j = if j = (σ 0 45).toNatClampNeg then sr9 0 65 else sr9 54 j) ∧ (upC (upC (upC sr9 30 (σ 0 45).toNatClampNeg c) 54 (σ 0 45).toNatClampNeg (sr9 0 65)) 0 45 ((σ 0 45) + (1 : Int32))) 26 j = sr9 26 j ∧ (upC (upC (upC sr9 30 (σ 0 45).toNatClampNeg c) 54 (σ 0 45).toNatClampNeg (sr9 0 65)) 0 45 ((σ 0 45) + (1 : Int32))) 27 j = sr9 27 j ∧ (upC (upC (upC sr9 30 (σ 0 45).toNatClampNeg c) 54 (σ 0 45).toNatClampNeg (sr9 0 65)) 0 45 ((σ 0 45) + (1 : Int32))) 28 j = sr9 28 j ∧ (upC (upC (upC sr9 30 (σ 0 45).toNatClampNeg c) 54 (σ 0 45).toNatClampNeg (sr9 0 65)) 0 45 ((σ 0 45) + (1 : Int32))) 29 j = sr9 29 j := fun j => by
    simp only [rdC, Nat.reduceEqDiff, if_true, if_false]
    exact ⟨trivial, trivial, trivial, trivial, trivial, trivial⟩
  generalize (upC (upC (upC sr9 30 (σ 0 45).toNatClampNeg c) 54 (σ 0 45).toNatClampNeg (sr9 0 65)) 0 45 ((σ 0 45) + (1 : Int32))) = F at *
  have B45 : (F 0 45).toInt = (σ 0 45).toInt + 1 := by rw [F45]; exact ad1 (by omega)
  have RF : RW s9 F := fun j hj => by rw [Fw, r2 j (by rw [S17]; exact hj), Sw]
  have uF : UR s9 z F t z := ur_fn hP9 kF F53 (by rw [F17]; omega) RF (by rw [B45, b9]; omega) (fun b hb9 => by
    rw [b9] at hb9
    obtain ⟨x1, x2, x3, x4, x5, x6⟩ := FA b
    obtain ⟨y1, y2, y3, y4⟩ := SA b
    have nb : b ≠ (σ 0 45).toNatClampNeg := by omega
    rw [if_neg nb] at x1 x2 y1 y2 y3 y4
    exact ⟨x3.trans ((r1 26 b rfl rfl).trans y1), x4.trans ((r1 27 b rfl rfl).trans y2), x5.trans ((r1 28 b rfl rfl).trans y3), x6.trans ((r1 29 b rfl rfl).trans y4), x1.trans ((r1 30 b rfl rfl).trans (S30 b)), x2.trans ((r1 54 b rfl rfl).trans (S54 b))⟩)
  have uA : UR σ vs F t z := ur_tr (ur_tr (ur_tr u1 (ur_rs sr.1)) u9) uF
  have pF : pos F = pos s9 := by
    unfold pos
    have a1 : (F 0 10) = (s9 0 10) := kF _ _ rfl rfl
    have a2 : (F 3) = (s9 3) := funext (fun j => kF 3 j rfl rfl)
    rw [a1, a2]
  have iF : (F 0 39) = (s9 0 39) := kF _ _ rfl rfl
  obtain ⟨n1, n2, n3⟩ := nc
  refine k _ _ _ ⟨uA, ⟨by rw [F17, pF]; omega, by rw [iF, i9, pF]; omega, by rw [pF]; omega⟩, by rw [pF]; omega, ⟨?_, ?_, ?_, ?_⟩, fun f hf => ?_, by rw [B45]; omega, fun q1 q2 q3 q4 => ?_⟩
  · exact (kF 0 31 rfl rfl).trans ((k9 0 31 rfl rfl).trans ((sr.1.1 0 31 rfl rfl).trans (hkw 0 31 rfl rfl)))
  · exact (kF 0 36 rfl rfl).trans ((k9 0 36 rfl rfl).trans ((sr.1.1 0 36 rfl rfl).trans (hkw 0 36 rfl rfl)))
  · exact funext (fun j => (kF 13 j rfl rfl).trans ((k9 13 j rfl rfl).trans ((sr.1.1 13 j rfl rfl).trans (hkw 13 j rfl rfl))))
  · exact funext (fun j => (kF 17 j rfl rfl).trans ((k9 17 j rfl rfl).trans ((sr.1.1 17 j rfl rfl).trans (hkw 17 j rfl rfl))))
  · have d1 : (σ1 0 37) = (σ 0 37) := hkw 0 37 rfl rfl
    have d9 : (F 0 37) = (s9 0 37) := kF 0 37 rfl rfl
    have g1 : ITd σ1 f (σ1 0 37).toInt := by
      rw [d1]
      exact itd_of (funext (fun j => hkw 25 j rfl rfl)) (hkw 0 39 rfl rfl) hf
    have g2 := it9 f (sr.1.2.2.2.2.2.2.2.2.2.2.1.2.1 f g1)
    rw [d9]
    exact itd_of (funext (fun j => kF 25 j rfl rfl)) iF g2
  · have a1 : (F 0 12) = (s9 0 12) := kF _ _ rfl rfl
    have a2 : (F 0 15) = (s9 0 15) := kF _ _ rfl rfl
    have a3 : (F 0 49) = (s9 0 49) := kF _ _ rfl rfl
    have bc := bc9 (by rw [← a1]; exact q1) (by rw [← a2]; exact q2)
    obtain ⟨x1, x2, x3, x4, x5, x6⟩ := FA (σ 0 45).toNatClampNeg
    obtain ⟨y1, y2, y3, y4⟩ := SA (σ 0 45).toNatClampNeg
    rw [if_pos rfl] at x1 x2 y1 y2 y3 y4
    have z1 := x3.trans ((r1 26 _ rfl rfl).trans y1)
    have z2 := x4.trans ((r1 27 _ rfl rfl).trans y2)
    have z3 := x5.trans ((r1 28 _ rfl rfl).trans y3)
    have z4 := x6.trans ((r1 29 _ rfl rfl).trans y4)
    have eo : s9 0 35 = σ 0 35 := (k9 0 35 rfl rfl).trans ((sr.1.1 0 35 rfl rfl).trans (hkw 0 35 rfl rfl))
    have ev9 : (s9 0 55) = y := (k9 0 55 rfl rfl).trans eV
    have wS : wcn S = wcn s9 := by unfold wcn; rw [S17]
    have n1 : (wcn σ1 : Int) = (σ1 0 17).toInt := nt h01
    refine ⟨B45, x2.trans e65, z2.trans eo, bt_fin bc h09 (by omega) (by rw [z1]; omega) z4 z3 ?_ ?_ RF (by rw [F17]; exact r3) (fun j hj => ?_) ?_ (fun n h h' c => co_ur uF c)⟩
    · rw [x1]; omega
    · rw [x2, e65]; omega
    · rw [x1, ← wS]
      exact row_w (r5 j (by rw [S49]; exact hj)) (Fw _) (Fw _)
    · rw [ev9]
      refine ⟨fun q => hy.mp (fun q2 => q (Int32.toInt_inj.mp q2)), fun q q2 => hy.mpr q (by rw [q2]; exact e0)⟩
end BOF
