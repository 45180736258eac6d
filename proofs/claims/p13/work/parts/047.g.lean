section
/-! bodyOf -/
def BOx (σ : St) (vs : List Nat) (ty : Int32) (s t : St) (z : List Nat) : Prop := UR σ vs s t z ∧ NCt σ vs s z (-123) ∧ pos σ + 2 ≤ pos s ∧ ((s 0 31) = (σ 0 31) ∧ (s 0 36) = (σ 0 36) ∧ (s 13) = (σ 13) ∧ (s 17) = (σ 17)) ∧ (∀ f, ITd σ f (σ 0 37).toInt → ITd s f (s 0 37).toInt) ∧ (s 0 45).toInt ≤ (σ 0 45).toInt + 1 ∧ ((s 0 12).toInt = 0 → (s 0 15).toInt = 0 → 0 ≤ (σ 0 65).toInt → (σ 0 65).toInt ≤ (σ 0 49).toInt → (s 0 45).toInt = (σ 0 45).toInt + 1 ∧ (s 54) (σ 0 45).toNatClampNeg = (σ 0 65) ∧ (s 27) (σ 0 45).toNatClampNeg = (σ 0 35) ∧ BT s (σ 0 45).toNatClampNeg (ty.toInt = -1) (CO s))
section BOF
variable {σ s s' τ t t' : St} {vs z z' : List Nat}
/-- the code before the rows -/
def BMx (σ1 : St) (s : St) (z : List Nat) (t s9 t9 : St) (z9 : List Nat) : Prop := t = t9 ∧ z = z9 ∧ UR s z s9 t z ∧ (KE s s9 ∧ ∀ f, ITd s f (s 0 37).toInt → ITd s9 f (s9 0 37).toInt) ∧ (pos s + 1 ≤ pos s9 ∧ (s9 0 17).toInt ≤ (s 0 17).toInt + 3 ∧ (s9 0 39) = (s 0 39)) ∧ ((s9 0 12).toInt = 0 → (s9 0 15).toInt = 0 → BCo s9 (wcn σ1))
theorem sp_bodyOf {ty : Int32} {Q T : St → St → List Nat → Prop} (h : PA σ τ) (hS : (σ 0 15).toInt = 0) (hB : NB σ vs) (hk : kd σ = 54) (hb : 0 ≤ (σ 0 45).toInt ∧ (σ 0 45).toInt < 10000) (k : ∀ s t z, BOx σ vs ty s t z → Q s t z) (kT : ∀ s t z, UT σ vs s t z → T s t z) : wp_bodyOf ty σ τ vs Q T := by
  obtain ⟨gn1, gn2⟩ := nxt_ok h.1 h.2.1 (by omega)
  have npos : ∀ s : St, s = upC σ 0 10 ((σ 0 10) + (1 : Int32)) → pos s = pos (nxt σ) := fun s e => by rw [e]; rfl
  unfold wp_bodyOf
  refine ⟨fun y => (y.toInt ≠ 0 ↔ ty.toInt = -1), fun y _ hy => ?_, fun c => ⟨fun q => absurd rfl q, fun q => absurd q c⟩, fun c => ⟨fun _ => c, fun _ => by decide⟩⟩
  have hkw : KHw σ (upC (upC (upC (upC (upC (upC σ 0 55 y) 0 56 ty) 0 57 (0 : Int32)) 0 58 ((-1) : Int32)) 0 59 ((-1) : Int32)) 0 10 ((σ 0 10) + (1 : Int32))) := kp_f (kp_f (kp_f (kp_f (kp_f (kp_f kp_rf rfl) rfl) rfl) rfl) rfl) rfl
  have hat : AtOK (upC (upC (upC (upC (upC (upC σ 0 55 y) 0 56 ty) 0 57 (0 : Int32)) 0 58 ((-1) : Int32)) 0 59 ((-1) : Int32)) 0 10 ((σ 0 10) + (1 : Int32))) := gn1
  have hpo : pos (upC (upC (upC (upC (upC (upC σ 0 55 y) 0 56 ty) 0 57 (0 : Int32)) 0 58 ((-1) : Int32)) 0 59 ((-1) : Int32)) 0 10 ((σ 0 10) + (1 : Int32))) = pos (nxt σ) := rfl
  have f55 : ((upC (upC (upC (upC (upC (upC σ 0 55 y) 0 56 ty) 0 57 (0 : Int32)) 0 58 ((-1) : Int32)) 0 59 ((-1) : Int32)) 0 10 ((σ 0 10) + (1 : Int32))) 0 55) = y := rfl
  have f56 : ((upC (upC (upC (upC (upC (upC σ 0 55 y) 0 56 ty) 0 57 (0 : Int32)) 0 58 ((-1) : Int32)) 0 59 ((-1) : Int32)) 0 10 ((σ 0 10) + (1 : Int32))) 0 56) = ty := rfl
  have f57 : ((upC (upC (upC (upC (upC (upC σ 0 55 y) 0 56 ty) 0 57 (0 : Int32)) 0 58 ((-1) : Int32)) 0 59 ((-1) : Int32)) 0 10 ((σ 0 10) + (1 : Int32))) 0 57) = 0 := rfl
  have fl : ((upC (upC (upC (upC (upC (upC σ 0 55 y) 0 56 ty) 0 57 (0 : Int32)) 0 58 ((-1) : Int32)) 0 59 ((-1) : Int32)) 0 10 ((σ 0 10) + (1 : Int32))) 0 49) = (σ 0 49) := rfl
  have fh : ((upC (upC (upC (upC (upC (upC σ 0 55 y) 0 56 ty) 0 57 (0 : Int32)) 0 58 ((-1) : Int32)) 0 59 ((-1) : Int32)) 0 10 ((σ 0 10) + (1 : Int32))) 0 53) = (σ 0 53) := rfl
  have fp : ((upC (upC (upC (upC (upC (upC σ 0 55 y) 0 56 ty) 0 57 (0 : Int32)) 0 58 ((-1) : Int32)) 0 59 ((-1) : Int32)) 0 10 ((σ 0 10) + (1 : Int32))) 0 65) = (σ 0 65) := rfl
  generalize (upC (upC (upC (upC (upC (upC σ 0 55 y) 0 56 ty) 0 57 (0 : Int32)) 0 58 ((-1) : Int32)) 0 59 ((-1) : Int32)) 0 10 ((σ 0 10) + (1 : Int32))) = σ1 at *
  have hn3 := h.2.2.1.2.2.1
  have e35 : (σ1 35) = (σ 35) := funext (fun j => hkw 35 j rfl rfl)
  have u1 : UR σ vs σ1 τ vs := ur_hw h hkw (by rw [fh, fl]; exact hn3) (by unfold HLd; rw [e35, fh, fl]; exact h.2.2.2.1.2.2.2.2.2.2.2.2.1) hat (by omega)
  have hP1 := u1.2.1
  have h01 := hP1.2.2.1.2.2.2.2.1
  have w1 : (σ1 0 17).toInt = (σ 0 17).toInt := by rw [hkw 0 17 rfl rfl]
  have i1 : (σ1 0 39).toInt = (σ 0 39).toInt := by rw [hkw 0 39 rfl rfl]
  have b1 : (σ1 0 45) = (σ 0 45) := hkw 0 45 rfl rfl
  have sz1 := ur_sz u1
  have hB1 : NB σ1 vs := by
    obtain ⟨q1, q2, q3⟩ := hB
    unfold NB
    rw [sz1]
    exact ⟨by omega, by omega, by omega⟩
  have e0 : (0 : Int32).toInt = 0 := by decide
  have hS1 : PSt σ1 := ⟨by rw [ur_sil u1]; exact hS, fun q => by
    rw [f55] at q
    rw [f56]
    exact fun q2 => hy.mpr q2 (by rw [q]; exact e0)⟩
  have cut : ∀ {s t z} {B G : List Nat}, SRt σ1 vs 0 0 s t z B G → NCt σ1 vs s z 0 → ∀ s' t' z', RTt s z s' t' z' → T s' t' z' := fun sr nc s' t' z' hs => kT _ _ _ (ut_ur (ur_tr u1 (ur_rs sr.1)) (by have := nc.2.2; omega) (ut_rt hs))
  refine ⟨fun n s t z => n = ((σ 0 9).toInt - pos s).toNat ∧ ∃ B G, SRt σ1 vs 0 0 s t z B G ∧ NCt σ1 vs s z 0, ⟨_, rfl, [], [], sr_rl h01 (rl_rf hP1) (te_rf (N := 0)) (by omega), nct_rf⟩, ?_⟩
  rintro n s t z ⟨hn, B, G, sr, nc⟩
  have hPs := sr.1.2.1
  have h0s := hPs.2.2.1.2.2.2.2.1
  have hBs := nct_nb hB1 sr.1 nc (by omega)
  have esz := rs_sz sr.1
  have hcs := nb_cap hBs hPs
  refine sp_is hPs (fun hk5 => ⟨fun _ => ?_, no1⟩) (fun _ => ⟨no0, fun _ => ?_⟩)
  rotate_left 1
  · refine ss_stmt (1 : Int32) s t z _ T (by decide) hPs (ps_rs hS1 sr.1) hBs (fun s' t' z' pq => ?_) (cut sr nc)
    obtain ⟨B', G', sr', nc', p'⟩ := pq
    have srA := sr_tr h01 sr sr'
    have ncA := nct_tr nc nc'
    have hPA := srA.1.2.1
    have hpA := pos_in hPA.1 hPA.2.1
    have szA := rs_sz srA.1
    exact ⟨((σ 0 9).toInt - pos s').toNat, by omega, rfl, _, _, srA, nct_le ncA (by omega)⟩
  have hk5' : kd s = 55 := hk5
  obtain ⟨ro, po, wo, ico⟩ := rl_nxt (vs := z) hPs (by omega)
  have hPo := ro.2.1
  have h0o := hPo.2.2.1.2.2.2.2.1
  have wn : wcn (nxt s) = wcn s := rfl
  -- the code is typed
  have typed : ((nxt s) 0 12).toInt = 0 → ((nxt s) 0 15).toInt = 0 → ∃ g, TY (nxt s) g (fun _ => False) (wcn σ1) 0 0 ∧ ∃ k, g (wcn σ1) = some (0, k) := fun q1 q2 => by
    obtain ⟨g1, t1, x1, -⟩ := sr.2.2.1 _ _ _ _ (ty_begin (σ := σ1) 0) (of0 ro.2.2.2.2.1 q1) (by rw [← rl_sil ro]; exact q2)
    obtain ⟨hB0, hG0⟩ := sr.2.2.2.2 (of0 ro.2.2.2.2.1 q1) (by rw [← rl_sil ro]; exact q2) (by rw [f57]; decide)
    obtain ⟨g2, t2, x2⟩ := te_nxt (N := 0) (a := 0) h0s ro g1 _ _ 0 0 t1 (by omega) q1 q2
    refine ⟨g2, ty_X t2 (fun q hq => ?_), 0, ?_⟩
    · rw [hB0, hG0] at hq
      rcases hq with hq | hq
      · exact hq.elim
      · exact (List.not_mem_nil hq).elim
    · have hle := t1.1
      rw [x2 _ hle, x1 _ (Nat.le_refl _)]
      exact if_pos rfl
  have eV : (s 0 55) = y := (sr.1.1 0 55 rfl rfl).trans f55
  have eVn : ((nxt s) 0 55) = y := eV
  have mk : ∀ s9 ws, PU (nxt s) s9 ws → ws.length ≤ 3 → ((s9 0 12).toInt = 0 → (s9 0 15).toInt = 0 → BCo s9 (wcn σ1)) → BMx σ1 s z t s9 t z := fun s9 ws p hl bc => by
    have rp := rl_pu (vs := z) (z := z) hPo p hPo.2.2.2.2 (fun _ h => h) (Nat.le_refl _)
    have ra := rl_tr ro rp
    have P9 := pos_sq (sq_pu p)
    have W9 : (s9 0 17).toInt = ((nxt s) 0 17).toInt + ws.length := p.2.1
    exact ⟨rfl, rfl, ur_rs (rs_rl ra), ⟨ra.1, ra.2.2.2.2.2.2.2.2.2.2.2.1⟩, ⟨by omega, by omega, by rw [ic_sq (sq_pu p)]; rfl⟩, bc⟩
  refine ⟨fun s9 t9 z9 => BMx σ1 s z t s9 t9 z9, ?_, fun c => ?_, fun c => ?_⟩
  rotate_left 1
  · rw [show upC s 0 10 ((s 0 10) + (1 : Int32)) = nxt s from rfl]
    refine sp_put_1 h0o (by omega) (fun s2 p => ?_)
    have W2 : (s2 0 17).toInt = ((nxt s) 0 17).toInt + 2 := p.2.1
    refine sp_put_0 (by omega) (by omega) (fun s3 p2 => mk s3 _ (pu_tr h0o p p2) (by decide) (fun q1 q2 => ?_))
    have a1 : (s3 0 12) = ((nxt s) 0 12) := (p2.1 _ _ rfl rfl).trans (p.1 _ _ rfl rfl)
    have a2 : (s3 0 15) = ((nxt s) 0 15) := (p2.1 _ _ rfl rfl).trans (p.1 _ _ rfl rfl)
    obtain ⟨g, t1, hE⟩ := typed (by rw [← a1]; exact q1) (by rw [← a2]; exact q2)
    have c' : y.toInt = 0 := by rw [← eV]; exact c
    exact bc_value t1 (fun _ q => q) h0o p p2 (by rw [eVn]; exact Int32.toInt_inj.mp c') hE
  · rw [show upC s 0 10 ((s 0 10) + (1 : Int32)) = nxt s from rfl]
    refine sp_put_0 h0o (by omega) (fun s2 p => mk s2 _ p (by decide) (fun q1 q2 => ?_))
    have a1 : (s2 0 12) = ((nxt s) 0 12) := p.1 _ _ rfl rfl
    have a2 : (s2 0 15) = ((nxt s) 0 15) := p.1 _ _ rfl rfl
    obtain ⟨g, t1, hE⟩ := typed (by rw [← a1]; exact q1) (by rw [← a2]; exact q2)
    have c' : y.toInt ≠ 0 := by rw [← eV]; exact c
    exact bc_leave t1 (fun _ q => q) h0o p (by rw [eVn]; exact fun q => c' (by rw [q]; exact e0)) hE
  rintro s9 _ _ ⟨rfl, rfl, u9, ⟨k9, it9⟩, ⟨p9, w9, i9⟩, bc9⟩
  have hP9 := u9.2.1
  have h09 := hP9.2.2.1.2.2.2.2.1
  have hl9 := hP9.2.2.1.2.2.1
  have b9 : (s9 0 45) = (σ 0 45) := (k9 0 45 rfl rfl).trans ((sr.1.1 0 45 rfl rfl).trans b1)
  have bo : ((σ 0 45).toNatClampNeg : Int) = (σ 0 45).toInt := nt hb.1
  have hl1 : (σ 0 49).toInt ≤ (s9 0 49).toInt := by
    have a1 := sr.1.2.2.2.2.2.2.2.2.2.2.2
    have a2 : (s9 0 49) = (s 0 49) := k9 0 49 rfl rfl
    rw [a2]
    rw [fl] at a1
    exact a1
  refine ⟨fun _ => ⟨hb, hb, hb, hb, ?_⟩, fun c => by omega⟩
  have kS : KFn s9 (upC (upC (upC (upC (upC s9 0 53 (0 : Int32)) 26 (σ 0 45).toNatClampNeg (σ 0 17)) 27 (σ 0 45).toNatClampNeg (s9 0 35)) 28 (σ 0 45).toNatClampNeg (s9 0 49)) 29 (σ 0 45).toNatClampNeg (s9 0 17)) := kp_a (kp_a (kp_a (kp_a (kp_f kp_rf rfl) rfl) rfl) rfl) rfl
  have S53 : (upC (upC (upC (upC (upC s9 0 53 (0 : Int32)) 26 (σ 0 45).toNatClampNeg (σ 0 17)) 27 (σ 0 45).toNatClampNeg (s9 0 35)) 28 (σ 0 45).toNatClampNeg (s9 0 49)) 29 (σ 0 45).toNatClampNeg (s9 0 17)) 0 53 = 0 := rfl
  have S17 : (upC (upC (upC (upC (upC s9 0 53 (0 : Int32)) 26 (σ 0 45).toNatClampNeg (σ 0 17)) 27 (σ 0 45).toNatClampNeg (s9 0 35)) 28 (σ 0 45).toNatClampNeg (s9 0 49)) 29 (σ 0 45).toNatClampNeg (s9 0 17)) 0 17 = s9 0 17 := rfl
  have S49 : (upC (upC (upC (upC (upC s9 0 53 (0 : Int32)) 26 (σ 0 45).toNatClampNeg (σ 0 17)) 27 (σ 0 45).toNatClampNeg (s9 0 35)) 28 (σ 0 45).toNatClampNeg (s9 0 49)) 29 (σ 0 45).toNatClampNeg (s9 0 17)) 0 49 = s9 0 49 := rfl
  have Sw : ∀ j, (upC (upC (upC (upC (upC s9 0 53 (0 : Int32)) 26 (σ 0 45).toNatClampNeg (σ 0 17)) 27 (σ 0 45).toNatClampNeg (s9 0 35)) 28 (σ 0 45).toNatClampNeg (s9 0 49)) 29 (σ 0 45).toNatClampNeg (s9 0 17)) 8 j = s9 8 j := fun _ => rfl
  have S30 : ∀ j, (upC (upC (upC (upC (upC s9 0 53 (0 : Int32)) 26 (σ 0 45).toNatClampNeg (σ 0 17)) 27 (σ 0 45).toNatClampNeg (s9 0 35)) 28 (σ 0 45).toNatClampNeg (s9 0 49)) 29 (σ 0 45).toNatClampNeg (s9 0 17)) 30 j = s9 30 j := fun _ => rfl
  have S54 : ∀ j, (upC (upC (upC (upC (upC s9 0 53 (0 : Int32)) 26 (σ 0 45).toNatClampNeg (σ 0 17)) 27 (σ 0 45).toNatClampNeg (s9 0 35)) 28 (σ 0 45).toNatClampNeg (s9 0 49)) 29 (σ 0 45).toNatClampNeg (s9 0 17)) 54 j = s9 54 j := fun _ => rfl
  have S32 : ∀ j, (upC (upC (upC (upC (upC s9 0 53 (0 : Int32)) 26 (σ 0 45).toNatClampNeg (σ 0 17)) 27 (σ 0 45).toNatClampNeg (s9 0 35)) 28 (σ 0 45).toNatClampNeg (s9 0 49)) 29 (σ 0 45).toNatClampNeg (s9 0 17)) 32 j = s9 32 j := fun _ => rfl
  have SA : ∀ j, (upC (upC (upC (upC (upC s9 0 53 (0 : Int32)) 26 (σ 0 45).toNatClampNeg (σ 0 17)) 27 (σ 0 45).toNatClampNeg (s9 0 35)) 28 (σ 0 45).toNatClampNeg (s9 0 49)) 29 (σ 0 45).toNatClampNeg (s9 0 17)) 26 j = (if j = (σ 0 45).toNatClampNeg then σ 0 17 else s9 26 j) ∧ (upC (upC (upC (upC (upC s9 0 53 (0 : Int32)) 26 (σ 0 45).toNatClampNeg (σ 0 17)) 27 (σ 0 45).toNatClampNeg (s9 0 35)) 28 (σ 0 45).toNatClampNeg (s9 0 49)) 29 (σ 0 45).toNatClampNeg (s9 0 17)) 27 j = (if j = (σ 0 45).toNatClampNeg then s9 0 35 else s9 27 j) ∧ (upC (upC (upC (upC (upC s9 0 53 (0 : Int32)) 26 (σ 0 45).toNatClampNeg (σ 0 17)) 27 (σ 0 45).toNatClampNeg (s9 0 35)) 28 (σ 0 45).toNatClampNeg (s9 0 49)) 29 (σ 0 45).toNatClampNeg (s9 0 17)) 28 j = (if j = (σ 0 45).toNatClampNeg then s9 0 49 else s9 28 j) ∧ (upC (upC (upC (upC (upC s9 0 53 (0 : Int32)) 26 (σ 0 45).toNatClampNeg (σ 0 17)) 27 (σ 0 45).toNatClampNeg (s9 0 35)) 28 (σ 0 45).toNatClampNeg (s9 0 49)) 29 (σ 0 45).toNatClampNeg (s9 0 17)) 29 j = (if j = (σ 0 45).toNatClampNeg then s9 0 17 else s9 29 j) := fun j => by
    simp only [rdC, Nat.reduceEqDiff, if_true, if_false]
    exact ⟨trivial, trivial, trivial, trivial⟩
  generalize (upC (upC (upC (upC (upC s9 0 53 (0 : Int32)) 26 (σ 0 45).toNatClampNeg (σ 0 17)) 27 (σ 0 45).toNatClampNeg (s9 0 35)) 28 (σ 0 45).toNatClampNeg (s9 0 49)) 29 (σ 0 45).toNatClampNeg (s9 0 17)) = S at *
  refine sp_rows (by rw [S17]; omega) (by rw [S49]; omega) (fun j => by rw [S32]; exact hP9.2.2.2.1.2.2.2.2.2.2.2.2.2.2.2 j) (fun c sr9 hr => ⟨hb, hb, ?_⟩)
  obtain ⟨r1, r2, r3, r4, r5⟩ := hr
  rw [S17, S49] at r3
  rw [S49] at r4
  have mp := sr.1.2.2.2.2.2.2.2.1
  have kF : KFn s9 (upC (upC (upC sr9 30 (σ 0 45).toNatClampNeg c) 54 (σ 0 45).toNatClampNeg (sr9 0 65)) 0 45 ((σ 0 45) + (1 : Int32))) := kp_f (kp_a (kp_a (kp_tr kS (kp_sub r1 rfl rfl)) rfl) rfl) rfl
  have F53 : (upC (upC (upC sr9 30 (σ 0 45).toNatClampNeg c) 54 (σ 0 45).toNatClampNeg (sr9 0 65)) 0 45 ((σ 0 45) + (1 : Int32))) 0 53 = 0 := (r1 0 53 rfl rfl).trans S53
  have F17 : (upC (upC (upC sr9 30 (σ 0 45).toNatClampNeg c) 54 (σ 0 45).toNatClampNeg (sr9 0 65)) 0 45 ((σ 0 45) + (1 : Int32))) 0 17 = sr9 0 17 := rfl
  have F45 : (upC (upC (upC sr9 30 (σ 0 45).toNatClampNeg c) 54 (σ 0 45).toNatClampNeg (sr9 0 65)) 0 45 ((σ 0 45) + (1 : Int32))) 0 45 = σ 0 45 + (1 : Int32) := rfl
  have Fw : ∀ j, (upC (upC (upC sr9 30 (σ 0 45).toNatClampNeg c) 54 (σ 0 45).toNatClampNeg (sr9 0 65)) 0 45 ((σ 0 45) + (1 : Int32))) 8 j = sr9 8 j := fun _ => rfl
  have e65 : sr9 0 65 = σ 0 65 := (r1 0 65 rfl rfl).trans ((kS 0 65 rfl rfl).trans ((k9 0 65 rfl rfl).trans ((sr.1.1 0 65 rfl rfl).trans fp)))
  have FA : ∀ j, ((upC (upC (upC sr9 30 (σ 0 45).toNatClampNeg c) 54 (σ 0 45).toNatClampNeg (sr9 0 65)) 0 45 ((σ 0 45) + (1 : Int32))) 30 j = if j = (σ 0 45).toNatClampNeg then c else sr9 30 j) ∧ ((upC (upC (upC sr9 30 (σ 0 45).toNatClampNeg c) 54 (σ 0 45).toNatClampNeg (sr9 0 65)) 0 45 ((σ 0 45) + (1 : Int32))) 54 j = if j = (σ 0 45).toNatClampNeg then sr9 0 65 else sr9 54 j) ∧ (upC (upC (upC sr9 30 (σ 0 45).toNatClampNeg c) 54 (σ 0 45).toNatClampNeg (sr9 0 65)) 0 45 ((σ 0 45) + (1 : Int32))) 26 j = sr9 26 j ∧ (upC (upC (upC sr9 30 (σ 0 45).toNatClampNeg c) 54 (σ 0 45).toNatClampNeg (sr9 0 65)) 0 45 ((σ 0 45) + (1 : Int32))) 27 j = sr9 27 j ∧ (upC (upC (upC sr9 30 (σ 0 45).toNatClampNeg c) 54 (σ 0 45).toNatClampNeg (sr9 0 65)) 0 45 ((σ 0 45) + (1 : Int32))) 28 j = sr9 28 j ∧ (upC (upC (upC sr9 30 (σ 0 45).toNatClampNeg c) 54 (σ 0 45).toNatClampNeg (sr9 0 65)) 0 45 ((σ 0 45) + (1 : Int32))) 29 j = sr9 29 j := fun j => by
    simp only [rdC, Nat.reduceEqDiff, if_true, if_false]
    exact ⟨trivial, trivial, trivial, trivial, trivial, trivial⟩
  generalize (upC (upC (upC sr9 30 (σ 0 45).toNatClampNeg c) 54 (σ 0 45).toNatClampNeg (sr9 0 65)) 0 45 ((σ 0 45) + (1 : Int32))) = F at *
  have B45 : (F 0 45).toInt = (σ 0 45).toInt + 1 := by rw [F45]; exact ad1 (by omega)
  have RF : RW s9 F := fun j hj => by rw [Fw, r2 j (by rw [S17]; exact hj), Sw]
  have uF : UR s9 z F t z := ur_fn hP9 kF F53 (by rw [F17]; omega) RF (by rw [B45, b9]; omega) (fun b hb9 => by
    rw [b9] at hb9
    obtain ⟨x1, x2, x3, x4, x5, x6⟩ := FA b
    obtain ⟨y1, y2, y3, y4⟩ := SA b
    have nb : b ≠ (σ 0 45).toNatClampNeg := by omega
    rw [if_neg nb] at x1 x2 y1 y2 y3 y4
    exact ⟨x3.trans ((r1 26 b rfl rfl).trans y1), x4.trans ((r1 27 b rfl rfl).trans y2), x5.trans ((r1 28 b rfl rfl).trans y3), x6.trans ((r1 29 b rfl rfl).trans y4), x1.trans ((r1 30 b rfl rfl).trans (S30 b)), x2.trans ((r1 54 b rfl rfl).trans (S54 b))⟩)
  have uA : UR σ vs F t z := ur_tr (ur_tr (ur_tr u1 (ur_rs sr.1)) u9) uF
  have pF : pos F = pos s9 := by
    unfold pos
    have a1 : (F 0 10) = (s9 0 10) := kF _ _ rfl rfl
    have a2 : (F 3) = (s9 3) := funext (fun j => kF 3 j rfl rfl)
    rw [a1, a2]
  have iF : (F 0 39) = (s9 0 39) := kF _ _ rfl rfl
  obtain ⟨n1, n2, n3⟩ := nc
  refine k _ _ _ ⟨uA, ⟨by rw [F17, pF]; omega, by rw [iF, i9, pF]; omega, by rw [pF]; omega⟩, by rw [pF]; omega, ⟨?_, ?_, ?_, ?_⟩, fun f hf => ?_, by rw [B45]; omega, fun q1 q2 q3 q4 => ?_⟩
  · exact (kF 0 31 rfl rfl).trans ((k9 0 31 rfl rfl).trans ((sr.1.1 0 31 rfl rfl).trans (hkw 0 31 rfl rfl)))
  · exact (kF 0 36 rfl rfl).trans ((k9 0 36 rfl rfl).trans ((sr.1.1 0 36 rfl rfl).trans (hkw 0 36 rfl rfl)))
  · exact funext (fun j => (kF 13 j rfl rfl).trans ((k9 13 j rfl rfl).trans ((sr.1.1 13 j rfl rfl).trans (hkw 13 j rfl rfl))))
  · exact funext (fun j => (kF 17 j rfl rfl).trans ((k9 17 j rfl rfl).trans ((sr.1.1 17 j rfl rfl).trans (hkw 17 j rfl rfl))))
  · have d1 : (σ1 0 37) = (σ 0 37) := hkw 0 37 rfl rfl
    have d9 : (F 0 37) = (s9 0 37) := kF 0 37 rfl rfl
    have g1 : ITd σ1 f (σ1 0 37).toInt := by
      rw [d1]
      exact itd_of (funext (fun j => hkw 25 j rfl rfl)) (hkw 0 39 rfl rfl) hf
    have g2 := it9 f (sr.1.2.2.2.2.2.2.2.2.2.2.1.2.1 f g1)
    rw [d9]
    exact itd_of (funext (fun j => kF 25 j rfl rfl)) iF g2
  · have a1 : (F 0 12) = (s9 0 12) := kF _ _ rfl rfl
    have a2 : (F 0 15) = (s9 0 15) := kF _ _ rfl rfl
    have a3 : (F 0 49) = (s9 0 49) := kF _ _ rfl rfl
    have bc := bc9 (by rw [← a1]; exact q1) (by rw [← a2]; exact q2)
    obtain ⟨x1, x2, x3, x4, x5, x6⟩ := FA (σ 0 45).toNatClampNeg
    obtain ⟨y1, y2, y3, y4⟩ := SA (σ 0 45).toNatClampNeg
    rw [if_pos rfl] at x1 x2 y1 y2 y3 y4
    have z1 := x3.trans ((r1 26 _ rfl rfl).trans y1)
    have z2 := x4.trans ((r1 27 _ rfl rfl).trans y2)
    have z3 := x5.trans ((r1 28 _ rfl rfl).trans y3)
    have z4 := x6.trans ((r1 29 _ rfl rfl).trans y4)
    have eo : s9 0 35 = σ 0 35 := (k9 0 35 rfl rfl).trans ((sr.1.1 0 35 rfl rfl).trans (hkw 0 35 rfl rfl))
    have ev9 : (s9 0 55) = y := (k9 0 55 rfl rfl).trans eV
    have wS : wcn S = wcn s9 := by unfold wcn; rw [S17]
    have n1 : (wcn σ1 : Int) = (σ1 0 17).toInt := nt h01
    refine ⟨B45, x2.trans e65, z2.trans eo, bt_fin bc h09 (by omega) (by rw [z1]; omega) z4 z3 ?_ ?_ RF (by rw [F17]; exact r3) (fun j hj => ?_) ?_ (fun n h h' c => co_ur uF c)⟩
    · rw [x1]; omega
    · rw [x2, e65]; omega
    · rw [x1, ← wS]
      exact row_w (r5 j (by rw [S49]; exact hj)) (Fw _) (Fw _)
    · rw [ev9]
      refine ⟨fun q => hy.mp (fun q2 => q (Int32.toInt_inj.mp q2)), fun q q2 => hy.mpr q (by rw [q2]; exact e0)⟩
end BOF
end

section
/-! the parameters of a function, as locals -/
section PRM
variable {σ s s' τ t t' : St} {vs z z' : List Nat}
theorem hds_kq (k : KQ σ s) (h : HDs σ) : HDs s := by
  have f1 : (s 0 64) = (σ 0 64) := k _ _ rfl rfl
  have e1 : (s 37) = (σ 37) := funext (fun j => k 37 j rfl rfl)
  have e2 : (s 38) = (σ 38) := funext (fun j => k 38 j rfl rfl)
  have e3 : (s 39) = (σ 39) := funext (fun j => k 39 j rfl rfl)
  unfold HDs
  rw [f1, e1, e2, e3]
  exact h
theorem sp_declareLocalP {tk ty : Int32} {Q : Int32 → St → St → List Nat → Prop} (h : PA σ τ) (hty : 0 ≤ ty.toInt ∧ ty.toInt ≤ 10) (hl : (σ 0 49).toInt < 100) (k : ∀ (r : Int32) s, QTt σ τ vs s → r.toInt = (σ 0 49).toInt → (s 0 49).toInt = (σ 0 49).toInt + 1 → (s 0 53) = (σ 0 53) → Q r s τ vs) : wp_declareLocal tk ty σ τ vs Q := by
  have h9 := h
  obtain ⟨hT, hA, ⟨n1, n2, n3, n4, n5, n6, n7⟩, ⟨a1, a2, a3, a4, a5, a6, a7, a8, a9, b1, b2, b3⟩, h5⟩ := h9
  unfold wp_declareLocal
  refine ⟨fun c => ⟨by omega, by omega, by omega, ?_⟩, fun c => by omega⟩
  have e1 : ((σ 0 49) + (1 : Int32)).toInt = (σ 0 49).toInt + 1 := ad1 (by omega)
  have e2 : (((σ 0 49) + (1 : Int32)) - (1 : Int32)).toInt = (σ 0 49).toInt := by rw [sb1 (by omega), e1]; omega
  have el : ((upC (upC (upC (upC σ 31 (σ 0 49).toNatClampNeg ty) 32 (σ 0 49).toNatClampNeg ((-1) : Int32)) 33 (σ 0 49).toNatClampNeg (vp_nar .boolean (0 : Int32))) 0 49 ((σ 0 49) + (1 : Int32))) 0 49).toInt = (σ 0 49).toInt + 1 := by rw [rdA_eq rfl]; exact e1
  refine k _ _ (qt_mk h (kp_f (kp_a (kp_a (kp_a kp_rf rfl) rfl) rfl) rfl) ?_ a1 a2 ?_ ?_ ?_ (Or.inl rfl) ?_) e2 el rfl
  · rw [el]
    show 0 ≤ (σ 0 53).toInt ∧ (σ 0 53).toInt ≤ _ ∧ _
    omega
  · show AllIn 0 10 (upC σ 31 (σ 0 49).toNatClampNeg ty 31)
    exact acr_up a6 hty
  · intro j hj
    rw [el]
    have := a9 j hj
    show ((σ 35) j).toInt < _
    omega
  · show AllIn (-1) 4000 (upC (upC σ 31 (σ 0 49).toNatClampNeg ty) 32 (σ 0 49).toNatClampNeg ((-1) : Int32) 32)
    exact acr_up b3 (by decide)
  · rw [el]; omega
theorem sp_params {K : St → St → List Nat → Prop} (h : PA σ τ) (hd : HDs σ) (hl : (σ 0 49).toInt = 0) (k : ∀ s, QTt σ τ vs s → (s 0 49).toInt = (σ 0 64).toInt → K s τ vs) : ∃ L235 : Nat → Int32 → St → St → List Nat → Prop, (∃ n, L235 n (0 : Int32) σ τ vs) ∧ ∀ (n235 : Nat) (x6_235 : Int32) (s235 t235 : St) (z235 : List Nat), L235 n235 x6_235 s235 t235 z235 → (((s235 0 64).toInt ≤ x6_235.toInt → K s235 t235 z235) ∧ (x6_235.toInt < (s235 0 64).toInt → ((0 ≤ x6_235.toInt ∧ x6_235.toInt < 8) ∧ (∃ J351 : St → St → List Nat → Prop, (∀ (s351 t351 : St) (z351 : List Nat), J351 s351 t351 z351 → (∃ m, m < n235 ∧ L235 m (x6_235 + 1) s351 t351 z351)) ∧ (0 ≤ (s235 38 x6_235.toNatClampNeg).toInt → ((0 ≤ x6_235.toInt ∧ x6_235.toInt < 8) ∧ wp_isHeldHere (s235 38 x6_235.toNatClampNeg) s235 t235 z235 (fun v297 => (∃ J308 : Int32 → Prop, (∀ (y1_308 : Int32), y1_308 = 0 ∨ y1_308 = 1 → J308 y1_308 → (((0 ≤ x6_235.toInt ∧ x6_235.toInt < 8) ∧ wp_must y1_308 (s235 38 x6_235.toNatClampNeg) s235 t235 z235 (fun s315 t315 z315 => ((0 ≤ x6_235.toInt ∧ x6_235.toInt < 8) ∧ ((0 ≤ x6_235.toInt ∧ x6_235.toInt < 8) ∧ wp_declareLocal (s315 38 x6_235.toNatClampNeg) (s315 37 x6_235.toNatClampNeg) s315 t315 z315 (fun v333 s333 t333 z333 => ((0 ≤ x6_235.toInt ∧ x6_235.toInt < 8) ∧ wp_hold (s333 38 x6_235.toNatClampNeg) v333 s333 t333 z333 (fun s348 t348 z348 => J351 s348 t348 z348))))))))) ∧ (v297.toInt ≠ 0 → J308 (0 : Int32)) ∧ (v297.toInt = 0 → J308 (1 : Int32)))))) ∧ ((s235 38 x6_235.toNatClampNeg).toInt < 0 → ((0 ≤ x6_235.toInt ∧ x6_235.toInt < 8) ∧ wp_tell (2 : Int32) (s235 39 x6_235.toNatClampNeg) s235 t235 z235 (fun s263 t263 z263 => ((0 ≤ x6_235.toInt ∧ x6_235.toInt < 8) ∧ ((0 ≤ x6_235.toInt ∧ x6_235.toInt < 8) ∧ wp_declareLocal (s263 39 x6_235.toNatClampNeg) (s263 37 x6_235.toNatClampNeg) s263 t263 z263 (fun v281 s281 t281 z281 => J351 s281 t281 z281)))))))))) := by
  have z0 : (0 : Int32).toInt = 0 := by decide
  obtain ⟨⟨hd1, hd2⟩, -⟩ := id hd
  refine ⟨fun n x s t z => (n : Int) = (σ 0 64).toInt - x.toInt ∧ (0 ≤ x.toInt ∧ x.toInt ≤ (σ 0 64).toInt) ∧ τ = t ∧ vs = z ∧ QTt σ τ vs s ∧ (s 0 49).toInt = x.toInt, ⟨((σ 0 64).toInt).toNat, by rw [z0]; omega, by rw [z0]; omega, rfl, rfl, qt_tl h tl_rf, by rw [z0]; exact hl⟩, ?_⟩
  rintro n x s _ _ ⟨hn, hx, rfl, rfl, hq, hlo⟩
  have hP := hq.1.2.1
  have hds := hds_kq hq.2 hd
  have ec : (s 0 64) = (σ 0 64) := hq.2 _ _ rfl rfl
  rw [ec]
  have e1 : (x + 1).toInt = x.toInt + 1 := ad1 (by omega)
  refine ⟨fun c => k s hq (by omega), fun c => ?_⟩
  have hx8 : 0 ≤ x.toInt ∧ x.toInt < 8 := by omega
  have nx := nt hx8.1
  have look : ∀ s', KQ s s' → (0 ≤ ((s' 37) x.toNatClampNeg).toInt ∧ ((s' 37) x.toNatClampNeg).toInt ≤ 10) := fun s' k' => ((hds_kq k' hds).2 _ (by rw [k' 0 64 rfl rfl, ec]; omega)).1
  have same : ∀ s', KQ s s' → (s' 38) x.toNatClampNeg = (s 38) x.toNatClampNeg := fun s' k' => k' 38 _ rfl rfl
  obtain ⟨r1, r2, r3⟩ := hds.2 x.toNatClampNeg (by rw [ec]; omega)
  refine ⟨hx8, fun s' t' z' => τ = t' ∧ vs = z' ∧ QTt σ τ vs s' ∧ (s' 0 49).toInt = x.toInt + 1, ?_, fun c2 => ⟨hx8, ?_⟩, fun c2 => ⟨hx8, ?_⟩⟩
  · rintro s' _ _ ⟨rfl, rfl, q1, q2⟩
    exact ⟨((σ 0 64).toInt - x.toInt - 1).toNat, by omega, by omega, by omega, rfl, rfl, q1, by omega⟩
  · have body : ∀ y : Int32, ((0 ≤ x.toInt ∧ x.toInt < 8) ∧ wp_must y (s 38 x.toNatClampNeg) s τ vs (fun s315 t315 z315 => ((0 ≤ x.toInt ∧ x.toInt < 8) ∧ ((0 ≤ x.toInt ∧ x.toInt < 8) ∧ wp_declareLocal (s315 38 x.toNatClampNeg) (s315 37 x.toNatClampNeg) s315 t315 z315 (fun v333 s333 t333 z333 => ((0 ≤ x.toInt ∧ x.toInt < 8) ∧ wp_hold (s333 38 x.toNatClampNeg) v333 s333 t333 z333 (fun s348 t348 z348 => τ = t348 ∧ vs = z348 ∧ QTt σ τ vs s348 ∧ (s348 0 49).toInt = x.toInt + 1))))))) := fun y => by
      refine ⟨hx8, sp_must ⟨c2, r2.2⟩ (fun s1 hs1 _ => ⟨hx8, hx8, ?_⟩)⟩
      have q1 := qt_tl (vs := vs) hP hs1
      have hP1 := q1.1.2.1
      have l1 : (s1 0 49) = (s 0 49) := hs1.1 0 49 rfl rfl
      refine sp_declareLocalP hP1 (look s1 q1.2) (by rw [l1]; omega) (fun r s2 q2 hr hl2 hh2 => ⟨hx8, ?_⟩)
      have q12 := qt_tr q1 q2
      have hP2 := q2.1.2.1
      rw [same s2 q12.2]
      rw [l1] at hr hl2
      have hh1 := hP1.2.2.1.2.2.1
      rw [l1] at hh1
      refine sp_hold hP2 ⟨c2, r2.2⟩ (by omega) (by rw [hh2]; omega) (fun s3 q3 hl3 _ _ => ⟨rfl, rfl, qt_tr hq (qt_tr q12 q3), by rw [hl3]; omega⟩)
    exact sp_isHeldHere hP ⟨c2, r2.2⟩ ⟨fun _ => True, fun y _ _ => body y, fun _ => trivial, fun _ => trivial⟩ ⟨fun _ => True, fun y _ _ => body y, fun _ => trivial, fun _ => trivial⟩
  · refine sp_tell (by decide) r3 (fun s1 hs1 _ => ⟨hx8, hx8, ?_⟩)
    have q1 := qt_tl (vs := vs) hP hs1
    have hP1 := q1.1.2.1
    have l1 : (s1 0 49) = (s 0 49) := hs1.1 0 49 rfl rfl
    exact sp_declareLocalP hP1 (look s1 q1.2) (by rw [l1]; omega) (fun r s2 q2 hr hl2 hh2 => ⟨rfl, rfl, qt_tr hq (qt_tr q1 q2), by rw [hl2, l1]; omega⟩)
end PRM
end

section
/-! the name of a function: found or made -/
def FEx (σ s τ : St) (vs : List Nat) (e ty : Int32) (len : Int) : Prop := UR σ vs s τ vs ∧ pos s = pos σ ∧ (s 0 17) = (σ 0 17) ∧ (s 0 39) = (σ 0 39) ∧ kd s = kd σ ∧ (s 0 37) = (σ 0 37) ∧ (s 25) = (σ 25) ∧ ((σ 0 31).toInt ≤ (s 0 31).toInt ∧ (s 0 31).toInt ≤ (σ 0 31).toInt + len) ∧ HDs s ∧ ((s 0 64) = (σ 0 64) ∧ (s 0 45) = (σ 0 45)) ∧ (e.toInt < 0 → (s 0 12).toInt = 0 → (s 0 15).toInt = 0 → False) ∧ (0 ≤ e.toInt → Fi σ ≤ e.toInt ∧ e.toInt < (s 0 36).toInt) ∧ (0 ≤ e.toInt → (s 0 12).toInt = 0 → (s 0 15).toInt = 0 → ((s 9) e.toNatClampNeg).toInt = 2 ∧ ((s 10) e.toNatClampNeg).toInt = ty.toInt ∧ ((s 15) e.toNatClampNeg).toInt = (σ 0 64).toInt) ∧ (∀ f, GOODu σ f → GOODu s f)
section FEN
variable {σ s s' τ t t' : St} {vs z z' : List Nat}
theorem hds_kd (k : KD σ s) (h : HDs σ) : HDs s := by
  have f1 : (s 0 64) = (σ 0 64) := k _ _ rfl rfl
  have e1 : (s 37) = (σ 37) := funext (fun j => k 37 j rfl rfl)
  have e2 : (s 38) = (σ 38) := funext (fun j => k 38 j rfl rfl)
  have e3 : (s 39) = (σ 39) := funext (fun j => k 39 j rfl rfl)
  unfold HDs
  rw [f1, e1, e2, e3]
  exact h
theorem fe_tl {e ty : Int32} {len : Int} (h : PA σ τ) (hd : HDs σ) (hln : 0 ≤ len) (hs : TL σ s) (h1 : e.toInt < 0 → (s 0 12).toInt = 0 → (s 0 15).toInt = 0 → False) (h2 : 0 ≤ e.toInt → Fi σ ≤ e.toInt ∧ e.toInt < (σ 0 36).toInt) (h3 : 0 ≤ e.toInt → (s 0 12).toInt = 0 → (s 0 15).toInt = 0 → ((σ 9) e.toNatClampNeg).toInt = 2 ∧ ((σ 10) e.toNatClampNeg).toInt = ty.toInt ∧ ((σ 15) e.toNatClampNeg).toInt = (σ 0 64).toInt) : FEx σ s τ vs e ty len := by
  have h9 := h
  obtain ⟨hT, hA, ⟨n1, n2, n3, n4, n5, n6, n7⟩, ⟨a1, a2, a3, a4, a5, a6, a7, a8, a9, b1, b2, b3⟩, hV⟩ := h9
  have kk : KD σ s := kp_sub hs.1 rfl rfl
  have same := hs.1
  have e36 : (s 0 36) = (σ 0 36) := same _ _ rfl rfl
  have e37 : (s 0 37) = (σ 0 37) := same _ _ rfl rfl
  have a21 : (s 21) = (σ 21) := funext (fun j => same 21 j rfl rfl)
  have a15 : (s 15) = (σ 15) := funext (fun j => same 15 j rfl rfl)
  have a18 : (s 18) = (σ 18) := funext (fun j => same 18 j rfl rfl)
  have a19 : (s 19) = (σ 19) := funext (fun j => same 19 j rfl rfl)
  have a10 : (s 10) = (σ 10) := funext (fun j => same 10 j rfl rfl)
  have a9' : (s 9) = (σ 9) := funext (fun j => same 9 j rfl rfl)
  have a17 : (s 17) = (σ 17) := funext (fun j => same 17 j rfl rfl)
  have a16 : (s 16) = (σ 16) := funext (fun j => same 16 j rfl rfl)
  have a14 : (s 14) = (σ 14) := funext (fun j => same 14 j rfl rfl)
  obtain ⟨u1, u2, u3, u4, u5⟩ := ur_kd (vs := vs) h kk (by rw [e36]; omega) (by rw [e37]; omega) (by rw [a21]; exact a3) (by rw [a15]; exact a4) (by unfold NMo; rw [a18, a19]; exact a5) (by rw [a10]; exact a7) (by unfold VTy; rw [a9', a10]; exact a8) (by rw [a17]; exact b1) (by rw [a16]; exact b2) hs.2 ⟨fun e _ => ⟨same 9 e rfl rfl, same 10 e rfl rfl, same 15 e rfl rfl, same 12 e rfl rfl, fun q => by rw [a14]; exact q⟩, fun n _ q => by rw [a21]; exact q, fun e _ => ⟨same 13 e rfl rfl, same 17 e rfl rfl⟩⟩
  have n31 : (s 0 31) = (σ 0 31) := same _ _ rfl rfl
  refine ⟨u1, u2, u3, u4, u5, e37, funext (fun j => same 25 j rfl rfl), by rw [n31]; omega, hds_kd kk hd, ⟨same _ _ rfl rfl, same _ _ rfl rfl⟩, h1, fun q => by rw [e36]; exact h2 q, fun q1 q2 q3 => by rw [a9', a10, a15]; exact h3 q1 q2 q3, fun f hg => good_ur u1 (fun q => by rw [e37]; exact itd_of (funext (fun j => same 25 j rfl rfl)) u4 q) (fun e e1 e2 e3 e4 => Or.inl ⟨by rw [← e36]; exact e2, ?_, same 17 e rfl rfl⟩) hg⟩
  have e13 : (s 13) e = (σ 13) e := same 13 e rfl rfl
  rw [← e13]; exact e4
theorem sp_fnNew {tk ty st : Int32} {J : Int32 → St → St → List Nat → Prop} (h : PA σ τ) (hd : HDs σ) (ht : 0 ≤ tk.toInt ∧ tk.toInt < 16002) (hl : ((σ 3) tk.toNatClampNeg).toInt ≤ ((σ 4) tk.toNatClampNeg).toInt) (hn : 0 ≤ (σ 0 31).toInt ∧ (σ 0 31).toInt + (((σ 4) tk.toNatClampNeg).toInt - ((σ 3) tk.toNatClampNeg).toInt) ≤ 60000) (hty : -1 ≤ ty.toInt ∧ ty.toInt ≤ 10) (k : ∀ r s, FEx σ s τ vs r ty (((σ 4) tk.toNatClampNeg).toInt - ((σ 3) tk.toNatClampNeg).toInt) → J r s τ vs) : wp_declare tk (2 : Int32) σ τ vs (fun v87 s87 t87 z87 => (v87.toInt < 0 → J v87 s87 t87 z87) ∧ (0 ≤ v87.toInt → ((0 ≤ v87.toInt ∧ v87.toInt < 10000) ∧ ((0 ≤ v87.toInt ∧ v87.toInt < 10000) ∧ ((0 ≤ v87.toInt ∧ v87.toInt < 10000) ∧ ∃ L127 : Nat → Int32 → St → St → List Nat → Prop, (∃ n, L127 n (0 : Int32) (upC (upC (upC s87 10 v87.toNatClampNeg ty) 12 v87.toNatClampNeg (vp_nar .boolean st)) 15 v87.toNatClampNeg (s87 0 64)) t87 z87) ∧ ∀ (n127 : Nat) (x6_127 : Int32) (s127 t127 : St) (z127 : List Nat), L127 n127 x6_127 s127 t127 z127 → (((s127 0 64).toInt ≤ x6_127.toInt → J v87 s127 t127 z127) ∧ (x6_127.toInt < (s127 0 64).toInt → ((0 ≤ x6_127.toInt ∧ x6_127.toInt < 8) ∧ ((0 ≤ (((8 : Int32) * v87) + x6_127).toInt ∧ (((8 : Int32) * v87) + x6_127).toInt < 80000) ∧ ∃ m, m < n127 ∧ L127 m (x6_127 + 1) (upC s127 16 (((8 : Int32) * v87) + x6_127).toNatClampNeg (s127 37 x6_127.toNatClampNeg)) t127 z127))))))))) := by
  have h9 := h
  obtain ⟨hT, hA, ⟨n1, n2, n3, n4, n5, n6, n7⟩, ⟨a1, a2, a3, a4, a5, a6, a7, a8, a9, b1, b2, b3⟩, hV⟩ := h9
  obtain ⟨⟨hd1, hd2⟩, hd3⟩ := id hd
  refine sp_declare h ht hl hn (fun s hs hf => ⟨fun _ => k _ s (fe_tl h hd (by omega) hs (fun _ => hf) (fun c => absurd c (by decide)) (fun c => absurd c (by decide))), fun c => absurd c (by decide)⟩) (fun e s he hlt dc => ⟨fun c => by omega, fun c => ⟨by omega, by omega, by omega, ?_⟩⟩)
  have nn : (e.toNatClampNeg : Int) = (σ 0 36).toInt := by rw [nt (by omega)]; exact he
  have ue := ue_dc h nn dc
  have fc := fc_dc h dc
  obtain ⟨p1, p2, p3, p4, p5, p6, p7, p8⟩ := dc
  have m8 := mul8 (x := e) c (by omega)
  have z0 : (0 : Int32).toInt = 0 := by decide
  have ehc : (s 0 64) = (σ 0 64) := p1 0 64 rfl rfl
  generalize hs3 : (upC (upC (upC s 10 e.toNatClampNeg ty) 12 e.toNatClampNeg (vp_nar .boolean st)) 15 e.toNatClampNeg (s 0 64)) = s3
  have x : ∀ c k, c ≠ 10 → c ≠ 15 → c ≠ 12 → s3 c k = s c k := fun c k q1 q2 q3 => by
    rw [← hs3, rdC, if_neg q2, rdC, if_neg q3, rdC, if_neg q1]
  have x10 : ∀ k, s3 10 k = if k = e.toNatClampNeg then ty else (σ 10) k := fun k => by
    have : (s 10) k = (σ 10) k := p1 10 k rfl rfl
    rw [← this, ← hs3, rdC, if_neg (by decide), rdC, if_neg (by decide), rdA]
  have x15 : ∀ k, s3 15 k = if k = e.toNatClampNeg then (σ 0 64) else (σ 15) k := fun k => by
    have : (s 15) k = (σ 15) k := p1 15 k rfl rfl
    rw [← this, ← hs3]
    simp only [rdC, Nat.reduceEqDiff, if_true, if_false]
    rw [ehc]
  have x12 : ∀ k, k ≠ e.toNatClampNeg → s3 12 k = (σ 12) k := fun k q => by
    have : (s 12) k = (σ 12) k := p1 12 k rfl rfl
    rw [← this, ← hs3, rdC, if_neg (by decide), rdA, if_neg q, rdC, if_neg (by decide)]
  have k3 : KD σ s3 := by rw [← hs3]; exact kp_a (kp_a (kp_a (kp_sub p1 rfl rfl) rfl) rfl) rfl
  have e16 : (s3 16) = (σ 16) := funext (fun j => by rw [x 16 j (by decide) (by decide) (by decide)]; exact p1 16 j rfl rfl)
  refine ⟨fun n y s' t' z' => (n : Int) = (σ 0 64).toInt - y.toInt ∧ (0 ≤ y.toInt ∧ y.toInt ≤ (σ 0 64).toInt) ∧ τ = t' ∧ vs = z' ∧ Kp [] [16] s3 s' ∧ AllIn 0 10 (s' 16), ⟨((σ 0 64).toInt).toNat, by rw [z0]; omega, by rw [z0]; omega, rfl, rfl, kp_rf, by rw [e16]; exact b2⟩, ?_⟩
  rintro n y s4 _ _ ⟨hn4, hy, rfl, rfl, k4, hA4⟩
  have hc4 : (s4 0 64) = (σ 0 64) := (k4 0 64 rfl rfl).trans (k3 0 64 rfl rfl)
  have kk : KD σ s4 := kp_tr k3 (kp_sub k4 rfl rfl)
  have hd4 := hds_kd kk hd
  rw [hc4]
  refine ⟨fun _ => k e s4 ?_, fun c5 => ?_⟩
  rotate_left 1
  · have a8' : (((8 : Int32) * e) + y).toInt = 8 * e.toInt + y.toInt := by rw [← m8]; exact ad (by omega) (by omega)
    have e1 : (y + 1).toInt = y.toInt + 1 := ad1 (by omega)
    have ny := nt hy.1
    have rg := (hd4.2 y.toNatClampNeg (by rw [hc4]; omega)).1
    exact ⟨by omega, by rw [a8']; omega, ((σ 0 64).toInt - y.toInt - 1).toNat, by omega, by omega, by omega, rfl, rfl, kp_a k4 rfl, acr_up hA4 rg⟩
  have x0 : ∀ j, s4 0 j = s 0 j := fun j => (k4 0 j rfl rfl).trans (x 0 j (by decide) (by decide) (by decide))
  have y9 : ∀ j, s4 9 j = s 9 j := fun j => (k4 9 j rfl rfl).trans (x 9 j (by decide) (by decide) (by decide))
  have y10 : ∀ j, s4 10 j = if j = e.toNatClampNeg then ty else (σ 10) j := fun j => (k4 10 j rfl rfl).trans (x10 j)
  have y15 : ∀ j, s4 15 j = if j = e.toNatClampNeg then (σ 0 64) else (σ 15) j := fun j => (k4 15 j rfl rfl).trans (x15 j)
  have y12 : ∀ j, j ≠ e.toNatClampNeg → s4 12 j = (σ 12) j := fun j q => (k4 12 j rfl rfl).trans (x12 j q)
  have e37 : (s4 0 37) = (σ 0 37) := by rw [x0]; exact p1 0 37 rfl rfl
  have e21 : (s4 21) = (s 21) := funext (fun j => (k4 21 j rfl rfl).trans (x 21 j (by decide) (by decide) (by decide)))
  have e17 : (s4 17) = (σ 17) := funext (fun j => ((k4 17 j rfl rfl).trans (x 17 j (by decide) (by decide) (by decide))).trans (p1 17 j rfl rfl))
  have e18 : (s4 18) = (s 18) := funext (fun j => (k4 18 j rfl rfl).trans (x 18 j (by decide) (by decide) (by decide)))
  have e19 : (s4 19) = (s 19) := funext (fun j => (k4 19 j rfl rfl).trans (x 19 j (by decide) (by decide) (by decide)))
  have e14 : ∀ j, s4 14 j = s 14 j := fun j => (k4 14 j rfl rfl).trans (x 14 j (by decide) (by decide) (by decide))
  have e13 : ∀ j, s4 13 j = s 13 j := fun j => (k4 13 j rfl rfl).trans (x 13 j (by decide) (by decide) (by decide))
  have ei : (s4 25) = (σ 25) := funext (fun j => ((k4 25 j rfl rfl).trans (x 25 j (by decide) (by decide) (by decide))).trans (p1 25 j rfl rfl))
  obtain ⟨ue1, ue2, ue3⟩ := ue
  obtain ⟨u1, u2, u3, u4, u5⟩ := ur_kd (vs := vs) h kk (by rw [x0]; omega) (by rw [e37]; omega) (by rw [e21]; exact fc) (fun j => by
    rw [y15]
    split
    · exact ⟨hd1, hd2⟩
    · exact a4 j) (by unfold NMo; rw [e18, e19]; exact p8) (fun j => by
    rw [y10]
    split
    · omega
    · exact a7 j) (fun j hj => by
    rw [y9, p4] at hj
    rw [y10]
    by_cases q : j = e.toNatClampNeg
    · rw [if_pos q] at hj
      exact absurd hj (by decide)
    · rw [if_neg q] at hj ⊢
      exact a8 j hj) (by rw [e17]; exact b1) hA4 (of_eq ((x0 12).trans (p1 0 12 rfl rfl))) ⟨fun j hj => by
    obtain ⟨d1, d2, d3, d4, d5⟩ := ue1 j hj
    exact ⟨by rw [y9]; exact d1, by rw [y10, if_neg (by omega)], by rw [y15, if_neg (by omega)], by rw [y12 j (by omega)], fun q => by rw [e14]; exact d5 q⟩, fun n hn9 q => by rw [e21]; exact ue2 n hn9 q, fun j hj => ⟨by rw [e13]; exact (ue3 j hj).1, by rw [e17]⟩⟩
  refine ⟨u1, u2, u3, u4, u5, e37, ei, by rw [x0]; omega, hd4, ⟨hc4, kk 0 45 rfl rfl⟩, fun c2 => by omega, fun _ => ⟨by omega, by rw [x0]; omega⟩, fun _ _ _ => ⟨?_, ?_, ?_⟩, fun f hg => good_ur u1 (fun q => by rw [e37]; exact itd_of ei u4 q) (fun j j1 j2 j3 j4 => ?_) hg⟩
  · rw [y9, p4, if_pos rfl]; decide
  · rw [y10, if_pos rfl]
  · rw [y15, if_pos rfl]
  · rw [e13, p5] at j4
    by_cases q : j = e.toNatClampNeg
    · rw [if_pos q] at j4
      exact absurd rfl j4
    · rw [if_neg q] at j4
      rw [x0] at j2
      exact Or.inl ⟨by omega, j4, by rw [e17]⟩
end FEN
end

section
/-! what comes after the name of a function: its body -/
def FNy (σ : St) (vs : List Nat) (s t : St) (z : List Nat) (c len : Int) : Prop := UR σ vs s t z ∧ NCt σ vs s z c ∧ GPs σ s ∧ (0 ≤ (s 0 31).toInt ∧ (s 0 31).toInt ≤ (σ 0 31).toInt + len) ∧ (s 0 45).toInt ≤ (σ 0 45).toInt + 1
/-- what a function's body is begun from: e is the name -/
def FBx (σ : St) (e ty : Int32) : Prop := HDs σ ∧ (e.toInt < 0 → (σ 0 12).toInt = 0 → (σ 0 15).toInt = 0 → False) ∧ (0 ≤ e.toInt → Fi σ ≤ e.toInt ∧ e.toInt < (σ 0 36).toInt) ∧ (0 ≤ e.toInt → (σ 0 12).toInt = 0 → (σ 0 15).toInt = 0 → ((σ 9) e.toNatClampNeg).toInt = 2 ∧ ((σ 10) e.toNatClampNeg).toInt = ty.toInt ∧ ((σ 15) e.toNatClampNeg).toInt = (σ 0 64).toInt)
/-- it is told where the body lies -/
def FPx (σ τ : St) (vs : List Nat) (e : Int32) (s : St) : Prop := UR σ vs s τ vs ∧ Kp [] [13, 17] σ s ∧ (∀ j, j ≠ e.toNatClampNeg → (s 13) j = (σ 13) j ∧ (s 17) j = (σ 17) j) ∧ (0 ≤ e.toInt → ((σ 9) e.toNatClampNeg).toInt = 2 → (s 17) e.toNatClampNeg = (σ 0 45))
section FBO
variable {σ s s' τ t t' : St} {vs z z' : List Nat}
theorem fp_no {e : Int32} (h : PA σ τ) (hn : ¬ (0 ≤ e.toInt ∧ ((σ 9) e.toNatClampNeg).toInt = 2)) : FPx σ τ vs e σ := ⟨ur_rf h, kp_rf, fun _ _ => ⟨rfl, rfl⟩, fun q1 q2 => absurd ⟨q1, q2⟩ hn⟩
theorem fp_yes {e b : Int32} (h : PA σ τ) (he : 0 ≤ e.toInt ∧ Fi σ ≤ e.toInt) (hb : 0 ≤ (σ 0 45).toInt ∧ (σ 0 45).toInt < 10000) : FPx σ τ vs e (upC (upC σ 13 e.toNatClampNeg b) 17 e.toNatClampNeg (σ 0 45)) := by
  have h9 := h
  obtain ⟨hT, hA, ⟨n1, n2, n3, n4, n5, n6, n7⟩, ⟨a1, a2, a3, a4, a5, a6, a7, a8, a9, b1, b2, b3⟩, hV⟩ := h9
  have nn := nt he.1
  refine ⟨(ur_kd (vs := vs) (s := upC (upC σ 13 e.toNatClampNeg b) 17 e.toNatClampNeg (σ 0 45)) h (kp_a (kp_a kp_rf rfl) rfl) (by show _ ≤ (σ 0 36).toInt ∧ (σ 0 36).toInt ≤ _; omega) (by show _ ≤ (σ 0 37).toInt ∧ (σ 0 37).toInt ≤ _; omega) a3 a4 a5 a7 a8 ?_ b2 (Or.inl rfl) ⟨fun j hj => ⟨rfl, rfl, rfl, rfl, fun q => q⟩, fun n _ q => q, fun j hj => ?_⟩).1, kp_a (kp_a kp_rf rfl) rfl, fun j hj => ?_, fun _ _ => ?_⟩
  · show AllIn 0 16000 (upC (upC σ 13 e.toNatClampNeg b) 17 e.toNatClampNeg (σ 0 45) 17)
    exact acr_up b1 (by omega)
  · have ne : j ≠ e.toNatClampNeg := by omega
    simp only [rdC, Nat.reduceEqDiff, if_true, if_false, if_neg ne]
    exact ⟨trivial, trivial⟩
  · simp only [rdC, Nat.reduceEqDiff, if_true, if_false, if_neg hj]
    exact ⟨trivial, trivial⟩
  · simp only [rdC, if_true]
theorem fp_set {e : Int32} {S : St} (h : PA s τ) (hS : S = upC (upC (upC (upC s 0 49 (0 : Int32)) 0 53 (0 : Int32)) 0 54 (1 : Int32)) 0 65 (s 0 64)) (hd : HDs s) : UR s vs S τ vs ∧ HDs S ∧ KHw s S ∧ (S 0 49).toInt = 0 ∧ (S 0 65) = (s 0 64) ∧ (S 0 64) = (s 0 64) := by
  have k : KHw s S := by rw [hS]; exact kp_f (kp_f (kp_f (kp_f kp_rf rfl) rfl) rfl) rfl
  have e49 : S 0 49 = 0 := by rw [hS]; rfl
  have e53 : S 0 53 = 0 := by rw [hS]; rfl
  have l0 : (S 0 49).toInt = 0 := by rw [e49]; rfl
  have h0 : (S 0 53).toInt = 0 := by rw [e53]; rfl
  have ea : AtOK S := by rw [hS]; exact h.2.1
  have ep : pos S = pos s := by rw [hS]; rfl
  refine ⟨ur_hw h k (by omega) (fun j hj => by rw [h0] at hj; omega) ea (by omega), ?_, k, l0, by rw [hS]; rfl, by rw [hS]; rfl⟩
  rw [hS]
  exact hd
theorem sp_fnBody {e ty : Int32} {sB S : St} {Q T : St → St → List Nat → Prop} (h : PA σ τ) (hS : (σ 0 15).toInt = 0) (hB : NB σ vs) (hn : 0 ≤ (σ 0 31).toInt) (hk : kd σ = 54) (hb : 0 ≤ (σ 0 45).toInt ∧ (σ 0 45).toInt < 10000) (hf : FBx σ e ty) (hp : FPx σ τ vs e sB) (hSd : S = upC (upC (upC (upC sB 0 49 (0 : Int32)) 0 53 (0 : Int32)) 0 54 (1 : Int32)) 0 65 (sB 0 64)) (hq : QTt S τ vs s) (hl : (s 0 49).toInt = (S 0 64).toInt) (k : ∀ s t z, FNy σ vs s t z (-123) 0 → Q s t z) (kT : ∀ s t z, UT σ vs s t z → T s t z) : wp_bodyOf ty s τ vs Q T := by
  obtain ⟨f1, f2, f3, f4⟩ := hf
  obtain ⟨p1, p2, p3, p4⟩ := hp
  have hdB : HDs sB := hds_kd (kp_sub p2 rfl rfl) f1
  obtain ⟨u2, d2, k2, l2, hp2, hc2⟩ := fp_set (e := e) (vs := vs) p1.2.1 hSd hdB
  have u3 : UR σ vs s τ vs := ur_tr (ur_tr p1 u2) (ur_rs hq.1)
  obtain ⟨q1, q2, q3, q4, q5⟩ := qt_pos hq
  have eS : ∀ j, S 0 j = if j = 65 then sB 0 64 else if j = 54 then 1 else if j = 53 then 0 else if j = 49 then 0 else sB 0 j := fun j => by
    rw [hSd]
    simp only [rdC, if_true]
  have pS : pos S = pos sB := by rw [hSd]; rfl
  have kS : kd S = kd sB := by rw [hSd]; rfl
  have pB : pos sB = pos σ := by
    unfold pos
    have a1 : (sB 0 10) = (σ 0 10) := p2 _ _ rfl rfl
    have a2 : (sB 3) = (σ 3) := funext (fun j => p2 3 j rfl rfl)
    rw [a1, a2]
  have kB : kd sB = kd σ := by
    unfold kd
    have a1 : (sB 0 10) = (σ 0 10) := p2 _ _ rfl rfl
    have a2 : (sB 2) = (σ 2) := funext (fun j => p2 2 j rfl rfl)
    rw [a1, a2]
  have w : (s 0 17) = (σ 0 17) := q2.trans ((k2 0 17 rfl rfl).trans (p2 0 17 rfl rfl))
  have ic : (s 0 39) = (σ 0 39) := q3.trans ((k2 0 39 rfl rfl).trans (p2 0 39 rfl rfl))
  have bo : (s 0 45) = (σ 0 45) := (hq.1.1 0 45 rfl rfl).trans ((k2 0 45 rfl rfl).trans (p2 0 45 rfl rfl))
  have nb : (s 0 31) = (σ 0 31) := (hq.1.1 0 31 rfl rfl).trans ((k2 0 31 rfl rfl).trans (p2 0 31 rfl rfl))
  have hpa : (s 0 65) = (σ 0 64) := (hq.1.1 0 65 rfl rfl).trans (hp2.trans (p2 0 64 rfl rfl))
  have hcS : (S 0 64) = (σ 0 64) := hc2.trans (p2 0 64 rfl rfl)
  have ent : (s 0 36) = (σ 0 36) := (hq.1.1 0 36 rfl rfl).trans ((k2 0 36 rfl rfl).trans (p2 0 36 rfl rfl))
  have sz := ur_sz u3
  refine sp_bodyOf u3.2.1 (by rw [ur_sil u3]; exact hS) (by obtain ⟨x1, x2, x3⟩ := hB; unfold NB; rw [w, ic, sz, q1, pS, pB]; exact ⟨x1, x2, x3⟩) (by omega) (by rw [bo]; exact hb) (fun F t z bx => ?_) (fun s' t' z' hs => kT _ _ _ (ut_ur u3 (by omega) hs))
  obtain ⟨b1, ⟨c1, c2, c3⟩, b3, ⟨b4, b5, b6, b7⟩, b8, b9, b10⟩ := bx
  have uF := ur_tr u3 b1
  have pp : pos s = pos σ := by omega
  rw [w, pp] at c1
  rw [ic, pp] at c2
  rw [pp] at c3
  refine k _ _ _ ⟨uF, ⟨c1, c2, c3⟩, fun g1 g2 f hg => ?_, by rw [b4, nb]; omega, by rw [bo] at b9; exact b9⟩
  have of := of0 uF.2.2.2.1 g1
  have sil : (σ 0 15).toInt = 0 := hS
  have e0 : 0 ≤ e.toInt := by
    by_cases c : e.toInt < 0
    · exact (f2 c of sil).elim
    · omega
  obtain ⟨r1, r2, r3⟩ := f4 e0 of sil
  obtain ⟨o1, o2⟩ := f3 e0
  have nn := nt e0
  have hd1 := f1.1
  obtain ⟨v1, v2, v3, v4⟩ := b10 g1 g2 (by rw [hpa]; omega) (by rw [hpa, hl, hcS]; exact Int.le_refl _)
  have ent2 : (F 0 36) = (σ 0 36) := b5.trans ent
  refine good_ur uF (fun q => ?_) (fun j j1 j2 j3 j4 => ?_) hg
  · have d1 : (S 0 37) = (σ 0 37) := (k2 0 37 rfl rfl).trans (p2 0 37 rfl rfl)
    have g3 : ITd S f (S 0 37).toInt := by
      rw [d1]
      exact itd_of (funext (fun j => (k2 25 j rfl rfl).trans (p2 25 j rfl rfl))) ((k2 0 39 rfl rfl).trans (p2 0 39 rfl rfl)) q
    exact b8 f (hq.1.2.2.2.2.2.2.2.2.2.2.1.2.1 f g3)
  · have x13 : (F 13) j = (sB 13) j := by rw [b6]; exact (hq.1.1 13 j rfl rfl).trans (k2 13 j rfl rfl)
    have x17 : (F 17) j = (sB 17) j := by rw [b7]; exact (hq.1.1 17 j rfl rfl).trans (k2 17 j rfl rfl)
    by_cases ce : j = e.toNatClampNeg
    · subst ce
      obtain ⟨m1, m2, m3, m4, m5⟩ := uF.2.2.2.2.2.2.2.2.1.1 e.toNatClampNeg (by omega)
      have nbd := nt hb.1
      refine Or.inr ⟨(σ 0 45).toNatClampNeg, by rw [x17, p4 e0 r1]; omega, by rw [v1, bo]; omega, ?_, ?_, ?_⟩
      · rw [← bo, v2, hpa, m3]
        exact Int32.toInt_inj.mp r3.symm
      · rw [← bo, v3]
        exact (b1.1 0 35 rfl rfl).symm
      · rw [m2, r2, ← bo]
        exact v4
    · obtain ⟨y1, y2⟩ := p3 j ce
      exact Or.inl ⟨by rw [← ent2]; exact j2, by rw [← y1, ← x13]; exact j4, by rw [x17, y2]⟩
end FBO
end

section
/-! a function -/
section FUN
variable {σ s s' τ t t' : St} {vs z z' : List Nat}
theorem sp_isb {a : Int32} {Q : Int32 → Prop} (h : PA σ τ) (k : ∀ v : Int32, (v.toInt ≠ 0 → kd σ = ((32 : Int32) + a).toInt) → Q v) : wp_is a σ τ vs Q := sp_is h (fun q => k 1 (fun _ => q)) (fun _ => k 0 no0)
theorem sp_entityb {b : Int32} {Q : Int32 → Prop} (h : PA σ τ) (hb : 0 ≤ b.toInt ∧ b.toInt < 16002) (k : ∀ r : Int32, (0 ≤ r.toInt → Fi σ ≤ r.toInt ∧ r.toInt < (σ 0 36).toInt) → Q r) : wp_entity b σ τ vs Q := sp_entity h hb (k _ (fun c => absurd c (by decide))) (fun r r1 r2 => k r (fun _ => ⟨r1, r2⟩))
theorem sp_function {tk ty st : Int32} {Q T : St → St → List Nat → Prop} (h : PA σ τ) (hS : (σ 0 15).toInt = 0) (hB : NB σ vs) (ht : 0 ≤ tk.toInt ∧ tk.toInt < 16002) (hl : ((σ 3) tk.toNatClampNeg).toInt ≤ ((σ 4) tk.toNatClampNeg).toInt) (hn : 0 ≤ (σ 0 31).toInt ∧ (σ 0 31).toInt + (((σ 4) tk.toNatClampNeg).toInt - ((σ 3) tk.toNatClampNeg).toInt) ≤ 60000) (hty : -1 ≤ ty.toInt ∧ ty.toInt ≤ 10) (hb : 0 ≤ (σ 0 45).toInt ∧ (σ 0 45).toInt < 10000) (k : ∀ s t z, FNy σ vs s t z (-43) (((σ 4) tk.toNatClampNeg).toInt - ((σ 3) tk.toNatClampNeg).toInt) → Q s t z) (kT : ∀ s t z, UT σ vs s t z → T s t z) : wp_function tk ty st σ τ vs Q T := by
  unfold wp_function
  refine sp_head h (fun s1 hx hp1 => ?_) kT
  have v1 := vr_hd (vs := vs) h hn.1 hx.1 hx.2.1 hx.2.2.1
  have hP1 := v1.1.2.1
  have hd1 := hx.2.2.2
  have e3 : (s1 3) tk.toNatClampNeg = (σ 3) tk.toNatClampNeg := hx.1 3 _ rfl rfl
  have e4 : (s1 4) tk.toNatClampNeg = (σ 4) tk.toNatClampNeg := hx.1 4 _ rfl rfl
  have e31 : (s1 0 31) = (σ 0 31) := hx.1 0 31 rfl rfl
  have e31' : (s1 0 31).toInt = (σ 0 31).toInt := by rw [e31]
  have w1 : (s1 0 17) = (σ 0 17) := hx.1 0 17 rfl rfl
  have i1 : (s1 0 39) = (σ 0 39) := hx.1 0 39 rfl rfl
  have b1 : (s1 0 45) = (σ 0 45) := hx.1 0 45 rfl rfl
  have hn2 := hP1.2.2.1.2.1
  refine sp_isb hP1 (fun v7 hv7 => sp_entityb hP1 ht (fun e he => ?_))
  refine ⟨fun x5 s t z => τ = t ∧ vs = z ∧ FEx s1 s τ vs x5 ty (((σ 4) tk.toNatClampNeg).toInt - ((σ 3) tk.toNatClampNeg).toInt), ?_, fun c => ?_, fun c => ?_⟩
  rotate_left 1
  · refine sp_fnNew (J := fun x5 s t z => τ = t ∧ vs = z ∧ FEx s1 s τ vs x5 ty (((σ 4) tk.toNatClampNeg).toInt - ((σ 3) tk.toNatClampNeg).toInt)) hP1 hd1 ht (by rw [e3, e4]; exact hl) (by rw [e3, e4, e31]; exact hn) hty (fun r s fe => ?_)
    rw [e3, e4] at fe
    exact ⟨rfl, rfl, fe⟩
  · have he' := he c
    have rg : 0 ≤ e.toInt ∧ e.toInt < 10000 := by omega
    refine ⟨rg, fun y => y.toInt ≠ 0 → ((s1 9) e.toNatClampNeg).toInt = 2 ∧ ((s1 10) e.toNatClampNeg).toInt = ty.toInt ∧ ((s1 15) e.toNatClampNeg).toInt = (s1 0 64).toInt, fun y _ hy => sp_must ht (fun s hs hf => ⟨rfl, rfl, fe_tl hP1 hd1 (by omega) hs (fun q => by omega) he (fun _ f1 f2 => hy (hf f1 f2))⟩), True, fun _ => no0, fun _ => trivial, fun c2 => ?_⟩
    refine sp_isSameHead rg hd1 ⟨fun _ => trivial, no0⟩ (fun t1 t2 => ⟨no1, fun _ => ⟨rg, fun _ => trivial, fun _ => ⟨True, fun _ _ => ⟨c2, t1, t2⟩, fun _ => trivial, fun _ => ⟨rg, fun _ => trivial, fun _ => trivial⟩⟩⟩⟩)
  rintro x5 s _ _ ⟨rfl, rfl, fe⟩
  obtain ⟨u1, u2, u3, u4, u5, u6, u7, u8, u9, u10, u11, u12, u13, u14⟩ := fe
  have hPs := u1.2.1
  have uA := ur_tr v1.1 u1
  have bs : (s 0 45).toInt = (σ 0 45).toInt := by rw [u10.2, b1]
  have eF := ku_Fi u1.1
  have hnS := hPs.2.2.1.2.1
  have fb : FBx s x5 ty := ⟨u9, u11, fun q => by rw [eF]; exact u12 q, fun q f1 f2 => by rw [u10.1]; exact u13 q f1 f2⟩
  have gps : GPs σ s := gp_tr v1.2.2.1 u1.2.2.2.1 (ur_sil u1) (fun _ _ f q => u14 f q)
  have sz := ur_sz uA
  have hBs : NB s vs := by
    obtain ⟨x1, x2, x3⟩ := hB
    unfold NB
    rw [u3, u4, w1, i1, sz, u2]
    exact ⟨by omega, by omega, by omega⟩
  have silS : (s 0 15).toInt = 0 := by rw [ur_sil uA]; exact hS
  refine ⟨fun c7 => ?_, fun _ => ?_⟩
  rotate_left 1
  · refine sp_expect hPs (by decide) (fun hk ro po wo ico => ?_) (fun s' hs => kT _ _ _ (ut_ur uA (by omega) (ut_rt (rt_rtx hs))))
    have vn := vr_rl (c := 0) (by omega) ro ⟨by omega, by omega, by omega⟩ (by omega)
    have nbn := vn.2.2.2
    refine k _ _ _ ⟨ur_tr uA vn.1, ⟨by rw [wo, u3, w1]; omega, by rw [ico, u4, i1]; omega, by omega⟩, gp_tr gps ro.2.2.2.2.1 (rl_sil ro) vn.2.2.1, by omega, by show (s 0 45).toInt ≤ _; omega⟩
  refine ⟨fun s' t z => τ = t ∧ vs = z ∧ FPx s τ vs x5 s', ?_, fun c => ⟨rfl, rfl, fp_no hPs (fun q => by omega)⟩, fun c => ?_⟩
  rotate_left 1
  · have rg : 0 ≤ x5.toInt ∧ x5.toInt < 10000 := by have := u12 c; omega
    exact ⟨rg, fun c2 => ⟨rfl, rfl, fp_no hPs (fun q => c2 q.2)⟩, fun c2 => ⟨rg, rg, rfl, rfl, fp_yes hPs ⟨c, by rw [eF]; exact (u12 c).1⟩ (by omega)⟩⟩
  rintro sB _ _ ⟨rfl, rfl, fp⟩
  have hdB : HDs sB := hds_kd (kp_sub fp.2.1 rfl rfl) u9
  obtain ⟨y1, y2, y3, y4, y5, y6⟩ := fp_set (e := x5) (vs := vs) fp.1.2.1 rfl hdB
  refine sp_params y1.2.1 y2 y4 (fun s3 hq hl3 => sp_fnBody hPs silS hBs (by omega) (by rw [u5]; exact hv7 c7) (by omega) fb fp rfl hq hl3 (fun F t z fy => ?_) (fun s' t' z' hs => kT _ _ _ (ut_ur uA (by omega) hs)))
  obtain ⟨g1, ⟨c1, c2, c3⟩, g3, g4, g5⟩ := fy
  rw [u3, w1, u2] at c1
  rw [u4, i1, u2] at c2
  rw [u2] at c3
  exact k _ _ _ ⟨ur_tr uA g1, ⟨by omega, by omega, by omega⟩, gp_tr gps g1.2.2.2.1 (ur_sil g1) g3, by omega, by omega⟩
end FUN
end

section
/-! an item of a unit -/
section ITM
variable {σ s s' τ t t' : St} {vs z z' : List Nat}
theorem sp_isWordb {a : Int32} {Q : Int32 → Prop} (h : PA σ τ) (k : ∀ v : Int32, (v.toInt ≠ 0 → kd σ = a.toInt) → Q v) : wp_isWord a σ τ vs Q := sp_isWord h (fun q => k 1 (fun _ => q)) (fun _ => k 0 no0)
theorem at_back {a b : St} {v : Int32} (k : Kp [(0, 10)] [] a b) : upC b 0 10 v = upC a 0 10 v := by
  funext c j
  rw [rdC, rdC]
  by_cases e : c = 0
  · subst e
    rw [if_pos rfl, if_pos rfl]
    by_cases e2 : j = 10
    · rw [if_pos e2, if_pos e2]
    · rw [if_neg e2, if_neg e2]
      exact k 0 j (by simp; exact e2) rfl
  · rw [if_neg e, if_neg e]
    exact k c j (by simp; intro h; exact absurd h e) rfl
theorem fy_vr {c l : Int} (v : VRx σ vs s t z 0) (g : FNy s z s' t' z' c l) (hc : NCt σ vs s z 80) (hc2 : -80 ≤ c) (hl : l ≤ pos s' - pos σ) : FNy σ vs s' t' z' 0 (pos s' - pos σ) := by
  obtain ⟨v1, ⟨n1, n2, n3⟩, v3, v4⟩ := v
  obtain ⟨g1, ⟨m1, m2, m3⟩, g3, g4, g5⟩ := g
  obtain ⟨x1, x2, x3⟩ := hc
  exact ⟨ur_tr v1 g1, ⟨by omega, by omega, by omega⟩, gp_tr v3 g1.2.2.2.1 (ur_sil g1) g3, by omega, by omega⟩
def ITy (σ : St) (vs : List Nat) (s t : St) (z : List Nat) : Prop := FNy σ vs s t z 0 (pos s - pos σ) ∧ pos σ + 2 ≤ pos s
theorem sn_vr (h : PA σ τ) (hn : 0 ≤ (σ 0 31).toInt) (p : SNx σ s) : VRx σ vs s τ vs 0 := by
  obtain ⟨w1, i1⟩ := sn_wc p
  have p1 := p.2.2
  exact vr_rl (c := 0) hn (sn_rl (vs := vs) h p) ⟨by omega, by omega, by omega⟩ (by omega)
theorem sn_nx (h : PA s τ) (hk : 2 ≤ kd s) (p : SNx σ s) : SNx σ (nxt s) ∧ pos s + 1 ≤ pos (nxt s) := by
  obtain ⟨rn, pn, wn, icn⟩ := rl_nxt (vs := []) h hk
  exact ⟨⟨kp_tr p.1 (kp_sub nxt_kp rfl rfl), rn.2.1.2.1, by have := p.2.2; omega⟩, pn⟩
theorem sp_fnItem {tk ty st : Int32} {Q T : St → St → List Nat → Prop} (h : PA σ τ) (hS : PU2 σ) (hB : NB σ vs) (hb : 0 ≤ (σ 0 45).toInt ∧ (σ 0 45).toInt < 10000) (hs : SNx σ s) (hp : pos σ + 1 ≤ pos s) (hk : kd s = 2) (hty : -1 ≤ ty.toInt ∧ ty.toInt ≤ 10) (etk : tk = (s 0 10)) (k : ∀ s t z, ITy σ vs s t z → Q s t z) (kT : ∀ s t z, UT σ vs s t z → T s t z) : wp_function tk ty st (nxt s) τ vs Q T := by
  subst etk
  obtain ⟨hS1, hS2, hS3⟩ := hS
  have v1 := sn_vr (vs := vs) h hS2 hs
  have hP1 := v1.1.2.1
  obtain ⟨hs2, p2⟩ := sn_nx hP1 (by omega) hs
  have v2 := sn_vr (vs := vs) h hS2 hs2
  have hP2 := v2.1.2.1
  obtain ⟨w2, i2⟩ := sn_wc hs2
  obtain ⟨l1, l2⟩ := tok_len hP1 (by omega)
  have hp2 := pos_in hP2.1 hP2.2.1
  have sz2 := ur_sz v2.1
  have nb2 := v2.2.2.2
  have p1' : ((s 3) (s 0 10).toNatClampNeg).toInt = pos s := rfl
  refine sp_function hP2 (by rw [ur_sil v2.1]; exact hS1) (vr_nb hB v2) (at_tok hP1.1 hP1.2.1) (by show ((s 3) _).toInt ≤ ((s 4) _).toInt; omega) (by show _ ∧ ((nxt s) 0 31).toInt + (((s 4) _).toInt - ((s 3) _).toInt) ≤ 60000; omega) hty (by omega) (fun s' t' z' g => ?_) (fun s' t' z' g => kT _ _ _ (ut_ur v2.1 (by omega) g))
  have m := g.1.2.2.2.2.1.2.2.1
  refine k _ _ _ ⟨fy_vr v2 g ⟨by omega, by omega, by omega⟩ (by omega) ?_, by omega⟩
  show ((s 4) _).toInt - ((s 3) _).toInt ≤ _
  omega
theorem sp_item {Q T : St → St → List Nat → Prop} (h : PA σ τ) (hS : PU2 σ) (hB : NB σ vs) (hb : 0 ≤ (σ 0 45).toInt ∧ (σ 0 45).toInt < 10000) (k : ∀ s t z, ITy σ vs s t z → Q s t z) (kT : ∀ s t z, UT σ vs s t z → T s t z) : wp_item σ τ vs Q T := by
  have hn := hS.2.1
  unfold wp_item
  refine sp_isWordb h (fun v3 hv3 => sp_isWordb h (fun v10 hv10 => ?_))
  have e7 : ((7 : Int32)).toInt = 7 := by decide
  have e8 : ((8 : Int32)).toInt = 8 := by decide
  have s0 : SNx σ σ := ⟨kp_rf, h.2.1, Int.le_refl _⟩
  refine ⟨fun s t z => τ = t ∧ vs = z ∧ SNx σ s, ?_, 2 ≤ kd σ, fun c => ⟨rfl, rfl, (sn_nx h c s0).1⟩, fun c => by rw [hv3 c, e7]; decide, fun _ => ⟨fun _ => ⟨rfl, rfl, s0⟩, fun c => by rw [hv10 c, e8]; decide⟩⟩
  rintro s _ _ ⟨rfl, rfl, hs⟩
  have v1 := sn_vr (vs := vs) h hn hs
  have hP1 := v1.1.2.1
  have htk := at_tok hP1.1 hP1.2.1
  refine ⟨htk, fun _ => ⟨htk, fun hk => ?_, fun _ => sp_wrong hP1 (vr_cutx kT v1)⟩, fun hk => ?_⟩
  · have hk5 : kd s = 5 := hk
    obtain ⟨hs2, p2⟩ := sn_nx hP1 (by omega) hs
    have v2 := sn_vr (vs := vs) h hn hs2
    have hP2 := v2.1.2.1
    rw [show upC s 0 10 ((s 0 10) + (1 : Int32)) = nxt s from rfl]
    refine sp_stars hP2 (fun ty s3 ty0 ty5 hs3 => ?_) (vr_cutx kT v2)
    have hs3' : SNx σ s3 := ⟨kp_tr hs2.1 hs3.1, hs3.2.1, Int.le_trans hs2.2.2 hs3.2.2⟩
    have v3 := sn_vr (vs := vs) h hn hs3'
    have hP3 := v3.1.2.1
    have p3 := hs3.2.2
    have p1 := hs.2.2
    refine ⟨at_tok hP3.1 hP3.2.1, fun hk3 => ?_, fun _ => sp_wrong hP3 (vr_cutx kT v3)⟩
    have hk3' : kd s3 = 2 := hk3
    obtain ⟨hs4, p4⟩ := sn_nx hP3 (by omega) hs3'
    have v4 := sn_vr (vs := vs) h hn hs4
    have hP4 := v4.1.2.1
    rw [show upC s3 0 10 ((s3 0 10) + (1 : Int32)) = nxt s3 from rfl]
    refine sp_isb hP4 (fun v173 _ => ⟨fun _ => ?_, fun _ => ?_⟩)
    · have eb : upC (nxt s3) 0 10 ((s 0 10) + (1 : Int32)) = nxt s := by
        rw [at_back (a := s) (kp_tr (kp_tr nxt_kp hs3.1) nxt_kp)]
        rfl
      rw [eb]
      have hp2 := pos_in hP2.1 hP2.2.1
      have sz2 := ur_sz v2.1
      have nb2 := v2.2.2.2
      obtain ⟨hS1, hS2, hS3⟩ := hS
      refine sp_variablesG hP2 ⟨by rw [ur_sil v2.1]; exact hS1, by omega, by omega⟩ (vr_nb hB v2) rfl (fun s' t' z' g gp => ?_) (vr_cut kT v2)
      have v5 := vr_tr v2 g
      obtain ⟨q1, q2, q3, q4⟩ := v5
      exact k _ _ _ ⟨⟨q1, q2, q3, by omega, by omega⟩, by omega⟩
    · exact sp_fnItem h hS hB hb hs3' (by omega) hk3' ⟨by omega, by omega⟩ rfl k kT
  · have hk6 : kd s = 6 := hk
    obtain ⟨hs2, p2⟩ := sn_nx hP1 (by omega) hs
    have v2 := sn_vr (vs := vs) h hn hs2
    have hP2 := v2.1.2.1
    have p1 := hs.2.2
    refine ⟨at_tok hP2.1 hP2.2.1, fun hk3 => ?_, fun _ => sp_wrong hP2 (vr_cutx kT v2)⟩
    exact sp_fnItem (s := nxt s) h hS hB hb hs2 (by omega) hk3 ⟨by decide, by decide⟩ rfl k kT
end ITM
end

section
/-! a unit is read: what has no body, all items -/
def SBe (σ : St) (e : Nat) : Prop := ((σ 9) e).toInt = 2 → (σ 12) e ≠ 0 → 0 ≤ ((σ 21) ((e : Int) - Fi σ).toNat).toInt → (σ 13) e ≠ 0
def SBD (σ : St) : Prop := ∀ e : Nat, Fi σ ≤ (e : Int) → (e : Int) < (σ 0 36).toInt → SBe σ e
abbrev KR (σ s : St) : Prop := Kp [(0, 8), (0, 10)] [2, 3, 4, 5, 6] σ s
def ITl (σ : St) (vs : List Nat) (s t : St) (z : List Nat) : Prop := UR σ vs s t z ∧ NCt σ vs s z 0 ∧ GPs σ s ∧ (0 ≤ (s 0 31).toInt ∧ (s 0 31).toInt ≤ (σ 0 31).toInt + (pos s - pos σ)) ∧ (0 ≤ (s 0 45).toInt ∧ 2 * (s 0 45).toInt ≤ 2 * (σ 0 45).toInt + (pos s - pos σ))
section RDU
variable {σ s s' τ t t' : St} {vs z z' : List Nat}
theorem upC_self (p k : Nat) : upC σ p k (σ p k) = σ := by
  funext c j
  rw [rdC]
  by_cases e : c = p
  · rw [if_pos e]
    by_cases e2 : j = k
    · rw [if_pos e2, e, e2]
    · rw [if_neg e2, e]
  · rw [if_neg e]
theorem ut_of (r : UR σ vs s t z) (hz : (z.length : Int) ≤ vs.length + 2 * ((σ 0 9).toInt - pos σ)) : UT σ vs s t z := ⟨⟨s, r, (upC_self _ _).symm⟩, hz⟩
theorem int_ne {x : Int32} (h : x ≠ 0) : x.toInt ≠ 0 := fun q => h (ieq (by rw [q]; decide))
theorem int_ne' {x : Int32} (h : x.toInt ≠ 0) : x ≠ 0 := fun q => h (by rw [q]; decide)
theorem sp_bodiless {Q : St → St → List Nat → Prop} (h : PA σ τ) (k : ∀ s, TL σ s → ((s 0 12).toInt = 0 → (s 0 15).toInt = 0 → SBD σ) → Q s τ vs) : wp_bodiless σ τ vs Q := by
  have h9 := h
  obtain ⟨hT, hA, ⟨n1, n2, n3, n4, n5, n6, n7⟩, ⟨a1, a2, a3, a4, a5, a6, a7, a8, a9, b1, b2, b3⟩, hV⟩ := h9
  have eFi : ((σ 22) (σ 0 35).toNatClampNeg).toInt = Fi σ := rfl
  have en1 : ((-1 : Int32)).toInt = -1 := by decide
  unfold wp_bodiless
  refine ⟨by omega, fun n x1 x2 => (n : Int) = (σ 0 36).toInt - x2.toInt ∧ Fi σ ≤ x2.toInt ∧ (-1 ≤ x1.toInt ∧ x1.toInt ≤ 16001) ∧ (x1.toInt < 0 → ∀ e : Nat, Fi σ ≤ (e : Int) → (e : Int) < x2.toInt → SBe σ e), ⟨((σ 0 36).toInt - Fi σ).toNat, by omega, by rw [eFi]; exact Int.le_refl _, by rw [en1]; omega, fun _ e e1 e2 => by omega⟩, ?_⟩
  rintro n x1 x2 ⟨q1, q2, q3, q4⟩
  refine ⟨fun c => ⟨fun c1 => k σ tl_rf (fun _ _ e e1 e2 => q4 c1 e e1 (by omega)), fun c1 => sp_tell (by decide) (by omega) (fun s hs hf => k s hs (fun f1 f2 => (hf f1 f2).elim))⟩, fun c => ?_⟩
  have es : (x2 - (σ 22) (σ 0 35).toNatClampNeg).toInt = x2.toInt - Fi σ := sb (by rw [eFi]; omega) (by rw [eFi]; omega)
  have e1 := ad1 (x := x2) (by omega)
  have nn := nt (x := x2) (by omega)
  have en : (x2 - (σ 22) (σ 0 35).toNatClampNeg).toNatClampNeg = ((x2.toNatClampNeg : Int) - Fi σ).toNat := by rw [nt', es, nn]
  have last : ∀ y : Int32, (-1 ≤ y.toInt ∧ y.toInt ≤ 16001) ∧ (y.toInt < 0 → ∀ e : Nat, Fi σ ≤ (e : Int) → (e : Int) < x2.toInt + 1 → SBe σ e) → ∃ m, m < n ∧ ((m : Int) = (σ 0 36).toInt - (x2 + 1).toInt ∧ Fi σ ≤ (x2 + 1).toInt ∧ (-1 ≤ y.toInt ∧ y.toInt ≤ 16001) ∧ (y.toInt < 0 → ∀ e : Nat, Fi σ ≤ (e : Int) → (e : Int) < (x2 + 1).toInt → SBe σ e)) := fun y ⟨y1, y2⟩ => ⟨n - 1, by omega, by omega, by omega, y1, by rw [e1]; exact y2⟩
  have keep : SBe σ x2.toNatClampNeg → (-1 ≤ x1.toInt ∧ x1.toInt ≤ 16001) ∧ (x1.toInt < 0 → ∀ e : Nat, Fi σ ≤ (e : Int) → (e : Int) < x2.toInt + 1 → SBe σ e) := fun r => ⟨q3, fun c1 e e2 e3 => by
    by_cases q : e = x2.toNatClampNeg
    · rw [q]; exact r
    · exact q4 c1 e e2 (by omega)⟩
  have rg : 0 ≤ x2.toInt ∧ x2.toInt < 10000 := by omega
  refine ⟨by omega, by rw [es]; omega, rg, fun y => (-1 ≤ y.toInt ∧ y.toInt ≤ 16001) ∧ (y.toInt < 0 → ∀ e : Nat, Fi σ ≤ (e : Int) → (e : Int) < x2.toInt + 1 → SBe σ e), fun y hy => last y hy, fun c1 => keep (fun c2 => absurd c2 c1), fun c1 => ⟨rg, fun c2 => keep (fun _ c3 => absurd (by rw [ieq (x := (σ 12) x2.toNatClampNeg) (y := 0) (by rw [c2]; decide)]) c3), fun c2 => ⟨rg, fun c3 => keep (fun _ _ _ => int_ne' c3), fun c3 => ⟨fun c4 => keep (fun _ _ c5 => by rw [en] at c4; omega), fun c4 => ?_⟩⟩⟩⟩
  refine ⟨True, fun _ => ⟨a3 _, fun c5 => by omega⟩, fun _ => trivial, fun c5 => ⟨fun _ => ⟨q3, fun c6 => by omega⟩, fun _ => trivial⟩⟩
theorem sbd_tl (p : TL σ s) (h : SBD σ) : SBD s := by
  have f1 : (s 0 35) = (σ 0 35) := p.1 _ _ rfl rfl
  have f2 : (s 0 36) = (σ 0 36) := p.1 _ _ rfl rfl
  have e22 : (s 22) = (σ 22) := funext (fun j => p.1 22 j rfl rfl)
  have e9 : (s 9) = (σ 9) := funext (fun j => p.1 9 j rfl rfl)
  have e12 : (s 12) = (σ 12) := funext (fun j => p.1 12 j rfl rfl)
  have e13 : (s 13) = (σ 13) := funext (fun j => p.1 13 j rfl rfl)
  have e21 : (s 21) = (σ 21) := funext (fun j => p.1 21 j rfl rfl)
  have eF : Fi s = Fi σ := by unfold Fi; rw [f1, e22]
  unfold SBD SBe
  rw [eF, f2, e9, e12, e13, e21]
  exact h
theorem nb_ur (h : NB σ vs) (r : UR σ vs s t z) (n : NCt σ vs s z 0) : NB s z := by
  obtain ⟨h1, h2, h3⟩ := h
  obtain ⟨n1, n2, n3⟩ := n
  have e := ur_sz r
  unfold NB
  rw [e]
  exact ⟨by omega, by omega, by omega⟩
/-- what holds as a unit is begun, its text not yet cut -/
def RS0 (σ τ : St) (vs : List Nat) : Prop := (0 ≤ (σ 0 9).toInt ∧ (σ 0 9).toInt ≤ 16000) ∧ (AllIn 0 16000 (σ 3) ∧ AllIn 0 16000 (σ 4)) ∧ (NUM σ ∧ ARR σ ∧ VOK τ) ∧ ((σ 0 15).toInt = 0 ∧ (σ 0 12).toInt = 0) ∧ (0 ≤ (σ 0 31).toInt ∧ (σ 0 31).toInt + (σ 0 9).toInt ≤ 60000) ∧ (0 ≤ (σ 0 45).toInt ∧ 2 * (σ 0 45).toInt + (σ 0 9).toInt ≤ 19000) ∧ ((σ 0 17).toInt + 40 * (σ 0 9).toInt ≤ 410000 ∧ (σ 0 39).toInt + 12 * (σ 0 9).toInt ≤ 130000 ∧ (vs.length : Int) + 2 * (σ 0 9).toInt ≤ 23000)
theorem rs0_pa (h : RS0 σ τ vs) (hT : TK s) (k : KT σ s) : PA (upC s 0 10 (0 : Int32)) τ ∧ KR σ (upC s 0 10 (0 : Int32)) := by
  obtain ⟨-, -, ⟨⟨n1, n2, n3, n4, n5, n6, n7⟩, ⟨a1, a2, a3, a4, a5, a6, a7, a8, a9, b1, b2, b3⟩, hV⟩, -⟩ := h
  have kr : KR σ (upC s 0 10 (0 : Int32)) := kp_f (kp_sub k rfl rfl) rfl
  have e22 : ((upC s 0 10 (0 : Int32)) 22) = (σ 22) := funext (fun j => kr 22 j rfl rfl)
  have e34 : ((upC s 0 10 (0 : Int32)) 34) = (σ 34) := funext (fun j => kr 34 j rfl rfl)
  have e35 : ((upC s 0 10 (0 : Int32)) 35) = (σ 35) := funext (fun j => kr 35 j rfl rfl)
  have e15 : ((upC s 0 10 (0 : Int32)) 15) = (σ 15) := funext (fun j => kr 15 j rfl rfl)
  have e18 : ((upC s 0 10 (0 : Int32)) 18) = (σ 18) := funext (fun j => kr 18 j rfl rfl)
  have e19 : ((upC s 0 10 (0 : Int32)) 19) = (σ 19) := funext (fun j => kr 19 j rfl rfl)
  have e31 : ((upC s 0 10 (0 : Int32)) 31) = (σ 31) := funext (fun j => kr 31 j rfl rfl)
  have e10 : ((upC s 0 10 (0 : Int32)) 10) = (σ 10) := funext (fun j => kr 10 j rfl rfl)
  have e9 : ((upC s 0 10 (0 : Int32)) 9) = (σ 9) := funext (fun j => kr 9 j rfl rfl)
  have e32 : ((upC s 0 10 (0 : Int32)) 32) = (σ 32) := funext (fun j => kr 32 j rfl rfl)
  have e16 : ((upC s 0 10 (0 : Int32)) 16) = (σ 16) := funext (fun j => kr 16 j rfl rfl)
  have e17 : ((upC s 0 10 (0 : Int32)) 17) = (σ 17) := funext (fun j => kr 17 j rfl rfl)
  have e21 : ((upC s 0 10 (0 : Int32)) 21) = (σ 21) := funext (fun j => kr 21 j rfl rfl)
  have f1 : ((upC s 0 10 (0 : Int32)) 0 35) = (σ 0 35) := kr _ _ rfl rfl
  have f2 : ((upC s 0 10 (0 : Int32)) 0 36) = (σ 0 36) := kr _ _ rfl rfl
  have f3 : ((upC s 0 10 (0 : Int32)) 0 53) = (σ 0 53) := kr _ _ rfl rfl
  have f4 : ((upC s 0 10 (0 : Int32)) 0 49) = (σ 0 49) := kr _ _ rfl rfl
  have f5 : ((upC s 0 10 (0 : Int32)) 0 15) = (σ 0 15) := kr _ _ rfl rfl
  have f6 : ((upC s 0 10 (0 : Int32)) 0 37) = (σ 0 37) := kr _ _ rfl rfl
  have f7 : ((upC s 0 10 (0 : Int32)) 0 17) = (σ 0 17) := kr _ _ rfl rfl
  have f8 : ((upC s 0 10 (0 : Int32)) 0 39) = (σ 0 39) := kr _ _ rfl rfl
  have eF : Fi (upC s 0 10 (0 : Int32)) = Fi σ := by unfold Fi; rw [f1, e22]
  refine ⟨⟨tk_kp (fs := [(0, 10)]) (cs := []) (kp_f kp_rf rfl) rfl rfl ⟨rfl, rfl, rfl, rfl, rfl⟩ rfl hT, ?_, ⟨by rw [f1]; exact n1, by rw [eF, f2]; exact n2, by rw [f3, f4]; exact n3, by rw [f6]; exact n4, by rw [f7]; exact n5, by rw [f8]; exact n6, by rw [f5]; exact n7⟩, ⟨by rw [e34]; exact a1, by rw [e35]; exact a2, by rw [e21]; exact a3, by rw [e15]; exact a4, ?_, by rw [e31]; exact a6, by rw [e10]; exact a7, ?_, ?_, by rw [e17]; exact b1, by rw [e16]; exact b2, by rw [e32]; exact b3⟩, hV⟩, kr⟩
  · refine ⟨?_, ?_⟩
    · show 0 ≤ (0 : Int32).toInt
      decide
    · have := hT.1
      have e0 : (0 : Int32).toInt = 0 := by decide
      show (0 : Int32).toInt < (s 0 8).toInt
      omega
  · unfold NMo; rw [e18, e19]; exact a5
  · unfold VTy; rw [e9, e10]; exact a8
  · unfold HLd; rw [e35, f3, f4]; exact a9
theorem sp_read0 {Q : Int32 → St → St → List Nat → Prop} (h : RS0 σ τ vs) (k1 : ∀ σ1 s t z, PA σ1 τ → KR σ σ1 → ITl σ1 vs s t z → (s 0 12).toInt = 0 → SBD s → Q 0 s t z) (k2 : ∀ (v : Int32) σ1 s t z, v.toInt < 0 → PA σ1 τ → KR σ σ1 → UT σ1 vs s t z → Q v s t z) : wp_read_0 σ τ vs Q := by
  have h9 := h
  obtain ⟨⟨hs0, hs1⟩, ⟨hf, ht⟩, -, ⟨hsil, hfa⟩, ⟨hnb, hnb2⟩, ⟨hbo, hbo2⟩, ⟨hw, hi, hv⟩⟩ := h9
  unfold wp_read_0
  refine sp_cut hs0 hs1 hf ht (fun s1 hT1 hK1 => ?_)
  obtain ⟨hP1, kr⟩ := rs0_pa h hT1 hK1
  generalize upC s1 0 10 (0 : Int32) = σ1 at hP1 kr ⊢
  have e9 : (σ1 0 9) = (σ 0 9) := kr _ _ rfl rfl
  have e15 : (σ1 0 15) = (σ 0 15) := kr _ _ rfl rfl
  have e12 : (σ1 0 12) = (σ 0 12) := kr _ _ rfl rfl
  have e31 : (σ1 0 31) = (σ 0 31) := kr _ _ rfl rfl
  have e45 : (σ1 0 45) = (σ 0 45) := kr _ _ rfl rfl
  have e17 : (σ1 0 17) = (σ 0 17) := kr _ _ rfl rfl
  have e39 : (σ1 0 39) = (σ 0 39) := kr _ _ rfl rfl
  have p1 := pos_in hP1.1 hP1.2.1
  have em21 : ((-21 : Int32)).toInt < 0 := by decide
  have hB1 : NB σ1 vs := by
    unfold NB
    rw [e17, e39, e9]
    rw [e9] at p1
    exact ⟨by omega, by omega, by omega⟩
  refine ⟨fun n s t z => n = ((σ1 0 9).toInt - pos s).toNat ∧ ITl σ1 vs s t z, ⟨_, rfl, ur_rf hP1, ⟨by omega, by omega, by omega⟩, fun _ _ _ q => q, by rw [e31]; omega, by rw [e45]; omega⟩, ?_⟩
  rintro n s t z ⟨hn, il⟩
  have il9 := il
  obtain ⟨u1, u2, u3, u4, u5⟩ := il9
  have hPs := u1.2.1
  have ps := pos_in hPs.1 hPs.2.1
  have sz := ur_sz u1
  have hBs := nb_ur hB1 u1 u2
  have sil := ur_sil u1
  have mp := u1.2.2.2.2.1.2.2.1
  have htk := at_tok hPs.1 hPs.2.1
  refine ⟨htk, fun _ => ?_, fun hk0 => ⟨htk, fun hk1 => ?_, fun _ => ?_⟩⟩
  · refine sp_bodiless hPs (fun s5 hs5 hsb => ?_)
    have v5 := vr_tl (vs := z) hPs u4.1 hs5
    obtain ⟨w1, w2, w3, w4⟩ := v5
    have uA := ur_tr u1 w1
    have sil5 : (s5 0 15).toInt = 0 := by rw [ur_sil uA, e15]; exact hsil
    have e10 : (s5 0 10) = (s 0 10) := hs5.1 _ _ rfl rfl
    have fr : (s5 3) = (s 3) := funext (fun j => hs5.1 3 j rfl rfl)
    have p5 : pos s5 = pos s := by unfold pos; rw [e10, fr]
    have il5 : ITl σ1 vs s5 t z := ⟨uA, nct_tr (c := 0) (d := 0) u2 w2, gp_tr u3 w1.2.2.2.1 (ur_sil w1) w3, by rw [p5]; omega, by rw [p5]; omega⟩
    have of := uA.2.2.2.1
    unfold OF at of
    rw [e12, hfa] at of
    refine ⟨fun c => ?_, fun c => k1 σ1 s5 t z hP1 kr il5 c (sbd_tl hs5 (hsb c sil5))⟩
    have em20 : ((-20 : Int32)).toInt = -20 := by decide
    have ev : ((-20 : Int32) - (s5 0 12)).toInt = -20 - (s5 0 12).toInt := by
      rw [sb (by omega) (by omega), em20]
    have n3 := il5.2.1.2.2
    have ps5 : pos s5 ≤ (σ1 0 9).toInt := by omega
    have q5 : UR s5 z (upC s5 0 14 (s5 0 13)) t z := ur_rs (rs_rl (by
      have hP5 := uA.2.1
      have k9 : KE s5 (upC s5 0 14 (s5 0 13)) := kp_f kp_rf rfl
      obtain ⟨x1, x2, ⟨m1, m2, m3, m4, m5, m6, m7⟩, ⟨a1, a2, a3, a4, a5, a6, a7, a8, a9, b1, b2, b3⟩, x5⟩ := hP5
      exact ⟨k9, pa_ke ⟨x1, x2, ⟨m1, m2, m3, m4, m5, m6, m7⟩, ⟨a1, a2, a3, a4, a5, a6, a7, a8, a9, b1, b2, b3⟩, x5⟩ k9 x2 m4 m5 m6 a3 x5, fun _ _ => rfl, mon_rf, of_rf, Int.le_refl _, Int.le_refl _, Int.le_refl _, fun _ h => h, Nat.le_refl _, ie_of rfl rfl rfl⟩))
    exact k2 _ σ1 _ t z (by rw [ev]; omega) hP1 kr (ut_of (ur_tr uA q5) (by omega))
  · refine sp_item hPs ⟨by rw [sil, e15]; exact hsil, u4.1, ?_⟩ hBs (by rw [e45] at u5; rw [sz, e9] at ps; omega) (fun s' t' z' g => ?_) (fun s' t' z' g => k2 _ σ1 _ _ _ em21 hP1 kr (ut_ur u1 u2.2.2 g))
    · rw [e31] at u4
      rw [sz, e9]
      rw [e9] at p1
      omega
    · obtain ⟨⟨g1, g2, g3, g4, g5⟩, g6⟩ := g
      have uA := ur_tr u1 g1
      have ps' := pos_in uA.2.1.1 uA.2.1.2.1
      have sz' := ur_sz uA
      refine ⟨_, ?_, rfl, uA, nct_tr (c := 0) (d := 0) u2 g2, gp_tr u3 g1.2.2.2.1 (ur_sil g1) g3, by omega, ?_⟩
      · omega
      · have := g1.2.2.2.2.1.2.2.2.2.1
        omega
  · exact sp_wrong hPs (fun s' g => k2 _ σ1 _ _ _ em21 hP1 kr (ut_ur u1 u2.2.2 (ut_rt (rt_rtx g))))
end RDU
end

section
/-! what holds between two calls -/
def fO (σ : St) (o : Nat) : Int := ((σ 22) o).toInt
def InO (σ : St) (o e : Nat) : Prop := fO σ o ≤ (e : Int) ∧ (e : Int) < fO σ (o + 1)
def FnD (σ : St) (e : Nat) : Prop := ((σ 9) e).toInt = 2 ∧ (σ 13) e ≠ 0
def ITr (σ : St) (a b d : Int) : Prop := 0 ≤ a ∧ ∃ n : Nat, b = a + 3 * n ∧ ∀ j : Nat, j < n → (0 ≤ ((σ 25) (a + 3 * j).toNat).toInt ∧ ((σ 25) (a + 3 * j).toNat).toInt < d) ∧ ((σ 25) (a + 3 * j + 2).toNat).toInt ≤ 100
def HH (σ : St) (e h h' : Nat) : Prop := ((σ 15) e).toInt ≤ h ∧ (h' : Int) = h - ((σ 15) e).toInt + (if ((σ 10) e).toInt = -1 then 0 else 1)
def COo (σ : St) (o : Nat) (n : Int) (h h' : Nat) : Prop := 0 ≤ n ∧ ∃ e : Nat, (e : Int) = fO σ o + n ∧ InO σ o e ∧ ((σ 9) e).toInt = 2 ∧ (σ 14) e ≠ 0 ∧ ((σ 12) e ≠ 0 → (σ 13) e ≠ 0) ∧ HH σ e h h'
/-- a function's body -/
def BDk (σ : St) (f o : Nat) (C : Int → Nat → Nat → Prop) : Prop := ∃ b : Nat, ((σ 17) f).toInt = b ∧ (b : Int) < (σ 0 45).toInt ∧ (σ 54) b = (σ 15) f ∧ ((σ 27) b).toInt = o ∧ BT σ b (((σ 10) f).toInt = -1) C
def OBJ (σ : St) (o : Nat) : Prop := (0 ≤ fO σ o ∧ fO σ o ≤ 100 * o ∧ fO σ o ≤ fO σ (o + 1) ∧ fO σ (o + 1) ≤ fO σ o + 100) ∧ (0 ≤ ((σ 23) o).toInt ∧ ((σ 23) o).toInt ≤ 16000) ∧ ITr σ ((σ 24) o).toInt ((σ 24) (o + 1)).toInt ((σ 23) o).toInt ∧ ∀ e, InO σ o e → FnD σ e → BDk σ e o (COo σ o)
/-- linked objects -/
def LKo (σ : St) (o : Nat) : Prop := ∃ p : Nat, (p : Int) < (σ 0 70).toInt ∧ ((σ 41) p).toInt = (o : Int) + 1
def AIMk (σ : St) (e : Nat) : Prop := (0 ≤ ((σ 43) e).toInt → ∃ o f, LKo σ o ∧ InO σ o f ∧ FnD σ f ∧ (σ 43) e = (σ 17) f ∧ (σ 15) f = (σ 15) e ∧ (σ 10) f = (σ 10) e) ∧ (((σ 43) e).toInt < 0 → -4 ≤ ((σ 43) e).toInt ∧ (((σ 43) e).toInt = -1 → ((σ 15) e).toInt = 0 ∧ ((σ 10) e).toInt = 0) ∧ (((σ 43) e).toInt ≠ -1 → ((σ 15) e).toInt = 1 ∧ ((σ 10) e).toInt = -1))
def CAL (σ : St) (o : Nat) (n : Int) (h h' : Nat) : Prop := (0 ≤ n ∧ n < 100) ∧ ∃ e : Nat, (e : Int) = fO σ o + n ∧ InO σ o e ∧ AIMk σ e ∧ HH σ e h h'
def LNk (σ : St) : Prop := (∀ p : Nat, (p : Int) < (σ 0 70).toInt → 1 ≤ ((σ 41) p).toInt ∧ ((σ 41) p).toInt ≤ (σ 0 35).toInt) ∧ (∀ o, LKo σ o → ∀ f, InO σ o f → FnD σ f → BDk σ f o (CAL σ o)) ∧ ∃ o f, LKo σ o ∧ InO σ o f ∧ FnD σ f ∧ (σ 17) f = (σ 0 78) ∧ ((σ 15) f).toInt = 0
def LNK (σ : St) : Prop := (-1 ≤ (σ 0 70).toInt ∧ (σ 0 70).toInt ≤ 100) ∧ (0 ≤ (σ 0 70).toInt → LNk σ)
def PCK (σ : St) : Prop := (0 ≤ (σ 0 67).toInt ∧ (σ 0 67).toInt ≤ 100) ∧ (∀ k : Nat, (k : Int) < (σ 0 67).toInt → 1 ≤ ((σ 40) k).toInt ∧ ((σ 40) k).toInt ≤ (σ 0 35).toInt) ∧ ∀ j k : Nat, j < k → (k : Int) < (σ 0 67).toInt → (σ 40) j ≠ (σ 40) k
def MIS (σ : St) : Prop := (0 ≤ (σ 0 88).toInt ∧ (σ 0 88).toInt ≤ 4096) ∧ (0 ≤ (σ 0 91).toInt ∧ (σ 0 91).toInt ≤ 4096)
def NUG (σ : St) (vs : List Nat) : Prop := (0 ≤ (σ 0 1).toInt ∧ (σ 0 1).toInt ≤ 16000) ∧ (0 ≤ (σ 0 35).toInt ∧ (σ 0 35).toInt ≤ 100) ∧ (0 ≤ (σ 0 31).toInt ∧ (σ 0 31).toInt + (σ 0 1).toInt ≤ (σ 0 2).toInt) ∧ (0 ≤ (σ 0 17).toInt ∧ (σ 0 17).toInt + 40 * (σ 0 1).toInt ≤ 40 * (σ 0 2).toInt) ∧ (0 ≤ (σ 0 39).toInt ∧ (σ 0 39).toInt + 12 * (σ 0 1).toInt ≤ 12 * (σ 0 2).toInt) ∧ (vs.length : Int) + 2 * (σ 0 1).toInt ≤ 2 * (σ 0 2).toInt ∧ (0 ≤ (σ 0 45).toInt ∧ 2 * (σ 0 45).toInt + (σ 0 1).toInt ≤ (σ 0 2).toInt)
def ENG (σ : St) : Prop := (σ 0 36) = (σ 22) (σ 0 35).toNatClampNeg ∧ (σ 0 39) = (σ 24) (σ 0 35).toNatClampNeg ∧ (0 ≤ (σ 0 36).toInt ∧ (σ 0 36).toInt ≤ 100 * (σ 0 35).toInt)
def ARG (σ τ : St) : Prop := (AllIn 0 16000 (σ 3) ∧ AllIn 0 16000 (σ 4)) ∧ AllIn 0 16001 (σ 34) ∧ AllIn 0 99 (σ 35) ∧ AllIn (-1) 16001 (σ 21) ∧ AllIn 0 8 (σ 15) ∧ NMo σ ∧ AllIn 0 10 (σ 31) ∧ AllIn (-1) 10 (σ 10) ∧ VTy σ ∧ AllIn 0 16000 (σ 17) ∧ AllIn 0 10 (σ 16) ∧ AllIn (-1) 4000 (σ 32) ∧ VOK τ
def GLI (σ τ : St) (vs : List Nat) : Prop := NUG σ vs ∧ ENG σ ∧ ARG σ τ ∧ (∀ o : Nat, (o : Int) < (σ 0 35).toInt → OBJ σ o) ∧ PCK σ ∧ LNK σ ∧ MIS σ
/-- what stays of the objects that there are -/
def OLD (σ s : St) : Prop := (∀ o : Nat, (o : Int) ≤ (σ 0 35).toInt → (s 22) o = (σ 22) o ∧ (s 24) o = (σ 24) o) ∧ (∀ o : Nat, (o : Int) < (σ 0 35).toInt → (s 23) o = (σ 23) o) ∧ (∀ e : Nat, (e : Int) < (σ 0 36).toInt → (s 9) e = (σ 9) e ∧ (s 10) e = (σ 10) e ∧ (s 15) e = (σ 15) e ∧ (s 12) e = (σ 12) e ∧ ((σ 14) e ≠ 0 → (s 14) e ≠ 0) ∧ (s 13) e = (σ 13) e ∧ (s 17) e = (σ 17) e) ∧ (RW σ s ∧ UB σ s ∧ ∀ j : Nat, (j : Int) < (σ 0 39).toInt → (s 25) j = (σ 25) j) ∧ ((σ 0 17).toInt ≤ (s 0 17).toInt ∧ (σ 0 45).toInt ≤ (s 0 45).toInt ∧ (σ 0 35).toInt ≤ (s 0 35).toInt)
/-- what only links and runs touch -/
def OLK (σ s : St) : Prop := (s 43) = (σ 43) ∧ (s 41) = (σ 41) ∧ (s 0 70) = (σ 0 70) ∧ (s 0 78) = (σ 0 78)
section GIS
variable {σ s τ t : St} {vs z : List Nat}
theorem fo_mono (h : ∀ o : Nat, (o : Int) < (σ 0 35).toInt → OBJ σ o) (o : Nat) : ∀ d : Nat, (o : Int) + d ≤ (σ 0 35).toInt → fO σ o ≤ fO σ (o + d) := fun d => by
  induction d with
  | zero => exact fun _ => Int.le_refl _
  | succ d ih =>
    intro hd
    have h1 := ih (by omega)
    have h2 := (h (o + d) (by omega)).1.2.2.1
    have e : o + (d + 1) = o + d + 1 := by omega
    rw [e]
    omega
theorem fo_ent (hE : ENG σ) (h0 : 0 ≤ (σ 0 35).toInt) (h : ∀ o : Nat, (o : Int) < (σ 0 35).toInt → OBJ σ o) {o : Nat} (ho : (o : Int) ≤ (σ 0 35).toInt) : fO σ o ≤ (σ 0 36).toInt := by
  have n := nt h0
  have h1 := fo_mono h o ((σ 0 35).toNatClampNeg - o) (by omega)
  have e : o + ((σ 0 35).toNatClampNeg - o) = (σ 0 35).toNatClampNeg := by omega
  rw [e] at h1
  have e2 := hE.1
  unfold fO at h1
  rw [← e2] at h1
  exact h1
theorem fi_mono (h : ∀ o : Nat, (o : Int) < (σ 0 35).toInt → OBJ σ o) (o : Nat) : ∀ d : Nat, (o : Int) + d ≤ (σ 0 35).toInt → ((σ 24) o).toInt ≤ ((σ 24) (o + d)).toInt := fun d => by
  induction d with
  | zero => exact fun _ => Int.le_refl _
  | succ d ih =>
    intro hd
    have h1 := ih (by omega)
    obtain ⟨h2, n, h3, -⟩ := (h (o + d) (by omega)).2.2.1
    have e : o + (d + 1) = o + d + 1 := by omega
    rw [e]
    omega
theorem fi_cnt (hE : ENG σ) (h0 : 0 ≤ (σ 0 35).toInt) (h : ∀ o : Nat, (o : Int) < (σ 0 35).toInt → OBJ σ o) {o : Nat} (ho : (o : Int) ≤ (σ 0 35).toInt) : ((σ 24) o).toInt ≤ (σ 0 39).toInt := by
  have n := nt h0
  have h1 := fi_mono h o ((σ 0 35).toNatClampNeg - o) (by omega)
  have e : o + ((σ 0 35).toNatClampNeg - o) = (σ 0 35).toNatClampNeg := by omega
  rw [e] at h1
  have e2 := hE.2.1
  rw [← e2] at h1
  exact h1
theorem itr_of {a b d : Int} (hj : ∀ j : Nat, (j : Int) < b → (s 25) j = (σ 25) j) (h : ITr σ a b d) : ITr s a b d := by
  obtain ⟨h1, n, h2, h3⟩ := h
  refine ⟨h1, n, h2, fun j hn => ?_⟩
  obtain ⟨g1, g2⟩ := h3 j hn
  rw [hj _ (by omega), hj _ (by omega)]
  exact ⟨g1, g2⟩
theorem bdk_old {f o : Nat} {C C' : Int → Nat → Nat → Prop} (h1 : (s 17) f = (σ 17) f) (h2 : (s 15) f = (σ 15) f) (h3 : (s 10) f = (σ 10) f) (hr : RW σ s) (hu : UB σ s) (hw : (σ 0 17).toInt ≤ (s 0 17).toInt) (hb : (σ 0 45).toInt ≤ (s 0 45).toInt) (hC : ∀ n h h', C n h h' → C' n h h') (h : BDk σ f o C) : BDk s f o C' := by
  obtain ⟨b, b1, b2, b3, b4, b5⟩ := h
  obtain ⟨u1, u2, u3, u4, u5, u6⟩ := hu b b2
  refine ⟨b, by rw [h1]; exact b1, by omega, by rw [u6, h2]; exact b3, by rw [u2]; exact b4, ?_⟩
  rw [h3]
  exact bt_ur b2 hr hw hu hC b5
theorem hh_eq {e h h' : Nat} (h1 : (s 15) e = (σ 15) e) (h2 : (s 10) e = (σ 10) e) (k : HH σ e h h') : HH s e h h' := by
  unfold HH
  rw [h1, h2]
  exact k
theorem ino_old {o e : Nat} (g : OLD σ s) (ho : (o : Int) < (σ 0 35).toInt) : InO s o e ↔ InO σ o e := by
  unfold InO fO
  rw [(g.1 o (by omega)).1, (g.1 (o + 1) (by omega)).1]
theorem obj_old {o : Nat} (g : OLD σ s) (hE : ENG σ) (h : ∀ o : Nat, (o : Int) < (σ 0 35).toInt → OBJ σ o) (ho : (o : Int) < (σ 0 35).toInt) : OBJ s o := by
  have hi : ∀ {e : Nat}, InO s o e ↔ InO σ o e := fun {e} => ino_old (e := e) g ho
  have i1 := fo_ent hE (by omega) h (o := o + 1) (by omega)
  have i2 := fi_cnt hE (by omega) h (o := o + 1) (by omega)
  obtain ⟨g1, g2, g3, ⟨g4, g5, g6⟩, g7, g8, g9⟩ := g
  obtain ⟨f1, f2⟩ := g1 o (by omega)
  obtain ⟨f3, f4⟩ := g1 (o + 1) (by omega)
  obtain ⟨h1, h2, h3, h4⟩ := h o ho
  refine ⟨by unfold fO; rw [f1, f3]; exact h1, by rw [g2 o ho]; exact h2, ?_, fun e he hd => ?_⟩
  · rw [f2, f4, g2 o ho]
    exact itr_of (fun j hj => g6 j (by omega)) h3
  · have he' := hi.mp he
    have hlt : (e : Int) < (σ 0 36).toInt := by have := he'.2; omega
    obtain ⟨e1, e2, e3, e4, e5, e6, e7⟩ := g3 e hlt
    have hd' : FnD σ e := ⟨by rw [← e1]; exact hd.1, by rw [← e6]; exact hd.2⟩
    refine bdk_old e7 e3 e2 g4 g5 g7 g8 (fun n a b c => ?_) (h4 e he' hd')
    obtain ⟨c1, e9, c2, c3, c4, c5, c6, c7⟩ := c
    have hlt9 : (e9 : Int) < (σ 0 36).toInt := by have := c3.2; omega
    obtain ⟨k1, k2, k3, k4, k5, k6, k7⟩ := g3 e9 hlt9
    exact ⟨c1, e9, by unfold fO at c2 ⊢; rw [f1]; exact c2, by unfold InO fO at c3 ⊢; rw [f1, f3]; exact c3, by rw [k1]; exact c4, k5 c5, by rw [k4, k6]; exact c6, hh_eq k3 k2 c7⟩
theorem lko_old {o : Nat} (g : OLK σ s) : LKo s o ↔ LKo σ o := by
  unfold LKo
  rw [g.2.1, g.2.2.1]
theorem lko_lt {o : Nat} (h : LNk σ) (k : LKo σ o) : (o : Int) < (σ 0 35).toInt := by
  obtain ⟨p, p1, p2⟩ := k
  have := h.1 p p1
  omega
theorem lnk_old (g : OLD σ s) (k : OLK σ s) (hE : ENG σ) (h : ∀ o : Nat, (o : Int) < (σ 0 35).toInt → OBJ σ o) (hl : LNK σ) : LNK s := by
  refine ⟨by rw [k.2.2.1]; exact hl.1, fun c => ?_⟩
  rw [k.2.2.1] at c
  have hk := hl.2 c
  have lt := fun {o : Nat} (q : LKo σ o) => lko_lt hk q
  have en : ∀ {o e : Nat}, LKo σ o → InO σ o e → (e : Int) < (σ 0 36).toInt := fun {o e} q1 q2 => by
    have := lt q1
    have i1 := fo_ent hE (by omega) h (o := o + 1) (by omega)
    have := q2.2
    omega
  obtain ⟨l1, l2, o3, f3, l3, l4, l5, l6, l7⟩ := hk
  have ino := fun {o e : Nat} (q : LKo σ o) => ino_old (e := e) g (lt q)
  have g9 := g
  obtain ⟨g1, g2, g3, ⟨g4, g5, g6⟩, g7, g8, g9⟩ := g9
  refine ⟨fun p hp => by rw [k.2.1]; rw [k.2.2.1] at hp; have := l1 p hp; omega, fun o ho f hf hd => ?_, o3, f3, (lko_old k).mpr l3, (ino l3).mpr l4, ?_, ?_, ?_⟩
  · have ho' := (lko_old k).mp ho
    have hf' := (ino ho').mp hf
    obtain ⟨e1, e2, e3, e4, e5, e6, e7⟩ := g3 f (en ho' hf')
    have hd' : FnD σ f := ⟨by rw [← e1]; exact hd.1, by rw [← e6]; exact hd.2⟩
    refine bdk_old e7 e3 e2 g4 g5 g7 g8 (fun n a b c => ?_) (l2 o ho' f hf' hd')
    obtain ⟨c1, e9, c2, c3, ⟨c4, c5⟩, c6⟩ := c
    obtain ⟨k1, k2, k3, k4, k5, k6, k7⟩ := g3 e9 (en ho' c3)
    refine ⟨c1, e9, by unfold fO at c2 ⊢; rw [(g1 o (by have := lt ho'; omega)).1]; exact c2, (ino ho').mpr c3, ⟨fun c => ?_, fun c => ?_⟩, hh_eq k3 k2 c6⟩
    · rw [k.1] at c
      obtain ⟨o8, f8, x1, x2, x3, x4, x5, x6⟩ := c4 c
      obtain ⟨y1, y2, y3, y4, y5, y6, y7⟩ := g3 f8 (en x1 x2)
      exact ⟨o8, f8, (lko_old k).mpr x1, (ino x1).mpr x2, ⟨by rw [y1]; exact x3.1, by rw [y6]; exact x3.2⟩, by rw [k.1, y7]; exact x4, by rw [y3, k3]; exact x5, by rw [y2, k2]; exact x6⟩
    · rw [k.1] at c ⊢
      rw [k3, k2]
      exact c5 c
  · obtain ⟨e1, e2, e3, e4, e5, e6, e7⟩ := g3 f3 (en l3 l4)
    exact ⟨by rw [e1]; exact l5.1, by rw [e6]; exact l5.2⟩
  · obtain ⟨e1, e2, e3, e4, e5, e6, e7⟩ := g3 f3 (en l3 l4)
    rw [e7, k.2.2.2]
    exact l6
  · obtain ⟨e1, e2, e3, e4, e5, e6, e7⟩ := g3 f3 (en l3 l4)
    rw [e3]
    exact l7
end GIS
end

section
/-! compile, from outside -/
abbrev KXu (σ s : St) : Prop := Kp [(0, 8), (0, 10), (0, 9), (0, 1), (0, 14), (0, 37), (0, 12), (0, 15), (0, 53), (0, 54), (0, 49)] [2, 3, 4, 5, 6] σ s
abbrev KZu (σ s : St) : Prop := Kp [(0, 35), (0, 17), (0, 31), (0, 45), (0, 39), (0, 36), (0, 15)] [23, 22, 24] σ s
/-- what a unit leaves of what was there -/
def OLU (σ s : St) : Prop := (∀ e : Nat, (e : Int) < (σ 0 36).toInt → (s 9) e = (σ 9) e ∧ (s 10) e = (σ 10) e ∧ (s 15) e = (σ 15) e ∧ (s 12) e = (σ 12) e ∧ ((σ 14) e ≠ 0 → (s 14) e ≠ 0) ∧ (s 13) e = (σ 13) e ∧ (s 17) e = (σ 17) e) ∧ (RW σ s ∧ UB σ s ∧ ∀ j : Nat, (j : Int) < (σ 0 39).toInt → (s 25) j = (σ 25) j)
section CMP
variable {σ σ1 s S τ t : St} {vs z : List Nat}
theorem olu_ur (k : KXu σ σ1) (u : UR σ1 vs s t z) (hE : (σ 0 36).toInt = Fi σ1) : OLU σ s := by
  obtain ⟨h1, h2, h3, h4, h5, h6, h7, h8, ⟨u1, u2, u3⟩, h10⟩ := u
  have e36 : (σ1 0 36) = (σ 0 36) := k _ _ rfl rfl
  have e17 : (σ1 0 17) = (σ 0 17) := k _ _ rfl rfl
  have e45 : (σ1 0 45) = (σ 0 45) := k _ _ rfl rfl
  have e39 : (σ1 0 39) = (σ 0 39) := k _ _ rfl rfl
  have a : ∀ c, c ≠ 0 → ([2, 3, 4, 5, 6] : List Nat).contains c = false → σ1 c = σ c := fun c c0 q => funext (fun j => k c j (by
    cases e : (([(0, 8), (0, 10), (0, 9), (0, 1), (0, 14), (0, 37), (0, 12), (0, 15), (0, 53), (0, 54), (0, 49)] : List (Nat × Nat)).contains (c, j)) with
    | false => rfl
    | true =>
      have := List.contains_iff_mem.mp e
      simp at this
      omega) q)
  have a8 := a 8 (by decide) rfl
  have a25 := a 25 (by decide) rfl
  refine ⟨fun e he => ?_, fun j hj => by rw [h3 j (by rw [e17]; exact hj), a8], fun b hb => ?_, fun j hj => by rw [h8 j (by rw [e39]; exact hj), a25]⟩
  · obtain ⟨x1, x2, x3, x4, x5⟩ := u1 e (by rw [e36]; exact he)
    obtain ⟨y1, y2⟩ := u3 e (by rw [← hE]; exact he)
    rw [a 9 (by decide) rfl] at x1
    rw [a 10 (by decide) rfl] at x2
    rw [a 15 (by decide) rfl] at x3
    rw [a 12 (by decide) rfl] at x4
    rw [a 14 (by decide) rfl] at x5
    rw [a 13 (by decide) rfl] at y1
    rw [a 17 (by decide) rfl] at y2
    exact ⟨x1, x2, x3, x4, x5, y1, y2⟩
  · obtain ⟨x1, x2, x3, x4, x5, x6⟩ := h10 b (by rw [e45]; exact hb)
    rw [a 26 (by decide) rfl] at x1
    rw [a 27 (by decide) rfl] at x2
    rw [a 28 (by decide) rfl] at x3
    rw [a 29 (by decide) rfl] at x4
    rw [a 30 (by decide) rfl] at x5
    rw [a 54 (by decide) rfl] at x6
    exact ⟨x1, x2, x3, x4, x5, x6⟩
theorem olu_kz (h : OLU σ s) (k : KZu s S) : OLU σ S := by
  obtain ⟨h1, h2, h3, h4⟩ := h
  refine ⟨fun e he => ?_, fun j hj => (k 8 j rfl rfl).trans (h2 j hj), fun b hb => ?_, fun j hj => (k 25 j rfl rfl).trans (h4 j hj)⟩
  · obtain ⟨x1, x2, x3, x4, x5, x6, x7⟩ := h1 e he
    exact ⟨(k 9 e rfl rfl).trans x1, (k 10 e rfl rfl).trans x2, (k 15 e rfl rfl).trans x3, (k 12 e rfl rfl).trans x4, fun q => by rw [k 14 e rfl rfl]; exact x5 q, (k 13 e rfl rfl).trans x6, (k 17 e rfl rfl).trans x7⟩
  · obtain ⟨x1, x2, x3, x4, x5, x6⟩ := h3 b hb
    exact ⟨(k 26 b rfl rfl).trans x1, (k 27 b rfl rfl).trans x2, (k 28 b rfl rfl).trans x3, (k 29 b rfl rfl).trans x4, (k 30 b rfl rfl).trans x5, (k 54 b rfl rfl).trans x6⟩
theorem arg_pa (h : PA s t) (k : KZu s S) : ARG S t := by
  obtain ⟨⟨-, -, -, -, t1, t2, -⟩, -, -, ⟨a1, a2, a3, a4, a5, a6, a7, a8, a9, b1, b2, b3⟩, hV⟩ := h
  have e3 : (S 3) = (s 3) := funext (fun j => k 3 j rfl rfl)
  have e4 : (S 4) = (s 4) := funext (fun j => k 4 j rfl rfl)
  have e34 : (S 34) = (s 34) := funext (fun j => k 34 j rfl rfl)
  have e35 : (S 35) = (s 35) := funext (fun j => k 35 j rfl rfl)
  have e15 : (S 15) = (s 15) := funext (fun j => k 15 j rfl rfl)
  have e18 : (S 18) = (s 18) := funext (fun j => k 18 j rfl rfl)
  have e19 : (S 19) = (s 19) := funext (fun j => k 19 j rfl rfl)
  have e31 : (S 31) = (s 31) := funext (fun j => k 31 j rfl rfl)
  have e10 : (S 10) = (s 10) := funext (fun j => k 10 j rfl rfl)
  have e9 : (S 9) = (s 9) := funext (fun j => k 9 j rfl rfl)
  have e32 : (S 32) = (s 32) := funext (fun j => k 32 j rfl rfl)
  have e16 : (S 16) = (s 16) := funext (fun j => k 16 j rfl rfl)
  have e17 : (S 17) = (s 17) := funext (fun j => k 17 j rfl rfl)
  have e21 : (S 21) = (s 21) := funext (fun j => k 21 j rfl rfl)
  refine ⟨⟨by rw [e3]; exact t1, by rw [e4]; exact t2⟩, by rw [e34]; exact a1, by rw [e35]; exact a2, by rw [e21]; exact a3, by rw [e15]; exact a4, ?_, by rw [e31]; exact a6, by rw [e10]; exact a7, ?_, by rw [e17]; exact b1, by rw [e16]; exact b2, by rw [e32]; exact b3, hV⟩
  · unfold NMo; rw [e18, e19]; exact a5
  · unfold VTy; rw [e9, e10]; exact a8
theorem gi_mk (h : GLI σ τ vs) (old : OLD σ S) (olk : OLK σ S) (arg : ARG S t) (nug : NUG S z) (eng : ENG S) (new : (S 0 35).toInt = (σ 0 35).toInt ∨ ((S 0 35).toInt = (σ 0 35).toInt + 1 ∧ OBJ S (σ 0 35).toNatClampNeg)) (hp : (S 40) = (σ 40) ∧ (S 0 67) = (σ 0 67)) (mis : (S 0 88) = (σ 0 88) ∧ (S 0 91) = (σ 0 91)) : GLI S t z := by
  obtain ⟨h1, h2, h3, h4, h5, h6, h7⟩ := h
  have n := nt h1.2.1.1
  refine ⟨nug, eng, arg, fun o ho => ?_, ?_, lnk_old old olk h2 h4 h6, ?_⟩
  · by_cases c : (o : Int) < (σ 0 35).toInt
    · exact obj_old old h2 h4 c
    · rcases new with q | ⟨q, ob⟩
      · omega
      · have e : o = (σ 0 35).toNatClampNeg := by omega
        rw [e]; exact ob
  · obtain ⟨p1, p2, p3⟩ := h5
    unfold PCK
    rw [hp.1, hp.2]
    have := old.2.2.2.2.2.2
    exact ⟨p1, fun k hk => by have := p2 k hk; omega, p3⟩
  · unfold MIS
    rw [mis.1, mis.2]
    exact h7
theorem good_start (hE : (σ 0 36).toInt = Fi σ) (h0 : 0 ≤ (σ 0 39).toInt) : GOODu σ (σ 0 39).toInt := ⟨⟨h0, 0, by omega, fun j hj => absurd hj (Nat.not_lt_zero _)⟩, fun e e1 e2 => by omega⟩
end CMP
/-! the state in which a unit is read -/
section CMQ
variable {σ σ0 τ : St} {vs : List Nat}
abbrev K0c (σ s : St) : Prop := Kp [(0, 9), (0, 1), (0, 14), (0, 37), (0, 12), (0, 15), (0, 53), (0, 54), (0, 49)] [] σ s
theorem rs0_gi (h : GLI σ τ vs) (hF : (σ 0 2).toInt ≤ 10240) (ho : (σ 0 35).toInt < 100) (k : K0c σ σ0) (e9 : (σ0 0 9) = (σ 0 1)) (e37 : (σ0 0 37) = 0) (e12 : (σ0 0 12) = 0) (e15 : (σ0 0 15) = 0) (e53 : (σ0 0 53) = 0) (e49 : (σ0 0 49) = 0) : RS0 σ0 τ vs ∧ (σ 0 36).toInt = Fi σ0 ∧ Fi σ0 ≤ 100 * (σ 0 35).toInt := by
  obtain ⟨⟨⟨t1, t2⟩, ⟨o1, o2⟩, ⟨n1, n2⟩, ⟨w1, w2⟩, ⟨i1, i2⟩, v1, ⟨b1, b2⟩⟩, ⟨g1, g2, g3, g4⟩, ⟨⟨r1, r2⟩, a1, a2, a3, a4, a5, a6, a7, a8, c1, c2, c3, hV⟩, -⟩ := h
  have a : ∀ c, c ≠ 0 → σ0 c = σ c := fun c c0 => funext (fun j => k c j (by
    cases e : (([(0, 9), (0, 1), (0, 14), (0, 37), (0, 12), (0, 15), (0, 53), (0, 54), (0, 49)] : List (Nat × Nat)).contains (c, j)) with
    | false => rfl
    | true =>
      have := List.contains_iff_mem.mp e
      simp at this
      omega) rfl)
  have f35 : (σ0 0 35) = (σ 0 35) := k _ _ rfl rfl
  have f36 : (σ0 0 36) = (σ 0 36) := k _ _ rfl rfl
  have f17 : (σ0 0 17) = (σ 0 17) := k _ _ rfl rfl
  have f39 : (σ0 0 39) = (σ 0 39) := k _ _ rfl rfl
  have f31 : (σ0 0 31) = (σ 0 31) := k _ _ rfl rfl
  have f45 : (σ0 0 45) = (σ 0 45) := k _ _ rfl rfl
  have z0 : (0 : Int32).toInt = 0 := by decide
  have eF : Fi σ0 = (σ 0 36).toInt := by unfold Fi; rw [f35, a 22 (by decide), ← g1]
  refine ⟨⟨by rw [e9]; exact ⟨t1, t2⟩, ⟨by rw [a 3 (by decide)]; exact r1, by rw [a 4 (by decide)]; exact r2⟩, ⟨⟨by rw [f35]; omega, by rw [eF, f36]; omega, by rw [e53, e49, z0]; decide, by rw [e37, z0]; decide, by rw [f17]; exact w1, by rw [f39]; exact i1, by rw [e15, z0]; decide⟩, ⟨by rw [a 34 (by decide)]; exact a1, by rw [a 35 (by decide)]; exact a2, by rw [a 21 (by decide)]; exact a3, by rw [a 15 (by decide)]; exact a4, ?_, by rw [a 31 (by decide)]; exact a6, by rw [a 10 (by decide)]; exact a7, ?_, fun j hj => ?_, by rw [a 17 (by decide)]; exact c1, by rw [a 16 (by decide)]; exact c2, by rw [a 32 (by decide)]; exact c3⟩, hV⟩, by rw [e15, e12]; exact ⟨z0, z0⟩, by rw [f31, e9]; omega, by rw [f45, e9]; omega, by rw [f17, f39, e9]; omega⟩, eF.symm, by omega⟩
  · unfold NMo; rw [a 18 (by decide), a 19 (by decide)]; exact a5
  · unfold VTy; rw [a 9 (by decide), a 10 (by decide)]; exact a8
  · rw [e53, z0] at hj; omega
end CMQ
end

