/-! variables outside of functions -/
def GPs (σ s : St) : Prop := (s 0 12).toInt = 0 → (s 0 15).toInt = 0 → ∀ f, GOODu σ f → GOODu s f
/-- what is kept outside of functions -/
def PU2 (σ : St) : Prop := (σ 0 15).toInt = 0 ∧ 0 ≤ (σ 0 31).toInt ∧ (σ 0 31).toInt + ((σ 0 9).toInt - pos σ) ≤ 60000
def VRx (σ : St) (vs : List Nat) (s t : St) (z : List Nat) (len : Int) : Prop := UR σ vs s t z ∧ NCt σ vs s z 0 ∧ GPs σ s ∧ (0 ≤ (s 0 31).toInt ∧ (s 0 31).toInt ≤ (σ 0 31).toInt + len ∧ (s 0 45).toInt = (σ 0 45).toInt)
section VAG
variable {σ s s' τ t t' : St} {vs z z' : List Nat}
theorem gp_tr (h : GPs σ s) (ho : OF s s') (hs : (s' 0 15) = (s 0 15)) (g : GPs s s') : GPs σ s' := fun f1 f2 f q => g f1 f2 f (h (of0 ho f1) (by rw [← hs]; exact f2) f q)
theorem vr_tr {l m : Int} (h : VRx σ vs s t z l) (g : VRx s z s' t' z' m) : VRx σ vs s' t' z' (l + m) := by
  obtain ⟨h1, h2, h3, h4, h5⟩ := h
  obtain ⟨g1, g2, g3, g4, g5⟩ := g
  exact ⟨ur_tr h1 g1, nct_tr (c := 0) (d := 0) h2 g2, gp_tr h3 g1.2.2.2.1 (ur_sil g1) g3, g4, by omega⟩
theorem vr_rl {c : Int} (hn : 0 ≤ (σ 0 31).toInt) (r : RL σ vs s t z) (n : NCt σ vs s z c) (hc : 0 ≤ c) : VRx σ vs s t z 0 := by
  have e : (s 0 31) = (σ 0 31) := r.1 0 31 rfl rfl
  have e2 : (s 0 45) = (σ 0 45) := r.1 0 45 rfl rfl
  exact ⟨ur_rs (rs_rl r), nct_le n hc, fun _ _ f q => good_rs (rs_rl r) q, by rw [e, e2]; omega⟩
theorem good_rg {f : Int} (r : RG σ vs s t z) (hi : ITp σ s) (h : GOODu σ f) : GOODu s f := by
  have f2 : (s 0 36) = (σ 0 36) := r.1 _ _ rfl rfl
  refine good_ur r.2 (hi f) (fun e e1 e2 e3 e4 => Or.inl ⟨by rw [← f2]; exact e2, ?_, r.1 17 e rfl rfl⟩) h
  have e9 : (s 13) e = (σ 13) e := r.1 13 e rfl rfl
  rw [← e9]; exact e4
theorem vr_tl (h : PA σ τ) (hn : 0 ≤ (σ 0 31).toInt) (hs : TL σ s) : VRx σ vs s τ vs 0 := by
  have sq := sq_tl hs
  have r := sq_rl (vs := vs) h sq
  exact vr_rl hn r ⟨by have := sq.2.2.2.2; rw [pos_sq sq]; omega, by rw [ic_sq sq, pos_sq sq]; omega, by rw [pos_sq sq]; omega⟩ (Int.le_refl _)
theorem vr_nb {l : Int} (h : NB σ vs) (r : VRx σ vs s t z l) : NB s z := by
  obtain ⟨h1, h2, h3⟩ := h
  obtain ⟨r1, ⟨n1, n2, n3⟩, -⟩ := r
  have e := ur_sz r1
  unfold NB
  rw [e]
  exact ⟨by omega, by omega, by omega⟩
theorem sp_lay {e tk c : Int32} {Q : St → St → List Nat → Prop} (h : PA σ τ) (hn : 0 ≤ (σ 0 31).toInt) (ht : 0 ≤ tk.toInt ∧ tk.toInt < 16002) (he : Fi σ ≤ e.toInt ∧ e.toInt < (σ 0 36).toInt ∧ ((σ 9) e.toNatClampNeg).toInt = 1) (hc : 1 ≤ c.toInt ∧ c.toInt ≤ 4000) (k : ∀ s, VRx σ vs s τ vs 0 → ((s 0 12).toInt = 0 → (s 0 15).toInt = 0 → ((s 17) e.toNatClampNeg).toInt + c.toInt ≤ (s 0 37).toInt) → (s 0 36) = (σ 0 36) → kd s = kd σ → pos s = pos σ → Q s τ vs) : wp_lay e tk c σ τ vs Q := by
  have h9 := h
  obtain ⟨hT, hA, ⟨n1, n2, n3, n4, n5, n6, n7⟩, ⟨a1, a2, a3, a4, a5, a6, a7, a8, a9, b1, b2, b3⟩, hV⟩ := h9
  have ed : ((σ 0 37) + c).toInt = (σ 0 37).toInt + c.toInt := ad (by omega) (by omega)
  have nn : (e.toNatClampNeg : Int) = e.toInt := nt (by omega)
  have nb : (vp_nar .boolean (1 : Int32)) = 1 := by decide
  have key : ∀ s, Kp [(0, 12), (0, 13), (0, 37)] [13, 17] σ s → (∀ j, (s 13) j = if j = e.toNatClampNeg then 1 else (σ 13) j) → (∀ j, (s 17) j = if j = e.toNatClampNeg then (σ 0 37) else (σ 17) j) → ((σ 0 37).toInt ≤ (s 0 37).toInt ∧ (s 0 37).toInt ≤ 16000) → OF σ s → ((s 0 12).toInt = 0 → (s 0 15).toInt = 0 → (σ 0 37).toInt + c.toInt ≤ (s 0 37).toInt) → Q s τ vs := fun s kk x13 x17 hd ho hok => by
    have a21 : (s 21) = (σ 21) := funext (fun j => kk 21 j rfl rfl)
    have a15 : (s 15) = (σ 15) := funext (fun j => kk 15 j rfl rfl)
    have a18 : (s 18) = (σ 18) := funext (fun j => kk 18 j rfl rfl)
    have a19 : (s 19) = (σ 19) := funext (fun j => kk 19 j rfl rfl)
    have a10 : (s 10) = (σ 10) := funext (fun j => kk 10 j rfl rfl)
    have a9' : (s 9) = (σ 9) := funext (fun j => kk 9 j rfl rfl)
    have a16 : (s 16) = (σ 16) := funext (fun j => kk 16 j rfl rfl)
    have e36 : (s 0 36) = (σ 0 36) := kk _ _ rfl rfl
    have e31 : (s 0 31) = (σ 0 31) := kk _ _ rfl rfl
    have e45 : (s 0 45) = (σ 0 45) := kk _ _ rfl rfl
    obtain ⟨u1, u2, u3, u4, u5⟩ := ur_kd (vs := vs) h (kp_sub kk rfl rfl) (by rw [e36]; omega) hd (by rw [a21]; exact a3) (by rw [a15]; exact a4) (by unfold NMo; rw [a18, a19]; exact a5) (by rw [a10]; exact a7) (by unfold VTy; rw [a9', a10]; exact a8) (fun j => by
      rw [x17]
      split
      · exact n4
      · exact b1 j) (by rw [a16]; exact b2) ho ⟨fun j _ => ⟨kk 9 j rfl rfl, kk 10 j rfl rfl, kk 15 j rfl rfl, kk 12 j rfl rfl, fun q => by rw [kk 14 j rfl rfl]; exact q⟩, fun n _ q => by rw [a21]; exact q, fun j hj => ⟨by rw [x13, if_neg (by omega)], by rw [x17, if_neg (by omega)]⟩⟩
    refine k s ⟨u1, ⟨by rw [u3, u2]; omega, by rw [u4, u2]; omega, by rw [u2]; omega⟩, fun f1 f2 f hg => good_ur u1 (fun q => itd_le (itd_of (funext (fun j => kk 25 j rfl rfl)) u4 q) hd.1) (fun j j1 j2 j3 j4 => Or.inl ?_) hg, by rw [e31, e45]; omega⟩ (fun f1 f2 => by rw [x17, if_pos rfl]; exact hok f1 f2) e36 u5 u2
    have ne : j ≠ e.toNatClampNeg := fun q => by
      rw [q, a9', he.2.2] at j3
      exact absurd j3 (by decide)
    rw [x13, if_neg ne] at j4
    rw [e36] at j2
    exact ⟨j2, j4, by rw [x17, if_neg ne]⟩
  unfold wp_lay
  refine ⟨by omega, by omega, fun c2 => ?_, fun c2 => sp_tell (by decide) ht (fun s hs hf => ?_)⟩
  · rw [ed] at c2
    refine key _ (kp_f (kp_a (kp_a kp_rf rfl) rfl) rfl) (fun j => ?_) (fun j => ?_) ?_ (Or.inl rfl) (fun _ _ => ?_)
    · simp only [rdC, Nat.reduceEqDiff, if_true, if_false, nb]
    · simp only [rdC, Nat.reduceEqDiff, if_true, if_false]
    · rw [rdA_eq rfl, ed]; omega
    · rw [rdA_eq rfl, ed]; omega
  · have k1 := hs.1
    refine key s (kp_tr (kp_a (kp_a kp_rf rfl) rfl) (kp_sub k1 rfl rfl)) (fun j => ?_) (fun j => ?_) ?_ hs.2 (fun f1 f2 => (hf f1 f2).elim)
    · rw [k1 13 j rfl rfl]
      simp only [rdC, Nat.reduceEqDiff, if_true, if_false, nb]
    · rw [k1 17 j rfl rfl]
      simp only [rdC, Nat.reduceEqDiff, if_true, if_false]
    · have e37 : (s 0 37) = (σ 0 37) := (k1 0 37 rfl rfl)
      rw [e37]; omega
theorem sp_variableG {tk ty a3 a4 f : Int32} {Q : St → St → List Nat → Prop} {T : St → St → List Nat → Prop} (h : PA σ τ) (hS : (σ 0 15).toInt = 0) (hB : NB σ vs) (ht : 0 ≤ tk.toInt ∧ tk.toInt < 16002) (hl : ((σ 3) tk.toNatClampNeg).toInt ≤ ((σ 4) tk.toNatClampNeg).toInt) (hn : 0 ≤ (σ 0 31).toInt ∧ (σ 0 31).toInt + (((σ 4) tk.toNatClampNeg).toInt - ((σ 3) tk.toNatClampNeg).toInt) ≤ 60000) (hty : 0 ≤ ty.toInt ∧ ty.toInt ≤ 10) (hf : f.toInt = 0) (k : ∀ s t z, VRx σ vs s t z (((σ 4) tk.toNatClampNeg).toInt - ((σ 3) tk.toNatClampNeg).toInt) → Q s t z) (kT : ∀ s t z, UT σ vs s t z → T s t z) : wp_variable tk ty a3 a4 f σ τ vs Q T := by
  have htk := at_tok h.1 h.2.1
  unfold wp_variable
  have cut : ∀ {s t z l}, VRx σ vs s t z l → ∀ s' t' z', UT s z s' t' z' → T s' t' z' := fun vr s' t' z' hs => kT _ _ _ (ut_ur vr.1 vr.2.1.2.2 hs)
  have cutl : ∀ {s t z l}, RL σ vs s t z → NCt σ vs s z l → ∀ s' t' z', RTt s z s' t' z' → T s' t' z' := fun r nc s' t' z' hs => kT _ _ _ (ut_rt (rt_rs (rs_rl r) nc.2.2 hs))
  refine sp_is h (fun hk => ⟨fun x6 x7 x8 s t z => (x6.toInt < 0 ∨ (0 ≤ x6.toInt ∧ x6.toInt < 16002)) ∧ RL σ vs s t z ∧ NCt σ vs s z 0, ?_, no1, fun _ => ?_⟩) (fun hk => ⟨fun x6 x7 x8 s t z => (x6.toInt < 0 ∨ (0 ≤ x6.toInt ∧ x6.toInt < 16002)) ∧ RL σ vs s t z ∧ NCt σ vs s z 0, ?_, fun _ => ?_, no0⟩)
  case refine_4 => exact ⟨Or.inl (by decide), rl_rf h, nct_rf⟩
  case refine_2 =>
    have hk2 : kd σ = 56 := hk
    obtain ⟨rn, pn, wn, icn⟩ := rl_nxt (vs := vs) h (by omega)
    have hPn := rn.2.1
    have ncn : NCt σ vs (nxt σ) vs 40 := ⟨by omega, by omega, by omega⟩
    rw [show upC σ 0 10 ((σ 0 10) + (1 : Int32)) = nxt σ from rfl]
    have fin : ∀ (y48 y63 : Int32) s t z, RL (nxt σ) vs s t z → NCt (nxt σ) vs s z 0 → wp_expect (25 : Int32) s t z (fun s68 t68 z68 => (y48.toInt ≠ 0 → (((σ 0 10).toInt < 0 ∨ (0 ≤ (σ 0 10).toInt ∧ (σ 0 10).toInt < 16002)) ∧ RL σ vs s68 t68 z68 ∧ NCt σ vs s68 z68 0)) ∧ (y48.toInt = 0 → wp_is (30 : Int32) s68 t68 z68 (fun v79 => (v79.toInt = 0 → (((σ 0 10).toInt < 0 ∨ (0 ≤ (σ 0 10).toInt ∧ (σ 0 10).toInt < 16002)) ∧ RL σ vs s68 t68 z68 ∧ NCt σ vs s68 z68 0)) ∧ (v79.toInt ≠ 0 → wp_told s68 t68 z68 (fun v86 => (((σ 0 10).toInt < 0 ∨ (0 ≤ (σ 0 10).toInt ∧ (σ 0 10).toInt < 16002)) ∧ RL σ vs s68 t68 z68 ∧ NCt σ vs s68 z68 0)))))) T := fun y48 y63 s t z r nc => by
      have rA := rl_tr rn r
      have nc2 := nct_tr ncn nc
      refine sp_expect r.2.1 (by decide) (fun hk3 ro po wo ico => ?_) (fun s' hs => cutl rA nc2 _ _ _ (rt_rtx hs))
      have ncf : NCt σ vs (nxt s) z 0 := by
        obtain ⟨n1, n2, n3⟩ := nc2
        exact ⟨by omega, by omega, by omega⟩
      have res : (((σ 0 10).toInt < 0 ∨ (0 ≤ (σ 0 10).toInt ∧ (σ 0 10).toInt < 16002)) ∧ RL σ vs (nxt s) t z ∧ NCt σ vs (nxt s) z 0) := ⟨Or.inr htk, rl_tr rA ro, ncf⟩
      exact ⟨fun _ => res, fun _ => sp_is ro.2.1 (fun hk4 => ⟨no1, fun _ => sp_told ro.2.1 (by have : kd (nxt s) = 62 := hk4; omega) (fun _ => res)⟩) (fun _ => ⟨fun _ => res, no0⟩)⟩
    refine sp_is hPn (fun hk3 => ⟨fun y => y.toInt = 0, fun y48 _ hy => ?_, fun _ => rfl, no1⟩) (fun hk3 => ⟨fun y => y.toInt ≠ 0, fun y48 _ hy => ?_, no0, fun _ => by decide⟩)
    · exact ⟨fun y63 s t z => RL (nxt σ) vs s t z ∧ NCt (nxt σ) vs s z 0, fun y63 s t z ⟨a1, a2⟩ => fin y48 y63 s t z a1 a2, fun _ => ⟨rl_rf hPn, nct_rf⟩, fun c => absurd hy c⟩
    · refine ⟨fun y63 s t z => RL (nxt σ) vs s t z ∧ NCt (nxt σ) vs s z 0, fun y63 s t z ⟨a1, a2⟩ => fin y48 y63 s t z a1 a2, fun c => absurd c hy, fun _ => ?_⟩
      exact sp_sizeAt hPn hS (nb_of hB rn (by omega) (by omega) (by omega)) (fun r s t z r1 nc p hw9 => ⟨r1, nc⟩) (fun s' t' z' hs => cutl rn ncn _ _ _ hs)
  all_goals
    rintro x6 x7 x8 s1 t1 z1 - ⟨hx6, r1, nc1⟩
    have hP1 := r1.2.1
    have v1 : VRx σ vs s1 t1 z1 0 := vr_rl hn.1 r1 nc1 (Int.le_refl _)
    have etos : (s1 4) tk.toNatClampNeg = (σ 4) tk.toNatClampNeg := r1.1 4 _ rfl rfl
    have efr : (s1 3) tk.toNatClampNeg = (σ 3) tk.toNatClampNeg := r1.1 3 _ rfl rfl
    have enb : (s1 0 31) = (σ 0 31) := r1.1 0 31 rfl rfl
    have eF1 := ku_Fi v1.1.1
    generalize hlen : ((σ 4) tk.toNatClampNeg).toInt - ((σ 3) tk.toNatClampNeg).toInt = len at *
    refine ⟨fun y => y.toInt ≠ 0 → x6.toInt < 0 ∨ x7.toInt ≤ 4000, fun y119 _ hy119 => ⟨fun y => y.toInt ≤ 4000, fun y141 hy141 => ⟨fun y s t z => VRx σ vs s t z len ∧ (y.toInt < 0 → (s 0 12).toInt = 0 → (s 0 15).toInt = 0 → False) ∧ (0 ≤ y.toInt → Fi s ≤ y.toInt ∧ y.toInt < (s 0 36).toInt ∧ ((s 9) y.toNatClampNeg).toInt = 1), ?_, fun _ => ?_, fun c => absurd hf c⟩, fun c => ⟨fun _ => by decide, fun c2 => ?_⟩, fun _ => by decide⟩, ?_⟩
    rotate_left 1
    · refine sp_globalName hP1 ht (by rw [efr, etos]; exact hl) (by rw [efr, etos, enb]; omega) hty (fun r s gn => ?_)
      rw [efr, etos, hlen] at gn
      obtain ⟨u1, u2, u3, u4, u5, u6, u7, u8, u9, u10, u11⟩ := gn
      have v2 : VRx s1 z1 s t1 z1 len := ⟨u1, ⟨by rw [u3, u2]; omega, by rw [u4, u2]; omega, by rw [u2]; omega⟩, fun _ _ f q => u11 f q, by have := v1.2.2.2; omega⟩
      have v3 := vr_tr v1 v2
      rw [Int.zero_add] at v3
      exact ⟨v3, u9, fun c => by rw [ku_Fi u1.1]; exact u10 c⟩
    · rcases hy119 c2 with q | q
      · omega
      · exact q
    · exact ⟨x6.toInt < 0 ∨ x7.toInt ≤ 4000, fun c _ => c, fun c => Or.inl c, fun _ => ⟨True, fun _ => no0, fun _ => trivial, fun _ => ⟨fun _ => trivial, fun c => Or.inr c⟩⟩⟩
    rintro y170 s2 t2 z2 ⟨v2, f2, g2⟩
    have tl : ∀ (s t : St) (z : List Nat), VRx σ vs s t z len ∧ (y170.toInt < 0 → (s 0 12).toInt = 0 → (s 0 15).toInt = 0 → False) ∧ (0 ≤ y170.toInt → Fi s ≤ y170.toInt ∧ y170.toInt < (s 0 36).toInt ∧ ((s 9) y170.toNatClampNeg).toInt = 1) → ∀ s', TL s s' → VRx σ vs s' t z len ∧ (y170.toInt < 0 → (s' 0 12).toInt = 0 → (s' 0 15).toInt = 0 → False) ∧ (0 ≤ y170.toInt → Fi s' ≤ y170.toInt ∧ y170.toInt < (s' 0 36).toInt ∧ ((s' 9) y170.toNatClampNeg).toInt = 1) := fun s t z ⟨b1, b3, b4⟩ s' hs => by
      have vt := vr_tl (vs := z) b1.1.2.1 b1.2.2.2.1 hs
      have v9 := vr_tr b1 vt
      rw [Int.add_zero] at v9
      have e1 : (s' 0 36) = _ := hs.1 0 36 rfl rfl
      have e2 : (s' 9) y170.toNatClampNeg = _ := hs.1 9 _ rfl rfl
      have e4 : (s' 0 15) = _ := hs.1 0 15 rfl rfl
      exact ⟨v9, fun c f1 f2 => b3 c (of0 hs.2 f1) (by rw [← e4]; exact f2), by rw [ku_Fi vt.1.1, e1, e2]; exact b4⟩
    refine ⟨fun s t z => VRx σ vs s t z len ∧ (y170.toInt < 0 → (s 0 12).toInt = 0 → (s 0 15).toInt = 0 → False) ∧ (0 ≤ y170.toInt → Fi s ≤ y170.toInt ∧ y170.toInt < (s 0 36).toInt ∧ ((s 9) y170.toNatClampNeg).toInt = 1), ?_, fun _ => ⟨v2, f2, g2⟩, fun c6 => ?_⟩
    rotate_left 1
    · have hx6' : 0 ≤ x6.toInt ∧ x6.toInt < 16002 := by omega
      refine ⟨fun s t z => VRx σ vs s t z len ∧ (y170.toInt < 0 → (s 0 12).toInt = 0 → (s 0 15).toInt = 0 → False) ∧ (0 ≤ y170.toInt → Fi s ≤ y170.toInt ∧ y170.toInt < (s 0 36).toInt ∧ ((s 9) y170.toNatClampNeg).toInt = 1), ?_, fun _ => ⟨v2, f2, g2⟩, fun _ => sp_tell (by decide) hx6' (fun s hs _ => tl _ _ _ ⟨v2, f2, g2⟩ s hs)⟩
      rintro s3 t3 z3 b
      refine ⟨fun _ => True, fun y _ _ => sp_must hx6' (fun s hs _ => tl _ _ _ b s hs), ⟨True, fun _ => trivial, fun _ => trivial, fun _ => ⟨True, fun _ => trivial, fun _ => trivial, fun _ => ⟨fun _ => trivial, fun _ => ⟨fun _ => trivial, fun _ => sp_is b.1.1.2.1 (fun _ => ⟨fun _ => trivial, fun _ => trivial⟩) (fun _ => ⟨fun _ => trivial, fun _ => trivial⟩)⟩⟩⟩⟩⟩
    rintro s3 t3 z3 ⟨v3, f3, g3⟩
    have hP3 := v3.1.2.1
    have hmx := mx1 hy141
    -- its cells
    refine ⟨fun s t z => VRx σ vs s t z len ∧ (y170.toInt < 0 → (s 0 12).toInt = 0 → (s 0 15).toInt = 0 → False) ∧ (0 ≤ y170.toInt → y170.toInt < 10000) ∧ (a4.toInt = 0 → 0 ≤ y170.toInt → (s 0 12).toInt = 0 → (s 0 15).toInt = 0 → ((s 17) y170.toNatClampNeg).toInt + (if y141 < (1 : Int32) then (1 : Int32) else y141).toInt ≤ (s 0 37).toInt), ?_, fun c => absurd hf c, fun _ => ⟨fun c => ⟨v3, f3, fun c2 => by omega, fun _ c2 => by omega⟩, fun c => ⟨fun c4 => ⟨v3, f3, fun _ => ?_, fun c5 => absurd c5 c4⟩, fun c4 => ?_⟩⟩⟩
    rotate_left 1
    · have := g3 c
      have := hP3.2.2.1.2.1
      omega
    · refine sp_lay hP3 v3.2.2.2.1 ht (g3 c) hmx (fun s4 v4 w4 e4 k4 p4 => ?_)
      have v9 := vr_tr v3 v4
      rw [Int.add_zero] at v9
      have := g3 c
      have := hP3.2.2.1.2.1
      exact ⟨v9, fun c2 => by omega, fun _ => by omega, fun _ _ f1 f2 => w4 f1 f2⟩
    rintro s4 t4 z4 ⟨v4, f4, g4, w4⟩
    refine ⟨fun s t z => VRx σ vs s t z len ∧ (y170.toInt < 0 → (s 0 12).toInt = 0 → (s 0 15).toInt = 0 → False) ∧ (0 ≤ y170.toInt → y170.toInt < 10000) ∧ (a4.toInt = 0 → 0 ≤ y170.toInt → (s 0 12).toInt = 0 → (s 0 15).toInt = 0 → ((s 17) y170.toNatClampNeg).toInt + (if y141 < (1 : Int32) then (1 : Int32) else y141).toInt ≤ (s 0 37).toInt), ?_, fun _ => ⟨v4, f4, g4, w4⟩, fun c => absurd hf c⟩
    rintro s5 t5 z5 ⟨v5, f5, g5, w5⟩
    have hP5 := v5.1.2.1
    refine sp_is hP5 (fun hk5 => ⟨fun _ => ?_, no1⟩) (fun _ => ⟨no0, fun _ => k _ _ _ v5⟩)
    have hk5' : kd s5 = 62 := hk5
    have htk5 := at_tok hP5.1 hP5.2.1
    obtain ⟨rn, pn, wn, icn⟩ := rl_nxt (vs := z5) hP5 (by omega)
    have hPn := rn.2.1
    rw [show upC s5 0 10 ((s5 0 10) + (1 : Int32)) = nxt s5 from rfl]
    have vn : VRx s5 z5 (nxt s5) t5 z5 0 := vr_rl (c := 40) v5.2.2.2.1 rn ⟨by omega, by omega, by omega⟩ (by omega)
    have v6 := vr_tr v5 vn
    rw [Int.add_zero] at v6
    have hBn := vr_nb hB v6
    have fin : ∀ (v : Int32) (cells : Int) s t z, cells ≤ (if y141 < (1 : Int32) then (1 : Int32) else y141).toInt → (v = 0 ∨ v = 1) → GRel (nxt s5) z5 y170 cells v s t z → (∃ J361 : Int32 → Prop, (∀ (y1_361 : Int32), y1_361 = 0 ∨ y1_361 = 1 → J361 y1_361 → (wp_must y1_361 (s5 0 10) s t z (fun s363 t363 z363 => Q s363 t363 z363))) ∧ (∃ J360 : Prop, (J360 → (J361 (0 : Int32))) ∧ (v.toInt = 0 → J360) ∧ (v.toInt ≠ 0 → (a4.toInt ≠ 0 → J360) ∧ (a4.toInt = 0 → J361 (1 : Int32))))) := fun v cells s t z hcl hv ⟨r, nc, it⟩ => by
      refine ⟨fun y => y.toInt ≠ 0 → v.toInt ≠ 0 ∧ a4.toInt = 0, fun y _ hy => sp_must htk5 (fun s6 hs hf6 => ?_), ⟨True, fun _ => no0, fun _ => trivial, fun c => ⟨fun _ => trivial, fun c2 _ => ⟨c, c2⟩⟩⟩⟩
      have nb7 : ((nxt s5) 0 31).toInt = (s 0 31).toInt := by rw [r.1 0 31 rfl rfl]
      have nb8 : ((nxt s5) 0 45).toInt = (s 0 45).toInt := by rw [r.1 0 45 rfl rfl]
      have vt := vr_tl (vs := z) r.2.2.1 (by rw [← nb7]; exact v6.2.2.2.1) hs
      have vg : VRx (nxt s5) z5 s6 t z 0 := by
        refine ⟨ur_tr r.2 vt.1, nct_tr (c := 0) (d := 0) nc vt.2.1, fun f1 f2 f hg => ?_, by have := vt.2.2.2; omega⟩
        obtain ⟨d1, d2⟩ := hy (hf6 f1 f2)
        have ok6 : ∀ q : Nat, True := fun _ => trivial
        have s6s : (s6 0 15) = ((nxt s5) 0 15) := (hs.1 0 15 rfl rfl).trans (ur_sil r.2)
        have fo : ((nxt s5) 0 12).toInt = 0 := of0 r.2.2.2.2.1 (of0 hs.2 f1)
        have so : ((nxt s5) 0 15).toInt = 0 := by rw [← s6s]; exact f2
        have y0 : 0 ≤ y170.toInt := by
          by_cases c : y170.toInt < 0
          · exact (f5 c fo so).elim
          · omega
        have := w5 d2 y0 fo so
        exact vt.2.2.1 f1 f2 f (good_rg r (it d1 y0 (by show ((s5 17) y170.toNatClampNeg).toInt + cells ≤ (s5 0 37).toInt; omega)) hg)
      have v9 := vr_tr v6 vg
      rw [Int.add_zero] at v9
      exact k _ _ _ v9
    refine ⟨fun v s t z => (v = 0 ∨ v = 1) ∧ ∃ cells : Int, cells ≤ (if y141 < (1 : Int32) then (1 : Int32) else y141).toInt ∧ GRel (nxt s5) z5 y170 cells v s t z, fun v s t z _ ⟨hv, cells, hcl, hr⟩ => fin v cells s t z hcl hv hr, fun c6 => ?_, fun c6 => ?_⟩
    · exact sp_oneInitialG hPn hBn hf g5 (fun v s t z hv hr => ⟨hv, 1, hmx.1, hr⟩) (fun s' t' z' hs => cut v6 _ _ _ hs)
    · exact sp_rowInitialG hPn hBn hf g5 (fun v s t z hv hr => ⟨hv, _, Int.le_refl _, hr⟩) (fun s' t' z' hs => cut v6 _ _ _ hs)
end VAG
