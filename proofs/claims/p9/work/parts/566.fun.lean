/-! a function -/
section FUN
variable {σ s s' τ t t' : St} {vs z z' : List Nat}
theorem sp_isb {a : Int32} {Q : Int32 → Prop} (h : PA σ τ) (k : ∀ v : Int32, (v.toInt ≠ 0 → kd σ = ((32 : Int32) + a).toInt) → Q v) : wp_is a σ τ vs Q := sp_is h (fun q => k 1 (fun _ => q)) (fun _ => k 0 no0)
theorem sp_entityb {b : Int32} {Q : Int32 → Prop} (h : PA σ τ) (hb : 0 ≤ b.toInt ∧ b.toInt < 16002) (k : ∀ r : Int32, (0 ≤ r.toInt → Fi σ ≤ r.toInt ∧ r.toInt < (σ 0 36).toInt) → Q r) : wp_entity b σ τ vs Q := sp_entity h hb (k _ (fun c => absurd c (by decide))) (fun r r1 r2 => k r (fun _ => ⟨r1, r2⟩))
theorem sp_function {tk ty st : Int32} {Q T : St → St → List Nat → Prop} (h : PA σ τ) (hS : (σ 0 15).toInt = 0) (hB : NB σ vs) (ht : 0 ≤ tk.toInt ∧ tk.toInt < 16002) (hl : ((σ 3) tk.toNatClampNeg).toInt ≤ ((σ 4) tk.toNatClampNeg).toInt) (hn : 0 ≤ (σ 0 31).toInt ∧ (σ 0 31).toInt + (((σ 4) tk.toNatClampNeg).toInt - ((σ 3) tk.toNatClampNeg).toInt) ≤ 60000) (hty : -1 ≤ ty.toInt ∧ ty.toInt ≤ 10) (hb : 0 ≤ (σ 0 45).toInt ∧ (σ 0 45).toInt < 10000) (k : ∀ s t z, FNy σ vs s t z (-43) (((σ 4) tk.toNatClampNeg).toInt - ((σ 3) tk.toNatClampNeg).toInt) → Q s t z) (kT : ∀ s t z, UT σ vs s t z → T s t z) : wp_function tk ty st σ τ vs Q T := by
  unfold wp_function
  refine sp_head h (fun s1 hx hp1 => ?_) kT
  have v1 := vr_hd (vs := vs) h hn.1 hx.1 hx.2.1 hx.2.2.1
  have hP1 := v1.1.2.1
  have hd1 := hx.2.2.2
  have e3 : (s1 3) tk.toNatClampNeg = (σ 3) tk.toNatClampNeg := hx.1 3 _ rfl rfl
  have e4 : (s1 4) tk.toNatClampNeg = (σ 4) tk.toNatClampNeg := hx.1 4 _ rfl rfl
  have e31 : (s1 0 31) = (σ 0 31) := hx.1 0 31 rfl rfl
  have e31' : (s1 0 31).toInt = (σ 0 31).toInt := by rw [e31]
  have w1 : (s1 0 17) = (σ 0 17) := hx.1 0 17 rfl rfl
  have i1 : (s1 0 39) = (σ 0 39) := hx.1 0 39 rfl rfl
  have b1 : (s1 0 45) = (σ 0 45) := hx.1 0 45 rfl rfl
  have hn2 := hP1.2.2.1.2.1
  refine sp_isb hP1 (fun v7 hv7 => sp_entityb hP1 ht (fun e he => ?_))
  refine ⟨fun x5 s t z => τ = t ∧ vs = z ∧ FEx s1 s τ vs x5 ty (((σ 4) tk.toNatClampNeg).toInt - ((σ 3) tk.toNatClampNeg).toInt), ?_, fun c => ?_, fun c => ?_⟩
  rotate_left 1
  · refine sp_fnNew (J := fun x5 s t z => τ = t ∧ vs = z ∧ FEx s1 s τ vs x5 ty (((σ 4) tk.toNatClampNeg).toInt - ((σ 3) tk.toNatClampNeg).toInt)) hP1 hd1 ht (by rw [e3, e4]; exact hl) (by rw [e3, e4, e31]; exact hn) hty (fun r s fe => ?_)
    rw [e3, e4] at fe
    exact ⟨rfl, rfl, fe⟩
  · have he' := he c
    have rg : 0 ≤ e.toInt ∧ e.toInt < 10000 := by omega
    refine ⟨rg, fun y => y.toInt ≠ 0 → ((s1 9) e.toNatClampNeg).toInt = 2 ∧ ((s1 10) e.toNatClampNeg).toInt = ty.toInt ∧ ((s1 15) e.toNatClampNeg).toInt = (s1 0 64).toInt, fun y _ hy => sp_must ht (fun s hs hf => ⟨rfl, rfl, fe_tl hP1 hd1 (by omega) hs (fun q => by omega) he (fun _ f1 f2 => hy (hf f1 f2))⟩), True, fun _ => no0, fun _ => trivial, fun c2 => ?_⟩
    refine sp_isSameHead rg hd1 ⟨fun _ => trivial, no0⟩ (fun t1 t2 => ⟨no1, fun _ => ⟨rg, fun _ => trivial, fun _ => ⟨True, fun _ _ => ⟨c2, t1, t2⟩, fun _ => trivial, fun _ => ⟨rg, fun _ => trivial, fun _ => trivial⟩⟩⟩⟩)
  rintro x5 s _ _ ⟨rfl, rfl, fe⟩
  obtain ⟨u1, u2, u3, u4, u5, u6, u7, u8, u9, u10, u11, u12, u13, u14⟩ := fe
  have hPs := u1.2.1
  have uA := ur_tr v1.1 u1
  have bs : (s 0 45).toInt = (σ 0 45).toInt := by rw [u10.2, b1]
  have eF := ku_Fi u1.1
  have hnS := hPs.2.2.1.2.1
  have fb : FBx s x5 ty := ⟨u9, u11, fun q => by rw [eF]; exact u12 q, fun q f1 f2 => by rw [u10.1]; exact u13 q f1 f2⟩
  have gps : GPs σ s := gp_tr v1.2.2.1 u1.2.2.2.1 (ur_sil u1) (fun _ _ f q => u14 f q)
  have sz := ur_sz uA
  have hBs : NB s vs := by
    obtain ⟨x1, x2, x3⟩ := hB
    unfold NB
    rw [u3, u4, w1, i1, sz, u2]
    exact ⟨by omega, by omega, by omega⟩
  have silS : (s 0 15).toInt = 0 := by rw [ur_sil uA]; exact hS
  refine ⟨fun c7 => ?_, fun _ => ?_⟩
  rotate_left 1
  · refine sp_expect hPs (by decide) (fun hk ro po wo ico => ?_) (fun s' hs => kT _ _ _ (ut_ur uA (by omega) (ut_rt (rt_rtx hs))))
    have vn := vr_rl (c := 0) (by omega) ro ⟨by omega, by omega, by omega⟩ (by omega)
    have nbn := vn.2.2.2
    refine k _ _ _ ⟨ur_tr uA vn.1, ⟨by rw [wo, u3, w1]; omega, by rw [ico, u4, i1]; omega, by omega⟩, gp_tr gps ro.2.2.2.2.1 (rl_sil ro) vn.2.2.1, by omega, by show (s 0 45).toInt ≤ _; omega⟩
  refine ⟨fun s' t z => τ = t ∧ vs = z ∧ FPx s τ vs x5 s', ?_, fun c => ⟨rfl, rfl, fp_no hPs (fun q => by omega)⟩, fun c => ?_⟩
  rotate_left 1
  · have rg : 0 ≤ x5.toInt ∧ x5.toInt < 10000 := by have := u12 c; omega
    exact ⟨rg, fun c2 => ⟨rfl, rfl, fp_no hPs (fun q => c2 q.2)⟩, fun c2 => ⟨rg, rg, rfl, rfl, fp_yes hPs ⟨c, by rw [eF]; exact (u12 c).1⟩ (by omega)⟩⟩
  rintro sB _ _ ⟨rfl, rfl, fp⟩
  have hdB : HDs sB := hds_kd (kp_sub fp.2.1 rfl rfl) u9
  obtain ⟨y1, y2, y3, y4, y5, y6⟩ := fp_set (e := x5) (vs := vs) fp.1.2.1 rfl hdB
  refine sp_params y1.2.1 y2 y4 (fun s3 hq hl3 => sp_fnBody hPs silS hBs (by omega) (by rw [u5]; exact hv7 c7) (by omega) fb fp rfl hq hl3 (fun F t z fy => ?_) (fun s' t' z' hs => kT _ _ _ (ut_ur uA (by omega) hs)))
  obtain ⟨g1, ⟨c1, c2, c3⟩, g3, g4, g5⟩ := fy
  rw [u3, w1, u2] at c1
  rw [u4, i1, u2] at c2
  rw [u2] at c3
  exact k _ _ _ ⟨ur_tr uA g1, ⟨by omega, by omega, by omega⟩, gp_tr gps g1.2.2.2.1 (ur_sil g1) g3, by omega, by omega⟩
end FUN
