/-! the head of a function -/
abbrev KHd (σ s : St) : Prop := Kp [(0, 10), (0, 64)] [37, 38, 39] σ s
def HDs (s : St) : Prop := (0 ≤ (s 0 64).toInt ∧ (s 0 64).toInt ≤ 8) ∧ ∀ k : Nat, (k : Int) < (s 0 64).toInt → (0 ≤ ((s 37) k).toInt ∧ ((s 37) k).toInt ≤ 10) ∧ (-1 ≤ ((s 38) k).toInt ∧ ((s 38) k).toInt < 16002) ∧ (0 ≤ ((s 39) k).toInt ∧ ((s 39) k).toInt < 16002)
def HX (σ s : St) : Prop := KHd σ s ∧ AtOK s ∧ pos σ ≤ pos s ∧ HDs s
section HED
variable {σ s s' τ t t' : St} {vs z z' : List Nat}
theorem ur_hd (h : PA σ τ) (k : KHd σ s) (ha : AtOK s) (hp : pos σ ≤ pos s) : UR σ vs s τ vs := by
  obtain ⟨hT, hA, ⟨n1, n2, n3, n4, n5, n6, n7⟩, ⟨a1, a2, a3, a4, a5, a6, a7, a8, a9, b1, b2, b3⟩, hV⟩ := h
  have f1 : (s 0 35) = (σ 0 35) := k _ _ rfl rfl
  have f3 : (s 0 12) = (σ 0 12) := k _ _ rfl rfl
  have f4 : (s 0 36) = (σ 0 36) := k _ _ rfl rfl
  have f5 : (s 0 15) = (σ 0 15) := k _ _ rfl rfl
  have f6 : (s 0 37) = (σ 0 37) := k _ _ rfl rfl
  have f7 : (s 0 17) = (σ 0 17) := k _ _ rfl rfl
  have f8 : (s 0 39) = (σ 0 39) := k _ _ rfl rfl
  have f9 : (s 0 53) = (σ 0 53) := k _ _ rfl rfl
  have f10 : (s 0 49) = (σ 0 49) := k _ _ rfl rfl
  have f11 : (s 0 45) = (σ 0 45) := k _ _ rfl rfl
  have e34 : (s 34) = (σ 34) := funext (fun j => k 34 j rfl rfl)
  have e35 : (s 35) = (σ 35) := funext (fun j => k 35 j rfl rfl)
  have e31 : (s 31) = (σ 31) := funext (fun j => k 31 j rfl rfl)
  have e32 : (s 32) = (σ 32) := funext (fun j => k 32 j rfl rfl)
  have e21 : (s 21) = (σ 21) := funext (fun j => k 21 j rfl rfl)
  have e15 : (s 15) = (σ 15) := funext (fun j => k 15 j rfl rfl)
  have e18 : (s 18) = (σ 18) := funext (fun j => k 18 j rfl rfl)
  have e19 : (s 19) = (σ 19) := funext (fun j => k 19 j rfl rfl)
  have e10 : (s 10) = (σ 10) := funext (fun j => k 10 j rfl rfl)
  have e9 : (s 9) = (σ 9) := funext (fun j => k 9 j rfl rfl)
  have e17 : (s 17) = (σ 17) := funext (fun j => k 17 j rfl rfl)
  have e16 : (s 16) = (σ 16) := funext (fun j => k 16 j rfl rfl)
  have eK : KU σ s := kp_sub k rfl rfl
  have eF := ku_Fi eK
  refine ⟨eK, ⟨tk_kp k rfl rfl ⟨rfl, rfl, rfl, rfl, rfl⟩ rfl hT, ha, ⟨by rw [f1]; exact n1, by rw [eF, f4]; exact n2, by rw [f9, f10]; exact n3, by rw [f6]; exact n4, by rw [f7]; exact n5, by rw [f8]; exact n6, by rw [f5]; exact n7⟩, ⟨by rw [e34]; exact a1, by rw [e35]; exact a2, by rw [e21]; exact a3, by rw [e15]; exact a4, by unfold NMo; rw [e18, e19]; exact a5, by rw [e31]; exact a6, by rw [e10]; exact a7, by unfold VTy; rw [e9, e10]; exact a8, by unfold HLd; rw [e35, f9, f10]; exact a9, by rw [e17]; exact b1, by rw [e16]; exact b2, by rw [e32]; exact b3⟩, hV⟩, fun j _ => k 8 j rfl rfl, of_eq f3, ⟨by rw [f7]; exact Int.le_refl _, by rw [f8]; exact Int.le_refl _, hp, by rw [f4]; exact Int.le_refl _, by rw [f11]; exact Int.le_refl _, by rw [f6]; exact Int.le_refl _⟩, fun _ h => h, Nat.le_refl _, fun j _ => k 25 j rfl rfl, ⟨fun j _ => ⟨k 9 j rfl rfl, k 10 j rfl rfl, k 15 j rfl rfl, k 12 j rfl rfl, fun q => by rw [k 14 j rfl rfl]; exact q⟩, fun n _ q => by rw [e21]; exact q, fun j _ => ⟨k 13 j rfl rfl, k 17 j rfl rfl⟩⟩, fun b _ => ⟨k 26 b rfl rfl, k 27 b rfl rfl, k 28 b rfl rfl, k 29 b rfl rfl, k 30 b rfl rfl, k 54 b rfl rfl⟩⟩
theorem vr_hd (h : PA σ τ) (hn : 0 ≤ (σ 0 31).toInt) (k : KHd σ s) (ha : AtOK s) (hp : pos σ ≤ pos s) : VRx σ vs s τ vs 0 := by
  have f4 : (s 0 36) = (σ 0 36) := k _ _ rfl rfl
  have f6 : (s 0 37) = (σ 0 37) := k _ _ rfl rfl
  have f7 : (s 0 17) = (σ 0 17) := k _ _ rfl rfl
  have f8 : (s 0 39) = (σ 0 39) := k _ _ rfl rfl
  have f9 : (s 0 31) = (σ 0 31) := k _ _ rfl rfl
  have f10 : (s 0 45) = (σ 0 45) := k _ _ rfl rfl
  have u := ur_hd (vs := vs) h k ha hp
  refine ⟨u, ⟨by rw [f7]; omega, by rw [f8]; omega, by omega⟩, fun f1 f2 f hg => good_ur u (fun q => by rw [f6]; exact itd_le (itd_of (funext (fun j => k 25 j rfl rfl)) f8 q) (Int.le_refl _)) (fun e e1 e2 e3 e4 => Or.inl ⟨by rw [← f4]; exact e2, ?_, k 17 e rfl rfl⟩) hg, by rw [f9, f10]; omega⟩
  have e9 : (s 13) e = (σ 13) e := k 13 e rfl rfl
  rw [← e9]; exact e4
theorem hds_kp (k : Kp [(0, 10)] [] σ s) (h : HDs σ) : HDs s := by
  have f1 : (s 0 64) = (σ 0 64) := k _ _ rfl rfl
  have e1 : (s 37) = (σ 37) := funext (fun j => k 37 j rfl rfl)
  have e2 : (s 38) = (σ 38) := funext (fun j => k 38 j rfl rfl)
  have e3 : (s 39) = (σ 39) := funext (fun j => k 39 j rfl rfl)
  unfold HDs
  rw [f1, e1, e2, e3]
  exact h
theorem hx_sn (h : HX σ s) (g : SNx s s') : HX σ s' := ⟨kp_tr h.1 (kp_sub g.1 rfl rfl), g.2.1, Int.le_trans h.2.2.1 g.2.2, hds_kp g.1 h.2.2.2⟩
theorem hx_pa (h : PA σ τ) (x : HX σ s) : PA s τ := (ur_hd (vs := []) h x.1 x.2.1 x.2.2.1).2.1
theorem hx_cut {T : St → St → List Nat → Prop} (h : PA σ τ) (kT : ∀ s t z, UT σ vs s t z → T s t z) (x : HX σ s) : ∀ s', RTx s vs s' τ vs → T s' τ vs := fun s' hs => kT _ _ _ (ut_ur (ur_hd h x.1 x.2.1 x.2.2.1) (by have := x.2.2.1; omega) (ut_rt (rt_rtx hs)))
theorem hx_add {a b c : Int32} (h : HX σ s) (h8 : (s 0 64).toInt < 8) (ha : 0 ≤ a.toInt ∧ a.toInt ≤ 10) (hb : -1 ≤ b.toInt ∧ b.toInt < 16002) (hc : 0 ≤ c.toInt ∧ c.toInt < 16002) : HX σ (upC (upC (upC (upC s 37 (s 0 64).toNatClampNeg a) 38 (s 0 64).toNatClampNeg b) 39 (s 0 64).toNatClampNeg c) 0 64 ((s 0 64) + (1 : Int32))) := by
  obtain ⟨h1, h2, h3, ⟨h4, h5⟩, h6⟩ := h
  have hn := nt h4
  have e1 : ((s 0 64) + (1 : Int32)).toInt = (s 0 64).toInt + 1 := ad1 (by omega)
  refine ⟨kp_f (kp_a (kp_a (kp_a h1 rfl) rfl) rfl) rfl, ?_, ?_, ⟨?_, fun k hk => ?_⟩⟩
  · exact h2
  · exact h3
  · rw [rdA_eq rfl, e1]; omega
  · have hk' : (k : Int) < (s 0 64).toInt + 1 := by
      rw [rdA_eq rfl, e1] at hk
      exact hk
    simp only [rdC, Nat.reduceEqDiff, if_true, if_false]
    by_cases q : k = (s 0 64).toNatClampNeg
    · simp only [if_pos q]
      exact ⟨ha, hb, hc⟩
    · simp only [if_neg q]
      exact h6 k (by omega)
theorem sp_head {Q T : St → St → List Nat → Prop} (h : PA σ τ) (k : ∀ s, HX σ s → pos σ + 2 ≤ pos s → Q s τ vs) (kT : ∀ s t z, UT σ vs s t z → T s t z) : wp_head σ τ vs Q T := by
  unfold wp_head wp_accept
  have x0 : HX σ (upC σ 0 64 (0 : Int32)) := ⟨kp_f kp_rf rfl, h.2.1, Int.le_refl _, ⟨by rw [rdA_eq rfl]; decide, fun k hk => by rw [rdA_eq rfl, show (0 : Int32).toInt = 0 from rfl] at hk; omega⟩⟩
  have p0 : pos (upC σ 0 64 (0 : Int32)) = pos σ := rfl
  have hP0 := hx_pa h x0
  refine sp_expect hP0 (by decide) (fun hk ro po wo ico => ?_) (hx_cut h kT x0)
  have hx1 := hx_sn x0 (sn_nxt hP0 (by rw [hk]; decide)).1
  generalize nxt (upC σ 0 64 (0 : Int32)) = s1 at *
  have hP1 := hx_pa h hx1
  have fin : ∀ s, HX σ s → pos σ < pos s → wp_expect (21 : Int32) s τ vs (fun s t z => Q s t z) T := fun s hx hp => by
    have hP := hx_pa h hx
    refine sp_expect hP (by decide) (fun hk ro po wo ico => ?_) (hx_cut h kT hx)
    exact k _ (hx_sn hx (sn_nxt hP (by rw [hk]; decide)).1) (by omega)
  refine sp_is hP1 (fun hk1 => ⟨fun _ => ⟨no1, fun _ => ?_⟩, no1⟩) (fun _ => ⟨no0, fun _ => ⟨fun _ => ⟨at_tok hP1.1 hP1.2.1, fun _ => ?_, fun c => ?_⟩, no0⟩⟩)
  · obtain ⟨g1, g2⟩ := sn_nxt hP1 (by rw [hk1]; decide)
    show Q (nxt s1) τ vs
    exact k _ (hx_sn hx1 g1) (by omega)
  rotate_left 1
  · have c' : kd s1 = 6 := c
    obtain ⟨g1, g2⟩ := sn_nxt hP1 (by omega)
    show wp_expect _ (nxt s1) τ vs _ T
    exact fin _ (hx_sn hx1 g1) (by omega)
  refine ⟨fun n s t z => n = ((σ 0 9).toInt - pos s).toNat ∧ τ = t ∧ vs = z ∧ HX σ s ∧ pos σ < pos s, ⟨_, rfl, rfl, rfl, hx1, by omega⟩, ?_⟩
  rintro n s _ _ ⟨hn, rfl, rfl, hx, hp⟩
  have hP := hx_pa h hx
  refine ⟨at_tok hP.1 hP.2.1, True, fun _ => sp_wrong hP (hx_cut h kT hx), fun _ => trivial, fun c => ⟨fun c8 => ?_, fun _ => trivial⟩⟩
  have c' : kd s = 5 := c
  obtain ⟨g1, g2⟩ := sn_nxt hP (by omega)
  have hx2 := hx_sn hx g1
  have hP2 := hx_pa h hx2
  have hc8 : (s 0 64).toInt < 8 := by
    have := hx.2.2.2.1.2
    have : (s 0 64).toInt ≠ 8 := fun q => c8 q
    omega
  have hcn : ((nxt s) 0 64).toInt = (s 0 64).toInt := rfl
  show wp_stars (nxt s) _ _ _ T
  refine sp_stars hP2 (fun ty s3 ty0 ty5 hs3 => ?_) (hx_cut h kT hx2)
  have hx3 := hx_sn hx2 hs3
  have hP3 := hx_pa h hx3
  have hc3 : (s3 0 64).toInt = (s 0 64).toInt := by rw [hs3.1 0 64 rfl rfl]; exact hcn
  have hp3 := hs3.2.2
  have htk3 := at_tok hP3.1 hP3.2.1
  refine ⟨htk3, fun x s t z => (-1 ≤ x.toInt ∧ x.toInt < 16002) ∧ τ = t ∧ vs = z ∧ HX σ s ∧ (s 0 64).toInt < 8 ∧ pos (nxt s3) - pos s3 ≤ pos (nxt s3) - pos s3 ∧ pos (nxt s) = pos (nxt s) ∧ pos s3 ≤ pos s, ?_, fun _ => ⟨by decide, rfl, rfl, hx3, by omega, Int.le_refl _, rfl, Int.le_refl _⟩, fun c2 => ?_⟩
  rotate_left 1
  · have c2' : kd s3 = 2 := c2
    obtain ⟨g3, g4⟩ := sn_nxt hP3 (by omega)
    have : ((nxt s3) 0 64).toInt = (s3 0 64).toInt := rfl
    exact ⟨⟨by omega, by omega⟩, rfl, rfl, hx_sn hx3 g3, by show ((nxt s3) 0 64).toInt < 8; omega, Int.le_refl _, rfl, by show pos s3 ≤ pos (nxt s3); omega⟩
  rintro x s4 _ _ ⟨hx4r, rfl, rfl, hx4, hc4, -, -, hp4⟩
  have hP4 := hx_pa h hx4
  have fin2 : ∀ (v : Int32) s, (0 ≤ v.toInt ∧ v.toInt ≤ 10) → HX σ s → (s 0 64).toInt < 8 → pos s4 ≤ pos s → (((0 ≤ (s 0 64).toInt ∧ (s 0 64).toInt < 8) ∧ ((0 ≤ (s 0 64).toInt ∧ (s 0 64).toInt < 8) ∧ ((0 ≤ (s 0 64).toInt ∧ (s 0 64).toInt < 8) ∧ wp_is (26 : Int32) (upC (upC (upC (upC s 37 (s 0 64).toNatClampNeg v) 38 (s 0 64).toNatClampNeg x) 39 (s 0 64).toNatClampNeg (s 0 10)) 0 64 ((s 0 64) + (1 : Int32))) τ vs (fun v3 => (v3.toInt ≠ 0 → (fun v188 s188 t188 z188 => (v188.toInt ≠ 0 → ∃ m, m < n ∧ (m = ((σ 0 9).toInt - pos s188).toNat ∧ τ = t188 ∧ vs = z188 ∧ HX σ s188 ∧ pos σ < pos s188)) ∧ (v188.toInt = 0 → wp_expect (21 : Int32) s188 t188 z188 (fun s197 t197 z197 => Q s197 t197 z197) T)) (1 : Int32) (upC (upC (upC (upC (upC s 37 (s 0 64).toNatClampNeg v) 38 (s 0 64).toNatClampNeg x) 39 (s 0 64).toNatClampNeg (s 0 10)) 0 64 ((s 0 64) + (1 : Int32))) 0 10 ((upC (upC (upC (upC s 37 (s 0 64).toNatClampNeg v) 38 (s 0 64).toNatClampNeg x) 39 (s 0 64).toNatClampNeg (s 0 10)) 0 64 ((s 0 64) + (1 : Int32))) 0 10 + (1 : Int32))) τ vs) ∧ (v3.toInt = 0 → (fun v188 s188 t188 z188 => (v188.toInt ≠ 0 → ∃ m, m < n ∧ (m = ((σ 0 9).toInt - pos s188).toNat ∧ τ = t188 ∧ vs = z188 ∧ HX σ s188 ∧ pos σ < pos s188)) ∧ (v188.toInt = 0 → wp_expect (21 : Int32) s188 t188 z188 (fun s197 t197 z197 => Q s197 t197 z197) T)) (0 : Int32) (upC (upC (upC (upC s 37 (s 0 64).toNatClampNeg v) 38 (s 0 64).toNatClampNeg x) 39 (s 0 64).toNatClampNeg (s 0 10)) 0 64 ((s 0 64) + (1 : Int32))) τ vs)))))) := fun v s hv hx hc hps => by
    have hr := hx.2.2.2.1.1
    have ps := (hx_pa h hx)
    have xa := hx_add hx hc hv hx4r (at_tok ps.1 ps.2.1)
    have pa : pos (upC (upC (upC (upC s 37 (s 0 64).toNatClampNeg v) 38 (s 0 64).toNatClampNeg x) 39 (s 0 64).toNatClampNeg (s 0 10)) 0 64 ((s 0 64) + (1 : Int32))) = pos s := rfl
    refine ⟨⟨hr, hc⟩, ⟨hr, hc⟩, ⟨hr, hc⟩, ?_⟩
    generalize upC (upC (upC (upC s 37 (s 0 64).toNatClampNeg v) 38 (s 0 64).toNatClampNeg x) 39 (s 0 64).toNatClampNeg (s 0 10)) 0 64 ((s 0 64) + (1 : Int32)) = s5 at *
    have hP5 := hx_pa h xa
    refine sp_is hP5 (fun hk5 => ⟨fun _ => ⟨fun _ => ?_, no1⟩, no1⟩) (fun _ => ⟨no0, fun _ => ⟨no0, fun _ => fin _ xa (by omega)⟩⟩)
    obtain ⟨g5, g6⟩ := sn_nxt hP5 (by rw [hk5]; decide)
    have xn := hx_sn xa g5
    have hPn := hx_pa h xn
    have hpn := pos_in hPn.1 hPn.2.1
    have esz : ((nxt s5) 0 9).toInt = (σ 0 9).toInt := by rw [xn.1 0 9 rfl rfl]
    have e1 : upC s5 0 10 (s5 0 10 + (1 : Int32)) = nxt s5 := rfl
    rw [e1]
    exact ⟨((σ 0 9).toInt - pos (nxt s5)).toNat, by omega, rfl, rfl, rfl, xn, by omega⟩
  refine sp_is hP4 (fun hk4 => ⟨fun _ => ?_, no1⟩) (fun _ => ⟨no0, fun _ => ⟨fun v s t z => τ = t ∧ vs = z ∧ (0 ≤ v.toInt ∧ v.toInt ≤ 10) ∧ HX σ s ∧ (s 0 64).toInt < 8 ∧ pos s4 ≤ pos s, ?_, fun _ => ⟨rfl, rfl, ⟨ty0, by omega⟩, hx4, hc4, Int.le_refl _⟩, no0⟩⟩)
  rotate_left 1
  · rintro v s _ _ ⟨rfl, rfl, hv, hx, hc, hp⟩
    exact fin2 v s hv hx hc hp
  obtain ⟨g7, g8⟩ := sn_nxt hP4 (by rw [hk4]; decide)
  have e1 : upC s4 0 10 (s4 0 10 + (1 : Int32)) = nxt s4 := rfl
  rw [e1]
  have xn := hx_sn hx4 g7
  have hPn := hx_pa h xn
  refine ⟨fun v s t z => τ = t ∧ vs = z ∧ (0 ≤ v.toInt ∧ v.toInt ≤ 10) ∧ HX σ s ∧ (s 0 64).toInt < 8 ∧ pos s4 ≤ pos s, ?_, no1, fun _ => ?_⟩
  · rintro v s _ _ ⟨rfl, rfl, hv, hx, hc, hp⟩
    exact fin2 v s hv hx hc hp
  · refine sp_expect hPn (by decide) (fun hk ro po wo ico => ?_) (hx_cut h kT xn)
    have e2 : (ty + 1).toInt = ty.toInt + 1 := ad1 (by omega)
    have e3 : ((nxt (nxt s4)) 0 64).toInt = (s4 0 64).toInt := rfl
    exact ⟨rfl, rfl, by omega, hx_sn xn (sn_nxt hPn (by rw [hk]; decide)).1, by omega, by omega⟩
end HED
