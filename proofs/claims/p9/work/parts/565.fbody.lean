/-! what comes after the name of a function: its body -/
def FNy (σ : St) (vs : List Nat) (s t : St) (z : List Nat) (c len : Int) : Prop := UR σ vs s t z ∧ NCt σ vs s z c ∧ GPs σ s ∧ (0 ≤ (s 0 31).toInt ∧ (s 0 31).toInt ≤ (σ 0 31).toInt + len) ∧ (s 0 45).toInt ≤ (σ 0 45).toInt + 1
/-- what a function's body is begun from: e is the name -/
def FBx (σ : St) (e ty : Int32) : Prop := HDs σ ∧ (e.toInt < 0 → (σ 0 12).toInt = 0 → (σ 0 15).toInt = 0 → False) ∧ (0 ≤ e.toInt → Fi σ ≤ e.toInt ∧ e.toInt < (σ 0 36).toInt) ∧ (0 ≤ e.toInt → (σ 0 12).toInt = 0 → (σ 0 15).toInt = 0 → ((σ 9) e.toNatClampNeg).toInt = 2 ∧ ((σ 10) e.toNatClampNeg).toInt = ty.toInt ∧ ((σ 15) e.toNatClampNeg).toInt = (σ 0 64).toInt)
/-- it is told where the body lies -/
def FPx (σ τ : St) (vs : List Nat) (e : Int32) (s : St) : Prop := UR σ vs s τ vs ∧ Kp [] [13, 17] σ s ∧ (∀ j, j ≠ e.toNatClampNeg → (s 13) j = (σ 13) j ∧ (s 17) j = (σ 17) j) ∧ (0 ≤ e.toInt → ((σ 9) e.toNatClampNeg).toInt = 2 → (s 17) e.toNatClampNeg = (σ 0 45))
section FBO
variable {σ s s' τ t t' : St} {vs z z' : List Nat}
theorem fp_no {e : Int32} (h : PA σ τ) (hn : ¬ (0 ≤ e.toInt ∧ ((σ 9) e.toNatClampNeg).toInt = 2)) : FPx σ τ vs e σ := ⟨ur_rf h, kp_rf, fun _ _ => ⟨rfl, rfl⟩, fun q1 q2 => absurd ⟨q1, q2⟩ hn⟩
theorem fp_yes {e b : Int32} (h : PA σ τ) (he : 0 ≤ e.toInt ∧ Fi σ ≤ e.toInt) (hb : 0 ≤ (σ 0 45).toInt ∧ (σ 0 45).toInt < 10000) : FPx σ τ vs e (upC (upC σ 13 e.toNatClampNeg b) 17 e.toNatClampNeg (σ 0 45)) := by
  have h9 := h
  obtain ⟨hT, hA, ⟨n1, n2, n3, n4, n5, n6, n7⟩, ⟨a1, a2, a3, a4, a5, a6, a7, a8, a9, b1, b2, b3⟩, hV⟩ := h9
  have nn := nt he.1
  refine ⟨(ur_kd (vs := vs) (s := upC (upC σ 13 e.toNatClampNeg b) 17 e.toNatClampNeg (σ 0 45)) h (kp_a (kp_a kp_rf rfl) rfl) (by show _ ≤ (σ 0 36).toInt ∧ (σ 0 36).toInt ≤ _; omega) (by show _ ≤ (σ 0 37).toInt ∧ (σ 0 37).toInt ≤ _; omega) a3 a4 a5 a7 a8 ?_ b2 (Or.inl rfl) ⟨fun j hj => ⟨rfl, rfl, rfl, rfl, fun q => q⟩, fun n _ q => q, fun j hj => ?_⟩).1, kp_a (kp_a kp_rf rfl) rfl, fun j hj => ?_, fun _ _ => ?_⟩
  · show AllIn 0 16000 (upC (upC σ 13 e.toNatClampNeg b) 17 e.toNatClampNeg (σ 0 45) 17)
    exact acr_up b1 (by omega)
  · have ne : j ≠ e.toNatClampNeg := by omega
    simp only [rdC, Nat.reduceEqDiff, if_true, if_false, if_neg ne]
    exact ⟨trivial, trivial⟩
  · simp only [rdC, Nat.reduceEqDiff, if_true, if_false, if_neg hj]
    exact ⟨trivial, trivial⟩
  · simp only [rdC, if_true]
theorem fp_set {e : Int32} {S : St} (h : PA s τ) (hS : S = upC (upC (upC (upC s 0 49 (0 : Int32)) 0 53 (0 : Int32)) 0 54 (1 : Int32)) 0 65 (s 0 64)) (hd : HDs s) : UR s vs S τ vs ∧ HDs S ∧ KHw s S ∧ (S 0 49).toInt = 0 ∧ (S 0 65) = (s 0 64) ∧ (S 0 64) = (s 0 64) := by
  have k : KHw s S := by rw [hS]; exact kp_f (kp_f (kp_f (kp_f kp_rf rfl) rfl) rfl) rfl
  have e49 : S 0 49 = 0 := by rw [hS]; rfl
  have e53 : S 0 53 = 0 := by rw [hS]; rfl
  have l0 : (S 0 49).toInt = 0 := by rw [e49]; rfl
  have h0 : (S 0 53).toInt = 0 := by rw [e53]; rfl
  have ea : AtOK S := by rw [hS]; exact h.2.1
  have ep : pos S = pos s := by rw [hS]; rfl
  refine ⟨ur_hw h k (by omega) (fun j hj => by rw [h0] at hj; omega) ea (by omega), ?_, k, l0, by rw [hS]; rfl, by rw [hS]; rfl⟩
  rw [hS]
  exact hd
theorem sp_fnBody {e ty : Int32} {sB S : St} {Q T : St → St → List Nat → Prop} (h : PA σ τ) (hS : (σ 0 15).toInt = 0) (hB : NB σ vs) (hn : 0 ≤ (σ 0 31).toInt) (hk : kd σ = 54) (hb : 0 ≤ (σ 0 45).toInt ∧ (σ 0 45).toInt < 10000) (hf : FBx σ e ty) (hp : FPx σ τ vs e sB) (hSd : S = upC (upC (upC (upC sB 0 49 (0 : Int32)) 0 53 (0 : Int32)) 0 54 (1 : Int32)) 0 65 (sB 0 64)) (hq : QTt S τ vs s) (hl : (s 0 49).toInt = (S 0 64).toInt) (k : ∀ s t z, FNy σ vs s t z (-123) 0 → Q s t z) (kT : ∀ s t z, UT σ vs s t z → T s t z) : wp_bodyOf ty s τ vs Q T := by
  obtain ⟨f1, f2, f3, f4⟩ := hf
  obtain ⟨p1, p2, p3, p4⟩ := hp
  have hdB : HDs sB := hds_kd (kp_sub p2 rfl rfl) f1
  obtain ⟨u2, d2, k2, l2, hp2, hc2⟩ := fp_set (e := e) (vs := vs) p1.2.1 hSd hdB
  have u3 : UR σ vs s τ vs := ur_tr (ur_tr p1 u2) (ur_rs hq.1)
  obtain ⟨q1, q2, q3, q4, q5⟩ := qt_pos hq
  have eS : ∀ j, S 0 j = if j = 65 then sB 0 64 else if j = 54 then 1 else if j = 53 then 0 else if j = 49 then 0 else sB 0 j := fun j => by
    rw [hSd]
    simp only [rdC, if_true]
  have pS : pos S = pos sB := by rw [hSd]; rfl
  have kS : kd S = kd sB := by rw [hSd]; rfl
  have pB : pos sB = pos σ := by
    unfold pos
    have a1 : (sB 0 10) = (σ 0 10) := p2 _ _ rfl rfl
    have a2 : (sB 3) = (σ 3) := funext (fun j => p2 3 j rfl rfl)
    rw [a1, a2]
  have kB : kd sB = kd σ := by
    unfold kd
    have a1 : (sB 0 10) = (σ 0 10) := p2 _ _ rfl rfl
    have a2 : (sB 2) = (σ 2) := funext (fun j => p2 2 j rfl rfl)
    rw [a1, a2]
  have w : (s 0 17) = (σ 0 17) := q2.trans ((k2 0 17 rfl rfl).trans (p2 0 17 rfl rfl))
  have ic : (s 0 39) = (σ 0 39) := q3.trans ((k2 0 39 rfl rfl).trans (p2 0 39 rfl rfl))
  have bo : (s 0 45) = (σ 0 45) := (hq.1.1 0 45 rfl rfl).trans ((k2 0 45 rfl rfl).trans (p2 0 45 rfl rfl))
  have nb : (s 0 31) = (σ 0 31) := (hq.1.1 0 31 rfl rfl).trans ((k2 0 31 rfl rfl).trans (p2 0 31 rfl rfl))
  have hpa : (s 0 65) = (σ 0 64) := (hq.1.1 0 65 rfl rfl).trans (hp2.trans (p2 0 64 rfl rfl))
  have hcS : (S 0 64) = (σ 0 64) := hc2.trans (p2 0 64 rfl rfl)
  have ent : (s 0 36) = (σ 0 36) := (hq.1.1 0 36 rfl rfl).trans ((k2 0 36 rfl rfl).trans (p2 0 36 rfl rfl))
  have sz := ur_sz u3
  refine sp_bodyOf u3.2.1 (by rw [ur_sil u3]; exact hS) (by obtain ⟨x1, x2, x3⟩ := hB; unfold NB; rw [w, ic, sz, q1, pS, pB]; exact ⟨x1, x2, x3⟩) (by omega) (by rw [bo]; exact hb) (fun F t z bx => ?_) (fun s' t' z' hs => kT _ _ _ (ut_ur u3 (by omega) hs))
  obtain ⟨b1, ⟨c1, c2, c3⟩, b3, ⟨b4, b5, b6, b7⟩, b8, b9, b10⟩ := bx
  have uF := ur_tr u3 b1
  have pp : pos s = pos σ := by omega
  rw [w, pp] at c1
  rw [ic, pp] at c2
  rw [pp] at c3
  refine k _ _ _ ⟨uF, ⟨c1, c2, c3⟩, fun g1 g2 f hg => ?_, by rw [b4, nb]; omega, by rw [bo] at b9; exact b9⟩
  have of := of0 uF.2.2.2.1 g1
  have sil : (σ 0 15).toInt = 0 := hS
  have e0 : 0 ≤ e.toInt := by
    by_cases c : e.toInt < 0
    · exact (f2 c of sil).elim
    · omega
  obtain ⟨r1, r2, r3⟩ := f4 e0 of sil
  obtain ⟨o1, o2⟩ := f3 e0
  have nn := nt e0
  have hd1 := f1.1
  obtain ⟨v1, v2, v3, v4⟩ := b10 g1 g2 (by rw [hpa]; omega) (by rw [hpa, hl, hcS]; exact Int.le_refl _)
  have ent2 : (F 0 36) = (σ 0 36) := b5.trans ent
  refine good_ur uF (fun q => ?_) (fun j j1 j2 j3 j4 => ?_) hg
  · have d1 : (S 0 37) = (σ 0 37) := (k2 0 37 rfl rfl).trans (p2 0 37 rfl rfl)
    have g3 : ITd S f (S 0 37).toInt := by
      rw [d1]
      exact itd_of (funext (fun j => (k2 25 j rfl rfl).trans (p2 25 j rfl rfl))) ((k2 0 39 rfl rfl).trans (p2 0 39 rfl rfl)) q
    exact b8 f (hq.1.2.2.2.2.2.2.2.2.2.2.1.2.1 f g3)
  · have x13 : (F 13) j = (sB 13) j := by rw [b6]; exact (hq.1.1 13 j rfl rfl).trans (k2 13 j rfl rfl)
    have x17 : (F 17) j = (sB 17) j := by rw [b7]; exact (hq.1.1 17 j rfl rfl).trans (k2 17 j rfl rfl)
    by_cases ce : j = e.toNatClampNeg
    · subst ce
      obtain ⟨m1, m2, m3, m4, m5⟩ := uF.2.2.2.2.2.2.2.2.1.1 e.toNatClampNeg (by omega)
      have nbd := nt hb.1
      refine Or.inr ⟨(σ 0 45).toNatClampNeg, by rw [x17, p4 e0 r1]; omega, by rw [v1, bo]; omega, ?_, ?_, ?_⟩
      · rw [← bo, v2, hpa, m3]
        exact Int32.toInt_inj.mp r3.symm
      · rw [← bo, v3]
        exact (b1.1 0 35 rfl rfl).symm
      · rw [m2, r2, ← bo]
        exact v4
    · obtain ⟨y1, y2⟩ := p3 j ce
      exact Or.inl ⟨by rw [← ent2]; exact j2, by rw [← y1, ← x13]; exact j4, by rw [x17, y2]⟩
end FBO
