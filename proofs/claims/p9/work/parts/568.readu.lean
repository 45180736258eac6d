/-! a unit is read: what has no body, all items -/
def SBe (σ : St) (e : Nat) : Prop := ((σ 9) e).toInt = 2 → (σ 12) e ≠ 0 → 0 ≤ ((σ 21) ((e : Int) - Fi σ).toNat).toInt → (σ 13) e ≠ 0
def SBD (σ : St) : Prop := ∀ e : Nat, Fi σ ≤ (e : Int) → (e : Int) < (σ 0 36).toInt → SBe σ e
abbrev KR (σ s : St) : Prop := Kp [(0, 8), (0, 10)] [2, 3, 4, 5, 6] σ s
def ITl (σ : St) (vs : List Nat) (s t : St) (z : List Nat) : Prop := UR σ vs s t z ∧ NCt σ vs s z 0 ∧ GPs σ s ∧ (0 ≤ (s 0 31).toInt ∧ (s 0 31).toInt ≤ (σ 0 31).toInt + (pos s - pos σ)) ∧ (0 ≤ (s 0 45).toInt ∧ 2 * (s 0 45).toInt ≤ 2 * (σ 0 45).toInt + (pos s - pos σ))
section RDU
variable {σ s s' τ t t' : St} {vs z z' : List Nat}
theorem upC_self (p k : Nat) : upC σ p k (σ p k) = σ := by
  funext c j
  rw [rdC]
  by_cases e : c = p
  · rw [if_pos e]
    by_cases e2 : j = k
    · rw [if_pos e2, e, e2]
    · rw [if_neg e2, e]
  · rw [if_neg e]
theorem ut_of (r : UR σ vs s t z) (hz : (z.length : Int) ≤ vs.length + 2 * ((σ 0 9).toInt - pos σ)) : UT σ vs s t z := ⟨⟨s, r, (upC_self _ _).symm⟩, hz⟩
theorem int_ne {x : Int32} (h : x ≠ 0) : x.toInt ≠ 0 := fun q => h (ieq (by rw [q]; decide))
theorem int_ne' {x : Int32} (h : x.toInt ≠ 0) : x ≠ 0 := fun q => h (by rw [q]; decide)
theorem sp_bodiless {Q : St → St → List Nat → Prop} (h : PA σ τ) (k : ∀ s, TL σ s → ((s 0 12).toInt = 0 → (s 0 15).toInt = 0 → SBD σ) → Q s τ vs) : wp_bodiless σ τ vs Q := by
  have h9 := h
  obtain ⟨hT, hA, ⟨n1, n2, n3, n4, n5, n6, n7⟩, ⟨a1, a2, a3, a4, a5, a6, a7, a8, a9, b1, b2, b3⟩, hV⟩ := h9
  have eFi : ((σ 22) (σ 0 35).toNatClampNeg).toInt = Fi σ := rfl
  have en1 : ((-1 : Int32)).toInt = -1 := by decide
  unfold wp_bodiless
  refine ⟨by omega, fun n x1 x2 => (n : Int) = (σ 0 36).toInt - x2.toInt ∧ Fi σ ≤ x2.toInt ∧ (-1 ≤ x1.toInt ∧ x1.toInt ≤ 16001) ∧ (x1.toInt < 0 → ∀ e : Nat, Fi σ ≤ (e : Int) → (e : Int) < x2.toInt → SBe σ e), ⟨((σ 0 36).toInt - Fi σ).toNat, by omega, by rw [eFi]; exact Int.le_refl _, by rw [en1]; omega, fun _ e e1 e2 => by omega⟩, ?_⟩
  rintro n x1 x2 ⟨q1, q2, q3, q4⟩
  refine ⟨fun c => ⟨fun c1 => k σ tl_rf (fun _ _ e e1 e2 => q4 c1 e e1 (by omega)), fun c1 => sp_tell (by decide) (by omega) (fun s hs hf => k s hs (fun f1 f2 => (hf f1 f2).elim))⟩, fun c => ?_⟩
  have es : (x2 - (σ 22) (σ 0 35).toNatClampNeg).toInt = x2.toInt - Fi σ := sb (by rw [eFi]; omega) (by rw [eFi]; omega)
  have e1 := ad1 (x := x2) (by omega)
  have nn := nt (x := x2) (by omega)
  have en : (x2 - (σ 22) (σ 0 35).toNatClampNeg).toNatClampNeg = ((x2.toNatClampNeg : Int) - Fi σ).toNat := by rw [nt', es, nn]
  have last : ∀ y : Int32, (-1 ≤ y.toInt ∧ y.toInt ≤ 16001) ∧ (y.toInt < 0 → ∀ e : Nat, Fi σ ≤ (e : Int) → (e : Int) < x2.toInt + 1 → SBe σ e) → ∃ m, m < n ∧ ((m : Int) = (σ 0 36).toInt - (x2 + 1).toInt ∧ Fi σ ≤ (x2 + 1).toInt ∧ (-1 ≤ y.toInt ∧ y.toInt ≤ 16001) ∧ (y.toInt < 0 → ∀ e : Nat, Fi σ ≤ (e : Int) → (e : Int) < (x2 + 1).toInt → SBe σ e)) := fun y ⟨y1, y2⟩ => ⟨n - 1, by omega, by omega, by omega, y1, by rw [e1]; exact y2⟩
  have keep : SBe σ x2.toNatClampNeg → (-1 ≤ x1.toInt ∧ x1.toInt ≤ 16001) ∧ (x1.toInt < 0 → ∀ e : Nat, Fi σ ≤ (e : Int) → (e : Int) < x2.toInt + 1 → SBe σ e) := fun r => ⟨q3, fun c1 e e2 e3 => by
    by_cases q : e = x2.toNatClampNeg
    · rw [q]; exact r
    · exact q4 c1 e e2 (by omega)⟩
  have rg : 0 ≤ x2.toInt ∧ x2.toInt < 10000 := by omega
  refine ⟨by omega, by rw [es]; omega, rg, fun y => (-1 ≤ y.toInt ∧ y.toInt ≤ 16001) ∧ (y.toInt < 0 → ∀ e : Nat, Fi σ ≤ (e : Int) → (e : Int) < x2.toInt + 1 → SBe σ e), fun y hy => last y hy, fun c1 => keep (fun c2 => absurd c2 c1), fun c1 => ⟨rg, fun c2 => keep (fun _ c3 => absurd (by rw [ieq (x := (σ 12) x2.toNatClampNeg) (y := 0) (by rw [c2]; decide)]) c3), fun c2 => ⟨rg, fun c3 => keep (fun _ _ _ => int_ne' c3), fun c3 => ⟨fun c4 => keep (fun _ _ c5 => by rw [en] at c4; omega), fun c4 => ?_⟩⟩⟩⟩
  refine ⟨True, fun _ => ⟨a3 _, fun c5 => by omega⟩, fun _ => trivial, fun c5 => ⟨fun _ => ⟨q3, fun c6 => by omega⟩, fun _ => trivial⟩⟩
theorem sbd_tl (p : TL σ s) (h : SBD σ) : SBD s := by
  have f1 : (s 0 35) = (σ 0 35) := p.1 _ _ rfl rfl
  have f2 : (s 0 36) = (σ 0 36) := p.1 _ _ rfl rfl
  have e22 : (s 22) = (σ 22) := funext (fun j => p.1 22 j rfl rfl)
  have e9 : (s 9) = (σ 9) := funext (fun j => p.1 9 j rfl rfl)
  have e12 : (s 12) = (σ 12) := funext (fun j => p.1 12 j rfl rfl)
  have e13 : (s 13) = (σ 13) := funext (fun j => p.1 13 j rfl rfl)
  have e21 : (s 21) = (σ 21) := funext (fun j => p.1 21 j rfl rfl)
  have eF : Fi s = Fi σ := by unfold Fi; rw [f1, e22]
  unfold SBD SBe
  rw [eF, f2, e9, e12, e13, e21]
  exact h
theorem nb_ur (h : NB σ vs) (r : UR σ vs s t z) (n : NCt σ vs s z 0) : NB s z := by
  obtain ⟨h1, h2, h3⟩ := h
  obtain ⟨n1, n2, n3⟩ := n
  have e := ur_sz r
  unfold NB
  rw [e]
  exact ⟨by omega, by omega, by omega⟩
/-- what holds as a unit is begun, its text not yet cut -/
def RS0 (σ τ : St) (vs : List Nat) : Prop := (0 ≤ (σ 0 9).toInt ∧ (σ 0 9).toInt ≤ 16000) ∧ (AllIn 0 16000 (σ 3) ∧ AllIn 0 16000 (σ 4)) ∧ (NUM σ ∧ ARR σ ∧ VOK τ) ∧ ((σ 0 15).toInt = 0 ∧ (σ 0 12).toInt = 0) ∧ (0 ≤ (σ 0 31).toInt ∧ (σ 0 31).toInt + (σ 0 9).toInt ≤ 60000) ∧ (0 ≤ (σ 0 45).toInt ∧ 2 * (σ 0 45).toInt + (σ 0 9).toInt ≤ 19000) ∧ ((σ 0 17).toInt + 40 * (σ 0 9).toInt ≤ 410000 ∧ (σ 0 39).toInt + 12 * (σ 0 9).toInt ≤ 130000 ∧ (vs.length : Int) + 2 * (σ 0 9).toInt ≤ 23000)
theorem rs0_pa (h : RS0 σ τ vs) (hT : TK s) (k : KT σ s) : PA (upC s 0 10 (0 : Int32)) τ ∧ KR σ (upC s 0 10 (0 : Int32)) := by
  obtain ⟨-, -, ⟨⟨n1, n2, n3, n4, n5, n6, n7⟩, ⟨a1, a2, a3, a4, a5, a6, a7, a8, a9, b1, b2, b3⟩, hV⟩, -⟩ := h
  have kr : KR σ (upC s 0 10 (0 : Int32)) := kp_f (kp_sub k rfl rfl) rfl
  have e22 : ((upC s 0 10 (0 : Int32)) 22) = (σ 22) := funext (fun j => kr 22 j rfl rfl)
  have e34 : ((upC s 0 10 (0 : Int32)) 34) = (σ 34) := funext (fun j => kr 34 j rfl rfl)
  have e35 : ((upC s 0 10 (0 : Int32)) 35) = (σ 35) := funext (fun j => kr 35 j rfl rfl)
  have e15 : ((upC s 0 10 (0 : Int32)) 15) = (σ 15) := funext (fun j => kr 15 j rfl rfl)
  have e18 : ((upC s 0 10 (0 : Int32)) 18) = (σ 18) := funext (fun j => kr 18 j rfl rfl)
  have e19 : ((upC s 0 10 (0 : Int32)) 19) = (σ 19) := funext (fun j => kr 19 j rfl rfl)
  have e31 : ((upC s 0 10 (0 : Int32)) 31) = (σ 31) := funext (fun j => kr 31 j rfl rfl)
  have e10 : ((upC s 0 10 (0 : Int32)) 10) = (σ 10) := funext (fun j => kr 10 j rfl rfl)
  have e9 : ((upC s 0 10 (0 : Int32)) 9) = (σ 9) := funext (fun j => kr 9 j rfl rfl)
  have e32 : ((upC s 0 10 (0 : Int32)) 32) = (σ 32) := funext (fun j => kr 32 j rfl rfl)
  have e16 : ((upC s 0 10 (0 : Int32)) 16) = (σ 16) := funext (fun j => kr 16 j rfl rfl)
  have e17 : ((upC s 0 10 (0 : Int32)) 17) = (σ 17) := funext (fun j => kr 17 j rfl rfl)
  have e21 : ((upC s 0 10 (0 : Int32)) 21) = (σ 21) := funext (fun j => kr 21 j rfl rfl)
  have f1 : ((upC s 0 10 (0 : Int32)) 0 35) = (σ 0 35) := kr _ _ rfl rfl
  have f2 : ((upC s 0 10 (0 : Int32)) 0 36) = (σ 0 36) := kr _ _ rfl rfl
  have f3 : ((upC s 0 10 (0 : Int32)) 0 53) = (σ 0 53) := kr _ _ rfl rfl
  have f4 : ((upC s 0 10 (0 : Int32)) 0 49) = (σ 0 49) := kr _ _ rfl rfl
  have f5 : ((upC s 0 10 (0 : Int32)) 0 15) = (σ 0 15) := kr _ _ rfl rfl
  have f6 : ((upC s 0 10 (0 : Int32)) 0 37) = (σ 0 37) := kr _ _ rfl rfl
  have f7 : ((upC s 0 10 (0 : Int32)) 0 17) = (σ 0 17) := kr _ _ rfl rfl
  have f8 : ((upC s 0 10 (0 : Int32)) 0 39) = (σ 0 39) := kr _ _ rfl rfl
  have eF : Fi (upC s 0 10 (0 : Int32)) = Fi σ := by unfold Fi; rw [f1, e22]
  refine ⟨⟨tk_kp (fs := [(0, 10)]) (cs := []) (kp_f kp_rf rfl) rfl rfl ⟨rfl, rfl, rfl, rfl, rfl⟩ rfl hT, ?_, ⟨by rw [f1]; exact n1, by rw [eF, f2]; exact n2, by rw [f3, f4]; exact n3, by rw [f6]; exact n4, by rw [f7]; exact n5, by rw [f8]; exact n6, by rw [f5]; exact n7⟩, ⟨by rw [e34]; exact a1, by rw [e35]; exact a2, by rw [e21]; exact a3, by rw [e15]; exact a4, ?_, by rw [e31]; exact a6, by rw [e10]; exact a7, ?_, ?_, by rw [e17]; exact b1, by rw [e16]; exact b2, by rw [e32]; exact b3⟩, hV⟩, kr⟩
  · refine ⟨?_, ?_⟩
    · show 0 ≤ (0 : Int32).toInt
      decide
    · have := hT.1
      have e0 : (0 : Int32).toInt = 0 := by decide
      show (0 : Int32).toInt < (s 0 8).toInt
      omega
  · unfold NMo; rw [e18, e19]; exact a5
  · unfold VTy; rw [e9, e10]; exact a8
  · unfold HLd; rw [e35, f3, f4]; exact a9
theorem sp_read0 {Q : Int32 → St → St → List Nat → Prop} (h : RS0 σ τ vs) (k1 : ∀ σ1 s t z, PA σ1 τ → KR σ σ1 → ITl σ1 vs s t z → (s 0 12).toInt = 0 → SBD s → Q 0 s t z) (k2 : ∀ (v : Int32) σ1 s t z, v.toInt < 0 → PA σ1 τ → KR σ σ1 → UT σ1 vs s t z → Q v s t z) : wp_read_0 σ τ vs Q := by
  have h9 := h
  obtain ⟨⟨hs0, hs1⟩, ⟨hf, ht⟩, -, ⟨hsil, hfa⟩, ⟨hnb, hnb2⟩, ⟨hbo, hbo2⟩, ⟨hw, hi, hv⟩⟩ := h9
  unfold wp_read_0
  refine sp_cut hs0 hs1 hf ht (fun s1 hT1 hK1 => ?_)
  obtain ⟨hP1, kr⟩ := rs0_pa h hT1 hK1
  generalize upC s1 0 10 (0 : Int32) = σ1 at hP1 kr ⊢
  have e9 : (σ1 0 9) = (σ 0 9) := kr _ _ rfl rfl
  have e15 : (σ1 0 15) = (σ 0 15) := kr _ _ rfl rfl
  have e12 : (σ1 0 12) = (σ 0 12) := kr _ _ rfl rfl
  have e31 : (σ1 0 31) = (σ 0 31) := kr _ _ rfl rfl
  have e45 : (σ1 0 45) = (σ 0 45) := kr _ _ rfl rfl
  have e17 : (σ1 0 17) = (σ 0 17) := kr _ _ rfl rfl
  have e39 : (σ1 0 39) = (σ 0 39) := kr _ _ rfl rfl
  have p1 := pos_in hP1.1 hP1.2.1
  have em21 : ((-21 : Int32)).toInt < 0 := by decide
  have hB1 : NB σ1 vs := by
    unfold NB
    rw [e17, e39, e9]
    rw [e9] at p1
    exact ⟨by omega, by omega, by omega⟩
  refine ⟨fun n s t z => n = ((σ1 0 9).toInt - pos s).toNat ∧ ITl σ1 vs s t z, ⟨_, rfl, ur_rf hP1, ⟨by omega, by omega, by omega⟩, fun _ _ _ q => q, by rw [e31]; omega, by rw [e45]; omega⟩, ?_⟩
  rintro n s t z ⟨hn, il⟩
  have il9 := il
  obtain ⟨u1, u2, u3, u4, u5⟩ := il9
  have hPs := u1.2.1
  have ps := pos_in hPs.1 hPs.2.1
  have sz := ur_sz u1
  have hBs := nb_ur hB1 u1 u2
  have sil := ur_sil u1
  have mp := u1.2.2.2.2.1.2.2.1
  have htk := at_tok hPs.1 hPs.2.1
  refine ⟨htk, fun _ => ?_, fun hk0 => ⟨htk, fun hk1 => ?_, fun _ => ?_⟩⟩
  · refine sp_bodiless hPs (fun s5 hs5 hsb => ?_)
    have v5 := vr_tl (vs := z) hPs u4.1 hs5
    obtain ⟨w1, w2, w3, w4⟩ := v5
    have uA := ur_tr u1 w1
    have sil5 : (s5 0 15).toInt = 0 := by rw [ur_sil uA, e15]; exact hsil
    have e10 : (s5 0 10) = (s 0 10) := hs5.1 _ _ rfl rfl
    have fr : (s5 3) = (s 3) := funext (fun j => hs5.1 3 j rfl rfl)
    have p5 : pos s5 = pos s := by unfold pos; rw [e10, fr]
    have il5 : ITl σ1 vs s5 t z := ⟨uA, nct_tr (c := 0) (d := 0) u2 w2, gp_tr u3 w1.2.2.2.1 (ur_sil w1) w3, by rw [p5]; omega, by rw [p5]; omega⟩
    have of := uA.2.2.2.1
    unfold OF at of
    rw [e12, hfa] at of
    refine ⟨fun c => ?_, fun c => k1 σ1 s5 t z hP1 kr il5 c (sbd_tl hs5 (hsb c sil5))⟩
    have em20 : ((-20 : Int32)).toInt = -20 := by decide
    have ev : ((-20 : Int32) - (s5 0 12)).toInt = -20 - (s5 0 12).toInt := by
      rw [sb (by omega) (by omega), em20]
    have n3 := il5.2.1.2.2
    have ps5 : pos s5 ≤ (σ1 0 9).toInt := by omega
    have q5 : UR s5 z (upC s5 0 14 (s5 0 13)) t z := ur_rs (rs_rl (by
      have hP5 := uA.2.1
      have k9 : KE s5 (upC s5 0 14 (s5 0 13)) := kp_f kp_rf rfl
      obtain ⟨x1, x2, ⟨m1, m2, m3, m4, m5, m6, m7⟩, ⟨a1, a2, a3, a4, a5, a6, a7, a8, a9, b1, b2, b3⟩, x5⟩ := hP5
      exact ⟨k9, pa_ke ⟨x1, x2, ⟨m1, m2, m3, m4, m5, m6, m7⟩, ⟨a1, a2, a3, a4, a5, a6, a7, a8, a9, b1, b2, b3⟩, x5⟩ k9 x2 m4 m5 m6 a3 x5, fun _ _ => rfl, mon_rf, of_rf, Int.le_refl _, Int.le_refl _, Int.le_refl _, fun _ h => h, Nat.le_refl _, ie_of rfl rfl rfl⟩))
    exact k2 _ σ1 _ t z (by rw [ev]; omega) hP1 kr (ut_of (ur_tr uA q5) (by omega))
  · refine sp_item hPs ⟨by rw [sil, e15]; exact hsil, u4.1, ?_⟩ hBs (by rw [e45] at u5; rw [sz, e9] at ps; omega) (fun s' t' z' g => ?_) (fun s' t' z' g => k2 _ σ1 _ _ _ em21 hP1 kr (ut_ur u1 u2.2.2 g))
    · rw [e31] at u4
      rw [sz, e9]
      rw [e9] at p1
      omega
    · obtain ⟨⟨g1, g2, g3, g4, g5⟩, g6⟩ := g
      have uA := ur_tr u1 g1
      have ps' := pos_in uA.2.1.1 uA.2.1.2.1
      have sz' := ur_sz uA
      refine ⟨_, ?_, rfl, uA, nct_tr (c := 0) (d := 0) u2 g2, gp_tr u3 g1.2.2.2.1 (ur_sil g1) g3, by omega, ?_⟩
      · omega
      · have := g1.2.2.2.2.1.2.2.2.2.1
        omega
  · exact sp_wrong hPs (fun s' g => k2 _ σ1 _ _ _ em21 hP1 kr (ut_ur u1 u2.2.2 (ut_rt (rt_rtx g))))
end RDU
