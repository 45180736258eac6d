/-! the name of a function: found or made -/
def FEx (σ s τ : St) (vs : List Nat) (e ty : Int32) (len : Int) : Prop := UR σ vs s τ vs ∧ pos s = pos σ ∧ (s 0 17) = (σ 0 17) ∧ (s 0 39) = (σ 0 39) ∧ kd s = kd σ ∧ (s 0 37) = (σ 0 37) ∧ (s 25) = (σ 25) ∧ ((σ 0 31).toInt ≤ (s 0 31).toInt ∧ (s 0 31).toInt ≤ (σ 0 31).toInt + len) ∧ HDs s ∧ ((s 0 64) = (σ 0 64) ∧ (s 0 45) = (σ 0 45)) ∧ (e.toInt < 0 → (s 0 12).toInt = 0 → (s 0 15).toInt = 0 → False) ∧ (0 ≤ e.toInt → Fi σ ≤ e.toInt ∧ e.toInt < (s 0 36).toInt) ∧ (0 ≤ e.toInt → (s 0 12).toInt = 0 → (s 0 15).toInt = 0 → ((s 9) e.toNatClampNeg).toInt = 2 ∧ ((s 10) e.toNatClampNeg).toInt = ty.toInt ∧ ((s 15) e.toNatClampNeg).toInt = (σ 0 64).toInt) ∧ (∀ f, GOODu σ f → GOODu s f)
section FEN
variable {σ s s' τ t t' : St} {vs z z' : List Nat}
theorem hds_kd (k : KD σ s) (h : HDs σ) : HDs s := by
  have f1 : (s 0 64) = (σ 0 64) := k _ _ rfl rfl
  have e1 : (s 37) = (σ 37) := funext (fun j => k 37 j rfl rfl)
  have e2 : (s 38) = (σ 38) := funext (fun j => k 38 j rfl rfl)
  have e3 : (s 39) = (σ 39) := funext (fun j => k 39 j rfl rfl)
  unfold HDs
  rw [f1, e1, e2, e3]
  exact h
theorem fe_tl {e ty : Int32} {len : Int} (h : PA σ τ) (hd : HDs σ) (hln : 0 ≤ len) (hs : TL σ s) (h1 : e.toInt < 0 → (s 0 12).toInt = 0 → (s 0 15).toInt = 0 → False) (h2 : 0 ≤ e.toInt → Fi σ ≤ e.toInt ∧ e.toInt < (σ 0 36).toInt) (h3 : 0 ≤ e.toInt → (s 0 12).toInt = 0 → (s 0 15).toInt = 0 → ((σ 9) e.toNatClampNeg).toInt = 2 ∧ ((σ 10) e.toNatClampNeg).toInt = ty.toInt ∧ ((σ 15) e.toNatClampNeg).toInt = (σ 0 64).toInt) : FEx σ s τ vs e ty len := by
  have h9 := h
  obtain ⟨hT, hA, ⟨n1, n2, n3, n4, n5, n6, n7⟩, ⟨a1, a2, a3, a4, a5, a6, a7, a8, a9, b1, b2, b3⟩, hV⟩ := h9
  have kk : KD σ s := kp_sub hs.1 rfl rfl
  have same := hs.1
  have e36 : (s 0 36) = (σ 0 36) := same _ _ rfl rfl
  have e37 : (s 0 37) = (σ 0 37) := same _ _ rfl rfl
  have a21 : (s 21) = (σ 21) := funext (fun j => same 21 j rfl rfl)
  have a15 : (s 15) = (σ 15) := funext (fun j => same 15 j rfl rfl)
  have a18 : (s 18) = (σ 18) := funext (fun j => same 18 j rfl rfl)
  have a19 : (s 19) = (σ 19) := funext (fun j => same 19 j rfl rfl)
  have a10 : (s 10) = (σ 10) := funext (fun j => same 10 j rfl rfl)
  have a9' : (s 9) = (σ 9) := funext (fun j => same 9 j rfl rfl)
  have a17 : (s 17) = (σ 17) := funext (fun j => same 17 j rfl rfl)
  have a16 : (s 16) = (σ 16) := funext (fun j => same 16 j rfl rfl)
  have a14 : (s 14) = (σ 14) := funext (fun j => same 14 j rfl rfl)
  obtain ⟨u1, u2, u3, u4, u5⟩ := ur_kd (vs := vs) h kk (by rw [e36]; omega) (by rw [e37]; omega) (by rw [a21]; exact a3) (by rw [a15]; exact a4) (by unfold NMo; rw [a18, a19]; exact a5) (by rw [a10]; exact a7) (by unfold VTy; rw [a9', a10]; exact a8) (by rw [a17]; exact b1) (by rw [a16]; exact b2) hs.2 ⟨fun e _ => ⟨same 9 e rfl rfl, same 10 e rfl rfl, same 15 e rfl rfl, same 12 e rfl rfl, fun q => by rw [a14]; exact q⟩, fun n _ q => by rw [a21]; exact q, fun e _ => ⟨same 13 e rfl rfl, same 17 e rfl rfl⟩⟩
  have n31 : (s 0 31) = (σ 0 31) := same _ _ rfl rfl
  refine ⟨u1, u2, u3, u4, u5, e37, funext (fun j => same 25 j rfl rfl), by rw [n31]; omega, hds_kd kk hd, ⟨same _ _ rfl rfl, same _ _ rfl rfl⟩, h1, fun q => by rw [e36]; exact h2 q, fun q1 q2 q3 => by rw [a9', a10, a15]; exact h3 q1 q2 q3, fun f hg => good_ur u1 (fun q => by rw [e37]; exact itd_of (funext (fun j => same 25 j rfl rfl)) u4 q) (fun e e1 e2 e3 e4 => Or.inl ⟨by rw [← e36]; exact e2, ?_, same 17 e rfl rfl⟩) hg⟩
  have e13 : (s 13) e = (σ 13) e := same 13 e rfl rfl
  rw [← e13]; exact e4
theorem sp_fnNew {tk ty st : Int32} {J : Int32 → St → St → List Nat → Prop} (h : PA σ τ) (hd : HDs σ) (ht : 0 ≤ tk.toInt ∧ tk.toInt < 16002) (hl : ((σ 3) tk.toNatClampNeg).toInt ≤ ((σ 4) tk.toNatClampNeg).toInt) (hn : 0 ≤ (σ 0 31).toInt ∧ (σ 0 31).toInt + (((σ 4) tk.toNatClampNeg).toInt - ((σ 3) tk.toNatClampNeg).toInt) ≤ 60000) (hty : -1 ≤ ty.toInt ∧ ty.toInt ≤ 10) (k : ∀ r s, FEx σ s τ vs r ty (((σ 4) tk.toNatClampNeg).toInt - ((σ 3) tk.toNatClampNeg).toInt) → J r s τ vs) : wp_declare tk (2 : Int32) σ τ vs (fun v87 s87 t87 z87 => (v87.toInt < 0 → J v87 s87 t87 z87) ∧ (0 ≤ v87.toInt → ((0 ≤ v87.toInt ∧ v87.toInt < 10000) ∧ ((0 ≤ v87.toInt ∧ v87.toInt < 10000) ∧ ((0 ≤ v87.toInt ∧ v87.toInt < 10000) ∧ ∃ L127 : Nat → Int32 → St → St → List Nat → Prop, (∃ n, L127 n (0 : Int32) (upC (upC (upC s87 10 v87.toNatClampNeg ty) 12 v87.toNatClampNeg (vp_nar .boolean st)) 15 v87.toNatClampNeg (s87 0 64)) t87 z87) ∧ ∀ (n127 : Nat) (x6_127 : Int32) (s127 t127 : St) (z127 : List Nat), L127 n127 x6_127 s127 t127 z127 → (((s127 0 64).toInt ≤ x6_127.toInt → J v87 s127 t127 z127) ∧ (x6_127.toInt < (s127 0 64).toInt → ((0 ≤ x6_127.toInt ∧ x6_127.toInt < 8) ∧ ((0 ≤ (((8 : Int32) * v87) + x6_127).toInt ∧ (((8 : Int32) * v87) + x6_127).toInt < 80000) ∧ ∃ m, m < n127 ∧ L127 m (x6_127 + 1) (upC s127 16 (((8 : Int32) * v87) + x6_127).toNatClampNeg (s127 37 x6_127.toNatClampNeg)) t127 z127))))))))) := by
  have h9 := h
  obtain ⟨hT, hA, ⟨n1, n2, n3, n4, n5, n6, n7⟩, ⟨a1, a2, a3, a4, a5, a6, a7, a8, a9, b1, b2, b3⟩, hV⟩ := h9
  obtain ⟨⟨hd1, hd2⟩, hd3⟩ := id hd
  refine sp_declare h ht hl hn (fun s hs hf => ⟨fun _ => k _ s (fe_tl h hd (by omega) hs (fun _ => hf) (fun c => absurd c (by decide)) (fun c => absurd c (by decide))), fun c => absurd c (by decide)⟩) (fun e s he hlt dc => ⟨fun c => by omega, fun c => ⟨by omega, by omega, by omega, ?_⟩⟩)
  have nn : (e.toNatClampNeg : Int) = (σ 0 36).toInt := by rw [nt (by omega)]; exact he
  have ue := ue_dc h nn dc
  have fc := fc_dc h dc
  obtain ⟨p1, p2, p3, p4, p5, p6, p7, p8⟩ := dc
  have m8 := mul8 (x := e) c (by omega)
  have z0 : (0 : Int32).toInt = 0 := by decide
  have ehc : (s 0 64) = (σ 0 64) := p1 0 64 rfl rfl
  generalize hs3 : (upC (upC (upC s 10 e.toNatClampNeg ty) 12 e.toNatClampNeg (vp_nar .boolean st)) 15 e.toNatClampNeg (s 0 64)) = s3
  have x : ∀ c k, c ≠ 10 → c ≠ 15 → c ≠ 12 → s3 c k = s c k := fun c k q1 q2 q3 => by
    rw [← hs3, rdC, if_neg q2, rdC, if_neg q3, rdC, if_neg q1]
  have x10 : ∀ k, s3 10 k = if k = e.toNatClampNeg then ty else (σ 10) k := fun k => by
    have : (s 10) k = (σ 10) k := p1 10 k rfl rfl
    rw [← this, ← hs3, rdC, if_neg (by decide), rdC, if_neg (by decide), rdA]
  have x15 : ∀ k, s3 15 k = if k = e.toNatClampNeg then (σ 0 64) else (σ 15) k := fun k => by
    have : (s 15) k = (σ 15) k := p1 15 k rfl rfl
    rw [← this, ← hs3]
    simp only [rdC, Nat.reduceEqDiff, if_true, if_false]
    rw [ehc]
  have x12 : ∀ k, k ≠ e.toNatClampNeg → s3 12 k = (σ 12) k := fun k q => by
    have : (s 12) k = (σ 12) k := p1 12 k rfl rfl
    rw [← this, ← hs3, rdC, if_neg (by decide), rdA, if_neg q, rdC, if_neg (by decide)]
  have k3 : KD σ s3 := by rw [← hs3]; exact kp_a (kp_a (kp_a (kp_sub p1 rfl rfl) rfl) rfl) rfl
  have e16 : (s3 16) = (σ 16) := funext (fun j => by rw [x 16 j (by decide) (by decide) (by decide)]; exact p1 16 j rfl rfl)
  refine ⟨fun n y s' t' z' => (n : Int) = (σ 0 64).toInt - y.toInt ∧ (0 ≤ y.toInt ∧ y.toInt ≤ (σ 0 64).toInt) ∧ τ = t' ∧ vs = z' ∧ Kp [] [16] s3 s' ∧ AllIn 0 10 (s' 16), ⟨((σ 0 64).toInt).toNat, by rw [z0]; omega, by rw [z0]; omega, rfl, rfl, kp_rf, by rw [e16]; exact b2⟩, ?_⟩
  rintro n y s4 _ _ ⟨hn4, hy, rfl, rfl, k4, hA4⟩
  have hc4 : (s4 0 64) = (σ 0 64) := (k4 0 64 rfl rfl).trans (k3 0 64 rfl rfl)
  have kk : KD σ s4 := kp_tr k3 (kp_sub k4 rfl rfl)
  have hd4 := hds_kd kk hd
  rw [hc4]
  refine ⟨fun _ => k e s4 ?_, fun c5 => ?_⟩
  rotate_left 1
  · have a8' : (((8 : Int32) * e) + y).toInt = 8 * e.toInt + y.toInt := by rw [← m8]; exact ad (by omega) (by omega)
    have e1 : (y + 1).toInt = y.toInt + 1 := ad1 (by omega)
    have ny := nt hy.1
    have rg := (hd4.2 y.toNatClampNeg (by rw [hc4]; omega)).1
    exact ⟨by omega, by rw [a8']; omega, ((σ 0 64).toInt - y.toInt - 1).toNat, by omega, by omega, by omega, rfl, rfl, kp_a k4 rfl, acr_up hA4 rg⟩
  have x0 : ∀ j, s4 0 j = s 0 j := fun j => (k4 0 j rfl rfl).trans (x 0 j (by decide) (by decide) (by decide))
  have y9 : ∀ j, s4 9 j = s 9 j := fun j => (k4 9 j rfl rfl).trans (x 9 j (by decide) (by decide) (by decide))
  have y10 : ∀ j, s4 10 j = if j = e.toNatClampNeg then ty else (σ 10) j := fun j => (k4 10 j rfl rfl).trans (x10 j)
  have y15 : ∀ j, s4 15 j = if j = e.toNatClampNeg then (σ 0 64) else (σ 15) j := fun j => (k4 15 j rfl rfl).trans (x15 j)
  have y12 : ∀ j, j ≠ e.toNatClampNeg → s4 12 j = (σ 12) j := fun j q => (k4 12 j rfl rfl).trans (x12 j q)
  have e37 : (s4 0 37) = (σ 0 37) := by rw [x0]; exact p1 0 37 rfl rfl
  have e21 : (s4 21) = (s 21) := funext (fun j => (k4 21 j rfl rfl).trans (x 21 j (by decide) (by decide) (by decide)))
  have e17 : (s4 17) = (σ 17) := funext (fun j => ((k4 17 j rfl rfl).trans (x 17 j (by decide) (by decide) (by decide))).trans (p1 17 j rfl rfl))
  have e18 : (s4 18) = (s 18) := funext (fun j => (k4 18 j rfl rfl).trans (x 18 j (by decide) (by decide) (by decide)))
  have e19 : (s4 19) = (s 19) := funext (fun j => (k4 19 j rfl rfl).trans (x 19 j (by decide) (by decide) (by decide)))
  have e14 : ∀ j, s4 14 j = s 14 j := fun j => (k4 14 j rfl rfl).trans (x 14 j (by decide) (by decide) (by decide))
  have e13 : ∀ j, s4 13 j = s 13 j := fun j => (k4 13 j rfl rfl).trans (x 13 j (by decide) (by decide) (by decide))
  have ei : (s4 25) = (σ 25) := funext (fun j => ((k4 25 j rfl rfl).trans (x 25 j (by decide) (by decide) (by decide))).trans (p1 25 j rfl rfl))
  obtain ⟨ue1, ue2, ue3⟩ := ue
  obtain ⟨u1, u2, u3, u4, u5⟩ := ur_kd (vs := vs) h kk (by rw [x0]; omega) (by rw [e37]; omega) (by rw [e21]; exact fc) (fun j => by
    rw [y15]
    split
    · exact ⟨hd1, hd2⟩
    · exact a4 j) (by unfold NMo; rw [e18, e19]; exact p8) (fun j => by
    rw [y10]
    split
    · omega
    · exact a7 j) (fun j hj => by
    rw [y9, p4] at hj
    rw [y10]
    by_cases q : j = e.toNatClampNeg
    · rw [if_pos q] at hj
      exact absurd hj (by decide)
    · rw [if_neg q] at hj ⊢
      exact a8 j hj) (by rw [e17]; exact b1) hA4 (of_eq ((x0 12).trans (p1 0 12 rfl rfl))) ⟨fun j hj => by
    obtain ⟨d1, d2, d3, d4, d5⟩ := ue1 j hj
    exact ⟨by rw [y9]; exact d1, by rw [y10, if_neg (by omega)], by rw [y15, if_neg (by omega)], by rw [y12 j (by omega)], fun q => by rw [e14]; exact d5 q⟩, fun n hn9 q => by rw [e21]; exact ue2 n hn9 q, fun j hj => ⟨by rw [e13]; exact (ue3 j hj).1, by rw [e17]⟩⟩
  refine ⟨u1, u2, u3, u4, u5, e37, ei, by rw [x0]; omega, hd4, ⟨hc4, kk 0 45 rfl rfl⟩, fun c2 => by omega, fun _ => ⟨by omega, by rw [x0]; omega⟩, fun _ _ _ => ⟨?_, ?_, ?_⟩, fun f hg => good_ur u1 (fun q => by rw [e37]; exact itd_of ei u4 q) (fun j j1 j2 j3 j4 => ?_) hg⟩
  · rw [y9, p4, if_pos rfl]; decide
  · rw [y10, if_pos rfl]
  · rw [y15, if_pos rfl]
  · rw [e13, p5] at j4
    by_cases q : j = e.toNatClampNeg
    · rw [if_pos q] at j4
      exact absurd rfl j4
    · rw [if_neg q] at j4
      rw [x0] at j2
      exact Or.inl ⟨by omega, j4, by rw [e17]⟩
end FEN
