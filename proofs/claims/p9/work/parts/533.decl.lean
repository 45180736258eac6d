/-! declarations of locals -/
section DEC
variable {σ s s' τ t t' : St} {vs z z' : List Nat}
theorem sp_told {Q : Int32 → Prop} (h : PA σ τ) (hk : 2 ≤ kd σ) (k : ∀ r, Q r) : wp_told σ τ vs Q := by
  obtain ⟨g1, g2⟩ := nxt_ok h.1 h.2.1 hk
  have a1 := h.2.1
  have ht := h.1.2.1
  have e1 : ((σ 0 10) + (1 : Int32)).toInt = (σ 0 10).toInt + 1 := ad1 (by have := at_tok h.1 h.2.1; omega)
  have e2 : (((σ 0 10) + (1 : Int32)) + (1 : Int32)).toInt = (σ 0 10).toInt + 2 := by rw [ad1 (by have := at_tok h.1 h.2.1; omega), e1]; omega
  have a2 : (σ 0 10).toInt + 1 < (σ 0 8).toInt := by
    have := g1.2
    rw [nxt_at, e1] at this
    exact this
  have a0 := a1.1
  obtain ⟨-, -, -, -, -, -, h7, h8⟩ := h.1
  unfold wp_told
  refine ⟨by omega, fun _ => True, fun y _ _ => ⟨by omega, fun _ => ⟨by omega, fun _ => ?_, fun _ => k _⟩, fun _ => ⟨fun _ => k _, fun _ => ⟨by omega, k _⟩⟩⟩, ⟨True, fun _ => trivial, fun _ => trivial, fun _ => ⟨by omega, fun _ => trivial, fun _ => trivial⟩⟩⟩
  refine ⟨fun n x _ _ => (n : Int) = (σ 0 8).toInt - x.toInt ∧ 0 ≤ x.toInt ∧ x.toInt < (σ 0 8).toInt, ⟨((σ 0 8).toInt - (σ 0 10).toInt - 1).toNat, by omega, by omega, by omega⟩, fun n x c o ⟨q1, q2, q3⟩ => ⟨by omega, fun _ => k _, fun c0 => ⟨by omega, fun _ => k _, fun c1 => ⟨by omega, ?_⟩⟩⟩⟩
  have en := nt q2
  have k0 := (h7 x.toNatClampNeg (by omega)).2
  have k1 := (h8 x.toNatClampNeg (by omega) (by omega)).1
  have e3 := ad1 (x := x) (by omega)
  exact ⟨fun _ => True, fun _ _ => ⟨fun _ => True, fun _ _ => ⟨fun _ => ⟨fun _ => True, fun _ _ => ⟨n - 1, by omega, by omega, by omega, by omega⟩, fun _ => trivial, fun _ => ⟨fun _ => trivial, fun _ => trivial⟩⟩, fun _ => k _⟩, ⟨True, fun _ => trivial, fun _ => trivial, fun _ => ⟨fun _ => trivial, fun _ => ⟨fun _ => trivial, fun _ => trivial⟩⟩⟩⟩, ⟨True, fun _ => trivial, fun _ => trivial, fun _ => ⟨fun _ => trivial, fun _ => ⟨fun _ => trivial, fun _ => trivial⟩⟩⟩⟩
theorem sp_isHeldHere {b : Int32} {Q : Int32 → Prop} (h : PA σ τ) (hb : 0 ≤ b.toInt ∧ b.toInt < 16002) (k1 : Q 1) (k0 : Q 0) : wp_isHeldHere b σ τ vs Q := by
  obtain ⟨hT, -, ⟨-, -, ⟨n1, n2, n3⟩, -⟩, ⟨a1, -⟩, -⟩ := h
  have e0 := sb1 (x := (σ 0 53)) (by omega)
  unfold wp_isHeldHere
  refine ⟨fun n x => (n : Int) = x.toInt + 1 ∧ -1 ≤ x.toInt ∧ x.toInt < (σ 0 53).toInt, ⟨((σ 0 53).toInt).toNat, by omega, by omega, by omega⟩, fun n x ⟨q1, q2, q3⟩ => ⟨fun _ => k0, fun c => ⟨⟨c, by omega⟩, fun _ => k0, fun _ => ⟨⟨c, by omega⟩, ?_⟩⟩⟩⟩
  have t1 := a1 x.toNatClampNeg
  exact sp_isSame hT ⟨t1.1, by omega⟩ hb ⟨fun c => absurd c (by decide), fun _ => k1⟩ ⟨fun _ => ⟨n - 1, dn_step q1 c q3⟩, fun c => absurd rfl c⟩
/-- a size is looked at: nothing is told, no word stays -/
theorem kp_drop {x : Nat × Nat} {fs : List (Nat × Nat)} {cs : List Nat} (h : Kp (x :: fs) cs σ s) (he : s x.1 x.2 = σ x.1 x.2) : Kp fs cs σ s := fun c k h1 h2 => by
  by_cases e : (c, k) = x
  · subst e; exact he
  · refine h c k ?_ h2
    rw [List.contains_cons, h1, Bool.or_false]
    exact beq_eq_false_iff_ne.mpr e
theorem add_sub1 {x : Int32} (h : 0 ≤ x.toInt ∧ x.toInt < 1000) : (x + 1) - (1 : Int32) = x := by
  have e1 := ad1 (x := x) (by omega)
  have e2 := sb1 (x := x + 1) (by omega)
  exact ieq (by omega)
theorem sp_sizeAt {Q : Int32 → St → St → List Nat → Prop} {T : St → St → List Nat → Prop} (h : PA σ τ) (hS : (σ 0 15).toInt = 0) (hB : NB σ vs) (k : ∀ r s t z, RL σ vs s t z → NCt σ vs s z 0 → pos σ < pos s → (s 0 17) = (σ 0 17) → Q r s t z) (kT : ∀ s t z, RTt σ vs s t z → T s t z) : wp_sizeAt σ τ vs Q T := by
  have h9 := h
  obtain ⟨h1, h2, ⟨n1, n2, n3, n4, n5, n6, n7⟩, ⟨a1, a2, a3, a4, a5, a6, a7, a8, a9, b1, b2, b3⟩, h5⟩ := h9
  have e1 : ((σ 0 15) + (1 : Int32)).toInt = 1 := by rw [ad1 (by omega)]; omega
  -- the state in which it is looked at
  have hP1 : PA (upC σ 0 15 ((σ 0 15) + (1 : Int32))) τ := ⟨tk_kp (fs := [(0, 15)]) (cs := []) (kp_f kp_rf rfl) rfl rfl ⟨rfl, rfl, rfl, rfl, rfl⟩ rfl h1, h2, ⟨n1, n2, n3, n4, n5, n6, by rw [rdA_eq rfl, e1]; decide⟩, ⟨a1, a2, a3, a4, a5, a6, a7, a8, a9, b1, b2, b3⟩, h5⟩
  have hB1 : NB (upC σ 0 15 ((σ 0 15) + (1 : Int32))) vs := hB
  unfold wp_sizeAt
  refine sx_expr 1 _ τ vs _ T (by decide) hP1 hB1 (fun u s t z r => ?_) (fun s t z hs => kT _ _ _ ?_)
  · have r1 := r.1
    obtain ⟨g1, g2, g3, g4, g5, g6, g7, g8, g9, g10, g11⟩ := r1
    obtain ⟨p1, p2, ⟨m1, m2, m3, m4, m5, m6, m7⟩, ⟨c1, c2, c3, c4, c5, c6, c7, c8, c9, d1, d2, d3⟩, p5⟩ := g2
    have q1 := r.2.2.2.2.1
    have q2 := r.2.2.2.2.2.1
    have q3 := r.2.2.2.2.2.2.1
    have P1 : pos (upC σ 0 15 ((σ 0 15) + (1 : Int32))) = pos σ := rfl
    have es : (s 0 15) = (σ 0 15) + (1 : Int32) := g1 0 15 rfl rfl
    have s2s : (s 0 15) - (1 : Int32) = (σ 0 15) := by rw [es]; exact add_sub1 (by omega)
    have P2 : pos (upC (upC s 0 15 ((s 0 15) - (1 : Int32))) 0 17 (σ 0 17)) = pos s := rfl
    have rF : RL σ vs (upC (upC s 0 15 ((s 0 15) - (1 : Int32))) 0 17 (σ 0 17)) t z := by
      refine ⟨?_, ⟨tk_kp (fs := [(0, 15), (0, 17)]) (cs := []) (kp_f (kp_f kp_rf rfl) rfl) rfl rfl ⟨rfl, rfl, rfl, rfl, rfl⟩ rfl p1, p2, ⟨m1, m2, m3, m4, by rw [rdA_eq rfl]; exact n5, m6, by show 0 ≤ ((s 0 15) - (1 : Int32)).toInt; rw [s2s]; exact n7⟩, ⟨c1, c2, c3, c4, c5, c6, c7, c8, c9, d1, d2, d3⟩, p5⟩, g3, g4, g5, by rw [rdA_eq rfl]; exact Int.le_refl _, g7, g8, g9, g10, g11⟩
      refine kp_f ?_ rfl
      refine kp_drop (x := (0, 15)) ?_ ?_
      · exact kp_f (kp_tr (kp_f (p := 0) (k := 15) kp_rf rfl) (kp_sub g1 rfl rfl)) rfl
      · show upC s 0 15 ((s 0 15) - (1 : Int32)) 0 15 = _
        rw [rdA_eq rfl]
        exact s2s
    have kk : ∀ r9 : Int32, Q r9 (upC (upC s 0 15 ((s 0 15) - (1 : Int32))) 0 17 (σ 0 17)) t z := fun r9 => by
      refine k r9 _ _ _ rF ⟨?_, ?_, ?_⟩ ?_ (rdA_eq rfl)
      · rw [P2, show ((upC (upC s 0 15 ((s 0 15) - (1 : Int32))) 0 17 (σ 0 17)) 0 17) = (σ 0 17) from rdA_eq rfl]
        have := g8
        rw [P1] at this
        omega
      · show (s 0 39).toInt ≤ _
        rw [P2]
        rw [P1] at q2
        have q2' : (s 0 39).toInt + 6 ≤ (σ 0 39).toInt + 12 * (pos s - pos σ) := q2
        omega
      · rw [P2]
        rw [P1] at q3
        omega
      · rw [P2]
        rw [P1] at q1
        have g6' : (σ 0 17).toInt ≤ (s 0 17).toInt := g6
        have q1' : (s 0 17).toInt + 20 ≤ (σ 0 17).toInt + 40 * (pos s - pos σ) := q1
        omega
    exact ⟨r.2.2.1.1, fun _ => kk _, fun _ => sp_isInt r.2.2.1.1 (fun _ => ⟨fun _ => kk _, fun _ => ⟨fun _ => kk _, fun _ => kk _⟩⟩) (fun _ => ⟨fun _ => kk _, fun _ => ⟨fun _ => kk _, fun _ => kk _⟩⟩)⟩
  · -- it is cut off
    obtain ⟨⟨g1, g2, g3, g4, g5, g6, g7, g8, g9, g10, g11⟩, hz⟩ := hs
    obtain ⟨p1, p2, ⟨m1, m2, m3, m4, m5, m6, m7⟩, ⟨c1, c2, c3, c4, c5, c6, c7, c8, c9, d1, d2, d3⟩, p5⟩ := g2
    refine ⟨⟨upC s 0 15 (σ 0 15), ⟨?_, ⟨tk_kp (fs := [(0, 15)]) (cs := []) (kp_f kp_rf rfl) rfl rfl ⟨rfl, rfl, rfl, rfl, rfl⟩ rfl p1, p2, ⟨m1, m2, m3, m4, m5, m6, by show 0 ≤ ((σ 0 15)).toInt; exact n7⟩, ⟨c1, c2, c3, c4, c5, c6, c7, c8, c9, d1, d2, d3⟩, p5⟩, g3, g4, g5, g6, g7, g8, g9, g10, g11, ?_⟩, ?_⟩, hz⟩
    · refine kp_drop (x := (0, 15)) ?_ ?_
      · exact kp_f (kp_tr (kp_f (p := 0) (k := 15) kp_rf rfl) (kp_sub g1 rfl rfl)) rfl
      · show upC s 0 15 _ 0 15 = _
        rw [rdA_eq rfl]
    · have : (s 0 49) = (σ 0 49) := g1 0 49 rfl rfl
      show _ ≤ (s 0 49).toInt
      rw [this]; exact Int.le_refl _
    · rw [up_up]
      exact up_sil
end DEC
