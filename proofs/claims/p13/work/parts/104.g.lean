section
/-! the class's grammar: expressions -/
/-- a method of the group: from a token on it puts the steps that the grammar tells, or fails where that does -/
def SPg (kd : Nat → Int) (n : Nat) (K : KXq) (pre : Nat → Prop) (u : Int) (PR : Nat → Nat → List Stq → Option (Nat × List Stq) → Prop) : Prop :=
  ∀ (x : Int32) (d p : Nat) (L : List Stq) (σ : St) (Q : St → Prop), x.toInt = (d : Int) → d ≤ 25 → TKd σ kd n → GSt kd n σ p L → (L.length : Int) ≤ 2 * p + 70 → (0 ≤ (σ 3 9).toInt ∧ (σ 3 9).toInt ≤ 10 * (d : Int) - u) → pre p →
  (∀ s p' L', KGq σ s → PSq σ s → GSt kd n s p' L' → PR d p L (some (p', L')) → (L'.length : Int) + 2 * p + 1 ≤ L.length + 2 * p' → p < p' → Q s) → (∀ s, KGq σ s → GBd s → PR d p L none → Q s) → K x σ Q
def SPCg (kd : Nat → Int) (n : Nat) (K : Int32 → KXq) : Prop :=
  ∀ (nm x : Int32) (d p : Nat) (L : List Stq) (σ : St) (Q : St → Prop), x.toInt = (d : Int) → nm.toInt = (p : Int) → d ≤ 25 → TKd σ kd n → GSt kd n σ (p + 1) L → (L.length : Int) ≤ 2 * p + 70 → (0 ≤ (σ 3 9).toInt ∧ (σ 3 9).toInt ≤ 10 * (d : Int)) → kd p = 2 → kd (p + 1) = 20 →
  (∀ s p' L', KGq σ s → PSq σ s → GSt kd n s p' L' → PVq kd 4 d 0 p L (some (p', L')) → (L'.length : Int) + 2 * p + 1 ≤ L.length + 2 * p' → p < p' → Q s) → (∀ s, KGq σ s → GBd s → PVq kd 4 d 0 p L none → Q s) → K nm x σ Q
def SJg (K : KXq) : Prop := ∀ (x : Int32) (σ : St) (Q : St → Prop), GBd σ → (∀ s, KGq σ s → GBd s → Q s) → K x σ Q
section GXR
variable {kd : Nat → Int} {n : Nat} {Ka : Int32 → KXq} {Kb Kc Kd Ke Kf Kg Kh : KXq}
theorem ps2 {σ s : St} (k : Kp [(3, 1), (3, 2)] [] σ s) : PSq σ s := ⟨k 3 9 rfl rfl, fun j _ => k 22 j rfl rfl⟩
theorem ps4 {σ s : St} (k : Kp [(3, 4)] [18, 19, 20, 21] σ s) : PSq σ s := ⟨k 3 9 rfl rfl, fun j _ => k 22 j rfl rfl⟩
theorem kg2 {σ s : St} (k : Kp [(3, 1), (3, 2)] [] σ s) : KGq σ s := kp_sub k rfl rfl
theorem kg3 {σ s : St} (k : Kp [(3, 2), (3, 3)] [] σ s) : KGq σ s := kp_sub k rfl rfl
theorem kg4 {σ s : St} (k : Kp [(3, 4)] [18, 19, 20, 21] σ s) : KGq σ s := kp_sub k rfl rfl
theorem pen {σ s : St} {u : Int} (h : PSq σ s) (hp : 0 ≤ (σ 3 9).toInt ∧ (σ 3 9).toInt ≤ u) : 0 ≤ (s 3 9).toInt ∧ (s 3 9).toInt ≤ u := by rw [h.1]; exact hp
theorem ln1 {L : List Stq} {a : Stq} : ((L ++ [a]).length : Int) = (L.length : Int) + 1 := by
  rw [List.length_append]
  rfl
theorem lnS {L : List Stq} {a : Stq} : (L ++ [a]).length = L.length + 1 := by
  rw [List.length_append]
  rfl
theorem dn_ge {w : Int32} {a b : Int} (h0 : 0 < w.toInt) (h : w.toInt - 1 + a ≥ b) : (w + (-1)).toInt + a ≥ b := by
  rw [dc1 (by omega)]
  exact h
theorem pg_expr (hc : SPg kd n Kg (fun _ => True) 10 (fun d p L R => PVq kd 1 d 0 p L R)) (he : SPg kd n Kh (fun _ => True) 10 (fun d p L R => PVq kd 0 d 0 p L R)) (je : SJg Kh) : SPg kd n (pk_X3_expression Ka Kb Kc Kd Ke Kf Kg Kh) (fun _ => True) 10 (fun d p L R => PVq kd 0 d 0 p L R) := fun x d p L σ Q hx hd tk g hb hp _ k1 k0 => by
  unfold pk_X3_expression
  refine hc x d p L σ _ hx hd tk g hb hp trivial (fun s p1 L1 ks ps g1 v1 b1 l1 => ?_) (fun s ks gb v0 => ⟨fun _ => k0 s ks gb (pv_e0 v0), fun c => absurd c (by have := gb.2; omega)⟩)
  have e1 := g1.2.2.2.1
  have tk1 := tkd_k ks tk
  refine ⟨fun c => k1 s p1 L1 ks ps g1 (pv_e1 v1 (by omega)) b1 l1, fun c1 => ⟨fun c2 => k1 s p1 L1 ks ps g1 (pv_e1 v1 (by omega)) b1 l1, fun c2 => pg_deeper tk1 g1 (by omega) hx (fun s3 hd3 k3 g3 => ⟨fun z => absurd z (by decide), fun _ => ?_⟩) (fun s3 hd3 k3 gb3 => ⟨fun _ => k0 s3 (kp_tr ks (kg3 k3)) gb3 (pv_e2 v1 (by omega) hd3), fun z => absurd rfl z⟩)⟩⟩
  refine pg_add (a := stp 7 p1) g3 (by have := g1.2.2.1; have := tk.2.1; omega) (by rw [g1.2.1]; rfl) (fun v4 s4 k4 g4 _ => ?_)
  have q4 := kp_tr ks (kp_tr (kg2 k3) (kg4 k4))
  have r4 := psq_tr ps (psq_tr (ps2 k3) (ps4 k4))
  refine he (x + (1 : Int32)) (d + 1) (p1 + 1) _ s4 _ (by rw [ad1 (by omega)]; omega) (by omega) (tkd_k q4 tk) g4 (by rw [ln1]; omega) (by have := pen r4 hp; omega) trivial (fun s5 p2 L2 k5 r5 g5 v5 b5 l5 => ?_) (fun s5 k5 gb5 v5 => jk_add gb5 (fun _ s6 k6 gb6 => k0 s6 (kp_tr q4 (kp_tr k5 (kg4 k6))) gb6 (pv_e3 v1 (by omega) hd3 v5)))
  rw [ln1] at b5
  refine pg_add (a := stp 9 p1) g5 (by have := g5.2.2.1; have := tk.2.1; omega) (by rw [g1.2.1]; rfl) (fun v6 s6 k6 g6 _ => k1 s6 p2 _ (kp_tr q4 (kp_tr k5 (kg4 k6))) (psq_tr r4 (psq_tr r5 (ps4 k6))) g6 (pv_e3 v1 (by omega) hd3 v5) (by rw [ln1]; omega) (by omega))
theorem jg_expr (jc : SJg Kg) : SJg (pk_X3_expression Ka Kb Kc Kd Ke Kf Kg Kh) := fun x σ Q g k => by
  unfold pk_X3_expression
  exact jc x σ _ g (fun s ks gb => ⟨fun _ => k s ks gb, fun c => absurd c (by have := gb.2; omega)⟩)
theorem pg_choice (hb0 : SPg kd n Kf (fun _ => True) 10 (fun d p L R => PVq kd 7 d 1 p L R)) (he : SPg kd n Kh (fun _ => True) 10 (fun d p L R => PVq kd 0 d 0 p L R)) (hc : SPg kd n Kg (fun _ => True) 10 (fun d p L R => PVq kd 1 d 0 p L R)) (jc : SJg Kg) : SPg kd n (pk_X3_choice Ka Kb Kc Kd Ke Kf Kg Kh) (fun _ => True) 10 (fun d p L R => PVq kd 1 d 0 p L R) := fun x d p L σ Q hx hd tk g hb hp _ k1 k0 => by
  unfold pk_X3_choice
  refine hb0 x d p L σ _ hx hd tk g hb hp trivial (fun s p1 L1 ks ps g1 v1 b1 l1 => ?_) (fun s ks gb v0 => ⟨fun _ => k0 s ks gb (pv_c0 v0), fun c => absurd c (by have := gb.2; omega)⟩)
  have e1 := g1.2.2.2.1
  have tk1 := tkd_k ks tk
  refine ⟨fun c => k1 s p1 L1 ks ps g1 (pv_c1 v1 (by omega)) b1 l1, fun c1 => pg_deeper tk1 g1 (by omega) hx (fun s3 hd3 k3 g3 => ⟨fun z => absurd z (by decide), fun _ => ?_⟩) (fun s3 hd3 k3 gb3 => ⟨fun _ => k0 s3 (kp_tr ks (kg3 k3)) gb3 (pv_c2 v1 (by omega) hd3), fun z => absurd rfl z⟩)⟩
  refine pg_add (a := stp 14 p1) g3 (by have := g1.2.2.1; have := tk.2.1; omega) (by rw [g1.2.1]; rfl) (fun v4 s4 k4 g4 _ => ?_)
  have q4 := kp_tr ks (kp_tr (kg2 k3) (kg4 k4))
  have r4 := psq_tr ps (psq_tr (ps2 k3) (ps4 k4))
  have jt : ∀ s6, KGq σ s6 → GBd s6 → PVq kd 1 d 0 p L none → pk_X3_add (15 : Int32) (s 3 1) (0 : Int32) (0 : Int32) s6 (fun v56 s56 => Kg (x + (1 : Int32)) s56 (fun s64 => pk_X3_add (16 : Int32) (s 3 1) (0 : Int32) (0 : Int32) s64 (fun v73 s73 => Q s73))) := fun s6 k6 gb6 v6 => jk_add gb6 (fun _ s7 k7 gb7 => jc _ s7 _ gb7 (fun s8 k8 gb8 => jk_add gb8 (fun _ s9 k9 gb9 => k0 s9 (kp_tr k6 (kp_tr (kg4 k7) (kp_tr k8 (kg4 k9)))) gb9 v6)))
  refine he (x + (1 : Int32)) (d + 1) (p1 + 1) _ s4 _ (by rw [ad1 (by omega)]; omega) (by omega) (tkd_k q4 tk) g4 (by rw [ln1]; omega) (by have := pen r4 hp; omega) trivial (fun s5 p2 L2 k5 r5 g5 v5 b5 l5 => ?_) (fun s5 k5 gb5 v5 => jk_expect gb5 (by decide) (fun s6 k6 gb6 => jt s6 (kp_tr q4 (kp_tr k5 k6)) gb6 (pv_c3 v1 (by omega) hd3 v5)))
  rw [ln1] at b5
  have q5 := kp_tr q4 k5
  have r5' := psq_tr r4 r5
  refine pg_expect (tkd_k q5 tk) g5 (by decide) (fun s6 k6 c6 g6 => ?_) (fun s6 k6 c6 gb6 => jt s6 (kp_tr q5 (kg3 k6)) gb6 (pv_c4 v1 (by omega) hd3 v5 c6))
  refine pg_add (a := stp 15 p1) g6 (by have := g5.2.2.1; have := tk.2.1; omega) (by rw [g1.2.1]; rfl) (fun v7 s7 k7 g7 _ => ?_)
  have q7 := kp_tr q5 (kp_tr (kg2 k6) (kg4 k7))
  have r7 := psq_tr r5' (psq_tr (ps2 k6) (ps4 k7))
  refine hc (x + (1 : Int32)) (d + 1) (p2 + 1) _ s7 _ (by rw [ad1 (by omega)]; omega) (by omega) (tkd_k q7 tk) g7 (by rw [ln1]; omega) (by have := pen r7 hp; omega) trivial (fun s8 p3 L3 k8 r8 g8 v8 b8 l8 => ?_) (fun s8 k8 gb8 v8 => jk_add gb8 (fun _ s9 k9 gb9 => k0 s9 (kp_tr q7 (kp_tr k8 (kg4 k9))) gb9 (pv_c5 v1 (by omega) hd3 v5 c6 v8)))
  rw [ln1] at b8
  refine pg_add (a := stp 16 p1) g8 (by have := g8.2.2.1; have := tk.2.1; omega) (by rw [g1.2.1]; rfl) (fun v9 s9 k9 g9 _ => k1 s9 p3 _ (kp_tr q7 (kp_tr k8 (kg4 k9))) (psq_tr r7 (psq_tr r8 (ps4 k9))) g9 (pv_c5 v1 (by omega) hd3 v5 c6 v8) (by rw [ln1]; omega) (by omega))
theorem jg_choice (jb : SJg Kf) : SJg (pk_X3_choice Ka Kb Kc Kd Ke Kf Kg Kh) := fun x σ Q g k => by
  unfold pk_X3_choice
  exact jb x σ _ g (fun s ks gb => ⟨fun _ => k s ks gb, fun c => absurd c (by have := gb.2; omega)⟩)
theorem pg_cast (hu : SPg kd n Ke (fun _ => True) 0 (fun d p L R => PVq kd 2 d 0 p L R)) (ju : SJg Ke) : SPg kd n (pk_X3_cast Ka Kb Kc Kd Ke Kf Kg Kh) (fun p => kd p = 20 ∧ kd (p + 1) = 5) 0 (fun d p L R => PVq kd 2 d 0 p L R) := fun x d p L σ Q hx hd tk g hb hp hpre k1 k0 => by
  unfold pk_X3_cast
  have jt : ∀ s6, KGq σ s6 → GBd s6 → PVq kd 2 d 0 p L none → ∀ v19 : Int32, Ke (x + (1 : Int32)) s6 (fun s33 => pk_X3_add (12 : Int32) (σ 3 1) v19 (0 : Int32) s33 (fun v42 s42 => Q s42)) := fun s6 k6 gb6 v6 v19 => ju _ s6 _ gb6 (fun s8 k8 gb8 => jk_add gb8 (fun _ s9 k9 gb9 => k0 s9 (kp_tr k6 (kp_tr k8 (kg4 k9))) gb9 v6))
  refine pg_deeper tk g (by omega) hx (fun s3 hd3 k3 g3 => ⟨fun z => absurd z (by decide), fun _ => ?_⟩) (fun s3 hd3 k3 gb3 => ⟨fun _ => k0 s3 (kg3 k3) gb3 (pv_t0 hpre hd3), fun z => absurd rfl z⟩)
  refine pg_expect (tkd_k (kg2 k3) tk) g3 (by decide) (fun s4 k4 c4 g4 => ?_) (fun s4 k4 c4 gb4 => absurd hpre.2 c4)
  have q4 := kp_tr (kg2 k3) (kg2 k4)
  refine pg_stars (tkd_k q4 tk) g4 (fun v5 s5 t p1 k5 h5 e5 g5 l5 t5 => ?_) (fun v5 s5 k5 h5 gb5 => jk_expect gb5 (by decide) (fun s6 k6 gb6 => jt s6 (kp_tr q4 (kp_tr k5 k6)) gb6 (pv_t1 hpre hd3 h5) v5))
  have q5 := kp_tr q4 (kg2 k5)
  refine pg_expect (tkd_k q5 tk) g5 (by decide) (fun s6 k6 c6 g6 => ?_) (fun s6 k6 c6 gb6 => jt s6 (kp_tr q5 (kg3 k6)) gb6 (pv_t2 hpre hd3 h5 c6) v5)
  have q6 := kp_tr q5 (kg2 k6)
  have r6 := psq_tr (ps2 k3) (psq_tr (ps2 k4) (psq_tr (ps2 k5) (ps2 k6)))
  refine hu (x + (1 : Int32)) (d + 1) (p1 + 1) _ s6 _ (by rw [ad1 (by omega)]; omega) (by omega) (tkd_k q6 tk) g6 (by omega) (by have := pen r6 hp; omega) trivial (fun s7 p2 L2 k7 r7 g7 v7 b7 l7 => ?_) (fun s7 k7 gb7 v7 => jk_add gb7 (fun _ s9 k9 gb9 => k0 s9 (kp_tr q6 (kp_tr k7 (kg4 k9))) gb9 (pv_t3 hpre hd3 h5 c6 v7)))
  refine pg_add (a := (12, p, (t : Int), 0)) g7 (by have := g7.2.2.1; have := tk.2.1; omega) (by rw [g.2.1, e5]; rfl) (fun v9 s9 k9 g9 _ => k1 s9 p2 _ (kp_tr q6 (kp_tr k7 (kg4 k9))) (psq_tr r6 (psq_tr r7 (ps4 k9))) g9 (pv_t3 hpre hd3 h5 c6 v7) (by rw [ln1]; omega) (by omega))
theorem pg_unary (hbh : SPg kd n Kc (fun p => ¬ UNq (kd p) ∧ ¬ (kd p = 20 ∧ kd (p + 1) = 5)) 0 (fun d p L R => PVq kd 2 d 0 p L R)) (hk : SPg kd n Kd (fun p => kd p = 20 ∧ kd (p + 1) = 5) 0 (fun d p L R => PVq kd 2 d 0 p L R)) (hu : SPg kd n Ke (fun _ => True) 0 (fun d p L R => PVq kd 2 d 0 p L R)) : SPg kd n (pk_X3_unary Ka Kb Kc Kd Ke Kf Kg Kh) (fun _ => True) 0 (fun d p L R => PVq kd 2 d 0 p L R) := fun x d p L σ Q hx hd tk g hb hp _ k1 k0 => by
  have e1 := g.2.2.2.1
  unfold pk_X3_unary
  refine ⟨¬ UNq (kd p), fun hj => ⟨¬ (kd p = 20 ∧ kd (p + 1) = 5), fun h2 => hbh x d p L σ _ hx hd tk g hb hp ⟨hj, h2⟩ k1 k0, fun c => by omega, fun c => ?_⟩, UNq (kd p), fun hj => ?_, ?_⟩
  · have hlt : p < n := gst_kd tk g (by omega)
    have e2 : (atv 16002 (σ 13) ((σ 3 1) + (1 : Int32))).toInt = kd (p + 1) := by
      have h16 := tk.2.1
      rw [atv_at (j := p + 1) (by rw [ad0 i1 (by have := g.2.1; omega) (by have := g.2.1; omega), g.2.1]; rfl) (by omega)]
      exact tk.2.2.1 (p + 1) (by omega)
    rw [e2]
    exact ⟨fun c2 => by omega, fun c2 => hk x d p L σ _ hx hd tk g hb hp ⟨by omega, c2⟩ k1 k0⟩
  · refine pg_deeper tk g (by omega) hx (fun s3 hd3 k3 g3 => ⟨fun z => absurd z (by decide), fun _ => ?_⟩) (fun s3 hd3 k3 gb3 => ⟨fun _ => k0 s3 (kg3 k3) gb3 (pv_u0 hj hd3), fun z => absurd rfl z⟩)
    refine hu (x + (1 : Int32)) (d + 1) (p + 1) _ s3 _ (by rw [ad1 (by omega)]; omega) (by omega) (tkd_k (kg2 k3) tk) g3 (by omega) (by have := pen (ps2 k3) hp; omega) trivial (fun s7 p2 L2 k7 r7 g7 v7 b7 l7 => ?_) (fun s7 k7 gb7 v7 => jk_add gb7 (fun _ s9 k9 gb9 => k0 s9 (kp_tr (kg2 k3) (kp_tr k7 (kg4 k9))) gb9 (pv_u1 hj hd3 v7)))
    refine pg_add (a := stp 11 p) g7 (by have := g7.2.2.1; have := tk.2.1; omega) (by rw [g.2.1]; rfl) (fun v9 s9 k9 g9 _ => k1 s9 p2 _ (kp_tr (kg2 k3) (kp_tr k7 (kg4 k9))) (psq_tr (ps2 k3) (psq_tr r7 (ps4 k9))) g9 (pv_u1 hj hd3 v7) (by rw [ln1]; omega) (by omega))
  · repeat' (first | omega | (intro c; omega) | apply And.intro | intro _)
theorem jg_unary (jb : SJg Kc) : SJg (pk_X3_unary Ka Kb Kc Kd Ke Kf Kg Kh) := fun x σ Q g k => by
  have e1 := g.2
  unfold pk_X3_unary
  refine ⟨True, fun _ => ⟨True, fun _ => jb x σ _ g k, fun _ => trivial, fun c => by omega⟩, False, fun h => h.elim, ?_⟩
  repeat' (first | exact trivial | omega | (intro c; omega) | apply And.intro | intro _)
theorem pg_primary (hc : SPCg kd n Ka) (he : SPg kd n Kh (fun _ => True) 10 (fun d p L R => PVq kd 0 d 0 p L R)) : SPg kd n (pk_X3_primary Ka Kb Kc Kd Ke Kf Kg Kh) (fun _ => True) 0 (fun d p L R => PVq kd 4 d 0 p L R) := fun x d p L σ Q hx hd tk g hb hp _ k1 k0 => by
  have e1 := g.2.2.2.1
  have h16 := tk.2.1
  have hpn := g.2.2.1
  unfold pk_X3_primary
  refine ⟨kd p = 3 ∨ kd p = 4, fun hj => ⟨fun y => (y.toInt = 1 ∧ kd p = 3) ∨ (y.toInt = 2 ∧ kd p = 4), fun y hy => ?_, fun c => Or.inr ⟨by decide, by omega⟩, fun c => Or.inl ⟨by decide, by omega⟩⟩, fun c => ?_, fun c => ⟨fun c2 => Or.inl (by omega), fun c2 => ⟨fun c3 => Or.inr (by omega), fun c3 => ⟨fun c4 => ?_, fun c4 => pg_fail g (fun s ks gb => k0 s (kg3 ks) gb (pv_n (by omega)))⟩⟩⟩⟩
  · refine pg_add (a := stp y.toInt p) g (by omega) (by rw [g.2.1]; rfl) (fun v s ks gs _ => pg_adv (tkd_k (kg4 ks) tk) gs (by omega) (fun s2 k2 g2 => k1 s2 (p + 1) _ (kp_tr (kg4 ks) (kg2 k2)) (psq_tr (ps4 ks) (ps2 k2)) g2 ?_ (by rw [ln1]; omega) (by omega)))
    rcases hy with ⟨h1, h2⟩ | ⟨h1, h2⟩
    · rw [h1]
      exact pv_p3 h2
    · rw [h1]
      exact pv_p4 h2
  · refine pg_adv tk g (by omega) (fun s ks gs => ?_)
    have e2 := gs.2.2.2.1
    refine ⟨fun c2 => ?_, fun c2 => ?_⟩
    · exact pg_add (a := stp 3 p) gs (by omega) (by rw [g.2.1]; rfl) (fun v s2 k2 g2 _ => k1 s2 (p + 1) _ (kp_tr (kg2 ks) (kg4 k2)) (psq_tr (ps2 ks) (ps4 k2)) g2 (pv_p2 (by omega) (by omega)) (by rw [ln1]; omega) (by omega))
    · exact hc _ x d p L s _ hx g.2.1 hd (tkd_k (kg2 ks) tk) gs (by omega) (by have := pen (ps2 ks) hp; omega) (by omega) (by omega) (fun s2 p2 L2 k2 r2 g2 v2 b2 l2 => k1 s2 p2 L2 (kp_tr (kg2 ks) k2) (psq_tr (ps2 ks) r2) g2 v2 b2 l2) (fun s2 k2 gb2 v2 => k0 s2 (kp_tr (kg2 ks) k2) gb2 v2)
  · refine pg_deeper tk g (by omega) hx (fun s3 hd3 k3 g3 => ⟨fun z => absurd z (by decide), fun _ => ?_⟩) (fun s3 hd3 k3 gb3 => ⟨fun _ => k0 s3 (kg3 k3) gb3 (pv_r0 (by omega) hd3), fun z => absurd rfl z⟩)
    refine he (x + (1 : Int32)) (d + 1) (p + 1) _ s3 _ (by rw [ad1 (by omega)]; omega) (by omega) (tkd_k (kg2 k3) tk) g3 (by omega) (by have := pen (ps2 k3) hp; omega) trivial (fun s7 p2 L2 k7 r7 g7 v7 b7 l7 => ?_) (fun s7 k7 gb7 v7 => jk_expect gb7 (by decide) (fun s9 k9 gb9 => k0 s9 (kp_tr (kg2 k3) (kp_tr k7 k9)) gb9 (pv_r1 (by omega) hd3 v7)))
    have q7 := kp_tr (kg2 k3) k7
    exact pg_expect (tkd_k q7 tk) g7 (by decide) (fun s8 k8 c8 g8 => k1 s8 (p2 + 1) L2 (kp_tr q7 (kg2 k8)) (psq_tr (ps2 k3) (psq_tr r7 (ps2 k8))) g8 (pv_r3 (by omega) hd3 v7 c8) (by omega) (by omega)) (fun s8 k8 c8 gb8 => k0 s8 (kp_tr q7 (kg3 k8)) gb8 (pv_r2 (by omega) hd3 v7 c8))
theorem jg_primary : SJg (pk_X3_primary Ka Kb Kc Kd Ke Kf Kg Kh) := fun x σ Q g k => by
  have e1 := g.2
  unfold pk_X3_primary
  refine ⟨False, fun h => h.elim, fun c => by omega, fun c => ⟨fun c2 => by omega, fun c2 => ⟨fun c3 => by omega, fun c3 => ⟨fun c4 => by omega, fun c4 => jk_fail g k⟩⟩⟩⟩
theorem pg_call (he : SPg kd n Kh (fun _ => True) 10 (fun d p L R => PVq kd 0 d 0 p L R)) : SPCg kd n (pk_X3_call Ka Kb Kc Kd Ke Kf Kg Kh) := fun nm x d p L σ Q hx hnm hd tk g hb hp c1 c2 k1 k0 => by
  have e1 := g.2.2.2.1
  have h16 := tk.2.1
  have hpn := g.2.2.1
  unfold pk_X3_call
  refine pg_deeper tk g (by omega) hx (fun s3 hd3 k3 g3 => ⟨fun _ => ?_, fun z => absurd z (by decide)⟩) (fun s3 hd3 k3 gb3 => ⟨fun z => absurd rfl z, fun _ => k0 s3 (kg3 k3) gb3 (pv_k0 c1 c2 hd3)⟩)
  refine pg_add (a := stp 4 p) g3 (by omega) (by rw [hnm]; rfl) (fun v4 s4 k4 g4 _ => ?_)
  have q4 := kp_tr (kg2 k3) (kg4 k4)
  have r4 := psq_tr (ps2 k3) (ps4 k4)
  have e4 := g4.2.2.2.1
  have tk4 := tkd_k q4 tk
  have hcnt := tk4.1
  have hp4 := g4.2.2.1
  refine ⟨fun y => (y.toInt = 0 ∧ kd (p + 2) = 21) ∨ (y.toInt = 1 ∧ kd (p + 2) ≠ 21), fun y hy hy2 => ⟨fun z w s => KGq σ s ∧ ((z.toInt = 0 ∧ GBd s ∧ PVq kd 4 d 0 p L none) ∨ (PSq σ s ∧ ∃ p' L', GSt kd n s p' L' ∧ (L'.length : Int) + 2 * p ≤ L.length + 2 * p' ∧ p + 2 ≤ p' ∧
      ((z.toInt = 0 ∧ kd p' ≠ 21 ∧ PVq kd 4 d 0 p L none) ∨ (z.toInt = 0 ∧ kd p' = 21 ∧ PVq kd 4 d 0 p L (some (p' + 1, L' ++ [stp 6 p]))) ∨ (z.toInt = 1 ∧ (w.toInt + p' : Int) ≥ n + p + 3 ∧ ∀ R, PVq kd 5 d p p' L' R → PVq kd 4 d 0 p L R)))), ?_, ?_⟩, fun c => Or.inl ⟨by decide, ?_⟩, fun c => Or.inr ⟨by decide, ?_⟩⟩
  · refine ⟨q4, Or.inr ⟨r4, p + 2, _, g4, by rw [ln1]; omega, by omega, ?_⟩⟩
    rcases hy2 with ⟨h1, h2⟩ | ⟨h1, h2⟩
    · exact Or.inr (Or.inl ⟨h1, h2, pv_k1 c1 c2 hd3 h2⟩)
    · exact Or.inr (Or.inr ⟨h1, by omega, fun R hR => pv_k2 c1 c2 hd3 h2 hR⟩)
  · rintro z w s hz ⟨ks, h⟩
    have tks := tkd_k ks tk
    refine ⟨z.toInt = 0, fun hz0 => ?_, fun c => ?_, fun c => ⟨fun cz => cz, fun cz => ?_⟩⟩
    · rcases h with ⟨_, gb, v⟩ | ⟨ps, p', L', gs, b, l, h⟩
      · exact jk_expect gb (by decide) (fun s5 k5 gb5 => jk_add gb5 (fun _ s6 k6 gb6 => k0 s6 (kp_tr ks (kp_tr k5 (kg4 k6))) gb6 v))
      · rcases h with ⟨_, h2, v⟩ | ⟨_, h2, v⟩ | ⟨h1, _⟩
        · exact pg_expect tks gs (by decide) (fun s5 k5 c5 g5 => absurd c5 h2) (fun s5 k5 c5 gb5 => jk_add gb5 (fun _ s6 k6 gb6 => k0 s6 (kp_tr ks (kp_tr (kg3 k5) (kg4 k6))) gb6 v))
        · refine pg_expect tks gs (by decide) (fun s5 k5 c5 g5 => ?_) (fun s5 k5 c5 gb5 => absurd h2 c5)
          refine pg_add (a := stp 6 p) g5 (by have := gs.2.2.1; omega) (by rw [hnm]; rfl) (fun v6 s6 k6 g6 _ => k1 s6 (p' + 1) _ (kp_tr ks (kp_tr (kg2 k5) (kg4 k6))) (psq_tr ps (psq_tr (ps2 k5) (ps4 k6))) g6 v (by rw [ln1]; omega) (by omega))
        · omega
    · rcases h with ⟨h1, _⟩ | ⟨ps, p', L', gs, b, l, h⟩
      · exact h1
      · rcases h with ⟨h1, _⟩ | ⟨h1, _⟩ | ⟨h1, h2, _⟩
        · exact h1
        · exact h1
        · have := gs.2.2.1
          omega
    · rcases h with ⟨h1, _⟩ | ⟨ps, p', L', gs, b, l, h⟩
      · exact absurd h1 cz
      · rcases h with ⟨h1, _⟩ | ⟨h1, _⟩ | ⟨h1, h2, v⟩
        · exact absurd h1 cz
        · exact absurd h1 cz
        · refine he (x + (1 : Int32)) (d + 1) p' L' s _ (by rw [ad1 (by omega)]; omega) (by omega) tks gs (by omega) (by have := pen ps hp; omega) trivial (fun s5 p5 L5 k5 r5 g5 v5 b5 l5 => ?_) (fun s5 k5 gb5 v5 => jk_add gb5 (fun _ s6 k6 gb6 => jk_accept gb6 (by decide) ⟨kp_tr ks (kp_tr k5 (kg4 k6)), Or.inl ⟨by decide, gb6, v none (pv_a0 v5)⟩⟩))
          have q5 := kp_tr ks k5
          refine pg_add (a := stp 5 p) g5 (by have := g5.2.2.1; omega) (by rw [hnm]; rfl) (fun v6 s6 k6 g6 _ => ?_)
          have q6 := kp_tr q5 (kg4 k6)
          have r6 := psq_tr ps (psq_tr r5 (ps4 k6))
          refine pg_accept (tkd_k q6 tk) g6 (by decide) (fun s7 k7 c7 g7 => ⟨kp_tr q6 (kg2 k7), Or.inr ⟨psq_tr r6 (ps2 k7), p5 + 1, _, g7, by rw [ln1]; omega, by omega, Or.inr (Or.inr ⟨by decide, ?_, fun R hR => v R (pv_a1 v5 c7 hR)⟩)⟩⟩) (fun c7 => ⟨q6, Or.inr ⟨r6, p5, _, g6, by rw [ln1]; omega, by omega, ?_⟩⟩)
          · rw [dc1 (by omega)]
            omega
          · by_cases c21 : kd p5 = 21
            · exact Or.inr (Or.inl ⟨by decide, c21, v _ (pv_a2 v5 c21)⟩)
            · exact Or.inl ⟨by decide, c21, v _ (pv_a3 v5 c7 c21)⟩
  · rw [e4] at c
    exact c
  · rw [e4] at c
    exact c
theorem pg_behind (hp0 : SPg kd n Kb (fun _ => True) 0 (fun d p L R => PVq kd 4 d 0 p L R)) (he : SPg kd n Kh (fun _ => True) 10 (fun d p L R => PVq kd 0 d 0 p L R)) (je : SJg Kh) : SPg kd n (pk_X3_behind Ka Kb Kc Kd Ke Kf Kg Kh) (fun p => ¬ UNq (kd p) ∧ ¬ (kd p = 20 ∧ kd (p + 1) = 5)) 0 (fun d p L R => PVq kd 2 d 0 p L R) := fun x d p L σ Q hx hd tk g hb hp hpre k1 k0 => by
  have h16 := tk.2.1
  have hpn := g.2.2.1
  unfold pk_X3_behind
  -- what holds ahead of each sign behind
  have main : ∀ s, KGq σ s → (s 2 4).toInt = (n : Int) + 1 → ((GBd s ∧ PVq kd 2 d 0 p L none) ∨ (PSq σ s ∧ ∃ p' L', GSt kd n s p' L' ∧ (L'.length : Int) + 2 * p + 1 ≤ L.length + 2 * p' ∧ p < p' ∧ ∀ R, PVq kd 6 d 0 p' L' R → PVq kd 2 d 0 p L R)) → ∃ L15 : Int32 → Int32 → St → Prop, (L15 (1 : Int32) (s 2 4) s) ∧ ∀ (x2_15 : Int32) (x3_15 : Int32) (s15 : St), x2_15 = 0 ∨ x2_15 = 1 → L15 x2_15 x3_15 s15 → ((x3_15.toInt ≤ 0 → (Q s15)) ∧ (0 < x3_15.toInt → ((x2_15.toInt = 0 → (Q s15)) ∧ (x2_15.toInt ≠ 0 → (∃ J61 : Int32 → Prop, (∀ (y0_61 : Int32), y0_61 = 0 ∨ y0_61 = 1 → (J61 y0_61 → (∃ J136 : St → Prop, (∀ (s136 : St), J136 s136 → (L15 y0_61 (x3_15 + (-1)) s136)) ∧ (((s15 3 2).toInt ≠ 24 → ((y0_61.toInt = 0 → (J136 s15)) ∧ (y0_61.toInt ≠ 0 → (pk_X3_advance s15 (fun s122 => pk_X3_add (13 : Int32) (s15 3 1) (0 : Int32) (0 : Int32) s122 (fun v132 s132 => J136 s132)))))) ∧ ((s15 3 2).toInt = 24 → (pk_X3_deeper x s15 (fun v73 s73 => (v73.toInt = 0 → (J136 s73)) ∧ (v73.toInt ≠ 0 → (pk_X3_add (7 : Int32) (s15 3 1) (0 : Int32) (0 : Int32) s73 (fun v86 s86 => Kh (x + (1 : Int32)) s86 (fun s94 => pk_X3_expect (25 : Int32) s94 (fun s100 => pk_X3_add (10 : Int32) (s15 3 1) (0 : Int32) (0 : Int32) s100 (fun v110 s110 => J136 s110))))))))))))) ∧ (∃ J56 : Prop, (J56 → (J61 (1 : Int32))) ∧ (((s15 3 2).toInt = 24 → (J56)) ∧ ((s15 3 2).toInt ≠ 24 → (((s15 3 2).toInt = 61 → (J56)) ∧ ((s15 3 2).toInt ≠ 61 → (((s15 3 2).toInt ≠ 62 → (J61 (0 : Int32))) ∧ ((s15 3 2).toInt = 62 → (J56))))))))))))) := by
    intro s0 ks0 hcnt h0
    refine ⟨fun z w s => KGq σ s ∧ ((GBd s ∧ PVq kd 2 d 0 p L none) ∨ (PSq σ s ∧ ∃ p' L', GSt kd n s p' L' ∧ (L'.length : Int) + 2 * p + 1 ≤ L.length + 2 * p' ∧ p < p' ∧ ((z.toInt = 0 ∧ PVq kd 2 d 0 p L (some (p', L'))) ∨ (z.toInt = 1 ∧ (w.toInt + p' : Int) ≥ n + p + 2 ∧ ∀ R, PVq kd 6 d 0 p' L' R → PVq kd 2 d 0 p L R)))), ⟨ks0, ?_⟩, ?_⟩
    · rcases h0 with h0 | ⟨ps, p', L', gs, b, l, v⟩
      · exact Or.inl h0
      · exact Or.inr ⟨ps, p', L', gs, b, l, Or.inr ⟨by decide, by omega, v⟩⟩
    rintro z w s hz ⟨ks, h⟩
    have tks := tkd_k ks tk
    have fin : (w.toInt ≤ 0 ∨ z.toInt = 0) → Q s := fun hc => by
      rcases h with ⟨gb, v⟩ | ⟨ps, p', L', gs, b, l, h⟩
      · exact k0 s ks gb v
      · rcases h with ⟨h1, v⟩ | ⟨h1, h2, v⟩
        · exact k1 s p' L' ks ps gs v b l
        · have := gs.2.2.1
          omega
    refine ⟨fun c => fin (Or.inl c), fun c => ⟨fun cz => fin (Or.inr cz), fun cz => ?_⟩⟩
    rcases h with ⟨gb, v⟩ | ⟨ps, p', L', gs, b, l, h⟩
    · have e := gb.2
      exact ⟨fun y => y.toInt = 0, fun y _ hy => ⟨_, fun s1 h => h, fun _ => ⟨fun _ => ⟨ks, Or.inl ⟨gb, v⟩⟩, fun c => absurd hy c⟩, fun c => by omega⟩, False, fun f => f.elim, fun c => by omega, fun _ => ⟨fun c => by omega, fun _ => ⟨fun _ => by decide, fun c => by omega⟩⟩⟩
    · rcases h with ⟨h1, _⟩ | ⟨h1, h2, v⟩
      · exact absurd h1 cz
      have e := gs.2.2.2.1
      have hp' := gs.2.2.1
      refine ⟨fun y => (y.toInt = 1 ∧ (kd p' = 24 ∨ kd p' = 61 ∨ kd p' = 62)) ∨ (y.toInt = 0 ∧ ¬ (kd p' = 24 ∨ kd p' = 61 ∨ kd p' = 62)), fun y _ hy => ⟨_, fun s1 h => h, fun c1 => ⟨fun c2 => ?_, fun c2 => ?_⟩, fun c1 => ?_⟩, kd p' = 24 ∨ kd p' = 61 ∨ kd p' = 62, fun hj => Or.inl ⟨by decide, hj⟩, fun c => by omega, fun _ => ⟨fun c => by omega, fun _ => ⟨fun _ => Or.inr ⟨by decide, by omega⟩, fun c => by omega⟩⟩⟩
      · exact ⟨ks, Or.inr ⟨ps, p', L', gs, b, l, Or.inl ⟨c2, v _ (pv_h5 (by omega))⟩⟩⟩
      · have c3 : kd p' = 61 ∨ kd p' = 62 := by omega
        have hy1 : y.toInt = 1 := by omega
        refine pg_adv tks gs (by omega) (fun s5 k5 g5 => pg_add (a := stp 13 p') g5 (by omega) (by rw [gs.2.1]; rfl) (fun v6 s6 k6 g6 _ => ⟨kp_tr ks (kp_tr (kg2 k5) (kg4 k6)), Or.inr ⟨psq_tr ps (psq_tr (ps2 k5) (ps4 k6)), p' + 1, _, g6, by rw [ln1]; omega, by omega, Or.inr ⟨hy1, dn_ge c (by omega), fun R hR => v R (pv_h4 c3 hR)⟩⟩⟩))
      · have c3 : kd p' = 24 := by omega
        have hy1 : y.toInt = 1 := by omega
        refine pg_deeper tks gs (by omega) hx (fun s5 hd5 k5 g5 => ⟨fun z => absurd z (by decide), fun _ => ?_⟩) (fun s5 hd5 k5 gb5 => ⟨fun _ => ⟨kp_tr ks (kg3 k5), Or.inl ⟨gb5, v _ (pv_h0 c3 hd5)⟩⟩, fun z => absurd rfl z⟩)
        refine pg_add (a := stp 7 p') g5 (by omega) (by rw [gs.2.1]; rfl) (fun v6 s6 k6 g6 _ => ?_)
        have q6 := kp_tr ks (kp_tr (kg2 k5) (kg4 k6))
        have r6 := psq_tr ps (psq_tr (ps2 k5) (ps4 k6))
        refine he (x + (1 : Int32)) (d + 1) (p' + 1) _ s6 _ (by rw [ad1 (by omega)]; omega) (by omega) (tkd_k q6 tk) g6 (by rw [ln1]; omega) (by have := pen r6 hp; omega) trivial (fun s7 p7 L7 k7 r7 g7 v7 b7 l7 => ?_) (fun s7 k7 gb7 v7 => jk_expect gb7 (by decide) (fun s8 k8 gb8 => jk_add gb8 (fun _ s9 k9 gb9 => ⟨kp_tr q6 (kp_tr k7 (kp_tr k8 (kg4 k9))), Or.inl ⟨gb9, v _ (pv_h1 c3 hd5 v7)⟩⟩)))
        rw [ln1] at b7
        have q7 := kp_tr q6 k7
        refine pg_expect (tkd_k q7 tk) g7 (by decide) (fun s8 k8 c8 g8 => ?_) (fun s8 k8 c8 gb8 => jk_add gb8 (fun _ s9 k9 gb9 => ⟨kp_tr q7 (kp_tr (kg3 k8) (kg4 k9)), Or.inl ⟨gb9, v _ (pv_h2 c3 hd5 v7 c8)⟩⟩))
        exact pg_add (a := stp 10 p') g8 (by have := g7.2.2.1; omega) (by rw [gs.2.1]; rfl) (fun v9 s9 k9 g9 _ => ⟨kp_tr q7 (kp_tr (kg2 k8) (kg4 k9)), Or.inr ⟨psq_tr r6 (psq_tr r7 (psq_tr (ps2 k8) (ps4 k9))), p7 + 1, _, g9, by rw [ln1]; omega, by omega, Or.inr ⟨hy1, dn_ge c (by omega), fun R hR => v R (pv_h3 c3 hd5 v7 c8 hR)⟩⟩⟩)
  refine hp0 x d p L σ _ hx hd tk g hb hp trivial (fun s p1 L1 ks ps g1 v1 b1 l1 => main s ks (tkd_k ks tk).1 (Or.inr ⟨ps, p1, L1, g1, b1, l1, fun R hR => pv_b1 hpre.1 hpre.2 v1 hR⟩)) (fun s ks gb v0 => main s ks (tkd_k ks tk).1 (Or.inl ⟨gb, pv_b0 hpre.1 hpre.2 v0⟩))
theorem jg_behind (jp : SJg Kb) : SJg (pk_X3_behind Ka Kb Kc Kd Ke Kf Kg Kh) := fun x σ Q g k => by
  unfold pk_X3_behind
  refine jp x σ _ g (fun s0 ks0 gb0 => ⟨fun z w s => KGq σ s ∧ GBd s, ⟨ks0, gb0⟩, ?_⟩)
  rintro z w s hz ⟨ks, gb⟩
  have e := gb.2
  exact ⟨fun _ => k s ks gb, fun _ => ⟨fun _ => k s ks gb, fun _ => ⟨fun y => y.toInt = 0, fun y _ hy => ⟨_, fun s1 h => h, fun _ => ⟨fun _ => ⟨ks, gb⟩, fun c => absurd hy c⟩, fun c => by omega⟩, False, fun f => f.elim, fun c => by omega, fun _ => ⟨fun c => by omega, fun _ => ⟨fun _ => by decide, fun c => by omega⟩⟩⟩⟩⟩
end GXR
end

section
/-! the class's grammar: signs with two sides wait in a row; the levels' recursion gives the same steps -/
section GBN
variable {kd : Nat → Int} {n B d : Nat} {Ka : Int32 → KXq} {Kb Kc Kd Ke Kf Kg Kh : KXq} {σ s : St} {x v : Int32}
def OPq (kd : Nat → Int) (n B : Nat) (s : St) : List (Nat × Nat) → Prop
  | [] => True
  | a :: O => (s 22 (B + O.length)).toInt = (a.2 : Int) ∧ lvq (kd a.2) = (a.1 : Int) ∧ (O.length : Int) + 1 ≤ a.1 ∧ a.2 ≤ n ∧ OPq kd n B s O
/-- what is still to come, with these signs waiting -/
def FBq (kd : Nat → Int) (d : Nat) : List (Nat × Nat) → Nat → List Stq → Option (Nat × List Stq) → Prop
  | [], p, L, R => PVq kd 8 d 1 p L R
  | a :: O, p, L, R => (PVq kd 8 d (a.1 + 1) p L none ∧ R = none) ∨ ∃ p' L', PVq kd 8 d (a.1 + 1) p L (some (p', L')) ∧ FBq kd d O p' (L' ++ [stp 8 a.2]) R
theorem opq_k {t : St} : ∀ O : List (Nat × Nat), (∀ j, j < B + O.length → t 22 j = s 22 j) → OPq kd n B s O → OPq kd n B t O
  | [] => fun _ _ => trivial
  | a :: O => fun e h => by
    obtain ⟨h1, h2, h3, h4, h5⟩ := h
    exact ⟨by rw [e _ (by show B + O.length < B + (O.length + 1); omega)]; exact h1, h2, h3, h4, opq_k O (fun j hj => e j (by show j < B + (O.length + 1); omega)) h5⟩
/-- one sign more waits -/
theorem fb_push {O : List (Nat × Nat)} {p1 p2 l : Nat} {L1 L2 : List Stq} {R : Option (Nat × List Stq)} (hl : lvq (kd p1) = (l : Int)) (hl1 : 1 ≤ l) (ho : O = [] ∨ ∃ a O', O = a :: O' ∧ a.1 < l) (hu : PVq kd 2 d 0 (p1 + 1) (L1 ++ [stp 7 p1]) (some (p2, L2))) (h : FBq kd d ((l, p1) :: O) p2 L2 R) : FBq kd d O p1 L1 R := by
  have et : (lvq (kd p1)).toNat = l := by omega
  rcases h with ⟨h1, h2⟩ | ⟨p', L', h1, h2⟩
  · have h7 : PVq kd 7 d ((lvq (kd p1)).toNat + 1) (p1 + 1) (L1 ++ [stp 7 p1]) none := by rw [et]; exact pv_l1 hu h1
    subst h2
    rcases ho with ho | ⟨a, O', ho, ha⟩
    · subst ho
      exact pv_l3 (by omega) h7
    · subst ho
      exact Or.inl ⟨pv_l3 (by omega) h7, rfl⟩
  · have h7 : PVq kd 7 d ((lvq (kd p1)).toNat + 1) (p1 + 1) (L1 ++ [stp 7 p1]) (some (p', L')) := by rw [et]; exact pv_l1 hu h1
    rcases ho with ho | ⟨a, O', ho, ha⟩
    · subst ho
      exact pv_l4 (by omega) h7 h2
    · subst ho
      rcases h2 with ⟨q1, q2⟩ | ⟨p'', L'', q1, q2⟩
      · exact Or.inl ⟨pv_l4 (by omega) h7 q1, q2⟩
      · exact Or.inr ⟨p'', L'', pv_l4 (by omega) h7 q1, q2⟩
theorem fb_bad {O : List (Nat × Nat)} {p1 l : Nat} {L1 : List Stq} (hl : lvq (kd p1) = (l : Int)) (hl1 : 1 ≤ l) (ho : O = [] ∨ ∃ a O', O = a :: O' ∧ a.1 < l) (hu : PVq kd 2 d 0 (p1 + 1) (L1 ++ [stp 7 p1]) none) : FBq kd d O p1 L1 none := by
  rcases ho with ho | ⟨a, O', ho, ha⟩
  · subst ho
    exact pv_l3 (by omega) (pv_l0 hu)
  · subst ho
    exact Or.inl ⟨pv_l3 (by omega) (pv_l0 hu), rfl⟩
theorem pg_settle {Q : St → Prop} {a : Int32} {p1 : Nat} {L1 : List Stq} {O : List (Nat × Nat)} (tk : TKd σ kd n) (g : GSt kd n σ p1 L1) (ha : a.toInt = (B : Int)) (hB : B + O.length ≤ 400) (hL : (L1.length : Int) + O.length ≤ 32080) (ho : OPq kd n B σ O) (hp : (σ 3 9).toInt = (B : Int) + O.length) (hv : lvq (kd p1) ≤ v.toInt)
    (k : ∀ s O2 L2, Kp [(3, 4), (3, 9)] [18, 19, 20, 21] σ s → GSt kd n s p1 L2 → OPq kd n B s O2 → (s 3 9).toInt = (B : Int) + O2.length → (L2.length : Int) + O2.length = L1.length + O.length → O2.length ≤ O.length → (∀ R, FBq kd d O2 p1 L2 R → FBq kd d O p1 L1 R) → (O2 = [] ∨ ∃ b O', O2 = b :: O' ∧ (b.1 : Int) < v.toInt) → Q s) : pk_X3_settle a v σ Q := by
  have h16 := tk.2.1
  unfold pk_X3_settle
  refine ⟨fun s => Kp [(3, 4), (3, 9)] [18, 19, 20, 21] σ s ∧ ∃ O2 L2, GSt kd n s p1 L2 ∧ OPq kd n B s O2 ∧ (s 3 9).toInt = (B : Int) + O2.length ∧ (L2.length : Int) + O2.length = L1.length + O.length ∧ O2.length ≤ O.length ∧ (∀ R, FBq kd d O2 p1 L2 R → FBq kd d O p1 L1 R), ⟨kp_rf, O, L1, g, ho, hp, rfl, Nat.le_refl _, fun R h => h⟩, ?_⟩
  rintro s ⟨ks, O2, L2, g2, o2, p2, b2, l2, f2⟩
  match O2, o2, p2, b2, l2, f2 with
  | [], o2, p2, b2, l2, f2 => exact ⟨fun _ => k s [] L2 ks g2 o2 p2 b2 l2 f2 (Or.inl rfl), fun c => by have : ((([] : List (Nat × Nat)).length : Nat) : Int) = 0 := rfl; omega⟩
  | b :: O3, o2, p2, b2, l2, f2 =>
    have el : (b :: O3).length = O3.length + 1 := rfl
    rw [el] at p2 b2 l2
    obtain ⟨h1, h2, h3, h4, h5⟩ := o2
    have e1 : ((s 3 9) - (1 : Int32)).toInt = ((B + O3.length : Nat) : Int) := by rw [sb1 (by omega)]; omega
    have e2 : atv 400 (s 22) ((s 3 9) - (1 : Int32)) = s 22 (B + O3.length) := atv_at e1 (by omega)
    have tks := tkd_k (kp_sub ks rfl rfl) tk
    have e3 : atv 16002 (s 13) (s 22 (B + O3.length)) = s 13 b.2 := atv_at h1 (by omega)
    have e4 : (s 13 b.2).toInt = kd b.2 := tks.2.2.1 b.2 h4
    refine ⟨fun c => by omega, fun c => ?_⟩
    rw [e2, e3]
    refine pg_levelOf (by have := kd_r tk b.2; omega) (fun w hw => ⟨fun c2 => ?_, fun c2 => k s (b :: O3) L2 ks g2 ⟨h1, h2, h3, h4, h5⟩ (by rw [p2, el]) (by rw [el]; exact b2) (by rw [el]; exact l2) f2 (Or.inr ⟨b, O3, rfl, by rw [e4] at hw; omega⟩)⟩)
    rw [e4, h2] at hw
    refine pg_add (a := stp 8 b.2) g2 (by omega) (by rw [h1]; rfl) (fun v3 s3 k3 g3 _ => ?_)
    have k4 : Kp [(3, 9)] [] s3 (upC s3 3 9 ((s3 3 9) - (1 : Int32))) := kp_f kp_rf rfl
    have e9 : s3 3 9 = s 3 9 := k3 3 9 rfl rfl
    have e22 : ∀ j, upC s3 3 9 ((s3 3 9) - (1 : Int32)) 22 j = s 22 j := fun j => (k4 22 j rfl rfl).trans (k3 22 j rfl rfl)
    have e99 : (upC s3 3 9 ((s3 3 9) - (1 : Int32)) 3 9).toInt = (B : Int) + O3.length := by
      rw [rdA_eq rfl, e9, e1]
      omega
    generalize upC s3 3 9 ((s3 3 9) - (1 : Int32)) = s4 at k4 e22 e99
    refine ⟨kp_tr ks (kp_tr (kp_sub k3 rfl rfl) (kp_sub k4 rfl rfl)), O3, _, gst_k g3 (kp_sub k4 rfl rfl), opq_k O3 (fun j _ => e22 j) h5, e99, by rw [ln1]; omega, by omega, fun R hR => f2 R (Or.inr ⟨p1, L2, pv_l2 (by omega), hR⟩)⟩
theorem jk_levelOf {Q : Int32 → Prop} (k : ∀ v, Q v) : pk_X3_levelOf x σ Q := by
  unfold pk_X3_levelOf
  exact ⟨fun c => k _, fun c => ⟨fun c2 => k _, fun c2 _ => k _⟩⟩
theorem jk_settle {Q : St → Prop} {a : Int32} (g : GBd σ) (k : ∀ s, KGq σ s → GBd s → Q s) : pk_X3_settle a v σ Q := by
  unfold pk_X3_settle
  refine ⟨fun s => KGq σ s ∧ GBd s, ⟨kp_rf, g⟩, ?_⟩
  rintro s ⟨ks, gs⟩
  refine ⟨fun _ => k s ks gs, fun _ => jk_levelOf (fun w => ⟨fun _ => jk_add gs (fun _ s2 k2 g2 => ?_), fun _ => k s ks gs⟩)⟩
  have k4 : Kp [(3, 9)] [] s2 (upC s2 3 9 ((s2 3 9) - (1 : Int32))) := kp_f kp_rf rfl
  exact ⟨kp_tr ks (kp_tr (kg4 k2) (kp_sub k4 rfl rfl)), gbd_k g2 (kp_sub k4 rfl rfl)⟩
theorem jg_binary (ju : SJg Ke) : SJg (pk_X3_binary Ka Kb Kc Kd Ke Kf Kg Kh) := fun x σ Q g k => by
  unfold pk_X3_binary
  refine ju x σ _ g (fun s0 k0 g0 => ⟨fun _ s => KGq σ s ∧ GBd s, ⟨k0, g0⟩, ?_⟩)
  rintro w s ⟨ks, gs⟩
  have e := gs.2
  have hl : ∀ v : Int32, v.toInt = lvq (s 3 2).toInt → v.toInt = 0 := fun v h => by
    rw [h, e]
    decide
  refine ⟨True, fun _ => jk_settle gs (fun s2 k2 g2 => k s2 (kp_tr ks k2) g2), fun _ => trivial, fun _ => pg_levelOf (by omega) (fun v hv => ⟨fun _ => trivial, fun c => by have := hl v hv; omega⟩)⟩
theorem pg_binary (hu : SPg kd n Ke (fun _ => True) 0 (fun d p L R => PVq kd 2 d 0 p L R)) : SPg kd n (pk_X3_binary Ka Kb Kc Kd Ke Kf Kg Kh) (fun _ => True) 10 (fun d p L R => PVq kd 7 d 1 p L R) := fun x d p L σ Q hx hd tk g hb hp _ k1 k0 => by
  have h16 := tk.2.1
  obtain ⟨B, hB⟩ : ∃ B : Nat, (σ 3 9).toInt = B := ⟨(σ 3 9).toInt.toNat, by omega⟩
  unfold pk_X3_binary
  have main : ∀ s0, KGq σ s0 → ((GBd s0 ∧ PVq kd 7 d 1 p L none) ∨ (PSq σ s0 ∧ ∃ p' L', GSt kd n s0 p' L' ∧ (L'.length : Int) + 2 * p + 1 ≤ L.length + 2 * p' ∧ p < p' ∧ ∀ R, PVq kd 8 d 1 p' L' R → PVq kd 7 d 1 p L R)) → ∃ L18 : Int32 → St → Prop, (L18 (s0 2 4) s0) ∧ ∀ (x3_18 : Int32) (s18 : St), L18 x3_18 s18 → (∃ J97 : Prop, (J97 → (pk_X3_settle (σ 3 9) (0 : Int32) s18 (fun s100 => Q s100))) ∧ ((x3_18.toInt ≤ 0 → (J97)) ∧ (0 < x3_18.toInt → (pk_X3_levelOf (s18 3 2) s18 (fun v26 => (v26.toInt ≤ 0 → (J97)) ∧ (0 < v26.toInt → (pk_X3_levelOf (s18 3 2) s18 (fun v38 => pk_X3_settle (σ 3 9) v38 s18 (fun s41 => pk_X3_add (7 : Int32) (s41 3 1) (0 : Int32) (0 : Int32) (upC (upF s41 22 (setv 400 (s41 22) (s41 3 9) (s41 3 1))) 3 9 ((s41 3 9) + (1 : Int32))) (fun v78 s78 => pk_X3_advance s78 (fun s83 => Ke x s83 (fun s88 => L18 (x3_18 + (-1)) s88)))))))))))) := by
    intro s0 ks0 h0
    have hc0 := (tkd_k ks0 tk).1
    refine ⟨fun w s => KGq σ s ∧ ((GBd s ∧ PVq kd 7 d 1 p L none) ∨ ((∀ j : Nat, j < B → s 22 j = σ 22 j) ∧ ∃ O p' L', GSt kd n s p' L' ∧ OPq kd n B s O ∧ (s 3 9).toInt = (B : Int) + O.length ∧ O.length ≤ 10 ∧ (L'.length : Int) + O.length + 2 * p + 1 ≤ L.length + 2 * p' ∧ p < p' ∧ (w.toInt + p' : Int) ≥ n + p + 2 ∧ ∀ R, FBq kd d O p' L' R → PVq kd 7 d 1 p L R)), ⟨ks0, ?_⟩, ?_⟩
    · rcases h0 with h0 | ⟨ps, p', L', gs, b, l, v⟩
      · exact Or.inl h0
      · exact Or.inr ⟨fun j hj => ps.2 j (by omega), [], p', L', gs, trivial, by rw [ps.1, hB]; rfl, by decide, by show (L'.length : Int) + ((0 : Nat) : Int) + 2 * p + 1 ≤ _; omega, l, by omega, v⟩
    rintro w s ⟨ks, h⟩
    have tks := tkd_k ks tk
    rcases h with ⟨gb, v⟩ | ⟨hops, O, p', L', gs, o, pe, ol, b, l, cw, f⟩
    · have e := gb.2
      have hl : ∀ v : Int32, v.toInt = lvq (s 3 2).toInt → v.toInt = 0 := fun v h => by
        rw [h, e]
        decide
      exact ⟨True, fun _ => jk_settle gb (fun s2 k2 g2 => k0 s2 (kp_tr ks k2) g2 v), fun _ => trivial, fun _ => pg_levelOf (by omega) (fun v2 hv => ⟨fun _ => trivial, fun c => by have := hl v2 hv; omega⟩)⟩
    have e := gs.2.2.2.1
    have hp' := gs.2.2.1
    have hkr := kd_r tk p'
    have lr := lvq_r (kd p')
    refine ⟨lvq (kd p') ≤ 0, fun hj => ?_, fun c => by omega, fun c => pg_levelOf (by omega) (fun v2 hv2 => ⟨fun c2 => by rw [e] at hv2; omega, fun c2 => pg_levelOf (by omega) (fun v3 hv3 => ?_)⟩)⟩
    · refine pg_settle (d := d) (O := O) tks gs hB (by omega) (by omega) o pe (by rw [i0]; exact hj) (fun s2 O2 L2 k2 g2 o2 p2 b2 l2 f2 e2 => ?_)
      have : O2 = [] := by
        rcases e2 with q | ⟨b, O', q, q2⟩
        · exact q
        · rw [i0] at q2
          omega
      subst this
      have b3 : (L2.length : Int) + ((0 : Nat) : Int) = L'.length + O.length := b2
      refine k1 s2 p' L2 (kp_tr ks (kp_sub k2 rfl rfl)) ⟨ieq ?_, fun j hj => ?_⟩ g2 (f _ (f2 _ (pv_l2 (by omega)))) (by omega) l
      · rw [p2, hB]
        show (B : Int) + ((0 : Nat) : Int) = B
        omega
      · exact (k2 22 j rfl rfl).trans (hops j (by omega))
    · rw [e] at hv3 hv2
      refine pg_settle (d := d) (O := O) tks gs hB (by omega) (by omega) o pe (by omega) (fun s2 O2 L2 k2 g2 o2 p2 b2 l2 f2 e2 => ?_)
      obtain ⟨lv, hlv⟩ : ∃ lv : Nat, lvq (kd p') = lv := ⟨(lvq (kd p')).toNat, by omega⟩
      have ho2 : O2 = [] ∨ ∃ a O', O2 = a :: O' ∧ a.1 < lv := by
        rcases e2 with q | ⟨b, O', q, q2⟩
        · exact Or.inl q
        · exact Or.inr ⟨b, O', q, by omega⟩
      have hol : (O2.length : Int) + 1 ≤ lv := by
        rcases ho2 with q | ⟨a, O', q, q2⟩
        · rw [q]
          show ((0 : Nat) : Int) + 1 ≤ _
          omega
        · rw [q] at o2 ⊢
          have := o2.2.2.1
          show ((O'.length + 1 : Nat) : Int) + 1 ≤ _
          omega
      have e91 := g2.2.1
      have hsv : setv 400 (s2 22) (s2 3 9) (s2 3 1) = fun j => if j = B + O2.length then s2 3 1 else s2 22 j := setv_at (by rw [p2]; omega) (by omega)
      rw [hsv]
      have kz : Kp [(3, 9)] [22] s2 (upC (upF s2 22 (fun j => if j = B + O2.length then s2 3 1 else s2 22 j)) 3 9 ((s2 3 9) + (1 : Int32))) := kp_f (kp_F kp_rf rfl) rfl
      have z22 : ∀ j, upC (upF s2 22 (fun j => if j = B + O2.length then s2 3 1 else s2 22 j)) 3 9 ((s2 3 9) + (1 : Int32)) 22 j = if j = B + O2.length then s2 3 1 else s2 22 j := fun j => by rw [rdC_ne (by decide), rdF_eq]
      have z39 : (upC (upF s2 22 (fun j => if j = B + O2.length then s2 3 1 else s2 22 j)) 3 9 ((s2 3 9) + (1 : Int32)) 3 9).toInt = (B : Int) + O2.length + 1 := by
        rw [rdA_eq rfl, ad0 i1 (by omega) (by omega), p2]
      generalize upC (upF s2 22 (fun j => if j = B + O2.length then s2 3 1 else s2 22 j)) 3 9 ((s2 3 9) + (1 : Int32)) = s3 at kz z22 z39
      have g3 : GSt kd n s3 p' L2 := gst_k g2 (kp_sub kz rfl rfl)
      have q3 : KGq σ s3 := kp_tr ks (kp_tr (kp_sub k2 rfl rfl) (kp_sub kz rfl rfl))
      refine pg_add (a := stp 7 p') g3 (by omega) (by rw [e91]; rfl) (fun v4 s4 k4 g4 _ => pg_adv (tkd_k (kp_tr q3 (kg4 k4)) tk) g4 (by omega) (fun s5 k5 g5 => ?_))
      have q5 := kp_tr q3 (kp_tr (kg4 k4) (kg2 k5))
      have r5 : PSq s3 s5 := psq_tr (ps4 k4) (ps2 k5)
      have o5 : OPq kd n B s5 ((lv, p') :: O2) := by
        refine ⟨?_, hlv, hol, hp', opq_k (s := s2) O2 (fun j hj => ?_) o2⟩
        · rw [r5.2 _ (by show ((B + O2.length : Nat) : Int) < _; omega), z22, if_pos rfl]
          exact e91
        · rw [r5.2 _ (by omega), z22, if_neg (by omega)]
      refine hu x d (p' + 1) _ s5 _ hx hd (tkd_k q5 tk) g5 (by rw [ln1]; omega) (by rw [r5.1]; omega) trivial (fun s6 p6 L6 k6 r6 g6 v6 b6 l6 => ?_) (fun s6 k6 gb6 v6 => ⟨kp_tr q5 k6, Or.inl ⟨gb6, f _ (f2 _ (fb_bad hlv (by omega) ho2 v6))⟩⟩)
      rw [ln1] at b6
      have el : (((lv, p') :: O2).length : Int) = O2.length + 1 := rfl
      refine ⟨kp_tr q5 k6, Or.inr ⟨fun j hj => ?_, (lv, p') :: O2, p6, L6, g6, ?_, ?_, ?_, ?_, by omega, ?_, fun R hR => f _ (f2 _ (fb_push hlv (by omega) ho2 v6 hR))⟩⟩
      · rw [r6.2 j (by rw [r5.1]; omega), r5.2 j (by omega), z22, if_neg (by omega)]
        exact (k2 22 j rfl rfl).trans (hops j hj)
      · exact opq_k _ (fun j hj => r6.2 j (by rw [r5.1]; have : j < B + (O2.length + 1) := hj; omega)) o5
      · rw [r6.1, r5.1, z39, el]
        omega
      · show O2.length + 1 ≤ 10
        omega
      · rw [el]
        omega
      · exact dn_ge c (by omega)
  refine hu x d p L σ _ hx hd tk g hb (by omega) trivial (fun s p1 L1 ks ps g1 v1 b1 l1 => main s ks (Or.inr ⟨ps, p1, L1, g1, b1, l1, fun R hR => pv_l1 v1 hR⟩)) (fun s ks gb v0 => main s ks (Or.inl ⟨gb, pv_l0 v0⟩))
end GBN
/-! the group -/
theorem pg_KVA {kd : Nat → Int} {n : Nat} : ∀ m, SPCg kd n ((PKVA m).1) ∧ (SPg kd n ((PKVA m).2.1) (fun _ => True) 0 (fun d p L R => PVq kd 4 d 0 p L R) ∧ SJg ((PKVA m).2.1)) ∧ (SPg kd n ((PKVA m).2.2.1) (fun p => ¬ UNq (kd p) ∧ ¬ (kd p = 20 ∧ kd (p + 1) = 5)) 0 (fun d p L R => PVq kd 2 d 0 p L R) ∧ SJg ((PKVA m).2.2.1)) ∧ SPg kd n ((PKVA m).2.2.2.1) (fun p => kd p = 20 ∧ kd (p + 1) = 5) 0 (fun d p L R => PVq kd 2 d 0 p L R) ∧ (SPg kd n ((PKVA m).2.2.2.2.1) (fun _ => True) 0 (fun d p L R => PVq kd 2 d 0 p L R) ∧ SJg ((PKVA m).2.2.2.2.1)) ∧ (SPg kd n ((PKVA m).2.2.2.2.2.1) (fun _ => True) 10 (fun d p L R => PVq kd 7 d 1 p L R) ∧ SJg ((PKVA m).2.2.2.2.2.1)) ∧ (SPg kd n ((PKVA m).2.2.2.2.2.2.1) (fun _ => True) 10 (fun d p L R => PVq kd 1 d 0 p L R) ∧ SJg ((PKVA m).2.2.2.2.2.2.1)) ∧ (SPg kd n ((PKVA m).2.2.2.2.2.2.2) (fun _ => True) 10 (fun d p L R => PVq kd 0 d 0 p L R) ∧ SJg ((PKVA m).2.2.2.2.2.2.2))
  | 0 => ⟨fun _ _ _ _ _ _ _ _ _ _ _ _ _ _ _ _ _ _ => trivial, ⟨fun _ _ _ _ _ _ _ _ _ _ _ _ _ _ _ => trivial, fun _ _ _ _ _ => trivial⟩, ⟨fun _ _ _ _ _ _ _ _ _ _ _ _ _ _ _ => trivial, fun _ _ _ _ _ => trivial⟩, fun _ _ _ _ _ _ _ _ _ _ _ _ _ _ _ => trivial, ⟨fun _ _ _ _ _ _ _ _ _ _ _ _ _ _ _ => trivial, fun _ _ _ _ _ => trivial⟩, ⟨fun _ _ _ _ _ _ _ _ _ _ _ _ _ _ _ => trivial, fun _ _ _ _ _ => trivial⟩, ⟨fun _ _ _ _ _ _ _ _ _ _ _ _ _ _ _ => trivial, fun _ _ _ _ _ => trivial⟩, ⟨fun _ _ _ _ _ _ _ _ _ _ _ _ _ _ _ => trivial, fun _ _ _ _ _ => trivial⟩⟩
  | m + 1 => by
    obtain ⟨ha, ⟨hb, jb⟩, ⟨hc, jc⟩, hd, ⟨he, je⟩, ⟨hf, jf⟩, ⟨hg, jg⟩, hh, jh⟩ := pg_KVA (kd := kd) (n := n) m
    exact ⟨pg_call (Ka := (PKVA m).1) (Kb := (PKVA m).2.1) (Kc := (PKVA m).2.2.1) (Kd := (PKVA m).2.2.2.1) (Ke := (PKVA m).2.2.2.2.1) (Kf := (PKVA m).2.2.2.2.2.1) (Kg := (PKVA m).2.2.2.2.2.2.1) (Kh := (PKVA m).2.2.2.2.2.2.2) hh, ⟨pg_primary (Ka := (PKVA m).1) (Kb := (PKVA m).2.1) (Kc := (PKVA m).2.2.1) (Kd := (PKVA m).2.2.2.1) (Ke := (PKVA m).2.2.2.2.1) (Kf := (PKVA m).2.2.2.2.2.1) (Kg := (PKVA m).2.2.2.2.2.2.1) (Kh := (PKVA m).2.2.2.2.2.2.2) ha hh, jg_primary (Ka := (PKVA m).1) (Kb := (PKVA m).2.1) (Kc := (PKVA m).2.2.1) (Kd := (PKVA m).2.2.2.1) (Ke := (PKVA m).2.2.2.2.1) (Kf := (PKVA m).2.2.2.2.2.1) (Kg := (PKVA m).2.2.2.2.2.2.1) (Kh := (PKVA m).2.2.2.2.2.2.2)⟩, ⟨pg_behind (Ka := (PKVA m).1) (Kb := (PKVA m).2.1) (Kc := (PKVA m).2.2.1) (Kd := (PKVA m).2.2.2.1) (Ke := (PKVA m).2.2.2.2.1) (Kf := (PKVA m).2.2.2.2.2.1) (Kg := (PKVA m).2.2.2.2.2.2.1) (Kh := (PKVA m).2.2.2.2.2.2.2) hb hh jh, jg_behind (Ka := (PKVA m).1) (Kb := (PKVA m).2.1) (Kc := (PKVA m).2.2.1) (Kd := (PKVA m).2.2.2.1) (Ke := (PKVA m).2.2.2.2.1) (Kf := (PKVA m).2.2.2.2.2.1) (Kg := (PKVA m).2.2.2.2.2.2.1) (Kh := (PKVA m).2.2.2.2.2.2.2) jb⟩, pg_cast (Ka := (PKVA m).1) (Kb := (PKVA m).2.1) (Kc := (PKVA m).2.2.1) (Kd := (PKVA m).2.2.2.1) (Ke := (PKVA m).2.2.2.2.1) (Kf := (PKVA m).2.2.2.2.2.1) (Kg := (PKVA m).2.2.2.2.2.2.1) (Kh := (PKVA m).2.2.2.2.2.2.2) he je, ⟨pg_unary (Ka := (PKVA m).1) (Kb := (PKVA m).2.1) (Kc := (PKVA m).2.2.1) (Kd := (PKVA m).2.2.2.1) (Ke := (PKVA m).2.2.2.2.1) (Kf := (PKVA m).2.2.2.2.2.1) (Kg := (PKVA m).2.2.2.2.2.2.1) (Kh := (PKVA m).2.2.2.2.2.2.2) hc hd he, jg_unary (Ka := (PKVA m).1) (Kb := (PKVA m).2.1) (Kc := (PKVA m).2.2.1) (Kd := (PKVA m).2.2.2.1) (Ke := (PKVA m).2.2.2.2.1) (Kf := (PKVA m).2.2.2.2.2.1) (Kg := (PKVA m).2.2.2.2.2.2.1) (Kh := (PKVA m).2.2.2.2.2.2.2) jc⟩, ⟨pg_binary (Ka := (PKVA m).1) (Kb := (PKVA m).2.1) (Kc := (PKVA m).2.2.1) (Kd := (PKVA m).2.2.2.1) (Ke := (PKVA m).2.2.2.2.1) (Kf := (PKVA m).2.2.2.2.2.1) (Kg := (PKVA m).2.2.2.2.2.2.1) (Kh := (PKVA m).2.2.2.2.2.2.2) he, jg_binary (Ka := (PKVA m).1) (Kb := (PKVA m).2.1) (Kc := (PKVA m).2.2.1) (Kd := (PKVA m).2.2.2.1) (Ke := (PKVA m).2.2.2.2.1) (Kf := (PKVA m).2.2.2.2.2.1) (Kg := (PKVA m).2.2.2.2.2.2.1) (Kh := (PKVA m).2.2.2.2.2.2.2) je⟩, ⟨pg_choice (Ka := (PKVA m).1) (Kb := (PKVA m).2.1) (Kc := (PKVA m).2.2.1) (Kd := (PKVA m).2.2.2.1) (Ke := (PKVA m).2.2.2.2.1) (Kf := (PKVA m).2.2.2.2.2.1) (Kg := (PKVA m).2.2.2.2.2.2.1) (Kh := (PKVA m).2.2.2.2.2.2.2) hf hh hg jg, jg_choice (Ka := (PKVA m).1) (Kb := (PKVA m).2.1) (Kc := (PKVA m).2.2.1) (Kd := (PKVA m).2.2.2.1) (Ke := (PKVA m).2.2.2.2.1) (Kf := (PKVA m).2.2.2.2.2.1) (Kg := (PKVA m).2.2.2.2.2.2.1) (Kh := (PKVA m).2.2.2.2.2.2.2) jf⟩, pg_expr (Ka := (PKVA m).1) (Kb := (PKVA m).2.1) (Kc := (PKVA m).2.2.1) (Kd := (PKVA m).2.2.2.1) (Ke := (PKVA m).2.2.2.2.1) (Kf := (PKVA m).2.2.2.2.2.1) (Kg := (PKVA m).2.2.2.2.2.2.1) (Kh := (PKVA m).2.2.2.2.2.2.2) hg hh jh, jg_expr (Ka := (PKVA m).1) (Kb := (PKVA m).2.1) (Kc := (PKVA m).2.2.1) (Kd := (PKVA m).2.2.2.1) (Ke := (PKVA m).2.2.2.2.1) (Kf := (PKVA m).2.2.2.2.2.1) (Kg := (PKVA m).2.2.2.2.2.2.1) (Kh := (PKVA m).2.2.2.2.2.2.2) jg⟩
theorem pgG_expr {kd : Nat → Int} {n : Nat} : SPg kd n pkG_expression (fun _ => True) 10 (fun d p L R => PVq kd 0 d 0 p L R) := (pg_KVA 240).2.2.2.2.2.2.2.1
theorem jgG_expr : SJg pkG_expression := (pg_KVA (kd := fun _ => 0) (n := 0) 240).2.2.2.2.2.2.2.2
end

