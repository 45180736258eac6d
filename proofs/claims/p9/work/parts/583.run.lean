/-! run -/
section RNN
variable {κ σ s τ t : St} {vs z : List Nat} {G : Nat → Nat → Gh} {K : Nat}
theorem pg_gi (h : GLI σ τ vs) (hF : (σ 0 2).toInt ≤ 10240) (hl : 0 ≤ (σ 0 70).toInt) : ∃ G K, PG σ G K := by
  obtain ⟨⟨⟨t1, t2⟩, ⟨o1, o2⟩, ⟨n1, n2⟩, ⟨w1, w2⟩, ⟨i1, i2⟩, v1, ⟨b1, b2⟩⟩, hE, hA, hO, hP, hL, hM⟩ := h
  have lnk := hL.2 hl
  obtain ⟨G, K, hP9⟩ := prg_ex lnk (by omega) o2 (fun o ho => by
    obtain ⟨q1, -⟩ := hO o ho
    omega)
  exact ⟨G, K, hP9, lnk, o2, by omega, hM.1.2, fun o ho => by
    obtain ⟨q1, -⟩ := hO o ho
    omega, hA.2.2.2.2.1⟩
theorem gi_run (h : GLI σ τ vs) (k : KRn σ s) (hn : MN s) : GLI (upC s 0 88 (0 : Int32)) τ vs ∧ ((upC s 0 88 (0 : Int32)) 0 1) = (σ 0 1) ∧ ((upC s 0 88 (0 : Int32)) 0 2) = (σ 0 2) := by
  have z0 : (0 : Int32).toInt = 0 := by decide
  have kk : KMi σ (upC s 0 88 (0 : Int32)) := kp_f (kp_sub k rfl rfl) rfl
  have e1 : ((upC s 0 88 (0 : Int32)) 0 1) = (σ 0 1) := k _ _ rfl rfl
  have e2 : ((upC s 0 88 (0 : Int32)) 0 2) = (σ 0 2) := k _ _ rfl rfl
  have e35 : ((upC s 0 88 (0 : Int32)) 0 35) = (σ 0 35) := k _ _ rfl rfl
  have e31 : ((upC s 0 88 (0 : Int32)) 0 31) = (σ 0 31) := k _ _ rfl rfl
  have e17 : ((upC s 0 88 (0 : Int32)) 0 17) = (σ 0 17) := k _ _ rfl rfl
  have e39 : ((upC s 0 88 (0 : Int32)) 0 39) = (σ 0 39) := k _ _ rfl rfl
  have e45 : ((upC s 0 88 (0 : Int32)) 0 45) = (σ 0 45) := k _ _ rfl rfl
  refine ⟨gi_misc h kk ?_ ⟨?_, hn.1⟩, e1, e2⟩
  · unfold NUG
    rw [e1, e2, e35, e31, e17, e39, e45]
    exact h.1
  · show 0 ≤ (0 : Int32).toInt ∧ (0 : Int32).toInt ≤ 4096
    omega
theorem sp_run {a : Int32} {Q : Int32 → St → St → List Nat → Prop} (h : GLI σ τ vs) (hF : (σ 0 2).toInt ≤ 10240) (k : ∀ r s, GLI s τ vs → (s 0 1) = (σ 0 1) → (s 0 2) = (σ 0 2) → Q r s τ vs) : wp_run a σ τ vs Q := by
  have z0 : (0 : Int32).toInt = 0 := by decide
  unfold wp_run
  refine ⟨fun hl => ⟨fun _ => k _ _ h rfl rfl, fun ha => ⟨fun ha2 => ?_, fun _ => k _ _ h rfl rfl⟩⟩, fun _ => k _ _ h rfl rfl⟩
  obtain ⟨G, K, hG⟩ := pg_gi h hF hl
  obtain ⟨-, -, o, f, m1, m2, m3, m4, m5⟩ := h.2.2.2.2.2.1.2 hl
  refine ⟨fun n x s t z => n = (32768 - x.toInt).toNat ∧ 0 ≤ x.toInt ∧ Kp [] [46] σ s ∧ t = τ ∧ z = vs, ⟨_, rfl, by omega, kp_rf, rfl, rfl⟩, ?_⟩
  rintro n x s t z ⟨q1, q2, ks, rfl, rfl⟩
  refine ⟨fun _ => ?_, fun c => ?_⟩
  rotate_left 1
  · have ex := ad1 (x := x) (by omega)
    exact ⟨fun _ => True, fun y _ => ⟨by omega, _, by omega, rfl, by omega, kp_a ks rfl, rfl, rfl⟩, fun _ => trivial, fun c2 => ⟨by omega, trivial⟩⟩
  have em : s 0 78 = (σ 17) f := by rw [ks 0 78 rfl rfl]; exact m4.symm
  rw [em]
  generalize hS : (upC (upC (upC (upC (upC (upC (upC (upC (upC (upC (upC s 0 98 (1 : Int32)) 0 93 a) 0 89 (0 : Int32)) 0 91 (0 : Int32)) 0 92 (0 : Int32)) 0 94 (0 : Int32)) 0 95 (0 : Int32)) 0 96 (0 : Int32)) 0 81 (0 : Int32)) 0 86 (0 : Int32)) 0 97 ((-1) : Int32)) = s1
  have k1 : KRn σ s1 := by rw [← hS]; exact kp_f (kp_f (kp_f (kp_f (kp_f (kp_f (kp_f (kp_f (kp_f (kp_f (kp_f (kp_sub ks rfl rfl) rfl) rfl) rfl) rfl) rfl) rfl) rfl) rfl) rfl) rfl) rfl
  have x81 : (s1 0 81).toInt = 0 := by rw [← hS]; exact z0
  have x86 : (s1 0 86).toInt = 0 := by rw [← hS]; exact z0
  have x93 : (s1 0 93) = a := by rw [← hS]; rfl
  have x89 : (s1 0 89).toInt = 0 := by rw [← hS]; exact z0
  have x91 : (s1 0 91).toInt = 0 := by rw [← hS]; exact z0
  have x92 : (s1 0 92).toInt = 0 := by rw [← hS]; exact z0
  have x97 : (s1 0 97) = -1 := by rw [← hS]; rfl
  clear hS q1 q2 em ks
  have o97 : (s1 0 97).toInt < 0 := by rw [x97]; decide
  have mn1 : MN s1 := ⟨by omega, by omega, by rw [x92, x93]; omega⟩
  have go : ∀ (y : Int32) (S : St) (m : Nat), MI σ G K y S m → ∃ L149 : Nat → Int32 → St → St → List Nat → Prop, (∃ n, L149 n y S t z) ∧ ∀ (n149 : Nat) (x2_149 : Int32) (s149 t149 : St) (z149 : List Nat), L149 n149 x2_149 s149 t149 z149 → ((0 ≤ (s149 0 97).toInt → Q (s149 0 97) (upC s149 0 88 (0 : Int32)) t149 z149) ∧ ((s149 0 97).toInt < 0 → wp_step x2_149 s149 t149 z149 (fun v158 s158 t158 z158 => ∃ m, m < n149 ∧ L149 m v158 s158 t158 z158))) := fun y S m hm => by
    refine ⟨fun m x s t' z' => MI σ G K x s m ∧ t' = t ∧ z' = z, ⟨m, hm, rfl, rfl⟩, ?_⟩
    rintro m9 x9 s9 t9 z9 ⟨hm9, rfl, rfl⟩
    refine ⟨fun _ => ?_, fun c => ?_⟩
    · obtain ⟨g1, g2, g3⟩ := gi_run h hm9.1 hm9.2.1
      exact k _ _ g1 g2 g3
    · obtain ⟨p0, d, B, f9, o9, h9, k9, cx, rfl⟩ := hm9.2.2 c
      exact sp_step hG cx c (nt p0).symm (fun v s8 r => by
        obtain ⟨m', lt, mi⟩ := r
        exact ⟨m', lt, mi, rfl, rfl⟩)
  have nmain : ∃ b : Nat, ((σ 17) f).toInt = b ∧ b < 10000 := by
    obtain ⟨b, b1, b2, -⟩ := hG.1 f o m1 m2 m3
    exact ⟨b, b1, b2⟩
  obtain ⟨b, b1, b2⟩ := nmain
  refine sp_enter (D := 0) hG.1 hG.2.1 hG.2.2.1 hG.2.2.2.1 m1 m2 m3 k1 mn1 (by rw [x86]; rfl) (Or.inl rfl) (by omega) (fun S h0 kS mS => ⟨fun y => ∃ m, MI σ G K y S m, fun y hy => by
    obtain ⟨m, hm⟩ := hy
    exact go y S m hm, fun _ => ⟨0, kS, mS, fun q => by omega⟩, fun q => by omega⟩) (fun S en kS mS oS => ⟨fun y => ∃ m, MI σ G K y S m, fun y hy => by
    obtain ⟨m, hm⟩ := hy
    exact go y S m hm, fun q => by rw [oS, x97] at q; exact absurd q (by decide), fun _ => ?_⟩)
  have e78 : S 0 78 = (σ 17) f := by rw [kS 0 78 rfl rfl]; exact m4.symm
  rw [e78, show S 26 = (σ 26) from funext (fun j => kS 26 j rfl rfl)]
  refine ⟨by omega, ?_⟩
  obtain ⟨b', y1, y2, y3, y4, ⟨E0, R', nl', d1, d2, d3, d4, d5, d6, d7, d8, ⟨k0, d9⟩, d10, d11⟩, y6⟩ := hG.1 f o m1 m2 m3
  have eb : ((σ 17) f).toNatClampNeg = b' := by rw [nt', y1]; rfl
  obtain ⟨z1, z2, z3, z4, ⟨z5, z6, z7⟩, z8, z9⟩ := en
  have eE : ((σ 26) b').toNatClampNeg = E0 := by rw [nt', d1]; rfl
  rw [eb]
  refine ⟨MS S K 0 k0 E0, kS, mS, fun _ => ⟨by omega, 0, 0, f, o, 0, k0, ⟨kS, mS, by rw [z2], ⟨rfl, ⟨m1, m2, m3⟩, z5, z6, z7⟩, by omega, by rw [eE]; exact d9, by rw [z4, x81, m5]; rfl⟩, by rw [eE]⟩⟩
end RNN
