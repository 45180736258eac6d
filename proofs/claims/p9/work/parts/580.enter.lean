/-! the machine: a body is entered -/
def ENx (κ σ S : St) (f D : Nat) (back : Int32) : Prop := Kp [(0, 81), (0, 86), (0, 92)] [46, 48, 49, 50, 51] σ S ∧ (S 0 86).toInt = (D : Int) + 1 ∧ (S 0 92).toInt = (σ 0 92).toInt + 1 ∧ (S 0 81).toInt = (σ 0 81).toInt - ((κ 15) f).toInt ∧ ((S 50) D = (κ 17) f ∧ 24576 ≤ ((S 49) D).toInt ∧ ((S 49) D).toInt + ((κ 30) ((κ 17) f).toNatClampNeg).toInt + 32 * ((D : Int) + 1) ≤ 32768) ∧ (S 51) D = back ∧ ∀ j : Nat, j < D → (S 50) j = (σ 50) j ∧ (S 49) j = (σ 49) j ∧ (S 51) j = (σ 51) j
section ENT
variable {κ σ s τ t : St} {vs z : List Nat} {G : Nat → Nat → Gh} {K : Nat}
theorem sp_enter {f o D : Nat} {bk ob ln : Int32} {Q : St → St → List Nat → Prop} (hP : PRG κ G K) (hL : LNk κ) (hO : (κ 0 35).toInt ≤ 100) (hW : (κ 0 17).toInt ≤ 409600) (a1 : LKo κ o) (a2 : InO κ o f) (a3 : FnD κ f) (kn : KRn κ σ) (hn : MN σ) (hd : (σ 0 86).toInt = (D : Int)) (hD : D = 0 ∨ ∃ f0 o0, FRo κ σ (D - 1) f0 o0) (ht : ((κ 15) f).toInt ≤ (σ 0 81).toInt ∧ (σ 0 81).toInt ≤ 140000)
    (kE : ∀ s, 0 ≤ (s 0 97).toInt → KRn κ s → MN s → Q s τ vs) (k : ∀ S, ENx κ σ S f D bk → KRn κ S → MN S → (S 0 97) = (σ 0 97) → Q S τ vs) : wp_enter ((κ 17) f) bk ob ln σ τ vs Q := by
  obtain ⟨b, b1, b2, b3, b4, ⟨E0, R, nl, d1, d2, d3, d4, d5, d6, d7, d8, d9, d10, d11⟩, b6⟩ := hP f o a1 a2 a3
  have e : ((κ 17) f).toNatClampNeg = b := by rw [nt', b1]; omega
  have lt := lko_lt hL a1
  have e0 : (0 : Int32).toInt = 0 := by decide
  have e32 : (32 : Int32).toInt = 32 := by decide
  have eC : (32768 : Int32).toInt = 32768 := by decide
  have z0 : ∀ {p : Nat}, p = 0 → ((p : Nat) : Int) = 0 := fun h => by omega
  unfold wp_enter
  rw [e]
  obtain ⟨n1, n2, n3⟩ := hn
  have ends : ∀ (how : Int32) (s : St), 0 ≤ how.toInt → KRn κ s → MN s → wp_ends how ob ln s τ vs (fun s t z => Q s t z) := fun how s h0 ks ms => by
    unfold wp_ends
    exact kE _ h0 (kp_f (kp_f (kp_f ks rfl) rfl) rfl) ms
  refine ⟨fun c => ⟨fun y => (24576 ≤ y.toInt ∧ y.toInt + 32 * (D : Int) ≤ 32768), fun y hy => ?_, fun c2 => ?_, fun c2 => ⟨by rw [eC]; decide, by rw [eC]; omega⟩⟩, fun c => ends 4 σ (by decide) kn ⟨n1, n2, n3⟩⟩
  rotate_left 1
  · have ed : ((σ 0 86) - (1 : Int32)).toInt = (σ 0 86).toInt - 1 := sb1 (by omega)
    rcases hD with q | ⟨f0, o0, fr⟩
    · omega
    · have hd0 := fr_d fr hP
      obtain ⟨⟨x1, x2, x3⟩, x4, x5, x6⟩ := fr
      obtain ⟨b', y1, y2, -, -, ⟨E0', R', nl', -, -, -, -, -, -, y7, -⟩, -⟩ := hP f0 o0 x1 x2 x3
      have e' : ((κ 17) f0).toNatClampNeg = b' := by rw [nt', y1]; omega
      rw [e'] at x6
      have en : ((σ 0 86) - (1 : Int32)).toNatClampNeg = D - 1 := by rw [nt', ed]; omega
      rw [en]
      exact ⟨by omega, x5, by omega⟩
  have t1 : ((σ 0 92) + (1 : Int32)).toInt = (σ 0 92).toInt + 1 := ad1 (by omega)
  have f30 : (σ 30) b = (κ 30) b := kn 30 b rfl rfl
  rw [f30]
  have y1 : (y - (32 : Int32)).toInt = y.toInt - 32 := by rw [sb (by omega) (by omega), e32]
  have y2 : ((y - (32 : Int32)) - (κ 30) b).toInt = y.toInt - 32 - ((κ 30) b).toInt := by rw [sb (by omega) (by omega), y1]
  refine ⟨by omega, fun c3 => ?_, fun c3 => ends 3 _ (by decide) (kp_f kn rfl) ⟨n1, n2, ?_⟩⟩
  rotate_left 1
  · show 0 ≤ ((σ 0 92) + (1 : Int32)).toInt ∧ ((σ 0 92) + (1 : Int32)).toInt ≤ (σ 0 93).toInt ∧ (σ 0 93).toInt ≤ 20000
    omega
  have hD255 : D ≤ 255 := by omega
  have nd : (σ 0 86).toNatClampNeg = D := by rw [nt', hd]; rfl
  rw [nd]
  refine ⟨by omega, by omega, by omega, ?_⟩
  have ed1 : ((σ 0 86) + (1 : Int32)).toInt = (D : Int) + 1 := by rw [ad1 (by omega), hd]
  generalize hS : (upC (upC (upC (upC (upC σ 0 92 ((σ 0 92) + (1 : Int32))) 49 D ((y - (32 : Int32)) - (κ 30) b)) 50 D ((κ 17) f)) 51 D bk) 0 86 ((σ 0 86) + (1 : Int32))) = s1
  have k1 : Kp [(0, 86), (0, 92)] [49, 50, 51] σ s1 := by rw [← hS]; exact kp_f (kp_a (kp_a (kp_a (kp_f kp_rf rfl) rfl) rfl) rfl) rfl
  have x86 : (s1 0 86).toInt = (D : Int) + 1 := by rw [← hS]; exact ed1
  have x92 : (s1 0 92).toInt = (σ 0 92).toInt + 1 := by rw [← hS]; exact t1
  have x49 : ∀ j, (s1 49) j = if j = D then ((y - (32 : Int32)) - (κ 30) b) else (σ 49) j := fun j => by
    rw [← hS]; simp only [rdC, Nat.reduceEqDiff, if_true, if_false]
  have x50 : ∀ j, (s1 50) j = if j = D then (κ 17) f else (σ 50) j := fun j => by
    rw [← hS]; simp only [rdC, Nat.reduceEqDiff, if_true, if_false]
  have x51 : ∀ j, (s1 51) j = if j = D then bk else (σ 51) j := fun j => by
    rw [← hS]; simp only [rdC, Nat.reduceEqDiff, if_true, if_false]
  clear hS
  have kn1 : KRn κ s1 := kp_tr kn (kp_sub k1 rfl rfl)
  have fi : FIx κ s1 D o b R nl := ⟨x86, hD255, by rw [x50, if_pos rfl]; exact b1, b2, b4, by omega, d2, d6, by omega, d11, by rw [x49, if_pos rfl, y2]; omega⟩
  have epc : ((s1 54) b) = (κ 15) f := (kn1 54 b rfl rfl).trans b3
  unfold wp_parametersOf
  rw [e, epc]
  have hpc : 0 ≤ ((κ 15) f).toInt ∧ ((κ 15) f).toInt ≤ nl := by rw [← b3]; exact d8
  refine ⟨by omega, ?_⟩
  refine ⟨fun n x s t z => n = ((nl : Int) - x.toInt).toNat ∧ 0 ≤ x.toInt ∧ Kp [] [48] s1 s ∧ t = τ ∧ z = vs, ⟨_, rfl, by omega, kp_rf, rfl, rfl⟩, ?_⟩
  rintro n x s t z ⟨q1, q2, ks, rfl, rfl⟩
  have fis := fi_kp fi (kp_sub ks rfl rfl)
  have kns : KRn κ s := kp_tr kn1 (kp_sub ks rfl rfl)
  rw [show s 28 b = (κ 28) b from kns 28 b rfl rfl]
  refine ⟨by omega, fun _ => ?_, fun c4 => ?_⟩
  rotate_left 1
  · obtain ⟨i1, i2⟩ := fi_ix fis
    have m := mul100 (x := (s 0 86) - (1 : Int32)) (by omega) (by omega)
    have ex := ad1 (x := x) (by omega)
    refine ⟨?_, _, by omega, rfl, by omega, kp_a ks rfl, rfl, rfl⟩
    rw [ad (by omega) (by omega), m]
    omega
  -- the parameters
  have e81 : (s 0 81) = (σ 0 81) := (ks 0 81 rfl rfl).trans (k1 0 81 rfl rfl)
  have st : ((s 0 81) - (κ 15) f).toInt = (σ 0 81).toInt - ((κ 15) f).toInt := by rw [e81]; exact sb (by omega) (by omega)
  generalize hS2 : (upC s 0 81 (s 0 81 - (κ 15) f)) = s2
  have k2 : Kp [(0, 81)] [48] s1 s2 := by rw [← hS2]; exact kp_f (kp_sub ks rfl rfl) rfl
  have x81 : (s2 0 81).toInt = (σ 0 81).toInt - ((κ 15) f).toInt := by rw [← hS2]; exact st
  clear hS2 st e81 kns fis ks q1 q2
  refine ⟨fun n x s t' z' => n = (((κ 15) f).toInt - x.toInt).toNat ∧ 0 ≤ x.toInt ∧ Kp [] [48, 46] s2 s ∧ t' = t ∧ z' = z, ⟨_, rfl, by omega, kp_rf, rfl, rfl⟩, ?_⟩
  rintro n x s t z ⟨q1, q2, ks, rfl, rfl⟩
  have kA : Kp [(0, 81)] [48, 46] s1 s := kp_tr (kp_sub k2 rfl rfl) (kp_sub ks rfl rfl)
  have fis := fi_kp fi (kp_sub kA rfl rfl)
  have kns : KRn κ s := kp_tr kn1 (kp_sub kA rfl rfl)
  have e81 : (s 0 81).toInt = (σ 0 81).toInt - ((κ 15) f).toInt := by rw [show (s 0 81) = (s2 0 81) from ks _ _ rfl rfl]; exact x81
  refine ⟨fun _ => ?_, fun c4 => ?_⟩
  · have kB : Kp [(0, 81), (0, 86), (0, 92)] [46, 48, 49, 50, 51] σ s := kp_tr (kp_sub k1 rfl rfl) (kp_sub kA rfl rfl)
    have w1 : (s 0 91) = (σ 0 91) := kB _ _ rfl rfl
    have w2 : (s 0 89) = (σ 0 89) := kB _ _ rfl rfl
    have w3 : (s 0 93) = (σ 0 93) := kB _ _ rfl rfl
    have w4 : (s 0 92) = (s1 0 92) := kA _ _ rfl rfl
    refine k s ⟨kB, by rw [show (s 0 86) = (s1 0 86) from kA _ _ rfl rfl]; exact x86, by rw [w4]; exact x92, e81, ⟨?_, ?_, ?_⟩, ?_, fun j hj => ⟨?_, ?_, ?_⟩⟩ kns ⟨by rw [w1]; exact n1, by rw [w2]; exact n2, by rw [w4, w3, x92]; omega⟩ (kB _ _ rfl rfl)
    · rw [kA 50 D rfl rfl, x50, if_pos rfl]
    · rw [kA 49 D rfl rfl, x49, if_pos rfl]; exact c3
    · rw [kA 49 D rfl rfl, x49, if_pos rfl, e, y2]; omega
    · rw [kA 51 D rfl rfl, x51, if_pos rfl]
    · rw [kA 50 j rfl rfl, x50, if_neg (by omega)]
    · rw [kA 49 j rfl rfl, x49, if_neg (by omega)]
    · rw [kA 51 j rfl rfl, x51, if_neg (by omega)]
  · have ex := ad1 (x := x) (by omega)
    have ax : ((s 0 81) + x).toInt = (s 0 81).toInt + x.toInt := ad (by omega) (by omega)
    exact ⟨by omega, sp_setLocal fis kns ⟨q2, by omega⟩ (fun s9 k9 => ⟨_, by omega, rfl, by omega, kp_tr ks (kp_sub k9 rfl rfl), rfl, rfl⟩)⟩
end ENT
