/-! the machine: what a word does to the stack, the locals, the output -/
section MOP
variable {κ σ s τ t : St} {vs z : List Nat} {G : Nat → Nat → Gh} {K : Nat}
theorem lc_ge {x y : Int64} (h : 0 ≤ (lg_cmp x y).toInt) : y.toInt ≤ x.toInt := by
  have e0 : (0 : Int32).toInt = 0 := by decide
  have h1 : ¬ x < y := fun q => by
    have := i_lt.mp ((lg_cmp_lt x y).mpr q)
    omega
  have h2 : ¬ x.toInt < y.toInt := fun q => h1 (Int64.lt_iff_toInt_lt.mpr q)
  omega
theorem lc_lt {x y : Int64} (h : (lg_cmp x y).toInt < 0) : x.toInt < y.toInt := by
  have e0 : (0 : Int32).toInt = 0 := by decide
  exact Int64.lt_iff_toInt_lt.mp ((lg_cmp_lt x y).mp (i_lt.mpr (by omega)))
theorem ld_div {x y : Int64} (h0 : 0 ≤ x.toInt) (h1 : 1 ≤ y.toInt) (h2 : x.toInt ≤ 2147483648) : (x / y).toInt = x.toInt / y.toInt := by
  have h3 : x.toInt / y.toInt ≤ x.toInt := Int.ediv_le_self _ h0
  have h4 : 0 ≤ x.toInt / y.toInt := Int.ediv_nonneg h0 (by omega)
  rw [Int64.toInt_div, Int.tdiv_eq_ediv_of_nonneg h0]
  rw [Int.bmod_eq_of_le] <;> omega
theorem ld_mul10 {x : Int64} (h0 : 0 ≤ x.toInt) (h1 : x.toInt ≤ 2147483648) : (x * (10 : Int64)).toInt = 10 * x.toInt := by
  have e1 : (10 : Int64).toInt = 10 := by decide
  rw [Int64.toInt_mul, e1]
  rw [Int.bmod_eq_of_le] <;> omega
theorem mul100 {x : Int32} (h0 : 0 ≤ x.toInt) (h1 : x.toInt ≤ 20000) : (x * (100 : Int32)).toInt = 100 * x.toInt := by
  have h := Int32.toInt_mul x (100 : Int32)
  have e1 : (100 : Int32).toInt = 100 := by decide
  rw [e1] at h
  rw [h, Int.bmod_eq_of_le] <;> omega
theorem mul2 {x : Int32} (h0 : 0 ≤ x.toInt) (h1 : x.toInt ≤ 20000) : ((2 : Int32) * x).toInt = 2 * x.toInt := by
  have h := Int32.toInt_mul (2 : Int32) x
  have e1 : (2 : Int32).toInt = 2 := by decide
  rw [e1] at h
  rw [h, Int.bmod_eq_of_le] <;> omega
theorem fi_ix {d o b R nl : Nat} (h : FIx κ σ d o b R nl) : ((σ 0 86) - (1 : Int32)).toInt = d ∧ ((σ 0 86) - (1 : Int32)).toNatClampNeg = d := by
  have h1 := h.1
  have e : ((σ 0 86) - (1 : Int32)).toInt = d := by rw [sb1 (by omega)]; omega
  exact ⟨e, by rw [nt', e]; rfl⟩
theorem fi_kp {d o b R nl : Nat} (h : FIx κ σ d o b R nl) (k : KRs σ s) : FIx κ s d o b R nl := by
  obtain ⟨h1, h2, h3, h4, h5, h6, h7, h8, h9, h10, h11⟩ := h
  have e86 : (s 0 86) = (σ 0 86) := k _ _ rfl rfl
  exact ⟨by rw [e86]; exact h1, h2, by rw [k 50 d rfl rfl]; exact h3, h4, h5, h6, h7, h8, h9, h10, by rw [k 49 d rfl rfl]; exact h11⟩
theorem sp_rowOf {d o b R nl : Nat} {a : Int32} {Q : Int32 → Prop} (h : FIx κ σ d o b R nl) (kn : KRn κ σ) (ha : 0 ≤ a.toInt ∧ a.toInt < nl) (k : ∀ r : Int32, r.toInt = (R : Int) + 2 * a.toInt → Q r) : wp_rowOf a σ τ vs Q := by
  obtain ⟨i1, i2⟩ := fi_ix h
  obtain ⟨h1, h2, h3, h4, h5, h6, h7, h8, h9, h10, h11⟩ := h
  unfold wp_rowOf
  rw [i2]
  have nb := nt (x := (σ 50) d) (by omega)
  have eb : ((σ 50) d).toNatClampNeg = b := by omega
  rw [eb, kn 29 b rfl rfl]
  have m := mul2 (x := a) ha.1 (by omega)
  exact ⟨by omega, by omega, k _ (by rw [ad (by omega) (by omega), m, h7])⟩
theorem sp_getLocal {d o b R nl : Nat} {a : Int32} {Q : Int32 → Prop} (h : FIx κ σ d o b R nl) (kn : KRn κ σ) (ha : 0 ≤ a.toInt ∧ a.toInt < nl) (k : ∀ r : Int32, Q r) : wp_getLocal a σ τ vs Q := by
  obtain ⟨i1, i2⟩ := fi_ix h
  have h9' := h
  obtain ⟨h1, h2, h3, h4, h5, h6, h7, h8, h9, h10, h11⟩ := h9'
  unfold wp_getLocal
  refine sp_rowOf h kn ha (fun r hr => ⟨by omega, fun c => ⟨?_, k _⟩, fun c => ⟨by omega, ?_, k _⟩⟩)
  · have m := mul100 (x := (σ 0 86) - (1 : Int32)) (by omega) (by omega)
    rw [ad (by omega) (by omega), m]
    omega
  · have na := nt ha.1
    have nr := nt (x := r) (by omega)
    have er : r.toNatClampNeg = R + 2 * a.toNatClampNeg := by omega
    have ro := (h10 a.toNatClampNeg (by omega)).1
    rw [er, kn 8 _ rfl rfl] at c
    have := ro c
    rw [er, kn 8 _ rfl rfl, i2, ad (by omega) (by omega)]
    omega
theorem sp_setLocal {d o b R nl : Nat} {a v : Int32} {Q : St → St → List Nat → Prop} (h : FIx κ σ d o b R nl) (kn : KRn κ σ) (ha : 0 ≤ a.toInt ∧ a.toInt < nl) (k : ∀ s, Kp [] [46, 48] σ s → Q s τ vs) : wp_setLocal a v σ τ vs Q := by
  obtain ⟨i1, i2⟩ := fi_ix h
  have h9' := h
  obtain ⟨h1, h2, h3, h4, h5, h6, h7, h8, h9, h10, h11⟩ := h9'
  unfold wp_setLocal
  refine sp_rowOf h kn ha (fun r hr => ⟨by omega, fun c => ⟨?_, k _ (kp_a kp_rf rfl)⟩, fun c => ⟨by omega, ?_, k _ (kp_a kp_rf rfl)⟩⟩)
  · have m := mul100 (x := (σ 0 86) - (1 : Int32)) (by omega) (by omega)
    rw [ad (by omega) (by omega), m]
    omega
  · have na := nt ha.1
    have nr := nt (x := r) (by omega)
    have er : r.toNatClampNeg = R + 2 * a.toNatClampNeg := by omega
    have ro := (h10 a.toNatClampNeg (by omega)).1
    rw [er, kn 8 _ rfl rfl] at c
    have := ro c
    rw [er, kn 8 _ rfl rfl, i2, ad (by omega) (by omega)]
    omega
theorem sp_clear {d o b R nl : Nat} {a : Int32} {Q : St → St → List Nat → Prop} (h : FIx κ σ d o b R nl) (kn : KRn κ σ) (ha : 0 ≤ a.toInt ∧ a.toInt < nl) (k : ∀ s, Kp [] [46, 48] σ s → Q s τ vs) : wp_clear a σ τ vs Q := by
  obtain ⟨i1, i2⟩ := fi_ix h
  have h9' := h
  obtain ⟨h1, h2, h3, h4, h5, h6, h7, h8, h9, h10, h11⟩ := h9'
  have e0 : (0 : Int32).toInt = 0 := by decide
  have na := nt ha.1
  have ro := h10 a.toNatClampNeg (by omega)
  unfold wp_clear
  refine sp_rowOf h kn ha (fun r hr => ?_)
  have e1 := ad1 (x := r) (by omega)
  have nr := nt (x := r) (by omega)
  have er : r.toNatClampNeg = R + 2 * a.toNatClampNeg := by omega
  have er1 : (r + (1 : Int32)).toNatClampNeg = R + 2 * a.toNatClampNeg + 1 := by rw [nt', e1]; omega
  refine ⟨by omega, by omega, sp_rowOf h kn ha (fun r2 hr2 => ⟨by omega, ?_⟩)⟩
  have er2 : r2.toNatClampNeg = R + 2 * a.toNatClampNeg := by have := nt (x := r2) (by omega); omega
  rw [er1, er2, i2, kn 8 _ rfl rfl, kn 8 _ rfl rfl]
  refine ⟨fun n x s t z => n = (((κ 8) (R + 2 * a.toNatClampNeg + 1)).toInt - x.toInt).toNat ∧ 0 ≤ x.toInt ∧ Kp [] [46, 48] σ s ∧ t = τ ∧ z = vs, ⟨_, rfl, by omega, kp_rf, rfl, rfl⟩, ?_⟩
  rintro n x s t z ⟨q1, q2, kk, rfl, rfl⟩
  refine ⟨fun _ => ⟨fun _ => k s kk, fun _ => sp_setLocal (fi_kp h (kp_sub kk rfl rfl)) (kp_tr kn (kp_sub kk rfl rfl)) ha (fun s2 k2 => k s2 (kp_tr kk k2))⟩, fun c => ?_⟩
  obtain ⟨p1, p2⟩ := ro.2 (by omega)
  have ex := ad1 (x := x) (by omega)
  have a1 : ((σ 49) d + (κ 8) (R + 2 * a.toNatClampNeg)).toInt = ((σ 49) d).toInt + ((κ 8) (R + 2 * a.toNatClampNeg)).toInt := ad (by omega) (by omega)
  have a2 : (((σ 49) d + (κ 8) (R + 2 * a.toNatClampNeg)) + x).toInt = ((σ 49) d).toInt + ((κ 8) (R + 2 * a.toNatClampNeg)).toInt + x.toInt := by rw [ad (by omega) (by omega), a1]
  exact ⟨by omega, _, by omega, rfl, by omega, kp_a kk rfl, rfl, rfl⟩
theorem sp_push {a : Int32} {Q : St → St → List Nat → Prop} (h : 0 ≤ (σ 0 81).toInt ∧ (σ 0 81).toInt < 140000) (k : ∀ s, Kp [(0, 81)] [47] σ s → (s 0 81).toInt = (σ 0 81).toInt + 1 → Q s τ vs) : wp_push a σ τ vs Q := by
  unfold wp_push
  exact ⟨h, k _ (kp_f (kp_a kp_rf rfl) rfl) (ad1 (by omega))⟩
theorem sp_pop {Q : Int32 → St → St → List Nat → Prop} (h : 1 ≤ (σ 0 81).toInt ∧ (σ 0 81).toInt ≤ 140000) (k : ∀ r s, Kp [(0, 81)] [] σ s → (s 0 81).toInt = (σ 0 81).toInt - 1 → Q r s τ vs) : wp_pop σ τ vs Q := by
  have e := sb1 (x := (σ 0 81)) (by omega)
  unfold wp_pop
  exact ⟨by omega, k _ _ (kp_f kp_rf rfl) e⟩
theorem sp_trapped {how ln : Int32} {Q : St → St → List Nat → Prop} {d o b R nl : Nat} (h : FIx κ σ d o b R nl) (k : ∀ s, Kp [(0, 97), (0, 95), (0, 96)] [] σ s → (s 0 97).toInt = how.toInt → Q s τ vs) : wp_trapped how ln σ τ vs Q := by
  obtain ⟨i1, i2⟩ := fi_ix h
  obtain ⟨h1, h2, h3, h4, -⟩ := h
  unfold wp_trapped wp_ends
  rw [i2]
  exact ⟨by omega, by omega, k _ (kp_f (kp_f (kp_f kp_rf rfl) rfl) rfl) rfl⟩
abbrev KEm (σ s : St) : Prop := Kp [(0, 97), (0, 95), (0, 96), (0, 91)] [53] σ s
def EMx (σ s : St) : Prop := KEm σ s ∧ (0 ≤ (s 0 91).toInt ∧ (s 0 91).toInt ≤ 4096) ∧ ((s 0 97).toInt < 0 → (σ 0 97).toInt < 0)
theorem em_tr {s' : St} (h : EMx σ s) (g : EMx s s') : EMx σ s' := ⟨kp_tr h.1 g.1, g.2.1, fun q => h.2.2 (g.2.2 q)⟩
theorem sp_emit {x ln : Int32} {Q : St → St → List Nat → Prop} {d o b R nl : Nat} (h : FIx κ σ d o b R nl) (hw : 0 ≤ (σ 0 91).toInt ∧ (σ 0 91).toInt ≤ 4096) (k : ∀ s, EMx σ s → Q s τ vs) : wp_emit x ln σ τ vs Q := by
  unfold wp_emit
  refine ⟨fun c => ⟨by omega, k _ ⟨kp_f (kp_a kp_rf rfl) rfl, ?_, fun q => q⟩⟩, fun c => ⟨fun _ => k _ ⟨kp_rf, hw, fun q => q⟩, fun _ => sp_trapped h (fun s ks ho => k s ⟨kp_sub ks rfl rfl, ?_, fun q => ?_⟩)⟩⟩
  · have e := ad1 (x := (σ 0 91)) (by omega)
    show 0 ≤ ((σ 0 91) + (1 : Int32)).toInt ∧ ((σ 0 91) + (1 : Int32)).toInt ≤ 4096
    omega
  · have e : (s 0 91) = (σ 0 91) := ks _ _ rfl rfl
    rw [e]; exact hw
  · have e6 : (6 : Int32).toInt = 6 := by decide
    omega
theorem sp_print {x ln : Int32} {Q : St → St → List Nat → Prop} {d o b R nl : Nat} (h : FIx κ σ d o b R nl) (hw : 0 ≤ (σ 0 91).toInt ∧ (σ 0 91).toInt ≤ 4096) (k : ∀ s, EMx σ s → Q s τ vs) : wp_print x ln σ τ vs Q := by
  have e0 : (0 : Int64).toInt = 0 := by decide
  have e1 : (1 : Int64).toInt = 1 := by decide
  have e10 : (10 : Int64).toInt = 10 := by decide
  have ex : x.toInt64.toInt = x.toInt := Int32.toInt_toInt64 x
  have rx := s_rng x
  unfold wp_print
  refine ⟨fun v s t z => (0 ≤ v.toInt ∧ v.toInt ≤ 2147483648) ∧ EMx σ s ∧ t = τ ∧ z = vs, ?_, fun c => ⟨?_, ⟨kp_rf, hw, fun q => q⟩, rfl, rfl⟩, fun c => sp_emit h hw (fun s hs => ⟨?_, hs, rfl, rfl⟩)⟩
  · rintro v s t z ⟨hv, hs, rfl, rfl⟩
    refine ⟨fun n x5 => (n : Int) = 2147483648 - x5.toInt ∧ 1 ≤ x5.toInt, ⟨2147483647, by omega, by omega⟩, ?_⟩
    rintro n x5 ⟨q1, q2⟩
    have hd := ld_div (x := v) (y := x5) hv.1 q2 hv.2
    refine ⟨fun q => by rw [q] at q2; omega, fun c => ?_, fun c => ?_⟩
    · refine ⟨fun n x6 s2 t2 z2 => n = ldn x6 ∧ EMx σ s2 ∧ t2 = t ∧ z2 = z, ⟨_, rfl, hs, rfl, rfl⟩, ?_⟩
      rintro n2 x6 s2 t2 z2 ⟨r1, hs2, rfl, rfl⟩
      refine ⟨fun _ => k s2 hs2, fun c2 => ⟨lne_of c2, sp_emit (fi_kp h (kp_sub hs2.1 rfl rfl)) hs2.2.1 (fun s3 hs3 => ⟨ldn (x6 / 10), by rw [r1]; exact ldn_lt c2, rfl, em_tr hs2 hs3, rfl, rfl⟩)⟩⟩
    · have g := lc_ge c
      rw [hd, e10] at g
      have g2 : 10 * x5.toInt ≤ v.toInt := by
        have h1 := Int.ediv_mul_le v.toInt (b := x5.toInt) (by omega)
        have h2 : 10 * x5.toInt ≤ v.toInt / x5.toInt * x5.toInt := Int.mul_le_mul_of_nonneg_right g (by omega)
        omega
      have em := ld_mul10 (x := x5) (by omega) (by omega)
      exact ⟨(2147483648 - 10 * x5.toInt).toNat, by omega, by rw [em]; omega, by rw [em]; omega⟩
  · have := lc_ge c
    rw [ex] at this ⊢
    omega
  · have := lc_lt c
    rw [ex, e0] at this
    have en : (-x.toInt64).toInt = -x.toInt := by
      rw [Int64.toInt_neg, ex]
      rw [Int.bmod_eq_of_le] <;> omega
    rw [en]
    omega
/-- what a name of the library does -/
def LBx (σ s : St) (l : Int) : Prop := Kp [(0, 81), (0, 89), (0, 91), (0, 94), (0, 95), (0, 96), (0, 97)] [47, 53] σ s ∧ ((0 ≤ (s 0 91).toInt ∧ (s 0 91).toInt ≤ 4096) ∧ 0 ≤ (s 0 89).toInt) ∧ (s 0 81).toInt = (σ 0 81).toInt + (if l = 0 then 1 else -1)
theorem sp_library1 {l ln : Int32} {Q : St → St → List Nat → Prop} {d o b R nl : Nat} (h : FIx κ σ d o b R nl) (hn : (0 ≤ (σ 0 91).toInt ∧ (σ 0 91).toInt ≤ 4096) ∧ 0 ≤ (σ 0 89).toInt) (hi : (σ 0 88).toInt ≤ 4096) (ht : (l.toInt = 0 → 0 ≤ (σ 0 81).toInt ∧ (σ 0 81).toInt < 140000) ∧ (l.toInt ≠ 0 → 1 ≤ (σ 0 81).toInt ∧ (σ 0 81).toInt ≤ 140000)) (k : ∀ s, LBx σ s l.toInt → Q s τ vs) : wp_library_1 l ln σ τ vs Q := by
  unfold wp_library_1
  refine ⟨fun c => sp_pop (ht.2 c) (fun v s ks hs => ⟨fun c1 => ⟨fun c2 => ?_, fun c2 => ?_⟩, fun c1 => ?_⟩), fun c => ⟨fun _ => True, fun y _ => sp_push (ht.1 c) (fun s ks hs => ⟨fun c1 => ?_, fun c1 => ?_⟩), fun _ => trivial, fun c1 => ⟨by omega, trivial⟩⟩⟩
  · refine k _ ⟨kp_f (kp_f (kp_sub ks rfl rfl) rfl) rfl, ?_, ?_⟩
    · have a1 : (s 0 91) = (σ 0 91) := ks _ _ rfl rfl
      have a2 : (s 0 89) = (σ 0 89) := ks _ _ rfl rfl
      show (0 ≤ (s 0 91).toInt ∧ (s 0 91).toInt ≤ 4096) ∧ 0 ≤ (s 0 89).toInt
      rw [a1, a2]; exact hn
    · rw [if_neg c]
      show (s 0 81).toInt = _
      omega
  all_goals
    have a1 : (s 0 91) = (σ 0 91) := ks _ _ rfl rfl
    have a2 : (s 0 89) = (σ 0 89) := ks _ _ rfl rfl
  · refine sp_print (fi_kp h (kp_sub ks rfl rfl)) (by rw [a1]; exact hn.1) (fun s2 hs2 => k s2 ⟨kp_tr (kp_sub ks rfl rfl) (kp_sub hs2.1 rfl rfl), ⟨hs2.2.1, ?_⟩, ?_⟩)
    · rw [show (s2 0 89) = (s 0 89) from hs2.1 _ _ rfl rfl, a2]; exact hn.2
    · rw [if_neg c, show (s2 0 81) = (s 0 81) from hs2.1 _ _ rfl rfl]; omega
  · refine sp_emit (fi_kp h (kp_sub ks rfl rfl)) (by rw [a1]; exact hn.1) (fun s2 hs2 => k s2 ⟨kp_tr (kp_sub ks rfl rfl) (kp_sub hs2.1 rfl rfl), ⟨hs2.2.1, ?_⟩, ?_⟩)
    · rw [show (s2 0 89) = (s 0 89) from hs2.1 _ _ rfl rfl, a2]; exact hn.2
    · rw [if_neg c, show (s2 0 81) = (s 0 81) from hs2.1 _ _ rfl rfl]; omega
  · exact k s ⟨kp_sub ks rfl rfl, by rw [a1, a2]; exact hn, by rw [if_pos c]; omega⟩
  · have e1 := ad1 (x := (s 0 89)) (by
      have a3 : (s 0 88) = (σ 0 88) := ks _ _ rfl rfl
      rw [a3] at c1
      omega)
    refine k _ ⟨kp_f (kp_sub ks rfl rfl) rfl, ⟨?_, ?_⟩, ?_⟩
    · show 0 ≤ (s 0 91).toInt ∧ (s 0 91).toInt ≤ 4096
      rw [a1]; exact hn.1
    · show 0 ≤ ((s 0 89) + (1 : Int32)).toInt
      rw [e1, a2]
      have := hn.2
      omega
    · rw [if_pos c]
      show (s 0 81).toInt = _
      omega
end MOP
