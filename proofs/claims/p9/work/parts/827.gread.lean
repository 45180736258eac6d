/-! the grammar: heads of functions, a unit -/
def z0 : Zs := (0, [], [])
def SGr (n : Int) (x : Int32) : Prop := 16777216 * n ≤ x.toInt ∧ x.toInt < 16777216 * (n + 1)
section GRD
variable {σ s t : St} {R R' R'' : RZs} {u w v : Int} {m F d : Nat}
theorem i32_of {x : Int32} {n : Nat} (h : x.toInt = n) (hn : n < 2147483648) : x = nI n := Int32.toInt_inj.mp (by rw [h, nI_toInt hn])
theorem or_nat {x y : Int32} (hx : 0 ≤ x.toInt) (hy : 0 ≤ y.toInt) (hb : (x.toInt.toNat ||| y.toInt.toNat) < 2147483648) : (x ||| y).toInt = ((x.toInt.toNat ||| y.toInt.toNat : Nat) : Int) := by
  have bx : x.toBitVec.toInt = x.toInt := rfl
  have by' : y.toBitVec.toInt = y.toInt := rfl
  have nx : x.toBitVec.toNat = x.toInt.toNat := by
    have := BitVec.toInt_eq_toNat_cond x.toBitVec
    have l := x.toBitVec.isLt
    split at this <;> omega
  have ny : y.toBitVec.toNat = y.toInt.toNat := by
    have := BitVec.toInt_eq_toNat_cond y.toBitVec
    have l := y.toBitVec.isLt
    split at this <;> omega
  have e : (x ||| y).toBitVec.toNat = x.toInt.toNat ||| y.toInt.toNat := by
    rw [Int32.toBitVec_or, BitVec.toNat_or, nx, ny]
  have h := BitVec.toInt_eq_toNat_cond (x ||| y).toBitVec
  rw [e, if_pos (by omega)] at h
  exact h
theorem sh_rng : ∀ a, a < 7 → ∀ n, n < 8 → 0 ≤ (nI a <<< (((3 : Int32) * nI n) &&& 31)).toInt ∧ (nI a <<< (((3 : Int32) * nI n) &&& 31)).toInt < 16777216 := by decide
theorem or_rng {x y : Int32} {n : Nat} (hx : SGr (n + 1) x) (hy : 0 ≤ y.toInt ∧ y.toInt < 16777216) (hn : n ≤ 8) : SGr (n + 1) (x ||| y) := by
  obtain ⟨h1, h2⟩ := hx
  obtain ⟨r, hr, er⟩ : ∃ r, r < 16777216 ∧ x.toInt.toNat = (n + 1) <<< 24 + r := ⟨x.toInt.toNat - 16777216 * (n + 1), by omega, by rw [Nat.shiftLeft_eq]; omega⟩
  have l24 : ∀ q, q < 16777216 → q < 2 ^ 24 := fun q hq => hq
  have e : x.toInt.toNat ||| y.toInt.toNat = (n + 1) <<< 24 + (r ||| y.toInt.toNat) := by
    rw [er, Nat.shiftLeft_add_eq_or_of_lt (l24 r hr), Nat.or_assoc, ← Nat.shiftLeft_add_eq_or_of_lt (Nat.or_lt_two_pow (l24 r hr) (l24 _ (by omega)))]
  have hb : (r ||| y.toInt.toNat) < 2 ^ 24 := Nat.or_lt_two_pow (l24 r hr) (l24 _ (by omega))
  have hb' : (r ||| y.toInt.toNat) < 16777216 := hb
  have es : (n + 1) <<< 24 = (n + 1) * 16777216 := Nat.shiftLeft_eq _ _
  have h := or_nat (x := x) (y := y) (by omega) hy.1 (by rw [e, es]; omega)
  unfold SGr
  rw [h, e, es]
  omega
theorem ushr24 {x : Int32} {n : Nat} (hx : SGr n x) (hn : n ≤ 100) : (ushr x (24 : Int32)).toInt = n := by
  obtain ⟨h1, h2⟩ := hx
  have nx : x.toBitVec.toNat = x.toInt.toNat := by
    have bx : x.toBitVec.toInt = x.toInt := rfl
    have := BitVec.toInt_eq_toNat_cond x.toBitVec
    have l := x.toBitVec.isLt
    split at this <;> omega
  have e24 : ((24 : Int32).toUInt32 &&& Int32.toUInt32 31) = (24 : UInt32) := by decide
  have e : (ushr x (24 : Int32)).toBitVec.toNat = x.toInt.toNat / 16777216 := by
    unfold ushr
    rw [e24]
    show (x.toUInt32 >>> (24 : UInt32)).toNat = _
    rw [UInt32.toNat_shiftRight]
    have e3 : (24 : UInt32).toNat % 32 = 24 := by decide
    rw [e3, Nat.shiftRight_eq_div_pow]
    show x.toBitVec.toNat / 16777216 = _
    rw [nx]
  have h := BitVec.toInt_eq_toNat_cond (ushr x (24 : Int32)).toBitVec
  rw [e, if_pos (by omega)] at h
  have h' : (ushr x (24 : Int32)).toInt = ((x.toInt.toNat / 16777216 : Nat) : Int) := h
  rw [h']
  omega
theorem sp_withParameter {a0 a1 : Int32} {n : Nat} {Q : Int32 → Prop} (h0 : SGr n a0) (hn : n < 8) (h1 : 0 ≤ a1.toInt ∧ a1.toInt ≤ 6) (k : ∀ x, SGr ((n + 1 : Nat) : Int) x → Q x) : wk_X8_withParameter a0 a1 σ Q := by
  unfold wk_X8_withParameter wk_X8_parameters
  have e := ushr24 h0 (by omega)
  have eu : ushr a0 (24 : Int32) = nI n := i32_of e (by omega)
  obtain ⟨a, ha⟩ : ∃ a : Nat, a1.toInt = a := ⟨a1.toInt.toNat, by omega⟩
  have ea : a1 = nI a := i32_of ha (by omega)
  rw [eu, ea]
  have sr := sh_rng a (by omega) n hn
  have e2 : (a0 + (16777216 : Int32)).toInt = a0.toInt + 16777216 := by
    have := h0.2
    exact adc (by decide) (by have := h0.1; omega) (by omega)
  exact k _ (or_rng (n := n) ⟨by rw [e2]; have := h0.1; omega, by rw [e2]; have := h0.2; omega⟩ sr (by omega))
/-- the row of parameters is none of what a stretch tells -/
theorem sp_gparameters {P : Zs → Prop} {Q : Int32 → St → Prop} (tk : TKc σ) (ga : GA σ) (hp : P0 σ) (k : ∀ x s (n : Nat), n ≤ 8 → SGr n x → GRz σ s (rId P) (-2 * n) (-4 * n) 0 → P0 s → Q x s) : wk_X3_parameters σ Q := by
  unfold wk_X3_parameters
  refine ⟨fun f x1 x2 _ s => ∃ n : Nat, n ≤ 8 ∧ f = 8 - n ∧ x2.toInt = n ∧ SGr n x1 ∧ GRz σ s (rId P) (-2 * n) (-4 * n) 0 ∧ P0 s, ⟨8, 0, by omega, rfl, rfl, ⟨by decide, by decide⟩, grz_wk (grz_rf ga) (fun _ _ q => q) (by omega) (by omega) (by omega), hp⟩, ?_⟩
  rintro f x1 x2 x3 s hz ⟨n, hn, hf, h2, h1, r, p⟩
  have tks := tk_kg r.1 tk
  refine ⟨True, fun _ => ⟨fun _ => k x1 s n hn h1 r p, fun _ => sp_gfail r.2.1 (fun s2 r2 p2 bad => k x1 s2 n hn h1 (grz_bad (kp_tr r.1 (r2 0 [] [] 0 0).1) (r2 0 [] [] 0 0).2.1 bad) (p0_of p2 p))⟩, fun _ => trivial, fun c8 => ⟨fun _ => trivial, fun _ => ?_⟩⟩
  refine sp_gexpect tks r.2.1 (by decide) (fun s2 r2' p2' e2 => ?_)
  have r2 := grz_tr (R'' := rId P) ga r (exp_z (P := fun _ => True) r2' e2) (fun z z'' q => ⟨z'', q, trivial, rfl⟩)
  have p2 := p0_of p2' p
  refine sp_gstars (tk_kg r2.1 tk) r2.2.1 (fun v3 s3 r3' p3' hv3 ec3 => ?_)
  have r3 := grz_tr (R'' := rId P) ga r2 (nil_z (P := fun _ => True) r3' ec3) (fun z z'' q => ⟨z'', q, trivial, rfl⟩)
  have p3 := p0_of p3' p2
  have tail : ∀ (x4 y2 : Int32) (s5 : St), GRz σ s5 (rId P) (-2 * (n + 1 : Nat)) (-4 * (n + 1 : Nat)) 0 → P0 s5 → (0 ≤ x4.toInt ∧ x4.toInt ≤ 6) → wk_X8_withParameter x1 x4 (upF s5 23 (setv 8 (s5 23) x2 y2)) (fun v83 => wk_X3_accept (26 : Int32) (upF s5 23 (setv 8 (s5 23) x2 y2)) (fun v90 s90 => ∃ m, m < f ∧ ∃ n : Nat, n ≤ 8 ∧ m = 8 - n ∧ (x2 + 1).toInt = n ∧ SGr n v83 ∧ GRz σ s90 (rId P) (-2 * n) (-4 * n) 0 ∧ P0 s90)) := fun x4 y2 s5 r5 p5 h4 => by
    have r6 := grz_k r5 (kp_F (p := 23) (f := setv 8 (s5 23) x2 y2) kp_rf rfl)
    have p6 : P0 (upF s5 23 (setv 8 (s5 23) x2 y2)) := p5
    have ex : (x2 + 1).toInt = ((n + 1 : Nat) : Int) := by rw [ad1 (by omega)]; omega
    refine sp_withParameter h1 (by omega) h4 (fun x hx => sp_gaccept (tk_kg r6.1 tk) r6.2.1 (by decide) (fun _ => ⟨8 - (n + 1), by omega, n + 1, by omega, rfl, ex, hx, r6, p6⟩) (fun s7 a7 _ => ⟨8 - (n + 1), by omega, n + 1, by omega, rfl, ex, hx, ?_, p0_of a7.2.2.2.2.1 p6⟩))
    exact grz_wk (grz_tr (R'' := rId P) ga r6 (adv_z (P := fun _ => True) a7) (fun z z'' q => ⟨z'', q, trivial, rfl⟩)) (fun _ _ q => q) (by omega) (by omega) (by omega)
  have sq : ∀ (v35 : Int32) (s4 : St), GRz σ s4 (rId P) (-2 * (n + 1 : Nat)) (-4 * (n + 1 : Nat)) 0 → P0 s4 → wk_X3_accept (24 : Int32) s4 (fun v43 s43 => (∃ J58 : Int32 → St → Prop, (∀ (x4_58 : Int32) (s58 : St), J58 x4_58 s58 → ((∃ J77 : Int32 → Prop, (∀ (y2_77 : Int32), J77 y2_77 → (wk_X8_withParameter x1 x4_58 (upF s58 23 (setv 8 (s58 23) x2 y2_77)) (fun v83 => wk_X3_accept (26 : Int32) (upF s58 23 (setv 8 (s58 23) x2 y2_77)) (fun v90 s90 => ∃ m, m < f ∧ ∃ n : Nat, n ≤ 8 ∧ m = 8 - n ∧ (x2 + 1).toInt = n ∧ SGr n v83 ∧ GRz σ s90 (rId P) (-2 * n) (-4 * n) 0 ∧ P0 s90)))) ∧ (v35.toInt = 0 → J77 (s58 3 1)) ∧ (v35.toInt ≠ 0 → J77 (s3 3 1))))) ∧ (v43.toInt = 0 → J58 v3 s43) ∧ (v43.toInt ≠ 0 → wk_X3_expect (25 : Int32) s43 (fun s52 => J58 (v3 + 1) s52)))) := fun v35 s4 r4 p4 => by
    have J : ∀ (x4 : Int32) (s58 : St), (GRz σ s58 (rId P) (-2 * (n + 1 : Nat)) (-4 * (n + 1 : Nat)) 0 ∧ P0 s58 ∧ (0 ≤ x4.toInt ∧ x4.toInt ≤ 6)) → ((∃ J77 : Int32 → Prop, (∀ (y2_77 : Int32), J77 y2_77 → (wk_X8_withParameter x1 x4 (upF s58 23 (setv 8 (s58 23) x2 y2_77)) (fun v83 => wk_X3_accept (26 : Int32) (upF s58 23 (setv 8 (s58 23) x2 y2_77)) (fun v90 s90 => ∃ m, m < f ∧ ∃ n : Nat, n ≤ 8 ∧ m = 8 - n ∧ (x2 + 1).toInt = n ∧ SGr n v83 ∧ GRz σ s90 (rId P) (-2 * n) (-4 * n) 0 ∧ P0 s90)))) ∧ (v35.toInt = 0 → J77 (s58 3 1)) ∧ (v35.toInt ≠ 0 → J77 (s3 3 1)))) := fun x4 s58 h => ⟨fun _ => True, fun y2 _ => tail x4 y2 s58 h.1 h.2.1 h.2.2, fun _ => trivial, fun _ => trivial⟩
    refine sp_gaccept (tk_kg r4.1 tk) r4.2.1 (by decide) (fun _ => ⟨_, J, fun _ => ⟨r4, p4, by omega⟩, fun e => absurd rfl e⟩) (fun s5 a5 _ => ⟨_, J, fun e => absurd e (by decide), fun _ => ?_⟩)
    have r5 := grz_tr (R'' := rId P) ga r4 (adv_z (P := fun _ => True) a5) (fun z z'' q => ⟨z'', q, trivial, rfl⟩)
    refine sp_gexpect (tk_kg r5.1 tk) r5.2.1 (by decide) (fun s6 r6' p6' e6 => ⟨?_, p0_of p6' (p0_of a5.2.2.2.2.1 p4), by rw [ad1 (by omega)]; omega⟩)
    exact grz_wk (grz_tr (R'' := rId P) ga r5 (exp_z (P := fun _ => True) r6' e6) (fun z z'' q => ⟨z'', q, trivial, rfl⟩)) (fun _ _ q => q) (by omega) (by omega) (by omega)
  refine sp_gaccept (tk_kg r3.1 tk) r3.2.1 (by decide) (fun _ => sq 0 s3 (grz_wk r3 (fun _ _ q => q) (by omega) (by omega) (by omega)) p3) (fun s4 a4 _ => sq 1 s4 ?_ (p0_of a4.2.2.2.2.1 p3))
  exact grz_wk (grz_tr (R'' := rId P) ga r3 (adv_z (P := fun _ => True) a4) (fun z z'' q => ⟨z'', q, trivial, rfl⟩)) (fun _ _ q => q) (by omega) (by omega) (by omega)
theorem fn_b4 : ∀ a, a < 7 → ∀ l, l < 3 → ¬ b4 ((((nI a + (-1 : Int32)) + (1 : Int32)) * (8 : Int32) + nI l) + 0) ∧ b4 ((((nI a + (-1 : Int32)) + (1 : Int32)) * (8 : Int32) + nI l) + 4) := by
  unfold b4
  decide
theorem fn_b4' {a2 a3 : Int32} (h2 : -1 ≤ a2.toInt ∧ a2.toInt ≤ 5) (h3 : a3 = 0 ∨ a3 = 1 ∨ a3 = 2) : ¬ b4 (((a2 + (1 : Int32)) * (8 : Int32) + a3) + 0) ∧ b4 (((a2 + (1 : Int32)) * (8 : Int32) + a3) + 4) := by
  have e : (a2 + (1 : Int32)).toInt = a2.toInt + 1 := ad1 (by omega)
  obtain ⟨a, ha⟩ : ∃ a : Nat, (a2 + (1 : Int32)).toInt = a := ⟨(a2 + (1 : Int32)).toInt.toNat, by omega⟩
  have e2 : a2 + (1 : Int32) = (nI a + (-1 : Int32)) + (1 : Int32) := by
    refine Int32.toInt_inj.mp ?_
    rw [ha, ad1 (by rw [dc1 (by rw [nI_toInt (by omega)]; omega), nI_toInt (by omega)]; omega), dc1 (by rw [nI_toInt (by omega)]; omega), nI_toInt (by omega)]
    omega
  rw [e2]
  rcases h3 with e3 | e3 | e3
  · rw [e3]; exact fn_b4 a (by omega) 0 (by decide)
  · rw [e3]; exact fn_b4 a (by omega) 1 (by decide)
  · rw [e3]; exact fn_b4 a (by omega) 2 (by decide)
def hR (v : Int32) : RZs := fun z z' => z = z0 ∧ z' = if v.toInt = 0 then z0 else (1, [], [])
theorem sp_ghead {a1 a2 a3 : Int32} {W : Int} {Q : Int32 → St → Prop} (tk : TKc σ) (ga : GA σ) (cb : CBd σ 70) (hp : P0 σ) (h2 : -1 ≤ a2.toInt ∧ a2.toInt ≤ 5) (h3 : a3 = 0 ∨ a3 = 1 ∨ a3 = 2) (hW : 0 ≤ W) (hn : (σ 3 3).toInt < 0 → VN σ a1 W) (k : ∀ v s, GRz σ s (hR v) (-3) (-4) W → P0 s → Q v s) : wk_X3_head a1 a2 a3 σ Q := by
  have main : ∀ (x4 : Int32) (s40 : St) (n : Nat), n ≤ 8 → SGr n x4 → GRz σ s40 (rId (fun z => z = z0)) (-2 - 2 * n) (-4) (-1) → P0 s40 → wk_X3_expect (21 : Int32) s40 (fun s43 => (∃ J60 : Int32 → Prop, (∀ (y0_60 : Int32), y0_60 = 0 ∨ y0_60 = 1 → J60 y0_60 → ((∃ J86 : Int32 → Prop, (∀ (y5_86 : Int32), J86 y5_86 → (wk_X3_add (47 : Int32) a1 x4 ((((a2 + (1 : Int32)) * (8 : Int32)) + a3) + y5_86) s43 (fun v87 s87 => (∃ J102 : St → Prop, (∀ (s102 : St), J102 s102 → (∃ L105 : Nat → Int32 → St → Prop, (∃ n, L105 n (0 : Int32) s102) ∧ ∀ (n105 : Nat) (x6_105 : Int32) (s105 : St), L105 n105 x6_105 s105 → (wk_X8_parameters x4 s105 (fun v109 => (v109.toInt ≤ x6_105.toInt → Q y0_60 s105) ∧ (x6_105.toInt < v109.toInt → (y0_60.toInt = 0 → Q y0_60 s105) ∧ (y0_60.toInt ≠ 0 → wk_X8_parameter x4 x6_105 s105 (fun v136 => wk_X3_add (48 : Int32) (atv 8 (s105 23) x6_105) v136 (0 : Int32) s105 (fun v140 s140 => ∃ m, m < n105 ∧ L105 m (x6_105 + 1) s140)))))))) ∧ (y0_60.toInt ≠ 0 → J102 s87) ∧ (y0_60.toInt = 0 → wk_X3_expect (27 : Int32) s87 (fun s99 => J102 s99)))))) ∧ (y0_60.toInt = 0 → J86 (0 : Int32)) ∧ (y0_60.toInt ≠ 0 → J86 (4 : Int32))))) ∧ ((s43 3 2).toInt ≠ 22 → J60 (0 : Int32)) ∧ ((s43 3 2).toInt = 22 → J60 (1 : Int32)))) := fun x4 s40 n hn8 hx4 r40 p40 => by
    refine sp_gexpect (tk_kg r40.1 tk) r40.2.1 (by decide) (fun s43 r43' p43' e43 => ?_)
    have r43 := grz_tr (R'' := rId (fun z => z = z0)) ga r40 (exp_z (P := fun _ => True) r43' e43) (fun z z'' q => ⟨z'', q, trivial, rfl⟩)
    have p43 := p0_of p43' p40
    have sp : spar x4 = n := by
      unfold spar
      rw [ushr24 hx4 (by omega)]
      rfl
    have vk : VN s43 a1 = VN σ a1 := vn_same (funext (fun j => r43.1 13 j rfl rfl)) (funext (fun j => r43.1 14 j rfl rfl))
    have addf : ∀ (y5 : Int32) (b : Prop) (z1 : Zs), (dz 47 x4 ((((a2 + (1 : Int32)) * (8 : Int32)) + a3) + y5) z0 z1) → ∀ {s87 : St}, ADD s43 s87 47 a1 x4 ((((a2 + (1 : Int32)) * (8 : Int32)) + a3) + y5) → GRz σ s87 (fun z z' => z = z0 ∧ z' = z1) (-3 - 2 * n) (-4) W := fun y5 b z1 hd s87 ad => by
      by_cases hg : (s87 3 3).toInt < 0
      · have hg2 : (s43 3 3).toInt < 0 := by rw [← ad.2.2.2.1]; exact hg
        have hg0 := (r43.2.2 hg2).1
        refine grz_wk (grz_tr (R'' := fun z z' => z = z0 ∧ z' = z1) ga r43 (add_z (R := fun z z' => z = z0 ∧ z' = z1) (w := 4) (v := W) ad r43.2.1 (fun _ z z' q => by obtain ⟨rfl, rfl⟩ := q; exact hd) (by decide) (by decide) hW (fun _ => by rw [vk]; exact hn hg0)) (fun z z'' q => ⟨z, ⟨q.1, rfl⟩, q⟩)) (fun _ _ q => q) (by omega) (by omega) (by omega)
      · exact grz_bad (kp_tr r43.1 ad.1) ad.2.1 (by omega)
    refine ⟨fun _ => True, fun y0 hy _ => ?_, fun _ => trivial, fun _ => trivial⟩
    by_cases hz : y0.toInt = 0
    · refine ⟨fun y5 => y5 = 0, ?_, fun _ => rfl, fun c => absurd hz c⟩
      rintro y5 rfl
      refine sp_gadd0 (tk_kg r43.1 tk) r43.2.1 (cb_grz cb r43 (by omega)) (fun v5 s5 ad5 _ => ?_)
      have r5 := addf 0 True z0 (dzc_47 ⟨rfl, rfl, by omega, Or.inr ⟨(fn_b4' h2 h3).1, rfl⟩⟩) ad5
      have p5 := p0_of ad5.2.2.1 p43
      refine ⟨fun s => GRz σ s (hR y0) (-3) (-4) W ∧ P0 s, fun s h => ⟨fun _ _ s => GRz σ s (hR y0) (-3) (-4) W ∧ P0 s, ⟨0, h⟩, fun _ _ s h => ?_⟩, fun c => absurd hz c, fun _ => ?_⟩
      · show (_ → Q y0 s) ∧ _
        exact ⟨fun _ => k y0 s h.1 h.2, fun _ => ⟨fun _ => k y0 s h.1 h.2, fun c => absurd hz c⟩⟩
      · refine sp_gexpect (tk_kg r5.1 tk) r5.2.1 (by decide) (fun s6 r6' p6' e6 => ⟨?_, p0_of p6' p5⟩)
        refine grz_wk (grz_tr (R'' := hR y0) ga r5 (exp_z (P := fun _ => True) r6' e6) (fun z z'' q => ?_)) (fun _ _ q => q) (by omega) (by omega) (by omega)
        unfold hR at q
        rw [if_pos hz] at q
        exact ⟨z'', q, trivial, rfl⟩
    · refine ⟨fun y5 => y5 = 4, ?_, fun c => absurd c hz, fun _ => rfl⟩
      rintro y5 rfl
      refine sp_gadd0 (tk_kg r43.1 tk) r43.2.1 (cb_grz cb r43 (by omega)) (fun v5 s5 ad5 _ => ?_)
      have r5 := addf 4 True (1 + n, [], []) (dzc_47 ⟨rfl, rfl, by omega, Or.inl ⟨(fn_b4' h2 h3).2, by rw [sp]⟩⟩) ad5
      have p5 := p0_of ad5.2.2.1 p43
      refine ⟨fun s => s = s5, ?_, fun _ => rfl, fun c => absurd c hz⟩
      rintro s rfl
      refine ⟨fun f x s => ∃ i : Nat, i ≤ n ∧ x.toInt = i ∧ f = n - i ∧ GRz σ s (fun z z' => z = z0 ∧ z' = (1 + (n - i), [], [])) (-3 - 2 * n + i) (-4) W ∧ P0 s, ⟨n, 0, Nat.zero_le _, rfl, rfl, grz_wk r5 (fun _ _ q => q) (by omega) (by omega) (by omega), p5⟩, ?_⟩
      rintro f x s6 ⟨i, hi, hx, hf, r6, p6⟩
      have en := ushr24 hx4 (by omega)
      show (_ → Q y0 s6) ∧ _
      have fin : n ≤ i → Q y0 s6 := fun c => k y0 s6 (grz_wk r6 (fun z z' q => by
        unfold hR at q
        rw [if_neg hz] at q
        have : n - i = 0 := by omega
        rw [this]
        exact q) (by omega) (by omega) (by omega)) p6
      refine ⟨fun c => fin (by omega), fun c => ⟨fun c2 => absurd c2 hz, fun _ => ?_⟩⟩
      unfold wk_X8_parameter
      refine sp_gadd0 (tk_kg r6.1 tk) r6.2.1 (cb_grz cb r6 (by omega)) (fun v7 s7 ad7 _ => ⟨n - (i + 1), by omega, i + 1, by omega, by rw [ad1 (by omega)]; omega, rfl, ?_, p0_of ad7.2.2.1 p6⟩)
      refine grz_wk (grz_add (R'' := fun z z' => z = z0 ∧ z' = (1 + (n - (i + 1)), [], [])) (w' := 0) ga r6 ad7 (fun z z'' q => ?_) (by decide) (by decide) (by decide)) (fun _ _ q => q) (by omega) (by omega) (by omega)
      obtain ⟨rfl, rfl⟩ := q
      refine ⟨_, ⟨rfl, rfl⟩, dzc_48 ⟨by decide, n - (i + 1), ?_, ?_⟩⟩
      · have : 1 + (n - i) = n - (i + 1) + 2 := by omega
        rw [this]
      · have : 1 + (n - (i + 1)) = n - (i + 1) + 1 := by omega
        rw [this]
  unfold wk_X3_head
  refine sp_gexpect tk ga (by decide) (fun s3 r3' p3' e3 => ?_)
  have r3 := exp_z (P := fun z => z = z0) r3' e3
  have p3 := p0_of p3' hp
  refine ⟨fun x s => ∃ n : Nat, n ≤ 8 ∧ SGr n x ∧ GRz σ s (rId (fun z => z = z0)) (-2 - 2 * n) (-4) (-1) ∧ P0 s, fun x s h => ?_, fun c => ⟨fun _ => ⟨0, by omega, ⟨by decide, by decide⟩, grz_wk r3 (fun _ _ q => q) (by omega) (by omega) (by omega), p3⟩, fun _ => ?_⟩, fun c => ?_⟩
  · obtain ⟨n, n1, n2, n3, n4⟩ := h
    exact main x s n n1 n2 n3 n4
  · refine sp_gparameters (P := fun _ => True) (tk_kg r3.1 tk) r3.2.1 p3 (fun x s n hn hx r p => ⟨n, hn, hx, ?_, p⟩)
    exact grz_wk (grz_tr (R'' := rId (fun z => z = z0)) ga r3 r (fun z z'' q => ⟨z'', q, trivial, rfl⟩)) (fun _ _ q => q) (by omega) (by omega) (by omega)
  · refine sp_gadv (tk_kg r3.1 tk) r3.2.1 (by omega) (fun s4 a4 => ⟨0, by omega, ⟨by decide, by decide⟩, ?_, p0_of a4.2.2.2.2.1 p3⟩)
    exact grz_wk (grz_tr (R'' := rId (fun z => z = z0)) ga r3 (adv_z (P := fun _ => True) a4) (fun z z'' q => ⟨z'', q, trivial, rfl⟩)) (fun _ _ q => q) (by omega) (by omega) (by omega)
/-- a unit that is read -/
def RDk (s : St) : Prop := (0 ≤ (s 3 4).toInt ∧ (s 3 4).toInt ≤ 32000) ∧ (∃ m, RZ s m 0 (cn s) z0 z0) ∧ (csum s (cn s) 0 : Int) ≤ 4 * (s 2 1).toInt ∧ (nsum s (cn s) 0 : Int) ≤ (s 2 1).toInt
theorem sp_gread {Q : Int32 → St → Prop} (tk : TKc σ) (k0 : ∀ s, KG σ s → Q 0 s) (k1 : ∀ s, KG σ s → RDk s → Q 1 s) : wk_X3_read σ Q := by
  unfold wk_X3_read
  generalize h1 : (upC (upC (upC (upC σ 3 4 (0 : Int32)) 3 9 (0 : Int32)) 3 3 ((-1) : Int32)) 3 1 ((-1) : Int32)) = σ1
  have k1' : KG σ σ1 := by rw [← h1]; exact kp_f (kp_f (kp_f (kp_f kp_rf rfl) rfl) rfl) rfl
  have f4 : (σ1 3 4) = 0 := by rw [← h1]; rfl
  have f9 : (σ1 3 9) = 0 := by rw [← h1]; rfl
  have f3 : (σ1 3 3) = -1 := by rw [← h1]; rfl
  have f1 : (σ1 3 1) = -1 := by rw [← h1]; rfl
  have tk1 := tk_kg k1' tk
  have first : ∀ (Q' : St → Prop), (∀ s, KG σ1 s → GA s → (s 3 4) = 0 → P0 s → (s 3 3).toInt < 0 → Q' s) → wk_X3_advance σ1 Q' := fun Q' kk => by
    unfold wk_X3_advance
    rw [f1]
    have z : ((-1 : Int32) + (1 : Int32)) = 0 := by decide
    rw [z]
    have c0 := tk1.1.1
    refine ⟨fun y => y = 1, ?_, False, fun f => f.elim, fun c => absurd c (by decide), fun _ => ⟨fun c => ?_, fun _ => ⟨fun c => absurd c (by decide), fun _ => rfl⟩⟩⟩
    · rintro y - rfl
      refine ⟨fun c => absurd c (by decide), fun _ => ⟨⟨by decide, by decide⟩, kk _ (kp_f (kp_f kp_rf rfl) rfl) ⟨fun _ => ⟨⟨by show (0 : Int) ≤ 0; omega, by show (0 : Int) < (σ1 2 4).toInt; omega⟩, rfl, by show 0 ≤ (σ1 3 4).toInt; rw [f4]; decide⟩, fun c => ?_⟩ f4 f9 (by show (σ1 3 3).toInt < 0; rw [f3]; decide)⟩⟩
      have : 0 ≤ (σ1 3 3).toInt := c
      rw [f3] at this
      exact absurd this (by decide)
    · have : (0 : Int32).toInt = 0 := rfl
      omega
  refine first _ (fun s2 k2 g2 c2 p2 w2 => ?_)
  have tk2 := tk_kg k2 tk1
  have kk2 : KG σ s2 := kp_tr k1' k2
  have cb2 : CBd s2 70 := fun hw => by
    have := pl_rng tk2 g2 hw
    have : (s2 3 4).toInt = 0 := by rw [c2]; rfl
    omega
  have cn2 : cn s2 = 0 := by unfold cn; rw [c2]; rfl
  refine ⟨fun n y s => n = y.toInt.toNat ∧ GRz s2 s (rId (fun z => z = z0)) 0 0 0 ∧ P0 s, ⟨_, rfl, grz_rf g2, p2⟩, ?_⟩
  rintro n y s ⟨hn, r, p⟩
  have tks := tk_kg r.1 tk2
  have fin : ((0 ≤ (s 3 3).toInt → Q (0 : Int32) s) ∧ ((s 3 3).toInt < 0 → Q (1 : Int32) s)) := by
    refine ⟨fun _ => k0 s (kp_tr kk2 r.1), fun hw => k1 s (kp_tr kk2 r.1) ?_⟩
    obtain ⟨a1, a2, m, a3, a4, a5, a6, a7, a8⟩ := r.2.2 hw
    have q0 := pl_rng tk2 g2 a1
    have qs := (tks.2.1 (ps s) (by
      obtain ⟨⟨x1, x2⟩, -⟩ := r.2.1.1 hw
      have en : (ps s : Int) = (s 3 1).toInt := nt x1
      omega)).1.2
    have e2 : (s2 3 4).toInt = 0 := by rw [c2]; rfl
    have es : cn s = m := by
      have := cn_eq (r.2.1.1 hw).2.2
      omega
    rw [cn2] at a5 a6 a8
    obtain ⟨m2, a9⟩ := a8 z0 z0 ⟨rfl, rfl⟩
    have epl : pl s = ((s 15) (ps s)).toInt := rfl
    refine ⟨by have := tks.1.2.2; omega, ⟨m2, ?_⟩, by rw [es]; omega, by rw [es]; omega⟩
    rw [es]
    have : 0 + m = m := by omega
    rw [this] at a9
    exact a9
  refine ⟨True, fun _ => fin, fun _ => trivial, fun c => ⟨fun _ => trivial, fun _ => ⟨fun _ => trivial, fun _ => ?_⟩⟩⟩
  have cbs := cb_grz (c' := 70) cb2 r (by omega)
  refine ⟨fun y0 => (y0 = 0 ∨ y0 = 1 ∨ y0 = 2) ∧ (y0.toInt ≠ 0 → 2 ≤ (s 3 2).toInt), ?_, fun c7 => ⟨fun _ => ⟨Or.inl rfl, fun e => absurd rfl e⟩, fun c8 => ⟨Or.inr (Or.inr rfl), fun _ => by omega⟩⟩, fun c7 => ⟨Or.inr (Or.inl rfl), fun _ => by omega⟩⟩
  rintro y0 ⟨hy0, hk0⟩
  refine ⟨fun s3 => GRz s2 s3 (rId (fun z => z = z0)) 0 0 0 ∧ P0 s3, ?_, fun _ => ⟨r, p⟩, fun e => sp_gadv tks r.2.1 (hk0 e) (fun s3 a3 => ⟨?_, p0_of a3.2.2.2.2.1 p⟩)⟩
  · rintro s3 ⟨r3, p3⟩
    refine ⟨fun _ => True, fun y1 hy1 _ => ?_, fun _ => trivial, fun _ => trivial⟩
    refine ⟨fun w => 2 ≤ w.toInt, ?_, fun _ => by decide, fun _ => by decide⟩
    intro w hw
    refine sp_gexpect (tk_kg r3.1 tk2) r3.2.1 hw (fun s4 r4' p4' e4 => ?_)
    have r4 := grz_tr (R'' := rId (fun z => z = z0)) g2 r3 (exp_z (P := fun _ => True) r4' e4) (fun z z'' q => ⟨z'', q, trivial, rfl⟩)
    have p4 := p0_of p4' p3
    refine ⟨fun ty s5 => (-1 ≤ ty.toInt ∧ ty.toInt ≤ 5) ∧ (y1.toInt = 0 → 0 ≤ ty.toInt) ∧ GRz s2 s5 (rId (fun z => z = z0)) (-2) (-4) (-1) ∧ P0 s5, ?_, fun _ => sp_gstars (tk_kg r4.1 tk2) r4.2.1 (fun v5 s5 r5' p5' hv5 ec5 => ⟨by omega, fun _ => hv5.1, ?_, p0_of p5' p4⟩), fun c => ⟨by decide, fun e => absurd e c, grz_wk r4 (fun _ _ q => q) (by omega) (by omega) (by omega), p4⟩⟩
    · rintro ty s5 ⟨ht, -, r5, p5⟩
      have tk5 := tk_kg r5.1 tk2
      refine sp_gexpect tk5 r5.2.1 (by decide) (fun s6 r6' p6' e6 => ?_)
      obtain ⟨wd, q0, q1, q2⟩ := exp_n (P := fun _ => True) tk5 r5.2.1 r6' e6
      have r6 := grz_tr (R'' := rId (fun z => z = z0)) g2 r5 q1 (fun z z'' q => ⟨z'', q, trivial, rfl⟩)
      have p6 := p0_of p6' p5
      have tk6 := tk_kg r6.1 tk2
      have vk : ∀ y, VN s6 y = VN s5 y := fun y => vn_same (funext (fun j => (r6' 0 []).1 13 j rfl rfl)) (funext (fun j => (r6' 0 []).1 14 j rfl rfl))
      have nm : (s6 3 3).toInt < 0 → VN s6 (s5 3 1) wd := fun hw => by rw [vk]; exact q2 hw
      refine ⟨fun s7 => GRz s2 s7 (rId (fun z => z = z0)) 0 0 0 ∧ P0 s7, fun s7 h => ⟨_, dn_lt hn c, rfl, h.1, h.2⟩, True, fun _ => ?_, fun _ => trivial, fun _ => ⟨fun _ => trivial, fun _ => ?_⟩⟩
      · refine sp_ghead (W := wd) tk6 r6.2.1 (cb_grz cb2 r6 (by omega)) p6 ht hy0 q0 nm (fun v7 s7 r7' p7 => ⟨fun c7 => ⟨?_, p7⟩, fun c7 => ?_⟩)
        · exact grz_wk (grz_tr (R'' := rId (fun z => z = z0)) g2 r6 r7' (fun z z'' q => ⟨z, ⟨q.1, rfl⟩, by unfold hR; rw [if_pos c7]; exact ⟨q.1, q.2.trans q.1⟩⟩)) (fun _ _ q => q) (by omega) (by omega) (by omega)
        · have r7 := grz_tr (R'' := fun z z' => z = z0 ∧ z' = (1, [], [])) g2 r6 r7' (fun z z'' q => ⟨z, ⟨q.1, rfl⟩, by unfold hR; rw [if_neg c7]; exact q⟩)
          refine spg_stms 1 s7 _ rfl (tk_kg r7.1 tk2) r7.2.1 (cb_grz cb2 r7 (by omega)) p7 (fun s8 r8' p8 => ?_)
          have r8 := grz_tr (R'' := fun z z' => z = z0 ∧ z' = (1, [], [])) g2 r7 r8' (fun z z'' q => ⟨z'', q, ⟨[], q.2, Nat.le_refl _, Or.inl rfl⟩, rfl⟩)
          refine sp_gadd0 (tk_kg r8.1 tk2) r8.2.1 (cb_grz cb2 r8 (by omega)) (fun v9 s9 ad9 _ => ⟨?_, p0_of ad9.2.2.1 p8⟩)
          exact grz_wk (grz_add (R'' := rId (fun z => z = z0)) (w' := 3) g2 r8 ad9 (fun z z'' q => by
            obtain ⟨rfl, rfl⟩ := q
            exact ⟨_, ⟨rfl, rfl⟩, dzc_49 ⟨by decide, rfl, rfl⟩⟩) (by decide) (by decide) (by decide)) (fun _ _ q => q) (by omega) (by omega) (by omega)
      · refine sp_gvariables (F := 0) (m := 0) (W := wd) (by decide) tk6 r6.2.1 (cb_grz cb2 r6 (by omega)) p6 hy0 q0 nm (fun s7 r7 p7 => ⟨?_, p7⟩)
        exact grz_wk (grz_tr (R'' := rId (fun z => z = z0)) g2 r6 r7 (fun z z'' q => ⟨z, ⟨q.1, rfl⟩, ⟨[], q.1, Nat.le_refl _, Or.inl rfl⟩, q.2⟩)) (fun _ _ q => q) (by omega) (by omega) (by omega)
    · exact grz_wk (grz_tr (R'' := rId (fun z => z = z0)) g2 r4 (nil_z (P := fun _ => True) r5' ec5) (fun z z'' q => ⟨z'', q, trivial, rfl⟩)) (fun _ _ q => q) (by omega) (by omega) (by omega)
  · exact grz_wk (grz_tr (R'' := rId (fun z => z = z0)) g2 r (adv_z (P := fun _ => True) a3) (fun z z'' q => ⟨z'', q, trivial, rfl⟩)) (fun _ _ q => q) (by omega) (by omega) (by omega)
end GRD
