section
/-! the grammar: what stands behind for; sizes; what variables begin with -/
def fR : RZs := fun z z' => ∃ K, z = (1, K, []) ∧ sk 24 K ∧ z' = (1, 8 :: K, [])
def f6 : RZs := fun z z' => ∃ K, z = (1, K, []) ∧ sk 24 K ∧ z' = (1, 6 :: K, [])
def f7 : RZs := fun z z' => ∃ K, z = (1, K, []) ∧ sk 24 K ∧ z' = (1, 7 :: K, [])
theorem nz_s7 {K : List Nat} : nz (7 :: K) = nz K + 1 := by
  unfold nz nzr
  rw [List.filter_cons_of_pos (by decide), List.filter_cons_of_neg (by decide)]
  show _ + 1 + _ = _ + _ + 1
  omega
section GFO
variable {σ s t : St} {R R' R'' : RZs} {u w v : Int} {m : Nat}
/-- an expression that is thrown away -/
theorem sp_gdisc {a : Int32} {σ0 : St} {Q : Int32 → St → Prop} (tk : TKc σ0) (ga : GA σ0) (cb : CBd σ0 70) (r : GRz σ0 σ R u w v) (hu : u ≤ 0) (hp : P0 σ) (hR : ∀ z z', R z z' → ∃ K, z' = (1, K, []) ∧ nz K ≤ 100) (k : ∀ x s, GRz σ0 s R u w v → P0 s → Q x s) : wkG_expression (1 : Int32) σ (fun s17 => wk_X3_add (22 : Int32) a (0 : Int32) (0 : Int32) s17 (fun v26 s26 => Q v26 s26)) := by
  refine sp_gx (tk_kg r.1 tk) r.2.1 (cb_grz cb r (by omega)) hp (fun s2 r2' p2 => ?_)
  have r2 := grz_tr (R'' := fun z z' => ∃ K, z' = (1, K, [iV]) ∧ R z (1, K, [])) ga r r2' (fun z z'' q => by
    obtain ⟨K, rfl, q⟩ := q
    exact ⟨_, q, 1, K, rfl, rfl⟩)
  refine sp_gadd0 (tk_kg r2.1 tk) r2.2.1 (cb_grz cb r2 (by omega)) (fun x s3 ad _ => k x s3 ?_ (p0_of ad.2.2.1 p2))
  refine grz_wk (grz_tr (R'' := R) ga r2 (add_z (R := fun z z' => ∃ K, z = (1, K, [iV]) ∧ z' = (1, K, []) ∧ nz K ≤ 100) (w := 1) (v := 0) ad r2.2.1 (fun _ z z' q => by
    obtain ⟨K, rfl, rfl, q3⟩ := q
    exact dzc_22 ⟨by decide, K, rfl, rfl, q3⟩) (by decide) (by decide) (by omega) (fun c => absurd c (by decide))) (fun z z'' q => by
    obtain ⟨K, rfl, q3⟩ := hR z z'' q
    exact ⟨_, ⟨K, rfl, q⟩, K, rfl, rfl, q3⟩)) (fun _ _ q => q) (by omega) (by omega) (by omega)
theorem sp_gcounted {a : Int32} {Q : St → Prop} (tk : TKc σ) (ga : GA σ) (cb : CBd σ 70) (hp : P0 σ) (k : ∀ s, GRz σ s fR (-5) (-8) 0 → P0 s → Q s) : wk_X3_counted a σ Q := by
  unfold wk_X3_counted
  refine sp_gexpect tk ga (by decide) (fun s3 r3' p3' e3 => ?_)
  have r3 := exp_z (P := fun z => ∃ K, z = (1, K, []) ∧ sk 24 K) r3' e3
  have p3 := p0_of p3' hp
  refine ⟨fun s => GRz σ s (kR 24) (-2) (-4) (-1) ∧ P0 s, ?_, fun _ => ⟨r3, p3⟩, fun _ => sp_gdisc tk ga cb r3 (by omega) p3 (fun z z' q => by obtain ⟨⟨K, e, e2⟩, rfl⟩ := q; exact ⟨K, e, by have := e2.1; omega⟩) (fun x s r p => ⟨r, p⟩)⟩
  rintro s4 ⟨r4, p4⟩
  refine sp_gexpect (tk_kg r4.1 tk) r4.2.1 (by decide) (fun s5 r5' p5' e5 => ?_)
  have r5 := grz_tr (R'' := kR 24) ga r4 (exp_z (P := fun _ => True) r5' e5) (fun z z'' q => ⟨z'', q, trivial, rfl⟩)
  have p5 := p0_of p5' p4
  refine sp_gadd0 (tk_kg r5.1 tk) r5.2.1 (cb_grz cb r5 (by omega)) (fun x s6 ad6 _ => ?_)
  have r6 := grz_tr (R'' := f6) ga r5 (add_z (R := f6) (w := 0) (v := 0) ad6 r5.2.1 (fun _ z z' q => by
    obtain ⟨K, rfl, q, rfl⟩ := q
    exact dzc_32 ⟨by decide, K, rfl, rfl, q⟩) (by decide) (by decide) (by omega) (fun c => absurd c (by decide))) (fun z z'' q => by
    obtain ⟨K, rfl, q, rfl⟩ := q
    exact ⟨_, ⟨⟨K, rfl, q⟩, rfl⟩, K, rfl, q, rfl⟩)
  have p6 := p0_of ad6.2.2.1 p5
  have last : ∀ (y3 : Int32) s9 (R9 : RZs), GRz σ s9 R9 (-3) (-8) 0 → P0 s9 → (∀ z z', f7 z z' → ∃ z1, R9 z z1 ∧ ∃ K, z1 = (1, 6 :: K, if y3.toInt = 0 then [] else [iV]) ∧ z' = (1, 7 :: K, [])) → wk_X3_add (33 : Int32) a y3 (0 : Int32) s9 (fun v84 s84 => wk_X3_expect (27 : Int32) s84 (fun s91 => (∃ J118 : St → Prop, (∀ (s118 : St), J118 s118 → (wk_X3_expect (21 : Int32) s118 (fun s121 => wk_X3_add (34 : Int32) a (0 : Int32) (0 : Int32) s121 (fun v130 s130 => Q s130)))) ∧ ((s91 3 2).toInt = 21 → J118 s91) ∧ ((s91 3 2).toInt ≠ 21 → wkG_expression (1 : Int32) s91 (fun s105 => wk_X3_add (22 : Int32) a (0 : Int32) (0 : Int32) s105 (fun v114 s114 => J118 s114)))))) := fun y3 s9 R9 r9 p9 h9 => by
    refine sp_gadd0 (tk_kg r9.1 tk) r9.2.1 (cb_grz cb r9 (by omega)) (fun x s10 ad _ => ?_)
    have r10 := grz_tr (R'' := f7) ga r9 (add_z (R := fun z z' => ∃ K, z = (1, 6 :: K, if y3.toInt = 0 then [] else [iV]) ∧ z' = (1, 7 :: K, [])) (w := 4) (v := 0) ad r9.2.1 (fun _ z z' q => dzc_33 ⟨by decide, q⟩) (by decide) (by decide) (by omega) (fun c => absurd c (by decide))) h9
    have p10 := p0_of ad.2.2.1 p9
    refine sp_gexpect (tk_kg r10.1 tk) r10.2.1 (by decide) (fun s11 r11' p11' e11 => ?_)
    have r11 := grz_tr (R'' := f7) ga r10 (exp_z (P := fun _ => True) r11' e11) (fun z z'' q => ⟨z'', q, trivial, rfl⟩)
    have p11 := p0_of p11' p10
    refine ⟨fun s => GRz σ s f7 (-4) (-8) 0 ∧ P0 s, ?_, fun _ => ⟨grz_wk r11 (fun _ _ q => q) (by omega) (by omega) (by omega), p11⟩, fun _ => sp_gdisc tk ga cb r11 (by omega) p11 (fun z z' q => by obtain ⟨K, e, e2, rfl⟩ := q; exact ⟨_, rfl, by rw [nz_s7]; have := e2.1; omega⟩) (fun x s r p => ⟨grz_wk r (fun _ _ q => q) (by omega) (by omega) (by omega), p⟩)⟩
    rintro s12 ⟨r12, p12⟩
    refine sp_gexpect (tk_kg r12.1 tk) r12.2.1 (by decide) (fun s13 r13' p13' e13 => ?_)
    have r13 := grz_tr (R'' := f7) ga r12 (exp_z (P := fun _ => True) r13' e13) (fun z z'' q => ⟨z'', q, trivial, rfl⟩)
    have p13 := p0_of p13' p12
    refine sp_gadd0 (tk_kg r13.1 tk) r13.2.1 (cb_grz cb r13 (by omega)) (fun x s14 ad14 _ => k s14 ?_ (p0_of ad14.2.2.1 p13))
    refine grz_wk (grz_tr (R'' := fR) ga r13 (add_z (R := fun z z' => ∃ K, z = (1, 7 :: K, []) ∧ z' = (1, 8 :: K, [])) (w := 4) (v := 0) ad14 r13.2.1 (fun _ z z' q => dzc_34 ⟨by decide, q⟩) (by decide) (by decide) (by omega) (fun c => absurd c (by decide))) (fun z z'' q => ?_)) (fun _ _ q => q) (by omega) (by omega) (by omega)
    obtain ⟨K, rfl, q, rfl⟩ := q
    exact ⟨_, ⟨K, rfl, q, rfl⟩, K, rfl, rfl⟩
  refine ⟨fun _ => True, fun y hy _ => ?_, fun _ => trivial, fun _ => trivial⟩
  by_cases hz : y.toInt = 0
  · refine ⟨fun s => s = s6, ?_, fun _ => rfl, fun c => absurd hz c⟩
    rintro s rfl
    refine ⟨fun y3 => y3 = 0, ?_, fun _ => rfl, fun c => absurd hz c⟩
    rintro y3 - rfl
    refine last 0 s _ (grz_wk r6 (fun _ _ q => q) (by omega) (by omega) (by omega)) p6 (fun z z' q => ?_)
    obtain ⟨K, rfl, q2, rfl⟩ := q
    exact ⟨_, ⟨K, rfl, q2, rfl⟩, K, rfl, rfl⟩
  · refine ⟨fun s => GRz σ s (fun z z' => ∃ K, z = (1, K, []) ∧ sk 24 K ∧ z' = (1, 6 :: K, [iV])) (-3) (-8) 0 ∧ P0 s, ?_, fun c => absurd c hz, fun _ => sp_gx (tk_kg r6.1 tk) r6.2.1 (cb_grz cb r6 (by omega)) p6 (fun s7 r7 p7 => ⟨?_, p7⟩)⟩
    · rintro s ⟨r9, p9⟩
      refine ⟨fun y3 => y3 = 1, ?_, fun c => absurd c hz, fun _ => rfl⟩
      rintro y3 - rfl
      refine last 1 s _ r9 p9 (fun z z' q => ?_)
      obtain ⟨K, rfl, q2, rfl⟩ := q
      exact ⟨_, ⟨K, rfl, q2, rfl⟩, K, rfl, rfl⟩
    · exact grz_wk (grz_tr (R'' := fun z z' => ∃ K, z = (1, K, []) ∧ sk 24 K ∧ z' = (1, 6 :: K, [iV])) ga r6 r7 (fun z z'' q => by
        obtain ⟨K, rfl, q2, rfl⟩ := q
        exact ⟨_, ⟨K, rfl, q2, rfl⟩, 1, _, rfl, rfl⟩)) (fun _ _ q => q) (by omega) (by omega) (by omega)
/-- a place for a variable: between entities, or among statements, outside of initials -/
def vP (F m : Nat) : Zs → Prop := fun z => ∃ K, z = (F, K, []) ∧ sk m K
def vR (F m : Nat) : RZs := rId (vP F m)
/-- a bracket: its step, if any -/
theorem sp_gbracket {Q : Int32 → St → Prop} {F : Nat} (tk : TKc σ) (ga : GA σ) (cb : CBd σ 70) (hp : P0 σ) (hk : (σ 3 2).toInt = 24) (k : ∀ (x : Int32) s, GRz σ s (vR F m) (-1) (-5) (-1) → P0 s → ((s 3 3).toInt < 0 → ∃ j : Nat, x.toInt = j ∧ act s j = 42 ∧ (j : Int) < (s 3 4).toInt ∧ (σ 3 4).toInt ≤ j) → Q x s) : wk_X3_bracket σ Q := by
  have fin : ∀ (y3 : Int32) s, GRz σ s (vR F m) 0 (-3) (-1) → P0 s → wk_X3_expect (25 : Int32) s (fun s63 => (∃ J79 : Int32 → Prop, (∀ (y3_79 : Int32), y3_79 = 0 ∨ y3_79 = 1 → J79 y3_79 → (wk_X3_add (42 : Int32) (σ 3 1) y3_79 (0 : Int32) s63 (fun v80 s80 => Q v80 s80))) ∧ (y3.toInt = 0 → J79 (0 : Int32)) ∧ (y3.toInt ≠ 0 → J79 (1 : Int32)))) := fun y3 s r p => by
    refine sp_gexpect (tk_kg r.1 tk) r.2.1 (by decide) (fun s5 r5' p5' e5 => ?_)
    have r5 := grz_tr (R'' := vR F m) ga r (exp_z (P := fun _ => True) r5' e5) (fun z z'' q => ⟨z'', q, trivial, rfl⟩)
    refine ⟨fun _ => True, fun y _ _ => ?_, fun _ => trivial, fun _ => trivial⟩
    refine sp_gadd0 (tk_kg r5.1 tk) r5.2.1 (cb_grz cb r5 (by omega)) (fun x s6 ad hx => k x s6 ?_ (p0_of ad.2.2.1 (p0_of p5' p)) (fun hw => ?_))
    · exact grz_wk (grz_tr (R'' := vR F m) ga r5 (add_z (R := vR F m) (w := 0) (v := 0) ad r5.2.1 (fun _ z z' q => by
        obtain ⟨⟨K, rfl, -⟩, rfl⟩ := q
        exact dzc_42 ⟨by decide, F, K, rfl, rfl⟩) (by decide) (by decide) (by omega) (fun c => absurd c (by decide))) (fun z z'' q => ⟨z, ⟨q.1, rfl⟩, q⟩)) (fun _ _ q => q) (by omega) (by omega) (by omega)
    · have hw5 : (s5 3 3).toInt < 0 := by rw [← ad.2.2.2.1]; exact hw
      obtain ⟨c1, c2, -⟩ := ad.2.2.2.2.2.2 hw5
      obtain ⟨a1, a2, n, a3, -⟩ := r5.2.2 hw5
      have e := cn_eq (r5.2.1.1 hw5).2.2
      exact ⟨cn s5, by rw [hx hw5]; omega, c2, by omega, by have := (ga.1 a1).2.2; omega⟩
  unfold wk_X3_bracket
  refine sp_gadv tk ga (by omega) (fun s6 a6 => ?_)
  have r6 := adv_z (P := vP F m) a6
  have p6 := p0_of a6.2.2.2.2.1 hp
  refine ⟨fun _ => True, fun y hy _ => ?_, fun _ => trivial, fun _ => trivial⟩
  refine ⟨fun s => GRz σ s (vR F m) 0 (-3) (-1) ∧ P0 s, fun s h => fin y s h.1 h.2, fun _ => ⟨grz_wk r6 (fun _ _ q => q) (by omega) (by omega) (by omega), p6⟩, fun _ => ?_⟩
  refine sp_gadd0 (tk_kg r6.1 tk) r6.2.1 (cb_grz cb r6 (by omega)) (fun x7 s7 ad7 hx7 => ?_)
  have h0 : (s7 3 9).toInt = 0 := by rw [ad7.2.2.1.1, p6]; rfl
  have tk7 := tk_kg ad7.1 (tk_kg r6.1 tk)
  have cb7 : CBd s7 70 := fun hw => by
    have hw6 : (s6 3 3).toInt < 0 := by rw [← ad7.2.2.2.1]; exact hw
    have b := cb_grz (c' := 68) cb r6 (by omega) hw6
    have e := add_pl ad7
    have c1 := (ad7.2.2.2.2.2.2 hw6).1
    omega
  refine spg_expr 1 s7 _ rfl tk7 ad7.2.1 cb7 ⟨by omega, by omega⟩ (fun s8 r8 p8 => ?_)
  have tk8 := tk_kg r8.1 tk7
  refine sp_gadd0 tk8 r8.2.1 (cb_grx cb7 r8 (by omega)) (fun x9 s9 ad9 hx9 => ⟨?_, by show (s9 3 9) = 0; rw [ad9.2.2.1.1, p8.1]; exact p0_of ad7.2.2.1 p6⟩)
  refine ⟨kp_F (kp_tr r6.1 (kp_tr ad7.1 (kp_tr r8.1 ad9.1))) rfl, ad9.2.1, fun hw => ?_⟩
  have hw9 : (s9 3 3).toInt < 0 := hw
  have hw8 : (s8 3 3).toInt < 0 := by rw [← ad9.2.2.2.1]; exact hw9
  obtain ⟨b1, b2, n, b3, b4, b5, b6, b7⟩ := r8.2.2 hw8
  have hw6 : (s6 3 3).toInt < 0 := by rw [← ad7.2.2.2.1]; exact b1
  obtain ⟨a1, a2, a0, a3, a4, a5, a9, a7, a8⟩ := r6.2.2 hw6
  have a0' : a0 = 0 := by
    have := a6.2.2.1
    rw [this] at a3
    omega
  subst a0'
  obtain ⟨c1, c2, c3, c4, c5, c6⟩ := ad7.2.2.2.2.2.2 hw6
  obtain ⟨d1, d2, d3, d4, d5, d6⟩ := ad9.2.2.2.2.2.2 hw8
  have g0 := (ga.1 a1).2.2
  have e0 := cn_eq g0
  have e6 : cn s6 = cn σ := by unfold cn; rw [a6.2.2.1]
  have e7 : (cn s7 : Int) = (s7 3 4).toInt := cn_eq (by omega)
  have e8 : (cn s8 : Int) = (s8 3 4).toInt := cn_eq (by omega)
  have q7 := add_pl ad7
  have q9 := add_pl ad9
  have h89 : (s9 3 4).toInt < 32200 := by
    have := pl_rng (tk_kg ad9.1 tk8) ad9.2.1 hw9
    have := cb_grx cb7 r8 (c' := 70) (by omega) hw8
    omega
  have ex7 : x7.toInt = cn σ := by rw [hx7 hw6, a6.2.2.1]; omega
  have ex9 : x9.toInt = cn s8 := by rw [hx9 hw8]; omega
  have hf : setv 32100 (s9 20) x7 x9 = fun j => if j = cn σ then x9 else (s9 20) j := by
    refine setv_at ex7 ?_
    have := pl_rng (tk_kg r6.1 tk) r6.2.1 hw6
    have := cb_grz (c' := 68) cb r6 (by omega) hw6
    omega
  generalize hF : (upF s9 20 (setv 32100 (s9 20) x7 x9)) = z
  have z20 : ∀ j, (z 20) j = if j = cn σ then x9 else (s9 20) j := fun j => by rw [← hF]; exact congrFun hf j
  have z18 : ∀ j, SameAt s9 z j := fun j => by rw [← hF]; exact ⟨rfl, rfl⟩
  have z21 : (z 21) = (s9 21) := by rw [← hF]; rfl
  have z13 : (z 13) = (s9 13) := by rw [← hF]; rfl
  have z14 : (z 14) = (s9 14) := by rw [← hF]; rfl
  have zpl : pl z = pl s9 := by rw [← hF]; rfl
  have zc : (z 3 4) = (s9 3 4) := by rw [← hF]; rfl
  have s8z : ∀ j : Nat, (j : Int) < (s8 3 4).toInt → SameAt s8 z j := fun j hj => by
    have x := (d6 j (by omega)).1
    exact ⟨(z18 j).1.trans x.1, (z18 j).2.trans x.2⟩
  have k13 : (z 13) = (s8 13) := z13.trans (funext (fun j => ad9.1 13 j rfl rfl))
  have k14 : (z 14) = (s8 14) := z14.trans (funext (fun j => ad9.1 14 j rfl rfl))
  have s7z : ∀ j : Nat, (j : Int) < (s7 3 4).toInt → SameAt s7 z j := fun j hj => by
    have x := (b2 j hj).1
    have y := s8z j (by omega)
    exact ⟨y.1.trans x.1, y.2.trans x.2⟩
  have ac0 : act z (cn σ) = 40 := by
    rw [act_same (s7z _ (by omega)), ← e6, c2]
    rfl
  have ac9 : act z (cn s8) = 41 := by
    rw [act_same (z18 _), d2]
    rfl
  have x8 := b7 [] (Nat.zero_le _)
  rw [List.append_nil, List.append_nil] at x8
  have e71 : cn s7 = cn σ + 1 := by omega
  have e81 : cn s8 = cn σ + 1 + n := by omega
  have sm8 : ∀ j, cn s7 ≤ j → j < cn s7 + n → SameAt s8 z j := fun j h1 h2 => s8z j (by omega)
  have c40 : cst z (cn σ) = 0 := by
    unfold cst
    rw [ac0, if_neg (by decide)]
    rfl
  have c41 : cst z (cn s8) = 0 := by
    unfold cst
    rw [ac9, if_neg (by decide)]
    rfl
  have n40 : nst z (cn σ) = 0 := by
    unfold nst
    rw [ac0, if_neg (by decide)]
  have n41 : nst z (cn s8) = 0 := by
    unfold nst
    rw [ac9, if_neg (by decide)]
  have en : n + 2 = 1 + (n + 1) := by omega
  have cs : csum z (n + 2) (cn σ) = csum s8 n (cn s7) := by
    rw [en, csum_app, csum_app]
    have t1 : csum z 1 (cn σ) = 0 := by show cst z (cn σ) + 0 = 0; omega
    have t2 : csum z 1 (cn σ + 1 + n) = 0 := by rw [← e81]; show cst z (cn s8) + 0 = 0; omega
    rw [t1, t2, ← e71, csum_same k14 n _ sm8]
    omega
  have ns : nsum z (n + 2) (cn σ) = 0 := by
    rw [en, nsum_app, nsum_app]
    have t1 : nsum z 1 (cn σ) = 0 := by show nst z (cn σ) + 0 = 0; omega
    have t2 : nsum z 1 (cn σ + 1 + n) = 0 := by rw [← e81]; show nst z (cn s8) + 0 = 0; omega
    rw [t1, t2, ← e71, nsum_same k14 n _ sm8, nsum_xr n _ _ _ x8]
  refine ⟨a1, fun j hj => ?_, n + 2, by rw [zc]; omega, by rw [zpl]; omega, by rw [cs, zpl]; omega, by rw [ns, zpl]; show (0 : Int) ≤ _; omega, by rw [zpl]; omega, fun w1 w2 q => ?_⟩
  · have x1 := a2 j hj
    have x2 := c6 j (by omega)
    have x3 := b2 j (by omega)
    have x4 := d6 j (by omega)
    refine ⟨⟨(z18 j).1.trans (x4.1.1.trans (x3.1.1.trans (x2.1.1.trans x1.1.1))), (z18 j).2.trans (x4.1.2.trans (x3.1.2.trans (x2.1.2.trans x1.1.2)))⟩, ?_, fun c => ?_⟩
    · rw [z20, if_neg (by omega), x4.2.1, x3.2.1, x2.2.1]
      exact x1.2.1
    · rw [z21, x4.2.2, x3.2.2, x2.2.2]
      exact x1.2.2 c
  · obtain ⟨⟨K, rfl, -⟩, rfl⟩ := q
    refine ⟨1, cn σ + (n + 2), _, Or.inr (Or.inr ⟨ac0, by omega, ?_, ?_, ?_, F, K, rfl, rfl⟩), Nat.le_refl _, rfl, rfl⟩
    · rw [z20, if_pos rfl, ex9, e81]
      omega
    · have : cn σ + (n + 2) - 1 = cn s8 := by omega
      rw [this]
      exact ac9
    · have t1 : cn σ + (n + 2) - 1 - (cn σ + 1) = n := by omega
      rw [t1, ← e71]
      exact xr_same k13 n _ _ _ sm8 x8
end GFO
end

section
/-! the grammar: initials and variables -/
def i9 (F m : Nat) : Zs → Prop := fun z => ∃ K, z = (F, 9 :: K, []) ∧ sk m K
def iR (F m : Nat) : RZs := fun z z' => ∃ K, z = (F, 9 :: K, []) ∧ sk m K ∧ z' = (F, K, [])
def cR (F m c : Nat) : RZs := fun z z' => ∃ K, z = (F, 9 :: K, []) ∧ sk m K ∧ z' = (F, c :: K, [])
section GVA
variable {σ s t : St} {R R' R'' : RZs} {u w v : Int} {m F : Nat}
/-- a string that fills: its step and its token -/
theorem fill_z {a2 : Int32} (tk : TKc σ) (ga : GA σ) (hk : (σ 3 2).toInt = 4) (ha : a2 = (σ 3 1)) (ad : ADD σ s 45 a2 0 0) (av : ADV s t) : GRz σ t (cR F m 11) (-1) (-4) 0 := by
  have r := adv_g (l := 0) (a := []) av
  refine ⟨kp_tr ad.1 r.1, r.2.1, fun hw => ?_⟩
  have more := (adv_more (tk_kg ad.1 tk) ad.2.1 av).2 (by rw [ad.2.2.2.2.2.1]; exact hk)
  have ep := add_pl ad
  obtain ⟨h1, h2, h3, h4, h5, h6, h7⟩ := ad
  obtain ⟨b1, b2, n0, b3, b4, b5, b6, b7⟩ := r.2.2 hw
  have hw' : (σ 3 3).toInt < 0 := by rw [← h4]; exact b1
  have n00 : n0 = 0 := by
    have := av.2.2.1
    rw [this] at b3
    omega
  subst n00
  obtain ⟨c1, c2, c3, c4, c5, c6⟩ := h7 hw'
  have p4 := (ga.1 hw').2.2
  have ec := cn_eq p4
  have e14 : (t 14) = (s 14) := funext (fun j => r.1 14 j rfl rfl)
  have es14 : (s 14) = (σ 14) := funext (fun j => h1 14 j rfl rfl)
  have st := b2 (cn σ) (by omega)
  have ev : vlx s (s 3 1) = vlx σ a2 := by
    unfold vlx
    rw [h5, es14, ha]
  rw [ev] at more
  have at1 : act t (cn σ) = 45 := by rw [act_same st.1, c2]; rfl
  refine ⟨hw', fun j hj => ?_, 1, by omega, by omega, ?_, ?_, by omega, fun z z' q => ⟨1, cn σ + 1, z', Or.inr (Or.inl ⟨rfl, ?_, fun c => by rw [at1] at c; exact absurd c (by decide)⟩), Nat.le_refl _, rfl, rfl⟩⟩
  · obtain ⟨x1, x2, x3⟩ := c6 j (by omega)
    obtain ⟨y1, y2, y3⟩ := b2 j (by omega)
    exact ⟨⟨y1.1.trans x1.1, y1.2.trans x1.2⟩, y2.trans x2, fun _ => y3.trans x3⟩
  · show ((cst t (cn σ) + 0 : Nat) : Int) ≤ _
    unfold cst
    rw [at1, if_pos rfl, st.1.2, c3]
    have : vlx t a2 = vlx σ a2 := by unfold vlx; rw [e14, es14]
    rw [this]
    have z45 : ([0, 2, 3, 2, 0, 0, 3, 2, 2, 2, 3, 2, 0, 2, 2, 2, 0, 0, 0, 0, 0, 0, 1, 2, 2, 0, 0, 4, 2, 2, 0, 2, 0, 4, 4, 2, 2, 2, 3, 0, 0, 0, 0, 5, 3, 0, 3, 4, 0, 3] : List Nat).getD (45 : Int).toNat 0 = 0 := rfl
    rw [z45]
    omega
  · show ((nst t (cn σ) + 0 : Nat) : Int) ≤ _
    unfold nst
    rw [at1, if_neg (by decide)]
    show (0 : Int) ≤ _
    omega
  · rw [at1]
    obtain ⟨K, rfl, -, rfl⟩ := q
    exact dzc_45 ⟨rfl, F, K, rfl, rfl⟩
theorem sp_ginitial {a1 a2 : Int32} {Q : St → Prop} (tk : TKc σ) (ga : GA σ) (cb : CBd σ 71) (hp : P0 σ) (hk : 2 ≤ (σ 3 2).toInt) (ha : (σ 3 3).toInt < 0 → a1.toInt < 0 ∨ ∃ j : Nat, a1.toInt = j ∧ act σ j = 42 ∧ (j : Int) < (σ 3 4).toInt) (k : ∀ s, GRz σ s (iR F m) (-1) (-1) (-1) → P0 s → Q s) : wk_X3_initial a1 a2 σ Q := by
  unfold wk_X3_initial
  refine sp_gadv tk ga hk (fun s6 a6 => ?_)
  have r6 := adv_z (P := i9 F m) a6
  have p6 := p0_of a6.2.2.2.2.1 hp
  -- where the bracket's step stands it stays
  have br : ∀ s {R : RZs} {u w v : Int}, GRz σ s R u w v → (s 3 3).toInt < 0 → a1.toInt < 0 ∨ ∃ j : Nat, a1.toInt = j ∧ act s j = 42 := fun s R u w v r hw => by
    obtain ⟨x1, x2, -⟩ := r.2.2 hw
    rcases ha x1 with q | ⟨j, q1, q2, q3⟩
    · exact Or.inl q
    · exact Or.inr ⟨j, q1, by rw [act_same (x2 j q3).1]; exact q2⟩
  have endi : ∀ (f : Int32) (s : St) (R : RZs) (x y z : Int), GRz σ s R x y z → x ≤ 0 → P0 s → f.toInt ≠ 45 → (∀ z z', iR F m z z' → ∃ z1, R z z1 ∧ dz 46 f 0 z1 z') → wk_X3_add (46 : Int32) (σ 3 1) f (0 : Int32) s (fun v236 s236 => GRz σ s236 (iR F m) (x + 1) (y + 3) (z + 0) ∧ P0 s236) := fun f s R x y z r hx p _ hd => by
    refine sp_gadd0 (tk_kg r.1 tk) r.2.1 (cb_grz cb r (by omega)) (fun v2 s2 ad _ => ⟨?_, p0_of ad.2.2.1 p⟩)
    exact grz_tr (R'' := iR F m) ga r (add_z (R := fun z1 z' => dz 46 f 0 z1 z') (w := 3) (v := 0) ad r.2.1 (fun _ z z' q => q) (by decide) (by decide) (by omega) (fun c => absurd c (by decide))) hd
  refine ⟨fun y => y.toInt ≠ 0 → (s6 3 2).toInt = 4, ?_, (s6 3 2).toInt ≠ 4 ∨ True, fun _ c => absurd rfl c, fun _ => Or.inr trivial, fun _ => ⟨fun c => Or.inl c, fun c => ⟨True, fun _ _ => c, fun _ => trivial, fun _ => ⟨fun _ => Or.inr trivial, fun _ => trivial⟩⟩⟩⟩
  intro y hy hf
  refine ⟨fun s => GRz σ s (rId (i9 F m)) (-2) (-4) (-1) ∧ P0 s ∧ (s 3 2) = (s6 3 2), ?_, fun _ => ⟨r6, p6, rfl⟩, fun _ => ⟨grz_42 r6 rfl (br s6 r6), p6, rfl⟩⟩
  rintro s ⟨r, p, ek⟩
  have tks := tk_kg r.1 tk
  refine ⟨fun n22 => ⟨True, fun _ => ?_, fun _ => trivial, fun c => ⟨fun _ => trivial, fun c2 => ?_⟩⟩, fun c22 => ?_⟩
  · refine sp_gx tks r.2.1 (cb_grz cb r (by omega)) p (fun s2 r2' p2 => ?_)
    have r2 := grz_tr (R'' := fun z z' => ∃ K, z = (F, 9 :: K, []) ∧ sk m K ∧ z' = (F, 9 :: K, [iV])) ga r r2' (fun z z'' q => by
      obtain ⟨K, rfl, q, rfl⟩ := q
      exact ⟨_, ⟨⟨K, rfl, q⟩, rfl⟩, F, _, rfl, rfl⟩)
    refine sp_gadd0 (tk_kg r2.1 tk) r2.2.1 (cb_grz cb r2 (by omega)) (fun v3 s3 ad _ => k s3 ?_ (p0_of ad.2.2.1 p2))
    exact grz_wk (grz_tr (R'' := iR F m) ga r2 (add_z (R := fun z1 z' => dz 46 0 0 z1 z') (w := 3) (v := 0) ad r2.2.1 (fun _ z z' q => q) (by decide) (by decide) (by omega) (fun c => absurd c (by decide))) (fun z z'' q => by
      obtain ⟨K, rfl, q, rfl⟩ := q
      exact ⟨_, ⟨K, rfl, q, rfl⟩, dzc_46 ⟨rfl, F, K, rfl, Or.inl ⟨rfl, rfl⟩⟩⟩)) (fun _ _ q => q) (by omega) (by omega) (by omega)
  · have k4 : (s 3 2).toInt = 4 := by rw [ek]; exact hf c
    refine sp_gadd0 tks r.2.1 (cb_grz cb r (by omega)) (fun v2 s2 ad _ => ?_)
    refine sp_gadv (tk_kg ad.1 tks) ad.2.1 (by rw [ad.2.2.2.2.2.1, k4]; decide) (fun s3 a3 => ?_)
    have r3 := grz_tr (R'' := cR F m 11) ga r (fill_z (F := F) (m := m) tks r.2.1 k4 rfl ad a3) (fun z z'' q => by
      obtain ⟨K, rfl, q, rfl⟩ := q
      exact ⟨_, ⟨⟨K, rfl, q⟩, rfl⟩, K, rfl, q, rfl⟩)
    refine sp_gadd0 (tk_kg r3.1 tk) r3.2.1 (cb_grz cb r3 (by omega)) (fun v4 s4 ad4 _ => k s4 ?_ (p0_of ad4.2.2.1 (p0_of a3.2.2.2.2.1 (p0_of ad.2.2.1 p))))
    exact grz_wk (grz_tr (R'' := iR F m) ga r3 (add_z (R := fun z1 z' => dz 46 2 0 z1 z') (w := 3) (v := 0) ad4 r3.2.1 (fun _ z z' q => q) (by decide) (by decide) (by omega) (fun c => absurd c (by decide))) (fun z z'' q => by
      obtain ⟨K, rfl, q, rfl⟩ := q
      exact ⟨_, ⟨K, rfl, q, rfl⟩, dzc_46 ⟨rfl, F, K, rfl, Or.inr (Or.inr ⟨rfl, rfl⟩)⟩⟩)) (fun _ _ q => q) (by omega) (by omega) (by omega)
  · refine sp_gadv tks r.2.1 (by rw [c22]; decide) (fun s2 a2 => ?_)
    have r2 := grz_tr (R'' := cR F m 9) ga r (adv_z (P := fun _ => True) a2) (fun z z'' q => by
      obtain ⟨K, rfl, q, rfl⟩ := q
      exact ⟨_, ⟨⟨K, rfl, q⟩, rfl⟩, trivial, rfl⟩)
    have p2 := p0_of a2.2.2.2.2.1 p
    refine ⟨fun n x y s => (n : Int) = (σ 2 4).toInt - x.toInt ∧ (∃ c : Nat, (c = 9 ∨ c = 10) ∧ GRz σ s (cR F m c) (-4) (if y.toInt = 0 then -6 else -8) (-1)) ∧ P0 s, ⟨(σ 2 4).toInt.toNat, by have := tk.1.1; show (((σ 2 4).toInt.toNat : Nat) : Int) = (σ 2 4).toInt - 0; omega, ⟨9, Or.inl rfl, grz_wk r2 (fun _ _ q => q) (by omega) (by show _ ≤ (-8 : Int); omega) (by omega)⟩, p2⟩, ?_⟩
    rintro n x z s3 hz ⟨hn, ⟨c, hc, r3⟩, p3⟩
    have tk3 := tk_kg r3.1 tk
    have e4 : (s3 2 4) = (σ 2 4) := r3.1 2 4 rfl rfl
    refine ⟨True, fun _ => ?_, fun _ => trivial, fun c1 => ⟨fun _ => trivial, fun c2 => ?_⟩⟩
    · have r3' := grz_wk (u' := -4) (w' := -6) (v' := -1) r3 (fun _ _ q => q) (by omega) (by split <;> omega) (by omega)
      refine sp_gexpect tk3 r3.2.1 (by decide) (fun s4 r4' p4' e4 => ?_)
      have r4 := grz_tr (R'' := cR F m c) ga r3' (exp_z (P := fun _ => True) r4' e4) (fun z z'' q => ⟨z'', q, trivial, rfl⟩)
      have r5 := grz_42 (y := x) r4 rfl (br s4 r4)
      have p5 : P0 (upF s4 21 (setv 32100 (s4 21) a1 x)) := p0_of p4' p3
      refine sp_gadd0 (tk_kg r5.1 tk) r5.2.1 (cb_grz cb r5 (by omega)) (fun v6 s6 ad _ => k s6 ?_ (p0_of ad.2.2.1 p5))
      exact grz_wk (grz_tr (R'' := iR F m) ga r5 (add_z (R := fun z1 z' => dz 46 1 0 z1 z') (w := 3) (v := 0) ad r5.2.1 (fun _ z z' q => q) (by decide) (by decide) (by omega) (fun c => absurd c (by decide))) (fun z z'' q => by
        obtain ⟨K, rfl, q, rfl⟩ := q
        refine ⟨_, ⟨K, rfl, q, rfl⟩, dzc_46 ⟨rfl, F, K, rfl, Or.inr (Or.inl ⟨rfl, ?_⟩)⟩⟩
        rcases hc with e | e <;> subst e
        · exact Or.inl rfl
        · exact Or.inr rfl)) (fun _ _ q => q) (by omega) (by omega) (by omega)
    · rw [e4] at c1
      rw [if_neg c2] at r3
      refine sp_gx tk3 r3.2.1 (cb_grz cb r3 (by omega)) p3 (fun s4 r4' p4 => ?_)
      have r4 := grz_tr (R'' := fun z z' => ∃ K, z = (F, 9 :: K, []) ∧ sk m K ∧ z' = (F, c :: K, [iV])) ga r3 r4' (fun z z'' q => by
        obtain ⟨K, rfl, q, rfl⟩ := q
        exact ⟨_, ⟨K, rfl, q, rfl⟩, F, _, rfl, rfl⟩)
      refine sp_gadd0 (tk_kg r4.1 tk) r4.2.1 (cb_grz cb r4 (by omega)) (fun v5 s5 ad5 _ => ?_)
      have r5 := grz_tr (R'' := cR F m 10) ga r4 (add_z (R := fun z1 z' => dz 44 0 0 z1 z') (w := 3) (v := 0) ad5 r4.2.1 (fun _ z z' q => q) (by decide) (by decide) (by omega) (fun c => absurd c (by decide))) (fun z z'' q => by
        obtain ⟨K, rfl, q, rfl⟩ := q
        exact ⟨_, ⟨K, rfl, q, rfl⟩, dzc_44 ⟨rfl, F, K, c, hc, rfl, rfl⟩⟩)
      have p5 := p0_of ad5.2.2.1 p4
      have ex := up_lt c1
      have hn1 : (((n - 1 : Nat) : Nat) : Int) = (σ 2 4).toInt - (x + 1).toInt := by rw [ex]; omega
      refine sp_gaccept (tk_kg r5.1 tk) r5.2.1 (by decide) (fun _ => ⟨n - 1, by omega, hn1, ⟨10, Or.inr rfl, grz_wk r5 (fun _ _ q => q) (by omega) (by show _ ≤ (-6 : Int); omega) (by omega)⟩, p5⟩) (fun s6 a6 _ => ⟨n - 1, by omega, hn1, ⟨10, Or.inr rfl, ?_⟩, p0_of a6.2.2.2.2.1 p5⟩)
      exact grz_wk (grz_tr (R'' := cR F m 10) ga r5 (adv_z (P := fun _ => True) a6) (fun z z'' q => ⟨z'', q, trivial, rfl⟩)) (fun _ _ q => q) (by omega) (by show _ ≤ (-8 : Int); omega) (by omega)
/-- a name -/
theorem exp_n {P : Zs → Prop} (tk : TKc σ) (ga : GA σ) (r : ∀ l a, GRx σ s l a a (-2) (-4)) (h : (s 3 3).toInt < 0 → ADV σ s ∧ (σ 3 2).toInt = (2 : Int32).toInt) : ∃ wd : Int, 0 ≤ wd ∧ GRz σ s (rId P) (-2) (-4) (-wd) ∧ ((s 3 3).toInt < 0 → VN σ (σ 3 1) wd) := by
  by_cases c : (s 3 3).toInt < 0
  · obtain ⟨a, e⟩ := h c
    have more := (adv_more tk ga a).1 e
    have z := adv_z (P := P) a
    refine ⟨vlx σ (σ 3 1), by omega, ⟨z.1, z.2.1, fun hw => ?_⟩, fun _ => ⟨Int.le_refl _, (tkx_pos ga tk a.2.2.2.2.2).trans e⟩⟩
    obtain ⟨h1, h2, n, h3, h4, h5, h6, h7, h8⟩ := z.2.2 hw
    have n0 : n = 0 := by
      have := a.2.2.1
      rw [this] at h3
      omega
    subst n0
    refine ⟨h1, h2, 0, h3, h4, h5, ?_, h7, h8⟩
    show ((0 : Nat) : Int) ≤ _
    omega
  · exact ⟨0, Int.le_refl _, grz_bad (r 0 []).1 (r 0 []).2.1 (by omega), fun q => absurd q c⟩
theorem b4_0 {a : Int32} (h : a = 0 ∨ a = 1 ∨ a = 2) : ¬ b4 a ∧ b4 (a + (4 : Int32)) := by
  unfold b4
  rcases h with e | e | e <;> subst e <;> decide
theorem sp_gvariables {a1 a2 a3 : Int32} {W : Int} {Q : St → Prop} (hF : F ≤ 1) (tk : TKc σ) (ga : GA σ) (cb : CBd σ 70) (hp : P0 σ) (h3 : a3 = 0 ∨ a3 = 1 ∨ a3 = 2) (hW : 0 ≤ W) (hn : (σ 3 3).toInt < 0 → VN σ a1 W) (k : ∀ s, GRz σ s (vR F m) (-1) 1 W → P0 s → Q s) : wk_X3_variables a1 a2 a3 σ Q := by
  unfold wk_X3_variables
  refine ⟨fun n x4 _ y c s => n = c.toInt.toNat ∧ P0 s ∧ (GRz σ s (vR F m) 1 5 W) ∧ (y.toInt ≠ 0 → ∃ wd : Int, 0 ≤ wd ∧ GRz σ s (vR F m) 0 0 (W - wd) ∧ ((s 3 3).toInt < 0 → VN σ x4 wd)), ⟨_, rfl, hp, grz_wk (grz_rf ga) (fun _ _ q => q) (by omega) (by omega) (by omega), fun _ => ⟨W, hW, grz_wk (grz_rf ga) (fun _ _ q => q) (by omega) (by omega) (by omega), hn⟩⟩, ?_⟩
  rintro n x4 x5 y c s hz ⟨hc, p, r, hm⟩
  have tks := tk_kg r.1 tk
  refine ⟨True, fun _ => ?_, fun _ => trivial, fun c1 => ⟨fun _ => trivial, fun c2 => ?_⟩⟩
  · refine sp_gexpect tks r.2.1 (by decide) (fun s4 r4' p4 e4 => k s4 ?_ (p0_of p4 p))
    exact grz_wk (grz_tr (R'' := vR F m) ga r (exp_z (P := fun _ => True) r4' e4) (fun z z'' q => ⟨z'', q, trivial, rfl⟩)) (fun _ _ q => q) (by omega) (by omega) (by omega)
  · obtain ⟨wd, w0, r1, w1⟩ := hm c2
    refine ⟨fun x s2 => P0 s2 ∧ GRz σ s2 (vR F m) 0 0 (W - wd) ∧ ((s2 3 3).toInt < 0 → VN σ x4 wd) ∧ ((s2 3 3).toInt < 0 → x.toInt < 0 ∨ ∃ j : Nat, x.toInt = j ∧ act s2 j = 42 ∧ (j : Int) < (s2 3 4).toInt), ?_, fun _ => ⟨p, r1, w1, fun _ => Or.inl (by decide)⟩, fun c24 => sp_gbracket (F := F) (m := m) tks r1.2.1 (cb_grz cb r1 (by omega)) p c24 (fun x s2 r2 p2 h2 => ⟨p2, ?_, ?_, ?_⟩)⟩
    · rintro x s2 ⟨p2, r2, w2, b2⟩
      have tk2 := tk_kg r2.1 tk
      have cb2 := cb_grz (c' := 70) cb r2 (by omega)
      refine ⟨fun z => (z.toInt ≠ 0 → (s2 3 2).toInt = 30) ∧ (z = 0 ∨ z = 1), ?_, fun c30 => ⟨fun e => absurd rfl e, Or.inl rfl⟩, fun c30 => ⟨fun _ => c30, Or.inr rfl⟩⟩
      rintro z - ⟨hz1, hz2⟩
      refine ⟨fun y4 => (b4 y4 ↔ z.toInt ≠ 0), ?_, fun e => ⟨fun h => absurd h (b4_0 h3).1, fun h => absurd e h⟩, fun e => ⟨fun _ => e, fun _ => (b4_0 h3).2⟩⟩
      intro y4 hy4
      refine sp_gadd0 tk2 r2.2.1 (cb_le cb2 (by omega)) (fun x5' s3 ad _ => ?_)
      have vk : VN s2 x4 = VN σ x4 := vn_same (funext (fun j => r2.1 13 j rfl rfl)) (funext (fun j => r2.1 14 j rfl rfl))
      have r3 : GRz σ s3 (fun z1 z' => vP F m z1 ∧ dz 43 x5 y4 z1 z') 1 5 W := by
        by_cases hg : (s3 3 3).toInt < 0
        · have hg2 : (s2 3 3).toInt < 0 := by rw [← ad.2.2.2.1]; exact hg
          exact grz_wk (grz_tr (R'' := fun z1 z' => vP F m z1 ∧ dz 43 x5 y4 z1 z') ga r2 (add_z (R := fun z1 z' => dz 43 x5 y4 z1 z') (w := 5) (v := wd) ad r2.2.1 (fun _ z z' q => q) (by decide) (by decide) w0 (fun _ => by rw [vk]; exact w2 hg2)) (fun z z'' q => ⟨z, ⟨q.1, rfl⟩, q.2⟩)) (fun _ _ q => q) (by omega) (by omega) (by omega)
        · exact grz_bad (kp_tr r2.1 ad.1) ad.2.1 (by omega)
      have p3 := p0_of ad.2.2.1 p2
      have tk3 := tk_kg r3.1 tk
      -- behind the variable and its initial
      have go : ∀ s99, GRz σ s99 (vR F m) 1 5 W → P0 s99 → wk_X3_accept (26 : Int32) s99 (fun v102 s102 => (∃ J129 : Int32 → Int32 → St → Prop, (∀ (x4_129 : Int32) (x5_129 : Int32) (s129 : St), J129 x4_129 x5_129 s129 → (∃ m_1, m_1 < n ∧ (m_1 = (c + (-1 : Int32)).toInt.toNat ∧ P0 s129 ∧ (GRz σ s129 (vR F m) 1 5 W) ∧ (v102.toInt ≠ 0 → ∃ wd : Int, 0 ≤ wd ∧ GRz σ s129 (vR F m) 0 0 (W - wd) ∧ ((s129 3 3).toInt < 0 → VN σ x4_129 wd))))) ∧ (v102.toInt = 0 → J129 x4 x5 s102) ∧ (v102.toInt ≠ 0 → wk_X3_stars s102 (fun v113 s113 => wk_X3_expect (2 : Int32) s113 (fun s126 => J129 (s113 3 1) v113 s126))))) := fun s9 r9 p9 => by
        refine sp_gaccept (tk_kg r9.1 tk) r9.2.1 (by decide) (fun _ => ?_) (fun s10 a10 _ => ?_)
        · refine ⟨fun _ _ s => GRz σ s (vR F m) 1 5 W ∧ P0 s, fun _ _ s h => ⟨_, dn_lt hc c1, rfl, h.2, h.1, fun e => absurd rfl e⟩, fun _ => ⟨r9, p9⟩, fun e => absurd rfl e⟩
        · have r10 := grz_tr (R'' := vR F m) ga r9 (adv_z (P := fun _ => True) a10) (fun z z'' q => ⟨z'', q, trivial, rfl⟩)
          have p10 := p0_of a10.2.2.2.2.1 p9
          refine ⟨fun x4' _ s => P0 s ∧ (∃ wd : Int, 0 ≤ wd ∧ GRz σ s (vR F m) 0 0 (W - wd) ∧ ((s 3 3).toInt < 0 → VN σ x4' wd)), fun x4' _ s h => ⟨_, dn_lt hc c1, rfl, h.1, ?_, fun _ => h.2⟩, fun e => absurd e (by decide), fun _ => sp_gstars (tk_kg r10.1 tk) r10.2.1 (fun v11 s11 r11' p11' _ ec11 => ?_)⟩
          · obtain ⟨wd2, q0, q1, q2⟩ := h.2
            exact grz_wk q1 (fun _ _ q => q) (by omega) (by omega) (by omega)
          · have r11 := grz_tr (R'' := vR F m) ga r10 (nil_z (P := fun _ => True) r11' ec11) (fun z z'' q => ⟨z'', q, trivial, rfl⟩)
            have p11 := p0_of p11' p10
            have tk11 := tk_kg r11.1 tk
            refine sp_gexpect tk11 r11.2.1 (by decide) (fun s12 r12' p12' e12 => ⟨p0_of p12' p11, ?_⟩)
            obtain ⟨wd2, q0, q1, q2⟩ := exp_n (P := fun _ => True) tk11 r11.2.1 r12' e12
            refine ⟨wd2, q0, grz_wk (grz_tr (R'' := vR F m) ga r11 q1 (fun z z'' q => ⟨z'', q, trivial, rfl⟩)) (fun _ _ q => q) (by omega) (by omega) (by omega), fun hw => ?_⟩
            have q3 := q2 hw
            rw [vn_same (funext (fun j => r11.1 13 j rfl rfl)) (funext (fun j => r11.1 14 j rfl rfl))] at q3
            exact q3
      refine ⟨fun s => GRz σ s (vR F m) 1 5 W ∧ P0 s, fun s h => go s h.1 h.2, fun e => ⟨grz_wk r3 (fun z z' q => ?_) (by omega) (by omega) (by omega), p3⟩, fun e => ?_⟩
      · obtain ⟨⟨K, rfl, q⟩, rfl⟩ := q
        exact ⟨⟨K, rfl, q⟩, dzc_43 ⟨rfl, F, K, hF, q.2, rfl, Or.inr ⟨fun h => absurd e (hy4.mp h), rfl⟩⟩⟩
      · refine sp_ginitial (F := F) (m := m) tk3 r3.2.1 (fun hw => ?_) p3 (by rw [ad.2.2.2.2.2.1, hz1 e]; decide) (fun hw => ?_) (fun s4 r4 p4 => ⟨grz_wk (grz_tr (R'' := vR F m) ga r3 r4 (fun z z'' q => ?_)) (fun _ _ q => q) (by omega) (by omega) (by omega), p4⟩)
        · have := cb_grz (c' := 71) cb r3 (by omega) hw
          omega
        · have hw2 : (s2 3 3).toInt < 0 := by rw [← ad.2.2.2.1]; exact hw
          obtain ⟨c1', -, -, -, -, c6⟩ := ad.2.2.2.2.2.2 hw2
          have e2 := cn_eq (r2.2.1.1 hw2).2.2
          rcases b2 hw2 with q | ⟨j, q1, q2, q3⟩
          · exact Or.inl q
          · exact Or.inr ⟨j, q1, by rw [act_same (c6 j (by omega)).1]; exact q2, by omega⟩
        · obtain ⟨⟨K, rfl, q⟩, rfl⟩ := q
          exact ⟨(F, 9 :: K, []), ⟨⟨K, rfl, q⟩, dzc_43 ⟨rfl, F, K, hF, q.2, rfl, Or.inl ⟨hy4.mpr e, rfl⟩⟩⟩, K, rfl, q, rfl⟩
    · exact grz_wk (grz_tr (R'' := vR F m) ga r1 r2 (fun z z'' q => ⟨z, ⟨q.1, rfl⟩, q⟩)) (fun _ _ q => q) (by omega) (by omega) (by omega)
    · exact fun hw => w1 (r2.2.2 hw).1
    · intro hw
      obtain ⟨j, q1, q2, q3, -⟩ := h2 hw
      exact Or.inr ⟨j, q1, q2, q3⟩
end GVA
end

section
/-! the grammar: statements -/
/-- a method that reads statements at a depth -/
def SPT (K : KX1) (d m : Nat) : Prop := ∀ (x : Int32) (σ : St) (Q : St → Prop), x.toInt = d → TKc σ → GA σ → CBd σ 70 → P0 σ → (∀ s, GRz σ s (kR m) 0 0 0 → P0 s → Q s) → K x σ Q
/-- where a body may begin -/
def bk (m : Nat) (K : List Nat) : Prop := nz K ≤ m ∧ bdK K
def bR (m : Nat) : RZs := rId (fun z => ∃ K, z = (1, K, []) ∧ bk m K)
/-- the same, behind two steps that it owes -/
def SPB (K : KX1) (d m : Nat) : Prop := ∀ (x : Int32) (σ : St) (Q : St → Prop), x.toInt = d → TKc σ → GA σ → CBd σ 69 → P0 σ → (∀ s, GRz σ s (bR m) 2 0 0 → P0 s → Q s) → K x σ Q
/-- the same, before its word -/
def SPW (K : KX1) (d m : Nat) : Prop := ∀ (x : Int32) (σ : St) (Q : St → Prop), x.toInt = d → TKc σ → GA σ → CBd σ 70 → P0 σ → 2 ≤ (σ 3 2).toInt → (∀ s, GRz σ s (kR m) 0 0 0 → P0 s → Q s) → K x σ Q
section GST
variable {σ s t : St} {R R' R'' : RZs} {u w v : Int} {m F d : Nat} {Ka Kb Kc Kd Ke : KX1}
theorem kr_0 {K : List Nat} (h : nz K ≤ m) : nz (0 :: K) ≤ m := h
theorem sk_0 {K : List Nat} (h : nz K ≤ m) : sk m (0 :: K) := ⟨kr_0 h, Or.inr ⟨K, rfl⟩⟩
theorem tp_bd {K : List Nat} (h : tpK K) : bdK K := by
  rcases h with h | ⟨K', h⟩
  · exact Or.inl h
  · exact Or.inr ⟨0, K', h, Or.inl rfl⟩
theorem nz_s {c : Nat} {K : List Nat} (h1 : 1 ≤ c) (h8 : c ≤ 8) : nz (c :: K) = nz K + 1 := by
  unfold nz nzr
  rw [List.filter_cons_of_pos (by exact decide_eq_true ⟨h1, h8⟩), List.filter_cons_of_neg (by
    intro h2
    have := of_decide_eq_true h2
    omega)]
  show _ + 1 + _ = _ + _ + 1
  omega
/-- a step behind a stretch -/
theorem grz_add {σ0 : St} {a1 a2 a3 a4 : Int32} {w' : Int} (g0 : GA σ0) (r : GRz σ0 σ R u w v) (ad : ADD σ s a1 a2 a3 a4) (hR : ∀ z z'', R'' z z'' → ∃ z', R z z' ∧ dz a1.toInt a3 a4 z' z'') (hc : cz a1.toInt ≤ w') (h45 : a1.toInt ≠ 45) (hn : ¬ (a1.toInt = 43 ∨ a1.toInt = 47)) : GRz σ0 s R'' (u + 1) (w + w') (v + 0) :=
  grz_tr g0 r (add_z (R := fun z1 z' => dz a1.toInt a3 a4 z1 z') (w := w') (v := 0) ad r.2.1 (fun _ _ _ q => q) hc h45 (Int.le_refl _) (fun c => absurd c hn)) hR
theorem sp_gbody (hs : SPT Kd (d + 1) m) (hd : d ≤ 1000) (hm : m ≤ 100) : SPB (wk_X3_body Ka Kb Kc Kd Ke) d m := fun x σ Q hx tk ga cb hp k => by
  unfold wk_X3_body
  refine sp_gadd0 tk ga (cb_le cb (by omega)) (fun v2 s2 ad _ => ?_)
  have r2 := grz_add (R'' := fun z z' => ∃ K, z = (1, K, []) ∧ bk m K ∧ z' = (1, 0 :: K, [])) (w' := 0) ga (grz_rf (P := fun _ => True) ga) ad (fun z z'' q => by
    obtain ⟨K, rfl, q, rfl⟩ := q
    exact ⟨_, ⟨trivial, rfl⟩, dzc_20 ⟨by decide, K, rfl, rfl, by have := q.1; omega, q.2⟩⟩) (by decide) (by decide) (by decide)
  have p2 := p0_of ad.2.2.1 hp
  have tk2 := tk_kg r2.1 tk
  refine hs _ s2 _ (by rw [ad1 (by omega)]; omega) tk2 r2.2.1 (cb_grz cb r2 (by omega)) p2 (fun s3 r3' p3 => ?_)
  · have r3 := grz_tr (R'' := fun z z' => ∃ K, z = (1, K, []) ∧ bk m K ∧ z' = (1, 0 :: K, [])) ga r2 r3' (fun z z'' q => by
      obtain ⟨K, rfl, q, rfl⟩ := q
      exact ⟨_, ⟨K, rfl, q, rfl⟩, ⟨_, rfl, sk_0 q.1⟩, rfl⟩)
    refine sp_gadd0 (tk_kg r3.1 tk) r3.2.1 (cb_grz cb r3 (by omega)) (fun v4 s4 ad4 _ => k s4 ?_ (p0_of ad4.2.2.1 p3))
    exact grz_wk (grz_add (R'' := bR m) (w' := 0) ga r3 ad4 (fun z z'' q => by
      obtain ⟨⟨K, rfl, q⟩, rfl⟩ := q
      exact ⟨_, ⟨K, rfl, q, rfl⟩, dzc_21 ⟨by decide, K, rfl, rfl⟩⟩) (by decide) (by decide) (by decide)) (fun _ _ q => q) (by omega) (by omega) (by omega)
theorem sp_gconditional (hb : SPB Ka d (m + 1)) (hm : m ≤ 24) : SPW (wk_X3_conditional Ka Kb Kc Kd Ke) d m := fun x σ Q hx tk ga cb hp hk k => by
  have i1 : ∀ z z' : Zs, (∃ K, z = (1, K, []) ∧ sk m K ∧ z' = (1, 1 :: K, [])) → ∃ F K, z = (F, K, []) ∧ dz (23 : Int32).toInt 0 0 (F, K, [iV]) z' := fun z z' q => by
    obtain ⟨K, rfl, q, rfl⟩ := q
    exact ⟨1, K, rfl, dzc_23 ⟨by decide, K, rfl, rfl, by have := q.1; omega, q.2⟩⟩
  unfold wk_X3_conditional
  refine sp_gadv tk ga hk (fun s2 a2 => ?_)
  have r2 := adv_z (P := fun _ => True) a2
  have p2 := p0_of a2.2.2.2.2.1 hp
  refine sp_gcond (R := fun z z' => ∃ K, z = (1, K, []) ∧ sk m K ∧ z' = (1, 1 :: K, [])) (tk_kg r2.1 tk) r2.2.1 (cb_grz cb r2 (by omega)) p2 i1 (by decide) (by decide) (fun s3 r3' p3 => ?_)
  have r3 := grz_tr (R'' := fun z z' => ∃ K, z = (1, K, []) ∧ sk m K ∧ z' = (1, 1 :: K, [])) ga r2 r3' (fun z z'' q => ⟨z, ⟨trivial, rfl⟩, q⟩)
  refine hb x s3 _ hx (tk_kg r3.1 tk) r3.2.1 (cb_grz cb r3 (by omega)) p3 (fun s4 r4' p4 => ?_)
  have in1 : ∀ z z' : Zs, (∃ K, z = (1, K, []) ∧ sk m K ∧ z' = (1, 1 :: K, [])) → ∃ z1, (∃ K, z = (1, K, []) ∧ sk m K ∧ z1 = (1, 1 :: K, [])) ∧ bR (m + 1) z1 z' := fun z z' q => by
    obtain ⟨K, rfl, q, rfl⟩ := q
    exact ⟨_, ⟨K, rfl, q, rfl⟩, ⟨_, rfl, by rw [nz_s (by decide) (by decide)]; have := q.1; omega, Or.inr ⟨1, K, rfl, by decide⟩⟩, rfl⟩
  have r4 := grz_tr (R'' := fun z z' => ∃ K, z = (1, K, []) ∧ sk m K ∧ z' = (1, 1 :: K, [])) ga r3 r4' in1
  refine ⟨fun s => GRz σ s (fun z z' => ∃ K, z = (1, K, []) ∧ sk m K ∧ z' = (1, 1 :: K, [])) (-1) (-3) 0 ∧ P0 s, ?_, fun _ => ⟨grz_wk r4 (fun _ _ q => q) (by omega) (by omega) (by omega), p4⟩, fun c10 => ?_⟩
  · rintro s5 ⟨r5, p5⟩
    refine sp_gadd0 (tk_kg r5.1 tk) r5.2.1 (cb_grz cb r5 (by omega)) (fun v6 s6 ad6 _ => k s6 ?_ (p0_of ad6.2.2.1 p5))
    exact grz_wk (grz_add (R'' := kR m) (w' := 0) ga r5 ad6 (fun z z'' q => by
      obtain ⟨⟨K, rfl, q⟩, rfl⟩ := q
      exact ⟨_, ⟨K, rfl, q, rfl⟩, dzc_25 ⟨by decide, K, rfl, rfl⟩⟩) (by decide) (by decide) (by decide)) (fun _ _ q => q) (by omega) (by omega) (by omega)
  · refine sp_gadd0 (tk_kg r4.1 tk) r4.2.1 (cb_grz cb r4 (by omega)) (fun v6 s6 ad6 _ => ?_)
    have r6 := grz_add (R'' := fun z z' => ∃ K, z = (1, K, []) ∧ sk m K ∧ z' = (1, 1 :: K, [])) (w' := 2) ga r4 ad6 (fun z z'' q => by
      obtain ⟨K, rfl, q, rfl⟩ := q
      exact ⟨_, ⟨K, rfl, q, rfl⟩, dzc_24 ⟨by decide, K, rfl, rfl⟩⟩) (by decide) (by decide) (by decide)
    have p6 := p0_of ad6.2.2.1 p4
    refine sp_gadv (tk_kg r6.1 tk) r6.2.1 (by rw [ad6.2.2.2.2.2.1, c10]; decide) (fun s7 a7 => ?_)
    have r7 := grz_tr (R'' := fun z z' => ∃ K, z = (1, K, []) ∧ sk m K ∧ z' = (1, 1 :: K, [])) ga r6 (adv_z (P := fun _ => True) a7) (fun z z'' q => ⟨z'', q, trivial, rfl⟩)
    refine hb x s7 _ hx (tk_kg r7.1 tk) r7.2.1 (cb_grz cb r7 (by omega)) (p0_of a7.2.2.2.2.1 p6) (fun s8 r8' p8 => ⟨grz_wk (grz_tr (R'' := fun z z' => ∃ K, z = (1, K, []) ∧ sk m K ∧ z' = (1, 1 :: K, [])) ga r7 r8' in1) (fun _ _ q => q) (by omega) (by omega) (by omega), p8⟩)
theorem sp_gloop (hb : SPB Ka d (m + 1)) (hm : m ≤ 24) : SPW (wk_X3_loop Ka Kb Kc Kd Ke) d m := fun x σ Q hx tk ga cb hp hk k => by
  have inb : ∀ c : Nat, 1 ≤ c → c ≤ 8 → (c = 0 ∨ c = 1 ∨ c = 3 ∨ c = 4 ∨ c = 8) → ∀ z z' : Zs, (∃ K, z = (1, K, []) ∧ sk m K ∧ z' = (1, c :: K, [])) → ∃ z1, (∃ K, z = (1, K, []) ∧ sk m K ∧ z1 = (1, c :: K, [])) ∧ bR (m + 1) z1 z' := fun c c1 c8 cb z z' q => by
    obtain ⟨K, rfl, q, rfl⟩ := q
    exact ⟨_, ⟨K, rfl, q, rfl⟩, ⟨_, rfl, by rw [nz_s c1 c8]; have := q.1; omega, Or.inr ⟨c, K, rfl, cb⟩⟩, rfl⟩
  unfold wk_X3_loop
  refine sp_gadv tk ga hk (fun s2 a2 => ?_)
  have r2 := adv_z (P := fun _ => True) a2
  have p2 := p0_of a2.2.2.2.2.1 hp
  have tk2 := tk_kg r2.1 tk
  have cb2 := cb_grz (c' := 68) cb r2 (by omega)
  refine ⟨fun _ => ⟨fun _ => ?_, fun _ => ?_⟩, fun _ => ?_⟩
  · refine sp_gcounted tk2 r2.2.1 (cb_le cb2 (by omega)) p2 (fun s3 r3' p3 => ?_)
    have r3 := grz_tr (R'' := fun z z' => ∃ K, z = (1, K, []) ∧ sk m K ∧ z' = (1, 8 :: K, [])) ga r2 r3' (fun z z'' q => by
      obtain ⟨K, rfl, q, rfl⟩ := q
      exact ⟨_, ⟨trivial, rfl⟩, K, rfl, ⟨by have := q.1; omega, q.2⟩, rfl⟩)
    refine hb x s3 _ hx (tk_kg r3.1 tk) r3.2.1 (cb_grz cb r3 (by omega)) p3 (fun s4 r4' p4 => ?_)
    have r4 := grz_tr (R'' := fun z z' => ∃ K, z = (1, K, []) ∧ sk m K ∧ z' = (1, 8 :: K, [])) ga r3 r4' (inb 8 (by decide) (by decide) (by decide))
    refine sp_gadd0 (tk_kg r4.1 tk) r4.2.1 (cb_grz cb r4 (by omega)) (fun v5 s5 ad _ => k s5 ?_ (p0_of ad.2.2.1 p4))
    exact grz_wk (grz_add (R'' := kR m) (w' := 2) ga r4 ad (fun z z'' q => by
      obtain ⟨⟨K, rfl, q⟩, rfl⟩ := q
      exact ⟨_, ⟨K, rfl, q, rfl⟩, dzc_35 ⟨by decide, K, rfl, rfl⟩⟩) (by decide) (by decide) (by decide)) (fun _ _ q => q) (by omega) (by omega) (by omega)
  · refine sp_gadd0 tk2 r2.2.1 (cb_le cb2 (by omega)) (fun v3 s3 ad3 _ => ?_)
    have r3 := grz_add (R'' := fun z z' => ∃ K, z = (1, K, []) ∧ sk m K ∧ z' = (1, 4 :: K, [])) (w' := 2) ga r2 ad3 (fun z z'' q => by
      obtain ⟨K, rfl, q, rfl⟩ := q
      exact ⟨_, ⟨trivial, rfl⟩, dzc_29 ⟨by decide, K, rfl, rfl, by have := q.1; omega, q.2⟩⟩) (by decide) (by decide) (by decide)
    refine hb x s3 _ hx (tk_kg r3.1 tk) r3.2.1 (cb_grz cb r3 (by omega)) (p0_of ad3.2.2.1 p2) (fun s4 r4' p4 => ?_)
    have r4 := grz_tr (R'' := fun z z' => ∃ K, z = (1, K, []) ∧ sk m K ∧ z' = (1, 4 :: K, [])) ga r3 r4' (inb 4 (by decide) (by decide) (by decide))
    refine sp_gexpect (tk_kg r4.1 tk) r4.2.1 (by decide) (fun s5 r5' p5' e5 => ?_)
    have r5 := grz_tr (R'' := fun z z' => ∃ K, z = (1, K, []) ∧ sk m K ∧ z' = (1, 4 :: K, [])) ga r4 (exp_z (P := fun _ => True) r5' e5) (fun z z'' q => ⟨z'', q, trivial, rfl⟩)
    refine sp_gadd0 (tk_kg r5.1 tk) r5.2.1 (cb_grz cb r5 (by omega)) (fun v6 s6 ad6 _ => ?_)
    have r6 := grz_add (R'' := fun z z' => ∃ K, z = (1, K, []) ∧ sk m K ∧ z' = (1, 5 :: K, [])) (w' := 0) ga r5 ad6 (fun z z'' q => by
      obtain ⟨K, rfl, q, rfl⟩ := q
      exact ⟨_, ⟨K, rfl, q, rfl⟩, dzc_30 ⟨by decide, K, rfl, rfl⟩⟩) (by decide) (by decide) (by decide)
    have p6 := p0_of ad6.2.2.1 (p0_of p5' p4)
    refine sp_gcond (R := fun z z' => ∃ K, z = (1, 5 :: K, []) ∧ z' = (1, K, [])) (tk_kg r6.1 tk) r6.2.1 (cb_grz cb r6 (by omega)) p6 (fun z z' q => by
      obtain ⟨K, rfl, rfl⟩ := q
      exact ⟨1, _, rfl, dzc_31 ⟨by decide, K, rfl, rfl⟩⟩) (by decide) (by decide) (fun s7 r7' p7 => ?_)
    have r7 := grz_tr (R'' := kR m) ga r6 r7' (fun z z'' q => by
      obtain ⟨⟨K, rfl, q⟩, rfl⟩ := q
      exact ⟨_, ⟨K, rfl, q, rfl⟩, K, rfl, rfl⟩)
    refine sp_gexpect (tk_kg r7.1 tk) r7.2.1 (by decide) (fun s8 r8' p8' e8 => k s8 ?_ (p0_of p8' p7))
    exact grz_wk (grz_tr (R'' := kR m) ga r7 (exp_z (P := fun _ => True) r8' e8) (fun z z'' q => ⟨z'', q, trivial, rfl⟩)) (fun _ _ q => q) (by omega) (by omega) (by omega)
  · refine sp_gadd0 tk2 r2.2.1 (cb_le cb2 (by omega)) (fun v3 s3 ad3 _ => ?_)
    have r3 := grz_add (R'' := fun z z' => ∃ K, z = (1, K, []) ∧ sk m K ∧ z' = (1, 2 :: K, [])) (w' := 0) ga r2 ad3 (fun z z'' q => by
      obtain ⟨K, rfl, q, rfl⟩ := q
      exact ⟨_, ⟨trivial, rfl⟩, dzc_26 ⟨by decide, K, rfl, rfl, by have := q.1; omega, q.2⟩⟩) (by decide) (by decide) (by decide)
    refine sp_gcond (R := fun z z' => ∃ K, z = (1, 2 :: K, []) ∧ z' = (1, 3 :: K, [])) (tk_kg r3.1 tk) r3.2.1 (cb_grz cb r3 (by omega)) (p0_of ad3.2.2.1 p2) (fun z z' q => by
      obtain ⟨K, rfl, rfl⟩ := q
      exact ⟨1, _, rfl, dzc_27 ⟨by decide, K, rfl, rfl⟩⟩) (by decide) (by decide) (fun s4 r4' p4 => ?_)
    have r4 := grz_tr (R'' := fun z z' => ∃ K, z = (1, K, []) ∧ sk m K ∧ z' = (1, 3 :: K, [])) ga r3 r4' (fun z z'' q => by
      obtain ⟨K, rfl, q, rfl⟩ := q
      exact ⟨_, ⟨K, rfl, q, rfl⟩, K, rfl, rfl⟩)
    refine hb x s4 _ hx (tk_kg r4.1 tk) r4.2.1 (cb_grz cb r4 (by omega)) p4 (fun s5 r5' p5 => ?_)
    have r5 := grz_tr (R'' := fun z z' => ∃ K, z = (1, K, []) ∧ sk m K ∧ z' = (1, 3 :: K, [])) ga r4 r5' (inb 3 (by decide) (by decide) (by decide))
    refine sp_gadd0 (tk_kg r5.1 tk) r5.2.1 (cb_grz cb r5 (by omega)) (fun v6 s6 ad _ => k s6 ?_ (p0_of ad.2.2.1 p5))
    exact grz_wk (grz_add (R'' := kR m) (w' := 2) ga r5 ad (fun z z'' q => by
      obtain ⟨⟨K, rfl, q⟩, rfl⟩ := q
      exact ⟨_, ⟨K, rfl, q, rfl⟩, dzc_28 ⟨by decide, K, rfl, rfl⟩⟩) (by decide) (by decide) (by decide)) (fun _ _ q => q) (by omega) (by omega) (by omega)
end GST
end

section
/-! the grammar: the statements' group -/
/-- a block -/
def SPS (K : KX1) (d m : Nat) : Prop := ∀ (x : Int32) (σ : St) (Q : St → Prop), x.toInt = d → TKc σ → GA σ → CBd σ 71 → P0 σ → (∀ s, GRz σ s (kR m) (-4) (-8) (-2) → P0 s → Q s) → K x σ Q
section GSG
variable {σ s t : St} {R R' R'' : RZs} {u w v : Int} {m F d : Nat} {Ka Kb Kc Kd Ke : KX1}
theorem sp_gstatement (hc : d ≤ 25 → SPW Kb d m) (hl : d ≤ 25 → SPW Kc d m) (hb : d ≤ 25 → SPS Ke (d + 1) m) (hm : m ≤ 100) : SPT (wk_X3_statement Ka Kb Kc Kd Ke) d m := fun x σ Q hx tk ga cb hp k => by
  unfold wk_X3_statement
  refine ⟨fun c25 => ⟨True, fun _ => sp_gsimple hm tk ga cb hp k, 2 ≤ (σ 3 2).toInt, fun c => hl (by omega) x σ _ hx tk ga cb hp c k, fun c5 => ?_, ?_⟩, fun _ => sp_gfail ga (fun s r p bad => k s (grz_bad (r 0 [] [] 0 0).1 (r 0 [] [] 0 0).2.1 bad) (p0_of p hp))⟩
  · refine sp_gadv tk ga (by omega) (fun s2 a2 => ?_)
    have r2 := adv_z (P := vP 1 m) a2
    have p2 := p0_of a2.2.2.2.2.1 hp
    refine sp_gstars (tk_kg r2.1 tk) r2.2.1 (fun v3 s3 r3' p3' _ ec3 => ?_)
    have r3 := grz_tr (R'' := vR 1 m) ga r2 (nil_z (P := fun _ => True) r3' ec3) (fun z z'' q => ⟨z'', q, trivial, rfl⟩)
    have p3 := p0_of p3' p2
    have tk3 := tk_kg r3.1 tk
    refine sp_gexpect tk3 r3.2.1 (by decide) (fun s4 r4' p4' e4 => ?_)
    obtain ⟨wd, q0, q1, q2⟩ := exp_n (P := fun _ => True) tk3 r3.2.1 r4' e4
    have r4 := grz_tr (R'' := vR 1 m) ga r3 q1 (fun z z'' q => ⟨z'', q, trivial, rfl⟩)
    have vk : ∀ y, VN s4 y = VN s3 y := fun y => vn_same (funext (fun j => (r4' 0 []).1 13 j rfl rfl)) (funext (fun j => (r4' 0 []).1 14 j rfl rfl))
    refine sp_gvariables (F := 1) (m := m) (W := wd) (by decide) (tk_kg r4.1 tk) r4.2.1 (cb_grz cb r4 (by omega)) (p0_of p4' p3) (Or.inl rfl) q0 (fun hw => by rw [vk]; exact q2 hw) (fun s5 r5 p5 => k s5 ?_ p5)
    exact grz_wk (grz_tr (R'' := vR 1 m) ga r4 r5 (fun z z'' q => ⟨z, ⟨q.1, rfl⟩, q⟩)) (fun _ _ q => q) (by omega) (by omega) (by omega)
  · have blk : (σ 3 2).toInt = 22 → wk_X3_add (20 : Int32) (σ 3 1) (0 : Int32) (0 : Int32) σ (fun v134 s134 => Ke (x + (1 : Int32)) s134 (fun s142 => wk_X3_add (21 : Int32) (σ 3 1) (0 : Int32) (0 : Int32) s142 (fun v151 s151 => Q s151))) := fun c22 => by
      refine sp_gadd0 tk ga (cb_le cb (by omega)) (fun v2 s2 ad _ => ?_)
      have r2 := grz_add (R'' := fun z z' => ∃ K, z = (1, K, []) ∧ sk m K ∧ z' = (1, 0 :: K, [])) (w' := 0) ga (grz_rf (P := fun _ => True) ga) ad (fun z z'' q => by
        obtain ⟨K, rfl, q, rfl⟩ := q
        exact ⟨_, ⟨trivial, rfl⟩, dzc_20 ⟨by decide, K, rfl, rfl, by have := q.1; omega, tp_bd q.2⟩⟩) (by decide) (by decide) (by decide)
      refine hb (by omega) _ s2 _ (by rw [ad1 (by omega)]; omega) (tk_kg r2.1 tk) r2.2.1 (cb_grz cb r2 (by omega)) (p0_of ad.2.2.1 hp) (fun s3 r3' p3 => ?_)
      have r3 := grz_tr (R'' := fun z z' => ∃ K, z = (1, K, []) ∧ sk m K ∧ z' = (1, 0 :: K, [])) ga r2 r3' (fun z z'' q => by
        obtain ⟨K, rfl, q, rfl⟩ := q
        exact ⟨_, ⟨K, rfl, q, rfl⟩, ⟨_, rfl, sk_0 q.1⟩, rfl⟩)
      refine sp_gadd0 (tk_kg r3.1 tk) r3.2.1 (cb_grz cb r3 (by omega)) (fun v4 s4 ad4 _ => k s4 ?_ (p0_of ad4.2.2.1 p3))
      exact grz_wk (grz_add (R'' := kR m) (w' := 0) ga r3 ad4 (fun z z'' q => by
        obtain ⟨⟨K, rfl, q⟩, rfl⟩ := q
        exact ⟨_, ⟨K, rfl, q, rfl⟩, dzc_21 ⟨by decide, K, rfl, rfl⟩⟩) (by decide) (by decide) (by decide)) (fun _ _ q => q) (by omega) (by omega) (by omega)
    have emp : (σ 3 2).toInt = 27 → wk_X3_advance σ (fun s159 => Q s159) := fun c => sp_gadv tk ga (by omega) (fun s2 a2 => k s2 (grz_wk (adv_z (P := fun z => ∃ K, z = (1, K, []) ∧ sk m K) a2) (fun _ _ q => q) (by omega) (by omega) (by omega)) (p0_of a2.2.2.2.2.1 hp))
    have con : (σ 3 2).toInt = 9 → Kb x σ (fun s198 => Q s198) := fun c => hc (by omega) x σ _ hx tk ga cb hp (by omega) k
    refine fun _ => ⟨fun _ => trivial, fun _ => ⟨fun _ => trivial, fun _ => ⟨fun _ => trivial, fun _ => ⟨con, fun _ => ⟨fun _ => trivial, fun _ => ⟨fun c => by omega, fun _ => ⟨fun c => by omega, fun _ => ⟨fun c => by omega, fun _ => ⟨fun _ => trivial, fun _ => ⟨fun _ => trivial, fun _ => ⟨fun _ => trivial, fun _ => ⟨fun _ => trivial, fun _ => ⟨fun _ => trivial, fun _ => ⟨fun _ => trivial, fun _ => ⟨fun _ => trivial, fun _ => ⟨fun _ => trivial, fun _ => ⟨blk, fun _ => ⟨fun _ => trivial, fun _ => ⟨fun _ => trivial, fun _ => ⟨fun _ => trivial, fun _ => ⟨fun _ => trivial, fun _ => ⟨emp, fun _ => trivial⟩⟩⟩⟩⟩⟩⟩⟩⟩⟩⟩⟩⟩⟩⟩⟩⟩⟩⟩⟩⟩⟩
theorem sp_gstatements (hs : SPT Kd d m) : SPS (wk_X3_statements Ka Kb Kc Kd Ke) d m := fun x σ Q hx tk ga cb hp k => by
  unfold wk_X3_statements
  refine sp_gexpect tk ga (by decide) (fun s3 r3' p3' e3 => ?_)
  have r3 := exp_z (P := fun z => ∃ K, z = (1, K, []) ∧ sk m K) r3' e3
  refine ⟨fun n y s => n = y.toInt.toNat ∧ GRz σ s (kR m) (-2) (-4) (-1) ∧ P0 s, ⟨_, rfl, r3, p0_of p3' hp⟩, ?_⟩
  rintro n y s ⟨hn, r, p⟩
  have tks := tk_kg r.1 tk
  refine ⟨True, fun _ => ?_, fun _ => trivial, fun c => ⟨fun _ => trivial, fun _ => ⟨fun _ => trivial, fun _ => ?_⟩⟩⟩
  · refine sp_gexpect tks r.2.1 (by decide) (fun s4 r4' p4' e4 => k s4 ?_ (p0_of p4' p))
    exact grz_wk (grz_tr (R'' := kR m) ga r (exp_z (P := fun _ => True) r4' e4) (fun z z'' q => ⟨z'', q, trivial, rfl⟩)) (fun _ _ q => q) (by omega) (by omega) (by omega)
  · refine hs x s _ hx tks r.2.1 (cb_grz cb r (by omega)) p (fun s4 r4 p4 => ⟨_, dn_lt hn c, rfl, ?_, p4⟩)
    exact grz_wk (grz_tr (R'' := kR m) ga r r4 (fun z z'' q => ⟨z, ⟨q.1, rfl⟩, q⟩)) (fun _ _ q => q) (by omega) (by omega) (by omega)
end GSG
/-- at so much fuel -/
def EFs (n : Nat) : Prop := ∀ d : Nat, 1 ≤ d → d ≤ 26 →
  (4 * (26 - d) + 3 < n → SPT (KVB n).2.2.2.1 d (d - 1)) ∧
  (d ≤ 25 → 4 * (26 - d) + 2 < n → SPW (KVB n).2.1 d (d - 1)) ∧
  (d ≤ 25 → 4 * (26 - d) + 2 < n → SPW (KVB n).2.2.1 d (d - 1)) ∧
  (d ≤ 25 → 4 * (26 - d) + 1 < n → SPB (KVB n).1 d d) ∧
  (4 * (26 - d) + 4 < n → SPS (KVB n).2.2.2.2 d (d - 1))
theorem spt_le {K : KX1} {d m m' : Nat} (h : SPS K d m) (hm : m' ≤ m) : SPS K d m' := fun x σ Q hx tk ga cb hp k => h x σ Q hx tk ga cb hp (fun s r p => k s (grz_wk r (fun z z' q => by
  obtain ⟨⟨K, rfl, q⟩, rfl⟩ := q
  exact ⟨⟨K, rfl, by have := q.1; omega, q.2⟩, rfl⟩) (Int.le_refl _) (Int.le_refl _) (Int.le_refl _)) p)
theorem efs_0 : EFs 0 := fun d h1 h2 => ⟨fun h => absurd h (Nat.not_lt_zero _), fun _ h => absurd h (Nat.not_lt_zero _), fun _ h => absurd h (Nat.not_lt_zero _), fun _ h => absurd h (Nat.not_lt_zero _), fun h => absurd h (Nat.not_lt_zero _)⟩
theorem efs_s {n : Nat} (ih : EFs n) : EFs (n + 1) := fun d h1 h2 => by
  obtain ⟨g1, g2, g3, g4, g5⟩ := ih d h1 h2
  have up : d + 1 ≤ 26 → _ := fun h => ih (d + 1) (by omega) h
  have e1 : d + 1 - 1 = d := by omega
  have e2 : d - 1 + 1 = d := by omega
  refine ⟨fun hn => ?_, fun h5 hn => ?_, fun h5 hn => ?_, fun h5 hn => ?_, fun hn => ?_⟩
  · show SPT (wk_X3_statement ((KVB n).1) ((KVB n).2.1) ((KVB n).2.2.1) ((KVB n).2.2.2.1) ((KVB n).2.2.2.2)) d _
    exact sp_gstatement (fun h => g2 h (by omega)) (fun h => g3 h (by omega)) (fun h => spt_le ((up (by omega)).2.2.2.2 (by omega)) (by omega)) (by omega)
  · show SPW (wk_X3_conditional ((KVB n).1) ((KVB n).2.1) ((KVB n).2.2.1) ((KVB n).2.2.2.1) ((KVB n).2.2.2.2)) d _
    exact sp_gconditional (by rw [e2]; exact g4 h5 (by omega)) (by omega)
  · show SPW (wk_X3_loop ((KVB n).1) ((KVB n).2.1) ((KVB n).2.2.1) ((KVB n).2.2.2.1) ((KVB n).2.2.2.2)) d _
    exact sp_gloop (by rw [e2]; exact g4 h5 (by omega)) (by omega)
  · show SPB (wk_X3_body ((KVB n).1) ((KVB n).2.1) ((KVB n).2.2.1) ((KVB n).2.2.2.1) ((KVB n).2.2.2.2)) d _
    exact sp_gbody (by have := (up (by omega)).1 (by omega); rw [e1] at this; exact this) (by omega) (by omega)
  · show SPS (wk_X3_statements ((KVB n).1) ((KVB n).2.1) ((KVB n).2.2.1) ((KVB n).2.2.2.1) ((KVB n).2.2.2.2)) d _
    exact sp_gstatements (g1 (by omega))
theorem efs_all : ∀ n, EFs n
  | 0 => efs_0
  | n + 1 => efs_s (efs_all n)
theorem spg_stms : SPS wkG_statements 1 0 := (efs_all 160 1 (by decide) (by decide)).2.2.2.2 (by decide)
end

section
/-! the grammar: heads of functions, a unit -/
def z0 : Zs := (0, [], [])
def SGr (n : Int) (x : Int32) : Prop := 16777216 * n ≤ x.toInt ∧ x.toInt < 16777216 * (n + 1)
section GRD
variable {σ s t : St} {R R' R'' : RZs} {u w v : Int} {m F d : Nat}
theorem i32_of {x : Int32} {n : Nat} (h : x.toInt = n) (hn : n < 2147483648) : x = nI n := Int32.toInt_inj.mp (by rw [h, nI_toInt hn])
theorem or_nat {x y : Int32} (hx : 0 ≤ x.toInt) (hy : 0 ≤ y.toInt) (hb : (x.toInt.toNat ||| y.toInt.toNat) < 2147483648) : (x ||| y).toInt = ((x.toInt.toNat ||| y.toInt.toNat : Nat) : Int) := by
  have bx : x.toBitVec.toInt = x.toInt := rfl
  have by' : y.toBitVec.toInt = y.toInt := rfl
  have nx : x.toBitVec.toNat = x.toInt.toNat := by
    have := BitVec.toInt_eq_toNat_cond x.toBitVec
    have l := x.toBitVec.isLt
    split at this <;> omega
  have ny : y.toBitVec.toNat = y.toInt.toNat := by
    have := BitVec.toInt_eq_toNat_cond y.toBitVec
    have l := y.toBitVec.isLt
    split at this <;> omega
  have e : (x ||| y).toBitVec.toNat = x.toInt.toNat ||| y.toInt.toNat := by
    rw [Int32.toBitVec_or, BitVec.toNat_or, nx, ny]
  have h := BitVec.toInt_eq_toNat_cond (x ||| y).toBitVec
  rw [e, if_pos (by omega)] at h
  exact h
theorem sh_rng : ∀ a, a < 7 → ∀ n, n < 8 → 0 ≤ (nI a <<< (((3 : Int32) * nI n) &&& 31)).toInt ∧ (nI a <<< (((3 : Int32) * nI n) &&& 31)).toInt < 16777216 := by decide
theorem or_rng {x y : Int32} {n : Nat} (hx : SGr (n + 1) x) (hy : 0 ≤ y.toInt ∧ y.toInt < 16777216) (hn : n ≤ 8) : SGr (n + 1) (x ||| y) := by
  obtain ⟨h1, h2⟩ := hx
  obtain ⟨r, hr, er⟩ : ∃ r, r < 16777216 ∧ x.toInt.toNat = (n + 1) <<< 24 + r := ⟨x.toInt.toNat - 16777216 * (n + 1), by omega, by rw [Nat.shiftLeft_eq]; omega⟩
  have l24 : ∀ q, q < 16777216 → q < 2 ^ 24 := fun q hq => hq
  have e : x.toInt.toNat ||| y.toInt.toNat = (n + 1) <<< 24 + (r ||| y.toInt.toNat) := by
    rw [er, Nat.shiftLeft_add_eq_or_of_lt (l24 r hr), Nat.or_assoc, ← Nat.shiftLeft_add_eq_or_of_lt (Nat.or_lt_two_pow (l24 r hr) (l24 _ (by omega)))]
  have hb : (r ||| y.toInt.toNat) < 2 ^ 24 := Nat.or_lt_two_pow (l24 r hr) (l24 _ (by omega))
  have hb' : (r ||| y.toInt.toNat) < 16777216 := hb
  have es : (n + 1) <<< 24 = (n + 1) * 16777216 := Nat.shiftLeft_eq _ _
  have h := or_nat (x := x) (y := y) (by omega) hy.1 (by rw [e, es]; omega)
  unfold SGr
  rw [h, e, es]
  omega
theorem ushr24 {x : Int32} {n : Nat} (hx : SGr n x) (hn : n ≤ 100) : (ushr x (24 : Int32)).toInt = n := by
  obtain ⟨h1, h2⟩ := hx
  have nx : x.toBitVec.toNat = x.toInt.toNat := by
    have bx : x.toBitVec.toInt = x.toInt := rfl
    have := BitVec.toInt_eq_toNat_cond x.toBitVec
    have l := x.toBitVec.isLt
    split at this <;> omega
  have e24 : ((24 : Int32).toUInt32 &&& Int32.toUInt32 31) = (24 : UInt32) := by decide
  have e : (ushr x (24 : Int32)).toBitVec.toNat = x.toInt.toNat / 16777216 := by
    unfold ushr
    rw [e24]
    show (x.toUInt32 >>> (24 : UInt32)).toNat = _
    rw [UInt32.toNat_shiftRight]
    have e3 : (24 : UInt32).toNat % 32 = 24 := by decide
    rw [e3, Nat.shiftRight_eq_div_pow]
    show x.toBitVec.toNat / 16777216 = _
    rw [nx]
  have h := BitVec.toInt_eq_toNat_cond (ushr x (24 : Int32)).toBitVec
  rw [e, if_pos (by omega)] at h
  have h' : (ushr x (24 : Int32)).toInt = ((x.toInt.toNat / 16777216 : Nat) : Int) := h
  rw [h']
  omega
theorem sp_withParameter {a0 a1 : Int32} {n : Nat} {Q : Int32 → Prop} (h0 : SGr n a0) (hn : n < 8) (h1 : 0 ≤ a1.toInt ∧ a1.toInt ≤ 6) (k : ∀ x, SGr ((n + 1 : Nat) : Int) x → Q x) : wk_X8_withParameter a0 a1 σ Q := by
  unfold wk_X8_withParameter wk_X8_parameters
  have e := ushr24 h0 (by omega)
  have eu : ushr a0 (24 : Int32) = nI n := i32_of e (by omega)
  obtain ⟨a, ha⟩ : ∃ a : Nat, a1.toInt = a := ⟨a1.toInt.toNat, by omega⟩
  have ea : a1 = nI a := i32_of ha (by omega)
  rw [eu, ea]
  have sr := sh_rng a (by omega) n hn
  have e2 : (a0 + (16777216 : Int32)).toInt = a0.toInt + 16777216 := by
    have := h0.2
    exact adc (by decide) (by have := h0.1; omega) (by omega)
  exact k _ (or_rng (n := n) ⟨by rw [e2]; have := h0.1; omega, by rw [e2]; have := h0.2; omega⟩ sr (by omega))
/-- the row of parameters is none of what a stretch tells -/
theorem sp_gparameters {P : Zs → Prop} {Q : Int32 → St → Prop} (tk : TKc σ) (ga : GA σ) (hp : P0 σ) (k : ∀ x s (n : Nat), n ≤ 8 → SGr n x → GRz σ s (rId P) (-2 * n) (-4 * n) 0 → P0 s → Q x s) : wk_X3_parameters σ Q := by
  unfold wk_X3_parameters
  refine ⟨fun f x1 x2 _ s => ∃ n : Nat, n ≤ 8 ∧ f = 8 - n ∧ x2.toInt = n ∧ SGr n x1 ∧ GRz σ s (rId P) (-2 * n) (-4 * n) 0 ∧ P0 s, ⟨8, 0, by omega, rfl, rfl, ⟨by decide, by decide⟩, grz_wk (grz_rf ga) (fun _ _ q => q) (by omega) (by omega) (by omega), hp⟩, ?_⟩
  rintro f x1 x2 x3 s hz ⟨n, hn, hf, h2, h1, r, p⟩
  have tks := tk_kg r.1 tk
  refine ⟨True, fun _ => ⟨fun _ => k x1 s n hn h1 r p, fun _ => sp_gfail r.2.1 (fun s2 r2 p2 bad => k x1 s2 n hn h1 (grz_bad (kp_tr r.1 (r2 0 [] [] 0 0).1) (r2 0 [] [] 0 0).2.1 bad) (p0_of p2 p))⟩, fun _ => trivial, fun c8 => ⟨fun _ => trivial, fun _ => ?_⟩⟩
  refine sp_gexpect tks r.2.1 (by decide) (fun s2 r2' p2' e2 => ?_)
  have r2 := grz_tr (R'' := rId P) ga r (exp_z (P := fun _ => True) r2' e2) (fun z z'' q => ⟨z'', q, trivial, rfl⟩)
  have p2 := p0_of p2' p
  refine sp_gstars (tk_kg r2.1 tk) r2.2.1 (fun v3 s3 r3' p3' hv3 ec3 => ?_)
  have r3 := grz_tr (R'' := rId P) ga r2 (nil_z (P := fun _ => True) r3' ec3) (fun z z'' q => ⟨z'', q, trivial, rfl⟩)
  have p3 := p0_of p3' p2
  have tail : ∀ (x4 y2 : Int32) (s5 : St), GRz σ s5 (rId P) (-2 * (n + 1 : Nat)) (-4 * (n + 1 : Nat)) 0 → P0 s5 → (0 ≤ x4.toInt ∧ x4.toInt ≤ 6) → wk_X8_withParameter x1 x4 (upF s5 23 (setv 8 (s5 23) x2 y2)) (fun v83 => wk_X3_accept (26 : Int32) (upF s5 23 (setv 8 (s5 23) x2 y2)) (fun v90 s90 => ∃ m, m < f ∧ ∃ n : Nat, n ≤ 8 ∧ m = 8 - n ∧ (x2 + 1).toInt = n ∧ SGr n v83 ∧ GRz σ s90 (rId P) (-2 * n) (-4 * n) 0 ∧ P0 s90)) := fun x4 y2 s5 r5 p5 h4 => by
    have r6 := grz_k r5 (kp_F (p := 23) (f := setv 8 (s5 23) x2 y2) kp_rf rfl)
    have p6 : P0 (upF s5 23 (setv 8 (s5 23) x2 y2)) := p5
    have ex : (x2 + 1).toInt = ((n + 1 : Nat) : Int) := by rw [ad1 (by omega)]; omega
    refine sp_withParameter h1 (by omega) h4 (fun x hx => sp_gaccept (tk_kg r6.1 tk) r6.2.1 (by decide) (fun _ => ⟨8 - (n + 1), by omega, n + 1, by omega, rfl, ex, hx, r6, p6⟩) (fun s7 a7 _ => ⟨8 - (n + 1), by omega, n + 1, by omega, rfl, ex, hx, ?_, p0_of a7.2.2.2.2.1 p6⟩))
    exact grz_wk (grz_tr (R'' := rId P) ga r6 (adv_z (P := fun _ => True) a7) (fun z z'' q => ⟨z'', q, trivial, rfl⟩)) (fun _ _ q => q) (by omega) (by omega) (by omega)
  have sq : ∀ (v35 : Int32) (s4 : St), GRz σ s4 (rId P) (-2 * (n + 1 : Nat)) (-4 * (n + 1 : Nat)) 0 → P0 s4 → wk_X3_accept (24 : Int32) s4 (fun v43 s43 => (∃ J58 : Int32 → St → Prop, (∀ (x4_58 : Int32) (s58 : St), J58 x4_58 s58 → ((∃ J77 : Int32 → Prop, (∀ (y2_77 : Int32), J77 y2_77 → (wk_X8_withParameter x1 x4_58 (upF s58 23 (setv 8 (s58 23) x2 y2_77)) (fun v83 => wk_X3_accept (26 : Int32) (upF s58 23 (setv 8 (s58 23) x2 y2_77)) (fun v90 s90 => ∃ m, m < f ∧ ∃ n : Nat, n ≤ 8 ∧ m = 8 - n ∧ (x2 + 1).toInt = n ∧ SGr n v83 ∧ GRz σ s90 (rId P) (-2 * n) (-4 * n) 0 ∧ P0 s90)))) ∧ (v35.toInt = 0 → J77 (s58 3 1)) ∧ (v35.toInt ≠ 0 → J77 (s3 3 1))))) ∧ (v43.toInt = 0 → J58 v3 s43) ∧ (v43.toInt ≠ 0 → wk_X3_expect (25 : Int32) s43 (fun s52 => J58 (v3 + 1) s52)))) := fun v35 s4 r4 p4 => by
    have J : ∀ (x4 : Int32) (s58 : St), (GRz σ s58 (rId P) (-2 * (n + 1 : Nat)) (-4 * (n + 1 : Nat)) 0 ∧ P0 s58 ∧ (0 ≤ x4.toInt ∧ x4.toInt ≤ 6)) → ((∃ J77 : Int32 → Prop, (∀ (y2_77 : Int32), J77 y2_77 → (wk_X8_withParameter x1 x4 (upF s58 23 (setv 8 (s58 23) x2 y2_77)) (fun v83 => wk_X3_accept (26 : Int32) (upF s58 23 (setv 8 (s58 23) x2 y2_77)) (fun v90 s90 => ∃ m, m < f ∧ ∃ n : Nat, n ≤ 8 ∧ m = 8 - n ∧ (x2 + 1).toInt = n ∧ SGr n v83 ∧ GRz σ s90 (rId P) (-2 * n) (-4 * n) 0 ∧ P0 s90)))) ∧ (v35.toInt = 0 → J77 (s58 3 1)) ∧ (v35.toInt ≠ 0 → J77 (s3 3 1)))) := fun x4 s58 h => ⟨fun _ => True, fun y2 _ => tail x4 y2 s58 h.1 h.2.1 h.2.2, fun _ => trivial, fun _ => trivial⟩
    refine sp_gaccept (tk_kg r4.1 tk) r4.2.1 (by decide) (fun _ => ⟨_, J, fun _ => ⟨r4, p4, by omega⟩, fun e => absurd rfl e⟩) (fun s5 a5 _ => ⟨_, J, fun e => absurd e (by decide), fun _ => ?_⟩)
    have r5 := grz_tr (R'' := rId P) ga r4 (adv_z (P := fun _ => True) a5) (fun z z'' q => ⟨z'', q, trivial, rfl⟩)
    refine sp_gexpect (tk_kg r5.1 tk) r5.2.1 (by decide) (fun s6 r6' p6' e6 => ⟨?_, p0_of p6' (p0_of a5.2.2.2.2.1 p4), by rw [ad1 (by omega)]; omega⟩)
    exact grz_wk (grz_tr (R'' := rId P) ga r5 (exp_z (P := fun _ => True) r6' e6) (fun z z'' q => ⟨z'', q, trivial, rfl⟩)) (fun _ _ q => q) (by omega) (by omega) (by omega)
  refine sp_gaccept (tk_kg r3.1 tk) r3.2.1 (by decide) (fun _ => sq 0 s3 (grz_wk r3 (fun _ _ q => q) (by omega) (by omega) (by omega)) p3) (fun s4 a4 _ => sq 1 s4 ?_ (p0_of a4.2.2.2.2.1 p3))
  exact grz_wk (grz_tr (R'' := rId P) ga r3 (adv_z (P := fun _ => True) a4) (fun z z'' q => ⟨z'', q, trivial, rfl⟩)) (fun _ _ q => q) (by omega) (by omega) (by omega)
theorem fn_b4 : ∀ a, a < 7 → ∀ l, l < 3 → ¬ b4 ((((nI a + (-1 : Int32)) + (1 : Int32)) * (8 : Int32) + nI l) + 0) ∧ b4 ((((nI a + (-1 : Int32)) + (1 : Int32)) * (8 : Int32) + nI l) + 4) := by
  unfold b4
  decide
theorem fn_b4' {a2 a3 : Int32} (h2 : -1 ≤ a2.toInt ∧ a2.toInt ≤ 5) (h3 : a3 = 0 ∨ a3 = 1 ∨ a3 = 2) : ¬ b4 (((a2 + (1 : Int32)) * (8 : Int32) + a3) + 0) ∧ b4 (((a2 + (1 : Int32)) * (8 : Int32) + a3) + 4) := by
  have e : (a2 + (1 : Int32)).toInt = a2.toInt + 1 := ad1 (by omega)
  obtain ⟨a, ha⟩ : ∃ a : Nat, (a2 + (1 : Int32)).toInt = a := ⟨(a2 + (1 : Int32)).toInt.toNat, by omega⟩
  have e2 : a2 + (1 : Int32) = (nI a + (-1 : Int32)) + (1 : Int32) := by
    refine Int32.toInt_inj.mp ?_
    rw [ha, ad1 (by rw [dc1 (by rw [nI_toInt (by omega)]; omega), nI_toInt (by omega)]; omega), dc1 (by rw [nI_toInt (by omega)]; omega), nI_toInt (by omega)]
    omega
  rw [e2]
  rcases h3 with e3 | e3 | e3
  · rw [e3]; exact fn_b4 a (by omega) 0 (by decide)
  · rw [e3]; exact fn_b4 a (by omega) 1 (by decide)
  · rw [e3]; exact fn_b4 a (by omega) 2 (by decide)
def hR (v : Int32) : RZs := fun z z' => z = z0 ∧ z' = if v.toInt = 0 then z0 else (1, [], [])
theorem sp_ghead {a1 a2 a3 : Int32} {W : Int} {Q : Int32 → St → Prop} (tk : TKc σ) (ga : GA σ) (cb : CBd σ 70) (hp : P0 σ) (h2 : -1 ≤ a2.toInt ∧ a2.toInt ≤ 5) (h3 : a3 = 0 ∨ a3 = 1 ∨ a3 = 2) (hW : 0 ≤ W) (hn : (σ 3 3).toInt < 0 → VN σ a1 W) (k : ∀ v s, GRz σ s (hR v) (-3) (-4) W → P0 s → Q v s) : wk_X3_head a1 a2 a3 σ Q := by
  have main : ∀ (x4 : Int32) (s40 : St) (n : Nat), n ≤ 8 → SGr n x4 → GRz σ s40 (rId (fun z => z = z0)) (-2 - 2 * n) (-4) (-1) → P0 s40 → wk_X3_expect (21 : Int32) s40 (fun s43 => (∃ J60 : Int32 → Prop, (∀ (y0_60 : Int32), y0_60 = 0 ∨ y0_60 = 1 → J60 y0_60 → ((∃ J86 : Int32 → Prop, (∀ (y5_86 : Int32), J86 y5_86 → (wk_X3_add (47 : Int32) a1 x4 ((((a2 + (1 : Int32)) * (8 : Int32)) + a3) + y5_86) s43 (fun v87 s87 => (∃ J102 : St → Prop, (∀ (s102 : St), J102 s102 → (∃ L105 : Nat → Int32 → St → Prop, (∃ n, L105 n (0 : Int32) s102) ∧ ∀ (n105 : Nat) (x6_105 : Int32) (s105 : St), L105 n105 x6_105 s105 → (wk_X8_parameters x4 s105 (fun v109 => (v109.toInt ≤ x6_105.toInt → Q y0_60 s105) ∧ (x6_105.toInt < v109.toInt → (y0_60.toInt = 0 → Q y0_60 s105) ∧ (y0_60.toInt ≠ 0 → wk_X8_parameter x4 x6_105 s105 (fun v136 => wk_X3_add (48 : Int32) (atv 8 (s105 23) x6_105) v136 (0 : Int32) s105 (fun v140 s140 => ∃ m, m < n105 ∧ L105 m (x6_105 + 1) s140)))))))) ∧ (y0_60.toInt ≠ 0 → J102 s87) ∧ (y0_60.toInt = 0 → wk_X3_expect (27 : Int32) s87 (fun s99 => J102 s99)))))) ∧ (y0_60.toInt = 0 → J86 (0 : Int32)) ∧ (y0_60.toInt ≠ 0 → J86 (4 : Int32))))) ∧ ((s43 3 2).toInt ≠ 22 → J60 (0 : Int32)) ∧ ((s43 3 2).toInt = 22 → J60 (1 : Int32)))) := fun x4 s40 n hn8 hx4 r40 p40 => by
    refine sp_gexpect (tk_kg r40.1 tk) r40.2.1 (by decide) (fun s43 r43' p43' e43 => ?_)
    have r43 := grz_tr (R'' := rId (fun z => z = z0)) ga r40 (exp_z (P := fun _ => True) r43' e43) (fun z z'' q => ⟨z'', q, trivial, rfl⟩)
    have p43 := p0_of p43' p40
    have sp : spar x4 = n := by
      unfold spar
      rw [ushr24 hx4 (by omega)]
      rfl
    have vk : VN s43 a1 = VN σ a1 := vn_same (funext (fun j => r43.1 13 j rfl rfl)) (funext (fun j => r43.1 14 j rfl rfl))
    have addf : ∀ (y5 : Int32) (b : Prop) (z1 : Zs), (dz 47 x4 ((((a2 + (1 : Int32)) * (8 : Int32)) + a3) + y5) z0 z1) → ∀ {s87 : St}, ADD s43 s87 47 a1 x4 ((((a2 + (1 : Int32)) * (8 : Int32)) + a3) + y5) → GRz σ s87 (fun z z' => z = z0 ∧ z' = z1) (-3 - 2 * n) (-4) W := fun y5 b z1 hd s87 ad => by
      by_cases hg : (s87 3 3).toInt < 0
      · have hg2 : (s43 3 3).toInt < 0 := by rw [← ad.2.2.2.1]; exact hg
        have hg0 := (r43.2.2 hg2).1
        refine grz_wk (grz_tr (R'' := fun z z' => z = z0 ∧ z' = z1) ga r43 (add_z (R := fun z z' => z = z0 ∧ z' = z1) (w := 4) (v := W) ad r43.2.1 (fun _ z z' q => by obtain ⟨rfl, rfl⟩ := q; exact hd) (by decide) (by decide) hW (fun _ => by rw [vk]; exact hn hg0)) (fun z z'' q => ⟨z, ⟨q.1, rfl⟩, q⟩)) (fun _ _ q => q) (by omega) (by omega) (by omega)
      · exact grz_bad (kp_tr r43.1 ad.1) ad.2.1 (by omega)
    refine ⟨fun _ => True, fun y0 hy _ => ?_, fun _ => trivial, fun _ => trivial⟩
    by_cases hz : y0.toInt = 0
    · refine ⟨fun y5 => y5 = 0, ?_, fun _ => rfl, fun c => absurd hz c⟩
      rintro y5 rfl
      refine sp_gadd0 (tk_kg r43.1 tk) r43.2.1 (cb_grz cb r43 (by omega)) (fun v5 s5 ad5 _ => ?_)
      have r5 := addf 0 True z0 (dzc_47 ⟨rfl, rfl, by omega, Or.inr ⟨(fn_b4' h2 h3).1, rfl⟩⟩) ad5
      have p5 := p0_of ad5.2.2.1 p43
      refine ⟨fun s => GRz σ s (hR y0) (-3) (-4) W ∧ P0 s, fun s h => ⟨fun _ _ s => GRz σ s (hR y0) (-3) (-4) W ∧ P0 s, ⟨0, h⟩, fun _ _ s h => ?_⟩, fun c => absurd hz c, fun _ => ?_⟩
      · show (_ → Q y0 s) ∧ _
        exact ⟨fun _ => k y0 s h.1 h.2, fun _ => ⟨fun _ => k y0 s h.1 h.2, fun c => absurd hz c⟩⟩
      · refine sp_gexpect (tk_kg r5.1 tk) r5.2.1 (by decide) (fun s6 r6' p6' e6 => ⟨?_, p0_of p6' p5⟩)
        refine grz_wk (grz_tr (R'' := hR y0) ga r5 (exp_z (P := fun _ => True) r6' e6) (fun z z'' q => ?_)) (fun _ _ q => q) (by omega) (by omega) (by omega)
        unfold hR at q
        rw [if_pos hz] at q
        exact ⟨z'', q, trivial, rfl⟩
    · refine ⟨fun y5 => y5 = 4, ?_, fun c => absurd c hz, fun _ => rfl⟩
      rintro y5 rfl
      refine sp_gadd0 (tk_kg r43.1 tk) r43.2.1 (cb_grz cb r43 (by omega)) (fun v5 s5 ad5 _ => ?_)
      have r5 := addf 4 True (1 + n, [], []) (dzc_47 ⟨rfl, rfl, by omega, Or.inl ⟨(fn_b4' h2 h3).2, by rw [sp]⟩⟩) ad5
      have p5 := p0_of ad5.2.2.1 p43
      refine ⟨fun s => s = s5, ?_, fun _ => rfl, fun c => absurd c hz⟩
      rintro s rfl
      refine ⟨fun f x s => ∃ i : Nat, i ≤ n ∧ x.toInt = i ∧ f = n - i ∧ GRz σ s (fun z z' => z = z0 ∧ z' = (1 + (n - i), [], [])) (-3 - 2 * n + i) (-4) W ∧ P0 s, ⟨n, 0, Nat.zero_le _, rfl, rfl, grz_wk r5 (fun _ _ q => q) (by omega) (by omega) (by omega), p5⟩, ?_⟩
      rintro f x s6 ⟨i, hi, hx, hf, r6, p6⟩
      have en := ushr24 hx4 (by omega)
      show (_ → Q y0 s6) ∧ _
      have fin : n ≤ i → Q y0 s6 := fun c => k y0 s6 (grz_wk r6 (fun z z' q => by
        unfold hR at q
        rw [if_neg hz] at q
        have : n - i = 0 := by omega
        rw [this]
        exact q) (by omega) (by omega) (by omega)) p6
      refine ⟨fun c => fin (by omega), fun c => ⟨fun c2 => absurd c2 hz, fun _ => ?_⟩⟩
      unfold wk_X8_parameter
      refine sp_gadd0 (tk_kg r6.1 tk) r6.2.1 (cb_grz cb r6 (by omega)) (fun v7 s7 ad7 _ => ⟨n - (i + 1), by omega, i + 1, by omega, by rw [ad1 (by omega)]; omega, rfl, ?_, p0_of ad7.2.2.1 p6⟩)
      refine grz_wk (grz_add (R'' := fun z z' => z = z0 ∧ z' = (1 + (n - (i + 1)), [], [])) (w' := 0) ga r6 ad7 (fun z z'' q => ?_) (by decide) (by decide) (by decide)) (fun _ _ q => q) (by omega) (by omega) (by omega)
      obtain ⟨rfl, rfl⟩ := q
      refine ⟨_, ⟨rfl, rfl⟩, dzc_48 ⟨by decide, n - (i + 1), ?_, ?_⟩⟩
      · have : 1 + (n - i) = n - (i + 1) + 2 := by omega
        rw [this]
      · have : 1 + (n - (i + 1)) = n - (i + 1) + 1 := by omega
        rw [this]
  unfold wk_X3_head
  refine sp_gexpect tk ga (by decide) (fun s3 r3' p3' e3 => ?_)
  have r3 := exp_z (P := fun z => z = z0) r3' e3
  have p3 := p0_of p3' hp
  refine ⟨fun x s => ∃ n : Nat, n ≤ 8 ∧ SGr n x ∧ GRz σ s (rId (fun z => z = z0)) (-2 - 2 * n) (-4) (-1) ∧ P0 s, fun x s h => ?_, fun c => ⟨fun _ => ⟨0, by omega, ⟨by decide, by decide⟩, grz_wk r3 (fun _ _ q => q) (by omega) (by omega) (by omega), p3⟩, fun _ => ?_⟩, fun c => ?_⟩
  · obtain ⟨n, n1, n2, n3, n4⟩ := h
    exact main x s n n1 n2 n3 n4
  · refine sp_gparameters (P := fun _ => True) (tk_kg r3.1 tk) r3.2.1 p3 (fun x s n hn hx r p => ⟨n, hn, hx, ?_, p⟩)
    exact grz_wk (grz_tr (R'' := rId (fun z => z = z0)) ga r3 r (fun z z'' q => ⟨z'', q, trivial, rfl⟩)) (fun _ _ q => q) (by omega) (by omega) (by omega)
  · refine sp_gadv (tk_kg r3.1 tk) r3.2.1 (by omega) (fun s4 a4 => ⟨0, by omega, ⟨by decide, by decide⟩, ?_, p0_of a4.2.2.2.2.1 p3⟩)
    exact grz_wk (grz_tr (R'' := rId (fun z => z = z0)) ga r3 (adv_z (P := fun _ => True) a4) (fun z z'' q => ⟨z'', q, trivial, rfl⟩)) (fun _ _ q => q) (by omega) (by omega) (by omega)
/-- a unit that is read -/
def RDk (s : St) : Prop := (0 ≤ (s 3 4).toInt ∧ (s 3 4).toInt ≤ 32000) ∧ (∃ m, RZ s m 0 (cn s) z0 z0) ∧ (csum s (cn s) 0 : Int) ≤ 4 * (s 2 1).toInt ∧ (nsum s (cn s) 0 : Int) ≤ (s 2 1).toInt
theorem sp_gread {Q : Int32 → St → Prop} (tk : TKc σ) (k0 : ∀ s, KG σ s → Q 0 s) (k1 : ∀ s, KG σ s → RDk s → Q 1 s) : wk_X3_read σ Q := by
  unfold wk_X3_read
  generalize h1 : (upC (upC (upC (upC σ 3 4 (0 : Int32)) 3 9 (0 : Int32)) 3 3 ((-1) : Int32)) 3 1 ((-1) : Int32)) = σ1
  have k1' : KG σ σ1 := by rw [← h1]; exact kp_f (kp_f (kp_f (kp_f kp_rf rfl) rfl) rfl) rfl
  have f4 : (σ1 3 4) = 0 := by rw [← h1]; rfl
  have f9 : (σ1 3 9) = 0 := by rw [← h1]; rfl
  have f3 : (σ1 3 3) = -1 := by rw [← h1]; rfl
  have f1 : (σ1 3 1) = -1 := by rw [← h1]; rfl
  have tk1 := tk_kg k1' tk
  have first : ∀ (Q' : St → Prop), (∀ s, KG σ1 s → GA s → (s 3 4) = 0 → P0 s → (s 3 3).toInt < 0 → Q' s) → wk_X3_advance σ1 Q' := fun Q' kk => by
    unfold wk_X3_advance
    rw [f1]
    have z : ((-1 : Int32) + (1 : Int32)) = 0 := by decide
    rw [z]
    have c0 := tk1.1.1
    refine ⟨fun y => y = 1, ?_, False, fun f => f.elim, fun c => absurd c (by decide), fun _ => ⟨fun c => ?_, fun _ => ⟨fun c => absurd c (by decide), fun _ => rfl⟩⟩⟩
    · rintro y - rfl
      refine ⟨fun c => absurd c (by decide), fun _ => ⟨⟨by decide, by decide⟩, kk _ (kp_f (kp_f kp_rf rfl) rfl) ⟨fun _ => ⟨⟨by show (0 : Int) ≤ 0; omega, by show (0 : Int) < (σ1 2 4).toInt; omega⟩, rfl, by show 0 ≤ (σ1 3 4).toInt; rw [f4]; decide⟩, fun c => ?_⟩ f4 f9 (by show (σ1 3 3).toInt < 0; rw [f3]; decide)⟩⟩
      have : 0 ≤ (σ1 3 3).toInt := c
      rw [f3] at this
      exact absurd this (by decide)
    · have : (0 : Int32).toInt = 0 := rfl
      omega
  refine first _ (fun s2 k2 g2 c2 p2 w2 => ?_)
  have tk2 := tk_kg k2 tk1
  have kk2 : KG σ s2 := kp_tr k1' k2
  have cb2 : CBd s2 70 := fun hw => by
    have := pl_rng tk2 g2 hw
    have : (s2 3 4).toInt = 0 := by rw [c2]; rfl
    omega
  have cn2 : cn s2 = 0 := by unfold cn; rw [c2]; rfl
  refine ⟨fun n y s => n = y.toInt.toNat ∧ GRz s2 s (rId (fun z => z = z0)) 0 0 0 ∧ P0 s, ⟨_, rfl, grz_rf g2, p2⟩, ?_⟩
  rintro n y s ⟨hn, r, p⟩
  have tks := tk_kg r.1 tk2
  have fin : ((0 ≤ (s 3 3).toInt → Q (0 : Int32) s) ∧ ((s 3 3).toInt < 0 → Q (1 : Int32) s)) := by
    refine ⟨fun _ => k0 s (kp_tr kk2 r.1), fun hw => k1 s (kp_tr kk2 r.1) ?_⟩
    obtain ⟨a1, a2, m, a3, a4, a5, a6, a7, a8⟩ := r.2.2 hw
    have q0 := pl_rng tk2 g2 a1
    have qs := (tks.2.1 (ps s) (by
      obtain ⟨⟨x1, x2⟩, -⟩ := r.2.1.1 hw
      have en : (ps s : Int) = (s 3 1).toInt := nt x1
      omega)).1.2
    have e2 : (s2 3 4).toInt = 0 := by rw [c2]; rfl
    have es : cn s = m := by
      have := cn_eq (r.2.1.1 hw).2.2
      omega
    rw [cn2] at a5 a6 a8
    obtain ⟨m2, a9⟩ := a8 z0 z0 ⟨rfl, rfl⟩
    have epl : pl s = ((s 15) (ps s)).toInt := rfl
    refine ⟨by have := tks.1.2.2; omega, ⟨m2, ?_⟩, by rw [es]; omega, by rw [es]; omega⟩
    rw [es]
    have : 0 + m = m := by omega
    rw [this] at a9
    exact a9
  refine ⟨True, fun _ => fin, fun _ => trivial, fun c => ⟨fun _ => trivial, fun _ => ⟨fun _ => trivial, fun _ => ?_⟩⟩⟩
  have cbs := cb_grz (c' := 70) cb2 r (by omega)
  refine ⟨fun y0 => (y0 = 0 ∨ y0 = 1 ∨ y0 = 2) ∧ (y0.toInt ≠ 0 → 2 ≤ (s 3 2).toInt), ?_, fun c7 => ⟨fun _ => ⟨Or.inl rfl, fun e => absurd rfl e⟩, fun c8 => ⟨Or.inr (Or.inr rfl), fun _ => by omega⟩⟩, fun c7 => ⟨Or.inr (Or.inl rfl), fun _ => by omega⟩⟩
  rintro y0 ⟨hy0, hk0⟩
  refine ⟨fun s3 => GRz s2 s3 (rId (fun z => z = z0)) 0 0 0 ∧ P0 s3, ?_, fun _ => ⟨r, p⟩, fun e => sp_gadv tks r.2.1 (hk0 e) (fun s3 a3 => ⟨?_, p0_of a3.2.2.2.2.1 p⟩)⟩
  · rintro s3 ⟨r3, p3⟩
    refine ⟨fun _ => True, fun y1 hy1 _ => ?_, fun _ => trivial, fun _ => trivial⟩
    refine ⟨fun w => 2 ≤ w.toInt, ?_, fun _ => by decide, fun _ => by decide⟩
    intro w hw
    refine sp_gexpect (tk_kg r3.1 tk2) r3.2.1 hw (fun s4 r4' p4' e4 => ?_)
    have r4 := grz_tr (R'' := rId (fun z => z = z0)) g2 r3 (exp_z (P := fun _ => True) r4' e4) (fun z z'' q => ⟨z'', q, trivial, rfl⟩)
    have p4 := p0_of p4' p3
    refine ⟨fun ty s5 => (-1 ≤ ty.toInt ∧ ty.toInt ≤ 5) ∧ (y1.toInt = 0 → 0 ≤ ty.toInt) ∧ GRz s2 s5 (rId (fun z => z = z0)) (-2) (-4) (-1) ∧ P0 s5, ?_, fun _ => sp_gstars (tk_kg r4.1 tk2) r4.2.1 (fun v5 s5 r5' p5' hv5 ec5 => ⟨by omega, fun _ => hv5.1, ?_, p0_of p5' p4⟩), fun c => ⟨by decide, fun e => absurd e c, grz_wk r4 (fun _ _ q => q) (by omega) (by omega) (by omega), p4⟩⟩
    · rintro ty s5 ⟨ht, -, r5, p5⟩
      have tk5 := tk_kg r5.1 tk2
      refine sp_gexpect tk5 r5.2.1 (by decide) (fun s6 r6' p6' e6 => ?_)
      obtain ⟨wd, q0, q1, q2⟩ := exp_n (P := fun _ => True) tk5 r5.2.1 r6' e6
      have r6 := grz_tr (R'' := rId (fun z => z = z0)) g2 r5 q1 (fun z z'' q => ⟨z'', q, trivial, rfl⟩)
      have p6 := p0_of p6' p5
      have tk6 := tk_kg r6.1 tk2
      have vk : ∀ y, VN s6 y = VN s5 y := fun y => vn_same (funext (fun j => (r6' 0 []).1 13 j rfl rfl)) (funext (fun j => (r6' 0 []).1 14 j rfl rfl))
      have nm : (s6 3 3).toInt < 0 → VN s6 (s5 3 1) wd := fun hw => by rw [vk]; exact q2 hw
      refine ⟨fun s7 => GRz s2 s7 (rId (fun z => z = z0)) 0 0 0 ∧ P0 s7, fun s7 h => ⟨_, dn_lt hn c, rfl, h.1, h.2⟩, True, fun _ => ?_, fun _ => trivial, fun _ => ⟨fun _ => trivial, fun _ => ?_⟩⟩
      · refine sp_ghead (W := wd) tk6 r6.2.1 (cb_grz cb2 r6 (by omega)) p6 ht hy0 q0 nm (fun v7 s7 r7' p7 => ⟨fun c7 => ⟨?_, p7⟩, fun c7 => ?_⟩)
        · exact grz_wk (grz_tr (R'' := rId (fun z => z = z0)) g2 r6 r7' (fun z z'' q => ⟨z, ⟨q.1, rfl⟩, by unfold hR; rw [if_pos c7]; exact ⟨q.1, q.2.trans q.1⟩⟩)) (fun _ _ q => q) (by omega) (by omega) (by omega)
        · have r7 := grz_tr (R'' := fun z z' => z = z0 ∧ z' = (1, [], [])) g2 r6 r7' (fun z z'' q => ⟨z, ⟨q.1, rfl⟩, by unfold hR; rw [if_neg c7]; exact q⟩)
          refine spg_stms 1 s7 _ rfl (tk_kg r7.1 tk2) r7.2.1 (cb_grz cb2 r7 (by omega)) p7 (fun s8 r8' p8 => ?_)
          have r8 := grz_tr (R'' := fun z z' => z = z0 ∧ z' = (1, [], [])) g2 r7 r8' (fun z z'' q => ⟨z'', q, ⟨[], q.2, Nat.le_refl _, Or.inl rfl⟩, rfl⟩)
          refine sp_gadd0 (tk_kg r8.1 tk2) r8.2.1 (cb_grz cb2 r8 (by omega)) (fun v9 s9 ad9 _ => ⟨?_, p0_of ad9.2.2.1 p8⟩)
          exact grz_wk (grz_add (R'' := rId (fun z => z = z0)) (w' := 3) g2 r8 ad9 (fun z z'' q => by
            obtain ⟨rfl, rfl⟩ := q
            exact ⟨_, ⟨rfl, rfl⟩, dzc_49 ⟨by decide, rfl, rfl⟩⟩) (by decide) (by decide) (by decide)) (fun _ _ q => q) (by omega) (by omega) (by omega)
      · refine sp_gvariables (F := 0) (m := 0) (W := wd) (by decide) tk6 r6.2.1 (cb_grz cb2 r6 (by omega)) p6 hy0 q0 nm (fun s7 r7 p7 => ⟨?_, p7⟩)
        exact grz_wk (grz_tr (R'' := rId (fun z => z = z0)) g2 r6 r7 (fun z z'' q => ⟨z, ⟨q.1, rfl⟩, ⟨[], q.1, Nat.le_refl _, Or.inl rfl⟩, q.2⟩)) (fun _ _ q => q) (by omega) (by omega) (by omega)
    · exact grz_wk (grz_tr (R'' := rId (fun z => z = z0)) g2 r4 (nil_z (P := fun _ => True) r5' ec5) (fun z z'' q => ⟨z'', q, trivial, rfl⟩)) (fun _ _ q => q) (by omega) (by omega) (by omega)
  · exact grz_wk (grz_tr (R'' := rId (fun z => z = z0)) g2 r (adv_z (P := fun _ => True) a3) (fun z z'' q => ⟨z'', q, trivial, rfl⟩)) (fun _ _ q => q) (by omega) (by omega) (by omega)
end GRD
end

section
/-! what is compiled: stores but for operands, code put and cut -/
def Ko (fs : List (Nat × Nat)) (cs : List Nat) (a b : St) : Prop := ∀ c k, ¬ isOp c → fs.contains (c, k) = false → cs.contains c = false → b c k = a c k
section KOS
variable {a b c : St} {fs fs' : List (Nat × Nat)} {cs cs' : List Nat}
theorem ko_rf : Ko fs cs a a := fun _ _ _ _ _ => rfl
theorem ko_kp (h : Kp fs cs a b) : Ko fs cs a b := fun c k _ h1 h2 => h c k h1 h2
theorem ko_tr (h : Ko fs cs a b) (g : Ko fs cs b c) : Ko fs cs a c := fun x k h0 h1 h2 => (g x k h0 h1 h2).trans (h x k h0 h1 h2)
theorem ko_op {q k : Nat} {v : Int32} (h : Ko fs cs a b) (hq : isOp q) : Ko fs cs a (upC b q k v) := fun c j h0 h1 h2 => by
  rw [rdC_ne (fun e => h0 (by rw [e]; exact hq))]
  exact h c j h0 h1 h2
theorem ko_sub (h : Ko fs cs a b) (s1 : fs.all (fun x => fs'.contains x || cs'.contains x.1) = true) (s2 : cs.all (fun x => cs'.contains x) = true) : Ko fs' cs' a b := fun c j h0 h1 h2 => by
  refine h c j h0 ?_ ?_
  · cases q : fs.contains (c, j) with
    | false => rfl
    | true =>
      have h3 := List.all_eq_true.mp s1 (c, j) (List.contains_iff_mem.mp q)
      simp only [h1, h2, Bool.or_self] at h3
      cases h3
  · cases q : cs.contains c with
    | false => rfl
    | true =>
      have h3 := List.all_eq_true.mp s2 c (List.contains_iff_mem.mp q)
      rw [h2] at h3
      cases h3
end KOS
theorem op_lt {c : Nat} (h : c < 47) : ¬ isOp c := fun q => by unfold isOp at q; omega
theorem op_mid {c : Nat} (h : 47 < c) (h2 : c < 65) : ¬ isOp c := fun q => by unfold isOp at q; omega
theorem ko_rd {fs : List (Nat × Nat)} {cs : List Nat} {a b : St} (h : Ko fs cs a b) (c : Nat) (hc : c < 47 ∨ (47 < c ∧ c < 65)) (h2 : cs.contains c = false) (h3 : ∀ j, fs.contains (c, j) = false) : b c = a c := funext (fun j => h c j (by rcases hc with q | q; exact op_lt q; exact op_mid q.1 q.2) (h3 j) h2)
/-- the operands below the n-th stay -/
def LOW (n : Nat) (a b : St) : Prop := ∀ j k, j < n → b (65 + j) k = a (65 + j) k
theorem low_rf {n : Nat} {a : St} : LOW n a a := fun _ _ _ => rfl
theorem low_tr {n : Nat} {a b c : St} (h : LOW n a b) (g : LOW n b c) : LOW n a c := fun j k hj => (g j k hj).trans (h j k hj)
theorem low_le {n m : Nat} {a b : St} (h : LOW n a b) (hm : m ≤ n) : LOW m a b := fun j k hj => h j k (Nat.lt_of_lt_of_le hj hm)
theorem low_kp {n : Nat} {fs : List (Nat × Nat)} {cs : List Nat} {a b : St} (h : Kp fs cs a b) (h1 : fs.all (fun x => decide (x.1 < 65)) = true) (h2 : cs.all (fun x => decide (x < 65)) = true) : LOW n a b := fun j k _ => h (65 + j) k (by
  cases q : fs.contains (65 + j, k) with
  | false => rfl
  | true =>
    have h3 := List.all_eq_true.mp h1 _ (List.contains_iff_mem.mp q)
    have := of_decide_eq_true h3
    omega) (by
  cases q : cs.contains (65 + j) with
  | false => rfl
  | true =>
    have h3 := List.all_eq_true.mp h2 _ (List.contains_iff_mem.mp q)
    have := of_decide_eq_true h3
    omega)
theorem low_op {n q k : Nat} {v : Int32} {a b : St} (h : LOW n a b) (hq : 65 + n ≤ q) : LOW n a (upC b q k v) := fun j i hj => by
  rw [rdC_ne (by omega)]
  exact h j i hj
def clen (σ : St) : Nat := (σ 4 1).toNatClampNeg
theorem clen_eq {σ : St} (h : 0 ≤ (σ 4 1).toInt) : (clen σ : Int) = (σ 4 1).toInt := nt h
/-- an instruction put -/
def EMi (σ s : St) (op a b c : Int32) : Prop := Kp [(4, 1)] [24] σ s ∧ (s 4 1).toInt = (σ 4 1).toInt + ln op.toInt.toNat ∧ (∀ j, j < clen σ → (s 24) j = (σ 24) j) ∧ (s 24) (clen σ) = op ∧ (s 24) (clen σ + 1) = a ∧ (s 24) (clen σ + 2) = b ∧ (s 24) (clen σ + 3) = c
section EMS
variable {σ s t : St} {op a b c : Int32}
theorem sk_emit {n : Nat} {Q : Int32 → St → Prop} (hn : op.toInt = n) (hn6 : n < 61) (h0 : 0 ≤ (σ 4 1).toInt) (h1 : (σ 4 1).toInt < 262204) (k : ∀ v s, v = (σ 4 1) → EMi σ s op a b c → Q v s) : wk_X0_emit op a b c σ Q := by
  have e1 : ((σ 4 1) + (1 : Int32)).toInt = (σ 4 1).toInt + 1 := ad0 i1 (by omega) (by omega)
  have e2 : ((σ 4 1) + (2 : Int32)).toInt = (σ 4 1).toInt + 2 := ad0 i2 (by omega) (by omega)
  have e3 : ((σ 4 1) + (3 : Int32)).toInt = (σ 4 1).toInt + 3 := ad0 i3 (by omega) (by omega)
  have en := clen_eq h0
  have n1 : ((σ 4 1) + (1 : Int32)).toNatClampNeg = clen σ + 1 := by
    have := nt (x := (σ 4 1) + (1 : Int32)) (by omega)
    omega
  have n2 : ((σ 4 1) + (2 : Int32)).toNatClampNeg = clen σ + 2 := by
    have := nt (x := (σ 4 1) + (2 : Int32)) (by omega)
    omega
  have n3 : ((σ 4 1) + (3 : Int32)).toNatClampNeg = clen σ + 3 := by
    have := nt (x := (σ 4 1) + (3 : Int32)) (by omega)
    omega
  have nop : op.toNatClampNeg = n := by rw [nt', hn]; rfl
  unfold wk_X0_emit
  refine ⟨fun q => by omega, fun _ => ⟨fun q => by omega, fun _ => ⟨⟨h0, by omega⟩, ⟨by omega, by omega⟩, ⟨by omega, by omega⟩, ⟨by omega, by omega⟩, fun q => by omega, fun _ => ⟨fun q => by omega, fun _ => ⟨⟨by omega, by omega⟩, k _ _ rfl ?_⟩⟩⟩⟩⟩
  have eg := gc1 n hn6
  have l4 : ∀ m, m < 61 → ln m ≤ 4 := by decide
  have l5 := l4 n hn6
  rw [nop, n1, n2, n3]
  refine ⟨kp_f (kp_a (kp_a (kp_a (kp_a kp_rf rfl) rfl) rfl) rfl) rfl, ?_, fun j hj => ?_, ?_, ?_, ?_, ?_⟩
  · show ((σ 4 1) + gC 1 n).toInt = _
    rw [ad (by rw [eg]; omega) (by rw [eg]; omega), eg, hn]
    rfl
  · simp only [rdC, Nat.reduceEqDiff, if_true, if_false]
    rw [if_neg (by omega), if_neg (by omega), if_neg (by omega), if_neg (by unfold clen at hj; omega)]
  · simp only [rdC, Nat.reduceEqDiff, if_true, if_false]
    rw [if_neg (by omega), if_neg (by omega), if_neg (by omega)]
    exact if_pos rfl
  · simp only [rdC, Nat.reduceEqDiff, if_true, if_false]
    rw [if_neg (by omega), if_neg (by omega)]
  · simp only [rdC, Nat.reduceEqDiff, if_true, if_false]
    rw [if_neg (by omega)]
  · simp only [rdC, Nat.reduceEqDiff, if_true, if_false]
theorem sk_cut {x : Int32} {Q : St → Prop} (h : x.toInt ≤ (σ 4 1).toInt) (k : ∀ s, Kp [(4, 1)] [] σ s → (s 4 1) = x → Q s) : wk_X0_cut x σ Q := by
  unfold wk_X0_cut
  by_cases c : (σ 4 1) < x
  · have := Int32.lt_iff_toInt_lt.mp c
    omega
  · rw [if_neg c]
    exact k _ (kp_f kp_rf rfl) rfl
end EMS
end

