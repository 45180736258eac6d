/-! the grammar: what stands behind for; sizes; what variables begin with -/
def fR : RZs := fun z z' => ∃ K, z = (1, K, []) ∧ sk 24 K ∧ z' = (1, 8 :: K, [])
def f6 : RZs := fun z z' => ∃ K, z = (1, K, []) ∧ sk 24 K ∧ z' = (1, 6 :: K, [])
def f7 : RZs := fun z z' => ∃ K, z = (1, K, []) ∧ sk 24 K ∧ z' = (1, 7 :: K, [])
theorem nz_s7 {K : List Nat} : nz (7 :: K) = nz K + 1 := by
  unfold nz nzr
  rw [List.filter_cons_of_pos (by decide), List.filter_cons_of_neg (by decide)]
  show _ + 1 + _ = _ + _ + 1
  omega
section GFO
variable {σ s t : St} {R R' R'' : RZs} {u w v : Int} {m : Nat}
/-- an expression that is thrown away -/
theorem sp_gdisc {a : Int32} {σ0 : St} {Q : Int32 → St → Prop} (tk : TKc σ0) (ga : GA σ0) (cb : CBd σ0 70) (r : GRz σ0 σ R u w v) (hu : u ≤ 0) (hp : P0 σ) (hR : ∀ z z', R z z' → ∃ K, z' = (1, K, []) ∧ nz K ≤ 100) (k : ∀ x s, GRz σ0 s R u w v → P0 s → Q x s) : wkG_expression (1 : Int32) σ (fun s17 => wk_X3_add (22 : Int32) a (0 : Int32) (0 : Int32) s17 (fun v26 s26 => Q v26 s26)) := by
  refine sp_gx (tk_kg r.1 tk) r.2.1 (cb_grz cb r (by omega)) hp (fun s2 r2' p2 => ?_)
  have r2 := grz_tr (R'' := fun z z' => ∃ K, z' = (1, K, [iV]) ∧ R z (1, K, [])) ga r r2' (fun z z'' q => by
    obtain ⟨K, rfl, q⟩ := q
    exact ⟨_, q, 1, K, rfl, rfl⟩)
  refine sp_gadd0 (tk_kg r2.1 tk) r2.2.1 (cb_grz cb r2 (by omega)) (fun x s3 ad _ => k x s3 ?_ (p0_of ad.2.2.1 p2))
  refine grz_wk (grz_tr (R'' := R) ga r2 (add_z (R := fun z z' => ∃ K, z = (1, K, [iV]) ∧ z' = (1, K, []) ∧ nz K ≤ 100) (w := 1) (v := 0) ad r2.2.1 (fun _ z z' q => by
    obtain ⟨K, rfl, rfl, q3⟩ := q
    exact dzc_22 ⟨by decide, K, rfl, rfl, q3⟩) (by decide) (by decide) (by omega) (fun c => absurd c (by decide))) (fun z z'' q => by
    obtain ⟨K, rfl, q3⟩ := hR z z'' q
    exact ⟨_, ⟨K, rfl, q⟩, K, rfl, rfl, q3⟩)) (fun _ _ q => q) (by omega) (by omega) (by omega)
theorem sp_gcounted {a : Int32} {Q : St → Prop} (tk : TKc σ) (ga : GA σ) (cb : CBd σ 70) (hp : P0 σ) (k : ∀ s, GRz σ s fR (-5) (-8) 0 → P0 s → Q s) : wk_X3_counted a σ Q := by
  unfold wk_X3_counted
  refine sp_gexpect tk ga (by decide) (fun s3 r3' p3' e3 => ?_)
  have r3 := exp_z (P := fun z => ∃ K, z = (1, K, []) ∧ sk 24 K) r3' e3
  have p3 := p0_of p3' hp
  refine ⟨fun s => GRz σ s (kR 24) (-2) (-4) (-1) ∧ P0 s, ?_, fun _ => ⟨r3, p3⟩, fun _ => sp_gdisc tk ga cb r3 (by omega) p3 (fun z z' q => by obtain ⟨⟨K, e, e2⟩, rfl⟩ := q; exact ⟨K, e, by have := e2.1; omega⟩) (fun x s r p => ⟨r, p⟩)⟩
  rintro s4 ⟨r4, p4⟩
  refine sp_gexpect (tk_kg r4.1 tk) r4.2.1 (by decide) (fun s5 r5' p5' e5 => ?_)
  have r5 := grz_tr (R'' := kR 24) ga r4 (exp_z (P := fun _ => True) r5' e5) (fun z z'' q => ⟨z'', q, trivial, rfl⟩)
  have p5 := p0_of p5' p4
  refine sp_gadd0 (tk_kg r5.1 tk) r5.2.1 (cb_grz cb r5 (by omega)) (fun x s6 ad6 _ => ?_)
  have r6 := grz_tr (R'' := f6) ga r5 (add_z (R := f6) (w := 0) (v := 0) ad6 r5.2.1 (fun _ z z' q => by
    obtain ⟨K, rfl, q, rfl⟩ := q
    exact dzc_32 ⟨by decide, K, rfl, rfl, q⟩) (by decide) (by decide) (by omega) (fun c => absurd c (by decide))) (fun z z'' q => by
    obtain ⟨K, rfl, q, rfl⟩ := q
    exact ⟨_, ⟨⟨K, rfl, q⟩, rfl⟩, K, rfl, q, rfl⟩)
  have p6 := p0_of ad6.2.2.1 p5
  have last : ∀ (y3 : Int32) s9 (R9 : RZs), GRz σ s9 R9 (-3) (-8) 0 → P0 s9 → (∀ z z', f7 z z' → ∃ z1, R9 z z1 ∧ ∃ K, z1 = (1, 6 :: K, if y3.toInt = 0 then [] else [iV]) ∧ z' = (1, 7 :: K, [])) → wk_X3_add (33 : Int32) a y3 (0 : Int32) s9 (fun v84 s84 => wk_X3_expect (27 : Int32) s84 (fun s91 => (∃ J118 : St → Prop, (∀ (s118 : St), J118 s118 → (wk_X3_expect (21 : Int32) s118 (fun s121 => wk_X3_add (34 : Int32) a (0 : Int32) (0 : Int32) s121 (fun v130 s130 => Q s130)))) ∧ ((s91 3 2).toInt = 21 → J118 s91) ∧ ((s91 3 2).toInt ≠ 21 → wkG_expression (1 : Int32) s91 (fun s105 => wk_X3_add (22 : Int32) a (0 : Int32) (0 : Int32) s105 (fun v114 s114 => J118 s114)))))) := fun y3 s9 R9 r9 p9 h9 => by
    refine sp_gadd0 (tk_kg r9.1 tk) r9.2.1 (cb_grz cb r9 (by omega)) (fun x s10 ad _ => ?_)
    have r10 := grz_tr (R'' := f7) ga r9 (add_z (R := fun z z' => ∃ K, z = (1, 6 :: K, if y3.toInt = 0 then [] else [iV]) ∧ z' = (1, 7 :: K, [])) (w := 4) (v := 0) ad r9.2.1 (fun _ z z' q => dzc_33 ⟨by decide, q⟩) (by decide) (by decide) (by omega) (fun c => absurd c (by decide))) h9
    have p10 := p0_of ad.2.2.1 p9
    refine sp_gexpect (tk_kg r10.1 tk) r10.2.1 (by decide) (fun s11 r11' p11' e11 => ?_)
    have r11 := grz_tr (R'' := f7) ga r10 (exp_z (P := fun _ => True) r11' e11) (fun z z'' q => ⟨z'', q, trivial, rfl⟩)
    have p11 := p0_of p11' p10
    refine ⟨fun s => GRz σ s f7 (-4) (-8) 0 ∧ P0 s, ?_, fun _ => ⟨grz_wk r11 (fun _ _ q => q) (by omega) (by omega) (by omega), p11⟩, fun _ => sp_gdisc tk ga cb r11 (by omega) p11 (fun z z' q => by obtain ⟨K, e, e2, rfl⟩ := q; exact ⟨_, rfl, by rw [nz_s7]; have := e2.1; omega⟩) (fun x s r p => ⟨grz_wk r (fun _ _ q => q) (by omega) (by omega) (by omega), p⟩)⟩
    rintro s12 ⟨r12, p12⟩
    refine sp_gexpect (tk_kg r12.1 tk) r12.2.1 (by decide) (fun s13 r13' p13' e13 => ?_)
    have r13 := grz_tr (R'' := f7) ga r12 (exp_z (P := fun _ => True) r13' e13) (fun z z'' q => ⟨z'', q, trivial, rfl⟩)
    have p13 := p0_of p13' p12
    refine sp_gadd0 (tk_kg r13.1 tk) r13.2.1 (cb_grz cb r13 (by omega)) (fun x s14 ad14 _ => k s14 ?_ (p0_of ad14.2.2.1 p13))
    refine grz_wk (grz_tr (R'' := fR) ga r13 (add_z (R := fun z z' => ∃ K, z = (1, 7 :: K, []) ∧ z' = (1, 8 :: K, [])) (w := 4) (v := 0) ad14 r13.2.1 (fun _ z z' q => dzc_34 ⟨by decide, q⟩) (by decide) (by decide) (by omega) (fun c => absurd c (by decide))) (fun z z'' q => ?_)) (fun _ _ q => q) (by omega) (by omega) (by omega)
    obtain ⟨K, rfl, q, rfl⟩ := q
    exact ⟨_, ⟨K, rfl, q, rfl⟩, K, rfl, rfl⟩
  refine ⟨fun _ => True, fun y hy _ => ?_, fun _ => trivial, fun _ => trivial⟩
  by_cases hz : y.toInt = 0
  · refine ⟨fun s => s = s6, ?_, fun _ => rfl, fun c => absurd hz c⟩
    rintro s rfl
    refine ⟨fun y3 => y3 = 0, ?_, fun _ => rfl, fun c => absurd hz c⟩
    rintro y3 - rfl
    refine last 0 s _ (grz_wk r6 (fun _ _ q => q) (by omega) (by omega) (by omega)) p6 (fun z z' q => ?_)
    obtain ⟨K, rfl, q2, rfl⟩ := q
    exact ⟨_, ⟨K, rfl, q2, rfl⟩, K, rfl, rfl⟩
  · refine ⟨fun s => GRz σ s (fun z z' => ∃ K, z = (1, K, []) ∧ sk 24 K ∧ z' = (1, 6 :: K, [iV])) (-3) (-8) 0 ∧ P0 s, ?_, fun c => absurd c hz, fun _ => sp_gx (tk_kg r6.1 tk) r6.2.1 (cb_grz cb r6 (by omega)) p6 (fun s7 r7 p7 => ⟨?_, p7⟩)⟩
    · rintro s ⟨r9, p9⟩
      refine ⟨fun y3 => y3 = 1, ?_, fun c => absurd c hz, fun _ => rfl⟩
      rintro y3 - rfl
      refine last 1 s _ r9 p9 (fun z z' q => ?_)
      obtain ⟨K, rfl, q2, rfl⟩ := q
      exact ⟨_, ⟨K, rfl, q2, rfl⟩, K, rfl, rfl⟩
    · exact grz_wk (grz_tr (R'' := fun z z' => ∃ K, z = (1, K, []) ∧ sk 24 K ∧ z' = (1, 6 :: K, [iV])) ga r6 r7 (fun z z'' q => by
        obtain ⟨K, rfl, q2, rfl⟩ := q
        exact ⟨_, ⟨K, rfl, q2, rfl⟩, 1, _, rfl, rfl⟩)) (fun _ _ q => q) (by omega) (by omega) (by omega)
/-- a place for a variable: between entities, or among statements, outside of initials -/
def vP (F m : Nat) : Zs → Prop := fun z => ∃ K, z = (F, K, []) ∧ sk m K
def vR (F m : Nat) : RZs := rId (vP F m)
/-- a bracket: its step, if any -/
theorem sp_gbracket {Q : Int32 → St → Prop} {F : Nat} (tk : TKc σ) (ga : GA σ) (cb : CBd σ 70) (hp : P0 σ) (hk : (σ 3 2).toInt = 24) (k : ∀ (x : Int32) s, GRz σ s (vR F m) (-1) (-5) (-1) → P0 s → ((s 3 3).toInt < 0 → ∃ j : Nat, x.toInt = j ∧ act s j = 42 ∧ (j : Int) < (s 3 4).toInt ∧ (σ 3 4).toInt ≤ j) → Q x s) : wk_X3_bracket σ Q := by
  have fin : ∀ (y3 : Int32) s, GRz σ s (vR F m) 0 (-3) (-1) → P0 s → wk_X3_expect (25 : Int32) s (fun s63 => (∃ J79 : Int32 → Prop, (∀ (y3_79 : Int32), y3_79 = 0 ∨ y3_79 = 1 → J79 y3_79 → (wk_X3_add (42 : Int32) (σ 3 1) y3_79 (0 : Int32) s63 (fun v80 s80 => Q v80 s80))) ∧ (y3.toInt = 0 → J79 (0 : Int32)) ∧ (y3.toInt ≠ 0 → J79 (1 : Int32)))) := fun y3 s r p => by
    refine sp_gexpect (tk_kg r.1 tk) r.2.1 (by decide) (fun s5 r5' p5' e5 => ?_)
    have r5 := grz_tr (R'' := vR F m) ga r (exp_z (P := fun _ => True) r5' e5) (fun z z'' q => ⟨z'', q, trivial, rfl⟩)
    refine ⟨fun _ => True, fun y _ _ => ?_, fun _ => trivial, fun _ => trivial⟩
    refine sp_gadd0 (tk_kg r5.1 tk) r5.2.1 (cb_grz cb r5 (by omega)) (fun x s6 ad hx => k x s6 ?_ (p0_of ad.2.2.1 (p0_of p5' p)) (fun hw => ?_))
    · exact grz_wk (grz_tr (R'' := vR F m) ga r5 (add_z (R := vR F m) (w := 0) (v := 0) ad r5.2.1 (fun _ z z' q => by
        obtain ⟨⟨K, rfl, -⟩, rfl⟩ := q
        exact dzc_42 ⟨by decide, F, K, rfl, rfl⟩) (by decide) (by decide) (by omega) (fun c => absurd c (by decide))) (fun z z'' q => ⟨z, ⟨q.1, rfl⟩, q⟩)) (fun _ _ q => q) (by omega) (by omega) (by omega)
    · have hw5 : (s5 3 3).toInt < 0 := by rw [← ad.2.2.2.1]; exact hw
      obtain ⟨c1, c2, -⟩ := ad.2.2.2.2.2.2 hw5
      obtain ⟨a1, a2, n, a3, -⟩ := r5.2.2 hw5
      have e := cn_eq (r5.2.1.1 hw5).2.2
      exact ⟨cn s5, by rw [hx hw5]; omega, c2, by omega, by have := (ga.1 a1).2.2; omega⟩
  unfold wk_X3_bracket
  refine sp_gadv tk ga (by omega) (fun s6 a6 => ?_)
  have r6 := adv_z (P := vP F m) a6
  have p6 := p0_of a6.2.2.2.2.1 hp
  refine ⟨fun _ => True, fun y hy _ => ?_, fun _ => trivial, fun _ => trivial⟩
  refine ⟨fun s => GRz σ s (vR F m) 0 (-3) (-1) ∧ P0 s, fun s h => fin y s h.1 h.2, fun _ => ⟨grz_wk r6 (fun _ _ q => q) (by omega) (by omega) (by omega), p6⟩, fun _ => ?_⟩
  refine sp_gadd0 (tk_kg r6.1 tk) r6.2.1 (cb_grz cb r6 (by omega)) (fun x7 s7 ad7 hx7 => ?_)
  have h0 : (s7 3 9).toInt = 0 := by rw [ad7.2.2.1.1, p6]; rfl
  have tk7 := tk_kg ad7.1 (tk_kg r6.1 tk)
  have cb7 : CBd s7 70 := fun hw => by
    have hw6 : (s6 3 3).toInt < 0 := by rw [← ad7.2.2.2.1]; exact hw
    have b := cb_grz (c' := 68) cb r6 (by omega) hw6
    have e := add_pl ad7
    have c1 := (ad7.2.2.2.2.2.2 hw6).1
    omega
  refine spg_expr 1 s7 _ rfl tk7 ad7.2.1 cb7 ⟨by omega, by omega⟩ (fun s8 r8 p8 => ?_)
  have tk8 := tk_kg r8.1 tk7
  refine sp_gadd0 tk8 r8.2.1 (cb_grx cb7 r8 (by omega)) (fun x9 s9 ad9 hx9 => ⟨?_, by show (s9 3 9) = 0; rw [ad9.2.2.1.1, p8.1]; exact p0_of ad7.2.2.1 p6⟩)
  refine ⟨kp_F (kp_tr r6.1 (kp_tr ad7.1 (kp_tr r8.1 ad9.1))) rfl, ad9.2.1, fun hw => ?_⟩
  have hw9 : (s9 3 3).toInt < 0 := hw
  have hw8 : (s8 3 3).toInt < 0 := by rw [← ad9.2.2.2.1]; exact hw9
  obtain ⟨b1, b2, n, b3, b4, b5, b6, b7⟩ := r8.2.2 hw8
  have hw6 : (s6 3 3).toInt < 0 := by rw [← ad7.2.2.2.1]; exact b1
  obtain ⟨a1, a2, a0, a3, a4, a5, a9, a7, a8⟩ := r6.2.2 hw6
  have a0' : a0 = 0 := by
    have := a6.2.2.1
    rw [this] at a3
    omega
  subst a0'
  obtain ⟨c1, c2, c3, c4, c5, c6⟩ := ad7.2.2.2.2.2.2 hw6
  obtain ⟨d1, d2, d3, d4, d5, d6⟩ := ad9.2.2.2.2.2.2 hw8
  have g0 := (ga.1 a1).2.2
  have e0 := cn_eq g0
  have e6 : cn s6 = cn σ := by unfold cn; rw [a6.2.2.1]
  have e7 : (cn s7 : Int) = (s7 3 4).toInt := cn_eq (by omega)
  have e8 : (cn s8 : Int) = (s8 3 4).toInt := cn_eq (by omega)
  have q7 := add_pl ad7
  have q9 := add_pl ad9
  have h89 : (s9 3 4).toInt < 32200 := by
    have := pl_rng (tk_kg ad9.1 tk8) ad9.2.1 hw9
    have := cb_grx cb7 r8 (c' := 70) (by omega) hw8
    omega
  have ex7 : x7.toInt = cn σ := by rw [hx7 hw6, a6.2.2.1]; omega
  have ex9 : x9.toInt = cn s8 := by rw [hx9 hw8]; omega
  have hf : setv 32100 (s9 20) x7 x9 = fun j => if j = cn σ then x9 else (s9 20) j := by
    refine setv_at ex7 ?_
    have := pl_rng (tk_kg r6.1 tk) r6.2.1 hw6
    have := cb_grz (c' := 68) cb r6 (by omega) hw6
    omega
  generalize hF : (upF s9 20 (setv 32100 (s9 20) x7 x9)) = z
  have z20 : ∀ j, (z 20) j = if j = cn σ then x9 else (s9 20) j := fun j => by rw [← hF]; exact congrFun hf j
  have z18 : ∀ j, SameAt s9 z j := fun j => by rw [← hF]; exact ⟨rfl, rfl⟩
  have z21 : (z 21) = (s9 21) := by rw [← hF]; rfl
  have z13 : (z 13) = (s9 13) := by rw [← hF]; rfl
  have z14 : (z 14) = (s9 14) := by rw [← hF]; rfl
  have zpl : pl z = pl s9 := by rw [← hF]; rfl
  have zc : (z 3 4) = (s9 3 4) := by rw [← hF]; rfl
  have s8z : ∀ j : Nat, (j : Int) < (s8 3 4).toInt → SameAt s8 z j := fun j hj => by
    have x := (d6 j (by omega)).1
    exact ⟨(z18 j).1.trans x.1, (z18 j).2.trans x.2⟩
  have k13 : (z 13) = (s8 13) := z13.trans (funext (fun j => ad9.1 13 j rfl rfl))
  have k14 : (z 14) = (s8 14) := z14.trans (funext (fun j => ad9.1 14 j rfl rfl))
  have s7z : ∀ j : Nat, (j : Int) < (s7 3 4).toInt → SameAt s7 z j := fun j hj => by
    have x := (b2 j hj).1
    have y := s8z j (by omega)
    exact ⟨y.1.trans x.1, y.2.trans x.2⟩
  have ac0 : act z (cn σ) = 40 := by
    rw [act_same (s7z _ (by omega)), ← e6, c2]
    rfl
  have ac9 : act z (cn s8) = 41 := by
    rw [act_same (z18 _), d2]
    rfl
  have x8 := b7 [] (Nat.zero_le _)
  rw [List.append_nil, List.append_nil] at x8
  have e71 : cn s7 = cn σ + 1 := by omega
  have e81 : cn s8 = cn σ + 1 + n := by omega
  have sm8 : ∀ j, cn s7 ≤ j → j < cn s7 + n → SameAt s8 z j := fun j h1 h2 => s8z j (by omega)
  have c40 : cst z (cn σ) = 0 := by
    unfold cst
    rw [ac0, if_neg (by decide)]
    rfl
  have c41 : cst z (cn s8) = 0 := by
    unfold cst
    rw [ac9, if_neg (by decide)]
    rfl
  have n40 : nst z (cn σ) = 0 := by
    unfold nst
    rw [ac0, if_neg (by decide)]
  have n41 : nst z (cn s8) = 0 := by
    unfold nst
    rw [ac9, if_neg (by decide)]
  have en : n + 2 = 1 + (n + 1) := by omega
  have cs : csum z (n + 2) (cn σ) = csum s8 n (cn s7) := by
    rw [en, csum_app, csum_app]
    have t1 : csum z 1 (cn σ) = 0 := by show cst z (cn σ) + 0 = 0; omega
    have t2 : csum z 1 (cn σ + 1 + n) = 0 := by rw [← e81]; show cst z (cn s8) + 0 = 0; omega
    rw [t1, t2, ← e71, csum_same k14 n _ sm8]
    omega
  have ns : nsum z (n + 2) (cn σ) = 0 := by
    rw [en, nsum_app, nsum_app]
    have t1 : nsum z 1 (cn σ) = 0 := by show nst z (cn σ) + 0 = 0; omega
    have t2 : nsum z 1 (cn σ + 1 + n) = 0 := by rw [← e81]; show nst z (cn s8) + 0 = 0; omega
    rw [t1, t2, ← e71, nsum_same k14 n _ sm8, nsum_xr n _ _ _ x8]
  refine ⟨a1, fun j hj => ?_, n + 2, by rw [zc]; omega, by rw [zpl]; omega, by rw [cs, zpl]; omega, by rw [ns, zpl]; show (0 : Int) ≤ _; omega, by rw [zpl]; omega, fun w1 w2 q => ?_⟩
  · have x1 := a2 j hj
    have x2 := c6 j (by omega)
    have x3 := b2 j (by omega)
    have x4 := d6 j (by omega)
    refine ⟨⟨(z18 j).1.trans (x4.1.1.trans (x3.1.1.trans (x2.1.1.trans x1.1.1))), (z18 j).2.trans (x4.1.2.trans (x3.1.2.trans (x2.1.2.trans x1.1.2)))⟩, ?_, fun c => ?_⟩
    · rw [z20, if_neg (by omega), x4.2.1, x3.2.1, x2.2.1]
      exact x1.2.1
    · rw [z21, x4.2.2, x3.2.2, x2.2.2]
      exact x1.2.2 c
  · obtain ⟨⟨K, rfl, -⟩, rfl⟩ := q
    refine ⟨1, cn σ + (n + 2), _, Or.inr (Or.inr ⟨ac0, by omega, ?_, ?_, ?_, F, K, rfl, rfl⟩), Nat.le_refl _, rfl, rfl⟩
    · rw [z20, if_pos rfl, ex9, e81]
      omega
    · have : cn σ + (n + 2) - 1 = cn s8 := by omega
      rw [this]
      exact ac9
    · have t1 : cn σ + (n + 2) - 1 - (cn σ + 1) = n := by omega
      rw [t1, ← e71]
      exact xr_same k13 n _ _ _ sm8 x8
end GFO
