/-! the grammar: initials and variables -/
def i9 (F m : Nat) : Zs → Prop := fun z => ∃ K, z = (F, 9 :: K, []) ∧ sk m K
def iR (F m : Nat) : RZs := fun z z' => ∃ K, z = (F, 9 :: K, []) ∧ sk m K ∧ z' = (F, K, [])
def cR (F m c : Nat) : RZs := fun z z' => ∃ K, z = (F, 9 :: K, []) ∧ sk m K ∧ z' = (F, c :: K, [])
section GVA
variable {σ s t : St} {R R' R'' : RZs} {u w v : Int} {m F : Nat}
/-- a string that fills: its step and its token -/
theorem fill_z {a2 : Int32} (tk : TKc σ) (ga : GA σ) (hk : (σ 3 2).toInt = 4) (ha : a2 = (σ 3 1)) (ad : ADD σ s 45 a2 0 0) (av : ADV s t) : GRz σ t (cR F m 11) (-1) (-4) 0 := by
  have r := adv_g (l := 0) (a := []) av
  refine ⟨kp_tr ad.1 r.1, r.2.1, fun hw => ?_⟩
  have more := (adv_more (tk_kg ad.1 tk) ad.2.1 av).2 (by rw [ad.2.2.2.2.2.1]; exact hk)
  have ep := add_pl ad
  obtain ⟨h1, h2, h3, h4, h5, h6, h7⟩ := ad
  obtain ⟨b1, b2, n0, b3, b4, b5, b6, b7⟩ := r.2.2 hw
  have hw' : (σ 3 3).toInt < 0 := by rw [← h4]; exact b1
  have n00 : n0 = 0 := by
    have := av.2.2.1
    rw [this] at b3
    omega
  subst n00
  obtain ⟨c1, c2, c3, c4, c5, c6⟩ := h7 hw'
  have p4 := (ga.1 hw').2.2
  have ec := cn_eq p4
  have e14 : (t 14) = (s 14) := funext (fun j => r.1 14 j rfl rfl)
  have es14 : (s 14) = (σ 14) := funext (fun j => h1 14 j rfl rfl)
  have st := b2 (cn σ) (by omega)
  have ev : vlx s (s 3 1) = vlx σ a2 := by
    unfold vlx
    rw [h5, es14, ha]
  rw [ev] at more
  have at1 : act t (cn σ) = 45 := by rw [act_same st.1, c2]; rfl
  refine ⟨hw', fun j hj => ?_, 1, by omega, by omega, ?_, ?_, by omega, fun z z' q => ⟨1, cn σ + 1, z', Or.inr (Or.inl ⟨rfl, ?_, fun c => by rw [at1] at c; exact absurd c (by decide)⟩), Nat.le_refl _, rfl, rfl⟩⟩
  · obtain ⟨x1, x2, x3⟩ := c6 j (by omega)
    obtain ⟨y1, y2, y3⟩ := b2 j (by omega)
    exact ⟨⟨y1.1.trans x1.1, y1.2.trans x1.2⟩, y2.trans x2, fun _ => y3.trans x3⟩
  · show ((cst t (cn σ) + 0 : Nat) : Int) ≤ _
    unfold cst
    rw [at1, if_pos rfl, st.1.2, c3]
    have : vlx t a2 = vlx σ a2 := by unfold vlx; rw [e14, es14]
    rw [this]
    have z45 : ([0, 2, 3, 2, 0, 0, 3, 2, 2, 2, 3, 2, 0, 2, 2, 2, 0, 0, 0, 0, 0, 0, 1, 2, 2, 0, 0, 4, 2, 2, 0, 2, 0, 4, 4, 2, 2, 2, 3, 0, 0, 0, 0, 5, 3, 0, 3, 4, 0, 3] : List Nat).getD (45 : Int).toNat 0 = 0 := rfl
    rw [z45]
    omega
  · show ((nst t (cn σ) + 0 : Nat) : Int) ≤ _
    unfold nst
    rw [at1, if_neg (by decide)]
    show (0 : Int) ≤ _
    omega
  · rw [at1]
    obtain ⟨K, rfl, -, rfl⟩ := q
    exact dzc_45 ⟨rfl, F, K, rfl, rfl⟩
theorem sp_ginitial {a1 a2 : Int32} {Q : St → Prop} (tk : TKc σ) (ga : GA σ) (cb : CBd σ 71) (hp : P0 σ) (hk : 2 ≤ (σ 3 2).toInt) (ha : (σ 3 3).toInt < 0 → a1.toInt < 0 ∨ ∃ j : Nat, a1.toInt = j ∧ act σ j = 42 ∧ (j : Int) < (σ 3 4).toInt) (k : ∀ s, GRz σ s (iR F m) (-1) (-1) (-1) → P0 s → Q s) : wk_X3_initial a1 a2 σ Q := by
  unfold wk_X3_initial
  refine sp_gadv tk ga hk (fun s6 a6 => ?_)
  have r6 := adv_z (P := i9 F m) a6
  have p6 := p0_of a6.2.2.2.2.1 hp
  -- where the bracket's step stands it stays
  have br : ∀ s {R : RZs} {u w v : Int}, GRz σ s R u w v → (s 3 3).toInt < 0 → a1.toInt < 0 ∨ ∃ j : Nat, a1.toInt = j ∧ act s j = 42 := fun s R u w v r hw => by
    obtain ⟨x1, x2, -⟩ := r.2.2 hw
    rcases ha x1 with q | ⟨j, q1, q2, q3⟩
    · exact Or.inl q
    · exact Or.inr ⟨j, q1, by rw [act_same (x2 j q3).1]; exact q2⟩
  have endi : ∀ (f : Int32) (s : St) (R : RZs) (x y z : Int), GRz σ s R x y z → x ≤ 0 → P0 s → f.toInt ≠ 45 → (∀ z z', iR F m z z' → ∃ z1, R z z1 ∧ dz 46 f 0 z1 z') → wk_X3_add (46 : Int32) (σ 3 1) f (0 : Int32) s (fun v236 s236 => GRz σ s236 (iR F m) (x + 1) (y + 3) (z + 0) ∧ P0 s236) := fun f s R x y z r hx p _ hd => by
    refine sp_gadd0 (tk_kg r.1 tk) r.2.1 (cb_grz cb r (by omega)) (fun v2 s2 ad _ => ⟨?_, p0_of ad.2.2.1 p⟩)
    exact grz_tr (R'' := iR F m) ga r (add_z (R := fun z1 z' => dz 46 f 0 z1 z') (w := 3) (v := 0) ad r.2.1 (fun _ z z' q => q) (by decide) (by decide) (by omega) (fun c => absurd c (by decide))) hd
  refine ⟨fun y => y.toInt ≠ 0 → (s6 3 2).toInt = 4, ?_, (s6 3 2).toInt ≠ 4 ∨ True, fun _ c => absurd rfl c, fun _ => Or.inr trivial, fun _ => ⟨fun c => Or.inl c, fun c => ⟨True, fun _ _ => c, fun _ => trivial, fun _ => ⟨fun _ => Or.inr trivial, fun _ => trivial⟩⟩⟩⟩
  intro y hy hf
  refine ⟨fun s => GRz σ s (rId (i9 F m)) (-2) (-4) (-1) ∧ P0 s ∧ (s 3 2) = (s6 3 2), ?_, fun _ => ⟨r6, p6, rfl⟩, fun _ => ⟨grz_42 r6 rfl (br s6 r6), p6, rfl⟩⟩
  rintro s ⟨r, p, ek⟩
  have tks := tk_kg r.1 tk
  refine ⟨fun n22 => ⟨True, fun _ => ?_, fun _ => trivial, fun c => ⟨fun _ => trivial, fun c2 => ?_⟩⟩, fun c22 => ?_⟩
  · refine sp_gx tks r.2.1 (cb_grz cb r (by omega)) p (fun s2 r2' p2 => ?_)
    have r2 := grz_tr (R'' := fun z z' => ∃ K, z = (F, 9 :: K, []) ∧ sk m K ∧ z' = (F, 9 :: K, [iV])) ga r r2' (fun z z'' q => by
      obtain ⟨K, rfl, q, rfl⟩ := q
      exact ⟨_, ⟨⟨K, rfl, q⟩, rfl⟩, F, _, rfl, rfl⟩)
    refine sp_gadd0 (tk_kg r2.1 tk) r2.2.1 (cb_grz cb r2 (by omega)) (fun v3 s3 ad _ => k s3 ?_ (p0_of ad.2.2.1 p2))
    exact grz_wk (grz_tr (R'' := iR F m) ga r2 (add_z (R := fun z1 z' => dz 46 0 0 z1 z') (w := 3) (v := 0) ad r2.2.1 (fun _ z z' q => q) (by decide) (by decide) (by omega) (fun c => absurd c (by decide))) (fun z z'' q => by
      obtain ⟨K, rfl, q, rfl⟩ := q
      exact ⟨_, ⟨K, rfl, q, rfl⟩, dzc_46 ⟨rfl, F, K, rfl, Or.inl ⟨rfl, rfl⟩⟩⟩)) (fun _ _ q => q) (by omega) (by omega) (by omega)
  · have k4 : (s 3 2).toInt = 4 := by rw [ek]; exact hf c
    refine sp_gadd0 tks r.2.1 (cb_grz cb r (by omega)) (fun v2 s2 ad _ => ?_)
    refine sp_gadv (tk_kg ad.1 tks) ad.2.1 (by rw [ad.2.2.2.2.2.1, k4]; decide) (fun s3 a3 => ?_)
    have r3 := grz_tr (R'' := cR F m 11) ga r (fill_z (F := F) (m := m) tks r.2.1 k4 rfl ad a3) (fun z z'' q => by
      obtain ⟨K, rfl, q, rfl⟩ := q
      exact ⟨_, ⟨⟨K, rfl, q⟩, rfl⟩, K, rfl, q, rfl⟩)
    refine sp_gadd0 (tk_kg r3.1 tk) r3.2.1 (cb_grz cb r3 (by omega)) (fun v4 s4 ad4 _ => k s4 ?_ (p0_of ad4.2.2.1 (p0_of a3.2.2.2.2.1 (p0_of ad.2.2.1 p))))
    exact grz_wk (grz_tr (R'' := iR F m) ga r3 (add_z (R := fun z1 z' => dz 46 2 0 z1 z') (w := 3) (v := 0) ad4 r3.2.1 (fun _ z z' q => q) (by decide) (by decide) (by omega) (fun c => absurd c (by decide))) (fun z z'' q => by
      obtain ⟨K, rfl, q, rfl⟩ := q
      exact ⟨_, ⟨K, rfl, q, rfl⟩, dzc_46 ⟨rfl, F, K, rfl, Or.inr (Or.inr ⟨rfl, rfl⟩)⟩⟩)) (fun _ _ q => q) (by omega) (by omega) (by omega)
  · refine sp_gadv tks r.2.1 (by rw [c22]; decide) (fun s2 a2 => ?_)
    have r2 := grz_tr (R'' := cR F m 9) ga r (adv_z (P := fun _ => True) a2) (fun z z'' q => by
      obtain ⟨K, rfl, q, rfl⟩ := q
      exact ⟨_, ⟨⟨K, rfl, q⟩, rfl⟩, trivial, rfl⟩)
    have p2 := p0_of a2.2.2.2.2.1 p
    refine ⟨fun n x y s => (n : Int) = (σ 2 4).toInt - x.toInt ∧ (∃ c : Nat, (c = 9 ∨ c = 10) ∧ GRz σ s (cR F m c) (-4) (if y.toInt = 0 then -6 else -8) (-1)) ∧ P0 s, ⟨(σ 2 4).toInt.toNat, by have := tk.1.1; show (((σ 2 4).toInt.toNat : Nat) : Int) = (σ 2 4).toInt - 0; omega, ⟨9, Or.inl rfl, grz_wk r2 (fun _ _ q => q) (by omega) (by show _ ≤ (-8 : Int); omega) (by omega)⟩, p2⟩, ?_⟩
    rintro n x z s3 hz ⟨hn, ⟨c, hc, r3⟩, p3⟩
    have tk3 := tk_kg r3.1 tk
    have e4 : (s3 2 4) = (σ 2 4) := r3.1 2 4 rfl rfl
    refine ⟨True, fun _ => ?_, fun _ => trivial, fun c1 => ⟨fun _ => trivial, fun c2 => ?_⟩⟩
    · have r3' := grz_wk (u' := -4) (w' := -6) (v' := -1) r3 (fun _ _ q => q) (by omega) (by split <;> omega) (by omega)
      refine sp_gexpect tk3 r3.2.1 (by decide) (fun s4 r4' p4' e4 => ?_)
      have r4 := grz_tr (R'' := cR F m c) ga r3' (exp_z (P := fun _ => True) r4' e4) (fun z z'' q => ⟨z'', q, trivial, rfl⟩)
      have r5 := grz_42 (y := x) r4 rfl (br s4 r4)
      have p5 : P0 (upF s4 21 (setv 32100 (s4 21) a1 x)) := p0_of p4' p3
      refine sp_gadd0 (tk_kg r5.1 tk) r5.2.1 (cb_grz cb r5 (by omega)) (fun v6 s6 ad _ => k s6 ?_ (p0_of ad.2.2.1 p5))
      exact grz_wk (grz_tr (R'' := iR F m) ga r5 (add_z (R := fun z1 z' => dz 46 1 0 z1 z') (w := 3) (v := 0) ad r5.2.1 (fun _ z z' q => q) (by decide) (by decide) (by omega) (fun c => absurd c (by decide))) (fun z z'' q => by
        obtain ⟨K, rfl, q, rfl⟩ := q
        refine ⟨_, ⟨K, rfl, q, rfl⟩, dzc_46 ⟨rfl, F, K, rfl, Or.inr (Or.inl ⟨rfl, ?_⟩)⟩⟩
        rcases hc with e | e <;> subst e
        · exact Or.inl rfl
        · exact Or.inr rfl)) (fun _ _ q => q) (by omega) (by omega) (by omega)
    · rw [e4] at c1
      rw [if_neg c2] at r3
      refine sp_gx tk3 r3.2.1 (cb_grz cb r3 (by omega)) p3 (fun s4 r4' p4 => ?_)
      have r4 := grz_tr (R'' := fun z z' => ∃ K, z = (F, 9 :: K, []) ∧ sk m K ∧ z' = (F, c :: K, [iV])) ga r3 r4' (fun z z'' q => by
        obtain ⟨K, rfl, q, rfl⟩ := q
        exact ⟨_, ⟨K, rfl, q, rfl⟩, F, _, rfl, rfl⟩)
      refine sp_gadd0 (tk_kg r4.1 tk) r4.2.1 (cb_grz cb r4 (by omega)) (fun v5 s5 ad5 _ => ?_)
      have r5 := grz_tr (R'' := cR F m 10) ga r4 (add_z (R := fun z1 z' => dz 44 0 0 z1 z') (w := 3) (v := 0) ad5 r4.2.1 (fun _ z z' q => q) (by decide) (by decide) (by omega) (fun c => absurd c (by decide))) (fun z z'' q => by
        obtain ⟨K, rfl, q, rfl⟩ := q
        exact ⟨_, ⟨K, rfl, q, rfl⟩, dzc_44 ⟨rfl, F, K, c, hc, rfl, rfl⟩⟩)
      have p5 := p0_of ad5.2.2.1 p4
      have ex := up_lt c1
      have hn1 : (((n - 1 : Nat) : Nat) : Int) = (σ 2 4).toInt - (x + 1).toInt := by rw [ex]; omega
      refine sp_gaccept (tk_kg r5.1 tk) r5.2.1 (by decide) (fun _ => ⟨n - 1, by omega, hn1, ⟨10, Or.inr rfl, grz_wk r5 (fun _ _ q => q) (by omega) (by show _ ≤ (-6 : Int); omega) (by omega)⟩, p5⟩) (fun s6 a6 _ => ⟨n - 1, by omega, hn1, ⟨10, Or.inr rfl, ?_⟩, p0_of a6.2.2.2.2.1 p5⟩)
      exact grz_wk (grz_tr (R'' := cR F m 10) ga r5 (adv_z (P := fun _ => True) a6) (fun z z'' q => ⟨z'', q, trivial, rfl⟩)) (fun _ _ q => q) (by omega) (by show _ ≤ (-8 : Int); omega) (by omega)
/-- a name -/
theorem exp_n {P : Zs → Prop} (tk : TKc σ) (ga : GA σ) (r : ∀ l a, GRx σ s l a a (-2) (-4)) (h : (s 3 3).toInt < 0 → ADV σ s ∧ (σ 3 2).toInt = (2 : Int32).toInt) : ∃ wd : Int, 0 ≤ wd ∧ GRz σ s (rId P) (-2) (-4) (-wd) ∧ ((s 3 3).toInt < 0 → VN σ (σ 3 1) wd) := by
  by_cases c : (s 3 3).toInt < 0
  · obtain ⟨a, e⟩ := h c
    have more := (adv_more tk ga a).1 e
    have z := adv_z (P := P) a
    refine ⟨vlx σ (σ 3 1), by omega, ⟨z.1, z.2.1, fun hw => ?_⟩, fun _ => ⟨Int.le_refl _, (tkx_pos ga tk a.2.2.2.2.2).trans e⟩⟩
    obtain ⟨h1, h2, n, h3, h4, h5, h6, h7, h8⟩ := z.2.2 hw
    have n0 : n = 0 := by
      have := a.2.2.1
      rw [this] at h3
      omega
    subst n0
    refine ⟨h1, h2, 0, h3, h4, h5, ?_, h7, h8⟩
    show ((0 : Nat) : Int) ≤ _
    omega
  · exact ⟨0, Int.le_refl _, grz_bad (r 0 []).1 (r 0 []).2.1 (by omega), fun q => absurd q c⟩
theorem b4_0 {a : Int32} (h : a = 0 ∨ a = 1 ∨ a = 2) : ¬ b4 a ∧ b4 (a + (4 : Int32)) := by
  unfold b4
  rcases h with e | e | e <;> subst e <;> decide
theorem sp_gvariables {a1 a2 a3 : Int32} {W : Int} {Q : St → Prop} (hF : F ≤ 1) (tk : TKc σ) (ga : GA σ) (cb : CBd σ 70) (hp : P0 σ) (h3 : a3 = 0 ∨ a3 = 1 ∨ a3 = 2) (hW : 0 ≤ W) (hn : (σ 3 3).toInt < 0 → VN σ a1 W) (k : ∀ s, GRz σ s (vR F m) (-1) 1 W → P0 s → Q s) : wk_X3_variables a1 a2 a3 σ Q := by
  unfold wk_X3_variables
  refine ⟨fun n x4 _ y c s => n = c.toInt.toNat ∧ P0 s ∧ (GRz σ s (vR F m) 1 5 W) ∧ (y.toInt ≠ 0 → ∃ wd : Int, 0 ≤ wd ∧ GRz σ s (vR F m) 0 0 (W - wd) ∧ ((s 3 3).toInt < 0 → VN σ x4 wd)), ⟨_, rfl, hp, grz_wk (grz_rf ga) (fun _ _ q => q) (by omega) (by omega) (by omega), fun _ => ⟨W, hW, grz_wk (grz_rf ga) (fun _ _ q => q) (by omega) (by omega) (by omega), hn⟩⟩, ?_⟩
  rintro n x4 x5 y c s hz ⟨hc, p, r, hm⟩
  have tks := tk_kg r.1 tk
  refine ⟨True, fun _ => ?_, fun _ => trivial, fun c1 => ⟨fun _ => trivial, fun c2 => ?_⟩⟩
  · refine sp_gexpect tks r.2.1 (by decide) (fun s4 r4' p4 e4 => k s4 ?_ (p0_of p4 p))
    exact grz_wk (grz_tr (R'' := vR F m) ga r (exp_z (P := fun _ => True) r4' e4) (fun z z'' q => ⟨z'', q, trivial, rfl⟩)) (fun _ _ q => q) (by omega) (by omega) (by omega)
  · obtain ⟨wd, w0, r1, w1⟩ := hm c2
    refine ⟨fun x s2 => P0 s2 ∧ GRz σ s2 (vR F m) 0 0 (W - wd) ∧ ((s2 3 3).toInt < 0 → VN σ x4 wd) ∧ ((s2 3 3).toInt < 0 → x.toInt < 0 ∨ ∃ j : Nat, x.toInt = j ∧ act s2 j = 42 ∧ (j : Int) < (s2 3 4).toInt), ?_, fun _ => ⟨p, r1, w1, fun _ => Or.inl (by decide)⟩, fun c24 => sp_gbracket (F := F) (m := m) tks r1.2.1 (cb_grz cb r1 (by omega)) p c24 (fun x s2 r2 p2 h2 => ⟨p2, ?_, ?_, ?_⟩)⟩
    · rintro x s2 ⟨p2, r2, w2, b2⟩
      have tk2 := tk_kg r2.1 tk
      have cb2 := cb_grz (c' := 70) cb r2 (by omega)
      refine ⟨fun z => (z.toInt ≠ 0 → (s2 3 2).toInt = 30) ∧ (z = 0 ∨ z = 1), ?_, fun c30 => ⟨fun e => absurd rfl e, Or.inl rfl⟩, fun c30 => ⟨fun _ => c30, Or.inr rfl⟩⟩
      rintro z - ⟨hz1, hz2⟩
      refine ⟨fun y4 => (b4 y4 ↔ z.toInt ≠ 0), ?_, fun e => ⟨fun h => absurd h (b4_0 h3).1, fun h => absurd e h⟩, fun e => ⟨fun _ => e, fun _ => (b4_0 h3).2⟩⟩
      intro y4 hy4
      refine sp_gadd0 tk2 r2.2.1 (cb_le cb2 (by omega)) (fun x5' s3 ad _ => ?_)
      have vk : VN s2 x4 = VN σ x4 := vn_same (funext (fun j => r2.1 13 j rfl rfl)) (funext (fun j => r2.1 14 j rfl rfl))
      have r3 : GRz σ s3 (fun z1 z' => vP F m z1 ∧ dz 43 x5 y4 z1 z') 1 5 W := by
        by_cases hg : (s3 3 3).toInt < 0
        · have hg2 : (s2 3 3).toInt < 0 := by rw [← ad.2.2.2.1]; exact hg
          exact grz_wk (grz_tr (R'' := fun z1 z' => vP F m z1 ∧ dz 43 x5 y4 z1 z') ga r2 (add_z (R := fun z1 z' => dz 43 x5 y4 z1 z') (w := 5) (v := wd) ad r2.2.1 (fun _ z z' q => q) (by decide) (by decide) w0 (fun _ => by rw [vk]; exact w2 hg2)) (fun z z'' q => ⟨z, ⟨q.1, rfl⟩, q.2⟩)) (fun _ _ q => q) (by omega) (by omega) (by omega)
        · exact grz_bad (kp_tr r2.1 ad.1) ad.2.1 (by omega)
      have p3 := p0_of ad.2.2.1 p2
      have tk3 := tk_kg r3.1 tk
      -- behind the variable and its initial
      have go : ∀ s99, GRz σ s99 (vR F m) 1 5 W → P0 s99 → wk_X3_accept (26 : Int32) s99 (fun v102 s102 => (∃ J129 : Int32 → Int32 → St → Prop, (∀ (x4_129 : Int32) (x5_129 : Int32) (s129 : St), J129 x4_129 x5_129 s129 → (∃ m_1, m_1 < n ∧ (m_1 = (c + (-1 : Int32)).toInt.toNat ∧ P0 s129 ∧ (GRz σ s129 (vR F m) 1 5 W) ∧ (v102.toInt ≠ 0 → ∃ wd : Int, 0 ≤ wd ∧ GRz σ s129 (vR F m) 0 0 (W - wd) ∧ ((s129 3 3).toInt < 0 → VN σ x4_129 wd))))) ∧ (v102.toInt = 0 → J129 x4 x5 s102) ∧ (v102.toInt ≠ 0 → wk_X3_stars s102 (fun v113 s113 => wk_X3_expect (2 : Int32) s113 (fun s126 => J129 (s113 3 1) v113 s126))))) := fun s9 r9 p9 => by
        refine sp_gaccept (tk_kg r9.1 tk) r9.2.1 (by decide) (fun _ => ?_) (fun s10 a10 _ => ?_)
        · refine ⟨fun _ _ s => GRz σ s (vR F m) 1 5 W ∧ P0 s, fun _ _ s h => ⟨_, dn_lt hc c1, rfl, h.2, h.1, fun e => absurd rfl e⟩, fun _ => ⟨r9, p9⟩, fun e => absurd rfl e⟩
        · have r10 := grz_tr (R'' := vR F m) ga r9 (adv_z (P := fun _ => True) a10) (fun z z'' q => ⟨z'', q, trivial, rfl⟩)
          have p10 := p0_of a10.2.2.2.2.1 p9
          refine ⟨fun x4' _ s => P0 s ∧ (∃ wd : Int, 0 ≤ wd ∧ GRz σ s (vR F m) 0 0 (W - wd) ∧ ((s 3 3).toInt < 0 → VN σ x4' wd)), fun x4' _ s h => ⟨_, dn_lt hc c1, rfl, h.1, ?_, fun _ => h.2⟩, fun e => absurd e (by decide), fun _ => sp_gstars (tk_kg r10.1 tk) r10.2.1 (fun v11 s11 r11' p11' _ ec11 => ?_)⟩
          · obtain ⟨wd2, q0, q1, q2⟩ := h.2
            exact grz_wk q1 (fun _ _ q => q) (by omega) (by omega) (by omega)
          · have r11 := grz_tr (R'' := vR F m) ga r10 (nil_z (P := fun _ => True) r11' ec11) (fun z z'' q => ⟨z'', q, trivial, rfl⟩)
            have p11 := p0_of p11' p10
            have tk11 := tk_kg r11.1 tk
            refine sp_gexpect tk11 r11.2.1 (by decide) (fun s12 r12' p12' e12 => ⟨p0_of p12' p11, ?_⟩)
            obtain ⟨wd2, q0, q1, q2⟩ := exp_n (P := fun _ => True) tk11 r11.2.1 r12' e12
            refine ⟨wd2, q0, grz_wk (grz_tr (R'' := vR F m) ga r11 q1 (fun z z'' q => ⟨z'', q, trivial, rfl⟩)) (fun _ _ q => q) (by omega) (by omega) (by omega), fun hw => ?_⟩
            have q3 := q2 hw
            rw [vn_same (funext (fun j => r11.1 13 j rfl rfl)) (funext (fun j => r11.1 14 j rfl rfl))] at q3
            exact q3
      refine ⟨fun s => GRz σ s (vR F m) 1 5 W ∧ P0 s, fun s h => go s h.1 h.2, fun e => ⟨grz_wk r3 (fun z z' q => ?_) (by omega) (by omega) (by omega), p3⟩, fun e => ?_⟩
      · obtain ⟨⟨K, rfl, q⟩, rfl⟩ := q
        exact ⟨⟨K, rfl, q⟩, dzc_43 ⟨rfl, F, K, hF, q.2, rfl, Or.inr ⟨fun h => absurd e (hy4.mp h), rfl⟩⟩⟩
      · refine sp_ginitial (F := F) (m := m) tk3 r3.2.1 (fun hw => ?_) p3 (by rw [ad.2.2.2.2.2.1, hz1 e]; decide) (fun hw => ?_) (fun s4 r4 p4 => ⟨grz_wk (grz_tr (R'' := vR F m) ga r3 r4 (fun z z'' q => ?_)) (fun _ _ q => q) (by omega) (by omega) (by omega), p4⟩)
        · have := cb_grz (c' := 71) cb r3 (by omega) hw
          omega
        · have hw2 : (s2 3 3).toInt < 0 := by rw [← ad.2.2.2.1]; exact hw
          obtain ⟨c1', -, -, -, -, c6⟩ := ad.2.2.2.2.2.2 hw2
          have e2 := cn_eq (r2.2.1.1 hw2).2.2
          rcases b2 hw2 with q | ⟨j, q1, q2, q3⟩
          · exact Or.inl q
          · exact Or.inr ⟨j, q1, by rw [act_same (c6 j (by omega)).1]; exact q2, by omega⟩
        · obtain ⟨⟨K, rfl, q⟩, rfl⟩ := q
          exact ⟨(F, 9 :: K, []), ⟨⟨K, rfl, q⟩, dzc_43 ⟨rfl, F, K, hF, q.2, rfl, Or.inl ⟨hy4.mpr e, rfl⟩⟩⟩, K, rfl, q, rfl⟩
    · exact grz_wk (grz_tr (R'' := vR F m) ga r1 r2 (fun z z'' q => ⟨z, ⟨q.1, rfl⟩, q⟩)) (fun _ _ q => q) (by omega) (by omega) (by omega)
    · exact fun hw => w1 (r2.2.2 hw).1
    · intro hw
      obtain ⟨j, q1, q2, q3, -⟩ := h2 hw
      exact Or.inr ⟨j, q1, q2, q3⟩
end GVA
