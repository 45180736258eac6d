/-! the grammar: statements -/
/-- a method that reads statements at a depth -/
def SPT (K : KX1) (d m : Nat) : Prop := ∀ (x : Int32) (σ : St) (Q : St → Prop), x.toInt = d → TKc σ → GA σ → CBd σ 70 → P0 σ → (∀ s, GRz σ s (kR m) 0 0 0 → P0 s → Q s) → K x σ Q
/-- where a body may begin -/
def bk (m : Nat) (K : List Nat) : Prop := nz K ≤ m ∧ bdK K
def bR (m : Nat) : RZs := rId (fun z => ∃ K, z = (1, K, []) ∧ bk m K)
/-- the same, behind two steps that it owes -/
def SPB (K : KX1) (d m : Nat) : Prop := ∀ (x : Int32) (σ : St) (Q : St → Prop), x.toInt = d → TKc σ → GA σ → CBd σ 69 → P0 σ → (∀ s, GRz σ s (bR m) 2 0 0 → P0 s → Q s) → K x σ Q
/-- the same, before its word -/
def SPW (K : KX1) (d m : Nat) : Prop := ∀ (x : Int32) (σ : St) (Q : St → Prop), x.toInt = d → TKc σ → GA σ → CBd σ 70 → P0 σ → 2 ≤ (σ 3 2).toInt → (∀ s, GRz σ s (kR m) 0 0 0 → P0 s → Q s) → K x σ Q
section GST
variable {σ s t : St} {R R' R'' : RZs} {u w v : Int} {m F d : Nat} {Ka Kb Kc Kd Ke : KX1}
theorem kr_0 {K : List Nat} (h : nz K ≤ m) : nz (0 :: K) ≤ m := h
theorem sk_0 {K : List Nat} (h : nz K ≤ m) : sk m (0 :: K) := ⟨kr_0 h, Or.inr ⟨K, rfl⟩⟩
theorem tp_bd {K : List Nat} (h : tpK K) : bdK K := by
  rcases h with h | ⟨K', h⟩
  · exact Or.inl h
  · exact Or.inr ⟨0, K', h, Or.inl rfl⟩
theorem nz_s {c : Nat} {K : List Nat} (h1 : 1 ≤ c) (h8 : c ≤ 8) : nz (c :: K) = nz K + 1 := by
  unfold nz nzr
  rw [List.filter_cons_of_pos (by exact decide_eq_true ⟨h1, h8⟩), List.filter_cons_of_neg (by
    intro h2
    have := of_decide_eq_true h2
    omega)]
  show _ + 1 + _ = _ + _ + 1
  omega
/-- a step behind a stretch -/
theorem grz_add {σ0 : St} {a1 a2 a3 a4 : Int32} {w' : Int} (g0 : GA σ0) (r : GRz σ0 σ R u w v) (ad : ADD σ s a1 a2 a3 a4) (hR : ∀ z z'', R'' z z'' → ∃ z', R z z' ∧ dz a1.toInt a3 a4 z' z'') (hc : cz a1.toInt ≤ w') (h45 : a1.toInt ≠ 45) (hn : ¬ (a1.toInt = 43 ∨ a1.toInt = 47)) : GRz σ0 s R'' (u + 1) (w + w') (v + 0) :=
  grz_tr g0 r (add_z (R := fun z1 z' => dz a1.toInt a3 a4 z1 z') (w := w') (v := 0) ad r.2.1 (fun _ _ _ q => q) hc h45 (Int.le_refl _) (fun c => absurd c hn)) hR
theorem sp_gbody (hs : SPT Kd (d + 1) m) (hd : d ≤ 1000) (hm : m ≤ 100) : SPB (wk_X3_body Ka Kb Kc Kd Ke) d m := fun x σ Q hx tk ga cb hp k => by
  unfold wk_X3_body
  refine sp_gadd0 tk ga (cb_le cb (by omega)) (fun v2 s2 ad _ => ?_)
  have r2 := grz_add (R'' := fun z z' => ∃ K, z = (1, K, []) ∧ bk m K ∧ z' = (1, 0 :: K, [])) (w' := 0) ga (grz_rf (P := fun _ => True) ga) ad (fun z z'' q => by
    obtain ⟨K, rfl, q, rfl⟩ := q
    exact ⟨_, ⟨trivial, rfl⟩, dzc_20 ⟨by decide, K, rfl, rfl, by have := q.1; omega, q.2⟩⟩) (by decide) (by decide) (by decide)
  have p2 := p0_of ad.2.2.1 hp
  have tk2 := tk_kg r2.1 tk
  refine hs _ s2 _ (by rw [ad1 (by omega)]; omega) tk2 r2.2.1 (cb_grz cb r2 (by omega)) p2 (fun s3 r3' p3 => ?_)
  · have r3 := grz_tr (R'' := fun z z' => ∃ K, z = (1, K, []) ∧ bk m K ∧ z' = (1, 0 :: K, [])) ga r2 r3' (fun z z'' q => by
      obtain ⟨K, rfl, q, rfl⟩ := q
      exact ⟨_, ⟨K, rfl, q, rfl⟩, ⟨_, rfl, sk_0 q.1⟩, rfl⟩)
    refine sp_gadd0 (tk_kg r3.1 tk) r3.2.1 (cb_grz cb r3 (by omega)) (fun v4 s4 ad4 _ => k s4 ?_ (p0_of ad4.2.2.1 p3))
    exact grz_wk (grz_add (R'' := bR m) (w' := 0) ga r3 ad4 (fun z z'' q => by
      obtain ⟨⟨K, rfl, q⟩, rfl⟩ := q
      exact ⟨_, ⟨K, rfl, q, rfl⟩, dzc_21 ⟨by decide, K, rfl, rfl⟩⟩) (by decide) (by decide) (by decide)) (fun _ _ q => q) (by omega) (by omega) (by omega)
theorem sp_gconditional (hb : SPB Ka d (m + 1)) (hm : m ≤ 24) : SPW (wk_X3_conditional Ka Kb Kc Kd Ke) d m := fun x σ Q hx tk ga cb hp hk k => by
  have i1 : ∀ z z' : Zs, (∃ K, z = (1, K, []) ∧ sk m K ∧ z' = (1, 1 :: K, [])) → ∃ F K, z = (F, K, []) ∧ dz (23 : Int32).toInt 0 0 (F, K, [iV]) z' := fun z z' q => by
    obtain ⟨K, rfl, q, rfl⟩ := q
    exact ⟨1, K, rfl, dzc_23 ⟨by decide, K, rfl, rfl, by have := q.1; omega, q.2⟩⟩
  unfold wk_X3_conditional
  refine sp_gadv tk ga hk (fun s2 a2 => ?_)
  have r2 := adv_z (P := fun _ => True) a2
  have p2 := p0_of a2.2.2.2.2.1 hp
  refine sp_gcond (R := fun z z' => ∃ K, z = (1, K, []) ∧ sk m K ∧ z' = (1, 1 :: K, [])) (tk_kg r2.1 tk) r2.2.1 (cb_grz cb r2 (by omega)) p2 i1 (by decide) (by decide) (fun s3 r3' p3 => ?_)
  have r3 := grz_tr (R'' := fun z z' => ∃ K, z = (1, K, []) ∧ sk m K ∧ z' = (1, 1 :: K, [])) ga r2 r3' (fun z z'' q => ⟨z, ⟨trivial, rfl⟩, q⟩)
  refine hb x s3 _ hx (tk_kg r3.1 tk) r3.2.1 (cb_grz cb r3 (by omega)) p3 (fun s4 r4' p4 => ?_)
  have in1 : ∀ z z' : Zs, (∃ K, z = (1, K, []) ∧ sk m K ∧ z' = (1, 1 :: K, [])) → ∃ z1, (∃ K, z = (1, K, []) ∧ sk m K ∧ z1 = (1, 1 :: K, [])) ∧ bR (m + 1) z1 z' := fun z z' q => by
    obtain ⟨K, rfl, q, rfl⟩ := q
    exact ⟨_, ⟨K, rfl, q, rfl⟩, ⟨_, rfl, by rw [nz_s (by decide) (by decide)]; have := q.1; omega, Or.inr ⟨1, K, rfl, by decide⟩⟩, rfl⟩
  have r4 := grz_tr (R'' := fun z z' => ∃ K, z = (1, K, []) ∧ sk m K ∧ z' = (1, 1 :: K, [])) ga r3 r4' in1
  refine ⟨fun s => GRz σ s (fun z z' => ∃ K, z = (1, K, []) ∧ sk m K ∧ z' = (1, 1 :: K, [])) (-1) (-3) 0 ∧ P0 s, ?_, fun _ => ⟨grz_wk r4 (fun _ _ q => q) (by omega) (by omega) (by omega), p4⟩, fun c10 => ?_⟩
  · rintro s5 ⟨r5, p5⟩
    refine sp_gadd0 (tk_kg r5.1 tk) r5.2.1 (cb_grz cb r5 (by omega)) (fun v6 s6 ad6 _ => k s6 ?_ (p0_of ad6.2.2.1 p5))
    exact grz_wk (grz_add (R'' := kR m) (w' := 0) ga r5 ad6 (fun z z'' q => by
      obtain ⟨⟨K, rfl, q⟩, rfl⟩ := q
      exact ⟨_, ⟨K, rfl, q, rfl⟩, dzc_25 ⟨by decide, K, rfl, rfl⟩⟩) (by decide) (by decide) (by decide)) (fun _ _ q => q) (by omega) (by omega) (by omega)
  · refine sp_gadd0 (tk_kg r4.1 tk) r4.2.1 (cb_grz cb r4 (by omega)) (fun v6 s6 ad6 _ => ?_)
    have r6 := grz_add (R'' := fun z z' => ∃ K, z = (1, K, []) ∧ sk m K ∧ z' = (1, 1 :: K, [])) (w' := 2) ga r4 ad6 (fun z z'' q => by
      obtain ⟨K, rfl, q, rfl⟩ := q
      exact ⟨_, ⟨K, rfl, q, rfl⟩, dzc_24 ⟨by decide, K, rfl, rfl⟩⟩) (by decide) (by decide) (by decide)
    have p6 := p0_of ad6.2.2.1 p4
    refine sp_gadv (tk_kg r6.1 tk) r6.2.1 (by rw [ad6.2.2.2.2.2.1, c10]; decide) (fun s7 a7 => ?_)
    have r7 := grz_tr (R'' := fun z z' => ∃ K, z = (1, K, []) ∧ sk m K ∧ z' = (1, 1 :: K, [])) ga r6 (adv_z (P := fun _ => True) a7) (fun z z'' q => ⟨z'', q, trivial, rfl⟩)
    refine hb x s7 _ hx (tk_kg r7.1 tk) r7.2.1 (cb_grz cb r7 (by omega)) (p0_of a7.2.2.2.2.1 p6) (fun s8 r8' p8 => ⟨grz_wk (grz_tr (R'' := fun z z' => ∃ K, z = (1, K, []) ∧ sk m K ∧ z' = (1, 1 :: K, [])) ga r7 r8' in1) (fun _ _ q => q) (by omega) (by omega) (by omega), p8⟩)
theorem sp_gloop (hb : SPB Ka d (m + 1)) (hm : m ≤ 24) : SPW (wk_X3_loop Ka Kb Kc Kd Ke) d m := fun x σ Q hx tk ga cb hp hk k => by
  have inb : ∀ c : Nat, 1 ≤ c → c ≤ 8 → (c = 0 ∨ c = 1 ∨ c = 3 ∨ c = 4 ∨ c = 8) → ∀ z z' : Zs, (∃ K, z = (1, K, []) ∧ sk m K ∧ z' = (1, c :: K, [])) → ∃ z1, (∃ K, z = (1, K, []) ∧ sk m K ∧ z1 = (1, c :: K, [])) ∧ bR (m + 1) z1 z' := fun c c1 c8 cb z z' q => by
    obtain ⟨K, rfl, q, rfl⟩ := q
    exact ⟨_, ⟨K, rfl, q, rfl⟩, ⟨_, rfl, by rw [nz_s c1 c8]; have := q.1; omega, Or.inr ⟨c, K, rfl, cb⟩⟩, rfl⟩
  unfold wk_X3_loop
  refine sp_gadv tk ga hk (fun s2 a2 => ?_)
  have r2 := adv_z (P := fun _ => True) a2
  have p2 := p0_of a2.2.2.2.2.1 hp
  have tk2 := tk_kg r2.1 tk
  have cb2 := cb_grz (c' := 68) cb r2 (by omega)
  refine ⟨fun _ => ⟨fun _ => ?_, fun _ => ?_⟩, fun _ => ?_⟩
  · refine sp_gcounted tk2 r2.2.1 (cb_le cb2 (by omega)) p2 (fun s3 r3' p3 => ?_)
    have r3 := grz_tr (R'' := fun z z' => ∃ K, z = (1, K, []) ∧ sk m K ∧ z' = (1, 8 :: K, [])) ga r2 r3' (fun z z'' q => by
      obtain ⟨K, rfl, q, rfl⟩ := q
      exact ⟨_, ⟨trivial, rfl⟩, K, rfl, ⟨by have := q.1; omega, q.2⟩, rfl⟩)
    refine hb x s3 _ hx (tk_kg r3.1 tk) r3.2.1 (cb_grz cb r3 (by omega)) p3 (fun s4 r4' p4 => ?_)
    have r4 := grz_tr (R'' := fun z z' => ∃ K, z = (1, K, []) ∧ sk m K ∧ z' = (1, 8 :: K, [])) ga r3 r4' (inb 8 (by decide) (by decide) (by decide))
    refine sp_gadd0 (tk_kg r4.1 tk) r4.2.1 (cb_grz cb r4 (by omega)) (fun v5 s5 ad _ => k s5 ?_ (p0_of ad.2.2.1 p4))
    exact grz_wk (grz_add (R'' := kR m) (w' := 2) ga r4 ad (fun z z'' q => by
      obtain ⟨⟨K, rfl, q⟩, rfl⟩ := q
      exact ⟨_, ⟨K, rfl, q, rfl⟩, dzc_35 ⟨by decide, K, rfl, rfl⟩⟩) (by decide) (by decide) (by decide)) (fun _ _ q => q) (by omega) (by omega) (by omega)
  · refine sp_gadd0 tk2 r2.2.1 (cb_le cb2 (by omega)) (fun v3 s3 ad3 _ => ?_)
    have r3 := grz_add (R'' := fun z z' => ∃ K, z = (1, K, []) ∧ sk m K ∧ z' = (1, 4 :: K, [])) (w' := 2) ga r2 ad3 (fun z z'' q => by
      obtain ⟨K, rfl, q, rfl⟩ := q
      exact ⟨_, ⟨trivial, rfl⟩, dzc_29 ⟨by decide, K, rfl, rfl, by have := q.1; omega, q.2⟩⟩) (by decide) (by decide) (by decide)
    refine hb x s3 _ hx (tk_kg r3.1 tk) r3.2.1 (cb_grz cb r3 (by omega)) (p0_of ad3.2.2.1 p2) (fun s4 r4' p4 => ?_)
    have r4 := grz_tr (R'' := fun z z' => ∃ K, z = (1, K, []) ∧ sk m K ∧ z' = (1, 4 :: K, [])) ga r3 r4' (inb 4 (by decide) (by decide) (by decide))
    refine sp_gexpect (tk_kg r4.1 tk) r4.2.1 (by decide) (fun s5 r5' p5' e5 => ?_)
    have r5 := grz_tr (R'' := fun z z' => ∃ K, z = (1, K, []) ∧ sk m K ∧ z' = (1, 4 :: K, [])) ga r4 (exp_z (P := fun _ => True) r5' e5) (fun z z'' q => ⟨z'', q, trivial, rfl⟩)
    refine sp_gadd0 (tk_kg r5.1 tk) r5.2.1 (cb_grz cb r5 (by omega)) (fun v6 s6 ad6 _ => ?_)
    have r6 := grz_add (R'' := fun z z' => ∃ K, z = (1, K, []) ∧ sk m K ∧ z' = (1, 5 :: K, [])) (w' := 0) ga r5 ad6 (fun z z'' q => by
      obtain ⟨K, rfl, q, rfl⟩ := q
      exact ⟨_, ⟨K, rfl, q, rfl⟩, dzc_30 ⟨by decide, K, rfl, rfl⟩⟩) (by decide) (by decide) (by decide)
    have p6 := p0_of ad6.2.2.1 (p0_of p5' p4)
    refine sp_gcond (R := fun z z' => ∃ K, z = (1, 5 :: K, []) ∧ z' = (1, K, [])) (tk_kg r6.1 tk) r6.2.1 (cb_grz cb r6 (by omega)) p6 (fun z z' q => by
      obtain ⟨K, rfl, rfl⟩ := q
      exact ⟨1, _, rfl, dzc_31 ⟨by decide, K, rfl, rfl⟩⟩) (by decide) (by decide) (fun s7 r7' p7 => ?_)
    have r7 := grz_tr (R'' := kR m) ga r6 r7' (fun z z'' q => by
      obtain ⟨⟨K, rfl, q⟩, rfl⟩ := q
      exact ⟨_, ⟨K, rfl, q, rfl⟩, K, rfl, rfl⟩)
    refine sp_gexpect (tk_kg r7.1 tk) r7.2.1 (by decide) (fun s8 r8' p8' e8 => k s8 ?_ (p0_of p8' p7))
    exact grz_wk (grz_tr (R'' := kR m) ga r7 (exp_z (P := fun _ => True) r8' e8) (fun z z'' q => ⟨z'', q, trivial, rfl⟩)) (fun _ _ q => q) (by omega) (by omega) (by omega)
  · refine sp_gadd0 tk2 r2.2.1 (cb_le cb2 (by omega)) (fun v3 s3 ad3 _ => ?_)
    have r3 := grz_add (R'' := fun z z' => ∃ K, z = (1, K, []) ∧ sk m K ∧ z' = (1, 2 :: K, [])) (w' := 0) ga r2 ad3 (fun z z'' q => by
      obtain ⟨K, rfl, q, rfl⟩ := q
      exact ⟨_, ⟨trivial, rfl⟩, dzc_26 ⟨by decide, K, rfl, rfl, by have := q.1; omega, q.2⟩⟩) (by decide) (by decide) (by decide)
    refine sp_gcond (R := fun z z' => ∃ K, z = (1, 2 :: K, []) ∧ z' = (1, 3 :: K, [])) (tk_kg r3.1 tk) r3.2.1 (cb_grz cb r3 (by omega)) (p0_of ad3.2.2.1 p2) (fun z z' q => by
      obtain ⟨K, rfl, rfl⟩ := q
      exact ⟨1, _, rfl, dzc_27 ⟨by decide, K, rfl, rfl⟩⟩) (by decide) (by decide) (fun s4 r4' p4 => ?_)
    have r4 := grz_tr (R'' := fun z z' => ∃ K, z = (1, K, []) ∧ sk m K ∧ z' = (1, 3 :: K, [])) ga r3 r4' (fun z z'' q => by
      obtain ⟨K, rfl, q, rfl⟩ := q
      exact ⟨_, ⟨K, rfl, q, rfl⟩, K, rfl, rfl⟩)
    refine hb x s4 _ hx (tk_kg r4.1 tk) r4.2.1 (cb_grz cb r4 (by omega)) p4 (fun s5 r5' p5 => ?_)
    have r5 := grz_tr (R'' := fun z z' => ∃ K, z = (1, K, []) ∧ sk m K ∧ z' = (1, 3 :: K, [])) ga r4 r5' (inb 3 (by decide) (by decide) (by decide))
    refine sp_gadd0 (tk_kg r5.1 tk) r5.2.1 (cb_grz cb r5 (by omega)) (fun v6 s6 ad _ => k s6 ?_ (p0_of ad.2.2.1 p5))
    exact grz_wk (grz_add (R'' := kR m) (w' := 2) ga r5 ad (fun z z'' q => by
      obtain ⟨⟨K, rfl, q⟩, rfl⟩ := q
      exact ⟨_, ⟨K, rfl, q, rfl⟩, dzc_28 ⟨by decide, K, rfl, rfl⟩⟩) (by decide) (by decide) (by decide)) (fun _ _ q => q) (by omega) (by omega) (by omega)
end GST
