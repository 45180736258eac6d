/-! the grammar: statements without others in them -/
def xR : RZs := fun z z' => ∃ F K, z = (F, K, []) ∧ z' = (F, K, [iV])
def kR (m : Nat) : RZs := rId (fun z => ∃ K, z = (1, K, []) ∧ sk m K)
abbrev P0 (σ : St) : Prop := (σ 3 9) = 0
section GSI
variable {σ s t : St} {R R' R'' : RZs} {u w v : Int} {m : Nat}
theorem p0_of (h : PSo σ s) (hp : P0 σ) : P0 s := h.1.trans hp
theorem exp_z {P : Zs → Prop} {x : Int} (r : ∀ l a, GRx σ s l a a (-2) (-4)) (h : (s 3 3).toInt < 0 → ADV σ s ∧ (σ 3 2).toInt = x) : GRz σ s (rId P) (-2) (-4) (-1) := by
  by_cases c : (s 3 3).toInt < 0
  · exact adv_z (h c).1
  · exact grz_bad (r 0 []).1 (r 0 []).2.1 (by omega)
theorem sp_gx {Q : St → Prop} (tk : TKc σ) (ga : GA σ) (cb : CBd σ 70) (hp : P0 σ) (k : ∀ s, GRz σ s xR (-1) (-1) 0 → P0 s → Q s) : wkG_expression (1 : Int32) σ Q := by
  have h0 : (σ 3 9).toInt = 0 := by rw [hp]; rfl
  exact spg_expr 1 σ Q rfl tk ga cb ⟨by omega, by omega⟩ (fun s r p => k s (grz_x r) (p0_of p hp))
theorem sp_gcond {a b : Int32} {Q : St → Prop} (tk : TKc σ) (ga : GA σ) (cb : CBd σ 70) (hp : P0 σ) (hR : ∀ z z', R z z' → ∃ F K, z = (F, K, []) ∧ dz a.toInt 0 0 (F, K, [iV]) z') (hc : cz a.toInt ≤ 4) (h45 : a.toInt ≠ 45 ∧ a.toInt ≠ 43 ∧ a.toInt ≠ 47) (k : ∀ s, GRz σ s R (-4) (-5) 0 → P0 s → Q s) : wk_X3_condition a b σ Q := by
  unfold wk_X3_condition
  refine sp_gexpect tk ga (by decide) (fun s3 r3' p3 e3 => ?_)
  have r3 := exp_z (P := fun z => ∃ F K, z = (F, K, [])) r3' e3
  refine sp_gx (tk_kg r3.1 tk) r3.2.1 (cb_grz cb r3 (by omega)) (p0_of p3 hp) (fun s4 r4' p4 => ?_)
  have r4 := grz_tr (R'' := xR) ga r3 r4' (fun z z'' q => ⟨z, ⟨by obtain ⟨F, K, e, -⟩ := q; exact ⟨F, K, e⟩, rfl⟩, q⟩)
  refine sp_gexpect (tk_kg r4.1 tk) r4.2.1 (by decide) (fun s5 r5' p5 e5 => ?_)
  have r5 := grz_tr (R'' := xR) ga r4 (exp_z (P := fun _ => True) r5' e5) (fun z z'' q => ⟨z'', q, trivial, rfl⟩)
  refine sp_gadd0 (tk_kg r5.1 tk) r5.2.1 (cb_grz cb r5 (by omega)) (fun v6 s6 ad _ => k s6 ?_ (p0_of ad.2.2.1 (p0_of p5 p4)))
  refine grz_wk (grz_tr (R'' := R) ga r5 (add_z (R := fun z z' => ∃ F K, z = (F, K, [iV]) ∧ dz a.toInt 0 0 z z') (w := 4) (v := 0) ad r5.2.1 (fun _ z z' q => by obtain ⟨F, K, rfl, q⟩ := q; exact q) hc h45.1 (by omega) (fun c => by omega)) (fun z z'' q => ?_)) (fun _ _ q => q) (by omega) (by omega) (by omega)
  obtain ⟨F, K, e1, q2⟩ := hR z z'' q
  subst e1
  exact ⟨_, ⟨F, K, rfl, rfl⟩, F, K, rfl, q2⟩
theorem sp_gsimple {Q : St → Prop} (hm : m ≤ 100) (tk : TKc σ) (ga : GA σ) (cb : CBd σ 70) (hp : P0 σ) (k : ∀ s, GRz σ s (kR m) 0 0 0 → P0 s → Q s) : wk_X3_simple σ Q := by
  have fin : ∀ s, GRz σ s (kR m) 2 4 1 → CBd s 90 → P0 s → wk_X3_expect (27 : Int32) s (fun s130 => Q s130) := fun s r c p => by
    refine sp_gexpect (tk_kg r.1 tk) r.2.1 (by decide) (fun s5 r5' p5 e5 => k s5 ?_ (p0_of p5 p))
    exact grz_wk (grz_tr (R'' := kR m) ga r (exp_z (P := fun _ => True) r5' e5) (fun z z'' q => ⟨z'', q, trivial, rfl⟩)) (fun _ _ q => q) (by omega) (by omega) (by omega)
  unfold wk_X3_simple
  refine ⟨fun s => GRz σ s (kR m) 2 4 1 ∧ CBd s 90 ∧ P0 s, fun s h => fin s h.1 h.2.1 h.2.2, 2 ≤ (σ 3 2).toInt, fun c => ⟨fun y => y = 36 ∨ y = 37, fun y hy => ?_, fun _ => Or.inr rfl, fun _ => Or.inl rfl⟩, fun c => by omega, fun _ => ⟨fun n15 => ⟨fun n16 => ?_, fun c16 => ?_⟩, fun c => by omega⟩⟩
  · have hy2 : y.toInt = 36 ∨ y.toInt = 37 := by rcases hy with e | e <;> subst e <;> decide
    refine sp_gadd0 tk ga (cb_le cb (by omega)) (fun v2 s2 ad _ => ?_)
    have r2 := add_z (R := kR m) (w := 2) (v := 0) ad ga (fun _ z z' q => by
      obtain ⟨⟨K, rfl, q2⟩, rfl⟩ := q
      exact dzc_36 ⟨hy2, K, rfl, rfl, by have := q2.1; omega, q2.2⟩) (by rcases hy with e | e <;> subst e <;> decide) (by omega) (by omega) (fun c => by omega)
    refine sp_gadv (tk_kg r2.1 tk) r2.2.1 (by rw [ad.2.2.2.2.2.1]; exact c) (fun s3 a3 => ?_)
    have r3 := grz_tr (R'' := kR m) ga r2 (adv_z (P := fun _ => True) a3) (fun z z'' q => ⟨z'', q, trivial, rfl⟩)
    exact ⟨grz_wk r3 (fun _ _ q => q) (by omega) (by omega) (by omega), cb_grz cb r3 (by omega), p0_of a3.2.2.2.2.1 (p0_of ad.2.2.1 hp)⟩
  · refine sp_gx tk ga cb hp (fun s2 r2 p2 => ?_)
    refine sp_gadd0 (tk_kg r2.1 tk) r2.2.1 (cb_grz cb r2 (by omega)) (fun v3 s3 ad _ => ?_)
    have r3 := grz_tr (R'' := kR m) ga r2 (add_z (R := fun z z' => ∃ K, z = (1, K, [iV]) ∧ z' = (1, K, []) ∧ sk m K) (w := 1) (v := 0) ad r2.2.1 (fun _ z z' q => by
      obtain ⟨K, rfl, rfl, q3⟩ := q
      exact dzc_22 ⟨by decide, K, rfl, rfl, by have := q3.1; omega⟩) (by decide) (by decide) (by omega) (fun c => absurd c (by decide))) (fun z z'' q => by
      obtain ⟨⟨K, rfl, q2⟩, rfl⟩ := q
      exact ⟨_, ⟨1, K, rfl, rfl⟩, K, rfl, rfl, q2⟩)
    exact ⟨grz_wk r3 (fun _ _ q => q) (by omega) (by omega) (by omega), cb_grz cb r3 (by omega), p0_of ad.2.2.1 p2⟩
  · refine sp_gadv tk ga (by omega) (fun s2 a2 => ?_)
    have r2 := adv_z (P := fun z => ∃ K, z = (1, K, []) ∧ sk m K) a2
    have p2 := p0_of a2.2.2.2.2.1 hp
    refine ⟨fun _ => True, fun y hy _ => ?_, fun _ => trivial, fun _ => trivial⟩
    have last : ∀ (y3 : Int32) s9 (R9 : RZs), GRz σ s9 R9 (-1) (-3) 0 → P0 s9 → (∀ z z', kR m z z' → ∃ z1, R9 z z1 ∧ ∃ K, z1 = (1, K, if y3.toInt = 0 then [] else [iV]) ∧ z' = (1, K, []) ∧ nz K ≤ 100) → wk_X3_add (38 : Int32) (σ 3 1) y3 (0 : Int32) s9 (fun v105 s105 => GRz σ s105 (kR m) 2 4 1 ∧ CBd s105 90 ∧ P0 s105) := fun y3 s9 R9 r9 p9 h9 => by
      refine sp_gadd0 (tk_kg r9.1 tk) r9.2.1 (cb_grz cb r9 (by omega)) (fun v3 s3 ad _ => ?_)
      have r3 := grz_tr (R'' := kR m) ga r9 (add_z (R := fun z z' => ∃ K, z = (1, K, if y3.toInt = 0 then [] else [iV]) ∧ z' = (1, K, []) ∧ nz K ≤ 100) (w := 3) (v := 0) ad r9.2.1 (fun _ z z' q => by
        exact dzc_38 ⟨by decide, q⟩) (by decide) (by decide) (by omega) (fun c => absurd c (by decide))) h9
      exact ⟨grz_wk r3 (fun _ _ q => q) (by omega) (by omega) (by omega), cb_grz cb r3 (by omega), p0_of ad.2.2.1 p9⟩
    by_cases hz : y.toInt = 0
    · refine ⟨fun s => s = s2, ?_, fun _ => rfl, fun c => absurd hz c⟩
      rintro s rfl
      refine ⟨fun y3 => y3 = 0, ?_, fun _ => rfl, fun c => absurd hz c⟩
      rintro y3 - rfl
      refine last 0 s _ (grz_wk r2 (fun _ _ q => q) (by omega) (by omega) (by omega)) p2 (fun z z' q => ?_)
      obtain ⟨⟨K, rfl, q2⟩, rfl⟩ := q
      exact ⟨_, ⟨⟨K, rfl, q2⟩, rfl⟩, K, rfl, rfl, by have := q2.1; omega⟩
    · refine ⟨fun s => GRz σ s (fun z z' => ∃ K, z = (1, K, []) ∧ sk m K ∧ z' = (1, K, [iV])) (-1) (-3) 0 ∧ P0 s, ?_, fun c => absurd c hz, fun _ => sp_gx (tk_kg r2.1 tk) r2.2.1 (cb_grz cb r2 (by omega)) p2 (fun s3 r3 p3 => ⟨?_, p3⟩)⟩
      · rintro s ⟨r9, p9⟩
        refine ⟨fun y3 => y3 = 1, ?_, fun c => absurd c hz, fun _ => rfl⟩
        rintro y3 - rfl
        refine last 1 s _ r9 p9 (fun z z' q => ?_)
        obtain ⟨⟨K, rfl, q2⟩, rfl⟩ := q
        exact ⟨_, ⟨K, rfl, q2, rfl⟩, K, rfl, rfl, by have := q2.1; omega⟩
      · exact grz_wk (grz_tr (R'' := fun z z' => ∃ K, z = (1, K, []) ∧ sk m K ∧ z' = (1, K, [iV])) ga r2 r3 (fun z z'' q => by
          obtain ⟨K, rfl, q2, rfl⟩ := q
          exact ⟨_, ⟨⟨K, rfl, q2⟩, rfl⟩, 1, K, rfl, rfl⟩)) (fun _ _ q => q) (by omega) (by omega) (by omega)
end GSI
