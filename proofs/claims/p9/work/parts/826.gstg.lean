/-! the grammar: the statements' group -/
/-- a block -/
def SPS (K : KX1) (d m : Nat) : Prop := ∀ (x : Int32) (σ : St) (Q : St → Prop), x.toInt = d → TKc σ → GA σ → CBd σ 71 → P0 σ → (∀ s, GRz σ s (kR m) (-4) (-8) (-2) → P0 s → Q s) → K x σ Q
section GSG
variable {σ s t : St} {R R' R'' : RZs} {u w v : Int} {m F d : Nat} {Ka Kb Kc Kd Ke : KX1}
theorem sp_gstatement (hc : d ≤ 25 → SPW Kb d m) (hl : d ≤ 25 → SPW Kc d m) (hb : d ≤ 25 → SPS Ke (d + 1) m) (hm : m ≤ 100) : SPT (wk_X3_statement Ka Kb Kc Kd Ke) d m := fun x σ Q hx tk ga cb hp k => by
  unfold wk_X3_statement
  refine ⟨fun c25 => ⟨True, fun _ => sp_gsimple hm tk ga cb hp k, 2 ≤ (σ 3 2).toInt, fun c => hl (by omega) x σ _ hx tk ga cb hp c k, fun c5 => ?_, ?_⟩, fun _ => sp_gfail ga (fun s r p bad => k s (grz_bad (r 0 [] [] 0 0).1 (r 0 [] [] 0 0).2.1 bad) (p0_of p hp))⟩
  · refine sp_gadv tk ga (by omega) (fun s2 a2 => ?_)
    have r2 := adv_z (P := vP 1 m) a2
    have p2 := p0_of a2.2.2.2.2.1 hp
    refine sp_gstars (tk_kg r2.1 tk) r2.2.1 (fun v3 s3 r3' p3' _ ec3 => ?_)
    have r3 := grz_tr (R'' := vR 1 m) ga r2 (nil_z (P := fun _ => True) r3' ec3) (fun z z'' q => ⟨z'', q, trivial, rfl⟩)
    have p3 := p0_of p3' p2
    have tk3 := tk_kg r3.1 tk
    refine sp_gexpect tk3 r3.2.1 (by decide) (fun s4 r4' p4' e4 => ?_)
    obtain ⟨wd, q0, q1, q2⟩ := exp_n (P := fun _ => True) tk3 r3.2.1 r4' e4
    have r4 := grz_tr (R'' := vR 1 m) ga r3 q1 (fun z z'' q => ⟨z'', q, trivial, rfl⟩)
    have vk : ∀ y, VN s4 y = VN s3 y := fun y => vn_same (funext (fun j => (r4' 0 []).1 13 j rfl rfl)) (funext (fun j => (r4' 0 []).1 14 j rfl rfl))
    refine sp_gvariables (F := 1) (m := m) (W := wd) (by decide) (tk_kg r4.1 tk) r4.2.1 (cb_grz cb r4 (by omega)) (p0_of p4' p3) (Or.inl rfl) q0 (fun hw => by rw [vk]; exact q2 hw) (fun s5 r5 p5 => k s5 ?_ p5)
    exact grz_wk (grz_tr (R'' := vR 1 m) ga r4 r5 (fun z z'' q => ⟨z, ⟨q.1, rfl⟩, q⟩)) (fun _ _ q => q) (by omega) (by omega) (by omega)
  · have blk : (σ 3 2).toInt = 22 → wk_X3_add (20 : Int32) (σ 3 1) (0 : Int32) (0 : Int32) σ (fun v134 s134 => Ke (x + (1 : Int32)) s134 (fun s142 => wk_X3_add (21 : Int32) (σ 3 1) (0 : Int32) (0 : Int32) s142 (fun v151 s151 => Q s151))) := fun c22 => by
      refine sp_gadd0 tk ga (cb_le cb (by omega)) (fun v2 s2 ad _ => ?_)
      have r2 := grz_add (R'' := fun z z' => ∃ K, z = (1, K, []) ∧ sk m K ∧ z' = (1, 0 :: K, [])) (w' := 0) ga (grz_rf (P := fun _ => True) ga) ad (fun z z'' q => by
        obtain ⟨K, rfl, q, rfl⟩ := q
        exact ⟨_, ⟨trivial, rfl⟩, dzc_20 ⟨by decide, K, rfl, rfl, by have := q.1; omega, tp_bd q.2⟩⟩) (by decide) (by decide) (by decide)
      refine hb (by omega) _ s2 _ (by rw [ad1 (by omega)]; omega) (tk_kg r2.1 tk) r2.2.1 (cb_grz cb r2 (by omega)) (p0_of ad.2.2.1 hp) (fun s3 r3' p3 => ?_)
      have r3 := grz_tr (R'' := fun z z' => ∃ K, z = (1, K, []) ∧ sk m K ∧ z' = (1, 0 :: K, [])) ga r2 r3' (fun z z'' q => by
        obtain ⟨K, rfl, q, rfl⟩ := q
        exact ⟨_, ⟨K, rfl, q, rfl⟩, ⟨_, rfl, sk_0 q.1⟩, rfl⟩)
      refine sp_gadd0 (tk_kg r3.1 tk) r3.2.1 (cb_grz cb r3 (by omega)) (fun v4 s4 ad4 _ => k s4 ?_ (p0_of ad4.2.2.1 p3))
      exact grz_wk (grz_add (R'' := kR m) (w' := 0) ga r3 ad4 (fun z z'' q => by
        obtain ⟨⟨K, rfl, q⟩, rfl⟩ := q
        exact ⟨_, ⟨K, rfl, q, rfl⟩, dzc_21 ⟨by decide, K, rfl, rfl⟩⟩) (by decide) (by decide) (by decide)) (fun _ _ q => q) (by omega) (by omega) (by omega)
    have emp : (σ 3 2).toInt = 27 → wk_X3_advance σ (fun s159 => Q s159) := fun c => sp_gadv tk ga (by omega) (fun s2 a2 => k s2 (grz_wk (adv_z (P := fun z => ∃ K, z = (1, K, []) ∧ sk m K) a2) (fun _ _ q => q) (by omega) (by omega) (by omega)) (p0_of a2.2.2.2.2.1 hp))
    have con : (σ 3 2).toInt = 9 → Kb x σ (fun s198 => Q s198) := fun c => hc (by omega) x σ _ hx tk ga cb hp (by omega) k
    refine fun _ => ⟨fun _ => trivial, fun _ => ⟨fun _ => trivial, fun _ => ⟨fun _ => trivial, fun _ => ⟨con, fun _ => ⟨fun _ => trivial, fun _ => ⟨fun c => by omega, fun _ => ⟨fun c => by omega, fun _ => ⟨fun c => by omega, fun _ => ⟨fun _ => trivial, fun _ => ⟨fun _ => trivial, fun _ => ⟨fun _ => trivial, fun _ => ⟨fun _ => trivial, fun _ => ⟨fun _ => trivial, fun _ => ⟨fun _ => trivial, fun _ => ⟨fun _ => trivial, fun _ => ⟨fun _ => trivial, fun _ => ⟨blk, fun _ => ⟨fun _ => trivial, fun _ => ⟨fun _ => trivial, fun _ => ⟨fun _ => trivial, fun _ => ⟨fun _ => trivial, fun _ => ⟨emp, fun _ => trivial⟩⟩⟩⟩⟩⟩⟩⟩⟩⟩⟩⟩⟩⟩⟩⟩⟩⟩⟩⟩⟩⟩
theorem sp_gstatements (hs : SPT Kd d m) : SPS (wk_X3_statements Ka Kb Kc Kd Ke) d m := fun x σ Q hx tk ga cb hp k => by
  unfold wk_X3_statements
  refine sp_gexpect tk ga (by decide) (fun s3 r3' p3' e3 => ?_)
  have r3 := exp_z (P := fun z => ∃ K, z = (1, K, []) ∧ sk m K) r3' e3
  refine ⟨fun n y s => n = y.toInt.toNat ∧ GRz σ s (kR m) (-2) (-4) (-1) ∧ P0 s, ⟨_, rfl, r3, p0_of p3' hp⟩, ?_⟩
  rintro n y s ⟨hn, r, p⟩
  have tks := tk_kg r.1 tk
  refine ⟨True, fun _ => ?_, fun _ => trivial, fun c => ⟨fun _ => trivial, fun _ => ⟨fun _ => trivial, fun _ => ?_⟩⟩⟩
  · refine sp_gexpect tks r.2.1 (by decide) (fun s4 r4' p4' e4 => k s4 ?_ (p0_of p4' p))
    exact grz_wk (grz_tr (R'' := kR m) ga r (exp_z (P := fun _ => True) r4' e4) (fun z z'' q => ⟨z'', q, trivial, rfl⟩)) (fun _ _ q => q) (by omega) (by omega) (by omega)
  · refine hs x s _ hx tks r.2.1 (cb_grz cb r (by omega)) p (fun s4 r4 p4 => ⟨_, dn_lt hn c, rfl, ?_, p4⟩)
    exact grz_wk (grz_tr (R'' := kR m) ga r r4 (fun z z'' q => ⟨z, ⟨q.1, rfl⟩, q⟩)) (fun _ _ q => q) (by omega) (by omega) (by omega)
end GSG
/-- at so much fuel -/
def EFs (n : Nat) : Prop := ∀ d : Nat, 1 ≤ d → d ≤ 26 →
  (4 * (26 - d) + 3 < n → SPT (KVB n).2.2.2.1 d (d - 1)) ∧
  (d ≤ 25 → 4 * (26 - d) + 2 < n → SPW (KVB n).2.1 d (d - 1)) ∧
  (d ≤ 25 → 4 * (26 - d) + 2 < n → SPW (KVB n).2.2.1 d (d - 1)) ∧
  (d ≤ 25 → 4 * (26 - d) + 1 < n → SPB (KVB n).1 d d) ∧
  (4 * (26 - d) + 4 < n → SPS (KVB n).2.2.2.2 d (d - 1))
theorem spt_le {K : KX1} {d m m' : Nat} (h : SPS K d m) (hm : m' ≤ m) : SPS K d m' := fun x σ Q hx tk ga cb hp k => h x σ Q hx tk ga cb hp (fun s r p => k s (grz_wk r (fun z z' q => by
  obtain ⟨⟨K, rfl, q⟩, rfl⟩ := q
  exact ⟨⟨K, rfl, by have := q.1; omega, q.2⟩, rfl⟩) (Int.le_refl _) (Int.le_refl _) (Int.le_refl _)) p)
theorem efs_0 : EFs 0 := fun d h1 h2 => ⟨fun h => absurd h (Nat.not_lt_zero _), fun _ h => absurd h (Nat.not_lt_zero _), fun _ h => absurd h (Nat.not_lt_zero _), fun _ h => absurd h (Nat.not_lt_zero _), fun h => absurd h (Nat.not_lt_zero _)⟩
theorem efs_s {n : Nat} (ih : EFs n) : EFs (n + 1) := fun d h1 h2 => by
  obtain ⟨g1, g2, g3, g4, g5⟩ := ih d h1 h2
  have up : d + 1 ≤ 26 → _ := fun h => ih (d + 1) (by omega) h
  have e1 : d + 1 - 1 = d := by omega
  have e2 : d - 1 + 1 = d := by omega
  refine ⟨fun hn => ?_, fun h5 hn => ?_, fun h5 hn => ?_, fun h5 hn => ?_, fun hn => ?_⟩
  · show SPT (wk_X3_statement ((KVB n).1) ((KVB n).2.1) ((KVB n).2.2.1) ((KVB n).2.2.2.1) ((KVB n).2.2.2.2)) d _
    exact sp_gstatement (fun h => g2 h (by omega)) (fun h => g3 h (by omega)) (fun h => spt_le ((up (by omega)).2.2.2.2 (by omega)) (by omega)) (by omega)
  · show SPW (wk_X3_conditional ((KVB n).1) ((KVB n).2.1) ((KVB n).2.2.1) ((KVB n).2.2.2.1) ((KVB n).2.2.2.2)) d _
    exact sp_gconditional (by rw [e2]; exact g4 h5 (by omega)) (by omega)
  · show SPW (wk_X3_loop ((KVB n).1) ((KVB n).2.1) ((KVB n).2.2.1) ((KVB n).2.2.2.1) ((KVB n).2.2.2.2)) d _
    exact sp_gloop (by rw [e2]; exact g4 h5 (by omega)) (by omega)
  · show SPB (wk_X3_body ((KVB n).1) ((KVB n).2.1) ((KVB n).2.2.1) ((KVB n).2.2.2.1) ((KVB n).2.2.2.2)) d _
    exact sp_gbody (by have := (up (by omega)).1 (by omega); rw [e1] at this; exact this) (by omega) (by omega)
  · show SPS (wk_X3_statements ((KVB n).1) ((KVB n).2.1) ((KVB n).2.2.1) ((KVB n).2.2.2.1) ((KVB n).2.2.2.2)) d _
    exact sp_gstatements (g1 (by omega))
theorem efs_all : ∀ n, EFs n
  | 0 => efs_0
  | n + 1 => efs_s (efs_all n)
theorem spg_stms : SPS wkG_statements 1 0 := (efs_all 160 1 (by decide) (by decide)).2.2.2.2 (by decide)
