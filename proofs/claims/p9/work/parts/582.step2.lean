/-! the machine: a step, all words -/
section STQ
variable {κ σ s τ t : St} {vs z : List Nat} {G : Nat → Nat → Gh} {K : Nat} {d B f o pc h k : Nat}
/-- what a step needs -/
def SPx (κ : St) (G : Nat → Nat → Gh) (K : Nat) (σ : St) (d B f o pc h k b R nl : Nat) (pw : Int32) : Prop := PG κ G K ∧ CTX κ G K σ d B f o pc h k ∧ (σ 0 97).toInt < 0 ∧ pw.toInt = (pc : Int) ∧ pc < 420000 ∧ FIx κ σ d o b R nl ∧ B ≤ 546 * d ∧ 0 ≤ ((κ 8) pc).toInt ∧ OPn ((κ 8) pc).toInt.toNat ((κ 8) (pc + 1)).toInt (G f o) nl (((κ 10) f).toInt = -1) (CAL κ o) pc h k
theorem sp_stepMore {pw : Int32} {Q : Int32 → St → St → List Nat → Prop} {b R nl : Nat} (H : SPx κ G K σ d B f o pc h k b R nl pw) (hn : ((κ 8) pc).toInt = 5 ∨ ((κ 8) pc).toInt = 6 ∨ ((κ 8) pc).toInt = 11 ∨ ((κ 8) pc).toInt = 19 ∨ ((κ 8) pc).toInt = 20 ∨ ((κ 8) pc).toInt = 21 ∨ ((κ 8) pc).toInt = 22 ∨ ((κ 8) pc).toInt = 23) (kQ : ∀ v s, RES κ G K (MS σ K d k pc) v s → Q v s τ vs) : wp_stepMore pw ((κ 8) (pc + 1)) σ τ vs Q := by
  obtain ⟨hG, c, hoc, hpw, hp, fi, hB, hw0, hop⟩ := H
  have c9 := c
  obtain ⟨c1, c2, c3, c4, c5, c6, c7⟩ := c9
  have hd := fi.2.1
  have a8 : (σ 8) = (κ 8) := funext (fun j => c1 8 j rfl rfl)
  have e2 : (2 : Int32).toInt = 2 := by decide
  have e3 : (3 : Int32).toInt = 3 := by decide
  have e4 : (4 : Int32).toInt = 4 := by decide
  have np : pw.toNatClampNeg = pc := by rw [nt', hpw]; rfl
  have p2 : (pw + (2 : Int32)).toInt = ((pc + 2 : Nat) : Int) := by rw [adc e2 (by omega) (by omega), hpw]; rfl
  have p3 : (pw + (3 : Int32)).toInt = ((pc + 3 : Nat) : Int) := by rw [adc e3 (by omega) (by omega), hpw]; rfl
  have p4 : (pw + (4 : Int32)).toInt = ((pc + 4 : Nat) : Int) := by rw [adc e4 (by omega) (by omega), hpw]; rfl
  have n2 : (pw + (2 : Int32)).toNatClampNeg = pc + 2 := by rw [nt', p2]; rfl
  have n3 : (pw + (3 : Int32)).toNatClampNeg = pc + 3 := by rw [nt', p3]; rfl
  have op : ∀ n : Nat, ((κ 8) pc).toInt = (n : Int) → OPn n ((κ 8) (pc + 1)).toInt (G f o) nl (((κ 10) f).toInt = -1) (CAL κ o) pc h k := fun n q => by
    rw [q] at hop; exact hop
  have hp9 : pc < 1048576 := by omega
  unfold wp_stepMore
  rw [np, a8, n2, n3]
  refine ⟨by omega, ((κ 8) pc).toInt = 20 ∨ ((κ 8) pc).toInt = 21, fun q => ⟨by omega, fun y => (y.toInt = 0 ↔ ((κ 8) pc).toInt = 20), fun y hy hJ => ?_, fun q2 => ⟨fun _ => by omega, fun _ => rfl⟩, fun q2 => ⟨fun q3 => absurd q3 (by decide), fun q3 => by omega⟩⟩, fun q => ?_, fun q5 => ⟨fun q => ?_, fun q6 => ⟨fun q => by omega, fun q7 => ⟨fun q => by omega, fun q8 => ⟨fun q => by omega, fun q9 => ⟨fun q => by omega, fun q10 => ⟨fun q => ?_, fun q11 => ⟨fun q => by omega, fun q12 => ⟨fun q => by omega, fun q13 => ⟨fun q => by omega, fun q14 => ⟨fun q => by omega, fun q15 => ⟨fun q => by omega, fun q16 => ⟨fun q => by omega, fun q17 => ⟨fun q => by omega, fun q18 => ⟨fun q => ?_, fun q19 => ⟨fun q => Or.inl q, fun q20 => ⟨fun q => Or.inr q, fun q21 => ⟨fun q => ?_, fun q22 => ⟨fun q => ?_, fun q23 => by omega⟩⟩⟩⟩⟩⟩⟩⟩⟩⟩⟩⟩⟩⟩⟩⟩⟩⟩⟩
  · -- leave
    refine sp_leave hG.1 c hp9 fi hB ⟨fun y0 => ?_, fun y0 => ?_⟩ kQ
    · obtain ⟨x1, x2⟩ := op 20 (hJ.mp y0)
      exact ⟨x1, by unfold rsF; rw [if_pos x2]⟩
    · have q2 : ((κ 8) pc).toInt = 21 := by
        rcases q with q | q
        · exact absurd (hJ.mpr q) y0
        · exact q
      obtain ⟨x1, x2⟩ := op 21 q2
      exact ⟨x1, by unfold rsF; rw [if_neg x2]⟩
  · -- READ
    obtain ⟨x1, x2⟩ := op 5 q
    refine sp_pop (by omega) (fun v s ks hs => sp_isCell (fun r hr => ⟨fun _ => ?_, fun r1 => ⟨hr r1, ?_⟩⟩))
    · refine sp_trapped (fi_kp fi (kp_sub ks rfl rfl)) (fun s2 k2 o2 => kQ _ _ (mi_end1 c hp9 (kp_tr (kp_sub ks rfl rfl) (kp_sub k2 rfl rfl)) (by rw [o2]; decide)))
    · exact sp_push (by omega) (fun s2 k2 t2 => kQ _ _ (mi_go1 c hp9 (kp_tr (kp_sub ks rfl rfl) (kp_sub k2 rfl rfl)) (by omega) p2 x2))
  · -- WRITE
    obtain ⟨x1, x2⟩ := op 6 q
    refine sp_pop (by omega) (fun v s ks hs => sp_pop (by omega) (fun v2 s2 k2 hs2 => sp_isCell (fun r hr => ?_)))
    have kA : Kp [(0, 81)] [] σ s2 := kp_tr ks k2
    refine ⟨fun s3 t3 z3 => t3 = τ ∧ z3 = vs ∧ (s3 0 81) = (s2 0 81) ∧ (Kp [(0, 81)] [46, 47, 48] σ s3 ∨ (Kp [(0, 81), (0, 86), (0, 94), (0, 95), (0, 96), (0, 97)] [46, 47, 48] σ s3 ∧ 0 ≤ (s3 0 97).toInt)), ?_, fun r0 => ?_, fun r0 => ⟨hr r0, rfl, rfl, rfl, Or.inl (kp_a (kp_sub kA rfl rfl) rfl)⟩⟩
    · rintro s3 _ _ ⟨rfl, rfl, x3, x4⟩
      refine sp_push (by rw [x3]; omega) (fun s4 k4 t4 => kQ _ _ ?_)
      rw [x3] at t4
      rcases x4 with x4 | ⟨x4, x5⟩
      · exact mi_go1 c hp9 (kp_tr x4 (kp_sub k4 rfl rfl)) (by omega) p2 x2
      · exact mi_end1 c hp9 (kp_tr x4 (kp_sub k4 rfl rfl)) (by rw [show (s4 0 97) = (s3 0 97) from k4 _ _ rfl rfl]; exact x5)
    · exact sp_trapped (fi_kp fi (kp_sub kA rfl rfl)) (fun s3 k3 o3 => ⟨rfl, rfl, k3 _ _ rfl rfl, Or.inr ⟨kp_tr (kp_sub kA rfl rfl) (kp_sub k3 rfl rfl), by rw [o3]; decide⟩⟩)
  · -- WORK
    obtain ⟨x1, x2⟩ := op 11 q
    refine sp_pop (by omega) (fun v s ks hs => sp_pop (by omega) (fun v2 s2 k2 hs2 => ?_))
    have kA : Kp [(0, 81)] [] σ s2 := kp_tr ks k2
    refine ⟨((κ 8) (pc + 1)).toInt = 39 ∨ ((κ 8) (pc + 1)).toInt = 40 → v.toInt ≠ 0, fun hz => sp_work hz (fun r => sp_push (by omega) (fun s3 k3 t3 => kQ _ _ (mi_go1 c hp9 (kp_tr (kp_sub kA rfl rfl) (kp_sub k3 rfl rfl)) (by omega) p3 x2))), True, fun _ => ⟨fun r _ => r, fun _ => ⟨by omega, ?_⟩⟩, fun _ => trivial, fun r => ⟨fun r2 r3 => by omega, fun _ => trivial⟩⟩
    exact sp_trapped (fi_kp fi (kp_sub kA rfl rfl)) (fun s3 k3 o3 => kQ _ _ (mi_end1 c hp9 (kp_tr (kp_sub kA rfl rfl) (kp_sub k3 rfl rfl)) (by rw [o3]; decide)))
  · -- CALL
    obtain ⟨h', x1, x2⟩ := op 19 q
    exact ⟨by omega, sp_mcall hG c hoc hpw (by omega) fi hB x1 x2 kQ⟩
  · -- STEP
    obtain ⟨x1, x2⟩ := op 22 q
    refine sp_pop (by omega) (fun v s ks hs => sp_isCell (fun r hr => ⟨fun r1 => ⟨hr r1, by omega, hr r1, by omega, fun _ => True, fun y _ => ?_, fun _ => ⟨hr r1, by omega, trivial⟩, fun _ => ⟨hr r1, trivial⟩⟩, fun _ => ?_⟩))
    · exact sp_push (by show 0 ≤ (s 0 81).toInt ∧ (s 0 81).toInt < 140000; omega) (fun s2 k2 t2 => kQ _ _ (mi_go1 c hp9 (kp_tr (kp_a (kp_sub ks rfl rfl) rfl) (kp_sub k2 rfl rfl)) (by
        have t2' : (s2 0 81).toInt = (s 0 81).toInt + 1 := t2
        omega) p4 x2))
    · exact sp_trapped (fi_kp fi (kp_sub ks rfl rfl)) (fun s2 k2 o2 => kQ _ _ (mi_end1 c hp9 (kp_tr (kp_sub ks rfl rfl) (kp_sub k2 rfl rfl)) (by rw [o2]; decide)))
  · -- STEP_LOCAL
    obtain ⟨⟨x0, x1⟩, x2⟩ := op 23 q
    refine sp_getLocal fi c1 ⟨x0, x1⟩ (fun v => ⟨by omega, sp_setLocal fi c1 ⟨x0, x1⟩ (fun s ks => ⟨by omega, fun _ => True, fun y _ => ?_, fun _ => ⟨by omega, trivial⟩, fun _ => trivial⟩)⟩)
    have et : (s 0 81) = (σ 0 81) := ks _ _ rfl rfl
    exact sp_push (by rw [et]; omega) (fun s2 k2 t2 => kQ _ _ (mi_go1 c hp9 (kp_tr (kp_sub ks rfl rfl) (kp_sub k2 rfl rfl)) (by rw [t2, et]; omega) p4 x2))
theorem sp_step {pw : Int32} {Q : Int32 → St → St → List Nat → Prop} (hG : PG κ G K) (c : CTX κ G K σ d B f o pc h k) (hoc : (σ 0 97).toInt < 0) (hpw : pw.toInt = (pc : Int)) (kQ : ∀ v s, RES κ G K (MS σ K d k pc) v s → Q v s τ vs) : wp_step pw σ τ vs Q := by
  obtain ⟨b, R, nl, fi, hR, ⟨hw0, hop⟩, hkK, hB⟩ := ctx_op hG.1 hG.2.1 hG.2.2.1 hG.2.2.2.1 c
  have hp : pc < 420000 := by have := fi.2.2.2.2.2.2.2.2.1; omega
  have c9 := c
  obtain ⟨c1, c2, c3, c4, c5, c6, c7⟩ := c9
  have SP : SPx κ G K σ d B f o pc h k b R nl pw := ⟨hG, c, hoc, hpw, hp, fi, hB, hw0, hop⟩
  obtain ⟨i1, i2⟩ := fi_ix fi
  have fi9 := fi
  obtain ⟨f1, f2, f3, f4, f5, f6, f7, f8, f9, f10, f11⟩ := fi9
  have a8 : (σ 8) = (κ 8) := funext (fun j => c1 8 j rfl rfl)
  have a27 : (σ 27) = (κ 27) := funext (fun j => c1 27 j rfl rfl)
  have a22 : (σ 22) = (κ 22) := funext (fun j => c1 22 j rfl rfl)
  have e2 : (2 : Int32).toInt = 2 := by decide
  have np : pw.toNatClampNeg = pc := by rw [nt', hpw]; rfl
  have p1 : (pw + (1 : Int32)).toInt = ((pc + 1 : Nat) : Int) := by rw [ad1 (by omega), hpw]; rfl
  have p2 : (pw + (2 : Int32)).toInt = ((pc + 2 : Nat) : Int) := by rw [adc e2 (by omega) (by omega), hpw]; rfl
  have n1 : (pw + (1 : Int32)).toNatClampNeg = pc + 1 := by rw [nt', p1]; rfl
  have er : ((σ 50) d).toNatClampNeg = b := by rw [nt', f3]; rfl
  have eo : ((κ 27) b).toNatClampNeg = o := by rw [nt', f5]; rfl
  have ef : ((κ 22) o).toInt = fO κ o := rfl
  have fo := hG.2.2.2.2.2.1 o (lko_lt hG.2.1 (chf_fr c4).1.1)
  have op : ∀ n : Nat, ((κ 8) pc).toInt = (n : Int) → OPn n ((κ 8) (pc + 1)).toInt (G f o) nl (((κ 10) f).toInt = -1) (CAL κ o) pc h k := fun n q => by
    rw [q] at hop; exact hop
  have hp9 : pc < 1048576 := by omega
  have pushed : ∀ (a v : Int32) (h' q : Nat), h' = h + 1 → v.toInt = (q : Int) → Nx (G f o) k pc q h' → wp_push a σ τ vs (fun s t z => Q v s t z) := fun a v h' q e1 hv nx => sp_push (by omega) (fun s ks hs => kQ _ _ (mi_go1 c hp9 (kp_sub ks rfl rfl) (by omega) hv nx))
  have one : ∀ (a : Int32) (s : St), Kp [(0, 81)] [] σ s → (s 0 81).toInt = (σ 0 81).toInt - 1 → 1 ≤ h → Nx (G f o) k pc (pc + 1) h → wp_push a s τ vs (fun s t z => Q (pw + (1 : Int32)) s t z) := fun a s ks hs h1 nx => sp_push (by omega) (fun s2 k2 hs2 => kQ _ _ (mi_go1 c hp9 (kp_tr (kp_sub ks rfl rfl) (kp_sub k2 rfl rfl)) (by omega) p1 nx))
  unfold wp_step
  rw [np, n1, a8, i2, er, a27, eo, a22]
  refine ⟨by omega, by omega, ((κ 8) pc).toInt = 5 ∨ ((κ 8) pc).toInt = 6 ∨ ((κ 8) pc).toInt = 11 ∨ ((κ 8) pc).toInt = 19 ∨ ((κ 8) pc).toInt = 20 ∨ ((κ 8) pc).toInt = 21 ∨ ((κ 8) pc).toInt = 22 ∨ ((κ 8) pc).toInt = 23, fun q => sp_stepMore SP q (fun v s r => kQ v s r), fun q => pushed _ _ _ _ rfl p2 (op 0 q), fun q0 => ⟨fun q => ?_, fun q1 => ⟨fun q => ?_, fun q2 => ⟨fun q => ?_, fun q3 => ⟨fun q => ?_, fun q4 => ⟨fun q => by omega, fun q5 => ⟨fun q => by omega, fun q6 => ⟨fun q => ?_, fun q7 => ⟨fun q => ?_, fun q8 => ⟨fun q => ?_, fun q9 => ⟨fun q => ?_, fun q10 => ⟨fun q => by omega, fun q11 => ⟨fun q => ?_, fun q12 => ⟨fun q => ?_, fun q13 => ⟨fun q => ?_, fun q14 => ⟨fun q => ?_, fun q15 => ⟨fun q => ?_, fun q16 => ⟨fun q => ?_, fun q17 => ⟨fun q => ?_, fun q18 => ⟨fun q => by omega, fun q19 => ⟨fun q => by omega, fun q20 => ⟨fun q => by omega, fun q21 => ⟨fun q => by omega, fun q22 => ⟨fun q => by omega, fun q23 => ⟨fun q => ?_, fun q24 => ?_⟩⟩⟩⟩⟩⟩⟩⟩⟩⟩⟩⟩⟩⟩⟩⟩⟩⟩⟩⟩⟩⟩⟩⟩⟩
  · obtain ⟨⟨x0, x1⟩, x2⟩ := op 1 q
    exact ⟨by omega, by omega, by omega, by rw [ad (by rw [ef]; omega) (by rw [ef]; omega), ef]; omega, pushed _ _ _ _ rfl p2 x2⟩
  · exact ⟨by omega, by omega, by omega, pushed _ _ _ _ rfl p2 (op 2 q)⟩
  · obtain ⟨x0, x2⟩ := op 3 q
    exact sp_getLocal fi c1 x0 (fun r => pushed _ _ _ _ rfl p2 x2)
  · obtain ⟨x0, x2⟩ := op 4 q
    exact ⟨by omega, sp_rowOf fi c1 x0 (fun r hr => ⟨by omega, pushed _ _ _ _ rfl p2 x2⟩)⟩
  · obtain ⟨x0, x1, x2⟩ := op 7 q
    have et := sb1 (x := (σ 0 81)) (by omega)
    exact ⟨by omega, sp_setLocal fi c1 x0 (fun s ks => kQ _ _ (mi_go1 c hp9 (kp_sub ks rfl rfl) (by rw [show (s 0 81) = (σ 0 81) from ks _ _ rfl rfl]; omega) p2 x2))⟩
  · obtain ⟨x0, x2⟩ := op 8 q
    exact sp_clear fi c1 x0 (fun s ks => kQ _ _ (mi_go1 c hp9 (kp_sub ks rfl rfl) (by rw [show (s 0 81) = (σ 0 81) from ks _ _ rfl rfl]; omega) p2 x2))
  · obtain ⟨x1, x2⟩ := op 9 q
    have et := sb1 (x := (σ 0 81)) (by omega)
    exact ⟨by omega, pushed _ _ _ _ rfl p1 x2⟩
  · obtain ⟨x1, x2⟩ := op 10 q
    have et := sb1 (x := (σ 0 81)) (by omega)
    refine kQ _ _ (mi_go1 (h' := h - 1) c hp9 (kp_f kp_rf rfl) ?_ p1 x2)
    show ((σ 0 81) - (1 : Int32)).toInt = _
    omega
  · obtain ⟨x1, x2⟩ := op 12 q
    exact sp_pop (by omega) (fun v s ks hs => one _ s ks hs x1 x2)
  · obtain ⟨x1, x2⟩ := op 13 q
    exact sp_pop (by omega) (fun v s ks hs => one _ s ks hs x1 x2)
  · obtain ⟨x1, x2⟩ := op 14 q
    exact sp_pop (by omega) (fun v s ks hs => ⟨fun _ => True, fun y _ _ => one _ s ks hs x1 x2, fun _ => trivial, fun _ => trivial⟩)
  · obtain ⟨x1, x2, -⟩ := op 15 q
    exact kQ _ _ (mi_go1 c hp9 (kp_rf) (by omega) (by omega : ((κ 8) (pc + 1)).toInt = ((((κ 8) (pc + 1)).toInt.toNat : Nat) : Int)) x2)
  · obtain ⟨x1, x0, x2, x3⟩ := op 16 q
    exact sp_pop (by omega) (fun v s ks hs => ⟨fun _ => kQ _ _ (mi_go1 c hp9 (kp_sub ks rfl rfl) (by omega) p2 x3), fun _ => kQ _ _ (mi_go1 c hp9 (kp_sub ks rfl rfl) (by omega) (by omega : ((κ 8) (pc + 1)).toInt = ((((κ 8) (pc + 1)).toInt.toNat : Nat) : Int)) x2)⟩)
  · obtain ⟨x1, x0, x2, x3⟩ := op 17 q
    exact sp_pop (by omega) (fun v s ks hs => ⟨fun _ => kQ _ _ (mi_go1 c hp9 (kp_sub ks rfl rfl) (by omega) p2 x3), fun _ => kQ _ _ (mi_go1 c hp9 (kp_sub ks rfl rfl) (by omega) (by omega : ((κ 8) (pc + 1)).toInt = ((((κ 8) (pc + 1)).toInt.toNat : Nat) : Int)) x2)⟩)
  · obtain ⟨x1, k', x2⟩ := op 18 q
    exact ⟨fun ne => kQ _ _ (mi_turn hG.1 c hp9 ne p2 x2), fun _ => sp_trapped fi (fun s ks os => kQ _ _ (mi_end1 c hp9 (kp_sub ks rfl rfl) (by rw [os]; decide)))⟩
  · obtain ⟨x1, x2⟩ := op 24 q
    exact sp_pop (by omega) (fun v s ks hs => ⟨fun _ => True, fun y _ _ => one _ s ks hs x1 x2, fun _ => trivial, fun _ => trivial⟩)
  · by_cases big : 25 ≤ ((κ 8) pc).toInt
    · exfalso
      obtain ⟨n, hn⟩ : ∃ n : Nat, ((κ 8) pc).toInt.toNat = n + 25 := ⟨((κ 8) pc).toInt.toNat - 25, by omega⟩
      rw [hn] at hop
      exact hop
    · omega
end STQ
