/-! the class's grammar of statements, whole -/
section SST
variable {kd vl : Nat → Int} {n p d w ty nm : Nat} {σ0 σ s : St} {g : List Gsq} {a1 a2 a3 : Int32} {Q : St → Prop} {R : Option (Nat × List Gsq)}
theorem st_0 (h : 25 < d) : EVq (fun n => STn kd vl n 0 d p) none := ev_up (ev_t h ev_c)
theorem st_22 (hd : ¬ 25 < d) (c : kd p = 22) (h : EVq (fun n => (STn kd vl n 1 (d + 1) (p + 1)).bind fun r => some (r.1, [gq (stp 20 p)] ++ r.2 ++ [gq (stp 21 p)])) R) : EVq (fun n => STn kd vl n 0 d p) R := ev_up (ev_f hd (ev_t c h))
theorem st_27 (hd : ¬ 25 < d) (c : kd p = 27) : EVq (fun n => STn kd vl n 0 d p) (some (p + 1, [])) := ev_up (ev_f hd (ev_f (by omega) (ev_t c ev_c)))
theorem st_5 (hd : ¬ 25 < d) (c : kd p = 5) (h : EVq (fun n => (SRq kd 5 (p + 1)).bind fun t => if kd t.2 = 2 then VSn kd vl n 0 t.2 t.1 (t.2 + 1) else none) R) : EVq (fun n => STn kd vl n 0 d p) R := ev_up (ev_f hd (ev_f (by omega) (ev_f (by omega) (ev_t c h))))
theorem st_9 (hd : ¬ 25 < d) (c : kd p = 9) (h : EVq (fun n => (CNn kd n 23 p (p + 1)).bind fun c => (STn kd vl n 2 d c.1).bind fun b => if kd b.1 = 10 then (STn kd vl n 2 d (b.1 + 1)).bind fun e => some (e.1, c.2 ++ b.2 ++ [gq (stp 24 p)] ++ e.2 ++ [gq (stp 25 p)]) else some (b.1, c.2 ++ b.2 ++ [gq (stp 25 p)])) R) : EVq (fun n => STn kd vl n 0 d p) R := ev_up (ev_f hd (ev_f (by omega) (ev_f (by omega) (ev_f (by omega) (ev_t c h)))))
theorem st_11 (hd : ¬ 25 < d) (c : kd p = 11) (h : EVq (fun n => (CNn kd n 27 p (p + 1)).bind fun c => (STn kd vl n 2 d c.1).bind fun b => some (b.1, [gq (stp 26 p)] ++ c.2 ++ b.2 ++ [gq (stp 28 p)])) R) : EVq (fun n => STn kd vl n 0 d p) R := ev_up (ev_f hd (ev_f (by omega) (ev_f (by omega) (ev_f (by omega) (ev_f (by omega) (ev_t c h))))))
theorem st_12 (hd : ¬ 25 < d) (c : kd p = 12) (h : EVq (fun n => (STn kd vl n 2 d (p + 1)).bind fun b => if kd b.1 = 11 then (CNn kd n 31 b.1 (b.1 + 1)).bind fun c => if kd c.1 = 27 then some (c.1 + 1, [gq (stp 29 p)] ++ b.2 ++ [gq (stp 30 b.1)] ++ c.2) else none else none) R) : EVq (fun n => STn kd vl n 0 d p) R := ev_up (ev_f hd (ev_f (by omega) (ev_f (by omega) (ev_f (by omega) (ev_f (by omega) (ev_f (by omega) (ev_t c h)))))))
theorem st_13 (hd : ¬ 25 < d) (c : kd p = 13) (h : EVq (fun n => (FHn kd n p).bind fun h => (STn kd vl n 2 d h.1).bind fun b => some (b.1, h.2 ++ b.2 ++ [gq (stp 35 p)])) R) : EVq (fun n => STn kd vl n 0 d p) R := ev_up (ev_f hd (ev_f (by omega) (ev_f (by omega) (ev_f (by omega) (ev_f (by omega) (ev_f (by omega) (ev_f (by omega) (ev_t c h))))))))
theorem st_s (hd : ¬ 25 < d) (c : kd p ≠ 22 ∧ kd p ≠ 27 ∧ kd p ≠ 5 ∧ kd p ≠ 9 ∧ kd p ≠ 11 ∧ kd p ≠ 12 ∧ kd p ≠ 13) (h : EVq (fun n => SIn kd n p) R) : EVq (fun n => STn kd vl n 0 d p) R := by
  refine ev_up (ev_f hd (ev_f c.1 (ev_f c.2.1 (ev_f c.2.2.1 (ev_f c.2.2.2.1 (ev_f c.2.2.2.2.1 (ev_f c.2.2.2.2.2.1 (ev_f c.2.2.2.2.2.2 ?_))))))))
  exact h
theorem st_b (h : EVq (fun n => (STn kd vl n 0 (d + 1) p).bind fun r => some (r.1, [gq (stp 20 p)] ++ r.2 ++ [gq (stp 21 r.1)])) R) : EVq (fun n => STn kd vl n 2 d p) R := ev_up h
theorem sl_e (c : kd p = 23) : EVq (fun n => STn kd vl n 1 d p) (some (p + 1, [])) := ev_up (ev_t c ev_c)
theorem sl_s (c : kd p ≠ 23) (h : EVq (fun n => (STn kd vl n 0 d p).bind fun r => (STn kd vl n 1 d r.1).bind fun q => some (q.1, r.2 ++ q.2)) R) : EVq (fun n => STn kd vl n 1 d p) R := ev_up (ev_f c h)
/-- a method of the group: of statements (0), of bodies (2) -/
def SGt (kd vl : Nat → Int) (n : Nat) (σ0 : St) (sel D : Nat) (B b : Int) (pre : Nat → Prop) (K : Int32 → St → (St → Prop) → Prop) : Prop :=
  ∀ (a1 : Int32) (d p : Nat) (σ : St) (g : List Gsq) (Q : St → Prop), a1.toInt = (d : Int) → d ≤ D → GTq kd n σ0 σ p g → (lnq g : Int) ≤ 2 * p + B → 1 ≤ p → pre p →
  (∀ s p' g', EVq (fun n => STn kd vl n sel d p) (some (p', g')) → GTq kd n σ0 s p' (g ++ g') → (lnq g' : Int) + 2 * p + b ≤ 2 * p' → p < p' → Q s) → (∀ s, GJq σ0 s → EVq (fun n => STn kd vl n sel d p) none → Q s) → K a1 σ Q
def SLt (kd vl : Nat → Int) (n : Nat) (σ0 : St) (K : Int32 → St → (St → Prop) → Prop) : Prop :=
  ∀ (a1 : Int32) (d p : Nat) (σ : St) (g : List Gsq) (Q : St → Prop), a1.toInt = (d : Int) → d ≤ 26 → GTq kd n σ0 σ p g → kd p = 22 → (lnq g : Int) ≤ 2 * p + 63 → 1 ≤ p →
  (∀ s p' g', EVq (fun n => STn kd vl n 1 d (p + 1)) (some (p', g')) → GTq kd n σ0 s p' (g ++ g') → (lnq g' : Int) + 2 * p + 4 ≤ 2 * p' → p + 1 < p' → Q s) → (∀ s, GJq σ0 s → EVq (fun n => STn kd vl n 1 d (p + 1)) none → Q s) → K a1 σ Q
def SJt (σ0 : St) (K : Int32 → St → (St → Prop) → Prop) : Prop := ∀ (a1 : Int32) (σ : St) (Q : St → Prop), GJq σ0 σ → (∀ s, GJq σ0 s → Q s) → K a1 σ Q
variable {Kbody Kconditional Kloop Kstatement Kstatements : Int32 → St → (St → Prop) → Prop}
theorem gj_body (js : SJt σ0 Kstatement) : SJt σ0 (pk_X3_body Kbody Kconditional Kloop Kstatement Kstatements) := fun a1 σ Q j k => by
  unfold pk_X3_body
  exact gj_add j (fun _ s9 j9 => js _ s9 _ j9 (fun s17 j17 => gj_add j17 (fun _ s29 j29 => k s29 j29)))
theorem gt_body (t0 : TKv σ0 kd vl n) (hs : SGt kd vl n σ0 0 26 62 1 (fun _ => True) Kstatement) : SGt kd vl n σ0 2 25 61 (-1) (fun _ => True) (pk_X3_body Kbody Kconditional Kloop Kstatement Kstatements) := fun a1 d p σ g Q ha hd h hl hp _ k1 k0 => by
  have h16 := t0.1.2.1
  have hpn := gt_n h
  have e20 := lnq_one (a := stp 20 p) (by simp [stp])
  unfold pk_X3_body
  refine gt_add (a := stp 20 p) h (by omega) (by simp [stp]) (by rw [gt_at h]; rfl) (fun _ s9 g9 _ => ?_)
  refine hs (a1 + (1 : Int32)) (d + 1) p s9 _ _ (by rw [ad1 (by omega), ha]; rfl) (by omega) g9 (by rw [lnq_app]; omega) hp trivial (fun s17 p1 gs hev g17 hb hpp => ?_) (fun s17 j17 hev => gj_add j17 (fun _ s29 j29 => k0 s29 j29 (st_b (ev_b0 hev))))
  have hp1 := gt_n g17
  have e21 := lnq_one (a := stp 21 p1) (by simp [stp])
  refine gt_add (a := stp 21 p1) g17 (by rw [lnq_app, lnq_app]; omega) (by simp [stp]) (by rw [gt_at g17]; rfl) (fun _ s29 g29 _ => k1 s29 p1 ([gq (stp 20 p)] ++ gs ++ [gq (stp 21 p1)]) (st_b (ev_b hev ev_c)) ?_ (by rw [lnq_app, lnq_app]; omega) hpp)
  simp only [List.append_assoc] at g29 ⊢
  exact g29
theorem gt_conditional (t0 : TKv σ0 kd vl n) (hb0 : SGt kd vl n σ0 2 25 61 (-1) (fun _ => True) Kbody) (jb : SJt σ0 Kbody) : SGt kd vl n σ0 0 25 62 1 (fun p => kd p = 9) (pk_X3_conditional Kbody Kconditional Kloop Kstatement Kstatements) := fun a1 d p σ g Q ha hd h hl hp c9 k1 k0 => by
  have h16 := t0.1.2.1
  have hd' : ¬ 25 < d := by omega
  unfold pk_X3_conditional
  have nk : ∀ s, GJq σ0 s → (s 3 2).toInt ≠ 10 := fun s j => by have := j.2.2; omega
  have bad : ∀ s, GJq σ0 s → EVq (fun n => STn kd vl n 0 d p) none → ∃ J49 : St → Prop, (∀ (s49 : St), J49 s49 → (pk_X3_add (25 : Int32) (σ 3 1) (0 : Int32) (0 : Int32) s49 (fun v55 s55 => Q s55))) ∧ (((s 3 2).toInt ≠ 10 → (J49 s)) ∧ ((s 3 2).toInt = 10 → (pk_X3_add (24 : Int32) (σ 3 1) (0 : Int32) (0 : Int32) s (fun v36 s36 => pk_X3_advance s36 (fun s41 => Kbody a1 s41 (fun s46 => J49 s46)))))) := fun s j hn =>
    ⟨fun s => GJq σ0 s, fun s49 j49 => gj_add j49 (fun _ s55 j55 => k0 s55 j55 hn), fun _ => j, fun c => absurd c (nk s j)⟩
  refine gt_adv t0 h (by omega) (fun s6 g6 => gt_condition t0 g6 (by omega) rfl (by decide) (gt_at h) (fun s13 p1 gc hc g13 hb1 hpp1 => ?_) (fun s13 j13 hc => jb _ s13 _ j13 (fun s18 j18 => bad s18 j18 (st_9 hd' c9 (ev_b0 hc)))))
  have hn1 := gt_n g13
  refine hb0 a1 d p1 s13 _ _ ha hd g13 (by rw [lnq_app]; omega) (by omega) trivial (fun s18 p2 gb hbd g18 hb2 hpp2 => ?_) (fun s18 j18 hbd => bad s18 j18 (st_9 hd' c9 (ev_b hc (ev_b0 hbd))))
  have hn2 := gt_n g18
  have e25 := lnq_one (a := stp 25 p) (by simp [stp])
  have e24 := lnq_one (a := stp 24 p) (by simp [stp])
  refine ⟨fun s => (∃ p3 g3, GTq kd n σ0 s p3 (g ++ g3) ∧ EVq (fun n => STn kd vl n 0 d p) (some (p3, g3 ++ [gq (stp 25 p)])) ∧ (lnq g3 : Int) + 2 * p + 2 ≤ 2 * p3 ∧ p < p3) ∨ (GJq σ0 s ∧ EVq (fun n => STn kd vl n 0 d p) none), ?_, ?_, ?_⟩
  · rintro s49 (⟨p3, g3, g49, hev, hb3, hpp3⟩ | ⟨j49, hn⟩)
    · have hn3 := gt_n g49
      exact gt_add (a := stp 25 p) g49 (by rw [lnq_app]; omega) (by simp [stp]) (by rw [gt_at h]; rfl) (fun _ s55 g55 _ => k1 s55 p3 (g3 ++ [gq (stp 25 p)]) hev (by rw [← List.append_assoc]; exact g55) (by rw [lnq_app]; omega) hpp3)
    · exact gj_add j49 (fun _ s55 j55 => k0 s55 j55 hn)
  · intro c
    rw [gt_kd g18] at c
    exact Or.inl ⟨p2, gc ++ gb, by rw [← List.append_assoc]; exact g18, st_9 hd' c9 (ev_b hc (ev_b hbd (ev_f c ev_c))), by rw [lnq_app]; omega, by omega⟩
  · intro c
    rw [gt_kd g18] at c
    refine gt_add (a := stp 24 p) g18 (by rw [lnq_app, lnq_app]; omega) (by simp [stp]) (by rw [gt_at h]; rfl) (fun _ s36 g36 _ => gt_adv t0 g36 (by omega) (fun s41 g41 => ?_))
    refine hb0 a1 d (p2 + 1) s41 _ _ ha hd g41 (by rw [lnq_app, lnq_app, lnq_app]; omega) (by omega) trivial (fun s46 p3 ge he g46 hb3 hpp3 => Or.inl ⟨p3, gc ++ gb ++ [gq (stp 24 p)] ++ ge, ?_, st_9 hd' c9 (ev_b hc (ev_b hbd (ev_t c (ev_b he ev_c)))), by rw [lnq_app, lnq_app, lnq_app]; omega, by omega⟩) (fun s46 j46 he => Or.inr ⟨j46, st_9 hd' c9 (ev_b hc (ev_b hbd (ev_t c (ev_b0 he))))⟩)
    simp only [List.append_assoc] at g46 ⊢
    exact g46
theorem gt_loop (t0 : TKv σ0 kd vl n) (hb0 : SGt kd vl n σ0 2 25 61 (-1) (fun _ => True) Kbody) (jb : SJt σ0 Kbody) : SGt kd vl n σ0 0 25 62 1 (fun p => kd p = 11 ∨ kd p = 12 ∨ kd p = 13) (pk_X3_loop Kbody Kconditional Kloop Kstatement Kstatements) := fun a1 d p σ g Q ha hd h hl hp cl k1 k0 => by
  have h16 := t0.1.2.1
  have hd' : ¬ 25 < d := by omega
  have ek := gt_kd h
  have ep := gt_at h
  unfold pk_X3_loop
  refine gt_adv t0 h (by omega) (fun s11 g11 => ?_)
  have hn11 := gt_n g11
  rw [ek]
  refine ⟨fun n11 => ⟨fun n12 => ?_, fun c12 => ?_⟩, fun c11 => ?_⟩
  · have c13 : kd p = 13 := by omega
    have e35 := lnq_one (a := stp 35 p) (by simp [stp])
    refine gt_counted t0 g11 (by omega) ep (fun s118 p1 gh hh g118 hb1 hpp1 => ?_) (fun s118 j118 hh => jb _ s118 _ j118 (fun s123 j123 => gj_add j123 (fun _ s132 j132 => k0 s132 j132 (st_13 hd' c13 (ev_b0 hh)))))
    refine hb0 a1 d p1 s118 _ _ ha hd g118 (by rw [lnq_app]; omega) (by omega) trivial (fun s123 p2 gb hbd g123 hb2 hpp2 => ?_) (fun s123 j123 hbd => gj_add j123 (fun _ s132 j132 => k0 s132 j132 (st_13 hd' c13 (ev_b hh (ev_b0 hbd)))))
    have hn2 := gt_n g123
    refine gt_add (a := stp 35 p) g123 (by rw [lnq_app, lnq_app]; omega) (by simp [stp]) (by rw [ep]; rfl) (fun _ s132 g132 _ => k1 s132 p2 (gh ++ gb ++ [gq (stp 35 p)]) (st_13 hd' c13 (ev_b hh (ev_b hbd ev_c))) ?_ (by rw [lnq_app, lnq_app]; omega) (by omega))
    simp only [List.append_assoc] at g132 ⊢
    exact g132
  · have e29 := lnq_one (a := stp 29 p) (by simp [stp])
    refine gt_add (a := stp 29 p) g11 (by omega) (by simp [stp]) (by rw [ep]; rfl) (fun _ s67 g67 _ => ?_)
    have tailj : ∀ s73, GJq σ0 s73 → EVq (fun n => STn kd vl n 0 d p) none → pk_X3_expect (11 : Int32) s73 (fun s85 => pk_X3_add (30 : Int32) (s73 3 1) (0 : Int32) (0 : Int32) s85 (fun v95 s95 => pk_X3_condition (31 : Int32) (s73 3 1) s95 (fun s104 => pk_X3_expect (27 : Int32) s104 (fun s110 => Q s110)))) := fun s73 j73 hn => gj_expect j73 (by decide) (fun s85 j85 => gj_add j85 (fun _ s95 j95 => gj_condition j95 (fun s104 j104 => gj_expect j104 (by decide) (fun s110 j110 => k0 s110 j110 hn))))
    refine hb0 a1 d (p + 1) s67 _ _ ha hd g67 (by rw [lnq_app]; omega) (by omega) trivial (fun s73 p1 gb hbd g73 hb1 hpp1 => ?_) (fun s73 j73 hbd => tailj s73 j73 (st_12 hd' c12 (ev_b0 hbd)))
    have hn1 := gt_n g73
    have e30 := lnq_one (a := stp 30 p1) (by simp [stp])
    refine gt_expect t0 g73 (by decide) (fun c11 s85 g85 => ?_) (fun c11 s85 j85 => gj_add j85 (fun _ s95 j95 => gj_condition j95 (fun s104 j104 => gj_expect j104 (by decide) (fun s110 j110 => k0 s110 j110 (st_12 hd' c12 (ev_b hbd (ev_f c11 ev_c)))))))
    refine gt_add (a := stp 30 p1) g85 (by have := gt_n g85; rw [lnq_app, lnq_app]; omega) (by simp [stp]) (by rw [gt_at g73]; rfl) (fun _ s95 g95 _ => ?_)
    refine gt_condition t0 g95 (by rw [lnq_app, lnq_app, lnq_app]; omega) rfl (by decide) (gt_at g73) (fun s104 p2 gc hc g104 hb2 hpp2 => ?_) (fun s104 j104 hc => gj_expect j104 (by decide) (fun s110 j110 => k0 s110 j110 (st_12 hd' c12 (ev_b hbd (ev_t c11 (ev_b0 hc))))))
    refine gt_expect t0 g104 (by decide) (fun c27 s110 g110 => k1 s110 (p2 + 1) ([gq (stp 29 p)] ++ gb ++ [gq (stp 30 p1)] ++ gc) (st_12 hd' c12 (ev_b hbd (ev_t c11 (ev_b hc (ev_t c27 ev_c))))) ?_ (by rw [lnq_app, lnq_app, lnq_app]; omega) (by omega)) (fun c27 s110 j110 => k0 s110 j110 (st_12 hd' c12 (ev_b hbd (ev_t c11 (ev_b hc (ev_f c27 ev_c))))))
    simp only [List.append_assoc] at g110 ⊢
    exact g110
  · have e26 := lnq_one (a := stp 26 p) (by simp [stp])
    have e28 := lnq_one (a := stp 28 p) (by simp [stp])
    refine gt_add (a := stp 26 p) g11 (by omega) (by simp [stp]) (by rw [ep]; rfl) (fun _ s26 g26 _ => ?_)
    refine gt_condition t0 g26 (by rw [lnq_app]; omega) rfl (by decide) ep (fun s34 p1 gc hc g34 hb1 hpp1 => ?_) (fun s34 j34 hc => jb _ s34 _ j34 (fun s39 j39 => gj_add j39 (fun _ s48 j48 => k0 s48 j48 (st_11 hd' c11 (ev_b0 hc)))))
    refine hb0 a1 d p1 s34 _ _ ha hd g34 (by rw [lnq_app, lnq_app]; omega) (by omega) trivial (fun s39 p2 gb hbd g39 hb2 hpp2 => ?_) (fun s39 j39 hbd => gj_add j39 (fun _ s48 j48 => k0 s48 j48 (st_11 hd' c11 (ev_b hc (ev_b0 hbd)))))
    have hn2 := gt_n g39
    refine gt_add (a := stp 28 p) g39 (by rw [lnq_app, lnq_app, lnq_app]; omega) (by simp [stp]) (by rw [ep]; rfl) (fun _ s48 g48 _ => k1 s48 p2 ([gq (stp 26 p)] ++ gc ++ gb ++ [gq (stp 28 p)]) (st_11 hd' c11 (ev_b hc (ev_b hbd ev_c))) ?_ (by rw [lnq_app, lnq_app, lnq_app]; omega) (by omega))
    simp only [List.append_assoc] at g48 ⊢
    exact g48
theorem gj_statements : SJt σ0 (pk_X3_statements Kbody Kconditional Kloop Kstatement Kstatements) := fun a1 σ Q j k => by
  unfold pk_X3_statements
  exact gj_expect j (by decide) (fun s3 j3 => ⟨fun _ s => GJq σ0 s, j3, fun x2 s14 j14 => ⟨True, fun _ => gj_expect j14 (by decide) k, fun _ => trivial, fun _ => ⟨fun _ => trivial, fun c => by have := j14.2.1; omega⟩⟩⟩)
theorem gt_statements (t0 : TKv σ0 kd vl n) (hs : SGt kd vl n σ0 0 26 62 1 (fun _ => True) Kstatement) : SLt kd vl n σ0 (pk_X3_statements Kbody Kconditional Kloop Kstatement Kstatements) := fun a1 d p σ g Q ha hd h c22 hl hp k1 k0 => by
  have h16 := t0.1.2.1
  unfold pk_X3_statements
  refine gt_expect t0 h (by decide) (fun _ s3 g3 => ?_) (fun c => absurd c22 c)
  refine ⟨fun x s => (∃ p1 gi, GTq kd n σ0 s p1 (g ++ gi) ∧ p + 1 ≤ p1 ∧ (lnq gi : Int) + 2 * (p + 1) ≤ 2 * p1 ∧ (n : Int) + p + 2 ≤ x.toInt + p1 ∧ (∀ q l, EVq (fun n => STn kd vl n 1 d p1) (some (q, l)) → EVq (fun n => STn kd vl n 1 d (p + 1)) (some (q, gi ++ l))) ∧ (EVq (fun n => STn kd vl n 1 d p1) none → EVq (fun n => STn kd vl n 1 d (p + 1)) none)) ∨ (GJq σ0 s ∧ EVq (fun n => STn kd vl n 1 d (p + 1)) none), ?_, ?_⟩
  · have e4 : (s3 2 4).toInt = (n : Int) + 1 := (gt_tk t0 g3).1
    exact Or.inl ⟨p + 1, [], by rw [List.append_nil]; exact g3, by omega, by rw [lnq_nil]; omega, by omega, fun q l hx => by rw [List.nil_append]; exact hx, id⟩
  rintro x s14 (⟨p1, gi, g14, hpp, hb, hc, y1, y0⟩ | ⟨j14, hn⟩)
  · have hn1 := gt_n g14
    have ek := gt_kd g14
    have ew : (s14 3 3).toInt < 0 := g14.2.1.1
    refine ⟨kd p1 = 23, fun c23 => ?_, fun c => by omega, fun _ => ⟨fun c => by omega, fun _ => ⟨fun c => by omega, fun c => ?_⟩⟩⟩
    · refine gt_expect t0 g14 (by decide) (fun _ s48 g48 => k1 s48 (p1 + 1) gi ?_ g48 (by omega) (by omega)) (fun c => absurd c23 c)
      have := y1 _ _ (sl_e c23)
      rw [List.append_nil] at this
      exact this
    · rw [ek] at c
      refine hs a1 d p1 s14 _ _ ha (by omega) g14 (by rw [lnq_app]; omega) (by omega) trivial (fun s36 p2 gs hev g36 hb2 hpp2 => Or.inl ⟨p2, gi ++ gs, by rw [← List.append_assoc]; exact g36, by omega, by rw [lnq_app]; omega, ?_, fun q l hx => ?_, fun hx => y0 (sl_s c (ev_b hev (ev_b0 hx)))⟩) (fun s36 j36 hev => Or.inr ⟨j36, y0 (sl_s c (ev_b0 hev))⟩)
      · have := gt_n g36
        rw [dc1 (by omega)]
        omega
      · have := y1 q (gs ++ l) (sl_s c (ev_b hev (ev_b hx ev_c)))
        rw [List.append_assoc]
        exact this
  · exact ⟨True, fun _ => gj_expect j14 (by decide) (fun s48 j48 => k0 s48 j48 hn), fun _ => trivial, fun _ => ⟨fun _ => trivial, fun c => by have := j14.2.1; omega⟩⟩
theorem gj_statement : SJt σ0 (pk_X3_statement Kbody Kconditional Kloop Kstatement Kstatements) := fun a1 σ Q j k => by
  have e := j.2.2
  unfold pk_X3_statement
  exact ⟨fun _ => ⟨True, fun _ => gj_simple j k, False, fun f => f.elim, ⟨fun c => by omega, fun _ => ⟨fun _ => trivial, fun _ => ⟨fun _ => trivial, fun _ => ⟨fun _ => trivial, fun _ => ⟨fun c => by omega, fun _ => ⟨fun _ => trivial, fun _ => ⟨fun c => by omega, fun _ => ⟨fun c => by omega, fun _ => ⟨fun c => by omega, fun _ => ⟨fun _ => trivial, fun _ => ⟨fun _ => trivial, fun _ => ⟨fun _ => trivial, fun _ => ⟨fun _ => trivial, fun _ => ⟨fun _ => trivial, fun _ => ⟨fun _ => trivial, fun _ => ⟨fun _ => trivial, fun _ => ⟨fun _ => trivial, fun _ => ⟨fun c => by omega, fun _ => ⟨fun _ => trivial, fun _ => ⟨fun _ => trivial, fun _ => ⟨fun _ => trivial, fun _ => ⟨fun _ => trivial, fun _ => ⟨fun c => by omega, fun _ => trivial⟩⟩⟩⟩⟩⟩⟩⟩⟩⟩⟩⟩⟩⟩⟩⟩⟩⟩⟩⟩⟩⟩⟩⟩, fun _ => gj_fail j k⟩
theorem gt_statement (t0 : TKv σ0 kd vl n) (hc0 : SGt kd vl n σ0 0 25 62 1 (fun p => kd p = 9) Kconditional) (hl0 : SGt kd vl n σ0 0 25 62 1 (fun p => kd p = 11 ∨ kd p = 12 ∨ kd p = 13) Kloop) (hs0 : SLt kd vl n σ0 Kstatements) : SGt kd vl n σ0 0 26 62 1 (fun _ => True) (pk_X3_statement Kbody Kconditional Kloop Kstatement Kstatements) := fun a1 d p σ g Q ha hd h hl hp _ k1 k0 => by
  have h16 := t0.1.2.1
  have ek := gt_kd h
  have ep := gt_at h
  have hk := kd_r t0.1 p
  have hpn := gt_n h
  unfold pk_X3_statement
  rw [ek]
  refine ⟨fun hd25 => ?_, fun c => gt_fail h (fun s7 j7 => k0 s7 j7 (st_0 (by omega)))⟩
  have hd' : ¬ 25 < d := by omega
  have semi : kd p = 27 → pk_X3_advance σ (fun s159 => Q s159) := fun c => gt_adv t0 h (by omega) (fun s159 g159 => k1 s159 (p + 1) [] (st_27 hd' c) (by rw [List.append_nil]; exact g159) (by rw [lnq_nil]; omega) (by omega))
  have e20 := lnq_one (a := stp 20 p) (by simp [stp])
  have e21 := lnq_one (a := stp 21 p) (by simp [stp])
  have block : kd p = 22 → pk_X3_add (20 : Int32) (σ 3 1) (0 : Int32) (0 : Int32) σ (fun v134 s134 => Kstatements (a1 + (1 : Int32)) s134 (fun s142 => pk_X3_add (21 : Int32) (σ 3 1) (0 : Int32) (0 : Int32) s142 (fun v151 s151 => Q s151))) := fun c => by
    refine gt_add (a := stp 20 p) h (by omega) (by simp [stp]) (by rw [ep]; rfl) (fun _ s134 g134 _ => hs0 (a1 + (1 : Int32)) (d + 1) p s134 _ _ (by rw [ad1 (by omega), ha]; rfl) (by omega) g134 c (by rw [lnq_app]; omega) hp (fun s142 p1 gs hev g142 hb hpp => ?_) (fun s142 j142 hev => gj_add j142 (fun _ s151 j151 => k0 s151 j151 (st_22 hd' c (ev_b0 hev)))))
    refine gt_add (a := stp 21 p) g142 (by have := gt_n g142; rw [lnq_app, lnq_app]; omega) (by simp [stp]) (by rw [ep]; rfl) (fun _ s151 g151 _ => k1 s151 p1 ([gq (stp 20 p)] ++ gs ++ [gq (stp 21 p)]) (st_22 hd' c (ev_b hev ev_c)) ?_ (by rw [lnq_app, lnq_app]; omega) (by omega))
    simp only [List.append_assoc] at g151 ⊢
    exact g151
  have five : kd p = 5 → pk_X3_advance σ (fun s166 => pk_X3_stars s166 (fun v170 s170 => pk_X3_expect (2 : Int32) s170 (fun s182 => pk_X3_variables (s170 3 1) v170 (0 : Int32) s182 (fun s190 => Q s190)))) := fun c => by
    refine gt_adv t0 h (by omega) (fun s166 g166 => gt_stars t0 g166 (fun v s170 t p1 hst hv g170 hp1 ht => gt_expect t0 g170 (by decide) (fun c2 s182 g182 => ?_) (fun c2 s182 j182 => gj_variables j182 (fun s190 j190 => k0 s190 j190 (st_5 hd' c (ev_b (ev_k hst) (ev_f c2 ev_c)))))) (fun v s170 hst j170 => gj_expect j170 (by decide) (fun s182 j182 => gj_variables j182 (fun s190 j190 => k0 s190 j190 (st_5 hd' c (ev_b0 (ev_k hst)))))))
    exact gt_variables (lk := 0) t0 g182 (by omega) (by omega) (gt_at g170) hv (by omega) rfl (fun s190 p2 gs hev g190 hb hpp => k1 s190 p2 gs (st_5 hd' c (ev_b (ev_k hst) (ev_t c2 hev))) g190 (by omega) (by omega)) (fun s190 j190 hev => k0 s190 j190 (st_5 hd' c (ev_b (ev_k hst) (ev_t c2 hev))))
  have hcond : kd p = 9 → Kconditional a1 σ (fun s198 => Q s198) := fun c => hc0 a1 d p σ g _ ha (by omega) h hl hp c k1 k0
  exact ⟨kd p ≠ 22 ∧ kd p ≠ 27 ∧ kd p ≠ 5 ∧ kd p ≠ 9 ∧ kd p ≠ 11 ∧ kd p ≠ 12 ∧ kd p ≠ 13, fun hj => gt_simple t0 h (by omega) (fun s p' g' hev g1 hb hpp => k1 s p' g' (st_s hd' hj hev) g1 (by omega) hpp) (fun s j hev => k0 s j (st_s hd' hj hev)), kd p = 11 ∨ kd p = 12 ∨ kd p = 13, fun hj => hl0 a1 d p σ g _ ha (by omega) h hl hp hj k1 k0, ⟨fun c => five c, fun n5 => ⟨fun c => by omega, fun n6 => ⟨fun c => by omega, fun n7 => ⟨fun c => by omega, fun n8 => ⟨fun c => hcond c, fun n9 => ⟨fun c => by omega, fun n10 => ⟨fun c => by omega, fun n11 => ⟨fun c => by omega, fun n12 => ⟨fun c => by omega, fun n13 => ⟨fun c => by omega, fun n14 => ⟨fun c => by omega, fun n15 => ⟨fun c => by omega, fun n16 => ⟨fun c => by omega, fun n17 => ⟨fun c => by omega, fun n18 => ⟨fun c => by omega, fun n19 => ⟨fun c => by omega, fun n20 => ⟨fun c => by omega, fun n21 => ⟨fun c => block c, fun n22 => ⟨fun c => by omega, fun n23 => ⟨fun c => by omega, fun n24 => ⟨fun c => by omega, fun n25 => ⟨fun c => by omega, fun n26 => ⟨fun c => semi c, fun n27 => (by omega)⟩⟩⟩⟩⟩⟩⟩⟩⟩⟩⟩⟩⟩⟩⟩⟩⟩⟩⟩⟩⟩⟩⟩⟩
theorem pg_KVB (t0 : TKv σ0 kd vl n) : ∀ N, (SGt kd vl n σ0 2 25 61 (-1) (fun _ => True) (PKVB N).1 ∧ SJt σ0 (PKVB N).1) ∧ SGt kd vl n σ0 0 25 62 1 (fun p => kd p = 9) (PKVB N).2.1 ∧ SGt kd vl n σ0 0 25 62 1 (fun p => kd p = 11 ∨ kd p = 12 ∨ kd p = 13) (PKVB N).2.2.1 ∧ (SGt kd vl n σ0 0 26 62 1 (fun _ => True) (PKVB N).2.2.2.1 ∧ SJt σ0 (PKVB N).2.2.2.1) ∧ (SLt kd vl n σ0 (PKVB N).2.2.2.2 ∧ SJt σ0 (PKVB N).2.2.2.2)
  | 0 => ⟨⟨fun _ _ _ _ _ _ _ _ _ _ _ _ _ _ => trivial, fun _ _ _ _ _ => trivial⟩, fun _ _ _ _ _ _ _ _ _ _ _ _ _ _ => trivial, fun _ _ _ _ _ _ _ _ _ _ _ _ _ _ => trivial, ⟨fun _ _ _ _ _ _ _ _ _ _ _ _ _ _ => trivial, fun _ _ _ _ _ => trivial⟩, ⟨fun _ _ _ _ _ _ _ _ _ _ _ _ _ _ => trivial, fun _ _ _ _ _ => trivial⟩⟩
  | N + 1 => by
    obtain ⟨⟨hb, jb⟩, hc, hl, ⟨hs, js⟩, hss, jss⟩ := pg_KVB t0 N
    exact ⟨⟨gt_body (Kbody := (PKVB N).1) (Kconditional := (PKVB N).2.1) (Kloop := (PKVB N).2.2.1) (Kstatement := (PKVB N).2.2.2.1) (Kstatements := (PKVB N).2.2.2.2) t0 hs, gj_body (Kbody := (PKVB N).1) (Kconditional := (PKVB N).2.1) (Kloop := (PKVB N).2.2.1) (Kstatement := (PKVB N).2.2.2.1) (Kstatements := (PKVB N).2.2.2.2) js⟩, gt_conditional (Kbody := (PKVB N).1) (Kconditional := (PKVB N).2.1) (Kloop := (PKVB N).2.2.1) (Kstatement := (PKVB N).2.2.2.1) (Kstatements := (PKVB N).2.2.2.2) t0 hb jb, gt_loop (Kbody := (PKVB N).1) (Kconditional := (PKVB N).2.1) (Kloop := (PKVB N).2.2.1) (Kstatement := (PKVB N).2.2.2.1) (Kstatements := (PKVB N).2.2.2.2) t0 hb jb, ⟨gt_statement (Kbody := (PKVB N).1) (Kconditional := (PKVB N).2.1) (Kloop := (PKVB N).2.2.1) (Kstatement := (PKVB N).2.2.2.1) (Kstatements := (PKVB N).2.2.2.2) t0 hc hl hss, gj_statement (Kbody := (PKVB N).1) (Kconditional := (PKVB N).2.1) (Kloop := (PKVB N).2.2.1) (Kstatement := (PKVB N).2.2.2.1) (Kstatements := (PKVB N).2.2.2.2)⟩, gt_statements (Kbody := (PKVB N).1) (Kconditional := (PKVB N).2.1) (Kloop := (PKVB N).2.2.1) (Kstatement := (PKVB N).2.2.2.1) (Kstatements := (PKVB N).2.2.2.2) t0 hs, gj_statements (Kbody := (PKVB N).1) (Kconditional := (PKVB N).2.1) (Kloop := (PKVB N).2.2.1) (Kstatement := (PKVB N).2.2.2.1) (Kstatements := (PKVB N).2.2.2.2)⟩
theorem gtG_statements (t0 : TKv σ0 kd vl n) : SLt kd vl n σ0 pkG_statements := (pg_KVB t0 160).2.2.2.2.1
theorem gjG_statements (t0 : TKv σ0 kd vl n) : SJt σ0 pkG_statements := (pg_KVB t0 160).2.2.2.2.2
end SST
