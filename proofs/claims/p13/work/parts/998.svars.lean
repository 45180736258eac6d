/-! the class's grammar of statements: variables, whole -/
section SVS
variable {kd vl : Nat → Int} {n p d w ty nm : Nat} {σ0 σ s : St} {g : List Gsq} {a1 a2 a3 : Int32} {k lk : Int} {Q : St → Prop}
theorem flt_mid {X r : List Gsq} {a : Stq} (h : a.1 ≠ 40) : fltq 0 (X ++ [gq a] ++ r) = fltq 0 X ++ (a :: fltq (0 + ((fltq 0 X).length + 1)) r) := by
  rw [flt_app, flt_add h, List.append_assoc, List.length_append]
  rfl
theorem gj_variables (h : GJq σ0 σ) (k : ∀ s, GJq σ0 s → Q s) : pk_X3_variables a1 a2 a3 σ Q := by
  unfold pk_X3_variables
  refine ⟨fun _ _ _ _ s => GJq σ0 s, h, fun x4 x5 x6 x7 s w6 j => ⟨True, fun _ => gj_expect j (by decide) k, fun _ => trivial, fun _ => ⟨fun _ => trivial, fun _ => ?_⟩⟩⟩
  have e := j.2.2
  exact ⟨fun _ s => GJq σ0 s, fun y s45 j45 => ⟨fun y => y.toInt = 0, fun y61 _ h61 => ⟨fun _ => True, fun y82 _ => gj_add j45 (fun _ s82 j82 => ⟨fun s => GJq σ0 s, fun s99 j99 => gj_accept j99 (by decide) ⟨fun _ _ s => GJq σ0 s, fun _ _ s j => j, fun _ => j99, fun c => absurd rfl c⟩, fun _ => j82, fun c => absurd h61 c⟩), fun _ => trivial, fun _ => trivial⟩, fun _ => rfl, fun c => by have := j45.2.2; omega⟩, fun _ => j, fun c => by omega⟩
/-- behind a variable's name and its [ ]: tB its steps, by the size that is told behind = -/
def VBq (kd vl : Nat → Int) (n : Nat) (σ0 : St) (g : List Gsq) (lk : Int) (nm ty p1 : Nat) (y : Int32) (s : St) : Prop :=
  (∃ (br : Bool) (pb : Nat) (tB : Int → List Gsq), GTq kd n σ0 s pb (g ++ tB 0) ∧ (0 ≤ y.toInt ↔ br = true) ∧ (br = false → ∀ c, tB c = tB 0) ∧ (∀ c, lnq (tB c) = lnq (tB 0)) ∧ (lnq (tB 0) : Int) + 2 * p1 ≤ 2 * pb ∧ p1 ≤ pb
    ∧ (∀ s q r (v : Int32), GTq kd n σ0 s q (g ++ tB 0 ++ r) → GTq kd n σ0 (upF s 21 (setv 32100 (s 21) y v)) q (g ++ tB (if br = true then v.toInt else 0) ++ r))
    ∧ (kd pb = 30 → (∀ q ri c, EVq (fun n => INn kd vl n br ty pb) (some (q, ri, c)) → EVq (fun n => V1n kd vl n lk nm ty p1) (some (q, tB c ++ [gq (43, nm, (ty : Int), lk + 4)] ++ ri))) ∧ (EVq (fun n => INn kd vl n br ty pb) none → EVq (fun n => V1n kd vl n lk nm ty p1) none))
    ∧ (kd pb ≠ 30 → EVq (fun n => V1n kd vl n lk nm ty p1) (some (pb, tB 0 ++ [gq (43, nm, (ty : Int), lk)]))))
  ∨ (GJq σ0 s ∧ EVq (fun n => V1n kd vl n lk nm ty p1) none)
theorem vb_none (h : GTq kd n σ0 σ p g) (c : kd p ≠ 24) : VBq kd vl n σ0 g lk nm ty p ((-1) : Int32) σ := by
  refine Or.inl ⟨false, p, fun _ => [], by rw [List.append_nil]; exact h, ⟨fun h => absurd h (by decide), fun h => absurd h (by decide)⟩, fun _ _ => rfl, fun _ => rfl, by rw [lnq_nil]; omega, Nat.le_refl _, fun s q r v hs => ?_, fun c30 => ⟨fun q ri cnt hi => ev_f c (ev_t c30 (ev_b hi ev_c)), fun hi => ev_f c (ev_t c30 (ev_b0 hi))⟩, fun c30 => ev_f c (ev_f c30 ev_c)⟩
  rw [setv_out (Or.inl (by decide)), upF_id]
  exact hs
theorem vb_some {v : Int32} {gb : List Gsq} {gv : Int} {p' : Nat} (t0 : TKv σ0 kd vl n) (c : kd p = 24) (hb : EVq (fun n => BKn kd n p) (some (p', gb, gv))) (h : GTq kd n σ0 s p' (g ++ gb ++ [gq (42, p, gv, 0)])) (hv : v.toInt = (lnq (g ++ gb) : Int)) (hl : (lnq (g ++ gb) : Int) ≤ 32090) (hb2 : (lnq gb : Int) + 2 * p + 3 ≤ 2 * p') (hpp : p < p') : VBq kd vl n σ0 g lk nm ty p v s := by
  have e42 : ∀ x : Int, lnq (gb ++ [gq (42, p, gv, x)]) = lnq gb + 1 := fun x => by rw [lnq_app, lnq_one (a := (42, p, gv, x)) (by simp)]
  refine Or.inl ⟨true, p', fun x => gb ++ [gq (42, p, gv, x)], by rw [← List.append_assoc]; exact h, ⟨fun _ => rfl, fun _ => by omega⟩, fun hx => absurd hx (by decide), fun x => by rw [e42, e42], by rw [e42]; omega, by omega, fun s q r x hs => ?_, fun c30 => ⟨fun q ri cnt hi => ?_, fun hi => ev_t c (ev_b hb (ev_t c30 (ev_b0 hi)))⟩, fun c30 => ?_⟩
  · rw [if_pos rfl]
    obtain ⟨h1, h2, h3⟩ := hs
    have ea : ∀ x : Int, g ++ (gb ++ [gq (42, p, gv, x)]) ++ r = (g ++ gb) ++ [gq (42, p, gv, x)] ++ r := fun x => by simp only [List.append_assoc]
    have tb := h2.2.2.2.2
    rw [ea, flt_mid (by simp)] at tb
    refine ⟨kp_tr h1 (kg_F rfl), gst_F h2 (by decide) ?_, by rw [rdF_ne (by decide)]; exact h3⟩
    rw [ea, flt_mid (by simp)]
    exact tbl_p21 tb hv (by have : (fltq 0 (g ++ gb)).length = lnq (g ++ gb) := rfl; omega)
  · exact ev_t c (ev_b hb (ev_t c30 (ev_b hi ev_c)))
  · exact ev_t c (ev_b hb (ev_f c30 ev_c))
theorem gt_variables (t0 : TKv σ0 kd vl n) (h : GTq kd n σ0 σ p g) (hl : (lnq g : Int) ≤ 2 * p + 64) (hp1 : 1 ≤ p) (ha1 : a1.toInt = (nm : Int)) (ha2 : a2.toInt = (ty : Int)) (hlk : 0 ≤ lk ∧ lk ≤ 2) (ha3 : a3.toInt = lk)
    (k1 : ∀ s p' g', EVq (fun n => VSn kd vl n lk nm ty p) (some (p', g')) → GTq kd n σ0 s p' (g ++ g') → (lnq g' : Int) + 2 * p + 1 ≤ 2 * p' → p < p' → Q s) (k0 : ∀ s, GJq σ0 s → EVq (fun n => VSn kd vl n lk nm ty p) none → Q s) : pk_X3_variables a1 a2 a3 σ Q := by
  have h16 := t0.1.2.1
  unfold pk_X3_variables
  refine ⟨fun x4 x5 x6 x7 s => (∃ p1 gi, GTq kd n σ0 s p1 (g ++ gi) ∧ p ≤ p1 ∧ ((x6.toInt = 1 ∧ (lnq gi : Int) + 2 * p ≤ 2 * p1 ∧ (n : Int) + 1 + p ≤ x7.toInt + p1 ∧ ∃ nm2 ty2 : Nat, x4.toInt = (nm2 : Int) ∧ x5.toInt = (ty2 : Int) ∧ (∀ q l, EVq (fun n => VSn kd vl n lk nm2 ty2 p1) (some (q, l)) → EVq (fun n => VSn kd vl n lk nm ty p) (some (q, gi ++ l))) ∧ (EVq (fun n => VSn kd vl n lk nm2 ty2 p1) none → EVq (fun n => VSn kd vl n lk nm ty p) none))
      ∨ (x6.toInt = 0 ∧ (lnq gi : Int) + 2 * p ≤ 2 * p1 + 1 ∧ (kd p1 = 27 → EVq (fun n => VSn kd vl n lk nm ty p) (some (p1 + 1, gi))) ∧ (kd p1 ≠ 27 → EVq (fun n => VSn kd vl n lk nm ty p) none))))
    ∨ (GJq σ0 s ∧ EVq (fun n => VSn kd vl n lk nm ty p) none), ?_, ?_⟩
  · have e4 : (σ 2 4).toInt = (n : Int) + 1 := (gt_tk t0 h).1
    refine Or.inl ⟨p, [], by rw [List.append_nil]; exact h, Nat.le_refl _, Or.inl ⟨rfl, by rw [lnq_nil]; omega, by omega, nm, ty, ha1, ha2, fun q l hx => by rw [List.nil_append]; exact hx, id⟩⟩
  rintro x4 x5 x6 x7 s18 w6 hL
  rcases hL with ⟨p1, gi, g18, hpp, ⟨e6, hb, hc, nm2, ty2, e4, e5, y1, y0⟩ | ⟨e6, hb, y1, y0⟩⟩ | ⟨j18, hn⟩
  rotate_left
  · have hn1 := gt_n g18
    refine ⟨True, fun _ => gt_expect t0 g18 (by decide) (fun c s138 g138 => k1 s138 (p1 + 1) gi (y1 c) g138 (by omega) (by omega)) (fun c s138 j138 => k0 s138 j138 (y0 c)), fun _ => trivial, fun _ => ⟨fun _ => trivial, fun c => absurd e6 c⟩⟩
  · refine ⟨True, fun _ => gj_expect j18 (by decide) (fun s138 j138 => k0 s138 j138 hn), fun _ => trivial, fun _ => ⟨fun _ => trivial, fun _ => ?_⟩⟩
    have e := j18.2.2
    exact ⟨fun _ s => GJq σ0 s, fun y s45 j45 => ⟨fun y => y.toInt = 0, fun y61 _ h61 => ⟨fun _ => True, fun y82 _ => gj_add j45 (fun _ s82 j82 => ⟨fun s => GJq σ0 s, fun s99 j99 => gj_accept j99 (by decide) ⟨fun _ _ s => GJq σ0 s, fun _ _ s j => Or.inr ⟨j, hn⟩, fun _ => j99, fun c => absurd rfl c⟩, fun _ => j82, fun c => absurd h61 c⟩), fun _ => trivial, fun _ => trivial⟩, fun _ => rfl, fun c => by have := j45.2.2; omega⟩, fun _ => j18, fun c => by omega⟩
  have hn1 := gt_n g18
  have lg1 : (lnq (g ++ gi) : Int) = lnq g + lnq gi := by rw [lnq_app]; omega
  have none1 : EVq (fun n => V1n kd vl n lk nm2 ty2 p1) none → EVq (fun n => VSn kd vl n lk nm ty p) none := fun hx => y0 (ev_up (ev_b0 hx))
  refine ⟨False, fun f => f.elim, fun c => by omega, fun _ => ⟨fun c => by omega, fun _ => ⟨fun y s => VBq kd vl n σ0 (g ++ gi) lk nm2 ty2 p1 y s, ?_, fun c => vb_none g18 (by rw [gt_kd g18] at c; exact c), fun c => ?_⟩⟩⟩
  rotate_left
  · have c24 : kd p1 = 24 := by rw [gt_kd g18] at c; exact c
    exact gt_bracket t0 g18 c24 (by omega) (fun v s p' gb gv hb' g' hv hb2 hpp2 => vb_some t0 c24 hb' g' hv (by have := gt_n g'; rw [lnq_app]; omega) hb2 hpp2) (fun v s j hb' => Or.inr ⟨j, ev_t c24 (ev_b0 hb')⟩)
  rintro y45 s45 (⟨br, pb, tB, g45, hbr, htB, hln, hbb, hpb, hset, z30, zn⟩ | ⟨j45, hnv⟩)
  rotate_left
  · exact ⟨fun y => y.toInt = 0, fun y61 _ h61 => ⟨fun _ => True, fun y82 _ => gj_add j45 (fun _ s82 j82 => ⟨fun s => GJq σ0 s, fun s99 j99 => gj_accept j99 (by decide) ⟨fun _ _ s => GJq σ0 s, fun _ _ s j => Or.inr ⟨j, none1 hnv⟩, fun _ => j99, fun c => absurd rfl c⟩, fun _ => j82, fun c => absurd h61 c⟩), fun _ => trivial, fun _ => trivial⟩, fun _ => rfl, fun c => by have := j45.2.2; omega⟩
  have hnb := gt_n g45
  refine ⟨fun y => (y.toInt ≠ 0 ↔ kd pb = 30), fun y61 _ h61 => ⟨fun y => y.toInt = (if kd pb = 30 then lk + 4 else lk), fun y82 h82 => ?_, fun c => ?_, fun c => ?_⟩, fun c => ?_, fun c => ?_⟩
  rotate_left
  · rw [if_neg (fun e => h61.2 e c)]
    exact ha3
  · rw [if_pos (h61.1 c)]
    show (a3 + (4 : Int32)).toInt = lk + 4
    rw [adc i4 (by omega) (by omega), ha3]
  · rw [gt_kd g45] at c
    exact ⟨fun h => absurd rfl h, fun h => absurd h c⟩
  · rw [gt_kd g45] at c
    exact ⟨fun _ => c, fun _ => by decide⟩
  have e43 : ∀ x : Int, lnq [gq (43, nm2, (ty2 : Int), x)] = 1 := fun x => lnq_one (a := (43, nm2, (ty2 : Int), x)) (by simp)
  refine gt_add (a := (43, nm2, (ty2 : Int), (if kd pb = 30 then lk + 4 else lk))) g45 (by rw [lnq_app]; omega) (by simp) (by rw [e4, e5, h82]; rfl) (fun _ s82 g82 _ => ?_)
  refine ⟨fun s => (∃ p2 g2, EVq (fun n => V1n kd vl n lk nm2 ty2 p1) (some (p2, g2)) ∧ GTq kd n σ0 s p2 (g ++ gi ++ g2) ∧ (lnq g2 : Int) + 2 * p1 ≤ 2 * p2 + 1 ∧ p1 ≤ p2) ∨ (GJq σ0 s ∧ EVq (fun n => V1n kd vl n lk nm2 ty2 p1) none), ?_, fun c => ?_, fun c => ?_⟩
  rotate_left
  · have c30 : kd pb ≠ 30 := fun e => h61.2 e c
    rw [if_neg c30] at g82
    refine Or.inl ⟨pb, tB 0 ++ [gq (43, nm2, (ty2 : Int), lk)], zn c30, by rw [← List.append_assoc]; exact g82, by rw [lnq_app, e43]; omega, hpb⟩
  · have c30 := h61.1 c
    rw [if_pos c30] at g82
    refine gt_initial t0 br (fun x => g ++ gi ++ tB x ++ [gq (43, nm2, (ty2 : Int), lk + 4)]) ?_ ?_ ?_ g82 c30 hbr e5 (by show (lnq (g ++ gi ++ tB 0 ++ [gq (43, nm2, (ty2 : Int), lk + 4)]) : Int) ≤ _; rw [lnq_app, lnq_app, e43]; omega) (fun s p' ri cnt hi g' hb' hpp' => Or.inl ⟨p', tB cnt ++ [gq (43, nm2, (ty2 : Int), lk + 4)] ++ ri, (z30 c30).1 p' ri cnt hi, ?_, ?_, by omega⟩) (fun s j hi => Or.inr ⟨j, (z30 c30).2 hi⟩)
    · intro s q r v hs
      have := hset s q ([gq (43, nm2, (ty2 : Int), lk + 4)] ++ r) v (by
        simp only [List.append_assoc] at hs ⊢
        exact hs)
      simp only [List.append_assoc] at this ⊢
      exact this
    · intro hf x
      show g ++ gi ++ tB x ++ [gq (43, nm2, (ty2 : Int), lk + 4)] = g ++ gi ++ tB 0 ++ [gq (43, nm2, (ty2 : Int), lk + 4)]
      rw [htB hf x]
    · intro x
      show lnq (g ++ gi ++ tB x ++ [gq (43, nm2, (ty2 : Int), lk + 4)]) = lnq (g ++ gi ++ tB 0 ++ [gq (43, nm2, (ty2 : Int), lk + 4)])
      rw [lnq_app, lnq_app, lnq_app (g1 := g ++ gi ++ tB 0), lnq_app (g1 := g ++ gi) (g2 := tB 0), hln]
    · simp only [List.append_assoc] at g' ⊢
      exact g'
    · rw [lnq_app, lnq_app, e43, hln]
      omega
  rintro s99 (⟨p2, g2, hv1, g99, hb2, hp12⟩ | ⟨j99, hnv⟩)
  rotate_left
  · exact gj_accept j99 (by decide) ⟨fun _ _ s => GJq σ0 s, fun _ _ s j => Or.inr ⟨j, none1 hnv⟩, fun _ => j99, fun c => absurd rfl c⟩
  have hn2 := gt_n g99
  refine gt_accept t0 g99 (by decide) (fun c26 s102 g102 => ⟨fun x4 x5 s => (∃ p3 t3 q3, SRq kd 5 (p2 + 1) = some (t3, q3) ∧ p3 = q3 + 1 ∧ kd q3 = 2 ∧ x4.toInt = (q3 : Int) ∧ x5.toInt = (t3 : Int) ∧ p2 + 1 ≤ q3 ∧ GTq kd n σ0 s p3 (g ++ gi ++ g2)) ∨ (GJq σ0 s ∧ EVq (fun n => VSn kd vl n lk nm ty p) none), ?_, fun c => absurd c (by decide), fun _ => ?_⟩) (fun n26 => ⟨fun _ _ s => GTq kd n σ0 s p2 (g ++ gi ++ g2), fun x4 x5 s g129 => Or.inl ⟨p2, gi ++ g2, by rw [← List.append_assoc]; exact g129, by omega, Or.inr ⟨rfl, by rw [lnq_app]; omega, fun c27 => y1 _ _ (ev_up (ev_b hv1 (ev_f n26 (ev_t c27 ev_c)))), fun n27 => y0 (ev_up (ev_b hv1 (ev_f n26 (ev_f n27 ev_c))))⟩⟩, fun _ => g99, fun c => absurd rfl c⟩)
  · rintro x4' x5' s129 (⟨p3, t3, q3, hs, rfl, k2, ex4, ex5, hq3, g129⟩ | ⟨j129, hn⟩)
    · have hn3 := gt_n g129
      refine Or.inl ⟨q3 + 1, gi ++ g2, by rw [← List.append_assoc]; exact g129, by omega, Or.inl ⟨rfl, by rw [lnq_app]; omega, ?_, q3, t3, ex4, ex5, fun q l hx => ?_, fun hx => y0 (ev_up (ev_b hv1 (ev_t c26 (ev_b (ev_k hs) (ev_t k2 (ev_b0 hx))))))⟩⟩
      · rw [dc1 (by omega)]
        omega
      · have := y1 q (g2 ++ l) (ev_up (ev_b hv1 (ev_t c26 (ev_b (ev_k hs) (ev_t k2 (ev_b hx ev_c))))))
        rw [List.append_assoc]
        exact this
    · exact Or.inr ⟨j129, hn⟩
  · refine gt_stars t0 g102 (fun v s t q3 hs hv g113 hq3 ht => gt_expect t0 g113 (by decide) (fun c2 s126 g126 => Or.inl ⟨q3 + 1, t, q3, hs, rfl, c2, gt_at g113, hv, hq3, g126⟩) (fun c2 s126 j126 => Or.inr ⟨j126, y0 (ev_up (ev_b hv1 (ev_t c26 (ev_b (ev_k hs) (ev_f c2 ev_c)))))⟩)) (fun v s hs j113 => gj_expect j113 (by decide) (fun s126 j126 => Or.inr ⟨j126, y0 (ev_up (ev_b hv1 (ev_t c26 (ev_b0 (ev_k hs)))))⟩))
end SVS
