/-! the class's grammar: units -/
section SUN
variable {kd vl : Nat → Int} {n p d w ty nm k t q : Nat} {σ0 σ s : St} {g : List Gsq} {l : List (Nat × Nat)} {x a1 a2 a3 a4 : Int32} {lk res : Int} {R : Option (Nat × List Gsq)}
theorem fu_n (h : HDn kd p = none) : EVq (fun n => FUn kd vl n lk res nm p) none := ev_b0 (ev_k h)
theorem fu_0 {p' : Nat} (h : HDn kd p = some (p', l)) (c1 : kd p' ≠ 22) (c2 : kd p' ≠ 27) : EVq (fun n => FUn kd vl n lk res nm p) none := ev_b (ev_k h) (ev_f c1 (ev_f c2 ev_c))
theorem fu_p {p' : Nat} (h : HDn kd p = some (p', l)) (c1 : kd p' ≠ 22) (c2 : kd p' = 27) : EVq (fun n => FUn kd vl n lk res nm p) (some (p' + 1, [gq (47, nm, sgI l, (res + 1) * 8 + lk)])) := ev_b (ev_k h) (ev_f c1 (ev_t c2 ev_c))
theorem fu_b {p' q : Nat} {gs : List Gsq} (h : HDn kd p = some (p', l)) (c1 : kd p' = 22) (hb : EVq (fun n => STn kd vl n 1 1 (p' + 1)) (some (q, gs))) : EVq (fun n => FUn kd vl n lk res nm p) (some (q, [gq (47, nm, sgI l, (res + 1) * 8 + lk + 4)] ++ l.map (fun x => gq (48, x.2, (x.1 : Int), 0)) ++ gs ++ [gq (stp 49 nm)])) := ev_b (ev_k h) (ev_t c1 (ev_b hb ev_c))
theorem fu_b0 {p' : Nat} (h : HDn kd p = some (p', l)) (c1 : kd p' = 22) (hb : EVq (fun n => STn kd vl n 1 1 (p' + 1)) none) : EVq (fun n => FUn kd vl n lk res nm p) none := ev_b (ev_k h) (ev_t c1 (ev_b0 hb))
theorem i1_v0 (c : kd p = 6) (c2 : kd (p + 1) ≠ 2) : EVq (fun n => I1n kd vl n lk p) none := ev_t c (ev_f c2 ev_c)
theorem i1_v (c : kd p = 6) (c2 : kd (p + 1) = 2) (h : EVq (fun n => FUn kd vl n lk (-1) (p + 1) (p + 2)) R) : EVq (fun n => I1n kd vl n lk p) R := ev_t c (ev_t c2 h)
theorem i1_0 (c : kd p ≠ 6) (c2 : kd p ≠ 5) : EVq (fun n => I1n kd vl n lk p) none := ev_f c (ev_f c2 ev_c)
theorem i1_s0 (c : kd p = 5) (hs : SRq kd 5 (p + 1) = none) : EVq (fun n => I1n kd vl n lk p) none := ev_f (by omega) (ev_t c (ev_b0 (ev_k hs)))
theorem i1_s1 (c : kd p = 5) (hs : SRq kd 5 (p + 1) = some (t, q)) (c2 : kd q ≠ 2) : EVq (fun n => I1n kd vl n lk p) none := ev_f (by omega) (ev_t c (ev_b (ev_k hs) (ev_f c2 ev_c)))
theorem i1_f (c : kd p = 5) (hs : SRq kd 5 (p + 1) = some (t, q)) (c2 : kd q = 2) (c3 : kd (q + 1) = 20) (h : EVq (fun n => FUn kd vl n lk (t : Int) q (q + 1)) R) : EVq (fun n => I1n kd vl n lk p) R := ev_f (by omega) (ev_t c (ev_b (ev_k hs) (ev_t c2 (ev_t c3 h))))
theorem i1_w (c : kd p = 5) (hs : SRq kd 5 (p + 1) = some (t, q)) (c2 : kd q = 2) (c3 : kd (q + 1) ≠ 20) (h : EVq (fun n => VSn kd vl n lk q t (q + 1)) R) : EVq (fun n => I1n kd vl n lk p) R := ev_f (by omega) (ev_t c (ev_b (ev_k hs) (ev_t c2 (ev_f c3 h))))
theorem un_e (c : kd p = 0) : EVq (fun n => UNn kd vl n p) (some []) := ev_up (ev_t c ev_c)
theorem un_0 (c : kd p ≠ 0) (h : EVq (fun n => I1n kd vl n (lkq (kd p)) (if lkq (kd p) = 0 then p else p + 1)) none) : EVq (fun n => UNn kd vl n p) none := ev_up (ev_f c (ev_b0 h))
theorem un_1 {p' : Nat} {gs : List Gsq} (c : kd p ≠ 0) (h : EVq (fun n => I1n kd vl n (lkq (kd p)) (if lkq (kd p) = 0 then p else p + 1)) (some (p', gs))) (h2 : EVq (fun n => UNn kd vl n p') none) : EVq (fun n => UNn kd vl n p) none := ev_up (ev_f c (ev_b h (ev_b0 h2)))
theorem un_s {p' : Nat} {gs gl : List Gsq} (c : kd p ≠ 0) (h : EVq (fun n => I1n kd vl n (lkq (kd p)) (if lkq (kd p) = 0 then p else p + 1)) (some (p', gs))) (h2 : EVq (fun n => UNn kd vl n p') (some gl)) : EVq (fun n => UNn kd vl n p) (some (gs ++ gl)) := ev_up (ev_f c (ev_b h (ev_b h2 ev_c)))
theorem gt_start {Q : St → Prop} (t0 : TKv σ0 kd vl n) (k : ∀ s, GTq kd n σ0 s 0 [] → Q s) : pk_X3_advance (upC (upC (upC (upC σ0 3 4 (0 : Int32)) 3 9 (0 : Int32)) 3 3 ((-1) : Int32)) 3 1 ((-1) : Int32)) Q := by
  have kk : Kp [(3, 1), (3, 3), (3, 4), (3, 9)] [] σ0 (upC (upC (upC (upC σ0 3 4 (0 : Int32)) 3 9 (0 : Int32)) 3 3 ((-1) : Int32)) 3 1 ((-1) : Int32)) := kp_f (kp_f (kp_f (kp_f kp_rf rfl) rfl) rfl) rfl
  have r1 : (upC (upC (upC (upC σ0 3 4 (0 : Int32)) 3 9 (0 : Int32)) 3 3 ((-1) : Int32)) 3 1 ((-1) : Int32)) 3 1 = -1 := rdA_eq rfl
  have r3 : (upC (upC (upC (upC σ0 3 4 (0 : Int32)) 3 9 (0 : Int32)) 3 3 ((-1) : Int32)) 3 1 ((-1) : Int32)) 3 3 = -1 := by rw [rdA_ne (by decide), rdA_eq rfl]
  have r9 : (upC (upC (upC (upC σ0 3 4 (0 : Int32)) 3 9 (0 : Int32)) 3 3 ((-1) : Int32)) 3 1 ((-1) : Int32)) 3 9 = 0 := by rw [rdA_ne (by decide), rdA_ne (by decide), rdA_eq rfl]
  have r4 : (upC (upC (upC (upC σ0 3 4 (0 : Int32)) 3 9 (0 : Int32)) 3 3 ((-1) : Int32)) 3 1 ((-1) : Int32)) 3 4 = 0 := by rw [rdA_ne (by decide), rdA_ne (by decide), rdA_ne (by decide), rdA_eq rfl]
  generalize upC (upC (upC (upC σ0 3 4 (0 : Int32)) 3 9 (0 : Int32)) 3 3 ((-1) : Int32)) 3 1 ((-1) : Int32) = σ1 at kk r1 r3 r9 r4 ⊢
  have e24 : (σ1 2 4).toInt = (n : Int) + 1 := by rw [kk 2 4 rfl rfl]; exact t0.1.1
  have e0 : ((σ1 3 1) + (1 : Int32)).toInt = 0 := by rw [r1]; decide
  unfold pk_X3_advance
  rw [e0]
  refine ⟨fun y => y.toInt ≠ 0, fun y _ hy => ⟨fun c => absurd c hy, fun _ _ => ?_⟩, False, fun f => f.elim, fun c => by omega, fun _ => ⟨fun c => by omega, fun _ => ⟨fun c => by omega, fun _ => by decide⟩⟩⟩
  have en : ((σ1 3 1) + (1 : Int32)).toNatClampNeg = 0 := by rw [nt', e0]; rfl
  rw [en]
  have k2 : Kp [(3, 1), (3, 2)] [] σ1 (upC (upC σ1 3 1 ((σ1 3 1) + (1 : Int32))) 3 2 (σ1 13 0)) := kp_f (kp_f kp_rf rfl) rfl
  have q1 : (upC (upC σ1 3 1 ((σ1 3 1) + (1 : Int32))) 3 2 (σ1 13 0)) 3 1 = (σ1 3 1) + (1 : Int32) := by rw [rdA_ne (by decide), rdA_eq rfl]
  have q2 : (upC (upC σ1 3 1 ((σ1 3 1) + (1 : Int32))) 3 2 (σ1 13 0)) 3 2 = σ1 13 0 := rdA_eq rfl
  generalize upC (upC σ1 3 1 ((σ1 3 1) + (1 : Int32))) 3 2 (σ1 13 0) = s at k2 q1 q2 ⊢
  refine k s ⟨kp_tr (kp_sub kk rfl rfl) (kg2 k2), ⟨?_, ?_, Nat.zero_le _, ?_, ?_, fun i a p x y e => by cases i <;> cases e⟩, ?_⟩
  · rw [k2 3 3 rfl rfl, r3]; decide
  · rw [q1, e0]; rfl
  · rw [q2, kk 13 0 rfl rfl]
    exact t0.1.2.2.1 0 (Nat.zero_le _)
  · rw [k2 3 4 rfl rfl, r4]; rfl
  · rw [k2 3 9 rfl rfl, r9]; rfl
theorem gt_read {Q : Int32 → St → Prop} (t0 : TKv σ0 kd vl n) (k1 : ∀ s g, EVq (fun n => UNn kd vl n 0) (some g) → KGq σ0 s → TBL s (fltq 0 g) → (lnq g : Int) ≤ 2 * n + 60 → Q 1 s) (k0 : ∀ s, KGq σ0 s → EVq (fun n => UNn kd vl n 0) none → Q 0 s) : pk_X3_read σ0 Q := by
  have h16 := t0.1.2.1
  unfold pk_X3_read
  refine gt_start t0 (fun s21 g21 => ?_)
  have e4 : (s21 2 4).toInt = (n : Int) + 1 := (gt_tk t0 g21).1
  refine ⟨fun x s => (∃ p g, GTq kd n σ0 s p g ∧ (lnq g : Int) ≤ 2 * p + 60 ∧ (n : Int) + 1 ≤ x.toInt + p ∧ (∀ gl, EVq (fun n => UNn kd vl n p) (some gl) → EVq (fun n => UNn kd vl n 0) (some (g ++ gl))) ∧ (EVq (fun n => UNn kd vl n p) none → EVq (fun n => UNn kd vl n 0) none)) ∨ (GJq σ0 s ∧ EVq (fun n => UNn kd vl n 0) none), Or.inl ⟨0, [], g21, by rw [lnq_nil]; omega, by omega, fun gl h => h, id⟩, ?_⟩
  rintro x s32 (⟨p, g, g32, hb, hx, y1, y0⟩ | ⟨j32, hn⟩)
  rotate_left
  · exact ⟨True, fun _ => ⟨fun _ => k0 s32 j32.1 hn, fun c => by have := j32.2.1; omega⟩, fun _ => trivial, fun _ => ⟨fun _ => trivial, fun c => by have := j32.2.1; omega⟩⟩
  have hn1 := gt_n g32
  have ek := gt_kd g32
  have ew : (s32 3 3).toInt < 0 := g32.2.1.1
  have hk := kd_r t0.1 p
  rw [ek]
  refine ⟨kd p = 0, fun c0 => ⟨fun c => by omega, fun _ => ?_⟩, fun c => by omega, fun _ => ⟨fun c => by omega, fun _ => ⟨id, fun c0 => ?_⟩⟩⟩
  · have := y1 [] (un_e c0)
    rw [List.append_nil] at this
    exact k1 s32 g this g32.1 g32.2.1.2.2.2.2 (by omega)
  refine ⟨fun y => y.toInt = lkq (kd p), fun y77 h77 => ?_, fun n7 => ⟨fun n8 => by unfold lkq; rw [if_neg n7, if_neg n8]; rfl, fun c8 => by unfold lkq; rw [if_neg n7, if_pos c8]; rfl⟩, fun c7 => by unfold lkq; rw [if_pos c7]; rfl⟩
  have lk2 : 0 ≤ lkq (kd p) ∧ lkq (kd p) ≤ 2 := by unfold lkq; (repeat' split) <;> omega
  have lk0 : lkq (kd p) ≠ 0 → 2 ≤ kd p := fun h => by unfold lkq at h; (repeat' split at h) <;> omega
  generalize hlk : lkq (kd p) = lk at h77 lk2 lk0
  have nun : EVq (fun n => I1n kd vl n lk (if lk = 0 then p else p + 1)) none → EVq (fun n => UNn kd vl n 0) none := fun h => y0 (un_0 c0 (by rw [hlk]; exact h))
  refine ⟨fun s => GTq kd n σ0 s (if lk = 0 then p else p + 1) g, fun s86 g86 => ?_, fun c => by rw [if_pos (by omega)]; exact g32, fun c => by rw [if_neg (by omega)]; exact gt_adv t0 g32 (lk0 (by omega)) (fun s83 g83 => g83)⟩
  obtain ⟨p1, hp1⟩ : ∃ p1, p1 = (if lk = 0 then p else p + 1) := ⟨_, rfl⟩
  have hpp : p ≤ p1 := by rw [hp1]; split <;> omega
  rw [← hp1] at g86 nun
  have hn2 := gt_n g86
  rw [gt_kd g86]
  -- what an item leaves
  have good : ∀ s p' gs, EVq (fun n => I1n kd vl n lk p1) (some (p', gs)) → GTq kd n σ0 s p' (g ++ gs) → (lnq gs : Int) + 2 * p1 ≤ 2 * p' → p1 < p' → (∃ p g, GTq kd n σ0 s p g ∧ (lnq g : Int) ≤ 2 * p + 60 ∧ (n : Int) + 1 ≤ (x + (-1)).toInt + p ∧ (∀ gl, EVq (fun n => UNn kd vl n p) (some gl) → EVq (fun n => UNn kd vl n 0) (some (g ++ gl))) ∧ (EVq (fun n => UNn kd vl n p) none → EVq (fun n => UNn kd vl n 0) none)) ∨ (GJq σ0 s ∧ EVq (fun n => UNn kd vl n 0) none) := fun s p' gs h1 h2 h3 h4 => by
    have h1' : EVq (fun n => I1n kd vl n (lkq (kd p)) (if lkq (kd p) = 0 then p else p + 1)) (some (p', gs)) := by rw [hlk, ← hp1]; exact h1
    refine Or.inl ⟨p', g ++ gs, h2, by rw [lnq_app]; omega, dn_ge (by omega) (by omega), fun gl hgl => ?_, fun h => y0 (un_1 c0 h1' h)⟩
    have := y1 _ (un_s c0 h1' hgl)
    rw [List.append_assoc]
    exact this
  -- functions
  have func : ∀ (a b : Int32) (res : Int) (nm : Nat) s q, GTq kd n σ0 s q g → p1 + 2 ≤ q → a.toInt = (nm : Int) → b.toInt = res → -1 ≤ res ∧ res ≤ 5 → (∀ R, EVq (fun n => FUn kd vl n lk res nm q) R → EVq (fun n => I1n kd vl n lk p1) R) → pk_X3_head a b y77 s (fun v171 s171 => (v171.toInt = 0 → ((∃ p g, GTq kd n σ0 s171 p g ∧ (lnq g : Int) ≤ 2 * p + 60 ∧ (n : Int) + 1 ≤ (x + (-1)).toInt + p ∧ (∀ gl, EVq (fun n => UNn kd vl n p) (some gl) → EVq (fun n => UNn kd vl n 0) (some (g ++ gl))) ∧ (EVq (fun n => UNn kd vl n p) none → EVq (fun n => UNn kd vl n 0) none)) ∨ (GJq σ0 s171 ∧ EVq (fun n => UNn kd vl n 0) none))) ∧ (v171.toInt ≠ 0 → (pkG_statements (1 : Int32) s171 (fun s179 => pk_X3_add (49 : Int32) a (0 : Int32) (0 : Int32) s179 (fun v189 s189 => (∃ p g, GTq kd n σ0 s189 p g ∧ (lnq g : Int) ≤ 2 * p + 60 ∧ (n : Int) + 1 ≤ (x + (-1)).toInt + p ∧ (∀ gl, EVq (fun n => UNn kd vl n p) (some gl) → EVq (fun n => UNn kd vl n 0) (some (g ++ gl))) ∧ (EVq (fun n => UNn kd vl n p) none → EVq (fun n => UNn kd vl n 0) none)) ∨ (GJq σ0 s189 ∧ EVq (fun n => UNn kd vl n 0) none)))))) := fun a b res nm s q gq' hq ha hb' hres hI =>
    gt_head t0 gq' (by omega) (by omega) ha hb' hres h77 lk2
      (fun s171 p' l hh c22 g171 hlb hpl => ⟨fun c => absurd c (by decide), fun _ => by
        have e49 := lnq_one (a := stp 49 nm) (by simp [stp])
        have e47 := lnq_one (a := (47, nm, sgI l, (res + 1) * 8 + lk + 4)) (by simp)
        refine gtG_statements t0 (1 : Int32) 1 p' s171 _ _ rfl (by omega) g171 c22 (by rw [lnq_app, lnq_app, lnq_map]; omega) (by omega) (fun s179 p2 gs hgs g179 hb2 hp2 => ?_) (fun s179 j179 hgs => gj_add j179 (fun _ s189 j189 => Or.inr ⟨j189, nun (hI _ (fu_b0 hh c22 hgs))⟩))
        have hn3 := gt_n g179
        refine gt_add (a := stp 49 nm) g179 (by rw [lnq_app, lnq_app, lnq_app, lnq_map]; omega) (by simp [stp]) (by rw [ha]; rfl) (fun _ s189 g189 _ => good s189 p2 _ (hI _ (fu_b hh c22 hgs)) ?_ ?_ (by omega))
        · simp only [List.append_assoc] at g189 ⊢
          exact g189
        · rw [lnq_app, lnq_app, lnq_app, lnq_map]
          omega⟩)
      (fun s171 p' l hh n22 c27 g171 hpl => ⟨fun _ => good s171 (p' + 1) _ (hI _ (fu_p hh n22 c27)) g171 (by rw [lnq_one (by simp)]; omega) (by omega), fun c => absurd rfl c⟩)
      (fun s171 j171 hh => ⟨fun _ => Or.inr ⟨j171, nun (hI _ (hh.elim fu_n (fun ⟨p', l, h1, h2, h3⟩ => fu_0 h1 h2 h3)))⟩, fun c => absurd rfl c⟩)
  refine ⟨fun y => (y.toInt ≠ 0 ↔ kd p1 = 6), fun y100 _ h100 => ⟨fun y => y.toInt = (if kd p1 = 6 then 6 else 5), fun y112 h112 => ?_, fun c => by rw [if_neg (fun e => h100.2 e c)]; rfl, fun c => by rw [if_pos (h100.1 c)]; rfl⟩, fun c => ⟨fun h => absurd rfl h, fun h => absurd h c⟩, fun c => ⟨fun _ => c, fun _ => by decide⟩⟩
  -- junk behind
  have jtail : ∀ s112, GJq σ0 s112 → EVq (fun n => UNn kd vl n 0) none → ∀ (v : Int32), pk_X3_expect (2 : Int32) s112 (fun s137 => ∃ J193 : St → Prop, (∀ (s193 : St), J193 s193 → ((∃ p g, GTq kd n σ0 s193 p g ∧ (lnq g : Int) ≤ 2 * p + 60 ∧ (n : Int) + 1 ≤ (x + (-1)).toInt + p ∧ (∀ gl, EVq (fun n => UNn kd vl n p) (some gl) → EVq (fun n => UNn kd vl n 0) (some (g ++ gl))) ∧ (EVq (fun n => UNn kd vl n p) none → EVq (fun n => UNn kd vl n 0) none)) ∨ (GJq σ0 s193 ∧ EVq (fun n => UNn kd vl n 0) none))) ∧ (∃ J165 : Prop, (J165 → (pk_X3_head (s112 3 1) v y77 s137 (fun v171 s171 => (v171.toInt = 0 → (J193 s171)) ∧ (v171.toInt ≠ 0 → (pkG_statements (1 : Int32) s171 (fun s179 => pk_X3_add (49 : Int32) (s112 3 1) (0 : Int32) (0 : Int32) s179 (fun v189 s189 => J193 s189))))))) ∧ ((y100.toInt ≠ 0 → (J165)) ∧ (y100.toInt = 0 → (((s137 3 2).toInt = 20 → (J165)) ∧ ((s137 3 2).toInt ≠ 20 → (pk_X3_variables (s112 3 1) v y77 s137 (fun s159 => J193 s159)))))))) := fun s112 j112 hn v =>
    gj_expect j112 (by decide) (fun s137 j137 => ⟨fun s => GJq σ0 s, fun s193 j193 => Or.inr ⟨j193, hn⟩, True, fun _ => gj_head j137 (fun s171 j171 => ⟨fun _ => j171, fun c => absurd rfl c⟩), fun _ => trivial, fun _ => ⟨fun _ => trivial, fun _ => gj_variables j137 (fun s159 j159 => j159)⟩⟩)
  refine gt_expect t0 g86 (by rw [h112]; split <;> omega) (fun ce s112 g112 => ?_) (fun ce s112 j112 => ?_)
  rotate_left
  · have n56 : kd p1 ≠ 6 ∧ kd p1 ≠ 5 := by rw [h112] at ce; split at ce <;> omega
    have hn := nun (i1_0 n56.1 n56.2)
    exact ⟨fun _ s => GJq σ0 s, fun v s127 j127 => jtail s127 j127 hn v, fun _ => gj_stars j112 (fun _ => j112), fun _ => j112⟩
  have hn3 := gt_n g112
  refine ⟨fun v s => (kd p1 = 6 ∧ v.toInt = -1 ∧ GTq kd n σ0 s (p1 + 1) g) ∨ (kd p1 = 5 ∧ ∃ t q, SRq kd 5 (p1 + 1) = some (t, q) ∧ t ≤ 5 ∧ p1 + 1 ≤ q ∧ v.toInt = (t : Int) ∧ GTq kd n σ0 s q g) ∨ (GJq σ0 s ∧ EVq (fun n => UNn kd vl n 0) none), ?_, fun c => ?_, fun c => Or.inl ⟨h100.1 c, rfl, g112⟩⟩
  rotate_left
  · have n6 : kd p1 ≠ 6 := fun e => h100.2 e c
    have c5 : kd p1 = 5 := by rw [h112, if_neg n6] at ce; exact ce
    exact gt_stars t0 g112 (fun v s t q hs hv g124 hq ht => Or.inr (Or.inl ⟨c5, t, q, hs, ht, hq, hv, g124⟩)) (fun v s hs j124 => Or.inr (Or.inr ⟨j124, nun (i1_s0 c5 hs)⟩))
  rintro v s127 (⟨c6, hv, g127⟩ | ⟨c5, t, q, hs, ht, hq, hv, g127⟩ | ⟨j127, hn⟩)
  · refine gt_expect t0 g127 (by decide) (fun c2 s137 g137 => ⟨_, fun s193 h => h, True, fun _ => func _ _ (-1) (p1 + 1) s137 (p1 + 2) g137 (by omega) (gt_at g127) hv (by omega) (fun R hR => i1_v c6 c2 hR), fun _ => trivial, fun c => absurd (h100.2 c6) (fun h => h c)⟩) (fun c2 s137 j137 => ?_)
    have hn := nun (i1_v0 c6 c2)
    exact ⟨fun s => GJq σ0 s, fun s193 j193 => Or.inr ⟨j193, hn⟩, True, fun _ => gj_head j137 (fun s171 j171 => ⟨fun _ => j171, fun c => absurd rfl c⟩), fun _ => trivial, fun _ => ⟨fun _ => trivial, fun _ => gj_variables j137 (fun s159 j159 => j159)⟩⟩
  · have n6 : ¬ kd p1 = 6 := by omega
    refine gt_expect t0 g127 (by decide) (fun c2 s137 g137 => ?_) (fun c2 s137 j137 => ?_)
    rotate_left
    · have hn := nun (i1_s1 c5 hs c2)
      exact ⟨fun s => GJq σ0 s, fun s193 j193 => Or.inr ⟨j193, hn⟩, True, fun _ => gj_head j137 (fun s171 j171 => ⟨fun _ => j171, fun c => absurd rfl c⟩), fun _ => trivial, fun _ => ⟨fun _ => trivial, fun _ => gj_variables j137 (fun s159 j159 => j159)⟩⟩
    rw [gt_kd g137]
    refine ⟨_, fun s193 h => h, kd (q + 1) = 20, fun c20 => func _ _ (t : Int) q s137 (q + 1) g137 (by omega) (gt_at g127) hv (by omega) (fun R hR => i1_f c5 hs c2 c20 hR), fun c => absurd (h100.1 c) n6, fun _ => ⟨id, fun n20 => ?_⟩⟩
    exact gt_variables t0 g137 (by omega) (by omega) (gt_at g127) hv lk2 h77 (fun s159 p' gs hev g159 hb2 hp2 => good s159 p' gs (i1_w c5 hs c2 n20 hev) g159 (by omega) (by omega)) (fun s159 j159 hev => Or.inr ⟨j159, nun (i1_w c5 hs c2 n20 hev)⟩)
  · exact jtail s127 j127 hn v
end SUN
