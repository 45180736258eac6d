section
/-! steps of statements: what they leave; an expression's value thrown away; a construct begun -/
/-- a statement's step: typed code again, with these constructs around -/
def SRs (σ s : St) (b : Nat) (K : List Nat) (H0 m : Nat) : Prop := KXS σ s ∧ MKs σ s ∧ ((∀ j, j < b → (s 24) j = (σ 24) j) ∧ b ≤ clen s) ∧ 0 ≤ (s 4 1).toInt ∧ (s 4 1).toInt ≤ (σ 4 1).toInt + m ∧ ((s 6 3).toInt = 0 → (σ 6 3).toInt = 0 ∧ ∃ g' X', SB s g' b K X' H0 ∧ clen s ≤ clen σ + m)
section BGN
variable {σ s z t : St} {g g' g1 : Gh} {X X0 Y : Nat → Prop} {b e e0 H H0 L m n c : Nat} {K : List Nat} {x y : Int32}
theorem kxs_e (k : KXE σ s) : KXS σ s := ko_sub k (by decide) (by decide)
theorem ss_discard {Q : St → Prop} (h : SE σ g b K X H0 e0 [iV]) (hb : b ≤ e0) (cap : (σ 4 1).toInt ≤ 262150) (k : ∀ s, SRs σ s b K H0 (2 * plc σ [iV] + 1) → Q s) : wk_X2_pop σ (fun u148 s148 => wk_X0_emit (2 : Int32) (0 : Int32) (0 : Int32) (0 : Int32) s148 (fun v160 s160 => Q s160)) := by
  have p1 : plc σ [iV] = pk σ 65 + 0 := plc_V
  have pk1 := pkq_le (σ := σ) (q := 65)
  have c0 := clen_eq h.1.2.2.1
  refine vs_pop h (by omega) (fun s g1 k1 m1 w1 ag vs hc fu _ => ?_)
  have l0 := vs.2.2.2.1
  have c1 := clen_eq l0
  refine sk_emit (n := 2) rfl (by decide) l0 (by omega) (fun v t _ em => k t ?_)
  have el := em_len em (m := 2) rfl
  have ec := em_clen em (n := 2) rfl l0
  have l2 : ln 2 = 1 := rfl
  obtain ⟨ek, emk, -, -, ef, -⟩ := em_k em
  have hb2 : b ≤ clen s := Nat.le_trans hb vs.2.2.2.2.2.2.1
  refine ⟨kxs_e (ko_tr k1 ek), mks_tr m1 emk, ⟨fun j hj => (em.2.2.1 j (by omega)).trans (w1 j (by omega)), by omega⟩, by omega, by omega, fun hf => ⟨by rw [← fu]; exact ef ▸ hf, ?_⟩⟩
  obtain ⟨g2, -, a2, -⟩ := vs_emit vs em (k := 2) rfl ⟨by decide, by decide⟩ (by decide) (Or.inl rfl)
  exact ⟨g2, X, a2 rfl, by omega⟩
theorem sk_begin {Q : St → Prop} (hn : (σ 9 5).toInt = n) (hn2 : n < 26) (k : ∀ s, Kp [(9, 5)] [49, 50, 51, 52] σ s → (s 9 5).toInt = n + 1 → (∀ j, j ≠ n → (s 49) j = (σ 49) j ∧ (s 50) j = (σ 50) j ∧ (s 51) j = (σ 51) j ∧ (s 52) j = (σ 52) j) → ((s 49) n).toInt = (if x.toInt = 0 then 0 else 1) → (s 50) n = (σ 4 1) → (s 51) n = -1 → (s 52) n = -1 → Q s) : wk_X7_begin x σ Q := by
  unfold wk_X7_begin
  refine ⟨fun y => y.toInt = (if x.toInt = 0 then 0 else 1), fun y _ hy => ?_, fun c => by rw [if_pos c]; rfl, fun c => by rw [if_neg c]; rfl⟩
  simp only [rdF, Nat.reduceEqDiff, if_false]
  rw [setv_at hn hn2, setv_at hn hn2, setv_at hn hn2, setv_at hn hn2]
  refine k _ (kp_f (kp_F (kp_F (kp_F (kp_F kp_rf rfl) rfl) rfl) rfl) rfl) ?_ (fun j hj => ⟨?_, ?_, ?_, ?_⟩) ?_ ?_ ?_ ?_
  · simp only [rdC, if_true]
    exact (ad0 i1 (by omega) (by omega)).trans (by omega)
  all_goals simp only [rdC, rdF, Nat.reduceEqDiff, if_false, if_true]
  · exact if_neg hj
  · exact if_neg hj
  · exact if_neg hj
  · exact if_neg hj
  · exact hy
theorem cpu_x (k : KXS σ s) (m : MKs σ s) : ∀ a n, CPu σ a n → CPu s a n := fun a n ⟨h1, h2, h3, h4, h5⟩ => by
  have e1 : (s 5 1) = (σ 5 1) := k 5 1 (op_lt (by decide)) rfl rfl
  have e2 : (s 6 7) = (σ 6 7) := k 6 7 (op_lt (by decide)) rfl rfl
  have e3 : (s 27) = (σ 27) := funext (fun j => k 27 j (op_lt (by decide)) rfl rfl)
  exact ⟨by rw [e1, e2]; exact h1, (flb1 m).mpr h2, (m.1 _).2.2.2 h3, by rw [e1, e2]; exact m.2 _ h4, by rw [e3]; exact h5⟩
theorem cx_begin (h : CX σ g e K X) (kk : Kp [(9, 5)] [49, 50, 51, 52] σ s) (hs : ∀ j, j ≠ nzr K → (s 49) j = (σ 49) j ∧ (s 50) j = (σ 50) j ∧ (s 51) j = (σ 51) j ∧ (s 52) j = (σ 52) j) (hl : ((s 49) (nzr K)).toInt = (if c = 1 then 0 else 1)) (hx : (s 51) (nzr K) = -1) (ha : (s 52) (nzr K) = -1) (hc : c = 1 ∨ c = 2 ∨ c = 4 ∨ c = 6) (ht : 2 ≤ c → ((s 50) (nzr K)).toInt = e ∧ g e = some (0, LV K)) : CX s g e (c :: K) X := by
  have w0 : (s 24) = (σ 24) := funext (fun j => kk 24 j rfl rfl)
  have b0 : (s 53) = (σ 53) := funext (fun j => kk 53 j rfl rfl)
  have l0 : (s 54) = (σ 54) := funext (fun j => kk 54 j rfl rfl)
  have m1 : ((-1 : Int32)).toInt < 0 := by decide
  unfold CX
  rw [if_neg (by omega)]
  refine ⟨X, [], [], [], cx_mono K X (fun j hj => ?_) (fun q _ => by rw [w0]) agr_rf (Nat.le_refl _) h, fun q => ⟨Or.inl, fun z => z.elim id (fun z => by rcases z with z | z | z <;> cases z)⟩, ⟨fun q hq => (by cases hq), fun q hq => (by cases hq), fun q hq => (by cases hq)⟩, ?_, ?_, hl, fun p hp => (by cases hp), fun p hp => (by cases hp), fun _ => rfl, fun c2 => ⟨e, (ht c2).1, Nat.le_refl _, (ht c2).2⟩, fun z => (by omega), fun z => (by omega), fun _ => rfl⟩
  · obtain ⟨a1, a2, a3, a4⟩ := hs j (by omega)
    exact ⟨a1, a2, a3, a4, by rw [b0], by rw [l0]⟩
  · show ((s 51) (nzr K)).toInt < 0
    rw [hx]
    exact m1
  · intro _
    show ((s 52) (nzr K)).toInt < 0
    rw [ha]
    exact m1
/-- a while or a for begins -/
theorem ss_begin {Q : St → Prop} (h : SB σ g b K X 0) (hc : c = 2 ∨ c = 6) (hn : nzr K < 26) (k : ∀ s, SRs σ s b (c :: K) 0 0 → Q s) : wk_X7_begin (1 : Int32) σ Q := by
  obtain ⟨h1, h2, h3, h4, h5, h6⟩ := h
  have c0 := clen_eq h4
  refine sk_begin (n := nzr K) h5 hn (fun s kk o1 rs a1 a2 a3 a4 => k s ?_)
  have w0 : (s 24) = (σ 24) := funext (fun j => kk 24 j rfl rfl)
  have e4 : (s 4 1) = (σ 4 1) := kk 4 1 rfl rfl
  have e6 : (s 6 3) = (σ 6 3) := kk 6 3 rfl rfl
  have e7 : (s 7 7) = (σ 7 7) := kk 7 7 rfl rfl
  have ecl : clen s = clen σ := by unfold clen; rw [e4]
  have kx : KXS σ s := ko_sub (ko_kp kk) (by decide) (by decide)
  have mk : MKs σ s := mks_eq (funext (fun j => kk 25 j rfl rfl)) (funext (fun j => kk 39 j rfl rfl))
  have lv : LV (c :: K) = LV K := by rcases hc with e | e <;> subst e <;> rfl
  refine ⟨kx, mk, ⟨fun j _ => by rw [w0], by rw [ecl]; exact h1.1⟩, by rw [e4]; exact h4, by rw [e4]; omega, fun hf => ⟨by rw [← e6]; exact hf, g, X, ⟨?_, ?_, by rw [e7]; exact h3, by rw [e4]; exact h4, ?_, by rw [ecl]; exact h6⟩, by omega⟩⟩
  · rw [ecl, lv, w0]
    exact typ_mono (fun _ _ => rfl) agr_rf (cpu_x kx mk) (fun _ z => z) h1
  · rw [ecl]
    exact cx_begin h2 kk rs (by rw [a1, if_neg (by decide), if_neg (by omega)]) a3 a4 (by omega) (fun _ => ⟨by rw [a2]; omega, h1.2.1⟩)
  · rw [o1, nz_c (by omega)]
    rfl
end BGN
end

section
/-! steps of statements: turns, jumps to a known place, a construct finished -/
section FIN
variable {σ s z t : St} {g g' g1 : Gh} {CP : Int → Nat → Prop} {X X0 Y : Nat → Prop} {w w' : Nat → Int32} {b e e0 H H0 H' L L' m n c p tt : Nat} {K E : List Nat} {x y v : Int32}
/-- a turn: behind it any level -/
theorem typ_turn (T : TYp w g CP X b e H L) (hw : ∀ q, q < e → w' q = w q) (h0 : (w' e).toInt = (31 : Nat)) : ∃ g', TYp w' g' CP X b (e + 2) H L' ∧ AGR g g' e ∧ g' (e + 1) = none := by
  have l2 : ln 31 = 2 := rfl
  obtain ⟨g', t1, t2, t3⟩ := typ_ext (X' := X) (H' := H) (L' := L') T hw (fun _ h => h) h0 (by omega) (fun g' _ ge _ => by
    rw [l2] at ge
    exact ⟨⟨by omega, by omega, by omega⟩, fun c => by exfalso; unfold PLn at c; omega, fun c => by exfalso; omega, fun c => by exfalso; omega, fun c => by exfalso; omega, fun _ => ⟨_, ge⟩, fun c => by exfalso; omega, fun c => by exfalso; omega⟩)
  rw [l2] at t1 t3
  exact ⟨g', t1, t2, t3 (e + 1) (by omega) (by omega)⟩
/-- a jump to a place that is known; behind it what is asked -/
theorem typ_jump {n : Nat} (T : TYp w g CP X b e H L) (hw : ∀ q, q < e → w' q = w q) (h0 : (w' e).toInt = n) (hn : n = 26 ∨ n = 27 ∨ n = 28) (hv : (w' (e + 1)).toInt = tt) (ht : tt ≤ e) (hh : n ≠ 26 → 1 ≤ H ∧ H' = H - 1 ∧ L' ≤ L) (hj : Jn g L e tt (if n = 26 then H else H - 1)) : ∃ g', TYp w' g' CP X b (e + 2) H' L' ∧ AGR g g' e ∧ g' (e + 1) = none := by
  have l2 : ln n = 2 := by
    rcases hn with c | c | c <;> subst c <;> rfl
  have tn : ((tt : Nat) : Int).toNat = tt := by omega
  have t0 : (0 : Int) ≤ (tt : Int) := by omega
  obtain ⟨g', t1, t2, t3⟩ := typ_ext (X' := X) (H' := H') (L' := L') T hw (fun _ h => h) h0 (by omega) (fun g' ga ge _ => by
    rw [l2] at ge
    obtain ⟨k', j1, j2⟩ := hj
    have j3 : Jn g' L e tt (if n = 26 then H else H - 1) := ⟨k', by rw [ga tt ht]; exact j1, j2⟩
    rw [hv, show ((tt : Nat) : Int) = tt from rfl]
    clear j1 j2
    refine ⟨⟨by clear j3; omega, by clear j3; omega, by clear j3; omega⟩, fun c => by exfalso; clear j3; unfold PLn at c; omega, fun c => Or.inr ⟨t0, ?_⟩, fun c => ?_, fun c => by exfalso; clear j3; omega, fun c => by exfalso; clear j3; omega, fun c => by exfalso; clear j3; omega, fun c => by exfalso; clear j3; omega⟩
    · rw [if_pos c] at j3
      rw [tn]
      exact j3
    · have n26 : n ≠ 26 := by clear j3; omega
      rw [if_neg n26] at j3
      obtain ⟨a1, a2, a3⟩ := hh n26
      subst a2
      refine ⟨a1, ⟨L', ge, ?_⟩, Or.inr ⟨t0, by rw [tn]; exact j3⟩⟩
      clear j3
      omega)
  rw [l2] at t1 t3
  exact ⟨g', t1, t2, t3 (e + 1) (by omega) (by omega)⟩
theorem hole_next {k : Nat} (T : TYp w g CP X b e H L) (hp : g p = some (H', k)) (hpe : p + 2 ≤ e) (hn : (w p).toInt = n) (hn2 : 26 ≤ n ∧ n ≤ 31) : g (p + 1) = none := by
  have l2 : ln n = 2 := by
    have : n = 26 ∨ n = 27 ∨ n = 28 ∨ n = 29 ∨ n = 30 ∨ n = 31 := by omega
    rcases this with c | c | c | c | c | c <;> subst c <;> rfl
  obtain ⟨-, m, d1, d2, d3, d4⟩ := T.2.2.2 p H' k hp (by omega)
  have : m = n := by omega
  subst this
  have := d4 (p + 1) (by omega) (by omega)
  rw [rs_le (by omega)] at this
  exact this
theorem wj_next {lv : Nat} (T : TYp w g CP X b e H L) (h : WJ w g e p lv) : g p ≠ none ∧ g (p + 1) = none := by
  obtain ⟨n, k, a1, a2, a3, a4, a5⟩ := h
  exact ⟨by rw [a3]; exact fun z => (by cases z), hole_next T a3 a4 a1 (by omega)⟩
theorem wj_b {lv : Nat} (T : TYp w g CP X b e H L) (h : WJ w g e p lv) : b ≤ p := by
  obtain ⟨n, k, a1, a2, a3, a4, a5⟩ := h
  by_cases c : p < b
  · rw [T.2.2.1.1 p c] at a3
    cases a3
  · omega
theorem wj_pj {lv k : Nat} (h : WJ w g e p lv) (ht : g tt = some (0, k)) (hk : k < lv ∨ (k ≤ lv ∧ e ≤ tt)) : PJ w g e p tt := by
  obtain ⟨n, k2, a1, a2, a3, a4, a5⟩ := h
  exact ⟨n, k2, a1, a2, a3, a4, k, ht, by omega⟩
/-- the jumps out of a construct come here -/
theorem sp_fin {Q : St → Prop} (T : TYp (σ 24) g (CPu σ) X b (clen σ) 0 (LV K)) (hx : ∀ q, X q → Y q ∨ q ∈ E) (hy : CX σ g (clen σ) K Y) (he : CHW (σ 24) ((σ 51) (nzr K)) E) (hwj : ∀ p ∈ E, WJ (σ 24) g (clen σ) p (LV K)) (dis : ∀ q ∈ E, ¬ Y q) (cnt : (σ 7 7).toInt = 0) (h0 : 0 ≤ (σ 4 1).toInt) (cap : (σ 4 1).toInt ≤ 262190) (ho : (σ 9 5).toInt = nzr K + 1) (hn : nzr K < 26) (bd : BND g b (clen σ) (0 + 420)) (k : ∀ s, Kp [(9, 5)] [24] σ s → (∀ j, j < b → (s 24) j = (σ 24) j) → SB s g b K Y 0 → Q s) : wk_X7_finish σ Q := by
  have c0 := clen_eq h0
  have oi : ((σ 9 5) - (1 : Int32)).toInt = nzr K := by rw [sbc i1 (by omega) (by omega)]; omega
  unfold wk_X7_finish
  rw [atv_at oi hn]
  generalize h1 : upC σ 9 5 ((σ 9 5) - (1 : Int32)) = σ1
  have r : ∀ c, c ≠ 9 → σ1 c = σ c := fun c hc => by rw [← h1]; exact rdC_ne hc
  have r24 : (σ1 24) = (σ 24) := r 24 (by decide)
  have r4 : (σ1 4 1) = (σ 4 1) := by rw [r 4 (by decide)]
  have ecl1 : clen σ1 = clen σ := by unfold clen; rw [r4]
  refine sp_aimN (l := E) (by rw [r24]; exact he) (fun p hp => by rw [ecl1]; exact wj_lt (hwj p hp)) (by rw [r4]; exact h0) (by rw [r4]; omega) ?_
  generalize h2 : upF σ1 24 (pat (σ1 24) E (σ 4 1)) = s
  have q : ∀ c, c ≠ 9 → c ≠ 24 → s c = σ c := fun c hc hc2 => by rw [← h2, rdF_ne hc2]; exact r c hc
  have q24 : (s 24) = pat (σ 24) E (σ 4 1) := by rw [← h2, rdF_eq, r24]
  have q9 : s 9 5 = (σ 9 5) - (1 : Int32) := by rw [← h2, rdF_ne (by decide), ← h1, rdC_eq]; exact if_pos rfl
  have kk : Kp [(9, 5)] [24] σ s := by
    rw [← h2, ← h1]
    exact kp_F (kp_f kp_rf rfl) rfl
  have q4 : (s 4 1) = (σ 4 1) := by rw [q 4 (by decide) (by decide)]
  have ecl : clen s = clen σ := by unfold clen; rw [q4]
  have kx : KXS σ s := ko_sub (ko_kp kk) (by decide) (by decide)
  have mk : MKs σ s := mks_eq (q 25 (by decide) (by decide)) (q 39 (by decide) (by decide))
  have pout : ∀ i, (∀ p ∈ E, i ≠ p + 1) → (s 24) i = (σ 24) i := fun i hi => by rw [q24]; exact pat_out hi
  refine k s kk (fun j hj => pout j (fun p hp => by have := wj_b T (hwj p hp); omega)) ⟨?_, ?_, by rw [q 7 (by decide) (by decide)]; exact cnt, by rw [q4]; exact h0, by rw [q9, oi], by rw [ecl]; exact bd⟩
  · rw [ecl, q24]
    exact typ_mono (fun _ _ => rfl) agr_rf (cpu_x kx mk) (fun q2 z => (hx q2 z.1).elim id (fun e => absurd e z.2)) (typ_aimN (v := σ 4 1) (tt := clen σ) (by omega) (Nat.le_refl _) E _ _ (fun p hp => wj_pj (hwj p hp) T.2.1 (Or.inr ⟨Nat.le_refl _, Nat.le_refl _⟩)) T)
  · rw [ecl]
    exact cx_pat K Y (fun j _ => ⟨by rw [q 49 (by decide) (by decide)], by rw [q 50 (by decide) (by decide)], by rw [q 51 (by decide) (by decide)], by rw [q 52 (by decide) (by decide)], by rw [q 53 (by decide) (by decide)], by rw [q 54 (by decide) (by decide)]⟩) pout (fun p hp => wj_next T (hwj p hp)) dis hy
end FIN
end

section
/-! steps of statements: a chain aimed at a place; else, the end of an if -/
section AIE
variable {σ s z t : St} {g g' g1 : Gh} {X X0 Y : Nat → Prop} {b e e0 H H0 H' L L' m n c p tt : Nat} {K E G D : List Nat} {x y v : Int32}
theorem sp_aimE {Q : St → Prop} (T : TYp (σ 24) g (CPu σ) X b (clen σ) H L) (hv : y.toInt = tt) (htt : tt ≤ clen σ) (he : CHW (σ 24) x E) (hp : ∀ p ∈ E, PJ (σ 24) g (clen σ) p tt) (h0 : 0 ≤ (σ 4 1).toInt) (cap : (σ 4 1).toInt ≤ 262190) (k : ∀ s, Kp [] [24] σ s → (∀ j, j < b → (s 24) j = (σ 24) j) → (∀ i, (∀ p ∈ E, i ≠ p + 1) → (s 24) i = (σ 24) i) → TYp (s 24) g (CPu s) (fun q => X q ∧ ¬ q ∈ E) b (clen s) H L → (∀ K Y, (∀ q ∈ E, ¬ Y q) → CX σ g (clen σ) K Y → CX s g (clen s) K Y) → Q s) : wk_X0_aim x y σ Q := by
  have nx : ∀ p ∈ E, g p ≠ none ∧ g (p + 1) = none ∧ b ≤ p ∧ p + 2 ≤ clen σ := fun p hp2 => by
    obtain ⟨n, k, a1, a2, a3, a4, -⟩ := hp p hp2
    refine ⟨by rw [a3]; exact fun z => (by cases z), hole_next T a3 a4 a1 (by omega), ?_, a4⟩
    by_cases c : p < b
    · rw [T.2.2.1.1 p c] at a3
      cases a3
    · omega
  refine sp_aimN (l := E) he (fun p hp2 => (nx p hp2).2.2.2) h0 (by omega) ?_
  generalize h2 : upF σ 24 (pat (σ 24) E y) = s
  have q : ∀ c, c ≠ 24 → s c = σ c := fun c hc => by rw [← h2, rdF_ne hc]
  have q24 : (s 24) = pat (σ 24) E y := by rw [← h2, rdF_eq]
  have kk : Kp [] [24] σ s := by
    rw [← h2]
    exact kp_F kp_rf rfl
  have q4 : (s 4 1) = (σ 4 1) := by rw [q 4 (by decide)]
  have ecl : clen s = clen σ := by unfold clen; rw [q4]
  have kx : KXS σ s := ko_sub (ko_kp kk) (by decide) (by decide)
  have mk : MKs σ s := mks_eq (q 25 (by decide)) (q 39 (by decide))
  have pout : ∀ i, (∀ p ∈ E, i ≠ p + 1) → (s 24) i = (σ 24) i := fun i hi => by rw [q24]; exact pat_out hi
  refine k s kk (fun j hj => pout j (fun p hp2 => by have := nx p hp2; omega)) pout ?_ (fun K Y dis hy => ?_)
  · rw [ecl, q24]
    exact typ_mono (fun _ _ => rfl) agr_rf (cpu_x kx mk) (fun _ z => z) (typ_aimN hv htt E _ _ hp T)
  · rw [ecl]
    exact cx_pat K Y (fun j _ => ⟨by rw [q 49 (by decide)], by rw [q 50 (by decide)], by rw [q 51 (by decide)], by rw [q 52 (by decide)], by rw [q 53 (by decide)], by rw [q 54 (by decide)]⟩) pout (fun p hp2 => ⟨(nx p hp2).1, (nx p hp2).2.1⟩) dis hy
theorem fin_sr {s1 : St} {l d : Nat} (kx : KXS σ s1) (mk : MKs σ s1) (w : ∀ j, j < b → (s1 24) j = (σ 24) j) (hf1 : (s1 6 3).toInt = 0 → (σ 6 3).toInt = 0) (l1 : (s1 4 1).toInt = (σ 4 1).toInt + l) (h0 : 0 ≤ (σ 4 1).toInt) (kk : Kp [(9, 5)] [24] s1 s) (w2 : ∀ j, j < b → (s 24) j = (s1 24) j) (sb : SB s g b K Y H0) (hd : l ≤ d) : SRs σ s b K H0 d := by
  have e4 : (s 4 1) = (s1 4 1) := kk 4 1 rfl rfl
  have e6 : (s 6 3) = (s1 6 3) := kk 6 3 rfl rfl
  have l4 : (s 4 1).toInt = (σ 4 1).toInt + l := by rw [e4]; exact l1
  refine ⟨ko_tr kx (ko_sub (ko_kp kk) (by decide) (by decide)), mks_tr mk (mks_eq (funext (fun j => kk 25 j rfl rfl)) (funext (fun j => kk 39 j rfl rfl))), ⟨fun j hj => (w2 j hj).trans (w j hj), sb.1.1⟩, by omega, by omega, fun hf => ⟨hf1 (by rw [← e6]; exact hf), g, Y, sb, ?_⟩⟩
  have a := clen_eq (σ := s) (by omega)
  have c := clen_eq h0
  omega
theorem ss_ifend {Q : St → Prop} (h : SB σ g b (1 :: K) X 0) (hn : nzr K < 26) (cap : (σ 4 1).toInt ≤ 262150) (k : ∀ s, SRs σ s b K 0 0 → Q s) : wk_X7_finish σ Q := by
  obtain ⟨h1, h2, h3, h4, h5, h6⟩ := h
  have lv : LV (1 :: K) = LV K := rfl
  unfold CX at h2
  rw [if_neg (by decide)] at h2
  obtain ⟨Y, E, G, D, a1, a2, ⟨a3, a4, a5⟩, b1, b2, b3, b4, b5, b6, b7, b8, b9, b10⟩ := h2
  have eG : G = [] := b6 (Or.inl rfl)
  have eD : D = [] := b10 (by decide)
  subst eG eD
  rw [lv] at h1
  refine sp_fin (E := E) (Y := Y) h1 (fun q hq => ?_) a1 b1 b4 a3 h3 h4 (by omega) (by rw [h5, nz_c (by decide)]; rfl) hn h6 (fun s kk w sb => k s (fin_sr (l := 0) ko_rf (mks_eq rfl rfl) (fun _ _ => rfl) id (by omega) h4 kk w sb (Nat.le_refl _)))
  rcases (a2 q).mp hq with z | z | z | z
  · exact Or.inl z
  · exact Or.inr z
  · cases z
  · cases z
end AIE
end

section
/-! steps of statements: a condition; a jump out of a construct -/
section CND
variable {σ s z t : St} {g g' g1 : Gh} {X X0 Y : Nat → Prop} {b e e0 e' H H0 H' L L' m n c p tt j : Nat} {K E G D : List Nat} {x y v : Int32}
theorem sp_cond {Q : Nat → St → Prop} (h : SE σ g b K X H0 e0 [iV]) (cap : (σ 4 1).toInt ≤ 262150) (k : ∀ s, KXE σ s → MKs σ s → (∀ j, j < e0 → (s 24) j = (σ 24) j) → 0 ≤ (s 4 1).toInt → (clen s ≤ clen σ + 2 * plc σ [iV] ∧ e0 ≤ clen s) → ((s 65 6).toInt = 1 → 0 ≤ (s 65 9).toInt ∧ (s 65 9).toInt ≤ (s 4 1).toInt ∧ (s 65 9).toInt = e0) → ((s 6 3).toInt = 0 → (σ 6 3).toInt = 0 ∧ ∃ g', AGR g g' e0 ∧ VS s g' b K X H0 e0) → Q 65 s) : wk_X7_condition x σ Q := by
  unfold wk_X7_condition
  refine vs_pop h (by omega) (fun s g1 k1 m1 w1 ag vs hc fu _ => ⟨fun _ => ?_, fun _ => sp_ufail (by decide) (fun t kt ft => ?_)⟩)
  · have l0 := vs.2.2.2.1
    have c1 := clen_eq l0
    have v1 := vs.2.2.2.2.2.2.1
    have v2 := vs.2.2.2.2.2.2.2.2.1
    exact k s k1 m1 w1 l0 ⟨hc, v1⟩ (fun _ => ⟨by omega, by omega, v2⟩) (fun hf => ⟨by rw [← fu]; exact hf, g1, ag, vs⟩)
  · have l0 := vs.2.2.2.1
    have c1 := clen_eq l0
    have v1 := vs.2.2.2.2.2.2.1
    have v2 := vs.2.2.2.2.2.2.2.2.1
    have t4 : (t 4 1) = (s 4 1) := kt 4 1 rfl rfl
    have t24 : (t 24) = (s 24) := funext (fun j => kt 24 j rfl rfl)
    have t6 : (t 65 9) = (s 65 9) := kt 65 9 rfl rfl
    refine k t (ko_tr k1 (ko_sub (ko_kp kt) (by decide) (by decide))) (mks_tr m1 (mks_eq (funext (fun j => kt 25 j rfl rfl)) (funext (fun j => kt 39 j rfl rfl)))) (fun j hj => by rw [t24]; exact w1 j hj) (by rw [t4]; exact l0) (by rw [show clen t = clen s from by unfold clen; rw [t4]]; exact ⟨hc, v1⟩) (fun _ => ⟨by rw [t6]; omega, by rw [t6, t4]; omega, by rw [t6]; exact v2⟩) (fun hf => absurd hf ft)
/-- one more jump out of the innermost construct -/
theorem cx_exit (h : CX σ g e0 (c :: K) X) (hc : ¬ (c = 0 ∨ 9 ≤ c)) (kr : (s 49) = (σ 49) ∧ (s 50) = (σ 50) ∧ (s 51) = (σ 51) ∧ (s 52) = (σ 52) ∧ (s 53) = (σ 53) ∧ (s 54) = (σ 54)) (hw : ∀ q, q < e0 → (s 24) q = (σ 24) q) (ag : AGR g g' e0) (le : e0 ≤ e') (hj : e0 ≤ j) (hv : v.toInt = j) (hwj : (s 24) (j + 1) = (σ 51) (nzr K)) (wj : WJ (s 24) g' e' j (LV K)) : CX (upF s 51 (fun k => if k = nzr K then v else (s 51) k)) g' e' (c :: K) (fun q => X q ∨ q = j) := by
  obtain ⟨k1, k2, k3, k4, k5, k6⟩ := kr
  generalize hz : upF s 51 (fun k => if k = nzr K then v else (s 51) k) = z
  have zr : ∀ c, c ≠ 51 → z c = s c := fun c hc => by rw [← hz]; exact rdF_ne hc
  have z51 : (z 51) = fun k => if k = nzr K then v else (s 51) k := by rw [← hz]; exact rdF_eq
  have z24 : (z 24) = (s 24) := zr 24 (by decide)
  unfold CX at h ⊢
  rw [if_neg hc] at h ⊢
  obtain ⟨Y, E, G, D, a1, a2, ⟨a3, a4, a5⟩, b1, b2, b3, b4, b5, b6, b7, b8, b9, b10⟩ := h
  have xlt : ∀ q, X q → q + 2 ≤ e0 := cx_lt (c :: K) X (by
    unfold CX
    rw [if_neg hc]
    exact ⟨Y, E, G, D, a1, a2, ⟨a3, a4, a5⟩, b1, b2, b3, b4, b5, b6, b7, b8, b9, b10⟩)
  have jx : ¬ X j := fun q => by
    have := xlt j q
    omega
  have iY : ∀ q, Y q → X q := fun q hq => (a2 q).mpr (Or.inl hq)
  have iE : ∀ q, q ∈ E → X q := fun q hq => (a2 q).mpr (Or.inr (Or.inl hq))
  have iG : ∀ q, q ∈ G → X q := fun q hq => (a2 q).mpr (Or.inr (Or.inr (Or.inl hq)))
  have iD : ∀ q, q ∈ D → X q := fun q hq => (a2 q).mpr (Or.inr (Or.inr (Or.inr hq)))
  refine ⟨Y, j :: E, G, D, cx_mono K Y (fun i hi => ?_) (fun q hq => by rw [z24]; exact hw q hq) ag le a1, fun q => ?_, ⟨?_, ?_, ?_⟩, ?_, ?_, ?_, ?_, ?_, b6, ?_, ?_, ?_, b10⟩
  · refine ⟨by rw [zr 49 (by decide), k1], by rw [zr 50 (by decide), k2], ?_, by rw [zr 52 (by decide), k4], by rw [zr 53 (by decide), k5], by rw [zr 54 (by decide), k6]⟩
    rw [z51]
    show (if i = nzr K then v else (s 51) i) = _
    rw [if_neg (by omega), k3]
  · show (X q ∨ q = j) ↔ _
    rw [a2 q, List.mem_cons]
    constructor
    · rintro ((h | h | h | h) | h)
      · exact Or.inl h
      · exact Or.inr (Or.inl (Or.inr h))
      · exact Or.inr (Or.inr (Or.inl h))
      · exact Or.inr (Or.inr (Or.inr h))
      · exact Or.inr (Or.inl (Or.inl h))
    · rintro (h | (h | h) | h | h)
      · exact Or.inl (Or.inl h)
      · exact Or.inr h
      · exact Or.inl (Or.inr (Or.inl h))
      · exact Or.inl (Or.inr (Or.inr (Or.inl h)))
      · exact Or.inl (Or.inr (Or.inr (Or.inr h)))
  · intro q hq hy
    rcases List.mem_cons.mp hq with e2 | e2
    · exact jx (by rw [← e2]; exact iY q hy)
    · exact a3 q e2 hy
  · intro q hq
    refine ⟨(a4 q hq).1, fun hy => ?_⟩
    rcases List.mem_cons.mp hy with e2 | e2
    · exact jx (by rw [← e2]; exact iG q hq)
    · exact (a4 q hq).2 e2
  · intro q hq
    refine ⟨(a5 q hq).1, fun hy => ?_, (a5 q hq).2.2⟩
    rcases List.mem_cons.mp hy with e2 | e2
    · exact jx (by rw [← e2]; exact iD q hq)
    · exact (a5 q hq).2.1 e2
  · have ez : (z 51) (nzr K) = v := by rw [z51]; exact if_pos rfl
    rw [ez, z24]
    refine ⟨hv, ?_, fun q hq => by have := wj_lt (b4 q hq); omega⟩
    rw [hwj]
    exact chw_mono E _ (fun p hp => hw _ (by have := wj_lt (b4 p hp); omega)) b1
  · intro c5
    rw [zr 52 (by decide), k4, z24]
    exact chw_mono G _ (fun p hp => hw _ (by have := wj_lt (b5 p hp); omega)) (b2 c5)
  · rw [zr 49 (by decide), k1]
    exact b3
  · intro p hp
    rw [z24]
    rcases List.mem_cons.mp hp with e2 | e2
    · rw [e2]
      exact wj
    · exact wj_mono hw ag le (b4 p e2)
  · intro p hp
    rw [z24]
    exact wj_mono hw ag le (b5 p hp)
  · intro c2
    obtain ⟨t, d1, d2, d3⟩ := b7 c2
    exact ⟨t, by rw [zr 50 (by decide), k2]; exact d1, by omega, by rw [ag t d2]; exact d3⟩
  · intro c2
    obtain ⟨t, d1, d2, d3⟩ := b8 c2
    exact ⟨t, by rw [zr 54 (by decide), k6]; exact d1, by omega, by rw [ag t d2]; exact d3⟩
  · intro c2
    obtain ⟨p, d1, d2, d3, d4, d5, d6⟩ := b9 c2
    exact ⟨p, d1, by rw [zr 53 (by decide), k5]; exact d2, by rw [z24, hw p (by omega)]; exact d3, by rw [z24, hw (p + 1) (by omega)]; exact d4, by omega, by rw [ag p (by omega)]; exact d6⟩
end CND
end

section
/-! steps of statements: out of a construct unless a condition holds -/
section EXI
variable {σ s z t : St} {g g' g1 : Gh} {X X0 Y : Nat → Prop} {b e e0 e' H H0 H' L L' m n c p tt j : Nat} {K E G D : List Nat} {x y v : Int32} {f : Nat → Int32}
theorem sr_exit (kx : KXS σ s) (mk : MKs σ s) (w : ∀ j, j < b → (s 24) j = (σ 24) j) (fu : (s 6 3) = (σ 6 3)) (le : (s 4 1).toInt = e') (hbe : b ≤ e') (l2 : e' ≤ clen σ + 2) (h0 : 0 ≤ (σ 4 1).toInt) (hc : ¬ (c = 0 ∨ 9 ≤ c)) (T : (σ 6 3).toInt = 0 → ∃ g2 X2, TYp (s 24) g2 (CPu s) X2 b e' 0 (LV (c :: K)) ∧ CX (upF s 51 f) g2 e' (c :: K) X2 ∧ BND g2 b e' (0 + 420) ∧ (s 7 7).toInt = 0 ∧ (s 9 5).toInt = nzr K + 1) : SRs σ (upF s 51 f) b (c :: K) 0 2 := by
  generalize hz : upF s 51 f = z at T ⊢
  have zr : ∀ c, c ≠ 51 → z c = s c := fun c hc => by rw [← hz]; exact rdF_ne hc
  have c0 := clen_eq h0
  have z4 : (z 4 1) = (s 4 1) := by rw [zr 4 (by decide)]
  have k2 : KXS s z := by
    rw [← hz]
    exact ko_kp (kp_F kp_rf rfl)
  have m2 : MKs s z := mks_eq (zr 25 (by decide)) (zr 39 (by decide))
  have z24 : (z 24) = (s 24) := zr 24 (by decide)
  refine ⟨ko_tr kx k2, mks_tr mk m2, ⟨fun j hj => by rw [z24]; exact w j hj, by
    have a := clen_eq (σ := z) (by rw [z4]; omega)
    rw [z4] at a
    omega⟩, by rw [z4]; omega, by rw [z4]; omega, fun hf => ?_⟩
  have f0 : (σ 6 3).toInt = 0 := by rw [← fu, ← zr 6 (by decide)]; exact hf
  obtain ⟨g2, X2, t1, t2, t3, t4, t5⟩ := T f0
  have ec : clen z = e' := by
    have a := clen_eq (σ := z) (by rw [z4]; omega)
    rw [z4] at a
    omega
  refine ⟨f0, g2, X2, ⟨?_, by rw [ec]; exact t2, by rw [zr 7 (by decide)]; exact t4, by rw [z4]; omega, by rw [zr 9 (by decide), t5, nz_c hc]; rfl, by rw [ec]; exact t3⟩, by rw [ec]; exact l2⟩
  rw [ec, z24]
  exact typ_mono (fun _ _ => rfl) agr_rf (cpu_x k2 m2) (fun _ z => z) t1
theorem sp_exit {Q : St → Prop} (ho : (σ 9 5).toInt = nzr K + 1) (hn : nzr K < 26) (h0 : 0 ≤ (σ 4 1).toInt) (cap : (σ 4 1).toInt ≤ 262180) (hc : c = 1 ∨ c = 2 ∨ c = 6) (hb : b ≤ e0) (hst : (σ 65 6).toInt = 1 → 0 ≤ (σ 65 9).toInt ∧ (σ 65 9).toInt ≤ (σ 4 1).toInt ∧ (σ 65 9).toInt = e0) (hbc : b ≤ clen σ) (hv : (σ 6 3).toInt = 0 → ∃ g, VS σ g b (c :: K) X 0 e0) (k : ∀ s, SRs σ s b (c :: K) 0 2 → Q s) : wk_X7_exitUnless 65 σ Q := by
  have c0 := clen_eq h0
  have oi : ((σ 9 5) - (1 : Int32)).toInt = nzr K := by rw [sbc i1 (by omega) (by omega)]; omega
  have hc2 : ¬ (c = 0 ∨ 9 ≤ c) := by omega
  have lv : LV (c :: K) = LV K := by rcases hc with e | e | e <;> subst e <;> rfl
  have nk : nzr (c :: K) = nzr K + 1 := nz_c hc2
  unfold wk_X7_exitUnless
  rw [atv_at oi hn]
  refine sk_unless h0 (by omega) (fun cc => ⟨(hst cc).1, (hst cc).2.1⟩) (fun v s ev em => ?_) (fun s1 s v cc k1 el em ev => ?_) (fun s1 cc k1 el => ?_)
  · rw [setv_at oi hn]
    obtain ⟨ek, emk, -, -, ef, ee⟩ := em_k em
    have ec := em_clen em (n := 27) rfl h0
    have el := em_len em (m := 27) rfl
    have l2 : ln 27 = 2 := rfl
    refine k _ (sr_exit (e' := clen σ + 2) (kxs_e ek) emk (fun j hj => em.2.2.1 j (by omega)) ef (by omega) (by omega) (Nat.le_refl _) h0 hc2 (fun f0 => ?_))
    obtain ⟨g, h1, h2, h3, h4, h5, h6, h7, h8, h9, h10⟩ := hv f0
    obtain ⟨g2, T2, ag2, gn⟩ := typ_hole (w' := (s 24)) (n := 27) (H' := 0) (L' := LV (c :: K)) (typ_mono (fun q _ => rfl) agr_rf (cpu_mono ek emk) (fun _ z => z) h1) em.2.2.1 (by rw [em.2.2.2.1]; rfl) (by decide) (fun _ => ⟨by omega, by omega, rfl⟩)
    obtain ⟨a1, a2, a3, a4, a5, a6, a7⟩ := kw_e ek
    refine ⟨g2, _, T2, cx_exit h2 hc2 ⟨a1, a2, a3, a4, a5, a6⟩ (fun q hq => em.2.2.1 q (by omega)) (agr_le ag2 h7) (by omega) h7 (by rw [ev]; omega) em.2.2.2.2.1 ⟨27, LV K, by rw [em.2.2.2.1]; rfl, Or.inr rfl, ?_, Nat.le_refl _, Nat.le_refl _⟩, ?_, by rw [ee]; exact h3, by rw [a7]; exact ho⟩
    · rw [ag2 _ (Nat.le_refl _), h1.2.1, lv]
      rfl
    · exact bnd_ext h6 ag2 (fun j a1 a2 => by
        have : j = clen σ + 1 := by omega
        rw [this]
        exact gn) T2.2.1 (by omega)
  · rw [setv_at oi hn]
    have hs := hst cc
    obtain ⟨ek, emk, -, -, ef, ee⟩ := em_k em
    have h01 : 0 ≤ (s1 4 1).toInt := by rw [el]; exact hs.1
    have e1 : clen s1 = e0 := by
      have := clen_eq h01
      rw [el] at this
      omega
    have ec := em_clen em (n := 26) rfl h01
    have el2 := em_len em (m := 26) rfl
    have l2 : ln 26 = 2 := rfl
    have hs1 := k4_of k1
    have kx1 : KXE σ s1 := ko_sub (ko_kp k1) (by decide) (by decide)
    have mk1 : MKs σ s1 := mks_eq (funext (fun j => hs1 25 j (by decide))) (funext (fun j => hs1 39 j (by decide)))
    have w1 : (s1 24) = (σ 24) := funext (fun j => hs1 24 j (by decide))
    have ww : ∀ j, j < e0 → (s 24) j = (σ 24) j := fun j hj => (em.2.2.1 j (by omega)).trans (by rw [w1])
    have lt : (s1 4 1).toInt = e0 := by rw [el]; exact hs.2.2
    have ke := ko_tr kx1 ek
    have me := mks_tr mk1 emk
    refine k _ (sr_exit (e' := e0 + 2) (kxs_e ke) me (fun j hj => ww j (by omega)) (ef.trans (hs1 6 3 (by decide))) (by omega) (by omega) (by omega) h0 hc2 (fun f0 => ?_))
    obtain ⟨g, h1, h2, h3, h4, h5, h6, h7, h8, h9, h10⟩ := hv f0
    obtain ⟨g2, T2, ag2, gn⟩ := typ_hole (w' := (s 24)) (n := 26) (H' := 0) (L' := LV (c :: K)) (typ_mono (fun q _ => rfl) agr_rf (cpu_mono ke me) (fun _ z => z) h8) ww (by rw [← e1, em.2.2.2.1]; rfl) (by decide) (fun z => absurd rfl z)
    obtain ⟨a1, a2, a3, a4, a5, a6, a7⟩ := kw_e ke
    refine ⟨g2, _, T2, cx_exit h2 hc2 ⟨a1, a2, a3, a4, a5, a6⟩ ww ag2 (by omega) (Nat.le_refl _) (by rw [ev]; exact lt) (by rw [← e1]; exact em.2.2.2.2.1) ⟨26, LV K, by rw [← e1, em.2.2.2.1]; rfl, Or.inl rfl, ?_, Nat.le_refl _, Nat.le_refl _⟩, ?_, by rw [ee, hs1 7 7 (by decide)]; exact h3, by rw [a7]; exact ho⟩
    · rw [ag2 _ (Nat.le_refl _), h8.2.1, lv]
      rfl
    · exact bnd_ext (bnd_le h6 (Nat.le_refl _) h7 (Nat.le_refl _)) ag2 (fun j a1 a2 => by
        have : j = e0 + 1 := by omega
        rw [this]
        exact gn) T2.2.1 (by omega)
  · rw [setv_at oi hn]
    have hs := hst cc
    have hs1 := k4_of k1
    have kx1 : KXE σ s1 := ko_sub (ko_kp k1) (by decide) (by decide)
    have mk1 : MKs σ s1 := mks_eq (funext (fun j => hs1 25 j (by decide))) (funext (fun j => hs1 39 j (by decide)))
    have w1 : (s1 24) = (σ 24) := funext (fun j => hs1 24 j (by decide))
    have lt : (s1 4 1).toInt = e0 := by rw [el]; exact hs.2.2
    refine k _ (sr_exit (e' := e0) (kxs_e kx1) mk1 (fun j _ => by rw [w1]) (hs1 6 3 (by decide)) lt hb (by omega) h0 hc2 (fun f0 => ?_))
    obtain ⟨g, h1, h2, h3, h4, h5, h6, h7, h8, h9, h10⟩ := hv f0
    refine ⟨g, X, typ_mono (fun q _ => by rw [w1]) agr_rf (cpu_mono kx1 mk1) (fun _ z => z) h8, ?_, bnd_le h6 (Nat.le_refl _) h7 (Nat.le_refl _), by rw [hs1 7 7 (by decide)]; exact h3, by rw [hs1 9 5 (by decide)]; exact ho⟩
    generalize hz : upF s1 51 _ = z
    have zr : ∀ c, c ≠ 51 → z c = s1 c := fun c hc => by rw [← hz]; exact rdF_ne hc
    have z51 : (z 51) = (σ 51) := by
      rw [← hz, rdF_eq]
      funext i
      show (if i = nzr K then (σ 51) (nzr K) else (s1 51) i) = _
      by_cases ci : i = nzr K
      · rw [if_pos ci, ci]
      · rw [if_neg ci]
        exact hs1 51 i (by decide)
    have r1 : ∀ c, c ≠ 4 → c ≠ 51 → z c = σ c := fun c h4 h51 => by
      rw [zr c h51]
      exact funext (fun j => hs1 c j h4)
    exact cx_mono (c :: K) X (fun j _ => ⟨by rw [r1 49 (by decide) (by decide)], by rw [r1 50 (by decide) (by decide)], by rw [z51], by rw [r1 52 (by decide) (by decide)], by rw [r1 53 (by decide) (by decide)], by rw [r1 54 (by decide) (by decide)]⟩) (fun q _ => by rw [r1 24 (by decide) (by decide)]) agr_rf (Nat.le_refl _) h2
end EXI
end

section
/-! steps of statements: if -/
section SIF
variable {σ s z t : St} {g g' g1 : Gh} {X X0 Y : Nat → Prop} {b e e0 e' H H0 H' L L' m n c d p tt j : Nat} {K E G D : List Nat} {x y v : Int32}
theorem sk_srtr (kx : KXS σ z) (mk : MKs σ z) (w : ∀ j, j < b → (z 24) j = (σ 24) j) (hf : (z 6 3).toInt = 0 → (σ 6 3).toInt = 0) (l : clen z ≤ clen σ + d) (h0 : 0 ≤ (σ 4 1).toInt) (h1 : 0 ≤ (z 4 1).toInt) (r : SRs z s b K H0 m) : SRs σ s b K H0 (d + m) := by
  obtain ⟨r1, r2, r3, r4, r5, r6⟩ := r
  have c0 := clen_eq h0
  have c1 := clen_eq h1
  refine ⟨ko_tr kx r1, mks_tr mk r2, ⟨fun j hj => (r3.1 j hj).trans (w j hj), r3.2⟩, r4, by clear r6; omega, fun f => ?_⟩
  obtain ⟨f1, g', X', a1, a2⟩ := r6 f
  exact ⟨hf f1, g', X', a1, by omega⟩
theorem vs_begin (h : VS σ g b K X 0 e0) (kk : Kp [(9, 5)] [49, 50, 51, 52] σ s) (o1 : (s 9 5).toInt = nzr K + 1) (hs : ∀ j, j ≠ nzr K → (s 49) j = (σ 49) j ∧ (s 50) j = (σ 50) j ∧ (s 51) j = (σ 51) j ∧ (s 52) j = (σ 52) j) (hl : ((s 49) (nzr K)).toInt = 0) (hx : (s 51) (nzr K) = -1) (ha : (s 52) (nzr K) = -1) : VS s g b (1 :: K) X 0 e0 := by
  obtain ⟨h1, h2, h3, h4, h5, h6, h7, h8, h9, h10⟩ := h
  have w0 : (s 24) = (σ 24) := funext (fun j => kk 24 j rfl rfl)
  have e4 : (s 4 1) = (σ 4 1) := kk 4 1 rfl rfl
  have e7 : (s 7 7) = (σ 7 7) := kk 7 7 rfl rfl
  have e65 : (s 65 9) = (σ 65 9) := kk 65 9 rfl rfl
  have e66 : (s 65 6) = (σ 65 6) := kk 65 6 rfl rfl
  have ecl : clen s = clen σ := by unfold clen; rw [e4]
  have kx : KXS σ s := ko_sub (ko_kp kk) (by decide) (by decide)
  have mk : MKs σ s := mks_eq (funext (fun j => kk 25 j rfl rfl)) (funext (fun j => kk 39 j rfl rfl))
  have lv : LV (1 :: K) = LV K := rfl
  refine ⟨?_, cx_begin h2 kk hs (by rw [hl]; rfl) hx ha (Or.inl rfl) (fun z => by omega), by rw [e7]; exact h3, by rw [e4]; exact h4, by rw [o1, nz_c (by decide)]; rfl, by rw [ecl]; exact h6, by rw [ecl]; exact h7, ?_, by rw [e65]; exact h9, by rw [e66, ecl]; exact h10⟩
  · rw [ecl, lv, w0]
    exact typ_mono (fun _ _ => rfl) agr_rf (cpu_x kx mk) (fun _ z => z) h1
  · rw [lv, w0]
    exact typ_mono (fun _ _ => rfl) agr_rf (cpu_x kx mk) (fun _ z => z) h8
theorem ss_if {Q : St → Prop} (h : SE σ g b K X 0 e0 [iV]) (hb : b ≤ e0) (hn : nzr K < 26) (cap : (σ 4 1).toInt ≤ 262150) (k : ∀ s, SRs σ s b (1 :: K) 0 (2 * plc σ [iV] + 2) → Q s) : wk_X7_condition x σ (fun u8 s8 => wk_X7_begin (0 : Int32) s8 (fun s14 => wk_X7_exitUnless u8 s14 (fun s19 => Q s19))) := by
  have c0 := clen_eq h.1.2.2.1
  have hh0 := h.1.2.2.1
  have ho := h.2.2.1
  have he := xc_e0 h.1
  have p1 : plc σ [iV] = pk σ 65 + 0 := plc_V
  have pk1 := pkq_le (σ := σ) (q := 65)
  refine sp_cond h (by omega) (fun s k1 m1 w1 l0 ⟨hc, hce⟩ hst hv => ?_)
  have c1 := clen_eq l0
  refine sk_begin (σ := s) (n := nzr K) (by rw [(kw_e k1).2.2.2.2.2.2]; exact ho) hn (fun t kk o1 rs a1 a2 a3 a4 => ?_)
  have e4 : (t 4 1) = (s 4 1) := kk 4 1 rfl rfl
  have e6 : (t 6 3) = (s 6 3) := kk 6 3 rfl rfl
  have e65 : (t 65 9) = (s 65 9) := kk 65 9 rfl rfl
  have e66 : (t 65 6) = (s 65 6) := kk 65 6 rfl rfl
  have w0 : (t 24) = (s 24) := funext (fun j => kk 24 j rfl rfl)
  have ecl : clen t = clen s := by unfold clen; rw [e4]
  have a10 : ((t 49) (nzr K)).toInt = 0 := by rw [a1]; rfl
  have kx : KXS s t := ko_sub (ko_kp kk) (by decide) (by decide)
  have mk : MKs s t := mks_eq (funext (fun j => kk 25 j rfl rfl)) (funext (fun j => kk 39 j rfl rfl))
  have hbc : b ≤ clen s := Nat.le_trans hb hce
  · refine sp_exit (σ := t) (c := 1) (K := K) (X := X) (e0 := e0) (b := b) o1 hn (by rw [e4]; exact l0) (by rw [e4]; clear hst hv; omega) (Or.inl rfl) hb (by rw [e65, e66, e4]; exact hst) (by rw [ecl]; exact hbc) (fun f => ?_) (fun z r => k z (sk_srtr (z := t) (ko_tr (kxs_e k1) kx) (mks_tr m1 mk) (fun j hj => by rw [w0]; exact w1 j (by clear hst hv; omega)) (fun f => (hv (by rw [← e6]; exact f)).1) (by rw [ecl]; exact hc) hh0 (by rw [e4]; exact l0) r))
    obtain ⟨f1, g2, -, vs⟩ := hv (by rw [← e6]; exact f)
    exact ⟨g2, vs_begin vs kk o1 rs a10 a3 a4⟩
end SIF
end

section
/-! steps of statements: a while's condition -/
section SWH
variable {σ s z t : St} {g g' g1 : Gh} {X X0 Y : Nat → Prop} {b e e0 e' H H0 H' L L' m n c d p tt j : Nat} {K E G D : List Nat} {x y v : Int32}
theorem cx_23 (h : CX σ g e (2 :: K) X) : CX σ g e (3 :: K) X := by
  unfold CX at h ⊢
  rw [if_neg (by decide)] at h ⊢
  obtain ⟨Y, E, G, D, a1, a2, a3, b1, b2, b3, b4, b5, b6, b7, b8, b9, b10⟩ := h
  have eG : G = [] := b6 (Or.inr (Or.inl rfl))
  refine ⟨Y, E, G, D, a1, a2, a3, b1, fun _ => b2 (by decide), b3, b4, fun p hp => ?_, fun _ => eG, fun _ => b7 (by decide), fun z => absurd z (by decide), fun z => absurd z (by decide), fun _ => b10 (by decide)⟩
  rw [eG] at hp
  cases hp
theorem ss_turn {Q : St → Prop} (r : SRs σ s b (2 :: K) 0 m) (cap : (s 4 1).toInt ≤ 262190) (k : ∀ t, SRs σ t b (3 :: K) 0 (m + 2) → Q t) : wk_X7_turn x s Q := by
  obtain ⟨r1, r2, r3, r4, r5, r6⟩ := r
  have c1 := clen_eq r4
  have hbc := r3.2
  unfold wk_X7_turn
  refine sk_emit (n := 31) rfl (by decide) r4 (by clear r6; omega) (fun v t _ em => k t ?_)
  have el := em_len em (m := 31) rfl
  have ec := em_clen em (n := 31) rfl r4
  have l2 : ln 31 = 2 := rfl
  obtain ⟨ek, emk, -, -, ef, ee⟩ := em_k em
  refine ⟨ko_tr r1 (kxs_e ek), mks_tr r2 emk, ⟨fun j hj => (em.2.2.1 j (by clear r6; omega)).trans (r3.1 j hj), by clear r6; omega⟩, by clear r6; omega, by clear r6; omega, fun hf => ?_⟩
  obtain ⟨f0, g', X', ⟨h1, h2, h3, h4, h5, h6⟩, a2⟩ := r6 (by rw [← ef]; exact hf)
  obtain ⟨g2, T2, ag2, gn⟩ := typ_turn (w' := (t 24)) (L' := LV (3 :: K)) (typ_mono (fun q _ => rfl) agr_rf (cpu_mono ek emk) (fun _ z => z) h1) em.2.2.1 (by rw [em.2.2.2.1]; rfl)
  have ec2 : clen t = clen s + 2 := ec
  refine ⟨f0, g2, X', ⟨by rw [ec2]; exact T2, cx_23 (cx_e ek (fun q hq => em.2.2.1 q hq) ag2 (by omega) h2), by rw [ee]; exact h3, by omega, by rw [(kw_e ek).2.2.2.2.2.2, h5, nz_c (by decide), nz_c (by decide)], ?_⟩, by omega⟩
  rw [ec2]
  exact bnd_ext h6 ag2 (fun j a1 a2 => by
    have : j = clen s + 1 := by omega
    rw [this]
    exact gn) T2.2.1 (by omega)
theorem ss_wtest {Q : St → Prop} (h : SE σ g b (2 :: K) X 0 e0 [iV]) (hb : b ≤ e0) (hn : nzr K < 26) (cap : (σ 4 1).toInt ≤ 262150) (k : ∀ s, SRs σ s b (3 :: K) 0 (2 * plc σ [iV] + 2 + 2) → Q s) : wk_X7_condition x σ (fun u23 s23 => wk_X7_exitUnless u23 s23 (fun s26 => wk_X7_turn y s26 (fun s31 => Q s31))) := by
  have hh0 := h.1.2.2.1
  have c0 := clen_eq hh0
  have ho := h.2.2.1
  have p1 : plc σ [iV] = pk σ 65 + 0 := plc_V
  have pk1 := pkq_le (σ := σ) (q := 65)
  refine sp_cond h (by omega) (fun s k1 m1 w1 l0 ⟨hc, hce⟩ hst hv => ?_)
  have c1 := clen_eq l0
  refine sp_exit (σ := s) (c := 2) (K := K) (X := X) (e0 := e0) (b := b) (by rw [(kw_e k1).2.2.2.2.2.2, ho, nz_c (by decide)]; rfl) hn l0 (by clear hst hv; omega) (Or.inr (Or.inl rfl)) hb hst (Nat.le_trans hb hce) (fun f => ?_) (fun z r => ?_)
  · obtain ⟨f1, g2, -, vs⟩ := hv f
    exact ⟨g2, vs⟩
  · have r' := sk_srtr (z := s) (kxs_e k1) m1 (fun j hj => w1 j (by clear hst hv; omega)) (fun f => (hv f).1) hc hh0 l0 r
    have rl := r'.2.2.2.2.1
    have r4 := r'.2.2.2.1
    exact ss_turn r' (by clear hst hv; omega) k
end SWH
end

section
/-! steps of statements: the end of a while -/
section SWE
variable {σ s z t : St} {g g' g1 : Gh} {X X0 Y : Nat → Prop} {b e e0 e' H H0 H' L L' m n c d p tt j : Nat} {K E G D : List Nat} {x y v : Int32}
theorem ss_wend {Q : St → Prop} (h : SB σ g b (3 :: K) X 0) (hn : nzr K < 26) (cap : (σ 4 1).toInt ≤ 262150) (k : ∀ s, SRs σ s b K 0 2 → Q s) : wk_X0_aim (atv 26 (σ 52) ((σ 9 5) - (1 : Int32))) (atv 26 (σ 50) ((σ 9 5) - (1 : Int32))) σ (fun s67 => wk_X7_jumpBack (atv 26 (s67 50) ((s67 9 5) - (1 : Int32))) s67 (fun s84 => wk_X7_finish s84 (fun s88 => Q s88))) := by
  obtain ⟨h1, h2, h3, h4, h5, h6⟩ := h
  have c0 := clen_eq h4
  unfold CX at h2
  rw [if_neg (by decide)] at h2
  obtain ⟨Y, E, G, D, a1, a2, ⟨a3, a4, a5⟩, b1, b2, b3, b4, b5, b6, b7, b8, b9, b10⟩ := h2
  have eD : D = [] := b10 (by decide)
  subst eD
  obtain ⟨t, t1, t2, t3⟩ := b7 (by decide)
  have nk : nzr (3 :: K) = nzr K + 1 := nz_c (by decide)
  have oi : ((σ 9 5) - (1 : Int32)).toInt = nzr K := by rw [sbc i1 (by omega) (by omega)]; omega
  have lv : LV (3 :: K) = LV K + 1 := rfl
  have b5' : ∀ p ∈ G, WJ (σ 24) g (clen σ) p (LV K + 1) := b5
  rw [atv_at oi hn, atv_at oi hn]
  refine sp_aimE (E := G) h1 t1 t2 (b2 (by decide)) (fun p hp => wj_pj (b5' p hp) t3 (Or.inl (Nat.lt_succ_self _))) h4 (by omega) (fun s kk w0 wo T2 cxk => ?_)
  have e4 : (s 4 1) = (σ 4 1) := kk 4 1 rfl rfl
  have ecl : clen s = clen σ := by unfold clen; rw [e4]
  have r50 : s 50 = σ 50 := funext (fun j => kk 50 j rfl rfl)
  have r51 : s 51 = σ 51 := funext (fun j => kk 51 j rfl rfl)
  have r9 : (s 9 5) = (σ 9 5) := kk 9 5 rfl rfl
  have ks : KXE σ s := ko_sub (ko_kp kk) (by decide) (by decide)
  have ms : MKs σ s := mks_eq (funext (fun j => kk 25 j rfl rfl)) (funext (fun j => kk 39 j rfl rfl))
  rw [r50, r9, atv_at oi hn]
  unfold wk_X7_jumpBack
  refine sk_emit (n := 26) rfl (by decide) (by rw [e4]; exact h4) (by rw [e4]; omega) (fun v z _ em => ?_)
  have h4s : 0 ≤ (s 4 1).toInt := by rw [e4]; exact h4
  have ec := em_clen em (n := 26) rfl h4s
  have el := em_len em (m := 26) rfl
  have l2 : ln 26 = 2 := rfl
  obtain ⟨ek, emk, -, -, ef, ee⟩ := em_k em
  have ec2 : clen z = clen s + 2 := ec
  obtain ⟨g2, T3, ag2, gn⟩ := typ_jump (w' := (z 24)) (n := 26) (tt := t) (H' := 0) (L' := LV K) (typ_mono (fun q _ => rfl) agr_rf (cpu_mono ek emk) (fun _ z => z) T2) em.2.2.1 (by rw [em.2.2.2.1]; rfl) (Or.inl rfl) (by rw [em.2.2.2.2.1]; exact t1) (by omega) (fun z => absurd rfl z) ⟨LV K, by rw [if_pos rfl]; exact t3, Or.inl (by rw [lv]; exact Nat.lt_succ_self _)⟩
  obtain ⟨q1, q2, q3, q4, q5, q6, q7⟩ := kw_e ek
  have lts : (z 4 1).toInt = (σ 4 1).toInt + 2 := by rw [el, e4]; omega
  have gp : ∀ p ∈ E, ∀ q ∈ G, p ≠ q + 1 := fun p hp q hq e2 => (wj_next h1 (b4 p hp)).1 (by rw [e2]; exact (wj_next h1 (b5' q hq)).2)
  have ws : ∀ p ∈ E, WJ (s 24) g (clen s) p (LV K) := fun p hp => by
    obtain ⟨n, k2, d1, d2, d3, d4, d5⟩ := b4 p hp
    exact ⟨n, k2, by rw [wo p (gp p hp)]; exact d1, d2, d3, by rw [ecl]; exact d4, d5⟩
  refine sp_fin (σ := z) (E := E) (Y := Y) (by rw [ec2]; exact T3) (fun q hq => ?_) (cx_e ek em.2.2.1 ag2 (by omega) (cxk K Y (fun q hq => (a4 q hq).1) a1)) ?_ (fun p hp => wj_mono em.2.2.1 ag2 (by omega) (ws p hp)) a3 (by rw [ee, show (s 7 7) = (σ 7 7) from kk 7 7 rfl rfl]; exact h3) (by omega) (by omega) (by rw [q7, r9]; omega) hn ?_ (fun s9 k9 w9 sb => k s9 (fin_sr (s1 := z) (l := 2) (ko_tr (kxs_e ks) (kxs_e ek)) (mks_tr ms emk) (fun j hj => (em.2.2.1 j (by have := h1.1; omega)).trans (w0 j hj)) (fun f => by rw [ef] at f; rw [← show (s 6 3) = (σ 6 3) from kk 6 3 rfl rfl]; exact f) lts h4 k9 w9 sb (Nat.le_refl _)))
  · rcases (a2 q).mp hq.1 with y | y | y | y
    · exact Or.inl y
    · exact Or.inr y
    · exact absurd y hq.2
    · cases y
  · rw [q3, r51]
    exact chw_mono E _ (fun p hp => (em.2.2.1 (p + 1) (by have := wj_lt (ws p hp); omega)).trans (wo (p + 1) (fun q hq e2 => (a4 q hq).2 (by
      have : p = q := by omega
      rw [← this]
      exact hp)))) b1
  · rw [ec2]
    exact bnd_ext (by rw [ecl]; exact h6) ag2 (fun j a1 a2 => by
      have : j = clen s + 1 := by omega
      rw [this]
      exact gn) T3.2.1 (by omega)
end SWE
end

section
/-! steps of statements: else -/
section SEL
variable {σ s z t : St} {g g' g1 : Gh} {X X0 Y : Nat → Prop} {b e e0 e' H H0 H' L L' m n c d p tt j : Nat} {K E G D : List Nat} {x y v : Int32}
theorem ss_else {Q : St → Prop} (h : SB σ g b (1 :: K) X 0) (hn : nzr K < 26) (cap : (σ 4 1).toInt ≤ 262150) (k : ∀ s, SRs σ s b (1 :: K) 0 2 → Q s) : wk_X0_emit (26 : Int32) ((-1) : Int32) (0 : Int32) (0 : Int32) σ (fun v40 s40 => wk_X0_aim (atv 26 (s40 51) ((s40 9 5) - (1 : Int32))) (s40 4 1) s40 (fun s68 => Q (upF s68 51 (setv 26 (s68 51) ((s68 9 5) - (1 : Int32)) v40)))) := by
  obtain ⟨h1, h2, h3, h4, h5, h6⟩ := h
  have c0 := clen_eq h4
  have xlt := cx_lt (1 :: K) X h2
  unfold CX at h2
  rw [if_neg (by decide)] at h2
  obtain ⟨Y, E, G, D, a1, a2, ⟨a3, a4, a5⟩, b1, b2, b3, b4, b5, b6, b7, b8, b9, b10⟩ := h2
  have eD : D = [] := b10 (by decide)
  have eG : G = [] := b6 (Or.inl rfl)
  subst eD eG
  have nk : nzr (1 :: K) = nzr K + 1 := nz_c (by decide)
  have lv : LV (1 :: K) = LV K := rfl
  refine sk_emit (n := 26) rfl (by decide) h4 (by omega) (fun v s ev em => ?_)
  have ec := em_clen em (n := 26) rfl h4
  have el := em_len em (m := 26) rfl
  have l2 : ln 26 = 2 := rfl
  obtain ⟨ek, emk, -, -, ef, ee⟩ := em_k em
  have ec2 : clen s = clen σ + 2 := ec
  obtain ⟨q1, q2, q3, q4, q5, q6, q7⟩ := kw_e ek
  have oi : ((s 9 5) - (1 : Int32)).toInt = nzr K := by rw [q7, sbc i1 (by omega) (by omega)]; omega
  have h4s : 0 ≤ (s 4 1).toInt := by omega
  obtain ⟨g2, T2, ag2, gn⟩ := typ_hole (w' := (s 24)) (n := 26) (H' := 0) (L' := LV (1 :: K)) (typ_mono (fun q _ => rfl) agr_rf (cpu_mono ek emk) (fun _ z => z) h1) em.2.2.1 (by rw [em.2.2.2.1]; rfl) (by decide) (fun z => absurd rfl z)
  rw [← ec2] at T2
  have c1 := clen_eq h4s
  rw [atv_at oi hn, q3]
  have ws : ∀ p ∈ E, WJ (s 24) g2 (clen s) p (LV K) := fun p hp => wj_mono em.2.2.1 ag2 (by omega) (b4 p hp)
  refine sp_aimE (σ := s) (E := E) (tt := clen s) T2 (by omega) (Nat.le_refl _) (chw_mono E _ (fun p hp => em.2.2.1 _ (by have := wj_lt (b4 p hp); omega)) b1) (fun p hp => wj_pj (ws p hp) (by rw [T2.2.1, lv]) (Or.inr ⟨Nat.le_refl _, Nat.le_refl _⟩)) h4s (by omega) (fun u kk w0 wo T3 cxk => ?_)
  have oi' : ((u 9 5) - (1 : Int32)).toInt = nzr K := by rw [show (u 9 5) = (s 9 5) from kk 9 5 rfl rfl]; exact oi
  rw [setv_at oi' hn]
  have u4 : (u 4 1) = (s 4 1) := kk 4 1 rfl rfl
  have ecu : clen u = clen s := by unfold clen; rw [u4]
  have ku : KXE s u := ko_sub (ko_kp kk) (by decide) (by decide)
  have mu : MKs s u := mks_eq (funext (fun j => kk 25 j rfl rfl)) (funext (fun j => kk 39 j rfl rfl))
  refine k _ (sr_exit (s := u) (e' := clen σ + 2) (ko_tr (kxs_e ek) (kxs_e ku)) (mks_tr emk mu) (fun j hj => (w0 j hj).trans (em.2.2.1 j (by have := h1.1; omega))) ((show (u 6 3) = (s 6 3) from kk 6 3 rfl rfl).trans ef) (by rw [u4]; omega) (by have := h1.1; omega) (Nat.le_refl _) h4 (by decide) (fun f0 => ⟨g2, _, by rw [← ec2, ← ecu]; exact T3, ?_, ?_, by rw [show (u 7 7) = (s 7 7) from kk 7 7 rfl rfl, ee]; exact h3, by rw [show (u 9 5) = (s 9 5) from kk 9 5 rfl rfl, q7]; omega⟩))
  · generalize hz : upF u 51 (fun k => if k = nzr K then v else (u 51) k) = z
    have zr : ∀ c, c ≠ 51 → z c = u c := fun c hc => by rw [← hz]; exact rdF_ne hc
    have z51 : (z 51) = fun k => if k = nzr K then v else (u 51) k := by rw [← hz]; exact rdF_eq
    have zs : ∀ c, c ≠ 51 → c ≠ 24 → z c = s c := fun c h1 h2 => by
      rw [zr c h1]
      exact funext (fun j => kk c j (by
        cases hh : (([] : List (Nat × Nat)).contains (c, j)) with
        | false => rfl
        | true => cases hh) (by
        simp only [List.contains_cons, List.contains_nil, Bool.or_false]
        exact beq_eq_false_iff_ne.mpr h2))
    unfold CX
    rw [if_neg (by decide)]
    have cK := cxk K Y a3 (cx_e ek em.2.2.1 ag2 (by omega) a1)
    rw [ecu, ec2] at cK
    refine ⟨Y, [clen σ], [], [], cx_mono K Y (fun i hi => ⟨by rw [zr 49 (by decide)], by rw [zr 50 (by decide)], ?_, by rw [zr 52 (by decide)], by rw [zr 53 (by decide)], by rw [zr 54 (by decide)]⟩) (fun q _ => by rw [zr 24 (by decide)]) agr_rf (Nat.le_refl _) cK, fun q => ?_, ⟨fun q hq => ?_, fun q hq => (by cases hq), fun q hq => (by cases hq)⟩, ?_, ?_, ?_, fun p hp => ?_, fun p hp => (by cases hp), fun _ => rfl, fun c2 => (by omega), fun c2 => (by omega), fun c2 => (by omega), fun _ => rfl⟩
    · rw [z51]
      show (if i = nzr K then v else (u 51) i) = _
      rw [if_neg (by omega)]
    · show ((X q ∨ q = clen σ) ∧ ¬ q ∈ E) ↔ _
      rw [a2 q]
      constructor
      · rintro ⟨(y | y | y | y) | y, hE⟩
        · exact Or.inl y
        · exact absurd y hE
        · cases y
        · cases y
        · exact Or.inr (Or.inl (List.mem_singleton.mpr y))
      · rintro (y | y | y | y)
        · exact ⟨Or.inl (Or.inl y), fun hE => a3 q hE y⟩
        · rw [List.mem_singleton] at y
          exact ⟨Or.inr y, fun hE => by have := wj_lt (b4 q hE); omega⟩
        · cases y
        · cases y
    · rw [List.mem_singleton] at hq
      exact fun hy => by have := xlt q ((a2 q).mpr (Or.inl hy)); omega
    · have ez : (z 51) (nzr K) = v := by rw [z51]; exact if_pos rfl
      rw [ez, zr 24 (by decide)]
      refine ⟨by rw [ev]; omega, ?_, fun q hq => (by cases hq)⟩
      show ((u 24) (clen σ + 1)).toInt < 0
      rw [wo (clen σ + 1) (fun p hp => by have := wj_lt (b4 p hp); omega), em.2.2.2.2.1]
      decide
    · intro _
      show ((z 52) (nzr K)).toInt < 0
      rw [zs 52 (by decide) (by decide), q4]
      exact b2 (by decide)
    · rw [zs 49 (by decide) (by decide), q1]
      exact b3
    · rw [List.mem_singleton] at hp
      rw [hp, zr 24 (by decide)]
      refine ⟨26, LV K, ?_, Or.inl rfl, ?_, Nat.le_refl _, Nat.le_refl _⟩
      · rw [wo (clen σ) (fun p hp e2 => by have := (wj_next h1 (b4 p hp)).2; rw [← e2, h1.2.1] at this; cases this), em.2.2.2.1]
        rfl
      · rw [ag2 _ (Nat.le_refl _), h1.2.1, lv]
        rfl
  · exact bnd_ext h6 ag2 (fun j a1 a2 => by
      have : j = clen σ + 1 := by omega
      rw [this]
      exact gn) (by rw [← ec2]; exact T2.2.1) (by omega)
end SEL
end

section
/-! steps of statements: a do begins -/
section SDO
variable {σ s z t : St} {g g' g1 : Gh} {X X0 Y : Nat → Prop} {b e e0 e' H H0 H' L L' m n c d p tt j : Nat} {K E G D : List Nat} {x y v : Int32}
theorem ss_do {Q : St → Prop} (h : SB σ g b K X 0) (hn : nzr K < 26) (cap : (σ 4 1).toInt ≤ 262150) (k : ∀ s, SRs σ s b (4 :: K) 0 2 → Q s) : wk_X7_begin (1 : Int32) σ (fun s8 => wk_X7_turn x s8 (fun s13 => Q s13)) := by
  obtain ⟨h1, h2, h3, h4, h5, h6⟩ := h
  have c0 := clen_eq h4
  refine sk_begin (n := nzr K) h5 hn (fun s kk o1 rs a1 a2 a3 a4 => ?_)
  have w0 : (s 24) = (σ 24) := funext (fun j => kk 24 j rfl rfl)
  have e4 : (s 4 1) = (σ 4 1) := kk 4 1 rfl rfl
  have e6 : (s 6 3) = (σ 6 3) := kk 6 3 rfl rfl
  have e7 : (s 7 7) = (σ 7 7) := kk 7 7 rfl rfl
  have ecl : clen s = clen σ := by unfold clen; rw [e4]
  have h4s : 0 ≤ (s 4 1).toInt := by rw [e4]; exact h4
  have kx : KXS σ s := ko_sub (ko_kp kk) (by decide) (by decide)
  have mk : MKs σ s := mks_eq (funext (fun j => kk 25 j rfl rfl)) (funext (fun j => kk 39 j rfl rfl))
  have cx : CX s g (clen σ) (4 :: K) X := cx_begin h2 kk rs (by rw [a1, if_neg (by decide)]; rfl) a3 a4 (Or.inr (Or.inr (Or.inl rfl))) (fun _ => ⟨by rw [a2]; omega, h1.2.1⟩)
  unfold wk_X7_turn
  refine sk_emit (n := 31) rfl (by decide) h4s (by rw [e4]; omega) (fun v t _ em => k t ?_)
  have el := em_len em (m := 31) rfl
  have ec := em_clen em (n := 31) rfl h4s
  have l2 : ln 31 = 2 := rfl
  obtain ⟨ek, emk, -, -, ef, ee⟩ := em_k em
  have ec2 : clen t = clen s + 2 := ec
  have lt : (t 4 1).toInt = (σ 4 1).toInt + 2 := by rw [el, e4]; omega
  have bb := h1.1
  refine ⟨ko_tr kx (kxs_e ek), mks_tr mk emk, ⟨fun j hj => (em.2.2.1 j (by omega)).trans (by rw [w0]), by omega⟩, by omega, by omega, fun hf => ⟨by rw [← e6, ← ef]; exact hf, ?_⟩⟩
  obtain ⟨g2, T2, ag2, gn⟩ := typ_turn (w' := (t 24)) (L' := LV (4 :: K)) (typ_mono (fun q _ => by rw [w0]) agr_rf (fun a m z => cpu_mono ek emk a m (cpu_x kx mk a m z)) (fun _ z => z) h1) (fun q hq => em.2.2.1 q (by omega)) (by rw [← ecl, em.2.2.2.1]; rfl)
  have ec3 : clen t = clen σ + 2 := by omega
  refine ⟨g2, X, ⟨by rw [ec3]; exact T2, cx_e ek (fun q hq => em.2.2.1 q (by omega)) ag2 (by omega) cx, by rw [ee, e7]; exact h3, by omega, by rw [(kw_e ek).2.2.2.2.2.2, o1, nz_c (by decide)]; rfl, ?_⟩, by omega⟩
  rw [ec3]
  exact bnd_ext h6 ag2 (fun j a1 a2 => by
    have : j = clen σ + 1 := by omega
    rw [this]
    exact gn) T2.2.1 (by omega)
end SDO
end

section
/-! steps of statements: where a do's condition begins -/
section SDA
variable {σ s z t : St} {g g' g1 : Gh} {X X0 Y : Nat → Prop} {b e e0 e' H H0 H' L L' m n c d p tt j : Nat} {K E G D : List Nat} {x y v : Int32}
theorem ss_doagain {Q : St → Prop} (h : SB σ g b (4 :: K) X 0) (hn : nzr K < 26) (cap : (σ 4 1).toInt ≤ 262150) (k : ∀ s, SRs σ s b (5 :: K) 0 0 → Q s) : wk_X0_aim (atv 26 (σ 52) ((σ 9 5) - (1 : Int32))) (σ 4 1) σ (fun s67 => Q s67) := by
  obtain ⟨h1, h2, h3, h4, h5, h6⟩ := h
  have c0 := clen_eq h4
  unfold CX at h2
  rw [if_neg (by decide)] at h2
  obtain ⟨Y, E, G, D, a1, a2, ⟨a3, a4, a5⟩, b1, b2, b3, b4, b5, b6, b7, b8, b9, b10⟩ := h2
  have eD : D = [] := b10 (by decide)
  subst eD
  have nk : nzr (4 :: K) = nzr K + 1 := nz_c (by decide)
  have nk5 : nzr (5 :: K) = nzr K + 1 := nz_c (by decide)
  have oi : ((σ 9 5) - (1 : Int32)).toInt = nzr K := by rw [sbc i1 (by omega) (by omega)]; omega
  have lv : LV (4 :: K) = LV K + 1 := rfl
  have b5' : ∀ p ∈ G, WJ (σ 24) g (clen σ) p (LV K + 1) := b5
  rw [atv_at oi hn]
  refine sp_aimE (E := G) (tt := clen σ) h1 (by omega) (Nat.le_refl _) (b2 (by decide)) (fun p hp => wj_pj (b5' p hp) (by rw [h1.2.1, lv]) (Or.inr ⟨Nat.le_refl _, Nat.le_refl _⟩)) h4 (by omega) (fun s kk w0 wo T2 cxk => k s ?_)
  have e4 : (s 4 1) = (σ 4 1) := kk 4 1 rfl rfl
  have e6 : (s 6 3) = (σ 6 3) := kk 6 3 rfl rfl
  have e7 : (s 7 7) = (σ 7 7) := kk 7 7 rfl rfl
  have e9 : (s 9 5) = (σ 9 5) := kk 9 5 rfl rfl
  have ecl : clen s = clen σ := by unfold clen; rw [e4]
  have r : s 49 = σ 49 ∧ s 50 = σ 50 ∧ s 51 = σ 51 := ⟨funext (fun j => kk 49 j rfl rfl), funext (fun j => kk 50 j rfl rfl), funext (fun j => kk 51 j rfl rfl)⟩
  have gp : ∀ p ∈ E, ∀ q ∈ G, p ≠ q + 1 := fun p hp q hq e2 => (wj_next h1 (b4 p hp)).1 (by rw [e2]; exact (wj_next h1 (b5' q hq)).2)
  refine ⟨ko_sub (ko_kp kk) (by decide) (by decide), mks_eq (funext (fun j => kk 25 j rfl rfl)) (funext (fun j => kk 39 j rfl rfl)), ⟨w0, by rw [ecl]; exact h1.1⟩, by rw [e4]; exact h4, by rw [e4]; omega, fun hf => ⟨by rw [← e6]; exact hf, g, _, ⟨T2, ?_, by rw [e7]; exact h3, by rw [e4]; exact h4, by rw [e9]; omega, by rw [ecl]; exact h6⟩, by omega⟩⟩
  unfold CX
  rw [if_neg (by decide)]
  refine ⟨Y, E, [], [], cxk K Y (fun q hq => (a4 q hq).1) a1, fun q => ?_, ⟨a3, fun q hq => (by cases hq), fun q hq => (by cases hq)⟩, ?_, fun z => absurd rfl z, by rw [r.1]; exact b3, fun p hp => ?_, fun p hp => (by cases hp), fun _ => rfl, fun _ => ?_, fun z => absurd z (by decide), fun z => absurd z (by decide), fun _ => rfl⟩
  · show (X q ∧ ¬ q ∈ G) ↔ _
    rw [a2 q]
    constructor
    · rintro ⟨y | y | y | y, hG⟩
      · exact Or.inl y
      · exact Or.inr (Or.inl y)
      · exact absurd y hG
      · cases y
    · rintro (y | y | y | y)
      · exact ⟨Or.inl y, fun hG => (a4 q hG).1 y⟩
      · exact ⟨Or.inr (Or.inl y), fun hG => (a4 q hG).2 y⟩
      · cases y
      · cases y
  · rw [r.2.2]
    exact chw_mono E _ (fun p hp => wo (p + 1) (fun q hq e2 => (a4 q hq).2 (by
      have : p = q := by omega
      rw [← this]
      exact hp))) b1
  · obtain ⟨n, k2, d1, d2, d3, d4, d5⟩ := b4 p hp
    exact ⟨n, k2, by rw [wo p (gp p hp)]; exact d1, d2, d3, by rw [ecl]; exact d4, d5⟩
  · obtain ⟨t, d1, d2, d3⟩ := b7 (by decide)
    exact ⟨t, by rw [r.2.1]; exact d1, by rw [ecl]; exact d2, d3⟩
end SDA
end

section
/-! steps of statements: a do's condition -/
section SDT
variable {σ s z t : St} {g g' g1 : Gh} {X X0 Y : Nat → Prop} {b e e0 e' H H0 H' L L' m n c d p tt j : Nat} {K E G D : List Nat} {x y v : Int32}
theorem se_typ (h : SE σ g b K X H0 e0 [iV]) : TYp (σ 24) g (CPu σ) X b e0 H0 (LV K) := by
  obtain ⟨⟨h1, h2, h3, Hh, Xh, h4⟩, -⟩ := h
  obtain ⟨-, s0, Hs, r1, -⟩ := rlx_Vi h4
  obtain ⟨rfl, rfl, rfl, T⟩ := r1
  exact T
theorem sr_bad (kx : KXS σ s) (mk : MKs σ s) (w : ∀ j, j < b → (s 24) j = (σ 24) j) (hb : b ≤ clen s) (h0 : 0 ≤ (s 4 1).toInt) (hl : (s 4 1).toInt ≤ (σ 4 1).toInt + m) (hf : (s 6 3).toInt ≠ 0) : SRs σ s b K H0 m := ⟨kx, mk, ⟨w, hb⟩, h0, hl, fun f => absurd f hf⟩
/-- the jumps out of a construct come here, under a fault -/
theorem sp_finb {Q : St → Prop} (he : CHW (σ 24) ((σ 51) (nzr K)) E) (hE : ∀ p ∈ E, b ≤ p ∧ p + 2 ≤ clen σ) (h0 : 0 ≤ (σ 4 1).toInt) (cap : (σ 4 1).toInt ≤ 262190) (ho : (σ 9 5).toInt = nzr K + 1) (hn : nzr K < 26) (k : ∀ s, Kp [(9, 5)] [24] σ s → (∀ j, j < b → (s 24) j = (σ 24) j) → Q s) : wk_X7_finish σ Q := by
  have c0 := clen_eq h0
  have oi : ((σ 9 5) - (1 : Int32)).toInt = nzr K := by rw [sbc i1 (by omega) (by omega)]; omega
  unfold wk_X7_finish
  rw [atv_at oi hn]
  generalize h1 : upC σ 9 5 ((σ 9 5) - (1 : Int32)) = σ1
  have r : ∀ c, c ≠ 9 → σ1 c = σ c := fun c hc => by rw [← h1]; exact rdC_ne hc
  have r24 : (σ1 24) = (σ 24) := r 24 (by decide)
  have r4 : (σ1 4 1) = (σ 4 1) := by rw [r 4 (by decide)]
  have ecl1 : clen σ1 = clen σ := by unfold clen; rw [r4]
  refine sp_aimN (l := E) (by rw [r24]; exact he) (fun p hp => by rw [ecl1]; exact (hE p hp).2) (by rw [r4]; exact h0) (by rw [r4]; omega) ?_
  refine k _ ?_ (fun j hj => ?_)
  · rw [← h1]
    exact kp_F (kp_f kp_rf rfl) rfl
  · rw [rdF_eq, r24]
    exact pat_out (fun p hp => by have := (hE p hp).1; omega)
theorem ss_dotest {Q : St → Prop} (h : SE σ g b (5 :: K) X 0 e0 [iV]) (hb : b ≤ e0) (hn : nzr K < 26) (cap : (σ 4 1).toInt ≤ 262150) (k : ∀ s, SRs σ s b K 0 (2 * plc σ [iV] + 2) → Q s) : wk_X7_condition x σ (fun u57 s57 => wk_X0_emit (28 : Int32) (atv 26 (s57 50) ((s57 9 5) - (1 : Int32))) (0 : Int32) (0 : Int32) s57 (fun v82 s82 => wk_X7_finish s82 (fun s87 => Q s87))) := by
  have hh0 := h.1.2.2.1
  have c0 := clen_eq hh0
  have ho := h.2.2.1
  have p1 : plc σ [iV] = pk σ 65 + 0 := plc_V
  have pk1 := pkq_le (σ := σ) (q := 65)
  have T0 := se_typ h
  have nk : nzr (5 :: K) = nzr K + 1 := nz_c (by decide)
  have lv : LV (5 :: K) = LV K + 1 := rfl
  have hx := h.2.1
  unfold CX at hx
  rw [if_neg (by decide)] at hx
  obtain ⟨Y0, E0, G0, D0, -, -, -, f1, -, -, f4, -⟩ := hx
  have E0b : ∀ p ∈ E0, b ≤ p ∧ p + 2 ≤ e0 := fun p hp => ⟨wj_b T0 (f4 p hp), wj_lt (f4 p hp)⟩
  refine sp_cond h (by omega) (fun s k1 m1 w1 l0 hcc hst hv => ?_)
  obtain ⟨hc, hce⟩ := hcc
  clear hst
  have c1 := clen_eq l0
  obtain ⟨q1, q2, q3, q4, q5, q6, q7⟩ := kw_e k1
  have oi : ((s 9 5) - (1 : Int32)).toInt = nzr K := by rw [q7, sbc i1 (by clear hv; omega) (by clear hv; omega)]; clear hv; omega
  rw [atv_at oi hn]
  refine sk_emit (n := 28) rfl (by decide) l0 (by clear hv; omega) (fun v z _ em => ?_)
  have ec := em_clen em (n := 28) rfl l0
  have el := em_len em (m := 28) rfl
  have l2 : ln 28 = 2 := rfl
  obtain ⟨ek, emk, -, -, ef, ee⟩ := em_k em
  have ec2 : clen z = clen s + 2 := ec
  have el2 : (z 4 1).toInt = (s 4 1).toInt + 2 := el
  obtain ⟨p1', p2', p3', p4', p5', p6', p7'⟩ := kw_e ek
  have ozz : (z 9 5).toInt = nzr K + 1 := by rw [p7', q7, ho, nk]; rfl
  have kxz : KXS σ z := kxs_e (ko_tr k1 ek)
  have mkz : MKs σ z := mks_tr m1 emk
  have wz : ∀ j, j < e0 → (z 24) j = (σ 24) j := fun j hj => (em.2.2.1 j (by clear hv; omega)).trans (w1 j hj)
  by_cases f0 : (s 6 3).toInt = 0
  · obtain ⟨f9, g1, ag, h1, h2, h3, h4, h5, h6, h7, h8, h9, h10⟩ := hv f0
    clear hv
    unfold CX at h2
    rw [if_neg (by decide)] at h2
    obtain ⟨Y, E, G, D, a1, a2, ⟨a3, a4, a5⟩, b1, b2, b3, b4, b5, b6, b7, b8, b9, b10⟩ := h2
    have eG : G = [] := b6 (Or.inr (Or.inr (Or.inl rfl)))
    have eD : D = [] := b10 (by decide)
    subst eG eD
    obtain ⟨t, t1, t2, t3⟩ := b7 (by decide)
    obtain ⟨g2, T3, ag2, gn⟩ := typ_jump (w' := (z 24)) (n := 28) (tt := t) (H' := 0) (L' := LV K) (typ_mono (fun q _ => rfl) agr_rf (cpu_mono ek emk) (fun _ z => z) h1) em.2.2.1 (by rw [em.2.2.2.1]; rfl) (Or.inr (Or.inr rfl)) (by rw [em.2.2.2.2.1]; exact t1) (by omega) (fun _ => ⟨by omega, by omega, by omega⟩) ⟨LV K, by rw [if_neg (by decide)]; exact t3, Or.inl (by rw [lv]; exact Nat.lt_succ_self _)⟩
    rw [← ec2] at T3
    refine sp_fin (σ := z) (E := E) (Y := Y) T3 (fun q hq => ?_) (cx_e ek (fun q hq => em.2.2.1 q (by omega)) (agr_le ag2 h7) (by omega) a1) ?_ (fun p hp => wj_mono (fun q hq => em.2.2.1 q (by omega)) (agr_le ag2 h7) (by omega) (b4 p hp)) a3 (by rw [ee]; exact h3) (by omega) (by omega) ozz hn ?_ (fun s9 k9 w9 sb => k s9 (sk_srtr (z := s) (d := 2 * plc σ [iV]) (kxs_e k1) m1 (fun j hj => w1 j (by omega)) (fun _ => f9) hc hh0 l0 (fin_sr (s1 := z) (l := 2) (kxs_e ek) emk (fun j hj => em.2.2.1 j (by omega)) (fun f => by rw [ef] at f; exact f) el2 l0 k9 w9 sb (Nat.le_refl _))))
    · rcases (a2 q).mp hq with y | y | y | y
      · exact Or.inl y
      · exact Or.inr y
      · cases y
      · cases y
    · rw [p3']
      exact chw_mono E _ (fun p hp => em.2.2.1 (p + 1) (by have := wj_lt (b4 p hp); omega)) b1
    · rw [ec2]
      exact bnd_ext h6 ag2 (fun j a1 a2 => by
        have : j = clen s + 1 := by omega
        rw [this]
        exact gn) (by rw [← ec2]; exact T3.2.1) (by omega)
  · clear hv
    refine sp_finb (σ := z) (E := E0) (b := b) ?_ (fun p hp => ⟨(E0b p hp).1, by have := (E0b p hp).2; omega⟩) (by omega) (by omega) ozz hn (fun s9 k9 w9 => k s9 (sr_bad (ko_tr kxz (ko_sub (ko_kp k9) (by decide) (by decide))) (mks_tr mkz (mks_eq (funext (fun j => k9 25 j rfl rfl)) (funext (fun j => k9 39 j rfl rfl)))) (fun j hj => (w9 j hj).trans (wz j (by omega))) ?_ ?_ ?_ ?_))
    · rw [p3', q3]
      exact chw_mono E0 _ (fun p hp => wz _ (by have := (E0b p hp).2; omega)) f1
    · have : clen s9 = clen z := by unfold clen; rw [show (s9 4 1) = (z 4 1) from k9 4 1 rfl rfl]
      omega
    · rw [show (s9 4 1) = (z 4 1) from k9 4 1 rfl rfl]
      omega
    · rw [show (s9 4 1) = (z 4 1) from k9 4 1 rfl rfl]
      omega
    · rw [show (s9 6 3) = (z 6 3) from k9 6 3 rfl rfl, ef]
      exact f0
end SDT
end

section
/-! steps of statements: a for's test, its body -/
section SFO
variable {σ s z t : St} {g g' g1 : Gh} {X X0 Y : Nat → Prop} {b e e0 e' H H0 H' L L' m n c d p tt j : Nat} {K E G D : List Nat} {x y v : Int32}
theorem sr_rf (h : SB σ g b K X H0) (hf : (σ 6 3).toInt = 0) : SRs σ σ b K H0 0 := ⟨ko_rf, mks_rf, ⟨fun _ _ => rfl, h.1.1⟩, h.2.2.2.1, by omega, fun _ => ⟨hf, g, X, h, by omega⟩⟩
/-- behind a for's test: the jump to the body -/
theorem ss_fjump {Q : St → Prop} (r : SRs σ s b (6 :: K) 0 m) (cap : (s 4 1).toInt ≤ 262190) (hn : nzr K < 26) (k : ∀ t, SRs σ t b (7 :: K) 0 (m + 2) → Q t) : wk_X0_emit (26 : Int32) ((-1) : Int32) (0 : Int32) (0 : Int32) s (fun v52 s52 => Q (upF (upF s52 53 (setv 26 (s52 53) ((s 9 5) - (1 : Int32)) v52)) 54 (setv 26 ((upF s52 53 (setv 26 (s52 53) ((s 9 5) - (1 : Int32)) v52)) 54) ((s52 9 5) - (1 : Int32)) (s52 4 1)))) := by
  obtain ⟨r1, r2, r3, r4, r5, r6⟩ := r
  have c1 := clen_eq r4
  have hbc := r3.2
  by_cases fz : (s 6 3).toInt = 0
  rotate_left
  · clear r6
    refine sk_emit (n := 26) rfl (by decide) r4 (by omega) (fun v t ev em => ?_)
    have el := em_len em (m := 26) rfl
    have ec := em_clen em (n := 26) rfl r4
    have l2 : ln 26 = 2 := rfl
    obtain ⟨ek, emk, -, -, ef, ee⟩ := em_k em
    generalize hz : upF (upF t 53 _) 54 _ = z
    have zr : ∀ c, c ≠ 53 → c ≠ 54 → z c = t c := fun c h1 h2 => by rw [← hz, rdF_ne h2, rdF_ne h1]
    have z24 : (z 24) = (t 24) := zr 24 (by decide) (by decide)
    have z4 : (z 4 1) = (t 4 1) := by rw [zr 4 (by decide) (by decide)]
    have ecz : clen z = clen t := by unfold clen; rw [z4]
    have kz : KXS t z := by
      rw [← hz]
      exact ko_kp (kp_F (kp_F kp_rf rfl) rfl)
    have mz : MKs t z := mks_eq (zr 25 (by decide) (by decide)) (zr 39 (by decide) (by decide))
    exact k z (sr_bad (ko_tr r1 (ko_tr (kxs_e ek) kz)) (mks_tr r2 (mks_tr emk mz)) (fun j hj => by rw [z24]; exact (em.2.2.1 j (by omega)).trans (r3.1 j hj)) (by omega) (by rw [z4]; omega) (by rw [z4]; omega) (by rw [zr 6 (by decide) (by decide), ef]; exact fz))
  have ho : (s 9 5).toInt = nzr K + 1 := by
    obtain ⟨-, g', X', ⟨-, -, -, -, h5, -⟩, -⟩ := r6 fz
    rw [h5, nz_c (by decide)]
    rfl
  have oi : ((s 9 5) - (1 : Int32)).toInt = nzr K := by rw [sbc i1 (by clear r6; omega) (by clear r6; omega)]; clear r6; omega
  refine sk_emit (n := 26) rfl (by decide) r4 (by clear r6; omega) (fun v t ev em => ?_)
  have el := em_len em (m := 26) rfl
  have ec := em_clen em (n := 26) rfl r4
  have l2 : ln 26 = 2 := rfl
  obtain ⟨ek, emk, -, -, ef, ee⟩ := em_k em
  obtain ⟨q1, q2, q3, q4, q5, q6, q7⟩ := kw_e ek
  have oi2 : ((t 9 5) - (1 : Int32)).toInt = nzr K := by rw [q7]; exact oi
  have ec2 : clen t = clen s + 2 := ec
  rw [setv_at oi hn, setv_at oi2 hn]
  generalize hz : upF (upF t 53 (fun k => if k = nzr K then v else (t 53) k)) 54 (fun k => if k = nzr K then (t 4 1) else (upF t 53 (fun k => if k = nzr K then v else (t 53) k)) 54 k) = z
  have zr : ∀ c, c ≠ 53 → c ≠ 54 → z c = t c := fun c h1 h2 => by rw [← hz, rdF_ne h2, rdF_ne h1]
  have z53 : (z 53) = fun k => if k = nzr K then v else (t 53) k := by rw [← hz, rdF_ne (by decide), rdF_eq]
  have z54 : (z 54) = fun k => if k = nzr K then (t 4 1) else (t 54) k := by rw [← hz, rdF_eq]; rfl
  have z24 : (z 24) = (t 24) := zr 24 (by decide) (by decide)
  have z4 : (z 4 1) = (t 4 1) := by rw [zr 4 (by decide) (by decide)]
  have ecz : clen z = clen t := by unfold clen; rw [z4]
  have kz : KXS t z := by
    rw [← hz]
    exact ko_kp (kp_F (kp_F kp_rf rfl) rfl)
  have mz : MKs t z := mks_eq (zr 25 (by decide) (by decide)) (zr 39 (by decide) (by decide))
  refine k z ⟨ko_tr r1 (ko_tr (kxs_e ek) kz), mks_tr r2 (mks_tr emk mz), ⟨fun j hj => by rw [z24]; exact (em.2.2.1 j (by clear r6; omega)).trans (r3.1 j hj), by clear r6; omega⟩, by rw [z4]; clear r6; omega, by rw [z4]; clear r6; omega, fun hf => ?_⟩
  obtain ⟨f0, g', X', ⟨h1, h2, h3, h4, h5, h6⟩, a9⟩ := r6 (by rw [← ef, ← zr 6 (by decide) (by decide)]; exact hf)
  have lv6 : LV (6 :: K) = LV K := rfl
  have lv7 : LV (7 :: K) = LV K + 1 := rfl
  obtain ⟨g2, T2, ag2, gn⟩ := typ_hole (w' := (t 24)) (n := 26) (H' := 0) (L' := LV (7 :: K)) (typ_mono (fun q _ => rfl) agr_rf (cpu_mono ek emk) (fun _ z => z) h1) em.2.2.1 (by rw [em.2.2.2.1]; rfl) (by decide) (fun z => absurd rfl z)
  rw [← ec2] at T2
  have xlt := cx_lt (6 :: K) X' h2
  refine ⟨f0, g2, fun q => X' q ∨ q = clen s, ⟨?_, ?_, by rw [zr 7 (by decide) (by decide), ee]; exact h3, by rw [z4]; omega, by rw [zr 9 (by decide) (by decide), q7, nz_c (by decide)]; exact ho, ?_⟩, by omega⟩
  · rw [ecz, z24]
    exact typ_mono (fun _ _ => rfl) agr_rf (cpu_x kz mz) (fun _ z => z) T2
  · unfold CX at h2 ⊢
    rw [if_neg (by decide)] at h2 ⊢
    obtain ⟨Y, E, G, D, a1, a2, ⟨a3, a4, a5⟩, b1, b2, b3, b4, b5, b6, b7, b8, b9, b10⟩ := h2
    have eG : G = [] := b6 (Or.inr (Or.inr (Or.inr (Or.inl rfl))))
    have eD : D = [] := b10 (by decide)
    subst eG eD
    have ws : ∀ q, q < clen s → (z 24) q = (s 24) q := fun q hq => by rw [z24]; exact em.2.2.1 q hq
    rw [ecz]
    refine ⟨Y, E, [], [clen s], cx_mono K Y (fun i hi => ⟨by rw [zr 49 (by decide) (by decide), q1], by rw [zr 50 (by decide) (by decide), q2], by rw [zr 51 (by decide) (by decide), q3], by rw [zr 52 (by decide) (by decide), q4], ?_, ?_⟩) ws ag2 (by omega) a1, fun q => ?_, ⟨a3, fun q hq => (by cases hq), fun q hq => ?_⟩, ?_, ?_, ?_, fun p hp => wj_mono ws ag2 (by omega) (b4 p hp), fun p hp => (by cases hp), fun _ => rfl, fun _ => ?_, fun _ => ⟨clen t, ?_, Nat.le_refl _, ?_⟩, fun _ => ⟨clen s, rfl, ?_, ?_, ?_, by omega, ?_⟩, fun c2 => absurd rfl c2⟩
    · rw [z53]
      show (if i = nzr K then v else (t 53) i) = _
      rw [if_neg (by omega), q5]
    · rw [z54]
      show (if i = nzr K then (t 4 1) else (t 54) i) = _
      rw [if_neg (by omega), q6]
    · show (X' q ∨ q = clen s) ↔ _
      rw [a2 q]
      constructor
      · rintro ((y | y | y | y) | y)
        · exact Or.inl y
        · exact Or.inr (Or.inl y)
        · cases y
        · cases y
        · exact Or.inr (Or.inr (Or.inr (List.mem_singleton.mpr y)))
      · rintro (y | y | y | y)
        · exact Or.inl (Or.inl y)
        · exact Or.inl (Or.inr (Or.inl y))
        · cases y
        · exact Or.inr (List.mem_singleton.mp y)
    · rw [List.mem_singleton] at hq
      refine ⟨fun hy => ?_, fun hy => ?_, fun hy => (by cases hy)⟩
      · have := xlt q ((a2 q).mpr (Or.inl hy))
        omega
      · have := xlt q ((a2 q).mpr (Or.inr (Or.inl hy)))
        omega
    · rw [zr 51 (by decide) (by decide), q3]
      exact chw_mono E _ (fun p hp => ws _ (by have := wj_lt (b4 p hp); omega)) b1
    · intro _
      rw [zr 52 (by decide) (by decide), q4]
      exact b2 (by decide)
    · rw [zr 49 (by decide) (by decide), q1]
      exact b3
    · obtain ⟨t0, d1, d2, d3⟩ := b7 (by decide)
      exact ⟨t0, by rw [zr 50 (by decide) (by decide), q2]; exact d1, by omega, by rw [ag2 t0 d2]; exact d3⟩
    · have ez : (z 54) (nzr K) = (t 4 1) := by rw [z54]; exact if_pos rfl
      rw [ez]
      omega
    · rw [T2.2.1, lv7]
    · have ez : (z 53) (nzr K) = v := by rw [z53]; exact if_pos rfl
      rw [ez, ev]
      omega
    · rw [z24, em.2.2.2.1]
      rfl
    · rw [z24, em.2.2.2.2.1]
      decide
    · rw [ag2 _ (Nat.le_refl _), h1.2.1, lv6]
  · rw [ecz, ec2]
    exact bnd_ext h6 ag2 (fun j a1 a2 => by
      have : j = clen s + 1 := by omega
      rw [this]
      exact gn) (by rw [← ec2]; exact T2.2.1) (by omega)
theorem ss_ftest {Q : St → Prop} (h : SE σ g b (6 :: K) X 0 e0 [iV]) (hb : b ≤ e0) (hn : nzr K < 26) (cap : (σ 4 1).toInt ≤ 262150) (k : ∀ s, SRs σ s b (6 :: K) 0 (2 * plc σ [iV] + 2) → Q s) : wk_X7_condition x σ (fun u27 s27 => wk_X7_exitUnless u27 s27 (fun s30 => Q s30)) := by
  have hh0 := h.1.2.2.1
  have c0 := clen_eq hh0
  have ho := h.2.2.1
  have p1 : plc σ [iV] = pk σ 65 + 0 := plc_V
  have pk1 := pkq_le (σ := σ) (q := 65)
  refine sp_cond h (by omega) (fun s k1 m1 w1 l0 hcc hst hv => ?_)
  obtain ⟨hc, hce⟩ := hcc
  have c1 := clen_eq l0
  have os : (s 9 5).toInt = nzr K + 1 := by rw [(kw_e k1).2.2.2.2.2.2, ho, nz_c (by decide)]; rfl
  refine sp_exit (σ := s) (c := 6) (K := K) (X := X) (e0 := e0) (b := b) os hn l0 (by clear hst hv; omega) (Or.inr (Or.inr rfl)) hb hst (Nat.le_trans hb hce) (fun f => ?_) (fun z r => ?_)
  · obtain ⟨f1, g2, -, vs⟩ := hv f
    exact ⟨g2, vs⟩
  · exact k z (sk_srtr (z := s) (kxs_e k1) m1 (fun j hj => w1 j (by clear hst hv; omega)) (fun f => (hv f).1) hc hh0 l0 r)
end SFO
end

section
/-! steps of statements: where a for's body begins -/
section SFB
variable {σ s z t : St} {g g' g1 : Gh} {X X0 Y : Nat → Prop} {b e e0 e' H H0 H' L L' m n c d p tt j : Nat} {K E G D : List Nat} {x y v : Int32}
theorem ss_fbody {Q : St → Prop} (h : SB σ g b (7 :: K) X 0) (hn : nzr K < 26) (cap : (σ 4 1).toInt ≤ 262150) (k : ∀ s, SRs σ s b (8 :: K) 0 4 → Q s) : wk_X7_jumpBack (atv 26 (σ 50) ((σ 9 5) - (1 : Int32))) σ (fun s101 => wk_X0_aim (atv 26 (s101 53) ((s101 9 5) - (1 : Int32))) (s101 4 1) s101 (fun s128 => wk_X7_turn x s128 (fun s133 => Q s133))) := by
  obtain ⟨h1, h2, h3, h4, h5, h6⟩ := h
  have c0 := clen_eq h4
  have xlt := cx_lt (7 :: K) X h2
  unfold CX at h2
  rw [if_neg (by decide)] at h2
  obtain ⟨Y, E, G, D, a1, a2, ⟨a3, a4, a5⟩, b1, b2, b3, b4, b5, b6, b7, b8, b9, b10⟩ := h2
  have eG : G = [] := b6 (Or.inr (Or.inr (Or.inr (Or.inr rfl))))
  subst eG
  obtain ⟨tp, t1, t2, t3⟩ := b7 (by decide)
  obtain ⟨la, u1, u2, u3⟩ := b8 (Or.inl rfl)
  obtain ⟨pj, eD, d1, d2, d3, d4, d5⟩ := b9 rfl
  subst eD
  have nk : nzr (7 :: K) = nzr K + 1 := nz_c (by decide)
  have lv7 : LV (7 :: K) = LV K + 1 := rfl
  have lv8 : LV (8 :: K) = LV K + 2 := rfl
  have oi : ((σ 9 5) - (1 : Int32)).toInt = nzr K := by rw [sbc i1 (by omega) (by omega)]; omega
  rw [atv_at oi hn]
  unfold wk_X7_jumpBack
  refine sk_emit (n := 26) rfl (by decide) h4 (by omega) (fun v s _ em => ?_)
  have ec := em_clen em (n := 26) rfl h4
  have el := em_len em (m := 26) rfl
  have l2 : ln 26 = 2 := rfl
  obtain ⟨ek, emk, -, -, ef, ee⟩ := em_k em
  obtain ⟨q1, q2, q3, q4, q5, q6, q7⟩ := kw_e ek
  have ec2 : clen s = clen σ + 2 := ec
  have el2 : (s 4 1).toInt = (σ 4 1).toInt + 2 := el
  have oi2 : ((s 9 5) - (1 : Int32)).toInt = nzr K := by rw [q7]; exact oi
  obtain ⟨g2, T2, ag2, gn⟩ := typ_jump (w' := (s 24)) (n := 26) (tt := tp) (H' := 0) (L' := LV K) (typ_mono (fun q _ => rfl) agr_rf (cpu_mono ek emk) (fun _ z => z) h1) em.2.2.1 (by rw [em.2.2.2.1]; rfl) (Or.inl rfl) (by rw [em.2.2.2.2.1]; exact t1) (by omega) (fun z => absurd rfl z) ⟨LV K, by rw [if_pos rfl]; exact t3, Or.inl (by rw [lv7]; exact Nat.lt_succ_self _)⟩
  rw [← ec2] at T2
  have h4s : 0 ≤ (s 4 1).toInt := by omega
  have c1 := clen_eq h4s
  show wk_X0_aim (atv 26 (s 53) ((s 9 5) - (1 : Int32))) (s 4 1) s _
  rw [atv_at oi2 hn, q5]
  refine sp_aimE (σ := s) (E := [pj]) (tt := clen s) T2 (by omega) (Nat.le_refl _) ⟨d1, ?_, fun q hq => (by cases hq)⟩ (fun p hp => ?_) h4s (by omega) (fun u kk w0 wo T3 cxk => ?_)
  · show ((s 24) (pj + 1)).toInt < 0
    rw [em.2.2.1 (pj + 1) (by omega)]
    exact d3
  · rw [List.mem_singleton] at hp
    subst hp
    exact ⟨26, LV K, by rw [em.2.2.1 p (by omega)]; exact d2, Or.inl rfl, by rw [ag2 p (by omega)]; exact d5, by omega, LV K, T2.2.1, Or.inr ⟨rfl, by omega⟩⟩
  have u4 : (u 4 1) = (s 4 1) := kk 4 1 rfl rfl
  have ecu : clen u = clen s := by unfold clen; rw [u4]
  have h4u : 0 ≤ (u 4 1).toInt := by rw [u4]; exact h4s
  have ku : KXE s u := ko_sub (ko_kp kk) (by decide) (by decide)
  have mu : MKs s u := mks_eq (funext (fun j => kk 25 j rfl rfl)) (funext (fun j => kk 39 j rfl rfl))
  show wk_X7_turn x u _
  unfold wk_X7_turn
  refine sk_emit (n := 31) rfl (by decide) h4u (by rw [u4]; omega) (fun v2 w _ em2 => ?_)
  have ecw := em_clen em2 (n := 31) rfl h4u
  have elw := em_len em2 (m := 31) rfl
  have l3 : ln 31 = 2 := rfl
  obtain ⟨ek2, emk2, -, -, ef2, ee2⟩ := em_k em2
  have ecw2 : clen w = clen u + 2 := ecw
  have elw2 : (w 4 1).toInt = (u 4 1).toInt + 2 := elw
  have lw : (w 4 1).toInt = (σ 4 1).toInt + 4 := by rw [elw2, u4, el2]; omega
  obtain ⟨g3, T4, ag3, gn3⟩ := typ_turn (w' := (w 24)) (L' := LV (8 :: K)) (typ_mono (fun q _ => rfl) agr_rf (cpu_mono ek2 emk2) (fun _ z => z) T3) em2.2.2.1 (by rw [em2.2.2.2.1]; rfl)
  rw [← ecw2] at T4
  obtain ⟨y1, y2, y3, y4, y5, y6, y7⟩ := kw_e ku
  obtain ⟨x1, x2, x3, x4, x5, x6, x7⟩ := kw_e ek2
  have wlow : ∀ j, j < b → (w 24) j = (σ 24) j := fun j hj => (em2.2.2.1 j (by have := h1.1; omega)).trans ((w0 j hj).trans (em.2.2.1 j (by have := h1.1; omega)))
  have kkw : KXS σ w := ko_tr (kxs_e ek) (ko_tr (kxs_e ku) (kxs_e ek2))
  refine k w ⟨kkw, mks_tr emk (mks_tr mu emk2), ⟨wlow, by have := h1.1; omega⟩, by omega, by omega, fun hf => ⟨?_, g3, _, ⟨T4, ?_, ?_, by omega, ?_, ?_⟩, by omega⟩⟩
  · rw [← ef, ← show (u 6 3) = (s 6 3) from kk 6 3 rfl rfl, ← ef2]
    exact hf
  · -- the constructs around
    have pjn : ∀ q, X q → q ≠ pj → q + 1 ≠ pj + 1 := fun q _ hne e2 => hne (by omega)
    have wE : ∀ p ∈ E, (u 24) p = (s 24) p := fun p hp => wo p (fun q hq e2 => by
      rw [List.mem_singleton] at hq
      subst hq
      have g0 := (wj_next h1 (b4 p hp)).1
      have gj : g (q + 1) = none := hole_next (n := 26) h1 d5 d4 d2 ⟨by decide, by decide⟩
      rw [e2] at g0
      exact g0 gj)
    have wE1 : ∀ p ∈ E, (u 24) (p + 1) = (s 24) (p + 1) := fun p hp => wo (p + 1) (fun q hq e2 => by
      rw [List.mem_singleton] at hq
      subst hq
      have : p = q := by omega
      rw [this] at hp
      exact (a5 q (List.mem_singleton.mpr rfl)).2.1 hp)
    have cK0 : CX s g2 (clen s) K Y := cx_e ek em.2.2.1 ag2 (by omega) a1
    have cK1 : CX u g2 (clen u) K Y := cxk K Y (fun q hq => by
      rw [List.mem_singleton] at hq
      subst hq
      exact (a5 q (List.mem_singleton.mpr rfl)).1) cK0
    have cK2 : CX w g3 (clen w) K Y := cx_e ek2 em2.2.2.1 ag3 (by omega) cK1
    unfold CX
    rw [if_neg (by decide)]
    refine ⟨Y, E, [], [], cK2, fun q => ?_, ⟨a3, fun q hq => (by cases hq), fun q hq => (by cases hq)⟩, ?_, ?_, ?_, fun p hp => ?_, fun p hp => (by cases hp), fun _ => rfl, fun _ => ⟨tp, ?_, by omega, ?_⟩, fun _ => ⟨la, ?_, by omega, ?_⟩, fun c2 => absurd c2 (by decide), fun _ => rfl⟩
    · show (X q ∧ ¬ q ∈ [pj]) ↔ _
      rw [a2 q, List.mem_singleton]
      constructor
      · rintro ⟨y | y | y | y, hE⟩
        · exact Or.inl y
        · exact Or.inr (Or.inl y)
        · cases y
        · exact absurd y hE
      · rintro (y | y | y | y)
        · exact ⟨Or.inl y, fun e2 => (a5 pj (List.mem_singleton.mpr rfl)).1 (by rw [← e2]; exact y)⟩
        · exact ⟨Or.inr (Or.inl y), fun e2 => (a5 pj (List.mem_singleton.mpr rfl)).2.1 (by rw [← e2]; exact y)⟩
        · cases y
        · cases y
    · rw [x3, y3, q3]
      exact chw_mono E _ (fun p hp => by
        have := wj_lt (b4 p hp)
        exact (em2.2.2.1 (p + 1) (by omega)).trans ((wE1 p hp).trans (em.2.2.1 (p + 1) (by omega)))) b1
    · intro _
      rw [x4, y4, q4]
      exact b2 (by decide)
    · rw [x1, y1, q1]
      exact b3
    · obtain ⟨n, k2, z1, z2, z3, z4, z5⟩ := b4 p hp
      exact ⟨n, k2, by rw [em2.2.2.1 p (by omega), wE p hp, em.2.2.1 p (by omega)]; exact z1, z2, by rw [ag3 p (by omega), ag2 p (by omega)]; exact z3, by omega, z5⟩
    · rw [x2, y2, q2]
      exact t1
    · rw [ag3 tp (by omega), ag2 tp (by omega)]
      exact t3
    · rw [x6, y6, q6]
      exact u1
    · rw [ag3 la (by omega), ag2 la (by omega)]
      exact u3
  · rw [ee2, show (u 7 7) = (s 7 7) from kk 7 7 rfl rfl, ee]
    exact h3
  · rw [x7, y7, q7, nz_c (by decide)]
    rw [nk] at h5
    exact h5
  · rw [ecw2]
    refine bnd_ext ?_ ag3 (fun j a1 a2 => by
      have : j = clen u + 1 := by omega
      rw [this]
      exact gn3) (by rw [← ecw2]; exact T4.2.1) (by omega)
    rw [ecu, ec2]
    exact bnd_ext h6 ag2 (fun j a1 a2 => by
      have : j = clen σ + 1 := by omega
      rw [this]
      exact gn) (by rw [← ec2]; exact T2.2.1) (by omega)
end SFB
end

section
/-! steps of statements: the end of a for -/
section SFE
variable {σ s z t : St} {g g' g1 : Gh} {X X0 Y : Nat → Prop} {b e e0 e' H H0 H' L L' m n c d p tt j : Nat} {K E G D : List Nat} {x y v : Int32}
theorem ss_fend {Q : St → Prop} (h : SB σ g b (8 :: K) X 0) (hn : nzr K < 26) (cap : (σ 4 1).toInt ≤ 262150) (k : ∀ s, SRs σ s b K 0 2 → Q s) : wk_X0_aim (atv 26 (σ 52) ((σ 9 5) - (1 : Int32))) (atv 26 (σ 54) ((σ 9 5) - (1 : Int32))) σ (fun s169 => wk_X7_jumpBack (atv 26 (s169 54) ((s169 9 5) - (1 : Int32))) s169 (fun s186 => wk_X7_finish s186 (fun s190 => Q s190))) := by
  obtain ⟨h1, h2, h3, h4, h5, h6⟩ := h
  have c0 := clen_eq h4
  unfold CX at h2
  rw [if_neg (by decide)] at h2
  obtain ⟨Y, E, G, D, a1, a2, ⟨a3, a4, a5⟩, b1, b2, b3, b4, b5, b6, b7, b8, b9, b10⟩ := h2
  have eD : D = [] := b10 (by decide)
  subst eD
  obtain ⟨t, t1, t2, t3⟩ := b8 (Or.inr rfl)
  have nk : nzr (8 :: K) = nzr K + 1 := nz_c (by decide)
  have oi : ((σ 9 5) - (1 : Int32)).toInt = nzr K := by rw [sbc i1 (by omega) (by omega)]; omega
  have lv : LV (8 :: K) = LV K + 2 := rfl
  have b5' : ∀ p ∈ G, WJ (σ 24) g (clen σ) p (LV K + 2) := b5
  rw [atv_at oi hn, atv_at oi hn]
  refine sp_aimE (E := G) h1 t1 t2 (b2 (by decide)) (fun p hp => wj_pj (b5' p hp) t3 (Or.inl (Nat.lt_succ_self _))) h4 (by omega) (fun s kk w0 wo T2 cxk => ?_)
  have e4 : (s 4 1) = (σ 4 1) := kk 4 1 rfl rfl
  have ecl : clen s = clen σ := by unfold clen; rw [e4]
  have r50 : s 54 = σ 54 := funext (fun j => kk 54 j rfl rfl)
  have r51 : s 51 = σ 51 := funext (fun j => kk 51 j rfl rfl)
  have r9 : (s 9 5) = (σ 9 5) := kk 9 5 rfl rfl
  have ks : KXE σ s := ko_sub (ko_kp kk) (by decide) (by decide)
  have ms : MKs σ s := mks_eq (funext (fun j => kk 25 j rfl rfl)) (funext (fun j => kk 39 j rfl rfl))
  rw [r50, r9, atv_at oi hn]
  unfold wk_X7_jumpBack
  refine sk_emit (n := 26) rfl (by decide) (by rw [e4]; exact h4) (by rw [e4]; omega) (fun v z _ em => ?_)
  have h4s : 0 ≤ (s 4 1).toInt := by rw [e4]; exact h4
  have ec := em_clen em (n := 26) rfl h4s
  have el := em_len em (m := 26) rfl
  have l2 : ln 26 = 2 := rfl
  obtain ⟨ek, emk, -, -, ef, ee⟩ := em_k em
  have ec2 : clen z = clen s + 2 := ec
  obtain ⟨g2, T3, ag2, gn⟩ := typ_jump (w' := (z 24)) (n := 26) (tt := t) (H' := 0) (L' := LV K) (typ_mono (fun q _ => rfl) agr_rf (cpu_mono ek emk) (fun _ z => z) T2) em.2.2.1 (by rw [em.2.2.2.1]; rfl) (Or.inl rfl) (by rw [em.2.2.2.2.1]; exact t1) (by omega) (fun z => absurd rfl z) ⟨LV K + 1, by rw [if_pos rfl]; exact t3, Or.inl (by rw [lv]; exact Nat.lt_succ_self _)⟩
  obtain ⟨q1, q2, q3, q4, q5, q6, q7⟩ := kw_e ek
  have lts : (z 4 1).toInt = (σ 4 1).toInt + 2 := by rw [el, e4]; omega
  have gp : ∀ p ∈ E, ∀ q ∈ G, p ≠ q + 1 := fun p hp q hq e2 => (wj_next h1 (b4 p hp)).1 (by rw [e2]; exact (wj_next h1 (b5' q hq)).2)
  have ws : ∀ p ∈ E, WJ (s 24) g (clen s) p (LV K) := fun p hp => by
    obtain ⟨n, k2, d1, d2, d3, d4, d5⟩ := b4 p hp
    exact ⟨n, k2, by rw [wo p (gp p hp)]; exact d1, d2, d3, by rw [ecl]; exact d4, d5⟩
  refine sp_fin (σ := z) (E := E) (Y := Y) (by rw [ec2]; exact T3) (fun q hq => ?_) (cx_e ek em.2.2.1 ag2 (by omega) (cxk K Y (fun q hq => (a4 q hq).1) a1)) ?_ (fun p hp => wj_mono em.2.2.1 ag2 (by omega) (ws p hp)) a3 (by rw [ee, show (s 7 7) = (σ 7 7) from kk 7 7 rfl rfl]; exact h3) (by omega) (by omega) (by rw [q7, r9]; omega) hn ?_ (fun s9 k9 w9 sb => k s9 (fin_sr (s1 := z) (l := 2) (ko_tr (kxs_e ks) (kxs_e ek)) (mks_tr ms emk) (fun j hj => (em.2.2.1 j (by have := h1.1; omega)).trans (w0 j hj)) (fun f => by rw [ef] at f; rw [← show (s 6 3) = (σ 6 3) from kk 6 3 rfl rfl]; exact f) lts h4 k9 w9 sb (Nat.le_refl _)))
  · rcases (a2 q).mp hq.1 with y | y | y | y
    · exact Or.inl y
    · exact Or.inr y
    · exact absurd y hq.2
    · cases y
  · rw [q3, r51]
    exact chw_mono E _ (fun p hp => (em.2.2.1 (p + 1) (by have := wj_lt (ws p hp); omega)).trans (wo (p + 1) (fun q hq e2 => (a4 q hq).2 (by
      have : p = q := by omega
      rw [← this]
      exact hp)))) b1
  · rw [ec2]
    exact bnd_ext (by rw [ecl]; exact h6) ag2 (fun j a1 a2 => by
      have : j = clen s + 1 := by omega
      rw [this]
      exact gn) T3.2.1 (by omega)
end SFE
end

