/-! steps of statements: turns, jumps to a known place, a construct finished -/
section FIN
variable {σ s z t : St} {g g' g1 : Gh} {CP : Int → Nat → Prop} {X X0 Y : Nat → Prop} {w w' : Nat → Int32} {b e e0 H H0 H' L L' m n c p tt : Nat} {K E : List Nat} {x y v : Int32}
/-- a turn: behind it any level -/
theorem typ_turn (T : TYp w g CP X b e H L) (hw : ∀ q, q < e → w' q = w q) (h0 : (w' e).toInt = (31 : Nat)) : ∃ g', TYp w' g' CP X b (e + 2) H L' ∧ AGR g g' e ∧ g' (e + 1) = none := by
  have l2 : ln 31 = 2 := rfl
  obtain ⟨g', t1, t2, t3⟩ := typ_ext (X' := X) (H' := H) (L' := L') T hw (fun _ h => h) h0 (by omega) (fun g' _ ge _ => by
    rw [l2] at ge
    exact ⟨⟨by omega, by omega, by omega⟩, fun c => by exfalso; unfold PLn at c; omega, fun c => by exfalso; omega, fun c => by exfalso; omega, fun c => by exfalso; omega, fun _ => ⟨_, ge⟩, fun c => by exfalso; omega, fun c => by exfalso; omega⟩)
  rw [l2] at t1 t3
  exact ⟨g', t1, t2, t3 (e + 1) (by omega) (by omega)⟩
/-- a jump to a place that is known; behind it what is asked -/
theorem typ_jump {n : Nat} (T : TYp w g CP X b e H L) (hw : ∀ q, q < e → w' q = w q) (h0 : (w' e).toInt = n) (hn : n = 26 ∨ n = 27 ∨ n = 28) (hv : (w' (e + 1)).toInt = tt) (ht : tt ≤ e) (hh : n ≠ 26 → 1 ≤ H ∧ H' = H - 1 ∧ L' ≤ L) (hj : Jn g L e tt (if n = 26 then H else H - 1)) : ∃ g', TYp w' g' CP X b (e + 2) H' L' ∧ AGR g g' e ∧ g' (e + 1) = none := by
  have l2 : ln n = 2 := by
    rcases hn with c | c | c <;> subst c <;> rfl
  have tn : ((tt : Nat) : Int).toNat = tt := by omega
  have t0 : (0 : Int) ≤ (tt : Int) := by omega
  obtain ⟨g', t1, t2, t3⟩ := typ_ext (X' := X) (H' := H') (L' := L') T hw (fun _ h => h) h0 (by omega) (fun g' ga ge _ => by
    rw [l2] at ge
    obtain ⟨k', j1, j2⟩ := hj
    have j3 : Jn g' L e tt (if n = 26 then H else H - 1) := ⟨k', by rw [ga tt ht]; exact j1, j2⟩
    rw [hv, show ((tt : Nat) : Int) = tt from rfl]
    clear j1 j2
    refine ⟨⟨by clear j3; omega, by clear j3; omega, by clear j3; omega⟩, fun c => by exfalso; clear j3; unfold PLn at c; omega, fun c => Or.inr ⟨t0, ?_⟩, fun c => ?_, fun c => by exfalso; clear j3; omega, fun c => by exfalso; clear j3; omega, fun c => by exfalso; clear j3; omega, fun c => by exfalso; clear j3; omega⟩
    · rw [if_pos c] at j3
      rw [tn]
      exact j3
    · have n26 : n ≠ 26 := by clear j3; omega
      rw [if_neg n26] at j3
      obtain ⟨a1, a2, a3⟩ := hh n26
      subst a2
      refine ⟨a1, ⟨L', ge, ?_⟩, Or.inr ⟨t0, by rw [tn]; exact j3⟩⟩
      clear j3
      omega)
  rw [l2] at t1 t3
  exact ⟨g', t1, t2, t3 (e + 1) (by omega) (by omega)⟩
theorem hole_next {k : Nat} (T : TYp w g CP X b e H L) (hp : g p = some (H', k)) (hpe : p + 2 ≤ e) (hn : (w p).toInt = n) (hn2 : 26 ≤ n ∧ n ≤ 31) : g (p + 1) = none := by
  have l2 : ln n = 2 := by
    have : n = 26 ∨ n = 27 ∨ n = 28 ∨ n = 29 ∨ n = 30 ∨ n = 31 := by omega
    rcases this with c | c | c | c | c | c <;> subst c <;> rfl
  obtain ⟨-, m, d1, d2, d3, d4⟩ := T.2.2.2 p H' k hp (by omega)
  have : m = n := by omega
  subst this
  have := d4 (p + 1) (by omega) (by omega)
  rw [rs_le (by omega)] at this
  exact this
theorem wj_next {lv : Nat} (T : TYp w g CP X b e H L) (h : WJ w g e p lv) : g p ≠ none ∧ g (p + 1) = none := by
  obtain ⟨n, k, a1, a2, a3, a4, a5⟩ := h
  exact ⟨by rw [a3]; exact fun z => (by cases z), hole_next T a3 a4 a1 (by omega)⟩
theorem wj_b {lv : Nat} (T : TYp w g CP X b e H L) (h : WJ w g e p lv) : b ≤ p := by
  obtain ⟨n, k, a1, a2, a3, a4, a5⟩ := h
  by_cases c : p < b
  · rw [T.2.2.1.1 p c] at a3
    cases a3
  · omega
theorem wj_pj {lv k : Nat} (h : WJ w g e p lv) (ht : g tt = some (0, k)) (hk : k < lv ∨ (k ≤ lv ∧ e ≤ tt)) : PJ w g e p tt := by
  obtain ⟨n, k2, a1, a2, a3, a4, a5⟩ := h
  exact ⟨n, k2, a1, a2, a3, a4, k, ht, by omega⟩
/-- the jumps out of a construct come here -/
theorem sp_fin {Q : St → Prop} (T : TYp (σ 24) g (CPu σ) X b (clen σ) 0 (LV K)) (hx : ∀ q, X q → Y q ∨ q ∈ E) (hy : CX σ g (clen σ) K Y) (he : CHW (σ 24) ((σ 51) (nzr K)) E) (hwj : ∀ p ∈ E, WJ (σ 24) g (clen σ) p (LV K)) (dis : ∀ q ∈ E, ¬ Y q) (cnt : (σ 7 7).toInt = 0) (h0 : 0 ≤ (σ 4 1).toInt) (cap : (σ 4 1).toInt ≤ 262190) (ho : (σ 9 5).toInt = nzr K + 1) (hn : nzr K < 26) (bd : BND g b (clen σ) (0 + 420)) (k : ∀ s, Kp [(9, 5)] [24] σ s → (∀ j, j < b → (s 24) j = (σ 24) j) → SB s g b K Y 0 → Q s) : wk_X7_finish σ Q := by
  have c0 := clen_eq h0
  have oi : ((σ 9 5) - (1 : Int32)).toInt = nzr K := by rw [sbc i1 (by omega) (by omega)]; omega
  unfold wk_X7_finish
  rw [atv_at oi hn]
  generalize h1 : upC σ 9 5 ((σ 9 5) - (1 : Int32)) = σ1
  have r : ∀ c, c ≠ 9 → σ1 c = σ c := fun c hc => by rw [← h1]; exact rdC_ne hc
  have r24 : (σ1 24) = (σ 24) := r 24 (by decide)
  have r4 : (σ1 4 1) = (σ 4 1) := by rw [r 4 (by decide)]
  have ecl1 : clen σ1 = clen σ := by unfold clen; rw [r4]
  refine sp_aimN (l := E) (by rw [r24]; exact he) (fun p hp => by rw [ecl1]; exact wj_lt (hwj p hp)) (by rw [r4]; exact h0) (by rw [r4]; omega) ?_
  generalize h2 : upF σ1 24 (pat (σ1 24) E (σ 4 1)) = s
  have q : ∀ c, c ≠ 9 → c ≠ 24 → s c = σ c := fun c hc hc2 => by rw [← h2, rdF_ne hc2]; exact r c hc
  have q24 : (s 24) = pat (σ 24) E (σ 4 1) := by rw [← h2, rdF_eq, r24]
  have q9 : s 9 5 = (σ 9 5) - (1 : Int32) := by rw [← h2, rdF_ne (by decide), ← h1, rdC_eq]; exact if_pos rfl
  have kk : Kp [(9, 5)] [24] σ s := by
    rw [← h2, ← h1]
    exact kp_F (kp_f kp_rf rfl) rfl
  have q4 : (s 4 1) = (σ 4 1) := by rw [q 4 (by decide) (by decide)]
  have ecl : clen s = clen σ := by unfold clen; rw [q4]
  have kx : KXS σ s := ko_sub (ko_kp kk) (by decide) (by decide)
  have mk : MKs σ s := mks_eq (q 25 (by decide) (by decide)) (q 39 (by decide) (by decide))
  have pout : ∀ i, (∀ p ∈ E, i ≠ p + 1) → (s 24) i = (σ 24) i := fun i hi => by rw [q24]; exact pat_out hi
  refine k s kk (fun j hj => pout j (fun p hp => by have := wj_b T (hwj p hp); omega)) ⟨?_, ?_, by rw [q 7 (by decide) (by decide)]; exact cnt, by rw [q4]; exact h0, by rw [q9, oi], by rw [ecl]; exact bd⟩
  · rw [ecl, q24]
    exact typ_mono (fun _ _ => rfl) agr_rf (cpu_x kx mk) (fun q2 z => (hx q2 z.1).elim id (fun e => absurd e z.2)) (typ_aimN (v := σ 4 1) (tt := clen σ) (by omega) (Nat.le_refl _) E _ _ (fun p hp => wj_pj (hwj p hp) T.2.1 (Or.inr ⟨Nat.le_refl _, Nat.le_refl _⟩)) T)
  · rw [ecl]
    exact cx_pat K Y (fun j _ => ⟨by rw [q 49 (by decide) (by decide)], by rw [q 50 (by decide) (by decide)], by rw [q 51 (by decide) (by decide)], by rw [q 52 (by decide) (by decide)], by rw [q 53 (by decide) (by decide)], by rw [q 54 (by decide) (by decide)]⟩) pout (fun p hp => wj_next T (hwj p hp)) dis hy
end FIN
