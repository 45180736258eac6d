/-! expression: an assignment -/
section EX1
variable {σ s s' τ t t' : St} {vs z z' : List Nat}
theorem kd_sg {lo hi : Int} (h : lo ≤ (sg σ).toInt ∧ (sg σ).toInt ≤ hi) (h0 : 0 ≤ lo) (h1 : hi ≤ 200) : kd σ = (sg σ).toInt + 32 := sg_kd rfl (by omega) (by omega)
theorem te_nxt {N a : Nat} (h0 : 0 ≤ (σ 0 17).toInt) (r : RL σ vs (nxt σ) τ vs) : TE σ (nxt σ) N a a := te_same h0 rfl r.2.2.1 (ev_ke r.1 r.2.2.2.1)
theorem no0 {P : Prop} : ((0 : Int32).toInt ≠ 0 → P) := fun c => absurd rfl c
theorem no1 {P : Prop} : ((1 : Int32).toInt = 0 → P) := fun c => absurd c (by decide)
theorem sp_expression {k1 k2 : KX} {k3 : Int32 → KX} {k4 : Int32 → Nat → Int32 → KX} {k5 k6 k7 : KX} {k8 : Int32 → KX} {d : Int} {M N : Nat} (hd : 1 ≤ d ∧ d ≤ 25) (hC : SX k2 d N) (hE : d + 1 ≤ 25 → SX k1 (d + 1) M) (hM : 1 ≤ M) (hN : M + 5 ≤ N) : SX (wp_expression k1 k2 k3 k4 k5 k6 k7 k8) d N := by
  intro a σ τ vs Q T had hP hB kQ kT
  unfold wp_expression
  refine hC a σ τ vs _ T had hP hB (fun u2 s2 t2 z2 r2 => ?_) kT
  have h0 := hP.2.2.1.2.2.2.2.1
  have hP2 := r2.1.2.1
  have hB2 := re_nb hB r2
  have h02 := hP2.2.2.1.2.2.2.2.1
  refine sp_sign hP2 (sp_isAssignment (fun hop => ⟨fun _ => ?_, no1⟩) ⟨no0, fun _ => kQ _ _ _ _ r2⟩)
  have hk : 2 ≤ kd s2 := by
    rcases hop with c | c
    · rw [kd_sg c (by omega) (by omega)]; omega
    · rw [sg_kd c (by omega) (by omega)]; omega
  refine sp_deeper hP2 (by omega) (fun hd2 ed => ?_) (fun s hs => kT _ _ _ (rt_re r2 hs))
  obtain ⟨rn, pn, wn, ic_n⟩ := rl_nxt (vs := z2) hP2 hk
  have hPn := rn.2.1
  have h0n := hPn.2.2.1.2.2.2.2.1
  have rA := rl_tr r2.1 rn
  have ht := at_tok hP2.1 hP2.2.1
  have hl2 : (t2 u2 1).toInt = 1 → (t2 u2 2).toInt < ((nxt s2) 0 49).toInt := r2.2.2.2.1
  obtain ⟨⟨v1, v2⟩, ⟨v3, v4⟩, -, -, v5, -⟩ := hP2.2.2.2.2 u2
  have hu2 := r2.2.2.1.1
  have hcap2 := nb_cap hB2 hP2
  have hwn : ((nxt s2) 0 17).toInt ≤ 410000 := by omega
  -- how many values stand there at each point
  obtain ⟨c1, c1a, c1b⟩ : ∃ c : Nat, (2 ≤ (t2 u2 1).toInt → c = 1) ∧ ((t2 u2 1).toInt < 2 → c = 0) := ⟨if 2 ≤ (t2 u2 1).toInt then 1 else 0, fun c => if_pos c, fun c => if_neg (by omega)⟩
  obtain ⟨m, ma, mb⟩ : ∃ c : Nat, (2 ≤ (t2 u2 1).toInt → c = 2) ∧ ((t2 u2 1).toInt < 2 → c = 1) := ⟨if 2 ≤ (t2 u2 1).toInt then 2 else 1, fun c => if_pos c, fun c => if_neg (by omega)⟩
  refine ⟨hu2, fun y => y.toInt ≠ 0 → (t2 u2 1).toInt ≠ 0, fun y55 _ hy55 => ⟨fun y => (y.toInt ≠ 0 → 2 ≤ (t2 u2 1).toInt) ∧ (y.toInt = 0 → (t2 u2 1).toInt < 2), fun y70 _ hy70 => ⟨fun s t z => t2 = t ∧ z2 = z ∧ SQ (nxt s2) s 2 ∧ ((t2 u2 1).toInt ≠ 0 → TE (nxt s2) s N (ev t2 u2) c1), ?_, ?_, ?_⟩, fun c => ⟨no0, fun _ => c⟩, fun c => ⟨fun _ => c, no1⟩⟩, fun _ => no0, fun c _ => c⟩
  rotate_left 1
  · intro c
    refine ⟨rfl, rfl, ?_, fun c0 => ?_⟩
    · exact ⟨kp_rf, of_rf, fun _ _ => rfl, Int.le_refl _, by show ((nxt s2) 0 17).toInt ≤ ((nxt s2) 0 17).toInt + 2; omega⟩
    · by_cases c3 : (t2 u2 1).toInt = 1
      · rw [c1b (by omega), ev_in (Or.inl c3)]; exact te_rf
      · rw [c1a (by omega), ev_1 (by omega) (v5 c0)]; exact te_rf
  · intro c
    refine sp_put_1 h0n (by show ((nxt s2) 0 17).toInt ≤ 499990; omega) (fun s hs => ⟨rfl, rfl, sq_pu hs, fun c0 => ?_⟩)
    rw [c1a (by omega), ev_in (Or.inr c)]
    exact te_put (n := 2) h0n hs rfl (by decide) rfl (k := 1) rfl (fun g' H L x hH hn hx => ⟨by rw [hx _ rfl]; omega, hn⟩) (by omega)
  rintro s89 _ _ ⟨rfl, rfl, q89, e89⟩
  have w89 := sq_wc q89 h0n
  refine sp_worked (fun w => ?_)
  obtain ⟨c2, c2a, c2b, c2c⟩ : ∃ c : Nat, (2 ≤ (t2 u2 1).toInt → w.toInt = 30 → c = 1) ∧ (2 ≤ (t2 u2 1).toInt → w.toInt ≠ 30 → c = 2) ∧ ((t2 u2 1).toInt < 2 → c = 0) := ⟨if 2 ≤ (t2 u2 1).toInt then (if w.toInt = 30 then 1 else 2) else 0, fun c e => by rw [if_pos c, if_pos e], fun c e => by rw [if_pos c, if_neg e], fun c => if_neg (by omega)⟩
  obtain ⟨b, ba, bb, bc, bd⟩ : ∃ c : Nat, (2 ≤ (t2 u2 1).toInt → w.toInt = 30 → c = 1) ∧ (2 ≤ (t2 u2 1).toInt → w.toInt ≠ 30 → c = 2) ∧ ((t2 u2 1).toInt < 2 → w.toInt = 30 → c = 0) ∧ ((t2 u2 1).toInt < 2 → w.toInt ≠ 30 → c = 1) := ⟨if 2 ≤ (t2 u2 1).toInt then (if w.toInt = 30 then 1 else 2) else (if w.toInt = 30 then 0 else 1), fun c e => by rw [if_pos c, if_pos e], fun c e => by rw [if_pos c, if_neg e], fun c e => by rw [if_neg (by omega), if_pos e], fun c e => by rw [if_neg (by omega), if_neg e]⟩
  refine ⟨fun s t z => t2 = t ∧ z2 = z ∧ SQ (nxt s2) s 5 ∧ ((t2 u2 1).toInt ≠ 0 → TE (nxt s2) s N (ev t2 u2) c2), ?_, ?_, ?_⟩
  rotate_left 1
  · intro c
    refine ⟨rfl, rfl, ⟨q89.1, q89.2.1, q89.2.2.1, q89.2.2.2.1, by have := q89.2.2.2.2; omega⟩, fun c0 => ?_⟩
    by_cases c3 : 2 ≤ (t2 u2 1).toInt
    · rw [c2a c3 c, ← c1a c3]; exact e89 c0
    · rw [c2c (by omega), ← c1b (by omega)]; exact e89 c0
  · intro c
    refine ⟨fun c3 => ?_, fun c3 => ?_⟩
    · have c4 := hy70.2 c3
      refine ⟨rfl, rfl, ⟨q89.1, q89.2.1, q89.2.2.1, q89.2.2.2.1, by have := q89.2.2.2.2; omega⟩, fun c0 => ?_⟩
      rw [c2c c4, ← c1b c4]; exact e89 c0
    · have c4 := hy70.1 c3
      refine sp_put_0 w89.1 (by omega) (fun s hs => ⟨ht, sp_put_1 (sq_wc (sq_pu hs) w89.1).1 (by have := (sq_wc (sq_pu hs) w89.1).2.1; simp only [List.length_cons, List.length_nil] at this; omega) (fun s' hs' => ⟨rfl, rfl, sq_tr q89 (sq_tr (sq_pu hs) (sq_pu hs')), fun c0 => ?_⟩)⟩)
      rw [c2b c4 c]
      have e := e89 c0
      rw [c1a c4] at e
      refine te_sq h0n q89 (sq_tr (sq_pu hs) (sq_pu hs')) e (te_sq w89.1 (sq_pu hs) (sq_pu hs') (te_put (n := 1) (b := 2) w89.1 hs rfl (by decide) rfl (k := 9) rfl (fun g' H L x hH hn hx => ⟨by omega, hn⟩) (by omega)) (te_put (n := 2) (sq_wc (sq_pu hs) w89.1).1 hs' rfl (by decide) rfl (k := 5) rfl (fun g' H L x hH hn hx => ⟨by omega, hn⟩) (by omega)))
  rintro s125 _ _ ⟨rfl, rfl, q125, e125⟩
  have w125 := sq_wc q125 h0n
  refine ⟨fun s t z => t2 = t ∧ z2 = z ∧ SQ (nxt s2) s 7 ∧ ((t2 u2 1).toInt ≠ 0 → TE (nxt s2) s N (ev t2 u2) b), ?_, ?_, ?_⟩
  rotate_left 1
  · intro c
    refine ⟨rfl, rfl, ⟨q125.1, q125.2.1, q125.2.2.1, q125.2.2.2.1, by have := q125.2.2.2.2; omega⟩, fun c0 => ?_⟩
    by_cases c3 : 2 ≤ (t2 u2 1).toInt
    · rw [ba c3 c, ← c2a c3 c]; exact e125 c0
    · rw [bc (by omega) c, ← c2c (by omega)]; exact e125 c0
  · intro c
    refine ⟨hu2, fun c3 => ⟨rfl, rfl, ⟨q125.1, q125.2.1, q125.2.2.1, q125.2.2.2.1, by have := q125.2.2.2.2; omega⟩, fun c0 => ?_⟩, fun c3 => sp_put_1 w125.1 (by omega) (fun s hs => ⟨rfl, rfl, sq_tr q125 (sq_pu hs), fun c0 => ?_⟩)⟩
    · rw [bb (by omega) c, ← c2b (by omega) c]; exact e125 c0
    · rw [bd (by omega) c]
      have e := e125 c0
      rw [c2c (by omega)] at e
      refine te_sq h0n q125 (sq_pu hs) e (te_put (n := 2) w125.1 hs rfl (by decide) rfl (k := 3) rfl (fun g' H L x hH hn hx => ⟨?_, hn⟩) (by omega))
      rw [hx _ rfl]
      have e4 : (s 0 49) = ((nxt s2) 0 49) := (hs.1 0 49 rfl rfl).trans (q125.1 0 49 rfl rfl)
      rw [e4]
      exact ⟨v3, hl2 c3⟩
  rintro s149 _ _ ⟨rfl, rfl, q149, e149⟩
  have w149 := sq_wc q149 h0n
  have r149 := sq_rl (vs := z2) hPn q149
  have rB := rl_tr rA r149
  have p149 : pos s149 = pos (nxt s2) := by
    unfold pos
    have e1 : (s149 0 10) = ((nxt s2) 0 10) := q149.1 _ _ rfl rfl
    have e2 : (s149 3) = ((nxt s2) 3) := funext (fun j => q149.1 3 j rfl rfl)
    rw [e1, e2]
  have i149 : (s149 0 39) = ((nxt s2) 0 39) := q149.1 _ _ rfl rfl
  have ic149 : (s149 0 39).toInt = (s2 0 39).toInt := by rw [i149]; exact ic_n
  have hB149 : NB s149 z2 := nb_of hB2 (rl_tr rn r149) (by omega) (by rw [i149]; omega) (by omega)
  refine hE (by omega) _ s149 t2 z2 _ T (by omega) r149.2.1 hB149 (fun u s t z r => ?_) (fun s t z hs => kT _ _ _ (rt_of rB (by have := r2.2.2.2.2.2.2.1; omega) hs))
  refine sp_read r.1.2.1 (re_nb hB149 r) r.2.2.1.1 (fun s160 hrd => ?_)
  obtain ⟨g1, g2, g3, g4, g5, g6, g7, g8⟩ := re_read r149.2.1 r hrd hM
  have hP160 := g1.2.1
  have hu2z : u2 ∈ z := r.1.2.2.2.2.2.2.2.2.1 _ hu2
  have huz := r.2.2.1.1
  have f2 : ∀ f, f ≠ 1 → upC t u 1 (0 : Int32) u2 f = t2 u2 f := fun f hf => by rw [how_f hf, r.2.1 u2 hu2]
  have hzu := (hP160.2.2.2.2 u).2.2.2.2.2
  have hB160 : NB s160 z := nb_of hB149 g1 (by omega) (by omega) g5
  have hcap := nb_cap hB160 hP160
  refine ⟨fun y => y.toInt ≠ 0 → (t2 u2 1).toInt ≠ 0 ∧ (upC t u 1 (0 : Int32) u 0).toInt ≠ -1, fun y242 _ hy242 => sp_must ht (fun s249 hs hf => ⟨fun y => y.toInt ≠ -1, fun ty hty => sp_made hu2z huz hcap.1 ht (fun q s272 t272 hgt hq hv hs' => ?_), fun _ => by decide, fun c => ⟨hu2z, by show (upC t u 1 (0 : Int32) u2 0).toInt ≠ -1; rw [f2 0 (by decide)]; exact v5 (hy242 c).1⟩⟩), ?_⟩
  · -- behind the right side
    have h0160 := hP160.2.2.1.2.2.2.2.1
    have sq1 := sq_tr (sq_tl hs) (sq_tl hs')
    have w272 := sq_wc sq1 h0160
    have ne2 : u2 ≠ q := fun e => hq (e ▸ hu2z)
    have f3 : ∀ f, f ≠ 1 → t272 u2 f = t2 u2 f := fun f hf => by rw [hv.1 u2 ne2]; exact f2 f hf
    refine ⟨fun s t z9 => t272 = t ∧ z ++ [q] = z9 ∧ SQ s272 s 3 ∧ ((t2 u2 1).toInt ≠ 0 → TE s272 s N (b + 1) m), ?_, ?_, ?_⟩
    rotate_left 1
    · intro c
      refine ⟨rfl, rfl, ⟨kp_rf, of_rf, fun _ _ => rfl, Int.le_refl _, by omega⟩, fun c0 => ?_⟩
      by_cases c3 : 2 ≤ (t2 u2 1).toInt
      · rw [ba c3 c, ma c3]; exact te_rf
      · rw [bc (by omega) c, mb (by omega)]; exact te_rf
    · intro c
      refine ⟨ht, sp_put_2 w272.1 (by omega) (fun s hs9 => ⟨rfl, rfl, sq_pu hs9, fun c0 => ?_⟩)⟩
      by_cases c3 : 2 ≤ (t2 u2 1).toInt
      · rw [bb c3 c, ma c3]
        refine te_put (n := 3) w272.1 hs9 rfl (by decide) rfl (k := 11) rfl (fun g' H L x hH hn hx => ⟨by omega, ?_⟩) (by omega)
        have e9 : H + (2 + 1) - 1 = H + 2 := by omega
        rw [e9]; exact hn
      · rw [bd (by omega) c, mb (by omega)]
        refine te_put (n := 3) w272.1 hs9 rfl (by decide) rfl (k := 11) rfl (fun g' H L x hH hn hx => ⟨by omega, ?_⟩) (by omega)
        have e9 : H + (1 + 1) - 1 = H + 1 := by omega
        rw [e9]; exact hn
    rintro s299 _ _ ⟨rfl, rfl, q299, e299⟩
    have w299 := sq_wc q299 w272.1
    have fin : ∀ s ws, PU s299 s ws → ws.length = 2 → ((t2 u2 1).toInt ≠ 0 → TE s299 s N m 1) → Q q s t272 (z ++ [q]) := fun s ws hws hl9 hte => by
      have sqf := sq_tr sq1 (sq_tr q299 (sq_pu hws))
      have r3 := sq_rl (vs := z) hP160 sqf
      have rF := rl_tr rB (rl_tr g1 r3)
      have pF : pos s = pos s160 := by
        unfold pos
        have e1 : (s 0 10) = (s160 0 10) := sqf.1 _ _ rfl rfl
        have e2 : (s 3) = (s160 3) := funext (fun j => sqf.1 3 j rfl rfl)
        rw [e1, e2]
      have iF : (s 0 39) = (s160 0 39) := sqf.1 _ _ rfl rfl
      have wF := sqf.2.2.2.2
      rw [hl9] at wF
      have v9 := vnw_nv hv
      refine kQ _ _ _ _ ⟨rl_val rF v9, vfr_tr (vfr_tr r2.2.1 r2.1.2.2.2.2.2.2.2.2.1 g2) (fun w hw => r.1.2.2.2.2.2.2.2.2.1 _ (r2.1.2.2.2.2.2.2.2.2.1 _ hw)) (vfr_vnw hq v9), ⟨by simp, fun c => hq (r.1.2.2.2.2.2.2.2.2.1 _ (r2.1.2.2.2.2.2.2.2.2.1 _ c))⟩, fun c => ?_, ?_, ?_, ?_, ?_⟩
      · rw [(nv_at hv).2.1] at c
        exact absurd c (by decide)
      · have := r2.2.2.2.2.1
        omega
      · have := r2.2.2.2.2.2.1
        rw [iF]
        omega
      · have := r2.2.2.2.2.2.2.1
        simp only [List.length_append, List.length_cons, List.length_nil]
        omega
      · rw [ev_nv hv hty]
        refine te_if (P := (t2 u2 1).toInt ≠ 0 ∧ (upC t u 1 (0 : Int32) u 0).toInt ≠ -1) (fun f1 f2 => hy242 (hf (of0 hs'.2 (of0 q299.2.1 (of0 (sq_pu hws).2.1 f1))) (sil_sq (sq_tr (sq_tl hs') (sq_tr q299 (sq_pu hws))) f2))) (fun g => ?_)
        have eu : ev (upC t u 1 (0 : Int32)) u = 1 := ev_st (by rw [rdA, if_pos rfl]; rfl) g.2
        rw [eu] at g6
        have t1 : TE σ (nxt s2) N 0 (ev t2 u2) := te_rl h0 r2.1 rn r2.2.2.2.2.2.2.2 (te_nxt h02 rn)
        have t2' : TE σ s149 N 0 b := te_rl h0 rA r149 t1 (e149 g.1)
        have hb2 : b ≤ 2 := by
          by_cases c3 : 2 ≤ (t2 u2 1).toInt
          · by_cases c4 : w.toInt = 30
            · rw [ba c3 c4]; omega
            · rw [bb c3 c4]; omega
          · by_cases c4 : w.toInt = 30
            · rw [bc (by omega) c4]; omega
            · rw [bd (by omega) c4]; omega
        have t3 : TE s149 s160 N b (b + 1) := te_up g6 (by omega)
        have t4 : TE σ s160 N 0 (b + 1) := te_rl h0 rB g1 t2' t3
        have t5 : TE s160 s N (b + 1) 1 := te_sq h0160 sq1 (sq_tr q299 (sq_pu hws)) (te_sq h0160 (sq_tl hs) (sq_tl hs') (te_tl h0160 hs) (te_tl (sq_wc (sq_tl hs) h0160).1 hs')) (te_sq w272.1 q299 (sq_pu hws) (e299 g.1) (hte g.1))
        exact te_rl h0 (rl_tr rB g1) r3 t4 t5
    refine ⟨fun c => ⟨by simp [hu2z], sp_put_1 w299.1 (by omega) (fun s hs9 => fin s _ hs9 rfl (fun c0 => ?_))⟩, fun c => ⟨ht, sp_put_1 w299.1 (by omega) (fun s hs9 => fin s _ hs9 rfl (fun c0 => ?_))⟩⟩
    · have c4 := hy70.2 c
      rw [mb c4]
      refine te_put (n := 2) w299.1 hs9 rfl (by decide) rfl (k := 7) rfl (fun g' H L x hH hn hx => ⟨?_, by omega, hn⟩) (by omega)
      rw [hx _ rfl, f3 2 (by decide)]
      have e4 : (s 0 49) = (s149 0 49) := (hs9.1 0 49 rfl rfl).trans ((q299.1 0 49 rfl rfl).trans ((sq1.1 0 49 rfl rfl).trans (rl_loc g1)))
      have e5 : (s149 0 49) = ((nxt s2) 0 49) := q149.1 0 49 rfl rfl
      rw [e4, e5]
      exact ⟨v3, hl2 (by omega)⟩
    · have c4 := hy70.1 c
      rw [ma c4]
      refine te_put (n := 2) w299.1 hs9 rfl (by decide) rfl (k := 6) rfl (fun g' H L x hH hn hx => ⟨by omega, ?_⟩) (by omega)
      have e9 : H + 2 - 1 = H + 1 := by omega
      rw [e9]; exact hn
  · -- whether it fits
    refine ⟨True, fun _ => no0, fun _ => trivial, fun c55 => ⟨(upC t u 1 (0 : Int32) u 0).toInt ≠ -1, fun c => fun _ => ⟨hy55 c55, c⟩, fun _ => ⟨True, fun _ => ⟨hu2z, fun _ => trivial, fun _ => sp_isInt huz (fun c => ⟨no1, fun _ => by rw [c]; decide⟩) (fun _ => ⟨fun _ => trivial, no0⟩)⟩, fun _ => trivial, fun _ => ⟨fun _ => sp_isInt hu2z (fun _ => ⟨no1, fun _ => sp_isInt huz (fun c => ⟨no1, fun _ => by rw [c]; decide⟩) (fun _ => ⟨fun _ => trivial, no0⟩)⟩) (fun _ => ⟨fun _ => trivial, no0⟩), fun _ => trivial⟩⟩, fun _ => ⟨hu2z, sp_fits huz (fun c => ⟨no1, fun _ => ?_⟩) ⟨fun _ => trivial, no0⟩⟩⟩⟩
    rcases c with c | ⟨c, c'⟩
    · rw [c, f2 0 (by decide)]
      exact v5 (hy55 c55)
    · have := hzu c'
      rw [this]; decide
end EX1
