section
/-! expressions -/
abbrev KX : Type := Int32 → St → St → List Nat → (Nat → St → St → List Nat → Prop) → (St → St → List Nat → Prop) → Prop
def NB (σ : St) (vs : List Nat) : Prop := (σ 0 17).toInt + 40 * ((σ 0 9).toInt - pos σ) ≤ 410000 ∧ (σ 0 39).toInt + 12 * ((σ 0 9).toInt - pos σ) ≤ 130000 ∧ (vs.length : Int) + 2 * ((σ 0 9).toInt - pos σ) ≤ 23000
def RE (σ τ : St) (vs : List Nat) (N a : Nat) (u : Nat) (s t : St) (z : List Nat) : Prop := RL σ vs s t z ∧ VFr τ vs t ∧ (u ∈ z ∧ u ∉ vs) ∧ ((t u 1).toInt = 1 → (t u 2).toInt < (s 0 49).toInt) ∧ (s 0 17).toInt + 20 ≤ (σ 0 17).toInt + 40 * (pos s - pos σ) ∧ (s 0 39).toInt + 6 ≤ (σ 0 39).toInt + 12 * (pos s - pos σ) ∧ (z.length : Int) ≤ vs.length + 2 * (pos s - pos σ) ∧ TE σ s N a (ev t u)
def SX (K : KX) (d : Int) (N : Nat) : Prop := ∀ (a : Int32) (σ τ : St) (vs : List Nat) (Q : Nat → St → St → List Nat → Prop) (T : St → St → List Nat → Prop), a.toInt = d → PA σ τ → NB σ vs → (∀ u s t z, RE σ τ vs N 0 u s t z → Q u s t z) → (∀ s t z, RTx σ vs s t z → T s t z) → K a σ τ vs Q T
section EXPR
variable {σ s s' τ t t' : St} {vs z z' : List Nat}
theorem rl_sz (r : RL σ vs s t z) : (s 0 9).toInt = (σ 0 9).toInt := by rw [r.1 0 9 rfl rfl]
theorem rl_sil (r : RL σ vs s t z) : (s 0 15) = (σ 0 15) := r.1 0 15 rfl rfl
theorem rl_loc (r : RL σ vs s t z) : (s 0 49) = (σ 0 49) := r.1 0 49 rfl rfl
theorem rl_tok (r : RL σ vs s t z) : (s 0 8) = (σ 0 8) := r.1 0 8 rfl rfl
theorem rl_wcn (r : RL σ vs s t z) (h0 : 0 ≤ (σ 0 17).toInt) : wcn σ ≤ wcn s := by
  have e1 : (wcn σ : Int) = (σ 0 17).toInt := nt h0
  have h := r.2.2.2.2.2.1
  have e2 : (wcn s : Int) = (s 0 17).toInt := nt (by omega)
  omega
theorem te_rl {N a b c : Nat} (h0 : 0 ≤ (σ 0 17).toInt) (r : RL σ vs s t z) (r2 : RL s z s' t' z') (h : TE σ s N a b) (h2 : TE s s' N b c) : TE σ s' N a c := te_tr h h2 (rl_wcn r h0) r2.2.2.2.2.1 (rl_sil r2)
theorem nb_of (h : NB σ vs) (r : RL σ vs s t z) (hw : (s 0 17).toInt ≤ (σ 0 17).toInt + 40 * (pos s - pos σ)) (hi : (s 0 39).toInt ≤ (σ 0 39).toInt + 12 * (pos s - pos σ)) (hz : (z.length : Int) ≤ vs.length + 2 * (pos s - pos σ)) : NB s z := by
  obtain ⟨h1, h2, h3⟩ := h
  have e := rl_sz r
  unfold NB
  rw [e]
  exact ⟨by omega, by omega, by omega⟩
theorem nb_cap (h : NB σ vs) (p : PA σ τ) : vs.length < CAP ∧ (σ 0 17).toInt ≤ 410000 ∧ (σ 0 39).toInt ≤ 130000 := by
  have q := pos_in p.1 p.2.1
  obtain ⟨h1, h2, h3⟩ := h
  have : CAP = 24000 := rfl
  omega
theorem rl_val {q : Nat} (r : RL σ vs s t z) (v : VNw t q t') : RL σ vs s t' (z ++ [q]) := by
  obtain ⟨h1, h2, h3, h4, h5, h6, h7, h8, h9, h10, h11⟩ := r
  exact ⟨h1, ⟨h2.1, h2.2.1, h2.2.2.1, h2.2.2.2.1, vok_vnw h2.2.2.2.2 v⟩, h3, h4, h5, h6, h7, h8, fun u hu => by simp [h9 u hu], by simp; omega, h11⟩
/-- t forgets how of u -/
theorem rl_how {u : Nat} (r : RL σ vs s t z) : RL σ vs s (upC t u 1 (0 : Int32)) z := by
  obtain ⟨h1, h2, h3, h4, h5, h6, h7, h8, h9, h10, h11⟩ := r
  exact ⟨h1, ⟨h2.1, h2.2.1, h2.2.2.1, h2.2.2.2.1, vok_how h2.2.2.2.2⟩, h3, h4, h5, h6, h7, h8, h9, h10, h11⟩
theorem how_f {u w f : Nat} {v : Int32} (hf : f ≠ 1) : upC t u 1 v w f = t w f := by
  rw [rdC, if_neg hf]
  by_cases e : w = u
  · rw [if_pos e, e]
  · rw [if_neg e]
theorem vfr_how {u : Nat} {v : Int32} (h : VFr τ vs t) (hu : u ∉ vs) : VFr τ vs (upC t u 1 v) := fun w hw => by
  rw [← h w hw]
  show upF t u _ w = t w
  exact upF_ne (fun e => hu (e ▸ hw))
theorem vfr_tr (h : VFr τ vs t) (hz : ∀ u ∈ vs, u ∈ z) (g : VFr t z t') : VFr τ vs t' := fun w hw => (g w (hz w hw)).trans (h w hw)
/-- an expression, and its value comes onto the stack -/
theorem re_read {u N a : Nat} {s2 : St} (h : PA σ τ) (r : RE σ τ vs N a u s t z) (p : RDx s t u s2) (hN : 1 ≤ N) : RL σ vs s2 (upC t u 1 (0 : Int32)) z ∧ VFr τ vs (upC t u 1 (0 : Int32)) ∧ (s2 0 17).toInt + 16 ≤ (σ 0 17).toInt + 40 * (pos s2 - pos σ) ∧ (s2 0 39).toInt + 6 ≤ (σ 0 39).toInt + 12 * (pos s2 - pos σ) ∧ (z.length : Int) ≤ vs.length + 2 * (pos s2 - pos σ) ∧ TE σ s2 N a (ev (upC t u 1 (0 : Int32)) u) ∧ pos s2 = pos s ∧ RL s z s2 (upC t u 1 (0 : Int32)) z := by
  obtain ⟨r1, r2, ⟨r3, r4⟩, r5, r6, r7, r8, r9⟩ := r
  have hs := r1.2.1
  obtain ⟨g1, g2, g3, g4⟩ := rd_rl (vs := z) (z := z) hs p (vok_how (u := u) hs.2.2.2.2) (fun _ h => h) (Nat.le_refl _)
  have h0 := h.2.2.1.2.2.2.2.1
  refine ⟨rl_tr r1 g1, vfr_how r2 r4, by rw [g4]; omega, by rw [g3, g4]; omega, by rw [g4]; omega, ?_, g4, g1⟩
  exact te_rl h0 r1 g1 r9 (rd_te hs p hN r5)
theorem sp_read {u : Nat} {Q : St → St → List Nat → Prop} (h : PA s t) (hn : NB s z) (hu : u ∈ z) (k : ∀ s2, RDx s t u s2 → Q s2 (upC t u 1 (0 : Int32)) z) : wp_read_1 u s t z Q := sp_read_0 hu h.2.2.2.2 h.2.2.1.2.2.2.2.1 (by have := (nb_cap hn h).2.1; omega) k
theorem re_nb {u N a : Nat} (h : NB σ vs) (r : RE σ τ vs N a u s t z) : NB s z := nb_of h r.1 (by have := r.2.2.2.2.1; omega) (by have := r.2.2.2.2.2.1; omega) r.2.2.2.2.2.2.1
theorem rt_re {u N a : Nat} (r : RE σ τ vs N a u s t z) (g : RTx s z s' t' z') : RTx σ vs s' t' z' := rt_of r.1 r.2.2.2.2.2.2.1 g
theorem sp_isAssignment {op : Int32} {Q : Int32 → Prop} (h1 : (0 ≤ op.toInt ∧ op.toInt ≤ 9) ∨ op.toInt = 30 → Q 1) (h0 : Q 0) : wp_isAssignment op σ τ vs Q := by
  unfold wp_isAssignment
  exact ⟨True, fun _ => ⟨fun _ => h0, fun c => h1 (Or.inr c)⟩, fun _ => trivial, fun c => ⟨fun c2 => h1 (Or.inl ⟨c, c2⟩), fun _ => trivial⟩⟩
theorem sp_worked {op : Int32} {Q : Int32 → Prop} (h : ∀ r, Q r) : wp_worked op σ τ vs Q := by
  unfold wp_worked
  iterate 9 refine ⟨fun _ => h _, fun _ => ?_⟩
  exact ⟨fun _ => h _, fun _ => h _⟩
end EXPR
end

section
/-! expression: an assignment -/
section EX1
variable {σ s s' τ t t' : St} {vs z z' : List Nat}
theorem kd_sg {lo hi : Int} (h : lo ≤ (sg σ).toInt ∧ (sg σ).toInt ≤ hi) (h0 : 0 ≤ lo) (h1 : hi ≤ 200) : kd σ = (sg σ).toInt + 32 := sg_kd rfl (by omega) (by omega)
theorem te_nxt {N a : Nat} (h0 : 0 ≤ (σ 0 17).toInt) (r : RL σ vs (nxt σ) τ vs) : TE σ (nxt σ) N a a := te_same h0 rfl r.2.2.1 (ev_ke r.1 r.2.2.2.1)
theorem no0 {P : Prop} : ((0 : Int32).toInt ≠ 0 → P) := fun c => absurd rfl c
theorem no1 {P : Prop} : ((1 : Int32).toInt = 0 → P) := fun c => absurd c (by decide)
theorem sp_expression {k1 k2 : KX} {k3 : Int32 → KX} {k4 : Int32 → Nat → Int32 → KX} {k5 k6 k7 : KX} {k8 : Int32 → KX} {d : Int} {M N : Nat} (hd : 1 ≤ d ∧ d ≤ 25) (hC : SX k2 d N) (hE : d + 1 ≤ 25 → SX k1 (d + 1) M) (hM : 1 ≤ M) (hN : M + 5 ≤ N) : SX (wp_expression k1 k2 k3 k4 k5 k6 k7 k8) d N := by
  intro a σ τ vs Q T had hP hB kQ kT
  unfold wp_expression
  refine hC a σ τ vs _ T had hP hB (fun u2 s2 t2 z2 r2 => ?_) kT
  have h0 := hP.2.2.1.2.2.2.2.1
  have hP2 := r2.1.2.1
  have hB2 := re_nb hB r2
  have h02 := hP2.2.2.1.2.2.2.2.1
  refine sp_sign hP2 (sp_isAssignment (fun hop => ⟨fun _ => ?_, no1⟩) ⟨no0, fun _ => kQ _ _ _ _ r2⟩)
  have hk : 2 ≤ kd s2 := by
    rcases hop with c | c
    · rw [kd_sg c (by omega) (by omega)]; omega
    · rw [sg_kd c (by omega) (by omega)]; omega
  refine sp_deeper hP2 (by omega) (fun hd2 ed => ?_) (fun s hs => kT _ _ _ (rt_re r2 hs))
  obtain ⟨rn, pn, wn, ic_n⟩ := rl_nxt (vs := z2) hP2 hk
  have hPn := rn.2.1
  have h0n := hPn.2.2.1.2.2.2.2.1
  have rA := rl_tr r2.1 rn
  have ht := at_tok hP2.1 hP2.2.1
  have hl2 : (t2 u2 1).toInt = 1 → (t2 u2 2).toInt < ((nxt s2) 0 49).toInt := r2.2.2.2.1
  obtain ⟨⟨v1, v2⟩, ⟨v3, v4⟩, -, -, v5, -⟩ := hP2.2.2.2.2 u2
  have hu2 := r2.2.2.1.1
  have hcap2 := nb_cap hB2 hP2
  have hwn : ((nxt s2) 0 17).toInt ≤ 410000 := by omega
  -- how many values stand there at each point
  obtain ⟨c1, c1a, c1b⟩ : ∃ c : Nat, (2 ≤ (t2 u2 1).toInt → c = 1) ∧ ((t2 u2 1).toInt < 2 → c = 0) := ⟨if 2 ≤ (t2 u2 1).toInt then 1 else 0, fun c => if_pos c, fun c => if_neg (by omega)⟩
  obtain ⟨m, ma, mb⟩ : ∃ c : Nat, (2 ≤ (t2 u2 1).toInt → c = 2) ∧ ((t2 u2 1).toInt < 2 → c = 1) := ⟨if 2 ≤ (t2 u2 1).toInt then 2 else 1, fun c => if_pos c, fun c => if_neg (by omega)⟩
  refine ⟨hu2, fun y => y.toInt ≠ 0 → (t2 u2 1).toInt ≠ 0, fun y55 _ hy55 => ⟨fun y => (y.toInt ≠ 0 → 2 ≤ (t2 u2 1).toInt) ∧ (y.toInt = 0 → (t2 u2 1).toInt < 2), fun y70 _ hy70 => ⟨fun s t z => t2 = t ∧ z2 = z ∧ SQ (nxt s2) s 2 ∧ ((t2 u2 1).toInt ≠ 0 → TE (nxt s2) s N (ev t2 u2) c1), ?_, ?_, ?_⟩, fun c => ⟨no0, fun _ => c⟩, fun c => ⟨fun _ => c, no1⟩⟩, fun _ => no0, fun c _ => c⟩
  rotate_left 1
  · intro c
    refine ⟨rfl, rfl, ?_, fun c0 => ?_⟩
    · exact ⟨kp_rf, of_rf, fun _ _ => rfl, Int.le_refl _, by show ((nxt s2) 0 17).toInt ≤ ((nxt s2) 0 17).toInt + 2; omega⟩
    · by_cases c3 : (t2 u2 1).toInt = 1
      · rw [c1b (by omega), ev_in (Or.inl c3)]; exact te_rf
      · rw [c1a (by omega), ev_1 (by omega) (v5 c0)]; exact te_rf
  · intro c
    refine sp_put_1 h0n (by show ((nxt s2) 0 17).toInt ≤ 499990; omega) (fun s hs => ⟨rfl, rfl, sq_pu hs, fun c0 => ?_⟩)
    rw [c1a (by omega), ev_in (Or.inr c)]
    exact te_put (n := 2) h0n hs rfl (by decide) rfl (k := 1) rfl (fun g' H L x hH hn hx => ⟨by rw [hx _ rfl]; omega, hn⟩) (by omega)
  rintro s89 _ _ ⟨rfl, rfl, q89, e89⟩
  have w89 := sq_wc q89 h0n
  refine sp_worked (fun w => ?_)
  obtain ⟨c2, c2a, c2b, c2c⟩ : ∃ c : Nat, (2 ≤ (t2 u2 1).toInt → w.toInt = 30 → c = 1) ∧ (2 ≤ (t2 u2 1).toInt → w.toInt ≠ 30 → c = 2) ∧ ((t2 u2 1).toInt < 2 → c = 0) := ⟨if 2 ≤ (t2 u2 1).toInt then (if w.toInt = 30 then 1 else 2) else 0, fun c e => by rw [if_pos c, if_pos e], fun c e => by rw [if_pos c, if_neg e], fun c => if_neg (by omega)⟩
  obtain ⟨b, ba, bb, bc, bd⟩ : ∃ c : Nat, (2 ≤ (t2 u2 1).toInt → w.toInt = 30 → c = 1) ∧ (2 ≤ (t2 u2 1).toInt → w.toInt ≠ 30 → c = 2) ∧ ((t2 u2 1).toInt < 2 → w.toInt = 30 → c = 0) ∧ ((t2 u2 1).toInt < 2 → w.toInt ≠ 30 → c = 1) := ⟨if 2 ≤ (t2 u2 1).toInt then (if w.toInt = 30 then 1 else 2) else (if w.toInt = 30 then 0 else 1), fun c e => by rw [if_pos c, if_pos e], fun c e => by rw [if_pos c, if_neg e], fun c e => by rw [if_neg (by omega), if_pos e], fun c e => by rw [if_neg (by omega), if_neg e]⟩
  refine ⟨fun s t z => t2 = t ∧ z2 = z ∧ SQ (nxt s2) s 5 ∧ ((t2 u2 1).toInt ≠ 0 → TE (nxt s2) s N (ev t2 u2) c2), ?_, ?_, ?_⟩
  rotate_left 1
  · intro c
    refine ⟨rfl, rfl, ⟨q89.1, q89.2.1, q89.2.2.1, q89.2.2.2.1, by have := q89.2.2.2.2; omega⟩, fun c0 => ?_⟩
    by_cases c3 : 2 ≤ (t2 u2 1).toInt
    · rw [c2a c3 c, ← c1a c3]; exact e89 c0
    · rw [c2c (by omega), ← c1b (by omega)]; exact e89 c0
  · intro c
    refine ⟨fun c3 => ?_, fun c3 => ?_⟩
    · have c4 := hy70.2 c3
      refine ⟨rfl, rfl, ⟨q89.1, q89.2.1, q89.2.2.1, q89.2.2.2.1, by have := q89.2.2.2.2; omega⟩, fun c0 => ?_⟩
      rw [c2c c4, ← c1b c4]; exact e89 c0
    · have c4 := hy70.1 c3
      refine sp_put_0 w89.1 (by omega) (fun s hs => ⟨ht, sp_put_1 (sq_wc (sq_pu hs) w89.1).1 (by have := (sq_wc (sq_pu hs) w89.1).2.1; simp only [List.length_cons, List.length_nil] at this; omega) (fun s' hs' => ⟨rfl, rfl, sq_tr q89 (sq_tr (sq_pu hs) (sq_pu hs')), fun c0 => ?_⟩)⟩)
      rw [c2b c4 c]
      have e := e89 c0
      rw [c1a c4] at e
      refine te_sq h0n q89 (sq_tr (sq_pu hs) (sq_pu hs')) e (te_sq w89.1 (sq_pu hs) (sq_pu hs') (te_put (n := 1) (b := 2) w89.1 hs rfl (by decide) rfl (k := 9) rfl (fun g' H L x hH hn hx => ⟨by omega, hn⟩) (by omega)) (te_put (n := 2) (sq_wc (sq_pu hs) w89.1).1 hs' rfl (by decide) rfl (k := 5) rfl (fun g' H L x hH hn hx => ⟨by omega, hn⟩) (by omega)))
  rintro s125 _ _ ⟨rfl, rfl, q125, e125⟩
  have w125 := sq_wc q125 h0n
  refine ⟨fun s t z => t2 = t ∧ z2 = z ∧ SQ (nxt s2) s 7 ∧ ((t2 u2 1).toInt ≠ 0 → TE (nxt s2) s N (ev t2 u2) b), ?_, ?_, ?_⟩
  rotate_left 1
  · intro c
    refine ⟨rfl, rfl, ⟨q125.1, q125.2.1, q125.2.2.1, q125.2.2.2.1, by have := q125.2.2.2.2; omega⟩, fun c0 => ?_⟩
    by_cases c3 : 2 ≤ (t2 u2 1).toInt
    · rw [ba c3 c, ← c2a c3 c]; exact e125 c0
    · rw [bc (by omega) c, ← c2c (by omega)]; exact e125 c0
  · intro c
    refine ⟨hu2, fun c3 => ⟨rfl, rfl, ⟨q125.1, q125.2.1, q125.2.2.1, q125.2.2.2.1, by have := q125.2.2.2.2; omega⟩, fun c0 => ?_⟩, fun c3 => sp_put_1 w125.1 (by omega) (fun s hs => ⟨rfl, rfl, sq_tr q125 (sq_pu hs), fun c0 => ?_⟩)⟩
    · rw [bb (by omega) c, ← c2b (by omega) c]; exact e125 c0
    · rw [bd (by omega) c]
      have e := e125 c0
      rw [c2c (by omega)] at e
      refine te_sq h0n q125 (sq_pu hs) e (te_put (n := 2) w125.1 hs rfl (by decide) rfl (k := 3) rfl (fun g' H L x hH hn hx => ⟨?_, hn⟩) (by omega))
      rw [hx _ rfl]
      have e4 : (s 0 49) = ((nxt s2) 0 49) := (hs.1 0 49 rfl rfl).trans (q125.1 0 49 rfl rfl)
      rw [e4]
      exact ⟨v3, hl2 c3⟩
  rintro s149 _ _ ⟨rfl, rfl, q149, e149⟩
  have w149 := sq_wc q149 h0n
  have r149 := sq_rl (vs := z2) hPn q149
  have rB := rl_tr rA r149
  have p149 : pos s149 = pos (nxt s2) := by
    unfold pos
    have e1 : (s149 0 10) = ((nxt s2) 0 10) := q149.1 _ _ rfl rfl
    have e2 : (s149 3) = ((nxt s2) 3) := funext (fun j => q149.1 3 j rfl rfl)
    rw [e1, e2]
  have i149 : (s149 0 39) = ((nxt s2) 0 39) := q149.1 _ _ rfl rfl
  have ic149 : (s149 0 39).toInt = (s2 0 39).toInt := by rw [i149]; exact ic_n
  have hB149 : NB s149 z2 := nb_of hB2 (rl_tr rn r149) (by omega) (by rw [i149]; omega) (by omega)
  refine hE (by omega) _ s149 t2 z2 _ T (by omega) r149.2.1 hB149 (fun u s t z r => ?_) (fun s t z hs => kT _ _ _ (rt_of rB (by have := r2.2.2.2.2.2.2.1; omega) hs))
  refine sp_read r.1.2.1 (re_nb hB149 r) r.2.2.1.1 (fun s160 hrd => ?_)
  obtain ⟨g1, g2, g3, g4, g5, g6, g7, g8⟩ := re_read r149.2.1 r hrd hM
  have hP160 := g1.2.1
  have hu2z : u2 ∈ z := r.1.2.2.2.2.2.2.2.2.1 _ hu2
  have huz := r.2.2.1.1
  have f2 : ∀ f, f ≠ 1 → upC t u 1 (0 : Int32) u2 f = t2 u2 f := fun f hf => by rw [how_f hf, r.2.1 u2 hu2]
  have hzu := (hP160.2.2.2.2 u).2.2.2.2.2
  have hB160 : NB s160 z := nb_of hB149 g1 (by omega) (by omega) g5
  have hcap := nb_cap hB160 hP160
  refine ⟨fun y => y.toInt ≠ 0 → (t2 u2 1).toInt ≠ 0 ∧ (upC t u 1 (0 : Int32) u 0).toInt ≠ -1, fun y242 _ hy242 => sp_must ht (fun s249 hs hf => ⟨fun y => y.toInt ≠ -1, fun ty hty => sp_made hu2z huz hcap.1 ht (fun q s272 t272 hgt hq hv hs' => ?_), fun _ => by decide, fun c => ⟨hu2z, by show (upC t u 1 (0 : Int32) u2 0).toInt ≠ -1; rw [f2 0 (by decide)]; exact v5 (hy242 c).1⟩⟩), ?_⟩
  · -- behind the right side
    have h0160 := hP160.2.2.1.2.2.2.2.1
    have sq1 := sq_tr (sq_tl hs) (sq_tl hs')
    have w272 := sq_wc sq1 h0160
    have ne2 : u2 ≠ q := fun e => hq (e ▸ hu2z)
    have f3 : ∀ f, f ≠ 1 → t272 u2 f = t2 u2 f := fun f hf => by rw [hv.1 u2 ne2]; exact f2 f hf
    refine ⟨fun s t z9 => t272 = t ∧ z ++ [q] = z9 ∧ SQ s272 s 3 ∧ ((t2 u2 1).toInt ≠ 0 → TE s272 s N (b + 1) m), ?_, ?_, ?_⟩
    rotate_left 1
    · intro c
      refine ⟨rfl, rfl, ⟨kp_rf, of_rf, fun _ _ => rfl, Int.le_refl _, by omega⟩, fun c0 => ?_⟩
      by_cases c3 : 2 ≤ (t2 u2 1).toInt
      · rw [ba c3 c, ma c3]; exact te_rf
      · rw [bc (by omega) c, mb (by omega)]; exact te_rf
    · intro c
      refine ⟨ht, sp_put_2 w272.1 (by omega) (fun s hs9 => ⟨rfl, rfl, sq_pu hs9, fun c0 => ?_⟩)⟩
      by_cases c3 : 2 ≤ (t2 u2 1).toInt
      · rw [bb c3 c, ma c3]
        refine te_put (n := 3) w272.1 hs9 rfl (by decide) rfl (k := 11) rfl (fun g' H L x hH hn hx => ⟨by omega, ?_⟩) (by omega)
        have e9 : H + (2 + 1) - 1 = H + 2 := by omega
        rw [e9]; exact hn
      · rw [bd (by omega) c, mb (by omega)]
        refine te_put (n := 3) w272.1 hs9 rfl (by decide) rfl (k := 11) rfl (fun g' H L x hH hn hx => ⟨by omega, ?_⟩) (by omega)
        have e9 : H + (1 + 1) - 1 = H + 1 := by omega
        rw [e9]; exact hn
    rintro s299 _ _ ⟨rfl, rfl, q299, e299⟩
    have w299 := sq_wc q299 w272.1
    have fin : ∀ s ws, PU s299 s ws → ws.length = 2 → ((t2 u2 1).toInt ≠ 0 → TE s299 s N m 1) → Q q s t272 (z ++ [q]) := fun s ws hws hl9 hte => by
      have sqf := sq_tr sq1 (sq_tr q299 (sq_pu hws))
      have r3 := sq_rl (vs := z) hP160 sqf
      have rF := rl_tr rB (rl_tr g1 r3)
      have pF : pos s = pos s160 := by
        unfold pos
        have e1 : (s 0 10) = (s160 0 10) := sqf.1 _ _ rfl rfl
        have e2 : (s 3) = (s160 3) := funext (fun j => sqf.1 3 j rfl rfl)
        rw [e1, e2]
      have iF : (s 0 39) = (s160 0 39) := sqf.1 _ _ rfl rfl
      have wF := sqf.2.2.2.2
      rw [hl9] at wF
      have v9 := vnw_nv hv
      refine kQ _ _ _ _ ⟨rl_val rF v9, vfr_tr (vfr_tr r2.2.1 r2.1.2.2.2.2.2.2.2.2.1 g2) (fun w hw => r.1.2.2.2.2.2.2.2.2.1 _ (r2.1.2.2.2.2.2.2.2.2.1 _ hw)) (vfr_vnw hq v9), ⟨by simp, fun c => hq (r.1.2.2.2.2.2.2.2.2.1 _ (r2.1.2.2.2.2.2.2.2.2.1 _ c))⟩, fun c => ?_, ?_, ?_, ?_, ?_⟩
      · rw [(nv_at hv).2.1] at c
        exact absurd c (by decide)
      · have := r2.2.2.2.2.1
        omega
      · have := r2.2.2.2.2.2.1
        rw [iF]
        omega
      · have := r2.2.2.2.2.2.2.1
        simp only [List.length_append, List.length_cons, List.length_nil]
        omega
      · rw [ev_nv hv hty]
        refine te_if (P := (t2 u2 1).toInt ≠ 0 ∧ (upC t u 1 (0 : Int32) u 0).toInt ≠ -1) (fun f1 f2 => hy242 (hf (of0 hs'.2 (of0 q299.2.1 (of0 (sq_pu hws).2.1 f1))) (sil_sq (sq_tr (sq_tl hs') (sq_tr q299 (sq_pu hws))) f2))) (fun g => ?_)
        have eu : ev (upC t u 1 (0 : Int32)) u = 1 := ev_st (by rw [rdA, if_pos rfl]; rfl) g.2
        rw [eu] at g6
        have t1 : TE σ (nxt s2) N 0 (ev t2 u2) := te_rl h0 r2.1 rn r2.2.2.2.2.2.2.2 (te_nxt h02 rn)
        have t2' : TE σ s149 N 0 b := te_rl h0 rA r149 t1 (e149 g.1)
        have hb2 : b ≤ 2 := by
          by_cases c3 : 2 ≤ (t2 u2 1).toInt
          · by_cases c4 : w.toInt = 30
            · rw [ba c3 c4]; omega
            · rw [bb c3 c4]; omega
          · by_cases c4 : w.toInt = 30
            · rw [bc (by omega) c4]; omega
            · rw [bd (by omega) c4]; omega
        have t3 : TE s149 s160 N b (b + 1) := te_up g6 (by omega)
        have t4 : TE σ s160 N 0 (b + 1) := te_rl h0 rB g1 t2' t3
        have t5 : TE s160 s N (b + 1) 1 := te_sq h0160 sq1 (sq_tr q299 (sq_pu hws)) (te_sq h0160 (sq_tl hs) (sq_tl hs') (te_tl h0160 hs) (te_tl (sq_wc (sq_tl hs) h0160).1 hs')) (te_sq w272.1 q299 (sq_pu hws) (e299 g.1) (hte g.1))
        exact te_rl h0 (rl_tr rB g1) r3 t4 t5
    refine ⟨fun c => ⟨by simp [hu2z], sp_put_1 w299.1 (by omega) (fun s hs9 => fin s _ hs9 rfl (fun c0 => ?_))⟩, fun c => ⟨ht, sp_put_1 w299.1 (by omega) (fun s hs9 => fin s _ hs9 rfl (fun c0 => ?_))⟩⟩
    · have c4 := hy70.2 c
      rw [mb c4]
      refine te_put (n := 2) w299.1 hs9 rfl (by decide) rfl (k := 7) rfl (fun g' H L x hH hn hx => ⟨?_, by omega, hn⟩) (by omega)
      rw [hx _ rfl, f3 2 (by decide)]
      have e4 : (s 0 49) = (s149 0 49) := (hs9.1 0 49 rfl rfl).trans ((q299.1 0 49 rfl rfl).trans ((sq1.1 0 49 rfl rfl).trans (rl_loc g1)))
      have e5 : (s149 0 49) = ((nxt s2) 0 49) := q149.1 0 49 rfl rfl
      rw [e4, e5]
      exact ⟨v3, hl2 (by omega)⟩
    · have c4 := hy70.1 c
      rw [ma c4]
      refine te_put (n := 2) w299.1 hs9 rfl (by decide) rfl (k := 6) rfl (fun g' H L x hH hn hx => ⟨by omega, ?_⟩) (by omega)
      have e9 : H + 2 - 1 = H + 1 := by omega
      rw [e9]; exact hn
  · -- whether it fits
    refine ⟨True, fun _ => no0, fun _ => trivial, fun c55 => ⟨(upC t u 1 (0 : Int32) u 0).toInt ≠ -1, fun c => fun _ => ⟨hy55 c55, c⟩, fun _ => ⟨True, fun _ => ⟨hu2z, fun _ => trivial, fun _ => sp_isInt huz (fun c => ⟨no1, fun _ => by rw [c]; decide⟩) (fun _ => ⟨fun _ => trivial, no0⟩)⟩, fun _ => trivial, fun _ => ⟨fun _ => sp_isInt hu2z (fun _ => ⟨no1, fun _ => sp_isInt huz (fun c => ⟨no1, fun _ => by rw [c]; decide⟩) (fun _ => ⟨fun _ => trivial, no0⟩)⟩) (fun _ => ⟨fun _ => trivial, no0⟩), fun _ => trivial⟩⟩, fun _ => ⟨hu2z, sp_fits huz (fun c => ⟨no1, fun _ => ?_⟩) ⟨fun _ => trivial, no0⟩⟩⟩⟩
    rcases c with c | ⟨c, c'⟩
    · rw [c, f2 0 (by decide)]
      exact v5 (hy55 c55)
    · have := hzu c'
      rw [this]; decide
end EX1
end

section
/-! jumps over stretches -/
section FORK
variable {σ s s' τ t t' : St} {vs z z' : List Nat}
theorem ty_X {g : Gh} {X X' : Nat → Prop} {E0 H L : Nat} (h : TY σ g X E0 H L) (hX : ∀ q, X q → X' q) : TY σ g X' E0 H L := by
  obtain ⟨h1, h2, h3, h4, h5⟩ := h
  exact ⟨h1, h2, h3, h4, fun q h k hq hlt hx => h5 q h k hq hlt (fun c => hx (hX q c))⟩
/-- words at and above are changed at one place -/
def aimS (σ : St) (p : Nat) : St := upC σ 8 (p + 1) (σ 0 17)
theorem rl_aim {p : Nat} (r : RL σ vs s t z) (hp : (σ 0 17).toInt ≤ (p + 1 : Nat)) : RL σ vs (aimS s p) t z := by
  obtain ⟨h1, h2, h3, h4, h5, h6, h7, h8, h9, h10, h11⟩ := r
  have k : KE σ (aimS s p) := kp_a h1 rfl
  exact ⟨k, ⟨tk_kp (fs := []) (cs := [8]) (kp_a kp_rf rfl) rfl rfl ⟨rfl, rfl, rfl, rfl, rfl⟩ rfl h2.1, h2.2.1, h2.2.2.1, h2.2.2.2.1, h2.2.2.2.2⟩, fun j hj => by
    show upC s 8 (p + 1) _ 8 j = _
    rw [rdA_ne (by omega)]
    exact h3 j hj, h4, h5, h6, h7, h8, h9, h10, h11⟩
theorem okc_br {g : Gh} {p h k : Nat} {op : Int32} (hop : (s 8) p = op) (ho : op = 16 ∨ op = 17) (h1 : 1 ≤ h) (hw : 0 ≤ (s 0 17).toInt) (n1 : Nx g k p (wcn s) (h - 1)) (n2 : Nx g k p (p + 2) (h - 1)) : OKc (aimS s p) g p h k := by
  have e1 : ((aimS s p) 8) p = op := by
    show upC s 8 (p + 1) _ 8 p = _
    rw [rdA_ne (by omega)]; exact hop
  have e2 : ((aimS s p) 8) (p + 1) = (s 0 17) := by
    show upC s 8 (p + 1) _ 8 (p + 1) = _
    rw [rdA_eq rfl]
  unfold OKc OPw
  rw [e1, e2]
  rcases ho with rfl | rfl
  · exact ⟨by decide, h1, hw, n1, n2⟩
  · exact ⟨by decide, h1, hw, n1, n2⟩
theorem okc_go {g : Gh} {p h k : Nat} (hop : (s 8) p = 15) (hw : 0 ≤ (s 0 17).toInt) (n1 : Nx g k p (wcn s) h) (n2 : g (p + 2) ≠ none) : OKc (aimS s p) g p h k := by
  have e1 : ((aimS s p) 8) p = 15 := by
    show upC s 8 (p + 1) _ 8 p = _
    rw [rdA_ne (by omega)]; exact hop
  have e2 : ((aimS s p) 8) (p + 1) = (s 0 17) := by
    show upC s 8 (p + 1) _ 8 (p + 1) = _
    rw [rdA_eq rfl]
  unfold OKc OPw
  rw [e1, e2]
  exact ⟨by decide, hw, n1, n2⟩
/-- a jump where a value decides, one stretch, a jump over the other stretch -/
theorem te_fork {s1 s2 s3 s4 s5 s6 : St} {op : Int32} {M N : Nat} (ho : op = 16 ∨ op = 17) (h0 : 0 ≤ (σ 0 17).toInt) (p1 : PU σ s1 [op, -1]) (r2 : RW s1 s2) (w2 : (s1 0 17).toInt ≤ (s2 0 17).toInt) (e2 : TE s1 s2 M 0 1) (p3 : PU s2 s3 [15, -1]) (e4 : s4 = aimS s3 (wcn σ)) (r5 : RW s4 s5) (w5 : (s4 0 17).toInt ≤ (s5 0 17).toInt) (e5 : TE s4 s5 M 0 1) (e6 : s6 = aimS s5 (wcn s2)) (f3 : OF s2 s5) (l3 : (s5 0 15) = (s2 0 15)) (hN : M + 1 ≤ N) : TE σ s6 N 1 1 := by
  intro g X E0 H L hT hH hf hs
  subst e4
  subst e6
  have W1 : (s1 0 17).toInt = (σ 0 17).toInt + 2 := p1.2.1
  have W3 : (s3 0 17).toInt = (s2 0 17).toInt + 2 := p3.2.1
  have W4 : ((aimS s3 (wcn σ)) 0 17).toInt = (s3 0 17).toInt := rfl
  have n0 : (wcn σ : Int) = (σ 0 17).toInt := nt h0
  have n1 : (wcn s1 : Int) = (s1 0 17).toInt := nt (by omega)
  have n2 : (wcn s2 : Int) = (s2 0 17).toInt := nt (by omega)
  have n3 : (wcn s3 : Int) = (s3 0 17).toInt := nt (by omega)
  have n4 : wcn (aimS s3 (wcn σ)) = wcn s3 := rfl
  have n5 : (wcn s5 : Int) = (s5 0 17).toInt := nt (by omega)
  have hf5 : (s5 0 12).toInt = 0 := hf
  have hs5 : (s5 0 15).toInt = 0 := hs
  have hf2 := of0 f3 hf5
  have hs2 : (s2 0 15).toInt = 0 := by rw [← l3]; exact hs5
  obtain ⟨g1, t1, x1, a1, b1⟩ := ty_hole (H' := H) hT h0 p1 rfl
  obtain ⟨g2, t2, x2⟩ := e2 g1 _ E0 H L t1 (by omega) hf2 hs2
  obtain ⟨g3, t3, x3, a3, b3⟩ := ty_hole (H' := H) t2 (by omega) p3 rfl
  -- the first jump
  have k1 : g3 (wcn σ) = some (H + 1, L) := by rw [x3 _ (by omega), x2 _ (by omega), a1]
  have k2 : g3 (wcn σ + 1) = none := by rw [x3 _ (by omega), x2 _ (by omega), b1]
  have k3 : g3 (wcn σ + 2) = some (H, L) := by
    have : wcn σ + 2 = wcn s1 := by omega
    rw [this, x3 _ (by omega), x2 _ (by omega)]
    exact t1.2.1
  have k4 : g3 (wcn s3) = some (H, L) := t3.2.1
  have o1 : (s3 8) (wcn σ) = op := by
    rw [p3.2.2.1 _ (by omega), r2 _ (by omega)]
    exact p1.2.2.2 0 _ rfl
  have t4 : TY (aimS s3 (wcn σ)) g3 (fun q => X q ∨ q = wcn s2) E0 H L := by
    refine ty_aim (ty_X t3 (fun q hq => ?_)) (by omega) (by omega) k2 (fun h k hh => ?_)
    · rcases hq with (hq | hq) | hq
      · exact Or.inl (Or.inl hq)
      · exact Or.inr hq
      · exact Or.inl (Or.inr hq)
    · rw [k1] at hh
      cases hh
      exact okc_br o1 ho (by omega) (by omega) ⟨by omega, L, k4, Or.inr ⟨rfl, by omega⟩⟩ ⟨by omega, L, k3, Or.inr ⟨rfl, by omega⟩⟩
  obtain ⟨g5, t5, x5⟩ := e5 g3 _ E0 H L t4 (by omega) hf5 hs5
  rw [n4] at x5
  have o2 : (s5 8) (wcn s2) = 15 := by
    rw [r5 _ (by omega)]
    show upC s3 8 (wcn σ + 1) _ 8 (wcn s2) = _
    rw [rdA_ne (by omega)]
    exact p3.2.2.2 0 _ rfl
  have k5 : g5 (wcn s2) = some (H + 1, L) := by rw [x5 _ (by omega), a3]
  refine ⟨g5, ty_aim t5 (by omega) (by omega) (by rw [x5 _ (by omega), b3]) (fun h k hh => ?_), ?_⟩
  · rw [k5] at hh
    cases hh
    refine okc_go o2 (by omega) ⟨by omega, L, t5.2.1, Or.inr ⟨rfl, by omega⟩⟩ ?_
    have : wcn s2 + 2 = wcn s3 := by omega
    rw [this, x5 _ (by omega), k4]
    exact fun q => by cases q
  · exact ext_tr (ext_tr (ext_tr x1 x2 (by omega)) x3 (by omega)) x5 (by omega)
end FORK
end

section
/-! choice, binary, decided -/
def SXb (K : Int32 → KX) (l d : Int) (N : Nat) : Prop := ∀ (l' : Int32), l'.toInt = l → SX (K l') d N
def RD (σ τ : St) (vs : List Nat) (N a : Nat) (u : Nat) (s t : St) (z : List Nat) : Prop := RL σ vs s t z ∧ VFr τ vs t ∧ (u ∈ z ∧ u ∉ vs) ∧ ((t u 1).toInt = 1 → (t u 2).toInt < (s 0 49).toInt) ∧ (s 0 17).toInt + 9 ≤ (σ 0 17).toInt + 40 * (pos s - pos σ) ∧ (s 0 39).toInt + 6 ≤ (σ 0 39).toInt + 12 * (pos s - pos σ) ∧ (z.length : Int) ≤ vs.length + 2 * (pos s - pos σ) + 1 ∧ TE σ s N a (ev t u)
def SXd (K : Int32 → Nat → Int32 → KX) (o d : Int) (N : Nat) : Prop := ∀ (op : Int32) (v : Nat) (tk a : Int32) (σ τ : St) (vs : List Nat) (Q : Nat → St → St → List Nat → Prop) (T : St → St → List Nat → Prop), op.toInt = o → a.toInt = d → PA σ τ → NB σ vs → (σ 0 17).toInt + 10 + 40 * ((σ 0 9).toInt - pos σ) ≤ 410000 → v ∈ vs → (τ v 1).toInt = 0 → (0 ≤ tk.toInt ∧ tk.toInt < 16002) → (∀ u s t z, RD σ τ vs N (ev τ v) u s t z → Q u s t z) → (∀ s t z, RTx σ vs s t z → T s t z) → K op v tk a σ τ vs Q T
section CHO
variable {σ s s' τ t t' : St} {vs z z' : List Nat}
theorem pos_sq {n : Int} (h : SQ σ s n) : pos s = pos σ := by
  unfold pos
  have e1 : (s 0 10) = (σ 0 10) := h.1 _ _ rfl rfl
  have e2 : (s 3) = (σ 3) := funext (fun j => h.1 3 j rfl rfl)
  rw [e1, e2]
theorem ic_sq {n : Int} (h : SQ σ s n) : (s 0 39) = (σ 0 39) := h.1 _ _ rfl rfl
theorem sp_aim {a : Int32} {p : Nat} {Q : St → St → List Nat → Prop} (ha : a.toInt = (p : Int) + 1) (hp : (p : Int) ≤ 500000) (k : Q (aimS σ p) τ vs) : wp_aim a σ τ vs Q := by
  unfold wp_aim
  have e : a.toNatClampNeg = p + 1 := by rw [nt', ha]; omega
  rw [e]
  exact ⟨⟨by omega, by omega⟩, k⟩
theorem sp_decided {k1 k2 : KX} {k3 : Int32 → KX} {k4 : Int32 → Nat → Int32 → KX} {k5 k6 k7 : KX} {k8 : Int32 → KX} {o d : Int} {M N : Nat} (ho : o = 10 ∨ o = 11) (hB : SXb k3 (rkf o + 1) d M) (hM : 1 ≤ M) (hN : M + 1 ≤ N) : SXd (wp_decided k1 k2 k3 k4 k5 k6 k7 k8) o d N := by
  intro op v tk a σ τ vs Q T hop had hP hB1 hB2 hv hh ht kQ kT
  unfold wp_decided
  have h0 := hP.2.2.1.2.2.2.2.1
  have hcap := nb_cap hB1 hP
  have hrk : 0 ≤ rkf o ∧ rkf o ≤ 10 := ⟨(rkf_rng o).1, (rkf_rng o).2.1⟩
  have h5 := hP.2.2.2.2
  refine ⟨fun y => y = 16 ∨ y = 17, fun y hy => sp_open h0 (by omega) (fun a1 s1 p1 e1 => sp_rank (fun r hr => ?_)), fun _ => Or.inr rfl, fun _ => Or.inl rfl⟩
  have r1 := rl_pu (vs := vs) hP p1 h5 (fun _ h => h) (Nat.le_refl _)
  have W1 : (s1 0 17).toInt = (σ 0 17).toInt + 2 := p1.2.1
  have q1 := sq_pu p1
  have P1 := pos_sq q1
  have I1 := ic_sq q1
  have hN1 : NB s1 vs := by
    obtain ⟨g1, g2, g3⟩ := hB1
    have e := rl_sz r1
    unfold NB
    rw [e, P1, I1]
    exact ⟨by omega, g2, g3⟩
  rw [hop] at hr
  refine hB _ (by rw [ad1 (by omega), hr]) a s1 τ vs _ T had r1.2.1 hN1 (fun u s2 t2 z2 r2 => ?_) (fun s t z hs => kT _ _ _ (rt_of r1 (by omega) hs))
  refine sp_read r2.1.2.1 (re_nb hN1 r2) r2.2.2.1.1 (fun s3 hrd => ?_)
  obtain ⟨g1, g2, g3, g4, g5, g6, g7, g8⟩ := re_read r1.2.1 r2 hrd hM
  have hP3 := g1.2.1
  have h03 := hP3.2.2.1.2.2.2.2.1
  have hB3 := nb_of hN1 g1 (by omega) (by omega) g5
  have hcap3 := nb_cap hB3 hP3
  refine sp_put_0 h03 (by omega) (fun s4 p4 => ?_)
  have q4 := sq_pu p4
  have W4 : (s4 0 17).toInt = (s3 0 17).toInt + 1 := p4.2.1
  refine sp_open (by omega) (by omega) (fun a5 s5 p5 e5 => ?_)
  have W5 : (s5 0 17).toInt = (s4 0 17).toInt + 2 := p5.2.1
  have n0 : (wcn σ : Int) = (σ 0 17).toInt := nt h0
  have n4 : (wcn s4 : Int) = (s4 0 17).toInt := nt (by omega)
  refine sp_aim (p := wcn σ) (by omega) (by omega) ?_
  have hu3 : u ∈ z2 := r2.2.2.1.1
  have hv3 : v ∈ z2 := r2.1.2.2.2.2.2.2.2.2.1 _ hv
  -- the stretch up to the second jump
  have r4 := rl_pu (vs := z2) (t := upC t2 u 1 (0 : Int32)) (z := z2) hP3 p4 hP3.2.2.2.2 (fun _ h => h) (Nat.le_refl _)
  have r5 := rl_pu (vs := z2) (t := upC t2 u 1 (0 : Int32)) (z := z2) r4.2.1 p5 hP3.2.2.2.2 (fun _ h => h) (Nat.le_refl _)
  have r14 := rl_tr g1 r4
  have r05 := rl_tr (rl_tr r1 r14) r5
  have rA := rl_aim (p := wcn σ) r05 (by omega)
  have WA : ((aimS s5 (wcn σ)) 0 17).toInt = (s5 0 17).toInt := rfl
  refine ⟨fun _ => True, fun y2 _ _ => sp_put_1 (by rw [WA]; omega) (by rw [WA]; omega) (fun s6 p6 => ?_), fun _ => trivial, fun _ => trivial⟩
  have W6 : (s6 0 17).toInt = (s5 0 17).toInt + 2 := p6.2.1
  refine sp_aim (p := wcn s4) (by omega) (by omega) ?_
  have r6 := rl_pu (vs := z2) (t := upC t2 u 1 (0 : Int32)) (z := z2) rA.2.1 p6 hP3.2.2.2.2 (fun _ h => h) (Nat.le_refl _)
  have m14 := r14.2.2.2.2.2.1
  have r06 := rl_aim (p := wcn s4) (rl_tr rA r6) (by omega)
  -- the types
  have hne : v ≠ u := fun e => r2.2.2.1.2 (e ▸ hv)
  have fv : (upC t2 u 1 (0 : Int32)) v = τ v := by
    show upF t2 u _ v = _
    rw [upF_ne hne]
    exact r2.2.1 v hv
  have wi : ∀ {P : Prop}, P → P := fun h => h
  have J : ∀ y : Int32, (y.toInt ≠ 0 → (τ v 0).toInt ≠ -1 ∧ (upC t2 u 1 (0 : Int32) u 0).toInt ≠ -1) → wp_must y tk (aimS s6 (wcn s4)) (upC t2 u 1 (0 : Int32)) z2 (fun s103 t103 z103 => wp_made (0 : Int32) v u tk s103 t103 z103 (fun u112 s112 t112 z112 => Q u112 s112 t112 z112)) := fun y hy9 => by
    refine sp_must ht (fun s7 hs hf => sp_made hv3 hu3 hcap3.1 ht (fun q s8 t8 hgt hq hv8 hs' => ?_))
    have sq := sq_tr (sq_tl hs) (sq_tl hs')
    have r7 := sq_rl (vs := z2) r06.2.1 sq
    have rF := rl_tr r06 r7
    have v9 := vnw_nv hv8
    have PF : pos s8 = pos s3 := by
      have a1 := pos_sq sq
      have a2 : pos (aimS s6 (wcn s4)) = pos s6 := rfl
      have a3 := pos_sq (sq_pu p6)
      have a4 : pos (aimS s5 (wcn σ)) = pos s5 := rfl
      have a5 := pos_sq (sq_pu p5)
      have a6 := pos_sq q4
      omega
    have IF : (s8 0 39).toInt = (s3 0 39).toInt := by
      have a1 := ic_sq sq
      have a2 : ((aimS s6 (wcn s4)) 0 39) = (s6 0 39) := rfl
      have a3 := ic_sq (sq_pu p6)
      have a4 : ((aimS s5 (wcn σ)) 0 39) = (s5 0 39) := rfl
      have a5 := ic_sq (sq_pu p5)
      have a6 := ic_sq q4
      rw [a1, a2, a3, a4, a5, a6]
    have WF : (s8 0 17).toInt = (s6 0 17).toInt := by
      have a1 := sq.2.2.2.1
      have a2 := sq.2.2.2.2
      have a3 : ((aimS s6 (wcn s4)) 0 17).toInt = (s6 0 17).toInt := rfl
      omega
    refine kQ _ _ _ _ ⟨rl_val rF v9, vfr_tr g2 r2.1.2.2.2.2.2.2.2.2.1 (vfr_vnw hq v9), ⟨by simp, fun c => hq (r2.1.2.2.2.2.2.2.2.2.1 _ c)⟩, fun c => ?_, by omega, by rw [← I1] at *; omega, ?_, ?_⟩
    · rw [(nv_at hv8).2.1] at c
      exact absurd c (by decide)
    · simp only [List.length_append, List.length_cons, List.length_nil]
      omega
    · rw [ev_nv hv8 (by decide)]
      refine te_if (P := (τ v 0).toInt ≠ -1 ∧ (upC t2 u 1 (0 : Int32) u 0).toInt ≠ -1) (fun f1 f2 => hy9 (hf (of0 hs'.2 f1) (sil_sq (sq_tl hs') f2))) (fun g => ?_)
      have eu : ev (upC t2 u 1 (0 : Int32)) u = 1 := ev_st (by rw [rdA, if_pos rfl]; rfl) g.2
      rw [eu] at g6
      rw [ev_st hh g.1]
      have t1 : TE s1 s4 M 0 1 := te_rl r1.2.1.2.2.1.2.2.2.2.1 g1 r4 g6 (te_put (n := 1) h03 p4 rfl (by decide) rfl (k := 24) rfl (fun g' H L x hH hn hx => ⟨by omega, hn⟩) hM)
      have t2' : TE (aimS s5 (wcn σ)) s6 M 0 1 := te_put (n := 2) (by rw [WA]; omega) p6 rfl (by decide) rfl (k := 0) rfl (fun g' H L x hH hn hx => hn) hM
      have tf : TE σ (aimS s6 (wcn s4)) N 1 1 := te_fork hy h0 p1 r14.2.2.1 r14.2.2.2.2.2.1 t1 p5 rfl r6.2.2.1 r6.2.2.2.2.2.1 t2' rfl (of_eq ((p6.1 0 12 rfl rfl).trans (p5.1 0 12 rfl rfl))) ((p6.1 0 15 rfl rfl).trans (p5.1 0 15 rfl rfl)) hN
      have h06 : 0 ≤ ((aimS s6 (wcn s4)) 0 17).toInt := by show 0 ≤ (s6 0 17).toInt; omega
      exact te_rl h0 r06 r7 tf (te_sq h06 (sq_tl hs) (sq_tl hs') (te_tl h06 hs) (te_tl (sq_wc (sq_tl hs) h06).1 hs'))
  refine sp_isAny hv3 (fun c1 => ?_) (fun c1 => ⟨fun y => y.toInt ≠ 0 → (τ v 0).toInt ≠ -1 ∧ (upC t2 u 1 (0 : Int32) u 0).toInt ≠ -1, fun y _ hy9 => J y hy9, ⟨True, fun _ => no0, fun _ => trivial, no0⟩⟩)
  rw [fv] at c1
  exact ⟨fun y => y.toInt ≠ 0 → (τ v 0).toInt ≠ -1 ∧ (upC t2 u 1 (0 : Int32) u 0).toInt ≠ -1, fun y _ hy9 => J y hy9, ⟨True, fun _ => no0, no1, fun _ => sp_isAny hu3 (fun c2 => ⟨no1, fun _ _ => ⟨by omega, by omega⟩⟩) (fun _ => ⟨fun _ => trivial, no0⟩)⟩⟩
theorem sp_binary {k1 k2 : KX} {k3 : Int32 → KX} {k4 : Int32 → Nat → Int32 → KX} {k5 k6 k7 : KX} {k8 : Int32 → KX} {l d : Int} {M N : Nat} (hl : 1 ≤ l ∧ l ≤ 11) (hU : SX k5 d N) (hD : ∀ o, o = 10 ∨ o = 11 → l ≤ rkf o → SXd k4 o d N) (hB : ∀ l', l ≤ l' → l' ≤ 10 → SXb k3 (l' + 1) d M) (hM : 1 ≤ M) (hN : M + 1 ≤ N) (hN2 : 2 ≤ N) : SXb (wp_binary k1 k2 k3 k4 k5 k6 k7 k8) l d N := by
  intro l' hl' a σ τ vs Q T had hP hB1 kQ kT
  unfold wp_binary
  have h0 := hP.2.2.1.2.2.2.2.1
  refine hU a σ τ vs _ T had hP hB1 (fun u2 s2 t2 z2 r2 => ?_) kT
  refine ⟨fun n x s t z => n = ((σ 0 9).toInt - pos s).toNat ∧ RE σ τ vs N 0 x s t z, ⟨_, rfl, r2⟩, fun n x s t z ⟨hn, r⟩ => ?_⟩
  have hPs := r.1.2.1
  have hBs := re_nb hB1 r
  have h0s := hPs.2.2.1.2.2.2.2.1
  refine sp_sign hPs (sp_rank (fun rk hrk => ⟨fun _ => kQ _ _ _ _ r, fun hle => sp_sign hPs ?_⟩))
  obtain ⟨k1', k2', k3'⟩ := rkf_rng (sg s).toInt
  have hrr := k3' (by omega)
  have hkd := kd_sg (σ := s) (lo := 10) (hi := 40) hrr (by omega) (by omega)
  obtain ⟨rn, pn, wn, icn⟩ := rl_nxt (vs := z) hPs (by omega)
  have hPn := rn.2.1
  have ht := at_tok hPs.1 hPs.2.1
  have hx : x ∈ z := r.2.2.1.1
  have hBn : NB (nxt s) z := nb_of hBs rn (by omega) (by omega) (by omega)
  refine sp_read hPn hBn hx (fun s4 hrd => ?_)
  have hx2 : x ∉ vs := r.2.2.1.2
  obtain ⟨g1, g2, g3, g4⟩ := rd_rl (vs := z) (z := z) hPn hrd (vok_how (u := x) hPn.2.2.2.2) (fun _ h => h) (Nat.le_refl _)
  have hP4 := g1.2.1
  have rA := rl_tr r.1 (rl_tr rn g1)
  have vA := vfr_how (u := x) (v := 0) r.2.1 hx2
  have e4 : TE σ s4 N 0 (ev (upC t x 1 (0 : Int32)) x) := te_rl h0 (rl_tr r.1 rn) g1 (te_rl h0 r.1 rn r.2.2.2.2.2.2.2 (te_nxt h0s rn)) (rd_te hPn hrd (by omega) r.2.2.2.1)
  have hh : (upC t x 1 (0 : Int32) x 1).toInt = 0 := by rw [rdA, if_pos rfl]; rfl
  have hB4 : NB s4 z := nb_of hBs (rl_tr rn g1) (by rw [g4]; omega) (by rw [g3, g4]; omega) (by rw [g4]; omega)
  have hsz4 := rl_sz rA
  have c1 := r.2.2.2.2.1
  have c2 := r.2.2.2.2.2.1
  have c3 := r.2.2.2.2.2.2.1
  have i4 : (s4 0 39).toInt = (s 0 39).toInt := by rw [g3]; exact icn
  have back : ∀ u s' t' z', RE σ τ vs N 0 u s' t' z' → pos s < pos s' → ∃ m, m < n ∧ (m = ((σ 0 9).toInt - pos s').toNat ∧ RE σ τ vs N 0 u s' t' z') := fun u s' t' z' r' hp => by
    have := pos_in r'.1.2.1.1 r'.1.2.1.2.1
    have e := rl_sz r'.1
    exact ⟨_, by omega, rfl, r'⟩
  refine ⟨fun u s' t' z' => RE σ τ vs N 0 u s' t' z' ∧ pos s < pos s', fun u s' t' z' ⟨h1, h2⟩ => back u s' t' z' h1 h2, ?_⟩
  have dec : ((sg s).toInt = 10 ∨ (sg s).toInt = 11) → k4 (sg s) x (s 0 10) a s4 (upC t x 1 (0 : Int32)) z (fun u65 s65 t65 z65 => RE σ τ vs N 0 u65 s65 t65 z65 ∧ pos s < pos s65) T := fun c => by
    refine hD _ c (by rw [← hrk]; omega) (sg s) x (s 0 10) a s4 _ z _ T rfl had hP4 hB4 ?_ hx hh ht (fun u s' t' z' r' => ?_) (fun s' t' z' hs => kT _ _ _ (rt_of rA (by rw [g4]; omega) hs))
    · obtain ⟨b1, b2, b3⟩ := hBs
      rw [hsz4, g4]
      have := rl_sz r.1
      omega
    · obtain ⟨q1, q2, q3, q4, q5, q6, q7, q8⟩ := r'
      refine ⟨⟨rl_tr rA q1, vfr_tr vA r.1.2.2.2.2.2.2.2.2.1 q2, ⟨q3.1, fun c => q3.2 (r.1.2.2.2.2.2.2.2.2.1 _ c)⟩, q4, by omega, by omega, by omega, te_rl h0 rA q1 e4 q8⟩, by have := q1.2.2.2.2.2.2.2.1; omega⟩
  refine ⟨(sg s).toInt = 10 ∨ (sg s).toInt = 11, fun c => dec c, fun c => Or.inr c, fun c11 => ⟨fun c10 => sp_rank (fun rk2 hrk2 => ?_), fun c => Or.inl c⟩⟩
  refine hB (rkf (sg s).toInt) (by omega) k2' _ (by rw [ad1 (by omega), hrk2]) a s4 _ z _ T had hP4 hB4 (fun u s5 t5 z5 r5 => ?_) (fun s' t' z' hs => kT _ _ _ (rt_of rA (by rw [g4]; omega) hs))
  refine sp_read r5.1.2.1 (re_nb hB4 r5) r5.2.2.1.1 (fun s6 hrd2 => ?_)
  obtain ⟨b1, b2, b3, b4, b5, b6, b7, b8⟩ := re_read hP4 r5 hrd2 hM
  have hP6 := b1.2.1
  have hB6 := nb_of hB4 b1 (by omega) (by omega) b5
  have hcap6 := nb_cap hB6 hP6
  have hx5 : x ∈ z5 := r5.1.2.2.2.2.2.2.2.2.1 _ hx
  have hne : x ≠ u := fun e => r5.2.2.1.2 (e ▸ hx)
  have fx : (upC t5 u 1 (0 : Int32)) x = upC t x 1 (0 : Int32) x := by
    show upF t5 u _ x = _
    rw [upF_ne hne]
    exact r5.2.1 x hx
  have hhx : (upC t5 u 1 (0 : Int32) x 1).toInt = 0 := by rw [fx]; exact hh
  have hhu : (upC t5 u 1 (0 : Int32) u 1).toInt = 0 := by rw [rdA, if_pos rfl]; rfl
  refine sp_two hP6 hx5 r5.2.2.1.1 hhx hhu (by omega) ht hcap6.1 hN2 (fun w s7 t7 z7 r7 => ?_)
  obtain ⟨q1, q2, q3, q4, q5, q6, q7, q8⟩ := r7
  have rF := rl_tr (rl_tr rA b1) q1
  have p7 : pos s6 ≤ pos s7 := q1.2.2.2.2.2.2.2.1
  have m6 : pos s4 ≤ pos s6 := b1.2.2.2.2.2.2.2.1
  refine ⟨⟨rF, vfr_tr (vfr_tr vA r.1.2.2.2.2.2.2.2.2.1 b2) (fun w hw => r5.1.2.2.2.2.2.2.2.2.1 _ (r.1.2.2.2.2.2.2.2.2.1 _ hw)) q2, ⟨q3.1, fun c => q3.2 (r5.1.2.2.2.2.2.2.2.2.1 _ (r.1.2.2.2.2.2.2.2.2.1 _ c))⟩, q4, by omega, by omega, by omega, ?_⟩, by omega⟩
  have ex : ev (upC t5 u 1 (0 : Int32)) x = ev (upC t x 1 (0 : Int32)) x := ev_eq (by rw [fx]) (by rw [fx])
  have t6 : TE s4 s6 N (ev (upC t x 1 (0 : Int32)) x + 0) (ev (upC t x 1 (0 : Int32)) x + ev (upC t5 u 1 (0 : Int32)) u) := te_up b6 (by have := ev_le (t := upC t x 1 (0 : Int32)) (u := x); omega)
  rw [ex] at q8
  exact te_rl h0 (rl_tr rA b1) q1 (te_rl h0 rA b1 e4 t6) q8
end CHO
end

section
/-! ? : -/
section CH2
variable {σ s s' τ t t' : St} {vs z z' : List Nat}
theorem nv_h {u : Nat} {ty hgt v : Int32} (p : NV τ u ty hgt t) : NV τ u ty v (upC t u 3 v) := by
  refine ⟨fun w hw => ?_, ?_⟩
  · show upF t u _ w = _
    rw [upF_ne hw, p.1 w hw]
  · funext f
    rw [rdA, p.2]
    by_cases c : f = 3
    · rw [if_pos c, if_pos c]
    · rw [if_neg c]
      show (if f = 3 then _ else _) = _
      rw [if_neg c, if_neg c]
theorem sp_choice {k1 k2 : KX} {k3 : Int32 → KX} {k4 : Int32 → Nat → Int32 → KX} {k5 k6 k7 : KX} {k8 : Int32 → KX} {d : Int} {M N : Nat} (hd : 1 ≤ d ∧ d ≤ 25) (hB : SXb k3 1 d N) (hE : d + 1 ≤ 25 → SX k1 (d + 1) M) (hC : d + 1 ≤ 25 → SX k2 (d + 1) M) (hM : 1 ≤ M) (hN : M + 1 ≤ N) : SX (wp_choice k1 k2 k3 k4 k5 k6 k7 k8) d N := by
  intro a σ τ vs Q T had hP hB1 kQ kT
  unfold wp_choice
  have h0 := hP.2.2.1.2.2.2.2.1
  refine hB 1 (by decide) a σ τ vs _ T had hP hB1 (fun u s t z r => ?_) kT
  have hPs := r.1.2.1
  have hBs := re_nb hB1 r
  have h0s := hPs.2.2.1.2.2.2.2.1
  have htk := at_tok hPs.1 hPs.2.1
  refine sp_is hPs (fun hk => ⟨fun _ => ?_, no1⟩) (fun _ => ⟨no0, fun _ => kQ _ _ _ _ r⟩)
  have hk2 : kd s = 60 := hk
  refine sp_read hPs hBs r.2.2.1.1 (fun s2 hrd => ?_)
  obtain ⟨g1, g2, g3, g4, g5, g6, g7, g8⟩ := re_read hP r hrd (by omega : 1 ≤ N)
  have hP2 := g1.2.1
  have h02 := hP2.2.2.1.2.2.2.2.1
  have hB2 : NB s2 z := nb_of hB1 g1 (by omega) (by omega) g5
  have hk3 : kd s2 = 60 := by
    have e1 : (s2 0 10) = (s 0 10) := by
      obtain ⟨⟨v1, v2⟩, -⟩ := hPs.2.2.2.2 u
      obtain ⟨p0, p1, p2, p3⟩ := hrd
      rcases (by omega : (t u 1).toInt = 0 ∨ (t u 1).toInt = 1 ∨ (t u 1).toInt = 2 ∨ (t u 1).toInt = 3) with c | c | c | c
      · rw [p0 c]
      · exact (p1 c).1 _ _ rfl rfl
      · obtain ⟨l, q⟩ := p2 c
        exact q.1 _ _ rfl rfl
      · obtain ⟨l, q⟩ := p3 c
        exact q.1 _ _ rfl rfl
    have e2 : (s2 2) = (s 2) := funext (fun j => g8.1 2 j rfl rfl)
    unfold kd
    rw [e1, e2]
    exact hk2
  refine sp_deeper hP2 (by omega) (fun hd2 ed => ?_) (fun s' hs => kT _ _ _ (rt_of g1 g5 hs))
  obtain ⟨rn, pn, wn, icn⟩ := rl_nxt (vs := z) hP2 (by omega)
  have hPn := rn.2.1
  have h5 := hP2.2.2.2.2
  have r3 := rl_tr g1 rn
  have hcap2 := nb_cap hB2 hP2
  show wp_open (16 : Int32) (nxt s2) (upC t u 1 (0 : Int32)) z _
  refine sp_open (by omega) (by omega) (fun a1 s4 p4 e4 => ?_)
  have W4 : (s4 0 17).toInt = ((nxt s2) 0 17).toInt + 2 := p4.2.1
  have r4 := rl_pu (vs := z) (z := z) hPn p4 h5 (fun _ h => h) (Nat.le_refl _)
  have P4 := pos_sq (sq_pu p4)
  have I4 : (s4 0 39).toInt = ((nxt s2) 0 39).toInt := by rw [ic_sq (sq_pu p4)]
  have r34 := rl_tr r3 r4
  have hB4 : NB s4 z := nb_of hB2 (rl_tr rn r4) (by omega) (by omega) (by omega)
  refine hE (by omega) _ s4 _ z _ T (by omega) r4.2.1 hB4 (fun u5 s5 t5 z5 r5 => ?_) (fun s' t' z' hs => kT _ _ _ (rt_of r34 (by omega) hs))
  refine sp_read r5.1.2.1 (re_nb hB4 r5) r5.2.2.1.1 (fun s6 hrd6 => ?_)
  obtain ⟨b1, b2, b3, b4, b5, b6, b7, b8⟩ := re_read r4.2.1 r5 hrd6 hM
  have hP6 := b1.2.1
  have h06 := hP6.2.2.1.2.2.2.2.1
  have hB6 : NB s6 z5 := nb_of hB4 b1 (by omega) (by omega) b5
  have hcap6 := nb_cap hB6 hP6
  have m6 := b1.2.2.2.2.2.1
  refine sp_open h06 (by omega) (fun a7 s7 p7 e7 => ?_)
  have W7 : (s7 0 17).toInt = (s6 0 17).toInt + 2 := p7.2.1
  have n3 : (wcn (nxt s2) : Int) = ((nxt s2) 0 17).toInt := nt (by omega)
  have n6 : (wcn s6 : Int) = (s6 0 17).toInt := nt h06
  have h5' := hP6.2.2.2.2
  refine sp_aim (p := wcn (nxt s2)) (by omega) (by omega) ?_
  have r7 := rl_pu (vs := z5) (z := z5) hP6 p7 h5' (fun _ h => h) (Nat.le_refl _)
  have r37 := rl_tr (rl_tr r34 b1) r7
  have mg1 := g1.2.2.2.2.2.1
  have rA := rl_aim (p := wcn (nxt s2)) r37 (by omega)
  have rA6 := rl_aim (p := wcn (nxt s2)) (rl_tr (rl_tr r4 b1) r7) (by omega)
  have hPA := rA.2.1
  have htA : (s7 0 8) = (σ 0 8) := rl_tok r37
  have PA_ : pos (aimS s7 (wcn (nxt s2))) = pos s6 := (show pos s7 = pos s6 from pos_sq (sq_pu p7))
  have IA : ((aimS s7 (wcn (nxt s2))) 0 39).toInt = (s6 0 39).toInt := by
    show (s7 0 39).toInt = _
    rw [ic_sq (sq_pu p7)]
  have WA : ((aimS s7 (wcn (nxt s2))) 0 17).toInt = (s7 0 17).toInt := rfl
  have SA : ((aimS s7 (wcn (nxt s2))) 0 9).toInt = (σ 0 9).toInt := rl_sz rA
  refine sp_is hPA (fun hk7 => ⟨fun _ => ?_, no1⟩) (fun _ => ⟨no0, fun _ => sp_wrong hPA (fun s' hs => kT _ _ _ (rt_of rA (by omega) hs))⟩)
  have hk7' : kd (aimS s7 (wcn (nxt s2))) = 61 := hk7
  refine sp_deeper hPA (by omega) (fun _ _ => ?_) (fun s' hs => kT _ _ _ (rt_of rA (by omega) hs))
  obtain ⟨ro, po, wo, ico⟩ := rl_nxt (vs := z5) hPA (by omega)
  have rAo := rl_tr rA ro
  have hBo : NB (nxt (aimS s7 (wcn (nxt s2)))) z5 := nb_of hB1 rAo (by omega) (by omega) (by omega)
  refine hC (by omega) _ _ _ z5 _ T (by omega) ro.2.1 hBo (fun u8 s8 t8 z8 r8 => ?_) (fun s' t' z' hs => kT _ _ _ (rt_of rAo (by omega) hs))
  refine sp_read r8.1.2.1 (re_nb hBo r8) r8.2.2.1.1 (fun s9 hrd9 => ?_)
  obtain ⟨f1, f2, f3, f4, f5, f6, f7, f8⟩ := re_read ro.2.1 r8 hrd9 hM
  have hP9 := f1.2.1
  have m9 := f1.2.2.2.2.2.1
  have hB9 := nb_of hBo f1 (by omega) (by omega) f5
  have hcap9 := nb_cap hB9 hP9
  refine sp_aim (p := wcn s6) (by omega) (by omega) ?_
  have r9 := rl_tr rAo f1
  have rB := rl_aim (p := wcn s6) r9 (by omega)
  have hPB := rB.2.1
  have h0B : 0 ≤ ((aimS s9 (wcn s6)) 0 17).toInt := hPB.2.2.1.2.2.2.2.1
  have z1 : u ∈ z8 := f1.2.2.2.2.2.2.2.2.1 _ (b1.2.2.2.2.2.2.2.2.1 _ r.2.2.1.1)
  have z5' : u5 ∈ z8 := f1.2.2.2.2.2.2.2.2.1 _ r5.2.2.1.1
  have z8' := r8.2.2.1.1
  have ne5 : u5 ≠ u8 := fun e => r8.2.2.1.2 (e ▸ r5.2.2.1.1)
  have ne1 : u ≠ u8 := fun e => r8.2.2.1.2 (e ▸ b1.2.2.2.2.2.2.2.2.1 _ r.2.2.1.1)
  have ne15 : u ≠ u5 := fun e => r5.2.2.1.2 (e ▸ r.2.2.1.1)
  have F5 : (upC t8 u8 1 (0 : Int32)) u5 = upC t5 u5 1 (0 : Int32) u5 := by
    show upF t8 u8 _ u5 = _
    rw [upF_ne ne5]
    exact r8.2.1 u5 r5.2.2.1.1
  have F1 : (upC t8 u8 1 (0 : Int32)) u = upC t u 1 (0 : Int32) u := by
    show upF t8 u8 _ u = _
    rw [upF_ne ne1, r8.2.1 u (b1.2.2.2.2.2.2.2.2.1 _ r.2.2.1.1)]
    show upF t5 u5 _ u = _
    rw [upF_ne ne15]
    exact r5.2.1 u r.2.2.1.1
  -- the values' types
  have zz := hPB.2.2.2.2
  have key : ∀ (y : Int32) (y2 : Int32), (y2.toInt ≠ 0 → (upC t8 u8 1 (0 : Int32) u 0).toInt ≠ -1 ∧ (upC t8 u8 1 (0 : Int32) u5 0).toInt ≠ -1 ∧ (upC t8 u8 1 (0 : Int32) u8 0).toInt ≠ -1) → (y.toInt ≠ 0 → (upC t8 u8 1 (0 : Int32) u5 0).toInt ≠ -1 ∧ (upC t8 u8 1 (0 : Int32) u8 0).toInt ≠ -1) → wp_must y2 (s 0 10) (aimS s9 (wcn s6)) (upC t8 u8 1 (0 : Int32)) z8 (fun s211 t211 z211 => (∃ J238 : Int32 → Prop, (∀ (y1_238 : Int32), J238 y1_238 → (wp_made y1_238 u5 u8 (s 0 10) s211 t211 z211 (fun u243 s243 t243 z243 => (u ∈ z243 ∧ (u243 ∈ z243 ∧ (((t243 u 3) + (1 : Int32)).toInt ≤ (t243 u243 3).toInt → Q u243 s243 t243 z243) ∧ ((t243 u243 3).toInt < ((t243 u 3) + (1 : Int32)).toInt → (((t243 u 3) + (1 : Int32)).toInt ≤ 60 → Q u243 s243 (upC t243 u243 3 ((t243 u 3) + (1 : Int32))) z243) ∧ (60 < ((t243 u 3) + (1 : Int32)).toInt → wp_tell (4 : Int32) (s 0 10) s243 (upC t243 u243 3 ((t243 u 3) + (1 : Int32))) z243 (fun s286 t286 z286 => Q u243 s286 t286 z286)))))))) ∧ (y.toInt = 0 → J238 ((-2) : Int32)) ∧ (y.toInt ≠ 0 → (u5 ∈ z211 ∧ (u8 ∈ z211 ∧ J238 (if (t211 u5 0) < (t211 u8 0) then (t211 u8 0) else (t211 u5 0))))))) := fun y y2 hy2 hy => by
    refine sp_must htk (fun s10 hs hf => ⟨fun ty => ty.toInt ≠ -1, fun ty hty => sp_made z5' z8' hcap9.1 htk (fun q s11 t11 hgt hq hv hs' => ?_), fun _ => by decide, fun c => ⟨z5', z8', ?_⟩⟩)
    rotate_left 1
    · obtain ⟨c1, c2⟩ := hy c
      show (if (upC t8 u8 1 (0 : Int32) u5 0) < (upC t8 u8 1 (0 : Int32) u8 0) then (upC t8 u8 1 (0 : Int32) u8 0) else (upC t8 u8 1 (0 : Int32) u5 0)).toInt ≠ -1
      split
      · exact c2
      · exact c1
    have fin : ∀ s12 t12 hgt2, NV (upC t8 u8 1 (0 : Int32)) q ty hgt2 t12 → TL s11 s12 → Q q s12 t12 (z8 ++ [q]) := fun s12 t12 hgt2 hv2 hs2 => by
      have sq := sq_tr (sq_tl hs) (sq_tr (sq_tl hs') (sq_tl hs2))
      have rC := sq_rl (vs := z8) hPB sq
      have rF := rl_tr rB rC
      have v9 := vnw_nv hv2
      have PF : pos s12 = pos s9 := (show pos s12 = pos (aimS s9 (wcn s6)) from pos_sq sq)
      have IF : (s12 0 39).toInt = (s9 0 39).toInt := by rw [ic_sq sq]; rfl
      have WF : (s12 0 17).toInt = (s9 0 17).toInt := by
        have a1 := sq.2.2.2.1
        have a2 := sq.2.2.2.2
        have a3 : ((aimS s9 (wcn s6)) 0 17).toInt = (s9 0 17).toInt := rfl
        omega
      refine kQ _ _ _ _ ⟨rl_val rF v9, ?_, ⟨by simp, fun c => hq (rB.2.2.2.2.2.2.2.2.1 _ c)⟩, fun c => ?_, by omega, by omega, ?_, ?_⟩
      · have w1 := vfr_tr g2 g1.2.2.2.2.2.2.2.2.1 b2
        have w2 := vfr_tr w1 (fun w hw => b1.2.2.2.2.2.2.2.2.1 _ (g1.2.2.2.2.2.2.2.2.1 _ hw)) f2
        exact vfr_tr w2 rB.2.2.2.2.2.2.2.2.1 (vfr_vnw hq v9)
      · rw [(nv_at hv2).2.1] at c
        exact absurd c (by decide)
      · simp only [List.length_append, List.length_cons, List.length_nil]
        omega
      · rw [ev_nv hv2 hty]
        refine te_if (P := (upC t8 u8 1 (0 : Int32) u 0).toInt ≠ -1 ∧ (upC t8 u8 1 (0 : Int32) u5 0).toInt ≠ -1 ∧ (upC t8 u8 1 (0 : Int32) u8 0).toInt ≠ -1) (fun a1 a2 => hy2 (hf (of0 hs'.2 (of0 hs2.2 a1)) (sil_sq (sq_tr (sq_tl hs') (sq_tl hs2)) a2))) (fun g => ?_)
        have eu : ev (upC t u 1 (0 : Int32)) u = 1 := ev_st (by rw [rdA, if_pos rfl]; rfl) (by rw [← F1]; exact g.1)
        have eu5 : ev (upC t5 u5 1 (0 : Int32)) u5 = 1 := ev_st (by rw [rdA, if_pos rfl]; rfl) (by rw [← F5]; exact g.2.1)
        have eu8 : ev (upC t8 u8 1 (0 : Int32)) u8 = 1 := ev_st (by rw [rdA, if_pos rfl]; rfl) g.2.2
        rw [eu] at g6
        rw [eu5] at b6
        rw [eu8] at f6
        have t1 : TE σ (nxt s2) N 0 1 := te_rl h0 g1 rn g6 (te_nxt h02 rn)
        have h0A : 0 ≤ ((aimS s7 (wcn (nxt s2))) 0 17).toInt := hPA.2.2.1.2.2.2.2.1
        have t5 : TE (aimS s7 (wcn (nxt s2))) s9 M 0 1 := te_rl h0A ro f1 (te_nxt h0A ro) f6
        have tf : TE (nxt s2) (aimS s9 (wcn s6)) N 1 1 := te_fork (Or.inl rfl) (by omega) p4 b1.2.2.1 b1.2.2.2.2.2.1 b6 p7 rfl (rl_tr ro f1).2.2.1 (rl_tr ro f1).2.2.2.2.2.1 t5 rfl (of_tr (of_eq (σ := s6) (s := aimS s7 (wcn (nxt s2))) (p7.1 0 12 rfl rfl)) (rl_tr ro f1).2.2.2.2.1) ((rl_sil (rl_tr ro f1)).trans (p7.1 0 15 rfl rfl)) hN
        have rn9 : RL (nxt s2) z (aimS s9 (wcn s6)) (upC t8 u8 1 (0 : Int32)) z8 := rl_aim (rl_tr (rl_tr rA6 ro) f1) (by omega)
        exact te_rl h0 rB rC (te_rl h0 r3 rn9 t1 tf) (te_sq h0B (sq_tl hs) (sq_tr (sq_tl hs') (sq_tl hs2)) (te_tl h0B hs) (te_sq (sq_wc (sq_tl hs) h0B).1 (sq_tl hs') (sq_tl hs2) (te_tl (sq_wc (sq_tl hs) h0B).1 hs') (te_tl (sq_wc (sq_tr (sq_tl hs) (sq_tl hs')) h0B).1 hs2)))
    refine ⟨by simp [z1], by simp, fun _ => fin _ _ _ hv tl_rf, fun _ => ⟨fun _ => fin _ _ _ (nv_h hv) tl_rf, fun _ => sp_tell (by decide) htk (fun s12 hs2 _ => fin _ _ _ (nv_h hv) hs2)⟩⟩
  refine ⟨z5', z8', fun y => y.toInt ≠ 0 → (upC t8 u8 1 (0 : Int32) u5 0).toInt ≠ -1 ∧ (upC t8 u8 1 (0 : Int32) u8 0).toInt ≠ -1, fun y _ hy => sp_isAny z1 (fun c1 => ⟨fun y2 => y2.toInt ≠ 0 → (upC t8 u8 1 (0 : Int32) u 0).toInt ≠ -1 ∧ (upC t8 u8 1 (0 : Int32) u5 0).toInt ≠ -1 ∧ (upC t8 u8 1 (0 : Int32) u8 0).toInt ≠ -1, fun y2 _ hy2 => key y y2 hy2 hy, ⟨True, fun _ => no0, no1, fun _ => ⟨fun _ => trivial, fun c _ => ⟨by omega, hy c⟩⟩⟩⟩) (fun c1 => ⟨fun y2 => y2.toInt ≠ 0 → (upC t8 u8 1 (0 : Int32) u 0).toInt ≠ -1 ∧ (upC t8 u8 1 (0 : Int32) u5 0).toInt ≠ -1 ∧ (upC t8 u8 1 (0 : Int32) u8 0).toInt ≠ -1, fun y2 _ hy2 => key y y2 hy2 hy, ⟨True, fun _ => no0, fun _ => trivial, no0⟩⟩), ?_⟩
  have zz5 := (zz u5).2.2.2.2.2
  have zz8 := (zz u8).2.2.2.2.2
  have j189 : ∀ {P : Prop}, (P → (0 : Int32).toInt ≠ 0 → (upC t8 u8 1 (0 : Int32) u5 0).toInt ≠ -1 ∧ (upC t8 u8 1 (0 : Int32) u8 0).toInt ≠ -1) := fun _ c => absurd rfl c
  refine ⟨(upC t8 u8 1 (0 : Int32) u5 0).toInt ≠ -1 ∧ (upC t8 u8 1 (0 : Int32) u8 0).toInt ≠ -1, fun c _ => c, ⟨True, fun _ => ?_, fun _ => trivial, fun ce => sp_isAny z5' (fun c => ⟨fun _ => ⟨by omega, by omega⟩, fun _ => trivial⟩) (fun _ => ⟨no0, fun _ => trivial⟩)⟩⟩
  have P2 : wp_isPointer u8 (aimS s9 (wcn s6)) (upC t8 u8 1 (0 : Int32)) z8 (fun v171 => (∃ J189 : Prop, (J189 → ((0 : Int32).toInt ≠ 0 → (upC t8 u8 1 (0 : Int32) u5 0).toInt ≠ -1 ∧ (upC t8 u8 1 (0 : Int32) u8 0).toInt ≠ -1)) ∧ (v171.toInt = 0 → J189) ∧ (v171.toInt ≠ 0 → ((upC t8 u8 1 (0 : Int32) u5 5).toInt = 0 → J189) ∧ ((upC t8 u8 1 (0 : Int32) u5 5).toInt ≠ 0 → (upC t8 u8 1 (0 : Int32) u5 0).toInt ≠ -1 ∧ (upC t8 u8 1 (0 : Int32) u8 0).toInt ≠ -1)))) := sp_isPointer z8' (fun c => ⟨True, fun _ => no0, no1, fun _ => ⟨fun _ => trivial, fun cz => ⟨by have := zz5 cz; omega, by omega⟩⟩⟩) (fun _ => ⟨True, fun _ => no0, fun _ => trivial, no0⟩)
  exact sp_isPointer z5' (fun c => ⟨True, fun _ => P2, no1, fun _ => ⟨fun cz => ⟨by omega, by have := zz8 cz; omega⟩, fun _ => trivial⟩⟩) (fun _ => ⟨True, fun _ => P2, fun _ => trivial, no0⟩)
end CH2
end

section
/-! unary operators, casts -/
section UNA
variable {σ s s' τ t t' : St} {vs z z' : List Nat}
def SNx (σ s : St) : Prop := Kp [(0, 10)] [] σ s ∧ AtOK s ∧ pos σ ≤ pos s
theorem sn_rf (h : AtOK σ) : SNx σ σ := ⟨kp_rf, h, Int.le_refl _⟩
theorem sn_rl (h : PA σ τ) (p : SNx σ s) : RL σ vs s τ vs := by
  obtain ⟨p1, p2, p3⟩ := p
  have h9 := h
  obtain ⟨h1, h2, ⟨n1, n2, n3, n4, n5, n6, n7⟩, ⟨-, -, a3, -⟩, h5⟩ := h9
  have e3 : (s 0 37) = (σ 0 37) := p1 _ _ rfl rfl
  have e4 : (s 0 39) = (σ 0 39) := p1 _ _ rfl rfl
  have e6 : (s 0 17) = (σ 0 17) := p1 _ _ rfl rfl
  have e8 : (s 0 12) = (σ 0 12) := p1 _ _ rfl rfl
  have e5 : (s 21) = (σ 21) := funext (fun j => p1 21 j rfl rfl)
  have k : KE σ s := kp_sub p1 rfl rfl
  refine ⟨k, pa_ke h k p2 (by rw [e3]; exact n4) (by rw [e6]; exact n5) (by rw [e4]; exact n6) (by rw [e5]; exact a3) h5, fun j _ => p1 8 j rfl rfl, mon_of (funext (fun j => p1 14 j rfl rfl)) e5, of_eq e8, by rw [e6]; exact Int.le_refl _, by rw [e4]; exact Int.le_refl _, p3, fun _ h => h, Nat.le_refl _, ie_of (funext (fun j => p1 25 j rfl rfl)) e4 e3⟩
theorem sn_wc (p : SNx σ s) : (s 0 17).toInt = (σ 0 17).toInt ∧ (s 0 39).toInt = (σ 0 39).toInt := ⟨by rw [p.1 0 17 rfl rfl], by rw [p.1 0 39 rfl rfl]⟩
theorem sn_te {N a : Nat} (h : PA σ τ) (p : SNx σ s) : TE σ s N a a := by
  have r := sn_rl (vs := []) h p
  exact te_same h.2.2.1.2.2.2.2.1 (p.1 0 17 rfl rfl) r.2.2.1 (ev_ke r.1 r.2.2.2.1)
theorem sn_tr (h : SNx σ s) (g : SNx s s') : SNx σ s' := ⟨kp_tr h.1 g.1, g.2.1, Int.le_trans h.2.2 g.2.2⟩
theorem sn_nxt (h : PA σ τ) (hk : 2 ≤ kd σ) : SNx σ (nxt σ) ∧ pos σ + 1 ≤ pos (nxt σ) := by
  obtain ⟨g1, g2⟩ := nxt_ok h.1 h.2.1 hk
  exact ⟨⟨nxt_kp, g1, by omega⟩, g2⟩
theorem sp_stars {Q : Int32 → St → St → List Nat → Prop} {T : St → St → List Nat → Prop} (h : PA σ τ) (k : ∀ (r : Int32) s, 0 ≤ r.toInt → r.toInt ≤ 5 → SNx σ s → Q r s τ vs) (kt : ∀ s, RTx σ vs s τ vs → T s τ vs) : wp_stars σ τ vs Q T := by
  have e0 : (0 : Int32).toInt = 0 := by decide
  unfold wp_stars
  refine ⟨fun n x s t z => (n : Int) = 5 - x.toInt ∧ 0 ≤ x.toInt ∧ x.toInt ≤ 5 ∧ τ = t ∧ vs = z ∧ SNx σ s, ⟨5, by omega, by omega, by omega, rfl, rfl, sn_rf h.2.1⟩, ?_⟩
  rintro n x s _ _ ⟨q1, q2, q3, rfl, rfl, hs⟩
  have r := sn_rl (vs := vs) h hs
  refine sp_is r.2.1 (fun hk => ⟨no1, fun _ => ⟨fun c => ?_, fun _ => sp_wrong r.2.1 (fun s' hs' => kt _ (rt_of r (by have := hs.2.2; omega) hs'))⟩⟩) (fun _ => ⟨fun _ => k _ _ q2 q3 hs, no0⟩)
  have hk2 : kd s = 70 := hk
  have e := ad1 (x := x) (by omega)
  exact ⟨n - 1, by omega, by omega, by omega, by omega, rfl, rfl, sn_tr hs (sn_nxt r.2.1 (by omega)).1⟩
theorem up_up {c k : Nat} {a b : Int32} : upC (upC σ c k a) c k b = upC σ c k b := by
  funext q j
  by_cases e : q = c
  · subst e
    rw [rdA, rdA, rdA]
    by_cases e2 : j = k
    · rw [if_pos e2, if_pos e2]
    · rw [if_neg e2, if_neg e2, if_neg e2]
  · rw [rdC, if_neg e, rdC, if_neg e, rdC, if_neg e]
theorem nxt2 : upC σ 0 10 ((σ 0 10) + (2 : Int32)) = nxt (nxt σ) := by
  unfold nxt
  rw [up_up]
  have e : upC σ 0 10 ((σ 0 10) + 1) 0 10 = (σ 0 10) + 1 := rdA_eq rfl
  rw [e, Int32.add_assoc]
  rfl
/-- an operator behind a part -/
theorem re_op {N a u : Nat} {s2 t2 : St} {z2 : List Nat} (h : PA σ τ) (r : RL σ vs s t z) (vf : VFr τ vs t) (te : TE σ s N 0 a) (hw : (s 0 17).toInt + 28 ≤ (σ 0 17).toInt + 40 * (pos s - pos σ)) (hi : (s 0 39).toInt + 6 ≤ (σ 0 39).toInt + 12 * (pos s - pos σ)) (hz : (z.length : Int) + 1 ≤ vs.length + 2 * (pos s - pos σ)) (o : ROx s t z N a 0 u s2 t2 z2) : RE σ τ vs N 0 u s2 t2 z2 := by
  obtain ⟨o1, o2, o3, o4, o5, o6, o7, o8⟩ := o
  have m := o1.2.2.2.2.2.2.2.1
  exact ⟨rl_tr r o1, vfr_tr vf r.2.2.2.2.2.2.2.2.1 o2, ⟨o3.1, fun c => o3.2 (r.2.2.2.2.2.2.2.2.1 _ c)⟩, o4, by omega, by omega, by omega, te_rl h.2.2.1.2.2.2.2.1 r o1 te o8⟩
theorem sp_unary {k1 k2 : KX} {k3 : Int32 → KX} {k4 : Int32 → Nat → Int32 → KX} {k5 k6 k7 : KX} {k8 : Int32 → KX} {d : Int} {M N : Nat} (hd : 1 ≤ d ∧ d ≤ 25) (hU : d + 1 ≤ 25 → SX k5 (d + 1) M) (hB : SX k6 d N) (hM : 1 ≤ M) (hN : M ≤ N) : SX (wp_unary k1 k2 k3 k4 k5 k6 k7 k8) d N := by
  intro a σ τ vs Q T had hP hB1 kQ kT
  unfold wp_unary
  have h0 := hP.2.2.1.2.2.2.2.1
  have htk := at_tok hP.1 hP.2.1
  have hcap := nb_cap hB1 hP
  have pre : (18 ≤ (sg σ).toInt ∧ (sg σ).toInt ≤ 42) → wp_deeper a σ τ vs (fun v54 s54 t54 z54 => k5 v54 (upC s54 0 10 ((s54 0 10) + (1 : Int32))) t54 z54 (fun u72 s72 t72 z72 => ((sg σ).toInt ≠ 33 → (∃ J103 : Prop, (J103 → (wp_stepped u72 (sg σ) (0 : Int32) (σ 0 10) s72 t72 z72 (fun u109 s109 t109 z109 => Q u109 s109 t109 z109))) ∧ ((sg σ).toInt = 18 → J103) ∧ ((sg σ).toInt ≠ 18 → ((sg σ).toInt ≠ 19 → wp_read_1 u72 s72 t72 z72 (fun s116 t116 z116 => ((sg σ).toInt ≠ 38 → wp_one_2 (sg σ) u72 (σ 0 10) s116 t116 z116 (fun u140 s140 t140 z140 => Q u140 s140 t140 z140)) ∧ ((sg σ).toInt = 38 → wp_pointedTo u72 (σ 0 10) s116 t116 z116 (fun u129 s129 t129 z129 => Q u129 s129 t129 z129)))) ∧ ((sg σ).toInt = 19 → J103)))) ∧ ((sg σ).toInt = 33 → wp_pointed u72 (σ 0 10) s72 t72 z72 (fun u87 s87 t87 z87 => Q u87 s87 t87 z87))) T) T := fun hc => by
    have hk := kd_sg hc (by omega) (by omega)
    refine sp_deeper hP (by omega) (fun hd2 ed => ?_) (fun s hs => kT _ _ _ hs)
    obtain ⟨rn, pn, wn, icn⟩ := rl_nxt (vs := vs) hP (by omega)
    have hBn : NB (nxt σ) vs := nb_of hB1 rn (by omega) (by omega) (by omega)
    show k5 _ (nxt σ) τ vs _ T
    refine hU (by omega) _ (nxt σ) τ vs _ T (by omega) rn.2.1 hBn (fun u s t z r => ?_) (fun s' t' z' hs => kT _ _ _ (rt_of rn (by omega) hs))
    have hPs := r.1.2.1
    have hBs := re_nb hBn r
    have hcs := nb_cap hBs hPs
    have r2 := rl_tr rn r.1
    have q1 := r.2.2.2.2.1
    have q2 := r.2.2.2.2.2.1
    have q3 := r.2.2.2.2.2.2.1
    have te1 : TE σ s N 0 (ev t u) := te_rl h0 rn r.1 (te_nxt h0 rn) (te_le r.2.2.2.2.2.2.2 hN)
    have stp : wp_stepped u (sg σ) (0 : Int32) (σ 0 10) s t z (fun u109 s109 t109 z109 => Q u109 s109 t109 z109) := sp_stepped hPs r.2.2.1.1 r.2.2.2.1 (by omega) htk hcs.1 (by omega) (fun w s' t' z' o => kQ _ _ _ _ (re_op hP r2 r.2.1 te1 (by omega) (by omega) (by omega) o))
    refine ⟨fun _ => ⟨True, fun _ => stp, fun _ => trivial, fun _ => ⟨fun _ => ?_, fun _ => trivial⟩⟩, fun _ => sp_pointed hPs r.2.2.1.1 r.2.2.2.1 (by omega) htk hcs.1 (by omega) (fun w s' t' z' o => kQ _ _ _ _ (re_op hP r2 r.2.1 te1 (by omega) (by omega) (by omega) o))⟩
    refine sp_read hPs hBs r.2.2.1.1 (fun s2 hrd => ?_)
    obtain ⟨g1, g2, g3, g4, g5, g6, g7, g8⟩ := re_read rn.2.1 r hrd hM
    have hP2 := g1.2.1
    have hB2 : NB s2 z := nb_of hBn g1 (by omega) (by omega) g5
    have hc2 := nb_cap hB2 hP2
    have r3 := rl_tr rn g1
    have te2 : TE σ s2 N 0 (ev (upC t u 1 (0 : Int32)) u) := te_rl h0 rn g1 (te_nxt h0 rn) (te_le g6 hN)
    have hh : (upC t u 1 (0 : Int32) u 1).toInt = 0 := by rw [rdA, if_pos rfl]; rfl
    exact ⟨fun _ => sp_one_2 hP2 r.2.2.1.1 hh (by omega) htk hc2.1 (by omega) (fun w s' t' z' o => kQ _ _ _ _ (re_op hP r3 g2 te2 (by omega) (by omega) (by omega) o)), fun _ => sp_pointedTo hP2 r.2.2.1.1 hh htk hc2.1 (fun w s' t' z' o => kQ _ _ _ _ (re_op hP r3 g2 te2 (by omega) (by omega) (by omega) o))⟩
  refine sp_sign hP ⟨18 ≤ (sg σ).toInt ∧ (sg σ).toInt ≤ 42, pre, fun c => ⟨by omega, by omega⟩, fun _ => ⟨fun c => ⟨by omega, by omega⟩, fun _ => ⟨fun c => ⟨by omega, by omega⟩, fun _ => ⟨fun c => ⟨by omega, by omega⟩, fun _ => ⟨fun c => ⟨by omega, by omega⟩, fun _ => ⟨fun c => ⟨by omega, by omega⟩, fun _ => ⟨fun _ => ?_, fun c => ⟨by omega, by omega⟩⟩⟩⟩⟩⟩⟩⟩
  refine ⟨True, fun _ => hB a σ τ vs _ T had hP hB1 kQ kT, fun _ => trivial, fun c20 => ?_⟩
  have hk : kd σ = 52 := sg_kd c20 (by omega) (by omega)
  obtain ⟨rn, pn, wn, icn⟩ := rl_nxt (vs := vs) hP (by omega)
  have e1 : ((σ 0 10) + (1 : Int32)).toInt = (σ 0 10).toInt + 1 := ad1 (by omega)
  have an : ((nxt σ) 0 10) = (σ 0 10) + 1 := nxt_at
  have htn := at_tok rn.2.1.1 rn.2.1.2.1
  rw [an] at htn
  refine ⟨htn, fun _ => trivial, fun hint => ?_⟩
  have hk2 : kd (nxt σ) = 5 := by
    unfold kd
    rw [an]
    exact hint
  refine sp_deeper hP (by omega) (fun hd2 ed => ?_) (fun s hs => kT _ _ _ hs)
  rw [nxt2]
  obtain ⟨rm, pm, wm, icm⟩ := rl_nxt (vs := vs) rn.2.1 (by omega)
  have r2 := rl_tr rn rm
  refine sp_stars r2.2.1 (fun ty s3 ty0 ty5 hs3 => ?_) (fun s' hs => kT _ _ _ (rt_of r2 (by omega) hs))
  have rs := sn_rl (vs := vs) r2.2.1 hs3
  have r3 := rl_tr r2 rs
  obtain ⟨ws, is⟩ := sn_wc hs3
  have ps := hs3.2.2
  refine sp_expect r3.2.1 (by decide) (fun hk3 r4' p4 w4 i4 => ?_) (fun s' hs => kT _ _ _ (rt_of r3 (by omega) hs))
  have r4 := rl_tr r3 r4'
  have hB4 : NB (nxt s3) vs := nb_of hB1 r4 (by omega) (by omega) (by omega)
  refine hU (by omega) _ (nxt s3) τ vs _ T (by omega) r4.2.1 hB4 (fun u s t z r => ?_) (fun s' t' z' hs => kT _ _ _ (rt_of r4 (by omega) hs))
  refine sp_read r.1.2.1 (re_nb hB4 r) r.2.2.1.1 (fun s6 hrd => ?_)
  obtain ⟨g1, g2, g3, g4, g5, g6, g7, g8⟩ := re_read r4.2.1 r hrd hM
  have hP6 := g1.2.1
  have hB6 : NB s6 z := nb_of hB4 g1 (by omega) (by omega) g5
  have hc6 := nb_cap hB6 hP6
  have h06 := hP6.2.2.1.2.2.2.2.1
  have hu := r.2.2.1.1
  have r6 := rl_tr r4 g1
  have te4 : TE σ (nxt s3) N 0 0 := te_rl h0 r3 r4' (te_rl h0 r2 rs (te_rl h0 rn rm (te_nxt h0 rn) (te_nxt rn.2.1.2.2.1.2.2.2.2.1 rm)) (sn_te r2.2.1 hs3)) (te_nxt r3.2.1.2.2.1.2.2.2.2.1 r4')
  have te6 := te_rl h0 r4 g1 te4 (te_le g6 hN)
  have key : ∀ y : Int32, (y.toInt ≠ 0 → (upC t u 1 (0 : Int32) u 0).toInt ≠ -1) → wp_must y (σ 0 10) s6 (upC t u 1 (0 : Int32)) z (fun s215 t215 z215 => wp_made ty u u (σ 0 10) s215 t215 z215 (fun u226 s226 t226 z226 => Q u226 s226 t226 z226)) := fun y hy => sp_must htk (fun s7 hs hf => sp_made hu hu hc6.1 htk (fun q s8 t8 hgt hq hv hs' => by
    have sq := sq_tr (sq_tl hs) (sq_tl hs')
    have rC := sq_rl (vs := z) hP6 sq
    have v9 := vnw_nv hv
    have P8 := pos_sq sq
    have I8 : (s8 0 39).toInt = (s6 0 39).toInt := by rw [ic_sq sq]
    have W8 := (sq_wc sq h06).2.1
    have rF := rl_tr r6 rC
    refine kQ _ _ _ _ ⟨rl_val rF v9, vfr_tr g2 r6.2.2.2.2.2.2.2.2.1 (vfr_vnw hq v9), ⟨by simp, fun c => hq (r6.2.2.2.2.2.2.2.2.1 _ c)⟩, fun c => ?_, by omega, by omega, ?_, ?_⟩
    · rw [(nv_at hv).2.1] at c
      exact absurd c (by decide)
    · simp only [List.length_append, List.length_cons, List.length_nil]
      omega
    · rw [ev_nv hv (by omega)]
      refine te_if (P := (upC t u 1 (0 : Int32) u 0).toInt ≠ -1) (fun a1 a2 => hy (hf (of0 hs'.2 a1) (sil_sq (sq_tl hs') a2))) (fun g => ?_)
      have eu : ev (upC t u 1 (0 : Int32)) u = 1 := ev_st (by rw [rdA, if_pos rfl]; rfl) g
      rw [eu] at te6
      exact te_rl h0 r6 rC te6 (te_sq h06 (sq_tl hs) (sq_tl hs') (te_tl h06 hs) (te_tl (sq_wc (sq_tl hs) h06).1 hs'))))
  exact sp_isAny hu (fun c => key 1 (fun _ => by omega)) (fun _ => key 0 no0)
end UNA
end

section
/-! behind: [ ], ++, -- -/
section BEH
variable {σ s s' τ t t' : St} {vs z z' : List Nat}
theorem rd_kd {u : Nat} (h : PA s t) (p : RDx s t u s') : kd s' = kd s ∧ (s' 0 10) = (s 0 10) := by
  obtain ⟨⟨v1, v2⟩, -⟩ := h.2.2.2.2 u
  have key : ∀ ws : List Int32, PU s s' ws → kd s' = kd s ∧ (s' 0 10) = (s 0 10) := fun ws q => by
    have e1 : (s' 0 10) = (s 0 10) := q.1 _ _ rfl rfl
    have e2 : (s' 2) = (s 2) := funext (fun j => q.1 2 j rfl rfl)
    unfold kd
    rw [e1, e2]
    exact ⟨rfl, rfl⟩
  obtain ⟨p0, p1, p2, p3⟩ := p
  rcases (by omega : (t u 1).toInt = 0 ∨ (t u 1).toInt = 1 ∨ (t u 1).toInt = 2 ∨ (t u 1).toInt = 3) with c | c | c | c
  · rw [p0 c]
    exact ⟨rfl, rfl⟩
  · exact key _ (p1 c)
  · obtain ⟨l, q⟩ := p2 c
    exact key _ q
  · obtain ⟨l, q⟩ := p3 c
    exact key _ q
theorem sp_behind {k1 k2 : KX} {k3 : Int32 → KX} {k4 : Int32 → Nat → Int32 → KX} {k5 k6 k7 : KX} {k8 : Int32 → KX} {d : Int} {M N : Nat} (hd : 1 ≤ d ∧ d ≤ 25) (hP7 : SX k7 d N) (hE : d + 1 ≤ 25 → SX k1 (d + 1) M) (hM : 1 ≤ M) (hN : M + 1 ≤ N) : SX (wp_behind k1 k2 k3 k4 k5 k6 k7 k8) d N := by
  intro a σ τ vs Q T had hP hB1 kQ kT
  unfold wp_behind
  have h0 := hP.2.2.1.2.2.2.2.1
  refine hP7 a σ τ vs _ T had hP hB1 (fun u2 s2 t2 z2 r2 => ?_) kT
  refine ⟨fun n x s t z => n = ((σ 0 9).toInt - pos s).toNat ∧ RE σ τ vs N 0 x s t z, ⟨_, rfl, r2⟩, fun n x s t z ⟨hn, r⟩ => ?_⟩
  have hPs := r.1.2.1
  have hBs := re_nb hB1 r
  have hcs := nb_cap hBs hPs
  have h0s := hPs.2.2.1.2.2.2.2.1
  have htk := at_tok hPs.1 hPs.2.1
  have hx := r.2.2.1.1
  have q1 := r.2.2.2.2.1
  have q2 := r.2.2.2.2.2.1
  have q3 := r.2.2.2.2.2.2.1
  have hsz := rl_sz r.1
  have back : ∀ u s' t' z', RE σ τ vs N 0 u s' t' z' → pos s < pos s' → ∃ m, m < n ∧ (m = ((σ 0 9).toInt - pos s').toNat ∧ RE σ τ vs N 0 u s' t' z') := fun u s' t' z' r' hp => by
    have := pos_in r'.1.2.1.1 r'.1.2.1.2.1
    have e := rl_sz r'.1
    exact ⟨_, by omega, rfl, r'⟩
  have main : (kd s = 56 ∨ kd s = 50 ∨ kd s = 51) → wp_is (24 : Int32) s t z (fun v41 => (v41.toInt ≠ 0 → wp_read_1 x s t z (fun s78 t78 z78 => wp_deeper a s78 t78 z78 (fun v83 s83 t83 z83 => k1 v83 (upC s83 0 10 ((s83 0 10) + (1 : Int32))) t83 z83 (fun u101 s101 t101 z101 => wp_read_1 u101 s101 t101 z101 (fun s109 t109 z109 => wp_expect (25 : Int32) s109 t109 z109 (fun s115 t115 z115 => wp_isPointer x s115 t115 z115 (fun v120 => (∃ J139 : Int32 → Prop, (∀ (y1_139 : Int32), y1_139 = 0 ∨ y1_139 = 1 → J139 y1_139 → (wp_must y1_139 (s 0 10) s115 t115 z115 (fun s140 t140 z140 => wp_isPointer x s140 t140 z140 (fun v145 => (∃ J162 : Int32 → Prop, (∀ (y1_162 : Int32), J162 y1_162 → (wp_made y1_162 x u101 (s 0 10) s140 t140 z140 (fun u166 s166 t166 z166 => wp_put_2 (11 : Int32) (36 : Int32) (0 : Int32) s166 t166 z166 (fun s177 t177 z177 => (u166 ∈ z177 ∧ ∃ m, m < n ∧ (m = ((σ 0 9).toInt - pos s177).toNat ∧ RE σ τ vs N 0 u166 s177 (upC (upC t177 u166 1 (3 : Int32)) u166 4 (s 0 10)) z177)))))) ∧ (v145.toInt = 0 → J162 ((-2) : Int32)) ∧ (v145.toInt ≠ 0 → (x ∈ z140 ∧ J162 ((t140 x 0) - (1 : Int32))))))))) ∧ (∃ J138 : Prop, (J138 → (J139 (0 : Int32))) ∧ (v120.toInt = 0 → J138) ∧ (v120.toInt ≠ 0 → wp_isInt u101 s115 t115 z115 (fun v128 => (v128.toInt = 0 → J138) ∧ (v128.toInt ≠ 0 → J139 (1 : Int32)))))))) T)) T) T)) ∧ (v41.toInt = 0 → wp_sign s t z (fun v48 => wp_stepped x v48 (1 : Int32) (s 0 10) (upC s 0 10 ((s 0 10) + (1 : Int32))) t z (fun u69 s69 t69 z69 => ∃ m, m < n ∧ (m = ((σ 0 9).toInt - pos s69).toNat ∧ RE σ τ vs N 0 u69 s69 t69 z69))))) := fun hc => by
    refine sp_is hPs (fun hk => ⟨fun _ => ?_, no1⟩) (fun _ => ⟨no0, fun _ => sp_sign hPs ?_⟩)
    · -- [ ]
      have hk2 : kd s = 56 := hk
      refine sp_read hPs hBs hx (fun s3 hrd => ?_)
      obtain ⟨g1, g2, g3, g4, g5, g6, g7, g8⟩ := re_read hP r hrd (by omega)
      have hP3 := g1.2.1
      have h03 := hP3.2.2.1.2.2.2.2.1
      have hk3 : kd s3 = 56 := by rw [(rd_kd hPs hrd).1]; exact hk2
      refine sp_deeper hP3 (by omega) (fun hd2 ed => ?_) (fun s' hs => kT _ _ _ (rt_of g1 g5 hs))
      obtain ⟨rn, pn, wn, icn⟩ := rl_nxt (vs := z) hP3 (by omega)
      have r4 := rl_tr g1 rn
      have hB4 : NB (nxt s3) z := nb_of hB1 r4 (by omega) (by omega) (by omega)
      show k1 _ (nxt s3) _ z _ T
      refine hE (by omega) _ (nxt s3) _ z _ T (by omega) rn.2.1 hB4 (fun u s5 t5 z5 r5 => ?_) (fun s' t' z' hs => kT _ _ _ (rt_of r4 (by omega) hs))
      refine sp_read r5.1.2.1 (re_nb hB4 r5) r5.2.2.1.1 (fun s6 hrd6 => ?_)
      obtain ⟨b1, b2, b3, b4, b5, b6, b7, b8⟩ := re_read rn.2.1 r5 hrd6 hM
      have hP6 := b1.2.1
      have r6 := rl_tr r4 b1
      have m6 := b1.2.2.2.2.2.2.2.1
      refine sp_expect hP6 (by decide) (fun hk6 r7' p7 w7 i7 => ?_) (fun s' hs => kT _ _ _ (rt_of r6 (by omega) hs))
      have hP7 := r7'.2.1
      have h07 := hP7.2.2.1.2.2.2.2.1
      have r7 := rl_tr r6 r7'
      have hB7 : NB (nxt s6) z5 := nb_of hB1 r7 (by omega) (by omega) (by omega)
      have hc7 := nb_cap hB7 hP7
      have hx5 : x ∈ z5 := b1.2.2.2.2.2.2.2.2.1 _ hx
      have hu5 := r5.2.2.1.1
      have hne : x ≠ u := fun e => r5.2.2.1.2 (e ▸ hx)
      have fx : (upC t5 u 1 (0 : Int32)) x = upC t x 1 (0 : Int32) x := by
        show upF t5 u _ x = _
        rw [upF_ne hne]
        exact r5.2.1 x hx
      have te7 : 0 < (upC t5 u 1 (0 : Int32) x 0).toInt ∧ (upC t5 u 1 (0 : Int32) u 0).toInt = 0 → TE σ (nxt s6) N 0 2 := fun g => by
        have ex : ev (upC t x 1 (0 : Int32)) x = 1 := ev_st (by rw [rdA, if_pos rfl]; rfl) (by rw [← fx]; omega)
        have eu : ev (upC t5 u 1 (0 : Int32)) u = 1 := ev_st (by rw [rdA, if_pos rfl]; rfl) (by omega)
        rw [ex] at g6
        rw [eu] at b6
        have t4 : TE σ (nxt s3) N 0 1 := te_rl h0 g1 rn g6 (te_nxt h03 rn)
        exact te_rl h0 r6 r7' (te_rl h0 r4 b1 t4 (te_up (c := 1) b6 (by omega))) (te_nxt hP6.2.2.1.2.2.2.2.1 r7')
      have key : ∀ y : Int32, (y.toInt ≠ 0 → 0 < (upC t5 u 1 (0 : Int32) x 0).toInt ∧ (upC t5 u 1 (0 : Int32) u 0).toInt = 0) → wp_must y (s 0 10) (nxt s6) (upC t5 u 1 (0 : Int32)) z5 (fun s140 t140 z140 => wp_isPointer x s140 t140 z140 (fun v145 => (∃ J162 : Int32 → Prop, (∀ (y1_162 : Int32), J162 y1_162 → (wp_made y1_162 x u (s 0 10) s140 t140 z140 (fun u166 s166 t166 z166 => wp_put_2 (11 : Int32) (36 : Int32) (0 : Int32) s166 t166 z166 (fun s177 t177 z177 => (u166 ∈ z177 ∧ ∃ m, m < n ∧ (m = ((σ 0 9).toInt - pos s177).toNat ∧ RE σ τ vs N 0 u166 s177 (upC (upC t177 u166 1 (3 : Int32)) u166 4 (s 0 10)) z177)))))) ∧ (v145.toInt = 0 → J162 ((-2) : Int32)) ∧ (v145.toInt ≠ 0 → (x ∈ z140 ∧ J162 ((t140 x 0) - (1 : Int32)))))) ) := fun y hy => by
        refine sp_must htk (fun s8 hs hf => ?_)
        have mk : ∀ ty : Int32, ty.toInt ≠ -1 → wp_made ty x u (s 0 10) s8 (upC t5 u 1 (0 : Int32)) z5 (fun u166 s166 t166 z166 => wp_put_2 (11 : Int32) (36 : Int32) (0 : Int32) s166 t166 z166 (fun s177 t177 z177 => (u166 ∈ z177 ∧ ∃ m, m < n ∧ (m = ((σ 0 9).toInt - pos s177).toNat ∧ RE σ τ vs N 0 u166 s177 (upC (upC t177 u166 1 (3 : Int32)) u166 4 (s 0 10)) z177)))) := fun ty hty => by
          refine sp_made hx5 hu5 hc7.1 htk (fun q s9 t9 hgt hq hv hs' => ?_)
          have sq := sq_tr (sq_tl hs) (sq_tl hs')
          have w9 := sq_wc sq h07
          refine sp_put_2 w9.1 (by omega) (fun s10 p10 => ⟨by simp, ?_⟩)
          have sq10 := sq_tr sq (sq_pu p10)
          have rC := sq_rl (vs := z5) hP7 sq10
          have rF := rl_tr r7 rC
          have et : (t9 q 0).toInt = ty.toInt := by rw [(nv_at hv).1]
          have v9 := vnw_how (hw := 3) (vnw_nv hv) (by decide) htk (by rw [et]; exact hty)
          have P10 := pos_sq sq10
          have I10 : (s10 0 39).toInt = ((nxt s6) 0 39).toInt := by rw [ic_sq sq10]
          have W10 := (sq_wc sq10 h07).2.1
          simp only [List.length_cons, List.length_nil] at W10
          refine back _ _ _ _ ⟨rl_val rF v9, vfr_tr (vfr_tr g2 g1.2.2.2.2.2.2.2.2.1 b2) r7.2.2.2.2.2.2.2.2.1 (vfr_vnw hq v9), ⟨by simp, fun c => hq (r7.2.2.2.2.2.2.2.2.1 _ c)⟩, fun c => ?_, by omega, by omega, ?_, ?_⟩ (by omega)
          · simp only [rdA, Nat.reduceEqDiff, if_true, if_false] at c
            exact absurd c (by decide)
          · simp only [List.length_append, List.length_cons, List.length_nil]
            omega
          · have e9 : ev (upC (upC t9 q 1 (3 : Int32)) q 4 (s 0 10)) q = 1 := by
              refine ev_1 (Or.inr ?_) ?_
              · simp only [rdA, Nat.reduceEqDiff, if_true, if_false]; rfl
              · simp only [rdA, Nat.reduceEqDiff, if_true, if_false]
                rw [et]; exact hty
            rw [e9]
            refine te_if (fun a1 a2 => hy (hf (of0 hs'.2 (of0 (sq_pu p10).2.1 a1)) (sil_sq (sq_tr (sq_tl hs') (sq_pu p10)) a2))) (fun g => ?_)
            refine te_rl h0 r7 rC (te7 g) (te_sq h07 sq (sq_pu p10) (te_sq h07 (sq_tl hs) (sq_tl hs') (te_tl h07 hs) (te_tl (sq_wc (sq_tl hs) h07).1 hs')) (te_put (n := 3) w9.1 p10 rfl (by decide) rfl (k := 11) rfl (fun g' H L x hH hn hx => ⟨by omega, ?_⟩) (by omega)))
            have e9 : H + 2 - 1 = H + 1 := by omega
            rw [e9]; exact hn
        refine sp_isPointer hx5 (fun c => ⟨fun ty => ty.toInt ≠ -1, mk, no1, fun _ => ⟨hx5, ?_⟩⟩) (fun _ => ⟨fun ty => ty.toInt ≠ -1, mk, fun _ => by decide, no0⟩)
        have e := sb1 (x := upC t5 u 1 (0 : Int32) x 0) (by omega)
        show (upC t5 u 1 (0 : Int32) x 0 - (1 : Int32)).toInt ≠ -1
        omega
      refine sp_isPointer hx5 (fun c => ⟨fun y => y.toInt ≠ 0 → 0 < (upC t5 u 1 (0 : Int32) x 0).toInt ∧ (upC t5 u 1 (0 : Int32) u 0).toInt = 0, fun y _ hy => key y hy, ⟨True, fun _ => no0, no1, fun _ => sp_isInt hu5 (fun c2 => ⟨no1, fun _ _ => ⟨c, c2⟩⟩) (fun _ => ⟨fun _ => trivial, no0⟩)⟩⟩) (fun c => ⟨fun y => y.toInt ≠ 0 → 0 < (upC t5 u 1 (0 : Int32) x 0).toInt ∧ (upC t5 u 1 (0 : Int32) u 0).toInt = 0, fun y _ hy => key y hy, ⟨True, fun _ => no0, fun _ => trivial, no0⟩⟩)
    · -- ++, --
      obtain ⟨rn, pn, wn, icn⟩ := rl_nxt (vs := z) hPs (by omega)
      have rA := rl_tr r.1 rn
      refine sp_stepped (σ := nxt s) (N := N) rn.2.1 hx r.2.2.2.1 (by show ((nxt s) 0 17).toInt ≤ 499000; omega) htk hcs.1 (by omega) (fun w s' t' z' o => ?_)
      refine back _ _ _ _ (re_op hP rA r.2.1 (te_rl h0 r.1 rn r.2.2.2.2.2.2.2 (te_nxt h0s rn)) (by omega) (by omega) (by omega) o) ?_
      have := o.1.2.2.2.2.2.2.2.1
      omega
  refine sp_is hPs (fun hk => ⟨_, main, fun _ => Or.inl hk, no1⟩) (fun h56 => ⟨_, main, no0, fun _ => sp_is hPs (fun hk => ⟨fun _ => Or.inr (Or.inl hk), no1⟩) (fun h50 => ⟨no0, fun _ => sp_is hPs (fun hk => ⟨no1, fun _ => Or.inr (Or.inr hk)⟩) (fun h51 => ⟨fun _ => kQ _ _ _ _ r, no0⟩)⟩)⟩)
end BEH
end

section
/-! primary -/
def SXc (K : Int32 → KX) (d : Int) (N : Nat) : Prop := ∀ (tk a : Int32) (σ τ : St) (vs : List Nat) (Q : Nat → St → St → List Nat → Prop) (T : St → St → List Nat → Prop), a.toInt = d → PA σ τ → NB σ vs → (0 ≤ tk.toInt ∧ tk.toInt < 16002) → kd σ = 52 → (∀ u s t z, RE σ τ vs N 0 u s t z → Q u s t z) → (∀ s t z, RTx σ vs s t z → T s t z) → K tk a σ τ vs Q T
section PRI
variable {σ s s' τ t t' : St} {vs z z' : List Nat}
theorem nxt_str (h : TK σ) (ha : AtOK σ) (hk : kd σ = 4) : pos σ + ((σ 6) (σ 0 10).toNatClampNeg).toInt + 2 ≤ pos (nxt σ) := by
  have hn := nt ha.1
  obtain ⟨h1, h2, h3, h4, h5, h6, h7, h8⟩ := h
  have h9 := ha.2
  have hk' : ((σ 2) (σ 0 10).toNatClampNeg).toInt = 4 := hk
  obtain ⟨g1, g2, g3, g4⟩ := h8 (σ 0 10).toNatClampNeg (by omega) (by omega)
  have g5 := (g4 hk').2.2
  have e1 : ((nxt σ) 0 10).toInt = (σ 0 10).toInt + 1 := by rw [nxt_at, ad1 (by omega)]
  have e2 : ((nxt σ) 0 10).toNatClampNeg = (σ 0 10).toNatClampNeg + 1 := by rw [nt', e1]; omega
  unfold pos
  rw [e2]
  have e4 : ((nxt σ) 3) = (σ 3) := rfl
  rw [e4]
  omega
theorem re_opc {N a u : Nat} {c : Int} {s2 t2 : St} {z2 : List Nat} (h : PA σ τ) (r : RL σ vs s t z) (vf : VFr τ vs t) (te : TE σ s N 0 a) (hw : (s 0 17).toInt + 28 ≤ (σ 0 17).toInt + 40 * (pos s - pos σ)) (hi : (s 0 39).toInt + 6 + c ≤ (σ 0 39).toInt + 12 * (pos s - pos σ)) (hz : (z.length : Int) + 1 ≤ vs.length + 2 * (pos s - pos σ)) (o : ROx s t z N a c u s2 t2 z2) : RE σ τ vs N 0 u s2 t2 z2 := by
  obtain ⟨o1, o2, o3, o4, o5, o6, o7, o8⟩ := o
  have m := o1.2.2.2.2.2.2.2.1
  exact ⟨rl_tr r o1, vfr_tr vf r.2.2.2.2.2.2.2.2.1 o2, ⟨o3.1, fun c => o3.2 (r.2.2.2.2.2.2.2.2.1 _ c)⟩, o4, by omega, by omega, by omega, te_rl h.2.2.1.2.2.2.2.1 r o1 te o8⟩
theorem sp_primary {k1 k2 : KX} {k3 : Int32 → KX} {k4 : Int32 → Nat → Int32 → KX} {k5 k6 k7 : KX} {k8 : Int32 → KX} {d : Int} {M N : Nat} (hd : 1 ≤ d ∧ d ≤ 25) (hE : d + 1 ≤ 25 → SX k1 (d + 1) M) (hC : SXc k8 d N) (hM : 1 ≤ M) (hN : M ≤ N) : SX (wp_primary k1 k2 k3 k4 k5 k6 k7 k8) d N := by
  intro a σ τ vs Q T had hP hB1 kQ kT
  unfold wp_primary
  have h0 := hP.2.2.1.2.2.2.2.1
  have htk := at_tok hP.1 hP.2.1
  have hAt := hP.2.1
  have hcap := nb_cap hB1 hP
  refine ⟨htk, fun n3 => ⟨htk, fun n4 => ⟨htk, fun n2 => ?_, fun e2 => ?_⟩, fun e4 => ?_⟩, fun e3 => ⟨htk, ?_⟩⟩
  · -- ( expression )
    refine sp_is hP (fun hk => ⟨fun _ => ?_, no1⟩) (fun _ => ⟨no0, fun _ => sp_wrong hP (fun s hs => kT _ _ _ hs)⟩)
    have hk2 : kd σ = 52 := hk
    refine sp_deeper hP (by omega) (fun hd2 ed => ?_) (fun s hs => kT _ _ _ hs)
    obtain ⟨rn, pn, wn, icn⟩ := rl_nxt (vs := vs) hP (by omega)
    have hBn : NB (nxt σ) vs := nb_of hB1 rn (by omega) (by omega) (by omega)
    show k1 _ (nxt σ) τ vs _ T
    refine hE (by omega) _ (nxt σ) τ vs _ T (by omega) rn.2.1 hBn (fun u s t z r => ?_) (fun s' t' z' hs => kT _ _ _ (rt_of rn (by omega) hs))
    have r2 := rl_tr rn r.1
    have q1 := r.2.2.2.2.1
    have q2 := r.2.2.2.2.2.1
    have q3 := r.2.2.2.2.2.2.1
    refine sp_expect r.1.2.1 (by decide) (fun hk3 r4' p4 w4 i4 => ?_) (fun s' hs => kT _ _ _ (rt_of r2 (by omega) hs))
    exact kQ _ _ _ _ ⟨rl_tr r2 r4', r.2.1, r.2.2.1, r.2.2.2.1, by omega, by omega, by omega, te_rl h0 r2 r4' (te_rl h0 rn r.1 (te_nxt h0 rn) (te_le r.2.2.2.2.2.2.2 hN)) (te_nxt r.1.2.1.2.2.1.2.2.2.2.1 r4')⟩
  · -- a name
    have hk : kd σ = 2 := e2
    obtain ⟨rn, pn, wn, icn⟩ := rl_nxt (vs := vs) hP (by omega)
    have hBn : NB (nxt σ) vs := nb_of hB1 rn (by omega) (by omega) (by omega)
    refine sp_is (σ := nxt σ) rn.2.1 (fun hk2 => ⟨no1, fun _ => ?_⟩) (fun _ => ⟨fun _ => ?_, no0⟩)
    · refine hC _ a (nxt σ) τ vs _ T had rn.2.1 hBn htk hk2 (fun u s t z r => ?_) (fun s' t' z' hs => kT _ _ _ (rt_of rn (by omega) hs))
      have q1 := r.2.2.2.2.1
      have q2 := r.2.2.2.2.2.1
      have q3 := r.2.2.2.2.2.2.1
      exact kQ _ _ _ _ ⟨rl_tr rn r.1, r.2.1, r.2.2.1, r.2.2.2.1, by omega, by omega, by omega, te_rl h0 rn r.1 (te_nxt h0 rn) r.2.2.2.2.2.2.2⟩
    · exact sp_named (σ := nxt σ) (N := N) rn.2.1 hAt (by show ((nxt σ) 0 17).toInt ≤ 499000; omega) hcap.1 (by omega) (fun u s t z o => kQ _ _ _ _ (re_op hP rn (fun _ _ => rfl) (te_nxt h0 rn) (by omega) (by omega) (by omega) o))
  · -- a text
    have hk : kd σ = 4 := e4
    obtain ⟨rn, pn, wn, icn⟩ := rl_nxt (vs := vs) hP (by omega)
    have ps := nxt_str hP.1 hP.2.1 hk
    have hv := STR_ok hP.1 hAt e4
    exact sp_text (σ := nxt σ) (N := N) rn.2.1 hAt e4 (by show ((nxt σ) 0 17).toInt ≤ 499000; omega) (by show ((nxt σ) 0 39).toInt ≤ 180000; omega) hcap.1 (by omega) (fun u s t z o => kQ _ _ _ _ (re_opc hP rn (fun _ _ => rfl) (te_nxt h0 rn) (by omega) (by show ((nxt σ) 0 39).toInt + 6 + 3 * ((σ 6) (σ 0 10).toNatClampNeg).toInt ≤ _; omega) (by omega) o))
  · -- a number
    have hk : kd σ = 3 := e3
    obtain ⟨rn, pn, wn, icn⟩ := rl_nxt (vs := vs) hP (by omega)
    have h0n := rn.2.1.2.2.1.2.2.2.2.1
    show wp_put_1 (0 : Int32) _ (nxt σ) τ vs _
    refine sp_put_1 h0n (by omega) (fun s2 p2 => ⟨hcap.1, fun q hq => sp_Vinit (fun t2 ht2 => ⟨htk, by simp, sp_Vconstant (by simp) ⟨htk, fun _ => ⟨by simp, ?_⟩, fun _ => ⟨by simp, ?_⟩⟩⟩)⟩)
    all_goals
      have sq := sq_pu p2
      have rC := sq_rl (vs := vs) rn.2.1 sq
      have v3 := vnw_const (v := (s2 6) (σ 0 10).toNatClampNeg) (vnw_nv ht2)
      have hh : upC (upC t2 q 6 (1 : Int32)) q 7 ((s2 6) (σ 0 10).toNatClampNeg) q 1 = 0 := by rw [how_const]; exact (nv_at ht2).2.1
      have ht : upC (upC t2 q 6 (1 : Int32)) q 7 ((s2 6) (σ 0 10).toNatClampNeg) q 0 = 0 := by
        simp only [rdA, Nat.reduceEqDiff, if_true, if_false]
        exact (nv_at ht2).1
      have fk : ∀ w : Int32, FOK (upC (upC (upC t2 q 6 (1 : Int32)) q 7 ((s2 6) (σ 0 10).toNatClampNeg)) q 5 w) q := fun w => by
        have h9 := v3.2
        unfold FOK at *
        simp only [rdA, Nat.reduceEqDiff, if_true, if_false] at h9 ⊢
        exact ⟨h9.1, h9.2.1, h9.2.2.1, h9.2.2.2.1, h9.2.2.2.2.1, fun _ => by rw [(nv_at ht2).1]; rfl⟩
      refine kQ _ _ _ _ (re_op hP rn (fun _ _ => rfl) (te_nxt h0 rn) (by omega) (by omega) (by omega) (rox_new rC hq (vnw_up v3 (fk _)) (fun c => ?_) (by have := p2.2.1; simp only [List.length_cons, List.length_nil] at this; omega) (by rw [ic_sq sq]; omega) ?_))
      · rw [rdA, if_neg (by decide), hh] at c
        exact absurd c (by decide)
      · rw [ev_1 (Or.inl (by rw [rdA, if_neg (by decide), hh]; rfl)) (by rw [rdA, if_neg (by decide), ht]; decide)]
        exact te_put (n := 2) h0n p2 rfl (by decide) rfl (k := 0) rfl (fun g' H L x hH hn hx => hn) (by omega)
end PRI
end

