section
/-! the walk: a size is told, a local is declared -/
def FAi (a b : St) : Prop := Kp [(6, 3), (6, 4)] [] a b ∧ ((b 6 3).toInt = 0 → (a 6 3).toInt = 0)
section DLO
variable {σ s z t ρ : St} {g g' g1 : Gh} {X X0 Y : Nat → Prop} {b e e0 e' h h' H H0 H' L L' m n N N' Nb c d p tt j i F F' k B : Nat} {K K2 M E G D : List Nat} {A : List It} {x y v a op a1 a2 a3 : Int32}
theorem fa_rf : FAi σ σ := ⟨kp_rf, id⟩
theorem fa_tr (h : FAi σ s) (q : FAi s t) : FAi σ t := ⟨kp_tr h.1 q.1, fun c => h.2 (q.2 c)⟩
theorem fa_fail {Q : St → Prop} (hx : x.toInt ≠ 0) (k : ∀ s, FAi σ s → (s 6 3).toInt ≠ 0 → Q s) : wk_X11_fail x y σ Q := sp_ufail hx (fun s ks fs => k s ⟨ks, fun c => absurd c fs⟩ fs)
theorem fa_l (h : FAi σ s) : KLx σ s := ko_sub (ko_kp h.1) (by decide) (by decide)
theorem sp_checkSquare {Q : St → Prop} (k : ∀ s, FAi σ s → Q s) : wk_X1_checkSquare x σ Q := by
  unfold wk_X1_checkSquare
  refine ⟨FAi σ, fun s hs => ⟨fun _ => k s hs, fun _ => ⟨fun _ => k s hs, fun _ => fa_fail (by decide) (fun t ht _ => k t (fa_tr hs ht))⟩⟩, fun _ => fa_rf, fun _ => ⟨True, fun _ => fa_fail (by decide) (fun t ht _ => ht), fun _ => ⟨fun _ => fa_rf, fun _ => trivial⟩, fun _ => ⟨fun _ => fa_rf, fun _ => trivial⟩⟩⟩
theorem sp_declLocal {Q : St → Prop} (hl : 0 ≤ (σ 6 10).toInt ∧ (σ 6 10).toInt < 100) (hs : 0 ≤ (σ 6 15).toInt ∧ (σ 6 15).toInt ≤ 200) (k : ∀ s, Kp [(6, 10), (6, 15)] [40, 41, 42, 43, 44] σ s → (s 6 10).toInt = (σ 6 10).toInt + 1 → (s 6 15).toInt = (σ 6 15).toInt + 1 → (∀ j : Nat, (s 42) j = if (j : Int) = (σ 6 10).toInt then a3 else (σ 42) j) → Q s) : wk_X11_declareLocal a1 a2 a3 σ Q := by
  have en := nt hl.1
  obtain ⟨l, el⟩ : ∃ l : Nat, (σ 6 10).toInt = l := ⟨_, en.symm⟩
  unfold wk_X11_declareLocal
  refine ⟨fun _ => True, fun y2 _ _ => ?_, fun _ => trivial, fun _ => trivial⟩
  refine k _ (kp_f (kp_f (kp_F (kp_F (kp_F (kp_F (kp_F kp_rf rfl) rfl) rfl) rfl) rfl) rfl) rfl) ?_ ?_ (fun j => ?_)
  · rw [rdA_ne (by decide), rdA_eq rfl]
    show ((σ 6 10) + (1 : Int32)).toInt = _
    exact ad0 i1 (by omega) (by omega)
  · rw [rdA_eq rfl]
    show ((σ 6 15) + (1 : Int32)).toInt = _
    exact ad0 i1 (by omega) (by omega)
  · rw [rdC_ne (by decide), rdC_ne (by decide), rdF_ne (by decide), rdF_ne (by decide), rdF_eq]
    show setv 100 (σ 42) (σ 6 10) a3 j = _
    rw [setv_at el (by omega), el]
    show (if j = l then a3 else σ 42 j) = _
    by_cases c : j = l
    · rw [if_pos c, if_pos (by omega)]
    · rw [if_neg c, if_neg (by omega)]
theorem se_e0 (h : SE σ g b K X H0 e0 []) : e0 = clen σ := by
  obtain ⟨⟨h1, h2, h3, Hh, Xh, h4⟩, -⟩ := h
  obtain ⟨e, -⟩ := h4
  exact e.symm
theorem ws_D (q : Kp [(8, 6), (8, 7), (8, 8)] [] σ s) (h : WSx ρ σ F K [] Nb b e0 H0 g X) : WSx ρ s F K [] Nb b e0 H0 g X := by
  obtain ⟨n, h2, h3, h4, h5, h6, h7, h8⟩ := h
  have ql : KLx σ s := ko_sub (ko_kp q) (by decide) (by decide)
  have e4 : (s 4 1) = (σ 4 1) := q 4 1 rfl rfl
  have ecl : clen s = clen σ := by unfold clen; rw [e4]
  have w : (s 24) = (σ 24) := funext (fun j => q 24 j rfl rfl)
  have sb := sb_nil h2
  have sb' : SB s g b K X H0 := sh_keep (B := H0 + 420) e4 (q 7 7 rfl rfl) (kl_open ql) w (kl_rows ql) (kl_cp ql) sb
  have ee := se_e0 h2
  refine ⟨n, by rw [ee, ← ecl]; exact se_nil sb', kl_uf ql (fun j _ => by rw [w]) h3, h4, h5, fun c => by rw [show s 6 6 = σ 6 6 from q 6 6 rfl rfl]; exact h6 c, fun c => ⟨?_, fun z => by rw [show s 8 16 = σ 8 16 from q 8 16 rfl rfl]; exact (h7 c).2 z⟩, fun c => by rw [show s 8 9 = σ 8 9 from q 8 9 rfl rfl]; exact h8 c⟩
  have f := (h7 c).1
  have f' := f
  obtain ⟨d, -, -, -, -, -, -, -, -, a9, b1, -, -, b4, b5⟩ := f'
  have r4 : (s 6 10) = (σ 6 10) := q 6 10 rfl rfl
  have r5 : (s 6 15) = (σ 6 15) := q 6 15 rfl rfl
  exact kl_fn ql rfl b5 (by rw [r4]; exact a9.2) (by rw [r4]; omega) (by rw [r4, r5]; exact b1) (fun j hj => by rw [show (s 42) j = (σ 42) j from q 42 j rfl rfl]; exact b4 j (by rw [← r4]; exact hj)) f
theorem wk_D (q : Kp [(8, 6), (8, 7), (8, 8)] [] σ s) (h : WKs ρ σ) : WKs ρ s := by
  have ql : KLx σ s := ko_sub (ko_kp q) (by decide) (by decide)
  have e4 : (s 4 1) = (σ 4 1) := q 4 1 rfl rfl
  have ecl : clen s = clen σ := by unfold clen; rw [e4]
  exact kl_wk h ql (by rw [show s 6 15 = σ 6 15 from q 6 15 rfl rfl]; exact h.2.1.2.2.2.1) (fun j _ => q 24 j rfl rfl) (by rw [ecl]; exact h.2.2.1.2.2.2) (by rw [e4]; exact h.2.2.2.1)
/-- a local: its declaration and its first value -/
theorem sd_local {Q : St → Prop} (wk : WKs ρ σ) (h : WSx ρ σ 1 K [] Nb b e0 0 g X) (hx : (σ 8 12).toInt ≤ 4000) (cap : (σ 4 1).toInt ≤ 262150) (k : ∀ s, KLx σ s → WKs ρ s → ((s 8 9) = (σ 8 9) ∧ (s 8 16) = (σ 8 16)) → ((s 6 3).toInt = 0 → FNi s 1 K Nb b ∧ UFx s Nb ∧ ∃ g', SB s g' b K X 0 ∧ clen s ≤ clen σ + 5) → Q s) : wk_X1_local a1 a2 σ Q := by
  obtain ⟨⟨n1, n2, n3⟩, h2, h3, h4, h5, h6, h7, h8⟩ := h
  have fn := (h7 (Nat.le_refl _)).1
  have fn' := fn
  obtain ⟨d, -, -, -, -, -, -, -, -, a9, b1, b2, b3, b4, b5⟩ := fn'
  have ee := se_e0 h2
  have sb : SHx σ g b K X 0 420 := sb_nil h2
  have h0 := sb.2.2.2.1
  have c0 := clen_eq h0
  have bb := sb.1.1
  have st0 : 0 ≤ (atv 52 (σ 45) ((σ 6 17) - (1 : Int32))).toInt := by
    rcases atv_cases 52 (σ 45) ((σ 6 17) - (1 : Int32)) with ⟨q1, q2⟩ | ⟨j, q1, q2, q3⟩
    · rw [q1, i0]
      exact Int.le_refl _
    · rw [q3]
      refine (b3 j q2 ?_).1
      have r := s_rng (σ 6 17)
      have := sbc (x := σ 6 17) i1 (by omega) (by omega)
      omega
  unfold wk_X1_local wk_X11_scopeStart
  show wk_X11_localFrom (atv 52 (σ 45) ((σ 6 17) - (1 : Int32))) a1 σ _
  refine sp_localFrom wk.2.1.1 wk.2.1.2.2.2.1 st0 (fun v12 => ?_)
  refine ⟨FAi σ, fun s27 f27 => ?_, fun _ => fa_rf, fun _ => fa_fail (by decide) (fun s fs _ => fs)⟩
  refine ⟨fun s => FAi σ s ∧ ((s 6 3).toInt = 0 → (σ 6 10).toInt < 100), fun s48 f48 => ?_, fun c => ⟨f27, fun _ => by rw [← show s27 6 10 = σ 6 10 from f27.1 6 10 rfl rfl]; exact c⟩, fun _ => fa_fail (by decide) (fun s fs fz => ⟨fa_tr f27 fs, fun z => absurd z fz⟩)⟩
  refine sp_checkSquare (fun s50 fa => ?_)
  have f50 := fa_tr f48.1 fa
  have q50 := f50.1
  have ql50 := fa_l f50
  have e4 : (s50 4 1) = (σ 4 1) := q50 4 1 rfl rfl
  have ecl : clen s50 = clen σ := by unfold clen; rw [e4]
  have w50 : (s50 24) = (σ 24) := funext (fun j => q50 24 j rfl rfl)
  refine ⟨fun hf => ?_, fun hf => k s50 ql50 (kl_wk wk ql50 (by rw [show s50 6 15 = σ 6 15 from q50 6 15 rfl rfl]; exact wk.2.1.2.2.2.1) (fun j _ => by rw [w50]) (by rw [ecl]; exact wk.2.2.1.2.2.2) (by rw [e4]; exact h0)) ⟨q50 8 9 rfl rfl, q50 8 16 rfl rfl⟩ (fun z => absurd z hf)⟩
  have l100 := f48.2 (fa.2 hf)
  generalize hu : upC s50 8 10 (s50 6 10) = u
  have ku : Kp [(8, 10)] [] s50 u := by rw [← hu]; exact kp_f kp_rf rfl
  have u10 : (u 6 10) = (σ 6 10) := (ku 6 10 rfl rfl).trans (q50 6 10 rfl rfl)
  have u15 : (u 6 15) = (σ 6 15) := (ku 6 15 rfl rfl).trans (q50 6 15 rfl rfl)
  rw [show s50 8 12 = σ 8 12 from q50 8 12 rfl rfl]
  refine sp_declLocal (by rw [u10]; omega) (by rw [u15]; omega) (fun t kt l1 l2 l3 => ?_)
  rw [u10] at l1 l3
  rw [u15] at l2
  have qt : KLx σ t := ko_tr ql50 (ko_tr (ko_sub (ko_kp ku) (by decide) (by decide)) (ko_sub (ko_kp kt) (by decide) (by decide)))
  have t4 : (t 4 1) = (σ 4 1) := (kt 4 1 rfl rfl).trans ((ku 4 1 rfl rfl).trans e4)
  have ecl2 : clen t = clen σ := by unfold clen; rw [t4]
  have wt : (t 24) = (σ 24) := funext (fun j => (kt 24 j rfl rfl).trans ((ku 24 j rfl rfl).trans (q50 24 j rfl rfl)))
  have t7 : (t 7 7) = (σ 7 7) := (kt 7 7 rfl rfl).trans ((ku 7 7 rfl rfl).trans (q50 7 7 rfl rfl))
  have t9 : (t 8 9) = (σ 8 9) := (kt 8 9 rfl rfl).trans ((ku 8 9 rfl rfl).trans (q50 8 9 rfl rfl))
  have t16 : (t 8 16) = (σ 8 16) := (kt 8 16 rfl rfl).trans ((ku 8 16 rfl rfl).trans (q50 8 16 rfl rfl))
  have t12 : (t 8 12) = (σ 8 12) := (kt 8 12 rfl rfl).trans ((ku 8 12 rfl rfl).trans (q50 8 12 rfl rfl))
  have sbt : SHx t g b K X 0 420 := sh_keep t4 t7 (kl_open qt) wt (kl_rows qt) (kl_cp qt) sb
  have h0t : 0 ≤ (t 4 1).toInt := by rw [t4]; exact h0
  -- what follows keeps all this
  have fin : ∀ z g', KLx t z → (∀ j, j ≠ 4 → j ≠ 24 → z j = t j) → (∀ j, j < clen t → (z 24) j = (t 24) j) → SHx z g' b K X 0 420 → clen z ≤ clen t + 5 → Q z := fun z g' kz zr wz shz hl => by
    have qz := ko_tr qt kz
    have z10 : z 6 10 = t 6 10 := by rw [zr 6 (by decide) (by decide)]
    have z15 : z 6 15 = t 6 15 := by rw [zr 6 (by decide) (by decide)]
    have z42 : z 42 = t 42 := zr 42 (by decide) (by decide)
    have zb := shz.1.1
    have wσ : ∀ j, j < clen σ → (z 24) j = (σ 24) j := fun j hj => (wz j (by omega)).trans (by rw [wt])
    refine k z qz (kl_wk wk qz (by rw [z15, l2]; omega) (fun j hj => wσ j (by omega)) (by omega) shz.2.2.2.1) ⟨by rw [zr 8 (by decide) (by decide)]; exact t9, by rw [zr 8 (by decide) (by decide)]; exact t16⟩ (fun _ => ⟨kl_fn qz rfl b5 (by rw [z10, l1]; omega) (by rw [z10, l1]; omega) (by rw [z10, z15, l1, l2]; omega) (fun j hj => ?_) fn, kl_uf qz (fun j hj => wσ j (by omega)) h3, g', sh_sb shz (Nat.le_refl _), by omega⟩)
    rw [z42, l3 j]
    rw [z10, l1] at hj
    by_cases c : (j : Int) = (σ 6 10).toInt
    · rw [if_pos c]
      exact hx
    · rw [if_neg c, show u 42 j = σ 42 j from (ku 42 j rfl rfl).trans (q50 42 j rfl rfl)]
      exact b4 j (by omega)
  have emr : ∀ {σ' s' : St} {o a b c : Int32}, EMi σ' s' o a b c → ∀ j, j ≠ 4 → j ≠ 24 → s' j = σ' j := fun em j j4 j24 => funext (fun q => em_cells em j q j4 j24)
  refine ⟨fun _ => ?_, fun _ => ?_⟩
  · refine sk_emit (n := 15) rfl (by decide) h0t (by rw [t4]; omega) (fun v z _ em => ?_)
    obtain ⟨g2, ag, sh⟩ := sh_emit sbt em (k := 15) (h' := 0) rfl ⟨by decide, by decide⟩ (by decide) (by decide) (by decide)
    have ec := em_clen em (n := 15) rfl h0t
    have l2' : ln 15 = 3 := rfl
    exact fin z g2 (em_l em) (emr em) em.2.2.1 sh (by omega)
  · refine sk_emit (n := 1) rfl (by decide) h0t (by rw [t4]; omega) (fun v s1 _ em1 => ?_)
    obtain ⟨g1, ag1, sh1⟩ := sh_emit sbt em1 (k := 1) (h' := 1) rfl ⟨by decide, by decide⟩ (by decide) (by decide) (by decide)
    have ec1 := em_clen em1 (n := 1) rfl h0t
    have el1 := em_len em1 (m := 1) rfl
    have l1' : ln 1 = 2 := rfl
    have h01 := sh1.2.2.2.1
    show wk_X1_storeLocal s1 _
    unfold wk_X1_storeLocal
    refine sk_emit (n := 9) rfl (by decide) h01 (by rw [el1, t4]; omega) (fun v s2 _ em2 => ?_)
    obtain ⟨g2, ag2, sh2⟩ := sh_emit sh1 em2 (k := 9) (h' := 1) rfl ⟨by decide, by decide⟩ (by decide) (by decide) (by decide)
    have ec2 := em_clen em2 (n := 9) rfl h01
    have el2 := em_len em2 (m := 9) rfl
    have l9' : ln 9 = 2 := rfl
    have h02 := sh2.2.2.2.1
    refine sk_emit (n := 2) rfl (by decide) h02 (by rw [el2, el1, t4]; omega) (fun v s3 _ em3 => ?_)
    obtain ⟨g3, ag3, sh3⟩ := sh_emit sh2 em3 (k := 2) (h' := 0) rfl ⟨by decide, by decide⟩ (by decide) (by decide) (by decide)
    have ec3 := em_clen em3 (n := 2) rfl h02
    have l2' : ln 2 = 1 := rfl
    exact fin s3 g3 (ko_tr (em_l em1) (ko_tr (em_l em2) (em_l em3))) (fun j j4 j24 => (emr em3 j j4 j24).trans ((emr em2 j j4 j24).trans (emr em1 j j4 j24))) (fun j hj => (em3.2.2.1 j (by omega)).trans ((em2.2.2.1 j (by omega)).trans (em1.2.2.1 j hj))) sh3 (by omega)
end DLO
end

section
/-! the walk: items of an initial, a string that fills an array -/
/-- a value on the stack -/
def WVx (ρ s : St) (F : Nat) (K : List Nat) (Nb b e0 H0 : Nat) (g : Gh) (X : Nat → Prop) : Prop :=
  (clen ρ ≤ Nb ∧ Nb ≤ b ∧ b ≤ e0) ∧ VS s g b K X H0 e0 ∧ UFx s Nb ∧ nzr K ≤ 25 ∧ wfK K ∧
  (F = 0 → (s 6 6).toInt = -1 ∧ (K = [] ∨ ∃ c, 9 ≤ c ∧ K = [c])) ∧
  (1 ≤ F → FNi s F K Nb b ∧ (H0 ≠ 0 → (∃ K', K = 10 :: K') ∧ (s 8 16).toInt ≠ 0)) ∧
  (inI K → ((s 8 9).toInt ≠ 0 ↔ 1 ≤ F))
section ITM
variable {σ s z t ρ : St} {g g' g1 : Gh} {X X0 Y : Nat → Prop} {b e e0 e' h h' H H0 H' L L' m n N N' Nb c d p tt j i F F' k B : Nat} {K K2 M E G D : List Nat} {A : List It} {x y v a op a1 a2 a3 : Int32}
theorem ws_pop {Q : Nat → St → Prop} (wk : WKs ρ σ) (h : WSx ρ σ F K [iV] Nb b e0 H0 g X) (cap : (σ 4 1).toInt ≤ 262150) (k : ∀ s g', KXW σ s → WKs ρ s → WVx ρ s F K Nb b e0 H0 g' X → clen s ≤ clen σ + 2 * plc σ [iV] → (s 6 3) = (σ 6 3) → (∀ j, s 8 j = σ 8 j) → Q 65 s) : wk_X2_pop σ Q := by
  obtain ⟨⟨n1, n2, n3⟩, h2, h3, h4, h5, h6, h7, h8⟩ := h
  refine vs_pop h2 (by omega) (fun s g1 k1 m1 w1 ag vs hc fu _ => ?_)
  have kx := kxw_e k1
  have l0 := vs.2.2.2.1
  have he := vs.2.2.2.2.2.2.1
  have d8 : ∀ j, s 8 j = σ 8 j := fun j => k1 8 j (op_lt (by decide)) (by
    rw [List.contains_cons, List.contains_cons, List.contains_cons, List.contains_cons, List.contains_cons, List.contains_cons, List.contains_nil]
    rfl) rfl
  have es : (s 6 15) = (σ 6 15) := k1 6 15 (op_lt (by decide)) rfl rfl
  refine k s g1 kx (wk_w wk kx m1 (by rw [es]; exact wk.2.1.2.2.2.1) (fun j hj => w1 j (by omega)) (by omega) l0) ⟨⟨n1, n2, n3⟩, vs, uf_w kx m1 (fun q hq => w1 q (by omega)) h3, h4, h5, fun c => by rw [show s 6 6 = σ 6 6 from k1 6 6 (op_lt (by decide)) rfl rfl]; exact h6 c, fun c => ⟨fn_k kx m1 es (k1 6 17 (op_lt (by decide)) rfl rfl) (funext (fun j => k1 45 j (op_lt (by decide)) rfl rfl)) rfl ?_ (h7 c).1, fun z => by rw [d8]; exact (h7 c).2 z⟩, fun c => by rw [d8]; exact h8 c⟩ hc fu d8
  obtain ⟨d, -, -, -, -, -, -, -, -, -, -, -, -, -, q⟩ := (h7 c).1
  exact q
theorem kl_fn0 (q : KLx σ s) (e1 : (s 6 10) = (σ 6 10)) (e2 : (s 6 15) = (σ 6 15)) (e3 : (s 42) = (σ 42)) (hz : zc M = zc K) (hF : 2 ≤ F → M = []) (h : FNi σ F K Nb b) : FNi s F M Nb b := by
  have h' := h
  obtain ⟨d, -, -, -, -, -, -, -, -, a9, b1, -, -, b4, -⟩ := h'
  exact kl_fn q hz hF (by rw [e1]; exact a9.2) (by rw [e1]; omega) (by rw [e1, e2]; exact b1) (fun j hj => by rw [e3]; exact b4 j (by rw [← e1]; exact hj)) h
/-- what an initial puts, after the code was cut -/
theorem sp_putInitial {Q : St → Prop} (hv : VS σ g b K X H0 e0) (k : ∀ s, KLx σ s → (∀ j, j ≠ 4 → j ≠ 5 → j ≠ 31 → j ≠ 32 → j ≠ 33 → s j = σ j) → SHx s g b K X H0 (H0 + 420) → clen s = e0 → Q s) : wk_X1_putInitial x 65 σ Q := by
  obtain ⟨h1, h2, h3, h4, h5, h6, h7, h8, h9, h10⟩ := hv
  have c0 := clen_eq h4
  unfold wk_X1_putInitial
  refine sk_cut (by rw [h9]; omega) (fun s1 k1 e1 => ?_)
  refine sp_isConstant (fun _ => ?_) (fun _ => ?_)
  all_goals
    refine ⟨fun _ => True, fun y2 _ => ?_, fun _ => trivial, fun _ => trivial⟩
    refine sk_addInitial (fun s ks => ?_)
    have kk : KLx σ s := ko_tr (ko_sub (ko_kp k1) (by decide) (by decide)) (ko_sub (ko_kp ks) (by decide) (by decide))
    have e4 : (s 4 1) = (σ 65 9) := (ks 4 1 rfl rfl).trans e1
    have ecl : clen s = e0 := by
      have := clen_eq (σ := s) (by rw [e4, h9]; omega)
      rw [e4, h9] at this
      omega
    have w : (s 24) = (σ 24) := funext (fun j => (ks 24 j rfl rfl).trans (k1 24 j rfl rfl))
    obtain ⟨r1, r2, r3, r4, r5, r6⟩ := kl_rows kk
    have rr : ∀ j, j ≠ 4 → j ≠ 5 → j ≠ 31 → j ≠ 32 → j ≠ 33 → s j = σ j := fun j j4 j5 j31 j32 j33 => funext (fun q => (ks j q (by
      simp only [List.contains_cons, List.contains_nil, Bool.or_false]
      cases hh : ((j, q) == ((5 : Nat), (9 : Nat))) with
      | false => rfl
      | true => exact absurd (congrArg Prod.fst (eq_of_beq hh)) j5) (by
      simp only [List.contains_cons, List.contains_nil, Bool.or_false, beq_eq_false_iff_ne.mpr j31, beq_eq_false_iff_ne.mpr j32, beq_eq_false_iff_ne.mpr j33])).trans (k4_of k1 j q j4))
    refine k s kk rr ⟨?_, ?_, by rw [rr 7 (by decide) (by decide) (by decide) (by decide) (by decide)]; exact h3, by rw [e4, h9]; omega, by rw [rr 9 (by decide) (by decide) (by decide) (by decide) (by decide)]; exact h5, by rw [ecl]; exact bnd_le h6 (Nat.le_refl _) h7 (Nat.le_refl _)⟩ ecl
    · rw [ecl, w]
      exact typ_mono (fun _ _ => rfl) agr_rf (kl_cp kk) (fun _ z => z) h8
    · rw [ecl]
      exact cx_mono K X (fun j _ => ⟨by rw [r1], by rw [r2], by rw [r3], by rw [r4], by rw [r5], by rw [r6]⟩) (fun q _ => by rw [w]) agr_rf (Nat.le_refl _) h2
theorem wf_9 {c : Nat} (h9 : 9 ≤ c) {c' : Nat} (h : 9 ≤ c') (w : wfK (c :: K)) : wfK (c' :: K) := ⟨fun z => by omega, fun _ => w.2.1 (by omega), w.2.2⟩
theorem f0_9 {c c' : Nat} (h9 : 9 ≤ c') (h : (c :: K) = [] ∨ ∃ c1, 9 ≤ c1 ∧ (c :: K) = [c1]) : (c' :: K) = [] ∨ ∃ c1, 9 ≤ c1 ∧ (c' :: K) = [c1] := by
  rcases h with h | ⟨c1, h1, h2⟩
  · cases h
  · have := (List.cons.inj h2).2
    rw [this]
    exact Or.inr ⟨c', h9, rfl⟩
theorem ini_9 {c : Nat} (h : 9 ≤ c) : inI (c :: K) := ⟨c, K, rfl, h⟩
/-- an item -/
theorem ws_item {Q : St → Prop} (hc9 : 9 ≤ c) (wk : WKs ρ σ) (h : WSx ρ σ F (c :: K) [iV] Nb b e0 H0 g X) (cap : (σ 4 1).toInt ≤ 262150) (k : ∀ s, KWk σ s → WKs ρ s → (s 5 7) = (σ 5 7) → ((s 6 3).toInt = 0 → ∃ e1 H1 g' X', WSx ρ s F (10 :: K) [] Nb b e1 H1 g' X' ∧ clen s ≤ clen σ + 2 * plc σ [iV] + 3) → Q s) : wk_X1_item σ Q := by
  unfold wk_X1_item
  refine ws_pop wk h cap (fun s g1 kx ws hv hc fu d8 => ?_)
  obtain ⟨⟨n1, n2, n3⟩, vs, h3, h4, h5, h6, h7, h8⟩ := hv
  have p1 : plc σ [iV] = pk σ 65 + 0 := plc_V
  have pk1 := pkq_le (σ := σ) (q := 65)
  have sh := vs_sh vs
  have l0 := sh.2.2.2.1
  have c1 := clen_eq l0
  have c0 := clen_eq (h.2.1.1.2.2.1)
  have he := vs.2.2.2.2.2.2.1
  have sn : (s 5 7) = (σ 5 7) := kx 5 7 (op_lt (by decide)) rfl rfl
  -- from a state that keeps enough
  have fin : ∀ t g2 H1, KLx s t → (∀ j, j < b → (t 24) j = (s 24) j) → (t 6 10) = (s 6 10) → (t 6 15) = (s 6 15) → (t 42) = (s 42) → (t 8 9) = (s 8 9) → (F = 0 ∨ H1 = 0 ∨ (t 8 16).toInt ≠ 0) → SHx t g2 b (c :: K) X H1 (H1 + 420) → clen t ≤ clen s + 3 → Q t := fun t g2 H1 kt wt e1 e2 e3 e4 hm sht hl => by
    have tb := sht.1.1
    have wt' := kl_wk ws kt (by rw [e2]; exact ws.2.1.2.2.2.1) (fun j hj => wt j (by omega)) (by omega) sht.2.2.2.1
    refine k t (ko_tr (kw_xw kx) (kl_wk0 kt)) wt' ((show t 5 7 = s 5 7 from kt 5 7 (op_lt (by decide)) rfl rfl).trans sn) (fun _ => ⟨clen t, H1, g2, X, ⟨⟨n1, n2, tb⟩, se_nil (sh_sb ((sh_9 (Or.inr (by decide))).mpr ((sh_9 (Or.inr hc9)).mp sht)) (Nat.le_refl _)), kl_uf kt (fun j hj => wt j (by omega)) h3, ?_, wf_9 hc9 (by decide) h5, fun z => ⟨by rw [show t 6 6 = s 6 6 from kt 6 6 (op_lt (by decide)) rfl rfl]; exact (h6 z).1, f0_9 (by decide) (h6 z).2⟩, fun z => ⟨kl_fn0 kt e1 e2 e3 ?_ ?_ (h7 z).1, fun y => ⟨⟨K, rfl⟩, ?_⟩⟩, fun _ => by rw [e4]; exact h8 (ini_9 hc9)⟩, by omega⟩)
    · rw [nz_0 (Or.inr (by decide))]
      rw [nz_0 (Or.inr hc9)] at h4
      exact h4
    · rw [zc_s (by decide), zc_s (by omega)]
    · intro z2
      obtain ⟨d, -, -, -, -, -, -, -, -, -, -, -, -, -, q⟩ := (h7 z).1
      cases q z2
    · rcases hm with hm | hm | hm
      · omega
      · exact absurd hm y
      · exact hm
  have hmis : F = 0 ∨ H0 = 0 ∨ (s 8 16).toInt ≠ 0 := by
    by_cases f0 : F = 0
    · exact Or.inl f0
    · by_cases h00 : H0 = 0
      · exact Or.inr (Or.inl h00)
      · exact Or.inr (Or.inr ((h7 (by omega)).2 h00).2)
  refine ⟨True, fun _ => ?_, fun _ => trivial, fun _ => ?_⟩
  · generalize hz : upC (upC s 8 16 (1 : Int32)) 8 15 ((s 8 15) + (1 : Int32)) = t
    have kt : Kp [(8, 16), (8, 15)] [] s t := by rw [← hz]; exact kp_f (kp_f kp_rf rfl) rfl
    have ql : KLx s t := ko_sub (ko_kp kt) (by decide) (by decide)
    have m1 : (t 8 16).toInt ≠ 0 := by
      rw [← hz, rdA_ne (by decide), rdA_eq rfl]
      decide
    have e4 : (t 4 1) = (s 4 1) := kt 4 1 rfl rfl
    have w : (t 24) = (s 24) := funext (fun j => kt 24 j rfl rfl)
    exact fin t g1 (H0 + 1) ql (fun j _ => by rw [w]) (kt 6 10 rfl rfl) (kt 6 15 rfl rfl) (funext (fun j => kt 42 j rfl rfl)) (kt 8 9 rfl rfl) (Or.inr (Or.inr m1)) (sh_keep e4 (kt 7 7 rfl rfl) (kl_open ql) w (kl_rows ql) (kl_cp ql) ⟨sh.1, sh.2.1, sh.2.2.1, sh.2.2.2.1, sh.2.2.2.2.1, bnd_le sh.2.2.2.2.2 (Nat.le_refl _) (Nat.le_refl _) (by omega)⟩) (by have : clen t = clen s := (by unfold clen; rw [e4]); omega)
  · unfold wk_X1_suits
    have two : ∀ v : Int32, (v.toInt ≠ 0 → ((s 8 9).toInt = 0 → wk_X1_putInitial (s 8 15) 65 s (fun s70 => Q (upC s70 8 15 ((s70 8 15) + (1 : Int32))))) ∧ ((s 8 9).toInt ≠ 0 → wk_X0_emit (16 : Int32) (s 8 10) (s 8 15) (0 : Int32) s (fun v57 s57 => Q (upC s57 8 15 ((s57 8 15) + (1 : Int32)))))) ∧ (v.toInt = 0 → True) := fun v => by
      refine ⟨fun _ => ⟨fun _ => ?_, fun _ => ?_⟩, fun _ => trivial⟩
      · refine sp_putInitial vs (fun s2 k2 r2 sh2 ec2 => ?_)
        generalize hz : upC s2 8 15 ((s2 8 15) + (1 : Int32)) = t
        have kt : Kp [(8, 15)] [] s2 t := by rw [← hz]; exact kp_f kp_rf rfl
        have ql : KLx s2 t := ko_sub (ko_kp kt) (by decide) (by decide)
        have e4 : (t 4 1) = (s2 4 1) := kt 4 1 rfl rfl
        have w : (t 24) = (s2 24) := funext (fun j => kt 24 j rfl rfl)
        have r6 : s2 6 = s 6 := r2 6 (by decide) (by decide) (by decide) (by decide) (by decide)
        have r8 : s2 8 = s 8 := r2 8 (by decide) (by decide) (by decide) (by decide) (by decide)
        refine fin t g1 H0 (ko_tr k2 ql) (fun j _ => by rw [w, r2 24 (by decide) (by decide) (by decide) (by decide) (by decide)]) ((kt 6 10 rfl rfl).trans (by rw [r6])) ((kt 6 15 rfl rfl).trans (by rw [r6])) ((funext (fun j => kt 42 j rfl rfl)).trans (r2 42 (by decide) (by decide) (by decide) (by decide) (by decide))) ((kt 8 9 rfl rfl).trans (by rw [r8])) ?_ (sh_keep e4 (kt 7 7 rfl rfl) (kl_open ql) w (kl_rows ql) (kl_cp ql) sh2) (by have : clen t = clen s2 := (by unfold clen; rw [e4]); omega)
        rw [show t 8 16 = s 8 16 from (kt 8 16 rfl rfl).trans (by rw [r8])]
        exact hmis
      · refine sk_emit (n := 16) rfl (by decide) l0 (by omega) (fun v s2 _ em => ?_)
        obtain ⟨g2, ag, sh2⟩ := sh_emit sh em (k := 16) (h' := H0) rfl ⟨by decide, by decide⟩ (by show 1 ≤ H0 + 1; omega) (by show (H0 : Int) = ((H0 + 1 : Nat) : Int) + -1; omega) (by omega)
        have ec := em_clen em (n := 16) rfl l0
        have l16 : ln 16 = 3 := rfl
        generalize hz : upC s2 8 15 ((s2 8 15) + (1 : Int32)) = t
        have kt : Kp [(8, 15)] [] s2 t := by rw [← hz]; exact kp_f kp_rf rfl
        have ql : KLx s2 t := ko_sub (ko_kp kt) (by decide) (by decide)
        have e4 : (t 4 1) = (s2 4 1) := kt 4 1 rfl rfl
        have w : (t 24) = (s2 24) := funext (fun j => kt 24 j rfl rfl)
        have er : ∀ j q, j ≠ 4 → j ≠ 24 → s2 j q = s j q := fun j q j4 j24 => em_cells em j q j4 j24
        have bb := sh.1.1
        refine fin t g2 H0 (ko_tr (em_l em) ql) (fun j hj => by rw [w]; exact em.2.2.1 j (by omega)) ((kt 6 10 rfl rfl).trans (er _ _ (by decide) (by decide))) ((kt 6 15 rfl rfl).trans (er _ _ (by decide) (by decide))) (funext (fun j => (kt 42 j rfl rfl).trans (er _ _ (by decide) (by decide)))) ((kt 8 9 rfl rfl).trans (er _ _ (by decide) (by decide))) ?_ (sh_keep e4 (kt 7 7 rfl rfl) (kl_open ql) w (kl_rows ql) (kl_cp ql) sh2) (by have : clen t = clen s2 := (by unfold clen; rw [e4]); omega)
        rw [show t 8 16 = s 8 16 from (kt 8 16 rfl rfl).trans (er _ _ (by decide) (by decide))]
        exact hmis
    refine sk_fits ⟨fun _ => two 0, fun n => absurd rfl n⟩ ⟨fun n => absurd n (by decide), fun _ => ⟨fun _ => two 1, fun _ => ⟨fun _ => ⟨fun _ => two 0, fun _ => two 1⟩, fun _ => ⟨fun _ => two 0, fun _ => two 1⟩⟩⟩⟩
end ITM
end

section
/-! the walk: a string that fills an array, the end of an initial, a parameter -/
section INI
variable {σ s z t ρ : St} {g g' g1 : Gh} {X X0 Y : Nat → Prop} {b e e0 e' h h' H H0 H' L L' m n N N' Nb c d p tt j i F F' k B : Nat} {K K2 M E G D : List Nat} {A : List It} {x y v a op a1 a2 a3 : Int32}
theorem fn_F2 (h : FNi s F K Nb b) : 2 ≤ F → K = [] := by
  obtain ⟨d, -, -, -, -, -, -, -, -, -, -, -, -, -, q⟩ := h
  exact q
/-- a string that fills an array -/
theorem ws_fill {Q : St → Prop} (wk : WKs ρ σ) (h : WSx ρ σ F (9 :: K) [] Nb b e0 H0 g X) (cap : (σ 4 1).toInt + 4 * (vlx σ a1).toNat ≤ 262150) (k : ∀ s, KWk σ s → WKs ρ s → (s 5 7) = (σ 5 7) → ((s 6 3).toInt = 0 → ∃ e1 g', WSx ρ s F (11 :: K) [] Nb b e1 H0 g' X ∧ clen s ≤ clen σ + 4 * (vlx σ a1).toNat) → Q s) : wk_X1_fill a1 σ Q := by
  obtain ⟨⟨n1, n2, n3⟩, h2, h3, h4, h5, h6, h7, h8⟩ := h
  have ee := se_e0 h2
  have sb : SHx σ g b (9 :: K) X H0 (H0 + 420) := sb_nil h2
  have h0 := sb.2.2.2.1
  have c0 := clen_eq h0
  have bb := sb.1.1
  have H00 : 1 ≤ F → H0 = 0 := fun hF => by
    by_cases c : H0 = 0
    · exact c
    · exfalso
      obtain ⟨⟨K2, e2⟩, -⟩ := (h7 hF).2 c
      have := (List.cons.inj e2).1
      omega
  have fin : ∀ s g2, KLx σ s → (∀ j, j < clen σ → (s 24) j = (σ 24) j) → s 6 = σ 6 → s 42 = σ 42 → (s 8 9) = (σ 8 9) → SHx s g2 b (9 :: K) X H0 (H0 + 420) → clen s ≤ clen σ + 4 * (vlx σ a1).toNat → Q s := fun s g2 ql w r6 r42 r9 sh hl => by
    have sbb := sh.1.1
    refine k s (kl_wk0 ql) (kl_wk wk ql (by rw [r6]; exact wk.2.1.2.2.2.1) (fun j hj => w j (by omega)) (by omega) sh.2.2.2.1) (ql 5 7 (op_lt (by decide)) rfl rfl) (fun _ => ⟨clen s, g2, ⟨⟨n1, n2, sbb⟩, se_nil (sh_sb ((sh_9 (Or.inr (by decide))).mpr ((sh_9 (Or.inr (by decide))).mp sh)) (Nat.le_refl _)), kl_uf ql (fun j hj => w j (by omega)) h3, ?_, wf_9 (by decide) (by decide) h5, fun z => ⟨by rw [r6]; exact (h6 z).1, f0_9 (by decide) (h6 z).2⟩, fun z => ⟨kl_fn0 ql (by rw [r6]) (by rw [r6]) r42 (by rw [zc_s (by decide), zc_s (by decide)]) (fun z2 => by cases fn_F2 (h7 z).1 z2) (h7 z).1, fun y => absurd (H00 z) y⟩, fun _ => by rw [r9]; exact h8 (ini_9 (by decide))⟩, hl⟩)
    rw [nz_0 (Or.inr (by decide))]
    rw [nz_0 (Or.inr (by decide))] at h4
    exact h4
  unfold wk_X1_fill
  refine sk_readCodes (fun v5 s5 k5 e5 => ?_)
  have v200 : v5.toInt ≤ 200 := by omega
  have vle : v5.toInt ≤ (vlx σ a1).toNat := by omega
  refine ⟨fun _ => True, fun y _ _ => ?_, fun _ => trivial, fun _ => trivial⟩
  let P : Int → St → Prop := fun x s => (0 ≤ x ∧ (x ≤ v5.toInt ∨ x = 0)) ∧ KLx σ s ∧ (∀ j, j < clen σ → (s 24) j = (σ 24) j) ∧ s 6 = σ 6 ∧ s 42 = σ 42 ∧ (s 8 9) = (σ 8 9) ∧ (clen σ ≤ clen s ∧ (clen s : Int) ≤ clen σ + 4 * x) ∧ ∃ g2, SHx s g2 b (9 :: K) X H0 (H0 + 420)
  refine ⟨fun n x s => n = (v5.toInt - x.toInt).toNat ∧ P x.toInt s, ⟨_, rfl, ⟨by rw [i0]; exact Int.le_refl _, Or.inr rfl⟩, ?_⟩, ?_⟩
  · generalize hz : upC s5 8 16 y = t
    have kt : Kp [(8, 16)] [] s5 t := by rw [← hz]; exact kp_f kp_rf rfl
    have ql : KLx σ t := ko_tr (ko_sub (ko_kp k5) (by decide) (by decide)) (ko_sub (ko_kp kt) (by decide) (by decide))
    have e4 : (t 4 1) = (σ 4 1) := (kt 4 1 rfl rfl).trans (k5 4 1 rfl rfl)
    have w : (t 24) = (σ 24) := funext (fun j => (kt 24 j rfl rfl).trans (k5 24 j rfl rfl))
    have ecl : clen t = clen σ := by unfold clen; rw [e4]
    exact ⟨ql, fun j _ => by rw [w], funext (fun j => (kt 6 j rfl rfl).trans (k5 6 j rfl rfl)), funext (fun j => (kt 42 j rfl rfl).trans (k5 42 j rfl rfl)), (kt 8 9 rfl rfl).trans (k5 8 9 rfl rfl), ⟨by omega, by rw [ecl, i0]; omega⟩, g, sh_keep e4 ((kt 7 7 rfl rfl).trans (k5 7 7 rfl rfl)) (kl_open ql) w (kl_rows ql) (kl_cp ql) sb⟩
  rintro n x s ⟨hn, ⟨x0, x1⟩, ql, w, r6, r42, r9, ⟨cg, cl⟩, g2, sh⟩
  have h0s := sh.2.2.2.1
  have c1 := clen_eq h0s
  have bbs := sh.1.1
  have done : Q s := fin s g2 ql w r6 r42 r9 sh (by omega)
  refine ⟨fun _ => done, fun c => ⟨fun _ => done, fun _ => ⟨P (x.toInt + 1), fun s2 hp => ⟨(v5.toInt - (x + 1).toInt).toNat, by rw [ad1 (by omega)]; omega, rfl, by rw [ad1 (by omega)]; exact hp⟩, fun _ => ?_, fun _ => ?_⟩⟩⟩
  · refine sk_addInitial (fun s2 ks => ?_)
    have q2 : KLx s s2 := ko_sub (ko_kp ks) (by decide) (by decide)
    have e4 : (s2 4 1) = (s 4 1) := ks 4 1 rfl rfl
    have w2 : (s2 24) = (s 24) := funext (fun j => ks 24 j rfl rfl)
    have ecl : clen s2 = clen s := by unfold clen; rw [e4]
    exact ⟨⟨by omega, Or.inl (by omega)⟩, ko_tr ql q2, fun j hj => by rw [w2]; exact w j hj, (funext (fun j => ks 6 j rfl rfl)).trans r6, (funext (fun j => ks 42 j rfl rfl)).trans r42, (show s2 8 9 = s 8 9 from ks 8 9 rfl rfl).trans r9, ⟨by omega, by rw [ecl]; omega⟩, g2, sh_keep e4 (ks 7 7 rfl rfl) (kl_open q2) w2 (kl_rows q2) (kl_cp q2) sh⟩
  · refine sk_emit (n := 17) rfl (by decide) h0s (by omega) (fun v s2 _ em => ?_)
    obtain ⟨g3, ag, sh2⟩ := sh_emit sh em (k := 17) (h' := H0) rfl ⟨by decide, by decide⟩ (Nat.zero_le _) (by show (H0 : Int) = H0 + 0; omega) (by omega)
    have ec := em_clen em (n := 17) rfl h0s
    have l17 : ln 17 = 4 := rfl
    have er : ∀ j, j ≠ 4 → j ≠ 24 → s2 j = s j := fun j j4 j24 => funext (fun q => em_cells em j q j4 j24)
    exact ⟨⟨by omega, Or.inl (by omega)⟩, ko_tr ql (em_l em), fun j hj => (em.2.2.1 j (by omega)).trans (w j hj), (er 6 (by decide) (by decide)).trans r6, (er 42 (by decide) (by decide)).trans r42, (congrFun (er 8 (by decide) (by decide)) 9).trans r9, ⟨by omega, by omega⟩, g3, sh2⟩
theorem vs_kp (h : VS s g b K X H0 e0) (kk : Kp [(8, 16)] [] s t) : VS t g b K X H0 e0 := by
  obtain ⟨h1, h2, h3, h4, h5, h6, h7, h8, h9, h10⟩ := h
  have ql : KLx s t := ko_sub (ko_kp kk) (by decide) (by decide)
  have e4 : (t 4 1) = (s 4 1) := kk 4 1 rfl rfl
  have w : (t 24) = (s 24) := funext (fun j => kk 24 j rfl rfl)
  have ecl : clen t = clen s := by unfold clen; rw [e4]
  obtain ⟨r1, r2, r3, r4, r5, r6⟩ := kl_rows ql
  refine ⟨?_, ?_, by rw [show t 7 7 = s 7 7 from kk 7 7 rfl rfl]; exact h3, by rw [e4]; exact h4, by rw [kl_open ql]; exact h5, by rw [ecl]; exact h6, by rw [ecl]; exact h7, ?_, by rw [show t 65 9 = s 65 9 from kk 65 9 rfl rfl]; exact h9, by rw [show t 65 6 = s 65 6 from kk 65 6 rfl rfl, ecl]; exact h10⟩
  · rw [ecl, w]
    exact typ_mono (fun _ _ => rfl) agr_rf (kl_cp ql) (fun _ z => z) h1
  · exact cx_mono K X (fun j _ => ⟨by rw [r1], by rw [r2], by rw [r3], by rw [r4], by rw [r5], by rw [r6]⟩) (fun q _ => by rw [w]) agr_rf (Nat.le_refl _) h2
  · rw [w]
    exact typ_mono (fun _ _ => rfl) agr_rf (kl_cp ql) (fun _ z => z) h8
theorem sp_storeLocal {Q : St → Prop} (sh : SHx σ g b K X (H + 1) B) (hB : H + 1 ≤ B) (cap : (σ 4 1).toInt ≤ 262180) (k : ∀ s g', KLx σ s → (∀ j, j ≠ 4 → j ≠ 24 → s j = σ j) → (∀ j, j < clen σ → (s 24) j = (σ 24) j) → SHx s g' b K X H B → clen s ≤ clen σ + 3 → Q s) : wk_X1_storeLocal σ Q := by
  have emr : ∀ {σ' s' : St} {o a b c : Int32}, EMi σ' s' o a b c → ∀ j, j ≠ 4 → j ≠ 24 → s' j = σ' j := fun em j j4 j24 => funext (fun q => em_cells em j q j4 j24)
  have h0 := sh.2.2.2.1
  unfold wk_X1_storeLocal
  refine sk_emit (n := 9) rfl (by decide) h0 (by omega) (fun v s2 _ em2 => ?_)
  obtain ⟨g2, ag2, sh2⟩ := sh_emit sh em2 (k := 9) (h' := H + 1) rfl ⟨by decide, by decide⟩ (by show 1 ≤ H + 1; omega) (by show ((H + 1 : Nat) : Int) = ((H + 1 : Nat) : Int) + 0; omega) hB
  have ec2 := em_clen em2 (n := 9) rfl h0
  have el2 := em_len em2 (m := 9) rfl
  have l9' : ln 9 = 2 := rfl
  have h02 := sh2.2.2.2.1
  refine sk_emit (n := 2) rfl (by decide) h02 (by omega) (fun v s3 _ em3 => ?_)
  obtain ⟨g3, ag3, sh3⟩ := sh_emit sh2 em3 (k := 2) (h' := H) rfl ⟨by decide, by decide⟩ (by show 1 ≤ H + 1; omega) (by show (H : Int) = ((H + 1 : Nat) : Int) + -1; omega) (by omega)
  have ec3 := em_clen em3 (n := 2) rfl h02
  have l2' : ln 2 = 1 := rfl
  exact k s3 g3 (ko_tr (em_l em2) (em_l em3)) (fun j j4 j24 => (emr em3 j j4 j24).trans (emr em2 j j4 j24)) (fun j hj => (em3.2.2.1 j (by omega)).trans (em2.2.2.1 j hj)) sh3 (by omega)
/-- the end of an initial -/
theorem ws_initial {Q : St → Prop} (hc9 : 9 ≤ c) (wk : WKs ρ σ) (h : WSx ρ σ F (c :: K) A Nb b e0 H0 g X) (hA : (a2.toInt = 0 ∧ c = 9 ∧ A = [iV]) ∨ (a2.toInt = 1 ∧ A = []) ∨ (a2.toInt = 2 ∧ c = 11 ∧ A = [])) (cap : (σ 4 1).toInt ≤ 262150) (k : ∀ s, KWk σ s → WKs ρ s → (s 5 7) = (σ 5 7) → ((s 6 3).toInt = 0 → ∃ e1 H1 g' X', WSx ρ s F K [] Nb b e1 H1 g' X' ∧ clen s ≤ clen σ + 2 * plc σ A + 3) → Q s) : wk_X1_initial a1 a2 σ Q := by
  have wfK' : wfK K := h.2.2.2.2.1.2.2
  have tpK' : tpK K := h.2.2.2.2.1.2.1 (by omega)
  have fK : F = 0 → K = [] := fun z => by
    rcases (h.2.2.2.2.2.1 z).2 with q | ⟨c1, q1, q2⟩
    · cases q
    · exact (List.cons.inj q2).2
  -- what is told before the last check
  let P : St → Prop := fun s => KWk σ s ∧ WKs ρ s ∧ (s 5 7) = (σ 5 7) ∧ (clen ρ ≤ Nb ∧ Nb ≤ b) ∧ UFx s Nb ∧ nzr K ≤ 25 ∧ (F = 0 → (s 6 6).toInt = -1) ∧ clen s ≤ clen σ + 2 * plc σ A + 3 ∧ ∃ g' H1, SHx s g' b (c :: K) X H1 (H1 + 420) ∧ (1 ≤ F → FNi s F (c :: K) Nb b ∧ (H1 ≠ 0 → (s 8 16).toInt ≠ 0))
  have fin : ∀ s, P s → (∃ J103 : Prop, (J103 → (wk_X11_fail (2 : Int32) a1 s (fun s109 => Q s109))) ∧ ((s 8 16).toInt ≠ 0 → J103) ∧ ((s 8 16).toInt = 0 → ((s 8 13).toInt = 0 → Q s) ∧ ((s 8 13).toInt ≠ 0 → J103))) := fun s hp => by
    obtain ⟨q1, q2, q3, ⟨n1, n2⟩, q5, q6, q7, q8, g', H1, q9, q10⟩ := hp
    refine ⟨True, fun _ => fa_fail (by decide) (fun t ft fz => ?_), fun _ => trivial, fun hm => ⟨fun _ => ?_, fun _ => trivial⟩⟩
    · have ql := fa_l ft
      have e4 : (t 4 1) = (s 4 1) := ft.1 4 1 rfl rfl
      have ecl : clen t = clen s := by unfold clen; rw [e4]
      exact k t (ko_tr q1 (kl_wk0 ql)) (kl_wk q2 ql (by rw [show t 6 15 = s 6 15 from ft.1 6 15 rfl rfl]; exact q2.2.1.2.2.2.1) (fun j _ => ft.1 24 j rfl rfl) (by rw [ecl]; exact q2.2.2.1.2.2.2) (by rw [e4]; exact q2.2.2.2.1)) ((show t 5 7 = s 5 7 from ft.1 5 7 rfl rfl).trans q3) (fun z => absurd z fz)
    · have sh := (sh_9 (Or.inr hc9)).mp q9
      refine k s q1 q2 q3 (fun _ => ⟨clen s, H1, g', X, ⟨⟨n1, n2, sh.1.1⟩, se_nil (sh_sb sh (Nat.le_refl _)), q5, q6, wfK', fun z => ⟨q7 z, Or.inl (fK z)⟩, fun z => ⟨?_, fun y => absurd hm ((q10 z).2 y)⟩, fun z => absurd z (ini_tp tpK')⟩, q8⟩)
      have f := (q10 z).1
      obtain ⟨d, a1, a2, a3, a4, a5, a6, a7, a8, a9, b1, b2, b3, b4, b5⟩ := f
      exact ⟨d, a1, a2, a3, a4, a5, a6, a7, a8, a9, b1, by rw [b2, zc_s (by omega)], b3, b4, fun z2 => by cases b5 z2⟩
  unfold wk_X1_initial
  refine ⟨P, fin, fun n1' => ⟨fun n0 => ?_, fun c0 => ?_⟩, fun c1 => ?_⟩
  · have hA2 : c = 11 ∧ A = [] := by
      rcases hA with q | q | q
      · exact absurd q.1 n0
      · exact absurd q.1 n1'
      · exact q.2
    obtain ⟨rfl, rfl⟩ := hA2
    obtain ⟨⟨n1, n2, n3⟩, h2, h3, h4, h5, h6, h7, h8⟩ := h
    refine ⟨ko_rf, wk, rfl, ⟨n1, n2⟩, h3, by rw [nz_0 (Or.inr (by decide))] at h4; exact h4, fun z => (h6 z).1, by omega, g, H0, sb_nil h2, fun z => ⟨(h7 z).1, fun y => ((h7 z).2 y).2⟩⟩
  · have hA0 : c = 9 ∧ A = [iV] := by
      rcases hA with q | q | q
      · exact q.2
      · exact absurd q.1 n1'
      · have := q.1
        omega
    obtain ⟨rfl, rfl⟩ := hA0
    have p1 : plc σ [iV] = pk σ 65 + 0 := plc_V
    have pk1 := pkq_le (σ := σ) (q := 65)
    have l00 := h.2.1.1.2.2.1
    have cσ := clen_eq l00
    refine ws_pop wk h cap (fun s g1 kx ws hv hc fu d8 => ?_)
    obtain ⟨⟨n1, n2, n3⟩, vs, h3, h4, h5, h6, h7, h8⟩ := hv
    have H00 : 1 ≤ F → H0 = 0 := fun hF => by
      by_cases cc : H0 = 0
      · exact cc
      · exfalso
        obtain ⟨⟨K2, e2⟩, -⟩ := (h7 hF).2 cc
        have := (List.cons.inj e2).1
        omega
    have sh := vs_sh vs
    have l0 := sh.2.2.2.1
    have c1 := clen_eq l0
    have bb := sh.1.1
    have he := vs.2.2.2.2.2.2.1
    have ends : ∀ (y : Int32) u g2, KLx (upC s 8 16 y) u → (∀ j, j < b → (u 24) j = (s 24) j) → u 6 = s 6 → u 42 = s 42 → SHx u g2 b (9 :: K) X H0 (H0 + 420) → clen u ≤ clen s + 3 → P u := fun y u g2 ku wu r6 r42 shu hl => by
      have kt : Kp [(8, 16)] [] s (upC s 8 16 y) := kp_f kp_rf rfl
      have ql : KLx s u := ko_tr (ko_sub (ko_kp kt) (by decide) (by decide)) ku
      have ub := shu.1.1
      exact ⟨ko_tr (kw_xw kx) (kl_wk0 ql), kl_wk ws ql (by rw [r6]; exact ws.2.1.2.2.2.1) (fun j hj => wu j (by omega)) (by omega) shu.2.2.2.1, (show u 5 7 = s 5 7 from ql 5 7 (op_lt (by decide)) rfl rfl).trans (kx 5 7 (op_lt (by decide)) rfl rfl), ⟨n1, n2⟩, kl_uf ql (fun j hj => wu j (by omega)) h3, by rw [nz_0 (Or.inr (by decide))] at h4; exact h4, fun z => by rw [r6]; exact (h6 z).1, by omega, g2, H0, shu, fun z => ⟨kl_fn0 ql (by rw [r6]) (by rw [r6]) r42 rfl (fn_F2 (h7 z).1) (h7 z).1, fun y => absurd (H00 z) y⟩⟩
    refine ⟨fun _ => True, fun y _ _ => ⟨fun _ => ?_, fun _ => ?_⟩, True, fun _ => trivial, fun _ => trivial, fun _ => ?_⟩
    · refine sp_putInitial (vs_kp vs (t := upC s 8 16 y) (kp_f kp_rf rfl)) (fun u ku ru shu ecu => ends y u g1 ku (fun j _ => by rw [ru 24 (by decide) (by decide) (by decide) (by decide) (by decide)]; rfl) (by rw [ru 6 (by decide) (by decide) (by decide) (by decide) (by decide)]; rfl) (by rw [ru 42 (by decide) (by decide) (by decide) (by decide) (by decide)]; rfl) shu (by omega))
    · have sht := vs_sh (vs_kp vs (t := upC s 8 16 y) (kp_f kp_rf rfl))
      refine sp_storeLocal sht (by omega) (by show (s 4 1).toInt ≤ _; omega) (fun u g2 ku ru wu shu hl => ends y u g2 ku (fun j hj => wu j (by show j < clen s; omega)) (by rw [ru 6 (by decide) (by decide)]; rfl) (by rw [ru 42 (by decide) (by decide)]; rfl) shu hl)
    · unfold wk_X1_suits
      refine sk_fits ⟨fun _ => ⟨fun _ => trivial, fun _ => trivial⟩, fun n => absurd rfl n⟩ ⟨fun n => absurd n (by decide), fun _ => ⟨fun _ => ⟨fun _ => trivial, fun _ => trivial⟩, fun _ => ⟨fun _ => ⟨fun _ => ⟨fun _ => trivial, fun _ => trivial⟩, fun _ => ⟨fun _ => trivial, fun _ => trivial⟩⟩, fun _ => ⟨fun _ => ⟨fun _ => trivial, fun _ => trivial⟩, fun _ => ⟨fun _ => trivial, fun _ => trivial⟩⟩⟩⟩⟩
  · have hA1 : A = [] := by
      rcases hA with q | q | q
      · have := q.1
        omega
      · exact q.2
      · exact q.2.2
    subst hA1
    obtain ⟨⟨n1, n2, n3⟩, h2, h3, h4, h5, h6, h7, h8⟩ := h
    have sb : SHx σ g b (c :: K) X H0 (H0 + 420) := sb_nil h2
    have go : ∀ y : Int32, (1 ≤ F → H0 ≠ 0 → y.toInt ≠ 0) → P (upC σ 8 16 y) := fun y hy => by
      have kt : Kp [(8, 16)] [] σ (upC σ 8 16 y) := kp_f kp_rf rfl
      have ql : KLx σ (upC σ 8 16 y) := ko_sub (ko_kp kt) (by decide) (by decide)
      refine ⟨kl_wk0 ql, kl_wk wk ql wk.2.1.2.2.2.1 (fun j _ => rfl) wk.2.2.1.2.2.2 wk.2.2.2.1, rfl, ⟨n1, n2⟩, kl_uf ql (fun j _ => rfl) h3, by rw [nz_0 (Or.inr hc9)] at h4; exact h4, fun z => (h6 z).1, by show clen σ ≤ _; omega, g, H0, sh_keep (σ := σ) rfl rfl rfl rfl ⟨rfl, rfl, rfl, rfl, rfl, rfl⟩ (kl_cp ql) sb, fun z => ⟨kl_fn0 ql rfl rfl rfl rfl (fn_F2 (h7 z).1) (h7 z).1, fun y2 => ?_⟩⟩
      rw [rdA_eq rfl]
      exact hy z y2
    refine ⟨fun y => 1 ≤ F → H0 ≠ 0 → y.toInt ≠ 0, fun y _ hy => go y hy, True, fun _ _ _ => by decide, fun _ => trivial, fun hm => ⟨fun _ z y => absurd hm ((h7 z).2 y).2, fun _ => trivial⟩⟩
end INI
end

section
/-! the walk: a local's step, a parameter's -/
section VA1
variable {σ s z t ρ : St} {g g' g1 : Gh} {X X0 Y : Nat → Prop} {b e e0 e' h h' H H0 H' L L' m n N N' Nb c d p tt j i F F' k B : Nat} {K K2 M E G D : List Nat} {A : List It} {x y v a op a1 a2 a3 : Int32}
abbrev KDF (a b : St) : Prop := Kp [(8, 6), (8, 7), (8, 8), (8, 9), (8, 10), (8, 11), (8, 12), (8, 13), (8, 14), (8, 15), (8, 16)] [] a b
theorem kdf_l (q : KDF σ s) : KLx σ s := ko_sub (ko_kp q) (by decide) (by decide)
theorem fn_K (hz : zc M = zc K) (hF : 2 ≤ F → M = []) (f : FNi s F K Nb b) : FNi s F M Nb b := by
  obtain ⟨d, a1, a2, a3, a4, a5, a6, a7, a8, a9, b1, b2, b3, b4, b5⟩ := f
  exact ⟨d, a1, a2, a3, a4, a5, a6, a7, a8, a9, b1, by rw [b2, hz], b3, b4, hF⟩
theorem ws_D2 (q : KDF σ s) (hi : ¬ inI K) (hH : 1 ≤ F → H0 = 0) (h : WSx ρ σ F K [] Nb b e0 H0 g X) : WSx ρ s F K [] Nb b e0 H0 g X := by
  obtain ⟨n, h2, h3, h4, h5, h6, h7, h8⟩ := h
  have ql := kdf_l q
  have e4 : (s 4 1) = (σ 4 1) := q 4 1 rfl rfl
  have ecl : clen s = clen σ := by unfold clen; rw [e4]
  have w : (s 24) = (σ 24) := funext (fun j => q 24 j rfl rfl)
  have sb := sb_nil h2
  have sb' : SB s g b K X H0 := sh_keep (B := H0 + 420) e4 (q 7 7 rfl rfl) (kl_open ql) w (kl_rows ql) (kl_cp ql) sb
  have ee := se_e0 h2
  exact ⟨n, by rw [ee, ← ecl]; exact se_nil sb', kl_uf ql (fun j _ => by rw [w]) h3, h4, h5, fun c => by rw [show s 6 6 = σ 6 6 from q 6 6 rfl rfl]; exact h6 c, fun c => ⟨kl_fn0 ql (q 6 10 rfl rfl) (q 6 15 rfl rfl) (funext (fun j => q 42 j rfl rfl)) rfl (fn_F2 (h7 c).1) (h7 c).1, fun z => absurd (hH c) z⟩, fun c => absurd c hi⟩
theorem wk_D2 (q : KDF σ s) (h : WKs ρ σ) : WKs ρ s := by
  have ql := kdf_l q
  have e4 : (s 4 1) = (σ 4 1) := q 4 1 rfl rfl
  have ecl : clen s = clen σ := by unfold clen; rw [e4]
  exact kl_wk h ql (by rw [show s 6 15 = σ 6 15 from q 6 15 rfl rfl]; exact h.2.1.2.2.2.1) (fun j _ => q 24 j rfl rfl) (by rw [ecl]; exact h.2.2.1.2.2.2) (by rw [e4]; exact h.2.2.2.1)
/-- a local's step -/
theorem ws_var1 {Q : St → Prop} (wk : WKs ρ σ) (h : WSx ρ σ 1 K [] Nb b e0 H0 g X) (tp : tpK K) (cap : (σ 4 1).toInt ≤ 262150) (hM : (b4 a3 ∧ M = 9 :: K) ∨ (¬ b4 a3 ∧ M = K)) (k : ∀ s, KWk σ s → WKs ρ s → (s 5 7) = (σ 5 7) → ((s 6 3).toInt = 0 → ∃ e1 g', WSx ρ s 1 M [] Nb b e1 0 g' X ∧ clen s ≤ clen σ + 5) → Q s) : wk_X1_variable a1 a2 a3 σ Q := by
  have ni := ini_tp tp
  have h' := h
  obtain ⟨⟨n1, n2, n3⟩, h2, h3, h4, h5, h6, h7, h8⟩ := h'
  have H00 : H0 = 0 := by
    by_cases c : H0 = 0
    · exact c
    · exfalso
      obtain ⟨⟨K2, e2⟩, -⟩ := (h7 (Nat.le_refl _)).2 c
      exact ni ⟨10, K2, e2, by decide⟩
  subst H00
  have fn := (h7 (Nat.le_refl _)).1
  have fpos : 0 ≤ (σ 6 6).toInt := by
    obtain ⟨d, q, -⟩ := fn
    rw [q]
    omega
  unfold wk_X1_variable
  refine ⟨fun _ => True, fun y0 _ _ => ?_, fun _ => trivial, fun _ => trivial⟩
  refine ⟨fun y => y.toInt ≤ 4000, fun y1 hy1 => ?_, fun _ => ⟨True, fun _ => by decide, fun _ => trivial, fun _ => ⟨fun _ => trivial, fun c => c⟩⟩, fun _ => by decide⟩
  refine ⟨fun y => y.toInt ≠ 0, fun y9 _ hy9 => ?_, fun c => by omega, fun _ => by decide⟩
  refine ⟨fun _ => True, fun y13 _ _ => ⟨fun c => absurd c hy9, fun _ => ?_⟩, fun _ => trivial, fun _ => trivial⟩
  generalize hs0 : upC (upC (upC (upC (upC (upC σ 8 11 a2) 8 12 y1) 8 15 (0 : Int32)) 8 16 (0 : Int32)) 8 9 y9) 8 13 y13 = s0
  have k0 : KDF σ s0 := by
    rw [← hs0]
    exact kp_f (kp_f (kp_f (kp_f (kp_f (kp_f kp_rf rfl) rfl) rfl) rfl) rfl) rfl
  have x12 : s0 8 12 = y1 := by
    rw [← hs0, rdA_ne (by decide), rdA_ne (by decide), rdA_ne (by decide), rdA_ne (by decide), rdA_eq rfl]
  have x9 : s0 8 9 = y9 := by
    rw [← hs0, rdA_ne (by decide), rdA_eq rfl]
  have ec0 : clen s0 = clen σ := by unfold clen; rw [show s0 4 1 = σ 4 1 from k0 4 1 rfl rfl]
  refine sd_local (wk_D2 k0 wk) (ws_D2 k0 ni (fun _ => rfl) h) (by rw [x12]; exact hy1) (by rw [show s0 4 1 = σ 4 1 from k0 4 1 rfl rfl]; exact cap) (fun s ks ws ⟨i9, i16⟩ hv => ?_)
  generalize hs : upC s 8 6 ((-1) : Int32) = t
  have kt : Kp [(8, 6), (8, 7), (8, 8)] [] s t := by
    rw [← hs]
    exact kp_f kp_rf rfl
  have et : clen t = clen s := by unfold clen; rw [show t 4 1 = s 4 1 from kt 4 1 rfl rfl]
  have tf : t 6 3 = s 6 3 := kt 6 3 rfl rfl
  refine k t (ko_tr (kl_wk0 (kdf_l k0)) (ko_tr (kl_wk0 ks) (kl_wk0 (ko_sub (ko_kp kt) (by decide) (by decide))))) (wk_D kt ws) ((kt 5 7 rfl rfl).trans ((ks 5 7 (op_lt (by decide)) rfl rfl).trans (k0 5 7 rfl rfl))) (fun hf => ?_)
  obtain ⟨f1, u1, g', sb, cl⟩ := hv (by rw [← tf]; exact hf)
  refine ⟨clen s, g', ?_, by omega⟩
  refine ws_D kt ?_
  rcases hM with ⟨-, rfl⟩ | ⟨-, rfl⟩
  · refine ⟨⟨n1, n2, sb.1.1⟩, se_nil (sh_sb ((sh_9 (Or.inr (by decide))).mpr (show SHx s g' b K X 0 (0 + 420) from sb)) (Nat.le_refl _)), u1, ?_, ⟨fun z => absurd z (by decide), fun _ => tp, h5⟩, fun z => absurd z (by decide), fun _ => ⟨fn_K (zc_s (by decide)) (fun z => absurd z (by decide)) f1, fun z => absurd rfl z⟩, fun _ => ⟨fun _ => Nat.le_refl _, fun _ => ?_⟩⟩
    · rw [nz_0 (Or.inr (by decide))]
      exact h4
    · rw [i9, x9]
      exact hy9
  · exact ⟨⟨n1, n2, sb.1.1⟩, se_nil sb, u1, h4, h5, fun z => absurd z (by decide), fun _ => ⟨f1, fun z => absurd rfl z⟩, fun z => absurd z ni⟩
/-- a parameter -/
theorem ws_param {Q : St → Prop} (wk : WKs ρ σ) (h : WSx ρ σ (F + 2) [] [] Nb b e0 H0 g X) (k : ∀ s, KWk σ s → WKs ρ s → (s 5 7) = (σ 5 7) → ((s 6 3).toInt = 0 → ∃ e1 g', WSx ρ s (F + 1) [] [] Nb b e1 0 g' X ∧ clen s ≤ clen σ) → Q s) : wk_X1_parameter a1 a2 σ Q := by
  obtain ⟨⟨n1, n2, n3⟩, h2, h3, h4, h5, h6, h7, h8⟩ := h
  have H00 : H0 = 0 := by
    by_cases c : H0 = 0
    · exact c
    · exfalso
      obtain ⟨⟨K2, e2⟩, -⟩ := (h7 (by omega)).2 c
      cases e2
  subst H00
  have fn := (h7 (by omega)).1
  have fn' := fn
  obtain ⟨d, -, -, -, -, -, -, -, -, a9, b1, b2, b3, b4, b5⟩ := fn'
  have ee := se_e0 h2
  have sb : SHx σ g b [] X 0 (0 + 420) := sb_nil h2
  have h0 := sb.2.2.2.1
  unfold wk_X1_parameter
  refine ⟨True, fun _ => fa_fail (by decide) (fun t ft fz => ?_), fun _ => trivial, fun _ => sp_localFrom wk.2.1.1 wk.2.1.2.2.2.1 (by decide) (fun v => ⟨fun _ => ?_, fun _ => trivial⟩)⟩
  · have ql := fa_l ft
    have e4 : (t 4 1) = (σ 4 1) := ft.1 4 1 rfl rfl
    have ecl : clen t = clen σ := by unfold clen; rw [e4]
    exact k t (kl_wk0 ql) (kl_wk wk ql (by rw [show t 6 15 = σ 6 15 from ft.1 6 15 rfl rfl]; exact wk.2.1.2.2.2.1) (fun j _ => ft.1 24 j rfl rfl) (by rw [ecl]; exact wk.2.2.1.2.2.2) (by rw [e4]; exact h0)) (ft.1 5 7 rfl rfl) (fun z => absurd z fz)
  · refine sp_declLocal (by omega) (by omega) (fun t kt l1 l2 l3 => ?_)
    have ql : KLx σ t := ko_sub (ko_kp kt) (by decide) (by decide)
    have e4 : (t 4 1) = (σ 4 1) := kt 4 1 rfl rfl
    have ecl : clen t = clen σ := by unfold clen; rw [e4]
    have w : (t 24) = (σ 24) := funext (fun j => kt 24 j rfl rfl)
    have sbt : SHx t g b [] X 0 (0 + 420) := sh_keep e4 (kt 7 7 rfl rfl) (kl_open ql) w (kl_rows ql) (kl_cp ql) sb
    refine k t (kl_wk0 ql) (kl_wk wk ql (by omega) (fun j _ => by rw [w]) (by rw [ecl]; exact wk.2.2.1.2.2.2) (by rw [e4]; exact h0)) (kt 5 7 rfl rfl) (fun _ => ⟨clen t, g, ⟨⟨n1, n2, sbt.1.1⟩, se_nil (sh_sb sbt (Nat.le_refl _)), kl_uf ql (fun j _ => by rw [w]) h3, h4, h5, fun z => absurd z (by omega), fun _ => ⟨kl_fn ql rfl (fun _ => rfl) (by omega) (by omega) (by omega) (fun j hj => ?_) fn, fun z => absurd rfl z⟩, fun z => absurd z (by rintro ⟨c1, K1, q, -⟩; cases q)⟩, by omega⟩)
    rw [l3 j]
    by_cases cc : (j : Int) = (σ 6 10).toInt
    · rw [if_pos cc]
      decide
    · rw [if_neg cc]
      exact b4 j (by omega)
end VA1
end

section
/-! the walk: declarations outside of functions -/
/-- entries of names' tokens, all of them -/
def NMr (σ : St) : Prop := ∀ j : Nat, ((σ 13) j).toInt = 2 → 0 ≤ ((σ 14) j).toInt ∧ ((σ 15) j).toInt + ((σ 14) j).toInt ≤ 16000
abbrev KUx (a b : St) : Prop := Kp [(6, 3), (6, 4), (6, 5), (6, 7), (5, 1), (5, 7), (8, 6), (8, 7), (8, 8), (8, 9), (8, 10), (8, 11), (8, 12), (8, 13), (8, 14), (8, 15), (8, 16)] [25, 26, 27, 28, 29, 30, 38, 39] a b
/-- one declaration of the unit changes, or comes -/
def DVx (σ s : St) (d : Nat) : Prop := KUx σ s ∧ ((s 5 1).toInt - (s 6 7).toInt = (σ 5 1).toInt - (σ 6 7).toInt ∧ 0 ≤ (s 6 7).toInt ∧ (s 6 7).toInt ≤ 100 ∧ (s 5 1).toInt ≤ 10100) ∧ ((σ 5 1).toInt - (σ 6 7).toInt ≤ d ∧ (d : Int) < (s 5 1).toInt) ∧
  (∀ j : Nat, j ≠ d → (s 25) j = (σ 25) j ∧ (s 26) j = (σ 26) j ∧ (s 27) j = (σ 27) j ∧ (s 28) j = (σ 28) j ∧ (s 29) j = (σ 29) j) ∧
  (∀ i : Nat, (i : Int) < (σ 6 7).toInt → (s 39) i = (σ 39) i) ∧ ((σ 5 1).toInt ≤ (s 5 1).toInt ∧ ∀ j : Nat, (σ 5 1).toInt ≤ j → (j : Int) < (s 5 1).toInt → j = d) ∧ (0 ≤ (s 5 7).toInt ∧ (NME σ → NME s))
/-- calls of it stay calls -/
def DCa (σ s : St) (d : Nat) : Prop := (d : Int) < (σ 5 1).toInt → ¬ FLb ((σ 25) d) 1 ∨ ((s 27) d = (σ 27) d ∧ FLb ((s 25) d) 1 ∧ (FLb ((σ 25) d) 8 → FLb ((s 25) d) 8))
section OU0
variable {σ s z t ρ : St} {g g' g1 : Gh} {X X0 Y : Nat → Prop} {b e e0 e' h h' H H0 H' L L' m n N N' Nb c d p tt j i F F' k B : Nat} {K K2 M E G D : List Nat} {A : List It} {x y v a op a1 a2 a3 : Int32}
theorem cp_dv (hv : DVx σ s d) (hd : DCa σ s d) : ∀ a m, CPu σ a m → CPu s a m := fun a m ⟨h1, h2, h3, h4, h5⟩ => by
  obtain ⟨k1, ⟨u1, u2, u3, u4⟩, ⟨d1, d2⟩, d3, d4, ⟨d5, d6⟩, d7⟩ := hv
  obtain ⟨c1, c2, c3, c4⟩ := h1
  have eq : (s 5 1).toInt - (s 6 7).toInt = (σ 5 1).toInt - (σ 6 7).toInt := u1
  obtain ⟨j, hj⟩ : ∃ j : Nat, a.toNat = j := ⟨_, rfl⟩
  have ct : (s 39) (a - ((s 5 1).toInt - (s 6 7).toInt)).toNat = (σ 39) (a - ((σ 5 1).toInt - (σ 6 7).toInt)).toNat := by
    rw [eq]
    exact d4 _ (by omega)
  refine ⟨⟨by omega, by omega, c3, c4⟩, ?_, ?_, by rw [ct]; exact h4, ?_⟩
  all_goals
    by_cases e : a.toNat = d
    · rw [e] at h2 h3 h5 ⊢
      rcases hd (by omega) with q | ⟨q1, q2, q3⟩
      · exact absurd h2 q
      · first
        | exact q2
        | exact q3 h3
        | (rw [q1]; exact h5)
    · obtain ⟨r1, r2, r3, r4, r5⟩ := d3 _ e
      first
      | (rw [r1]; exact h2)
      | (rw [r1]; exact h3)
      | (rw [r3]; exact h5)
theorem uf_dv (hv : DVx σ s d) (hd : DCa σ s d) (hσ : (σ 6 6).toInt = -1) (hw : ∀ j, j < N → (s 24) j = (σ 24) j) (hq : FLb ((s 25) d) 1 → FLb ((s 25) d) 4 → (s 6 6).toInt ≠ d → ∃ hd L g, ((s 28) d).toInt = (hd : Nat) ∧ FUNe (s 24) (CPu s) N hd (spar ((s 27) d)) L g) (h : UFx σ N) : UFx s N := fun d' q1 q2 q3 q4 q5 => by
  by_cases e : d' = d
  · subst e
    exact hq q3 q4 q5
  · obtain ⟨k1, ⟨u1, u2, u3, u4⟩, ⟨d1, d2⟩, d3, d4, ⟨d5, d6⟩, d7⟩ := hv
    obtain ⟨r1, r2, r3, r4, r5⟩ := d3 d' e
    rw [r1] at q3 q4
    have lt : (d' : Int) < (σ 5 1).toInt := by
      by_cases c : (d' : Int) < (σ 5 1).toInt
      · exact c
      · exact absurd (d6 d' (by omega) q2) e
    obtain ⟨hd', L, g, a1, a2⟩ := h d' (by omega) lt q3 q4 (by rw [hσ]; omega)
    exact ⟨hd', L, g, by rw [r4]; exact a1, by rw [r3]; exact fune_mono hw (cp_dv ⟨k1, ⟨u1, u2, u3, u4⟩, ⟨d1, d2⟩, d3, d4, ⟨d5, d6⟩, d7⟩ hd) (Nat.le_refl _) a2⟩
theorem wk_dv (h : WKs ρ σ) (hv : DVx σ s d) (k : KWk σ s) (hx : FLb ((s 25) d) 1 → spar ((s 27) d) ≤ 8) (hs : (s 6 15).toInt ≤ 1000 ∧ -1000 ≤ (s 6 15).toInt) (hw : ∀ j, j < clen ρ → (s 24) j = (σ 24) j) (hl : clen ρ ≤ clen s) (h0 : 0 ≤ (s 4 1).toInt) : WKs ρ s := by
  obtain ⟨h1, ⟨u1, u2, u3, u4, u5⟩, ⟨o1, o2, o3, o4⟩, h4, h5⟩ := h
  obtain ⟨k1, ⟨v1, v2, v3, v4⟩, ⟨d1, d2⟩, d3, d4, ⟨d5, d6⟩, d7⟩ := hv
  have e5 : (s 15) = (σ 15) := funext (fun j => k 15 j (op_lt (by decide)) rfl rfl)
  refine ⟨ko_tr h1 k, ⟨by unfold PLA; rw [e5]; exact u1, ⟨v2, v3⟩, ⟨by omega, v4⟩, hs, fun j q => ?_⟩, ⟨by omega, fun j hj => ?_, fun j hj => (hw j hj).trans (o3 j hj), hl⟩, h0, d7.1, d7.2 h5.2⟩
  · by_cases e : j = d
    · rw [e] at q ⊢
      exact hx q
    · obtain ⟨r1, r2, r3, r4, r5⟩ := d3 j e
      rw [r1] at q
      rw [r3]
      exact u5 j q
  · obtain ⟨r1, r2, r3, r4, r5⟩ := d3 j (by omega)
    rw [r1, r2, r3, r4, r5]
    exact o2 j hj
/-- one more declaration -/
theorem sp_declareOuter {Q : Int32 → St → Prop} (nm : NMr σ) (by' : ByteOK (σ 1)) (pl : PLA σ) (tk : tkx σ a1 = 2) (hd : 0 ≤ (σ 5 1).toInt ∧ (σ 5 1).toInt < 10100) (ho : 0 ≤ (σ 6 7).toInt ∧ (σ 6 7).toInt < 100) (hn : 0 ≤ (σ 5 7).toInt ∧ (σ 5 7).toInt + (vlx σ a1).toNat ≤ 65600) (k : ∀ (s : St) (v : Int32) (d : Nat), v.toInt = (d : Int) → (σ 5 1).toInt = d → Kp [(6, 7), (5, 1), (5, 7)] [25, 28, 29, 30, 38, 39] σ s → (s 6 7).toInt = (σ 6 7).toInt + 1 → (s 5 1).toInt = (σ 5 1).toInt + 1 → (s 5 7).toInt = (σ 5 7).toInt + (vlx σ a1).toNat → (∀ j : Nat, j ≠ d → (s 25) j = (σ 25) j ∧ (s 28) j = (σ 28) j ∧ (s 29) j = (σ 29) j) → (s 25) d = 0 → (∀ i : Nat, (i : Int) < (σ 6 7).toInt → (s 39) i = (σ 39) i) → (((s 29) d).toInt = (s 5 7).toInt ∧ (s 5 7).toInt ≤ 65600) → Q v s) : wk_X11_declareOuter a1 σ Q := by
  obtain ⟨j, hj, hjn, hk⟩ : ∃ j : Nat, a1.toInt = j ∧ j < 16002 ∧ ((σ 13) j).toInt = 2 := by
    unfold tkx at tk
    rcases atv_cases 16002 (σ 13) a1 with ⟨q1, q2⟩ | ⟨j, q1, q2, q3⟩
    · rw [q1] at tk
      exact absurd tk (by decide)
    · exact ⟨j, q1, q2, by rw [← q3]; exact tk⟩
  have ev : atv 16002 (σ 14) a1 = (σ 14) j := atv_at hj hjn
  have ep : atv 16002 (σ 15) a1 = (σ 15) j := atv_at hj hjn
  have vx : vlx σ a1 = ((σ 14) j).toInt := by unfold vlx; rw [ev]
  rw [vx] at hn k
  obtain ⟨n1, n2⟩ := nm j hk
  obtain ⟨p1, p2⟩ := pl j
  obtain ⟨d, ed⟩ : ∃ d : Nat, (σ 5 1).toInt = d := ⟨(σ 5 1).toInt.toNat, by omega⟩
  obtain ⟨o, eo⟩ : ∃ o : Nat, (σ 6 7).toInt = o := ⟨(σ 6 7).toInt.toNat, by omega⟩
  have dn : ((σ 5 1)).toNatClampNeg = d := by rw [nt', ed]; rfl
  unfold wk_X11_declareOuter
  rw [ep, ev, setv_at (v := ((-1) : Int32)) eo (by omega)]
  generalize hu : upC (upF (upF σ 38 (setv 100 (σ 38) (σ 6 7) a1)) 39 _) 6 7 ((σ 6 7) + (1 : Int32)) = u
  have u5 : ∀ q, u 5 q = σ 5 q := fun q => by rw [← hu, rdC_ne (by decide), rdF_ne (by decide), rdF_ne (by decide)]
  have u1 : u 1 = σ 1 := by rw [← hu, rdC_ne (by decide), rdF_ne (by decide), rdF_ne (by decide)]
  have u25 : u 25 = σ 25 := by rw [← hu, rdC_ne (by decide), rdF_ne (by decide), rdF_ne (by decide)]
  have u28 : u 28 = σ 28 := by rw [← hu, rdC_ne (by decide), rdF_ne (by decide), rdF_ne (by decide)]
  have u29 : u 29 = σ 29 := by rw [← hu, rdC_ne (by decide), rdF_ne (by decide), rdF_ne (by decide)]
  have u39 : u 39 = fun i => if i = o then ((-1) : Int32) else σ 39 i := by rw [← hu, rdC_ne (by decide), rdF_eq]; rfl
  have u67 : (u 6 7).toInt = (σ 6 7).toInt + 1 := by
    rw [← hu, rdA_eq rfl]
    show ((σ 6 7) + (1 : Int32)).toInt = _
    exact ad0 i1 (by omega) (by omega)
  have ku : Kp [(6, 7)] [38, 39] σ u := by
    rw [← hu]
    exact kp_f (kp_F (kp_F kp_rf rfl) rfl) rfl
  unfold wk_X8_declare_r1
  rw [u5 1, u5 7, u1, dn]
  have s1 : (((σ 15) j) + ((σ 14) j)).toInt = ((σ 15) j).toInt + ((σ 14) j).toInt := ad (by omega) (by omega)
  have s2 : ((σ 5 7) + ((σ 14) j)).toInt = (σ 5 7).toInt + ((σ 14) j).toInt := ad (by omega) (by omega)
  refine ⟨fun c => by omega, fun _ => ⟨fun c => by omega, fun _ => ⟨fun c => by omega, fun _ => ⟨fun c => by omega, fun _ => ⟨fun _ => ⟨⟨by omega, by omega, by omega, by omega, by omega, by'⟩, ⟨⟨by omega, by omega⟩, ?_⟩⟩, fun c => by omega⟩⟩⟩⟩⟩
  refine k _ _ d ed ed (kp_F (kp_F (kp_f (kp_a (kp_f (kp_F (kp_sub ku rfl rfl) rfl) rfl) rfl) rfl) rfl) rfl) ?_ ?_ ?_ (fun i hi => ⟨?_, ?_, ?_⟩) ?_ (fun i hi => ?_) ?_
  · rw [rdF_ne (by decide), rdF_ne (by decide), rdC_ne (by decide), rdC_ne (by decide), rdC_ne (by decide), rdF_ne (by decide)]
    exact u67
  · rw [rdF_ne (by decide), rdF_ne (by decide), rdA_eq rfl]
    exact ad0 i1 (by omega) (by omega)
  · rw [rdF_ne (by decide), rdF_ne (by decide), rdA_ne (by decide), rdC_ne (by decide), rdA_eq rfl, s2]
    omega
  · rw [rdF_ne (by decide), rdF_eq, setv_at ed (by omega)]
    show (if i = d then (0 : Int32) else _) = _
    rw [if_neg hi, rdC_ne (by decide), rdC_ne (by decide), rdC_ne (by decide), rdF_ne (by decide), u25]
  · rw [rdF_eq, setv_at ed (by omega)]
    show (if i = d then (0 : Int32) else _) = _
    rw [if_neg hi, rdF_ne (by decide), rdC_ne (by decide), rdC_ne (by decide), rdC_ne (by decide), rdF_ne (by decide), u28]
  · rw [rdF_ne (by decide), rdF_ne (by decide), rdC_ne (by decide), rdA_ne hi, rdC_ne (by decide), rdF_ne (by decide), u29]
  · rw [rdF_ne (by decide), rdF_eq, setv_at ed (by omega)]
    exact if_pos rfl
  · rw [rdF_ne (by decide), rdF_ne (by decide), rdC_ne (by decide), rdC_ne (by decide), rdC_ne (by decide), rdF_ne (by decide), u39]
    show (if i = o then ((-1) : Int32) else σ 39 i) = _
    rw [if_neg (by omega)]
  · rw [rdF_ne (by decide), rdF_ne (by decide), rdC_ne (by decide), rdA_eq rfl, rdF_ne (by decide), rdF_ne (by decide), rdA_ne (by decide), rdC_ne (by decide), rdA_eq rfl]
    exact ⟨rfl, by rw [s2]; omega⟩
end OU0
end

section
/-! the walk: a variable outside of functions -/
section OU1
variable {σ s z t ρ : St} {g g' g1 : Gh} {X X0 Y : Nat → Prop} {b e e0 e' h h' H H0 H' L L' m n N N' Nb c d p tt j i F F' k B : Nat} {K K2 M E G D : List Nat} {A : List It} {x y v a op a1 a2 a3 : Int32}
abbrev KDu (a b : St) : Prop := Kp [(6, 3), (6, 4), (6, 5), (8, 6), (8, 7), (8, 8), (8, 9), (8, 10), (8, 11), (8, 12), (8, 13), (8, 14), (8, 15), (8, 16)] [] a b
theorem dv_D (hv : DVx σ s d) (k : KDu s t) : DVx σ t d := by
  obtain ⟨k1, ⟨u1, u2, u3, u4⟩, ⟨d1, d2⟩, d3, d4, ⟨d5, d6⟩, d7⟩ := hv
  have e1 : t 5 1 = s 5 1 := k 5 1 rfl rfl
  have e2 : t 6 7 = s 6 7 := k 6 7 rfl rfl
  have r : ∀ c, ([25, 26, 27, 28, 29, 39] : List Nat).contains c = true → t c = s c := fun c hc => funext (fun j => k c j (by
    simp only [List.contains_cons, List.contains_nil, Bool.or_false, Bool.or_eq_true, beq_iff_eq] at hc
    rcases hc with q | q | q | q | q | q <;> subst q <;> rfl) rfl)
  refine ⟨kp_tr k1 (kp_sub k rfl rfl), by rw [e1, e2]; exact ⟨u1, u2, u3, u4⟩, ⟨d1, by rw [e1]; exact d2⟩, fun j hj => ?_, fun i hi => ?_, ⟨by rw [e1]; exact d5, fun j j1 j2 => d6 j j1 (by rw [← e1]; exact j2)⟩, by rw [show t 5 7 = s 5 7 from k 5 7 rfl rfl]; exact d7.1, fun z => (nme_k e1 (k 5 7 rfl rfl) (fun d => k 29 d rfl rfl) ⟨d7.1, d7.2 z⟩).2⟩
  · rw [r 25 rfl, r 26 rfl, r 27 rfl, r 28 rfl, r 29 rfl]
    exact d3 j hj
  · rw [r 39 rfl]
    exact d4 i hi
theorem dv_row {f : Nat → Int32} (hv : DVx σ s d) (hc : c = 25 ∨ c = 26 ∨ c = 27 ∨ c = 28) (hf : ∀ j, j ≠ d → f j = s c j) : DVx σ (upF s c f) d := by
  obtain ⟨k1, ⟨u1, u2, u3, u4⟩, ⟨d1, d2⟩, d3, d4, ⟨d5, d6⟩, d7⟩ := hv
  have c5 : 5 ≠ c := by omega
  have c6 : 6 ≠ c := by omega
  have e1 : (upF s c f) 5 1 = s 5 1 := by rw [rdF_ne c5]
  have e2 : (upF s c f) 6 7 = s 6 7 := by rw [rdF_ne c6]
  have r : ∀ c' j, j ≠ d → (upF s c f) c' j = s c' j := fun c' j hj => by
    by_cases e : c' = c
    · rw [e, rdF_eq]
      exact hf j hj
    · rw [rdF_ne e]
  have kk : KUx σ (upF s c f) := by
    rcases hc with q | q | q | q <;> subst q <;> exact kp_F k1 rfl
  refine ⟨kk, by rw [e1, e2]; exact ⟨u1, u2, u3, u4⟩, ⟨d1, by rw [e1]; exact d2⟩, fun j hj => ?_, fun i hi => ?_, ⟨by rw [e1]; exact d5, fun j j1 j2 => d6 j j1 (by rw [← e1]; exact j2)⟩, by rw [rdF_ne c5]; exact d7.1, fun z => (nme_k e1 (by rw [rdF_ne c5]) (fun d => by rw [rdF_ne (by omega)]) ⟨d7.1, d7.2 z⟩).2⟩
  · rw [r 25 j hj, r 26 j hj, r 27 j hj, r 28 j hj, r 29 j hj]
    exact d3 j hj
  · rw [rdF_ne (by omega)]
    exact d4 i hi
theorem flb_24 {f : Int32} (hf : f = 2 ∨ f = 4) (q : ¬ FLb x 1) : ¬ FLb (x ||| f) 1 := by
  unfold FLb at q ⊢
  rw [and_or]
  have z : f &&& 1 = 0 := by rcases hf with e | e <;> subst e <;> decide
  rw [z, Int32.or_zero]
  exact q
theorem is_all {f : Int32} {Q : Int32 → Prop} (k : ∀ v : Int32, (v.toInt = 0 → ¬ FLb (atv 10100 (σ 25) x) f) → (v.toInt ≠ 0 → FLb (atv 10100 (σ 25) x) f) → (v = 0 ∨ v = 1) → Q v) : wk_X8_is x f σ Q := sk_is (fun c => k 0 (fun _ => c) (fun n => absurd rfl n) (Or.inl rfl)) (fun c => k 1 (fun n => absurd n (by decide)) (fun _ => c) (Or.inr rfl))
theorem of_all {Q : Int32 → Prop} (hp : PLA σ) (ho : 0 ≤ (σ 6 7).toInt ∧ (σ 6 7).toInt ≤ 100) (hd : (σ 6 7).toInt ≤ (σ 5 1).toInt ∧ (σ 5 1).toInt ≤ 10100) (k : ∀ v : Int32, (0 ≤ v.toInt → (σ 5 1).toInt - (σ 6 7).toInt ≤ v.toInt ∧ v.toInt < (σ 5 1).toInt) → Q v) : wk_X11_outerOf y σ Q := sp_outerOf hp ho hd (k _ (fun c => absurd c (by decide))) (fun v h1 h2 => k v (fun _ => ⟨h1, h2⟩))
theorem sp_joins {Q : Int32 → Prop} (k0 : Q 0) (k1 : ¬ FLb (atv 10100 (σ 25) a1) 1 → Q 1) : wk_X1_joins a1 a2 σ Q := by
  unfold wk_X1_joins
  refine is_all (fun v18 hv _ _ => ?_)
  refine ⟨fun y => y.toInt ≠ 0 → v18.toInt = 0, fun y73 _ h73 => ?_, True, fun _ c => absurd rfl c, fun _ => trivial, fun c => ⟨fun _ => trivial, fun _ => ⟨fun _ => True, fun y52 _ _ => ⟨fun _ => True, fun y65 _ _ => ⟨fun _ => trivial, fun _ _ => c⟩, fun _ => trivial, fun _ => trivial⟩, fun _ => trivial, fun _ => trivial⟩⟩⟩
  refine ⟨fun _ => True, fun y99 _ _ => ?_, True, fun _ => trivial, fun _ => trivial, fun _ => ⟨fun _ => trivial, fun _ => ⟨fun _ => trivial, fun _ => trivial⟩⟩⟩
  refine ⟨fun _ => True, fun y123 _ _ => ⟨fun _ => k0, fun n73 => ⟨fun _ => k0, fun _ => ⟨fun _ => k0, fun _ => ⟨fun _ => k1 (hv (h73 n73)), fun _ => is_all (fun v _ _ _ => ⟨fun _ => k0, fun _ => k1 (hv (h73 n73))⟩)⟩⟩⟩⟩, True, fun _ => trivial, fun _ => trivial, fun _ => is_all (fun v _ _ _ => ⟨fun _ => trivial, fun _ => trivial⟩)⟩
theorem sp_checkOuter {Q : St → Prop} (k : ∀ s, FAi σ s → ((s 6 3).toInt = 0 → a3.toInt ≠ 0 ∧ (a2.toInt < 0 → (σ 6 7).toInt < 100)) → Q s) : wk_X1_checkOuter a1 a2 a3 σ Q := by
  unfold wk_X1_checkOuter
  refine ⟨fun s => FAi σ s ∧ ((s 6 3).toInt = 0 → a3.toInt ≠ 0), fun s hs => ⟨fun c => k s hs.1 (fun z => ⟨hs.2 z, fun z2 => by omega⟩), fun _ => ⟨fun c => k s hs.1 (fun z => ⟨hs.2 z, fun _ => by rw [← show s 6 7 = σ 6 7 from hs.1.1 6 7 rfl rfl]; exact c⟩), fun _ => fa_fail (by decide) (fun t ft fz => k t (fa_tr hs.1 ft) (fun z => absurd z fz))⟩⟩, fun c => ⟨fa_rf, fun _ => c⟩, fun _ => fa_fail (by decide) (fun t ft fz => ⟨ft, fun z => absurd z fz⟩)⟩
/-- a declaration that is no function's -/
def PVx (σ : St) (w : Nat) (y : Int32) (s : St) : Prop := ∃ d : Nat, y.toInt = d ∧ d < 10100 ∧ DVx σ s d ∧ ¬ FLb ((s 25) d) 1 ∧ ((d : Int) < (σ 5 1).toInt → ¬ FLb ((σ 25) d) 1) ∧ (s 8 9) = (σ 8 9) ∧ (s 5 7).toInt ≤ (σ 5 7).toInt + w
theorem pv_row {f : Nat → Int32} {w : Nat} (h : PVx σ w y s) (hc : c = 26 ∨ c = 27 ∨ c = 28) : PVx σ w y (upF s c (setv 10100 (s c) y v)) := by
  obtain ⟨d, h1, h2, h3, h4, h5, h6, h7⟩ := h
  rw [setv_at h1 h2]
  exact ⟨d, h1, h2, dv_row h3 (by omega) (fun j hj => if_neg hj), by rw [rdF_ne (by omega)]; exact h4, h5, by rw [rdF_ne (by omega)]; exact h6, by rw [rdF_ne (by omega)]; exact h7⟩
theorem pv_mark {Q : St → Prop} {w : Nat} (h : PVx σ w y s) (hf : v = 2 ∨ v = 4) (k : ∀ t, PVx σ w y t → t 8 = s 8 → t 6 = s 6 → Q t) : wk_X8_mark y v s Q := by
  obtain ⟨d, h1, h2, h3, h4, h5, h6, h7⟩ := h
  unfold wk_X8_mark
  rw [setv_at h1 h2, atv_at h1 h2]
  refine k _ ⟨d, h1, h2, dv_row h3 (Or.inl rfl) (fun j hj => if_neg hj), ?_, h5, by rw [rdF_ne (by decide)]; exact h6, by rw [rdF_ne (by decide)]; exact h7⟩ (rdF_ne (by decide)) (rdF_ne (by decide))
  rw [rdF_eq]
  show ¬ FLb (if d = d then _ else _) 1
  rw [if_pos rfl]
  exact flb_24 hf h4
theorem sp_outer {Q : St → Prop} (wk : WKs ρ σ) (nm : NMr σ) (by' : ByteOK (σ 1)) (tk : tkx σ a1 = 2) (hd : (σ 5 1).toInt - (σ 6 7).toInt ≤ 10000) (hn : (σ 5 7).toInt + (vlx σ a1).toNat ≤ 65600) (kf : ∀ s, FAi σ s → (s 6 3).toInt ≠ 0 → Q s) (k : ∀ s, PVx σ (vlx σ a1).toNat (s 8 10) s → Q s) : wk_X1_outer a1 a2 a3 σ Q := by
  obtain ⟨w1, ⟨u1, u2, u3, u4, u5⟩, w3, w4, w5⟩ := wk
  unfold wk_X1_outer
  refine of_all u1 u2 u3 (fun v5 hv5 => ?_)
  refine ⟨fun y => y.toInt ≠ 0 → 0 ≤ v5.toInt → ¬ FLb (atv 10100 (σ 25) v5) 1, fun y3 _ hy3 => sp_checkOuter (fun s34 f34 z34 => ?_), (v5.toInt < 0 ∨ ¬ FLb (atv 10100 (σ 25) v5) 1), fun hJ _ c => hJ.elim (fun n => by omega) id, fun c => Or.inl c, fun _ => sp_joins ⟨fun _ n => absurd rfl n, fun n => absurd rfl n⟩ (fun nf => ⟨fun n => absurd n (by decide), fun _ => Or.inr nf⟩)⟩
  refine ⟨fun _ => True, fun y1 _ _ => sp_checkSquare (fun s54 f54' => ?_), True, fun _ => trivial, fun _ => trivial, fun _ => ⟨fun _ => trivial, fun _ => trivial⟩⟩
  have f54 := fa_tr f34 f54'
  have z54 : (s54 6 3).toInt = 0 → y3.toInt ≠ 0 ∧ (v5.toInt < 0 → (σ 6 7).toInt < 100) := fun z => z34 (f54'.2 z)
  refine ⟨fun _ => True, fun y0 _ => ?_, fun _ => ⟨fun _ => trivial, fun _ => trivial⟩, fun _ => trivial⟩
  refine ⟨fun s => FAi σ s ∧ ((s 6 3).toInt = 0 → y3.toInt ≠ 0 ∧ (v5.toInt < 0 → (σ 6 7).toInt < 100)), fun s hs => ⟨fun hf => ?_, fun hf => kf s hs.1 hf⟩, fun _ => ⟨f54, z54⟩, fun _ => fa_fail (by decide) (fun t ft fz => ⟨fa_tr f54 ft, fun z => absurd z fz⟩)⟩
  obtain ⟨fs, zs⟩ := hs
  obtain ⟨m3, mo⟩ := zs hf
  have q := fs.1
  have ku : KUx σ s := kp_sub q rfl rfl
  have rc : ∀ c, c ≠ 6 → s c = σ c := fun c hc => funext (fun j => q c j (by
    simp only [List.contains_cons, List.contains_nil, Bool.or_false, Bool.or_eq_false_iff]
    exact ⟨by
      cases hh : ((c, j) == ((6 : Nat), (3 : Nat))) with
      | false => rfl
      | true => exact absurd (congrArg Prod.fst (eq_of_beq hh)) hc, by
      cases hh : ((c, j) == ((6 : Nat), (4 : Nat))) with
      | false => rfl
      | true => exact absurd (congrArg Prod.fst (eq_of_beq hh)) hc⟩) rfl)
  have e67 : s 6 7 = σ 6 7 := q 6 7 rfl rfl
  refine ⟨fun y s' => PVx σ (vlx σ a1).toNat y s' , fun y s141 hp => ?_, fun c0 => ?_, fun c0 => ?_⟩
  · -- the declaration is written
    have p1 : PVx σ (vlx σ a1).toNat y (upC s141 8 10 y) := by
      obtain ⟨d, h1, h2, h3, h4, h5, h6, h7⟩ := hp
      have kt : Kp [(8, 10)] [] s141 (upC s141 8 10 y) := kp_f kp_rf rfl
      exact ⟨d, h1, h2, dv_D h3 (kp_sub kt rfl rfl), by rw [rdC_ne (by decide)]; exact h4, h5, by rw [rdA_ne (by decide)]; exact h6, by rw [rdC_ne (by decide)]; exact h7⟩
    have p2 := pv_row (f := fun _ => 0) (c := 26) (v := s141 8 11) p1 (by decide)
    have p3 := pv_row (f := fun _ => 0) (c := 27) (v := s141 8 12) p2 (by decide)
    have x1 : (upC s141 8 10 y) 8 10 = y := rdA_eq rfl
    refine ⟨fun s192 => PVx σ (vlx σ a1).toNat (s192 8 10) s192, fun s192 hp2 => ?_, True, fun _ => ?_, fun _ => trivial, fun _ => ⟨fun _ => ?_, fun _ => trivial⟩⟩
    · refine ⟨fun s209 => PVx σ (vlx σ a1).toNat (s209 8 10) s209, fun s209 hp3 => ⟨fun s249 => PVx σ (vlx σ a1).toNat (s249 8 10) s249, fun s249 hp4 => by
        refine k _ ?_
        generalize ht : upC (upC s249 8 14 (s249 6 5)) 6 5 ((s249 6 5) + y0) = t
        have kt : Kp [(8, 14), (6, 5)] [] s249 t := by rw [← ht]; exact kp_f (kp_f kp_rf rfl) rfl
        obtain ⟨d, h1, h2, h3, h4, h5, h6, h7⟩ := hp4
        exact ⟨d, by rw [show t 8 10 = s249 8 10 from kt 8 10 rfl rfl]; exact h1, h2, dv_D h3 (kp_sub kt rfl rfl), by rw [show t 25 d = s249 25 d from kt 25 d rfl rfl]; exact h4, h5, (show t 8 9 = s249 8 9 from kt 8 9 rfl rfl).trans h6, by rw [show t 5 7 = s249 5 7 from kt 5 7 rfl rfl]; exact h7⟩, fun _ => hp3, fun _ => pv_mark hp3 (Or.inr rfl) (fun t ht t8 t6 => by
          have e8 : (upF t 28 (setv 10100 (t 28) (t 8 10) (t 6 5))) 8 10 = s209 8 10 := by rw [rdF_ne (by decide), t8]
          show PVx σ (vlx σ a1).toNat ((upF t 28 (setv 10100 (t 28) (t 8 10) (t 6 5))) 8 10) _
          rw [e8, t8]
          exact pv_row (f := fun _ => 0) ht (by decide))⟩, fun _ => hp2, fun _ => pv_mark hp2 (Or.inl rfl) (fun t ht t8 t6 => by
          show PVx σ (vlx σ a1).toNat (t 8 10) t
          rw [t8]
          exact ht)⟩
    · show PVx σ _ ((upF (upF (upC s141 8 10 y) 26 _) 27 _) 8 10) _
      rw [rdF_ne (by decide), rdF_ne (by decide), x1]
      exact p3
    · show PVx σ _ ((upF (upC s141 8 10 y) 26 _) 8 10) _
      rw [rdF_ne (by decide), x1]
      exact p2
  · -- it was there
    obtain ⟨v1, v2⟩ := hv5 c0
    obtain ⟨d, ed⟩ : ∃ d : Nat, v5.toInt = d := ⟨v5.toInt.toNat, by omega⟩
    have nf : ¬ FLb ((σ 25) d) 1 := by
      have := hy3 m3 c0
      rw [atv_at ed (by omega)] at this
      exact this
    exact ⟨d, ed, by omega, ⟨ku, by rw [rc 5 (by decide), e67]; exact ⟨rfl, by omega, by omega, by omega⟩, by rw [rc 5 (by decide)]; omega, fun j _ => by rw [rc 25 (by decide), rc 26 (by decide), rc 27 (by decide), rc 28 (by decide), rc 29 (by decide)]; exact ⟨rfl, rfl, rfl, rfl, rfl⟩, fun i _ => by rw [rc 39 (by decide)], ⟨by rw [rc 5 (by decide)]; omega, fun j j1 j2 => by rw [rc 5 (by decide)] at j2; omega⟩, by rw [rc 5 (by decide)]; exact w5.1, fun _ => (nme_k (by rw [rc 5 (by decide)]) (by rw [rc 5 (by decide)]) (fun d => by rw [rc 29 (by decide)]) w5).2⟩, by rw [rc 25 (by decide)]; exact nf, fun _ => nf, by rw [rc 8 (by decide)], by rw [rc 5 (by decide)]; omega⟩
  · -- it is new
    have o100 := mo c0
    have vs : vlx s a1 = vlx σ a1 := by unfold vlx; rw [rc 14 (by decide)]
    have ts : tkx s a1 = 2 := by unfold tkx at tk ⊢; rw [rc 13 (by decide)]; exact tk
    refine sp_declareOuter (by unfold NMr; rw [rc 13 (by decide), rc 14 (by decide), rc 15 (by decide)]; exact nm) (by rw [rc 1 (by decide)]; exact by') (by unfold PLA; rw [rc 15 (by decide)]; exact u1) ts (by rw [rc 5 (by decide)]; omega) (by rw [e67]; omega) (by rw [rc 5 (by decide), vs]; exact ⟨w5.1, hn⟩) (fun t v d hvd hsd kt o1 o2 o3 o4 o5 o6 o7 => ?_)
    rw [rc 5 (by decide)] at hsd o2 o3
    rw [e67] at o1 o6
    rw [vs] at o3
    refine ⟨d, hvd, by omega, ⟨kp_tr ku (kp_sub kt rfl rfl), ⟨by omega, by omega, by omega, by omega⟩, ⟨by omega, by omega⟩, fun j hj => ?_, fun i hi => by rw [o6 i hi, rc 39 (by decide)], ⟨by omega, fun j j1 j2 => by omega⟩, by omega, fun z => ⟨fun d' hd' => by rw [show d' = d from by omega]; exact o7.1, fun d' => by
      by_cases e : d' = d
      · rw [e, o7.1]
        exact ⟨by omega, o7.2⟩
      · rw [(o4 d' e).2.2, rc 29 (by decide)]
        exact z.2 d'⟩⟩, ?_, fun z => by omega, by rw [show t 8 9 = s 8 9 from kt 8 9 rfl rfl, rc 8 (by decide)], by omega⟩
    · obtain ⟨r1, r2, r3⟩ := o4 j hj
      rw [rc 25 (by decide)] at r1
      rw [rc 28 (by decide)] at r2
      rw [rc 29 (by decide)] at r3
      exact ⟨r1, by rw [show t 26 j = s 26 j from kt 26 j rfl rfl, rc 26 (by decide)], by rw [show t 27 j = s 27 j from kt 27 j rfl rfl, rc 27 (by decide)], r2, r3⟩
    · rw [o5]
      unfold FLb
      decide
end OU1
end

section
/-! the walk: a variable outside of functions, whole; a function's head -/
section FUH
variable {σ s z t ρ : St} {g g' g1 : Gh} {X X0 Y : Nat → Prop} {b e e0 e' h h' H H0 H' L L' m n N N' Nb c d p tt j i F F' k B : Nat} {K K2 M E G D : List Nat} {A : List It} {x y v a op a1 a2 a3 : Int32}
theorem uf_le (h : UFx σ N) (hN : N ≤ N') : UFx σ N' := fun d h1 h2 h3 h4 h5 => by
  obtain ⟨hd, L, g, a1, a2⟩ := h d h1 h2 h3 h4 h5
  exact ⟨hd, L, g, a1, fune_mono (fun _ _ => rfl) (fun _ _ q => q) hN a2⟩
theorem ku_rows (k : KUx σ s) : (s 24) = (σ 24) ∧ (s 4 1) = (σ 4 1) ∧ (s 7 7) = (σ 7 7) ∧ (s 9 5) = (σ 9 5) ∧ (s 6 6) = (σ 6 6) ∧ (s 6 15) = (σ 6 15) ∧ KWk σ s := ⟨funext (fun j => k 24 j rfl rfl), k 4 1 rfl rfl, k 7 7 rfl rfl, k 9 5 rfl rfl, k 6 6 rfl rfl, k 6 15 rfl rfl, ko_sub (ko_kp k) (by decide) (by decide)⟩
/-- a variable's step, outside of functions -/
theorem ws_var0 {Q : St → Prop} (wk : WKs ρ σ) (h : WSx ρ σ 0 K [] Nb b e0 H0 g X) (tp : tpK K) (nm : NMr σ) (by' : ByteOK (σ 1)) (tk : tkx σ a1 = 2) (hd : (σ 5 1).toInt - (σ 6 7).toInt ≤ 10000) (hn : (σ 5 7).toInt + (vlx σ a1).toNat ≤ 65600) (hM : (b4 a3 ∧ M = 9 :: K) ∨ (¬ b4 a3 ∧ M = K)) (k : ∀ s, KWk σ s → WKs ρ s → (s 5 7).toInt ≤ (σ 5 7).toInt + (vlx σ a1).toNat → ((s 6 3).toInt = 0 → ∃ Nb' b' e1 g' X', WSx ρ s 0 M [] Nb' b' e1 0 g' X' ∧ clen s ≤ clen σ) → Q s) : wk_X1_variable a1 a2 a3 σ Q := by
  obtain ⟨⟨n1, n2, n3⟩, h2, h3, h4, h5, h6, h7, h8⟩ := h
  obtain ⟨f0, hK⟩ := h6 rfl
  have K0 : K = [] := by
    rcases hK with q | ⟨c, q1, q2⟩
    · exact q
    · exfalso
      exact ini_tp tp ⟨c, [], q2, q1⟩
  subst K0
  have sb := sb_nil h2
  have ee := se_e0 h2
  have c00 := sb.2.2.1
  have l00 := sb.2.2.2.1
  have o00 : (σ 9 5).toInt = 0 := sb.2.2.2.2.1
  unfold wk_X1_variable
  refine ⟨fun _ => True, fun y0 _ _ => ?_, fun _ => trivial, fun _ => trivial⟩
  refine ⟨fun _ => True, fun y1 _ => ?_, fun _ => ⟨True, fun _ => trivial, fun _ => trivial, fun _ => ⟨fun _ => trivial, fun _ => trivial⟩⟩, fun _ => trivial⟩
  refine ⟨fun y => y = 0, fun y9 _ hy9 => ?_, fun _ => rfl, fun c => by omega⟩
  refine ⟨fun _ => True, fun y13 _ _ => ⟨fun _ => ?_, fun c => absurd (by rw [hy9]; rfl) c⟩, fun _ => trivial, fun _ => trivial⟩
  generalize hs0 : upC (upC (upC (upC (upC (upC σ 8 11 a2) 8 12 y1) 8 15 (0 : Int32)) 8 16 (0 : Int32)) 8 9 y9) 8 13 y13 = s0
  have k0 : KDF σ s0 := by
    rw [← hs0]
    exact kp_f (kp_f (kp_f (kp_f (kp_f (kp_f kp_rf rfl) rfl) rfl) rfl) rfl) rfl
  have x9 : s0 8 9 = y9 := by
    rw [← hs0, rdA_ne (by decide), rdA_eq rfl]
  have r0 : ∀ c, c ≠ 8 → s0 c = σ c := fun c hc => by
    rw [← hs0, rdC_ne hc, rdC_ne hc, rdC_ne hc, rdC_ne hc, rdC_ne hc, rdC_ne hc]
  have vs : vlx s0 a1 = vlx σ a1 := by unfold vlx; rw [r0 14 (by decide)]
  have ts : tkx s0 a1 = 2 := by unfold tkx at tk ⊢; rw [r0 13 (by decide)]; exact tk
  have fin : ∀ s, KWk σ s → WKs ρ s → UFx s Nb → (s 5 7).toInt ≤ (σ 5 7).toInt + (vlx σ a1).toNat → (s 8 9) = y9 → (s 7 7) = (σ 7 7) → (s 4 1) = (σ 4 1) → (s 9 5) = (σ 9 5) → (s 6 6) = (σ 6 6) → Q (upC s 8 6 ((-1) : Int32)) := fun s ks ws us ns is cs ls os fs => by
    generalize hs : upC s 8 6 ((-1) : Int32) = t
    have kt : Kp [(8, 6), (8, 7), (8, 8)] [] s t := by
      rw [← hs]
      exact kp_f kp_rf rfl
    have et : clen t = clen s := by unfold clen; rw [show t 4 1 = s 4 1 from kt 4 1 rfl rfl]
    have ets : clen s = clen σ := by unfold clen; rw [ls]
    refine k t (ko_tr ks (ko_sub (ko_kp kt) (by decide) (by decide))) (wk_D kt ws) (by rw [show t 5 7 = s 5 7 from kt 5 7 rfl rfl]; exact ns) (fun _ => ?_)
    have mk : ∀ M', (M' = [] ∨ M' = [9]) → ∃ Nb' b' e1 g' X', WSx ρ s 0 M' [] Nb' b' e1 0 g' X' ∧ clen t ≤ clen σ := fun M' hM' => by
      have hM2 : M' = [] ∨ ∃ c, 9 ≤ c ∧ M' = [c] := hM'.imp id (fun q => ⟨9, by decide, q⟩)
      obtain ⟨g', sb'⟩ := sb_fresh (s := s) (K := M') (by rw [cs]; exact c00) (by rw [ls]; exact l00) (by rw [os]; exact o00) hM2
      refine ⟨Nb, clen s, clen s, g', _, ⟨⟨n1, by omega, Nat.le_refl _⟩, se_nil sb', us, ?_, ?_, fun _ => ⟨by rw [fs]; exact f0, hM2⟩, fun z => absurd z (by decide), fun _ => ⟨fun q => absurd (by rw [is, hy9]; rfl) q, fun q => absurd q (by decide)⟩⟩, by omega⟩
      · rcases hM' with q | q
        · rw [q]
          decide
        · rw [q]
          decide
      · rcases hM' with q | q
        · rw [q]
          exact trivial
        · rw [q]
          exact ⟨fun z => absurd z (by decide), fun _ => Or.inl rfl, trivial⟩
    have up : ∀ M', (∃ Nb' b' e1 g' X', WSx ρ s 0 M' [] Nb' b' e1 0 g' X' ∧ clen t ≤ clen σ) → ∃ Nb' b' e1 g' X', WSx ρ t 0 M' [] Nb' b' e1 0 g' X' ∧ clen t ≤ clen σ := fun M' ⟨Nb', b', e1, g', X', q1, q2⟩ => ⟨Nb', b', e1, g', X', ws_D kt q1, q2⟩
    rcases hM with ⟨-, rfl⟩ | ⟨-, rfl⟩
    · exact up _ (mk _ (Or.inr rfl))
    · exact up _ (mk _ (Or.inl rfl))
  have uf0 : UFx s0 Nb := kl_uf (kdf_l k0) (fun j _ => by rw [r0 24 (by decide)]) h3
  refine sp_outer (wk_D2 k0 wk) (by unfold NMr; rw [r0 13 (by decide), r0 14 (by decide), r0 15 (by decide)]; exact nm) (by rw [r0 1 (by decide)]; exact by') ts (by rw [r0 5 (by decide), r0 6 (by decide)]; exact hd) (by rw [r0 5 (by decide), vs]; exact hn) (fun s fs ff => ?_) (fun s hp => ?_)
  · have q := fs.1
    have ql := fa_l fs
    have kz : KWk σ s := ko_tr (kl_wk0 (kdf_l k0)) (kl_wk0 ql)
    have e4 : (s 4 1) = (s0 4 1) := q 4 1 rfl rfl
    have ecl : clen s = clen s0 := by unfold clen; rw [e4]
    have w0 := wk_D2 k0 wk
    refine fin s kz (kl_wk w0 ql (by rw [show s 6 15 = s0 6 15 from q 6 15 rfl rfl]; exact w0.2.1.2.2.2.1) (fun j _ => q 24 j rfl rfl) (by rw [ecl]; exact w0.2.2.1.2.2.2) (by rw [e4]; exact w0.2.2.2.1)) (kl_uf ql (fun j _ => q 24 j rfl rfl) uf0) (by rw [show s 5 7 = s0 5 7 from q 5 7 rfl rfl, r0 5 (by decide)]; omega) ((show s 8 9 = s0 8 9 from q 8 9 rfl rfl).trans x9) ((show s 7 7 = s0 7 7 from q 7 7 rfl rfl).trans (by rw [r0 7 (by decide)])) (e4.trans (by rw [r0 4 (by decide)])) ((show s 9 5 = s0 9 5 from q 9 5 rfl rfl).trans (by rw [r0 9 (by decide)])) ((show s 6 6 = s0 6 6 from q 6 6 rfl rfl).trans (by rw [r0 6 (by decide)]))
  · obtain ⟨d, h1, h2', dv, nf, nf0, il, nd⟩ := hp
    rw [vs, r0 5 (by decide)] at nd
    obtain ⟨r1, r2, r3, r4, r5, r6, r7⟩ := ku_rows dv.1
    have w0 := wk_D2 k0 wk
    have ecl : clen s = clen s0 := by unfold clen; rw [r2]
    refine fin s (ko_tr (kl_wk0 (kdf_l k0)) r7) (wk_dv w0 dv r7 (fun q => absurd q nf) (by rw [r6]; exact w0.2.1.2.2.2.1) (fun j _ => by rw [r1]) (by rw [ecl]; exact w0.2.2.1.2.2.2) (by rw [r2]; exact w0.2.2.2.1)) (uf_dv dv (fun q => Or.inl (nf0 q)) (by rw [r0 6 (by decide)]; exact f0) (fun j _ => by rw [r1]) (fun q => absurd q nf) uf0) nd (il.trans x9) (r3.trans (by rw [r0 7 (by decide)])) (r2.trans (by rw [r0 4 (by decide)])) (r4.trans (by rw [r0 9 (by decide)])) (r5.trans (by rw [r0 6 (by decide)]))
end FUH
end

section
/-! the walk: a function's head, whole -/
section FU2
variable {σ s z t ρ : St} {g g' g1 : Gh} {X X0 Y : Nat → Prop} {b e e0 e' h h' H H0 H' L L' m n N N' Nb c d p tt j i F F' k B : Nat} {K K2 M E G D : List Nat} {A : List It} {x y v a op a1 a2 a3 : Int32}
/-- a function's declaration, while its head is written: q 0 nothing, 1 its flag, 2 its signature -/
def PFx (σ : St) (sig : Int32) (w q : Nat) (y : Int32) (s : St) : Prop := ∃ d : Nat, y.toInt = d ∧ d < 10100 ∧ DVx σ s d ∧ (1 ≤ q → FLb ((s 25) d) 1) ∧ (2 ≤ q → (s 27) d = sig) ∧
  ((d : Int) < (σ 5 1).toInt → FLb ((σ 25) d) 1 ∧ (σ 27) d = sig ∧ (s 27) d = sig ∧ ((s 25) d &&& 4 = (σ 25) d &&& 4) ∧ (FLb ((σ 25) d) 8 → FLb ((s 25) d) 8) ∧ (s 28) d = (σ 28) d ∧ FLb ((s 25) d) 1) ∧ ((σ 5 1).toInt ≤ d → ¬ FLb ((s 25) d) 4) ∧ (s 5 7).toInt ≤ (σ 5 7).toInt + w
theorem flb_3 : FLb (x ||| (3 : Int32)) 1 := by
  have e : (x ||| (3 : Int32)) = (x ||| 2) ||| 1 := by
    rw [Int32.or_assoc, show ((2 : Int32) ||| 1) = 3 from by decide]
  rw [e]
  exact flb_set (by decide)
theorem pf_mark {Q : St → Prop} {w : Nat} {sig : Int32} (h : PFx σ sig w 0 y s) (hf : v = 1 ∨ v = 3) (k : ∀ t, PFx σ sig w 1 y t → (∀ c, c ≠ 25 → t c = s c) → Q t) : wk_X8_mark y v s Q := by
  obtain ⟨d, h1, h2, h3, h4, h5, h6, h7, h8⟩ := h
  unfold wk_X8_mark
  rw [setv_at h1 h2, atv_at h1 h2]
  have z4 : v &&& 4 = 0 := by rcases hf with e | e <;> subst e <;> decide
  have z8 : v &&& 8 = 0 := by rcases hf with e | e <;> subst e <;> decide
  have b4' : ((s 25) d ||| v) &&& 4 = (s 25) d &&& 4 := by rw [and_or, z4, Int32.or_zero]
  have b8' : ((s 25) d ||| v) &&& 8 = (s 25) d &&& 8 := by rw [and_or, z8, Int32.or_zero]
  have b1' : FLb ((s 25) d ||| v) 1 := by
    rcases hf with e | e
    · subst e
      exact flb_set (by decide)
    · subst e
      exact flb_3
  have fd : (upF s 25 (fun k => if k = d then (s 25) d ||| v else (s 25) k)) 25 d = (s 25) d ||| v := by
    rw [rdF_eq]
    exact if_pos rfl
  have fo : ∀ c, c ≠ 25 → (upF s 25 (fun k => if k = d then (s 25) d ||| v else (s 25) k)) c = s c := fun c hc => rdF_ne hc
  refine k _ ⟨d, h1, h2, dv_row h3 (Or.inl rfl) (fun j hj => if_neg hj), fun _ => by rw [fd]; exact b1', fun c => absurd c (by decide), fun c => ?_, fun c => ?_, by rw [fo 5 (by decide)]; exact h8⟩ fo
  · obtain ⟨q1, q2, q3, q4, q5, q6, q7⟩ := h6 c
    refine ⟨q1, q2, by rw [fo 27 (by decide)]; exact q3, by rw [fd, b4']; exact q4, fun z => ?_, by rw [fo 28 (by decide)]; exact q6, by rw [fd]; exact b1'⟩
    have := q5 z
    unfold FLb at this ⊢
    rw [fd, b8']
    exact this
  · have := h7 c
    unfold FLb at this ⊢
    rw [fd, b4']
    exact this
theorem pf_ext {w : Nat} {sig : Int32} (h : PFx σ sig w 1 y s) : PFx σ sig w 2 y (upF (upF s 26 (setv 10100 (s 26) y v)) 27 (setv 10100 ((upF s 26 (setv 10100 (s 26) y v)) 27) y sig)) := by
  obtain ⟨d, h1, h2, h3, h4, h5, h6, h7, h8⟩ := h
  rw [setv_at h1 h2, setv_at h1 h2]
  have dv1 : DVx σ (upF s 26 (fun k => if k = d then v else s 26 k)) d := dv_row h3 (Or.inr (Or.inl rfl)) (fun j hj => if_neg hj)
  generalize hz : upF (upF s 26 (fun k => if k = d then v else s 26 k)) 27 (fun k => if k = d then sig else (upF s 26 (fun k => if k = d then v else s 26 k)) 27 k) = z
  have dv2 : DVx σ z d := by
    rw [← hz]
    exact dv_row dv1 (Or.inr (Or.inr (Or.inl rfl))) (fun j hj => if_neg hj)
  have ed : z 27 d = sig := by
    rw [← hz, rdF_eq]
    exact if_pos rfl
  have r : ∀ c, c ≠ 26 → c ≠ 27 → z c = s c := fun c c1 c2 => by rw [← hz, rdF_ne c2, rdF_ne c1]
  refine ⟨d, h1, h2, dv2, fun _ => by rw [r 25 (by decide) (by decide)]; exact h4 (Nat.le_refl _), fun _ => ed, fun c => ?_, fun c => by rw [r 25 (by decide) (by decide)]; exact h7 c, by rw [r 5 (by decide) (by decide)]; exact h8⟩
  obtain ⟨q1, q2, q3, q4, q5, q6, q7⟩ := h6 c
  exact ⟨q1, q2, ed, by rw [r 25 (by decide) (by decide)]; exact q4, by rw [r 25 (by decide) (by decide)]; exact q5, by rw [r 28 (by decide) (by decide)]; exact q6, by rw [r 25 (by decide) (by decide)]; exact q7⟩
/-- where all of a function's head is written but its body -/
theorem sp_func {Q : St → Prop} (wk : WKs ρ σ) (nm : NMr σ) (by' : ByteOK (σ 1)) (tk : tkx σ a1 = 2) (hd : (σ 5 1).toInt - (σ 6 7).toInt ≤ 10000) (hn : (σ 5 7).toInt + (vlx σ a1).toNat ≤ 65600) (kf : ∀ s, FAi σ s → (s 6 3).toInt ≠ 0 → Q s) (k0 : ¬ b4 a3 → ∀ s y, PFx σ a2 (vlx σ a1).toNat 2 y s → Q s) (k1 : b4 a3 → ∀ s y, PFx σ a2 (vlx σ a1).toNat 2 y s → (∀ d : Nat, y.toInt = d → (d : Int) < (σ 5 1).toInt → ¬ FLb ((σ 25) d) 4) → wk_X8_mark y 4 s (fun s234 => wk_X0_header s234 (fun v250 s250 => wk_X11_enter y (upF s250 28 (setv 10100 (s250 28) y v250)) (fun s262 => Q s262)))) : wk_X1_function a1 a2 a3 σ Q := by
  obtain ⟨w1, ⟨u1, u2, u3, u4, u5⟩, w3, w4, w5⟩ := wk
  unfold wk_X1_function
  refine ⟨fun _ => True, fun y20 _ _ => ?_, fun _ => trivial, fun _ => trivial⟩
  refine ⟨fun y => (y.toInt = 0 ↔ ¬ b4 a3), fun y33 _ hy33 => ?_, fun c => ⟨fun _ q => q c, fun _ => rfl⟩, fun c => ⟨fun q => absurd q (by decide), fun q => absurd c q⟩⟩
  refine of_all u1 u2 u3 (fun v5 hv5 => ?_)
  let OK : Prop := 0 ≤ v5.toInt → FLb (atv 10100 (σ 25) v5) 1 ∧ (atv 10100 (σ 27) v5).toInt = a2.toInt ∧ (y33.toInt ≠ 0 → ¬ FLb (atv 10100 (σ 25) v5) 4)
  have nk : (0 : Int32).toInt ≠ 0 → OK := fun c => absurd rfl c
  refine ⟨fun y => y.toInt ≠ 0 → OK, fun y3 _ hy3 => sp_checkOuter (fun s34 f34 z34 => ⟨fun hf => ?_, fun hf => kf s34 f34 hf⟩), OK, fun hJ _ => hJ, fun c n => by omega, fun c5 => is_all (fun v57 _ i57 _ => ⟨True, fun _ => nk, fun _ => trivial, fun n57 => ⟨fun _ => trivial, fun _ => ⟨fun _ => trivial, fun cx => is_all (fun v103 _ _ _ => ⟨fun _ => trivial, fun _ => ⟨fun c0 _ => ⟨i57 n57, cx, fun n => absurd c0 n⟩, fun c0 => is_all (fun v123 n123 _ _ => ⟨fun _ => trivial, fun c4 _ => ⟨i57 n57, cx, fun _ => n123 c4⟩⟩)⟩⟩)⟩⟩⟩)⟩
  obtain ⟨m3, mo⟩ := z34 hf
  have ok := hy3 m3
  have q := f34.1
  have ku : KUx σ s34 := kp_sub q rfl rfl
  have rc : ∀ c, c ≠ 6 → s34 c = σ c := fun c hc => funext (fun j => q c j (by
    simp only [List.contains_cons, List.contains_nil, Bool.or_false, Bool.or_eq_false_iff]
    exact ⟨by
      cases hh : ((c, j) == ((6 : Nat), (3 : Nat))) with
      | false => rfl
      | true => exact absurd (congrArg Prod.fst (eq_of_beq hh)) hc, by
      cases hh : ((c, j) == ((6 : Nat), (4 : Nat))) with
      | false => rfl
      | true => exact absurd (congrArg Prod.fst (eq_of_beq hh)) hc⟩) rfl)
  have e67 : s34 6 7 = σ 6 7 := q 6 7 rfl rfl
  let NB : Int32 → Prop := fun y => y33.toInt ≠ 0 → ∀ d : Nat, y.toInt = d → (d : Int) < (σ 5 1).toInt → ¬ FLb ((σ 25) d) 4
  refine ⟨fun y s => PFx σ a2 (vlx σ a1).toNat 0 y s ∧ NB y, fun y s174 hp => ?_, fun c0 => ?_, fun c0 => ?_⟩
  · refine ⟨fun f => f = 1 ∨ f = 3, fun f hf2 => pf_mark hp.1 hf2 (fun s192 hp2 _ => ⟨fun c => k0 (hy33.mp c) _ y (pf_ext hp2), fun c => k1 ?_ _ y (pf_ext hp2) (hp.2 c)⟩), fun _ => Or.inl rfl, fun _ => Or.inr rfl⟩
    by_cases cb : b4 a3
    · exact cb
    · exact absurd (hy33.mpr cb) c
  · obtain ⟨v1, v2⟩ := hv5 c0
    obtain ⟨d, ed⟩ : ∃ d : Nat, v5.toInt = d := ⟨v5.toInt.toNat, by omega⟩
    obtain ⟨o1, o2, o3⟩ := ok c0
    rw [atv_at ed (by omega)] at o1 o2 o3
    have ex : (σ 27) d = a2 := Int32.toInt_inj.mp o2
    refine ⟨⟨d, ed, by omega, ⟨ku, by rw [rc 5 (by decide), e67]; exact ⟨rfl, by omega, by omega, by omega⟩, by rw [rc 5 (by decide)]; omega, fun j _ => by rw [rc 25 (by decide), rc 26 (by decide), rc 27 (by decide), rc 28 (by decide), rc 29 (by decide)]; exact ⟨rfl, rfl, rfl, rfl, rfl⟩, fun i _ => by rw [rc 39 (by decide)], ⟨by rw [rc 5 (by decide)]; omega, fun j j1 j2 => by rw [rc 5 (by decide)] at j2; omega⟩, by rw [rc 5 (by decide)]; exact w5.1, fun _ => (nme_k (by rw [rc 5 (by decide)]) (by rw [rc 5 (by decide)]) (fun d => by rw [rc 29 (by decide)]) w5).2⟩, fun c => absurd c (by decide), fun c => absurd c (by decide), fun _ => ⟨o1, ex, by rw [rc 27 (by decide)]; exact ex, by rw [rc 25 (by decide)], fun z => by rw [rc 25 (by decide)]; exact z, by rw [rc 28 (by decide)], by rw [rc 25 (by decide)]; exact o1⟩, fun c => by omega, by rw [rc 5 (by decide)]; omega⟩, fun c d' hd' _ => ?_⟩
    have : d' = d := by omega
    rw [this]
    exact o3 c
  · have o100 := mo c0
    have vs : vlx s34 a1 = vlx σ a1 := by unfold vlx; rw [rc 14 (by decide)]
    have ts : tkx s34 a1 = 2 := by unfold tkx at tk ⊢; rw [rc 13 (by decide)]; exact tk
    refine sp_declareOuter (by unfold NMr; rw [rc 13 (by decide), rc 14 (by decide), rc 15 (by decide)]; exact nm) (by rw [rc 1 (by decide)]; exact by') (by unfold PLA; rw [rc 15 (by decide)]; exact u1) ts (by rw [rc 5 (by decide)]; omega) (by rw [e67]; omega) (by rw [rc 5 (by decide), vs]; exact ⟨w5.1, hn⟩) (fun t v d hvd hsd kt o1 o2 o3 o4 o5 o6 o7 => ?_)
    rw [rc 5 (by decide)] at hsd o2 o3
    rw [e67] at o1 o6
    rw [vs] at o3
    refine ⟨⟨d, hvd, by omega, ⟨kp_tr ku (kp_sub kt rfl rfl), ⟨by omega, by omega, by omega, by omega⟩, ⟨by omega, by omega⟩, fun j hj => ?_, fun i hi => by rw [o6 i hi, rc 39 (by decide)], ⟨by omega, fun j j1 j2 => by omega⟩, by omega, fun z => ⟨fun d' hd' => by rw [show d' = d from by omega]; exact o7.1, fun d' => by
      by_cases e : d' = d
      · rw [e, o7.1]
        exact ⟨by omega, o7.2⟩
      · rw [(o4 d' e).2.2, rc 29 (by decide)]
        exact z.2 d'⟩⟩, fun c => absurd c (by decide), fun c => absurd c (by decide), fun c => by omega, fun _ => ?_, by omega⟩, fun _ d' hd' hlt => by omega⟩
    · obtain ⟨r1, r2, r3⟩ := o4 j hj
      rw [rc 25 (by decide)] at r1
      rw [rc 28 (by decide)] at r2
      rw [rc 29 (by decide)] at r3
      exact ⟨r1, by rw [show t 26 j = s34 26 j from kt 26 j rfl rfl, rc 26 (by decide)], by rw [show t 27 j = s34 27 j from kt 27 j rfl rfl, rc 27 (by decide)], r2, r3⟩
    · rw [o5]
      unfold FLb
      decide
end FU2
end

