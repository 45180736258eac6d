/-! the walk: a size is told, a local is declared -/
def FAi (a b : St) : Prop := Kp [(6, 3), (6, 4)] [] a b ∧ ((b 6 3).toInt = 0 → (a 6 3).toInt = 0)
section DLO
variable {σ s z t ρ : St} {g g' g1 : Gh} {X X0 Y : Nat → Prop} {b e e0 e' h h' H H0 H' L L' m n N N' Nb c d p tt j i F F' k B : Nat} {K K2 M E G D : List Nat} {A : List It} {x y v a op a1 a2 a3 : Int32}
theorem fa_rf : FAi σ σ := ⟨kp_rf, id⟩
theorem fa_tr (h : FAi σ s) (q : FAi s t) : FAi σ t := ⟨kp_tr h.1 q.1, fun c => h.2 (q.2 c)⟩
theorem fa_fail {Q : St → Prop} (hx : x.toInt ≠ 0) (k : ∀ s, FAi σ s → (s 6 3).toInt ≠ 0 → Q s) : wk_X11_fail x y σ Q := sp_ufail hx (fun s ks fs => k s ⟨ks, fun c => absurd c fs⟩ fs)
theorem fa_l (h : FAi σ s) : KLx σ s := ko_sub (ko_kp h.1) (by decide) (by decide)
theorem sp_checkSquare {Q : St → Prop} (k : ∀ s, FAi σ s → Q s) : wk_X1_checkSquare x σ Q := by
  unfold wk_X1_checkSquare
  refine ⟨FAi σ, fun s hs => ⟨fun _ => k s hs, fun _ => ⟨fun _ => k s hs, fun _ => fa_fail (by decide) (fun t ht _ => k t (fa_tr hs ht))⟩⟩, fun _ => fa_rf, fun _ => ⟨True, fun _ => fa_fail (by decide) (fun t ht _ => ht), fun _ => ⟨fun _ => fa_rf, fun _ => trivial⟩, fun _ => ⟨fun _ => fa_rf, fun _ => trivial⟩⟩⟩
theorem sp_declLocal {Q : St → Prop} (hl : 0 ≤ (σ 6 10).toInt ∧ (σ 6 10).toInt < 100) (hs : 0 ≤ (σ 6 15).toInt ∧ (σ 6 15).toInt ≤ 200) (k : ∀ s, Kp [(6, 10), (6, 15)] [40, 41, 42, 43, 44] σ s → (s 6 10).toInt = (σ 6 10).toInt + 1 → (s 6 15).toInt = (σ 6 15).toInt + 1 → (∀ j : Nat, (s 42) j = if (j : Int) = (σ 6 10).toInt then a3 else (σ 42) j) → Q s) : wk_X11_declareLocal a1 a2 a3 σ Q := by
  have en := nt hl.1
  obtain ⟨l, el⟩ : ∃ l : Nat, (σ 6 10).toInt = l := ⟨_, en.symm⟩
  unfold wk_X11_declareLocal
  refine ⟨fun _ => True, fun y2 _ _ => ?_, fun _ => trivial, fun _ => trivial⟩
  refine k _ (kp_f (kp_f (kp_F (kp_F (kp_F (kp_F (kp_F kp_rf rfl) rfl) rfl) rfl) rfl) rfl) rfl) ?_ ?_ (fun j => ?_)
  · rw [rdA_ne (by decide), rdA_eq rfl]
    show ((σ 6 10) + (1 : Int32)).toInt = _
    exact ad0 i1 (by omega) (by omega)
  · rw [rdA_eq rfl]
    show ((σ 6 15) + (1 : Int32)).toInt = _
    exact ad0 i1 (by omega) (by omega)
  · rw [rdC_ne (by decide), rdC_ne (by decide), rdF_ne (by decide), rdF_ne (by decide), rdF_eq]
    show setv 100 (σ 42) (σ 6 10) a3 j = _
    rw [setv_at el (by omega), el]
    show (if j = l then a3 else σ 42 j) = _
    by_cases c : j = l
    · rw [if_pos c, if_pos (by omega)]
    · rw [if_neg c, if_neg (by omega)]
theorem se_e0 (h : SE σ g b K X H0 e0 []) : e0 = clen σ := by
  obtain ⟨⟨h1, h2, h3, Hh, Xh, h4⟩, -⟩ := h
  obtain ⟨e, -⟩ := h4
  exact e.symm
theorem ws_D (q : Kp [(8, 6), (8, 7), (8, 8)] [] σ s) (h : WSx ρ σ F K [] Nb b e0 H0 g X) : WSx ρ s F K [] Nb b e0 H0 g X := by
  obtain ⟨n, h2, h3, h4, h5, h6, h7, h8⟩ := h
  have ql : KLx σ s := ko_sub (ko_kp q) (by decide) (by decide)
  have e4 : (s 4 1) = (σ 4 1) := q 4 1 rfl rfl
  have ecl : clen s = clen σ := by unfold clen; rw [e4]
  have w : (s 24) = (σ 24) := funext (fun j => q 24 j rfl rfl)
  have sb := sb_nil h2
  have sb' : SB s g b K X H0 := sh_keep (B := H0 + 420) e4 (q 7 7 rfl rfl) (kl_open ql) w (kl_rows ql) (kl_cp ql) sb
  have ee := se_e0 h2
  refine ⟨n, by rw [ee, ← ecl]; exact se_nil sb', kl_uf ql (fun j _ => by rw [w]) h3, h4, h5, fun c => by rw [show s 6 6 = σ 6 6 from q 6 6 rfl rfl]; exact h6 c, fun c => ⟨?_, fun z => by rw [show s 8 16 = σ 8 16 from q 8 16 rfl rfl]; exact (h7 c).2 z⟩, fun c => by rw [show s 8 9 = σ 8 9 from q 8 9 rfl rfl]; exact h8 c⟩
  have f := (h7 c).1
  have f' := f
  obtain ⟨d, -, -, -, -, -, -, -, -, a9, b1, -, -, b4, b5⟩ := f'
  have r4 : (s 6 10) = (σ 6 10) := q 6 10 rfl rfl
  have r5 : (s 6 15) = (σ 6 15) := q 6 15 rfl rfl
  exact kl_fn ql rfl b5 (by rw [r4]; exact a9.2) (by rw [r4]; omega) (by rw [r4, r5]; exact b1) (fun j hj => by rw [show (s 42) j = (σ 42) j from q 42 j rfl rfl]; exact b4 j (by rw [← r4]; exact hj)) f
theorem wk_D (q : Kp [(8, 6), (8, 7), (8, 8)] [] σ s) (h : WKs ρ σ) : WKs ρ s := by
  have ql : KLx σ s := ko_sub (ko_kp q) (by decide) (by decide)
  have e4 : (s 4 1) = (σ 4 1) := q 4 1 rfl rfl
  have ecl : clen s = clen σ := by unfold clen; rw [e4]
  exact kl_wk h ql (by rw [show s 6 15 = σ 6 15 from q 6 15 rfl rfl]; exact h.2.1.2.2.2.1) (fun j _ => q 24 j rfl rfl) (by rw [ecl]; exact h.2.2.1.2.2.2) (by rw [e4]; exact h.2.2.2.1)
/-- a local: its declaration and its first value -/
theorem sd_local {Q : St → Prop} (wk : WKs ρ σ) (h : WSx ρ σ 1 K [] Nb b e0 0 g X) (hx : (σ 8 12).toInt ≤ 4000) (cap : (σ 4 1).toInt ≤ 262150) (k : ∀ s, KLx σ s → WKs ρ s → ((s 8 9) = (σ 8 9) ∧ (s 8 16) = (σ 8 16)) → ((s 6 3).toInt = 0 → FNi s 1 K Nb b ∧ UFx s Nb ∧ ∃ g', SB s g' b K X 0 ∧ clen s ≤ clen σ + 5) → Q s) : wk_X1_local a1 a2 σ Q := by
  obtain ⟨⟨n1, n2, n3⟩, h2, h3, h4, h5, h6, h7, h8⟩ := h
  have fn := (h7 (Nat.le_refl _)).1
  have fn' := fn
  obtain ⟨d, -, -, -, -, -, -, -, -, a9, b1, b2, b3, b4, b5⟩ := fn'
  have ee := se_e0 h2
  have sb : SHx σ g b K X 0 420 := sb_nil h2
  have h0 := sb.2.2.2.1
  have c0 := clen_eq h0
  have bb := sb.1.1
  have st0 : 0 ≤ (atv 52 (σ 45) ((σ 6 17) - (1 : Int32))).toInt := by
    rcases atv_cases 52 (σ 45) ((σ 6 17) - (1 : Int32)) with ⟨q1, q2⟩ | ⟨j, q1, q2, q3⟩
    · rw [q1, i0]
      exact Int.le_refl _
    · rw [q3]
      refine (b3 j q2 ?_).1
      have r := s_rng (σ 6 17)
      have := sbc (x := σ 6 17) i1 (by omega) (by omega)
      omega
  unfold wk_X1_local wk_X11_scopeStart
  show wk_X11_localFrom (atv 52 (σ 45) ((σ 6 17) - (1 : Int32))) a1 σ _
  refine sp_localFrom wk.2.1.1 wk.2.1.2.2.2.1 st0 (fun v12 => ?_)
  refine ⟨FAi σ, fun s27 f27 => ?_, fun _ => fa_rf, fun _ => fa_fail (by decide) (fun s fs _ => fs)⟩
  refine ⟨fun s => FAi σ s ∧ ((s 6 3).toInt = 0 → (σ 6 10).toInt < 100), fun s48 f48 => ?_, fun c => ⟨f27, fun _ => by rw [← show s27 6 10 = σ 6 10 from f27.1 6 10 rfl rfl]; exact c⟩, fun _ => fa_fail (by decide) (fun s fs fz => ⟨fa_tr f27 fs, fun z => absurd z fz⟩)⟩
  refine sp_checkSquare (fun s50 fa => ?_)
  have f50 := fa_tr f48.1 fa
  have q50 := f50.1
  have ql50 := fa_l f50
  have e4 : (s50 4 1) = (σ 4 1) := q50 4 1 rfl rfl
  have ecl : clen s50 = clen σ := by unfold clen; rw [e4]
  have w50 : (s50 24) = (σ 24) := funext (fun j => q50 24 j rfl rfl)
  refine ⟨fun hf => ?_, fun hf => k s50 ql50 (kl_wk wk ql50 (by rw [show s50 6 15 = σ 6 15 from q50 6 15 rfl rfl]; exact wk.2.1.2.2.2.1) (fun j _ => by rw [w50]) (by rw [ecl]; exact wk.2.2.1.2.2.2) (by rw [e4]; exact h0)) ⟨q50 8 9 rfl rfl, q50 8 16 rfl rfl⟩ (fun z => absurd z hf)⟩
  have l100 := f48.2 (fa.2 hf)
  generalize hu : upC s50 8 10 (s50 6 10) = u
  have ku : Kp [(8, 10)] [] s50 u := by rw [← hu]; exact kp_f kp_rf rfl
  have u10 : (u 6 10) = (σ 6 10) := (ku 6 10 rfl rfl).trans (q50 6 10 rfl rfl)
  have u15 : (u 6 15) = (σ 6 15) := (ku 6 15 rfl rfl).trans (q50 6 15 rfl rfl)
  rw [show s50 8 12 = σ 8 12 from q50 8 12 rfl rfl]
  refine sp_declLocal (by rw [u10]; omega) (by rw [u15]; omega) (fun t kt l1 l2 l3 => ?_)
  rw [u10] at l1 l3
  rw [u15] at l2
  have qt : KLx σ t := ko_tr ql50 (ko_tr (ko_sub (ko_kp ku) (by decide) (by decide)) (ko_sub (ko_kp kt) (by decide) (by decide)))
  have t4 : (t 4 1) = (σ 4 1) := (kt 4 1 rfl rfl).trans ((ku 4 1 rfl rfl).trans e4)
  have ecl2 : clen t = clen σ := by unfold clen; rw [t4]
  have wt : (t 24) = (σ 24) := funext (fun j => (kt 24 j rfl rfl).trans ((ku 24 j rfl rfl).trans (q50 24 j rfl rfl)))
  have t7 : (t 7 7) = (σ 7 7) := (kt 7 7 rfl rfl).trans ((ku 7 7 rfl rfl).trans (q50 7 7 rfl rfl))
  have t9 : (t 8 9) = (σ 8 9) := (kt 8 9 rfl rfl).trans ((ku 8 9 rfl rfl).trans (q50 8 9 rfl rfl))
  have t16 : (t 8 16) = (σ 8 16) := (kt 8 16 rfl rfl).trans ((ku 8 16 rfl rfl).trans (q50 8 16 rfl rfl))
  have t12 : (t 8 12) = (σ 8 12) := (kt 8 12 rfl rfl).trans ((ku 8 12 rfl rfl).trans (q50 8 12 rfl rfl))
  have sbt : SHx t g b K X 0 420 := sh_keep t4 t7 (kl_open qt) wt (kl_rows qt) (kl_cp qt) sb
  have h0t : 0 ≤ (t 4 1).toInt := by rw [t4]; exact h0
  -- what follows keeps all this
  have fin : ∀ z g', KLx t z → (∀ j, j ≠ 4 → j ≠ 24 → z j = t j) → (∀ j, j < clen t → (z 24) j = (t 24) j) → SHx z g' b K X 0 420 → clen z ≤ clen t + 5 → Q z := fun z g' kz zr wz shz hl => by
    have qz := ko_tr qt kz
    have z10 : z 6 10 = t 6 10 := by rw [zr 6 (by decide) (by decide)]
    have z15 : z 6 15 = t 6 15 := by rw [zr 6 (by decide) (by decide)]
    have z42 : z 42 = t 42 := zr 42 (by decide) (by decide)
    have zb := shz.1.1
    have wσ : ∀ j, j < clen σ → (z 24) j = (σ 24) j := fun j hj => (wz j (by omega)).trans (by rw [wt])
    refine k z qz (kl_wk wk qz (by rw [z15, l2]; omega) (fun j hj => wσ j (by omega)) (by omega) shz.2.2.2.1) ⟨by rw [zr 8 (by decide) (by decide)]; exact t9, by rw [zr 8 (by decide) (by decide)]; exact t16⟩ (fun _ => ⟨kl_fn qz rfl b5 (by rw [z10, l1]; omega) (by rw [z10, l1]; omega) (by rw [z10, z15, l1, l2]; omega) (fun j hj => ?_) fn, kl_uf qz (fun j hj => wσ j (by omega)) h3, g', sh_sb shz (Nat.le_refl _), by omega⟩)
    rw [z42, l3 j]
    rw [z10, l1] at hj
    by_cases c : (j : Int) = (σ 6 10).toInt
    · rw [if_pos c]
      exact hx
    · rw [if_neg c, show u 42 j = σ 42 j from (ku 42 j rfl rfl).trans (q50 42 j rfl rfl)]
      exact b4 j (by omega)
  have emr : ∀ {σ' s' : St} {o a b c : Int32}, EMi σ' s' o a b c → ∀ j, j ≠ 4 → j ≠ 24 → s' j = σ' j := fun em j j4 j24 => funext (fun q => em_cells em j q j4 j24)
  refine ⟨fun _ => ?_, fun _ => ?_⟩
  · refine sk_emit (n := 15) rfl (by decide) h0t (by rw [t4]; omega) (fun v z _ em => ?_)
    obtain ⟨g2, ag, sh⟩ := sh_emit sbt em (k := 15) (h' := 0) rfl ⟨by decide, by decide⟩ (by decide) (by decide) (by decide)
    have ec := em_clen em (n := 15) rfl h0t
    have l2' : ln 15 = 3 := rfl
    exact fin z g2 (em_l em) (emr em) em.2.2.1 sh (by omega)
  · refine sk_emit (n := 1) rfl (by decide) h0t (by rw [t4]; omega) (fun v s1 _ em1 => ?_)
    obtain ⟨g1, ag1, sh1⟩ := sh_emit sbt em1 (k := 1) (h' := 1) rfl ⟨by decide, by decide⟩ (by decide) (by decide) (by decide)
    have ec1 := em_clen em1 (n := 1) rfl h0t
    have el1 := em_len em1 (m := 1) rfl
    have l1' : ln 1 = 2 := rfl
    have h01 := sh1.2.2.2.1
    show wk_X1_storeLocal s1 _
    unfold wk_X1_storeLocal
    refine sk_emit (n := 9) rfl (by decide) h01 (by rw [el1, t4]; omega) (fun v s2 _ em2 => ?_)
    obtain ⟨g2, ag2, sh2⟩ := sh_emit sh1 em2 (k := 9) (h' := 1) rfl ⟨by decide, by decide⟩ (by decide) (by decide) (by decide)
    have ec2 := em_clen em2 (n := 9) rfl h01
    have el2 := em_len em2 (m := 9) rfl
    have l9' : ln 9 = 2 := rfl
    have h02 := sh2.2.2.2.1
    refine sk_emit (n := 2) rfl (by decide) h02 (by rw [el2, el1, t4]; omega) (fun v s3 _ em3 => ?_)
    obtain ⟨g3, ag3, sh3⟩ := sh_emit sh2 em3 (k := 2) (h' := 0) rfl ⟨by decide, by decide⟩ (by decide) (by decide) (by decide)
    have ec3 := em_clen em3 (n := 2) rfl h02
    have l2' : ln 2 = 1 := rfl
    exact fin s3 g3 (ko_tr (em_l em1) (ko_tr (em_l em2) (em_l em3))) (fun j j4 j24 => (emr em3 j j4 j24).trans ((emr em2 j j4 j24).trans (emr em1 j j4 j24))) (fun j hj => (em3.2.2.1 j (by omega)).trans ((em2.2.2.1 j (by omega)).trans (em1.2.2.1 j hj))) sh3 (by omega)
end DLO
