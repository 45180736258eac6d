/-! the walk: a string that fills an array, the end of an initial, a parameter -/
section INI
variable {σ s z t ρ : St} {g g' g1 : Gh} {X X0 Y : Nat → Prop} {b e e0 e' h h' H H0 H' L L' m n N N' Nb c d p tt j i F F' k B : Nat} {K K2 M E G D : List Nat} {A : List It} {x y v a op a1 a2 a3 : Int32}
theorem fn_F2 (h : FNi s F K Nb b) : 2 ≤ F → K = [] := by
  obtain ⟨d, -, -, -, -, -, -, -, -, -, -, -, -, -, q⟩ := h
  exact q
/-- a string that fills an array -/
theorem ws_fill {Q : St → Prop} (wk : WKs ρ σ) (h : WSx ρ σ F (9 :: K) [] Nb b e0 H0 g X) (cap : (σ 4 1).toInt + 4 * (vlx σ a1).toNat ≤ 262150) (k : ∀ s, KWk σ s → WKs ρ s → (s 5 7) = (σ 5 7) → ((s 6 3).toInt = 0 → ∃ e1 g', WSx ρ s F (11 :: K) [] Nb b e1 H0 g' X ∧ clen s ≤ clen σ + 4 * (vlx σ a1).toNat) → Q s) : wk_X1_fill a1 σ Q := by
  obtain ⟨⟨n1, n2, n3⟩, h2, h3, h4, h5, h6, h7, h8⟩ := h
  have ee := se_e0 h2
  have sb : SHx σ g b (9 :: K) X H0 (H0 + 420) := sb_nil h2
  have h0 := sb.2.2.2.1
  have c0 := clen_eq h0
  have bb := sb.1.1
  have H00 : 1 ≤ F → H0 = 0 := fun hF => by
    by_cases c : H0 = 0
    · exact c
    · exfalso
      obtain ⟨⟨K2, e2⟩, -⟩ := (h7 hF).2 c
      have := (List.cons.inj e2).1
      omega
  have fin : ∀ s g2, KLx σ s → (∀ j, j < clen σ → (s 24) j = (σ 24) j) → s 6 = σ 6 → s 42 = σ 42 → (s 8 9) = (σ 8 9) → SHx s g2 b (9 :: K) X H0 (H0 + 420) → clen s ≤ clen σ + 4 * (vlx σ a1).toNat → Q s := fun s g2 ql w r6 r42 r9 sh hl => by
    have sbb := sh.1.1
    refine k s (kl_wk0 ql) (kl_wk wk ql (by rw [r6]; exact wk.2.1.2.2.2.1) (fun j hj => w j (by omega)) (by omega) sh.2.2.2.1) (ql 5 7 (op_lt (by decide)) rfl rfl) (fun _ => ⟨clen s, g2, ⟨⟨n1, n2, sbb⟩, se_nil (sh_sb ((sh_9 (Or.inr (by decide))).mpr ((sh_9 (Or.inr (by decide))).mp sh)) (Nat.le_refl _)), kl_uf ql (fun j hj => w j (by omega)) h3, ?_, wf_9 (by decide) (by decide) h5, fun z => ⟨by rw [r6]; exact (h6 z).1, f0_9 (by decide) (h6 z).2⟩, fun z => ⟨kl_fn0 ql (by rw [r6]) (by rw [r6]) r42 (by rw [zc_s (by decide), zc_s (by decide)]) (fun z2 => by cases fn_F2 (h7 z).1 z2) (h7 z).1, fun y => absurd (H00 z) y⟩, fun _ => by rw [r9]; exact h8 (ini_9 (by decide))⟩, hl⟩)
    rw [nz_0 (Or.inr (by decide))]
    rw [nz_0 (Or.inr (by decide))] at h4
    exact h4
  unfold wk_X1_fill
  refine sk_readCodes (fun v5 s5 k5 e5 => ?_)
  have v200 : v5.toInt ≤ 200 := by omega
  have vle : v5.toInt ≤ (vlx σ a1).toNat := by omega
  refine ⟨fun _ => True, fun y _ _ => ?_, fun _ => trivial, fun _ => trivial⟩
  let P : Int → St → Prop := fun x s => (0 ≤ x ∧ (x ≤ v5.toInt ∨ x = 0)) ∧ KLx σ s ∧ (∀ j, j < clen σ → (s 24) j = (σ 24) j) ∧ s 6 = σ 6 ∧ s 42 = σ 42 ∧ (s 8 9) = (σ 8 9) ∧ (clen σ ≤ clen s ∧ (clen s : Int) ≤ clen σ + 4 * x) ∧ ∃ g2, SHx s g2 b (9 :: K) X H0 (H0 + 420)
  refine ⟨fun n x s => n = (v5.toInt - x.toInt).toNat ∧ P x.toInt s, ⟨_, rfl, ⟨by rw [i0]; exact Int.le_refl _, Or.inr rfl⟩, ?_⟩, ?_⟩
  · generalize hz : upC s5 8 16 y = t
    have kt : Kp [(8, 16)] [] s5 t := by rw [← hz]; exact kp_f kp_rf rfl
    have ql : KLx σ t := ko_tr (ko_sub (ko_kp k5) (by decide) (by decide)) (ko_sub (ko_kp kt) (by decide) (by decide))
    have e4 : (t 4 1) = (σ 4 1) := (kt 4 1 rfl rfl).trans (k5 4 1 rfl rfl)
    have w : (t 24) = (σ 24) := funext (fun j => (kt 24 j rfl rfl).trans (k5 24 j rfl rfl))
    have ecl : clen t = clen σ := by unfold clen; rw [e4]
    exact ⟨ql, fun j _ => by rw [w], funext (fun j => (kt 6 j rfl rfl).trans (k5 6 j rfl rfl)), funext (fun j => (kt 42 j rfl rfl).trans (k5 42 j rfl rfl)), (kt 8 9 rfl rfl).trans (k5 8 9 rfl rfl), ⟨by omega, by rw [ecl, i0]; omega⟩, g, sh_keep e4 ((kt 7 7 rfl rfl).trans (k5 7 7 rfl rfl)) (kl_open ql) w (kl_rows ql) (kl_cp ql) sb⟩
  rintro n x s ⟨hn, ⟨x0, x1⟩, ql, w, r6, r42, r9, ⟨cg, cl⟩, g2, sh⟩
  have h0s := sh.2.2.2.1
  have c1 := clen_eq h0s
  have bbs := sh.1.1
  have done : Q s := fin s g2 ql w r6 r42 r9 sh (by omega)
  refine ⟨fun _ => done, fun c => ⟨fun _ => done, fun _ => ⟨P (x.toInt + 1), fun s2 hp => ⟨(v5.toInt - (x + 1).toInt).toNat, by rw [ad1 (by omega)]; omega, rfl, by rw [ad1 (by omega)]; exact hp⟩, fun _ => ?_, fun _ => ?_⟩⟩⟩
  · refine sk_addInitial (fun s2 ks => ?_)
    have q2 : KLx s s2 := ko_sub (ko_kp ks) (by decide) (by decide)
    have e4 : (s2 4 1) = (s 4 1) := ks 4 1 rfl rfl
    have w2 : (s2 24) = (s 24) := funext (fun j => ks 24 j rfl rfl)
    have ecl : clen s2 = clen s := by unfold clen; rw [e4]
    exact ⟨⟨by omega, Or.inl (by omega)⟩, ko_tr ql q2, fun j hj => by rw [w2]; exact w j hj, (funext (fun j => ks 6 j rfl rfl)).trans r6, (funext (fun j => ks 42 j rfl rfl)).trans r42, (show s2 8 9 = s 8 9 from ks 8 9 rfl rfl).trans r9, ⟨by omega, by rw [ecl]; omega⟩, g2, sh_keep e4 (ks 7 7 rfl rfl) (kl_open q2) w2 (kl_rows q2) (kl_cp q2) sh⟩
  · refine sk_emit (n := 17) rfl (by decide) h0s (by omega) (fun v s2 _ em => ?_)
    obtain ⟨g3, ag, sh2⟩ := sh_emit sh em (k := 17) (h' := H0) rfl ⟨by decide, by decide⟩ (Nat.zero_le _) (by show (H0 : Int) = H0 + 0; omega) (by omega)
    have ec := em_clen em (n := 17) rfl h0s
    have l17 : ln 17 = 4 := rfl
    have er : ∀ j, j ≠ 4 → j ≠ 24 → s2 j = s j := fun j j4 j24 => funext (fun q => em_cells em j q j4 j24)
    exact ⟨⟨by omega, Or.inl (by omega)⟩, ko_tr ql (em_l em), fun j hj => (em.2.2.1 j (by omega)).trans (w j hj), (er 6 (by decide) (by decide)).trans r6, (er 42 (by decide) (by decide)).trans r42, (congrFun (er 8 (by decide) (by decide)) 9).trans r9, ⟨by omega, by omega⟩, g3, sh2⟩
theorem vs_kp (h : VS s g b K X H0 e0) (kk : Kp [(8, 16)] [] s t) : VS t g b K X H0 e0 := by
  obtain ⟨h1, h2, h3, h4, h5, h6, h7, h8, h9, h10⟩ := h
  have ql : KLx s t := ko_sub (ko_kp kk) (by decide) (by decide)
  have e4 : (t 4 1) = (s 4 1) := kk 4 1 rfl rfl
  have w : (t 24) = (s 24) := funext (fun j => kk 24 j rfl rfl)
  have ecl : clen t = clen s := by unfold clen; rw [e4]
  obtain ⟨r1, r2, r3, r4, r5, r6⟩ := kl_rows ql
  refine ⟨?_, ?_, by rw [show t 7 7 = s 7 7 from kk 7 7 rfl rfl]; exact h3, by rw [e4]; exact h4, by rw [kl_open ql]; exact h5, by rw [ecl]; exact h6, by rw [ecl]; exact h7, ?_, by rw [show t 65 9 = s 65 9 from kk 65 9 rfl rfl]; exact h9, by rw [show t 65 6 = s 65 6 from kk 65 6 rfl rfl, ecl]; exact h10⟩
  · rw [ecl, w]
    exact typ_mono (fun _ _ => rfl) agr_rf (kl_cp ql) (fun _ z => z) h1
  · exact cx_mono K X (fun j _ => ⟨by rw [r1], by rw [r2], by rw [r3], by rw [r4], by rw [r5], by rw [r6]⟩) (fun q _ => by rw [w]) agr_rf (Nat.le_refl _) h2
  · rw [w]
    exact typ_mono (fun _ _ => rfl) agr_rf (kl_cp ql) (fun _ z => z) h8
theorem sp_storeLocal {Q : St → Prop} (sh : SHx σ g b K X (H + 1) B) (hB : H + 1 ≤ B) (cap : (σ 4 1).toInt ≤ 262180) (k : ∀ s g', KLx σ s → (∀ j, j ≠ 4 → j ≠ 24 → s j = σ j) → (∀ j, j < clen σ → (s 24) j = (σ 24) j) → SHx s g' b K X H B → clen s ≤ clen σ + 3 → Q s) : wk_X1_storeLocal σ Q := by
  have emr : ∀ {σ' s' : St} {o a b c : Int32}, EMi σ' s' o a b c → ∀ j, j ≠ 4 → j ≠ 24 → s' j = σ' j := fun em j j4 j24 => funext (fun q => em_cells em j q j4 j24)
  have h0 := sh.2.2.2.1
  unfold wk_X1_storeLocal
  refine sk_emit (n := 9) rfl (by decide) h0 (by omega) (fun v s2 _ em2 => ?_)
  obtain ⟨g2, ag2, sh2⟩ := sh_emit sh em2 (k := 9) (h' := H + 1) rfl ⟨by decide, by decide⟩ (by show 1 ≤ H + 1; omega) (by show ((H + 1 : Nat) : Int) = ((H + 1 : Nat) : Int) + 0; omega) hB
  have ec2 := em_clen em2 (n := 9) rfl h0
  have el2 := em_len em2 (m := 9) rfl
  have l9' : ln 9 = 2 := rfl
  have h02 := sh2.2.2.2.1
  refine sk_emit (n := 2) rfl (by decide) h02 (by omega) (fun v s3 _ em3 => ?_)
  obtain ⟨g3, ag3, sh3⟩ := sh_emit sh2 em3 (k := 2) (h' := H) rfl ⟨by decide, by decide⟩ (by show 1 ≤ H + 1; omega) (by show (H : Int) = ((H + 1 : Nat) : Int) + -1; omega) (by omega)
  have ec3 := em_clen em3 (n := 2) rfl h02
  have l2' : ln 2 = 1 := rfl
  exact k s3 g3 (ko_tr (em_l em2) (em_l em3)) (fun j j4 j24 => (emr em3 j j4 j24).trans (emr em2 j j4 j24)) (fun j hj => (em3.2.2.1 j (by omega)).trans (em2.2.2.1 j hj)) sh3 (by omega)
/-- the end of an initial -/
theorem ws_initial {Q : St → Prop} (hc9 : 9 ≤ c) (wk : WKs ρ σ) (h : WSx ρ σ F (c :: K) A Nb b e0 H0 g X) (hA : (a2.toInt = 0 ∧ c = 9 ∧ A = [iV]) ∨ (a2.toInt = 1 ∧ A = []) ∨ (a2.toInt = 2 ∧ c = 11 ∧ A = [])) (cap : (σ 4 1).toInt ≤ 262150) (k : ∀ s, KWk σ s → WKs ρ s → (s 5 7) = (σ 5 7) → ((s 6 3).toInt = 0 → ∃ e1 H1 g' X', WSx ρ s F K [] Nb b e1 H1 g' X' ∧ clen s ≤ clen σ + 2 * plc σ A + 3) → Q s) : wk_X1_initial a1 a2 σ Q := by
  have wfK' : wfK K := h.2.2.2.2.1.2.2
  have tpK' : tpK K := h.2.2.2.2.1.2.1 (by omega)
  have fK : F = 0 → K = [] := fun z => by
    rcases (h.2.2.2.2.2.1 z).2 with q | ⟨c1, q1, q2⟩
    · cases q
    · exact (List.cons.inj q2).2
  -- what is told before the last check
  let P : St → Prop := fun s => KWk σ s ∧ WKs ρ s ∧ (s 5 7) = (σ 5 7) ∧ (clen ρ ≤ Nb ∧ Nb ≤ b) ∧ UFx s Nb ∧ nzr K ≤ 25 ∧ (F = 0 → (s 6 6).toInt = -1) ∧ clen s ≤ clen σ + 2 * plc σ A + 3 ∧ ∃ g' H1, SHx s g' b (c :: K) X H1 (H1 + 420) ∧ (1 ≤ F → FNi s F (c :: K) Nb b ∧ (H1 ≠ 0 → (s 8 16).toInt ≠ 0))
  have fin : ∀ s, P s → (∃ J103 : Prop, (J103 → (wk_X11_fail (2 : Int32) a1 s (fun s109 => Q s109))) ∧ ((s 8 16).toInt ≠ 0 → J103) ∧ ((s 8 16).toInt = 0 → ((s 8 13).toInt = 0 → Q s) ∧ ((s 8 13).toInt ≠ 0 → J103))) := fun s hp => by
    obtain ⟨q1, q2, q3, ⟨n1, n2⟩, q5, q6, q7, q8, g', H1, q9, q10⟩ := hp
    refine ⟨True, fun _ => fa_fail (by decide) (fun t ft fz => ?_), fun _ => trivial, fun hm => ⟨fun _ => ?_, fun _ => trivial⟩⟩
    · have ql := fa_l ft
      have e4 : (t 4 1) = (s 4 1) := ft.1 4 1 rfl rfl
      have ecl : clen t = clen s := by unfold clen; rw [e4]
      exact k t (ko_tr q1 (kl_wk0 ql)) (kl_wk q2 ql (by rw [show t 6 15 = s 6 15 from ft.1 6 15 rfl rfl]; exact q2.2.1.2.2.2.1) (fun j _ => ft.1 24 j rfl rfl) (by rw [ecl]; exact q2.2.2.1.2.2.2) (by rw [e4]; exact q2.2.2.2.1)) ((show t 5 7 = s 5 7 from ft.1 5 7 rfl rfl).trans q3) (fun z => absurd z fz)
    · have sh := (sh_9 (Or.inr hc9)).mp q9
      refine k s q1 q2 q3 (fun _ => ⟨clen s, H1, g', X, ⟨⟨n1, n2, sh.1.1⟩, se_nil (sh_sb sh (Nat.le_refl _)), q5, q6, wfK', fun z => ⟨q7 z, Or.inl (fK z)⟩, fun z => ⟨?_, fun y => absurd hm ((q10 z).2 y)⟩, fun z => absurd z (ini_tp tpK')⟩, q8⟩)
      have f := (q10 z).1
      obtain ⟨d, a1, a2, a3, a4, a5, a6, a7, a8, a9, b1, b2, b3, b4, b5⟩ := f
      exact ⟨d, a1, a2, a3, a4, a5, a6, a7, a8, a9, b1, by rw [b2, zc_s (by omega)], b3, b4, fun z2 => by cases b5 z2⟩
  unfold wk_X1_initial
  refine ⟨P, fin, fun n1' => ⟨fun n0 => ?_, fun c0 => ?_⟩, fun c1 => ?_⟩
  · have hA2 : c = 11 ∧ A = [] := by
      rcases hA with q | q | q
      · exact absurd q.1 n0
      · exact absurd q.1 n1'
      · exact q.2
    obtain ⟨rfl, rfl⟩ := hA2
    obtain ⟨⟨n1, n2, n3⟩, h2, h3, h4, h5, h6, h7, h8⟩ := h
    refine ⟨ko_rf, wk, rfl, ⟨n1, n2⟩, h3, by rw [nz_0 (Or.inr (by decide))] at h4; exact h4, fun z => (h6 z).1, by omega, g, H0, sb_nil h2, fun z => ⟨(h7 z).1, fun y => ((h7 z).2 y).2⟩⟩
  · have hA0 : c = 9 ∧ A = [iV] := by
      rcases hA with q | q | q
      · exact q.2
      · exact absurd q.1 n1'
      · have := q.1
        omega
    obtain ⟨rfl, rfl⟩ := hA0
    have p1 : plc σ [iV] = pk σ 65 + 0 := plc_V
    have pk1 := pkq_le (σ := σ) (q := 65)
    have l00 := h.2.1.1.2.2.1
    have cσ := clen_eq l00
    refine ws_pop wk h cap (fun s g1 kx ws hv hc fu d8 => ?_)
    obtain ⟨⟨n1, n2, n3⟩, vs, h3, h4, h5, h6, h7, h8⟩ := hv
    have H00 : 1 ≤ F → H0 = 0 := fun hF => by
      by_cases cc : H0 = 0
      · exact cc
      · exfalso
        obtain ⟨⟨K2, e2⟩, -⟩ := (h7 hF).2 cc
        have := (List.cons.inj e2).1
        omega
    have sh := vs_sh vs
    have l0 := sh.2.2.2.1
    have c1 := clen_eq l0
    have bb := sh.1.1
    have he := vs.2.2.2.2.2.2.1
    have ends : ∀ (y : Int32) u g2, KLx (upC s 8 16 y) u → (∀ j, j < b → (u 24) j = (s 24) j) → u 6 = s 6 → u 42 = s 42 → SHx u g2 b (9 :: K) X H0 (H0 + 420) → clen u ≤ clen s + 3 → P u := fun y u g2 ku wu r6 r42 shu hl => by
      have kt : Kp [(8, 16)] [] s (upC s 8 16 y) := kp_f kp_rf rfl
      have ql : KLx s u := ko_tr (ko_sub (ko_kp kt) (by decide) (by decide)) ku
      have ub := shu.1.1
      exact ⟨ko_tr (kw_xw kx) (kl_wk0 ql), kl_wk ws ql (by rw [r6]; exact ws.2.1.2.2.2.1) (fun j hj => wu j (by omega)) (by omega) shu.2.2.2.1, (show u 5 7 = s 5 7 from ql 5 7 (op_lt (by decide)) rfl rfl).trans (kx 5 7 (op_lt (by decide)) rfl rfl), ⟨n1, n2⟩, kl_uf ql (fun j hj => wu j (by omega)) h3, by rw [nz_0 (Or.inr (by decide))] at h4; exact h4, fun z => by rw [r6]; exact (h6 z).1, by omega, g2, H0, shu, fun z => ⟨kl_fn0 ql (by rw [r6]) (by rw [r6]) r42 rfl (fn_F2 (h7 z).1) (h7 z).1, fun y => absurd (H00 z) y⟩⟩
    refine ⟨fun _ => True, fun y _ _ => ⟨fun _ => ?_, fun _ => ?_⟩, True, fun _ => trivial, fun _ => trivial, fun _ => ?_⟩
    · refine sp_putInitial (vs_kp vs (t := upC s 8 16 y) (kp_f kp_rf rfl)) (fun u ku ru shu ecu => ends y u g1 ku (fun j _ => by rw [ru 24 (by decide) (by decide) (by decide) (by decide) (by decide)]; rfl) (by rw [ru 6 (by decide) (by decide) (by decide) (by decide) (by decide)]; rfl) (by rw [ru 42 (by decide) (by decide) (by decide) (by decide) (by decide)]; rfl) shu (by omega))
    · have sht := vs_sh (vs_kp vs (t := upC s 8 16 y) (kp_f kp_rf rfl))
      refine sp_storeLocal sht (by omega) (by show (s 4 1).toInt ≤ _; omega) (fun u g2 ku ru wu shu hl => ends y u g2 ku (fun j hj => wu j (by show j < clen s; omega)) (by rw [ru 6 (by decide) (by decide)]; rfl) (by rw [ru 42 (by decide) (by decide)]; rfl) shu hl)
    · unfold wk_X1_suits
      refine sk_fits ⟨fun _ => ⟨fun _ => trivial, fun _ => trivial⟩, fun n => absurd rfl n⟩ ⟨fun n => absurd n (by decide), fun _ => ⟨fun _ => ⟨fun _ => trivial, fun _ => trivial⟩, fun _ => ⟨fun _ => ⟨fun _ => ⟨fun _ => trivial, fun _ => trivial⟩, fun _ => ⟨fun _ => trivial, fun _ => trivial⟩⟩, fun _ => ⟨fun _ => ⟨fun _ => trivial, fun _ => trivial⟩, fun _ => ⟨fun _ => trivial, fun _ => trivial⟩⟩⟩⟩⟩
  · have hA1 : A = [] := by
      rcases hA with q | q | q
      · have := q.1
        omega
      · exact q.2
      · exact q.2.2
    subst hA1
    obtain ⟨⟨n1, n2, n3⟩, h2, h3, h4, h5, h6, h7, h8⟩ := h
    have sb : SHx σ g b (c :: K) X H0 (H0 + 420) := sb_nil h2
    have go : ∀ y : Int32, (1 ≤ F → H0 ≠ 0 → y.toInt ≠ 0) → P (upC σ 8 16 y) := fun y hy => by
      have kt : Kp [(8, 16)] [] σ (upC σ 8 16 y) := kp_f kp_rf rfl
      have ql : KLx σ (upC σ 8 16 y) := ko_sub (ko_kp kt) (by decide) (by decide)
      refine ⟨kl_wk0 ql, kl_wk wk ql wk.2.1.2.2.2.1 (fun j _ => rfl) wk.2.2.1.2.2.2 wk.2.2.2.1, rfl, ⟨n1, n2⟩, kl_uf ql (fun j _ => rfl) h3, by rw [nz_0 (Or.inr hc9)] at h4; exact h4, fun z => (h6 z).1, by show clen σ ≤ _; omega, g, H0, sh_keep (σ := σ) rfl rfl rfl rfl ⟨rfl, rfl, rfl, rfl, rfl, rfl⟩ (kl_cp ql) sb, fun z => ⟨kl_fn0 ql rfl rfl rfl rfl (fn_F2 (h7 z).1) (h7 z).1, fun y2 => ?_⟩⟩
      rw [rdA_eq rfl]
      exact hy z y2
    refine ⟨fun y => 1 ≤ F → H0 ≠ 0 → y.toInt ≠ 0, fun y _ hy => go y hy, True, fun _ _ _ => by decide, fun _ => trivial, fun hm => ⟨fun _ z y => absurd hm ((h7 z).2 y).2, fun _ => trivial⟩⟩
end INI
