/-! the walk: a local's step, a parameter's -/
section VA1
variable {σ s z t ρ : St} {g g' g1 : Gh} {X X0 Y : Nat → Prop} {b e e0 e' h h' H H0 H' L L' m n N N' Nb c d p tt j i F F' k B : Nat} {K K2 M E G D : List Nat} {A : List It} {x y v a op a1 a2 a3 : Int32}
abbrev KDF (a b : St) : Prop := Kp [(8, 6), (8, 7), (8, 8), (8, 9), (8, 10), (8, 11), (8, 12), (8, 13), (8, 14), (8, 15), (8, 16)] [] a b
theorem kdf_l (q : KDF σ s) : KLx σ s := ko_sub (ko_kp q) (by decide) (by decide)
theorem fn_K (hz : zc M = zc K) (hF : 2 ≤ F → M = []) (f : FNi s F K Nb b) : FNi s F M Nb b := by
  obtain ⟨d, a1, a2, a3, a4, a5, a6, a7, a8, a9, b1, b2, b3, b4, b5⟩ := f
  exact ⟨d, a1, a2, a3, a4, a5, a6, a7, a8, a9, b1, by rw [b2, hz], b3, b4, hF⟩
theorem ws_D2 (q : KDF σ s) (hi : ¬ inI K) (hH : 1 ≤ F → H0 = 0) (h : WSx ρ σ F K [] Nb b e0 H0 g X) : WSx ρ s F K [] Nb b e0 H0 g X := by
  obtain ⟨n, h2, h3, h4, h5, h6, h7, h8⟩ := h
  have ql := kdf_l q
  have e4 : (s 4 1) = (σ 4 1) := q 4 1 rfl rfl
  have ecl : clen s = clen σ := by unfold clen; rw [e4]
  have w : (s 24) = (σ 24) := funext (fun j => q 24 j rfl rfl)
  have sb := sb_nil h2
  have sb' : SB s g b K X H0 := sh_keep (B := H0 + 420) e4 (q 7 7 rfl rfl) (kl_open ql) w (kl_rows ql) (kl_cp ql) sb
  have ee := se_e0 h2
  exact ⟨n, by rw [ee, ← ecl]; exact se_nil sb', kl_uf ql (fun j _ => by rw [w]) h3, h4, h5, fun c => by rw [show s 6 6 = σ 6 6 from q 6 6 rfl rfl]; exact h6 c, fun c => ⟨kl_fn0 ql (q 6 10 rfl rfl) (q 6 15 rfl rfl) (funext (fun j => q 42 j rfl rfl)) rfl (fn_F2 (h7 c).1) (h7 c).1, fun z => absurd (hH c) z⟩, fun c => absurd c hi⟩
theorem wk_D2 (q : KDF σ s) (h : WKs ρ σ) : WKs ρ s := by
  have ql := kdf_l q
  have e4 : (s 4 1) = (σ 4 1) := q 4 1 rfl rfl
  have ecl : clen s = clen σ := by unfold clen; rw [e4]
  exact kl_wk h ql (by rw [show s 6 15 = σ 6 15 from q 6 15 rfl rfl]; exact h.2.1.2.2.2.1) (fun j _ => q 24 j rfl rfl) (by rw [ecl]; exact h.2.2.1.2.2.2) (by rw [e4]; exact h.2.2.2.1)
/-- a local's step -/
theorem ws_var1 {Q : St → Prop} (wk : WKs ρ σ) (h : WSx ρ σ 1 K [] Nb b e0 H0 g X) (tp : tpK K) (cap : (σ 4 1).toInt ≤ 262150) (hM : (b4 a3 ∧ M = 9 :: K) ∨ (¬ b4 a3 ∧ M = K)) (k : ∀ s, KWk σ s → WKs ρ s → (s 5 7) = (σ 5 7) → ((s 6 3).toInt = 0 → ∃ e1 g', WSx ρ s 1 M [] Nb b e1 0 g' X ∧ clen s ≤ clen σ + 5) → Q s) : wk_X1_variable a1 a2 a3 σ Q := by
  have ni := ini_tp tp
  have h' := h
  obtain ⟨⟨n1, n2, n3⟩, h2, h3, h4, h5, h6, h7, h8⟩ := h'
  have H00 : H0 = 0 := by
    by_cases c : H0 = 0
    · exact c
    · exfalso
      obtain ⟨⟨K2, e2⟩, -⟩ := (h7 (Nat.le_refl _)).2 c
      exact ni ⟨10, K2, e2, by decide⟩
  subst H00
  have fn := (h7 (Nat.le_refl _)).1
  have fpos : 0 ≤ (σ 6 6).toInt := by
    obtain ⟨d, q, -⟩ := fn
    rw [q]
    omega
  unfold wk_X1_variable
  refine ⟨fun _ => True, fun y0 _ _ => ?_, fun _ => trivial, fun _ => trivial⟩
  refine ⟨fun y => y.toInt ≤ 4000, fun y1 hy1 => ?_, fun _ => ⟨True, fun _ => by decide, fun _ => trivial, fun _ => ⟨fun _ => trivial, fun c => c⟩⟩, fun _ => by decide⟩
  refine ⟨fun y => y.toInt ≠ 0, fun y9 _ hy9 => ?_, fun c => by omega, fun _ => by decide⟩
  refine ⟨fun _ => True, fun y13 _ _ => ⟨fun c => absurd c hy9, fun _ => ?_⟩, fun _ => trivial, fun _ => trivial⟩
  generalize hs0 : upC (upC (upC (upC (upC (upC σ 8 11 a2) 8 12 y1) 8 15 (0 : Int32)) 8 16 (0 : Int32)) 8 9 y9) 8 13 y13 = s0
  have k0 : KDF σ s0 := by
    rw [← hs0]
    exact kp_f (kp_f (kp_f (kp_f (kp_f (kp_f kp_rf rfl) rfl) rfl) rfl) rfl) rfl
  have x12 : s0 8 12 = y1 := by
    rw [← hs0, rdA_ne (by decide), rdA_ne (by decide), rdA_ne (by decide), rdA_ne (by decide), rdA_eq rfl]
  have x9 : s0 8 9 = y9 := by
    rw [← hs0, rdA_ne (by decide), rdA_eq rfl]
  have ec0 : clen s0 = clen σ := by unfold clen; rw [show s0 4 1 = σ 4 1 from k0 4 1 rfl rfl]
  refine sd_local (wk_D2 k0 wk) (ws_D2 k0 ni (fun _ => rfl) h) (by rw [x12]; exact hy1) (by rw [show s0 4 1 = σ 4 1 from k0 4 1 rfl rfl]; exact cap) (fun s ks ws ⟨i9, i16⟩ hv => ?_)
  generalize hs : upC s 8 6 ((-1) : Int32) = t
  have kt : Kp [(8, 6), (8, 7), (8, 8)] [] s t := by
    rw [← hs]
    exact kp_f kp_rf rfl
  have et : clen t = clen s := by unfold clen; rw [show t 4 1 = s 4 1 from kt 4 1 rfl rfl]
  have tf : t 6 3 = s 6 3 := kt 6 3 rfl rfl
  refine k t (ko_tr (kl_wk0 (kdf_l k0)) (ko_tr (kl_wk0 ks) (kl_wk0 (ko_sub (ko_kp kt) (by decide) (by decide))))) (wk_D kt ws) ((kt 5 7 rfl rfl).trans ((ks 5 7 (op_lt (by decide)) rfl rfl).trans (k0 5 7 rfl rfl))) (fun hf => ?_)
  obtain ⟨f1, u1, g', sb, cl⟩ := hv (by rw [← tf]; exact hf)
  refine ⟨clen s, g', ?_, by omega⟩
  refine ws_D kt ?_
  rcases hM with ⟨-, rfl⟩ | ⟨-, rfl⟩
  · refine ⟨⟨n1, n2, sb.1.1⟩, se_nil (sh_sb ((sh_9 (Or.inr (by decide))).mpr (show SHx s g' b K X 0 (0 + 420) from sb)) (Nat.le_refl _)), u1, ?_, ⟨fun z => absurd z (by decide), fun _ => tp, h5⟩, fun z => absurd z (by decide), fun _ => ⟨fn_K (zc_s (by decide)) (fun z => absurd z (by decide)) f1, fun z => absurd rfl z⟩, fun _ => ⟨fun _ => Nat.le_refl _, fun _ => ?_⟩⟩
    · rw [nz_0 (Or.inr (by decide))]
      exact h4
    · rw [i9, x9]
      exact hy9
  · exact ⟨⟨n1, n2, sb.1.1⟩, se_nil sb, u1, h4, h5, fun z => absurd z (by decide), fun _ => ⟨f1, fun z => absurd rfl z⟩, fun z => absurd z ni⟩
/-- a parameter -/
theorem ws_param {Q : St → Prop} (wk : WKs ρ σ) (h : WSx ρ σ (F + 2) [] [] Nb b e0 H0 g X) (k : ∀ s, KWk σ s → WKs ρ s → (s 5 7) = (σ 5 7) → ((s 6 3).toInt = 0 → ∃ e1 g', WSx ρ s (F + 1) [] [] Nb b e1 0 g' X ∧ clen s ≤ clen σ) → Q s) : wk_X1_parameter a1 a2 σ Q := by
  obtain ⟨⟨n1, n2, n3⟩, h2, h3, h4, h5, h6, h7, h8⟩ := h
  have H00 : H0 = 0 := by
    by_cases c : H0 = 0
    · exact c
    · exfalso
      obtain ⟨⟨K2, e2⟩, -⟩ := (h7 (by omega)).2 c
      cases e2
  subst H00
  have fn := (h7 (by omega)).1
  have fn' := fn
  obtain ⟨d, -, -, -, -, -, -, -, -, a9, b1, b2, b3, b4, b5⟩ := fn'
  have ee := se_e0 h2
  have sb : SHx σ g b [] X 0 (0 + 420) := sb_nil h2
  have h0 := sb.2.2.2.1
  unfold wk_X1_parameter
  refine ⟨True, fun _ => fa_fail (by decide) (fun t ft fz => ?_), fun _ => trivial, fun _ => sp_localFrom wk.2.1.1 wk.2.1.2.2.2.1 (by decide) (fun v => ⟨fun _ => ?_, fun _ => trivial⟩)⟩
  · have ql := fa_l ft
    have e4 : (t 4 1) = (σ 4 1) := ft.1 4 1 rfl rfl
    have ecl : clen t = clen σ := by unfold clen; rw [e4]
    exact k t (kl_wk0 ql) (kl_wk wk ql (by rw [show t 6 15 = σ 6 15 from ft.1 6 15 rfl rfl]; exact wk.2.1.2.2.2.1) (fun j _ => ft.1 24 j rfl rfl) (by rw [ecl]; exact wk.2.2.1.2.2.2) (by rw [e4]; exact h0)) (ft.1 5 7 rfl rfl) (fun z => absurd z fz)
  · refine sp_declLocal (by omega) (by omega) (fun t kt l1 l2 l3 => ?_)
    have ql : KLx σ t := ko_sub (ko_kp kt) (by decide) (by decide)
    have e4 : (t 4 1) = (σ 4 1) := kt 4 1 rfl rfl
    have ecl : clen t = clen σ := by unfold clen; rw [e4]
    have w : (t 24) = (σ 24) := funext (fun j => kt 24 j rfl rfl)
    have sbt : SHx t g b [] X 0 (0 + 420) := sh_keep e4 (kt 7 7 rfl rfl) (kl_open ql) w (kl_rows ql) (kl_cp ql) sb
    refine k t (kl_wk0 ql) (kl_wk wk ql (by omega) (fun j _ => by rw [w]) (by rw [ecl]; exact wk.2.2.1.2.2.2) (by rw [e4]; exact h0)) (kt 5 7 rfl rfl) (fun _ => ⟨clen t, g, ⟨⟨n1, n2, sbt.1.1⟩, se_nil (sh_sb sbt (Nat.le_refl _)), kl_uf ql (fun j _ => by rw [w]) h3, h4, h5, fun z => absurd z (by omega), fun _ => ⟨kl_fn ql rfl (fun _ => rfl) (by omega) (by omega) (by omega) (fun j hj => ?_) fn, fun z => absurd rfl z⟩, fun z => absurd z (by rintro ⟨c1, K1, q, -⟩; cases q)⟩, by omega⟩)
    rw [l3 j]
    by_cases cc : (j : Int) = (σ 6 10).toInt
    · rw [if_pos cc]
      decide
    · rw [if_neg cc]
      exact b4 j (by omega)
end VA1
