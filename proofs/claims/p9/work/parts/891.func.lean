/-! the walk: a variable outside of functions, whole; a function's head -/
section FUH
variable {σ s z t ρ : St} {g g' g1 : Gh} {X X0 Y : Nat → Prop} {b e e0 e' h h' H H0 H' L L' m n N N' Nb c d p tt j i F F' k B : Nat} {K K2 M E G D : List Nat} {A : List It} {x y v a op a1 a2 a3 : Int32}
theorem uf_le (h : UFx σ N) (hN : N ≤ N') : UFx σ N' := fun d h1 h2 h3 h4 h5 => by
  obtain ⟨hd, L, g, a1, a2⟩ := h d h1 h2 h3 h4 h5
  exact ⟨hd, L, g, a1, fune_mono (fun _ _ => rfl) (fun _ _ q => q) hN a2⟩
theorem ku_rows (k : KUx σ s) : (s 24) = (σ 24) ∧ (s 4 1) = (σ 4 1) ∧ (s 7 7) = (σ 7 7) ∧ (s 9 5) = (σ 9 5) ∧ (s 6 6) = (σ 6 6) ∧ (s 6 15) = (σ 6 15) ∧ KWk σ s := ⟨funext (fun j => k 24 j rfl rfl), k 4 1 rfl rfl, k 7 7 rfl rfl, k 9 5 rfl rfl, k 6 6 rfl rfl, k 6 15 rfl rfl, ko_sub (ko_kp k) (by decide) (by decide)⟩
/-- a variable's step, outside of functions -/
theorem ws_var0 {Q : St → Prop} (wk : WKs ρ σ) (h : WSx ρ σ 0 K [] Nb b e0 H0 g X) (tp : tpK K) (nm : NMr σ) (by' : ByteOK (σ 1)) (tk : tkx σ a1 = 2) (hd : (σ 5 1).toInt - (σ 6 7).toInt ≤ 10000) (hn : (σ 5 7).toInt + (vlx σ a1).toNat ≤ 65600) (hM : (b4 a3 ∧ M = 9 :: K) ∨ (¬ b4 a3 ∧ M = K)) (k : ∀ s, KWk σ s → WKs ρ s → (s 5 7).toInt ≤ (σ 5 7).toInt + (vlx σ a1).toNat → ((s 6 3).toInt = 0 → ∃ Nb' b' e1 g' X', WSx ρ s 0 M [] Nb' b' e1 0 g' X' ∧ clen s ≤ clen σ) → Q s) : wk_X1_variable a1 a2 a3 σ Q := by
  obtain ⟨⟨n1, n2, n3⟩, h2, h3, h4, h5, h6, h7, h8⟩ := h
  obtain ⟨f0, hK⟩ := h6 rfl
  have K0 : K = [] := by
    rcases hK with q | ⟨c, q1, q2⟩
    · exact q
    · exfalso
      exact ini_tp tp ⟨c, [], q2, q1⟩
  subst K0
  have sb := sb_nil h2
  have ee := se_e0 h2
  have c00 := sb.2.2.1
  have l00 := sb.2.2.2.1
  have o00 : (σ 9 5).toInt = 0 := sb.2.2.2.2.1
  unfold wk_X1_variable
  refine ⟨fun _ => True, fun y0 _ _ => ?_, fun _ => trivial, fun _ => trivial⟩
  refine ⟨fun _ => True, fun y1 _ => ?_, fun _ => ⟨True, fun _ => trivial, fun _ => trivial, fun _ => ⟨fun _ => trivial, fun _ => trivial⟩⟩, fun _ => trivial⟩
  refine ⟨fun y => y = 0, fun y9 _ hy9 => ?_, fun _ => rfl, fun c => by omega⟩
  refine ⟨fun _ => True, fun y13 _ _ => ⟨fun _ => ?_, fun c => absurd (by rw [hy9]; rfl) c⟩, fun _ => trivial, fun _ => trivial⟩
  generalize hs0 : upC (upC (upC (upC (upC (upC σ 8 11 a2) 8 12 y1) 8 15 (0 : Int32)) 8 16 (0 : Int32)) 8 9 y9) 8 13 y13 = s0
  have k0 : KDF σ s0 := by
    rw [← hs0]
    exact kp_f (kp_f (kp_f (kp_f (kp_f (kp_f kp_rf rfl) rfl) rfl) rfl) rfl) rfl
  have x9 : s0 8 9 = y9 := by
    rw [← hs0, rdA_ne (by decide), rdA_eq rfl]
  have r0 : ∀ c, c ≠ 8 → s0 c = σ c := fun c hc => by
    rw [← hs0, rdC_ne hc, rdC_ne hc, rdC_ne hc, rdC_ne hc, rdC_ne hc, rdC_ne hc]
  have vs : vlx s0 a1 = vlx σ a1 := by unfold vlx; rw [r0 14 (by decide)]
  have ts : tkx s0 a1 = 2 := by unfold tkx at tk ⊢; rw [r0 13 (by decide)]; exact tk
  have fin : ∀ s, KWk σ s → WKs ρ s → UFx s Nb → (s 5 7).toInt ≤ (σ 5 7).toInt + (vlx σ a1).toNat → (s 8 9) = y9 → (s 7 7) = (σ 7 7) → (s 4 1) = (σ 4 1) → (s 9 5) = (σ 9 5) → (s 6 6) = (σ 6 6) → Q (upC s 8 6 ((-1) : Int32)) := fun s ks ws us ns is cs ls os fs => by
    generalize hs : upC s 8 6 ((-1) : Int32) = t
    have kt : Kp [(8, 6), (8, 7), (8, 8)] [] s t := by
      rw [← hs]
      exact kp_f kp_rf rfl
    have et : clen t = clen s := by unfold clen; rw [show t 4 1 = s 4 1 from kt 4 1 rfl rfl]
    have ets : clen s = clen σ := by unfold clen; rw [ls]
    refine k t (ko_tr ks (ko_sub (ko_kp kt) (by decide) (by decide))) (wk_D kt ws) (by rw [show t 5 7 = s 5 7 from kt 5 7 rfl rfl]; exact ns) (fun _ => ?_)
    have mk : ∀ M', (M' = [] ∨ M' = [9]) → ∃ Nb' b' e1 g' X', WSx ρ s 0 M' [] Nb' b' e1 0 g' X' ∧ clen t ≤ clen σ := fun M' hM' => by
      have hM2 : M' = [] ∨ ∃ c, 9 ≤ c ∧ M' = [c] := hM'.imp id (fun q => ⟨9, by decide, q⟩)
      obtain ⟨g', sb'⟩ := sb_fresh (s := s) (K := M') (by rw [cs]; exact c00) (by rw [ls]; exact l00) (by rw [os]; exact o00) hM2
      refine ⟨Nb, clen s, clen s, g', _, ⟨⟨n1, by omega, Nat.le_refl _⟩, se_nil sb', us, ?_, ?_, fun _ => ⟨by rw [fs]; exact f0, hM2⟩, fun z => absurd z (by decide), fun _ => ⟨fun q => absurd (by rw [is, hy9]; rfl) q, fun q => absurd q (by decide)⟩⟩, by omega⟩
      · rcases hM' with q | q
        · rw [q]
          decide
        · rw [q]
          decide
      · rcases hM' with q | q
        · rw [q]
          exact trivial
        · rw [q]
          exact ⟨fun z => absurd z (by decide), fun _ => Or.inl rfl, trivial⟩
    have up : ∀ M', (∃ Nb' b' e1 g' X', WSx ρ s 0 M' [] Nb' b' e1 0 g' X' ∧ clen t ≤ clen σ) → ∃ Nb' b' e1 g' X', WSx ρ t 0 M' [] Nb' b' e1 0 g' X' ∧ clen t ≤ clen σ := fun M' ⟨Nb', b', e1, g', X', q1, q2⟩ => ⟨Nb', b', e1, g', X', ws_D kt q1, q2⟩
    rcases hM with ⟨-, rfl⟩ | ⟨-, rfl⟩
    · exact up _ (mk _ (Or.inr rfl))
    · exact up _ (mk _ (Or.inl rfl))
  have uf0 : UFx s0 Nb := kl_uf (kdf_l k0) (fun j _ => by rw [r0 24 (by decide)]) h3
  refine sp_outer (wk_D2 k0 wk) (by unfold NMr; rw [r0 13 (by decide), r0 14 (by decide), r0 15 (by decide)]; exact nm) (by rw [r0 1 (by decide)]; exact by') ts (by rw [r0 5 (by decide), r0 6 (by decide)]; exact hd) (by rw [r0 5 (by decide), vs]; exact hn) (fun s fs ff => ?_) (fun s hp => ?_)
  · have q := fs.1
    have ql := fa_l fs
    have kz : KWk σ s := ko_tr (kl_wk0 (kdf_l k0)) (kl_wk0 ql)
    have e4 : (s 4 1) = (s0 4 1) := q 4 1 rfl rfl
    have ecl : clen s = clen s0 := by unfold clen; rw [e4]
    have w0 := wk_D2 k0 wk
    refine fin s kz (kl_wk w0 ql (by rw [show s 6 15 = s0 6 15 from q 6 15 rfl rfl]; exact w0.2.1.2.2.2.1) (fun j _ => q 24 j rfl rfl) (by rw [ecl]; exact w0.2.2.1.2.2.2) (by rw [e4]; exact w0.2.2.2.1)) (kl_uf ql (fun j _ => q 24 j rfl rfl) uf0) (by rw [show s 5 7 = s0 5 7 from q 5 7 rfl rfl, r0 5 (by decide)]; omega) ((show s 8 9 = s0 8 9 from q 8 9 rfl rfl).trans x9) ((show s 7 7 = s0 7 7 from q 7 7 rfl rfl).trans (by rw [r0 7 (by decide)])) (e4.trans (by rw [r0 4 (by decide)])) ((show s 9 5 = s0 9 5 from q 9 5 rfl rfl).trans (by rw [r0 9 (by decide)])) ((show s 6 6 = s0 6 6 from q 6 6 rfl rfl).trans (by rw [r0 6 (by decide)]))
  · obtain ⟨d, h1, h2', dv, nf, nf0, il, nd⟩ := hp
    rw [vs, r0 5 (by decide)] at nd
    obtain ⟨r1, r2, r3, r4, r5, r6, r7⟩ := ku_rows dv.1
    have w0 := wk_D2 k0 wk
    have ecl : clen s = clen s0 := by unfold clen; rw [r2]
    refine fin s (ko_tr (kl_wk0 (kdf_l k0)) r7) (wk_dv w0 dv r7 (fun q => absurd q nf) (by rw [r6]; exact w0.2.1.2.2.2.1) (fun j _ => by rw [r1]) (by rw [ecl]; exact w0.2.2.1.2.2.2) (by rw [r2]; exact w0.2.2.2.1)) (uf_dv dv (fun q => Or.inl (nf0 q)) (by rw [r0 6 (by decide)]; exact f0) (fun j _ => by rw [r1]) (fun q => absurd q nf) uf0) nd (il.trans x9) (r3.trans (by rw [r0 7 (by decide)])) (r2.trans (by rw [r0 4 (by decide)])) (r4.trans (by rw [r0 9 (by decide)])) (r5.trans (by rw [r0 6 (by decide)]))
end FUH
