/-! the walk: what steps of declarations keep -/
abbrev KLx (a b : St) : Prop := Ko [(7, 7), (4, 1), (6, 3), (6, 4), (6, 5), (6, 10), (6, 15), (5, 9), (8, 6), (8, 7), (8, 8), (8, 9), (8, 10), (8, 11), (8, 12), (8, 13), (8, 14), (8, 15), (8, 16)] [17, 24, 31, 32, 33, 40, 41, 42, 43, 44] a b
/-- code typed up to the end, at a height -/
def SHx (σ : St) (g : Gh) (b : Nat) (K : List Nat) (X : Nat → Prop) (h B : Nat) : Prop := TYp (σ 24) g (CPu σ) X b (clen σ) h (LV K) ∧ CX σ g (clen σ) K X ∧ (σ 7 7).toInt = 0 ∧ 0 ≤ (σ 4 1).toInt ∧ (σ 9 5).toInt = nzr K ∧ BND g b (clen σ) B
section DC0
variable {σ s z t ρ : St} {g g' g1 : Gh} {X X0 Y : Nat → Prop} {b e e0 e' h h' H H0 H' L L' m n N N' Nb c d p tt j i F F' k B : Nat} {K K2 M E G D : List Nat} {A : List It} {x y v a op a1 a2 a3 : Int32}
theorem lv_9 (hc : c = 0 ∨ 9 ≤ c) : LV (c :: K) = LV K := by
  show (if c = 3 ∨ c = 4 ∨ c = 5 ∨ c = 7 then LV K + 1 else if c = 8 then LV K + 2 else LV K) = LV K
  rw [if_neg (by omega), if_neg (by omega)]
theorem cx_9 (hc : c = 0 ∨ 9 ≤ c) : CX σ g e (c :: K) X ↔ CX σ g e K X := by
  constructor
  · intro h
    unfold CX at h
    rw [if_pos hc] at h
    exact h
  · intro h
    unfold CX
    rw [if_pos hc]
    exact h
theorem sh_9 (hc : c = 0 ∨ 9 ≤ c) : SHx σ g b (c :: K) X h B ↔ SHx σ g b K X h B := by
  unfold SHx
  rw [lv_9 hc, cx_9 hc, nz_0 hc]
theorem sh_sb (q : SHx σ g b K X h B) (hB : B ≤ h + 420) : SB σ g b K X h := ⟨q.1, q.2.1, q.2.2.1, q.2.2.2.1, q.2.2.2.2.1, bnd_le q.2.2.2.2.2 (Nat.le_refl _) (Nat.le_refl _) hB⟩
theorem vs_sh (q : VS s g b K X H0 e0) : SHx s g b K X (H0 + 1) (H0 + 420) := by
  obtain ⟨h1, h2, h3, h4, h5, h6, h7, -⟩ := q
  exact ⟨h1, cx_mono K X (fun _ _ => ⟨rfl, rfl, rfl, rfl, rfl, rfl⟩) (fun _ _ => rfl) agr_rf h7 h2, h3, h4, h5, h6⟩
theorem sh_keep (e4 : (s 4 1) = (σ 4 1)) (e7 : (s 7 7) = (σ 7 7)) (e9 : (s 9 5) = (σ 9 5)) (w : (s 24) = (σ 24)) (r : (s 49) = (σ 49) ∧ (s 50) = (σ 50) ∧ (s 51) = (σ 51) ∧ (s 52) = (σ 52) ∧ (s 53) = (σ 53) ∧ (s 54) = (σ 54)) (cp : ∀ a m, CPu σ a m → CPu s a m) (q : SHx σ g b K X h B) : SHx s g b K X h B := by
  obtain ⟨h1, h2, h3, h4, h5, h6⟩ := q
  obtain ⟨r1, r2, r3, r4, r5, r6⟩ := r
  have ecl : clen s = clen σ := by unfold clen; rw [e4]
  refine ⟨?_, ?_, by rw [e7]; exact h3, by rw [e4]; exact h4, by rw [e9]; exact h5, by rw [ecl]; exact h6⟩
  · rw [ecl, w]
    exact typ_mono (fun _ _ => rfl) agr_rf cp (fun _ z => z) h1
  · rw [ecl]
    exact cx_mono K X (fun j _ => ⟨by rw [r1], by rw [r2], by rw [r3], by rw [r4], by rw [r5], by rw [r6]⟩) (fun q _ => by rw [w]) agr_rf (Nat.le_refl _) h2
theorem sh_emit (q : SHx σ g b K X h B) (em : EMi σ s op a1 a2 a3) (hk : op.toInt = k) (k1 : 1 ≤ k ∧ k ≤ 25) (hp : po k ≤ h) (hd : (h' : Int) = h + de k) (hB : h' ≤ B) : ∃ g', AGR g g' (clen σ) ∧ SHx s g' b K X h' B := by
  obtain ⟨h1, h2, h3, h4, h5, h6⟩ := q
  obtain ⟨ek, emk, el, ex, ef, ee⟩ := em_k em
  have ec := em_clen em hk h4
  have el2 := em_len em hk
  obtain ⟨g2, T2, ag2, gi2⟩ := typ_pl (w' := (s 24)) (n := k) (H' := h') (typ_mono (fun q _ => rfl) agr_rf (cpu_mono ek emk) (fun _ z => z) h1) em.2.2.1 (by rw [em.2.2.2.1]; exact hk) k1.1 (by omega) (Or.inl k1.2) hp hd
  refine ⟨g2, ag2, by rw [ec]; exact T2, cx_e ek em.2.2.1 ag2 (by omega) h2, by rw [ee]; exact h3, by omega, by rw [(kw_e ek).2.2.2.2.2.2]; exact h5, ?_⟩
  rw [ec]
  exact bnd_ext h6 ag2 gi2 T2.2.1 hB
theorem sb_fresh (hc : (s 7 7).toInt = 0) (h0 : 0 ≤ (s 4 1).toInt) (ho : (s 9 5).toInt = 0) (hK : K = [] ∨ ∃ c, 9 ≤ c ∧ K = [c]) : ∃ g, SB s g (clen s) K (fun _ => False) 0 := by
  have base : ∃ g, SHx s g (clen s) [] (fun _ => False) 0 420 := by
    refine ⟨fun q => if q = clen s then some (0, 0) else none, ⟨Nat.le_refl _, if_pos rfl, ⟨fun q hq => if_neg (by omega), if_pos rfl⟩, fun q h k hq hlt => ?_⟩, fun _ z => z, hc, h0, ho, fun q h k h1 h2 h3 => ?_⟩
    · have e : (if q = clen s then some ((0, 0) : Nat × Nat) else none) = some (h, k) := hq
      rw [if_neg (by omega)] at e
      cases e
    · have e : (if q = clen s then some ((0, 0) : Nat × Nat) else none) = some (h, k) := h3
      rw [if_pos (by omega)] at e
      cases e
      exact Nat.zero_le _
  obtain ⟨g, q⟩ := base
  rcases hK with e | ⟨c, hc9, e⟩
  · rw [e]
    exact ⟨g, sh_sb q (by decide)⟩
  · rw [e]
    exact ⟨g, sh_sb ((sh_9 (Or.inr hc9)).mpr q) (by decide)⟩
theorem kl_wk0 (k : KLx σ s) : KWk σ s := ko_sub k (by decide) (by decide)
theorem kxe_l (q : KXE σ s) (h25 : (s 25) = (σ 25)) (h39 : (s 39) = (σ 39)) : KLx σ s := fun c k h0 h1 h2 => by
  by_cases e1 : c = 25
  · subst e1
    exact congrFun h25 k
  · by_cases e2 : c = 39
    · subst e2
      exact congrFun h39 k
    · have q2 : Ko [(7, 7), (4, 1), (6, 3), (6, 4), (6, 5), (6, 10), (6, 15), (5, 9), (8, 6), (8, 7), (8, 8), (8, 9), (8, 10), (8, 11), (8, 12), (8, 13), (8, 14), (8, 15), (8, 16)] [25, 39, 17, 24, 31, 32, 33, 40, 41, 42, 43, 44] σ s := ko_sub q (by decide) (by decide)
      refine q2 c k h0 h1 ?_
      rw [List.contains_cons, List.contains_cons, h2, beq_eq_false_iff_ne.mpr e1, beq_eq_false_iff_ne.mpr e2]
      rfl
theorem em_l (em : EMi σ s op a1 a2 a3) : KLx σ s := ko_sub (ko_kp em.1) (by decide) (by decide)
theorem kl_mk (q : KLx σ s) : MKs σ s := mks_eq (funext (fun j => q 25 j (op_lt (by decide)) rfl rfl)) (funext (fun j => q 39 j (op_lt (by decide)) rfl rfl))
theorem kl_cp (q : KLx σ s) : ∀ a m, CPu σ a m → CPu s a m := fun a m hq => by
  unfold CPu at hq ⊢
  rw [show s 5 1 = σ 5 1 from q 5 1 (op_lt (by decide)) rfl rfl, show s 6 7 = σ 6 7 from q 6 7 (op_lt (by decide)) rfl rfl, show s 25 = σ 25 from funext (fun j => q 25 j (op_lt (by decide)) rfl rfl), show s 39 = σ 39 from funext (fun j => q 39 j (op_lt (by decide)) rfl rfl), show s 27 = σ 27 from funext (fun j => q 27 j (op_lt (by decide)) rfl rfl)]
  exact hq
theorem kl_rows (q : KLx σ s) : (s 49) = (σ 49) ∧ (s 50) = (σ 50) ∧ (s 51) = (σ 51) ∧ (s 52) = (σ 52) ∧ (s 53) = (σ 53) ∧ (s 54) = (σ 54) :=
  ⟨ko_rd q 49 (Or.inr (by decide)) rfl (fun _ => rfl), ko_rd q 50 (Or.inr (by decide)) rfl (fun _ => rfl), ko_rd q 51 (Or.inr (by decide)) rfl (fun _ => rfl), ko_rd q 52 (Or.inr (by decide)) rfl (fun _ => rfl), ko_rd q 53 (Or.inr (by decide)) rfl (fun _ => rfl), ko_rd q 54 (Or.inr (by decide)) rfl (fun _ => rfl)⟩
theorem kl_open (q : KLx σ s) : (s 9 5) = (σ 9 5) := q 9 5 (op_lt (by decide)) rfl rfl
theorem kl_uf (q : KLx σ s) (hw : ∀ j, j < N → (s 24) j = (σ 24) j) (h : UFx σ N) : UFx s N :=
  uf_mono (q 5 1 (op_lt (by decide)) rfl rfl) (q 6 7 (op_lt (by decide)) rfl rfl) (q 6 6 (op_lt (by decide)) rfl rfl) (funext (fun j => q 27 j (op_lt (by decide)) rfl rfl)) (funext (fun j => q 28 j (op_lt (by decide)) rfl rfl)) (kl_mk q) hw (kl_cp q) h
theorem kl_ol (o : OLx ρ σ) (q : KLx σ s) (hw : ∀ j, j < clen ρ → (s 24) j = (σ 24) j) (hl : clen ρ ≤ clen s) : OLx ρ s := by
  obtain ⟨o1, o2, o3, o4⟩ := o
  have e1 : (s 5 1) = (σ 5 1) := q 5 1 (op_lt (by decide)) rfl rfl
  have e2 : (s 6 7) = (σ 6 7) := q 6 7 (op_lt (by decide)) rfl rfl
  refine ⟨by rw [e1, e2]; exact o1, fun d hd => ?_, fun j hj => (hw j hj).trans (o3 j hj), hl⟩
  have r := o2 d hd
  rw [show (s 26) d = (σ 26) d from q 26 d (op_lt (by decide)) rfl rfl, show (s 27) d = (σ 27) d from q 27 d (op_lt (by decide)) rfl rfl, show (s 28) d = (σ 28) d from q 28 d (op_lt (by decide)) rfl rfl, show (s 29) d = (σ 29) d from q 29 d (op_lt (by decide)) rfl rfl, show (s 25) d = (σ 25) d from q 25 d (op_lt (by decide)) rfl rfl]
  exact r
theorem kl_wk (h : WKs ρ σ) (q : KLx σ s) (hs : (s 6 15).toInt ≤ 1000 ∧ -1000 ≤ (s 6 15).toInt) (hw : ∀ j, j < clen ρ → (s 24) j = (σ 24) j) (hl : clen ρ ≤ clen s) (h0 : 0 ≤ (s 4 1).toInt) : WKs ρ s := by
  obtain ⟨h1, ⟨u1, u2, u3, u4, u5⟩, h3, h4, h5⟩ := h
  have e1 : (s 5 1) = (σ 5 1) := q 5 1 (op_lt (by decide)) rfl rfl
  have e2 : (s 6 7) = (σ 6 7) := q 6 7 (op_lt (by decide)) rfl rfl
  have e3 : (s 27) = (σ 27) := funext (fun j => q 27 j (op_lt (by decide)) rfl rfl)
  have e4 : (s 25) = (σ 25) := funext (fun j => q 25 j (op_lt (by decide)) rfl rfl)
  have e5 : (s 15) = (σ 15) := funext (fun j => q 15 j (op_lt (by decide)) rfl rfl)
  exact ⟨ko_tr h1 (kl_wk0 q), ⟨by unfold PLA; rw [e5]; exact u1, by rw [e2]; exact u2, by rw [e1, e2]; exact u3, hs, fun j z => by rw [e3]; rw [e4] at z; exact u5 j z⟩, kl_ol h3 q hw hl, h0, nme_k e1 (q 5 7 (op_lt (by decide)) rfl rfl) (fun d => q 29 d (op_lt (by decide)) rfl rfl) h5⟩
theorem kl_fn (q : KLx σ s) (hz : zc M = zc K) (hF : 2 ≤ F' → M = []) (hl : (s 6 10).toInt + F' ≤ 101) (l0 : (σ 6 10).toInt ≤ (s 6 10).toInt) (hs : 0 ≤ (s 6 15).toInt ∧ (s 6 15).toInt ≤ (s 6 10).toInt) (hx : ∀ j : Nat, (j : Int) < (s 6 10).toInt → ((s 42) j).toInt ≤ 4000) (h : FNi σ F K Nb b) : FNi s F' M Nb b := by
  obtain ⟨d, a1, a2, a3, a4, a5, a6, a7, a8, a9, b1, b2, b3, b4, b5⟩ := h
  have r1 : (s 5 1) = (σ 5 1) := q 5 1 (op_lt (by decide)) rfl rfl
  have r2 : (s 6 7) = (σ 6 7) := q 6 7 (op_lt (by decide)) rfl rfl
  have r3 : (s 6 6) = (σ 6 6) := q 6 6 (op_lt (by decide)) rfl rfl
  have r5 : (s 6 17) = (σ 6 17) := q 6 17 (op_lt (by decide)) rfl rfl
  have r6 : (s 45) = (σ 45) := funext (fun j => q 45 j (op_lt (by decide)) rfl rfl)
  have r7 : (s 25) = (σ 25) := funext (fun j => q 25 j (op_lt (by decide)) rfl rfl)
  refine ⟨d, by rw [r3]; exact a1, by rw [r1, r2]; exact a2, by rw [r1]; exact a3, by rw [r7]; exact a4, by rw [r7]; exact a5, by rw [show (s 28) d = (σ 28) d from q 28 d (op_lt (by decide)) rfl rfl]; exact a6, a7, by rw [show (s 27) d = (σ 27) d from q 27 d (op_lt (by decide)) rfl rfl]; exact a8, ⟨by omega, hl⟩, hs, by rw [r5, hz]; exact b2, fun j j1 j2 => ?_, hx, hF⟩
  rw [r6]
  have := b3 j j1 (by rw [← r5]; exact j2)
  omega
end DC0
