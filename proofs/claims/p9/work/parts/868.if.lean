/-! steps of statements: if -/
section SIF
variable {σ s z t : St} {g g' g1 : Gh} {X X0 Y : Nat → Prop} {b e e0 e' H H0 H' L L' m n c d p tt j : Nat} {K E G D : List Nat} {x y v : Int32}
theorem sk_srtr (kx : KXS σ z) (mk : MKs σ z) (w : ∀ j, j < b → (z 24) j = (σ 24) j) (hf : (z 6 3).toInt = 0 → (σ 6 3).toInt = 0) (l : clen z ≤ clen σ + d) (h0 : 0 ≤ (σ 4 1).toInt) (h1 : 0 ≤ (z 4 1).toInt) (r : SRs z s b K H0 m) : SRs σ s b K H0 (d + m) := by
  obtain ⟨r1, r2, r3, r4, r5, r6⟩ := r
  have c0 := clen_eq h0
  have c1 := clen_eq h1
  refine ⟨ko_tr kx r1, mks_tr mk r2, ⟨fun j hj => (r3.1 j hj).trans (w j hj), r3.2⟩, r4, by clear r6; omega, fun f => ?_⟩
  obtain ⟨f1, g', X', a1, a2⟩ := r6 f
  exact ⟨hf f1, g', X', a1, by omega⟩
theorem vs_begin (h : VS σ g b K X 0 e0) (kk : Kp [(9, 5)] [49, 50, 51, 52] σ s) (o1 : (s 9 5).toInt = nzr K + 1) (hs : ∀ j, j ≠ nzr K → (s 49) j = (σ 49) j ∧ (s 50) j = (σ 50) j ∧ (s 51) j = (σ 51) j ∧ (s 52) j = (σ 52) j) (hl : ((s 49) (nzr K)).toInt = 0) (hx : (s 51) (nzr K) = -1) (ha : (s 52) (nzr K) = -1) : VS s g b (1 :: K) X 0 e0 := by
  obtain ⟨h1, h2, h3, h4, h5, h6, h7, h8, h9, h10⟩ := h
  have w0 : (s 24) = (σ 24) := funext (fun j => kk 24 j rfl rfl)
  have e4 : (s 4 1) = (σ 4 1) := kk 4 1 rfl rfl
  have e7 : (s 7 7) = (σ 7 7) := kk 7 7 rfl rfl
  have e65 : (s 65 9) = (σ 65 9) := kk 65 9 rfl rfl
  have e66 : (s 65 6) = (σ 65 6) := kk 65 6 rfl rfl
  have ecl : clen s = clen σ := by unfold clen; rw [e4]
  have kx : KXS σ s := ko_sub (ko_kp kk) (by decide) (by decide)
  have mk : MKs σ s := mks_eq (funext (fun j => kk 25 j rfl rfl)) (funext (fun j => kk 39 j rfl rfl))
  have lv : LV (1 :: K) = LV K := rfl
  refine ⟨?_, cx_begin h2 kk hs (by rw [hl]; rfl) hx ha (Or.inl rfl) (fun z => by omega), by rw [e7]; exact h3, by rw [e4]; exact h4, by rw [o1, nz_c (by decide)]; rfl, by rw [ecl]; exact h6, by rw [ecl]; exact h7, ?_, by rw [e65]; exact h9, by rw [e66, ecl]; exact h10⟩
  · rw [ecl, lv, w0]
    exact typ_mono (fun _ _ => rfl) agr_rf (cpu_x kx mk) (fun _ z => z) h1
  · rw [lv, w0]
    exact typ_mono (fun _ _ => rfl) agr_rf (cpu_x kx mk) (fun _ z => z) h8
theorem ss_if {Q : St → Prop} (h : SE σ g b K X 0 e0 [iV]) (hb : b ≤ e0) (hn : nzr K < 26) (cap : (σ 4 1).toInt ≤ 262150) (k : ∀ s, SRs σ s b (1 :: K) 0 (2 * plc σ [iV] + 2) → Q s) : wk_X7_condition x σ (fun u8 s8 => wk_X7_begin (0 : Int32) s8 (fun s14 => wk_X7_exitUnless u8 s14 (fun s19 => Q s19))) := by
  have c0 := clen_eq h.1.2.2.1
  have hh0 := h.1.2.2.1
  have ho := h.2.2.1
  have he := xc_e0 h.1
  have p1 : plc σ [iV] = pk σ 65 + 0 := plc_V
  have pk1 := pkq_le (σ := σ) (q := 65)
  refine sp_cond h (by omega) (fun s k1 m1 w1 l0 ⟨hc, hce⟩ hst hv => ?_)
  have c1 := clen_eq l0
  refine sk_begin (σ := s) (n := nzr K) (by rw [(kw_e k1).2.2.2.2.2.2]; exact ho) hn (fun t kk o1 rs a1 a2 a3 a4 => ?_)
  have e4 : (t 4 1) = (s 4 1) := kk 4 1 rfl rfl
  have e6 : (t 6 3) = (s 6 3) := kk 6 3 rfl rfl
  have e65 : (t 65 9) = (s 65 9) := kk 65 9 rfl rfl
  have e66 : (t 65 6) = (s 65 6) := kk 65 6 rfl rfl
  have w0 : (t 24) = (s 24) := funext (fun j => kk 24 j rfl rfl)
  have ecl : clen t = clen s := by unfold clen; rw [e4]
  have a10 : ((t 49) (nzr K)).toInt = 0 := by rw [a1]; rfl
  have kx : KXS s t := ko_sub (ko_kp kk) (by decide) (by decide)
  have mk : MKs s t := mks_eq (funext (fun j => kk 25 j rfl rfl)) (funext (fun j => kk 39 j rfl rfl))
  have hbc : b ≤ clen s := Nat.le_trans hb hce
  · refine sp_exit (σ := t) (c := 1) (K := K) (X := X) (e0 := e0) (b := b) o1 hn (by rw [e4]; exact l0) (by rw [e4]; clear hst hv; omega) (Or.inl rfl) hb (by rw [e65, e66, e4]; exact hst) (by rw [ecl]; exact hbc) (fun f => ?_) (fun z r => k z (sk_srtr (z := t) (ko_tr (kxs_e k1) kx) (mks_tr m1 mk) (fun j hj => by rw [w0]; exact w1 j (by clear hst hv; omega)) (fun f => (hv (by rw [← e6]; exact f)).1) (by rw [ecl]; exact hc) hh0 (by rw [e4]; exact l0) r))
    obtain ⟨f1, g2, -, vs⟩ := hv (by rw [← e6]; exact f)
    exact ⟨g2, vs_begin vs kk o1 rs a10 a3 a4⟩
end SIF
