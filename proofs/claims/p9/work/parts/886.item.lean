/-! the walk: items of an initial, a string that fills an array -/
/-- a value on the stack -/
def WVx (ρ s : St) (F : Nat) (K : List Nat) (Nb b e0 H0 : Nat) (g : Gh) (X : Nat → Prop) : Prop :=
  (clen ρ ≤ Nb ∧ Nb ≤ b ∧ b ≤ e0) ∧ VS s g b K X H0 e0 ∧ UFx s Nb ∧ nzr K ≤ 25 ∧ wfK K ∧
  (F = 0 → (s 6 6).toInt = -1 ∧ (K = [] ∨ ∃ c, 9 ≤ c ∧ K = [c])) ∧
  (1 ≤ F → FNi s F K Nb b ∧ (H0 ≠ 0 → (∃ K', K = 10 :: K') ∧ (s 8 16).toInt ≠ 0)) ∧
  (inI K → ((s 8 9).toInt ≠ 0 ↔ 1 ≤ F))
section ITM
variable {σ s z t ρ : St} {g g' g1 : Gh} {X X0 Y : Nat → Prop} {b e e0 e' h h' H H0 H' L L' m n N N' Nb c d p tt j i F F' k B : Nat} {K K2 M E G D : List Nat} {A : List It} {x y v a op a1 a2 a3 : Int32}
theorem ws_pop {Q : Nat → St → Prop} (wk : WKs ρ σ) (h : WSx ρ σ F K [iV] Nb b e0 H0 g X) (cap : (σ 4 1).toInt ≤ 262150) (k : ∀ s g', KXW σ s → WKs ρ s → WVx ρ s F K Nb b e0 H0 g' X → clen s ≤ clen σ + 2 * plc σ [iV] → (s 6 3) = (σ 6 3) → (∀ j, s 8 j = σ 8 j) → Q 65 s) : wk_X2_pop σ Q := by
  obtain ⟨⟨n1, n2, n3⟩, h2, h3, h4, h5, h6, h7, h8⟩ := h
  refine vs_pop h2 (by omega) (fun s g1 k1 m1 w1 ag vs hc fu _ => ?_)
  have kx := kxw_e k1
  have l0 := vs.2.2.2.1
  have he := vs.2.2.2.2.2.2.1
  have d8 : ∀ j, s 8 j = σ 8 j := fun j => k1 8 j (op_lt (by decide)) (by
    rw [List.contains_cons, List.contains_cons, List.contains_cons, List.contains_cons, List.contains_cons, List.contains_cons, List.contains_nil]
    rfl) rfl
  have es : (s 6 15) = (σ 6 15) := k1 6 15 (op_lt (by decide)) rfl rfl
  refine k s g1 kx (wk_w wk kx m1 (by rw [es]; exact wk.2.1.2.2.2.1) (fun j hj => w1 j (by omega)) (by omega) l0) ⟨⟨n1, n2, n3⟩, vs, uf_w kx m1 (fun q hq => w1 q (by omega)) h3, h4, h5, fun c => by rw [show s 6 6 = σ 6 6 from k1 6 6 (op_lt (by decide)) rfl rfl]; exact h6 c, fun c => ⟨fn_k kx m1 es (k1 6 17 (op_lt (by decide)) rfl rfl) (funext (fun j => k1 45 j (op_lt (by decide)) rfl rfl)) rfl ?_ (h7 c).1, fun z => by rw [d8]; exact (h7 c).2 z⟩, fun c => by rw [d8]; exact h8 c⟩ hc fu d8
  obtain ⟨d, -, -, -, -, -, -, -, -, -, -, -, -, -, q⟩ := (h7 c).1
  exact q
theorem kl_fn0 (q : KLx σ s) (e1 : (s 6 10) = (σ 6 10)) (e2 : (s 6 15) = (σ 6 15)) (e3 : (s 42) = (σ 42)) (hz : zc M = zc K) (hF : 2 ≤ F → M = []) (h : FNi σ F K Nb b) : FNi s F M Nb b := by
  have h' := h
  obtain ⟨d, -, -, -, -, -, -, -, -, a9, b1, -, -, b4, -⟩ := h'
  exact kl_fn q hz hF (by rw [e1]; exact a9.2) (by rw [e1]; omega) (by rw [e1, e2]; exact b1) (fun j hj => by rw [e3]; exact b4 j (by rw [← e1]; exact hj)) h
/-- what an initial puts, after the code was cut -/
theorem sp_putInitial {Q : St → Prop} (hv : VS σ g b K X H0 e0) (k : ∀ s, KLx σ s → (∀ j, j ≠ 4 → j ≠ 5 → j ≠ 31 → j ≠ 32 → j ≠ 33 → s j = σ j) → SHx s g b K X H0 (H0 + 420) → clen s = e0 → Q s) : wk_X1_putInitial x 65 σ Q := by
  obtain ⟨h1, h2, h3, h4, h5, h6, h7, h8, h9, h10⟩ := hv
  have c0 := clen_eq h4
  unfold wk_X1_putInitial
  refine sk_cut (by rw [h9]; omega) (fun s1 k1 e1 => ?_)
  refine sp_isConstant (fun _ => ?_) (fun _ => ?_)
  all_goals
    refine ⟨fun _ => True, fun y2 _ => ?_, fun _ => trivial, fun _ => trivial⟩
    refine sk_addInitial (fun s ks => ?_)
    have kk : KLx σ s := ko_tr (ko_sub (ko_kp k1) (by decide) (by decide)) (ko_sub (ko_kp ks) (by decide) (by decide))
    have e4 : (s 4 1) = (σ 65 9) := (ks 4 1 rfl rfl).trans e1
    have ecl : clen s = e0 := by
      have := clen_eq (σ := s) (by rw [e4, h9]; omega)
      rw [e4, h9] at this
      omega
    have w : (s 24) = (σ 24) := funext (fun j => (ks 24 j rfl rfl).trans (k1 24 j rfl rfl))
    obtain ⟨r1, r2, r3, r4, r5, r6⟩ := kl_rows kk
    have rr : ∀ j, j ≠ 4 → j ≠ 5 → j ≠ 31 → j ≠ 32 → j ≠ 33 → s j = σ j := fun j j4 j5 j31 j32 j33 => funext (fun q => (ks j q (by
      simp only [List.contains_cons, List.contains_nil, Bool.or_false]
      cases hh : ((j, q) == ((5 : Nat), (9 : Nat))) with
      | false => rfl
      | true => exact absurd (congrArg Prod.fst (eq_of_beq hh)) j5) (by
      simp only [List.contains_cons, List.contains_nil, Bool.or_false, beq_eq_false_iff_ne.mpr j31, beq_eq_false_iff_ne.mpr j32, beq_eq_false_iff_ne.mpr j33])).trans (k4_of k1 j q j4))
    refine k s kk rr ⟨?_, ?_, by rw [rr 7 (by decide) (by decide) (by decide) (by decide) (by decide)]; exact h3, by rw [e4, h9]; omega, by rw [rr 9 (by decide) (by decide) (by decide) (by decide) (by decide)]; exact h5, by rw [ecl]; exact bnd_le h6 (Nat.le_refl _) h7 (Nat.le_refl _)⟩ ecl
    · rw [ecl, w]
      exact typ_mono (fun _ _ => rfl) agr_rf (kl_cp kk) (fun _ z => z) h8
    · rw [ecl]
      exact cx_mono K X (fun j _ => ⟨by rw [r1], by rw [r2], by rw [r3], by rw [r4], by rw [r5], by rw [r6]⟩) (fun q _ => by rw [w]) agr_rf (Nat.le_refl _) h2
theorem wf_9 {c : Nat} (h9 : 9 ≤ c) {c' : Nat} (h : 9 ≤ c') (w : wfK (c :: K)) : wfK (c' :: K) := ⟨fun z => by omega, fun _ => w.2.1 (by omega), w.2.2⟩
theorem f0_9 {c c' : Nat} (h9 : 9 ≤ c') (h : (c :: K) = [] ∨ ∃ c1, 9 ≤ c1 ∧ (c :: K) = [c1]) : (c' :: K) = [] ∨ ∃ c1, 9 ≤ c1 ∧ (c' :: K) = [c1] := by
  rcases h with h | ⟨c1, h1, h2⟩
  · cases h
  · have := (List.cons.inj h2).2
    rw [this]
    exact Or.inr ⟨c', h9, rfl⟩
theorem ini_9 {c : Nat} (h : 9 ≤ c) : inI (c :: K) := ⟨c, K, rfl, h⟩
/-- an item -/
theorem ws_item {Q : St → Prop} (hc9 : 9 ≤ c) (wk : WKs ρ σ) (h : WSx ρ σ F (c :: K) [iV] Nb b e0 H0 g X) (cap : (σ 4 1).toInt ≤ 262150) (k : ∀ s, KWk σ s → WKs ρ s → (s 5 7) = (σ 5 7) → ((s 6 3).toInt = 0 → ∃ e1 H1 g' X', WSx ρ s F (10 :: K) [] Nb b e1 H1 g' X' ∧ clen s ≤ clen σ + 2 * plc σ [iV] + 3) → Q s) : wk_X1_item σ Q := by
  unfold wk_X1_item
  refine ws_pop wk h cap (fun s g1 kx ws hv hc fu d8 => ?_)
  obtain ⟨⟨n1, n2, n3⟩, vs, h3, h4, h5, h6, h7, h8⟩ := hv
  have p1 : plc σ [iV] = pk σ 65 + 0 := plc_V
  have pk1 := pkq_le (σ := σ) (q := 65)
  have sh := vs_sh vs
  have l0 := sh.2.2.2.1
  have c1 := clen_eq l0
  have c0 := clen_eq (h.2.1.1.2.2.1)
  have he := vs.2.2.2.2.2.2.1
  have sn : (s 5 7) = (σ 5 7) := kx 5 7 (op_lt (by decide)) rfl rfl
  -- from a state that keeps enough
  have fin : ∀ t g2 H1, KLx s t → (∀ j, j < b → (t 24) j = (s 24) j) → (t 6 10) = (s 6 10) → (t 6 15) = (s 6 15) → (t 42) = (s 42) → (t 8 9) = (s 8 9) → (F = 0 ∨ H1 = 0 ∨ (t 8 16).toInt ≠ 0) → SHx t g2 b (c :: K) X H1 (H1 + 420) → clen t ≤ clen s + 3 → Q t := fun t g2 H1 kt wt e1 e2 e3 e4 hm sht hl => by
    have tb := sht.1.1
    have wt' := kl_wk ws kt (by rw [e2]; exact ws.2.1.2.2.2.1) (fun j hj => wt j (by omega)) (by omega) sht.2.2.2.1
    refine k t (ko_tr (kw_xw kx) (kl_wk0 kt)) wt' ((show t 5 7 = s 5 7 from kt 5 7 (op_lt (by decide)) rfl rfl).trans sn) (fun _ => ⟨clen t, H1, g2, X, ⟨⟨n1, n2, tb⟩, se_nil (sh_sb ((sh_9 (Or.inr (by decide))).mpr ((sh_9 (Or.inr hc9)).mp sht)) (Nat.le_refl _)), kl_uf kt (fun j hj => wt j (by omega)) h3, ?_, wf_9 hc9 (by decide) h5, fun z => ⟨by rw [show t 6 6 = s 6 6 from kt 6 6 (op_lt (by decide)) rfl rfl]; exact (h6 z).1, f0_9 (by decide) (h6 z).2⟩, fun z => ⟨kl_fn0 kt e1 e2 e3 ?_ ?_ (h7 z).1, fun y => ⟨⟨K, rfl⟩, ?_⟩⟩, fun _ => by rw [e4]; exact h8 (ini_9 hc9)⟩, by omega⟩)
    · rw [nz_0 (Or.inr (by decide))]
      rw [nz_0 (Or.inr hc9)] at h4
      exact h4
    · rw [zc_s (by decide), zc_s (by omega)]
    · intro z2
      obtain ⟨d, -, -, -, -, -, -, -, -, -, -, -, -, -, q⟩ := (h7 z).1
      cases q z2
    · rcases hm with hm | hm | hm
      · omega
      · exact absurd hm y
      · exact hm
  have hmis : F = 0 ∨ H0 = 0 ∨ (s 8 16).toInt ≠ 0 := by
    by_cases f0 : F = 0
    · exact Or.inl f0
    · by_cases h00 : H0 = 0
      · exact Or.inr (Or.inl h00)
      · exact Or.inr (Or.inr ((h7 (by omega)).2 h00).2)
  refine ⟨True, fun _ => ?_, fun _ => trivial, fun _ => ?_⟩
  · generalize hz : upC (upC s 8 16 (1 : Int32)) 8 15 ((s 8 15) + (1 : Int32)) = t
    have kt : Kp [(8, 16), (8, 15)] [] s t := by rw [← hz]; exact kp_f (kp_f kp_rf rfl) rfl
    have ql : KLx s t := ko_sub (ko_kp kt) (by decide) (by decide)
    have m1 : (t 8 16).toInt ≠ 0 := by
      rw [← hz, rdA_ne (by decide), rdA_eq rfl]
      decide
    have e4 : (t 4 1) = (s 4 1) := kt 4 1 rfl rfl
    have w : (t 24) = (s 24) := funext (fun j => kt 24 j rfl rfl)
    exact fin t g1 (H0 + 1) ql (fun j _ => by rw [w]) (kt 6 10 rfl rfl) (kt 6 15 rfl rfl) (funext (fun j => kt 42 j rfl rfl)) (kt 8 9 rfl rfl) (Or.inr (Or.inr m1)) (sh_keep e4 (kt 7 7 rfl rfl) (kl_open ql) w (kl_rows ql) (kl_cp ql) ⟨sh.1, sh.2.1, sh.2.2.1, sh.2.2.2.1, sh.2.2.2.2.1, bnd_le sh.2.2.2.2.2 (Nat.le_refl _) (Nat.le_refl _) (by omega)⟩) (by have : clen t = clen s := (by unfold clen; rw [e4]); omega)
  · unfold wk_X1_suits
    have two : ∀ v : Int32, (v.toInt ≠ 0 → ((s 8 9).toInt = 0 → wk_X1_putInitial (s 8 15) 65 s (fun s70 => Q (upC s70 8 15 ((s70 8 15) + (1 : Int32))))) ∧ ((s 8 9).toInt ≠ 0 → wk_X0_emit (16 : Int32) (s 8 10) (s 8 15) (0 : Int32) s (fun v57 s57 => Q (upC s57 8 15 ((s57 8 15) + (1 : Int32)))))) ∧ (v.toInt = 0 → True) := fun v => by
      refine ⟨fun _ => ⟨fun _ => ?_, fun _ => ?_⟩, fun _ => trivial⟩
      · refine sp_putInitial vs (fun s2 k2 r2 sh2 ec2 => ?_)
        generalize hz : upC s2 8 15 ((s2 8 15) + (1 : Int32)) = t
        have kt : Kp [(8, 15)] [] s2 t := by rw [← hz]; exact kp_f kp_rf rfl
        have ql : KLx s2 t := ko_sub (ko_kp kt) (by decide) (by decide)
        have e4 : (t 4 1) = (s2 4 1) := kt 4 1 rfl rfl
        have w : (t 24) = (s2 24) := funext (fun j => kt 24 j rfl rfl)
        have r6 : s2 6 = s 6 := r2 6 (by decide) (by decide) (by decide) (by decide) (by decide)
        have r8 : s2 8 = s 8 := r2 8 (by decide) (by decide) (by decide) (by decide) (by decide)
        refine fin t g1 H0 (ko_tr k2 ql) (fun j _ => by rw [w, r2 24 (by decide) (by decide) (by decide) (by decide) (by decide)]) ((kt 6 10 rfl rfl).trans (by rw [r6])) ((kt 6 15 rfl rfl).trans (by rw [r6])) ((funext (fun j => kt 42 j rfl rfl)).trans (r2 42 (by decide) (by decide) (by decide) (by decide) (by decide))) ((kt 8 9 rfl rfl).trans (by rw [r8])) ?_ (sh_keep e4 (kt 7 7 rfl rfl) (kl_open ql) w (kl_rows ql) (kl_cp ql) sh2) (by have : clen t = clen s2 := (by unfold clen; rw [e4]); omega)
        rw [show t 8 16 = s 8 16 from (kt 8 16 rfl rfl).trans (by rw [r8])]
        exact hmis
      · refine sk_emit (n := 16) rfl (by decide) l0 (by omega) (fun v s2 _ em => ?_)
        obtain ⟨g2, ag, sh2⟩ := sh_emit sh em (k := 16) (h' := H0) rfl ⟨by decide, by decide⟩ (by show 1 ≤ H0 + 1; omega) (by show (H0 : Int) = ((H0 + 1 : Nat) : Int) + -1; omega) (by omega)
        have ec := em_clen em (n := 16) rfl l0
        have l16 : ln 16 = 3 := rfl
        generalize hz : upC s2 8 15 ((s2 8 15) + (1 : Int32)) = t
        have kt : Kp [(8, 15)] [] s2 t := by rw [← hz]; exact kp_f kp_rf rfl
        have ql : KLx s2 t := ko_sub (ko_kp kt) (by decide) (by decide)
        have e4 : (t 4 1) = (s2 4 1) := kt 4 1 rfl rfl
        have w : (t 24) = (s2 24) := funext (fun j => kt 24 j rfl rfl)
        have er : ∀ j q, j ≠ 4 → j ≠ 24 → s2 j q = s j q := fun j q j4 j24 => em_cells em j q j4 j24
        have bb := sh.1.1
        refine fin t g2 H0 (ko_tr (em_l em) ql) (fun j hj => by rw [w]; exact em.2.2.1 j (by omega)) ((kt 6 10 rfl rfl).trans (er _ _ (by decide) (by decide))) ((kt 6 15 rfl rfl).trans (er _ _ (by decide) (by decide))) (funext (fun j => (kt 42 j rfl rfl).trans (er _ _ (by decide) (by decide)))) ((kt 8 9 rfl rfl).trans (er _ _ (by decide) (by decide))) ?_ (sh_keep e4 (kt 7 7 rfl rfl) (kl_open ql) w (kl_rows ql) (kl_cp ql) sh2) (by have : clen t = clen s2 := (by unfold clen; rw [e4]); omega)
        rw [show t 8 16 = s 8 16 from (kt 8 16 rfl rfl).trans (er _ _ (by decide) (by decide))]
        exact hmis
    refine sk_fits ⟨fun _ => two 0, fun n => absurd rfl n⟩ ⟨fun n => absurd n (by decide), fun _ => ⟨fun _ => two 1, fun _ => ⟨fun _ => ⟨fun _ => two 0, fun _ => two 1⟩, fun _ => ⟨fun _ => two 0, fun _ => two 1⟩⟩⟩⟩
end ITM
