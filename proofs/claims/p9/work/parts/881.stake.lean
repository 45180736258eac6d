/-! steps of statements: all -/
abbrev KXW (a b : St) : Prop := Ko [(7, 7), (4, 1), (6, 3), (6, 4), (6, 5), (5, 9), (9, 5), (6, 15), (6, 17)] [17, 24, 25, 31, 32, 33, 39, 43, 45, 49, 50, 51, 52, 53, 54] a b
def opSt (σ : St) : St := upC (upF σ 45 (setv 52 (σ 45) (σ 6 17) (σ 6 15))) 6 17 ((σ 6 17) + (1 : Int32))
def clSt (σ : St) : St := upC (upC σ 6 17 ((σ 6 17) - (1 : Int32))) 6 15 (atv 52 (σ 45) ((σ 6 17) - (1 : Int32)))
def SCk (a : Int) (σ s : St) : Prop := (a ≠ 20 → a ≠ 21 → (s 6 15) = (σ 6 15) ∧ (s 6 17) = (σ 6 17) ∧ (s 45) = (σ 45)) ∧ (a = 20 → s = opSt σ) ∧ (a = 21 → s = clSt σ)
def STk (σ s : St) (b : Nat) (K : List Nat) (m : Nat) : Prop := KXW σ s ∧ MKs σ s ∧ ((∀ j, j < b → (s 24) j = (σ 24) j) ∧ b ≤ clen s) ∧ 0 ≤ (s 4 1).toInt ∧ (s 4 1).toInt ≤ (σ 4 1).toInt + m ∧ ((s 6 3).toInt = 0 → (σ 6 3).toInt = 0 ∧ ∃ g X, SB s g b K X 0 ∧ clen s ≤ clen σ + m)
section STA
variable {σ s z t : St} {g g' g1 : Gh} {X X0 Y : Nat → Prop} {b e e0 e' H H0 H' L L' m n N c d p tt j i : Nat} {K K2 M E G D : List Nat} {x y v a : Int32}
theorem st_of (h : SRs σ s b K 0 n) (hn : n ≤ m) (ha : a.toInt ≠ 20 ∧ a.toInt ≠ 21) : STk σ s b K m ∧ SCk a.toInt σ s := by
  obtain ⟨r1, r2, r3, r4, r5, r6⟩ := h
  refine ⟨⟨ko_sub r1 (by decide) (by decide), r2, r3, r4, by clear r6; omega, fun hf => ?_⟩, ⟨fun _ _ => ⟨r1 6 15 (op_lt (by decide)) rfl rfl, r1 6 17 (op_lt (by decide)) rfl rfl, funext (fun j => r1 45 j (op_lt (by decide)) rfl rfl)⟩, fun c => absurd c ha.1, fun c => absurd c ha.2⟩⟩
  obtain ⟨f0, g', X', a1, a2⟩ := r6 hf
  exact ⟨f0, g', X', a1, by omega⟩
/-- where take() goes -/
theorem tk_all {Q : St → Prop} (hr : 20 ≤ a.toInt ∧ a.toInt ≤ 38)
    (h20 : a.toInt = 20 → wk_X11_open σ Q) (h21 : a.toInt = 21 → wk_X11_close σ Q) (h22 : a.toInt = 22 → wk_X2_pop σ (fun u148 s148 => wk_X0_emit (2 : Int32) (0 : Int32) (0 : Int32) (0 : Int32) s148 (fun v160 s160 => Q s160)))
    (h23 : 23 ≤ a.toInt ∧ a.toInt ≤ 25 → wk_X7_conditional a (atv 32100 (σ 19) x) σ (fun s => Q s)) (h26 : 26 ≤ a.toInt ∧ a.toInt ≤ 28 → wk_X7_whileLoop a (atv 32100 (σ 19) x) σ (fun s => Q s)) (h29 : 29 ≤ a.toInt ∧ a.toInt ≤ 31 → wk_X7_doLoop a (atv 32100 (σ 19) x) σ (fun s => Q s))
    (h32 : ∀ y : Int32, (y.toInt = 0 ↔ (atv 32100 (σ 20) x).toInt = 0) → 32 ≤ a.toInt ∧ a.toInt ≤ 35 → wk_X7_forLoop a (atv 32100 (σ 19) x) y σ (fun s => Q s))
    (h36 : a.toInt = 36 → wk_X7_leave_r51 (atv 32100 (σ 19) x) σ (fun s => Q s)) (h37 : a.toInt = 37 → wk_X7_leave_r52 (atv 32100 (σ 19) x) σ (fun s => Q s))
    (h38 : ∀ y : Int32, (y.toInt = 0 ↔ (atv 32100 (σ 20) x).toInt = 0) → a.toInt = 38 → wk_X7_giveBack (atv 32100 (σ 19) x) y σ (fun s => Q s)) : wk_X7_take a x σ Q := by
  have z0' : (0 : Int32).toInt = 0 := rfl
  have z1' : (1 : Int32).toInt = 1 := rfl
  unfold wk_X7_take
  refine ⟨fun y => (y.toInt = 0 ↔ (atv 32100 (σ 20) x).toInt = 0), fun y _ hy => ?_, fun c => ⟨fun _ => c, fun _ => rfl⟩, fun c => ⟨fun e => by rw [z1'] at e; exact absurd e (by decide), fun e => absurd e c⟩⟩
  refine ⟨32 ≤ a.toInt ∧ a.toInt ≤ 35, h32 y hy, 29 ≤ a.toInt ∧ a.toInt ≤ 31, h29, 26 ≤ a.toInt ∧ a.toInt ≤ 28, h26, a.toInt = 36 ∨ a.toInt = 37, fun c => ⟨fun n => h37 (by omega), h36⟩, 23 ≤ a.toInt ∧ a.toInt ≤ 25, h23, h20, fun n20 => ⟨h21, fun n21 => ⟨h22, fun n22 => ⟨fun c => by omega, fun n23 => ⟨fun c => by omega, fun n24 => ⟨fun c => by omega, fun n25 => ⟨fun c => by omega, fun n26 => ⟨fun c => by omega, fun n27 => ⟨fun c => by omega, fun n28 => ⟨fun c => by omega, fun n29 => ⟨fun c => by omega, fun n30 => ⟨fun c => by omega, fun n31 => ⟨fun c => by omega, fun n32 => ⟨fun c => by omega, fun n33 => ⟨fun c => by omega, fun n34 => ⟨fun c => by omega, fun n35 => ⟨fun c => Or.inl c, fun n36 => ⟨fun c => Or.inr c, fun n37 => ⟨h38 y hy, fun n38 => by omega⟩⟩⟩⟩⟩⟩⟩⟩⟩⟩⟩⟩⟩⟩⟩⟩⟩⟩⟩
theorem sb_oc (h : SB σ g b K X 0) (hs : ∀ c j, c ≠ 6 → c ≠ 45 → s c j = σ c j) (h6 : ∀ j, j ≠ 15 → j ≠ 17 → s 6 j = σ 6 j) (lv : LV M = LV K) (nz : nzr M = nzr K) (cx : CX s g (clen σ) K X → CX s g (clen σ) M X) : SB s g b M X 0 := by
  obtain ⟨h1, h2, h3, h4, h5, h6'⟩ := h
  have e4 : (s 4 1) = (σ 4 1) := hs 4 1 (by decide) (by decide)
  have ecl : clen s = clen σ := by unfold clen; rw [e4]
  have cp : ∀ q n, CPu σ q n → CPu s q n := fun q n hq => by
    unfold CPu at hq ⊢
    rw [show s 5 1 = σ 5 1 from hs 5 1 (by decide) (by decide), show s 6 7 = σ 6 7 from h6 7 (by decide) (by decide), show s 25 = σ 25 from funext (fun j => hs 25 j (by decide) (by decide)), show s 39 = σ 39 from funext (fun j => hs 39 j (by decide) (by decide)), show s 27 = σ 27 from funext (fun j => hs 27 j (by decide) (by decide))]
    exact hq
  refine ⟨?_, ?_, by rw [show s 7 7 = σ 7 7 from hs 7 7 (by decide) (by decide)]; exact h3, by rw [e4]; exact h4, by rw [show s 9 5 = σ 9 5 from hs 9 5 (by decide) (by decide), nz]; exact h5, by rw [ecl]; exact h6'⟩
  · rw [ecl, lv]
    exact typ_mono (fun j _ => hs 24 j (by decide) (by decide)) agr_rf cp (fun _ z => z) h1
  · rw [ecl]
    exact cx (cx_mono K X (fun j _ => ⟨hs 49 j (by decide) (by decide), hs 50 j (by decide) (by decide), hs 51 j (by decide) (by decide), hs 52 j (by decide) (by decide), hs 53 j (by decide) (by decide), hs 54 j (by decide) (by decide)⟩) (fun q _ => hs 24 q (by decide) (by decide)) agr_rf (Nat.le_refl _) h2)
theorem op_cells : (∀ c j, c ≠ 6 → c ≠ 45 → opSt σ c j = σ c j) ∧ (∀ j, j ≠ 15 → j ≠ 17 → opSt σ 6 j = σ 6 j) ∧ KXW σ (opSt σ) := by
  refine ⟨fun c j h1 h2 => ?_, fun j h1 h2 => ?_, ko_kp (kp_f (kp_F kp_rf rfl) rfl)⟩
  · unfold opSt
    rw [rdC_ne h1, rdF_ne h2]
  · unfold opSt
    rw [rdA_ne h2, rdF_ne (by decide)]
theorem cl_cells : (∀ c j, c ≠ 6 → c ≠ 45 → clSt σ c j = σ c j) ∧ (∀ j, j ≠ 15 → j ≠ 17 → clSt σ 6 j = σ 6 j) ∧ KXW σ (clSt σ) := by
  refine ⟨fun c j h1 h2 => ?_, fun j h1 h2 => ?_, ko_kp (kp_f (kp_f kp_rf rfl) rfl)⟩
  · unfold clSt
    rw [rdC_ne h1, rdC_ne h1]
  · unfold clSt
    rw [rdA_ne h1, rdA_ne h2]
theorem ss_take {K' : List Nat} {A : List It} {Q : St → Prop} (hx : x.toInt = i) (hi : i < 32100) (ha : a = (σ 18) i) (hr : 20 ≤ act σ i ∧ act σ i < 40) (hd : dz (act σ i) ((σ 20) i) ((σ 21) i) (1, K, A) (1, K', [])) (h : SE σ g b K X 0 e0 A) (hb : b ≤ e0) (cap : (σ 4 1).toInt ≤ 262150) (hf : (σ 6 3).toInt = 0) (hn : nzr K ≤ 25) (hw : wfK K) (k : ∀ s, STk σ s b K' (2 * plc σ A + cst σ i) → SCk (act σ i) σ s → Q s) : wk_X7_take a x σ Q := by
  have ea : a.toInt = act σ i := by rw [ha]; rfl
  have e19 : atv 32100 (σ 19) x = (σ 19) i := atv_at hx hi
  have e20 : atv 32100 (σ 20) x = (σ 20) i := atv_at hx hi
  have rg := dz_rng hd
  have kq : ∀ s n, SRs σ s b K' 0 n → n ≤ 2 * plc σ A + cst σ i → act σ i ≠ 20 → act σ i ≠ 21 → Q s := fun s n r hn h20 h21 => by
    have q := st_of (a := a) r hn ⟨by rw [ea]; exact h20, by rw [ea]; exact h21⟩
    rw [ea] at q
    exact k s q.1 q.2
  have sbA : A = [] → SB σ g b K X 0 := fun e => sb_nil (by rw [e] at h; exact h)
  have c22 : ∀ n : Nat, n < 50 → n ≠ 45 → (act σ i = (n : Int)) → cst σ i = ([0, 2, 3, 2, 0, 0, 3, 2, 2, 2, 3, 2, 0, 2, 2, 2, 0, 0, 0, 0, 0, 0, 1, 2, 2, 0, 0, 4, 2, 2, 0, 2, 0, 4, 4, 2, 2, 2, 3, 0, 0, 0, 0, 5, 3, 0, 3, 4, 0, 3] : List Nat).getD n 0 := fun n _ h45 e => by
    unfold cst
    rw [e, if_neg (by omega)]
    rfl
  have h0 : 0 ≤ (σ 4 1).toInt := h.1.2.2.1
  have c0 := clen_eq h0
  have bcl : b ≤ clen σ := Nat.le_trans hb (xc_e0 h.1)
  refine tk_all (by rw [ea]; omega) (fun c => ?_) (fun c => ?_) (fun c => ?_) (fun c => ?_) (fun c => ?_) (fun c => ?_) (fun y hy c => ?_) (fun c => ?_) (fun c => ?_) (fun y hy c => ?_)
  · -- OPEN
    rw [ea] at c
    obtain ⟨K1, e1, e2, -, -⟩ := dzi_20 hd c
    obtain ⟨-, e3, e4⟩ := zs_inj e1
    obtain ⟨-, e5, -⟩ := zs_inj e2
    subst e3 e4 e5
    have sb := sbA rfl
    have oc := op_cells (σ := σ)
    refine k (opSt σ) ⟨oc.2.2, mks_eq (funext (fun j => oc.1 25 j (by decide) (by decide))) (funext (fun j => oc.1 39 j (by decide) (by decide))), ⟨fun j _ => oc.1 24 j (by decide) (by decide), bcl⟩, h0, by show (σ 4 1).toInt ≤ _; omega, fun _ => ⟨hf, g, X, sb_oc sb oc.1 oc.2.1 rfl (nz_0 (Or.inl rfl)) (fun z => by unfold CX; rw [if_pos (Or.inl rfl)]; exact z), by show clen σ ≤ _; omega⟩⟩ ⟨fun n => absurd c n, fun _ => rfl, fun n => by omega⟩
  · -- CLOSE
    rw [ea] at c
    obtain ⟨K1, e1, e2⟩ := dzi_21 hd c
    obtain ⟨-, e3, e4⟩ := zs_inj e1
    obtain ⟨-, e5, -⟩ := zs_inj e2
    subst e3 e4 e5
    have sb := sbA rfl
    have oc := cl_cells (σ := σ)
    refine k (clSt σ) ⟨oc.2.2, mks_eq (funext (fun j => oc.1 25 j (by decide) (by decide))) (funext (fun j => oc.1 39 j (by decide) (by decide))), ⟨fun j _ => oc.1 24 j (by decide) (by decide), bcl⟩, h0, by show (σ 4 1).toInt ≤ _; omega, fun _ => ⟨hf, g, X, sb_oc sb oc.1 oc.2.1 rfl (nz_0 (Or.inl rfl)).symm (fun z => by unfold CX at z; rw [if_pos (Or.inl rfl)] at z; exact z), by show clen σ ≤ _; omega⟩⟩ ⟨fun _ n => absurd c n, fun n => by omega, fun _ => rfl⟩
  · -- DISCARD
    rw [ea] at c
    obtain ⟨K1, e1, e2, -⟩ := dzi_22 hd c
    obtain ⟨-, e3, e4⟩ := zs_inj e1
    obtain ⟨-, e5, -⟩ := zs_inj e2
    subst e3 e4 e5
    exact ss_discard h hb cap (fun s r => kq s _ r (by rw [c22 22 (by decide) (by decide) c]; exact Nat.le_refl _) (by omega) (by omega))
  · rw [ea] at c
    unfold wk_X7_conditional
    refine ⟨fun n23 => ⟨fun n24 => ?_, fun c24 => ?_⟩, fun c23 => ?_⟩
    · rw [ea] at n23 n24
      have c25 : act σ i = 25 := by omega
      obtain ⟨K1, e1, e2⟩ := dzi_25 hd c25
      obtain ⟨-, e3, e4⟩ := zs_inj e1
      obtain ⟨-, e5, -⟩ := zs_inj e2
      subst e3 e4 e5
      exact ss_ifend (sbA rfl) (by rw [nz_c (by decide)] at hn; omega) cap (fun s r => kq s _ r (Nat.zero_le _) (by omega) (by omega))
    · rw [ea] at c24
      obtain ⟨K1, e1, e2⟩ := dzi_24 hd c24
      obtain ⟨-, e3, e4⟩ := zs_inj e1
      obtain ⟨-, e5, -⟩ := zs_inj e2
      subst e3 e4 e5
      exact ss_else (sbA rfl) (by rw [nz_c (by decide)] at hn; omega) cap (fun s r => kq s _ r (by rw [c22 24 (by decide) (by decide) c24]; exact Nat.le_add_left _ _) (by omega) (by omega))
    · rw [ea] at c23
      obtain ⟨K1, e1, e2, -⟩ := dzi_23 hd c23
      obtain ⟨-, e3, e4⟩ := zs_inj e1
      obtain ⟨-, e5, -⟩ := zs_inj e2
      subst e3 e4 e5
      exact ss_if h hb (by omega) cap (fun s r => kq s _ r (by rw [c22 23 (by decide) (by decide) c23]; exact Nat.le_refl _) (by omega) (by omega))
  · rw [ea] at c
    unfold wk_X7_whileLoop
    refine ⟨fun n26 => ⟨fun n27 => ?_, fun c27 => ?_⟩, fun c26 => ?_⟩
    · rw [ea] at n26 n27
      have c28 : act σ i = 28 := by omega
      obtain ⟨K1, e1, e2⟩ := dzi_28 hd c28
      obtain ⟨-, e3, e4⟩ := zs_inj e1
      obtain ⟨-, e5, -⟩ := zs_inj e2
      subst e3 e4 e5
      exact ss_wend (sbA rfl) (by rw [nz_c (by decide)] at hn; omega) cap (fun s r => kq s _ r (by rw [c22 28 (by decide) (by decide) c28]; exact Nat.le_add_left _ _) (by omega) (by omega))
    · rw [ea] at c27
      obtain ⟨K1, e1, e2⟩ := dzi_27 hd c27
      obtain ⟨-, e3, e4⟩ := zs_inj e1
      obtain ⟨-, e5, -⟩ := zs_inj e2
      subst e3 e4 e5
      exact ss_wtest h hb (by rw [nz_c (by decide)] at hn; omega) cap (fun s r => kq s _ r (by rw [c22 27 (by decide) (by decide) c27]; exact Nat.le_refl _) (by omega) (by omega))
    · rw [ea] at c26
      obtain ⟨K1, e1, e2, -⟩ := dzi_26 hd c26
      obtain ⟨-, e3, e4⟩ := zs_inj e1
      obtain ⟨-, e5, -⟩ := zs_inj e2
      subst e3 e4 e5
      exact ss_begin (sbA rfl) (Or.inl rfl) (by omega) (fun s r => kq s _ r (Nat.zero_le _) (by omega) (by omega))
  · rw [ea] at c
    unfold wk_X7_doLoop
    refine ⟨fun n29 => ⟨fun n30 => ?_, fun c30 => ?_⟩, fun c29 => ?_⟩
    · rw [ea] at n29 n30
      have c31 : act σ i = 31 := by omega
      obtain ⟨K1, e1, e2⟩ := dzi_31 hd c31
      obtain ⟨-, e3, e4⟩ := zs_inj e1
      obtain ⟨-, e5, -⟩ := zs_inj e2
      subst e3 e4 e5
      exact ss_dotest h hb (by rw [nz_c (by decide)] at hn; omega) cap (fun s r => kq s _ r (by rw [c22 31 (by decide) (by decide) c31]; exact Nat.le_refl _) (by omega) (by omega))
    · rw [ea] at c30
      obtain ⟨K1, e1, e2⟩ := dzi_30 hd c30
      obtain ⟨-, e3, e4⟩ := zs_inj e1
      obtain ⟨-, e5, -⟩ := zs_inj e2
      subst e3 e4 e5
      exact ss_doagain (sbA rfl) (by rw [nz_c (by decide)] at hn; omega) cap (fun s r => kq s _ r (Nat.zero_le _) (by omega) (by omega))
    · rw [ea] at c29
      obtain ⟨K1, e1, e2, -⟩ := dzi_29 hd c29
      obtain ⟨-, e3, e4⟩ := zs_inj e1
      obtain ⟨-, e5, -⟩ := zs_inj e2
      subst e3 e4 e5
      exact ss_do (sbA rfl) (by omega) cap (fun s r => kq s _ r (by rw [c22 29 (by decide) (by decide) c29]; exact Nat.le_add_left _ _) (by omega) (by omega))
  · rw [ea] at c
    unfold wk_X7_forLoop
    refine ⟨fun n32 => ⟨fun n33 => ⟨fun n34 => ?_, fun c34 => ?_⟩, fun c33 => ?_⟩, fun c32 => ?_⟩
    · rw [ea] at n32 n33 n34
      have c35 : act σ i = 35 := by omega
      obtain ⟨K1, e1, e2⟩ := dzi_35 hd c35
      obtain ⟨-, e3, e4⟩ := zs_inj e1
      obtain ⟨-, e5, -⟩ := zs_inj e2
      subst e3 e4 e5
      exact ss_fend (sbA rfl) (by rw [nz_c (by decide)] at hn; omega) cap (fun s r => kq s _ r (by rw [c22 35 (by decide) (by decide) c35]; exact Nat.le_add_left _ _) (by omega) (by omega))
    · rw [ea] at c34
      obtain ⟨K1, e1, e2⟩ := dzi_34 hd c34
      obtain ⟨-, e3, e4⟩ := zs_inj e1
      obtain ⟨-, e5, -⟩ := zs_inj e2
      subst e3 e4 e5
      exact ss_fbody (sbA rfl) (by rw [nz_c (by decide)] at hn; omega) cap (fun s r => kq s _ r (by rw [c22 34 (by decide) (by decide) c34]; exact Nat.le_add_left _ _) (by omega) (by omega))
    · rw [ea] at c33
      obtain ⟨K1, e1, e2⟩ := dzi_33 hd c33
      obtain ⟨-, e3, e4⟩ := zs_inj e1
      obtain ⟨-, e5, -⟩ := zs_inj e2
      subst e3 e5
      have n25 : nzr K1 < 26 := by rw [nz_c (by decide)] at hn; omega
      rw [e20] at hy
      by_cases hz : ((σ 20) i).toInt = 0
      · rw [if_pos hz] at e4
        subst e4
        refine ⟨fun s => s = σ, ?_, fun _ => rfl, fun n => absurd (hy.mpr hz) n⟩
        rintro s rfl
        refine ss_fjump (sr_rf (sbA rfl) hf) (by omega) n25 (fun t r => kq t _ r (by rw [c22 33 (by decide) (by decide) c33]; show 0 + 2 ≤ _ + 4; omega) (by omega) (by omega))
      · rw [if_neg hz] at e4
        subst e4
        refine ⟨fun s => SRs σ s b (6 :: K1) 0 (2 * plc σ [iV] + 2), fun s r => ?_, fun n => absurd (hy.mp n) hz, fun _ => ss_ftest h hb n25 cap (fun s r => r)⟩
        have p1 : plc σ [iV] = pk σ 65 + 0 := plc_V
        have pk1 := pkq_le (σ := σ) (q := 65)
        have rl := r.2.2.2.2.1
        exact ss_fjump r (by omega) n25 (fun t r => kq t _ r (by rw [c22 33 (by decide) (by decide) c33]; exact Nat.le_refl _) (by omega) (by omega))
    · rw [ea] at c32
      obtain ⟨K1, e1, e2, -⟩ := dzi_32 hd c32
      obtain ⟨-, e3, e4⟩ := zs_inj e1
      obtain ⟨-, e5, -⟩ := zs_inj e2
      subst e3 e4 e5
      exact ss_begin (sbA rfl) (Or.inr rfl) (by omega) (fun s r => kq s _ r (Nat.zero_le _) (by omega) (by omega))
  · rw [ea] at c
    obtain ⟨K1, e1, e2, e6⟩ := dzi_36 hd (Or.inl c)
    obtain ⟨-, e3, e4⟩ := zs_inj e1
    obtain ⟨-, e5, -⟩ := zs_inj e2
    subst e3 e4 e5
    show lvF 51 _ σ _
    exact ss_leave (Or.inl rfl) (sbA rfl) hn cap hf e6.2 hw (fun s r => kq s _ r (by rw [c22 36 (by decide) (by decide) c]; exact Nat.le_add_left _ _) (by omega) (by omega))
  · rw [ea] at c
    obtain ⟨K1, e1, e2, e6⟩ := dzi_36 hd (Or.inr c)
    obtain ⟨-, e3, e4⟩ := zs_inj e1
    obtain ⟨-, e5, -⟩ := zs_inj e2
    subst e3 e4 e5
    show lvF 52 _ σ _
    exact ss_leave (Or.inr rfl) (sbA rfl) hn cap hf e6.2 hw (fun s r => kq s _ r (by rw [c22 37 (by decide) (by decide) c]; exact Nat.le_add_left _ _) (by omega) (by omega))
  · rw [ea] at c
    obtain ⟨K1, e1, e2, -⟩ := dzi_38 hd c
    obtain ⟨-, e3, e4⟩ := zs_inj e1
    obtain ⟨-, e5, -⟩ := zs_inj e2
    subst e3 e5
    rw [e20] at hy
    by_cases hz : ((σ 20) i).toInt = 0
    · rw [if_pos hz] at e4
      subst e4
      exact ss_return hf cap (Or.inl ⟨hy.mpr hz, rfl, g, X, sbA rfl⟩) (fun s r => kq s _ r (by rw [c22 38 (by decide) (by decide) c]; show 2 + 1 ≤ _ + 3; omega) (by omega) (by omega))
    · rw [if_neg hz] at e4
      subst e4
      exact ss_return hf cap (Or.inr ⟨fun q => hz (hy.mp q), rfl, g, X, e0, hb, h⟩) (fun s r => kq s _ r (by rw [c22 38 (by decide) (by decide) c]; show _ + 1 ≤ _ + 3; omega) (by omega) (by omega))
end STA
