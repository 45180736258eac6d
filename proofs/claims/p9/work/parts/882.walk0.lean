/-! the walk: what holds between steps -/
/-- a finished function: no instruction reaches over its end -/
def FUNe (w : Nat → Int32) (CP : Int → Nat → Prop) (N hd n L : Nat) (g : Gh) : Prop := FUNc w CP N hd n L g ∧ ∀ q h k, g q = some (h, k) → ∃ m : Nat, (w q).toInt = m ∧ q + ln m ≤ N
/-- all functions of the unit but the one that is being compiled are finished, before a place -/
def UFx (s : St) (N : Nat) : Prop := ∀ d : Nat, (s 5 1).toInt - (s 6 7).toInt ≤ d → (d : Int) < (s 5 1).toInt → FLb ((s 25) d) 1 → FLb ((s 25) d) 4 → (s 6 6).toInt ≠ d → ∃ hd L g, ((s 28) d).toInt = (hd : Nat) ∧ FUNe (s 24) (CPu s) N hd (spar ((s 27) d)) L g
abbrev KWk (a b : St) : Prop := Ko [(7, 7), (4, 1), (6, 2), (6, 3), (6, 4), (6, 5), (6, 6), (6, 7), (6, 10), (6, 15), (6, 17), (5, 1), (5, 7), (5, 9), (9, 5), (8, 6), (8, 7), (8, 8), (8, 9), (8, 10), (8, 11), (8, 12), (8, 13), (8, 14), (8, 15), (8, 16)] [17, 24, 25, 26, 27, 28, 29, 30, 31, 32, 33, 38, 39, 40, 41, 42, 43, 44, 45, 48, 49, 50, 51, 52, 53, 54] a b
/-- what was there before the unit stays -/
def OLx (σ s : St) : Prop := (s 5 1).toInt - (s 6 7).toInt = (σ 5 1).toInt ∧ (∀ d : Nat, (d : Int) < (σ 5 1).toInt → (s 26) d = (σ 26) d ∧ (s 27) d = (σ 27) d ∧ (s 28) d = (σ 28) d ∧ (s 29) d = (σ 29) d ∧ ((s 25) d &&& 1 = (σ 25) d &&& 1) ∧ ((s 25) d &&& 2 = (σ 25) d &&& 2) ∧ ((s 25) d &&& 4 = (σ 25) d &&& 4) ∧ (FLb ((σ 25) d) 8 → FLb ((s 25) d) 8)) ∧ (∀ j, j < clen σ → (s 24) j = (σ 24) j) ∧ clen σ ≤ clen s
def zc (K : List Nat) : Nat := (K.filter (fun c => decide (c = 0))).length
/-- within a function -/
def FNi (s : St) (F : Nat) (K : List Nat) (Nb b : Nat) : Prop := ∃ d : Nat, (s 6 6).toInt = d ∧ (s 5 1).toInt - (s 6 7).toInt ≤ d ∧ (d : Int) < (s 5 1).toInt ∧ FLb ((s 25) d) 1 ∧ FLb ((s 25) d) 4 ∧ ((s 28) d).toInt = Nb ∧ b = Nb + 4 ∧ spar ((s 27) d) ≤ 8 ∧ (0 ≤ (s 6 10).toInt ∧ (s 6 10).toInt + F ≤ 101) ∧ (0 ≤ (s 6 15).toInt ∧ (s 6 15).toInt ≤ (s 6 10).toInt) ∧ (s 6 17).toInt = 1 + zc K ∧ (∀ j : Nat, j < 52 → (j : Int) < (s 6 17).toInt → 0 ≤ ((s 45) j).toInt ∧ ((s 45) j).toInt ≤ (s 6 10).toInt) ∧ (∀ j : Nat, (j : Int) < (s 6 10).toInt → ((s 42) j).toInt ≤ 4000) ∧ (2 ≤ F → K = [])
def inI (K : List Nat) : Prop := ∃ c K', K = c :: K' ∧ 9 ≤ c
/-- between steps: F functions and parameters to come, K constructs around, A operands -/
def WSx (σ s : St) (F : Nat) (K : List Nat) (A : List It) (Nb b e0 H0 : Nat) (g : Gh) (X : Nat → Prop) : Prop :=
  (clen σ ≤ Nb ∧ Nb ≤ b ∧ b ≤ e0) ∧ SE s g b K X H0 e0 A ∧ UFx s Nb ∧ nzr K ≤ 25 ∧ wfK K ∧
  (F = 0 → (s 6 6).toInt = -1 ∧ (K = [] ∨ ∃ c, 9 ≤ c ∧ K = [c])) ∧
  (1 ≤ F → FNi s F K Nb b ∧ (H0 ≠ 0 → (∃ K', K = 10 :: K') ∧ (s 8 16).toInt ≠ 0)) ∧
  (inI K → ((s 8 9).toInt ≠ 0 ↔ 1 ≤ F))
/-- the last name's end is the end of all names -/
def NME (s : St) : Prop := (∀ d : Nat, (d : Int) + 1 = (s 5 1).toInt → ((s 29) d).toInt = (s 5 7).toInt) ∧ ∀ d, 0 ≤ ((s 29) d).toInt ∧ ((s 29) d).toInt ≤ 65600
/-- what a step keeps, whatever it tells -/
def WKs (σ s : St) : Prop := KWk σ s ∧ UXs s ∧ OLx σ s ∧ 0 ≤ (s 4 1).toInt ∧ (0 ≤ (s 5 7).toInt ∧ NME s)
section WLK
variable {σ s z t : St} {g g' g1 : Gh} {X X0 Y : Nat → Prop} {b e e0 e' H H0 H' L L' m n N N' Nb c d p tt j i F hd : Nat} {K K2 M E G D : List Nat} {A B : List It} {x y v a : Int32} {w w' : Nat → Int32} {CP CP' : Int → Nat → Prop}
theorem nme_k (e1 : (s 5 1) = (σ 5 1)) (e2 : (s 5 7) = (σ 5 7)) (e3 : ∀ d, (s 29) d = (σ 29) d) (h : 0 ≤ (σ 5 7).toInt ∧ NME σ) : 0 ≤ (s 5 7).toInt ∧ NME s := ⟨by rw [e2]; exact h.1, fun d hd => by rw [e1] at hd; rw [e2, e3]; exact h.2.1 d hd, fun d => by rw [e3]; exact h.2.2 d⟩
theorem fune_mono (hw : ∀ q, q < N → w' q = w q) (hC : ∀ a m, CP a m → CP' a m) (hN : N ≤ N') (h : FUNe w CP N hd n L g) : FUNe w' CP' N' hd n L g := by
  obtain ⟨⟨f1, f2, f3, f4, f5, f6, f7, f8⟩, f9⟩ := h
  refine ⟨⟨by omega, by rw [hw hd (by omega)]; exact f2, by rw [hw _ (by omega)]; exact f3, f4, by rw [hw _ (by omega)]; exact f5, f6, f7, fun q h k hq => ?_⟩, fun q h k hq => ?_⟩
  · obtain ⟨a1, a2, mm, o1, o2⟩ := f8 q h k hq
    obtain ⟨m2, p1, p2⟩ := f9 q h k hq
    have em : m2 = mm := by omega
    subst em
    refine ⟨by omega, a2, m2, by rw [hw q a1]; exact o1, ?_⟩
    have o3 := opk_mono (g' := g) (CP' := CP') (pd' := False) (fun _ _ h => h) hC id o2
    by_cases c : m2 < 26 ∨ 31 = m2 ∨ 32 < m2
    · exact opk_arg c o3
    · have := ln_2 m2 (by have := o2.1.2.1; omega) (by omega) (by omega) (by omega)
      rw [hw (q + 1) (by omega)]
      exact o3
  · obtain ⟨m2, p1, p2⟩ := f9 q h k hq
    have a1 := (f8 q h k hq).1
    exact ⟨m2, by rw [hw q a1]; exact p1, by omega⟩
/-- it stays where flags, values, extents stay, and code before the place -/
theorem uf_mono (hd : (s 5 1) = (σ 5 1)) (ho : (s 6 7) = (σ 6 7)) (hf : (s 6 6) = (σ 6 6)) (hx : (s 27) = (σ 27)) (hv : (s 28) = (σ 28)) (m : MKs σ s) (hw : ∀ q, q < N → (s 24) q = (σ 24) q) (hC : ∀ a m, CPu σ a m → CPu s a m) (h : UFx σ N) : UFx s N := fun d h1 h2 h3 h4 h5 => by
  rw [hd, ho] at h1
  rw [hd] at h2
  rw [hf] at h5
  have f4 : FLb ((σ 25) d) 4 := by
    unfold FLb at h4 ⊢
    rw [(m.1 d).2.2.1] at h4
    exact h4
  obtain ⟨hd', L, g, a1, a2⟩ := h d h1 h2 ((flb1 m).mp h3) f4 h5
  exact ⟨hd', L, g, by rw [hv]; exact a1, by rw [hx]; exact fune_mono hw hC (Nat.le_refl _) a2⟩
theorem kw_xw (k : KXW σ s) : KWk σ s := ko_sub k (by decide) (by decide)
theorem kxw_e (k : KXE σ s) : KXW σ s := ko_sub k (by decide) (by decide)
theorem cpu_w (k : KXW σ s) (m : MKs σ s) : ∀ a n, CPu σ a n → CPu s a n := fun a n ⟨h1, h2, h3, h4, h5⟩ => by
  have e1 : (s 5 1) = (σ 5 1) := k 5 1 (op_lt (by decide)) rfl rfl
  have e2 : (s 6 7) = (σ 6 7) := k 6 7 (op_lt (by decide)) rfl rfl
  have e3 : (s 27) = (σ 27) := funext (fun j => k 27 j (op_lt (by decide)) rfl rfl)
  exact ⟨by rw [e1, e2]; exact h1, (flb1 m).mpr h2, (m.1 _).2.2.2 h3, by rw [e1, e2]; exact m.2 _ h4, by rw [e3]; exact h5⟩
theorem uf_w (k : KXW σ s) (m : MKs σ s) (hw : ∀ q, q < N → (s 24) q = (σ 24) q) (h : UFx σ N) : UFx s N :=
  uf_mono (k 5 1 (op_lt (by decide)) rfl rfl) (k 6 7 (op_lt (by decide)) rfl rfl) (k 6 6 (op_lt (by decide)) rfl rfl) (funext (fun j => k 27 j (op_lt (by decide)) rfl rfl)) (funext (fun j => k 28 j (op_lt (by decide)) rfl rfl)) m hw (cpu_w k m) h
theorem ol_w {ρ : St} (o : OLx ρ σ) (k : KXW σ s) (m : MKs σ s) (hw : ∀ j, j < clen ρ → (s 24) j = (σ 24) j) (hl : clen ρ ≤ clen s) : OLx ρ s := by
  obtain ⟨o1, o2, o3, o4⟩ := o
  have e1 : (s 5 1) = (σ 5 1) := k 5 1 (op_lt (by decide)) rfl rfl
  have e2 : (s 6 7) = (σ 6 7) := k 6 7 (op_lt (by decide)) rfl rfl
  refine ⟨by rw [e1, e2]; exact o1, fun d hd => ?_, fun j hj => (hw j hj).trans (o3 j hj), hl⟩
  obtain ⟨a1, a2, a3, a4, a5, a6, a7, a8⟩ := o2 d hd
  obtain ⟨b1, b2, b3, b4⟩ := m.1 d
  exact ⟨(k 26 d (op_lt (by decide)) rfl rfl).trans a1, (k 27 d (op_lt (by decide)) rfl rfl).trans a2, (k 28 d (op_lt (by decide)) rfl rfl).trans a3, (k 29 d (op_lt (by decide)) rfl rfl).trans a4, b1.trans a5, b2.trans a6, b3.trans a7, fun z => b4 (a8 z)⟩
theorem wk_w {ρ : St} (h : WKs ρ σ) (k : KXW σ s) (m : MKs σ s) (hs : (s 6 15).toInt ≤ 1000 ∧ -1000 ≤ (s 6 15).toInt) (hw : ∀ j, j < clen ρ → (s 24) j = (σ 24) j) (hl : clen ρ ≤ clen s) (h0 : 0 ≤ (s 4 1).toInt) : WKs ρ s := by
  obtain ⟨h1, h2, h3, h4, h5⟩ := h
  have e1 : (s 5 1) = (σ 5 1) := k 5 1 (op_lt (by decide)) rfl rfl
  have e2 : (s 6 7) = (σ 6 7) := k 6 7 (op_lt (by decide)) rfl rfl
  have e3 : (s 27) = (σ 27) := funext (fun j => k 27 j (op_lt (by decide)) rfl rfl)
  have e5 : (s 15) = (σ 15) := funext (fun j => k 15 j (op_lt (by decide)) rfl rfl)
  obtain ⟨u1, u2, u3, u4, u5⟩ := h2
  exact ⟨ko_tr h1 (kw_xw k), ⟨by unfold PLA; rw [e5]; exact u1, by rw [e2]; exact u2, by rw [e1, e2]; exact u3, hs, fun j q => by rw [e3]; exact u5 j ((flb1 m).mp q)⟩, ol_w h3 k m hw hl, h0, nme_k e1 (k 5 7 (op_lt (by decide)) rfl rfl) (fun d => k 29 d (op_lt (by decide)) rfl rfl) h5⟩
theorem fn_k (k : KXW σ s) (m : MKs σ s) (e1 : (s 6 15) = (σ 6 15)) (e2 : (s 6 17) = (σ 6 17)) (e3 : (s 45) = (σ 45)) (hz : zc M = zc K) (hF : 2 ≤ F → M = []) (h : FNi σ F K Nb b) : FNi s F M Nb b := by
  obtain ⟨d, a1, a2, a3, a4, a5, a6, a7, a8, a9, b1, b2, b3, b4, b5⟩ := h
  have r1 : (s 5 1) = (σ 5 1) := k 5 1 (op_lt (by decide)) rfl rfl
  have r2 : (s 6 7) = (σ 6 7) := k 6 7 (op_lt (by decide)) rfl rfl
  have r3 : (s 6 6) = (σ 6 6) := k 6 6 (op_lt (by decide)) rfl rfl
  have r4 : (s 6 10) = (σ 6 10) := k 6 10 (op_lt (by decide)) rfl rfl
  have f4 : FLb ((s 25) d) 4 := by
    unfold FLb at a5 ⊢
    rw [(m.1 d).2.2.1]
    exact a5
  refine ⟨d, by rw [r3]; exact a1, by rw [r1, r2]; exact a2, by rw [r1]; exact a3, (flb1 m).mpr a4, f4, by rw [show (s 28) d = (σ 28) d from k 28 d (op_lt (by decide)) rfl rfl]; exact a6, a7, by rw [show (s 27) d = (σ 27) d from k 27 d (op_lt (by decide)) rfl rfl]; exact a8, by rw [r4]; exact a9, by rw [r4, e1]; exact b1, by rw [e2, hz]; exact b2, fun j j1 j2 => by rw [e3, r4]; exact b3 j j1 (by rw [← e2]; exact j2), fun j hj => by rw [show (s 42) j = (σ 42) j from k 42 j (op_lt (by decide)) rfl rfl]; exact b4 j (by rw [← r4]; exact hj), hF⟩
/-- a step of an expression -/
theorem ws_x {ρ : St} {Q : St → Prop} (wk : WKs ρ σ) (h : WSx ρ σ F K A Nb b e0 H0 g X) (cap : (σ 4 1).toInt ≤ 262150) (hA : A.length ≤ 500) (hx : x.toInt = i) (hi : i < 32100) (hd : dx (act σ i) (tkx σ ((σ 19) i)) A B) (k : ∀ s, KXW σ s → WKs ρ s → ((s 6 3).toInt = 0 → ∃ g', WSx ρ s F K B Nb b e0 H0 g' X ∧ clen s + 2 * plc s B ≤ clen σ + 2 * plc σ A + cst σ i) → Q s) : wk_X2_take x σ Q := by
  obtain ⟨⟨n1, n2, n3⟩, h2, h3, h4, h5, h6, h7, h8⟩ := h
  refine se_take wk.2.1 h2 cap hA hx hi hd (fun s k1 m1 w1 l1 l2 hv => ?_)
  have kx := kxw_e k1
  have h0 : 0 ≤ (s 4 1).toInt := by clear hv; omega
  have c1 := clen_eq h0
  have es : (s 6 15) = (σ 6 15) := k1 6 15 (op_lt (by decide)) rfl rfl
  have ec : (s 6 17) = (σ 6 17) := k1 6 17 (op_lt (by decide)) rfl rfl
  have et : (s 45) = (σ 45) := funext (fun j => k1 45 j (op_lt (by decide)) rfl rfl)
  have ef : (s 6 6) = (σ 6 6) := k1 6 6 (op_lt (by decide)) rfl rfl
  have em : (s 8 16) = (σ 8 16) := k1 8 16 (op_lt (by decide)) rfl rfl
  have ei : (s 8 9) = (σ 8 9) := k1 8 9 (op_lt (by decide)) rfl rfl
  refine k s kx (wk_w wk kx m1 (by rw [es]; exact wk.2.1.2.2.2.1) (fun j hj => w1 j (by clear hv; omega)) (by clear hv; omega) h0) (fun hf => ?_)
  obtain ⟨g', ag, se, cc⟩ := hv hf
  refine ⟨g', ⟨⟨n1, n2, n3⟩, se, uf_w kx m1 (fun q hq => w1 q (by omega)) h3, h4, h5, fun c => by rw [ef]; exact h6 c, fun c => ⟨fn_k kx m1 es ec et rfl ?_ (h7 c).1, fun z => by rw [em]; exact (h7 c).2 z⟩, fun c => by rw [ei]; exact h8 c⟩, cc⟩
  obtain ⟨d, -, -, -, -, -, -, -, -, -, -, -, -, -, q⟩ := (h7 c).1
  exact q
end WLK
