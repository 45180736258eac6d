/-! the walk: a size -/
section SIZ
variable {σ s z t ρ : St} {g g' g1 : Gh} {X X0 Y : Nat → Prop} {b e e0 e' h h' H H0 H' L L' m n N N' Nb c d p tt j i F F' k B q E hd f : Nat} {K K2 M G D : List Nat} {A : List It} {x y v a op a1 a2 a3 : Int32}
theorem kxe_g (k : KXE σ s) : (s 14) = (σ 14) ∧ (s 13) = (σ 13) ∧ (s 18) = (σ 18) ∧ (s 19) = (σ 19) := ⟨ko_rd k 14 (Or.inl (by decide)) rfl (fun _ => rfl), ko_rd k 13 (Or.inl (by decide)) rfl (fun _ => rfl), ko_rd k 18 (Or.inl (by decide)) rfl (fun _ => rfl), ko_rd k 19 (Or.inl (by decide)) rfl (fun _ => rfl)⟩
theorem kxe_cst (k : KXE σ s) : ∀ i, cst s i = cst σ i := fun i => by
  obtain ⟨e1, e2, e3, e4⟩ := kxe_g k
  exact cst_same e1 ⟨by rw [e3], by rw [e4]⟩
theorem sp_top0 {Q : Nat → Prop} (k : ∀ u, Q u) : wk_X2_top σ Q := by
  unfold wk_X2_top
  refine ⟨fun _ => k _, fun c1 => ⟨fun _ => k _, fun c2 => ⟨⟨?_, ?_⟩, k _⟩⟩⟩
  · rw [sbc i1 (by omega) (by omega)]
    omega
  · rw [sbc i1 (by omega) (by omega)]
    omega
theorem sp_constant {Q : Int32 → St → Prop} (u : UXs σ) (sb : SB σ g b K X H0) (hf : (σ 6 3).toInt = 0) (ha1 : a1.toInt = f) (ha2 : a2.toInt = ((f + n : Nat) : Int)) (hn : f + n ≤ 32100) (xr : XR σ n f [] [iV]) (cap : clen σ + csum σ n f ≤ 262150) (k : ∀ v t, KXE σ t → MKs σ t → (t 4 1) = (σ 4 1) → (∀ j, j < clen σ → (t 24) j = (σ 24) j) → (t 7 7).toInt = 0 → (t 6 3).toInt = 0 → Q v t) : wk_X7_constant a1 a2 σ Q := by
  have l0 := sb.2.2.2.1
  have c0 := clen_eq l0
  unfold wk_X7_constant
  refine ⟨fun r y s => ∃ m : Nat, r + m = n ∧ y.toInt = ((f + m : Nat) : Int) ∧ KXE σ s ∧ MKs σ s ∧ (∀ j, j < clen σ → (s 24) j = (σ 24) j) ∧ (σ 4 1).toInt ≤ (s 4 1).toInt ∧ ((s 6 3).toInt = 0 → ∃ g' A, SE s g' b K X H0 (clen σ) A ∧ XR σ r (f + m) A [iV] ∧ A.length ≤ 500 ∧ clen s + 2 * plc s A + csum σ r (f + m) ≤ 262150), ⟨n, 0, rfl, by rw [ha1]; rfl, ko_rf, mks_rf, fun _ _ => rfl, by omega, fun _ => ⟨g, [], se_nil sb, xr, by decide, by show clen σ + 2 * 0 + csum σ n f ≤ _; omega⟩⟩, ?_⟩
  rintro r y s ⟨m, hr, hy, ks, ms, ws, ls, hv⟩
  have l0s : 0 ≤ (s 4 1).toInt := by clear hv; omega
  have fin : ∃ J57 : Int32 → Prop, (∀ (y0_57 : Int32), y0_57 = 0 ∨ y0_57 = 1 → J57 y0_57 → (wk_X0_cut (σ 4 1) (upC s 6 3 (0 : Int32)) (fun s72 => wk_X2_top s72 (fun u79 => (y0_57.toInt = 0 → Q (0 : Int32) (upC s72 7 7 (0 : Int32))) ∧ (y0_57.toInt ≠ 0 → wk_X6_isConstant u79 (upC s72 7 7 (0 : Int32)) (fun v99 => (v99.toInt = 0 → Q (0 : Int32) (upC s72 7 7 (0 : Int32))) ∧ (v99.toInt ≠ 0 → Q (if ((upC s72 7 7 (0 : Int32)) u79 8) < (0 : Int32) then (0 : Int32) else ((upC s72 7 7 (0 : Int32)) u79 8)) (upC s72 7 7 (0 : Int32))))))))) ∧ ((s 6 3).toInt ≠ 0 → J57 (0 : Int32)) ∧ ((s 6 3).toInt = 0 → J57 (1 : Int32)) := by
    refine ⟨fun _ => True, fun y0 _ _ => ?_, fun _ => trivial, fun _ => trivial⟩
    refine sk_cut (by rw [rdC_ne (by decide)]; exact ls) (fun s72 k72 e72 => ?_)
    have done : ∀ v, Q v (upC s72 7 7 (0 : Int32)) := fun v => by
      generalize ht : upC s72 7 7 (0 : Int32) = t
      have kt : Kp [(7, 7), (4, 1), (6, 3)] [] s t := by
        rw [← ht]
        exact kp_f (kp_tr (kp_f kp_rf rfl) (kp_sub k72 rfl rfl)) rfl
      have t7 : t 7 7 = 0 := by rw [← ht, rdA_eq rfl]
      have t4 : t 4 1 = σ 4 1 := by rw [← ht, rdC_ne (by decide)]; exact e72
      have t63 : t 6 3 = 0 := by
        rw [← ht, rdC_ne (by decide)]
        rw [show s72 6 3 = (upC s 6 3 (0 : Int32)) 6 3 from k72 6 3 rfl rfl, rdA_eq rfl]
      refine k v t (ko_tr ks (ko_sub (ko_kp kt) (by decide) (by decide))) (mks_tr ms (mks_eq (funext (fun j => kt 25 j rfl rfl)) (funext (fun j => kt 39 j rfl rfl)))) t4 (fun j hj => (kt 24 j rfl rfl).trans (ws j hj)) (by rw [t7]; rfl) (by rw [t63]; rfl)
    exact sp_top0 (fun u => ⟨fun _ => done _, fun _ => sp_isConstant (fun _ => ⟨fun _ => done _, fun _ => done _⟩) (fun _ => ⟨fun _ => done _, fun _ => done _⟩)⟩)
  refine ⟨True, fun _ => fin, fun _ => trivial, fun c => ⟨fun _ => trivial, fun c2 => ?_⟩⟩
  obtain ⟨g', A, se, xr', hA, hc⟩ := hv c2
  cases r with
  | zero =>
    exfalso
    rw [hy, ha2] at c
    omega
  | succ r =>
    obtain ⟨B, hdx, hB⟩ := xr'
    obtain ⟨e14, e13, e18, e19⟩ := kxe_g ks
    have cs := clen_eq l0s
    have ecs : csum σ (r + 1) (f + m) = cst σ (f + m) + csum σ r (f + m + 1) := rfl
    have ea : act s (f + m) = act σ (f + m) := by unfold act; rw [e18]
    have etk : tkx s ((s 19) (f + m)) = tkx σ ((σ 19) (f + m)) := by unfold tkx; rw [e13, e19]
    refine se_take (uxs_k ks ms u) se (by omega) hA hy (by omega) (by rw [ea, etk]; exact hdx) (fun s2 k2 m2 w2 l2 l2' hv2 => ?_)
    have up : (y + 1).toInt = ((f + (m + 1) : Nat) : Int) := by rw [ad1 (by omega)]; omega
    refine ⟨r, by omega, m + 1, by omega, up, ko_tr ks k2, mks_tr ms m2, fun j hj => (w2 j hj).trans (ws j hj), by clear hv2 hv; omega, fun z => ?_⟩
    obtain ⟨g2, ag, se2, cc⟩ := hv2 z
    rw [kxe_cst ks] at cc
    refine ⟨g2, B, se2, hB, dx_len hdx hA, ?_⟩
    rw [show f + (m + 1) = f + m + 1 from rfl]
    omega
theorem ws_const (wk : WKs ρ σ) (h : WSx ρ σ F K [] Nb b e0 H0 g X) (k : KXE σ t) (m : MKs σ t) (e4 : (t 4 1) = (σ 4 1)) (w : ∀ j, j < clen σ → (t 24) j = (σ 24) j) (cnt : (t 7 7).toInt = 0) : WKs ρ t ∧ WSx ρ t F K [] Nb b e0 H0 g X := by
  obtain ⟨⟨n1, n2, n3⟩, h2, h3, h4, h5, h6, h7, h8⟩ := h
  have ee := se_e0 h2
  obtain ⟨T, cx, c7, l0, op0, bd⟩ := sb_nil h2
  have kx := kxw_e k
  have ecl : clen t = clen σ := by unfold clen; rw [e4]
  have es : (t 6 15) = (σ 6 15) := k 6 15 (op_lt (by decide)) rfl rfl
  obtain ⟨r1, r2, r3, r4, r5, r6, r7⟩ := kw_e k
  have sb' : SB t g b K X H0 := ⟨by rw [ecl]; exact typ_mono w agr_rf (cpu_mono k m) (fun _ z => z) T, by rw [ecl]; exact cx_e k w agr_rf (Nat.le_refl _) cx, cnt, by rw [e4]; exact l0, by rw [r7]; exact op0, by rw [ecl]; exact bd⟩
  have d8 : ∀ j, t 8 j = σ 8 j := fun j => k 8 j (op_lt (by decide)) (by
    rw [List.contains_cons, List.contains_cons, List.contains_cons, List.contains_cons, List.contains_cons, List.contains_cons, List.contains_nil]
    rfl) rfl
  refine ⟨wk_w wk kx m (by rw [es]; exact wk.2.1.2.2.2.1) (fun j hj => w j (by omega)) (by rw [ecl]; exact wk.2.2.1.2.2.2) (by rw [e4]; exact l0), ⟨n1, n2, n3⟩, by rw [ee, ← ecl]; exact se_nil sb', uf_w kx m (fun q hq => w q (by omega)) h3, h4, h5, fun c => by rw [show t 6 6 = σ 6 6 from k 6 6 (op_lt (by decide)) rfl rfl]; exact h6 c, fun c => ⟨fn_k kx m es (k 6 17 (op_lt (by decide)) rfl rfl) (funext (fun j => k 45 j (op_lt (by decide)) rfl rfl)) rfl (fn_F2 (h7 c).1) (h7 c).1, fun z => by rw [d8]; exact (h7 c).2 z⟩, fun c => by rw [d8]; exact h8 c⟩
end SIZ
