/-! a function's name: the reference -/
def JFm (σ : St) (e : Nat) (res st : Int32) (body : Prop) (l : List (Nat × Nat)) : Prop := (σ 9 e).toInt = 2 ∧ ((σ 10 e).toInt = res.toInt ∧ (σ 15 e).toInt = (l.length : Int) ∧ ∀ k x, l[k]? = some x → (σ 16 (8 * e + k)).toInt = (x.1 : Int)) ∧ (σ 12 e).toInt = st.toInt ∧ ¬ (body ∧ (σ 13 e).toInt ≠ 0)
def FNf (σ s : St) (lo m u : Nat) (v res st : Int32) (body : Prop) (l : List (Nat × Nat)) (rr : Int) : Prop :=
  (rr = -1 ∧ m = 100 ∧ v.toInt < 0 ∧ KFr σ s ∧ FTq σ s True)
  ∨ (rr = -1 ∧ m < 100 ∧ lo + m < 10000 ∧ v.toInt = ((lo + m : Nat) : Int) ∧ ∃ s1, DCf σ s1 u (lo + m) m 2 ∧ Kp [] [10, 12, 15, 16] s1 s ∧ (∀ j, s 10 j = if j = lo + m then res else σ 10 j) ∧ (∀ j, s 12 j = if j = lo + m then vp_nar .boolean st else σ 12 j) ∧ (∀ j, j ≠ lo + m → s 15 j = σ 15 j) ∧ (s 15 (lo + m)).toInt = (l.length : Int) ∧ (∀ x, x < 8 * (lo + m) → s 16 x = σ 16 x) ∧ (∀ x, s 16 x = σ 16 x ∨ 0 ≤ (s 16 x).toInt) ∧ ∀ k x, l[k]? = some x → (s 16 (8 * (lo + m) + k)).toInt = (x.1 : Int))
  ∨ ∃ r : Nat, rr = ((lo + r : Nat) : Int) ∧ r < m ∧ KFr σ s ∧ FTq σ s (¬ JFm σ (lo + r) res st body l) ∧ v.toInt = ((lo + r : Nat) : Int)
section FNM
variable {w s r σ σ' σ1 σ2 τ t : St} {kd vl : Nat → Int} {n m lo d p u e : Nat} {vs z : List Nat} {F0 : Prop} {a1 a2 a3 v7 v14 : Int32} {l : List (Nat × Nat)} {body : Prop}
theorem m8l {x : Int32} (h0 : 0 ≤ x.toInt) (h1 : x.toInt ≤ 100000) : ((8 : Int32) * x).toInt = 8 * x.toInt := by
  rw [Int32.toInt_mul]
  have e8 : ((8 : Int32)).toInt = 8 := rfl
  rw [e8, Int.bmod_def]
  have e : ((2 ^ 32 : Nat) : Int) = 4294967296 := by decide
  rw [e]
  split <;> omega
theorem l_at {k : Nat} (h : k < l.length) : ∃ x, l[k]? = some x := ⟨l[k], List.getElem?_eq_getElem h⟩
theorem mr_sameHead {Q : Int32 → Prop} (hv : a1.toInt = (e : Int)) (he : e < 10000) (hH : HRq kd n σ l) (h15 : 0 ≤ (σ 15 e).toInt ∨ True) (k1 : ((σ 10 e).toInt = a2.toInt ∧ (σ 15 e).toInt = (l.length : Int) ∧ ∀ k x, l[k]? = some x → (σ 16 (8 * e + k)).toInt = (x.1 : Int)) → Q 1) (k0 : ¬ ((σ 10 e).toInt = a2.toInt ∧ (σ 15 e).toInt = (l.length : Int) ∧ ∀ k x, l[k]? = some x → (σ 16 (8 * e + k)).toInt = (x.1 : Int)) → Q 0) : pp_isSameHead a1 a2 σ τ vs Q := by
  obtain ⟨h1, h2, h3⟩ := hH
  unfold pp_isSameHead
  have en : a1.toNatClampNeg = e := nat_of hv
  rw [en, h1]
  refine fun _ => ⟨fun c => k0 (fun h => c h.1), fun c10 _ => ⟨fun c15 => ?_, fun c => k0 (fun h => c h.2.1)⟩⟩
  refine ⟨fun x => ∃ k : Nat, x.toInt = (k : Int) ∧ k ≤ l.length ∧ ∀ q y, q < k → l[q]? = some y → (σ 16 (8 * e + q)).toInt = (y.1 : Int), ⟨0, rfl, Nat.zero_le _, fun q y h => absurd h (Nat.not_lt_zero q)⟩, ?_⟩
  rintro x ⟨k, hx, hk, hq⟩
  refine ⟨fun c => k1 ⟨c10, c15, fun q y hy => hq q y (by
    have := (List.getElem?_eq_some_iff.mp hy).1
    omega) hy⟩, fun c _ _ => ?_⟩
  obtain ⟨y, hy⟩ := l_at (l := l) (k := k) (by omega)
  have e8 : (((8 : Int32) * a1) + x).toInt = ((8 * e + k : Nat) : Int) := by
    rw [ad (by rw [m8l (by omega) (by omega)]; omega) (by rw [m8l (by omega) (by omega)]; omega), m8l (by omega) (by omega), hv, hx]
    omega
  have n8 : (((8 : Int32) * a1) + x).toNatClampNeg = 8 * e + k := nat_of e8
  have nx : x.toNatClampNeg = k := nat_of hx
  have h37 := (h3 k y hy).1
  rw [n8, nx, h37]
  refine ⟨fun ce => ⟨k + 1, by show (x + (1 : Int32)).toInt = _; rw [ad1 (by omega), hx]; rfl, by omega, fun q y' hq' hy' => ?_⟩, fun ce => k0 (fun h => ce (h.2.2 k y hy))⟩
  by_cases cq : q = k
  · rw [cq] at hy' ⊢
    rw [hy] at hy'
    rw [← Option.some.inj hy']
    exact ce
  · exact hq q y' (by omega) hy'
theorem mr_fname {J162 : Int32 → St → St → List Nat → Prop} (ha : a1.toInt = (u : Int)) (tu : TNm σ u) (hE : EOKm σ lo (lo + m)) (hm : m ≤ 100) (h0 : 0 ≤ (σ 0 12).toInt) (hH : HRq kd n σ l) (hb : v7.toInt ≠ 0 ↔ body) (he : EFm σ lo (lo + m) u v14.toInt) (kk : ∀ v s, FNf σ s lo m u v a2 a3 body l v14.toInt → J162 v s τ vs) : ((v14.toInt < 0 → (pp_declare a1 (2 : Int32) σ τ vs (fun v87 s87 t87 z87 => (v87.toInt < 0 → (J162 v87 s87 t87 z87)) ∧ (0 ≤ v87.toInt → ((0 ≤ v87.toInt ∧ v87.toInt < 10000) → ((0 ≤ v87.toInt ∧ v87.toInt < 10000) → ((0 ≤ v87.toInt ∧ v87.toInt < 10000) → (∃ L127 : Int32 → St → St → List Nat → Prop, (L127 (0 : Int32) (upC (upC (upC s87 10 v87.toNatClampNeg a2) 12 v87.toNatClampNeg (vp_nar .boolean a3)) 15 v87.toNatClampNeg (s87 0 64)) t87 z87) ∧ ∀ (x6_127 : Int32) (s127 t127 : St) (z127 : List Nat), L127 x6_127 s127 t127 z127 → (((s127 0 64).toInt ≤ x6_127.toInt → (J162 v87 s127 t127 z127)) ∧ (x6_127.toInt < (s127 0 64).toInt → ((0 ≤ x6_127.toInt ∧ x6_127.toInt < 8) → ((0 ≤ (((8 : Int32) * v87) + x6_127).toInt ∧ (((8 : Int32) * v87) + x6_127).toInt < 80000) → (L127 (x6_127 + 1) (upC s127 16 (((8 : Int32) * v87) + x6_127).toNatClampNeg (s127 37 x6_127.toNatClampNeg)) t127 z127))))))))))))) ∧ (0 ≤ v14.toInt → ((0 ≤ v14.toInt ∧ v14.toInt < 10000) → (∃ J77 : Int32 → Prop, (∀ (y1_77 : Int32), y1_77 = 0 ∨ y1_77 = 1 → (J77 y1_77 → (pp_must y1_77 a1 σ τ vs (fun s78 t78 z78 => J162 v14 s78 t78 z78)))) ∧ (∃ J76 : Prop, (J76 → (J77 (0 : Int32))) ∧ (((σ 9 v14.toNatClampNeg).toInt ≠ 2 → (J76)) ∧ ((σ 9 v14.toNatClampNeg).toInt = 2 → (pp_isSameHead v14 a2 σ τ vs (fun v40 => (v40.toInt = 0 → (J76)) ∧ (v40.toInt ≠ 0 → ((0 ≤ v14.toInt ∧ v14.toInt < 10000) → (((σ 12 v14.toNatClampNeg).toInt ≠ a3.toInt → (J76)) ∧ ((σ 12 v14.toNatClampNeg).toInt = a3.toInt → (∃ J72 : Prop, (J72 → (J77 (1 : Int32))) ∧ ((v7.toInt = 0 → (J72)) ∧ (v7.toInt ≠ 0 → ((0 ≤ v14.toInt ∧ v14.toInt < 10000) → (((σ 13 v14.toNatClampNeg).toInt ≠ 0 → (J76)) ∧ ((σ 13 v14.toNatClampNeg).toInt = 0 → (J72)))))))))))))))))))) := by
  refine ⟨fun c => ?_, fun c _ => ?_⟩
  · have hrr : v14.toInt = -1 := by
      rcases he with ⟨e, h1, h2, h3, h4, h5⟩ | ⟨h1, h2⟩
      · omega
      · exact h2
    rw [hrr] at kk
    refine mr_declare ha tu hE hm h0 (fun e100 s k f => ⟨fun _ => kk _ _ (Or.inl ⟨rfl, e100, by decide, k, f⟩), fun cx => absurd cx (by decide)⟩) (fun hm1 hlm v s1 hv hd => ⟨fun cx => by omega, fun _ _ _ _ => ?_⟩)
    have en : v.toNatClampNeg = lo + m := nat_of hv
    rw [en]
    have e64 : s1 0 64 = σ 0 64 := hd.1 0 64 rfl rfl
    have nn := dcf_n hd
    have s10 : s1 10 = σ 10 := nn 10 (by decide) (by decide) (by decide) (by decide) (by decide) (by decide) (by decide) (by decide)
    have s12 : s1 12 = σ 12 := nn 12 (by decide) (by decide) (by decide) (by decide) (by decide) (by decide) (by decide) (by decide)
    have s15 : s1 15 = σ 15 := nn 15 (by decide) (by decide) (by decide) (by decide) (by decide) (by decide) (by decide) (by decide)
    have s16 : s1 16 = σ 16 := nn 16 (by decide) (by decide) (by decide) (by decide) (by decide) (by decide) (by decide) (by decide)
    have s37 : s1 37 = σ 37 := nn 37 (by decide) (by decide) (by decide) (by decide) (by decide) (by decide) (by decide) (by decide)
    have k0 : Kp [] [10, 12, 15] s1 (upC (upC (upC s1 10 (lo + m) a2) 12 (lo + m) (vp_nar .boolean a3)) 15 (lo + m) (s1 0 64)) := kp_a (kp_a (kp_a kp_rf rfl) rfl) rfl
    have a10 : ∀ j, (upC (upC (upC s1 10 (lo + m) a2) 12 (lo + m) (vp_nar .boolean a3)) 15 (lo + m) (s1 0 64)) 10 j = if j = lo + m then a2 else σ 10 j := fun j => by rw [rdC_ne (by decide), rdC_ne (by decide), rdC_eq, s10]
    have a12 : ∀ j, (upC (upC (upC s1 10 (lo + m) a2) 12 (lo + m) (vp_nar .boolean a3)) 15 (lo + m) (s1 0 64)) 12 j = if j = lo + m then vp_nar .boolean a3 else σ 12 j := fun j => by rw [rdC_ne (by decide), rdC_eq, rdC_ne (by decide), s12]
    have a15 : ∀ j, (upC (upC (upC s1 10 (lo + m) a2) 12 (lo + m) (vp_nar .boolean a3)) 15 (lo + m) (s1 0 64)) 15 j = if j = lo + m then σ 0 64 else σ 15 j := fun j => by rw [rdC_eq, rdC_ne (by decide), rdC_ne (by decide), s15, e64]
    generalize upC (upC (upC s1 10 (lo + m) a2) 12 (lo + m) (vp_nar .boolean a3)) 15 (lo + m) (s1 0 64) = S0 at k0 a10 a12 a15
    refine ⟨fun x s t z => t = τ ∧ z = vs ∧ Kp [] [16] S0 s ∧ ∃ k : Nat, x.toInt = (k : Int) ∧ k ≤ l.length ∧ (∀ x, x < 8 * (lo + m) → s 16 x = σ 16 x) ∧ (∀ x, s 16 x = σ 16 x ∨ 0 ≤ (s 16 x).toInt) ∧ ∀ q y, q < k → l[q]? = some y → (s 16 (8 * (lo + m) + q)).toInt = (y.1 : Int), ⟨rfl, rfl, kp_rf, 0, rfl, Nat.zero_le _, fun x _ => ?_, fun x => Or.inl ?_, fun q y h => absurd h (Nat.not_lt_zero q)⟩, ?_⟩
    · rw [k0 16 x rfl rfl, s16]
    · rw [k0 16 x rfl rfl, s16]
    rintro x s t z ⟨et, ez, k1, k, hx, hk, g1, g2, g3⟩
    rw [et, ez]
    have f64 : (s 0 64).toInt = (l.length : Int) := by rw [k1 0 64 rfl rfl, k0 0 64 rfl rfl, e64]; exact hH.1
    rw [f64]
    refine ⟨fun c1 => ?_, fun c1 _ _ => ⟨rfl, rfl, kp_a k1 rfl, k + 1, by show (x + (1 : Int32)).toInt = _; rw [ad1 (by omega), hx]; rfl, by omega, ?_⟩⟩
    · refine kk _ _ (Or.inr (Or.inl ⟨rfl, hm1, hlm, hv, s1, hd, kp_tr (kp_sub k0 rfl rfl) (kp_sub k1 rfl rfl), fun j => ?_, fun j => ?_, fun j hj => ?_, ?_, g1, g2, fun q y hy => g3 q y ?_ hy⟩))
      · rw [k1 10 j rfl rfl]; exact a10 j
      · rw [k1 12 j rfl rfl]; exact a12 j
      · rw [k1 15 j rfl rfl, a15, if_neg hj]
      · rw [k1 15 (lo + m) rfl rfl, a15, if_pos rfl]; exact hH.1
      · have := (List.getElem?_eq_some_iff.mp hy).1
        omega
    · have h28 := hH.2.1
      have e8 : (((8 : Int32) * v) + x).toInt = ((8 * (lo + m) + k : Nat) : Int) := by
        rw [ad (by rw [m8l (by omega) (by omega)]; omega) (by rw [m8l (by omega) (by omega)]; omega), m8l (by omega) (by omega), hv, hx]
        omega
      have n8 : (((8 : Int32) * v) + x).toNatClampNeg = 8 * (lo + m) + k := nat_of e8
      have nx : x.toNatClampNeg = k := nat_of hx
      obtain ⟨y, hy⟩ := l_at (l := l) (k := k) (by omega)
      have h37 := (hH.2.2 k y hy).1
      have e37 : s 37 k = σ 37 k := by rw [k1 37 k rfl rfl, k0 37 k rfl rfl, s37]
      rw [n8, nx, e37]
      refine ⟨fun q hq => ?_, fun q => ?_, fun q y' hq hy' => ?_⟩
      · rw [rdA_ne (by omega)]; exact g1 q hq
      · by_cases cq : q = 8 * (lo + m) + k
        · rw [rdA_eq cq]
          exact Or.inr (by omega)
        · rw [rdA_ne cq]; exact g2 q
      · by_cases cq : q = k
        · rw [cq] at hy' ⊢
          rw [hy] at hy'
          rw [rdA_eq rfl, ← Option.some.inj hy']
          exact h37
        · rw [rdA_ne (by omega)]
          exact g3 q y' (by omega) hy'
  · obtain ⟨r, hr, er⟩ : ∃ r : Nat, r < m ∧ v14.toInt = ((lo + r : Nat) : Int) := by
      rcases he with ⟨e, h1, h2, h3, h4, h5⟩ | ⟨h1, h2⟩
      · exact ⟨e - lo, by omega, by omega⟩
      · omega
    have en : v14.toNatClampNeg = lo + r := nat_of er
    have hl9 : lo + r < 10000 := by
      have := hE.2.2.2.1
      omega
    rw [en]
    refine ⟨fun y => (y.toInt ≠ 0 ↔ JFm σ (lo + r) a2 a3 body l), fun y _ hy => mr_must h0 (fun s k f => kk _ _ (Or.inr (Or.inr ⟨r, er, hr, k, ft_iff f ⟨fun h hx => (hy.2 hx) h, fun h => Decidable.byContradiction (fun hx => h (hy.1 hx))⟩, er⟩))), ¬ JFm σ (lo + r) a2 a3 body l, fun hj => ⟨fun h => absurd rfl h, fun h => absurd h hj⟩, fun c9 h => c9 h.1, fun c9 => mr_sameHead er hl9 hH (Or.inr trivial) (fun hs => ⟨fun h => absurd h (by decide), fun _ _ => ⟨fun c12 h => c12 h.2.2.1, fun c12 => ⟨JFm σ (lo + r) a2 a3 body l, fun hj => ⟨fun _ => hj, fun _ => by decide⟩, fun c7 => ⟨c9, hs, c12, fun h => (hb.2 h.1) c7⟩, fun c7 _ => ⟨fun c13 h => h.2.2.2 ⟨hb.1 c7, c13⟩, fun c13 => ⟨c9, hs, c12, fun h => h.2 c13⟩⟩⟩⟩⟩) (fun hs => ⟨fun _ h => hs h.2.1, fun h => absurd rfl h⟩)⟩
/-- the reference's details behind a function's name -/
def GFd (σ s : St) (u m lo m' : Nat) (res st : Int32) (body : Prop) (l : List (Nat × Nat)) (rr : Int) : Prop :=
  (rr = -1 → m' = m + 1 ∧ ∃ s1, DCf σ s1 u (lo + m) m 2 ∧ Kp [(0, 10), (0, 12), (0, 13), (0, 37)] [10, 11, 12, 13, 15, 16, 17] s1 s ∧ s 11 = σ 11 ∧ (∀ j, s 10 j = if j = lo + m then res else σ 10 j) ∧ (∀ j, j ≠ lo + m → s 12 j = σ 12 j) ∧ (((s 12 (lo + m)).toInt ≠ 0 ↔ st.toInt ≠ 0) ∧ ((s 12 (lo + m)).toInt = 0 ∨ (s 12 (lo + m)).toInt = 1)) ∧ (∀ j, j ≠ lo + m → s 15 j = σ 15 j) ∧ (s 15 (lo + m)).toInt = (l.length : Int) ∧ (∀ x, x < 8 * (lo + m) → s 16 x = σ 16 x) ∧ (∀ k x, l[k]? = some x → (s 16 (8 * (lo + m) + k)).toInt = (x.1 : Int)) ∧ (∀ j, j ≠ lo + m → s 13 j = σ 13 j) ∧ ((s 13 (lo + m)).toInt ≠ 0 ↔ body) ∧ ∀ j, j ≠ lo + m → s 17 j = σ 17 j)
  ∧ (∀ r : Nat, rr = ((lo + r : Nat) : Int) → m' = m ∧ Kp [(0, 10), (0, 12), (0, 13), (0, 37)] [11, 13, 17] σ s ∧ s 11 = σ 11 ∧ (∀ j, j ≠ lo + r → s 13 j = σ 13 j) ∧ ((s 13 (lo + r)).toInt ≠ 0 ↔ body ∨ (σ 13 (lo + r)).toInt ≠ 0) ∧ ∀ j, j ≠ lo + r → s 17 j = σ 17 j) ∧ s 0 37 = σ 0 37
def BFm (σ : St) (m lo : Nat) (res st : Int32) (body : Prop) (l : List (Nat × Nat)) (rr : Int) : Prop := (rr = -1 ∧ m = 100) ∨ ∃ r : Nat, rr = ((lo + r : Nat) : Int) ∧ ¬ JFm σ (lo + r) res st body l
/-- what stands where the body begins, if one does -/
def DFf (s2 s3 : St) (v : Int32) (body : Prop) : Prop := (¬ body ∧ s3 = s2) ∨ (body ∧ ((s3 = s2 ∧ (v.toInt < 0 ∨ ∃ e : Nat, v.toInt = (e : Int) ∧ (s2 9 e).toInt ≠ 2)) ∨ ∃ e : Nat, v.toInt = (e : Int) ∧ (s2 9 e).toInt = 2 ∧ Kp [] [13, 17] s2 s3 ∧ (∀ j, s3 13 j = if j = e then 1 else s2 13 j) ∧ ∀ j, j ≠ e → s3 17 j = s2 17 j))
theorem fn_fin {v : Int32} {rr : Int} {s2 s3 : St} {S : Nat} (hG : RGs kd vl n S m lo d σ) (hu : u ≤ n) (ku : kd u = 2) (hres : -1 ≤ a2.toInt ∧ a2.toInt ≤ 5) (hst : a3 = 0 ∨ a3 = 1) (hl8 : l.length ≤ 8) (hgn : FNf σ s2 lo m u v a2 a3 body l rr) (hdf : DFf s2 s3 v body) : ∃ m', RGs kd vl n S m' lo d s3 ∧ s3 0 10 = σ 0 10 ∧ s3 0 64 = σ 0 64 ∧ s3 37 = σ 37 ∧ s3 38 = σ 38 ∧ FTq σ s3 (BFm σ m lo a2 a3 body l rr) ∧ (¬ BFm σ m lo a2 a3 body l rr → GFd σ s3 u m lo m' a2 a3 body l rr) := by
  have h0 := rgq_0 hG.1
  rcases hgn with ⟨hr, h100, hv, k1, f1⟩ | ⟨hr, hm, hl, hv, s1, hd, k1, r10, r12, r15, r15n, r16, r16b, r16n⟩ | ⟨r, hr, hrm, k1, f1, hv⟩
  · have hbf : BFm σ m lo a2 a3 body l rr := Or.inl ⟨hr, h100⟩
    have e3 : s3 = s2 := by
      rcases hdf with h | ⟨_, h | ⟨e, h, _⟩⟩
      · exact h.2
      · exact h.1
      · omega
    rw [e3]
    exact ⟨m, rg_ds hG (ds_k k1 rfl rfl) f1.1, k1 0 10 rfl rfl, k1 0 64 rfl rfl, funext (fun j => k1 37 j rfl rfl), funext (fun j => k1 38 j rfl rfl), ft_iff f1 ⟨fun _ => hbf, fun _ => trivial⟩, fun h => absurd hbf h⟩
  · have nn := dcf_n hd
    have evb : vp_nar .boolean a3 = a3 := by
      rcases hst with h | h <;> rw [h] <;> rfl
    have e9 : s2 9 (lo + m) = 2 := by rw [k1 9 (lo + m) rfl rfl, hd.2.2.2.2.1, if_pos rfl]
    have e13 : ∀ j, s2 13 j = if j = lo + m then 0 else σ 13 j := fun j => by rw [k1 13 j rfl rfl, hd.2.2.2.2.2.1]
    have nb : ¬ BFm σ m lo a2 a3 body l rr := fun h => by
      rcases h with h | ⟨r, h, _⟩
      · omega
      · omega
    have fin : ∀ s3, Kp [] [13, 17] s2 s3 → (∀ j, j ≠ lo + m → s3 13 j = s2 13 j) → ((s3 13 (lo + m)).toInt ≠ 0 ↔ body) → (∀ j, j ≠ lo + m → s3 17 j = s2 17 j) → ∃ m', RGs kd vl n S m' lo d s3 ∧ s3 0 10 = σ 0 10 ∧ s3 0 64 = σ 0 64 ∧ s3 37 = σ 37 ∧ s3 38 = σ 38 ∧ FTq σ s3 (BFm σ m lo a2 a3 body l rr) ∧ (¬ BFm σ m lo a2 a3 body l rr → GFd σ s3 u m lo m' a2 a3 body l rr) := fun s3 k3 q13 q13n q17 => by
      have kz : Kp [(0, 10), (0, 12), (0, 13), (0, 37)] [10, 11, 12, 13, 15, 16, 17] s1 s3 := kp_tr (kp_sub k1 rfl rfl) (kp_sub k3 rfl rfl)
      have kx : ∀ c, c ≠ 13 → c ≠ 17 → s3 c = s2 c := fun c h1 h2 => funext (fun j => k3 c j rfl (by
        simp only [List.contains_cons, List.contains_nil, Bool.or_false, Bool.or_eq_false_iff, beq_eq_false_iff_ne, ne_eq]
        omega))
      have f0 : ∀ f, f ≠ 36 → f ≠ 31 → s3 0 f = σ 0 f := fun f h1 h2 => by
        rw [k3 0 f rfl rfl, k1 0 f rfl rfl]
        exact hd.1 0 f (by
          simp only [List.contains_cons, List.contains_nil, Bool.or_false, Bool.or_eq_false_iff, beq_eq_false_iff_ne, ne_eq, Prod.mk.injEq, not_and]
          omega) rfl
      have e12 : s3 0 12 = σ 0 12 := f0 12 (by decide) (by decide)
      have e37 : s3 0 37 = σ 0 37 := f0 37 (by decide) (by decide)
      have c11 : s3 11 = σ 11 := by
        rw [kx 11 (by decide) (by decide), show s2 11 = s1 11 from funext (fun j => k1 11 j rfl rfl)]
        exact nn 11 (by decide) (by decide) (by decide) (by decide) (by decide) (by decide) (by decide) (by decide)
      have c37 : s3 37 = σ 37 := by
        rw [kx 37 (by decide) (by decide), show s2 37 = s1 37 from funext (fun j => k1 37 j rfl rfl)]
        exact nn 37 (by decide) (by decide) (by decide) (by decide) (by decide) (by decide) (by decide) (by decide)
      have c38 : s3 38 = σ 38 := by
        rw [kx 38 (by decide) (by decide), show s2 38 = s1 38 from funext (fun j => k1 38 j rfl rfl)]
        exact nn 38 (by decide) (by decide) (by decide) (by decide) (by decide) (by decide) (by decide) (by decide)
      have b10 := kx 10 (by decide) (by decide)
      have b12 := kx 12 (by decide) (by decide)
      have b15 := kx 15 (by decide) (by decide)
      have b16 := kx 16 (by decide) (by decide)
      refine ⟨m + 1, rg_decl hG hm hl hu ku hd kz (fun j hj => by rw [b10, r10, if_neg hj]) (by rw [b10, r10, if_pos rfl]; omega) (fun h => absurd h (by decide)) (fun j hj => by rw [b15, r15 j hj]) (fun x => by rw [b16]; exact (r16b x).imp id (fun h => by omega)) (fun _ j hj => ?_) (by rw [e37]; exact rgq_D hG.1) (by rw [e12]; exact h0), f0 10 (by decide) (by decide), f0 64 (by decide) (by decide), c37, c38, ft_iff (ft_same h0 e12) ⟨False.elim, fun h => nb h⟩, fun _ => ⟨fun _ => ⟨rfl, s1, hd, kz, c11, fun j => by rw [b10]; exact r10 j, fun j hj => by rw [b12, r12, if_neg hj], ⟨by rw [b12, r12, if_pos rfl, evb], by rw [b12, r12, if_pos rfl, evb]; rcases hst with h | h <;> rw [h] <;> decide⟩, fun j hj => by rw [b15]; exact r15 j hj, by rw [b15]; exact r15n, fun x hx => by rw [b16]; exact r16 x hx, fun k x hx => by rw [b16]; exact r16n k x hx, fun j hj => by rw [q13 j hj, e13, if_neg hj], q13n, fun j hj => by rw [q17 j hj, k1 17 j rfl rfl, nn 17 (by decide) (by decide) (by decide) (by decide) (by decide) (by decide) (by decide) (by decide)]⟩, fun r hr2 => by omega, e37⟩⟩
      rw [b15, r15n] at hj
      obtain ⟨y, hy⟩ := l_at (l := l) (k := j) (by omega)
      rw [b16, r16n j y hy]
      omega
    rcases hdf with ⟨hb, e3⟩ | ⟨hb, ⟨e3, h⟩ | ⟨e, he, h9, k3, g13, g17⟩⟩
    · rw [e3]
      exact fin s2 kp_rf (fun j _ => rfl) ⟨fun h => absurd (by rw [e13, if_pos rfl]; rfl) h, fun h => absurd h hb⟩ (fun j _ => rfl)
    · exfalso
      rcases h with h | ⟨e, h1, h2⟩
      · omega
      · have : e = lo + m := by omega
        rw [this, e9] at h2
        exact h2 rfl
    · have : e = lo + m := by omega
      rw [this] at g13 g17
      exact fin s3 k3 (fun j hj => by rw [g13, if_neg hj]) ⟨fun _ => hb, fun _ => by rw [g13, if_pos rfl]; decide⟩ g17
  · have bd1 : BFm σ m lo a2 a3 body l rr ↔ ¬ JFm σ (lo + r) a2 a3 body l := by
      unfold BFm
      constructor
      · rintro (h | ⟨q, h1, h2⟩)
        · omega
        · have : q = r := by omega
          rw [this] at h2
          exact h2
      · exact fun h => Or.inr ⟨r, hr, h⟩
    have fin : ∀ s3, Kp [] [13, 17] s2 s3 → (∀ j, j ≠ lo + r → s3 13 j = s2 13 j) → (¬ BFm σ m lo a2 a3 body l rr → ((s3 13 (lo + r)).toInt ≠ 0 ↔ body ∨ (σ 13 (lo + r)).toInt ≠ 0)) → (∀ j, j ≠ lo + r → s3 17 j = s2 17 j) → ∃ m', RGs kd vl n S m' lo d s3 ∧ s3 0 10 = σ 0 10 ∧ s3 0 64 = σ 0 64 ∧ s3 37 = σ 37 ∧ s3 38 = σ 38 ∧ FTq σ s3 (BFm σ m lo a2 a3 body l rr) ∧ (¬ BFm σ m lo a2 a3 body l rr → GFd σ s3 u m lo m' a2 a3 body l rr) := fun s3 k3 q13 q13n q17 => by
      have kz : Kp [(0, 10), (0, 12), (0, 13), (0, 37)] [11, 13, 17] σ s3 := kp_tr (kp_sub k1 rfl rfl) (kp_sub k3 rfl rfl)
      have kz2 : Kp [(0, 12), (0, 13)] [13, 17] σ s3 := kp_tr (kp_sub k1 rfl rfl) (kp_sub k3 rfl rfl)
      have e12 : s3 0 12 = s2 0 12 := k3 0 12 rfl rfl
      have e37 : s3 0 37 = σ 0 37 := kz2 0 37 rfl rfl
      exact ⟨m, rg_fr hG kz (by rw [e37]; exact rgq_D hG.1) (by rw [e12]; exact f1.1), kz2 0 10 rfl rfl, kz2 0 64 rfl rfl, funext (fun j => kz2 37 j rfl rfl), funext (fun j => kz2 38 j rfl rfl), ft_k (ft_iff f1 bd1.symm) e12, fun nb => ⟨fun h => by omega, fun r' hr' => by
        have : r' = r := by omega
        rw [this]
        exact ⟨rfl, kz, funext (fun j => kz2 11 j rfl rfl), fun j hj => by rw [q13 j hj]; exact k1 13 j rfl rfl, q13n nb, fun j hj => by rw [q17 j hj]; exact k1 17 j rfl rfl⟩, e37⟩⟩
    have e13 : ∀ j, s2 13 j = σ 13 j := fun j => k1 13 j rfl rfl
    have e9 : ∀ j, s2 9 j = σ 9 j := fun j => k1 9 j rfl rfl
    rcases hdf with ⟨hb, e3⟩ | ⟨hb, ⟨e3, h⟩ | ⟨e, he, h9, k3, g13, g17⟩⟩
    · rw [e3]
      exact fin s2 kp_rf (fun j _ => rfl) (fun _ => by rw [e13]; exact ⟨Or.inr, fun h => h.elim (fun h => absurd h hb) id⟩) (fun j _ => rfl)
    · rw [e3]
      refine fin s2 kp_rf (fun j _ => rfl) (fun nb => ?_) (fun j _ => rfl)
      exfalso
      have jf : JFm σ (lo + r) a2 a3 body l := Classical.byContradiction (fun h => nb (bd1.2 h))
      rcases h with h | ⟨e, h1, h2⟩
      · omega
      · have : e = lo + r := by omega
        rw [this, e9] at h2
        exact h2 jf.1
    · have : e = lo + r := by omega
      rw [this] at g13 g17
      exact fin s3 k3 (fun j hj => by rw [g13, if_neg hj]) (fun _ => ⟨fun _ => Or.inl hb, fun _ => by rw [g13, if_pos rfl]; decide⟩) g17
end FNM
