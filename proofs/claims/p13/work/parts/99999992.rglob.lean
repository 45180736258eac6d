/-! outside of functions: the reference's names -/
/-- one more is declared: e-th of all, i-th of its unit -/
def DCf (σ s : St) (u e i : Nat) (sort : Int32) : Prop :=
  Kp [(0, 36), (0, 31)] [9, 13, 14, 21, 18, 19, 20] σ s ∧ (s 0 36).toInt = (e : Int) + 1 ∧ (s 0 31).toInt = (σ 0 31).toInt + ((σ 4 u).toInt - (σ 3 u).toInt) ∧ (s 0 31).toInt ≤ 65536
  ∧ (∀ j, s 9 j = if j = e then sort else σ 9 j) ∧ (∀ j, s 13 j = if j = e then 0 else σ 13 j) ∧ (∀ j, s 14 j = if j = e then 0 else σ 14 j) ∧ (∀ j, s 21 j = if j = i then -1 else σ 21 j) ∧ (∀ j, s 18 j = if j = e then σ 0 31 else σ 18 j) ∧ (∀ j, s 19 j = if j = e then (σ 4 u) - (σ 3 u) else σ 19 j)
  ∧ (∀ j : Nat, (j : Int) < (σ 0 31).toInt → s 20 j = σ 20 j) ∧ (∀ k : Nat, (k : Int) < (σ 4 u).toInt - (σ 3 u).toInt → s 20 ((σ 0 31).toInt.toNat + k) = vp_nar .byte (σ 1 ((σ 3 u).toInt.toNat + k)))
section RGN
variable {σ s s1 s2 σ' τ t : St} {kd vl : Nat → Int} {n S m lo d p u r D : Nat} {vs z : List Nat} {a1 a2 a3 a4 a5 : Int32} {Q : Int32 → St → St → List Nat → Prop}
theorem nb0 : vp_nar .boolean (0 : Int32) = 0 := rfl
theorem mr_declare (ha : a1.toInt = (u : Int)) (tu : TNm σ u) (hE : EOKm σ lo (lo + m)) (hm : m ≤ 100) (h0 : 0 ≤ (σ 0 12).toInt)
    (kf : m = 100 → ∀ s, KFr σ s → FTq σ s True → Q (-1) s τ vs)
    (kk : m < 100 → lo + m < 10000 → ∀ (v : Int32) s, v.toInt = ((lo + m : Nat) : Int) → DCf σ s u (lo + m) m a2 → Q v s τ vs) : pp_declare a1 a2 σ τ vs Q := by
  obtain ⟨e1, e2, e3, e4, e5, e6, e7, e8⟩ := hE
  obtain ⟨t1, t2, t3, t4⟩ := tu
  unfold pp_declare
  have eu : a1.toNatClampNeg = u := nat_of ha
  have ee : (σ 0 36).toNatClampNeg = lo + m := nat_of e2
  have es : ((σ 0 36) - (σ 22 (σ 0 35).toNatClampNeg)).toInt = (m : Int) := by rw [sb (by omega) (by omega), e2, e1]; omega
  have ei : ((σ 0 36) - (σ 22 (σ 0 35).toNatClampNeg)).toNatClampNeg = m := nat_of es
  rw [es, ei, ee, eu, nb0]
  refine fun _ => ⟨fun c r1 _ _ _ _ _ _ _ _ _ => ?_, fun c => mr_tell h0 (by decide) (fun s k f => kf (by omega) s k f)⟩
  have main : ∀ S0 : St, Kp [(0, 36)] [9, 13, 14, 21, 18, 19] σ S0 → (S0 0 36).toInt = ((lo + m : Nat) : Int) + 1 → (∀ j, S0 9 j = if j = lo + m then a2 else σ 9 j) → (∀ j, S0 13 j = if j = lo + m then 0 else σ 13 j) → (∀ j, S0 14 j = if j = lo + m then 0 else σ 14 j) → (∀ j, S0 21 j = if j = m then -1 else σ 21 j) → (∀ j, S0 18 j = if j = lo + m then σ 0 31 else σ 18 j) → (∀ j, S0 19 j = if j = lo + m then (σ 4 u) - (σ 3 u) else σ 19 j) →
      ∃ L117 : Int32 → St → St → List Nat → Prop, (L117 (σ 3 u) S0 τ vs) ∧ ∀ (x : Int32) (s t : St) (z : List Nat), L117 x s t z → ((0 ≤ a1.toInt ∧ a1.toInt < 16002) → (((s 4 u).toInt ≤ x.toInt → (Q (σ 0 36) s t z)) ∧ (x.toInt < (s 4 u).toInt → ((0 ≤ x.toInt ∧ x.toInt < 16000) → ((0 ≤ (s 0 31).toInt ∧ (s 0 31).toInt < 65536) → (L117 (x + 1) (upC (upC s 20 (s 0 31).toNatClampNeg (vp_nar .byte (s 1 x.toNatClampNeg))) 0 31 ((s 0 31) + (1 : Int32))) t z)))))) := fun S0 k0 f36 f9 f13 f14 f21 f18 f19 => by
    refine ⟨fun x s t z => t = τ ∧ z = vs ∧ ∃ k : Nat, x.toInt = (σ 3 u).toInt + k ∧ (k : Int) ≤ (σ 4 u).toInt - (σ 3 u).toInt ∧ Kp [(0, 31)] [20] S0 s ∧ (s 0 31).toInt = (σ 0 31).toInt + k ∧ (s 0 31).toInt ≤ 65536 ∧ (∀ j : Nat, (j : Int) < (σ 0 31).toInt → s 20 j = σ 20 j) ∧ ∀ q : Nat, q < k → s 20 ((σ 0 31).toInt.toNat + q) = vp_nar .byte (σ 1 ((σ 3 u).toInt.toNat + q)), ⟨rfl, rfl, 0, by omega, by omega, kp_rf, ?_, ?_, fun j _ => k0 20 j rfl rfl, fun q hq => absurd hq (Nat.not_lt_zero q)⟩, ?_⟩
    · rw [k0 0 31 rfl rfl]; omega
    · rw [k0 0 31 rfl rfl]; exact e7
    rintro x s t z ⟨et, ez, k, h1, h2, h3, h4, h5, h6, h7⟩
    rw [et, ez]
    have e4' : s 4 u = σ 4 u := (h3 4 u rfl rfl).trans (k0 4 u rfl rfl)
    rw [e4']
    refine fun _ => ⟨fun c1 => ?_, fun c1 _ r2 => ⟨rfl, rfl, k + 1, ?_, ?_, kp_f (kp_a h3 rfl) rfl, ?_, ?_, fun j hj => ?_, fun q hq => ?_⟩⟩
    · have ek : (k : Int) = (σ 4 u).toInt - (σ 3 u).toInt := by omega
      have ex : ∀ c, c ≠ 0 → c ≠ 20 → s c = S0 c := fun c c0 c20 => funext (fun j => h3 c j (by
        simp only [List.contains_cons, List.contains_nil, Bool.or_false, beq_eq_false_iff_ne, ne_eq, Prod.mk.injEq, not_and]
        omega) (by
        simp only [List.contains_cons, List.contains_nil, Bool.or_false, beq_eq_false_iff_ne, ne_eq]
        omega))
      refine kk (by omega) (by omega) _ s e2 ⟨kp_tr (kp_sub k0 rfl rfl) (kp_sub h3 rfl rfl), ?_, by omega, h5, ?_, ?_, ?_, ?_, ?_, ?_, h6, fun q hq => h7 q (by omega)⟩
      · rw [h3 0 36 rfl rfl]; exact f36
      · rw [ex 9 (by decide) (by decide)]; exact f9
      · rw [ex 13 (by decide) (by decide)]; exact f13
      · rw [ex 14 (by decide) (by decide)]; exact f14
      · rw [ex 21 (by decide) (by decide)]; exact f21
      · rw [ex 18 (by decide) (by decide)]; exact f18
      · rw [ex 19 (by decide) (by decide)]; exact f19
    · show (x + (1 : Int32)).toInt = _
      rw [ad1 (by omega), h1]
      omega
    · omega
    · rw [rdA_eq rfl, ad1 (by omega), h4]
      omega
    · rw [rdA_eq rfl, ad1 (by omega)]
      omega
    · have en : (s 0 31).toNatClampNeg = (σ 0 31).toInt.toNat + k := nat_of (by rw [h4]; omega)
      rw [rdC_ne (by decide), en, rdA_ne (by omega)]
      exact h6 j hj
    · have en : (s 0 31).toNatClampNeg = (σ 0 31).toInt.toNat + k := nat_of (by rw [h4]; omega)
      have ex : x.toNatClampNeg = (σ 3 u).toInt.toNat + k := nat_of (by rw [h1]; omega)
      have es1 : s 1 = σ 1 := funext (fun j => (h3 1 j rfl rfl).trans (k0 1 j rfl rfl))
      rw [rdC_ne (by decide), en, ex, es1]
      by_cases cq : q = k
      · rw [rdA_eq (by omega), cq]
      · rw [rdA_ne (by omega)]
        exact h7 q (by omega)
  refine main _ (kp_a (kp_a (kp_a (kp_a (kp_a (kp_a (kp_f kp_rf rfl) rfl) rfl) rfl) rfl) rfl) rfl) ?_ (fun j => ?_) (fun j => ?_) (fun j => ?_) (fun j => ?_) (fun j => ?_) (fun j => ?_)
  · rw [rdC_ne (by decide), rdC_ne (by decide), rdC_ne (by decide), rdC_ne (by decide), rdC_ne (by decide), rdC_ne (by decide), rdA_eq rfl, ad1 (by omega), e2]
  · rw [rdC_ne (by decide), rdC_ne (by decide), rdC_ne (by decide), rdC_ne (by decide), rdC_ne (by decide), rdC_eq, rdC_ne (by decide)]
  · rw [rdC_ne (by decide), rdC_ne (by decide), rdC_ne (by decide), rdC_ne (by decide), rdC_eq, rdC_ne (by decide), rdC_ne (by decide)]
  · rw [rdC_ne (by decide), rdC_ne (by decide), rdC_ne (by decide), rdC_eq, rdC_ne (by decide), rdC_ne (by decide), rdC_ne (by decide)]
  · rw [rdC_ne (by decide), rdC_ne (by decide), rdC_eq, rdC_ne (by decide), rdC_ne (by decide), rdC_ne (by decide), rdC_ne (by decide)]
  · rw [rdC_ne (by decide), rdC_eq, rdC_ne (by decide), rdC_ne (by decide), rdC_ne (by decide), rdC_ne (by decide), rdC_ne (by decide)]
  · rw [rdC_eq, rdC_ne (by decide), rdC_ne (by decide), rdC_ne (by decide), rdC_ne (by decide), rdC_ne (by decide), rdC_ne (by decide)]
/-- may be declared once more -/
def JNm (σ : St) (e : Nat) (ty sz st ex : Int32) : Prop := ((σ 9 e).toInt = 1 ∧ (σ 10 e).toInt = ty.toInt ∧ ((σ 11 e).toInt < 0 ↔ sz.toInt < 0) ∧ (sz.toInt ≤ 0 ∨ (σ 11 e).toInt = 0 ∨ (σ 11 e).toInt = sz.toInt)) ∧ (σ 12 e).toInt = 0 ∧ st.toInt = 0 ∧ (ex.toInt ≠ 0 ∨ (σ 13 e).toInt = 0)
/-- what a name outside leaves; rr what it meant -/
def GNf (σ s : St) (lo m u : Nat) (v ty sz st ex : Int32) (rr : Int) : Prop :=
  (rr = -1 ∧ m = 100 ∧ v.toInt < 0 ∧ KFr σ s ∧ FTq σ s True)
  ∨ (rr = -1 ∧ m < 100 ∧ lo + m < 10000 ∧ v.toInt = ((lo + m : Nat) : Int) ∧ ∃ s1, DCf σ s1 u (lo + m) m 1 ∧ s = upC (upC (upC s1 10 (lo + m) ty) 11 (lo + m) sz) 12 (lo + m) (vp_nar .boolean st))
  ∨ ∃ r : Nat, rr = ((lo + r : Nat) : Int) ∧ r < m ∧ Kp [(0, 12), (0, 13)] [11] σ s ∧ FTq σ s (¬ JNm σ (lo + r) ty sz st ex) ∧ (∀ j, j ≠ lo + r → s 11 j = σ 11 j) ∧ (JNm σ (lo + r) ty sz st ex → s 11 (lo + r) = if 0 < sz.toInt then sz else σ 11 (lo + r)) ∧ ((σ 9 (lo + r)).toInt = 1 → v.toInt = ((lo + r : Nat) : Int)) ∧ ((σ 9 (lo + r)).toInt ≠ 1 → v.toInt < 0)
theorem mr_globalName (ha : a1.toInt = (u : Int)) (tu : TNm σ u) (hE : EOKm σ lo (lo + m)) (hm : m ≤ 100) (h0 : 0 ≤ (σ 0 12).toInt) (kk : ∀ rr v s, EFm σ lo (lo + m) u rr → GNf σ s lo m u v a2 a3 a4 a5 rr → Q v s τ vs) : pp_globalName a1 a2 a3 a4 a5 σ τ vs Q := by
  unfold pp_globalName
  refine mr_entity ha tu hE (fun v he => ⟨fun c rg => ?_, fun c => ?_⟩)
  · obtain ⟨r, hr, er⟩ : ∃ r : Nat, r < m ∧ v.toInt = ((lo + r : Nat) : Int) := by
      rcases he with ⟨e, h1, h2, h3, h4, h5⟩ | ⟨h1, h2⟩
      · exact ⟨e - lo, by omega, by omega⟩
      · omega
    have en : v.toNatClampNeg = lo + r := nat_of er
    rw [en]
    have h12 : ∀ (s : St) (t z y), Kp [(0, 12), (0, 13)] [11] σ s → t = τ → z = vs → FTq σ s (¬ JNm σ (lo + r) a2 a3 a4 a5) → (∀ j, j ≠ lo + r → s 11 j = σ 11 j) → (JNm σ (lo + r) a2 a3 a4 a5 → s 11 (lo + r) = if 0 < a3.toInt then a3 else σ 11 (lo + r)) → y = ((σ 9 (lo + r)).toInt) → ((y ≠ 1 → Q ((-1) : Int32) s t z) ∧ (y = 1 → Q v s t z)) := fun s t z y k et ez f h1 h2 ey => by
      rw [et, ez, ey]
      exact ⟨fun c9 => kk _ _ s he (Or.inr (Or.inr ⟨r, er, hr, k, f, h1, h2, fun h => absurd h c9, fun _ => by decide⟩)), fun c9 => kk _ _ s he (Or.inr (Or.inr ⟨r, er, hr, k, f, h1, h2, fun _ => er, fun h => absurd c9 h⟩))⟩
    refine ⟨fun y => (y.toInt ≠ 0 ↔ ((σ 9 (lo + r)).toInt = 1 ∧ (σ 10 (lo + r)).toInt = a2.toInt ∧ ((σ 11 (lo + r)).toInt < 0 ↔ a3.toInt < 0) ∧ (a3.toInt ≤ 0 ∨ (σ 11 (lo + r)).toInt = 0 ∨ (σ 11 (lo + r)).toInt = a3.toInt))), fun y0 _ hy => ?_, ¬ ((σ 9 (lo + r)).toInt = 1 ∧ (σ 10 (lo + r)).toInt = a2.toInt ∧ ((σ 11 (lo + r)).toInt < 0 ↔ a3.toInt < 0) ∧ (a3.toInt ≤ 0 ∨ (σ 11 (lo + r)).toInt = 0 ∨ (σ 11 (lo + r)).toInt = a3.toInt)), fun hj => ⟨fun hx => absurd rfl hx, fun hx => absurd hx hj⟩, fun c1 hx => c1 hx.1, fun c1 _ => ⟨fun c2 hx => c2 hx.2.1, fun c2 _ => ⟨fun y => (y.toInt = 0 ∨ y.toInt = 1) ∧ (y.toInt = 1 ↔ (σ 11 (lo + r)).toInt < 0), fun y92 _ h92 => ⟨fun y => (y.toInt = 0 ∨ y.toInt = 1) ∧ (y.toInt = 1 ↔ a3.toInt < 0), fun y101 _ h101 => ⟨fun c3 hx => ?_, fun c3 => ?_⟩, fun c3 => ⟨Or.inl rfl, ⟨fun h => absurd h (by decide), fun h => by omega⟩⟩, fun c3 => ⟨Or.inr rfl, ⟨fun _ => c3, fun _ => rfl⟩⟩⟩, fun c3 => ⟨Or.inl rfl, ⟨fun h => absurd h (by decide), fun h => by omega⟩⟩, fun c3 => ⟨Or.inr rfl, ⟨fun _ => c3, fun _ => rfl⟩⟩⟩⟩⟩
    · refine ⟨fun y => (y.toInt ≠ 0 ↔ JNm σ (lo + r) a2 a3 a4 a5), fun y1 _ hy1 => mr_must h0 (fun s178 k178 f178 => ?_), ¬ JNm σ (lo + r) a2 a3 a4 a5, fun hj => ⟨fun hx => absurd rfl hx, fun hx => absurd hx hj⟩, fun cy hx => (hy.2 hx.1) cy, fun cy _ => ⟨fun c1 hx => c1 hx.2.1, fun c1 => ⟨fun c2 hx => c2 hx.2.2.1, fun c2 => ⟨JNm σ (lo + r) a2 a3 a4 a5, fun hj => ⟨fun _ => hj, fun _ => by decide⟩, fun c3 => ⟨hy.1 cy, c1, c2, Or.inl c3⟩, fun c3 _ => ⟨fun c4 hx => hx.2.2.2.elim (fun h => h c3) (fun h => c4 h), fun c4 => ⟨hy.1 cy, c1, c2, Or.inr c4⟩⟩⟩⟩⟩⟩
      have fJ : FTq σ s178 (¬ JNm σ (lo + r) a2 a3 a4 a5) := ft_iff f178 ⟨fun h hx => (hy1.2 hx) h, fun h => Decidable.byContradiction (fun hx => h (hy1.1 hx))⟩
      refine ⟨fun s t z => t = τ ∧ z = vs ∧ Kp [(0, 12), (0, 13)] [11] σ s ∧ FTq σ s (¬ JNm σ (lo + r) a2 a3 a4 a5) ∧ (∀ j, j ≠ lo + r → s 11 j = σ 11 j) ∧ (JNm σ (lo + r) a2 a3 a4 a5 → s 11 (lo + r) = if 0 < a3.toInt then a3 else σ 11 (lo + r)), ?_, fun cy => ⟨rfl, rfl, kp_sub k178 rfl rfl, fJ, fun j _ => k178 11 j rfl rfl, fun hx => absurd cy (hy.2 hx.1)⟩, fun cy => ⟨fun c3 => ⟨rfl, rfl, kp_sub k178 rfl rfl, fJ, fun j _ => k178 11 j rfl rfl, fun hx => ?_⟩, fun c3 _ => ⟨rfl, rfl, kp_a (kp_sub k178 rfl rfl) rfl, ft_k fJ (by rw [rdC_ne (by decide)]), fun j hj => ?_, fun hx => ?_⟩⟩⟩
      · rintro s t z ⟨et, ez, k, f, g1, g2⟩
        exact fun _ => h12 s t z _ k et ez f g1 g2 (by rw [k 9 (lo + r) rfl rfl])
      · rw [k178 11 (lo + r) rfl rfl, if_neg (by omega)]
      · rw [rdA_ne hj]
        exact k178 11 j rfl rfl
      · rw [rdA_eq rfl, if_pos c3]
    · have := hx.2.2.1
      rcases h92.1 with q1 | q1
      · rcases h101.1 with q2 | q2
        · omega
        · have i1 := h92.2
          have i2 := h101.2
          have := i2.1 q2
          have : y92.toInt = 1 := i1.2 (hx.2.2.1.2 this)
          omega
      · have i1 := h92.2
        have i2 := h101.2
        have := i1.1 q1
        have : y101.toInt = 1 := i2.2 (hx.2.2.1.1 this)
        omega
    · have e3 : (σ 11 (lo + r)).toInt < 0 ↔ a3.toInt < 0 := by rw [← h92.2, ← h101.2, c3]
      refine ⟨(σ 9 (lo + r)).toInt = 1 ∧ (σ 10 (lo + r)).toInt = a2.toInt ∧ ((σ 11 (lo + r)).toInt < 0 ↔ a3.toInt < 0) ∧ (a3.toInt ≤ 0 ∨ (σ 11 (lo + r)).toInt = 0 ∨ (σ 11 (lo + r)).toInt = a3.toInt), fun hj => ⟨fun _ => hj, fun _ => by decide⟩, fun c4 => ⟨c1, c2, e3, Or.inl c4⟩, fun c4 _ => ⟨fun c5 => ⟨c1, c2, e3, Or.inr (Or.inl c5)⟩, fun c5 _ => ⟨fun c6 hx => ?_, fun c6 => ⟨c1, c2, e3, Or.inr (Or.inr c6)⟩⟩⟩⟩
      rcases hx.2.2.2 with h | h | h
      · omega
      · exact c5 h
      · exact c6 h
  · have hrr : v.toInt = -1 := by
      rcases he with ⟨e, h1, h2, h3, h4, h5⟩ | ⟨h1, h2⟩
      · omega
      · exact h2
    refine mr_declare ha tu hE hm h0 (fun e100 s k f => ⟨fun cx => absurd cx (by decide), fun _ => kk _ _ s he (Or.inl ⟨hrr, e100, by decide, k, f⟩)⟩) (fun hm1 hlm v15 s1 hv15 hd => ?_)
    have en : v15.toNatClampNeg = lo + m := nat_of hv15
    rw [en]
    exact ⟨fun _ _ _ _ => kk _ _ _ he (Or.inr (Or.inl ⟨hrr, hm1, hlm, hv15, s1, hd, rfl⟩)), fun cx => by omega⟩
/-- its cells -/
theorem mr_lay {Q : St → St → List Nat → Prop} (h0 : 0 ≤ (σ 0 12).toInt) (hv : a1.toInt = (r : Int)) (hD : (σ 0 37).toInt = (D : Int)) (hD9 : D ≤ 16000) (h3 : 1 ≤ a3.toInt ∧ a3.toInt ≤ 4000) (kk : ∀ s, Kp [(0, 12), (0, 13), (0, 37)] [13, 17] σ s → FTq σ s (16000 < (D : Int) + a3.toInt) → (∀ j, s 13 j = if j = r then 1 else σ 13 j) → ((D : Int) + a3.toInt ≤ 16000 → (s 0 37).toInt = (D : Int) + a3.toInt) → (16000 < (D : Int) + a3.toInt → s 0 37 = σ 0 37) → (∀ j, s 17 j = if j = r then σ 0 37 else σ 17 j) → Q s τ vs) : pp_lay a1 a2 a3 σ τ vs Q := by
  unfold pp_lay
  have er : a1.toNatClampNeg = r := nat_of hv
  have ed : ((σ 0 37) + a3).toInt = (D : Int) + a3.toInt := by rw [ad (by omega) (by omega), hD]
  have nb1 : vp_nar .boolean (1 : Int32) = 1 := rfl
  rw [er, ed, nb1]
  refine fun _ _ => ⟨fun c => kk _ (kp_f (kp_a (kp_a kp_rf rfl) rfl) rfl) (ft_iff (ft_same h0 ?_) ⟨False.elim, fun h => by omega⟩) (fun j => ?_) (fun _ => ?_) (fun h => by omega) (fun j => ?_), fun c => mr_tell ?_ (by decide) (fun s k f => kk s (kp_tr (b := upC (upC σ 13 r 1) 17 r (σ 0 37)) (kp_a (kp_a kp_rf rfl) rfl) (kp_sub k rfl rfl)) (ft_from ?_ ?_ (ft_iff f ⟨fun _ => c, fun _ => trivial⟩)) (fun j => ?_) (fun h => by omega) (fun _ => ?_) (fun j => ?_))⟩
  · rw [rdA_ne (by decide), rdC_ne (by decide), rdC_ne (by decide)]
  · rw [rdC_ne (by decide), rdC_ne (by decide), rdC_eq]
  · rw [rdA_eq rfl, ed]
  · rw [rdC_ne (by decide), rdC_eq, rdC_ne (by decide)]
  · rw [rdC_ne (by decide), rdC_ne (by decide)]
    exact h0
  · rw [rdC_ne (by decide), rdC_ne (by decide)]
  · rw [rdC_ne (by decide), rdC_ne (by decide)]
  · rw [k 13 j rfl rfl, rdC_ne (by decide), rdC_eq]
  · rw [k 0 37 rfl rfl, rdC_ne (by decide), rdC_ne (by decide)]
  · rw [k 17 j rfl rfl, rdC_eq, rdC_ne (by decide)]
end RGN
