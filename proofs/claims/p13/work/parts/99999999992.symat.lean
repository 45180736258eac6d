/-! a symbol by its number, both sides -/
/-- the s-th of n from lo on that has nothing; -1 -/
def SYq (f : Nat → Int) (lo n : Nat) (s d : Int) : Prop := (∃ i : Nat, i < n ∧ f (lo + i) = 0 ∧ ((czn f lo i : Nat) : Int) = s ∧ d = ((lo + i : Nat) : Int)) ∨ (((czn f lo n : Nat) : Int) ≤ s ∧ d = -1)
def SAw (w : St) (a b : Int32) (d : Int) : Prop := (¬ (1 ≤ a.toInt ∧ a.toInt ≤ (w 5 13).toInt ∧ 0 ≤ b.toInt) → d = -1) ∧ ∀ A : Nat, a.toInt = (A : Int) + 1 → a.toInt ≤ (w 5 13).toInt → 0 ≤ b.toInt → SYq (fun d => ((w 25 d) &&& 2).toInt) (w 34 A).toInt.toNat ((w 34 (A + 1)).toInt.toNat - (w 34 A).toInt.toNat) b.toInt d
def SAm (σ : St) (a b : Int32) (d : Int) : Prop := (¬ (1 ≤ a.toInt ∧ a.toInt ≤ (σ 0 35).toInt ∧ 0 ≤ b.toInt) → d = -1) ∧ ∀ A : Nat, a.toInt = (A : Int) + 1 → a.toInt ≤ (σ 0 35).toInt → 0 ≤ b.toInt → SYq (fun e => (σ 12 e).toInt) (σ 22 A).toInt.toNat ((σ 22 (A + 1)).toInt.toNat - (σ 22 A).toInt.toNat) b.toInt d
section SYA
variable {w σ s t τ : St} {vs z : List Nat} {a b x x2 x3 y : Int32} {o n lo lo2 N A i j : Nat} {f g : Nat → Int} {d d2 sm : Int}
theorem cz_mono : ∀ (n : Nat), i ≤ n → czn f lo i ≤ czn f lo n
  | 0, h => by rw [show i = 0 from by omega]; exact Nat.le_refl _
  | n + 1, h => by
    by_cases e : i = n + 1
    · rw [e]; exact Nat.le_refl _
    · have := cz_mono n (show i ≤ n by omega)
      rw [cz_s]
      omega
theorem cz_lt (h0 : f (lo + i) = 0) (h : i < n) : czn f lo i < czn f lo n := by
  have h1 : czn f lo (i + 1) = czn f lo i + 1 := by rw [cz_s, if_pos h0]
  have h2 := cz_mono (f := f) (lo := lo) (i := i + 1) n (by omega)
  omega
/-- alike on both sides -/
theorem sy_eq (hfg : ∀ i, i < n → (f (lo + i) = 0 ↔ g (lo2 + i) = 0)) (h1 : SYq f lo n sm d) (h2 : SYq g lo2 n sm d2) : (d = -1 ∧ d2 = -1) ∨ ∃ i : Nat, i < n ∧ f (lo + i) = 0 ∧ d = ((lo + i : Nat) : Int) ∧ d2 = ((lo2 + i : Nat) : Int) := by
  have ce : ∀ i, i ≤ n → czn f lo i = czn g lo2 i := fun i hi => cz_eq (fun j hj => hfg j (by omega))
  rcases h1 with ⟨i, i1, i2, i3, i4⟩ | ⟨i1, i2⟩
  · rcases h2 with ⟨j, j1, j2, j3, j4⟩ | ⟨j1, j2⟩
    · have e : i = j := by
        have ei := ce j (by omega)
        rcases Nat.lt_trichotomy i j with h | h | h
        · have := cz_lt i2 h
          omega
        · exact h
        · have := cz_lt ((hfg j j1).2 j2) h
          omega
      exact Or.inr ⟨i, i1, i2, i4, by rw [e]; exact j4⟩
    · have := cz_lt i2 i1
      have ei := ce n (Nat.le_refl _)
      omega
  · rcases h2 with ⟨j, j1, j2, j3, j4⟩ | ⟨j1, j2⟩
    · have := cz_lt j2 j1
      have ei := ce n (Nat.le_refl _)
      omega
    · exact Or.inl ⟨i2, j2⟩
theorem px_symbolAt {Q : Int32 → Prop} (h : IVx w o) (k : ∀ v : Int32, SAw w a b v.toInt → Q v) : pk_X8_symbolAt a b w Q := by
  obtain ⟨⟨h1, h1'⟩, h2, h3, -⟩ := h
  have d0 := de_le h2
  have e1 : (1 : Int32).toInt = 1 := i1
  have bad : ¬ (1 ≤ a.toInt ∧ a.toInt ≤ (w 5 13).toInt ∧ 0 ≤ b.toInt) → Q ((-1) : Int32) := fun hn => k _ ⟨fun _ => rfl, fun A hA hA2 hb => absurd ⟨by omega, hA2, hb⟩ hn⟩
  unfold pk_X8_symbolAt pk_X8_has
  -- what the walk over the declarations keeps
  have walk : ∀ y0 : Int32, ((¬ (1 ≤ a.toInt ∧ a.toInt ≤ (w 5 13).toInt ∧ 0 ≤ b.toInt) ∧ y0.toInt < 0) ∨ ((1 ≤ a.toInt ∧ a.toInt ≤ (w 5 13).toInt ∧ 0 ≤ b.toInt) ∧ y0 = b)) → pk_X8_firstOf a w (fun v20 => ∃ L25 : Int32 → Int32 → Prop, (L25 y0 v20) ∧ ∀ (x3_25 : Int32) (x4_25 : Int32), L25 x3_25 x4_25 → ((x3_25.toInt < 0 → (Q ((-1) : Int32))) ∧ (0 ≤ x3_25.toInt → (((atv 101 (w 34) a).toInt ≤ x4_25.toInt → (Q ((-1) : Int32))) ∧ (x4_25.toInt < (atv 101 (w 34) a).toInt → (pk_X8_is x4_25 (2 : Int32) w (fun v46 => ∃ J62 : Int32 → Prop, (∀ (x3_62 : Int32), J62 x3_62 → (L25 x3_62 (x4_25 + 1))) ∧ ((v46.toInt ≠ 0 → (J62 x3_25)) ∧ (v46.toInt = 0 → ((x3_25.toInt ≠ 0 → (J62 (x3_25 + (-1)))) ∧ (x3_25.toInt = 0 → (Q x4_25)))))))))))) := by
    intro y0 hy
    rcases hy with ⟨hn, hy⟩ | ⟨⟨g1, g2, g3⟩, hy⟩
    · have : ∀ v20 : Int32, ∃ L25 : Int32 → Int32 → Prop, (L25 y0 v20) ∧ ∀ (x3_25 : Int32) (x4_25 : Int32), L25 x3_25 x4_25 → ((x3_25.toInt < 0 → (Q ((-1) : Int32))) ∧ (0 ≤ x3_25.toInt → (((atv 101 (w 34) a).toInt ≤ x4_25.toInt → (Q ((-1) : Int32))) ∧ (x4_25.toInt < (atv 101 (w 34) a).toInt → (pk_X8_is x4_25 (2 : Int32) w (fun v46 => ∃ J62 : Int32 → Prop, (∀ (x3_62 : Int32), J62 x3_62 → (L25 x3_62 (x4_25 + 1))) ∧ ((v46.toInt ≠ 0 → (J62 x3_25)) ∧ (v46.toInt = 0 → ((x3_25.toInt ≠ 0 → (J62 (x3_25 + (-1)))) ∧ (x3_25.toInt = 0 → (Q x4_25))))))))))) := fun v20 => ⟨fun x _ => x.toInt < 0, hy, fun x3 x4 hx => ⟨fun _ => bad hn, fun c => absurd hx (by omega)⟩⟩
      unfold pk_X8_firstOf
      exact ⟨fun _ => this _, fun _ => this _⟩
    · subst hy
      obtain ⟨A, hA⟩ : ∃ A : Nat, a.toInt = (A : Int) + 1 := ⟨(a.toInt - 1).toNat, by omega⟩
      have hAo : A + 1 ≤ o := by omega
      have a34 : atv 101 (w 34) a = w 34 (A + 1) := atv_at (by rw [hA]; rfl) (by omega)
      have a33 : atv 101 (w 34) (a - (1 : Int32)) = w 34 A := atv_at (by rw [sb (by omega) (by omega), e1]; omega) (by omega)
      have q1 := d0 A (by omega)
      have q2 := d0 (A + 1) hAo
      have q3 := h2.2 A (by omega)
      have good : ∀ v : Int32, SYq (fun d => ((w 25 d) &&& 2).toInt) (w 34 A).toInt.toNat ((w 34 (A + 1)).toInt.toNat - (w 34 A).toInt.toNat) y0.toInt v.toInt → Q v := fun v hv => k v ⟨fun hn => absurd ⟨g1, g2, g3⟩ hn, fun B hB _ _ => by
        have : B = A := by omega
        rw [this]
        exact hv⟩
      have br := (s_rng y0).2
      unfold pk_X8_firstOf
      rw [a33, a34]
      refine ⟨fun _ => ?_, fun hx => by omega⟩
      refine ⟨fun x3 x4 => ∃ n : Nat, x4.toInt = (((w 34 A).toInt.toNat + n : Nat) : Int) ∧ n ≤ (w 34 (A + 1)).toInt.toNat - (w 34 A).toInt.toNat ∧ 0 ≤ x3.toInt ∧ x3.toInt + ((czn (fun d => ((w 25 d) &&& 2).toInt) (w 34 A).toInt.toNat n : Nat) : Int) = y0.toInt, ⟨0, by omega, Nat.zero_le _, g3, by show y0.toInt + ((0 : Nat) : Int) = _; omega⟩, ?_⟩
      rintro x3 x4 ⟨n, hx4, hn, hx0, hx3⟩
      refine ⟨fun c => by omega, fun _ => ⟨fun c => ?_, fun c => ?_⟩⟩
      · have en : n = (w 34 (A + 1)).toInt.toNat - (w 34 A).toInt.toNat := by omega
        rw [en] at hx3
        exact good _ (Or.inr ⟨by omega, rfl⟩)
      · have af : atv 10100 (w 25) x4 = w 25 ((w 34 A).toInt.toNat + n) := atv_at hx4 (by omega)
        refine xl_is (fun v _ hv => ⟨fun y => 0 ≤ y.toInt ∧ y.toInt + ((czn (fun d => ((w 25 d) &&& 2).toInt) (w 34 A).toInt.toNat (n + 1) : Nat) : Int) = y0.toInt, fun y hy => ⟨n + 1, ?_, by omega, hy⟩, fun hz => ?_, fun hz => ⟨fun c0 => ?_, fun c0 => ?_⟩⟩)
        · rw [ad1 (by omega), hx4]; rfl
        · rw [af] at hv
          rw [cz_s, if_neg (hv.1 hz)]
          exact ⟨hx0, hx3⟩
        · rw [af] at hv
          have z0 : ((w 25 ((w 34 A).toInt.toNat + n)) &&& 2).toInt = 0 := Classical.byContradiction (fun hc => (hv.2 hc) hz)
          rw [dc1 (by omega), cz_s, if_pos z0]
          omega
        · rw [af] at hv
          have z0 : ((w 25 ((w 34 A).toInt.toNat + n)) &&& 2).toInt = 0 := Classical.byContradiction (fun hc => (hv.2 hc) hz)
          exact good _ (Or.inl ⟨n, by omega, z0, by omega, hx4⟩)
  refine ⟨fun c => ?_, fun c1 => ⟨fun c => ?_, fun c2 => ?_⟩⟩
  · exact ⟨fun y => y.toInt < 0, fun y hy => walk y (Or.inl ⟨by omega, hy⟩), True, fun _ => by decide, fun _ => trivial, fun hx => absurd rfl hx⟩
  · exact ⟨fun y => y.toInt < 0, fun y hy => walk y (Or.inl ⟨by omega, hy⟩), True, fun _ => by decide, fun _ => trivial, fun hx => absurd rfl hx⟩
  · by_cases hb : 0 ≤ b.toInt
    · exact ⟨fun y => y = b, fun y hy => walk y (Or.inr ⟨⟨c1, c2, hb⟩, hy⟩), False, fun hx => hx.elim, fun hx => absurd hx (by decide), fun _ => ⟨fun hx => by omega, fun _ => rfl⟩⟩
    · exact ⟨fun y => y.toInt < 0, fun y hy => walk y (Or.inl ⟨by omega, hy⟩), True, fun _ => by decide, fun hx => absurd hx (by decide), fun _ => ⟨fun _ => trivial, fun hx => absurd hx hb⟩⟩
theorem rx_symbolAt {Q : Int32 → Prop} (h : GLI σ τ vs) (hd : ∀ A : Nat, ((A : Int) + 1) ≤ (σ 0 35).toInt → 0 ≤ (σ 22 A).toInt ∧ (σ 22 A).toInt ≤ (σ 22 (A + 1)).toInt ∧ (σ 22 (A + 1)).toInt ≤ 10000) (k : ∀ v : Int32, SAm σ a b v.toInt → Q v) : pp_symbolAt a b σ τ vs Q := by
  obtain ⟨⟨-, ⟨o1, o2⟩, -⟩, -⟩ := h
  have e1 : (1 : Int32).toInt = 1 := i1
  have bad : ¬ (1 ≤ a.toInt ∧ a.toInt ≤ (σ 0 35).toInt ∧ 0 ≤ b.toInt) → Q ((-1) : Int32) := fun hn => k _ ⟨fun _ => rfl, fun A hA hA2 hb => absurd ⟨by omega, hA2, hb⟩ hn⟩
  unfold pp_symbolAt pp_isObject
  refine ⟨fun c => ⟨fun _ => bad (by omega), fun hx => absurd rfl hx⟩, fun c1 => ⟨fun c2 => ⟨fun _ => bad (by omega), fun hx => absurd rfl hx⟩, fun c2 => ⟨fun hx => absurd hx (by decide), fun _ => ⟨fun hb => ?_, fun hb => bad (by omega)⟩⟩⟩⟩
  obtain ⟨A, hA⟩ : ∃ A : Nat, a.toInt = (A : Int) + 1 := ⟨(a.toInt - 1).toNat, by omega⟩
  have na1 : (a - (1 : Int32)).toNatClampNeg = A := nat_of (by rw [sb (by omega) (by omega), e1]; omega)
  have na : a.toNatClampNeg = A + 1 := nat_of (by rw [hA]; rfl)
  obtain ⟨q1, q2, q3⟩ := hd A (by omega)
  have good : ∀ v : Int32, SYq (fun e => (σ 12 e).toInt) (σ 22 A).toInt.toNat ((σ 22 (A + 1)).toInt.toNat - (σ 22 A).toInt.toNat) b.toInt v.toInt → Q v := fun v hv => k v ⟨fun hn => absurd ⟨c1, c2, hb⟩ hn, fun B hB _ _ => by
    have : B = A := by omega
    rw [this]
    exact hv⟩
  have br := (s_rng b).2
  rw [na1, na]
  refine fun _ => ⟨fun x3 x4 => ∃ n : Nat, x4.toInt = (((σ 22 A).toInt.toNat + n : Nat) : Int) ∧ n ≤ (σ 22 (A + 1)).toInt.toNat - (σ 22 A).toInt.toNat ∧ 0 ≤ x3.toInt ∧ x3.toInt + ((czn (fun e => (σ 12 e).toInt) (σ 22 A).toInt.toNat n : Nat) : Int) = b.toInt, ⟨0, by omega, Nat.zero_le _, hb, by show b.toInt + ((0 : Nat) : Int) = _; omega⟩, ?_⟩
  rintro x3 x4 ⟨n, hx4, hn, hx0, hx3⟩
  refine fun _ => ⟨fun c => ?_, fun c _ => ?_⟩
  · have en : n = (σ 22 (A + 1)).toInt.toNat - (σ 22 A).toInt.toNat := by omega
    rw [en] at hx3
    exact good _ (Or.inr ⟨by omega, rfl⟩)
  · have n4 : x4.toNatClampNeg = (σ 22 A).toInt.toNat + n := nat_of hx4
    rw [n4]
    refine ⟨fun y => 0 ≤ y.toInt ∧ y.toInt + ((czn (fun e => (σ 12 e).toInt) (σ 22 A).toInt.toNat (n + 1) : Nat) : Int) = b.toInt, fun y hy => ⟨n + 1, ?_, by omega, hy⟩, fun hz => ⟨fun c0 => ?_, fun c0 => ?_⟩, fun hz => ?_⟩
    · rw [ad1 (by omega), hx4]; rfl
    · dsimp only
      rw [dc1 (by omega), cz_s, if_pos hz]
      omega
    · exact good _ (Or.inl ⟨n, by omega, hz, by omega, hx4⟩)
    · rw [cz_s, if_neg hz]
      exact ⟨hx0, hx3⟩
/-- the same symbol on both sides -/
theorem sa_eq {v v2 : Int32} (h : IVx w o) (r : RLp w σ) (re : RLe w σ) (c : SAw w a b v.toInt) (m : SAm σ a b v2.toInt) : (v.toInt = -1 ∧ v2.toInt = -1) ∨ ∃ e : Nat, (e : Int) < (σ 0 36).toInt ∧ v.toInt = ((e + 4 : Nat) : Int) ∧ v2.toInt = (e : Int) := by
  obtain ⟨⟨h1, h1'⟩, h2, h3, -⟩ := h
  have d0 := de_le h2
  have e35 := r.1
  by_cases hv : 1 ≤ a.toInt ∧ a.toInt ≤ (w 5 13).toInt ∧ 0 ≤ b.toInt
  · obtain ⟨A, hA⟩ : ∃ A : Nat, a.toInt = (A : Int) + 1 := ⟨(a.toInt - 1).toNat, by omega⟩
    have c1 := c.2 A hA hv.2.1 hv.2.2
    have m1 := m.2 A hA (by omega) hv.2.2
    have hAo : A + 1 ≤ o := by omega
    have w1 := re.1 A (by omega)
    have w2 := re.1 (A + 1) (by omega)
    have mo := de_mono h2 (Nat.le_refl o) (A + 1) hAo
    have q1 := d0 A (by omega)
    have q3 := h2.2 A (by omega)
    have r2 := r.2.1
    have en : (w 34 (A + 1)).toInt.toNat - (w 34 A).toInt.toNat = (σ 22 (A + 1)).toInt.toNat - (σ 22 A).toInt.toNat := by omega
    rw [en] at c1
    have hq : ∀ i, i < (σ 22 (A + 1)).toInt.toNat - (σ 22 A).toInt.toNat → (((fun d => ((w 25 d) &&& 2).toInt) ((w 34 A).toInt.toNat + i)) = 0 ↔ ((fun e => (σ 12 e).toInt) ((σ 22 A).toInt.toNat + i)) = 0) := fun i hi => by
      have he : (((σ 22 A).toInt.toNat + i : Nat) : Int) < (σ 0 36).toInt := by omega
      have q := (re.2.2 _ he).2.1
      have ei : (w 34 A).toInt.toNat + i = (σ 22 A).toInt.toNat + i + 4 := by omega
      show ((w 25 ((w 34 A).toInt.toNat + i)) &&& 2).toInt = 0 ↔ (σ 12 ((σ 22 A).toInt.toNat + i)).toInt = 0
      rw [ei]
      unfold FLq at q
      exact ⟨fun hz => Classical.byContradiction (fun hc => (q.2 hc) hz), fun hz => Classical.byContradiction (fun hc => (q.1 hc) hz)⟩
    rcases sy_eq hq c1 m1 with h | ⟨i, i1, i2, i3, i4⟩
    · exact Or.inl h
    · exact Or.inr ⟨(σ 22 A).toInt.toNat + i, by omega, by rw [i3]; omega, i4⟩
  · exact Or.inl ⟨c.1 hv, m.1 (by rw [← e35]; exact hv)⟩
end SYA
