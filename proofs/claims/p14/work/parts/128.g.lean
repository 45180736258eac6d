section
/-! a symbol by its number, both sides -/
/-- the s-th of n from lo on that has nothing; -1 -/
def SYq (f : Nat → Int) (lo n : Nat) (s d : Int) : Prop := (∃ i : Nat, i < n ∧ f (lo + i) = 0 ∧ ((czn f lo i : Nat) : Int) = s ∧ d = ((lo + i : Nat) : Int)) ∨ (((czn f lo n : Nat) : Int) ≤ s ∧ d = -1)
def SAw (w : St) (a b : Int32) (d : Int) : Prop := (¬ (1 ≤ a.toInt ∧ a.toInt ≤ (w 5 13).toInt ∧ 0 ≤ b.toInt) → d = -1) ∧ ∀ A : Nat, a.toInt = (A : Int) + 1 → a.toInt ≤ (w 5 13).toInt → 0 ≤ b.toInt → SYq (fun d => ((w 25 d) &&& 2).toInt) (w 34 A).toInt.toNat ((w 34 (A + 1)).toInt.toNat - (w 34 A).toInt.toNat) b.toInt d
def SAm (σ : St) (a b : Int32) (d : Int) : Prop := (¬ (1 ≤ a.toInt ∧ a.toInt ≤ (σ 0 35).toInt ∧ 0 ≤ b.toInt) → d = -1) ∧ ∀ A : Nat, a.toInt = (A : Int) + 1 → a.toInt ≤ (σ 0 35).toInt → 0 ≤ b.toInt → SYq (fun e => (σ 12 e).toInt) (σ 22 A).toInt.toNat ((σ 22 (A + 1)).toInt.toNat - (σ 22 A).toInt.toNat) b.toInt d
section SYA
variable {w σ s t τ : St} {vs z : List Nat} {a b x x2 x3 y : Int32} {o n lo lo2 N A i j : Nat} {f g : Nat → Int} {d d2 sm : Int}
theorem cz_mono : ∀ (n : Nat), i ≤ n → czn f lo i ≤ czn f lo n
  | 0, h => by rw [show i = 0 from by omega]; exact Nat.le_refl _
  | n + 1, h => by
    by_cases e : i = n + 1
    · rw [e]; exact Nat.le_refl _
    · have := cz_mono n (show i ≤ n by omega)
      rw [cz_s]
      omega
theorem cz_lt (h0 : f (lo + i) = 0) (h : i < n) : czn f lo i < czn f lo n := by
  have h1 : czn f lo (i + 1) = czn f lo i + 1 := by rw [cz_s, if_pos h0]
  have h2 := cz_mono (f := f) (lo := lo) (i := i + 1) n (by omega)
  omega
/-- alike on both sides -/
theorem sy_eq (hfg : ∀ i, i < n → (f (lo + i) = 0 ↔ g (lo2 + i) = 0)) (h1 : SYq f lo n sm d) (h2 : SYq g lo2 n sm d2) : (d = -1 ∧ d2 = -1) ∨ ∃ i : Nat, i < n ∧ f (lo + i) = 0 ∧ d = ((lo + i : Nat) : Int) ∧ d2 = ((lo2 + i : Nat) : Int) := by
  have ce : ∀ i, i ≤ n → czn f lo i = czn g lo2 i := fun i hi => cz_eq (fun j hj => hfg j (by omega))
  rcases h1 with ⟨i, i1, i2, i3, i4⟩ | ⟨i1, i2⟩
  · rcases h2 with ⟨j, j1, j2, j3, j4⟩ | ⟨j1, j2⟩
    · have e : i = j := by
        have ei := ce j (by omega)
        rcases Nat.lt_trichotomy i j with h | h | h
        · have := cz_lt i2 h
          omega
        · exact h
        · have := cz_lt ((hfg j j1).2 j2) h
          omega
      exact Or.inr ⟨i, i1, i2, i4, by rw [e]; exact j4⟩
    · have := cz_lt i2 i1
      have ei := ce n (Nat.le_refl _)
      omega
  · rcases h2 with ⟨j, j1, j2, j3, j4⟩ | ⟨j1, j2⟩
    · have := cz_lt j2 j1
      have ei := ce n (Nat.le_refl _)
      omega
    · exact Or.inl ⟨i2, j2⟩
theorem px_symbolAt {Q : Int32 → Prop} (h : IVx w o) (k : ∀ v : Int32, SAw w a b v.toInt → Q v) : pk_X8_symbolAt a b w Q := by
  obtain ⟨⟨h1, h1'⟩, h2, h3, -⟩ := h
  have d0 := de_le h2
  have e1 : (1 : Int32).toInt = 1 := i1
  have bad : ¬ (1 ≤ a.toInt ∧ a.toInt ≤ (w 5 13).toInt ∧ 0 ≤ b.toInt) → Q ((-1) : Int32) := fun hn => k _ ⟨fun _ => rfl, fun A hA hA2 hb => absurd ⟨by omega, hA2, hb⟩ hn⟩
  unfold pk_X8_symbolAt pk_X8_has
  -- what the walk over the declarations keeps
  have walk : ∀ y0 : Int32, ((¬ (1 ≤ a.toInt ∧ a.toInt ≤ (w 5 13).toInt ∧ 0 ≤ b.toInt) ∧ y0.toInt < 0) ∨ ((1 ≤ a.toInt ∧ a.toInt ≤ (w 5 13).toInt ∧ 0 ≤ b.toInt) ∧ y0 = b)) → pk_X8_firstOf a w (fun v20 => ∃ L25 : Int32 → Int32 → Prop, (L25 y0 v20) ∧ ∀ (x3_25 : Int32) (x4_25 : Int32), L25 x3_25 x4_25 → ((x3_25.toInt < 0 → (Q ((-1) : Int32))) ∧ (0 ≤ x3_25.toInt → (((atv 101 (w 34) a).toInt ≤ x4_25.toInt → (Q ((-1) : Int32))) ∧ (x4_25.toInt < (atv 101 (w 34) a).toInt → (pk_X8_is x4_25 (2 : Int32) w (fun v46 => ∃ J62 : Int32 → Prop, (∀ (x3_62 : Int32), J62 x3_62 → (L25 x3_62 (x4_25 + 1))) ∧ ((v46.toInt ≠ 0 → (J62 x3_25)) ∧ (v46.toInt = 0 → ((x3_25.toInt ≠ 0 → (J62 (x3_25 + (-1)))) ∧ (x3_25.toInt = 0 → (Q x4_25)))))))))))) := by
    intro y0 hy
    rcases hy with ⟨hn, hy⟩ | ⟨⟨g1, g2, g3⟩, hy⟩
    · have : ∀ v20 : Int32, ∃ L25 : Int32 → Int32 → Prop, (L25 y0 v20) ∧ ∀ (x3_25 : Int32) (x4_25 : Int32), L25 x3_25 x4_25 → ((x3_25.toInt < 0 → (Q ((-1) : Int32))) ∧ (0 ≤ x3_25.toInt → (((atv 101 (w 34) a).toInt ≤ x4_25.toInt → (Q ((-1) : Int32))) ∧ (x4_25.toInt < (atv 101 (w 34) a).toInt → (pk_X8_is x4_25 (2 : Int32) w (fun v46 => ∃ J62 : Int32 → Prop, (∀ (x3_62 : Int32), J62 x3_62 → (L25 x3_62 (x4_25 + 1))) ∧ ((v46.toInt ≠ 0 → (J62 x3_25)) ∧ (v46.toInt = 0 → ((x3_25.toInt ≠ 0 → (J62 (x3_25 + (-1)))) ∧ (x3_25.toInt = 0 → (Q x4_25))))))))))) := fun v20 => ⟨fun x _ => x.toInt < 0, hy, fun x3 x4 hx => ⟨fun _ => bad hn, fun c => absurd hx (by omega)⟩⟩
      unfold pk_X8_firstOf
      exact ⟨fun _ => this _, fun _ => this _⟩
    · subst hy
      obtain ⟨A, hA⟩ : ∃ A : Nat, a.toInt = (A : Int) + 1 := ⟨(a.toInt - 1).toNat, by omega⟩
      have hAo : A + 1 ≤ o := by omega
      have a34 : atv 101 (w 34) a = w 34 (A + 1) := atv_at (by rw [hA]; rfl) (by omega)
      have a33 : atv 101 (w 34) (a - (1 : Int32)) = w 34 A := atv_at (by rw [sb (by omega) (by omega), e1]; omega) (by omega)
      have q1 := d0 A (by omega)
      have q2 := d0 (A + 1) hAo
      have q3 := h2.2 A (by omega)
      have good : ∀ v : Int32, SYq (fun d => ((w 25 d) &&& 2).toInt) (w 34 A).toInt.toNat ((w 34 (A + 1)).toInt.toNat - (w 34 A).toInt.toNat) y0.toInt v.toInt → Q v := fun v hv => k v ⟨fun hn => absurd ⟨g1, g2, g3⟩ hn, fun B hB _ _ => by
        have : B = A := by omega
        rw [this]
        exact hv⟩
      have br := (s_rng y0).2
      unfold pk_X8_firstOf
      rw [a33, a34]
      refine ⟨fun _ => ?_, fun hx => by omega⟩
      refine ⟨fun x3 x4 => ∃ n : Nat, x4.toInt = (((w 34 A).toInt.toNat + n : Nat) : Int) ∧ n ≤ (w 34 (A + 1)).toInt.toNat - (w 34 A).toInt.toNat ∧ 0 ≤ x3.toInt ∧ x3.toInt + ((czn (fun d => ((w 25 d) &&& 2).toInt) (w 34 A).toInt.toNat n : Nat) : Int) = y0.toInt, ⟨0, by omega, Nat.zero_le _, g3, by show y0.toInt + ((0 : Nat) : Int) = _; omega⟩, ?_⟩
      rintro x3 x4 ⟨n, hx4, hn, hx0, hx3⟩
      refine ⟨fun c => by omega, fun _ => ⟨fun c => ?_, fun c => ?_⟩⟩
      · have en : n = (w 34 (A + 1)).toInt.toNat - (w 34 A).toInt.toNat := by omega
        rw [en] at hx3
        exact good _ (Or.inr ⟨by omega, rfl⟩)
      · have af : atv 10100 (w 25) x4 = w 25 ((w 34 A).toInt.toNat + n) := atv_at hx4 (by omega)
        refine xl_is (fun v _ hv => ⟨fun y => 0 ≤ y.toInt ∧ y.toInt + ((czn (fun d => ((w 25 d) &&& 2).toInt) (w 34 A).toInt.toNat (n + 1) : Nat) : Int) = y0.toInt, fun y hy => ⟨n + 1, ?_, by omega, hy⟩, fun hz => ?_, fun hz => ⟨fun c0 => ?_, fun c0 => ?_⟩⟩)
        · rw [ad1 (by omega), hx4]; rfl
        · rw [af] at hv
          rw [cz_s, if_neg (hv.1 hz)]
          exact ⟨hx0, hx3⟩
        · rw [af] at hv
          have z0 : ((w 25 ((w 34 A).toInt.toNat + n)) &&& 2).toInt = 0 := Classical.byContradiction (fun hc => (hv.2 hc) hz)
          rw [dc1 (by omega), cz_s, if_pos z0]
          omega
        · rw [af] at hv
          have z0 : ((w 25 ((w 34 A).toInt.toNat + n)) &&& 2).toInt = 0 := Classical.byContradiction (fun hc => (hv.2 hc) hz)
          exact good _ (Or.inl ⟨n, by omega, z0, by omega, hx4⟩)
  refine ⟨fun c => ?_, fun c1 => ⟨fun c => ?_, fun c2 => ?_⟩⟩
  · exact ⟨fun y => y.toInt < 0, fun y hy => walk y (Or.inl ⟨by omega, hy⟩), True, fun _ => by decide, fun _ => trivial, fun hx => absurd rfl hx⟩
  · exact ⟨fun y => y.toInt < 0, fun y hy => walk y (Or.inl ⟨by omega, hy⟩), True, fun _ => by decide, fun _ => trivial, fun hx => absurd rfl hx⟩
  · by_cases hb : 0 ≤ b.toInt
    · exact ⟨fun y => y = b, fun y hy => walk y (Or.inr ⟨⟨c1, c2, hb⟩, hy⟩), False, fun hx => hx.elim, fun hx => absurd hx (by decide), fun _ => ⟨fun hx => by omega, fun _ => rfl⟩⟩
    · exact ⟨fun y => y.toInt < 0, fun y hy => walk y (Or.inl ⟨by omega, hy⟩), True, fun _ => by decide, fun hx => absurd hx (by decide), fun _ => ⟨fun _ => trivial, fun hx => absurd hx hb⟩⟩
theorem rx_symbolAt {Q : Int32 → Prop} (h : GLI σ τ vs) (hd : ∀ A : Nat, ((A : Int) + 1) ≤ (σ 0 35).toInt → 0 ≤ (σ 22 A).toInt ∧ (σ 22 A).toInt ≤ (σ 22 (A + 1)).toInt ∧ (σ 22 (A + 1)).toInt ≤ 10000) (k : ∀ v : Int32, SAm σ a b v.toInt → Q v) : pp_symbolAt a b σ τ vs Q := by
  obtain ⟨⟨-, ⟨o1, o2⟩, -⟩, -⟩ := h
  have e1 : (1 : Int32).toInt = 1 := i1
  have bad : ¬ (1 ≤ a.toInt ∧ a.toInt ≤ (σ 0 35).toInt ∧ 0 ≤ b.toInt) → Q ((-1) : Int32) := fun hn => k _ ⟨fun _ => rfl, fun A hA hA2 hb => absurd ⟨by omega, hA2, hb⟩ hn⟩
  unfold pp_symbolAt pp_isObject
  refine ⟨fun c => ⟨fun _ => bad (by omega), fun hx => absurd rfl hx⟩, fun c1 => ⟨fun c2 => ⟨fun _ => bad (by omega), fun hx => absurd rfl hx⟩, fun c2 => ⟨fun hx => absurd hx (by decide), fun _ => ⟨fun hb => ?_, fun hb => bad (by omega)⟩⟩⟩⟩
  obtain ⟨A, hA⟩ : ∃ A : Nat, a.toInt = (A : Int) + 1 := ⟨(a.toInt - 1).toNat, by omega⟩
  have na1 : (a - (1 : Int32)).toNatClampNeg = A := nat_of (by rw [sb (by omega) (by omega), e1]; omega)
  have na : a.toNatClampNeg = A + 1 := nat_of (by rw [hA]; rfl)
  obtain ⟨q1, q2, q3⟩ := hd A (by omega)
  have good : ∀ v : Int32, SYq (fun e => (σ 12 e).toInt) (σ 22 A).toInt.toNat ((σ 22 (A + 1)).toInt.toNat - (σ 22 A).toInt.toNat) b.toInt v.toInt → Q v := fun v hv => k v ⟨fun hn => absurd ⟨c1, c2, hb⟩ hn, fun B hB _ _ => by
    have : B = A := by omega
    rw [this]
    exact hv⟩
  have br := (s_rng b).2
  rw [na1, na]
  refine fun _ => ⟨fun x3 x4 => ∃ n : Nat, x4.toInt = (((σ 22 A).toInt.toNat + n : Nat) : Int) ∧ n ≤ (σ 22 (A + 1)).toInt.toNat - (σ 22 A).toInt.toNat ∧ 0 ≤ x3.toInt ∧ x3.toInt + ((czn (fun e => (σ 12 e).toInt) (σ 22 A).toInt.toNat n : Nat) : Int) = b.toInt, ⟨0, by omega, Nat.zero_le _, hb, by show b.toInt + ((0 : Nat) : Int) = _; omega⟩, ?_⟩
  rintro x3 x4 ⟨n, hx4, hn, hx0, hx3⟩
  refine fun _ => ⟨fun c => ?_, fun c _ => ?_⟩
  · have en : n = (σ 22 (A + 1)).toInt.toNat - (σ 22 A).toInt.toNat := by omega
    rw [en] at hx3
    exact good _ (Or.inr ⟨by omega, rfl⟩)
  · have n4 : x4.toNatClampNeg = (σ 22 A).toInt.toNat + n := nat_of hx4
    rw [n4]
    refine ⟨fun y => 0 ≤ y.toInt ∧ y.toInt + ((czn (fun e => (σ 12 e).toInt) (σ 22 A).toInt.toNat (n + 1) : Nat) : Int) = b.toInt, fun y hy => ⟨n + 1, ?_, by omega, hy⟩, fun hz => ⟨fun c0 => ?_, fun c0 => ?_⟩, fun hz => ?_⟩
    · rw [ad1 (by omega), hx4]; rfl
    · dsimp only
      rw [dc1 (by omega), cz_s, if_pos hz]
      omega
    · exact good _ (Or.inl ⟨n, by omega, hz, by omega, hx4⟩)
    · rw [cz_s, if_neg hz]
      exact ⟨hx0, hx3⟩
/-- the same symbol on both sides -/
theorem sa_eq {v v2 : Int32} (h : IVx w o) (r : RLp w σ) (re : RLe w σ) (c : SAw w a b v.toInt) (m : SAm σ a b v2.toInt) : (v.toInt = -1 ∧ v2.toInt = -1) ∨ ∃ e : Nat, (e : Int) < (σ 0 36).toInt ∧ v.toInt = ((e + 4 : Nat) : Int) ∧ v2.toInt = (e : Int) := by
  obtain ⟨⟨h1, h1'⟩, h2, h3, -⟩ := h
  have d0 := de_le h2
  have e35 := r.1
  by_cases hv : 1 ≤ a.toInt ∧ a.toInt ≤ (w 5 13).toInt ∧ 0 ≤ b.toInt
  · obtain ⟨A, hA⟩ : ∃ A : Nat, a.toInt = (A : Int) + 1 := ⟨(a.toInt - 1).toNat, by omega⟩
    have c1 := c.2 A hA hv.2.1 hv.2.2
    have m1 := m.2 A hA (by omega) hv.2.2
    have hAo : A + 1 ≤ o := by omega
    have w1 := re.1 A (by omega)
    have w2 := re.1 (A + 1) (by omega)
    have mo := de_mono h2 (Nat.le_refl o) (A + 1) hAo
    have q1 := d0 A (by omega)
    have q3 := h2.2 A (by omega)
    have r2 := r.2.1
    have en : (w 34 (A + 1)).toInt.toNat - (w 34 A).toInt.toNat = (σ 22 (A + 1)).toInt.toNat - (σ 22 A).toInt.toNat := by omega
    rw [en] at c1
    have hq : ∀ i, i < (σ 22 (A + 1)).toInt.toNat - (σ 22 A).toInt.toNat → (((fun d => ((w 25 d) &&& 2).toInt) ((w 34 A).toInt.toNat + i)) = 0 ↔ ((fun e => (σ 12 e).toInt) ((σ 22 A).toInt.toNat + i)) = 0) := fun i hi => by
      have he : (((σ 22 A).toInt.toNat + i : Nat) : Int) < (σ 0 36).toInt := by omega
      have q := (re.2.2 _ he).2.1
      have ei : (w 34 A).toInt.toNat + i = (σ 22 A).toInt.toNat + i + 4 := by omega
      show ((w 25 ((w 34 A).toInt.toNat + i)) &&& 2).toInt = 0 ↔ (σ 12 ((σ 22 A).toInt.toNat + i)).toInt = 0
      rw [ei]
      unfold FLq at q
      exact ⟨fun hz => Classical.byContradiction (fun hc => (q.2 hc) hz), fun hz => Classical.byContradiction (fun hc => (q.1 hc) hz)⟩
    rcases sy_eq hq c1 m1 with h | ⟨i, i1, i2, i3, i4⟩
    · exact Or.inl h
    · exact Or.inr ⟨(σ 22 A).toInt.toNat + i, by omega, by rw [i3]; omega, i4⟩
  · exact Or.inl ⟨c.1 hv, m.1 (by rw [← e35]; exact hv)⟩
end SYA
end

section
/-! all of what is declared, alike on both sides; names' bytes -/
def LIBx (w : St) : Prop := (∀ d, d < 4 → w 25 d = sc0 25 d ∧ w 26 d = sc0 26 d ∧ w 27 d = sc0 27 d ∧ w 28 d = sc0 28 d ∧ w 29 d = sc0 29 d) ∧ ∀ i, i < 15 → w 30 i = sc0 30 i
/-- a name -/
def NAq (w σ : St) (e : Nat) : Prop := (w 29 (e + 4)).toInt - (w 29 (e + 3)).toInt = (σ 19 e).toInt ∧ 0 ≤ (σ 19 e).toInt ∧ 0 ≤ (w 29 (e + 3)).toInt ∧ 0 ≤ (σ 18 e).toInt ∧ (w 29 (e + 4)).toInt ≤ (w 5 7).toInt ∧ (σ 18 e).toInt + (σ 19 e).toInt ≤ (σ 0 31).toInt ∧ ∀ k : Nat, (k : Int) < (σ 19 e).toInt → (w 30 ((w 29 (e + 3)).toInt.toNat + k)).toInt = (σ 20 ((σ 18 e).toInt.toNat + k)).toInt ∧ 48 ≤ (σ 20 ((σ 18 e).toInt.toNat + k)).toInt ∧ (σ 20 ((σ 18 e).toInt.toNat + k)).toInt ≤ 122
/-- one that is declared: type, use, size or signature, name -/
def EAr (w σ : St) (e : Nat) : Prop := (w 26 (e + 4)).toInt = (σ 10 e).toInt ∧ (FLq w (e + 4) 8 ↔ (σ 14 e).toInt ≠ 0) ∧ (¬ FLq w (e + 4) 1 → (w 27 (e + 4)).toInt = (σ 11 e).toInt ∧ -1 ≤ (w 27 (e + 4)).toInt) ∧ (FLq w (e + 4) 1 → sgN (w 27 (e + 4)) = (σ 15 e).toInt ∧ (σ 15 e).toInt ≤ 8 ∧ (∀ k : Int32, 0 ≤ k.toInt → k.toInt < (σ 15 e).toInt → sgT (w 27 (e + 4)) k = (σ 16 (8 * e + k.toInt.toNat)).toInt) ∧ ∃ l : List (Nat × Nat), l.length ≤ 8 ∧ (∀ x, x ∈ l → x.1 ≤ 6) ∧ (w 27 (e + 4)).toInt = sgI l) ∧ NAq w σ e
/-- two names are one -/
def SAMm (σ : St) (e f : Nat) : Prop := (σ 19 e).toInt = (σ 19 f).toInt ∧ ∀ k : Nat, (k : Int) < (σ 19 e).toInt → (σ 20 ((σ 18 e).toInt.toNat + k)).toInt = (σ 20 ((σ 18 f).toInt.toNat + k)).toInt
/-- in a unit all names differ -/
def DSTm (σ : St) : Prop := ∀ A : Nat, (A : Int) < (σ 0 35).toInt → ∀ e f : Nat, (σ 22 A).toInt ≤ e → e < f → (f : Int) < (σ 22 (A + 1)).toInt → ¬ SAMm σ e f
def RLf (w σ : St) : Prop := LIBx w ∧ (∀ e : Nat, (e : Int) < (σ 0 36).toInt → EAr w σ e) ∧ DSTm σ ∧ B13 σ
section RLF
variable {w σ s t : St} {e f n j : Nat} {k v x : Int32} {p q en N i c : Int} {g : Nat → Int32} {b : Int → Int} {y : TSq}
theorem tok_nd (h : TOKq b p k v en) (hk : k.toInt = 2) : ∀ i, p ≤ i → i < p + v.toInt → NDq (b i) := by
  unfold TOKq at h
  by_cases c1 : LTq (b p)
  · rw [if_pos c1] at h
    obtain ⟨h1, h2, h3, h4⟩ := h
    intro i a1 a2
    exact h1.2.1 i a1 (by omega)
  · rw [if_neg c1] at h
    exfalso
    by_cases c2 : DGq (b p)
    · rw [if_pos c2] at h
      by_cases c3 : HSq b p
      · rw [if_pos c3] at h
        have := h.2.2.1
        omega
      · rw [if_neg c3] at h
        have := h.2.2.1
        omega
    · rw [if_neg c2] at h
      by_cases c3 : b p = 39
      · rw [if_pos c3] at h
        have := h.2.2.2.1
        omega
      · rw [if_neg c3] at h
        by_cases c4 : b p = 34
        · rw [if_pos c4] at h
          obtain ⟨m, _, _, h3, _⟩ := h
          omega
        · rw [if_neg c4] at h
          obtain ⟨m, _, _, h3, _⟩ := h
          omega
theorem rch_nd (h : RCHq b (0, []) y) : ∀ (j : Nat) (k v : Int32) (q : Int), y.2[j]? = some (k, v, q) → k.toInt = 2 → ∀ i, q ≤ i → i < q + v.toInt → NDq (b i) := by
  refine h (fun y => ∀ (j : Nat) (k v : Int32) (q : Int), y.2[j]? = some (k, v, q) → k.toInt = 2 → ∀ i, q ≤ i → i < q + v.toInt → NDq (b i)) (fun j k v q h => by cases h) ?_
  rintro u v h3 (⟨b1, b2⟩ | ⟨⟨b0, _, _⟩, k, x, en, ht, ev⟩)
  · rw [b2]
    exact h3
  · rw [ev]
    intro j k' v' q' hj
    rcases app_at hj with ⟨_, hj'⟩ | ⟨_, hj'⟩
    · exact h3 j k' v' q' hj'
    · cases hj'
      exact fun hk => tok_nd ht hk
theorem byt_nd (hi : 0 ≤ i) (hg : -128 ≤ (g i.toNat).toInt ∧ (g i.toNat).toInt ≤ 127) (h : NDq (byt g N i)) : 48 ≤ (g i.toNat).toInt ∧ (g i.toNat).toInt ≤ 122 := by
  have hr : 48 ≤ byt g N i ∧ byt g N i ≤ 122 := by
    rcases h with h | h <;> omega
  have hlt := (byt_in (f := g) (N := N) (i := i) (by omega)).2
  unfold byt at hr
  rw [if_pos ⟨hi, hlt⟩] at hr
  have := (bq hg (c := ((g i.toNat) &&& 255).toInt) (by omega)).1 rfl
  omega
/-- a symbol's name: what is asked of what was there before stays where nothing of it is written -/
theorem naq_same (h : NAq w σ e) (e29 : t 29 (e + 4) = w 29 (e + 4) ∧ t 29 (e + 3) = w 29 (e + 3)) (e30 : ∀ i : Nat, (i : Int) < (w 5 7).toInt → t 30 i = w 30 i) (e57 : (w 5 7).toInt ≤ (t 5 7).toInt) (s18 : s 18 e = σ 18 e) (s19 : s 19 e = σ 19 e) (s20 : ∀ i : Nat, (i : Int) < (σ 0 31).toInt → s 20 i = σ 20 i) (s31 : (σ 0 31).toInt ≤ (s 0 31).toInt) : NAq t s e := by
  obtain ⟨h1, h2, h3, h4, h5, h6, h7⟩ := h
  unfold NAq
  rw [e29.1, e29.2, s18, s19]
  refine ⟨h1, h2, h3, h4, by omega, by omega, fun k hk => ?_⟩
  rw [e30 _ (by omega), s20 _ (by omega)]
  exact h7 k hk
theorem enr_same (h : EAr w σ e) (e29 : t 29 (e + 4) = w 29 (e + 4) ∧ t 29 (e + 3) = w 29 (e + 3)) (e30 : ∀ i : Nat, (i : Int) < (w 5 7).toInt → t 30 i = w 30 i) (e57 : (w 5 7).toInt ≤ (t 5 7).toInt) (e25 : t 25 (e + 4) = w 25 (e + 4)) (e26 : t 26 (e + 4) = w 26 (e + 4)) (e27 : t 27 (e + 4) = w 27 (e + 4)) (sr : ∀ c, c = 10 ∨ c = 11 ∨ c = 14 ∨ c = 15 ∨ c = 18 ∨ c = 19 → s c e = σ c e) (s16 : ∀ k, k < 8 → s 16 (8 * e + k) = σ 16 (8 * e + k)) (s20 : ∀ i : Nat, (i : Int) < (σ 0 31).toInt → s 20 i = σ 20 i) (s31 : (σ 0 31).toInt ≤ (s 0 31).toInt) : EAr t s e := by
  obtain ⟨h1, h2, h3, h4, h5⟩ := h
  refine ⟨by rw [e26, sr 10 (by omega)]; exact h1, ?_, ?_, ?_, naq_same h5 e29 e30 e57 (sr 18 (by omega)) (sr 19 (by omega)) s20 s31⟩
  · unfold FLq at h2 ⊢
    rw [e25, sr 14 (by omega)]
    exact h2
  · unfold FLq at h3 ⊢
    rw [e25, e27, sr 11 (by omega)]
    exact h3
  · unfold FLq at h4 ⊢
    rw [e25, e27, sr 15 (by omega)]
    intro hf
    obtain ⟨a1, a2, a3, a4⟩ := h4 hf
    refine ⟨a1, a2, fun k k0 k1 => ?_, a4⟩
    rw [s16 _ (by omega)]
    exact a3 k k0 k1
theorem sam_same (h19 : s 19 e = σ 19 e ∧ s 19 f = σ 19 f) (h18 : s 18 e = σ 18 e ∧ s 18 f = σ 18 f) (he : 0 ≤ (σ 18 e).toInt ∧ (σ 18 e).toInt + (σ 19 e).toInt ≤ (σ 0 31).toInt) (hf : 0 ≤ (σ 18 f).toInt ∧ (σ 18 f).toInt + (σ 19 f).toInt ≤ (σ 0 31).toInt) (s20 : ∀ i : Nat, (i : Int) < (σ 0 31).toInt → s 20 i = σ 20 i) (h : SAMm s e f) : SAMm σ e f := by
  unfold SAMm at h
  rw [h19.1, h19.2, h18.1, h18.2] at h
  refine ⟨h.1, fun k hk => ?_⟩
  have := h.2 k hk
  have h1 := h.1
  rw [s20 _ (by omega), s20 _ (by omega)] at this
  exact this
theorem lib_same (h : LIBx w) (e1 : ∀ d, d < 4 → t 25 d = w 25 d ∧ t 26 d = w 26 d ∧ t 27 d = w 27 d ∧ t 28 d = w 28 d ∧ t 29 d = w 29 d) (e2 : ∀ i, i < 15 → t 30 i = w 30 i) : LIBx t := by
  refine ⟨fun d hd => ?_, fun i hi => (e2 i hi).trans (h.2 i hi)⟩
  obtain ⟨a1, a2, a3, a4, a5⟩ := e1 d hd
  obtain ⟨b1, b2, b3, b4, b5⟩ := h.1 d hd
  exact ⟨a1.trans b1, a2.trans b2, a3.trans b3, a4.trans b4, a5.trans b5⟩
/-- where nothing of all this is written -/
theorem rlf_same (h : RLf w σ) (ew : ∀ c, 25 ≤ c → c ≤ 30 → t c = w c) (e57 : t 5 7 = w 5 7) (es : ∀ c, (9 ≤ c ∧ c ≤ 20) ∨ c = 22 → s c = σ c) (s31 : s 0 31 = σ 0 31) (s35 : s 0 35 = σ 0 35) (s36 : s 0 36 = σ 0 36) : RLf t s := by
  obtain ⟨h1, h2, h3, h4⟩ := h
  refine ⟨?_, fun e he => ?_, ?_, fun q => by rw [es 13 (by omega)]; exact h4 q⟩
  · unfold LIBx
    rw [ew 25 (by omega) (by omega), ew 26 (by omega) (by omega), ew 27 (by omega) (by omega), ew 28 (by omega) (by omega), ew 29 (by omega) (by omega), ew 30 (by omega) (by omega)]
    exact h1
  · rw [s36] at he
    have hh := h2 e he
    unfold EAr NAq FLq at hh ⊢
    rw [ew 25 (by omega) (by omega), ew 26 (by omega) (by omega), ew 27 (by omega) (by omega), ew 29 (by omega) (by omega), ew 30 (by omega) (by omega), e57, s31, es 10 (by omega), es 11 (by omega), es 14 (by omega), es 15 (by omega), es 16 (by omega), es 18 (by omega), es 19 (by omega), es 20 (by omega)]
    exact hh
  · unfold DSTm SAMm at h3 ⊢
    rw [s35, es 22 (by omega), es 18 (by omega), es 19 (by omega), es 20 (by omega)]
    exact h3
end RLF
end

section
/-! compile(), both sides: all of what is declared -/
def CMPz (a : Int32) (σ s : St) : Prop := ((a.toInt < 0 ∨ 3 < a.toInt ∨ (σ 0 35).toInt = 100) ∧ s = upC (upC (upC σ 0 9 (σ 0 1)) 0 1 (0 : Int32)) 0 14 ((-1) : Int32)) ∨ ((0 ≤ a.toInt ∧ a.toInt ≤ 3 ∧ (σ 0 35).toInt ≠ 100) ∧ ∃ (lo : Nat) (σ0 s1 : St) (v1 : Int32), S0q lo σ0 ∧ (σ 0 36).toInt = (lo : Int) ∧ σ0 0 31 = σ 0 31 ∧ σ0 1 = σ 1 ∧ RDq (σ 1) (σ 0 1).toInt lo σ0 v1 s1 ∧ KRx σ s1 ∧ OLe σ s1 ∧ OMs lo (σ 0 31).toInt.toNat σ s1 ∧ ((v1.toInt = 0 ∧ s = upC (upC (upC (upC s1 23 (s1 0 35).toNatClampNeg (s1 0 37)) 0 35 ((s1 0 35) + (1 : Int32))) 22 ((s1 0 35) + (1 : Int32)).toNatClampNeg (s1 0 36)) 24 ((s1 0 35) + (1 : Int32)).toNatClampNeg (s1 0 39)) ∨ (v1.toInt ≠ 0 ∧ s = upC (upC (upC (upC (upC s1 0 17 (σ 0 17)) 0 31 (σ 0 31)) 0 45 (σ 0 45)) 0 39 (σ 0 39)) 0 36 (s1 22 (s1 0 35).toNatClampNeg))))
section CPZ
variable {w σ s s' σ0 σ1 s1 s5 τ t : St} {vs z : List Nat} {a : Int32} {o lo n i m u e D N : Nat} {kd vl : Nat → Int} {L : List (Int32 × Int32 × Int)} {c : Int32} {q : Int}
theorem cmz_x (h : CMPz a σ s) : CMPx a σ s := by
  rcases h with h | ⟨h, lo, σ0, s1, v1, hS, eL, e31, e1, hR, kx, ol, _, hfin⟩
  · exact Or.inl h
  · exact Or.inr ⟨h, lo, σ0, s1, v1, hS, eL, e31, e1, hR, kx, ol, hfin⟩
theorem es_compilez {Q : Int32 → St → St → List Nat → Prop} (h : GLI σ τ vs) (hF : (σ 0 2).toInt ≤ 10240) (hB : ∀ j, -128 ≤ (σ 1 j).toInt ∧ (σ 1 j).toInt ≤ 127) (hb13 : B13 σ) (kk : ∀ v s t z, CMPz a σ s → Q v s t z) : pp_compile a σ τ vs Q := by
  have h9 := h
  obtain ⟨⟨⟨t1, t2⟩, ⟨o1, o2⟩, ⟨n1, n2⟩, -⟩, hE, hA, -⟩ := h9
  unfold pp_compile
  refine ⟨fun c => kk _ _ _ _ (Or.inl ⟨Or.inl c, rfl⟩), fun c0 => ⟨fun c => kk _ _ _ _ (Or.inl ⟨Or.inr (Or.inl c), rfl⟩), fun c3 => ⟨fun ho _ _ => ?_, fun c => kk _ _ _ _ (Or.inl ⟨Or.inr (Or.inr c), rfl⟩)⟩⟩⟩
  have ho' : (σ 0 35).toInt < 100 := by omega
  generalize h0 : (upC (upC (upC (upC (upC (upC (upC (upC (upC (upC (upC σ 0 9 (σ 0 1)) 0 1 (0 : Int32)) 0 14 ((-1) : Int32)) 22 (σ 0 35).toNatClampNeg (σ 0 36)) 24 (σ 0 35).toNatClampNeg (σ 0 39)) 0 37 (0 : Int32)) 0 12 (0 : Int32)) 0 15 (0 : Int32)) 0 53 (0 : Int32)) 0 54 (0 : Int32)) 0 49 (0 : Int32)) = σ0
  have k0 : K0c σ σ0 := by
    have ka : Kp [(0, 9), (0, 1), (0, 14), (0, 37), (0, 12), (0, 15), (0, 53), (0, 54), (0, 49)] [22, 24] σ σ0 := by
      rw [← h0]
      exact kp_f (kp_f (kp_f (kp_f (kp_f (kp_f (kp_a (kp_a (kp_f (kp_f (kp_f kp_rf rfl) rfl) rfl) rfl) rfl) rfl) rfl) rfl) rfl) rfl) rfl
    intro c j q1 q2
    by_cases c22 : c = 22
    · subst c22
      rw [← h0]
      simp only [rdC, Nat.reduceEqDiff, if_true, if_false]
      by_cases e : j = (σ 0 35).toNatClampNeg
      · rw [if_pos e, e]; exact hE.1
      · rw [if_neg e]
    · by_cases c24 : c = 24
      · subst c24
        rw [← h0]
        simp only [rdC, Nat.reduceEqDiff, if_true, if_false]
        by_cases e : j = (σ 0 35).toNatClampNeg
        · rw [if_pos e, e]; exact hE.2.1
        · rw [if_neg e]
      · refine ka c j q1 ?_
        simp
        exact ⟨c22, c24⟩
  have z9 : σ0 0 9 = σ 0 1 := by rw [← h0]; rfl
  have z37 : σ0 0 37 = 0 := by rw [← h0]; rfl
  have z12 : σ0 0 12 = 0 := by rw [← h0]; rfl
  have z15 : σ0 0 15 = 0 := by rw [← h0]; rfl
  have z53 : σ0 0 53 = 0 := by rw [← h0]; rfl
  have z54 : σ0 0 54 = 0 := by rw [← h0]; rfl
  have z49 : σ0 0 49 = 0 := by rw [← h0]; rfl
  obtain ⟨rs, eFi, -⟩ := rs0_gi (σ0 := σ0) h hF ho' k0 z9 z37 z12 z15 z53 z49
  clear h0
  have y : ∀ c, c ≠ 0 → σ0 c = σ c := fun c c0 => funext (fun j => k0 c j (by
    simp only [List.contains_cons, List.contains_nil, Bool.or_false, Bool.or_eq_false_iff, beq_eq_false_iff_ne, ne_eq, Prod.mk.injEq, not_and]
    omega) rfl)
  have f35 : σ0 0 35 = σ 0 35 := k0 0 35 rfl rfl
  have f36 : σ0 0 36 = σ 0 36 := k0 0 36 rfl rfl
  have f31 : σ0 0 31 = σ 0 31 := k0 0 31 rfl rfl
  obtain ⟨g1, g2, g3, g4⟩ := hE
  obtain ⟨-, -, a35, -, -, -, a31, a10, -⟩ := hA
  have eL : (σ 0 36).toInt = (((σ 0 36).toInt.toNat : Nat) : Int) := by omega
  generalize (σ 0 36).toInt.toNat = lo at eL
  have hS : S0q lo σ0 := by
    refine ⟨by rw [z53]; rfl, by rw [z54]; rfl, by rw [z49]; rfl, by rw [z15]; rfl, by rw [z12]; rfl, by rw [z37]; rfl, ⟨?_, by rw [f36]; exact eL, Nat.le_refl _, by omega, fun e h1 h2 => absurd h2 (Nat.not_lt.mpr h1), by rw [f31]; omega, by rw [f31]; omega, fun e h1 h2 => absurd h2 (Nat.not_lt.mpr h1)⟩, fun j => ?_, fun j => ?_, fun j => ?_⟩
    · rw [f35, y 22 (by decide), ← g1]; exact eL
    · rw [y 31 (by decide)]; exact a31 j
    · rw [y 10 (by decide)]; have := a10 j; omega
    · rw [y 35 (by decide)]; have := a35 j; omega
  have fr : wp_read_0 σ0 τ vs (fun v s _ _ => (v = 0 ∨ v.toInt < 0) ∧ KRx σ s ∧ OLe σ s) := mg_wp_read_0 (fun v s t z p q => ⟨p.1, q⟩) (rd_fr rs) (wl_wp_read_0 (fun v s t z p => p) (rd_frx rs k0 eFi))
  have hom0 : OMs lo (σ 0 31).toInt.toNat σ σ0 := by
    refine ⟨by rw [← g1]; exact eL, ⟨f35, y 22 (by decide)⟩, ⟨by rw [f36]; omega, by rw [f31]; omega⟩, ⟨fun e he => ⟨fun c hc => ?_, fun k hk => by rw [y 16 (by decide)]⟩, fun q => by rw [y 13 (by decide)]; exact hb13 q⟩, fun i hi => by rw [y 20 (by decide)]⟩
    rw [y c (fun e => by rw [e] at hc; cases hc)]
  refine cj_wp_read_0 (fun v s t z p1 p23 => ?_) (wl_wp_read_0 (fun v s t z p => p) fr) (cj_wp_read_0 (Q := fun v s _ _ => RDq (σ 1) (σ 0 1).toInt lo σ0 v s ∧ OMs lo (σ 0 31).toInt.toNat σ s) (fun v s t z x y => ⟨x, y⟩) (es_read (Q := fun v s _ _ => RDq (σ 1) (σ 0 1).toInt lo σ0 v s) (f := σ 1) (N := (σ 0 1).toInt) (σ := σ0) (y 1 (by decide)) hB (by rw [z9]) t1 t2 hS (fun v s t z hr => hr)) (om_pp_read_0 (Q := fun _ s _ _ => OMs lo (σ 0 31).toInt.toNat σ s) hom0 (fun _ _ _ _ h => h)))
  obtain ⟨p2, hom⟩ := p23
  obtain ⟨hv, kx, ol⟩ := p1
  refine ⟨fun c _ _ _ => kk _ _ _ _ (Or.inr ⟨⟨c0, c3, ho⟩, lo, σ0, s, v, hS, eL, f31, y 1 (by decide), p2, kx, ol, hom, Or.inl ⟨?_, rfl⟩⟩), fun c _ => kk _ _ _ _ (Or.inr ⟨⟨c0, c3, ho⟩, lo, σ0, s, v, hS, eL, f31, y 1 (by decide), p2, kx, ol, hom, Or.inr ⟨by omega, rfl⟩⟩)⟩
  rcases hv with h | h
  · rw [h]; rfl
  · omega
/-- what stays where no object comes of it -/
def SAz (σ s : St) : Prop := s 0 36 = σ 0 36 ∧ s 0 31 = σ 0 31 ∧ s 0 35 = σ 0 35 ∧ s 22 = σ 22 ∧ (OMr (σ 0 36).toInt.toNat σ s ∧ B13 s) ∧ ∀ i : Nat, (i : Int) < (σ 0 31).toInt → s 20 i = σ 20 i
theorem saz_0 (hb : B13 σ) : SAz σ (upC (upC (upC σ 0 9 (σ 0 1)) 0 1 (0 : Int32)) 0 14 ((-1) : Int32)) := by
  have r : ∀ c, c ≠ 0 → (upC (upC (upC σ 0 9 (σ 0 1)) 0 1 (0 : Int32)) 0 14 ((-1) : Int32)) c = σ c := fun c c0 => by rw [rdC_ne c0, rdC_ne c0, rdC_ne c0]
  refine ⟨rfl, rfl, rfl, r 22 (by decide), ⟨fun e _ => ⟨fun c hc => by rw [r c (fun e => by rw [e] at hc; cases hc)], fun k _ => by rw [r 16 (by decide)]⟩, fun q => by rw [r 13 (by decide)]; exact hb q⟩, fun i _ => by rw [r 20 (by decide)]⟩
theorem saz_1 (kx : KRx σ s1) (hom : OMs lo (σ 0 31).toInt.toNat σ s1) (eL : (σ 0 36).toInt = (lo : Int)) (hE : σ 0 36 = σ 22 (σ 0 35).toNatClampNeg) : SAz σ (upC (upC (upC (upC (upC s1 0 17 (σ 0 17)) 0 31 (σ 0 31)) 0 45 (σ 0 45)) 0 39 (σ 0 39)) 0 36 (s1 22 (s1 0 35).toNatClampNeg)) := by
  have r : ∀ c, c ≠ 0 → (upC (upC (upC (upC (upC s1 0 17 (σ 0 17)) 0 31 (σ 0 31)) 0 45 (σ 0 45)) 0 39 (σ 0 39)) 0 36 (s1 22 (s1 0 35).toNatClampNeg)) c = s1 c := fun c c0 => by rw [rdC_ne c0, rdC_ne c0, rdC_ne c0, rdC_ne c0, rdC_ne c0]
  obtain ⟨_, ⟨o1, o2⟩, _, ⟨o4, o4b⟩, o5⟩ := hom
  refine ⟨?_, ?_, ?_, (r 22 (by decide)).trans o2, ⟨fun e he => ⟨fun c hc => ?_, fun k hk => ?_⟩, fun q => by rw [r 13 (by decide)]; exact o4b q⟩, fun i hi => ?_⟩
  · rw [rdA_eq rfl, o1, o2]
    exact hE.symm
  · rw [rdA_ne (by decide), rdA_ne (by decide), rdA_ne (by decide), rdA_eq rfl]
  · rw [rdA_ne (by decide), rdA_ne (by decide), rdA_ne (by decide), rdA_ne (by decide), rdA_ne (by decide)]
    exact o1
  · rw [r c (fun e => by rw [e] at hc; cases hc)]
    exact (o4 e (by omega)).1 c hc
  · rw [r 16 (by decide)]
    exact (o4 e (by omega)).2 k hk
  · rw [r 20 (by decide)]
    exact o5 i (by omega)
theorem hd_le (h : IVx w o) (r : RLp w σ) (re : RLe w σ) : 0 ≤ (σ 0 36).toInt ∧ ∀ A : Nat, (A : Int) < (σ 0 35).toInt → 0 ≤ (σ 22 A).toInt ∧ (σ 22 (A + 1)).toInt ≤ (σ 0 36).toInt := by
  obtain ⟨⟨h1, h1'⟩, h2, h3, -⟩ := h
  have d0 := de_le h2
  obtain ⟨r1, r2, -⟩ := r
  have q0 := d0 o (Nat.le_refl _)
  refine ⟨by omega, fun A hA => ?_⟩
  have w1 := re.1 A (by omega)
  have w2 := re.1 (A + 1) (by omega)
  have q1 := d0 A (by omega)
  have mo := de_mono h2 (Nat.le_refl o) (A + 1) (by omega)
  omega
theorem rlf_keep (h : RLf w σ) (sm : SAz σ s') (hmo : 0 ≤ (σ 0 36).toInt ∧ ∀ A : Nat, (A : Int) < (σ 0 35).toInt → 0 ≤ (σ 22 A).toInt ∧ (σ 22 (A + 1)).toInt ≤ (σ 0 36).toInt) (r2 : (w 5 1).toInt = (σ 0 36).toInt + 4) (r3 : (w 5 7).toInt = (σ 0 31).toInt + 15) (h15 : 15 ≤ (w 5 7).toInt) (e1 : ∀ d : Nat, (d : Int) < (w 5 1).toInt → t 25 d = w 25 d ∧ t 26 d = w 26 d ∧ t 27 d = w 27 d ∧ t 28 d = w 28 d ∧ t 29 d = w 29 d) (e2 : ∀ i : Nat, (i : Int) < (w 5 7).toInt → t 30 i = w 30 i) (e57 : (t 5 7).toInt = (s' 0 31).toInt + 15) : RLf t s' := by
  obtain ⟨h1, h2, h3, _⟩ := h
  obtain ⟨m36, m31, m35, m22, ⟨mr, m13⟩, m20⟩ := sm
  obtain ⟨p36, hmo⟩ := hmo
  have rows : ∀ e : Nat, (e : Int) < (σ 0 36).toInt → ∀ c, [9, 10, 11, 12, 13, 14, 15, 17, 18, 19].contains c = true → s' c e = σ c e := fun e he c hc => (mr e (by omega)).1 c hc
  refine ⟨lib_same h1 (fun d hd => e1 d (by omega)) (fun i hi => e2 i (by omega)), fun e he => ?_, fun A hA e f h4 h5 h6 hs => ?_, m13⟩
  · rw [m36] at he
    obtain ⟨a1, a2, a3, _, a5⟩ := e1 (e + 4) (by omega)
    refine enr_same (h2 e he) ⟨a5, (e1 (e + 3) (by omega)).2.2.2.2⟩ e2 (by rw [e57, m31]; omega) a1 a2 a3 (fun c hc => rows e he c (by rcases hc with h | h | h | h | h | h <;> rw [h] <;> rfl)) (fun k hk => (mr e (by omega)).2 k hk) m20 (by rw [m31]; omega)
  · rw [m35] at hA
    rw [m22] at h4 h6
    have hb := hmo A hA
    have he : (e : Int) < (σ 0 36).toInt := by omega
    have hf : (f : Int) < (σ 0 36).toInt := by omega
    obtain ⟨_, _, _, _, ne⟩ := h2 e he
    obtain ⟨_, _, _, _, nf⟩ := h2 f hf
    exact h3 A hA e f h4 h5 h6 (sam_same ⟨rows e he 19 rfl, rows f hf 19 rfl⟩ ⟨rows e he 18 rfl, rows f hf 18 rfl⟩ ⟨ne.2.2.2.1, ne.2.2.2.2.2.1⟩ ⟨nf.2.2.2.1, nf.2.2.2.2.2.1⟩ m20 hs)
/-- the name of a new one is its token's -/
theorem new_nm (hT : TKR s s1 kd n) (ho : ORR s s1 kd n i (e + 4) e) (h5 : s 1 = s5 1 ∧ s 14 = s5 14 ∧ s 15 = s5 15) : (s1 19 e).toInt = (atv 16002 (s5 14) (s 38 i)).toInt ∧ ∀ k : Nat, (k : Int) < (s1 19 e).toInt → (s1 20 ((s1 18 e).toInt.toNat + k)).toInt = (s5 1 ((atv 16002 (s5 15) (s 38 i)).toInt.toNat + k)).toInt := by
  obtain ⟨q1, q2, q3, q4, _⟩ := ho
  have hn := hT.1.1
  have e38 : (s 38 i).toInt = ((otk s i : Nat) : Int) := by unfold otk; omega
  obtain ⟨t1, t2, t3⟩ := hT.2.2.2.1 _ q2 q3
  obtain ⟨q41, q42⟩ := q4
  obtain ⟨_, t5, t6, t7⟩ := t3
  rw [atv_at e38 (by omega), atv_at e38 (by omega), ← h5.1, ← h5.2.1, ← h5.2.2]
  refine ⟨by rw [t2]; exact q41, fun k hk => ?_⟩
  rw [q42 k (by omega), t1]
  exact (hT.2.2.1 _ (by omega)).symm
/-- its bytes are letters and digits -/
theorem new_nd {f : Nat → Int32} {M : Int} (hr : RCHq (byt f M) (0, []) (q, L)) (hB : ∀ j, -128 ≤ (f j).toInt ∧ (f j).toInt ≤ 127) (hTL : TKLq L c kd vl n) (hC : FNq s5 L c) (e1 : s5 1 = f) (hT : TKR s s1 kd n) (ho : ORR s s1 kd n i (e + 4) e) : ∀ k : Nat, (k : Int) < (atv 16002 (s5 14) (s 38 i)).toInt → 48 ≤ (s5 1 ((atv 16002 (s5 15) (s 38 i)).toInt.toNat + k)).toInt ∧ (s5 1 ((atv 16002 (s5 15) (s 38 i)).toInt.toNat + k)).toInt ≤ 122 := by
  obtain ⟨q1, q2, q3, q4, _⟩ := ho
  have hn := hT.1.1
  have e38 : (s 38 i).toInt = ((otk s i : Nat) : Int) := by unfold otk; omega
  have hlt : otk s i < n := by
    have := hT.1.2.2.2.2
    by_cases x : otk s i = n
    · rw [x] at q3
      omega
    · omega
  obtain ⟨kk, v, q', hL, hk⟩ := tl_at hTL hlt
  obtain ⟨_, c2, _⟩ := hC
  obtain ⟨_, c4, c5⟩ := c2 _ _ _ _ hL
  rw [atv_at e38 (by omega), atv_at e38 (by omega), c4, e1]
  intro k hkv
  have hq0 : 0 ≤ q' := by
    have nd := rch_nd hr _ kk v q' hL (by omega) q' (Int.le_refl _) (by omega)
    have : 0 ≤ byt f M q' := by rcases nd with h | h <;> omega
    exact (byt_in this).1
  have nd := rch_nd hr _ kk v q' hL (by omega) (q' + k) (by omega) (by omega)
  have hx := byt_nd (g := f) (N := M) (i := q' + k) (by omega) (hB _) nd
  rw [show (s5 15 (otk s i)).toInt.toNat + k = (q' + (k : Int)).toNat from by omega]
  exact hx
/-- a new one, alike -/
theorem new_enr (hT : TKR s s1 kd n) (ho : ORR s s1 kd n i (e + 4) e) (h5 : s 1 = s5 1 ∧ s 14 = s5 14 ∧ s 15 = s5 15) (hd : D + i = e + 4) (hD : 1 ≤ D) (nk : NMk D s5 s i) (hb : 0 ≤ (s1 18 e).toInt ∧ 0 ≤ (s1 19 e).toInt ∧ (s1 18 e).toInt + (s1 19 e).toInt ≤ (s1 0 31).toInt) (hnd : ∀ k : Nat, (k : Int) < (atv 16002 (s5 14) (s 38 i)).toInt → 48 ≤ (s5 1 ((atv 16002 (s5 15) (s 38 i)).toInt.toNat + k)).toInt ∧ (s5 1 ((atv 16002 (s5 15) (s 38 i)).toInt.toNat + k)).toInt ≤ 122) : EAr s s1 e := by
  obtain ⟨m1, m2⟩ := new_nm hT ho h5
  obtain ⟨_, _, _, _, q5, q6, q7, q8, q9, q10, _, q12, q13, _, q15, q16, _⟩ := ho
  obtain ⟨k1, k2, k3, k4, k5, _, k6⟩ := nk
  rw [hd, show e + 4 - 1 = e + 3 from rfl] at k1
  rw [hd, show e + 4 - 1 = e + 3 from rfl] at k2 k6
  rw [hd] at k5
  refine ⟨q7, q8, fun hf => ⟨q9 hf, q15 hf⟩, fun hf => ?_, by omega, hb.2.1, k2, hb.1, k5, hb.2.2, fun k hk => ?_⟩
  · obtain ⟨a1, a2, a3⟩ := q10 hf
    exact ⟨a1, a2, a3, q16 hf⟩
  · have e2 := m2 k hk
    rw [k6 k (by omega), e2]
    exact ⟨rfl, hnd k (by omega)⟩
/-- the class's, as the reference's left it: what is declared -/
theorem pl_compilez {Q : Int32 → St → Prop} (h : IVx w o) (rl : RLp w σ) (re : RLe w σ) (rf : RLf w σ) (hE : σ 0 36 = σ 22 (σ 0 35).toNatClampNeg) (cm : CMPz a σ s') (k : ∀ v t, ((t 5 7).toInt = (s' 0 31).toInt + 15 → RLf t s') → Q v t) : pk_X12_compile a w Q := by
  have hBy := rl_by h rl
  have hdd := hd_le h rl re
  obtain ⟨r1, r2, r3, r4, r5, r6⟩ := rl
  obtain ⟨⟨h1, h1'⟩, h2, h3, h4, ⟨f1, f2, f3⟩, h6, ⟨g1, g2, g3, g4⟩, h8, h9, ha, hb, hc, hi⟩ := h
  have d0 := de_le h2
  have hmo : 0 ≤ (σ 0 36).toInt ∧ ∀ A : Nat, (A : Int) < (σ 0 35).toInt → 0 ≤ (σ 22 A).toInt ∧ (σ 22 (A + 1)).toInt ≤ (σ 0 36).toInt := hdd
  have h15 : 15 ≤ (w 5 7).toInt := by
    rcases Int.lt_or_le 0 (σ 0 36).toInt with c | c
    · have q := (rf.2.1 0 (by omega)).2.2.2.2
      have q2 := q.2.1
      have q4 := q.2.2.2.1
      have q6 := q.2.2.2.2.2.1
      omega
    · have c0 := hmo.1
      have q := h6.1 3 (by show ((3 : Nat) : Int) + 1 = (w 5 1).toInt; omega)
      have q2 : w 29 3 = sc0 29 3 := (rf.1.1 3 (by decide)).2.2.2.2
      have q3 : (sc0 29 3).toInt = 15 := by decide +kernel
      have q4 : (w 29 3).toInt = (w 5 7).toInt := q
      rw [q2, q3] at q4
      omega
  have same : SAz σ s' → ∀ v t, (∀ d : Nat, (d : Int) < (w 5 1).toInt → t 25 d = w 25 d ∧ t 26 d = w 26 d ∧ t 27 d = w 27 d ∧ t 28 d = w 28 d ∧ t 29 d = w 29 d) → (∀ i : Nat, (i : Int) < (w 5 7).toInt → t 30 i = w 30 i) → Q v t := fun sm v t e1 e2 => k v t (fun e57 => rlf_keep rf sm hmo r2 r3 h15 e1 e2 e57)
  unfold pk_X12_compile
  generalize hσ1 : upC (upC w 0 1 (0 : Int32)) 0 3 ((-1) : Int32) = w1
  have r1' : ∀ c, c ≠ 0 → w1 c = w c := fun c hc0 => by rw [← hσ1, rdC_ne hc0, rdC_ne hc0]
  have q01 : (w1 0 1).toInt = 0 := by rw [← hσ1]; rfl
  have q02 : w1 0 2 = w 0 2 := by rw [← hσ1]; rfl
  clear hσ1
  have early : SAz σ s' → ∀ v, Q v w1 := fun sm v => same sm v w1 (fun d _ => by rw [r1' 25 (by decide), r1' 26 (by decide), r1' 27 (by decide), r1' 28 (by decide), r1' 29 (by decide)]; exact ⟨rfl, rfl, rfl, rfl, rfl⟩) (fun i _ => by rw [r1' 30 (by decide)])
  have bad : (a.toInt < 0 ∨ 3 < a.toInt ∨ 100 ≤ (w 5 13).toInt) → SAz σ s' := fun hx => by
    rcases cm with ⟨_, sm⟩ | ⟨⟨x1, x2, x3⟩, _⟩
    · rw [sm]; exact saz_0 rf.2.2.2
    · omega
  refine ⟨fun c => early (bad (Or.inl c)) _, fun c0 => ⟨fun c => early (bad (Or.inr (Or.inl c))) _, fun c3 => ⟨fun c100 => ?_, fun c => early (bad (Or.inr (Or.inr c))) _⟩⟩⟩
  clear bad early
  rcases cm with ⟨hx, _⟩ | ⟨_, lo, σ0, s1, v1, hS, eL, e31, e1, hR, kx, ol, hom, hfin⟩
  · omega
  obtain ⟨kd, vl, n, L, q, c, σ1, hr, hfi, hT, hM, kσ, hev⟩ := hR
  have hN0 : 0 ≤ (σ 0 1).toInt ∧ (σ 0 1).toInt ≤ 16000 := by omega
  have ew : w 1 = σ 1 := funext (fun j => ieq (r6 j))
  refine cj_wk_X10_scan (fun s4 p1 p2 => ?_) (wl_wk_X10_scan (fun s4 p => p) (sp_scan (Q := fun s4 => Kp [(2, 1), (2, 2), (2, 3), (2, 4)] [13, 14, 15, 16] w1 s4 ∧ (s4 2 1).toInt = (w 0 1).toInt ∧ TEn s4) ⟨f1.1, f1.2.1⟩ (by unfold PLA; rw [r1' 15 (by decide)]; exact g1) (by unfold NMr; rw [r1' 13 (by decide), r1' 14 (by decide), r1' 15 (by decide)]; exact g2) (fun s4 k4 z4 te => ⟨k4, z4, te⟩))) (pl_scan (Q := fun s4 => ∃ L q c, RCHq (byt (σ 1) (σ 0 1).toInt) (0, []) (q, L) ∧ FINq (byt (σ 1) (σ 0 1).toInt) q c ∧ FNq s4 L c) (N := (σ 0 1).toInt) r4 hN0.1 hN0.2 ((r1' 1 (by decide)).trans ew) (fun s L q c kp hr hf hn hl => ⟨L, q, c, hr, hf, hn⟩))
  obtain ⟨k4, z4, te⟩ := p1
  obtain ⟨L', q', c', hr', hf', hC⟩ := p2
  obtain ⟨eql, eqc⟩ := rch_one hr hfi hr' hf'
  have eL' : L' = L := (congrArg Prod.snd eql).symm
  rw [eL', ← eqc] at hC
  have tkv := tl_cls hN0 hr hfi hC hT
  obtain ⟨tk, pl4, nm4⟩ := te
  have kc : ∀ s5, KG s4 s5 → ∀ c j, c ≠ 2 → c ≠ 3 → ¬ (13 ≤ c ∧ c ≤ 23) → s5 c j = w1 c j := fun s5 k5 c j c2 c3 c4 => by
    have e1 : s5 c j = s4 c j := k5 c j (by
      simp only [List.contains_cons, List.contains_nil, Bool.or_false, Bool.or_eq_false_iff, beq_eq_false_iff_ne, ne_eq, Prod.mk.injEq, not_and]
      omega) (by
      simp only [List.contains_cons, List.contains_nil, Bool.or_false, Bool.or_eq_false_iff, beq_eq_false_iff_ne, ne_eq]
      omega)
    have e2 : s4 c j = w1 c j := k4 c j (by
      simp only [List.contains_cons, List.contains_nil, Bool.or_false, Bool.or_eq_false_iff, beq_eq_false_iff_ne, ne_eq, Prod.mk.injEq, not_and]
      omega) (by
      simp only [List.contains_cons, List.contains_nil, Bool.or_false, Bool.or_eq_false_iff, beq_eq_false_iff_ne, ne_eq]
      omega)
    exact e1.trans e2
  have t13 : ∀ s5, KG s4 s5 → s5 13 = s4 13 ∧ s5 14 = s4 14 ∧ s5 15 = s4 15 := fun s5 k5 => ⟨funext (fun j => k5 13 j rfl rfl), funext (fun j => k5 14 j rfl rfl), funext (fun j => k5 15 j rfl rfl)⟩
  refine cj_wk_X3_read (fun v s5 p1 p2 => ?_) (wl_wk_X3_read (fun v s p => p) (sp_gread (Q := fun v s => KG s4 s ∧ (v = 0 ∨ (v = 1 ∧ RDk s))) tk (fun s k5 => ⟨k5, Or.inl rfl⟩) (fun s k5 rd => ⟨k5, Or.inr ⟨rfl, rd⟩⟩))) (gt_read (Q := fun v s => (v = 1 ∧ ∃ g, EVq (fun n => UNn kd vl n 0) (some g) ∧ TBL s (fltq 0 g)) ∨ (v = 0 ∧ EVq (fun n => UNn kd vl n 0) none)) tkv (fun s g e _ tb _ => Or.inl ⟨rfl, g, e, tb⟩) (fun s _ e => Or.inr ⟨rfl, e⟩))
  obtain ⟨k5, prd⟩ := p1
  have w5 := kc s5 k5
  have row : ∀ c, c ≠ 2 → c ≠ 3 → ¬ (13 ≤ c ∧ c ≤ 23) → s5 c = w1 c := fun c c2 c3 c4 => funext (fun j => w5 c j c2 c3 c4)
  have v5 : s5 5 = w 5 := (row 5 (by decide) (by decide) (by omega)).trans (r1' 5 (by decide))
  have v4 : s5 4 = w 4 := (row 4 (by decide) (by decide) (by omega)).trans (r1' 4 (by decide))
  have v0 : s5 0 = w1 0 := row 0 (by decide) (by decide) (by omega)
  have v1' : s5 1 = w 1 := (row 1 (by decide) (by decide) (by omega)).trans (r1' 1 (by decide))
  have v25 : s5 25 = w 25 := (row 25 (by decide) (by decide) (by omega)).trans (r1' 25 (by decide))
  have v27 : s5 27 = w 27 := (row 27 (by decide) (by decide) (by omega)).trans (r1' 27 (by decide))
  have v29 : s5 29 = w 29 := (row 29 (by decide) (by decide) (by omega)).trans (r1' 29 (by decide))
  have v26 : s5 26 = w 26 := (row 26 (by decide) (by decide) (by omega)).trans (r1' 26 (by decide))
  have v28 : s5 28 = w 28 := (row 28 (by decide) (by decide) (by omega)).trans (r1' 28 (by decide))
  have v30 : s5 30 = w 30 := (row 30 (by decide) (by decide) (by omega)).trans (r1' 30 (by decide))
  have v37 : s5 37 = w 37 := (row 37 (by decide) (by decide) (by omega)).trans (r1' 37 (by decide))
  have v34 : s5 34 = w 34 := (row 34 (by decide) (by decide) (by omega)).trans (r1' 34 (by decide))
  refine ⟨fun cv => ?_, fun cv => ?_⟩
  rotate_left
  · -- no unit
    rcases p2 with ⟨hv, _⟩ | ⟨_, hn⟩
    · rw [hv] at cv; exact absurd cv (by decide)
    · have sm : SAz σ s' := by
        rcases hev with ⟨hv1, _⟩ | ⟨g, hg, _⟩
        · rcases hfin with ⟨h0, _⟩ | ⟨_, sm⟩
          · rw [hv1] at h0; exact absurd h0 (by decide)
          · rw [sm]; exact saz_1 kx hom eL hE
        · have := ev_one hg hn
          cases this
      refine same sm _ _ (fun d _ => ?_) (fun i _ => by rw [rdC_ne (by decide), v30])
      rw [rdC_ne (by decide), rdC_ne (by decide), rdC_ne (by decide), rdC_ne (by decide), rdC_ne (by decide), v25, v26, v27, v28, v29]
      exact ⟨rfl, rfl, rfl, rfl, rfl⟩
  rcases p2 with ⟨_, g, hg, tb⟩ | ⟨hv, _⟩
  rotate_left
  · rw [hv] at cv; exact absurd rfl cv
  have rd : RDk s5 := by
    rcases prd with hv | ⟨_, rd⟩
    · rw [hv] at cv; exact absurd rfl cv
    · exact rd
  have hu : UNw kd n lo g σ1 v1 s1 := by
    rcases hev with ⟨_, hn⟩ | ⟨g', hg', hu⟩
    · have := ev_one hg hn
      cases this
    · have := Option.some.inj (ev_one hg' hg)
      rw [this] at hu
      exact hu
  obtain ⟨x13, x14, x15⟩ := t13 s5 k5
  have a_pl : PLA s5 := by unfold PLA; rw [x15]; exact pl4
  have a_nm : NMr s5 := by unfold NMr; rw [x13, x14, x15]; exact nm4
  have sz : (s5 2 1).toInt = (w 0 1).toInt := by rw [show s5 2 1 = s4 2 1 from k5 2 1 rfl rfl]; exact z4
  have dd := d0 o (Nat.le_refl _)
  have a_sz : (s5 2 1).toInt ≤ 16000 := by rw [sz]; exact f1.2.1
  have a_by : ByteOK (s5 1) := by rw [v1']; exact g3
  have a_hd : 0 ≤ (s5 5 1).toInt ∧ (s5 5 1).toInt ≤ 10000 := by rw [v5]; omega
  have a_l0 : 0 ≤ (s5 4 1).toInt := by rw [v4]; exact f2.1
  have a_lb : (s5 4 1).toInt + 4 * (s5 2 1).toInt ≤ 262144 := by rw [v4, sz]; omega
  have a_hn : 0 ≤ (s5 5 7).toInt ∧ (s5 5 7).toInt + (s5 2 1).toInt ≤ 65600 := by rw [v5, sz]; omega
  have a_nme : NME s5 := by unfold NME; rw [v5, v29]; exact h6
  have a_fx : ∀ j, FLb ((s5 25) j) 1 → spar ((s5 27) j) ≤ 8 := by rw [v25, v27]; exact g4
  have hS1 := s0_k kσ hS
  have c1 : σ1 1 = σ 1 := (funext (fun j => kσ 1 j rfl rfl)).trans e1
  have c31 : σ1 0 31 = σ 0 31 := (kσ 0 31 rfl rfl).trans e31
  have hC5 : FNq s5 L c := by
    obtain ⟨m1, m2, m3⟩ := hC
    refine ⟨by rw [show s5 2 4 = s4 2 4 from k5 2 4 rfl rfl]; exact m1, fun j k v q hj => ?_, by rw [x13]; exact m3⟩
    rw [x13, x14, x15]
    exact m2 j k v q hj
  have hD5 : (s5 5 1).toInt = ((lo + 4 : Nat) : Int) := by rw [v5]; omega
  have hN5 : (s5 5 7).toInt = ((w 5 7).toInt.toNat : Int) := by rw [v5]; have := f3.1; omega
  have hE5 : (s5 29 (lo + 4 - 1)).toInt = ((w 5 7).toInt.toNat : Int) := by
    rw [v29, h6.1 (lo + 4 - 1) (by omega)]
    have := f3.1
    omega
  have W := ol_pk_X7_walk (Q := fun s => OLs (lo + 4) (w 5 7).toInt.toNat s5 s) (a := a) hD5 (by omega) hN5 (by omega) hE5 (fun s h => h)
  refine cj_wk_X7_walk (fun s p1 p24 => ?_) (wl_wk_X7_walk (fun s p => p) (sp_walk (Q := fun s => ∃ ρ, Kp [(6, 2), (6, 3), (6, 4), (6, 5), (6, 7), (6, 6), (6, 10), (6, 15), (6, 17), (8, 6), (8, 8), (7, 7), (9, 5)] [] s5 ρ ∧ WDx ρ s) rd a_sz a_nm a_pl a_by a_hd a_l0 a_lb a_hn a_nme a_fx (fun ρ s kρ o0 wd hz => ⟨ρ, kρ, wd⟩))) (cj_wk_X7_walk (fun s x y => And.intro x y) W (cw_walk (Q := fun r => ((r 6 3).toInt ≠ 0 → v1.toInt ≠ 0) ∧ ((r 6 3).toInt = 0 → v1.toInt = 0 ∧ ∃ m, URq kd n m lo r s1)) (B := v1.toInt ≠ 0) rd a_sz a_nm a_pl a_by a_hd a_l0 a_lb a_hn a_nme a_fx tb (fun ρ kρ z63 z65 z67 z66 z615 z86 z77 z95 => hu ρ (ur_start (tl_both hN0 hr hfi hM ?_ hT ?_) hS1 z615 z67 ?_ ?_ z65 z77 z66 z86 z95) z63) (fun b r hr => ⟨fun _ => b, fun hx => absurd hx hr⟩)))
  rotate_left
  · obtain ⟨m1, m2, m3⟩ := hC5
    have y13 : ρ 13 = s5 13 := funext (fun j => kρ 13 j rfl rfl)
    have y14 : ρ 14 = s5 14 := funext (fun j => kρ 14 j rfl rfl)
    have y15 : ρ 15 = s5 15 := funext (fun j => kρ 15 j rfl rfl)
    refine ⟨by rw [kρ 2 4 rfl rfl]; exact m1, fun j k v q hj => ?_, by rw [y13]; exact m3⟩
    rw [y13, y14, y15]
    exact m2 j k v q hj
  · intro i _
    rw [kρ 1 i rfl rfl, v1', c1]
    exact r6 i
  · rw [kρ 5 1 rfl rfl, v5]; omega
  · rw [kρ 5 7 rfl rfl, v5, c31]; exact r3
  obtain ⟨hol, p2⟩ := p24
  obtain ⟨ρ, kρ, wd⟩ := p1
  have kw := wd.1.1
  have s513 : s 5 13 = w 5 13 := by rw [kw 5 13 (op_lt (by decide)) rfl rfl, kρ 5 13 rfl rfl, v5]
  have e513 : (s 5 13).toInt = o := by rw [s513]; exact h1
  have hdiff : (s 5 1).toInt - (s 6 7).toInt = ((lo + 4 : Nat) : Int) := by
    have hx := wd.1.2.2.1.1
    rw [kρ 5 1 rfl rfl] at hx
    omega
  have hol1 := hol.1
  obtain ⟨-, ⟨n1, n2⟩, orow, o30, olast, onm, odst⟩ := hol.2.2 hdiff
  have keepd : ∀ d : Nat, (d : Int) < (w 5 1).toInt → s 25 d = w 25 d ∧ s 26 d = w 26 d ∧ s 27 d = w 27 d ∧ s 28 d = w 28 d ∧ s 29 d = w 29 d := fun d hd => by
    have hx := orow d (by omega)
    rw [v25, v26, v27, v28, v29] at hx
    exact hx
  have keepn : ∀ i : Nat, (i : Int) < (w 5 7).toInt → s 30 i = w 30 i := fun i hi => by rw [o30 i (by omega), v30]
  refine ⟨fun f0 => ?_, fun f0 => ?_⟩
  · obtain ⟨hv0, m, hUR⟩ := p2.2 f0
    have hO := hUR.1.2.2.1
    have hT' := hUR.1.1
    rcases hfin with ⟨_, es'⟩ | ⟨hv1, _⟩
    rotate_left
    · exact absurd hv0 hv1
    have f35 : s1 0 35 = σ 0 35 := kx 0 35 rfl rfl
    have n35 : (s1 0 35).toNatClampNeg = o := nat_of (by rw [f35, ← r1, h1])
    have n351 : ((s1 0 35) + (1 : Int32)).toNatClampNeg = o + 1 := nat_of (by rw [ad1 (by rw [f35, ← r1, h1]; omega), f35, ← r1, h1]; rfl)
    rw [n35, n351] at es'
    unfold pk_X8_keep
    generalize ht : upF _ 37 _ = t
    have trow : ∀ c, c ≠ 5 → c ≠ 34 → c ≠ 35 → c ≠ 36 → c ≠ 37 → t c = s c := fun c c5 c34 c35 c36 c37 => by rw [← ht, rdF_ne c37, rdF_ne c36, rdF_ne c35, rdF_ne c34, rdC_ne c5]
    have t57 : t 5 7 = s 5 7 := by rw [← ht, rdF_ne (by decide), rdF_ne (by decide), rdF_ne (by decide), rdF_ne (by decide), rdA_ne (by decide)]
    clear ht
    have u22 : ∀ q, s' 22 q = if q = o + 1 then s1 0 36 else s1 22 q := fun q => by rw [es', rdC_ne (by decide), rdC_eq, rdC_ne (by decide), rdC_ne (by decide)]
    have u36 : s' 0 36 = s1 0 36 := by rw [es', rdC_ne (by decide), rdC_ne (by decide), rdA_ne (by decide), rdC_ne (by decide)]
    have u31 : s' 0 31 = s1 0 31 := by rw [es', rdC_ne (by decide), rdC_ne (by decide), rdA_ne (by decide), rdC_ne (by decide)]
    have u35 : (s' 0 35).toInt = (o : Int) + 1 := by rw [es', rdC_ne (by decide), rdC_ne (by decide), rdA_eq rfl, ad1 (by rw [f35, ← r1, h1]; omega), f35, ← r1, h1]
    have urow : ∀ c, c ≠ 0 → c ≠ 22 → c ≠ 23 → c ≠ 24 → s' c = s1 c := fun c c0 c22 c23 c24 => by rw [es', rdC_ne c24, rdC_ne c22, rdC_ne c0, rdC_ne c23]
    clear es'
    have e36 := hO.2.2.2.2.1.2.1
    have e51 := hO.2.2.2.1.1
    have e67 := hO.1
    have eok := hO.2.2.2.2.1
    obtain ⟨_, ⟨o1, o2⟩, ⟨o3, o4⟩, ⟨orm, orb⟩, o20⟩ := hom
    have k1 : s1 1 = σ 1 := funext (fun j => kx 1 j rfl rfl)
    have h5 : s 1 = s5 1 ∧ s 14 = s5 14 ∧ s 15 = s5 15 := ⟨hol1.1, hol1.2.2.1, hol1.2.2.2⟩
    have e5σ : s5 1 = σ 1 := v1'.trans ew
    have orr : ∀ i, i < m → ORR s s1 kd n i (lo + i + 4) (lo + i) := fun i hi => by
      have ho := hO.2.2.2.2.2 i hi
      rw [show (s 5 1).toInt.toNat - m + i = lo + i + 4 from by omega] at ho
      exact ho
    have bnd : ∀ i, i < m → 0 ≤ (s1 18 (lo + i)).toInt ∧ 0 ≤ (s1 19 (lo + i)).toInt ∧ (s1 18 (lo + i)).toInt + (s1 19 (lo + i)).toInt ≤ (s1 0 31).toInt := fun i hi => by
      obtain ⟨_, _, _, _, b5, _, _, b8⟩ := eok
      have x := b5 (lo + i) (by omega) (by omega)
      exact ⟨x.1, x.2.1, b8 (lo + i) (by omega) (by omega)⟩
    have new : ∀ i, i < m → EAr s s1 (lo + i) := fun i hi => new_enr hT' (orr i hi) h5 (D := lo + 4) (by omega) (by omega) (onm i (by omega)) (bnd i hi) (new_nd hr hBy hT hC5 e5σ hT' (orr i hi))
    have n57 : (w 5 7).toInt ≤ (s 5 7).toInt := by omega
    refine k _ t (fun e57 => ⟨lib_same rf.1 (fun d hd => ?_) (fun i hi => ?_), fun e he => ?_, fun A hA e f h4' h5' h6' hs => ?_, fun q => by rw [urow 13 (by decide) (by decide) (by decide) (by decide)]; exact orb q⟩)
    · rw [trow 25 (by decide) (by decide) (by decide) (by decide) (by decide), trow 26 (by decide) (by decide) (by decide) (by decide) (by decide), trow 27 (by decide) (by decide) (by decide) (by decide) (by decide), trow 28 (by decide) (by decide) (by decide) (by decide) (by decide), trow 29 (by decide) (by decide) (by decide) (by decide) (by decide)]
      exact keepd d (by omega)
    · rw [trow 30 (by decide) (by decide) (by decide) (by decide) (by decide)]
      exact keepn i (by omega)
    · rw [u36, e36] at he
      by_cases clt : e < lo
      · have hw := keepd (e + 4) (by omega)
        have hw3 := keepd (e + 3) (by omega)
        refine enr_same (rf.2.1 e (by omega)) ⟨?_, ?_⟩ (fun i hi => ?_) (by rw [t57]; exact n57) ?_ ?_ ?_ (fun c hc => ?_) (fun k hk => ?_) (fun i hi => ?_) (by rw [u31]; omega)
        · rw [trow 29 (by decide) (by decide) (by decide) (by decide) (by decide)]; exact hw.2.2.2.2
        · rw [trow 29 (by decide) (by decide) (by decide) (by decide) (by decide)]; exact hw3.2.2.2.2
        · rw [trow 30 (by decide) (by decide) (by decide) (by decide) (by decide)]; exact keepn i hi
        · rw [trow 25 (by decide) (by decide) (by decide) (by decide) (by decide)]; exact hw.1
        · rw [trow 26 (by decide) (by decide) (by decide) (by decide) (by decide)]; exact hw.2.1
        · rw [trow 27 (by decide) (by decide) (by decide) (by decide) (by decide)]; exact hw.2.2.1
        · rw [urow c (by omega) (by omega) (by omega) (by omega)]
          exact (orm e clt).1 c (by rcases hc with h | h | h | h | h | h <;> rw [h] <;> rfl)
        · rw [urow 16 (by decide) (by decide) (by decide) (by decide)]
          exact (orm e clt).2 k hk
        · rw [urow 20 (by decide) (by decide) (by decide) (by decide)]
          exact o20 i (by omega)
      · obtain ⟨i, hi⟩ : ∃ i, e = lo + i := ⟨e - lo, by omega⟩
        rw [hi]
        refine enr_same (new i (by omega)) ⟨?_, ?_⟩ (fun i hi => ?_) (by rw [t57]; omega) ?_ ?_ ?_ (fun c hc => ?_) (fun k hk => ?_) (fun i hi => ?_) (by rw [u31]; omega)
        · rw [trow 29 (by decide) (by decide) (by decide) (by decide) (by decide)]
        · rw [trow 29 (by decide) (by decide) (by decide) (by decide) (by decide)]
        · rw [trow 30 (by decide) (by decide) (by decide) (by decide) (by decide)]
        · rw [trow 25 (by decide) (by decide) (by decide) (by decide) (by decide)]
        · rw [trow 26 (by decide) (by decide) (by decide) (by decide) (by decide)]
        · rw [trow 27 (by decide) (by decide) (by decide) (by decide) (by decide)]
        · rw [urow c (by omega) (by omega) (by omega) (by omega)]
        · rw [urow 16 (by decide) (by decide) (by decide) (by decide)]
        · rw [urow 20 (by decide) (by decide) (by decide) (by decide)]
    · have x22 : ∀ q, q ≤ o → s' 22 q = σ 22 q := fun q hq => by
        rw [u22 q, if_neg (by omega), o2]
      rw [u35] at hA
      by_cases c : A < o
      · have hb := hmo.2 A (by omega)
        rw [x22 A (by omega)] at h4'
        rw [x22 (A + 1) (by omega)] at h6'
        have he : (e : Int) < (σ 0 36).toInt := by omega
        have hf : (f : Int) < (σ 0 36).toInt := by omega
        obtain ⟨_, _, _, _, ne⟩ := rf.2.1 e he
        obtain ⟨_, _, _, _, nf⟩ := rf.2.1 f hf
        have ro : ∀ (q : Nat), (q : Int) < (σ 0 36).toInt → ∀ c, c = 18 ∨ c = 19 → s' c q = σ c q := fun q hq c hc => by
          rw [urow c (by omega) (by omega) (by omega) (by omega)]
          exact (orm q (by omega)).1 c (by rcases hc with h | h <;> rw [h] <;> rfl)
        refine rf.2.2.1 A (by omega) e f h4' h5' h6' (sam_same ⟨ro e he 19 (Or.inr rfl), ro f hf 19 (Or.inr rfl)⟩ ⟨ro e he 18 (Or.inl rfl), ro f hf 18 (Or.inl rfl)⟩ ⟨ne.2.2.2.1, ne.2.2.2.2.2.1⟩ ⟨nf.2.2.2.1, nf.2.2.2.2.2.1⟩ (fun i hi => ?_) hs)
        rw [urow 20 (by decide) (by decide) (by decide) (by decide)]
        exact o20 i (by omega)
      · have eA : A = o := by omega
        rw [eA, x22 o (Nat.le_refl _)] at h4'
        rw [eA, u22 (o + 1), if_pos rfl, e36] at h6'
        have hlo : (σ 22 o).toInt = (lo : Int) := by
          have hx := congrArg Int32.toInt hE
          rw [show (σ 0 35).toNatClampNeg = o from nat_of (by rw [← r1, h1])] at hx
          omega
        rw [hlo] at h4'
        obtain ⟨i, hi⟩ : ∃ i, e = lo + i := ⟨e - lo, by omega⟩
        obtain ⟨j, hj⟩ : ∃ j, f = lo + j := ⟨f - lo, by omega⟩
        rw [hi, hj] at hs
        unfold SAMm at hs
        rw [urow 18 (by decide) (by decide) (by decide) (by decide), urow 19 (by decide) (by decide) (by decide) (by decide), urow 20 (by decide) (by decide) (by decide) (by decide)] at hs
        obtain ⟨a1, a2⟩ := new_nm hT' (orr i (by omega)) h5
        obtain ⟨b1, b2⟩ := new_nm hT' (orr j (by omega)) h5
        rcases odst i j (by omega) (by omega) with h | ⟨k, hk, h⟩
        · exact h (by rw [← a1, ← b1]; exact hs.1)
        · refine h ?_
          rw [← a2 k (by omega), ← b2 k (by rw [← hs.1]; omega)]
          exact hs.2 k (by omega)
  · have hv1 := p2.1 f0
    have sm : SAz σ s' := by
      rcases hfin with ⟨h0, _⟩ | ⟨_, sm⟩
      · exact absurd h0 hv1
      · rw [sm]; exact saz_1 kx hom eL hE
    unfold pk_X8_forget pk_X8_nameStart pk_X0_cut
    dsimp only
    refine same sm _ _ (fun d hd => ?_) (fun i hi => ?_)
    · rw [rdC_ne (by decide), rdC_ne (by decide), rdC_ne (by decide), rdC_ne (by decide), rdC_ne (by decide), rdC_ne (by decide), rdC_ne (by decide), rdC_ne (by decide), rdC_ne (by decide), rdC_ne (by decide), rdC_ne (by decide), rdC_ne (by decide), rdC_ne (by decide), rdC_ne (by decide), rdC_ne (by decide), rdC_ne (by decide), rdC_ne (by decide), rdC_ne (by decide), rdC_ne (by decide), rdC_ne (by decide), rdC_ne (by decide), rdC_ne (by decide), rdC_ne (by decide), rdC_ne (by decide), rdC_ne (by decide)]
      exact keepd d hd
    · rw [rdC_ne (by decide), rdC_ne (by decide), rdC_ne (by decide), rdC_ne (by decide), rdC_ne (by decide)]
      exact keepn i hi
end CPZ
end

section
/-! symbol() and name(), both sides -/
def fsy (f : Int32) : Int := (if (f &&& 1).toInt = 0 then 1 else 2) + (if (f &&& 4).toInt = 0 then (if (f &&& 8).toInt = 0 then 0 else 8) else 4)
def SYw (w : St) (a b v : Int32) : Prop := ∃ d : Int32, SAw w a b d.toInt ∧ (d.toInt < 0 → v = -1) ∧ (0 ≤ d.toInt → v.toInt = fsy (atv 10100 (w 25) d))
def SYr (σ : St) (a b v : Int32) : Prop := ∃ d : Int32, SAm σ a b d.toInt ∧ (d.toInt < 0 → v = -1) ∧ (0 ≤ d.toInt → v = ((σ 9 d.toNatClampNeg) + (if (σ 13 d.toNatClampNeg).toInt = 0 then 0 else 4)) + (if (σ 13 d.toNatClampNeg).toInt = 0 then (if (σ 14 d.toNatClampNeg).toInt = 0 then 0 else 8) else 0))
/-- byte c of the name of d -/
def NBw (w : St) (d c v : Int32) : Prop := (d.toInt < 0 → v = -1) ∧ ∀ D : Nat, d.toInt = (D : Int) + 1 → D + 1 < 10100 → 0 ≤ (w 29 D).toInt → (w 29 D).toInt ≤ (w 29 (D + 1)).toInt → (w 29 (D + 1)).toInt ≤ 65600 → ((c.toInt < 0 ∨ (w 29 (D + 1)).toInt - (w 29 D).toInt ≤ c.toInt) → v = -1) ∧ (0 ≤ c.toInt → c.toInt < (w 29 (D + 1)).toInt - (w 29 D).toInt → v = (w 30 ((w 29 D).toInt.toNat + c.toInt.toNat)) &&& 255)
def NBm (σ : St) (d c v : Int32) : Prop := (d.toInt < 0 → v = -1) ∧ (0 ≤ d.toInt → ((c.toInt < 0 ∨ (σ 19 d.toNatClampNeg).toInt ≤ c.toInt) → v = -1) ∧ (0 ≤ c.toInt → c.toInt < (σ 19 d.toNatClampNeg).toInt → v = σ 20 ((σ 18 d.toNatClampNeg) + c).toNatClampNeg))
def NMw2 (w : St) (a b c v : Int32) : Prop := ∃ d : Int32, SAw w a b d.toInt ∧ NBw w d c v
def NMr2 (σ : St) (a b c v : Int32) : Prop := ∃ d : Int32, SAm σ a b d.toInt ∧ NBm σ d c v
section SYN
variable {w σ s t τ : St} {vs z : List Nat} {a b c v v2 x : Int32} {o e : Nat}
theorem px_symbol {Q : Int32 → Prop} (h : IVx w o) (k : ∀ v, SYw w a b v → Q v) : pk_X12_symbol a b w Q := by
  unfold pk_X12_symbol
  refine px_symbolAt h (fun d hd => ⟨fun c0 => ?_, fun c0 => k _ ⟨d, hd, fun _ => rfl, fun c => by omega⟩⟩)
  have fin : ∀ v : Int32, v.toInt = fsy (atv 10100 (w 25) d) → Q v := fun v hv => k v ⟨d, hd, fun c => by omega, fun _ => hv⟩
  refine xl_is (fun v1 r1 h1 => ⟨fun y => y.toInt = if ((atv 10100 (w 25) d) &&& 1).toInt = 0 then 1 else 2, fun y hy => xl_is (fun v4 r4 h4 => ⟨fun z4 => xl_is (fun v8 r8 h8 => ⟨fun z8 => fin _ ?_, fun z8 => fin _ ?_⟩), fun z4 => fin _ ?_⟩), fun z1 => ?_, fun z1 => ?_⟩)
  · have q4 : ((atv 10100 (w 25) d) &&& 4).toInt = 0 := Classical.byContradiction (fun hc => (h4.2 hc) z4)
    have q8 : ((atv 10100 (w 25) d) &&& 8).toInt = 0 := Classical.byContradiction (fun hc => (h8.2 hc) z8)
    unfold fsy
    rw [if_pos q4, if_pos q8, hy]
    omega
  · have q4 : ((atv 10100 (w 25) d) &&& 4).toInt = 0 := Classical.byContradiction (fun hc => (h4.2 hc) z4)
    have hy2 : 1 ≤ y.toInt ∧ y.toInt ≤ 2 := by rw [hy]; split <;> omega
    unfold fsy
    rw [if_pos q4, if_neg (h8.1 z8), ← hy]
    exact ad (by rw [show (8 : Int32).toInt = 8 from rfl]; omega) (by rw [show (8 : Int32).toInt = 8 from rfl]; omega)
  · have hy2 : 1 ≤ y.toInt ∧ y.toInt ≤ 2 := by rw [hy]; split <;> omega
    unfold fsy
    rw [if_neg (h4.1 z4), ← hy]
    exact ad (by rw [show (4 : Int32).toInt = 4 from rfl]; omega) (by rw [show (4 : Int32).toInt = 4 from rfl]; omega)
  · rw [if_pos (Classical.byContradiction (fun hc => (h1.2 hc) z1))]
    rfl
  · rw [if_neg (h1.1 z1)]
    rfl
theorem rx_symbol {Q : Int32 → Prop} (h : GLI σ τ vs) (hd : ∀ A : Nat, ((A : Int) + 1) ≤ (σ 0 35).toInt → 0 ≤ (σ 22 A).toInt ∧ (σ 22 A).toInt ≤ (σ 22 (A + 1)).toInt ∧ (σ 22 (A + 1)).toInt ≤ 10000) (k : ∀ v, SYr σ a b v → Q v) : pp_symbol a b σ τ vs Q := by
  unfold pp_symbol
  refine rx_symbolAt h hd (fun d hd => ⟨fun c0 _ _ => ?_, fun c0 => k _ ⟨d, hd, fun _ => rfl, fun c => by omega⟩⟩)
  refine ⟨fun y => y = if (σ 13 d.toNatClampNeg).toInt = 0 then 0 else 4, fun y hy _ => ⟨fun c13 => k _ ⟨d, hd, fun c => by omega, fun _ => ?_⟩, fun c13 _ => ⟨fun c14 => k _ ⟨d, hd, fun c => by omega, fun _ => ?_⟩, fun c14 => k _ ⟨d, hd, fun c => by omega, fun _ => ?_⟩⟩⟩, fun c13 => ?_, fun c13 => ?_⟩
  · have hy' : y = if (σ 13 d.toNatClampNeg).toInt = 0 then 0 else 4 := hy
    rw [hy']
    simp only [if_neg c13]
  · have hy' : y = if (σ 13 d.toNatClampNeg).toInt = 0 then 0 else 4 := hy
    rw [hy']
    simp only [if_pos c13, if_pos c14]
  · have hy' : y = if (σ 13 d.toNatClampNeg).toInt = 0 then 0 else 4 := hy
    rw [hy']
    simp only [if_pos c13, if_neg c14]
  · rw [if_pos c13]
  · rw [if_neg c13]
theorem sym_eq (h : IVx w o) (r : RLp w σ) (re : RLe w σ) (rf : RLf w σ) (c : SYw w a b v) (m : SYr σ a b v2) : v = v2 := by
  obtain ⟨d, c1, c2, c3⟩ := c
  obtain ⟨d2, m1, m2, m3⟩ := m
  rcases sa_eq h r re c1 m1 with ⟨e1, e2⟩ | ⟨e, he, e1, e2⟩
  · rw [c2 (by omega), m2 (by omega)]
  · have hlt : e + 4 < 10100 := by
      obtain ⟨⟨h1, h1'⟩, h2, h3, -⟩ := h
      have d0 := de_le h2 o (Nat.le_refl _)
      have := r.2.1
      omega
    have n2 : d2.toNatClampNeg = e := nat_of e2
    have c4 := c3 (by omega)
    have m4 := m3 (by omega)
    rw [atv_at e1 hlt] at c4
    rw [n2] at m4
    obtain ⟨f1, _, f4, f9⟩ := re.2.2 e he
    have f8 := (rf.2.1 e he).2.1
    unfold FLq at f1 f4 f8
    refine ieq ?_
    rw [c4, m4]
    unfold fsy
    have k1 : ((w 25 (e + 4)) &&& 1).toInt = 0 ↔ (σ 9 e).toInt = 1 := ⟨fun q => Classical.byContradiction (fun q2 => f1.2 q2 q), fun q => Classical.byContradiction (fun q2 => f1.1 q2 q)⟩
    have k4 : ((w 25 (e + 4)) &&& 4).toInt = 0 ↔ (σ 13 e).toInt = 0 := ⟨fun q => Classical.byContradiction (fun q2 => f4.2 q2 q), fun q => Classical.byContradiction (fun q2 => f4.1 q2 q)⟩
    have k8 : ((w 25 (e + 4)) &&& 8).toInt = 0 ↔ (σ 14 e).toInt = 0 := ⟨fun q => Classical.byContradiction (fun q2 => f8.2 q2 q), fun q => Classical.byContradiction (fun q2 => f8.1 q2 q)⟩
    rcases f9 with g | g
    · have g' : σ 9 e = 1 := ieq g
      rw [if_pos (k1.2 g), g']
      by_cases x4 : (σ 13 e).toInt = 0
      · rw [if_pos (k4.2 x4), if_pos x4, if_pos x4]
        by_cases x8 : (σ 14 e).toInt = 0
        · rw [if_pos (k8.2 x8), if_pos x8]
          rfl
        · rw [if_neg (fun q => x8 (k8.1 q)), if_neg x8]
          rfl
      · rw [if_neg (fun q => x4 (k4.1 q)), if_neg x4, if_neg x4]
        rfl
    · have g' : σ 9 e = 2 := ieq g
      rw [if_neg (fun q => by have := k1.1 q; omega), g']
      by_cases x4 : (σ 13 e).toInt = 0
      · rw [if_pos (k4.2 x4), if_pos x4, if_pos x4]
        by_cases x8 : (σ 14 e).toInt = 0
        · rw [if_pos (k8.2 x8), if_pos x8]
          rfl
        · rw [if_neg (fun q => x8 (k8.1 q)), if_neg x8]
          rfl
      · rw [if_neg (fun q => x4 (k4.1 q)), if_neg x4, if_neg x4]
        rfl
theorem px_name {Q : Int32 → Prop} (h : IVx w o) (k : ∀ v, NMw2 w a b c v → Q v) : pk_X12_name a b c w Q := by
  unfold pk_X12_name pk_X8_nameByte pk_X8_nameStart
  refine px_symbolAt h (fun d hd => ?_)
  have d1 : 0 ≤ d.toInt → (d - (1 : Int32)).toInt = d.toInt - 1 := fun hd0 => by rw [sb (by rw [i1]; omega) (by rw [i1]; have := (s_rng d).2; omega), i1]
  by_cases hd0 : d.toInt < 0
  · have fin : Q ((-1) : Int32) := k _ ⟨d, hd, fun _ => rfl, fun D hD => by omega⟩
    refine ⟨fun y => y.toInt = 0, fun y hy => ⟨fun _ => fin, fun c0 => ⟨fun _ => fin, fun c1 => by omega⟩⟩, fun c0 => by omega, fun _ => rfl⟩
  · have d1 := d1 (by omega)
    have at1 : ∀ D : Nat, d.toInt = (D : Int) + 1 → D + 1 < 10100 → atv 10100 (w 29) d = w 29 (D + 1) ∧ atv 10100 (w 29) (d - (1 : Int32)) = w 29 D := fun D hD hlt => ⟨atv_at (by rw [hD]; rfl) hlt, atv_at (by rw [d1]; omega) (by omega)⟩
    refine ⟨fun y => y = (atv 10100 (w 29) d) - (atv 10100 (w 29) (d - (1 : Int32))), fun y hy => ⟨fun c0 => k _ ⟨d, hd, fun c => by omega, fun D hD hlt g1 g2 g3 => ⟨fun _ => rfl, fun c1 => by omega⟩⟩, fun c0 => ⟨fun c1 => k _ ⟨d, hd, fun c => by omega, fun D hD hlt g1 g2 g3 => ⟨fun _ => rfl, fun _ c2 => ?_⟩⟩, fun c1 => ⟨fun c2 => k _ ⟨d, hd, fun c => by omega, fun D hD hlt g1 g2 g3 => ⟨fun _ => rfl, fun _ c3 => ?_⟩⟩, fun c2 _ => k _ ⟨d, hd, fun c => by omega, fun D hD hlt g1 g2 g3 => ⟨fun c3 => ?_, fun _ c3 => ?_⟩⟩⟩⟩⟩, fun _ => rfl, fun c0 => by omega⟩
    · exfalso
      obtain ⟨a1, a2⟩ := at1 D hD hlt
      rw [hy, a1, a2, sb (by omega) (by omega)] at c1
      omega
    · exfalso
      obtain ⟨a1, a2⟩ := at1 D hD hlt
      rw [a2, ad (by omega) (by omega)] at c2
      omega
    · exfalso
      obtain ⟨a1, a2⟩ := at1 D hD hlt
      rw [hy, a1, a2, sb (by omega) (by omega)] at c1
      omega
    · obtain ⟨a1, a2⟩ := at1 D hD hlt
      rw [a2, nt', ad (by omega) (by omega), show ((w 29 D).toInt + c.toInt).toNat = (w 29 D).toInt.toNat + c.toInt.toNat from by omega]
theorem rx_name {Q : Int32 → Prop} (h : GLI σ τ vs) (hd : ∀ A : Nat, ((A : Int) + 1) ≤ (σ 0 35).toInt → 0 ≤ (σ 22 A).toInt ∧ (σ 22 A).toInt ≤ (σ 22 (A + 1)).toInt ∧ (σ 22 (A + 1)).toInt ≤ 10000) (k : ∀ v, NMr2 σ a b c v → Q v) : pp_name a b c σ τ vs Q := by
  unfold pp_name
  exact rx_symbolAt h hd (fun d hd => ⟨fun c0 => k _ ⟨d, hd, fun _ => rfl, fun c => by omega⟩, fun c0 => ⟨fun c1 => k _ ⟨d, hd, fun c => by omega, fun _ => ⟨fun _ => rfl, fun c2 => by omega⟩⟩, fun c1 _ => ⟨fun c2 => k _ ⟨d, hd, fun c => by omega, fun _ => ⟨fun _ => rfl, fun _ c3 => by omega⟩⟩, fun c2 _ _ => k _ ⟨d, hd, fun c => by omega, fun _ => ⟨fun c3 => by omega, fun _ _ => rfl⟩⟩⟩⟩⟩)
theorem name_eq (h : IVx w o) (hG : GLI σ τ vs) (r : RLp w σ) (re : RLe w σ) (rf : RLf w σ) (cc : NMw2 w a b c v) (m : NMr2 σ a b c v2) : v = v2 := by
  obtain ⟨d, c1, c2, c3⟩ := cc
  obtain ⟨d2, m1, m2, m3⟩ := m
  rcases sa_eq h r re c1 m1 with ⟨e1, e2⟩ | ⟨e, he, e1, e2⟩
  · rw [c2 (by omega), m2 (by omega)]
  · obtain ⟨⟨h1, h1'⟩, h2, h3, h4, ⟨f1, f2, f3⟩, -⟩ := h
    have hlt : e + 4 < 10100 := by
      have d0 := de_le h2 o (Nat.le_refl _)
      have := r.2.1
      omega
    have n2 : d2.toNatClampNeg = e := nat_of e2
    have r3 := r.2.2.1
    obtain ⟨a1, a2, a3, a4, a5, a6, a7⟩ := (rf.2.1 e he).2.2.2.2
    have c4 := c3 (e + 3) (by rw [e1]; omega) (by omega) a3 (by show (w 29 (e + 3)).toInt ≤ (w 29 (e + 4)).toInt; omega) (by show (w 29 (e + 4)).toInt ≤ 65600; omega)
    rw [show e + 3 + 1 = e + 4 from rfl] at c4
    have m4 := m3 (by omega)
    rw [n2] at m4
    by_cases hc : c.toInt < 0 ∨ (σ 19 e).toInt ≤ c.toInt
    · rw [c4.1 (by omega), m4.1 hc]
    · rw [c4.2 (by omega) (by omega), m4.2 (by omega) (by omega)]
      obtain ⟨b1, b2, b3⟩ := a7 c.toInt.toNat (by omega)
      have ei : ((σ 18 e) + c).toNatClampNeg = (σ 18 e).toInt.toNat + c.toInt.toNat := by rw [nt', ad (by omega) (by omega)]; omega
      rw [ei]
      refine ieq ?_
      have x := (bq (x := w 30 ((w 29 (e + 3)).toInt.toNat + c.toInt.toNat)) (c := (w 30 ((w 29 (e + 3)).toInt.toNat + c.toInt.toNat)).toInt) (by omega) (by omega)).2 rfl
      rw [x]
      exact b1
end SYN
end

section
/-! all calls: all of what is declared stays alike -/
def RLb (w σ : St) : Prop := RLa w σ ∧ RLf w σ
section CLB
variable {w σ s s1 t τ : St} {vs z : List Nat} {a b c a1 a2 a3 a4 a5 v v2 : Int32} {o : Nat}
theorem rlf_0 : RLf sc0 sm0 := by
  refine ⟨⟨fun d _ => ⟨rfl, rfl, rfl, rfl, rfl⟩, fun i _ => rfl⟩, fun e he => ?_, fun A hA => ?_, fun e => Or.inl ?_⟩
  · rw [show (sm0 0 36).toInt = 0 from by decide] at he
    omega
  · rw [show (sm0 0 35).toInt = 0 from by decide] at hA
    omega
  · exact rfl
theorem rlb_0 : RLb sc0 sm0 := ⟨rla_0, rlf_0⟩
theorem rlf_cells (h : RLf w σ) (c : (∀ c, 2 ≤ c → t c = w c) ∧ ∀ j, 3 ≤ j → t 0 j = w 0 j) (m : (∀ c, 2 ≤ c → s c = σ c) ∧ ∀ j, 3 ≤ j → s 0 j = σ 0 j) : RLf t s := rlf_same h (fun q h1 h2 => c.1 q (by omega)) (by rw [c.1 5 (by decide)]) (fun q hq => m.1 q (by omega)) (m.2 31 (by decide)) (m.2 35 (by decide)) (m.2 36 (by decide))
theorem rlb_feed (h : RLb w σ) (c : FDt a1 a2 a3 a4 a5 w t) (m : FDt a1 a2 a3 a4 a5 σ s) : RLb t s := ⟨rla_feed h.1 c m, rlf_cells h.2 (fd_cells c) (fd_cells m)⟩
theorem rlb_end (h : RLb w σ) (c : ENt a w t) (m : ENt a σ s) : RLb t s := ⟨rla_end h.1 c m, rlf_cells h.2 (en_cells c) (en_cells m)⟩
theorem rlf_frame (h : RLf w σ) (c : FQs w t) (m : FMs σ s) (g : FGs σ s) : RLf t s := rlf_same h (fun q h1 h2 => c q (by
    unfold FQw
    simp only [List.contains_cons, List.contains_nil, Bool.or_false, Bool.or_eq_true, beq_iff_eq]
    omega)) (by rw [c 5 (by unfold FQw; decide)]) (fun q hq => g q (by omega) (by omega)) m.2.2.2.1 m.2.2.2.2.1 m.2.2.2.2.2
theorem rlb_frame (h : RLb w σ) (c : FQs w t) (c2 : FWs w t) (m : FMs σ s) (g : FGs σ s) (f : FHs σ s) : RLb t s := ⟨rla_frame h.1 c c2 m g f, rlf_frame h.2 c m g⟩
theorem rlb_link (h : RLb w σ) (c : FQs w t) (c2 : (t 10 5).toInt = 1) (m : FMs σ s) (g : FGs σ s) (f : (s 0 67).toInt = 0) : RLb t s := ⟨rla_link h.1 c c2 m g f, rlf_frame h.2 c m g⟩
theorem rlb_cell (h : RLb w σ) (c : t = upC w 0 1 (0 : Int32)) (h1 : (s 0 1).toInt = 0) (h2 : s 0 2 = σ 0 2) (m : FCs σ s) (g : FGs σ s) (f : FHs σ s) : RLb t s := by
  have r : ∀ c, c ≠ 0 → t c = w c := fun q hq => by rw [c, rdC_ne hq]
  exact ⟨rla_cell h.1 c h1 h2 m g f, rlf_same h.2 (fun q h1 h2 => r q (by omega)) (by rw [r 5 (by decide)]) (fun q hq => g q (by omega) (by omega)) m.2.1 m.2.2.1 m.2.2.2⟩
theorem rlb_pick (hG : GLI σ τ vs) (h : RLb w σ) (ht : ∃ o, IVx t o) (c : FQs w t) (p : PCw w a v t) (m : FMs σ s) (g : FGs σ s) (q : PCm σ a v2 s) : v2 = v ∧ RLb t s := by
  obtain ⟨e, r⟩ := rla_pick hG h.1 ht c p m g q
  exact ⟨e, r, rlf_frame h.2 c m g⟩
theorem cb_compile (h : IVx w o) (hG : GLI σ τ vs) (r : RLb w σ) : wk_X12_compile a w (fun _ t => (∃ o, IVx t o) ∧ ∀ s : St, CMPz a σ s → (s 0 1).toInt = 0 → s 0 2 = σ 0 2 → RLb t s) := mf_wk_X12_compile (Q1 := fun _ t => (∃ o, IVx t o) ∧ ∀ s : St, CMPx a σ s → (s 0 1).toInt = 0 → s 0 2 = σ 0 2 → RLa t s) (Q2 := fun s _ t => CMPz a σ s → (t 5 7).toInt = (s 0 31).toInt + 15 → RLf t s) (fun v t p q => ⟨p.1, fun s c h1 h2 => ⟨p.2 s (cmz_x c) h1 h2, q s c (p.2 s (cmz_x c) h1 h2).1.2.2.1⟩⟩) (ca_compile h hG r.1) (fun s => by
  by_cases c : CMPz a σ s
  · have hE := hG.2.1.1
    exact pl_compilez h r.1.1 r.1.2.1 r.2 hE c (fun v t q _ => q)
  · exact wl_wk_X12_compile (fun v t _ hc => absurd hc c) (sk_compile (Q := fun _ _ => True) h (fun _ _ _ _ => trivial)))
theorem wb_compile {Q : Int32 → St → St → List Nat → Prop} (h : GLI σ τ vs) (hF : (σ 0 2).toInt ≤ 10240) (hB : ∀ j, -128 ≤ (σ 1 j).toInt ∧ (σ 1 j).toInt ≤ 127) (hb13 : B13 σ) (k : ∀ r s t z, GLI s t z → (s 0 1).toInt = 0 → s 0 2 = σ 0 2 → CMPz a σ s → Q r s t z) : wp_compile a σ τ vs Q := mg_wp_compile (fun r s t z p q => k r s t z p.1 p.2.1 p.2.2 q) (sp_compile (Q := fun _ s t z => GLI s t z ∧ (s 0 1).toInt = 0 ∧ s 0 2 = σ 0 2) h hF (fun _ s t z g h1 h2 => ⟨g, h1, h2⟩)) (es_compilez (Q := fun _ s _ _ => CMPz a σ s) h hF hB hb13 (fun _ _ _ _ q => q))
theorem cb_symbol (h : IVx w o) : wk_X12_symbol a b w (fun v => SYw w a b v) := mg_wk_X12_symbol (fun _ _ q => q) (sk_symbol (Q := fun _ => True) (fun _ => trivial)) (px_symbol (Q := fun v => SYw w a b v) h (fun _ q => q))
theorem wb_symbol (h : IVx w o) (hG : GLI σ τ vs) (r : RLp w σ) (re : RLe w σ) : wp_symbol a b σ τ vs (fun v => SYr σ a b v) := mg_wp_symbol (fun _ _ q => q) (sp_symbol (Q := fun _ => True) hG (fun _ => trivial)) (rx_symbol (Q := fun v => SYr σ a b v) hG (hd_of h hG r re) (fun _ q => q))
theorem cb_name (h : IVx w o) : wk_X12_name a b c w (fun v => NMw2 w a b c v) := mg_wk_X12_name (fun _ _ q => q) (sk_name (Q := fun _ => True) h.2.2.2.2.2.1.2 (fun _ => trivial)) (px_name (Q := fun v => NMw2 w a b c v) h (fun _ q => q))
theorem wb_name (h : IVx w o) (hG : GLI σ τ vs) (r : RLp w σ) (re : RLe w σ) : wp_name a b c σ τ vs (fun v => NMr2 σ a b c v) := mg_wp_name (fun _ _ q => q) (sp_name (Q := fun _ => True) hG (fun _ => trivial)) (rx_name (Q := fun v => NMr2 σ a b c v) hG (hd_of h hG r re) (fun _ q => q))
end CLB
end

section
/-! link(), the class: which fault there is, exactly -/
def AGc (w : St) (d v : Int32) : Prop := v.toInt < 0 ∨ ((FLb (atv 10100 (w 25) d) 1 ↔ FLb (atv 10100 (w 25) v) 1) ∧ (atv 10100 (w 26) d).toInt = (atv 10100 (w 26) v).toInt ∧ ((atv 10100 (w 27) d).toInt = (atv 10100 (w 27) v).toInt ∨ (¬ FLb (atv 10100 (w 25) d) 1 ∧ (atv 10100 (w 27) d).toInt = 0 ∧ 0 < (atv 10100 (w 27) v).toInt)))
/-- a fault of a number at a symbol d of what is picked as x-th -/
def WRc (w : St) (kind : Int) (x d : Int32) : Prop := (FLb (atv 10100 (w 25) d) 4 ∧ kind = 31 ∧ ∃ v, DFi w x.toInt d v ∧ 0 ≤ v.toInt) ∨ (¬ FLb (atv 10100 (w 25) d) 4 ∧ kind = 32 ∧ FLb (atv 10100 (w 25) d) 8 ∧ ∃ v, DFi w (w 10 5).toInt d v ∧ v.toInt < 0) ∨ (¬ FLb (atv 10100 (w 25) d) 4 ∧ kind = 33 ∧ ∃ v, DFi w (w 10 5).toInt d v ∧ ¬ AGc w d v)
/-- none of a number -/
def NOc (w : St) (kind : Int) : Prop := ∀ x : Int32, 1 ≤ x.toInt → x.toInt < (w 10 5).toInt → ∀ d, RGi w x d → ¬ FLb (atv 10100 (w 25) d) 2 → ¬ WRc w kind x d
/-- the first of a number, at symbol c of the x-th -/
def FRc (w : St) (kind : Int) (x d c : Int32) : Prop := (1 ≤ x.toInt ∧ x.toInt < (w 10 5).toInt) ∧ (RGi w x d ∧ ¬ FLb (atv 10100 (w 25) d) 2 ∧ WRc w kind x d) ∧ (∀ x' : Int32, 1 ≤ x'.toInt → x'.toInt < x.toInt → ∀ d, RGi w x' d → ¬ FLb (atv 10100 (w 25) d) 2 → ¬ WRc w kind x' d) ∧ (∀ d', RGi w x d' → d'.toInt < d.toInt → ¬ FLb (atv 10100 (w 25) d') 2 → ¬ WRc w kind x d') ∧ c.toInt = ((czn (fun d => ((w 25 d) &&& 2).toInt) (LOi w x).toNat (d.toInt - LOi w x).toNat : Nat) : Int)
/-- it is int main(void) -/
def MNc (w : St) (v : Int32) : Prop := 0 ≤ v.toInt ∧ FLb (atv 10100 (w 25) v) 1 ∧ (atv 10100 (w 26) v).toInt = 0 ∧ (atv 10100 (w 27) v).toInt = 0
section LKC
variable {w s t u : St} {a1 a2 a3 x v d : Int32} {o : Nat}
theorem px_agrees {Q : Int32 → Prop} (k1 : AGc w a1 a2 → Q (1 : Int32)) (k0 : ¬ AGc w a1 a2 → Q (0 : Int32)) : pk_X4_agrees a1 a2 w Q := by
  unfold pk_X4_agrees
  refine xl_is (fun v31 r31 h31 => ⟨fun y => y.toInt ≠ 0 ↔ (v31.toInt = 0 ∧ (atv 10100 (w 27) a1).toInt = 0 ∧ 0 < (atv 10100 (w 27) a2).toInt), fun y0 ry hy => ⟨fun c => k1 (Or.inl c), fun c => xl_is (fun v69 r69 h69 => ⟨fun c1 => k0 ?_, fun c1 => ⟨fun c2 => k0 ?_, fun c2 => ⟨fun c3 => k1 (Or.inr ⟨?_, c2, Or.inl c3⟩), fun c3 => ⟨fun c4 => k0 ?_, fun c4 => k1 (Or.inr ⟨?_, c2, Or.inr ⟨?_, (hy.1 c4).2⟩⟩)⟩⟩⟩⟩)⟩, ?_⟩)
  · rintro (g | ⟨g1, g2, g3⟩)
    · omega
    · by_cases q : v31.toInt = 0
      · have q2 : v69.toInt ≠ 0 := by omega
        exact absurd (g1.2 (h69.1 q2)) (fun f => (h31.2 f) q)
      · have q2 : v69.toInt = 0 := by
          have := g1.1 (h31.1 q)
          rcases r69 with g | g
          · exact g
          · rcases r31 with g' | g'
            · exact absurd g' q
            · omega
        exact absurd (g1.1 (h31.1 q)) (fun f => (h69.2 f) q2)
  · rintro (g | ⟨g1, g2, g3⟩)
    · omega
    · exact c2 g2
  · exact ⟨fun f => h69.1 (by have := h31.2 f; omega), fun f => h31.1 (by have := h69.2 f; omega)⟩
  · rintro (g | ⟨g1, g2, g3 | ⟨g3, g4, g5⟩⟩)
    · omega
    · exact c3 g3
    · have q : v31.toInt = 0 := Classical.byContradiction (fun hc => g3 (h31.1 hc))
      have := hy.2 ⟨q, g4, g5⟩
      omega
  · exact ⟨fun f => h69.1 (by have := h31.2 f; omega), fun f => h31.1 (by have := h69.2 f; omega)⟩
  · intro f
    exact (h31.2 f) (hy.1 c4).1
  · by_cases g : v31.toInt = 0 ∧ (atv 10100 (w 27) a1).toInt = 0 ∧ 0 < (atv 10100 (w 27) a2).toInt
    · exact ⟨False, fun hx => hx.elim, fun c => absurd g.1 c, fun _ => ⟨fun c => absurd g.2.1 c, fun _ => ⟨fun c => by omega, fun _ => ⟨fun _ => g, fun _ => by decide⟩⟩⟩⟩
    · exact ⟨True, fun _ => ⟨fun hx => absurd rfl hx, fun h => absurd h g⟩, fun _ => trivial, fun c0 => ⟨fun _ => trivial, fun c1 => ⟨fun _ => trivial, fun c2 => absurd ⟨c0, c1, c2⟩ g⟩⟩⟩
theorem px_definition {Q : Int32 → Prop} (hb : NEb w) (k : ∀ v, DFi w a1.toInt a2 v → Q v) : pk_X4_definition a1 a2 w Q := wl_wk_X4_definition (fun v p => k v p) (sp_definition hb (fun v p => p))
theorem dfi_one {n : Int} {v' : Int32} (h : DFi w n d v) (h' : DFi w n d v') : v = v' := fst_one h h'
theorem px_isWrong {Q : Int32 → Prop} (hb : NEb w) (k1 : WRc w a1.toInt a2 a3 → Q (1 : Int32)) (k0 : ¬ WRc w a1.toInt a2 a3 → Q (0 : Int32)) : pk_X4_isWrong a1 a2 a3 w Q := by
  unfold pk_X4_isWrong
  refine xl_is (fun v6 r6 h6 => ⟨fun c6 => ?_, fun c6 => ?_⟩)
  · have n4 : ¬ FLb (atv 10100 (w 25) a3) 4 := fun f => (h6.2 f) c6
    refine ⟨fun c32 => ⟨fun c33 => k0 ?_, fun c33 => px_definition hb (fun v hv => px_agrees (fun ag => ⟨fun _ => k0 ?_, fun z => absurd z (by decide)⟩) (fun ag => ⟨fun z => absurd rfl z, fun _ => k1 (Or.inr (Or.inr ⟨n4, c33, v, hv, ag⟩))⟩))⟩, fun c32 => xl_is (fun v8 r8 h8 => ⟨fun c8 => k0 ?_, fun c8 => px_definition hb (fun v hv => ⟨fun cv => k0 ?_, fun cv => k1 (Or.inr (Or.inl ⟨n4, c32, h8.1 c8, v, hv, cv⟩))⟩)⟩)⟩
    · rintro (⟨g, _⟩ | ⟨_, g, _⟩ | ⟨_, g, _⟩)
      · exact n4 g
      · exact c32 g
      · exact c33 g
    · rintro (⟨g, _⟩ | ⟨_, g, _⟩ | ⟨_, g, v', g1, g2⟩)
      · exact n4 g
      · exact c32 g
      · exact g2 (by rw [dfi_one g1 hv]; exact ag)
    · rintro (⟨g, _⟩ | ⟨_, _, g, _⟩ | ⟨_, g, _⟩)
      · exact n4 g
      · exact (h8.2 g) c8
      · omega
    · rintro (⟨g, _⟩ | ⟨_, _, _, v', g1, g2⟩ | ⟨_, g, _⟩)
      · exact n4 g
      · rw [dfi_one g1 hv] at g2
        omega
      · omega
  · have y4 : FLb (atv 10100 (w 25) a3) 4 := h6.1 c6
    refine ⟨fun c31 => k0 ?_, fun c31 => px_definition hb (fun v hv => ⟨fun cv => k0 ?_, fun cv => k1 (Or.inl ⟨y4, c31, v, hv, cv⟩)⟩)⟩
    · rintro (⟨_, g, _⟩ | ⟨g, _⟩ | ⟨g, _⟩)
      · exact c31 g
      · exact g y4
      · exact g y4
    · rintro (⟨_, _, v', g1, g2⟩ | ⟨g, _⟩ | ⟨g, _⟩)
      · rw [dfi_one g1 hv] at g2
        omega
      · exact g y4
      · exact g y4
theorem px_firstI {Q : Int32 → Prop} (k : ∀ v : Int32, v.toInt = LOi w x → Q v) : pk_X8_firstOf (atv 101 (w 56) x) w Q := wl_wk_X8_firstOf (fun v p => k v p) (sp_firstI (fun v p => p))
theorem px_look {Q : Int32 → St → Prop} (hb : NEb w) (rn : RNo w) (k0 : NOc w a1.toInt → Q (0 : Int32) w) (k1 : ∀ x d c, FRc w a1.toInt x d c → Q a1 (upC (upC w 10 3 (x - (1 : Int32))) 10 4 c)) : pk_X4_look a1 w Q := by
  unfold pk_X4_look
  refine ⟨fun x => 1 ≤ x.toInt ∧ ∀ x' : Int32, 1 ≤ x'.toInt → x'.toInt < x.toInt → ∀ d, RGi w x' d → ¬ FLb (atv 10100 (w 25) d) 2 → ¬ WRc w a1.toInt x' d, ⟨by decide, fun x' p1 p2 => absurd p2 (by rw [i1]; omega)⟩, ?_⟩
  rintro x ⟨h0, ha⟩
  refine ⟨fun c => k0 (fun x' p1 p2 => ha x' p1 (by omega)), fun c => px_firstI (fun v0 hv0 => ?_)⟩
  have up := up_lt c
  obtain ⟨g0, g2⟩ := rn x (by omega) c
  refine ⟨fun z y => LOi w x ≤ y.toInt ∧ z.toInt = ((czn (fun d => ((w 25 d) &&& 2).toInt) (LOi w x).toNat (y.toInt - LOi w x).toNat : Nat) : Int) ∧ ∀ d, RGi w x d → d.toInt < y.toInt → ¬ FLb (atv 10100 (w 25) d) 2 → ¬ WRc w a1.toInt x d, ⟨by omega, ?_, fun d p1 p2 => absurd p1.1 (by omega)⟩, ?_⟩
  · rw [hv0, show (LOi w x - LOi w x).toNat = 0 from by omega]
    rfl
  rintro z y ⟨hl, hz, hy⟩
  refine ⟨fun c1 => ?_, fun c1 => ?_⟩
  · have c2 : HIi w x ≤ y.toInt := c1
    refine ⟨by rw [up]; omega, fun x' p1 p2 d p3 => ?_⟩
    rw [up] at p2
    by_cases ce : x'.toInt = x.toInt
    · have ex : x' = x := ieq ce
      subst ex
      exact hy d p3 (by have := p3.2; omega)
    · exact ha x' p1 (by omega) d p3
  · have c2 : y.toInt < HIi w x := c1
    have upy := up_lt c1
    have aty : atv 10100 (w 25) y = w 25 y.toInt.toNat := atv_at (by omega) (by omega)
    have ey : (LOi w x).toNat + (y.toInt - LOi w x).toNat = y.toInt.toNat := by omega
    have en : ((y + 1).toInt - LOi w x).toNat = (y.toInt - LOi w x).toNat + 1 := by rw [upy]; omega
    have nx : ∀ z' : Int32, z'.toInt = ((czn (fun d => ((w 25 d) &&& 2).toInt) (LOi w x).toNat ((y.toInt - LOi w x).toNat + 1) : Nat) : Int) → (¬ FLb (atv 10100 (w 25) y) 2 → ¬ WRc w a1.toInt x y) → LOi w x ≤ (y + 1).toInt ∧ z'.toInt = ((czn (fun d => ((w 25 d) &&& 2).toInt) (LOi w x).toNat ((y + 1).toInt - LOi w x).toNat : Nat) : Int) ∧ ∀ d, RGi w x d → d.toInt < (y + 1).toInt → ¬ FLb (atv 10100 (w 25) d) 2 → ¬ WRc w a1.toInt x d := fun z' hz' nc => by
      refine ⟨by rw [upy]; omega, by rw [en]; exact hz', fun d p1 p2 => ?_⟩
      rw [upy] at p2
      by_cases ce : d.toInt = y.toInt
      · have ex : d = y := ieq ce
        rw [ex]
        exact nc
      · exact hy d p1 (by omega)
    have hle := cz_le (f := fun d => ((w 25 d) &&& 2).toInt) (lo := (LOi w x).toNat) (n := (y.toInt - LOi w x).toNat)
    have step : czn (fun d => ((w 25 d) &&& 2).toInt) (LOi w x).toNat ((y.toInt - LOi w x).toNat + 1) = czn (fun d => ((w 25 d) &&& 2).toInt) (LOi w x).toNat (y.toInt - LOi w x).toNat + if ((atv 10100 (w 25) y) &&& 2).toInt = 0 then 1 else 0 := by
      rw [cz_s]
      show _ + (if ((w 25 ((LOi w x).toNat + (y.toInt - LOi w x).toNat)) &&& 2).toInt = 0 then 1 else 0) = _
      rw [ey, aty]
    refine xl_is (fun v55 r55 h55 => ⟨fun y0 => y0.toInt = if v55.toInt = 0 then 1 else 0, fun y0 r0 hy0 => ⟨¬ FLb (atv 10100 (w 25) y) 2 → ¬ WRc w a1.toInt x y, fun hj => ⟨fun y1 => y1.toInt = if v55.toInt = 0 then 1 else 0, fun y1 r1 hy1 => nx _ ?_ hj, fun c3 => ?_, fun c3 => ?_⟩, fun c3 nf => ?_, fun c3 => px_isWrong hb (fun g => ⟨fun z => absurd z (by decide), fun _ => k1 x y z ⟨⟨h0, c⟩, ⟨⟨hl, c2⟩, ?_, g⟩, ha, hy, hz⟩⟩) (fun g => ⟨fun _ _ => g, fun z => absurd rfl z⟩)⟩, fun c3 => ?_, fun c3 => ?_⟩)
    · rw [ad (by rw [hy1]; split <;> omega) (by rw [hy1]; split <;> omega), hz, hy1, step]
      by_cases q : v55.toInt = 0
      · rw [if_pos q, if_pos (Classical.byContradiction (fun hc => (h55.2 hc) q))]
        rfl
      · rw [if_neg q, if_neg (h55.1 q)]
        rfl
    · exact i0.trans (c3.symm.trans hy0)
    · rcases r0 with q | q
      · rw [q] at c3
        exact absurd rfl c3
      · rw [q] at hy0
        rw [← hy0]
    · by_cases q : v55.toInt = 0
      · rw [if_pos q] at hy0
        omega
      · exact absurd (h55.1 q) nf
    · intro f
      by_cases q : v55.toInt = 0
      · exact (h55.2 f) q
      · rw [if_neg q] at hy0
        exact c3 hy0
    · rw [if_neg c3]
      rfl
    · rw [if_pos c3]
      rfl
theorem px_isMain {Q : Int32 → Prop} (k1 : MNc w v → Q (1 : Int32)) (k0 : ¬ MNc w v → Q (0 : Int32)) : pk_X4_isMain v w Q := by
  unfold pk_X4_isMain
  refine ⟨fun c => k0 (fun h => by have := h.1; omega), fun c => xl_is (fun v10 r10 h10 => ⟨fun c1 => k0 (fun h => (h10.2 h.2.1) c1), fun c1 => ⟨fun c2 => k0 (fun h => c2 h.2.2.1), fun c2 => ⟨fun c3 => k0 (fun h => c3 h.2.2.2), fun c3 => k1 ⟨c, h10.1 c1, c2, c3⟩⟩⟩⟩)⟩
end LKC
end

