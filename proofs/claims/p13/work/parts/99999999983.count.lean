/-! count(), both sides -/
/-- how many of n from lo on have nothing -/
def czn (f : Nat → Int) (lo : Nat) : Nat → Nat
  | 0 => 0
  | n + 1 => czn f lo n + if f (lo + n) = 0 then 1 else 0
def CNw (w : St) (a b v : Int32) : Prop := (¬ (1 ≤ a.toInt ∧ a.toInt ≤ (w 5 13).toInt ∧ 0 ≤ b.toInt ∧ b.toInt ≤ 1) → v = -1) ∧ ∀ A : Nat, a.toInt = (A : Int) + 1 → a.toInt ≤ (w 5 13).toInt → (b.toInt = 1 → v = w 37 (A + 1)) ∧ (b.toInt = 0 → v.toInt = ((czn (fun d => ((w 25 d) &&& 2).toInt) (w 34 A).toInt.toNat ((w 34 (A + 1)).toInt.toNat - (w 34 A).toInt.toNat) : Nat) : Int))
def CNm (σ : St) (a b v : Int32) : Prop := (¬ (1 ≤ a.toInt ∧ a.toInt ≤ (σ 0 35).toInt ∧ 0 ≤ b.toInt ∧ b.toInt ≤ 1) → v = -1) ∧ ∀ A : Nat, a.toInt = (A : Int) + 1 → a.toInt ≤ (σ 0 35).toInt → (b.toInt = 1 → v = σ 23 A) ∧ (b.toInt = 0 → v.toInt = ((czn (fun e => (σ 12 e).toInt) (σ 22 A).toInt.toNat ((σ 22 (A + 1)).toInt.toNat - (σ 22 A).toInt.toNat) : Nat) : Int))
section CNT
variable {w σ s t τ : St} {vs z : List Nat} {a b x x2 x3 y : Int32} {o n lo N A : Nat} {f g : Nat → Int}
theorem cz_s : czn f lo (n + 1) = czn f lo n + if f (lo + n) = 0 then 1 else 0 := rfl
theorem cz_le : ∀ {n : Nat}, czn f lo n ≤ n
  | 0 => Nat.le_refl 0
  | n + 1 => by
    have : czn f lo n ≤ n := cz_le
    rw [cz_s]
    by_cases c : f (lo + n) = 0
    · rw [if_pos c]; omega
    · rw [if_neg c]; omega
theorem cz_eq {lo2 : Nat} : ∀ {n : Nat}, (∀ i, i < n → (f (lo + i) = 0 ↔ g (lo2 + i) = 0)) → czn f lo n = czn g lo2 n
  | 0, _ => rfl
  | n + 1, h => by
    rw [cz_s, cz_s, cz_eq (n := n) (fun i hi => h i (Nat.lt_succ_of_lt hi))]
    have h1 := h n (Nat.lt_succ_self n)
    by_cases c : f (lo + n) = 0
    · rw [if_pos c, if_pos (h1.1 c)]
    · rw [if_neg c, if_neg (fun c2 => c (h1.2 c2))]
theorem px_count {Q : Int32 → Prop} (h : IVx w o) (k : ∀ v, CNw w a b v → Q v) : pk_X12_count a b w Q := by
  obtain ⟨⟨h1, h1'⟩, h2, h3, -⟩ := h
  have d0 := de_le h2
  have e1 : (1 : Int32).toInt = 1 := i1
  have bad : ∀ v : Int32, v = -1 → ¬ (1 ≤ a.toInt ∧ a.toInt ≤ (w 5 13).toInt ∧ 0 ≤ b.toInt ∧ b.toInt ≤ 1) → Q v := fun v hv hn => by
    refine k v ⟨fun _ => hv, fun A hA hA2 => ⟨fun hb => absurd ⟨by omega, hA2, by omega, by omega⟩ hn, fun hb => absurd ⟨by omega, hA2, by omega, by omega⟩ hn⟩⟩
  unfold pk_X12_count pk_X8_has
  refine ⟨fun c => ⟨fun _ => bad _ rfl (by omega), fun hx => absurd rfl hx⟩, fun c1 => ⟨fun c2 => ⟨fun _ => bad _ rfl (by omega), fun hx => absurd rfl hx⟩, fun c2 => ⟨fun hx => absurd hx (by decide), fun _ => ⟨fun c3 => bad _ rfl (by omega), fun c3 => ⟨fun c4 => ⟨fun c5 => ?_, fun c5 => ?_⟩, fun c4 => bad _ rfl (by omega)⟩⟩⟩⟩⟩
  · obtain ⟨A, hA⟩ : ∃ A : Nat, a.toInt = (A : Int) + 1 := ⟨(a.toInt - 1).toNat, by omega⟩
    have at37 : atv 101 (w 37) a = w 37 (A + 1) := atv_at (by rw [hA]; rfl) (by omega)
    rw [at37]
    refine k _ ⟨fun hn => absurd ⟨c1, c2, c3, c4⟩ hn, fun B hB _ => ⟨fun _ => ?_, fun hb => absurd hb c5⟩⟩
    have : B = A := by omega
    rw [this]
  · obtain ⟨A, hA⟩ : ∃ A : Nat, a.toInt = (A : Int) + 1 := ⟨(a.toInt - 1).toNat, by omega⟩
    have hAo : A + 1 ≤ o := by omega
    have a34 : atv 101 (w 34) a = w 34 (A + 1) := atv_at (by rw [hA]; rfl) (by omega)
    have a33 : atv 101 (w 34) (a - (1 : Int32)) = w 34 A := atv_at (by rw [sb (by omega) (by omega), e1]; omega) (by omega)
    have q1 := d0 A (by omega)
    have q2 := d0 (A + 1) hAo
    have q3 := h2.2 A (by omega)
    unfold pk_X8_symbolsOf pk_X8_firstOf
    rw [a33, a34]
    refine ⟨fun _ => ?_, fun hx => by omega⟩
    refine ⟨fun x2 x3 => ∃ n : Nat, x3.toInt = (((w 34 A).toInt.toNat + n : Nat) : Int) ∧ n ≤ (w 34 (A + 1)).toInt.toNat - (w 34 A).toInt.toNat ∧ x2.toInt = ((czn (fun d => ((w 25 d) &&& 2).toInt) (w 34 A).toInt.toNat n : Nat) : Int), ⟨0, by omega, Nat.zero_le _, rfl⟩, ?_⟩
    rintro x2 x3 ⟨n, hx3, hn, hx2⟩
    refine ⟨fun c => ?_, fun c => ?_⟩
    · have en : n = (w 34 (A + 1)).toInt.toNat - (w 34 A).toInt.toNat := by omega
      rw [en] at hx2
      refine k _ ⟨fun hn => absurd ⟨c1, c2, c3, c4⟩ hn, fun B hB _ => ⟨fun hb => by omega, fun _ => ?_⟩⟩
      have : B = A := by omega
      rw [this]
      exact hx2
    · have af : atv 10100 (w 25) x3 = w 25 ((w 34 A).toInt.toNat + n) := atv_at hx3 (by omega)
      have hle := cz_le (f := fun d => ((w 25 d) &&& 2).toInt) (lo := (w 34 A).toInt.toNat) (n := n)
      refine xl_is (fun v _ hv => ⟨fun y => y.toInt = if ((w 25 ((w 34 A).toInt.toNat + n)) &&& 2).toInt = 0 then 1 else 0, fun y _ hy => ⟨n + 1, ?_, by omega, ?_⟩, fun hz => ?_, fun hz => ?_⟩)
      · rw [ad1 (by omega), hx3]; rfl
      · have yr : 0 ≤ y.toInt ∧ y.toInt ≤ 1 := by rw [hy]; split <;> decide
        rw [ad (by omega) (by omega), hx2, hy, cz_s]
        show _ = (((czn (fun d => ((w 25 d) &&& 2).toInt) (w 34 A).toInt.toNat n + if ((w 25 ((w 34 A).toInt.toNat + n)) &&& 2).toInt = 0 then 1 else 0 : Nat)) : Int)
        by_cases cc : ((w 25 ((w 34 A).toInt.toNat + n)) &&& 2).toInt = 0
        · rw [if_pos cc, if_pos cc]; rfl
        · rw [if_neg cc, if_neg cc]; rfl
      · rw [af] at hv
        rw [if_pos (Classical.byContradiction (fun hc => (hv.2 hc) hz))]
        rfl
      · rw [af] at hv
        rw [if_neg (hv.1 hz)]
        rfl
theorem rx_count {Q : Int32 → Prop} (h : GLI σ τ vs) (hd : ∀ A : Nat, ((A : Int) + 1) ≤ (σ 0 35).toInt → 0 ≤ (σ 22 A).toInt ∧ (σ 22 A).toInt ≤ (σ 22 (A + 1)).toInt ∧ (σ 22 (A + 1)).toInt ≤ 10000) (k : ∀ v, CNm σ a b v → Q v) : pp_count a b σ τ vs Q := by
  obtain ⟨⟨-, ⟨o1, o2⟩, -⟩, -⟩ := h
  have e1 : (1 : Int32).toInt = 1 := i1
  have bad : ∀ v : Int32, v = -1 → ¬ (1 ≤ a.toInt ∧ a.toInt ≤ (σ 0 35).toInt ∧ 0 ≤ b.toInt ∧ b.toInt ≤ 1) → Q v := fun v hv hn => by
    refine k v ⟨fun _ => hv, fun A hA hA2 => ⟨fun hb => absurd ⟨by omega, hA2, by omega, by omega⟩ hn, fun hb => absurd ⟨by omega, hA2, by omega, by omega⟩ hn⟩⟩
  unfold pp_count pp_isObject
  refine ⟨fun c => ⟨fun hx => absurd rfl hx, fun _ => bad _ rfl (by omega)⟩, fun c1 => ⟨fun c2 => ⟨fun hx => absurd rfl hx, fun _ => bad _ rfl (by omega)⟩, fun c2 => ⟨fun _ => ?_, fun hx => absurd hx (by decide)⟩⟩⟩
  obtain ⟨A, hA⟩ : ∃ A : Nat, a.toInt = (A : Int) + 1 := ⟨(a.toInt - 1).toNat, by omega⟩
  have na1 : (a - (1 : Int32)).toNatClampNeg = A := nat_of (by rw [sb (by omega) (by omega), e1]; omega)
  have na : a.toNatClampNeg = A + 1 := nat_of (by rw [hA]; rfl)
  obtain ⟨q1, q2, q3⟩ := hd A (by omega)
  refine ⟨fun c5 => ⟨fun c6 => bad _ rfl (by omega), fun c6 _ => ?_⟩, fun c5 => ?_⟩
  · rw [na1]
    refine k _ ⟨fun hn => absurd ⟨c1, c2, by omega, by omega⟩ hn, fun B hB _ => ⟨fun _ => ?_, fun hb => absurd hb c5⟩⟩
    have : B = A := by omega
    rw [this]
  · unfold pp_symbols
    rw [na1, na]
    refine fun _ => ⟨fun x2 x3 => ∃ n : Nat, x3.toInt = (((σ 22 A).toInt.toNat + n : Nat) : Int) ∧ n ≤ (σ 22 (A + 1)).toInt.toNat - (σ 22 A).toInt.toNat ∧ x2.toInt = ((czn (fun e => (σ 12 e).toInt) (σ 22 A).toInt.toNat n : Nat) : Int), ⟨0, by omega, Nat.zero_le _, rfl⟩, ?_⟩
    rintro x2 x3 ⟨n, hx3, hn, hx2⟩
    refine fun _ => ⟨fun c => ?_, fun c => ?_⟩
    · have en : n = (σ 22 (A + 1)).toInt.toNat - (σ 22 A).toInt.toNat := by omega
      rw [en] at hx2
      refine k _ ⟨fun hn => absurd ⟨c1, c2, by omega, by omega⟩ hn, fun B hB _ => ⟨fun hb => by omega, fun _ => ?_⟩⟩
      have : B = A := by omega
      rw [this]
      exact hx2
    · have n3 : x3.toNatClampNeg = (σ 22 A).toInt.toNat + n := nat_of hx3
      have hle := cz_le (f := fun e => (σ 12 e).toInt) (lo := (σ 22 A).toInt.toNat) (n := n)
      rw [n3]
      refine fun _ => ⟨fun x => x.toInt = ((czn (fun e => (σ 12 e).toInt) (σ 22 A).toInt.toNat (n + 1) : Nat) : Int), fun x hx => ⟨n + 1, ?_, by omega, hx⟩, fun hz => ?_, fun hz => ?_⟩
      · rw [ad1 (by omega), hx3]; rfl
      · rw [cz_s, if_neg hz]; exact hx2
      · show (x2 + 1).toInt = _
        rw [cz_s, if_pos hz, ad1 (by omega), hx2]
        rfl
/-- the answers are one -/
theorem cnt_eq {v v2 : Int32} (h : IVx w o) (r : RLp w σ) (re : RLe w σ) (c : CNw w a b v) (m : CNm σ a b v2) : v = v2 := by
  obtain ⟨⟨h1, h1'⟩, h2, h3, -⟩ := h
  have d0 := de_le h2
  have e35 := r.1
  by_cases hv : 1 ≤ a.toInt ∧ a.toInt ≤ (w 5 13).toInt ∧ 0 ≤ b.toInt ∧ b.toInt ≤ 1
  · obtain ⟨A, hA⟩ : ∃ A : Nat, a.toInt = (A : Int) + 1 := ⟨(a.toInt - 1).toNat, by omega⟩
    obtain ⟨c1, c0⟩ := c.2 A hA hv.2.1
    obtain ⟨m1, m0⟩ := m.2 A hA (by omega)
    have hAo : A + 1 ≤ o := by omega
    by_cases hb : b.toInt = 1
    · rw [c1 hb, m1 hb]
      exact ieq (re.2.1 A (by omega))
    · have hb0 : b.toInt = 0 := by omega
      refine ieq ?_
      rw [c0 hb0, m0 hb0]
      have w1 := re.1 A (by omega)
      have w2 := re.1 (A + 1) (by omega)
      have mo := de_mono h2 (Nat.le_refl o) (A + 1) hAo
      have q1 := d0 A (by omega)
      have q3 := h2.2 A (by omega)
      have r2 := r.2.1
      have en : (w 34 (A + 1)).toInt.toNat - (w 34 A).toInt.toNat = (σ 22 (A + 1)).toInt.toNat - (σ 22 A).toInt.toNat := by omega
      rw [en]
      refine congrArg (fun n : Nat => (n : Int)) (cz_eq (fun i hi => ?_))
      have he : (((σ 22 A).toInt.toNat + i : Nat) : Int) < (σ 0 36).toInt := by omega
      have q := (re.2.2 _ he).2.1
      have ei : (w 34 A).toInt.toNat + i = (σ 22 A).toInt.toNat + i + 4 := by omega
      show ((w 25 ((w 34 A).toInt.toNat + i)) &&& 2).toInt = 0 ↔ (σ 12 ((σ 22 A).toInt.toNat + i)).toInt = 0
      rw [ei]
      unfold FLq at q
      exact ⟨fun hz => Classical.byContradiction (fun hc => (q.2 hc) hz), fun hz => Classical.byContradiction (fun hc => (q.1 hc) hz)⟩
  · rw [c.1 hv, m.1 (by rw [← e35]; exact hv)]
end CNT
