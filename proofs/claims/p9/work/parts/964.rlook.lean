/-! the reference's names: looked up -/
def NMm (σ : St) (a b : Nat) : Prop := (σ 4 a).toInt - (σ 3 a).toInt = (σ 4 b).toInt - (σ 3 b).toInt ∧ ∀ i : Nat, (i : Int) < (σ 4 b).toInt - (σ 3 b).toInt → (σ 1 ((σ 3 a).toInt.toNat + i)).toInt = (σ 1 ((σ 3 b).toInt.toNat + i)).toInt
def TNm (σ : St) (u : Nat) : Prop := u < 16002 ∧ 0 ≤ (σ 3 u).toInt ∧ (σ 3 u).toInt ≤ (σ 4 u).toInt ∧ (σ 4 u).toInt ≤ 16000
def mtk (σ : St) (j : Nat) : Nat := (σ 34 j).toInt.toNat
def LOKm (σ : St) (S : Nat) : Prop := (σ 0 53).toInt = (S : Int) ∧ S ≤ 100 ∧ ∀ j, j < S → 0 ≤ (σ 34 j).toInt ∧ TNm σ (mtk σ j)
def LFm (σ : St) (S u : Nat) (v : Int) : Prop := (∃ j, j < S ∧ NMm σ (mtk σ j) u ∧ (∀ j', j < j' → j' < S → ¬ NMm σ (mtk σ j') u) ∧ v = (σ 35 j).toInt) ∨ ((∀ j, j < S → ¬ NMm σ (mtk σ j) u) ∧ v = -1)
def NSm (σ : St) (e u : Nat) : Prop := (σ 19 e).toInt = (σ 4 u).toInt - (σ 3 u).toInt ∧ ∀ i : Nat, (i : Int) < (σ 4 u).toInt - (σ 3 u).toInt → (σ 20 ((σ 18 e).toInt.toNat + i)).toInt = (σ 1 ((σ 3 u).toInt.toNat + i)).toInt
def EOKm (σ : St) (lo n : Nat) : Prop := (σ 22 (σ 0 35).toNatClampNeg).toInt = (lo : Int) ∧ (σ 0 36).toInt = (n : Int) ∧ lo ≤ n ∧ n ≤ 10000 ∧ (∀ e, lo ≤ e → e < n → 0 ≤ (σ 18 e).toInt ∧ 0 ≤ (σ 19 e).toInt ∧ (σ 18 e).toInt + (σ 19 e).toInt ≤ 65536) ∧ 0 ≤ (σ 0 31).toInt ∧ (σ 0 31).toInt ≤ 65536 ∧ ∀ e, lo ≤ e → e < n → (σ 18 e).toInt + (σ 19 e).toInt ≤ (σ 0 31).toInt
def EFm (σ : St) (lo n u : Nat) (v : Int) : Prop := (∃ e : Nat, lo ≤ e ∧ e < n ∧ NSm σ e u ∧ (∀ e', lo ≤ e' → e' < e → ¬ NSm σ e' u) ∧ v = e) ∨ ((∀ e, lo ≤ e → e < n → ¬ NSm σ e u) ∧ v = -1)
section RLK
variable {σ s r τ t : St} {vs z : List Nat} {u v q : Nat} {k ty h zz f i sg : Int} {x y a b c : Int32}
theorem nat_of {m : Nat} (h : a.toInt = (m : Int)) : a.toNatClampNeg = m := by rw [nt', h]; rfl
theorem mr_isSame {Q : Int32 → Prop} (ha : a.toInt = (u : Int)) (hb : b.toInt = (v : Int)) (tu : TNm σ u) (tv : TNm σ v) (k1 : NMm σ u v → Q 1) (k0 : ¬ NMm σ u v → Q 0) : pp_isSame a b σ τ vs Q := by
  obtain ⟨u1, u2, u3, u4⟩ := tu
  obtain ⟨v1, v2, v3, v4⟩ := tv
  unfold pp_isSame
  rw [nat_of ha, nat_of hb]
  have e1 : ((σ 4 u) - (σ 3 u)).toInt = (σ 4 u).toInt - (σ 3 u).toInt := sb (by omega) (by omega)
  have e2 : ((σ 4 v) - (σ 3 v)).toInt = (σ 4 v).toInt - (σ 3 v).toInt := sb (by omega) (by omega)
  rw [e1, e2]
  refine fun _ _ _ _ => ⟨fun e => ⟨fun y => 0 ≤ y.toInt ∧ y.toInt ≤ (σ 4 u).toInt - (σ 3 u).toInt ∧ ∀ i : Nat, (i : Int) < y.toInt → (σ 1 ((σ 3 u).toInt.toNat + i)).toInt = (σ 1 ((σ 3 v).toInt.toNat + i)).toInt, ⟨by decide, by rw [i0]; omega, fun i hi => by rw [i0] at hi; omega⟩, ?_⟩, fun e => k0 (fun hx => e hx.1.symm)⟩
  rintro y ⟨y1, y2, y3⟩
  refine ⟨fun c => k1 ⟨e.symm, fun i hi => y3 i (by omega)⟩, fun c _ _ _ _ => ?_⟩
  have a1 : ((σ 3 u) + y).toInt = (σ 3 u).toInt + y.toInt := ad (by omega) (by omega)
  have a2 : ((σ 3 v) + y).toInt = (σ 3 v).toInt + y.toInt := ad (by omega) (by omega)
  have n1 : ((σ 3 u) + y).toNatClampNeg = (σ 3 u).toInt.toNat + y.toInt.toNat := by rw [nt', a1]; omega
  have n2 : ((σ 3 v) + y).toNatClampNeg = (σ 3 v).toInt.toNat + y.toInt.toNat := by rw [nt', a2]; omega
  rw [n1, n2]
  refine ⟨fun c4 => ⟨?_, ?_, fun i hi => ?_⟩, fun c4 => k0 (fun hx => c4 (hx.2 y.toInt.toNat (by omega)))⟩
  · rw [ad1 (by omega)]
    omega
  · rw [ad1 (by omega)]
    omega
  · rw [ad1 (by omega)] at hi
    by_cases q : (i : Int) = y.toInt
    · have : i = y.toInt.toNat := by omega
      subst this
      exact c4
    · exact y3 i (by omega)
theorem mr_local {Q : Int32 → Prop} {S : Nat} (ha : a.toInt = (u : Int)) (tu : TNm σ u) (hS : LOKm σ S) (kk : ∀ v : Int32, LFm σ S u v.toInt → Q v) : pp_local a σ τ vs Q := by
  obtain ⟨s1, s2, s3⟩ := hS
  unfold pp_local
  have e0 : ((σ 0 53) - (1 : Int32)).toInt = (S : Int) - 1 := by rw [sb1 (by omega), s1]
  refine ⟨fun y => -1 ≤ y.toInt ∧ y.toInt < S ∧ ∀ j : Nat, y.toInt < j → j < S → ¬ NMm σ (mtk σ j) u, ⟨by omega, by omega, fun j h1 h2 => by omega⟩, ?_⟩
  rintro y ⟨y1, y2, y3⟩
  refine ⟨fun c => kk _ (Or.inr ⟨fun j h2 => y3 j (by omega) h2, by decide⟩), fun c _ => ?_⟩
  obtain ⟨m, hm⟩ : ∃ m : Nat, y.toInt = m := ⟨y.toInt.toNat, by omega⟩
  obtain ⟨r1, r2⟩ := s3 m (by omega)
  rw [nat_of hm]
  refine mr_isSame (u := mtk σ m) (v := u) (by unfold mtk; omega) ha r2 tu (fun hx => ⟨fun c1 => absurd c1 (by decide), fun _ _ => kk _ (Or.inl ⟨m, by omega, hx, fun j' h1 h2 => y3 j' (by omega) h2, rfl⟩)⟩) (fun hx => ⟨fun _ => ?_, fun c1 => absurd rfl c1⟩)
  have e3 : (y + (-1)).toInt = y.toInt - 1 := dc1 (by omega)
  refine ⟨?_, ?_, fun j' h1 h2 => ?_⟩
  · rw [e3]
    clear e3
    omega
  · rw [e3]
    clear e3
    omega
  · rw [e3] at h1
    clear e3
    by_cases q : j' = m
    · subst q
      exact hx
    · exact y3 j' (by omega) h2
theorem mr_isNamed {Q : Int32 → Prop} {e : Nat} (ha : a.toInt = (e : Int)) (hb : b.toInt = (u : Int)) (tu : TNm σ u) (he : e < 10000 ∧ 0 ≤ (σ 18 e).toInt ∧ 0 ≤ (σ 19 e).toInt ∧ (σ 18 e).toInt + (σ 19 e).toInt ≤ 65536) (k1 : NSm σ e u → Q 1) (k0 : ¬ NSm σ e u → Q 0) : pp_isNamed a b σ τ vs Q := by
  obtain ⟨u1, u2, u3, u4⟩ := tu
  obtain ⟨v1, v2, v3, v4⟩ := he
  unfold pp_isNamed
  rw [nat_of ha, nat_of hb]
  have e1 : ((σ 4 u) - (σ 3 u)).toInt = (σ 4 u).toInt - (σ 3 u).toInt := sb (by omega) (by omega)
  rw [e1]
  refine fun _ _ _ => ⟨fun e' => ⟨fun y => 0 ≤ y.toInt ∧ y.toInt ≤ (σ 4 u).toInt - (σ 3 u).toInt ∧ ∀ i : Nat, (i : Int) < y.toInt → (σ 20 ((σ 18 e).toInt.toNat + i)).toInt = (σ 1 ((σ 3 u).toInt.toNat + i)).toInt, ⟨by decide, by rw [i0]; omega, fun i hi => by rw [i0] at hi; omega⟩, ?_⟩, fun e' => k0 (fun hx => e' hx.1)⟩
  rintro y ⟨y1, y2, y3⟩
  refine ⟨fun c => k1 ⟨e', fun i hi => y3 i (by omega)⟩, fun c _ _ _ _ => ?_⟩
  have a1 : ((σ 18 e) + y).toInt = (σ 18 e).toInt + y.toInt := ad (by omega) (by omega)
  have a2 : ((σ 3 u) + y).toInt = (σ 3 u).toInt + y.toInt := ad (by omega) (by omega)
  have n1 : ((σ 18 e) + y).toNatClampNeg = (σ 18 e).toInt.toNat + y.toInt.toNat := by rw [nt', a1]; omega
  have n2 : ((σ 3 u) + y).toNatClampNeg = (σ 3 u).toInt.toNat + y.toInt.toNat := by rw [nt', a2]; omega
  rw [n1, n2]
  refine ⟨fun c4 => ⟨?_, ?_, fun i hi => ?_⟩, fun c4 => k0 (fun hx => c4 (hx.2 y.toInt.toNat (by omega)))⟩
  · rw [ad1 (by omega)]
    omega
  · rw [ad1 (by omega)]
    omega
  · rw [ad1 (by omega)] at hi
    by_cases q : (i : Int) = y.toInt
    · have : i = y.toInt.toNat := by omega
      subst this
      exact c4
    · exact y3 i (by omega)
theorem mr_entity {Q : Int32 → Prop} {lo n : Nat} (ha : a.toInt = (u : Int)) (tu : TNm σ u) (hE : EOKm σ lo n) (kk : ∀ v : Int32, EFm σ lo n u v.toInt → Q v) : pp_entity a σ τ vs Q := by
  obtain ⟨s1, s2, s3, s4, s5, _⟩ := hE
  unfold pp_entity
  intro _
  refine ⟨fun y => lo ≤ y.toInt ∧ y.toInt ≤ n ∧ ∀ e : Nat, lo ≤ e → (e : Int) < y.toInt → ¬ NSm σ e u, ⟨by omega, by omega, fun e h1 h2 => by omega⟩, ?_⟩
  rintro y ⟨y1, y2, y3⟩
  refine ⟨fun c => kk _ (Or.inr ⟨fun e h1 h2 => y3 e h1 (by omega), by decide⟩), fun c => ?_⟩
  obtain ⟨m, hm⟩ : ∃ m : Nat, y.toInt = m := ⟨y.toInt.toNat, by omega⟩
  obtain ⟨r1, r2, r3⟩ := s5 m (by omega) (by omega)
  refine mr_isNamed hm ha tu ⟨by omega, r1, r2, r3⟩ (fun hx => ⟨fun c1 => absurd c1 (by decide), fun _ => kk _ (Or.inl ⟨m, by omega, by omega, hx, fun e' h1 h2 => y3 e' h1 (by omega), hm⟩)⟩) (fun hx => ⟨fun _ => ⟨?_, ?_, fun e' h1 h2 => ?_⟩, fun c1 => absurd rfl c1⟩)
  · rw [ad1 (by omega)]
    omega
  · rw [ad1 (by omega)]
    omega
  · rw [ad1 (by omega)] at h2
    by_cases q : e' = m
    · subst q
      exact hx
    · exact y3 e' h1 (by omega)
end RLK
