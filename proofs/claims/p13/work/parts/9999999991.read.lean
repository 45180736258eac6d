/-! a unit is read -/
/-- the tokens' kinds and values, from what the text tells -/
def TKLq (L : List (Int32 × Int32 × Int)) (c : Int32) (kd vl : Nat → Int) (n : Nat) : Prop := n = L.length ∧ kd n = c.toInt ∧ (∀ p, n < p → kd p = 0) ∧ ∀ (j : Nat) (k v : Int32) (q : Int), L[j]? = some (k, v, q) → kd j = k.toInt ∧ (k.toInt = 4 → vl j = v.toInt)
section TKN
variable {f : Nat → Int32} {N q e : Int} {k v c : Int32} {y : TSq} {L : List (Int32 × Int32 × Int)} {σ s w : St} {kd vl : Nat → Int} {n p : Nat}
theorem tok_rng (h : TOKq (byt f N) q k v e) (h0 : 0 ≤ byt f N q) : (k.toInt = 2 → 0 ≤ q ∧ 0 ≤ v.toInt ∧ q + v.toInt ≤ N) ∧ (k.toInt = 4 → 0 ≤ v.toInt ∧ v.toInt ≤ 200) := by
  have hq := byt_in h0
  unfold TOKq at h
  by_cases c1 : LTq (byt f N q)
  · rw [if_pos c1] at h
    obtain ⟨⟨h1, h2, _⟩, h4, h5, h6⟩ := h
    refine ⟨fun _ => ⟨hq.1, by omega, ?_⟩, fun h4 => ?_⟩
    · by_cases ce : q < e
      · have hb := h2 (e - 1) (by omega) (by omega)
        have : 0 ≤ byt f N (e - 1) := by unfold NDq at hb; omega
        have := byt_in this
        omega
      · omega
    · rcases h6 with ⟨w, _, hw⟩ | ⟨_, hk⟩
      · omega
      · omega
  rw [if_neg c1] at h
  by_cases c2 : DGq (byt f N q)
  · rw [if_pos c2] at h
    by_cases c3 : HSq (byt f N) q
    · rw [if_pos c3] at h
      have := h.2.2.1
      exact ⟨fun h' => by omega, fun h' => by omega⟩
    · rw [if_neg c3] at h
      have := h.2.2.1
      exact ⟨fun h' => by omega, fun h' => by omega⟩
  rw [if_neg c2] at h
  by_cases c3 : byt f N q = 39
  · rw [if_pos c3] at h
    have := h.2.2.2.1
    exact ⟨fun h' => by omega, fun h' => by omega⟩
  rw [if_neg c3] at h
  by_cases c4 : byt f N q = 34
  · rw [if_pos c4] at h
    obtain ⟨n, ⟨hn, _⟩, _, hk, hv⟩ := h
    exact ⟨fun h' => by omega, fun _ => by omega⟩
  rw [if_neg c4] at h
  obtain ⟨w, _, _, hk, _⟩ := h
  exact ⟨fun h' => by omega, fun h' => by omega⟩
theorem rch_all (hN : 0 ≤ N) (h : RCHq (byt f N) (0, []) y) : ((y.2.length : Int) ≤ y.1 ∧ (y.2.length : Int) ≤ N) ∧ ∀ (j : Nat) (k v : Int32) (q : Int), y.2[j]? = some (k, v, q) → (2 ≤ k.toInt ∧ k.toInt ≤ 62) ∧ (k.toInt = 2 → 0 ≤ q ∧ 0 ≤ v.toInt ∧ q + v.toInt ≤ N) ∧ (k.toInt = 4 → 0 ≤ v.toInt ∧ v.toInt ≤ 200) := by
  refine h (fun y => ((y.2.length : Int) ≤ y.1 ∧ (y.2.length : Int) ≤ N) ∧ ∀ (j : Nat) (k v : Int32) (q : Int), y.2[j]? = some (k, v, q) → (2 ≤ k.toInt ∧ k.toInt ≤ 62) ∧ (k.toInt = 2 → 0 ≤ q ∧ 0 ≤ v.toInt ∧ q + v.toInt ≤ N) ∧ (k.toInt = 4 → 0 ≤ v.toInt ∧ v.toInt ≤ 200)) ⟨⟨Int.le_refl _, hN⟩, fun j k v q h => by cases h⟩ ?_
  rintro u v ⟨⟨h1, h2⟩, h3⟩ (⟨b1, b2⟩ | ⟨⟨b0, _, _⟩, k, x, e, ht, ev⟩)
  · have := bl_up b1
    rw [b2]
    exact ⟨⟨by omega, h2⟩, h3⟩
  · have hp := byt_in b0
    have up := tok_up ht
    rw [ev]
    refine ⟨?_, fun j k' v' q' hj => ?_⟩
    · show (((u.2 ++ [(k, x, u.1)]).length : Nat) : Int) ≤ e ∧ (((u.2 ++ [(k, x, u.1)]).length : Nat) : Int) ≤ N
      rw [List.length_append]
      show ((u.2.length + 1 : Nat) : Int) ≤ e ∧ ((u.2.length + 1 : Nat) : Int) ≤ N
      omega
    · rcases app_at hj with ⟨_, hj'⟩ | ⟨_, hj'⟩
      · exact h3 j k' v' q' hj'
      · cases hj'
        exact ⟨tok_k ht, tok_rng ht b0⟩
theorem fin_c {b : Int → Int} (h : FINq b q c) : c = 0 ∨ c = 1 := by
  rcases h with ⟨_, h⟩ | ⟨_, h⟩
  · exact Or.inl h
  · exact Or.inr h
/-- the kinds that L and c tell -/
def kdL (L : List (Int32 × Int32 × Int)) (c : Int32) (p : Nat) : Int := if p = L.length then c.toInt else match L[p]? with | some x => x.1.toInt | none => 0
theorem tl_kd (hv : ∀ (j : Nat) (k v : Int32) (q : Int), L[j]? = some (k, v, q) → k.toInt = 4 → vl j = v.toInt) : TKLq L c (kdL L c) vl L.length := by
  refine ⟨rfl, if_pos rfl, fun p hp => ?_, fun j k v q h => ⟨?_, hv j k v q h⟩⟩
  · unfold kdL
    rw [if_neg (by omega), List.getElem?_eq_none (by omega)]
  · have := ltn h
    unfold kdL
    rw [if_neg (by omega), h]
theorem tl_at (hT : TKLq L c kd vl n) (hp : p < n) : ∃ k v q, L[p]? = some (k, v, q) ∧ kd p = k.toInt := by
  obtain ⟨h1, _, _, h4⟩ := hT
  rw [h1] at hp
  refine ⟨L[p].1, L[p].2.1, L[p].2.2, ?_, ?_⟩
  · exact List.getElem?_eq_getElem hp
  · exact (h4 p L[p].1 L[p].2.1 L[p].2.2 (List.getElem?_eq_getElem hp)).1
/-- the reference's tokens -/
theorem tl_ref (hN : 0 ≤ N ∧ N ≤ 16000) (h : RCHq (byt f N) (0, []) (q, L)) (hf : FINq (byt f N) q c) (hM : FMq σ L c) (hT : TKLq L c kd vl n) : RTk σ kd n ∧ (∀ p, p ≤ n → kd p = 2 → TNm σ p) ∧ ∀ p, p ≤ n → kd p = 4 → 0 ≤ (σ 6 p).toInt ∧ (σ 6 p).toInt ≤ 200 := by
  obtain ⟨⟨_, a1⟩, a2⟩ := rch_all hN.1 h
  have a1 : (L.length : Int) ≤ N := a1
  have hc := fin_c hf
  have hT' := hT
  obtain ⟨t1, t2, t3, t4⟩ := hT
  obtain ⟨m1, m2, m3⟩ := hM
  have c01 : 0 ≤ c.toInt ∧ c.toInt ≤ 1 := by rcases hc with h | h <;> rw [h] <;> decide
  refine ⟨⟨by omega, fun p hp => ?_, fun p => ?_, t3, by rw [t2]; exact c01.2⟩, fun p hp k2 => ?_, fun p hp k4 => ?_⟩
  · by_cases cp : p = n
    · rw [cp, t2, t1, m3]
      rcases hc with h | h <;> rw [h] <;> decide
    · obtain ⟨k, v, q', hj, hk⟩ := tl_at hT' (p := p) (by omega)
      rw [hk]
      exact (m2 p k v q' hj).1
  · by_cases cp : p < n
    · obtain ⟨k, v, q', hj, hk⟩ := tl_at hT' cp
      have := (a2 p k v q' hj).1
      rw [hk]
      omega
    · by_cases cn : p = n
      · rw [cn, t2]; omega
      · rw [t3 p (by omega)]; omega
  · have hlt : p < n := by
      by_cases cp : p = n
      · rw [cp, t2] at k2; omega
      · omega
    obtain ⟨k, v, q', hj, hk⟩ := tl_at hT' hlt
    rw [hk] at k2
    obtain ⟨b1, b2, b3, _⟩ := m2 p k v q' hj
    have b3 := b3 k2
    obtain ⟨_, r2, _⟩ := a2 p k v q' hj
    have r2 := r2 k2
    exact ⟨by omega, by omega, by omega, by omega⟩
  · have hlt : p < n := by
      by_cases cp : p = n
      · rw [cp, t2] at k4; omega
      · omega
    obtain ⟨k, v, q', hj, hk⟩ := tl_at hT' hlt
    rw [hk] at k4
    obtain ⟨_, _, _, b4⟩ := m2 p k v q' hj
    obtain ⟨_, _, r3⟩ := a2 p k v q' hj
    rw [b4 (Or.inr k4)]
    exact r3 k4
/-- the class's tokens -/
theorem tl_cls (hN : 0 ≤ N ∧ N ≤ 16000) (h : RCHq (byt f N) (0, []) (q, L)) (hf : FINq (byt f N) q c) (hC : FNq w L c) (hT : TKLq L c kd vl n) : TKv w kd vl n := by
  obtain ⟨⟨_, a1⟩, a2⟩ := rch_all hN.1 h
  have a1 : (L.length : Int) ≤ N := a1
  have hc := fin_c hf
  have hT' := hT
  obtain ⟨t1, t2, t3, t4⟩ := hT
  obtain ⟨m1, m2, m3⟩ := hC
  refine ⟨⟨by rw [m1, t1], by omega, fun p hp => ?_, t3, fun p hp => ?_, ?_⟩, fun p hp k4 => ?_⟩
  · by_cases cp : p = n
    · rw [cp, t2, t1, m3]
    · obtain ⟨k, v, q', hj, hk⟩ := tl_at hT' (p := p) (by omega)
      rw [hk, (m2 p k v q' hj).1]
  · obtain ⟨k, v, q', hj, hk⟩ := tl_at hT' hp
    rw [hk]
    exact (a2 p k v q' hj).1
  · rw [t2]
    rcases hc with h | h <;> rw [h] <;> decide
  · have hlt : p < n := by
      by_cases cp : p = n
      · rw [cp, t2] at k4
        rcases hc with h | h <;> rw [h] at k4 <;> exact absurd k4 (by decide)
      · omega
    obtain ⟨k, v, q', hj, hk⟩ := tl_at hT' hlt
    rw [hk] at k4
    rw [(m2 p k v q' hj).2.1, (t4 p k v q' hj).2 k4]
    exact ⟨rfl, (a2 p k v q' hj).2.2 k4⟩
/-- both -/
theorem tl_both (hN : 0 ≤ N ∧ N ≤ 16000) (h : RCHq (byt f N) (0, []) (q, L)) (hf : FINq (byt f N) q c) (hM : FMq σ L c) (hC : FNq w L c) (hT : TKLq L c kd vl n) (ht : ∀ i : Nat, i < 16000 → (w 1 i).toInt = (σ 1 i).toInt) : TKR w σ kd n := by
  obtain ⟨r1, r2, r3⟩ := tl_ref hN h hf hM hT
  have r4 := (tl_cls hN h hf hC hT).1.2.2.1
  have hc := fin_c hf
  obtain ⟨_, a2⟩ := rch_all hN.1 h
  have lt : ∀ p, p ≤ n → 2 ≤ kd p → p < n := fun p hp h2 => by
    by_cases cp : p = n
    · have := hT.2.1
      rw [cp, this] at h2
      rcases hc with h | h <;> rw [h] at h2 <;> exact absurd h2 (by decide)
    · omega
  refine ⟨r1, r4, ht, fun p hp k2 => ?_, fun p hp k3 => ?_, fun p hp k4 => ?_⟩
  · obtain ⟨k, v, q', hj, hk⟩ := tl_at hT (lt p hp (by omega))
    obtain ⟨b1, b2, b3, _⟩ := hM.2.1 p k v q' hj
    obtain ⟨d1, d2, d3⟩ := hC.2.1 p k v q' hj
    have b3 := b3 (by omega)
    exact ⟨by omega, by rw [d2]; omega, r2 p hp k2⟩
  · obtain ⟨k, v, q', hj, hk⟩ := tl_at hT (lt p hp (by omega))
    obtain ⟨_, _, _, b4⟩ := hM.2.1 p k v q' hj
    obtain ⟨_, d2, _⟩ := hC.2.1 p k v q' hj
    rw [d2, b4 (Or.inl (by omega))]
  · obtain ⟨k, v, q', hj, hk⟩ := tl_at hT (lt p hp (by omega))
    obtain ⟨_, _, _, b4⟩ := hM.2.1 p k v q' hj
    obtain ⟨_, d2, _⟩ := hC.2.1 p k v q' hj
    have := r3 p hp k4
    rw [d2, ← b4 (Or.inr (by omega))]
    exact ⟨rfl, this⟩
end TKN
