/-! a body, done -/
section BTF
variable {σ s s' τ t t' : St} {vs z z' : List Nat}
theorem bt_fin {F : St} {E0 b : Nat} {vd : Prop} {C : Int → Nat → Nat → Prop} (hB : BCo s E0) (h0 : 0 ≤ (s 0 17).toInt) (hl : 0 ≤ (s 0 49).toInt ∧ (s 0 49).toInt ≤ 100) (f1 : ((F 26) b).toInt = E0) (f2 : (F 29) b = (s 0 17)) (f3 : (F 28) b = (s 0 49)) (f4 : 0 ≤ ((F 30) b).toInt ∧ ((F 30) b).toInt ≤ 1000000) (f5 : 0 ≤ ((F 54) b).toInt ∧ ((F 54) b).toInt ≤ (s 0 49).toInt) (hw : RW s F) (hW : (F 0 17).toInt = (s 0 17).toInt + 2 * (s 0 49).toInt) (hr : ∀ j : Nat, (j : Int) < (s 0 49).toInt → RowOK (F 8) (wcn s + 2 * j) ((F 30) b).toInt) (hv : (s 0 55) ≠ 0 ↔ vd) (hC : ∀ n h h', CO s n h h' → C n h h') : BT F b vd C := by
  have e0 : (wcn s : Int) = (s 0 17).toInt := nt h0
  obtain ⟨b1, g, b2, b3⟩ := hB
  have en : (((s 0 49).toInt).toNat : Int) = (s 0 49).toInt := Int.toNat_of_nonneg hl.1
  refine ⟨g, E0, wcn s, ((s 0 49).toInt).toNat, f1, by rw [f2]; omega, by rw [f3]; omega, b1, by omega, by omega, f4, by omega, b2, fun q h k hq => ?_, fun k hk => hr k (by omega)⟩
  obtain ⟨⟨a1, a2⟩, a3, a4⟩ := b3 q h k hq
  refine ⟨⟨a1, a2⟩, by rw [hw q (by omega)]; exact a3, ?_⟩
  rw [hw q (by omega)]
  refine opn_mono (fun _ _ h => h) ?_ (by omega) hv hC a4
  by_cases c : q + 1 < wcn s
  · exact Or.inr (by rw [hw _ (by omega)])
  · refine Or.inl (fun p hp => ?_)
    cases e : g p with
    | none => rfl
    | some v =>
      obtain ⟨v1, v2⟩ := v
      have := (b3 p v1 v2 e).1
      omega
end BTF
