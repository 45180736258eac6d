/-! the start -/
section STR
theorem sp16 : spar (16777216 : Int32) = 1 := by decide
theorem iv_0 : IVx sc0 0 := by
  have e34 : sc0 34 = sDe := rfl
  have e29 : sc0 29 = sNe := rfl
  have e25 : sc0 25 = sFl := rfl
  have e27 : sc0 27 = sEx := rfl
  have e28 : sc0 28 = sVa := rfl
  have z0 : ∀ lo hi : Int, lo ≤ 0 → 0 ≤ hi → AllIn lo hi (fun _ => 0) := fun lo hi h0 h1 => zin h0 h1
  have nb : AllIn 0 65600 sNe := uin (uin (uin (uin (zin (by decide) (by decide)) (by decide)) (by decide)) (by decide)) (by decide)
  have sx : ∀ j, spar (sEx j) ≤ 8 := fun j => by
    unfold sEx upd
    by_cases c3 : j = (3 : Int32).toNatClampNeg
    · rw [if_pos c3, sp16]; decide
    rw [if_neg c3]
    by_cases c2 : j = (2 : Int32).toNatClampNeg
    · rw [if_pos c2, sp16]; decide
    rw [if_neg c2]
    by_cases c1 : j = (1 : Int32).toNatClampNeg
    · rw [if_pos c1, sp16]; decide
    rw [if_neg c1]
    by_cases c0 : j = (0 : Int32).toNatClampNeg
    · rw [if_pos c0]; decide
    rw [if_neg c0]
    show spar (0 : Int32) ≤ 8
    decide
  refine ⟨⟨by decide, by decide⟩, ⟨by decide, fun k hk => absurd hk (by omega)⟩, by decide, by decide, ⟨by decide, by decide, by decide⟩, ⟨fun d hd => ?_, fun d => by rw [e29]; exact nb d⟩, ⟨fun j => ?_, fun j hj => ?_, fun j => ?_, fun j _ => by rw [e27]; exact sx j⟩, ⟨by decide, fun d hd => ?_⟩, fun k k1 k2 => by omega, fun hr => absurd hr (by decide), ⟨by decide, by decide, fun j j1 j2 => ?_, fun i j i1' i2 i3 => ?_⟩, by decide, by decide⟩
  · have e : (sc0 5 1).toInt = 4 := by decide
    rw [e] at hd
    obtain rfl : d = 3 := by omega
    decide
  · show 0 ≤ (0 : Int32).toInt ∧ (0 : Int32).toInt ≤ 16000
    decide
  · exact absurd hj (by decide : ¬ (0 : Int32).toInt = 2)
  · exact (by decide : fits .byte (.int (0 : Int32)) = true)
  · obtain rfl | rfl | rfl | rfl : d = 0 ∨ d = 1 ∨ d = 2 ∨ d = 3 := by omega
    all_goals
      rw [e25, e28, e27]
      unfold FLb
      decide
  · have e : (sc0 10 5).toInt = 1 := by decide
    rw [e] at j2
    omega
  · have e : (sc0 10 5).toInt = 1 := by decide
    rw [e] at i3
    omega
end STR
