/-! an item of a unit -/
section ITM
variable {σ s s' τ t t' : St} {vs z z' : List Nat}
theorem sp_isWordb {a : Int32} {Q : Int32 → Prop} (h : PA σ τ) (k : ∀ v : Int32, (v.toInt ≠ 0 → kd σ = a.toInt) → Q v) : wp_isWord a σ τ vs Q := sp_isWord h (fun q => k 1 (fun _ => q)) (fun _ => k 0 no0)
theorem at_back {a b : St} {v : Int32} (k : Kp [(0, 10)] [] a b) : upC b 0 10 v = upC a 0 10 v := by
  funext c j
  rw [rdC, rdC]
  by_cases e : c = 0
  · subst e
    rw [if_pos rfl, if_pos rfl]
    by_cases e2 : j = 10
    · rw [if_pos e2, if_pos e2]
    · rw [if_neg e2, if_neg e2]
      exact k 0 j (by simp; exact e2) rfl
  · rw [if_neg e, if_neg e]
    exact k c j (by simp; intro h; exact absurd h e) rfl
theorem fy_vr {c l : Int} (v : VRx σ vs s t z (pos s - pos σ)) (g : FNy s z s' t' z' c l) (hc : NCt σ vs s z 80) (hc2 : -80 ≤ c) (hl : l ≤ pos s' - pos s) (hb : (s 0 45).toInt = (σ 0 45).toInt) : FNy σ vs s' t' z' 0 (pos s' - pos σ) := by
  obtain ⟨v1, ⟨n1, n2, n3⟩, v3, v4⟩ := v
  obtain ⟨g1, ⟨m1, m2, m3⟩, g3, g4, g5⟩ := g
  obtain ⟨x1, x2, x3⟩ := hc
  exact ⟨ur_tr v1 g1, ⟨by omega, by omega, by omega⟩, gp_tr v3 g1.2.2.2.1 (ur_sil g1) g3, by omega, by omega⟩
end ITM
