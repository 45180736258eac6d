/-! the steps of a unit, whole: a function or none (and parameters to come), the constructs around, the operands -/
abbrev Zs : Type := Nat × List Nat × List It
/-- how many rows of statements the constructs around take -/
def nzr (K : List Nat) : Nat := (K.filter (fun c => decide (1 ≤ c ∧ c ≤ 8))).length
/-- the same; much more within an initial -/
def nz (K : List Nat) : Nat := nzr K + 1000 * (K.filter (fun c => decide (9 ≤ c))).length
def b4 (x : Int32) : Prop := (x &&& (4 : Int32)).toInt ≠ 0
def spar (x : Int32) : Nat := (ushr x (24 : Int32)).toInt.toNat
/-- where a statement may stand; where its body may begin -/
def tpK (K : List Nat) : Prop := K = [] ∨ ∃ K', K = 0 :: K'
def bdK (K : List Nat) : Prop := K = [] ∨ ∃ c K', K = c :: K' ∧ (c = 0 ∨ c = 1 ∨ c = 3 ∨ c = 4 ∨ c = 8)
def sk (m : Nat) (K : List Nat) : Prop := nz K ≤ m ∧ tpK K
/-- a step that is none of an expression: what stood before it, and what behind it -/
def dz (act : Int) (fst snd : Int32) (z z' : Zs) : Prop :=
  (act = 20 ∧ ∃ K, z = (1, K, []) ∧ z' = (1, 0 :: K, []) ∧ nz K ≤ 100 ∧ bdK K) ∨
  (act = 21 ∧ ∃ K, z = (1, 0 :: K, []) ∧ z' = (1, K, [])) ∨
  (act = 22 ∧ ∃ K, z = (1, K, [iV]) ∧ z' = (1, K, []) ∧ nz K ≤ 100) ∨
  (act = 23 ∧ ∃ K, z = (1, K, [iV]) ∧ z' = (1, 1 :: K, []) ∧ sk 24 K) ∨
  (act = 24 ∧ ∃ K, z = (1, 1 :: K, []) ∧ z' = z) ∨
  (act = 25 ∧ ∃ K, z = (1, 1 :: K, []) ∧ z' = (1, K, [])) ∨
  (act = 26 ∧ ∃ K, z = (1, K, []) ∧ z' = (1, 2 :: K, []) ∧ sk 24 K) ∨
  (act = 27 ∧ ∃ K, z = (1, 2 :: K, [iV]) ∧ z' = (1, 3 :: K, [])) ∨
  (act = 28 ∧ ∃ K, z = (1, 3 :: K, []) ∧ z' = (1, K, [])) ∨
  (act = 29 ∧ ∃ K, z = (1, K, []) ∧ z' = (1, 4 :: K, []) ∧ sk 24 K) ∨
  (act = 30 ∧ ∃ K, z = (1, 4 :: K, []) ∧ z' = (1, 5 :: K, [])) ∨
  (act = 31 ∧ ∃ K, z = (1, 5 :: K, [iV]) ∧ z' = (1, K, [])) ∨
  (act = 32 ∧ ∃ K, z = (1, K, []) ∧ z' = (1, 6 :: K, []) ∧ sk 24 K) ∨
  (act = 33 ∧ ∃ K, z = (1, 6 :: K, if fst.toInt = 0 then [] else [iV]) ∧ z' = (1, 7 :: K, [])) ∨
  (act = 34 ∧ ∃ K, z = (1, 7 :: K, []) ∧ z' = (1, 8 :: K, [])) ∨
  (act = 35 ∧ ∃ K, z = (1, 8 :: K, []) ∧ z' = (1, K, [])) ∨
  ((act = 36 ∨ act = 37) ∧ ∃ K, z = (1, K, []) ∧ z' = z ∧ sk 100 K) ∨
  (act = 38 ∧ ∃ K, z = (1, K, if fst.toInt = 0 then [] else [iV]) ∧ z' = (1, K, []) ∧ nz K ≤ 100) ∨
  (act = 42 ∧ ∃ F K, z = (F, K, []) ∧ z' = z) ∨
  (act = 43 ∧ ∃ F K, F ≤ 1 ∧ tpK K ∧ z = (F, K, []) ∧ ((b4 snd ∧ z' = (F, 9 :: K, [])) ∨ (¬ b4 snd ∧ z' = z))) ∨
  (act = 44 ∧ ∃ F K c, (c = 9 ∨ c = 10) ∧ z = (F, c :: K, [iV]) ∧ z' = (F, 10 :: K, [])) ∨
  (act = 45 ∧ ∃ F K, z = (F, 9 :: K, []) ∧ z' = (F, 11 :: K, [])) ∨
  (act = 46 ∧ ∃ F K, z' = (F, K, []) ∧ ((fst.toInt = 0 ∧ z = (F, 9 :: K, [iV])) ∨ (fst.toInt = 1 ∧ (z = (F, 9 :: K, []) ∨ z = (F, 10 :: K, []))) ∨ (fst.toInt = 2 ∧ z = (F, 11 :: K, [])))) ∨
  (act = 47 ∧ z = (0, [], []) ∧ spar fst ≤ 8 ∧ ((b4 snd ∧ z' = (1 + spar fst, [], [])) ∨ (¬ b4 snd ∧ z' = (0, [], [])))) ∨
  (act = 48 ∧ ∃ F, z = (F + 2, [], []) ∧ z' = (F + 1, [], [])) ∨
  (act = 49 ∧ z = (1, [], []) ∧ z' = (0, [], []))
section DZC
variable {act : Int} {fst snd : Int32} {z z' : Zs}
theorem dzc_20 (h : act = 20 ∧ ∃ K, z = (1, K, []) ∧ z' = (1, 0 :: K, []) ∧ nz K ≤ 100 ∧ bdK K) : dz act fst snd z z' := Or.inl h
theorem dzc_21 (h : act = 21 ∧ ∃ K, z = (1, 0 :: K, []) ∧ z' = (1, K, [])) : dz act fst snd z z' := Or.inr (Or.inl h)
theorem dzc_22 (h : act = 22 ∧ ∃ K, z = (1, K, [iV]) ∧ z' = (1, K, []) ∧ nz K ≤ 100) : dz act fst snd z z' := Or.inr (Or.inr (Or.inl h))
theorem dzc_23 (h : act = 23 ∧ ∃ K, z = (1, K, [iV]) ∧ z' = (1, 1 :: K, []) ∧ sk 24 K) : dz act fst snd z z' := Or.inr (Or.inr (Or.inr (Or.inl h)))
theorem dzc_24 (h : act = 24 ∧ ∃ K, z = (1, 1 :: K, []) ∧ z' = z) : dz act fst snd z z' := Or.inr (Or.inr (Or.inr (Or.inr (Or.inl h))))
theorem dzc_25 (h : act = 25 ∧ ∃ K, z = (1, 1 :: K, []) ∧ z' = (1, K, [])) : dz act fst snd z z' := Or.inr (Or.inr (Or.inr (Or.inr (Or.inr (Or.inl h)))))
theorem dzc_26 (h : act = 26 ∧ ∃ K, z = (1, K, []) ∧ z' = (1, 2 :: K, []) ∧ sk 24 K) : dz act fst snd z z' := Or.inr (Or.inr (Or.inr (Or.inr (Or.inr (Or.inr (Or.inl h))))))
theorem dzc_27 (h : act = 27 ∧ ∃ K, z = (1, 2 :: K, [iV]) ∧ z' = (1, 3 :: K, [])) : dz act fst snd z z' := Or.inr (Or.inr (Or.inr (Or.inr (Or.inr (Or.inr (Or.inr (Or.inl h)))))))
theorem dzc_28 (h : act = 28 ∧ ∃ K, z = (1, 3 :: K, []) ∧ z' = (1, K, [])) : dz act fst snd z z' := Or.inr (Or.inr (Or.inr (Or.inr (Or.inr (Or.inr (Or.inr (Or.inr (Or.inl h))))))))
theorem dzc_29 (h : act = 29 ∧ ∃ K, z = (1, K, []) ∧ z' = (1, 4 :: K, []) ∧ sk 24 K) : dz act fst snd z z' := Or.inr (Or.inr (Or.inr (Or.inr (Or.inr (Or.inr (Or.inr (Or.inr (Or.inr (Or.inl h)))))))))
theorem dzc_30 (h : act = 30 ∧ ∃ K, z = (1, 4 :: K, []) ∧ z' = (1, 5 :: K, [])) : dz act fst snd z z' := Or.inr (Or.inr (Or.inr (Or.inr (Or.inr (Or.inr (Or.inr (Or.inr (Or.inr (Or.inr (Or.inl h))))))))))
theorem dzc_31 (h : act = 31 ∧ ∃ K, z = (1, 5 :: K, [iV]) ∧ z' = (1, K, [])) : dz act fst snd z z' := Or.inr (Or.inr (Or.inr (Or.inr (Or.inr (Or.inr (Or.inr (Or.inr (Or.inr (Or.inr (Or.inr (Or.inl h)))))))))))
theorem dzc_32 (h : act = 32 ∧ ∃ K, z = (1, K, []) ∧ z' = (1, 6 :: K, []) ∧ sk 24 K) : dz act fst snd z z' := Or.inr (Or.inr (Or.inr (Or.inr (Or.inr (Or.inr (Or.inr (Or.inr (Or.inr (Or.inr (Or.inr (Or.inr (Or.inl h))))))))))))
theorem dzc_33 (h : act = 33 ∧ ∃ K, z = (1, 6 :: K, if fst.toInt = 0 then [] else [iV]) ∧ z' = (1, 7 :: K, [])) : dz act fst snd z z' := Or.inr (Or.inr (Or.inr (Or.inr (Or.inr (Or.inr (Or.inr (Or.inr (Or.inr (Or.inr (Or.inr (Or.inr (Or.inr (Or.inl h)))))))))))))
theorem dzc_34 (h : act = 34 ∧ ∃ K, z = (1, 7 :: K, []) ∧ z' = (1, 8 :: K, [])) : dz act fst snd z z' := Or.inr (Or.inr (Or.inr (Or.inr (Or.inr (Or.inr (Or.inr (Or.inr (Or.inr (Or.inr (Or.inr (Or.inr (Or.inr (Or.inr (Or.inl h))))))))))))))
theorem dzc_35 (h : act = 35 ∧ ∃ K, z = (1, 8 :: K, []) ∧ z' = (1, K, [])) : dz act fst snd z z' := Or.inr (Or.inr (Or.inr (Or.inr (Or.inr (Or.inr (Or.inr (Or.inr (Or.inr (Or.inr (Or.inr (Or.inr (Or.inr (Or.inr (Or.inr (Or.inl h)))))))))))))))
theorem dzc_36 (h : (act = 36 ∨ act = 37) ∧ ∃ K, z = (1, K, []) ∧ z' = z ∧ sk 100 K) : dz act fst snd z z' := Or.inr (Or.inr (Or.inr (Or.inr (Or.inr (Or.inr (Or.inr (Or.inr (Or.inr (Or.inr (Or.inr (Or.inr (Or.inr (Or.inr (Or.inr (Or.inr (Or.inl h))))))))))))))))
theorem dzc_38 (h : act = 38 ∧ ∃ K, z = (1, K, if fst.toInt = 0 then [] else [iV]) ∧ z' = (1, K, []) ∧ nz K ≤ 100) : dz act fst snd z z' := Or.inr (Or.inr (Or.inr (Or.inr (Or.inr (Or.inr (Or.inr (Or.inr (Or.inr (Or.inr (Or.inr (Or.inr (Or.inr (Or.inr (Or.inr (Or.inr (Or.inr (Or.inl h)))))))))))))))))
theorem dzc_42 (h : act = 42 ∧ ∃ F K, z = (F, K, []) ∧ z' = z) : dz act fst snd z z' := Or.inr (Or.inr (Or.inr (Or.inr (Or.inr (Or.inr (Or.inr (Or.inr (Or.inr (Or.inr (Or.inr (Or.inr (Or.inr (Or.inr (Or.inr (Or.inr (Or.inr (Or.inr (Or.inl h))))))))))))))))))
theorem dzc_43 (h : act = 43 ∧ ∃ F K, F ≤ 1 ∧ tpK K ∧ z = (F, K, []) ∧ ((b4 snd ∧ z' = (F, 9 :: K, [])) ∨ (¬ b4 snd ∧ z' = z))) : dz act fst snd z z' := Or.inr (Or.inr (Or.inr (Or.inr (Or.inr (Or.inr (Or.inr (Or.inr (Or.inr (Or.inr (Or.inr (Or.inr (Or.inr (Or.inr (Or.inr (Or.inr (Or.inr (Or.inr (Or.inr (Or.inl h)))))))))))))))))))
theorem dzc_44 (h : act = 44 ∧ ∃ F K c, (c = 9 ∨ c = 10) ∧ z = (F, c :: K, [iV]) ∧ z' = (F, 10 :: K, [])) : dz act fst snd z z' := Or.inr (Or.inr (Or.inr (Or.inr (Or.inr (Or.inr (Or.inr (Or.inr (Or.inr (Or.inr (Or.inr (Or.inr (Or.inr (Or.inr (Or.inr (Or.inr (Or.inr (Or.inr (Or.inr (Or.inr (Or.inl h))))))))))))))))))))
theorem dzc_45 (h : act = 45 ∧ ∃ F K, z = (F, 9 :: K, []) ∧ z' = (F, 11 :: K, [])) : dz act fst snd z z' := Or.inr (Or.inr (Or.inr (Or.inr (Or.inr (Or.inr (Or.inr (Or.inr (Or.inr (Or.inr (Or.inr (Or.inr (Or.inr (Or.inr (Or.inr (Or.inr (Or.inr (Or.inr (Or.inr (Or.inr (Or.inr (Or.inl h)))))))))))))))))))))
theorem dzc_46 (h : act = 46 ∧ ∃ F K, z' = (F, K, []) ∧ ((fst.toInt = 0 ∧ z = (F, 9 :: K, [iV])) ∨ (fst.toInt = 1 ∧ (z = (F, 9 :: K, []) ∨ z = (F, 10 :: K, []))) ∨ (fst.toInt = 2 ∧ z = (F, 11 :: K, [])))) : dz act fst snd z z' := Or.inr (Or.inr (Or.inr (Or.inr (Or.inr (Or.inr (Or.inr (Or.inr (Or.inr (Or.inr (Or.inr (Or.inr (Or.inr (Or.inr (Or.inr (Or.inr (Or.inr (Or.inr (Or.inr (Or.inr (Or.inr (Or.inr (Or.inl h))))))))))))))))))))))
theorem dzc_47 (h : act = 47 ∧ z = (0, [], []) ∧ spar fst ≤ 8 ∧ ((b4 snd ∧ z' = (1 + spar fst, [], [])) ∨ (¬ b4 snd ∧ z' = (0, [], [])))) : dz act fst snd z z' := Or.inr (Or.inr (Or.inr (Or.inr (Or.inr (Or.inr (Or.inr (Or.inr (Or.inr (Or.inr (Or.inr (Or.inr (Or.inr (Or.inr (Or.inr (Or.inr (Or.inr (Or.inr (Or.inr (Or.inr (Or.inr (Or.inr (Or.inr (Or.inl h)))))))))))))))))))))))
theorem dzc_48 (h : act = 48 ∧ ∃ F, z = (F + 2, [], []) ∧ z' = (F + 1, [], [])) : dz act fst snd z z' := Or.inr (Or.inr (Or.inr (Or.inr (Or.inr (Or.inr (Or.inr (Or.inr (Or.inr (Or.inr (Or.inr (Or.inr (Or.inr (Or.inr (Or.inr (Or.inr (Or.inr (Or.inr (Or.inr (Or.inr (Or.inr (Or.inr (Or.inr (Or.inr (Or.inl h))))))))))))))))))))))))
theorem dzc_49 (h : act = 49 ∧ z = (1, [], []) ∧ z' = (0, [], [])) : dz act fst snd z z' := Or.inr (Or.inr (Or.inr (Or.inr (Or.inr (Or.inr (Or.inr (Or.inr (Or.inr (Or.inr (Or.inr (Or.inr (Or.inr (Or.inr (Or.inr (Or.inr (Or.inr (Or.inr (Or.inr (Or.inr (Or.inr (Or.inr (Or.inr (Or.inr (Or.inr (h)))))))))))))))))))))))))
end DZC
/-- a name's token, of so many bytes at the most -/
def VN (σ : St) (t : Int32) (w : Int) : Prop := vlx σ t ≤ w ∧ tkx σ t = 2
theorem vn_same {σ s : St} {t : Int32} (e13 : (s 13) = (σ 13)) (e14 : (s 14) = (σ 14)) : VN s t = VN σ t := funext (fun w => by unfold VN vlx tkx; rw [e13, e14])
/-- one turn of the walk: a step, or a size with all that stands in it -/
def WS (σ : St) (i j : Nat) (z z' : Zs) : Prop :=
  (j = i + 1 ∧ act σ i ≤ 16 ∧ ∃ F K A B, z = (F, K, A) ∧ z' = (F, K, B) ∧ dx (act σ i) (tkx σ ((σ 19) i)) A B) ∨
  (j = i + 1 ∧ dz (act σ i) ((σ 20) i) ((σ 21) i) z z' ∧ (act σ i = 43 ∨ act σ i = 47 → tkx σ ((σ 19) i) = 2)) ∨
  (act σ i = 40 ∧ i + 1 < j ∧ ((σ 20) i).toInt + 1 = j ∧ act σ (j - 1) = 41 ∧ XR σ (j - 1 - (i + 1)) (i + 1) [] [iV] ∧ ∃ F K, z = (F, K, []) ∧ z' = z)
def RZ (σ : St) : Nat → Nat → Nat → Zs → Zs → Prop
  | 0, i, j, z, z' => i = j ∧ z = z'
  | m + 1, i, j, z, z' => ∃ i1 z1, WS σ i i1 z z1 ∧ i1 ≤ j ∧ RZ σ m i1 j z1 z'
/-- the bytes of names that steps may keep -/
def nst (σ : St) (i : Nat) : Nat := if act σ i = 43 ∨ act σ i = 47 then (vlx σ ((σ 19) i)).toNat else 0
def nsum (σ : St) : Nat → Nat → Nat
  | 0, _ => 0
  | n + 1, i => nst σ i + nsum σ n (i + 1)
section ZST
variable {σ s : St}
theorem nsum_app : ∀ (n i m : Nat), nsum σ (n + m) i = nsum σ n i + nsum σ m (i + n)
  | 0, i, m => by
    rw [Nat.zero_add]
    show _ = 0 + nsum σ m i
    omega
  | n + 1, i, m => by
    rw [Nat.add_right_comm]
    show nst σ i + nsum σ (n + m) (i + 1) = nst σ i + nsum σ n (i + 1) + nsum σ m (i + (n + 1))
    rw [nsum_app n (i + 1) m]
    have : i + 1 + n = i + (n + 1) := by omega
    rw [this]
    omega
theorem nsum_same (hv : (s 14) = (σ 14)) : ∀ (n i : Nat), (∀ j, i ≤ j → j < i + n → SameAt σ s j) → nsum s n i = nsum σ n i
  | 0, i => fun _ => rfl
  | n + 1, i => fun e => by
    have h := e i (by omega) (by omega)
    show nst s i + nsum s n (i + 1) = nst σ i + nsum σ n (i + 1)
    rw [nsum_same hv n (i + 1) (fun j h1 h2 => e j (by omega) (by omega))]
    unfold nst vlx
    rw [act_same h, h.2, hv]
/-- an expression keeps no names -/
theorem nsum_xr : ∀ (n i : Nat) (A B : List It), XR σ n i A B → nsum σ n i = 0
  | 0, _, _, _ => fun _ => rfl
  | n + 1, i, A, B => fun h => by
    obtain ⟨A1, h1, h2⟩ := h
    show nst σ i + nsum σ n (i + 1) = 0
    rw [nsum_xr n (i + 1) A1 B h2]
    unfold nst
    rw [if_neg]
    unfold dx at h1
    omega
theorem rz_app : ∀ (m m' i j k : Nat) (z z' z'' : Zs), j ≤ k → RZ σ m i j z z' → RZ σ m' j k z' z'' → RZ σ (m + m') i k z z''
  | 0, m', i, j, k, z, z', z'' => fun _ h g => by
    obtain ⟨rfl, rfl⟩ := h
    rw [Nat.zero_add]
    exact g
  | m + 1, m', i, j, k, z, z', z'' => fun hj h g => by
    obtain ⟨i1, z1, h1, h2, h3⟩ := h
    rw [Nat.add_right_comm]
    exact ⟨i1, z1, h1, by omega, rz_app m m' i1 j k z1 z' z'' hj h3 g⟩
theorem dx_act {a t : Int} {A B : List It} (h : dx a t A B) : 1 ≤ a ∧ a ≤ 16 := by
  unfold dx at h
  omega
theorem xr_rz : ∀ (n i : Nat) (A B : List It) (F : Nat) (K : List Nat), XR σ n i A B → RZ σ n i (i + n) (F, K, A) (F, K, B)
  | 0, i, A, B, F, K => fun h => by
    cases h
    exact ⟨rfl, rfl⟩
  | n + 1, i, A, B, F, K => fun h => by
    obtain ⟨A1, h1, h2⟩ := h
    have e : i + (n + 1) = i + 1 + n := by omega
    rw [e]
    exact ⟨i + 1, (F, K, A1), Or.inl ⟨rfl, (dx_act h1).2, F, K, A, A1, rfl, rfl, h1⟩, by omega, xr_rz n (i + 1) A1 B F K h2⟩
theorem ws_lt {i j : Nat} {z z' : Zs} (h : WS σ i j z z') : i < j := by
  unfold WS at h
  omega
def SameZ (σ s : St) (i : Nat) : Prop := SameAt σ s i ∧ (s 20) i = (σ 20) i ∧ (act σ i ≠ 42 → (s 21) i = (σ 21) i)
theorem dz_42 {f s0 s1 : Int32} {z z' : Zs} (h : dz 42 f s0 z z') : dz 42 f s1 z z' := by
  unfold dz at h
  rcases h with h | h | h | h | h | h | h | h | h | h | h | h | h | h | h | h | h | h | h | h | h | h | h | h | h | h
  all_goals first
    | exact absurd h.1 (by decide)
    | exact dzc_42 h
theorem ws_same {i j : Nat} {z z' : Zs} (hk : (s 13) = (σ 13)) (e : ∀ q, i ≤ q → q < j → SameZ σ s q) (h : WS σ i j z z') : WS s i j z z' := by
  have hij := ws_lt h
  have e0 := e i (Nat.le_refl _) hij
  have ea := act_same e0.1
  rcases h with ⟨h1, h2, F, K, A, B, h3, h4, h5⟩ | ⟨h1, h2, hN⟩ | ⟨h1, h2, h3, h4, h5, h6⟩
  · refine Or.inl ⟨h1, by rw [ea]; exact h2, F, K, A, B, h3, h4, ?_⟩
    unfold tkx at h5 ⊢
    rw [ea, e0.1.2, hk]
    exact h5
  · have hN' : act s i = 43 ∨ act s i = 47 → tkx s ((s 19) i) = 2 := fun c => by
      rw [ea] at c
      have q := hN c
      unfold tkx at q ⊢
      rw [e0.1.2, hk]
      exact q
    refine Or.inr (Or.inl ⟨h1, ?_, hN'⟩)
    rw [ea, e0.2.1]
    by_cases c : act σ i = 42
    · rw [c] at h2 ⊢
      exact dz_42 h2
    · rw [e0.2.2 c]
      exact h2
  · refine Or.inr (Or.inr ⟨by rw [ea]; exact h1, h2, by rw [e0.2.1]; exact h3, ?_, xr_same hk _ _ _ _ (fun q q1 q2 => (e q (by omega) (by omega)).1) h5, h6⟩)
    rw [act_same (e (j - 1) (by omega) (by omega)).1]
    exact h4
theorem rz_same (hk : (s 13) = (σ 13)) : ∀ (m i j : Nat) (z z' : Zs), (∀ q, i ≤ q → q < j → SameZ σ s q) → RZ σ m i j z z' → RZ s m i j z z'
  | 0, i, j, z, z' => fun _ h => h
  | m + 1, i, j, z, z' => fun e h => by
    obtain ⟨i1, z1, h1, h2, h3⟩ := h
    have := ws_lt h1
    exact ⟨i1, z1, ws_same hk (fun q q1 q2 => e q q1 (by omega)) h1, h2, rz_same hk m i1 j z1 z' (fun q q1 q2 => e q (by omega) q2) h3⟩
end ZST
