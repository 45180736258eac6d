/-! one token -/
def bvt (σ : St) (x : Int32) : Int32 := if x.toInt < 0 then -1 else if (σ 2 1).toInt ≤ x.toInt then -1 else if 16000 ≤ x.toInt then -1 else (σ 1 x.toNatClampNeg) &&& (255 : Int32)
/-- the spaces before a place of a list -/
def spn (k : Nat) : Nat → Nat
  | 0 => 0
  | j + 1 => spn k j + (if (chI (gC k j)).toInt = 32 then 1 else 0)
section TKN
variable {σ s z t ρ : St} {n m i j : Nat} {x y v a a1 a2 a3 : Int32}
theorem spn_up (k : Nat) : ∀ d j, spn k j ≤ spn k (j + d)
  | 0, _ => Nat.le_refl _
  | d + 1, j => Nat.le_trans (spn_up k d j) (Nat.le_add_right _ _)
theorem spn_to {k N : Nat} (h : j ≤ N) : spn k j ≤ spn k N := by
  have e := spn_up k (N - j) j
  rwa [show j + (N - j) = N from by omega] at e
theorem spn_66 : spn 2 66 = 12 := by decide +kernel
theorem spn_108 : spn 3 108 = 43 := by decide +kernel
theorem chI_3 : ∀ j, j < 108 → 0 ≤ (chI (gC 3 j)).toInt := by decide +kernel
theorem n66 : (nI 66).toInt = 66 := by decide
theorem n108 : (nI 108).toInt = 108 := by decide
theorem sp_byteV {Q : Int32 → Prop} (k : Q (bvt σ x)) : wk_X10_byteAt x σ Q := by
  unfold bvt at k
  unfold wk_X10_byteAt
  refine ⟨fun c => ?_, fun c => ⟨fun c1 => ?_, fun c1 => ⟨fun c2 => ?_, fun c2 => ⟨⟨c, c2⟩, ?_⟩⟩⟩⟩
  · rwa [if_pos c] at k
  · rwa [if_neg (by omega), if_pos c1] at k
  · rwa [if_neg (by omega), if_neg (by omega), if_pos c2] at k
  · rwa [if_neg (by omega), if_neg (by omega), if_neg (by omega)] at k
theorem bvt_pos (h : 0 ≤ (bvt σ x).toInt) : 0 ≤ x.toInt ∧ x.toInt < (σ 2 1).toInt := by
  unfold bvt at h
  have m1 : ¬ 0 ≤ ((-1 : Int32)).toInt := by decide
  by_cases c : x.toInt < 0
  · rw [if_pos c] at h
    exact absurd h m1
  rw [if_neg c] at h
  by_cases c1 : (σ 2 1).toInt ≤ x.toInt
  · rw [if_pos c1] at h
    exact absurd h m1
  exact ⟨by omega, by omega⟩
theorem sk_isDigit {Q : Int32 → Prop} (k0 : ¬ (48 ≤ x.toInt ∧ x.toInt ≤ 57) → Q 0) (k1 : 48 ≤ x.toInt ∧ x.toInt ≤ 57 → Q 1) : wk_X10_isDigit x σ Q := by
  unfold wk_X10_isDigit
  exact ⟨fun c => k0 (fun h => by omega), fun c => ⟨fun c1 => k0 (fun h => by omega), fun c1 => k1 ⟨c, c1⟩⟩⟩
theorem sk_isLetter {Q : Int32 → Prop} (k0 : Q 0) (k1 : 0 ≤ x.toInt → Q 1) : wk_X10_isLetter x σ Q := by
  unfold wk_X10_isLetter
  refine ⟨True, fun _ => ⟨True, fun _ => ⟨fun _ => k0, fun c => k1 (by omega)⟩, fun _ => trivial, fun c => ⟨fun _ => k1 (by omega), fun _ => trivial⟩⟩, fun _ => trivial, fun c => ⟨fun _ => k1 (by omega), fun _ => trivial⟩⟩
theorem sp_sixteenth {Q : Int32 → Prop} (k : ∀ w : Int32, (0 ≤ w.toInt → 0 ≤ x.toInt) → Q w) : wk_X10_sixteenth x σ Q := by
  have m1 : ¬ 0 ≤ ((-1 : Int32)).toInt := by decide
  unfold wk_X10_sixteenth
  refine sk_isDigit (fun _ => ⟨fun _ => ⟨True, fun _ => ⟨fun _ => k _ (fun h => absurd h m1), fun c => ⟨fun _ => k _ (fun h => absurd h m1), fun _ => k _ (fun _ => by omega)⟩⟩, fun _ => trivial, fun c => ⟨fun _ => trivial, fun _ => k _ (fun _ => by omega)⟩⟩, fun h => absurd rfl h⟩) (fun c => ⟨fun h => absurd h (by decide), fun _ => k _ (fun _ => by omega)⟩)
theorem sp_widthAt {Q : Int32 → Prop} (k1 : Q 1) (k2 : Q 2) : wk_X10_widthAt x σ Q := by
  unfold wk_X10_widthAt
  exact sp_byteV ⟨fun _ => k1, fun _ => k2⟩
theorem sp_codeAt {Q : Int32 → Prop} (k : ∀ w, Q w) : wk_X10_codeAt x y σ Q := by
  unfold wk_X10_codeAt
  refine sp_byteV ⟨fun _ => sp_byteV ⟨fun _ => k _, fun _ => ⟨fun _ => k _, fun _ => ⟨fun _ => k _, fun _ => ⟨fun _ => k _, fun _ => ⟨fun _ => k _, fun _ => k _⟩⟩⟩⟩⟩, fun _ => ⟨fun _ => k _, fun _ => ⟨fun _ => k _, fun _ => ⟨fun _ => k _, fun _ => k _⟩⟩⟩⟩
theorem sp_isNext0 {Q : Int32 → Prop} (h2 : 0 ≤ x.toInt ∧ x.toInt ≤ 66) (h3 : 0 ≤ y.toInt ∧ y.toInt ≤ 66) (k0 : Q 0) (k1 : Q 1) : wk_X10_isNext_s0 x y σ Q := by
  unfold wk_X10_isNext_s0
  refine ⟨fun q w => q = (100 - w.toInt).toNat ∧ (0 ≤ w.toInt ∧ w.toInt ≤ 66), ⟨_, rfl, by decide, by decide⟩, ?_⟩
  rintro q w ⟨hq, hw⟩
  refine ⟨fun _ => k1, fun c => ⟨fun _ => k0, fun c1 => ?_⟩⟩
  rw [n66, ad (by omega) (by omega)] at c1
  have up : (w + 1).toInt = w.toInt + 1 := ad1 (by omega)
  have eu : (x + w).toInt = x.toInt + w.toInt := ad (by omega) (by omega)
  exact ⟨by omega, sp_byteV ⟨fun _ => ⟨_, by rw [up]; omega, rfl, by rw [up]; omega⟩, fun _ => k0⟩⟩
theorem sp_isNext1 {Q : Int32 → Prop} (tp : 0 ≤ (σ 2 2).toInt ∧ (σ 2 2).toInt ≤ (σ 2 1).toInt ∧ (σ 2 1).toInt ≤ 16000) (h2 : 0 ≤ x.toInt ∧ x.toInt ≤ 108) (h3 : 0 ≤ y.toInt ∧ y.toInt ≤ 108) (k0 : Q 0) (k1 : (σ 2 2).toInt + y.toInt ≤ (σ 2 1).toInt → Q 1) : wk_X10_isNext_s1 x y σ Q := by
  unfold wk_X10_isNext_s1
  refine ⟨fun q w => q = (200 - w.toInt).toNat ∧ (0 ≤ w.toInt ∧ w.toInt ≤ y.toInt ∧ (σ 2 2).toInt + w.toInt ≤ (σ 2 1).toInt), ⟨_, rfl, by decide, h3.1, by rw [show ((0 : Int32)).toInt = 0 from rfl]; omega⟩, ?_⟩
  rintro q w ⟨hq, hw⟩
  refine ⟨fun c => k1 (by omega), fun c => ⟨fun _ => k0, fun c1 => ?_⟩⟩
  rw [n108, ad (by omega) (by omega)] at c1
  have up : (w + 1).toInt = w.toInt + 1 := ad1 (by omega)
  have eu : (x + w).toInt = x.toInt + w.toInt := ad (by omega) (by omega)
  refine ⟨by omega, sp_byteV ⟨fun e => ?_, fun _ => k0⟩⟩
  have p1 := chI_3 (x + w).toNatClampNeg (by rw [nt', eu]; omega)
  have p2 := (bvt_pos (σ := σ) (x := (σ 2 2) + w) (by rw [← e]; exact p1)).2
  rw [ad (by omega) (by omega)] at p2
  exact ⟨_, by rw [up]; omega, rfl, by rw [up]; omega⟩
theorem spn_s {k : Nat} (w : Int32) (h : 0 ≤ w.toInt ∧ w.toInt < 200) : (w + 1).toNatClampNeg = w.toNatClampNeg + 1 := by
  have up : (w + 1).toInt = w.toInt + 1 := ad1 (by omega)
  rw [nt', nt', up]
  omega
theorem sp_listed0 {Q : Int32 → Prop} (h2 : 0 ≤ x.toInt ∧ x.toInt ≤ 66) (k : ∀ w : Int32, (0 ≤ w.toInt → w.toInt ≤ 11) → Q w) : wk_X10_listed_s0 x σ Q := by
  unfold wk_X10_listed_s0
  refine ⟨fun q a b c => q = (100 - c.toInt).toNat ∧ (0 ≤ c.toInt ∧ c.toInt ≤ 66) ∧ (0 ≤ b.toInt ∧ b.toInt ≤ c.toInt) ∧ a.toInt = spn 2 c.toNatClampNeg, ⟨_, rfl, by decide, by decide, by decide⟩, ?_⟩
  rintro q a b c ⟨hq, hc, hb, ha⟩
  refine ⟨fun _ => k _ (fun h => absurd h (by decide)), fun c1 => ⟨by rw [n66] at c1; omega, ?_⟩⟩
  rw [n66] at c1
  have up : (c + 1).toInt = c.toInt + 1 := ad1 (by omega)
  have uc := spn_s (k := 2) c (by omega)
  have ub := spn_to (k := 2) (j := c.toNatClampNeg + 1) (N := 66) (by rw [nt']; omega)
  rw [spn_66] at ub
  have e1 : spn 2 (c.toNatClampNeg + 1) = spn 2 c.toNatClampNeg + (if (chI (gC 2 c.toNatClampNeg)).toInt = 32 then 1 else 0) := rfl
  refine ⟨fun a' b' => (0 ≤ b'.toInt ∧ b'.toInt ≤ c.toInt + 1) ∧ a'.toInt = spn 2 (c.toNatClampNeg + 1), fun a' b' h => ⟨_, by rw [up]; omega, rfl, by rw [up]; omega, by rw [up]; exact h.1, by rw [uc]; exact h.2⟩, fun ne => ⟨by omega, by rw [e1, if_neg ne, ha]; rfl⟩, fun e => ?_⟩
  rw [if_pos e] at e1
  have ua : (a + 1).toInt = a.toInt + 1 := ad1 (by omega)
  have n1 : (0 ≤ (c + (1 : Int32)).toInt ∧ (c + (1 : Int32)).toInt ≤ c.toInt + 1) ∧ (a + 1).toInt = spn 2 (c.toNatClampNeg + 1) := ⟨by rw [up]; omega, by rw [ua, e1]; omega⟩
  refine ⟨True, fun _ => n1, fun _ => trivial, fun e3 => sp_isNext0 ⟨hb.1, by omega⟩ h2 ⟨fun _ => trivial, fun z => absurd rfl z⟩ ⟨fun z => absurd z (by decide), fun _ => k _ (fun _ => by omega)⟩⟩
theorem sp_listed1 {Q : Int32 → Prop} (tp : 0 ≤ (σ 2 2).toInt ∧ (σ 2 2).toInt ≤ (σ 2 1).toInt ∧ (σ 2 1).toInt ≤ 16000) (h2 : 0 ≤ x.toInt ∧ x.toInt ≤ 66) (k : ∀ w : Int32, (0 ≤ w.toInt → w.toInt ≤ 42 ∧ (σ 2 2).toInt + x.toInt ≤ (σ 2 1).toInt) → Q w) : wk_X10_listed_s1 x σ Q := by
  unfold wk_X10_listed_s1
  refine ⟨fun q a b c => q = (200 - c.toInt).toNat ∧ (0 ≤ c.toInt ∧ c.toInt ≤ 108) ∧ (0 ≤ b.toInt ∧ b.toInt ≤ c.toInt) ∧ a.toInt = spn 3 c.toNatClampNeg, ⟨_, rfl, by decide, by decide, by decide⟩, ?_⟩
  rintro q a b c ⟨hq, hc, hb, ha⟩
  refine ⟨fun _ => k _ (fun h => absurd h (by decide)), fun c1 => ⟨by rw [n108] at c1; omega, ?_⟩⟩
  rw [n108] at c1
  have up : (c + 1).toInt = c.toInt + 1 := ad1 (by omega)
  have uc := spn_s (k := 3) c (by omega)
  have ub := spn_to (k := 3) (j := c.toNatClampNeg + 1) (N := 108) (by rw [nt']; omega)
  rw [spn_108] at ub
  have e1 : spn 3 (c.toNatClampNeg + 1) = spn 3 c.toNatClampNeg + (if (chI (gC 3 c.toNatClampNeg)).toInt = 32 then 1 else 0) := rfl
  refine ⟨fun a' b' => (0 ≤ b'.toInt ∧ b'.toInt ≤ c.toInt + 1) ∧ a'.toInt = spn 3 (c.toNatClampNeg + 1), fun a' b' h => ⟨_, by rw [up]; omega, rfl, by rw [up]; omega, by rw [up]; exact h.1, by rw [uc]; exact h.2⟩, fun ne => ⟨by omega, by rw [e1, if_neg ne, ha]; rfl⟩, fun e => ?_⟩
  rw [if_pos e] at e1
  have ua : (a + 1).toInt = a.toInt + 1 := ad1 (by omega)
  have n1 : (0 ≤ (c + (1 : Int32)).toInt ∧ (c + (1 : Int32)).toInt ≤ c.toInt + 1) ∧ (a + 1).toInt = spn 3 (c.toNatClampNeg + 1) := ⟨by rw [up]; omega, by rw [ua, e1]; omega⟩
  refine ⟨True, fun _ => n1, fun _ => trivial, fun e3 => sp_isNext1 tp ⟨hb.1, by omega⟩ ⟨h2.1, by omega⟩ ⟨fun _ => trivial, fun z => absurd rfl z⟩ (fun h => ⟨fun z => absurd z (by decide), fun _ => k _ (fun _ => ⟨by omega, h⟩)⟩)⟩
end TKN
