/-! the machine: programs, frames, what goes on -/
def BTg (σ : St) (b : Nat) (vd : Prop) (C : Int → Nat → Nat → Prop) (g : Gh) : Prop := ∃ (E0 R nl : Nat), ((σ 26) b).toInt = E0 ∧ ((σ 29) b).toInt = R ∧ ((σ 28) b).toInt = nl ∧ E0 < R ∧ ((R + 2 * nl : Nat) : Int) ≤ (σ 0 17).toInt ∧ nl ≤ 100 ∧ (0 ≤ ((σ 30) b).toInt ∧ ((σ 30) b).toInt ≤ 1000000) ∧ (0 ≤ ((σ 54) b).toInt ∧ ((σ 54) b).toInt ≤ nl) ∧ (∃ k, g E0 = some (0, k)) ∧ (∀ q h k, g q = some (h, k) → (E0 ≤ q ∧ q < R) ∧ OPw (σ 8) g nl vd C q h k) ∧ ∀ k, k < nl → RowOK (σ 8) (R + 2 * k) ((σ 30) b).toInt
def PRG (κ : St) (G : Nat → Nat → Gh) (K : Nat) : Prop := ∀ f o, LKo κ o → InO κ o f → FnD κ f → ∃ b : Nat, ((κ 17) f).toInt = b ∧ b < 10000 ∧ (κ 54) b = (κ 15) f ∧ ((κ 27) b).toInt = o ∧ BTg κ b (((κ 10) f).toInt = -1) (CAL κ o) (G f o) ∧ ∀ q h k, G f o q = some (h, k) → k ≤ K
theorem bnd {P : Nat → Nat → Prop} (hm : ∀ i K K', K ≤ K' → P i K → P i K') (h : ∀ i, ∃ K, P i K) : ∀ N : Nat, ∃ K, ∀ i, i < N → P i K := fun N => by
  induction N with
  | zero => exact ⟨0, fun i hi => absurd hi (Nat.not_lt_zero _)⟩
  | succ N ih =>
    obtain ⟨K1, h1⟩ := ih
    obtain ⟨K2, h2⟩ := h N
    refine ⟨K1 + K2, fun i hi => ?_⟩
    by_cases c : i = N
    · rw [c]; exact hm _ _ _ (Nat.le_add_left _ _) h2
    · exact hm _ _ _ (Nat.le_add_right _ _) (h1 i (by omega))
theorem gh_bnd (g : Gh) {N : Nat} (hN : ∀ q h k, g q = some (h, k) → q < N) : ∃ K, ∀ q h k, g q = some (h, k) → k ≤ K := by
  obtain ⟨K, hK⟩ := bnd (P := fun q K => ∀ h k, g q = some (h, k) → k ≤ K) (fun i K K' hK h a b c => Nat.le_trans (h a b c) hK) (fun q => by
    cases e : g q with
    | none => exact ⟨0, fun h k c => by cases c⟩
    | some v =>
      obtain ⟨a, b⟩ := v
      exact ⟨b, fun h k c => by cases c; exact Nat.le_refl _⟩) N
  exact ⟨K, fun q h k c => hK q (hN q h k c) h k c⟩
theorem prg_ex {κ : St} (hL : LNk κ) (hb : (κ 0 45).toInt ≤ 10000) (ho : (κ 0 35).toInt ≤ 100) (hF : ∀ o : Nat, (o : Int) < (κ 0 35).toInt → fO κ (o + 1) ≤ 10000) : ∃ G K, PRG κ G K := by
  have h1 : ∀ x : Nat × Nat, ∃ g : Gh, LKo κ x.2 → InO κ x.2 x.1 → FnD κ x.1 → ∃ b : Nat, ((κ 17) x.1).toInt = b ∧ b < 10000 ∧ (κ 54) b = (κ 15) x.1 ∧ ((κ 27) b).toInt = x.2 ∧ BTg κ b (((κ 10) x.1).toInt = -1) (CAL κ x.2) g := fun x => by
    by_cases c : LKo κ x.2 ∧ InO κ x.2 x.1 ∧ FnD κ x.1
    · obtain ⟨b, b1, b2, b3, b4, g, b5⟩ := hL.2.1 x.2 c.1 x.1 c.2.1 c.2.2
      exact ⟨g, fun _ _ _ => ⟨b, b1, by omega, b3, b4, b5⟩⟩
    · exact ⟨fun _ => none, fun c1 c2 c3 => absurd ⟨c1, c2, c3⟩ c⟩
  obtain ⟨G, hG⟩ := Classical.axiomOfChoice h1
  have h2 : ∀ f o, ∃ K, LKo κ o → InO κ o f → FnD κ f → ∀ q h k, G (f, o) q = some (h, k) → k ≤ K := fun f o => by
    by_cases c : LKo κ o ∧ InO κ o f ∧ FnD κ f
    · obtain ⟨b, -, -, -, -, E0, R, nl, -, -, -, -, -, -, -, -, -, b5, -⟩ := hG (f, o) c.1 c.2.1 c.2.2
      obtain ⟨K, hK⟩ := gh_bnd (G (f, o)) (N := R) (fun q h k e => (b5 q h k e).1.2)
      exact ⟨K, fun _ _ _ => hK⟩
    · exact ⟨0, fun c1 c2 c3 => absurd ⟨c1, c2, c3⟩ c⟩
  obtain ⟨K, hK⟩ := bnd (P := fun o K => ∀ f, f < 10000 → LKo κ o → InO κ o f → FnD κ f → ∀ q h k, G (f, o) q = some (h, k) → k ≤ K) (fun i K K' hK h f a b c d q e1 k e2 => Nat.le_trans (h f a b c d q e1 k e2) hK) (fun o => bnd (P := fun f K => LKo κ o → InO κ o f → FnD κ f → ∀ q h k, G (f, o) q = some (h, k) → k ≤ K) (fun i K K' hK h b c d q e1 k e2 => Nat.le_trans (h b c d q e1 k e2) hK) (fun f => h2 f o) 10000) 100
  refine ⟨fun f o => G (f, o), K, fun f o c1 c2 c3 => ?_⟩
  obtain ⟨b, b1, b2, b3, b4, b5⟩ := hG (f, o) c1 c2 c3
  have lt := lko_lt hL c1
  exact ⟨b, b1, b2, b3, b4, b5, hK o (by omega) f (by have := hF o lt; have := c2.2; omega) c1 c2 c3⟩
def rsF (κ : St) (f : Nat) : Nat := if ((κ 10) f).toInt = -1 then 0 else 1
def FRo (κ σ : St) (i f o : Nat) : Prop := (LKo κ o ∧ InO κ o f ∧ FnD κ f) ∧ (σ 50) i = (κ 17) f ∧ 24576 ≤ ((σ 49) i).toInt ∧ ((σ 49) i).toInt + ((κ 30) ((κ 17) f).toNatClampNeg).toInt + 32 * ((i : Int) + 1) ≤ 32768
def CHf (κ : St) (G : Nat → Nat → Gh) (σ : St) : Nat → Nat → Nat → Nat → Prop
  | 0, B, f, o => B = 0 ∧ FRo κ σ 0 f o
  | i + 1, B, f, o => FRo κ σ (i + 1) f o ∧ ∃ B0 f0 o0 h k pc, CHf κ G σ i B0 f0 o0 ∧ ((σ 51) (i + 1)).toInt = ((pc : Nat) : Int) ∧ h ≤ 546 ∧ G f0 o0 pc = some (h, k) ∧ B + rsF κ f = B0 + h
abbrev KRn (κ σ : St) : Prop := Kp [(0, 81), (0, 86), (0, 89), (0, 91), (0, 92), (0, 94), (0, 95), (0, 96), (0, 97), (0, 93), (0, 98)] [46, 47, 48, 49, 50, 51, 53] κ σ
/-- within a frame -/
abbrev KRs (σ s : St) : Prop := Kp [(0, 81), (0, 89), (0, 91), (0, 94), (0, 95), (0, 96), (0, 97)] [46, 47, 48, 53] σ s
def MN (σ : St) : Prop := (0 ≤ (σ 0 91).toInt ∧ (σ 0 91).toInt ≤ 4096) ∧ 0 ≤ (σ 0 89).toInt ∧ (0 ≤ (σ 0 92).toInt ∧ (σ 0 92).toInt ≤ (σ 0 93).toInt ∧ (σ 0 93).toInt ≤ 20000)
def MS (σ : St) (K d k pc : Nat) : Nat := (((σ 0 93).toInt - (σ 0 92).toInt).toNat * 300 + d) * ((K + 2) * 1048576) + (k * 1048576 + (1048576 - pc))
def CTX (κ : St) (G : Nat → Nat → Gh) (K : Nat) (σ : St) (d B f o pc h k : Nat) : Prop := KRn κ σ ∧ MN σ ∧ (σ 0 86).toInt = (d : Int) + 1 ∧ CHf κ G σ d B f o ∧ h ≤ 546 ∧ G f o pc = some (h, k) ∧ (σ 0 81).toInt = ((B + h : Nat) : Int)
def MI (κ : St) (G : Nat → Nat → Gh) (K : Nat) (pc : Int32) (σ : St) (m : Nat) : Prop := KRn κ σ ∧ MN σ ∧ ((σ 0 97).toInt < 0 → 0 ≤ pc.toInt ∧ ∃ d B f o h k, CTX κ G K σ d B f o pc.toNatClampNeg h k ∧ m = MS σ K d k pc.toNatClampNeg)
/-- what is known of the frame at hand -/
def FIx (κ σ : St) (d o b R nl : Nat) : Prop := (σ 0 86).toInt = (d : Int) + 1 ∧ d ≤ 255 ∧ ((σ 50) d).toInt = (b : Int) ∧ b < 10000 ∧ ((κ 27) b).toInt = (o : Int) ∧ o ≤ 99 ∧ ((κ 29) b).toInt = (R : Int) ∧ nl ≤ 100 ∧ R + 2 * nl ≤ 420000 ∧ (∀ k, k < nl → RowOK (κ 8) (R + 2 * k) ((κ 30) b).toInt) ∧ (24576 ≤ ((σ 49) d).toInt ∧ 0 ≤ ((κ 30) b).toInt ∧ ((σ 49) d).toInt + ((κ 30) b).toInt + 32 ≤ 32768)
section PRGS
variable {κ σ s τ t : St} {vs z : List Nat} {G : Nat → Nat → Gh} {K : Nat}
theorem chf_fr {i B f o : Nat} (h : CHf κ G σ i B f o) : FRo κ σ i f o := by
  cases i with
  | zero => exact h.2
  | succ i => exact h.1
theorem chf_B {i : Nat} : ∀ {B f o : Nat}, CHf κ G σ i B f o → B ≤ 546 * i := by
  induction i with
  | zero => exact fun h => by have := h.1; omega
  | succ i ih =>
    intro B f o h
    obtain ⟨-, B0, f0, o0, h0, k, pc, c1, c2, c3, c4, c5⟩ := h
    have := ih c1
    omega
theorem chf_eq {i : Nat} : ∀ {B f o : Nat}, (∀ j, j ≤ i → (s 50) j = (σ 50) j ∧ (s 49) j = (σ 49) j ∧ (s 51) j = (σ 51) j) → CHf κ G σ i B f o → CHf κ G s i B f o := by
  induction i with
  | zero =>
    intro B f o he h
    obtain ⟨e1, e2, e3⟩ := he 0 (Nat.le_refl _)
    obtain ⟨h1, h2, h3, h4, h5⟩ := h
    exact ⟨h1, h2, by rw [e1]; exact h3, by rw [e2]; exact h4, by rw [e2]; exact h5⟩
  | succ i ih =>
    intro B f o he h
    obtain ⟨e1, e2, e3⟩ := he (i + 1) (Nat.le_refl _)
    obtain ⟨⟨h2, h3, h4, h5⟩, B0, f0, o0, h0, k, pc, c1, c2, c3, c4, c5⟩ := h
    exact ⟨⟨h2, by rw [e1]; exact h3, by rw [e2]; exact h4, by rw [e2]; exact h5⟩, B0, f0, o0, h0, k, pc, ih (fun j hj => he j (by omega)) c1, by rw [e3]; exact c2, c3, c4, c5⟩
theorem chf_rs {i B f o : Nat} (k : KRs σ s) (h : CHf κ G σ i B f o) : CHf κ G s i B f o := chf_eq (fun j _ => ⟨k 50 j rfl rfl, k 49 j rfl rfl, k 51 j rfl rfl⟩) h
theorem fr_d {i f o : Nat} (h : FRo κ σ i f o) (hP : PRG κ G K) : i ≤ 255 := by
  obtain ⟨⟨a1, a2, a3⟩, h2, h3, h4⟩ := h
  obtain ⟨b, b1, b2, b3, b4, ⟨E0, R, nl, c1, c2, c3, c4, c5, c6, c7, -⟩, b6⟩ := hP f o a1 a2 a3
  have e : ((κ 17) f).toNatClampNeg = b := by rw [nt', b1]; omega
  rw [e] at h4
  omega
/-- the frame, and the word that comes -/
theorem ctx_op {d B f o pc h k : Nat} (hP : PRG κ G K) (hL : LNk κ) (ho : (κ 0 35).toInt ≤ 100) (hw : (κ 0 17).toInt ≤ 409600) (c : CTX κ G K σ d B f o pc h k) : ∃ b R nl : Nat, FIx κ σ d o b R nl ∧ pc < R ∧ OPw (κ 8) (G f o) nl (((κ 10) f).toInt = -1) (CAL κ o) pc h k ∧ k ≤ K ∧ B ≤ 546 * d := by
  obtain ⟨c1, c2, c3, c4, c5, c6, c7⟩ := c
  have fr := chf_fr c4
  have hd := fr_d fr hP
  obtain ⟨⟨a1, a2, a3⟩, h2, h3, h4⟩ := fr
  obtain ⟨b, b1, b2, b3, b4, ⟨E0, R, nl, d1, d2, d3, d4, d5, d6, d7, d8, d9, d10, d11⟩, b6⟩ := hP f o a1 a2 a3
  have e : ((κ 17) f).toNatClampNeg = b := by rw [nt', b1]; omega
  rw [e] at h4
  have lt := lko_lt hL a1
  obtain ⟨⟨g1, g2⟩, g3⟩ := d10 pc h k c6
  exact ⟨b, R, nl, ⟨c3, hd, by rw [h2]; exact b1, b2, b4, by omega, d2, d6, by omega, d11, h3, d7.1, by omega⟩, g2, g3, b6 _ _ _ c6, chf_B c4⟩
theorem ms_same {A W k k' pc pc' : Nat} (h : k' < k ∨ (k' = k ∧ pc < pc')) (hp : pc < 1048576) : A * W + (k' * 1048576 + (1048576 - pc')) < A * W + (k * 1048576 + (1048576 - pc)) := by
  omega
theorem ms_lt {A A' k' pc' y : Nat} (h : A' < A) (hk : k' ≤ K) : A' * ((K + 2) * 1048576) + (k' * 1048576 + (1048576 - pc')) < A * ((K + 2) * 1048576) + y := by
  have h1 : (A' + 1) * ((K + 2) * 1048576) ≤ A * ((K + 2) * 1048576) := Nat.mul_le_mul_right _ h
  have h2 : (A' + 1) * ((K + 2) * 1048576) = A' * ((K + 2) * 1048576) + (K + 2) * 1048576 := Nat.succ_mul _ _
  have h3 : k' * 1048576 ≤ K * 1048576 := Nat.mul_le_mul_right _ hk
  have h4 : (K + 2) * 1048576 = K * 1048576 + 2097152 := by rw [Nat.add_mul]
  omega
theorem ms_pos {d k pc : Nat} (hp : pc < 1048576) : 0 < MS σ K d k pc := by
  unfold MS
  omega
/-- it goes on in the same frame -/
theorem mi_go {d B f o pc h k h' : Nat} {v : Int32} (c : CTX κ G K σ d B f o pc h k) (hp : pc < 1048576) (ks : KRs σ s) (hn : (0 ≤ (s 0 91).toInt ∧ (s 0 91).toInt ≤ 4096) ∧ 0 ≤ (s 0 89).toInt) (ht : (s 0 81).toInt = ((B + h' : Nat) : Int)) {q : Nat} (hv : v.toInt = (q : Int)) (nx : Nx (G f o) k pc q h') : ∃ m', m' < MS σ K d k pc ∧ MI κ G K v s m' := by
  obtain ⟨c1, c2, c3, c4, c5, c6, c7⟩ := c
  obtain ⟨n1, k', n2, n3⟩ := nx
  have e86 : (s 0 86) = (σ 0 86) := ks _ _ rfl rfl
  have e92 : (s 0 92) = (σ 0 92) := ks _ _ rfl rfl
  have e93 : (s 0 93) = (σ 0 93) := ks _ _ rfl rfl
  have ev : v.toNatClampNeg = q := by rw [nt', hv]; rfl
  refine ⟨MS s K d k' q, ?_, kp_tr c1 (kp_sub ks rfl rfl), ⟨hn.1, hn.2, by rw [e92, e93]; exact c2.2.2⟩, fun _ => ⟨by omega, d, B, f, o, h', k', ⟨kp_tr c1 (kp_sub ks rfl rfl), ⟨hn.1, hn.2, by rw [e92, e93]; exact c2.2.2⟩, by rw [e86]; exact c3, chf_rs ks c4, n1, by rw [ev]; exact n2, ht⟩, by rw [ev]⟩⟩
  unfold MS
  rw [e92, e93]
  exact ms_same n3 hp
/-- it is over -/
theorem mi_end {m : Nat} {v : Int32} (hm : 0 < m) (hk : KRn κ s) (hn : MN s) (ho : 0 ≤ (s 0 97).toInt) : ∃ m', m' < m ∧ MI κ G K v s m' := ⟨0, hm, hk, hn, fun q => by omega⟩
end PRGS
