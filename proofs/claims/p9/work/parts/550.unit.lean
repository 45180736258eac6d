/-! a unit: what holds outside of functions -/
abbrev KU (σ s : St) : Prop := Kp [(0, 10), (0, 12), (0, 13), (0, 14), (0, 17), (0, 37), (0, 39), (0, 49), (0, 53), (0, 54), (0, 57), (0, 58), (0, 59), (0, 60), (0, 36), (0, 31), (0, 45), (0, 64), (0, 65), (0, 55), (0, 56)] [8, 25, 33, 14, 21, 34, 35, 36, 31, 32, 9, 10, 11, 12, 13, 15, 16, 17, 18, 19, 20, 26, 27, 28, 29, 30, 54, 37, 38, 39] σ s
/-- what is known of a name stays -/
def UE (σ s : St) : Prop := (∀ e : Nat, (e : Int) < (σ 0 36).toInt → (s 9) e = (σ 9) e ∧ (s 10) e = (σ 10) e ∧ (s 15) e = (σ 15) e ∧ (s 12) e = (σ 12) e ∧ ((σ 14) e ≠ 0 → (s 14) e ≠ 0)) ∧ (∀ n : Nat, (n : Int) < (σ 0 36).toInt - Fi σ → 0 ≤ ((σ 21) n).toInt → 0 ≤ ((s 21) n).toInt) ∧ (∀ e : Nat, (e : Int) < Fi σ → (s 13) e = (σ 13) e ∧ (s 17) e = (σ 17) e)
def UB (σ s : St) : Prop := ∀ b : Nat, (b : Int) < (σ 0 45).toInt → (s 26) b = (σ 26) b ∧ (s 27) b = (σ 27) b ∧ (s 28) b = (σ 28) b ∧ (s 29) b = (σ 29) b ∧ (s 30) b = (σ 30) b ∧ (s 54) b = (σ 54) b
def UR (σ : St) (vs : List Nat) (s t : St) (z : List Nat) : Prop := KU σ s ∧ PA s t ∧ RW σ s ∧ OF σ s ∧ ((σ 0 17).toInt ≤ (s 0 17).toInt ∧ (σ 0 39).toInt ≤ (s 0 39).toInt ∧ pos σ ≤ pos s ∧ (σ 0 36).toInt ≤ (s 0 36).toInt ∧ (σ 0 45).toInt ≤ (s 0 45).toInt ∧ (σ 0 37).toInt ≤ (s 0 37).toInt) ∧ (∀ u ∈ vs, u ∈ z) ∧ vs.length ≤ z.length ∧ (∀ j : Nat, (j : Int) < (σ 0 39).toInt → (s 25) j = (σ 25) j) ∧ UE σ s ∧ UB σ s
def UT (σ : St) (vs : List Nat) (s t : St) (z : List Nat) : Prop := (∃ s0, UR σ vs s0 t z ∧ s = upC s0 0 15 (s 0 15)) ∧ (z.length : Int) ≤ vs.length + 2 * ((σ 0 9).toInt - pos σ)
/-- a row of a body: where a local's cells lie -/
def RowOK (w : Nat → Int32) (r : Nat) (fc : Int) : Prop := (0 ≤ (w r).toInt → (w r).toInt < fc) ∧ (0 < (w (r + 1)).toInt → 0 ≤ (w r).toInt ∧ (w r).toInt + (w (r + 1)).toInt ≤ fc)
/-- a body that is done -/
def BT (σ : St) (b : Nat) (vd : Prop) (C : Int → Nat → Nat → Prop) : Prop := ∃ (g : Gh) (E0 R nl : Nat), ((σ 26) b).toInt = E0 ∧ ((σ 29) b).toInt = R ∧ ((σ 28) b).toInt = nl ∧ E0 < R ∧ ((R + 2 * nl : Nat) : Int) ≤ (σ 0 17).toInt ∧ nl ≤ 100 ∧ (0 ≤ ((σ 30) b).toInt ∧ ((σ 30) b).toInt ≤ 1000000) ∧ (0 ≤ ((σ 54) b).toInt ∧ ((σ 54) b).toInt ≤ nl) ∧ (∃ k, g E0 = some (0, k)) ∧ (∀ q h k, g q = some (h, k) → (E0 ≤ q ∧ q < R) ∧ OPw (σ 8) g nl vd C q h k) ∧ ∀ k, k < nl → RowOK (σ 8) (R + 2 * k) ((σ 30) b).toInt
def BodyOK (σ : St) (e : Nat) : Prop := ∃ b : Nat, ((σ 17) e).toInt = b ∧ (b : Int) < (σ 0 45).toInt ∧ (σ 54) b = (σ 15) e ∧ (σ 27) b = (σ 0 35) ∧ BT σ b (((σ 10) e).toInt = -1) (CO σ)
def GOODu (σ : St) (f : Int) : Prop := ITd σ f (σ 0 37).toInt ∧ ∀ e : Nat, Fi σ ≤ (e : Int) → (e : Int) < (σ 0 36).toInt → ((σ 9) e).toInt = 2 → (σ 13) e ≠ 0 → BodyOK σ e
section UNI
variable {σ s s' τ t t' : St} {vs z z' : List Nat}
theorem ue_rf : UE σ σ := ⟨fun _ _ => ⟨rfl, rfl, rfl, rfl, fun h => h⟩, fun _ _ h => h, fun _ _ => ⟨rfl, rfl⟩⟩
theorem ub_rf : UB σ σ := fun _ _ => ⟨rfl, rfl, rfl, rfl, rfl, rfl⟩
theorem ur_rf (h : PA σ τ) : UR σ vs σ τ vs := ⟨kp_rf, h, fun _ _ => rfl, of_rf, ⟨Int.le_refl _, Int.le_refl _, Int.le_refl _, Int.le_refl _, Int.le_refl _, Int.le_refl _⟩, fun _ h => h, Nat.le_refl _, fun _ _ => rfl, ue_rf, ub_rf⟩
theorem ku_Fi (k : KU σ s) : Fi s = Fi σ := by
  have f1 : (s 0 35) = (σ 0 35) := k _ _ rfl rfl
  have e22 : (s 22) = (σ 22) := funext (fun j => k 22 j rfl rfl)
  unfold Fi
  rw [f1, e22]
theorem ur_tr {s' t' : St} {z' : List Nat} (h : UR σ vs s t z) (g : UR s z s' t' z') : UR σ vs s' t' z' := by
  obtain ⟨h1, h2, h3, h4, ⟨m1, m2, m3, m4, m5, m6⟩, h6, h7, h8, ⟨u1, u2, u3⟩, h10⟩ := h
  obtain ⟨g1, g2, g3, g4, ⟨n1, n2, n3, n4, n5, n6⟩, g6, g7, g8, ⟨v1, v2, v3⟩, g10⟩ := g
  have eF := ku_Fi h1
  refine ⟨kp_tr h1 g1, g2, fun j hj => (g3 j (by omega)).trans (h3 j hj), of_tr h4 g4, ⟨by omega, by omega, by omega, by omega, by omega, by omega⟩, fun u hu => g6 u (h6 u hu), by omega, fun j hj => (g8 j (by omega)).trans (h8 j hj), ⟨fun e he => ?_, fun n hn q => v2 n (by rw [eF]; omega) (u2 n hn q), fun e he => ?_⟩, fun b hb => ?_⟩
  · obtain ⟨a1, a2, a3, a4, a5⟩ := u1 e he
    obtain ⟨b1, b2, b3, b4, b5⟩ := v1 e (by omega)
    exact ⟨b1.trans a1, b2.trans a2, b3.trans a3, b4.trans a4, fun q => b5 (a5 q)⟩
  · obtain ⟨a1, a2⟩ := u3 e he
    obtain ⟨b1, b2⟩ := v3 e (by rw [eF]; exact he)
    exact ⟨b1.trans a1, b2.trans a2⟩
  · obtain ⟨a1, a2, a3, a4, a5, a6⟩ := h10 b hb
    obtain ⟨b1, b2, b3, b4, b5, b6⟩ := g10 b (by omega)
    exact ⟨b1.trans a1, b2.trans a2, b3.trans a3, b4.trans a4, b5.trans a5, b6.trans a6⟩
theorem ur_rs (r : RSt σ vs s t z) : UR σ vs s t z := by
  obtain ⟨h1, h2, h3, h4, h5, h6, h7, h8, h9, h10, h11, h12⟩ := r
  have f2 : (s 0 36) = (σ 0 36) := h1 _ _ rfl rfl
  have f3 : (s 0 45) = (σ 0 45) := h1 _ _ rfl rfl
  refine ⟨kp_sub h1 rfl rfl, h2, h3, h5, ⟨h6, h7, h8, by rw [f2]; exact Int.le_refl _, by rw [f3]; exact Int.le_refl _, h11.1⟩, h9, h10, h11.2.2.2, ⟨fun e _ => ⟨h1 9 e rfl rfl, h1 10 e rfl rfl, h1 15 e rfl rfl, h1 12 e rfl rfl, h4.1 e⟩, fun n _ => h4.2 n, fun e _ => ⟨h1 13 e rfl rfl, h1 17 e rfl rfl⟩⟩, fun b _ => ⟨h1 26 b rfl rfl, h1 27 b rfl rfl, h1 28 b rfl rfl, h1 29 b rfl rfl, h1 30 b rfl rfl, h1 54 b rfl rfl⟩⟩
theorem ur_sz (r : UR σ vs s t z) : (s 0 9).toInt = (σ 0 9).toInt := by rw [r.1 0 9 rfl rfl]
theorem ur_sil (r : UR σ vs s t z) : (s 0 15) = (σ 0 15) := r.1 0 15 rfl rfl
theorem ut_rt (g : RTt σ vs s t z) : UT σ vs s t z := by
  obtain ⟨⟨s0, g1, g2⟩, g3⟩ := g
  exact ⟨⟨s0, ur_rs g1, g2⟩, g3⟩
theorem ut_ur (r : UR σ vs s t z) (hz : (z.length : Int) ≤ vs.length + 2 * (pos s - pos σ)) (g : UT s z s' t' z') : UT σ vs s' t' z' := by
  obtain ⟨⟨s0, g1, g2⟩, g3⟩ := g
  refine ⟨⟨s0, ur_tr r g1, g2⟩, ?_⟩
  rw [ur_sz r] at g3
  omega
theorem co_ur (r : UR σ vs s t z) {n : Int} {h h' : Nat} (c : CO σ n h h') : CO s n h h' := by
  have eF := ku_Fi r.1
  obtain ⟨h1, h2, h3, h4, ⟨m1, m2, m3, m4, m5, m6⟩, h6, h7, h8, ⟨u1, u2, u3⟩, h10⟩ := r
  obtain ⟨c1, c2, e, c3, c4, c5, c6, c7, c8⟩ := c
  obtain ⟨a1, a2, a3, a4, a5⟩ := u1 e (by omega)
  exact ⟨c1, by rw [eF]; omega, e, by rw [eF]; exact c3, by rw [a1]; exact c4, a5 c5, u2 _ (by omega) c6, by rw [a3]; exact c7, by rw [a3, a2]; exact c8⟩
/-- a finished body stays so -/
theorem bt_ur {b : Nat} {vd : Prop} {C C' : Int → Nat → Nat → Prop} (hb : (b : Int) < (σ 0 45).toInt) (hw : RW σ s) (hm : (σ 0 17).toInt ≤ (s 0 17).toInt) (hu : UB σ s) (hC : ∀ n h h', C n h h' → C' n h h') (h : BT σ b vd C) : BT s b vd C' := by
  obtain ⟨g, E0, R, nl, h1, h2, h3, h4, h5, h6, h7, h8, h9, h10, h11⟩ := h
  obtain ⟨u1, u2, u3, u4, u5, u6⟩ := hu b hb
  refine ⟨g, E0, R, nl, by rw [u1]; exact h1, by rw [u4]; exact h2, by rw [u3]; exact h3, h4, by omega, h6, by rw [u5]; exact h7, by rw [u6]; exact h8, h9, fun q hh k hq => ?_, fun k hk => ?_⟩
  · obtain ⟨⟨a1, a2⟩, a3, a4⟩ := h10 q hh k hq
    refine ⟨⟨a1, a2⟩, by rw [hw q (by omega)]; exact a3, ?_⟩
    rw [hw q (by omega)]
    refine opn_mono (fun _ _ h => h) ?_ (Int.le_refl _) Iff.rfl hC a4
    by_cases c : q + 1 < R
    · exact Or.inr (by rw [hw _ (by omega)])
    · refine Or.inl (fun p hp => ?_)
      cases e : g p with
      | none => rfl
      | some v =>
        obtain ⟨v1, v2⟩ := v
        have := (h10 p v1 v2 e).1
        omega
  · have := h11 k hk
    unfold RowOK at *
    rw [hw _ (by omega), hw _ (by omega), u5]
    exact this
theorem bodyok_ur {e : Nat} (r : UR σ vs s t z) (he : (e : Int) < (σ 0 36).toInt) (hw : (s 17) e = (σ 17) e) (h : BodyOK σ e) : BodyOK s e := by
  obtain ⟨b, h1, h2, h3, h4, h5⟩ := h
  have hr := r
  obtain ⟨g1, g2, g3, g4, ⟨m1, m2, m3, m4, m5, m6⟩, g6, g7, g8, ⟨u1, u2, u3⟩, g10⟩ := hr
  obtain ⟨a1, a2, a3, a4, a5⟩ := u1 e he
  obtain ⟨b1, b2, b3, b4, b5, b6⟩ := g10 b h2
  have eo : (s 0 35) = (σ 0 35) := g1 _ _ rfl rfl
  refine ⟨b, by rw [hw]; exact h1, by omega, by rw [b6, a3]; exact h3, by rw [b2, eo]; exact h4, ?_⟩
  rw [a2]
  exact bt_ur h2 g3 m1 g10 (fun n h h' c => co_ur r c) h5
theorem good_ur {f : Int} (r : UR σ vs s t z) (hi : ITd σ f (σ 0 37).toInt → ITd s f (s 0 37).toInt) (hd : ∀ e : Nat, Fi σ ≤ (e : Int) → (e : Int) < (s 0 36).toInt → ((s 9) e).toInt = 2 → (s 13) e ≠ 0 → ((e : Int) < (σ 0 36).toInt ∧ (σ 13) e ≠ 0 ∧ (s 17) e = (σ 17) e) ∨ BodyOK s e) (h : GOODu σ f) : GOODu s f := by
  refine ⟨hi h.1, fun e e1 e2 e3 e4 => ?_⟩
  rw [ku_Fi r.1] at e1
  rcases hd e e1 e2 e3 e4 with ⟨c1, c2, c3⟩ | c
  · have hs := (r.2.2.2.2.2.2.2.2.1.1 e c1).1
    rw [hs] at e3
    exact bodyok_ur r c1 c3 (h.2 e e1 c1 e3 c2)
  · exact c
theorem good_rs {f : Int} (r : RSt σ vs s t z) (h : GOODu σ f) : GOODu s f := by
  have f2 : (s 0 36) = (σ 0 36) := r.1 _ _ rfl rfl
  refine good_ur (ur_rs r) (r.2.2.2.2.2.2.2.2.2.2.1.2.1 f) (fun e e1 e2 e3 e4 => Or.inl ⟨by rw [← f2]; exact e2, ?_, r.1 17 e rfl rfl⟩) h
  have e9 : (s 13) e = (σ 13) e := r.1 13 e rfl rfl
  rw [← e9]; exact e4
end UNI
