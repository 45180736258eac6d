/-! steps of statements: a condition; a jump out of a construct -/
section CND
variable {σ s z t : St} {g g' g1 : Gh} {X X0 Y : Nat → Prop} {b e e0 e' H H0 H' L L' m n c p tt j : Nat} {K E G D : List Nat} {x y v : Int32}
theorem sp_cond {Q : Nat → St → Prop} (h : SE σ g b K X H0 e0 [iV]) (cap : (σ 4 1).toInt ≤ 262150) (k : ∀ s, KXE σ s → MKs σ s → (∀ j, j < e0 → (s 24) j = (σ 24) j) → 0 ≤ (s 4 1).toInt → (clen s ≤ clen σ + 2 * plc σ [iV] ∧ e0 ≤ clen s) → ((s 65 6).toInt = 1 → 0 ≤ (s 65 9).toInt ∧ (s 65 9).toInt ≤ (s 4 1).toInt ∧ (s 65 9).toInt = e0) → ((s 6 3).toInt = 0 → (σ 6 3).toInt = 0 ∧ ∃ g', AGR g g' e0 ∧ VS s g' b K X H0 e0) → Q 65 s) : wk_X7_condition x σ Q := by
  unfold wk_X7_condition
  refine vs_pop h (by omega) (fun s g1 k1 m1 w1 ag vs hc fu _ => ⟨fun _ => ?_, fun _ => sp_ufail (by decide) (fun t kt ft => ?_)⟩)
  · have l0 := vs.2.2.2.1
    have c1 := clen_eq l0
    have v1 := vs.2.2.2.2.2.2.1
    have v2 := vs.2.2.2.2.2.2.2.2.1
    exact k s k1 m1 w1 l0 ⟨hc, v1⟩ (fun _ => ⟨by omega, by omega, v2⟩) (fun hf => ⟨by rw [← fu]; exact hf, g1, ag, vs⟩)
  · have l0 := vs.2.2.2.1
    have c1 := clen_eq l0
    have v1 := vs.2.2.2.2.2.2.1
    have v2 := vs.2.2.2.2.2.2.2.2.1
    have t4 : (t 4 1) = (s 4 1) := kt 4 1 rfl rfl
    have t24 : (t 24) = (s 24) := funext (fun j => kt 24 j rfl rfl)
    have t6 : (t 65 9) = (s 65 9) := kt 65 9 rfl rfl
    refine k t (ko_tr k1 (ko_sub (ko_kp kt) (by decide) (by decide))) (mks_tr m1 (mks_eq (funext (fun j => kt 25 j rfl rfl)) (funext (fun j => kt 39 j rfl rfl)))) (fun j hj => by rw [t24]; exact w1 j hj) (by rw [t4]; exact l0) (by rw [show clen t = clen s from by unfold clen; rw [t4]]; exact ⟨hc, v1⟩) (fun _ => ⟨by rw [t6]; omega, by rw [t6, t4]; omega, by rw [t6]; exact v2⟩) (fun hf => absurd hf ft)
/-- one more jump out of the innermost construct -/
theorem cx_exit (h : CX σ g e0 (c :: K) X) (hc : ¬ (c = 0 ∨ 9 ≤ c)) (kr : (s 49) = (σ 49) ∧ (s 50) = (σ 50) ∧ (s 51) = (σ 51) ∧ (s 52) = (σ 52) ∧ (s 53) = (σ 53) ∧ (s 54) = (σ 54)) (hw : ∀ q, q < e0 → (s 24) q = (σ 24) q) (ag : AGR g g' e0) (le : e0 ≤ e') (hj : e0 ≤ j) (hv : v.toInt = j) (hwj : (s 24) (j + 1) = (σ 51) (nzr K)) (wj : WJ (s 24) g' e' j (LV K)) : CX (upF s 51 (fun k => if k = nzr K then v else (s 51) k)) g' e' (c :: K) (fun q => X q ∨ q = j) := by
  obtain ⟨k1, k2, k3, k4, k5, k6⟩ := kr
  generalize hz : upF s 51 (fun k => if k = nzr K then v else (s 51) k) = z
  have zr : ∀ c, c ≠ 51 → z c = s c := fun c hc => by rw [← hz]; exact rdF_ne hc
  have z51 : (z 51) = fun k => if k = nzr K then v else (s 51) k := by rw [← hz]; exact rdF_eq
  have z24 : (z 24) = (s 24) := zr 24 (by decide)
  unfold CX at h ⊢
  rw [if_neg hc] at h ⊢
  obtain ⟨Y, E, G, D, a1, a2, ⟨a3, a4, a5⟩, b1, b2, b3, b4, b5, b6, b7, b8, b9, b10⟩ := h
  have xlt : ∀ q, X q → q + 2 ≤ e0 := cx_lt (c :: K) X (by
    unfold CX
    rw [if_neg hc]
    exact ⟨Y, E, G, D, a1, a2, ⟨a3, a4, a5⟩, b1, b2, b3, b4, b5, b6, b7, b8, b9, b10⟩)
  have jx : ¬ X j := fun q => by
    have := xlt j q
    omega
  have iY : ∀ q, Y q → X q := fun q hq => (a2 q).mpr (Or.inl hq)
  have iE : ∀ q, q ∈ E → X q := fun q hq => (a2 q).mpr (Or.inr (Or.inl hq))
  have iG : ∀ q, q ∈ G → X q := fun q hq => (a2 q).mpr (Or.inr (Or.inr (Or.inl hq)))
  have iD : ∀ q, q ∈ D → X q := fun q hq => (a2 q).mpr (Or.inr (Or.inr (Or.inr hq)))
  refine ⟨Y, j :: E, G, D, cx_mono K Y (fun i hi => ?_) (fun q hq => by rw [z24]; exact hw q hq) ag le a1, fun q => ?_, ⟨?_, ?_, ?_⟩, ?_, ?_, ?_, ?_, ?_, b6, ?_, ?_, ?_, b10⟩
  · refine ⟨by rw [zr 49 (by decide), k1], by rw [zr 50 (by decide), k2], ?_, by rw [zr 52 (by decide), k4], by rw [zr 53 (by decide), k5], by rw [zr 54 (by decide), k6]⟩
    rw [z51]
    show (if i = nzr K then v else (s 51) i) = _
    rw [if_neg (by omega), k3]
  · show (X q ∨ q = j) ↔ _
    rw [a2 q, List.mem_cons]
    constructor
    · rintro ((h | h | h | h) | h)
      · exact Or.inl h
      · exact Or.inr (Or.inl (Or.inr h))
      · exact Or.inr (Or.inr (Or.inl h))
      · exact Or.inr (Or.inr (Or.inr h))
      · exact Or.inr (Or.inl (Or.inl h))
    · rintro (h | (h | h) | h | h)
      · exact Or.inl (Or.inl h)
      · exact Or.inr h
      · exact Or.inl (Or.inr (Or.inl h))
      · exact Or.inl (Or.inr (Or.inr (Or.inl h)))
      · exact Or.inl (Or.inr (Or.inr (Or.inr h)))
  · intro q hq hy
    rcases List.mem_cons.mp hq with e2 | e2
    · exact jx (by rw [← e2]; exact iY q hy)
    · exact a3 q e2 hy
  · intro q hq
    refine ⟨(a4 q hq).1, fun hy => ?_⟩
    rcases List.mem_cons.mp hy with e2 | e2
    · exact jx (by rw [← e2]; exact iG q hq)
    · exact (a4 q hq).2 e2
  · intro q hq
    refine ⟨(a5 q hq).1, fun hy => ?_, (a5 q hq).2.2⟩
    rcases List.mem_cons.mp hy with e2 | e2
    · exact jx (by rw [← e2]; exact iD q hq)
    · exact (a5 q hq).2.1 e2
  · have ez : (z 51) (nzr K) = v := by rw [z51]; exact if_pos rfl
    rw [ez, z24]
    refine ⟨hv, ?_, fun q hq => by have := wj_lt (b4 q hq); omega⟩
    rw [hwj]
    exact chw_mono E _ (fun p hp => hw _ (by have := wj_lt (b4 p hp); omega)) b1
  · intro c5
    rw [zr 52 (by decide), k4, z24]
    exact chw_mono G _ (fun p hp => hw _ (by have := wj_lt (b5 p hp); omega)) (b2 c5)
  · rw [zr 49 (by decide), k1]
    exact b3
  · intro p hp
    rw [z24]
    rcases List.mem_cons.mp hp with e2 | e2
    · rw [e2]
      exact wj
    · exact wj_mono hw ag le (b4 p e2)
  · intro p hp
    rw [z24]
    exact wj_mono hw ag le (b5 p hp)
  · intro c2
    obtain ⟨t, d1, d2, d3⟩ := b7 c2
    exact ⟨t, by rw [zr 50 (by decide), k2]; exact d1, by omega, by rw [ag t d2]; exact d3⟩
  · intro c2
    obtain ⟨t, d1, d2, d3⟩ := b8 c2
    exact ⟨t, by rw [zr 54 (by decide), k6]; exact d1, by omega, by rw [ag t d2]; exact d3⟩
  · intro c2
    obtain ⟨p, d1, d2, d3, d4, d5, d6⟩ := b9 c2
    exact ⟨p, d1, by rw [zr 53 (by decide), k5]; exact d2, by rw [z24, hw p (by omega)]; exact d3, by rw [z24, hw (p + 1) (by omega)]; exact d4, by omega, by rw [ag p (by omega)]; exact d6⟩
end CND
