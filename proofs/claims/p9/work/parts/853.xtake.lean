/-! a step of an expression is looked at -/
section XTK
variable {σ s s7 z t : St} {g g' g1 : Gh} {CP CP' : Int → Nat → Prop} {X0 X Xs : Nat → Prop} {b e0 H0 L e H H' n q s00 Hs00 H2 H3 m Bb : Nat} {A B S : List It} {it : It} {x y : Int32}
theorem xr_le {c c' : Nat} (h : XRs σ s g X0 b e0 H0 L A B c) (hc : c ≤ c') : XRs σ s g X0 b e0 H0 L A B c' := by
  obtain ⟨h1, h2, h3, h4, h5, h6, h7⟩ := h
  refine ⟨h1, h2, h3, h4, h5, h6, fun hf => ?_⟩
  obtain ⟨g', a1, a2, a3⟩ := h7 hf
  exact ⟨g', a1, a2, by omega⟩
theorem dx_len {a tk : Int} (h : dx a tk A B) (hA : A.length ≤ 500) : B.length ≤ 500 := by
  unfold dx at h
  rcases h with h | h | h | h | h | h | h | h | h | h | h | h
  · rw [h.2.2]
    show A.length + 1 ≤ 500
    omega
  · rw [h.2.2.2]
    show A.length + 1 ≤ 500
    omega
  · obtain ⟨-, S, rfl, rfl⟩ := h
    have : S.length + 1 + 1 ≤ 500 := hA
    show S.length + 1 ≤ 500
    omega
  · obtain ⟨-, S, rfl, rfl⟩ := h
    exact hA
  · obtain ⟨-, -, S, rfl, rfl⟩ := h
    exact hA
  · obtain ⟨-, -, S, rfl, rfl⟩ := h
    have : S.length + 1 + 1 ≤ 500 := hA
    show S.length + 1 ≤ 500
    omega
  · obtain ⟨-, -, S, rfl, rfl⟩ := h
    have : S.length + 1 + 1 ≤ 500 := hA
    show S.length + 1 ≤ 500
    omega
  · obtain ⟨-, S, rfl, rfl⟩ := h
    have : S.length + 1 + 1 ≤ 500 := hA
    show S.length + 1 ≤ 500
    omega
  · obtain ⟨-, S, rfl, rfl⟩ := h
    exact hA
  · obtain ⟨-, S, rfl, rfl⟩ := h
    exact hA
  · obtain ⟨-, S, rfl, rfl⟩ := h
    exact hA
  · obtain ⟨-, S, rfl, rfl⟩ := h
    have : S.length + 1 + 1 + 1 ≤ 500 := hA
    show S.length + 1 ≤ 500
    omega
theorem cst_x {i : Nat} {a : Nat} (h : act σ i = a) (ha : a ≤ 16) : cst σ i = ([0, 2, 3, 2, 0, 0, 3, 2, 2, 2, 3, 2, 0, 2, 2, 2, 0] : List Nat).getD a 0 := by
  unfold cst
  rw [h, if_neg (by omega)]
  have : ∀ m, m ≤ 16 → ([0, 2, 3, 2, 0, 0, 3, 2, 2, 2, 3, 2, 0, 2, 2, 2, 0, 0, 0, 0, 0, 0, 1, 2, 2, 0, 0, 4, 2, 2, 0, 2, 0, 4, 4, 2, 2, 2, 3, 0, 0, 0, 0, 5, 3, 0, 3, 4, 0, 3] : List Nat).getD m 0 = ([0, 2, 3, 2, 0, 0, 3, 2, 2, 2, 3, 2, 0, 2, 2, 2, 0] : List Nat).getD m 0 := by decide
  exact this a ha
theorem xs_take {i : Nat} {Q : St → Prop} (u : UXs σ) (h : XC σ g X0 b e0 H0 L A) (cap : (σ 4 1).toInt ≤ 262150) (hA : A.length ≤ 500) (hx : x.toInt = i) (hi : i < 32100) (hd : dx (act σ i) (tkx σ ((σ 19) i)) A B) (k : ∀ s, XRs σ s g X0 b e0 H0 L A B (cst σ i) → Q s) : wk_X2_take x σ Q := by
  have ea : atv 32100 (σ 18) x = (σ 18) i := atv_at hx hi
  have et : atv 32100 (σ 19) x = (σ 19) i := atv_at hx hi
  have eact : ((σ 18) i).toInt = act σ i := rfl
  unfold wk_X2_take
  rw [ea, et, eact]
  have go : ∀ (a c : Nat), act σ i = a → a ≤ 16 → ([0, 2, 3, 2, 0, 0, 3, 2, 2, 2, 3, 2, 0, 2, 2, 2, 0] : List Nat).getD a 0 = c → ∀ s, XRs σ s g X0 b e0 H0 L A B c → Q s := fun a c h1 h2 h3 s hs => k s (by rw [cst_x h1 h2, h3]; exact hs)
  have no : ∀ {a a' : Int} {P : Prop}, act σ i = a → a ≠ a' → (act σ i = a' → P) := fun h1 h2 h3 => absurd (h1.symm.trans h3) h2
  unfold dx at hd
  rcases hd with ⟨h1, h2, rfl⟩ | ⟨h1, h2, h3, rfl⟩ | ⟨h1, S, rfl, rfl⟩ | ⟨h1, S, rfl, rfl⟩ | ⟨h1, h2, S, rfl, rfl⟩ | ⟨h1, h2, S, rfl, rfl⟩ | ⟨h1, h2, S, rfl, rfl⟩ | ⟨h1, S, rfl, rfl⟩ | ⟨h1, S, rfl, rfl⟩ | ⟨h1, S, rfl, rfl⟩ | ⟨h1, S, rfl, rfl⟩ | ⟨h1, S, rfl, rfl⟩
  · refine ⟨fun c => xs_number h cap h2 (go 1 2 c (by decide) rfl), fun n1 => ⟨fun c => xs_string h cap h2 (go 2 3 c (by decide) rfl), fun n2 => ⟨fun c => xs_named u h cap h2 (go 3 2 c (by decide) rfl), fun n3 => by omega⟩⟩⟩
  · refine ⟨no h1 (by decide), fun _ => ⟨no h1 (by decide), fun _ => ⟨no h1 (by decide), fun _ => ⟨fun c => xs_callee u h h2 h3 (go 4 0 c (by decide) rfl), fun n => absurd h1 n⟩⟩⟩⟩
  · have hl : S.length + 1 + 1 ≤ 500 := hA
    refine ⟨no h1 (by decide), fun _ => ⟨no h1 (by decide), fun _ => ⟨no h1 (by decide), fun _ => ⟨no h1 (by decide), fun _ => ⟨fun c => xs_argument h cap (by omega) (go 5 0 c (by decide) rfl), fun n => absurd h1 n⟩⟩⟩⟩⟩
  · have hl : S.length + 1 ≤ 500 := hA
    refine ⟨no h1 (by decide), fun _ => ⟨no h1 (by decide), fun _ => ⟨no h1 (by decide), fun _ => ⟨no h1 (by decide), fun _ => ⟨no h1 (by decide), fun _ => ⟨fun c => xs_call h cap (by omega) (go 6 3 c (by decide) rfl), fun n => absurd h1 n⟩⟩⟩⟩⟩⟩
  · have hl : S.length + 1 ≤ 500 := hA
    refine ⟨no h1 (by decide), fun _ => ⟨no h1 (by decide), fun _ => ⟨no h1 (by decide), fun _ => ⟨no h1 (by decide), fun _ => ⟨no h1 (by decide), fun _ => ⟨no h1 (by decide), fun _ => ⟨fun c => xs_left h cap (by omega) h2 (go 7 2 c (by decide) rfl), fun n => absurd h1 n⟩⟩⟩⟩⟩⟩⟩
  · have hl : S.length + 1 + 1 ≤ 500 := hA
    refine ⟨no h1 (by decide), fun _ => ⟨no h1 (by decide), fun _ => ⟨no h1 (by decide), fun _ => ⟨no h1 (by decide), fun _ => ⟨no h1 (by decide), fun _ => ⟨no h1 (by decide), fun _ => ⟨no h1 (by decide), fun _ => ⟨fun c => xs_binary h cap (by omega) h2 (go 8 2 c (by decide) rfl), fun n => absurd h1 n⟩⟩⟩⟩⟩⟩⟩⟩
  · have hl : S.length + 1 + 1 ≤ 500 := hA
    refine ⟨no h1 (by decide), fun _ => ⟨no h1 (by decide), fun _ => ⟨no h1 (by decide), fun _ => ⟨no h1 (by decide), fun _ => ⟨no h1 (by decide), fun _ => ⟨no h1 (by decide), fun _ => ⟨no h1 (by decide), fun _ => ⟨no h1 (by decide), fun _ => ⟨fun c => xs_assign h cap (by omega) h2 (go 9 2 c (by decide) rfl), fun n => absurd h1 n⟩⟩⟩⟩⟩⟩⟩⟩⟩
  · have hl : S.length + 1 + 1 ≤ 500 := hA
    refine ⟨no h1 (by decide), fun _ => ⟨no h1 (by decide), fun _ => ⟨no h1 (by decide), fun _ => ⟨no h1 (by decide), fun _ => ⟨no h1 (by decide), fun _ => ⟨no h1 (by decide), fun _ => ⟨no h1 (by decide), fun _ => ⟨no h1 (by decide), fun _ => ⟨no h1 (by decide), fun _ => ⟨fun c => xs_index h cap (by omega) (go 10 3 c (by decide) rfl), fun n => absurd h1 n⟩⟩⟩⟩⟩⟩⟩⟩⟩⟩
  · have hl : S.length + 1 ≤ 500 := hA
    have cnt := h.1
    refine ⟨fun c => by omega, fun _ => ⟨fun c => by omega, fun _ => ⟨fun c => by omega, fun _ => ⟨fun c => by omega, fun _ => ⟨fun c => by omega, fun _ => ⟨fun c => by omega, fun _ => ⟨fun c => by omega, fun _ => ⟨fun c => by omega, fun _ => ⟨fun c => by omega, fun _ => ⟨fun c => by omega, fun _ => ⟨fun c => xs_unary h cap (by omega) (go 11 2 c (by decide) rfl), fun n1 => ⟨fun c => xs_cast h cap (by omega) (go 12 0 c (by decide) rfl), fun n2 => ⟨fun c => sp_otop (n := S.length) (by rw [cnt]; rfl) (by omega) (xs_step h cap (by omega) (go 13 2 c (by decide) rfl)), fun n3 => by omega⟩⟩⟩⟩⟩⟩⟩⟩⟩⟩⟩⟩⟩
  · have hl : S.length + 1 ≤ 500 := hA
    refine ⟨no h1 (by decide), fun _ => ⟨no h1 (by decide), fun _ => ⟨no h1 (by decide), fun _ => ⟨no h1 (by decide), fun _ => ⟨no h1 (by decide), fun _ => ⟨no h1 (by decide), fun _ => ⟨no h1 (by decide), fun _ => ⟨no h1 (by decide), fun _ => ⟨no h1 (by decide), fun _ => ⟨no h1 (by decide), fun _ => ⟨no h1 (by decide), fun _ => ⟨no h1 (by decide), fun _ => ⟨no h1 (by decide), fun _ => ⟨fun c => xs_quest h cap (by omega) (go 14 2 c (by decide) rfl), fun n => absurd h1 n⟩⟩⟩⟩⟩⟩⟩⟩⟩⟩⟩⟩⟩⟩
  · have hl : S.length + 1 + 1 ≤ 500 := hA
    refine ⟨no h1 (by decide), fun _ => ⟨no h1 (by decide), fun _ => ⟨no h1 (by decide), fun _ => ⟨no h1 (by decide), fun _ => ⟨no h1 (by decide), fun _ => ⟨no h1 (by decide), fun _ => ⟨no h1 (by decide), fun _ => ⟨no h1 (by decide), fun _ => ⟨no h1 (by decide), fun _ => ⟨no h1 (by decide), fun _ => ⟨no h1 (by decide), fun _ => ⟨no h1 (by decide), fun _ => ⟨no h1 (by decide), fun _ => ⟨no h1 (by decide), fun _ => ⟨fun c => xs_colon h cap (by omega) (go 15 2 c (by decide) rfl), fun n => absurd h1 n⟩⟩⟩⟩⟩⟩⟩⟩⟩⟩⟩⟩⟩⟩⟩
  · have hl : S.length + 1 + 1 + 1 ≤ 500 := hA
    refine ⟨no h1 (by decide), fun _ => ⟨no h1 (by decide), fun _ => ⟨no h1 (by decide), fun _ => ⟨no h1 (by decide), fun _ => ⟨no h1 (by decide), fun _ => ⟨no h1 (by decide), fun _ => ⟨no h1 (by decide), fun _ => ⟨no h1 (by decide), fun _ => ⟨no h1 (by decide), fun _ => ⟨no h1 (by decide), fun _ => ⟨no h1 (by decide), fun _ => ⟨no h1 (by decide), fun _ => ⟨no h1 (by decide), fun _ => ⟨no h1 (by decide), fun _ => ⟨no h1 (by decide), fun _ => xs_choice h cap (by omega) (go 16 0 h1 (by decide) rfl)⟩⟩⟩⟩⟩⟩⟩⟩⟩⟩⟩⟩⟩⟩⟩
end XTK
