section
/-! steps of statements: break, continue, return -/
/-- no loop among these -/
def nol (K : List Nat) : Prop := ∀ c ∈ K, c = 0 ∨ c = 1 ∨ 9 ≤ c
/-- well formed: where statements and bodies stand -/
def wfK : List Nat → Prop
  | [] => True
  | c :: K => (c = 0 → bdK K) ∧ (1 ≤ c → tpK K) ∧ wfK K
theorem loop_split : ∀ K : List Nat, nol K ∨ ∃ K1 c K2, K = K1 ++ c :: K2 ∧ nol K1 ∧ 2 ≤ c ∧ c ≤ 8
  | [] => Or.inl (fun c hc => by cases hc)
  | c :: K => by
    by_cases h : c = 0 ∨ c = 1 ∨ 9 ≤ c
    · rcases loop_split K with n | ⟨K1, c1, K2, e1, e2, e3, e4⟩
      · refine Or.inl (fun x hx => ?_)
        rcases List.mem_cons.mp hx with z | z
        · rw [z]
          exact h
        · exact n x z
      · refine Or.inr ⟨c :: K1, c1, K2, by rw [e1]; rfl, fun x hx => ?_, e3, e4⟩
        rcases List.mem_cons.mp hx with z | z
        · rw [z]
          exact h
        · exact e2 x z
    · exact Or.inr ⟨[], c, K, rfl, fun x hx => (by cases hx), by omega, by omega⟩
theorem nol_tl {c : Nat} {K : List Nat} (h : nol (c :: K)) : nol K := fun x hx => h x (List.mem_cons_of_mem _ hx)
theorem wf_loop : ∀ (n : Nat) (K1 : List Nat) (c : Nat) (K2 : List Nat), K1.length ≤ n → nol K1 → 2 ≤ c → tpK (K1 ++ c :: K2) → wfK (K1 ++ c :: K2) → c = 3 ∨ c = 4 ∨ c = 8
  | n, [], c, K2 => fun _ _ h2 ht _ => by
    rcases ht with h | ⟨K', h⟩
    · cases h
    · have := (List.cons.inj h).1
      omega
  | 0, d :: K1, c, K2 => fun hl _ _ _ _ => absurd hl (by show ¬ K1.length + 1 ≤ 0; omega)
  | n + 1, d :: K1, c, K2 => fun hl hn h2 ht hw => by
    have hl' : K1.length + 1 ≤ n + 1 := hl
    have d0 : d = 0 := by
      rcases ht with h | ⟨K', h⟩
      · cases h
      · exact (List.cons.inj h).1
    have w1 : bdK (K1 ++ c :: K2) := hw.1 d0
    have w2 : wfK (K1 ++ c :: K2) := hw.2.2
    cases K1 with
    | nil =>
      rcases w1 with h | ⟨c', K', h, h'⟩
      · cases h
      · have e := (List.cons.inj h).1
        omega
    | cons d1 K3 =>
      have hl3 : K3.length + 1 + 1 ≤ n + 1 := hl'
      have n1 := hn d1 (List.mem_cons_of_mem _ List.mem_cons_self)
      rcases w1 with h | ⟨c', K', h, h'⟩
      · cases h
      · have e := (List.cons.inj h).1
        have d1c : d1 = 0 ∨ d1 = 1 := by omega
        rcases d1c with z | z
        · exact wf_loop n (d1 :: K3) c K2 (by show K3.length + 1 ≤ n; omega) (nol_tl hn) h2 (Or.inr ⟨K3 ++ c :: K2, by rw [z]; rfl⟩) w2
        · exact wf_loop n K3 c K2 (by omega) (nol_tl (nol_tl hn)) h2 (w2.2.1 (by omega)) w2.2.2
theorem lv_app {K2 : List Nat} : ∀ (K1 : List Nat), nol K1 → LV (K1 ++ K2) = LV K2
  | [], _ => rfl
  | c :: K1, h => by
    have c0 := h c List.mem_cons_self
    show (if c = 3 ∨ c = 4 ∨ c = 5 ∨ c = 7 then LV (K1 ++ K2) + 1 else if c = 8 then LV (K1 ++ K2) + 2 else LV (K1 ++ K2)) = LV K2
    rw [if_neg (by omega), if_neg (by omega)]
    exact lv_app K1 (nol_tl h)
theorem nzr_app {K2 : List Nat} : ∀ (K1 : List Nat), nzr K2 ≤ nzr (K1 ++ K2)
  | [] => Nat.le_refl _
  | c :: K1 => by
    have ih := nzr_app (K2 := K2) K1
    show nzr K2 ≤ nzr (c :: (K1 ++ K2))
    by_cases h : c = 0 ∨ 9 ≤ c
    · rw [nz_0 h]
      exact ih
    · rw [nz_c h]
      omega
section SLV
variable {σ s z t : St} {g g' g1 : Gh} {X X0 Y : Nat → Prop} {b e e0 e' H H0 H' L L' m n N c d p tt j cc : Nat} {K K2 M E G D : List Nat} {x y v : Int32}
theorem cx_loops : ∀ (K1 : List Nat) (X : Nat → Prop), nol K1 → CX σ g e (K1 ++ M) X → ∀ j, nzr M ≤ j → j < nzr (K1 ++ M) → ((σ 49) j).toInt = 0
  | [], X => fun _ _ j h1 h2 => absurd h2 (by show ¬ j < nzr M; omega)
  | c :: K1, X => fun hn h j h1 h2 => by
    have c0 := hn c List.mem_cons_self
    have h' : CX σ g e (c :: (K1 ++ M)) X := h
    have h2' : j < nzr (c :: (K1 ++ M)) := h2
    unfold CX at h'
    by_cases cz : c = 0 ∨ 9 ≤ c
    · rw [if_pos cz] at h'
      rw [nz_0 cz] at h2'
      exact cx_loops K1 X (nol_tl hn) h' j h1 h2'
    · rw [if_neg cz] at h'
      rw [nz_c cz] at h2'
      have c1 : c = 1 := by omega
      obtain ⟨Y, E, G, D, a1, a2, a3, b1, b2, b3, -⟩ := h'
      by_cases ej : j = nzr (K1 ++ M)
      · rw [ej, b3, if_pos c1]
      · exact cx_loops K1 Y (nol_tl hn) a1 j h1 (by omega)
theorem cx_suf : ∀ (K1 : List Nat) (X : Nat → Prop), CX σ g e (K1 ++ M) X → ∃ Y, CX σ g e M Y
  | [], X => fun h => ⟨X, h⟩
  | c :: K1, X => fun h => by
    have h' : CX σ g e (c :: (K1 ++ M)) X := h
    unfold CX at h'
    by_cases cz : c = 0 ∨ 9 ≤ c
    · rw [if_pos cz] at h'
      exact cx_suf K1 X h'
    · rw [if_neg cz] at h'
      obtain ⟨Y, E, G, D, a1, -⟩ := h'
      exact cx_suf K1 Y a1
/-- one more jump that waits in a construct further out -/
theorem cx_up (hb : ∀ Y, CX σ g e0 M Y → CX z g' e' M (fun q => Y q ∨ q = j)) (hr : ∀ i, nzr M ≤ i → (z 49) i = (σ 49) i ∧ (z 50) i = (σ 50) i ∧ (z 51) i = (σ 51) i ∧ (z 52) i = (σ 52) i ∧ (z 53) i = (σ 53) i ∧ (z 54) i = (σ 54) i) (hw : ∀ q, q < e0 → (z 24) q = (σ 24) q) (ag : AGR g g' e0) (le : e0 ≤ e') (hj : e0 ≤ j) : ∀ (K1 : List Nat) (X : Nat → Prop), CX σ g e0 (K1 ++ M) X → CX z g' e' (K1 ++ M) (fun q => X q ∨ q = j)
  | [], X => fun h => hb X h
  | c :: K1, X => fun h => by
    have h' : CX σ g e0 (c :: (K1 ++ M)) X := h
    show CX z g' e' (c :: (K1 ++ M)) (fun q => X q ∨ q = j)
    have xlt := cx_lt (c :: (K1 ++ M)) X h'
    unfold CX at h' ⊢
    by_cases cz : c = 0 ∨ 9 ≤ c
    · rw [if_pos cz] at h' ⊢
      exact cx_up hb hr hw ag le hj K1 X h'
    · rw [if_neg cz] at h' ⊢
      obtain ⟨Y, E, G, D, a1, a2, ⟨a3, a4, a5⟩, a6⟩ := h'
      have xj : ∀ q, X q → q ≠ j := fun q hq e2 => by have := xlt q hq; omega
      refine ⟨fun q => Y q ∨ q = j, E, G, D, cx_up hb hr hw ag le hj K1 Y a1, fun q => ?_, ⟨fun q hq hy => ?_, fun q hq => ⟨fun hy => ?_, (a4 q hq).2⟩, fun q hq => ⟨fun hy => ?_, (a5 q hq).2⟩⟩, cx1_mono (hr _ (nzr_app K1)) hw ag le a6⟩
      · show (X q ∨ q = j) ↔ _
        rw [a2 q]
        constructor
        · rintro ((y | y | y | y) | y)
          · exact Or.inl (Or.inl y)
          · exact Or.inr (Or.inl y)
          · exact Or.inr (Or.inr (Or.inl y))
          · exact Or.inr (Or.inr (Or.inr y))
          · exact Or.inl (Or.inr y)
        · rintro ((y | y) | y | y | y)
          · exact Or.inl (Or.inl y)
          · exact Or.inr y
          · exact Or.inl (Or.inr (Or.inl y))
          · exact Or.inl (Or.inr (Or.inr (Or.inl y)))
          · exact Or.inl (Or.inr (Or.inr (Or.inr y)))
      · rcases hy with y | y
        · exact a3 q hq y
        · exact xj q ((a2 q).mpr (Or.inr (Or.inl hq))) y
      · rcases hy with y | y
        · exact (a4 q hq).1 y
        · exact xj q ((a2 q).mpr (Or.inr (Or.inr (Or.inl hq)))) y
      · rcases hy with y | y
        · exact (a5 q hq).1 y
        · exact xj q ((a2 q).mpr (Or.inr (Or.inr (Or.inr hq)))) y
/-- one more jump to where a loop goes on -/
theorem cx_again (h : CX σ g e0 (c :: K) X) (hc : c = 3 ∨ c = 4 ∨ c = 8) (kr : (s 49) = (σ 49) ∧ (s 50) = (σ 50) ∧ (s 51) = (σ 51) ∧ (s 52) = (σ 52) ∧ (s 53) = (σ 53) ∧ (s 54) = (σ 54)) (hw : ∀ q, q < e0 → (s 24) q = (σ 24) q) (ag : AGR g g' e0) (le : e0 ≤ e') (hj : e0 ≤ j) (hv : v.toInt = j) (hwj : (s 24) (j + 1) = (σ 52) (nzr K)) (wj : WJ (s 24) g' e' j (if c = 8 then LV K + 2 else LV K + 1)) : CX (upF s 52 (fun k => if k = nzr K then v else (s 52) k)) g' e' (c :: K) (fun q => X q ∨ q = j) := by
  have hc0 : ¬ (c = 0 ∨ 9 ≤ c) := by omega
  have nG : ¬ (c = 1 ∨ c = 2 ∨ c = 5 ∨ c = 6 ∨ c = 7) := by omega
  have n7 : ¬ c = 7 := by omega
  obtain ⟨k1, k2, k3, k4, k5, k6⟩ := kr
  generalize hz : upF s 52 (fun k => if k = nzr K then v else (s 52) k) = z
  have zr : ∀ c, c ≠ 52 → z c = s c := fun c hc => by rw [← hz]; exact rdF_ne hc
  have z52 : (z 52) = fun k => if k = nzr K then v else (s 52) k := by rw [← hz]; exact rdF_eq
  have z24 : (z 24) = (s 24) := zr 24 (by decide)
  have xlt := cx_lt (c :: K) X h
  unfold CX at h ⊢
  rw [if_neg hc0] at h ⊢
  obtain ⟨Y, E, G, D, a1, a2, ⟨a3, a4, a5⟩, b1, b2, b3, b4, b5, b6, b7, b8, b9, b10⟩ := h
  have jx : ¬ X j := fun q => by
    have := xlt j q
    omega
  have iY : ∀ q, Y q → X q := fun q hq => (a2 q).mpr (Or.inl hq)
  have iE : ∀ q, q ∈ E → X q := fun q hq => (a2 q).mpr (Or.inr (Or.inl hq))
  have iD : ∀ q, q ∈ D → X q := fun q hq => (a2 q).mpr (Or.inr (Or.inr (Or.inr hq)))
  refine ⟨Y, E, j :: G, D, cx_mono K Y (fun i hi => ?_) (fun q hq => by rw [z24]; exact hw q hq) ag le a1, fun q => ?_, ⟨a3, ?_, ?_⟩, ?_, ?_, ?_, ?_, ?_, fun c2 => absurd c2 nG, ?_, ?_, fun c2 => absurd c2 n7, b10⟩
  · refine ⟨by rw [zr 49 (by decide), k1], by rw [zr 50 (by decide), k2], by rw [zr 51 (by decide), k3], ?_, by rw [zr 53 (by decide), k5], by rw [zr 54 (by decide), k6]⟩
    rw [z52]
    show (if i = nzr K then v else (s 52) i) = _
    rw [if_neg (by omega), k4]
  · show (X q ∨ q = j) ↔ _
    rw [a2 q, List.mem_cons]
    constructor
    · rintro ((h | h | h | h) | h)
      · exact Or.inl h
      · exact Or.inr (Or.inl h)
      · exact Or.inr (Or.inr (Or.inl (Or.inr h)))
      · exact Or.inr (Or.inr (Or.inr h))
      · exact Or.inr (Or.inr (Or.inl (Or.inl h)))
    · rintro (h | h | (h | h) | h)
      · exact Or.inl (Or.inl h)
      · exact Or.inl (Or.inr (Or.inl h))
      · exact Or.inr h
      · exact Or.inl (Or.inr (Or.inr (Or.inl h)))
      · exact Or.inl (Or.inr (Or.inr (Or.inr h)))
  · intro q hq
    rcases List.mem_cons.mp hq with e2 | e2
    · exact ⟨fun hy => jx (by rw [← e2]; exact iY q hy), fun hy => jx (by rw [← e2]; exact iE q hy)⟩
    · exact a4 q e2
  · intro q hq
    refine ⟨(a5 q hq).1, (a5 q hq).2.1, fun hy => ?_⟩
    rcases List.mem_cons.mp hy with e2 | e2
    · exact jx (by rw [← e2]; exact iD q hq)
    · exact (a5 q hq).2.2 e2
  · rw [zr 51 (by decide), k3, z24]
    exact chw_mono E _ (fun p hp => hw _ (by have := wj_lt (b4 p hp); omega)) b1
  · intro c5
    have ez : (z 52) (nzr K) = v := by rw [z52]; exact if_pos rfl
    rw [ez, z24]
    refine ⟨hv, ?_, fun q hq => by have := wj_lt (b5 q hq); omega⟩
    rw [hwj]
    exact chw_mono G _ (fun p hp => hw _ (by have := wj_lt (b5 p hp); omega)) (b2 c5)
  · rw [zr 49 (by decide), k1]
    exact b3
  · intro p hp
    rw [z24]
    exact wj_mono hw ag le (b4 p hp)
  · intro p hp
    rw [z24]
    rcases List.mem_cons.mp hp with e2 | e2
    · rw [e2]
      exact wj
    · exact wj_mono hw ag le (b5 p e2)
  · intro c2
    obtain ⟨t, d1, d2, d3⟩ := b7 c2
    exact ⟨t, by rw [zr 50 (by decide), k2]; exact d1, by omega, by rw [ag t d2]; exact d3⟩
  · intro c2
    obtain ⟨t, d1, d2, d3⟩ := b8 c2
    exact ⟨t, by rw [zr 54 (by decide), k6]; exact d1, by omega, by rw [ag t d2]; exact d3⟩
/-- the formula of leave(), over the row of chains -/
def lvF (cc : Nat) (a1 : Int32) (σ : St) (Q : St → Prop) : Prop :=
  ∃ L7 : Nat → Int32 → Prop, (∃ n, L7 n ((σ 9 5) - (1 : Int32))) ∧ ∀ (n7 : Nat) (x3_7 : Int32), L7 n7 x3_7 → ((∃ J28 : Prop, (J28  → ((0 ≤ x3_7.toInt → wk_X0_emit (26 : Int32) (atv 26 (σ cc) x3_7) (0 : Int32) (0 : Int32) σ (fun v59 s59 => Q (upF s59 cc (setv 26 (s59 cc) x3_7 v59)))) ∧ (x3_7.toInt < 0 → wk_X11_fail (2 : Int32) a1 σ (fun s38 => Q s38)))) ∧ (x3_7.toInt < 0 → J28) ∧ (0 ≤ x3_7.toInt → ((atv 26 (σ 49) x3_7).toInt ≠ 0 → J28) ∧ ((atv 26 (σ 49) x3_7).toInt = 0 → ∃ m, m < n7 ∧ L7 m (x3_7 + (-1))))))
theorem lv_no {Q : St → Prop} (ho : (σ 9 5).toInt = N) (hN : N ≤ 26) (hl : ∀ j, j < N → ((σ 49) j).toInt = 0) (k : ∀ s, Kp [(6, 3), (6, 4)] [] σ s → (s 6 3).toInt ≠ 0 → Q s) : lvF cc x σ Q := by
  have oi : ((σ 9 5) - (1 : Int32)).toInt = (N : Int) - 1 := by rw [sbc i1 (by omega) (by omega)]; omega
  refine ⟨fun n y => y.toInt = (n : Int) - 1 ∧ n ≤ N, ⟨N, oi, Nat.le_refl _⟩, ?_⟩
  rintro n y ⟨hy, hn⟩
  refine ⟨y.toInt < 0, fun c => ⟨fun c2 => by omega, fun _ => sp_ufail (by decide) k⟩, id, fun c => ⟨fun c2 => ?_, fun _ => ⟨n - 1, by omega, by rw [dc1 (by omega)]; omega, by omega⟩⟩⟩
  exfalso
  have e : y.toInt = ((n - 1 : Nat) : Int) := by omega
  rw [atv_at e (by omega), hl (n - 1) (by omega)] at c2
  exact c2 rfl
theorem lv_yes {Q : St → Prop} (ho : (σ 9 5).toInt = N) (hN : N ≤ 26) (hm : m < N) (hl : ∀ j, m < j → j < N → ((σ 49) j).toInt = 0) (h1 : ((σ 49) m).toInt ≠ 0) (k : wk_X0_emit (26 : Int32) (σ cc m) (0 : Int32) (0 : Int32) σ (fun v s => Q (upF s cc (fun i => if i = m then v else s cc i)))) : lvF cc x σ Q := by
  have oi : ((σ 9 5) - (1 : Int32)).toInt = (N : Int) - 1 := by rw [sbc i1 (by omega) (by omega)]; omega
  refine ⟨fun n y => y.toInt = (n : Int) - 1 ∧ m < n ∧ n ≤ N, ⟨N, oi, hm, Nat.le_refl _⟩, ?_⟩
  rintro n y ⟨hy, hn, hn2⟩
  have e : y.toInt = ((n - 1 : Nat) : Int) := by omega
  refine ⟨n = m + 1, fun c => ⟨fun _ => ?_, fun c2 => by omega⟩, fun c => by omega, fun c => ⟨fun c2 => ?_, fun c2 => ⟨n - 1, by omega, by rw [dc1 (by omega)]; omega, ?_, by omega⟩⟩⟩
  · have e2 : y.toInt = (m : Int) := by omega
    have e3 : ∀ f : Nat → Int32, ∀ v : Int32, setv 26 f y v = fun i => if i = m then v else f i := fun f v => setv_at e2 (by omega)
    rw [atv_at e2 (by omega)]
    have e4 : (fun (v59 : Int32) (s59 : St) => Q (upF s59 cc (setv 26 (s59 cc) y v59))) = fun v s => Q (upF s cc (fun i => if i = m then v else s cc i)) := funext (fun v => funext (fun s => by rw [e3]))
    rw [e4]
    exact k
  · by_cases c3 : n = m + 1
    · exact c3
    · exfalso
      rw [atv_at e (by omega), hl (n - 1) (by omega) (by omega)] at c2
      exact c2 rfl
  · by_cases c3 : n = m + 1
    · exfalso
      have e2 : y.toInt = (m : Int) := by omega
      rw [atv_at e2 (by omega)] at c2
      exact h1 c2
    · omega
end SLV
end

section
/-! steps of statements: break, continue, return, whole -/
section SBC
variable {σ s z t : St} {g g' g1 : Gh} {X X0 Y : Nat → Prop} {b e e0 e' H H0 H' L L' m n N c d p tt j cc : Nat} {K K2 M E G D : List Nat} {x y v : Int32}
theorem lv_mono {K2 : List Nat} : ∀ (K1 : List Nat), LV K2 ≤ LV (K1 ++ K2)
  | [] => Nat.le_refl _
  | c :: K1 => by
    have ih := lv_mono (K2 := K2) K1
    show LV K2 ≤ (if c = 3 ∨ c = 4 ∨ c = 5 ∨ c = 7 then LV (K1 ++ K2) + 1 else if c = 8 then LV (K1 ++ K2) + 2 else LV (K1 ++ K2))
    by_cases h : c = 3 ∨ c = 4 ∨ c = 5 ∨ c = 7
    · rw [if_pos h]
      omega
    · rw [if_neg h]
      by_cases h2 : c = 8
      · rw [if_pos h2]
        omega
      · rw [if_neg h2]
        exact ih
/-- the jump of a break or continue put: the row of chains is left to be told -/
theorem ss_jmp {cc m : Nat} {Q : St → Prop} (hcc : cc = 51 ∨ cc = 52) (h : SB σ g b K X 0) (cap : (σ 4 1).toInt ≤ 262150) (hf : (σ 6 3).toInt = 0)
    (hC : ∀ s g', KXE σ s → (∀ q, q < clen σ → (s 24) q = (σ 24) q) → AGR g g' (clen σ) → (s 24) (clen σ + 1) = (σ cc m) → WJ (s 24) g' (clen σ + 2) (clen σ) (LV K) → CX (upF s cc (fun i => if i = m then (σ 4 1) else s cc i)) g' (clen σ + 2) K (fun q => X q ∨ q = clen σ))
    (k : ∀ s, SRs σ s b K 0 2 → Q s) : wk_X0_emit (26 : Int32) (σ cc m) (0 : Int32) (0 : Int32) σ (fun v s => Q (upF s cc (fun i => if i = m then v else s cc i))) := by
  obtain ⟨h1, h2, h3, h4, h5, h6⟩ := h
  have c0 := clen_eq h4
  refine sk_emit (n := 26) rfl (by decide) h4 (by omega) (fun v s ev em => ?_)
  have ec := em_clen em (n := 26) rfl h4
  have el := em_len em (m := 26) rfl
  have l2 : ln 26 = 2 := rfl
  obtain ⟨ek, emk, -, -, ef, ee⟩ := em_k em
  have ec2 : clen s = clen σ + 2 := ec
  have el2 : (s 4 1).toInt = (σ 4 1).toInt + 2 := el
  obtain ⟨g2, T2, ag2, gn⟩ := typ_hole (w' := (s 24)) (n := 26) (H' := 0) (L' := LV K) (typ_mono (fun q _ => rfl) agr_rf (cpu_mono ek emk) (fun _ z => z) h1) em.2.2.1 (by rw [em.2.2.2.1]; rfl) (by decide) (fun z => absurd rfl z)
  have cz := hC s g2 ek em.2.2.1 ag2 em.2.2.2.2.1 ⟨26, LV K, by rw [em.2.2.2.1]; rfl, Or.inl rfl, by rw [ag2 _ (Nat.le_refl _), h1.2.1]; rfl, Nat.le_refl _, Nat.le_refl _⟩
  rw [ev]
  generalize hz : upF s cc (fun i => if i = m then (σ 4 1) else s cc i) = z at cz ⊢
  have zr : ∀ c, c ≠ 51 → c ≠ 52 → z c = s c := fun c h1 h2 => by
    rw [← hz]
    refine rdF_ne (fun e => ?_)
    rcases hcc with q | q
    · exact h1 (e.trans q)
    · exact h2 (e.trans q)
  have z4 : (z 4 1) = (s 4 1) := by rw [zr 4 (by decide) (by decide)]
  have ecz : clen z = clen σ + 2 := by unfold clen at ec2 ⊢; rw [z4]; exact ec2
  have z24 : (z 24) = (s 24) := zr 24 (by decide) (by decide)
  have kz : KXS s z := by
    rw [← hz]
    rcases hcc with q | q
    · subst q
      exact ko_kp (kp_F kp_rf rfl)
    · subst q
      exact ko_kp (kp_F kp_rf rfl)
  have mz : MKs s z := mks_eq (zr 25 (by decide) (by decide)) (zr 39 (by decide) (by decide))
  have bb := h1.1
  refine k z ⟨ko_tr (kxs_e ek) kz, mks_tr emk mz, ⟨fun j hj => by rw [z24]; exact em.2.2.1 j (by omega), by omega⟩, by rw [z4]; omega, by rw [z4]; omega, fun _ => ⟨hf, g2, _, ⟨?_, by rw [ecz]; exact cz, by rw [zr 7 (by decide) (by decide), ee]; exact h3, by rw [z4]; omega, by rw [zr 9 (by decide) (by decide), (kw_e ek).2.2.2.2.2.2]; exact h5, ?_⟩, by omega⟩⟩
  · rw [ecz, z24]
    exact typ_mono (fun _ _ => rfl) agr_rf (cpu_x kz mz) (fun _ z => z) T2
  · rw [ecz]
    exact bnd_ext h6 ag2 (fun j a1 a2 => by
      have : j = clen σ + 1 := by omega
      rw [this]
      exact gn) T2.2.1 (by omega)
theorem ss_leave {cc : Nat} {Q : St → Prop} (hcc : cc = 51 ∨ cc = 52) (h : SB σ g b K X 0) (hn : nzr K ≤ 25) (cap : (σ 4 1).toInt ≤ 262150) (hf : (σ 6 3).toInt = 0) (ht : tpK K) (hw : wfK K) (k : ∀ s, SRs σ s b K 0 2 → Q s) : lvF cc x σ Q := by
  have h' := h
  obtain ⟨h1, h2, h3, h4, h5, h6⟩ := h'
  have c0 := clen_eq h4
  have bb := h1.1
  rcases loop_split K with nl | ⟨K1, c, K2, e1, e2, e3, e4⟩
  · refine lv_no h5 (by omega) (fun j hj => cx_loops (M := []) K X nl (by rw [List.append_nil]; exact h2) j (Nat.zero_le _) (by rw [List.append_nil]; exact hj)) (fun s kk ff => k s ?_)
    have s4 : (s 4 1) = (σ 4 1) := kk 4 1 rfl rfl
    refine sr_bad (ko_sub (ko_kp kk) (by decide) (by decide)) (mks_eq (funext (fun j => kk 25 j rfl rfl)) (funext (fun j => kk 39 j rfl rfl))) (fun j _ => kk 24 j rfl rfl) ?_ (by rw [s4]; exact h4) (by rw [s4]; omega) ff
    have : clen s = clen σ := by unfold clen; rw [s4]
    omega
  · subst e1
    have c9 : ¬ (c = 0 ∨ 9 ≤ c) := by omega
    have nk : nzr (c :: K2) = nzr K2 + 1 := nz_c c9
    have na := nzr_app (K2 := c :: K2) K1
    obtain ⟨Ys, hs⟩ := cx_suf (M := c :: K2) K1 X h2
    have hl1 : ((σ 49) (nzr K2)).toInt ≠ 0 := by
      unfold CX at hs
      rw [if_neg c9] at hs
      obtain ⟨Y, E, G, D, a1, a2, a3, b1, b2, b3, b4⟩ := hs
      rw [b3, if_neg (by omega)]
      decide
    have lvm := lv_mono (K2 := c :: K2) K1
    have lv2 : LV K2 ≤ LV (c :: K2) := lv_mono (K2 := K2) [c]
    refine lv_yes h5 (by omega) (m := nzr K2) (by omega) (fun j j1 j2 => cx_loops (M := c :: K2) K1 X e2 h2 j (by omega) j2) hl1 (ss_jmp hcc h cap hf (fun s g' ek ww ag hj wj => ?_) k)
    obtain ⟨q1, q2, q3, q4, q5, q6, q7⟩ := kw_e ek
    have wjm : ∀ l, l ≤ LV (K1 ++ c :: K2) → WJ (s 24) g' (clen σ + 2) (clen σ) l := fun l hl => by
      obtain ⟨n, k2, a1, a2, a3, a4, a5⟩ := wj
      exact ⟨n, k2, a1, a2, a3, a4, by omega⟩
    rcases hcc with ec | ec
    · subst ec
      refine cx_up (M := c :: K2) (fun Y hY => cx_exit hY c9 ⟨q1, q2, q3, q4, q5, q6⟩ ww ag (by omega) (Nat.le_refl _) (by omega) hj (wjm _ (by omega))) (fun i hi => ?_) (fun q hq => by rw [rdF_ne (by decide)]; exact ww q hq) ag (by omega) (Nat.le_refl _) K1 X h2
      refine ⟨by rw [rdF_ne (by decide), q1], by rw [rdF_ne (by decide), q2], ?_, by rw [rdF_ne (by decide), q4], by rw [rdF_ne (by decide), q5], by rw [rdF_ne (by decide), q6]⟩
      rw [rdF_eq]
      show (if i = nzr K2 then (σ 4 1) else s 51 i) = _
      rw [if_neg (by omega), q3]
    · subst ec
      have c348 := wf_loop _ K1 c K2 (Nat.le_refl _) e2 e3 ht hw
      refine cx_up (M := c :: K2) (fun Y hY => cx_again hY c348 ⟨q1, q2, q3, q4, q5, q6⟩ ww ag (by omega) (Nat.le_refl _) (by omega) hj (wjm _ ?_)) (fun i hi => ?_) (fun q hq => by rw [rdF_ne (by decide)]; exact ww q hq) ag (by omega) (Nat.le_refl _) K1 X h2
      · refine Nat.le_trans ?_ lvm
        rcases c348 with e9 | e9 | e9 <;> subst e9 <;> exact Nat.le_refl _
      · refine ⟨by rw [rdF_ne (by decide), q1], by rw [rdF_ne (by decide), q2], by rw [rdF_ne (by decide), q3], ?_, by rw [rdF_ne (by decide), q5], by rw [rdF_ne (by decide), q6]⟩
        rw [rdF_eq]
        show (if i = nzr K2 then (σ 4 1) else s 52 i) = _
        rw [if_neg (by omega), q4]
/-- a value on the stack, behind the last statement -/
def SRv (σ s : St) (b : Nat) (K : List Nat) (m : Nat) : Prop := KXS σ s ∧ MKs σ s ∧ ((∀ j, j < b → (s 24) j = (σ 24) j) ∧ b ≤ clen s) ∧ 0 ≤ (s 4 1).toInt ∧ (s 4 1).toInt ≤ (σ 4 1).toInt + m ∧ ((s 6 3).toInt = 0 → (σ 6 3).toInt = 0 ∧ ∃ g X, TYp (s 24) g (CPu s) X b (clen s) 1 (LV K) ∧ CX s g (clen s) K X ∧ (s 7 7).toInt = 0 ∧ (s 9 5).toInt = nzr K ∧ BND g b (clen s) 420 ∧ clen s ≤ clen σ + m)
theorem typ_ret {w w' : Nat → Int32} {CP : Int → Nat → Prop} (T : TYp w g CP X b e H L) (hw : ∀ q, q < e → w' q = w q) (h0 : (w' e).toInt = (33 : Nat)) (hh : 1 ≤ H) : ∃ g', TYp w' g' CP X b (e + 1) 0 L' ∧ AGR g g' e := by
  have l2 : ln 33 = 1 := rfl
  obtain ⟨g', t1, t2, t3⟩ := typ_ext (X' := X) (H' := 0) (L' := L') T hw (fun _ h => h) h0 (by omega) (fun g' _ ge _ => by
    exact ⟨⟨by omega, by omega, by omega⟩, fun c => by exfalso; unfold PLn at c; omega, fun c => by exfalso; omega, fun c => by exfalso; omega, fun c => by exfalso; omega, fun c => by exfalso; omega, fun c => by exfalso; omega, fun _ => hh⟩)
  rw [l2] at t1
  exact ⟨g', t1, t2⟩
theorem ss_ret {Q : St → Prop} (r : SRv σ s b K m) (cap : (s 4 1).toInt ≤ 262190) (k : ∀ t, SRs σ t b K 0 (m + 1) → Q t) : wk_X0_emit (33 : Int32) (0 : Int32) (0 : Int32) (0 : Int32) s (fun v74 s74 => Q s74) := by
  obtain ⟨r1, r2, r3, r4, r5, r6⟩ := r
  have c1 := clen_eq r4
  have hbc := r3.2
  refine sk_emit (n := 33) rfl (by decide) r4 (by clear r6; omega) (fun v t _ em => k t ?_)
  have el := em_len em (m := 33) rfl
  have ec := em_clen em (n := 33) rfl r4
  have l2 : ln 33 = 1 := rfl
  obtain ⟨ek, emk, -, -, ef, ee⟩ := em_k em
  have ec2 : clen t = clen s + 1 := ec
  refine ⟨ko_tr r1 (kxs_e ek), mks_tr r2 emk, ⟨fun j hj => (em.2.2.1 j (by clear r6; omega)).trans (r3.1 j hj), by clear r6; omega⟩, by clear r6; omega, by clear r6; omega, fun hf => ?_⟩
  obtain ⟨f0, g', X', h1, h2, h3, h5, h6, h7⟩ := r6 (by rw [← ef]; exact hf)
  obtain ⟨g2, T2, ag2⟩ := typ_ret (w' := (t 24)) (L' := LV K) (typ_mono (fun q _ => rfl) agr_rf (cpu_mono ek emk) (fun _ z => z) h1) em.2.2.1 (by rw [em.2.2.2.1]; rfl) (Nat.le_refl _)
  refine ⟨f0, g2, X', ⟨by rw [ec2]; exact T2, cx_e ek em.2.2.1 ag2 (by omega) h2, by rw [ee]; exact h3, by omega, by rw [(kw_e ek).2.2.2.2.2.2]; exact h5, ?_⟩, by omega⟩
  rw [ec2]
  exact bnd_ext h6 ag2 (fun j a1 a2 => by omega) T2.2.1 (by omega)
theorem ss_rpush {Q : Int32 → St → Prop} (h : SB σ g b K X 0) (cap : (σ 4 1).toInt ≤ 262150) (hf : (σ 6 3).toInt = 0) (k : ∀ v s, SRv σ s b K 2 → Q v s) : wk_X0_emit (1 : Int32) (0 : Int32) (0 : Int32) (0 : Int32) σ (fun v s => Q v s) := by
  obtain ⟨h1, h2, h3, h4, h5, h6⟩ := h
  have c0 := clen_eq h4
  have bb := h1.1
  refine sk_emit (n := 1) rfl (by decide) h4 (by omega) (fun v t _ em => k v t ?_)
  have el := em_len em (m := 1) rfl
  have ec := em_clen em (n := 1) rfl h4
  have l2 : ln 1 = 2 := rfl
  obtain ⟨ek, emk, -, -, ef, ee⟩ := em_k em
  have ec2 : clen t = clen σ + 2 := ec
  obtain ⟨g2, T2, ag2, gi2⟩ := typ_pl (w' := (t 24)) (n := 1) (H' := 1) (typ_mono (fun q _ => rfl) agr_rf (cpu_mono ek emk) (fun _ z => z) h1) em.2.2.1 (by rw [em.2.2.2.1]; rfl) (by decide) (by decide) (Or.inl (by decide)) (by decide) (by decide)
  refine ⟨kxs_e ek, emk, ⟨fun j hj => em.2.2.1 j (by omega), by omega⟩, by omega, by omega, fun _ => ⟨hf, g2, X, by rw [ec2]; exact T2, cx_e ek em.2.2.1 ag2 (by omega) h2, by rw [ee]; exact h3, by rw [(kw_e ek).2.2.2.2.2.2]; exact h5, ?_, by omega⟩⟩
  rw [ec2]
  exact bnd_ext h6 ag2 gi2 T2.2.1 (by omega)
theorem ss_rpop {Q : Nat → St → Prop} (h : SE σ g b K X 0 e0 [iV]) (hb : b ≤ e0) (cap : (σ 4 1).toInt ≤ 262150) (hf : (σ 6 3).toInt = 0) (k : ∀ s, SRv σ s b K (2 * plc σ [iV]) → Q 65 s) : wk_X2_pop σ Q := by
  have hh0 := h.1.2.2.1
  have c0 := clen_eq hh0
  refine vs_pop h (by omega) (fun s g1 k1 m1 w1 ag vs hc fu _ => k s ?_)
  obtain ⟨h1, h2, h3, h4, h5, h6, h7, h8, h9, h10⟩ := vs
  have c1 := clen_eq h4
  refine ⟨kxs_e k1, m1, ⟨fun j hj => w1 j (by omega), by omega⟩, h4, by omega, fun _ => ⟨hf, g1, X, h1, cx_mono K X (fun _ _ => ⟨rfl, rfl, rfl, rfl, rfl, rfl⟩) (fun _ _ => rfl) agr_rf h7 h2, h3, h5, h6, hc⟩⟩
theorem ss_return {y : Int32} {Q : St → Prop} (hf : (σ 6 3).toInt = 0) (cap : (σ 4 1).toInt ≤ 262150) (h : (y.toInt = 0 ∧ m = 2 ∧ ∃ g X, SB σ g b K X 0) ∨ (y.toInt ≠ 0 ∧ m = 2 * plc σ [iV] ∧ ∃ g X e0, b ≤ e0 ∧ SE σ g b K X 0 e0 [iV])) (k : ∀ s, SRs σ s b K 0 (m + 1) → Q s) : wk_X7_giveBack x y σ Q := by
  have hm : m ≤ 2 := by
    rcases h with h | h
    · omega
    · have p1 : plc σ [iV] = pk σ 65 + 0 := plc_V
      have pk1 := pkq_le (σ := σ) (q := 65)
      have := h.2.1
      omega
  have fin : ∀ (f : Int32) s, SRv σ s b K m → wk_X0_emit (33 : Int32) (0 : Int32) (0 : Int32) (0 : Int32) s (fun v74 s74 => (f.toInt ≠ 0 → Q s74) ∧ (f.toInt = 0 → wk_X11_fail (2 : Int32) x s74 (fun s89 => Q s89))) := fun f s r => by
    have rl := r.2.2.2.2.1
    have r0 := r.2.2.2.1
    refine ss_ret (Q := fun s74 => (f.toInt ≠ 0 → Q s74) ∧ (f.toInt = 0 → wk_X11_fail (2 : Int32) x s74 (fun s89 => Q s89))) r (by omega) (fun t rt => ⟨fun _ => k t rt, fun _ => sp_ufail (by decide) (fun u ku fu => k u ?_)⟩)
    obtain ⟨r1, r2, r3, r4, r5, r6⟩ := rt
    have u4 : (u 4 1) = (t 4 1) := ku 4 1 rfl rfl
    have ecu : clen u = clen t := by unfold clen; rw [u4]
    exact sr_bad (ko_tr r1 (ko_sub (ko_kp ku) (by decide) (by decide))) (mks_tr r2 (mks_eq (funext (fun j => ku 25 j rfl rfl)) (funext (fun j => ku 39 j rfl rfl)))) (fun j hj => (ku 24 j rfl rfl).trans (r3.1 j hj)) (by rw [ecu]; exact r3.2) (by rw [u4]; exact r4) (by rw [u4]; exact r5) fu
  unfold wk_X7_giveBack
  refine ⟨fun _ => True, fun y0 _ _ => ?_, fun _ => trivial, fun _ => trivial⟩
  refine ⟨fun _ s => SRv σ s b K m, fun f s _ r => fin f s r, fun c => ?_, fun c => ?_⟩
  · rcases h with ⟨h1, h2, g, X, h3⟩ | h
    · exact ss_rpush h3 (by omega) hf (fun v s r => by rw [h2]; exact r)
    · exact absurd c h.1
  · rcases h with h | ⟨h1, h2, g, X, e0, h3, h4⟩
    · exact absurd h.1 c
    · refine ss_rpop h4 h3 (by omega) hf (fun s r => ?_)
      have : SRv σ s b K m := by rw [h2]; exact r
      exact sk_fits this this
end SBC
end

section
/-! what a step tells of the constructs -/
section DZI
variable {act : Int} {fst snd : Int32} {z z' : Zs}
theorem dzi_20 (h : dz act fst snd z z') (ha : act = 20) : ∃ K, z = (1, K, []) ∧ z' = (1, 0 :: K, []) ∧ nz K ≤ 100 ∧ bdK K := by
  unfold dz at h
  rcases h with h | h | h | h | h | h | h | h | h | h | h | h | h | h | h | h | h | h | h | h | h | h | h | h | h | h
  all_goals first
    | exact h.2
    | (have h1 := h.1; clear h; exfalso; omega)
theorem dzi_21 (h : dz act fst snd z z') (ha : act = 21) : ∃ K, z = (1, 0 :: K, []) ∧ z' = (1, K, []) := by
  unfold dz at h
  rcases h with h | h | h | h | h | h | h | h | h | h | h | h | h | h | h | h | h | h | h | h | h | h | h | h | h | h
  all_goals first
    | exact h.2
    | (have h1 := h.1; clear h; exfalso; omega)
theorem dzi_22 (h : dz act fst snd z z') (ha : act = 22) : ∃ K, z = (1, K, [iV]) ∧ z' = (1, K, []) ∧ nz K ≤ 100 := by
  unfold dz at h
  rcases h with h | h | h | h | h | h | h | h | h | h | h | h | h | h | h | h | h | h | h | h | h | h | h | h | h | h
  all_goals first
    | exact h.2
    | (have h1 := h.1; clear h; exfalso; omega)
theorem dzi_23 (h : dz act fst snd z z') (ha : act = 23) : ∃ K, z = (1, K, [iV]) ∧ z' = (1, 1 :: K, []) ∧ sk 24 K := by
  unfold dz at h
  rcases h with h | h | h | h | h | h | h | h | h | h | h | h | h | h | h | h | h | h | h | h | h | h | h | h | h | h
  all_goals first
    | exact h.2
    | (have h1 := h.1; clear h; exfalso; omega)
theorem dzi_24 (h : dz act fst snd z z') (ha : act = 24) : ∃ K, z = (1, 1 :: K, []) ∧ z' = z := by
  unfold dz at h
  rcases h with h | h | h | h | h | h | h | h | h | h | h | h | h | h | h | h | h | h | h | h | h | h | h | h | h | h
  all_goals first
    | exact h.2
    | (have h1 := h.1; clear h; exfalso; omega)
theorem dzi_25 (h : dz act fst snd z z') (ha : act = 25) : ∃ K, z = (1, 1 :: K, []) ∧ z' = (1, K, []) := by
  unfold dz at h
  rcases h with h | h | h | h | h | h | h | h | h | h | h | h | h | h | h | h | h | h | h | h | h | h | h | h | h | h
  all_goals first
    | exact h.2
    | (have h1 := h.1; clear h; exfalso; omega)
theorem dzi_26 (h : dz act fst snd z z') (ha : act = 26) : ∃ K, z = (1, K, []) ∧ z' = (1, 2 :: K, []) ∧ sk 24 K := by
  unfold dz at h
  rcases h with h | h | h | h | h | h | h | h | h | h | h | h | h | h | h | h | h | h | h | h | h | h | h | h | h | h
  all_goals first
    | exact h.2
    | (have h1 := h.1; clear h; exfalso; omega)
theorem dzi_27 (h : dz act fst snd z z') (ha : act = 27) : ∃ K, z = (1, 2 :: K, [iV]) ∧ z' = (1, 3 :: K, []) := by
  unfold dz at h
  rcases h with h | h | h | h | h | h | h | h | h | h | h | h | h | h | h | h | h | h | h | h | h | h | h | h | h | h
  all_goals first
    | exact h.2
    | (have h1 := h.1; clear h; exfalso; omega)
theorem dzi_28 (h : dz act fst snd z z') (ha : act = 28) : ∃ K, z = (1, 3 :: K, []) ∧ z' = (1, K, []) := by
  unfold dz at h
  rcases h with h | h | h | h | h | h | h | h | h | h | h | h | h | h | h | h | h | h | h | h | h | h | h | h | h | h
  all_goals first
    | exact h.2
    | (have h1 := h.1; clear h; exfalso; omega)
theorem dzi_29 (h : dz act fst snd z z') (ha : act = 29) : ∃ K, z = (1, K, []) ∧ z' = (1, 4 :: K, []) ∧ sk 24 K := by
  unfold dz at h
  rcases h with h | h | h | h | h | h | h | h | h | h | h | h | h | h | h | h | h | h | h | h | h | h | h | h | h | h
  all_goals first
    | exact h.2
    | (have h1 := h.1; clear h; exfalso; omega)
theorem dzi_30 (h : dz act fst snd z z') (ha : act = 30) : ∃ K, z = (1, 4 :: K, []) ∧ z' = (1, 5 :: K, []) := by
  unfold dz at h
  rcases h with h | h | h | h | h | h | h | h | h | h | h | h | h | h | h | h | h | h | h | h | h | h | h | h | h | h
  all_goals first
    | exact h.2
    | (have h1 := h.1; clear h; exfalso; omega)
theorem dzi_31 (h : dz act fst snd z z') (ha : act = 31) : ∃ K, z = (1, 5 :: K, [iV]) ∧ z' = (1, K, []) := by
  unfold dz at h
  rcases h with h | h | h | h | h | h | h | h | h | h | h | h | h | h | h | h | h | h | h | h | h | h | h | h | h | h
  all_goals first
    | exact h.2
    | (have h1 := h.1; clear h; exfalso; omega)
theorem dzi_32 (h : dz act fst snd z z') (ha : act = 32) : ∃ K, z = (1, K, []) ∧ z' = (1, 6 :: K, []) ∧ sk 24 K := by
  unfold dz at h
  rcases h with h | h | h | h | h | h | h | h | h | h | h | h | h | h | h | h | h | h | h | h | h | h | h | h | h | h
  all_goals first
    | exact h.2
    | (have h1 := h.1; clear h; exfalso; omega)
theorem dzi_33 (h : dz act fst snd z z') (ha : act = 33) : ∃ K, z = (1, 6 :: K, if fst.toInt = 0 then [] else [iV]) ∧ z' = (1, 7 :: K, []) := by
  unfold dz at h
  rcases h with h | h | h | h | h | h | h | h | h | h | h | h | h | h | h | h | h | h | h | h | h | h | h | h | h | h
  all_goals first
    | exact h.2
    | (have h1 := h.1; clear h; exfalso; omega)
theorem dzi_34 (h : dz act fst snd z z') (ha : act = 34) : ∃ K, z = (1, 7 :: K, []) ∧ z' = (1, 8 :: K, []) := by
  unfold dz at h
  rcases h with h | h | h | h | h | h | h | h | h | h | h | h | h | h | h | h | h | h | h | h | h | h | h | h | h | h
  all_goals first
    | exact h.2
    | (have h1 := h.1; clear h; exfalso; omega)
theorem dzi_35 (h : dz act fst snd z z') (ha : act = 35) : ∃ K, z = (1, 8 :: K, []) ∧ z' = (1, K, []) := by
  unfold dz at h
  rcases h with h | h | h | h | h | h | h | h | h | h | h | h | h | h | h | h | h | h | h | h | h | h | h | h | h | h
  all_goals first
    | exact h.2
    | (have h1 := h.1; clear h; exfalso; omega)
theorem dzi_36 (h : dz act fst snd z z') (ha : act = 36 ∨ act = 37) : ∃ K, z = (1, K, []) ∧ z' = z ∧ sk 100 K := by
  unfold dz at h
  rcases h with h | h | h | h | h | h | h | h | h | h | h | h | h | h | h | h | h | h | h | h | h | h | h | h | h | h
  all_goals first
    | exact h.2
    | (have h1 := h.1; clear h; exfalso; omega)
theorem dzi_38 (h : dz act fst snd z z') (ha : act = 38) : ∃ K, z = (1, K, if fst.toInt = 0 then [] else [iV]) ∧ z' = (1, K, []) ∧ nz K ≤ 100 := by
  unfold dz at h
  rcases h with h | h | h | h | h | h | h | h | h | h | h | h | h | h | h | h | h | h | h | h | h | h | h | h | h | h
  all_goals first
    | exact h.2
    | (have h1 := h.1; clear h; exfalso; omega)
theorem dzi_42 (h : dz act fst snd z z') (ha : act = 42) : ∃ F K, z = (F, K, []) ∧ z' = z := by
  unfold dz at h
  rcases h with h | h | h | h | h | h | h | h | h | h | h | h | h | h | h | h | h | h | h | h | h | h | h | h | h | h
  all_goals first
    | exact h.2
    | (have h1 := h.1; clear h; exfalso; omega)
theorem dzi_43 (h : dz act fst snd z z') (ha : act = 43) : ∃ F K, F ≤ 1 ∧ tpK K ∧ z = (F, K, []) ∧ ((b4 snd ∧ z' = (F, 9 :: K, [])) ∨ (¬ b4 snd ∧ z' = z)) := by
  unfold dz at h
  rcases h with h | h | h | h | h | h | h | h | h | h | h | h | h | h | h | h | h | h | h | h | h | h | h | h | h | h
  all_goals first
    | exact h.2
    | (have h1 := h.1; clear h; exfalso; omega)
theorem dzi_44 (h : dz act fst snd z z') (ha : act = 44) : ∃ F K c, (c = 9 ∨ c = 10) ∧ z = (F, c :: K, [iV]) ∧ z' = (F, 10 :: K, []) := by
  unfold dz at h
  rcases h with h | h | h | h | h | h | h | h | h | h | h | h | h | h | h | h | h | h | h | h | h | h | h | h | h | h
  all_goals first
    | exact h.2
    | (have h1 := h.1; clear h; exfalso; omega)
theorem dzi_45 (h : dz act fst snd z z') (ha : act = 45) : ∃ F K, z = (F, 9 :: K, []) ∧ z' = (F, 11 :: K, []) := by
  unfold dz at h
  rcases h with h | h | h | h | h | h | h | h | h | h | h | h | h | h | h | h | h | h | h | h | h | h | h | h | h | h
  all_goals first
    | exact h.2
    | (have h1 := h.1; clear h; exfalso; omega)
theorem dzi_46 (h : dz act fst snd z z') (ha : act = 46) : ∃ F K, z' = (F, K, []) ∧ ((fst.toInt = 0 ∧ z = (F, 9 :: K, [iV])) ∨ (fst.toInt = 1 ∧ (z = (F, 9 :: K, []) ∨ z = (F, 10 :: K, []))) ∨ (fst.toInt = 2 ∧ z = (F, 11 :: K, []))) := by
  unfold dz at h
  rcases h with h | h | h | h | h | h | h | h | h | h | h | h | h | h | h | h | h | h | h | h | h | h | h | h | h | h
  all_goals first
    | exact h.2
    | (have h1 := h.1; clear h; exfalso; omega)
theorem dzi_47 (h : dz act fst snd z z') (ha : act = 47) : z = (0, [], []) ∧ spar fst ≤ 8 ∧ ((b4 snd ∧ z' = (1 + spar fst, [], [])) ∨ (¬ b4 snd ∧ z' = (0, [], []))) := by
  unfold dz at h
  rcases h with h | h | h | h | h | h | h | h | h | h | h | h | h | h | h | h | h | h | h | h | h | h | h | h | h | h
  all_goals first
    | exact h.2
    | (have h1 := h.1; clear h; exfalso; omega)
theorem dzi_48 (h : dz act fst snd z z') (ha : act = 48) : ∃ F, z = (F + 2, [], []) ∧ z' = (F + 1, [], []) := by
  unfold dz at h
  rcases h with h | h | h | h | h | h | h | h | h | h | h | h | h | h | h | h | h | h | h | h | h | h | h | h | h | h
  all_goals first
    | exact h.2
    | (have h1 := h.1; clear h; exfalso; omega)
theorem dzi_49 (h : dz act fst snd z z') (ha : act = 49) : z = (1, [], []) ∧ z' = (0, [], []) := by
  unfold dz at h
  rcases h with h | h | h | h | h | h | h | h | h | h | h | h | h | h | h | h | h | h | h | h | h | h | h | h | h | h
  all_goals first
    | exact h.2
    | (have h1 := h.1; clear h; exfalso; omega)
theorem dz_rng (h : dz act fst snd z z') : 20 ≤ act ∧ act ≤ 49 ∧ act ≠ 39 ∧ act ≠ 40 ∧ act ≠ 41 := by
  unfold dz at h
  rcases h with h | h | h | h | h | h | h | h | h | h | h | h | h | h | h | h | h | h | h | h | h | h | h | h | h | h
  all_goals (have h1 := h.1; clear h; omega)
end DZI
theorem zs_inj {F F' : Nat} {K K' : List Nat} {A A' : List It} (h : ((F, K, A) : Zs) = (F', K', A')) : F' = F ∧ K' = K ∧ A' = A := by
  cases h
  exact ⟨rfl, rfl, rfl⟩
end

section
/-! steps of statements: all -/
abbrev KXW (a b : St) : Prop := Ko [(7, 7), (4, 1), (6, 3), (6, 4), (6, 5), (5, 9), (9, 5), (6, 15), (6, 17)] [17, 24, 25, 31, 32, 33, 39, 43, 45, 49, 50, 51, 52, 53, 54] a b
def opSt (σ : St) : St := upC (upF σ 45 (setv 52 (σ 45) (σ 6 17) (σ 6 15))) 6 17 ((σ 6 17) + (1 : Int32))
def clSt (σ : St) : St := upC (upC σ 6 17 ((σ 6 17) - (1 : Int32))) 6 15 (atv 52 (σ 45) ((σ 6 17) - (1 : Int32)))
def SCk (a : Int) (σ s : St) : Prop := (a ≠ 20 → a ≠ 21 → (s 6 15) = (σ 6 15) ∧ (s 6 17) = (σ 6 17) ∧ (s 45) = (σ 45)) ∧ (a = 20 → s = opSt σ) ∧ (a = 21 → s = clSt σ)
def STk (σ s : St) (b : Nat) (K : List Nat) (m : Nat) : Prop := KXW σ s ∧ MKs σ s ∧ ((∀ j, j < b → (s 24) j = (σ 24) j) ∧ b ≤ clen s) ∧ 0 ≤ (s 4 1).toInt ∧ (s 4 1).toInt ≤ (σ 4 1).toInt + m ∧ ((s 6 3).toInt = 0 → (σ 6 3).toInt = 0 ∧ ∃ g X, SB s g b K X 0 ∧ clen s ≤ clen σ + m)
section STA
variable {σ s z t : St} {g g' g1 : Gh} {X X0 Y : Nat → Prop} {b e e0 e' H H0 H' L L' m n N c d p tt j i : Nat} {K K2 M E G D : List Nat} {x y v a : Int32}
theorem st_of (h : SRs σ s b K 0 n) (hn : n ≤ m) (ha : a.toInt ≠ 20 ∧ a.toInt ≠ 21) : STk σ s b K m ∧ SCk a.toInt σ s := by
  obtain ⟨r1, r2, r3, r4, r5, r6⟩ := h
  refine ⟨⟨ko_sub r1 (by decide) (by decide), r2, r3, r4, by clear r6; omega, fun hf => ?_⟩, ⟨fun _ _ => ⟨r1 6 15 (op_lt (by decide)) rfl rfl, r1 6 17 (op_lt (by decide)) rfl rfl, funext (fun j => r1 45 j (op_lt (by decide)) rfl rfl)⟩, fun c => absurd c ha.1, fun c => absurd c ha.2⟩⟩
  obtain ⟨f0, g', X', a1, a2⟩ := r6 hf
  exact ⟨f0, g', X', a1, by omega⟩
/-- where take() goes -/
theorem tk_all {Q : St → Prop} (hr : 20 ≤ a.toInt ∧ a.toInt ≤ 38)
    (h20 : a.toInt = 20 → wk_X11_open σ Q) (h21 : a.toInt = 21 → wk_X11_close σ Q) (h22 : a.toInt = 22 → wk_X2_pop σ (fun u148 s148 => wk_X0_emit (2 : Int32) (0 : Int32) (0 : Int32) (0 : Int32) s148 (fun v160 s160 => Q s160)))
    (h23 : 23 ≤ a.toInt ∧ a.toInt ≤ 25 → wk_X7_conditional a (atv 32100 (σ 19) x) σ (fun s => Q s)) (h26 : 26 ≤ a.toInt ∧ a.toInt ≤ 28 → wk_X7_whileLoop a (atv 32100 (σ 19) x) σ (fun s => Q s)) (h29 : 29 ≤ a.toInt ∧ a.toInt ≤ 31 → wk_X7_doLoop a (atv 32100 (σ 19) x) σ (fun s => Q s))
    (h32 : ∀ y : Int32, (y.toInt = 0 ↔ (atv 32100 (σ 20) x).toInt = 0) → 32 ≤ a.toInt ∧ a.toInt ≤ 35 → wk_X7_forLoop a (atv 32100 (σ 19) x) y σ (fun s => Q s))
    (h36 : a.toInt = 36 → wk_X7_leave_r51 (atv 32100 (σ 19) x) σ (fun s => Q s)) (h37 : a.toInt = 37 → wk_X7_leave_r52 (atv 32100 (σ 19) x) σ (fun s => Q s))
    (h38 : ∀ y : Int32, (y.toInt = 0 ↔ (atv 32100 (σ 20) x).toInt = 0) → a.toInt = 38 → wk_X7_giveBack (atv 32100 (σ 19) x) y σ (fun s => Q s)) : wk_X7_take a x σ Q := by
  have z0' : (0 : Int32).toInt = 0 := rfl
  have z1' : (1 : Int32).toInt = 1 := rfl
  unfold wk_X7_take
  refine ⟨fun y => (y.toInt = 0 ↔ (atv 32100 (σ 20) x).toInt = 0), fun y _ hy => ?_, fun c => ⟨fun _ => c, fun _ => rfl⟩, fun c => ⟨fun e => by rw [z1'] at e; exact absurd e (by decide), fun e => absurd e c⟩⟩
  refine ⟨32 ≤ a.toInt ∧ a.toInt ≤ 35, h32 y hy, 29 ≤ a.toInt ∧ a.toInt ≤ 31, h29, 26 ≤ a.toInt ∧ a.toInt ≤ 28, h26, a.toInt = 36 ∨ a.toInt = 37, fun c => ⟨fun n => h37 (by omega), h36⟩, 23 ≤ a.toInt ∧ a.toInt ≤ 25, h23, h20, fun n20 => ⟨h21, fun n21 => ⟨h22, fun n22 => ⟨fun c => by omega, fun n23 => ⟨fun c => by omega, fun n24 => ⟨fun c => by omega, fun n25 => ⟨fun c => by omega, fun n26 => ⟨fun c => by omega, fun n27 => ⟨fun c => by omega, fun n28 => ⟨fun c => by omega, fun n29 => ⟨fun c => by omega, fun n30 => ⟨fun c => by omega, fun n31 => ⟨fun c => by omega, fun n32 => ⟨fun c => by omega, fun n33 => ⟨fun c => by omega, fun n34 => ⟨fun c => by omega, fun n35 => ⟨fun c => Or.inl c, fun n36 => ⟨fun c => Or.inr c, fun n37 => ⟨h38 y hy, fun n38 => by omega⟩⟩⟩⟩⟩⟩⟩⟩⟩⟩⟩⟩⟩⟩⟩⟩⟩⟩⟩
theorem sb_oc (h : SB σ g b K X 0) (hs : ∀ c j, c ≠ 6 → c ≠ 45 → s c j = σ c j) (h6 : ∀ j, j ≠ 15 → j ≠ 17 → s 6 j = σ 6 j) (lv : LV M = LV K) (nz : nzr M = nzr K) (cx : CX s g (clen σ) K X → CX s g (clen σ) M X) : SB s g b M X 0 := by
  obtain ⟨h1, h2, h3, h4, h5, h6'⟩ := h
  have e4 : (s 4 1) = (σ 4 1) := hs 4 1 (by decide) (by decide)
  have ecl : clen s = clen σ := by unfold clen; rw [e4]
  have cp : ∀ q n, CPu σ q n → CPu s q n := fun q n hq => by
    unfold CPu at hq ⊢
    rw [show s 5 1 = σ 5 1 from hs 5 1 (by decide) (by decide), show s 6 7 = σ 6 7 from h6 7 (by decide) (by decide), show s 25 = σ 25 from funext (fun j => hs 25 j (by decide) (by decide)), show s 39 = σ 39 from funext (fun j => hs 39 j (by decide) (by decide)), show s 27 = σ 27 from funext (fun j => hs 27 j (by decide) (by decide))]
    exact hq
  refine ⟨?_, ?_, by rw [show s 7 7 = σ 7 7 from hs 7 7 (by decide) (by decide)]; exact h3, by rw [e4]; exact h4, by rw [show s 9 5 = σ 9 5 from hs 9 5 (by decide) (by decide), nz]; exact h5, by rw [ecl]; exact h6'⟩
  · rw [ecl, lv]
    exact typ_mono (fun j _ => hs 24 j (by decide) (by decide)) agr_rf cp (fun _ z => z) h1
  · rw [ecl]
    exact cx (cx_mono K X (fun j _ => ⟨hs 49 j (by decide) (by decide), hs 50 j (by decide) (by decide), hs 51 j (by decide) (by decide), hs 52 j (by decide) (by decide), hs 53 j (by decide) (by decide), hs 54 j (by decide) (by decide)⟩) (fun q _ => hs 24 q (by decide) (by decide)) agr_rf (Nat.le_refl _) h2)
theorem op_cells : (∀ c j, c ≠ 6 → c ≠ 45 → opSt σ c j = σ c j) ∧ (∀ j, j ≠ 15 → j ≠ 17 → opSt σ 6 j = σ 6 j) ∧ KXW σ (opSt σ) := by
  refine ⟨fun c j h1 h2 => ?_, fun j h1 h2 => ?_, ko_kp (kp_f (kp_F kp_rf rfl) rfl)⟩
  · unfold opSt
    rw [rdC_ne h1, rdF_ne h2]
  · unfold opSt
    rw [rdA_ne h2, rdF_ne (by decide)]
theorem cl_cells : (∀ c j, c ≠ 6 → c ≠ 45 → clSt σ c j = σ c j) ∧ (∀ j, j ≠ 15 → j ≠ 17 → clSt σ 6 j = σ 6 j) ∧ KXW σ (clSt σ) := by
  refine ⟨fun c j h1 h2 => ?_, fun j h1 h2 => ?_, ko_kp (kp_f (kp_f kp_rf rfl) rfl)⟩
  · unfold clSt
    rw [rdC_ne h1, rdC_ne h1]
  · unfold clSt
    rw [rdA_ne h1, rdA_ne h2]
theorem ss_take {K' : List Nat} {A : List It} {Q : St → Prop} (hx : x.toInt = i) (hi : i < 32100) (ha : a = (σ 18) i) (hr : 20 ≤ act σ i ∧ act σ i < 40) (hd : dz (act σ i) ((σ 20) i) ((σ 21) i) (1, K, A) (1, K', [])) (h : SE σ g b K X 0 e0 A) (hb : b ≤ e0) (cap : (σ 4 1).toInt ≤ 262150) (hf : (σ 6 3).toInt = 0) (hn : nzr K ≤ 25) (hw : wfK K) (k : ∀ s, STk σ s b K' (2 * plc σ A + cst σ i) → SCk (act σ i) σ s → Q s) : wk_X7_take a x σ Q := by
  have ea : a.toInt = act σ i := by rw [ha]; rfl
  have e19 : atv 32100 (σ 19) x = (σ 19) i := atv_at hx hi
  have e20 : atv 32100 (σ 20) x = (σ 20) i := atv_at hx hi
  have rg := dz_rng hd
  have kq : ∀ s n, SRs σ s b K' 0 n → n ≤ 2 * plc σ A + cst σ i → act σ i ≠ 20 → act σ i ≠ 21 → Q s := fun s n r hn h20 h21 => by
    have q := st_of (a := a) r hn ⟨by rw [ea]; exact h20, by rw [ea]; exact h21⟩
    rw [ea] at q
    exact k s q.1 q.2
  have sbA : A = [] → SB σ g b K X 0 := fun e => sb_nil (by rw [e] at h; exact h)
  have c22 : ∀ n : Nat, n < 50 → n ≠ 45 → (act σ i = (n : Int)) → cst σ i = ([0, 2, 3, 2, 0, 0, 3, 2, 2, 2, 3, 2, 0, 2, 2, 2, 0, 0, 0, 0, 0, 0, 1, 2, 2, 0, 0, 4, 2, 2, 0, 2, 0, 4, 4, 2, 2, 2, 3, 0, 0, 0, 0, 5, 3, 0, 3, 4, 0, 3] : List Nat).getD n 0 := fun n _ h45 e => by
    unfold cst
    rw [e, if_neg (by omega)]
    rfl
  have h0 : 0 ≤ (σ 4 1).toInt := h.1.2.2.1
  have c0 := clen_eq h0
  have bcl : b ≤ clen σ := Nat.le_trans hb (xc_e0 h.1)
  refine tk_all (by rw [ea]; omega) (fun c => ?_) (fun c => ?_) (fun c => ?_) (fun c => ?_) (fun c => ?_) (fun c => ?_) (fun y hy c => ?_) (fun c => ?_) (fun c => ?_) (fun y hy c => ?_)
  · -- OPEN
    rw [ea] at c
    obtain ⟨K1, e1, e2, -, -⟩ := dzi_20 hd c
    obtain ⟨-, e3, e4⟩ := zs_inj e1
    obtain ⟨-, e5, -⟩ := zs_inj e2
    subst e3 e4 e5
    have sb := sbA rfl
    have oc := op_cells (σ := σ)
    refine k (opSt σ) ⟨oc.2.2, mks_eq (funext (fun j => oc.1 25 j (by decide) (by decide))) (funext (fun j => oc.1 39 j (by decide) (by decide))), ⟨fun j _ => oc.1 24 j (by decide) (by decide), bcl⟩, h0, by show (σ 4 1).toInt ≤ _; omega, fun _ => ⟨hf, g, X, sb_oc sb oc.1 oc.2.1 rfl (nz_0 (Or.inl rfl)) (fun z => by unfold CX; rw [if_pos (Or.inl rfl)]; exact z), by show clen σ ≤ _; omega⟩⟩ ⟨fun n => absurd c n, fun _ => rfl, fun n => by omega⟩
  · -- CLOSE
    rw [ea] at c
    obtain ⟨K1, e1, e2⟩ := dzi_21 hd c
    obtain ⟨-, e3, e4⟩ := zs_inj e1
    obtain ⟨-, e5, -⟩ := zs_inj e2
    subst e3 e4 e5
    have sb := sbA rfl
    have oc := cl_cells (σ := σ)
    refine k (clSt σ) ⟨oc.2.2, mks_eq (funext (fun j => oc.1 25 j (by decide) (by decide))) (funext (fun j => oc.1 39 j (by decide) (by decide))), ⟨fun j _ => oc.1 24 j (by decide) (by decide), bcl⟩, h0, by show (σ 4 1).toInt ≤ _; omega, fun _ => ⟨hf, g, X, sb_oc sb oc.1 oc.2.1 rfl (nz_0 (Or.inl rfl)).symm (fun z => by unfold CX at z; rw [if_pos (Or.inl rfl)] at z; exact z), by show clen σ ≤ _; omega⟩⟩ ⟨fun _ n => absurd c n, fun n => by omega, fun _ => rfl⟩
  · -- DISCARD
    rw [ea] at c
    obtain ⟨K1, e1, e2, -⟩ := dzi_22 hd c
    obtain ⟨-, e3, e4⟩ := zs_inj e1
    obtain ⟨-, e5, -⟩ := zs_inj e2
    subst e3 e4 e5
    exact ss_discard h hb cap (fun s r => kq s _ r (by rw [c22 22 (by decide) (by decide) c]; exact Nat.le_refl _) (by omega) (by omega))
  · rw [ea] at c
    unfold wk_X7_conditional
    refine ⟨fun n23 => ⟨fun n24 => ?_, fun c24 => ?_⟩, fun c23 => ?_⟩
    · rw [ea] at n23 n24
      have c25 : act σ i = 25 := by omega
      obtain ⟨K1, e1, e2⟩ := dzi_25 hd c25
      obtain ⟨-, e3, e4⟩ := zs_inj e1
      obtain ⟨-, e5, -⟩ := zs_inj e2
      subst e3 e4 e5
      exact ss_ifend (sbA rfl) (by rw [nz_c (by decide)] at hn; omega) cap (fun s r => kq s _ r (Nat.zero_le _) (by omega) (by omega))
    · rw [ea] at c24
      obtain ⟨K1, e1, e2⟩ := dzi_24 hd c24
      obtain ⟨-, e3, e4⟩ := zs_inj e1
      obtain ⟨-, e5, -⟩ := zs_inj e2
      subst e3 e4 e5
      exact ss_else (sbA rfl) (by rw [nz_c (by decide)] at hn; omega) cap (fun s r => kq s _ r (by rw [c22 24 (by decide) (by decide) c24]; exact Nat.le_add_left _ _) (by omega) (by omega))
    · rw [ea] at c23
      obtain ⟨K1, e1, e2, -⟩ := dzi_23 hd c23
      obtain ⟨-, e3, e4⟩ := zs_inj e1
      obtain ⟨-, e5, -⟩ := zs_inj e2
      subst e3 e4 e5
      exact ss_if h hb (by omega) cap (fun s r => kq s _ r (by rw [c22 23 (by decide) (by decide) c23]; exact Nat.le_refl _) (by omega) (by omega))
  · rw [ea] at c
    unfold wk_X7_whileLoop
    refine ⟨fun n26 => ⟨fun n27 => ?_, fun c27 => ?_⟩, fun c26 => ?_⟩
    · rw [ea] at n26 n27
      have c28 : act σ i = 28 := by omega
      obtain ⟨K1, e1, e2⟩ := dzi_28 hd c28
      obtain ⟨-, e3, e4⟩ := zs_inj e1
      obtain ⟨-, e5, -⟩ := zs_inj e2
      subst e3 e4 e5
      exact ss_wend (sbA rfl) (by rw [nz_c (by decide)] at hn; omega) cap (fun s r => kq s _ r (by rw [c22 28 (by decide) (by decide) c28]; exact Nat.le_add_left _ _) (by omega) (by omega))
    · rw [ea] at c27
      obtain ⟨K1, e1, e2⟩ := dzi_27 hd c27
      obtain ⟨-, e3, e4⟩ := zs_inj e1
      obtain ⟨-, e5, -⟩ := zs_inj e2
      subst e3 e4 e5
      exact ss_wtest h hb (by rw [nz_c (by decide)] at hn; omega) cap (fun s r => kq s _ r (by rw [c22 27 (by decide) (by decide) c27]; exact Nat.le_refl _) (by omega) (by omega))
    · rw [ea] at c26
      obtain ⟨K1, e1, e2, -⟩ := dzi_26 hd c26
      obtain ⟨-, e3, e4⟩ := zs_inj e1
      obtain ⟨-, e5, -⟩ := zs_inj e2
      subst e3 e4 e5
      exact ss_begin (sbA rfl) (Or.inl rfl) (by omega) (fun s r => kq s _ r (Nat.zero_le _) (by omega) (by omega))
  · rw [ea] at c
    unfold wk_X7_doLoop
    refine ⟨fun n29 => ⟨fun n30 => ?_, fun c30 => ?_⟩, fun c29 => ?_⟩
    · rw [ea] at n29 n30
      have c31 : act σ i = 31 := by omega
      obtain ⟨K1, e1, e2⟩ := dzi_31 hd c31
      obtain ⟨-, e3, e4⟩ := zs_inj e1
      obtain ⟨-, e5, -⟩ := zs_inj e2
      subst e3 e4 e5
      exact ss_dotest h hb (by rw [nz_c (by decide)] at hn; omega) cap (fun s r => kq s _ r (by rw [c22 31 (by decide) (by decide) c31]; exact Nat.le_refl _) (by omega) (by omega))
    · rw [ea] at c30
      obtain ⟨K1, e1, e2⟩ := dzi_30 hd c30
      obtain ⟨-, e3, e4⟩ := zs_inj e1
      obtain ⟨-, e5, -⟩ := zs_inj e2
      subst e3 e4 e5
      exact ss_doagain (sbA rfl) (by rw [nz_c (by decide)] at hn; omega) cap (fun s r => kq s _ r (Nat.zero_le _) (by omega) (by omega))
    · rw [ea] at c29
      obtain ⟨K1, e1, e2, -⟩ := dzi_29 hd c29
      obtain ⟨-, e3, e4⟩ := zs_inj e1
      obtain ⟨-, e5, -⟩ := zs_inj e2
      subst e3 e4 e5
      exact ss_do (sbA rfl) (by omega) cap (fun s r => kq s _ r (by rw [c22 29 (by decide) (by decide) c29]; exact Nat.le_add_left _ _) (by omega) (by omega))
  · rw [ea] at c
    unfold wk_X7_forLoop
    refine ⟨fun n32 => ⟨fun n33 => ⟨fun n34 => ?_, fun c34 => ?_⟩, fun c33 => ?_⟩, fun c32 => ?_⟩
    · rw [ea] at n32 n33 n34
      have c35 : act σ i = 35 := by omega
      obtain ⟨K1, e1, e2⟩ := dzi_35 hd c35
      obtain ⟨-, e3, e4⟩ := zs_inj e1
      obtain ⟨-, e5, -⟩ := zs_inj e2
      subst e3 e4 e5
      exact ss_fend (sbA rfl) (by rw [nz_c (by decide)] at hn; omega) cap (fun s r => kq s _ r (by rw [c22 35 (by decide) (by decide) c35]; exact Nat.le_add_left _ _) (by omega) (by omega))
    · rw [ea] at c34
      obtain ⟨K1, e1, e2⟩ := dzi_34 hd c34
      obtain ⟨-, e3, e4⟩ := zs_inj e1
      obtain ⟨-, e5, -⟩ := zs_inj e2
      subst e3 e4 e5
      exact ss_fbody (sbA rfl) (by rw [nz_c (by decide)] at hn; omega) cap (fun s r => kq s _ r (by rw [c22 34 (by decide) (by decide) c34]; exact Nat.le_add_left _ _) (by omega) (by omega))
    · rw [ea] at c33
      obtain ⟨K1, e1, e2⟩ := dzi_33 hd c33
      obtain ⟨-, e3, e4⟩ := zs_inj e1
      obtain ⟨-, e5, -⟩ := zs_inj e2
      subst e3 e5
      have n25 : nzr K1 < 26 := by rw [nz_c (by decide)] at hn; omega
      rw [e20] at hy
      by_cases hz : ((σ 20) i).toInt = 0
      · rw [if_pos hz] at e4
        subst e4
        refine ⟨fun s => s = σ, ?_, fun _ => rfl, fun n => absurd (hy.mpr hz) n⟩
        rintro s rfl
        refine ss_fjump (sr_rf (sbA rfl) hf) (by omega) n25 (fun t r => kq t _ r (by rw [c22 33 (by decide) (by decide) c33]; show 0 + 2 ≤ _ + 4; omega) (by omega) (by omega))
      · rw [if_neg hz] at e4
        subst e4
        refine ⟨fun s => SRs σ s b (6 :: K1) 0 (2 * plc σ [iV] + 2), fun s r => ?_, fun n => absurd (hy.mp n) hz, fun _ => ss_ftest h hb n25 cap (fun s r => r)⟩
        have p1 : plc σ [iV] = pk σ 65 + 0 := plc_V
        have pk1 := pkq_le (σ := σ) (q := 65)
        have rl := r.2.2.2.2.1
        exact ss_fjump r (by omega) n25 (fun t r => kq t _ r (by rw [c22 33 (by decide) (by decide) c33]; exact Nat.le_refl _) (by omega) (by omega))
    · rw [ea] at c32
      obtain ⟨K1, e1, e2, -⟩ := dzi_32 hd c32
      obtain ⟨-, e3, e4⟩ := zs_inj e1
      obtain ⟨-, e5, -⟩ := zs_inj e2
      subst e3 e4 e5
      exact ss_begin (sbA rfl) (Or.inr rfl) (by omega) (fun s r => kq s _ r (Nat.zero_le _) (by omega) (by omega))
  · rw [ea] at c
    obtain ⟨K1, e1, e2, e6⟩ := dzi_36 hd (Or.inl c)
    obtain ⟨-, e3, e4⟩ := zs_inj e1
    obtain ⟨-, e5, -⟩ := zs_inj e2
    subst e3 e4 e5
    show lvF 51 _ σ _
    exact ss_leave (Or.inl rfl) (sbA rfl) hn cap hf e6.2 hw (fun s r => kq s _ r (by rw [c22 36 (by decide) (by decide) c]; exact Nat.le_add_left _ _) (by omega) (by omega))
  · rw [ea] at c
    obtain ⟨K1, e1, e2, e6⟩ := dzi_36 hd (Or.inr c)
    obtain ⟨-, e3, e4⟩ := zs_inj e1
    obtain ⟨-, e5, -⟩ := zs_inj e2
    subst e3 e4 e5
    show lvF 52 _ σ _
    exact ss_leave (Or.inr rfl) (sbA rfl) hn cap hf e6.2 hw (fun s r => kq s _ r (by rw [c22 37 (by decide) (by decide) c]; exact Nat.le_add_left _ _) (by omega) (by omega))
  · rw [ea] at c
    obtain ⟨K1, e1, e2, -⟩ := dzi_38 hd c
    obtain ⟨-, e3, e4⟩ := zs_inj e1
    obtain ⟨-, e5, -⟩ := zs_inj e2
    subst e3 e5
    rw [e20] at hy
    by_cases hz : ((σ 20) i).toInt = 0
    · rw [if_pos hz] at e4
      subst e4
      exact ss_return hf cap (Or.inl ⟨hy.mpr hz, rfl, g, X, sbA rfl⟩) (fun s r => kq s _ r (by rw [c22 38 (by decide) (by decide) c]; show 2 + 1 ≤ _ + 3; omega) (by omega) (by omega))
    · rw [if_neg hz] at e4
      subst e4
      exact ss_return hf cap (Or.inr ⟨fun q => hz (hy.mp q), rfl, g, X, e0, hb, h⟩) (fun s r => kq s _ r (by rw [c22 38 (by decide) (by decide) c]; show _ + 1 ≤ _ + 3; omega) (by omega) (by omega))
end STA
end

section
/-! the walk: what holds between steps -/
/-- a finished function: no instruction reaches over its end -/
def FUNe (w : Nat → Int32) (CP : Int → Nat → Prop) (N hd n L : Nat) (g : Gh) : Prop := FUNc w CP N hd n L g ∧ ∀ q h k, g q = some (h, k) → ∃ m : Nat, (w q).toInt = m ∧ q + ln m ≤ N
/-- all functions of the unit but the one that is being compiled are finished, before a place -/
def UFx (s : St) (N : Nat) : Prop := ∀ d : Nat, (s 5 1).toInt - (s 6 7).toInt ≤ d → (d : Int) < (s 5 1).toInt → FLb ((s 25) d) 1 → FLb ((s 25) d) 4 → (s 6 6).toInt ≠ d → ∃ hd L g, ((s 28) d).toInt = (hd : Nat) ∧ FUNe (s 24) (CPu s) N hd (spar ((s 27) d)) L g
abbrev KWk (a b : St) : Prop := Ko [(7, 7), (4, 1), (6, 2), (6, 3), (6, 4), (6, 5), (6, 6), (6, 7), (6, 10), (6, 15), (6, 17), (5, 1), (5, 7), (5, 9), (9, 5), (8, 6), (8, 7), (8, 8), (8, 9), (8, 10), (8, 11), (8, 12), (8, 13), (8, 14), (8, 15), (8, 16)] [17, 24, 25, 26, 27, 28, 29, 30, 31, 32, 33, 38, 39, 40, 41, 42, 43, 44, 45, 48, 49, 50, 51, 52, 53, 54] a b
/-- what was there before the unit stays -/
def OLx (σ s : St) : Prop := (s 5 1).toInt - (s 6 7).toInt = (σ 5 1).toInt ∧ (∀ d : Nat, (d : Int) < (σ 5 1).toInt → (s 26) d = (σ 26) d ∧ (s 27) d = (σ 27) d ∧ (s 28) d = (σ 28) d ∧ (s 29) d = (σ 29) d ∧ ((s 25) d &&& 1 = (σ 25) d &&& 1) ∧ ((s 25) d &&& 2 = (σ 25) d &&& 2) ∧ ((s 25) d &&& 4 = (σ 25) d &&& 4) ∧ (FLb ((σ 25) d) 8 → FLb ((s 25) d) 8)) ∧ (∀ j, j < clen σ → (s 24) j = (σ 24) j) ∧ clen σ ≤ clen s
def zc (K : List Nat) : Nat := (K.filter (fun c => decide (c = 0))).length
/-- within a function -/
def FNi (s : St) (F : Nat) (K : List Nat) (Nb b : Nat) : Prop := ∃ d : Nat, (s 6 6).toInt = d ∧ (s 5 1).toInt - (s 6 7).toInt ≤ d ∧ (d : Int) < (s 5 1).toInt ∧ FLb ((s 25) d) 1 ∧ FLb ((s 25) d) 4 ∧ ((s 28) d).toInt = Nb ∧ b = Nb + 4 ∧ spar ((s 27) d) ≤ 8 ∧ (0 ≤ (s 6 10).toInt ∧ (s 6 10).toInt + F ≤ 101) ∧ (0 ≤ (s 6 15).toInt ∧ (s 6 15).toInt ≤ (s 6 10).toInt) ∧ (s 6 17).toInt = 1 + zc K ∧ (∀ j : Nat, j < 52 → (j : Int) < (s 6 17).toInt → 0 ≤ ((s 45) j).toInt ∧ ((s 45) j).toInt ≤ (s 6 10).toInt) ∧ (∀ j : Nat, (j : Int) < (s 6 10).toInt → ((s 42) j).toInt ≤ 4000) ∧ (2 ≤ F → K = [])
def inI (K : List Nat) : Prop := ∃ c K', K = c :: K' ∧ 9 ≤ c
/-- between steps: F functions and parameters to come, K constructs around, A operands -/
def WSx (σ s : St) (F : Nat) (K : List Nat) (A : List It) (Nb b e0 H0 : Nat) (g : Gh) (X : Nat → Prop) : Prop :=
  (clen σ ≤ Nb ∧ Nb ≤ b ∧ b ≤ e0) ∧ SE s g b K X H0 e0 A ∧ UFx s Nb ∧ nzr K ≤ 25 ∧ wfK K ∧
  (F = 0 → (s 6 6).toInt = -1 ∧ (K = [] ∨ ∃ c, 9 ≤ c ∧ K = [c])) ∧
  (1 ≤ F → FNi s F K Nb b ∧ (H0 ≠ 0 → (∃ K', K = 10 :: K') ∧ (s 8 16).toInt ≠ 0)) ∧
  (inI K → ((s 8 9).toInt ≠ 0 ↔ 1 ≤ F))
/-- the last name's end is the end of all names -/
def NME (s : St) : Prop := (∀ d : Nat, (d : Int) + 1 = (s 5 1).toInt → ((s 29) d).toInt = (s 5 7).toInt) ∧ ∀ d, 0 ≤ ((s 29) d).toInt ∧ ((s 29) d).toInt ≤ 65600
/-- what a step keeps, whatever it tells -/
def WKs (σ s : St) : Prop := KWk σ s ∧ UXs s ∧ OLx σ s ∧ 0 ≤ (s 4 1).toInt ∧ (0 ≤ (s 5 7).toInt ∧ NME s)
section WLK
variable {σ s z t : St} {g g' g1 : Gh} {X X0 Y : Nat → Prop} {b e e0 e' H H0 H' L L' m n N N' Nb c d p tt j i F hd : Nat} {K K2 M E G D : List Nat} {A B : List It} {x y v a : Int32} {w w' : Nat → Int32} {CP CP' : Int → Nat → Prop}
theorem nme_k (e1 : (s 5 1) = (σ 5 1)) (e2 : (s 5 7) = (σ 5 7)) (e3 : ∀ d, (s 29) d = (σ 29) d) (h : 0 ≤ (σ 5 7).toInt ∧ NME σ) : 0 ≤ (s 5 7).toInt ∧ NME s := ⟨by rw [e2]; exact h.1, fun d hd => by rw [e1] at hd; rw [e2, e3]; exact h.2.1 d hd, fun d => by rw [e3]; exact h.2.2 d⟩
theorem fune_mono (hw : ∀ q, q < N → w' q = w q) (hC : ∀ a m, CP a m → CP' a m) (hN : N ≤ N') (h : FUNe w CP N hd n L g) : FUNe w' CP' N' hd n L g := by
  obtain ⟨⟨f1, f2, f3, f4, f5, f6, f7, f8⟩, f9⟩ := h
  refine ⟨⟨by omega, by rw [hw hd (by omega)]; exact f2, by rw [hw _ (by omega)]; exact f3, f4, by rw [hw _ (by omega)]; exact f5, f6, f7, fun q h k hq => ?_⟩, fun q h k hq => ?_⟩
  · obtain ⟨a1, a2, mm, o1, o2⟩ := f8 q h k hq
    obtain ⟨m2, p1, p2⟩ := f9 q h k hq
    have em : m2 = mm := by omega
    subst em
    refine ⟨by omega, a2, m2, by rw [hw q a1]; exact o1, ?_⟩
    have o3 := opk_mono (g' := g) (CP' := CP') (pd' := False) (fun _ _ h => h) hC id o2
    by_cases c : m2 < 26 ∨ 31 = m2 ∨ 32 < m2
    · exact opk_arg c o3
    · have := ln_2 m2 (by have := o2.1.2.1; omega) (by omega) (by omega) (by omega)
      rw [hw (q + 1) (by omega)]
      exact o3
  · obtain ⟨m2, p1, p2⟩ := f9 q h k hq
    have a1 := (f8 q h k hq).1
    exact ⟨m2, by rw [hw q a1]; exact p1, by omega⟩
/-- it stays where flags, values, extents stay, and code before the place -/
theorem uf_mono (hd : (s 5 1) = (σ 5 1)) (ho : (s 6 7) = (σ 6 7)) (hf : (s 6 6) = (σ 6 6)) (hx : (s 27) = (σ 27)) (hv : (s 28) = (σ 28)) (m : MKs σ s) (hw : ∀ q, q < N → (s 24) q = (σ 24) q) (hC : ∀ a m, CPu σ a m → CPu s a m) (h : UFx σ N) : UFx s N := fun d h1 h2 h3 h4 h5 => by
  rw [hd, ho] at h1
  rw [hd] at h2
  rw [hf] at h5
  have f4 : FLb ((σ 25) d) 4 := by
    unfold FLb at h4 ⊢
    rw [(m.1 d).2.2.1] at h4
    exact h4
  obtain ⟨hd', L, g, a1, a2⟩ := h d h1 h2 ((flb1 m).mp h3) f4 h5
  exact ⟨hd', L, g, by rw [hv]; exact a1, by rw [hx]; exact fune_mono hw hC (Nat.le_refl _) a2⟩
theorem kw_xw (k : KXW σ s) : KWk σ s := ko_sub k (by decide) (by decide)
theorem kxw_e (k : KXE σ s) : KXW σ s := ko_sub k (by decide) (by decide)
theorem cpu_w (k : KXW σ s) (m : MKs σ s) : ∀ a n, CPu σ a n → CPu s a n := fun a n ⟨h1, h2, h3, h4, h5⟩ => by
  have e1 : (s 5 1) = (σ 5 1) := k 5 1 (op_lt (by decide)) rfl rfl
  have e2 : (s 6 7) = (σ 6 7) := k 6 7 (op_lt (by decide)) rfl rfl
  have e3 : (s 27) = (σ 27) := funext (fun j => k 27 j (op_lt (by decide)) rfl rfl)
  exact ⟨by rw [e1, e2]; exact h1, (flb1 m).mpr h2, (m.1 _).2.2.2 h3, by rw [e1, e2]; exact m.2 _ h4, by rw [e3]; exact h5⟩
theorem uf_w (k : KXW σ s) (m : MKs σ s) (hw : ∀ q, q < N → (s 24) q = (σ 24) q) (h : UFx σ N) : UFx s N :=
  uf_mono (k 5 1 (op_lt (by decide)) rfl rfl) (k 6 7 (op_lt (by decide)) rfl rfl) (k 6 6 (op_lt (by decide)) rfl rfl) (funext (fun j => k 27 j (op_lt (by decide)) rfl rfl)) (funext (fun j => k 28 j (op_lt (by decide)) rfl rfl)) m hw (cpu_w k m) h
theorem ol_w {ρ : St} (o : OLx ρ σ) (k : KXW σ s) (m : MKs σ s) (hw : ∀ j, j < clen ρ → (s 24) j = (σ 24) j) (hl : clen ρ ≤ clen s) : OLx ρ s := by
  obtain ⟨o1, o2, o3, o4⟩ := o
  have e1 : (s 5 1) = (σ 5 1) := k 5 1 (op_lt (by decide)) rfl rfl
  have e2 : (s 6 7) = (σ 6 7) := k 6 7 (op_lt (by decide)) rfl rfl
  refine ⟨by rw [e1, e2]; exact o1, fun d hd => ?_, fun j hj => (hw j hj).trans (o3 j hj), hl⟩
  obtain ⟨a1, a2, a3, a4, a5, a6, a7, a8⟩ := o2 d hd
  obtain ⟨b1, b2, b3, b4⟩ := m.1 d
  exact ⟨(k 26 d (op_lt (by decide)) rfl rfl).trans a1, (k 27 d (op_lt (by decide)) rfl rfl).trans a2, (k 28 d (op_lt (by decide)) rfl rfl).trans a3, (k 29 d (op_lt (by decide)) rfl rfl).trans a4, b1.trans a5, b2.trans a6, b3.trans a7, fun z => b4 (a8 z)⟩
theorem wk_w {ρ : St} (h : WKs ρ σ) (k : KXW σ s) (m : MKs σ s) (hs : (s 6 15).toInt ≤ 1000 ∧ -1000 ≤ (s 6 15).toInt) (hw : ∀ j, j < clen ρ → (s 24) j = (σ 24) j) (hl : clen ρ ≤ clen s) (h0 : 0 ≤ (s 4 1).toInt) : WKs ρ s := by
  obtain ⟨h1, h2, h3, h4, h5⟩ := h
  have e1 : (s 5 1) = (σ 5 1) := k 5 1 (op_lt (by decide)) rfl rfl
  have e2 : (s 6 7) = (σ 6 7) := k 6 7 (op_lt (by decide)) rfl rfl
  have e3 : (s 27) = (σ 27) := funext (fun j => k 27 j (op_lt (by decide)) rfl rfl)
  have e5 : (s 15) = (σ 15) := funext (fun j => k 15 j (op_lt (by decide)) rfl rfl)
  obtain ⟨u1, u2, u3, u4, u5⟩ := h2
  exact ⟨ko_tr h1 (kw_xw k), ⟨by unfold PLA; rw [e5]; exact u1, by rw [e2]; exact u2, by rw [e1, e2]; exact u3, hs, fun j q => by rw [e3]; exact u5 j ((flb1 m).mp q)⟩, ol_w h3 k m hw hl, h0, nme_k e1 (k 5 7 (op_lt (by decide)) rfl rfl) (fun d => k 29 d (op_lt (by decide)) rfl rfl) h5⟩
theorem fn_k (k : KXW σ s) (m : MKs σ s) (e1 : (s 6 15) = (σ 6 15)) (e2 : (s 6 17) = (σ 6 17)) (e3 : (s 45) = (σ 45)) (hz : zc M = zc K) (hF : 2 ≤ F → M = []) (h : FNi σ F K Nb b) : FNi s F M Nb b := by
  obtain ⟨d, a1, a2, a3, a4, a5, a6, a7, a8, a9, b1, b2, b3, b4, b5⟩ := h
  have r1 : (s 5 1) = (σ 5 1) := k 5 1 (op_lt (by decide)) rfl rfl
  have r2 : (s 6 7) = (σ 6 7) := k 6 7 (op_lt (by decide)) rfl rfl
  have r3 : (s 6 6) = (σ 6 6) := k 6 6 (op_lt (by decide)) rfl rfl
  have r4 : (s 6 10) = (σ 6 10) := k 6 10 (op_lt (by decide)) rfl rfl
  have f4 : FLb ((s 25) d) 4 := by
    unfold FLb at a5 ⊢
    rw [(m.1 d).2.2.1]
    exact a5
  refine ⟨d, by rw [r3]; exact a1, by rw [r1, r2]; exact a2, by rw [r1]; exact a3, (flb1 m).mpr a4, f4, by rw [show (s 28) d = (σ 28) d from k 28 d (op_lt (by decide)) rfl rfl]; exact a6, a7, by rw [show (s 27) d = (σ 27) d from k 27 d (op_lt (by decide)) rfl rfl]; exact a8, by rw [r4]; exact a9, by rw [r4, e1]; exact b1, by rw [e2, hz]; exact b2, fun j j1 j2 => by rw [e3, r4]; exact b3 j j1 (by rw [← e2]; exact j2), fun j hj => by rw [show (s 42) j = (σ 42) j from k 42 j (op_lt (by decide)) rfl rfl]; exact b4 j (by rw [← r4]; exact hj), hF⟩
/-- a step of an expression -/
theorem ws_x {ρ : St} {Q : St → Prop} (wk : WKs ρ σ) (h : WSx ρ σ F K A Nb b e0 H0 g X) (cap : (σ 4 1).toInt ≤ 262150) (hA : A.length ≤ 500) (hx : x.toInt = i) (hi : i < 32100) (hd : dx (act σ i) (tkx σ ((σ 19) i)) A B) (k : ∀ s, KXW σ s → WKs ρ s → ((s 6 3).toInt = 0 → ∃ g', WSx ρ s F K B Nb b e0 H0 g' X ∧ clen s + 2 * plc s B ≤ clen σ + 2 * plc σ A + cst σ i) → Q s) : wk_X2_take x σ Q := by
  obtain ⟨⟨n1, n2, n3⟩, h2, h3, h4, h5, h6, h7, h8⟩ := h
  refine se_take wk.2.1 h2 cap hA hx hi hd (fun s k1 m1 w1 l1 l2 hv => ?_)
  have kx := kxw_e k1
  have h0 : 0 ≤ (s 4 1).toInt := by clear hv; omega
  have c1 := clen_eq h0
  have es : (s 6 15) = (σ 6 15) := k1 6 15 (op_lt (by decide)) rfl rfl
  have ec : (s 6 17) = (σ 6 17) := k1 6 17 (op_lt (by decide)) rfl rfl
  have et : (s 45) = (σ 45) := funext (fun j => k1 45 j (op_lt (by decide)) rfl rfl)
  have ef : (s 6 6) = (σ 6 6) := k1 6 6 (op_lt (by decide)) rfl rfl
  have em : (s 8 16) = (σ 8 16) := k1 8 16 (op_lt (by decide)) rfl rfl
  have ei : (s 8 9) = (σ 8 9) := k1 8 9 (op_lt (by decide)) rfl rfl
  refine k s kx (wk_w wk kx m1 (by rw [es]; exact wk.2.1.2.2.2.1) (fun j hj => w1 j (by clear hv; omega)) (by clear hv; omega) h0) (fun hf => ?_)
  obtain ⟨g', ag, se, cc⟩ := hv hf
  refine ⟨g', ⟨⟨n1, n2, n3⟩, se, uf_w kx m1 (fun q hq => w1 q (by omega)) h3, h4, h5, fun c => by rw [ef]; exact h6 c, fun c => ⟨fn_k kx m1 es ec et rfl ?_ (h7 c).1, fun z => by rw [em]; exact (h7 c).2 z⟩, fun c => by rw [ei]; exact h8 c⟩, cc⟩
  obtain ⟨d, -, -, -, -, -, -, -, -, -, -, -, -, -, q⟩ := (h7 c).1
  exact q
end WLK
end

section
/-! the walk: a step of a statement -/
theorem nzr_nz {K : List Nat} : nzr K ≤ nz K := by
  unfold nz
  omega
theorem zc_0 {K : List Nat} : zc (0 :: K) = zc K + 1 := by
  unfold zc
  rw [List.filter_cons_of_pos (by decide)]
  rfl
theorem zc_s {c : Nat} {K : List Nat} (h : 1 ≤ c) : zc (c :: K) = zc K := by
  unfold zc
  rw [List.filter_cons_of_neg (by
    intro h2
    have := of_decide_eq_true h2
    omega)]
theorem ini_tp {K : List Nat} (h : tpK K) : ¬ inI K := by
  rintro ⟨c, K', e, hc⟩
  rcases h with h | ⟨K2, h⟩
  · rw [h] at e
    cases e
  · rw [h] at e
    have := (List.cons.inj e).1
    omega
theorem ini_bd {K : List Nat} (h : bdK K) : ¬ inI K := by
  rintro ⟨c, K', e, hc⟩
  rcases h with h | ⟨c2, K2, h, h2⟩
  · rw [h] at e
    cases e
  · rw [h] at e
    have := (List.cons.inj e).1
    omega
theorem ini_nz {K : List Nat} (h : nz K ≤ 100) : ¬ inI K := by
  rintro ⟨c, K', e, hc⟩
  rw [e] at h
  unfold nz at h
  have e2 : ((c :: K').filter (fun c => decide (9 ≤ c))).length = (K'.filter (fun c => decide (9 ≤ c))).length + 1 := by
    rw [List.filter_cons_of_pos (by exact decide_eq_true hc)]
    rfl
  rw [e2] at h
  omega
theorem ini_c {c : Nat} {K : List Nat} (h : c < 9) : ¬ inI (c :: K) := by
  rintro ⟨c2, K', e, hc⟩
  have := (List.cons.inj e).1
  omega
theorem zc_le {K : List Nat} : zc K ≤ K.length := List.length_filter_le _ _
def DZS (a : Int) (K K' : List Nat) : Prop := ¬ inI K ∧ (nzr K ≤ 25 → nzr K' ≤ 25) ∧ (wfK K → wfK K' ∧ ¬ inI K') ∧ (a ≠ 20 → a ≠ 21 → zc K' = zc K) ∧ (a = 20 → K' = 0 :: K) ∧ (a = 21 → K = 0 :: K') ∧ K'.length ≤ K.length + 1
theorem dz_st {a : Int} {f1 f2 : Int32} {K : List Nat} {A : List It} {z' : Zs} (h : dz a f1 f2 (1, K, A) z') (hr : 20 ≤ a ∧ a ≤ 38) : ∃ K', z' = (1, K', []) ∧ DZS a K K' := by
  have c : a = 20 ∨ a = 21 ∨ a = 22 ∨ a = 23 ∨ a = 24 ∨ a = 25 ∨ a = 26 ∨ a = 27 ∨ a = 28 ∨ a = 29 ∨ a = 30 ∨ a = 31 ∨ a = 32 ∨ a = 33 ∨ a = 34 ∨ a = 35 ∨ a = 36 ∨ a = 37 ∨ a = 38 ∨ a = 39 := by omega
  rcases c with c | c | c | c | c | c | c | c | c | c | c | c | c | c | c | c | c | c | c | c
  · obtain ⟨K1, e1, e2, q1, q2⟩ := dzi_20 h c
    obtain ⟨-, e3, -⟩ := zs_inj e1
    subst e3
    exact ⟨0 :: K1, e2, ini_bd q2, fun z => by rw [nz_0 (Or.inl rfl)]; exact z, fun w => ⟨⟨fun _ => q2, fun z => absurd z (by decide), w⟩, ini_c (by decide)⟩, fun z => absurd c z, fun _ => rfl, fun z => by omega, by first | omega | (simp only [List.length_cons]; omega)⟩
  · obtain ⟨K1, e1, e2⟩ := dzi_21 h c
    obtain ⟨-, e3, -⟩ := zs_inj e1
    subst e3
    exact ⟨K1, e2, ini_c (by decide), fun z => by rw [nz_0 (Or.inl rfl)] at z; exact z, fun w => ⟨w.2.2, ini_bd (w.1 rfl)⟩, fun _ z => absurd c z, fun z => by omega, fun _ => rfl, by first | omega | (simp only [List.length_cons]; omega)⟩
  · obtain ⟨K1, e1, e2, q⟩ := dzi_22 h c
    obtain ⟨-, e3, -⟩ := zs_inj e1
    subst e3
    exact ⟨K1, e2, ini_nz q, id, fun w => ⟨w, ini_nz q⟩, fun _ _ => rfl, fun z => by omega, fun z => by omega, by first | omega | (simp only [List.length_cons]; omega)⟩
  · obtain ⟨K1, e1, e2, q⟩ := dzi_23 h c
    obtain ⟨-, e3, -⟩ := zs_inj e1
    subst e3
    exact ⟨1 :: K1, e2, ini_tp q.2, fun _ => by rw [nz_c (by decide)]; have := nzr_nz (K := K1); have := q.1; omega, fun w => ⟨⟨fun z => absurd z (by decide), fun _ => q.2, w⟩, ini_c (by decide)⟩, fun _ _ => zc_s (by decide), fun z => by omega, fun z => by omega, by first | omega | (simp only [List.length_cons]; omega)⟩
  · obtain ⟨K1, e1, e2⟩ := dzi_24 h c
    obtain ⟨-, e3, -⟩ := zs_inj e1
    subst e3
    exact ⟨1 :: K1, e2.trans e1, ini_c (by decide), id, fun w => ⟨w, ini_c (by decide)⟩, fun _ _ => rfl, fun z => by omega, fun z => by omega, by first | omega | (simp only [List.length_cons]; omega)⟩
  · obtain ⟨K1, e1, e2⟩ := dzi_25 h c
    obtain ⟨-, e3, -⟩ := zs_inj e1
    subst e3
    exact ⟨K1, e2, ini_c (by decide), fun z => by rw [nz_c (by decide)] at z; omega, fun w => ⟨w.2.2, ini_tp (w.2.1 (by decide))⟩, fun _ _ => (zc_s (by decide)).symm, fun z => by omega, fun z => by omega, by first | omega | (simp only [List.length_cons]; omega)⟩
  · obtain ⟨K1, e1, e2, q⟩ := dzi_26 h c
    obtain ⟨-, e3, -⟩ := zs_inj e1
    subst e3
    exact ⟨2 :: K1, e2, ini_tp q.2, fun _ => by rw [nz_c (by decide)]; have := nzr_nz (K := K1); have := q.1; omega, fun w => ⟨⟨fun z => absurd z (by decide), fun _ => q.2, w⟩, ini_c (by decide)⟩, fun _ _ => zc_s (by decide), fun z => by omega, fun z => by omega, by first | omega | (simp only [List.length_cons]; omega)⟩
  · obtain ⟨K1, e1, e2⟩ := dzi_27 h c
    obtain ⟨-, e3, -⟩ := zs_inj e1
    subst e3
    exact ⟨3 :: K1, e2, ini_c (by decide), fun z => by rw [nz_c (by decide)] at z ⊢; exact z, fun w => ⟨⟨fun z => absurd z (by decide), fun _ => w.2.1 (by decide), w.2.2⟩, ini_c (by decide)⟩, fun _ _ => (zc_s (by decide)).trans (zc_s (by decide)).symm, fun z => by omega, fun z => by omega, by first | omega | (simp only [List.length_cons]; omega)⟩
  · obtain ⟨K1, e1, e2⟩ := dzi_28 h c
    obtain ⟨-, e3, -⟩ := zs_inj e1
    subst e3
    exact ⟨K1, e2, ini_c (by decide), fun z => by rw [nz_c (by decide)] at z; omega, fun w => ⟨w.2.2, ini_tp (w.2.1 (by decide))⟩, fun _ _ => (zc_s (by decide)).symm, fun z => by omega, fun z => by omega, by first | omega | (simp only [List.length_cons]; omega)⟩
  · obtain ⟨K1, e1, e2, q⟩ := dzi_29 h c
    obtain ⟨-, e3, -⟩ := zs_inj e1
    subst e3
    exact ⟨4 :: K1, e2, ini_tp q.2, fun _ => by rw [nz_c (by decide)]; have := nzr_nz (K := K1); have := q.1; omega, fun w => ⟨⟨fun z => absurd z (by decide), fun _ => q.2, w⟩, ini_c (by decide)⟩, fun _ _ => zc_s (by decide), fun z => by omega, fun z => by omega, by first | omega | (simp only [List.length_cons]; omega)⟩
  · obtain ⟨K1, e1, e2⟩ := dzi_30 h c
    obtain ⟨-, e3, -⟩ := zs_inj e1
    subst e3
    exact ⟨5 :: K1, e2, ini_c (by decide), fun z => by rw [nz_c (by decide)] at z ⊢; exact z, fun w => ⟨⟨fun z => absurd z (by decide), fun _ => w.2.1 (by decide), w.2.2⟩, ini_c (by decide)⟩, fun _ _ => (zc_s (by decide)).trans (zc_s (by decide)).symm, fun z => by omega, fun z => by omega, by first | omega | (simp only [List.length_cons]; omega)⟩
  · obtain ⟨K1, e1, e2⟩ := dzi_31 h c
    obtain ⟨-, e3, -⟩ := zs_inj e1
    subst e3
    exact ⟨K1, e2, ini_c (by decide), fun z => by rw [nz_c (by decide)] at z; omega, fun w => ⟨w.2.2, ini_tp (w.2.1 (by decide))⟩, fun _ _ => (zc_s (by decide)).symm, fun z => by omega, fun z => by omega, by first | omega | (simp only [List.length_cons]; omega)⟩
  · obtain ⟨K1, e1, e2, q⟩ := dzi_32 h c
    obtain ⟨-, e3, -⟩ := zs_inj e1
    subst e3
    exact ⟨6 :: K1, e2, ini_tp q.2, fun _ => by rw [nz_c (by decide)]; have := nzr_nz (K := K1); have := q.1; omega, fun w => ⟨⟨fun z => absurd z (by decide), fun _ => q.2, w⟩, ini_c (by decide)⟩, fun _ _ => zc_s (by decide), fun z => by omega, fun z => by omega, by first | omega | (simp only [List.length_cons]; omega)⟩
  · obtain ⟨K1, e1, e2⟩ := dzi_33 h c
    obtain ⟨-, e3, -⟩ := zs_inj e1
    subst e3
    exact ⟨7 :: K1, e2, ini_c (by decide), fun z => by rw [nz_c (by decide)] at z ⊢; exact z, fun w => ⟨⟨fun z => absurd z (by decide), fun _ => w.2.1 (by decide), w.2.2⟩, ini_c (by decide)⟩, fun _ _ => (zc_s (by decide)).trans (zc_s (by decide)).symm, fun z => by omega, fun z => by omega, by first | omega | (simp only [List.length_cons]; omega)⟩
  · obtain ⟨K1, e1, e2⟩ := dzi_34 h c
    obtain ⟨-, e3, -⟩ := zs_inj e1
    subst e3
    exact ⟨8 :: K1, e2, ini_c (by decide), fun z => by rw [nz_c (by decide)] at z ⊢; exact z, fun w => ⟨⟨fun z => absurd z (by decide), fun _ => w.2.1 (by decide), w.2.2⟩, ini_c (by decide)⟩, fun _ _ => (zc_s (by decide)).trans (zc_s (by decide)).symm, fun z => by omega, fun z => by omega, by first | omega | (simp only [List.length_cons]; omega)⟩
  · obtain ⟨K1, e1, e2⟩ := dzi_35 h c
    obtain ⟨-, e3, -⟩ := zs_inj e1
    subst e3
    exact ⟨K1, e2, ini_c (by decide), fun z => by rw [nz_c (by decide)] at z; omega, fun w => ⟨w.2.2, ini_tp (w.2.1 (by decide))⟩, fun _ _ => (zc_s (by decide)).symm, fun z => by omega, fun z => by omega, by first | omega | (simp only [List.length_cons]; omega)⟩
  · obtain ⟨K1, e1, e2, q⟩ := dzi_36 h (Or.inl c)
    obtain ⟨-, e3, -⟩ := zs_inj e1
    subst e3
    exact ⟨K1, e2.trans e1, ini_tp q.2, id, fun w => ⟨w, ini_tp q.2⟩, fun _ _ => rfl, fun z => by omega, fun z => by omega, by first | omega | (simp only [List.length_cons]; omega)⟩
  · obtain ⟨K1, e1, e2, q⟩ := dzi_36 h (Or.inr c)
    obtain ⟨-, e3, -⟩ := zs_inj e1
    subst e3
    exact ⟨K1, e2.trans e1, ini_tp q.2, id, fun w => ⟨w, ini_tp q.2⟩, fun _ _ => rfl, fun z => by omega, fun z => by omega, by first | omega | (simp only [List.length_cons]; omega)⟩
  · obtain ⟨K1, e1, e2, q⟩ := dzi_38 h c
    obtain ⟨-, e3, -⟩ := zs_inj e1
    subst e3
    exact ⟨K1, e2, ini_nz q, id, fun w => ⟨w, ini_nz q⟩, fun _ _ => rfl, fun z => by omega, fun z => by omega, by first | omega | (simp only [List.length_cons]; omega)⟩
  · exfalso
    have := (dz_rng h).2.2.1
    omega
section WS2
variable {σ s z t ρ : St} {g g' g1 : Gh} {X X0 Y : Nat → Prop} {b e e0 e' H H0 H' L L' m n N N' Nb c d p tt j i F hd : Nat} {K K2 M E G D : List Nat} {A B : List It} {x y v a : Int32}
theorem fn_oc (h : FNi σ 1 K Nb b) (hk : K.length ≤ 100000) (ha : (s = opSt σ ∧ M = 0 :: K) ∨ (s = clSt σ ∧ K = 0 :: M)) : FNi s 1 M Nb b := by
  obtain ⟨d, a1, a2, a3, a4, a5, a6, a7, a8, a9, b1, b2, b3, b4, b5⟩ := h
  rcases ha with ⟨rfl, rfl⟩ | ⟨rfl, rfl⟩
  · have zl0 := zc_le (K := K)
    have oc := op_cells (σ := σ)
    have r : ∀ j, j ≠ 15 → j ≠ 17 → opSt σ 6 j = σ 6 j := oc.2.1
    have s15 : opSt σ 6 15 = σ 6 15 := by
      unfold opSt
      rw [rdA_ne (by decide), rdF_ne (by decide)]
    have s17 : (opSt σ 6 17).toInt = (σ 6 17).toInt + 1 := by
      unfold opSt
      rw [rdC_eq]
      show ((σ 6 17) + (1 : Int32)).toInt = _
      exact ad0 i1 (by omega) (by omega)
    have s45 : opSt σ 45 = setv 52 (σ 45) (σ 6 17) (σ 6 15) := by
      unfold opSt
      rw [rdC_ne (by decide), rdF_eq]
    refine ⟨d, by rw [r 6 (by decide) (by decide)]; exact a1, ?_, ?_, ?_, ?_, ?_, a7, ?_, ?_, ?_, ?_, fun j j1 j2 => ?_, fun j hj => ?_, fun z => absurd z (by decide)⟩
    · rw [show opSt σ 5 1 = σ 5 1 from oc.1 5 1 (by decide) (by decide), r 7 (by decide) (by decide)]
      exact a2
    · rw [show opSt σ 5 1 = σ 5 1 from oc.1 5 1 (by decide) (by decide)]
      exact a3
    · rw [show opSt σ 25 d = σ 25 d from oc.1 25 d (by decide) (by decide)]
      exact a4
    · rw [show opSt σ 25 d = σ 25 d from oc.1 25 d (by decide) (by decide)]
      exact a5
    · rw [show opSt σ 28 d = σ 28 d from oc.1 28 d (by decide) (by decide)]
      exact a6
    · rw [show opSt σ 27 d = σ 27 d from oc.1 27 d (by decide) (by decide)]
      exact a8
    · rw [r 10 (by decide) (by decide)]
      exact a9
    · rw [r 10 (by decide) (by decide), s15]
      exact b1
    · rw [s17, b2, zc_0]
      omega
    · rw [r 10 (by decide) (by decide), s45]
      rcases setv_cases 52 (σ 45) (σ 6 17) (σ 6 15) with ⟨q1, q2⟩ | ⟨k, q1, q2, q3⟩
      · rw [q1]
        exact b3 j j1 (by omega)
      · rw [q3]
        show 0 ≤ (if j = k then σ 6 15 else σ 45 j).toInt ∧ (if j = k then σ 6 15 else σ 45 j).toInt ≤ _
        by_cases ej : j = k
        · rw [if_pos ej]
          exact b1
        · rw [if_neg ej]
          exact b3 j j1 (by omega)
    · rw [r 10 (by decide) (by decide)] at hj
      rw [show opSt σ 42 j = σ 42 j from oc.1 42 j (by decide) (by decide)]
      exact b4 j hj
  · have oc := cl_cells (σ := σ)
    have r : ∀ j, j ≠ 15 → j ≠ 17 → clSt σ 6 j = σ 6 j := oc.2.1
    rw [zc_0] at b2
    have zl := zc_le (K := M)
    simp only [List.length_cons] at hk
    have e17 : ((σ 6 17) - (1 : Int32)).toInt = 1 + zc M := by
      rw [sbc i1 (by omega) (by omega), b2]
      omega
    have s17 : (clSt σ 6 17).toInt = 1 + zc M := by
      unfold clSt
      rw [rdA_ne (by decide), rdA_eq rfl]
      exact e17
    have s15 : clSt σ 6 15 = atv 52 (σ 45) ((σ 6 17) - (1 : Int32)) := by
      unfold clSt
      exact rdA_eq rfl
    have s45 : clSt σ 45 = σ 45 := by
      unfold clSt
      rw [rdC_ne (by decide), rdC_ne (by decide)]
    refine ⟨d, by rw [r 6 (by decide) (by decide)]; exact a1, ?_, ?_, ?_, ?_, ?_, a7, ?_, ?_, ?_, s17, fun j j1 j2 => ?_, fun j hj => ?_, fun z => absurd z (by decide)⟩
    · rw [show clSt σ 5 1 = σ 5 1 from oc.1 5 1 (by decide) (by decide), r 7 (by decide) (by decide)]
      exact a2
    · rw [show clSt σ 5 1 = σ 5 1 from oc.1 5 1 (by decide) (by decide)]
      exact a3
    · rw [show clSt σ 25 d = σ 25 d from oc.1 25 d (by decide) (by decide)]
      exact a4
    · rw [show clSt σ 25 d = σ 25 d from oc.1 25 d (by decide) (by decide)]
      exact a5
    · rw [show clSt σ 28 d = σ 28 d from oc.1 28 d (by decide) (by decide)]
      exact a6
    · rw [show clSt σ 27 d = σ 27 d from oc.1 27 d (by decide) (by decide)]
      exact a8
    · rw [r 10 (by decide) (by decide)]
      exact a9
    · rw [r 10 (by decide) (by decide), s15]
      rcases atv_cases 52 (σ 45) ((σ 6 17) - (1 : Int32)) with ⟨q1, q2⟩ | ⟨k, q1, q2, q3⟩
      · rw [q1, i0]
        omega
      · rw [q3]
        exact b3 k q2 (by omega)
    · rw [r 10 (by decide) (by decide), s45]
      exact b3 j j1 (by omega)
    · rw [r 10 (by decide) (by decide)] at hj
      rw [show clSt σ 42 j = σ 42 j from oc.1 42 j (by decide) (by decide)]
      exact b4 j hj
/-- a step of a statement -/
theorem ws_s {Q : St → Prop} {f1 f2 : Int32} {z' : Zs} (wk : WKs ρ σ) (h : WSx ρ σ 1 K A Nb b e0 H0 g X) (cap : (σ 4 1).toInt ≤ 262150) (hx : x.toInt = i) (hi : i < 32100) (hk : K.length ≤ 100000) (ha : a = (σ 18) i) (hr : 20 ≤ act σ i ∧ act σ i < 40) (hd : dz (act σ i) ((σ 20) i) ((σ 21) i) (1, K, A) z') (hf : (σ 6 3).toInt = 0) (k : ∀ s K', z' = (1, K', []) → K'.length ≤ K.length + 1 → KXW σ s → WKs ρ s → ((s 6 3).toInt = 0 → ∃ e1 g' X', WSx ρ s 1 K' [] Nb b e1 0 g' X' ∧ clen s ≤ clen σ + 2 * plc σ A + cst σ i) → Q s) : wk_X7_take a x σ Q := by
  have rg := dz_rng hd
  obtain ⟨K', e, d1, d2, d3, d4, d5, d6, d7⟩ := dz_st hd (by omega)
  subst e
  obtain ⟨⟨n1, n2, n3⟩, h2, h3, h4, h5, h6, h7, h8⟩ := h
  obtain ⟨h71, h72⟩ := h7 (Nat.le_refl _)
  have H00 : H0 = 0 := by
    by_cases c : H0 = 0
    · exact c
    · exfalso
      obtain ⟨⟨K2, e2⟩, -⟩ := h72 c
      exact d1 ⟨10, K2, e2, by decide⟩
  subst H00
  have ob := h71
  obtain ⟨d, -, -, -, -, -, -, -, -, l9, l1, -, l3, -⟩ := ob
  refine ss_take hx hi ha hr hd h2 n3 cap hf h4 h5 (fun s st sc => ?_)
  obtain ⟨k1, m1, ⟨w1, w2⟩, c0, c1, hv⟩ := st
  have cc := clen_eq c0
  have fn' : FNi s 1 K' Nb b := by
    by_cases c20 : act σ i = 20
    · exact fn_oc h71 hk (Or.inl ⟨sc.2.1 c20, d5 c20⟩)
    · by_cases c21 : act σ i = 21
      · exact fn_oc h71 hk (Or.inr ⟨sc.2.2 c21, d6 c21⟩)
      · obtain ⟨q1, q2, q3⟩ := sc.1 c20 c21
        exact fn_k k1 m1 q1 q2 q3 (d4 c20 c21) (fun z => absurd z (by decide)) h71
  have sn : (s 6 15).toInt ≤ 1000 ∧ -1000 ≤ (s 6 15).toInt := by
    obtain ⟨d', -, -, -, -, -, -, -, -, p9, p1, -⟩ := fn'
    clear hv h6 h72 h8
    omega
  refine k s K' rfl d7 k1 (wk_w wk k1 m1 sn (fun j hj => w1 j (by omega)) (by omega) c0) (fun hf' => ?_)
  obtain ⟨f0, g', X', sb, cl⟩ := hv hf'
  exact ⟨clen s, g', X', ⟨⟨n1, n2, w2⟩, se_nil sb, uf_w k1 m1 (fun q hq => w1 q (by omega)) h3, d2 h4, (d3 h5).1, fun c => absurd c (by decide), fun _ => ⟨fn', fun z => absurd rfl z⟩, fun c => absurd c (d3 h5).2⟩, by rw [Nat.add_assoc]; exact cl⟩
end WS2
end

section
/-! the walk: what steps of declarations keep -/
abbrev KLx (a b : St) : Prop := Ko [(7, 7), (4, 1), (6, 3), (6, 4), (6, 5), (6, 10), (6, 15), (5, 9), (8, 6), (8, 7), (8, 8), (8, 9), (8, 10), (8, 11), (8, 12), (8, 13), (8, 14), (8, 15), (8, 16)] [17, 24, 31, 32, 33, 40, 41, 42, 43, 44] a b
/-- code typed up to the end, at a height -/
def SHx (σ : St) (g : Gh) (b : Nat) (K : List Nat) (X : Nat → Prop) (h B : Nat) : Prop := TYp (σ 24) g (CPu σ) X b (clen σ) h (LV K) ∧ CX σ g (clen σ) K X ∧ (σ 7 7).toInt = 0 ∧ 0 ≤ (σ 4 1).toInt ∧ (σ 9 5).toInt = nzr K ∧ BND g b (clen σ) B
section DC0
variable {σ s z t ρ : St} {g g' g1 : Gh} {X X0 Y : Nat → Prop} {b e e0 e' h h' H H0 H' L L' m n N N' Nb c d p tt j i F F' k B : Nat} {K K2 M E G D : List Nat} {A : List It} {x y v a op a1 a2 a3 : Int32}
theorem lv_9 (hc : c = 0 ∨ 9 ≤ c) : LV (c :: K) = LV K := by
  show (if c = 3 ∨ c = 4 ∨ c = 5 ∨ c = 7 then LV K + 1 else if c = 8 then LV K + 2 else LV K) = LV K
  rw [if_neg (by omega), if_neg (by omega)]
theorem cx_9 (hc : c = 0 ∨ 9 ≤ c) : CX σ g e (c :: K) X ↔ CX σ g e K X := by
  constructor
  · intro h
    unfold CX at h
    rw [if_pos hc] at h
    exact h
  · intro h
    unfold CX
    rw [if_pos hc]
    exact h
theorem sh_9 (hc : c = 0 ∨ 9 ≤ c) : SHx σ g b (c :: K) X h B ↔ SHx σ g b K X h B := by
  unfold SHx
  rw [lv_9 hc, cx_9 hc, nz_0 hc]
theorem sh_sb (q : SHx σ g b K X h B) (hB : B ≤ h + 420) : SB σ g b K X h := ⟨q.1, q.2.1, q.2.2.1, q.2.2.2.1, q.2.2.2.2.1, bnd_le q.2.2.2.2.2 (Nat.le_refl _) (Nat.le_refl _) hB⟩
theorem vs_sh (q : VS s g b K X H0 e0) : SHx s g b K X (H0 + 1) (H0 + 420) := by
  obtain ⟨h1, h2, h3, h4, h5, h6, h7, -⟩ := q
  exact ⟨h1, cx_mono K X (fun _ _ => ⟨rfl, rfl, rfl, rfl, rfl, rfl⟩) (fun _ _ => rfl) agr_rf h7 h2, h3, h4, h5, h6⟩
theorem sh_keep (e4 : (s 4 1) = (σ 4 1)) (e7 : (s 7 7) = (σ 7 7)) (e9 : (s 9 5) = (σ 9 5)) (w : (s 24) = (σ 24)) (r : (s 49) = (σ 49) ∧ (s 50) = (σ 50) ∧ (s 51) = (σ 51) ∧ (s 52) = (σ 52) ∧ (s 53) = (σ 53) ∧ (s 54) = (σ 54)) (cp : ∀ a m, CPu σ a m → CPu s a m) (q : SHx σ g b K X h B) : SHx s g b K X h B := by
  obtain ⟨h1, h2, h3, h4, h5, h6⟩ := q
  obtain ⟨r1, r2, r3, r4, r5, r6⟩ := r
  have ecl : clen s = clen σ := by unfold clen; rw [e4]
  refine ⟨?_, ?_, by rw [e7]; exact h3, by rw [e4]; exact h4, by rw [e9]; exact h5, by rw [ecl]; exact h6⟩
  · rw [ecl, w]
    exact typ_mono (fun _ _ => rfl) agr_rf cp (fun _ z => z) h1
  · rw [ecl]
    exact cx_mono K X (fun j _ => ⟨by rw [r1], by rw [r2], by rw [r3], by rw [r4], by rw [r5], by rw [r6]⟩) (fun q _ => by rw [w]) agr_rf (Nat.le_refl _) h2
theorem sh_emit (q : SHx σ g b K X h B) (em : EMi σ s op a1 a2 a3) (hk : op.toInt = k) (k1 : 1 ≤ k ∧ k ≤ 25) (hp : po k ≤ h) (hd : (h' : Int) = h + de k) (hB : h' ≤ B) : ∃ g', AGR g g' (clen σ) ∧ SHx s g' b K X h' B := by
  obtain ⟨h1, h2, h3, h4, h5, h6⟩ := q
  obtain ⟨ek, emk, el, ex, ef, ee⟩ := em_k em
  have ec := em_clen em hk h4
  have el2 := em_len em hk
  obtain ⟨g2, T2, ag2, gi2⟩ := typ_pl (w' := (s 24)) (n := k) (H' := h') (typ_mono (fun q _ => rfl) agr_rf (cpu_mono ek emk) (fun _ z => z) h1) em.2.2.1 (by rw [em.2.2.2.1]; exact hk) k1.1 (by omega) (Or.inl k1.2) hp hd
  refine ⟨g2, ag2, by rw [ec]; exact T2, cx_e ek em.2.2.1 ag2 (by omega) h2, by rw [ee]; exact h3, by omega, by rw [(kw_e ek).2.2.2.2.2.2]; exact h5, ?_⟩
  rw [ec]
  exact bnd_ext h6 ag2 gi2 T2.2.1 hB
theorem sb_fresh (hc : (s 7 7).toInt = 0) (h0 : 0 ≤ (s 4 1).toInt) (ho : (s 9 5).toInt = 0) (hK : K = [] ∨ ∃ c, 9 ≤ c ∧ K = [c]) : ∃ g, SB s g (clen s) K (fun _ => False) 0 := by
  have base : ∃ g, SHx s g (clen s) [] (fun _ => False) 0 420 := by
    refine ⟨fun q => if q = clen s then some (0, 0) else none, ⟨Nat.le_refl _, if_pos rfl, ⟨fun q hq => if_neg (by omega), if_pos rfl⟩, fun q h k hq hlt => ?_⟩, fun _ z => z, hc, h0, ho, fun q h k h1 h2 h3 => ?_⟩
    · have e : (if q = clen s then some ((0, 0) : Nat × Nat) else none) = some (h, k) := hq
      rw [if_neg (by omega)] at e
      cases e
    · have e : (if q = clen s then some ((0, 0) : Nat × Nat) else none) = some (h, k) := h3
      rw [if_pos (by omega)] at e
      cases e
      exact Nat.zero_le _
  obtain ⟨g, q⟩ := base
  rcases hK with e | ⟨c, hc9, e⟩
  · rw [e]
    exact ⟨g, sh_sb q (by decide)⟩
  · rw [e]
    exact ⟨g, sh_sb ((sh_9 (Or.inr hc9)).mpr q) (by decide)⟩
theorem kl_wk0 (k : KLx σ s) : KWk σ s := ko_sub k (by decide) (by decide)
theorem kxe_l (q : KXE σ s) (h25 : (s 25) = (σ 25)) (h39 : (s 39) = (σ 39)) : KLx σ s := fun c k h0 h1 h2 => by
  by_cases e1 : c = 25
  · subst e1
    exact congrFun h25 k
  · by_cases e2 : c = 39
    · subst e2
      exact congrFun h39 k
    · have q2 : Ko [(7, 7), (4, 1), (6, 3), (6, 4), (6, 5), (6, 10), (6, 15), (5, 9), (8, 6), (8, 7), (8, 8), (8, 9), (8, 10), (8, 11), (8, 12), (8, 13), (8, 14), (8, 15), (8, 16)] [25, 39, 17, 24, 31, 32, 33, 40, 41, 42, 43, 44] σ s := ko_sub q (by decide) (by decide)
      refine q2 c k h0 h1 ?_
      rw [List.contains_cons, List.contains_cons, h2, beq_eq_false_iff_ne.mpr e1, beq_eq_false_iff_ne.mpr e2]
      rfl
theorem em_l (em : EMi σ s op a1 a2 a3) : KLx σ s := ko_sub (ko_kp em.1) (by decide) (by decide)
theorem kl_mk (q : KLx σ s) : MKs σ s := mks_eq (funext (fun j => q 25 j (op_lt (by decide)) rfl rfl)) (funext (fun j => q 39 j (op_lt (by decide)) rfl rfl))
theorem kl_cp (q : KLx σ s) : ∀ a m, CPu σ a m → CPu s a m := fun a m hq => by
  unfold CPu at hq ⊢
  rw [show s 5 1 = σ 5 1 from q 5 1 (op_lt (by decide)) rfl rfl, show s 6 7 = σ 6 7 from q 6 7 (op_lt (by decide)) rfl rfl, show s 25 = σ 25 from funext (fun j => q 25 j (op_lt (by decide)) rfl rfl), show s 39 = σ 39 from funext (fun j => q 39 j (op_lt (by decide)) rfl rfl), show s 27 = σ 27 from funext (fun j => q 27 j (op_lt (by decide)) rfl rfl)]
  exact hq
theorem kl_rows (q : KLx σ s) : (s 49) = (σ 49) ∧ (s 50) = (σ 50) ∧ (s 51) = (σ 51) ∧ (s 52) = (σ 52) ∧ (s 53) = (σ 53) ∧ (s 54) = (σ 54) :=
  ⟨ko_rd q 49 (Or.inr (by decide)) rfl (fun _ => rfl), ko_rd q 50 (Or.inr (by decide)) rfl (fun _ => rfl), ko_rd q 51 (Or.inr (by decide)) rfl (fun _ => rfl), ko_rd q 52 (Or.inr (by decide)) rfl (fun _ => rfl), ko_rd q 53 (Or.inr (by decide)) rfl (fun _ => rfl), ko_rd q 54 (Or.inr (by decide)) rfl (fun _ => rfl)⟩
theorem kl_open (q : KLx σ s) : (s 9 5) = (σ 9 5) := q 9 5 (op_lt (by decide)) rfl rfl
theorem kl_uf (q : KLx σ s) (hw : ∀ j, j < N → (s 24) j = (σ 24) j) (h : UFx σ N) : UFx s N :=
  uf_mono (q 5 1 (op_lt (by decide)) rfl rfl) (q 6 7 (op_lt (by decide)) rfl rfl) (q 6 6 (op_lt (by decide)) rfl rfl) (funext (fun j => q 27 j (op_lt (by decide)) rfl rfl)) (funext (fun j => q 28 j (op_lt (by decide)) rfl rfl)) (kl_mk q) hw (kl_cp q) h
theorem kl_ol (o : OLx ρ σ) (q : KLx σ s) (hw : ∀ j, j < clen ρ → (s 24) j = (σ 24) j) (hl : clen ρ ≤ clen s) : OLx ρ s := by
  obtain ⟨o1, o2, o3, o4⟩ := o
  have e1 : (s 5 1) = (σ 5 1) := q 5 1 (op_lt (by decide)) rfl rfl
  have e2 : (s 6 7) = (σ 6 7) := q 6 7 (op_lt (by decide)) rfl rfl
  refine ⟨by rw [e1, e2]; exact o1, fun d hd => ?_, fun j hj => (hw j hj).trans (o3 j hj), hl⟩
  have r := o2 d hd
  rw [show (s 26) d = (σ 26) d from q 26 d (op_lt (by decide)) rfl rfl, show (s 27) d = (σ 27) d from q 27 d (op_lt (by decide)) rfl rfl, show (s 28) d = (σ 28) d from q 28 d (op_lt (by decide)) rfl rfl, show (s 29) d = (σ 29) d from q 29 d (op_lt (by decide)) rfl rfl, show (s 25) d = (σ 25) d from q 25 d (op_lt (by decide)) rfl rfl]
  exact r
theorem kl_wk (h : WKs ρ σ) (q : KLx σ s) (hs : (s 6 15).toInt ≤ 1000 ∧ -1000 ≤ (s 6 15).toInt) (hw : ∀ j, j < clen ρ → (s 24) j = (σ 24) j) (hl : clen ρ ≤ clen s) (h0 : 0 ≤ (s 4 1).toInt) : WKs ρ s := by
  obtain ⟨h1, ⟨u1, u2, u3, u4, u5⟩, h3, h4, h5⟩ := h
  have e1 : (s 5 1) = (σ 5 1) := q 5 1 (op_lt (by decide)) rfl rfl
  have e2 : (s 6 7) = (σ 6 7) := q 6 7 (op_lt (by decide)) rfl rfl
  have e3 : (s 27) = (σ 27) := funext (fun j => q 27 j (op_lt (by decide)) rfl rfl)
  have e4 : (s 25) = (σ 25) := funext (fun j => q 25 j (op_lt (by decide)) rfl rfl)
  have e5 : (s 15) = (σ 15) := funext (fun j => q 15 j (op_lt (by decide)) rfl rfl)
  exact ⟨ko_tr h1 (kl_wk0 q), ⟨by unfold PLA; rw [e5]; exact u1, by rw [e2]; exact u2, by rw [e1, e2]; exact u3, hs, fun j z => by rw [e3]; rw [e4] at z; exact u5 j z⟩, kl_ol h3 q hw hl, h0, nme_k e1 (q 5 7 (op_lt (by decide)) rfl rfl) (fun d => q 29 d (op_lt (by decide)) rfl rfl) h5⟩
theorem kl_fn (q : KLx σ s) (hz : zc M = zc K) (hF : 2 ≤ F' → M = []) (hl : (s 6 10).toInt + F' ≤ 101) (l0 : (σ 6 10).toInt ≤ (s 6 10).toInt) (hs : 0 ≤ (s 6 15).toInt ∧ (s 6 15).toInt ≤ (s 6 10).toInt) (hx : ∀ j : Nat, (j : Int) < (s 6 10).toInt → ((s 42) j).toInt ≤ 4000) (h : FNi σ F K Nb b) : FNi s F' M Nb b := by
  obtain ⟨d, a1, a2, a3, a4, a5, a6, a7, a8, a9, b1, b2, b3, b4, b5⟩ := h
  have r1 : (s 5 1) = (σ 5 1) := q 5 1 (op_lt (by decide)) rfl rfl
  have r2 : (s 6 7) = (σ 6 7) := q 6 7 (op_lt (by decide)) rfl rfl
  have r3 : (s 6 6) = (σ 6 6) := q 6 6 (op_lt (by decide)) rfl rfl
  have r5 : (s 6 17) = (σ 6 17) := q 6 17 (op_lt (by decide)) rfl rfl
  have r6 : (s 45) = (σ 45) := funext (fun j => q 45 j (op_lt (by decide)) rfl rfl)
  have r7 : (s 25) = (σ 25) := funext (fun j => q 25 j (op_lt (by decide)) rfl rfl)
  refine ⟨d, by rw [r3]; exact a1, by rw [r1, r2]; exact a2, by rw [r1]; exact a3, by rw [r7]; exact a4, by rw [r7]; exact a5, by rw [show (s 28) d = (σ 28) d from q 28 d (op_lt (by decide)) rfl rfl]; exact a6, a7, by rw [show (s 27) d = (σ 27) d from q 27 d (op_lt (by decide)) rfl rfl]; exact a8, ⟨by omega, hl⟩, hs, by rw [r5, hz]; exact b2, fun j j1 j2 => ?_, hx, hF⟩
  rw [r6]
  have := b3 j j1 (by rw [← r5]; exact j2)
  omega
end DC0
end

