/-! steps of statements: break, continue, return -/
/-- no loop among these -/
def nol (K : List Nat) : Prop := ∀ c ∈ K, c = 0 ∨ c = 1 ∨ 9 ≤ c
/-- well formed: where statements and bodies stand -/
def wfK : List Nat → Prop
  | [] => True
  | c :: K => (c = 0 → bdK K) ∧ (1 ≤ c → tpK K) ∧ wfK K
theorem loop_split : ∀ K : List Nat, nol K ∨ ∃ K1 c K2, K = K1 ++ c :: K2 ∧ nol K1 ∧ 2 ≤ c ∧ c ≤ 8
  | [] => Or.inl (fun c hc => by cases hc)
  | c :: K => by
    by_cases h : c = 0 ∨ c = 1 ∨ 9 ≤ c
    · rcases loop_split K with n | ⟨K1, c1, K2, e1, e2, e3, e4⟩
      · refine Or.inl (fun x hx => ?_)
        rcases List.mem_cons.mp hx with z | z
        · rw [z]
          exact h
        · exact n x z
      · refine Or.inr ⟨c :: K1, c1, K2, by rw [e1]; rfl, fun x hx => ?_, e3, e4⟩
        rcases List.mem_cons.mp hx with z | z
        · rw [z]
          exact h
        · exact e2 x z
    · exact Or.inr ⟨[], c, K, rfl, fun x hx => (by cases hx), by omega, by omega⟩
theorem nol_tl {c : Nat} {K : List Nat} (h : nol (c :: K)) : nol K := fun x hx => h x (List.mem_cons_of_mem _ hx)
theorem wf_loop : ∀ (n : Nat) (K1 : List Nat) (c : Nat) (K2 : List Nat), K1.length ≤ n → nol K1 → 2 ≤ c → tpK (K1 ++ c :: K2) → wfK (K1 ++ c :: K2) → c = 3 ∨ c = 4 ∨ c = 8
  | n, [], c, K2 => fun _ _ h2 ht _ => by
    rcases ht with h | ⟨K', h⟩
    · cases h
    · have := (List.cons.inj h).1
      omega
  | 0, d :: K1, c, K2 => fun hl _ _ _ _ => absurd hl (by show ¬ K1.length + 1 ≤ 0; omega)
  | n + 1, d :: K1, c, K2 => fun hl hn h2 ht hw => by
    have hl' : K1.length + 1 ≤ n + 1 := hl
    have d0 : d = 0 := by
      rcases ht with h | ⟨K', h⟩
      · cases h
      · exact (List.cons.inj h).1
    have w1 : bdK (K1 ++ c :: K2) := hw.1 d0
    have w2 : wfK (K1 ++ c :: K2) := hw.2.2
    cases K1 with
    | nil =>
      rcases w1 with h | ⟨c', K', h, h'⟩
      · cases h
      · have e := (List.cons.inj h).1
        omega
    | cons d1 K3 =>
      have hl3 : K3.length + 1 + 1 ≤ n + 1 := hl'
      have n1 := hn d1 (List.mem_cons_of_mem _ List.mem_cons_self)
      rcases w1 with h | ⟨c', K', h, h'⟩
      · cases h
      · have e := (List.cons.inj h).1
        have d1c : d1 = 0 ∨ d1 = 1 := by omega
        rcases d1c with z | z
        · exact wf_loop n (d1 :: K3) c K2 (by show K3.length + 1 ≤ n; omega) (nol_tl hn) h2 (Or.inr ⟨K3 ++ c :: K2, by rw [z]; rfl⟩) w2
        · exact wf_loop n K3 c K2 (by omega) (nol_tl (nol_tl hn)) h2 (w2.2.1 (by omega)) w2.2.2
theorem lv_app {K2 : List Nat} : ∀ (K1 : List Nat), nol K1 → LV (K1 ++ K2) = LV K2
  | [], _ => rfl
  | c :: K1, h => by
    have c0 := h c List.mem_cons_self
    show (if c = 3 ∨ c = 4 ∨ c = 5 ∨ c = 7 then LV (K1 ++ K2) + 1 else if c = 8 then LV (K1 ++ K2) + 2 else LV (K1 ++ K2)) = LV K2
    rw [if_neg (by omega), if_neg (by omega)]
    exact lv_app K1 (nol_tl h)
theorem nzr_app {K2 : List Nat} : ∀ (K1 : List Nat), nzr K2 ≤ nzr (K1 ++ K2)
  | [] => Nat.le_refl _
  | c :: K1 => by
    have ih := nzr_app (K2 := K2) K1
    show nzr K2 ≤ nzr (c :: (K1 ++ K2))
    by_cases h : c = 0 ∨ 9 ≤ c
    · rw [nz_0 h]
      exact ih
    · rw [nz_c h]
      omega
section SLV
variable {σ s z t : St} {g g' g1 : Gh} {X X0 Y : Nat → Prop} {b e e0 e' H H0 H' L L' m n N c d p tt j cc : Nat} {K K2 M E G D : List Nat} {x y v : Int32}
theorem cx_loops : ∀ (K1 : List Nat) (X : Nat → Prop), nol K1 → CX σ g e (K1 ++ M) X → ∀ j, nzr M ≤ j → j < nzr (K1 ++ M) → ((σ 49) j).toInt = 0
  | [], X => fun _ _ j h1 h2 => absurd h2 (by show ¬ j < nzr M; omega)
  | c :: K1, X => fun hn h j h1 h2 => by
    have c0 := hn c List.mem_cons_self
    have h' : CX σ g e (c :: (K1 ++ M)) X := h
    have h2' : j < nzr (c :: (K1 ++ M)) := h2
    unfold CX at h'
    by_cases cz : c = 0 ∨ 9 ≤ c
    · rw [if_pos cz] at h'
      rw [nz_0 cz] at h2'
      exact cx_loops K1 X (nol_tl hn) h' j h1 h2'
    · rw [if_neg cz] at h'
      rw [nz_c cz] at h2'
      have c1 : c = 1 := by omega
      obtain ⟨Y, E, G, D, a1, a2, a3, b1, b2, b3, -⟩ := h'
      by_cases ej : j = nzr (K1 ++ M)
      · rw [ej, b3, if_pos c1]
      · exact cx_loops K1 Y (nol_tl hn) a1 j h1 (by omega)
theorem cx_suf : ∀ (K1 : List Nat) (X : Nat → Prop), CX σ g e (K1 ++ M) X → ∃ Y, CX σ g e M Y
  | [], X => fun h => ⟨X, h⟩
  | c :: K1, X => fun h => by
    have h' : CX σ g e (c :: (K1 ++ M)) X := h
    unfold CX at h'
    by_cases cz : c = 0 ∨ 9 ≤ c
    · rw [if_pos cz] at h'
      exact cx_suf K1 X h'
    · rw [if_neg cz] at h'
      obtain ⟨Y, E, G, D, a1, -⟩ := h'
      exact cx_suf K1 Y a1
/-- one more jump that waits in a construct further out -/
theorem cx_up (hb : ∀ Y, CX σ g e0 M Y → CX z g' e' M (fun q => Y q ∨ q = j)) (hr : ∀ i, nzr M ≤ i → (z 49) i = (σ 49) i ∧ (z 50) i = (σ 50) i ∧ (z 51) i = (σ 51) i ∧ (z 52) i = (σ 52) i ∧ (z 53) i = (σ 53) i ∧ (z 54) i = (σ 54) i) (hw : ∀ q, q < e0 → (z 24) q = (σ 24) q) (ag : AGR g g' e0) (le : e0 ≤ e') (hj : e0 ≤ j) : ∀ (K1 : List Nat) (X : Nat → Prop), CX σ g e0 (K1 ++ M) X → CX z g' e' (K1 ++ M) (fun q => X q ∨ q = j)
  | [], X => fun h => hb X h
  | c :: K1, X => fun h => by
    have h' : CX σ g e0 (c :: (K1 ++ M)) X := h
    show CX z g' e' (c :: (K1 ++ M)) (fun q => X q ∨ q = j)
    have xlt := cx_lt (c :: (K1 ++ M)) X h'
    unfold CX at h' ⊢
    by_cases cz : c = 0 ∨ 9 ≤ c
    · rw [if_pos cz] at h' ⊢
      exact cx_up hb hr hw ag le hj K1 X h'
    · rw [if_neg cz] at h' ⊢
      obtain ⟨Y, E, G, D, a1, a2, ⟨a3, a4, a5⟩, a6⟩ := h'
      have xj : ∀ q, X q → q ≠ j := fun q hq e2 => by have := xlt q hq; omega
      refine ⟨fun q => Y q ∨ q = j, E, G, D, cx_up hb hr hw ag le hj K1 Y a1, fun q => ?_, ⟨fun q hq hy => ?_, fun q hq => ⟨fun hy => ?_, (a4 q hq).2⟩, fun q hq => ⟨fun hy => ?_, (a5 q hq).2⟩⟩, cx1_mono (hr _ (nzr_app K1)) hw ag le a6⟩
      · show (X q ∨ q = j) ↔ _
        rw [a2 q]
        constructor
        · rintro ((y | y | y | y) | y)
          · exact Or.inl (Or.inl y)
          · exact Or.inr (Or.inl y)
          · exact Or.inr (Or.inr (Or.inl y))
          · exact Or.inr (Or.inr (Or.inr y))
          · exact Or.inl (Or.inr y)
        · rintro ((y | y) | y | y | y)
          · exact Or.inl (Or.inl y)
          · exact Or.inr y
          · exact Or.inl (Or.inr (Or.inl y))
          · exact Or.inl (Or.inr (Or.inr (Or.inl y)))
          · exact Or.inl (Or.inr (Or.inr (Or.inr y)))
      · rcases hy with y | y
        · exact a3 q hq y
        · exact xj q ((a2 q).mpr (Or.inr (Or.inl hq))) y
      · rcases hy with y | y
        · exact (a4 q hq).1 y
        · exact xj q ((a2 q).mpr (Or.inr (Or.inr (Or.inl hq)))) y
      · rcases hy with y | y
        · exact (a5 q hq).1 y
        · exact xj q ((a2 q).mpr (Or.inr (Or.inr (Or.inr hq)))) y
/-- one more jump to where a loop goes on -/
theorem cx_again (h : CX σ g e0 (c :: K) X) (hc : c = 3 ∨ c = 4 ∨ c = 8) (kr : (s 49) = (σ 49) ∧ (s 50) = (σ 50) ∧ (s 51) = (σ 51) ∧ (s 52) = (σ 52) ∧ (s 53) = (σ 53) ∧ (s 54) = (σ 54)) (hw : ∀ q, q < e0 → (s 24) q = (σ 24) q) (ag : AGR g g' e0) (le : e0 ≤ e') (hj : e0 ≤ j) (hv : v.toInt = j) (hwj : (s 24) (j + 1) = (σ 52) (nzr K)) (wj : WJ (s 24) g' e' j (if c = 8 then LV K + 2 else LV K + 1)) : CX (upF s 52 (fun k => if k = nzr K then v else (s 52) k)) g' e' (c :: K) (fun q => X q ∨ q = j) := by
  have hc0 : ¬ (c = 0 ∨ 9 ≤ c) := by omega
  have nG : ¬ (c = 1 ∨ c = 2 ∨ c = 5 ∨ c = 6 ∨ c = 7) := by omega
  have n7 : ¬ c = 7 := by omega
  obtain ⟨k1, k2, k3, k4, k5, k6⟩ := kr
  generalize hz : upF s 52 (fun k => if k = nzr K then v else (s 52) k) = z
  have zr : ∀ c, c ≠ 52 → z c = s c := fun c hc => by rw [← hz]; exact rdF_ne hc
  have z52 : (z 52) = fun k => if k = nzr K then v else (s 52) k := by rw [← hz]; exact rdF_eq
  have z24 : (z 24) = (s 24) := zr 24 (by decide)
  have xlt := cx_lt (c :: K) X h
  unfold CX at h ⊢
  rw [if_neg hc0] at h ⊢
  obtain ⟨Y, E, G, D, a1, a2, ⟨a3, a4, a5⟩, b1, b2, b3, b4, b5, b6, b7, b8, b9, b10⟩ := h
  have jx : ¬ X j := fun q => by
    have := xlt j q
    omega
  have iY : ∀ q, Y q → X q := fun q hq => (a2 q).mpr (Or.inl hq)
  have iE : ∀ q, q ∈ E → X q := fun q hq => (a2 q).mpr (Or.inr (Or.inl hq))
  have iD : ∀ q, q ∈ D → X q := fun q hq => (a2 q).mpr (Or.inr (Or.inr (Or.inr hq)))
  refine ⟨Y, E, j :: G, D, cx_mono K Y (fun i hi => ?_) (fun q hq => by rw [z24]; exact hw q hq) ag le a1, fun q => ?_, ⟨a3, ?_, ?_⟩, ?_, ?_, ?_, ?_, ?_, fun c2 => absurd c2 nG, ?_, ?_, fun c2 => absurd c2 n7, b10⟩
  · refine ⟨by rw [zr 49 (by decide), k1], by rw [zr 50 (by decide), k2], by rw [zr 51 (by decide), k3], ?_, by rw [zr 53 (by decide), k5], by rw [zr 54 (by decide), k6]⟩
    rw [z52]
    show (if i = nzr K then v else (s 52) i) = _
    rw [if_neg (by omega), k4]
  · show (X q ∨ q = j) ↔ _
    rw [a2 q, List.mem_cons]
    constructor
    · rintro ((h | h | h | h) | h)
      · exact Or.inl h
      · exact Or.inr (Or.inl h)
      · exact Or.inr (Or.inr (Or.inl (Or.inr h)))
      · exact Or.inr (Or.inr (Or.inr h))
      · exact Or.inr (Or.inr (Or.inl (Or.inl h)))
    · rintro (h | h | (h | h) | h)
      · exact Or.inl (Or.inl h)
      · exact Or.inl (Or.inr (Or.inl h))
      · exact Or.inr h
      · exact Or.inl (Or.inr (Or.inr (Or.inl h)))
      · exact Or.inl (Or.inr (Or.inr (Or.inr h)))
  · intro q hq
    rcases List.mem_cons.mp hq with e2 | e2
    · exact ⟨fun hy => jx (by rw [← e2]; exact iY q hy), fun hy => jx (by rw [← e2]; exact iE q hy)⟩
    · exact a4 q e2
  · intro q hq
    refine ⟨(a5 q hq).1, (a5 q hq).2.1, fun hy => ?_⟩
    rcases List.mem_cons.mp hy with e2 | e2
    · exact jx (by rw [← e2]; exact iD q hq)
    · exact (a5 q hq).2.2 e2
  · rw [zr 51 (by decide), k3, z24]
    exact chw_mono E _ (fun p hp => hw _ (by have := wj_lt (b4 p hp); omega)) b1
  · intro c5
    have ez : (z 52) (nzr K) = v := by rw [z52]; exact if_pos rfl
    rw [ez, z24]
    refine ⟨hv, ?_, fun q hq => by have := wj_lt (b5 q hq); omega⟩
    rw [hwj]
    exact chw_mono G _ (fun p hp => hw _ (by have := wj_lt (b5 p hp); omega)) (b2 c5)
  · rw [zr 49 (by decide), k1]
    exact b3
  · intro p hp
    rw [z24]
    exact wj_mono hw ag le (b4 p hp)
  · intro p hp
    rw [z24]
    rcases List.mem_cons.mp hp with e2 | e2
    · rw [e2]
      exact wj
    · exact wj_mono hw ag le (b5 p e2)
  · intro c2
    obtain ⟨t, d1, d2, d3⟩ := b7 c2
    exact ⟨t, by rw [zr 50 (by decide), k2]; exact d1, by omega, by rw [ag t d2]; exact d3⟩
  · intro c2
    obtain ⟨t, d1, d2, d3⟩ := b8 c2
    exact ⟨t, by rw [zr 54 (by decide), k6]; exact d1, by omega, by rw [ag t d2]; exact d3⟩
/-- the formula of leave(), over the row of chains -/
def lvF (cc : Nat) (a1 : Int32) (σ : St) (Q : St → Prop) : Prop :=
  ∃ L7 : Nat → Int32 → Prop, (∃ n, L7 n ((σ 9 5) - (1 : Int32))) ∧ ∀ (n7 : Nat) (x3_7 : Int32), L7 n7 x3_7 → ((∃ J28 : Prop, (J28  → ((0 ≤ x3_7.toInt → wk_X0_emit (26 : Int32) (atv 26 (σ cc) x3_7) (0 : Int32) (0 : Int32) σ (fun v59 s59 => Q (upF s59 cc (setv 26 (s59 cc) x3_7 v59)))) ∧ (x3_7.toInt < 0 → wk_X11_fail (2 : Int32) a1 σ (fun s38 => Q s38)))) ∧ (x3_7.toInt < 0 → J28) ∧ (0 ≤ x3_7.toInt → ((atv 26 (σ 49) x3_7).toInt ≠ 0 → J28) ∧ ((atv 26 (σ 49) x3_7).toInt = 0 → ∃ m, m < n7 ∧ L7 m (x3_7 + (-1))))))
theorem lv_no {Q : St → Prop} (ho : (σ 9 5).toInt = N) (hN : N ≤ 26) (hl : ∀ j, j < N → ((σ 49) j).toInt = 0) (k : ∀ s, Kp [(6, 3), (6, 4)] [] σ s → (s 6 3).toInt ≠ 0 → Q s) : lvF cc x σ Q := by
  have oi : ((σ 9 5) - (1 : Int32)).toInt = (N : Int) - 1 := by rw [sbc i1 (by omega) (by omega)]; omega
  refine ⟨fun n y => y.toInt = (n : Int) - 1 ∧ n ≤ N, ⟨N, oi, Nat.le_refl _⟩, ?_⟩
  rintro n y ⟨hy, hn⟩
  refine ⟨y.toInt < 0, fun c => ⟨fun c2 => by omega, fun _ => sp_ufail (by decide) k⟩, id, fun c => ⟨fun c2 => ?_, fun _ => ⟨n - 1, by omega, by rw [dc1 (by omega)]; omega, by omega⟩⟩⟩
  exfalso
  have e : y.toInt = ((n - 1 : Nat) : Int) := by omega
  rw [atv_at e (by omega), hl (n - 1) (by omega)] at c2
  exact c2 rfl
theorem lv_yes {Q : St → Prop} (ho : (σ 9 5).toInt = N) (hN : N ≤ 26) (hm : m < N) (hl : ∀ j, m < j → j < N → ((σ 49) j).toInt = 0) (h1 : ((σ 49) m).toInt ≠ 0) (k : wk_X0_emit (26 : Int32) (σ cc m) (0 : Int32) (0 : Int32) σ (fun v s => Q (upF s cc (fun i => if i = m then v else s cc i)))) : lvF cc x σ Q := by
  have oi : ((σ 9 5) - (1 : Int32)).toInt = (N : Int) - 1 := by rw [sbc i1 (by omega) (by omega)]; omega
  refine ⟨fun n y => y.toInt = (n : Int) - 1 ∧ m < n ∧ n ≤ N, ⟨N, oi, hm, Nat.le_refl _⟩, ?_⟩
  rintro n y ⟨hy, hn, hn2⟩
  have e : y.toInt = ((n - 1 : Nat) : Int) := by omega
  refine ⟨n = m + 1, fun c => ⟨fun _ => ?_, fun c2 => by omega⟩, fun c => by omega, fun c => ⟨fun c2 => ?_, fun c2 => ⟨n - 1, by omega, by rw [dc1 (by omega)]; omega, ?_, by omega⟩⟩⟩
  · have e2 : y.toInt = (m : Int) := by omega
    have e3 : ∀ f : Nat → Int32, ∀ v : Int32, setv 26 f y v = fun i => if i = m then v else f i := fun f v => setv_at e2 (by omega)
    rw [atv_at e2 (by omega)]
    have e4 : (fun (v59 : Int32) (s59 : St) => Q (upF s59 cc (setv 26 (s59 cc) y v59))) = fun v s => Q (upF s cc (fun i => if i = m then v else s cc i)) := funext (fun v => funext (fun s => by rw [e3]))
    rw [e4]
    exact k
  · by_cases c3 : n = m + 1
    · exact c3
    · exfalso
      rw [atv_at e (by omega), hl (n - 1) (by omega) (by omega)] at c2
      exact c2 rfl
  · by_cases c3 : n = m + 1
    · exfalso
      have e2 : y.toInt = (m : Int) := by omega
      rw [atv_at e2 (by omega)] at c2
      exact h1 c2
    · omega
end SLV
