/-! how the words' heights go on -/
def EV (σ s : St) : Prop := (σ 0 49).toInt ≤ (s 0 49).toInt ∧ (s 0 55) = (σ 0 55) ∧ ∀ n h h', CO σ n h h' → CO s n h h'
section TYS
variable {σ s s' τ t : St} {vs z : List Nat} {g g' : Gh} {X X' : Nat → Prop} {E0 H L : Nat}
theorem ev_rf : EV σ σ := ⟨Int.le_refl _, rfl, fun _ _ _ h => h⟩
theorem ev_tr (h : EV σ s) (g : EV s s') : EV σ s' := ⟨Int.le_trans h.1 g.1, g.2.1.trans h.2.1, fun _ _ _ q => g.2.2 _ _ _ (h.2.2 _ _ _ q)⟩
theorem okc_mono {q h k : Nat} (he : EV σ s) (hw : (s 8) q = (σ 8) q) (hw1 : (∀ p, q + 1 < p → g p = none) ∨ (s 8) (q + 1) = (σ 8) (q + 1)) (hg : ∀ q v, g q = some v → g' q = some v) (h9 : OKc σ g q h k) : OKc s g' q h k := by
  obtain ⟨h1, h2⟩ := h9
  refine ⟨by rw [hw]; exact h1, ?_⟩
  rw [hw]
  refine opn_mono hg ?_ he.1 (by rw [he.2.1]) he.2.2 h2
  exact hw1.imp id (fun e => by rw [e])
theorem ev_ke (k : KE σ s) (m : MOn σ s) : EV σ s := by
  have f1 : (s 0 35) = (σ 0 35) := k _ _ rfl rfl
  have f2 : (s 0 36) = (σ 0 36) := k _ _ rfl rfl
  have f4 : (s 0 49) = (σ 0 49) := k _ _ rfl rfl
  have e22 : (s 22) = (σ 22) := funext (fun j => k 22 j rfl rfl)
  have e15 : (s 15) = (σ 15) := funext (fun j => k 15 j rfl rfl)
  have e10 : (s 10) = (σ 10) := funext (fun j => k 10 j rfl rfl)
  have e9 : (s 9) = (σ 9) := funext (fun j => k 9 j rfl rfl)
  have eF : Fi s = Fi σ := by unfold Fi; rw [f1, e22]
  refine ⟨by rw [f4]; exact Int.le_refl _, k _ _ rfl rfl, fun n h h' ⟨c1, c2, e, c3, c4, c5, c6, c7, c8⟩ => ⟨c1, by rw [eF, f2]; exact c2, e, by rw [eF]; exact c3, by rw [e9]; exact c4, m.1 _ c5, m.2 _ c6, by rw [e15]; exact c7, by rw [e15, e10]; exact c8⟩⟩
/-- nothing put -/
theorem ty_same (h : TY σ g X E0 H L) (h0 : 0 ≤ (σ 0 17).toInt) (hw : (s 0 17) = (σ 0 17)) (hr : RW σ s) (he : EV σ s) : TY s g X E0 H L := by
  have en : wcn s = wcn σ := by unfold wcn; rw [hw]
  have e0 : (wcn σ : Int) = (σ 0 17).toInt := nt h0
  obtain ⟨h1, h2, h3, h4, h5⟩ := h
  refine ⟨by rw [en]; exact h1, by rw [en]; exact h2, by rw [en]; exact h3, h4, fun q h k hq hlt hx => ?_⟩
  rw [en] at hlt
  refine okc_mono he (hr q (by omega)) ?_ (fun _ _ h => h) (h5 q h k hq hlt hx)
  by_cases q2 : q + 1 < wcn σ
  · exact Or.inr (hr _ (by omega))
  · exact Or.inl (fun p hp => h3 p (by omega))
theorem ty_ext (h : TY σ g X E0 H L) (h0 : 0 ≤ (σ 0 17).toInt) {n H' : Nat} (hn : 0 < n) (hw : (s 0 17).toInt = (σ 0 17).toInt + n) (hr : RW σ s) (he : EV σ s) (hX : ∀ q, X q → X' q)
    (ho : ∀ g', (∀ q v, g q = some v → g' q = some v) → g' (wcn σ) = some (H, L) → g' (wcn σ + n) = some (H', L) → ¬ X' (wcn σ) → OKc s g' (wcn σ) H L) :
    ∃ g', TY s g' X' E0 H' L ∧ Ext g g' (wcn σ) ∧ ∀ q, wcn σ < q → q < wcn σ + n → g' q = none := by
  have e0 : (wcn σ : Int) = (σ 0 17).toInt := nt h0
  have e1 : (wcn s : Int) = (s 0 17).toInt := nt (by omega)
  have en : wcn s = wcn σ + n := by omega
  obtain ⟨h1, h2, h3, h4, h5⟩ := h
  have hg : ∀ q v, g q = some v → (fun q => if q = wcn σ + n then some (H', L) else g q : Gh) q = some v := fun q v hv => by
    show (if q = wcn σ + n then _ else _) = _
    rw [if_neg, hv]
    intro e
    rw [h3 q (by omega)] at hv
    cases hv
  refine ⟨fun q => if q = wcn σ + n then some (H', L) else g q, ⟨by omega, by rw [en]; exact if_pos rfl, fun q hq => ?_, fun q hq => ?_, fun q h k hq hlt hx => ?_⟩, fun q hq => if_neg (by omega), fun q q1 q2 => ?_⟩
  · show (if q = wcn σ + n then _ else _) = _
    rw [if_neg (by omega)]
    exact h3 q (by omega)
  · show (if q = wcn σ + n then _ else _) = _
    rw [if_neg (by omega)]
    exact h4 q hq
  · have hq' : g q = some (h, k) := by
      have hq9 : (if q = wcn σ + n then some (H', L) else g q) = some (h, k) := hq
      rw [if_neg (by omega)] at hq9
      exact hq9
    by_cases q2 : q = wcn σ
    · subst q2
      rw [h2] at hq'
      cases hq'
      exact ho _ hg (hg _ _ h2) (if_pos rfl) hx
    · have q3 : q < wcn σ := by
        by_cases q4 : q < wcn σ
        · exact q4
        · rw [h3 q (by omega)] at hq'
          cases hq'
      refine okc_mono he (hr q (by omega)) ?_ hg (h5 q h k hq' q3 (fun z => hx (hX _ z)))
      by_cases q4 : q + 1 < wcn σ
      · exact Or.inr (hr _ (by omega))
      · exact Or.inl (fun p hp => h3 p (by omega))
  · show (if q = wcn σ + n then _ else _) = _
    rw [if_neg (by omega)]
    exact h3 q q1
/-- from so many values on the stack to so many -/
def TE (σ s : St) (N a b : Nat) : Prop := ∀ g X E0 H L, TY σ g X E0 (H + a) L → H + N ≤ 546 → (s 0 12).toInt = 0 → (s 0 15).toInt = 0 → ∃ g', TY s g' X E0 (H + b) L ∧ Ext g g' (wcn σ)
theorem te_rf {N a : Nat} : TE σ σ N a a := fun g _ _ _ _ h _ _ _ => ⟨g, h, ext_rf⟩
theorem te_up {N M a b c : Nat} (h : TE σ s N a b) (hM : N + c ≤ M) : TE σ s M (c + a) (c + b) := fun g X E0 H L hT hH hf hs => by
  obtain ⟨g', h1, h2⟩ := h g X E0 (H + c) L (by rw [Nat.add_assoc]; exact hT) (by omega) hf hs
  exact ⟨g', by rw [Nat.add_assoc] at h1; exact h1, h2⟩
theorem te_le {N M a b : Nat} (h : TE σ s N a b) (hM : N ≤ M) : TE σ s M a b := fun g X E0 H L hT hH hf hs => h g X E0 H L hT (by omega) hf hs
theorem te_tr {N a b c : Nat} (h : TE σ s N a b) (h2 : TE s s' N b c) (hw : wcn σ ≤ wcn s) (hf : OF s s') (hs : (s' 0 15) = (s 0 15)) : TE σ s' N a c := fun g X E0 H L hT hH hf' hs' => by
  obtain ⟨g1, h3, h4⟩ := h g X E0 H L hT hH (of0 hf hf') (by rw [← hs]; exact hs')
  obtain ⟨g2, h5, h6⟩ := h2 g1 X E0 H L h3 hH hf' hs'
  exact ⟨g2, h5, ext_tr h4 h6 hw⟩
theorem te_same {N a : Nat} (h0 : 0 ≤ (σ 0 17).toInt) (hw : (s 0 17) = (σ 0 17)) (hr : RW σ s) (he : EV σ s) : TE σ s N a a := fun g _ _ _ _ h _ _ _ => ⟨g, ty_same h h0 hw hr he, ext_rf⟩
theorem te_no {N a b : Nat} (h : (s 0 12).toInt = 0 → (s 0 15).toInt = 0 → False) : TE σ s N a b := fun _ _ _ _ _ _ _ h1 h2 => (h h1 h2).elim
theorem ev_pu {ws : List Int32} (p : PU σ s ws) : EV σ s := ev_ke (kp_sub p.1 rfl rfl) (by
  have e5 : (s 21) = (σ 21) := funext (fun j => p.1 21 j rfl rfl)
  have e7 : (s 14) = (σ 14) := funext (fun j => p.1 14 j rfl rfl)
  exact ⟨fun e q => by rw [e7]; exact q, fun n q => by rw [e5]; exact q⟩)
theorem te_put {ws : List Int32} {op : Int32} {n k N a b : Nat} (h0 : 0 ≤ (σ 0 17).toInt) (p : PU σ s ws) (hn : ws.length = n) (hn0 : 0 < n) (hop : ws[0]? = some op) (hk : op.toInt = k)
    (ho : ∀ (g' : Gh) (H L : Nat) (x : Int), H + N ≤ 546 → Nx g' L (wcn σ) (wcn σ + n) (H + b) → (∀ v, ws[1]? = some v → x = v.toInt) → OPn k x g' (s 0 49).toInt ((s 0 55) ≠ 0) (CO s) (wcn σ) (H + a) L) (hb : b ≤ N) : TE σ s N a b := fun g X E0 H L hT hH hf hs => by
  have e1 : (s 8) (wcn σ) = op := p.2.2.2 0 op hop
  obtain ⟨g', h1, h2, -⟩ := ty_ext (X' := X) (H' := H + b) hT h0 hn0 (by rw [p.2.1, hn]) p.2.2.1 (ev_pu p) (fun _ h => h) (fun g' hg c1 c2 hx => by
    have e3 : op.toInt.toNat = k := by omega
    refine ⟨by rw [e1]; omega, ?_⟩
    rw [e1, e3]
    exact ho g' H L _ hH ⟨by omega, L, c2, Or.inr ⟨rfl, by omega⟩⟩ (fun v hv => by rw [p.2.2.2 1 v hv]))
  exact ⟨g', h1, h2⟩
/-- a jump whose aim is open -/
theorem ty_hole {ws : List Int32} {H' : Nat} (h : TY σ g X E0 H L) (h0 : 0 ≤ (σ 0 17).toInt) (p : PU σ s ws) (hn : ws.length = 2) :
    ∃ g', TY s g' (fun q => X q ∨ q = wcn σ) E0 H' L ∧ Ext g g' (wcn σ) ∧ g' (wcn σ) = some (H, L) ∧ g' (wcn σ + 1) = none := by
  obtain ⟨g', h1, h2, h3⟩ := ty_ext (X' := fun q => X q ∨ q = wcn σ) (H' := H') h h0 (by decide : 0 < 2) (by rw [p.2.1, hn]) p.2.2.1 (ev_pu p) (fun _ h => Or.inl h) (fun g' hg c1 c2 hx => absurd (Or.inr rfl) hx)
  refine ⟨g', h1, h2, ?_, h3 _ (by omega) (by omega)⟩
  rw [h2 _ (Nat.le_refl _)]
  exact h.2.1
/-- it is aimed -/
theorem ty_aim {p : Nat} {v : Int32} (h : TY σ g (fun q => X q ∨ q = p) E0 H L) (h0 : 0 ≤ (σ 0 17).toInt) (hp : p + 2 ≤ wcn σ) (hp1 : g (p + 1) = none) (ho : ∀ h k, g p = some (h, k) → OKc (upC σ 8 (p + 1) v) g p h k) : TY (upC σ 8 (p + 1) v) g X E0 H L := by
  obtain ⟨h1, h2, h3, h4, h5⟩ := h
  refine ⟨h1, h2, h3, h4, fun q h k hq hlt hx => ?_⟩
  by_cases q1 : q = p
  · subst q1
    exact ho h k hq
  · have q2 : q ≠ p + 1 := fun e => by
      rw [e, hp1] at hq
      cases hq
    refine okc_mono (σ := σ) ⟨Int.le_refl _, rfl, fun _ _ _ h => h⟩ (rdA_ne q2) (Or.inr (rdA_ne (by omega))) (fun _ _ h => h) (h5 q h k hq hlt (fun z => z.elim hx q1))
end TYS
