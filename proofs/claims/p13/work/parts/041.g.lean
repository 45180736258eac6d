section
/-! how the words' heights go on -/
def EV (σ s : St) : Prop := (σ 0 49).toInt ≤ (s 0 49).toInt ∧ (s 0 55) = (σ 0 55) ∧ ∀ n h h', CO σ n h h' → CO s n h h'
section TYS
variable {σ s s' τ t : St} {vs z : List Nat} {g g' : Gh} {X X' : Nat → Prop} {E0 H L : Nat}
theorem ev_rf : EV σ σ := ⟨Int.le_refl _, rfl, fun _ _ _ h => h⟩
theorem ev_tr (h : EV σ s) (g : EV s s') : EV σ s' := ⟨Int.le_trans h.1 g.1, g.2.1.trans h.2.1, fun _ _ _ q => g.2.2 _ _ _ (h.2.2 _ _ _ q)⟩
theorem okc_mono {q h k : Nat} (he : EV σ s) (hw : (s 8) q = (σ 8) q) (hw1 : (∀ p, q + 1 < p → g p = none) ∨ (s 8) (q + 1) = (σ 8) (q + 1)) (hg : ∀ q v, g q = some v → g' q = some v) (h9 : OKc σ g q h k) : OKc s g' q h k := by
  obtain ⟨h1, h2⟩ := h9
  refine ⟨by rw [hw]; exact h1, ?_⟩
  rw [hw]
  refine opn_mono hg ?_ he.1 (by rw [he.2.1]) he.2.2 h2
  exact hw1.imp id (fun e => by rw [e])
theorem ev_ke (k : KE σ s) (m : MOn σ s) : EV σ s := by
  have f1 : (s 0 35) = (σ 0 35) := k _ _ rfl rfl
  have f2 : (s 0 36) = (σ 0 36) := k _ _ rfl rfl
  have f4 : (s 0 49) = (σ 0 49) := k _ _ rfl rfl
  have e22 : (s 22) = (σ 22) := funext (fun j => k 22 j rfl rfl)
  have e15 : (s 15) = (σ 15) := funext (fun j => k 15 j rfl rfl)
  have e10 : (s 10) = (σ 10) := funext (fun j => k 10 j rfl rfl)
  have e9 : (s 9) = (σ 9) := funext (fun j => k 9 j rfl rfl)
  have eF : Fi s = Fi σ := by unfold Fi; rw [f1, e22]
  refine ⟨by rw [f4]; exact Int.le_refl _, k _ _ rfl rfl, fun n h h' ⟨c1, c2, e, c3, c4, c5, c6, c7, c8⟩ => ⟨c1, by rw [eF, f2]; exact c2, e, by rw [eF]; exact c3, by rw [e9]; exact c4, m.1 _ c5, m.2 _ c6, by rw [e15]; exact c7, by rw [e15, e10]; exact c8⟩⟩
/-- nothing put -/
theorem ty_same (h : TY σ g X E0 H L) (h0 : 0 ≤ (σ 0 17).toInt) (hw : (s 0 17) = (σ 0 17)) (hr : RW σ s) (he : EV σ s) : TY s g X E0 H L := by
  have en : wcn s = wcn σ := by unfold wcn; rw [hw]
  have e0 : (wcn σ : Int) = (σ 0 17).toInt := nt h0
  obtain ⟨h1, h2, h3, h4, h5⟩ := h
  refine ⟨by rw [en]; exact h1, by rw [en]; exact h2, by rw [en]; exact h3, h4, fun q h k hq hlt hx => ?_⟩
  rw [en] at hlt
  refine okc_mono he (hr q (by omega)) ?_ (fun _ _ h => h) (h5 q h k hq hlt hx)
  by_cases q2 : q + 1 < wcn σ
  · exact Or.inr (hr _ (by omega))
  · exact Or.inl (fun p hp => h3 p (by omega))
theorem ty_ext (h : TY σ g X E0 H L) (h0 : 0 ≤ (σ 0 17).toInt) {n H' : Nat} (hn : 0 < n) (hw : (s 0 17).toInt = (σ 0 17).toInt + n) (hr : RW σ s) (he : EV σ s) (hX : ∀ q, X q → X' q)
    (ho : ∀ g', (∀ q v, g q = some v → g' q = some v) → g' (wcn σ) = some (H, L) → g' (wcn σ + n) = some (H', L) → ¬ X' (wcn σ) → OKc s g' (wcn σ) H L) :
    ∃ g', TY s g' X' E0 H' L ∧ Ext g g' (wcn σ) ∧ ∀ q, wcn σ < q → q < wcn σ + n → g' q = none := by
  have e0 : (wcn σ : Int) = (σ 0 17).toInt := nt h0
  have e1 : (wcn s : Int) = (s 0 17).toInt := nt (by omega)
  have en : wcn s = wcn σ + n := by omega
  obtain ⟨h1, h2, h3, h4, h5⟩ := h
  have hg : ∀ q v, g q = some v → (fun q => if q = wcn σ + n then some (H', L) else g q : Gh) q = some v := fun q v hv => by
    show (if q = wcn σ + n then _ else _) = _
    rw [if_neg, hv]
    intro e
    rw [h3 q (by omega)] at hv
    cases hv
  refine ⟨fun q => if q = wcn σ + n then some (H', L) else g q, ⟨by omega, by rw [en]; exact if_pos rfl, fun q hq => ?_, fun q hq => ?_, fun q h k hq hlt hx => ?_⟩, fun q hq => if_neg (by omega), fun q q1 q2 => ?_⟩
  · show (if q = wcn σ + n then _ else _) = _
    rw [if_neg (by omega)]
    exact h3 q (by omega)
  · show (if q = wcn σ + n then _ else _) = _
    rw [if_neg (by omega)]
    exact h4 q hq
  · have hq' : g q = some (h, k) := by
      have hq9 : (if q = wcn σ + n then some (H', L) else g q) = some (h, k) := hq
      rw [if_neg (by omega)] at hq9
      exact hq9
    by_cases q2 : q = wcn σ
    · subst q2
      rw [h2] at hq'
      cases hq'
      exact ho _ hg (hg _ _ h2) (if_pos rfl) hx
    · have q3 : q < wcn σ := by
        by_cases q4 : q < wcn σ
        · exact q4
        · rw [h3 q (by omega)] at hq'
          cases hq'
      refine okc_mono he (hr q (by omega)) ?_ hg (h5 q h k hq' q3 (fun z => hx (hX _ z)))
      by_cases q4 : q + 1 < wcn σ
      · exact Or.inr (hr _ (by omega))
      · exact Or.inl (fun p hp => h3 p (by omega))
  · show (if q = wcn σ + n then _ else _) = _
    rw [if_neg (by omega)]
    exact h3 q q1
/-- from so many values on the stack to so many -/
def TE (σ s : St) (N a b : Nat) : Prop := ∀ g X E0 H L, TY σ g X E0 (H + a) L → H + N ≤ 546 → (s 0 12).toInt = 0 → (s 0 15).toInt = 0 → ∃ g', TY s g' X E0 (H + b) L ∧ Ext g g' (wcn σ)
theorem te_rf {N a : Nat} : TE σ σ N a a := fun g _ _ _ _ h _ _ _ => ⟨g, h, ext_rf⟩
theorem te_up {N M a b c : Nat} (h : TE σ s N a b) (hM : N + c ≤ M) : TE σ s M (c + a) (c + b) := fun g X E0 H L hT hH hf hs => by
  obtain ⟨g', h1, h2⟩ := h g X E0 (H + c) L (by rw [Nat.add_assoc]; exact hT) (by omega) hf hs
  exact ⟨g', by rw [Nat.add_assoc] at h1; exact h1, h2⟩
theorem te_le {N M a b : Nat} (h : TE σ s N a b) (hM : N ≤ M) : TE σ s M a b := fun g X E0 H L hT hH hf hs => h g X E0 H L hT (by omega) hf hs
theorem te_tr {N a b c : Nat} (h : TE σ s N a b) (h2 : TE s s' N b c) (hw : wcn σ ≤ wcn s) (hf : OF s s') (hs : (s' 0 15) = (s 0 15)) : TE σ s' N a c := fun g X E0 H L hT hH hf' hs' => by
  obtain ⟨g1, h3, h4⟩ := h g X E0 H L hT hH (of0 hf hf') (by rw [← hs]; exact hs')
  obtain ⟨g2, h5, h6⟩ := h2 g1 X E0 H L h3 hH hf' hs'
  exact ⟨g2, h5, ext_tr h4 h6 hw⟩
theorem te_same {N a : Nat} (h0 : 0 ≤ (σ 0 17).toInt) (hw : (s 0 17) = (σ 0 17)) (hr : RW σ s) (he : EV σ s) : TE σ s N a a := fun g _ _ _ _ h _ _ _ => ⟨g, ty_same h h0 hw hr he, ext_rf⟩
theorem te_no {N a b : Nat} (h : (s 0 12).toInt = 0 → (s 0 15).toInt = 0 → False) : TE σ s N a b := fun _ _ _ _ _ _ _ h1 h2 => (h h1 h2).elim
theorem ev_pu {ws : List Int32} (p : PU σ s ws) : EV σ s := ev_ke (kp_sub p.1 rfl rfl) (by
  have e5 : (s 21) = (σ 21) := funext (fun j => p.1 21 j rfl rfl)
  have e7 : (s 14) = (σ 14) := funext (fun j => p.1 14 j rfl rfl)
  exact ⟨fun e q => by rw [e7]; exact q, fun n q => by rw [e5]; exact q⟩)
theorem te_put {ws : List Int32} {op : Int32} {n k N a b : Nat} (h0 : 0 ≤ (σ 0 17).toInt) (p : PU σ s ws) (hn : ws.length = n) (hn0 : 0 < n) (hop : ws[0]? = some op) (hk : op.toInt = k)
    (ho : ∀ (g' : Gh) (H L : Nat) (x : Int), H + N ≤ 546 → Nx g' L (wcn σ) (wcn σ + n) (H + b) → (∀ v, ws[1]? = some v → x = v.toInt) → OPn k x g' (s 0 49).toInt ((s 0 55) ≠ 0) (CO s) (wcn σ) (H + a) L) (hb : b ≤ N) : TE σ s N a b := fun g X E0 H L hT hH hf hs => by
  have e1 : (s 8) (wcn σ) = op := p.2.2.2 0 op hop
  obtain ⟨g', h1, h2, -⟩ := ty_ext (X' := X) (H' := H + b) hT h0 hn0 (by rw [p.2.1, hn]) p.2.2.1 (ev_pu p) (fun _ h => h) (fun g' hg c1 c2 hx => by
    have e3 : op.toInt.toNat = k := by omega
    refine ⟨by rw [e1]; omega, ?_⟩
    rw [e1, e3]
    exact ho g' H L _ hH ⟨by omega, L, c2, Or.inr ⟨rfl, by omega⟩⟩ (fun v hv => by rw [p.2.2.2 1 v hv]))
  exact ⟨g', h1, h2⟩
/-- a jump whose aim is open -/
theorem ty_hole {ws : List Int32} {H' : Nat} (h : TY σ g X E0 H L) (h0 : 0 ≤ (σ 0 17).toInt) (p : PU σ s ws) (hn : ws.length = 2) :
    ∃ g', TY s g' (fun q => X q ∨ q = wcn σ) E0 H' L ∧ Ext g g' (wcn σ) ∧ g' (wcn σ) = some (H, L) ∧ g' (wcn σ + 1) = none := by
  obtain ⟨g', h1, h2, h3⟩ := ty_ext (X' := fun q => X q ∨ q = wcn σ) (H' := H') h h0 (by decide : 0 < 2) (by rw [p.2.1, hn]) p.2.2.1 (ev_pu p) (fun _ h => Or.inl h) (fun g' hg c1 c2 hx => absurd (Or.inr rfl) hx)
  refine ⟨g', h1, h2, ?_, h3 _ (by omega) (by omega)⟩
  rw [h2 _ (Nat.le_refl _)]
  exact h.2.1
/-- it is aimed -/
theorem ty_aim {p : Nat} {v : Int32} (h : TY σ g (fun q => X q ∨ q = p) E0 H L) (h0 : 0 ≤ (σ 0 17).toInt) (hp : p + 2 ≤ wcn σ) (hp1 : g (p + 1) = none) (ho : ∀ h k, g p = some (h, k) → OKc (upC σ 8 (p + 1) v) g p h k) : TY (upC σ 8 (p + 1) v) g X E0 H L := by
  obtain ⟨h1, h2, h3, h4, h5⟩ := h
  refine ⟨h1, h2, h3, h4, fun q h k hq hlt hx => ?_⟩
  by_cases q1 : q = p
  · subst q1
    exact ho h k hq
  · have q2 : q ≠ p + 1 := fun e => by
      rw [e, hp1] at hq
      cases hq
    refine okc_mono (σ := σ) ⟨Int.le_refl _, rfl, fun _ _ _ h => h⟩ (rdA_ne q2) (Or.inr (rdA_ne (by omega))) (fun _ _ h => h) (h5 q h k hq hlt (fun z => z.elim hx q1))
end TYS
end

section
/-! values, faults, reading a value -/
section PRIM
variable {σ τ : St} {vs : List Nat}
/-- what telling may change -/
def TL (σ s : St) : Prop := Kp [(0, 12), (0, 13)] [] σ s ∧ OF σ s
theorem tl_rf : TL σ σ := ⟨kp_rf, of_rf⟩
theorem tl_tr {s s' : St} (h : TL σ s) (g : TL s s') : TL σ s' := ⟨kp_tr h.1 g.1, of_tr h.2 g.2⟩
theorem sp_tell {n tk : Int32} {Q : St → St → List Nat → Prop} (hn : 0 < n.toInt ∧ n.toInt ≤ 4) (ht : 0 ≤ tk.toInt ∧ tk.toInt < 16002) (k : ∀ s, TL σ s → ((s 0 12).toInt = 0 → (s 0 15).toInt = 0 → False) → Q s τ vs) : wp_tell n tk σ τ vs Q := by
  unfold wp_tell
  refine ⟨fun c => k σ tl_rf (fun q _ => by omega), fun c => ⟨fun c2 => ⟨ht, k _ ⟨kp_f (kp_f kp_rf rfl) rfl, Or.inr ?_⟩ (fun q _ => ?_)⟩, fun c2 => k σ tl_rf (fun _ q => by omega)⟩⟩
  · show 1 ≤ n.toInt ∧ n.toInt ≤ 4
    omega
  · have q2 : n.toInt = 0 := q
    omega
theorem sp_must {y tk : Int32} {Q : St → St → List Nat → Prop} (ht : 0 ≤ tk.toInt ∧ tk.toInt < 16002) (k : ∀ s, TL σ s → ((s 0 12).toInt = 0 → (s 0 15).toInt = 0 → y.toInt ≠ 0) → Q s τ vs) : wp_must y tk σ τ vs Q := by
  unfold wp_must
  exact ⟨fun c => k σ tl_rf (fun _ _ => c), fun _ => sp_tell (by decide) ht (fun s h1 h2 => k s h1 (fun q1 q2 => (h2 q1 q2).elim))⟩
theorem rl_tl {s t : St} {z : List Nat} (h : PA σ τ) (p : TL σ s) (hv : VOK t) (hz : ∀ u ∈ vs, u ∈ z) (hl : vs.length ≤ z.length) : RL σ vs s t z := by
  have h9 := h
  obtain ⟨h1, h2, ⟨n1, n2, n3, n4, n5, n6, n7⟩, ⟨a1, a2, a3, a4, a5, a6, a7, a8, a9, b1, b2, b3⟩, h5⟩ := h9
  obtain ⟨p1, p2⟩ := p
  have k : KE σ s := kp_sub p1 rfl rfl
  have e1 : (s 0 10) = (σ 0 10) := p1 _ _ rfl rfl
  have e2 : (s 0 8) = (σ 0 8) := p1 _ _ rfl rfl
  have e3 : (s 0 37) = (σ 0 37) := p1 _ _ rfl rfl
  have e4 : (s 0 39) = (σ 0 39) := p1 _ _ rfl rfl
  have e8 : (s 0 17) = (σ 0 17) := p1 _ _ rfl rfl
  have e5 : (s 21) = (σ 21) := funext (fun j => p1 21 j rfl rfl)
  have e6 : (s 3) = (σ 3) := funext (fun j => p1 3 j rfl rfl)
  have e7 : (s 14) = (σ 14) := funext (fun j => p1 14 j rfl rfl)
  refine ⟨k, pa_ke h k (by unfold AtOK; rw [e1, e2]; exact h2) (by rw [e3]; exact n4) (by rw [e8]; exact n5) (by rw [e4]; exact n6) (by rw [e5]; exact a3) hv, fun j _ => p1 8 j rfl rfl, ⟨fun e q => by rw [e7]; exact q, fun n q => by rw [e5]; exact q⟩, p2, by rw [e8]; exact Int.le_refl _, by rw [e4]; exact Int.le_refl _, ?_, hz, hl, ie_of (funext (fun j => p1 25 j rfl rfl)) e4 e3⟩
  unfold pos
  rw [e1, e6]
  exact Int.le_refl _
theorem tl_te {s : St} {N a : Nat} (h : PA σ τ) (p : TL σ s) : TE σ s N a a := by
  obtain ⟨k, -, hr, hm, -⟩ := rl_tl (vs := []) (z := []) h p h.2.2.2.2 (fun _ h => h) (Nat.le_refl _)
  exact te_same h.2.2.1.2.2.2.2.1 (p.1 _ _ rfl rfl) hr (ev_ke k hm)
/-- a new Value: the others stay -/
def VFr (τ : St) (vs : List Nat) (t : St) : Prop := ∀ u ∈ vs, t u = τ u
/-- a new Value of a type, in the stack -/
def NV (τ : St) (q : Nat) (ty hgt : Int32) (t : St) : Prop := (∀ u, u ≠ q → t u = τ u) ∧ t q = fun f => if f = 3 then hgt else if f = 0 then ty else 0
theorem nv_at {q : Nat} {ty hgt : Int32} {t : St} (h : NV τ q ty hgt t) : (t q 0) = ty ∧ (t q 1) = 0 ∧ (t q 2) = 0 ∧ (t q 3) = hgt ∧ (t q 4) = 0 ∧ (t q 8) = 0 ∧ (t q 6) = 0 ∧ (t q 5) = 0 := by
  rw [h.2]
  exact ⟨rfl, rfl, rfl, rfl, rfl, rfl, rfl, rfl⟩
theorem vok_nv {q : Nat} {ty hgt : Int32} {t : St} (h : VOK τ) (p : NV τ q ty hgt t) : VOK t := fun u => by
  by_cases e : u = q
  · subst e
    obtain ⟨e1, e2, e3, e4, e5, e6, e7, e8⟩ := nv_at p
    rw [e2, e3, e5, e6, e8]
    refine ⟨by decide, by decide, by decide, by decide, fun c => absurd rfl c, fun c => absurd rfl c⟩
  · rw [p.1 u e]
    exact h u
theorem vfr_nv {q : Nat} {ty hgt : Int32} {t : St} (hq : q ∉ vs) (p : NV τ q ty hgt t) : VFr τ vs t := fun u hu => p.1 u (fun e => hq (e ▸ hu))
theorem sp_Vinit {q : Nat} {ty : Int32} {z : List Nat} {Q : St → St → List Nat → Prop} (k : ∀ t, NV τ q ty 1 t → Q σ t (z ++ [q])) : wp_Vinit q ty σ (upF τ q (fun _ => 0)) (z ++ [q]) Q := by
  unfold wp_Vinit
  refine ⟨by simp, k _ ⟨fun u hu => ?_, ?_⟩⟩
  · show upF (upF (upF τ q _) q _) q _ u = _
    rw [upF_ne hu, upF_ne hu, upF_ne hu]
  · funext f
    show upC (upC (upF τ q (fun _ => 0)) q 3 1) q 0 ty q f = _
    rw [rdA, rdA]
    by_cases c0 : f = 0
    · subst c0; rfl
    · rw [if_neg c0]
      by_cases c3 : f = 3
      · rw [if_pos c3, if_pos c3]
      · rw [if_neg c3, if_neg c3, if_neg c0]
        show upF τ q _ q f = 0
        rw [upF_same]
theorem sp_isPointer {u : Nat} {Q : Int32 → Prop} (hu : u ∈ vs) (h1 : 0 < (τ u 0).toInt → Q 1) (h0 : (τ u 0).toInt ≤ 0 → Q 0) : wp_isPointer u σ τ vs Q := by
  unfold wp_isPointer
  exact ⟨hu, h0, h1⟩
theorem sp_isInt {u : Nat} {Q : Int32 → Prop} (hu : u ∈ vs) (h1 : (τ u 0).toInt = 0 → Q 1) (h0 : (τ u 0).toInt ≠ 0 → Q 0) : wp_isInt u σ τ vs Q := by
  unfold wp_isInt
  exact ⟨hu, by first | exact ⟨h0, h1⟩ | exact ⟨h1, h0⟩⟩
theorem sp_isAny {u : Nat} {Q : Int32 → Prop} (hu : u ∈ vs) (h1 : 0 ≤ (τ u 0).toInt → Q 1) (h0 : (τ u 0).toInt < 0 → Q 0) : wp_isAny u σ τ vs Q := by
  unfold wp_isAny
  exact ⟨hu, by first | exact ⟨h0, h1⟩ | exact ⟨h1, h0⟩⟩
theorem sp_fits {u : Nat} {ty : Int32} {Q : Int32 → Prop} (hu : u ∈ vs) (h1 : ((τ u 0).toInt = ty.toInt ∨ (0 < ty.toInt ∧ (τ u 5).toInt ≠ 0)) → Q 1) (h0 : Q 0) : wp_fits u ty σ τ vs Q := by
  unfold wp_fits
  exact ⟨hu, fun c => h1 (Or.inl c), fun _ => ⟨fun _ => h0, fun c2 => ⟨fun _ => h0, fun c3 => h1 (Or.inr ⟨c2, c3⟩)⟩⟩⟩
theorem sp_Vconstant {u : Nat} {v : Int32} {Q : Nat → St → St → List Nat → Prop} (hu : u ∈ vs) (k : Q u σ (upC (upC τ u 6 (1 : Int32)) u 7 v) vs) : wp_Vconstant u v σ τ vs Q := by
  unfold wp_Vconstant
  exact ⟨hu, k⟩
theorem sp_Vaddress {u : Nat} {b v : Int32} {Q : Nat → St → St → List Nat → Prop} (hu : u ∈ vs) (k : Q u σ (upC (upC (upC τ u 6 (2 : Int32)) u 8 b) u 7 v) vs) : wp_Vaddress u b v σ τ vs Q := by
  unfold wp_Vaddress
  exact ⟨hu, k⟩
/-- how many values it has on the stack -/
def ev (t : St) (u : Nat) : Nat := if (t u 1).toInt = 1 ∨ (t u 1).toInt = 2 then 0 else if (t u 0).toInt = -1 then 0 else 1
theorem ev_1 {t : St} {u : Nat} (h : (t u 1).toInt = 0 ∨ (t u 1).toInt = 3) (h2 : (t u 0).toInt ≠ -1) : ev t u = 1 := by
  unfold ev
  rw [if_neg (by omega), if_neg h2]
theorem ev_le {t : St} {u : Nat} : ev t u ≤ 1 := by
  unfold ev
  split <;> try omega
  split <;> omega
/-- a value that an operator makes -/
theorem sp_made {ty tk : Int32} {a b : Nat} {Q : Nat → St → St → List Nat → Prop} (ha : a ∈ vs) (hb : b ∈ vs) (hc : vs.length < CAP) (ht : 0 ≤ tk.toInt ∧ tk.toInt < 16002) (k : ∀ q s t hgt, q ∉ vs → NV τ q ty hgt t → TL σ s → Q q s t (vs ++ [q])) : wp_made ty a b tk σ τ vs Q := by
  unfold wp_made
  refine ⟨hc, fun q hq => sp_Vinit (fun t ht' => ⟨by simp [ha], by simp [hb], by simp, ?_⟩)⟩
  have e : ∀ hgt, NV τ q ty hgt (upC t q 3 hgt) := fun hgt => by
    refine ⟨fun u hu => ?_, ?_⟩
    · show upF t q _ u = _
      rw [upF_ne hu, ht'.1 u hu]
    · funext f
      rw [rdA, ht'.2]
      by_cases c : f = 3
      · rw [if_pos c, if_pos c]
      · rw [if_neg c]
        show (if f = 3 then _ else _) = _
        rw [if_neg c, if_neg c]
  exact ⟨fun _ => k q _ _ _ hq (e _) tl_rf, fun _ => sp_tell (by decide) ht (fun s hs _ => k q s _ _ hq (e _) hs)⟩
end PRIM
end

section
/-! the value itself comes onto the stack -/
section READ
variable {σ τ : St} {vs : List Nat}
def RDx (σ τ : St) (u : Nat) (s : St) : Prop := ((τ u 1).toInt = 0 → s = σ) ∧ ((τ u 1).toInt = 1 → PU σ s [3, (τ u 2)]) ∧ ((τ u 1).toInt = 2 → ∃ l, PU σ s [1, (τ u 2), 5, l]) ∧ ((τ u 1).toInt = 3 → ∃ l, PU σ s [5, l])
theorem sp_read_0 {u : Nat} {Q : St → St → List Nat → Prop} (hu : u ∈ vs) (hv : VOK τ) (h0 : 0 ≤ (σ 0 17).toInt) (h1 : (σ 0 17).toInt ≤ 499000) (k : ∀ s, RDx σ τ u s → Q s (upC τ u 1 (0 : Int32)) vs) : wp_read_1 u σ τ vs Q := by
  obtain ⟨⟨v1, v2⟩, -, v3, -⟩ := hv u
  unfold wp_read_1
  refine ⟨hu, fun s t z => τ = t ∧ vs = z ∧ ((τ u 1).toInt ≠ 1 → s = σ) ∧ ((τ u 1).toInt = 1 → PU σ s [3, (τ u 2)]), ?_, fun c => ⟨rfl, rfl, fun _ => rfl, fun q => absurd q c⟩, fun c => sp_put_1 h0 (by omega) (fun s hs => ⟨rfl, rfl, fun q => absurd c q, fun _ => hs⟩)⟩
  rintro s t z ⟨rfl, rfl, g1, g2⟩
  have hw : 0 ≤ (s 0 17).toInt ∧ (s 0 17).toInt ≤ (σ 0 17).toInt + 2 := by
    by_cases c : (τ u 1).toInt = 1
    · have := (g2 c).2.1
      simp only [List.length_cons, List.length_nil] at this
      omega
    · rw [g1 c]; omega
  refine ⟨hu, fun s' t' z' => τ = t' ∧ vs = z' ∧ ((τ u 1).toInt ≠ 2 → s' = s) ∧ ((τ u 1).toInt = 2 → PU s s' [1, (τ u 2)]), ?_, fun c => ⟨rfl, rfl, fun _ => rfl, fun q => absurd q c⟩, fun c => sp_put_1 hw.1 (by omega) (fun s hs => ⟨rfl, rfl, fun q => absurd c q, fun _ => hs⟩)⟩
  rintro s' t' z' ⟨rfl, rfl, g3, g4⟩
  have hw2 : 0 ≤ (s' 0 17).toInt ∧ (s' 0 17).toInt ≤ (σ 0 17).toInt + 4 := by
    by_cases c : (τ u 1).toInt = 2
    · have := (g4 c).2.1
      simp only [List.length_cons, List.length_nil] at this
      omega
    · rw [g3 c]; omega
  refine ⟨hu, fun c => k _ ⟨fun q => ?_, fun q => ?_, fun q => absurd q (by omega), fun q => absurd q (by omega)⟩, fun c => ⟨⟨v3.1, by omega⟩, sp_put_1 hw2.1 (by omega) (fun s9 hs9 => ⟨hu, k _ ⟨fun q => absurd q (by omega), fun q => absurd q (by omega), fun q => ?_, fun q => ?_⟩⟩)⟩⟩
  · rw [g3 (by omega), g1 (by omega)]
  · rw [g3 (by omega)]; exact g2 q
  · have e := g1 (by omega)
    subst e
    exact ⟨_, pu_tr h0 (g4 q) hs9⟩
  · have e := g1 (by omega)
    subst e
    have e2 := g3 (by omega)
    subst e2
    exact ⟨_, hs9⟩
theorem vok_how {u : Nat} (h : VOK τ) : VOK (upC τ u 1 (0 : Int32)) := fun w => by
  by_cases e : w = u
  · subst e
    obtain ⟨h1, h2, h3, h4, h5, h6⟩ := h w
    refine ⟨?_, ?_, ?_, ?_, ?_, ?_⟩
    · rw [rdA, if_pos rfl]; decide
    · rw [rdA, if_neg (by decide)]; exact h2
    · rw [rdA, if_neg (by decide)]; exact h3
    · rw [rdA, if_neg (by decide)]; exact h4
    · rw [rdA, if_pos rfl]
      exact fun c => absurd rfl c
    · rw [rdA, if_neg (by decide), rdA, if_neg (by decide)]; exact h6
  · have e2 : upC τ u 1 (0 : Int32) w = τ w := by show upF τ u _ w = _; rw [upF_ne e]
    rw [e2]
    exact h w
theorem rd_rl {u : Nat} {s t : St} {z : List Nat} (h : PA σ τ) (p : RDx σ τ u s) (hv : VOK t) (hz : ∀ u ∈ vs, u ∈ z) (hl : vs.length ≤ z.length) : RL σ vs s t z ∧ (s 0 17).toInt ≤ (σ 0 17).toInt + 4 ∧ (s 0 39) = (σ 0 39) ∧ pos s = pos σ := by
  obtain ⟨⟨v1, v2⟩, -⟩ := h.2.2.2.2 u
  have key : ∀ ws : List Int32, ws.length ≤ 4 → PU σ s ws → RL σ vs s t z ∧ (s 0 17).toInt ≤ (σ 0 17).toInt + 4 ∧ (s 0 39) = (σ 0 39) ∧ pos s = pos σ := fun ws hw q => by
    have := q.2.1
    refine ⟨rl_pu h q hv hz hl, by omega, q.1 _ _ rfl rfl, ?_⟩
    have e1 : (s 0 10) = (σ 0 10) := q.1 _ _ rfl rfl
    have e6 : (s 3) = (σ 3) := funext (fun j => q.1 3 j rfl rfl)
    unfold pos
    rw [e1, e6]
  obtain ⟨p0, p1, p2, p3⟩ := p
  rcases (by omega : (τ u 1).toInt = 0 ∨ (τ u 1).toInt = 1 ∨ (τ u 1).toInt = 2 ∨ (τ u 1).toInt = 3) with c | c | c | c
  · have e := p0 c
    subst e
    refine ⟨⟨kp_rf, ⟨h.1, h.2.1, h.2.2.1, h.2.2.2.1, hv⟩, fun _ _ => rfl, mon_rf, of_rf, Int.le_refl _, Int.le_refl _, Int.le_refl _, hz, hl, ie_rf⟩, by omega, rfl, rfl⟩
  · exact key _ (Nat.le_of_ble_eq_true rfl) (p1 c)
  · obtain ⟨l, q⟩ := p2 c
    exact key _ (Nat.le_of_ble_eq_true rfl) q
  · obtain ⟨l, q⟩ := p3 c
    exact key _ (Nat.le_of_ble_eq_true rfl) q
theorem rd_te {u N : Nat} {s : St} (h : PA σ τ) (p : RDx σ τ u s) (hN : 1 ≤ N) (hl : (τ u 1).toInt = 1 → (τ u 2).toInt < (σ 0 49).toInt) : TE σ s N (ev τ u) (ev (upC τ u 1 (0 : Int32)) u) := by
  obtain ⟨⟨v1, v2⟩, ⟨v3, v4⟩, -, -, v5, -⟩ := h.2.2.2.2 u
  have h0 := h.2.2.1.2.2.2.2.1
  obtain ⟨p0, p1, p2, p3⟩ := p
  have ty : upC τ u 1 (0 : Int32) u 0 = (τ u 0) := by rw [rdA, if_neg (by decide)]
  have hw : upC τ u 1 (0 : Int32) u 1 = 0 := by rw [rdA, if_pos rfl]
  have e1 : (τ u 1).toInt ≠ 0 → ev (upC τ u 1 (0 : Int32)) u = 1 := fun c => ev_1 (Or.inl (by rw [hw]; rfl)) (by rw [ty]; exact v5 c)
  rcases (by omega : (τ u 1).toInt = 0 ∨ (τ u 1).toInt = 1 ∨ (τ u 1).toInt = 2 ∨ (τ u 1).toInt = 3) with c | c | c | c
  · have e := p0 c
    subst e
    have e2 : ev (upC τ u 1 (0 : Int32)) u = ev τ u := by
      unfold ev
      rw [ty, hw, c]
      rfl
    rw [e2]
    exact te_rf
  · have e2 : ev τ u = 0 := by unfold ev; rw [if_pos (Or.inl c)]
    rw [e1 (by omega), e2]
    refine te_put (n := 2) h0 (p1 c) rfl (by decide) rfl (k := 3) rfl (fun g' H L x hH hn hx => ?_) hN
    have e3 := hx _ rfl
    have e4 : (s 0 49) = (σ 0 49) := (p1 c).1 _ _ rfl rfl
    exact ⟨⟨by omega, by rw [e4]; have := hl c; omega⟩, hn⟩
  · have e2 : ev τ u = 0 := by unfold ev; rw [if_pos (Or.inr c)]
    rw [e1 (by omega), e2]
    obtain ⟨l, q⟩ := p2 c
    intro g X E0 H L hT hH hf hs
    -- two words of it, one behind the other
    have hq := q.2.2.2
    have hlen : (s 0 17).toInt = (σ 0 17).toInt + 4 := q.2.1
    have en : (wcn σ : Int) = (σ 0 17).toInt := nt h0
    have w0 : (s 8) (wcn σ) = 1 := hq 0 _ rfl
    have w1 : (s 8) (wcn σ + 1) = (τ u 2) := hq 1 _ rfl
    have w2 : (s 8) (wcn σ + 2) = 5 := hq 2 _ rfl
    let σ2 : St := upC s 0 17 ((σ 0 17) + 2)
    have f2 : (σ2 0 17).toInt = (σ 0 17).toInt + 2 := by
      show (upC s 0 17 ((σ 0 17) + 2) 0 17).toInt = _
      rw [rdA_eq rfl, adc (n := 2) (by decide) (by omega) (by have := q.2.1; have := s_rng (s 0 17); omega)]
    have k2 : Kp [(0, 17)] [8] σ σ2 := kp_f q.1 rfl
    have pu1 : PU σ σ2 [1, (τ u 2)] := ⟨k2, f2, q.2.2.1, fun i v hi => by
      match i, hi with
      | 0, hi => cases hi; exact w0
      | 1, hi => cases hi; exact w1⟩
    have en2 : wcn σ2 = wcn σ + 2 := by
      have : (wcn σ2 : Int) = (σ2 0 17).toInt := nt (by omega)
      omega
    have pu2 : PU σ2 s [5, l] := ⟨fun c k h1 h2 => by
        show s c k = upC s 0 17 _ c k
        by_cases e : c = 0
        · subst e
          rw [rdA_ne]
          rintro rfl
          cases h1
        · show _ = upF s 0 _ c k
          rw [upF_ne e], by show (s 0 17).toInt = (σ2 0 17).toInt + 2; omega, fun j _ => rfl, fun i v hi => by
      match i, hi with
      | 0, hi => cases hi; rw [en2]; exact w2
      | 1, hi => cases hi; rw [en2]; exact hq 3 _ rfl⟩
    have t1 : TE σ σ2 N 0 1 := te_put (n := 2) h0 pu1 rfl (by decide) rfl (k := 1) rfl (fun g' H L x hH hn hx => by
      have e3 := hx _ rfl
      exact ⟨⟨by omega, by omega⟩, hn⟩) hN
    have t2 : TE σ2 s N 1 1 := te_put (n := 2) (by omega) pu2 rfl (by decide) rfl (k := 5) rfl (fun g' H L x hH hn hx => ⟨by omega, hn⟩) hN
    exact te_tr t1 t2 (by omega) (Or.inl rfl) rfl g X E0 H L hT hH hf hs
  · have e2 : ev τ u = 1 := ev_1 (Or.inr c) (v5 (by omega))
    rw [e1 (by omega), e2]
    obtain ⟨l, q⟩ := p3 c
    exact te_put (n := 2) h0 q rfl (by decide) rfl (k := 5) rfl (fun g' H L x hH hn hx => ⟨by omega, hn⟩) hN
end READ
end

section
/-! looking names up -/
section LOOK
variable {σ τ : St} {vs : List Nat}
theorem sp_isSame {a b : Int32} {Q : Int32 → Prop} (h : TK σ) (ha : 0 ≤ a.toInt ∧ a.toInt < 16002) (hb : 0 ≤ b.toInt ∧ b.toInt < 16002) (h1 : Q 1) (h0 : Q 0) : wp_isSame a b σ τ vs Q := by
  obtain ⟨-, -, -, -, hf, ht, -⟩ := h
  have f1 := hf a.toNatClampNeg
  have f2 := hf b.toNatClampNeg
  have t1 := ht a.toNatClampNeg
  have t2 := ht b.toNatClampNeg
  have e1 : ((σ 4) a.toNatClampNeg - (σ 3) a.toNatClampNeg).toInt = ((σ 4) a.toNatClampNeg).toInt - ((σ 3) a.toNatClampNeg).toInt := sb (by omega) (by omega)
  have e2 : ((σ 4) b.toNatClampNeg - (σ 3) b.toNatClampNeg).toInt = ((σ 4) b.toNatClampNeg).toInt - ((σ 3) b.toNatClampNeg).toInt := sb (by omega) (by omega)
  unfold wp_isSame
  refine ⟨ha, ha, hb, hb, fun c => ⟨fun n x => (n : Int) = 16000 - x.toInt ∧ 0 ≤ x.toInt ∧ x.toInt ≤ 16000, ⟨16000, by decide⟩, fun n x ⟨q1, q2, q3⟩ => ⟨fun _ => h1, fun c2 => ?_⟩⟩, fun _ => h0⟩
  have e3 : ((σ 3) a.toNatClampNeg + x).toInt = ((σ 3) a.toNatClampNeg).toInt + x.toInt := ad (by omega) (by omega)
  have e4 : ((σ 3) b.toNatClampNeg + x).toInt = ((σ 3) b.toNatClampNeg).toInt + x.toInt := ad (by omega) (by omega)
  have e5 := ad1 (x := x) (by omega)
  exact ⟨ha, by omega, hb, by omega, fun _ => ⟨n - 1, by omega, by omega, by omega, by omega⟩, fun _ => h0⟩
theorem sp_isNamed {e b : Int32} {Q : Int32 → Prop} (h : TK σ) (hn : NMo σ) (he : 0 ≤ e.toInt ∧ e.toInt < 10000) (hb : 0 ≤ b.toInt ∧ b.toInt < 16002) (h1 : Q 1) (h0 : Q 0) : wp_isNamed e b σ τ vs Q := by
  obtain ⟨-, -, -, -, hf, ht, -⟩ := h
  have f2 := hf b.toNatClampNeg
  have t2 := ht b.toNatClampNeg
  obtain ⟨n1, n2, n3⟩ := hn e.toNatClampNeg
  have e2 : ((σ 4) b.toNatClampNeg - (σ 3) b.toNatClampNeg).toInt = ((σ 4) b.toNatClampNeg).toInt - ((σ 3) b.toNatClampNeg).toInt := sb (by omega) (by omega)
  unfold wp_isNamed
  refine ⟨hb, hb, he, fun c => ⟨fun n x => (n : Int) = 16000 - x.toInt ∧ 0 ≤ x.toInt ∧ x.toInt ≤ 16000, ⟨16000, by decide⟩, fun n x ⟨q1, q2, q3⟩ => ⟨fun _ => h1, fun c2 => ?_⟩⟩, fun _ => h0⟩
  have e3 : ((σ 18) e.toNatClampNeg + x).toInt = ((σ 18) e.toNatClampNeg).toInt + x.toInt := ad (by omega) (by omega)
  have e4 : ((σ 3) b.toNatClampNeg + x).toInt = ((σ 3) b.toNatClampNeg).toInt + x.toInt := ad (by omega) (by omega)
  have e5 := ad1 (x := x) (by omega)
  exact ⟨he, by omega, hb, by omega, fun _ => ⟨n - 1, by omega, by omega, by omega, by omega⟩, fun _ => h0⟩
theorem dn_step {x : Int32} {n : Nat} {h : Int} (q1 : (n : Int) = x.toInt + 1) (c : 0 ≤ x.toInt) (q3 : x.toInt < h) : n - 1 < n ∧ ((n - 1 : Nat) : Int) = (x + (-1)).toInt + 1 ∧ -1 ≤ (x + (-1)).toInt ∧ (x + (-1)).toInt < h := by
  have e2 := dc1 (x := x) (by omega)
  revert e2
  generalize (x + (-1)).toInt = y
  intro e2
  exact ⟨by omega, by omega, by omega, by omega⟩
theorem sp_local {b : Int32} {Q : Int32 → Prop} (h : PA σ τ) (hb : 0 ≤ b.toInt ∧ b.toInt < 16002) (k : ∀ r : Int32, -1 ≤ r.toInt → r.toInt < (σ 0 49).toInt → (0 ≤ r.toInt → r.toInt ≤ 99) → Q r) : wp_local b σ τ vs Q := by
  obtain ⟨hT, -, ⟨-, -, ⟨n1, n2, n3⟩, -⟩, ⟨a1, a2, -, -, -, -, -, -, a9, -⟩, -⟩ := h
  have e0 := sb1 (x := (σ 0 53)) (by omega)
  unfold wp_local
  refine ⟨fun n x => (n : Int) = x.toInt + 1 ∧ -1 ≤ x.toInt ∧ x.toInt < (σ 0 53).toInt, ⟨((σ 0 53).toInt).toNat, by omega, by omega, by omega⟩, fun n x ⟨q1, q2, q3⟩ => ⟨fun _ => k _ (by decide) (by show (-1 : Int) < _; omega) (fun c => absurd c (by decide)), fun c => ⟨⟨c, by omega⟩, ?_⟩⟩⟩
  have t1 := a1 x.toNatClampNeg
  have t2 := a2 x.toNatClampNeg
  have en := nt c
  have t3 := a9 x.toNatClampNeg (by omega)
  refine sp_isSame hT ⟨t1.1, by omega⟩ hb ⟨fun c => absurd c (by decide), fun _ => ⟨⟨c, by omega⟩, k _ (by omega) t3 (fun _ => t2.2)⟩⟩ ⟨fun _ => ?_, fun c => absurd rfl c⟩
  exact ⟨n - 1, dn_step q1 c q3⟩
theorem sp_entity {b : Int32} {Q : Int32 → Prop} (h : PA σ τ) (hb : 0 ≤ b.toInt ∧ b.toInt < 16002) (k0 : Q (-1)) (k : ∀ r : Int32, Fi σ ≤ r.toInt → r.toInt < (σ 0 36).toInt → Q r) : wp_entity b σ τ vs Q := by
  obtain ⟨hT, -, ⟨n0, hn, -⟩, ⟨-, -, -, -, a5, -⟩, -⟩ := h
  unfold wp_entity
  have hF : ∃ F, F = Fi σ := ⟨_, rfl⟩
  obtain ⟨F, hF⟩ := hF
  rw [← hF] at hn k
  have hF2 : ((σ 22) (σ 0 35).toNatClampNeg).toInt = F := hF.symm
  clear hF
  obtain ⟨n1, n2, n3, n4⟩ := hn
  refine ⟨by omega, fun n x => (n : Int) = (σ 0 36).toInt - x.toInt ∧ F ≤ x.toInt ∧ x.toInt ≤ (σ 0 36).toInt, ⟨((σ 0 36).toInt - F).toNat, by omega, by omega, by omega⟩, fun n x ⟨q1, q2, q3⟩ => ⟨fun _ => k0, fun c => ?_⟩⟩
  have e2 := ad1 (x := x) (by omega)
  exact sp_isNamed hT a5 ⟨by omega, by omega⟩ hb ⟨fun c => absurd c (by decide), fun _ => k _ q2 c⟩ ⟨fun _ => ⟨n - 1, by omega, by omega, by omega, by omega⟩, fun c => absurd rfl c⟩
theorem it_row {I I' : Nat → Int32} {ic d d' f : Int} {p0 p1 p2 n : Nat} {c v b : Int32} (hw : ∀ q, I' q = if q = p2 then b else if q = p1 then v else if q = p0 then c else I q) (h0 : (p0 : Int) = ic) (h1 : (p1 : Int) = ic + 1) (h2 : (p2 : Int) = ic + 2) (i0 : 0 ≤ f) (i1 : ic = f + 3 * n) (i2 : ∀ j : Nat, j < n → (0 ≤ (I (f + 3 * j).toNat).toInt ∧ (I (f + 3 * j).toNat).toInt < d) ∧ (I (f + 3 * j + 2).toNat).toInt ≤ 100) (c1 : 0 ≤ c.toInt) (c2 : c.toInt < d') (c3 : b.toInt ≤ 100) (hd : d ≤ d') (j : Nat) (hj : j < n + 1) : (0 ≤ (I' (f + 3 * j).toNat).toInt ∧ (I' (f + 3 * j).toNat).toInt < d') ∧ (I' (f + 3 * j + 2).toNat).toInt ≤ 100 := by
  have e1 : ((f + 3 * j).toNat : Int) = f + 3 * j := Int.toNat_of_nonneg (by omega)
  have e2 : ((f + 3 * j + 2).toNat : Int) = f + 3 * j + 2 := Int.toNat_of_nonneg (by omega)
  revert e1 e2
  by_cases q : j < n
  · have e3 := i2 j q
    revert e3
    generalize (f + 3 * (j : Int)).toNat = u
    generalize (f + 3 * (j : Int) + 2).toNat = w
    intro e3 e1 e2
    rw [hw, hw, if_neg (by omega), if_neg (by omega), if_neg (by omega), if_neg (by omega), if_neg (by omega), if_neg (by omega)]
    exact ⟨⟨e3.1.1, by omega⟩, e3.2⟩
  · generalize (f + 3 * (j : Int)).toNat = u
    generalize (f + 3 * (j : Int) + 2).toNat = w
    intro e1 e2
    rw [hw, hw, if_neg (by omega), if_neg (by omega), if_pos (by omega), if_pos (by omega)]
    exact ⟨⟨c1, c2⟩, c3⟩
/-- a row of what data begin with -/
def INx (σ s : St) (cell base : Int32) : Prop := Kp [(0, 39)] [25] σ s ∧ (σ 0 39).toInt ≤ (s 0 39).toInt ∧ (s 0 39).toInt ≤ (σ 0 39).toInt + 3 ∧ (∀ f d : Int, ITd σ f d → 0 ≤ cell.toInt → cell.toInt < d → base.toInt ≤ 100 → ITd s f d) ∧ ∀ j : Nat, (j : Int) < (σ 0 39).toInt → (s 25) j = (σ 25) j
theorem inx_rf {c b : Int32} : INx σ σ c b := ⟨kp_rf, Int.le_refl _, by omega, fun f d hI _ _ _ => hI, fun _ _ => rfl⟩
theorem inx_w {c v b : Int32} {p0 p1 p2 : Nat} {w : Int32} (q : Nat) : upC (upC (upC (upC σ 25 p0 c) 25 p1 v) 25 p2 b) 0 39 w 25 q = if q = p2 then b else if q = p1 then v else if q = p0 then c else (σ 25) q := by
  show upC (upC (upC σ 25 _ c) 25 _ v) 25 _ b 25 q = _
  rw [rdA, rdA, rdA]
theorem inx_add {c v b w : Int32} {p0 p1 p2 : Nat} (h0 : (p0 : Int) = (σ 0 39).toInt) (h1 : (p1 : Int) = (σ 0 39).toInt + 1) (h2 : (p2 : Int) = (σ 0 39).toInt + 2) (h3 : w.toInt = (σ 0 39).toInt + 3) : INx σ (upC (upC (upC (upC σ 25 p0 c) 25 p1 v) 25 p2 b) 0 39 w) c b := by
  refine ⟨kp_f (kp_a (kp_a (kp_a kp_rf rfl) rfl) rfl) rfl, ?_, ?_, fun f d hI c1 c2 c3 => ?_, fun j hj => ?_⟩
  · rw [rdA_eq rfl]; omega
  · rw [rdA_eq rfl]; omega
  · obtain ⟨i1, n, i2, i3⟩ := hI
    exact ⟨i1, n + 1, by rw [rdA_eq rfl]; omega, it_row (fun q => inx_w q) h0 h1 h2 i1 i2 i3 c1 c2 c3 (Int.le_refl _)⟩
  · rw [inx_w, if_neg (by omega), if_neg (by omega), if_neg (by omega)]
theorem sp_init {c v b : Int32} {Q : St → St → List Nat → Prop} (h0 : 0 ≤ (σ 0 39).toInt) (h1 : (σ 0 39).toInt ≤ 190000) (k : ∀ s, INx σ s c b → Q s τ vs) : wp_init c v b σ τ vs Q := by
  have e1 : ((σ 0 39) + (1 : Int32)).toInt = (σ 0 39).toInt + 1 := adc (by decide) (by omega) (by omega)
  have e2 : ((σ 0 39) + (2 : Int32)).toInt = (σ 0 39).toInt + 2 := adc (by decide) (by omega) (by omega)
  have e3 : ((σ 0 39) + (3 : Int32)).toInt = (σ 0 39).toInt + 3 := adc (by decide) (by omega) (by omega)
  have n1 : ((σ 0 39).toNatClampNeg : Int) = (σ 0 39).toInt := nt h0
  have n2 : (((σ 0 39) + (1 : Int32)).toNatClampNeg : Int) = (σ 0 39).toInt + 1 := by rw [nt (by omega)]; exact e1
  have n3 : (((σ 0 39) + (2 : Int32)).toNatClampNeg : Int) = (σ 0 39).toInt + 2 := by rw [nt (by omega)]; exact e2
  have ka := k _ (inx_add (c := c) (v := v) (b := b) n1 n2 n3 e3)
  have kb := k _ inx_rf
  unfold wp_init
  refine ⟨True, fun _ => ⟨fun _ => ⟨fun _ => ⟨⟨h0, by omega⟩, ⟨by omega, by omega⟩, ⟨by omega, by omega⟩, ka⟩, fun q => by omega⟩, fun _ => kb⟩, fun _ => trivial, fun _ => ⟨fun _ => kb, fun _ => trivial⟩⟩
end LOOK
end

section
/-! texts -/
section TEXT
variable {σ s τ t : St} {vs z : List Nat}
/-- rows of cells from lo to hi -/
def IXx (σ s : St) (lo hi : Int) : Prop := Kp [(0, 39)] [25] σ s ∧ (σ 0 39).toInt ≤ (s 0 39).toInt ∧ (∀ f d : Int, ITd σ f d → 0 ≤ lo → hi ≤ d → ITd s f d) ∧ ∀ j : Nat, (j : Int) < (σ 0 39).toInt → (s 25) j = (σ 25) j
theorem ixx_rf {lo hi : Int} : IXx σ σ lo hi := ⟨kp_rf, Int.le_refl _, fun f d hI _ _ => hI, fun _ _ => rfl⟩
theorem ixx_add {s' : St} {lo hi : Int} {c b : Int32} (h : IXx σ s lo hi) (hb : b.toInt ≤ 100) (hc : c.toInt = hi) (hh : lo ≤ hi) (p : INx s s' c b) : IXx σ s' lo (hi + 1) := by
  obtain ⟨h1, h2, h3, h4⟩ := h
  obtain ⟨p1, p2, p3, p4, p5⟩ := p
  exact ⟨kp_tr h1 p1, by omega, fun f d hI g0 g1 => p4 f d (h3 f d hI g0 (by omega)) (by omega) (by omega) hb, fun j hj => (p5 j (by omega)).trans (h4 j hj)⟩
theorem STR_ok (h : TK σ) {tk : Int32} (h1 : 0 ≤ tk.toInt ∧ tk.toInt < (σ 0 8).toInt) (h2 : ((σ 2) tk.toNatClampNeg).toInt = 4) : 0 ≤ ((σ 6) tk.toNatClampNeg).toInt ∧ ((σ 6) tk.toNatClampNeg).toInt ≤ 200 ∧ ((σ 3) tk.toNatClampNeg).toInt + ((σ 6) tk.toNatClampNeg).toInt + 2 ≤ ((σ 4) tk.toNatClampNeg).toInt := by
  have en := nt h1.1
  obtain ⟨-, -, -, -, -, -, -, h8⟩ := h
  exact (h8 tk.toNatClampNeg (by omega) (by omega)).2.2.2 h2
theorem sp_codes {tk first : Int32} {Q : St → St → List Nat → Prop} (hT : TK σ) (h1 : 0 ≤ tk.toInt ∧ tk.toInt < 16002) (h2 : 0 ≤ ((σ 6) tk.toNatClampNeg).toInt ∧ ((σ 6) tk.toNatClampNeg).toInt ≤ 200) (h0 : 0 ≤ (σ 0 39).toInt) (hi : (σ 0 39).toInt ≤ 180000) (hf : 0 ≤ first.toInt ∧ first.toInt ≤ 16000) (k : ∀ s, IXx σ s first.toInt (first.toInt + ((σ 6) tk.toNatClampNeg).toInt) → (s 0 39).toInt ≤ (σ 0 39).toInt + 3 * ((σ 6) tk.toNatClampNeg).toInt → Q s τ vs) : wp_codes tk first σ τ vs Q := by
  obtain ⟨-, -, hs0, hs, hfr, -⟩ := hT
  have f1 := hfr tk.toNatClampNeg
  have e1 := ad1 (x := (σ 3) tk.toNatClampNeg) (by omega)
  have e0 : (0 : Int32).toInt = 0 := by decide
  unfold wp_codes
  refine ⟨h1, fun n x i s t z => (n : Int) = ((σ 6) tk.toNatClampNeg).toInt - i.toInt ∧ 0 ≤ i.toInt ∧ i.toInt ≤ ((σ 6) tk.toNatClampNeg).toInt ∧ 0 ≤ x.toInt ∧ x.toInt ≤ 16001 + 2 * i.toInt ∧ τ = t ∧ vs = z ∧ IXx σ s first.toInt (first.toInt + i.toInt) ∧ (s 0 39).toInt ≤ (σ 0 39).toInt + 3 * i.toInt, ⟨((σ 6) tk.toNatClampNeg).toInt.toNat, ?_⟩, ?_⟩
  · refine ⟨by omega, by omega, by omega, by omega, by omega, rfl, rfl, ?_, by omega⟩
    rw [e0, Int.add_zero]
    exact ixx_rf
  · rintro n x i s t z ⟨q1, q2, q3, q4, q5, rfl, rfl, hx, hic⟩
    have v1 : (s 6) tk.toNatClampNeg = (σ 6) tk.toNatClampNeg := hx.1 _ _ rfl rfl
    have v2 : (s 0 9) = (σ 0 9) := hx.1 _ _ rfl rfl
    have hi0 : 0 ≤ (s 0 39).toInt := by have := hx.2.1; omega
    refine ⟨h1, fun c => ?_, fun c => ?_⟩
    · rw [v1] at c
      have e : i.toInt = ((σ 6) tk.toNatClampNeg).toInt := by omega
      rw [e] at hx hic
      exact k s hx hic
    · rw [v1] at c
      have ec : (first + i).toInt = first.toInt + i.toInt := ad (by omega) (by omega)
      refine sp_code (by rw [v2]; exact hs) q4 (by omega) (fun r hr => sp_init hi0 (by omega) (fun s2 hs2 => sp_look q4 ?_ ?_))
      · have : (s2 0 9) = (s 0 9) := hs2.1 _ _ rfl rfl
        rw [this, v2]; exact hs
      have e2 := ad1 (x := i) (by omega)
      have hx2 := ixx_add hx (by decide) ec (by omega) hs2
      have hic2 := hs2.2.2.1
      have e3 : first.toInt + i.toInt + 1 = first.toInt + (i + 1).toInt := by omega
      rw [e3] at hx2
      refine ⟨fun y => 1 ≤ y.toInt ∧ y.toInt ≤ 2, fun y ⟨y1, y2⟩ => ⟨n - 1, by omega, ?_⟩, fun _ => by decide, fun _ => by decide⟩
      have e4 : (x + y).toInt = x.toInt + y.toInt := ad (by omega) (by omega)
      exact ⟨by omega, by omega, by omega, by omega, by omega, rfl, rfl, hx2, by omega⟩
theorem rl_mk (h : PA σ τ) (k : KE σ s) (ea : (s 0 10) = (σ 0 10)) (hw : (σ 0 17).toInt ≤ (s 0 17).toInt) (hr : RW σ s) (hi : (σ 0 39).toInt ≤ (s 0 39).toInt) (hd : 0 ≤ (s 0 37).toInt ∧ (s 0 37).toInt ≤ 16000) (hf : AllIn (-1) 16001 (s 21)) (m : MOn σ s) (o : OF σ s) (ie : IE σ s) (hv : VOK t) (hz : ∀ u ∈ vs, u ∈ z) (hl : vs.length ≤ z.length) : RL σ vs s t z := by
  have h9 := h
  obtain ⟨h1, h2, ⟨n1, n2, n3, n4, n5, n6, n7⟩, -⟩ := h9
  have e2 : (s 0 8) = (σ 0 8) := k _ _ rfl rfl
  have e6 : (s 3) = (σ 3) := funext (fun j => k 3 j rfl rfl)
  refine ⟨k, pa_ke h k (by unfold AtOK; rw [ea, e2]; exact h2) hd (by omega) (by omega) hf hv, hr, m, o, hw, hi, ?_, hz, hl, ie⟩
  unfold pos
  rw [ea, e6]
  exact Int.le_refl _
theorem mon_of (h1 : (s 14) = (σ 14)) (h2 : (s 21) = (σ 21)) : MOn σ s := ⟨fun e q => by rw [h1]; exact q, fun n q => by rw [h2]; exact q⟩
/-- a Value's fields are in their ranges -/
def FOK (t : St) (u : Nat) : Prop := (0 ≤ (t u 1).toInt ∧ (t u 1).toInt ≤ 3) ∧ (0 ≤ (t u 2).toInt ∧ (t u 2).toInt ≤ 99) ∧ (0 ≤ (t u 4).toInt ∧ (t u 4).toInt ≤ 16001) ∧ (t u 8).toInt ≤ 100 ∧ ((t u 1).toInt ≠ 0 → (t u 0).toInt ≠ -1) ∧ ((t u 5).toInt ≠ 0 → (t u 0).toInt = 0)
def VNw (τ : St) (u : Nat) (t : St) : Prop := (∀ w, w ≠ u → t w = τ w) ∧ FOK t u
theorem vok_vnw {u : Nat} (h : VOK τ) (p : VNw τ u t) : VOK t := fun w => by
  by_cases e : w = u
  · subst e; exact p.2
  · rw [p.1 w e]; exact h w
theorem vfr_vnw {u : Nat} (hq : u ∉ vs) (p : VNw τ u t) : VFr τ vs t := fun w hw => p.1 w (fun e => hq (e ▸ hw))
theorem vnw_nv {u : Nat} {ty hgt : Int32} (p : NV τ u ty hgt t) : VNw τ u t := by
  refine ⟨p.1, ?_⟩
  obtain ⟨e1, e2, e3, e4, e5, e6, e7, e8⟩ := nv_at p
  unfold FOK
  rw [e2, e3, e5, e6, e8]
  exact ⟨by decide, by decide, by decide, by decide, fun c => absurd rfl c, fun c => absurd rfl c⟩
theorem vnw_up {u k : Nat} {v : Int32} (p : VNw τ u t) (hf : FOK (upC t u k v) u) : VNw τ u (upC t u k v) := ⟨fun w hw => by
  have e2 : upC t u k v w = t w := by show upF t u _ w = _; rw [upF_ne hw]
  rw [e2]; exact p.1 w hw, hf⟩
theorem fok_addr {u : Nat} {b v : Int32} (h : FOK t u) (hb : b.toInt ≤ 100) : FOK (upC (upC (upC t u 6 (2 : Int32)) u 8 b) u 7 v) u := by
  unfold FOK at *
  simp only [rdA, Nat.reduceEqDiff, if_true, if_false]
  exact ⟨h.1, h.2.1, h.2.2.1, hb, h.2.2.2.2⟩
theorem fok_const {u : Nat} {v : Int32} (h : FOK t u) : FOK (upC (upC t u 6 (1 : Int32)) u 7 v) u := by
  unfold FOK at *
  simp only [rdA, Nat.reduceEqDiff, if_true, if_false]
  exact h
theorem up3_ne {u : Nat} {a b c : Nat} {x y v : Int32} {w : Nat} (e : w ≠ u) : upC (upC (upC τ u a x) u b y) u c v w = τ w := by
  show upF (upF (upF τ u _) u _) u _ w = _
  rw [upF_ne e, upF_ne e, upF_ne e]
theorem up2_ne {u : Nat} {a b : Nat} {x y : Int32} {w : Nat} (e : w ≠ u) : upC (upC τ u a x) u b y w = τ w := by
  show upF (upF τ u _) u _ w = _
  rw [upF_ne e, upF_ne e]
theorem vnw_addr {u : Nat} {b v : Int32} (p : VNw τ u t) (hb : b.toInt ≤ 100) : VNw τ u (upC (upC (upC t u 6 (2 : Int32)) u 8 b) u 7 v) := ⟨fun w hw => by rw [up3_ne hw]; exact p.1 w hw, fok_addr p.2 hb⟩
theorem vnw_const {u : Nat} {v : Int32} (p : VNw τ u t) : VNw τ u (upC (upC t u 6 (1 : Int32)) u 7 v) := ⟨fun w hw => by rw [up2_ne hw]; exact p.1 w hw, fok_const p.2⟩
theorem ev_eq {t t' : St} {u u' : Nat} (h1 : (t' u' 1) = (t u 1)) (h2 : (t' u' 0) = (t u 0)) : ev t' u' = ev t u := by
  unfold ev
  rw [h1, h2]
theorem ev_addr {u : Nat} {b v : Int32} : ev (upC (upC (upC t u 6 (2 : Int32)) u 8 b) u 7 v) u = ev t u := by
  refine ev_eq ?_ ?_ <;> simp only [rdA, Nat.reduceEqDiff, if_true, if_false]
theorem ev_const {u : Nat} {v : Int32} : ev (upC (upC t u 6 (1 : Int32)) u 7 v) u = ev t u := by
  refine ev_eq ?_ ?_ <;> simp only [rdA, Nat.reduceEqDiff, if_true, if_false]
theorem how_addr {u : Nat} {b v : Int32} : upC (upC (upC t u 6 (2 : Int32)) u 8 b) u 7 v u 1 = (t u 1) := by
  simp only [rdA, Nat.reduceEqDiff, if_true, if_false]
theorem how_const {u : Nat} {v : Int32} : upC (upC t u 6 (1 : Int32)) u 7 v u 1 = (t u 1) := by
  simp only [rdA, Nat.reduceEqDiff, if_true, if_false]
theorem ev_nv {u : Nat} {ty hgt : Int32} (p : NV τ u ty hgt t) (h : ty.toInt ≠ -1) : ev t u = 1 := by
  obtain ⟨e1, e2, -⟩ := nv_at p
  exact ev_1 (Or.inl (by rw [e2]; rfl)) (by rw [e1]; exact h)
/-- what an operator or a leaf gives -/
def ROx (σ τ : St) (vs : List Nat) (N a : Nat) (c : Int) (u : Nat) (s t : St) (z : List Nat) : Prop := RL σ vs s t z ∧ VFr τ vs t ∧ (u ∈ z ∧ u ∉ vs) ∧ ((t u 1).toInt = 1 → (t u 2).toInt < (s 0 49).toInt) ∧ (s 0 17).toInt ≤ (σ 0 17).toInt + 8 ∧ (s 0 39).toInt ≤ (σ 0 39).toInt + c ∧ (z.length : Int) ≤ vs.length + 1 ∧ TE σ s N a (ev t u)
theorem neg1_sub {x : Int32} (h : 0 ≤ x.toInt) : ((-1 : Int32) - x).toInt ≤ 100 := by
  have e : (-1 : Int32).toInt = -1 := by decide
  have e2 : ((-1 : Int32) - x).toInt = (-1 : Int32).toInt - x.toInt := by
    have h2 := s_rng x
    refine sb ?_ ?_
    · rw [e]; omega
    · rw [e]; omega
  rw [e] at e2
  rw [e2]
  omega
theorem sp_text {tk : Int32} {N : Nat} {Q : Nat → St → St → List Nat → Prop} (h : PA σ τ) (h1 : 0 ≤ tk.toInt ∧ tk.toInt < (σ 0 8).toInt) (h2 : ((σ 2) tk.toNatClampNeg).toInt = 4) (hw : (σ 0 17).toInt ≤ 499000) (hi : (σ 0 39).toInt ≤ 180000) (hc : vs.length < CAP) (hN : 1 ≤ N) (k : ∀ u s t z, ROx σ τ vs N 0 (3 * ((σ 6) tk.toNatClampNeg).toInt) u s t z → Q u s t z) : wp_text tk σ τ vs Q := by
  have hv := STR_ok h.1 h1 h2
  have htk : tk.toInt < 16002 := by have := h.1.2.1; omega
  have h9 := h
  obtain ⟨hT, hA, ⟨n1, n2, n3, n4, n5, n6, n7⟩, ⟨-, -, a3, -⟩, h5⟩ := h9
  have e1 := ad1 (x := (σ 6) tk.toNatClampNeg) (by omega)
  have e2 : ((σ 0 37) + ((σ 6) tk.toNatClampNeg + (1 : Int32))).toInt = (σ 0 37).toInt + (((σ 6) tk.toNatClampNeg).toInt + 1) := by rw [ad (by omega) (by omega), e1]
  unfold wp_text
  refine ⟨⟨h1.1, htk⟩, fun s t z => τ = t ∧ vs = z ∧ TL σ s, ?_, fun _ => ⟨rfl, rfl, tl_rf⟩, fun _ => sp_tell (by decide) ⟨h1.1, htk⟩ (fun s hs _ => ⟨rfl, rfl, hs⟩)⟩
  rintro s _ _ ⟨rfl, rfl, hs⟩
  have d1 : (s 0 37) = (σ 0 37) := hs.1 _ _ rfl rfl
  have d2 : (s 6) = (σ 6) := funext (fun j => hs.1 6 j rfl rfl)
  have d3 : (s 0 39) = (σ 0 39) := hs.1 _ _ rfl rfl
  have d4 : (s 0 17) = (σ 0 17) := hs.1 _ _ rfl rfl
  have d5 : (s 25) = (σ 25) := funext (fun j => hs.1 25 j rfl rfl)
  rw [d1]
  refine ⟨fun s' t z => τ = t ∧ vs = z ∧ Kp [(0, 12), (0, 13), (0, 37), (0, 39)] [25] σ s' ∧ OF σ s' ∧ ((σ 0 37).toInt ≤ (s' 0 37).toInt ∧ (s' 0 37).toInt ≤ 16000) ∧ ((σ 0 39).toInt ≤ (s' 0 39).toInt ∧ (s' 0 39).toInt ≤ (σ 0 39).toInt + 3 * ((σ 6) tk.toNatClampNeg).toInt) ∧ IE σ s', ?_, ?_, ?_⟩
  · rintro s' _ _ ⟨rfl, rfl, k1, k2, k3, k4, k5⟩
    have w1 : (s' 0 17) = (σ 0 17) := k1 _ _ rfl rfl
    have f1 : (s' 21) = (σ 21) := funext (fun j => k1 21 j rfl rfl)
    refine sp_put_1 (by rw [w1]; exact n5) (by rw [w1]; omega) (fun s2 hp => ⟨hc, fun q hq => sp_Vinit (fun t2 ht2 => ⟨by simp, sp_Vaddress (by simp) ?_⟩)⟩)
    have r1 : RL σ vs s' τ vs := rl_mk h (kp_sub k1 rfl rfl) (k1 _ _ rfl rfl) (by rw [w1]; exact Int.le_refl _) (fun j _ => k1 8 j rfl rfl) k4.1 (by omega) (by rw [f1]; exact a3) (mon_of (funext (fun j => k1 14 j rfl rfl)) f1) k2 k5 h5 (fun _ h => h) (Nat.le_refl _)
    have v2 := vnw_addr (v := 0) (b := (-1) - (σ 0 37)) (vnw_nv ht2) (neg1_sub n4.1)
    have r2 : RL s' vs s2 _ (vs ++ [q]) := rl_pu r1.2.1 hp (vok_vnw h5 v2) (fun u hu => by simp [hu]) (by simp)
    refine k _ _ _ _ ⟨rl_tr r1 r2, vfr_vnw hq v2, ⟨by simp, hq⟩, fun c => ?_, ?_, ?_, by simp, ?_⟩
    · rw [how_addr, (nv_at ht2).2.1] at c
      exact absurd c (by decide)
    · have := hp.2.1
      rw [w1] at this
      simp only [List.length_cons, List.length_nil] at this
      omega
    · have : (s2 0 39) = (s' 0 39) := hp.1 _ _ rfl rfl
      rw [this]; exact k4.2
    · rw [ev_addr, ev_nv ht2 (by decide)]
      have t1 : TE σ s' N 0 0 := te_same n5 w1 r1.2.2.1 (ev_ke r1.1 r1.2.2.2.1)
      have t2 : TE s' s2 N 0 1 := te_put (n := 2) (by rw [w1]; exact n5) hp rfl (by decide) rfl (k := 2) rfl (fun g' H L x hH hn hx => hn) hN
      exact te_tr t1 t2 (by unfold wcn; rw [w1]; exact Nat.le_refl _) r2.2.2.2.2.1 (hp.1 _ _ rfl rfl)
  · exact fun _ => ⟨rfl, rfl, kp_sub hs.1 rfl rfl, hs.2, by rw [d1]; omega, by rw [d3]; omega, ie_of d5 d3 d1⟩
  · intro c
    have hT2 : TK s := tk_kp hs.1 rfl rfl ⟨rfl, rfl, rfl, rfl, rfl⟩ rfl hT
    refine sp_codes hT2 ⟨h1.1, htk⟩ (by rw [d2]; omega) (by rw [d3]; exact n6) (by rw [d3]; omega) (by omega) (fun s3 hx hic => ?_)
    rw [d2] at hx hic
    have d6 : (s3 0 37) = (σ 0 37) := (hx.1 _ _ rfl rfl).trans d1
    have d7 : upC s3 0 37 ((s3 0 37) + ((σ 6) tk.toNatClampNeg + (1 : Int32))) 0 37 = (σ 0 37) + ((σ 6) tk.toNatClampNeg + (1 : Int32)) := by rw [rdA_eq rfl, d6]
    refine ⟨rfl, rfl, kp_f (kp_tr (kp_sub hs.1 rfl rfl) (kp_sub hx.1 rfl rfl)) rfl, of_tr hs.2 (of_eq (hx.1 _ _ rfl rfl)), ?_, ?_, ?_, fun f hI => ?_, ?_, fun j hj => ?_⟩
    · rw [d7]; omega
    · have e9 := hx.2.1
      rw [d3] at e9 hic
      exact ⟨e9, hic⟩
    · rw [d7]; omega
    · rw [d7]
      exact hx.2.2.1 f _ (itd_le (itd_of d5 d3 hI) (by omega)) n4.1 (by omega)
    · have e9 := hx.2.1
      rw [d3] at e9
      exact e9
    · have e9 := hx.2.2.2 j (by rw [d3]; exact hj)
      rw [d5] at e9
      exact e9
end TEXT
end

section
/-! names, and operators of one part -/
section LEAF
variable {σ s τ t : St} {vs z : List Nat}
theorem nar_b1 : vp_nar .boolean (1 : Int32) = 1 := by decide
theorem sp_named {tk : Int32} {N : Nat} {Q : Nat → St → St → List Nat → Prop} (h : PA σ τ) (h1 : 0 ≤ tk.toInt ∧ tk.toInt < (σ 0 8).toInt) (hw : (σ 0 17).toInt ≤ 499000) (hc : vs.length < CAP) (hN : 1 ≤ N) (k : ∀ u s t z, ROx σ τ vs N 0 0 u s t z → Q u s t z) : wp_named tk σ τ vs Q := by
  have htk : tk.toInt < 16002 := (at_tok h.1 h.2.1).2 |> fun _ => by have := h.1.2.1; omega
  have h9 := h
  obtain ⟨hT, hA, ⟨n1, n2, n3, n4, n5, n6, n7⟩, ⟨a1, a2, a3, a4, a5, a6, a7, a8, a9, b1, b2, b3⟩, h5⟩ := h9
  unfold wp_named
  refine sp_local h ⟨h1.1, htk⟩ (fun l l1 l2 l3 => ⟨fun c => ?_, fun c => ⟨hc, fun q hq => ⟨⟨c, by omega⟩, fun y => 0 ≤ y.toInt, fun y hy => sp_Vinit (fun t2 ht2 => ⟨⟨c, by omega⟩, fun y1 => (y1 = 1 ∧ ((σ 32) l.toNatClampNeg).toInt < 0) ∨ (y1 = 0 ∧ 0 ≤ ((σ 32) l.toNatClampNeg).toInt), fun y1 _ hy1 => ⟨by simp, ⟨c, by omega⟩, fun c2 => ?_, fun c2 => ?_⟩, fun c2 => Or.inr ⟨rfl, c2⟩, fun c2 => Or.inl ⟨rfl, c2⟩⟩), fun _ => ⟨⟨c, by omega⟩, ?_⟩, fun _ => ⟨⟨c, by omega⟩, (a6 _).1⟩⟩⟩⟩)
  · -- a name of the unit
    have key : ∀ s, TL σ s → ((s 0 12).toInt = 0 → (s 0 15).toInt = 0 → False) → ∀ q t2, q ∉ vs → NV τ q (-2) 1 t2 → Q q s t2 (vs ++ [q]) := fun s hs hf q t2 hq ht2 => by
      have v2 := vnw_nv ht2
      have ew : (s 0 17) = (σ 0 17) := hs.1 _ _ rfl rfl
      have ei : (s 0 39) = (σ 0 39) := hs.1 _ _ rfl rfl
      refine k _ _ _ _ ⟨rl_tl h hs (vok_vnw h5 v2) (fun u hu => by simp [hu]) (by simp), vfr_vnw hq v2, ⟨by simp, hq⟩, fun c2 => ?_, by rw [ew]; omega, by rw [ei]; omega, by simp, te_no hf⟩
      rw [(nv_at ht2).2.1] at c2
      exact absurd c2 (by decide)
    refine sp_entity h ⟨h1.1, htk⟩ ?_ (fun e e1 e2 => ?_)
    · refine ⟨fun y => y = 0, fun y _ hy => sp_must ⟨h1.1, htk⟩ (fun s hs hf => ⟨True, fun _ => ⟨hc, fun q hq => sp_Vinit (fun t2 ht2 => key s hs (fun f1 f2 => hf f1 f2 (by rw [hy]; rfl)) q t2 hq ht2)⟩, fun _ => trivial, fun c2 => absurd c2 (by decide)⟩), ⟨True, fun _ => rfl, fun _ => trivial, fun c2 => absurd c2 (by decide)⟩⟩
    · have e3 : 0 ≤ e.toInt ∧ e.toInt < 10000 := by omega
      refine ⟨fun y => y.toInt ≠ 0 → ((σ 9) e.toNatClampNeg).toInt = 1, fun y _ hy => sp_must ⟨h1.1, htk⟩ (fun s hs hf => ⟨(s 0 12).toInt = 0 → (s 0 15).toInt = 0 → False, fun hff => ⟨hc, fun q hq => sp_Vinit (fun t2 ht2 => key s hs hff q t2 hq ht2)⟩, fun c2 => absurd c2 (by omega), fun _ => ⟨e3, fun c2 => ?_, fun c2 f1 f2 => ?_⟩⟩), ⟨True, fun _ => fun c2 => absurd rfl c2, fun _ => trivial, fun _ => ⟨e3, fun _ => trivial, fun c2 _ => c2⟩⟩⟩
      · -- a variable
        have es : ∀ j, (s 9) j = (σ 9) j := fun j => hs.1 9 j rfl rfl
        have et : ∀ j, (s 10) j = (σ 10) j := fun j => hs.1 10 j rfl rfl
        have ef : ((s 22) (s 0 35).toNatClampNeg) = (σ 22) (σ 0 35).toNatClampNeg := by
          have q1 : (s 0 35) = (σ 0 35) := hs.1 _ _ rfl rfl
          rw [q1]; exact hs.1 22 _ rfl rfl
        have eo : (s 0 35) = (σ 0 35) := hs.1 _ _ rfl rfl
        rw [es] at c2
        have ht := a8 _ c2
        have ht2 := (a7 e.toNatClampNeg).2
        have hF : ((σ 22) (σ 0 35).toNatClampNeg).toInt = Fi σ := rfl
        have en : (e - ((σ 22) (σ 0 35).toNatClampNeg)).toInt = e.toInt - Fi σ := by rw [← hF]; exact sb (by rw [hF]; omega) (by rw [hF]; omega)
        refine ⟨e3, by rw [eo]; omega, hc, fun q hq => ⟨e3, fun y => 0 ≤ y.toInt, fun y hy => sp_Vinit (fun t2 ht2 => ⟨by simp, e3, fun c3 => ?_, fun c3 => ?_⟩), fun _ => ⟨e3, ?_⟩, fun _ => ⟨e3, by rw [et]; exact ht⟩⟩⟩
        rotate_left 2
        · rw [et]
          have e7 := ad1 (x := (σ 10) e.toNatClampNeg) (by omega)
          show 0 ≤ ((σ 10) e.toNatClampNeg + (1 : Int32)).toInt
          omega
        all_goals
          rw [ef]
          have r1 : RL σ vs (upC s 14 e.toNatClampNeg (vp_nar .boolean (1 : Int32))) τ vs := rl_mk h (kp_a (kp_sub hs.1 rfl rfl) rfl) (hs.1 _ _ rfl rfl) (by show (σ 0 17).toInt ≤ (s 0 17).toInt; rw [hs.1 _ _ rfl rfl]; exact Int.le_refl _) (fun j _ => hs.1 8 j rfl rfl) (by show (σ 0 39).toInt ≤ (s 0 39).toInt; rw [hs.1 _ _ rfl rfl]; exact Int.le_refl _) (by show 0 ≤ (s 0 37).toInt ∧ (s 0 37).toInt ≤ 16000; rw [hs.1 _ _ rfl rfl]; exact n4) (by
              have f1 : (s 21) = (σ 21) := funext (fun j => hs.1 21 j rfl rfl)
              show AllIn (-1) 16001 (s 21)
              rw [f1]; exact a3) ⟨fun j q1 => by
                rw [rdA]
                by_cases q2 : j = e.toNatClampNeg
                · rw [if_pos q2, nar_b1]; decide
                · rw [if_neg q2]
                  have f1 : (s 14) j = (σ 14) j := hs.1 14 j rfl rfl
                  rw [f1]; exact q1, fun n q1 => by
                have f1 : (s 21) n = (σ 21) n := hs.1 21 n rfl rfl
                show 0 ≤ ((s 21) n).toInt
                rw [f1]; exact q1⟩ hs.2 (ie_of (funext (fun j => hs.1 25 j rfl rfl)) (hs.1 _ _ rfl rfl) (hs.1 _ _ rfl rfl)) h5 (fun _ h => h) (Nat.le_refl _)
          have w1 : ((upC s 14 e.toNatClampNeg (vp_nar .boolean (1 : Int32))) 0 17) = (σ 0 17) := hs.1 _ _ rfl rfl
          have i1 : ((upC s 14 e.toNatClampNeg (vp_nar .boolean (1 : Int32))) 0 39) = (σ 0 39) := hs.1 _ _ rfl rfl
          have t1 : TE σ (upC s 14 e.toNatClampNeg (vp_nar .boolean (1 : Int32))) N 0 0 := te_same n5 w1 r1.2.2.1 (ev_ke r1.1 r1.2.2.2.1)
        · -- an array of the unit
          have v2 : VNw τ q (upC (upC t2 q 2 (e - ((σ 22) (σ 0 35).toNatClampNeg))) q 4 tk) := by
            refine ⟨fun w hw => by rw [up2_ne hw]; exact ht2.1 w hw, ?_⟩
            have := (vnw_nv ht2).2
            unfold FOK at *
            simp only [rdA, Nat.reduceEqDiff, if_true, if_false]
            exact ⟨this.1, by omega, by omega, this.2.2.2.1, this.2.2.2.2⟩
          have hn1 : ((e - ((σ 22) (σ 0 35).toNatClampNeg)) + (1 : Int32)).toInt ≤ 100 := by rw [ad1 (by omega)]; omega
          refine sp_put_1 (by rw [w1]; exact n5) (by rw [w1]; omega) (fun s2 hp => ⟨by simp, sp_Vaddress (by simp) ?_⟩)
          have v3 := vnw_addr (v := 0) v2 hn1
          have r2 := rl_pu (vs := vs) (t := _) (z := vs ++ [q]) r1.2.1 hp (vok_vnw h5 v3) (fun u hu => by simp [hu]) (by simp)
          refine k _ _ _ _ ⟨rl_tr r1 r2, vfr_vnw hq v3, ⟨by simp, hq⟩, fun c => ?_, ?_, ?_, by simp, ?_⟩
          · rw [how_addr] at c
            simp only [rdA, Nat.reduceEqDiff, if_true, if_false] at c
            rw [(nv_at ht2).2.1] at c
            exact absurd c (by decide)
          · have := hp.2.1
            rw [w1] at this
            simp only [List.length_cons, List.length_nil] at this
            omega
          · have : (s2 0 39) = _ := hp.1 0 39 rfl rfl
            rw [this, i1]; omega
          · have e9 : ev (upC (upC t2 q 2 (e - ((σ 22) (σ 0 35).toNatClampNeg))) q 4 tk) q = ev t2 q := by
              refine ev_eq ?_ ?_ <;> simp only [rdA, Nat.reduceEqDiff, if_true, if_false]
            rw [ev_addr, e9, ev_nv ht2 (by omega)]
            refine te_tr t1 (te_put (n := 2) (by rw [w1]; exact n5) hp rfl (by decide) rfl (k := 1) rfl (fun g' H L x hH hn hx => ⟨?_, hn⟩) hN) (by unfold wcn; rw [w1]; exact Nat.le_refl _) r2.2.2.2.2.1 (hp.1 _ _ rfl rfl)
            rw [hx _ rfl]
            omega
        · have v2 : VNw τ q (upC (upC (upC t2 q 2 (e - ((σ 22) (σ 0 35).toNatClampNeg))) q 4 tk) q 1 (2 : Int32)) := by
            refine ⟨fun w hw => by rw [up3_ne hw]; exact ht2.1 w hw, ?_⟩
            have := (vnw_nv ht2).2
            unfold FOK at *
            simp only [rdA, Nat.reduceEqDiff, if_true, if_false]
            refine ⟨by decide, by omega, by omega, this.2.2.2.1, fun _ => ?_, this.2.2.2.2.2⟩
            rw [(nv_at ht2).1]
            omega
          have r2 : RL σ vs (upC s 14 e.toNatClampNeg (vp_nar .boolean (1 : Int32))) _ (vs ++ [q]) := rl_tr r1 ⟨kp_rf, ⟨r1.2.1.1, r1.2.1.2.1, r1.2.1.2.2.1, r1.2.1.2.2.2.1, vok_vnw h5 v2⟩, fun _ _ => rfl, mon_rf, of_rf, Int.le_refl _, Int.le_refl _, Int.le_refl _, fun u hu => by simp [hu], by simp, ie_rf⟩
          have ew : (upC (upC (upC t2 q 2 (e - ((σ 22) (σ 0 35).toNatClampNeg))) q 4 tk) q 1 (2 : Int32)) q 1 = 2 := by rw [rdA, if_pos rfl]
          refine k _ _ _ _ ⟨r2, vfr_vnw hq v2, ⟨by simp, hq⟩, fun c => ?_, by rw [w1]; omega, by rw [i1]; omega, by simp, ?_⟩
          · rw [ew] at c
            exact absurd c (by decide)
          · have e9 : ev (upC (upC (upC t2 q 2 (e - ((σ 22) (σ 0 35).toNatClampNeg))) q 4 tk) q 1 (2 : Int32)) q = 0 := by
              unfold ev
              rw [if_pos]
              right
              rw [ew]; rfl
            rw [e9]
            exact t1
      · have es : (s 9) e.toNatClampNeg = (σ 9) e.toNatClampNeg := hs.1 9 _ rfl rfl
        rw [es] at c2
        exact c2 (hy (hf f1 f2))
  · -- a local that is no array
    rcases hy1 with ⟨rfl, -⟩ | ⟨-, c3⟩
    · have v2 : VNw τ q (upC (upC t2 q 1 (1 : Int32)) q 2 l) := by
        refine ⟨fun w hw => by rw [up2_ne hw]; exact ht2.1 w hw, ?_⟩
        have := (vnw_nv ht2).2
        unfold FOK at *
        simp only [rdA, Nat.reduceEqDiff, if_true, if_false]
        refine ⟨by decide, by omega, this.2.2.1, this.2.2.2.1, fun _ => ?_, this.2.2.2.2.2⟩
        rw [(nv_at ht2).1]
        omega
      refine k _ _ _ _ ⟨rl_tr (rl_rf h) ⟨kp_rf, ⟨hT, hA, ⟨n1, n2, n3, n4, n5, n6, n7⟩, ⟨a1, a2, a3, a4, a5, a6, a7, a8, a9, b1, b2, b3⟩, vok_vnw h5 v2⟩, fun _ _ => rfl, mon_rf, of_rf, Int.le_refl _, Int.le_refl _, Int.le_refl _, fun u hu => by simp [hu], by simp, ie_rf⟩, vfr_vnw hq v2, ⟨by simp, hq⟩, fun _ => ?_, by omega, by omega, by simp, ?_⟩
      · simp only [rdA, Nat.reduceEqDiff, if_true, if_false]
        exact l2
      · have e9 : ev (upC (upC t2 q 1 (1 : Int32)) q 2 l) q = 0 := by
          unfold ev
          rw [if_pos]
          left
          simp only [rdA, Nat.reduceEqDiff, if_true, if_false]
          rfl
        rw [e9]
        exact te_rf
    · exact absurd c2 (by omega)
  · -- a local array
    rcases hy1 with ⟨-, c3⟩ | ⟨rfl, -⟩
    · exact absurd c2 (by omega)
    · have v2 : VNw τ q (upC (upC t2 q 1 (0 : Int32)) q 2 l) := by
        refine ⟨fun w hw => by rw [up2_ne hw]; exact ht2.1 w hw, ?_⟩
        have := (vnw_nv ht2).2
        unfold FOK at *
        simp only [rdA, Nat.reduceEqDiff, if_true, if_false]
        exact ⟨by decide, by omega, this.2.2.1, this.2.2.2.1, fun c => absurd rfl c, this.2.2.2.2.2⟩
      refine sp_put_1 n5 (by omega) (fun s2 hp => ?_)
      have r2 := rl_pu (vs := vs) (t := _) (z := vs ++ [q]) h hp (vok_vnw h5 v2) (fun u hu => by simp [hu]) (by simp)
      refine k _ _ _ _ ⟨r2, vfr_vnw hq v2, ⟨by simp, hq⟩, fun c => ?_, ?_, ?_, by simp, ?_⟩
      · simp only [rdA, Nat.reduceEqDiff, if_true, if_false] at c
        exact absurd c (by decide)
      · have := hp.2.1
        simp only [List.length_cons, List.length_nil] at this
        omega
      · have : (s2 0 39) = _ := hp.1 0 39 rfl rfl
        rw [this]; omega
      · have e9 : ev (upC (upC t2 q 1 (0 : Int32)) q 2 l) q = 1 := by
          refine ev_1 (Or.inl ?_) ?_
          · simp only [rdA, Nat.reduceEqDiff, if_true, if_false]
            rfl
          · simp only [rdA, Nat.reduceEqDiff, if_true, if_false]
            rw [(nv_at ht2).1]
            omega
        rw [e9]
        refine te_put (n := 2) n5 hp rfl (by decide) rfl (k := 4) rfl (fun g' H L x hH hn hx => ⟨?_, hn⟩) hN
        rw [hx _ rfl]
        have e4 : (s2 0 49) = (σ 0 49) := hp.1 _ _ rfl rfl
        rw [e4]
        omega
  · have e8 := a6 l.toNatClampNeg
    have e7 := ad1 (x := (σ 31) l.toNatClampNeg) (by omega)
    show 0 ≤ ((σ 31) l.toNatClampNeg + (1 : Int32)).toInt
    omega
end LEAF
end

section
/-! operators -/
section OPS
variable {σ s s' τ t : St} {vs z : List Nat}
theorem te_if {N a b : Nat} {P : Prop} (h : (s 0 12).toInt = 0 → (s 0 15).toInt = 0 → P) (k : P → TE σ s N a b) : TE σ s N a b := fun g X E0 H L hT hH hf hs => k (h hf hs) g X E0 H L hT hH hf hs
theorem te_eq {N a b a' b' : Nat} (ha : a = a') (hb : b = b') (h : TE σ s N a' b') : TE σ s N a b := by rw [ha, hb]; exact h
/-- the states change, then a Value is made -/
theorem rox_new {N a q : Nat} {c : Int} {t' : St} (r : RL σ vs s τ vs) (hq : q ∉ vs) (v : VNw τ q t') (hl : (t' q 1).toInt = 1 → (t' q 2).toInt < (s 0 49).toInt) (hw : (s 0 17).toInt ≤ (σ 0 17).toInt + 8) (hi : (s 0 39).toInt ≤ (σ 0 39).toInt + c) (te : TE σ s N a (ev t' q)) : ROx σ τ vs N a c q s t' (vs ++ [q]) := by
  obtain ⟨h1, h2, h3, h4, h5, h6, h7, h8, h9, h10, h11⟩ := r
  exact ⟨⟨h1, ⟨h2.1, h2.2.1, h2.2.2.1, h2.2.2.2.1, vok_vnw h2.2.2.2.2 v⟩, h3, h4, h5, h6, h7, h8, fun u hu => by simp [hu], by simp, h11⟩, vfr_vnw hq v, ⟨by simp, hq⟩, hl, hw, hi, by simp, te⟩
/-- states that told or put, no more -/
def SQ (σ s : St) (n : Int) : Prop := Kp [(0, 12), (0, 13), (0, 17)] [8] σ s ∧ OF σ s ∧ RW σ s ∧ (σ 0 17).toInt ≤ (s 0 17).toInt ∧ (s 0 17).toInt ≤ (σ 0 17).toInt + n
theorem sq_rf : SQ σ σ 0 := ⟨kp_rf, of_rf, fun _ _ => rfl, Int.le_refl _, by omega⟩
theorem sq_tl (h : TL σ s) : SQ σ s 0 := by
  have e : (s 0 17) = (σ 0 17) := h.1 _ _ rfl rfl
  exact ⟨kp_sub h.1 rfl rfl, h.2, fun j _ => h.1 8 j rfl rfl, by rw [e]; omega, by rw [e]; omega⟩
theorem sq_pu {ws : List Int32} (h : PU σ s ws) : SQ σ s ws.length := by
  have e8 : (s 0 12) = (σ 0 12) := h.1 _ _ rfl rfl
  exact ⟨kp_sub h.1 rfl rfl, of_eq e8, h.2.2.1, by rw [h.2.1]; omega, by rw [h.2.1]; omega⟩
theorem sq_tr {n m : Int} (h : SQ σ s n) (g : SQ s s' m) : SQ σ s' (n + m) := by
  obtain ⟨h1, h2, h3, h4, h5⟩ := h
  obtain ⟨g1, g2, g3, g4, g5⟩ := g
  exact ⟨kp_tr h1 g1, of_tr h2 g2, fun j hj => (g3 j (by omega)).trans (h3 j hj), by omega, by omega⟩
theorem sq_rl {n : Int} (h : PA σ τ) (p : SQ σ s n) : RL σ vs s τ vs := by
  obtain ⟨p1, p2, p3, p4, p5⟩ := p
  have h9 := h
  obtain ⟨h1, h2, ⟨n1, n2, n3, n4, n5, n6, n7⟩, ⟨-, -, a3, -⟩, h5⟩ := h9
  have e3 : (s 0 37) = (σ 0 37) := p1 _ _ rfl rfl
  have e4 : (s 0 39) = (σ 0 39) := p1 _ _ rfl rfl
  have e5 : (s 21) = (σ 21) := funext (fun j => p1 21 j rfl rfl)
  exact rl_mk h (kp_sub p1 rfl rfl) (p1 _ _ rfl rfl) p4 p3 (by rw [e4]; exact Int.le_refl _) (by rw [e3]; exact n4) (by rw [e5]; exact a3) (mon_of (funext (fun j => p1 14 j rfl rfl)) e5) p2 (ie_of (funext (fun j => p1 25 j rfl rfl)) e4 e3) h5 (fun _ h => h) (Nat.le_refl _)
theorem sq_wc {n : Int} (p : SQ σ s n) (h : 0 ≤ (σ 0 17).toInt) : 0 ≤ (s 0 17).toInt ∧ (s 0 17).toInt ≤ (σ 0 17).toInt + n ∧ wcn σ ≤ wcn s := by
  obtain ⟨p1, p2, p3, p4, p5⟩ := p
  have e1 : (wcn σ : Int) = (σ 0 17).toInt := nt h
  have e2 : (wcn s : Int) = (s 0 17).toInt := nt (by omega)
  omega
theorem te_tl {N a : Nat} (h0 : 0 ≤ (σ 0 17).toInt) (p : TL σ s) : TE σ s N a a := te_same h0 (p.1 _ _ rfl rfl) (fun j _ => p.1 8 j rfl rfl) (ev_ke (kp_sub p.1 rfl rfl) (mon_of (funext (fun j => p.1 14 j rfl rfl)) (funext (fun j => p.1 21 j rfl rfl))))
/-- chained through a state that told or put -/
theorem te_sq {N a b c : Nat} {n m : Int} (h0 : 0 ≤ (σ 0 17).toInt) (p : SQ σ s n) (p2 : SQ s s' m) (h : TE σ s N a b) (h2 : TE s s' N b c) : TE σ s' N a c := te_tr h h2 (sq_wc p h0).2.2 p2.2.1 (p2.1 _ _ rfl rfl)
theorem sil_sq {n : Int} (p : SQ σ s n) (h : (s 0 15).toInt = 0) : (σ 0 15).toInt = 0 := by
  have e : (s 0 15) = (σ 0 15) := p.1 _ _ rfl rfl
  rw [← e]; exact h
theorem vnw_how {u : Nat} {hw tk : Int32} (p : VNw τ u t) (h1 : 0 ≤ hw.toInt ∧ hw.toInt ≤ 3) (h2 : 0 ≤ tk.toInt ∧ tk.toInt < 16002) (h3 : (t u 0).toInt ≠ -1) : VNw τ u (upC (upC t u 1 hw) u 4 tk) := by
  refine ⟨fun w hw => by rw [up2_ne hw]; exact p.1 w hw, ?_⟩
  have := p.2
  unfold FOK at *
  simp only [rdA, Nat.reduceEqDiff, if_true, if_false]
  exact ⟨h1, this.2.1, by omega, this.2.2.2.1, fun _ => h3, this.2.2.2.2.2⟩
theorem ev_st {u : Nat} (h : (τ u 1).toInt = 0) (h2 : (τ u 0).toInt ≠ -1) : ev τ u = 1 := ev_1 (Or.inl h) h2
theorem sp_pointedTo {p : Nat} {tk : Int32} {N : Nat} {Q : Nat → St → St → List Nat → Prop} (h : PA σ τ) (hp : p ∈ vs) (hh : (τ p 1).toInt = 0) (ht : 0 ≤ tk.toInt ∧ tk.toInt < 16002) (hc : vs.length < CAP) (k : ∀ u s t z, ROx σ τ vs N (ev τ p) 0 u s t z → Q u s t z) : wp_pointedTo p tk σ τ vs Q := by
  have h0 := h.2.2.1.2.2.2.2.1
  have key : ∀ (y : Int32) s s' q t hgt, TL σ s → ((s 0 12).toInt = 0 → (s 0 15).toInt = 0 → 0 < (τ p 0).toInt) → q ∉ vs → NV τ q y hgt t → y.toInt ≠ -1 → TL s s' → Q q s' (upC (upC t q 1 (3 : Int32)) q 4 tk) (vs ++ [q]) := fun y s s' q t hgt hs hf hq hv hy hs' => by
    have sq := sq_tr (sq_tl hs) (sq_tl hs')
    have et : (t q 0).toInt = y.toInt := by rw [(nv_at hv).1]
    refine k _ _ _ _ (rox_new (sq_rl h sq) hq (vnw_how (vnw_nv hv) (by decide) ht (by rw [et]; exact hy)) (fun c => ?_) ?_ ?_ ?_)
    · simp only [rdA, Nat.reduceEqDiff, if_true, if_false] at c
      exact absurd c (by decide)
    · have := (sq_wc sq h0).2.1
      omega
    · have e : (s' 0 39) = (σ 0 39) := sq.1 _ _ rfl rfl
      rw [e]; omega
    · refine te_if (P := 0 < (τ p 0).toInt) (fun f1 f2 => hf (of0 hs'.2 f1) (sil_sq (sq_tl hs') f2)) (fun c => ?_)
      refine te_eq (ev_st hh (by omega)) (ev_1 (Or.inr ?_) ?_) (te_sq h0 (sq_tl hs) (sq_tl hs') (te_tl h0 hs) (te_tl (sq_wc (sq_tl hs) h0).1 hs'))
      · simp only [rdA, Nat.reduceEqDiff, if_true, if_false]; rfl
      · simp only [rdA, Nat.reduceEqDiff, if_true, if_false]
        rw [et]; exact hy
  unfold wp_pointedTo
  refine sp_isPointer hp (fun c => sp_must ht (fun s hs hf => sp_isPointer hp (fun _ => ?_) (fun c2 => absurd c (by omega)))) (fun c => sp_must ht (fun s hs hf => sp_isPointer hp (fun c2 => absurd c (by omega)) (fun _ => ?_)))
  · have e := sb1 (x := (τ p 0)) (by omega)
    exact ⟨fun y => y.toInt ≠ -1, fun y hy => sp_made hp hp hc ht (fun q s' t hgt hq hv hs' => ⟨by simp, key y s s' q t hgt hs (fun _ _ => c) hq hv hy hs'⟩), fun c2 => absurd c2 (by decide), fun _ => ⟨hp, by show (_ - (1 : Int32)).toInt ≠ -1; omega⟩⟩
  · refine ⟨fun y => y.toInt ≠ -1, fun y hy => sp_made hp hp hc ht (fun q s' t hgt hq hv hs' => ⟨by simp, key y s s' q t hgt hs (fun f1 f2 => absurd rfl (hf f1 f2)) hq hv hy hs'⟩), fun _ => by decide, fun c2 => absurd rfl c2⟩
theorem sp_one_2 {op : Int32} {v : Nat} {tk : Int32} {N : Nat} {Q : Nat → St → St → List Nat → Prop} (h : PA σ τ) (hp : v ∈ vs) (hh : (τ v 1).toInt = 0) (hw : (σ 0 17).toInt ≤ 499000) (ht : 0 ≤ tk.toInt ∧ tk.toInt < 16002) (hc : vs.length < CAP) (hN : 1 ≤ N) (k : ∀ u s t z, ROx σ τ vs N (ev τ v) 0 u s t z → Q u s t z) : wp_one_2 op v tk σ τ vs Q := by
  have h0 := h.2.2.1.2.2.2.2.1
  unfold wp_one_2
  refine ⟨fun y => y.toInt ≠ 0 → (τ v 0).toInt ≠ -1, fun y _ hy => sp_must ht (fun s hs hf => sp_made hp hp hc ht (fun q s' t hgt hq hv hs' => ?_)), fun _ => sp_isInt hp (fun c _ => by omega) (fun _ c => absurd rfl c), fun _ => sp_isAny hp (fun c _ => by omega) (fun _ c => absurd rfl c)⟩
  have sq := sq_tr (sq_tl hs) (sq_tl hs')
  have hwc := sq_wc sq h0
  refine ⟨fun y => y = 12 ∨ y = 13 ∨ y = 14, fun y1 hy1 => sp_put_0 hwc.1 (by omega) (fun s2 hp2 => ?_), fun _ => ⟨fun _ => Or.inr (Or.inl rfl), fun _ => Or.inl rfl⟩, fun _ => Or.inr (Or.inr rfl)⟩
  have sq2 := sq_tr sq (sq_pu hp2)
  have key : ∀ t', VNw τ q t' → (t' q 1) = 0 → ev t' q = 1 → Q q s2 t' (vs ++ [q]) := fun t' v1 v2 v3 => by
    refine k _ _ _ _ (rox_new (sq_rl h sq2) hq v1 (fun c => ?_) ?_ ?_ ?_)
    · rw [v2] at c
      exact absurd c (by decide)
    · have := (sq_wc sq2 h0).2.1
      simp only [List.length_cons, List.length_nil] at this
      omega
    · have e : (s2 0 39) = (σ 0 39) := sq2.1 _ _ rfl rfl
      rw [e]; omega
    · refine te_if (P := (τ v 0).toInt ≠ -1) (fun f1 f2 => hy (hf (of0 hs'.2 (of0 (sq_pu hp2).2.1 f1)) (sil_sq (sq_tr (sq_tl hs') (sq_pu hp2)) f2))) (fun c => ?_)
      refine te_eq (ev_st hh c) v3 (te_sq h0 sq (sq_pu hp2) (te_sq h0 (sq_tl hs) (sq_tl hs') (te_tl h0 hs) (te_tl (sq_wc (sq_tl hs) h0).1 hs')) ?_)
      rcases hy1 with rfl | rfl | rfl
      · exact te_put (n := 1) hwc.1 hp2 rfl (by decide) rfl (k := 12) rfl (fun g' H L x hH hn hx => ⟨by omega, hn⟩) hN
      · exact te_put (n := 1) hwc.1 hp2 rfl (by decide) rfl (k := 13) rfl (fun g' H L x hH hn hx => ⟨by omega, hn⟩) hN
      · exact te_put (n := 1) hwc.1 hp2 rfl (by decide) rfl (k := 14) rfl (fun g' H L x hH hn hx => ⟨by omega, hn⟩) hN
  have hv1 : v ∈ vs ++ [q] := by simp [hp]
  have kQ : Q q s2 t (vs ++ [q]) := key t (vnw_nv hv) (nv_at hv).2.1 (ev_nv hv (by decide))
  refine ⟨hv1, fun _ => kQ, fun _ => sp_isInt hv1 (fun _ => ⟨fun c => absurd c (by decide), fun _ => ⟨by simp, fun _ => ⟨fun _ => True, fun y2 _ => sp_Vconstant (by simp) (key _ (vnw_const (vnw_nv hv)) (by rw [how_const]; exact (nv_at hv).2.1) (by rw [ev_const]; exact ev_nv hv (by decide))), fun _ => ⟨fun _ => trivial, fun _ => trivial⟩, fun _ => ⟨fun _ => trivial, fun _ => trivial⟩⟩, fun _ => kQ⟩⟩) (fun _ => ⟨fun _ => kQ, fun c => absurd rfl c⟩)⟩
theorem sp_compared {a b c : Int32} {Q : Int32 → Prop} (h : ∀ r, Q r) : wp_compared a b c σ τ vs Q := by
  unfold wp_compared
  exact ⟨fun _ => ⟨fun _ => ⟨fun _ => ⟨fun _ => h _, fun _ => h _⟩, fun _ => ⟨fun _ => h _, fun _ => h _⟩⟩, fun _ => ⟨fun _ => h _, fun _ => h _⟩⟩, fun _ => ⟨fun _ => h _, fun _ => h _⟩⟩
theorem sp_work {a b c : Int32} {Q : Int32 → Prop} (hz : a.toInt = 39 ∨ a.toInt = 40 → c.toInt ≠ 0) (h : ∀ r, Q r) : wp_work a b c σ τ vs Q := by
  have hz2 : a.toInt = 39 ∨ a.toInt = 40 → ¬ c = 0 := fun q e => hz q (by rw [e]; rfl)
  unfold wp_work
  refine ⟨True, fun _ => ⟨fun _ => True, fun _ _ => ⟨fun _ => True, fun _ _ => ⟨fun _ => True, fun _ _ => sp_compared (fun _ => ⟨fun _ => h _, fun _ => h _⟩), fun _ => trivial, fun _ => trivial⟩, fun _ => trivial, fun _ => trivial⟩, fun _ => trivial, fun _ => trivial⟩, fun _ => ⟨fun _ => h _, fun _ => h _⟩, fun _ => ⟨fun _ => ⟨fun _ => h _, fun _ => h _⟩, fun _ => ?_⟩⟩
  iterate 2 refine ⟨fun _ => trivial, fun _ => ?_⟩
  iterate 2 refine ⟨fun _ => h _, fun _ => ?_⟩
  iterate 13 refine ⟨fun _ => trivial, fun _ => ?_⟩
  iterate 3 refine ⟨fun _ => h _, fun _ => ?_⟩
  iterate 2 refine ⟨fun _ => trivial, fun _ => ?_⟩
  iterate 3 refine ⟨fun _ => h _, fun _ => ?_⟩
  exact ⟨fun q => ⟨fun _ => ⟨hz2 (Or.inl q), h _⟩, fun _ => h _⟩, fun _ => ⟨fun q => ⟨fun _ => ⟨hz2 (Or.inr q), h _⟩, fun _ => h _⟩, fun _ => trivial⟩⟩
end OPS
end

section
/-! operators of one and two parts -/
section OPS2
variable {σ s s' τ t : St} {vs z : List Nat}
theorem ev_in {u : Nat} (h : (τ u 1).toInt = 1 ∨ (τ u 1).toInt = 2) : ev τ u = 0 := by unfold ev; rw [if_pos h]
/-- a local gets a cell -/
theorem sp_pointed {v : Nat} {tk : Int32} {N : Nat} {Q : Nat → St → St → List Nat → Prop} (h : PA σ τ) (hp : v ∈ vs) (hl : (τ v 1).toInt = 1 → (τ v 2).toInt < (σ 0 49).toInt) (hw : (σ 0 17).toInt ≤ 499000) (ht : 0 ≤ tk.toInt ∧ tk.toInt < 16002) (hc : vs.length < CAP) (hN : 1 ≤ N) (k : ∀ u s t z, ROx σ τ vs N (ev τ v) 0 u s t z → Q u s t z) : wp_pointed v tk σ τ vs Q := by
  have h0 := h.2.2.1.2.2.2.2.1
  obtain ⟨⟨v1, v2⟩, ⟨v3, v4⟩, -, -, v5, -⟩ := h.2.2.2.2 v
  have nm : (τ v 0).toInt < 9 → 0 ≤ (τ v 0).toInt → ((τ v 0) + (1 : Int32)).toInt = (τ v 0).toInt + 1 := fun c1 c2 => ad1 (by omega)
  unfold wp_pointed
  refine ⟨hp, fun y => y.toInt ≠ 0 → (τ v 1).toInt ≠ 0 ∧ 0 ≤ (τ v 0).toInt ∧ (τ v 0).toInt < 9, fun y _ hy => sp_must ht (fun s hs hf => ⟨fun w => w.toInt ≠ -1, fun w hww => sp_made hp hp hc ht (fun q s' t hgt hq hv hs' => ?_), fun _ => by decide, fun c => ⟨hp, ?_⟩⟩), ⟨True, fun _ c => absurd rfl c, fun _ => trivial, fun c1 => ⟨fun _ => trivial, fun c2 => ⟨fun _ => trivial, fun c3 _ => ⟨c1, c2, c3⟩⟩⟩⟩⟩
  rotate_left 1
  · obtain ⟨g1, g2, g3⟩ := hy c
    have := nm g3 g2
    show (_ + (1 : Int32)).toInt ≠ -1
    omega
  have sq := sq_tr (sq_tl hs) (sq_tl hs')
  have hwc := sq_wc sq h0
  have hv1 : v ∈ vs ++ [q] := by simp [hp]
  have ne : v ≠ q := fun e => hq (e ▸ hp)
  have tv : ∀ j, t v j = τ v j := fun j => by rw [hv.1 v ne]
  have ok : ∀ {s9 : St} {n : Int}, SQ s' s9 n → (s9 0 12).toInt = 0 → (s9 0 15).toInt = 0 → (τ v 1).toInt ≠ 0 ∧ 0 ≤ (τ v 0).toInt ∧ (τ v 0).toInt < 9 := fun p f1 f2 => hy (hf (of0 hs'.2 (of0 p.2.1 f1)) (sil_sq (sq_tr (sq_tl hs') p) f2))
  have e1 := ev_nv hv hww
  have te0 : TE σ s' N (ev τ v) (ev τ v) := te_sq h0 (sq_tl hs) (sq_tl hs') (te_tl h0 hs) (te_tl (sq_wc (sq_tl hs) h0).1 hs')
  have ei : (s' 0 39) = (σ 0 39) := sq.1 _ _ rfl rfl
  have nohow : ∀ t' : St, t' q 1 = t q 1 → (t' q 1).toInt = 1 → False := fun t' e c => by
    rw [e, (nv_at hv).2.1] at c
    exact absurd c (by decide)
  refine ⟨hv1, fun s9 t9 z9 => t = t9 ∧ vs ++ [q] = z9 ∧ ((τ v 1).toInt ≠ 1 → s9 = s') ∧ ((τ v 1).toInt = 1 → RL σ vs s9 τ vs ∧ (s9 0 17).toInt ≤ (σ 0 17).toInt + 2 ∧ (s9 0 39).toInt = (σ 0 39).toInt ∧ TE σ s9 N 0 1), ?_, ?_, ?_⟩
  · rintro s9 _ _ ⟨rfl, rfl, g1, g2⟩
    refine ⟨hv1, fun c => ?_, fun c => ?_⟩
    · rw [tv] at c
      have e := g1 (by omega)
      subst e
      have sqw := hwc.2.1
      refine sp_put_1 hwc.1 (by omega) (fun s2 hp2 => ⟨by simp, ?_⟩)
      have sq2 := sq_tr sq (sq_pu hp2)
      have key : ∀ t', VNw τ q t' → t' q 1 = t q 1 → ev t' q = 1 → Q q s2 t' (vs ++ [q]) := fun t' v1 v2 v3 => by
        refine k _ _ _ _ (rox_new (sq_rl h sq2) hq v1 (fun c => (nohow t' v2 c).elim) ?_ ?_ ?_)
        · have := (sq_wc sq2 h0).2.1
          simp only [List.length_cons, List.length_nil] at this
          omega
        · have e : (s2 0 39) = (σ 0 39) := sq2.1 _ _ rfl rfl
          rw [e]; omega
        · rw [v3, ev_in (Or.inr c)]
          rw [ev_in (Or.inr c)] at te0
          refine te_sq h0 sq (sq_pu hp2) te0 (te_put (n := 2) hwc.1 hp2 rfl (by decide) rfl (k := 1) rfl (fun g' H L x hH hn hx => ⟨?_, hn⟩) hN)
          rw [hx _ rfl, tv]
          omega
      refine ⟨fun _ => ⟨hv1, sp_Vaddress (by simp) ?_⟩, fun _ => key t (vnw_nv hv) rfl e1⟩
      refine key _ (vnw_addr (vnw_nv hv) ?_) how_addr (by rw [ev_addr]; exact e1)
      rw [tv, ad1 (by omega)]
      omega
    · rw [tv] at c
      by_cases c1 : (τ v 1).toInt = 1
      · obtain ⟨r1, r2, r3, r4⟩ := g2 c1
        refine k _ _ _ _ (rox_new r1 hq (vnw_nv hv) (fun c => (nohow t rfl c).elim) (by omega) (by omega) ?_)
        rw [ev_in (Or.inl c1), e1]
        exact r4
      · have e := g1 c1
        subst e
        refine k _ _ _ _ (rox_new (sq_rl h sq) hq (vnw_nv hv) (fun c => (nohow t rfl c).elim) (by omega) (by rw [ei]; omega) ?_)
        refine te_if (ok sq_rf) (fun g => ?_)
        have e3 : ev τ v = 1 := ev_1 (by omega) (by omega)
        rw [e3] at te0
        rw [e1, e3]
        exact te0
  · intro c
    rw [tv] at c
    exact ⟨rfl, rfl, fun _ => rfl, fun c2 => absurd c2 c⟩
  · intro c
    rw [tv] at c
    rw [tv]
    refine ⟨by omega, ?_⟩
    have r0 := sq_rl (vs := vs) h sq
    have w0 : ((upC s' 33 (τ v 2).toNatClampNeg (vp_nar .boolean (1 : Int32))) 0 17) = (s' 0 17) := rfl
    have r1 : RL σ vs (upC s' 33 (τ v 2).toNatClampNeg (vp_nar .boolean (1 : Int32))) τ vs := rl_mk h (kp_a r0.1 rfl) (sq.1 0 10 rfl rfl) r0.2.2.2.2.2.1 (fun j hj => sq.2.2.1 j hj) r0.2.2.2.2.2.2.1 r0.2.1.2.2.1.2.2.2.1 r0.2.1.2.2.2.1.2.2.1 (mon_of (funext (fun j => sq.1 14 j rfl rfl)) (funext (fun j => sq.1 21 j rfl rfl))) r0.2.2.2.2.1 (ie_of (funext (fun j => sq.1 25 j rfl rfl)) (sq.1 _ _ rfl rfl) (sq.1 _ _ rfl rfl)) h.2.2.2.2 (fun _ h => h) (Nat.le_refl _)
    refine sp_put_1 (by rw [w0]; exact hwc.1) (by rw [w0]; omega) (fun s2 hp2 => ⟨rfl, rfl, fun c2 => absurd c c2, fun _ => ?_⟩)
    have r2 := rl_pu (vs := vs) r1.2.1 hp2 h.2.2.2.2 (fun _ h => h) (Nat.le_refl _)
    refine ⟨rl_tr r1 r2, ?_, ?_, ?_⟩
    · have := hp2.2.1
      rw [w0] at this
      simp only [List.length_cons, List.length_nil] at this
      omega
    · have : (s2 0 39) = (s' 0 39) := hp2.1 0 39 rfl rfl
      rw [this, ei]
    · have wσ : wcn σ ≤ wcn s' := hwc.2.2
      have t1 : TE σ (upC s' 33 (τ v 2).toNatClampNeg (vp_nar .boolean (1 : Int32))) N 0 0 := by
        refine te_same h0 ?_ r1.2.2.1 (ev_ke r1.1 r1.2.2.2.1)
        rw [w0]
        have a1 : (s' 0 17) = (s 0 17) := hs'.1 _ _ rfl rfl
        have a2 : (s 0 17) = (σ 0 17) := hs.1 _ _ rfl rfl
        rw [a1, a2]
      refine te_tr t1 (te_put (n := 2) (by rw [w0]; exact hwc.1) hp2 rfl (by decide) rfl (k := 4) rfl (fun g' H L x hH hn hx => ⟨?_, hn⟩) hN) wσ r2.2.2.2.2.1 (hp2.1 _ _ rfl rfl)
      rw [hx _ rfl]
      have e4 : (s2 0 49) = (σ 0 49) := (hp2.1 0 49 rfl rfl).trans (sq.1 0 49 rfl rfl)
      rw [e4]
      exact ⟨v3, hl c⟩
theorem sp_stepped {v : Nat} {op mode tk : Int32} {N : Nat} {Q : Nat → St → St → List Nat → Prop} (h : PA σ τ) (hp : v ∈ vs) (hl : (τ v 1).toInt = 1 → (τ v 2).toInt < (σ 0 49).toInt) (hw : (σ 0 17).toInt ≤ 499000) (ht : 0 ≤ tk.toInt ∧ tk.toInt < 16002) (hc : vs.length < CAP) (hN : 1 ≤ N) (k : ∀ u s t z, ROx σ τ vs N (ev τ v) 0 u s t z → Q u s t z) : wp_stepped v op mode tk σ τ vs Q := by
  have h0 := h.2.2.1.2.2.2.2.1
  obtain ⟨⟨v1, v2⟩, ⟨v3, v4⟩, -, -, v5, -⟩ := h.2.2.2.2 v
  unfold wp_stepped
  refine ⟨hp, fun y => y.toInt ≠ 0 → (τ v 1).toInt ≠ 0 ∧ 0 ≤ (τ v 0).toInt, fun y _ hy => sp_must ht (fun s hs hf => ⟨fun w => w.toInt = (τ v 0).toInt ∨ w.toInt = -2, fun w hww => sp_made hp hp hc ht (fun q s' t hgt hq hv hs' => ?_), fun _ => Or.inr (by decide), fun c => ⟨hp, Or.inl rfl⟩⟩), ⟨True, fun _ c => absurd rfl c, fun _ => trivial, fun c1 => ⟨fun _ => trivial, fun c2 _ => ⟨c1, c2⟩⟩⟩⟩
  have sq := sq_tr (sq_tl hs) (sq_tl hs')
  have hwc := sq_wc sq h0
  have hv1 : v ∈ vs ++ [q] := by simp [hp]
  have ne : v ≠ q := fun e => hq (e ▸ hp)
  have tv : ∀ j, t v j = τ v j := fun j => by rw [hv.1 v ne]
  have te0 : TE σ s' N (ev τ v) (ev τ v) := te_sq h0 (sq_tl hs) (sq_tl hs') (te_tl h0 hs) (te_tl (sq_wc (sq_tl hs) h0).1 hs')
  have nohow : (t q 1).toInt = 1 → False := fun c => by
    rw [(nv_at hv).2.1] at c
    exact absurd c (by decide)
  refine ⟨fun _ => True, fun w2 _ => ⟨hv1, fun s9 t9 z9 => t = t9 ∧ vs ++ [q] = z9 ∧ ((τ v 1).toInt ≠ 2 → s9 = s') ∧ ((τ v 1).toInt = 2 → PU s' s9 [1, (τ v 2)]), ?_, ?_, ?_⟩, fun _ => trivial, fun _ => trivial⟩
  · rintro s9 _ _ ⟨rfl, rfl, g1, g2⟩
    have sq9 : SQ s' s9 2 := by
      by_cases c : (τ v 1).toInt = 2
      · exact sq_pu (g2 c)
      · rw [g1 c]
        exact ⟨kp_rf, of_rf, fun _ _ => rfl, Int.le_refl _, by omega⟩
    have hwc9 := sq_wc sq9 hwc.1
    refine ⟨hv1, fun s8 t8 z8 => t = t8 ∧ vs ++ [q] = z8 ∧ (((τ v 1).toInt ≠ 1 ∧ ∃ l, PU s9 s8 [22, l, w2]) ∨ ((τ v 1).toInt = 1 ∧ PU s9 s8 [23, (τ v 2), w2])), ?_, ?_, ?_⟩
    · rintro s8 _ _ ⟨rfl, rfl, g3⟩
      have wr : ∃ a b, PU s9 s8 [a, b, w2] := by
        rcases g3 with ⟨-, l, g3⟩ | ⟨-, g3⟩
        · exact ⟨_, _, g3⟩
        · exact ⟨_, _, g3⟩
      obtain ⟨wa, wb, wr⟩ := wr
      have hwc8 := sq_wc (sq_pu wr) hwc9.1
      simp only [List.length_cons, List.length_nil] at hwc8
      refine sp_put_0 hwc8.1 (by omega) (fun s2 hp2 => ?_)
      have pu4 := pu_tr hwc9.1 wr hp2
      have sq2 := sq_tr sq (sq_tr sq9 (sq_pu pu4))
      refine k _ _ _ _ (rox_new (sq_rl h sq2) hq (vnw_nv hv) (fun c => (nohow c).elim) ?_ ?_ ?_)
      · have := (sq_wc sq2 h0).2.1
        simp only [List.length_append, List.length_cons, List.length_nil] at this
        omega
      · have e : (s2 0 39) = (σ 0 39) := sq2.1 _ _ rfl rfl
        rw [e]; omega
      · refine te_if (P := (τ v 1).toInt ≠ 0 ∧ 0 ≤ (τ v 0).toInt) (fun f1 f2 => hy (hf (of0 hs'.2 (of0 (sq_tr sq9 (sq_pu pu4)).2.1 f1)) (sil_sq (sq_tr (sq_tl hs') (sq_tr sq9 (sq_pu pu4))) f2))) (fun g => ?_)
        have e1 : ev t q = 1 := ev_nv hv (by rcases hww with e | e <;> omega)
        rw [e1]
        rcases g3 with ⟨c, l, g3⟩ | ⟨c, g3⟩
        · have pu4' := pu_tr hwc9.1 g3 hp2
          have t3 : TE s9 s2 N 1 1 := te_put (n := 4) hwc9.1 pu4' rfl (by decide) rfl (k := 22) rfl (fun g' H L x hH hn hx => ⟨by omega, hn⟩) hN
          by_cases c2 : (τ v 1).toInt = 2
          · rw [ev_in (Or.inr c2)] at te0 ⊢
            refine te_sq h0 sq (sq_tr sq9 (sq_pu pu4)) te0 (te_sq hwc.1 sq9 (sq_pu pu4) (te_put (n := 2) hwc.1 (g2 c2) rfl (by decide) rfl (k := 1) rfl (fun g' H L x hH hn hx => ⟨?_, hn⟩) hN) t3)
            rw [hx _ rfl]
            omega
          · have e3 : ev τ v = 1 := ev_1 (by omega) (by omega)
            rw [e3] at te0 ⊢
            have e9 := g1 c2
            subst e9
            exact te_sq h0 sq (sq_pu pu4) te0 t3
        · rw [ev_in (Or.inl c)] at te0 ⊢
          have e9 := g1 (by omega)
          subst e9
          have pu4' := pu_tr hwc9.1 g3 hp2
          refine te_sq h0 sq (sq_pu pu4) te0 (te_put (n := 4) hwc9.1 pu4' rfl (by decide) rfl (k := 23) rfl (fun g' H L x hH hn hx => ⟨?_, hn⟩) hN)
          rw [hx _ rfl]
          have e4 : (s2 0 49) = (σ 0 49) := sq2.1 _ _ rfl rfl
          rw [e4]
          exact ⟨v3, hl c⟩
    · intro c
      rw [tv] at c
      exact ⟨ht, sp_put_2 hwc9.1 (by omega) (fun s2 hp2 => ⟨rfl, rfl, Or.inl ⟨c, _, hp2⟩⟩)⟩
    · intro c
      rw [tv] at c
      rw [tv]
      exact sp_put_2 hwc9.1 (by omega) (fun s2 hp2 => ⟨rfl, rfl, Or.inr ⟨c, hp2⟩⟩)
  · intro c
    rw [tv] at c
    exact ⟨rfl, rfl, fun _ => rfl, fun c2 => absurd c2 c⟩
  · intro c
    rw [tv] at c
    rw [tv]
    exact sp_put_1 hwc.1 (by omega) (fun s2 hp2 => ⟨rfl, rfl, fun c2 => absurd c c2, fun _ => hp2⟩)
end OPS2
end

section
/-! operators of two parts -/
section TWO
variable {σ s s' τ t : St} {vs z : List Nat}
def rkf (x : Int) : Int := if x = 10 then 1 else if x = 11 then 2 else if x = 31 then 3 else if x = 32 then 4 else if x = 33 then 5 else if x = 12 ∨ x = 13 then 6 else if x = 14 ∨ x = 15 ∨ x = 34 ∨ x = 35 then 7 else if x = 16 ∨ x = 17 then 8 else if x = 36 ∨ x = 37 then 9 else if x = 38 ∨ x = 39 ∨ x = 40 then 10 else 0
theorem rkf_rng (x : Int) : 0 ≤ rkf x ∧ rkf x ≤ 10 ∧ (rkf x ≠ 0 → 10 ≤ x ∧ x ≤ 40) := by
  unfold rkf
  repeat' split
  all_goals omega
theorem sp_rank {op : Int32} {Q : Int32 → Prop} (h : ∀ r : Int32, r.toInt = rkf op.toInt → Q r) : wp_rank op σ τ vs Q := by
  have g : ∀ (r : Int32) (n : Int), r.toInt = n → n = rkf op.toInt → Q r := fun r n h1 h2 => h r (h1.trans h2)
  have w : ∀ (n : Int), (∀ x, x = op.toInt → n = rkf x) → n = rkf op.toInt := fun n h => h _ rfl
  unfold wp_rank
  generalize hx : op.toInt = x at *
  clear hx w
  exact ⟨fun _ => ⟨fun _ => ⟨fun _ => ⟨fun _ => ⟨fun _ => ⟨fun _ => g _ 6 rfl (by unfold rkf; repeat' split; all_goals omega), fun _ => ⟨fun _ => ⟨fun _ => g _ 7 rfl (by unfold rkf; repeat' split; all_goals omega), fun _ => ⟨fun _ => g _ 7 rfl (by unfold rkf; repeat' split; all_goals omega), fun _ => ⟨fun _ => g _ 7 rfl (by unfold rkf; repeat' split; all_goals omega), fun _ => ⟨fun _ => ⟨fun _ => g _ 8 rfl (by unfold rkf; repeat' split; all_goals omega), fun _ => ⟨fun _ => ⟨fun _ => g _ 9 rfl (by unfold rkf; repeat' split; all_goals omega), fun _ => ⟨fun _ => ⟨fun _ => g _ 10 rfl (by unfold rkf; repeat' split; all_goals omega), fun _ => ⟨fun _ => g _ 10 rfl (by unfold rkf; repeat' split; all_goals omega), fun _ => ⟨fun _ => g _ 0 rfl (by unfold rkf; repeat' split; all_goals omega), fun _ => g _ 10 rfl (by unfold rkf; repeat' split; all_goals omega)⟩⟩⟩, fun _ => g _ 9 rfl (by unfold rkf; repeat' split; all_goals omega)⟩⟩, fun _ => g _ 8 rfl (by unfold rkf; repeat' split; all_goals omega)⟩⟩, fun _ => g _ 7 rfl (by unfold rkf; repeat' split; all_goals omega)⟩⟩⟩⟩, fun _ => g _ 6 rfl (by unfold rkf; repeat' split; all_goals omega)⟩⟩, fun _ => g _ 5 rfl (by unfold rkf; repeat' split; all_goals omega)⟩, fun _ => g _ 4 rfl (by unfold rkf; repeat' split; all_goals omega)⟩, fun _ => g _ 3 rfl (by unfold rkf; repeat' split; all_goals omega)⟩, fun _ => g _ 2 rfl (by unfold rkf; repeat' split; all_goals omega)⟩, fun _ => g _ 1 rfl (by unfold rkf; repeat' split; all_goals omega)⟩
theorem sp_typeOf {op : Int32} {a b : Nat} {Q : Int32 → Prop} (hV : VOK τ) (ha : a ∈ vs) (hb : b ∈ vs) (h : ∀ r : Int32, r.toInt ≠ -1 → (r.toInt ≠ -2 → (τ a 0).toInt ≠ -1 ∧ (τ b 0).toInt ≠ -1) → Q r) : wp_typeOf op a b σ τ vs Q := by
  have q2 : Q (-2) := h _ (by decide) (fun c => absurd rfl c)
  have q0 : (τ a 0).toInt ≠ -1 → (τ b 0).toInt ≠ -1 → Q 0 := fun c1 c2 => h _ (by decide) (fun _ => ⟨c1, c2⟩)
  have za := (hV a).2.2.2.2.2
  have zb := (hV b).2.2.2.2.2
  have n0 : ∀ {P : Prop}, ((0 : Int32).toInt ≠ 0 → P) := fun c => absurd rfl c
  have n1 : ∀ {P : Prop}, ((1 : Int32).toInt = 0 → P) := fun c => absurd c (by decide)
  unfold wp_typeOf
  have e1 : wp_isInt a σ τ vs (fun v => (v.toInt = 0 → True) ∧ (v.toInt ≠ 0 → True)) → True := fun _ => trivial
  refine sp_isInt ha (fun ca => ⟨fun y => y.toInt ≠ 0 → (τ a 0).toInt = 0 ∧ (τ b 0).toInt = 0, fun y0 _ hy0 => ?_, ⟨True, fun _ => n0, n1, fun _ => sp_isInt hb (fun cb => ⟨n1, fun _ _ => ⟨ca, cb⟩⟩) (fun _ => ⟨fun _ => trivial, n0⟩)⟩⟩) (fun ca => ⟨fun y => y.toInt ≠ 0 → (τ a 0).toInt = 0 ∧ (τ b 0).toInt = 0, fun y0 _ hy0 => ?_, ⟨True, fun _ => n0, fun _ => trivial, n0⟩⟩)
  all_goals
    have A : y0.toInt ≠ 0 → Q 0 := fun c => q0 (by have := hy0 c; omega) (by have := hy0 c; omega)
    have pt : ∀ {P : Int32 → Prop}, (∀ y1 : Int32, (y1.toInt ≠ 0 → 0 < (τ a 0).toInt ∧ (τ a 0).toInt = (τ b 0).toInt) → P y1) → wp_isPointer a σ τ vs (fun v21 => (∃ J43 : Int32 → Prop, (∀ (y0_43 : Int32), y0_43 = 0 ∨ y0_43 = 1 → J43 y0_43 → P y0_43) ∧ (∃ J42 : Prop, (J42 → (J43 (0 : Int32))) ∧ (v21.toInt = 0 → J42) ∧ (v21.toInt ≠ 0 → (a ∈ vs ∧ (b ∈ vs ∧ ((τ a 0).toInt ≠ (τ b 0).toInt → J42) ∧ ((τ a 0).toInt = (τ b 0).toInt → J43 (1 : Int32)))))))) := fun hP => sp_isPointer ha (fun cp => ⟨fun y => y.toInt ≠ 0 → 0 < (τ a 0).toInt ∧ (τ a 0).toInt = (τ b 0).toInt, fun y1 _ hy1 => hP y1 hy1, ⟨True, fun _ => n0, n1, fun _ => ⟨ha, hb, fun _ => trivial, fun ce _ => ⟨cp, ce⟩⟩⟩⟩) (fun cp => ⟨fun y => y.toInt ≠ 0 → 0 < (τ a 0).toInt ∧ (τ a 0).toInt = (τ b 0).toInt, fun y1 _ hy1 => hP y1 hy1, ⟨True, fun _ => n0, fun _ => trivial, n0⟩⟩)
    refine pt (fun y1 hy1 => ?_)
    have B : y1.toInt ≠ 0 → Q 0 := fun c => q0 (by have := hy1 c; omega) (by have := hy1 c; omega)
    refine ⟨fun _ => ⟨fun _ => ⟨True, fun _ => ⟨A, fun _ => ⟨B, fun _ => ?_⟩⟩, fun _ => trivial, fun _ => ⟨fun _ => sp_rank (fun r _ => ⟨fun _ => ⟨fun _ => q2, A⟩, fun _ => ⟨A, fun _ => ⟨fun _ => q2, B⟩⟩⟩), fun _ => trivial⟩⟩, fun _ => ⟨A, fun _ => ⟨fun _ => ?_, B⟩⟩⟩, fun _ => ⟨fun _ => ?_, A⟩⟩
    · have e2 : wp_isPointer b σ τ vs (fun v183 => (v183.toInt = 0 → Q ((-2) : Int32)) ∧ (v183.toInt ≠ 0 → (a ∈ vs ∧ ((τ a 5).toInt = 0 → Q ((-2) : Int32)) ∧ ((τ a 5).toInt ≠ 0 → Q (0 : Int32))))) := sp_isPointer hb (fun c => ⟨n1, fun _ => ⟨ha, fun _ => q2, fun cz => q0 (by have := za cz; omega) (by omega)⟩⟩) (fun _ => ⟨fun _ => q2, n0⟩)
      exact sp_isPointer ha (fun c => ⟨True, fun _ => e2, n1, fun _ => ⟨hb, fun cz => q0 (by omega) (by have := zb cz; omega), fun _ => trivial⟩⟩) (fun c => ⟨True, fun _ => e2, fun _ => trivial, n0⟩)
    · exact sp_isPointer ha (fun c => ⟨n1, fun _ => sp_isInt hb (fun c2 => ⟨n1, fun _ => ⟨ha, h _ (by omega) (fun _ => ⟨by omega, by omega⟩)⟩⟩) (fun _ => ⟨fun _ => q2, n0⟩)⟩) (fun _ => ⟨fun _ => q2, n0⟩)
    · have e2 : wp_isInt a σ τ vs (fun v81 => (v81.toInt = 0 → Q ((-2) : Int32)) ∧ (v81.toInt ≠ 0 → wp_isPointer b σ τ vs (fun v88 => (v88.toInt = 0 → Q ((-2) : Int32)) ∧ (v88.toInt ≠ 0 → (b ∈ vs ∧ Q (τ b 0)))))) := sp_isInt ha (fun c => ⟨n1, fun _ => sp_isPointer hb (fun c2 => ⟨n1, fun _ => ⟨hb, h _ (by omega) (fun _ => ⟨by omega, by omega⟩)⟩⟩) (fun _ => ⟨fun _ => q2, n0⟩)⟩) (fun _ => ⟨fun _ => q2, n0⟩)
      exact sp_isPointer ha (fun c => ⟨True, fun _ => e2, n1, fun _ => sp_isInt hb (fun c2 => ⟨n1, fun _ => ⟨ha, h _ (by omega) (fun _ => ⟨by omega, by omega⟩)⟩⟩) (fun _ => ⟨fun _ => trivial, n0⟩)⟩) (fun c => ⟨True, fun _ => e2, fun _ => trivial, n0⟩)
theorem sp_two {op : Int32} {a b : Nat} {tk : Int32} {N : Nat} {Q : Nat → St → St → List Nat → Prop} (h : PA σ τ) (ha : a ∈ vs) (hb : b ∈ vs) (hha : (τ a 1).toInt = 0) (hhb : (τ b 1).toInt = 0) (hw : (σ 0 17).toInt ≤ 499000) (ht : 0 ≤ tk.toInt ∧ tk.toInt < 16002) (hc : vs.length < CAP) (hN : 2 ≤ N) (k : ∀ u s t z, ROx σ τ vs N (ev τ a + ev τ b) 0 u s t z → Q u s t z) : wp_two op a b tk σ τ vs Q := by
  have h0 := h.2.2.1.2.2.2.2.1
  have hV := h.2.2.2.2
  have n0 : ∀ {P : Prop}, ((0 : Int32).toInt ≠ 0 → P) := fun c => absurd rfl c
  have n1 : ∀ {P : Prop}, ((1 : Int32).toInt = 0 → P) := fun c => absurd c (by decide)
  unfold wp_two
  refine sp_typeOf hV ha hb (fun ty hty1 hty2 => ⟨fun y => y.toInt ≠ 0 → (τ a 0).toInt ≠ -1 ∧ (τ b 0).toInt ≠ -1, fun y _ hy => sp_must ht (fun s hs hf => sp_made ha hb hc ht (fun q s' t hgt hq hv hs' => sp_rank (fun r _ => ⟨fun _ => True, fun y2 _ _ => ⟨fun _ => True, fun y3 _ => ⟨ht, ?_⟩, fun _ => trivial, fun _ => trivial⟩, ⟨True, fun _ => trivial, fun _ => trivial, fun _ => sp_isPointer (by simp [ha]) (fun _ => ⟨fun _ => trivial, fun _ => trivial⟩) (fun _ => ⟨fun _ => trivial, fun _ => trivial⟩)⟩⟩))), fun _ => n0, fun c _ => hty2 c⟩)
  have sq := sq_tr (sq_tl hs) (sq_tl hs')
  have hwc := sq_wc sq h0
  refine sp_put_2 hwc.1 (by omega) (fun s2 hp2 => ?_)
  have sq2 := sq_tr sq (sq_pu hp2)
  have za : a ∈ vs ++ [q] := by simp [ha]
  have zb : b ∈ vs ++ [q] := by simp [hb]
  have zq : q ∈ vs ++ [q] := by simp
  have nea : a ≠ q := fun e => hq (e ▸ ha)
  have neb : b ≠ q := fun e => hq (e ▸ hb)
  have key : ∀ t', VNw τ q t' → (t' q 1) = 0 → ev t' q = 1 → Q q s2 t' (vs ++ [q]) := fun t' v1 v2 v3 => by
    refine k _ _ _ _ (rox_new (sq_rl h sq2) hq v1 (fun c => ?_) ?_ ?_ ?_)
    · rw [v2] at c
      exact absurd c (by decide)
    · have := (sq_wc sq2 h0).2.1
      simp only [List.length_cons, List.length_nil] at this
      omega
    · have e : (s2 0 39) = (σ 0 39) := sq2.1 _ _ rfl rfl
      rw [e]; omega
    · refine te_if (P := (τ a 0).toInt ≠ -1 ∧ (τ b 0).toInt ≠ -1) (fun f1 f2 => hy (hf (of0 hs'.2 (of0 (sq_pu hp2).2.1 f1)) (sil_sq (sq_tr (sq_tl hs') (sq_pu hp2)) f2))) (fun c => ?_)
      refine te_eq (a' := 2) (by rw [ev_st hha c.1, ev_st hhb c.2]) v3 (te_sq h0 sq (sq_pu hp2) (te_sq h0 (sq_tl hs) (sq_tl hs') (te_tl h0 hs) (te_tl (sq_wc (sq_tl hs) h0).1 hs')) ?_)
      refine te_put (n := 3) hwc.1 hp2 rfl (by decide) rfl (k := 11) rfl (fun g' H L x hH hn hx => ⟨by omega, ?_⟩) (by omega)
      have e9 : H + 2 - 1 = H + 1 := by omega
      rw [e9]
      exact hn
  have e1 := ev_nv hv hty1
  have hhow := (nv_at hv).2.1
  have kQ : Q q s2 t (vs ++ [q]) := key t (vnw_nv hv) hhow e1
  have kC : ∀ v, wp_Vconstant q v s2 t (vs ++ [q]) (fun u s t z => Q u s t z) := fun v => sp_Vconstant zq (key _ (vnw_const (vnw_nv hv)) (by rw [how_const]; exact hhow) (by rw [ev_const]; exact e1))
  have kA : ∀ w v, (τ w 8).toInt ≤ 100 → w ≠ q → wp_Vaddress q (t w 8) v s2 t (vs ++ [q]) (fun u s t z => Q u s t z) := fun w v hb9 hw9 => sp_Vaddress zq (key _ (vnw_addr (vnw_nv hv) (by rw [hv.1 w hw9]; exact hb9)) (by rw [how_addr]; exact hhow) (by rw [ev_addr]; exact e1))
  have ba := (hV a).2.2.2.1
  have bb := (hV b).2.2.2.1
  have J197 : ∀ y0 : Int32, (∃ J257 : Prop, (J257 → ((y0.toInt = 0 → Q q s2 t (vs ++ [q])) ∧ (y0.toInt ≠ 0 → ((t a 6).toInt ≠ 1 → Q q s2 t (vs ++ [q])) ∧ ((t a 6).toInt = 1 → (b ∈ (vs ++ [q]) ∧ ((t b 6).toInt ≠ 2 → Q q s2 t (vs ++ [q])) ∧ ((t b 6).toInt = 2 → wp_Vaddress q (t b 8) ((t a 7) + (t b 7)) s2 t (vs ++ [q]) (fun u293 s293 t293 z293 => Q u293 s293 t293 z293))))))) ∧ (y0.toInt = 0 → J257) ∧ (y0.toInt ≠ 0 → ((t a 6).toInt ≠ 2 → J257) ∧ ((t a 6).toInt = 2 → (b ∈ (vs ++ [q]) ∧ ((t b 6).toInt ≠ 1 → J257) ∧ ((t b 6).toInt = 1 → (∃ J253 : Int32 → Prop, (∀ (y2_253 : Int32), J253 y2_253 → (wp_Vaddress q (t a 8) y2_253 s2 t (vs ++ [q]) (fun u253 s253 t253 z253 => Q u253 s253 t253 z253))) ∧ (op.toInt ≠ 36 → J253 ((t a 7) - (t b 7))) ∧ (op.toInt = 36 → J253 ((t a 7) + (t b 7))))))))) := fun y0 => ⟨True, fun _ => ⟨fun _ => kQ, fun _ => ⟨fun _ => kQ, fun _ => ⟨zb, fun _ => kQ, fun _ => kA b _ bb neb⟩⟩⟩, fun _ => trivial, fun _ => ⟨fun _ => trivial, fun _ => ⟨zb, fun _ => trivial, fun _ => ⟨fun _ => True, fun _ _ => kA a _ ba nea, fun _ => trivial, fun _ => trivial⟩⟩⟩⟩
  refine ⟨zq, fun _ => ⟨za, ⟨True, fun _ => ⟨fun _ => True, fun y0 _ _ => J197 y0, ⟨True, fun _ => trivial, ⟨True, fun _ => sp_isPointer zq (fun _ => ⟨fun _ => trivial, fun _ => trivial⟩) (fun _ => ⟨fun _ => trivial, fun _ => trivial⟩), fun _ => trivial, fun _ => ⟨fun _ => trivial, fun _ => trivial⟩⟩⟩⟩, fun _ => trivial, fun _ => ⟨zb, fun _ => trivial, fun _ => sp_isInt za (fun _ => ⟨fun _ => trivial, fun _ => sp_isInt zb (fun _ => ⟨fun _ => trivial, fun _ => ?_⟩) (fun _ => ⟨fun _ => trivial, n0⟩)⟩) (fun _ => ⟨fun _ => trivial, n0⟩)⟩⟩⟩, fun _ => kQ⟩
  exact ⟨(op.toInt = 39 ∨ op.toInt = 40) → (t b 7).toInt ≠ 0, fun hz => sp_work hz (fun r => kC r), ⟨op.toInt = 39 ∨ op.toInt = 40, fun _ => ⟨fun c _ => c, fun _ => kQ⟩, fun c => Or.inl c, fun c1 => ⟨fun c2 => fun c => by omega, fun c2 => Or.inr c2⟩⟩⟩
end TWO
end

