/-! values, faults, reading a value -/
section PRIM
variable {σ τ : St} {vs : List Nat}
/-- what telling may change -/
def TL (σ s : St) : Prop := Kp [(0, 12), (0, 13)] [] σ s ∧ OF σ s
theorem tl_rf : TL σ σ := ⟨kp_rf, of_rf⟩
theorem tl_tr {s s' : St} (h : TL σ s) (g : TL s s') : TL σ s' := ⟨kp_tr h.1 g.1, of_tr h.2 g.2⟩
theorem sp_tell {n tk : Int32} {Q : St → St → List Nat → Prop} (hn : 0 < n.toInt ∧ n.toInt ≤ 4) (ht : 0 ≤ tk.toInt ∧ tk.toInt < 16002) (k : ∀ s, TL σ s → ((s 0 12).toInt = 0 → (s 0 15).toInt = 0 → False) → Q s τ vs) : wp_tell n tk σ τ vs Q := by
  unfold wp_tell
  refine ⟨fun c => k σ tl_rf (fun q _ => by omega), fun c => ⟨fun c2 => ⟨ht, k _ ⟨kp_f (kp_f kp_rf rfl) rfl, Or.inr ?_⟩ (fun q _ => ?_)⟩, fun c2 => k σ tl_rf (fun _ q => by omega)⟩⟩
  · show 1 ≤ n.toInt ∧ n.toInt ≤ 4
    omega
  · have q2 : n.toInt = 0 := q
    omega
theorem sp_must {y tk : Int32} {Q : St → St → List Nat → Prop} (ht : 0 ≤ tk.toInt ∧ tk.toInt < 16002) (k : ∀ s, TL σ s → ((s 0 12).toInt = 0 → (s 0 15).toInt = 0 → y.toInt ≠ 0) → Q s τ vs) : wp_must y tk σ τ vs Q := by
  unfold wp_must
  exact ⟨fun c => k σ tl_rf (fun _ _ => c), fun _ => sp_tell (by decide) ht (fun s h1 h2 => k s h1 (fun q1 q2 => (h2 q1 q2).elim))⟩
theorem rl_tl {s t : St} {z : List Nat} (h : PA σ τ) (p : TL σ s) (hv : VOK t) (hz : ∀ u ∈ vs, u ∈ z) (hl : vs.length ≤ z.length) : RL σ vs s t z := by
  have h9 := h
  obtain ⟨h1, h2, ⟨n1, n2, n3, n4, n5, n6, n7⟩, ⟨a1, a2, a3, a4, a5, a6, a7, a8, a9, b1, b2, b3⟩, h5⟩ := h9
  obtain ⟨p1, p2⟩ := p
  have k : KE σ s := kp_sub p1 rfl rfl
  have e1 : (s 0 10) = (σ 0 10) := p1 _ _ rfl rfl
  have e2 : (s 0 8) = (σ 0 8) := p1 _ _ rfl rfl
  have e3 : (s 0 37) = (σ 0 37) := p1 _ _ rfl rfl
  have e4 : (s 0 39) = (σ 0 39) := p1 _ _ rfl rfl
  have e8 : (s 0 17) = (σ 0 17) := p1 _ _ rfl rfl
  have e5 : (s 21) = (σ 21) := funext (fun j => p1 21 j rfl rfl)
  have e6 : (s 3) = (σ 3) := funext (fun j => p1 3 j rfl rfl)
  have e7 : (s 14) = (σ 14) := funext (fun j => p1 14 j rfl rfl)
  refine ⟨k, pa_ke h k (by unfold AtOK; rw [e1, e2]; exact h2) (by rw [e3]; exact n4) (by rw [e8]; exact n5) (by rw [e4]; exact n6) (by rw [e5]; exact a3) hv, fun j _ => p1 8 j rfl rfl, ⟨fun e q => by rw [e7]; exact q, fun n q => by rw [e5]; exact q⟩, p2, by rw [e8]; exact Int.le_refl _, by rw [e4]; exact Int.le_refl _, ?_, hz, hl, ie_of (funext (fun j => p1 25 j rfl rfl)) e4 e3⟩
  unfold pos
  rw [e1, e6]
  exact Int.le_refl _
theorem tl_te {s : St} {N a : Nat} (h : PA σ τ) (p : TL σ s) : TE σ s N a a := by
  obtain ⟨k, -, hr, hm, -⟩ := rl_tl (vs := []) (z := []) h p h.2.2.2.2 (fun _ h => h) (Nat.le_refl _)
  exact te_same h.2.2.1.2.2.2.2.1 (p.1 _ _ rfl rfl) hr (ev_ke k hm)
/-- a new Value: the others stay -/
def VFr (τ : St) (vs : List Nat) (t : St) : Prop := ∀ u ∈ vs, t u = τ u
/-- a new Value of a type, in the stack -/
def NV (τ : St) (q : Nat) (ty hgt : Int32) (t : St) : Prop := (∀ u, u ≠ q → t u = τ u) ∧ t q = fun f => if f = 3 then hgt else if f = 0 then ty else 0
theorem nv_at {q : Nat} {ty hgt : Int32} {t : St} (h : NV τ q ty hgt t) : (t q 0) = ty ∧ (t q 1) = 0 ∧ (t q 2) = 0 ∧ (t q 3) = hgt ∧ (t q 4) = 0 ∧ (t q 8) = 0 ∧ (t q 6) = 0 ∧ (t q 5) = 0 := by
  rw [h.2]
  exact ⟨rfl, rfl, rfl, rfl, rfl, rfl, rfl, rfl⟩
theorem vok_nv {q : Nat} {ty hgt : Int32} {t : St} (h : VOK τ) (p : NV τ q ty hgt t) : VOK t := fun u => by
  by_cases e : u = q
  · subst e
    obtain ⟨e1, e2, e3, e4, e5, e6, e7, e8⟩ := nv_at p
    rw [e2, e3, e5, e6, e8]
    refine ⟨by decide, by decide, by decide, by decide, fun c => absurd rfl c, fun c => absurd rfl c⟩
  · rw [p.1 u e]
    exact h u
theorem vfr_nv {q : Nat} {ty hgt : Int32} {t : St} (hq : q ∉ vs) (p : NV τ q ty hgt t) : VFr τ vs t := fun u hu => p.1 u (fun e => hq (e ▸ hu))
theorem sp_Vinit {q : Nat} {ty : Int32} {z : List Nat} {Q : St → St → List Nat → Prop} (k : ∀ t, NV τ q ty 1 t → Q σ t (z ++ [q])) : wp_Vinit q ty σ (upF τ q (fun _ => 0)) (z ++ [q]) Q := by
  unfold wp_Vinit
  refine ⟨by simp, k _ ⟨fun u hu => ?_, ?_⟩⟩
  · show upF (upF (upF τ q _) q _) q _ u = _
    rw [upF_ne hu, upF_ne hu, upF_ne hu]
  · funext f
    show upC (upC (upF τ q (fun _ => 0)) q 3 1) q 0 ty q f = _
    rw [rdA, rdA]
    by_cases c0 : f = 0
    · subst c0; rfl
    · rw [if_neg c0]
      by_cases c3 : f = 3
      · rw [if_pos c3, if_pos c3]
      · rw [if_neg c3, if_neg c3, if_neg c0]
        show upF τ q _ q f = 0
        rw [upF_same]
theorem sp_isPointer {u : Nat} {Q : Int32 → Prop} (hu : u ∈ vs) (h1 : 0 < (τ u 0).toInt → Q 1) (h0 : (τ u 0).toInt ≤ 0 → Q 0) : wp_isPointer u σ τ vs Q := by
  unfold wp_isPointer
  exact ⟨hu, h0, h1⟩
theorem sp_isInt {u : Nat} {Q : Int32 → Prop} (hu : u ∈ vs) (h1 : (τ u 0).toInt = 0 → Q 1) (h0 : (τ u 0).toInt ≠ 0 → Q 0) : wp_isInt u σ τ vs Q := by
  unfold wp_isInt
  exact ⟨hu, by first | exact ⟨h0, h1⟩ | exact ⟨h1, h0⟩⟩
theorem sp_isAny {u : Nat} {Q : Int32 → Prop} (hu : u ∈ vs) (h1 : 0 ≤ (τ u 0).toInt → Q 1) (h0 : (τ u 0).toInt < 0 → Q 0) : wp_isAny u σ τ vs Q := by
  unfold wp_isAny
  exact ⟨hu, by first | exact ⟨h0, h1⟩ | exact ⟨h1, h0⟩⟩
theorem sp_fits {u : Nat} {ty : Int32} {Q : Int32 → Prop} (hu : u ∈ vs) (h1 : ((τ u 0).toInt = ty.toInt ∨ (0 < ty.toInt ∧ (τ u 5).toInt ≠ 0)) → Q 1) (h0 : Q 0) : wp_fits u ty σ τ vs Q := by
  unfold wp_fits
  exact ⟨hu, fun c => h1 (Or.inl c), fun _ => ⟨fun _ => h0, fun c2 => ⟨fun _ => h0, fun c3 => h1 (Or.inr ⟨c2, c3⟩)⟩⟩⟩
theorem sp_Vconstant {u : Nat} {v : Int32} {Q : Nat → St → St → List Nat → Prop} (hu : u ∈ vs) (k : Q u σ (upC (upC τ u 6 (1 : Int32)) u 7 v) vs) : wp_Vconstant u v σ τ vs Q := by
  unfold wp_Vconstant
  exact ⟨hu, k⟩
theorem sp_Vaddress {u : Nat} {b v : Int32} {Q : Nat → St → St → List Nat → Prop} (hu : u ∈ vs) (k : Q u σ (upC (upC (upC τ u 6 (2 : Int32)) u 8 b) u 7 v) vs) : wp_Vaddress u b v σ τ vs Q := by
  unfold wp_Vaddress
  exact ⟨hu, k⟩
/-- how many values it has on the stack -/
def ev (t : St) (u : Nat) : Nat := if (t u 1).toInt = 1 ∨ (t u 1).toInt = 2 then 0 else if (t u 0).toInt = -1 then 0 else 1
theorem ev_1 {t : St} {u : Nat} (h : (t u 1).toInt = 0 ∨ (t u 1).toInt = 3) (h2 : (t u 0).toInt ≠ -1) : ev t u = 1 := by
  unfold ev
  rw [if_neg (by omega), if_neg h2]
theorem ev_le {t : St} {u : Nat} : ev t u ≤ 1 := by
  unfold ev
  split <;> try omega
  split <;> omega
/-- a value that an operator makes -/
theorem sp_made {ty tk : Int32} {a b : Nat} {Q : Nat → St → St → List Nat → Prop} (ha : a ∈ vs) (hb : b ∈ vs) (hc : vs.length < CAP) (ht : 0 ≤ tk.toInt ∧ tk.toInt < 16002) (k : ∀ q s t hgt, q ∉ vs → NV τ q ty hgt t → TL σ s → Q q s t (vs ++ [q])) : wp_made ty a b tk σ τ vs Q := by
  unfold wp_made
  refine ⟨hc, fun q hq => sp_Vinit (fun t ht' => ⟨by simp [ha], by simp [hb], by simp, ?_⟩)⟩
  have e : ∀ hgt, NV τ q ty hgt (upC t q 3 hgt) := fun hgt => by
    refine ⟨fun u hu => ?_, ?_⟩
    · show upF t q _ u = _
      rw [upF_ne hu, ht'.1 u hu]
    · funext f
      rw [rdA, ht'.2]
      by_cases c : f = 3
      · rw [if_pos c, if_pos c]
      · rw [if_neg c]
        show (if f = 3 then _ else _) = _
        rw [if_neg c, if_neg c]
  exact ⟨fun _ => k q _ _ _ hq (e _) tl_rf, fun _ => sp_tell (by decide) ht (fun s hs _ => k q s _ _ hq (e _) hs)⟩
end PRIM
