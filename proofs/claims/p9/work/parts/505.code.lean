/-! the words put, with the height of the stack and a level at each -/
abbrev Gh : Type := Nat → Option (Nat × Nat)
def Nx (g : Gh) (k pc pc' h' : Nat) : Prop := h' ≤ 546 ∧ ∃ k', g pc' = some (h', k') ∧ (k' < k ∨ (k' = k ∧ pc < pc'))
def OPn (n : Nat) (a : Int) (g : Gh) (nl : Int) (vd : Prop) (C : Int → Nat → Nat → Prop) (pc h k : Nat) : Prop :=
  match n with
  | 0 => Nx g k pc (pc + 2) (h + 1)
  | 1 => (0 ≤ a ∧ a < 100) ∧ Nx g k pc (pc + 2) (h + 1)
  | 2 => Nx g k pc (pc + 2) (h + 1)
  | 3 => (0 ≤ a ∧ a < nl) ∧ Nx g k pc (pc + 2) (h + 1)
  | 4 => (0 ≤ a ∧ a < nl) ∧ Nx g k pc (pc + 2) (h + 1)
  | 5 => 1 ≤ h ∧ Nx g k pc (pc + 2) h
  | 6 => 2 ≤ h ∧ Nx g k pc (pc + 2) (h - 1)
  | 7 => (0 ≤ a ∧ a < nl) ∧ 1 ≤ h ∧ Nx g k pc (pc + 2) h
  | 8 => (0 ≤ a ∧ a < nl) ∧ Nx g k pc (pc + 2) h
  | 9 => 1 ≤ h ∧ Nx g k pc (pc + 1) (h + 1)
  | 10 => 1 ≤ h ∧ Nx g k pc (pc + 1) (h - 1)
  | 11 => 2 ≤ h ∧ Nx g k pc (pc + 3) (h - 1)
  | 12 => 1 ≤ h ∧ Nx g k pc (pc + 1) h
  | 13 => 1 ≤ h ∧ Nx g k pc (pc + 1) h
  | 14 => 1 ≤ h ∧ Nx g k pc (pc + 1) h
  | 15 => 0 ≤ a ∧ Nx g k pc a.toNat h ∧ g (pc + 2) ≠ none
  | 16 => 1 ≤ h ∧ 0 ≤ a ∧ Nx g k pc a.toNat (h - 1) ∧ Nx g k pc (pc + 2) (h - 1)
  | 17 => 1 ≤ h ∧ 0 ≤ a ∧ Nx g k pc a.toNat (h - 1) ∧ Nx g k pc (pc + 2) (h - 1)
  | 18 => h ≤ 546 ∧ ∃ k', g (pc + 2) = some (h, k')
  | 19 => ∃ h', C a h h' ∧ Nx g k pc (pc + 3) h'
  | 20 => h = 0 ∧ vd
  | 21 => h = 1 ∧ ¬ vd
  | 22 => 1 ≤ h ∧ Nx g k pc (pc + 4) h
  | 23 => (0 ≤ a ∧ a < nl) ∧ Nx g k pc (pc + 4) (h + 1)
  | 24 => 1 ≤ h ∧ Nx g k pc (pc + 1) h
  | _ => False
def OPw (w : Nat → Int32) (g : Gh) (nl : Int) (vd : Prop) (C : Int → Nat → Nat → Prop) (pc h k : Nat) : Prop := 0 ≤ (w pc).toInt ∧ OPn (w pc).toInt.toNat (w (pc + 1)).toInt g nl vd C pc h k
theorem nx_mono {g g' : Gh} {k pc pc' h' : Nat} (hg : ∀ q v, g q = some v → g' q = some v) (h : Nx g k pc pc' h') : Nx g' k pc pc' h' := by
  obtain ⟨h1, k', h2, h3⟩ := h
  exact ⟨h1, k', hg _ _ h2, h3⟩
theorem nx_some {g : Gh} {k pc pc' h' : Nat} (h : Nx g k pc pc' h') : g pc' ≠ none := by
  obtain ⟨h1, k', h2, h3⟩ := h
  rw [h2]
  exact fun q => by cases q
theorem opn_mono {n : Nat} {a a' : Int} {g g' : Gh} {nl nl' : Int} {vd vd' : Prop} {C C' : Int → Nat → Nat → Prop} {pc h k : Nat} (hg : ∀ q v, g q = some v → g' q = some v) (ha : (∀ q, pc + 1 < q → g q = none) ∨ a' = a) (hn : nl ≤ nl') (hv : vd ↔ vd') (hC : ∀ a h h', C a h h' → C' a h h') (H : OPn n a g nl vd C pc h k) : OPn n a' g' nl' vd' C' pc h k := by
  have e : ∀ q, pc + 1 < q → g q ≠ none → a' = a := fun q h1 h2 => ha.elim (fun z => absurd (z q h1) h2) id
  have e2 : ∀ {q h' k'}, pc + 1 < q → Nx g k' pc q h' → a' = a := fun h1 h2 => e _ h1 (nx_some h2)
  match n, H with
  | 0, H => exact nx_mono hg H
  | 1, H =>
    cases e2 (by omega) H.2
    exact ⟨H.1, nx_mono hg H.2⟩
  | 2, H => exact nx_mono hg H
  | 3, H =>
    cases e2 (by omega) H.2
    exact ⟨⟨H.1.1, Int.lt_of_lt_of_le H.1.2 hn⟩, nx_mono hg H.2⟩
  | 4, H =>
    cases e2 (by omega) H.2
    exact ⟨⟨H.1.1, Int.lt_of_lt_of_le H.1.2 hn⟩, nx_mono hg H.2⟩
  | 5, H => exact ⟨H.1, nx_mono hg H.2⟩
  | 6, H => exact ⟨H.1, nx_mono hg H.2⟩
  | 7, H =>
    cases e2 (by omega) H.2.2
    exact ⟨⟨H.1.1, Int.lt_of_lt_of_le H.1.2 hn⟩, H.2.1, nx_mono hg H.2.2⟩
  | 8, H =>
    cases e2 (by omega) H.2
    exact ⟨⟨H.1.1, Int.lt_of_lt_of_le H.1.2 hn⟩, nx_mono hg H.2⟩
  | 9, H => exact ⟨H.1, nx_mono hg H.2⟩
  | 10, H => exact ⟨H.1, nx_mono hg H.2⟩
  | 11, H => exact ⟨H.1, nx_mono hg H.2⟩
  | 12, H => exact ⟨H.1, nx_mono hg H.2⟩
  | 13, H => exact ⟨H.1, nx_mono hg H.2⟩
  | 14, H => exact ⟨H.1, nx_mono hg H.2⟩
  | 15, H =>
    cases e _ (by omega) H.2.2
    refine ⟨H.1, nx_mono hg H.2.1, fun q => ?_⟩
    cases q2 : g (pc + 2) with
    | none => exact H.2.2 q2
    | some v =>
      rw [hg _ _ q2] at q
      cases q
  | 16, H =>
    cases e2 (by omega) H.2.2.2
    exact ⟨H.1, H.2.1, nx_mono hg H.2.2.1, nx_mono hg H.2.2.2⟩
  | 17, H =>
    cases e2 (by omega) H.2.2.2
    exact ⟨H.1, H.2.1, nx_mono hg H.2.2.1, nx_mono hg H.2.2.2⟩
  | 18, H =>
    obtain ⟨h0, k', h1⟩ := H
    exact ⟨h0, k', hg _ _ h1⟩
  | 19, H =>
    obtain ⟨h', h1, h2⟩ := H
    cases e2 (by omega) h2
    exact ⟨h', hC _ _ _ h1, nx_mono hg h2⟩
  | 20, H => exact ⟨H.1, hv.mp H.2⟩
  | 21, H => exact ⟨H.1, fun q => H.2 (hv.mpr q)⟩
  | 22, H => exact ⟨H.1, nx_mono hg H.2⟩
  | 23, H =>
    cases e2 (by omega) H.2
    exact ⟨⟨H.1.1, Int.lt_of_lt_of_le H.1.2 hn⟩, nx_mono hg H.2⟩
  | 24, H => exact ⟨H.1, nx_mono hg H.2⟩
def CO (σ : St) (n : Int) (h h' : Nat) : Prop := 0 ≤ n ∧ Fi σ + n < (σ 0 36).toInt ∧ ∃ e : Nat, (e : Int) = Fi σ + n ∧ ((σ 9) e).toInt = 2 ∧ (σ 14) e ≠ 0 ∧ 0 ≤ ((σ 21) n.toNat).toInt ∧ ((σ 15) e).toInt ≤ h ∧ (h' : Int) = h - ((σ 15) e).toInt + (if ((σ 10) e).toInt = -1 then 0 else 1)
def OKc (σ : St) (g : Gh) (pc h k : Nat) : Prop := OPw (σ 8) g (σ 0 49).toInt ((σ 0 55) ≠ 0) (CO σ) pc h k
def TY (σ : St) (g : Gh) (X : Nat → Prop) (E0 H L : Nat) : Prop := E0 ≤ wcn σ ∧ g (wcn σ) = some (H, L) ∧ (∀ q, wcn σ < q → g q = none) ∧ (∀ q, q < E0 → g q = none) ∧ ∀ q h k, g q = some (h, k) → q < wcn σ → ¬ X q → OKc σ g q h k
def Ext (g g' : Gh) (n : Nat) : Prop := ∀ q, q ≤ n → g' q = g q
theorem ext_rf {g : Gh} {n : Nat} : Ext g g n := fun _ _ => rfl
theorem ext_tr {g g' g'' : Gh} {n m : Nat} (h : Ext g g' n) (h2 : Ext g' g'' m) (hm : n ≤ m) : Ext g g'' n := fun q hq => (h2 q (Nat.le_trans hq hm)).trans (h q hq)
/-- words put -/
def PU (σ s : St) (ws : List Int32) : Prop := Kp [(0, 17)] [8] σ s ∧ (s 0 17).toInt = (σ 0 17).toInt + ws.length ∧ (∀ j : Nat, (j : Int) < (σ 0 17).toInt → (s 8) j = (σ 8) j) ∧ ∀ i v, ws[i]? = some v → (s 8) (wcn σ + i) = v
section PUT
variable {σ s τ : St} {vs : List Nat}
theorem pu_tr {s' : St} {as bs : List Int32} (h0 : 0 ≤ (σ 0 17).toInt) (h : PU σ s as) (g : PU s s' bs) : PU σ s' (as ++ bs) := by
  obtain ⟨h1, h2, h3, h4⟩ := h
  obtain ⟨g1, g2, g3, g4⟩ := g
  have e0 : (wcn σ : Int) = (σ 0 17).toInt := nt h0
  have e1 : (wcn s : Int) = (s 0 17).toInt := nt (by omega)
  refine ⟨kp_tr h1 g1, by rw [List.length_append]; omega, fun j hj => (g3 j (by omega)).trans (h3 j hj), fun i v hi => ?_⟩
  by_cases q : i < as.length
  · rw [List.getElem?_append_left q] at hi
    rw [g3 _ (by omega), h4 i v hi]
  · rw [List.getElem?_append_right (by omega)] at hi
    have e2 : wcn σ + i = wcn s + (i - as.length) := by omega
    rw [e2, g4 _ _ hi]
theorem sp_put_0 {a : Int32} {Q : St → St → List Nat → Prop} (h0 : 0 ≤ (σ 0 17).toInt) (h1 : (σ 0 17).toInt ≤ 500000) (k : ∀ s, PU σ s [a] → Q s τ vs) : wp_put_0 a σ τ vs Q := by
  unfold wp_put_0
  have e4 : ((σ 0 17) + (4 : Int32)).toInt = (σ 0 17).toInt + 4 := adc (by decide) (by omega) (by omega)
  refine ⟨fun _ => ⟨⟨h0, by omega⟩, k _ ⟨kp_f (kp_a kp_rf rfl) rfl, ?_, fun j hj => ?_, fun i v hi => ?_⟩⟩, fun c => absurd c (by omega)⟩
  · rw [rdA_eq rfl, ad1 (by omega)]; rfl
  · have en := nt h0
    show upC σ 8 _ a 8 j = _
    rw [rdA_ne]
    omega
  · match i, hi with
    | 0, hi =>
      have e : a = v := Option.some.inj hi
      subst e
      show upC σ 8 _ a 8 _ = _
      rw [rdA_eq]
      rfl
theorem sp_put_1 {a b : Int32} {Q : St → St → List Nat → Prop} (h0 : 0 ≤ (σ 0 17).toInt) (h1 : (σ 0 17).toInt ≤ 499990) (k : ∀ s, PU σ s [a, b] → Q s τ vs) : wp_put_1 a b σ τ vs Q := by
  unfold wp_put_1
  refine sp_put_0 h0 (by omega) (fun s hs => ?_)
  have hw : (s 0 17).toInt = (σ 0 17).toInt + 1 := hs.2.1
  exact sp_put_0 (by omega) (by omega) (fun s' hs' => k s' (pu_tr h0 hs hs'))
theorem sp_put_2 {a b c : Int32} {Q : St → St → List Nat → Prop} (h0 : 0 ≤ (σ 0 17).toInt) (h1 : (σ 0 17).toInt ≤ 499980) (k : ∀ s, PU σ s [a, b, c] → Q s τ vs) : wp_put_2 a b c σ τ vs Q := by
  unfold wp_put_2
  refine sp_put_1 h0 (by omega) (fun s hs => ?_)
  have hw : (s 0 17).toInt = (σ 0 17).toInt + 2 := hs.2.1
  exact sp_put_0 (by omega) (by omega) (fun s' hs' => k s' (pu_tr h0 hs hs'))
theorem sp_open {a : Int32} {Q : Int32 → St → St → List Nat → Prop} (h0 : 0 ≤ (σ 0 17).toInt) (h1 : (σ 0 17).toInt ≤ 499990) (k : ∀ (v : Int32) s, PU σ s [a, -1] → v.toInt = (σ 0 17).toInt + 1 → Q v s τ vs) : wp_open a σ τ vs Q := by
  unfold wp_open
  refine sp_put_1 h0 h1 (fun s hs => k _ s hs ?_)
  have hw : (s 0 17).toInt = (σ 0 17).toInt + 2 := hs.2.1
  rw [sb1 (by omega)]
  omega
theorem rl_pu {t z} {ws : List Int32} (h : PA σ τ) (p : PU σ s ws) (hv : VOK t) (hz : ∀ u ∈ vs, u ∈ z) (hl : vs.length ≤ z.length) : RL σ vs s t z := by
  have h9 := h
  obtain ⟨h1, h2, ⟨n1, n2, n3, n4, n5, n6, n7⟩, ⟨a1, a2, a3, a4, a5, a6, a7, a8, a9, b1, b2, b3⟩, h5⟩ := h9
  obtain ⟨p1, p2, p3, p4⟩ := p
  have k : KE σ s := kp_sub p1 rfl rfl
  have e1 : (s 0 10) = (σ 0 10) := p1 _ _ rfl rfl
  have e2 : (s 0 8) = (σ 0 8) := p1 _ _ rfl rfl
  have e3 : (s 0 37) = (σ 0 37) := p1 _ _ rfl rfl
  have e4 : (s 0 39) = (σ 0 39) := p1 _ _ rfl rfl
  have e5 : (s 21) = (σ 21) := funext (fun j => p1 21 j rfl rfl)
  have e6 : (s 3) = (σ 3) := funext (fun j => p1 3 j rfl rfl)
  have e7 : (s 14) = (σ 14) := funext (fun j => p1 14 j rfl rfl)
  have e8 : (s 0 12) = (σ 0 12) := p1 _ _ rfl rfl
  refine ⟨k, pa_ke h k (by unfold AtOK; rw [e1, e2]; exact h2) (by rw [e3]; exact n4) (by omega) (by rw [e4]; exact n6) (by rw [e5]; exact a3) hv, p3, ⟨fun e q => by rw [e7]; exact q, fun n q => by rw [e5]; exact q⟩, of_eq e8, by omega, by rw [e4]; omega, ?_, hz, hl, ie_of (funext (fun j => p1 25 j rfl rfl)) e4 e3⟩
  unfold pos
  rw [e1, e6]
  omega
end PUT
