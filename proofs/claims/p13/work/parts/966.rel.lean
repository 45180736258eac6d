/-! both sides: alike -/
/-- a step is taken, from whatever row it is read -/
def XTq (x : Stq) (w : St) (Q : St → Prop) : Prop := ∀ a : Int32, (atv 32100 (w 18) a).toInt = x.1 → (atv 32100 (w 19) a).toInt = (x.2.1 : Int) → (atv 32100 (w 20) a).toInt = x.2.2.1 → pk_X2_take a w Q
/-- steps are taken while no fault is told; B where one is -/
def XW : List Stq → St → (St → Prop) → Prop → Prop
  | [], w, Q, _ => Q w
  | x :: l, w, Q, B => ((w 6 3).toInt = 0 → XTq x w (fun s => XW l s Q B)) ∧ ((w 6 3).toInt ≠ 0 → B)
/-- texts and tokens -/
def TKR (w σ : St) (kd : Nat → Int) (n : Nat) : Prop :=
  RTk σ kd n ∧ (∀ p, p ≤ n → (w 13 p).toInt = kd p) ∧ (∀ i : Nat, i < 16000 → (w 1 i).toInt = (σ 1 i).toInt)
  ∧ (∀ p, p ≤ n → kd p = 2 → (w 15 p).toInt = (σ 3 p).toInt ∧ (w 14 p).toInt = (σ 4 p).toInt - (σ 3 p).toInt ∧ TNm σ p)
  ∧ (∀ p, p ≤ n → kd p = 3 → w 14 p = σ 6 p) ∧ (∀ p, p ≤ n → kd p = 4 → (w 14 p).toInt = (σ 6 p).toInt ∧ 0 ≤ (w 14 p).toInt ∧ (w 14 p).toInt ≤ 200)
/-- locals in sight, and those that are there -/
def LOR (w σ : St) (kd : Nat → Int) (n S : Nat) : Prop :=
  (w 6 15).toInt = (S : Int) ∧ (σ 0 53).toInt = (S : Int) ∧ S ≤ 100
  ∧ (∀ j, j < S → (w 44 j).toInt = (σ 35 j).toInt ∧ 0 ≤ (w 44 j).toInt ∧ (w 44 j).toInt < 100 ∧ (w 40 ((w 44 j).toInt.toNat)).toInt = (σ 34 j).toInt ∧ 0 ≤ (σ 34 j).toInt ∧ mtk σ j ≤ n ∧ kd (mtk σ j) = 2)
  ∧ ∀ j, j < S → (w 41 ((w 44 j).toInt.toNat)).toInt = (σ 31 ((w 44 j).toInt.toNat)).toInt ∧ ((w 42 ((w 44 j).toInt.toNat)).toInt < 0 ↔ (σ 32 ((w 44 j).toInt.toNat)).toInt < 0)
/-- a flag -/
def FLq (w : St) (d : Nat) (b : Int32) : Prop := ((w 25 d) &&& b).toInt ≠ 0
/-- a signature: three bits for each parameter's stars, below how many there are -/
def sgV : List (Nat × Nat) → Nat
  | [] => 0
  | x :: l => x.1 + 8 * sgV l
def sgX (l : List (Nat × Nat)) : Nat := 16777216 * l.length + sgV l
def sgI (l : List (Nat × Nat)) : Int := (sgX l : Nat)
/-- one that is declared outside of functions: i-th of its unit, d in the class, e in the reference -/
def ORR (w σ : St) (kd : Nat → Int) (n i d e : Nat) : Prop :=
  0 ≤ (w 38 i).toInt ∧ otk w i ≤ n ∧ kd (otk w i) = 2 ∧ NSm σ e (otk w i)
  ∧ (FLq w d 1 ↔ (σ 9 e).toInt ≠ 1) ∧ ((σ 9 e).toInt = 1 ∨ (σ 9 e).toInt = 2) ∧ (w 26 d).toInt = (σ 10 e).toInt ∧ (FLq w d 8 ↔ (σ 14 e).toInt ≠ 0)
  ∧ (¬ FLq w d 1 → (w 27 d).toInt = (σ 11 e).toInt)
  ∧ (FLq w d 1 → sgN (w 27 d) = (σ 15 e).toInt ∧ (σ 15 e).toInt ≤ 8 ∧ ∀ k : Int32, 0 ≤ k.toInt → k.toInt < (σ 15 e).toInt → sgT (w 27 d) k = (σ 16 (8 * e + k.toInt.toNat)).toInt) ∧ ((w 39 i).toInt < 0 ↔ (σ 21 i).toInt < 0) ∧ (FLq w d 2 ↔ (σ 12 e).toInt ≠ 0) ∧ (FLq w d 4 ↔ (σ 13 e).toInt ≠ 0) ∧ (¬ FLq w d 1 → FLq w d 2 → FLq w d 4) ∧ (¬ FLq w d 1 → -1 ≤ (w 27 d).toInt) ∧ (FLq w d 1 → ∃ l : List (Nat × Nat), l.length ≤ 8 ∧ (∀ x, x ∈ l → x.1 ≤ 6) ∧ (w 27 d).toInt = sgI l) ∧ ((σ 12 e).toInt = 0 ∨ (σ 12 e).toInt = 1) ∧ ((σ 9 e).toInt = 1 → (σ 13 e).toInt ≠ 0 → w 28 d = σ 17 e)
def OUR (w σ : St) (kd : Nat → Int) (n m lo : Nat) : Prop :=
  (w 6 7).toInt = (m : Int) ∧ m ≤ 100 ∧ (m : Int) ≤ (w 5 1).toInt ∧ ((w 5 1).toInt = (lo : Int) + m + 4 ∧ (w 5 7).toInt = (σ 0 31).toInt + 15) ∧ EOKm σ lo (lo + m)
  ∧ ∀ i, i < m → ORR w σ kd n i ((w 5 1).toInt.toNat - m + i) (lo + i)
section REL
variable {w σ s r : St} {kd : Nat → Int} {n S m lo u v : Nat} {l l2 : List Stq} {Q Q2 : St → Prop} {B B2 : Prop} {x : Stq}
theorem xt_mono (h : XTq x w Q) (k : ∀ s, Q s → Q2 s) : XTq x w Q2 := fun a e1 e2 e3 => cj_wk_X2_take (fun s q _ => k s q) (h a e1 e2 e3) (h a e1 e2 e3)
theorem xw_mono : ∀ {l : List Stq} {w : St}, XW l w Q B → (∀ s, Q s → Q2 s) → (B → B2) → XW l w Q2 B2
  | [], _, h, k, _ => k _ h
  | _ :: _, _, h, k, b => ⟨fun c => xt_mono (h.1 c) (fun _ hs => xw_mono hs k b), fun c => b (h.2 c)⟩
theorem xw_app : ∀ {l : List Stq} {w : St}, XW l w (fun s => XW l2 s Q B) B → XW (l ++ l2) w Q B
  | [], _, h => h
  | _ :: _, _, h => ⟨fun c => xt_mono (h.1 c) (fun _ hs => xw_app hs), h.2⟩
theorem xw_one (h : (w 6 3).toInt = 0 → XTq x w Q) (b : (w 6 3).toInt ≠ 0 → B) : XW [x] w Q B := ⟨h, b⟩
/-- behind a fault -/
theorem xw_bad (c : (w 6 3).toInt ≠ 0) (b : B) (q : ∀ s, (s 6 3).toInt ≠ 0 → Q s) : XW l w Q B := by
  cases l with
  | nil => exact q w c
  | cons y l => exact ⟨fun c0 => absurd c0 c, fun _ => b⟩
theorem nat_to {a : Int} {m : Nat} (h : a < (m : Int)) (h0 : 0 ≤ a) : a.toNat < m := by omega
theorem by_at (hT : TKR w σ kd n) {a : Nat} {i : Nat} (ha : a ≤ n) (ka : kd a = 2) (hi : (i : Int) < (σ 4 a).toInt - (σ 3 a).toInt) : (w 1 ((σ 3 a).toInt.toNat + i)).toInt = (σ 1 ((σ 3 a).toInt.toNat + i)).toInt := by
  obtain ⟨_, _, t2, t3, _⟩ := hT
  obtain ⟨_, _, a3, a4, a5, a6⟩ := t3 a ha ka
  exact t2 _ (by omega)
theorem tok_alike (hT : TKR w σ kd n) {a b : Nat} (ha : a ≤ n) (hb : b ≤ n) (ka : kd a = 2) (kb : kd b = 2) : NMw w a b ↔ NMm σ a b := by
  have hT2 := hT
  obtain ⟨tk, t1, t2, t3, _⟩ := hT
  obtain ⟨a1, a2, _⟩ := t3 a ha ka
  obtain ⟨b1, b2, _⟩ := t3 b hb kb
  unfold NMw NMm
  rw [a1, a2, b1, b2]
  constructor
  · rintro ⟨h1, h2⟩
    refine ⟨h1, fun i hi => ?_⟩
    rw [← by_at hT2 ha ka (by omega), ← by_at hT2 hb kb (by omega)]
    exact h2 i (by omega)
  · rintro ⟨h1, h2⟩
    refine ⟨h1, fun i hi => ?_⟩
    rw [by_at hT2 ha ka (by omega), by_at hT2 hb kb (by omega)]
    exact h2 i (by omega)
theorem tn_class (hT : TKR w σ kd n) (hn : n ≤ 16001) (hu : u ≤ n) (ku : kd u = 2) : TNq w u := by
  obtain ⟨_, _, _, t3, _⟩ := hT
  obtain ⟨a1, a2, a3, a4, a5, a6⟩ := t3 u hu ku
  exact ⟨by omega, by omega, by omega, by omega⟩
theorem tn_ref (hT : TKR w σ kd n) (hu : u ≤ n) (ku : kd u = 2) : TNm σ u := (hT.2.2.2.1 u hu ku).2.2
theorem lo_class (hT : TKR w σ kd n) (hL : LOR w σ kd n S) : LOKq w S := by
  obtain ⟨l1, l2, l3, l4, l5⟩ := hL
  refine ⟨l1, l3, fun j hj => ?_⟩
  obtain ⟨q1, q2, q3, q4, q5, q6, q7⟩ := l4 j hj
  have e : ltk w j = mtk σ j := by unfold ltk mtk; rw [q4]
  refine ⟨⟨q2, q3⟩, by omega, ?_⟩
  rw [e]
  exact tn_class hT (by have := hT.1.1; omega) q6 q7
theorem lo_ref (hT : TKR w σ kd n) (hL : LOR w σ kd n S) : LOKm σ S := by
  obtain ⟨l1, l2, l3, l4, l5⟩ := hL
  refine ⟨l2, l3, fun j hj => ?_⟩
  obtain ⟨q1, q2, q3, q4, q5, q6, q7⟩ := l4 j hj
  exact ⟨q5, tn_ref hT q6 q7⟩
/-- a local found on both sides -/
theorem lo_alike (hT : TKR w σ kd n) (hL : LOR w σ kd n S) (hu : u ≤ n) (ku : kd u = 2) {v : Int} : LFq w S 0 u v ↔ LFm σ S u v := by
  obtain ⟨l1, l2, l3, l4, l5⟩ := hL
  have nm : ∀ j, j < S → (NMw w (ltk w j) u ↔ NMm σ (mtk σ j) u) := fun j hj => by
    obtain ⟨q1, q2, q3, q4, q5, q6, q7⟩ := l4 j hj
    have e : ltk w j = mtk σ j := by unfold ltk mtk; rw [q4]
    rw [e]
    exact tok_alike hT q6 hu q7 ku
  unfold LFq LFm
  constructor
  · rintro (⟨j, j0, j1, j2, j3, j4⟩ | ⟨j1, j2⟩)
    · exact Or.inl ⟨j, j1, (nm j j1).1 j2, fun j' h1 h2 hx => j3 j' h1 h2 ((nm j' h2).2 hx), j4.trans (l4 j j1).1⟩
    · exact Or.inr ⟨fun j hj hx => j1 j (Nat.zero_le _) hj ((nm j hj).2 hx), j2⟩
  · rintro (⟨j, j1, j2, j3, j4⟩ | ⟨j1, j2⟩)
    · exact Or.inl ⟨j, Nat.zero_le _, j1, (nm j j1).2 j2, fun j' h1 h2 hx => j3 j' h1 h2 ((nm j' h2).1 hx), j4.trans (l4 j j1).1.symm⟩
    · exact Or.inr ⟨fun j _ hj hx => j1 j hj ((nm j hj).1 hx), j2⟩
theorem ou_class (hT : TKR w σ kd n) (hO : OUR w σ kd n m lo) : OOKq w m := by
  obtain ⟨o1, o2, o3, o4, o5, o6⟩ := hO
  refine ⟨o1, o2, o3, by have := o4.1; have := o5.2.2.2.1; omega, fun i hi => ?_⟩
  obtain ⟨q1, q2, q3, _⟩ := o6 i hi
  exact ⟨q1, tn_class hT (by have := hT.1.1; omega) q2 q3⟩
/-- a name of a token and of one that is declared, alike with a third -/
theorem ns_alike (hT : TKR w σ kd n) {a b e : Nat} (ha : a ≤ n) (hb : b ≤ n) (ka : kd a = 2) (kb : kd b = 2) (h : NSm σ e a) : NMw w a b ↔ NSm σ e b := by
  rw [tok_alike hT ha hb ka kb]
  obtain ⟨h1, h2⟩ := h
  unfold NMm NSm
  constructor
  · rintro ⟨g1, g2⟩
    exact ⟨by omega, fun i hi => (h2 i (by omega)).trans (g2 i hi)⟩
  · rintro ⟨g1, g2⟩
    exact ⟨by omega, fun i hi => ((h2 i (by omega)).symm.trans (g2 i hi))⟩
/-- one declared outside of functions found on both sides -/
theorem ou_alike (hT : TKR w σ kd n) (hO : OUR w σ kd n m lo) (hu : u ≤ n) (ku : kd u = 2) : (OFq w m u (-1) ↔ EFm σ lo (lo + m) u (-1)) ∧ ∀ i : Nat, OFq w m u i ↔ i < m ∧ EFm σ lo (lo + m) u ((lo + i : Nat) : Int) := by
  obtain ⟨o1, o2, o3, o4, o5, o6⟩ := hO
  have nm : ∀ i, i < m → (NMw w (otk w i) u ↔ NSm σ (lo + i) u) := fun i hi => by
    obtain ⟨q1, q2, q3, q4, _⟩ := o6 i hi
    exact ns_alike hT q2 hu q3 ku q4
  have nm2 : ∀ e, lo ≤ e → e < lo + m → (NMw w (otk w (e - lo)) u ↔ NSm σ e u) := fun e h1 h2 => by
    have := nm (e - lo) (by omega)
    rw [show lo + (e - lo) = e from by omega] at this
    exact this
  unfold OFq EFm
  refine ⟨⟨?_, ?_⟩, fun i => ⟨?_, ?_⟩⟩
  · rintro (⟨j, j1, j2, j3, j4⟩ | ⟨j1, j2⟩)
    · omega
    · exact Or.inr ⟨fun e h1 h2 hx => j1 (e - lo) (by omega) ((nm2 e h1 h2).2 hx), j2⟩
  · rintro (⟨j, j0, j1, j2, j3, j4⟩ | ⟨j1, j2⟩)
    · omega
    · exact Or.inr ⟨fun i hi hx => j1 (lo + i) (by omega) (by omega) ((nm i hi).1 hx), j2⟩
  · rintro (⟨j, j1, j2, j3, j4⟩ | ⟨j1, j2⟩)
    · obtain rfl : i = j := by omega
      exact ⟨j1, Or.inl ⟨lo + i, by omega, by omega, (nm i j1).1 j2, fun e h1 h2 hx => j3 (e - lo) (by omega) ((nm2 e h1 (by omega)).2 hx), rfl⟩⟩
    · omega
  · rintro ⟨hi, (⟨j, j0, j1, j2, j3, j4⟩ | ⟨j1, j2⟩)⟩
    · obtain rfl : j = lo + i := by omega
      exact Or.inl ⟨i, hi, (nm i hi).2 j2, fun i' h' hx => j3 (lo + i') (by omega) (by omega) ((nm i' (by omega)).1 hx), rfl⟩
    · omega
end REL
