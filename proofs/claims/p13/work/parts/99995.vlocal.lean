/-! a local variable's name: both sides -/
def HHm (σ : St) (S d u : Nat) : Prop := ∃ j, j < S ∧ NMm σ (mtk σ j) u ∧ ∀ j', j ≤ j' → j' < S → (σ 36 j').toInt = (d : Int)
/-- what a variable's [ ] has wrong -/
def SQb (w : St) (a : Int32) : Prop := 0 ≤ (w 8 6).toInt ∧ (((w 8 7).toInt = -1 ∧ a.toInt = 0) ∨ ((w 8 7).toInt ≠ -1 ∧ (w 8 7).toInt < 1) ∨ 4000 < (w 8 7).toInt)
section VLC
variable {w s r σ σ' σ1 s1 s2 τ t : St} {kd vl : Nat → Int} {n S m lo d u Lc : Nat} {vs z : List Nat} {a b c : Int32} {A B : Prop}
theorem mr_heldHere {Q : Int32 → Prop} (ha : a.toInt = (u : Int)) (tu : TNm σ u) (hS : LOKm σ S) (h54 : (σ 0 54).toInt = (d : Int)) (k1 : HHm σ S d u → Q 1) (k0 : ¬ HHm σ S d u → Q 0) : pp_isHeldHere a σ τ vs Q := by
  obtain ⟨h53, hS1, hj⟩ := hS
  unfold pp_isHeldHere
  refine ⟨fun x => ∃ k : Nat, x.toInt = (k : Int) - 1 ∧ k ≤ S ∧ ∀ j, k ≤ j → j < S → (σ 36 j).toInt = (d : Int) ∧ ¬ NMm σ (mtk σ j) u, ⟨S, by rw [sb1 (by omega), h53], Nat.le_refl S, fun j h1 h2 => absurd h2 (Nat.not_lt.mpr h1)⟩, ?_⟩
  rintro x ⟨k, hx, hk, hz⟩
  refine ⟨fun c => k0 ?_, fun c => ?_⟩
  · rintro ⟨j, j1, j2, j3⟩
    exact (hz j (by omega) j1).2 j2
  obtain ⟨k', rfl⟩ : ∃ k', k = k' + 1 := ⟨k - 1, by omega⟩
  have ex : x.toNatClampNeg = k' := nat_of (by rw [hx]; omega)
  rw [ex, h54]
  refine fun _ => ⟨fun c1 => k0 ?_, fun c1 _ => ?_⟩
  · rintro ⟨j, j1, j2, j3⟩
    by_cases c2 : j ≤ k'
    · exact c1 (j3 k' c2 (by omega))
    · exact (hz j (by omega) j1).2 j2
  refine mr_isSame (u := mtk σ k') (v := u) (by unfold mtk; have := (hj k' (by omega)).1; omega) ha (hj k' (by omega)).2 tu (fun hn => ⟨fun hx => absurd hx (by decide), fun _ => k1 ⟨k', by omega, hn, fun j' h1 h2 => ?_⟩⟩) (fun hn => ⟨fun _ => ⟨k', ?_, by omega, fun j h1 h2 => ?_⟩, fun hx => absurd rfl hx⟩)
  · by_cases c2 : j' = k'
    · rw [c2]; exact c1
    · exact (hz j' (by omega) h2).1
  · rw [dc1 (by omega), hx]
    omega
  · by_cases c2 : j = k'
    · rw [c2]; exact ⟨c1, hn⟩
    · exact hz j (by omega) h2
/-- the reference: a local's name, its type, its size -/
theorem mr_localName {Q : Int32 → St → St → List Nat → Prop} (h0 : 0 ≤ (σ 0 12).toInt) (ha : a.toInt = (u : Int)) (tu : TNm σ u) (hS : LOKm σ S) (h54 : (σ 0 54).toInt = (d : Int)) (h49 : (σ 0 49).toInt = (Lc : Int)) (hLc : Lc ≤ 100)
    (kk : ∀ v s, Kp [(0, 12), (0, 13), (0, 49)] [31, 32, 33] σ s → FTq σ s (HHm σ S d u ∨ Lc = 100) → (Lc < 100 → v.toInt = (Lc : Int) ∧ (s 0 49).toInt = (Lc : Int) + 1 ∧ (∀ j, s 31 j = if j = Lc then b else σ 31 j) ∧ (∀ j, j ≠ Lc → s 32 j = σ 32 j) ∧ ((s 32 Lc).toInt < 0 ↔ c.toInt < 0)) → (Lc = 100 → v.toInt < 0 ∧ s 0 49 = σ 0 49 ∧ s 31 = σ 31 ∧ s 32 = σ 32) → Q v s τ vs) : pp_localName a b c σ τ vs Q := by
  unfold pp_localName
  have main : ∀ y1 : Int32, (y1.toInt ≠ 0 ↔ ¬ HHm σ S d u) → pp_must y1 a σ τ vs (fun s15 t15 z15 => pp_declareLocal a b s15 t15 z15 (fun v21 s21 t21 z21 => (v21.toInt < 0 → (Q v21 s21 t21 z21)) ∧ (0 ≤ v21.toInt → ((0 ≤ c.toInt → ((0 ≤ v21.toInt ∧ v21.toInt < 100) → (Q v21 (upC s21 32 v21.toNatClampNeg (if c < (1 : Int32) then (1 : Int32) else c)) t21 z21))) ∧ (c.toInt < 0 → ((0 ≤ v21.toInt ∧ v21.toInt < 100) → (Q v21 (upC s21 32 v21.toNatClampNeg ((-1) : Int32)) t21 z21))))))) := fun y1 hy => by
    refine mr_must h0 (fun s1 k1 f1 => ?_)
    have e49 : s1 0 49 = σ 0 49 := k1 0 49 rfl rfl
    have e15 : s1 0 15 = σ 0 15 := k1 0 15 rfl rfl
    have fh : FTq σ s1 (HHm σ S d u) := ft_iff f1 ⟨fun h => Classical.byContradiction (fun hn => (hy.2 hn) h), fun h => Classical.byContradiction (fun hn => (hy.1 hn) h)⟩
    unfold pp_declareLocal
    rw [e49, h49]
    refine ⟨fun c1 _ _ _ => ?_, fun c1 => mr_tell f1.1 (by decide) (fun s2 k2 f2 => ⟨fun _ => ?_, fun hx => absurd hx (by decide)⟩)⟩
    · have hl : Lc < 100 := by omega
      have ev : (((σ 0 49) + (1 : Int32)) - (1 : Int32)).toInt = (Lc : Int) := by rw [sb1 (by rw [ad1 (by omega)]; omega), ad1 (by omega), h49]; omega
      have en : (σ 0 49).toNatClampNeg = Lc := nat_of h49
      have env : (((σ 0 49) + (1 : Int32)) - (1 : Int32)).toNatClampNeg = Lc := nat_of ev
      rw [en]
      dsimp only
      rw [env]
      have fin : ∀ y : Int32, (y.toInt < 0 ↔ c.toInt < 0) → Q (((σ 0 49) + (1 : Int32)) - (1 : Int32)) (upC (upC (upC (upC (upC s1 31 Lc b) 32 Lc ((-1) : Int32)) 33 Lc (vp_nar .boolean (0 : Int32))) 0 49 ((σ 0 49) + (1 : Int32))) 32 Lc y) τ vs := fun y hy2 => by
        refine kk _ _ (kp_a (kp_f (kp_a (kp_a (kp_a (kp_sub k1 rfl rfl) rfl) rfl) rfl) rfl) rfl) (ft_iff (ft_tr fh (ft_same (s := upC (upC (upC (upC (upC s1 31 Lc b) 32 Lc ((-1) : Int32)) 33 Lc (vp_nar .boolean (0 : Int32))) 0 49 ((σ 0 49) + (1 : Int32))) 32 Lc y) f1.1 ?_) e15) ⟨fun h => h.elim Or.inl False.elim, fun h => h.elim Or.inl (fun h => by omega)⟩) (fun _ => ⟨ev, ?_, fun j => ?_, fun j hj => ?_, ?_⟩) (fun h => by omega)
        · rw [rdC_ne (by decide), rdA_ne (by decide), rdC_ne (by decide), rdC_ne (by decide), rdC_ne (by decide)]
        · rw [rdC_ne (by decide), rdA_eq rfl, ad1 (by omega), h49]
        · rw [rdC_ne (by decide), rdC_ne (by decide), rdC_ne (by decide), rdC_ne (by decide), rdC_eq]
          by_cases cj : j = Lc
          · simp [cj]
          · simp [cj, k1 31 j rfl rfl]
        · rw [rdA_ne hj, rdC_ne (by decide), rdC_ne (by decide), rdA_ne hj, rdC_ne (by decide), k1 32 j rfl rfl]
        · rw [rdA_eq rfl]
          exact hy2
      refine ⟨fun hx => absurd hx (by rw [ev]; omega), fun _ => ⟨fun c2 _ => fin _ ?_, fun c2 _ => fin _ ⟨fun _ => c2, fun _ => by decide⟩⟩⟩
      by_cases c3 : c < (1 : Int32)
      · rw [if_pos c3]
        exact ⟨fun hx => absurd hx (by decide), fun hx => by omega⟩
      · rw [if_neg c3]
    · have kz : Kp [(0, 12), (0, 13), (0, 49)] [31, 32, 33] σ s2 := kp_tr (kp_sub k1 rfl rfl) (kp_sub k2 rfl rfl)
      have kz2 : Kp [(0, 12), (0, 13)] [] σ s2 := kp_tr k1 k2
      exact kk _ _ kz (ft_iff (ft_tr fh f2 e15) ⟨fun h => h.elim Or.inl (fun _ => Or.inr (by omega)), fun h => h.elim Or.inl (fun _ => Or.inr trivial)⟩) (fun h => by omega) (fun _ => ⟨by decide, kz2 0 49 rfl rfl, funext (fun j => kz2 31 j rfl rfl), funext (fun j => kz2 32 j rfl rfl)⟩)
  refine mr_heldHere ha tu hS h54 (fun hh => ⟨fun y => y.toInt ≠ 0 ↔ ¬ HHm σ S d u, fun y1 _ hy => main y1 hy, fun _ => ⟨fun hx => absurd rfl hx, fun hx => absurd hh hx⟩, fun hx => absurd hx (by decide)⟩) (fun hh => ⟨fun y => y.toInt ≠ 0 ↔ ¬ HHm σ S d u, fun y1 _ hy => main y1 hy, fun hx => absurd rfl hx, fun _ => ⟨fun _ => hh, fun _ => by decide⟩⟩)
/-- both sides: a name is there in this scope -/
theorem held_alike (hT : TKR w σ kd n) (hL : LOR w σ kd n S) (hC : SCq S d w σ) (hd : 1 ≤ d) (hu : u ≤ n) (ku : kd u = 2) : (∃ j, (w 45 (d - 1)).toInt.toNat ≤ j ∧ j < S ∧ NMw w (ltk w j) u) ↔ HHm σ S d u := by
  obtain ⟨_, _, h3, h4⟩ := hC
  obtain ⟨b0, b1, b2⟩ := h3 (d - 1) (by omega)
  have nm : ∀ j, j < S → (NMw w (ltk w j) u ↔ NMm σ (mtk σ j) u) := fun j hj => by
    obtain ⟨q1, q2, q3, q4, q5, q6, q7⟩ := hL.2.2.2.1 j hj
    have e : ltk w j = mtk σ j := by unfold ltk mtk; rw [q4]
    rw [e]
    exact tok_alike hT q6 hu q7 ku
  have sc : ∀ j, j < S → ((w 45 (d - 1)).toInt.toNat ≤ j ↔ (σ 36 j).toInt = (d : Int)) := fun j hj => by
    have n1 := b2 j hj
    have n2 := h4 j hj
    constructor
    · intro hx
      have := n1.1 (by omega)
      omega
    · intro hx
      have := n1.2 (by omega)
      omega
  constructor
  · rintro ⟨j, j1, j2, j3⟩
    exact ⟨j, j2, (nm j j2).1 j3, fun j' h1 h2 => (sc j' h2).1 (by omega)⟩
  · rintro ⟨j, j1, j2, j3⟩
    exact ⟨j, (sc j j1).2 (j3 j (Nat.le_refl j) j1), j1, (nm j j1).2 j2⟩
/-- the class: the [ ] of a variable -/
theorem xc_square {Q : St → Prop} (kk : ∀ s, Kp [(6, 3), (6, 4)] [] w s → ((s 6 3).toInt ≠ 0 ↔ (w 6 3).toInt ≠ 0 ∨ SQb w a) → Q s) : pk_X1_checkSquare a w Q := by
  unfold pk_X1_checkSquare
  refine ⟨fun s => Kp [(6, 3), (6, 4)] [] w s ∧ ((s 6 3).toInt ≠ 0 ↔ (w 6 3).toInt ≠ 0 ∨ (0 ≤ (w 8 6).toInt ∧ (((w 8 7).toInt = -1 ∧ a.toInt = 0) ∨ ((w 8 7).toInt ≠ -1 ∧ (w 8 7).toInt < 1)))), ?_, fun c => ⟨kp_rf, ⟨fun h => Or.inl h, fun h => h.elim id (fun h => by omega)⟩⟩, fun c => ⟨((w 8 7).toInt = -1 ∧ a.toInt = 0) ∨ ((w 8 7).toInt ≠ -1 ∧ (w 8 7).toInt < 1), fun hj => xl_fail (by decide) (fun s ks hs => ⟨ks, fun _ => Or.inr ⟨c, hj⟩, fun _ => hs⟩), fun c1 => ⟨fun c2 => ⟨kp_rf, ⟨fun h => Or.inl h, fun h => h.elim id (fun h => by omega)⟩⟩, fun c2 => Or.inr ⟨c1, c2⟩⟩, fun c1 => ⟨fun c2 => ⟨kp_rf, ⟨fun h => Or.inl h, fun h => h.elim id (fun h => by omega)⟩⟩, fun c2 => Or.inl ⟨c1, c2⟩⟩⟩⟩
  rintro s ⟨ks, hs⟩
  rw [ks 8 6 rfl rfl, ks 8 7 rfl rfl]
  refine ⟨fun c => kk s ks ?_, fun c => ⟨fun c2 => kk s ks ?_, fun c2 => xl_fail (by decide) (fun s2 k2 h2 => kk s2 (kp_tr ks k2) ⟨fun _ => Or.inr ⟨c, Or.inr (Or.inr c2)⟩, fun _ => h2⟩)⟩⟩
  · rw [hs]
    unfold SQb
    exact ⟨fun h => h.elim Or.inl (fun h => by omega), fun h => h.elim Or.inl (fun h => by omega)⟩
  · rw [hs]
    unfold SQb
    exact ⟨fun h => h.elim Or.inl (fun h => Or.inr ⟨h.1, h.2.elim Or.inl (fun h => Or.inr (Or.inl h))⟩), fun h => h.elim Or.inl (fun h => Or.inr ⟨h.1, h.2.elim Or.inl (fun h => h.elim Or.inr (fun h => by omega))⟩)⟩
end VLC
