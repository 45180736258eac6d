section
/-! a local variable's name: both sides -/
def HHm (σ : St) (S d u : Nat) : Prop := ∃ j, j < S ∧ NMm σ (mtk σ j) u ∧ ∀ j', j ≤ j' → j' < S → (σ 36 j').toInt = (d : Int)
/-- what a variable's [ ] has wrong -/
def SQb (w : St) (a : Int32) : Prop := 0 ≤ (w 8 6).toInt ∧ (((w 8 7).toInt = -1 ∧ a.toInt = 0) ∨ ((w 8 7).toInt ≠ -1 ∧ (w 8 7).toInt < 1) ∨ 4000 < (w 8 7).toInt)
section VLC
variable {w s r σ σ' σ1 s1 s2 τ t : St} {kd vl : Nat → Int} {n S m lo d u Lc : Nat} {vs z : List Nat} {a b c : Int32} {A B : Prop}
theorem mr_heldHere {Q : Int32 → Prop} (ha : a.toInt = (u : Int)) (tu : TNm σ u) (hS : LOKm σ S) (h54 : (σ 0 54).toInt = (d : Int)) (k1 : HHm σ S d u → Q 1) (k0 : ¬ HHm σ S d u → Q 0) : pp_isHeldHere a σ τ vs Q := by
  obtain ⟨h53, hS1, hj⟩ := hS
  unfold pp_isHeldHere
  refine ⟨fun x => ∃ k : Nat, x.toInt = (k : Int) - 1 ∧ k ≤ S ∧ ∀ j, k ≤ j → j < S → (σ 36 j).toInt = (d : Int) ∧ ¬ NMm σ (mtk σ j) u, ⟨S, by rw [sb1 (by omega), h53], Nat.le_refl S, fun j h1 h2 => absurd h2 (Nat.not_lt.mpr h1)⟩, ?_⟩
  rintro x ⟨k, hx, hk, hz⟩
  refine ⟨fun c => k0 ?_, fun c => ?_⟩
  · rintro ⟨j, j1, j2, j3⟩
    exact (hz j (by omega) j1).2 j2
  obtain ⟨k', rfl⟩ : ∃ k', k = k' + 1 := ⟨k - 1, by omega⟩
  have ex : x.toNatClampNeg = k' := nat_of (by rw [hx]; omega)
  rw [ex, h54]
  refine fun _ => ⟨fun c1 => k0 ?_, fun c1 _ => ?_⟩
  · rintro ⟨j, j1, j2, j3⟩
    by_cases c2 : j ≤ k'
    · exact c1 (j3 k' c2 (by omega))
    · exact (hz j (by omega) j1).2 j2
  refine mr_isSame (u := mtk σ k') (v := u) (by unfold mtk; have := (hj k' (by omega)).1; omega) ha (hj k' (by omega)).2 tu (fun hn => ⟨fun hx => absurd hx (by decide), fun _ => k1 ⟨k', by omega, hn, fun j' h1 h2 => ?_⟩⟩) (fun hn => ⟨fun _ => ⟨k', ?_, by omega, fun j h1 h2 => ?_⟩, fun hx => absurd rfl hx⟩)
  · by_cases c2 : j' = k'
    · rw [c2]; exact c1
    · exact (hz j' (by omega) h2).1
  · rw [dc1 (by omega), hx]
    omega
  · by_cases c2 : j = k'
    · rw [c2]; exact ⟨c1, hn⟩
    · exact hz j (by omega) h2
/-- the reference: a local's name, its type, its size -/
theorem mr_localName {Q : Int32 → St → St → List Nat → Prop} (h0 : 0 ≤ (σ 0 12).toInt) (ha : a.toInt = (u : Int)) (tu : TNm σ u) (hS : LOKm σ S) (h54 : (σ 0 54).toInt = (d : Int)) (h49 : (σ 0 49).toInt = (Lc : Int)) (hLc : Lc ≤ 100)
    (kk : ∀ v s, Kp [(0, 12), (0, 13), (0, 49)] [31, 32, 33] σ s → FTq σ s (HHm σ S d u ∨ Lc = 100) → (Lc < 100 → v.toInt = (Lc : Int) ∧ (s 0 49).toInt = (Lc : Int) + 1 ∧ (∀ j, s 31 j = if j = Lc then b else σ 31 j) ∧ (∀ j, j ≠ Lc → s 32 j = σ 32 j) ∧ ((s 32 Lc).toInt < 0 ↔ c.toInt < 0)) → (Lc = 100 → v.toInt < 0 ∧ s 0 49 = σ 0 49 ∧ s 31 = σ 31 ∧ s 32 = σ 32) → Q v s τ vs) : pp_localName a b c σ τ vs Q := by
  unfold pp_localName
  have main : ∀ y1 : Int32, (y1.toInt ≠ 0 ↔ ¬ HHm σ S d u) → pp_must y1 a σ τ vs (fun s15 t15 z15 => pp_declareLocal a b s15 t15 z15 (fun v21 s21 t21 z21 => (v21.toInt < 0 → (Q v21 s21 t21 z21)) ∧ (0 ≤ v21.toInt → ((0 ≤ c.toInt → ((0 ≤ v21.toInt ∧ v21.toInt < 100) → (Q v21 (upC s21 32 v21.toNatClampNeg (if c < (1 : Int32) then (1 : Int32) else c)) t21 z21))) ∧ (c.toInt < 0 → ((0 ≤ v21.toInt ∧ v21.toInt < 100) → (Q v21 (upC s21 32 v21.toNatClampNeg ((-1) : Int32)) t21 z21))))))) := fun y1 hy => by
    refine mr_must h0 (fun s1 k1 f1 => ?_)
    have e49 : s1 0 49 = σ 0 49 := k1 0 49 rfl rfl
    have e15 : s1 0 15 = σ 0 15 := k1 0 15 rfl rfl
    have fh : FTq σ s1 (HHm σ S d u) := ft_iff f1 ⟨fun h => Classical.byContradiction (fun hn => (hy.2 hn) h), fun h => Classical.byContradiction (fun hn => (hy.1 hn) h)⟩
    unfold pp_declareLocal
    rw [e49, h49]
    refine ⟨fun c1 _ _ _ => ?_, fun c1 => mr_tell f1.1 (by decide) (fun s2 k2 f2 => ⟨fun _ => ?_, fun hx => absurd hx (by decide)⟩)⟩
    · have hl : Lc < 100 := by omega
      have ev : (((σ 0 49) + (1 : Int32)) - (1 : Int32)).toInt = (Lc : Int) := by rw [sb1 (by rw [ad1 (by omega)]; omega), ad1 (by omega), h49]; omega
      have en : (σ 0 49).toNatClampNeg = Lc := nat_of h49
      have env : (((σ 0 49) + (1 : Int32)) - (1 : Int32)).toNatClampNeg = Lc := nat_of ev
      rw [en]
      dsimp only
      rw [env]
      have fin : ∀ y : Int32, (y.toInt < 0 ↔ c.toInt < 0) → Q (((σ 0 49) + (1 : Int32)) - (1 : Int32)) (upC (upC (upC (upC (upC s1 31 Lc b) 32 Lc ((-1) : Int32)) 33 Lc (vp_nar .boolean (0 : Int32))) 0 49 ((σ 0 49) + (1 : Int32))) 32 Lc y) τ vs := fun y hy2 => by
        refine kk _ _ (kp_a (kp_f (kp_a (kp_a (kp_a (kp_sub k1 rfl rfl) rfl) rfl) rfl) rfl) rfl) (ft_iff (ft_tr fh (ft_same (s := upC (upC (upC (upC (upC s1 31 Lc b) 32 Lc ((-1) : Int32)) 33 Lc (vp_nar .boolean (0 : Int32))) 0 49 ((σ 0 49) + (1 : Int32))) 32 Lc y) f1.1 ?_) e15) ⟨fun h => h.elim Or.inl False.elim, fun h => h.elim Or.inl (fun h => by omega)⟩) (fun _ => ⟨ev, ?_, fun j => ?_, fun j hj => ?_, ?_⟩) (fun h => by omega)
        · rw [rdC_ne (by decide), rdA_ne (by decide), rdC_ne (by decide), rdC_ne (by decide), rdC_ne (by decide)]
        · rw [rdC_ne (by decide), rdA_eq rfl, ad1 (by omega), h49]
        · rw [rdC_ne (by decide), rdC_ne (by decide), rdC_ne (by decide), rdC_ne (by decide), rdC_eq]
          by_cases cj : j = Lc
          · simp [cj]
          · simp [cj, k1 31 j rfl rfl]
        · rw [rdA_ne hj, rdC_ne (by decide), rdC_ne (by decide), rdA_ne hj, rdC_ne (by decide), k1 32 j rfl rfl]
        · rw [rdA_eq rfl]
          exact hy2
      refine ⟨fun hx => absurd hx (by rw [ev]; omega), fun _ => ⟨fun c2 _ => fin _ ?_, fun c2 _ => fin _ ⟨fun _ => c2, fun _ => by decide⟩⟩⟩
      by_cases c3 : c < (1 : Int32)
      · rw [if_pos c3]
        exact ⟨fun hx => absurd hx (by decide), fun hx => by omega⟩
      · rw [if_neg c3]
    · have kz : Kp [(0, 12), (0, 13), (0, 49)] [31, 32, 33] σ s2 := kp_tr (kp_sub k1 rfl rfl) (kp_sub k2 rfl rfl)
      have kz2 : Kp [(0, 12), (0, 13)] [] σ s2 := kp_tr k1 k2
      exact kk _ _ kz (ft_iff (ft_tr fh f2 e15) ⟨fun h => h.elim Or.inl (fun _ => Or.inr (by omega)), fun h => h.elim Or.inl (fun _ => Or.inr trivial)⟩) (fun h => by omega) (fun _ => ⟨by decide, kz2 0 49 rfl rfl, funext (fun j => kz2 31 j rfl rfl), funext (fun j => kz2 32 j rfl rfl)⟩)
  refine mr_heldHere ha tu hS h54 (fun hh => ⟨fun y => y.toInt ≠ 0 ↔ ¬ HHm σ S d u, fun y1 _ hy => main y1 hy, fun _ => ⟨fun hx => absurd rfl hx, fun hx => absurd hh hx⟩, fun hx => absurd hx (by decide)⟩) (fun hh => ⟨fun y => y.toInt ≠ 0 ↔ ¬ HHm σ S d u, fun y1 _ hy => main y1 hy, fun hx => absurd rfl hx, fun _ => ⟨fun _ => hh, fun _ => by decide⟩⟩)
/-- both sides: a name is there in this scope -/
theorem held_alike (hT : TKR w σ kd n) (hL : LOR w σ kd n S) (hC : SCq S d w σ) (hd : 1 ≤ d) (hu : u ≤ n) (ku : kd u = 2) : (∃ j, (w 45 (d - 1)).toInt.toNat ≤ j ∧ j < S ∧ NMw w (ltk w j) u) ↔ HHm σ S d u := by
  obtain ⟨_, _, h3, h4⟩ := hC
  obtain ⟨b0, b1, b2⟩ := h3 (d - 1) (by omega)
  have nm : ∀ j, j < S → (NMw w (ltk w j) u ↔ NMm σ (mtk σ j) u) := fun j hj => by
    obtain ⟨q1, q2, q3, q4, q5, q6, q7⟩ := hL.2.2.2.1 j hj
    have e : ltk w j = mtk σ j := by unfold ltk mtk; rw [q4]
    rw [e]
    exact tok_alike hT q6 hu q7 ku
  have sc : ∀ j, j < S → ((w 45 (d - 1)).toInt.toNat ≤ j ↔ (σ 36 j).toInt = (d : Int)) := fun j hj => by
    have n1 := b2 j hj
    have n2 := h4 j hj
    constructor
    · intro hx
      have := n1.1 (by omega)
      omega
    · intro hx
      have := n1.2 (by omega)
      omega
  constructor
  · rintro ⟨j, j1, j2, j3⟩
    exact ⟨j, j2, (nm j j2).1 j3, fun j' h1 h2 => (sc j' h2).1 (by omega)⟩
  · rintro ⟨j, j1, j2, j3⟩
    exact ⟨j, (sc j j1).2 (j3 j (Nat.le_refl j) j1), j1, (nm j j1).2 j2⟩
/-- the class: the [ ] of a variable -/
theorem xc_square {Q : St → Prop} (kk : ∀ s, Kp [(6, 3), (6, 4)] [] w s → ((s 6 3).toInt ≠ 0 ↔ (w 6 3).toInt ≠ 0 ∨ SQb w a) → Q s) : pk_X1_checkSquare a w Q := by
  unfold pk_X1_checkSquare
  refine ⟨fun s => Kp [(6, 3), (6, 4)] [] w s ∧ ((s 6 3).toInt ≠ 0 ↔ (w 6 3).toInt ≠ 0 ∨ (0 ≤ (w 8 6).toInt ∧ (((w 8 7).toInt = -1 ∧ a.toInt = 0) ∨ ((w 8 7).toInt ≠ -1 ∧ (w 8 7).toInt < 1)))), ?_, fun c => ⟨kp_rf, ⟨fun h => Or.inl h, fun h => h.elim id (fun h => by omega)⟩⟩, fun c => ⟨((w 8 7).toInt = -1 ∧ a.toInt = 0) ∨ ((w 8 7).toInt ≠ -1 ∧ (w 8 7).toInt < 1), fun hj => xl_fail (by decide) (fun s ks hs => ⟨ks, fun _ => Or.inr ⟨c, hj⟩, fun _ => hs⟩), fun c1 => ⟨fun c2 => ⟨kp_rf, ⟨fun h => Or.inl h, fun h => h.elim id (fun h => by omega)⟩⟩, fun c2 => Or.inr ⟨c1, c2⟩⟩, fun c1 => ⟨fun c2 => ⟨kp_rf, ⟨fun h => Or.inl h, fun h => h.elim id (fun h => by omega)⟩⟩, fun c2 => Or.inl ⟨c1, c2⟩⟩⟩⟩
  rintro s ⟨ks, hs⟩
  rw [ks 8 6 rfl rfl, ks 8 7 rfl rfl]
  refine ⟨fun c => kk s ks ?_, fun c => ⟨fun c2 => kk s ks ?_, fun c2 => xl_fail (by decide) (fun s2 k2 h2 => kk s2 (kp_tr ks k2) ⟨fun _ => Or.inr ⟨c, Or.inr (Or.inr c2)⟩, fun _ => h2⟩)⟩⟩
  · rw [hs]
    unfold SQb
    exact ⟨fun h => h.elim Or.inl (fun h => by omega), fun h => h.elim Or.inl (fun h => by omega)⟩
  · rw [hs]
    unfold SQb
    exact ⟨fun h => h.elim Or.inl (fun h => Or.inr ⟨h.1, h.2.elim Or.inl (fun h => Or.inr (Or.inl h))⟩), fun h => h.elim Or.inl (fun h => Or.inr ⟨h.1, h.2.elim Or.inl (fun h => h.elim Or.inr (fun h => by omega))⟩)⟩
end VLC
end

section
/-! a local variable is declared: both sides -/
section VDC
variable {w s r σ σ' σ1 s1 s2 τ t : St} {kd vl : Nat → Int} {n S m lo d u Lc : Nat} {vs z : List Nat} {a b c ty ex : Int32} {Q : St → Prop}
theorem xl_declareLocal (h10 : (w 6 10).toInt = (Lc : Int)) (hLc : Lc < 100) (h15 : (w 6 15).toInt = (S : Int)) (hS : S < 100) (kk : ∀ s, Kp [(6, 10), (6, 15)] [40, 41, 42, 43, 44] w s → (s 6 10).toInt = (Lc : Int) + 1 → (s 6 15).toInt = (S : Int) + 1 → (∀ j, s 40 j = if j = Lc then a else w 40 j) → (∀ j, s 41 j = if j = Lc then b else w 41 j) → (∀ j, s 42 j = if j = Lc then c else w 42 j) → (∀ j, s 44 j = if j = S then w 6 10 else w 44 j) → Q s) : pk_X11_declareLocal a b c w Q := by
  unfold pk_X11_declareLocal
  refine ⟨fun _ => True, fun y _ _ => ?_, fun _ => trivial, fun _ => trivial⟩
  refine kk _ (kp_f (kp_f (kp_F (kp_F (kp_F (kp_F (kp_F kp_rf rfl) rfl) rfl) rfl) rfl) rfl) rfl) ?_ ?_ (fun j => ?_) (fun j => ?_) (fun j => ?_) (fun j => ?_)
  · rw [rdA_ne (by decide), rdA_eq rfl, ad1 (by omega), h10]
  · rw [rdA_eq rfl, ad1 (by omega), h15]
  · rw [rdC_ne (by decide), rdC_ne (by decide), rdF_ne (by decide), rdF_ne (by decide), rdF_ne (by decide), rdF_ne (by decide), rdF_eq, setv_at h10 hLc]
  · rw [rdC_ne (by decide), rdC_ne (by decide), rdF_ne (by decide), rdF_ne (by decide), rdF_ne (by decide), rdF_eq, setv_at h10 hLc, rdF_ne (by decide)]
  · rw [rdC_ne (by decide), rdC_ne (by decide), rdF_ne (by decide), rdF_ne (by decide), rdF_eq, setv_at h10 hLc, rdF_ne (by decide), rdF_ne (by decide)]
  · rw [rdC_ne (by decide), rdC_ne (by decide), rdF_eq, setv_at h15 hS, rdF_ne (by decide), rdF_ne (by decide), rdF_ne (by decide), rdF_ne (by decide)]
/-- the class's step of a local variable -/
theorem xv_local (hE : REq kd n S m lo w σ) (hC : SCq S d w σ) (hd : 1 ≤ d ∧ d ≤ 26) (h10 : (w 6 10).toInt = (Lc : Int)) (hLc : S ≤ Lc ∧ Lc ≤ 100) (hf : (w 6 3).toInt = 0) (ha : a.toInt = (u : Int)) (hu : u ≤ n) (ku : kd u = 2)
    (k1 : ∀ s, (s 6 3).toInt ≠ 0 → HHm σ S d u ∨ Lc = 100 ∨ SQb w b → Q s)
    (k0 : ¬ (HHm σ S d u ∨ Lc = 100 ∨ SQb w b) → ∀ s, Kp [(4, 1), (6, 3), (6, 4), (6, 10), (6, 15), (8, 10)] [24, 40, 41, 42, 43, 44] w s → (s 6 3).toInt = 0 → (s 8 10).toInt = (Lc : Int) → (s 6 10).toInt = (Lc : Int) + 1 → (s 6 15).toInt = (S : Int) + 1 → (∀ j, s 40 j = if j = Lc then a else w 40 j) → (∀ j, s 41 j = if j = Lc then w 8 11 else w 41 j) → (∀ j, s 42 j = if j = Lc then w 8 12 else w 42 j) → (∀ j, s 44 j = if j = S then w 6 10 else w 44 j) → Q s) : pk_X1_local a b w Q := by
  obtain ⟨c1, c2, c3, c4⟩ := hC
  obtain ⟨b0, b1, b2⟩ := c3 (d - 1) (by omega)
  have hh := held_alike hE.1 hE.2.1 ⟨c1, c2, c3, c4⟩ hd.1 hu ku
  unfold pk_X1_local pk_X11_scopeStart
  have es : atv 52 (w 45) ((w 6 17) - (1 : Int32)) = w 45 (d - 1) := atv_at (by rw [sb1 (by omega), c1]; omega) (by omega)
  rw [es]
  refine xl_localFrom (S := S) (lo := (w 45 (d - 1)).toInt.toNat) (u := u) (by omega) ha (tn_class hE.1 (by have := hE.1.1.1; omega) hu ku) (lo_class hE.1 hE.2.1) (fun v hv => ?_)
  have nh : v.toInt < 0 ↔ ¬ HHm σ S d u := by
    rw [← hh]
    rcases hv with ⟨j, j1, j2, j3, j4, j5⟩ | ⟨j1, j2⟩
    · have := (hE.2.1.2.2.2.1 j j2).2.1
      exact ⟨fun h => by omega, fun h => absurd ⟨j, j1, j2, j3⟩ h⟩
    · exact ⟨fun _ ⟨j, q1, q2, q3⟩ => j1 j q1 q2 q3, fun _ => by omega⟩
  refine ⟨fun s => Kp [(6, 3), (6, 4)] [] w s ∧ ((s 6 3).toInt ≠ 0 ↔ HHm σ S d u), ?_, fun c => ⟨kp_rf, fun h => absurd hf h, fun h => absurd h (nh.1 c)⟩, fun c => xl_fail (by decide) (fun s ks hs => ⟨ks, fun _ => Classical.byContradiction (fun hn => by have := nh.2 hn; omega), fun _ => hs⟩)⟩
  rintro s ⟨ks, hs⟩
  refine ⟨fun s => Kp [(6, 3), (6, 4)] [] w s ∧ ((s 6 3).toInt ≠ 0 ↔ HHm σ S d u ∨ Lc = 100), ?_, fun c => ⟨ks, ?_⟩, fun c => xl_fail (by decide) (fun s2 k2 h2 => ⟨kp_tr ks k2, fun _ => Or.inr ?_, fun _ => h2⟩)⟩
  · rintro s3 ⟨k3, h3⟩
    refine xc_square (fun s4 k4 h4 => ?_)
    have kz : Kp [(6, 3), (6, 4)] [] w s4 := kp_tr k3 k4
    have sq : SQb s3 b ↔ SQb w b := by
      unfold SQb
      rw [k3 8 6 rfl rfl, k3 8 7 rfl rfl]
    rw [sq, h3] at h4
    replace h4 : (s4 6 3).toInt ≠ 0 ↔ HHm σ S d u ∨ Lc = 100 ∨ SQb w b := h4.trans ⟨fun h => h.elim (fun h => h.elim Or.inl (fun h => Or.inr (Or.inl h))) (fun h => Or.inr (Or.inr h)), fun h => h.elim (fun h => Or.inl (Or.inl h)) (fun h => h.elim (fun h => Or.inl (Or.inr h)) Or.inr)⟩
    refine ⟨fun c0 => ?_, fun c0 => k1 s4 c0 (h4.1 c0)⟩
    have nb : ¬ (HHm σ S d u ∨ Lc = 100 ∨ SQb w b) := fun hx => h4.2 hx c0
    have hLc2 : Lc < 100 := by
      have : ¬ Lc = 100 := fun hx => nb (Or.inr (Or.inl hx))
      omega
    have k5 : Kp [(6, 3), (6, 4), (8, 10)] [] w (upC s4 8 10 (s4 6 10)) := kp_f (kp_sub kz rfl rfl) rfl
    have e810 : (upC s4 8 10 (s4 6 10)) 8 10 = w 6 10 := by rw [rdA_eq rfl, kz 6 10 rfl rfl]
    have e63 : ((upC s4 8 10 (s4 6 10)) 6 3).toInt = 0 := by rw [rdC_ne (by decide)]; exact c0
    rw [kz 8 11 rfl rfl, kz 8 12 rfl rfl]
    generalize upC s4 8 10 (s4 6 10) = s5 at k5 e810 e63
    refine xl_declareLocal (Lc := Lc) (S := S) (by rw [k5 6 10 rfl rfl]; exact h10) hLc2 (by rw [k5 6 15 rfl rfl]; exact hE.2.1.1) (by omega) (fun s6 k6 f10 f15 f40 f41 f42 f44 => ?_)
    have fin : ∀ s7, Kp [(4, 1)] [24] s6 s7 → Q s7 := fun s7 k7 => by
      have kk : Kp [(4, 1), (6, 3), (6, 4), (6, 10), (6, 15), (8, 10)] [24, 40, 41, 42, 43, 44] w s7 := kp_tr (kp_tr (kp_sub k5 rfl rfl) (kp_sub k6 rfl rfl)) (kp_sub k7 rfl rfl)
      refine k0 nb s7 kk ?_ ?_ ?_ ?_ (fun j => ?_) (fun j => ?_) (fun j => ?_) (fun j => ?_)
      · rw [k7 6 3 rfl rfl, k6 6 3 rfl rfl]; exact e63
      · rw [k7 8 10 rfl rfl, k6 8 10 rfl rfl, e810]; exact h10
      · rw [k7 6 10 rfl rfl]; exact f10
      · rw [k7 6 15 rfl rfl]; exact f15
      · rw [k7 40 j rfl rfl, f40, k5 40 j rfl rfl]
      · rw [k7 41 j rfl rfl, f41, k5 41 j rfl rfl]
      · rw [k7 42 j rfl rfl, f42, k5 42 j rfl rfl]
      · rw [k7 44 j rfl rfl, f44, k5 44 j rfl rfl, k5 6 10 rfl rfl]
    unfold pk_X1_storeLocal
    exact ⟨fun _ => xl_emit (fun _ s7 k7 => fin s7 k7), fun _ => xl_emit (fun _ s7 k7 => xl_emit (fun _ s8 k8 => xl_emit (fun _ s9 k9 => fin s9 (kp_tr (kp_tr k7 k8) k9))))⟩
  · rw [ks 6 10 rfl rfl, h10] at c
    rw [hs]
    exact ⟨fun h => Or.inl h, fun h => h.elim id (fun h => by omega)⟩
  · rw [ks 6 10 rfl rfl, h10] at c
    omega
/-- both sides alike, a local more -/
theorem re_more (hE : REq kd n S m lo w σ) (hLc : S ≤ Lc ∧ Lc < 100) (h44 : ∀ j, j < S → (w 44 j).toInt < (Lc : Int)) (h10 : (w 6 10).toInt = (Lc : Int)) (hty : 0 ≤ ty.toInt ∧ ty.toInt ≤ 8) (hu : u ≤ n) (ku : kd u = 2) (hau : a.toInt = (u : Int)) (hbu : b.toInt = (Lc : Int))
    (kw : Ko [(4, 1), (6, 3), (6, 4), (6, 10), (6, 15)] [24, 40, 41, 42, 43, 44, 8] w s) (f15 : (s 6 15).toInt = (S : Int) + 1) (f40 : ∀ j, s 40 j = if j = Lc then a else w 40 j) (f41 : ∀ j, s 41 j = if j = Lc then ty else w 41 j) (f42 : ∀ j, s 42 j = if j = Lc then ex else w 42 j) (f44 : ∀ j, s 44 j = if j = S then w 6 10 else w 44 j)
    (kr : Kp [(0, 12), (0, 13), (0, 49), (0, 53), (0, 17), (0, 10)] [8, 31, 32, 33, 34, 35, 36] σ σ') (g53 : (σ' 0 53).toInt = (S : Int) + 1) (g31 : ∀ j, σ' 31 j = if j = Lc then ty else σ 31 j) (g32 : ∀ j, j ≠ Lc → σ' 32 j = σ 32 j) (g32L : (σ' 32 Lc).toInt < 0 ↔ ex.toInt < 0) (g34 : ∀ j, σ' 34 j = if j = S then a else σ 34 j) (g35 : ∀ j, σ' 35 j = if j = S then b else σ 35 j) : REq kd n (S + 1) m lo s σ' := by
  obtain ⟨h1, h2, h3, h4, h5⟩ := hE
  have kc : ∀ c, c < 47 → ([24, 40, 41, 42, 43, 44, 8, 4, 6] : List Nat).contains c = false → s c = w c := fun c hc hn => by
    simp only [List.contains_cons, List.contains_nil, Bool.or_false, Bool.or_eq_false_iff, beq_eq_false_iff_ne, ne_eq] at hn
    refine funext (fun j => kw c j (op_lt hc) ?_ ?_)
    · simp only [List.contains_cons, List.contains_nil, Bool.or_false, Bool.or_eq_false_iff, beq_eq_false_iff_ne, ne_eq, Prod.mk.injEq, not_and]
      omega
    · simp only [List.contains_cons, List.contains_nil, Bool.or_false, Bool.or_eq_false_iff, beq_eq_false_iff_ne, ne_eq]
      omega
  have rc : ∀ c, ([8, 31, 32, 33, 34, 35, 36, 0] : List Nat).contains c = false → σ' c = σ c := fun c hn => by
    simp only [List.contains_cons, List.contains_nil, Bool.or_false, Bool.or_eq_false_iff, beq_eq_false_iff_ne, ne_eq] at hn
    refine funext (fun j => kr c j ?_ ?_)
    · simp only [List.contains_cons, List.contains_nil, Bool.or_false, Bool.or_eq_false_iff, beq_eq_false_iff_ne, ne_eq, Prod.mk.injEq, not_and]
      omega
    · simp only [List.contains_cons, List.contains_nil, Bool.or_false, Bool.or_eq_false_iff, beq_eq_false_iff_ne, ne_eq]
      omega
  have c1 := kc 1 (by decide) rfl
  have c5 := kc 5 (by decide) rfl
  have c13 := kc 13 (by decide) rfl
  have c14 := kc 14 (by decide) rfl
  have c15 := kc 15 (by decide) rfl
  have c25 := kc 25 (by decide) rfl
  have c26 := kc 26 (by decide) rfl
  have c27 := kc 27 (by decide) rfl
  have c38 := kc 38 (by decide) rfl
  have c39 := kc 39 (by decide) rfl
  have f7 : s 6 7 = w 6 7 := kw 6 7 (op_lt (by decide)) rfl rfl
  have f5 : s 6 5 = w 6 5 := kw 6 5 (op_lt (by decide)) rfl rfl
  have g1 := rc 1 rfl
  have g2 := rc 2 rfl
  have g3 := rc 3 rfl
  have g4 := rc 4 rfl
  have g6 := rc 6 rfl
  have g9 := rc 9 rfl
  have g10 := rc 10 rfl
  have g11 := rc 11 rfl
  have g12 := rc 12 rfl
  have g13 := rc 13 rfl
  have g14 := rc 14 rfl
  have g15 := rc 15 rfl
  have g16 := rc 16 rfl
  have g18 := rc 18 rfl
  have g19 := rc 19 rfl
  have g20 := rc 20 rfl
  have g21 := rc 21 rfl
  have g22 := rc 22 rfl
  have e35 : σ' 0 35 = σ 0 35 := kr 0 35 rfl rfl
  have e36 : σ' 0 36 = σ 0 36 := kr 0 36 rfl rfl
  have e37 : σ' 0 37 = σ 0 37 := kr 0 37 rfl rfl
  have t1 : TKR s σ' kd n := by
    unfold TKR RTk TNm at h1 ⊢
    rw [c1, c13, c14, c15, g1, g2, g3, g4, g6]
    exact h1
  have t3 : OUR s σ' kd n m lo := by
    unfold OUR ORR FLq NSm EOKm otk at h3 ⊢
    rw [c5, c25, c26, c27, c38, c39, f7, g1, g3, g4, g9, g10, g11, g12, g13, g14, g15, g16, g18, g19, g20, g21, g22, e35, e36, show σ' 0 31 = σ 0 31 from kr 0 31 rfl rfl]
    exact h3
  have ev : ∀ j, j < S → s 44 j = w 44 j := fun j hj => by rw [f44, if_neg (by omega)]
  have eS : (s 44 S).toInt = (Lc : Int) := by rw [f44, if_pos rfl]; exact h10
  have nS : (s 44 S).toInt.toNat = Lc := by rw [eS]; rfl
  refine ⟨t1, ⟨f15, g53, by omega, fun j hj => ?_, fun j hj => ?_⟩, t3, by rw [f5, e37]; exact h4, ⟨fun j hj => ?_, fun i hi => ?_⟩⟩
  · by_cases cj : j = S
    · rw [cj]
      unfold mtk
      rw [nS, eS, f40, if_pos rfl, g35, if_pos rfl, g34, if_pos rfl, hau, hbu]
      exact ⟨rfl, by omega, by omega, rfl, by omega, hu, ku⟩
    · have hj' : j < S := by omega
      obtain ⟨q1, q2, q3, q4, q5, q6, q7⟩ := h2.2.2.2.1 j hj'
      have q8 := h44 j hj'
      have em : mtk σ' j = mtk σ j := by unfold mtk; rw [g34, if_neg cj]
      rw [ev j hj', g35, if_neg cj, g34, if_neg cj, f40, if_neg (by omega), em]
      exact ⟨q1, q2, q3, q4, q5, q6, q7⟩
  · by_cases cj : j = S
    · rw [cj, nS, f41, if_pos rfl, f42, if_pos rfl, g31, if_pos rfl]
      exact ⟨rfl, g32L.symm⟩
    · have hj' : j < S := by omega
      obtain ⟨q1, q2, q3, _⟩ := h2.2.2.2.1 j hj'
      have q8 := h44 j hj'
      have nl : (w 44 j).toInt.toNat ≠ Lc := by omega
      rw [ev j hj', f41, if_neg nl, f42, if_neg nl, g31, if_neg nl, g32 _ nl]
      exact h2.2.2.2.2 j hj'
  · by_cases cj : j = S
    · rw [cj, nS, f41, if_pos rfl]
      omega
    · have hj' : j < S := by omega
      obtain ⟨q1, q2, q3, _⟩ := h2.2.2.2.1 j hj'
      have q8 := h44 j hj'
      have nl : (w 44 j).toInt.toNat ≠ Lc := by omega
      rw [ev j hj', f41, if_neg nl]
      exact h5.1 j hj'
  · rw [c26, c5]
    exact h5.2 i hi
end VDC
end

section
/-! a local more: the whole relation -/
section VMO
variable {w s r σ σ' σ1 s1 s2 τ t : St} {kd vl : Nat → Int} {n S m lo d u Lc : Nat} {vs z : List Nat} {a b c ty ex : Int32} {Q : St → Prop}
theorem rc_more (kr : Kp [(0, 12), (0, 13), (0, 49), (0, 53), (0, 17), (0, 10)] [8, 31, 32, 33, 34, 35, 36] σ σ') : ∀ c, ([8, 31, 32, 33, 34, 35, 36, 0] : List Nat).contains c = false → σ' c = σ c := fun c hn => by
  simp only [List.contains_cons, List.contains_nil, Bool.or_false, Bool.or_eq_false_iff, beq_eq_false_iff_ne, ne_eq] at hn
  refine funext (fun j => kr c j ?_ ?_)
  · simp only [List.contains_cons, List.contains_nil, Bool.or_false, Bool.or_eq_false_iff, beq_eq_false_iff_ne, ne_eq, Prod.mk.injEq, not_and]
    omega
  · simp only [List.contains_cons, List.contains_nil, Bool.or_false, Bool.or_eq_false_iff, beq_eq_false_iff_ne, ne_eq]
    omega
theorem rg_more (hG : RGs kd vl n S m lo d σ) (hS : S < 100) (hLc : Lc < 100) (h49 : (σ 0 49).toInt = (Lc : Int)) (hSL : S ≤ Lc) (hty : 0 ≤ ty.toInt ∧ ty.toInt ≤ 8) (hu : u ≤ n) (ku : kd u = 2) (hau : a.toInt = (u : Int)) (hbu : b.toInt = (Lc : Int))
    (kr : Kp [(0, 12), (0, 13), (0, 49), (0, 53), (0, 17), (0, 10)] [8, 31, 32, 33, 34, 35, 36] σ σ') (h12 : 0 ≤ (σ' 0 12).toInt) (g49 : (σ' 0 49).toInt = (Lc : Int) + 1) (g53 : (σ' 0 53).toInt = (S : Int) + 1) (g31 : ∀ j, σ' 31 j = if j = Lc then ty else σ 31 j) (g34 : ∀ j, σ' 34 j = if j = S then a else σ 34 j) (g35 : ∀ j, σ' 35 j = if j = S then b else σ 35 j) : RGs kd vl n (S + 1) m lo d σ' := by
  have rc := rc_more kr
  obtain ⟨hm, q2, q3, q4, q5⟩ := hG
  obtain ⟨h1, h2, h3, h4, h5, h6, h7, h8, h9, h10, h11, _⟩ := hm
  have g2 := rc 2 rfl
  have g3 := rc 3 rfl
  have g4 := rc 4 rfl
  have g6 := rc 6 rfl
  have g9 := rc 9 rfl
  have g10 := rc 10 rfl
  have g15 := rc 15 rfl
  have g16 := rc 16 rfl
  have g18 := rc 18 rfl
  have g19 := rc 19 rfl
  have g22 := rc 22 rfl
  have e35 : σ' 0 35 = σ 0 35 := kr 0 35 rfl rfl
  have e36 : σ' 0 36 = σ 0 36 := kr 0 36 rfl rfl
  have e37 : σ' 0 37 = σ 0 37 := kr 0 37 rfl rfl
  have tnu := h2 u hu ku
  refine ⟨⟨?_, ?_, ?_, ⟨by rw [g53]; rfl, hS, fun j hj => ?_⟩, ?_, h6, ⟨fun j => ?_, fun j hj => ?_⟩, ?_, fun j => ?_, ?_, ?_, h12⟩, by rw [kr 0 54 rfl rfl]; exact q2, ⟨Lc + 1, by rw [g49]; rfl, by omega, by omega⟩, by rw [kr 0 15 rfl rfl]; exact q4, by rw [g6]; exact q5⟩
  · unfold RTk at h1 ⊢
    rw [g2]
    exact h1
  · unfold TNm at h2 ⊢
    rw [g3, g4]
    exact h2
  · rw [g6]; exact h3
  · have h4' := h4.2.2
    unfold TNm mtk at h4' ⊢
    unfold TNm at tnu
    rw [g3, g4, g34]
    by_cases cj : j = S
    · rw [if_pos cj, hau]
      exact ⟨by omega, tnu⟩
    · rw [if_neg cj]
      exact h4' j (by omega)
  · unfold EOKm at h5 ⊢
    rw [e35, e36, g18, g19, g22, show σ' 0 31 = σ 0 31 from kr 0 31 rfl rfl]
    exact h5
  · rw [g31]
    by_cases cj : j = Lc
    · rw [if_pos cj]; omega
    · rw [if_neg cj]; exact h7.1 j
  · rw [g31]
    by_cases cj : (σ' 35 j).toInt.toNat = Lc
    · rw [if_pos cj]; exact hty.2
    · rw [if_neg cj]
      rw [g35] at cj ⊢
      by_cases cs : j = S
      · rw [if_pos cs, hbu] at cj
        exact absurd rfl cj
      · rw [if_neg cs]
        exact h7.2 j (by omega)
  · rw [g10]; exact h8
  · rw [g35]
    by_cases cs : j = S
    · rw [if_pos cs]; omega
    · rw [if_neg cs]; exact h9 j
  · rw [g9, g10, g15, g16]; exact h10
  · rw [e37]; exact h11
theorem ro_more (hE : REq kd n (S + 1) m lo s σ') (hC : SCq S d w σ) (hL : LCq S w σ) (hR : RTq w σ) (hLc : S ≤ Lc ∧ Lc < 100) (h10 : (w 6 10).toInt = (Lc : Int)) (hd : 1 ≤ d)
    (kw : Ko [(4, 1), (6, 3), (6, 4), (6, 10), (6, 15)] [24, 40, 41, 42, 43, 44, 8] w s) (e7 : (s 7 7).toInt = 0) (e86 : (s 8 6).toInt = -1) (f10 : (s 6 10).toInt = (Lc : Int) + 1) (f44 : ∀ j, s 44 j = if j = S then w 6 10 else w 44 j)
    (kr : Kp [(0, 12), (0, 13), (0, 49), (0, 53), (0, 17), (0, 10)] [8, 31, 32, 33, 34, 35, 36] σ σ') (g49 : (σ' 0 49).toInt = (Lc : Int) + 1) (g36 : ∀ j, σ' 36 j = if j = S then σ 0 54 else σ 36 j) : RSo kd n (S + 1) m lo d 0 s σ' := by
  obtain ⟨c1, c2, c3, c4⟩ := hC
  obtain ⟨Lc', l1, l2, l3, l4, l5⟩ := hL
  have e : Lc' = Lc := by omega
  rw [e] at l5
  have k45 : s 45 = w 45 := ko_rd kw 45 (by decide) rfl (fun _ => rfl)
  have k26 : s 26 = w 26 := ko_rd kw 26 (by decide) rfl (fun _ => rfl)
  refine ⟨hE, by rw [e7]; rfl, ⟨?_, by rw [kr 0 54 rfl rfl]; exact c2, fun i hi => ?_, fun j hj => ?_⟩, ⟨Lc + 1, by rw [f10]; rfl, by rw [g49]; rfl, by omega, by omega, fun j hj => ?_⟩, ?_, e86⟩
  · rw [kw 6 17 (op_lt (by decide)) rfl rfl]
    exact c1
  · rw [k45]
    obtain ⟨i0, i1, i2⟩ := c3 i hi
    refine ⟨i0, by omega, fun j hj => ?_⟩
    rw [g36]
    by_cases cj : j = S
    · rw [if_pos cj, c2, cj]
      exact ⟨fun _ => by omega, fun _ => i1⟩
    · rw [if_neg cj]
      exact i2 j (by omega)
  · rw [g36]
    by_cases cj : j = S
    · rw [if_pos cj, c2]
      omega
    · rw [if_neg cj]
      exact c4 j (by omega)
  · rw [f44]
    by_cases cj : j = S
    · rw [if_pos cj, h10]
      omega
    · rw [if_neg cj]
      have := l5 j (by omega)
      omega
  · unfold RTq
    rw [kw 6 6 (op_lt (by decide)) rfl rfl, k26, kr 0 55 rfl rfl, kr 0 56 rfl rfl]
    exact hR
/-- whatever is looked for -/
theorem xl_sameAny {Q : Int32 → Prop} (kk : ∀ v, Q v) : pk_X10_sameName a b w Q := by
  unfold pk_X10_sameName
  first
  | exact ⟨fun _ => ⟨fun _ => True, trivial, fun _ _ => ⟨fun _ => kk _, fun _ => ⟨fun _ => kk _, fun _ => ⟨fun _ => kk _, fun _ => ⟨fun _ => kk _, fun _ => kk _⟩⟩⟩⟩⟩, fun _ => kk _⟩
  | exact ⟨fun _ => ⟨fun _ => True, trivial, fun _ _ => ⟨fun _ => kk _, fun _ => ⟨fun _ => kk _, fun _ => ⟨fun _ => kk _, fun _ _ _ => ⟨fun _ => trivial, fun _ => kk _⟩⟩⟩⟩⟩, fun _ => kk _⟩
  | exact ⟨fun _ => ⟨fun _ => True, trivial, fun _ _ => ⟨fun _ => kk _, fun _ => ⟨fun c2 => trivial, fun c2 => ⟨fun c3 => trivial, fun c3 _ _ => ⟨fun c4 => trivial, fun c4 => kk _⟩⟩⟩⟩⟩, fun _ => kk _⟩
theorem xl_fromAny {Q : Int32 → Prop} (kk : ∀ v, Q v) : pk_X11_localFrom a b w Q := by
  unfold pk_X11_localFrom
  exact ⟨fun _ => True, trivial, fun _ _ => ⟨fun _ => kk _, fun _ => xl_sameAny (fun _ => ⟨fun _ => trivial, fun _ => kk _⟩)⟩⟩
/-- the class: a [ ] that is wrong -/
theorem xv_bad (hb : SQb w b) (k1 : ∀ s, (s 6 3).toInt ≠ 0 → Q s) : pk_X1_local a b w Q := by
  unfold pk_X1_local pk_X11_scopeStart
  have sq : ∀ s, Kp [(6, 3), (6, 4)] [] w s → pk_X1_checkSquare b s (fun s50 => ((s50 6 3).toInt = 0 → (pk_X11_declareLocal a (s50 8 11) (s50 8 12) (upC s50 8 10 (s50 6 10)) (fun s88 => ((s88 8 12).toInt ≠ -1 → (pk_X0_emit (15 : Int32) (s88 8 10) (s88 8 12) (0 : Int32) s88 (fun v133 s133 => Q s133))) ∧ ((s88 8 12).toInt = -1 → (pk_X0_emit (1 : Int32) (0 : Int32) (0 : Int32) (0 : Int32) s88 (fun v107 s107 => pk_X1_storeLocal s107 (fun s112 => Q s112))))))) ∧ ((s50 6 3).toInt ≠ 0 → (Q s50))) := fun s ks => by
    refine xc_square (fun s4 k4 h4 => ?_)
    have : (s4 6 3).toInt ≠ 0 := h4.2 (Or.inr (by
      unfold SQb at hb ⊢
      rw [ks 8 6 rfl rfl, ks 8 7 rfl rfl]
      exact hb))
    exact ⟨fun c => absurd c this, fun _ => k1 s4 this⟩
  refine xl_fromAny (fun v => ⟨fun s => Kp [(6, 3), (6, 4)] [] w s, fun s ks => ⟨fun s => Kp [(6, 3), (6, 4)] [] w s, fun s ks => sq s ks, fun _ => ks, fun _ => xl_fail (by decide) (fun s2 k2 _ => kp_tr ks k2)⟩, fun _ => kp_rf, fun _ => xl_fail (by decide) (fun s2 k2 _ => k2)⟩)
end VMO
end

