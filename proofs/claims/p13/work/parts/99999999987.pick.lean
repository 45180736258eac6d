/-! pick(), both sides: what is picked -/
def PKr (w σ : St) : Prop := (w 10 5).toInt = (σ 0 67).toInt + 1 ∧ ∀ j : Nat, (j : Int) < (σ 0 67).toInt → (w 56 (j + 1)).toInt = (σ 40 j).toInt
def PCw (w : St) (a v : Int32) (t : St) : Prop := ((¬ (1 ≤ a.toInt ∧ a.toInt ≤ (w 5 13).toInt) ∨ ∃ j : Nat, 1 ≤ j ∧ (j : Int) < (w 10 5).toInt ∧ (w 56 j).toInt = a.toInt) ∧ v.toInt = -1 ∧ t 10 5 = w 10 5 ∧ t 56 = w 56) ∨ (((1 ≤ a.toInt ∧ a.toInt ≤ (w 5 13).toInt) ∧ ¬ ∃ j : Nat, 1 ≤ j ∧ (j : Int) < (w 10 5).toInt ∧ (w 56 j).toInt = a.toInt) ∧ v.toInt = (w 10 5).toInt ∧ (t 10 5).toInt = (w 10 5).toInt + 1 ∧ ((w 10 5).toInt < 101 → ∀ j : Nat, t 56 j = if (j : Int) = (w 10 5).toInt then a else w 56 j))
def PCm (σ : St) (a v : Int32) (s : St) : Prop := ((¬ (1 ≤ a.toInt ∧ a.toInt ≤ (σ 0 35).toInt) ∨ ∃ j : Nat, (j : Int) < (σ 0 67).toInt ∧ (σ 40 j).toInt = a.toInt) ∧ v.toInt = -1 ∧ s 0 67 = σ 0 67 ∧ s 40 = σ 40) ∨ (((1 ≤ a.toInt ∧ a.toInt ≤ (σ 0 35).toInt) ∧ ¬ ∃ j : Nat, (j : Int) < (σ 0 67).toInt ∧ (σ 40 j).toInt = a.toInt) ∧ v.toInt = (σ 0 67).toInt + 1 ∧ (s 0 67).toInt = (σ 0 67).toInt + 1 ∧ ∀ j : Nat, s 40 j = if (j : Int) = (σ 0 67).toInt then a else σ 40 j)
section PIK
variable {w σ s t τ : St} {vs z : List Nat} {a x v v2 : Int32} {o o' i : Nat}
theorem px_pick {Q : Int32 → St → Prop} (h : IVx w o) (k : ∀ v t, PCw w a v t → Q v t) : pk_X12_pick a w Q := by
  have pk := h.2.2.2.2.2.2.2.2.2.2.1
  obtain ⟨⟨h1, h1'⟩, -⟩ := h
  obtain ⟨⟨p1, p1'⟩, -⟩ := pk
  unfold pk_X12_pick pk_X8_has
  have bad : ¬ (1 ≤ a.toInt ∧ a.toInt ≤ (w 5 13).toInt) → Q (-1) w := fun hn => k _ _ (Or.inl ⟨Or.inl hn, by decide, rfl, rfl⟩)
  refine ⟨fun c => ⟨fun _ => bad (by omega), fun hx => absurd rfl hx⟩, fun c1 => ⟨fun c2 => ⟨fun _ => bad (by omega), fun hx => absurd rfl hx⟩, fun c2 => ⟨fun hx => absurd hx (by decide), fun _ => ?_⟩⟩⟩
  unfold pk_X4_choose
  refine ⟨fun x => ∃ i : Nat, x.toInt = (i : Int) ∧ 1 ≤ i ∧ (i : Int) ≤ (w 10 5).toInt ∧ ∀ j : Nat, 1 ≤ j → j < i → (w 56 j).toInt ≠ a.toInt, ⟨1, by decide, Nat.le_refl 1, p1, fun j h1 h2 => by omega⟩, ?_⟩
  rintro x ⟨i, hx, hi, hi2, hn⟩
  refine ⟨fun c => ?_, fun c => ⟨fun ne => ?_, fun eq => ?_⟩⟩
  · have e1 : ((w 10 5) + (1 : Int32)).toInt = (w 10 5).toInt + 1 := ad1 (by omega)
    refine k _ _ (Or.inr ⟨⟨⟨c1, c2⟩, fun ⟨j, j1, j2, j3⟩ => hn j j1 (by omega) j3⟩, ?_, ?_, fun hb j => ?_⟩)
    · rw [sb (by rw [e1, i1]; omega) (by rw [e1, i1]; omega), e1, i1]; omega
    · rw [rdA_eq rfl, e1]
    · have hP : (w 10 5).toInt = (((w 10 5).toInt.toNat : Nat) : Int) := by omega
      rw [rdC_ne (by decide), rdF_eq, setv_at hP (by omega)]
      show (if j = (w 10 5).toInt.toNat then a else w 56 j) = _
      by_cases cj : j = (w 10 5).toInt.toNat
      · rw [if_pos cj, if_pos (by omega)]
      · rw [if_neg cj, if_neg (by omega)]
  · have af : atv 101 (w 56) x = w 56 i := atv_at hx (by omega)
    rw [af] at ne
    refine ⟨i + 1, by rw [ad1 (by omega), hx]; rfl, by omega, by omega, fun j j1 j2 => ?_⟩
    by_cases cj : j = i
    · rw [cj]; exact ne
    · exact hn j j1 (by omega)
  · have af : atv 101 (w 56) x = w 56 i := atv_at hx (by omega)
    rw [af] at eq
    exact k _ _ (Or.inl ⟨Or.inr ⟨i, hi, by omega, eq⟩, by decide, rfl, rfl⟩)
theorem rx_pick {Q : Int32 → St → St → List Nat → Prop} (hp : 0 ≤ (σ 0 67).toInt) (k : ∀ v s t z, PCm σ a v s → Q v s t z) : pp_pick a σ τ vs Q := by
  have bad : ¬ (1 ≤ a.toInt ∧ a.toInt ≤ (σ 0 35).toInt) → Q (-1) σ τ vs := fun hn => k _ _ _ _ (Or.inl ⟨Or.inl hn, by decide, rfl, rfl⟩)
  unfold pp_pick pp_isObject
  refine ⟨fun c => ⟨fun hx => absurd rfl hx, fun _ => bad (by omega)⟩, fun c1 => ⟨fun c2 => ⟨fun hx => absurd rfl hx, fun _ => bad (by omega)⟩, fun c2 => ⟨fun _ => ?_, fun hx => absurd hx (by decide)⟩⟩⟩
  refine ⟨fun x => ∃ i : Nat, x.toInt = (i : Int) ∧ (i : Int) ≤ (σ 0 67).toInt ∧ ∀ j : Nat, j < i → (σ 40 j).toInt ≠ a.toInt, ⟨0, by decide, hp, fun j h1 => absurd h1 (Nat.not_lt_zero j)⟩, ?_⟩
  rintro x ⟨i, hx, hi2, hn⟩
  refine ⟨fun c hr => ?_, fun c hr => ?_⟩
  · have e1 : ((σ 0 67) + (1 : Int32)).toInt = (σ 0 67).toInt + 1 := ad1 (by omega)
    have nP : (σ 0 67).toNatClampNeg = (σ 0 67).toInt.toNat := rfl
    refine k _ _ _ _ (Or.inr ⟨⟨⟨c1, c2⟩, fun ⟨j, j2, j3⟩ => hn j (by omega) j3⟩, e1, by rw [rdA_eq rfl, e1], fun j => ?_⟩)
    rw [rdC_ne (by decide), rdC_eq]
    show (if j = (σ 0 67).toNatClampNeg then a else σ 40 j) = _
    rw [nP]
    by_cases cj : j = (σ 0 67).toInt.toNat
    · rw [if_pos cj, if_pos (by omega)]
    · rw [if_neg cj, if_neg (by omega)]
  · have en : x.toNatClampNeg = i := nat_of hx
    rw [en]
    refine ⟨fun ne => ⟨i + 1, by rw [ad1 (by omega), hx]; rfl, by omega, fun j j2 => ?_⟩, fun eq => k _ _ _ _ (Or.inl ⟨Or.inr ⟨i, by omega, eq⟩, by decide, rfl, rfl⟩)⟩
    by_cases cj : j = i
    · rw [cj]; exact ne
    · exact hn j (by omega)
theorem pc_eq (hp : 0 ≤ (σ 0 67).toInt) (r : RLp w σ) (p : PKr w σ) (ht : IVx t o') (c : PCw w a v t) (m : PCm σ a v2 s) : v = v2 ∧ PKr t s := by
  have pk := ht.2.2.2.2.2.2.2.2.2.2.1
  obtain ⟨⟨_, t1⟩, -⟩ := ht
  obtain ⟨⟨_, p1'⟩, -⟩ := pk
  obtain ⟨k1, k2⟩ := p
  have e35 := r.1
  have ex : (∃ j : Nat, 1 ≤ j ∧ (j : Int) < (w 10 5).toInt ∧ (w 56 j).toInt = a.toInt) ↔ ∃ j : Nat, (j : Int) < (σ 0 67).toInt ∧ (σ 40 j).toInt = a.toInt := by
    constructor
    · rintro ⟨j, j1, j2, j3⟩
      refine ⟨j - 1, by omega, ?_⟩
      rw [← k2 (j - 1) (by omega), show j - 1 + 1 = j from by omega]
      exact j3
    · rintro ⟨j, j2, j3⟩
      exact ⟨j + 1, by omega, by omega, by rw [k2 j j2]; exact j3⟩
  have mm := m
  clear m
  unfold PCm at mm
  rw [← e35, ← ex] at mm
  rcases c with ⟨cb, cv, c1, c2⟩ | ⟨cg, cv, c1, c2⟩
  · rcases mm with ⟨_, mv, m1, m2⟩ | ⟨mg, _⟩
    · exact ⟨ieq (by rw [cv, mv]), by rw [c1, m1]; exact k1, fun j hj => by rw [m1] at hj; rw [c2, m2]; exact k2 j hj⟩
    · exact absurd cb (fun h => h.elim (fun h => h mg.1) (fun h => mg.2 h))
  · rcases mm with ⟨mb, _⟩ | ⟨_, mv, m1, m2⟩
    · exact absurd mb (fun h => h.elim (fun h => h cg.1) (fun h => cg.2 h))
    · have hb : (w 10 5).toInt < 101 := by omega
      refine ⟨ieq (by rw [cv, mv, k1]), by rw [c1, m1, k1], fun j hj => ?_⟩
      rw [m1] at hj
      rw [c2 hb, m2]
      by_cases cj : (j : Int) = (σ 0 67).toInt
      · rw [if_pos cj, if_pos (by omega)]
      · rw [if_neg cj, if_neg (by omega)]
        exact k2 j (by omega)
theorem pk_kept (p : PKr w σ) (c10 : t 10 5 = w 10 5) (c56 : t 56 = w 56) (m67 : s 0 67 = σ 0 67) (m40 : s 40 = σ 40) : PKr t s := ⟨by rw [c10, m67]; exact p.1, fun j hj => by rw [m67] at hj; rw [c56, m40]; exact p.2 j hj⟩
theorem pk_none (c10 : (t 10 5).toInt = 1) (m67 : (s 0 67).toInt = 0) : PKr t s := ⟨by rw [c10, m67]; rfl, fun j hj => by rw [m67] at hj; omega⟩
theorem px_link {Q : Int32 → St → Prop} (k : ∀ v t, (t 10 5).toInt = 1 → Q v t) : pk_X12_link w Q := by
  unfold pk_X12_link pk_X4_join
  refine fq_pk_X4_find_r56_r55 (fun v25 => ?_)
  refine ⟨fun _ _ _ => True, trivial, fun x2 x3 s34 _ => ⟨True, fun _ => ?_, fun _ => trivial, fun _ => ⟨fun _ => trivial, fun _ => fq_pk_X4_look (w := s34) fq_rf (fun _ _ _ => trivial)⟩⟩⟩
  refine ⟨fun _ => True, fun x2 _ => ?_, fun _ => trivial, fun _ => fq_pk_X4_isMain (fun _ => ⟨fun _ => trivial, fun _ => trivial⟩)⟩
  exact ⟨fun _ => True, fun x2 _ => ⟨fun _ => k _ _ (by rw [rdA_eq rfl]; rfl), fun _ => fq_pk_X4_settle (w := s34) fq_rf (fun s _ => k _ _ (by rw [rdA_eq rfl]; rfl))⟩, fun _ => trivial, fun _ => fq_pk_X4_dataCells (fun _ => ⟨fun _ => trivial, fun _ => trivial⟩)⟩
theorem rx_link {Q : Int32 → St → St → List Nat → Prop} (k : ∀ v s t z, (s 0 67).toInt = 0 → Q v s t z) : pp_link σ τ vs Q := by
  unfold pp_link
  have hz : ∀ s s' : St, (s 0 67).toInt = 0 → FHs s s' → (s' 0 67).toInt = 0 := fun s s' hs h => by rw [h.1]; exact hs
  have hi : ((upC (upC (upC σ 0 67 (0 : Int32)) 0 71 ((-1) : Int32)) 0 72 ((-1) : Int32)) 0 67).toInt = 0 := by rw [rdA_ne (by decide), rdA_ne (by decide), rdA_eq rfl]; rfl
  refine ⟨fun _ s _ _ => (s 0 67).toInt = 0, hi, fun x2 s t z hs => ⟨fun _ => ?_, fun _ => fh_pp_isFault (w := s) fh_rf (fun v s' t' z' h => ⟨fun _ => hz s s' hs h, fun _ => k _ _ _ _ (hz s s' hs h)⟩)⟩⟩
  refine fh_pp_mainOf (fun v49 => ⟨fun _ => ?_, fun _ => k _ _ _ _ hs⟩)
  exact ⟨fun _ _ => True, trivial, fun x3 x4 _ => ⟨fun _ => ⟨fun _ => fh_pp_layAll (w := s) (fh_z fh_rf (by decide)) (fun s' t' z' h => k _ _ _ _ (hz s s' hs h)), fun _ => k _ _ _ _ hs⟩, fun _ _ _ => trivial⟩⟩
theorem pk_0 : PKr sc0 sm0 := ⟨by decide, fun j hj => by
  have e : (sm0 0 67).toInt = 0 := by decide
  rw [e] at hj
  omega⟩
end PIK
