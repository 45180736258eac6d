theorem byte_nar (x : Int32) : fits .byte (.int (vp_nar .byte x)) = true := by
  show (decide (-128 ≤ x.toInt8.toInt32) && decide (x.toInt8.toInt32 ≤ 127)) = true
  have h1 : (x.toInt8.toInt32).toInt = x.toInt8.toInt := by simp
  have h2 := Int8.le_toInt x.toInt8
  have h3 := Int8.toInt_lt x.toInt8
  have e1 : (-128 : Int32).toInt = -128 := by decide
  have e2 : (127 : Int32).toInt = 127 := by decide
  rw [Bool.and_eq_true, decide_eq_true_eq, decide_eq_true_eq, i_le, i_le, h1, e1, e2]
  omega
def ByteOK (f : Nat → Int32) : Prop := ∀ k, fits .byte (.int (f k)) = true
def VI (f h : Nat → Int32) : Prop := ∀ k, (f k).toInt = 2 → 0 ≤ (h k).toInt ∧ (h k).toInt ≤ 16001
theorem vi_up {f h : Nat → Int32} {i a b : Int32} (hv : VI f h) (hb : a.toInt = 2 → 0 ≤ b.toInt ∧ b.toInt ≤ 16001) : VI (fun j => if j = i.toNatClampNeg then a else f j) (fun j => if j = i.toNatClampNeg then b else h j) := fun k hk => by
  by_cases e : k = i.toNatClampNeg
  · have hk : (if k = i.toNatClampNeg then a else f k).toInt = 2 := hk
    rw [if_pos e] at hk
    show 0 ≤ (if k = i.toNatClampNeg then b else h k).toInt ∧ (if k = i.toNatClampNeg then b else h k).toInt ≤ 16001
    rw [if_pos e]
    exact hb hk
  · have hk : (if k = i.toNatClampNeg then a else f k).toInt = 2 := hk
    rw [if_neg e] at hk
    show 0 ≤ (if k = i.toNatClampNeg then b else h k).toInt ∧ (if k = i.toNatClampNeg then b else h k).toInt ≤ 16001
    rw [if_neg e]
    exact hv k hk
theorem si_at {f : Nat → Int32} {i r : Int32} {L S : Int} (hq : r = 0 ∨ (vp_in i 52 ∧ r = f i.toNatClampNeg)) (hb : ∀ z : Nat, z < 52 → (z : Int) < S → (f z).toInt ≤ L) (h0 : 0 ≤ L) (hS : 0 ≤ i.toInt → i.toInt < 52 → i.toInt < S) : r.toInt ≤ L := by
  rcases hq with e | ⟨hin, e⟩
  · rw [e]; exact h0
  · obtain ⟨j, hj, ei⟩ := vp_in_of hin (by decide)
    have e2 : i.toInt = j := by rw [ei, nI_toInt (by omega)]
    have e3 : i.toNatClampNeg = j := by
      have : ((i.toNatClampNeg : Nat) : Int) = i.toInt := Int.toNat_of_nonneg (by omega)
      omega
    rw [e, e3]
    exact hb j hj (by have := hS (by omega) (by omega); omega)
def SI (σ : St) : Prop := (σ 6 15).toInt ≤ (σ 6 10).toInt ∧ ∀ z : Nat, z < 52 → (z : Int) < (σ 6 17).toInt → (σ 45 z).toInt ≤ (σ 6 10).toInt
theorem si_open {f f0 : Nat → Int32} {i v : Int32} (hg : (∀ k, f k = f0 k ∨ f k = v) ∧ (vp_in i 52 → f i.toNatClampNeg = v)) (z : Nat) (hz : z < 52) : (f z = f0 z ∧ (z : Int) ≠ i.toInt) ∨ f z = v := by
  by_cases e : (z : Int) = i.toInt
  · have h1 : i.toNatClampNeg = z := by
      have : ((i.toNatClampNeg : Nat) : Int) = i.toInt := Int.toNat_of_nonneg (by omega)
      omega
    have h2 := hg.2 (s_in (by decide) (by omega) (by omega))
    rw [h1] at h2
    exact Or.inr h2
  · rcases hg.1 z with q | q
    · exact Or.inl ⟨q, e⟩
    · exact Or.inr q
def AllIn (lo hi : Int) (f : Nat → Int32) : Prop := ∀ k, lo ≤ (f k).toInt ∧ (f k).toInt ≤ hi
theorem acr_up {lo hi : Int} {a : St} {p k : Nat} {v : Int32} (h : AllIn lo hi (a p)) (hv : lo ≤ v.toInt ∧ v.toInt ≤ hi) : AllIn lo hi (upC a p k v p) := fun j => by
  by_cases e : j = k
  · subst e
    rw [upC_same]
    exact hv
  · rw [upC_ne e]
    exact h j
theorem acr_set {lo hi : Int} {a : St} {p : Nat} {f : Nat → Int32} {v : Int32} (h : AllIn lo hi (a p)) (hf : ∀ k, f k = a p k ∨ f k = v) (hv : lo ≤ v.toInt ∧ v.toInt ≤ hi) : AllIn lo hi (upF a p f p) := fun j => by
  rw [upF_same]
  rcases hf j with e | e
  · rw [e]; exact h j
  · rw [e]; exact hv
theorem acr_at {lo hi : Int} {f : Nat → Int32} {v : Int32} (h : AllIn lo hi f) (h0 : lo ≤ 0) (h1 : 0 ≤ hi) (hv : v = 0 ∨ ∃ k, v = f k) : lo ≤ v.toInt ∧ v.toInt ≤ hi := by
  rcases hv with rfl | ⟨k, rfl⟩
  · exact ⟨h0, h1⟩
  · exact h k
def Inv (σ : St) : Prop := (0 ≤ (σ 0 1).toInt ∧ (σ 0 1).toInt ≤ 16000) ∧ (0 ≤ (σ 0 2).toInt ∧ (σ 0 2).toInt ≤ 65536) ∧ (0 ≤ (σ 5 1).toInt ∧ (σ 5 1).toInt ≤ 10100) ∧ (0 ≤ (σ 5 7).toInt ∧ (σ 5 7).toInt ≤ 65600) ∧ (0 ≤ (σ 2 2).toInt ∧ (σ 2 2).toInt ≤ 40000) ∧ (0 ≤ (σ 6 10).toInt ∧ (σ 6 10).toInt ≤ 100000) ∧ (0 ≤ (σ 6 15).toInt ∧ (σ 6 15).toInt ≤ 100000) ∧ (0 ≤ (σ 3 4).toInt ∧ (σ 3 4).toInt ≤ 32100) ∧ (0 ≤ (σ 2 1).toInt ∧ (σ 2 1).toInt ≤ 16000) ∧ (0 ≤ (σ 11 0).toInt ∧ (σ 11 0).toInt ≤ 4096) ∧ (0 ≤ (σ 11 1).toInt ∧ (σ 11 1).toInt ≤ 4096) ∧ (0 ≤ (σ 11 2).toInt ∧ (σ 11 2).toInt ≤ 4096) ∧ (0 ≤ (σ 5 13).toInt ∧ (σ 5 13).toInt ≤ 100) ∧ AllIn 0 10100 (σ 34) ∧ AllIn 0 40000 (σ 15) ∧ AllIn 0 65600 (σ 29) ∧ AllIn 0 100000 (σ 45) ∧ ByteOK (σ 1) ∧ SI σ ∧ VI (σ 13) (σ 14)
def nop (c : Nat) : Bool := decide (c < 65) && decide (c ≠ 47)
def isOp (q : Nat) : Prop := q = 47 ∨ (65 ≤ q ∧ q < 565)
def Keep (fs : List (Nat × Nat)) (cs : List Nat) (a b : St) : Prop := ∀ c k, nop c = true → fs.contains (c, k) = false → cs.contains c = false → b c k = a c k
theorem keep_rf {fs : List (Nat × Nat)} {cs : List Nat} {a : St} : Keep fs cs a a := fun _ _ _ _ _ => rfl
theorem keep_f {fs : List (Nat × Nat)} {cs : List Nat} {a b : St} {p k : Nat} {v : Int32} (h : Keep fs cs a b) (hm : fs.contains (p, k) = true) : Keep fs cs a (upC b p k v) := fun c j h0 h1 h2 => by
  by_cases e1 : c = p
  · subst e1
    by_cases e2 : j = k
    · subst e2
      rw [hm] at h1
      cases h1
    · rw [upC_ne e2]
      exact h c j h0 h1 h2
  · rw [show upC b p k v c = b c from upF_ne e1]
    exact h c j h0 h1 h2
theorem keep_F {fs : List (Nat × Nat)} {cs : List Nat} {a b : St} {p : Nat} {f : Nat → Int32} (h : Keep fs cs a b) (hm : cs.contains p = true) : Keep fs cs a (upF b p f) := fun c j h0 h1 h2 => by
  by_cases e1 : c = p
  · subst e1
    rw [hm] at h2
    cases h2
  · rw [show upF b p f c = b c from upF_ne e1]
    exact h c j h0 h1 h2
theorem keep_a {fs : List (Nat × Nat)} {cs : List Nat} {a b : St} {p k : Nat} {v : Int32} (h : Keep fs cs a b) (hm : cs.contains p = true) : Keep fs cs a (upC b p k v) := keep_F h hm
theorem keep_c {fs fs1 : List (Nat × Nat)} {cs cs1 : List Nat} {a b d : St} (h : Keep fs cs a b) (hc : Keep fs1 cs1 b d) (s1 : fs1.all (fun x => fs.contains x || cs.contains x.1) = true) (s2 : cs1.all (fun x => cs.contains x) = true) : Keep fs cs a d := fun c j h0 h1 h2 => by
  have e1 : fs1.contains (c, j) = false := by
    cases q : fs1.contains (c, j) with
    | false => rfl
    | true =>
      have h3 := List.all_eq_true.mp s1 (c, j) (List.contains_iff_mem.mp q)
      simp only [h1, h2, Bool.or_self] at h3
      cases h3
  have e2 : cs1.contains c = false := by
    cases q : cs1.contains c with
    | false => rfl
    | true =>
      have h3 := List.all_eq_true.mp s2 c (List.contains_iff_mem.mp q)
      rw [h2] at h3
      cases h3
  rw [hc c j h0 e1 e2]
  exact h c j h0 h1 h2
theorem keep_op {a : St} {q k : Nat} {v : Int32} (hq : isOp q) : Keep [] [] a (upC a q k v) := fun c j h0 _ _ => by
  have hne : c ≠ q := fun e => by
    subst e
    unfold nop at h0
    simp only [Bool.and_eq_true, decide_eq_true_eq] at h0
    rcases hq with h | h
    · exact h0.2 h
    · omega
  rw [show upC a q k v c = a c from upF_ne hne]
theorem inv_keep {a b : St} (h : Keep [] [] a b) (i : Inv a) : Inv b := by
  unfold Inv at i ⊢
  rw [h 0 1 rfl rfl rfl, h 0 2 rfl rfl rfl, h 5 1 rfl rfl rfl, h 5 7 rfl rfl rfl, h 2 2 rfl rfl rfl, h 6 10 rfl rfl rfl, h 6 15 rfl rfl rfl, h 3 4 rfl rfl rfl, h 2 1 rfl rfl rfl, h 11 0 rfl rfl rfl, h 11 1 rfl rfl rfl, h 11 2 rfl rfl rfl, h 5 13 rfl rfl rfl]
  have e1 : b 1 = a 1 := funext (fun k => h 1 k rfl rfl rfl)
  have e34 : b 34 = a 34 := funext (fun k => h 34 k rfl rfl rfl)
  have e15 : b 15 = a 15 := funext (fun k => h 15 k rfl rfl rfl)
  have e29 : b 29 = a 29 := funext (fun k => h 29 k rfl rfl rfl)
  have e45 : b 45 = a 45 := funext (fun k => h 45 k rfl rfl rfl)
  have hsi : SI b := by
    have i9 := i.2.2.2.2.2.2.2.2.2.2.2.2.2.2.2.2.2.2.1
    unfold SI at i9 ⊢
    rw [h 6 15 rfl rfl rfl, h 6 10 rfl rfl rfl, h 6 17 rfl rfl rfl, e45]
    exact i9
  rw [e1, e34, e15, e29, e45]
  exact ⟨i.1, i.2.1, i.2.2.1, i.2.2.2.1, i.2.2.2.2.1, i.2.2.2.2.2.1, i.2.2.2.2.2.2.1, i.2.2.2.2.2.2.2.1, i.2.2.2.2.2.2.2.2.1, i.2.2.2.2.2.2.2.2.2.1, i.2.2.2.2.2.2.2.2.2.2.1, i.2.2.2.2.2.2.2.2.2.2.2.1, i.2.2.2.2.2.2.2.2.2.2.2.2.1, i.2.2.2.2.2.2.2.2.2.2.2.2.2.1, i.2.2.2.2.2.2.2.2.2.2.2.2.2.2.1, i.2.2.2.2.2.2.2.2.2.2.2.2.2.2.2.1, i.2.2.2.2.2.2.2.2.2.2.2.2.2.2.2.2.1, i.2.2.2.2.2.2.2.2.2.2.2.2.2.2.2.2.2.1, hsi, by have i9 := i.2.2.2.2.2.2.2.2.2.2.2.2.2.2.2.2.2.2.2; unfold VI at i9 ⊢; rw [show b 13 = a 13 from funext (fun k => h 13 k rfl rfl rfl), show b 14 = a 14 from funext (fun k => h 14 k rfl rfl rfl)]; exact i9⟩
theorem byte_up {a : St} {k : Nat} {x : Int32} (h : ByteOK (a 1)) : ByteOK (upC a 1 k (vp_nar .byte x) 1) := fun j => by
  by_cases e : j = k
  · subst e
    rw [upC_same]
    exact byte_nar x
  · rw [upC_ne e]
    exact h j
theorem k_roa {S : Sh} {r : Nat → Nat} {X : Cx} {L : List (Nat × Value)} {rest : List Value} {pc : Nat} {σ : St} (k : ∀ q : Nat, isOp q → G S r X σ Z0 [] L (.ref (r q) :: rest) pc) : ∀ v σ' τ' vs', QA r (fun q9 σ9 => isOp q9 ∧ σ9 = σ) v σ' τ' vs' → G S r X σ' τ' vs' L (v.toList ++ rest) pc := by
  rintro v σ' τ' vs' ⟨rfl, rfl, q, rfl, h, rfl⟩
  exact k q h
def Mo (b a : St) : Prop := (b 3 3).toInt < 0 → (a 3 3).toInt < 0
theorem mo_e {a b : Int32} (e : a = b) (h : a.toInt < 0) : b.toInt < 0 := e ▸ h
def NM (σ : St) (t : Int32) : Prop := 0 ≤ t.toInt ∧ t.toInt < 16002 ∧ 0 ≤ (σ 14 t.toNatClampNeg).toInt ∧ (σ 14 t.toNatClampNeg).toInt ≤ 16001
def GI (σ : St) : Prop := (σ 3 3).toInt < 0 → ∀ z : Nat, (z : Int) < (σ 3 4).toInt → ((σ 18 z).toInt = 43 ∨ (σ 18 z).toInt = 47) → NM σ (σ 19 z)
def KI (σ : St) : Prop := ((σ 3 2).toInt ≠ 0 → (σ 3 2).toInt ≠ -1 → 0 ≤ (σ 3 1).toInt ∧ (σ 3 1).toInt < 16002) ∧ ((σ 3 2).toInt = 2 → NM σ (σ 3 1))
def GPS (σ : St) : Prop := 0 ≤ (σ 3 1).toInt ∧ KI σ ∧ GI σ
theorem nm_keep {a b : St} {t : Int32} (h : ∀ z, b 14 z = a 14 z) (hn : NM a t) : NM b t := by
  unfold NM at hn ⊢
  rw [h]
  exact hn
theorem nm_back {a b : St} {t : Int32} (h : ∀ z, b 14 z = a 14 z) (hn : NM b t) : NM a t := by
  unfold NM at hn ⊢
  rw [← h]
  exact hn
theorem in_at {f : Nat → Int32} {i r : Int32} {n : Nat} (h : r.toInt ≠ 0) (hr : (r = 0 ∧ ¬ vp_in i n) ∨ (vp_in i n ∧ r = f i.toNatClampNeg)) : vp_in i n := by
  rcases hr with ⟨e, -⟩ | ⟨h1, -⟩
  · rw [e] at h
    exact absurd rfl h
  · exact h1
theorem nm_at {a : St} {i r : Int32} (h : vp_in i 32100 ∧ NM a (a 19 i.toNatClampNeg)) (hr : (r = 0 ∧ ¬ vp_in i 32100) ∨ (vp_in i 32100 ∧ r = a 19 i.toNatClampNeg)) : NM a r := by
  rcases hr with ⟨-, e⟩ | ⟨-, e⟩
  · exact absurd h.1 e
  · rw [e]
    exact h.2
theorem nm_val {a : St} {t r : Int32} {n : Nat} (h : NM a t) (hr : (r = 0 ∧ ¬ vp_in t n) ∨ (vp_in t n ∧ r = a 14 t.toNatClampNeg)) : 0 ≤ r.toInt ∧ r.toInt ≤ 16001 := by
  rcases hr with ⟨e, -⟩ | ⟨-, e⟩
  · rw [e]
    decide
  · rw [e]
    exact h.2.2
theorem gi_take {a b : St} {i r : Int32} (h : (a 3 3).toInt < 0 ∧ GI a) (h18 : ∀ z, b 18 z = a 18 z) (h19 : ∀ z, b 19 z = a 19 z) (hi : i.toInt < (a 3 4).toInt) (hr9 : r.toInt = 43 ∨ r.toInt = 47) (hr : (r = 0 ∧ ¬ vp_in i 32100) ∨ (vp_in i 32100 ∧ r = b 18 i.toNatClampNeg)) : NM a (b 19 i.toNatClampNeg) := by
  rcases hr with ⟨e, -⟩ | ⟨hin, e⟩
  · rw [e] at hr9
    exact absurd hr9 (by decide)
  · obtain ⟨j, hj, ei⟩ := vp_in_of hin (by decide)
    have e2 : i.toInt = j := by rw [ei, nI_toInt (by omega)]
    have e3 : i.toNatClampNeg = j := by
      have : ((i.toNatClampNeg : Nat) : Int) = i.toInt := Int.toNat_of_nonneg (by omega)
      omega
    rw [e, h18] at hr9
    rw [h19]
    exact h.2 h.1 _ (by rw [e3]; omega) hr9
theorem gps_fail1 {a : St} (h : GPS a) : GPS (upC (upC a 3 3 (a 3 1)) 3 2 (-1)) :=
  ⟨h.1, ⟨fun _ h2 => absurd rfl h2, fun h2 => absurd (show ((-1 : Int32)).toInt = 2 from h2) (by decide)⟩, fun h2 => absurd (show (a 3 1).toInt < 0 from h2) (by have := h.1; omega)⟩
theorem gps_fail2 {a : St} (h : GPS a) (hw : 0 ≤ (a 3 3).toInt) : GPS (upC a 3 2 (-1)) :=
  ⟨h.1, ⟨fun _ h2 => absurd rfl h2, fun h2 => absurd (show ((-1 : Int32)).toInt = 2 from h2) (by decide)⟩, h.2.2⟩
theorem gps_pos {a : St} (hp : -1 ≤ (a 3 1).toInt ∧ (a 3 1).toInt ≤ 16001) : (a 3 1 + 1).toInt = (a 3 1).toInt + 1 := by
  have e1 : (1 : Int32).toInt = 1 := by decide
  obtain ⟨k, e⟩ := s_add (a 3 1) 1
  have := s_rng (a 3 1 + 1)
  omega
theorem gps_adv0 {a : St} (h : GI a) (hp : -1 ≤ (a 3 1).toInt ∧ (a 3 1).toInt ≤ 16001) : GPS (upC (upC a 3 1 (a 3 1 + 1)) 3 2 0) :=
  ⟨(by have := gps_pos hp; show 0 ≤ (a 3 1 + 1).toInt; omega), ⟨fun h2 => absurd rfl h2, fun h2 => absurd (show ((0 : Int32)).toInt = 2 from h2) (by decide)⟩, h⟩
theorem gps_adv1 {a : St} {v : Int32} (h : GI a) (hp : -1 ≤ (a 3 1).toInt ∧ (a 3 1).toInt ≤ 16001) (h0 : 0 ≤ (a 3 1 + 1).toInt) (h1 : (a 3 1 + 1).toInt < 16002) (hv : VI (a 13) (a 14)) (e : v = a 13 (a 3 1 + 1).toNatClampNeg) : GPS (upC (upC a 3 1 (a 3 1 + 1)) 3 2 v) :=
  ⟨h0, ⟨fun _ _ => ⟨h0, h1⟩, fun h2 => ⟨h0, h1, (by have h3 : v.toInt = 2 := h2; rw [e] at h3; exact hv _ h3)⟩⟩, h⟩
theorem gps_add {a : St} {x y z w : Int32} (h : GPS a) (h0 : 0 ≤ (a 3 4).toInt) (h1 : (a 3 4).toInt < 32100) (hn : (x.toInt = 43 ∨ x.toInt = 47) → (a 3 3).toInt < 0 → NM a y) : GPS (upC (upC (upC (upC (upC a 18 (a 3 4).toNatClampNeg x) 19 (a 3 4).toNatClampNeg y) 20 (a 3 4).toNatClampNeg z) 21 (a 3 4).toNatClampNeg w) 3 4 (a 3 4 + 1)) := by
  refine ⟨h.1, h.2.1, fun hw k hk hx => ?_⟩
  have hw : (a 3 3).toInt < 0 := hw
  have e1 : (1 : Int32).toInt = 1 := by decide
  obtain ⟨k1, e⟩ := s_add (a 3 4) 1
  have e9 := s_rng (a 3 4 + 1)
  have hk : (k : Int) < (a 3 4 + 1).toInt := hk
  have en : (((a 3 4).toNatClampNeg : Nat) : Int) = (a 3 4).toInt := Int.toNat_of_nonneg h0
  have hx : (if k = (a 3 4).toNatClampNeg then x else a 18 k).toInt = 43 ∨ (if k = (a 3 4).toNatClampNeg then x else a 18 k).toInt = 47 := hx
  show NM a (if k = (a 3 4).toNatClampNeg then y else a 19 k)
  by_cases ek : k = (a 3 4).toNatClampNeg
  · rw [if_pos ek] at hx ⊢
    exact hn hx hw
  · rw [if_neg ek] at hx ⊢
    exact h.2.2 hw k (by omega) hx
theorem isOp_47 : isOp 47 := Or.inl rfl
theorem isOp_pool {q i : Nat} (e : q = 65 + i) (h : i < 500) : isOp q := Or.inr ⟨by omega, by omega⟩
theorem isOp_pv {q : Nat} {i : Int32} (e : q = 65 + i.toNatClampNeg) (h : vp_in i 500) : isOp q := isOp_pool e (s_ltn h)
theorem obC_op {q : Nat} (h : isOp q) : ObOK SC q 6 "LinkedUnits$Operand" TX6 13 tyX6 := by
  rcases h with rfl | ⟨h1, h2⟩
  · exact obC_47
  · obtain ⟨i, rfl⟩ : ∃ i, q = 65 + i := ⟨q - 65, by omega⟩
    exact obC_pool (by omega)
theorem rf_op {q k : Nat} (h : isOp q) : SC.2.1 q k = none := by
  rcases h with rfl | ⟨h1, h2⟩
  · rfl
  · obtain ⟨i, rfl⟩ : ∃ i, q = 65 + i := ⟨q - 65, by omega⟩
    exact FC_pool i k
theorem fval_op {r : Nat → Nat} {σ : St} {q k : Nat} (h : isOp q) : fval SC r σ q k = .int (σ q k) := by
  unfold fval
  rw [rf_op h]
def EC (a : Nat → Nat) (g : Nat → Nat → Int32) (A : Nat → Prop) (U : State) : Prop :=
  va_Z "LinkedUnits$Grammar" "LEVELS" "[I" (.ref (a 0)) A U U.heap ∧ va_T .int (a 0) 18 (fun j => .int (g 0 j)) A U U.heap ∧ va_Z "LinkedUnits$Code" "LENGTHS" "[I" (.ref (a 1)) A U U.heap ∧ va_T .int (a 1) 61 (fun j => .int (g 1 j)) A U U.heap ∧ sE "LinkedUnits$Tokens" 99 "int void static e\x78tern if else while do for break continue return " 66 (a 2) (a 3) (g 2) A U ∧ sE "LinkedUnits$Tokens" 143 "( ) { } [ ] , ; ? : = <<= >>= += -= *= /= %= &= |= ^= << >> + - * / % & | ^ == != < > <= >= || && ! ~ ++ -- " 108 (a 4) (a 5) (g 3) A U
theorem EC_ok (a : Nat → Nat) (g : Nat → Nat → Int32) : EnvOK (EC a g) := by
  intro A B s U hW hq hAB h
  obtain ⟨h1, h2, h3, h4, h5, h6⟩ := h
  exact ⟨(va_Z.moved hW.alike (h1.kept hq)).narrow hAB, (va_T.moved hW.alike (h2.kept hq)).narrow hAB, (va_Z.moved hW.alike (h3.kept hq)).narrow hAB, (va_T.moved hW.alike (h4.kept hq)).narrow hAB, sE_ok _ _ _ _ _ _ _ A B s U hW hq hAB h5, sE_ok _ _ _ _ _ _ _ A B s U hW hq hAB h6⟩
theorem EC_z0 {a : Nat → Nat} {g : Nat → Nat → Int32} {A : Nat → Prop} {s : State} (h : EC a g A s) : va_Z "LinkedUnits$Grammar" "LEVELS" "[I" (.ref (a 0)) A s s.heap := h.1
theorem EC_t0 {a : Nat → Nat} {g : Nat → Nat → Int32} {A : Nat → Prop} {s : State} (h : EC a g A s) : va_T .int (a 0) 18 (fun j => .int (g 0 j)) A s s.heap := h.2.1
theorem EC_z1 {a : Nat → Nat} {g : Nat → Nat → Int32} {A : Nat → Prop} {s : State} (h : EC a g A s) : va_Z "LinkedUnits$Code" "LENGTHS" "[I" (.ref (a 1)) A s s.heap := h.2.2.1
theorem EC_t1 {a : Nat → Nat} {g : Nat → Nat → Int32} {A : Nat → Prop} {s : State} (h : EC a g A s) : va_T .int (a 1) 61 (fun j => .int (g 1 j)) A s s.heap := h.2.2.2.1
theorem EC_s0 {a : Nat → Nat} {g : Nat → Nat → Int32} {A : Nat → Prop} {s : State} (h : EC a g A s) : sE "LinkedUnits$Tokens" 99 "int void static e\x78tern if else while do for break continue return " 66 (a 2) (a 3) (g 2) A s := h.2.2.2.2.1
theorem EC_s1 {a : Nat → Nat} {g : Nat → Nat → Int32} {A : Nat → Prop} {s : State} (h : EC a g A s) : sE "LinkedUnits$Tokens" 143 "( ) { } [ ] , ; ? : = <<= >>= += -= *= /= %= &= |= ^= << >> + - * / % & | ^ == != < > <= >= || && ! ~ ++ -- " 108 (a 4) (a 5) (g 3) A s := h.2.2.2.2.2
/-- at: some number -/
theorem c_at (a : Nat → Nat) (g : Nat → Nat → Int32) (r : Nat → Nat) (σ0 : St) {j n : Nat} (ho : ArOK SC j 1 n) (hn : n < 2 ^ 31) (i : Int32) (l : Launch) (D : va_G) (cy : Nat → ClassId) : Ct l D cy SC r (EC a g) y_X12_at (Cond.code y_X12_at b_X12_at 2 (some .int)) 0 [.ref (r j), .int i] σ0 Z0 [] (QI (fun v9 σ9 => ((v9 = 0 ∧ ¬ vp_in i n) ∨ (vp_in i n ∧ v9 = σ0 j i.toNatClampNeg)) ∧ σ9 = σ0)) QF := by
  refine Ct_of (EC_ok a g) (by decide) (Nat.le_of_ble_eq_true rfl) (by decide) (fun X hnn hF => ?_)
  show G SC r X σ0 Z0 [] [(0, .ref (r j)), (1, .int i)] [] 0
  refine g_iload_n hF d_X12_at_0 rfl 1 rfl ?_
  refine g_if_lt hF 16 d_X12_at_1 (by decide) rfl (fun c1 => ?_) (fun c1 => ?_)
  · refine g_iconst hF (v := 0) d_X12_at_16 (by decide) ?_
    exact g_iret hF rfl d_X12_at_17 ⟨rfl, rfl, 0, rfl, Or.inl ⟨rfl, s_out hn (by first | exact Or.inl c1 | exact Or.inr c2)⟩, rfl⟩
  · refine g_iload_n hF d_X12_at_4 rfl 1 rfl ?_
    refine g_aload_n hF d_X12_at_5 rfl 0 rfl ?_
    refine g_alen hF ho (fun _ => ⟨1, _, rfl⟩) (v := nI n) rfl d_X12_at_6 ?_
    refine g_icmp_ge hF 16 d_X12_at_7 (by decide) rfl (nI_toInt hn) (fun c2 => ?_) (fun c2 => ?_)
    · refine g_iconst hF (v := 0) d_X12_at_16 (by decide) ?_
      exact g_iret hF rfl d_X12_at_17 ⟨rfl, rfl, 0, rfl, Or.inl ⟨rfl, s_out hn (by first | exact Or.inl c1 | exact Or.inr c2)⟩, rfl⟩
    · refine g_aload_n hF d_X12_at_10 rfl 0 rfl ?_
      refine g_iload_n hF d_X12_at_11 rfl 1 rfl ?_
      refine g_iald hF ho (s_in hn c1 c2) d_X12_at_12 ?_
      refine g_goto hF 17 d_X12_at_13 (by decide) ?_
      exact g_iret hF rfl d_X12_at_17 ⟨rfl, rfl, _, rfl, Or.inr ⟨s_in hn c1 c2, rfl⟩, rfl⟩
theorem c_att0 (a : Nat → Nat) (g : Nat → Nat → Int32) (r : Nat → Nat) (σ0 : St) (i : Int32) (l : Launch) (D : va_G) (cy : Nat → ClassId) : Ct l D cy SC r (EC a g) y_X12_at (Cond.code y_X12_at b_X12_at 2 (some .int)) 0 [.ref (a 0), .int i] σ0 Z0 [] (QI (fun _ σ9 => σ9 = σ0)) QF := by
  have hn : 18 < 2 ^ 31 := by decide
  refine Ct_of (EC_ok a g) (by decide) (Nat.le_of_ble_eq_true rfl) (by decide) (fun X hnn hF => ?_)
  show G SC r X σ0 Z0 [] [(0, .ref (a 0)), (1, .int i)] [] 0
  refine g_iload_n hF d_X12_at_0 rfl 1 rfl ?_
  refine g_if_lt hF 16 d_X12_at_1 (by decide) rfl (fun c1 => ?_) (fun c1 => ?_)
  · refine g_iconst hF (v := 0) d_X12_at_16 (by decide) ?_
    exact g_iret hF rfl d_X12_at_17 ⟨rfl, rfl, 0, rfl, rfl⟩
  · refine g_iload_n hF d_X12_at_4 rfl 1 rfl ?_
    refine g_aload_n hF d_X12_at_5 rfl 0 rfl ?_
    refine g_tlen hF (fun A s h => EC_t0 h) (v := nI 18) rfl d_X12_at_6 ?_
    refine g_icmp_ge hF 16 d_X12_at_7 (by decide) rfl (nI_toInt hn) (fun c2 => ?_) (fun c2 => ?_)
    · refine g_iconst hF (v := 0) d_X12_at_16 (by decide) ?_
      exact g_iret hF rfl d_X12_at_17 ⟨rfl, rfl, 0, rfl, rfl⟩
    · refine g_aload_n hF d_X12_at_10 rfl 0 rfl ?_
      refine g_iload_n hF d_X12_at_11 rfl 1 rfl ?_
      refine g_ti hF (fun A s h => EC_t0 h) (s_in hn c1 c2) d_X12_at_12 ?_
      refine g_goto hF 17 d_X12_at_13 (by decide) ?_
      exact g_iret hF rfl d_X12_at_17 ⟨rfl, rfl, _, rfl, rfl⟩
theorem c_att1 (a : Nat → Nat) (g : Nat → Nat → Int32) (r : Nat → Nat) (σ0 : St) (i : Int32) (l : Launch) (D : va_G) (cy : Nat → ClassId) : Ct l D cy SC r (EC a g) y_X12_at (Cond.code y_X12_at b_X12_at 2 (some .int)) 0 [.ref (a 1), .int i] σ0 Z0 [] (QI (fun _ σ9 => σ9 = σ0)) QF := by
  have hn : 61 < 2 ^ 31 := by decide
  refine Ct_of (EC_ok a g) (by decide) (Nat.le_of_ble_eq_true rfl) (by decide) (fun X hnn hF => ?_)
  show G SC r X σ0 Z0 [] [(0, .ref (a 1)), (1, .int i)] [] 0
  refine g_iload_n hF d_X12_at_0 rfl 1 rfl ?_
  refine g_if_lt hF 16 d_X12_at_1 (by decide) rfl (fun c1 => ?_) (fun c1 => ?_)
  · refine g_iconst hF (v := 0) d_X12_at_16 (by decide) ?_
    exact g_iret hF rfl d_X12_at_17 ⟨rfl, rfl, 0, rfl, rfl⟩
  · refine g_iload_n hF d_X12_at_4 rfl 1 rfl ?_
    refine g_aload_n hF d_X12_at_5 rfl 0 rfl ?_
    refine g_tlen hF (fun A s h => EC_t1 h) (v := nI 61) rfl d_X12_at_6 ?_
    refine g_icmp_ge hF 16 d_X12_at_7 (by decide) rfl (nI_toInt hn) (fun c2 => ?_) (fun c2 => ?_)
    · refine g_iconst hF (v := 0) d_X12_at_16 (by decide) ?_
      exact g_iret hF rfl d_X12_at_17 ⟨rfl, rfl, 0, rfl, rfl⟩
    · refine g_aload_n hF d_X12_at_10 rfl 0 rfl ?_
      refine g_iload_n hF d_X12_at_11 rfl 1 rfl ?_
      refine g_ti hF (fun A s h => EC_t1 h) (s_in hn c1 c2) d_X12_at_12 ?_
      refine g_goto hF 17 d_X12_at_13 (by decide) ?_
      exact g_iret hF rfl d_X12_at_17 ⟨rfl, rfl, _, rfl, rfl⟩
theorem c_set (a : Nat → Nat) (g : Nat → Nat → Int32) (r : Nat → Nat) (σ0 : St) {j n : Nat} (ho : ArOK SC j 1 n) (hn : n < 2 ^ 31) (i v : Int32) (l : Launch) (D : va_G) (cy : Nat → ClassId) : Ct l D cy SC r (EC a g) y_X12_set (Cond.code y_X12_set b_X12_set 3 none) 0 [.ref (r j), .int i, .int v] σ0 Z0 [] (QV (fun σ9 => ∃ f, σ9 = upF σ0 j f ∧ (∀ k, f k = σ0 j k ∨ f k = v) ∧ (vp_in i n → f i.toNatClampNeg = v))) QF := by
  refine Ct_of (EC_ok a g) (by decide) (Nat.le_of_ble_eq_true rfl) (by decide) (fun X hnn hF => ?_)
  show G SC r X σ0 Z0 [] [(0, .ref (r j)), (1, .int i), (2, .int v)] [] 0
  refine g_iload_n hF d_X12_set_0 rfl 1 rfl ?_
  refine g_if_lt hF 14 d_X12_set_1 (by decide) rfl (fun c1 => ?_) (fun c1 => ?_)
  · exact g_vret hF rfl d_X12_set_14 ⟨rfl, rfl, rfl, σ0 j, funext (fun z => by unfold upF; split <;> simp_all), fun _ => Or.inl rfl, fun h9 => absurd h9 (s_out hn (by first | exact Or.inl c1 | exact Or.inr c2))⟩
  · refine g_iload_n hF d_X12_set_4 rfl 1 rfl ?_
    refine g_aload_n hF d_X12_set_5 rfl 0 rfl ?_
    refine g_alen hF ho (fun _ => ⟨1, _, rfl⟩) (v := nI n) rfl d_X12_set_6 ?_
    refine g_icmp_ge hF 14 d_X12_set_7 (by decide) rfl (nI_toInt hn) (fun c2 => ?_) (fun c2 => ?_)
    · exact g_vret hF rfl d_X12_set_14 ⟨rfl, rfl, rfl, σ0 j, funext (fun z => by unfold upF; split <;> simp_all), fun _ => Or.inl rfl, fun h9 => absurd h9 (s_out hn (by first | exact Or.inl c1 | exact Or.inr c2))⟩
    · refine g_aload_n hF d_X12_set_10 rfl 0 rfl ?_
      refine g_iload_n hF d_X12_set_11 rfl 1 rfl ?_
      refine g_iload_n hF d_X12_set_12 rfl 2 rfl ?_
      refine g_iast hF ho (s_in hn c1 c2) d_X12_set_13 ?_
      exact g_vret hF rfl d_X12_set_14 ⟨rfl, rfl, rfl, _, rfl, fun k => (by by_cases e : k = i.toNatClampNeg; exact Or.inr (if_pos e); exact Or.inl (if_neg e)), fun _ => if_pos rfl⟩
theorem c_fill (a : Nat → Nat) (g : Nat → Nat → Int32) (r : Nat → Nat) (σ0 : St) {j n : Nat} (ho : ArOK SC j 1 n) (hn : n < 2 ^ 31) (w : Int32) (l : Launch) (D : va_G) (cy : Nat → ClassId) : Ct l D cy SC r (EC a g) y_Arrays_fill (Cond.code y_Arrays_fill b_Arrays_fill 4 none) 0 [.ref (r j), .int w] σ0 Z0 [] (QV (fun σ9 => ∃ f, σ9 = upF σ0 j f)) QF := by
  refine Ct_of (EC_ok a g) (by decide) (Nat.le_of_ble_eq_true rfl) (by decide) (fun X hnn hF => ?_)
  show G SC r X σ0 Z0 [] [(0, .ref (r j)), (1, .int w)] [] 0
  have b5 : ∀ N : Nat, ∀ (x : Int32) (h : Nat → Int32), upm x = N → 0 ≤ x.toInt → G SC r X (upF σ0 j h) Z0 [] [(0, .ref (r j)), (1, .int w), (2, .int x), (3, .int (nI n))] [] 5 := by
    intro M
    induction M using Nat.strongRecOn with
    | _ M ih =>
      intro x h N0 h0
      refine g_iload_n hF d_Arrays_fill_5 rfl 2 rfl ?_
      refine g_iload_n hF d_Arrays_fill_6 rfl 3 rfl ?_
      refine g_icmp_ge hF 20 d_Arrays_fill_7 (by decide) rfl (nI_toInt hn) (fun c => ?_) (fun c => ?_)
      · exact g_vret hF rfl d_Arrays_fill_20 ⟨rfl, rfl, rfl, _, rfl⟩
      · refine g_aload_n hF d_Arrays_fill_10 rfl 0 rfl ?_
        refine g_iload_n hF d_Arrays_fill_11 rfl 2 rfl ?_
        refine g_iload_n hF d_Arrays_fill_12 rfl 1 rfl ?_
        refine g_iast hF ho (s_in hn h0 c) d_Arrays_fill_13 ?_
        have e1 : upC (upF σ0 j h) j x.toNatClampNeg w = upF σ0 j (fun z => if z = x.toNatClampNeg then w else h z) := by
          funext z
          unfold upC upF
          split <;> simp_all
        rw [e1]
        obtain ⟨k1, e2⟩ := s_add x 1
        have e3 : (1 : Int32).toInt = 1 := by decide
        have e4 := s_rng (x + 1)
        refine g_iinc hF (x + 1) [(2, .int (x + 1)), (0, .ref (r j)), (1, .int w), (3, .int (nI n))] d_Arrays_fill_14 2 rfl rfl hnn (by decide) rfl ?_
        refine g_goto hF 5 d_Arrays_fill_17 (by decide) ?_
        refine g_sub (L' := [(0, .ref (r j)), (1, .int w), (2, .int (x + 1)), (3, .int (nI n))]) [1, 2, 0, 3] rfl ?_
        exact ih _ (by rw [← N0]; unfold upm; omega) (x + 1) _ rfl (by omega)
  refine g_iconst hF (v := 0) d_Arrays_fill_0 (by decide) ?_
  refine g_istore_n hF [(2, .int 0), (0, .ref (r j)), (1, .int w)] d_Arrays_fill_1 rfl hnn (by decide) rfl ?_
  refine g_aload_n hF d_Arrays_fill_2 rfl 1 rfl ?_
  refine g_alen hF ho (fun _ => ⟨1, _, rfl⟩) (v := nI n) rfl d_Arrays_fill_3 ?_
  refine g_istore_n hF [(3, .int (nI n)), (2, .int 0), (0, .ref (r j)), (1, .int w)] d_Arrays_fill_4 rfl hnn (by decide) rfl ?_
  have e0 : σ0 = upF σ0 j (σ0 j) := by
    funext z
    unfold upF
    split <;> simp_all
  refine g_sub (L' := [(0, .ref (r j)), (1, .int w), (2, .int 0), (3, .int (nI n))]) [2, 3, 1, 0] rfl ?_
  rw [e0]
  have h := b5 _ 0 (σ0 j) rfl (by decide)
  exact h
