/-! link(), the reference: where all stands -/
/-- the place of an entity of what is linked as p-th; b: where data begin -/
def AIMx (σ : St) (b : Nat → Int32) (p e : Nat) (n : Int) (r : Int32) : Prop := ((σ 13 e).toInt ≠ 0 → ((σ 9 e).toInt ≠ 1 → r = σ 17 e) ∧ ((σ 9 e).toInt = 1 → r = b p + σ 17 e)) ∧ ((σ 13 e).toInt = 0 → (σ 12 e).toInt = 0 → (∀ l, LIB σ e l → 0 ≤ l.toInt → r.toInt = -1 - l.toInt) ∧ ∀ (l : Int32) (q f : Nat), LIB σ e l → l.toInt < 0 → FND σ e n q f → ((σ 9 e).toInt ≠ 1 → r = σ 17 f) ∧ ((σ 9 e).toInt = 1 → r = b q + σ 17 f))
/-- what is picked are different objects -/
def DJp (σ : St) (n : Int) : Prop := ∀ p p' : Nat, (p : Int) < n → (p' : Int) < n → PO σ p = PO σ p' → p = p'
def DJe (σ : St) (n : Int) : Prop := ∀ p p' e : Nat, (p : Int) < n → (p' : Int) < n → InO σ (PO σ p) e → InO σ (PO σ p') e → p = p'
def LGx (σ : St) (n p : Int) (s : St) : Prop := KLa σ s ∧ BSx σ s n ∧ (∀ p' : Nat, (p' : Int) < n → s 44 (PO σ p') = s 42 p') ∧ (∀ p' : Nat, (p' : Int) < p → s 41 p' = σ 40 p') ∧ ∀ p' : Nat, (p' : Int) < p → ∀ e, InO σ (PO σ p') e → AIMx σ (s 42) p' e n (s 43 e)
def LYm (σ : St) (n : Int) (s : St) : Prop := BSx σ s n ∧ (∀ p : Nat, (p : Int) < n → s 44 (PO σ p) = s 42 p) ∧ (∀ p : Nat, (p : Int) < n → s 41 p = σ 40 p) ∧ ∀ p : Nat, (p : Int) < n → ∀ e, InO σ (PO σ p) e → AIMx σ (s 42) p e n (s 43 e)
section LYR
variable {σ s τ t u : St} {vs z : List Nat} {b : Nat → Int32}
theorem aimx_z {p e : Nat} {n : Int} {r : Int32} : AIMx (zL σ) b p e n r = AIMx σ b p e n r := rfl
theorem aimx_k {p e : Nat} {n : Int} {r : Int32} (k : KLy σ s) (h : AIMx s b p e n r) : AIMx σ b p e n r := by
  rw [← aimx_z, ← zl_of k, aimx_z]; exact h
theorem rx_aimOf {e p n : Int32} {Q : Int32 → St → St → List Nat → Prop} (h : RWS σ n.toInt) (he : 0 ≤ e.toInt ∧ e.toInt < 10000) (k : ∀ (r : Int32) s, Kp [(0, 73), (0, 74)] [] σ s → AIMx σ (σ 42) p.toNatClampNeg e.toNatClampNeg n.toInt r → Q r s τ vs) : pp_aimOf e p n σ τ vs Q := by
  have em1 : ((-1 : Int32)).toInt = -1 := by decide
  unfold pp_aimOf
  refine fun _ => ⟨fun c _ => ⟨fun l => (σ 12 e.toNatClampNeg).toInt ≠ 0 ∨ LIB σ e.toNatClampNeg l, fun l hl => ⟨fun c2 _ => ⟨fun c3 => k _ _ kp_rf ⟨fun q => absurd c q, fun _ q => absurd q c3⟩, fun c3 => ?_⟩, fun c2 => ?_⟩, fun c2 => rx_library h.2.1 he (fun r hr => Or.inr hr), fun c2 => Or.inl c2⟩, fun c _ => ⟨fun c2 _ => k _ _ kp_rf ⟨fun _ => ⟨fun _ => rfl, fun q => absurd q c2⟩, fun q => absurd q c⟩, fun c2 _ _ => k _ _ kp_rf ⟨fun _ => ⟨fun q => absurd c2 q, fun _ => rfl⟩, fun q => absurd q c⟩⟩⟩
  · have hl' : LIB σ e.toNatClampNeg l := hl.resolve_left (fun q => q c3)
    refine rx_find h he (fun nf => ⟨fun z => absurd rfl z, fun _ => k _ _ kp_rf ⟨fun q => absurd c q, fun _ _ => ⟨fun l2 hl2 q => ?_, fun l2 q2 f2 hl2 q fn => absurd fn.2.2.1 (nf q2 fn.1 f2 fn.2.1)⟩⟩⟩) (fun p' f' hp' hf' fn => ⟨fun _ _ => ⟨fun c4 _ => k _ _ (kp_f (kp_f kp_rf rfl) rfl) ⟨fun q => absurd c q, fun _ _ => ⟨fun l2 hl2 q => ?_, fun l2 q2 f2 hl2 q fn2 => ⟨fun _ => ?_, fun q' => absurd q' c4⟩⟩⟩, fun c4 _ _ => k _ _ (kp_f (kp_f kp_rf rfl) rfl) ⟨fun q => absurd c q, fun _ _ => ⟨fun l2 hl2 q => ?_, fun l2 q2 f2 hl2 q fn2 => ⟨fun q' => absurd c4 q', fun _ => ?_⟩⟩⟩⟩, fun z => absurd z (by decide)⟩)
    · have := lib_uniq hl2 hl'; omega
    · have := lib_uniq hl2 hl'; omega
    · obtain ⟨-, u2⟩ := fnd_uniq fn2 fn
      rw [u2]
      rfl
    · have := lib_uniq hl2 hl'; omega
    · obtain ⟨u1, u2⟩ := fnd_uniq fn2 fn
      rw [u1, u2]
      rfl
  · refine k _ _ kp_rf ⟨fun q => absurd c q, fun _ q0 => ?_⟩
    have hl' : LIB σ e.toNatClampNeg l := hl.resolve_left (fun q => q q0)
    have lr : l.toInt ≤ 3 := lib_le hl'
    have es : ((-1 : Int32) - l).toInt = -1 - l.toInt := by rw [sb (by omega) (by omega), em1]
    refine ⟨fun l2 hl2 q => ?_, fun l2 q2 f2 hl2 q fn2 => ?_⟩
    · have := lib_uniq hl2 hl'; omega
    · have := lib_uniq hl2 hl'; omega
theorem lg_kp {n p : Int} {s' : St} (h : LGx σ n p s) (k : Kp [(0, 73), (0, 74)] [45] s s') : LGx σ n p s' := by
  obtain ⟨h1, h2, h5, h3, h4⟩ := h
  have e42 : s' 42 = s 42 := funext (fun j => k 42 j rfl rfl)
  have e41 : s' 41 = s 41 := funext (fun j => k 41 j rfl rfl)
  have e43 : s' 43 = s 43 := funext (fun j => k 43 j rfl rfl)
  have e44 : s' 44 = s 44 := funext (fun j => k 44 j rfl rfl)
  exact ⟨kp_tr h1 (kp_sub k rfl rfl), bs_kp e42 h2, by rw [e44, e42]; exact h5, by rw [e41]; exact h3, by rw [e42, e43]; exact h4⟩
theorem lg_aim {n p : Int} {e : Nat} {r : Int32} (h : LGx σ n p s) (hno : ∀ p' : Nat, (p' : Int) < p → ¬ InO σ (PO σ p') e) : LGx σ n p (upC s 43 e r) := by
  obtain ⟨h1, h2, h5, h3, h4⟩ := h
  refine ⟨kp_a h1 rfl, h2, h5, h3, fun p' hp' e' he' => ?_⟩
  show AIMx σ (s 42) p' e' n (upC s 43 e r 43 e')
  rw [rdA]
  by_cases q : e' = e
  · rw [q] at he'
    exact absurd he' (hno p' hp')
  · rw [if_neg q]; exact h4 p' hp' e' he'
theorem rx_layAll {n : Int32} {Q : St → St → List Nat → Prop} (h : LYb σ n.toInt) (dj1 : DJp σ n.toInt) (dj2 : DJe σ n.toInt) (k : ∀ s, KLa σ s → LYm σ n.toInt s → Q (upC s 0 70 n) τ vs) : pp_layAll n σ τ vs Q := by
  have e0 : (0 : Int32).toInt = 0 := by decide
  have e16 : (16 : Int32).toInt = 16 := by decide
  have hn := h.1.1
  unfold pp_layAll
  refine ⟨fun x p s t z => 0 ≤ p.toInt ∧ p.toInt ≤ n.toInt ∧ (x.toInt = 16 + SUMd σ p.toNatClampNeg) ∧ KLa σ s ∧ t = τ ∧ z = vs ∧ BSx σ s p.toInt ∧ ∀ p' : Nat, (p' : Int) < p.toInt → s 44 (PO σ p') = s 42 p', ⟨by omega, by omega, ?_, kp_rf, rfl, rfl, fun p hp => by omega, fun p hp => by omega⟩, ?_⟩
  · rw [e16, show (0 : Int32).toNatClampNeg = 0 by decide]; rfl
  rintro x p s t z ⟨q2, q1, q3, ks, rfl, rfl, qb, qo⟩
  obtain ⟨b40, b22, b23, b24, b25⟩ := ka_arr ks
  have np := nt q2
  refine ⟨fun c => ?_, fun c _ _ _ _ _ => ?_⟩
  rotate_left 1
  · obtain ⟨i1, i2, i3, i4, i5, i6, i7, i8, i9⟩ := po_of h.1 q2 c
    have dc := (h.2.1 p.toNatClampNeg (by omega)).1
    have sa := sum_at h (p := p.toNatClampNeg) (by omega)
    have ep := ad1 (x := p) (by omega)
    have epn : (p + 1).toNatClampNeg = p.toNatClampNeg + 1 := by rw [nt', ep]; omega
    rw [b40, b23, i3]
    have ex : (x + σ 23 (PO σ p.toNatClampNeg)).toInt = x.toInt + (σ 23 (PO σ p.toNatClampNeg)).toInt := ad (by omega) (by omega)
    have e42 : ∀ j, upC (upC s 42 p.toNatClampNeg x) 44 (PO σ p.toNatClampNeg) x 42 j = if j = p.toNatClampNeg then x else s 42 j := fun j => by
      simp only [rdC, Nat.reduceEqDiff, if_true, if_false]
    have e44 : ∀ j, upC (upC s 42 p.toNatClampNeg x) 44 (PO σ p.toNatClampNeg) x 44 j = if j = PO σ p.toNatClampNeg then x else s 44 j := fun j => by
      simp only [rdC, Nat.reduceEqDiff, if_true, if_false]
    refine ⟨by omega, by omega, ?_, kp_a (kp_a ks rfl) rfl, rfl, rfl, fun p' hp' => ?_, fun p' hp' => ?_⟩
    · rw [ex, epn]
      show _ = 16 + (SUMd σ p.toNatClampNeg + _)
      omega
    · rw [e42]
      by_cases e9 : p' = p.toNatClampNeg
      · rw [if_pos e9, e9]; exact q3
      · rw [if_neg e9]; exact qb p' (by omega)
    · rw [e42, e44]
      by_cases e9 : p' = p.toNatClampNeg
      · rw [if_pos e9, if_pos (by rw [e9])]
      · rw [if_neg e9, if_neg (fun e => e9 (dj1 p' p.toNatClampNeg (by omega) (by omega) e))]
        exact qo p' (by omega)
  have qb' : BSx σ s n.toInt := fun p' hp' => qb p' (by omega)
  have qo' : ∀ p' : Nat, (p' : Int) < n.toInt → s 44 (PO σ p') = s 42 p' := fun p' hp' => qo p' (by omega)
  clear q1 q3 qb qo c np q2
  refine ⟨fun j s2 t2 z2 => LGx σ n.toInt 0 s2 ∧ t2 = t ∧ z2 = z, ⟨⟨ks, qb', qo', fun p' hp' => by omega, fun p' hp' => by omega⟩, rfl, rfl⟩, ?_⟩
  clear qb' qo' ks b40 b22 b23 b24 b25
  rintro j s2 t2 z2 ⟨lf, rfl, rfl⟩
  refine ⟨fun _ => ?_, fun c _ => ⟨lg_kp lf (kp_a kp_rf rfl), rfl, rfl⟩⟩
  -- the objects
  refine ⟨fun p s3 t3 z3 => 0 ≤ p.toInt ∧ p.toInt ≤ n.toInt ∧ LGx σ n.toInt p.toInt s3 ∧ t3 = t2 ∧ z3 = z2, ⟨by omega, by omega, by rw [e0]; exact lf, rfl, rfl⟩, ?_⟩
  clear lf
  rintro p s3 t3 z3 ⟨q2, q1, lf, rfl, rfl⟩
  refine ⟨fun c => k s3 lf.1 ⟨lf.2.1, lf.2.2.1, fun p' hp' => lf.2.2.2.1 p' (by omega), fun p' hp' => lf.2.2.2.2 p' (by omega)⟩, fun c _ _ => ?_⟩
  obtain ⟨b40, b22, b23, b24, b25⟩ := ka_arr lf.1
  have np := nt q2
  obtain ⟨i1, i2, i3, i4, i5, i6, i7, i8, i9⟩ := po_of h.1 q2 c
  have ep := ad1 (x := p) (by omega)
  have ef : (σ 22 (PO σ p.toNatClampNeg)).toInt = fO σ (PO σ p.toNatClampNeg) := rfl
  have ef2 : (σ 22 (PO σ p.toNatClampNeg + 1)).toInt = fO σ (PO σ p.toNatClampNeg + 1) := rfl
  rw [b40, b22, i8, i3, i5]
  refine ⟨fun e s4 t4 z4 => fO σ (PO σ p.toNatClampNeg) ≤ e.toInt ∧ LGx σ n.toInt p.toInt s4 ∧ t4 = t3 ∧ z4 = z3 ∧ ∀ e' : Nat, fO σ (PO σ p.toNatClampNeg) ≤ (e' : Int) → (e' : Int) < e.toInt → AIMx σ (s4 42) p.toNatClampNeg e' n.toInt (s4 43 e'), ⟨by omega, lf, rfl, rfl, fun e' a b => by omega⟩, ?_⟩
  clear lf b40 b22 b23 b24 b25
  rintro e s4 t4 z4 ⟨r2, lf, rfl, rfl, r3⟩
  obtain ⟨b40, b22, b23, b24, b25⟩ := ka_arr lf.1
  have ne := nt (x := e) (by omega)
  rw [b22]
  refine fun _ => ⟨fun c2 _ => ?_, fun c2 => ?_⟩
  · -- what begins otherwise than with 0
    have all : ∀ e', InO σ (PO σ p.toNatClampNeg) e' → AIMx σ (s4 42) p.toNatClampNeg e' n.toInt (s4 43 e') := fun e' he' => r3 e' he'.1 (by have := he'.2; omega)
    refine ⟨fun x s5 t5 z5 => LGx σ n.toInt p.toInt s5 ∧ t5 = t4 ∧ z5 = z4 ∧ ∀ e', InO σ (PO σ p.toNatClampNeg) e' → AIMx σ (s5 42) p.toNatClampNeg e' n.toInt (s5 43 e'), ⟨lf, rfl, rfl, all⟩, ?_⟩
    clear lf all r3 b40 b22 b23 b24 b25
    rintro x s5 t5 z5 ⟨lf, rfl, rfl, all⟩
    obtain ⟨b40, b22, b23, b24, b25⟩ := ka_arr lf.1
    refine fun _ => ⟨fun c3 _ _ => ⟨by omega, by omega, ?_, rfl, rfl⟩, fun c3 _ => ?_⟩
    · obtain ⟨l1, l2, l5, l3, l4⟩ := lf
      rw [b40]
      refine ⟨kp_a l1 rfl, l2, l5, fun p' hp' => ?_, fun p' hp' e' he' => ?_⟩
      · show upC s5 41 p.toNatClampNeg (σ 40 p.toNatClampNeg) 41 p' = _
        rw [rdA]
        by_cases e9 : p' = p.toNatClampNeg
        · rw [if_pos e9, e9]
        · rw [if_neg e9]; exact l3 p' (by omega)
      · show AIMx σ (s5 42) p' e' n.toInt (s5 43 e')
        by_cases e9 : p' = p.toNatClampNeg
        · rw [e9] at he' ⊢
          exact all e' he'
        · exact l4 p' (by omega) e' he'
    · exact ⟨fun _ => True, fun y _ _ _ _ _ => ⟨lg_kp lf (kp_a kp_rf rfl), rfl, rfl, all⟩, fun _ => ⟨fun _ => trivial, fun _ _ => trivial⟩, fun _ _ _ => trivial⟩
  · have e1 := ad1 (x := e) (by omega)
    have hIn : InO σ (PO σ p.toNatClampNeg) e.toNatClampNeg := ⟨by omega, by omega⟩
    refine rx_aimOf (rws_k (kp_sub lf.1 rfl rfl) h.1) (by omega) (fun r s6 k6 ar _ => ⟨by omega, ?_, rfl, rfl, fun e' a b => ?_⟩)
    · exact lg_aim (lg_kp lf (kp_sub k6 rfl rfl)) (fun p' hp' hi => by
        have := dj2 p' p.toNatClampNeg e.toNatClampNeg (by omega) (by omega) hi hIn
        omega)
    · have s642 : s6 42 = s4 42 := funext (fun j => k6 42 j rfl rfl)
      show AIMx σ (s6 42) p.toNatClampNeg e' n.toInt (upC s6 43 e.toNatClampNeg r 43 e')
      rw [rdA, s642]
      by_cases q : e' = e.toNatClampNeg
      · rw [if_pos q, q]
        exact aimx_k (kp_sub lf.1 rfl rfl) ar
      · rw [if_neg q, show s6 43 e' = s4 43 e' from k6 43 e' rfl rfl]
        exact r3 e' a (by omega)
/-- picked ones are different -/
theorem dj_gi (h : GLI σ τ vs) : DJp σ (σ 0 67).toInt ∧ DJe σ (σ 0 67).toInt := by
  have pc := h.2.2.2.2.1
  have one : DJp σ (σ 0 67).toInt := fun p p' hp hp' e => by
    have a := po_obj h (p := p) hp
    have b := po_obj h (p := p') hp'
    rcases Nat.lt_trichotomy p p' with c | c | c
    · exact absurd (ieq (by have := a.2.1.1; have := b.2.1.1; have := a.1; have := b.1; omega)) (pc.2.2 p p' c hp')
    · exact c
    · exact absurd (ieq (by have := a.2.1.1; have := b.2.1.1; have := a.1; have := b.1; omega)) (pc.2.2 p' p c hp)
  refine ⟨one, fun p p' e hp hp' hi hi' => one p p' hp hp' ?_⟩
  have a := po_obj h (p := p) hp
  have b := po_obj h (p := p') hp'
  have m := fo_mono h.2.2.2.1
  rcases Nat.lt_trichotomy (PO σ p) (PO σ p') with c | c | c
  · have := m (PO σ p + 1) (PO σ p' - (PO σ p + 1)) (by have := b.2.1.2; omega)
    rw [show PO σ p + 1 + (PO σ p' - (PO σ p + 1)) = PO σ p' from by omega] at this
    have h1 := hi.2
    have h2 := hi'.1
    omega
  · exact c
  · have := m (PO σ p' + 1) (PO σ p - (PO σ p' + 1)) (by have := a.2.1.2; omega)
    rw [show PO σ p' + 1 + (PO σ p - (PO σ p' + 1)) = PO σ p from by omega] at this
    have h1 := hi'.2
    have h2 := hi.1
    omega
theorem dj_rows {n : Int} (e : ∀ c, c ≠ 0 → s c = σ c) (h1 : DJp σ n) (h2 : DJe σ n) : DJp s n ∧ DJe s n := by
  unfold DJp DJe InO PO fO at *
  rw [e 22 (by decide), e 40 (by decide)]
  exact ⟨h1, h2⟩
theorem lym_rows {n : Int} (e : ∀ c, c ≠ 0 → s c = σ c) (h : LYm s n t) : LYm σ n t := by
  have h' := h
  unfold LYm BSx AIMx FND NFD MT ALK LIB LBk nfm InO PO fO at h' ⊢
  rw [e 9 (by decide), e 12 (by decide), e 13 (by decide), e 17 (by decide), e 18 (by decide), e 19 (by decide), e 20 (by decide), e 22 (by decide), e 40 (by decide)] at h'
  refine ⟨fun p hp => ?_, h'.2⟩
  rw [h'.1 p hp]
  have : ∀ p, SUMd s p = SUMd σ p := fun p => by
    induction p with
    | zero => rfl
    | succ p ih =>
      show SUMd s p + (s 23 (PO s p)).toInt = SUMd σ p + (σ 23 (PO σ p)).toInt
      unfold PO
      rw [ih, e 23 (by decide), e 40 (by decide)]
  rw [this p]
end LYR
