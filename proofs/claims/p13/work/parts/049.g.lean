section
/-! link -/
abbrev KLz (σ s : St) : Prop := Kp [(0, 67), (0, 71), (0, 72), (0, 73), (0, 74), (0, 78), (0, 70)] [42, 44, 45, 43, 41] σ s
section LNKS
variable {σ s S τ t : St} {vs z : List Nat}
theorem old_lz (k : KLz σ s) : OLD σ s := by
  have e17 : (s 0 17) = (σ 0 17) := k _ _ rfl rfl
  have e45 : (s 0 45) = (σ 0 45) := k _ _ rfl rfl
  have e35 : (s 0 35) = (σ 0 35) := k _ _ rfl rfl
  exact ⟨fun o _ => ⟨k 22 o rfl rfl, k 24 o rfl rfl⟩, fun o _ => k 23 o rfl rfl, fun e _ => ⟨k 9 e rfl rfl, k 10 e rfl rfl, k 15 e rfl rfl, k 12 e rfl rfl, fun q => by rw [k 14 e rfl rfl]; exact q, k 13 e rfl rfl, k 17 e rfl rfl⟩, ⟨fun j _ => k 8 j rfl rfl, fun b _ => ⟨k 26 b rfl rfl, k 27 b rfl rfl, k 28 b rfl rfl, k 29 b rfl rfl, k 30 b rfl rfl, k 54 b rfl rfl⟩, fun j _ => k 25 j rfl rfl⟩, by rw [e17]; exact Int.le_refl _, by rw [e45]; exact Int.le_refl _, by rw [e35]; exact Int.le_refl _⟩
theorem gi_lz (h : GLI σ τ vs) (k : KLz σ S) (p0 : (S 0 67) = 0) (lnk : LNK S) : GLI S τ vs := by
  obtain ⟨h1, h2, h3, h4, h5, h6, h7⟩ := h
  have z0 : (0 : Int32).toInt = 0 := by decide
  have e1 : (S 0 1) = (σ 0 1) := k _ _ rfl rfl
  have e2 : (S 0 2) = (σ 0 2) := k _ _ rfl rfl
  have e35 : (S 0 35) = (σ 0 35) := k _ _ rfl rfl
  have e31 : (S 0 31) = (σ 0 31) := k _ _ rfl rfl
  have e17 : (S 0 17) = (σ 0 17) := k _ _ rfl rfl
  have e39 : (S 0 39) = (σ 0 39) := k _ _ rfl rfl
  have e45 : (S 0 45) = (σ 0 45) := k _ _ rfl rfl
  have e36 : (S 0 36) = (σ 0 36) := k _ _ rfl rfl
  have e88 : (S 0 88) = (σ 0 88) := k _ _ rfl rfl
  have e91 : (S 0 91) = (σ 0 91) := k _ _ rfl rfl
  have a : ∀ c, ([3, 4, 34, 35, 21, 15, 18, 19, 31, 10, 9, 17, 16, 32, 22, 24] : List Nat).contains c = true → S c = σ c := fun c hc => funext (fun j => by
    have := List.contains_iff_mem.mp hc
    simp at this
    refine k c j ?_ ?_
    · simp; omega
    · simp; omega)
  refine ⟨?_, ?_, ?_, fun o ho => obj_old (old_lz k) h2 h4 (by rw [← e35]; exact ho), ⟨by rw [p0, z0]; decide, fun j hj => ?_, fun i j _ hj => ?_⟩, lnk, ?_⟩
  · unfold NUG
    rw [e1, e2, e35, e31, e17, e39, e45]; exact h1
  · unfold ENG
    rw [e36, e39, e35, a 22 rfl, a 24 rfl]; exact h2
  · unfold ARG NMo VTy
    rw [a 3 rfl, a 4 rfl, a 34 rfl, a 35 rfl, a 21 rfl, a 15 rfl, a 18 rfl, a 19 rfl, a 31 rfl, a 10 rfl, a 9 rfl, a 17 rfl, a 16 rfl, a 32 rfl]
    exact h3
  · rw [p0, z0] at hj; omega
  · rw [p0, z0] at hj; omega
  · unfold MIS
    rw [e88, e91]; exact h7
theorem gi_kl (h : GLI σ τ vs) (k : KLi σ S) (p0 : (S 0 67) = 0) : GLI S τ vs :=
  gi_lz h (kp_sub k rfl rfl) p0 (lnk_old (old_lz (kp_sub k rfl rfl)) ⟨funext (fun j => k 43 j rfl rfl), funext (fun j => k 41 j rfl rfl), k _ _ rfl rfl, k _ _ rfl rfl⟩ h.2.1 h.2.2.2.1 h.2.2.2.2.2.1)
theorem po_obj (h : GLI σ τ vs) {p : Nat} (hp : (p : Int) < (σ 0 67).toInt) : (1 ≤ ((σ 40) p).toInt ∧ ((σ 40) p).toInt ≤ 100) ∧ ((PO σ p : Int) = ((σ 40) p).toInt - 1 ∧ (PO σ p : Int) < (σ 0 35).toInt) ∧ OBJ σ (PO σ p) := by
  have p2 := h.2.2.2.2.1.2.1 p hp
  have o2 := h.1.2.1
  have e : (PO σ p : Int) = ((σ 40) p).toInt - 1 := by unfold PO; omega
  exact ⟨by omega, ⟨e, by omega⟩, h.2.2.2.1 _ (by omega)⟩
theorem rws_gi (h : GLI σ τ vs) : RWS σ (σ 0 67).toInt := by
  obtain ⟨p1, p2, p3⟩ := h.2.2.2.2.1
  refine ⟨p1, h.2.2.1.2.2.2.2.2.1, h.2.2.1.2.2.2.2.1, fun p hp => ?_⟩
  obtain ⟨q1, ⟨q2, q3⟩, q4⟩ := po_obj h hp
  have := q4.1
  exact ⟨q1, by omega, by omega, by omega⟩
theorem lyb_gi (h : GLI σ τ vs) (hF : (σ 0 2).toInt ≤ 10240) (hs : SUMd σ (σ 0 67).toInt.toNat ≤ 16000) : LYb σ (σ 0 67).toInt := by
  refine ⟨rws_gi h, fun p hp => ?_, hs⟩
  obtain ⟨q1, ⟨q2, q3⟩, q4⟩ := po_obj h hp
  have fc := fi_cnt h.2.1 h.1.2.1.1 h.2.2.2.1 (o := PO σ p + 1) (by omega)
  have w := h.1.2.2.2.2.1
  have w1 := h.1.1
  exact ⟨q4.2.1, q4.2.2.1, by omega⟩
theorem lib_ex (e : Nat) : ∃ r, LIB σ e r := by
  by_cases a : LBk σ e 1 3
  · exact ⟨0, Or.inl ⟨by decide, a⟩⟩
  · by_cases b : LBk σ e 5 3
    · exact ⟨1, Or.inr (Or.inl ⟨by decide, a, b⟩)⟩
    · by_cases c : LBk σ e 9 5
      · exact ⟨2, Or.inr (Or.inr (Or.inl ⟨by decide, a, b, c⟩))⟩
      · by_cases d : LBk σ e 15 4
        · exact ⟨3, Or.inr (Or.inr (Or.inr (Or.inl ⟨by decide, a, b, c, d⟩)))⟩
        · exact ⟨-1, Or.inr (Or.inr (Or.inr (Or.inr ⟨by decide, a, b, c, d⟩)))⟩
theorem lib_le {e : Nat} {r : Int32} (h : LIB σ e r) : r.toInt ≤ 3 := by
  rcases h with ⟨a, -⟩ | ⟨a, -⟩ | ⟨a, -⟩ | ⟨a, -⟩ | ⟨a, -⟩ <;> omega
theorem bI32 {x : Int32} (h : x ≠ 0) : x.toInt ≠ 0 := int_ne h
/-- what links are when all is laid -/
theorem lnk_new (h : GLI σ τ vs) (k : KLz σ S) (hc : (S 0 70) = (σ 0 67)) (hl : ∀ p : Nat, (p : Int) < (σ 0 67).toInt → (S 41) p = (σ 40) p) (ha : ∀ p : Nat, (p : Int) < (σ 0 67).toInt → ∀ e, InO σ (PO σ p) e → AIMR σ e (σ 0 67).toInt ((S 43) e)) (c2 : CLN σ 32 (σ 0 67).toInt) (c3 : CLN σ 33 (σ 0 67).toInt) {pm fm : Nat} (m1 : (pm : Int) < (σ 0 67).toInt) (m2 : InO σ (PO σ pm) fm) (m3 : ((σ 13) fm).toInt = 1) (m4 : ((σ 9) fm).toInt = 2) (m5 : ((σ 15) fm).toInt = 0) (m6 : (σ 17) fm = (S 0 78)) : LNK S := by
  have old := old_lz k
  have e35 : (S 0 35) = (σ 0 35) := k _ _ rfl rfl
  have a22 : (S 22) = (σ 22) := funext (fun j => k 22 j rfl rfl)
  have a9 : (S 9) = (σ 9) := funext (fun j => k 9 j rfl rfl)
  have a10 : (S 10) = (σ 10) := funext (fun j => k 10 j rfl rfl)
  have a13 : (S 13) = (σ 13) := funext (fun j => k 13 j rfl rfl)
  have a15 : (S 15) = (σ 15) := funext (fun j => k 15 j rfl rfl)
  have a17 : (S 17) = (σ 17) := funext (fun j => k 17 j rfl rfl)
  have fO_eq : ∀ o, fO S o = fO σ o := fun o => by unfold fO; rw [a22]
  have ino : ∀ {o e}, InO S o e ↔ InO σ o e := fun {o e} => by unfold InO; rw [fO_eq, fO_eq]
  have fnd : ∀ {e}, FnD S e ↔ FnD σ e := fun {e} => by unfold FnD; rw [a9, a13]
  have pr := h.2.2.2.2.1
  have lko : ∀ {o}, LKo S o ↔ ∃ p : Nat, (p : Int) < (σ 0 67).toInt ∧ PO σ p = o := fun {o} => by
    constructor
    · rintro ⟨p, p1, p2⟩
      rw [hc] at p1
      rw [hl p p1] at p2
      obtain ⟨q1, ⟨q2, q3⟩, q4⟩ := po_obj h p1
      exact ⟨p, p1, by omega⟩
    · rintro ⟨p, p1, p2⟩
      obtain ⟨q1, ⟨q2, q3⟩, q4⟩ := po_obj h p1
      exact ⟨p, by rw [hc]; exact p1, by rw [hl p p1]; omega⟩
  have i1 : ∀ {x : Int32}, x.toInt = 1 → x ≠ 0 := fun {x} q q2 => by
    rw [q2] at q; exact absurd q (by decide)
  have tI : ∀ {x : Int32}, x ≠ 0 → x.toInt ≠ 0 := fun q => int_ne q
  refine ⟨by rw [hc]; have := pr.1; omega, fun _ => ⟨fun p hp => ?_, fun o ho f hf hd => ?_, PO σ pm, fm, lko.mpr ⟨pm, m1, rfl⟩, ino.mpr m2, fnd.mpr ⟨m4, i1 m3⟩, by rw [a17]; exact m6, by rw [a15]; exact m5⟩⟩
  · rw [hc] at hp
    rw [hl p hp, e35]
    exact pr.2.1 p hp
  · obtain ⟨p, p1, rfl⟩ := lko.mp ho
    obtain ⟨q1, ⟨q2, q3⟩, q4⟩ := po_obj h p1
    have hf' := ino.mp hf
    have hd' := fnd.mp hd
    refine bdk_old (by rw [a17]) (by rw [a15]) (by rw [a10]) old.2.2.2.1.1 old.2.2.2.1.2.1 old.2.2.2.2.1 old.2.2.2.2.2.1 (fun n x y cc => ?_) (q4.2.2.2 f hf' hd')
    obtain ⟨n0, e, e1, e2, e3, e4, e5, e6⟩ := cc
    have q5 := q4.1
    have ar := ha p p1 e e2
    refine ⟨⟨n0, by have := e2.2; omega⟩, e, by rw [fO_eq]; exact e1, ino.mpr e2, ?_, hh_eq (by rw [a15]) (by rw [a10]) e6⟩
    have hw0 : ∀ j, 0 ≤ ((σ 17) j).toInt := fun j => (h.2.2.1.2.2.2.2.2.2.2.2.2.1 j).1
    have srt : ((σ 9) e).toInt ≠ 1 := by omega
    unfold AIMk
    rw [a17, a15, a10]
    by_cases cd : (σ 13) e = 0
    · have cd0 : ((σ 13) e).toInt = 0 := by rw [cd]; decide
      have cs0 : ((σ 12) e).toInt = 0 := by
        by_cases q : (σ 12) e = 0
        · rw [q]; decide
        · exact absurd cd (e5 q)
      obtain ⟨ar1, ar2⟩ := ar.2 cd0 cs0
      obtain ⟨l, hlb⟩ := lib_ex (σ := σ) e
      obtain ⟨n1, n2⟩ := (c3 p p1 e e2 cs0).2 rfl cs0 cd0
      by_cases l0 : 0 ≤ l.toInt
      · have r1 := ar1 l hlb l0
        have l3 := lib_le hlb
        obtain ⟨t1, t2⟩ := n1 l hlb l0
        exact ⟨fun q => by omega, fun _ => ⟨by omega, fun q => by have := t1 (by omega); exact ⟨this.2, this.1⟩, fun q => by have := t2 (by omega); exact ⟨this.2, this.1⟩⟩⟩
      · rcases (c2 p p1 e e2 cs0).1 rfl cs0 cd0 (tI e4) with ⟨r, hr, r0⟩ | ⟨p9, f9, fn⟩
        · have := lib_uniq hr hlb; omega
        · have r1 := ar2 l p9 f9 hlb (by omega) fn srt
          have ht := n2 l p9 f9 hlb (by omega) fn
          have g0 := hw0 f9
          refine ⟨fun _ => ⟨PO σ p9, f9, lko.mpr ⟨p9, fn.1, rfl⟩, ino.mpr fn.2.1, fnd.mpr ⟨by rw [← ht.1]; exact e3, i1 fn.2.2.1.2.1⟩, r1, ?_, ?_⟩, fun q => by rw [r1] at q; omega⟩
          · exact ieq (ht.2.2 srt).symm
          · exact ieq ht.2.1.symm
    · have r1 := ar.1 (tI cd) srt
      have g0 := hw0 e
      exact ⟨fun _ => ⟨PO σ p, e, lko.mpr ⟨p, p1, rfl⟩, ino.mpr e2, fnd.mpr ⟨e3, cd⟩, r1, rfl, rfl⟩, fun q => by rw [r1] at q; omega⟩
theorem sp_link {Q : Int32 → St → St → List Nat → Prop} (h : GLI σ τ vs) (hF : (σ 0 2).toInt ≤ 10240) (k : ∀ r s, GLI s τ vs → (s 0 1) = (σ 0 1) → (s 0 2) = (σ 0 2) → Q r s τ vs) : wp_link σ τ vs Q := by
  have e31 : (31 : Int32).toInt = 31 := by decide
  have e0 : (0 : Int32).toInt = 0 := by decide
  have hR := rws_gi h
  have hn := hR.1
  unfold wp_link
  refine ⟨fun m x s t z => (m : Int) = 34 - x.toInt ∧ 31 ≤ x.toInt ∧ x.toInt ≤ 34 ∧ KLi σ s ∧ (s 0 67) = 0 ∧ t = τ ∧ z = vs ∧ ∀ i : Int, 31 ≤ i → i < x.toInt → CLN σ i (σ 0 67).toInt, ⟨3, by omega, by omega, by omega, kp_f (kp_f (kp_f kp_rf rfl) rfl) rfl, rfl, rfl, rfl, fun i i1 i2 => by omega⟩, ?_⟩
  rintro m x s t z ⟨q1, q2, q3, kl, p0, rfl, rfl, q4⟩
  have hRs := rws_k (kp_sub kl rfl rfl) hR
  have a17 : (s 17) = (σ 17) := funext (fun j => kl 17 j rfl rfl)
  have a40 : (s 40) = (σ 40) := funext (fun j => kl 40 j rfl rfl)
  have a22 : (s 22) = (σ 22) := funext (fun j => kl 22 j rfl rfl)
  have a23 : (s 23) = (σ 23) := funext (fun j => kl 23 j rfl rfl)
  have ePO : ∀ p, PO s p = PO σ p := fun p => by unfold PO; rw [a40]
  have fail : ∀ r, Q r s t z := fun r => k r s (gi_kl h kl p0) (kl 0 1 rfl rfl) (kl 0 2 rfl rfl)
  refine ⟨fun c => ?_, fun c => ?_⟩
  rotate_left 1
  · have e1 := ad1 (x := x) (by omega)
    refine sp_isFault hRs (fun s2 k2 cl => ⟨fun _ => ⟨m - 1, by omega, by omega, by omega, by omega, kp_tr kl (kp_sub k2 rfl rfl), (k2 0 67 rfl rfl).trans p0, rfl, rfl, fun i i1 i2 => ?_⟩, no0⟩) (fun s2 k2 => ⟨no1, fun _ => k _ s2 (gi_kl h (kp_tr kl (kp_sub k2 rfl rfl)) ((k2 0 67 rfl rfl).trans p0)) ((k2 0 1 rfl rfl).trans (kl 0 1 rfl rfl)) ((k2 0 2 rfl rfl).trans (kl 0 2 rfl rfl))⟩)
    by_cases e : i = x.toInt
    · rw [e]
      have a12 : (s 12) = (σ 12) := funext (fun j => kl 12 j rfl rfl)
      intro p hp e' he' hs'
      exact noth_k (kp_sub kl rfl rfl) (cl p hp e' (by rw [ePO]; unfold InO fO; rw [a22]; exact he') (by rw [a12]; exact hs'))
    · exact q4 i i1 (by omega)
  refine sp_mainOf hRs ⟨fun q => absurd q (by decide), fun _ => fail _⟩ (fun pm fm m1 m2 m3 m4 m5 => ⟨fun _ => ?_, fun _ => fail _⟩)
  refine ⟨fun m y p => (m : Int) = (σ 0 67).toInt - p.toInt ∧ 0 ≤ p.toInt ∧ y.toInt = SUMd σ p.toNatClampNeg ∧ (0 ≤ y.toInt ∧ y.toInt ≤ 16000 * p.toInt), ⟨(σ 0 67).toInt.toNat, by omega, by omega, by rw [e0, show (0 : Int32).toNatClampNeg = 0 by decide]; rfl, by omega⟩, ?_⟩
  rintro m9 y p ⟨r1, r2, r3, r4⟩
  have np := nt r2
  refine ⟨fun c3 => ⟨fun c4 => ?_, fun _ => fail _⟩, fun c3 => ?_⟩
  rotate_left 1
  · obtain ⟨i1, i2, i3, i4, i5, i6, i7, i8, i9⟩ := po_of hR r2 c3
    rw [a40, a23, i3]
    have ep := ad1 (x := p) (by omega)
    have epn : (p + 1).toNatClampNeg = p.toNatClampNeg + 1 := by rw [nt', ep]; omega
    have dc := (po_obj h (p := p.toNatClampNeg) (by omega)).2.2.2.1
    have ey : (y + (σ 23) (PO σ p.toNatClampNeg)).toInt = y.toInt + ((σ 23) (PO σ p.toNatClampNeg)).toInt := ad (by omega) (by omega)
    refine ⟨i1, by omega, m9 - 1, by omega, by omega, by omega, ?_, by omega⟩
    rw [ey, epn, r3]
    rfl
  have pe : p.toNatClampNeg = (σ 0 67).toInt.toNat := by omega
  rw [r3, pe] at c4
  have ly := lyb_gi h hF c4
  have ly2 : LYb (upC s 0 78 (s 17 fm)) (σ 0 67).toInt := by
    have ea : ∀ c, c ≠ 0 → upC s 0 78 (s 17 fm) c = σ c := fun c hc => funext (fun j => by
      rw [rdC, if_neg hc]
      refine kl c j ?_ rfl
      simp
      omega)
    have hz : ∀ a b : St, (∀ c, c ≠ 0 → a c = b c) → ∀ p, SUMd a p = SUMd b p := fun a b hab p => by
      induction p with
      | zero => rfl
      | succ p ih =>
        show SUMd a p + (a 23 (PO a p)).toInt = SUMd b p + (b 23 (PO b p)).toInt
        rw [ih]
        unfold PO
        rw [hab 23 (by decide), hab 40 (by decide)]
    obtain ⟨l1, l2, l3⟩ := ly
    refine ⟨rws_k (kp_f (kp_sub kl rfl rfl) rfl) hR, ?_, by rw [hz _ _ ea]; exact l3⟩
    unfold ITr PO
    rw [ea 23 (by decide), ea 24 (by decide), ea 25 (by decide), ea 40 (by decide)]
    exact l2
  refine sp_layAll ly2 (fun s6 k6 l6 a6 => k _ _ ?_ ((k6 0 1 rfl rfl).trans (kl 0 1 rfl rfl)) ((k6 0 2 rfl rfl).trans (kl 0 2 rfl rfl)))
  have kz : KLz σ (upC s6 0 70 (σ 0 67)) := kp_f (kp_tr (kp_f (kp_sub kl rfl rfl) rfl) (kp_sub k6 rfl rfl)) rfl
  have eP : ∀ p, PO (upC s 0 78 (s 17 fm)) p = PO σ p := fun p => by
    unfold PO
    rw [show upC s 0 78 (s 17 fm) 40 = (s 40) from rfl, a40]
  refine gi_lz h kz ((k6 0 67 rfl rfl).trans p0) (lnk_new h kz rfl (fun p hp => ?_) (fun p hp e he => ?_) (q4 32 (by decide) (by omega)) (q4 33 (by decide) (by omega)) m1 (fm := fm) (pm := pm) ?_ ?_ ?_ ?_ ?_)
  · show (s6 41) p = _
    rw [l6 p hp, show upC s 0 78 (s 17 fm) 40 = (s 40) from rfl, a40]
  · show AIMR σ e _ ((s6 43) e)
    refine aimr_k (σ := σ) (s := upC s 0 78 (s 17 fm)) (kp_f (kp_sub kl rfl rfl) rfl) (a6 p hp e ?_)
    rw [eP]
    unfold InO fO
    rw [show upC s 0 78 (s 17 fm) 22 = (s 22) from rfl, a22]
    exact he
  · rw [ePO] at m2
    unfold InO fO at m2 ⊢
    rw [a22] at m2
    exact m2
  · rw [← kl 13 fm rfl rfl]; exact m3
  · rw [← kl 9 fm rfl rfl]; exact m4
  · rw [← kl 15 fm rfl rfl]; exact m5
  · show (σ 17) fm = s6 0 78
    rw [k6 0 78 rfl rfl]
    show (σ 17) fm = s 17 fm
    rw [a17]
end LNKS
end

section
/-! cell -/
section CEL
variable {σ s τ t : St} {vs z : List Nat}
theorem sp_isTray {a n : Int32} {Q : Int32 → Prop} (hM : NMo σ) (ha : 0 ≤ a.toInt ∧ a.toInt < 10000) (hn : 0 ≤ n.toInt ∧ n.toInt ≤ 16000) (k : ∀ r, Q r) : wp_isTray a n σ τ vs Q := by
  have e0 : (0 : Int32).toInt = 0 := by decide
  unfold wp_isTray
  refine ⟨ha, fun c => ?_, fun _ => k _⟩
  refine ⟨fun m x => (m : Int) = n.toInt - x.toInt ∧ 0 ≤ x.toInt, ⟨n.toInt.toNat, by omega, by omega⟩, ?_⟩
  rintro m x ⟨q1, q2⟩
  refine ⟨fun _ => k _, fun c2 => ?_⟩
  obtain ⟨i1, i2⟩ := nf_ix hM (e := a) q2 (by omega)
  have e1 := ad1 (x := x) (by omega)
  exact ⟨ha, i1, by omega, fun _ => ⟨m - 1, by omega, by omega, by omega⟩, fun _ => k _⟩
theorem lib_tray {x2 : Int32} {k len : Nat} {Y : Prop} {N : Int32 → Prop} (ht : 0 ≤ (σ 0 1).toInt ∧ (σ 0 1).toInt ≤ 16000) (h2 : x2.toInt = k) (hl : k + len < 20) (h3 : ∀ j, j < len → (chI (SF 2 (k + j))).toInt ≠ 32) (kY : Y) (kN : ∀ x4 : Int32, x4.toInt = (k : Int) + len → N x4) (h4 : (chI (SF 2 (k + len))).toInt = 32) :
    ∃ L128 : Nat → Int32 → Prop, (∃ n, L128 n x2) ∧ ∀ (n128 : Nat) (x4_128 : Int32), L128 n128 x4_128 → (((0 ≤ x4_128.toInt ∧ x4_128.toInt < SN 2) ∧ ((chI (SF 2 x4_128.toNatClampNeg)).toInt = 32 → (∃ J160 : Int32 → Prop, (∀ (y0_160 : Int32), y0_160 = 0 ∨ y0_160 = 1 → J160 y0_160 → (∃ L165 : Nat → Int32 → Int32 → Prop, (∃ n, L165 n y0_160 (0 : Int32)) ∧ ∀ (n165 : Nat) (x5_165 : Int32) (x6_165 : Int32), x5_165 = 0 ∨ x5_165 = 1 → L165 n165 x5_165 x6_165 → ((∃ J209 : Prop, (J209  → ((x5_165.toInt = 0 → N x4_128) ∧ (x5_165.toInt ≠ 0 → Y))) ∧ (x5_165.toInt = 0 → J209) ∧ (x5_165.toInt ≠ 0 → ((σ 0 1).toInt ≤ x6_165.toInt → J209) ∧ (x6_165.toInt < (σ 0 1).toInt → ((0 ≤ (x2 + x6_165).toInt ∧ (x2 + x6_165).toInt < SN 2) ∧ ((0 ≤ x6_165.toInt ∧ x6_165.toInt < 16000) ∧ (∃ J201 : Int32 → Prop, (∀ (y0_201 : Int32), y0_201 = 0 ∨ y0_201 = 1 → J201 y0_201 → (∃ m, m < n165 ∧ L165 m y0_201 (x6_165 + 1))) ∧ ((chI (SF 2 (x2 + x6_165).toNatClampNeg)).toInt ≠ (σ 1 x6_165.toNatClampNeg).toInt → J201 (0 : Int32)) ∧ ((chI (SF 2 (x2 + x6_165).toNatClampNeg)).toInt = (σ 1 x6_165.toNatClampNeg).toInt → J201 (1 : Int32))))))))))) ∧ ((x4_128 - x2).toInt ≠ (σ 0 1).toInt → J160 (0 : Int32)) ∧ ((x4_128 - x2).toInt = (σ 0 1).toInt → J160 (1 : Int32)))) ∧ ((chI (SF 2 x4_128.toNatClampNeg)).toInt ≠ 32 → ∃ m, m < n128 ∧ L128 m (x4_128 + 1)))) := by
  have eN : ((SN 2 : Nat) : Int) = 20 := by decide
  have e0 : (0 : Int32).toInt = 0 := by decide
  refine ⟨fun n x => (n : Int) = (k : Int) + len - x.toInt ∧ (k : Int) ≤ x.toInt ∧ x.toInt ≤ (k : Int) + len, ⟨len, by omega, by omega, by omega⟩, ?_⟩
  rintro n x ⟨q1, q2, q3⟩
  have nx := nt (x := x) (by omega)
  have ex := ad1 (x := x) (by omega)
  refine ⟨by omega, fun c => ?_, fun c => ⟨n - 1, ?_⟩⟩
  · have hx : x.toInt = (k : Int) + len := by
      by_cases q : x.toInt = (k : Int) + len
      · exact q
      · have e9 : x.toNatClampNeg = k + (x.toNatClampNeg - k) := by omega
        rw [e9] at c
        exact absurd c (h3 _ (by omega))
    have es : (x - x2).toInt = len := by rw [sb (by omega) (by omega)]; omega
    rw [es]
    refine ⟨fun y => y.toInt ≠ 0 → (len : Int) = (σ 0 1).toInt, fun y hy hj => ?_, fun c2 q => absurd e0 q, fun c2 _ => c2⟩
    refine ⟨fun n5 x5 x6 => (n5 : Int) = len - x6.toInt ∧ (0 ≤ x6.toInt ∧ x6.toInt ≤ len) ∧ (x5.toInt ≠ 0 → (len : Int) = (σ 0 1).toInt), ⟨len, by omega, by omega, hj⟩, ?_⟩
    rintro n5 x5 x6 hx5 ⟨r1, r2, r3⟩
    have e6 := ad1 (x := x6) (by omega)
    refine ⟨True, fun _ => ⟨fun _ => kN x hx, fun _ => kY⟩, fun _ => trivial, fun c2 => ⟨fun _ => trivial, fun c3 => ?_⟩⟩
    have r4 := r3 c2
    have e2 : (x2 + x6).toInt = x2.toInt + x6.toInt := ad (by omega) (by omega)
    exact ⟨by omega, by omega, fun _ => True, fun y hy hJ => ⟨n5 - 1, by omega, by omega, by omega, fun _ => r4⟩, fun _ => trivial, fun _ => trivial⟩
  · have hx : x.toInt ≠ (k : Int) + len := fun q => by
      have e9 : x.toNatClampNeg = k + len := by omega
      rw [e9] at c
      exact c h4
    exact ⟨by omega, by omega, by omega, by omega⟩
theorem sp_cell {Q : Int32 → St → St → List Nat → Prop} (h : GLI σ τ vs) (k : ∀ r s, GLI s τ vs → (s 0 1).toInt = 0 → (s 0 2) = (σ 0 2) → Q r s τ vs) : wp_cell σ τ vs Q := by
  have z0 : (0 : Int32).toInt = 0 := by decide
  have e1' : (1 : Int32).toInt = 1 := by decide
  have ht := h.1.1
  have hM := h.2.2.1.2.2.2.2.2.1
  have fin : ∀ r, Q r (upC σ 0 1 (0 : Int32)) τ vs := fun r => k r _ (gi_tr h (kp_f kp_rf rfl) (by
    show 0 ≤ (0 : Int32).toInt ∧ (0 : Int32).toInt ≤ (σ 0 1).toInt
    omega)) z0 rfl
  unfold wp_cell
  refine ⟨fun c => ?_, fun _ => fin _⟩
  obtain ⟨⟨l1, l2⟩, l3⟩ := h.2.2.2.2.2.1
  obtain ⟨l4, -⟩ := l3 c
  have o2 := h.1.2.1
  refine ⟨fun m p => (m : Int) = (σ 0 70).toInt - p.toInt ∧ 0 ≤ p.toInt, ⟨(σ 0 70).toInt.toNat, by omega, by omega⟩, ?_⟩
  rintro m p ⟨q1, q2⟩
  have np := nt q2
  refine ⟨fun _ => ?_, fun c2 => ?_⟩
  · refine ⟨fun n x i => (n : Int) = 4 - i.toInt ∧ ((i.toInt = 0 ∧ x.toInt = (1 : Nat)) ∨ (i.toInt = 1 ∧ x.toInt = (5 : Nat)) ∨ (i.toInt = 2 ∧ x.toInt = (9 : Nat)) ∨ (i.toInt = 3 ∧ x.toInt = (15 : Nat)) ∨ i.toInt = 4), ⟨4, by omega, Or.inl ⟨z0, e1'⟩⟩, ?_⟩
    rintro n x i ⟨r1, r2⟩
    have ei : ∀ j : Int, i.toInt = j → j < 100 → (i + 1).toInt = j + 1 := fun j hj h1 => by rw [ad1 (by omega), hj]
    have ex : ∀ (y : Int32) (j : Int), y.toInt = j → j < 100 → (y + (1 : Int32)).toInt = j + 1 := fun y j hj h1 => by rw [ad1 (by omega), hj]
    refine ⟨fun _ => fin _, fun c3 => ?_⟩
    rcases r2 with ⟨a, b⟩ | ⟨a, b⟩ | ⟨a, b⟩ | ⟨a, b⟩ | a
    · exact lib_tray (k := 1) (len := 3) ht b (by decide) (by decide +kernel) (fin _) (fun x4 hx4 => ⟨3, by omega, by rw [ei 0 a (by decide)]; omega, Or.inr (Or.inl ⟨by rw [ei 0 a (by decide)]; decide, by rw [ex _ _ hx4 (by decide)]; decide⟩)⟩) (by decide +kernel)
    · exact lib_tray (k := 5) (len := 3) ht b (by decide) (by decide +kernel) (fin _) (fun x4 hx4 => ⟨2, by omega, by rw [ei 1 a (by decide)]; omega, Or.inr (Or.inr (Or.inl ⟨by rw [ei 1 a (by decide)]; decide, by rw [ex _ _ hx4 (by decide)]; decide⟩))⟩) (by decide +kernel)
    · exact lib_tray (k := 9) (len := 5) ht b (by decide) (by decide +kernel) (fin _) (fun x4 hx4 => ⟨1, by omega, by rw [ei 2 a (by decide)]; omega, Or.inr (Or.inr (Or.inr (Or.inl ⟨by rw [ei 2 a (by decide)]; decide, by rw [ex _ _ hx4 (by decide)]; decide⟩)))⟩) (by decide +kernel)
    · exact lib_tray (k := 15) (len := 4) ht b (by decide) (by decide +kernel) (fin _) (fun x4 hx4 => ⟨0, by omega, by rw [ei 3 a (by decide)]; omega, Or.inr (Or.inr (Or.inr (Or.inr (by rw [ei 3 a (by decide)]; decide))))⟩) (by decide +kernel)
    · omega
  · have lp := l4 p.toNatClampNeg (by omega)
    obtain ⟨e1, e2, e3, ⟨⟨o3, o4, o5, o6⟩, -⟩, e4, e5, e6⟩ := ob_rows h (a := (σ 41) p.toNatClampNeg) lp.1 lp.2
    have ef : ((σ 22) ((σ 41) p.toNatClampNeg - (1 : Int32)).toNatClampNeg).toInt = fO σ ((σ 41) p.toNatClampNeg - (1 : Int32)).toNatClampNeg := rfl
    have ep := ad1 (x := p) (by omega)
    refine ⟨by omega, by omega, fun m' f => m' = (fO σ (((σ 41) p.toNatClampNeg - (1 : Int32)).toNatClampNeg + 1) - f.toInt).toNat ∧ 0 ≤ f.toInt, ⟨_, rfl, by omega⟩, ?_⟩
    rintro m' f ⟨r1, r2⟩
    refine ⟨by omega, by omega, fun _ => ⟨m - 1, by omega, by omega, by omega⟩, fun c3 => ?_⟩
    rw [e4] at c3
    have ff : 0 ≤ f.toInt ∧ f.toInt < 10000 := by omega
    have e7 := ad1 (x := f) (by omega)
    have nx : ∃ m_1, m_1 < m' ∧ (m_1 = (fO σ (((σ 41) p.toNatClampNeg - (1 : Int32)).toNatClampNeg + 1) - (f + 1).toInt).toNat ∧ 0 ≤ (f + 1).toInt) := ⟨_, by omega, rfl, by omega⟩
    refine sp_isSymbol ff (fun _ _ => ⟨True, fun _ => nx, no1, fun _ => ?_⟩) (fun _ => ⟨True, fun _ => nx, fun _ => trivial, no0⟩)
    exact sp_isTray (σ := upC σ 0 1 (0 : Int32)) hM ff ht (fun r => ⟨fun _ => trivial, fun _ => ⟨ff, fun _ => fin _, fun _ => ⟨by omega, ff, fin _⟩⟩⟩)
end CEL
end

section
/-! the machine: programs, frames, what goes on -/
def BTg (σ : St) (b : Nat) (vd : Prop) (C : Int → Nat → Nat → Prop) (g : Gh) : Prop := ∃ (E0 R nl : Nat), ((σ 26) b).toInt = E0 ∧ ((σ 29) b).toInt = R ∧ ((σ 28) b).toInt = nl ∧ E0 < R ∧ ((R + 2 * nl : Nat) : Int) ≤ (σ 0 17).toInt ∧ nl ≤ 100 ∧ (0 ≤ ((σ 30) b).toInt ∧ ((σ 30) b).toInt ≤ 1000000) ∧ (0 ≤ ((σ 54) b).toInt ∧ ((σ 54) b).toInt ≤ nl) ∧ (∃ k, g E0 = some (0, k)) ∧ (∀ q h k, g q = some (h, k) → (E0 ≤ q ∧ q < R) ∧ OPw (σ 8) g nl vd C q h k) ∧ ∀ k, k < nl → RowOK (σ 8) (R + 2 * k) ((σ 30) b).toInt
def PRG (κ : St) (G : Nat → Nat → Gh) (K : Nat) : Prop := ∀ f o, LKo κ o → InO κ o f → FnD κ f → ∃ b : Nat, ((κ 17) f).toInt = b ∧ b < 10000 ∧ (κ 54) b = (κ 15) f ∧ ((κ 27) b).toInt = o ∧ BTg κ b (((κ 10) f).toInt = -1) (CAL κ o) (G f o) ∧ ∀ q h k, G f o q = some (h, k) → k ≤ K
theorem bnd {P : Nat → Nat → Prop} (hm : ∀ i K K', K ≤ K' → P i K → P i K') (h : ∀ i, ∃ K, P i K) : ∀ N : Nat, ∃ K, ∀ i, i < N → P i K := fun N => by
  induction N with
  | zero => exact ⟨0, fun i hi => absurd hi (Nat.not_lt_zero _)⟩
  | succ N ih =>
    obtain ⟨K1, h1⟩ := ih
    obtain ⟨K2, h2⟩ := h N
    refine ⟨K1 + K2, fun i hi => ?_⟩
    by_cases c : i = N
    · rw [c]; exact hm _ _ _ (Nat.le_add_left _ _) h2
    · exact hm _ _ _ (Nat.le_add_right _ _) (h1 i (by omega))
theorem gh_bnd (g : Gh) {N : Nat} (hN : ∀ q h k, g q = some (h, k) → q < N) : ∃ K, ∀ q h k, g q = some (h, k) → k ≤ K := by
  obtain ⟨K, hK⟩ := bnd (P := fun q K => ∀ h k, g q = some (h, k) → k ≤ K) (fun i K K' hK h a b c => Nat.le_trans (h a b c) hK) (fun q => by
    cases e : g q with
    | none => exact ⟨0, fun h k c => by cases c⟩
    | some v =>
      obtain ⟨a, b⟩ := v
      exact ⟨b, fun h k c => by cases c; exact Nat.le_refl _⟩) N
  exact ⟨K, fun q h k c => hK q (hN q h k c) h k c⟩
theorem prg_ex {κ : St} (hL : LNk κ) (hb : (κ 0 45).toInt ≤ 10000) (ho : (κ 0 35).toInt ≤ 100) (hF : ∀ o : Nat, (o : Int) < (κ 0 35).toInt → fO κ (o + 1) ≤ 10000) : ∃ G K, PRG κ G K := by
  have h1 : ∀ x : Nat × Nat, ∃ g : Gh, LKo κ x.2 → InO κ x.2 x.1 → FnD κ x.1 → ∃ b : Nat, ((κ 17) x.1).toInt = b ∧ b < 10000 ∧ (κ 54) b = (κ 15) x.1 ∧ ((κ 27) b).toInt = x.2 ∧ BTg κ b (((κ 10) x.1).toInt = -1) (CAL κ x.2) g := fun x => by
    by_cases c : LKo κ x.2 ∧ InO κ x.2 x.1 ∧ FnD κ x.1
    · obtain ⟨b, b1, b2, b3, b4, g, b5⟩ := hL.2.1 x.2 c.1 x.1 c.2.1 c.2.2
      exact ⟨g, fun _ _ _ => ⟨b, b1, by omega, b3, b4, b5⟩⟩
    · exact ⟨fun _ => none, fun c1 c2 c3 => absurd ⟨c1, c2, c3⟩ c⟩
  obtain ⟨G, hG⟩ := Classical.axiomOfChoice h1
  have h2 : ∀ f o, ∃ K, LKo κ o → InO κ o f → FnD κ f → ∀ q h k, G (f, o) q = some (h, k) → k ≤ K := fun f o => by
    by_cases c : LKo κ o ∧ InO κ o f ∧ FnD κ f
    · obtain ⟨b, -, -, -, -, E0, R, nl, -, -, -, -, -, -, -, -, -, b5, -⟩ := hG (f, o) c.1 c.2.1 c.2.2
      obtain ⟨K, hK⟩ := gh_bnd (G (f, o)) (N := R) (fun q h k e => (b5 q h k e).1.2)
      exact ⟨K, fun _ _ _ => hK⟩
    · exact ⟨0, fun c1 c2 c3 => absurd ⟨c1, c2, c3⟩ c⟩
  obtain ⟨K, hK⟩ := bnd (P := fun o K => ∀ f, f < 10000 → LKo κ o → InO κ o f → FnD κ f → ∀ q h k, G (f, o) q = some (h, k) → k ≤ K) (fun i K K' hK h f a b c d q e1 k e2 => Nat.le_trans (h f a b c d q e1 k e2) hK) (fun o => bnd (P := fun f K => LKo κ o → InO κ o f → FnD κ f → ∀ q h k, G (f, o) q = some (h, k) → k ≤ K) (fun i K K' hK h b c d q e1 k e2 => Nat.le_trans (h b c d q e1 k e2) hK) (fun f => h2 f o) 10000) 100
  refine ⟨fun f o => G (f, o), K, fun f o c1 c2 c3 => ?_⟩
  obtain ⟨b, b1, b2, b3, b4, b5⟩ := hG (f, o) c1 c2 c3
  have lt := lko_lt hL c1
  exact ⟨b, b1, b2, b3, b4, b5, hK o (by omega) f (by have := hF o lt; have := c2.2; omega) c1 c2 c3⟩
def rsF (κ : St) (f : Nat) : Nat := if ((κ 10) f).toInt = -1 then 0 else 1
def FRo (κ σ : St) (i f o : Nat) : Prop := (LKo κ o ∧ InO κ o f ∧ FnD κ f) ∧ (σ 50) i = (κ 17) f ∧ 24576 ≤ ((σ 49) i).toInt ∧ ((σ 49) i).toInt + ((κ 30) ((κ 17) f).toNatClampNeg).toInt + 32 * ((i : Int) + 1) ≤ 32768
def CHf (κ : St) (G : Nat → Nat → Gh) (σ : St) : Nat → Nat → Nat → Nat → Prop
  | 0, B, f, o => B = 0 ∧ FRo κ σ 0 f o
  | i + 1, B, f, o => FRo κ σ (i + 1) f o ∧ ∃ B0 f0 o0 h k pc, CHf κ G σ i B0 f0 o0 ∧ ((σ 51) (i + 1)).toInt = ((pc : Nat) : Int) ∧ h ≤ 546 ∧ G f0 o0 pc = some (h, k) ∧ B + rsF κ f = B0 + h
abbrev KRn (κ σ : St) : Prop := Kp [(0, 81), (0, 86), (0, 89), (0, 91), (0, 92), (0, 94), (0, 95), (0, 96), (0, 97), (0, 93), (0, 98)] [46, 47, 48, 49, 50, 51, 53] κ σ
/-- within a frame -/
abbrev KRs (σ s : St) : Prop := Kp [(0, 81), (0, 89), (0, 91), (0, 94), (0, 95), (0, 96), (0, 97)] [46, 47, 48, 53] σ s
def MN (σ : St) : Prop := (0 ≤ (σ 0 91).toInt ∧ (σ 0 91).toInt ≤ 4096) ∧ 0 ≤ (σ 0 89).toInt ∧ (0 ≤ (σ 0 92).toInt ∧ (σ 0 92).toInt ≤ (σ 0 93).toInt ∧ (σ 0 93).toInt ≤ 20000)
def MS (σ : St) (K d k pc : Nat) : Nat := (((σ 0 93).toInt - (σ 0 92).toInt).toNat * 300 + d) * ((K + 2) * 1048576) + (k * 1048576 + (1048576 - pc))
def CTX (κ : St) (G : Nat → Nat → Gh) (K : Nat) (σ : St) (d B f o pc h k : Nat) : Prop := KRn κ σ ∧ MN σ ∧ (σ 0 86).toInt = (d : Int) + 1 ∧ CHf κ G σ d B f o ∧ h ≤ 546 ∧ G f o pc = some (h, k) ∧ (σ 0 81).toInt = ((B + h : Nat) : Int)
def MI (κ : St) (G : Nat → Nat → Gh) (K : Nat) (pc : Int32) (σ : St) (m : Nat) : Prop := KRn κ σ ∧ MN σ ∧ ((σ 0 97).toInt < 0 → 0 ≤ pc.toInt ∧ ∃ d B f o h k, CTX κ G K σ d B f o pc.toNatClampNeg h k ∧ m = MS σ K d k pc.toNatClampNeg)
/-- what is known of the frame at hand -/
def FIx (κ σ : St) (d o b R nl : Nat) : Prop := (σ 0 86).toInt = (d : Int) + 1 ∧ d ≤ 255 ∧ ((σ 50) d).toInt = (b : Int) ∧ b < 10000 ∧ ((κ 27) b).toInt = (o : Int) ∧ o ≤ 99 ∧ ((κ 29) b).toInt = (R : Int) ∧ nl ≤ 100 ∧ R + 2 * nl ≤ 420000 ∧ (∀ k, k < nl → RowOK (κ 8) (R + 2 * k) ((κ 30) b).toInt) ∧ (24576 ≤ ((σ 49) d).toInt ∧ 0 ≤ ((κ 30) b).toInt ∧ ((σ 49) d).toInt + ((κ 30) b).toInt + 32 ≤ 32768)
section PRGS
variable {κ σ s τ t : St} {vs z : List Nat} {G : Nat → Nat → Gh} {K : Nat}
theorem chf_fr {i B f o : Nat} (h : CHf κ G σ i B f o) : FRo κ σ i f o := by
  cases i with
  | zero => exact h.2
  | succ i => exact h.1
theorem chf_B {i : Nat} : ∀ {B f o : Nat}, CHf κ G σ i B f o → B ≤ 546 * i := by
  induction i with
  | zero => exact fun h => by have := h.1; omega
  | succ i ih =>
    intro B f o h
    obtain ⟨-, B0, f0, o0, h0, k, pc, c1, c2, c3, c4, c5⟩ := h
    have := ih c1
    omega
theorem chf_eq {i : Nat} : ∀ {B f o : Nat}, (∀ j, j ≤ i → (s 50) j = (σ 50) j ∧ (s 49) j = (σ 49) j ∧ (s 51) j = (σ 51) j) → CHf κ G σ i B f o → CHf κ G s i B f o := by
  induction i with
  | zero =>
    intro B f o he h
    obtain ⟨e1, e2, e3⟩ := he 0 (Nat.le_refl _)
    obtain ⟨h1, h2, h3, h4, h5⟩ := h
    exact ⟨h1, h2, by rw [e1]; exact h3, by rw [e2]; exact h4, by rw [e2]; exact h5⟩
  | succ i ih =>
    intro B f o he h
    obtain ⟨e1, e2, e3⟩ := he (i + 1) (Nat.le_refl _)
    obtain ⟨⟨h2, h3, h4, h5⟩, B0, f0, o0, h0, k, pc, c1, c2, c3, c4, c5⟩ := h
    exact ⟨⟨h2, by rw [e1]; exact h3, by rw [e2]; exact h4, by rw [e2]; exact h5⟩, B0, f0, o0, h0, k, pc, ih (fun j hj => he j (by omega)) c1, by rw [e3]; exact c2, c3, c4, c5⟩
theorem chf_rs {i B f o : Nat} (k : KRs σ s) (h : CHf κ G σ i B f o) : CHf κ G s i B f o := chf_eq (fun j _ => ⟨k 50 j rfl rfl, k 49 j rfl rfl, k 51 j rfl rfl⟩) h
theorem fr_d {i f o : Nat} (h : FRo κ σ i f o) (hP : PRG κ G K) : i ≤ 255 := by
  obtain ⟨⟨a1, a2, a3⟩, h2, h3, h4⟩ := h
  obtain ⟨b, b1, b2, b3, b4, ⟨E0, R, nl, c1, c2, c3, c4, c5, c6, c7, -⟩, b6⟩ := hP f o a1 a2 a3
  have e : ((κ 17) f).toNatClampNeg = b := by rw [nt', b1]; omega
  rw [e] at h4
  omega
/-- the frame, and the word that comes -/
theorem ctx_op {d B f o pc h k : Nat} (hP : PRG κ G K) (hL : LNk κ) (ho : (κ 0 35).toInt ≤ 100) (hw : (κ 0 17).toInt ≤ 409600) (c : CTX κ G K σ d B f o pc h k) : ∃ b R nl : Nat, FIx κ σ d o b R nl ∧ pc < R ∧ OPw (κ 8) (G f o) nl (((κ 10) f).toInt = -1) (CAL κ o) pc h k ∧ k ≤ K ∧ B ≤ 546 * d := by
  obtain ⟨c1, c2, c3, c4, c5, c6, c7⟩ := c
  have fr := chf_fr c4
  have hd := fr_d fr hP
  obtain ⟨⟨a1, a2, a3⟩, h2, h3, h4⟩ := fr
  obtain ⟨b, b1, b2, b3, b4, ⟨E0, R, nl, d1, d2, d3, d4, d5, d6, d7, d8, d9, d10, d11⟩, b6⟩ := hP f o a1 a2 a3
  have e : ((κ 17) f).toNatClampNeg = b := by rw [nt', b1]; omega
  rw [e] at h4
  have lt := lko_lt hL a1
  obtain ⟨⟨g1, g2⟩, g3⟩ := d10 pc h k c6
  exact ⟨b, R, nl, ⟨c3, hd, by rw [h2]; exact b1, b2, b4, by omega, d2, d6, by omega, d11, h3, d7.1, by omega⟩, g2, g3, b6 _ _ _ c6, chf_B c4⟩
theorem ms_same {A W k k' pc pc' : Nat} (h : k' < k ∨ (k' = k ∧ pc < pc')) (hp : pc < 1048576) : A * W + (k' * 1048576 + (1048576 - pc')) < A * W + (k * 1048576 + (1048576 - pc)) := by
  omega
theorem ms_lt {A A' k' pc' y : Nat} (h : A' < A) (hk : k' ≤ K) : A' * ((K + 2) * 1048576) + (k' * 1048576 + (1048576 - pc')) < A * ((K + 2) * 1048576) + y := by
  have h1 : (A' + 1) * ((K + 2) * 1048576) ≤ A * ((K + 2) * 1048576) := Nat.mul_le_mul_right _ h
  have h2 : (A' + 1) * ((K + 2) * 1048576) = A' * ((K + 2) * 1048576) + (K + 2) * 1048576 := Nat.succ_mul _ _
  have h3 : k' * 1048576 ≤ K * 1048576 := Nat.mul_le_mul_right _ hk
  have h4 : (K + 2) * 1048576 = K * 1048576 + 2097152 := by rw [Nat.add_mul]
  omega
theorem ms_pos {d k pc : Nat} (hp : pc < 1048576) : 0 < MS σ K d k pc := by
  unfold MS
  omega
/-- it goes on in the same frame -/
theorem mi_go {d B f o pc h k h' : Nat} {v : Int32} (c : CTX κ G K σ d B f o pc h k) (hp : pc < 1048576) (ks : KRs σ s) (hn : (0 ≤ (s 0 91).toInt ∧ (s 0 91).toInt ≤ 4096) ∧ 0 ≤ (s 0 89).toInt) (ht : (s 0 81).toInt = ((B + h' : Nat) : Int)) {q : Nat} (hv : v.toInt = (q : Int)) (nx : Nx (G f o) k pc q h') : ∃ m', m' < MS σ K d k pc ∧ MI κ G K v s m' := by
  obtain ⟨c1, c2, c3, c4, c5, c6, c7⟩ := c
  obtain ⟨n1, k', n2, n3⟩ := nx
  have e86 : (s 0 86) = (σ 0 86) := ks _ _ rfl rfl
  have e92 : (s 0 92) = (σ 0 92) := ks _ _ rfl rfl
  have e93 : (s 0 93) = (σ 0 93) := ks _ _ rfl rfl
  have ev : v.toNatClampNeg = q := by rw [nt', hv]; rfl
  refine ⟨MS s K d k' q, ?_, kp_tr c1 (kp_sub ks rfl rfl), ⟨hn.1, hn.2, by rw [e92, e93]; exact c2.2.2⟩, fun _ => ⟨by omega, d, B, f, o, h', k', ⟨kp_tr c1 (kp_sub ks rfl rfl), ⟨hn.1, hn.2, by rw [e92, e93]; exact c2.2.2⟩, by rw [e86]; exact c3, chf_rs ks c4, n1, by rw [ev]; exact n2, ht⟩, by rw [ev]⟩⟩
  unfold MS
  rw [e92, e93]
  exact ms_same n3 hp
/-- it is over -/
theorem mi_end {m : Nat} {v : Int32} (hm : 0 < m) (hk : KRn κ s) (hn : MN s) (ho : 0 ≤ (s 0 97).toInt) : ∃ m', m' < m ∧ MI κ G K v s m' := ⟨0, hm, hk, hn, fun q => by omega⟩
end PRGS
end

section
/-! the machine: what a word does to the stack, the locals, the output -/
section MOP
variable {κ σ s τ t : St} {vs z : List Nat} {G : Nat → Nat → Gh} {K : Nat}
theorem lc_ge {x y : Int64} (h : 0 ≤ (lg_cmp x y).toInt) : y.toInt ≤ x.toInt := by
  have e0 : (0 : Int32).toInt = 0 := by decide
  have h1 : ¬ x < y := fun q => by
    have := i_lt.mp ((lg_cmp_lt x y).mpr q)
    omega
  have h2 : ¬ x.toInt < y.toInt := fun q => h1 (Int64.lt_iff_toInt_lt.mpr q)
  omega
theorem lc_lt {x y : Int64} (h : (lg_cmp x y).toInt < 0) : x.toInt < y.toInt := by
  have e0 : (0 : Int32).toInt = 0 := by decide
  exact Int64.lt_iff_toInt_lt.mp ((lg_cmp_lt x y).mp (i_lt.mpr (by omega)))
theorem ld_div {x y : Int64} (h0 : 0 ≤ x.toInt) (h1 : 1 ≤ y.toInt) (h2 : x.toInt ≤ 2147483648) : (x / y).toInt = x.toInt / y.toInt := by
  have h3 : x.toInt / y.toInt ≤ x.toInt := Int.ediv_le_self _ h0
  have h4 : 0 ≤ x.toInt / y.toInt := Int.ediv_nonneg h0 (by omega)
  rw [Int64.toInt_div, Int.tdiv_eq_ediv_of_nonneg h0]
  rw [Int.bmod_eq_of_le] <;> omega
theorem ld_mul10 {x : Int64} (h0 : 0 ≤ x.toInt) (h1 : x.toInt ≤ 2147483648) : (x * (10 : Int64)).toInt = 10 * x.toInt := by
  have e1 : (10 : Int64).toInt = 10 := by decide
  rw [Int64.toInt_mul, e1]
  rw [Int.bmod_eq_of_le] <;> omega
theorem mul100 {x : Int32} (h0 : 0 ≤ x.toInt) (h1 : x.toInt ≤ 20000) : (x * (100 : Int32)).toInt = 100 * x.toInt := by
  have h := Int32.toInt_mul x (100 : Int32)
  have e1 : (100 : Int32).toInt = 100 := by decide
  rw [e1] at h
  rw [h, Int.bmod_eq_of_le] <;> omega
theorem mul2 {x : Int32} (h0 : 0 ≤ x.toInt) (h1 : x.toInt ≤ 20000) : ((2 : Int32) * x).toInt = 2 * x.toInt := by
  have h := Int32.toInt_mul (2 : Int32) x
  have e1 : (2 : Int32).toInt = 2 := by decide
  rw [e1] at h
  rw [h, Int.bmod_eq_of_le] <;> omega
theorem fi_ix {d o b R nl : Nat} (h : FIx κ σ d o b R nl) : ((σ 0 86) - (1 : Int32)).toInt = d ∧ ((σ 0 86) - (1 : Int32)).toNatClampNeg = d := by
  have h1 := h.1
  have e : ((σ 0 86) - (1 : Int32)).toInt = d := by rw [sb1 (by omega)]; omega
  exact ⟨e, by rw [nt', e]; rfl⟩
theorem fi_kp {d o b R nl : Nat} (h : FIx κ σ d o b R nl) (k : KRs σ s) : FIx κ s d o b R nl := by
  obtain ⟨h1, h2, h3, h4, h5, h6, h7, h8, h9, h10, h11⟩ := h
  have e86 : (s 0 86) = (σ 0 86) := k _ _ rfl rfl
  exact ⟨by rw [e86]; exact h1, h2, by rw [k 50 d rfl rfl]; exact h3, h4, h5, h6, h7, h8, h9, h10, by rw [k 49 d rfl rfl]; exact h11⟩
theorem sp_rowOf {d o b R nl : Nat} {a : Int32} {Q : Int32 → Prop} (h : FIx κ σ d o b R nl) (kn : KRn κ σ) (ha : 0 ≤ a.toInt ∧ a.toInt < nl) (k : ∀ r : Int32, r.toInt = (R : Int) + 2 * a.toInt → Q r) : wp_rowOf a σ τ vs Q := by
  obtain ⟨i1, i2⟩ := fi_ix h
  obtain ⟨h1, h2, h3, h4, h5, h6, h7, h8, h9, h10, h11⟩ := h
  unfold wp_rowOf
  rw [i2]
  have nb := nt (x := (σ 50) d) (by omega)
  have eb : ((σ 50) d).toNatClampNeg = b := by omega
  rw [eb, kn 29 b rfl rfl]
  have m := mul2 (x := a) ha.1 (by omega)
  exact ⟨by omega, by omega, k _ (by rw [ad (by omega) (by omega), m, h7])⟩
theorem sp_getLocal {d o b R nl : Nat} {a : Int32} {Q : Int32 → Prop} (h : FIx κ σ d o b R nl) (kn : KRn κ σ) (ha : 0 ≤ a.toInt ∧ a.toInt < nl) (k : ∀ r : Int32, Q r) : wp_getLocal a σ τ vs Q := by
  obtain ⟨i1, i2⟩ := fi_ix h
  have h9' := h
  obtain ⟨h1, h2, h3, h4, h5, h6, h7, h8, h9, h10, h11⟩ := h9'
  unfold wp_getLocal
  refine sp_rowOf h kn ha (fun r hr => ⟨by omega, fun c => ⟨?_, k _⟩, fun c => ⟨by omega, ?_, k _⟩⟩)
  · have m := mul100 (x := (σ 0 86) - (1 : Int32)) (by omega) (by omega)
    rw [ad (by omega) (by omega), m]
    omega
  · have na := nt ha.1
    have nr := nt (x := r) (by omega)
    have er : r.toNatClampNeg = R + 2 * a.toNatClampNeg := by omega
    have ro := (h10 a.toNatClampNeg (by omega)).1
    rw [er, kn 8 _ rfl rfl] at c
    have := ro c
    rw [er, kn 8 _ rfl rfl, i2, ad (by omega) (by omega)]
    omega
theorem sp_setLocal {d o b R nl : Nat} {a v : Int32} {Q : St → St → List Nat → Prop} (h : FIx κ σ d o b R nl) (kn : KRn κ σ) (ha : 0 ≤ a.toInt ∧ a.toInt < nl) (k : ∀ s, Kp [] [46, 48] σ s → Q s τ vs) : wp_setLocal a v σ τ vs Q := by
  obtain ⟨i1, i2⟩ := fi_ix h
  have h9' := h
  obtain ⟨h1, h2, h3, h4, h5, h6, h7, h8, h9, h10, h11⟩ := h9'
  unfold wp_setLocal
  refine sp_rowOf h kn ha (fun r hr => ⟨by omega, fun c => ⟨?_, k _ (kp_a kp_rf rfl)⟩, fun c => ⟨by omega, ?_, k _ (kp_a kp_rf rfl)⟩⟩)
  · have m := mul100 (x := (σ 0 86) - (1 : Int32)) (by omega) (by omega)
    rw [ad (by omega) (by omega), m]
    omega
  · have na := nt ha.1
    have nr := nt (x := r) (by omega)
    have er : r.toNatClampNeg = R + 2 * a.toNatClampNeg := by omega
    have ro := (h10 a.toNatClampNeg (by omega)).1
    rw [er, kn 8 _ rfl rfl] at c
    have := ro c
    rw [er, kn 8 _ rfl rfl, i2, ad (by omega) (by omega)]
    omega
theorem sp_clear {d o b R nl : Nat} {a : Int32} {Q : St → St → List Nat → Prop} (h : FIx κ σ d o b R nl) (kn : KRn κ σ) (ha : 0 ≤ a.toInt ∧ a.toInt < nl) (k : ∀ s, Kp [] [46, 48] σ s → Q s τ vs) : wp_clear a σ τ vs Q := by
  obtain ⟨i1, i2⟩ := fi_ix h
  have h9' := h
  obtain ⟨h1, h2, h3, h4, h5, h6, h7, h8, h9, h10, h11⟩ := h9'
  have e0 : (0 : Int32).toInt = 0 := by decide
  have na := nt ha.1
  have ro := h10 a.toNatClampNeg (by omega)
  unfold wp_clear
  refine sp_rowOf h kn ha (fun r hr => ?_)
  have e1 := ad1 (x := r) (by omega)
  have nr := nt (x := r) (by omega)
  have er : r.toNatClampNeg = R + 2 * a.toNatClampNeg := by omega
  have er1 : (r + (1 : Int32)).toNatClampNeg = R + 2 * a.toNatClampNeg + 1 := by rw [nt', e1]; omega
  refine ⟨by omega, by omega, sp_rowOf h kn ha (fun r2 hr2 => ⟨by omega, ?_⟩)⟩
  have er2 : r2.toNatClampNeg = R + 2 * a.toNatClampNeg := by have := nt (x := r2) (by omega); omega
  rw [er1, er2, i2, kn 8 _ rfl rfl, kn 8 _ rfl rfl]
  refine ⟨fun n x s t z => n = (((κ 8) (R + 2 * a.toNatClampNeg + 1)).toInt - x.toInt).toNat ∧ 0 ≤ x.toInt ∧ Kp [] [46, 48] σ s ∧ t = τ ∧ z = vs, ⟨_, rfl, by omega, kp_rf, rfl, rfl⟩, ?_⟩
  rintro n x s t z ⟨q1, q2, kk, rfl, rfl⟩
  refine ⟨fun _ => ⟨fun _ => k s kk, fun _ => sp_setLocal (fi_kp h (kp_sub kk rfl rfl)) (kp_tr kn (kp_sub kk rfl rfl)) ha (fun s2 k2 => k s2 (kp_tr kk k2))⟩, fun c => ?_⟩
  obtain ⟨p1, p2⟩ := ro.2 (by omega)
  have ex := ad1 (x := x) (by omega)
  have a1 : ((σ 49) d + (κ 8) (R + 2 * a.toNatClampNeg)).toInt = ((σ 49) d).toInt + ((κ 8) (R + 2 * a.toNatClampNeg)).toInt := ad (by omega) (by omega)
  have a2 : (((σ 49) d + (κ 8) (R + 2 * a.toNatClampNeg)) + x).toInt = ((σ 49) d).toInt + ((κ 8) (R + 2 * a.toNatClampNeg)).toInt + x.toInt := by rw [ad (by omega) (by omega), a1]
  exact ⟨by omega, _, by omega, rfl, by omega, kp_a kk rfl, rfl, rfl⟩
theorem sp_push {a : Int32} {Q : St → St → List Nat → Prop} (h : 0 ≤ (σ 0 81).toInt ∧ (σ 0 81).toInt < 140000) (k : ∀ s, Kp [(0, 81)] [47] σ s → (s 0 81).toInt = (σ 0 81).toInt + 1 → Q s τ vs) : wp_push a σ τ vs Q := by
  unfold wp_push
  exact ⟨h, k _ (kp_f (kp_a kp_rf rfl) rfl) (ad1 (by omega))⟩
theorem sp_pop {Q : Int32 → St → St → List Nat → Prop} (h : 1 ≤ (σ 0 81).toInt ∧ (σ 0 81).toInt ≤ 140000) (k : ∀ r s, Kp [(0, 81)] [] σ s → (s 0 81).toInt = (σ 0 81).toInt - 1 → Q r s τ vs) : wp_pop σ τ vs Q := by
  have e := sb1 (x := (σ 0 81)) (by omega)
  unfold wp_pop
  exact ⟨by omega, k _ _ (kp_f kp_rf rfl) e⟩
theorem sp_trapped {how ln : Int32} {Q : St → St → List Nat → Prop} {d o b R nl : Nat} (h : FIx κ σ d o b R nl) (k : ∀ s, Kp [(0, 97), (0, 95), (0, 96)] [] σ s → (s 0 97).toInt = how.toInt → Q s τ vs) : wp_trapped how ln σ τ vs Q := by
  obtain ⟨i1, i2⟩ := fi_ix h
  obtain ⟨h1, h2, h3, h4, -⟩ := h
  unfold wp_trapped wp_ends
  rw [i2]
  exact ⟨by omega, by omega, k _ (kp_f (kp_f (kp_f kp_rf rfl) rfl) rfl) rfl⟩
abbrev KEm (σ s : St) : Prop := Kp [(0, 97), (0, 95), (0, 96), (0, 91)] [53] σ s
def EMx (σ s : St) : Prop := KEm σ s ∧ (0 ≤ (s 0 91).toInt ∧ (s 0 91).toInt ≤ 4096) ∧ ((s 0 97).toInt < 0 → (σ 0 97).toInt < 0)
theorem em_tr {s' : St} (h : EMx σ s) (g : EMx s s') : EMx σ s' := ⟨kp_tr h.1 g.1, g.2.1, fun q => h.2.2 (g.2.2 q)⟩
theorem sp_emit {x ln : Int32} {Q : St → St → List Nat → Prop} {d o b R nl : Nat} (h : FIx κ σ d o b R nl) (hw : 0 ≤ (σ 0 91).toInt ∧ (σ 0 91).toInt ≤ 4096) (k : ∀ s, EMx σ s → Q s τ vs) : wp_emit x ln σ τ vs Q := by
  unfold wp_emit
  refine ⟨fun c => ⟨by omega, k _ ⟨kp_f (kp_a kp_rf rfl) rfl, ?_, fun q => q⟩⟩, fun c => ⟨fun _ => k _ ⟨kp_rf, hw, fun q => q⟩, fun _ => sp_trapped h (fun s ks ho => k s ⟨kp_sub ks rfl rfl, ?_, fun q => ?_⟩)⟩⟩
  · have e := ad1 (x := (σ 0 91)) (by omega)
    show 0 ≤ ((σ 0 91) + (1 : Int32)).toInt ∧ ((σ 0 91) + (1 : Int32)).toInt ≤ 4096
    omega
  · have e : (s 0 91) = (σ 0 91) := ks _ _ rfl rfl
    rw [e]; exact hw
  · have e6 : (6 : Int32).toInt = 6 := by decide
    omega
theorem sp_print {x ln : Int32} {Q : St → St → List Nat → Prop} {d o b R nl : Nat} (h : FIx κ σ d o b R nl) (hw : 0 ≤ (σ 0 91).toInt ∧ (σ 0 91).toInt ≤ 4096) (k : ∀ s, EMx σ s → Q s τ vs) : wp_print x ln σ τ vs Q := by
  have e0 : (0 : Int64).toInt = 0 := by decide
  have e1 : (1 : Int64).toInt = 1 := by decide
  have e10 : (10 : Int64).toInt = 10 := by decide
  have ex : x.toInt64.toInt = x.toInt := Int32.toInt_toInt64 x
  have rx := s_rng x
  unfold wp_print
  refine ⟨fun v s t z => (0 ≤ v.toInt ∧ v.toInt ≤ 2147483648) ∧ EMx σ s ∧ t = τ ∧ z = vs, ?_, fun c => ⟨?_, ⟨kp_rf, hw, fun q => q⟩, rfl, rfl⟩, fun c => sp_emit h hw (fun s hs => ⟨?_, hs, rfl, rfl⟩)⟩
  · rintro v s t z ⟨hv, hs, rfl, rfl⟩
    refine ⟨fun n x5 => (n : Int) = 2147483648 - x5.toInt ∧ 1 ≤ x5.toInt, ⟨2147483647, by omega, by omega⟩, ?_⟩
    rintro n x5 ⟨q1, q2⟩
    have hd := ld_div (x := v) (y := x5) hv.1 q2 hv.2
    refine ⟨fun q => by rw [q] at q2; omega, fun c => ?_, fun c => ?_⟩
    · refine ⟨fun n x6 s2 t2 z2 => n = ldn x6 ∧ EMx σ s2 ∧ t2 = t ∧ z2 = z, ⟨_, rfl, hs, rfl, rfl⟩, ?_⟩
      rintro n2 x6 s2 t2 z2 ⟨r1, hs2, rfl, rfl⟩
      refine ⟨fun _ => k s2 hs2, fun c2 => ⟨lne_of c2, sp_emit (fi_kp h (kp_sub hs2.1 rfl rfl)) hs2.2.1 (fun s3 hs3 => ⟨ldn (x6 / 10), by rw [r1]; exact ldn_lt c2, rfl, em_tr hs2 hs3, rfl, rfl⟩)⟩⟩
    · have g := lc_ge c
      rw [hd, e10] at g
      have g2 : 10 * x5.toInt ≤ v.toInt := by
        have h1 := Int.ediv_mul_le v.toInt (b := x5.toInt) (by omega)
        have h2 : 10 * x5.toInt ≤ v.toInt / x5.toInt * x5.toInt := Int.mul_le_mul_of_nonneg_right g (by omega)
        omega
      have em := ld_mul10 (x := x5) (by omega) (by omega)
      exact ⟨(2147483648 - 10 * x5.toInt).toNat, by omega, by rw [em]; omega, by rw [em]; omega⟩
  · have := lc_ge c
    rw [ex] at this ⊢
    omega
  · have := lc_lt c
    rw [ex, e0] at this
    have en : (-x.toInt64).toInt = -x.toInt := by
      rw [Int64.toInt_neg, ex]
      rw [Int.bmod_eq_of_le] <;> omega
    rw [en]
    omega
/-- what a name of the library does -/
def LBx (σ s : St) (l : Int) : Prop := Kp [(0, 81), (0, 89), (0, 91), (0, 94), (0, 95), (0, 96), (0, 97)] [47, 53] σ s ∧ ((0 ≤ (s 0 91).toInt ∧ (s 0 91).toInt ≤ 4096) ∧ 0 ≤ (s 0 89).toInt) ∧ (s 0 81).toInt = (σ 0 81).toInt + (if l = 0 then 1 else -1)
theorem sp_library1 {l ln : Int32} {Q : St → St → List Nat → Prop} {d o b R nl : Nat} (h : FIx κ σ d o b R nl) (hn : (0 ≤ (σ 0 91).toInt ∧ (σ 0 91).toInt ≤ 4096) ∧ 0 ≤ (σ 0 89).toInt) (hi : (σ 0 88).toInt ≤ 4096) (ht : (l.toInt = 0 → 0 ≤ (σ 0 81).toInt ∧ (σ 0 81).toInt < 140000) ∧ (l.toInt ≠ 0 → 1 ≤ (σ 0 81).toInt ∧ (σ 0 81).toInt ≤ 140000)) (k : ∀ s, LBx σ s l.toInt → Q s τ vs) : wp_library_1 l ln σ τ vs Q := by
  unfold wp_library_1
  refine ⟨fun c => sp_pop (ht.2 c) (fun v s ks hs => ⟨fun c1 => ⟨fun c2 => ?_, fun c2 => ?_⟩, fun c1 => ?_⟩), fun c => ⟨fun _ => True, fun y _ => sp_push (ht.1 c) (fun s ks hs => ⟨fun c1 => ?_, fun c1 => ?_⟩), fun _ => trivial, fun c1 => ⟨by omega, trivial⟩⟩⟩
  · refine k _ ⟨kp_f (kp_f (kp_sub ks rfl rfl) rfl) rfl, ?_, ?_⟩
    · have a1 : (s 0 91) = (σ 0 91) := ks _ _ rfl rfl
      have a2 : (s 0 89) = (σ 0 89) := ks _ _ rfl rfl
      show (0 ≤ (s 0 91).toInt ∧ (s 0 91).toInt ≤ 4096) ∧ 0 ≤ (s 0 89).toInt
      rw [a1, a2]; exact hn
    · rw [if_neg c]
      show (s 0 81).toInt = _
      omega
  all_goals
    have a1 : (s 0 91) = (σ 0 91) := ks _ _ rfl rfl
    have a2 : (s 0 89) = (σ 0 89) := ks _ _ rfl rfl
  · refine sp_print (fi_kp h (kp_sub ks rfl rfl)) (by rw [a1]; exact hn.1) (fun s2 hs2 => k s2 ⟨kp_tr (kp_sub ks rfl rfl) (kp_sub hs2.1 rfl rfl), ⟨hs2.2.1, ?_⟩, ?_⟩)
    · rw [show (s2 0 89) = (s 0 89) from hs2.1 _ _ rfl rfl, a2]; exact hn.2
    · rw [if_neg c, show (s2 0 81) = (s 0 81) from hs2.1 _ _ rfl rfl]; omega
  · refine sp_emit (fi_kp h (kp_sub ks rfl rfl)) (by rw [a1]; exact hn.1) (fun s2 hs2 => k s2 ⟨kp_tr (kp_sub ks rfl rfl) (kp_sub hs2.1 rfl rfl), ⟨hs2.2.1, ?_⟩, ?_⟩)
    · rw [show (s2 0 89) = (s 0 89) from hs2.1 _ _ rfl rfl, a2]; exact hn.2
    · rw [if_neg c, show (s2 0 81) = (s 0 81) from hs2.1 _ _ rfl rfl]; omega
  · exact k s ⟨kp_sub ks rfl rfl, by rw [a1, a2]; exact hn, by rw [if_pos c]; omega⟩
  · have e1 := ad1 (x := (s 0 89)) (by
      have a3 : (s 0 88) = (σ 0 88) := ks _ _ rfl rfl
      rw [a3] at c1
      omega)
    refine k _ ⟨kp_f (kp_sub ks rfl rfl) rfl, ⟨?_, ?_⟩, ?_⟩
    · show 0 ≤ (s 0 91).toInt ∧ (s 0 91).toInt ≤ 4096
      rw [a1]; exact hn.1
    · show 0 ≤ ((s 0 89) + (1 : Int32)).toInt
      rw [e1, a2]
      have := hn.2
      omega
    · rw [if_pos c]
      show (s 0 81).toInt = _
      omega
end MOP
end

section
/-! the machine: a body is entered -/
def ENx (κ σ S : St) (f D : Nat) (back : Int32) : Prop := Kp [(0, 81), (0, 86), (0, 92)] [46, 48, 49, 50, 51] σ S ∧ (S 0 86).toInt = (D : Int) + 1 ∧ (S 0 92).toInt = (σ 0 92).toInt + 1 ∧ (S 0 81).toInt = (σ 0 81).toInt - ((κ 15) f).toInt ∧ ((S 50) D = (κ 17) f ∧ 24576 ≤ ((S 49) D).toInt ∧ ((S 49) D).toInt + ((κ 30) ((κ 17) f).toNatClampNeg).toInt + 32 * ((D : Int) + 1) ≤ 32768) ∧ (S 51) D = back ∧ ∀ j : Nat, j < D → (S 50) j = (σ 50) j ∧ (S 49) j = (σ 49) j ∧ (S 51) j = (σ 51) j
section ENT
variable {κ σ s τ t : St} {vs z : List Nat} {G : Nat → Nat → Gh} {K : Nat}
theorem sp_enter {f o D : Nat} {bk ob ln : Int32} {Q : St → St → List Nat → Prop} (hP : PRG κ G K) (hL : LNk κ) (hO : (κ 0 35).toInt ≤ 100) (hW : (κ 0 17).toInt ≤ 409600) (a1 : LKo κ o) (a2 : InO κ o f) (a3 : FnD κ f) (kn : KRn κ σ) (hn : MN σ) (hd : (σ 0 86).toInt = (D : Int)) (hD : D = 0 ∨ ∃ f0 o0, FRo κ σ (D - 1) f0 o0) (ht : ((κ 15) f).toInt ≤ (σ 0 81).toInt ∧ (σ 0 81).toInt ≤ 140000)
    (kE : ∀ s, 0 ≤ (s 0 97).toInt → KRn κ s → MN s → Q s τ vs) (k : ∀ S, ENx κ σ S f D bk → KRn κ S → MN S → (S 0 97) = (σ 0 97) → Q S τ vs) : wp_enter ((κ 17) f) bk ob ln σ τ vs Q := by
  obtain ⟨b, b1, b2, b3, b4, ⟨E0, R, nl, d1, d2, d3, d4, d5, d6, d7, d8, d9, d10, d11⟩, b6⟩ := hP f o a1 a2 a3
  have e : ((κ 17) f).toNatClampNeg = b := by rw [nt', b1]; omega
  have lt := lko_lt hL a1
  have e0 : (0 : Int32).toInt = 0 := by decide
  have e32 : (32 : Int32).toInt = 32 := by decide
  have eC : (32768 : Int32).toInt = 32768 := by decide
  have z0 : ∀ {p : Nat}, p = 0 → ((p : Nat) : Int) = 0 := fun h => by omega
  unfold wp_enter
  rw [e]
  obtain ⟨n1, n2, n3⟩ := hn
  have ends : ∀ (how : Int32) (s : St), 0 ≤ how.toInt → KRn κ s → MN s → wp_ends how ob ln s τ vs (fun s t z => Q s t z) := fun how s h0 ks ms => by
    unfold wp_ends
    exact kE _ h0 (kp_f (kp_f (kp_f ks rfl) rfl) rfl) ms
  refine ⟨fun c => ⟨fun y => (24576 ≤ y.toInt ∧ y.toInt + 32 * (D : Int) ≤ 32768), fun y hy => ?_, fun c2 => ?_, fun c2 => ⟨by rw [eC]; decide, by rw [eC]; omega⟩⟩, fun c => ends 4 σ (by decide) kn ⟨n1, n2, n3⟩⟩
  rotate_left 1
  · have ed : ((σ 0 86) - (1 : Int32)).toInt = (σ 0 86).toInt - 1 := sb1 (by omega)
    rcases hD with q | ⟨f0, o0, fr⟩
    · omega
    · have hd0 := fr_d fr hP
      obtain ⟨⟨x1, x2, x3⟩, x4, x5, x6⟩ := fr
      obtain ⟨b', y1, y2, -, -, ⟨E0', R', nl', -, -, -, -, -, -, y7, -⟩, -⟩ := hP f0 o0 x1 x2 x3
      have e' : ((κ 17) f0).toNatClampNeg = b' := by rw [nt', y1]; omega
      rw [e'] at x6
      have en : ((σ 0 86) - (1 : Int32)).toNatClampNeg = D - 1 := by rw [nt', ed]; omega
      rw [en]
      exact ⟨by omega, x5, by omega⟩
  have t1 : ((σ 0 92) + (1 : Int32)).toInt = (σ 0 92).toInt + 1 := ad1 (by omega)
  have f30 : (σ 30) b = (κ 30) b := kn 30 b rfl rfl
  rw [f30]
  have y1 : (y - (32 : Int32)).toInt = y.toInt - 32 := by rw [sb (by omega) (by omega), e32]
  have y2 : ((y - (32 : Int32)) - (κ 30) b).toInt = y.toInt - 32 - ((κ 30) b).toInt := by rw [sb (by omega) (by omega), y1]
  refine ⟨by omega, fun c3 => ?_, fun c3 => ends 3 _ (by decide) (kp_f kn rfl) ⟨n1, n2, ?_⟩⟩
  rotate_left 1
  · show 0 ≤ ((σ 0 92) + (1 : Int32)).toInt ∧ ((σ 0 92) + (1 : Int32)).toInt ≤ (σ 0 93).toInt ∧ (σ 0 93).toInt ≤ 20000
    omega
  have hD255 : D ≤ 255 := by omega
  have nd : (σ 0 86).toNatClampNeg = D := by rw [nt', hd]; rfl
  rw [nd]
  refine ⟨by omega, by omega, by omega, ?_⟩
  have ed1 : ((σ 0 86) + (1 : Int32)).toInt = (D : Int) + 1 := by rw [ad1 (by omega), hd]
  generalize hS : (upC (upC (upC (upC (upC σ 0 92 ((σ 0 92) + (1 : Int32))) 49 D ((y - (32 : Int32)) - (κ 30) b)) 50 D ((κ 17) f)) 51 D bk) 0 86 ((σ 0 86) + (1 : Int32))) = s1
  have k1 : Kp [(0, 86), (0, 92)] [49, 50, 51] σ s1 := by rw [← hS]; exact kp_f (kp_a (kp_a (kp_a (kp_f kp_rf rfl) rfl) rfl) rfl) rfl
  have x86 : (s1 0 86).toInt = (D : Int) + 1 := by rw [← hS]; exact ed1
  have x92 : (s1 0 92).toInt = (σ 0 92).toInt + 1 := by rw [← hS]; exact t1
  have x49 : ∀ j, (s1 49) j = if j = D then ((y - (32 : Int32)) - (κ 30) b) else (σ 49) j := fun j => by
    rw [← hS]; simp only [rdC, Nat.reduceEqDiff, if_true, if_false]
  have x50 : ∀ j, (s1 50) j = if j = D then (κ 17) f else (σ 50) j := fun j => by
    rw [← hS]; simp only [rdC, Nat.reduceEqDiff, if_true, if_false]
  have x51 : ∀ j, (s1 51) j = if j = D then bk else (σ 51) j := fun j => by
    rw [← hS]; simp only [rdC, Nat.reduceEqDiff, if_true, if_false]
  clear hS
  have kn1 : KRn κ s1 := kp_tr kn (kp_sub k1 rfl rfl)
  have fi : FIx κ s1 D o b R nl := ⟨x86, hD255, by rw [x50, if_pos rfl]; exact b1, b2, b4, by omega, d2, d6, by omega, d11, by rw [x49, if_pos rfl, y2]; omega⟩
  have epc : ((s1 54) b) = (κ 15) f := (kn1 54 b rfl rfl).trans b3
  unfold wp_parametersOf
  rw [e, epc]
  have hpc : 0 ≤ ((κ 15) f).toInt ∧ ((κ 15) f).toInt ≤ nl := by rw [← b3]; exact d8
  refine ⟨by omega, ?_⟩
  refine ⟨fun n x s t z => n = ((nl : Int) - x.toInt).toNat ∧ 0 ≤ x.toInt ∧ Kp [] [48] s1 s ∧ t = τ ∧ z = vs, ⟨_, rfl, by omega, kp_rf, rfl, rfl⟩, ?_⟩
  rintro n x s t z ⟨q1, q2, ks, rfl, rfl⟩
  have fis := fi_kp fi (kp_sub ks rfl rfl)
  have kns : KRn κ s := kp_tr kn1 (kp_sub ks rfl rfl)
  rw [show s 28 b = (κ 28) b from kns 28 b rfl rfl]
  refine ⟨by omega, fun _ => ?_, fun c4 => ?_⟩
  rotate_left 1
  · obtain ⟨i1, i2⟩ := fi_ix fis
    have m := mul100 (x := (s 0 86) - (1 : Int32)) (by omega) (by omega)
    have ex := ad1 (x := x) (by omega)
    refine ⟨?_, _, by omega, rfl, by omega, kp_a ks rfl, rfl, rfl⟩
    rw [ad (by omega) (by omega), m]
    omega
  -- the parameters
  have e81 : (s 0 81) = (σ 0 81) := (ks 0 81 rfl rfl).trans (k1 0 81 rfl rfl)
  have st : ((s 0 81) - (κ 15) f).toInt = (σ 0 81).toInt - ((κ 15) f).toInt := by rw [e81]; exact sb (by omega) (by omega)
  generalize hS2 : (upC s 0 81 (s 0 81 - (κ 15) f)) = s2
  have k2 : Kp [(0, 81)] [48] s1 s2 := by rw [← hS2]; exact kp_f (kp_sub ks rfl rfl) rfl
  have x81 : (s2 0 81).toInt = (σ 0 81).toInt - ((κ 15) f).toInt := by rw [← hS2]; exact st
  clear hS2 st e81 kns fis ks q1 q2
  refine ⟨fun n x s t' z' => n = (((κ 15) f).toInt - x.toInt).toNat ∧ 0 ≤ x.toInt ∧ Kp [] [48, 46] s2 s ∧ t' = t ∧ z' = z, ⟨_, rfl, by omega, kp_rf, rfl, rfl⟩, ?_⟩
  rintro n x s t z ⟨q1, q2, ks, rfl, rfl⟩
  have kA : Kp [(0, 81)] [48, 46] s1 s := kp_tr (kp_sub k2 rfl rfl) (kp_sub ks rfl rfl)
  have fis := fi_kp fi (kp_sub kA rfl rfl)
  have kns : KRn κ s := kp_tr kn1 (kp_sub kA rfl rfl)
  have e81 : (s 0 81).toInt = (σ 0 81).toInt - ((κ 15) f).toInt := by rw [show (s 0 81) = (s2 0 81) from ks _ _ rfl rfl]; exact x81
  refine ⟨fun _ => ?_, fun c4 => ?_⟩
  · have kB : Kp [(0, 81), (0, 86), (0, 92)] [46, 48, 49, 50, 51] σ s := kp_tr (kp_sub k1 rfl rfl) (kp_sub kA rfl rfl)
    have w1 : (s 0 91) = (σ 0 91) := kB _ _ rfl rfl
    have w2 : (s 0 89) = (σ 0 89) := kB _ _ rfl rfl
    have w3 : (s 0 93) = (σ 0 93) := kB _ _ rfl rfl
    have w4 : (s 0 92) = (s1 0 92) := kA _ _ rfl rfl
    refine k s ⟨kB, by rw [show (s 0 86) = (s1 0 86) from kA _ _ rfl rfl]; exact x86, by rw [w4]; exact x92, e81, ⟨?_, ?_, ?_⟩, ?_, fun j hj => ⟨?_, ?_, ?_⟩⟩ kns ⟨by rw [w1]; exact n1, by rw [w2]; exact n2, by rw [w4, w3, x92]; omega⟩ (kB _ _ rfl rfl)
    · rw [kA 50 D rfl rfl, x50, if_pos rfl]
    · rw [kA 49 D rfl rfl, x49, if_pos rfl]; exact c3
    · rw [kA 49 D rfl rfl, x49, if_pos rfl, e, y2]; omega
    · rw [kA 51 D rfl rfl, x51, if_pos rfl]
    · rw [kA 50 j rfl rfl, x50, if_neg (by omega)]
    · rw [kA 49 j rfl rfl, x49, if_neg (by omega)]
    · rw [kA 51 j rfl rfl, x51, if_neg (by omega)]
  · have ex := ad1 (x := x) (by omega)
    have ax : ((s 0 81) + x).toInt = (s 0 81).toInt + x.toInt := ad (by omega) (by omega)
    exact ⟨by omega, sp_setLocal fis kns ⟨q2, by omega⟩ (fun s9 k9 => ⟨_, by omega, rfl, by omega, kp_tr ks (kp_sub k9 rfl rfl), rfl, rfl⟩)⟩
end ENT
end

section
/-! the machine: a step -/
def PG (κ : St) (G : Nat → Nat → Gh) (K : Nat) : Prop := PRG κ G K ∧ LNk κ ∧ (κ 0 35).toInt ≤ 100 ∧ (κ 0 17).toInt ≤ 409600 ∧ (κ 0 88).toInt ≤ 4096 ∧ (∀ o : Nat, (o : Int) < (κ 0 35).toInt → 0 ≤ fO κ o ∧ fO κ o ≤ 9900) ∧ AllIn 0 8 (κ 15)
def RES (κ : St) (G : Nat → Nat → Gh) (K : Nat) (m : Nat) (v : Int32) (s : St) : Prop := ∃ m', m' < m ∧ MI κ G K v s m'
section STP
variable {κ σ s τ t : St} {vs z : List Nat} {G : Nat → Nat → Gh} {K : Nat} {d B f o pc h k : Nat}
theorem mn_kp (kk : Kp [(0, 81), (0, 86), (0, 94), (0, 95), (0, 96), (0, 97)] [46, 47, 48] σ s) (hn : MN σ) : MN s := by
  have w1 : (s 0 91) = (σ 0 91) := kk _ _ rfl rfl
  have w2 : (s 0 89) = (σ 0 89) := kk _ _ rfl rfl
  have w3 : (s 0 93) = (σ 0 93) := kk _ _ rfl rfl
  have w4 : (s 0 92) = (σ 0 92) := kk _ _ rfl rfl
  unfold MN
  rw [w1, w2, w3, w4]
  exact hn
theorem mi_go1 {h' : Nat} {v : Int32} (c : CTX κ G K σ d B f o pc h k) (hp : pc < 1048576) (ks : Kp [(0, 81)] [46, 47, 48] σ s) (ht : (s 0 81).toInt = (σ 0 81).toInt + (h' : Int) - h) {q : Nat} (hv : v.toInt = (q : Int)) (nx : Nx (G f o) k pc q h') : RES κ G K (MS σ K d k pc) v s := by
  have hn := mn_kp (s := s) (kp_sub ks rfl rfl) c.2.1
  have ht9 := c.2.2.2.2.2.2
  exact mi_go c hp (kp_sub ks rfl rfl) ⟨hn.1, hn.2.1⟩ (by omega) hv nx
theorem mi_end1 {v : Int32} (c : CTX κ G K σ d B f o pc h k) (hp : pc < 1048576) (ks : Kp [(0, 81), (0, 86), (0, 94), (0, 95), (0, 96), (0, 97)] [46, 47, 48] σ s) (ho : 0 ≤ (s 0 97).toInt) : RES κ G K (MS σ K d k pc) v s :=
  mi_end (ms_pos hp) (kp_tr c.1 (kp_sub ks rfl rfl)) (mn_kp ks c.2.1) ho
theorem sp_isCell {a : Int32} {Q : Int32 → Prop} (h : ∀ r : Int32, (r.toInt ≠ 0 → 0 ≤ a.toInt ∧ a.toInt < 32768) → Q r) : wp_isCell a σ τ vs Q := by
  unfold wp_isCell
  exact ⟨fun _ => h _ (fun c => absurd rfl c), fun c => ⟨fun _ => h _ (fun c => absurd rfl c), fun c2 => h _ (fun _ => ⟨by omega, by omega⟩)⟩⟩
/-- a turn -/
theorem mi_turn {v : Int32} {k' : Nat} (hP : PRG κ G K) (c : CTX κ G K σ d B f o pc h k) (hp : pc < 1048576) (hne : (σ 0 92).toInt ≠ (σ 0 93).toInt) (hv : v.toInt = ((pc + 2 : Nat) : Int)) (hg : G f o (pc + 2) = some (h, k')) : RES κ G K (MS σ K d k pc) v (upC σ 0 92 ((σ 0 92) + (1 : Int32))) := by
  obtain ⟨c1, ⟨n1, n2, n3⟩, c3, c4, c5, c6, c7⟩ := c
  have t1 : ((σ 0 92) + (1 : Int32)).toInt = (σ 0 92).toInt + 1 := ad1 (by omega)
  have kk : KRn κ (upC σ 0 92 ((σ 0 92) + (1 : Int32))) := kp_f c1 rfl
  have mn : MN (upC σ 0 92 ((σ 0 92) + (1 : Int32))) := by
    refine ⟨n1, n2, ?_⟩
    show 0 ≤ ((σ 0 92) + (1 : Int32)).toInt ∧ ((σ 0 92) + (1 : Int32)).toInt ≤ (σ 0 93).toInt ∧ (σ 0 93).toInt ≤ 20000
    omega
  have ev : v.toNatClampNeg = pc + 2 := by rw [nt', hv]; rfl
  obtain ⟨a1, a2, a3⟩ := (chf_fr c4).1
  obtain ⟨-, -, -, -, -, -, hk⟩ := hP f o a1 a2 a3
  refine ⟨MS (upC σ 0 92 ((σ 0 92) + (1 : Int32))) K d k' (pc + 2), ?_, kk, mn, fun _ => ⟨by omega, d, B, f, o, h, k', ⟨kk, mn, c3, chf_eq (σ := σ) (fun j _ => ⟨rfl, rfl, rfl⟩) c4, c5, by rw [ev]; exact hg, c7⟩, by rw [ev]⟩⟩
  unfold MS
  refine ms_lt ?_ (hk _ _ _ hg)
  show ((σ 0 93).toInt - ((σ 0 92) + (1 : Int32)).toInt).toNat * 300 + d < ((σ 0 93).toInt - (σ 0 92).toInt).toNat * 300 + d
  omega
/-- a body is left -/
theorem sp_leave {a : Int32} {Q : Int32 → St → St → List Nat → Prop} (hP : PRG κ G K) (c : CTX κ G K σ d B f o pc h k) (hp : pc < 1048576) {b R nl : Nat} (fi : FIx κ σ d o b R nl) (hB : B ≤ 546 * d) (ha : (a.toInt = 0 → h = 0 ∧ rsF κ f = 0) ∧ (a.toInt ≠ 0 → h = 1 ∧ rsF κ f = 1)) (kQ : ∀ v s, RES κ G K (MS σ K d k pc) v s → Q v s τ vs) : wp_leave a σ τ vs Q := by
  have hd := fi.2.1
  have c9 := c
  obtain ⟨c1, c2, c3, c4, c5, c6, c7⟩ := c9
  have e0 : (0 : Int32).toInt = 0 := by decide
  -- where it goes on
  have back : ∀ (y : Int32) s, Kp [(0, 81)] [47] σ s → (s 0 81).toInt = (B : Int) → 0 < d → ((upC s 0 86 ((s 0 86) - (1 : Int32))) = (upC s 0 86 ((s 0 86) - (1 : Int32)))) ∧ ∀ (S : St), Kp [(0, 81), (0, 86)] [47] σ S → (S 0 86).toInt = (d : Int) → (S 0 81).toInt = ((B + rsF κ f : Nat) : Int) → RES κ G K (MS σ K d k pc) ((S 51) d) S := fun y s ks ht d0 => ⟨rfl, fun S kS hdS htS => by
    cases d with
    | zero => omega
    | succ i =>
      obtain ⟨fr, B0, f0, o0, h0, k0, pc0, x1, x2, x3, x4, x5⟩ := c4
      have x2' : ((S 51) (i + 1)).toInt = (pc0 : Int) := by rw [kS 51 _ rfl rfl]; exact x2
      have ev : ((S 51) (i + 1)).toNatClampNeg = pc0 := by rw [nt', x2']; rfl
      have kk : KRn κ S := kp_tr c1 (kp_sub kS rfl rfl)
      have mn : MN S := mn_kp (kp_sub kS rfl rfl) c2
      have e92 : (S 0 92) = (σ 0 92) := kS _ _ rfl rfl
      have e93 : (S 0 93) = (σ 0 93) := kS _ _ rfl rfl
      obtain ⟨a1, a2, a3⟩ := (chf_fr x1).1
      obtain ⟨-, -, -, -, -, -, hk⟩ := hP f0 o0 a1 a2 a3
      refine ⟨MS S K i k0 pc0, ?_, kk, mn, fun _ => ⟨by omega, i, B0, f0, o0, h0, k0, ⟨kk, mn, by rw [hdS]; omega, chf_eq (fun j _ => ⟨kS 50 j rfl rfl, kS 49 j rfl rfl, kS 51 j rfl rfl⟩) x1, x3, by rw [ev]; exact x4, by rw [htS, x5]⟩, by rw [ev]⟩⟩
      unfold MS
      rw [e92, e93]
      exact ms_lt (by omega) (hk _ _ _ x4)⟩
  unfold wp_leave
  refine ⟨fun y s t z => t = τ ∧ z = vs ∧ Kp [(0, 81)] [] σ s ∧ (s 0 81).toInt = (B : Int), ?_, fun q => ⟨rfl, rfl, kp_rf, by have := (ha.1 q).1; rw [c7]; omega⟩, fun q => ?_⟩
  · rintro y s _ _ ⟨rfl, rfl, ks, ht⟩
    have e86 : (s 0 86) = (σ 0 86) := ks _ _ rfl rfl
    have ed : ((s 0 86) - (1 : Int32)).toInt = d := by rw [e86, sb1 (by omega), c3]; omega
    have en : ((s 0 86) - (1 : Int32)).toNatClampNeg = d := by rw [nt', ed]; rfl
    refine ⟨fun q => ⟨fun q2 => ⟨by omega, ?_⟩, fun q2 => ?_⟩, fun q => kQ _ _ (mi_end1 c hp (kp_f (kp_f (kp_f (kp_sub ks rfl rfl) rfl) rfl) rfl) (by show 0 ≤ (0 : Int32).toInt; decide))⟩
    · rw [en]
      refine kQ _ _ ((back y s (kp_sub ks rfl rfl) ht (by omega)).2 (upC s 0 86 ((s 0 86) - (1 : Int32))) (kp_f (kp_sub ks rfl rfl) rfl) ed ?_)
      rw [(ha.1 q2).2]
      exact ht
    · refine sp_push (σ := upC s 0 86 ((s 0 86) - (1 : Int32))) (by show 0 ≤ (s 0 81).toInt ∧ (s 0 81).toInt < 140000; omega) (fun S kS hS => ?_)
      have kA : Kp [(0, 81), (0, 86)] [47] σ S := kp_tr (kp_f (kp_sub ks rfl rfl) rfl) (kp_sub kS rfl rfl)
      have hdS : (S 0 86).toInt = (d : Int) := by rw [show (S 0 86) = ((s 0 86) - (1 : Int32)) from kS _ _ rfl rfl]; exact ed
      have hS' : (S 0 81).toInt = (s 0 81).toInt + 1 := hS
      have enS : (S 0 86).toNatClampNeg = d := by rw [nt', hdS]; rfl
      rw [enS]
      refine ⟨by omega, kQ _ _ ((back y s (kp_sub ks rfl rfl) ht (by omega)).2 S kA hdS ?_)⟩
      rw [(ha.2 q2).2]
      omega
  · have h1 := (ha.2 q).1
    refine sp_pop (by omega) (fun r s ks hs => ⟨rfl, rfl, ks, by omega⟩)
theorem neg1s {x : Int32} (h0 : -100 ≤ x.toInt) (h1 : x.toInt < 0) : ((-1 : Int32) - x).toInt = -1 - x.toInt := by
  have e : ((-1 : Int32)).toInt = -1 := by decide
  generalize (-1 : Int32) = a at e ⊢
  rw [sb (by omega) (by omega), e]
/-- a call -/
theorem sp_mcall {pw a ln : Int32} {Q : Int32 → St → St → List Nat → Prop} (hG : PG κ G K) (c : CTX κ G K σ d B f o pc h k) (hoc : (σ 0 97).toInt < 0) (hpw : pw.toInt = (pc : Int)) (hp : pc < 1048000) {b R nl : Nat} (fi : FIx κ σ d o b R nl) (hB : B ≤ 546 * d) {h' : Nat} (hC : CAL κ o a.toInt h h') (nx : Nx (G f o) k pc (pc + 3) h') (kQ : ∀ v s, RES κ G K (MS σ K d k pc) v s → Q v s τ vs) : wp_call_1 pw a ln σ τ vs Q := by
  obtain ⟨hP, hL, hO, hW, hI, hFo, hPc⟩ := hG
  have c9 := c
  obtain ⟨c1, c2, c3, c4, c5, c6, c7⟩ := c9
  obtain ⟨i1, i2⟩ := fi_ix fi
  have fi9 := fi
  obtain ⟨f1, f2, f3, f4, f5, f6, f7, f8, f9, f10, f11⟩ := fi9
  obtain ⟨⟨n0, n1⟩, e, e1, e2, ⟨am1, am2⟩, hh1, hh2⟩ := hC
  have e3 : (3 : Int32).toInt = 3 := by decide
  have lo := lko_lt hL (chf_fr c4).1.1
  have fo := hFo o lo
  have pw3 : (pw + (3 : Int32)).toInt = ((pc + 3 : Nat) : Int) := by rw [adc e3 (by omega) (by omega), hpw]; rfl
  have er : ((σ 50) d).toNatClampNeg = b := by rw [nt', f3]; rfl
  have a27 : (σ 27) = (κ 27) := funext (fun j => c1 27 j rfl rfl)
  have a22 : (σ 22) = (κ 22) := funext (fun j => c1 22 j rfl rfl)
  have a43 : (σ 43) = (κ 43) := funext (fun j => c1 43 j rfl rfl)
  have a26 : (σ 26) = (κ 26) := funext (fun j => c1 26 j rfl rfl)
  have eo : ((κ 27) b).toNatClampNeg = o := by rw [nt', f5]; rfl
  have ef : ((κ 22) o).toInt = fO κ o := rfl
  have ix : ((κ 22) o + a).toInt = (e : Int) := by rw [ad (by rw [ef]; omega) (by rw [ef]; omega), ef, e1]
  have en : ((κ 22) o + a).toNatClampNeg = e := by rw [nt', ix]; rfl
  unfold wp_call_1
  rw [i2, er, a27, eo, a22, en, a43]
  refine ⟨by omega, by omega, by omega, by omega, fun q => ?_, fun q => ?_⟩
  · obtain ⟨o', f', x1, x2, x3, x4, x5, x6⟩ := am1 q
    obtain ⟨b', y1, y2, y3, y4, ⟨E0, R', nl', d1, d2, d3, d4, d5, d6, d7, d8, ⟨k0, d9⟩, d10, d11⟩, y6⟩ := hP f' o' x1 x2 x3
    have eb : ((κ 17) f').toNatClampNeg = b' := by rw [nt', y1]; rfl
    rw [x4]
    refine sp_enter (D := d + 1) hP hL hO hW x1 x2 x3 c1 c2 (by rw [c3]; rfl) (Or.inr ⟨f, o, chf_fr c4⟩) (by rw [x5, c7]; omega) (fun s h0 ks ms => ⟨fun _ => kQ _ _ (mi_end (ms_pos (by omega)) ks ms h0), fun q9 => by omega⟩) (fun S en kS mS oS => ⟨fun q9 => by rw [oS] at q9; omega, fun _ => ?_⟩)
    have a26S : (S 26) = (κ 26) := funext (fun j => kS 26 j rfl rfl)
    rw [eb, a26S]
    refine ⟨by omega, kQ _ _ ?_⟩
    obtain ⟨z1, z2, z3, z4, ⟨z5, z6, z7⟩, z8, z9⟩ := en
    obtain ⟨nx1, k', nx2, nx3⟩ := nx
    have eE : ((κ 26) b').toNatClampNeg = E0 := by rw [nt', d1]; rfl
    have e93 : (S 0 93) = (σ 0 93) := z1 _ _ rfl rfl
    have mt := c2.2.2
    have mtS := mS.2.2
    rw [e93] at mtS
    have pc8 := hPc e
    have rsq : rsF κ f' = (if ((κ 10) e).toInt = -1 then 0 else 1) := by unfold rsF; rw [x6]
    have rsi : ((rsF κ f' : Nat) : Int) = (if ((κ 10) e).toInt = -1 then 0 else 1) := by
      rw [rsq]; split <;> rfl
    rw [← rsi] at hh2
    rw [x5] at z4
    refine ⟨MS S K (d + 1) k0 E0, ?_, kS, mS, fun _ => ⟨by omega, d + 1, B + h - ((κ 15) e).toNatClampNeg, f', o', 0, k0, ⟨kS, mS, by rw [z2], ⟨⟨⟨x1, x2, x3⟩, z5, z6, z7⟩, B, f, o, h', k', pc + 3, chf_eq (fun j hj => z9 j (by omega)) c4, by rw [z8]; exact pw3, nx1, nx2, ?_⟩, by omega, by rw [eE]; exact d9, ?_⟩, by rw [eE]⟩⟩
    · unfold MS
      rw [e93]
      refine ms_lt ?_ (y6 _ _ _ d9)
      omega
    · have := nt pc8.1
      omega
    · have := nt pc8.1
      omega
  · obtain ⟨g1, g2, g3⟩ := am2 q
    have el := neg1s (x := (κ 43) e) (by omega) q
    generalize ((-1 : Int32) - (κ 43) e) = l at el ⊢
    refine sp_library1 fi ⟨c2.1, c2.2.1⟩ (by rw [show (σ 0 88) = (κ 0 88) from c1 _ _ rfl rfl]; exact hI) ⟨fun _ => by omega, fun q2 => ?_⟩ (fun s hs => kQ _ _ ?_)
    · have := (g3 (by omega)).1
      omega
    · obtain ⟨s1, s2, s3⟩ := hs
      have ht : (s 0 81).toInt = ((B + h' : Nat) : Int) := by
        have s3 : (s 0 81).toInt = (σ 0 81).toInt + (if l.toInt = 0 then 1 else -1) := s3
        rw [el] at s3
        by_cases q2 : ((κ 43) e).toInt = -1
        · obtain ⟨u1, u2⟩ := g2 q2
          rw [if_pos (by omega)] at s3
          rw [if_neg (by omega)] at hh2
          omega
        · obtain ⟨u1, u2⟩ := g3 q2
          rw [if_neg (by omega)] at s3
          rw [if_pos u2] at hh2
          omega
      exact mi_go c (by omega) (kp_sub s1 rfl rfl) s2 ht pw3 nx
end STP
end

section
/-! the machine: a step, all words -/
section STQ
variable {κ σ s τ t : St} {vs z : List Nat} {G : Nat → Nat → Gh} {K : Nat} {d B f o pc h k : Nat}
/-- what a step needs -/
def SPx (κ : St) (G : Nat → Nat → Gh) (K : Nat) (σ : St) (d B f o pc h k b R nl : Nat) (pw : Int32) : Prop := PG κ G K ∧ CTX κ G K σ d B f o pc h k ∧ (σ 0 97).toInt < 0 ∧ pw.toInt = (pc : Int) ∧ pc < 420000 ∧ FIx κ σ d o b R nl ∧ B ≤ 546 * d ∧ 0 ≤ ((κ 8) pc).toInt ∧ OPn ((κ 8) pc).toInt.toNat ((κ 8) (pc + 1)).toInt (G f o) nl (((κ 10) f).toInt = -1) (CAL κ o) pc h k
theorem sp_stepMore {pw : Int32} {Q : Int32 → St → St → List Nat → Prop} {b R nl : Nat} (H : SPx κ G K σ d B f o pc h k b R nl pw) (hn : ((κ 8) pc).toInt = 5 ∨ ((κ 8) pc).toInt = 6 ∨ ((κ 8) pc).toInt = 11 ∨ ((κ 8) pc).toInt = 19 ∨ ((κ 8) pc).toInt = 20 ∨ ((κ 8) pc).toInt = 21 ∨ ((κ 8) pc).toInt = 22 ∨ ((κ 8) pc).toInt = 23) (kQ : ∀ v s, RES κ G K (MS σ K d k pc) v s → Q v s τ vs) : wp_stepMore pw ((κ 8) (pc + 1)) σ τ vs Q := by
  obtain ⟨hG, c, hoc, hpw, hp, fi, hB, hw0, hop⟩ := H
  have c9 := c
  obtain ⟨c1, c2, c3, c4, c5, c6, c7⟩ := c9
  have hd := fi.2.1
  have a8 : (σ 8) = (κ 8) := funext (fun j => c1 8 j rfl rfl)
  have e2 : (2 : Int32).toInt = 2 := by decide
  have e3 : (3 : Int32).toInt = 3 := by decide
  have e4 : (4 : Int32).toInt = 4 := by decide
  have np : pw.toNatClampNeg = pc := by rw [nt', hpw]; rfl
  have p2 : (pw + (2 : Int32)).toInt = ((pc + 2 : Nat) : Int) := by rw [adc e2 (by omega) (by omega), hpw]; rfl
  have p3 : (pw + (3 : Int32)).toInt = ((pc + 3 : Nat) : Int) := by rw [adc e3 (by omega) (by omega), hpw]; rfl
  have p4 : (pw + (4 : Int32)).toInt = ((pc + 4 : Nat) : Int) := by rw [adc e4 (by omega) (by omega), hpw]; rfl
  have n2 : (pw + (2 : Int32)).toNatClampNeg = pc + 2 := by rw [nt', p2]; rfl
  have n3 : (pw + (3 : Int32)).toNatClampNeg = pc + 3 := by rw [nt', p3]; rfl
  have op : ∀ n : Nat, ((κ 8) pc).toInt = (n : Int) → OPn n ((κ 8) (pc + 1)).toInt (G f o) nl (((κ 10) f).toInt = -1) (CAL κ o) pc h k := fun n q => by
    rw [q] at hop; exact hop
  have hp9 : pc < 1048576 := by omega
  unfold wp_stepMore
  rw [np, a8, n2, n3]
  refine ⟨by omega, ((κ 8) pc).toInt = 20 ∨ ((κ 8) pc).toInt = 21, fun q => ⟨by omega, fun y => (y.toInt = 0 ↔ ((κ 8) pc).toInt = 20), fun y hy hJ => ?_, fun q2 => ⟨fun _ => by omega, fun _ => rfl⟩, fun q2 => ⟨fun q3 => absurd q3 (by decide), fun q3 => by omega⟩⟩, fun q => ?_, fun q5 => ⟨fun q => ?_, fun q6 => ⟨fun q => by omega, fun q7 => ⟨fun q => by omega, fun q8 => ⟨fun q => by omega, fun q9 => ⟨fun q => by omega, fun q10 => ⟨fun q => ?_, fun q11 => ⟨fun q => by omega, fun q12 => ⟨fun q => by omega, fun q13 => ⟨fun q => by omega, fun q14 => ⟨fun q => by omega, fun q15 => ⟨fun q => by omega, fun q16 => ⟨fun q => by omega, fun q17 => ⟨fun q => by omega, fun q18 => ⟨fun q => ?_, fun q19 => ⟨fun q => Or.inl q, fun q20 => ⟨fun q => Or.inr q, fun q21 => ⟨fun q => ?_, fun q22 => ⟨fun q => ?_, fun q23 => by omega⟩⟩⟩⟩⟩⟩⟩⟩⟩⟩⟩⟩⟩⟩⟩⟩⟩⟩⟩
  · -- leave
    refine sp_leave hG.1 c hp9 fi hB ⟨fun y0 => ?_, fun y0 => ?_⟩ kQ
    · obtain ⟨x1, x2⟩ := op 20 (hJ.mp y0)
      exact ⟨x1, by unfold rsF; rw [if_pos x2]⟩
    · have q2 : ((κ 8) pc).toInt = 21 := by
        rcases q with q | q
        · exact absurd (hJ.mpr q) y0
        · exact q
      obtain ⟨x1, x2⟩ := op 21 q2
      exact ⟨x1, by unfold rsF; rw [if_neg x2]⟩
  · -- READ
    obtain ⟨x1, x2⟩ := op 5 q
    refine sp_pop (by omega) (fun v s ks hs => sp_isCell (fun r hr => ⟨fun _ => ?_, fun r1 => ⟨hr r1, ?_⟩⟩))
    · refine sp_trapped (fi_kp fi (kp_sub ks rfl rfl)) (fun s2 k2 o2 => kQ _ _ (mi_end1 c hp9 (kp_tr (kp_sub ks rfl rfl) (kp_sub k2 rfl rfl)) (by rw [o2]; decide)))
    · exact sp_push (by omega) (fun s2 k2 t2 => kQ _ _ (mi_go1 c hp9 (kp_tr (kp_sub ks rfl rfl) (kp_sub k2 rfl rfl)) (by omega) p2 x2))
  · -- WRITE
    obtain ⟨x1, x2⟩ := op 6 q
    refine sp_pop (by omega) (fun v s ks hs => sp_pop (by omega) (fun v2 s2 k2 hs2 => sp_isCell (fun r hr => ?_)))
    have kA : Kp [(0, 81)] [] σ s2 := kp_tr ks k2
    refine ⟨fun s3 t3 z3 => t3 = τ ∧ z3 = vs ∧ (s3 0 81) = (s2 0 81) ∧ (Kp [(0, 81)] [46, 47, 48] σ s3 ∨ (Kp [(0, 81), (0, 86), (0, 94), (0, 95), (0, 96), (0, 97)] [46, 47, 48] σ s3 ∧ 0 ≤ (s3 0 97).toInt)), ?_, fun r0 => ?_, fun r0 => ⟨hr r0, rfl, rfl, rfl, Or.inl (kp_a (kp_sub kA rfl rfl) rfl)⟩⟩
    · rintro s3 _ _ ⟨rfl, rfl, x3, x4⟩
      refine sp_push (by rw [x3]; omega) (fun s4 k4 t4 => kQ _ _ ?_)
      rw [x3] at t4
      rcases x4 with x4 | ⟨x4, x5⟩
      · exact mi_go1 c hp9 (kp_tr x4 (kp_sub k4 rfl rfl)) (by omega) p2 x2
      · exact mi_end1 c hp9 (kp_tr x4 (kp_sub k4 rfl rfl)) (by rw [show (s4 0 97) = (s3 0 97) from k4 _ _ rfl rfl]; exact x5)
    · exact sp_trapped (fi_kp fi (kp_sub kA rfl rfl)) (fun s3 k3 o3 => ⟨rfl, rfl, k3 _ _ rfl rfl, Or.inr ⟨kp_tr (kp_sub kA rfl rfl) (kp_sub k3 rfl rfl), by rw [o3]; decide⟩⟩)
  · -- WORK
    obtain ⟨x1, x2⟩ := op 11 q
    refine sp_pop (by omega) (fun v s ks hs => sp_pop (by omega) (fun v2 s2 k2 hs2 => ?_))
    have kA : Kp [(0, 81)] [] σ s2 := kp_tr ks k2
    refine ⟨((κ 8) (pc + 1)).toInt = 39 ∨ ((κ 8) (pc + 1)).toInt = 40 → v.toInt ≠ 0, fun hz => sp_work hz (fun r => sp_push (by omega) (fun s3 k3 t3 => kQ _ _ (mi_go1 c hp9 (kp_tr (kp_sub kA rfl rfl) (kp_sub k3 rfl rfl)) (by omega) p3 x2))), True, fun _ => ⟨fun r _ => r, fun _ => ⟨by omega, ?_⟩⟩, fun _ => trivial, fun r => ⟨fun r2 r3 => by omega, fun _ => trivial⟩⟩
    exact sp_trapped (fi_kp fi (kp_sub kA rfl rfl)) (fun s3 k3 o3 => kQ _ _ (mi_end1 c hp9 (kp_tr (kp_sub kA rfl rfl) (kp_sub k3 rfl rfl)) (by rw [o3]; decide)))
  · -- CALL
    obtain ⟨h', x1, x2⟩ := op 19 q
    exact ⟨by omega, sp_mcall hG c hoc hpw (by omega) fi hB x1 x2 kQ⟩
  · -- STEP
    obtain ⟨x1, x2⟩ := op 22 q
    refine sp_pop (by omega) (fun v s ks hs => sp_isCell (fun r hr => ⟨fun r1 => ⟨hr r1, by omega, hr r1, by omega, fun _ => True, fun y _ => ?_, fun _ => ⟨hr r1, by omega, trivial⟩, fun _ => ⟨hr r1, trivial⟩⟩, fun _ => ?_⟩))
    · exact sp_push (by show 0 ≤ (s 0 81).toInt ∧ (s 0 81).toInt < 140000; omega) (fun s2 k2 t2 => kQ _ _ (mi_go1 c hp9 (kp_tr (kp_a (kp_sub ks rfl rfl) rfl) (kp_sub k2 rfl rfl)) (by
        have t2' : (s2 0 81).toInt = (s 0 81).toInt + 1 := t2
        omega) p4 x2))
    · exact sp_trapped (fi_kp fi (kp_sub ks rfl rfl)) (fun s2 k2 o2 => kQ _ _ (mi_end1 c hp9 (kp_tr (kp_sub ks rfl rfl) (kp_sub k2 rfl rfl)) (by rw [o2]; decide)))
  · -- STEP_LOCAL
    obtain ⟨⟨x0, x1⟩, x2⟩ := op 23 q
    refine sp_getLocal fi c1 ⟨x0, x1⟩ (fun v => ⟨by omega, sp_setLocal fi c1 ⟨x0, x1⟩ (fun s ks => ⟨by omega, fun _ => True, fun y _ => ?_, fun _ => ⟨by omega, trivial⟩, fun _ => trivial⟩)⟩)
    have et : (s 0 81) = (σ 0 81) := ks _ _ rfl rfl
    exact sp_push (by rw [et]; omega) (fun s2 k2 t2 => kQ _ _ (mi_go1 c hp9 (kp_tr (kp_sub ks rfl rfl) (kp_sub k2 rfl rfl)) (by rw [t2, et]; omega) p4 x2))
theorem sp_step {pw : Int32} {Q : Int32 → St → St → List Nat → Prop} (hG : PG κ G K) (c : CTX κ G K σ d B f o pc h k) (hoc : (σ 0 97).toInt < 0) (hpw : pw.toInt = (pc : Int)) (kQ : ∀ v s, RES κ G K (MS σ K d k pc) v s → Q v s τ vs) : wp_step pw σ τ vs Q := by
  obtain ⟨b, R, nl, fi, hR, ⟨hw0, hop⟩, hkK, hB⟩ := ctx_op hG.1 hG.2.1 hG.2.2.1 hG.2.2.2.1 c
  have hp : pc < 420000 := by have := fi.2.2.2.2.2.2.2.2.1; omega
  have c9 := c
  obtain ⟨c1, c2, c3, c4, c5, c6, c7⟩ := c9
  have SP : SPx κ G K σ d B f o pc h k b R nl pw := ⟨hG, c, hoc, hpw, hp, fi, hB, hw0, hop⟩
  obtain ⟨i1, i2⟩ := fi_ix fi
  have fi9 := fi
  obtain ⟨f1, f2, f3, f4, f5, f6, f7, f8, f9, f10, f11⟩ := fi9
  have a8 : (σ 8) = (κ 8) := funext (fun j => c1 8 j rfl rfl)
  have a27 : (σ 27) = (κ 27) := funext (fun j => c1 27 j rfl rfl)
  have a22 : (σ 22) = (κ 22) := funext (fun j => c1 22 j rfl rfl)
  have e2 : (2 : Int32).toInt = 2 := by decide
  have np : pw.toNatClampNeg = pc := by rw [nt', hpw]; rfl
  have p1 : (pw + (1 : Int32)).toInt = ((pc + 1 : Nat) : Int) := by rw [ad1 (by omega), hpw]; rfl
  have p2 : (pw + (2 : Int32)).toInt = ((pc + 2 : Nat) : Int) := by rw [adc e2 (by omega) (by omega), hpw]; rfl
  have n1 : (pw + (1 : Int32)).toNatClampNeg = pc + 1 := by rw [nt', p1]; rfl
  have er : ((σ 50) d).toNatClampNeg = b := by rw [nt', f3]; rfl
  have eo : ((κ 27) b).toNatClampNeg = o := by rw [nt', f5]; rfl
  have ef : ((κ 22) o).toInt = fO κ o := rfl
  have fo := hG.2.2.2.2.2.1 o (lko_lt hG.2.1 (chf_fr c4).1.1)
  have op : ∀ n : Nat, ((κ 8) pc).toInt = (n : Int) → OPn n ((κ 8) (pc + 1)).toInt (G f o) nl (((κ 10) f).toInt = -1) (CAL κ o) pc h k := fun n q => by
    rw [q] at hop; exact hop
  have hp9 : pc < 1048576 := by omega
  have pushed : ∀ (a v : Int32) (h' q : Nat), h' = h + 1 → v.toInt = (q : Int) → Nx (G f o) k pc q h' → wp_push a σ τ vs (fun s t z => Q v s t z) := fun a v h' q e1 hv nx => sp_push (by omega) (fun s ks hs => kQ _ _ (mi_go1 c hp9 (kp_sub ks rfl rfl) (by omega) hv nx))
  have one : ∀ (a : Int32) (s : St), Kp [(0, 81)] [] σ s → (s 0 81).toInt = (σ 0 81).toInt - 1 → 1 ≤ h → Nx (G f o) k pc (pc + 1) h → wp_push a s τ vs (fun s t z => Q (pw + (1 : Int32)) s t z) := fun a s ks hs h1 nx => sp_push (by omega) (fun s2 k2 hs2 => kQ _ _ (mi_go1 c hp9 (kp_tr (kp_sub ks rfl rfl) (kp_sub k2 rfl rfl)) (by omega) p1 nx))
  unfold wp_step
  rw [np, n1, a8, i2, er, a27, eo, a22]
  refine ⟨by omega, by omega, ((κ 8) pc).toInt = 5 ∨ ((κ 8) pc).toInt = 6 ∨ ((κ 8) pc).toInt = 11 ∨ ((κ 8) pc).toInt = 19 ∨ ((κ 8) pc).toInt = 20 ∨ ((κ 8) pc).toInt = 21 ∨ ((κ 8) pc).toInt = 22 ∨ ((κ 8) pc).toInt = 23, fun q => sp_stepMore SP q (fun v s r => kQ v s r), fun q => pushed _ _ _ _ rfl p2 (op 0 q), fun q0 => ⟨fun q => ?_, fun q1 => ⟨fun q => ?_, fun q2 => ⟨fun q => ?_, fun q3 => ⟨fun q => ?_, fun q4 => ⟨fun q => by omega, fun q5 => ⟨fun q => by omega, fun q6 => ⟨fun q => ?_, fun q7 => ⟨fun q => ?_, fun q8 => ⟨fun q => ?_, fun q9 => ⟨fun q => ?_, fun q10 => ⟨fun q => by omega, fun q11 => ⟨fun q => ?_, fun q12 => ⟨fun q => ?_, fun q13 => ⟨fun q => ?_, fun q14 => ⟨fun q => ?_, fun q15 => ⟨fun q => ?_, fun q16 => ⟨fun q => ?_, fun q17 => ⟨fun q => ?_, fun q18 => ⟨fun q => by omega, fun q19 => ⟨fun q => by omega, fun q20 => ⟨fun q => by omega, fun q21 => ⟨fun q => by omega, fun q22 => ⟨fun q => by omega, fun q23 => ⟨fun q => ?_, fun q24 => ?_⟩⟩⟩⟩⟩⟩⟩⟩⟩⟩⟩⟩⟩⟩⟩⟩⟩⟩⟩⟩⟩⟩⟩⟩⟩
  · obtain ⟨⟨x0, x1⟩, x2⟩ := op 1 q
    exact ⟨by omega, by omega, by omega, by rw [ad (by rw [ef]; omega) (by rw [ef]; omega), ef]; omega, pushed _ _ _ _ rfl p2 x2⟩
  · exact ⟨by omega, by omega, by omega, pushed _ _ _ _ rfl p2 (op 2 q)⟩
  · obtain ⟨x0, x2⟩ := op 3 q
    exact sp_getLocal fi c1 x0 (fun r => pushed _ _ _ _ rfl p2 x2)
  · obtain ⟨x0, x2⟩ := op 4 q
    exact ⟨by omega, sp_rowOf fi c1 x0 (fun r hr => ⟨by omega, pushed _ _ _ _ rfl p2 x2⟩)⟩
  · obtain ⟨x0, x1, x2⟩ := op 7 q
    have et := sb1 (x := (σ 0 81)) (by omega)
    exact ⟨by omega, sp_setLocal fi c1 x0 (fun s ks => kQ _ _ (mi_go1 c hp9 (kp_sub ks rfl rfl) (by rw [show (s 0 81) = (σ 0 81) from ks _ _ rfl rfl]; omega) p2 x2))⟩
  · obtain ⟨x0, x2⟩ := op 8 q
    exact sp_clear fi c1 x0 (fun s ks => kQ _ _ (mi_go1 c hp9 (kp_sub ks rfl rfl) (by rw [show (s 0 81) = (σ 0 81) from ks _ _ rfl rfl]; omega) p2 x2))
  · obtain ⟨x1, x2⟩ := op 9 q
    have et := sb1 (x := (σ 0 81)) (by omega)
    exact ⟨by omega, pushed _ _ _ _ rfl p1 x2⟩
  · obtain ⟨x1, x2⟩ := op 10 q
    have et := sb1 (x := (σ 0 81)) (by omega)
    refine kQ _ _ (mi_go1 (h' := h - 1) c hp9 (kp_f kp_rf rfl) ?_ p1 x2)
    show ((σ 0 81) - (1 : Int32)).toInt = _
    omega
  · obtain ⟨x1, x2⟩ := op 12 q
    exact sp_pop (by omega) (fun v s ks hs => one _ s ks hs x1 x2)
  · obtain ⟨x1, x2⟩ := op 13 q
    exact sp_pop (by omega) (fun v s ks hs => one _ s ks hs x1 x2)
  · obtain ⟨x1, x2⟩ := op 14 q
    exact sp_pop (by omega) (fun v s ks hs => ⟨fun _ => True, fun y _ _ => one _ s ks hs x1 x2, fun _ => trivial, fun _ => trivial⟩)
  · obtain ⟨x1, x2, -⟩ := op 15 q
    exact kQ _ _ (mi_go1 c hp9 (kp_rf) (by omega) (by omega : ((κ 8) (pc + 1)).toInt = ((((κ 8) (pc + 1)).toInt.toNat : Nat) : Int)) x2)
  · obtain ⟨x1, x0, x2, x3⟩ := op 16 q
    exact sp_pop (by omega) (fun v s ks hs => ⟨fun _ => kQ _ _ (mi_go1 c hp9 (kp_sub ks rfl rfl) (by omega) p2 x3), fun _ => kQ _ _ (mi_go1 c hp9 (kp_sub ks rfl rfl) (by omega) (by omega : ((κ 8) (pc + 1)).toInt = ((((κ 8) (pc + 1)).toInt.toNat : Nat) : Int)) x2)⟩)
  · obtain ⟨x1, x0, x2, x3⟩ := op 17 q
    exact sp_pop (by omega) (fun v s ks hs => ⟨fun _ => kQ _ _ (mi_go1 c hp9 (kp_sub ks rfl rfl) (by omega) p2 x3), fun _ => kQ _ _ (mi_go1 c hp9 (kp_sub ks rfl rfl) (by omega) (by omega : ((κ 8) (pc + 1)).toInt = ((((κ 8) (pc + 1)).toInt.toNat : Nat) : Int)) x2)⟩)
  · obtain ⟨x1, k', x2⟩ := op 18 q
    exact ⟨fun ne => kQ _ _ (mi_turn hG.1 c hp9 ne p2 x2), fun _ => sp_trapped fi (fun s ks os => kQ _ _ (mi_end1 c hp9 (kp_sub ks rfl rfl) (by rw [os]; decide)))⟩
  · obtain ⟨x1, x2⟩ := op 24 q
    exact sp_pop (by omega) (fun v s ks hs => ⟨fun _ => True, fun y _ _ => one _ s ks hs x1 x2, fun _ => trivial, fun _ => trivial⟩)
  · by_cases big : 25 ≤ ((κ 8) pc).toInt
    · exfalso
      obtain ⟨n, hn⟩ : ∃ n : Nat, ((κ 8) pc).toInt.toNat = n + 25 := ⟨((κ 8) pc).toInt.toNat - 25, by omega⟩
      rw [hn] at hop
      exact hop
    · omega
end STQ
end

section
/-! run -/
section RNN
variable {κ σ s τ t : St} {vs z : List Nat} {G : Nat → Nat → Gh} {K : Nat}
theorem pg_gi (h : GLI σ τ vs) (hF : (σ 0 2).toInt ≤ 10240) (hl : 0 ≤ (σ 0 70).toInt) : ∃ G K, PG σ G K := by
  obtain ⟨⟨⟨t1, t2⟩, ⟨o1, o2⟩, ⟨n1, n2⟩, ⟨w1, w2⟩, ⟨i1, i2⟩, v1, ⟨b1, b2⟩⟩, hE, hA, hO, hP, hL, hM⟩ := h
  have lnk := hL.2 hl
  obtain ⟨G, K, hP9⟩ := prg_ex lnk (by omega) o2 (fun o ho => by
    obtain ⟨q1, -⟩ := hO o ho
    omega)
  exact ⟨G, K, hP9, lnk, o2, by omega, hM.1.2, fun o ho => by
    obtain ⟨q1, -⟩ := hO o ho
    omega, hA.2.2.2.2.1⟩
theorem gi_run (h : GLI σ τ vs) (k : KRn σ s) (hn : MN s) : GLI (upC s 0 88 (0 : Int32)) τ vs ∧ ((upC s 0 88 (0 : Int32)) 0 1) = (σ 0 1) ∧ ((upC s 0 88 (0 : Int32)) 0 2) = (σ 0 2) := by
  have z0 : (0 : Int32).toInt = 0 := by decide
  have kk : KMi σ (upC s 0 88 (0 : Int32)) := kp_f (kp_sub k rfl rfl) rfl
  have e1 : ((upC s 0 88 (0 : Int32)) 0 1) = (σ 0 1) := k _ _ rfl rfl
  have e2 : ((upC s 0 88 (0 : Int32)) 0 2) = (σ 0 2) := k _ _ rfl rfl
  have e35 : ((upC s 0 88 (0 : Int32)) 0 35) = (σ 0 35) := k _ _ rfl rfl
  have e31 : ((upC s 0 88 (0 : Int32)) 0 31) = (σ 0 31) := k _ _ rfl rfl
  have e17 : ((upC s 0 88 (0 : Int32)) 0 17) = (σ 0 17) := k _ _ rfl rfl
  have e39 : ((upC s 0 88 (0 : Int32)) 0 39) = (σ 0 39) := k _ _ rfl rfl
  have e45 : ((upC s 0 88 (0 : Int32)) 0 45) = (σ 0 45) := k _ _ rfl rfl
  refine ⟨gi_misc h kk ?_ ⟨?_, hn.1⟩, e1, e2⟩
  · unfold NUG
    rw [e1, e2, e35, e31, e17, e39, e45]
    exact h.1
  · show 0 ≤ (0 : Int32).toInt ∧ (0 : Int32).toInt ≤ 4096
    omega
theorem sp_run {a : Int32} {Q : Int32 → St → St → List Nat → Prop} (h : GLI σ τ vs) (hF : (σ 0 2).toInt ≤ 10240) (k : ∀ r s, GLI s τ vs → (s 0 1) = (σ 0 1) → (s 0 2) = (σ 0 2) → Q r s τ vs) : wp_run a σ τ vs Q := by
  have z0 : (0 : Int32).toInt = 0 := by decide
  unfold wp_run
  refine ⟨fun hl => ⟨fun _ => k _ _ h rfl rfl, fun ha => ⟨fun ha2 => ?_, fun _ => k _ _ h rfl rfl⟩⟩, fun _ => k _ _ h rfl rfl⟩
  obtain ⟨G, K, hG⟩ := pg_gi h hF hl
  obtain ⟨-, -, o, f, m1, m2, m3, m4, m5⟩ := h.2.2.2.2.2.1.2 hl
  refine ⟨fun n x s t z => n = (32768 - x.toInt).toNat ∧ 0 ≤ x.toInt ∧ Kp [] [46] σ s ∧ t = τ ∧ z = vs, ⟨_, rfl, by omega, kp_rf, rfl, rfl⟩, ?_⟩
  rintro n x s t z ⟨q1, q2, ks, rfl, rfl⟩
  refine ⟨fun _ => ?_, fun c => ?_⟩
  rotate_left 1
  · have ex := ad1 (x := x) (by omega)
    exact ⟨fun _ => True, fun y _ => ⟨by omega, _, by omega, rfl, by omega, kp_a ks rfl, rfl, rfl⟩, fun _ => trivial, fun c2 => ⟨by omega, trivial⟩⟩
  have em : s 0 78 = (σ 17) f := by rw [ks 0 78 rfl rfl]; exact m4.symm
  rw [em]
  generalize hS : (upC (upC (upC (upC (upC (upC (upC (upC (upC (upC (upC s 0 98 (1 : Int32)) 0 93 a) 0 89 (0 : Int32)) 0 91 (0 : Int32)) 0 92 (0 : Int32)) 0 94 (0 : Int32)) 0 95 (0 : Int32)) 0 96 (0 : Int32)) 0 81 (0 : Int32)) 0 86 (0 : Int32)) 0 97 ((-1) : Int32)) = s1
  have k1 : KRn σ s1 := by rw [← hS]; exact kp_f (kp_f (kp_f (kp_f (kp_f (kp_f (kp_f (kp_f (kp_f (kp_f (kp_f (kp_sub ks rfl rfl) rfl) rfl) rfl) rfl) rfl) rfl) rfl) rfl) rfl) rfl) rfl
  have x81 : (s1 0 81).toInt = 0 := by rw [← hS]; exact z0
  have x86 : (s1 0 86).toInt = 0 := by rw [← hS]; exact z0
  have x93 : (s1 0 93) = a := by rw [← hS]; rfl
  have x89 : (s1 0 89).toInt = 0 := by rw [← hS]; exact z0
  have x91 : (s1 0 91).toInt = 0 := by rw [← hS]; exact z0
  have x92 : (s1 0 92).toInt = 0 := by rw [← hS]; exact z0
  have x97 : (s1 0 97) = -1 := by rw [← hS]; rfl
  clear hS q1 q2 em ks
  have o97 : (s1 0 97).toInt < 0 := by rw [x97]; decide
  have mn1 : MN s1 := ⟨by omega, by omega, by rw [x92, x93]; omega⟩
  have go : ∀ (y : Int32) (S : St) (m : Nat), MI σ G K y S m → ∃ L149 : Nat → Int32 → St → St → List Nat → Prop, (∃ n, L149 n y S t z) ∧ ∀ (n149 : Nat) (x2_149 : Int32) (s149 t149 : St) (z149 : List Nat), L149 n149 x2_149 s149 t149 z149 → ((0 ≤ (s149 0 97).toInt → Q (s149 0 97) (upC s149 0 88 (0 : Int32)) t149 z149) ∧ ((s149 0 97).toInt < 0 → wp_step x2_149 s149 t149 z149 (fun v158 s158 t158 z158 => ∃ m, m < n149 ∧ L149 m v158 s158 t158 z158))) := fun y S m hm => by
    refine ⟨fun m x s t' z' => MI σ G K x s m ∧ t' = t ∧ z' = z, ⟨m, hm, rfl, rfl⟩, ?_⟩
    rintro m9 x9 s9 t9 z9 ⟨hm9, rfl, rfl⟩
    refine ⟨fun _ => ?_, fun c => ?_⟩
    · obtain ⟨g1, g2, g3⟩ := gi_run h hm9.1 hm9.2.1
      exact k _ _ g1 g2 g3
    · obtain ⟨p0, d, B, f9, o9, h9, k9, cx, rfl⟩ := hm9.2.2 c
      exact sp_step hG cx c (nt p0).symm (fun v s8 r => by
        obtain ⟨m', lt, mi⟩ := r
        exact ⟨m', lt, mi, rfl, rfl⟩)
  have nmain : ∃ b : Nat, ((σ 17) f).toInt = b ∧ b < 10000 := by
    obtain ⟨b, b1, b2, -⟩ := hG.1 f o m1 m2 m3
    exact ⟨b, b1, b2⟩
  obtain ⟨b, b1, b2⟩ := nmain
  refine sp_enter (D := 0) hG.1 hG.2.1 hG.2.2.1 hG.2.2.2.1 m1 m2 m3 k1 mn1 (by rw [x86]; rfl) (Or.inl rfl) (by omega) (fun S h0 kS mS => ⟨fun y => ∃ m, MI σ G K y S m, fun y hy => by
    obtain ⟨m, hm⟩ := hy
    exact go y S m hm, fun _ => ⟨0, kS, mS, fun q => by omega⟩, fun q => by omega⟩) (fun S en kS mS oS => ⟨fun y => ∃ m, MI σ G K y S m, fun y hy => by
    obtain ⟨m, hm⟩ := hy
    exact go y S m hm, fun q => by rw [oS, x97] at q; exact absurd q (by decide), fun _ => ?_⟩)
  have e78 : S 0 78 = (σ 17) f := by rw [kS 0 78 rfl rfl]; exact m4.symm
  rw [e78, show S 26 = (σ 26) from funext (fun j => kS 26 j rfl rfl)]
  refine ⟨by omega, ?_⟩
  obtain ⟨b', y1, y2, y3, y4, ⟨E0, R', nl', d1, d2, d3, d4, d5, d6, d7, d8, ⟨k0, d9⟩, d10, d11⟩, y6⟩ := hG.1 f o m1 m2 m3
  have eb : ((σ 17) f).toNatClampNeg = b' := by rw [nt', y1]; rfl
  obtain ⟨z1, z2, z3, z4, ⟨z5, z6, z7⟩, z8, z9⟩ := en
  have eE : ((σ 26) b').toNatClampNeg = E0 := by rw [nt', d1]; rfl
  rw [eb]
  refine ⟨MS S K 0 k0 E0, kS, mS, fun _ => ⟨by omega, 0, 0, f, o, 0, k0, ⟨kS, mS, by rw [z2], ⟨rfl, ⟨m1, m2, m3⟩, z5, z6, z7⟩, by omega, by rw [eE]; exact d9, by rw [z4, x81, m5]; rfl⟩, by rw [eE]⟩⟩
end RNN
end

