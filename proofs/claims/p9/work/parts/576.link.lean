/-! link -/
abbrev KLz (σ s : St) : Prop := Kp [(0, 67), (0, 71), (0, 72), (0, 73), (0, 74), (0, 78), (0, 70)] [42, 44, 45, 43, 41] σ s
section LNKS
variable {σ s S τ t : St} {vs z : List Nat}
theorem old_lz (k : KLz σ s) : OLD σ s := by
  have e17 : (s 0 17) = (σ 0 17) := k _ _ rfl rfl
  have e45 : (s 0 45) = (σ 0 45) := k _ _ rfl rfl
  have e35 : (s 0 35) = (σ 0 35) := k _ _ rfl rfl
  exact ⟨fun o _ => ⟨k 22 o rfl rfl, k 24 o rfl rfl⟩, fun o _ => k 23 o rfl rfl, fun e _ => ⟨k 9 e rfl rfl, k 10 e rfl rfl, k 15 e rfl rfl, k 12 e rfl rfl, fun q => by rw [k 14 e rfl rfl]; exact q, k 13 e rfl rfl, k 17 e rfl rfl⟩, ⟨fun j _ => k 8 j rfl rfl, fun b _ => ⟨k 26 b rfl rfl, k 27 b rfl rfl, k 28 b rfl rfl, k 29 b rfl rfl, k 30 b rfl rfl, k 54 b rfl rfl⟩, fun j _ => k 25 j rfl rfl⟩, by rw [e17]; exact Int.le_refl _, by rw [e45]; exact Int.le_refl _, by rw [e35]; exact Int.le_refl _⟩
theorem gi_lz (h : GLI σ τ vs) (k : KLz σ S) (p0 : (S 0 67) = 0) (lnk : LNK S) : GLI S τ vs := by
  obtain ⟨h1, h2, h3, h4, h5, h6, h7⟩ := h
  have z0 : (0 : Int32).toInt = 0 := by decide
  have e1 : (S 0 1) = (σ 0 1) := k _ _ rfl rfl
  have e2 : (S 0 2) = (σ 0 2) := k _ _ rfl rfl
  have e35 : (S 0 35) = (σ 0 35) := k _ _ rfl rfl
  have e31 : (S 0 31) = (σ 0 31) := k _ _ rfl rfl
  have e17 : (S 0 17) = (σ 0 17) := k _ _ rfl rfl
  have e39 : (S 0 39) = (σ 0 39) := k _ _ rfl rfl
  have e45 : (S 0 45) = (σ 0 45) := k _ _ rfl rfl
  have e36 : (S 0 36) = (σ 0 36) := k _ _ rfl rfl
  have e88 : (S 0 88) = (σ 0 88) := k _ _ rfl rfl
  have e91 : (S 0 91) = (σ 0 91) := k _ _ rfl rfl
  have a : ∀ c, ([3, 4, 34, 35, 21, 15, 18, 19, 31, 10, 9, 17, 16, 32, 22, 24] : List Nat).contains c = true → S c = σ c := fun c hc => funext (fun j => by
    have := List.contains_iff_mem.mp hc
    simp at this
    refine k c j ?_ ?_
    · simp; omega
    · simp; omega)
  refine ⟨?_, ?_, ?_, fun o ho => obj_old (old_lz k) h2 h4 (by rw [← e35]; exact ho), ⟨by rw [p0, z0]; decide, fun j hj => ?_, fun i j _ hj => ?_⟩, lnk, ?_⟩
  · unfold NUG
    rw [e1, e2, e35, e31, e17, e39, e45]; exact h1
  · unfold ENG
    rw [e36, e39, e35, a 22 rfl, a 24 rfl]; exact h2
  · unfold ARG NMo VTy
    rw [a 3 rfl, a 4 rfl, a 34 rfl, a 35 rfl, a 21 rfl, a 15 rfl, a 18 rfl, a 19 rfl, a 31 rfl, a 10 rfl, a 9 rfl, a 17 rfl, a 16 rfl, a 32 rfl]
    exact h3
  · rw [p0, z0] at hj; omega
  · rw [p0, z0] at hj; omega
  · unfold MIS
    rw [e88, e91]; exact h7
theorem gi_kl (h : GLI σ τ vs) (k : KLi σ S) (p0 : (S 0 67) = 0) : GLI S τ vs :=
  gi_lz h (kp_sub k rfl rfl) p0 (lnk_old (old_lz (kp_sub k rfl rfl)) ⟨funext (fun j => k 43 j rfl rfl), funext (fun j => k 41 j rfl rfl), k _ _ rfl rfl, k _ _ rfl rfl⟩ h.2.1 h.2.2.2.1 h.2.2.2.2.2.1)
theorem po_obj (h : GLI σ τ vs) {p : Nat} (hp : (p : Int) < (σ 0 67).toInt) : (1 ≤ ((σ 40) p).toInt ∧ ((σ 40) p).toInt ≤ 100) ∧ ((PO σ p : Int) = ((σ 40) p).toInt - 1 ∧ (PO σ p : Int) < (σ 0 35).toInt) ∧ OBJ σ (PO σ p) := by
  have p2 := h.2.2.2.2.1.2.1 p hp
  have o2 := h.1.2.1
  have e : (PO σ p : Int) = ((σ 40) p).toInt - 1 := by unfold PO; omega
  exact ⟨by omega, ⟨e, by omega⟩, h.2.2.2.1 _ (by omega)⟩
theorem rws_gi (h : GLI σ τ vs) : RWS σ (σ 0 67).toInt := by
  obtain ⟨p1, p2, p3⟩ := h.2.2.2.2.1
  refine ⟨p1, h.2.2.1.2.2.2.2.2.1, h.2.2.1.2.2.2.2.1, fun p hp => ?_⟩
  obtain ⟨q1, ⟨q2, q3⟩, q4⟩ := po_obj h hp
  have := q4.1
  exact ⟨q1, by omega, by omega, by omega⟩
theorem lyb_gi (h : GLI σ τ vs) (hF : (σ 0 2).toInt ≤ 10240) (hs : SUMd σ (σ 0 67).toInt.toNat ≤ 16000) : LYb σ (σ 0 67).toInt := by
  refine ⟨rws_gi h, fun p hp => ?_, hs⟩
  obtain ⟨q1, ⟨q2, q3⟩, q4⟩ := po_obj h hp
  have fc := fi_cnt h.2.1 h.1.2.1.1 h.2.2.2.1 (o := PO σ p + 1) (by omega)
  have w := h.1.2.2.2.2.1
  have w1 := h.1.1
  exact ⟨q4.2.1, q4.2.2.1, by omega⟩
theorem lib_ex (e : Nat) : ∃ r, LIB σ e r := by
  by_cases a : LBk σ e 1 3
  · exact ⟨0, Or.inl ⟨by decide, a⟩⟩
  · by_cases b : LBk σ e 5 3
    · exact ⟨1, Or.inr (Or.inl ⟨by decide, a, b⟩)⟩
    · by_cases c : LBk σ e 9 5
      · exact ⟨2, Or.inr (Or.inr (Or.inl ⟨by decide, a, b, c⟩))⟩
      · by_cases d : LBk σ e 15 4
        · exact ⟨3, Or.inr (Or.inr (Or.inr (Or.inl ⟨by decide, a, b, c, d⟩)))⟩
        · exact ⟨-1, Or.inr (Or.inr (Or.inr (Or.inr ⟨by decide, a, b, c, d⟩)))⟩
theorem lib_le {e : Nat} {r : Int32} (h : LIB σ e r) : r.toInt ≤ 3 := by
  rcases h with ⟨a, -⟩ | ⟨a, -⟩ | ⟨a, -⟩ | ⟨a, -⟩ | ⟨a, -⟩ <;> omega
theorem bI32 {x : Int32} (h : x ≠ 0) : x.toInt ≠ 0 := int_ne h
/-- what links are when all is laid -/
theorem lnk_new (h : GLI σ τ vs) (k : KLz σ S) (hc : (S 0 70) = (σ 0 67)) (hl : ∀ p : Nat, (p : Int) < (σ 0 67).toInt → (S 41) p = (σ 40) p) (ha : ∀ p : Nat, (p : Int) < (σ 0 67).toInt → ∀ e, InO σ (PO σ p) e → AIMR σ e (σ 0 67).toInt ((S 43) e)) (c2 : CLN σ 32 (σ 0 67).toInt) (c3 : CLN σ 33 (σ 0 67).toInt) {pm fm : Nat} (m1 : (pm : Int) < (σ 0 67).toInt) (m2 : InO σ (PO σ pm) fm) (m3 : ((σ 13) fm).toInt = 1) (m4 : ((σ 9) fm).toInt = 2) (m5 : ((σ 15) fm).toInt = 0) (m6 : (σ 17) fm = (S 0 78)) : LNK S := by
  have old := old_lz k
  have e35 : (S 0 35) = (σ 0 35) := k _ _ rfl rfl
  have a22 : (S 22) = (σ 22) := funext (fun j => k 22 j rfl rfl)
  have a9 : (S 9) = (σ 9) := funext (fun j => k 9 j rfl rfl)
  have a10 : (S 10) = (σ 10) := funext (fun j => k 10 j rfl rfl)
  have a13 : (S 13) = (σ 13) := funext (fun j => k 13 j rfl rfl)
  have a15 : (S 15) = (σ 15) := funext (fun j => k 15 j rfl rfl)
  have a17 : (S 17) = (σ 17) := funext (fun j => k 17 j rfl rfl)
  have fO_eq : ∀ o, fO S o = fO σ o := fun o => by unfold fO; rw [a22]
  have ino : ∀ {o e}, InO S o e ↔ InO σ o e := fun {o e} => by unfold InO; rw [fO_eq, fO_eq]
  have fnd : ∀ {e}, FnD S e ↔ FnD σ e := fun {e} => by unfold FnD; rw [a9, a13]
  have pr := h.2.2.2.2.1
  have lko : ∀ {o}, LKo S o ↔ ∃ p : Nat, (p : Int) < (σ 0 67).toInt ∧ PO σ p = o := fun {o} => by
    constructor
    · rintro ⟨p, p1, p2⟩
      rw [hc] at p1
      rw [hl p p1] at p2
      obtain ⟨q1, ⟨q2, q3⟩, q4⟩ := po_obj h p1
      exact ⟨p, p1, by omega⟩
    · rintro ⟨p, p1, p2⟩
      obtain ⟨q1, ⟨q2, q3⟩, q4⟩ := po_obj h p1
      exact ⟨p, by rw [hc]; exact p1, by rw [hl p p1]; omega⟩
  have i1 : ∀ {x : Int32}, x.toInt = 1 → x ≠ 0 := fun {x} q q2 => by
    rw [q2] at q; exact absurd q (by decide)
  have tI : ∀ {x : Int32}, x ≠ 0 → x.toInt ≠ 0 := fun q => int_ne q
  refine ⟨by rw [hc]; have := pr.1; omega, fun _ => ⟨fun p hp => ?_, fun o ho f hf hd => ?_, PO σ pm, fm, lko.mpr ⟨pm, m1, rfl⟩, ino.mpr m2, fnd.mpr ⟨m4, i1 m3⟩, by rw [a17]; exact m6, by rw [a15]; exact m5⟩⟩
  · rw [hc] at hp
    rw [hl p hp, e35]
    exact pr.2.1 p hp
  · obtain ⟨p, p1, rfl⟩ := lko.mp ho
    obtain ⟨q1, ⟨q2, q3⟩, q4⟩ := po_obj h p1
    have hf' := ino.mp hf
    have hd' := fnd.mp hd
    refine bdk_old (by rw [a17]) (by rw [a15]) (by rw [a10]) old.2.2.2.1.1 old.2.2.2.1.2.1 old.2.2.2.2.1 old.2.2.2.2.2.1 (fun n x y cc => ?_) (q4.2.2.2 f hf' hd')
    obtain ⟨n0, e, e1, e2, e3, e4, e5, e6⟩ := cc
    have q5 := q4.1
    have ar := ha p p1 e e2
    refine ⟨⟨n0, by have := e2.2; omega⟩, e, by rw [fO_eq]; exact e1, ino.mpr e2, ?_, hh_eq (by rw [a15]) (by rw [a10]) e6⟩
    have hw0 : ∀ j, 0 ≤ ((σ 17) j).toInt := fun j => (h.2.2.1.2.2.2.2.2.2.2.2.2.1 j).1
    have srt : ((σ 9) e).toInt ≠ 1 := by omega
    unfold AIMk
    rw [a17, a15, a10]
    by_cases cd : (σ 13) e = 0
    · have cd0 : ((σ 13) e).toInt = 0 := by rw [cd]; decide
      have cs0 : ((σ 12) e).toInt = 0 := by
        by_cases q : (σ 12) e = 0
        · rw [q]; decide
        · exact absurd cd (e5 q)
      obtain ⟨ar1, ar2⟩ := ar.2 cd0 cs0
      obtain ⟨l, hlb⟩ := lib_ex (σ := σ) e
      obtain ⟨n1, n2⟩ := (c3 p p1 e e2 cs0).2 rfl cs0 cd0
      by_cases l0 : 0 ≤ l.toInt
      · have r1 := ar1 l hlb l0
        have l3 := lib_le hlb
        obtain ⟨t1, t2⟩ := n1 l hlb l0
        exact ⟨fun q => by omega, fun _ => ⟨by omega, fun q => by have := t1 (by omega); exact ⟨this.2, this.1⟩, fun q => by have := t2 (by omega); exact ⟨this.2, this.1⟩⟩⟩
      · rcases (c2 p p1 e e2 cs0).1 rfl cs0 cd0 (tI e4) with ⟨r, hr, r0⟩ | ⟨p9, f9, fn⟩
        · have := lib_uniq hr hlb; omega
        · have r1 := ar2 l p9 f9 hlb (by omega) fn srt
          have ht := n2 l p9 f9 hlb (by omega) fn
          have g0 := hw0 f9
          refine ⟨fun _ => ⟨PO σ p9, f9, lko.mpr ⟨p9, fn.1, rfl⟩, ino.mpr fn.2.1, fnd.mpr ⟨by rw [← ht.1]; exact e3, i1 fn.2.2.1.2.1⟩, r1, ?_, ?_⟩, fun q => by rw [r1] at q; omega⟩
          · exact ieq (ht.2.2 srt).symm
          · exact ieq ht.2.1.symm
    · have r1 := ar.1 (tI cd) srt
      have g0 := hw0 e
      exact ⟨fun _ => ⟨PO σ p, e, lko.mpr ⟨p, p1, rfl⟩, ino.mpr e2, fnd.mpr ⟨e3, cd⟩, r1, rfl, rfl⟩, fun q => by rw [r1] at q; omega⟩
theorem sp_link {Q : Int32 → St → St → List Nat → Prop} (h : GLI σ τ vs) (hF : (σ 0 2).toInt ≤ 10240) (k : ∀ r s, GLI s τ vs → (s 0 1) = (σ 0 1) → (s 0 2) = (σ 0 2) → Q r s τ vs) : wp_link σ τ vs Q := by
  have e31 : (31 : Int32).toInt = 31 := by decide
  have e0 : (0 : Int32).toInt = 0 := by decide
  have hR := rws_gi h
  have hn := hR.1
  unfold wp_link
  refine ⟨fun m x s t z => (m : Int) = 34 - x.toInt ∧ 31 ≤ x.toInt ∧ x.toInt ≤ 34 ∧ KLi σ s ∧ (s 0 67) = 0 ∧ t = τ ∧ z = vs ∧ ∀ i : Int, 31 ≤ i → i < x.toInt → CLN σ i (σ 0 67).toInt, ⟨3, by omega, by omega, by omega, kp_f (kp_f (kp_f kp_rf rfl) rfl) rfl, rfl, rfl, rfl, fun i i1 i2 => by omega⟩, ?_⟩
  rintro m x s t z ⟨q1, q2, q3, kl, p0, rfl, rfl, q4⟩
  have hRs := rws_k (kp_sub kl rfl rfl) hR
  have a17 : (s 17) = (σ 17) := funext (fun j => kl 17 j rfl rfl)
  have a40 : (s 40) = (σ 40) := funext (fun j => kl 40 j rfl rfl)
  have a22 : (s 22) = (σ 22) := funext (fun j => kl 22 j rfl rfl)
  have a23 : (s 23) = (σ 23) := funext (fun j => kl 23 j rfl rfl)
  have ePO : ∀ p, PO s p = PO σ p := fun p => by unfold PO; rw [a40]
  have fail : ∀ r, Q r s t z := fun r => k r s (gi_kl h kl p0) (kl 0 1 rfl rfl) (kl 0 2 rfl rfl)
  refine ⟨fun c => ?_, fun c => ?_⟩
  rotate_left 1
  · have e1 := ad1 (x := x) (by omega)
    refine sp_isFault hRs (fun s2 k2 cl => ⟨fun _ => ⟨m - 1, by omega, by omega, by omega, by omega, kp_tr kl (kp_sub k2 rfl rfl), (k2 0 67 rfl rfl).trans p0, rfl, rfl, fun i i1 i2 => ?_⟩, no0⟩) (fun s2 k2 => ⟨no1, fun _ => k _ s2 (gi_kl h (kp_tr kl (kp_sub k2 rfl rfl)) ((k2 0 67 rfl rfl).trans p0)) ((k2 0 1 rfl rfl).trans (kl 0 1 rfl rfl)) ((k2 0 2 rfl rfl).trans (kl 0 2 rfl rfl))⟩)
    by_cases e : i = x.toInt
    · rw [e]
      have a12 : (s 12) = (σ 12) := funext (fun j => kl 12 j rfl rfl)
      intro p hp e' he' hs'
      exact noth_k (kp_sub kl rfl rfl) (cl p hp e' (by rw [ePO]; unfold InO fO; rw [a22]; exact he') (by rw [a12]; exact hs'))
    · exact q4 i i1 (by omega)
  refine sp_mainOf hRs ⟨fun q => absurd q (by decide), fun _ => fail _⟩ (fun pm fm m1 m2 m3 m4 m5 => ⟨fun _ => ?_, fun _ => fail _⟩)
  refine ⟨fun m y p => (m : Int) = (σ 0 67).toInt - p.toInt ∧ 0 ≤ p.toInt ∧ y.toInt = SUMd σ p.toNatClampNeg ∧ (0 ≤ y.toInt ∧ y.toInt ≤ 16000 * p.toInt), ⟨(σ 0 67).toInt.toNat, by omega, by omega, by rw [e0, show (0 : Int32).toNatClampNeg = 0 by decide]; rfl, by omega⟩, ?_⟩
  rintro m9 y p ⟨r1, r2, r3, r4⟩
  have np := nt r2
  refine ⟨fun c3 => ⟨fun c4 => ?_, fun _ => fail _⟩, fun c3 => ?_⟩
  rotate_left 1
  · obtain ⟨i1, i2, i3, i4, i5, i6, i7, i8, i9⟩ := po_of hR r2 c3
    rw [a40, a23, i3]
    have ep := ad1 (x := p) (by omega)
    have epn : (p + 1).toNatClampNeg = p.toNatClampNeg + 1 := by rw [nt', ep]; omega
    have dc := (po_obj h (p := p.toNatClampNeg) (by omega)).2.2.2.1
    have ey : (y + (σ 23) (PO σ p.toNatClampNeg)).toInt = y.toInt + ((σ 23) (PO σ p.toNatClampNeg)).toInt := ad (by omega) (by omega)
    refine ⟨i1, by omega, m9 - 1, by omega, by omega, by omega, ?_, by omega⟩
    rw [ey, epn, r3]
    rfl
  have pe : p.toNatClampNeg = (σ 0 67).toInt.toNat := by omega
  rw [r3, pe] at c4
  have ly := lyb_gi h hF c4
  have ly2 : LYb (upC s 0 78 (s 17 fm)) (σ 0 67).toInt := by
    have ea : ∀ c, c ≠ 0 → upC s 0 78 (s 17 fm) c = σ c := fun c hc => funext (fun j => by
      rw [rdC, if_neg hc]
      refine kl c j ?_ rfl
      simp
      omega)
    have hz : ∀ a b : St, (∀ c, c ≠ 0 → a c = b c) → ∀ p, SUMd a p = SUMd b p := fun a b hab p => by
      induction p with
      | zero => rfl
      | succ p ih =>
        show SUMd a p + (a 23 (PO a p)).toInt = SUMd b p + (b 23 (PO b p)).toInt
        rw [ih]
        unfold PO
        rw [hab 23 (by decide), hab 40 (by decide)]
    obtain ⟨l1, l2, l3⟩ := ly
    refine ⟨rws_k (kp_f (kp_sub kl rfl rfl) rfl) hR, ?_, by rw [hz _ _ ea]; exact l3⟩
    unfold ITr PO
    rw [ea 23 (by decide), ea 24 (by decide), ea 25 (by decide), ea 40 (by decide)]
    exact l2
  refine sp_layAll ly2 (fun s6 k6 l6 a6 => k _ _ ?_ ((k6 0 1 rfl rfl).trans (kl 0 1 rfl rfl)) ((k6 0 2 rfl rfl).trans (kl 0 2 rfl rfl)))
  have kz : KLz σ (upC s6 0 70 (σ 0 67)) := kp_f (kp_tr (kp_f (kp_sub kl rfl rfl) rfl) (kp_sub k6 rfl rfl)) rfl
  have eP : ∀ p, PO (upC s 0 78 (s 17 fm)) p = PO σ p := fun p => by
    unfold PO
    rw [show upC s 0 78 (s 17 fm) 40 = (s 40) from rfl, a40]
  refine gi_lz h kz ((k6 0 67 rfl rfl).trans p0) (lnk_new h kz rfl (fun p hp => ?_) (fun p hp e he => ?_) (q4 32 (by decide) (by omega)) (q4 33 (by decide) (by omega)) m1 (fm := fm) (pm := pm) ?_ ?_ ?_ ?_ ?_)
  · show (s6 41) p = _
    rw [l6 p hp, show upC s 0 78 (s 17 fm) 40 = (s 40) from rfl, a40]
  · show AIMR σ e _ ((s6 43) e)
    refine aimr_k (σ := σ) (s := upC s 0 78 (s 17 fm)) (kp_f (kp_sub kl rfl rfl) rfl) (a6 p hp e ?_)
    rw [eP]
    unfold InO fO
    rw [show upC s 0 78 (s 17 fm) 22 = (s 22) from rfl, a22]
    exact he
  · rw [ePO] at m2
    unfold InO fO at m2 ⊢
    rw [a22] at m2
    exact m2
  · rw [← kl 13 fm rfl rfl]; exact m3
  · rw [← kl 9 fm rfl rfl]; exact m4
  · rw [← kl 15 fm rfl rfl]; exact m5
  · show (σ 17) fm = s6 0 78
    rw [k6 0 78 rfl rfl]
    show (σ 17) fm = s 17 fm
    rw [a17]
end LNKS
