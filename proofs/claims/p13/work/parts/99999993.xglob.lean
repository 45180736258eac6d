/-! outside of functions: the class's names -/
section FLG
theorem or_no {x a b : Int32} (key : ∀ i : Nat, i < 32 → (a.toBitVec.getLsbD i && b.toBitVec.getLsbD i) = false) : ((x ||| a) &&& b) = x &&& b := by
  apply Int32.toBitVec_inj.mp
  simp only [Int32.toBitVec_and, Int32.toBitVec_or]
  apply BitVec.eq_of_getLsbD_eq
  intro i hi
  have k := key i hi
  simp only [BitVec.getLsbD_and, BitVec.getLsbD_or]
  revert k
  generalize a.toBitVec.getLsbD i = a
  generalize b.toBitVec.getLsbD i = b
  generalize x.toBitVec.getLsbD i = d
  cases a <;> cases b <;> cases d <;> decide
theorem or_yes {x a b : Int32} (key : ∀ i : Nat, i < 32 → (!b.toBitVec.getLsbD i || a.toBitVec.getLsbD i) = true) : ((x ||| a) &&& b) = b := by
  apply Int32.toBitVec_inj.mp
  simp only [Int32.toBitVec_and, Int32.toBitVec_or]
  apply BitVec.eq_of_getLsbD_eq
  intro i hi
  have k := key i hi
  simp only [BitVec.getLsbD_and, BitVec.getLsbD_or]
  revert k
  generalize a.toBitVec.getLsbD i = a
  generalize b.toBitVec.getLsbD i = b
  generalize x.toBitVec.getLsbD i = d
  cases a <;> cases b <;> cases d <;> decide
theorem fl_no {w s : St} {d : Nat} {a b : Int32} (h : s 25 d = (w 25 d) ||| a) (key : ∀ i : Nat, i < 32 → (a.toBitVec.getLsbD i && b.toBitVec.getLsbD i) = false) : FLq s d b ↔ FLq w d b := by
  unfold FLq
  rw [h, or_no key]
theorem fl_yes {w s : St} {d : Nat} {a b : Int32} (h : s 25 d = (w 25 d) ||| a) (key : ∀ i : Nat, i < 32 → (!b.toBitVec.getLsbD i || a.toBitVec.getLsbD i) = true) (hb : b.toInt ≠ 0) : FLq s d b := by
  unfold FLq
  rw [h, or_yes key]
  exact hb
theorem fl_zero {s : St} {d : Nat} {b : Int32} (h : s 25 d = 0) : ¬ FLq s d b := by
  unfold FLq
  rw [h]
  exact fun hx => hx (by simp)
theorem fl_same {w s : St} {d : Nat} {b : Int32} (h : s 25 d = w 25 d) : FLq s d b ↔ FLq w d b := by
  unfold FLq
  rw [h]
end FLG
/-- may be declared once more, for the class -/
def JNw (w : St) (d : Nat) (b : Int32) : Prop := (¬ FLq w d 1 ∧ (w 26 d).toInt = (w 8 11).toInt ∧ ((w 27 d).toInt = -1 ↔ (w 8 12).toInt = -1)) ∧ ((w 27 d).toInt ≤ 0 ∨ (w 8 12).toInt ≤ 0 ∨ (w 27 d).toInt = (w 8 12).toInt) ∧ (b.toInt ≠ 1 ∧ ¬ FLq w d 2) ∧ ((w 8 13).toInt ≠ 0 ∨ ¬ FLq w d 4)
def CLw (w : St) : Int := if (w 8 13).toInt ≠ 0 then 0 else if (w 8 12).toInt = -1 then 1 else (w 8 12).toInt
/-- one more is declared -/
def CDf (w s : St) (u m dn : Nat) : Prop := Kp [(6, 7), (5, 7), (5, 1)] [38, 39, 30, 29, 25, 28] w s ∧ (s 6 7).toInt = (m : Int) + 1 ∧ (s 5 1).toInt = (dn : Int) + 1 ∧ (s 5 7).toInt = (w 5 7).toInt + (w 14 u).toInt ∧ (∀ j, (s 38 j).toInt = if j = m then (u : Int) else (w 38 j).toInt) ∧ (∀ j, s 39 j = if j = m then -1 else w 39 j) ∧ (∀ j, s 25 j = if j = dn then 0 else w 25 j) ∧ ByteOK (w 1) ∧ ∀ j, j ≠ dn → s 28 j = w 28 j
section XGL
variable {w s r σ σ' : St} {kd : Nat → Int} {n S m lo u dn : Nat} {a b c : Int32} {Q : St → Prop} {rr : Int}
theorem xo_find {Q : Int32 → Prop} (hE : REq kd n S m lo w σ) (ha : a.toInt = (u : Int)) (hu : u ≤ n) (ku : kd u = 2) (hrr : EFm σ lo (lo + m) u rr) (kk : ∀ v : Int32, (rr = -1 → v.toInt < 0) → (∀ r : Nat, rr = ((lo + r : Nat) : Int) → v.toInt = (((w 5 1).toInt.toNat - m + r : Nat) : Int)) → (rr = -1 ∨ ∃ r : Nat, r < m ∧ rr = ((lo + r : Nat) : Int)) → Q v) : pk_X11_outerOf a w Q := by
  obtain ⟨a1, a2⟩ := ou_alike hE.1 hE.2.2.1 hu ku
  have ho3 := hE.2.2.1.2.2.1
  refine xl_outerOf ha (tn_class hE.1 (by have := hE.1.1.1; omega) hu ku) (ou_class hE.1 hE.2.2.1) (fun v r' h1 h2 => ?_)
  have key : (r' = -1 ∧ rr = -1) ∨ ∃ i : Nat, r' = (i : Int) ∧ i < m ∧ rr = ((lo + i : Nat) : Int) := by
    have h1' := h1
    rcases h1' with ⟨i, i1, i2, i3, i4⟩ | ⟨i1, i2⟩
    · have h3 := h1
      rw [i4] at h3
      have := ((a2 i).1 h3).2
      exact Or.inr ⟨i, i4, i1, ef_one hrr this⟩
    · rw [i2] at h1
      exact Or.inl ⟨i2, ef_one hrr (a1.1 h1)⟩
  refine kk v (fun h => ?_) (fun r hr => ?_) ?_
  · rcases key with ⟨k1, k2⟩ | ⟨i, k1, k2, k3⟩
    · rcases h2 with h2 | h2
      · exact h2.2
      · omega
    · omega
  · rcases key with ⟨k1, k2⟩ | ⟨i, k1, k2, k3⟩
    · omega
    · have : i = r := by omega
      rw [this] at k1 k2
      rcases h2 with h2 | h2
      · omega
      · rw [h2.2, k1]
        omega
  · rcases key with ⟨k1, k2⟩ | ⟨i, k1, k2, k3⟩
    · exact Or.inl k2
    · exact Or.inr ⟨i, k2, k3⟩
theorem xl_joins {Q : Int32 → Prop} (hd : a.toInt = (dn : Int)) (hdn : dn < 10100) (k1 : JNw w dn b → Q 1) (k0 : ¬ JNw w dn b → Q 0) : pk_X1_joins a b w Q := by
  unfold pk_X1_joins
  have e25 : atv 10100 (w 25) a = w 25 dn := atv_at hd hdn
  have e26 : atv 10100 (w 26) a = w 26 dn := atv_at hd hdn
  have e27 : atv 10100 (w 27) a = w 27 dn := atv_at hd hdn
  rw [e26, e27]
  refine xl_is (fun v18 _ h18 => ?_)
  rw [e25] at h18
  have f1 : v18.toInt ≠ 0 ↔ FLq w dn 1 := h18
  refine ⟨fun y => (y.toInt ≠ 0 ↔ (¬ FLq w dn 1 ∧ (w 26 dn).toInt = (w 8 11).toInt ∧ ((w 27 dn).toInt = -1 ↔ (w 8 12).toInt = -1))), fun y73 _ h73 => ⟨fun y => (y.toInt ≠ 0 ↔ ((w 27 dn).toInt ≤ 0 ∨ (w 8 12).toInt ≤ 0 ∨ (w 27 dn).toInt = (w 8 12).toInt)), fun y99 _ h99 => ⟨fun y => (y.toInt ≠ 0 ↔ (b.toInt ≠ 1 ∧ ¬ FLq w dn 2)), fun y123 _ h123 => ⟨fun c => k0 (fun h => (h73.2 h.1) c), fun c73 => ⟨fun c => k0 (fun h => (h99.2 h.2.1) c), fun c99 => ⟨fun c => k0 (fun h => (h123.2 h.2.2.1) c), fun c123 => ⟨fun c => k1 ⟨h73.1 c73, h99.1 c99, h123.1 c123, Or.inl c⟩, fun c => xl_is (fun v153 _ h153 => ?_)⟩⟩⟩⟩, ¬ (b.toInt ≠ 1 ∧ ¬ FLq w dn 2), fun hj => ⟨fun h => absurd rfl h, fun h => absurd h hj⟩, fun c h => h.1 c, fun c => xl_is (fun v112 _ h112 => ?_)⟩, (w 27 dn).toInt ≤ 0 ∨ (w 8 12).toInt ≤ 0 ∨ (w 27 dn).toInt = (w 8 12).toInt, fun hj => ⟨fun _ => hj, fun _ => by decide⟩, fun c => Or.inl c, fun c => ⟨fun c2 => Or.inr (Or.inl c2), fun c2 => ⟨fun c3 => ⟨fun h => absurd rfl h, fun h => ?_⟩, fun c3 => Or.inr (Or.inr c3)⟩⟩⟩, ¬ (¬ FLq w dn 1 ∧ (w 26 dn).toInt = (w 8 11).toInt ∧ ((w 27 dn).toInt = -1 ↔ (w 8 12).toInt = -1)), fun hj => ⟨fun h => absurd rfl h, fun h => absurd h hj⟩, fun c h => h.1 (f1.1 c), fun c => ⟨fun c2 h => c2 h.2.1, fun c2 => ⟨fun y => (y.toInt = 0 ∨ y.toInt = 1) ∧ (y.toInt = 1 ↔ (w 27 dn).toInt = -1), fun y52 _ h52 => ⟨fun y => (y.toInt = 0 ∨ y.toInt = 1) ∧ (y.toInt = 1 ↔ (w 8 12).toInt = -1), fun y65 _ h65 => ⟨fun c3 h => ?_, fun c3 => ⟨fun _ => ⟨fun h => (f1.2 h) c, c2, ?_⟩, fun _ => by decide⟩⟩, fun c3 => ⟨Or.inl rfl, ⟨fun h => absurd h (by decide), fun h => absurd h c3⟩⟩, fun c3 => ⟨Or.inr rfl, ⟨fun _ => c3, fun _ => rfl⟩⟩⟩, fun c3 => ⟨Or.inl rfl, ⟨fun h => absurd h (by decide), fun h => absurd h c3⟩⟩, fun c3 => ⟨Or.inr rfl, ⟨fun _ => c3, fun _ => rfl⟩⟩⟩⟩⟩
  · rw [e25] at h153
    have f4 : v153.toInt ≠ 0 ↔ FLq w dn 4 := h153
    exact ⟨fun c4 => k0 (fun h => h.2.2.2.elim (fun h => h c) (fun h => h (f4.1 c4))), fun c4 => k1 ⟨h73.1 c73, h99.1 c99, h123.1 c123, Or.inr (fun h => (f4.2 h) c4)⟩⟩
  · rw [e25] at h112
    have f2 : v112.toInt ≠ 0 ↔ FLq w dn 2 := h112
    exact ⟨fun c4 h => h.2 (f2.1 c4), fun c4 => ⟨fun _ => ⟨c, fun h => (f2.2 h) c4⟩, fun _ => by decide⟩⟩
  · rcases h with h | h | h
    · omega
    · omega
    · exact absurd h c3
  · have i := h.2.2
    have i1 := h52.2
    have i2 := h65.2
    have n1 := h52.1
    have n2 := h65.1
    by_cases q : (w 27 dn).toInt = -1
    · have := i1.2 q
      have := i2.2 (i.1 q)
      omega
    · have q2 : ¬ (w 8 12).toInt = -1 := fun h => q (i.2 h)
      have : ¬ y52.toInt = 1 := fun h => q (i1.1 h)
      have : ¬ y65.toInt = 1 := fun h => q2 (i2.1 h)
      omega
  · rw [← h52.2, ← h65.2, c3]
theorem xl_checkOuter (kk : ∀ s, Kp [(6, 3), (6, 4)] [] w s → ((s 6 3).toInt ≠ 0 ↔ (w 6 3).toInt ≠ 0 ∨ c.toInt = 0 ∨ (b.toInt < 0 ∧ 100 ≤ (w 6 7).toInt)) → Q s) : pk_X1_checkOuter a b c w Q := by
  unfold pk_X1_checkOuter
  refine ⟨fun s => Kp [(6, 3), (6, 4)] [] w s ∧ ((s 6 3).toInt ≠ 0 ↔ (w 6 3).toInt ≠ 0 ∨ c.toInt = 0), ?_, fun h => ⟨kp_rf, ⟨fun g => Or.inl g, fun g => g.elim id (fun g => absurd g h)⟩⟩, fun h => xl_fail (by decide) (fun s ks hs => ⟨ks, fun _ => Or.inr h, fun _ => hs⟩)⟩
  rintro s ⟨ks, hs⟩
  have e67 : s 6 7 = w 6 7 := ks 6 7 rfl rfl
  refine ⟨fun h => kk s ks ?_, fun h => ⟨fun h2 => kk s ks ?_, fun h2 => xl_fail (by decide) (fun s2 k2 f2 => kk s2 (kp_tr ks k2) ⟨fun _ => Or.inr (Or.inr ⟨h, by rw [← e67]; exact h2⟩), fun _ => f2⟩)⟩⟩
  · rw [hs]
    exact ⟨fun g => g.elim Or.inl (fun g => Or.inr (Or.inl g)), fun g => g.elim Or.inl (fun g => g.elim Or.inr (fun g => by omega))⟩
  · rw [hs]
    rw [e67] at h2
    exact ⟨fun g => g.elim Or.inl (fun g => Or.inr (Or.inl g)), fun g => g.elim Or.inl (fun g => g.elim Or.inr (fun g => by omega))⟩
theorem xl_declareOuter {Q : Int32 → St → Prop} (hE : REq kd n S m lo w σ) (ha : a.toInt = (u : Int)) (hu : u ≤ n) (ku : kd u = 2) (hm : m < 100) (hlm : lo + m < 10000) (h31 : (σ 0 31).toInt + ((σ 4 u).toInt - (σ 3 u).toInt) ≤ 65536) (kk : ∀ (v : Int32) (s : St) (dn : Nat), (dn : Int) = (w 5 1).toInt → v.toInt = (dn : Int) → dn < 10100 → CDf w s u m dn → Q v s) : pk_X11_declareOuter a w Q := by
  obtain ⟨hT, hL, ⟨o1, o2, o3, ⟨o4, o4b⟩, o5, o6⟩, hD, hY⟩ := hE
  have hn := hT.1.1
  obtain ⟨t1, t2, t3, t4, t5, t6⟩ := hT.2.2.2.1 u hu ku
  have e15 : atv 16002 (w 15) a = w 15 u := atv_at ha (by omega)
  have e14 : atv 16002 (w 14) a = w 14 u := atv_at ha (by omega)
  unfold pk_X11_declareOuter pk_X8_declare_r1
  rw [e15, e14]
  have k0 : Kp [(6, 7)] [38, 39] w (upC (upF (upF w 38 (setv 100 (w 38) (w 6 7) a)) 39 (setv 100 ((upF w 38 (setv 100 (w 38) (w 6 7) a)) 39) (w 6 7) ((-1) : Int32))) 6 7 ((w 6 7) + (1 : Int32))) := kp_f (kp_F (kp_F kp_rf rfl) rfl) rfl
  have f67 : ((upC (upF (upF w 38 (setv 100 (w 38) (w 6 7) a)) 39 (setv 100 ((upF w 38 (setv 100 (w 38) (w 6 7) a)) 39) (w 6 7) ((-1) : Int32))) 6 7 ((w 6 7) + (1 : Int32))) 6 7).toInt = (m : Int) + 1 := by rw [rdA_eq rfl, ad1 (by omega), o1]
  have f38 : ∀ j, ((upC (upF (upF w 38 (setv 100 (w 38) (w 6 7) a)) 39 (setv 100 ((upF w 38 (setv 100 (w 38) (w 6 7) a)) 39) (w 6 7) ((-1) : Int32))) 6 7 ((w 6 7) + (1 : Int32))) 38 j).toInt = if j = m then (u : Int) else (w 38 j).toInt := fun j => by
    rw [rdC_ne (by decide), rdF_ne (by decide), rdF_eq, setv_at o1 hm]
    by_cases cj : j = m
    · simp [cj, ha]
    · simp [cj]
  have f39 : ∀ j, (upC (upF (upF w 38 (setv 100 (w 38) (w 6 7) a)) 39 (setv 100 ((upF w 38 (setv 100 (w 38) (w 6 7) a)) 39) (w 6 7) ((-1) : Int32))) 6 7 ((w 6 7) + (1 : Int32))) 39 j = if j = m then -1 else w 39 j := fun j => by
    rw [rdC_ne (by decide), rdF_eq, setv_at o1 hm, rdF_ne (by decide)]
  generalize upC (upF (upF w 38 (setv 100 (w 38) (w 6 7) a)) 39 (setv 100 ((upF w 38 (setv 100 (w 38) (w 6 7) a)) 39) (w 6 7) ((-1) : Int32))) 6 7 ((w 6 7) + (1 : Int32)) = s1 at k0 f67 f38 f39
  have e51 : s1 5 1 = w 5 1 := k0 5 1 rfl rfl
  have e57 : s1 5 7 = w 5 7 := k0 5 7 rfl rfl
  have h31b := o5.2.2.2.2.2.1
  have e57i : ((w 5 7) + (w 14 u)).toInt = (w 5 7).toInt + (w 14 u).toInt := ad (by omega) (by omega)
  have e15i : ((w 15 u) + (w 14 u)).toInt = (w 15 u).toInt + (w 14 u).toInt := ad (by omega) (by omega)
  rw [e51, e57, e57i, e15i]
  refine ⟨fun h => by omega, fun _ => ⟨fun h => by omega, fun _ => ⟨fun h => by omega, fun _ => ⟨fun h => by omega, fun _ => ⟨fun _ hb hr => ?_, fun h => by omega⟩⟩⟩⟩⟩
  obtain ⟨dn, hdn⟩ : ∃ dn : Nat, (dn : Int) = (w 5 1).toInt := ⟨(w 5 1).toInt.toNat, by omega⟩
  have ed : (w 5 1).toInt = (dn : Int) := hdn.symm
  have en : (w 5 1).toNatClampNeg = dn := nat_of ed
  have hd9 : dn < 10100 := by omega
  rw [en]
  refine kk _ _ dn hdn ed hd9 ⟨?_, ?_, ?_, ?_, fun j => ?_, fun j => ?_, fun j => ?_, ?_, fun j hj => ?_⟩
  · exact kp_F (kp_F (kp_f (kp_a (kp_f (kp_F (kp_sub k0 rfl rfl) rfl) rfl) rfl) rfl) rfl) rfl
  · rw [rdF_ne (by decide), rdF_ne (by decide), rdC_ne (by decide), rdC_ne (by decide), rdC_ne (by decide), rdF_ne (by decide)]
    exact f67
  · rw [rdF_ne (by decide), rdF_ne (by decide), rdA_eq rfl, ad1 (by omega), ed]
  · rw [rdF_ne (by decide), rdF_ne (by decide), rdA_ne (by decide), rdC_ne (by decide), rdA_eq rfl, e57i]
  · rw [rdF_ne (by decide), rdF_ne (by decide), rdC_ne (by decide), rdC_ne (by decide), rdC_ne (by decide), rdF_ne (by decide)]
    exact f38 j
  · rw [rdF_ne (by decide), rdF_ne (by decide), rdC_ne (by decide), rdC_ne (by decide), rdC_ne (by decide), rdF_ne (by decide)]
    exact f39 j
  · rw [rdF_ne (by decide), rdF_eq, setv_at ed hd9, rdC_ne (by decide), rdC_ne (by decide), rdC_ne (by decide), rdF_ne (by decide), show s1 25 = w 25 from funext (fun j => k0 25 j rfl rfl)]
  · have hbo := hb.2.2.2.2.2
    rw [show s1 1 = w 1 from funext (fun j => k0 1 j rfl rfl)] at hbo
    exact hbo
  · rw [rdF_eq, setv_at ed hd9]
    refine (if_neg hj).trans ?_
    rw [rdF_ne (by decide), rdC_ne (by decide), rdC_ne (by decide), rdC_ne (by decide), rdF_ne (by decide)]
    exact k0 28 j rfl rfl
end XGL
