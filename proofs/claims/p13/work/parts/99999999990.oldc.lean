/-! the class: what was declared before the unit stays, and the names of what is declared in it -/
abbrev OLw (c : Nat) : Prop := [1, 5, 6, 13, 14, 15, 25, 26, 27, 28, 29, 30, 38].contains c = false
/-- two tokens' names differ; so sameName() finds them -/
def NMd (w : St) (a b : Int32) : Prop := (atv 16002 (w 14) a).toInt ≠ (atv 16002 (w 14) b).toInt ∨ ∃ k : Nat, (k : Int) < (atv 16002 (w 14) a).toInt ∧ (w 1 ((atv 16002 (w 15) a).toInt.toNat + k)).toInt ≠ (w 1 ((atv 16002 (w 15) b).toInt.toNat + k)).toInt
def SNZ (w : St) (a b : Int32) : Prop := (atv 16002 (w 14) a).toInt ≠ (atv 16002 (w 14) b).toInt ∨ ∃ x : Int32, 0 ≤ x.toInt ∧ x.toInt < (atv 16002 (w 14) a).toInt ∧ (16000 ≤ ((atv 16002 (w 15) a) + x).toInt ∨ 16000 ≤ ((atv 16002 (w 15) b) + x).toInt ∨ (w 1 ((atv 16002 (w 15) a) + x).toNatClampNeg).toInt ≠ (w 1 ((atv 16002 (w 15) b) + x).toNatClampNeg).toInt)
/-- the name of the i-th of the unit: bytes of its token -/
def NMk (D : Nat) (w s : St) (i : Nat) : Prop := (s 29 (D + i)).toInt = (s 29 (D + i - 1)).toInt + (atv 16002 (w 14) (s 38 i)).toInt ∧ 0 ≤ (s 29 (D + i - 1)).toInt ∧ 0 ≤ (atv 16002 (w 14) (s 38 i)).toInt ∧ 0 ≤ (atv 16002 (w 15) (s 38 i)).toInt ∧ (s 29 (D + i)).toInt ≤ (s 5 7).toInt ∧ (atv 16002 (w 15) (s 38 i)).toInt + (atv 16002 (w 14) (s 38 i)).toInt ≤ 16000 ∧ ∀ k : Nat, (k : Int) < (atv 16002 (w 14) (s 38 i)).toInt → s 30 ((s 29 (D + i - 1)).toInt.toNat + k) = w 1 ((atv 16002 (w 15) (s 38 i)).toInt.toNat + k)
def OLr (D N : Nat) (w s : St) : Prop := (1 ≤ D ∧ D ≤ 10100) ∧ ((N : Int) ≤ (s 5 7).toInt ∧ (s 5 7).toInt ≤ 65600) ∧ (∀ j, j < D → s 25 j = w 25 j ∧ s 26 j = w 26 j ∧ s 27 j = w 27 j ∧ s 28 j = w 28 j ∧ s 29 j = w 29 j) ∧ (∀ i, i < N → s 30 i = w 30 i) ∧ (∀ d : Nat, (d : Int) + 1 = (s 5 1).toInt → (s 29 d).toInt = (s 5 7).toInt) ∧ (∀ i : Nat, (i : Int) < (s 6 7).toInt → NMk D w s i) ∧ ∀ i j : Nat, i < j → (j : Int) < (s 6 7).toInt → NMd w (s 38 i) (s 38 j)
def OLa (D : Nat) (s : St) : Prop := 0 ≤ (s 6 7).toInt ∧ (s 6 7).toInt ≤ 100 ∧ (s 5 1).toInt ≤ 10100 ∧ (D : Int) ≤ (s 5 1).toInt ∧ (s 5 1).toInt - (s 6 7).toInt ≤ D
def OLs (D N : Nat) (w s : St) : Prop := (s 1 = w 1 ∧ s 13 = w 13 ∧ s 14 = w 14 ∧ s 15 = w 15) ∧ OLa D s ∧ ((s 5 1).toInt - (s 6 7).toInt = D → OLr D N w s)
section OLH
variable {D N j : Nat} {w s t : St} {c k : Nat} {v a b : Int32} {f : Nat → Int32}
theorem setv_cs (n : Nat) (f : Nat → Int32) (i v : Int32) : setv n f i v = f ∨ ∃ j : Nat, i.toInt = j ∧ j < n ∧ setv n f i v = fun k => if k = j then v else f k := by
  by_cases h : 0 ≤ i.toInt ∧ i.toInt < n
  · exact Or.inr ⟨i.toInt.toNat, by omega, by omega, if_pos h⟩
  · exact Or.inl (if_neg h)
theorem ol_same (h : OLs D N w s) (e : ∀ c, c = 1 ∨ (13 ≤ c ∧ c ≤ 15) ∨ (25 ≤ c ∧ c ≤ 30) ∨ c = 38 → t c = s c) (e1 : t 5 1 = s 5 1) (e7 : t 5 7 = s 5 7) (e67 : t 6 7 = s 6 7) : OLs D N w t := by
  obtain ⟨⟨h1, h2, h3, h4⟩, h5, h6⟩ := h
  unfold OLs OLa OLr NMk
  unfold OLa at h5
  unfold OLr NMk at h6
  rw [e1, e7, e67, e 1 (by omega), e 13 (by omega), e 14 (by omega), e 15 (by omega), e 25 (by omega), e 26 (by omega), e 27 (by omega), e 28 (by omega), e 29 (by omega), e 30 (by omega), e 38 (by omega)]
  exact ⟨⟨h1, h2, h3, h4⟩, h5, h6⟩
theorem olw_ne (h : OLw c) {q : Nat} (hq : [1, 5, 6, 13, 14, 15, 25, 26, 27, 28, 29, 30, 38].contains q = true) : q ≠ c := fun e => by
  unfold OLw at h
  rw [← e, hq] at h
  cases h
theorem olw_op {u : Nat} (h : OPu u) : OLw u := by
  rcases h with h | h
  · rw [h]; exact rfl
  · unfold OLw
    simp only [List.contains_cons, List.contains_nil, Bool.or_false, Bool.or_eq_false_iff, beq_eq_false_iff_ne, ne_eq]
    omega
theorem ol_row (q : Nat) (h : q = 1 ∨ (13 ≤ q ∧ q ≤ 15) ∨ (25 ≤ q ∧ q ≤ 30) ∨ q = 38) : [1, 5, 6, 13, 14, 15, 25, 26, 27, 28, 29, 30, 38].contains q = true := by
  simp only [List.contains_cons, List.contains_nil, Bool.or_false, Bool.or_eq_true, beq_iff_eq]
  omega
theorem ol_c (h : OLs D N w s) (hc : OLw c) : OLs D N w (upC s c k v) := ol_same h (fun q hq => rdC_ne (olw_ne hc (ol_row q hq))) (by rw [rdC_ne (olw_ne hc rfl)]) (by rw [rdC_ne (olw_ne hc rfl)]) (by rw [rdC_ne (olw_ne hc rfl)])
theorem ol_F (h : OLs D N w s) (hc : OLw c) : OLs D N w (upF s c f) := ol_same h (fun q hq => rdF_ne (olw_ne hc (ol_row q hq))) (by rw [rdF_ne (olw_ne hc rfl)]) (by rw [rdF_ne (olw_ne hc rfl)]) (by rw [rdF_ne (olw_ne hc rfl)])
theorem ol_k (h : OLs D N w s) (hc : (c = 5 ∧ k ≠ 1 ∧ k ≠ 7) ∨ (c = 6 ∧ k ≠ 7)) : OLs D N w (upC s c k v) := by
  rcases hc with ⟨e, h1, h7⟩ | ⟨e, h7⟩
  · subst e
    exact ol_same h (fun q hq => rdC_ne (by omega)) (rdA_ne (fun e => h1 e.symm)) (rdA_ne (fun e => h7 e.symm)) (by rw [rdC_ne (by decide)])
  · subst e
    exact ol_same h (fun q hq => rdC_ne (by omega)) (by rw [rdC_ne (by decide)]) (by rw [rdC_ne (by decide)]) (rdA_ne (fun e => h7 e.symm))
theorem ol_e {r : St} (e : s = r) (h : OLs D N w r) : OLs D N w s := by
  rw [e]
  exact h
/-- where something may be written: what the unit has declared -/
def OLd (D : Nat) (s : St) (a : Int32) : Prop := (s 5 1).toInt - (s 6 7).toInt = D → a.toInt < 0 ∨ (D : Int) ≤ a.toInt
/-- a row of what is declared -/
theorem ol_d (h : OLs D N w s) (ha : OLd D s a) (hc : 25 ≤ c ∧ c ≤ 28) : OLs D N w (upF s c (setv 10100 (s c) a v)) := by
  rcases setv_cs 10100 (s c) a v with e | ⟨j, hj, hn, e⟩
  · rw [e]
    exact ol_same h (fun q hq => by
      by_cases x : q = c
      · rw [x, rdF_eq]
      · rw [rdF_ne x]) (by rw [rdF_ne (by omega)]) (by rw [rdF_ne (by omega)]) (by rw [rdF_ne (by omega)])
  · rw [e]
    obtain ⟨⟨h1, h2, h3, h4⟩, h5, h6⟩ := h
    have ne : ∀ q, q ≠ c → upF s c (fun k => if k = j then v else s c k) q = s q := fun q hq => rdF_ne hq
    refine ⟨⟨by rw [ne 1 (by omega)]; exact h1, by rw [ne 13 (by omega)]; exact h2, by rw [ne 14 (by omega)]; exact h3, by rw [ne 15 (by omega)]; exact h4⟩, by unfold OLa; rw [ne 5 (by omega), ne 6 (by omega)]; exact h5, fun hd => ?_⟩
    rw [ne 5 (by omega), ne 6 (by omega)] at hd
    obtain ⟨g1, g2, g3, g4, g5, g6⟩ := h6 hd
    have hj2 := ha hd
    have old : ∀ q i, i < D → upF s c (fun k => if k = j then v else s c k) q i = s q i := fun q i hi => by
      by_cases x : q = c
      · rw [x, rdF_eq]
        exact if_neg (by omega)
      · rw [ne q x]
    unfold OLr NMk
    rw [ne 5 (by omega), ne 6 (by omega), ne 29 (by omega), ne 30 (by omega), ne 38 (by omega)]
    refine ⟨g1, g2, fun i hi => ?_, g4, g5, g6⟩
    rw [old 25 i hi, old 26 i hi, old 27 i hi, old 28 i hi]
    exact g3 i hi
theorem old_k (h : OLd D s a) (e1 : t 5 1 = s 5 1) (e67 : t 6 7 = s 6 7) : OLd D t a := by
  unfold OLd at h ⊢
  rw [e1, e67]
  exact h
end OLH
theorem ol_pk_X11_fail {D N : Nat} {w : St} {a1 : Int32} {a2 : Int32} {σ : St} {Q : St → Prop} (hs : OLs D N w σ) (k : ∀ (v0 : St), OLs D N w v0 → Q v0) : pk_X11_fail a1 a2 σ Q := by
  unfold pk_X11_fail
  exact ⟨(fun _ => (k _ hs)), (fun _ => (k _ (ol_k (ol_k hs (by decide)) (by decide))))⟩
theorem ol_pk_X6_reset {D N : Nat} {w : St} {a0 : Nat} {a1 : Int32} {σ : St} {Q : St → Prop} (ua0 : OPu a0) (hs : OLs D N w σ) (k : ∀ (v0 : St), OLs D N w v0 → Q v0) : pk_X6_reset a0 a1 σ Q := by
  unfold pk_X6_reset
  exact (fun s0n => fun h1_ => (fun s2n => fun h2_ => (fun s4n => fun h3_ => (fun s6n => fun h4_ => (fun s8n => fun h5_ => (fun s10n => fun h6_ => (fun s12n => fun h7_ => (fun s14n => fun h8_ => (fun s16n => fun h9_ => (fun s18n => fun h10_ => (fun s20n => fun h11_ => (fun s22n => fun h12_ => (fun s24n => fun h13_ => (k _ (ol_e h13_ (ol_c (ol_e h12_ (ol_c (ol_e h11_ (ol_c (ol_e h10_ (ol_c (ol_e h9_ (ol_c (ol_e h8_ (ol_c (ol_e h7_ (ol_c (ol_e h6_ (ol_c (ol_e h5_ (ol_c (ol_e h4_ (ol_c (ol_e h3_ (ol_c (ol_e h2_ (ol_c (ol_e h1_ (ol_c hs (olw_op ua0))) (olw_op ua0))) (olw_op ua0))) (olw_op ua0))) (olw_op ua0))) (olw_op ua0))) (olw_op ua0))) (olw_op ua0))) (olw_op ua0))) (olw_op ua0))) (olw_op ua0))) (olw_op ua0))) (olw_op ua0)))))))))))))))))
theorem ol_pk_X2_push {D N : Nat} {w : St} {σ : St} {Q : Nat → St → Prop} (hs : OLs D N w σ) (k : ∀ (v0 : Nat) (v1 : St), OPu v0 → OLs D N w v1 → Q v0 v1) : pk_X2_push σ Q := by
  unfold pk_X2_push
  exact ⟨(fun x1_ => OPu x1_), ⟨(fun y0_35 => fun _ => fun j2_ => (ol_pk_X6_reset j2_ hs (fun s44 p3_ => (k _ _ j2_ (ol_c p3_ (by decide)))))), ⟨True, ⟨(fun j4_ => op_47), ⟨(fun _ => trivial), (fun _ => ⟨(fun _ => trivial), (fun _ => (fun _ => (op_65 _)))⟩)⟩⟩⟩⟩⟩
theorem ol_pk_X6_become {D N : Nat} {w : St} {a0 : Nat} {a1 : Int32} {a2 : Int32} {σ : St} {Q : St → Prop} (ua0 : OPu a0) (hs : OLs D N w σ) (k : ∀ (v0 : St), OLs D N w v0 → Q v0) : pk_X6_become a0 a1 a2 σ Q := by
  unfold pk_X6_become
  exact (fun s0n => fun h1_ => (fun s2n => fun h2_ => (fun s4n => fun h3_ => (fun s6n => fun h4_ => (k _ (ol_e h4_ (ol_c (ol_e h3_ (ol_c (ol_e h2_ (ol_c (ol_e h1_ (ol_c hs (olw_op ua0))) (olw_op ua0))) (olw_op ua0))) (olw_op ua0))))))))
theorem ol_pk_X0_emit {D N : Nat} {w : St} {a1 : Int32} {a2 : Int32} {a3 : Int32} {a4 : Int32} {σ : St} {Q : Int32 → St → Prop} (hs : OLs D N w σ) (k : ∀ (v0 : Int32) (v1 : St), OLs D N w v1 → Q v0 v1) : pk_X0_emit a1 a2 a3 a4 σ Q := by
  unfold pk_X0_emit
  exact ⟨(fun _ => (k _ _ hs)), (fun _ => ⟨(fun _ => (k _ _ hs)), (fun _ => (fun _ => (fun _ => (fun _ => (fun _ => ⟨(fun _ => (k _ _ (ol_c (ol_c (ol_c (ol_c (ol_c hs (by decide)) (by decide)) (by decide)) (by decide)) (by decide)))), (fun _ => ⟨(fun _ => (k _ _ (ol_c (ol_c (ol_c (ol_c (ol_c hs (by decide)) (by decide)) (by decide)) (by decide)) (by decide)))), (fun _ => (fun _ => (k _ _ (ol_c (ol_c (ol_c (ol_c (ol_c hs (by decide)) (by decide)) (by decide)) (by decide)) (by decide)))))⟩)⟩)))))⟩)⟩
theorem ol_pk_X2_address {D N : Nat} {w : St} {a1 : Nat} {σ : St} {Q : St → Prop} (ua1 : OPu a1) (hs : OLs D N w σ) (k : ∀ (v0 : St), OLs D N w v0 → Q v0) : pk_X2_address a1 σ Q := by
  unfold pk_X2_address
  exact ⟨(fun x1_ => True), ⟨(fun y0_13 => fun _ => fun j2_ => ⟨(fun x3_ => OLs D N w x3_), ⟨(fun s75 => fun j4_ => ⟨(fun x5_ => True), ⟨(fun y2_91 => fun j6_ => (ol_pk_X6_become ua1 j4_ (fun s91 p7_ => (fun s4n => fun h8_ => (fun s6n => fun h9_ => (k _ (ol_e h9_ (ol_c (ol_e h8_ (ol_c p7_ (olw_op ua1))) (olw_op ua1))))))))), ⟨(fun _ => trivial), (fun _ => trivial)⟩⟩⟩), ⟨(fun _ => ⟨(fun _ => hs), (fun _ => (ol_pk_X0_emit hs (fun v71 s71 p10_ => p10_)))⟩), (fun _ => (ol_pk_X0_emit (ol_F hs (by decide)) (fun v49 s49 p11_ => p11_)))⟩⟩⟩), ⟨(fun _ => trivial), (fun _ => trivial)⟩⟩⟩
theorem ol_pk_X2_refuse {D N : Nat} {w : St} {a1 : Int32} {σ : St} {Q : St → Prop} (hs : OLs D N w σ) (k : ∀ (v0 : St), OLs D N w v0 → Q v0) : pk_X2_refuse a1 σ Q := by
  unfold pk_X2_refuse
  exact (ol_pk_X11_fail hs (fun s6 p1_ => (k _ p1_)))
theorem ol_pk_X8_is {a1 : Int32} {a2 : Int32} {σ : St} {Q : Int32 → Prop} (k : ∀ (v0 : Int32), Q v0) : pk_X8_is a1 a2 σ Q := by
  unfold pk_X8_is
  exact ⟨(fun _ => (k _)), (fun _ => (k _))⟩
theorem ol_pk_X10_sameName {a1 : Int32} {a2 : Int32} {σ : St} {Q : Int32 → Prop} (k : ∀ (v0 : Int32), Q v0) : pk_X10_sameName a1 a2 σ Q := by
  unfold pk_X10_sameName
  exact ⟨(fun _ => ⟨(fun x1_ => True), ⟨trivial, (fun x6_46 => fun j2_ => ⟨(fun _ => (k _)), (fun _ => ⟨(fun _ => (k _)), (fun _ => ⟨(fun _ => (k _)), (fun _ => (fun _ => (fun _ => ⟨(fun _ => trivial), (fun _ => (k _))⟩)))⟩)⟩)⟩)⟩⟩), (fun _ => (k _))⟩
theorem ol_pk_X11_localFrom {a1 : Int32} {a2 : Int32} {σ : St} {Q : Int32 → Prop} (k : ∀ (v0 : Int32), Q v0) : pk_X11_localFrom a1 a2 σ Q := by
  unfold pk_X11_localFrom
  exact ⟨(fun x1_ => True), ⟨trivial, (fun x3_7 => fun j2_ => ⟨(fun _ => (k _)), (fun _ => (ol_pk_X10_sameName (fun v36 => ⟨(fun _ => trivial), (fun _ => (k _))⟩)))⟩)⟩⟩
theorem ol_pk_X1_checkSquare {D N : Nat} {w : St} {a1 : Int32} {σ : St} {Q : St → Prop} (hs : OLs D N w σ) (k : ∀ (v0 : St), OLs D N w v0 → Q v0) : pk_X1_checkSquare a1 σ Q := by
  unfold pk_X1_checkSquare
  exact ⟨(fun x1_ => OLs D N w x1_), ⟨(fun s42 => fun j2_ => ⟨(fun _ => (k _ j2_)), (fun _ => ⟨(fun _ => (k _ j2_)), (fun _ => (ol_pk_X11_fail j2_ (fun s68 p3_ => (k _ p3_))))⟩)⟩), ⟨(fun _ => hs), (fun _ => ⟨True, ⟨(fun j4_ => (ol_pk_X11_fail hs (fun s39 p5_ => p5_))), ⟨(fun _ => ⟨(fun _ => hs), (fun _ => trivial)⟩), (fun _ => ⟨(fun _ => hs), (fun _ => trivial)⟩)⟩⟩⟩)⟩⟩⟩
theorem ol_pk_X0_header {D N : Nat} {w : St} {σ : St} {Q : Int32 → St → Prop} (hs : OLs D N w σ) (k : ∀ (v0 : Int32) (v1 : St), OLs D N w v1 → Q v0 v1) : pk_X0_header σ Q := by
  unfold pk_X0_header
  exact ⟨(fun _ => (k _ _ (ol_c hs (by decide)))), (fun _ => (k _ _ (ol_c hs (by decide))))⟩
theorem ol_pk_X11_leave {D N : Nat} {w : St} {σ : St} {Q : St → Prop} (hs : OLs D N w σ) (k : ∀ (v0 : St), OLs D N w v0 → Q v0) : pk_X11_leave σ Q := by
  unfold pk_X11_leave
  exact (k _ (ol_k (ol_k (ol_k (ol_k hs (by decide)) (by decide)) (by decide)) (by decide)))
theorem ol_pk_X11_open {D N : Nat} {w : St} {σ : St} {Q : St → Prop} (hs : OLs D N w σ) (k : ∀ (v0 : St), OLs D N w v0 → Q v0) : pk_X11_open σ Q := by
  unfold pk_X11_open
  exact (k _ (ol_k (ol_F hs (by decide)) (by decide)))
theorem ol_pk_X11_enter {D N : Nat} {w : St} {a1 : Int32} {σ : St} {Q : St → Prop} (hs : OLs D N w σ) (k : ∀ (v0 : St), OLs D N w v0 → Q v0) : pk_X11_enter a1 σ Q := by
  unfold pk_X11_enter
  exact (ol_pk_X11_leave hs (fun s1 p1_ => (ol_pk_X11_open (ol_k p1_ (by decide)) (fun s10 p2_ => (k _ p2_)))))
theorem ol_pk_X1_joins {a1 : Int32} {a2 : Int32} {σ : St} {Q : Int32 → Prop} (k : ∀ (v0 : Int32), Q v0) : pk_X1_joins a1 a2 σ Q := by
  unfold pk_X1_joins
  exact (ol_pk_X8_is (fun v18 => ⟨(fun x1_ => True), ⟨(fun y0_73 => fun _ => fun j2_ => ⟨(fun x3_ => True), ⟨(fun y0_99 => fun _ => fun j4_ => ⟨(fun x5_ => True), ⟨(fun y0_123 => fun _ => fun j6_ => ⟨(fun _ => (k _)), (fun _ => ⟨(fun _ => (k _)), (fun _ => ⟨(fun _ => (k _)), (fun _ => ⟨(fun _ => (k _)), (fun _ => (ol_pk_X8_is (fun v153 => ⟨(fun _ => (k _)), (fun _ => (k _))⟩)))⟩)⟩)⟩)⟩), ⟨True, ⟨(fun j7_ => trivial), ⟨(fun _ => trivial), (fun _ => (ol_pk_X8_is (fun v112 => ⟨(fun _ => trivial), (fun _ => trivial)⟩)))⟩⟩⟩⟩⟩), ⟨True, ⟨(fun j8_ => trivial), ⟨(fun _ => trivial), (fun _ => ⟨(fun _ => trivial), (fun _ => ⟨(fun _ => trivial), (fun _ => trivial)⟩)⟩)⟩⟩⟩⟩⟩), ⟨True, ⟨(fun j9_ => trivial), ⟨(fun _ => trivial), (fun _ => ⟨(fun _ => trivial), (fun _ => ⟨(fun x10_ => True), ⟨(fun y0_52 => fun _ => fun j11_ => ⟨(fun x12_ => True), ⟨(fun y1_65 => fun _ => fun j13_ => ⟨(fun _ => trivial), (fun _ => trivial)⟩), ⟨(fun _ => trivial), (fun _ => trivial)⟩⟩⟩), ⟨(fun _ => trivial), (fun _ => trivial)⟩⟩⟩)⟩)⟩⟩⟩⟩⟩))
section OLM
variable {D N j : Nat} {w s t σ : St} {c k : Nat} {v a b a1 a2 a3 : Int32} {f : Nat → Int32}
theorem ol_pk_X8_mark {Q : St → Prop} (hs : OLs D N w σ) (ha : OLd D σ a1) (k : ∀ v0, OLs D N w v0 → v0 5 = σ 5 → v0 6 = σ 6 → Q v0) : pk_X8_mark a1 a2 σ Q := by
  unfold pk_X8_mark
  exact k _ (ol_d hs ha (by omega)) (rdF_ne (by decide)) (rdF_ne (by decide))
theorem ol_sameName {Q : Int32 → Prop} (h1 : σ 1 = w 1) (h14 : σ 14 = w 14) (h15 : σ 15 = w 15) (k1 : Q (1 : Int32)) (k0 : SNZ w a b → Q (0 : Int32)) : pk_X10_sameName a b σ Q := by
  unfold pk_X10_sameName
  rw [h1, h14, h15]
  refine ⟨fun c => ⟨fun x => 0 ≤ x.toInt, by decide, fun x hx => ⟨fun _ => k1, fun c2 => ⟨fun c3 => k0 (Or.inr ⟨x, hx, c2, Or.inl c3⟩), fun _ => ⟨fun c4 => k0 (Or.inr ⟨x, hx, c2, Or.inr (Or.inl c4)⟩), fun _ _ _ => ⟨fun _ => ?_, fun c5 => k0 (Or.inr ⟨x, hx, c2, Or.inr (Or.inr c5)⟩)⟩⟩⟩⟩⟩, fun c => k0 (Or.inl c)⟩
  have := (s_rng (atv 16002 (w 14) a)).2
  show 0 ≤ (x + 1).toInt
  rw [ad1 (by omega)]
  omega
theorem nmd_of (h : SNZ w a b) (ha : 0 ≤ (atv 16002 (w 15) a).toInt ∧ (atv 16002 (w 15) a).toInt + (atv 16002 (w 14) a).toInt ≤ 16000) (hb : 0 ≤ (atv 16002 (w 15) b).toInt ∧ (atv 16002 (w 15) b).toInt + (atv 16002 (w 14) b).toInt ≤ 16000) : NMd w a b := by
  by_cases e : (atv 16002 (w 14) a).toInt = (atv 16002 (w 14) b).toInt
  · rcases h with h | ⟨x, x0, x1, hx⟩
    · exact absurd e h
    · have ea : ((atv 16002 (w 15) a) + x).toInt = (atv 16002 (w 15) a).toInt + x.toInt := ad (by omega) (by omega)
      have eb : ((atv 16002 (w 15) b) + x).toInt = (atv 16002 (w 15) b).toInt + x.toInt := ad (by omega) (by omega)
      rcases hx with hx | hx | hx
      · omega
      · omega
      · refine Or.inr ⟨x.toInt.toNat, by omega, ?_⟩
        rw [nt', nt', ea, eb] at hx
        rw [show (atv 16002 (w 15) a).toInt.toNat + x.toInt.toNat = ((atv 16002 (w 15) a).toInt + x.toInt).toNat from by omega, show (atv 16002 (w 15) b).toInt.toNat + x.toInt.toNat = ((atv 16002 (w 15) b).toInt + x.toInt).toNat from by omega]
        exact hx
  · exact Or.inl e
theorem ol_pk_X11_outerOf {Q : Int32 → Prop} (hs : OLs D N w σ) (k : ∀ v, OLd D σ v → (v.toInt < 0 → (σ 5 1).toInt - (σ 6 7).toInt = D → ∀ i : Nat, (i : Int) < (σ 6 7).toInt → SNZ w (σ 38 i) a1) → Q v) : pk_X11_outerOf a1 σ Q := by
  have h67 := hs.2.1.2.1
  unfold pk_X11_outerOf
  refine ⟨fun x => 0 ≤ x.toInt ∧ ∀ i : Nat, (i : Int) < x.toInt → SNZ w (σ 38 i) a1, ⟨by decide, fun i hi => by rw [show (0 : Int32).toInt = 0 from rfl] at hi; omega⟩, fun x hx => ⟨fun c => k _ (fun _ => Or.inl (by decide)) (fun _ _ i hi => hx.2 i (by omega)), fun c => ol_sameName hs.1.1 hs.1.2.2.1 hs.1.2.2.2 ⟨fun c2 => absurd c2 (by decide), fun _ => k _ (fun hd => ?_) (fun c2 c3 => ?_)⟩ (fun hz => ⟨fun _ => ?_, fun c2 => absurd rfl c2⟩)⟩⟩
  · obtain ⟨h1, h2, h3, h4, h5⟩ := hs.2.1
    have e1 : ((σ 5 1) - (σ 6 7)).toInt = (σ 5 1).toInt - (σ 6 7).toInt := sb (by omega) (by omega)
    rw [ad (by omega) (by omega), e1]
    omega
  · exfalso
    obtain ⟨h1, h2, h3, h4, h5⟩ := hs.2.1
    have e1 : ((σ 5 1) - (σ 6 7)).toInt = (σ 5 1).toInt - (σ 6 7).toInt := sb (by omega) (by omega)
    rw [ad (by omega) (by omega), e1] at c2
    omega
  · obtain ⟨x0, x1⟩ := hx
    rw [atv_at (j := x.toInt.toNat) (by omega) (by omega)] at hz
    refine ⟨by rw [ad1 (by omega)]; omega, fun i hi => ?_⟩
    rw [ad1 (by omega)] at hi
    by_cases e : i = x.toInt.toNat
    · rw [e]; exact hz
    · exact x1 i (by omega)
theorem ol_pk_X11_mentionCall {Q : St → Prop} (hs : OLs D N w σ) (ha : OLd D σ a1) (k : ∀ v0, OLs D N w v0 → Q v0) : pk_X11_mentionCall a1 a2 σ Q := by
  unfold pk_X11_mentionCall
  exact ol_pk_X8_mark hs ha (fun s h _ _ => ⟨fun _ => k _ h, fun _ => k _ (ol_F h rfl)⟩)
theorem ox_reset {Q : St → Prop} {u : Nat} (hu : OPu u) (hs : OLs D N w σ) (k : ∀ v0, OLs D N w v0 → v0 5 = σ 5 → v0 6 = σ 6 → Q v0) : pk_X6_reset u a1 σ Q := by
  have n5 : 5 ≠ u := olw_ne (olw_op hu) rfl
  have n6 : 6 ≠ u := olw_ne (olw_op hu) rfl
  unfold pk_X6_reset
  intro s0 h0 s2 h2 s4 h4 s6 h6 s8 h8 s10 h10 s12 h12 s14 h14 s16 h16 s18 h18 s20 h20 s22 h22 s24 h24
  have st : ∀ {x y : St} {k : Nat} {v : Int32}, y = upC x u k v → (OLs D N w x ∧ x 5 = σ 5 ∧ x 6 = σ 6) → OLs D N w y ∧ y 5 = σ 5 ∧ y 6 = σ 6 := fun e h => by
    rw [e]
    exact ⟨ol_c h.1 (olw_op hu), by rw [rdC_ne n5]; exact h.2.1, by rw [rdC_ne n6]; exact h.2.2⟩
  have z := st h24 (st h22 (st h20 (st h18 (st h16 (st h14 (st h12 (st h10 (st h8 (st h6 (st h4 (st h2 (st h0 ⟨hs, rfl, rfl⟩))))))))))))
  exact k _ z.1 z.2.1 z.2.2
theorem ox_push {Q : Nat → St → Prop} (hs : OLs D N w σ) (k : ∀ u s, OPu u → OLs D N w s → s 5 = σ 5 → s 6 = σ 6 → Q u s) : pk_X2_push σ Q := by
  unfold pk_X2_push
  exact ⟨(fun x1_ => OPu x1_), ⟨(fun y0_35 => fun _ => fun j2_ => (ox_reset j2_ hs (fun s44 p3_ e5 e6 => (k _ _ j2_ (ol_c p3_ rfl) ((rdC_ne (by decide)).trans e5) ((rdC_ne (by decide)).trans e6))))), ⟨True, ⟨(fun j4_ => op_47), ⟨(fun _ => trivial), (fun _ => ⟨(fun _ => trivial), (fun _ => (fun _ => (op_65 _)))⟩)⟩⟩⟩⟩⟩
theorem ol_pk_X2_named {Q : St → Prop} (hs : OLs D N w σ) (k : ∀ v0, OLs D N w v0 → Q v0) : pk_X2_named a1 σ Q := by
  unfold pk_X2_named
  refine ol_pk_X11_localFrom (fun v6 => ⟨fun y => OLd D σ y, fun y0 hy => ⟨True, fun _ => ?_, fun _ => trivial, fun _ => ⟨True, fun _ => ol_pk_X2_refuse hs (fun s h => k _ h), fun _ => trivial, fun _ => ol_pk_X8_is (fun v => ⟨fun _ => trivial, fun _ => trivial⟩)⟩⟩, fun _ => fun _ => Or.inl (by decide), fun _ => ol_pk_X11_outerOf hs (fun v h _ => h)⟩)
  refine ox_push hs (fun u s hu hs4 e5 e6 => ?_)
  intro s4 h4
  refine ⟨fun _ => True, fun y1 _ s7 h7 => ⟨fun _ => True, fun y2 _ s10 h10 => ?_, fun _ => trivial, fun _ => trivial⟩, fun _ => trivial, fun _ => trivial⟩
  have g10 : OLs D N w s10 := by
    rw [h10, h7, h4]
    exact ol_c (ol_c (ol_c hs4 (olw_op hu)) (olw_op hu)) (olw_op hu)
  have u5 : 5 ≠ u := olw_ne (olw_op hu) rfl
  have u6 : 6 ≠ u := olw_ne (olw_op hu) rfl
  have f5 : s10 5 1 = σ 5 1 := by rw [h10, h7, h4, rdC_ne u5, rdC_ne u5, rdC_ne u5, e5]
  have f6 : s10 6 7 = σ 6 7 := by rw [h10, h7, h4, rdC_ne u6, rdC_ne u6, rdC_ne u6, e6]
  refine ol_pk_X8_mark g10 (old_k hy f5 f6) (fun s h _ _ => ⟨fun _ => ⟨fun _ => k _ h, fun _ => ol_pk_X2_address hu h (fun s h => k _ h)⟩, fun _ => ⟨fun _ => k _ h, fun _ => ol_pk_X2_address hu h (fun s h => k _ h)⟩⟩)
theorem ol_pk_X2_callee {Q : St → Prop} (hs : OLs D N w σ) (k : ∀ v0, OLs D N w v0 → Q v0) : pk_X2_callee a1 σ Q := by
  unfold pk_X2_callee
  refine ol_pk_X11_localFrom (fun v6 => ⟨fun y => OLd D σ y, fun y0 hy => ⟨True, fun _ => ol_pk_X2_refuse hs (fun s h => k _ h), fun _ => trivial, fun _ => ol_pk_X8_is (fun v => ⟨fun _ => ?_, fun _ => trivial⟩)⟩, fun _ => fun _ => Or.inl (by decide), fun _ => ol_pk_X11_outerOf hs (fun v h _ => h)⟩)
  refine ol_pk_X11_mentionCall hs hy (fun s h => ol_pk_X2_push h (fun u s2 hu h2 s10 e10 s12 e12 s14 e14 s16 e16 => k _ ?_))
  rw [e16, e14, e12, e10]
  exact ol_c (ol_c (ol_c (ol_c h2 (olw_op hu)) (olw_op hu)) (olw_op hu)) (olw_op hu)
theorem ol_declare {Q : Int32 → St → Prop} (hs : OLs D N w s) (h100 : (s 6 7).toInt < 100) (hz : (s 5 1).toInt - (s 6 7).toInt = D → ∀ i : Nat, (i : Int) < (s 6 7).toInt → SNZ w (s 38 i) a1) (k : ∀ v t, OLs D N w t → OLd D t v → Q v t) : pk_X11_declareOuter a1 s Q := by
  obtain ⟨⟨h1, h2, h3, h4⟩, ⟨p1, p2, p3, p4, p5⟩, h6⟩ := hs
  obtain ⟨m, hm⟩ : ∃ m : Nat, (s 6 7).toInt = m := ⟨(s 6 7).toInt.toNat, by omega⟩
  have hm100 : m < 100 := by omega
  unfold pk_X11_declareOuter pk_X8_declare_r1
  rw [h3, h4]
  generalize hu : upC (upF (upF s 38 (setv 100 (s 38) (s 6 7) a1)) 39 (setv 100 ((upF s 38 (setv 100 (s 38) (s 6 7) a1)) 39) (s 6 7) ((-1) : Int32))) 6 7 ((s 6 7) + (1 : Int32)) = u
  have ne : ∀ c, c ≠ 6 → c ≠ 38 → c ≠ 39 → u c = s c := fun c c6 c38 c39 => by rw [← hu, rdC_ne c6, rdF_ne c39, rdF_ne c38]
  have u38 : u 38 = fun q => if q = m then a1 else s 38 q := by rw [← hu, rdC_ne (by decide), rdF_ne (by decide), rdF_eq, setv_at hm hm100]
  have u67 : (u 6 7).toInt = (m : Int) + 1 := by rw [← hu, rdA_eq rfl, ad1 (by omega), hm]
  clear hu
  have bad : OLs D N w u := by
    refine ⟨⟨by rw [ne 1 (by decide) (by decide) (by decide)]; exact h1, by rw [ne 13 (by decide) (by decide) (by decide)]; exact h2, by rw [ne 14 (by decide) (by decide) (by decide)]; exact h3, by rw [ne 15 (by decide) (by decide) (by decide)]; exact h4⟩, ⟨by omega, by omega, by rw [ne 5 (by decide) (by decide) (by decide)]; exact p3, by rw [ne 5 (by decide) (by decide) (by decide)]; exact p4, by rw [ne 5 (by decide) (by decide) (by decide)]; omega⟩, fun hd => ?_⟩
    rw [ne 5 (by decide) (by decide) (by decide)] at hd
    omega
  have nb : OLd D u ((-1) : Int32) := fun _ => Or.inl (by decide)
  rw [ne 5 (by decide) (by decide) (by decide), ne 1 (by decide) (by decide) (by decide)]
  refine ⟨fun _ => k _ _ bad nb, fun c1 => ⟨fun _ => k _ _ bad nb, fun c2 => ⟨fun _ => k _ _ bad nb, fun c3 => ⟨fun _ => k _ _ bad nb, fun c4 => ⟨fun c5 hb hr => ?_, fun _ => k _ _ bad nb⟩⟩⟩⟩⟩
  obtain ⟨b1, b2, b3, b4, b5, b6⟩ := hb
  obtain ⟨d, hd⟩ : ∃ d : Nat, (s 5 1).toInt = d := ⟨(s 5 1).toInt.toNat, by omega⟩
  have ed : (s 5 1).toNatClampNeg = d := by rw [nt', hd]; rfl
  have e57 : ((s 5 7) + (atv 16002 (w 14) a1)).toInt = (s 5 7).toInt + (atv 16002 (w 14) a1).toInt := ad (by omega) (by omega)
  rw [ed]
  generalize ht : upF (upF (upC (upC (upC (upF u 30 (va_cpy (s 1) (u 30) (atv 16002 (w 15) a1).toNatClampNeg (s 5 7).toNatClampNeg (atv 16002 (w 14) a1).toNatClampNeg)) 5 7 ((s 5 7) + (atv 16002 (w 14) a1))) 29 d ((s 5 7) + (atv 16002 (w 14) a1))) 5 1 ((s 5 1) + (1 : Int32))) 25 _) 28 _ = t
  have tne : ∀ c, c ≠ 5 → c ≠ 6 → c ≠ 38 → c ≠ 39 → c ≠ 25 → c ≠ 28 → c ≠ 29 → c ≠ 30 → t c = s c := fun c c5 c6 c38 c39 c25 c28 c29 c30 => by rw [← ht, rdF_ne c28, rdF_ne c25, rdC_ne c5, rdC_ne c29, rdC_ne c5, rdF_ne c30, ne c c6 c38 c39]
  have t6 : t 6 7 = u 6 7 := by rw [← ht, rdF_ne (by decide), rdF_ne (by decide), rdC_ne (by decide), rdC_ne (by decide), rdC_ne (by decide), rdF_ne (by decide)]
  have t38 : t 38 = u 38 := by rw [← ht, rdF_ne (by decide), rdF_ne (by decide), rdC_ne (by decide), rdC_ne (by decide), rdC_ne (by decide), rdF_ne (by decide)]
  have t51 : (t 5 1).toInt = (d : Int) + 1 := by rw [← ht, rdF_ne (by decide), rdF_ne (by decide), rdA_eq rfl, ad1 (by omega), hd]
  have t57 : (t 5 7).toInt = (s 5 7).toInt + (atv 16002 (w 14) a1).toInt := by rw [← ht, rdF_ne (by decide), rdF_ne (by decide), rdA_ne (by decide), rdC_ne (by decide), rdA_eq rfl, e57]
  have t29 : t 29 = fun q => if q = d then (s 5 7) + (atv 16002 (w 14) a1) else s 29 q := by rw [← ht, rdF_ne (by decide), rdF_ne (by decide), rdC_ne (by decide), rdC_eq, rdC_ne (by decide), rdF_ne (by decide), ne 29 (by decide) (by decide) (by decide)]
  have t30 : t 30 = va_cpy (s 1) (s 30) (atv 16002 (w 15) a1).toNatClampNeg (s 5 7).toNatClampNeg (atv 16002 (w 14) a1).toNatClampNeg := by rw [← ht, rdF_ne (by decide), rdF_ne (by decide), rdC_ne (by decide), rdC_ne (by decide), rdC_ne (by decide), rdF_eq, ne 30 (by decide) (by decide) (by decide)]
  have t25 : ∀ q, q ≠ d → t 25 q = s 25 q := fun q hq => by
    rw [← ht, rdF_ne (by decide), rdF_eq, setv_at hd (by omega)]
    show (if q = d then _ else _) = _
    rw [if_neg hq, rdC_ne (by decide), rdC_ne (by decide), rdC_ne (by decide), rdF_ne (by decide), ne 25 (by decide) (by decide) (by decide)]
  have t28 : ∀ q, q ≠ d → t 28 q = s 28 q := fun q hq => by
    rw [← ht, rdF_eq, setv_at hd (by omega)]
    show (if q = d then _ else _) = _
    rw [if_neg hq, rdF_ne (by decide), rdC_ne (by decide), rdC_ne (by decide), rdC_ne (by decide), rdF_ne (by decide), ne 28 (by decide) (by decide) (by decide)]
  clear ht
  refine k _ t ⟨⟨by rw [tne 1 (by decide) (by decide) (by decide) (by decide) (by decide) (by decide) (by decide) (by decide)]; exact h1, by rw [tne 13 (by decide) (by decide) (by decide) (by decide) (by decide) (by decide) (by decide) (by decide)]; exact h2, by rw [tne 14 (by decide) (by decide) (by decide) (by decide) (by decide) (by decide) (by decide) (by decide)]; exact h3, by rw [tne 15 (by decide) (by decide) (by decide) (by decide) (by decide) (by decide) (by decide) (by decide)]; exact h4⟩, ⟨by rw [t6]; omega, by rw [t6]; omega, by omega, by omega, by rw [t6]; omega⟩, fun hq => ?_⟩ (fun _ => Or.inr (by omega))
  rw [t6] at hq
  have hdm : (d : Int) = D + m := by omega
  obtain ⟨g1, g2, g3, g4, g5, g6, g7⟩ := h6 (by omega)
  have n30 : ∀ q : Nat, (q : Int) < (s 5 7).toInt → t 30 q = s 30 q := fun q hq => by
    rw [t30]
    exact cpy_out (Or.inl (by rw [nt']; omega))
  refine ⟨g1, by omega, fun i hi => ?_, fun i hi => by rw [n30 i (by omega)]; exact g4 i hi, fun q hq => ?_, fun i hi => ?_, fun i j hij hj => ?_⟩
  · rw [t25 i (by omega), tne 26 (by decide) (by decide) (by decide) (by decide) (by decide) (by decide) (by decide) (by decide), tne 27 (by decide) (by decide) (by decide) (by decide) (by decide) (by decide) (by decide) (by decide), t28 i (by omega), t29]
    show _ ∧ _ ∧ _ ∧ _ ∧ (if i = d then _ else s 29 i) = _
    rw [if_neg (by omega)]
    exact g3 i hi
  · have : q = d := by omega
    rw [t29, this, t57]
    show (if d = d then _ else s 29 d).toInt = _
    rw [if_pos rfl]
    exact e57
  · rw [t6] at hi
    unfold NMk
    rw [t38, u38, t29]
    by_cases c : i = m
    · subst c
      have x1 : D + i = d := by omega
      have x2 : D + i - 1 ≠ d := by omega
      have last := g5 (D + i - 1) (by omega)
      show (if D + i = d then _ else s 29 (D + i)).toInt = (if D + i - 1 = d then _ else s 29 (D + i - 1)).toInt + (atv 16002 (w 14) (if i = i then a1 else s 38 i)).toInt ∧ 0 ≤ (if D + i - 1 = d then _ else s 29 (D + i - 1)).toInt ∧ 0 ≤ (atv 16002 (w 14) (if i = i then a1 else s 38 i)).toInt ∧ 0 ≤ (atv 16002 (w 15) (if i = i then a1 else s 38 i)).toInt ∧ (if D + i = d then _ else s 29 (D + i)).toInt ≤ _ ∧ (atv 16002 (w 15) (if i = i then a1 else s 38 i)).toInt + (atv 16002 (w 14) (if i = i then a1 else s 38 i)).toInt ≤ 16000 ∧ ∀ k : Nat, (k : Int) < (atv 16002 (w 14) (if i = i then a1 else s 38 i)).toInt → t 30 ((if D + i - 1 = d then _ else s 29 (D + i - 1)).toInt.toNat + k) = w 1 ((atv 16002 (w 15) (if i = i then a1 else s 38 i)).toInt.toNat + k)
      rw [if_pos x1, if_neg x2, if_pos rfl, e57, last, t57]
      refine ⟨rfl, b2, b3, b1, Int.le_refl _, b4, fun k hk => ?_⟩
      rw [t30, cpy_in (by rw [nt']; omega) (by rw [nt', nt']; omega), h1, nt', nt']
      congr 1
      omega
    · have x1 : D + i ≠ d := by omega
      have x2 : D + i - 1 ≠ d := by omega
      obtain ⟨q1, q2, q3, q4, q5, q55, q6⟩ := g6 i (by omega)
      show (if D + i = d then _ else s 29 (D + i)).toInt = (if D + i - 1 = d then _ else s 29 (D + i - 1)).toInt + (atv 16002 (w 14) (if i = m then a1 else s 38 i)).toInt ∧ 0 ≤ (if D + i - 1 = d then _ else s 29 (D + i - 1)).toInt ∧ 0 ≤ (atv 16002 (w 14) (if i = m then a1 else s 38 i)).toInt ∧ 0 ≤ (atv 16002 (w 15) (if i = m then a1 else s 38 i)).toInt ∧ (if D + i = d then _ else s 29 (D + i)).toInt ≤ _ ∧ (atv 16002 (w 15) (if i = m then a1 else s 38 i)).toInt + (atv 16002 (w 14) (if i = m then a1 else s 38 i)).toInt ≤ 16000 ∧ ∀ k : Nat, (k : Int) < (atv 16002 (w 14) (if i = m then a1 else s 38 i)).toInt → t 30 ((if D + i - 1 = d then _ else s 29 (D + i - 1)).toInt.toNat + k) = w 1 ((atv 16002 (w 15) (if i = m then a1 else s 38 i)).toInt.toNat + k)
      rw [if_neg x1, if_neg x2, if_neg c, t57]
      refine ⟨q1, q2, q3, q4, by omega, q55, fun k hk => ?_⟩
      rw [n30 _ (by omega)]
      exact q6 k hk
  · rw [t6] at hj
    rw [t38, u38]
    show NMd w (if i = m then a1 else s 38 i) (if j = m then a1 else s 38 j)
    rw [if_neg (by omega)]
    by_cases c : j = m
    · rw [if_pos c]
      obtain ⟨q1, q2, q3, q4, q5, q55, q6⟩ := g6 i (by omega)
      exact nmd_of (hz (by omega) i (by omega)) ⟨q4, q55⟩ ⟨b1, b4⟩
    · rw [if_neg c]
      exact g7 i j hij (by omega)
theorem ol_checkOuter {Q : St → Prop} (hs : OLs D N w σ) (k : ∀ s, OLs D N w s → s 5 = σ 5 → s 38 = σ 38 → s 6 7 = σ 6 7 → (a2.toInt < 0 → (s 6 3).toInt = 0 → (s 6 7).toInt < 100) → Q s) : pk_X1_checkOuter a1 a2 a3 σ Q := by
  have fl : ∀ {x y : Int32} {s : St} {Q : St → Prop}, x.toInt ≠ 0 → OLs D N w s → (∀ t, OLs D N w t → t 5 = s 5 → t 38 = s 38 → t 6 7 = s 6 7 → (t 6 3).toInt ≠ 0 → Q t) → pk_X11_fail x y s Q := fun {x y s Q} hx h k => by
    unfold pk_X11_fail
    exact ⟨fun c => k _ h rfl rfl rfl c, fun _ => k _ (ol_k (ol_k h (by decide)) (by decide)) (by rw [rdC_ne (by decide), rdC_ne (by decide)]) (by rw [rdC_ne (by decide), rdC_ne (by decide)]) (by rw [rdA_ne (by decide), rdA_ne (by decide)]) (by rw [rdA_ne (by decide), rdA_eq rfl]; exact hx)⟩
  unfold pk_X1_checkOuter
  refine ⟨fun s => OLs D N w s ∧ s 5 = σ 5 ∧ s 38 = σ 38 ∧ s 6 7 = σ 6 7, fun s ⟨h, e5, e38, e6⟩ => ⟨fun c => k s h e5 e38 e6 (fun c2 => by omega), fun c => ⟨fun c2 => k s h e5 e38 e6 (fun _ _ => c2), fun c2 => fl (by decide) h (fun t ht f5 f38 f6 f3 => k t ht (f5.trans e5) (f38.trans e38) (f6.trans e6) (fun _ c3 => absurd c3 f3))⟩⟩, fun _ => ⟨hs, rfl, rfl, rfl⟩, fun _ => fl (by decide) hs (fun t ht f5 f38 f6 _ => ⟨ht, f5, f38, f6⟩)⟩
/-- on the way to a declaration: no fault yet leaves room for one more -/
def OLo (D N : Nat) (w σ : St) (v : Int32) (s : St) : Prop := OLs D N w s ∧ (s 5 = σ 5 ∧ s 38 = σ 38) ∧ s 6 7 = σ 6 7 ∧ (v.toInt < 0 → (s 6 3).toInt = 0 → (s 6 7).toInt < 100)
theorem ol_fail4 {Q : St → Prop} {x y : Int32} (hx : x.toInt ≠ 0) (h : OLo D N w σ v s) (k : ∀ t, OLo D N w σ v t → Q t) : pk_X11_fail x y s Q := by
  obtain ⟨h1, h2, h3, h4⟩ := h
  unfold pk_X11_fail
  exact ⟨fun c => k _ ⟨h1, h2, h3, h4⟩, fun c => k _ ⟨ol_k (ol_k h1 (by decide)) (by decide), ⟨by rw [rdC_ne (by decide), rdC_ne (by decide)]; exact h2.1, by rw [rdC_ne (by decide), rdC_ne (by decide)]; exact h2.2⟩, by rw [rdA_ne (by decide), rdA_ne (by decide)]; exact h3, fun _ c2 => by
    rw [rdA_ne (by decide), rdA_eq rfl] at c2
    exact absurd c2 hx⟩⟩
theorem ol_square4 {Q : St → Prop} (h : OLo D N w σ v s) (k : ∀ t, OLo D N w σ v t → Q t) : pk_X1_checkSquare a1 s Q := by
  unfold pk_X1_checkSquare
  exact ⟨fun t => OLo D N w σ v t, fun t ht => ⟨fun _ => k _ ht, fun _ => ⟨fun _ => k _ ht, fun _ => ol_fail4 (by decide) ht (fun t ht => k _ ht)⟩⟩, fun _ => h, fun _ => ⟨True, fun _ => ol_fail4 (by decide) h (fun t ht => ht), fun _ => ⟨fun _ => h, fun _ => trivial⟩, fun _ => ⟨fun _ => h, fun _ => trivial⟩⟩⟩
/-- where it is declared -/
theorem ol_where {Q : Int32 → St → Prop} (hv : OLd D σ v) (hz : v.toInt < 0 → (σ 5 1).toInt - (σ 6 7).toInt = D → ∀ i : Nat, (i : Int) < (σ 6 7).toInt → SNZ w (σ 38 i) a1) (h : OLo D N w σ v s) (hf : (s 6 3).toInt = 0) (k : ∀ r t, OLs D N w t → OLd D t r → Q r t) : (0 ≤ v.toInt → Q v s) ∧ (v.toInt < 0 → pk_X11_declareOuter a1 s (fun r t => Q r t)) := by
  obtain ⟨h1, h2, h3, h4⟩ := h
  exact ⟨fun _ => k _ _ h1 (old_k hv (by rw [h2.1]) h3), fun c => ol_declare h1 (h4 c hf) (fun hd i hi => by rw [h2.2]; rw [h3] at hi; exact hz c (by rw [h2.1, h3] at hd; exact hd) i hi) (fun r t h d => k r t h d)⟩
theorem ol_pk_X1_outer {Q : St → Prop} (hs : OLs D N w σ) (k : ∀ v0, OLs D N w v0 → Q v0) : pk_X1_outer a1 a2 a3 σ Q := by
  unfold pk_X1_outer
  refine ol_pk_X11_outerOf hs (fun v5 hv hz => ⟨fun _ => True, fun y3 _ _ => ol_checkOuter (a2 := v5) hs (fun s34 g34 e34 e38 e67 lim => ?_), True, fun _ => trivial, fun _ => trivial, fun _ => ol_pk_X1_joins (fun v => ⟨fun _ => trivial, fun _ => trivial⟩)⟩)
  have o34 : OLo D N w σ v5 s34 := ⟨g34, ⟨e34, e38⟩, e67, lim⟩
  refine ⟨fun _ => True, fun y1 _ _ => ol_square4 o34 (fun s54 o54 => ⟨fun _ => True, fun y0 _ => ⟨fun t => OLo D N w σ v5 t, fun s111 o111 => ⟨fun hf => ?_, fun _ => k _ o111.1⟩, fun _ => o54, fun _ => ol_fail4 (by decide) o54 (fun t ht => ht)⟩, fun _ => ⟨fun _ => trivial, fun _ => trivial⟩, fun _ => trivial⟩), True, fun _ => trivial, fun _ => trivial, fun _ => ⟨fun _ => trivial, fun _ => trivial⟩⟩
  refine ⟨fun r t => OLs D N w t ∧ OLd D t r, fun y1 s141 ⟨g, d⟩ => ?_, ol_where (Q := fun r t => OLs D N w t ∧ OLd D t r) hv hz o111 hf (fun r t h d => ⟨h, d⟩)⟩
  have d1 : OLd D (upC s141 8 10 y1) y1 := old_k d (by rw [rdC_ne (by decide)]) (by rw [rdC_ne (by decide)])
  have g1 : OLs D N w (upC s141 8 10 y1) := ol_c g rfl
  have g2 := ol_d (c := 26) (v := s141 8 11) g1 d1 (by omega)
  have d2 : OLd D (upF (upC s141 8 10 y1) 26 (setv 10100 ((upC s141 8 10 y1) 26) y1 (s141 8 11))) y1 := old_k d1 (by rw [rdF_ne (by decide)]) (by rw [rdF_ne (by decide)])
  have g3 := ol_d (c := 27) (v := s141 8 12) g2 d2 (by omega)
  refine ⟨fun t => OLs D N w t ∧ OLd D t (t 8 10), fun s192 ⟨g4, d4⟩ => ⟨fun t => OLs D N w t ∧ OLd D t (t 8 10), fun s209 ⟨g5, d5⟩ => ⟨fun t => OLs D N w t, fun s249 g6 => k _ (ol_k (ol_c g6 rfl) (by decide)), fun _ => g5, fun _ => ?_⟩, fun _ => ⟨g4, d4⟩, fun _ => ?_⟩, True, fun _ => ⟨g3, ?_⟩, fun _ => trivial, fun _ => ⟨fun _ => ⟨g2, ?_⟩, fun _ => trivial⟩⟩
  · unfold pk_X8_mark
    have g7 := ol_d (c := 25) (v := (atv 10100 (s209 25) (s209 8 10)) ||| 4) g5 d5 (by omega)
    refine ol_d (c := 28) g7 ?_ (by omega)
    rw [rdF_ne (by decide)]
    exact old_k d5 (by rw [rdF_ne (by decide)]) (by rw [rdF_ne (by decide)])
  · unfold pk_X8_mark
    refine ⟨ol_d (c := 25) g4 d4 (by omega), ?_⟩
    rw [rdF_ne (by decide)]
    exact old_k d4 (by rw [rdF_ne (by decide)]) (by rw [rdF_ne (by decide)])
  · show OLd D _ y1
    exact old_k d2 (by rw [rdF_ne (by decide)]) (by rw [rdF_ne (by decide)])
  · rw [rdF_ne (by decide), rdA_eq rfl]
    exact d2
theorem ol_pk_X1_function {Q : St → Prop} (hs : OLs D N w σ) (k : ∀ v0, OLs D N w v0 → Q v0) : pk_X1_function a1 a2 a3 σ Q := by
  unfold pk_X1_function
  refine ⟨fun _ => True, fun y0 _ _ => ⟨fun _ => True, fun y1 _ _ => ?_, fun _ => trivial, fun _ => trivial⟩, fun _ => trivial, fun _ => trivial⟩
  refine ol_pk_X11_outerOf hs (fun v5 hv hz => ⟨fun _ => True, fun y3 _ _ => ol_checkOuter (a2 := v5) hs (fun s34 g34 e34 e38 e67 lim => ?_), True, fun _ => trivial, fun _ => trivial, fun _ => ol_pk_X8_is (fun v => ⟨True, fun _ => trivial, fun _ => trivial, fun _ => ⟨fun _ => trivial, fun _ => ⟨fun _ => trivial, fun _ => ol_pk_X8_is (fun v => ⟨fun _ => trivial, fun _ => ⟨fun _ => trivial, fun _ => ol_pk_X8_is (fun v => ⟨fun _ => trivial, fun _ => trivial⟩)⟩⟩)⟩⟩⟩)⟩)
  have o34 : OLo D N w σ v5 s34 := ⟨g34, ⟨e34, e38⟩, e67, lim⟩
  refine ⟨fun hf => ?_, fun _ => k _ g34⟩
  refine ⟨fun r t => OLs D N w t ∧ OLd D t r, fun r s174 ⟨g, d⟩ => ⟨fun _ => True, fun y2 _ => ?_, fun _ => trivial, fun _ => trivial⟩, ol_where (Q := fun r t => OLs D N w t ∧ OLd D t r) hv hz o34 hf (fun r t h d => ⟨h, d⟩)⟩
  refine ol_pk_X8_mark g d (fun s192 g1 e5 e6 => ?_)
  have d1 : OLd D s192 r := old_k d (by rw [e5]) (by rw [e6])
  have g2 := ol_d (c := 26) (v := (a3 / (8 : Int32)) - (1 : Int32)) g1 d1 (by omega)
  have d2 : OLd D (upF s192 26 (setv 10100 (s192 26) r ((a3 / (8 : Int32)) - (1 : Int32)))) r := old_k d1 (by rw [rdF_ne (by decide)]) (by rw [rdF_ne (by decide)])
  have g3 := ol_d (c := 27) (v := a2) g2 d2 (by omega)
  have d3 := old_k (t := upF (upF s192 26 (setv 10100 (s192 26) r ((a3 / (8 : Int32)) - (1 : Int32)))) 27 (setv 10100 ((upF s192 26 (setv 10100 (s192 26) r ((a3 / (8 : Int32)) - (1 : Int32)))) 27) r a2)) d2 (by rw [rdF_ne (by decide)]) (by rw [rdF_ne (by decide)])
  refine ⟨fun _ => k _ g3, fun _ => ol_pk_X8_mark g3 d3 (fun s234 g4 e5 e6 => ?_)⟩
  have d4 : OLd D s234 r := old_k d3 (by rw [e5]) (by rw [e6])
  have fin : ∀ (x y : Int32), pk_X11_enter r (upF (upC s234 4 1 x) 28 (setv 10100 ((upC s234 4 1 x) 28) r y)) (fun s262 => Q s262) := fun x y => ol_pk_X11_enter (ol_d (c := 28) (ol_c g4 rfl) (old_k d4 (by rw [rdC_ne (by decide)]) (by rw [rdC_ne (by decide)])) (by omega)) (fun s h => k _ h)
  unfold pk_X0_header
  exact ⟨fun _ => fin _ _, fun _ => fin _ _⟩
end OLM
theorem ol_pk_X2_number {D N : Nat} {w : St} {a1 : Int32} {σ : St} {Q : St → Prop} (hs : OLs D N w σ) (k : ∀ (v0 : St), OLs D N w v0 → Q v0) : pk_X2_number a1 σ Q := by
  unfold pk_X2_number
  exact (ol_pk_X2_push hs (fun u1 s1 p1_ p2_ => (fun s1n => fun h3_ => (fun s3n => fun h4_ => ⟨(fun x5_ => True), ⟨(fun y1_38 => fun _ => fun j6_ => (fun s6n => fun h7_ => (ol_pk_X0_emit (ol_e h7_ (ol_c (ol_e h4_ (ol_c (ol_e h3_ (ol_c p2_ (olw_op p1_))) (olw_op p1_))) (olw_op p1_))) (fun v52 s52 p8_ => (k _ p8_))))), ⟨(fun _ => trivial), (fun _ => trivial)⟩⟩⟩))))
theorem ol_pk_X10_byteAt {a1 : Int32} {σ : St} {Q : Int32 → Prop} (k : ∀ (v0 : Int32), Q v0) : pk_X10_byteAt a1 σ Q := by
  unfold pk_X10_byteAt
  exact ⟨(fun _ => (k _)), (fun _ => ⟨(fun _ => (k _)), (fun _ => ⟨(fun _ => (k _)), (fun _ => (fun _ => (k _)))⟩)⟩)⟩
theorem ol_pk_X10_codeAt {a1 : Int32} {a2 : Int32} {σ : St} {Q : Int32 → Prop} (k : ∀ (v0 : Int32), Q v0) : pk_X10_codeAt a1 a2 σ Q := by
  unfold pk_X10_codeAt
  exact (ol_pk_X10_byteAt (fun v2 => ⟨(fun _ => (ol_pk_X10_byteAt (fun v39 => ⟨(fun _ => (k _)), (fun _ => ⟨(fun _ => (k _)), (fun _ => ⟨(fun _ => (k _)), (fun _ => ⟨(fun _ => (k _)), (fun _ => ⟨(fun _ => (k _)), (fun _ => (k _))⟩)⟩)⟩)⟩)⟩))), (fun _ => ⟨(fun _ => (k _)), (fun _ => ⟨(fun _ => (k _)), (fun _ => ⟨(fun _ => (k _)), (fun _ => (k _))⟩)⟩)⟩)⟩))
theorem ol_pk_X10_widthAt {a1 : Int32} {σ : St} {Q : Int32 → Prop} (k : ∀ (v0 : Int32), Q v0) : pk_X10_widthAt a1 σ Q := by
  unfold pk_X10_widthAt
  exact (ol_pk_X10_byteAt (fun v2 => ⟨(fun _ => (k _)), (fun _ => (k _))⟩))
theorem ol_pk_X10_readCodes {D N : Nat} {w : St} {a1 : Int32} {σ : St} {Q : Int32 → St → Prop} (hs : OLs D N w σ) (k : ∀ (v0 : Int32) (v1 : St), OLs D N w v1 → Q v0 v1) : pk_X10_readCodes a1 σ Q := by
  unfold pk_X10_readCodes
  exact ⟨(fun x1_ x2_ x3_ => OLs D N w x3_), ⟨hs, (fun x3_29 x4_29 s29 => fun j4_ => ⟨(fun _ => (k _ _ j4_)), (fun _ => (ol_pk_X10_codeAt (fun v45 => (ol_pk_X10_widthAt (fun v54 => (ol_F j4_ (by decide)))))))⟩)⟩⟩
theorem ol_pk_X8_addInitial {D N : Nat} {w : St} {a1 : Int32} {a2 : Int32} {a3 : Int32} {σ : St} {Q : St → Prop} (hs : OLs D N w σ) (k : ∀ (v0 : St), OLs D N w v0 → Q v0) : pk_X8_addInitial a1 a2 a3 σ Q := by
  unfold pk_X8_addInitial
  exact (k _ (ol_k (ol_F (ol_F (ol_F hs (by decide)) (by decide)) (by decide)) (by decide)))
theorem ol_pk_X2_string {D N : Nat} {w : St} {a1 : Int32} {σ : St} {Q : St → Prop} (hs : OLs D N w σ) (k : ∀ (v0 : St), OLs D N w v0 → Q v0) : pk_X2_string a1 σ Q := by
  unfold pk_X2_string
  exact (ol_pk_X10_readCodes hs (fun v5 s5 p1_ => ⟨(fun x2_ => OLs D N w x2_), ⟨(fun s37 => fun j3_ => ⟨(fun x4_ x5_ => OLs D N w x5_), ⟨(ol_k j3_ (by decide)), (fun x4_55 s55 => fun j6_ => ⟨(fun _ => (ol_pk_X2_push j6_ (fun u93 s93 p7_ p8_ => (ol_pk_X6_become p7_ p8_ (fun s102 p9_ => (fun s5n => fun h10_ => (fun s7n => fun h11_ => (ol_pk_X0_emit (ol_e h11_ (ol_c (ol_e h10_ (ol_c p9_ (olw_op p7_))) (olw_op p7_))) (fun v133 s133 p12_ => (k _ p12_)))))))))), (fun _ => (ol_pk_X8_addInitial j6_ (fun s83 p13_ => p13_)))⟩)⟩⟩), ⟨(fun _ => p1_), (fun _ => (ol_pk_X11_fail p1_ (fun s34 p14_ => p14_)))⟩⟩⟩))
theorem ol_pk_X2_top {σ : St} {Q : Nat → Prop} (k : ∀ (v0 : Nat), OPu v0 → Q v0) : pk_X2_top σ Q := by
  unfold pk_X2_top
  exact ⟨(fun _ => (k _ op_47)), (fun _ => ⟨(fun _ => (k _ op_47)), (fun _ => (fun _ => (k _ (op_65 _))))⟩)⟩
theorem ol_pk_X6_isPlace {a0 : Nat} {σ : St} {Q : Int32 → Prop} (ua0 : OPu a0) (k : ∀ (v0 : Int32), Q v0) : pk_X6_isPlace a0 σ Q := by
  unfold pk_X6_isPlace
  exact ⟨(fun _ => (k _)), (fun _ => ⟨(fun _ => (k _)), (fun _ => ⟨(fun _ => (k _)), (fun _ => (k _))⟩)⟩)⟩
theorem ol_pk_X2_loaded {D N : Nat} {w : St} {a1 : Nat} {σ : St} {Q : Nat → St → Prop} (ua1 : OPu a1) (hs : OLs D N w σ) (k : ∀ (v0 : Nat) (v1 : St), OPu v0 → OLs D N w v1 → Q v0 v1) : pk_X2_loaded a1 σ Q := by
  unfold pk_X2_loaded
  exact (ol_pk_X6_isPlace ua1 (fun v1 => ⟨(fun _ => (k _ _ ua1 hs)), (fun _ => ⟨(fun _ => ⟨(fun x1_ => True), ⟨(fun y1_52 => fun j2_ => (ol_pk_X0_emit hs (fun v58 s58 p3_ => (fun s6n => fun h4_ => (k _ _ ua1 (ol_e h4_ (ol_c p3_ (olw_op ua1)))))))), ⟨(fun _ => trivial), (fun _ => trivial)⟩⟩⟩), (fun _ => (ol_pk_X0_emit hs (fun v27 s27 p5_ => (fun s12n => fun h6_ => (k _ _ ua1 (ol_e h6_ (ol_c p5_ (olw_op ua1))))))))⟩)⟩))
theorem ol_pk_X2_pop {D N : Nat} {w : St} {σ : St} {Q : Nat → St → Prop} (hs : OLs D N w σ) (k : ∀ (v0 : Nat) (v1 : St), OPu v0 → OLs D N w v1 → Q v0 v1) : pk_X2_pop σ Q := by
  unfold pk_X2_pop
  exact (ol_pk_X2_top (fun u2 p1_ => (ol_pk_X2_loaded p1_ hs (fun u5 s5 p2_ p3_ => ⟨(fun _ => (k _ _ p2_ (ol_c p3_ (by decide)))), (fun _ => (k _ _ p2_ (ol_c p3_ (by decide))))⟩))))
theorem ol_pk_X8_parameters {a0 : Int32} {σ : St} {Q : Int32 → Prop} (k : ∀ (v0 : Int32), Q v0) : pk_X8_parameters a0 σ Q := by
  unfold pk_X8_parameters
  exact (k _)
theorem ol_pk_X8_parameter {a0 : Int32} {a1 : Int32} {σ : St} {Q : Int32 → Prop} (k : ∀ (v0 : Int32), Q v0) : pk_X8_parameter a0 a1 σ Q := by
  unfold pk_X8_parameter
  exact (k _)
theorem ol_pk_X6_fits {a0 : Nat} {a1 : Int32} {σ : St} {Q : Int32 → Prop} (ua0 : OPu a0) (k : ∀ (v0 : Int32), Q v0) : pk_X6_fits a0 a1 σ Q := by
  unfold pk_X6_fits
  exact ⟨True, ⟨(fun j1_ => ⟨(fun _ => (k _)), (fun _ => ⟨(fun _ => (k _)), (fun _ => (k _))⟩)⟩), ⟨(fun _ => trivial), (fun _ => ⟨(fun _ => (k _)), (fun _ => trivial)⟩)⟩⟩⟩
theorem ol_pk_X2_argument {D N : Nat} {w : St} {σ : St} {Q : St → Prop} (hs : OLs D N w σ) (k : ∀ (v0 : St), OLs D N w v0 → Q v0) : pk_X2_argument σ Q := by
  unfold pk_X2_argument
  exact (ol_pk_X2_pop hs (fun u1 s1 p1_ p2_ => (ol_pk_X2_top (fun u6 p3_ => (ol_pk_X8_parameters (fun v34 => ⟨(fun x4_ => OLs D N w x4_), ⟨(fun s58 => fun j5_ => (fun s4n => fun h6_ => (fun s6n => fun h7_ => (k _ (ol_e h7_ (ol_c (ol_e h6_ (ol_c j5_ (olw_op p3_))) (olw_op p3_))))))), ⟨True, ⟨(fun j8_ => (fun s9n => fun h9_ => (ol_e h9_ (ol_c p2_ (olw_op p3_))))), ⟨(fun _ => trivial), (fun _ => (ol_pk_X8_parameter (fun v44 => (ol_pk_X6_fits p1_ (fun v47 => ⟨(fun _ => p2_), (fun _ => trivial)⟩)))))⟩⟩⟩⟩⟩))))))
theorem ol_pk_X2_lineOf {a1 : Int32} {σ : St} {Q : Int32 → Prop} (k : ∀ (v0 : Int32), Q v0) : pk_X2_lineOf a1 σ Q := by
  unfold pk_X2_lineOf
  exact (k _)
theorem ol_pk_X2_raise {D N : Nat} {w : St} {a1 : Nat} {a2 : Int32} {a3 : Int32} {σ : St} {Q : St → Prop} (ua1 : OPu a1) (hs : OLs D N w σ) (k : ∀ (v0 : St), OLs D N w v0 → Q v0) : pk_X2_raise a1 a2 a3 σ Q := by
  unfold pk_X2_raise
  exact (fun s0n => fun h1_ => ⟨(fun _ => (k _ (ol_e h1_ (ol_c hs (olw_op ua1))))), (fun _ => (ol_pk_X11_fail (ol_e h1_ (ol_c hs (olw_op ua1))) (fun s17 p2_ => (k _ p2_))))⟩)
theorem ol_pk_X2_call {D N : Nat} {w : St} {a1 : Int32} {σ : St} {Q : St → Prop} (hs : OLs D N w σ) (k : ∀ (v0 : St), OLs D N w v0 → Q v0) : pk_X2_call a1 σ Q := by
  unfold pk_X2_call
  exact (ol_pk_X2_top (fun u1 p1_ => ⟨(fun x2_ => OLs D N w x2_), ⟨(fun s41 => fun j3_ => (ol_pk_X2_lineOf (fun v53 => (ol_pk_X0_emit j3_ (fun v57 s57 p4_ => (ol_pk_X6_become p1_ p4_ (fun s67 p5_ => (ol_pk_X2_raise p1_ p5_ (fun s79 p6_ => (k _ p6_)))))))))), ⟨True, ⟨(fun j7_ => (ol_pk_X2_refuse hs (fun s38 p8_ => p8_))), ⟨(fun _ => trivial), (fun _ => (ol_pk_X8_parameters (fun v30 => ⟨(fun _ => hs), (fun _ => trivial)⟩)))⟩⟩⟩⟩⟩))
theorem ol_pk_X2_kindOf {a1 : Int32} {σ : St} {Q : Int32 → Prop} (k : ∀ (v0 : Int32), Q v0) : pk_X2_kindOf a1 σ Q := by
  unfold pk_X2_kindOf
  exact (k _)
theorem ol_pk_X2_fetch {D N : Nat} {w : St} {a1 : Nat} {a2 : Int32} {σ : St} {Q : St → Prop} (ua1 : OPu a1) (hs : OLs D N w σ) (k : ∀ (v0 : St), OLs D N w v0 → Q v0) : pk_X2_fetch a1 a2 σ Q := by
  unfold pk_X2_fetch
  exact ⟨(fun _ => (ol_pk_X6_isPlace ua1 (fun v25 => ⟨(fun _ => (k _ hs)), (fun _ => ⟨(fun x1_ => True), ⟨(fun y1_49 => fun j2_ => (ol_pk_X0_emit hs (fun v55 s55 p3_ => (k _ p3_)))), ⟨(fun _ => trivial), (fun _ => trivial)⟩⟩⟩)⟩))), (fun _ => (ol_pk_X0_emit hs (fun v17 s17 p4_ => (k _ p4_))))⟩
theorem ol_pk_X2_left {D N : Nat} {w : St} {a1 : Int32} {σ : St} {Q : St → Prop} (hs : OLs D N w σ) (k : ∀ (v0 : St), OLs D N w v0 → Q v0) : pk_X2_left a1 σ Q := by
  unfold pk_X2_left
  exact (ol_pk_X2_kindOf (fun v2 => (ol_pk_X2_top (fun u7 p1_ => ⟨(fun x2_ => OLs D N w x2_), ⟨(fun s48 => fun j3_ => ⟨True, ⟨(fun j4_ => ⟨(fun x5_ => True), ⟨(fun y2_78 => fun j6_ => (ol_pk_X0_emit j3_ (fun v81 s81 p7_ => (fun s6n => fun h8_ => (k _ (ol_e h8_ (ol_c p7_ (olw_op p1_)))))))), ⟨(fun _ => trivial), (fun _ => trivial)⟩⟩⟩), ⟨(fun _ => trivial), (fun _ => ⟨(fun _ => (k _ j3_)), (fun _ => trivial)⟩)⟩⟩⟩), ⟨True, ⟨(fun j9_ => ⟨(fun _ => hs), (fun _ => (ol_pk_X2_loaded p1_ hs (fun u44 s44 p10_ p11_ => p11_)))⟩), ⟨(fun _ => trivial), (fun _ => ⟨(fun _ => trivial), (fun _ => (ol_pk_X2_lineOf (fun v27 => (ol_pk_X2_fetch p1_ hs (fun s30 p12_ => p12_)))))⟩)⟩⟩⟩⟩⟩))))
theorem ol_pk_X2_typeOf {a0 : Int32} {a1 : Nat} {a2 : Nat} {σ : St} {Q : Int32 → Prop} (ua1 : OPu a1) (ua2 : OPu a2) (k : ∀ (v0 : Int32), Q v0) : pk_X2_typeOf a0 a1 a2 σ Q := by
  unfold pk_X2_typeOf
  exact ⟨(fun _ => (k _)), (fun _ => ⟨(fun _ => ⟨(fun x1_ => True), ⟨(fun y0_35 => fun _ => fun j2_ => ⟨True, ⟨(fun j3_ => ⟨(fun _ => (k _)), (fun _ => ⟨(fun _ => (k _)), (fun _ => (k _))⟩)⟩), ⟨True, ⟨(fun j4_ => ⟨(fun _ => (k _)), (fun _ => (k _))⟩), ⟨True, ⟨(fun j5_ => (ol_pk_X6_fits ua1 (fun v123 => ⟨(fun _ => (k _)), (fun _ => (ol_pk_X6_fits ua2 (fun v134 => ⟨(fun _ => (k _)), (fun _ => (k _))⟩)))⟩))), ⟨(fun _ => ⟨(fun _ => ⟨(fun _ => (k _)), (fun _ => (k _))⟩), (fun _ => (k _))⟩), (fun _ => ⟨(fun _ => ⟨(fun _ => ⟨(fun _ => (k _)), (fun _ => (k _))⟩), (fun _ => (k _))⟩), (fun _ => ⟨(fun _ => trivial), (fun _ => ⟨(fun _ => trivial), (fun _ => ⟨(fun _ => trivial), (fun _ => ⟨(fun _ => trivial), (fun _ => ⟨(fun _ => trivial), (fun _ => ⟨(fun _ => trivial), (fun _ => ⟨(fun _ => trivial), (fun _ => ⟨(fun _ => trivial), (fun _ => ⟨(fun _ => trivial), (fun _ => ⟨(fun _ => trivial), (fun _ => ⟨(fun _ => trivial), (fun _ => ⟨(fun _ => trivial), (fun _ => ⟨(fun _ => (k _)), (fun _ => ⟨(fun _ => (k _)), (fun _ => trivial)⟩)⟩)⟩)⟩)⟩)⟩)⟩)⟩)⟩)⟩)⟩)⟩)⟩)⟩)⟩)⟩⟩⟩⟩⟩⟩⟩), ⟨(fun _ => trivial), (fun _ => trivial)⟩⟩⟩), (fun _ => (k _))⟩)⟩
theorem ol_pk_X6_isConstant {a0 : Nat} {σ : St} {Q : Int32 → Prop} (ua0 : OPu a0) (k : ∀ (v0 : Int32), Q v0) : pk_X6_isConstant a0 σ Q := by
  unfold pk_X6_isConstant
  exact ⟨(fun _ => (k _)), (fun _ => (k _))⟩
theorem ol_pk_X5_compared {a0 : Int32} {a1 : Int32} {a2 : Int32} {σ : St} {Q : Int32 → Prop} (k : ∀ (v0 : Int32), Q v0) : pk_X5_compared a0 a1 a2 σ Q := by
  unfold pk_X5_compared
  exact ⟨(fun _ => ⟨(fun _ => (k _)), (fun _ => (k _))⟩), (fun _ => ⟨(fun _ => ⟨(fun _ => (k _)), (fun _ => (k _))⟩), (fun _ => ⟨(fun _ => ⟨(fun _ => (k _)), (fun _ => (k _))⟩), (fun _ => ⟨(fun _ => ⟨(fun _ => (k _)), (fun _ => (k _))⟩), (fun _ => ⟨(fun _ => ⟨(fun _ => (k _)), (fun _ => (k _))⟩), (fun _ => ⟨(fun _ => ⟨(fun _ => (k _)), (fun _ => (k _))⟩), (fun _ => ⟨(fun _ => ⟨(fun _ => (k _)), (fun _ => (k _))⟩), (fun _ => ⟨(fun _ => ⟨(fun _ => (k _)), (fun _ => (k _))⟩), (fun _ => ⟨(fun _ => ⟨(fun _ => (k _)), (fun _ => (k _))⟩), (fun _ => ⟨(fun _ => ⟨(fun _ => (k _)), (fun _ => (k _))⟩), (fun _ => (k _))⟩)⟩)⟩)⟩)⟩)⟩)⟩)⟩)⟩)⟩
theorem ol_pk_X5_worked {a0 : Int32} {a1 : Int32} {a2 : Int32} {σ : St} {Q : Int32 → Prop} (k : ∀ (v0 : Int32), Q v0) : pk_X5_worked a0 a1 a2 σ Q := by
  unfold pk_X5_worked
  exact ⟨(fun _ => (k _)), (fun _ => ⟨(fun _ => (k _)), (fun _ => ⟨(fun _ => (k _)), (fun _ => ⟨(fun _ => (k _)), (fun _ => ⟨(fun _ => (k _)), (fun _ => ⟨(fun _ => ⟨(fun _ => (fun _ => (k _))), (fun _ => (k _))⟩), (fun _ => ⟨(fun _ => ⟨(fun _ => (fun _ => (k _))), (fun _ => (k _))⟩), (fun _ => ⟨(fun _ => (k _)), (fun _ => ⟨(fun _ => (k _)), (fun _ => ⟨(fun _ => (k _)), (fun _ => (ol_pk_X5_compared (fun v121 => ⟨(fun _ => (k _)), (fun _ => (k _))⟩)))⟩)⟩)⟩)⟩)⟩)⟩)⟩)⟩)⟩)⟩
theorem ol_pk_X2_combine {D N : Nat} {w : St} {a0 : Int32} {a1 : Nat} {a2 : Nat} {σ : St} {Q : St → Prop} (ua1 : OPu a1) (ua2 : OPu a2) (hs : OLs D N w σ) (k : ∀ (v0 : St), OLs D N w v0 → Q v0) : pk_X2_combine a0 a1 a2 σ Q := by
  unfold pk_X2_combine
  exact ⟨(fun x1_ => True), ⟨(fun y0_24 => fun _ => fun j2_ => ⟨(fun x3_ => True), ⟨(fun y0_42 => fun _ => fun j4_ => (ol_pk_X6_isConstant ua1 (fun v45 => ⟨True, ⟨(fun j5_ => ⟨True, ⟨(fun j6_ => ⟨(fun _ => (fun s6n => fun h7_ => (k _ (ol_e h7_ (ol_c hs (olw_op ua1)))))), (fun _ => (ol_pk_X6_isConstant ua1 (fun v133 => ⟨(fun _ => (fun s11n => fun h8_ => (k _ (ol_e h8_ (ol_c hs (olw_op ua1)))))), (fun _ => ⟨(fun _ => (fun s15n => fun h9_ => (k _ (ol_e h9_ (ol_c hs (olw_op ua1)))))), (fun _ => (fun s18n => fun h10_ => (fun s20n => fun h11_ => (fun s22n => fun h12_ => (k _ (ol_e h12_ (ol_c (ol_e h11_ (ol_c (ol_e h10_ (ol_c hs (olw_op ua1))) (olw_op ua1))) (olw_op ua1))))))))⟩)⟩)))⟩), ⟨(fun _ => trivial), (fun _ => ⟨(fun _ => trivial), (fun _ => (ol_pk_X6_isConstant ua2 (fun v101 => ⟨(fun _ => trivial), (fun _ => (ol_pk_X5_worked (fun v117 => (fun s32n => fun h13_ => (k _ (ol_e h13_ (ol_c hs (olw_op ua1))))))))⟩)))⟩)⟩⟩⟩), ⟨(fun _ => trivial), (fun _ => (ol_pk_X6_isConstant ua2 (fun v52 => ⟨(fun _ => trivial), (fun _ => ⟨(fun _ => trivial), (fun _ => ⟨(fun _ => trivial), (fun _ => (ol_pk_X5_worked (fun v78 => (fun s44n => fun h14_ => (k _ (ol_e h14_ (ol_c hs (olw_op ua1))))))))⟩)⟩)⟩)))⟩⟩⟩))), ⟨True, ⟨(fun j15_ => trivial), ⟨(fun _ => trivial), (fun _ => ⟨(fun _ => trivial), (fun _ => trivial)⟩)⟩⟩⟩⟩⟩), ⟨True, ⟨(fun j16_ => trivial), ⟨True, ⟨(fun j17_ => ⟨(fun _ => trivial), (fun _ => trivial)⟩), ⟨(fun _ => trivial), (fun _ => ⟨(fun _ => trivial), (fun _ => trivial)⟩)⟩⟩⟩⟩⟩⟩⟩
theorem ol_pk_X0_cut {D N : Nat} {w : St} {a1 : Int32} {σ : St} {Q : St → Prop} (hs : OLs D N w σ) (k : ∀ (v0 : St), OLs D N w v0 → Q v0) : pk_X0_cut a1 σ Q := by
  unfold pk_X0_cut
  exact (k _ (ol_c hs (by decide)))
theorem ol_pk_X2_fold {D N : Nat} {w : St} {a1 : Nat} {σ : St} {Q : St → Prop} (ua1 : OPu a1) (hs : OLs D N w σ) (k : ∀ (v0 : St), OLs D N w v0 → Q v0) : pk_X2_fold a1 σ Q := by
  unfold pk_X2_fold
  exact ⟨(fun _ => (k _ hs)), (fun _ => (ol_pk_X6_isConstant ua1 (fun v11 => ⟨(fun _ => (k _ hs)), (fun _ => (ol_pk_X0_cut hs (fun s25 p1_ => (ol_pk_X0_emit p1_ (fun v39 s39 p2_ => (k _ p2_))))))⟩)))⟩
theorem ol_pk_X0_aim {D N : Nat} {w : St} {a1 : Int32} {a2 : Int32} {σ : St} {Q : St → Prop} (hs : OLs D N w σ) (k : ∀ (v0 : St), OLs D N w v0 → Q v0) : pk_X0_aim a1 a2 σ Q := by
  unfold pk_X0_aim
  exact ⟨(fun x1_ x2_ x3_ => OLs D N w x3_), ⟨hs, (fun x3_8 x4_8 s8 => fun j4_ => ⟨(fun _ => (k _ j4_)), (fun _ => ⟨(fun _ => (k _ j4_)), (fun _ => (ol_F j4_ (by decide)))⟩)⟩)⟩⟩
theorem ol_pk_X2_operate {D N : Nat} {w : St} {a1 : Int32} {a2 : Int32} {a3 : Int32} {σ : St} {Q : St → Prop} (hs : OLs D N w σ) (k : ∀ (v0 : St), OLs D N w v0 → Q v0) : pk_X2_operate a1 a2 a3 σ Q := by
  unfold pk_X2_operate
  exact ⟨(fun x1_ => True), ⟨(fun y0_21 => fun _ => fun j2_ => ⟨(fun x3_ => True), ⟨(fun y1_39 => fun j4_ => (ol_pk_X0_emit hs (fun v42 s42 p5_ => (k _ p5_)))), ⟨(fun _ => trivial), (fun _ => trivial)⟩⟩⟩), ⟨True, ⟨(fun j6_ => trivial), ⟨(fun _ => trivial), (fun _ => ⟨(fun _ => trivial), (fun _ => ⟨(fun _ => trivial), (fun _ => trivial)⟩)⟩)⟩⟩⟩⟩⟩
theorem ol_pk_X2_binary {D N : Nat} {w : St} {a1 : Int32} {σ : St} {Q : St → Prop} (hs : OLs D N w σ) (k : ∀ (v0 : St), OLs D N w v0 → Q v0) : pk_X2_binary a1 σ Q := by
  unfold pk_X2_binary
  exact (ol_pk_X2_kindOf (fun v2 => (ol_pk_X2_pop hs (fun u7 s7 p1_ p2_ => (ol_pk_X2_top (fun u12 p3_ => (ol_pk_X2_typeOf p3_ p1_ (fun v21 => ⟨(fun x4_ => OLs D N w x4_), ⟨(fun s38 => fun j5_ => ⟨(fun x6_ => OLs D N w x6_), ⟨(fun s108 => fun j7_ => (ol_pk_X2_combine p3_ p1_ j7_ (fun s112 p8_ => (ol_pk_X6_become p3_ p8_ (fun s124 p9_ => (ol_pk_X2_fold p3_ p9_ (fun s130 p10_ => (ol_pk_X2_raise p3_ p10_ (fun s151 p11_ => (k _ p11_)))))))))), ⟨True, ⟨(fun j12_ => (ol_pk_X0_emit j5_ (fun v59 s59 p13_ => (ol_pk_X0_aim p13_ (fun s79 p14_ => p14_))))), ⟨(fun _ => trivial), (fun _ => ⟨(fun _ => ⟨(fun x15_ => True), ⟨(fun y2_100 => fun _ => fun j16_ => (ol_pk_X2_lineOf (fun v102 => (ol_pk_X2_operate j5_ (fun s105 p17_ => p17_))))), ⟨(fun _ => trivial), (fun _ => trivial)⟩⟩⟩), (fun _ => trivial)⟩)⟩⟩⟩⟩⟩), ⟨(fun _ => p2_), (fun _ => (ol_pk_X2_refuse p2_ (fun s35 p18_ => p18_)))⟩⟩⟩))))))))
theorem ol_pk_X2_assign {D N : Nat} {w : St} {a1 : Int32} {σ : St} {Q : St → Prop} (hs : OLs D N w σ) (k : ∀ (v0 : St), OLs D N w v0 → Q v0) : pk_X2_assign a1 σ Q := by
  unfold pk_X2_assign
  exact (ol_pk_X2_kindOf (fun v2 => (ol_pk_X2_pop hs (fun u7 s7 p1_ p2_ => (ol_pk_X2_top (fun u12 p3_ => ⟨(fun x4_ => True), ⟨(fun y0_34 => fun _ => fun j5_ => ⟨(fun x6_ => True), ⟨(fun y0_79 => fun _ => fun j7_ => (ol_pk_X6_isPlace p3_ (fun v83 => ⟨(fun x8_ => OLs D N w x8_), ⟨(fun s99 => fun j9_ => ⟨(fun x10_ => OLs D N w x10_), ⟨(fun s119 => fun j11_ => ⟨(fun x12_ => OLs D N w x12_), ⟨(fun s179 => fun j13_ => (ol_pk_X6_become p3_ j13_ (fun s187 p14_ => (ol_pk_X2_raise p3_ p14_ (fun s208 p15_ => (k _ p15_)))))), ⟨(fun _ => ⟨(fun x16_ => True), ⟨(fun y1_168 => fun j17_ => (ol_pk_X0_emit j11_ (fun v175 s175 p18_ => p18_))), ⟨(fun _ => trivial), (fun _ => trivial)⟩⟩⟩), (fun _ => (ol_pk_X2_lineOf (fun v136 => (ol_pk_X0_emit j11_ (fun v141 s141 p19_ => p19_)))))⟩⟩⟩), ⟨(fun _ => j9_), (fun _ => (ol_pk_X2_lineOf (fun v113 => (ol_pk_X2_operate j9_ (fun s116 p20_ => p20_)))))⟩⟩⟩), ⟨True, ⟨(fun j21_ => (ol_pk_X2_refuse p2_ (fun s96 p22_ => p22_))), ⟨(fun _ => trivial), (fun _ => ⟨(fun _ => p2_), (fun _ => trivial)⟩)⟩⟩⟩⟩⟩))), ⟨(fun _ => ⟨True, ⟨(fun j23_ => trivial), ⟨(fun _ => trivial), (fun _ => ⟨True, ⟨(fun j24_ => trivial), ⟨(fun _ => trivial), (fun _ => ⟨(fun _ => trivial), (fun _ => trivial)⟩)⟩⟩⟩)⟩⟩⟩), (fun _ => (ol_pk_X6_fits p1_ (fun v48 => trivial)))⟩⟩⟩), ⟨True, ⟨(fun j25_ => trivial), ⟨(fun _ => trivial), (fun _ => ⟨(fun _ => trivial), (fun _ => trivial)⟩)⟩⟩⟩⟩⟩))))))
theorem ol_pk_X2_pointed {D N : Nat} {w : St} {a1 : Nat} {a2 : Int32} {σ : St} {Q : St → Prop} (ua1 : OPu a1) (hs : OLs D N w σ) (k : ∀ (v0 : St), OLs D N w v0 → Q v0) : pk_X2_pointed a1 a2 σ Q := by
  unfold pk_X2_pointed
  exact ⟨(fun x1_ => OLs D N w x1_), ⟨(fun s13 => fun j2_ => (ol_pk_X6_become ua1 j2_ (fun s21 p3_ => (fun s2n => fun h4_ => (ol_pk_X2_lineOf (fun v32 => (fun s5n => fun h5_ => (k _ (ol_e h5_ (ol_c (ol_e h4_ (ol_c p3_ (olw_op ua1))) (olw_op ua1))))))))))), ⟨(fun _ => hs), (fun _ => (ol_pk_X2_refuse hs (fun s10 p6_ => p6_)))⟩⟩⟩
theorem ol_pk_X2_index {D N : Nat} {w : St} {a1 : Int32} {σ : St} {Q : St → Prop} (hs : OLs D N w σ) (k : ∀ (v0 : St), OLs D N w v0 → Q v0) : pk_X2_index a1 σ Q := by
  unfold pk_X2_index
  exact (ol_pk_X2_pop hs (fun u1 s1 p1_ p2_ => (ol_pk_X2_top (fun u6 p3_ => ⟨(fun x4_ => OLs D N w x4_), ⟨(fun s22 => fun j5_ => (ol_pk_X0_emit j5_ (fun v31 s31 p6_ => (ol_pk_X2_pointed p3_ p6_ (fun s38 p7_ => (ol_pk_X2_raise p3_ p7_ (fun s57 p8_ => (k _ p8_)))))))), ⟨(fun _ => p2_), (fun _ => (ol_pk_X2_refuse p2_ (fun s19 p9_ => p9_)))⟩⟩⟩))))
theorem ol_pk_X2_step {D N : Nat} {w : St} {a1 : Nat} {a2 : Int32} {a3 : Int32} {σ : St} {Q : St → Prop} (ua1 : OPu a1) (hs : OLs D N w σ) (k : ∀ (v0 : St), OLs D N w v0 → Q v0) : pk_X2_step a1 a2 a3 σ Q := by
  unfold pk_X2_step
  exact (ol_pk_X6_isPlace ua1 (fun v1 => ⟨(fun x1_ => OLs D N w x1_), ⟨(fun s12 => fun j2_ => (ol_pk_X2_kindOf (fun v14 => ⟨(fun x3_ => True), ⟨(fun y0_27 => fun j4_ => ⟨(fun x5_ => True), ⟨(fun y0_39 => fun j6_ => ⟨(fun x7_ => OLs D N w x7_), ⟨(fun s102 => fun j8_ => (ol_pk_X6_become ua1 j8_ (fun s108 p9_ => (ol_pk_X2_raise ua1 p9_ (fun s120 p10_ => (k _ p10_)))))), ⟨(fun _ => ⟨(fun x11_ => True), ⟨(fun y1_90 => fun j12_ => (ol_pk_X0_emit j2_ (fun v98 s98 p13_ => p13_))), ⟨(fun _ => trivial), (fun _ => trivial)⟩⟩⟩), (fun _ => (ol_pk_X2_lineOf (fun v57 => (ol_pk_X0_emit j2_ (fun v64 s64 p14_ => p14_)))))⟩⟩⟩), ⟨(fun _ => trivial), (fun _ => trivial)⟩⟩⟩), ⟨(fun _ => trivial), (fun _ => trivial)⟩⟩⟩))), ⟨(fun _ => hs), (fun _ => (ol_pk_X2_refuse hs (fun s9 p15_ => p15_)))⟩⟩⟩))
theorem ol_pk_X5_inverted {a0 : Int32} {a1 : Int32} {σ : St} {Q : Int32 → Prop} (k : ∀ (v0 : Int32), Q v0) : pk_X5_inverted a0 a1 σ Q := by
  unfold pk_X5_inverted
  exact ⟨(fun _ => (k _)), (fun _ => ⟨(fun _ => (k _)), (fun _ => ⟨(fun _ => ⟨(fun _ => (k _)), (fun _ => (k _))⟩), (fun _ => ⟨(fun _ => (k _)), (fun _ => (k _))⟩)⟩)⟩)⟩
theorem ol_pk_X2_invert {D N : Nat} {w : St} {a1 : Nat} {a2 : Int32} {a3 : Int32} {σ : St} {Q : St → Prop} (ua1 : OPu a1) (hs : OLs D N w σ) (k : ∀ (v0 : St), OLs D N w v0 → Q v0) : pk_X2_invert a1 a2 a3 σ Q := by
  unfold pk_X2_invert
  exact ⟨(fun x1_ => OLs D N w x1_), ⟨(fun s29 => fun j2_ => ⟨(fun x3_ => True), ⟨(fun y0_53 => fun j4_ => (ol_pk_X0_emit j2_ (fun v64 s64 p5_ => (ol_pk_X5_inverted (fun v75 => (fun s4n => fun h6_ => (ol_pk_X6_isConstant ua1 (fun v84 => ⟨(fun x7_ => True), ⟨(fun y2_95 => fun _ => fun j8_ => (ol_pk_X6_become ua1 (ol_e h6_ (ol_c p5_ (olw_op ua1))) (fun s95 p9_ => (ol_pk_X2_fold ua1 p9_ (fun s100 p10_ => (k _ p10_)))))), ⟨(fun _ => trivial), (fun _ => trivial)⟩⟩⟩)))))))), ⟨(fun _ => ⟨(fun _ => trivial), (fun _ => trivial)⟩), (fun _ => trivial)⟩⟩⟩), ⟨True, ⟨(fun j11_ => (ol_pk_X2_refuse hs (fun s26 p12_ => p12_))), ⟨(fun _ => ⟨(fun _ => hs), (fun _ => trivial)⟩), (fun _ => ⟨(fun _ => hs), (fun _ => trivial)⟩)⟩⟩⟩⟩⟩
theorem ol_pk_X2_unary {D N : Nat} {w : St} {a1 : Int32} {σ : St} {Q : St → Prop} (hs : OLs D N w σ) (k : ∀ (v0 : St), OLs D N w v0 → Q v0) : pk_X2_unary a1 σ Q := by
  unfold pk_X2_unary
  exact (ol_pk_X2_kindOf (fun v2 => (ol_pk_X2_top (fun u7 p1_ => ⟨True, ⟨(fun j2_ => (ol_pk_X2_step p1_ hs (fun s27 p3_ => (k _ p3_)))), ⟨(fun _ => trivial), (fun _ => ⟨(fun _ => ⟨(fun x4_ => OLs D N w x4_), ⟨(fun s96 => fun j5_ => (ol_pk_X2_raise p1_ j5_ (fun s105 p6_ => (k _ p6_)))), ⟨(fun _ => ⟨(fun _ => (ol_pk_X2_loaded p1_ hs (fun u88 s88 p7_ p8_ => (ol_pk_X2_invert p7_ p8_ (fun s93 p9_ => p9_))))), (fun _ => (ol_pk_X2_loaded p1_ hs (fun u75 s75 p10_ p11_ => (ol_pk_X2_pointed p10_ p11_ (fun s79 p12_ => p12_)))))⟩), (fun _ => (ol_pk_X6_isPlace p1_ (fun v38 => ⟨(fun x13_ => OLs D N w x13_), ⟨(fun s58 => fun j14_ => (ol_pk_X2_address p1_ j14_ (fun s60 p15_ => p15_))), ⟨True, ⟨(fun j16_ => (ol_pk_X2_refuse hs (fun s55 p17_ => p17_))), ⟨(fun _ => trivial), (fun _ => ⟨(fun _ => hs), (fun _ => trivial)⟩)⟩⟩⟩⟩⟩)))⟩⟩⟩), (fun _ => trivial)⟩)⟩⟩⟩))))
theorem ol_pk_X2_cast {D N : Nat} {w : St} {a1 : Int32} {a2 : Int32} {σ : St} {Q : St → Prop} (hs : OLs D N w σ) (k : ∀ (v0 : St), OLs D N w v0 → Q v0) : pk_X2_cast a1 a2 σ Q := by
  unfold pk_X2_cast
  exact (ol_pk_X2_top (fun u2 p1_ => (ol_pk_X2_loaded p1_ hs (fun u5 s5 p2_ p3_ => ⟨(fun x4_ => OLs D N w x4_), ⟨(fun s22 => fun j5_ => (ol_pk_X6_become p2_ j5_ (fun s25 p6_ => (ol_pk_X2_raise p2_ p6_ (fun s37 p7_ => (k _ p7_)))))), ⟨(fun _ => p3_), (fun _ => (ol_pk_X2_refuse p3_ (fun s19 p8_ => p8_)))⟩⟩⟩))))
theorem ol_pk_X2_unless {D N : Nat} {w : St} {a1 : Nat} {a2 : Int32} {σ : St} {Q : Int32 → St → Prop} (ua1 : OPu a1) (hs : OLs D N w σ) (k : ∀ (v0 : Int32) (v1 : St), OLs D N w v1 → Q v0 v1) : pk_X2_unless a1 a2 σ Q := by
  unfold pk_X2_unless
  exact ⟨True, ⟨(fun j1_ => (ol_pk_X0_emit hs (fun v62 s62 p2_ => (k _ _ p2_)))), ⟨(fun _ => trivial), (fun _ => (ol_pk_X6_isConstant ua1 (fun v12 => ⟨(fun _ => trivial), (fun _ => (ol_pk_X0_cut hs (fun s26 p3_ => ⟨(fun _ => (ol_pk_X0_emit p3_ (fun v49 s49 p4_ => (k _ _ p4_)))), (fun _ => (k _ _ p3_))⟩)))⟩)))⟩⟩⟩
theorem ol_pk_X2_colon {D N : Nat} {w : St} {σ : St} {Q : St → Prop} (hs : OLs D N w σ) (k : ∀ (v0 : St), OLs D N w v0 → Q v0) : pk_X2_colon σ Q := by
  unfold pk_X2_colon
  exact (ol_pk_X2_top (fun u2 p1_ => (ol_pk_X2_loaded p1_ hs (fun u5 s5 p2_ p3_ => ⟨(fun x4_ => OPu x4_), ⟨(fun y0_47 => fun _ => fun j5_ => (ol_pk_X0_emit p3_ (fun v57 s57 p6_ => (ol_pk_X0_aim p6_ (fun s76 p7_ => (fun s5n => fun h8_ => (k _ (ol_e h8_ (ol_c p7_ (olw_op j5_)))))))))), ⟨True, ⟨(fun j9_ => op_47), ⟨(fun _ => trivial), (fun _ => ⟨(fun _ => trivial), (fun _ => (fun _ => (op_65 _)))⟩)⟩⟩⟩⟩⟩))))
theorem ol_pk_X2_choice {D N : Nat} {w : St} {a1 : Int32} {σ : St} {Q : St → Prop} (hs : OLs D N w σ) (k : ∀ (v0 : St), OLs D N w v0 → Q v0) : pk_X2_choice a1 σ Q := by
  unfold pk_X2_choice
  exact (ol_pk_X2_pop hs (fun u1 s1 p1_ p2_ => (ol_pk_X2_pop p2_ (fun u6 s6 p3_ p4_ => (ol_pk_X2_top (fun u11 p5_ => (ol_pk_X0_aim p4_ (fun s32 p6_ => ⟨(fun x7_ => OLs D N w x7_), ⟨(fun s71 => fun j8_ => (ol_pk_X6_become p5_ j8_ (fun s106 p9_ => (ol_pk_X2_raise p5_ p9_ (fun s117 p10_ => (k _ p10_)))))), ⟨True, ⟨(fun j11_ => (ol_pk_X2_refuse p6_ (fun s68 p12_ => p12_))), ⟨(fun _ => trivial), (fun _ => (ol_pk_X6_fits p1_ (fun v49 => ⟨(fun _ => p6_), (fun _ => (ol_pk_X6_fits p3_ (fun v60 => ⟨(fun _ => p6_), (fun _ => trivial)⟩)))⟩)))⟩⟩⟩⟩⟩))))))))
theorem ol_pk_X2_take {D N : Nat} {w : St} {a1 : Int32} {σ : St} {Q : St → Prop} (hs : OLs D N w σ) (k : ∀ (v0 : St), OLs D N w v0 → Q v0) : pk_X2_take a1 σ Q := by
  unfold pk_X2_take
  exact ⟨(fun _ => (ol_pk_X2_number hs (fun s98 p1_ => (k _ p1_)))), (fun _ => ⟨(fun _ => (ol_pk_X2_string hs (fun s106 p2_ => (k _ p2_)))), (fun _ => ⟨(fun _ => (ol_pk_X2_named hs (fun s114 p3_ => (k _ p3_)))), (fun _ => ⟨(fun _ => (ol_pk_X2_callee hs (fun s122 p4_ => (k _ p4_)))), (fun _ => ⟨(fun _ => (ol_pk_X2_argument hs (fun s129 p5_ => (k _ p5_)))), (fun _ => ⟨(fun _ => (ol_pk_X2_call hs (fun s137 p6_ => (k _ p6_)))), (fun _ => ⟨(fun _ => (ol_pk_X2_left hs (fun s145 p7_ => (k _ p7_)))), (fun _ => ⟨(fun _ => (ol_pk_X2_binary hs (fun s153 p8_ => (k _ p8_)))), (fun _ => ⟨(fun _ => (ol_pk_X2_assign hs (fun s161 p9_ => (k _ p9_)))), (fun _ => ⟨(fun _ => (ol_pk_X2_index hs (fun s169 p10_ => (k _ p10_)))), (fun _ => ⟨(fun _ => (ol_pk_X2_unary hs (fun s177 p11_ => (k _ p11_)))), (fun _ => ⟨(fun _ => (ol_pk_X2_cast hs (fun s196 p12_ => (k _ p12_)))), (fun _ => ⟨(fun _ => (ol_pk_X2_top (fun u204 p13_ => (ol_pk_X2_step p13_ hs (fun s209 p14_ => (k _ p14_)))))), (fun _ => ⟨(fun _ => (ol_pk_X2_top (fun u216 p15_ => (ol_pk_X2_top (fun u222 p16_ => (ol_pk_X2_loaded p16_ hs (fun u225 s225 p17_ p18_ => (ol_pk_X2_unless p17_ p18_ (fun v229 s229 p19_ => (fun s45n => fun h20_ => (k _ (ol_e h20_ (ol_c p19_ (olw_op p15_)))))))))))))), (fun _ => ⟨(fun _ => (ol_pk_X2_colon hs (fun s239 p21_ => (k _ p21_)))), (fun _ => (ol_pk_X2_choice hs (fun s247 p22_ => (k _ p22_))))⟩)⟩)⟩)⟩)⟩)⟩)⟩)⟩)⟩)⟩)⟩)⟩)⟩)⟩)⟩
theorem ol_pk_X7_jumpBack {D N : Nat} {w : St} {a1 : Int32} {σ : St} {Q : St → Prop} (hs : OLs D N w σ) (k : ∀ (v0 : St), OLs D N w v0 → Q v0) : pk_X7_jumpBack a1 σ Q := by
  unfold pk_X7_jumpBack
  exact (ol_pk_X0_emit hs (fun v9 s9 p1_ => (k _ p1_)))
theorem ol_pk_X7_finish {D N : Nat} {w : St} {σ : St} {Q : St → Prop} (hs : OLs D N w σ) (k : ∀ (v0 : St), OLs D N w v0 → Q v0) : pk_X7_finish σ Q := by
  unfold pk_X7_finish
  exact (ol_pk_X0_aim (ol_c hs (by decide)) (fun s32 p1_ => (k _ p1_)))
theorem ol_pk_X7_turn {D N : Nat} {w : St} {a1 : Int32} {σ : St} {Q : St → Prop} (hs : OLs D N w σ) (k : ∀ (v0 : St), OLs D N w v0 → Q v0) : pk_X7_turn a1 σ Q := by
  unfold pk_X7_turn
  exact (ol_pk_X0_emit hs (fun v22 s22 p1_ => (k _ p1_)))
theorem ol_pk_X7_condition {D N : Nat} {w : St} {a1 : Int32} {σ : St} {Q : Nat → St → Prop} (hs : OLs D N w σ) (k : ∀ (v0 : Nat) (v1 : St), OPu v0 → OLs D N w v1 → Q v0 v1) : pk_X7_condition a1 σ Q := by
  unfold pk_X7_condition
  exact (ol_pk_X2_pop hs (fun u4 s4 p1_ p2_ => ⟨(fun _ => (k _ _ p1_ p2_)), (fun _ => (ol_pk_X11_fail p2_ (fun s22 p3_ => (k _ _ p1_ p3_))))⟩))
theorem ol_pk_X7_exitUnless {D N : Nat} {w : St} {a1 : Nat} {σ : St} {Q : St → Prop} (ua1 : OPu a1) (hs : OLs D N w σ) (k : ∀ (v0 : St), OLs D N w v0 → Q v0) : pk_X7_exitUnless a1 σ Q := by
  unfold pk_X7_exitUnless
  exact (ol_pk_X2_unless ua1 hs (fun v28 s28 p1_ => (k _ (ol_F p1_ (by decide)))))
theorem ol_pk_X7_begin {D N : Nat} {w : St} {a1 : Int32} {σ : St} {Q : St → Prop} (hs : OLs D N w σ) (k : ∀ (v0 : St), OLs D N w v0 → Q v0) : pk_X7_begin a1 σ Q := by
  unfold pk_X7_begin
  exact ⟨(fun x1_ => True), ⟨(fun y2_17 => fun _ => fun j2_ => (k _ (ol_c (ol_F (ol_F (ol_F (ol_F hs (by decide)) (by decide)) (by decide)) (by decide)) (by decide)))), ⟨(fun _ => trivial), (fun _ => trivial)⟩⟩⟩
theorem ol_pk_X7_forLoop {D N : Nat} {w : St} {a1 : Int32} {a2 : Int32} {a3 : Int32} {σ : St} {Q : St → Prop} (hs : OLs D N w σ) (k : ∀ (v0 : St), OLs D N w v0 → Q v0) : pk_X7_forLoop a1 a2 a3 σ Q := by
  unfold pk_X7_forLoop
  exact ⟨(fun _ => ⟨(fun _ => ⟨(fun _ => (ol_pk_X0_aim hs (fun s169 p1_ => (ol_pk_X7_jumpBack p1_ (fun s186 p2_ => (ol_pk_X7_finish p2_ (fun s190 p3_ => (k _ p3_)))))))), (fun _ => (ol_pk_X7_jumpBack hs (fun s101 p4_ => (ol_pk_X0_aim p4_ (fun s128 p5_ => (ol_pk_X7_turn p5_ (fun s133 p6_ => (k _ p6_))))))))⟩), (fun _ => ⟨(fun x7_ => OLs D N w x7_), ⟨(fun s33 => fun j8_ => (ol_pk_X0_emit j8_ (fun v52 s52 p9_ => (k _ (ol_F (ol_F p9_ (by decide)) (by decide)))))), ⟨(fun _ => hs), (fun _ => (ol_pk_X7_condition hs (fun u27 s27 p10_ p11_ => (ol_pk_X7_exitUnless p10_ p11_ (fun s30 p12_ => p12_)))))⟩⟩⟩)⟩), (fun _ => (ol_pk_X7_begin hs (fun s8 p13_ => (k _ p13_))))⟩
theorem ol_pk_X7_doLoop {D N : Nat} {w : St} {a1 : Int32} {a2 : Int32} {σ : St} {Q : St → Prop} (hs : OLs D N w σ) (k : ∀ (v0 : St), OLs D N w v0 → Q v0) : pk_X7_doLoop a1 a2 σ Q := by
  unfold pk_X7_doLoop
  exact ⟨(fun _ => ⟨(fun _ => (ol_pk_X7_condition hs (fun u57 s57 p1_ p2_ => (ol_pk_X0_emit p2_ (fun v82 s82 p3_ => (ol_pk_X7_finish p3_ (fun s87 p4_ => (k _ p4_)))))))), (fun _ => (ol_pk_X0_aim hs (fun s49 p5_ => (k _ p5_))))⟩), (fun _ => (ol_pk_X7_begin hs (fun s8 p6_ => (ol_pk_X7_turn p6_ (fun s13 p7_ => (k _ p7_))))))⟩
theorem ol_pk_X7_whileLoop {D N : Nat} {w : St} {a1 : Int32} {a2 : Int32} {σ : St} {Q : St → Prop} (hs : OLs D N w σ) (k : ∀ (v0 : St), OLs D N w v0 → Q v0) : pk_X7_whileLoop a1 a2 σ Q := by
  unfold pk_X7_whileLoop
  exact ⟨(fun _ => ⟨(fun _ => (ol_pk_X0_aim hs (fun s67 p1_ => (ol_pk_X7_jumpBack p1_ (fun s84 p2_ => (ol_pk_X7_finish p2_ (fun s88 p3_ => (k _ p3_)))))))), (fun _ => (ol_pk_X7_condition hs (fun u23 s23 p4_ p5_ => (ol_pk_X7_exitUnless p4_ p5_ (fun s26 p6_ => (ol_pk_X7_turn p6_ (fun s31 p7_ => (k _ p7_))))))))⟩), (fun _ => (ol_pk_X7_begin hs (fun s8 p8_ => (k _ p8_))))⟩
theorem ol_pk_X7_leave_r52 {D N : Nat} {w : St} {a1 : Int32} {σ : St} {Q : St → Prop} (hs : OLs D N w σ) (k : ∀ (v0 : St), OLs D N w v0 → Q v0) : pk_X7_leave_r52 a1 σ Q := by
  unfold pk_X7_leave_r52
  exact ⟨(fun x1_ => True), ⟨trivial, (fun x3_7 => fun j2_ => ⟨True, ⟨(fun j3_ => ⟨(fun _ => (ol_pk_X0_emit hs (fun v59 s59 p4_ => (k _ (ol_F p4_ (by decide)))))), (fun _ => (ol_pk_X11_fail hs (fun s38 p5_ => (k _ p5_))))⟩), ⟨(fun _ => trivial), (fun _ => ⟨(fun _ => trivial), (fun _ => trivial)⟩)⟩⟩⟩)⟩⟩
theorem ol_pk_X7_leave_r51 {D N : Nat} {w : St} {a1 : Int32} {σ : St} {Q : St → Prop} (hs : OLs D N w σ) (k : ∀ (v0 : St), OLs D N w v0 → Q v0) : pk_X7_leave_r51 a1 σ Q := by
  unfold pk_X7_leave_r51
  exact ⟨(fun x1_ => True), ⟨trivial, (fun x3_7 => fun j2_ => ⟨True, ⟨(fun j3_ => ⟨(fun _ => (ol_pk_X0_emit hs (fun v59 s59 p4_ => (k _ (ol_F p4_ (by decide)))))), (fun _ => (ol_pk_X11_fail hs (fun s38 p5_ => (k _ p5_))))⟩), ⟨(fun _ => trivial), (fun _ => ⟨(fun _ => trivial), (fun _ => trivial)⟩)⟩⟩⟩)⟩⟩
theorem ol_pk_X7_conditional {D N : Nat} {w : St} {a1 : Int32} {a2 : Int32} {σ : St} {Q : St → Prop} (hs : OLs D N w σ) (k : ∀ (v0 : St), OLs D N w v0 → Q v0) : pk_X7_conditional a1 a2 σ Q := by
  unfold pk_X7_conditional
  exact ⟨(fun _ => ⟨(fun _ => (ol_pk_X7_finish hs (fun s89 p1_ => (k _ p1_)))), (fun _ => (ol_pk_X0_emit hs (fun v40 s40 p2_ => (ol_pk_X0_aim p2_ (fun s68 p3_ => (k _ (ol_F p3_ (by decide))))))))⟩), (fun _ => (ol_pk_X7_condition hs (fun u8 s8 p4_ p5_ => (ol_pk_X7_begin p5_ (fun s14 p6_ => (ol_pk_X7_exitUnless p4_ p6_ (fun s19 p7_ => (k _ p7_))))))))⟩
theorem ol_pk_X11_close {D N : Nat} {w : St} {σ : St} {Q : St → Prop} (hs : OLs D N w σ) (k : ∀ (v0 : St), OLs D N w v0 → Q v0) : pk_X11_close σ Q := by
  unfold pk_X11_close
  exact (k _ (ol_k (ol_k hs (by decide)) (by decide)))
theorem ol_pk_X7_giveBack {D N : Nat} {w : St} {a1 : Int32} {a2 : Int32} {σ : St} {Q : St → Prop} (hs : OLs D N w σ) (k : ∀ (v0 : St), OLs D N w v0 → Q v0) : pk_X7_giveBack a1 a2 σ Q := by
  unfold pk_X7_giveBack
  exact ⟨(fun x1_ => True), ⟨(fun y0_31 => fun _ => fun j2_ => ⟨(fun x3_ x4_ => OLs D N w x4_), ⟨(fun x4_65 s65 => fun _ => fun j5_ => (ol_pk_X0_emit j5_ (fun v74 s74 p6_ => ⟨(fun _ => (k _ p6_)), (fun _ => (ol_pk_X11_fail p6_ (fun s89 p7_ => (k _ p7_))))⟩))), ⟨(fun _ => (ol_pk_X0_emit hs (fun v61 s61 p8_ => p8_))), (fun _ => (ol_pk_X2_pop hs (fun u41 s41 p9_ p10_ => (ol_pk_X6_fits p9_ (fun v45 => p10_)))))⟩⟩⟩), ⟨(fun _ => trivial), (fun _ => trivial)⟩⟩⟩
theorem ol_pk_X7_take {D N : Nat} {w : St} {a1 : Int32} {a2 : Int32} {σ : St} {Q : St → Prop} (hs : OLs D N w σ) (k : ∀ (v0 : St), OLs D N w v0 → Q v0) : pk_X7_take a1 a2 σ Q := by
  unfold pk_X7_take
  exact ⟨(fun x1_ => True), ⟨(fun y0_31 => fun _ => fun j2_ => ⟨True, ⟨(fun j3_ => (ol_pk_X7_forLoop hs (fun s234 p4_ => (k _ p4_)))), ⟨True, ⟨(fun j5_ => (ol_pk_X7_doLoop hs (fun s223 p6_ => (k _ p6_)))), ⟨True, ⟨(fun j7_ => (ol_pk_X7_whileLoop hs (fun s214 p8_ => (k _ p8_)))), ⟨True, ⟨(fun j9_ => ⟨(fun _ => (ol_pk_X7_leave_r52 hs (fun s195 p10_ => (k _ p10_)))), (fun _ => (ol_pk_X7_leave_r51 hs (fun s195 p11_ => (k _ p11_))))⟩), ⟨True, ⟨(fun j12_ => (ol_pk_X7_conditional hs (fun s170 p13_ => (k _ p13_)))), ⟨(fun _ => (ol_pk_X11_open hs (fun s128 p14_ => (k _ p14_)))), (fun _ => ⟨(fun _ => (ol_pk_X11_close hs (fun s138 p15_ => (k _ p15_)))), (fun _ => ⟨(fun _ => (ol_pk_X2_pop hs (fun u148 s148 p16_ p17_ => (ol_pk_X0_emit p17_ (fun v160 s160 p18_ => (k _ p18_)))))), (fun _ => ⟨(fun _ => trivial), (fun _ => ⟨(fun _ => trivial), (fun _ => ⟨(fun _ => trivial), (fun _ => ⟨(fun _ => trivial), (fun _ => ⟨(fun _ => trivial), (fun _ => ⟨(fun _ => trivial), (fun _ => ⟨(fun _ => trivial), (fun _ => ⟨(fun _ => trivial), (fun _ => ⟨(fun _ => trivial), (fun _ => ⟨(fun _ => trivial), (fun _ => ⟨(fun _ => trivial), (fun _ => ⟨(fun _ => trivial), (fun _ => ⟨(fun _ => trivial), (fun _ => ⟨(fun _ => trivial), (fun _ => ⟨(fun _ => trivial), (fun _ => ⟨(fun _ => (ol_pk_X7_giveBack hs (fun s205 p19_ => (k _ p19_)))), (fun _ => trivial)⟩)⟩)⟩)⟩)⟩)⟩)⟩)⟩)⟩)⟩)⟩)⟩)⟩)⟩)⟩)⟩)⟩)⟩)⟩⟩⟩⟩⟩⟩⟩⟩⟩⟩⟩), ⟨(fun _ => trivial), (fun _ => trivial)⟩⟩⟩
theorem ol_pk_X11_scopeStart {σ : St} {Q : Int32 → Prop} (k : ∀ (v0 : Int32), Q v0) : pk_X11_scopeStart σ Q := by
  unfold pk_X11_scopeStart
  exact (k _)
theorem ol_pk_X11_declareLocal {D N : Nat} {w : St} {a1 : Int32} {a2 : Int32} {a3 : Int32} {σ : St} {Q : St → Prop} (hs : OLs D N w σ) (k : ∀ (v0 : St), OLs D N w v0 → Q v0) : pk_X11_declareLocal a1 a2 a3 σ Q := by
  unfold pk_X11_declareLocal
  exact ⟨(fun x1_ => True), ⟨(fun y2_51 => fun _ => fun j2_ => (k _ (ol_k (ol_k (ol_F (ol_F (ol_F (ol_F (ol_F hs (by decide)) (by decide)) (by decide)) (by decide)) (by decide)) (by decide)) (by decide)))), ⟨(fun _ => trivial), (fun _ => trivial)⟩⟩⟩
theorem ol_pk_X1_storeLocal {D N : Nat} {w : St} {σ : St} {Q : St → Prop} (hs : OLs D N w σ) (k : ∀ (v0 : St), OLs D N w v0 → Q v0) : pk_X1_storeLocal σ Q := by
  unfold pk_X1_storeLocal
  exact (ol_pk_X0_emit hs (fun v12 s12 p1_ => (ol_pk_X0_emit p1_ (fun v24 s24 p2_ => (k _ p2_)))))
theorem ol_pk_X1_local {D N : Nat} {w : St} {a1 : Int32} {a2 : Int32} {σ : St} {Q : St → Prop} (hs : OLs D N w σ) (k : ∀ (v0 : St), OLs D N w v0 → Q v0) : pk_X1_local a1 a2 σ Q := by
  unfold pk_X1_local
  exact (ol_pk_X11_scopeStart (fun v8 => (ol_pk_X11_localFrom (fun v12 => ⟨(fun x1_ => OLs D N w x1_), ⟨(fun s27 => fun j2_ => ⟨(fun x3_ => OLs D N w x3_), ⟨(fun s48 => fun j4_ => (ol_pk_X1_checkSquare j4_ (fun s50 p5_ => ⟨(fun _ => (ol_pk_X11_declareLocal (ol_c p5_ (by decide)) (fun s88 p6_ => ⟨(fun _ => (ol_pk_X0_emit p6_ (fun v133 s133 p7_ => (k _ p7_)))), (fun _ => (ol_pk_X0_emit p6_ (fun v107 s107 p8_ => (ol_pk_X1_storeLocal p8_ (fun s112 p9_ => (k _ p9_))))))⟩))), (fun _ => (k _ p5_))⟩))), ⟨(fun _ => j2_), (fun _ => (ol_pk_X11_fail j2_ (fun s45 p10_ => p10_)))⟩⟩⟩), ⟨(fun _ => hs), (fun _ => (ol_pk_X11_fail hs (fun s24 p11_ => p11_)))⟩⟩⟩))))
theorem ol_pk_X1_variable {D N : Nat} {w : St} {a1 : Int32} {a2 : Int32} {a3 : Int32} {σ : St} {Q : St → Prop} (hs : OLs D N w σ) (k : ∀ (v0 : St), OLs D N w v0 → Q v0) : pk_X1_variable a1 a2 a3 σ Q := by
  unfold pk_X1_variable
  exact ⟨(fun x1_ => True), ⟨(fun y0_16 => fun _ => fun j2_ => ⟨(fun x3_ => True), ⟨(fun y1_61 => fun j4_ => ⟨(fun x5_ => True), ⟨(fun y1_90 => fun _ => fun j6_ => ⟨(fun x7_ => True), ⟨(fun y1_105 => fun _ => fun j8_ => ⟨(fun _ => (ol_pk_X1_outer (ol_c (ol_c (ol_c (ol_c (ol_c (ol_c hs (by decide)) (by decide)) (by decide)) (by decide)) (by decide)) (by decide)) (fun s131 p9_ => (k _ (ol_c p9_ (by decide)))))), (fun _ => (ol_pk_X1_local (ol_c (ol_c (ol_c (ol_c (ol_c (ol_c hs (by decide)) (by decide)) (by decide)) (by decide)) (by decide)) (by decide)) (fun s119 p10_ => (k _ (ol_c p10_ (by decide))))))⟩), ⟨(fun _ => trivial), (fun _ => trivial)⟩⟩⟩), ⟨(fun _ => trivial), (fun _ => trivial)⟩⟩⟩), ⟨(fun _ => ⟨True, ⟨(fun j11_ => trivial), ⟨(fun _ => trivial), (fun _ => ⟨(fun _ => trivial), (fun _ => trivial)⟩)⟩⟩⟩), (fun _ => trivial)⟩⟩⟩), ⟨(fun _ => trivial), (fun _ => trivial)⟩⟩⟩
theorem ol_pk_X6_isInitial {a0 : Nat} {σ : St} {Q : Int32 → Prop} (ua0 : OPu a0) (k : ∀ (v0 : Int32), Q v0) : pk_X6_isInitial a0 σ Q := by
  unfold pk_X6_isInitial
  exact ⟨(fun _ => (k _)), (fun _ => (k _))⟩
theorem ol_pk_X1_suits {a1 : Nat} {σ : St} {Q : Int32 → Prop} (ua1 : OPu a1) (k : ∀ (v0 : Int32), Q v0) : pk_X1_suits a1 σ Q := by
  unfold pk_X1_suits
  exact (ol_pk_X6_fits ua1 (fun v5 => ⟨(fun _ => (k _)), (fun _ => ⟨(fun _ => (k _)), (fun _ => (ol_pk_X6_isInitial ua1 (fun v19 => ⟨(fun _ => (k _)), (fun _ => (k _))⟩)))⟩)⟩))
theorem ol_pk_X1_putInitial {D N : Nat} {w : St} {a1 : Int32} {a2 : Nat} {σ : St} {Q : St → Prop} (ua2 : OPu a2) (hs : OLs D N w σ) (k : ∀ (v0 : St), OLs D N w v0 → Q v0) : pk_X1_putInitial a1 a2 σ Q := by
  unfold pk_X1_putInitial
  exact (ol_pk_X0_cut hs (fun s8 p1_ => (ol_pk_X6_isConstant ua2 (fun v22 => ⟨(fun x2_ => True), ⟨(fun y2_37 => fun j3_ => (ol_pk_X8_addInitial p1_ (fun s41 p4_ => (k _ p4_)))), ⟨(fun _ => trivial), (fun _ => trivial)⟩⟩⟩))))
theorem ol_pk_X1_item {D N : Nat} {w : St} {σ : St} {Q : St → Prop} (hs : OLs D N w σ) (k : ∀ (v0 : St), OLs D N w v0 → Q v0) : pk_X1_item σ Q := by
  unfold pk_X1_item
  exact (ol_pk_X2_pop hs (fun u4 s4 p1_ p2_ => ⟨True, ⟨(fun j3_ => (k _ (ol_c (ol_c p2_ (by decide)) (by decide)))), ⟨(fun _ => trivial), (fun _ => (ol_pk_X1_suits p1_ (fun v21 => ⟨(fun _ => ⟨(fun _ => (ol_pk_X1_putInitial p1_ p2_ (fun s70 p4_ => (k _ (ol_c p4_ (by decide)))))), (fun _ => (ol_pk_X0_emit p2_ (fun v57 s57 p5_ => (k _ (ol_c p5_ (by decide))))))⟩), (fun _ => trivial)⟩)))⟩⟩⟩))
theorem ol_pk_X1_fill {D N : Nat} {w : St} {a1 : Int32} {σ : St} {Q : St → Prop} (hs : OLs D N w σ) (k : ∀ (v0 : St), OLs D N w v0 → Q v0) : pk_X1_fill a1 σ Q := by
  unfold pk_X1_fill
  exact (ol_pk_X10_readCodes hs (fun v5 s5 p1_ => ⟨(fun x2_ => True), ⟨(fun y1_23 => fun _ => fun j3_ => ⟨(fun x4_ x5_ => OLs D N w x5_), ⟨(ol_c p1_ (by decide)), (fun x3_28 s28 => fun j6_ => ⟨(fun _ => (k _ j6_)), (fun _ => ⟨(fun _ => (k _ j6_)), (fun _ => ⟨(fun x7_ => OLs D N w x7_), ⟨(fun s102 => fun j8_ => j8_), ⟨(fun _ => (ol_pk_X8_addInitial j6_ (fun s99 p9_ => p9_))), (fun _ => (ol_pk_X0_emit j6_ (fun v69 s69 p10_ => p10_)))⟩⟩⟩)⟩)⟩)⟩⟩), ⟨(fun _ => trivial), (fun _ => trivial)⟩⟩⟩))
theorem ol_pk_X1_initial {D N : Nat} {w : St} {a1 : Int32} {a2 : Int32} {σ : St} {Q : St → Prop} (hs : OLs D N w σ) (k : ∀ (v0 : St), OLs D N w v0 → Q v0) : pk_X1_initial a1 a2 σ Q := by
  unfold pk_X1_initial
  exact ⟨(fun x1_ => OLs D N w x1_), ⟨(fun s89 => fun j2_ => ⟨True, ⟨(fun j3_ => (ol_pk_X11_fail j2_ (fun s109 p4_ => (k _ p4_)))), ⟨(fun _ => trivial), (fun _ => ⟨(fun _ => (k _ j2_)), (fun _ => trivial)⟩)⟩⟩⟩), ⟨(fun _ => ⟨(fun _ => hs), (fun _ => (ol_pk_X2_pop hs (fun u40 s40 p5_ p6_ => ⟨(fun x7_ => True), ⟨(fun y1_66 => fun _ => fun j8_ => ⟨(fun _ => (ol_pk_X1_putInitial p5_ (ol_c p6_ (by decide)) (fun s86 p9_ => p9_))), (fun _ => (ol_pk_X1_storeLocal (ol_c p6_ (by decide)) (fun s77 p10_ => p10_)))⟩), ⟨True, ⟨(fun j11_ => trivial), ⟨(fun _ => trivial), (fun _ => (ol_pk_X1_suits p5_ (fun v55 => ⟨(fun _ => trivial), (fun _ => trivial)⟩)))⟩⟩⟩⟩⟩)))⟩), (fun _ => ⟨(fun x12_ => True), ⟨(fun y1_26 => fun _ => fun j13_ => (ol_c hs (by decide))), ⟨True, ⟨(fun j14_ => trivial), ⟨(fun _ => trivial), (fun _ => ⟨(fun _ => trivial), (fun _ => trivial)⟩)⟩⟩⟩⟩⟩)⟩⟩⟩
theorem ol_pk_X1_parameter {D N : Nat} {w : St} {a1 : Int32} {a2 : Int32} {σ : St} {Q : St → Prop} (hs : OLs D N w σ) (k : ∀ (v0 : St), OLs D N w v0 → Q v0) : pk_X1_parameter a1 a2 σ Q := by
  unfold pk_X1_parameter
  exact ⟨True, ⟨(fun j1_ => (ol_pk_X11_fail hs (fun s33 p2_ => (k _ p2_)))), ⟨(fun _ => trivial), (fun _ => (ol_pk_X11_localFrom (fun v21 => ⟨(fun _ => (ol_pk_X11_declareLocal hs (fun s46 p3_ => (k _ p3_)))), (fun _ => trivial)⟩)))⟩⟩⟩
theorem ol_pk_X0_settle_r48 {D N : Nat} {w : St} {a1 : Int32} {σ : St} {Q : St → Prop} (hs : OLs D N w σ) (k : ∀ (v0 : St), OLs D N w v0 → Q v0) : pk_X0_settle_r48 a1 σ Q := by
  unfold pk_X0_settle_r48
  exact ⟨(fun x1_ x2_ x3_ => OLs D N w x3_), ⟨hs, (fun x3_8 x4_8 s8 => fun j4_ => ⟨(fun _ => (k _ j4_)), (fun _ => ⟨(fun _ => (k _ j4_)), (fun _ => ⟨(fun x5_ => OLs D N w x5_), ⟨(fun s119 => fun j6_ => j6_), ⟨True, ⟨(fun j7_ => ⟨(fun _ => j4_), (fun _ => ⟨(fun _ => j4_), (fun _ => (ol_F j4_ (by decide)))⟩)⟩), ⟨(fun _ => trivial), (fun _ => ⟨(fun _ => trivial), (fun _ => ⟨(fun _ => trivial), (fun _ => (ol_F (ol_F j4_ (by decide)) (by decide)))⟩)⟩)⟩⟩⟩⟩⟩)⟩)⟩)⟩⟩
theorem ol_pk_X0_thread {D N : Nat} {w : St} {a1 : Int32} {σ : St} {Q : St → Prop} (hs : OLs D N w σ) (k : ∀ (v0 : St), OLs D N w v0 → Q v0) : pk_X0_thread a1 σ Q := by
  unfold pk_X0_thread
  exact ⟨(fun x1_ x2_ x3_ => OLs D N w x3_), ⟨hs, (fun x2_7 x3_7 s7 => fun j4_ => ⟨(fun _ => (k _ j4_)), (fun _ => ⟨(fun _ => (k _ j4_)), (fun _ => ⟨(fun x5_ => OLs D N w x5_), ⟨(fun s110 => fun j6_ => j6_), ⟨(fun _ => j4_), (fun _ => ⟨(fun _ => j4_), (fun _ => ⟨(fun x7_ x8_ => True), ⟨trivial, (fun x5_58 x6_58 => fun j9_ => ⟨True, ⟨(fun j10_ => (ol_F j4_ (by decide))), ⟨(fun _ => trivial), (fun _ => ⟨(fun _ => trivial), (fun _ => trivial)⟩)⟩⟩⟩)⟩⟩)⟩)⟩⟩⟩)⟩)⟩)⟩⟩
theorem ol_pk_X1_functionEnd {D N : Nat} {w : St} {σ : St} {Q : St → Prop} (hs : OLs D N w σ) (k : ∀ (v0 : St), OLs D N w v0 → Q v0) : pk_X1_functionEnd σ Q := by
  unfold pk_X1_functionEnd
  exact (ol_pk_X0_emit hs (fun v8 s8 p1_ => (ol_pk_X0_emit p1_ (fun v21 s21 p2_ => (ol_pk_X8_parameters (fun v60 => ⟨(fun x3_ x4_ x5_ x6_ => OLs D N w x6_), ⟨p2_, (fun x3_72 x4_72 x5_72 s72 => fun j7_ => ⟨(fun _ => (ol_pk_X0_settle_r48 (ol_F (ol_F (ol_F (ol_F j7_ (by decide)) (by decide)) (by decide)) (by decide)) (fun s255 p8_ => ⟨(fun x9_ => OLs D N w x9_), ⟨(fun s279 => fun j10_ => (ol_pk_X11_leave j10_ (fun s283 p11_ => (k _ p11_)))), ⟨(fun _ => p8_), (fun _ => (ol_pk_X0_thread p8_ (fun s276 p12_ => p12_)))⟩⟩⟩))), (fun _ => ⟨(fun x13_ => True), ⟨(fun y0_104 => fun _ => fun j14_ => ⟨(fun x15_ => True), ⟨(fun y2_122 => fun j16_ => ⟨(fun x17_ => True), ⟨(fun y1_146 => fun j18_ => ⟨(fun x19_ => True), ⟨(fun y1_175 => fun j20_ => (ol_F j7_ (by decide))), ⟨(fun _ => trivial), (fun _ => trivial)⟩⟩⟩), ⟨True, ⟨(fun j21_ => trivial), ⟨(fun _ => trivial), (fun _ => ⟨(fun _ => trivial), (fun _ => trivial)⟩)⟩⟩⟩⟩⟩), ⟨(fun _ => trivial), (fun _ => trivial)⟩⟩⟩), ⟨(fun _ => trivial), (fun _ => trivial)⟩⟩⟩)⟩)⟩⟩))))))
theorem ol_pk_X1_take {D N : Nat} {w : St} {a1 : Int32} {a2 : Int32} {σ : St} {Q : St → Prop} (hs : OLs D N w σ) (k : ∀ (v0 : St), OLs D N w v0 → Q v0) : pk_X1_take a1 a2 σ Q := by
  unfold pk_X1_take
  exact ⟨(fun _ => ⟨(fun _ => ⟨(fun _ => (k _ (ol_c (ol_c hs (by decide)) (by decide)))), (fun _ => (k _ (ol_c (ol_c hs (by decide)) (by decide))))⟩), (fun _ => (k _ (ol_c (ol_c hs (by decide)) (by decide))))⟩), (fun _ => ⟨(fun _ => (ol_pk_X1_variable hs (fun s121 p1_ => (k _ p1_)))), (fun _ => ⟨(fun _ => (ol_pk_X1_item hs (fun s128 p2_ => (k _ p2_)))), (fun _ => ⟨(fun _ => (ol_pk_X1_fill hs (fun s136 p3_ => (k _ p3_)))), (fun _ => ⟨(fun _ => (ol_pk_X1_initial hs (fun s146 p4_ => (k _ p4_)))), (fun _ => ⟨(fun _ => (ol_pk_X1_function hs (fun s158 p5_ => (k _ p5_)))), (fun _ => ⟨(fun _ => (ol_pk_X1_parameter hs (fun s168 p6_ => (k _ p6_)))), (fun _ => (ol_pk_X1_functionEnd hs (fun s175 p7_ => (k _ p7_))))⟩)⟩)⟩)⟩)⟩)⟩)⟩
theorem ol_pk_X7_constant {D N : Nat} {w : St} {a1 : Int32} {a2 : Int32} {σ : St} {Q : Int32 → St → Prop} (hs : OLs D N w σ) (k : ∀ (v0 : Int32) (v1 : St), OLs D N w v1 → Q v0 v1) : pk_X7_constant a1 a2 σ Q := by
  unfold pk_X7_constant
  exact ⟨(fun x1_ x2_ => OLs D N w x2_), ⟨hs, (fun x4_11 s11 => fun j3_ => ⟨True, ⟨(fun j4_ => ⟨(fun x5_ => True), ⟨(fun y0_57 => fun _ => fun j6_ => (ol_pk_X0_cut (ol_k j3_ (by decide)) (fun s72 p7_ => (ol_pk_X2_top (fun u79 p8_ => ⟨(fun _ => (k _ _ (ol_c p7_ (by decide)))), (fun _ => (ol_pk_X6_isConstant p8_ (fun v99 => ⟨(fun _ => (k _ _ (ol_c p7_ (by decide)))), (fun _ => (k _ _ (ol_c p7_ (by decide))))⟩)))⟩))))), ⟨(fun _ => trivial), (fun _ => trivial)⟩⟩⟩), ⟨(fun _ => trivial), (fun _ => ⟨(fun _ => trivial), (fun _ => (ol_pk_X2_take j3_ (fun s33 p9_ => p9_)))⟩)⟩⟩⟩)⟩⟩
theorem ol_pk_X11_finish {D N : Nat} {w : St} {σ : St} {Q : St → Prop} (hs : OLs D N w σ) (k : ∀ (v0 : St), OLs D N w v0 → Q v0) : pk_X11_finish σ Q := by
  unfold pk_X11_finish
  exact ⟨(fun x1_ x2_ => True), ⟨trivial, (fun x1_4 x2_4 => fun j3_ => ⟨(fun _ => ⟨(fun _ => (k _ hs)), (fun _ => (ol_pk_X11_fail hs (fun s104 p4_ => (k _ p4_))))⟩), (fun _ => (ol_pk_X8_is (fun v43 => ⟨(fun x5_ => True), ⟨(fun y0_66 => fun _ => fun j6_ => ⟨(fun x7_ => True), ⟨(fun x1_91 => fun j8_ => trivial), ⟨(fun _ => trivial), (fun _ => ⟨(fun _ => trivial), (fun _ => ⟨True, ⟨(fun j9_ => trivial), ⟨(fun _ => trivial), (fun _ => ⟨(fun _ => trivial), (fun _ => trivial)⟩)⟩⟩⟩)⟩)⟩⟩⟩), ⟨True, ⟨(fun j10_ => trivial), ⟨(fun _ => trivial), (fun _ => (ol_pk_X8_is (fun v55 => ⟨(fun _ => trivial), (fun _ => trivial)⟩)))⟩⟩⟩⟩⟩)))⟩)⟩⟩
section OLW
variable {D N : Nat} {w s t σ : St} {a : Int32}
/-- the walk of a unit leaves what was declared before, and the names of what it declares are those of their tokens -/
theorem ol_pk_X7_walk {Q : St → Prop} (hD : (σ 5 1).toInt = D) (hD1 : 1 ≤ D ∧ D ≤ 10100) (hN : (σ 5 7).toInt = N) (hN1 : N ≤ 65600) (hE : (σ 29 (D - 1)).toInt = N) (k : ∀ s, OLs D N σ s → Q s) : pk_X7_walk a σ Q := by
  unfold pk_X7_walk pk_X11_begin pk_X11_leave pk_X1_begin
  dsimp only
  refine ⟨fun _ _ s => OLs D N σ s, ?_, fun x2 x3 s h => ⟨True, fun _ => ol_pk_X11_finish h (fun s h => k s h), fun _ => trivial, fun _ => ⟨fun _ => trivial, fun _ => ⟨fun _ => trivial, fun _ => ⟨fun _ s => OLs D N σ s, fun x s h => h, fun _ => ⟨fun _ => ⟨fun _ => ol_pk_X7_constant h (fun v s h => ol_c h rfl), fun _ => ol_pk_X1_take h (fun s h => h)⟩, fun _ => ol_pk_X7_take h (fun s h => h)⟩, fun _ => ol_pk_X2_take h (fun s h => h)⟩⟩⟩⟩⟩
  generalize hρ : upC (upC (upC (upC (upC (upC (upC (upC (upC (upC (upC (upC (upC σ 6 2 a) 6 3 (0 : Int32)) 6 4 ((-1) : Int32)) 6 5 (0 : Int32)) 6 7 (0 : Int32)) 6 6 ((-1) : Int32)) 6 10 (0 : Int32)) 6 15 (0 : Int32)) 6 17 (0 : Int32)) 8 6 ((-1) : Int32)) 8 8 (0 : Int32)) 7 7 (0 : Int32)) 9 5 (0 : Int32) = ρ
  have row : ∀ c, c ≠ 6 → c ≠ 7 → c ≠ 8 → c ≠ 9 → ρ c = σ c := fun c c6 c7 c8 c9 => by
    rw [← hρ, rdC_ne c9, rdC_ne c7, rdC_ne c8, rdC_ne c8, rdC_ne c6, rdC_ne c6, rdC_ne c6, rdC_ne c6, rdC_ne c6, rdC_ne c6, rdC_ne c6, rdC_ne c6, rdC_ne c6]
  have r7 : (ρ 6 7).toInt = 0 := by rw [← hρ]; rfl
  clear hρ
  have r5 : ρ 5 = σ 5 := row 5 (by decide) (by decide) (by decide) (by decide)
  refine ⟨⟨row 1 (by decide) (by decide) (by decide) (by decide), row 13 (by decide) (by decide) (by decide) (by decide), row 14 (by decide) (by decide) (by decide) (by decide), row 15 (by decide) (by decide) (by decide) (by decide)⟩, ⟨by omega, by omega, by rw [r5]; omega, by rw [r5]; omega, by rw [r5]; omega⟩, fun _ => ⟨hD1, by rw [r5]; omega, fun j _ => ?_, fun i _ => by rw [row 30 (by decide) (by decide) (by decide) (by decide)], fun d hd => ?_, fun i hi => by omega, fun i j _ hj => by omega⟩⟩
  · rw [row 25 (by decide) (by decide) (by decide) (by decide), row 26 (by decide) (by decide) (by decide) (by decide), row 27 (by decide) (by decide) (by decide) (by decide), row 28 (by decide) (by decide) (by decide) (by decide), row 29 (by decide) (by decide) (by decide) (by decide)]
    exact ⟨rfl, rfl, rfl, rfl, rfl⟩
  · rw [r5, hD] at hd
    rw [row 29 (by decide) (by decide) (by decide) (by decide), r5, show d = D - 1 from by omega]
    omega
end OLW
