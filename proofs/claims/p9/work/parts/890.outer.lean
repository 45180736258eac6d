/-! the walk: a variable outside of functions -/
section OU1
variable {σ s z t ρ : St} {g g' g1 : Gh} {X X0 Y : Nat → Prop} {b e e0 e' h h' H H0 H' L L' m n N N' Nb c d p tt j i F F' k B : Nat} {K K2 M E G D : List Nat} {A : List It} {x y v a op a1 a2 a3 : Int32}
abbrev KDu (a b : St) : Prop := Kp [(6, 3), (6, 4), (6, 5), (8, 6), (8, 7), (8, 8), (8, 9), (8, 10), (8, 11), (8, 12), (8, 13), (8, 14), (8, 15), (8, 16)] [] a b
theorem dv_D (hv : DVx σ s d) (k : KDu s t) : DVx σ t d := by
  obtain ⟨k1, ⟨u1, u2, u3, u4⟩, ⟨d1, d2⟩, d3, d4, ⟨d5, d6⟩, d7⟩ := hv
  have e1 : t 5 1 = s 5 1 := k 5 1 rfl rfl
  have e2 : t 6 7 = s 6 7 := k 6 7 rfl rfl
  have r : ∀ c, ([25, 26, 27, 28, 29, 39] : List Nat).contains c = true → t c = s c := fun c hc => funext (fun j => k c j (by
    simp only [List.contains_cons, List.contains_nil, Bool.or_false, Bool.or_eq_true, beq_iff_eq] at hc
    rcases hc with q | q | q | q | q | q <;> subst q <;> rfl) rfl)
  refine ⟨kp_tr k1 (kp_sub k rfl rfl), by rw [e1, e2]; exact ⟨u1, u2, u3, u4⟩, ⟨d1, by rw [e1]; exact d2⟩, fun j hj => ?_, fun i hi => ?_, ⟨by rw [e1]; exact d5, fun j j1 j2 => d6 j j1 (by rw [← e1]; exact j2)⟩, by rw [show t 5 7 = s 5 7 from k 5 7 rfl rfl]; exact d7.1, fun z => (nme_k e1 (k 5 7 rfl rfl) (fun d => k 29 d rfl rfl) ⟨d7.1, d7.2 z⟩).2⟩
  · rw [r 25 rfl, r 26 rfl, r 27 rfl, r 28 rfl, r 29 rfl]
    exact d3 j hj
  · rw [r 39 rfl]
    exact d4 i hi
theorem dv_row {f : Nat → Int32} (hv : DVx σ s d) (hc : c = 25 ∨ c = 26 ∨ c = 27 ∨ c = 28) (hf : ∀ j, j ≠ d → f j = s c j) : DVx σ (upF s c f) d := by
  obtain ⟨k1, ⟨u1, u2, u3, u4⟩, ⟨d1, d2⟩, d3, d4, ⟨d5, d6⟩, d7⟩ := hv
  have c5 : 5 ≠ c := by omega
  have c6 : 6 ≠ c := by omega
  have e1 : (upF s c f) 5 1 = s 5 1 := by rw [rdF_ne c5]
  have e2 : (upF s c f) 6 7 = s 6 7 := by rw [rdF_ne c6]
  have r : ∀ c' j, j ≠ d → (upF s c f) c' j = s c' j := fun c' j hj => by
    by_cases e : c' = c
    · rw [e, rdF_eq]
      exact hf j hj
    · rw [rdF_ne e]
  have kk : KUx σ (upF s c f) := by
    rcases hc with q | q | q | q <;> subst q <;> exact kp_F k1 rfl
  refine ⟨kk, by rw [e1, e2]; exact ⟨u1, u2, u3, u4⟩, ⟨d1, by rw [e1]; exact d2⟩, fun j hj => ?_, fun i hi => ?_, ⟨by rw [e1]; exact d5, fun j j1 j2 => d6 j j1 (by rw [← e1]; exact j2)⟩, by rw [rdF_ne c5]; exact d7.1, fun z => (nme_k e1 (by rw [rdF_ne c5]) (fun d => by rw [rdF_ne (by omega)]) ⟨d7.1, d7.2 z⟩).2⟩
  · rw [r 25 j hj, r 26 j hj, r 27 j hj, r 28 j hj, r 29 j hj]
    exact d3 j hj
  · rw [rdF_ne (by omega)]
    exact d4 i hi
theorem flb_24 {f : Int32} (hf : f = 2 ∨ f = 4) (q : ¬ FLb x 1) : ¬ FLb (x ||| f) 1 := by
  unfold FLb at q ⊢
  rw [and_or]
  have z : f &&& 1 = 0 := by rcases hf with e | e <;> subst e <;> decide
  rw [z, Int32.or_zero]
  exact q
theorem is_all {f : Int32} {Q : Int32 → Prop} (k : ∀ v : Int32, (v.toInt = 0 → ¬ FLb (atv 10100 (σ 25) x) f) → (v.toInt ≠ 0 → FLb (atv 10100 (σ 25) x) f) → (v = 0 ∨ v = 1) → Q v) : wk_X8_is x f σ Q := sk_is (fun c => k 0 (fun _ => c) (fun n => absurd rfl n) (Or.inl rfl)) (fun c => k 1 (fun n => absurd n (by decide)) (fun _ => c) (Or.inr rfl))
theorem of_all {Q : Int32 → Prop} (hp : PLA σ) (ho : 0 ≤ (σ 6 7).toInt ∧ (σ 6 7).toInt ≤ 100) (hd : (σ 6 7).toInt ≤ (σ 5 1).toInt ∧ (σ 5 1).toInt ≤ 10100) (k : ∀ v : Int32, (0 ≤ v.toInt → (σ 5 1).toInt - (σ 6 7).toInt ≤ v.toInt ∧ v.toInt < (σ 5 1).toInt) → Q v) : wk_X11_outerOf y σ Q := sp_outerOf hp ho hd (k _ (fun c => absurd c (by decide))) (fun v h1 h2 => k v (fun _ => ⟨h1, h2⟩))
theorem sp_joins {Q : Int32 → Prop} (k0 : Q 0) (k1 : ¬ FLb (atv 10100 (σ 25) a1) 1 → Q 1) : wk_X1_joins a1 a2 σ Q := by
  unfold wk_X1_joins
  refine is_all (fun v18 hv _ _ => ?_)
  refine ⟨fun y => y.toInt ≠ 0 → v18.toInt = 0, fun y73 _ h73 => ?_, True, fun _ c => absurd rfl c, fun _ => trivial, fun c => ⟨fun _ => trivial, fun _ => ⟨fun _ => True, fun y52 _ _ => ⟨fun _ => True, fun y65 _ _ => ⟨fun _ => trivial, fun _ _ => c⟩, fun _ => trivial, fun _ => trivial⟩, fun _ => trivial, fun _ => trivial⟩⟩⟩
  refine ⟨fun _ => True, fun y99 _ _ => ?_, True, fun _ => trivial, fun _ => trivial, fun _ => ⟨fun _ => trivial, fun _ => ⟨fun _ => trivial, fun _ => trivial⟩⟩⟩
  refine ⟨fun _ => True, fun y123 _ _ => ⟨fun _ => k0, fun n73 => ⟨fun _ => k0, fun _ => ⟨fun _ => k0, fun _ => ⟨fun _ => k1 (hv (h73 n73)), fun _ => is_all (fun v _ _ _ => ⟨fun _ => k0, fun _ => k1 (hv (h73 n73))⟩)⟩⟩⟩⟩, True, fun _ => trivial, fun _ => trivial, fun _ => is_all (fun v _ _ _ => ⟨fun _ => trivial, fun _ => trivial⟩)⟩
theorem sp_checkOuter {Q : St → Prop} (k : ∀ s, FAi σ s → ((s 6 3).toInt = 0 → a3.toInt ≠ 0 ∧ (a2.toInt < 0 → (σ 6 7).toInt < 100)) → Q s) : wk_X1_checkOuter a1 a2 a3 σ Q := by
  unfold wk_X1_checkOuter
  refine ⟨fun s => FAi σ s ∧ ((s 6 3).toInt = 0 → a3.toInt ≠ 0), fun s hs => ⟨fun c => k s hs.1 (fun z => ⟨hs.2 z, fun z2 => by omega⟩), fun _ => ⟨fun c => k s hs.1 (fun z => ⟨hs.2 z, fun _ => by rw [← show s 6 7 = σ 6 7 from hs.1.1 6 7 rfl rfl]; exact c⟩), fun _ => fa_fail (by decide) (fun t ft fz => k t (fa_tr hs.1 ft) (fun z => absurd z fz))⟩⟩, fun c => ⟨fa_rf, fun _ => c⟩, fun _ => fa_fail (by decide) (fun t ft fz => ⟨ft, fun z => absurd z fz⟩)⟩
/-- a declaration that is no function's -/
def PVx (σ : St) (w : Nat) (y : Int32) (s : St) : Prop := ∃ d : Nat, y.toInt = d ∧ d < 10100 ∧ DVx σ s d ∧ ¬ FLb ((s 25) d) 1 ∧ ((d : Int) < (σ 5 1).toInt → ¬ FLb ((σ 25) d) 1) ∧ (s 8 9) = (σ 8 9) ∧ (s 5 7).toInt ≤ (σ 5 7).toInt + w
theorem pv_row {f : Nat → Int32} {w : Nat} (h : PVx σ w y s) (hc : c = 26 ∨ c = 27 ∨ c = 28) : PVx σ w y (upF s c (setv 10100 (s c) y v)) := by
  obtain ⟨d, h1, h2, h3, h4, h5, h6, h7⟩ := h
  rw [setv_at h1 h2]
  exact ⟨d, h1, h2, dv_row h3 (by omega) (fun j hj => if_neg hj), by rw [rdF_ne (by omega)]; exact h4, h5, by rw [rdF_ne (by omega)]; exact h6, by rw [rdF_ne (by omega)]; exact h7⟩
theorem pv_mark {Q : St → Prop} {w : Nat} (h : PVx σ w y s) (hf : v = 2 ∨ v = 4) (k : ∀ t, PVx σ w y t → t 8 = s 8 → t 6 = s 6 → Q t) : wk_X8_mark y v s Q := by
  obtain ⟨d, h1, h2, h3, h4, h5, h6, h7⟩ := h
  unfold wk_X8_mark
  rw [setv_at h1 h2, atv_at h1 h2]
  refine k _ ⟨d, h1, h2, dv_row h3 (Or.inl rfl) (fun j hj => if_neg hj), ?_, h5, by rw [rdF_ne (by decide)]; exact h6, by rw [rdF_ne (by decide)]; exact h7⟩ (rdF_ne (by decide)) (rdF_ne (by decide))
  rw [rdF_eq]
  show ¬ FLb (if d = d then _ else _) 1
  rw [if_pos rfl]
  exact flb_24 hf h4
theorem sp_outer {Q : St → Prop} (wk : WKs ρ σ) (nm : NMr σ) (by' : ByteOK (σ 1)) (tk : tkx σ a1 = 2) (hd : (σ 5 1).toInt - (σ 6 7).toInt ≤ 10000) (hn : (σ 5 7).toInt + (vlx σ a1).toNat ≤ 65600) (kf : ∀ s, FAi σ s → (s 6 3).toInt ≠ 0 → Q s) (k : ∀ s, PVx σ (vlx σ a1).toNat (s 8 10) s → Q s) : wk_X1_outer a1 a2 a3 σ Q := by
  obtain ⟨w1, ⟨u1, u2, u3, u4, u5⟩, w3, w4, w5⟩ := wk
  unfold wk_X1_outer
  refine of_all u1 u2 u3 (fun v5 hv5 => ?_)
  refine ⟨fun y => y.toInt ≠ 0 → 0 ≤ v5.toInt → ¬ FLb (atv 10100 (σ 25) v5) 1, fun y3 _ hy3 => sp_checkOuter (fun s34 f34 z34 => ?_), (v5.toInt < 0 ∨ ¬ FLb (atv 10100 (σ 25) v5) 1), fun hJ _ c => hJ.elim (fun n => by omega) id, fun c => Or.inl c, fun _ => sp_joins ⟨fun _ n => absurd rfl n, fun n => absurd rfl n⟩ (fun nf => ⟨fun n => absurd n (by decide), fun _ => Or.inr nf⟩)⟩
  refine ⟨fun _ => True, fun y1 _ _ => sp_checkSquare (fun s54 f54' => ?_), True, fun _ => trivial, fun _ => trivial, fun _ => ⟨fun _ => trivial, fun _ => trivial⟩⟩
  have f54 := fa_tr f34 f54'
  have z54 : (s54 6 3).toInt = 0 → y3.toInt ≠ 0 ∧ (v5.toInt < 0 → (σ 6 7).toInt < 100) := fun z => z34 (f54'.2 z)
  refine ⟨fun _ => True, fun y0 _ => ?_, fun _ => ⟨fun _ => trivial, fun _ => trivial⟩, fun _ => trivial⟩
  refine ⟨fun s => FAi σ s ∧ ((s 6 3).toInt = 0 → y3.toInt ≠ 0 ∧ (v5.toInt < 0 → (σ 6 7).toInt < 100)), fun s hs => ⟨fun hf => ?_, fun hf => kf s hs.1 hf⟩, fun _ => ⟨f54, z54⟩, fun _ => fa_fail (by decide) (fun t ft fz => ⟨fa_tr f54 ft, fun z => absurd z fz⟩)⟩
  obtain ⟨fs, zs⟩ := hs
  obtain ⟨m3, mo⟩ := zs hf
  have q := fs.1
  have ku : KUx σ s := kp_sub q rfl rfl
  have rc : ∀ c, c ≠ 6 → s c = σ c := fun c hc => funext (fun j => q c j (by
    simp only [List.contains_cons, List.contains_nil, Bool.or_false, Bool.or_eq_false_iff]
    exact ⟨by
      cases hh : ((c, j) == ((6 : Nat), (3 : Nat))) with
      | false => rfl
      | true => exact absurd (congrArg Prod.fst (eq_of_beq hh)) hc, by
      cases hh : ((c, j) == ((6 : Nat), (4 : Nat))) with
      | false => rfl
      | true => exact absurd (congrArg Prod.fst (eq_of_beq hh)) hc⟩) rfl)
  have e67 : s 6 7 = σ 6 7 := q 6 7 rfl rfl
  refine ⟨fun y s' => PVx σ (vlx σ a1).toNat y s' , fun y s141 hp => ?_, fun c0 => ?_, fun c0 => ?_⟩
  · -- the declaration is written
    have p1 : PVx σ (vlx σ a1).toNat y (upC s141 8 10 y) := by
      obtain ⟨d, h1, h2, h3, h4, h5, h6, h7⟩ := hp
      have kt : Kp [(8, 10)] [] s141 (upC s141 8 10 y) := kp_f kp_rf rfl
      exact ⟨d, h1, h2, dv_D h3 (kp_sub kt rfl rfl), by rw [rdC_ne (by decide)]; exact h4, h5, by rw [rdA_ne (by decide)]; exact h6, by rw [rdC_ne (by decide)]; exact h7⟩
    have p2 := pv_row (f := fun _ => 0) (c := 26) (v := s141 8 11) p1 (by decide)
    have p3 := pv_row (f := fun _ => 0) (c := 27) (v := s141 8 12) p2 (by decide)
    have x1 : (upC s141 8 10 y) 8 10 = y := rdA_eq rfl
    refine ⟨fun s192 => PVx σ (vlx σ a1).toNat (s192 8 10) s192, fun s192 hp2 => ?_, True, fun _ => ?_, fun _ => trivial, fun _ => ⟨fun _ => ?_, fun _ => trivial⟩⟩
    · refine ⟨fun s209 => PVx σ (vlx σ a1).toNat (s209 8 10) s209, fun s209 hp3 => ⟨fun s249 => PVx σ (vlx σ a1).toNat (s249 8 10) s249, fun s249 hp4 => by
        refine k _ ?_
        generalize ht : upC (upC s249 8 14 (s249 6 5)) 6 5 ((s249 6 5) + y0) = t
        have kt : Kp [(8, 14), (6, 5)] [] s249 t := by rw [← ht]; exact kp_f (kp_f kp_rf rfl) rfl
        obtain ⟨d, h1, h2, h3, h4, h5, h6, h7⟩ := hp4
        exact ⟨d, by rw [show t 8 10 = s249 8 10 from kt 8 10 rfl rfl]; exact h1, h2, dv_D h3 (kp_sub kt rfl rfl), by rw [show t 25 d = s249 25 d from kt 25 d rfl rfl]; exact h4, h5, (show t 8 9 = s249 8 9 from kt 8 9 rfl rfl).trans h6, by rw [show t 5 7 = s249 5 7 from kt 5 7 rfl rfl]; exact h7⟩, fun _ => hp3, fun _ => pv_mark hp3 (Or.inr rfl) (fun t ht t8 t6 => by
          have e8 : (upF t 28 (setv 10100 (t 28) (t 8 10) (t 6 5))) 8 10 = s209 8 10 := by rw [rdF_ne (by decide), t8]
          show PVx σ (vlx σ a1).toNat ((upF t 28 (setv 10100 (t 28) (t 8 10) (t 6 5))) 8 10) _
          rw [e8, t8]
          exact pv_row (f := fun _ => 0) ht (by decide))⟩, fun _ => hp2, fun _ => pv_mark hp2 (Or.inl rfl) (fun t ht t8 t6 => by
          show PVx σ (vlx σ a1).toNat (t 8 10) t
          rw [t8]
          exact ht)⟩
    · show PVx σ _ ((upF (upF (upC s141 8 10 y) 26 _) 27 _) 8 10) _
      rw [rdF_ne (by decide), rdF_ne (by decide), x1]
      exact p3
    · show PVx σ _ ((upF (upC s141 8 10 y) 26 _) 8 10) _
      rw [rdF_ne (by decide), x1]
      exact p2
  · -- it was there
    obtain ⟨v1, v2⟩ := hv5 c0
    obtain ⟨d, ed⟩ : ∃ d : Nat, v5.toInt = d := ⟨v5.toInt.toNat, by omega⟩
    have nf : ¬ FLb ((σ 25) d) 1 := by
      have := hy3 m3 c0
      rw [atv_at ed (by omega)] at this
      exact this
    exact ⟨d, ed, by omega, ⟨ku, by rw [rc 5 (by decide), e67]; exact ⟨rfl, by omega, by omega, by omega⟩, by rw [rc 5 (by decide)]; omega, fun j _ => by rw [rc 25 (by decide), rc 26 (by decide), rc 27 (by decide), rc 28 (by decide), rc 29 (by decide)]; exact ⟨rfl, rfl, rfl, rfl, rfl⟩, fun i _ => by rw [rc 39 (by decide)], ⟨by rw [rc 5 (by decide)]; omega, fun j j1 j2 => by rw [rc 5 (by decide)] at j2; omega⟩, by rw [rc 5 (by decide)]; exact w5.1, fun _ => (nme_k (by rw [rc 5 (by decide)]) (by rw [rc 5 (by decide)]) (fun d => by rw [rc 29 (by decide)]) w5).2⟩, by rw [rc 25 (by decide)]; exact nf, fun _ => nf, by rw [rc 8 (by decide)], by rw [rc 5 (by decide)]; omega⟩
  · -- it is new
    have o100 := mo c0
    have vs : vlx s a1 = vlx σ a1 := by unfold vlx; rw [rc 14 (by decide)]
    have ts : tkx s a1 = 2 := by unfold tkx at tk ⊢; rw [rc 13 (by decide)]; exact tk
    refine sp_declareOuter (by unfold NMr; rw [rc 13 (by decide), rc 14 (by decide), rc 15 (by decide)]; exact nm) (by rw [rc 1 (by decide)]; exact by') (by unfold PLA; rw [rc 15 (by decide)]; exact u1) ts (by rw [rc 5 (by decide)]; omega) (by rw [e67]; omega) (by rw [rc 5 (by decide), vs]; exact ⟨w5.1, hn⟩) (fun t v d hvd hsd kt o1 o2 o3 o4 o5 o6 o7 => ?_)
    rw [rc 5 (by decide)] at hsd o2 o3
    rw [e67] at o1 o6
    rw [vs] at o3
    refine ⟨d, hvd, by omega, ⟨kp_tr ku (kp_sub kt rfl rfl), ⟨by omega, by omega, by omega, by omega⟩, ⟨by omega, by omega⟩, fun j hj => ?_, fun i hi => by rw [o6 i hi, rc 39 (by decide)], ⟨by omega, fun j j1 j2 => by omega⟩, by omega, fun z => ⟨fun d' hd' => by rw [show d' = d from by omega]; exact o7.1, fun d' => by
      by_cases e : d' = d
      · rw [e, o7.1]
        exact ⟨by omega, o7.2⟩
      · rw [(o4 d' e).2.2, rc 29 (by decide)]
        exact z.2 d'⟩⟩, ?_, fun z => by omega, by rw [show t 8 9 = s 8 9 from kt 8 9 rfl rfl, rc 8 (by decide)], by omega⟩
    · obtain ⟨r1, r2, r3⟩ := o4 j hj
      rw [rc 25 (by decide)] at r1
      rw [rc 28 (by decide)] at r2
      rw [rc 29 (by decide)] at r3
      exact ⟨r1, by rw [show t 26 j = s 26 j from kt 26 j rfl rfl, rc 26 (by decide)], by rw [show t 27 j = s 27 j from kt 27 j rfl rfl, rc 27 (by decide)], r2, r3⟩
    · rw [o5]
      unfold FLb
      decide
end OU1
