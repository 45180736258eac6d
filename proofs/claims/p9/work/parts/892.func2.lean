/-! the walk: a function's head, whole -/
section FU2
variable {σ s z t ρ : St} {g g' g1 : Gh} {X X0 Y : Nat → Prop} {b e e0 e' h h' H H0 H' L L' m n N N' Nb c d p tt j i F F' k B : Nat} {K K2 M E G D : List Nat} {A : List It} {x y v a op a1 a2 a3 : Int32}
/-- a function's declaration, while its head is written: q 0 nothing, 1 its flag, 2 its signature -/
def PFx (σ : St) (sig : Int32) (w q : Nat) (y : Int32) (s : St) : Prop := ∃ d : Nat, y.toInt = d ∧ d < 10100 ∧ DVx σ s d ∧ (1 ≤ q → FLb ((s 25) d) 1) ∧ (2 ≤ q → (s 27) d = sig) ∧
  ((d : Int) < (σ 5 1).toInt → FLb ((σ 25) d) 1 ∧ (σ 27) d = sig ∧ (s 27) d = sig ∧ ((s 25) d &&& 4 = (σ 25) d &&& 4) ∧ (FLb ((σ 25) d) 8 → FLb ((s 25) d) 8) ∧ (s 28) d = (σ 28) d ∧ FLb ((s 25) d) 1) ∧ ((σ 5 1).toInt ≤ d → ¬ FLb ((s 25) d) 4) ∧ (s 5 7).toInt ≤ (σ 5 7).toInt + w
theorem flb_3 : FLb (x ||| (3 : Int32)) 1 := by
  have e : (x ||| (3 : Int32)) = (x ||| 2) ||| 1 := by
    rw [Int32.or_assoc, show ((2 : Int32) ||| 1) = 3 from by decide]
  rw [e]
  exact flb_set (by decide)
theorem pf_mark {Q : St → Prop} {w : Nat} {sig : Int32} (h : PFx σ sig w 0 y s) (hf : v = 1 ∨ v = 3) (k : ∀ t, PFx σ sig w 1 y t → (∀ c, c ≠ 25 → t c = s c) → Q t) : wk_X8_mark y v s Q := by
  obtain ⟨d, h1, h2, h3, h4, h5, h6, h7, h8⟩ := h
  unfold wk_X8_mark
  rw [setv_at h1 h2, atv_at h1 h2]
  have z4 : v &&& 4 = 0 := by rcases hf with e | e <;> subst e <;> decide
  have z8 : v &&& 8 = 0 := by rcases hf with e | e <;> subst e <;> decide
  have b4' : ((s 25) d ||| v) &&& 4 = (s 25) d &&& 4 := by rw [and_or, z4, Int32.or_zero]
  have b8' : ((s 25) d ||| v) &&& 8 = (s 25) d &&& 8 := by rw [and_or, z8, Int32.or_zero]
  have b1' : FLb ((s 25) d ||| v) 1 := by
    rcases hf with e | e
    · subst e
      exact flb_set (by decide)
    · subst e
      exact flb_3
  have fd : (upF s 25 (fun k => if k = d then (s 25) d ||| v else (s 25) k)) 25 d = (s 25) d ||| v := by
    rw [rdF_eq]
    exact if_pos rfl
  have fo : ∀ c, c ≠ 25 → (upF s 25 (fun k => if k = d then (s 25) d ||| v else (s 25) k)) c = s c := fun c hc => rdF_ne hc
  refine k _ ⟨d, h1, h2, dv_row h3 (Or.inl rfl) (fun j hj => if_neg hj), fun _ => by rw [fd]; exact b1', fun c => absurd c (by decide), fun c => ?_, fun c => ?_, by rw [fo 5 (by decide)]; exact h8⟩ fo
  · obtain ⟨q1, q2, q3, q4, q5, q6, q7⟩ := h6 c
    refine ⟨q1, q2, by rw [fo 27 (by decide)]; exact q3, by rw [fd, b4']; exact q4, fun z => ?_, by rw [fo 28 (by decide)]; exact q6, by rw [fd]; exact b1'⟩
    have := q5 z
    unfold FLb at this ⊢
    rw [fd, b8']
    exact this
  · have := h7 c
    unfold FLb at this ⊢
    rw [fd, b4']
    exact this
theorem pf_ext {w : Nat} {sig : Int32} (h : PFx σ sig w 1 y s) : PFx σ sig w 2 y (upF (upF s 26 (setv 10100 (s 26) y v)) 27 (setv 10100 ((upF s 26 (setv 10100 (s 26) y v)) 27) y sig)) := by
  obtain ⟨d, h1, h2, h3, h4, h5, h6, h7, h8⟩ := h
  rw [setv_at h1 h2, setv_at h1 h2]
  have dv1 : DVx σ (upF s 26 (fun k => if k = d then v else s 26 k)) d := dv_row h3 (Or.inr (Or.inl rfl)) (fun j hj => if_neg hj)
  generalize hz : upF (upF s 26 (fun k => if k = d then v else s 26 k)) 27 (fun k => if k = d then sig else (upF s 26 (fun k => if k = d then v else s 26 k)) 27 k) = z
  have dv2 : DVx σ z d := by
    rw [← hz]
    exact dv_row dv1 (Or.inr (Or.inr (Or.inl rfl))) (fun j hj => if_neg hj)
  have ed : z 27 d = sig := by
    rw [← hz, rdF_eq]
    exact if_pos rfl
  have r : ∀ c, c ≠ 26 → c ≠ 27 → z c = s c := fun c c1 c2 => by rw [← hz, rdF_ne c2, rdF_ne c1]
  refine ⟨d, h1, h2, dv2, fun _ => by rw [r 25 (by decide) (by decide)]; exact h4 (Nat.le_refl _), fun _ => ed, fun c => ?_, fun c => by rw [r 25 (by decide) (by decide)]; exact h7 c, by rw [r 5 (by decide) (by decide)]; exact h8⟩
  obtain ⟨q1, q2, q3, q4, q5, q6, q7⟩ := h6 c
  exact ⟨q1, q2, ed, by rw [r 25 (by decide) (by decide)]; exact q4, by rw [r 25 (by decide) (by decide)]; exact q5, by rw [r 28 (by decide) (by decide)]; exact q6, by rw [r 25 (by decide) (by decide)]; exact q7⟩
/-- where all of a function's head is written but its body -/
theorem sp_func {Q : St → Prop} (wk : WKs ρ σ) (nm : NMr σ) (by' : ByteOK (σ 1)) (tk : tkx σ a1 = 2) (hd : (σ 5 1).toInt - (σ 6 7).toInt ≤ 10000) (hn : (σ 5 7).toInt + (vlx σ a1).toNat ≤ 65600) (kf : ∀ s, FAi σ s → (s 6 3).toInt ≠ 0 → Q s) (k0 : ¬ b4 a3 → ∀ s y, PFx σ a2 (vlx σ a1).toNat 2 y s → Q s) (k1 : b4 a3 → ∀ s y, PFx σ a2 (vlx σ a1).toNat 2 y s → (∀ d : Nat, y.toInt = d → (d : Int) < (σ 5 1).toInt → ¬ FLb ((σ 25) d) 4) → wk_X8_mark y 4 s (fun s234 => wk_X0_header s234 (fun v250 s250 => wk_X11_enter y (upF s250 28 (setv 10100 (s250 28) y v250)) (fun s262 => Q s262)))) : wk_X1_function a1 a2 a3 σ Q := by
  obtain ⟨w1, ⟨u1, u2, u3, u4, u5⟩, w3, w4, w5⟩ := wk
  unfold wk_X1_function
  refine ⟨fun _ => True, fun y20 _ _ => ?_, fun _ => trivial, fun _ => trivial⟩
  refine ⟨fun y => (y.toInt = 0 ↔ ¬ b4 a3), fun y33 _ hy33 => ?_, fun c => ⟨fun _ q => q c, fun _ => rfl⟩, fun c => ⟨fun q => absurd q (by decide), fun q => absurd c q⟩⟩
  refine of_all u1 u2 u3 (fun v5 hv5 => ?_)
  let OK : Prop := 0 ≤ v5.toInt → FLb (atv 10100 (σ 25) v5) 1 ∧ (atv 10100 (σ 27) v5).toInt = a2.toInt ∧ (y33.toInt ≠ 0 → ¬ FLb (atv 10100 (σ 25) v5) 4)
  have nk : (0 : Int32).toInt ≠ 0 → OK := fun c => absurd rfl c
  refine ⟨fun y => y.toInt ≠ 0 → OK, fun y3 _ hy3 => sp_checkOuter (fun s34 f34 z34 => ⟨fun hf => ?_, fun hf => kf s34 f34 hf⟩), OK, fun hJ _ => hJ, fun c n => by omega, fun c5 => is_all (fun v57 _ i57 _ => ⟨True, fun _ => nk, fun _ => trivial, fun n57 => ⟨fun _ => trivial, fun _ => ⟨fun _ => trivial, fun cx => is_all (fun v103 _ _ _ => ⟨fun _ => trivial, fun _ => ⟨fun c0 _ => ⟨i57 n57, cx, fun n => absurd c0 n⟩, fun c0 => is_all (fun v123 n123 _ _ => ⟨fun _ => trivial, fun c4 _ => ⟨i57 n57, cx, fun _ => n123 c4⟩⟩)⟩⟩)⟩⟩⟩)⟩
  obtain ⟨m3, mo⟩ := z34 hf
  have ok := hy3 m3
  have q := f34.1
  have ku : KUx σ s34 := kp_sub q rfl rfl
  have rc : ∀ c, c ≠ 6 → s34 c = σ c := fun c hc => funext (fun j => q c j (by
    simp only [List.contains_cons, List.contains_nil, Bool.or_false, Bool.or_eq_false_iff]
    exact ⟨by
      cases hh : ((c, j) == ((6 : Nat), (3 : Nat))) with
      | false => rfl
      | true => exact absurd (congrArg Prod.fst (eq_of_beq hh)) hc, by
      cases hh : ((c, j) == ((6 : Nat), (4 : Nat))) with
      | false => rfl
      | true => exact absurd (congrArg Prod.fst (eq_of_beq hh)) hc⟩) rfl)
  have e67 : s34 6 7 = σ 6 7 := q 6 7 rfl rfl
  let NB : Int32 → Prop := fun y => y33.toInt ≠ 0 → ∀ d : Nat, y.toInt = d → (d : Int) < (σ 5 1).toInt → ¬ FLb ((σ 25) d) 4
  refine ⟨fun y s => PFx σ a2 (vlx σ a1).toNat 0 y s ∧ NB y, fun y s174 hp => ?_, fun c0 => ?_, fun c0 => ?_⟩
  · refine ⟨fun f => f = 1 ∨ f = 3, fun f hf2 => pf_mark hp.1 hf2 (fun s192 hp2 _ => ⟨fun c => k0 (hy33.mp c) _ y (pf_ext hp2), fun c => k1 ?_ _ y (pf_ext hp2) (hp.2 c)⟩), fun _ => Or.inl rfl, fun _ => Or.inr rfl⟩
    by_cases cb : b4 a3
    · exact cb
    · exact absurd (hy33.mpr cb) c
  · obtain ⟨v1, v2⟩ := hv5 c0
    obtain ⟨d, ed⟩ : ∃ d : Nat, v5.toInt = d := ⟨v5.toInt.toNat, by omega⟩
    obtain ⟨o1, o2, o3⟩ := ok c0
    rw [atv_at ed (by omega)] at o1 o2 o3
    have ex : (σ 27) d = a2 := Int32.toInt_inj.mp o2
    refine ⟨⟨d, ed, by omega, ⟨ku, by rw [rc 5 (by decide), e67]; exact ⟨rfl, by omega, by omega, by omega⟩, by rw [rc 5 (by decide)]; omega, fun j _ => by rw [rc 25 (by decide), rc 26 (by decide), rc 27 (by decide), rc 28 (by decide), rc 29 (by decide)]; exact ⟨rfl, rfl, rfl, rfl, rfl⟩, fun i _ => by rw [rc 39 (by decide)], ⟨by rw [rc 5 (by decide)]; omega, fun j j1 j2 => by rw [rc 5 (by decide)] at j2; omega⟩, by rw [rc 5 (by decide)]; exact w5.1, fun _ => (nme_k (by rw [rc 5 (by decide)]) (by rw [rc 5 (by decide)]) (fun d => by rw [rc 29 (by decide)]) w5).2⟩, fun c => absurd c (by decide), fun c => absurd c (by decide), fun _ => ⟨o1, ex, by rw [rc 27 (by decide)]; exact ex, by rw [rc 25 (by decide)], fun z => by rw [rc 25 (by decide)]; exact z, by rw [rc 28 (by decide)], by rw [rc 25 (by decide)]; exact o1⟩, fun c => by omega, by rw [rc 5 (by decide)]; omega⟩, fun c d' hd' _ => ?_⟩
    have : d' = d := by omega
    rw [this]
    exact o3 c
  · have o100 := mo c0
    have vs : vlx s34 a1 = vlx σ a1 := by unfold vlx; rw [rc 14 (by decide)]
    have ts : tkx s34 a1 = 2 := by unfold tkx at tk ⊢; rw [rc 13 (by decide)]; exact tk
    refine sp_declareOuter (by unfold NMr; rw [rc 13 (by decide), rc 14 (by decide), rc 15 (by decide)]; exact nm) (by rw [rc 1 (by decide)]; exact by') (by unfold PLA; rw [rc 15 (by decide)]; exact u1) ts (by rw [rc 5 (by decide)]; omega) (by rw [e67]; omega) (by rw [rc 5 (by decide), vs]; exact ⟨w5.1, hn⟩) (fun t v d hvd hsd kt o1 o2 o3 o4 o5 o6 o7 => ?_)
    rw [rc 5 (by decide)] at hsd o2 o3
    rw [e67] at o1 o6
    rw [vs] at o3
    refine ⟨⟨d, hvd, by omega, ⟨kp_tr ku (kp_sub kt rfl rfl), ⟨by omega, by omega, by omega, by omega⟩, ⟨by omega, by omega⟩, fun j hj => ?_, fun i hi => by rw [o6 i hi, rc 39 (by decide)], ⟨by omega, fun j j1 j2 => by omega⟩, by omega, fun z => ⟨fun d' hd' => by rw [show d' = d from by omega]; exact o7.1, fun d' => by
      by_cases e : d' = d
      · rw [e, o7.1]
        exact ⟨by omega, o7.2⟩
      · rw [(o4 d' e).2.2, rc 29 (by decide)]
        exact z.2 d'⟩⟩, fun c => absurd c (by decide), fun c => absurd c (by decide), fun c => by omega, fun _ => ?_, by omega⟩, fun _ d' hd' hlt => by omega⟩
    · obtain ⟨r1, r2, r3⟩ := o4 j hj
      rw [rc 25 (by decide)] at r1
      rw [rc 28 (by decide)] at r2
      rw [rc 29 (by decide)] at r3
      exact ⟨r1, by rw [show t 26 j = s34 26 j from kt 26 j rfl rfl, rc 26 (by decide)], by rw [show t 27 j = s34 27 j from kt 27 j rfl rfl, rc 27 (by decide)], r2, r3⟩
    · rw [o5]
      unfold FLb
      decide
end FU2
