/-! link(), whole -/
section JN
variable {σ s z t ρ : St} {m i j k o d K : Nat} {n : Int} {x y v a a1 a2 a3 a4 a5 : Int32} {C : Int32 → Prop} {b : Nat → Int32}
theorem fst_same {B : Nat → Int32} {cap : Nat} (h56 : s 56 = σ 56) (h34 : s 34 = σ 34) (h25 : s 25 = σ 25) (h29 : s 29 = σ 29) (h30 : s 30 = σ 30) : FSTi s n (CDi s B cap a1 a2) v ↔ FSTi σ n (CDi σ B cap a1 a2) v := by
  unfold FSTi CDi NMq RGi LOi HIi kxI
  rw [h56, h34, h25, h29, h30]
abbrev KfS (a b : St) : Prop := Kp [(10, 3), (10, 4)] [] a b
theorem kf_rows (k : KfS σ s) : ∀ c, c ≠ 10 → s c = σ c := fun c hc => funext (fun j => k c j (by
  simp only [List.contains_cons, List.contains_nil, Bool.or_false, Bool.or_eq_false_iff, beq_eq_false_iff_ne, ne_eq, Prod.mk.injEq, not_and]
  omega) rfl)
theorem lkd_same (k : KfS σ s) : LKd s a ↔ LKd σ a := by
  have r := kf_rows k
  unfold LKd GDi AGi DFi FSTi CDi NMq RGi LOi HIi kxI
  rw [r 56 (by decide), r 34 (by decide), r 25 (by decide), r 29 (by decide), r 30 (by decide), r 27 (by decide), show s 10 5 = σ 10 5 from k 10 5 rfl rfl]
theorem iv_kf (h : IVx σ o) (k : KfS σ s) : IVx s o := by
  have r := kf_rows k
  refine iv_10 h (fun c c1 _ _ _ _ => r c c1) (fun hr => ?_) ?_
  · rw [show s 10 2 = σ 10 2 from k 10 2 rfl rfl] at hr
    obtain ⟨Fs, hd, q1, q2, q3⟩ := h.2.2.2.2.2.2.2.2.2.1 hr
    refine ⟨Fs, hd, fun hd' n hf => ?_, by rw [show s 10 11 = σ 10 11 from k 10 11 rfl rfl]; exact q2, q3⟩
    obtain ⟨L, g, f⟩ := q1 hd' n hf
    exact ⟨L, g, fune_mono (fun j _ => by rw [r 24 (by decide)]) (cpi_mono (r 59 (by decide))) (by unfold clen; rw [r 4 (by decide)]; exact Nat.le_refl _) f⟩
  · have p := h.2.2.2.2.2.2.2.2.2.2.1
    unfold PKx at p ⊢
    rw [r 56 (by decide), show s 10 5 = σ 10 5 from k 10 5 rfl rfl]
    exact p
/-- what is picked is forgotten -/
theorem iv_p1 (h : IVx σ o) : IVx (upC σ 10 5 (1 : Int32)) o := by
  have r : ∀ c, c ≠ 10 → (upC σ 10 5 (1 : Int32)) c = σ c := fun c hc => rdC_ne hc
  refine iv_10 h (fun c c1 _ _ _ _ => r c c1) (fun hr => ?_) ?_
  · obtain ⟨Fs, hd, q1, q2, q3⟩ := h.2.2.2.2.2.2.2.2.2.1 hr
    refine ⟨Fs, hd, fun hd' n hf => ?_, q2, q3⟩
    obtain ⟨L, g, f⟩ := q1 hd' n hf
    exact ⟨L, g, fune_mono (fun j _ => by rw [r 24 (by decide)]) (cpi_mono (r 59 (by decide))) (by unfold clen; rw [r 4 (by decide)]; exact Nat.le_refl _) f⟩
  · have p := h.2.2.2.2.2.2.2.2.2.2.1
    have e : (upC σ 10 5 (1 : Int32)) 10 5 = 1 := rfl
    unfold PKx at p ⊢
    rw [r 56 (by decide), e]
    exact ⟨⟨by decide, by rw [i1]; omega⟩, p.2.1, fun j j1 j2 => by rw [i1] at j2; omega, fun i j i1' i2 i3 => by rw [i1] at i3; omega⟩
theorem sp_dataCells {Q : Int32 → Prop} (k : ∀ v, Q v) : wk_X4_dataCells σ Q := by
  unfold wk_X4_dataCells
  refine ⟨fun m _ x => m = ((σ 10 5).toInt - x.toInt).toNat, ⟨_, rfl⟩, ?_⟩
  rintro m w x hm
  refine ⟨fun _ => k _, fun c => ?_⟩
  have up := up_lt c
  have c' : x.toInt < (σ 10 5).toInt := c
  exact ⟨_, by rw [up]; omega, rfl⟩
theorem sp_isMain {Q : Int32 → Prop} (k0 : Q 0) (k1 : 0 ≤ v.toInt → FLb (atv 10100 (σ 25) v) 1 → (atv 10100 (σ 27) v).toInt = 0 → Q 1) : wk_X4_isMain v σ Q := by
  unfold wk_X4_isMain
  exact ⟨fun _ => k0, fun c => is_all (fun v10 n10 y10 _ => ⟨fun _ => k0, fun c1 => ⟨fun _ => k0, fun _ => ⟨fun _ => k0, fun c3 => k1 c (y10 c1) c3⟩⟩⟩)⟩
theorem sk_link {Q : Int32 → St → Prop} (h : IVx σ o) (k : ∀ v t, IVx t o → Q v t) : wk_X12_link σ Q := by
  unfold wk_X12_link wk_X4_join
  generalize hu : upC (upC σ 10 3 ((-1) : Int32)) 10 4 ((-1) : Int32) = u0
  have k0 : KfS σ u0 := by rw [← hu]; exact kp_f (kp_f kp_rf rfl) rfl
  clear hu
  have r0 := kf_rows k0
  refine sp_find55 (by unfold NEb; rw [r0 29 (by decide)]; exact h.2.2.2.2.2.1.2) (by decide) (by decide) (fun v25 hf0 => ?_)
  rw [fst_same (r0 56 (by decide)) (r0 34 (by decide)) (r0 25 (by decide)) (r0 29 (by decide)) (r0 30 (by decide)), r0 55 (by decide)] at hf0
  refine ⟨fun m x2 x3 s => m = (34 - x3.toInt).toNat ∧ (31 ≤ x3.toInt ∧ x3.toInt ≤ 34) ∧ KfS σ s ∧ (x2.toInt ≠ 0 ∨ ∀ a : Int32, 31 ≤ a.toInt → a.toInt < x3.toInt → LKd σ a), ⟨_, rfl, by decide, k0, Or.inr (fun a p1 p2 => absurd p2 (by rw [show ((31 : Int32)).toInt = 31 from rfl]; omega))⟩, ?_⟩
  rintro m x2 x3 s ⟨hm, hx, ks, hv⟩
  have ivs := iv_kf h ks
  have rs := kf_rows ks
  let G1 : Prop := LKd σ 32 ∧ LKd σ 33
  let G2 : Prop := 0 ≤ v25.toInt ∧ FLb (atv 10100 (s 25) v25) 1 ∧ (atv 10100 (s 27) v25).toInt = 0
  refine ⟨x2.toInt ≠ 0 ∨ G1, fun hj => ?_, fun c => ?_, fun c => ⟨fun c2 => Or.inl c2, fun c2 => ?_⟩⟩
  · refine ⟨fun y => y.toInt ≠ 0 ∨ (G1 ∧ G2), fun y hy => ?_, fun c2 => Or.inl c2, fun c2 => sp_isMain ⟨fun z => absurd rfl z, fun _ => Or.inl (by decide)⟩ (fun m0 m1 m2 => ⟨fun _ => Or.inr ⟨hj.resolve_left (fun z => z c2), m0, m1, m2⟩, fun z => absurd z (by decide)⟩)⟩
    refine ⟨fun y8 => y8.toInt ≠ 0 ∨ (G1 ∧ G2), fun y8 hy8 => ⟨fun _ => k _ _ (iv_p1 ivs), fun c8 => ?_⟩, fun c7 => Or.inl c7, fun c7 => sp_dataCells (fun v76 => ⟨fun _ => hy, fun _ => Or.inl (by decide)⟩)⟩
    obtain ⟨⟨l2, l3⟩, m0, m1, m2⟩ := hy8.resolve_left (fun z => z c8)
    have pk := ivs.2.2.2.2.2.2.2.2.2.2.1
    have o2 := ivs.1.2
    have pk2 := pk.1.2
    refine sk_settle ivs.2.2.2.2.2.1.2 (rn_iv ivs) ⟨pk.1.1, by omega⟩ (fun t b kt av ad' an => ?_)
    have e5 : s 10 5 = σ 10 5 := ks 10 5 rfl rfl
    have hf : FSTi s (s 10 5).toInt (CDi s (s 55) 4 0 4) v25 := by
      rw [fst_same (rs 56 (by decide)) (rs 34 (by decide)) (rs 25 (by decide)) (rs 29 (by decide)) (rs 30 (by decide)), rs 55 (by decide), e5]
      exact hf0
    generalize hw : upC (upC (upC t 10 11 (atv 10100 (t 59) v25)) 10 2 (1 : Int32)) 10 5 (1 : Int32) = w
    have rw' : ∀ c, c ≠ 10 → w c = t c := fun c hc => by rw [← hw, rdC_ne hc, rdC_ne hc, rdC_ne hc]
    have w11 : w 10 11 = atv 10100 (t 59) v25 := by rw [← hw]; rfl
    have w5 : w 10 5 = 1 := by rw [← hw]; rfl
    clear hw
    refine k _ w (iv_10 ivs (fun c c1 c56 c2 c3 c4 => ?_) (rd_link ivs ((lkd_same ks).mpr l2) ((lkd_same ks).mpr l3) kt av ad' an hf m0 m1 m2 rw' (by rw [w11])) ?_)
    · rw [rw' c c1]
      exact funext (fun j => kt c j (by
        simp only [List.contains_cons, List.contains_nil, Bool.or_false, beq_eq_false_iff_ne, ne_eq, Prod.mk.injEq, not_and]
        omega) (by
        simp only [List.contains_cons, List.contains_nil, Bool.or_false, Bool.or_eq_false_iff, beq_eq_false_iff_ne, ne_eq]
        omega))
    · unfold PKx at pk ⊢
      rw [w5, rw' 56 (by decide), show t 56 = s 56 from funext (fun j => kt 56 j rfl rfl)]
      exact ⟨⟨by decide, by rw [i1]; omega⟩, pk.2.1, fun j j1 j2 => by rw [i1] at j2; omega, fun i j i1' i2 i3 => by rw [i1] at i3; omega⟩
  · rcases hv with q | q
    · exact Or.inl q
    · exact Or.inr ⟨q 32 (by decide) (by rw [show ((32 : Int32)).toInt = 32 from rfl]; omega), q 33 (by decide) (by rw [show ((33 : Int32)).toInt = 33 from rfl]; omega)⟩
  · have up : (x3 + 1).toInt = x3.toInt + 1 := ad1 (by omega)
    have q := hv.resolve_left (fun z => z c2)
    refine sk_look ivs.2.2.2.2.2.1.2 (fun l => ⟨_, by rw [up]; omega, rfl, by rw [up]; omega, ks, Or.inr (fun a p1 p2 => ?_)⟩) (fun u ku => ⟨_, by rw [up]; omega, rfl, by rw [up]; omega, kp_tr ks ku, Or.inl (by omega)⟩)
    rw [up] at p2
    by_cases ce : a.toInt = x3.toInt
    · rw [show a = x3 from Int32.toInt_inj.mp ce]
      exact (lkd_same ks).mp l
    · exact q a p1 (by omega)
end JN
