/-! cell(), the class, exactly -/
/-- what is linked, as if it were picked -/
def LQd (w : St) : St := upF w 56 (w 57)
def CZc (w : St) (v : Int32) : Prop := ((w 10 2).toInt = 0 → v = -1) ∧ ((w 10 2).toInt ≠ 0 → ∃ d, FSTi (LQd w) (w 10 7).toInt (CDi w (w 1) 16000 0 (w 0 1)) d ∧ (d.toInt < 0 → v = -1) ∧ (0 ≤ d.toInt → (FLb (atv 10100 (w 25) d) 1 → v = 0) ∧ (¬ FLb (atv 10100 (w 25) d) 1 → v = atv 10100 (w 59) d)))
section CLX
variable {σ w s z t ρ : St} {m i j k o d : Nat} {n : Int} {x y v a a1 a2 a3 a4 a5 : Int32} {C : Int32 → Prop}
theorem sp_isNamed1x {Q : Int32 → Prop} (hb : NEb σ) (h3 : a3.toInt ≤ 65600) (h4 : a4.toInt ≤ 65600) (k1 : NMq σ (σ 1) 16000 a1 a3 a4 → Q 1) (k0 : ¬ NMq σ (σ 1) 16000 a1 a3 a4 → Q 0) : wk_X8_isNamed_r1 a1 a3 a4 σ Q := by
  have b := neb_at hb (a1 - (1 : Int32))
  unfold wk_X8_isNamed_r1
  refine ⟨fun e => ?_, fun e => k0 (fun q => e q.1)⟩
  refine ⟨fun m x => m = (a4.toInt - x.toInt).toNat ∧ 0 ≤ x.toInt ∧ ∀ y : Nat, (y : Int) < x.toInt → (atv 10100 (σ 29) (a1 - (1 : Int32))).toInt + y < 65600 ∧ 0 ≤ a3.toInt ∧ a3.toInt + y < (16000 : Nat) ∧ (σ 30 ((atv 10100 (σ 29) (a1 - (1 : Int32))).toInt + y).toNat).toInt = (σ 1 (a3.toInt + y).toNat).toInt, ⟨_, rfl, by decide, fun y hy => absurd hy (by rw [i0]; omega)⟩, ?_⟩
  rintro m x ⟨hm, h0, ha⟩
  refine ⟨fun c => k1 ⟨e, fun y hy => ha y (by omega)⟩, fun c => ?_⟩
  have up := up_lt c
  obtain ⟨X, hX⟩ : ∃ X : Nat, x.toInt = X := ⟨x.toInt.toNat, by omega⟩
  have e1 : ((atv 10100 (σ 29) (a1 - (1 : Int32))) + x).toInt = (atv 10100 (σ 29) (a1 - (1 : Int32))).toInt + X := by rw [ad (by omega) (by omega), hX]
  refine ⟨fun c1 => k0 (fun q => ?_), fun c1 => ⟨fun c2 => k0 (fun q => ?_), fun c2 => ?_⟩⟩
  · have := (q.2 X (by omega)).1
    omega
  · have := (q.2 X (by omega)).2.1
    omega
  have e2 : (a3 + x).toInt = a3.toInt + X := by rw [ad (by omega) (by omega), hX]
  refine ⟨fun c3 => k0 (fun q => ?_), fun c3 => ⟨⟨by omega, c1⟩, ⟨by omega, c3⟩, fun c4 => ?_, fun c4 => k0 (fun q => ?_)⟩⟩
  · have := (q.2 X (by omega)).2.2.1
    omega
  · rw [nt', nt', e1, e2] at c4
    refine ⟨_, by rw [up]; omega, rfl, by rw [up]; omega, fun y hy => ?_⟩
    rw [up] at hy
    by_cases cy : y = X
    · rw [cy]
      exact ⟨by omega, c2, by omega, c4⟩
    · exact ha y (by omega)
  · rw [nt', nt', e1, e2] at c4
    exact c4 (q.2 X (by omega)).2.2.2
theorem lk_kx : kxI (LQd σ) x = atv 101 (σ 57) x := by
  unfold kxI LQd
  rw [rdF_eq]
theorem lk_hi : HIi (LQd σ) x = (atv 101 (σ 34) (atv 101 (σ 57) x)).toInt := by
  unfold HIi
  rw [lk_kx]
  unfold LQd
  rw [rdF_ne (by decide)]
theorem lk_lo : LOi (LQd σ) x = if 0 < (atv 101 (σ 57) x).toInt then (atv 101 (σ 34) ((atv 101 (σ 57) x) - (1 : Int32))).toInt else 0 := by
  unfold LOi
  rw [lk_kx]
  unfold LQd
  rw [rdF_ne (by decide)]
theorem sp_first57 {Q : Int32 → Prop} (k : ∀ v : Int32, v.toInt = LOi (LQd σ) x → Q v) : wk_X8_firstOf (atv 101 (σ 57) x) σ Q := by
  unfold wk_X8_firstOf
  refine ⟨fun c => k _ ?_, fun c => k _ ?_⟩
  · rw [lk_lo, if_pos c]
  · rw [lk_lo, if_neg (by omega)]
    rfl
theorem sp_find57x {Q : Int32 → Prop} (hb : NEb σ) (h3 : a4.toInt ≤ 65600) (h4 : a5.toInt ≤ 65600) (k : ∀ v, FSTi (LQd σ) a2.toInt (CDi σ (σ 1) 16000 a4 a5) v → Q v) : wk_X4_find_r57_r1 a2 a4 a5 σ Q := by
  unfold wk_X4_find_r57_r1
  refine ⟨fun m x => m = (a2.toInt - x.toInt).toNat ∧ 0 ≤ x.toInt ∧ ∀ x', 0 ≤ x'.toInt → x'.toInt < x.toInt → ∀ d, RGi (LQd σ) x' d → ¬ CDi σ (σ 1) 16000 a4 a5 d, ⟨_, rfl, by decide, fun x' p1 p2 => absurd p2 (by rw [i0]; omega)⟩, ?_⟩
  rintro m x ⟨hm, h0, ha⟩
  refine ⟨fun c => k _ (Or.inl ⟨rfl, fun x' p1 p2 => ha x' p1 (by omega)⟩), fun c => sp_first57 (fun v0 hv0 => ?_)⟩
  have up := up_lt c
  refine ⟨fun q y => q = (HIi (LQd σ) x - y.toInt).toNat ∧ LOi (LQd σ) x ≤ y.toInt ∧ ∀ d, RGi (LQd σ) x d → d.toInt < y.toInt → ¬ CDi σ (σ 1) 16000 a4 a5 d, ⟨_, rfl, by omega, fun d p1 p2 => absurd p1.1 (by omega)⟩, ?_⟩
  rintro q y ⟨hq, hl, hy⟩
  refine ⟨fun c1 => ?_, fun c1 => ?_⟩
  · have c2 : HIi (LQd σ) x ≤ y.toInt := by rw [lk_hi]; exact c1
    refine ⟨_, by rw [up]; omega, rfl, by rw [up]; omega, fun x' p1 p2 d p3 => ?_⟩
    rw [up] at p2
    by_cases ce : x'.toInt = x.toInt
    · have ex : x' = x := Int32.toInt_inj.mp ce
      subst ex
      exact hy d p3 (by have := p3.2; omega)
    · exact ha x' p1 (by omega) d p3
  · have c2 : y.toInt < HIi (LQd σ) x := by rw [lk_hi]; exact c1
    have upy := up_lt c1
    have nx : ¬ CDi σ (σ 1) 16000 a4 a5 y → ∃ p, p < q ∧ (p = (HIi (LQd σ) x - (y + 1).toInt).toNat ∧ LOi (LQd σ) x ≤ (y + 1).toInt ∧ ∀ d, RGi (LQd σ) x d → d.toInt < (y + 1).toInt → ¬ CDi σ (σ 1) 16000 a4 a5 d) := fun nc => by
      refine ⟨_, by rw [upy]; omega, rfl, by rw [upy]; omega, fun d p1 p2 => ?_⟩
      rw [upy] at p2
      by_cases ce : d.toInt = y.toInt
      · have ex : d = y := Int32.toInt_inj.mp ce
        rw [ex]
        exact nc
      · exact hy d p1 (by omega)
    refine is_all (fun v52 n52 y52 _ => ⟨¬ CDi σ (σ 1) 16000 a4 a5 y, nx, fun c3 q1 => n52 c3 q1.1, fun c3 => is_all (fun v65 n65 y65 _ => ⟨fun c4 q1 => q1.2.1 (y65 c4), fun c4 => sp_isNamed1x hb h3 h4 (fun nq => ⟨fun z => absurd z (by decide), fun _ => k y (Or.inr ⟨x, ⟨h0, c⟩, ⟨hl, c2⟩, ⟨y52 c3, n65 c4, nq⟩, ha, hy⟩)⟩) (fun nq => ⟨fun _ q1 => nq q1.2.2, fun z => absurd rfl z⟩)⟩)⟩)
theorem px_cellx {Q : Int32 → St → Prop} (h : IVx w o) (k : ∀ v, CZc w v → Q v (upC w 0 1 (0 : Int32))) : pk_X12_cell w Q := by
  have f := h.2.2.2.2.1
  have nb : NEb w := h.2.2.2.2.2.1.2
  unfold pk_X12_cell
  generalize hu : upC w 0 1 (0 : Int32) = u at *
  have ru : ∀ c, c ≠ 0 → u c = w c := fun c hc => by rw [← hu, rdC_ne hc]
  have nbu : NEb u := by unfold NEb; rw [ru 29 (by decide)]; exact nb
  unfold pk_X4_cellOf_r1
  have same : ∀ a5 d, FSTi (LQd u) (w 10 7).toInt (CDi u (u 1) 16000 0 a5) d → FSTi (LQd w) (w 10 7).toInt (CDi w (w 1) 16000 0 a5) d := fun a5 d hh => by
    unfold FSTi CDi NMq RGi at hh ⊢
    simp only [lk_lo, lk_hi] at hh ⊢
    rw [ru 1 (by decide), ru 25 (by decide), ru 29 (by decide), ru 30 (by decide), ru 34 (by decide), ru 57 (by decide)] at hh
    exact hh
  refine ⟨fun y => ((w 10 2).toInt = 0 → y = -1) ∧ ((w 10 2).toInt ≠ 0 → FSTi (LQd w) (w 10 7).toInt (CDi w (w 1) 16000 0 (w 0 1)) y), fun y hy => ⟨fun c => ?_, fun c => ?_⟩, fun c => ⟨fun _ => rfl, fun n => ?_⟩, fun c => ?_⟩
  · refine wl_wk_X8_is (fun v39 p => p) (is_all (σ := u) (x := y) (f := 1) (Q := fun v39 => (v39.toInt = 0 → Q (atv 10100 (u 59) y) u) ∧ (v39.toInt ≠ 0 → Q (0 : Int32) u)) (fun v39 n39 y39 _ => ?_))
    rw [ru 25 (by decide)] at n39 y39
    rw [ru 59 (by decide)]
    have fin : ∀ v, ((FLb (atv 10100 (w 25) y) 1 → v = 0) ∧ (¬ FLb (atv 10100 (w 25) y) 1 → v = atv 10100 (w 59) y)) → Q v u := fun v hv => by
      refine k v ⟨fun z => ?_, fun z => ⟨y, hy.2 z, fun g => by omega, fun _ => hv⟩⟩
      have := hy.1 z
      rw [this] at c
      exact absurd c (by decide)
    exact ⟨fun c0 => fin _ ⟨fun g => absurd g (n39 c0), fun _ => rfl⟩, fun c0 => fin _ ⟨fun _ => rfl, fun g => absurd (y39 c0) g⟩⟩
  · exact k _ ⟨fun _ => rfl, fun z => ⟨y, hy.2 z, fun _ => rfl, fun g => by omega⟩⟩
  · rw [ru 10 (by decide)] at c
    exact absurd c n
  · rw [ru 10 (by decide)] at c ⊢
    refine wl_wk_X4_find_r57_r1 (fun v p => p) (sp_find57x (a4 := 0) (a5 := w 0 1) nbu (by decide) (by have := f.1; omega) (fun d hd => ⟨fun z => absurd z c, fun _ => same _ d hd⟩))
end CLX
