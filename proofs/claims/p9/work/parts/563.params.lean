/-! the parameters of a function, as locals -/
section PRM
variable {σ s s' τ t t' : St} {vs z z' : List Nat}
theorem hds_kq (k : KQ σ s) (h : HDs σ) : HDs s := by
  have f1 : (s 0 64) = (σ 0 64) := k _ _ rfl rfl
  have e1 : (s 37) = (σ 37) := funext (fun j => k 37 j rfl rfl)
  have e2 : (s 38) = (σ 38) := funext (fun j => k 38 j rfl rfl)
  have e3 : (s 39) = (σ 39) := funext (fun j => k 39 j rfl rfl)
  unfold HDs
  rw [f1, e1, e2, e3]
  exact h
theorem sp_declareLocalP {tk ty : Int32} {Q : Int32 → St → St → List Nat → Prop} (h : PA σ τ) (hty : 0 ≤ ty.toInt ∧ ty.toInt ≤ 10) (hl : (σ 0 49).toInt < 100) (k : ∀ (r : Int32) s, QTt σ τ vs s → r.toInt = (σ 0 49).toInt → (s 0 49).toInt = (σ 0 49).toInt + 1 → (s 0 53) = (σ 0 53) → Q r s τ vs) : wp_declareLocal tk ty σ τ vs Q := by
  have h9 := h
  obtain ⟨hT, hA, ⟨n1, n2, n3, n4, n5, n6, n7⟩, ⟨a1, a2, a3, a4, a5, a6, a7, a8, a9, b1, b2, b3⟩, h5⟩ := h9
  unfold wp_declareLocal
  refine ⟨fun c => ⟨by omega, by omega, by omega, ?_⟩, fun c => by omega⟩
  have e1 : ((σ 0 49) + (1 : Int32)).toInt = (σ 0 49).toInt + 1 := ad1 (by omega)
  have e2 : (((σ 0 49) + (1 : Int32)) - (1 : Int32)).toInt = (σ 0 49).toInt := by rw [sb1 (by omega), e1]; omega
  have el : ((upC (upC (upC (upC σ 31 (σ 0 49).toNatClampNeg ty) 32 (σ 0 49).toNatClampNeg ((-1) : Int32)) 33 (σ 0 49).toNatClampNeg (vp_nar .boolean (0 : Int32))) 0 49 ((σ 0 49) + (1 : Int32))) 0 49).toInt = (σ 0 49).toInt + 1 := by rw [rdA_eq rfl]; exact e1
  refine k _ _ (qt_mk h (kp_f (kp_a (kp_a (kp_a kp_rf rfl) rfl) rfl) rfl) ?_ a1 a2 ?_ ?_ ?_ (Or.inl rfl) ?_) e2 el rfl
  · rw [el]
    show 0 ≤ (σ 0 53).toInt ∧ (σ 0 53).toInt ≤ _ ∧ _
    omega
  · show AllIn 0 10 (upC σ 31 (σ 0 49).toNatClampNeg ty 31)
    exact acr_up a6 hty
  · intro j hj
    rw [el]
    have := a9 j hj
    show ((σ 35) j).toInt < _
    omega
  · show AllIn (-1) 4000 (upC (upC σ 31 (σ 0 49).toNatClampNeg ty) 32 (σ 0 49).toNatClampNeg ((-1) : Int32) 32)
    exact acr_up b3 (by decide)
  · rw [el]; omega
theorem sp_params {K : St → St → List Nat → Prop} (h : PA σ τ) (hd : HDs σ) (hl : (σ 0 49).toInt = 0) (k : ∀ s, QTt σ τ vs s → (s 0 49).toInt = (σ 0 64).toInt → K s τ vs) : ∃ L235 : Nat → Int32 → St → St → List Nat → Prop, (∃ n, L235 n (0 : Int32) σ τ vs) ∧ ∀ (n235 : Nat) (x6_235 : Int32) (s235 t235 : St) (z235 : List Nat), L235 n235 x6_235 s235 t235 z235 → (((s235 0 64).toInt ≤ x6_235.toInt → K s235 t235 z235) ∧ (x6_235.toInt < (s235 0 64).toInt → ((0 ≤ x6_235.toInt ∧ x6_235.toInt < 8) ∧ (∃ J351 : St → St → List Nat → Prop, (∀ (s351 t351 : St) (z351 : List Nat), J351 s351 t351 z351 → (∃ m, m < n235 ∧ L235 m (x6_235 + 1) s351 t351 z351)) ∧ (0 ≤ (s235 38 x6_235.toNatClampNeg).toInt → ((0 ≤ x6_235.toInt ∧ x6_235.toInt < 8) ∧ wp_isHeldHere (s235 38 x6_235.toNatClampNeg) s235 t235 z235 (fun v297 => (∃ J308 : Int32 → Prop, (∀ (y1_308 : Int32), y1_308 = 0 ∨ y1_308 = 1 → J308 y1_308 → (((0 ≤ x6_235.toInt ∧ x6_235.toInt < 8) ∧ wp_must y1_308 (s235 38 x6_235.toNatClampNeg) s235 t235 z235 (fun s315 t315 z315 => ((0 ≤ x6_235.toInt ∧ x6_235.toInt < 8) ∧ ((0 ≤ x6_235.toInt ∧ x6_235.toInt < 8) ∧ wp_declareLocal (s315 38 x6_235.toNatClampNeg) (s315 37 x6_235.toNatClampNeg) s315 t315 z315 (fun v333 s333 t333 z333 => ((0 ≤ x6_235.toInt ∧ x6_235.toInt < 8) ∧ wp_hold (s333 38 x6_235.toNatClampNeg) v333 s333 t333 z333 (fun s348 t348 z348 => J351 s348 t348 z348))))))))) ∧ (v297.toInt ≠ 0 → J308 (0 : Int32)) ∧ (v297.toInt = 0 → J308 (1 : Int32)))))) ∧ ((s235 38 x6_235.toNatClampNeg).toInt < 0 → ((0 ≤ x6_235.toInt ∧ x6_235.toInt < 8) ∧ wp_tell (2 : Int32) (s235 39 x6_235.toNatClampNeg) s235 t235 z235 (fun s263 t263 z263 => ((0 ≤ x6_235.toInt ∧ x6_235.toInt < 8) ∧ ((0 ≤ x6_235.toInt ∧ x6_235.toInt < 8) ∧ wp_declareLocal (s263 39 x6_235.toNatClampNeg) (s263 37 x6_235.toNatClampNeg) s263 t263 z263 (fun v281 s281 t281 z281 => J351 s281 t281 z281)))))))))) := by
  have z0 : (0 : Int32).toInt = 0 := by decide
  obtain ⟨⟨hd1, hd2⟩, -⟩ := id hd
  refine ⟨fun n x s t z => (n : Int) = (σ 0 64).toInt - x.toInt ∧ (0 ≤ x.toInt ∧ x.toInt ≤ (σ 0 64).toInt) ∧ τ = t ∧ vs = z ∧ QTt σ τ vs s ∧ (s 0 49).toInt = x.toInt, ⟨((σ 0 64).toInt).toNat, by rw [z0]; omega, by rw [z0]; omega, rfl, rfl, qt_tl h tl_rf, by rw [z0]; exact hl⟩, ?_⟩
  rintro n x s _ _ ⟨hn, hx, rfl, rfl, hq, hlo⟩
  have hP := hq.1.2.1
  have hds := hds_kq hq.2 hd
  have ec : (s 0 64) = (σ 0 64) := hq.2 _ _ rfl rfl
  rw [ec]
  have e1 : (x + 1).toInt = x.toInt + 1 := ad1 (by omega)
  refine ⟨fun c => k s hq (by omega), fun c => ?_⟩
  have hx8 : 0 ≤ x.toInt ∧ x.toInt < 8 := by omega
  have nx := nt hx8.1
  have look : ∀ s', KQ s s' → (0 ≤ ((s' 37) x.toNatClampNeg).toInt ∧ ((s' 37) x.toNatClampNeg).toInt ≤ 10) := fun s' k' => ((hds_kq k' hds).2 _ (by rw [k' 0 64 rfl rfl, ec]; omega)).1
  have same : ∀ s', KQ s s' → (s' 38) x.toNatClampNeg = (s 38) x.toNatClampNeg := fun s' k' => k' 38 _ rfl rfl
  obtain ⟨r1, r2, r3⟩ := hds.2 x.toNatClampNeg (by rw [ec]; omega)
  refine ⟨hx8, fun s' t' z' => τ = t' ∧ vs = z' ∧ QTt σ τ vs s' ∧ (s' 0 49).toInt = x.toInt + 1, ?_, fun c2 => ⟨hx8, ?_⟩, fun c2 => ⟨hx8, ?_⟩⟩
  · rintro s' _ _ ⟨rfl, rfl, q1, q2⟩
    exact ⟨((σ 0 64).toInt - x.toInt - 1).toNat, by omega, by omega, by omega, rfl, rfl, q1, by omega⟩
  · have body : ∀ y : Int32, ((0 ≤ x.toInt ∧ x.toInt < 8) ∧ wp_must y (s 38 x.toNatClampNeg) s τ vs (fun s315 t315 z315 => ((0 ≤ x.toInt ∧ x.toInt < 8) ∧ ((0 ≤ x.toInt ∧ x.toInt < 8) ∧ wp_declareLocal (s315 38 x.toNatClampNeg) (s315 37 x.toNatClampNeg) s315 t315 z315 (fun v333 s333 t333 z333 => ((0 ≤ x.toInt ∧ x.toInt < 8) ∧ wp_hold (s333 38 x.toNatClampNeg) v333 s333 t333 z333 (fun s348 t348 z348 => τ = t348 ∧ vs = z348 ∧ QTt σ τ vs s348 ∧ (s348 0 49).toInt = x.toInt + 1))))))) := fun y => by
      refine ⟨hx8, sp_must ⟨c2, r2.2⟩ (fun s1 hs1 _ => ⟨hx8, hx8, ?_⟩)⟩
      have q1 := qt_tl (vs := vs) hP hs1
      have hP1 := q1.1.2.1
      have l1 : (s1 0 49) = (s 0 49) := hs1.1 0 49 rfl rfl
      refine sp_declareLocalP hP1 (look s1 q1.2) (by rw [l1]; omega) (fun r s2 q2 hr hl2 hh2 => ⟨hx8, ?_⟩)
      have q12 := qt_tr q1 q2
      have hP2 := q2.1.2.1
      rw [same s2 q12.2]
      rw [l1] at hr hl2
      have hh1 := hP1.2.2.1.2.2.1
      rw [l1] at hh1
      refine sp_hold hP2 ⟨c2, r2.2⟩ (by omega) (by rw [hh2]; omega) (fun s3 q3 hl3 _ _ => ⟨rfl, rfl, qt_tr hq (qt_tr q12 q3), by rw [hl3]; omega⟩)
    exact sp_isHeldHere hP ⟨c2, r2.2⟩ ⟨fun _ => True, fun y _ _ => body y, fun _ => trivial, fun _ => trivial⟩ ⟨fun _ => True, fun y _ _ => body y, fun _ => trivial, fun _ => trivial⟩
  · refine sp_tell (by decide) r3 (fun s1 hs1 _ => ⟨hx8, hx8, ?_⟩)
    have q1 := qt_tl (vs := vs) hP hs1
    have hP1 := q1.1.2.1
    have l1 : (s1 0 49) = (s 0 49) := hs1.1 0 49 rfl rfl
    exact sp_declareLocalP hP1 (look s1 q1.2) (by rw [l1]; omega) (fun r s2 q2 hr hl2 hh2 => ⟨rfl, rfl, qt_tr hq (qt_tr q1 q2), by rw [hl2, l1]; omega⟩)
end PRM
