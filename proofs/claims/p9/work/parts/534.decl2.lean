/-! names of locals -/
section DC2
variable {σ s s' τ t t' : St} {vs z z' : List Nat}
abbrev KQ (σ s : St) : Prop := Kp [(0, 12), (0, 13), (0, 49), (0, 53), (0, 54)] [33, 34, 35, 36, 31, 32] σ s
def QTt (σ τ : St) (vs : List Nat) (s : St) : Prop := RSt σ vs s τ vs ∧ KQ σ s
theorem qt_tr {s' : St} (h : QTt σ τ vs s) (g : QTt s τ vs s') : QTt σ τ vs s' := ⟨rs_tr h.1 g.1, kp_tr h.2 g.2⟩
theorem qt_pos (h : QTt σ τ vs s) : pos s = pos σ ∧ (s 0 17) = (σ 0 17) ∧ (s 0 39) = (σ 0 39) ∧ kd s = kd σ ∧ (s 0 10) = (σ 0 10) := by
  have e1 : (s 0 10) = (σ 0 10) := h.2 _ _ rfl rfl
  have e2 : (s 3) = (σ 3) := funext (fun j => h.2 3 j rfl rfl)
  have e3 : (s 2) = (σ 2) := funext (fun j => h.2 2 j rfl rfl)
  unfold pos kd
  rw [e1, e2, e3]
  exact ⟨rfl, h.2 0 17 rfl rfl, h.2 0 39 rfl rfl, rfl, rfl⟩
theorem qt_sr {a : Nat} (h0 : 0 ≤ (σ 0 17).toInt) (h : QTt σ τ vs s) : SRt σ vs a a s τ vs [] [] ∧ NCt σ vs s vs 0 := by
  obtain ⟨p1, p2, p3, -, -⟩ := qt_pos h
  refine ⟨⟨h.1, chn_no h0 h.1.2.2.1 (h.2 0 58 rfl rfl) (h.2 0 59 rfl rfl), fun g X E0 L hT hf hs => ⟨g, ty_X (ty_same hT h0 p2 h.1.2.2.1 (rs_ev h.1)) (fun q hq => Or.inl hq), ext_rf, fun b hb => absurd hb List.not_mem_nil⟩, h.2 0 57 rfl rfl, fun _ _ _ => ⟨rfl, rfl⟩⟩, ?_⟩
  unfold NCt
  rw [p1, p2, p3]
  exact ⟨by omega, by omega, by omega⟩
theorem qt_mk (h : PA σ τ) (k : KQ σ s) (hn : 0 ≤ (s 0 53).toInt ∧ (s 0 53).toInt ≤ (s 0 49).toInt ∧ (s 0 49).toInt ≤ 100) (h1 : AllIn 0 16001 (s 34)) (h2 : AllIn 0 99 (s 35)) (h3 : AllIn 0 10 (s 31)) (h4 : HLd s) (h6 : AllIn (-1) 4000 (s 32)) (ho : OF σ s) (hl : (σ 0 49).toInt ≤ (s 0 49).toInt) : QTt σ τ vs s := by
  obtain ⟨hT, hA, ⟨n1, n2, n3, n4, n5, n6, n7⟩, ⟨a1, a2, a3, a4, a5, a6, a7, a8, a9, b1, b2, b3⟩, h5⟩ := h
  have e22 : (s 22) = (σ 22) := funext (fun j => k 22 j rfl rfl)
  have e15 : (s 15) = (σ 15) := funext (fun j => k 15 j rfl rfl)
  have e16 : (s 16) = (σ 16) := funext (fun j => k 16 j rfl rfl)
  have e17 : (s 17) = (σ 17) := funext (fun j => k 17 j rfl rfl)
  have e18 : (s 18) = (σ 18) := funext (fun j => k 18 j rfl rfl)
  have e19 : (s 19) = (σ 19) := funext (fun j => k 19 j rfl rfl)
  have e10 : (s 10) = (σ 10) := funext (fun j => k 10 j rfl rfl)
  have e9 : (s 9) = (σ 9) := funext (fun j => k 9 j rfl rfl)
  have e21 : (s 21) = (σ 21) := funext (fun j => k 21 j rfl rfl)
  have e14 : (s 14) = (σ 14) := funext (fun j => k 14 j rfl rfl)
  have e3 : (s 3) = (σ 3) := funext (fun j => k 3 j rfl rfl)
  have f1 : (s 0 35) = (σ 0 35) := k _ _ rfl rfl
  have f2 : (s 0 36) = (σ 0 36) := k _ _ rfl rfl
  have f3 : (s 0 10) = (σ 0 10) := k _ _ rfl rfl
  have f4 : (s 0 8) = (σ 0 8) := k _ _ rfl rfl
  have f5 : (s 0 15) = (σ 0 15) := k _ _ rfl rfl
  have f6 : (s 0 37) = (σ 0 37) := k _ _ rfl rfl
  have f7 : (s 0 17) = (σ 0 17) := k _ _ rfl rfl
  have f8 : (s 0 39) = (σ 0 39) := k _ _ rfl rfl
  have eF : Fi s = Fi σ := by unfold Fi; rw [f1, e22]
  refine ⟨⟨kp_sub k rfl rfl, ⟨tk_kp k rfl rfl ⟨rfl, rfl, rfl, rfl, rfl⟩ rfl hT, by unfold AtOK; rw [f3, f4]; exact hA, ⟨by rw [f1]; exact n1, by rw [eF, f2]; exact n2, hn, by rw [f6]; exact n4, by rw [f7]; exact n5, by rw [f8]; exact n6, by rw [f5]; exact n7⟩, ⟨h1, h2, by rw [e21]; exact a3, by rw [e15]; exact a4, ?_, h3, by rw [e10]; exact a7, ?_, h4, by rw [e17]; exact b1, by rw [e16]; exact b2, h6⟩, h5⟩, fun j _ => k 8 j rfl rfl, mon_of e14 e21, ho, by rw [f7]; exact Int.le_refl _, by rw [f8]; exact Int.le_refl _, ?_, fun _ h => h, Nat.le_refl _, ie_of (funext (fun j => k 25 j rfl rfl)) f8 f6, hl⟩, k⟩
  · unfold NMo; rw [e18, e19]; exact a5
  · unfold VTy; rw [e9, e10]; exact a8
  · unfold pos
    rw [f3, e3]
    exact Int.le_refl _
theorem qt_tl (h : PA σ τ) (p : TL σ s) : QTt σ τ vs s := by
  have h9 := h
  obtain ⟨hT, hA, ⟨n1, n2, n3, n4, n5, n6, n7⟩, ⟨a1, a2, a3, a4, a5, a6, a7, a8, a9, b1, b2, b3⟩, h5⟩ := h9
  have k : KQ σ s := kp_sub p.1 rfl rfl
  have e34 : (s 34) = (σ 34) := funext (fun j => p.1 34 j rfl rfl)
  have e35 : (s 35) = (σ 35) := funext (fun j => p.1 35 j rfl rfl)
  have e31 : (s 31) = (σ 31) := funext (fun j => p.1 31 j rfl rfl)
  have e32 : (s 32) = (σ 32) := funext (fun j => p.1 32 j rfl rfl)
  have f3 : (s 0 53) = (σ 0 53) := p.1 _ _ rfl rfl
  have f4 : (s 0 49) = (σ 0 49) := p.1 _ _ rfl rfl
  exact qt_mk h k (by rw [f3, f4]; exact n3) (by rw [e34]; exact a1) (by rw [e35]; exact a2) (by rw [e31]; exact a6) (by unfold HLd; rw [e35, f3, f4]; exact a9) (by rw [e32]; exact b3) p.2 (by rw [f4]; exact Int.le_refl _)
theorem sp_declareLocal {tk ty : Int32} {Q : Int32 → St → St → List Nat → Prop} (h : PA σ τ) (ht : 0 ≤ tk.toInt ∧ tk.toInt < 16002) (hty : 0 ≤ ty.toInt ∧ ty.toInt ≤ 10) (k : ∀ (r : Int32) s, QTt σ τ vs s → (r.toInt < 0 → (s 0 12).toInt = 0 → (s 0 15).toInt = 0 → False) → (0 ≤ r.toInt → r.toInt ≤ 99 ∧ r.toInt < (s 0 49).toInt ∧ (s 0 53).toInt < (s 0 49).toInt) → (s 0 53) = (σ 0 53) → (s 0 54) = (σ 0 54) → (s 34) = (σ 34) → (s 35) = (σ 35) → -1 ≤ r.toInt → Q r s τ vs) : wp_declareLocal tk ty σ τ vs Q := by
  have h9 := h
  obtain ⟨hT, hA, ⟨n1, n2, n3, n4, n5, n6, n7⟩, ⟨a1, a2, a3, a4, a5, a6, a7, a8, a9, b1, b2, b3⟩, h5⟩ := h9
  unfold wp_declareLocal
  refine ⟨fun c => ⟨by omega, by omega, by omega, ?_⟩, fun c => sp_tell (by decide) ht (fun s hs hf => k _ s (qt_tl h hs) (fun _ => hf) (fun c => absurd c (by decide)) (hs.1 0 53 rfl rfl) (hs.1 0 54 rfl rfl) (funext (fun j => hs.1 34 j rfl rfl)) (funext (fun j => hs.1 35 j rfl rfl)) (by decide))⟩
  have e1 : ((σ 0 49) + (1 : Int32)).toInt = (σ 0 49).toInt + 1 := ad1 (by omega)
  have e2 : (((σ 0 49) + (1 : Int32)) - (1 : Int32)).toInt = (σ 0 49).toInt := by rw [sb1 (by omega), e1]; omega
  have el : ((upC (upC (upC (upC σ 31 (σ 0 49).toNatClampNeg ty) 32 (σ 0 49).toNatClampNeg ((-1) : Int32)) 33 (σ 0 49).toNatClampNeg (vp_nar .boolean (0 : Int32))) 0 49 ((σ 0 49) + (1 : Int32))) 0 49).toInt = (σ 0 49).toInt + 1 := by rw [rdA_eq rfl]; exact e1
  refine k _ _ (qt_mk h (kp_f (kp_a (kp_a (kp_a kp_rf rfl) rfl) rfl) rfl) ?_ a1 a2 ?_ ?_ ?_ (Or.inl rfl) ?_) (fun c2 => by omega) (fun _ => ⟨by omega, by rw [el]; omega, ?_⟩) rfl rfl rfl rfl (by omega)
  · rw [el]
    show 0 ≤ (σ 0 53).toInt ∧ (σ 0 53).toInt ≤ _ ∧ _
    omega
  · show AllIn 0 10 (upC σ 31 (σ 0 49).toNatClampNeg ty 31)
    exact acr_up a6 hty
  · intro j hj
    rw [el]
    have := a9 j hj
    show ((σ 35) j).toInt < _
    omega
  · show AllIn (-1) 4000 (upC (upC σ 31 (σ 0 49).toNatClampNeg ty) 32 (σ 0 49).toNatClampNeg ((-1) : Int32) 32)
    exact acr_up b3 (by decide)
  · rw [el]; omega
  · rw [el]
    show (σ 0 53).toInt < _
    omega
theorem sp_hold {tk n : Int32} {Q : St → St → List Nat → Prop} (h : PA σ τ) (ht : 0 ≤ tk.toInt ∧ tk.toInt < 16002) (hn : 0 ≤ n.toInt ∧ n.toInt ≤ 99 ∧ n.toInt < (σ 0 49).toInt) (hh : (σ 0 53).toInt < (σ 0 49).toInt) (k : ∀ s, QTt σ τ vs s → (s 0 49) = (σ 0 49) → (s 0 53).toInt = (σ 0 53).toInt + 1 → (s 32) = (σ 32) → Q s τ vs) : wp_hold tk n σ τ vs Q := by
  have h9 := h
  obtain ⟨hT, hA, ⟨n1, n2, n3, n4, n5, n6, n7⟩, ⟨a1, a2, a3, a4, a5, a6, a7, a8, a9, b1, b2, b3⟩, h5⟩ := h9
  have e1 : ((σ 0 53) + (1 : Int32)).toInt = (σ 0 53).toInt + 1 := ad1 (by omega)
  have el : ((upC (upC (upC (upC σ 34 (σ 0 53).toNatClampNeg tk) 35 (σ 0 53).toNatClampNeg n) 36 (σ 0 53).toNatClampNeg (σ 0 54)) 0 53 ((σ 0 53) + (1 : Int32))) 0 53).toInt = (σ 0 53).toInt + 1 := by rw [rdA_eq rfl]; exact e1
  have en := nt n3.1
  unfold wp_hold
  refine ⟨by omega, by omega, by omega, k _ (qt_mk h (kp_f (kp_a (kp_a (kp_a kp_rf rfl) rfl) rfl) rfl) ?_ ?_ ?_ a6 ?_ b3 (Or.inl rfl) (Int.le_refl _)) rfl el rfl⟩
  · rw [el]
    show 0 ≤ _ ∧ _ ≤ (σ 0 49).toInt ∧ (σ 0 49).toInt ≤ 100
    omega
  · show AllIn 0 16001 (upC σ 34 (σ 0 53).toNatClampNeg tk 34)
    exact acr_up a1 ⟨by omega, by omega⟩
  · show AllIn 0 99 (upC (upC σ 34 (σ 0 53).toNatClampNeg tk) 35 (σ 0 53).toNatClampNeg n 35)
    exact acr_up a2 ⟨by omega, by omega⟩
  · intro j hj
    rw [el] at hj
    show (upC (upC σ 34 (σ 0 53).toNatClampNeg tk) 35 (σ 0 53).toNatClampNeg n 35 j).toInt < (σ 0 49).toInt
    rw [rdA]
    by_cases c : j = (σ 0 53).toNatClampNeg
    · rw [if_pos c]; exact hn.2.2
    · rw [if_neg c]
      exact a9 j (by omega)
theorem sp_close {Q : St → St → List Nat → Prop} (h : PA σ τ) (k : ∀ s, QTt σ τ vs s → Q s τ vs) : wp_close σ τ vs Q := by
  have h9 := h
  obtain ⟨hT, hA, ⟨n1, n2, n3, n4, n5, n6, n7⟩, ⟨a1, a2, a3, a4, a5, a6, a7, a8, a9, b1, b2, b3⟩, h5⟩ := h9
  unfold wp_close
  refine ⟨fun n s t z => τ = t ∧ vs = z ∧ (n : Int) = (s 0 53).toInt ∧ (s 0 53).toInt ≤ (σ 0 53).toInt ∧ 0 ≤ (s 0 53).toInt ∧ Kp [(0, 53)] [] σ s, ⟨((σ 0 53).toInt).toNat, rfl, rfl, by omega, Int.le_refl _, n3.1, kp_rf⟩, ?_⟩
  rintro n s _ _ ⟨rfl, rfl, q1, q2, q3, q4⟩
  have el : (s 0 49) = (σ 0 49) := q4 _ _ rfl rfl
  have e34 : (s 34) = (σ 34) := funext (fun j => q4 34 j rfl rfl)
  have e35 : (s 35) = (σ 35) := funext (fun j => q4 35 j rfl rfl)
  have e31 : (s 31) = (σ 31) := funext (fun j => q4 31 j rfl rfl)
  have fin : Q (upC s 0 54 ((s 0 54) - (1 : Int32))) τ vs := by
    refine k _ (qt_mk h (kp_f (kp_sub q4 rfl rfl) rfl) ?_ ?_ ?_ ?_ ?_ ?_ ?_ ?_)
    · show 0 ≤ (s 0 53).toInt ∧ (s 0 53).toInt ≤ (s 0 49).toInt ∧ (s 0 49).toInt ≤ 100
      rw [el]; omega
    · show AllIn 0 16001 (s 34)
      rw [e34]; exact a1
    · show AllIn 0 99 (s 35)
      rw [e35]; exact a2
    · show AllIn 0 10 (s 31)
      rw [e31]; exact a6
    · intro j hj
      show ((s 35) j).toInt < (s 0 49).toInt
      rw [e35, el]
      have hj' : (j : Int) < (s 0 53).toInt := hj
      exact a9 j (by omega)
    · show AllIn (-1) 4000 (s 32)
      have e32 : (s 32) = (σ 32) := funext (fun j => q4 32 j rfl rfl)
      rw [e32]; exact b3
    · have e : (s 0 12) = (σ 0 12) := q4 _ _ rfl rfl
      exact of_eq e
    · show _ ≤ (s 0 49).toInt
      rw [el]; exact Int.le_refl _
  have e1 : 0 < (s 0 53).toInt → ((s 0 53) - (1 : Int32)).toInt = (s 0 53).toInt - 1 := fun c => sb1 (by omega)
  refine ⟨fun _ => fin, fun c => ⟨by rw [e1 c]; omega, fun _ => fin, fun _ => ⟨n - 1, by omega, rfl, rfl, ?_, ?_, ?_, kp_f q4 rfl⟩⟩⟩
  · rw [rdA_eq rfl, e1 c]; omega
  · rw [rdA_eq rfl, e1 c]; omega
  · rw [rdA_eq rfl, e1 c]; omega
theorem mx1 {y : Int32} (h : y.toInt ≤ 4000) : 1 ≤ (if y < (1 : Int32) then (1 : Int32) else y).toInt ∧ (if y < (1 : Int32) then (1 : Int32) else y).toInt ≤ 4000 := by
  have e : (1 : Int32).toInt = 1 := by decide
  split
  · rw [e]; omega
  · rename_i c
    rw [Int32.lt_iff_toInt_lt, e] at c
    omega
theorem sp_localName {tk ty sz : Int32} {Q : Int32 → St → St → List Nat → Prop} (h : PA σ τ) (ht : 0 ≤ tk.toInt ∧ tk.toInt < 16002) (hty : 0 ≤ ty.toInt ∧ ty.toInt ≤ 10) (hsz : sz.toInt ≤ 4000) (k : ∀ (r : Int32) s, QTt σ τ vs s → (r.toInt < 0 → (s 0 12).toInt = 0 → (s 0 15).toInt = 0 → False) → (0 ≤ r.toInt → r.toInt ≤ 99 ∧ r.toInt < (s 0 49).toInt ∧ (s 0 53).toInt < (s 0 49).toInt ∧ (sz.toInt < 0 → ((s 32) r.toNatClampNeg).toInt < 0)) → Q r s τ vs) : wp_localName tk ty sz σ τ vs Q := by
  unfold wp_localName
  refine sp_isHeldHere h ht ⟨fun _ => True, fun y _ _ => ?_, fun _ => trivial, fun _ => trivial⟩ ⟨fun _ => True, fun y _ _ => ?_, fun _ => trivial, fun _ => trivial⟩
  all_goals
    refine sp_must ht (fun s1 hs1 hf1 => ?_)
    have q1 := qt_tl (vs := vs) h hs1
    refine sp_declareLocal q1.1.2.1 ht hty (fun r s q2 f2 f3 _ _ _ _ r1 => ⟨fun c => k r s (qt_tr q1 q2) f2 (fun c2 => absurd c (by omega)), fun c => ?_⟩)
    have h2 := q2.1.2.1
    have up : ∀ v : Int32, -1 ≤ v.toInt → v.toInt ≤ 4000 → QTt s τ vs (upC s 32 r.toNatClampNeg v) := fun v hv1 hv2 => by
      obtain ⟨hT, hA, ⟨n1, n2, n3, n4, n5, n6, n7⟩, ⟨a1, a2, a3, a4, a5, a6, a7, a8, a9, b1, b2, b3⟩, h5⟩ := h2
      exact qt_mk q2.1.2.1 (kp_a kp_rf rfl) n3 a1 a2 a6 a9 (acr_up b3 ⟨hv1, hv2⟩) (Or.inl rfl) (Int.le_refl _)
    obtain ⟨g1, g2, g3⟩ := f3 c
    exact ⟨fun c2 => ⟨by omega, k r _ (qt_tr q1 (qt_tr q2 (up _ (by have := mx1 hsz; omega) (mx1 hsz).2))) (fun c3 => absurd c (by omega)) (fun _ => ⟨g1, g2, g3, fun c3 => absurd c2 (by omega)⟩)⟩, fun c2 => ⟨by omega, k r _ (qt_tr q1 (qt_tr q2 (up _ (by decide) (by decide)))) (fun c3 => absurd c (by omega)) (fun _ => ⟨g1, g2, g3, fun _ => by rw [rdA_eq rfl]; decide⟩)⟩⟩
end DC2
