/-! a variable: what is told of its [ ]; what stands behind its = -/
section SQE
variable {w s r s8 s9 σ σ' σ1 sa τ t : St} {kd vl : Nat → Int} {n S m lo d p pb u Lc ty : Nat} {vs z : List Nat} {a1 a2 a3 a4 a5 x6 x7 x8 y0 y1 num : Int32} {F0 : Prop} {sz cells tyi : Int} {loc br row ext A B : Prop} {g : List Gsq} {gb : List Gsq} {giv lk : Int} {v : Int32}
theorem mr_square {J232 : St → St → List Nat → Prop} {lack : Prop} (tk : RTk s kd n) (hg : GMt s n pb) (h0 : 0 ≤ (s 0 12).toInt) (hl : lack ↔ a4.toInt ≠ 0 ∨ kd pb = 30) (hy : 0 ≤ x6.toInt → (y0.toInt ≠ 0 ↔ 1 ≤ x7.toInt ∧ x7.toInt ≤ 4000)) (kk : ∀ s', Kp [(0, 12), (0, 13)] [] s s' → FTq s s' (SQm x6.toInt x7.toInt x8.toInt lack) → J232 s' t z) : ((x6.toInt < 0 → (J232 s t z)) ∧ (0 ≤ x6.toInt → (∃ J192 : St → St → List Nat → Prop, (∀ (s192 t192 : St) (z192 : List Nat), J192 s192 t192 z192 → (∃ J227 : Int32 → Prop, (∀ (y1_227 : Int32), y1_227 = 0 ∨ y1_227 = 1 → (J227 y1_227 → (pp_must y1_227 x6 s192 t192 z192 (fun s229 t229 z229 => J232 s229 t229 z229)))) ∧ (∃ J222 : Prop, (J222 → (J227 (1 : Int32))) ∧ ((y0.toInt ≠ 0 → (J222)) ∧ (y0.toInt = 0 → (∃ J226 : Prop, (J226 → (J227 (0 : Int32))) ∧ ((x8.toInt ≠ 0 → (J226)) ∧ (x8.toInt = 0 → ((x7.toInt ≠ 0 → (J226)) ∧ (x7.toInt = 0 → ((a4.toInt ≠ 0 → (J222)) ∧ (a4.toInt = 0 → (pp_is (30 : Int32) s192 t192 z192 (fun v216 => (v216.toInt = 0 → (J226)) ∧ (v216.toInt ≠ 0 → (J222)))))))))))))))) ∧ ((x7.toInt ≤ 4000 → (J192 s t z)) ∧ (4000 < x7.toInt → (pp_tell (4 : Int32) x6 s t z (fun s189 t189 z189 => J192 s189 t189 z189))))))) := by
  refine ⟨fun c => kk s kp_rf (ft_iff (ft_rf h0) ⟨False.elim, fun h => absurd h.1 (by omega)⟩), fun c => ?_⟩
  have hy := hy c
  refine ⟨fun s' t' z' => t' = t ∧ z' = z ∧ Kp [(0, 12), (0, 13)] [] s s' ∧ FTq s s' (4000 < x7.toInt), ?_, fun c1 => ⟨rfl, rfl, kp_rf, ft_iff (ft_rf h0) ⟨False.elim, fun h => by omega⟩⟩, fun c1 => mr_tell h0 (by decide) (fun s1 k1 f1 => ⟨rfl, rfl, k1, ft_iff f1 ⟨fun _ => c1, fun _ => trivial⟩⟩)⟩
  rintro s1 t1 z1 ⟨e1, e2, k1, f1⟩
  rw [e1, e2]
  have tk1 : RTk s1 kd n := rtk_k k1 (fun _ => rfl) rfl tk
  have g1 : GMt s1 n pb := gm_k hg (k1 0 10 rfl rfl)
  refine ⟨fun y => (y.toInt ≠ 0 ↔ (1 ≤ x7.toInt ∧ x7.toInt ≤ 4000) ∨ (x8.toInt = 0 ∧ x7.toInt = 0 ∧ lack)), fun y _ hj => mr_must f1.1 (fun s2 k2 f2 => kk s2 (kp_tr k1 k2) (ft_iff (ft_tr f1 f2 (k1 0 15 rfl rfl)) ?_)), (1 ≤ x7.toInt ∧ x7.toInt ≤ 4000) ∨ (x8.toInt = 0 ∧ x7.toInt = 0 ∧ lack), fun hj => ⟨fun _ => hj, fun _ => by decide⟩, fun cy => Or.inl (hy.1 cy), fun cy => ⟨¬ ((1 ≤ x7.toInt ∧ x7.toInt ≤ 4000) ∨ (x8.toInt = 0 ∧ x7.toInt = 0 ∧ lack)), fun hj => ⟨fun h => absurd rfl h, fun h => absurd h hj⟩, fun c8 hx => hx.elim (fun h => (hy.2 h) cy) (fun h => c8 h.1), fun c8 => ⟨fun c7 hx => hx.elim (fun h => (hy.2 h) cy) (fun h => c7 h.2.1), fun c7 => ⟨fun c4 => Or.inr ⟨c8, c7, hl.2 (Or.inl c4)⟩, fun c4 => mr_is1 tk1 g1 (c := 30) (by decide) (by decide) (fun v hv => ⟨fun c0 hx => hx.elim (fun h => (hy.2 h) cy) (fun h => (hl.1 h.2.2).elim (fun h => h c4) (fun h => (hv.2 h) c0)), fun c1 => Or.inr ⟨c8, c7, hl.2 (Or.inr (hv.1 c1))⟩⟩)⟩⟩⟩⟩
  unfold SQm
  constructor
  · rintro (h | h)
    · exact ⟨c, fun hx => by omega, fun hx => by have := hx.2.1; omega⟩
    · exact ⟨c, fun hx => (hj.2 (Or.inl hx)) h, fun hx => (hj.2 (Or.inr hx)) h⟩
  · rintro ⟨_, h1, h2⟩
    exact Or.inr (Decidable.byContradiction (fun hx => (hj.1 hx).elim h1 h2))
theorem in_src (e : sa 0 12 = s 0 12) (dd : DDq s sa) (h : INq kd n S m lo loc br row ext tyi cells g sa σ') : INq kd n S m lo loc br row ext tyi cells g s σ' := fun h0 w hR => h (by rw [e]; exact h0) w (re_cd hR cd_rf dd)
/-- the reference: what stands behind the =, if one does -/
theorem es_set {Q : St → St → List Nat → Prop} (h1 : a2.toInt = (ty : Int)) (h5 : a5.toInt ≠ 0 ↔ loc) (hG : RGs kd vl n S m lo d s) (hg : GMt s n pb)
    (kk1 : kd pb = 30 → ∀ s' t' z' p' g sz br cells, (br = true ↔ 0 ≤ x6.toInt) → (br = true → cells = if y1.toInt < 1 then 1 else y1.toInt) → EVq (fun N => INn kd vl N br ty pb) (some (p', g, sz)) → TLq kd vl br pb sz → pb + 1 < p' → GMt s' n p' → RGs kd vl n S m lo d s' → MNq s s' → KEr s s' → TFq t z t' z' → INq kd n S m lo loc (br = true) (kd (pb + 1) = 22 ∨ ALq kd (pb + 1)) (a4.toInt ≠ 0) (ty : Int) cells g s s' → (br = true → ¬ (kd (pb + 1) = 22 ∨ ALq kd (pb + 1)) → (s' 0 12).toInt ≠ 0 ∧ ARq g) → Q s' t' z')
    (kk0 : kd pb ≠ 30 → Q s t z) (kn : kd pb = 30 → ∀ br, (br = true ↔ 0 ≤ x6.toInt) → EVq (fun N => INn kd vl N br ty pb) none → F0) : pp_is (30 : Int32) s t z (fun v288 => (v288.toInt ≠ 0 → (∃ J343 : Int32 → St → St → List Nat → Prop, (∀ (y0_343 : Int32) (s343 t343 : St) (z343 : List Nat), y0_343 = 0 ∨ y0_343 = 1 → (J343 y0_343 s343 t343 z343 → (∃ J361 : Int32 → Prop, (∀ (y1_361 : Int32), y1_361 = 0 ∨ y1_361 = 1 → (J361 y1_361 → (pp_must y1_361 (s 0 10) s343 t343 z343 (fun s363 t363 z363 => Q s363 t363 z363)))) ∧ (∃ J360 : Prop, (J360 → (J361 (0 : Int32))) ∧ ((y0_343.toInt = 0 → (J360)) ∧ (y0_343.toInt ≠ 0 → ((a4.toInt ≠ 0 → (J360)) ∧ (a4.toInt = 0 → (J361 (1 : Int32)))))))))) ∧ ((x6.toInt < 0 → (pp_oneInitial a2 num a5 (upC s 0 10 ((s 0 10) + (1 : Int32))) t z (fun v340 s340 t340 z340 => J343 v340 s340 t340 z340) (fun _ _ _ => F0))) ∧ (0 ≤ x6.toInt → (pp_rowInitial a2 (if y1 < (1 : Int32) then (1 : Int32) else y1) num a5 (upC s 0 10 ((s 0 10) + (1 : Int32))) t z (fun v328 s328 t328 z328 => J343 v328 s328 t328 z328) (fun _ _ _ => F0)))))) ∧ (v288.toInt = 0 → (Q s t z))) := by
  refine mr_is1 hG.1.1 hg (c := 30) (by decide) (by decide) (fun v hv => ⟨fun c => ?_, fun c => kk0 (fun h => (hv.2 h) c)⟩)
  have c30 := hv.1 c
  have ka : Kp [(0, 10)] [] s (upC s 0 10 ((s 0 10) + (1 : Int32))) := kp_f kp_rf rfl
  have ga : GMt (upC s 0 10 ((s 0 10) + (1 : Int32))) n (pb + 1) := gm_up hG.1.1 hg (by omega)
  generalize upC s 0 10 ((s 0 10) + (1 : Int32)) = sa at ka ga
  have ea : sa 0 12 = s 0 12 := ka 0 12 rfl rfl
  have hGa := rg_ds hG (ds_k ka rfl rfl) (by rw [ea]; exact rgq_0 hG.1)
  have ifc : (if y1 < (1 : Int32) then (1 : Int32) else y1).toInt = if y1.toInt < 1 then 1 else y1.toInt := by
    by_cases cv : y1 < (1 : Int32)
    · rw [if_pos cv, if_pos (show y1.toInt < 1 from Int32.lt_iff_toInt_lt.mp cv)]
      rfl
    · rw [if_neg cv, if_neg (show ¬ y1.toInt < 1 from fun hx => cv (Int32.lt_iff_toInt_lt.mpr hx))]
  refine ⟨fun y s' t' z' => ∃ (br : Bool) (cells : Int), (br = true ↔ 0 ≤ x6.toInt) ∧ (br = true → cells = if y1.toInt < 1 then 1 else y1.toInt) ∧ IPq kd vl n S m lo d br ty loc cells pb sa t z y s' t' z', ?_, fun c6 => es_oneInitial h1 h5 hGa ga (fun v s' t' z' h => ⟨false, 0, ⟨fun h => absurd h (by decide), fun h => by omega⟩, fun h => absurd h (by decide), h⟩) (kn c30 false ⟨fun h => absurd h (by decide), fun h => by omega⟩), fun c6 => es_rowInitial h1 h5 hGa ga (fun v s' t' z' h => ⟨true, _, ⟨fun _ => c6, fun _ => rfl⟩, fun _ => ifc, h⟩) (kn c30 true ⟨fun _ => c6, fun _ => rfl⟩)⟩
  rintro y s' t' z' hy ⟨br, cells, hb1, hb2, p', g, sz, j1, j2, j3, j4, j5, j6, j7, j8, j9, jr, j10⟩
  refine ⟨fun y1 => (y1.toInt = 0 ↔ y.toInt = 0 ∨ a4.toInt ≠ 0), fun y1 _ hj => mr_must (rgq_0 j5.1) (fun s2 k2 f2 => ?_), y.toInt = 0 ∨ a4.toInt ≠ 0, fun hj => ⟨fun _ => hj, fun _ => rfl⟩, fun c => Or.inl c, fun c => ⟨fun c4 => Or.inr c4, fun c4 => ⟨fun h => absurd h (by decide), fun h => h.elim (fun h => absurd h c) (fun h => absurd c4 h)⟩⟩⟩
  have ft : FTq s' s2 (y.toInt = 0 ∨ a4.toInt ≠ 0) := ft_iff f2 hj
  exact kk1 c30 s2 t' z' p' g sz br cells hb1 hb2 j1 j2 j3 (gm_k j4 (k2 0 10 rfl rfl)) (rg_ds j5 (ds_k k2 rfl rfl) f2.1) (fun hx => f2.2.2 (Or.inl (j6 (by rw [ea]; exact hx)))) (kp_tr (ke_k ka rfl rfl) (kp_tr j7 (ke_k k2 rfl rfl))) j8 (in_src ea (dd_k ka rfl rfl) (j10 _ s2 k2 ft)) (fun hb hr => ⟨bad_in j5.2.2.2.1 ft (Or.inl (by rw [(jr hb hr).1]; rfl)), (jr hb hr).2⟩)
/-- the reference: a name holds -/
theorem mr_hold {Q : St → St → List Nat → Prop} (h53 : (s 0 53).toInt = (S : Int)) (hS : S < 100) (kk : ∀ s', Kp [(0, 53)] [34, 35, 36] s s' → (s' 0 53).toInt = (S : Int) + 1 → (∀ j, s' 34 j = if j = S then a1 else s 34 j) → (∀ j, s' 35 j = if j = S then a2 else s 35 j) → (∀ j, s' 36 j = if j = S then s 0 54 else s 36 j) → Q s' t z) : pp_hold a1 a2 s t z Q := by
  unfold pp_hold
  have e : (s 0 53).toNatClampNeg = S := nat_of h53
  rw [e]
  refine fun _ _ _ => kk _ (kp_f (kp_a (kp_a (kp_a kp_rf rfl) rfl) rfl) rfl) ?_ (fun j => ?_) (fun j => ?_) (fun j => ?_)
  · rw [rdA_eq rfl, ad1 (by omega), h53]
  · rw [rdC_ne (by decide), rdC_ne (by decide), rdC_ne (by decide), rdC_eq]
  · rw [rdC_ne (by decide), rdC_ne (by decide), rdC_eq, rdC_ne (by decide)]
  · rw [rdC_ne (by decide), rdC_eq, rdC_ne (by decide), rdC_ne (by decide)]
/-- the grammar: a variable, from its [ ] and its initial -/
def bkl (kd : Nat → Int) (p : Nat) (gb : List Gsq) (giv sz : Int) : List Gsq := if kd p = 24 then gb ++ [gq (42, p, giv, sz)] else []
theorem v1_set {br : Bool} {p' : Nat} (b1 : kd p = 24 → EVq (fun N => BKn kd N p) (some (pb, gb, giv))) (b2 : kd p ≠ 24 → pb = p) (c30 : kd pb = 30) (e1 : br = true ↔ kd p = 24) (hev : EVq (fun N => INn kd vl N br ty pb) (some (p', g, sz))) : EVq (fun N => V1n kd vl N lk u ty p) (some (p', bkl kd p gb giv sz ++ [gq (43, u, (ty : Int), lk + 4)] ++ g)) := by
  unfold bkl
  by_cases c : kd p = 24
  · have : br = true := e1.2 c
    rw [if_pos c]
    rw [this] at hev
    exact ev_t c (ev_b (b1 c) (ev_t c30 (ev_b hev ev_c)))
  · have : br = false := by
      cases br with
      | true => exact absurd (e1.1 rfl) c
      | false => rfl
    rw [if_neg c]
    have ep := b2 c
    rw [this, ep] at hev
    rw [ep] at c30
    exact ev_f c (ev_t c30 (ev_b hev ev_c))
theorem v1_no (b1 : kd p = 24 → EVq (fun N => BKn kd N p) (some (pb, gb, giv))) (b2 : kd p ≠ 24 → pb = p) (c30 : kd pb ≠ 30) : EVq (fun N => V1n kd vl N lk u ty p) (some (pb, bkl kd p gb giv 0 ++ [gq (43, u, (ty : Int), lk)])) := by
  unfold bkl
  by_cases c : kd p = 24
  · rw [if_pos c]
    exact ev_t c (ev_b (b1 c) (ev_f c30 ev_c))
  · rw [if_neg c]
    have ep := b2 c
    rw [ep] at c30 ⊢
    exact ev_f c (ev_f c30 ev_c)
theorem v1_none {br : Bool} (b1 : kd p = 24 → EVq (fun N => BKn kd N p) (some (pb, gb, giv))) (b2 : kd p ≠ 24 → pb = p) (c30 : kd pb = 30) (e1 : br = true ↔ kd p = 24) (hev : EVq (fun N => INn kd vl N br ty pb) none) : EVq (fun N => V1n kd vl N lk u ty p) none := by
  by_cases c : kd p = 24
  · have : br = true := e1.2 c
    rw [this] at hev
    exact ev_t c (ev_b (b1 c) (ev_t c30 (ev_b0 hev)))
  · have : br = false := by
      cases br with
      | true => exact absurd (e1.1 rfl) c
      | false => rfl
    have ep := b2 c
    rw [this, ep] at hev
    rw [ep] at c30
    exact ev_f c (ev_t c30 (ev_b0 hev))
end SQE
