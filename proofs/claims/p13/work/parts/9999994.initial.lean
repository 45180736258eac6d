/-! initials: both sides -/
/-- a string that stands alone, as an expression -/
theorem ex_alone {kd : Nat → Int} {p : Nat} (h : ALq kd p) : EVq (fun N => EXn kd N p) (some (p + 1, gqs [stp 2 p])) := by
  obtain ⟨h4, h5⟩ := h
  have l0 : lvq (kd (p + 1)) = 0 := by
    unfold lvq
    rw [if_neg (by omega)]
  refine ex_ev (pv_e1 (pv_c1 (pv_l1 (pv_b1 (by omega) (by omega) (pv_p4 h4) (pv_h5 (by omega))) (pv_l2 ?_)) ?_) ?_)
  · rw [l0]; decide
  · omega
  · omega
/-- the class: an array, and an expression behind the = -/
theorem xi_init0b {w : St} {a b : Int32} {Q : St → Prop} (hb : b.toInt = 0) (h12 : (w 8 12).toInt ≠ -1) (kk : ∀ s, (s 6 3).toInt ≠ 0 → Q s) : pk_X1_initial a b w Q := by
  unfold pk_X1_initial
  refine ⟨fun s => (s 8 16).toInt ≠ 0, fun s hs => ⟨True, fun _ => xl_fail (by decide) (fun s2 _ h2 => kk s2 h2), fun _ => trivial, fun c => absurd c hs⟩, fun _ => ⟨fun c => absurd hb c, fun _ => ?_⟩, fun c => absurd (hb.symm.trans c) (by decide)⟩
  refine fr_pk_X2_pop (w := w) fr_rf (fun u s hu hf => ?_)
  have e8 : s 8 = w 8 := hf 8 (by unfold FRw; decide)
  refine ⟨fun y => y.toInt ≠ 0, fun y _ hy => ⟨fun _ => xi_put (fun s2 k2 => ?_), fun _ => xi_store (fun s2 k2 => ?_)⟩, True, fun _ => by decide, fun _ => trivial, fun c => absurd c (by rw [e8]; exact h12)⟩
  · show (s2 8 16).toInt ≠ 0; rw [k2 8 16 rfl rfl, rdA_eq rfl]; exact hy
  · show (s2 8 16).toInt ≠ 0; rw [k2 8 16 rfl rfl, rdA_eq rfl]; exact hy
theorem xw_fr {w : St} {B : Prop} (hB : B) : ∀ {l : List Stq} {s : St}, FRs w s → XW l s (fun r => FRs w r) B
  | [], _, h => h
  | _ :: _, _, h => ⟨fun _ _ _ _ _ => fr_pk_X2_take h (fun _ h2 => xw_fr hB h2), fun _ => hB⟩
theorem gv_arr {w : St} {l : List Stq} {q : Nat} {Q : St → Prop} {B : Prop} (hact : ∀ y, y ∈ l → 1 ≤ y.1 ∧ y.1 ≤ 16) (h12 : (w 8 12).toInt ≠ -1) (hB : B) (hq : ∀ s, (s 6 3).toInt ≠ 0 → Q s) : GWq (gqs l ++ [gq (stp 46 q)]) w Q B :=
  gv_app (gv_x hact (xw_mono (xw_fr hB fr_rf) (fun s hs => gv_d (x := stp 46 q) (by simp [stp]) (fun _ => da_init (p := q) (k := 0) (fun a b _ eb => xi_init0b eb (by rw [hs 8 (by unfold FRw; decide)]; exact h12) hq)) (fun _ => hB)) id))
/-- behind an initial: both sides alike, or both bad -/
def INq (kd : Nat → Int) (n S m lo : Nat) (loc br row ext : Prop) (ty cells : Int) (g : List Gsq) (σ σ' : St) : Prop :=
  (σ 0 12).toInt = 0 → ∀ w, REq kd n S m lo w σ → (w 6 3).toInt = 0 → (w 7 7).toInt = 0 → (w 8 11).toInt = ty → ((w 8 9).toInt ≠ 0 ↔ loc) → (w 8 15).toInt = 0 → (w 8 16).toInt = 0 → ((w 8 12).toInt ≠ -1 ↔ br) → (br ∧ row → (w 8 12).toInt = cells) → ((w 8 13).toInt ≠ 0 ↔ ext) → GWq g w (fun s => ((s 6 3).toInt ≠ 0 → (σ' 0 12).toInt ≠ 0) ∧ ((s 6 3).toInt = 0 → (σ' 0 12).toInt = 0 ∧ REq kd n S m lo s σ' ∧ (s 7 7).toInt = 0 ∧ STv w s)) ((σ' 0 12).toInt ≠ 0)
/-- the size that stands behind a [ ] = -/
def TLq (kd vl : Nat → Int) (br : Bool) (p : Nat) (sz : Int) : Prop := (kd (p + 1) = 22 → ∃ q g cnt, EVq (fun N => ITn kd N (p + 2)) (some (q, g, cnt)) ∧ sz = (cnt : Int) ∧ 1 ≤ cnt) ∧ (br = true ∧ ALq kd (p + 1) → sz = vl (p + 1) + 1) ∧ (kd (p + 1) ≠ 22 → ¬ (br = true ∧ ALq kd (p + 1)) → sz = 0)
/-- it faults wherever an array is filled -/
def ARq (g : List Gsq) : Prop := ∀ (w : St) (Q : St → Prop) (B : Prop), (w 8 12).toInt ≠ -1 → B → (∀ s, (s 6 3).toInt ≠ 0 → Q s) → GWq g w Q B
/-- what an initial leaves: p its = -/
def IPq (kd vl : Nat → Int) (n S m lo d : Nat) (br : Bool) (ty : Nat) (loc : Prop) (cells : Int) (p : Nat) (σ τ : St) (vs : List Nat) (v : Int32) (s t : St) (z : List Nat) : Prop :=
  ∃ (p' : Nat) (g : List Gsq) (sz : Int), EVq (fun N => INn kd vl N br ty p) (some (p', g, sz)) ∧ TLq kd vl br p sz ∧ p + 1 < p' ∧ GMt s n p' ∧ RGs kd vl n S m lo d s ∧ MNq σ s ∧ KEr σ s ∧ TFq τ vs t z ∧ (v = 0 ∨ v = 1) ∧ (br = true → ¬ (kd (p + 1) = 22 ∨ ALq kd (p + 1)) → v = 0 ∧ ARq g) ∧ ∀ (ext : Prop) (s2 : St), Kp [(0, 12), (0, 13)] [] s s2 → FTq s s2 (v.toInt = 0 ∨ ext) → INq kd n S m lo loc (br = true) (kd (p + 1) = 22 ∨ ALq kd (p + 1)) ext (ty : Int) cells g σ s2
section INI
variable {w s r s8 s9 σ σ' σ1 τ t : St} {kd vl : Nat → Int} {n S m lo d cnt p q pc p1 ty : Nat} {vs z : List Nat} {loc ok : Prop} {gc : List Gsq} {a1 a2 a3 a4 : Int32} {F0 : Prop} {K T H Z F : Int} {X : Int32} {l : List Stq}
theorem tl_it (c22 : kd (p + 1) = 22) (h : EVq (fun N => ITn kd N (p + 2)) (some (q, gc, cnt))) (h1 : 1 ≤ cnt) {br : Bool} : TLq kd vl br p (cnt : Int) :=
  ⟨fun _ => ⟨q, gc, cnt, h, rfl, h1⟩, fun h => absurd h.2.1 (by omega), fun h => absurd c22 h⟩
theorem tl_al {br : Bool} (hb : br = true) (ha : ALq kd (p + 1)) : TLq kd vl br p (vl (p + 1) + 1) := ⟨fun h => absurd ha.1 (by omega), fun _ => rfl, fun _ h => absurd ⟨hb, ha⟩ h⟩
theorem tl_no {br : Bool} (c22 : kd (p + 1) ≠ 22) (ha : ¬ (br = true ∧ ALq kd (p + 1))) : TLq kd vl br p 0 := ⟨fun h => absurd h c22, fun h => absurd h ha, fun _ _ => rfl⟩
theorem bad_in (h15 : (s 0 15).toInt = 0) {A : Prop} (f : FTq s s9 A) (h : A) : (s9 0 12).toInt ≠ 0 := f.2.2 (Or.inr ⟨h, by omega⟩)
theorem mn_ft {A : Prop} (hm : MNq σ s) (f : FTq s s9 A) : MNq σ s9 := fun hx => f.2.2 (Or.inl (hm hx))
/-- both sides at the end of an initial -/
theorem in_end {A : Prop} {bad : Prop} {ext : Prop} (c0 : (s 0 12).toInt = 0) (h15 : (s 0 15).toInt = 0) (k : Kp [(0, 12), (0, 13)] [] s s9) (f : FTq s s9 A) (hR : REq kd n S m lo r s) (kr : STv w r) {r2 : St} (ks : STi r r2) (e7 : (r2 7 7).toInt = 0) (e6 : (r2 6 3).toInt ≠ 0 ↔ A) : ((r2 6 3).toInt ≠ 0 → (s9 0 12).toInt ≠ 0) ∧ ((r2 6 3).toInt = 0 → (s9 0 12).toInt = 0 ∧ REq kd n S m lo r2 s9 ∧ (r2 7 7).toInt = 0 ∧ STv w r2) :=
  ⟨fun h => bad_in h15 f (e6.1 h), fun h => ⟨Decidable.byContradiction (fun hn => (f.2.1 hn).elim (fun h2 => h2 c0) (fun h2 => (e6.2 h2.1) h)), re_cd hR (cd_ko ks rfl rfl) (dd_k k rfl rfl), e7, stk_tr kr (stk_i ks)⟩⟩
/-- one initial, no array -/
theorem es_oneInitial {Q : Int32 → St → St → List Nat → Prop} (h1 : a1.toInt = (ty : Int)) (h3 : a3.toInt ≠ 0 ↔ loc) (hG : RGs kd vl n S m lo d σ) (hg : GMt σ n (p + 1)) (kk : ∀ v s t z, IPq kd vl n S m lo d false ty loc 0 p σ τ vs v s t z → Q v s t z) (kn : EVq (fun N => INn kd vl N false ty p) none → F0) : pp_oneInitial a1 a2 a3 σ τ vs Q (fun _ _ _ => F0) := by
  unfold pp_oneInitial
  have h15 : (σ 0 15).toInt = 0 := hG.2.2.2.1
  have nb : ∀ P : Prop, ¬ ((false : Bool) = true ∧ P) := fun P h => by cases h.1
  refine mr_is1 hG.1.1 hg (c := 22) (by decide) (by decide) (fun v3 hv3 => ⟨fun c => ?_, fun c => ?_⟩)
  · have k22 : kd (p + 1) ≠ 22 := fun h => (hv3.2 h) c
    have hy : ∀ (y2 : Int32), pp_one_1 a1 y2 a2 a3 σ τ vs (fun v43 s43 t43 z43 => Q v43 s43 t43 z43) (fun _ _ _ => F0) := fun y2 => by
      have fin : ∀ (v : Int32) s t z p' l s8 K T H Z F X, EVq (fun N => EXn kd N (p + 1)) (some (p', gqs l)) → p + 1 < p' → GMt s n p' → RGs kd vl n S m lo d s → MNq σ s → TFq τ vs t z → (∀ y, y ∈ l → 1 ≤ y.1 ∧ y.1 ≤ 16) → KEr σ s8 → VRq K T H Z F → EXq kd n S m lo 0 l σ s8 K T H Z F X → Kp [(0, 17), (0, 39)] [8, 25] s8 s → (v = 0 ∨ v = 1) → (v.toInt ≠ 0 ↔ FIm loc (ty : Int) T Z F) → Q v s t z := fun v s t z p' l s8 K T H Z F X hev hp g1 hG1 hm htf hact hr hvr hex k8 hv1 hv2 => by
        refine kk v s t z ⟨p', gqs l ++ [gq (stp 46 p)], 0, ev_f k22 (ev_f (fun h => by cases h.1) (ev_b hev (by rw [if_neg (nb _)]; exact ev_c))), tl_no k22 (nb _), hp, g1, hG1, hm, kp_tr hr (ke_k k8 rfl rfl), htf, hv1, fun h => absurd h (by decide), fun ext s2 k2 f2 => ?_⟩
        intro h0 w hR hf h77 h11 h9 h15w h16 hbr hrow hext
        have e8 : s 0 12 = s8 0 12 := k8 0 12 rfl rfl
        have hB : MNq s8 s2 := fun hx => f2.2.2 (Or.inl (by rw [e8]; exact hx))
        have s15 : (s 0 15).toInt = 0 := hG1.2.2.2.1
        refine gv_app (gv_x hact (xw_mono (hex h0 w hR hf h77) (fun r hr2 => ?_) (fun hx => hB (bd_0 h15 hx))))
        by_cases c1 : (r 6 3).toInt = 0
        · obtain ⟨g1', g2, g3, g4, g5, g6, i, g7⟩ := hr2.2 c1
          have k1 : STv w r := stk_e g5
          have f11 : r 8 11 = w 8 11 := k1 8 11 (op_lt (by decide)) rfl rfl
          have f9 : r 8 9 = w 8 9 := k1 8 9 (op_lt (by decide)) rfl rfl
          have f12 : r 8 12 = w 8 12 := k1 8 12 (op_lt (by decide)) rfl rfl
          have f13 : r 8 13 = w 8 13 := k1 8 13 (op_lt (by decide)) rfl rfl
          have su : SUq r T Z F ↔ FIm loc (ty : Int) T Z F := su_fits hvr g2 (by rw [f11]; exact h11) (by omega) (by rw [f9]; exact h9)
          have n12 : (w 8 12).toInt = -1 := Decidable.byContradiction (fun hx => by cases hbr.1 hx)
          refine gv_d (x := stp 46 p) (by simp [stp]) (fun _ => da_init (p := p) (k := 0) (fun a b _ eb => xi_init0 eb c1 (by rw [g6]; rfl) g7 hvr.1 (fun s3 ks e7 e6 => ?_))) (fun hx => absurd c1 hx)
          refine in_end (A := v.toInt = 0 ∨ ext) (bad := True) (ext := True) (by rw [e8]; exact g1') s15 k2 f2 (re_cd g4 cd_rf (dd_k k8 rfl rfl)) k1 ks e7 ?_
          rw [e6, f12, f13, su, hext, ← hv2]
          constructor
          · rintro (h | h)
            · exact Or.inl (Decidable.byContradiction (fun hx => h ⟨n12, hx⟩))
            · exact Or.inr h
          · rintro (h | h)
            · exact Or.inl (fun hx => hx.2 h)
            · exact Or.inr h
        · have := hB (bd_0 h15 (hr2.1 c1))
          exact gv_bad c1 this (fun s' h => ⟨fun _ => this, fun hx => absurd hx h⟩)
      by_cases c5 : a3.toInt = 0
      · have nl : ¬ loc := fun h => (h3.2 h) c5
        refine es_oneg c5 hG hg (fun v s t z p' l s8 K T H Z F X hev hp g9 hG9 hm h57 htf hact hr hvr hex k8 hv1 hv2 => fin v s t z p' l s8 K T H Z F X hev hp g9 hG9 hm htf hact hr hvr hex k8 hv1 ?_) (fun hn => kn (ev_f k22 (ev_f (fun h => by cases h.1) (ev_b0 hn))))
        rw [hv2, h1]
        exact ⟨fun h => Or.inr ⟨nl, h⟩, fun h => h.elim (fun h => absurd h.1 nl) (fun h => h.2)⟩
      · have hl : loc := h3.1 c5
        refine es_one c5 hG hg (fun v s t z p' l s8 K T H Z F X hev hp g9 hG9 hm h57 htf hact hr hvr hex k8 hv1 hv2 => fin v s t z p' l s8 K T H Z F X hev hp g9 hG9 hm htf hact hr hvr hex (kp_sub k8 rfl rfl) ?_ ?_) (fun hn => kn (ev_f k22 (ev_f (fun h => by cases h.1) (ev_b0 hn))))
        · exact hv1.imp (fun h => ieq (by rw [h]; rfl)) (fun h => ieq (by rw [h]; rfl))
        · rw [h1] at hv2
          constructor
          · intro h
            exact Or.inl ⟨hl, hv2.1 (hv1.elim (fun e => absurd e h) id)⟩
          · intro h
            have := hv2.2 (h.elim (fun h => h.2) (fun h => absurd hl h.1))
            omega
    exact ⟨fun _ => True, fun y2 _ => hy y2, True, fun _ => trivial, fun _ => trivial, fun _ => ⟨fun _ _ => trivial, fun _ => trivial⟩⟩
  · have k22 : kd (p + 1) = 22 := hv3.1 c
    refine es_braces (loc := loc) k22 rfl h3 (by omega) hG hg (fun v s t z p' gc cnt ok hit hp g1 hG1 hm hke htf hc1 hir hv1 hv2 => ?_) (fun hn => kn (ev_t k22 (ev_b0 hn)))
    refine kk 0 s t z ⟨p', gc ++ [gq (46, p, 1, 0)], (cnt : Int), ev_t k22 (ev_b hit ev_c), tl_it k22 hit hc1, by omega, g1, hG1, hm, hke, htf, Or.inl rfl, fun h => absurd h (by decide), fun ext s2 k2 f2 => ?_⟩
    intro h0 w hR hf h77 h11 h9 h15w h16 hbr hrow hext
    have hB : (s2 0 12).toInt ≠ 0 := bad_in hG1.2.2.2.1 f2 (Or.inl rfl)
    have n12 : (w 8 12).toInt = -1 := Decidable.byContradiction (fun hx => by cases hbr.1 hx)
    refine gv_app (gv_mono (hir h0 w hR hf h77 (by rw [h1]; exact h11) h9 h15w h16) (fun r hr => ?_) (fun _ => hB))
    by_cases c1 : (r 6 3).toInt = 0
    · obtain ⟨_, _, _, g4, _, _⟩ := hr.2 c1
      refine gv_d (x := (46, p, 1, 0)) (by simp) (fun _ => da_init (fun a b _ eb => xi_init1 eb c1 (fun s3 ks e7 e6 => ⟨fun _ => hB, fun hx => absurd hx (e6.2 (Or.inl (Or.inr ?_)))⟩))) (fun hx => absurd c1 hx)
      rw [g4 8 12 (op_lt (by decide)) rfl rfl]
      exact n12
    · exact gv_bad c1 hB (fun s' h => ⟨fun _ => hB, fun hx => absurd hx h⟩)
end INI
