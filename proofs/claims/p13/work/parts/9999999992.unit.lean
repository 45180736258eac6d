/-! a unit, whole: the reference -/
def S0q (lo : Nat) (σ : St) : Prop := (σ 0 53).toInt = 0 ∧ (σ 0 54).toInt = 0 ∧ (σ 0 49).toInt = 0 ∧ (σ 0 15).toInt = 0 ∧ (σ 0 12).toInt = 0 ∧ (σ 0 37).toInt = 0 ∧ EOKm σ lo lo ∧ (∀ j, 0 ≤ (σ 31 j).toInt ∧ (σ 31 j).toInt ≤ 10) ∧ (∀ j, -2 ≤ (σ 10 j).toInt ∧ (σ 10 j).toInt ≤ 10) ∧ ∀ j, -1 ≤ (σ 35 j).toInt
/-- the class's walk over g, and its end, leave the like of the reference's answer v -/
def UNw (kd : Nat → Int) (n lo : Nat) (g : List Gsq) (σ1 : St) (v : Int32) (s : St) : Prop := ∀ w, URq kd n 0 lo w σ1 → (w 6 3).toInt = 0 → GWq g w (fun r => pk_X11_finish r (fun r' => ((r' 6 3).toInt ≠ 0 → v.toInt ≠ 0) ∧ ((r' 6 3).toInt = 0 → v.toInt = 0 ∧ ∃ m, URq kd n m lo r' s))) (v.toInt ≠ 0)
/-- what holds before an item -/
def UIv (kd vl : Nat → Int) (n lo : Nat) (σ s : St) : Prop := ∃ (p m d : Nat) (g : List Gsq), GMt s n p ∧ RGs kd vl n 0 m lo d s ∧ USq kd n 0 m lo g σ s ∧ ∀ R, EVq (fun N => UNn kd vl N p) R → EVq (fun N => UNn kd vl N 0) (R.map (fun l => g ++ l))
/-- what reading leaves, told by the text alone -/
def RDq (f : Nat → Int32) (N : Int) (lo : Nat) (σ : St) (v : Int32) (s : St) : Prop := ∃ (kd vl : Nat → Int) (n : Nat) (L : List (Int32 × Int32 × Int)) (q : Int) (c : Int32) (σ1 : St), RCHq (byt f N) (0, []) (q, L) ∧ FINq (byt f N) q c ∧ TKLq L c kd vl n ∧ FMq σ1 L c ∧ Kp [(0, 8), (0, 10)] [2, 3, 4, 5, 6] σ σ1 ∧ ((v = -21 ∧ EVq (fun N => UNn kd vl N 0) none) ∨ ∃ g, EVq (fun N => UNn kd vl N 0) (some g) ∧ UNw kd n lo g σ1 v s)
section UNI
variable {w r r' s σ σ' τ t : St} {kd vl : Nat → Int} {n m lo p d : Nat} {vs z : List Nat} {g : List Gsq} {N : Int} {f : Nat → Int32} {v x : Int32}
theorem neg20 (h : 0 ≤ x.toInt) : ((-20 : Int32) - x).toInt ≠ 0 := by
  obtain ⟨k, e⟩ := s_sub (-20 : Int32) x
  have := s_rng x
  have e2 : (-20 : Int32).toInt = -20 := by decide
  omega
theorem xf_finish_bad {Q : St → Prop} (c : (w 6 3).toInt ≠ 0) (q : Q w) : pk_X11_finish w Q := by
  unfold pk_X11_finish pk_X11_fail
  exact ⟨fun _ _ => True, trivial, fun x1 x2 _ => ⟨fun _ => ⟨fun _ => q, fun _ => ⟨fun _ => q, fun h => absurd h c⟩⟩, fun _ => xl_is (fun v _ _ => ⟨fun _ => True, fun y _ _ => ⟨fun _ => True, fun _ _ => trivial, fun _ => trivial, fun _ => ⟨fun _ => trivial, fun _ => ⟨True, fun _ => trivial, fun _ => trivial, fun _ => ⟨fun _ => trivial, fun _ => trivial⟩⟩⟩⟩, True, fun _ => trivial, fun _ => trivial, fun _ => xl_is (fun _ _ _ => ⟨fun _ => trivial, fun _ => trivial⟩)⟩)⟩⟩
theorem ur_k (h : URq kd n m lo r s) (k : Kp [(6, 3), (6, 4)] [] r r') (dd : DDq s σ) : URq kd n m lo r' σ := by
  obtain ⟨h1, h2, h3, h4, h5⟩ := h
  exact ⟨re_cd h1 (cd_ko (fs := [(6, 3), (6, 4)]) (cs := []) (fun c j _ a b => k c j a b) rfl rfl) dd, by rw [k 7 7 rfl rfl]; exact h2, by rw [k 6 6 rfl rfl]; exact h3, by rw [k 8 6 rfl rfl]; exact h4, by rw [k 9 5 rfl rfl]; exact h5⟩
theorem ui_end (hG : RGs kd vl n 0 m lo d s) (hu : USq kd n 0 m lo g σ s) (h12 : (σ 0 12).toInt = 0) {s2 s' : St} (k2 : KFr s s2) (f2 : (s2 0 12).toInt ≠ 0 ↔ (s 0 12).toInt ≠ 0 ∨ ∃ i, i < m ∧ NBp s lo i) (k' : Kp [(0, 14)] [] s2 s') (hv : v.toInt ≠ 0 ↔ (s2 0 12).toInt ≠ 0) : UNw kd n lo g σ v s' := by
  intro w hW hw
  refine gv_mono (hu h12 w hW hw) (fun r hr => ?_) (fun hB => hv.2 (f2.2 (Or.inl hB)))
  by_cases c : (r 6 3).toInt = 0
  · obtain ⟨b1, b2⟩ := hr.2 c
    have hO := b2.1.2.2.1
    have hle := hO.2.2.2.2.1.2.2.2.1
    have e51 := hO.2.2.2.1.1
    have hm1 := hO.2.1
    refine xf_finish hO.1 hm1 ⟨hO.2.2.1, by omega⟩ (fun r' kr hf => ⟨fun hx => ?_, fun hx => ?_⟩)
    · refine hv.2 (f2.2 ((hf.1 hx).elim (fun h => absurd c h) (fun h => ?_)))
      obtain ⟨i, hi, hb⟩ := h
      exact Or.inr ⟨i, hi, (nb_eq (hO.2.2.2.2.2 i hi)).1 hb⟩
    · have h2 : (s2 0 12).toInt = 0 := Classical.byContradiction (fun hc => by
        rcases f2.1 hc with h | ⟨i, hi, hb⟩
        · exact h b1
        · exact (hf.2 (Or.inr ⟨i, hi, (nb_eq (hO.2.2.2.2.2 i hi)).2 hb⟩)) hx)
      exact ⟨Classical.byContradiction (fun hc => (hv.1 hc) h2), m, ur_k b2 kr (dd_tr (dd_k k2 rfl rfl) (dd_k k' rfl rfl))⟩
  · have hB := hr.1 c
    exact xf_finish_bad c ⟨fun _ => hv.2 (f2.2 (Or.inl hB)), fun hx => absurd hx c⟩
theorem es_unit {Q : Int32 → St → St → List Nat → Prop} (hG : RGs kd vl n 0 0 lo 0 σ) (hg : GMt σ n 0) (h12 : (σ 0 12).toInt = 0) (kk : ∀ v s t z g, EVq (fun N => UNn kd vl N 0) (some g) → UNw kd n lo g σ v s → Q v s t z) (kn : EVq (fun N => UNn kd vl N 0) none → ∀ s t z, Q (-21) s t z) : ∃ L9 : St → St → List Nat → Prop, (L9 σ τ vs) ∧ ∀ (s9 t9 : St) (z9 : List Nat), L9 s9 t9 z9 → ((0 ≤ (s9 0 10).toInt ∧ (s9 0 10).toInt < 16002) → (((s9 2 (s9 0 10).toNatClampNeg).toInt = 0 → (pp_bodiless s9 t9 z9 (fun s54 t54 z54 => ((s54 0 12).toInt ≠ 0 → (Q (((-20) : Int32) - (s54 0 12)) (upC s54 0 14 (s54 0 13)) t54 z54)) ∧ ((s54 0 12).toInt = 0 → (Q (0 : Int32) s54 t54 z54))))) ∧ ((s9 2 (s9 0 10).toNatClampNeg).toInt ≠ 0 → ((0 ≤ (s9 0 10).toInt ∧ (s9 0 10).toInt < 16002) → (((s9 2 (s9 0 10).toNatClampNeg).toInt ≠ 1 → (pp_item s9 t9 z9 (fun s40 t40 z40 => L9 s40 t40 z40) (fun s40x t40x z40x => Q ((-21) : Int32) s40x t40x z40x))) ∧ ((s9 2 (s9 0 10).toNatClampNeg).toInt = 1 → (pp_wrong s9 t9 z9 (fun s35 t35 z35 => Q ((-21) : Int32) s35 t35 z35)))))))) := by
  refine ⟨fun s _ _ => UIv kd vl n lo σ s, ⟨0, 0, 0, [], hg, hG, us_nil dd_rf rfl, fun R h => by cases R <;> exact h⟩, ?_⟩
  rintro s t z ⟨p, m, d, g, g1, hG1, hu, hR⟩
  have en : (s 0 10).toNatClampNeg = p := nat_of g1.1
  have r0 : (s 2 p).toInt = 0 ↔ kd p = 0 := rk_to hG1.1.1 g1.2 0 (by decide) (j := 0) (by decide)
  have r1 : (s 2 p).toInt = 1 ↔ kd p = 1 := rk_to hG1.1.1 g1.2 1 (by decide) (j := 1) (by decide)
  rw [en]
  refine fun _ => ⟨fun c0 => ?_, fun n0 _ => ⟨fun n1 => ?_, fun c1 => ?_⟩⟩
  · have k0 := r0.1 c0
    have hev : EVq (fun N => UNn kd vl N 0) (some g) := by
      have := hR (some []) (un_e k0)
      have e : (some [] : Option (List Gsq)).map (fun l => g ++ l) = some g := congrArg some (List.append_nil g)
      rw [e] at this
      exact this
    refine mr_bodiless hG1.1.2.2.2.2.1 hG1.1.2.2.2.2.2.1 (rgq_0 hG1.1) hG1.2.2.2.1 (fun s2 k2 f2 h0 => ⟨fun hx => ?_, fun hx => ?_⟩)
    · exact kk _ _ t z g hev (ui_end hG1 hu h12 k2 f2 (kp_f kp_rf rfl) ⟨fun _ => hx, fun _ => neg20 h0⟩)
    · exact kk 0 s2 t z g hev (ui_end hG1 hu h12 k2 f2 kp_rf ⟨fun h => absurd rfl h, fun h => absurd hx h⟩)
  · have k0 : kd p ≠ 0 := fun h => n0 (r0.2 h)
    have h := es_item (τ := t) (vs := z) (F0 := EVq (fun N => UNn kd vl N 0) none) (Q := fun s _ _ => UIv kd vl n lo σ s) hG1 g1 (fun s2 t2 z2 p' m' d' g' hev hp g2 hG2 hm htf hw => ⟨p', m', d', g ++ g', g2, hG2, us_app hu hw hm, fun R hR' => ?_⟩) (fun hn => hR none (un_0 k0 hn))
    · exact cj_wp_item (fun _ _ _ a _ => a) (fun s t z a _ => kn a s t z) h h
    · cases R with
      | none => exact hR none (un_1 k0 hev hR')
      | some gl =>
        have := hR _ (un_s k0 hev hR')
        show EVq (fun N => UNn kd vl N 0) (some ((g ++ g') ++ gl))
        rw [List.append_assoc]
        exact this
  · have k1 := r1.1 c1
    have e0 : lkq (kd p) = 0 := by rw [k1]; rfl
    unfold pp_wrong pp_wrongAt
    exact fun _ => kn (hR none (un_0 (by omega) (by rw [if_pos e0]; exact i1_0 (by omega) (by omega)))) _ _ _
theorem s0_k (k : Kp [(0, 8), (0, 10)] [2, 3, 4, 5, 6] σ s) (h : S0q lo σ) : S0q lo s := by
  have a : ∀ c, c ≠ 0 → ¬ (2 ≤ c ∧ c ≤ 6) → s c = σ c := fun c c0 c2 => funext (fun j => k c j (by
    simp only [List.contains_cons, List.contains_nil, Bool.or_false, Bool.or_eq_false_iff, beq_eq_false_iff_ne, ne_eq, Prod.mk.injEq, not_and]
    omega) (by
    simp only [List.contains_cons, List.contains_nil, Bool.or_false, Bool.or_eq_false_iff, beq_eq_false_iff_ne, ne_eq]
    omega))
  obtain ⟨h1, h2, h3, h4, h5, h6, h7, h8, h9, ha⟩ := h
  refine ⟨by rw [k 0 53 rfl rfl]; exact h1, by rw [k 0 54 rfl rfl]; exact h2, by rw [k 0 49 rfl rfl]; exact h3, by rw [k 0 15 rfl rfl]; exact h4, by rw [k 0 12 rfl rfl]; exact h5, by rw [k 0 37 rfl rfl]; exact h6, ?_, by rw [a 31 (by decide) (by decide)]; exact h8, by rw [a 10 (by decide) (by decide)]; exact h9, by rw [a 35 (by decide) (by decide)]; exact ha⟩
  unfold EOKm at h7 ⊢
  rw [a 22 (by decide) (by decide), a 18 (by decide) (by decide), a 19 (by decide) (by decide), k 0 35 rfl rfl, k 0 36 rfl rfl, k 0 31 rfl rfl]
  exact h7
theorem es_read {Q : Int32 → St → St → List Nat → Prop} (hf : σ 1 = f) (hB : ∀ j, -128 ≤ (f j).toInt ∧ (f j).toInt ≤ 127) (hN : (σ 0 9).toInt = N) (h0 : 0 ≤ N) (h16 : N ≤ 16000) (hS : S0q lo σ) (kk : ∀ v s t z, RDq f N lo σ v s → Q v s t z) : pp_read_0 σ τ vs Q := by
  unfold pp_read_0
  refine pm_cut hf hB hN h0 h16 (fun s L q c ks hr hfin hM => ?_)
  have k1 : Kp [(0, 8), (0, 10)] [2, 3, 4, 5, 6] σ (upC s 0 10 (0 : Int32)) := kp_f (kp_sub ks rfl rfl) rfl
  have hM1 : FMq (upC s 0 10 (0 : Int32)) L c := by
    obtain ⟨m1, m2, m3⟩ := hM
    refine ⟨by rw [rdA_ne (by decide)]; exact m1, fun j k v q hj => ?_, by rw [rdC_ne (by decide)]; exact m3⟩
    rw [rdC_ne (by decide), rdC_ne (by decide), rdC_ne (by decide), rdC_ne (by decide)]
    exact m2 j k v q hj
  have e10 : ((upC s 0 10 (0 : Int32)) 0 10).toInt = 0 := by rw [rdA_eq rfl]; rfl
  generalize upC s 0 10 (0 : Int32) = σ1 at k1 hM1 e10
  have hT : TKLq L c (kdL L c) (fun p => (σ1 6 p).toInt) L.length := tl_kd (fun j k v q hj h4 => by
    show (σ1 6 j).toInt = v.toInt
    rw [(hM1.2.1 j k v q hj).2.2.2 (Or.inr h4)])
  obtain ⟨r1, r2, r3⟩ := tl_ref ⟨h0, h16⟩ hr hfin hM1 hT
  obtain ⟨z1, z2, z3, z4, z5, z6, z7, z8, z9, za⟩ := s0_k k1 hS
  have hG : RGs (kdL L c) (fun p => (σ1 6 p).toInt) L.length 0 0 lo 0 σ1 := by
    refine ⟨⟨r1, r2, fun p hp h4 => ?_, ⟨z1, by decide, fun j hj => absurd hj (Nat.not_lt_zero j)⟩, z7, by decide, ⟨z8, fun j hj => absurd hj (Nat.not_lt_zero j)⟩, z9, za, fun e h1 h2 => absurd h2 (Nat.not_lt.mpr h1), ⟨0, z6, by decide⟩, by rw [z5]; exact Int.le_refl _⟩, z2, ⟨0, z3, Nat.le_refl _, by decide⟩, z4, fun p _ => rfl⟩
    have := r3 p hp h4
    omega
  exact es_unit hG ⟨e10, Nat.zero_le _⟩ z5 (fun v s t z g hev hu => kk v s t z ⟨_, _, _, L, q, c, σ1, hr, hfin, hT, hM1, k1, Or.inr ⟨g, hev, hu⟩⟩) (fun hn s t z => kk _ s t z ⟨_, _, _, L, q, c, σ1, hr, hfin, hT, hM1, k1, Or.inl ⟨rfl, hn⟩⟩)
/-- the class as the walk begins -/
theorem ur_start (hT : TKR w σ kd n) (hS : S0q lo σ) (c615 : (w 6 15).toInt = 0) (c67 : (w 6 7).toInt = 0) (c51 : (w 5 1).toInt = (lo : Int) + 4) (c57 : (w 5 7).toInt = (σ 0 31).toInt + 15) (c65 : (w 6 5).toInt = 0) (c77 : (w 7 7).toInt = 0) (c66 : (w 6 6).toInt = -1) (c86 : (w 8 6).toInt = -1) (c95 : (w 9 5).toInt = 0) : URq kd n 0 lo w σ := by
  obtain ⟨z1, z2, z3, z4, z5, z6, z7, z8, z9, za⟩ := hS
  exact ⟨⟨hT, ⟨c615, z1, by decide, fun j hj => absurd hj (Nat.not_lt_zero j), fun j hj => absurd hj (Nat.not_lt_zero j)⟩, ⟨c67, by decide, by omega, ⟨by omega, c57⟩, z7, fun i hi => absurd hi (Nat.not_lt_zero i)⟩, ⟨0, c65, z6, by decide⟩, ⟨fun j hj => absurd hj (Nat.not_lt_zero j), fun i hi => absurd hi (Nat.not_lt_zero i)⟩⟩, c77, c66, c86, c95⟩
end UNI
