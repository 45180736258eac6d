/-! functions, whole; items of a unit -/
section EFU
variable {w s r s1 s2 s3 σ σ' σ0 σ1 τ t : St} {kd vl : Nat → Int} {n S S' m m' lo u d p : Nat} {vs z : List Nat} {a a1 a2 a3 v sig : Int32} {lk rs rr k3 : Int} {l : List (Nat × Nat)} {F0 body stc : Prop}
theorem hr_ty (h : HRq kd n s l) : Tyq l := fun x hx => by
  obtain ⟨k, hk, e⟩ := List.getElem_of_mem hx
  exact (h.2.2 k x (by rw [List.getElem?_eq_getElem hk, e])).2.1
theorem dd_53 {fs : List (Nat × Nat)} (k : Kp [(0, 49), (0, 53), (0, 54), (0, 65)] [] σ s) (e : s 0 53 = σ 0 53) : DDq σ s := by
  have k' : Kp [(0, 49), (0, 54), (0, 65)] [] σ s := fun c j h1 h2 => by
    by_cases ce : c = 0 ∧ j = 53
    · rw [ce.1, ce.2]; exact e
    · refine k c j ?_ h2
      simp only [List.contains_cons, List.contains_nil, Bool.or_false, Bool.or_eq_false_iff, beq_eq_false_iff_ne, ne_eq, Prod.mk.injEq, not_and] at h1 ⊢
      omega
  exact dd_k k' rfl rfl
theorem es_function {Q : St → St → List Nat → Prop} (h1 : a1.toInt = (u : Int)) (hu : u ≤ n) (ku : kd u = 2) (hr : a2.toInt = rs) (hr5 : -1 ≤ rs ∧ rs ≤ 5) (hst3 : a3 = 0 ∨ a3 = 1) (hl : lk = 0 ∨ lk = 1 ∨ lk = 2) (hst : lk = 1 ↔ a3.toInt ≠ 0) (hG : RGs kd vl n 0 m lo d σ) (hg : GMt σ n p)
    (kk : ∀ s t z p' m' d' g, EVq (fun N => FUn kd vl N lk rs u p) (some (p', g)) → p < p' → GMt s n p' → RGs kd vl n 0 m' lo d' s → MNq σ s → TFq τ vs t z → USq kd n m m' lo g σ s → Q s t z) (kn : EVq (fun N => FUn kd vl N lk rs u p) none → F0) : pp_function a1 a2 a3 σ τ vs Q (fun _ _ _ => F0) := by
  unfold pp_function
  refine mr_head hG.1.1 hg (fun s1 p1 l hhd hp g1 k1 hH => ?_) (fun hn => kn (fu_n hn))
  have e12 : s1 0 12 = σ 0 12 := k1 0 12 rfl rfl
  have dd1 : DDq σ s1 := dd_k k1 rfl rfl
  have hG1 : RGs kd vl n 0 m lo d s1 := by
    obtain ⟨h1, h2, h3, h4, h5⟩ := hG
    exact ⟨rgm_dd h1 dd1 (by rw [e12]; exact rgq_0 h1), by rw [k1 0 54 rfl rfl]; exact h2, by rw [k1 0 49 rfl rfl]; exact h3, by rw [k1 0 15 rfl rfl]; exact h4, fun q hq => by rw [k1 6 q rfl rfl]; exact h5 q hq⟩
  have ht := hr_ty hH
  have hl8 := hH.2.1
  have h15 : (s1 0 15).toInt = 0 := hG1.2.2.2.1
  have hm100 : m ≤ 100 := hG1.1.2.2.2.2.2.1
  refine mr_is1 hG1.1.1 g1 (c := 22) (by decide) (by decide) (fun v7 hv7 => mr_entity h1 (hG1.1.2.1 u hu ku) hG1.1.2.2.2.2.1 (fun v14 he => ⟨fun v s t z => t = τ ∧ z = vs ∧ FNf s1 s lo m u v a2 a3 (kd p1 = 22) l v14.toInt, ?_, mr_fname (J162 := fun v s t z => t = τ ∧ z = vs ∧ FNf s1 s lo m u v a2 a3 (kd p1 = 22) l v14.toInt) h1 (hG1.1.2.1 u hu ku) hG1.1.2.2.2.2.1 hm100 (rgq_0 hG1.1) hH hv7 he (fun v s hf => ⟨rfl, rfl, hf⟩)⟩))
  rintro v s162 t162 z162 ⟨et, ez, hfn⟩
  rw [et, ez]
  refine ⟨fun c7 => ?_, fun c7 => ?_⟩
  · have c22 : kd p1 = 22 := hv7.1 c7
    refine ⟨fun s t z => t = τ ∧ z = vs ∧ DFf s162 s v (kd p1 = 22), ?_, fun cv => ⟨rfl, rfl, Or.inr ⟨c22, Or.inl ⟨rfl, Or.inl cv⟩⟩⟩, fun cv _ => ?_⟩
    rotate_left
    · have ev : v.toInt = ((v.toInt.toNat : Nat) : Int) := by omega
      have en : v.toNatClampNeg = v.toInt.toNat := nat_of ev
      rw [en]
      refine ⟨fun c9 => ⟨rfl, rfl, Or.inr ⟨c22, Or.inl ⟨rfl, Or.inr ⟨v.toInt.toNat, ev, c9⟩⟩⟩⟩, fun c9 _ _ => ⟨rfl, rfl, Or.inr ⟨c22, Or.inr ⟨v.toInt.toNat, ev, c9, kp_a (kp_a kp_rf rfl) rfl, fun j => ?_, fun j hj => ?_⟩⟩⟩⟩
      · rw [rdC_ne (by decide), rdC_eq]
        rfl
      · rw [rdC_eq]
        exact (if_neg hj).trans (congrFun (rdC_ne (by decide)) j)
    rintro s209 t209 z209 ⟨et2, ez2, hdf⟩
    rw [et2, ez2]
    obtain ⟨m', hG3, e10, e64, e37, e38, hft, hgd⟩ := fn_fin hG1 hu ku (by omega) hst3 hl8 hfn hdf
    have k0 : Kp [(0, 49), (0, 53), (0, 54), (0, 65)] [] s209 (upC (upC (upC (upC s209 0 49 (0 : Int32)) 0 53 (0 : Int32)) 0 54 (1 : Int32)) 0 65 (s209 0 64)) := kp_f (kp_f (kp_f (kp_f kp_rf rfl) rfl) rfl) rfl
    have f49 : ((upC (upC (upC (upC s209 0 49 (0 : Int32)) 0 53 (0 : Int32)) 0 54 (1 : Int32)) 0 65 (s209 0 64)) 0 49).toInt = 0 := by rw [rdA_ne (by decide), rdA_ne (by decide), rdA_ne (by decide), rdA_eq rfl]; rfl
    have f53 : ((upC (upC (upC (upC s209 0 49 (0 : Int32)) 0 53 (0 : Int32)) 0 54 (1 : Int32)) 0 65 (s209 0 64)) 0 53).toInt = 0 := by rw [rdA_ne (by decide), rdA_ne (by decide), rdA_eq rfl]; rfl
    have f54 : ((upC (upC (upC (upC s209 0 49 (0 : Int32)) 0 53 (0 : Int32)) 0 54 (1 : Int32)) 0 65 (s209 0 64)) 0 54).toInt = 1 := by rw [rdA_ne (by decide), rdA_eq rfl]; rfl
    generalize upC (upC (upC (upC s209 0 49 (0 : Int32)) 0 53 (0 : Int32)) 0 54 (1 : Int32)) 0 65 (s209 0 64) = σ0 at k0 f49 f53 f54
    have e53 : σ0 0 53 = s209 0 53 := ieq (by rw [f53, hG3.1.2.2.2.1.1]; rfl)
    have dd0 : DDq s209 σ0 := dd_53 (fs := []) k0 e53
    have e012 : σ0 0 12 = s209 0 12 := k0 0 12 rfl rfl
    have hG0 : RGs kd vl n 0 m' lo 1 σ0 := by
      obtain ⟨h1, h2, h3, h4, h5⟩ := hG3
      exact ⟨rgm_dd h1 dd0 (by rw [e012]; exact rgq_0 h1), by rw [f54]; rfl, ⟨0, by rw [f49]; rfl, Nat.le_refl 0, by decide⟩, by rw [k0 0 15 rfl rfl]; exact h4, fun q hq => by rw [k0 6 q rfl rfl]; exact h5 q hq⟩
    have hH0 : HRq kd n σ0 l := by
      obtain ⟨b1, b2, b3⟩ := hH
      refine ⟨by rw [k0 0 64 rfl rfl, e64]; exact b1, b2, fun k x hx => ?_⟩
      rw [k0 37 k rfl rfl, k0 38 k rfl rfl, e37, e38]
      exact b3 k x hx
    have g0 : GMt σ0 n p1 := gm_k g1 ((k0 0 10 rfl rfl).trans e10)
    refine es_params (K := fun s t z => pp_bodyOf a2 s t z (fun s359 t359 z359 => Q s359 t359 z359) (fun _ _ _ => F0)) (res := rs) hH0 hG0 f49 (fun sP S kP hGP hmP hSl hwP => ?_)
    have gP : GMt sP n p1 := gm_k g0 (kP 0 10 rfl rfl)
    refine es_body hGP gP c22 (fun s t z p' gs b0 b1 S' hev hp' g' hG' hm' htf kb e55 e56 e57 hws hen h53 => ?_) (fun hn => kn (fu_b0 hhd c22 hn))
    have mB : MNq s209 s := fun hx => hm' (hmP (by rw [e012]; exact hx))
    refine kk s t z p' m' 1 _ (fu_b hhd c22 hev) (by omega) g' hG' (fun hx => mB (hft.2.2 (Or.inl (by rw [e12]; exact hx)))) htf ?_
    intro h0 w hR hf
    rw [List.append_assoc, List.append_assoc]
    have hE1 : REq kd n 0 m lo w s1 := re_cd hR.1 cd_rf dd1
    have n1 : (s1 0 12).toInt = 0 := by rw [e12]; exact h0
    refine gv_app (gv_d (x := (47, u, sgI l, (rs + 1) * 8 + lk + 4)) (by simp) (fun _ => da_fun (fun a b c ea eb ec => uf_step (body := kd p1 = 22) (rest := True) hE1 hf n1 h15 ea hu ku hl hr hr5 eb (Or.inr ⟨ec, c22⟩) hst3 hst hl8 ht he hfn hft hgd (fun hB sx h63 => ?_) (fun sx dx hd9 h63 n3 hE3 hfu => ?_))) (fun hx => absurd hf hx))
    · have := mB hB
      exact gv_bad h63 this (fun s' h => ⟨fun _ => this, fun hx => absurd hx h⟩)
    obtain ⟨ko, _, _, _, f26, _, _, fb, _⟩ := hfu
    obtain ⟨q66, q610, q615, q617, q45⟩ := fb c22
    have hE4 : REq kd n 0 m' lo sx σ0 := re_cd hE3 cd_rf dd0
    have hP0 : PRq kd n 0 m' lo rs sx σ0 := by
      refine ⟨hE4, by rw [ko 7 7 rfl rfl]; exact hR.2.1, ⟨by rw [q617]; rfl, by rw [f54]; rfl, fun i hi => ?_, fun j hj => absurd hj (Nat.not_lt_zero j)⟩, ⟨0, by rw [q610]; rfl, by rw [f49]; rfl, Nat.le_refl 0, by decide, fun j hj => absurd hj (Nat.not_lt_zero j)⟩, by rw [ko 8 6 rfl rfl]; exact hR.2.2.2.1, by rw [ko 9 5 rfl rfl]; exact hR.2.2.2.2, ⟨by omega, by rw [atv_at q66 hd9, f26]; exact hr⟩, q45, by rw [q610]; rfl⟩
      have : i = 0 := by omega
      rw [this, q45]
      exact ⟨by omega, by omega, fun j hj => absurd hj (Nat.not_lt_zero j)⟩
    have hw2 := hwP (by rw [e012]; exact n3) sx hP0 h63
    rw [List.take_length] at hw2
    have mP : MNq sP s := hm'
    refine gv_app (gv_mono hw2 (fun w2 hw3 => ?_) (fun hx => mP hx))
    by_cases c2 : (w2 6 3).toInt = 0
    · obtain ⟨nP, eS, hPl⟩ := hw3.2 c2
      obtain ⟨r1, r2, r3, r4, r5, r6, r7, _, _⟩ := hPl
      have ddb : DDq sP b0 := dd_k kb rfl rfl
      have hRS : RSq kd n S m' lo 1 0 0 w2 b0 := by
        rw [eS]
        refine ⟨⟨re_cd r1 cd_rf ddb, by rw [r2]; rfl, ?_, ?_, ⟨r7.1, by rw [e56, r7.2]; exact hr.symm, by rw [e55, e56]⟩, r5⟩, ⟨by rw [r6]; rfl, ⟨fun ⟨i, hi, _⟩ => absurd hi (Nat.not_lt_zero i), fun h => by omega⟩⟩⟩
        · unfold SCq at r3 ⊢
          rw [kb 0 54 rfl rfl, show b0 36 = sP 36 from funext (fun j => kb 36 j rfl rfl)]
          exact r3
        · unfold LCq at r4 ⊢
          rw [kb 0 49 rfl rfl]
          exact r4
      have eb12 : b0 0 12 = sP 0 12 := kb 0 12 rfl rfl
      have e1 : s 0 12 = b1 0 12 := hen 0 12 rfl rfl
      refine gv_app (gv_mono (hws (by rw [eb12]; exact nP) w2 hRS c2) (fun w4 hw4 => ?_) (fun hx => by rw [e1]; exact hx))
      by_cases c4 : (w4 6 3).toInt = 0
      · obtain ⟨nb1, hR4, _⟩ := hw4.2 c4
        refine gv_d (x := stp 49 u) (by simp [stp]) (fun _ => da_end (xf_end (fun w5 k5 f66 f615 => ?_))) (fun hx => absurd c4 hx)
        have e63 : (w5 6 3).toInt = 0 := by rw [k5 6 3 rfl rfl]; exact c4
        exact ⟨fun hx => absurd e63 hx, fun _ => ⟨by rw [e1]; exact nb1, re_end hR4.1.1 k5 f615 hen h53, by rw [k5 7 7 rfl rfl, hR4.1.2.1]; rfl, f66, by rw [k5 8 6 rfl rfl]; exact hR4.1.2.2.2.2.2, by rw [k5 9 5 rfl rfl, hR4.2.1]; rfl⟩⟩
      · have : (s 0 12).toInt ≠ 0 := by rw [e1]; exact hw4.1 c4
        exact gv_bad c4 this (fun s' h => ⟨fun _ => this, fun hx => absurd hx h⟩)
    · have := mP (hw3.1 c2)
      exact gv_bad c2 this (fun s' h => ⟨fun _ => this, fun hx => absurd hx h⟩)
  · have n22 : kd p1 ≠ 22 := fun h => (hv7.2 h) c7
    obtain ⟨m', hG3, e10, e64, e37, e38, hft, hgd⟩ := fn_fin hG1 hu ku (by omega) hst3 hl8 hfn (Or.inl ⟨n22, rfl⟩)
    have g3 : GMt s162 n p1 := gm_k g1 e10
    refine mr_expect hG3.1.1 g3 (c := 27) (by decide) (by decide) (fun c27 s170 k170 g170 => ?_) (fun c27 => kn (fu_0 hhd n22 c27))
    have e3 : s170 0 12 = s162 0 12 := k170 0 12 rfl rfl
    have d3 := ds_k k170 rfl rfl
    refine kk s170 τ vs (p1 + 1) m' d _ (fu_p hhd n22 c27) (by omega) g170 (rg_ds hG3 d3 (by rw [e3]; exact rgq_0 hG3.1)) (fun hx => by rw [e3]; exact hft.2.2 (Or.inl (by rw [e12]; exact hx))) tf_rf ?_
    intro h0 w hR hf
    have hE1 : REq kd n 0 m lo w s1 := re_cd hR.1 cd_rf dd1
    have n1 : (s1 0 12).toInt = 0 := by rw [e12]; exact h0
    refine gv_d (x := (47, u, sgI l, (rs + 1) * 8 + lk)) (by simp) (fun _ => da_fun (fun a b c ea eb ec => uf_step (body := kd p1 = 22) (rest := True) hE1 hf n1 h15 ea hu ku hl hr hr5 eb (Or.inl ⟨ec, n22⟩) hst3 hst hl8 ht he hfn hft hgd (fun hB sx h63 => ?_) (fun sx dx hd9 h63 n3 hE3 hfu => ?_))) (fun hx => absurd hf hx)
    · exact ⟨fun _ => by rw [e3]; exact hB, fun hx => absurd hx h63⟩
    · obtain ⟨ko, _, _, _, _, _, _, _, fnb⟩ := hfu
      obtain ⟨q66, _⟩ := fnb n22
      exact ⟨fun hx => absurd h63 hx, fun _ => ⟨by rw [e3]; exact n3, re_cd hE3 cd_rf d3.1, by rw [ko 7 7 rfl rfl]; exact hR.2.1, by rw [q66]; exact hR.2.2.1, by rw [ko 8 6 rfl rfl]; exact hR.2.2.2.1, by rw [ko 9 5 rfl rfl]; exact hR.2.2.2.2⟩⟩
end EFU
