/-! the reference's statements: lists, loops, returns -/
/-- a loop behind its word -/
def LWr (kd vl : Nat → Int) (n m lo d p : Nat) (f : St → St → List Nat → (St → St → List Nat → Prop) → (St → St → List Nat → Prop) → Prop) : Prop :=
  ∀ (S : Nat) (σ τ : St) (vs : List Nat) (Q : St → St → List Nat → Prop) (F : Prop), RGs kd vl n S m lo d σ → GMt σ n p → (0 ≤ (σ 0 57).toInt ∧ (σ 0 57).toInt < (d : Int)) →
  (∀ s t z p' S' gb σ1 σ2, EVq (fun N => STn kd vl N 2 d p) (some (p', gb)) → p < p' → GMt s n p' → RGs kd vl n S' m lo d s → MNq σ s → s 0 57 = σ 0 57 → TFq τ vs t z → DSw σ σ1 → σ1 0 12 = σ 0 12 → 0 < (σ1 0 57).toInt → MNq σ1 σ2 → DSw σ2 s → s 0 12 = σ2 0 12 → (∀ O, O < d → WSq kd n m lo d (O + 1) S S' gb σ1 σ2) → Q s t z) → (EVq (fun N => STn kd vl N 2 d p) none → F) → f σ τ vs Q (fun _ _ _ => F)
section SLP
variable {w s r σ σ' σ0 σ1 σ2 σ3 τ t : St} {kd vl : Nat → Int} {n S S1 S2 m lo d O p q k : Nat} {vs z : List Nat} {g g1 g2 gc : List Gsq} {l : List Stq} {F0 : Prop} {a a2 a3 : Int32} {Q : St → Prop}
variable {Kstatement Kinner Kblock : Int32 → St → St → List Nat → (St → St → List Nat → Prop) → (St → St → List Nat → Prop) → Prop} {Kloop : Int32 → Int32 → Int32 → St → St → List Nat → (St → St → List Nat → Prop) → (St → St → List Nat → Prop) → Prop} {KdoStatement KforStatement : Int32 → Int32 → St → St → List Nat → (St → St → List Nat → Prop) → (St → St → List Nat → Prop) → Prop}
theorem es_block (ha : a.toInt = (d : Int)) (hd : d ≤ 25) (c22 : kd p = 22) (hK : ∀ v : Int32, v.toInt = (d : Int) + 1 → ∀ p, SWr kd vl n m lo 0 (d + 1) p (Kstatement v)) : SWr kd vl n m lo 0 d p (pp_block Kstatement Kinner Kblock Kloop KdoStatement KforStatement a) := by
  intro S σ τ vs Q F hG hg h57 kk kn
  unfold pp_block
  refine mr_expect hG.1.1 hg (c := 22) (by decide) (by decide) (fun _ s3 ks3 g3 => ?_) (fun h => absurd c22 h)
  have hd' : ¬ 25 < d := Nat.not_lt.mpr hd
  have k3 : Kp [(0, 10), (0, 54)] [] σ (upC s3 0 54 ((s3 0 54) + (1 : Int32))) := kp_f (kp_sub ks3 rfl rfl) rfl
  have e54 : ((upC s3 0 54 ((s3 0 54) + (1 : Int32))) 0 54).toInt = (d : Int) + 1 := by rw [rdA_eq rfl, ks3 0 54 rfl rfl, ad1 (by rw [hG.2.1]; omega), hG.2.1]
  have g3' : GMt (upC s3 0 54 ((s3 0 54) + (1 : Int32))) n (p + 1) := gm_k g3 (rdA_ne (by decide))
  generalize hs1 : upC s3 0 54 ((s3 0 54) + (1 : Int32)) = σ1 at k3 e54 g3'
  have e12 : σ1 0 12 = σ 0 12 := k3 0 12 rfl rfl
  refine ⟨fun s t z => ∃ (pc Sc : Nat) (gc : List Gsq), p + 1 ≤ pc ∧ GMt s n pc ∧ RGs kd vl n Sc m lo (d + 1) s ∧ MNq σ1 s ∧ s 0 57 = σ 0 57 ∧ TFq τ vs t z ∧ (∀ R, EVq (fun N => STn kd vl N 1 (d + 1) pc) R → EVq (fun N => STn kd vl N 1 (d + 1) (p + 1)) (R.map (fun r => (r.1, gc ++ r.2)))) ∧ ∀ O, O < d + 1 → WSq kd n m lo (d + 1) O S Sc gc σ1 s, ⟨p + 1, S, [], Nat.le_refl _, g3', rg_open hG k3 e54, fun h => h, k3 0 57 rfl rfl, tf_rf, fun R hR => ?_, fun O _ => ws_nil ds_rf rfl rfl⟩, ?_⟩
  · cases R with
    | none => exact hR
    | some r => exact hR
  rintro s t z ⟨pc, Sc, gc, hp, gs, hGs, hm, e57, htf, hev, hW⟩
  refine mr_is hGs.1.1 gs (c := 23) (by decide) (by decide) (fun k23 => ⟨fun _ => ?_, fun h => absurd h (by decide)⟩) (fun k23 => ⟨fun h => absurd rfl h, fun _ => ?_⟩)
  · have k0 : Kp [(0, 10)] [] s (upC s 0 10 ((s 0 10) + (1 : Int32))) := kp_f kp_rf rfl
    have gn := gm_up hGs.1.1 gs (by rw [k23]; decide)
    generalize upC s 0 10 ((s 0 10) + (1 : Int32)) = s' at k0 gn
    have hG' := rg_ds hGs (ds_k k0 rfl rfl) (by rw [k0 0 12 rfl rfl]; exact rgq_0 hGs.1)
    refine mr_close hG'.1.2.2.2.1.1 hG'.1.2.2.2.1.2.1 (by rw [hG'.2.1]; rfl) (fun s2 k kr2 hk e53 e54' hj1 hj2 => kk s2 t z ⟨pc + 1, k, [gq (stp 20 p)] ++ (gc ++ []) ++ [gq (stp 21 p)], st_22 hd' c22 (ev_b (hev _ (sl_e k23)) ev_c), by omega, gm_k gn (kr2 0 10 rfl rfl), rg_close hG' hk kr2 e53 e54', fun hx => ?_, ?_, htf, fun O hO => ?_⟩)
    · rw [kr2 0 12 rfl rfl, k0 0 12 rfl rfl]
      exact hm (by rw [e12]; exact hx)
    · rw [kr2 0 57 rfl rfl, k0 0 57 rfl rfl, e57]
    · rw [List.append_nil]
      exact ws_scope k3 e54 (by omega) (ws_ref (hW O (Nat.lt_succ_of_lt hO)) (ds_k k0 rfl rfl) (k0 0 12 rfl rfl) (k0 0 57 rfl rfl)) hk kr2 e53 e54' hj1 hj2
  · refine hK (a + (1 : Int32)) (by rw [ad1 (by omega), ha]) pc Sc s t z _ F hGs gs (by rw [e57]; exact ⟨h57.1, by have := h57.2; rw [on_0] at this ⊢; omega⟩) (fun s2 t2 z2 he => ?_) (fun hn => kn (st_22 hd' c22 (ev_b0 (hev none (sl_s k23 (ev_b0 hn))))))
    obtain ⟨p1, S', g1, h1, h2, h3, h4, h5, h6, h7, h8⟩ := he
    exact ⟨p1, S', gc ++ g1, by omega, h3, h4, fun hx => h5 (hm hx), h6.trans e57, tf_tr htf h7, sl_step k23 h1 hev, fun O hO => ws_app (hW O hO) (h8 O hO) h5⟩
theorem es_loop (hd : d ≤ 25) (hK : ∀ p, SWr kd vl n m lo 2 d p (Kinner a)) : LWr kd vl n m lo d p (pp_loop Kstatement Kinner Kblock Kloop KdoStatement KforStatement a a2 a3) := by
  intro S σ τ vs Q F hG hg h57 kk kn
  unfold pp_loop
  refine fun _ => ?_
  have k0 : Kp [(0, 57), (0, 58), (0, 59)] [] σ (upC (upC (upC σ 0 58 ((-1) : Int32)) 0 59 ((-1) : Int32)) 0 57 ((σ 0 57) + (1 : Int32))) := kp_f (kp_f (kp_f kp_rf rfl) rfl) rfl
  have e0 : (upC (upC (upC σ 0 58 ((-1) : Int32)) 0 59 ((-1) : Int32)) 0 57 ((σ 0 57) + (1 : Int32))) 0 57 = (σ 0 57) + (1 : Int32) := rdA_eq rfl
  generalize upC (upC (upC σ 0 58 ((-1) : Int32)) 0 59 ((-1) : Int32)) 0 57 ((σ 0 57) + (1 : Int32)) = σa at k0 e0
  refine mr_put1 (fun s1 ks1 => ?_)
  have k1 : Kp [(0, 57), (0, 58), (0, 59), (0, 17)] [8] σ s1 := kp_tr (kp_sub k0 rfl rfl) (kp_sub ks1 rfl rfl)
  have e1 : s1 0 57 = (σ 0 57) + (1 : Int32) := by rw [ks1 0 57 rfl rfl, e0]
  have i1 : (s1 0 57).toInt = (σ 0 57).toInt + 1 := by rw [e1, ad1 (by omega)]
  have d1 : DSw σ s1 := ds_k k1 rfl rfl
  have e12 : s1 0 12 = σ 0 12 := k1 0 12 rfl rfl
  refine hK p S s1 τ vs _ F (rg_ds hG d1 (by rw [e12]; exact rgq_0 hG.1)) (gm_k hg (k1 0 10 rfl rfl)) (by rw [on_2, i1]; omega) (fun s t z he => ?_) kn
  obtain ⟨p', S', g, h1, h2, h3, h4, h5, h6, h7, h8⟩ := he
  refine ⟨fun _ => True, fun y _ => mr_aimAll (fun s2 k2 => ?_), fun _ => trivial, fun _ => trivial⟩
  have k3 : Kp [(0, 57), (0, 59), (0, 60)] [8] s (upC (upC s2 0 59 (σ 0 59)) 0 60 (σ 0 58)) := kp_f (kp_f (kp_tr (kp_f kp_rf rfl) (kp_sub k2 rfl rfl)) rfl) rfl
  refine kk _ t z p' S' g s1 s h1 h2 (gm_k h3 (k3 0 10 rfl rfl)) (rg_ds h4 (ds_k k3 rfl rfl) (by rw [k3 0 12 rfl rfl]; exact rgq_0 h4.1)) (fun hx => ?_) ?_ h7 d1 e12 (by rw [i1]; omega) h5 (ds_k k3 rfl rfl) (k3 0 12 rfl rfl) (fun O hO => h8 (O + 1) (by rw [on_2]; omega))
  · rw [k3 0 12 rfl rfl]
    exact h5 (by rw [e12]; exact hx)
  · rw [rdA_ne (by decide), rdA_ne (by decide), k2 0 57 rfl rfl, rdA_eq rfl]
    exact ieq (by rw [h6, sb1 (by rw [i1]; omega), i1]; omega)
theorem mn_k (e : σ' 0 12 = σ 0 12) : MNq σ σ' := fun hx => by rw [e]; exact hx
theorem es_do (hd : d ≤ 25) (c12 : kd p = 12) (ha2 : a2.toInt = (p : Int)) (hL : ∀ p a2 a3, LWr kd vl n m lo d p (Kloop a a2 a3)) : SWr kd vl n m lo 0 d p (pp_doStatement Kstatement Kinner Kblock Kloop KdoStatement KforStatement a a2) := by
  intro S σ τ vs Q F hG hg h57 kk kn
  unfold pp_doStatement
  have hd' : ¬ 25 < d := Nat.not_lt.mpr hd
  have k0 : Kp [(0, 10)] [] σ (upC σ 0 10 ((σ 0 10) + (1 : Int32))) := kp_f kp_rf rfl
  have g0 := gm_up hG.1.1 hg (by rw [c12]; decide)
  generalize upC σ 0 10 ((σ 0 10) + (1 : Int32)) = σa at k0 g0
  have hG0 := rg_ds hG (ds_k k0 rfl rfl) (by rw [k0 0 12 rfl rfl]; exact rgq_0 hG.1)
  refine hL (p + 1) a2 _ S σa τ vs _ F hG0 g0 (by rw [k0 0 57 rfl rfl]; exact h57) (fun s t z p1 S' gb σ1 σ2 h1 h2 h3 h4 h5 h6 h7 h8 h9 h10 h11 h12 h13 h14 => ?_) (fun hn => kn (st_12 hd' c12 (ev_b0 hn)))
  have k1 : Kp [(0, 58)] [] s (upC s 0 58 (s 0 60)) := kp_f kp_rf rfl
  generalize upC s 0 58 (s 0 60) = s1 at k1
  have e10 : s1 0 10 = s 0 10 := k1 0 10 rfl rfl
  have g1 : GMt s1 n p1 := gm_k h3 e10
  have hG1 := rg_ds h4 (ds_k k1 rfl rfl) (by rw [k1 0 12 rfl rfl]; exact rgq_0 h4.1)
  unfold pp_isWord
  refine fun _ => ?_
  rw [nat_of g1.1, hG1.1.1.2.1 p1 g1.2]
  refine ⟨fun c => ⟨fun hx => absurd rfl hx, fun _ => ?_⟩, fun c => ⟨fun _ => ?_, fun hx => absurd hx (by decide)⟩⟩
  · unfold pp_wrong pp_wrongAt
    exact fun _ => kn (st_12 hd' c12 (ev_b h1 (ev_f (fun hx => c (by rw [hx]; decide)) ev_c)))
  have k11 : kd p1 = 11 := rk_is hG1.1 11 (by decide) 11 (by decide) c
  have k2 : Kp [(0, 10)] [] s1 (upC s1 0 10 ((s 0 10) + (1 : Int32))) := kp_f kp_rf rfl
  have g2 := gm_up hG1.1.1 g1 (by rw [k11]; decide)
  rw [e10] at g2
  generalize upC s1 0 10 ((s 0 10) + (1 : Int32)) = s2 at k2 g2
  have k12 : Kp [(0, 10), (0, 58)] [] s s2 := kp_tr (kp_sub k1 rfl rfl) (kp_sub k2 rfl rfl)
  have hG2 := rg_ds h4 (ds_k k12 rfl rfl) (by rw [k12 0 12 rfl rfl]; exact rgq_0 h4.1)
  refine es_condition hG2 g2 (fun s3 t3 z3 p3 l hcn hp3 g3 hG3 hm3 e573 tf3 hcd => ?_) (fun hn => kn (st_12 hd' c12 (ev_b h1 (ev_t k11 (ev_b0 (hn 31 p1))))))
  refine mr_expect hG3.1.1 g3 (c := 27) (by decide) (by decide) (fun k27 s4 k4 g4 => ?_) (fun k27 => kn (st_12 hd' c12 (ev_b h1 (ev_t k11 (ev_b (hcn 31 p1) (ev_f k27 ev_c))))))
  refine mr_put1 (fun s5 k5 => mr_aimAll (fun s6 k6 => ?_))
  have k36 : Kp [(0, 10), (0, 17)] [8] s3 s6 := kp_tr (kp_tr (kp_sub k4 rfl rfl) (kp_sub k5 rfl rfl)) (kp_sub k6 rfl rfl)
  have k46 : Kp [(0, 17)] [8] s4 s6 := kp_tr k5 (kp_sub k6 rfl rfl)
  have e612 : s6 0 12 = s3 0 12 := k36 0 12 rfl rfl
  have e57a : s6 0 57 = σ 0 57 := by rw [k36 0 57 rfl rfl, e573, k12 0 57 rfl rfl, h6, k0 0 57 rfl rfl]
  have hm26 : MNq σ2 s6 := fun hx => by rw [e612]; exact hm3 (by rw [k12 0 12 rfl rfl, h13]; exact hx)
  refine kk s6 t3 z3 ⟨p3 + 1, S', [gq (stp 29 p)] ++ gb ++ [gq (stp 30 p1)] ++ (gqs l ++ [gq (stp 31 p1)]), st_12 hd' c12 (ev_b h1 (ev_t k11 (ev_b (hcn 31 p1) (ev_t k27 ev_c)))), by omega, gm_k g4 (k46 0 10 rfl rfl), rg_ds hG3 (ds_k k36 rfl rfl) (by rw [e612]; exact rgq_0 hG3.1), fun hx => hm26 (h11 (by rw [h9, k0 0 12 rfl rfl]; exact hx)), e57a, tf_tr h7 tf3, fun O hO => ?_⟩
  rw [on_0] at hO
  rw [List.append_assoc ([gq (stp 29 p)] ++ gb)]
  have A1 : WOq kd n S m lo d O (O + 1) [gq (stp 29 p)] σ σ1 True := wo_st (by simp [stp]) (fun w hw => sa_29 hw (by omega)) (ds_tr (ds_k k0 rfl rfl) h8) (by rw [h9, k0 0 12 rfl rfl])
  have A3 : WOq kd n S' m lo d (O + 1) O ([gq (stp 30 p1)] ++ (gqs l ++ [gq (stp 31 p1)])) σ2 s6 True := wo_src h12 h13 (wo_app (b2 := True) (wo_st (σ' := s2) (by simp [stp]) (fun w hw => sa_30 hw) (ds_k k12 rfl rfl) (k12 0 12 rfl rfl)) (wo_ref (wo_cd (by simp [stp]) hcd (fun r K T H Z F X i h95 h77 h63 hA hk => sa_31 h95 h77 h63 hA hk)) (ds_k k36 rfl rfl) e612) (fun hx => by rw [e612]; exact hm3 hx) (Or.inl ⟨rfl, Iff.rfl⟩))
  exact ws_loop A1 (h14 O hO) A3 h11 hm26 (Or.inl ⟨trivial, h10⟩) e57a
theorem es_for (hd : d ≤ 25) (c13 : kd p = 13) (ha2 : a2.toInt = (p : Int)) (hL : ∀ p a2 a3, LWr kd vl n m lo d p (Kloop a a2 a3)) : SWr kd vl n m lo 0 d p (pp_forStatement Kstatement Kinner Kblock Kloop KdoStatement KforStatement a a2) := by
  intro S σ τ vs Q F hG hg h57 kk kn
  unfold pp_forStatement
  have hd' : ¬ 25 < d := Nat.not_lt.mpr hd
  have fh : EVq (fun N => FHn kd N p) none → F := fun h => kn (st_13 hd' c13 (ev_b0 h))
  have k0 : Kp [(0, 10)] [] σ (upC σ 0 10 ((σ 0 10) + (1 : Int32))) := kp_f kp_rf rfl
  have g0 := gm_up hG.1.1 hg (by rw [c13]; decide)
  generalize upC σ 0 10 ((σ 0 10) + (1 : Int32)) = σa at k0 g0
  have hG0 := rg_ds hG (ds_k k0 rfl rfl) (by rw [k0 0 12 rfl rfl]; exact rgq_0 hG.1)
  refine mr_expect hG0.1.1 g0 (c := 20) (by decide) (by decide) (fun k20 s13 k13 g13 => ?_) (fun k20 => fh (ev_f k20 ev_c))
  have k013 : Kp [(0, 10)] [] σ s13 := kp_tr k0 k13
  have e13 : s13 0 12 = σ 0 12 := k013 0 12 rfl rfl
  have hG13 := rg_ds hG (ds_k k013 rfl rfl) (by rw [e13]; exact rgq_0 hG.1)
  refine mr_is1 hG13.1.1 g13 (c := 27) (by decide) (by decide) (fun v19 hv19 => ⟨fun s t z => ∃ (pa : Nat) (ga : List Gsq), EVq (fun N => if kd (p + 2) = 27 then some (p + 2, ([] : List Gsq)) else (EXn kd N (p + 2)).bind fun r => some (r.1, r.2 ++ [gq (stp 22 p)])) (some (pa, ga)) ∧ p + 2 ≤ pa ∧ GMt s n pa ∧ RGs kd vl n S m lo d s ∧ MNq σ s ∧ s 0 57 = σ 0 57 ∧ TFq τ vs t z ∧ ∀ O b, WOq kd n S m lo d O O ga σ s b, ?_, fun c => ?_, fun c => ?_⟩)
  · rintro s29 t29 z29 ⟨pa, ga, hA, hpa, g29, hG29, hm29, e29, tf29, hW29⟩
    refine mr_expect hG29.1.1 g29 (c := 27) (by decide) (by decide) (fun kA s32 k32 g32 => ?_) (fun kA => fh (ev_t k20 (ev_b hA (ev_f kA ev_c))))
    have hG32 := rg_ds hG29 (ds_k k32 rfl rfl) (by rw [k32 0 12 rfl rfl]; exact rgq_0 hG29.1)
    refine mr_is1 hG32.1.1 g32 (c := 27) (by decide) (by decide) (fun v46 hv46 => ⟨fun _ s t z => ∃ (pt : Nat) (gt : List Gsq) (x : Int), EVq (fun N => if kd (pa + 1) = 27 then some (pa + 1, ([] : List Gsq), (0 : Int)) else (EXn kd N (pa + 1)).bind fun r => some (r.1, r.2, 1)) (some (pt, gt, x)) ∧ pa + 1 ≤ pt ∧ GMt s n pt ∧ RGs kd vl n S m lo d s ∧ MNq s32 s ∧ s 0 57 = s32 0 57 ∧ TFq t29 z29 t z ∧ ∀ O b, WOq kd n S m lo d O O (gt ++ [gq (33, p, x, 0)]) s32 s b, ?_, fun c => ?_, fun c => ?_⟩)
    · rintro x4 s83 t83 z83 ⟨pt, gt, x, hT, hpt, g83, hG83, hm83, e83, tf83, hW83⟩
      refine mr_expect hG83.1.1 g83 (c := 27) (by decide) (by decide) (fun kT s86 k86 g86 => ?_) (fun kT => fh (ev_t k20 (ev_b hA (ev_t kA (ev_b hT (ev_f kT ev_c))))))
      refine mr_open (fun v92 s92 k92 => ?_)
      have k8392 : Kp [(0, 10), (0, 17)] [8] s83 s92 := kp_tr (kp_sub k86 rfl rfl) (kp_sub k92 rfl rfl)
      have e92 : s92 0 12 = s83 0 12 := k8392 0 12 rfl rfl
      have hG92 := rg_ds hG83 (ds_k k8392 rfl rfl) (by rw [e92]; exact rgq_0 hG83.1)
      have g92 : GMt s92 n (pt + 1) := gm_k g86 (k92 0 10 rfl rfl)
      refine mr_is1 hG92.1.1 g92 (c := 21) (by decide) (by decide) (fun v106 hv106 => ⟨fun s t z => ∃ (pl : Nat) (gl : List Gsq), EVq (fun N => if kd (pt + 1) = 21 then some (pt + 1, ([] : List Gsq)) else (EXn kd N (pt + 1)).bind fun r => some (r.1, r.2 ++ [gq (stp 22 p)])) (some (pl, gl)) ∧ pt + 1 ≤ pl ∧ GMt s n pl ∧ RGs kd vl n S m lo d s ∧ MNq s92 s ∧ s 0 57 = s92 0 57 ∧ TFq t83 z83 t z ∧ ∀ O b, WOq kd n S m lo d O O gl s92 s b, ?_, fun c => ?_, fun c => ?_⟩)
      · rintro s116 t116 z116 ⟨pl, gl, hLl, hpl, g116, hG116, hm116, e116, tf116, hW116⟩
        refine mr_put1 (fun s120 k120 => ?_)
        have hG120 := rg_ds hG116 (ds_k k120 rfl rfl) (by rw [k120 0 12 rfl rfl]; exact rgq_0 hG116.1)
        refine mr_expect hG120.1.1 (gm_k g116 (k120 0 10 rfl rfl)) (c := 21) (by decide) (by decide) (fun kL s126 k126 g126 => ?_) (fun kL => fh (ev_t k20 (ev_b hA (ev_t kA (ev_b hT (ev_t kT (ev_b hLl (ev_f kL ev_c))))))))
        have hfh : EVq (fun N => FHn kd N p) (some (pl + 1, ga ++ [gq (stp 32 p)] ++ gt ++ [gq (33, p, x, 0)] ++ gl ++ [gq (stp 34 p)])) := ev_t k20 (ev_b hA (ev_t kA (ev_b hT (ev_t kT (ev_b hLl (ev_t kL ev_c))))))
        refine mr_aim (fun s132 k132 => ?_)
        have k16 : Kp [(0, 10), (0, 17)] [8] s116 s132 := kp_tr (kp_tr (kp_sub k120 rfl rfl) (kp_sub k126 rfl rfl)) (kp_sub k132 rfl rfl)
        have e132 : s132 0 12 = s116 0 12 := k16 0 12 rfl rfl
        have hG132 := rg_ds hG116 (ds_k k16 rfl rfl) (by rw [e132]; exact rgq_0 hG116.1)
        have f132 : s132 0 57 = σ 0 57 := by rw [k16 0 57 rfl rfl, e116, k8392 0 57 rfl rfl, e83, k32 0 57 rfl rfl, e29]
        refine hL (pl + 1) a2 _ S s132 t116 z116 _ F hG132 (gm_k g126 (k132 0 10 rfl rfl)) (by rw [f132]; exact h57) (fun s t z p1 S' gb σ1 σ2 h1 h2 h3 h4 h5 h6 h7 h8 h9 h10 h11 h12 h13 h14 => ?_) (fun hn => kn (st_13 hd' c13 (ev_b hfh (ev_b0 hn))))
        refine mr_put1 (fun s162 k162 => ?_)
        have kS : Kp [(0, 17), (0, 58)] [8] s s162 := kp_tr (kp_f kp_rf rfl) (kp_sub k162 rfl rfl)
        refine ⟨fun s' t' z' => t' = t ∧ z' = z ∧ Kp [(0, 17), (0, 58)] [8] s s', ?_, fun _ => ⟨rfl, rfl, kS⟩, fun _ => mr_aim (fun s173 k173 => ⟨rfl, rfl, kp_tr kS (kp_sub k173 rfl rfl)⟩)⟩
        rintro s176 t176 z176 ⟨rfl, rfl, k176⟩
        refine mr_aimAll (fun s9 k9 => ?_)
        have kE : Kp [(0, 17), (0, 58)] [8] s s9 := kp_tr k176 (kp_sub k9 rfl rfl)
        have e9 : s9 0 12 = s 0 12 := kE 0 12 rfl rfl
        have f9 : s9 0 57 = σ 0 57 := by rw [kE 0 57 rfl rfl, h6, f132]
        have hm29' : MNq s32 s132 := fun hx => by rw [e132]; exact hm116 (by rw [e92]; exact hm83 hx)
        have hmσ : MNq σ s32 := fun hx => by rw [k32 0 12 rfl rfl]; exact hm29 hx
        have hm2 : MNq σ2 s9 := fun hx => by rw [e9, h13]; exact hx
        refine kk s9 t176 z176 ⟨p1, S', ga ++ [gq (stp 32 p)] ++ gt ++ [gq (33, p, x, 0)] ++ gl ++ [gq (stp 34 p)] ++ gb ++ [gq (stp 35 p)], st_13 hd' c13 (ev_b hfh (ev_b h1 ev_c)), by omega, gm_k h3 (kE 0 10 rfl rfl), rg_ds h4 (ds_k kE rfl rfl) (by rw [e9]; exact rgq_0 h4.1), fun hx => hm2 (h11 (by rw [h9]; exact hm29' (hmσ hx))), f9, tf_tr tf29 (tf_tr tf83 (tf_tr tf116 h7)), fun O hO => ?_⟩
        rw [on_0] at hO
        have A1 : WOq kd n S m lo d O (O + 1) (ga ++ [gq (stp 32 p)]) σ s32 True := wo_app (hW29 O True) (wo_st (by simp [stp]) (fun w hw => sa_32 hw (by omega)) (ds_k k32 rfl rfl) (k32 0 12 rfl rfl)) (mn_k (k32 0 12 rfl rfl)) (Or.inl ⟨rfl, Iff.rfl⟩)
        have A2 : WOq kd n S m lo d O (O + 1) ((ga ++ [gq (stp 32 p)]) ++ (gt ++ [gq (33, p, x, 0)])) σ s83 True := wo_app A1 (hW83 (O + 1) True) hm83 (Or.inr (Or.inl rfl))
        have A3 : WOq kd n S m lo d O (O + 1) (((ga ++ [gq (stp 32 p)]) ++ (gt ++ [gq (33, p, x, 0)])) ++ gl) σ s116 True := wo_app A2 (wo_src (ds_k k8392 rfl rfl) e92 (hW116 (O + 1) True)) (fun hx => hm116 (by rw [e92]; exact hx)) (Or.inr (Or.inl rfl))
        have A4 : WOq kd n S m lo d O (O + 1) ((((ga ++ [gq (stp 32 p)]) ++ (gt ++ [gq (33, p, x, 0)])) ++ gl) ++ [gq (stp 34 p)]) σ σ1 True := wo_app (b2 := True) A3 (wo_st (by simp [stp]) (fun w hw => sa_34 hw) (ds_tr (ds_k k16 rfl rfl) h8) (by rw [h9, e132])) (mn_k (by rw [h9, e132])) (Or.inr (Or.inl rfl))
        have A5 : WOq kd n S' m lo d (O + 1) O [gq (stp 35 p)] σ2 s9 True := wo_st (by simp [stp]) (fun w hw => sa_35 hw) (ds_tr h12 (ds_k kE rfl rfl)) (by rw [e9, h13])
        have A6 := ws_loop A4 (h14 O hO) A5 h11 hm2 (Or.inl ⟨trivial, h10⟩) f9
        simp only [List.append_assoc] at A6 ⊢
        exact A6
      · have k21 := hv106.1 c
        exact ⟨pt + 1, [], ev_t k21 ev_c, Nat.le_refl _, g92, hG92, fun h => h, rfl, tf_rf, fun O b => wo_nil ds_rf rfl⟩
      · have k21 : kd (pt + 1) ≠ 21 := fun h => (hv106.2 h) c
        exact es_plain hG92 g92 (fun s t z p' l hev hp g1 hG1 hm e57 tf hW => ⟨p', gqs l ++ [gq (stp 22 p)], ev_f k21 (ev_b hev ev_c), by omega, g1, hG1, hm, e57, tf, fun O b => hW O p b⟩) (fun hn => fh (ev_t k20 (ev_b hA (ev_t kA (ev_b hT (ev_t kT (ev_b0 (ev_f k21 (ev_b0 hn)))))))))
    · have k27 := hv46.1 c
      exact ⟨pa + 1, [], 0, ev_t k27 ev_c, Nat.le_refl _, g32, hG32, fun h => h, rfl, tf_rf, fun O b => wo_st (y := (33, p, 0, 0)) (by simp) (fun w hw => sa_33 hw) ds_rf rfl⟩
    · have k27 : kd (pa + 1) ≠ 27 := fun h => (hv46.2 h) c
      refine es_expr hG32 g32 (fun u s54 t54 z54 p' l K T H Z F' I X hev hp g54 hG54 hr hm htf hu hun hmv hvr hact hex => ?_) (fun hn => fh (ev_t k20 (ev_b hA (ev_t kA (ev_b0 (ev_f k27 (ev_b0 hn)))))))
      refine mr_read hmv (fun _ s62 t62 kw hne hmv2 => ?_)
      have e62 : s62 0 12 = s54 0 12 := kw 0 12 rfl rfl
      have e15 : (s62 0 15).toInt = 0 := by rw [kw 0 15 rfl rfl]; exact hG54.2.2.2.1
      refine mr_isA hmv2 (fun v _ hv => mr_must (by rw [e62]; exact rgq_0 hG54.1) (fun s72 k72 f72 => mr_open (fun v78 s78 k78 => ?_)))
      have kz : Kp [(0, 10), (0, 12), (0, 13), (0, 17)] [8] s54 s72 := kp_tr (kp_sub kw rfl rfl) (kp_sub k72 rfl rfl)
      have ky : Kp [(0, 10), (0, 12), (0, 13), (0, 17)] [8] s54 s78 := kp_tr kz (kp_sub k78 rfl rfl)
      have e78 : s78 0 12 = s72 0 12 := k78 0 12 rfl rfl
      have hB : MNq s54 s72 := fun hx => f72.2.2 (Or.inl (by rw [e62]; exact hx))
      have hcd : CDo kd n S m lo d l s32 s72 := cd_of hex hact hG32.2.2.2.1 hr hvr kz hB (fun h0 h2 => ft_any f72 e15 hv hvr.2.1.1 (by rw [e62]; exact h0) h2) ds_rf rfl
      exact ⟨p', gqs l, 1, ev_f k27 (ev_b hev ev_c), by omega, gm_k g54 (by rw [k78 0 10 rfl rfl, k72 0 10 rfl rfl, kw 0 10 rfl rfl]), rg_ds hG54 (ds_k ky rfl rfl) (by rw [e78]; exact f72.1), fun hx => by rw [e78]; exact hB (hm hx), by rw [ky 0 57 rfl rfl, hr 0 57 rfl rfl], tf_read htf hun hne, fun O b => wo_ref (wo_cd (y := (33, p, 1, 0)) (by simp) hcd (fun r K T H Z F X i h95 h77 h63 hA hk => sa_33c h95 h77 h63 hA hk)) (ds_k k78 rfl rfl) e78⟩
  · have k27 := hv19.1 c
    exact ⟨p + 2, [], ev_t k27 ev_c, Nat.le_refl _, g13, hG13, mn_k e13, k013 0 57 rfl rfl, tf_rf, fun O b => wo_nil (ds_k k013 rfl rfl) e13⟩
  · have k27 : kd (p + 2) ≠ 27 := fun h => (hv19.2 h) c
    exact es_plain hG13 g13 (fun s t z p' l hev hp g1 hG1 hm e57 tf hW => ⟨p', gqs l ++ [gq (stp 22 p)], ev_f k27 (ev_b hev ev_c), by omega, g1, hG1, fun hx => hm (by rw [e13]; exact hx), by rw [e57, k013 0 57 rfl rfl], tf, fun O b => wo_src (ds_k k013 rfl rfl) e13 (hW O p b)⟩) (fun hn => fh (ev_t k20 (ev_b0 (ev_f k27 (ev_b0 hn)))))
end SLP
