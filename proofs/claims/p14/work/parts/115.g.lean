section
/-! sizes: both sides -/
section SIZ
variable {w s r σ σ' s11 : St} {kd vl : Nat → Int} {n S m lo : Nat} {l : List Stq} {Q P : St → Prop} {B : Prop} {K T H Z F : Int} {X : Int32}
theorem xl_topAny {Q : Nat → Prop} (kk : ∀ u, Q u) : pk_X2_top w Q := ⟨fun _ => kk _, fun _ => ⟨fun _ => kk _, fun _ _ => kk _⟩⟩
theorem fr_18 : ¬ FRw 18 := by unfold FRw; decide
theorem fr_19 : ¬ FRw 19 := by unfold FRw; decide
theorem fr_20 : ¬ FRw 20 := by unfold FRw; decide

theorem at_app {α : Type} : ∀ (pre : List α) (y : α) (t : List α), (pre ++ y :: t)[pre.length]? = some y
  | [], _, _ => rfl
  | _ :: pre, y, t => at_app pre y t
theorem ca_walk {a b : Int32} {l0 : List Stq} {R : Int32 → St → Prop} (ha : 0 ≤ a.toInt) (hb : b.toInt = a.toInt + (l0.length : Int)) (hb9 : b.toInt ≤ 32100) (ht : ∀ i y, l0[i]? = some y → (w 18 (a.toInt.toNat + i)).toInt = y.1 ∧ (w 19 (a.toInt.toNat + i)).toInt = (y.2.1 : Int) ∧ (w 20 (a.toInt.toNat + i)).toInt = y.2.2.1) (hX : XW l0 w P B)
    (kk : ∀ s11, FRs w s11 → ((s11 6 3).toInt ≠ 0 ∧ B) ∨ P s11 → ∀ y : Int32, (y.toInt ≠ 0 ↔ (s11 6 3).toInt = 0) → pk_X0_cut (w 4 1) (upC s11 6 3 (0 : Int32)) (fun s72 => pk_X2_top s72 (fun u79 => (y.toInt = 0 → (R (0 : Int32) (upC s72 7 7 (0 : Int32)))) ∧ (y.toInt ≠ 0 → (pk_X6_isConstant u79 (upC s72 7 7 (0 : Int32)) (fun v99 => (v99.toInt = 0 → (R (0 : Int32) (upC s72 7 7 (0 : Int32)))) ∧ (v99.toInt ≠ 0 → (R (if ((upC s72 7 7 (0 : Int32)) u79 8) < (0 : Int32) then (0 : Int32) else ((upC s72 7 7 (0 : Int32)) u79 8)) (upC s72 7 7 (0 : Int32)))))))))) : pk_X7_constant a b w R := by
  unfold pk_X7_constant
  refine ⟨fun x s => ∃ (pre suf : List Stq), l0 = pre ++ suf ∧ x.toInt = a.toInt + (pre.length : Int) ∧ FRs w s ∧ XW suf s P B, ⟨[], l0, rfl, by simp, fr_rf, hX⟩, ?_⟩
  rintro x s ⟨pre, suf, hl, hx, hfr, hW⟩
  have hlen : l0.length = pre.length + suf.length := by rw [hl, List.length_append]
  refine ⟨((s 6 3).toInt ≠ 0 ∧ B) ∨ P s, fun hJ => ⟨fun y => y.toInt ≠ 0 ↔ (s 6 3).toInt = 0, fun y _ hy => kk s hfr hJ y hy, fun c => ⟨fun hx => absurd rfl hx, fun hx => absurd hx c⟩, fun c => ⟨fun _ => c, fun _ => by decide⟩⟩, fun c => ?_, fun c => ?_⟩
  · cases suf with
    | nil => exact Or.inr hW
    | cons y t =>
      simp only [List.length_cons] at hlen
      omega
  · cases suf with
    | nil =>
      simp only [List.length_nil] at hlen
      omega
    | cons y t =>
      simp only [List.length_cons] at hlen
      refine ⟨fun c1 => Or.inl ⟨c1, hW.2 c1⟩, fun c1 => ?_⟩
      have ht' := ht pre.length y (by rw [hl]; exact at_app pre y t)
      have ea : x.toInt = ((a.toInt.toNat + pre.length : Nat) : Int) := by omega
      have h18 : atv 32100 (s 18) x = w 18 (a.toInt.toNat + pre.length) := by rw [hfr 18 fr_18, atv_at ea (by omega)]
      have h19 : atv 32100 (s 19) x = w 19 (a.toInt.toNat + pre.length) := by rw [hfr 19 fr_19, atv_at ea (by omega)]
      have h20 : atv 32100 (s 20) x = w 20 (a.toInt.toNat + pre.length) := by rw [hfr 20 fr_20, atv_at ea (by omega)]
      have g1 := hW.1 c1 x (by rw [h18]; exact ht'.1) (by rw [h19]; exact ht'.2.1) (by rw [h20]; exact ht'.2.2)
      refine cj_wk_X2_take (fun s2 q1 q2 => ⟨pre ++ [y], t, by rw [hl, List.append_assoc]; rfl, ?_, q2, q1⟩) g1 (fr_pk_X2_take hfr (fun _ h => h))
      rw [ad1 (by omega), hx, List.length_append, List.length_cons, List.length_nil]
      omega
end SIZ
end

section
/-! sizes: the class's value, the reference's -/
section SIZ2
variable {w s r σ σ' σ1 s11 τ t : St} {kd vl : Nat → Int} {n S m lo d p : Nat} {vs z : List Nat} {l : List Stq} {Q P : St → Prop} {B : Prop} {K T H Z F : Int} {X : Int32} {F0 : Prop}
theorem ca_size (hX : EXq kd n S m lo 0 l σ σ' K T H Z F X) (h15 : 0 < (σ 0 15).toInt) (h0 : (σ 0 12).toInt = 0) (hR : REq kd n S m lo w σ) (hf : (w 6 3).toInt = 0) (h77 : (w 7 7).toInt = 0)
    (kb : F ≠ 1 → ∀ s, (s 6 3).toInt = 0 → (s 8 8).toInt = 0 → (∀ c, ¬ FRw c → ∀ j, ¬ (c = 8 ∧ j = 8) → s c j = w c j) → Q s)
    (kg : ∀ s, (s 6 3).toInt = 0 → (s 7 7).toInt = 0 → REq kd n S m lo s σ' → Ko [(4, 1), (6, 3), (6, 4), (7, 7), (6, 5), (5, 9), (8, 8)] [24, 43, 17, 31, 32, 33, 25, 39] w s → (F = 1 → (s 8 8).toInt = if X.toInt < 0 then 0 else X.toInt) → (F ≠ 1 → (s 8 8).toInt = 0) → Q s) : CAq l w Q := by
  intro a b ha hb hb9 ht
  have bd : BDr σ σ' F → F ≠ 1 := fun h => by
    rcases h with h | h
    · omega
    · exact h.2
  refine ca_walk ha hb hb9 ht (hX h0 w hR hf h77) (fun s11 hfr hJ y hy => ?_)
  by_cases c0 : (s11 6 3).toInt = 0
  · have hP := hJ.elim (fun h => absurd c0 h.1) (fun h => h.2 c0)
    obtain ⟨g1, g2, g3, g4, g5, g6, i, g7⟩ := hP
    obtain ⟨_, _, _, _, a6, a8, _⟩ := g7
    refine xl_cut (fun s72 k72 => ?_)
    have k1 : Kp [(4, 1), (6, 3)] [24] s11 s72 := kp_tr (kp_f kp_rf rfl) (kp_sub k72 rfl rfl)
    have e63 : (s72 6 3).toInt = 0 := by rw [k72 6 3 rfl rfl, rdA_eq rfl]; rfl
    refine xl_top (j := 0) (by rw [k1 7 7 rfl rfl]; exact g6) (by omega) ⟨fun cy => absurd cy (hy.2 c0), fun _ => ?_⟩
    have fin : ∀ v : Int32, (F = 1 → v.toInt = if X.toInt < 0 then 0 else X.toInt) → (F ≠ 1 → v.toInt = 0) → Q (upC (upC s72 7 7 (0 : Int32)) 8 8 v) := fun v v1 v0 => by
      have kk : Kp [(4, 1), (6, 3), (7, 7), (8, 8)] [24] s11 (upC (upC s72 7 7 (0 : Int32)) 8 8 v) := kp_f (kp_f (kp_sub k1 rfl rfl) rfl) rfl
      refine kg _ ?_ ?_ (re_cd g4 (cd_ko (ko_kp kk) rfl rfl) dd_rf) (ko_tr (ko_sub g5.1 rfl rfl) (ko_sub (ko_kp kk) rfl rfl)) (fun h => ?_) (fun h => ?_)
      · rw [rdC_ne (by decide), rdC_ne (by decide)]; exact e63
      · rw [rdC_ne (by decide), rdA_eq rfl]; rfl
      · rw [rdA_eq rfl]; exact v1 h
      · rw [rdA_eq rfl]; exact v0 h
    have r6 : (upC s72 7 7 (0 : Int32)) (65 + 0) 6 = s11 (65 + 0) 6 := by rw [rdC_ne (by decide), k1 (65 + 0) 6 rfl rfl]
    have r8 : (upC s72 7 7 (0 : Int32)) (65 + 0) 8 = s11 (65 + 0) 8 := by rw [rdC_ne (by decide), k1 (65 + 0) 8 rfl rfl]
    unfold pk_X6_isConstant
    rw [r6, r8, a6]
    refine ⟨fun c => ⟨fun _ => fin _ (fun h => absurd h c) (fun _ => rfl), fun hx => absurd rfl hx⟩, fun c => ⟨fun hx => absurd hx (by decide), fun _ => fin _ (fun h => ?_) (fun h => absurd c h)⟩⟩
    rw [a8 h]
    by_cases c2 : X < (0 : Int32)
    · rw [if_pos c2, if_pos (show X.toInt < 0 from Int32.lt_iff_toInt_lt.mp c2)]
      rfl
    · rw [if_neg c2, if_neg (show ¬ X.toInt < 0 from fun hx => c2 (Int32.lt_iff_toInt_lt.mpr hx))]
  · have hF : F ≠ 1 := hJ.elim (fun h => bd h.2) (fun h => bd (h.1 c0))
    unfold pk_X0_cut
    refine xl_topAny (fun u => ⟨fun _ => kb hF _ ?_ ?_ (fun c hc j hj => ?_), fun cy => absurd (hy.1 cy) c0⟩)
    · rw [rdC_ne (by decide), rdC_ne (by decide), rdC_ne (by decide), rdA_eq rfl]; rfl
    · rw [rdA_eq rfl]; rfl
    · have hfr2 : FRs w (upC (upC (upC s11 6 3 (0 : Int32)) 4 1 (if ((upC s11 6 3 (0 : Int32)) 4 1) < w 4 1 then ((upC s11 6 3 (0 : Int32)) 4 1) else w 4 1)) 7 7 (0 : Int32)) := fr_c (fr_c (fr_c hfr (frw (by decide))) (frw (by decide))) (frw (by decide))
      by_cases c8 : c = 8
      · have hj8 : j ≠ 8 := fun e => hj ⟨c8, e⟩
        rw [c8, rdA_ne hj8]
        rw [c8] at hc
        exact congrFun (hfr2 8 hc) j
      · rw [rdC_ne c8]
        exact congrFun (hfr2 c hc) j
/-- the reference's size -/
theorem es_sizeAt {Q : Int32 → St → St → List Nat → Prop} (hG : RGs kd vl n S m lo d σ) (hg : GMt σ n p) (kk : ∀ (v : Int32) s t z p' l σ1 s1 K T H Z F X, PVq kd 0 1 0 p [] (some (p', l)) → p < p' → GMt s n p' → RGs kd vl n S m lo d s → s 0 12 = σ 0 12 → s 0 57 = σ 0 57 → TFq τ vs t z → (∀ y, y ∈ l → 1 ≤ y.1 ∧ y.1 ≤ 16) → 0 < (σ1 0 15).toInt → σ1 0 12 = σ 0 12 → DDq σ σ1 → DDq s1 s → EXq kd n S m lo 0 l σ1 s1 K T H Z F X → KEr σ1 s1 → Kp [(0, 10), (0, 12), (0, 13), (0, 15), (0, 17), (0, 37), (0, 39)] [8, 33, 14, 25, 21] σ s → (v.toInt = if F = 1 ∧ 1 ≤ X.toInt then X.toInt else -1) → Q v s t z) (kn : PVq kd 0 1 0 p [] none → F0) : pp_sizeAt σ τ vs Q (fun _ _ _ => F0) := by
  unfold pp_sizeAt
  have h15 : (σ 0 15).toInt = 0 := hG.2.2.2.1
  have k0 : Kp [(0, 15)] [] σ (upC σ 0 15 ((σ 0 15) + (1 : Int32))) := kp_f kp_rf rfl
  have e15 : (upC σ 0 15 ((σ 0 15) + (1 : Int32))) 0 15 = (σ 0 15) + (1 : Int32) := rdA_eq rfl
  generalize upC σ 0 15 ((σ 0 15) + (1 : Int32)) = σ1 at k0 e15
  have i15 : (σ1 0 15).toInt = 1 := by rw [e15, ad1 (by omega), h15]; rfl
  have d01 : DDq σ σ1 := dd_k k0 rfl rfl
  have hG1 : RGm kd n S m lo σ1 := rgm_dd hG.1 d01 (by rw [k0 0 12 rfl rfl]; exact rgq_0 hG.1)
  refine cj_wpE_expression (Q1 := EPq kd n S m lo 0 1 0 p σ1 τ vs) (Q2 := fun _ s _ _ => FSs σ1 s) (T1 := fun _ _ _ => F0) (T2 := fun _ _ _ => True) (fun u s17 t z he hs => ?_) (fun _ _ _ h _ => h) (er_expr p σ1 τ vs _ F0 hG1 (gm_k hg (k0 0 10 rfl rfl)) (fun u s t z he => he) (fun hn => kn (hn []))) (fs_expr fs_rf (fun _ _ _ _ h => h) (fun _ _ _ => trivial))
  obtain ⟨p', l, h1, h2, h3, h4, h5, h6, h7, h8, h9, K, T, H, Z, F', I, X, g1, g2, g3, g4⟩ := he
  have hv : PVq kd 0 1 0 p [] (some (p', l)) := h1 []
  have e17 : s17 0 15 = σ1 0 15 := hs.1
  have e12 : s17 0 12 = σ 0 12 := by rw [hs.2 (by rw [i15]; decide), k0 0 12 rfl rfl]
  have kS : Kp [(0, 15), (0, 17)] [] s17 (upC (upC s17 0 15 ((s17 0 15) - (1 : Int32))) 0 17 (σ 0 17)) := kp_f (kp_f kp_rf rfl) rfl
  have f15 : (upC (upC s17 0 15 ((s17 0 15) - (1 : Int32))) 0 17 (σ 0 17)) 0 15 = σ 0 15 := by
    rw [rdA_ne (by decide), rdA_eq rfl]
    exact ieq (by rw [e17, sb1 (by rw [i15]; decide), i15, h15]; rfl)
  generalize hsE : upC (upC s17 0 15 ((s17 0 15) - (1 : Int32))) 0 17 (σ 0 17) = sE at kS f15
  have dE : DDq s17 sE := dd_k kS rfl rfl
  have eE : sE 0 12 = σ 0 12 := by rw [kS 0 12 rfl rfl, e12]
  have hGE : RGs kd vl n S m lo d sE := by
    obtain ⟨q1, q2, q3, q4, q5⟩ := hG
    refine ⟨rgm_dd h6 dE (by rw [eE]; exact rgq_0 q1), by rw [kS 0 54 rfl rfl, h4 0 54 rfl rfl, k0 0 54 rfl rfl]; exact q2, ?_, by rw [f15]; exact q4, ?_⟩
    · rw [kS 0 49 rfl rfl, h4 0 49 rfl rfl, k0 0 49 rfl rfl]
      exact q3
    · rw [show sE 6 = σ 6 from funext (fun j => by rw [kS 6 j rfl rfl, h4 6 j rfl rfl, k0 6 j rfl rfl])]
      exact q5
  have fin : ∀ v : Int32, (v.toInt = if F' = 1 ∧ 1 ≤ X.toInt then X.toInt else -1) → Q v sE t z := fun v hv2 =>
    kk v sE t z p' l σ1 s17 K T H Z F' X hv h2 (gm_k h3 (kS 0 10 rfl rfl)) hGE eE (by rw [kS 0 57 rfl rfl, h4 0 57 rfl rfl, k0 0 57 rfl rfl]) h7 (pv_act hv) (by rw [i15]; decide) (k0 0 12 rfl rfl) d01 dE (g4 0 (by
      unfold ROq rmq
      rw [if_pos rfl]
      omega)) h4 (kp_tr (kp_sub k0 rfl rfl) (kp_tr (kp_sub h4 rfl rfl) (kp_sub kS rfl rfl))) hv2
  obtain ⟨m1, m0, m3, m5, m6, m7, m2⟩ := g1
  rw [m6]
  refine fun _ => ⟨fun c => fin _ (by rw [if_neg (fun hx => c hx.1)]; rfl), fun c => mr_isInt ⟨m1, m0, m3, m5, m6, m7, m2⟩ (fun hT => ⟨fun hx => absurd hx (by decide), fun _ => ?_⟩) (fun hT => absurd (g2.2.2.2.2.1 c) hT)⟩
  rw [m7 c]
  exact ⟨fun c1 => fin _ (by rw [if_neg (fun hx => by omega)]; rfl), fun c1 => fin _ (by rw [if_pos ⟨c, c1⟩])⟩
end SIZ2
end

section
/-! the reference looks ahead: how many initials -/
section RTD
variable {σ s τ t : St} {kd : Nat → Int} {n p q : Nat} {vs z : List Nat}
theorem rk_to (tk : RTk σ kd n) (hq : q ≤ n) (c : Nat) (hc : c ≤ 62) {j : Int} (hj : rkI (c : Int) = j) : (σ 2 q).toInt = j ↔ kd q = (c : Int) := by
  rw [tk.2.1 q hq]
  exact ⟨fun h => rk_one (tk.2.2.1 q) (by omega) (by rw [h, hj]), fun h => by rw [h, hj]⟩
theorem mr_told {Q : Int32 → Prop} (tk : RTk σ kd n) (g : GMt σ n p) (hp : p < n) (h6 : kd (p + 1) = 4 → (σ 6 (p + 1)).toInt < 2147483647)
    (ka : ALq kd (p + 1) → ∀ v : Int32, v.toInt = (σ 6 (p + 1)).toInt + 1 → Q v) (kb : kd (p + 1) = 22 → ∀ v : Int32, TDq kd (p + 1) 1 0 v.toInt → Q v) (kc : ¬ ALq kd (p + 1) → kd (p + 1) ≠ 22 → Q (-1)) : pp_told σ τ vs Q := by
  have hn := tk.1
  have g1 := g.1
  have e1 : ((σ 0 10) + (1 : Int32)).toInt = ((p + 1 : Nat) : Int) := by rw [ad1 (by omega), g1]; rfl
  have e2 : (((σ 0 10) + (1 : Int32)) + (1 : Int32)).toInt = ((p + 2 : Nat) : Int) := by rw [ad1 (by omega), e1]; rfl
  have n1 : ((σ 0 10) + (1 : Int32)).toNatClampNeg = p + 1 := nat_of e1
  have n2 : (((σ 0 10) + (1 : Int32)) + (1 : Int32)).toNatClampNeg = p + 2 := nat_of e2
  have r4 := rk_to tk (q := p + 1) (by omega) 4 (by decide) (j := 4) (by decide)
  have r22 := rk_to tk (q := p + 1) (by omega) 22 (by decide) (j := 54) (by decide)
  unfold pp_told
  rw [n1, n2]
  refine fun _ => ⟨fun y => p + 2 ≤ n → (y.toInt ≠ 0 ↔ kd (p + 2) = 26 ∨ kd (p + 2) = 27), fun y _ hy _ => ⟨fun c4 _ => ⟨fun c22 => ?_, fun c22 => kc (fun h => c4 (r4.2 h.1)) (fun h => c22 (r22.2 h))⟩, fun c4 => ?_⟩, (p + 2 ≤ n → kd (p + 2) = 26 ∨ kd (p + 2) = 27), fun hj hp2 => ⟨fun _ => hj hp2, fun _ => by decide⟩, fun c hp2 => ?_, fun c _ => ⟨fun c2 hp2 => ⟨fun hx => absurd rfl hx, fun hx => ?_⟩, fun c2 hp2 => ?_⟩⟩
  · have k22 : kd (p + 1) = 22 := r22.1 c22
    refine ⟨fun x1 x3 x4 => ∃ q : Nat, x1.toInt = (q : Int) ∧ q ≤ n ∧ (-(q : Int) ≤ x3.toInt ∧ x3.toInt ≤ q + 1) ∧ (-(q : Int) ≤ x4.toInt ∧ x4.toInt ≤ q) ∧ ∀ R, TDq kd q x3.toInt x4.toInt R → TDq kd (p + 1) 1 0 R, ⟨p + 1, e1, by omega, ⟨by rw [i1]; omega, by rw [i1]; omega⟩, ⟨by rw [i0]; omega, by rw [i0]; omega⟩, fun R h => h⟩, ?_⟩
    rintro x1 x3 x4 ⟨q, hx, hq, ⟨a1, a2⟩, ⟨b1, b2⟩, hT⟩
    have nq : x1.toNatClampNeg = q := nat_of hx
    rw [nq]
    have z0 := rk_to tk hq 0 (by decide) (j := 0) (by decide)
    have z1 := rk_to tk hq 1 (by decide) (j := 1) (by decide)
    refine fun _ => ⟨fun c0 => kb k22 x3 (hT _ (ev_up (ev_t (Or.inl (z0.1 c0)) ev_c))), fun c0 _ => ⟨fun c1 => kb k22 x3 (hT _ (ev_up (ev_t (Or.inr (z1.1 c1)) ev_c))), fun c1 _ => ?_⟩⟩
    have k0 : kd q ≠ 0 := fun h => c0 (z0.2 h)
    have k1 : kd q ≠ 1 := fun h => c1 (z1.2 h)
    have hrr : ∀ a : Nat, a < 63 → 0 ≤ rkI (a : Int) ∧ rkI (a : Int) ≤ 100 := by decide
    have h2 := hrr (kd q).toNat (by have := tk.2.2.1 q; omega)
    rw [show (((kd q).toNat : Nat) : Int) = kd q from by have := tk.2.2.1 q; omega] at h2
    have hr : 0 ≤ (σ 2 q).toInt ∧ (σ 2 q).toInt ≤ 100 := by rw [tk.2.1 q hq]; exact h2
    have es : ((σ 2 q) - (32 : Int32)).toInt = (σ 2 q).toInt - 32 := sbc (n := 32) (by decide) (by omega) (by omega)
    have hqn : q < n := by
      have := tk.2.2.2.2
      have := tk.2.2.1 n
      by_cases c2 : q = n
      · rw [c2] at k0 k1
        omega
      · omega
    have sg : ∀ (c : Nat) (j : Int), c ≤ 62 → rkI (c : Int) = j + 32 → (((σ 2 q) - (32 : Int32)).toInt = j ↔ kd q = (c : Int)) := fun c j hc hj => by
      rw [es]
      have := rk_to tk hq c hc hj
      omega
    have s20 := sg 20 20 (by decide) (by decide)
    have s21 := sg 21 21 (by decide) (by decide)
    have s22 := sg 22 22 (by decide) (by decide)
    have s23 := sg 23 23 (by decide) (by decide)
    have s24 := sg 24 24 (by decide) (by decide)
    have s25 := sg 25 25 (by decide) (by decide)
    have s26 := sg 26 26 (by decide) (by decide)
    clear sg es hr h2 hrr z0 z1 c0 c1 r4 r22
    refine ⟨fun x => x.toInt = x4.toInt + (if kd q = 20 ∨ kd q = 22 ∨ kd q = 24 then 1 else 0), fun x hx4 => ⟨fun x => x.toInt = x4.toInt + opq (kd q), fun x5 hx5 => ⟨fun cz => ?_, fun cz => kb k22 x3 (hT _ (ev_up (ev_f (fun h => h.elim k0 k1) (ev_t (by rw [← hx5]; exact cz) ev_c))))⟩, (kd q = 21 ∨ kd q = 23 ∨ kd q = 25), fun hj => ?_, fun c => Or.inl (s21.1 c), fun c => ⟨fun c => Or.inr (Or.inl (s23.1 c)), fun c' => ⟨fun c'' => ?_, fun c => Or.inr (Or.inr (s25.1 c))⟩⟩⟩, (kd q = 20 ∨ kd q = 22 ∨ kd q = 24), fun hj => ?_, fun c => Or.inl (s20.1 c), fun c => ⟨fun c => Or.inr (Or.inl (s22.1 c)), fun c' => ⟨fun c'' => ?_, fun c => Or.inr (Or.inr (s24.1 c))⟩⟩⟩
    · have ox : -1 ≤ opq (kd q) ∧ opq (kd q) ≤ 1 := by
        unfold opq
        split
        · omega
        · split <;> omega
      have step : ∀ x6 : Int32, x6.toInt = (if kd q = 26 ∧ x4.toInt + opq (kd q) = 1 then x3.toInt + 1 else x3.toInt) → (∃ q_1 : Nat, (x1 + 1).toInt = (q_1 : Int) ∧ q_1 ≤ n ∧ (-(q_1 : Int) ≤ x6.toInt ∧ x6.toInt ≤ q_1 + 1) ∧ (-(q_1 : Int) ≤ x5.toInt ∧ x5.toInt ≤ q_1) ∧ ∀ R, TDq kd q_1 x6.toInt x5.toInt R → TDq kd (p + 1) 1 0 R) := fun x6 h6 => by
        refine ⟨q + 1, by rw [ad1 (by omega), hx]; rfl, hqn, ?_, ⟨by omega, by omega⟩, fun R hR => hT R (td_s k0 k1 (by rw [← hx5]; exact cz) (by rw [← h6, ← hx5]; exact hR))⟩
        rw [h6]
        split <;> constructor <;> omega
      refine ⟨fun x6 => x6.toInt = (if kd q = 26 ∧ x4.toInt + opq (kd q) = 1 then x3.toInt + 1 else x3.toInt), fun x6 h6 => step x6 h6, fun c => (if_neg (fun h => c (s26.2 h.1))).symm, fun c => ⟨fun c2 => (if_neg (fun h => c2 (by rw [hx5]; exact h.2))).symm, fun c2 => ?_⟩⟩
      show (x3 + (1 : Int32)).toInt = (if kd q = 26 ∧ x4.toInt + opq (kd q) = 1 then x3.toInt + 1 else x3.toInt)
      rw [if_pos ⟨s26.1 c, by rw [← hx5]; exact c2⟩, ad1 (by omega)]
    · have : opq (kd q) = -1 := (if_neg (by omega)).trans (if_pos hj)
      rw [if_neg (by omega)] at hx4
      show (x + (-1 : Int32)).toInt = x4.toInt + opq (kd q)
      rw [dc1 (by omega), hx4, this]
      omega
    · have n21 : ¬ (kd q = 21 ∨ kd q = 23 ∨ kd q = 25) := fun h => h.elim (fun h => c (s21.2 h)) (fun h => h.elim (fun h => c' (s23.2 h)) (fun h => c'' (s25.2 h)))
      show x.toInt = x4.toInt + opq (kd q)
      rw [show x.toInt = x4.toInt + (if kd q = 20 ∨ kd q = 22 ∨ kd q = 24 then 1 else 0) from hx4]
      unfold opq
      split
      · rfl
      · rfl
    · show (x4 + (1 : Int32)).toInt = x4.toInt + (if kd q = 20 ∨ kd q = 22 ∨ kd q = 24 then 1 else 0)
      rw [if_pos hj, ad1 (by omega)]
    · have n20 : ¬ (kd q = 20 ∨ kd q = 22 ∨ kd q = 24) := fun h => h.elim (fun h => c (s20.2 h)) (fun h => h.elim (fun h => c' (s22.2 h)) (fun h => c'' (s24.2 h)))
      show x4.toInt = x4.toInt + (if kd q = 20 ∨ kd q = 22 ∨ kd q = 24 then 1 else 0)
      rw [if_neg n20]
      omega
  · have k4 : kd (p + 1) = 4 := r4.1 c4
    have hp2 : p + 2 ≤ n := by
      by_cases c2 : p + 1 = n
      · have := tk.2.2.2.2
        rw [← c2, k4] at this
        omega
      · omega
    refine ⟨fun cy => kc (fun h => (hy hp2).2 h.2 cy) (by omega), fun cy _ => ka ⟨k4, (hy hp2).1 cy⟩ _ (ad1 (h6 k4))⟩
  · exact Or.inl ((rk_to tk hp2 26 (by decide) (j := 58) (by decide)).1 c)
  · rcases hx with h | h
    · exact fun _ => c ((rk_to tk hp2 26 (by decide) (j := 58) (by decide)).2 h)
    · exact fun _ => c2 ((rk_to tk hp2 27 (by decide) (j := 59) (by decide)).2 h)
  · exact Or.inr ((rk_to tk hp2 27 (by decide) (j := 59) (by decide)).1 c2)
end RTD
end

section
/-! the class's steps of declarations, by their acts; initials -/
def STi (a b : St) : Prop := Ko [(4, 1), (6, 3), (6, 4), (7, 7), (5, 9), (8, 15), (8, 16)] [24, 43, 17, 31, 32, 33] a b
section X1T
variable {w s r : St} {a b : Int32} {p name : Nat} {told ty lk ext cnt K T H Z F I : Int} {X : Int32} {Q : St → Prop}
theorem da_bracket0 (kk : ∀ s, Kp [(8, 6), (8, 7)] [] w s → (s 8 6).toInt = (p : Int) → (s 8 7).toInt = (if told ≤ 0 then -1 else told) → Q s) : DAq (42, p, 0, told) w Q := fun a b e0 e1 e2 e3 => by
  have e0' : b.toInt = 42 := e0
  have e2' : (atv 32100 (w 20) a).toInt = 0 := e2
  have e3' : (atv 32100 (w 21) a).toInt = told := e3
  unfold pk_X1_take
  refine ⟨fun _ => ⟨fun _ => ⟨fun c => ?_, fun c => ?_⟩, fun c => absurd e2' c⟩, fun c => absurd e0' c⟩
  · refine kk _ (kp_f (kp_f kp_rf rfl) rfl) (by rw [rdA_ne (by decide), rdA_eq rfl]; exact e1) ?_
    rw [rdA_eq rfl, if_pos (by omega)]
    rfl
  · refine kk _ (kp_f (kp_f kp_rf rfl) rfl) (by rw [rdA_ne (by decide), rdA_eq rfl]; exact e1) ?_
    rw [rdA_eq rfl, if_neg (by omega)]
    exact e3'
theorem da_bracket1 (kk : ∀ s, Kp [(8, 6), (8, 7)] [] w s → (s 8 6).toInt = (p : Int) → s 8 7 = w 8 8 → Q s) : DAq (42, p, 1, told) w Q := fun a b e0 e1 e2 e3 => by
  have e0' : b.toInt = 42 := e0
  have e2' : (atv 32100 (w 20) a).toInt = 1 := e2
  unfold pk_X1_take
  refine ⟨fun _ => ⟨fun c => absurd (e2'.symm.trans c) (by decide), fun _ => kk _ (kp_f (kp_f kp_rf rfl) rfl) (by rw [rdA_ne (by decide), rdA_eq rfl]; exact e1) (rdA_eq rfl)⟩, fun c => absurd e0' c⟩
theorem da_var (h : ∀ a b c : Int32, a.toInt = (name : Int) → b.toInt = ty → c.toInt = lk → pk_X1_variable a b c w Q) : DAq (43, name, ty, lk) w Q := fun a b e0 e1 e2 e3 => by
  have e0' : b.toInt = 43 := e0
  unfold pk_X1_take
  exact ⟨fun c => absurd (e0'.symm.trans c) (by decide), fun _ => ⟨fun _ => h _ _ _ e1 e2 e3, fun c => absurd e0' c⟩⟩
theorem da_item (h : pk_X1_item w Q) : DAq (stp 44 p) w Q := fun a b e0 e1 e2 e3 => by
  have e0' : b.toInt = 44 := e0
  unfold pk_X1_take
  exact ⟨fun c => absurd (e0'.symm.trans c) (by decide), fun _ => ⟨fun c => absurd (e0'.symm.trans c) (by decide), fun _ => ⟨fun _ => h, fun c => absurd e0' c⟩⟩⟩
theorem da_fill (h : ∀ a : Int32, a.toInt = (p : Int) → pk_X1_fill a w Q) : DAq (stp 45 p) w Q := fun a b e0 e1 e2 e3 => by
  have e0' : b.toInt = 45 := e0
  unfold pk_X1_take
  exact ⟨fun c => absurd (e0'.symm.trans c) (by decide), fun _ => ⟨fun c => absurd (e0'.symm.trans c) (by decide), fun _ => ⟨fun c => absurd (e0'.symm.trans c) (by decide), fun _ => ⟨fun _ => h _ e1, fun c => absurd e0' c⟩⟩⟩⟩
theorem da_init {k : Int} (h : ∀ a b : Int32, a.toInt = (p : Int) → b.toInt = k → pk_X1_initial a b w Q) : DAq (46, p, k, 0) w Q := fun a b e0 e1 e2 e3 => by
  have e0' : b.toInt = 46 := e0
  unfold pk_X1_take
  exact ⟨fun c => absurd (e0'.symm.trans c) (by decide), fun _ => ⟨fun c => absurd (e0'.symm.trans c) (by decide), fun _ => ⟨fun c => absurd (e0'.symm.trans c) (by decide), fun _ => ⟨fun c => absurd (e0'.symm.trans c) (by decide), fun _ => ⟨fun _ => h _ _ e1 e2, fun c => absurd e0' c⟩⟩⟩⟩⟩
theorem sti_x {j : Nat} (h : STx j w s) : STi w s := ko_sub h.1 rfl rfl
theorem sti_tr (h : STi w s) (g : STi s r) : STi w r := ko_tr h g
theorem sti_kp {fs : List (Nat × Nat)} {cs : List Nat} (h : Kp fs cs w s) (s1 : fs.all (fun x => [(4, 1), (6, 3), (6, 4), (7, 7), (5, 9), (8, 15), (8, 16)].contains x || [24, 43, 17, 31, 32, 33].contains x.1) = true) (s2 : cs.all (fun x => [24, 43, 17, 31, 32, 33].contains x) = true) : STi w s := ko_sub (ko_kp h) s1 s2
/-- an initial suits -/
def SUq (w : St) (T Z F : Int) : Prop := ((T = (w 8 11).toInt ∧ (w 8 11).toInt ≠ -1) ∨ (0 < (w 8 11).toInt ∧ Z ≠ 0)) ∧ ((w 8 9).toInt ≠ 0 ∨ F ≠ 0)
theorem xi_suits {u : Nat} {Q : Int32 → Prop} (h1 : (w u 1).toInt = T) (h3 : (w u 3).toInt = Z) (h6 : (w u 6).toInt = F) (k1 : SUq w T Z F → Q 1) (k0 : ¬ SUq w T Z F → Q 0) : pk_X1_suits u w Q := by
  unfold pk_X1_suits
  refine xl_fits h1 h3 (fun v hv1 hv2 => ⟨fun c => k0 (fun h => ?_), fun c => ?_⟩)
  · have := hv2.2 h.1
    omega
  have hf := hv2.1 (hv1.elim (fun e => absurd e c) id)
  refine ⟨fun c2 => k1 ⟨hf, Or.inl c2⟩, fun c2 => ?_⟩
  unfold pk_X6_isInitial
  rw [h6]
  exact ⟨fun c3 => ⟨fun _ => k0 (fun h => h.2.elim (fun h => h c2) (fun h => h c3)), fun hx => absurd rfl hx⟩, fun c3 => ⟨fun hx => absurd hx (by decide), fun _ => k1 ⟨hf, Or.inr c3⟩⟩⟩
theorem xi_put {u : Nat} (kk : ∀ s, Kp [(4, 1), (5, 9)] [31, 32, 33] w s → Q s) : pk_X1_putInitial a u w Q := by
  unfold pk_X1_putInitial pk_X0_cut pk_X6_isConstant pk_X8_addInitial
  exact ⟨fun _ => ⟨fun _ => True, fun _ _ => kk _ (kp_f (kp_F (kp_F (kp_F (kp_f kp_rf rfl) rfl) rfl) rfl) rfl), fun _ => trivial, fun _ => trivial⟩, fun _ => ⟨fun _ => True, fun _ _ => kk _ (kp_f (kp_F (kp_F (kp_F (kp_f kp_rf rfl) rfl) rfl) rfl) rfl), fun _ => trivial, fun _ => trivial⟩⟩
theorem xi_store (kk : ∀ s, Kp [(4, 1)] [24] w s → Q s) : pk_X1_storeLocal w Q := by
  unfold pk_X1_storeLocal
  exact xl_emit (fun _ s ks => xl_emit (fun _ s2 k2 => kk s2 (kp_tr ks k2)))
/-- an item of an array's initial -/
theorem xi_item (hc : (w 7 7).toInt = 1) (hA : AVq w 65 K T H Z F X I) (hk : 0 ≤ K ∧ K ≤ 3) (h15 : (w 8 15).toInt = cnt) (hcn : 0 ≤ cnt ∧ cnt ≤ 20000) (kk : ∀ s, STi w s → (s 7 7).toInt = 0 → s 6 3 = w 6 3 → (s 8 15).toInt = cnt + 1 → ((s 8 16).toInt ≠ 0 ↔ (w 8 16).toInt ≠ 0 ∨ (w 8 12).toInt ≤ cnt ∨ ¬ SUq w T Z F) → Q s) : pk_X1_item w Q := by
  unfold pk_X1_item
  refine xl_pop (j := 0) (by rw [hc]; rfl) (by omega) hA hk (fun s ks e6 e7 hA2 => ?_)
  have e15 : s 8 15 = w 8 15 := ks.1 8 15 (op_lt (by decide)) rfl rfl
  have e16 : s 8 16 = w 8 16 := ks.1 8 16 (op_lt (by decide)) rfl rfl
  have e12 : s 8 12 = w 8 12 := ks.1 8 12 (op_lt (by decide)) rfl rfl
  have e11 : s 8 11 = w 8 11 := ks.1 8 11 (op_lt (by decide)) rfl rfl
  have e9 : s 8 9 = w 8 9 := ks.1 8 9 (op_lt (by decide)) rfl rfl
  have su : SUq s T Z F ↔ SUq w T Z F := by unfold SUq; rw [e11, e9]
  have good : ∀ s2, Kp [(4, 1), (5, 9)] [24, 31, 32, 33] s s2 → ¬ ((w 8 12).toInt ≤ cnt) → SUq w T Z F → Q (upC s2 8 15 ((s2 8 15) + (1 : Int32))) := fun s2 k2 h1 h2 => by
    have k3 : Kp [(4, 1), (5, 9), (8, 15)] [24, 31, 32, 33] s (upC s2 8 15 ((s2 8 15) + (1 : Int32))) := kp_f (kp_sub k2 rfl rfl) rfl
    refine kk _ (sti_tr (sti_x ks) (sti_kp k3 rfl rfl)) (by rw [k3 7 7 rfl rfl]; exact e7) ((k3 6 3 rfl rfl).trans e6) (by rw [rdA_eq rfl, k2 8 15 rfl rfl, e15, ad1 (by omega), h15]) ?_
    rw [k3 8 16 rfl rfl, e16]
    exact ⟨fun h => Or.inl h, fun h => h.elim id (fun h => absurd h (fun h => h.elim h1 (fun h => h h2)))⟩
  have bad : ((w 8 12).toInt ≤ cnt ∨ ¬ SUq w T Z F) → Q (upC (upC s 8 16 (1 : Int32)) 8 15 ((s 8 15) + (1 : Int32))) := fun hb => by
    have k3 : Kp [(8, 15), (8, 16)] [] s (upC (upC s 8 16 (1 : Int32)) 8 15 ((s 8 15) + (1 : Int32))) := kp_f (kp_f kp_rf rfl) rfl
    refine kk _ (sti_tr (sti_x ks) (sti_kp k3 rfl rfl)) (by rw [k3 7 7 rfl rfl]; exact e7) ((k3 6 3 rfl rfl).trans e6) (by rw [rdA_eq rfl, e15, ad1 (by omega), h15]) ?_
    rw [rdA_ne (by decide), rdA_eq rfl]
    exact ⟨fun _ => Or.inr hb, fun _ => by decide⟩
  refine ⟨(w 8 12).toInt ≤ cnt ∨ ¬ SUq w T Z F, bad, fun c => Or.inl (by rw [← h15, ← e15, ← e12]; exact c), fun c => xi_suits hA2.2.1 hA2.2.2.2.1 hA2.2.2.2.2.1 (fun hs => ⟨fun _ => ⟨fun _ => xi_put (fun s2 k2 => good s2 (kp_sub k2 rfl rfl) (by rw [← h15, ← e15, ← e12]; omega) (su.1 hs)), fun _ => xl_emit (fun _ s2 k2 => good s2 (kp_sub k2 rfl rfl) (by rw [← h15, ← e15, ← e12]; omega) (su.1 hs))⟩, fun hx => absurd hx (by decide)⟩) (fun hs => ⟨fun hx => absurd rfl hx, fun _ => Or.inr (fun h => hs (su.2 h))⟩)⟩
/-- the end of an initial -/
theorem xi_end (h0 : (w 6 3).toInt = 0) (kk : ∀ s, Kp [(6, 3), (6, 4)] [] w s → ((s 6 3).toInt ≠ 0 ↔ (w 8 16).toInt ≠ 0 ∨ (w 8 13).toInt ≠ 0) → Q s) : ∃ J103 : Prop, (J103 → (pk_X11_fail (2 : Int32) a w (fun s109 => Q s109))) ∧ (((w 8 16).toInt ≠ 0 → (J103)) ∧ ((w 8 16).toInt = 0 → (((w 8 13).toInt = 0 → (Q w)) ∧ ((w 8 13).toInt ≠ 0 → (J103))))) :=
  ⟨(w 8 16).toInt ≠ 0 ∨ (w 8 13).toInt ≠ 0, fun hj => xl_fail (by decide) (fun s ks hs => kk s ks ⟨fun _ => hj, fun _ => hs⟩), fun c => Or.inl c, fun c => ⟨fun c2 => kk w kp_rf ⟨fun h => absurd h0 h, fun h => h.elim (fun h => absurd c h) (fun h => absurd c2 h)⟩, fun c2 => Or.inr c2⟩⟩
theorem xi_init0 (hb : b.toInt = 0) (h0 : (w 6 3).toInt = 0) (hc : (w 7 7).toInt = 1) (hA : AVq w 65 K T H Z F X I) (hk : 0 ≤ K ∧ K ≤ 3) (kk : ∀ s, STi w s → (s 7 7).toInt = 0 → ((s 6 3).toInt ≠ 0 ↔ ¬ ((w 8 12).toInt = -1 ∧ SUq w T Z F) ∨ (w 8 13).toInt ≠ 0) → Q s) : pk_X1_initial a b w Q := by
  unfold pk_X1_initial
  refine ⟨fun s => STi w s ∧ (s 7 7).toInt = 0 ∧ (s 6 3).toInt = 0 ∧ s 8 13 = w 8 13 ∧ ((s 8 16).toInt ≠ 0 ↔ ¬ ((w 8 12).toInt = -1 ∧ SUq w T Z F)), fun s hs => ?_, fun _ => ⟨fun c => absurd hb c, fun _ => ?_⟩, fun c => absurd (hb.symm.trans c) (by decide)⟩
  · obtain ⟨g1, g2, g3, g4, g5⟩ := hs
    refine xi_end g3 (fun s2 k2 h2 => kk s2 (sti_tr g1 (sti_kp k2 rfl rfl)) (by rw [k2 7 7 rfl rfl]; exact g2) ?_)
    rw [h2, g5, g4]
  · refine xl_pop (j := 0) (by rw [hc]; rfl) (by omega) hA hk (fun s ks e6 e7 hA2 => ?_)
    have e12 : s 8 12 = w 8 12 := ks.1 8 12 (op_lt (by decide)) rfl rfl
    have e11 : s 8 11 = w 8 11 := ks.1 8 11 (op_lt (by decide)) rfl rfl
    have e9 : s 8 9 = w 8 9 := ks.1 8 9 (op_lt (by decide)) rfl rfl
    have e13 : s 8 13 = w 8 13 := ks.1 8 13 (op_lt (by decide)) rfl rfl
    have su : SUq s T Z F ↔ SUq w T Z F := by unfold SUq; rw [e11, e9]
    refine ⟨fun y => (y.toInt ≠ 0 ↔ ¬ ((w 8 12).toInt = -1 ∧ SUq w T Z F)), fun y _ hy => ?_, ¬ ((w 8 12).toInt = -1 ∧ SUq w T Z F), fun hj => ⟨fun _ => hj, fun _ => by decide⟩, fun c h => c (by rw [e12]; exact h.1), fun c => xi_suits hA2.2.1 hA2.2.2.2.1 hA2.2.2.2.2.1 (fun hs => ⟨fun _ => ⟨fun hx => absurd rfl hx, fun hx => absurd ⟨by rw [← e12]; exact c, su.1 hs⟩ hx⟩, fun hx => absurd hx (by decide)⟩) (fun hs => ⟨fun hx => absurd rfl hx, fun _ h => hs (su.2 h.2)⟩)⟩
    have fin : ∀ s2, Kp [(4, 1), (5, 9)] [24, 31, 32, 33] (upC s 8 16 y) s2 → STi w s2 ∧ (s2 7 7).toInt = 0 ∧ (s2 6 3).toInt = 0 ∧ s2 8 13 = w 8 13 ∧ ((s2 8 16).toInt ≠ 0 ↔ ¬ ((w 8 12).toInt = -1 ∧ SUq w T Z F)) := fun s2 k2 => by
      have k3 : Kp [(4, 1), (5, 9), (8, 16)] [24, 31, 32, 33] s s2 := kp_tr (kp_f kp_rf rfl) (kp_sub k2 rfl rfl)
      refine ⟨sti_tr (sti_x ks) (sti_kp k3 rfl rfl), by rw [k3 7 7 rfl rfl]; exact e7, by rw [k3 6 3 rfl rfl, e6]; exact h0, (k3 8 13 rfl rfl).trans e13, ?_⟩
      rw [k2 8 16 rfl rfl, rdA_eq rfl]
      exact hy
    exact ⟨fun _ => xi_put (fun s2 k2 => fin s2 (kp_sub k2 rfl rfl)), fun _ => xi_store (fun s2 k2 => fin s2 (kp_sub k2 rfl rfl))⟩
theorem xi_init1 (hb : b.toInt = 1) (h0 : (w 6 3).toInt = 0) (kk : ∀ s, STi w s → s 7 7 = w 7 7 → ((s 6 3).toInt ≠ 0 ↔ ((w 8 16).toInt ≠ 0 ∨ (w 8 12).toInt = -1) ∨ (w 8 13).toInt ≠ 0) → Q s) : pk_X1_initial a b w Q := by
  unfold pk_X1_initial
  refine ⟨fun s => Kp [(8, 16)] [] w s ∧ ((s 8 16).toInt ≠ 0 ↔ (w 8 16).toInt ≠ 0 ∨ (w 8 12).toInt = -1), fun s hs => ?_, fun c => absurd hb c, fun _ => ⟨fun y => (y.toInt ≠ 0 ↔ (w 8 16).toInt ≠ 0 ∨ (w 8 12).toInt = -1), fun y _ hy => ⟨kp_f kp_rf rfl, by rw [rdA_eq rfl]; exact hy⟩, (w 8 16).toInt ≠ 0 ∨ (w 8 12).toInt = -1, fun hj => ⟨fun _ => hj, fun _ => by decide⟩, fun c => Or.inl c, fun c => ⟨fun c2 => ⟨fun hx => absurd rfl hx, fun hx => hx.elim (fun h => absurd c h) (fun h => absurd h c2)⟩, fun c2 => Or.inr c2⟩⟩⟩
  obtain ⟨ks, hs⟩ := hs
  refine xi_end (by rw [ks 6 3 rfl rfl]; exact h0) (fun s2 k2 h2 => kk s2 (sti_tr (sti_kp ks rfl rfl) (sti_kp k2 rfl rfl)) (by rw [k2 7 7 rfl rfl, ks 7 7 rfl rfl]) ?_)
  rw [h2, hs, ks 8 13 rfl rfl]
theorem xi_init2 (hb : b.toInt = 2) (h0 : (w 6 3).toInt = 0) (kk : ∀ s, STi w s → s 7 7 = w 7 7 → ((s 6 3).toInt ≠ 0 ↔ (w 8 16).toInt ≠ 0 ∨ (w 8 13).toInt ≠ 0) → Q s) : pk_X1_initial a b w Q := by
  unfold pk_X1_initial
  refine ⟨fun s => s = w, fun s hs => ?_, fun _ => ⟨fun _ => rfl, fun c => absurd (hb.symm.trans c) (by decide)⟩, fun c => absurd (hb.symm.trans c) (by decide)⟩
  rw [hs]
  exact xi_end h0 (fun s2 k2 h2 => kk s2 (sti_kp k2 rfl rfl) (k2 7 7 rfl rfl) h2)
end X1T
end

section
/-! initials: what fits, both sides -/
section SUI
variable {w s σ τ t : St} {vs z : List Nat} {u : Nat} {a : Int32} {k ty h zz f i K T H Z F : Int} {x : Int32}
/-- an initial outside of functions -/
def INm (a T Z F : Int) : Prop := (a ≠ 0 ∧ (Z ≠ 0 ∨ (F = 2 ∧ T = a))) ∨ (a = 0 ∧ F = 1 ∧ T = 0)
theorem mr_isInitial {Q : Int32 → Prop} (hA : MVq τ u k ty h zz f x i) (kk : ∀ v : Int32, (v = 0 ∨ v = 1) → (v.toInt ≠ 0 ↔ INm a.toInt ty zz f) → Q v) : pp_isInitial u a σ τ vs Q := by
  have hA' := hA
  obtain ⟨m1, m0, m3, m5, m6, m7, m2⟩ := hA
  have y1 : INm a.toInt ty zz f → Q 1 := fun h => kk 1 (Or.inr rfl) ⟨fun _ => h, fun _ => by decide⟩
  have y0 : ¬ INm a.toInt ty zz f → Q 0 := fun h => kk 0 (Or.inl rfl) ⟨fun hx => absurd rfl hx, fun hx => absurd hx h⟩
  unfold pp_isInitial
  rw [m5, m6, m0]
  refine ⟨fun c _ => ⟨fun c1 => y1 (Or.inl ⟨c, Or.inl c1⟩), fun c1 => ⟨fun c2 => y0 ?_, fun c2 => ⟨fun c3 => y0 ?_, fun c3 => y1 (Or.inl ⟨c, Or.inr ⟨c2, c3⟩⟩)⟩⟩⟩, fun c _ => ⟨fun c1 => y0 ?_, fun c1 => mr_isInt hA' (fun c2 => ⟨fun hx => absurd hx (by decide), fun _ => y1 (Or.inr ⟨c, c1, c2⟩)⟩) (fun c2 => ⟨fun _ => y0 ?_, fun hx => absurd rfl hx⟩)⟩⟩
  · rintro (⟨_, h | h⟩ | h)
    · exact h c1
    · exact c2 h.1
    · exact c h.1
  · rintro (⟨_, h | h⟩ | h)
    · exact h c1
    · exact c3 h.2
    · exact c h.1
  · rintro (h | h)
    · exact h.1 c
    · exact c1 h.2.1
  · rintro (h | h)
    · exact h.1 c
    · exact c2 h.2.2
theorem su_local (ha : 0 ≤ (w 8 11).toInt) (h9 : (w 8 9).toInt ≠ 0) : SUq w T Z F ↔ T = (w 8 11).toInt ∨ (0 < (w 8 11).toInt ∧ Z ≠ 0) := by
  unfold SUq
  constructor
  · rintro ⟨h | h, _⟩
    · exact Or.inl h.1
    · exact Or.inr h
  · rintro (h | h)
    · exact ⟨Or.inl ⟨h, by omega⟩, Or.inl h9⟩
    · exact ⟨Or.inr h, Or.inl h9⟩
theorem su_global (hv : VRq K T H Z F) (h2 : T ≠ -2) (ha : 0 ≤ (w 8 11).toInt) (h9 : (w 8 9).toInt = 0) : SUq w T Z F ↔ INm (w 8 11).toInt T Z F := by
  obtain ⟨_, _, _, v4, v5, v6, v7, _⟩ := hv
  unfold SUq INm
  constructor
  · rintro ⟨h, h9' | hF⟩
    · exact absurd h9 h9'
    · by_cases c : (w 8 11).toInt = 0
      · rcases h with h | h
        · refine Or.inr ⟨c, ?_, by omega⟩
          by_cases f1 : F = 1
          · exact f1
          · have f2 : F = 2 := by omega
            have := v6 f2
            omega
        · omega
      · refine Or.inl ⟨c, ?_⟩
        rcases h with h | h
        · by_cases f2 : F = 2
          · exact Or.inr ⟨f2, h.1⟩
          · have f1 : F = 1 := by omega
            have := v5 f1
            omega
        · exact Or.inl h.2
  · rintro (⟨c, h | h⟩ | ⟨c, h1, h3⟩)
    · exact ⟨Or.inr ⟨by omega, h⟩, Or.inr (by rw [v4 h]; decide)⟩
    · exact ⟨Or.inl ⟨h.2, by omega⟩, Or.inr (by rw [h.1]; decide)⟩
    · exact ⟨Or.inl ⟨by omega, by omega⟩, Or.inr (by rw [h1]; decide)⟩
end SUI
end

section
/-! the class's steps: a string that fills, a variable -/
section XVA
variable {w s r : St} {a b c : Int32} {u : Nat} {Q : St → Prop}
theorem xi_fill (hu : a.toInt = (u : Int)) (hun : u < 16002) (hv : 0 ≤ (w 14 u).toInt ∧ (w 14 u).toInt ≤ 200) (kk : ∀ s, STi w s → s 7 7 = w 7 7 → s 6 3 = w 6 3 → ((s 8 16).toInt ≠ 0 ↔ (w 8 12).toInt < (w 14 u).toInt) → Q s) : pk_X1_fill a w Q := by
  unfold pk_X1_fill
  refine xl_readCodes hu hun hv (fun v s hvv ks => ?_)
  have e12 : s 8 12 = w 8 12 := ks 8 12 rfl rfl
  rw [e12, hvv]
  refine ⟨fun y => (y.toInt ≠ 0 ↔ (w 8 12).toInt < (w 14 u).toInt), fun y _ hy => ⟨fun _ s2 => STi w s2 ∧ s2 7 7 = w 7 7 ∧ s2 6 3 = w 6 3 ∧ ((s2 8 16).toInt ≠ 0 ↔ (w 8 12).toInt < (w 14 u).toInt), ⟨?_, ?_, ?_, ?_⟩, ?_⟩, fun cc => ⟨fun hx => absurd rfl hx, fun hx => by omega⟩, fun cc => ⟨fun _ => cc, fun _ => by decide⟩⟩
  · have k2 : Kp [(8, 16)] [17] w (upC s 8 16 y) := kp_f (kp_sub ks rfl rfl) rfl
    exact sti_kp k2 rfl rfl
  · rw [rdC_ne (by decide), ks 7 7 rfl rfl]
  · rw [rdC_ne (by decide), ks 6 3 rfl rfl]
  · rw [rdA_eq rfl]
    exact hy
  rintro x s2 ⟨g1, g2, g3, g4⟩
  have more : ∀ s3, Kp [(4, 1), (5, 9)] [24, 31, 32, 33] s2 s3 → STi w s3 ∧ s3 7 7 = w 7 7 ∧ s3 6 3 = w 6 3 ∧ ((s3 8 16).toInt ≠ 0 ↔ (w 8 12).toInt < (w 14 u).toInt) := fun s3 k3 => ⟨sti_tr g1 (sti_kp k3 rfl rfl), (k3 7 7 rfl rfl).trans g2, (k3 6 3 rfl rfl).trans g3, by rw [k3 8 16 rfl rfl]; exact g4⟩
  refine ⟨fun _ => kk s2 g1 g2 g3 g4, fun _ => ⟨fun _ => kk s2 g1 g2 g3 g4, fun _ => ⟨fun s3 => STi w s3 ∧ s3 7 7 = w 7 7 ∧ s3 6 3 = w 6 3 ∧ ((s3 8 16).toInt ≠ 0 ↔ (w 8 12).toInt < (w 14 u).toInt), fun s3 h3 => h3, fun _ => ?_, fun _ => xl_emit (fun _ s3 k3 => more s3 (kp_sub k3 rfl rfl))⟩⟩⟩
  unfold pk_X8_addInitial
  exact more _ (kp_f (kp_F (kp_F (kp_F kp_rf rfl) rfl) rfl) rfl)
/-- the size that a variable gets -/
def EXw (w : St) : Int := if 0 ≤ (w 8 6).toInt then (if 1 ≤ (w 8 7).toInt ∧ (w 8 7).toInt ≤ 4000 then (w 8 7).toInt else 0) else -1
theorem xv_variable (h66 : 0 ≤ (w 6 6).toInt) (kk : ∀ (w2 : St) (y : Int32), Kp [(8, 9), (8, 11), (8, 12), (8, 13), (8, 15), (8, 16)] [] w w2 → w2 8 11 = b → (w2 8 12).toInt = EXw w → (w2 8 15).toInt = 0 → (w2 8 16).toInt = 0 → (w2 8 9).toInt ≠ 0 → ((w2 8 13).toInt ≠ 0 ↔ (c &&& (3 : Int32)).toInt = 2) → (y.toInt ≠ 0 ↔ (c &&& (4 : Int32)).toInt ≠ 0) → pk_X1_local a y w2 (fun s => Q (upC s 8 6 ((-1) : Int32)))) : pk_X1_variable a b c w Q := by
  unfold pk_X1_variable
  refine ⟨fun y => (y.toInt ≠ 0 ↔ (c &&& (4 : Int32)).toInt ≠ 0), fun y _ hy => ⟨fun x => x.toInt = EXw w, fun x hx => ⟨fun y2 => y2.toInt ≠ 0, fun y2 _ h2 => ⟨fun y3 => (y3.toInt ≠ 0 ↔ (c &&& (3 : Int32)).toInt = 2), fun y3 _ h3 => ⟨fun cc => absurd cc h2, fun _ => kk _ y (kp_f (kp_f (kp_f (kp_f (kp_f (kp_f kp_rf rfl) rfl) rfl) rfl) rfl) rfl) ?_ ?_ ?_ ?_ ?_ ?_ hy⟩, fun cc => ⟨fun hx => absurd rfl hx, fun hx => absurd hx cc⟩, fun cc => ⟨fun _ => cc, fun _ => by decide⟩⟩, fun cc => by omega, fun _ => by decide⟩, fun cc => ⟨EXw w = 0, fun hj => hj.symm, fun c1 => ?_, fun c1 => ⟨fun c2 => ?_, fun c2 => ?_⟩⟩, fun cc => ?_⟩, fun cc => ⟨fun hx => absurd rfl hx, fun hx => absurd cc hx⟩, fun cc => ⟨fun _ => cc, fun _ => by decide⟩⟩
  · rw [rdA_ne (by decide), rdA_ne (by decide), rdA_ne (by decide), rdA_ne (by decide), rdA_ne (by decide), rdA_eq rfl]
  · rw [rdA_ne (by decide), rdA_ne (by decide), rdA_ne (by decide), rdA_ne (by decide), rdA_eq rfl]
    exact hx
  · rw [rdA_ne (by decide), rdA_ne (by decide), rdA_ne (by decide), rdA_eq rfl]
    rfl
  · rw [rdA_ne (by decide), rdA_ne (by decide), rdA_eq rfl]
    rfl
  · rw [rdA_ne (by decide), rdA_eq rfl]
    exact h2
  · rw [rdA_eq rfl]
    exact h3
  · unfold EXw
    rw [if_pos cc, if_neg (fun h => by omega)]
  · unfold EXw
    rw [if_pos cc, if_neg (fun h => by omega)]
  · show (w 8 7).toInt = EXw w
    unfold EXw
    rw [if_pos cc, if_pos ⟨c1, c2⟩]
  · show ((-1 : Int32)).toInt = EXw w
    unfold EXw
    rw [if_neg (fun h => by omega)]
    rfl
end XVA
end

section
/-! the reference: one initial within functions -/
section RON
variable {w s r σ σ' τ t : St} {kd vl : Nat → Int} {n S m lo d p : Nat} {vs z : List Nat} {a1 a2 a3 a4 : Int32} {F0 : Prop}
theorem es_one {Q : Int32 → St → St → List Nat → Prop} (h4 : a4.toInt ≠ 0) (hG : RGs kd vl n S m lo d σ) (hg : GMt σ n p)
    (kk : ∀ (v : Int32) s t z p' l s8 K T H Z F X, EVq (fun N => EXn kd N p) (some (p', gqs l)) → p < p' → GMt s n p' → RGs kd vl n S m lo d s → MNq σ s → s 0 57 = σ 0 57 → TFq τ vs t z → (∀ y, y ∈ l → 1 ≤ y.1 ∧ y.1 ≤ 16) → KEr σ s8 → VRq K T H Z F → EXq kd n S m lo 0 l σ s8 K T H Z F X → Kp [(0, 17)] [8] s8 s → (v.toInt = 0 ∨ v.toInt = 1) → (v.toInt = 1 ↔ T = a1.toInt ∨ (0 < a1.toInt ∧ Z ≠ 0)) → Q v s t z) (kn : EVq (fun N => EXn kd N p) none → F0) : pp_one_1 a1 a2 a3 a4 σ τ vs Q (fun _ _ _ => F0) := by
  unfold pp_one_1
  refine es_expr hG hg (fun u s8 t8 z8 p' l K T H Z F' I X hev hp g8 hG8 hr hm htf hu hun hmv hvr hact hex => ?_) kn
  refine mr_read hmv (fun _ s16 t16 kw hne hmv2 => ⟨fun _ => ?_, fun c => absurd c h4⟩)
  have fin : ∀ s9, Kp [(0, 17)] [8] s8 s9 → pp_fits u a1 s9 t16 z8 (fun v130 => Q v130 s9 t16 z8) := fun s9 k9 => mr_fits hmv2 (fun v hv1 hv2 =>
    kk v s9 t16 z8 p' l s8 K T H Z F' X hev hp (gm_k g8 (k9 0 10 rfl rfl)) (rg_ds hG8 (ds_k k9 rfl rfl) (by rw [k9 0 12 rfl rfl]; exact rgq_0 hG8.1)) (fun hx => by rw [k9 0 12 rfl rfl]; exact hm hx) (by rw [k9 0 57 rfl rfl, hr 0 57 rfl rfl]) (tf_read htf hun hne) hact hr hvr hex k9 hv1 hv2)
  refine ⟨fun s9 t9 z9 => t9 = t16 ∧ z9 = z8 ∧ Kp [(0, 17)] [8] s8 s9, ?_, fun _ => ⟨rfl, rfl, kw⟩, fun _ _ => ⟨fun _ => ⟨rfl, rfl, kw⟩, fun _ => mr_put1 (fun s9 k9 => ⟨rfl, rfl, kp_tr kw k9⟩)⟩⟩
  rintro s9 t9 z9 ⟨e1, e2, k9⟩
  rw [e1, e2]
  refine ⟨fun s10 t10 z10 => t10 = t16 ∧ z10 = z8 ∧ Kp [(0, 17)] [8] s8 s10, ?_, fun _ => ⟨rfl, rfl, k9⟩, fun _ _ => ⟨fun _ => ⟨rfl, rfl, k9⟩, fun _ => mr_put0 (fun s10 k10 => ⟨rfl, rfl, kp_tr k9 k10⟩)⟩⟩
  rintro s10 t10 z10 ⟨e3, e4, k10⟩
  rw [e3, e4]
  exact fin s10 k10
end RON
end

section
/-! the reference: one initial outside of functions -/
section RONG
variable {w s r σ σ' τ t : St} {kd vl : Nat → Int} {n S m lo d p : Nat} {vs z : List Nat} {a1 a2 a3 a4 : Int32} {F0 : Prop}
theorem es_oneg {Q : Int32 → St → St → List Nat → Prop} (h4 : a4.toInt = 0) (hG : RGs kd vl n S m lo d σ) (hg : GMt σ n p)
    (kk : ∀ (v : Int32) s t z p' l s8 K T H Z F X, EVq (fun N => EXn kd N p) (some (p', gqs l)) → p < p' → GMt s n p' → RGs kd vl n S m lo d s → MNq σ s → s 0 57 = σ 0 57 → TFq τ vs t z → (∀ y, y ∈ l → 1 ≤ y.1 ∧ y.1 ≤ 16) → KEr σ s8 → VRq K T H Z F → EXq kd n S m lo 0 l σ s8 K T H Z F X → Kp [(0, 17), (0, 39)] [8, 25] s8 s → (v = 0 ∨ v = 1) → (v.toInt ≠ 0 ↔ INm a1.toInt T Z F) → Q v s t z) (kn : EVq (fun N => EXn kd N p) none → F0) : pp_one_1 a1 a2 a3 a4 σ τ vs Q (fun _ _ _ => F0) := by
  unfold pp_one_1
  refine es_expr hG hg (fun u s8 t8 z8 p' l K T H Z F' I X hev hp g8 hG8 hr hm htf hu hun hmv hvr hact hex => ?_) kn
  refine mr_read hmv (fun _ s16 t16 kw hne hmv2 => ⟨fun c => absurd h4 c, fun _ => ?_⟩)
  have kw2 : Kp [(0, 17), (0, 39)] [8, 25] s8 (upC s16 0 17 (σ 0 17)) := kp_f (kp_sub kw rfl rfl) rfl
  generalize upC s16 0 17 (σ 0 17) = s17 at kw2
  have fin : ∀ s9, Kp [(0, 17), (0, 39)] [8, 25] s8 s9 → pp_isInitial u a1 s9 t16 z8 (fun v84 => Q v84 s9 t16 z8) := fun s9 k9 => mr_isInitial hmv2 (fun v hv1 hv2 =>
    kk v s9 t16 z8 p' l s8 K T H Z F' X hev hp (gm_k g8 (k9 0 10 rfl rfl)) (rg_ds hG8 (ds_k k9 rfl rfl) (by rw [k9 0 12 rfl rfl]; exact rgq_0 hG8.1)) (fun hx => by rw [k9 0 12 rfl rfl]; exact hm hx) (by rw [k9 0 57 rfl rfl, hr 0 57 rfl rfl]) (tf_read htf hun hne) hact hr hvr hex k9 hv1 hv2)
  refine mr_isInitial hmv2 (fun v34 _ _ => ⟨fun s9 t9 z9 => t9 = t16 ∧ z9 = z8 ∧ Kp [(0, 17), (0, 39)] [8, 25] s8 s9, ?_, fun _ => ⟨rfl, rfl, kw2⟩, fun _ _ => ?_⟩)
  · rintro s9 t9 z9 ⟨e1, e2, k9⟩
    rw [e1, e2]
    exact fin s9 k9
  · exact ⟨fun _ => True, fun _ _ => ⟨fun _ => True, fun _ _ => mr_init (fun s9 k9 => ⟨rfl, rfl, kp_tr kw2 (kp_sub k9 rfl rfl)⟩), fun _ => trivial, fun _ => trivial⟩, fun _ => trivial, fun _ => trivial⟩
end RONG
end

section
/-! the reference: a string that fills -/
section RFI
variable {w s r σ σ' τ t : St} {vs z : List Nat} {a1 a2 a3 a4 : Int32}
theorem mr_fill {Q : St → St → List Nat → Prop} (kk : ∀ s, Kp [(0, 17), (0, 39)] [8, 25] σ s → Q s τ vs) : pp_fill a1 a2 a3 a4 σ τ vs Q := by
  unfold pp_fill
  refine ⟨fun _ => ⟨fun _ _ => ?_, fun _ _ => ⟨fun _ => kk _ kp_rf, fun _ _ => mr_codes (fun s ks => kk s (kp_sub ks rfl rfl))⟩⟩, fun _ => kk _ kp_rf⟩
  refine ⟨fun _ _ s t z => t = τ ∧ z = vs ∧ Kp [(0, 17)] [8] σ s, ⟨rfl, rfl, kp_rf⟩, ?_⟩
  rintro x y s t z ⟨e1, e2, ks⟩
  rw [e1, e2]
  refine fun _ => ⟨fun _ => kk s (kp_sub ks rfl rfl), fun _ => mr_put1 (fun s1 k1 => mr_put1 (fun s2 k2 => mr_put2 (fun s3 k3 => mr_code (fun v => mr_put1 (fun s4 k4 => mr_put1 (fun s5 k5 => mr_put0 (fun s6 k6 => mr_look (fun v2 => ?_))))))))⟩
  have kz : Kp [(0, 17)] [8] σ s6 := kp_tr ks (kp_tr k1 (kp_tr k2 (kp_tr k3 (kp_tr k4 (kp_tr k5 k6)))))
  exact ⟨fun _ => True, fun _ _ => ⟨rfl, rfl, kz⟩, fun _ => trivial, fun _ => trivial⟩
end RFI
end

section
/-! items of an initial: both sides -/
def STv (a b : St) : Prop := Ko [(4, 1), (6, 3), (6, 4), (7, 7), (6, 5), (5, 9), (8, 15), (8, 16)] [24, 43, 17, 31, 32, 33, 25, 39] a b
def FIm (loc : Prop) (ty T Z F : Int) : Prop := (loc ∧ (T = ty ∨ (0 < ty ∧ Z ≠ 0))) ∨ (¬ loc ∧ INm ty T Z F)
/-- the class's walk over cnt items leaves the like; ok: all of them fit -/
def IRq (kd : Nat → Int) (n S m lo : Nat) (loc : Prop) (ty : Int) (gc : List Gsq) (σ σ' : St) (cnt : Nat) (ok : Prop) : Prop :=
  (σ 0 12).toInt = 0 → ∀ w, REq kd n S m lo w σ → (w 6 3).toInt = 0 → (w 7 7).toInt = 0 → (w 8 11).toInt = ty → ((w 8 9).toInt ≠ 0 ↔ loc) → (w 8 15).toInt = 0 → (w 8 16).toInt = 0 → GWq gc w (fun s => ((s 6 3).toInt ≠ 0 → (σ' 0 12).toInt ≠ 0) ∧ ((s 6 3).toInt = 0 → (σ' 0 12).toInt = 0 ∧ REq kd n S m lo s σ' ∧ (s 7 7).toInt = 0 ∧ STv w s ∧ (s 8 15).toInt = (cnt : Int) ∧ ((s 8 16).toInt ≠ 0 ↔ ¬ ok ∨ (1 ≤ cnt ∧ (w 8 12).toInt < (cnt : Int))))) ((σ' 0 12).toInt ≠ 0)
section ITE
variable {w s r s8 s9 σ σ' σ1 τ t : St} {kd vl : Nat → Int} {n S m lo cnt p q : Nat} {loc ok : Prop} {gc : List Gsq} {l : List Stq} {K T H Z F ty : Int} {X : Int32}
theorem stk_i (h : STi w s) : STv w s := ko_sub h rfl rfl
theorem stk_e {j : Nat} (h : STe j w s) : STv w s := ko_sub h.1 rfl rfl
theorem stk_tr (h : STv w s) (g : STv s r) : STv w r := ko_tr h g
theorem su_fits (hv : VRq K T H Z F) (h2 : T ≠ -2) (h11 : (w 8 11).toInt = ty) (hty : 0 ≤ ty) (h9 : (w 8 9).toInt ≠ 0 ↔ loc) : SUq w T Z F ↔ FIm loc ty T Z F := by
  unfold FIm
  by_cases c : (w 8 9).toInt = 0
  · have nl : ¬ loc := fun h => (h9.2 h) c
    rw [su_global hv h2 (by omega) c, h11]
    exact ⟨fun h => Or.inr ⟨nl, h⟩, fun h => h.elim (fun h => absurd h.1 nl) (fun h => h.2)⟩
  · have hl : loc := h9.1 c
    rw [su_local (by omega) c, h11]
    exact ⟨fun h => Or.inl ⟨hl, h⟩, fun h => h.elim (fun h => h.2) (fun h => absurd hl h.1)⟩
theorem ir_nil : IRq kd n S m lo loc ty [] σ σ 0 True := fun h0 w hR hf h77 h11 h9 h15 h16 =>
  ⟨fun hx => absurd hf hx, fun _ => ⟨h0, hR, h77, ko_rf, h15, ⟨fun hx => absurd h16 hx, fun h => h.elim (fun h => absurd trivial h) (fun h => absurd h.1 (by decide))⟩⟩⟩
theorem ir_step (h : IRq kd n S m lo loc ty gc σ σ1 cnt ok) (hE : EXq kd n S m lo 0 l σ1 s8 K T H Z F X) (hact : ∀ y, y ∈ l → 1 ≤ y.1 ∧ y.1 ≤ 16) (hvr : VRq K T H Z F) (h15s : (σ1 0 15).toInt = 0) (k8 : Kp [(0, 17), (0, 39)] [8, 25] s8 s9) (hm : MNq σ1 s9) (hty : 0 ≤ ty) (hcn : cnt ≤ 16000) : IRq kd n S m lo loc ty (gc ++ (gqs l ++ [gq (stp 44 q)])) σ s9 (cnt + 1) (ok ∧ FIm loc ty T Z F) := by
  intro h0 w hR hf h77 h11 h9 h15 h16
  have e9 : s9 0 12 = s8 0 12 := k8 0 12 rfl rfl
  refine gv_app (gv_mono (h h0 w hR hf h77 h11 h9 h15 h16) (fun s hs => ?_) hm)
  by_cases c0 : (s 6 3).toInt = 0
  · obtain ⟨a1, a2, a3, a4, a5, a6⟩ := hs.2 c0
    refine gv_app (gv_x hact (xw_mono (hE a1 s a2 c0 a3) (fun r hr => ?_) (fun hx => by rw [e9]; exact bd_0 h15s hx)))
    by_cases c1 : (r 6 3).toInt = 0
    · obtain ⟨g1, g2, g3, g4, g5, g6, i, g7⟩ := hr.2 c1
      have k1 : STv w r := stk_tr a4 (stk_e g5)
      have f15 : r 8 15 = s 8 15 := g5.1 8 15 (op_lt (by decide)) rfl rfl
      have f16 : r 8 16 = s 8 16 := g5.1 8 16 (op_lt (by decide)) rfl rfl
      have f11 : r 8 11 = w 8 11 := k1 8 11 (op_lt (by decide)) rfl rfl
      have f9 : r 8 9 = w 8 9 := k1 8 9 (op_lt (by decide)) rfl rfl
      have f12 : r 8 12 = w 8 12 := k1 8 12 (op_lt (by decide)) rfl rfl
      have su : SUq r T Z F ↔ FIm loc ty T Z F := su_fits hvr g2 (by rw [f11]; exact h11) hty (by rw [f9]; exact h9)
      refine gv_d (x := stp 44 q) (by simp [stp]) (fun _ => da_item (xi_item (cnt := (cnt : Int)) (by rw [g6]; rfl) g7 hvr.1 (by rw [f15]; exact a5) (by omega) (fun s2 ks e7 e6 e15 e16 => ?_))) (fun hx => absurd c1 hx)
      refine ⟨fun hx => absurd (by rw [e6]; exact c1) hx, fun _ => ⟨by rw [e9]; exact g1, re_cd g4 (cd_ko ks rfl rfl) (dd_k k8 rfl rfl), e7, stk_tr k1 (stk_i ks), by rw [e15]; rfl, ?_⟩⟩
      rw [e16, f16, a6, f12, su]
      constructor
      · rintro ((h | h) | h | h)
        · exact Or.inl (fun hx => h hx.1)
        · exact Or.inr ⟨Nat.succ_le_succ (Nat.zero_le _), by have := h.2; omega⟩
        · exact Or.inr ⟨Nat.succ_le_succ (Nat.zero_le _), by omega⟩
        · exact Or.inl (fun hx => h hx.2)
      · rintro (h | h)
        · by_cases co : ok
          · exact Or.inr (Or.inr (fun hx => h ⟨co, hx⟩))
          · exact Or.inl (Or.inl co)
        · exact Or.inr (Or.inl (by have := h.2; omega))
    · have : (s9 0 12).toInt ≠ 0 := by rw [e9]; exact bd_0 h15s (hr.1 c1)
      exact gv_bad c1 this (fun s' h => ⟨fun _ => this, fun hx => absurd hx h⟩)
  · have := hm (hs.1 c0)
    exact gv_bad c0 this (fun s' h => ⟨fun _ => this, fun hx => absurd hx h⟩)
end ITE
end

section
/-! the reference: initials in { } -/
section BRA
variable {w s r s8 s9 σ σ' σ1 τ t : St} {kd vl : Nat → Int} {n S m lo d cnt p q pc p1 : Nat} {vs z : List Nat} {loc ok : Prop} {gc : List Gsq} {l : List Stq} {a1 a2 a3 a4 a5 : Int32} {F0 : Prop}
theorem it_end (c : kd p1 = 23) (h : EVq (fun N => EXn kd N pc) (some (p1, gqs l))) : EVq (fun N => ITn kd N pc) (some (p1 + 1, gqs l ++ [gq (stp 44 p1)], 1)) := ev_up (ev_b h (ev_f (show ¬ kd p1 = 26 by omega) (ev_t c ev_c)))
theorem it_bad (c : kd p1 ≠ 23) (c2 : kd p1 ≠ 26) (h : EVq (fun N => EXn kd N pc) (some (p1, gqs l))) : EVq (fun N => ITn kd N pc) none := ev_up (ev_b h (ev_f c2 (ev_f c ev_c)))
theorem it_mor2 (c : kd p1 = 26) (h : EVq (fun N => EXn kd N pc) (some (p1, gqs l))) : ∀ R, EVq (fun N => ITn kd N (p1 + 1)) R → EVq (fun N => ITn kd N pc) (R.map (fun q => (q.1, gqs l ++ [gq (stp 44 p1)] ++ q.2.1, q.2.2 + 1))) := fun R hR => by
  cases R with
  | none => exact ev_up (ev_b h (ev_t c (ev_b0 hR)))
  | some r => exact ev_up (ev_b h (ev_t c (ev_b hR ev_c)))
/-- what stands before an item -/
def BRb (kd vl : Nat → Int) (n S m lo d p : Nat) (loc : Prop) (ty : Int) (σ τ : St) (vs : List Nat) (x6 x7 : Int32) (s t : St) (z : List Nat) : Prop :=
  ∃ (pc : Nat) (gc : List Gsq) (cnt : Nat) (ok : Prop), p ≤ pc ∧ GMt s n pc ∧ RGs kd vl n S m lo d s ∧ MNq σ s ∧ KEr σ s ∧ TFq τ vs t z ∧ x7.toInt = (cnt : Int) ∧ (x6.toInt ≠ 0 ↔ ok) ∧ cnt ≤ pc ∧ IRq kd n S m lo loc ty gc σ s cnt ok ∧ ∀ R, EVq (fun N => ITn kd N pc) R → EVq (fun N => ITn kd N p) (R.map (fun q => (q.1, gc ++ q.2.1, q.2.2 + cnt)))
/-- what stands behind an item -/
def BRa (kd vl : Nat → Int) (n S m lo d p : Nat) (loc : Prop) (ty : Int) (σ τ : St) (vs : List Nat) (x6 x7 : Int32) (s t : St) (z : List Nat) : Prop :=
  ∃ (pc : Nat) (gc : List Gsq) (cnt : Nat) (ok : Prop), p < pc ∧ GMt s n pc ∧ RGs kd vl n S m lo d s ∧ MNq σ s ∧ KEr σ s ∧ TFq τ vs t z ∧ x7.toInt = (cnt : Int) ∧ (x6.toInt ≠ 0 ↔ ok) ∧ cnt < pc ∧ IRq kd n S m lo loc ty gc σ s (cnt + 1) ok ∧ (kd pc = 26 → ∀ R, EVq (fun N => ITn kd N (pc + 1)) R → EVq (fun N => ITn kd N p) (R.map (fun q => (q.1, gc ++ q.2.1, q.2.2 + (cnt + 1))))) ∧ (kd pc = 23 → EVq (fun N => ITn kd N p) (some (pc + 1, gc, cnt + 1))) ∧ (kd pc ≠ 23 → kd pc ≠ 26 → EVq (fun N => ITn kd N p) none)
theorem br_item {x6 x7 y : Int32} {K T H Z F ty : Int} {X : Int32} {t2 : St} {z2 : List Nat} (hb : BRb kd vl n S m lo d p loc ty σ τ vs x6 x7 s t z) (hpc : ∀ pc, GMt s n pc → EVq (fun N => EXn kd N pc) (some (p1, gqs l)) ∧ pc < p1) (g1 : GMt s9 n p1) (hG9 : RGs kd vl n S m lo d s9) (hm : MNq s s9) (e57 : KEr s s9) (htf : TFq t z t2 z2) (hact : ∀ y, y ∈ l → 1 ≤ y.1 ∧ y.1 ≤ 16) (hvr : VRq K T H Z F) (hex : EXq kd n S m lo 0 l s s8 K T H Z F X) (k8 : Kp [(0, 17), (0, 39)] [8, 25] s8 s9) (hty : 0 ≤ ty) (hy : y.toInt ≠ 0 ↔ x6.toInt ≠ 0 ∧ FIm loc ty T Z F) : BRa kd vl n S m lo d p loc ty σ τ vs y x7 s9 t2 z2 := by
  obtain ⟨pc, gc, cnt, ok, h1, h2, h3, h4, h5, h6, h7, h8, h9, h10, h11⟩ := hb
  obtain ⟨hev, hlt⟩ := hpc pc h2
  have hn := h3.1.1.1
  have hpn := g1.2
  refine ⟨p1, gc ++ (gqs l ++ [gq (stp 44 p1)]), cnt, ok ∧ FIm loc ty T Z F, by omega, g1, hG9, fun hx => hm (h4 hx), kp_tr h5 e57, tf_tr h6 htf, h7, by rw [hy, h8], by omega, ir_step h10 hex hact hvr h3.2.2.2.1 k8 (fun hx => hm hx) hty (by omega), fun c R hR => ?_, fun c => ?_, fun c c2 => ?_⟩
  · have := h11 _ (it_mor2 c hev R hR)
    cases R with
    | none => exact this
    | some r =>
      rw [show ((some r).map (fun q : Nat × List Gsq × Nat => (q.1, gc ++ (gqs l ++ [gq (stp 44 p1)]) ++ q.2.1, q.2.2 + (cnt + 1)))) = some (r.1, gc ++ (gqs l ++ [gq (stp 44 p1)] ++ r.2.1), r.2.2 + 1 + cnt) from by simp [List.append_assoc, Nat.add_comm, Nat.add_left_comm]]
      exact this
  · have := h11 _ (it_end c hev)
    rw [Nat.add_comm cnt 1]
    exact this
  · exact h11 _ (it_bad c c2 hev)
end BRA
end

section
/-! the reference: initials in { }, whole -/
section BRW
variable {w s r s8 s9 σ σ' σ1 τ t : St} {kd vl : Nat → Int} {n S m lo d cnt p q pc p1 : Nat} {vs z : List Nat} {loc ok : Prop} {gc : List Gsq} {l : List Stq} {a1 a2 a3 a4 a5 : Int32} {F0 : Prop} {ty : Int}
theorem ir_nil2 (h : DDq σ σ') (e12 : σ' 0 12 = σ 0 12) : IRq kd n S m lo loc ty [] σ σ' 0 True := fun h0 w hR hf h77 h11 h9 h15 h16 =>
  ⟨fun hx => absurd hf hx, fun _ => ⟨by rw [e12]; exact h0, re_cd hR cd_rf h, h77, ko_rf, h15, ⟨fun hx => absurd h16 hx, fun h => h.elim (fun h => absurd trivial h) (fun h => absurd h.1 (by decide))⟩⟩⟩
theorem ir_ref (hw : IRq kd n S m lo loc ty gc σ σ1 cnt ok) (h : DDq σ1 σ') (e12 : σ' 0 12 = σ1 0 12) : IRq kd n S m lo loc ty gc σ σ' cnt ok := fun h0 w hR hf h77 h11 h9 h15 h16 => by
  rw [e12]
  refine gv_mono (hw h0 w hR hf h77 h11 h9 h15 h16) (fun s hs => ⟨hs.1, fun c => ?_⟩) id
  obtain ⟨k1, k2, k3⟩ := hs.2 c
  exact ⟨k1, re_cd k2 cd_rf h, k3⟩
end BRW
end

section
/-! the reference: initials in { }, from { to } -/
section ESB
variable {w s r s8 s9 σ σ' σ1 τ t : St} {kd vl : Nat → Int} {n S m lo d cnt p q pc p1 : Nat} {vs z : List Nat} {loc ok : Prop} {gc : List Gsq} {a1 a2 a3 a4 a5 : Int32} {F0 : Prop} {ty : Int} {x6 x7 : Int32}
theorem ke_k {fs : List (Nat × Nat)} {cs : List Nat} (h : Kp fs cs σ σ') (s1 : fs.all (fun x => [(0, 10), (0, 12), (0, 13), (0, 17), (0, 37), (0, 39)].contains x || [8, 33, 14, 25, 21].contains x.1) = true) (s2 : cs.all (fun x => [8, 33, 14, 25, 21].contains x) = true) : KEr σ σ' := kp_sub h s1 s2
theorem br_k (h : BRb kd vl n S m lo d p loc ty σ τ vs x6 x7 s t z) (k : Kp [(0, 17)] [8] s s9) : BRb kd vl n S m lo d p loc ty σ τ vs x6 x7 s9 t z := by
  obtain ⟨pc, gc, cnt, ok, j1, j2, j3, j4, j5, j6, j7, j8, j9, j10, j11⟩ := h
  have e : s9 0 12 = s 0 12 := k 0 12 rfl rfl
  have dd := ds_k k rfl rfl
  exact ⟨pc, gc, cnt, ok, j1, gm_k j2 (k 0 10 rfl rfl), rg_ds j3 dd (by rw [e]; exact rgq_0 j3.1), fun hx => by rw [e]; exact j4 hx, kp_tr j5 (ke_k k rfl rfl), j6, j7, j8, j9, ir_ref j10 dd.1 e, j11⟩
theorem es_braces {Q : Int32 → St → St → List Nat → Prop} (k22 : kd p = 22) (h3 : a3.toInt = 0) (h5 : a5.toInt ≠ 0 ↔ loc) (hty : 0 ≤ a2.toInt) (hG : RGs kd vl n S m lo d σ) (hg : GMt σ n p)
    (kk : ∀ (v : Int32) s t z p' gc cnt ok, EVq (fun N => ITn kd N (p + 1)) (some (p', gc, cnt)) → p + 1 < p' → GMt s n p' → RGs kd vl n S m lo d s → MNq σ s → KEr σ s → TFq τ vs t z → 1 ≤ cnt → IRq kd n S m lo loc a2.toInt gc σ s cnt ok → (v = 0 ∨ v = 1) → (v.toInt ≠ 0 ↔ ok ∧ (cnt : Int) ≤ a1.toInt) → Q v s t z)
    (kn : EVq (fun N => ITn kd N (p + 1)) none → F0) : pp_braces a1 a2 a3 a4 a5 σ τ vs Q (fun _ _ _ => F0) := by
  unfold pp_braces
  have hnn := hG.1.1.1
  refine mr_expect hG.1.1 hg (c := 22) (by decide) (by decide) (fun _ s3 ks3 g3 => ?_) (fun hx => absurd k22 hx)
  have d3 := ds_k ks3 rfl rfl
  have e3 : s3 0 12 = σ 0 12 := ks3 0 12 rfl rfl
  have hG3 := rg_ds hG d3 (by rw [e3]; exact rgq_0 hG.1)
  refine ⟨fun x6 x7 s t z => BRb kd vl n S m lo d (p + 1) loc a2.toInt σ τ vs x6 x7 s t z, ⟨p + 1, [], 0, True, Nat.le_refl _, g3, hG3, fun hx => by rw [e3]; exact hx, ke_k ks3 rfl rfl, tf_rf, by rw [h3]; rfl, ⟨fun _ => trivial, fun _ => by decide⟩, Nat.zero_le _, ir_nil2 d3.1 e3, fun R h => ?_⟩, ?_⟩
  · cases R with
    | none => exact h
    | some r => exact h
  rintro x6 x7 s12 t12 z12 hx6 hb
  have hb' := hb
  obtain ⟨pc, gc, cnt, ok, i1, i2, i3, i4, i5, i6, i7, i8, i9, i10, i11⟩ := hb'
  have pcu : ∀ pc', GMt s12 n pc' → pc' = pc := fun pc' g' => by
    have h1 := g'.1
    have h2 := i2.1
    omega
  refine ⟨fun y s t z => BRa kd vl n S m lo d (p + 1) loc a2.toInt σ τ vs y x7 s t z, ?_, fun c5 => ?_, fun c5 => ?_⟩
  · rintro y s t z hy ⟨pc, gc, cnt, ok, j1, j2, j3, j4, j5, j6, j7, j8, j9, j10, j11, j12, j13⟩
    have hpn := j2.2
    have e71 : (x7 + 1).toInt = (cnt : Int) + 1 := by rw [ad1 (by omega), j7]
    refine mr_accept1 j3.1.1 j2 (c := 26) (by decide) (by decide) (fun v s1 p1 hv k1 g1 f1 f0 => ⟨fun c => ?_, fun c => ?_⟩)
    · have c26 := hv.1 c
      have e1 : s1 0 12 = s 0 12 := k1 0 12 rfl rfl
      have d1 := ds_k k1 rfl rfl
      rw [f1 c26] at g1
      exact ⟨pc + 1, gc, cnt + 1, ok, by omega, g1, rg_ds j3 d1 (by rw [e1]; exact rgq_0 j3.1), fun hx => by rw [e1]; exact j4 hx, kp_tr j5 (ke_k k1 rfl rfl), j6, by rw [e71]; rfl, j8, by omega, ir_ref j10 d1.1 e1, j11 c26⟩
    · have c26 : kd pc ≠ 26 := fun h => (hv.2 h) c
      have e1 : s1 0 12 = s 0 12 := k1 0 12 rfl rfl
      have d1 := ds_k k1 rfl rfl
      have hG1 := rg_ds j3 d1 (by rw [e1]; exact rgq_0 j3.1)
      rw [f0 c26] at g1
      refine mr_expect hG1.1.1 g1 (c := 23) (by decide) (by decide) (fun c23 s2 k2 g2 => ?_) (fun c23 => kn (j13 c23 c26))
      have e2 : s2 0 12 = s1 0 12 := k2 0 12 rfl rfl
      have d2 := ds_k k2 rfl rfl
      have fin : ∀ v : Int32, (v = 0 ∨ v = 1) → (v.toInt ≠ 0 ↔ ok ∧ ((cnt + 1 : Nat) : Int) ≤ a1.toInt) → Q v s2 t z := fun v hv1 hv2 =>
        kk v s2 t z (pc + 1) gc (cnt + 1) ok (j12 c23) (by omega) g2 (rg_ds hG1 d2 (by rw [e2]; exact rgq_0 hG1.1)) (fun hx => by rw [e2, e1]; exact j4 hx) (kp_tr j5 (kp_tr (ke_k k1 rfl rfl) (ke_k k2 rfl rfl))) j6 (by omega) (ir_ref (ir_ref j10 d1.1 e1) d2.1 e2) hv1 hv2
      rw [e71]
      refine ⟨fun cy => fin 0 (Or.inl rfl) ⟨fun h => absurd rfl h, fun h => absurd cy (j8.2 h.1)⟩, fun cy => ⟨fun cl => fin 0 (Or.inl rfl) ⟨fun h => absurd rfl h, fun h => ?_⟩, fun cl => fin 1 (Or.inr rfl) ⟨fun _ => ⟨j8.1 cy, ?_⟩, fun _ => by decide⟩⟩⟩
      · have := h.2
        omega
      · omega
  · have nl : ¬ loc := fun h => (h5.2 h) c5
    refine ⟨fun _ => True, fun y2 _ => ?_, fun _ _ => trivial, fun _ => trivial⟩
    refine es_oneg rfl i3 i2 (fun v s t z p' l s8 K T H Z F X hev hp g9 hG9 hm h57 htf hact hr hvr hex k8 hv1 hv2 => ?_) (fun hn => kn (i11 none (ev_up (ev_b0 hn))))
    have fim : v.toInt ≠ 0 ↔ FIm loc a2.toInt T Z F := hv2.trans ⟨fun h => Or.inr ⟨nl, h⟩, fun h => h.elim (fun h => absurd h.1 nl) (fun h => h.2)⟩
    refine ⟨fun y => y.toInt ≠ 0 ↔ x6.toInt ≠ 0 ∧ FIm loc a2.toInt T Z F, fun y _ hj => br_item hb (fun pc' g' => by rw [pcu pc' g']; exact ⟨hev, hp⟩) g9 hG9 hm (kp_tr hr (ke_k k8 rfl rfl)) htf hact hvr hex k8 hty hj, x6.toInt = 0 ∨ v.toInt = 0, fun hj => ⟨fun h => absurd rfl h, fun h => hj.elim (fun c => absurd c h.1) (fun c => absurd c (fim.2 h.2))⟩, fun c => Or.inl c, fun c => ⟨fun c2 => Or.inr c2, fun c2 => ⟨fun _ => ⟨c, fim.1 c2⟩, fun _ => by decide⟩⟩⟩
  · have hl : loc := h5.1 c5
    refine ⟨fun s t z => t = t12 ∧ z = z12 ∧ Kp [(0, 17)] [8] s12 s, ?_, fun _ => ⟨rfl, rfl, kp_rf⟩, fun _ => mr_put1 (fun s1 k1 => mr_put1 (fun s2 k2 => mr_put2 (fun s3 k3 => ⟨rfl, rfl, kp_tr k1 (kp_tr k2 k3)⟩)))⟩
    rintro s45 t45 z45 ⟨et, ez, k45⟩
    rw [et, ez]
    have hbk := br_k hb k45
    have i245 : GMt s45 n pc := gm_k i2 (k45 0 10 rfl rfl)
    have i345 : RGs kd vl n S m lo d s45 := rg_ds i3 (ds_k k45 rfl rfl) (by rw [k45 0 12 rfl rfl]; exact rgq_0 i3.1)
    refine es_one (by decide) i345 i245 (fun v s t z p' l s8 K T H Z F X hev hp g9 hG9 hm h57 htf hact hr hvr hex k8 hv1 hv2 => ?_) (fun hn => kn (i11 none (ev_up (ev_b0 hn))))
    have fim : v.toInt ≠ 0 ↔ FIm loc a2.toInt T Z F := by
      constructor
      · intro h
        exact Or.inl ⟨hl, hv2.1 (hv1.elim (fun e => absurd e h) id)⟩
      · intro h
        have := hv2.2 (h.elim (fun h => h.2) (fun h => absurd hl h.1))
        omega
    refine ⟨fun y => y.toInt ≠ 0 ↔ x6.toInt ≠ 0 ∧ FIm loc a2.toInt T Z F, fun y _ hj => ⟨fun s' t' z' => t' = t ∧ z' = z ∧ Kp [(0, 17)] [8] s s', ?_, fun _ => ⟨rfl, rfl, kp_rf⟩, fun _ => mr_put1 (fun s1 k1 => mr_put0 (fun s2 k2 => ⟨rfl, rfl, kp_tr k1 k2⟩))⟩, x6.toInt = 0 ∨ v.toInt = 0, fun hj => ⟨fun h => absurd rfl h, fun h => hj.elim (fun c => absurd c h.1) (fun c => absurd c (fim.2 h.2))⟩, fun c => Or.inl c, fun c => ⟨fun c2 => Or.inr c2, fun c2 => ⟨fun _ => ⟨c, fim.1 c2⟩, fun _ => by decide⟩⟩⟩
    rintro s90 t90 z90 ⟨et9, ez9, k90⟩
    rw [et9, ez9]
    have e90 : s90 0 12 = s 0 12 := k90 0 12 rfl rfl
    have k89 : Kp [(0, 17)] [8] s8 s90 := kp_tr k8 k90
    exact br_item hbk (fun pc' g' => by rw [pcu pc' (gm_k g' (by rw [k45 0 10 rfl rfl]))]; exact ⟨hev, hp⟩) (gm_k g9 (k90 0 10 rfl rfl)) (rg_ds hG9 (ds_k k90 rfl rfl) (by rw [e90]; exact rgq_0 hG9.1)) (fun hx => by rw [e90]; exact hm hx) (kp_tr hr (ke_k k89 rfl rfl)) htf hact hvr hex (kp_sub k89 rfl rfl) hty hj
end ESB
end

section
/-! initials: both sides -/
/-- a string that stands alone, as an expression -/
theorem ex_alone {kd : Nat → Int} {p : Nat} (h : ALq kd p) : EVq (fun N => EXn kd N p) (some (p + 1, gqs [stp 2 p])) := by
  obtain ⟨h4, h5⟩ := h
  have l0 : lvq (kd (p + 1)) = 0 := by
    unfold lvq
    rw [if_neg (by omega)]
  refine ex_ev (pv_e1 (pv_c1 (pv_l1 (pv_b1 (by omega) (by omega) (pv_p4 h4) (pv_h5 (by omega))) (pv_l2 ?_)) ?_) ?_)
  · rw [l0]; decide
  · omega
  · omega
/-- the class: an array, and an expression behind the = -/
theorem xi_init0b {w : St} {a b : Int32} {Q : St → Prop} (hb : b.toInt = 0) (h12 : (w 8 12).toInt ≠ -1) (kk : ∀ s, (s 6 3).toInt ≠ 0 → Q s) : pk_X1_initial a b w Q := by
  unfold pk_X1_initial
  refine ⟨fun s => (s 8 16).toInt ≠ 0, fun s hs => ⟨True, fun _ => xl_fail (by decide) (fun s2 _ h2 => kk s2 h2), fun _ => trivial, fun c => absurd c hs⟩, fun _ => ⟨fun c => absurd hb c, fun _ => ?_⟩, fun c => absurd (hb.symm.trans c) (by decide)⟩
  refine fr_pk_X2_pop (w := w) fr_rf (fun u s hu hf => ?_)
  have e8 : s 8 = w 8 := hf 8 (by unfold FRw; decide)
  refine ⟨fun y => y.toInt ≠ 0, fun y _ hy => ⟨fun _ => xi_put (fun s2 k2 => ?_), fun _ => xi_store (fun s2 k2 => ?_)⟩, True, fun _ => by decide, fun _ => trivial, fun c => absurd c (by rw [e8]; exact h12)⟩
  · show (s2 8 16).toInt ≠ 0; rw [k2 8 16 rfl rfl, rdA_eq rfl]; exact hy
  · show (s2 8 16).toInt ≠ 0; rw [k2 8 16 rfl rfl, rdA_eq rfl]; exact hy
theorem xw_fr {w : St} {B : Prop} (hB : B) : ∀ {l : List Stq} {s : St}, FRs w s → XW l s (fun r => FRs w r) B
  | [], _, h => h
  | _ :: _, _, h => ⟨fun _ _ _ _ _ => fr_pk_X2_take h (fun _ h2 => xw_fr hB h2), fun _ => hB⟩
theorem gv_arr {w : St} {l : List Stq} {q : Nat} {Q : St → Prop} {B : Prop} (hact : ∀ y, y ∈ l → 1 ≤ y.1 ∧ y.1 ≤ 16) (h12 : (w 8 12).toInt ≠ -1) (hB : B) (hq : ∀ s, (s 6 3).toInt ≠ 0 → Q s) : GWq (gqs l ++ [gq (stp 46 q)]) w Q B :=
  gv_app (gv_x hact (xw_mono (xw_fr hB fr_rf) (fun s hs => gv_d (x := stp 46 q) (by simp [stp]) (fun _ => da_init (p := q) (k := 0) (fun a b _ eb => xi_init0b eb (by rw [hs 8 (by unfold FRw; decide)]; exact h12) hq)) (fun _ => hB)) id))
/-- behind an initial: both sides alike, or both bad -/
def INq (kd : Nat → Int) (n S m lo : Nat) (loc br row ext : Prop) (ty cells : Int) (g : List Gsq) (σ σ' : St) : Prop :=
  (σ 0 12).toInt = 0 → ∀ w, REq kd n S m lo w σ → (w 6 3).toInt = 0 → (w 7 7).toInt = 0 → (w 8 11).toInt = ty → ((w 8 9).toInt ≠ 0 ↔ loc) → (w 8 15).toInt = 0 → (w 8 16).toInt = 0 → ((w 8 12).toInt ≠ -1 ↔ br) → (br ∧ row → (w 8 12).toInt = cells) → ((w 8 13).toInt ≠ 0 ↔ ext) → GWq g w (fun s => ((s 6 3).toInt ≠ 0 → (σ' 0 12).toInt ≠ 0) ∧ ((s 6 3).toInt = 0 → (σ' 0 12).toInt = 0 ∧ REq kd n S m lo s σ' ∧ (s 7 7).toInt = 0 ∧ STv w s)) ((σ' 0 12).toInt ≠ 0)
/-- the size that stands behind a [ ] = -/
def TLq (kd vl : Nat → Int) (br : Bool) (p : Nat) (sz : Int) : Prop := (kd (p + 1) = 22 → ∃ q g cnt, EVq (fun N => ITn kd N (p + 2)) (some (q, g, cnt)) ∧ sz = (cnt : Int) ∧ 1 ≤ cnt) ∧ (br = true ∧ ALq kd (p + 1) → sz = vl (p + 1) + 1) ∧ (kd (p + 1) ≠ 22 → ¬ (br = true ∧ ALq kd (p + 1)) → sz = 0)
/-- it faults wherever an array is filled -/
def ARq (g : List Gsq) : Prop := ∀ (w : St) (Q : St → Prop) (B : Prop), (w 8 12).toInt ≠ -1 → B → (∀ s, (s 6 3).toInt ≠ 0 → Q s) → GWq g w Q B
/-- what an initial leaves: p its = -/
def IPq (kd vl : Nat → Int) (n S m lo d : Nat) (br : Bool) (ty : Nat) (loc : Prop) (cells : Int) (p : Nat) (σ τ : St) (vs : List Nat) (v : Int32) (s t : St) (z : List Nat) : Prop :=
  ∃ (p' : Nat) (g : List Gsq) (sz : Int), EVq (fun N => INn kd vl N br ty p) (some (p', g, sz)) ∧ TLq kd vl br p sz ∧ p + 1 < p' ∧ GMt s n p' ∧ RGs kd vl n S m lo d s ∧ MNq σ s ∧ KEr σ s ∧ TFq τ vs t z ∧ (v = 0 ∨ v = 1) ∧ (br = true → ¬ (kd (p + 1) = 22 ∨ ALq kd (p + 1)) → v = 0 ∧ ARq g) ∧ ∀ (ext : Prop) (s2 : St), Kp [(0, 12), (0, 13)] [] s s2 → FTq s s2 (v.toInt = 0 ∨ ext) → INq kd n S m lo loc (br = true) (kd (p + 1) = 22 ∨ ALq kd (p + 1)) ext (ty : Int) cells g σ s2
section INI
variable {w s r s8 s9 σ σ' σ1 τ t : St} {kd vl : Nat → Int} {n S m lo d cnt p q pc p1 ty : Nat} {vs z : List Nat} {loc ok : Prop} {gc : List Gsq} {a1 a2 a3 a4 : Int32} {F0 : Prop} {K T H Z F : Int} {X : Int32} {l : List Stq}
theorem tl_it (c22 : kd (p + 1) = 22) (h : EVq (fun N => ITn kd N (p + 2)) (some (q, gc, cnt))) (h1 : 1 ≤ cnt) {br : Bool} : TLq kd vl br p (cnt : Int) :=
  ⟨fun _ => ⟨q, gc, cnt, h, rfl, h1⟩, fun h => absurd h.2.1 (by omega), fun h => absurd c22 h⟩
theorem tl_al {br : Bool} (hb : br = true) (ha : ALq kd (p + 1)) : TLq kd vl br p (vl (p + 1) + 1) := ⟨fun h => absurd ha.1 (by omega), fun _ => rfl, fun _ h => absurd ⟨hb, ha⟩ h⟩
theorem tl_no {br : Bool} (c22 : kd (p + 1) ≠ 22) (ha : ¬ (br = true ∧ ALq kd (p + 1))) : TLq kd vl br p 0 := ⟨fun h => absurd h c22, fun h => absurd h ha, fun _ _ => rfl⟩
theorem bad_in (h15 : (s 0 15).toInt = 0) {A : Prop} (f : FTq s s9 A) (h : A) : (s9 0 12).toInt ≠ 0 := f.2.2 (Or.inr ⟨h, by omega⟩)
theorem mn_ft {A : Prop} (hm : MNq σ s) (f : FTq s s9 A) : MNq σ s9 := fun hx => f.2.2 (Or.inl (hm hx))
/-- both sides at the end of an initial -/
theorem in_end {A : Prop} {bad : Prop} {ext : Prop} (c0 : (s 0 12).toInt = 0) (h15 : (s 0 15).toInt = 0) (k : Kp [(0, 12), (0, 13)] [] s s9) (f : FTq s s9 A) (hR : REq kd n S m lo r s) (kr : STv w r) {r2 : St} (ks : STi r r2) (e7 : (r2 7 7).toInt = 0) (e6 : (r2 6 3).toInt ≠ 0 ↔ A) : ((r2 6 3).toInt ≠ 0 → (s9 0 12).toInt ≠ 0) ∧ ((r2 6 3).toInt = 0 → (s9 0 12).toInt = 0 ∧ REq kd n S m lo r2 s9 ∧ (r2 7 7).toInt = 0 ∧ STv w r2) :=
  ⟨fun h => bad_in h15 f (e6.1 h), fun h => ⟨Decidable.byContradiction (fun hn => (f.2.1 hn).elim (fun h2 => h2 c0) (fun h2 => (e6.2 h2.1) h)), re_cd hR (cd_ko ks rfl rfl) (dd_k k rfl rfl), e7, stk_tr kr (stk_i ks)⟩⟩
/-- one initial, no array -/
theorem es_oneInitial {Q : Int32 → St → St → List Nat → Prop} (h1 : a1.toInt = (ty : Int)) (h3 : a3.toInt ≠ 0 ↔ loc) (hG : RGs kd vl n S m lo d σ) (hg : GMt σ n (p + 1)) (kk : ∀ v s t z, IPq kd vl n S m lo d false ty loc 0 p σ τ vs v s t z → Q v s t z) (kn : EVq (fun N => INn kd vl N false ty p) none → F0) : pp_oneInitial a1 a2 a3 σ τ vs Q (fun _ _ _ => F0) := by
  unfold pp_oneInitial
  have h15 : (σ 0 15).toInt = 0 := hG.2.2.2.1
  have nb : ∀ P : Prop, ¬ ((false : Bool) = true ∧ P) := fun P h => by cases h.1
  refine mr_is1 hG.1.1 hg (c := 22) (by decide) (by decide) (fun v3 hv3 => ⟨fun c => ?_, fun c => ?_⟩)
  · have k22 : kd (p + 1) ≠ 22 := fun h => (hv3.2 h) c
    have hy : ∀ (y2 : Int32), pp_one_1 a1 y2 a2 a3 σ τ vs (fun v43 s43 t43 z43 => Q v43 s43 t43 z43) (fun _ _ _ => F0) := fun y2 => by
      have fin : ∀ (v : Int32) s t z p' l s8 K T H Z F X, EVq (fun N => EXn kd N (p + 1)) (some (p', gqs l)) → p + 1 < p' → GMt s n p' → RGs kd vl n S m lo d s → MNq σ s → TFq τ vs t z → (∀ y, y ∈ l → 1 ≤ y.1 ∧ y.1 ≤ 16) → KEr σ s8 → VRq K T H Z F → EXq kd n S m lo 0 l σ s8 K T H Z F X → Kp [(0, 17), (0, 39)] [8, 25] s8 s → (v = 0 ∨ v = 1) → (v.toInt ≠ 0 ↔ FIm loc (ty : Int) T Z F) → Q v s t z := fun v s t z p' l s8 K T H Z F X hev hp g1 hG1 hm htf hact hr hvr hex k8 hv1 hv2 => by
        refine kk v s t z ⟨p', gqs l ++ [gq (stp 46 p)], 0, ev_f k22 (ev_f (fun h => by cases h.1) (ev_b hev (by rw [if_neg (nb _)]; exact ev_c))), tl_no k22 (nb _), hp, g1, hG1, hm, kp_tr hr (ke_k k8 rfl rfl), htf, hv1, fun h => absurd h (by decide), fun ext s2 k2 f2 => ?_⟩
        intro h0 w hR hf h77 h11 h9 h15w h16 hbr hrow hext
        have e8 : s 0 12 = s8 0 12 := k8 0 12 rfl rfl
        have hB : MNq s8 s2 := fun hx => f2.2.2 (Or.inl (by rw [e8]; exact hx))
        have s15 : (s 0 15).toInt = 0 := hG1.2.2.2.1
        refine gv_app (gv_x hact (xw_mono (hex h0 w hR hf h77) (fun r hr2 => ?_) (fun hx => hB (bd_0 h15 hx))))
        by_cases c1 : (r 6 3).toInt = 0
        · obtain ⟨g1', g2, g3, g4, g5, g6, i, g7⟩ := hr2.2 c1
          have k1 : STv w r := stk_e g5
          have f11 : r 8 11 = w 8 11 := k1 8 11 (op_lt (by decide)) rfl rfl
          have f9 : r 8 9 = w 8 9 := k1 8 9 (op_lt (by decide)) rfl rfl
          have f12 : r 8 12 = w 8 12 := k1 8 12 (op_lt (by decide)) rfl rfl
          have f13 : r 8 13 = w 8 13 := k1 8 13 (op_lt (by decide)) rfl rfl
          have su : SUq r T Z F ↔ FIm loc (ty : Int) T Z F := su_fits hvr g2 (by rw [f11]; exact h11) (by omega) (by rw [f9]; exact h9)
          have n12 : (w 8 12).toInt = -1 := Decidable.byContradiction (fun hx => by cases hbr.1 hx)
          refine gv_d (x := stp 46 p) (by simp [stp]) (fun _ => da_init (p := p) (k := 0) (fun a b _ eb => xi_init0 eb c1 (by rw [g6]; rfl) g7 hvr.1 (fun s3 ks e7 e6 => ?_))) (fun hx => absurd c1 hx)
          refine in_end (A := v.toInt = 0 ∨ ext) (bad := True) (ext := True) (by rw [e8]; exact g1') s15 k2 f2 (re_cd g4 cd_rf (dd_k k8 rfl rfl)) k1 ks e7 ?_
          rw [e6, f12, f13, su, hext, ← hv2]
          constructor
          · rintro (h | h)
            · exact Or.inl (Decidable.byContradiction (fun hx => h ⟨n12, hx⟩))
            · exact Or.inr h
          · rintro (h | h)
            · exact Or.inl (fun hx => hx.2 h)
            · exact Or.inr h
        · have := hB (bd_0 h15 (hr2.1 c1))
          exact gv_bad c1 this (fun s' h => ⟨fun _ => this, fun hx => absurd hx h⟩)
      by_cases c5 : a3.toInt = 0
      · have nl : ¬ loc := fun h => (h3.2 h) c5
        refine es_oneg c5 hG hg (fun v s t z p' l s8 K T H Z F X hev hp g9 hG9 hm h57 htf hact hr hvr hex k8 hv1 hv2 => fin v s t z p' l s8 K T H Z F X hev hp g9 hG9 hm htf hact hr hvr hex k8 hv1 ?_) (fun hn => kn (ev_f k22 (ev_f (fun h => by cases h.1) (ev_b0 hn))))
        rw [hv2, h1]
        exact ⟨fun h => Or.inr ⟨nl, h⟩, fun h => h.elim (fun h => absurd h.1 nl) (fun h => h.2)⟩
      · have hl : loc := h3.1 c5
        refine es_one c5 hG hg (fun v s t z p' l s8 K T H Z F X hev hp g9 hG9 hm h57 htf hact hr hvr hex k8 hv1 hv2 => fin v s t z p' l s8 K T H Z F X hev hp g9 hG9 hm htf hact hr hvr hex (kp_sub k8 rfl rfl) ?_ ?_) (fun hn => kn (ev_f k22 (ev_f (fun h => by cases h.1) (ev_b0 hn))))
        · exact hv1.imp (fun h => ieq (by rw [h]; rfl)) (fun h => ieq (by rw [h]; rfl))
        · rw [h1] at hv2
          constructor
          · intro h
            exact Or.inl ⟨hl, hv2.1 (hv1.elim (fun e => absurd e h) id)⟩
          · intro h
            have := hv2.2 (h.elim (fun h => h.2) (fun h => absurd hl h.1))
            omega
    exact ⟨fun _ => True, fun y2 _ => hy y2, True, fun _ => trivial, fun _ => trivial, fun _ => ⟨fun _ _ => trivial, fun _ => trivial⟩⟩
  · have k22 : kd (p + 1) = 22 := hv3.1 c
    refine es_braces (loc := loc) k22 rfl h3 (by omega) hG hg (fun v s t z p' gc cnt ok hit hp g1 hG1 hm hke htf hc1 hir hv1 hv2 => ?_) (fun hn => kn (ev_t k22 (ev_b0 hn)))
    refine kk 0 s t z ⟨p', gc ++ [gq (46, p, 1, 0)], (cnt : Int), ev_t k22 (ev_b hit ev_c), tl_it k22 hit hc1, by omega, g1, hG1, hm, hke, htf, Or.inl rfl, fun h => absurd h (by decide), fun ext s2 k2 f2 => ?_⟩
    intro h0 w hR hf h77 h11 h9 h15w h16 hbr hrow hext
    have hB : (s2 0 12).toInt ≠ 0 := bad_in hG1.2.2.2.1 f2 (Or.inl rfl)
    have n12 : (w 8 12).toInt = -1 := Decidable.byContradiction (fun hx => by cases hbr.1 hx)
    refine gv_app (gv_mono (hir h0 w hR hf h77 (by rw [h1]; exact h11) h9 h15w h16) (fun r hr => ?_) (fun _ => hB))
    by_cases c1 : (r 6 3).toInt = 0
    · obtain ⟨_, _, _, g4, _, _⟩ := hr.2 c1
      refine gv_d (x := (46, p, 1, 0)) (by simp) (fun _ => da_init (fun a b _ eb => xi_init1 eb c1 (fun s3 ks e7 e6 => ⟨fun _ => hB, fun hx => absurd hx (e6.2 (Or.inl (Or.inr ?_)))⟩))) (fun hx => absurd c1 hx)
      rw [g4 8 12 (op_lt (by decide)) rfl rfl]
      exact n12
    · exact gv_bad c1 hB (fun s' h => ⟨fun _ => hB, fun hx => absurd hx h⟩)
end INI
end

section
/-! an initial of an array: both sides -/
section ROI
variable {w s r s8 s9 σ σ' σ1 τ t : St} {kd vl : Nat → Int} {n S m lo d cnt p q pc p1 ty : Nat} {vs z : List Nat} {loc ok : Prop} {gc : List Gsq} {a1 a2 a3 a4 : Int32} {F0 : Prop} {K T H Z F : Int} {X : Int32} {l : List Stq}
theorem es_rowInitial {Q : Int32 → St → St → List Nat → Prop} (h1 : a1.toInt = (ty : Int)) (h4 : a4.toInt ≠ 0 ↔ loc) (hG : RGs kd vl n S m lo d σ) (hg : GMt σ n (p + 1)) (kk : ∀ v s t z, IPq kd vl n S m lo d true ty loc a2.toInt p σ τ vs v s t z → Q v s t z) (kn : EVq (fun N => INn kd vl N true ty p) none → F0) : pp_rowInitial a1 a2 a3 a4 σ τ vs Q (fun _ _ _ => F0) := by
  unfold pp_rowInitial
  have h15 : (σ 0 15).toInt = 0 := hG.2.2.2.1
  have tk := hG.1.1
  have hn := tk.1
  have g1 := hg.1
  have gn := hg.2
  have e2 : ((σ 0 10) + (1 : Int32)).toInt = ((p + 2 : Nat) : Int) := by rw [ad1 (by omega), g1]; rfl
  have n1 : (σ 0 10).toNatClampNeg = p + 1 := nat_of g1
  have n2 : ((σ 0 10) + (1 : Int32)).toNatClampNeg = p + 2 := nat_of e2
  have r4 := rk_to tk (q := p + 1) gn 4 (by decide) (j := 4) (by decide)
  have k4n : kd (p + 1) = 4 → p + 2 ≤ n := fun h => by
    have h2 := tk.2.2.2.2
    by_cases c : p + 1 = n
    · rw [← c, h] at h2
      omega
    · omega
  rw [n1, n2]
  refine fun _ => ⟨¬ ALq kd (p + 1), fun hna => ?_, fun c4 ha => c4 (r4.2 ha.1), fun c4 _ => ⟨ALq kd (p + 1), fun hal => ?_, fun c => ⟨r4.1 c4, Or.inl ((rk_to tk (k4n (r4.1 c4)) 26 (by decide) (j := 58) (by decide)).1 c)⟩, fun c _ => ⟨fun c2 ha => ?_, fun c2 => ⟨r4.1 c4, Or.inr ((rk_to tk (k4n (r4.1 c4)) 27 (by decide) (j := 59) (by decide)).1 c2)⟩⟩⟩⟩
  · have nal : ¬ ((true : Bool) = true ∧ ALq kd (p + 1)) := fun h => hna h.2
    have nal2 : ¬ ((true : Bool) = true ∧ ALq kd (p + 1) ∧ ty = 0) := fun h => hna h.2.1
    refine mr_is1 tk hg (c := 22) (by decide) (by decide) (fun v3 hv3 => ⟨fun c => ?_, fun c => ?_⟩)
    · have k22 : kd (p + 1) ≠ 22 := fun h => (hv3.2 h) c
      refine es_expr hG hg (fun u s8 t8 z8 p' l K T H Z F' I X hev hp g8 hG8 hr hm htf hu hun hmv hvr hact hex => ?_) (fun hn => kn (ev_f k22 (ev_f nal2 (ev_b0 hn))))
      refine mr_read hmv (fun _ s14 t14 kw hne hmv2 => ?_)
      have e12 : s14 0 12 = s8 0 12 := kw 0 12 rfl rfl
      have hG14 := rg_ds hG8 (ds_k kw rfl rfl) (by rw [e12]; exact rgq_0 hG8.1)
      refine kk 0 s14 t14 z8 ⟨p', gqs l ++ [gq (stp 46 p)], 0, ev_f k22 (ev_f nal2 (ev_b hev (by rw [if_neg nal]; exact ev_c))), tl_no k22 nal, hp, gm_k g8 (kw 0 10 rfl rfl), hG14, fun hx => by rw [e12]; exact hm hx, kp_tr hr (ke_k kw rfl rfl), tf_read htf hun hne, Or.inl rfl, fun _ _ => ⟨rfl, fun w Q B h12 hB hq => gv_arr hact h12 hB hq⟩, fun ext s2 k2 f2 => ?_⟩
      intro h0 w hR hf h77 h11 h9 h15w h16 hbr hrow hext
      have hB : (s2 0 12).toInt ≠ 0 := bad_in hG14.2.2.2.1 f2 (Or.inl rfl)
      exact gv_arr hact (hbr.2 rfl) hB (fun s' h => ⟨fun _ => hB, fun hx => absurd hx h⟩)
    · have k22 : kd (p + 1) = 22 := hv3.1 c
      refine es_braces (loc := loc) k22 rfl h4 (by omega) hG hg (fun v s t z p' gc cnt ok hit hp g1 hG1 hm hke htf hc1 hir hv1 hv2 => ?_) (fun hn => kn (ev_t k22 (ev_b0 hn)))
      refine kk v s t z ⟨p', gc ++ [gq (46, p, 1, 0)], (cnt : Int), ev_t k22 (ev_b hit ev_c), tl_it k22 hit hc1, by omega, g1, hG1, hm, hke, htf, hv1, fun _ h => absurd (Or.inl k22) h, fun ext s2 k2 f2 => ?_⟩
      intro h0 w hR hf h77 h11 h9 h15w h16 hbr hrow hext
      have hmB : MNq s s2 := fun hx => f2.2.2 (Or.inl hx)
      refine gv_app (gv_mono (hir h0 w hR hf h77 (by rw [h1]; exact h11) h9 h15w h16) (fun r hr => ?_) (fun hx => hmB hx))
      by_cases c1 : (r 6 3).toInt = 0
      · obtain ⟨g0', g2, g3, g4, g5, g6⟩ := hr.2 c1
        have f12 : r 8 12 = w 8 12 := g4 8 12 (op_lt (by decide)) rfl rfl
        have f13 : r 8 13 = w 8 13 := g4 8 13 (op_lt (by decide)) rfl rfl
        have n12 := hbr.2 rfl
        have cells := hrow ⟨rfl, Or.inl k22⟩
        refine gv_d (x := (46, p, 1, 0)) (by simp) (fun _ => da_init (fun a b _ eb => xi_init1 eb c1 (fun s3 ks e7 e6 => ?_))) (fun hx => absurd c1 hx)
        refine in_end (A := v.toInt = 0 ∨ ext) (bad := True) (ext := True) g0' hG1.2.2.2.1 k2 f2 g2 g4 ks (by rw [e7]; exact g3) ?_
        rw [e6, f12, f13, g6, hext]
        constructor
        · rintro ((h | h) | h)
          · refine Or.inl (Decidable.byContradiction (fun hx => ?_))
            obtain ⟨y1, y2⟩ := hv2.1 hx
            rcases h with h | h
            · exact h y1
            · have := h.2
              omega
          · exact absurd h n12
          · exact Or.inr h
        · rintro (h | h)
          · refine Or.inl (Or.inl ?_)
            by_cases co : ok
            · refine Or.inr ⟨hc1, ?_⟩
              have : ¬ ((cnt : Int) ≤ a2.toInt) := fun hx => (hv2.2 ⟨co, hx⟩) h
              omega
            · exact Or.inl co
          · exact Or.inr h
      · have := hmB (hr.1 c1)
        exact gv_bad c1 this (fun s' h => ⟨fun _ => this, fun hx => absurd hx h⟩)
  · have k4 := hal.1
    have hp2 := k4n k4
    have k22 : kd (p + 1) ≠ 22 := by omega
    have ka : Kp [(0, 10)] [] σ (upC σ 0 10 ((σ 0 10) + (1 : Int32))) := kp_f kp_rf rfl
    have ga : GMt (upC σ 0 10 ((σ 0 10) + (1 : Int32))) n (p + 2) := gm_up tk hg (by omega)
    generalize upC σ 0 10 ((σ 0 10) + (1 : Int32)) = σa at ka ga
    refine mr_fill (fun s8 k8 => ?_)
    have kz : Kp [(0, 10), (0, 17), (0, 39)] [8, 25] σ s8 := kp_tr (kp_sub ka rfl rfl) (kp_sub k8 rfl rfl)
    have e12 : s8 0 12 = σ 0 12 := kz 0 12 rfl rfl
    have g8 : GMt s8 n (p + 2) := gm_k ga (k8 0 10 rfl rfl)
    have hG8 : RGs kd vl n S m lo d s8 := rg_ds hG (ds_k kz rfl rfl) (by rw [e12]; exact rgq_0 hG.1)
    have e6 : s8 6 (p + 1) = σ 6 (p + 1) := kz 6 (p + 1) rfl rfl
    have dd : DDq σ s8 := dd_k kz rfl rfl
    rw [e6]
    have main : ∀ (v : Int32) (g : List Gsq), (v = 0 ∨ v = 1) → EVq (fun N => INn kd vl N true ty p) (some (p + 2, g, vl (p + 1) + 1)) → (∀ (ext : Prop) (s2 : St), Kp [(0, 12), (0, 13)] [] s8 s2 → FTq s8 s2 (v.toInt = 0 ∨ ext) → INq kd n S m lo loc (true = true) (kd (p + 1) = 22 ∨ ALq kd (p + 1)) ext (ty : Int) a2.toInt g σ s2) → Q v s8 τ vs := fun v g hv hev hin =>
      kk v s8 τ vs ⟨p + 2, g, vl (p + 1) + 1, hev, tl_al rfl hal, by omega, g8, hG8, fun hx => by rw [e12]; exact hx, ke_k kz rfl rfl, tf_rf, hv, fun _ h => absurd (Or.inr hal) h, hin⟩
    refine ⟨fun c => ?_, fun c _ => ?_⟩
    · have nty : ¬ ((true : Bool) = true ∧ ALq kd (p + 1) ∧ ty = 0) := fun h => c (by rw [h1, h.2.2]; rfl)
      refine main 0 _ (Or.inl rfl) (ev_f k22 (ev_f nty (ev_b (ex_alone hal) (by rw [if_pos ⟨rfl, hal⟩]; exact ev_c)))) (fun ext s2 k2 f2 => ?_)
      intro h0 w hR hf h77 h11 h9 h15w h16 hbr hrow hext
      have hB : (s2 0 12).toInt ≠ 0 := bad_in hG8.2.2.2.1 f2 (Or.inl rfl)
      refine gv_arr (fun y hy => ?_) (hbr.2 rfl) hB (fun s' h => ⟨fun _ => hB, fun hx => absurd hx h⟩)
      rw [List.mem_singleton] at hy
      rw [hy]
      exact ⟨show (1 : Int) ≤ 2 by decide, show (2 : Int) ≤ 16 by decide⟩
    · have ty0 : ty = 0 := by omega
      have hevf : EVq (fun N => INn kd vl N true ty p) (some (p + 2, [gq (stp 45 (p + 1)), gq (46, p, 2, 0)], vl (p + 1) + 1)) := ev_f k22 (ev_t ⟨rfl, hal, ty0⟩ ev_c)
      have step : ∀ (v : Int32), (v = 0 ∨ v = 1) → (v.toInt ≠ 0 ↔ (σ 6 (p + 1)).toInt ≤ a2.toInt) → Q v s8 τ vs := fun v hv hv2 => by
        refine main v _ hv hevf (fun ext s2 k2 f2 => ?_)
        intro h0 w hR hf h77 h11 h9 h15w h16 hbr hrow hext
        have c0 : (s8 0 12).toInt = 0 := by rw [e12]; exact h0
        obtain ⟨w1, w2, w3⟩ := hR.1.2.2.2.2.2 (p + 1) gn k4
        have cells := hrow ⟨rfl, Or.inr hal⟩
        refine gv_app (l := [gq (stp 45 (p + 1))]) (l2 := [gq (46, p, 2, 0)]) (gv_d (x := stp 45 (p + 1)) (by simp [stp]) (fun _ => da_fill (fun a ea => xi_fill (u := p + 1) ea (by omega) ⟨w2, w3⟩ (fun r ks e7 e6' e16 => ?_))) (fun hx => absurd hf hx))
        have f12 : r 8 12 = w 8 12 := ks 8 12 (op_lt (by decide)) rfl rfl
        have f13 : r 8 13 = w 8 13 := ks 8 13 (op_lt (by decide)) rfl rfl
        have c1 : (r 6 3).toInt = 0 := by rw [e6']; exact hf
        refine gv_d (x := (46, p, 2, 0)) (by simp) (fun _ => da_init (fun a b _ eb => xi_init2 eb c1 (fun s3 ks3 e7' e6'' => ?_))) (fun hx => absurd c1 hx)
        refine in_end (A := v.toInt = 0 ∨ ext) (bad := True) (ext := True) c0 hG8.2.2.2.1 k2 f2 (re_cd hR (cd_ko ks rfl rfl) dd) (stk_i ks) ks3 (by rw [e7', e7]; exact h77) ?_
        rw [e6'', f13, e16, hext]
        constructor
        · rintro (h | h)
          · refine Or.inl (Decidable.byContradiction (fun hx => ?_))
            have := hv2.1 hx
            omega
          · exact Or.inr h
        · rintro (h | h)
          · refine Or.inl ?_
            have : ¬ ((σ 6 (p + 1)).toInt ≤ a2.toInt) := fun hx => (hv2.2 hx) h
            omega
          · exact Or.inr h
      exact ⟨fun c2 => step 0 (Or.inl rfl) ⟨fun h => absurd rfl h, fun h => by omega⟩, fun c2 => step 1 (Or.inr rfl) ⟨fun _ => c2, fun _ => by decide⟩⟩
  · rcases ha.2 with h | h
    · exact c ((rk_to tk (k4n ha.1) 26 (by decide) (j := 58) (by decide)).2 h)
    · exact c2 ((rk_to tk (k4n ha.1) 27 (by decide) (j := 59) (by decide)).2 h)
end ROI
end

