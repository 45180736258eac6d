/-! the reference's statements: returns, whole -/
/-- up to a semicolon -/
def SEm (kd vl : Nat → Int) (n m lo d S p : Nat) (σ τ : St) (vs : List Nat) (s t : St) (z : List Nat) : Prop :=
  ∃ (pr : Nat) (gr : List Gsq), p ≤ pr ∧ GMt s n pr ∧ RGs kd vl n S m lo d s ∧ MNq σ s ∧ s 0 57 = σ 0 57 ∧ TFq τ vs t z ∧ (kd pr = 27 → EVq (fun N => STn kd vl N 0 d p) (some (pr + 1, gr))) ∧ (kd pr ≠ 27 → EVq (fun N => STn kd vl N 0 d p) none) ∧ ∀ O, O < d → WSq kd n m lo d O S S gr σ s
section SST2
variable {w s r σ σ' σ0 σ1 σ2 σ3 τ t : St} {kd vl : Nat → Int} {n S S1 S2 m lo d O p q k : Nat} {vs z : List Nat} {g g1 g2 gc : List Gsq} {l : List Stq} {F0 : Prop} {a a2 a3 : Int32}
variable {Kstatement Kinner Kblock : Int32 → St → St → List Nat → (St → St → List Nat → Prop) → (St → St → List Nat → Prop) → Prop} {Kloop : Int32 → Int32 → Int32 → St → St → List Nat → (St → St → List Nat → Prop) → (St → St → List Nat → Prop) → Prop} {KdoStatement KforStatement : Int32 → Int32 → St → St → List Nat → (St → St → List Nat → Prop) → (St → St → List Nat → Prop) → Prop}
theorem es_semi {Q : St → St → List Nat → Prop} (h : SEm kd vl n m lo d S p σ τ vs s t z) (kk : ∀ s t z, ESq kd vl n m lo 0 d S p σ τ vs s t z → Q s t z) (kn : EVq (fun N => STn kd vl N 0 d p) none → F0) : pp_expect (27 : Int32) s t z Q (fun _ _ _ => F0) := by
  obtain ⟨pr, gr, h1, h2, h3, h4, h5, h6, h7, h8, h9⟩ := h
  exact mr_expect h3.1.1 h2 (c := 27) (by decide) (by decide) (fun k27 s' k g => kk s' t z ⟨pr + 1, S, gr, h7 k27, Nat.lt_succ_of_le h1, g, rg_ds h3 (ds_k k rfl rfl) (by rw [k 0 12 rfl rfl]; exact rgq_0 h3.1), fun hx => by rw [k 0 12 rfl rfl]; exact h4 hx, (k 0 57 rfl rfl).trans h5, h6, fun O hO => ws_ref (h9 O hO) (ds_k k rfl rfl) (k 0 12 rfl rfl) (k 0 57 rfl rfl)⟩) (fun k27 => kn (h8 k27))
theorem rs_end (hL : LPq O w σ) (hR1 : RSo kd n S m lo d k r σ) (k : STw r s) (e7 : (s 7 7).toInt = 0) (e95 : s 9 5 = w 9 5) (e49 : s 49 = w 49) (r1 : DSw σ σ') (e57 : σ' 0 57 = σ 0 57) (hl : (s 6 3).toInt ≠ 0 ↔ (σ' 0 12).toInt ≠ 0) : ((s 6 3).toInt ≠ 0 → (σ' 0 12).toInt ≠ 0) ∧ ((s 6 3).toInt = 0 → (σ' 0 12).toInt = 0 ∧ RSq kd n S m lo d O 0 s σ' ∧ ∀ i, i < O → s 49 i = w 49 i) :=
  ⟨hl.1, fun hx => ⟨Decidable.byContradiction (fun hn => hl.2 hn hx), ⟨ro_cs hR1 (cs_w k) r1 (by rw [e7]; rfl), lp_at hL (by rw [e95]; exact hL.1) (fun i _ => by rw [e49]) e57⟩, fun i _ => by rw [e49]⟩⟩
theorem es_return (hd : d ≤ 25) (c16 : kd p = 16) (ha : a.toInt = (p : Int)) : SWr kd vl n m lo 0 d p (pp_returnStatement a) := by
  intro S σ τ vs Q F hG hg h57 kk kn
  unfold pp_returnStatement
  have hd' : ¬ 25 < d := Nat.not_lt.mpr hd
  have nn : kd p ≠ 22 ∧ kd p ≠ 27 ∧ kd p ≠ 5 ∧ kd p ≠ 9 ∧ kd p ≠ 11 ∧ kd p ≠ 12 ∧ kd p ≠ 13 := by rw [c16]; decide
  have n14 : ¬ kd p = 14 := by rw [c16]; decide
  have n15 : ¬ kd p = 15 := by rw [c16]; decide
  have k0 : Kp [(0, 10)] [] σ (upC σ 0 10 ((σ 0 10) + (1 : Int32))) := kp_f kp_rf rfl
  have g0 := gm_up hG.1.1 hg (by rw [c16]; decide)
  generalize upC σ 0 10 ((σ 0 10) + (1 : Int32)) = σa at k0 g0
  have ea : σa 0 12 = σ 0 12 := k0 0 12 rfl rfl
  have hG0 := rg_ds hG (ds_k k0 rfl rfl) (by rw [ea]; exact rgq_0 hG.1)
  have h15 : (σa 0 15).toInt = 0 := hG0.2.2.2.1
  refine mr_is1 hG0.1.1 g0 (c := 27) (by decide) (by decide) (fun v13 hv13 => ⟨fun s t z => SEm kd vl n m lo d S p σ τ vs s t z, fun s t z h => es_semi h kk kn, fun c => ?_, fun c => ?_⟩)
  · have k27 : kd (p + 1) ≠ 27 := fun h => (hv13.2 h) c
    refine es_expr hG0 g0 (fun u s39 t39 z39 p' l K T H Z F' I X hev hp g39 hG39 hr hm htf hu hun hmv hvr hact hex => ?_) (fun hn => kn (st_s hd' nn (ev_f n14 (ev_f n15 (ev_t c16 (ev_f k27 (ev_b0 hn)))))))
    refine mr_read hmv (fun _ s45 t45 kw hne hmv2 => ?_)
    have e45 : s45 0 12 = s39 0 12 := kw 0 12 rfl rfl
    have e55 : s45 0 55 = σ 0 55 := by rw [kw 0 55 rfl rfl, hr 0 55 rfl rfl, k0 0 55 rfl rfl]
    have e56 : s45 0 56 = σ 0 56 := by rw [kw 0 56 rfl rfl, hr 0 56 rfl rfl, k0 0 56 rfl rfl]
    have e4515 : (s45 0 15).toInt = 0 := by rw [kw 0 15 rfl rfl]; exact hG39.2.2.2.1
    rw [e55, e56]
    refine ⟨fun y => (y.toInt ≠ 0 ↔ ((σ 0 55).toInt = 0 ∧ (T = (σ 0 56).toInt ∨ (0 < (σ 0 56).toInt ∧ Z ≠ 0)))), fun y _ hy => ?_, ¬ ((σ 0 55).toInt = 0 ∧ (T = (σ 0 56).toInt ∨ (0 < (σ 0 56).toInt ∧ Z ≠ 0))), fun hj => ⟨fun hx => absurd rfl hx, fun hx => absurd hx hj⟩, fun c55 hx => c55 hx.1, fun c55 => mr_fits hmv2 (fun v hv1 hv2 => ⟨fun c0 hx => ?_, fun c1 => ⟨fun _ => ⟨c55, hv2.1 ?_⟩, fun _ => by decide⟩⟩)⟩
    · refine mr_must (by rw [e45]; exact rgq_0 hG39.1) (fun s73 k73 f73 => mr_put0 (fun s79 k79 => ?_))
      have kz : Kp [(0, 12), (0, 13), (0, 17)] [8] s39 s79 := kp_tr (kp_tr (kp_sub kw rfl rfl) (kp_sub k73 rfl rfl)) (kp_sub k79 rfl rfl)
      have e79 : s79 0 12 = s73 0 12 := k79 0 12 rfl rfl
      have hB : MNq s39 s79 := fun hx => by rw [e79]; exact f73.2.2 (Or.inl (by rw [e45]; exact hx))
      have f57 : s79 0 57 = s39 0 57 := kz 0 57 rfl rfl
      have g57 : s39 0 57 = σ 0 57 := by rw [hr 0 57 rfl rfl, k0 0 57 rfl rfl]
      refine ⟨p', gqs l ++ [gq (38, p, 1, 0)], by omega, gm_k g39 (kz 0 10 rfl rfl), rg_ds hG39 (ds_k kz rfl rfl) (by rw [e79]; exact f73.1), fun hx => hB (hm (by rw [ea]; exact hx)), by rw [f57, g57], tf_read htf hun hne, fun hk => st_s hd' nn (ev_f n14 (ev_f n15 (ev_t c16 (ev_f k27 (ev_b hev (ev_t hk ev_c)))))), fun hk => st_s hd' nn (ev_f n14 (ev_f n15 (ev_t c16 (ev_f k27 (ev_b hev (ev_f hk ev_c)))))), fun O hO => ?_⟩
      refine ws_src (ds_k k0 rfl rfl) ea (k0 0 57 rfl rfl) (fun h0 w hR hf => ?_)
      refine wx_ex (rest := [gq (38, p, 1, 0)]) hex hact h15 hr h0 hR.1 hf hB (fun r hr hb => ⟨fun _ => hb, fun hx => absurd hx hr⟩) (fun r i r0 s0 T2 H6 hR1 hste hA => ?_)
      refine gv_s (x := (38, p, 1, 0)) (by simp) (fun _ => st_mono (sa_38c hR1.2.1 r0 hA hvr.1) (fun s2 hs2 => ?_)) (fun hx => absurd r0 hx)
      obtain ⟨o1, o2, o3⟩ := hs2
      obtain ⟨t1, t2, t3⟩ := hR1.2.2.2.2.1
      have e5 : (s39 0 55).toInt = (σ 0 55).toInt := by rw [← e55, kw 0 55 rfl rfl]
      have e6 : (s39 0 56).toInt = (σ 0 56).toInt := by rw [← e56, kw 0 56 rfl rfl]
      rw [e5, e6] at t3
      rw [t2, e6] at o3
      have hlp : LPq O w s39 := lp_cs hR.2 rfl (fun _ _ => rfl) (hr 0 57 rfl rfl)
      refine rs_end (σ := s39) (r := r) hlp hR1 (sw_x o1) o2 (by rw [o1.1 9 5 (op_lt (by omega)) rfl rfl, ste_95 hste]) (by rw [ko_rd o1.1 49 (by omega) rfl (fun _ => rfl), ste_49 hste]) (ds_k kz rfl rfl) f57 ?_
      rw [o3, e79, f73.2, e45]
      constructor
      · intro hx
        refine Or.inr ⟨Decidable.byContradiction (fun hy2 => ?_), by omega⟩
        obtain ⟨y1, y2⟩ := hy.1 hy2
        exact hx (y2.imp (fun e => ⟨e, fun e2 => (t3.2 e2) y1⟩) id)
      · rintro (hx | ⟨hx, _⟩)
        · exact absurd s0 hx
        · intro hz
          refine absurd hx (hy.2 ⟨Decidable.byContradiction (fun c5 => ?_), hz.imp (fun e => e.1) id⟩)
          have := t3.1 c5
          rcases hz with ⟨_, e⟩ | ⟨e, _⟩
          · exact e this
          · omega
    · have := hv2.2 hx.2
      omega
    · rcases hv1 with e | e
      · exact absurd e c1
      · exact e
  · have k27 := hv13.1 c
    refine mr_must (by rw [ea]; exact rgq_0 hG.1) (fun s25 k25 f25 => mr_put0 (fun s31 k31 => ?_))
    have kz : Kp [(0, 10), (0, 12), (0, 13), (0, 17)] [8] σ s31 := kp_tr (kp_tr (kp_sub k0 rfl rfl) (kp_sub k25 rfl rfl)) (kp_sub k31 rfl rfl)
    have e31 : s31 0 12 = s25 0 12 := k31 0 12 rfl rfl
    have hB : MNq σ s31 := fun hx => by rw [e31]; exact f25.2.2 (Or.inl (by rw [ea]; exact hx))
    refine ⟨p + 1, [gq (stp 38 p)], Nat.le_succ p, gm_k g0 (by rw [k31 0 10 rfl rfl, k25 0 10 rfl rfl]), rg_ds hG (ds_k kz rfl rfl) (by rw [e31]; exact f25.1), hB, kz 0 57 rfl rfl, tf_rf, fun _ => st_s hd' nn (ev_f n14 (ev_f n15 (ev_t c16 (ev_t k27 ev_c)))), fun h => absurd k27 h, fun O hO h0 w hR hf => ?_⟩
    refine gv_s (x := stp 38 p) (by simp [stp]) (fun _ => st_mono (sa_38 hf) (fun s hs => ?_)) (fun hx => absurd hf hx)
    obtain ⟨o1, o3⟩ := hs
    obtain ⟨t1, t2, t3⟩ := hR.1.2.2.2.2.1
    refine rs_end hR.2 hR.1 (sw_k o1 rfl rfl) (by rw [o1 7 7 rfl rfl]; exact hR.1.2.1) (o1 9 5 rfl rfl) (funext (fun j => o1 49 j rfl rfl)) (ds_k kz rfl rfl) (kz 0 57 rfl rfl) ?_
    rw [o3, e31, f25.2, ea, t2]
    constructor
    · intro hx
      refine Or.inr ⟨Decidable.byContradiction (fun hy2 => hx (t3.1 hy2)), by omega⟩
    · rintro (hx | ⟨hx, _⟩)
      · exact absurd h0 hx
      · exact fun e => (t3.2 e) hx
theorem es_statement (ha : a.toInt = (d : Int)) (hd : d ≤ 26)
    (hI : d ≤ 25 → ∀ p, SWr kd vl n m lo 2 d p (Kinner a)) (hB : d ≤ 25 → ∀ p, kd p = 22 → SWr kd vl n m lo 0 d p (Kblock a)) (hL : d ≤ 25 → ∀ p a2 a3, LWr kd vl n m lo d p (Kloop a a2 a3))
    (hD : d ≤ 25 → ∀ (p : Nat) (a2 : Int32), kd p = 12 → a2.toInt = (p : Int) → SWr kd vl n m lo 0 d p (KdoStatement a a2)) (hF : d ≤ 25 → ∀ (p : Nat) (a2 : Int32), kd p = 13 → a2.toInt = (p : Int) → SWr kd vl n m lo 0 d p (KforStatement a a2))
    (hV : d ≤ 25 → ∀ p, kd p = 5 → SWr kd vl n m lo 0 d p (fun σ τ vs Q T => pp_variables (0 : Int32) (0 : Int32) (1 : Int32) (upC σ 0 10 ((σ 0 10) + (1 : Int32))) τ vs Q T)) :
    SWr kd vl n m lo 0 d p (pp_statement Kstatement Kinner Kblock Kloop KdoStatement KforStatement a) := by
  intro S σ τ vs Q F hG hg h57 kk kn
  unfold pp_statement
  rw [ha]
  refine ⟨fun ca => ?_, fun ca => ?_⟩
  · have hd2 : d ≤ 25 := by omega
    have hd' : ¬ 25 < d := Nat.not_lt.mpr hd2
    have up : 2 ≤ kd p → GMt (upC σ 0 10 ((σ 0 10) + (1 : Int32))) n (p + 1) := fun h2 => gm_up hG.1.1 hg h2
    have k0 : Kp [(0, 10)] [] σ (upC σ 0 10 ((σ 0 10) + (1 : Int32))) := kp_f kp_rf rfl
    have ek : (σ 2 (σ 0 10).toNatClampNeg).toInt = rkI (kd p) := gm_kind hG.1.1 hg
    rw [ek]
    have hva := hV hd2 p
    refine fun _ => ⟨(kd p ≠ 5 ∧ kd p ≠ 9 ∧ kd p ≠ 11 ∧ kd p ≠ 12 ∧ kd p ≠ 13 ∧ kd p ≠ 14 ∧ kd p ≠ 15 ∧ kd p ≠ 16), fun hJ => ?_, (kd p = 14 ∨ kd p = 15), fun hJ _ => ?_, fun c => ?_, fun n5 => ⟨fun c => ?_, fun n6 => ⟨fun c => ?_, fun n7 => ⟨fun c => ?_, fun n8 => ⟨fun c => ?_, fun n9 => ⟨fun c => ?_, fun n10 => ⟨fun c => ?_, fun n11 => ⟨fun c => ?_, fun n12 => ⟨fun c => ?_, fun n13 => ⟨fun c => ?_, fun n14 => ⟨fun c => ?_, fun n15 => ⟨fun c => ?_, fun n16 => ?_⟩⟩⟩⟩⟩⟩⟩⟩⟩⟩⟩⟩
    · obtain ⟨j5, j9, j11, j12, j13, j14, j15, j16⟩ := hJ
      refine mr_is1 hG.1.1 hg (c := 22) (by decide) (by decide) (fun v hv => ⟨fun c0 => ?_, fun c1 => hB hd2 p (hv.1 c1) S σ τ vs _ F hG hg h57 kk kn⟩)
      have n22 : kd p ≠ 22 := fun h => (hv.2 h) c0
      refine mr_is1 hG.1.1 hg (c := 27) (by decide) (by decide) (fun v2 hv2 => ⟨fun s t z => SEm kd vl n m lo d S p σ τ vs s t z, fun s t z h => es_semi h kk kn, fun c1 => ?_, fun c1 => ?_⟩)
      · have k27 := hv2.1 c1
        exact ⟨p, [], Nat.le_refl p, hg, hG, fun h => h, rfl, tf_rf, fun _ => st_27 hd' k27, fun h => absurd k27 h, fun O hO => ws_nil ds_rf rfl rfl⟩
      · have n27 : kd p ≠ 27 := fun h => (hv2.2 h) c1
        have nn : kd p ≠ 22 ∧ kd p ≠ 27 ∧ kd p ≠ 5 ∧ kd p ≠ 9 ∧ kd p ≠ 11 ∧ kd p ≠ 12 ∧ kd p ≠ 13 := ⟨n22, n27, j5, j9, j11, j12, j13⟩
        exact es_plain hG hg (fun s t z p' l hev hp g1 hG1 hm e57 tf hW => ⟨p', gqs l ++ [gq (stp 22 p)], Nat.le_of_lt hp, g1, hG1, hm, e57, tf, fun hk => st_s hd' nn (ev_f j14 (ev_f j15 (ev_f j16 (ev_b hev (ev_t hk ev_c))))), fun hk => st_s hd' nn (ev_f j14 (ev_f j15 (ev_f j16 (ev_b hev (ev_f hk ev_c))))), fun O hO => ws_of (hW O p True) e57⟩) (fun hn => kn (st_s hd' nn (ev_f j14 (ev_f j15 (ev_f j16 (ev_b0 hn))))))
    · have nn : kd p ≠ 22 ∧ kd p ≠ 27 ∧ kd p ≠ 5 ∧ kd p ≠ 9 ∧ kd p ≠ 11 ∧ kd p ≠ 12 ∧ kd p ≠ 13 := by rcases hJ with e | e <;> rw [e] <;> decide
      have g0 := up (by rcases hJ with e | e <;> rw [e] <;> decide)
      generalize upC σ 0 10 ((σ 0 10) + (1 : Int32)) = σa at k0 g0 hva ⊢
      have hG0 := rg_ds hG (ds_k k0 rfl rfl) (by rw [k0 0 12 rfl rfl]; exact rgq_0 hG.1)
      have hno : kd (p + 1) ≠ 27 → EVq (fun N => STn kd vl N 0 d p) none := fun hk => by
        rcases hJ with e | e
        · exact st_s hd' nn (ev_t e (ev_f hk ev_c))
        · exact st_s hd' nn (ev_f (by rw [e]; decide) (ev_t e (ev_f hk ev_c)))
      refine ⟨fun _ => True, fun y0 _ _ => ?_, fun _ => trivial, fun _ => trivial⟩
      refine mr_expect hG0.1.1 g0 (c := 27) (by decide) (by decide) (fun k27 s3 k3 g3 => ?_) (fun hk => kn (hno hk))
      have k03 : Kp [(0, 10)] [] σ s3 := kp_tr k0 k3
      have e3 : s3 0 12 = σ 0 12 := k03 0 12 rfl rfl
      refine ⟨fun y => (y.toInt ≠ 0 ↔ 0 < (s3 0 57).toInt), fun y _ hy => ?_, fun c => ⟨fun hx => absurd rfl hx, fun hx => by omega⟩, fun c => ⟨fun _ => c, fun _ => by decide⟩⟩
      refine mr_must (by rw [e3]; exact rgq_0 hG.1) (fun s4 k4 f4 => ?_)
      have fin : ∀ s9, Kp [(0, 17), (0, 58), (0, 59)] [8] s4 s9 → Q s9 τ vs := fun s9 k9 => by
        have kz : Kp [(0, 10), (0, 12), (0, 13), (0, 17), (0, 58), (0, 59)] [8] σ s9 := kp_tr (kp_tr (kp_sub k03 rfl rfl) (kp_sub k4 rfl rfl)) (kp_sub k9 rfl rfl)
        have e9 : s9 0 12 = s4 0 12 := k9 0 12 rfl rfl
        have ev : ∃ y : Int, (y = 36 ∨ y = 37) ∧ EVq (fun N => STn kd vl N 0 d p) (some (p + 2, [gq (stp y p)])) := by
          rcases hJ with e | e
          · exact ⟨36, Or.inl rfl, st_s hd' nn (ev_t e (ev_t k27 ev_c))⟩
          · exact ⟨37, Or.inr rfl, st_s hd' nn (ev_f (by rw [e]; decide) (ev_t e (ev_t k27 ev_c)))⟩
        obtain ⟨y, hy2, hev⟩ := ev
        refine kk s9 τ vs ⟨p + 2, S, [gq (stp y p)], hev, by omega, gm_k g3 (by rw [k9 0 10 rfl rfl, k4 0 10 rfl rfl]), rg_ds hG (ds_k kz rfl rfl) (by rw [e9]; exact f4.1), fun hx => by rw [e9]; exact f4.2.2 (Or.inl (by rw [e3]; exact hx)), kz 0 57 rfl rfl, tf_rf, fun O hO => ws_leave hy2 (by rw [on_0] at hO; omega) (ds_k kz rfl rfl) (kz 0 57 rfl rfl) (fun h0 => ?_)⟩
        rw [e9, f4.2, e3]
        have e57 : s3 0 57 = σ 0 57 := k03 0 57 rfl rfl
        rw [e57] at hy
        constructor
        · rintro (hx | ⟨hx, _⟩)
          · exact absurd h0 hx
          · exact fun h => (hy.2 h) hx
        · intro hx
          refine Or.inr ⟨Decidable.byContradiction (fun h => hx (hy.1 h)), ?_⟩
          have := hG.2.2.2.1
          rw [k03 0 15 rfl rfl]
          omega
      refine ⟨fun _ => True, fun y2 _ => mr_put1 (fun s5 k5 => ⟨fun _ => fin _ (kp_f (kp_sub k5 rfl rfl) rfl), fun _ => fin _ (kp_f (kp_sub k5 rfl rfl) rfl)⟩), fun _ => trivial, fun _ => trivial⟩
    · exact hva (rk_is hG.1 5 (by decide) 5 (by decide) c) S σ τ vs _ F hG hg h57 kk kn
    · have e := rk_is hG.1 6 (by decide) 6 (by decide) c
      rw [e]; decide
    · have e := rk_is hG.1 7 (by decide) 7 (by decide) c
      rw [e]; decide
    · have e := rk_is hG.1 8 (by decide) 8 (by decide) c
      rw [e]; decide
    · have c9 := rk_is hG.1 9 (by decide) 9 (by decide) c
      have g0 := up (by rw [c9]; decide)
      generalize upC σ 0 10 ((σ 0 10) + (1 : Int32)) = σa at k0 g0 hva ⊢
      have hG0 := rg_ds hG (ds_k k0 rfl rfl) (by rw [k0 0 12 rfl rfl]; exact rgq_0 hG.1)
      refine es_condition hG0 g0 (fun s3 t3 z3 p3 l hcn hp3 g3 hG3 hm3 e573 tf3 hcd => mr_open (fun v4 s4 k4 => ?_)) (fun hn => kn (st_9 hd' c9 (ev_b0 (hn 23 p))))
      have e4 : s4 0 12 = s3 0 12 := k4 0 12 rfl rfl
      have f4 : s4 0 57 = σ 0 57 := by rw [k4 0 57 rfl rfl, e573, k0 0 57 rfl rfl]
      refine hI hd2 p3 S s4 t3 z3 _ F (rg_ds hG3 (ds_k k4 rfl rfl) (by rw [e4]; exact rgq_0 hG3.1)) (gm_k g3 (k4 0 10 rfl rfl)) (by rw [f4, on_2]; rw [on_0] at h57; omega) (fun s5 t5 z5 he => ?_) (fun hn => kn (st_9 hd' c9 (ev_b (hcn 23 p) (ev_b0 hn))))
      obtain ⟨p5, S5, gb, b1, b2, b3, b4, b5, b6, b7, b8⟩ := he
      have m04 : MNq σ s4 := fun hx => by rw [e4]; exact hm3 (by rw [k0 0 12 rfl rfl]; exact hx)
      have A1 : ∀ O, O < d → WOq kd n S m lo d O (O + 1) (gqs l ++ [gq (stp 23 p)]) σ s4 False := fun O hO => wo_ref (wo_src (ds_k k0 rfl rfl) (k0 0 12 rfl rfl) (wo_cd (by simp [stp]) hcd (fun r K T H Z F X i h95 h77 h63 hA hk => sa_23 h95 (by omega) h77 h63 hA hk))) (ds_k k4 rfl rfl) e4
      unfold pp_isWord
      rw [nat_of b3.1, b4.1.1.2.1 p5 b3.2]
      refine fun _ => ⟨fun c => ⟨fun hx => absurd rfl hx, fun _ => mr_aim (fun s6 k6 => ?_)⟩, fun c => ⟨fun _ => ?_, fun hx => absurd hx (by decide)⟩⟩
      · have n10' : kd p5 ≠ 10 := fun h => c (by rw [h]; decide)
        have e6 : s6 0 12 = s5 0 12 := k6 0 12 rfl rfl
        have f6 : s6 0 57 = σ 0 57 := by rw [k6 0 57 rfl rfl, b6, f4]
        refine kk s6 t5 z5 ⟨p5, S5, (gqs l ++ [gq (stp 23 p)]) ++ gb ++ [gq (stp 25 p)], st_9 hd' c9 (ev_b (hcn 23 p) (ev_b b1 (ev_f n10' ev_c))), by omega, gm_k b3 (k6 0 10 rfl rfl), rg_ds b4 (ds_k k6 rfl rfl) (by rw [e6]; exact rgq_0 b4.1), fun hx => by rw [e6]; exact b5 (m04 hx), f6, tf_tr tf3 b7, fun O hO => ?_⟩
        rw [on_0] at hO
        exact ws_loop (A1 O hO) (b8 (O + 1) (by rw [on_2]; omega)) (wo_st (b := True) (by simp [stp]) (fun w hw => sa_25 hw) (ds_k k6 rfl rfl) e6) b5 (mn_k e6) (Or.inr ⟨fun h => h, f4⟩) f6
      · have c10 : kd p5 = 10 := rk_is b4.1 10 (by decide) 10 (by decide) c
        have k6 : Kp [(0, 10)] [] s5 (upC s5 0 10 ((s5 0 10) + (1 : Int32))) := kp_f kp_rf rfl
        have g6 := gm_up b4.1.1 b3 (by rw [c10]; decide)
        generalize upC s5 0 10 ((s5 0 10) + (1 : Int32)) = s6 at k6 g6
        refine mr_open (fun v7 s7 k7 => mr_aim (fun s8 k8 => ?_))
        have k58 : Kp [(0, 10), (0, 17)] [8] s5 s8 := kp_tr (kp_tr (kp_sub k6 rfl rfl) (kp_sub k7 rfl rfl)) (kp_sub k8 rfl rfl)
        have e8 : s8 0 12 = s5 0 12 := k58 0 12 rfl rfl
        have f8 : s8 0 57 = s5 0 57 := k58 0 57 rfl rfl
        have f80 : s8 0 57 = σ 0 57 := by rw [f8, b6, f4]
        refine hI hd2 (p5 + 1) S5 s8 t5 z5 _ F (rg_ds b4 (ds_k k58 rfl rfl) (by rw [e8]; exact rgq_0 b4.1)) (gm_k g6 (by rw [k8 0 10 rfl rfl, k7 0 10 rfl rfl])) (by rw [f80, on_2]; rw [on_0] at h57; omega) (fun s9 t9 z9 he => mr_aim (fun sx kx => ?_)) (fun hn => kn (st_9 hd' c9 (ev_b (hcn 23 p) (ev_b b1 (ev_t c10 (ev_b0 hn))))))
        obtain ⟨p9, S9, ge, q1, q2, q3, q4, q5, q6, q7, q8⟩ := he
        have ex : sx 0 12 = s9 0 12 := kx 0 12 rfl rfl
        have fx : sx 0 57 = σ 0 57 := by rw [kx 0 57 rfl rfl, q6, f80]
        have m59 : MNq s5 s9 := fun hx => q5 (by rw [e8]; exact hx)
        refine kk sx t9 z9 ⟨p9, S9, (gqs l ++ [gq (stp 23 p)]) ++ gb ++ [gq (stp 24 p)] ++ ge ++ [gq (stp 25 p)], st_9 hd' c9 (ev_b (hcn 23 p) (ev_b b1 (ev_t c10 (ev_b q1 ev_c)))), by omega, gm_k q3 (kx 0 10 rfl rfl), rg_ds q4 (ds_k kx rfl rfl) (by rw [ex]; exact rgq_0 q4.1), fun hx => by rw [ex]; exact m59 (b5 (m04 hx)), fx, tf_tr (tf_tr tf3 b7) q7, fun O hO => ?_⟩
        rw [on_0] at hO
        have hO2 : O + 1 < onq 2 d := by rw [on_2]; omega
        have B1 : WSq kd n m lo d (O + 1) S S5 (gb ++ [gq (stp 24 p)]) s4 s8 := ws_app (b8 (O + 1) hO2) (ws_of (b := True) (wo_st (by simp [stp]) (fun w hw => sa_24 hw) (ds_k k58 rfl rfl) e8) f8) (mn_k e8)
        have B2 : WSq kd n m lo d (O + 1) S S9 ((gb ++ [gq (stp 24 p)]) ++ ge) s4 s9 := ws_app B1 (q8 (O + 1) hO2) q5
        have B3 := ws_loop (A1 O hO) B2 (wo_st (b := True) (y := stp 25 p) (by simp [stp]) (fun w hw => sa_25 hw) (ds_k kx rfl rfl) ex) (fun hx => m59 (b5 hx)) (mn_k ex) (Or.inr ⟨fun h => h, f4⟩) fx
        simp only [List.append_assoc] at B3 ⊢
        exact B3
    · have e := rk_is hG.1 10 (by decide) 10 (by decide) c
      rw [e]; decide
    · have c11 := rk_is hG.1 11 (by decide) 11 (by decide) c
      have g0 := up (by rw [c11]; decide)
      generalize upC σ 0 10 ((σ 0 10) + (1 : Int32)) = σa at k0 g0 hva ⊢
      have hG0 := rg_ds hG (ds_k k0 rfl rfl) (by rw [k0 0 12 rfl rfl]; exact rgq_0 hG.1)
      refine es_condition hG0 g0 (fun s3 t3 z3 p3 l hcn hp3 g3 hG3 hm3 e573 tf3 hcd => mr_open (fun v4 s4 k4 => ?_)) (fun hn => kn (st_11 hd' c11 (ev_b0 (hn 27 p))))
      have e4 : s4 0 12 = s3 0 12 := k4 0 12 rfl rfl
      have f4 : s4 0 57 = σ 0 57 := by rw [k4 0 57 rfl rfl, e573, k0 0 57 rfl rfl]
      have m04 : MNq σ s4 := fun hx => by rw [e4]; exact hm3 (by rw [k0 0 12 rfl rfl]; exact hx)
      refine hL hd2 p3 _ _ S s4 t3 z3 _ F (rg_ds hG3 (ds_k k4 rfl rfl) (by rw [e4]; exact rgq_0 hG3.1)) (gm_k g3 (k4 0 10 rfl rfl)) (by rw [f4]; exact h57) (fun s t z p1 S' gb σ1 σ2 h1 h2 h3 h4 h5 h6 h7 h8 h9 h10 h11 h12 h13 h14 => ?_) (fun hn => kn (st_11 hd' c11 (ev_b (hcn 27 p) (ev_b0 hn))))
      refine mr_put1 (fun s6 k6 => mr_aim (fun s7 k7 => mr_aimAll (fun s9 k9 => ?_)))
      have kE : Kp [(0, 17), (0, 58)] [8] s s9 := kp_tr (kp_tr (kp_tr (kp_f kp_rf rfl) (kp_sub k6 rfl rfl)) (kp_sub k7 rfl rfl)) (kp_sub k9 rfl rfl)
      have e9 : s9 0 12 = s 0 12 := kE 0 12 rfl rfl
      have f9 : s9 0 57 = σ 0 57 := by rw [kE 0 57 rfl rfl, h6, f4]
      have hm2 : MNq σ2 s9 := fun hx => by rw [e9, h13]; exact hx
      refine kk s9 t z ⟨p1, S', [gq (stp 26 p)] ++ (gqs l ++ [gq (stp 27 p)]) ++ gb ++ [gq (stp 28 p)], st_11 hd' c11 (ev_b (hcn 27 p) (ev_b h1 ev_c)), by omega, gm_k h3 (kE 0 10 rfl rfl), rg_ds h4 (ds_k kE rfl rfl) (by rw [e9]; exact rgq_0 h4.1), fun hx => hm2 (h11 (by rw [h9]; exact m04 hx)), f9, tf_tr tf3 h7, fun O hO => ?_⟩
      rw [on_0] at hO
      have A1 : WOq kd n S m lo d O (O + 1) [gq (stp 26 p)] σ σa True := wo_st (by simp [stp]) (fun w hw => sa_26 hw (by omega)) (ds_k k0 rfl rfl) (k0 0 12 rfl rfl)
      have A2 : WOq kd n S m lo d (O + 1) (O + 1) (gqs l ++ [gq (stp 27 p)]) σa s4 True := wo_ref (wo_cd (by simp [stp]) hcd (fun r K T H Z F X i h95 h77 h63 hA hk => sa_27 h95 h77 h63 hA hk)) (ds_k k4 rfl rfl) e4
      have A3 : WOq kd n S m lo d O (O + 1) ([gq (stp 26 p)] ++ (gqs l ++ [gq (stp 27 p)])) σ σ1 True := wo_ref (wo_app A1 A2 (fun hx => by rw [e4]; exact hm3 hx) (Or.inr (Or.inl rfl))) h8 h9
      exact ws_loop A3 (h14 O hO) (wo_st (b := True) (by simp [stp]) (fun w hw => sa_28 hw) (ds_tr h12 (ds_k kE rfl rfl)) (by rw [e9, h13])) h11 hm2 (Or.inl ⟨trivial, h10⟩) f9
    · exact hD hd2 p (σ 0 10) (rk_is hG.1 12 (by decide) 12 (by decide) c) hg.1 S σ τ vs _ F hG hg h57 kk kn
    · exact hF hd2 p (σ 0 10) (rk_is hG.1 13 (by decide) 13 (by decide) c) hg.1 S σ τ vs _ F hG hg h57 kk kn
    · exact Or.inl (rk_is hG.1 14 (by decide) 14 (by decide) c)
    · exact Or.inr (rk_is hG.1 15 (by decide) 15 (by decide) c)
    · exact es_return hd2 (rk_is hG.1 16 (by decide) 16 (by decide) c) hg.1 S σ τ vs _ F hG hg h57 kk kn
    · exact ⟨fun e => n5 (by rw [e]; decide), fun e => n9 (by rw [e]; decide), fun e => n11 (by rw [e]; decide), fun e => n12 (by rw [e]; decide), fun e => n13 (by rw [e]; decide), fun e => n14 (by rw [e]; decide), fun e => n15 (by rw [e]; decide), fun e => n16 (by rw [e]; decide)⟩
  · unfold pp_wrong pp_wrongAt
    exact fun _ => kn (st_0 (by omega))
end SST2
