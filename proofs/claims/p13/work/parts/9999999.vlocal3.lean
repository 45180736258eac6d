/-! a local variable, whole; variables one behind the other -/
section VL3
variable {w s r s2 s95 s285 σ σ' τ t : St} {kd vl : Nat → Int} {n S m lo d p pb u Lc ty O : Nat} {vs z : List Nat} {a1 a2 a3 a4 a5 v tk tyv sz : Int32} {F0 : Prop} {A B : Prop} {g : List Gsq} {gb : List Gsq} {giv lk szi : Int} {x6 x7 x8 : Int}
theorem kn_br : KNq x6 x7 ≠ -1 ↔ 0 ≤ x6 := by
  unfold KNq
  by_cases c : 0 ≤ x6
  · rw [if_pos c]
    by_cases c2 : 1 ≤ x7 ∧ x7 ≤ 4000
    · rw [if_pos c2]
      exact ⟨fun _ => c, fun _ => by omega⟩
    · rw [if_neg c2]
      exact ⟨fun _ => c, fun _ => by decide⟩
  · rw [if_neg c]
    exact ⟨fun h => absurd rfl h, fun h => absurd h c⟩
theorem kn_cells {lack : Prop} (c : 0 ≤ x6) (nsq : ¬ SQm x6 x7 x8 lack) (h : x8 = 0 → 1 ≤ x7) : 1 ≤ KNq x6 x7 := by
  unfold KNq
  rw [if_pos c]
  by_cases c2 : 1 ≤ x7 ∧ x7 ≤ 4000
  · rw [if_pos c2]
    exact c2.1
  · exfalso
    exact nsq ⟨c, c2, fun hx => by
      have := h hx.1
      omega⟩
theorem tl_pos {br : Bool} (h : TLq kd vl br pb szi) (hb : br = true) (hvl : kd (pb + 1) = 4 → 0 ≤ vl (pb + 1)) (hr : kd (pb + 1) = 22 ∨ ALq kd (pb + 1)) : 1 ≤ szi := by
  rcases hr with c | c
  · obtain ⟨q, g, cnt, _, e, h1⟩ := h.1 c
    omega
  · have := h.2.1 ⟨hb, c⟩
    have := hvl c.1
    omega
theorem lh_rg (hG : RGs kd vl n S m lo d s95) (hlh : LHf s95 s285 S Lc v tk tyv sz A) (l2 : S ≤ Lc ∧ Lc ≤ 100) (l49 : (s95 0 49).toInt = (Lc : Int)) (hty : 0 ≤ tyv.toInt ∧ tyv.toInt ≤ 8) (hu : u ≤ n) (ku : kd u = 2) (htk : tk.toInt = (u : Int)) : ∃ S', RGs kd vl n S' m lo d s285 ∧ (Lc < 100 → S' = S + 1) := by
  obtain ⟨kr, e10, hft, hlt, hle⟩ := hlh
  by_cases hl : Lc < 100
  · obtain ⟨hv, g49, g53, g31, g32, g32L, g34, g35, g36⟩ := hlt hl
    exact ⟨S + 1, rg_more hG (by omega) hl l49 l2.1 hty hu ku htk hv kr hft.1 g49 g53 g31 g34 g35, fun _ => rfl⟩
  · exact ⟨S, rg_ds hG (hle (by omega)).1 hft.1, fun h => absurd h hl⟩
/-- a local variable: both sides -/
theorem es_vlocal {Q : St → St → List Nat → Prop} (h1 : a1.toInt = (u : Int)) (hu : u ≤ n) (ku : kd u = 2) (h2 : a2.toInt = (ty : Int)) (hty : ty ≤ 5) (h4 : a4.toInt = 0) (h5 : a5.toInt ≠ 0) (hd : 1 ≤ d ∧ d ≤ 26) (hG : RGs kd vl n S m lo d σ) (hg : GMt σ n p)
    (kk : ∀ s t z p' S' g, EVq (fun N => V1n kd vl N 0 u ty p) (some (p', g)) → p ≤ p' → GMt s n p' → RGs kd vl n S' m lo d s → MNq σ s → s 0 57 = σ 0 57 → TFq τ vs t z → (∀ O, WSq kd n m lo d O S S' g σ s) → Q s t z)
    (kn : EVq (fun N => V1n kd vl N 0 u ty p) none → F0) : pp_variable a1 a2 a3 a4 a5 σ τ vs Q (fun _ _ _ => F0) := by
  obtain ⟨Lc, l1, l2, l3⟩ := hG.2.2.1
  unfold pp_variable
  refine mr_is1 hG.1.1 hg (c := 24) (by decide) (by decide) (fun v12 hv12 => ⟨fun x6 x7 x8 s t z => BKv kd vl n S m lo d p σ τ vs x6 x7 x8 s t z, ?_, mr_bracket hv12 hG hg (fun x6 x7 x8 s t z _ h => h) (fun k24 hn => kn (ev_t k24 (ev_b0 hn)))⟩)
  rintro x6 x7 x8 s95 t95 z95 _ ⟨pb, gb, giv, b1, b2, b3, b4, b5, b6, b7, b8, b9, bx, b10⟩
  have l49 : (s95 0 49).toInt = (Lc : Int) := by rw [b8 0 49 rfl rfl]; exact l1
  have h54 : (s95 0 54).toInt = (d : Int) := b6.2.1
  have hlok := b6.1.2.2.2.1
  refine ⟨fun y => 0 ≤ x6.toInt → (y.toInt ≠ 0 ↔ 1 ≤ x7.toInt ∧ x7.toInt ≤ 4000), fun y0 _ hy0 => ⟨fun y1 => y1.toInt = KNq x6.toInt x7.toInt, fun y1 hy1 => ?_, fun c => ⟨fun c0 => ?_, fun c0 => ?_⟩, fun c => ?_⟩, 0 ≤ x6.toInt → 1 ≤ x7.toInt ∧ x7.toInt ≤ 4000, fun hj c => ⟨fun _ => hj c, fun _ => by decide⟩, fun c hx => by omega, fun c => ⟨¬ (1 ≤ x7.toInt ∧ x7.toInt ≤ 4000), fun hj _ => ⟨fun h => absurd rfl h, fun h => absurd h hj⟩, fun c2 h => by omega, fun c2 => ⟨fun c3 h => by omega, fun c3 _ => ⟨c2, c3⟩⟩⟩⟩
  · refine ⟨fun v s t z => t = t95 ∧ z = z95 ∧ LNf s95 s Lc v a2 y1 (HHm s95 S d u ∨ Lc = 100), ?_, fun c => absurd c h5, fun _ => mr_localName (rgq_0 b6.1) h1 (b6.1.2.1 u hu ku) hlok h54 l49 l3 (fun v s k f q1 q2 => ⟨rfl, rfl, k, f, q1, q2⟩)⟩
    rintro v s170 t170 z170 ⟨et, ez, hln⟩
    rw [et, ez]
    refine ⟨fun s t z => t = t95 ∧ z = z95 ∧ LNf s95 s Lc v a2 y1 ((HHm s95 S d u ∨ Lc = 100) ∨ SQm x6.toInt x7.toInt x8.toInt (kd pb = 30)), ?_, mr_square (J232 := fun s t z => t = t95 ∧ z = z95 ∧ LNf s95 s Lc v a2 y1 ((HHm s95 S d u ∨ Lc = 100) ∨ SQm x6.toInt x7.toInt x8.toInt (kd pb = 30))) (lack := kd pb = 30) (rtk_k hln.1 (fun _ => rfl) rfl b6.1.1) (gm_k b5 (hln.1 0 10 rfl rfl)) hln.2.1.1 ⟨fun h => Or.inr h, fun h => h.elim (fun h => absurd h4 h) id⟩ hy0 (fun s' k' f' => ⟨rfl, rfl, ln_k hln k' f'⟩)⟩
    rintro s232 t232 z232 ⟨et2, ez2, hln2⟩
    rw [et2, ez2]
    refine ⟨fun s t z => t = t95 ∧ z = z95 ∧ LNf s95 s Lc v a2 y1 ((HHm s95 S d u ∨ Lc = 100) ∨ SQm x6.toInt x7.toInt x8.toInt (kd pb = 30)), ?_, fun _ => ⟨rfl, rfl, hln2⟩, fun c => absurd c h5⟩
    rintro s260 t260 z260 ⟨et3, ez3, hln3⟩
    rw [et3, ez3]
    refine ⟨fun s t z => t = t95 ∧ z = z95 ∧ LHf s95 s S Lc v a1 a2 y1 ((HHm s95 S d u ∨ Lc = 100) ∨ SQm x6.toInt x7.toInt x8.toInt (kd pb = 30)), ?_, fun c => absurd c h5, fun _ => ⟨fun cv => ⟨rfl, rfl, ?_⟩, fun cv => ?_⟩⟩
    · rintro s285 t285 z285 ⟨et4, ez4, hlh⟩
      rw [et4, ez4]
      have g285 : GMt s285 n pb := gm_k b5 hlh.2.1
      obtain ⟨S', hG285, hS'⟩ := lh_rg b6 hlh ⟨l2, l3⟩ l49 ⟨by omega, by omega⟩ hu ku h1
      have hm285 : MNq σ s285 := fun hx => hlh.2.2.1.2.2 (Or.inl (by rw [b7]; exact hx))
      have e57 : s285 0 57 = σ 0 57 := by rw [hlh.1 0 57 rfl rfl, b8 0 57 rfl rfl]
      have hvl : ∀ q, q ≤ n → kd q = 4 → 0 ≤ vl q := fun q q1 q2 => by
        have := (hG.1.2.2.1 q q1 q2).1
        rw [hG.2.2.2.2 q q1] at this
        exact this
      refine es_set (loc := True) h2 ⟨fun _ => trivial, fun _ => h5⟩ hG285 g285 (fun c30 s' t' z' p' g szi br cells e1 hcl hev htl hp g1 hG1 hm hke htf hin _ => ?_) (fun n30 => ?_) (fun c30 br e1 hn => kn (v1_none b1 b2 c30 (e1.trans b3) hn))
      · refine kk s' t' z' p' S' (bkl kd p gb giv szi ++ [gq (43, u, (ty : Int), 0 + 4)] ++ g) (v1_set b1 b2 c30 (e1.trans b3) hev) (by omega) g1 hG1 (fun hx => hm (hm285 hx)) (by rw [hke 0 57 rfl rfl]; exact e57) (tf_tr b9 htf) (fun O => ?_)
        intro h0 w hR hf
        rw [List.append_assoc]
        have hts : 0 ≤ x6.toInt → TSz kd vl pb szi := fun c => ⟨fun _ => by
          have : br = true := e1.2 c
          rw [this] at htl
          exact htl, fun h => absurd c30 h⟩
        have hbk : (σ 0 12).toInt = 0 → ∀ w, REq kd n S m lo w σ → (w 6 3).toInt = 0 → (w 7 7).toInt = 0 → (w 8 6).toInt = -1 → GWq (bkl kd p gb giv szi) w (fun w1 => (w1 6 3).toInt = 0 ∧ BKg kd n S m lo x6.toInt x7.toInt x8.toInt w w1 s95) False := by
          by_cases c : 0 ≤ x6.toInt
          · exact b10 szi (hts c)
          · have n24 : ¬ kd p = 24 := fun h => c (b3.2 h)
            intro h0' w' q1 q2 q3 q4
            unfold bkl
            rw [if_neg n24]
            by_cases ct : ∃ sz, TSz kd vl pb sz
            · obtain ⟨sz, hsz⟩ := ct
              have hx := b10 sz hsz h0' w' q1 q2 q3 q4
              rw [if_neg n24] at hx
              exact hx
            · exfalso
              refine ct ⟨if kd (pb + 1) = 22 then szi else if ALq kd (pb + 1) then vl (pb + 1) + 1 else 0, fun _ => ⟨fun h => ?_, fun h => ?_, fun h h3 => ?_⟩, fun h => absurd c30 h⟩
              · rw [if_pos h]
                exact htl.1 h
              · rw [if_neg (fun hx => by have := h.2.1; omega), if_pos h.2]
              · rw [if_neg h, if_neg (fun hx => h3 ⟨rfl, hx⟩)]
        refine vl_walk (lk := 0 + 4) (pb := pb) (Or.inr ⟨rfl, c30⟩) hu ku h1 h2 hty hd ⟨l2, l3⟩ l49 hbk b8 b7 b6.2.2.2.1 hy1 hlh hm (fun s hs hb => ⟨fun _ => hb, fun hx => absurd hx hs⟩) h0 hR.1 hf (fun r r63 n285 hRo hl nsq e95 e49 f11 f9 f15 f16 f12 f13 => ?_)
        have eS := hS' hl
        rw [eS] at hin
        have hin2 := hin n285 r hRo.1 r63 hRo.2.1 f11 ⟨fun _ => trivial, fun _ => f9⟩ f15 f16 (by rw [f12, kn_br]; exact e1.symm) (fun hbr => by
          have hb := hbr.1
          have c6 := e1.1 hb
          rw [f12, hcl hb, hy1]
          have : 1 ≤ KNq x6.toInt x7.toInt := kn_cells c6 nsq (fun h8 => by
            have := bx szi (hts c6) h8
            have := tl_pos htl hb (fun h => hvl _ (by have := g1.2; omega) h) hbr.2
            omega)
          rw [if_neg (by omega)]) ⟨fun h => absurd f13 h, fun h => absurd h4 h⟩
        refine gv_mono hin2 (fun s2 hs2 => ⟨hs2.1, fun c => ?_⟩) id
        obtain ⟨k1, k2, k3, k4⟩ := hs2.2 c
        obtain ⟨hC, hL, hT⟩ := ro_parts hRo (ko_sub k4 rfl rfl) hke
        rw [eS]
        refine ⟨k1, ⟨⟨k2, by rw [k3]; rfl, hC, hL, hT, by rw [k4 8 6 (op_lt (by decide)) rfl rfl]; exact hRo.2.2.2.2.2⟩, lp_at hR.2 ?_ (fun i hi => ?_) (by rw [hke 0 57 rfl rfl]; exact e57)⟩, fun i hi => ?_⟩
        · rw [k4 9 5 (op_lt (by decide)) rfl rfl, e95]
          exact hR.2.1
        · rw [ko_rd k4 49 (by omega) rfl (fun _ => rfl), e49]
        · rw [ko_rd k4 49 (by omega) rfl (fun _ => rfl), e49]
      · refine kk s285 t95 z95 pb S' (bkl kd p gb giv 0 ++ [gq (43, u, (ty : Int), 0)]) (v1_no b1 b2 n30) b4 g285 hG285 hm285 e57 b9 (fun O => ?_)
        intro h0 w hR hf
        have hts : TSz kd vl pb 0 := ⟨fun h => absurd h n30, fun _ => rfl⟩
        refine vl_walk (lk := 0) (pb := pb) (rest := []) (Or.inl ⟨rfl, n30⟩) hu ku h1 h2 hty hd ⟨l2, l3⟩ l49 (b10 0 hts) b8 b7 b6.2.2.2.1 hy1 hlh id (fun s hs hb => ⟨fun _ => hb, fun hx => absurd hx hs⟩) h0 hR.1 hf (fun r r63 n285 hRo hl nsq e95 e49 f11 f9 f15 f16 f12 f13 => ?_)
        have eS := hS' hl
        rw [eS]
        exact ⟨fun hx => absurd r63 hx, fun _ => ⟨n285, ⟨hRo, lp_at hR.2 (by rw [e95]; exact hR.2.1) (fun i hi => by rw [e49]) e57⟩, fun i hi => by rw [e49]⟩⟩
    · have hl : Lc = 100 := by
        by_cases c : Lc < 100
        · have := (hln3.2.2.1 c).1
          omega
        · omega
      exact ⟨kp_sub hln3.1 rfl rfl, hln3.1 0 10 rfl rfl, hln3.2.1, fun c => by omega, fun _ => ⟨ds_ln hln3 hl, Or.inl (Or.inr hl)⟩⟩
    · have hl : Lc < 100 := by
        by_cases c : Lc = 100
        · have := (hln3.2.2.2 c).1
          omega
        · omega
      obtain ⟨q1, q2, q3, q4, q5⟩ := hln3.2.2.1 hl
      refine mr_hold (S := S) (by rw [hln3.1 0 53 rfl rfl]; exact hlok.1) (by omega) (fun s274 k274 f53 f34 f35 f36 => mr_put1 (fun s282 k282 => ⟨rfl, rfl, ?_⟩))
      have kz : Kp [(0, 53), (0, 17)] [34, 35, 36, 8] s260 s282 := kp_tr (kp_sub k274 rfl rfl) (kp_sub k282 rfl rfl)
      have e12 : s282 0 12 = s260 0 12 := kz 0 12 rfl rfl
      refine ⟨kp_tr (kp_sub hln3.1 rfl rfl) (kp_sub kz rfl rfl), by rw [kz 0 10 rfl rfl, hln3.1 0 10 rfl rfl], ft_k hln3.2.1 e12, fun _ => ⟨q1, ?_, ?_, fun j => ?_, fun j hj => ?_, ?_, fun j => ?_, fun j => ?_, fun j => ?_⟩, fun c => by omega⟩
      · rw [kz 0 49 rfl rfl]; exact q2
      · rw [k282 0 53 rfl rfl]; exact f53
      · rw [kz 31 j rfl rfl]; exact q3 j
      · rw [kz 32 j rfl rfl]; exact q4 j hj
      · rw [kz 32 Lc rfl rfl]; exact q5
      · rw [k282 34 j rfl rfl, f34, hln3.1 34 j rfl rfl]
      · rw [k282 35 j rfl rfl, f35, hln3.1 35 j rfl rfl]
      · rw [k282 36 j rfl rfl, f36, hln3.1 36 j rfl rfl, hln3.1 0 54 rfl rfl]
  · show ((0 : Int32)).toInt = KNq x6.toInt x7.toInt
    unfold KNq
    rw [if_pos c, if_neg (fun h => ((hy0 c).2 h) c0)]
    rfl
  · show x7.toInt = KNq x6.toInt x7.toInt
    unfold KNq
    rw [if_pos c, if_pos ((hy0 c).1 c0)]
  · show ((-1 : Int32)).toInt = KNq x6.toInt x7.toInt
    unfold KNq
    rw [if_neg (by omega)]
    rfl
end VL3
