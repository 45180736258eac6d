/-! the reference's expressions: calls, whole, on -/
/-- a call so far: N arguments, none higher than Hm -/
def CBq (kd : Nat → Int) (n S m lo d p : Nat) (gd : Prop) (r : Nat) (G : Nat → List Stq → Prop) (σ τ : St) (vs : List Nat) (N Hm : Int) (ok : Prop) (s t : St) (z : List Nat) : Prop :=
  ∃ (p1 : Nat) (l : List Stq), G p1 l ∧ p + 2 ≤ p1 ∧ GMt s n p1 ∧ KEr σ s ∧ MNq σ s ∧ RGm kd n S m lo s ∧ TFq τ vs t z ∧ (0 ≤ N ∧ N + p + 2 ≤ p1) ∧ (0 ≤ Hm ∧ Hm + p + 2 ≤ p1)
    ∧ (gd → ∀ c, ROq c d 1 → CLq kd n S m lo c ([stp 4 p] ++ l) σ s r N Hm ok)
section RCX
variable {σ σ1 σ' s τ t : St} {kd : Nat → Int} {n S m lo d p p1 k u q c r : Nat} {vs z : List Nat} {a b : Int32} {l : List Stq} {K T H Z F I N Hm : Int} {X : Int32} {ok ok2 : Prop}
variable {Kexpression Kchoice : Int32 → St → St → List Nat → (Nat → St → St → List Nat → Prop) → (St → St → List Nat → Prop) → Prop} {Kbinary : Int32 → Int32 → St → St → List Nat → (Nat → St → St → List Nat → Prop) → (St → St → List Nat → Prop) → Prop} {Kdecided : Int32 → Nat → Int32 → Int32 → St → St → List Nat → (Nat → St → St → List Nat → Prop) → (St → St → List Nat → Prop) → Prop} {Kunary Kbehind Kprimary : Int32 → St → St → List Nat → (Nat → St → St → List Nat → Prop) → (St → St → List Nat → Prop) → Prop} {Kcall_0 : Int32 → Int32 → St → St → List Nat → (Nat → St → St → List Nat → Prop) → (St → St → List Nat → Prop) → Prop}
theorem cl_iff (h : CLq kd n S m lo c l σ σ' r N Hm ok) (e : ok ↔ ok2) : CLq kd n S m lo c l σ σ' r N Hm ok2 := by
  have e' : ok = ok2 := propext e
  rw [← e']
  exact h
theorem mr_must2 {Q : St → St → List Nat → Prop} (h0 : 0 ≤ (σ 0 12).toInt) (kk : ∀ s, KFr σ s → FTq σ s (a.toInt = 0) → (a.toInt ≠ 0 → s = σ) → Q s τ vs) : pp_must a b σ τ vs Q :=
  ⟨fun h => kk σ kp_rf (ft_iff (ft_rf h0) ⟨fun hx => hx.elim, fun e => h e⟩) (fun _ => rfl), fun e => mr_tell h0 (by decide) (fun s k f => kk s k (ft_iff f ⟨fun _ => e, fun _ => trivial⟩) (fun h => absurd e h))⟩
theorem mr_is1 {Q : Int32 → Prop} {c : Int} (tk : RTk σ kd n) (g : GMt σ n p) (hc : 0 ≤ c ∧ c ≤ 62) (ha : ((32 : Int32) + a).toInt = rkI c) (kk : ∀ v : Int32, (v.toInt ≠ 0 ↔ kd p = c) → Q v) : pp_is a σ τ vs Q :=
  mr_is tk g hc ha (fun h => kk 1 ⟨fun _ => h, fun _ => by decide⟩) (fun h => kk 0 ⟨fun hx => absurd rfl hx, fun hx => absurd hx h⟩)
theorem mr_accept1 {Q : Int32 → St → St → List Nat → Prop} {c : Int} (tk : RTk σ kd n) (g : GMt σ n p) (hc : 2 ≤ c ∧ c ≤ 62) (ha : ((32 : Int32) + a).toInt = rkI c) (kk : ∀ (v : Int32) s p1, (v.toInt ≠ 0 ↔ kd p = c) → Kp [(0, 10)] [] σ s → GMt s n p1 → (kd p = c → p1 = p + 1) → (kd p ≠ c → p1 = p) → Q v s τ vs) : pp_accept a σ τ vs Q :=
  mr_accept tk g hc ha (fun h s k g' => kk 1 s (p + 1) ⟨fun _ => h, fun _ => by decide⟩ k g' (fun _ => rfl) (fun hx => absurd h hx)) (fun h => kk 0 σ p ⟨fun hx => absurd rfl hx, fun hx => absurd hx h⟩ kp_rf g (fun hx => absurd hx h) (fun _ => rfl))
theorem er_call {a1 a2 : Int32} (ha : a2.toInt = (d : Int)) (hd : d ≤ 25) (hb : a1.toInt = (p : Int)) (k2 : kd p = 2) (k20 : kd (p + 1) = 20) (hE : d < 25 → ∀ v : Int32, v.toInt = (d : Int) + 1 → ∀ p, ERq kd n S m lo 0 (d + 1) 0 p (Kexpression v)) :
    ECq kd n S m lo d p (fun σ τ vs Q T => pp_call_0 Kexpression Kchoice Kbinary Kdecided Kunary Kbehind Kprimary Kcall_0 a1 a2 σ τ vs Q T) := by
  intro σ τ vs Q F0 hG hg hk hn
  show pp_call_0 Kexpression Kchoice Kbinary Kdecided Kunary Kbehind Kprimary Kcall_0 a1 a2 σ τ vs Q (fun _ _ _ => F0)
  unfold pp_call_0
  have hn16 := hG.1.1
  have hpn : p ≤ n := by have := hg.2; omega
  have tu := hG.2.1 p hpn k2
  have hE0 := hG.2.2.2.2.1
  refine mr_local hb tu hG.2.2.2.1 (fun v2 hv2 => ⟨fun y => (LFm σ S p (-1) ∧ EFm σ lo (lo + m) p y.toInt) ∨ (y.toInt = -1 ∧ ∃ v : Int, 0 ≤ v ∧ LFm σ S p v), fun y hy => ?_, fun hx => mr_entity hb tu hE0 (fun v14 hv14 => Or.inl ⟨?_, hv14⟩), fun hx => Or.inr ⟨rfl, v2.toInt, hx, hv2⟩⟩)
  rotate_left
  · have e : v2.toInt = -1 := by
      rcases hv2 with ⟨j, _, _, _, e⟩ | ⟨_, e⟩
      · have := hG.2.2.2.2.2.2.2.2.1 j
        omega
      · exact e
    rw [← e]
    exact hv2
  refine ⟨fun y37 => (y37.toInt ≠ 0 ↔ 0 ≤ y.toInt ∧ (σ 9 y.toInt.toNat).toInt = 2), fun y37 w37 h37 => ?_, ¬ (0 ≤ y.toInt ∧ (σ 9 y.toInt.toNat).toInt = 2), fun hx => ⟨fun h => absurd rfl h, fun h => absurd h hx⟩, fun hx h => by omega, fun hx _ => ⟨fun h9 h => h9 h.2, fun h9 => ⟨fun _ => ⟨hx, h9⟩, fun _ => by decide⟩⟩⟩
  obtain ⟨r, hgood⟩ : ∃ r, y37.toInt ≠ 0 → (y.toNatClampNeg = lo + r ∧ y.toInt = ((lo + r : Nat) : Int) ∧ r < m ∧ LFm σ S p (-1) ∧ EFm σ lo (lo + m) p ((lo + r : Nat) : Int) ∧ (σ 9 (lo + r)).toInt = 2 ∧ lo + r < 10000) := by
    by_cases c : y37.toInt ≠ 0
    · obtain ⟨c1, c2⟩ := h37.1 c
      rcases hy with ⟨hl, he⟩ | ⟨hy, _⟩
      · have he' := he
        rcases he with ⟨e, e1, e2, e3, e4, e5⟩ | ⟨_, e5⟩
        · obtain ⟨r, rfl⟩ : ∃ r, e = lo + r := ⟨e - lo, by omega⟩
          rw [e5] at he' c2
          exact ⟨r, fun _ => ⟨nat_of e5, e5, by omega, hl, he', c2, by have := hE0.2.2.2.1; omega⟩⟩
        · omega
      · omega
    · exact ⟨0, fun h => absurd h c⟩
  have hbadf : y37.toInt = 0 → (LFm σ S p (-1) → EFm σ lo (lo + m) p (-1) ∨ ∃ e : Nat, EFm σ lo (lo + m) p e ∧ (σ 9 e).toInt ≠ 2) := by
    intro c hl
    rcases hy with ⟨_, he⟩ | ⟨_, v, hv, hl2⟩
    · by_cases c2 : 0 ≤ y.toInt
      · exact Or.inr ⟨y.toInt.toNat, by rw [Int.toNat_of_nonneg c2]; exact he, fun h => absurd c (h37.2 ⟨c2, h⟩)⟩
      · rcases he with ⟨e, _, _, _, _, e5⟩ | ⟨e4, e5⟩
        · omega
        · exact Or.inl (Or.inr ⟨e4, rfl⟩)
    · have := lf_one hl hl2
      omega
  clear hy hv2
  refine mr_must2 (rgq_0 hG) (fun s43 k43 f43 w43 => ⟨fun s t z => t = τ ∧ z = vs ∧ KEr σ s ∧ s 0 12 = s43 0 12 ∧ s 0 10 = σ 0 10 ∧ s 0 37 = σ 0 37 ∧ s 21 = σ 21 ∧ (y37.toInt ≠ 0 → ∀ k, s 14 k = if k = lo + r then 1 else σ 14 k), fun s58 t58 z58 h58 => ?_, fun h => ⟨rfl, rfl, kp_sub k43 rfl rfl, rfl, k43 0 10 rfl rfl, k43 0 37 rfl rfl, funext (fun i => k43 21 i rfl rfl), fun h2 => absurd h h2⟩, fun h _ => ⟨rfl, rfl, kp_a (kp_sub k43 rfl rfl) rfl, rfl, k43 0 10 rfl rfl, k43 0 37 rfl rfl, funext (fun i => k43 21 i rfl rfl), fun _ k => ?_⟩⟩)
  rotate_left
  · have en : vp_nar .boolean (1 : Int32) = 1 := rfl
    rw [rdA, (hgood h).1, en]
    split
    · rfl
    · exact k43 14 k rfl rfl
  obtain ⟨et, ez, q1, q2, q3, q4, q5, q6⟩ := h58
  rw [et, ez]
  clear et ez
  have hidx : y37.toInt ≠ 0 → (y - (s58 22 (s58 0 35).toNatClampNeg)).toNatClampNeg = r := fun h => by
    have e35 : s58 0 35 = σ 0 35 := q1 0 35 rfl rfl
    have e22 : s58 22 (σ 0 35).toNatClampNeg = σ 22 (σ 0 35).toNatClampNeg := q1 22 _ rfl rfl
    obtain ⟨g1, g2, g3, _, _, _, g4⟩ := hgood h
    have el := hE0.1
    rw [e35, e22]
    refine nat_of ?_
    rw [sb (by omega) (by omega), g2, el]
    omega
  refine ⟨fun s t z => t = τ ∧ z = vs ∧ KEr σ s ∧ s 0 12 = s43 0 12 ∧ s 0 10 = σ 0 10 ∧ s 0 37 = σ 0 37 ∧ (y37.toInt ≠ 0 → (∀ k, s 14 k = if k = lo + r then 1 else σ 14 k) ∧ ∀ k, (s 21 k).toInt < 0 ↔ k ≠ r ∧ (σ 21 k).toInt < 0), fun s99 t99 z99 h99 => ?_, fun h => ⟨rfl, rfl, q1, q2, q3, q4, fun h2 => absurd h h2⟩, fun h _ _ => ⟨fun hx => ⟨rfl, rfl, q1, q2, q3, q4, fun _ => ⟨q6 h, fun k => ?_⟩⟩, fun hx _ _ => ⟨rfl, rfl, kp_a q1 rfl, q2, q3, q4, fun _ => ⟨fun k => ?_, fun k => ?_⟩⟩⟩⟩
  rotate_left
  · rw [hidx h, q5] at hx
    rw [q5]
    refine ⟨fun hk => ⟨fun e => ?_, hk⟩, fun hk => hk.2⟩
    rw [e] at hk
    omega
  · rw [rdC_ne (by decide)]
    exact q6 h k
  · rw [rdA, hidx h, q5]
    by_cases c : k = r
    · rw [if_pos c, hb]
      exact ⟨fun hx => by omega, fun hx => absurd c hx.1⟩
    · rw [if_neg c]
      exact ⟨fun hx => ⟨c, hx⟩, fun hx => hx.2⟩
  obtain ⟨et, ez, q1, q2, q3, q4, q6⟩ := h99
  rw [et, ez]
  clear et ez hidx
  have hG99 : RGm kd n S m lo s99 := rgm_k hG q1 (by rw [q4]; exact rgq_D hG) (by rw [q2]; exact f43.1)
  have g99 : GMt s99 n (p + 1) := gm_k hg q3
  refine mr_deeper ha hd (fun hd2 v hv => ?_) (fun hd2 => hn (fun L => pv_k0 k2 k20 hd2))
  have k0 : Kp [(0, 10)] [] s99 (upC s99 0 10 ((s99 0 10) + (1 : Int32))) := kp_f kp_rf rfl
  have gu := gm_up hG99.1 g99 (by omega)
  have hGu := rgq_p hG99 k0
  generalize hsu : upC s99 0 10 ((s99 0 10) + (1 : Int32)) = su at k0 gu hGu ⊢
  have kEu : KEr σ su := kp_tr q1 (kpr_p k0).1
  have e12u : su 0 12 = s43 0 12 := (k0 0 12 rfl rfl).trans q2
  have e37u : su 0 37 = σ 0 37 := (k0 0 37 rfl rfl).trans q4
  have mnu : MNq σ su := fun hx => by rw [e12u]; exact f43.2.2 (Or.inl hx)
  have cl0 : y37.toInt ≠ 0 → ∀ c, ROq c d 1 → CLq kd n S m lo c ([stp 4 p] ++ []) σ su r 0 0 True := fun h c hc => by
    obtain ⟨g1, g2, g3, g4, g5, g6, g7⟩ := hgood h
    exact cl_callee hpn k2 (by unfold ROq at hc; omega) kEu g4 g5 g6 g3 (by rw [e12u, w43 h]) e37u (fun k => ((k0 14 k rfl rfl).trans ((q6 h).1 k))) (fun k => by rw [k0 21 k rfl rfl]; exact (q6 h).2 k)
  have bd0 : y37.toInt = 0 → FTq σ s43 True := fun h => ft_iff f43 ⟨fun _ => trivial, fun _ => h⟩
  have z2 : 0 ≤ (0 : Int32).toInt ∧ (0 : Int32).toInt + (p : Int) + 2 ≤ ((p + 2 : Nat) : Int) := by rw [i0]; omega
  refine mr_is1 hGu.1 gu (c := 21) (by decide) (by decide) (fun v128 e128 => ?_)
  refine ⟨fun x6 x7 x8 s t z => CBq kd n S m lo d p (y37.toInt ≠ 0) r (fun p1 l => (kd p1 = 21 → ∀ L, PVq kd 4 d 0 p L (some (p1 + 1, L ++ [stp 4 p] ++ l ++ [stp 6 p]))) ∧ (kd p1 ≠ 21 → ∀ L, PVq kd 4 d 0 p L none)) σ τ vs x6.toInt x7.toInt (x8.toInt ≠ 0) s t z ∧ MNq s43 s, ?_, ?_, ?_⟩
  · rintro x6 x7 x8 s t z w8 ⟨⟨p1, l, ⟨h1, h1b⟩, h2, h3, h4, h5, h6, h7, h8, h9, h10⟩, hmn⟩
    have hp1n := h3.2
    refine mr_expect h6.1 h3 (c := 21) (by decide) (by decide) (fun k21 s' ks' g' => ?_) (fun k21 => hn (h1b k21))
    have hG' := rgq_p h6 ks'
    refine ⟨fun y => (y37.toInt ≠ 0 → (y.toInt ≠ 0 ↔ x8.toInt ≠ 0 ∧ x6.toInt = (s' 15 (lo + r)).toInt)) ∧ (y37.toInt = 0 → y.toInt = 0), fun y253 w253 h253 => ?_, y37.toInt ≠ 0 → ¬ (x8.toInt ≠ 0 ∧ x6.toInt = (s' 15 (lo + r)).toInt), fun hx => ⟨fun h => ⟨fun h2 => absurd rfl h2, fun h2 => absurd h2 (hx h)⟩, fun _ => rfl⟩, fun e _ hx => hx.1 e, fun e8 => ⟨fun e37 h => absurd e37 h, fun e37 _ => ⟨fun hx _ hy => hx ?_, fun hx => ⟨fun _ => ⟨fun _ => ⟨e8, ?_⟩, fun _ => by decide⟩, fun h => absurd h e37⟩⟩⟩⟩
    rotate_left
    · rw [(hgood e37).1]
      exact hy.2
    · rw [(hgood e37).1] at hx
      exact hx
    refine mr_must (rgq_0 hG') (fun s8 k8 f8 => ⟨fun _ => True, fun y280 _ _ => mr_put2 (fun s286 k286 => fun _ q hq => ⟨fun y => (y37.toInt ≠ 0 → y.toInt = (σ 10 (lo + r)).toInt) ∧ (y37.toInt = 0 → y.toInt = -2), fun y309 h309 => ?_, fun h => ⟨fun h2 => absurd h h2, fun _ => rfl⟩, fun h _ => ⟨fun _ => ?_, fun h2 => absurd h2 h⟩⟩), fun _ => trivial, fun _ _ => trivial⟩)
    rotate_left
    · rw [(hgood h).1]
      have e : s286 10 (lo + r) = σ 10 (lo + r) := (k286 10 _ rfl rfl).trans ((k8 10 _ rfl rfl).trans ((ks' 10 _ rfl rfl).trans (h4 10 _ rfl rfl)))
      rw [e]
    refine mr_high (by rw [k286 0 12 rfl rfl]; exact f8.1) hq (by omega) (fun sF tF kF tfF mv fF => hk q sF tF _ ?_)
    have k3 : KPr s sF := kpr_tr (kpr_p ks') (kpr_tr (kpr_x (kf_x k8)) (kpr_tr (kpr_x (kw_x k286)) (kpr_x (kf_x kF))))
    have e10 : sF 0 10 = s' 0 10 := (kF 0 10 rfl rfl).trans ((k286 0 10 rfl rfl).trans (k8 0 10 rfl rfl))
    have f3 : FTq s sF (y253.toInt = 0 ∨ 60 < 1 + x7.toInt) := ft_from (ks' 0 12 rfl rfl) (ks' 0 15 rfl rfl) (ft_tr (ft_k f8 (k286 0 12 rfl rfl)) fF ((k286 0 15 rfl rfl).trans (k8 0 15 rfl rfl)))
    have e309 : -2 ≤ y309.toInt ∧ y309.toInt ≤ 9 := by
      by_cases c : y37.toInt ≠ 0
      · rw [h309.1 c]
        have := hG.2.2.2.2.2.2.2.1 (lo + r)
        have := (hG.2.2.2.2.2.2.2.2.2.1 (lo + r) (by omega) (by have := (hgood c).2.2.1; omega)).1.2
        omega
      · rw [h309.2 (by omega)]
        omega
    refine ⟨p1 + 1, [stp 4 p] ++ l ++ [stp 6 p], fun L => ?_, by omega, gm_k g' e10, kp_tr h4 k3.1, fun hx => f3.2.2 (Or.inl (h5 hx)), rgm_k h6 k3.1 (by rw [k3.2.2.1]; exact rgq_D h6) f3.1, tf_tr h7 tfF, List.mem_append_right _ (List.mem_singleton.mpr rfl), fun hx => hq (h7.1 q hx), 0, y309.toInt, 1 + x7.toInt, 0, 0, 0, 0, mv, ⟨by omega, e309, by omega, fun hx => absurd rfl hx, fun hx => absurd hx (by decide), fun hx => absurd hx (by decide), by omega, fun hx => by omega⟩, by omega, fun c hc => ?_⟩
    · have := h1 k21 L
      simp only [List.append_assoc] at this ⊢
      exact this
    · have hc2 : ROq c d 1 ∧ c < 480 := by
        have e : rmq 4 0 = 1 := rfl
        unfold ROq at hc ⊢
        rw [e] at hc
        omega
      by_cases hgd : y37.toInt ≠ 0
      · obtain ⟨g1, g2, g3, g4, g5, g6, g7⟩ := hgood hgd
        have e9 : s 9 (lo + r) = σ 9 (lo + r) := h4 9 _ rfl rfl
        have e10' : s 10 (lo + r) = σ 10 (lo + r) := h4 10 _ rfl rfl
        have e15 : s' 15 (lo + r) = s 15 (lo + r) := ks' 15 _ rfl rfl
        have f4 : FTq s sF (¬ (x8.toInt ≠ 0 ∧ x6.toInt = (s 15 (lo + r)).toInt) ∨ 60 < 1 + x7.toInt) := ft_iff f3 (or_congr (by
          have := h253.1 hgd
          rw [e15] at this
          rw [← this]
          omega) Iff.rfl)
        have := cl_call (q := p) (h10 hgd c hc2.1) hc2.2 h9.1 g3 (by rw [e9]; exact g6) h4 k3 f4
        rw [e10', ← h309.1 hgd] at this
        exact this
      · have e37 : y37.toInt = 0 := by omega
        rw [List.append_assoc]
        exact ex_nocall hpn k2 (by omega) (hbadf e37) (bd0 e37) (k43 0 15 rfl rfl) (fun hx => f3.2.2 (Or.inl (hmn hx)))
  · intro h
    have k21 := e128.1 h
    refine ⟨⟨p + 2, [], ⟨fun _ L => ?_, fun hx => absurd k21 hx⟩, by omega, gu, kEu, mnu, hGu, tf_rf, z2, z2, fun h c hc => cl_iff (cl0 h c hc) ⟨fun _ => by decide, fun _ => trivial⟩⟩, fun hx => by rw [e12u]; exact hx⟩
    have := pv_k1 (m := 0) (L := L) k2 k20 hd2 k21
    rw [List.append_nil]
    exact this
  · intro h
    have k21 : kd (p + 2) ≠ 21 := fun e => absurd h (e128.2 e)
    refine ⟨fun x6 x7 x8 s t z => CBq kd n S m lo d p (y37.toInt ≠ 0) r (fun p1 l => ∀ L R, PVq kd 5 d p p1 (L ++ [stp 4 p] ++ l) R → PVq kd 4 d 0 p L R) σ τ vs x6.toInt x7.toInt (x8.toInt ≠ 0) s t z ∧ MNq s43 s, ⟨⟨p + 2, [], fun L R hR => pv_k2 k2 k20 hd2 k21 (by rw [List.append_nil] at hR; exact hR), by omega, gu, kEu, mnu, hGu, tf_rf, z2, z2, fun h c hc => cl_iff (cl0 h c hc) ⟨fun _ => by decide, fun _ => trivial⟩⟩, fun hx => by rw [e12u]; exact hx⟩, ?_⟩
    rintro x6 x7 x8 s t z w8 ⟨⟨p1, l, h1, h2, h3, h4, h5, h6, h7, h8, h9, h10⟩, hmn⟩
    have hp1n := h3.2
    refine hE hd2 v hv p1 s t z _ F0 h6 h3 (fun u2 sE tE zE hx => ?_) (fun hnone => hn (fun L => h1 L none (pv_a0 (hnone (L ++ [stp 4 p] ++ l)))))
    obtain ⟨p2, l2, i1, i2, i3, i4, i5, i6, i7, i8, i9, K2, T2, H2, Z2, F2, I2, X2, j1, j2, j3, j4⟩ := hx
    have hp2n := i3.2
    have hH2 := j2.2.2.1
    refine mr_read j1 (fun _ sy ty ky hney j1' => ?_)
    have hGy := rgq_w i6 ky
    refine ⟨fun y => (y37.toInt ≠ 0 → (y.toInt ≠ 0 ↔ x8.toInt ≠ 0 ∧ AGm sE (lo + r) x6.toInt T2 Z2)), fun y194 w194 h194 _ => ?_, y37.toInt ≠ 0 → ¬ (x8.toInt ≠ 0 ∧ AGm sE (lo + r) x6.toInt T2 Z2), fun hx h => ⟨fun h2 => absurd rfl h2, fun h2 => absurd h2 (hx h)⟩, fun e _ hx => hx.1 e, fun e8 => ⟨fun e37 h => absurd e37 h, fun e37 _ => ?_⟩⟩
    · refine mr_accept1 hGy.1 (gm_k i3 (ky 0 10 rfl rfl)) (c := 26) (by decide) (by decide) (fun v214 s214 p3 e214 k214 g214 hp26 hp27 => ?_)
      have k3 : KPr sE s214 := kpr_tr (kpr_x (kw_x ky)) (kpr_p k214)
      have e12 : s214 0 12 = sE 0 12 := (k214 0 12 rfl rfl).trans (ky 0 12 rfl rfl)
      have e6 : (x6 + 1).toInt = x6.toInt + 1 := ad1 (by omega)
      have e7 : (if x7 < (ty u2 3) then (ty u2 3) else x7).toInt = mxq x7.toInt H2 := by rw [mx_int, j1'.2.2.1]
      have hp3 : p2 ≤ p3 := by
        by_cases c : kd p2 = 26
        · have := hp26 c; omega
        · have := hp27 c; omega
      have hmx : 0 ≤ mxq x7.toInt H2 ∧ mxq x7.toInt H2 + p + 2 ≤ p3 := by
        unfold mxq
        split <;> omega
      have all : ∀ G : Nat → List Stq → Prop, G p3 (l ++ l2 ++ [stp 5 p]) → CBq kd n S m lo d p (y37.toInt ≠ 0) r G σ τ vs (x6 + 1).toInt (if x7 < (ty u2 3) then (ty u2 3) else x7).toInt (y194.toInt ≠ 0) s214 ty zE ∧ MNq s43 s214 := fun G hGG => by
        rw [e6, e7]
        refine ⟨⟨p3, l ++ l2 ++ [stp 5 p], hGG, by omega, g214, kp_tr h4 (kp_tr i4 k3.1), fun hx => by rw [e12]; exact i5 (h5 hx), rgq_p hGy k214, tf_tr h7 (tf_read i7 i9 hney), ⟨by omega, by omega⟩, hmx, fun hgd c hc => ?_⟩, fun hx => by rw [e12]; exact i5 (hmn hx)⟩
        obtain ⟨g1, g2, g3, g4, g5, g6, g7⟩ := hgood hgd
        obtain ⟨r1, r2⟩ := ro_in hd2 hc (by decide)
        have e9 : sE 9 (lo + r) = σ 9 (lo + r) := (i4 9 _ rfl rfl).trans (h4 9 _ rfl rfl)
        have := cl_arg (q := p) (h10 hgd c hc) (j4 (c + 1) r1) j2 r2 ⟨h8.1, by omega⟩ g3 (by rw [e9]; exact g6) (fun hN => (i6.2.2.2.2.2.2.2.2.2.1 (lo + r) (by omega) (by omega)).2 (by rw [e9]; have := g6; omega) x6.toInt.toNat (by omega)) h4 i4 i5 k3 e12
        simp only [List.append_assoc] at this ⊢
        exact cl_iff this (h194 hgd).symm
      refine ⟨fun hx => ?_, fun hx => ?_⟩
      · have c := e214.1 hx
        obtain rfl := hp26 c
        refine all _ (fun L R hR => h1 L R (pv_a1 (i1 (L ++ [stp 4 p] ++ l)) c ?_))
        simp only [List.append_assoc] at hR ⊢
        exact hR
      · have c : kd p2 ≠ 26 := fun e => absurd hx (e214.2 e)
        obtain rfl := hp27 c
        refine all _ ⟨fun c1 L => ?_, fun c1 L => h1 L none (pv_a3 (i1 (L ++ [stp 4 p] ++ l)) c c1)⟩
        have := h1 L _ (pv_a2 (i1 (L ++ [stp 4 p] ++ l)) c1)
        simp only [List.append_assoc] at this ⊢
        exact this
    · obtain ⟨g1, g2, g3, g4, g5, g6, g7⟩ := hgood e37
      rw [g1]
      have e15 : sy 15 (lo + r) = sE 15 (lo + r) := ky 15 _ rfl rfl
      rw [e15]
      refine ⟨fun hx _ hy => by have := hy.2.1; omega, fun hx _ => ?_⟩
      have e8y : ((8 : Int32) * y).toInt = 8 * y.toInt := mul8q (by omega) (by omega)
      have ei : (((8 : Int32) * y) + x6).toNatClampNeg = 8 * (lo + r) + x6.toInt.toNat := nat_of (by
        rw [ad (by omega) (by omega), e8y, g2]
        omega)
      have e16 : sy 16 (8 * (lo + r) + x6.toInt.toNat) = sE 16 (8 * (lo + r) + x6.toInt.toNat) := ky 16 _ rfl rfl
      rw [ei, e16]
      refine mr_fits j1' (fun v183 w183 e183 => ⟨fun hy _ hz => ?_, fun hy _ => ⟨fun _ => ⟨e8, hx, e183.1 (by omega)⟩, fun _ => by decide⟩⟩)
      have := e183.2 hz.2.2
      omega
end RCX
