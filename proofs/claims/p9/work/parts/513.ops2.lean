/-! operators of one and two parts -/
section OPS2
variable {σ s s' τ t : St} {vs z : List Nat}
theorem ev_in {u : Nat} (h : (τ u 1).toInt = 1 ∨ (τ u 1).toInt = 2) : ev τ u = 0 := by unfold ev; rw [if_pos h]
/-- a local gets a cell -/
theorem sp_pointed {v : Nat} {tk : Int32} {N : Nat} {Q : Nat → St → St → List Nat → Prop} (h : PA σ τ) (hp : v ∈ vs) (hl : (τ v 1).toInt = 1 → (τ v 2).toInt < (σ 0 49).toInt) (hw : (σ 0 17).toInt ≤ 499000) (ht : 0 ≤ tk.toInt ∧ tk.toInt < 16002) (hc : vs.length < CAP) (hN : 1 ≤ N) (k : ∀ u s t z, ROx σ τ vs N (ev τ v) 0 u s t z → Q u s t z) : wp_pointed v tk σ τ vs Q := by
  have h0 := h.2.2.1.2.2.2.2.1
  obtain ⟨⟨v1, v2⟩, ⟨v3, v4⟩, -, -, v5, -⟩ := h.2.2.2.2 v
  have nm : (τ v 0).toInt < 9 → 0 ≤ (τ v 0).toInt → ((τ v 0) + (1 : Int32)).toInt = (τ v 0).toInt + 1 := fun c1 c2 => ad1 (by omega)
  unfold wp_pointed
  refine ⟨hp, fun y => y.toInt ≠ 0 → (τ v 1).toInt ≠ 0 ∧ 0 ≤ (τ v 0).toInt ∧ (τ v 0).toInt < 9, fun y _ hy => sp_must ht (fun s hs hf => ⟨fun w => w.toInt ≠ -1, fun w hww => sp_made hp hp hc ht (fun q s' t hgt hq hv hs' => ?_), fun _ => by decide, fun c => ⟨hp, ?_⟩⟩), ⟨True, fun _ c => absurd rfl c, fun _ => trivial, fun c1 => ⟨fun _ => trivial, fun c2 => ⟨fun _ => trivial, fun c3 _ => ⟨c1, c2, c3⟩⟩⟩⟩⟩
  rotate_left 1
  · obtain ⟨g1, g2, g3⟩ := hy c
    have := nm g3 g2
    show (_ + (1 : Int32)).toInt ≠ -1
    omega
  have sq := sq_tr (sq_tl hs) (sq_tl hs')
  have hwc := sq_wc sq h0
  have hv1 : v ∈ vs ++ [q] := by simp [hp]
  have ne : v ≠ q := fun e => hq (e ▸ hp)
  have tv : ∀ j, t v j = τ v j := fun j => by rw [hv.1 v ne]
  have ok : ∀ {s9 : St} {n : Int}, SQ s' s9 n → (s9 0 12).toInt = 0 → (s9 0 15).toInt = 0 → (τ v 1).toInt ≠ 0 ∧ 0 ≤ (τ v 0).toInt ∧ (τ v 0).toInt < 9 := fun p f1 f2 => hy (hf (of0 hs'.2 (of0 p.2.1 f1)) (sil_sq (sq_tr (sq_tl hs') p) f2))
  have e1 := ev_nv hv hww
  have te0 : TE σ s' N (ev τ v) (ev τ v) := te_sq h0 (sq_tl hs) (sq_tl hs') (te_tl h0 hs) (te_tl (sq_wc (sq_tl hs) h0).1 hs')
  have ei : (s' 0 39) = (σ 0 39) := sq.1 _ _ rfl rfl
  have nohow : ∀ t' : St, t' q 1 = t q 1 → (t' q 1).toInt = 1 → False := fun t' e c => by
    rw [e, (nv_at hv).2.1] at c
    exact absurd c (by decide)
  refine ⟨hv1, fun s9 t9 z9 => t = t9 ∧ vs ++ [q] = z9 ∧ ((τ v 1).toInt ≠ 1 → s9 = s') ∧ ((τ v 1).toInt = 1 → RL σ vs s9 τ vs ∧ (s9 0 17).toInt ≤ (σ 0 17).toInt + 2 ∧ (s9 0 39).toInt = (σ 0 39).toInt ∧ TE σ s9 N 0 1), ?_, ?_, ?_⟩
  · rintro s9 _ _ ⟨rfl, rfl, g1, g2⟩
    refine ⟨hv1, fun c => ?_, fun c => ?_⟩
    · rw [tv] at c
      have e := g1 (by omega)
      subst e
      have sqw := hwc.2.1
      refine sp_put_1 hwc.1 (by omega) (fun s2 hp2 => ⟨by simp, ?_⟩)
      have sq2 := sq_tr sq (sq_pu hp2)
      have key : ∀ t', VNw τ q t' → t' q 1 = t q 1 → ev t' q = 1 → Q q s2 t' (vs ++ [q]) := fun t' v1 v2 v3 => by
        refine k _ _ _ _ (rox_new (sq_rl h sq2) hq v1 (fun c => (nohow t' v2 c).elim) ?_ ?_ ?_)
        · have := (sq_wc sq2 h0).2.1
          simp only [List.length_cons, List.length_nil] at this
          omega
        · have e : (s2 0 39) = (σ 0 39) := sq2.1 _ _ rfl rfl
          rw [e]; omega
        · rw [v3, ev_in (Or.inr c)]
          rw [ev_in (Or.inr c)] at te0
          refine te_sq h0 sq (sq_pu hp2) te0 (te_put (n := 2) hwc.1 hp2 rfl (by decide) rfl (k := 1) rfl (fun g' H L x hH hn hx => ⟨?_, hn⟩) hN)
          rw [hx _ rfl, tv]
          omega
      refine ⟨fun _ => ⟨hv1, sp_Vaddress (by simp) ?_⟩, fun _ => key t (vnw_nv hv) rfl e1⟩
      refine key _ (vnw_addr (vnw_nv hv) ?_) how_addr (by rw [ev_addr]; exact e1)
      rw [tv, ad1 (by omega)]
      omega
    · rw [tv] at c
      by_cases c1 : (τ v 1).toInt = 1
      · obtain ⟨r1, r2, r3, r4⟩ := g2 c1
        refine k _ _ _ _ (rox_new r1 hq (vnw_nv hv) (fun c => (nohow t rfl c).elim) (by omega) (by omega) ?_)
        rw [ev_in (Or.inl c1), e1]
        exact r4
      · have e := g1 c1
        subst e
        refine k _ _ _ _ (rox_new (sq_rl h sq) hq (vnw_nv hv) (fun c => (nohow t rfl c).elim) (by omega) (by rw [ei]; omega) ?_)
        refine te_if (ok sq_rf) (fun g => ?_)
        have e3 : ev τ v = 1 := ev_1 (by omega) (by omega)
        rw [e3] at te0
        rw [e1, e3]
        exact te0
  · intro c
    rw [tv] at c
    exact ⟨rfl, rfl, fun _ => rfl, fun c2 => absurd c2 c⟩
  · intro c
    rw [tv] at c
    rw [tv]
    refine ⟨by omega, ?_⟩
    have r0 := sq_rl (vs := vs) h sq
    have w0 : ((upC s' 33 (τ v 2).toNatClampNeg (vp_nar .boolean (1 : Int32))) 0 17) = (s' 0 17) := rfl
    have r1 : RL σ vs (upC s' 33 (τ v 2).toNatClampNeg (vp_nar .boolean (1 : Int32))) τ vs := rl_mk h (kp_a r0.1 rfl) (sq.1 0 10 rfl rfl) r0.2.2.2.2.2.1 (fun j hj => sq.2.2.1 j hj) r0.2.2.2.2.2.2.1 r0.2.1.2.2.1.2.2.2.1 r0.2.1.2.2.2.1.2.2.1 (mon_of (funext (fun j => sq.1 14 j rfl rfl)) (funext (fun j => sq.1 21 j rfl rfl))) r0.2.2.2.2.1 (ie_of (funext (fun j => sq.1 25 j rfl rfl)) (sq.1 _ _ rfl rfl) (sq.1 _ _ rfl rfl)) h.2.2.2.2 (fun _ h => h) (Nat.le_refl _)
    refine sp_put_1 (by rw [w0]; exact hwc.1) (by rw [w0]; omega) (fun s2 hp2 => ⟨rfl, rfl, fun c2 => absurd c c2, fun _ => ?_⟩)
    have r2 := rl_pu (vs := vs) r1.2.1 hp2 h.2.2.2.2 (fun _ h => h) (Nat.le_refl _)
    refine ⟨rl_tr r1 r2, ?_, ?_, ?_⟩
    · have := hp2.2.1
      rw [w0] at this
      simp only [List.length_cons, List.length_nil] at this
      omega
    · have : (s2 0 39) = (s' 0 39) := hp2.1 0 39 rfl rfl
      rw [this, ei]
    · have wσ : wcn σ ≤ wcn s' := hwc.2.2
      have t1 : TE σ (upC s' 33 (τ v 2).toNatClampNeg (vp_nar .boolean (1 : Int32))) N 0 0 := by
        refine te_same h0 ?_ r1.2.2.1 (ev_ke r1.1 r1.2.2.2.1)
        rw [w0]
        have a1 : (s' 0 17) = (s 0 17) := hs'.1 _ _ rfl rfl
        have a2 : (s 0 17) = (σ 0 17) := hs.1 _ _ rfl rfl
        rw [a1, a2]
      refine te_tr t1 (te_put (n := 2) (by rw [w0]; exact hwc.1) hp2 rfl (by decide) rfl (k := 4) rfl (fun g' H L x hH hn hx => ⟨?_, hn⟩) hN) wσ r2.2.2.2.2.1 (hp2.1 _ _ rfl rfl)
      rw [hx _ rfl]
      have e4 : (s2 0 49) = (σ 0 49) := (hp2.1 0 49 rfl rfl).trans (sq.1 0 49 rfl rfl)
      rw [e4]
      exact ⟨v3, hl c⟩
theorem sp_stepped {v : Nat} {op mode tk : Int32} {N : Nat} {Q : Nat → St → St → List Nat → Prop} (h : PA σ τ) (hp : v ∈ vs) (hl : (τ v 1).toInt = 1 → (τ v 2).toInt < (σ 0 49).toInt) (hw : (σ 0 17).toInt ≤ 499000) (ht : 0 ≤ tk.toInt ∧ tk.toInt < 16002) (hc : vs.length < CAP) (hN : 1 ≤ N) (k : ∀ u s t z, ROx σ τ vs N (ev τ v) 0 u s t z → Q u s t z) : wp_stepped v op mode tk σ τ vs Q := by
  have h0 := h.2.2.1.2.2.2.2.1
  obtain ⟨⟨v1, v2⟩, ⟨v3, v4⟩, -, -, v5, -⟩ := h.2.2.2.2 v
  unfold wp_stepped
  refine ⟨hp, fun y => y.toInt ≠ 0 → (τ v 1).toInt ≠ 0 ∧ 0 ≤ (τ v 0).toInt, fun y _ hy => sp_must ht (fun s hs hf => ⟨fun w => w.toInt = (τ v 0).toInt ∨ w.toInt = -2, fun w hww => sp_made hp hp hc ht (fun q s' t hgt hq hv hs' => ?_), fun _ => Or.inr (by decide), fun c => ⟨hp, Or.inl rfl⟩⟩), ⟨True, fun _ c => absurd rfl c, fun _ => trivial, fun c1 => ⟨fun _ => trivial, fun c2 _ => ⟨c1, c2⟩⟩⟩⟩
  have sq := sq_tr (sq_tl hs) (sq_tl hs')
  have hwc := sq_wc sq h0
  have hv1 : v ∈ vs ++ [q] := by simp [hp]
  have ne : v ≠ q := fun e => hq (e ▸ hp)
  have tv : ∀ j, t v j = τ v j := fun j => by rw [hv.1 v ne]
  have te0 : TE σ s' N (ev τ v) (ev τ v) := te_sq h0 (sq_tl hs) (sq_tl hs') (te_tl h0 hs) (te_tl (sq_wc (sq_tl hs) h0).1 hs')
  have nohow : (t q 1).toInt = 1 → False := fun c => by
    rw [(nv_at hv).2.1] at c
    exact absurd c (by decide)
  refine ⟨fun _ => True, fun w2 _ => ⟨hv1, fun s9 t9 z9 => t = t9 ∧ vs ++ [q] = z9 ∧ ((τ v 1).toInt ≠ 2 → s9 = s') ∧ ((τ v 1).toInt = 2 → PU s' s9 [1, (τ v 2)]), ?_, ?_, ?_⟩, fun _ => trivial, fun _ => trivial⟩
  · rintro s9 _ _ ⟨rfl, rfl, g1, g2⟩
    have sq9 : SQ s' s9 2 := by
      by_cases c : (τ v 1).toInt = 2
      · exact sq_pu (g2 c)
      · rw [g1 c]
        exact ⟨kp_rf, of_rf, fun _ _ => rfl, Int.le_refl _, by omega⟩
    have hwc9 := sq_wc sq9 hwc.1
    refine ⟨hv1, fun s8 t8 z8 => t = t8 ∧ vs ++ [q] = z8 ∧ (((τ v 1).toInt ≠ 1 ∧ ∃ l, PU s9 s8 [22, l, w2]) ∨ ((τ v 1).toInt = 1 ∧ PU s9 s8 [23, (τ v 2), w2])), ?_, ?_, ?_⟩
    · rintro s8 _ _ ⟨rfl, rfl, g3⟩
      have wr : ∃ a b, PU s9 s8 [a, b, w2] := by
        rcases g3 with ⟨-, l, g3⟩ | ⟨-, g3⟩
        · exact ⟨_, _, g3⟩
        · exact ⟨_, _, g3⟩
      obtain ⟨wa, wb, wr⟩ := wr
      have hwc8 := sq_wc (sq_pu wr) hwc9.1
      simp only [List.length_cons, List.length_nil] at hwc8
      refine sp_put_0 hwc8.1 (by omega) (fun s2 hp2 => ?_)
      have pu4 := pu_tr hwc9.1 wr hp2
      have sq2 := sq_tr sq (sq_tr sq9 (sq_pu pu4))
      refine k _ _ _ _ (rox_new (sq_rl h sq2) hq (vnw_nv hv) (fun c => (nohow c).elim) ?_ ?_ ?_)
      · have := (sq_wc sq2 h0).2.1
        simp only [List.length_append, List.length_cons, List.length_nil] at this
        omega
      · have e : (s2 0 39) = (σ 0 39) := sq2.1 _ _ rfl rfl
        rw [e]; omega
      · refine te_if (P := (τ v 1).toInt ≠ 0 ∧ 0 ≤ (τ v 0).toInt) (fun f1 f2 => hy (hf (of0 hs'.2 (of0 (sq_tr sq9 (sq_pu pu4)).2.1 f1)) (sil_sq (sq_tr (sq_tl hs') (sq_tr sq9 (sq_pu pu4))) f2))) (fun g => ?_)
        have e1 : ev t q = 1 := ev_nv hv (by rcases hww with e | e <;> omega)
        rw [e1]
        rcases g3 with ⟨c, l, g3⟩ | ⟨c, g3⟩
        · have pu4' := pu_tr hwc9.1 g3 hp2
          have t3 : TE s9 s2 N 1 1 := te_put (n := 4) hwc9.1 pu4' rfl (by decide) rfl (k := 22) rfl (fun g' H L x hH hn hx => ⟨by omega, hn⟩) hN
          by_cases c2 : (τ v 1).toInt = 2
          · rw [ev_in (Or.inr c2)] at te0 ⊢
            refine te_sq h0 sq (sq_tr sq9 (sq_pu pu4)) te0 (te_sq hwc.1 sq9 (sq_pu pu4) (te_put (n := 2) hwc.1 (g2 c2) rfl (by decide) rfl (k := 1) rfl (fun g' H L x hH hn hx => ⟨?_, hn⟩) hN) t3)
            rw [hx _ rfl]
            omega
          · have e3 : ev τ v = 1 := ev_1 (by omega) (by omega)
            rw [e3] at te0 ⊢
            have e9 := g1 c2
            subst e9
            exact te_sq h0 sq (sq_pu pu4) te0 t3
        · rw [ev_in (Or.inl c)] at te0 ⊢
          have e9 := g1 (by omega)
          subst e9
          have pu4' := pu_tr hwc9.1 g3 hp2
          refine te_sq h0 sq (sq_pu pu4) te0 (te_put (n := 4) hwc9.1 pu4' rfl (by decide) rfl (k := 23) rfl (fun g' H L x hH hn hx => ⟨?_, hn⟩) hN)
          rw [hx _ rfl]
          have e4 : (s2 0 49) = (σ 0 49) := sq2.1 _ _ rfl rfl
          rw [e4]
          exact ⟨v3, hl c⟩
    · intro c
      rw [tv] at c
      exact ⟨ht, sp_put_2 hwc9.1 (by omega) (fun s2 hp2 => ⟨rfl, rfl, Or.inl ⟨c, _, hp2⟩⟩)⟩
    · intro c
      rw [tv] at c
      rw [tv]
      exact sp_put_2 hwc9.1 (by omega) (fun s2 hp2 => ⟨rfl, rfl, Or.inr ⟨c, hp2⟩⟩)
  · intro c
    rw [tv] at c
    exact ⟨rfl, rfl, fun _ => rfl, fun c2 => absurd c2 c⟩
  · intro c
    rw [tv] at c
    rw [tv]
    exact sp_put_1 hwc.1 (by omega) (fun s2 hp2 => ⟨rfl, rfl, fun c2 => absurd c c2, fun _ => hp2⟩)
end OPS2
