/-! names, and operators of one part -/
section LEAF
variable {σ s τ t : St} {vs z : List Nat}
theorem nar_b1 : vp_nar .boolean (1 : Int32) = 1 := by decide
theorem sp_named {tk : Int32} {N : Nat} {Q : Nat → St → St → List Nat → Prop} (h : PA σ τ) (h1 : 0 ≤ tk.toInt ∧ tk.toInt < (σ 0 8).toInt) (hw : (σ 0 17).toInt ≤ 499000) (hc : vs.length < CAP) (hN : 1 ≤ N) (k : ∀ u s t z, ROx σ τ vs N 0 0 u s t z → Q u s t z) : wp_named tk σ τ vs Q := by
  have htk : tk.toInt < 16002 := (at_tok h.1 h.2.1).2 |> fun _ => by have := h.1.2.1; omega
  have h9 := h
  obtain ⟨hT, hA, ⟨n1, n2, n3, n4, n5, n6, n7⟩, ⟨a1, a2, a3, a4, a5, a6, a7, a8, a9, b1, b2, b3⟩, h5⟩ := h9
  unfold wp_named
  refine sp_local h ⟨h1.1, htk⟩ (fun l l1 l2 l3 => ⟨fun c => ?_, fun c => ⟨hc, fun q hq => ⟨⟨c, by omega⟩, fun y => 0 ≤ y.toInt, fun y hy => sp_Vinit (fun t2 ht2 => ⟨⟨c, by omega⟩, fun y1 => (y1 = 1 ∧ ((σ 32) l.toNatClampNeg).toInt < 0) ∨ (y1 = 0 ∧ 0 ≤ ((σ 32) l.toNatClampNeg).toInt), fun y1 _ hy1 => ⟨by simp, ⟨c, by omega⟩, fun c2 => ?_, fun c2 => ?_⟩, fun c2 => Or.inr ⟨rfl, c2⟩, fun c2 => Or.inl ⟨rfl, c2⟩⟩), fun _ => ⟨⟨c, by omega⟩, ?_⟩, fun _ => ⟨⟨c, by omega⟩, (a6 _).1⟩⟩⟩⟩)
  · -- a name of the unit
    have key : ∀ s, TL σ s → ((s 0 12).toInt = 0 → (s 0 15).toInt = 0 → False) → ∀ q t2, q ∉ vs → NV τ q (-2) 1 t2 → Q q s t2 (vs ++ [q]) := fun s hs hf q t2 hq ht2 => by
      have v2 := vnw_nv ht2
      have ew : (s 0 17) = (σ 0 17) := hs.1 _ _ rfl rfl
      have ei : (s 0 39) = (σ 0 39) := hs.1 _ _ rfl rfl
      refine k _ _ _ _ ⟨rl_tl h hs (vok_vnw h5 v2) (fun u hu => by simp [hu]) (by simp), vfr_vnw hq v2, ⟨by simp, hq⟩, fun c2 => ?_, by rw [ew]; omega, by rw [ei]; omega, by simp, te_no hf⟩
      rw [(nv_at ht2).2.1] at c2
      exact absurd c2 (by decide)
    refine sp_entity h ⟨h1.1, htk⟩ ?_ (fun e e1 e2 => ?_)
    · refine ⟨fun y => y = 0, fun y _ hy => sp_must ⟨h1.1, htk⟩ (fun s hs hf => ⟨True, fun _ => ⟨hc, fun q hq => sp_Vinit (fun t2 ht2 => key s hs (fun f1 f2 => hf f1 f2 (by rw [hy]; rfl)) q t2 hq ht2)⟩, fun _ => trivial, fun c2 => absurd c2 (by decide)⟩), ⟨True, fun _ => rfl, fun _ => trivial, fun c2 => absurd c2 (by decide)⟩⟩
    · have e3 : 0 ≤ e.toInt ∧ e.toInt < 10000 := by omega
      refine ⟨fun y => y.toInt ≠ 0 → ((σ 9) e.toNatClampNeg).toInt = 1, fun y _ hy => sp_must ⟨h1.1, htk⟩ (fun s hs hf => ⟨(s 0 12).toInt = 0 → (s 0 15).toInt = 0 → False, fun hff => ⟨hc, fun q hq => sp_Vinit (fun t2 ht2 => key s hs hff q t2 hq ht2)⟩, fun c2 => absurd c2 (by omega), fun _ => ⟨e3, fun c2 => ?_, fun c2 f1 f2 => ?_⟩⟩), ⟨True, fun _ => fun c2 => absurd rfl c2, fun _ => trivial, fun _ => ⟨e3, fun _ => trivial, fun c2 _ => c2⟩⟩⟩
      · -- a variable
        have es : ∀ j, (s 9) j = (σ 9) j := fun j => hs.1 9 j rfl rfl
        have et : ∀ j, (s 10) j = (σ 10) j := fun j => hs.1 10 j rfl rfl
        have ef : ((s 22) (s 0 35).toNatClampNeg) = (σ 22) (σ 0 35).toNatClampNeg := by
          have q1 : (s 0 35) = (σ 0 35) := hs.1 _ _ rfl rfl
          rw [q1]; exact hs.1 22 _ rfl rfl
        have eo : (s 0 35) = (σ 0 35) := hs.1 _ _ rfl rfl
        rw [es] at c2
        have ht := a8 _ c2
        have ht2 := (a7 e.toNatClampNeg).2
        have hF : ((σ 22) (σ 0 35).toNatClampNeg).toInt = Fi σ := rfl
        have en : (e - ((σ 22) (σ 0 35).toNatClampNeg)).toInt = e.toInt - Fi σ := by rw [← hF]; exact sb (by rw [hF]; omega) (by rw [hF]; omega)
        refine ⟨e3, by rw [eo]; omega, hc, fun q hq => ⟨e3, fun y => 0 ≤ y.toInt, fun y hy => sp_Vinit (fun t2 ht2 => ⟨by simp, e3, fun c3 => ?_, fun c3 => ?_⟩), fun _ => ⟨e3, ?_⟩, fun _ => ⟨e3, by rw [et]; exact ht⟩⟩⟩
        rotate_left 2
        · rw [et]
          have e7 := ad1 (x := (σ 10) e.toNatClampNeg) (by omega)
          show 0 ≤ ((σ 10) e.toNatClampNeg + (1 : Int32)).toInt
          omega
        all_goals
          rw [ef]
          have r1 : RL σ vs (upC s 14 e.toNatClampNeg (vp_nar .boolean (1 : Int32))) τ vs := rl_mk h (kp_a (kp_sub hs.1 rfl rfl) rfl) (hs.1 _ _ rfl rfl) (by show (σ 0 17).toInt ≤ (s 0 17).toInt; rw [hs.1 _ _ rfl rfl]; exact Int.le_refl _) (fun j _ => hs.1 8 j rfl rfl) (by show (σ 0 39).toInt ≤ (s 0 39).toInt; rw [hs.1 _ _ rfl rfl]; exact Int.le_refl _) (by show 0 ≤ (s 0 37).toInt ∧ (s 0 37).toInt ≤ 16000; rw [hs.1 _ _ rfl rfl]; exact n4) (by
              have f1 : (s 21) = (σ 21) := funext (fun j => hs.1 21 j rfl rfl)
              show AllIn (-1) 16001 (s 21)
              rw [f1]; exact a3) ⟨fun j q1 => by
                rw [rdA]
                by_cases q2 : j = e.toNatClampNeg
                · rw [if_pos q2, nar_b1]; decide
                · rw [if_neg q2]
                  have f1 : (s 14) j = (σ 14) j := hs.1 14 j rfl rfl
                  rw [f1]; exact q1, fun n q1 => by
                have f1 : (s 21) n = (σ 21) n := hs.1 21 n rfl rfl
                show 0 ≤ ((s 21) n).toInt
                rw [f1]; exact q1⟩ hs.2 (ie_of (funext (fun j => hs.1 25 j rfl rfl)) (hs.1 _ _ rfl rfl) (hs.1 _ _ rfl rfl)) h5 (fun _ h => h) (Nat.le_refl _)
          have w1 : ((upC s 14 e.toNatClampNeg (vp_nar .boolean (1 : Int32))) 0 17) = (σ 0 17) := hs.1 _ _ rfl rfl
          have i1 : ((upC s 14 e.toNatClampNeg (vp_nar .boolean (1 : Int32))) 0 39) = (σ 0 39) := hs.1 _ _ rfl rfl
          have t1 : TE σ (upC s 14 e.toNatClampNeg (vp_nar .boolean (1 : Int32))) N 0 0 := te_same n5 w1 r1.2.2.1 (ev_ke r1.1 r1.2.2.2.1)
        · -- an array of the unit
          have v2 : VNw τ q (upC (upC t2 q 2 (e - ((σ 22) (σ 0 35).toNatClampNeg))) q 4 tk) := by
            refine ⟨fun w hw => by rw [up2_ne hw]; exact ht2.1 w hw, ?_⟩
            have := (vnw_nv ht2).2
            unfold FOK at *
            simp only [rdA, Nat.reduceEqDiff, if_true, if_false]
            exact ⟨this.1, by omega, by omega, this.2.2.2.1, this.2.2.2.2⟩
          have hn1 : ((e - ((σ 22) (σ 0 35).toNatClampNeg)) + (1 : Int32)).toInt ≤ 100 := by rw [ad1 (by omega)]; omega
          refine sp_put_1 (by rw [w1]; exact n5) (by rw [w1]; omega) (fun s2 hp => ⟨by simp, sp_Vaddress (by simp) ?_⟩)
          have v3 := vnw_addr (v := 0) v2 hn1
          have r2 := rl_pu (vs := vs) (t := _) (z := vs ++ [q]) r1.2.1 hp (vok_vnw h5 v3) (fun u hu => by simp [hu]) (by simp)
          refine k _ _ _ _ ⟨rl_tr r1 r2, vfr_vnw hq v3, ⟨by simp, hq⟩, fun c => ?_, ?_, ?_, by simp, ?_⟩
          · rw [how_addr] at c
            simp only [rdA, Nat.reduceEqDiff, if_true, if_false] at c
            rw [(nv_at ht2).2.1] at c
            exact absurd c (by decide)
          · have := hp.2.1
            rw [w1] at this
            simp only [List.length_cons, List.length_nil] at this
            omega
          · have : (s2 0 39) = _ := hp.1 0 39 rfl rfl
            rw [this, i1]; omega
          · have e9 : ev (upC (upC t2 q 2 (e - ((σ 22) (σ 0 35).toNatClampNeg))) q 4 tk) q = ev t2 q := by
              refine ev_eq ?_ ?_ <;> simp only [rdA, Nat.reduceEqDiff, if_true, if_false]
            rw [ev_addr, e9, ev_nv ht2 (by omega)]
            refine te_tr t1 (te_put (n := 2) (by rw [w1]; exact n5) hp rfl (by decide) rfl (k := 1) rfl (fun g' H L x hH hn hx => ⟨?_, hn⟩) hN) (by unfold wcn; rw [w1]; exact Nat.le_refl _) r2.2.2.2.2.1 (hp.1 _ _ rfl rfl)
            rw [hx _ rfl]
            omega
        · have v2 : VNw τ q (upC (upC (upC t2 q 2 (e - ((σ 22) (σ 0 35).toNatClampNeg))) q 4 tk) q 1 (2 : Int32)) := by
            refine ⟨fun w hw => by rw [up3_ne hw]; exact ht2.1 w hw, ?_⟩
            have := (vnw_nv ht2).2
            unfold FOK at *
            simp only [rdA, Nat.reduceEqDiff, if_true, if_false]
            refine ⟨by decide, by omega, by omega, this.2.2.2.1, fun _ => ?_, this.2.2.2.2.2⟩
            rw [(nv_at ht2).1]
            omega
          have r2 : RL σ vs (upC s 14 e.toNatClampNeg (vp_nar .boolean (1 : Int32))) _ (vs ++ [q]) := rl_tr r1 ⟨kp_rf, ⟨r1.2.1.1, r1.2.1.2.1, r1.2.1.2.2.1, r1.2.1.2.2.2.1, vok_vnw h5 v2⟩, fun _ _ => rfl, mon_rf, of_rf, Int.le_refl _, Int.le_refl _, Int.le_refl _, fun u hu => by simp [hu], by simp, ie_rf⟩
          have ew : (upC (upC (upC t2 q 2 (e - ((σ 22) (σ 0 35).toNatClampNeg))) q 4 tk) q 1 (2 : Int32)) q 1 = 2 := by rw [rdA, if_pos rfl]
          refine k _ _ _ _ ⟨r2, vfr_vnw hq v2, ⟨by simp, hq⟩, fun c => ?_, by rw [w1]; omega, by rw [i1]; omega, by simp, ?_⟩
          · rw [ew] at c
            exact absurd c (by decide)
          · have e9 : ev (upC (upC (upC t2 q 2 (e - ((σ 22) (σ 0 35).toNatClampNeg))) q 4 tk) q 1 (2 : Int32)) q = 0 := by
              unfold ev
              rw [if_pos]
              right
              rw [ew]; rfl
            rw [e9]
            exact t1
      · have es : (s 9) e.toNatClampNeg = (σ 9) e.toNatClampNeg := hs.1 9 _ rfl rfl
        rw [es] at c2
        exact c2 (hy (hf f1 f2))
  · -- a local that is no array
    rcases hy1 with ⟨rfl, -⟩ | ⟨-, c3⟩
    · have v2 : VNw τ q (upC (upC t2 q 1 (1 : Int32)) q 2 l) := by
        refine ⟨fun w hw => by rw [up2_ne hw]; exact ht2.1 w hw, ?_⟩
        have := (vnw_nv ht2).2
        unfold FOK at *
        simp only [rdA, Nat.reduceEqDiff, if_true, if_false]
        refine ⟨by decide, by omega, this.2.2.1, this.2.2.2.1, fun _ => ?_, this.2.2.2.2.2⟩
        rw [(nv_at ht2).1]
        omega
      refine k _ _ _ _ ⟨rl_tr (rl_rf h) ⟨kp_rf, ⟨hT, hA, ⟨n1, n2, n3, n4, n5, n6, n7⟩, ⟨a1, a2, a3, a4, a5, a6, a7, a8, a9, b1, b2, b3⟩, vok_vnw h5 v2⟩, fun _ _ => rfl, mon_rf, of_rf, Int.le_refl _, Int.le_refl _, Int.le_refl _, fun u hu => by simp [hu], by simp, ie_rf⟩, vfr_vnw hq v2, ⟨by simp, hq⟩, fun _ => ?_, by omega, by omega, by simp, ?_⟩
      · simp only [rdA, Nat.reduceEqDiff, if_true, if_false]
        exact l2
      · have e9 : ev (upC (upC t2 q 1 (1 : Int32)) q 2 l) q = 0 := by
          unfold ev
          rw [if_pos]
          left
          simp only [rdA, Nat.reduceEqDiff, if_true, if_false]
          rfl
        rw [e9]
        exact te_rf
    · exact absurd c2 (by omega)
  · -- a local array
    rcases hy1 with ⟨-, c3⟩ | ⟨rfl, -⟩
    · exact absurd c2 (by omega)
    · have v2 : VNw τ q (upC (upC t2 q 1 (0 : Int32)) q 2 l) := by
        refine ⟨fun w hw => by rw [up2_ne hw]; exact ht2.1 w hw, ?_⟩
        have := (vnw_nv ht2).2
        unfold FOK at *
        simp only [rdA, Nat.reduceEqDiff, if_true, if_false]
        exact ⟨by decide, by omega, this.2.2.1, this.2.2.2.1, fun c => absurd rfl c, this.2.2.2.2.2⟩
      refine sp_put_1 n5 (by omega) (fun s2 hp => ?_)
      have r2 := rl_pu (vs := vs) (t := _) (z := vs ++ [q]) h hp (vok_vnw h5 v2) (fun u hu => by simp [hu]) (by simp)
      refine k _ _ _ _ ⟨r2, vfr_vnw hq v2, ⟨by simp, hq⟩, fun c => ?_, ?_, ?_, by simp, ?_⟩
      · simp only [rdA, Nat.reduceEqDiff, if_true, if_false] at c
        exact absurd c (by decide)
      · have := hp.2.1
        simp only [List.length_cons, List.length_nil] at this
        omega
      · have : (s2 0 39) = _ := hp.1 0 39 rfl rfl
        rw [this]; omega
      · have e9 : ev (upC (upC t2 q 1 (0 : Int32)) q 2 l) q = 1 := by
          refine ev_1 (Or.inl ?_) ?_
          · simp only [rdA, Nat.reduceEqDiff, if_true, if_false]
            rfl
          · simp only [rdA, Nat.reduceEqDiff, if_true, if_false]
            rw [(nv_at ht2).1]
            omega
        rw [e9]
        refine te_put (n := 2) n5 hp rfl (by decide) rfl (k := 4) rfl (fun g' H L x hH hn hx => ⟨?_, hn⟩) hN
        rw [hx _ rfl]
        have e4 : (s2 0 49) = (σ 0 49) := hp.1 _ _ rfl rfl
        rw [e4]
        omega
  · have e8 := a6 l.toNatClampNeg
    have e7 := ad1 (x := (σ 31) l.toNatClampNeg) (by omega)
    show 0 ≤ ((σ 31) l.toNatClampNeg + (1 : Int32)).toInt
    omega
end LEAF
