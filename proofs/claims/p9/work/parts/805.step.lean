/-! the machine: a step, and a run -/
section STP
variable {κ σ s t : St} {Fs : Nat → Nat → Prop} {N : Nat} {a b : Int32}
theorem sp_decide {Q : St → Prop} (h : 1 ≤ (σ 12 9).toInt ∧ (σ 12 9).toInt ≤ 150000) (k0 : ∀ s, PE σ s (-1) → Q s) (k1 : ∀ s, PE (upC σ 12 8 b) s 0 → Q s) : wk_X5_decide a b σ Q := by
  unfold wk_X5_decide
  refine sk_pop ⟨by omega, by omega⟩ (fun v s hs => ?_)
  refine ⟨fun _ => True, fun y _ _ => ⟨fun _ => k0 s hs, fun _ => ⟨fun _ => True, fun y1 _ _ => ?_, fun _ => trivial, fun _ => trivial⟩⟩, fun _ => trivial, fun _ => trivial⟩
  refine sk_push (tb_pe hs (by omega) (by omega)) (fun s2 hs2 => k1 _ ?_)
  obtain ⟨p1, p2⟩ := pe_tr hs hs2
  refine ⟨fun c j h1 h2 => ?_, ?_⟩
  · by_cases e : c = 12 ∧ j = 8
    · obtain ⟨rfl, rfl⟩ := e
      rw [rdA_eq rfl, rdA_eq rfl]
    · rw [rdC, rdC]
      by_cases e1 : c = 12
      · subst e1
        rw [if_pos rfl, if_pos rfl, if_neg (fun e2 => e ⟨rfl, e2⟩), if_neg (fun e2 => e ⟨rfl, e2⟩)]
        exact p1 12 j h1 h2
      · rw [if_neg e1, if_neg e1]
        exact p1 c j h1 h2
  · show (s2 12 9).toInt = (σ 12 9).toInt + 0
    rw [p2]
    omega
theorem sk_mcall {c hd n L : Nat} {g : Gh} {pc h k m : Nat} {Q : St → Prop} {v : Int32} (hL : LKf κ Fs N) (C : CTx κ σ Fs N c hd n L g pc h k) {x : Int} (hC : CPI κ Fs x m) (ha : a.toInt = ((κ 59) x.toNat).toInt) (hm : m ≤ h) (j : Jn g k pc (pc + 3) (h - m + 1)) (hv : v.toInt = pc + 3)
    (kk : ∀ s, GOx κ s Fs N (PHI σ N c g pc k) → Q s) : wk_X5_call a b (upC σ 12 8 v) Q := by
  have C' := C
  obtain ⟨c1, c2, c3, c4, c5, c6, c7, c8, c9, d1, d2⟩ := C'
  have bn := frm_bnd _ _ _ c5
  have bh := (c7.2.2.2.2.2.2.2 pc h k c9).2.1
  have bL := c7.2.2.2.1
  have e1 : ((-1 : Int32)).toInt = -1 := by decide
  unfold wk_X5_call
  refine ⟨fun neg => ?_, fun pos => ?_⟩
  · have lib : ∀ y : Int32, y.toInt = -1 - a.toInt → (y.toInt = 0 ∧ m = 0) ∨ (y.toInt ≠ 0 ∧ m = 1) := fun y hy => by
      rcases hC.2 with q | q | ⟨hd2, q, -⟩
      · left; omega
      · right; omega
      · omega
    have hy : (((-1) : Int32) - a).toInt = -1 - a.toInt := by
      have := s_rng a
      rw [sb (by rw [e1]; omega) (by rw [e1]; omega), e1]
    refine sp_useLibrary ⟨by show 1 ≤ (σ 12 9).toInt; omega, by show (σ 12 9).toInt ≤ 150000; omega⟩ (fun s hs => kk s ?_)
    rcases hs with hs | hs
    · rcases lib _ hy with ⟨q1, q2⟩ | ⟨q1, q2⟩
      · rw [if_pos q1] at hs
        exact ct_go C hs j (by omega) (by rw [hv]; rfl)
      · rw [if_neg q1] at hs
        exact ct_go C hs j (by omega) (by rw [hv]; rfl)
    · exact cx_end c1 hs
  · rcases hC.2 with q | q | ⟨hd2, q, q2⟩
    · omega
    · omega
    · obtain ⟨aL, ag, F⟩ := hL.2 _ _ q2
      exact cx_enter hL C (by rw [ha]; exact q) F hm j hv kk
theorem sp_lead {c hd n L nn : Nat} {g : Gh} {pc h k : Nat} {Q : St → Prop} {v : Int32} (hL : LKf κ Fs N) (C : CTx κ σ Fs N c hd n L g pc h k) (hn : a.toInt = nn) (hb : b.toInt = pc) (O : OPk nn ((κ 24) (pc + 1)).toInt g (CPI κ Fs) False pc h k) (h1 : 26 ≤ nn) (h2 : nn ≤ 33) (hv : v.toInt = ((pc + ln nn : Nat) : Int))
    (kk : ∀ s, GOx κ s Fs N (PHI σ N c g pc k) → Q s) : wk_X5_lead a b (upC σ 12 8 v) Q := by
  have C' := C
  obtain ⟨c1, c2, c3, c4, c5, c6, c7, c8, c9, d1, d2⟩ := C'
  have bn := frm_bnd _ _ _ c5
  have bh := (c7.2.2.2.2.2.2.2 pc h k c9)
  have bL := c7.2.2.2.1
  have e1 : ((κ 24) = (σ 24)) := funext (fun i => (c1 24 i rfl rfl).symm)
  have e2 : ((κ 59) = (σ 59)) := funext (fun i => (c1 59 i rfl rfl).symm)
  have hN := hL.1
  have fst : atv 262208 ((upC σ 12 8 v) 24) (b + (1 : Int32)) = (κ 24) (pc + 1) := by
    rw [e1]
    exact atv_at (f := σ 24) (by rw [ad0 i1 (by omega) (by omega)]; omega) (by omega)
  have km : KMm κ (upC σ 12 8 v) := kp_tr c1 (kp_f kp_rf rfl)
  have upp : ∀ u : Int32, upC (upC σ 12 8 v) 12 8 u = upC σ 12 8 u := fun u => by
    unfold upC upF
    funext q
    by_cases e : q = 12
    · subst e
      simp only [if_true]
      funext j
      by_cases e3 : j = 8
      · rw [if_pos e3, if_pos e3]
      · rw [if_neg e3, if_neg e3, if_neg e3]
    · simp only [if_neg e]
  obtain ⟨o1, o2, o3, o4, o5, o6, o7, o8⟩ := O
  have gm : ∀ m : Nat, a.toInt = (m : Int) → nn = m := fun m e => by omega
  have tT : 1 ≤ ((upC σ 12 8 v) 12 9).toInt → ((upC σ 12 8 v) 12 9).toInt ≤ 200000 := fun _ => by show (σ 12 9).toInt ≤ 200000; omega
  have eT : ((upC σ 12 8 v) 12 9).toInt = (σ 12 9).toInt := rfl
  have go0 : ∀ (t : Nat) (u : Int32) s d h', PE (upC σ 12 8 u) s d → Jn g k pc t h' → (h' : Int) = h + d → u.toInt = t → Q s := fun t u s d h' p j e e3 => kk s (ct_go C p j e e3)
  have dec : nn = 29 ∨ nn = 30 → ∀ y, wk_X5_decide y (atv 262208 ((upC σ 12 8 v) 24) (b + (1 : Int32))) (upC σ 12 8 v) (fun s121 => Q s121) := fun c0 y => by
    obtain ⟨a1, a2, a3⟩ := o5 c0
    rcases a3 with a3 | ⟨a3, a4⟩
    · exact a3.elim
    · rw [fst]
      have l2 : ln nn = 2 := by rcases c0 with e | e <;> subst e <;> rfl
      refine sp_decide ⟨by rw [eT]; omega, by rw [eT]; omega⟩ (fun s hs => go0 _ v s _ _ hs a2 (by omega) (by rw [hv, l2])) (fun s hs => ?_)
      rw [upp] at hs
      exact go0 _ _ s _ _ hs a4 (by omega) (by omega)
  unfold wk_X5_lead
  refine ⟨nn = 29 ∨ nn = 30, fun c0 => ⟨fun _ => True, fun y _ _ => dec c0 y, fun _ => trivial, fun _ => trivial⟩, fun c0 => ?_, fun n26 => ⟨fun c0 => ?_, fun n27 => ⟨fun c0 => ?_, fun n28 => ⟨fun c0 => Or.inl (gm 29 c0), fun n29 => ⟨fun c0 => Or.inr (gm 30 c0), fun n30 => ⟨fun c0 => ?_, fun n31 => ⟨fun c0 => ?_, fun n32 => ?_⟩⟩⟩⟩⟩⟩⟩
  · rw [fst, upp]
    rcases o3 (gm 26 c0) with a3 | ⟨a3, a4⟩
    · exact a3.elim
    · exact go0 _ _ _ _ _ pe_rf a4 (by omega) (by omega)
  · obtain ⟨a1, a2, a3⟩ := o4 (Or.inl (gm 27 c0))
    rcases a3 with a3 | ⟨a3, a4⟩
    · exact a3.elim
    · refine sk_pop ⟨by rw [eT]; omega, by rw [eT]; omega⟩ (fun x s hs => ⟨fun _ => ?_, fun _ => ?_⟩)
      · have e8 : (s 12 8) = v := (hs.1 12 8 rfl rfl).trans (rdA_eq rfl)
        have e9 : upC s 12 8 (s 12 8) = s := by
          funext q j
          rw [rdC]
          by_cases z : q = 12
          · subst z
            rw [if_pos rfl]
            by_cases z2 : j = 8
            · subst z2; rw [if_pos rfl]
            · rw [if_neg z2]
          · rw [if_neg z]
        rw [e9]
        have l2 : ln nn = 2 := by rw [gm 27 c0]; rfl
        exact go0 _ v s _ _ hs a2 (by omega) (by rw [hv, l2])
      · rw [fst]
        have hs2 : PE (upC σ 12 8 ((κ 24) (pc + 1))) (upC s 12 8 ((κ 24) (pc + 1))) (-1) := by
          obtain ⟨p1, p2⟩ := hs
          refine ⟨fun q j h1 h2 => ?_, ?_⟩
          · have z := p1 q j h1 h2
            rw [rdC] at z
            rw [rdC, rdC]
            by_cases z1 : q = 12
            · subst z1
              rw [if_pos rfl] at z
              rw [if_pos rfl, if_pos rfl]
              by_cases z2 : j = 8
              · rw [if_pos z2, if_pos z2]
              · rw [if_neg z2] at z
                rw [if_neg z2, if_neg z2]
                exact z
            · rw [if_neg z1] at z
              rw [if_neg z1, if_neg z1]
              exact z
          · exact p2
        exact go0 _ _ _ _ _ hs2 a4 (by omega) (by omega)
  · obtain ⟨a1, a2, a3⟩ := o4 (Or.inr (gm 28 c0))
    rcases a3 with a3 | ⟨a3, a4⟩
    · exact a3.elim
    · refine sk_pop ⟨by rw [eT]; omega, by rw [eT]; omega⟩ (fun x s hs => ⟨fun _ => ?_, fun _ => ?_⟩)
      · have e9 : upC s 12 8 (s 12 8) = s := by
          funext q j
          rw [rdC]
          by_cases z : q = 12
          · subst z
            rw [if_pos rfl]
            by_cases z2 : j = 8
            · subst z2; rw [if_pos rfl]
            · rw [if_neg z2]
          · rw [if_neg z]
        rw [e9]
        have l2 : ln nn = 2 := by rw [gm 28 c0]; rfl
        exact go0 _ v s _ _ hs a2 (by omega) (by rw [hv, l2])
      · rw [fst]
        have hs2 : PE (upC σ 12 8 ((κ 24) (pc + 1))) (upC s 12 8 ((κ 24) (pc + 1))) (-1) := by
          obtain ⟨p1, p2⟩ := hs
          refine ⟨fun q j h1 h2 => ?_, ?_⟩
          · have z := p1 q j h1 h2
            rw [rdC] at z
            rw [rdC, rdC]
            by_cases z1 : q = 12
            · subst z1
              rw [if_pos rfl] at z
              rw [if_pos rfl, if_pos rfl]
              by_cases z2 : j = 8
              · rw [if_pos z2, if_pos z2]
              · rw [if_neg z2] at z
                rw [if_neg z2, if_neg z2]
                exact z
            · rw [if_neg z1] at z
              rw [if_neg z1, if_neg z1]
              exact z
          · exact p2
        exact go0 _ _ _ _ _ hs2 a4 (by omega) (by omega)
  · obtain ⟨k', a1⟩ := o6 (gm 31 c0)
    have l2 : ln nn = 2 := by rw [gm 31 c0]; rfl
    refine sp_mturn (fun lt => kk _ (Or.inr ?_)) (fun s hs => kk s (cx_end c1 hs))
    have lt' : (σ 12 14).toInt < (σ 12 12).toInt := lt
    have e14 : ((σ 12 14) + (1 : Int32)).toInt = (σ 12 14).toInt + 1 := ad1 (by omega)
    refine ⟨c, hd, n, L, g, pc + 2, h, k', ⟨kp_tr km (kp_f kp_rf rfl), c2, c3, c4, by show FRM κ _ Fs N c (σ 12 10).toInt (σ 12 11).toInt; exact frm_k (σ := σ) c _ _ (fun j _ => rfl) c5, c6, c7, by show v.toInt = _; rw [hv, l2], a1, d1, ?_⟩, ?_⟩
    · show 0 ≤ ((σ 12 14) + (1 : Int32)).toInt ∧ ((σ 12 14) + (1 : Int32)).toInt ≤ (σ 12 12).toInt ∧ (σ 12 12).toInt ≤ 20000
      rw [e14]
      omega
    · have hrk : rk g N k' (pc + 2) ≤ N := cnt_le _ _
      show (2 * ((σ 12 12).toInt - ((σ 12 14) + (1 : Int32)).toInt) + c) * ((N : Int) + 1) + rk g N k' (pc + 2) < (2 * ((σ 12 12).toInt - (σ 12 14).toInt) + c) * ((N : Int) + 1) + rk g N k pc
      rw [e14]
      have z : (2 * ((σ 12 12).toInt - ((σ 12 14).toInt + 1)) + (c : Int)) * ((N : Int) + 1) = (2 * ((σ 12 12).toInt - (σ 12 14).toInt) + (c : Int)) * ((N : Int) + 1) - 2 * ((N : Int) + 1) := by
        have : (2 * ((σ 12 12).toInt - ((σ 12 14).toInt + 1)) + (c : Int)) = (2 * ((σ 12 12).toInt - (σ 12 14).toInt) + (c : Int)) - 2 := by omega
        rw [this, Int.sub_mul]
      rw [z]
      omega
  · obtain ⟨m, a1, a2, a3⟩ := o7 (gm 32 c0)
    have l3 : ln nn = 3 := by rw [gm 32 c0]; rfl
    refine sk_mcall (x := ((κ 24) (pc + 1)).toInt) hL C a1 ?_ a2 a3 (by rw [hv, l3]; rfl) (fun s hs => kk s hs)
    rw [fst]
    have := a1.1
    have en := nt (x := (κ 24) (pc + 1)) this.1
    rw [e2]
    exact congrArg Int32.toInt (atv_at (f := σ 59) (by omega) (by omega))
  · exact sp_giveBack C (o8 (by omega)) (fun s hs => kk s hs)
theorem sk_step {c hd n L : Nat} {g : Gh} {pc h k : Nat} {Q : St → Prop} (hL : LKf κ Fs N) (C : CTx κ σ Fs N c hd n L g pc h k)
    (kk : ∀ s, GOx κ s Fs N (PHI σ N c g pc k) → Q s) : wk_X5_step σ Q := by
  have C' := C
  obtain ⟨c1, c2, c3, c4, c5, c6, c7, c8, c9, d1, d2⟩ := C'
  have bn := frm_bnd _ _ _ c5
  obtain ⟨b1, b2, nn, e0, O⟩ := c7.2.2.2.2.2.2.2 pc h k c9
  have bL := c7.2.2.2.1
  have hN := hL.1
  have e1 : ((κ 24) = (σ 24)) := funext (fun i => (c1 24 i rfl rfl).symm)
  have ew : atv 262208 (σ 24) (σ 12 8) = (κ 24) pc := by
    rw [e1]
    exact atv_at c8 (by omega)
  obtain ⟨⟨n1, n2, n3⟩, O2⟩ := O
  have hl : (atv 61 (gC 1) ((κ 24) pc)).toInt = (ln nn : Nat) := ln_at e0 (by omega)
  have lp := ln_pos nn (by omega) n1 n3
  have hv : ((σ 12 8) + atv 61 (gC 1) ((κ 24) pc)).toInt = ((pc + ln nn : Nat) : Int) := by
    rw [ad (by omega) (by omega), hl]
    omega
  have O : OPk nn ((κ 24) (pc + 1)).toInt g (CPI κ Fs) False pc h k := ⟨⟨n1, n2, n3⟩, O2⟩
  have pl : PLn nn → ∀ s, PE (upC σ 12 8 ((σ 12 8) + atv 61 (gC 1) ((κ 24) pc))) s (de nn) ∨ FE (upC σ 12 8 ((σ 12 8) + atv 61 (gC 1) ((κ 24) pc))) s → Q s := fun p s hs => by
    obtain ⟨q1, h', q2, q3⟩ := O.2.1 p
    rcases hs with hs | hs
    · exact kk s (ct_go C hs q3 q2 hv)
    · exact kk s (cx_end c1 hs)
  have po2 : po nn ≤ 2 := (de_po nn (by omega)).2.2.1
  unfold wk_X5_step
  rw [ew]
  refine ⟨False, fun f => f.elim, fun q => by omega, fun _ => ⟨fun q => by omega, fun _ => ⟨fun _ => ⟨fun l41 => ⟨fun l26 => ⟨fun l22 => ⟨fun l18 => ⟨fun l11 => ?_, fun g11 => ?_⟩, fun g18 => ?_⟩, fun g22 => ?_⟩, fun g26 => ?_⟩, fun g41 => ?_⟩, fun q => by omega⟩⟩⟩
  · exact sk_plain ⟨by show 1 ≤ (σ 12 9).toInt; omega, by show (σ 12 9).toInt ≤ 150000; omega⟩ e0 n1 (by omega) (fun s hs => pl (Or.inl (by omega)) s (Or.inl hs))
  · exact sp_inFrame ⟨by show 1 ≤ (σ 12 9).toInt; omega, by show (σ 12 9).toInt ≤ 150000; omega⟩ e0 (by omega) (by omega) (fun s hs => pl (Or.inl (by omega)) s (Or.inl hs))
  · exact sp_reach ⟨by show 2 ≤ (σ 12 9).toInt; omega, by show (σ 12 9).toInt ≤ 150000; omega⟩ e0 (by omega) (by omega) (fun s hs => pl (Or.inl (by omega)) s hs)
  · refine sk_pop ⟨by show 0 ≤ (σ 12 9).toInt; omega, by show (σ 12 9).toInt ≤ 200000; omega⟩ (fun v s hs => sp_inverted (fun v2 => sk_push (tb_pe hs (by show 0 ≤ (σ 12 9).toInt + -1; omega) (by show (σ 12 9).toInt + -1 ≤ 200000; omega)) (fun s2 hs2 => pl (Or.inl (by omega)) s2 (Or.inl ?_))))
    have d0 : ∀ m, m < 26 → 22 ≤ m → de m = 0 := by decide
    have := pe_tr hs hs2
    rw [d0 nn (by omega) (by omega)]
    exact this
  · exact sp_lead hL C e0 c8 O (by omega) (by omega) hv (fun s hs => kk s hs)
  · have dm : de nn = -1 := by unfold de; rw [if_pos (by omega)]
    exact sp_calculate ⟨by show 2 ≤ (σ 12 9).toInt; omega, by show (σ 12 9).toInt ≤ 150000; omega⟩ (fun s hs => pl (Or.inr (by omega)) s (by rw [dm]; exact hs))
end STP
