/-! both sides: calls -/
/-- of the entity e: so many arguments, none higher than Hm, all of them right -/
def CLq (kd : Nat → Int) (n S m lo c : Nat) (l : List Stq) (σ σ' : St) (r : Nat) (N Hm : Int) (ok : Prop) : Prop :=
  (σ 0 12).toInt = 0 → ∀ w, REq kd n S m lo w σ → (w 6 3).toInt = 0 → (w 7 7).toInt = (c : Int) → XW l w (fun s => ((s 6 3).toInt ≠ 0 → BDr σ σ' 0) ∧ ((s 6 3).toInt = 0 → (σ' 0 12).toInt = 0 ∧ Hm ≤ 60 ∧ REq kd n S m lo s σ' ∧ STe c w s ∧ (s 7 7).toInt = (c : Int) + 1 ∧ (∃ z x, AVq s (65 + c) 4 (σ' 10 (lo + r)).toInt Hm z 0 x (((s 5 1).toInt.toNat - m + r : Nat) : Int)) ∧ (s (65 + c) 11).toInt = N ∧ ((s (65 + c) 12).toInt ≠ 0 ↔ ¬ ok))) (BDr σ σ' 0)
section RCL
variable {w σ σ1 σ2 σ3 σ' s t : St} {kd : Nat → Int} {n S m lo c p q r : Nat} {l l1 l2 : List Stq} {Q : St → Prop} {B ok : Prop} {K T H Z F N Hm : Int} {X : Int32}
/-- what is called, found -/
theorem cl_callee (hp : p ≤ n) (hk : kd p = 2) (hc : c < 490) (hr : KEr σ σ') (hl : LFm σ S p (-1)) (he : EFm σ lo (lo + m) p ((lo + r : Nat) : Int)) (h9 : (σ 9 (lo + r)).toInt = 2) (hrm : r < m) (e12 : σ' 0 12 = σ 0 12) (e37 : σ' 0 37 = σ 0 37)
    (e14 : ∀ k, σ' 14 k = if k = lo + r then 1 else σ 14 k) (e21 : ∀ k, (σ' 21 k).toInt < 0 ↔ k ≠ r ∧ (σ 21 k).toInt < 0) : CLq kd n S m lo c [stp 4 p] σ σ' r 0 0 True := by
  intro h0 w hR hf hc7
  have hR' := hR
  obtain ⟨hT, hL, hO, hD, y1, y2⟩ := hR'
  obtain ⟨oi1, oi2⟩ := ou_alike hT hO hp hk
  have lal : ∀ {v : Int}, LFq w S 0 p v ↔ LFm σ S p v := lo_alike hT hL hp hk
  refine xw_one (fun _ => xk_callee (fun a ha => xt_callee (S := S) (n := m) hc7 (by omega) hf ha (tn_class hT (by have := hT.1.1; omega) hp hk) (lo_class hT hL) (ou_class hT hO) ?_ ?_)) (fun hx => absurd hf hx)
  · intro s r' hl' ho dn hdn hdn9 hfl ks e6 e7 e39 e25 hA h11
    obtain ⟨hrm', he'⟩ := (oi2 r').1 ho
    obtain rfl : r' = r := by have := ef_one he he'; omega
    have ed : dn = (w 5 1).toInt.toNat - m + r' := by have := hO.2.2.1; omega
    refine ⟨fun hx => absurd (by rw [e6]; exact hf) hx, fun _ => ⟨by rw [e12]; exact h0, by decide, re_up hR (ste_y ks) hr (fun i hi => ?_) (by rw [y65 ks, e37]; exact hD), ste_y ks, e7, ⟨0, 0, ?_⟩, by rw [h11.1], by rw [h11.2]; exact ⟨fun hx => absurd rfl hx, fun hx => absurd trivial hx⟩⟩⟩
    · obtain ⟨_, _, _, _, _, _, _, p8, _, _, p9⟩ := hO.2.2.2.2.2 i hi
      rw [e39, e21]
      by_cases q : i = r'
      · subst q
        rw [← ed] at p8 ⊢
        unfold FLq
        rw [e25, if_pos rfl, or_81, or_82, or_84, or_88, e14, if_pos rfl]
        refine ⟨⟨Iff.rfl, Iff.rfl, Iff.rfl⟩, ⟨fun _ => by decide, fun _ => by decide⟩, ⟨fun hx => ?_, fun hx => absurd rfl hx.1⟩⟩
        by_cases q2 : (w 39 i).toInt < 0
        · rw [if_pos ⟨rfl, q2⟩] at hx
          omega
        · rw [if_neg (fun hy => q2 hy.2)] at hx
          exact absurd hx q2
      · have hm := hO.2.2.1
        unfold FLq
        rw [e25, if_neg (by omega), e14, if_neg (by omega), if_neg (fun hy => q hy.1)]
        exact ⟨⟨Iff.rfl, Iff.rfl, Iff.rfl⟩, p8, ⟨fun hx => ⟨q, p9.1.1 hx⟩, fun hx => p9.1.2 hx.2⟩⟩
    · obtain ⟨q1, q2, q3, q4, q5, q5b, q6, _⟩ := hO.2.2.2.2.2 r' hrm
      have e51 : s 5 1 = w 5 1 := ks.1 5 1 (op_lt (by omega)) rfl rfl
      have e10 : σ' 10 (lo + r') = σ 10 (lo + r') := hr 10 _ rfl rfl
      rw [e51, ← ed, e10, ← q6, ← ed]
      exact hA
  · intro s hb hfs
    exfalso
    rcases hb (lal.2 hl) with hb | ⟨r', hb, hfl⟩
    · have := ef_one (oi1.1 hb) he; omega
    · obtain ⟨hrm', he'⟩ := (oi2 r').1 hb
      obtain rfl : r' = r := by have := ef_one he he'; omega
      obtain ⟨q1, q2, q3, q4, q5, _⟩ := hO.2.2.2.2.2 r' hrm
      have := hO.2.2.1
      exact q5.2 (by omega) (hfl _ (by omega))
/-- what is called, not found -/
theorem ex_nocall (hp : p ≤ n) (hk : kd p = 2) (hc : c < 490) (hn : LFm σ S p (-1) → EFm σ lo (lo + m) p (-1) ∨ ∃ e : Nat, EFm σ lo (lo + m) p e ∧ (σ 9 e).toInt ≠ 2) (hf : FTq σ σ1 True) (e15 : σ1 0 15 = σ 0 15) (h1 : (σ1 0 12).toInt ≠ 0 → (σ' 0 12).toInt ≠ 0) : EXq kd n S m lo c ([stp 4 p] ++ l) σ σ' K T H Z 0 X := by
  intro h0 w hR hfw hc7
  have hR' := hR
  obtain ⟨hT, hL, hO, hD, y1, y2⟩ := hR'
  obtain ⟨oi1, oi2⟩ := ou_alike hT hO hp hk
  have lal : ∀ {v : Int}, LFq w S 0 p v ↔ LFm σ S p v := lo_alike hT hL hp hk
  have hbd : BDr σ σ' 0 := bd_mono (bd_of h0 hf trivial (by decide) : BDr σ σ1 0) e15 h1 (fun _ => by decide)
  refine xw_app (xw_one (fun _ => xk_callee (fun a ha => xt_callee (S := S) (n := m) hc7 (by omega) hfw ha (tn_class hT (by have := hT.1.1; omega) hp hk) (lo_class hT hL) (ou_class hT hO) ?_ ?_)) (fun hx => absurd hfw hx))
  · intro s r' hl' ho dn hdn hdn9 hfl _ _ _ _ _ _ _
    exfalso
    obtain ⟨hrm', he'⟩ := (oi2 r').1 ho
    have ed : dn = (w 5 1).toInt.toNat - m + r' := by have := hO.2.2.1; omega
    obtain ⟨q1, q2, q3, q4, q5, q5b, _⟩ := hO.2.2.2.2.2 r' hrm'
    rcases hn (lal.1 hl') with hx | ⟨e, hx, hy⟩
    · have := ef_one hx he'; omega
    · obtain rfl : e = lo + r' := by have := ef_one hx he'; omega
      rw [← ed] at q5
      have := q5.1 hfl
      omega
  · intro s hb hfs
    exact xw_bad hfs hbd (fun s' h' => ⟨fun _ => hbd, fun hy => absurd hy h'⟩)
end RCL
