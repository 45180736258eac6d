/-! the end of a function: its code whole, places settled, jumps threaded -/
/-- a function's code, whole: nothing reaches over its end -/
def TYf (w : Nat → Int32) (g : Gh) (CP : Int → Nat → Prop) (b E : Nat) : Prop := (∃ k, g b = some (0, k)) ∧ (∀ q, q < b → g q = none) ∧ ∀ q h k, g q = some (h, k) → q < E ∧ h ≤ 420 ∧ ∃ n : Nat, (w q).toInt = n ∧ OPk n (w (q + 1)).toInt g CP False q h k ∧ q + ln n ≤ E ∧ (q + ln n = E ∨ g (q + ln n) ≠ none) ∧ ∀ j, q < j → j < q + ln n → g j = none
section STL
variable {σ s z t ρ : St} {g g' g1 : Gh} {X X0 Y : Nat → Prop} {b e e0 e' h h' H H0 H' L L' m n N N' Nb c d p tt j i F F' k B q E hd : Nat} {K K2 M G D : List Nat} {A : List It} {x y v a op a1 a2 a3 : Int32} {w w' : Nat → Int32} {CP CP' : Int → Nat → Prop}
theorem tyf_fun (T : TYf w g CP b E) (hb : b = hd + 4) (hE : b < E) (h0 : 0 ≤ (w hd).toInt ∧ (w hd).toInt ≤ 1000000) (h1 : (w (hd + 1)).toInt = L) (hL : L ≤ 100) (h2 : (w (hd + 2)).toInt = n) (hn : n ≤ 8) : FUNe w CP E hd n L g := by
  obtain ⟨t1, t2, t3⟩ := T
  refine ⟨⟨by omega, h0, h1, hL, h2, hn, by rw [← hb]; exact t1, fun q h k hq => ?_⟩, fun q h k hq => ?_⟩
  · obtain ⟨a1, a2, m, a3, a4, -⟩ := t3 q h k hq
    exact ⟨a1, a2, m, a3, a4⟩
  · obtain ⟨a1, a2, m, a3, a4, a5, -⟩ := t3 q h k hq
    exact ⟨m, a3, a5⟩
/-- one word is no jump -/
theorem ln_arg {n : Nat} (h0 : 1 ≤ n ∧ n ≤ 60) (h : ln n ≤ 1) : n < 26 ∨ 31 = n ∨ 32 < n := by
  by_cases c : n < 26 ∨ 31 = n ∨ 32 < n
  · exact c
  · have := ln_2 n (by omega) (by omega) (by omega) (by omega)
    omega
/-- words changed in one instruction, its kind as it was -/
theorem tyf_set (T : TYf w g CP b E) {h0 k0 n0 n1 : Nat} (hq : g q = some (h0, k0)) (hn0 : (w q).toInt = n0) (l2 : 2 ≤ ln n0) (hn1 : (w' q).toInt = n1) (hl : ln n1 = ln n0) (hO : OPk n1 (w' (q + 1)).toInt g CP False q h0 k0) (hw : ∀ i, i ≠ q → i ≠ q + 1 → w' i = w i) : TYf w' g CP b E := by
  obtain ⟨t1, t2, t3⟩ := T
  obtain ⟨q1, q2, nq, q3, q4, q5, q6, q7⟩ := t3 q h0 k0 hq
  have en : nq = n0 := by omega
  subst en
  have gn : g (q + 1) = none := q7 (q + 1) (by omega) (by omega)
  refine ⟨t1, t2, fun p h k hp => ?_⟩
  by_cases e : p = q
  · subst e
    rw [hq] at hp
    cases hp
    exact ⟨q1, q2, n1, hn1, hO, by omega, by rw [hl]; exact q6, by rw [hl]; exact q7⟩
  · obtain ⟨p1, p2, np, p3, p4, p5, p6, p7⟩ := t3 p h k hp
    have ne : p ≠ q + 1 := fun c => by rw [c, gn] at hp; cases hp
    refine ⟨p1, p2, np, by rw [hw p e ne]; exact p3, ?_, p5, p6, p7⟩
    by_cases e2 : p + 1 = q
    · have l1 : ln np ≤ 1 := by
        by_cases c : ln np ≤ 1
        · exact c
        · have := p7 (p + 1) (by omega) (by omega)
          rw [e2, hq] at this
          cases this
      exact opk_arg (ln_arg ⟨p4.1.1, p4.1.2.1⟩ l1) p4
    · rw [hw (p + 1) e2 (by omega)]
      exact p4
theorem opk_fr {n : Nat} {a a' : Int} {pd : Prop} {pc h k : Nat} (hn : n = 8 ∨ n = 9 ∨ n = 10) (H0 : OPk n a g CP pd pc h k) : OPk (n + 3) a' g CP pd pc h k := by
  obtain ⟨h1, h2, -⟩ := H0
  obtain ⟨p1, h', p2, p3⟩ := h2 (by unfold PLn; omega)
  have e1 : po (n + 3) = po n := by rcases hn with e | e | e <;> subst e <;> rfl
  have e2 : de (n + 3) = de n := by rcases hn with e | e | e <;> subst e <;> rfl
  have e3 : ln (n + 3) = ln n := by rcases hn with e | e | e <;> subst e <;> rfl
  exact opk_pl (by omega) (by omega) (by omega) (by rw [e1]; exact p1) (by rw [e2]; exact p2) (by rw [e3]; exact p3)
/-- what is left of the way through the code -/
theorem adv_len {n : Nat} (h : (w q).toInt = n) (hn : n < 61) (h1 : 1 ≤ ln n) (hqE : q + ln n ≤ 262190) (hx : x.toInt = q) (hqn : q < 262208) : (x + (if (atv 61 (gC 1) (atv 262208 w x)) < (1 : Int32) then (1 : Int32) else (atv 61 (gC 1) (atv 262208 w x)))).toInt = ((q + ln n : Nat) : Int) := by
  have e1 : atv 262208 w x = w q := atv_at hx hqn
  have e2 : (atv 61 (gC 1) (atv 262208 w x)).toInt = (ln n : Nat) := by rw [e1]; exact ln_at h hn
  rw [if_neg (by rw [Int32.lt_iff_toInt_lt, e2, i1]; omega), ad (by rw [e2]; omega) (by rw [e2]; omega), e2]
  omega
theorem cnt_dn {v : Int32} {E q l : Nat} (h : (E : Int) - q ≤ v.toInt) (hl : 1 ≤ l) (hv : 0 < v.toInt) : (E : Int) - ((q + l : Nat) : Int) ≤ (v + (-1 : Int32)).toInt := by
  rw [dc1 (by omega)]
  omega
/-- places are settled -/
theorem sp_settle {Q : St → Prop} (T : TYf (σ 24) g CP b E) (hE : (E : Int) = (σ 4 1).toInt) (cap : E ≤ 262180) (hbE : b < E) (hx : x.toInt = b) (k : ∀ s, Kp [] [24] σ s → TYf (s 24) g CP b E → (∀ j, j < b → (s 24) j = (σ 24) j) → Q s) : wk_X0_settle_r48 x σ Q := by
  unfold wk_X0_settle_r48
  refine ⟨fun n y v s => ∃ q : Nat, y.toInt = q ∧ n = E - q ∧ b ≤ q ∧ (q = E ∨ g q ≠ none) ∧ q ≤ E ∧ (E : Int) - q ≤ v.toInt ∧ Kp [] [24] σ s ∧ TYf (s 24) g CP b E ∧ (∀ j, j < b → (s 24) j = (σ 24) j), ⟨E - b, b, hx, rfl, Nat.le_refl _, Or.inr ?_, by omega, by omega, kp_rf, T, fun _ _ => rfl⟩, ?_⟩
  · obtain ⟨⟨k0, t1⟩, -⟩ := T
    rw [t1]
    exact fun z => by cases z
  rintro n y v s ⟨q, hq, hn, bq, gq, qE, hv, ks, Ts, ws⟩
  have e4 : s 4 1 = σ 4 1 := ks 4 1 rfl rfl
  have fin : Q s := k s ks Ts ws
  refine ⟨fun _ => fin, fun c => ⟨fun _ => fin, fun c2 => ?_⟩⟩
  have qlt : q < E := by rw [e4] at c2; omega
  have gq' : g q ≠ none := by
    rcases gq with e | e
    · omega
    · exact e
  obtain ⟨⟨h0, k0⟩, hg⟩ : ∃ v, g q = some v := by
    cases hh : g q with
    | none => exact absurd hh gq'
    | some v => exact ⟨v, rfl⟩
  obtain ⟨q1, q2, nq, q3, q4, q5, q6, q7⟩ := Ts.2.2 q h0 k0 hg
  have n60 := q4.1.2.1
  have n1' := q4.1.1
  have lnp := ln_pos nq (by omega) n1' q4.1.2.2
  have ew : atv 262208 (s 24) y = (s 24) q := atv_at hq (by omega)
  have ew' : (atv 262208 (s 24) y).toInt = nq := by rw [ew]; exact q3
  have nxt := adv_len (w := (s 24)) q3 (by omega) lnp.1 (by omega) hq (by omega)
  have go : ∀ s2, Kp [] [24] σ s2 → TYf (s2 24) g CP b E → (∀ j, j < b → (s2 24) j = (σ 24) j) → ∃ m, m < n ∧ ∃ q' : Nat, (y + (if (atv 61 (gC 1) (atv 262208 (s 24) y)) < (1 : Int32) then (1 : Int32) else (atv 61 (gC 1) (atv 262208 (s 24) y)))).toInt = q' ∧ m = E - q' ∧ b ≤ q' ∧ (q' = E ∨ g q' ≠ none) ∧ q' ≤ E ∧ (E : Int) - q' ≤ (v + (-1 : Int32)).toInt ∧ Kp [] [24] σ s2 ∧ TYf (s2 24) g CP b E ∧ (∀ j, j < b → (s2 24) j = (σ 24) j) := fun s2 k2 T2 w2 => by
    refine ⟨E - (q + ln nq), by omega, q + ln nq, nxt, rfl, by omega, q6, q5, cnt_dn hv lnp.1 c, k2, T2, w2⟩
  refine ⟨fun s2 => Kp [] [24] σ s2 ∧ TYf (s2 24) g CP b E ∧ (∀ j, j < b → (s2 24) j = (σ 24) j), fun s2 h2 => go s2 h2.1 h2.2.1 h2.2.2, ?_⟩
  have y1 : (y + (1 : Int32)).toInt = ((q + 1 : Nat) : Int) := by rw [ad0 i1 (by omega) (by omega)]; omega
  have qE1 : q + 1 < 262208 := by omega
  refine ⟨¬ (nq = 8 ∨ nq = 9 ∨ nq = 10) ∨ True, fun _ => ⟨fun _ => ⟨ks, Ts, ws⟩, fun c14 => ⟨fun _ => ⟨ks, Ts, ws⟩, fun c17 => ?_⟩⟩, fun _ => Or.inr trivial, fun c8 => ⟨fun _ => Or.inr trivial, fun c10 => ⟨fun _ => Or.inr trivial, fun _ => ?_⟩⟩⟩
  · rw [ew'] at c14 c17
    have l2 : 2 ≤ ln nq := by
      have : nq = 14 ∨ nq = 15 ∨ nq = 16 ∨ nq = 17 := by omega
      rcases this with e | e | e | e <;> subst e <;> decide
    rw [setv_at y1 qE1]
    refine ⟨kp_F ks rfl, tyf_set Ts hg q3 l2 (n1 := nq) ?_ rfl ?_ (fun i i1 i2 => ?_), fun j hj => ?_⟩
    · rw [rdF_eq]
      show (if q = q + 1 then _ else s 24 q).toInt = _
      rw [if_neg (by omega)]
      exact q3
    · exact opk_arg (Or.inl (by omega)) q4
    · rw [rdF_eq]
      exact if_neg i2
    · rw [rdF_eq]
      show (if j = q + 1 then _ else s 24 j) = _
      rw [if_neg (by omega)]
      exact ws j hj
  · rw [ew'] at c8 c10
    have hn3 : nq = 8 ∨ nq = 9 ∨ nq = 10 := by omega
    have l2 : 2 ≤ ln nq := by
      rcases hn3 with e | e | e <;> subst e <;> decide
    have w3 : (atv 262208 (s 24) y + (3 : Int32)).toInt = ((nq + 3 : Nat) : Int) := by rw [ad0 i3 (by rw [ew']; omega) (by rw [ew']; omega), ew']; omega
    rw [setv_at hq (by omega), setv_at y1 qE1]
    refine ⟨kp_F (kp_F ks rfl) rfl, tyf_set Ts hg q3 l2 (n1 := nq + 3) ?_ ?_ ?_ (fun i i1 i2 => ?_), fun j hj => ?_⟩
    · rw [rdF_eq]
      show (if q = q + 1 then _ else (upF s 24 _) 24 q).toInt = _
      rw [if_neg (by omega), rdF_eq, if_pos rfl]
      exact w3
    · rcases hn3 with e | e | e <;> subst e <;> rfl
    · exact opk_fr hn3 q4
    · rw [rdF_eq]
      show (if i = q + 1 then _ else (upF s 24 _) 24 i) = _
      rw [if_neg i2, rdF_eq, if_neg i1]
    · rw [rdF_eq]
      show (if j = q + 1 then _ else (upF s 24 _) 24 j) = _
      rw [if_neg (by omega), rdF_eq, if_neg (by omega)]
      exact ws j hj
theorem jn_tr {t t2 h k pc k1 : Nat} (h1 : g t = some (h, k1)) (hl : k1 < k ∨ (k1 = k ∧ pc < t)) (j : Jn g k1 t t2 h) : Jn g k pc t2 h := by
  obtain ⟨k2, a1, a2⟩ := j
  exact ⟨k2, a1, by omega⟩
/-- jumps are threaded -/
theorem sp_thread {Q : St → Prop} (T : TYf (σ 24) g CP b E) (hE : (E : Int) = (σ 4 1).toInt) (cap : E ≤ 262180) (hbE : b < E) (hx : x.toInt = b) (k : ∀ s, Kp [] [24] σ s → TYf (s 24) g CP b E → (∀ j, j < b → (s 24) j = (σ 24) j) → Q s) : wk_X0_thread x σ Q := by
  unfold wk_X0_thread
  refine ⟨fun n y v s => ∃ q : Nat, y.toInt = q ∧ n = E - q ∧ b ≤ q ∧ (q = E ∨ g q ≠ none) ∧ q ≤ E ∧ (E : Int) - q ≤ v.toInt ∧ Kp [] [24] σ s ∧ TYf (s 24) g CP b E ∧ (∀ j, j < b → (s 24) j = (σ 24) j), ⟨E - b, b, hx, rfl, Nat.le_refl _, Or.inr ?_, by omega, by omega, kp_rf, T, fun _ _ => rfl⟩, ?_⟩
  · obtain ⟨⟨k0, t1⟩, -⟩ := T
    rw [t1]
    exact fun z => by cases z
  rintro n y v s ⟨q, hq, hn, bq, gq, qE, hv, ks, Ts, ws⟩
  have e4 : s 4 1 = σ 4 1 := ks 4 1 rfl rfl
  have fin : Q s := k s ks Ts ws
  refine ⟨fun _ => fin, fun c => ⟨fun _ => fin, fun c2 => ?_⟩⟩
  have qlt : q < E := by rw [e4] at c2; omega
  have gq' : g q ≠ none := by
    rcases gq with e | e
    · omega
    · exact e
  obtain ⟨⟨h0, k0⟩, hg⟩ : ∃ v, g q = some v := by
    cases hh : g q with
    | none => exact absurd hh gq'
    | some v => exact ⟨v, rfl⟩
  obtain ⟨q1, q2, nq, q3, q4, q5, q6, q7⟩ := Ts.2.2 q h0 k0 hg
  have n60 := q4.1.2.1
  have n1' := q4.1.1
  have lnp := ln_pos nq (by omega) n1' q4.1.2.2
  have ew : atv 262208 (s 24) y = (s 24) q := atv_at hq (by omega)
  have ew' : (atv 262208 (s 24) y).toInt = nq := by rw [ew]; exact q3
  have nxt := adv_len (w := (s 24)) q3 (by omega) lnp.1 (by omega) hq (by omega)
  have go : ∀ s2, Kp [] [24] σ s2 → TYf (s2 24) g CP b E → (∀ j, j < b → (s2 24) j = (σ 24) j) → ∃ m, m < n ∧ ∃ q' : Nat, (y + (if (atv 61 (gC 1) (atv 262208 (s 24) y)) < (1 : Int32) then (1 : Int32) else (atv 61 (gC 1) (atv 262208 (s 24) y)))).toInt = q' ∧ m = E - q' ∧ b ≤ q' ∧ (q' = E ∨ g q' ≠ none) ∧ q' ≤ E ∧ (E : Int) - q' ≤ (v + (-1 : Int32)).toInt ∧ Kp [] [24] σ s2 ∧ TYf (s2 24) g CP b E ∧ (∀ j, j < b → (s2 24) j = (σ 24) j) := fun s2 k2 T2 w2 => by
    refine ⟨E - (q + ln nq), by omega, q + ln nq, nxt, rfl, by omega, q6, q5, cnt_dn hv lnp.1 c, k2, T2, w2⟩
  refine ⟨fun s2 => Kp [] [24] σ s2 ∧ TYf (s2 24) g CP b E ∧ (∀ j, j < b → (s2 24) j = (σ 24) j), fun s2 h2 => go s2 h2.1 h2.2.1 h2.2.2, fun _ => ⟨ks, Ts, ws⟩, fun c26 => ⟨fun _ => ⟨ks, Ts, ws⟩, fun c28 => ?_⟩⟩
  rw [ew'] at c26 c28
  have n3 : nq = 26 ∨ nq = 27 ∨ nq = 28 := by omega
  have l2 : ln nq = 2 := by rcases n3 with e | e | e <;> subst e <;> rfl
  have y1 : (y + (1 : Int32)).toInt = ((q + 1 : Nat) : Int) := by rw [ad0 i1 (by omega) (by omega)]; omega
  have qE1 : q + 1 < 262208 := by omega
  have ea : atv 262208 (s 24) (y + (1 : Int32)) = (s 24) (q + 1) := atv_at y1 qE1
  -- where it leads, at which height
  let hT : Nat := if nq = 26 then h0 else h0 - 1
  have aim : 0 ≤ ((s 24) (q + 1)).toInt ∧ Jn g k0 q ((s 24) (q + 1)).toInt.toNat hT := by
    rcases n3 with e | e | e
    · rcases q4.2.2.1 e with f | f
      · exact absurd f id
      · refine ⟨f.1, ?_⟩
        show Jn g k0 q _ (if nq = 26 then h0 else h0 - 1)
        rw [if_pos e]
        exact f.2
    · rcases (q4.2.2.2.1 (Or.inl e)).2.2 with f | f
      · exact absurd f id
      · refine ⟨f.1, ?_⟩
        show Jn g k0 q _ (if nq = 26 then h0 else h0 - 1)
        rw [if_neg (by omega)]
        exact f.2
    · rcases (q4.2.2.2.1 (Or.inr e)).2.2 with f | f
      · exact absurd f id
      · refine ⟨f.1, ?_⟩
        show Jn g k0 q _ (if nq = 26 then h0 else h0 - 1)
        rw [if_neg (by omega)]
        exact f.2
  refine ⟨fun n z i => n = (100 - i.toInt).toNat ∧ 0 ≤ i.toInt ∧ 0 ≤ z.toInt ∧ Jn g k0 q z.toInt.toNat hT, ⟨100, rfl, by decide, by rw [ea]; exact aim.1, by rw [ea]; exact aim.2⟩, ?_⟩
  rintro n2 z i ⟨hn2, hi, z0, hj⟩
  have setz : Kp [] [24] σ (upF s 24 (setv 262208 (s 24) (y + (1 : Int32)) z)) ∧ TYf ((upF s 24 (setv 262208 (s 24) (y + (1 : Int32)) z)) 24) g CP b E ∧ (∀ j, j < b → ((upF s 24 (setv 262208 (s 24) (y + (1 : Int32)) z)) 24) j = (σ 24) j) := by
    rw [setv_at y1 qE1]
    refine ⟨kp_F ks rfl, tyf_set Ts hg q3 (by omega) (n1 := nq) ?_ rfl ?_ (fun i i1 i2 => ?_), fun j hj => ?_⟩
    · rw [rdF_eq]
      show (if q = q + 1 then _ else s 24 q).toInt = _
      rw [if_neg (by omega)]
      exact q3
    · rw [rdF_eq]
      show OPk nq (if q + 1 = q + 1 then z else _).toInt g CP False q h0 k0
      rw [if_pos rfl]
      obtain ⟨o1, o2, o3, o4, o5, o6, o7, o8⟩ := q4
      have hjT : Jn g k0 q z.toInt.toNat (if nq = 26 then h0 else h0 - 1) := hj
      refine ⟨o1, fun c => by exfalso; unfold PLn at c; clear hj hjT o2 o3 o4 o5 o6 o7; omega, fun c => Or.inr ⟨z0, by rw [if_pos c] at hjT; exact hjT⟩, fun c => ?_, fun c => by exfalso; clear hj hjT o2 o3 o4 o5 o6 o7; omega, fun c => by exfalso; clear hj hjT o2 o3 o4 o5 o6 o7; omega, fun c => by exfalso; clear hj hjT o2 o3 o4 o5 o6 o7; omega, fun c => by exfalso; clear hj hjT o2 o3 o4 o5 o6 o7; omega⟩
      have n26 : nq ≠ 26 := by clear hj hjT o2 o3 o4 o5 o6 o7; omega
      rw [if_neg n26] at hjT
      obtain ⟨b1, b2, -⟩ := o4 c
      exact ⟨b1, b2, Or.inr ⟨z0, hjT⟩⟩
    · rw [rdF_eq]
      exact if_neg i2
    · rw [rdF_eq]
      show (if j = q + 1 then _ else s 24 j) = _
      rw [if_neg (by omega)]
      exact ws j hj
  refine ⟨True, fun _ => setz, fun _ => trivial, fun ci => ⟨fun _ => trivial, fun c26' => ?_⟩⟩
  obtain ⟨k1, g1', hl⟩ := hj
  obtain ⟨zt, ez⟩ : ∃ zt : Nat, z.toInt = zt := ⟨z.toInt.toNat, by omega⟩
  have ezt : z.toInt.toNat = zt := by omega
  rw [ezt] at g1' hl
  obtain ⟨p1, p2, np, p3, p4, p5, p6, p7⟩ := Ts.2.2 zt hT k1 g1'
  have zlt : zt < 262208 := by omega
  rw [atv_at ez zlt] at c26'
  have np26 : np = 26 := by omega
  have z1 : (z + (1 : Int32)).toInt = ((zt + 1 : Nat) : Int) := by rw [ad0 i1 (by omega) (by omega)]; omega
  have ez1 : atv 262208 (s 24) (z + (1 : Int32)) = (s 24) (zt + 1) := atv_at z1 (by omega)
  have up : (i + 1).toInt = i.toInt + 1 := ad1 (by omega)
  rcases p4.2.2.1 np26 with f | f
  · exact absurd f id
  · refine ⟨(100 - (i + 1).toInt).toNat, by rw [up]; clear hl; omega, rfl, by rw [up]; clear hl; omega, by rw [ez1]; exact f.1, ?_⟩
    rw [ez1]
    exact jn_tr g1' hl f.2
end STL
