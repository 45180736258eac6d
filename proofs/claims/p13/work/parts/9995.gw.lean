/-! both sides: the walk over steps -/
def SAq (x : Stq) (w : St) (Q : St → Prop) : Prop := ∀ a b : Int32, b.toInt = x.1 → (atv 32100 (w 19) a).toInt = (x.2.1 : Int) → (atv 32100 (w 20) a).toInt = x.2.2.1 → pk_X7_take b a w Q
def DAq (x : Stq) (w : St) (Q : St → Prop) : Prop := ∀ a b : Int32, b.toInt = x.1 → (atv 32100 (w 19) a).toInt = (x.2.1 : Int) → (atv 32100 (w 20) a).toInt = x.2.2.1 → (atv 32100 (w 21) a).toInt = x.2.2.2 → pk_X1_take b a w Q
/-- a size: its steps stand from a to b -/
def CAq (l : List Stq) (w : St) (Q : St → Prop) : Prop := ∀ a b : Int32, 0 ≤ a.toInt → b.toInt = a.toInt + (l.length : Int) → b.toInt ≤ 32100 → (∀ i y, l[i]? = some y → (w 18 (a.toInt.toNat + i)).toInt = y.1 ∧ (w 19 (a.toInt.toNat + i)).toInt = (y.2.1 : Int) ∧ (w 20 (a.toInt.toNat + i)).toInt = y.2.2.1) → pk_X7_constant a b w (fun v s => Q (upC s 8 8 v))
def GWq : List Gsq → St → (St → Prop) → Prop → Prop
  | [], w, Q, _ => Q w
  | x :: l, w, Q, B => ((w 6 3).toInt = 0 → if x.1.1 = 40 then CAq x.2 w (fun s => GWq l s Q B) else if x.1.1 < 20 then XTq x.1 w (fun s => GWq l s Q B) else if x.1.1 < 40 then SAq x.1 w (fun s => GWq l s Q B) else DAq x.1 w (fun s => GWq l s Q B)) ∧ ((w 6 3).toInt ≠ 0 → B)
section GWS
variable {w s r σ σ' : St} {kd : Nat → Int} {n S m lo : Nat} {l l2 : List Gsq} {Q Q2 : St → Prop} {B B2 : Prop} {x : Stq} {xs : List Stq}
theorem st_mono (h : SAq x w Q) (k : ∀ s, Q s → Q2 s) : SAq x w Q2 := fun a b e0 e1 e2 => cj_wk_X7_take (fun s q _ => k s q) (h a b e0 e1 e2) (h a b e0 e1 e2)
theorem dt_mono (h : DAq x w Q) (k : ∀ s, Q s → Q2 s) : DAq x w Q2 := fun a b e0 e1 e2 e3 => cj_wk_X1_take (fun s q _ => k s q) (h a b e0 e1 e2 e3) (h a b e0 e1 e2 e3)
theorem ct_mono (h : CAq xs w Q) (k : ∀ s, Q s → Q2 s) : CAq xs w Q2 := fun a b h0 h1 h2 h3 => cj_wk_X7_constant (fun v s q _ => k _ q) (h a b h0 h1 h2 h3) (h a b h0 h1 h2 h3)
theorem gv_mono : ∀ {l : List Gsq} {w : St}, GWq l w Q B → (∀ s, Q s → Q2 s) → (B → B2) → GWq l w Q2 B2
  | [], _, h, k, _ => k _ h
  | x :: l, w, h, k, b => by
    refine ⟨fun c => ?_, fun c => b (h.2 c)⟩
    have h1 := h.1 c
    by_cases c1 : x.1.1 = 40
    · rw [if_pos c1] at h1 ⊢
      exact ct_mono h1 (fun _ hs => gv_mono hs k b)
    rw [if_neg c1] at h1 ⊢
    by_cases c2 : x.1.1 < 20
    · rw [if_pos c2] at h1 ⊢
      exact xt_mono h1 (fun _ hs => gv_mono hs k b)
    rw [if_neg c2] at h1 ⊢
    by_cases c3 : x.1.1 < 40
    · rw [if_pos c3] at h1 ⊢
      exact st_mono h1 (fun _ hs => gv_mono hs k b)
    rw [if_neg c3] at h1 ⊢
    exact dt_mono h1 (fun _ hs => gv_mono hs k b)
theorem gv_app : ∀ {l : List Gsq} {w : St}, GWq l w (fun s => GWq l2 s Q B) B → GWq (l ++ l2) w Q B
  | [], _, h => h
  | x :: l, w, h => by
    refine ⟨fun c => ?_, h.2⟩
    have h1 := h.1 c
    by_cases c1 : x.1.1 = 40
    · rw [if_pos c1] at h1 ⊢
      exact ct_mono h1 (fun _ hs => gv_app hs)
    rw [if_neg c1] at h1 ⊢
    by_cases c2 : x.1.1 < 20
    · rw [if_pos c2] at h1 ⊢
      exact xt_mono h1 (fun _ hs => gv_app hs)
    rw [if_neg c2] at h1 ⊢
    by_cases c3 : x.1.1 < 40
    · rw [if_pos c3] at h1 ⊢
      exact st_mono h1 (fun _ hs => gv_app hs)
    rw [if_neg c3] at h1 ⊢
    exact dt_mono h1 (fun _ hs => gv_app hs)
theorem gv_bad (c : (w 6 3).toInt ≠ 0) (b : B) (q : ∀ s, (s 6 3).toInt ≠ 0 → Q s) : GWq l w Q B := by
  cases l with
  | nil => exact q w c
  | cons y l => exact ⟨fun c0 => absurd c0 c, fun _ => b⟩
theorem gv_x : ∀ {l : List Stq} {w : St}, (∀ y, y ∈ l → 1 ≤ y.1 ∧ y.1 ≤ 16) → XW l w Q B → GWq (gqs l) w Q B
  | [], _, _, h => h
  | y :: l, w, hy, h => by
    have hy0 := hy y (List.mem_cons_self ..)
    refine ⟨fun c => ?_, h.2⟩
    have c1 : ¬ (gq y).1.1 = 40 := by show ¬ y.1 = 40; omega
    have c2 : (gq y).1.1 < 20 := by show y.1 < 20; omega
    rw [if_neg c1, if_pos c2]
    exact xt_mono (h.1 c) (fun _ hs => gv_x (fun z hz => hy z (List.mem_cons_of_mem _ hz)) hs)
theorem gv_s (hx : 20 ≤ x.1 ∧ x.1 < 40) (h : (w 6 3).toInt = 0 → SAq x w Q) (b : (w 6 3).toInt ≠ 0 → B) : GWq [gq x] w Q B := by
  refine ⟨fun c => ?_, b⟩
  have c1 : ¬ (gq x).1.1 = 40 := by show ¬ x.1 = 40; omega
  have c2 : ¬ (gq x).1.1 < 20 := by show ¬ x.1 < 20; omega
  have c3 : (gq x).1.1 < 40 := hx.2
  rw [if_neg c1, if_neg c2, if_pos c3]
  exact h c
theorem gv_d (hx : 41 ≤ x.1) (h : (w 6 3).toInt = 0 → DAq x w Q) (b : (w 6 3).toInt ≠ 0 → B) : GWq [gq x] w Q B := by
  refine ⟨fun c => ?_, b⟩
  have c1 : ¬ (gq x).1.1 = 40 := by show ¬ x.1 = 40; omega
  have c2 : ¬ (gq x).1.1 < 20 := by show ¬ x.1 < 20; omega
  have c3 : ¬ (gq x).1.1 < 40 := by show ¬ x.1 < 40; omega
  rw [if_neg c1, if_neg c2, if_neg c3]
  exact h c
theorem gv_c (hx : x.1 = 40) (h : (w 6 3).toInt = 0 → CAq xs w Q) (b : (w 6 3).toInt ≠ 0 → B) : GWq [(x, xs)] w Q B := by
  refine ⟨fun c => ?_, b⟩
  have c1 : ((x, xs) : Gsq).1.1 = 40 := hx
  rw [if_pos c1]
  exact h c
end GWS
/-! the class's steps of statements -/
section CST
variable {w s r : St} {p O : Nat} {Q : St → Prop} {k ty h z f i : Int} {x a b : Int32}
/-- what steps of statements leave: but for code, faults, operands, what is open -/
abbrev STw (a b : St) : Prop := Ko [(4, 1), (6, 3), (6, 4), (7, 7), (9, 5)] [24, 43, 49, 50, 51, 52, 53, 54] a b
theorem sw_k {fs : List (Nat × Nat)} {cs : List Nat} (h : Kp fs cs w s) (s1 : fs.all (fun x => [(4, 1), (6, 3), (6, 4), (7, 7), (9, 5)].contains x || [24, 43, 49, 50, 51, 52, 53, 54].contains x.1) = true) (s2 : cs.all (fun x => [24, 43, 49, 50, 51, 52, 53, 54].contains x) = true) : STw w s := ko_sub (ko_kp h) s1 s2
theorem xs_begin (hO : (w 9 5).toInt = (O : Int)) (hO9 : O < 26) (kk : ∀ s, Kp [(9, 5)] [49, 50, 51, 52] w s → (s 9 5).toInt = (O : Int) + 1 → (∀ i, i ≠ O → s 49 i = w 49 i) → ((s 49 O).toInt ≠ 0 ↔ b.toInt ≠ 0) → Q s) : pk_X7_begin b w Q := by
  unfold pk_X7_begin
  refine ⟨fun y => (y.toInt ≠ 0 ↔ b.toInt ≠ 0), fun y _ hy => ?_, fun c => ⟨fun h => absurd rfl h, fun h => absurd c h⟩, fun c => ⟨fun _ => c, fun _ => by decide⟩⟩
  have e49 : ∀ j, (setv 26 (w 49) (w 9 5) y) j = if j = O then y else w 49 j := fun j => by rw [setv_at hO hO9]
  refine kk _ (kp_f (kp_F (kp_F (kp_F (kp_F kp_rf rfl) rfl) rfl) rfl) rfl) ?_ (fun i hi => ?_) ?_
  · rw [rdA_eq rfl, ad1 (by omega), hO]
  · rw [rdC_ne (by decide), rdF_ne (by decide), rdF_ne (by decide), rdF_ne (by decide), rdF_eq, e49, if_neg hi]
  · rw [rdC_ne (by decide), rdF_ne (by decide), rdF_ne (by decide), rdF_ne (by decide), rdF_eq, e49, if_pos rfl]
    exact hy
theorem xs_finish (hO : (w 9 5).toInt = (O : Int) + 1) (kk : ∀ s, Kp [(4, 1), (9, 5)] [24] w s → (s 9 5).toInt = (O : Int) → Q s) : pk_X7_finish w Q := by
  unfold pk_X7_finish
  refine xl_aim (fun s ks => kk s (kp_tr (kp_f kp_rf rfl) (kp_sub ks rfl rfl)) ?_)
  rw [ks 9 5 rfl rfl, rdA_eq rfl, sb1 (by omega), hO]
  omega
theorem xs_cond {Q : Nat → St → Prop} (hc : (w 7 7).toInt = 1) (h0 : (w 6 3).toInt = 0) (hA : AVq w 65 k ty h z f x i) (hk : 0 ≤ k ∧ k ≤ 3) (kk : ∀ u s, STx 0 w s → (s 7 7).toInt = 0 → ((s 6 3).toInt ≠ 0 ↔ ty = -1) → Q u s) : pk_X7_condition a w Q := by
  unfold pk_X7_condition
  refine xl_pop (j := 0) (by rw [hc]; rfl) (by omega) hA hk (fun s ks e6 e7 hA2 => ⟨fun c => ?_, fun c => ?_⟩)
  · rw [hA2.2.1] at c
    exact kk _ s ks e7 ⟨fun hx => absurd (by rw [e6]; exact h0) hx, fun hx => absurd hx c⟩
  · rw [hA2.2.1] at c
    refine xl_fail (by decide) (fun s2 k2 f2 => kk _ s2 (stq_tr ks (stq_kp (kp_sub k2 rfl rfl))) ?_ ⟨fun _ => c, fun _ => f2⟩)
    rw [k2 7 7 rfl rfl]
    exact e7
theorem xs_exit {u : Nat} (kk : ∀ s, Kp [(4, 1)] [24, 51] w s → Q s) : pk_X7_exitUnless u w Q := by
  unfold pk_X7_exitUnless
  exact xl_unless (fun v s ks => kk _ (kp_F (kp_sub ks rfl rfl) rfl))
theorem xs_turn (kk : ∀ s, Kp [(4, 1)] [24] w s → Q s) : pk_X7_turn a w Q := by
  unfold pk_X7_turn
  exact xl_emit (fun v s ks => kk s ks)
theorem xs_jump (kk : ∀ s, Kp [(4, 1)] [24] w s → Q s) : pk_X7_jumpBack a w Q := by
  unfold pk_X7_jumpBack
  exact xl_emit (fun v s ks => kk s ks)
end CST
