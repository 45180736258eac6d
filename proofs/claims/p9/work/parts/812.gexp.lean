/-! the grammar: expressions -/
abbrev KX1 : Type := Int32 → St → (St → Prop) → Prop
/-- a method of the group at a depth: it puts an operand -/
def SPE (K : KX1) (d l p : Nat) : Prop := ∀ (x : Int32) (σ : St) (Q : St → Prop), x.toInt = d → TKc σ → GA σ → CBd σ 70 → (0 ≤ (σ 3 9).toInt ∧ (σ 3 9).toInt ≤ p) → (∀ s, GRx σ s l [] [iV] (-1) (-1) → PSo σ s → Q s) → K x σ Q
def SPC (K : Int32 → KX1) (d l p : Nat) : Prop := ∀ (nm x : Int32) (σ : St) (Q : St → Prop), x.toInt = d → TKc σ → GA σ → CBd σ 70 → (0 ≤ (σ 3 9).toInt ∧ (σ 3 9).toInt ≤ p) → (σ 3 2).toInt = 20 → ((σ 3 3).toInt < 0 → tkx σ nm = 2) → (∀ s, GRx σ s l [] [iV] 1 3 → PSo σ s → Q s) → K nm x σ Q
def SPK (K : KX1) (d l p : Nat) : Prop := ∀ (x : Int32) (σ : St) (Q : St → Prop), x.toInt = d → TKc σ → GA σ → CBd σ 70 → (0 ≤ (σ 3 9).toInt ∧ (σ 3 9).toInt ≤ p) → (σ 3 2).toInt = 20 → (∀ s, GRx σ s l [] [iV] (-1) (-1) → PSo σ s → Q s) → K x σ Q
section GEX
variable {σ s t : St} {l p d l' p' : Nat} {Ka : Int32 → KX1} {Kb Kc Kd Ke Kf Kg Kh : KX1}
theorem cb_le {c c' : Int} (h : CBd σ c) (hc : c ≤ c') : CBd σ c' := fun hw => by have := h hw; omega
theorem pen_of {n : Nat} (h : PSo σ s) (hp : 0 ≤ (σ 3 9).toInt ∧ (σ 3 9).toInt ≤ n) : 0 ≤ (s 3 9).toInt ∧ (s 3 9).toInt ≤ n := by rw [h.1]; exact hp
theorem adv_g {l : Nat} {a : List It} (h : ADV σ s) : GRx σ s l a a (-2) (-4) := h.2.2.2.1 l a
theorem tkx_pos (g : GA σ) (tk : TKc σ) (hw : (σ 3 3).toInt < 0) : tkx σ (σ 3 1) = (σ 3 2).toInt := by
  obtain ⟨⟨p1, p2⟩, p3, p4⟩ := g.1 hw
  have en : (ps σ : Int) = (σ 3 1).toInt := nt p1
  unfold tkx
  rw [p3, atv_at (j := ps σ) en.symm (by have := tk.1.2; omega)]
/-- a sign that was met before: its kind -/
theorem tkx_kg (k : KG σ s) (x : Int32) : tkx s x = tkx σ x := by
  have e13 : (s 13) = (σ 13) := funext (fun j => k 13 j rfl rfl)
  unfold tkx
  rw [e13]
theorem grx_w {a b : List It} {u w : Int} (h : GRx σ s l a b u w) (hw : (s 3 3).toInt < 0) : (σ 3 3).toInt < 0 := (h.2.2 hw).1
/-- a step behind a stretch -/
theorem grx_add {σ0 : St} {a b c : List It} {u w w' : Int} {a1 a2 a3 a4 : Int32} (g0 : GA σ0) (h : GRx σ0 σ l a b u w) (r : ADD σ s a1 a2 a3 a4) (hd : (σ 3 3).toInt < 0 → ∀ S : List It, S.length ≤ l → dx a1.toInt (tkx σ a2) (b ++ S) (c ++ S)) (hc : (([0, 2, 3, 2, 0, 0, 3, 2, 2, 2, 3, 2, 0, 2, 2, 2, 0] : List Nat).getD a1.toInt.toNat 0 : Int) ≤ w') (h17 : a1.toInt ≤ 16) : GRx σ0 s l a c (u + 1) (w + w') := grx_tr g0 h (add_grx r h.2.1 hd hc h17)
theorem sp_gexpr (hc : SPE Kg d l p) (he : d + 1 ≤ 25 → SPE Kh (d + 1) l' p') (hl : l + 1 ≤ l') (hp' : p ≤ p') : SPE (wk_X3_expression Ka Kb Kc Kd Ke Kf Kg Kh) d l p := fun x σ Q hx tk ga cb hp k => by
  unfold wk_X3_expression
  refine hc x σ _ hx tk ga cb hp (fun s2 r2 p2 => ⟨fun _ => k s2 r2 p2, fun c1 => ⟨fun _ => k s2 r2 p2, fun c2 => ?_⟩⟩)
  have tk2 := tk_kg r2.1 tk
  refine sp_gdeeper tk2 r2.2.1 (by omega) (fun s3 r3 p3 => ⟨fun _ => k s3 (grx_wk (grx_tr ga r2 (r3 l [iV] [iV] 0 0)) (Nat.le_refl _) (by omega) (by omega)) (pso_tr p2 p3), fun e => absurd rfl e⟩) (fun s3 d3 a3 => ⟨fun e => absurd e (by decide), fun _ => ?_⟩)
  have r3 := grx_tr ga r2 (adv_g a3)
  have q3 := pso_tr p2 a3.2.2.2.2.1
  have tk3 := tk_kg r3.1 tk
  refine sp_gadd0 tk3 r3.2.1 (cb_grx cb r3 (by omega)) (fun v4 s4 ad4 _ => ?_)
  have r4 := grx_add (c := [iL (s2 3 2).toInt]) (w' := 2) ga r3 ad4 (fun hw S hS => by
    rw [tkx_kg (adv_g (l := 0) (a := []) a3).1, tkx_pos r2.2.1 tk2 a3.2.2.2.2.2]
    exact Or.inr (Or.inr (Or.inr (Or.inr (Or.inl ⟨by decide, Or.inr (Or.inl ⟨by omega, by omega⟩), S, rfl, rfl⟩))))) (by decide) (by decide)
  have q4 := pso_tr q3 ad4.2.2.1
  have tk4 := tk_kg r4.1 tk
  refine he (by omega) _ s4 _ (by rw [ad1 (by omega)]; omega) tk4 r4.2.1 (cb_grx cb r4 (by omega)) ⟨(pen_of q4 hp).1, by have := (pen_of q4 hp).2; omega⟩ (fun s5 r5' p5 => ?_)
  have r5 := grx_tr ga r4 (grx_ctx (e := [iL (s2 3 2).toInt]) r5' hl)
  have q5 := pso_tr q4 p5
  have tk5 := tk_kg r5.1 tk
  refine sp_gadd0 tk5 r5.2.1 (cb_grx cb r5 (by omega)) (fun v6 s6 ad6 _ => k s6 ?_ (pso_tr q5 ad6.2.2.1))
  exact grx_wk (grx_add (c := [iV]) (w' := 2) ga r5 ad6 (fun hw S hS => by
    rw [tkx_kg (kp_tr (kp_tr (adv_g (l := 0) (a := []) a3).1 ad4.1) r5'.1), tkx_pos r2.2.1 tk2 a3.2.2.2.2.2]
    exact Or.inr (Or.inr (Or.inr (Or.inr (Or.inr (Or.inr (Or.inl ⟨by decide, ⟨by omega, by omega⟩, S, rfl, rfl⟩))))))) (by decide) (by decide)) (Nat.le_refl _) (by omega) (by omega)
theorem sp_gchoice (hb : SPE Kf d l p) (he : d + 1 ≤ 25 → SPE Kh (d + 1) l' p') (hc : d + 1 ≤ 25 → SPE Kg (d + 1) l' p') (hl : l + 2 ≤ l') (hp' : p ≤ p') : SPE (wk_X3_choice Ka Kb Kc Kd Ke Kf Kg Kh) d l p := fun x σ Q hx tk ga cb hp k => by
  unfold wk_X3_choice
  refine hb x σ _ hx tk ga cb hp (fun s2 r2 p2 => ⟨fun _ => k s2 r2 p2, fun c1 => ?_⟩)
  have tk2 := tk_kg r2.1 tk
  refine sp_gdeeper tk2 r2.2.1 (by omega) (fun s3 r3 p3 => ⟨fun _ => k s3 (grx_wk (grx_tr ga r2 (r3 l [iV] [iV] 0 0)) (Nat.le_refl _) (by omega) (by omega)) (pso_tr p2 p3), fun e => absurd rfl e⟩) (fun s3 d3 a3 => ⟨fun e => absurd e (by decide), fun _ => ?_⟩)
  have r3 := grx_tr ga r2 (adv_g a3)
  have q3 := pso_tr p2 a3.2.2.2.2.1
  have tk3 := tk_kg r3.1 tk
  refine sp_gadd0 tk3 r3.2.1 (cb_grx cb r3 (by omega)) (fun v4 s4 ad4 _ => ?_)
  have r4 := grx_add (c := [iQ]) (w' := 2) ga r3 ad4 (fun hw S hS => Or.inr (Or.inr (Or.inr (Or.inr (Or.inr (Or.inr (Or.inr (Or.inr (Or.inr (Or.inl ⟨by decide, S, rfl, rfl⟩)))))))))) (by decide) (by decide)
  have q4 := pso_tr q3 ad4.2.2.1
  have tk4 := tk_kg r4.1 tk
  refine he (by omega) _ s4 _ (by rw [ad1 (by omega)]; omega) tk4 r4.2.1 (cb_grx cb r4 (by omega)) ⟨(pen_of q4 hp).1, by have := (pen_of q4 hp).2; omega⟩ (fun s5 r5' p5 => ?_)
  have r5 := grx_tr ga r4 (grx_ctx (l := l) (e := [iQ]) r5' (by show l + 1 ≤ l'; omega))
  have q5 := pso_tr q4 p5
  have tk5 := tk_kg r5.1 tk
  refine sp_gexpect tk5 r5.2.1 (by decide) (fun s6 r6' p6 _ => ?_)
  have r6 := grx_tr ga r5 (r6' l _)
  have q6 := pso_tr q5 p6
  have tk6 := tk_kg r6.1 tk
  refine sp_gadd0 tk6 r6.2.1 (cb_grx cb r6 (by omega)) (fun v7 s7 ad7 _ => ?_)
  have r7 := grx_add (c := [iM, iC]) (w' := 2) ga r6 ad7 (fun hw S hS => Or.inr (Or.inr (Or.inr (Or.inr (Or.inr (Or.inr (Or.inr (Or.inr (Or.inr (Or.inr (Or.inl ⟨by decide, S, rfl, rfl⟩))))))))))) (by decide) (by decide)
  have q7 := pso_tr q6 ad7.2.2.1
  have tk7 := tk_kg r7.1 tk
  refine hc (by omega) _ s7 _ (by rw [ad1 (by omega)]; omega) tk7 r7.2.1 (cb_grx cb r7 (by omega)) ⟨(pen_of q7 hp).1, by have := (pen_of q7 hp).2; omega⟩ (fun s8 r8' p8 => ?_)
  have r8 := grx_tr ga r7 (grx_ctx (e := [iM, iC]) r8' hl)
  have q8 := pso_tr q7 p8
  have tk8 := tk_kg r8.1 tk
  refine sp_gadd0 tk8 r8.2.1 (cb_grx cb r8 (by omega)) (fun v9 s9 ad9 _ => k s9 ?_ (pso_tr q8 ad9.2.2.1))
  exact grx_wk (grx_add (c := [iV]) (w' := 0) ga r8 ad9 (fun hw S hS => Or.inr (Or.inr (Or.inr (Or.inr (Or.inr (Or.inr (Or.inr (Or.inr (Or.inr (Or.inr (Or.inr ⟨by decide, S, rfl, rfl⟩))))))))))) (by decide) (by decide)) (Nat.le_refl _) (by omega) (by omega)
theorem sp_gstars {Q : Int32 → St → Prop} (tk : TKc σ) (ga : GA σ) (k : ∀ v s, (∀ l a, GRx σ s l a a 0 0) → PSo σ s → (0 ≤ v.toInt ∧ v.toInt ≤ 5) → ((s 3 3).toInt < 0 → (s 3 4) = (σ 3 4)) → Q v s) : wk_X3_stars σ Q := by
  unfold wk_X3_stars
  refine ⟨fun n x s => (x.toInt = 5 - (n : Int) ∧ 0 ≤ x.toInt) ∧ (∀ l a, GRx σ s l a a 0 0) ∧ PSo σ s ∧ ((s 3 3).toInt < 0 → (s 3 4) = (σ 3 4)), ⟨5, by decide, fun l a => grx_rf ga, pso_rf, fun _ => rfl⟩, ?_⟩
  rintro n x s ⟨⟨q1, q2⟩, r, p, ec⟩
  have g := (r 0 []).2.1
  have tk2 := tk_kg (r 0 []).1 tk
  refine ⟨True, fun _ => ⟨fun _ => k x s r p ⟨q2, by omega⟩ ec, fun _ => sp_gfail g (fun s2 r2 p2 bad => k x s2 (fun l a => grx_wk (grx_tr ga (r l a) (r2 l a a 0 0)) (Nat.le_refl _) (by omega) (by omega)) (pso_tr p p2) ⟨q2, by omega⟩ (fun h => absurd h (by omega)))⟩, fun _ => trivial, fun c => ⟨fun _ => trivial, fun c2 => sp_gadv tk2 g (by omega) (fun s2 a2 => ?_)⟩⟩
  have e := ad1 (x := x) (by omega)
  exact ⟨n - 1, by omega, ⟨by rw [e]; omega, by omega⟩, fun l a => grx_wk (grx_tr ga (r l a) (adv_g a2)) (Nat.le_refl _) (by omega) (by omega), pso_tr p a2.2.2.2.2.1, fun h => a2.2.2.1.trans (ec (by rw [a2.2.1] at h; exact h))⟩
theorem sp_gcast (hu : d + 1 ≤ 25 → SPE Ke (d + 1) l' p') (hl : l ≤ l') (hp' : p ≤ p') : SPK (wk_X3_cast Ka Kb Kc Kd Ke Kf Kg Kh) d l p := fun x σ Q hx tk ga cb hp hk k => by
  unfold wk_X3_cast
  refine sp_gdeeper tk ga (by omega) (fun s3 r3 p3 => ⟨fun _ => k s3 (r3 _ _ _ _ _) p3, fun e => absurd rfl e⟩) (fun s3 d3 a3 => ⟨fun e => absurd e (by decide), fun _ => ?_⟩)
  have r3 := adv_g (l := l) (a := []) a3
  have q3 := a3.2.2.2.2.1
  refine sp_gexpect (tk_kg r3.1 tk) r3.2.1 (by decide) (fun s4 r4' p4 _ => ?_)
  have r4 := grx_tr ga r3 (r4' l _)
  have q4 := pso_tr q3 p4
  refine sp_gstars (tk_kg r4.1 tk) r4.2.1 (fun v5 s5 r5' p5 _ _ => ?_)
  have r5 := grx_tr ga r4 (r5' l _)
  have q5 := pso_tr q4 p5
  refine sp_gexpect (tk_kg r5.1 tk) r5.2.1 (by decide) (fun s6 r6' p6 _ => ?_)
  have r6 := grx_tr ga r5 (r6' l _)
  have q6 := pso_tr q5 p6
  refine hu (by omega) _ s6 _ (by rw [ad1 (by omega)]; omega) (tk_kg r6.1 tk) r6.2.1 (cb_grx cb r6 (by omega)) ⟨(pen_of q6 hp).1, by have := (pen_of q6 hp).2; omega⟩ (fun s7 r7' p7 => ?_)
  have r7 := grx_tr ga r6 (grx_wk r7' hl (Int.le_refl _) (Int.le_refl _))
  have q7 := pso_tr q6 p7
  refine sp_gadd0 (tk_kg r7.1 tk) r7.2.1 (cb_grx cb r7 (by omega)) (fun v8 s8 ad8 _ => k s8 ?_ (pso_tr q7 ad8.2.2.1))
  exact grx_wk (grx_add (c := [iV]) (w' := 0) ga r7 ad8 (fun hw S hS => Or.inr (Or.inr (Or.inr (Or.inr (Or.inr (Or.inr (Or.inr (Or.inr (Or.inl ⟨by decide, S, rfl, rfl⟩))))))))) (by decide) (by decide)) (Nat.le_refl _) (by omega) (by omega)
theorem sp_gunary (hb : SPE Kc d l p) (hk : SPK Kd d l p) (hu : d + 1 ≤ 25 → SPE Ke (d + 1) l' p') (hl : l ≤ l') (hp' : p ≤ p') : SPE (wk_X3_unary Ka Kb Kc Kd Ke Kf Kg Kh) d l p := fun x σ Q hx tk ga cb hp k => by
  unfold wk_X3_unary
  refine ⟨True, fun _ => ⟨True, fun _ => hb x σ _ hx tk ga cb hp k, fun _ => trivial, fun c => ⟨fun _ => trivial, fun _ => hk x σ _ hx tk ga cb hp c k⟩⟩, 2 ≤ (σ 3 2).toInt, fun c => ?_, ?_⟩
  · refine sp_gdeeper tk ga c (fun s3 r3 p3 => ⟨fun _ => k s3 (r3 _ _ _ _ _) p3, fun e => absurd rfl e⟩) (fun s3 d3 a3 => ⟨fun e => absurd e (by decide), fun _ => ?_⟩)
    have r3 := adv_g (l := l) (a := []) a3
    have q3 := a3.2.2.2.2.1
    refine hu (by omega) _ s3 _ (by rw [ad1 (by omega)]; omega) (tk_kg r3.1 tk) r3.2.1 (cb_grx cb r3 (by omega)) ⟨(pen_of q3 hp).1, by have := (pen_of q3 hp).2; omega⟩ (fun s7 r7' p7 => ?_)
    have r7 := grx_tr ga r3 (grx_wk r7' hl (Int.le_refl _) (Int.le_refl _))
    have q7 := pso_tr q3 p7
    refine sp_gadd0 (tk_kg r7.1 tk) r7.2.1 (cb_grx cb r7 (by omega)) (fun v8 s8 ad8 _ => k s8 ?_ (pso_tr q7 ad8.2.2.1))
    exact grx_wk (grx_add (c := [iV]) (w' := 2) ga r7 ad8 (fun hw S hS => Or.inr (Or.inr (Or.inr (Or.inr (Or.inr (Or.inr (Or.inr (Or.inr (Or.inl ⟨by decide, S, rfl, rfl⟩))))))))) (by decide) (by decide)) (Nat.le_refl _) (by omega) (by omega)
  · repeat' (first | exact trivial | omega | (intro c; omega) | apply And.intro | intro _)
theorem sp_gprimary (hc : SPC Ka d l p) (he : d + 1 ≤ 25 → SPE Kh (d + 1) l' p') (hl : l ≤ l') (hl5 : l < 500) (hp' : p ≤ p') : SPE (wk_X3_primary Ka Kb Kc Kd Ke Kf Kg Kh) d l p := fun x σ Q hx tk ga cb hp k => by
  have leaf : ∀ y1 : Int32, (y1 = 1 ∨ y1 = 2) → 2 ≤ (σ 3 2).toInt → wk_X3_add y1 (σ 3 1) (0 : Int32) (0 : Int32) σ (fun v69 s69 => wk_X3_advance s69 (fun s74 => Q s74)) := fun y1 hy hk => by
    refine sp_gadd0 tk ga (cb_le cb (by omega)) (fun v2 s2 ad2 _ => ?_)
    have y3 : y1.toInt = 1 ∨ y1.toInt = 2 := by rcases hy with e | e <;> subst e <;> decide
    have r2 := add_grx (l := l) (a := []) (b := [iV]) (w := 3) ad2 ga (fun hw S hS => Or.inl ⟨by omega, by show S.length < 500; omega, rfl⟩) (by rcases hy with e | e <;> subst e <;> decide) (by omega)
    refine sp_gadv (tk_kg r2.1 tk) r2.2.1 (by rw [ad2.2.2.2.2.2.1]; exact hk) (fun s3 a3 => k s3 ?_ (pso_tr ad2.2.2.1 a3.2.2.2.2.1))
    exact grx_wk (grx_tr ga r2 (adv_g a3)) (Nat.le_refl _) (by omega) (by omega)
  unfold wk_X3_primary
  refine ⟨2 ≤ (σ 3 2).toInt, fun c => ⟨fun y => y = 1 ∨ y = 2, fun y hy => leaf y hy c, fun _ => Or.inr rfl, fun _ => Or.inl rfl⟩, fun c => ?_, fun _ => ⟨fun c => by omega, fun _ => ⟨fun c => by omega, fun _ => ⟨fun c => ?_, fun _ => ?_⟩⟩⟩⟩
  · refine sp_gadv tk ga (by omega) (fun s2 a2 => ⟨fun c2 => ?_, fun c2 => ?_⟩)
    · have r2 := adv_g (l := l) (a := []) a2
      refine sp_gadd0 (tk_kg r2.1 tk) r2.2.1 (cb_grx cb r2 (by omega)) (fun v3 s3 ad3 _ => k s3 ?_ (pso_tr a2.2.2.2.2.1 ad3.2.2.1))
      exact grx_wk (grx_add (c := [iV]) (w' := 2) ga r2 ad3 (fun hw S hS => Or.inl ⟨by decide, by show S.length < 500; omega, rfl⟩) (by decide) (by decide)) (Nat.le_refl _) (by omega) (by omega)
    · have r2 := adv_g (l := l) (a := []) a2
      refine hc _ x s2 _ hx (tk_kg r2.1 tk) r2.2.1 (cb_grx cb r2 (by omega)) (pen_of a2.2.2.2.2.1 hp) c2 (fun _ => by rw [tkx_kg r2.1, tkx_pos ga tk a2.2.2.2.2.2]; exact c) (fun s3 r3 p3 => k s3 ?_ (pso_tr a2.2.2.2.2.1 p3))
      exact grx_wk (grx_tr ga r2 r3) (Nat.le_refl _) (by omega) (by omega)
  · refine sp_gdeeper tk ga (by omega) (fun s3 r3 p3 => ⟨fun _ => k s3 (r3 _ _ _ _ _) p3, fun e => absurd rfl e⟩) (fun s3 d3 a3 => ⟨fun e => absurd e (by decide), fun _ => ?_⟩)
    have r3 := adv_g (l := l) (a := []) a3
    have q3 := a3.2.2.2.2.1
    refine he (by omega) _ s3 _ (by rw [ad1 (by omega)]; omega) (tk_kg r3.1 tk) r3.2.1 (cb_grx cb r3 (by omega)) ⟨(pen_of q3 hp).1, by have := (pen_of q3 hp).2; omega⟩ (fun s4 r4' p4 => ?_)
    have r4 := grx_tr ga r3 (grx_wk r4' hl (Int.le_refl _) (Int.le_refl _))
    refine sp_gexpect (tk_kg r4.1 tk) r4.2.1 (by decide) (fun s5 r5' p5 _ => k s5 ?_ (pso_tr (pso_tr q3 p4) p5))
    exact grx_wk (grx_tr ga r4 (r5' l _)) (Nat.le_refl _) (by omega) (by omega)
  · exact sp_gfail ga (fun s r p _ => k s (r _ _ _ _ _) p)
end GEX
