section
/-! the grammar: tokens, and what stays -/
def TKc (σ : St) : Prop := (1 ≤ (σ 2 4).toInt ∧ (σ 2 4).toInt ≤ 16001 ∧ (σ 2 1).toInt ≤ 16000) ∧ (∀ j : Nat, (j : Int) < (σ 2 4).toInt → (0 ≤ ((σ 15) j).toInt ∧ ((σ 15) j).toInt ≤ (σ 2 1).toInt) ∧ 0 ≤ ((σ 13) j).toInt ∧ ((σ 13) j).toInt ≤ 62) ∧
  (∀ j : Nat, (j : Int) < (σ 2 4).toInt → 2 ≤ ((σ 13) j).toInt → (j : Int) + 1 < (σ 2 4).toInt ∧ ((σ 15) j).toInt + 1 ≤ ((σ 15) (j + 1)).toInt ∧ (((σ 13) j).toInt = 2 → 1 ≤ ((σ 14) j).toInt ∧ ((σ 15) j).toInt + ((σ 14) j).toInt ≤ ((σ 15) (j + 1)).toInt) ∧ (((σ 13) j).toInt = 4 → 0 ≤ ((σ 14) j).toInt ∧ ((σ 14) j).toInt ≤ 200 ∧ ((σ 15) j).toInt + ((σ 14) j).toInt + 2 ≤ ((σ 15) (j + 1)).toInt))
abbrev KG (a b : St) : Prop := Kp [(3, 1), (3, 2), (3, 3), (3, 4), (3, 9)] [18, 19, 20, 21, 22, 23] a b
def ps (σ : St) : Nat := (σ 3 1).toNatClampNeg
def pl (σ : St) : Int := ((σ 15) (ps σ)).toInt
def cn (σ : St) : Nat := (σ 3 4).toNatClampNeg
/-- where the reading stands; or it failed -/
def GA (σ : St) : Prop := ((σ 3 3).toInt < 0 → (0 ≤ (σ 3 1).toInt ∧ (σ 3 1).toInt < (σ 2 4).toInt) ∧ (σ 3 2) = (σ 13) (ps σ) ∧ 0 ≤ (σ 3 4).toInt) ∧ (0 ≤ (σ 3 3).toInt → (σ 3 2).toInt = -1)
def CBd (σ : St) (c : Int) : Prop := (σ 3 3).toInt < 0 → (σ 3 4).toInt ≤ 2 * pl σ + c
def PSo (σ s : St) : Prop := (s 3 9) = (σ 3 9) ∧ ∀ j : Nat, (j : Int) < (σ 3 9).toInt → (s 22) j = (σ 22) j
/-- a stretch of steps: with operands a ++ S before it, b ++ S behind it -/
def GRx (σ s : St) (l : Nat) (a b : List It) (u w : Int) : Prop :=
  KG σ s ∧ GA s ∧ ((s 3 3).toInt < 0 → (σ 3 3).toInt < 0 ∧ (∀ j : Nat, (j : Int) < (σ 3 4).toInt → SameAt σ s j ∧ (s 20) j = (σ 20) j ∧ (s 21) j = (σ 21) j) ∧ ∃ n : Nat, (s 3 4).toInt = (σ 3 4).toInt + n ∧ (n : Int) ≤ 2 * (pl s - pl σ) + u ∧ (csum s n (cn σ) : Int) ≤ 4 * (pl s - pl σ) + w ∧ pl σ ≤ pl s ∧ ∀ S : List It, S.length ≤ l → XR s n (cn σ) (a ++ S) (b ++ S))
section GRS
variable {σ s t : St} {l : Nat} {a b e : List It} {u w : Int}
theorem tk_kg (k : KG σ s) (h : TKc σ) : TKc s := by
  have e4 : (s 2 4) = (σ 2 4) := k 2 4 rfl rfl
  have e13 : (s 13) = (σ 13) := funext (fun j => k 13 j rfl rfl)
  have e14 : (s 14) = (σ 14) := funext (fun j => k 14 j rfl rfl)
  have e15 : (s 15) = (σ 15) := funext (fun j => k 15 j rfl rfl)
  have e1 : (s 2 1) = (σ 2 1) := k 2 1 rfl rfl
  unfold TKc
  rw [e1, e4, e13, e14, e15]
  exact h
theorem pl_rng (tk : TKc σ) (g : GA σ) (hw : (σ 3 3).toInt < 0) : 0 ≤ pl σ ∧ pl σ ≤ 16000 := by
  obtain ⟨⟨p1, p2⟩, p3, p4⟩ := g.1 hw
  have e := nt p1
  have h1 := (tk.2.1 (ps σ) (by unfold ps; omega)).1
  have h2 := tk.1.2.2
  unfold pl
  omega
theorem pso_rf : PSo σ σ := ⟨rfl, fun _ _ => rfl⟩
theorem pso_tr (h : PSo σ s) (g : PSo s t) : PSo σ t := ⟨g.1.trans h.1, fun j hj => (g.2 j (by rw [h.1]; exact hj)).trans (h.2 j hj)⟩
theorem pso_k (h1 : (s 3 9) = (σ 3 9)) (h2 : (s 22) = (σ 22)) : PSo σ s := ⟨h1, fun j _ => by rw [h2]⟩
theorem grx_rf (g : GA σ) : GRx σ σ l a a 0 0 := ⟨kp_rf, g, fun hw => ⟨hw, fun _ _ => ⟨⟨rfl, rfl⟩, rfl, rfl⟩, 0, by omega, by omega, by show ((0 : Nat) : Int) ≤ _; omega, Int.le_refl _, fun S _ => rfl⟩⟩
theorem grx_bad (k : KG σ s) (g : GA s) (h : 0 ≤ (s 3 3).toInt) : GRx σ s l a b u w := ⟨k, g, fun hw => absurd hw (by omega)⟩
theorem grx_wk {u' w' : Int} {l' : Nat} (h : GRx σ s l a b u w) (hl : l' ≤ l) (hu : u ≤ u') (hw : w ≤ w') : GRx σ s l' a b u' w' := ⟨h.1, h.2.1, fun c => by
  obtain ⟨h1, h2, n, h3, h4, h5, h6, h7⟩ := h.2.2 c
  exact ⟨h1, h2, n, h3, by omega, by omega, h6, fun S hS => h7 S (Nat.le_trans hS hl)⟩⟩
theorem cn_eq (h : 0 ≤ (σ 3 4).toInt) : (cn σ : Int) = (σ 3 4).toInt := nt h
theorem grx_tr {c : List It} {u' w' : Int} (g : GA σ) (h : GRx σ s l a b u w) (h2 : GRx s t l b c u' w') : GRx σ t l a c (u + u') (w + w') := ⟨kp_tr h.1 h2.1, h2.2.1, fun hw => by
  obtain ⟨b1, b2, m, b3, b4, b5, b6, b7⟩ := h2.2.2 hw
  obtain ⟨a1, a2, n, a3, a4, a5, a6, a7⟩ := h.2.2 b1
  have c0 := (g.1 a1).2.2
  have e0 := cn_eq c0
  have e1 : (cn s : Int) = (s 3 4).toInt := cn_eq (by omega)
  have ec : cn s = cn σ + n := by omega
  have hk : (t 13) = (s 13) := funext (fun j => h2.1 13 j rfl rfl)
  have hv : (t 14) = (s 14) := funext (fun j => h2.1 14 j rfl rfl)
  have sm : ∀ j, cn σ ≤ j → j < cn σ + n → SameAt s t j := fun j h1 h2 => (b2 j (by omega)).1
  refine ⟨a1, fun j hj => ?_, n + m, by omega, by omega, ?_, by omega, fun S hS => ?_⟩
  · obtain ⟨x1, x2, x3⟩ := a2 j hj
    obtain ⟨y1, y2, y3⟩ := b2 j (by omega)
    exact ⟨⟨y1.1.trans x1.1, y1.2.trans x1.2⟩, y2.trans x2, y3.trans x3⟩
  · rw [csum_app, csum_same hv n _ sm, ← ec]
    omega
  · exact xr_app n _ m _ _ _ (xr_same hk n _ _ _ sm (a7 S hS)) (by rw [← ec]; exact b7 S hS)⟩
theorem grx_ctx {l' : Nat} (h : GRx σ s l' a b u w) (hl : l + e.length ≤ l') : GRx σ s l (a ++ e) (b ++ e) u w := ⟨h.1, h.2.1, fun c => by
  obtain ⟨h1, h2, n, h3, h4, h5, h6, h7⟩ := h.2.2 c
  refine ⟨h1, h2, n, h3, h4, h5, h6, fun S hS => ?_⟩
  rw [List.append_assoc, List.append_assoc]
  exact h7 (e ++ S) (by rw [List.length_append]; omega)⟩
theorem cb_grx {c : Int} (g : CBd σ c) (h : GRx σ s l a b u w) {c' : Int} (hu : c + u ≤ c') : CBd s c' := fun hw => by
  obtain ⟨h1, h2, n, h3, h4, h5, h6, h7⟩ := h.2.2 hw
  have := g h1
  omega
/-! its small methods -/
def ADV (σ s : St) : Prop := (s 3 1) = (σ 3 1) + 1 ∧ (s 3 3) = (σ 3 3) ∧ (s 3 4) = (σ 3 4) ∧ (∀ l a, GRx σ s l a a (-2) (-4)) ∧ PSo σ s ∧ (σ 3 3).toInt < 0
theorem sp_gadv {Q : St → Prop} (tk : TKc σ) (g : GA σ) (hk : 2 ≤ (σ 3 2).toInt) (k : ∀ s, ADV σ s → Q s) : wk_X3_advance σ Q := by
  have hw : (σ 3 3).toInt < 0 := by
    by_cases c : (σ 3 3).toInt < 0
    · exact c
    · have := g.2 (by omega)
      omega
  obtain ⟨⟨p1, p2⟩, p3, p4⟩ := g.1 hw
  have en : (ps σ : Int) = (σ 3 1).toInt := nt p1
  obtain ⟨t1, t2, t3⟩ := tk
  have r3 := t3 (ps σ) (by omega) (by rw [← p3]; exact hk)
  have e1 : ((σ 3 1) + (1 : Int32)).toInt = (σ 3 1).toInt + 1 := ad1 (by omega)
  unfold wk_X3_advance
  refine ⟨fun y => y = 1, ?_, False, fun f => f.elim, fun c => by omega, fun _ => ⟨fun c => by omega, fun _ => ⟨fun c => by omega, fun _ => rfl⟩⟩⟩
  rintro y - rfl
  refine ⟨fun c => absurd c (by decide), fun _ => ⟨⟨by omega, by omega⟩, k _ ?_⟩⟩
  have en2 : ((σ 3 1) + (1 : Int32)).toNatClampNeg = ps σ + 1 := by
    have := nt (x := (σ 3 1) + (1 : Int32)) (by omega)
    omega
  rw [en2]
  have q1 : ps (upC (upC σ 3 1 ((σ 3 1) + (1 : Int32))) 3 2 ((σ 13) (ps σ + 1))) = ps σ + 1 := en2
  have q2 : pl (upC (upC σ 3 1 ((σ 3 1) + (1 : Int32))) 3 2 ((σ 13) (ps σ + 1))) = ((σ 15) (ps σ + 1)).toInt := by
    unfold pl
    rw [q1]
    rfl
  have q3 : pl σ + 1 ≤ ((σ 15) (ps σ + 1)).toInt := r3.2.1
  refine ⟨rfl, rfl, rfl, fun l a => ⟨kp_f (kp_f kp_rf rfl) rfl, ⟨fun _ => ⟨⟨by show 0 ≤ ((σ 3 1) + (1 : Int32)).toInt; omega, by show ((σ 3 1) + (1 : Int32)).toInt < (σ 2 4).toInt; omega⟩, by rw [q1]; rfl, p4⟩, fun c => ?_⟩, fun _ => ⟨hw, fun _ _ => ⟨⟨rfl, rfl⟩, rfl, rfl⟩, 0, ?_, ?_, ?_, ?_, fun S _ => rfl⟩⟩, pso_k rfl rfl, hw⟩
  · have : 0 ≤ (σ 3 3).toInt := c
    omega
  · show (σ 3 4).toInt = (σ 3 4).toInt + 0
    omega
  · rw [q2]; omega
  · rw [q2]
    show ((0 : Nat) : Int) ≤ _
    omega
  · rw [q2]; omega
theorem sp_gfail {Q : St → Prop} (g : GA σ) (k : ∀ s, (∀ l a b u w, GRx σ s l a b u w) → PSo σ s → 0 ≤ (s 3 3).toInt → Q s) : wk_X3_fail σ Q := by
  unfold wk_X3_fail
  have i : ((-1 : Int32)).toInt = -1 := by decide
  refine ⟨fun c => k _ (fun l a b u w => grx_bad (kp_f kp_rf rfl) ⟨fun d => ?_, fun _ => i⟩ c) (pso_k rfl rfl) c, fun c => ?_⟩
  · have : (σ 3 3).toInt < 0 := d
    omega
  · have p := (g.1 c).1.1
    exact k _ (fun l a b u w => grx_bad (kp_f (kp_f kp_rf rfl) rfl) ⟨fun d => absurd (show (σ 3 1).toInt < 0 from d) (by omega), fun _ => i⟩ p) (pso_k rfl rfl) p
theorem sp_gexpect {x : Int32} {Q : St → Prop} (tk : TKc σ) (g : GA σ) (hx : 2 ≤ x.toInt) (k : ∀ s, (∀ l a, GRx σ s l a a (-2) (-4)) → PSo σ s → ((s 3 3).toInt < 0 → ADV σ s ∧ (σ 3 2).toInt = x.toInt) → Q s) : wk_X3_expect x σ Q := by
  unfold wk_X3_expect
  exact ⟨fun c => sp_gfail g (fun s r p bad => k s (fun l a => r l a a _ _) p (fun h => by omega)), fun c => sp_gadv tk g (by omega) (fun s r => k s r.2.2.2.1 r.2.2.2.2.1 (fun _ => ⟨r, c⟩))⟩
theorem sp_gaccept {x : Int32} {Q : Int32 → St → Prop} (tk : TKc σ) (g : GA σ) (hx : 2 ≤ x.toInt) (k0 : (σ 3 2).toInt ≠ x.toInt → Q 0 σ) (k1 : ∀ s, ADV σ s → (σ 3 2).toInt = x.toInt → Q 1 s) : wk_X3_accept x σ Q := by
  unfold wk_X3_accept
  refine ⟨fun y => (y = 0 ∧ (σ 3 2).toInt ≠ x.toInt) ∨ (y = 1 ∧ (σ 3 2).toInt = x.toInt), ?_, fun c => Or.inl ⟨rfl, c⟩, fun c => Or.inr ⟨rfl, c⟩⟩
  rintro y - (⟨rfl, c⟩ | ⟨rfl, c⟩)
  · exact ⟨fun _ => k0 c, fun e => absurd rfl e⟩
  · exact ⟨fun e => absurd e (by decide), fun _ => sp_gadv tk g (by omega) (fun s r => k1 s r c)⟩
theorem sp_gdeeper {x : Int32} {Q : Int32 → St → Prop} (tk : TKc σ) (g : GA σ) (hk : 2 ≤ (σ 3 2).toInt) (k0 : ∀ s, (∀ l a b u w, GRx σ s l a b u w) → PSo σ s → Q 0 s) (k1 : ∀ s, x.toInt < 25 → ADV σ s → Q 1 s) : wk_X3_deeper x σ Q := by
  unfold wk_X3_deeper
  refine ⟨fun y => y = 0 ∨ (y = 1 ∧ x.toInt < 25), ?_, fun _ => Or.inl rfl, fun c => Or.inr ⟨rfl, c⟩⟩
  rintro y - (rfl | ⟨rfl, c⟩)
  · exact ⟨fun _ => sp_gfail g (fun s r p bad => k0 s r p), fun e => absurd rfl e⟩
  · exact ⟨fun e => absurd e (by decide), fun _ => sp_gadv tk g hk (fun s r => k1 s c r)⟩
def adS (σ : St) (a1 a2 a3 a4 : Int32) : St := upC (upC (upC (upC (upC σ 18 (σ 3 4).toNatClampNeg a1) 19 (σ 3 4).toNatClampNeg a2) 20 (σ 3 4).toNatClampNeg a3) 21 (σ 3 4).toNatClampNeg a4) 3 4 ((σ 3 4) + (1 : Int32))
/-- a step is put: as it is where nothing failed -/
def ADD (σ s : St) (a1 a2 a3 a4 : Int32) : Prop := KG σ s ∧ GA s ∧ PSo σ s ∧ (s 3 3) = (σ 3 3) ∧ (s 3 1) = (σ 3 1) ∧ (s 3 2) = (σ 3 2) ∧ ((σ 3 3).toInt < 0 → (s 3 4).toInt = (σ 3 4).toInt + 1 ∧ act s (cn σ) = a1.toInt ∧ (s 19) (cn σ) = a2 ∧ (s 20) (cn σ) = a3 ∧ (s 21) (cn σ) = a4 ∧ ∀ j : Nat, j ≠ cn σ → SameAt σ s j ∧ (s 20) j = (σ 20) j ∧ (s 21) j = (σ 21) j)
theorem sp_gadd0 {a1 a2 a3 a4 : Int32} {Q : Int32 → St → Prop} (tk : TKc σ) (g : GA σ) (cb : CBd σ 90) (k : ∀ v s, ADD σ s a1 a2 a3 a4 → ((σ 3 3).toInt < 0 → v = (σ 3 4)) → Q v s) : wk_X3_add a1 a2 a3 a4 σ Q := by
  have bad : ∀ v, 0 ≤ (σ 3 3).toInt → Q v σ := fun v h => k v σ ⟨kp_rf, g, pso_rf, rfl, rfl, rfl, fun c => absurd c (by omega)⟩ (fun c => absurd c (by omega))
  have ok : (σ 3 3).toInt < 0 → 0 ≤ (σ 3 4).toInt ∧ (σ 3 4).toInt < 32100 := fun h => by
    have := pl_rng tk g h
    have := cb h
    exact ⟨(g.1 h).2.2, by omega⟩
  have fail : ¬ (0 ≤ (σ 3 4).toInt ∧ (σ 3 4).toInt < 32100) → Q (σ 3 4) σ := fun h => bad _ (by
    by_cases c : (σ 3 3).toInt < 0
    · exact absurd (ok c) h
    · omega)
  unfold wk_X3_add
  refine ⟨fun c => fail (by omega), fun c0 => ⟨fun c => fail (by omega), fun c1 => ⟨fun c => fail (by omega), fun _ => ⟨fun c => fail (by omega), fun _ => ⟨fun c => fail (by omega), fun _ => ⟨⟨c0, c1⟩, ⟨c0, c1⟩, ⟨c0, c1⟩, ⟨c0, c1⟩, ?_⟩⟩⟩⟩⟩⟩
  have e1 : ((σ 3 4) + (1 : Int32)).toInt = (σ 3 4).toInt + 1 := ad1 (by omega)
  show Q _ (adS σ a1 a2 a3 a4)
  have r18 : ∀ j, adS σ a1 a2 a3 a4 18 j = if j = cn σ then a1 else σ 18 j := fun j => by
    unfold adS cn
    simp only [rdC, Nat.reduceEqDiff, if_true, if_false]
  have r19 : ∀ j, adS σ a1 a2 a3 a4 19 j = if j = cn σ then a2 else σ 19 j := fun j => by
    unfold adS cn
    simp only [rdC, Nat.reduceEqDiff, if_true, if_false]
  have r20 : ∀ j, adS σ a1 a2 a3 a4 20 j = if j = cn σ then a3 else σ 20 j := fun j => by
    unfold adS cn
    simp only [rdC, Nat.reduceEqDiff, if_true, if_false]
  have r21 : ∀ j, adS σ a1 a2 a3 a4 21 j = if j = cn σ then a4 else σ 21 j := fun j => by
    unfold adS cn
    simp only [rdC, Nat.reduceEqDiff, if_true, if_false]
  refine k _ _ ⟨kp_f (kp_a (kp_a (kp_a (kp_a kp_rf rfl) rfl) rfl) rfl) rfl, ⟨fun h => ?_, fun h => g.2 h⟩, pso_k rfl rfl, rfl, rfl, rfl, fun h => ⟨e1, ?_, ?_, ?_, ?_, fun j hj => ⟨⟨?_, ?_⟩, ?_, ?_⟩⟩⟩ (fun _ => rfl)
  · obtain ⟨p1, p3, p4⟩ := g.1 h
    exact ⟨p1, p3, by show 0 ≤ ((σ 3 4) + (1 : Int32)).toInt; omega⟩
  · unfold act
    rw [r18, if_pos rfl]
  · rw [r19, if_pos rfl]
  · rw [r20, if_pos rfl]
  · rw [r21, if_pos rfl]
  · rw [r18, if_neg hj]
  · rw [r19, if_neg hj]
  · rw [r20, if_neg hj]
  · rw [r21, if_neg hj]
theorem add_pl {a1 a2 a3 a4 : Int32} (h : ADD σ s a1 a2 a3 a4) : pl s = pl σ := by
  have e15 : (s 15) = (σ 15) := funext (fun j => h.1 15 j rfl rfl)
  unfold pl ps
  rw [h.2.2.2.2.1, e15]
/-- of an expression -/
theorem add_grx {a1 a2 a3 a4 : Int32} (h : ADD σ s a1 a2 a3 a4) (g : GA σ) (hd : (σ 3 3).toInt < 0 → ∀ S : List It, S.length ≤ l → dx a1.toInt (tkx σ a2) (a ++ S) (b ++ S)) (hc : (([0, 2, 3, 2, 0, 0, 3, 2, 2, 2, 3, 2, 0, 2, 2, 2, 0] : List Nat).getD a1.toInt.toNat 0 : Int) ≤ w) (h17 : a1.toInt ≤ 16) : GRx σ s l a b 1 w := ⟨h.1, h.2.1, fun hw => by
  have ep := add_pl h
  obtain ⟨h1, h2, h3, h4, h5, h6, h7⟩ := h
  have hw' : (σ 3 3).toInt < 0 := by rw [← h4]; exact hw
  obtain ⟨c1, c2, c3, c4, c5, c6⟩ := h7 hw'
  have p4 := (g.1 hw').2.2
  have ec := cn_eq p4
  have e13 : (s 13) = (σ 13) := funext (fun j => h1 13 j rfl rfl)
  refine ⟨hw', fun j hj => c6 j (by omega), 1, by omega, by omega, ?_, by omega, fun S hS => ⟨b ++ S, ?_, rfl⟩⟩
  · show ((cst s (cn σ) + 0 : Nat) : Int) ≤ _
    have e : cst s (cn σ) = ([0, 2, 3, 2, 0, 0, 3, 2, 2, 2, 3, 2, 0, 2, 2, 2, 0] : List Nat).getD a1.toInt.toNat 0 := by
      unfold cst
      rw [c2, if_neg (by omega)]
      have : ∀ m, m ≤ 16 → ([0, 2, 3, 2, 0, 0, 3, 2, 2, 2, 3, 2, 0, 2, 2, 2, 0, 0, 0, 0, 0, 0, 1, 2, 2, 0, 0, 4, 2, 2, 0, 2, 0, 4, 4, 2, 2, 2, 3, 0, 0, 0, 0, 5, 3, 0, 3, 4, 0, 3] : List Nat).getD m 0 = ([0, 2, 3, 2, 0, 0, 3, 2, 2, 2, 3, 2, 0, 2, 2, 2, 0] : List Nat).getD m 0 := by decide
      rw [this _ (by omega)]
      omega
    rw [e]
    omega
  · rw [c2, c3]
    unfold tkx
    rw [e13]
    exact hd hw' S hS⟩
end GRS
end

section
/-! the grammar: expressions -/
abbrev KX1 : Type := Int32 → St → (St → Prop) → Prop
/-- a method of the group at a depth: it puts an operand -/
def SPE (K : KX1) (d l p : Nat) : Prop := ∀ (x : Int32) (σ : St) (Q : St → Prop), x.toInt = d → TKc σ → GA σ → CBd σ 70 → (0 ≤ (σ 3 9).toInt ∧ (σ 3 9).toInt ≤ p) → (∀ s, GRx σ s l [] [iV] (-1) (-1) → PSo σ s → Q s) → K x σ Q
def SPC (K : Int32 → KX1) (d l p : Nat) : Prop := ∀ (nm x : Int32) (σ : St) (Q : St → Prop), x.toInt = d → TKc σ → GA σ → CBd σ 70 → (0 ≤ (σ 3 9).toInt ∧ (σ 3 9).toInt ≤ p) → (σ 3 2).toInt = 20 → ((σ 3 3).toInt < 0 → tkx σ nm = 2) → (∀ s, GRx σ s l [] [iV] 1 3 → PSo σ s → Q s) → K nm x σ Q
def SPK (K : KX1) (d l p : Nat) : Prop := ∀ (x : Int32) (σ : St) (Q : St → Prop), x.toInt = d → TKc σ → GA σ → CBd σ 70 → (0 ≤ (σ 3 9).toInt ∧ (σ 3 9).toInt ≤ p) → (σ 3 2).toInt = 20 → (∀ s, GRx σ s l [] [iV] (-1) (-1) → PSo σ s → Q s) → K x σ Q
section GEX
variable {σ s t : St} {l p d l' p' : Nat} {Ka : Int32 → KX1} {Kb Kc Kd Ke Kf Kg Kh : KX1}
theorem cb_le {c c' : Int} (h : CBd σ c) (hc : c ≤ c') : CBd σ c' := fun hw => by have := h hw; omega
theorem pen_of {n : Nat} (h : PSo σ s) (hp : 0 ≤ (σ 3 9).toInt ∧ (σ 3 9).toInt ≤ n) : 0 ≤ (s 3 9).toInt ∧ (s 3 9).toInt ≤ n := by rw [h.1]; exact hp
theorem adv_g {l : Nat} {a : List It} (h : ADV σ s) : GRx σ s l a a (-2) (-4) := h.2.2.2.1 l a
theorem tkx_pos (g : GA σ) (tk : TKc σ) (hw : (σ 3 3).toInt < 0) : tkx σ (σ 3 1) = (σ 3 2).toInt := by
  obtain ⟨⟨p1, p2⟩, p3, p4⟩ := g.1 hw
  have en : (ps σ : Int) = (σ 3 1).toInt := nt p1
  unfold tkx
  rw [p3, atv_at (j := ps σ) en.symm (by have := tk.1.2; omega)]
/-- a sign that was met before: its kind -/
theorem tkx_kg (k : KG σ s) (x : Int32) : tkx s x = tkx σ x := by
  have e13 : (s 13) = (σ 13) := funext (fun j => k 13 j rfl rfl)
  unfold tkx
  rw [e13]
theorem grx_w {a b : List It} {u w : Int} (h : GRx σ s l a b u w) (hw : (s 3 3).toInt < 0) : (σ 3 3).toInt < 0 := (h.2.2 hw).1
/-- a step behind a stretch -/
theorem grx_add {σ0 : St} {a b c : List It} {u w w' : Int} {a1 a2 a3 a4 : Int32} (g0 : GA σ0) (h : GRx σ0 σ l a b u w) (r : ADD σ s a1 a2 a3 a4) (hd : (σ 3 3).toInt < 0 → ∀ S : List It, S.length ≤ l → dx a1.toInt (tkx σ a2) (b ++ S) (c ++ S)) (hc : (([0, 2, 3, 2, 0, 0, 3, 2, 2, 2, 3, 2, 0, 2, 2, 2, 0] : List Nat).getD a1.toInt.toNat 0 : Int) ≤ w') (h17 : a1.toInt ≤ 16) : GRx σ0 s l a c (u + 1) (w + w') := grx_tr g0 h (add_grx r h.2.1 hd hc h17)
theorem sp_gexpr (hc : SPE Kg d l p) (he : d + 1 ≤ 25 → SPE Kh (d + 1) l' p') (hl : l + 1 ≤ l') (hp' : p ≤ p') : SPE (wk_X3_expression Ka Kb Kc Kd Ke Kf Kg Kh) d l p := fun x σ Q hx tk ga cb hp k => by
  unfold wk_X3_expression
  refine hc x σ _ hx tk ga cb hp (fun s2 r2 p2 => ⟨fun _ => k s2 r2 p2, fun c1 => ⟨fun _ => k s2 r2 p2, fun c2 => ?_⟩⟩)
  have tk2 := tk_kg r2.1 tk
  refine sp_gdeeper tk2 r2.2.1 (by omega) (fun s3 r3 p3 => ⟨fun _ => k s3 (grx_wk (grx_tr ga r2 (r3 l [iV] [iV] 0 0)) (Nat.le_refl _) (by omega) (by omega)) (pso_tr p2 p3), fun e => absurd rfl e⟩) (fun s3 d3 a3 => ⟨fun e => absurd e (by decide), fun _ => ?_⟩)
  have r3 := grx_tr ga r2 (adv_g a3)
  have q3 := pso_tr p2 a3.2.2.2.2.1
  have tk3 := tk_kg r3.1 tk
  refine sp_gadd0 tk3 r3.2.1 (cb_grx cb r3 (by omega)) (fun v4 s4 ad4 _ => ?_)
  have r4 := grx_add (c := [iL (s2 3 2).toInt]) (w' := 2) ga r3 ad4 (fun hw S hS => by
    rw [tkx_kg (adv_g (l := 0) (a := []) a3).1, tkx_pos r2.2.1 tk2 a3.2.2.2.2.2]
    exact Or.inr (Or.inr (Or.inr (Or.inr (Or.inl ⟨by decide, Or.inr (Or.inl ⟨by omega, by omega⟩), S, rfl, rfl⟩))))) (by decide) (by decide)
  have q4 := pso_tr q3 ad4.2.2.1
  have tk4 := tk_kg r4.1 tk
  refine he (by omega) _ s4 _ (by rw [ad1 (by omega)]; omega) tk4 r4.2.1 (cb_grx cb r4 (by omega)) ⟨(pen_of q4 hp).1, by have := (pen_of q4 hp).2; omega⟩ (fun s5 r5' p5 => ?_)
  have r5 := grx_tr ga r4 (grx_ctx (e := [iL (s2 3 2).toInt]) r5' hl)
  have q5 := pso_tr q4 p5
  have tk5 := tk_kg r5.1 tk
  refine sp_gadd0 tk5 r5.2.1 (cb_grx cb r5 (by omega)) (fun v6 s6 ad6 _ => k s6 ?_ (pso_tr q5 ad6.2.2.1))
  exact grx_wk (grx_add (c := [iV]) (w' := 2) ga r5 ad6 (fun hw S hS => by
    rw [tkx_kg (kp_tr (kp_tr (adv_g (l := 0) (a := []) a3).1 ad4.1) r5'.1), tkx_pos r2.2.1 tk2 a3.2.2.2.2.2]
    exact Or.inr (Or.inr (Or.inr (Or.inr (Or.inr (Or.inr (Or.inl ⟨by decide, ⟨by omega, by omega⟩, S, rfl, rfl⟩))))))) (by decide) (by decide)) (Nat.le_refl _) (by omega) (by omega)
theorem sp_gchoice (hb : SPE Kf d l p) (he : d + 1 ≤ 25 → SPE Kh (d + 1) l' p') (hc : d + 1 ≤ 25 → SPE Kg (d + 1) l' p') (hl : l + 2 ≤ l') (hp' : p ≤ p') : SPE (wk_X3_choice Ka Kb Kc Kd Ke Kf Kg Kh) d l p := fun x σ Q hx tk ga cb hp k => by
  unfold wk_X3_choice
  refine hb x σ _ hx tk ga cb hp (fun s2 r2 p2 => ⟨fun _ => k s2 r2 p2, fun c1 => ?_⟩)
  have tk2 := tk_kg r2.1 tk
  refine sp_gdeeper tk2 r2.2.1 (by omega) (fun s3 r3 p3 => ⟨fun _ => k s3 (grx_wk (grx_tr ga r2 (r3 l [iV] [iV] 0 0)) (Nat.le_refl _) (by omega) (by omega)) (pso_tr p2 p3), fun e => absurd rfl e⟩) (fun s3 d3 a3 => ⟨fun e => absurd e (by decide), fun _ => ?_⟩)
  have r3 := grx_tr ga r2 (adv_g a3)
  have q3 := pso_tr p2 a3.2.2.2.2.1
  have tk3 := tk_kg r3.1 tk
  refine sp_gadd0 tk3 r3.2.1 (cb_grx cb r3 (by omega)) (fun v4 s4 ad4 _ => ?_)
  have r4 := grx_add (c := [iQ]) (w' := 2) ga r3 ad4 (fun hw S hS => Or.inr (Or.inr (Or.inr (Or.inr (Or.inr (Or.inr (Or.inr (Or.inr (Or.inr (Or.inl ⟨by decide, S, rfl, rfl⟩)))))))))) (by decide) (by decide)
  have q4 := pso_tr q3 ad4.2.2.1
  have tk4 := tk_kg r4.1 tk
  refine he (by omega) _ s4 _ (by rw [ad1 (by omega)]; omega) tk4 r4.2.1 (cb_grx cb r4 (by omega)) ⟨(pen_of q4 hp).1, by have := (pen_of q4 hp).2; omega⟩ (fun s5 r5' p5 => ?_)
  have r5 := grx_tr ga r4 (grx_ctx (l := l) (e := [iQ]) r5' (by show l + 1 ≤ l'; omega))
  have q5 := pso_tr q4 p5
  have tk5 := tk_kg r5.1 tk
  refine sp_gexpect tk5 r5.2.1 (by decide) (fun s6 r6' p6 _ => ?_)
  have r6 := grx_tr ga r5 (r6' l _)
  have q6 := pso_tr q5 p6
  have tk6 := tk_kg r6.1 tk
  refine sp_gadd0 tk6 r6.2.1 (cb_grx cb r6 (by omega)) (fun v7 s7 ad7 _ => ?_)
  have r7 := grx_add (c := [iM, iC]) (w' := 2) ga r6 ad7 (fun hw S hS => Or.inr (Or.inr (Or.inr (Or.inr (Or.inr (Or.inr (Or.inr (Or.inr (Or.inr (Or.inr (Or.inl ⟨by decide, S, rfl, rfl⟩))))))))))) (by decide) (by decide)
  have q7 := pso_tr q6 ad7.2.2.1
  have tk7 := tk_kg r7.1 tk
  refine hc (by omega) _ s7 _ (by rw [ad1 (by omega)]; omega) tk7 r7.2.1 (cb_grx cb r7 (by omega)) ⟨(pen_of q7 hp).1, by have := (pen_of q7 hp).2; omega⟩ (fun s8 r8' p8 => ?_)
  have r8 := grx_tr ga r7 (grx_ctx (e := [iM, iC]) r8' hl)
  have q8 := pso_tr q7 p8
  have tk8 := tk_kg r8.1 tk
  refine sp_gadd0 tk8 r8.2.1 (cb_grx cb r8 (by omega)) (fun v9 s9 ad9 _ => k s9 ?_ (pso_tr q8 ad9.2.2.1))
  exact grx_wk (grx_add (c := [iV]) (w' := 0) ga r8 ad9 (fun hw S hS => Or.inr (Or.inr (Or.inr (Or.inr (Or.inr (Or.inr (Or.inr (Or.inr (Or.inr (Or.inr (Or.inr ⟨by decide, S, rfl, rfl⟩))))))))))) (by decide) (by decide)) (Nat.le_refl _) (by omega) (by omega)
theorem sp_gstars {Q : Int32 → St → Prop} (tk : TKc σ) (ga : GA σ) (k : ∀ v s, (∀ l a, GRx σ s l a a 0 0) → PSo σ s → (0 ≤ v.toInt ∧ v.toInt ≤ 5) → ((s 3 3).toInt < 0 → (s 3 4) = (σ 3 4)) → Q v s) : wk_X3_stars σ Q := by
  unfold wk_X3_stars
  refine ⟨fun n x s => (x.toInt = 5 - (n : Int) ∧ 0 ≤ x.toInt) ∧ (∀ l a, GRx σ s l a a 0 0) ∧ PSo σ s ∧ ((s 3 3).toInt < 0 → (s 3 4) = (σ 3 4)), ⟨5, by decide, fun l a => grx_rf ga, pso_rf, fun _ => rfl⟩, ?_⟩
  rintro n x s ⟨⟨q1, q2⟩, r, p, ec⟩
  have g := (r 0 []).2.1
  have tk2 := tk_kg (r 0 []).1 tk
  refine ⟨True, fun _ => ⟨fun _ => k x s r p ⟨q2, by omega⟩ ec, fun _ => sp_gfail g (fun s2 r2 p2 bad => k x s2 (fun l a => grx_wk (grx_tr ga (r l a) (r2 l a a 0 0)) (Nat.le_refl _) (by omega) (by omega)) (pso_tr p p2) ⟨q2, by omega⟩ (fun h => absurd h (by omega)))⟩, fun _ => trivial, fun c => ⟨fun _ => trivial, fun c2 => sp_gadv tk2 g (by omega) (fun s2 a2 => ?_)⟩⟩
  have e := ad1 (x := x) (by omega)
  exact ⟨n - 1, by omega, ⟨by rw [e]; omega, by omega⟩, fun l a => grx_wk (grx_tr ga (r l a) (adv_g a2)) (Nat.le_refl _) (by omega) (by omega), pso_tr p a2.2.2.2.2.1, fun h => a2.2.2.1.trans (ec (by rw [a2.2.1] at h; exact h))⟩
theorem sp_gcast (hu : d + 1 ≤ 25 → SPE Ke (d + 1) l' p') (hl : l ≤ l') (hp' : p ≤ p') : SPK (wk_X3_cast Ka Kb Kc Kd Ke Kf Kg Kh) d l p := fun x σ Q hx tk ga cb hp hk k => by
  unfold wk_X3_cast
  refine sp_gdeeper tk ga (by omega) (fun s3 r3 p3 => ⟨fun _ => k s3 (r3 _ _ _ _ _) p3, fun e => absurd rfl e⟩) (fun s3 d3 a3 => ⟨fun e => absurd e (by decide), fun _ => ?_⟩)
  have r3 := adv_g (l := l) (a := []) a3
  have q3 := a3.2.2.2.2.1
  refine sp_gexpect (tk_kg r3.1 tk) r3.2.1 (by decide) (fun s4 r4' p4 _ => ?_)
  have r4 := grx_tr ga r3 (r4' l _)
  have q4 := pso_tr q3 p4
  refine sp_gstars (tk_kg r4.1 tk) r4.2.1 (fun v5 s5 r5' p5 _ _ => ?_)
  have r5 := grx_tr ga r4 (r5' l _)
  have q5 := pso_tr q4 p5
  refine sp_gexpect (tk_kg r5.1 tk) r5.2.1 (by decide) (fun s6 r6' p6 _ => ?_)
  have r6 := grx_tr ga r5 (r6' l _)
  have q6 := pso_tr q5 p6
  refine hu (by omega) _ s6 _ (by rw [ad1 (by omega)]; omega) (tk_kg r6.1 tk) r6.2.1 (cb_grx cb r6 (by omega)) ⟨(pen_of q6 hp).1, by have := (pen_of q6 hp).2; omega⟩ (fun s7 r7' p7 => ?_)
  have r7 := grx_tr ga r6 (grx_wk r7' hl (Int.le_refl _) (Int.le_refl _))
  have q7 := pso_tr q6 p7
  refine sp_gadd0 (tk_kg r7.1 tk) r7.2.1 (cb_grx cb r7 (by omega)) (fun v8 s8 ad8 _ => k s8 ?_ (pso_tr q7 ad8.2.2.1))
  exact grx_wk (grx_add (c := [iV]) (w' := 0) ga r7 ad8 (fun hw S hS => Or.inr (Or.inr (Or.inr (Or.inr (Or.inr (Or.inr (Or.inr (Or.inr (Or.inl ⟨by decide, S, rfl, rfl⟩))))))))) (by decide) (by decide)) (Nat.le_refl _) (by omega) (by omega)
theorem sp_gunary (hb : SPE Kc d l p) (hk : SPK Kd d l p) (hu : d + 1 ≤ 25 → SPE Ke (d + 1) l' p') (hl : l ≤ l') (hp' : p ≤ p') : SPE (wk_X3_unary Ka Kb Kc Kd Ke Kf Kg Kh) d l p := fun x σ Q hx tk ga cb hp k => by
  unfold wk_X3_unary
  refine ⟨True, fun _ => ⟨True, fun _ => hb x σ _ hx tk ga cb hp k, fun _ => trivial, fun c => ⟨fun _ => trivial, fun _ => hk x σ _ hx tk ga cb hp c k⟩⟩, 2 ≤ (σ 3 2).toInt, fun c => ?_, ?_⟩
  · refine sp_gdeeper tk ga c (fun s3 r3 p3 => ⟨fun _ => k s3 (r3 _ _ _ _ _) p3, fun e => absurd rfl e⟩) (fun s3 d3 a3 => ⟨fun e => absurd e (by decide), fun _ => ?_⟩)
    have r3 := adv_g (l := l) (a := []) a3
    have q3 := a3.2.2.2.2.1
    refine hu (by omega) _ s3 _ (by rw [ad1 (by omega)]; omega) (tk_kg r3.1 tk) r3.2.1 (cb_grx cb r3 (by omega)) ⟨(pen_of q3 hp).1, by have := (pen_of q3 hp).2; omega⟩ (fun s7 r7' p7 => ?_)
    have r7 := grx_tr ga r3 (grx_wk r7' hl (Int.le_refl _) (Int.le_refl _))
    have q7 := pso_tr q3 p7
    refine sp_gadd0 (tk_kg r7.1 tk) r7.2.1 (cb_grx cb r7 (by omega)) (fun v8 s8 ad8 _ => k s8 ?_ (pso_tr q7 ad8.2.2.1))
    exact grx_wk (grx_add (c := [iV]) (w' := 2) ga r7 ad8 (fun hw S hS => Or.inr (Or.inr (Or.inr (Or.inr (Or.inr (Or.inr (Or.inr (Or.inr (Or.inl ⟨by decide, S, rfl, rfl⟩))))))))) (by decide) (by decide)) (Nat.le_refl _) (by omega) (by omega)
  · repeat' (first | exact trivial | omega | (intro c; omega) | apply And.intro | intro _)
theorem sp_gprimary (hc : SPC Ka d l p) (he : d + 1 ≤ 25 → SPE Kh (d + 1) l' p') (hl : l ≤ l') (hl5 : l < 500) (hp' : p ≤ p') : SPE (wk_X3_primary Ka Kb Kc Kd Ke Kf Kg Kh) d l p := fun x σ Q hx tk ga cb hp k => by
  have leaf : ∀ y1 : Int32, (y1 = 1 ∨ y1 = 2) → 2 ≤ (σ 3 2).toInt → wk_X3_add y1 (σ 3 1) (0 : Int32) (0 : Int32) σ (fun v69 s69 => wk_X3_advance s69 (fun s74 => Q s74)) := fun y1 hy hk => by
    refine sp_gadd0 tk ga (cb_le cb (by omega)) (fun v2 s2 ad2 _ => ?_)
    have y3 : y1.toInt = 1 ∨ y1.toInt = 2 := by rcases hy with e | e <;> subst e <;> decide
    have r2 := add_grx (l := l) (a := []) (b := [iV]) (w := 3) ad2 ga (fun hw S hS => Or.inl ⟨by omega, by show S.length < 500; omega, rfl⟩) (by rcases hy with e | e <;> subst e <;> decide) (by omega)
    refine sp_gadv (tk_kg r2.1 tk) r2.2.1 (by rw [ad2.2.2.2.2.2.1]; exact hk) (fun s3 a3 => k s3 ?_ (pso_tr ad2.2.2.1 a3.2.2.2.2.1))
    exact grx_wk (grx_tr ga r2 (adv_g a3)) (Nat.le_refl _) (by omega) (by omega)
  unfold wk_X3_primary
  refine ⟨2 ≤ (σ 3 2).toInt, fun c => ⟨fun y => y = 1 ∨ y = 2, fun y hy => leaf y hy c, fun _ => Or.inr rfl, fun _ => Or.inl rfl⟩, fun c => ?_, fun _ => ⟨fun c => by omega, fun _ => ⟨fun c => by omega, fun _ => ⟨fun c => ?_, fun _ => ?_⟩⟩⟩⟩
  · refine sp_gadv tk ga (by omega) (fun s2 a2 => ⟨fun c2 => ?_, fun c2 => ?_⟩)
    · have r2 := adv_g (l := l) (a := []) a2
      refine sp_gadd0 (tk_kg r2.1 tk) r2.2.1 (cb_grx cb r2 (by omega)) (fun v3 s3 ad3 _ => k s3 ?_ (pso_tr a2.2.2.2.2.1 ad3.2.2.1))
      exact grx_wk (grx_add (c := [iV]) (w' := 2) ga r2 ad3 (fun hw S hS => Or.inl ⟨by decide, by show S.length < 500; omega, rfl⟩) (by decide) (by decide)) (Nat.le_refl _) (by omega) (by omega)
    · have r2 := adv_g (l := l) (a := []) a2
      refine hc _ x s2 _ hx (tk_kg r2.1 tk) r2.2.1 (cb_grx cb r2 (by omega)) (pen_of a2.2.2.2.2.1 hp) c2 (fun _ => by rw [tkx_kg r2.1, tkx_pos ga tk a2.2.2.2.2.2]; exact c) (fun s3 r3 p3 => k s3 ?_ (pso_tr a2.2.2.2.2.1 p3))
      exact grx_wk (grx_tr ga r2 r3) (Nat.le_refl _) (by omega) (by omega)
  · refine sp_gdeeper tk ga (by omega) (fun s3 r3 p3 => ⟨fun _ => k s3 (r3 _ _ _ _ _) p3, fun e => absurd rfl e⟩) (fun s3 d3 a3 => ⟨fun e => absurd e (by decide), fun _ => ?_⟩)
    have r3 := adv_g (l := l) (a := []) a3
    have q3 := a3.2.2.2.2.1
    refine he (by omega) _ s3 _ (by rw [ad1 (by omega)]; omega) (tk_kg r3.1 tk) r3.2.1 (cb_grx cb r3 (by omega)) ⟨(pen_of q3 hp).1, by have := (pen_of q3 hp).2; omega⟩ (fun s4 r4' p4 => ?_)
    have r4 := grx_tr ga r3 (grx_wk r4' hl (Int.le_refl _) (Int.le_refl _))
    refine sp_gexpect (tk_kg r4.1 tk) r4.2.1 (by decide) (fun s5 r5' p5 _ => k s5 ?_ (pso_tr (pso_tr q3 p4) p5))
    exact grx_wk (grx_tr ga r4 (r5' l _)) (Nat.le_refl _) (by omega) (by omega)
  · exact sp_gfail ga (fun s r p _ => k s (r _ _ _ _ _) p)
end GEX
end

section
/-! the grammar: signs that wait, brackets behind, calls -/
def OPc (σ : St) (B : Nat) : List Int → Prop
  | [] => True
  | x :: O => tkx σ ((σ 22) (B + O.length)) = x ∧ (41 ≤ x ∧ x ≤ 58) ∧ (O.length : Int) + 1 ≤ lvl x ∧ OPc σ B O
def gs (O : List Int) : List It := iV :: O.map iL
theorem lvl_le : ∀ x : Int, 0 ≤ lvl x ∧ lvl x ≤ 10 ∧ (41 ≤ x → x ≤ 58 → 1 ≤ lvl x) := fun x => by
  have h : ∀ n, n < 18 → 1 ≤ (gC 0 n).toInt ∧ (gC 0 n).toInt ≤ 10 := by decide
  unfold lvl
  by_cases c : 41 ≤ x ∧ x ≤ 58
  · rw [if_pos c]
    have := h (x - 41).toNat (by omega)
    exact ⟨by omega, by omega, fun _ _ => by omega⟩
  · rw [if_neg c]
    exact ⟨by omega, by omega, fun h1 h2 => absurd ⟨h1, h2⟩ c⟩
section GBI
variable {σ s t : St} {l p d l' p' B : Nat} {Ka : Int32 → KX1} {Kb Kc Kd Ke Kf Kg Kh : KX1}
theorem sp_glevelOf {x : Int32} {Q : Int32 → Prop} (hx : -2000 ≤ x.toInt ∧ x.toInt ≤ 2000000000) (k : ∀ v : Int32, v.toInt = lvl x.toInt → Q v) : wk_X3_levelOf x σ Q := by
  have e : (x - (41 : Int32)).toInt = x.toInt - 41 := sbc (by decide) (by omega) (by omega)
  unfold wk_X3_levelOf
  refine ⟨fun c => k _ ?_, fun c => ⟨fun c2 => k _ ?_, fun c2 => ⟨⟨c, c2⟩, k _ ?_⟩⟩⟩
  · unfold lvl
    rw [if_neg (by omega)]
    rfl
  · unfold lvl
    rw [if_neg (by omega)]
    rfl
  · have en := nt c
    have e2 : (x - (41 : Int32)).toNatClampNeg = (x.toInt - 41).toNat := by omega
    unfold lvl
    rw [if_pos (by omega), e2]
theorem grx_k {a b : List It} {u w : Int} (h : GRx σ s l a b u w) (k : Kp [(3, 9)] [22, 23] s t) : GRx σ t l a b u w := by
  have e1 : (t 3 1) = (s 3 1) := k 3 1 rfl rfl
  have e2 : (t 3 2) = (s 3 2) := k 3 2 rfl rfl
  have e3 : (t 3 3) = (s 3 3) := k 3 3 rfl rfl
  have e4 : (t 3 4) = (s 3 4) := k 3 4 rfl rfl
  have e13 : (t 13) = (s 13) := funext (fun j => k 13 j rfl rfl)
  have e14 : (t 14) = (s 14) := funext (fun j => k 14 j rfl rfl)
  have e15 : (t 15) = (s 15) := funext (fun j => k 15 j rfl rfl)
  have e5 : (t 2 4) = (s 2 4) := k 2 4 rfl rfl
  have sm : ∀ j, SameAt s t j := fun j => ⟨k 18 j rfl rfl, k 19 j rfl rfl⟩
  have ep : pl t = pl s := by unfold pl ps; rw [e1, e15]
  obtain ⟨h1, h2, h3⟩ := h
  refine ⟨kp_tr h1 (kp_sub k rfl rfl), ?_, fun hw => ?_⟩
  · unfold GA ps
    rw [e1, e2, e3, e4, e5, e13]
    exact h2
  · rw [e3] at hw
    obtain ⟨a1, a2, n, a3, a4, a5, a6, a7⟩ := h3 hw
    refine ⟨a1, fun j hj => ?_, n, by rw [e4]; exact a3, by rw [ep]; exact a4, by rw [ep, csum_same e14 n _ (fun j _ _ => sm j)]; exact a5, by rw [ep]; exact a6, fun S hS => xr_same e13 n _ _ _ (fun j _ _ => sm j) (a7 S hS)⟩
    obtain ⟨b1, b2, b3⟩ := a2 j hj
    exact ⟨⟨(sm j).1.trans b1.1, (sm j).2.trans b1.2⟩, (k 20 j rfl rfl).trans b2, (k 21 j rfl rfl).trans b3⟩
theorem opc_k (hk : (s 13) = (σ 13)) : ∀ O : List Int, (∀ j, j < B + O.length → (s 22) j = (σ 22) j) → OPc σ B O → OPc s B O
  | [] => fun _ _ => trivial
  | x :: O => fun e h => by
    obtain ⟨h1, h2, h3, h4⟩ := h
    refine ⟨?_, h2, h3, opc_k hk O (fun j hj => e j (by show j < B + (O.length + 1); omega)) h4⟩
    rw [e _ (by show B + O.length < B + (O.length + 1); omega)]
    unfold tkx at h1 ⊢
    rw [hk]
    exact h1
theorem sp_gsettle {a v : Int32} {O : List Int} {σ0 : St} {u w : Int} {Q : St → Prop} (tk : TKc σ0) (g0 : GA σ0) (cb : CBd σ0 70) (ha : a.toInt = B) (hB : B + O.length ≤ 400) (r : GRx σ0 σ l [] (gs O) (u - O.length) (w - 2 * O.length)) (hu : u ≤ 0) (ho : OPc σ B O) (hp : (σ 3 9).toInt = ((B + O.length : Nat) : Int)) (hl : l + 12 ≤ 500)
    (k : ∀ (s : St) (O2 : List Int), GRx σ0 s l [] (gs O2) (u - O2.length) (w - 2 * O2.length) → OPc s B O2 → (s 3 9).toInt = ((B + O2.length : Nat) : Int) → (∀ j, j < B + O2.length → (s 22) j = (σ 22) j) → (s 3 1) = (σ 3 1) → (s 3 2) = (σ 3 2) → (s 3 3) = (σ 3 3) → O2.length ≤ O.length → ((O2.length : Int) < v.toInt ∨ O2 = []) → Q s) : wk_X3_settle a v σ Q := by
  unfold wk_X3_settle
  refine ⟨fun n s => ∃ O2 : List Int, n = O2.length ∧ O2.length ≤ O.length ∧ GRx σ0 s l [] (gs O2) (u - O2.length) (w - 2 * O2.length) ∧ OPc s B O2 ∧ (s 3 9).toInt = ((B + O2.length : Nat) : Int) ∧ (∀ j, j < B + O2.length → (s 22) j = (σ 22) j) ∧ (s 3 1) = (σ 3 1) ∧ (s 3 2) = (σ 3 2) ∧ (s 3 3) = (σ 3 3), ⟨_, O, rfl, Nat.le_refl _, r, ho, hp, fun _ _ => rfl, rfl, rfl, rfl⟩, ?_⟩
  rintro n s ⟨O2, hn, hle, r2, ho2, hp2, q1, q2, q3, q4⟩
  match O2, hn, hle, r2, ho2, hp2 with
  | [], hn, hle, r2, ho2, hp2 =>
    refine ⟨fun _ => k s [] r2 ho2 hp2 q1 q2 q3 q4 hle (Or.inr rfl), fun c => ?_⟩
    have : ((B + ([] : List Int).length : Nat) : Int) = B := rfl
    omega
  | x :: O3, hn, hle, r2, ho2, hp2 =>
    have el : (x :: O3).length = O3.length + 1 := rfl
    rw [el] at hp2 hle hn r2
    obtain ⟨h1, h2, h3, h4⟩ := ho2
    have e1 : ((s 3 9) - (1 : Int32)).toInt = ((B + O3.length : Nat) : Int) := by rw [sb1 (by omega)]; omega
    have e2 : atv 400 (s 22) ((s 3 9) - (1 : Int32)) = (s 22) (B + O3.length) := atv_at e1 (by omega)
    refine ⟨fun c => by omega, fun c => ?_⟩
    rw [e2]
    have hx : (atv 16002 (s 13) ((s 22) (B + O3.length))).toInt = x := h1
    refine sp_glevelOf (by rw [hx]; omega) (fun v2 hv2 => ⟨fun c2 => ?_, fun c2 => k s (x :: O3) r2 ⟨h1, h2, h3, h4⟩ hp2 q1 q2 q3 q4 hle (Or.inl ?_)⟩)
    · refine sp_gadd0 (tk_kg r2.1 tk) r2.2.1 (cb_grx cb r2 (by omega)) (fun v3 s3 ad _ => ⟨O3.length, by omega, O3, rfl, by omega, ?_, ?_, ?_, ?_, ?_, ?_, ?_⟩)
      · have r3 := grx_add (c := gs O3) (w' := 2) g0 r2 ad (fun hw S hS => by
          rw [h1]
          exact Or.inr (Or.inr (Or.inr (Or.inr (Or.inr (Or.inl ⟨by decide, h2, O3.map iL ++ S, rfl, rfl⟩)))))) (by decide) (by decide)
        exact grx_wk (grx_k r3 (kp_f kp_rf rfl)) (Nat.le_refl _) (by omega) (by omega)
      · refine opc_k (σ := s3) (by rfl) O3 (fun _ _ => by rfl) ?_
        exact opc_k (σ := s) (funext (fun j => ad.1 13 j rfl rfl)) O3 (fun j hj => ad.2.2.1.2 j (by omega)) h4
      · show ((s3 3 9) - (1 : Int32)).toInt = _
        rw [ad.2.2.1.1]
        exact e1
      · intro j hj
        exact (ad.2.2.1.2 j (by omega)).trans (q1 j (by show j < B + (O3.length + 1); omega))
      · exact (ad.2.2.2.2.1).trans q2
      · exact (ad.2.2.2.2.2.1).trans q3
      · exact (ad.2.2.2.1).trans q4
    · rw [hx] at hv2
      have : ((x :: O3).length : Int) = O3.length + 1 := rfl
      omega
theorem sp_gbinary (hu : SPE Ke d (l + 10) (p + 10)) (hl : l + 12 ≤ 500) (hp9 : p + 10 ≤ 400) : SPE (wk_X3_binary Ka Kb Kc Kd Ke Kf Kg Kh) d l p := fun x σ Q hx tk ga cb hp k => by
  obtain ⟨B, hB⟩ : ∃ B : Nat, (σ 3 9).toInt = B := ⟨(σ 3 9).toInt.toNat, by omega⟩
  unfold wk_X3_binary
  refine hu x σ _ hx tk ga cb ⟨hp.1, by have := hp.2; omega⟩ (fun s7 r7 p7 => ?_)
  have fin : ∀ (s : St) (O : List Int), GRx σ s l [] (gs O) (-1 - O.length) (-1 - 2 * O.length) → OPc s B O → (s 3 9).toInt = ((B + O.length : Nat) : Int) → (∀ j, j < B → (s 22) j = (σ 22) j) → O.length ≤ 10 → wk_X3_settle (σ 3 9) (0 : Int32) s (fun s100 => Q s100) := fun s O r ho hp2 hops h10 => by
    refine sp_gsettle (u := -1) (w := -1) tk ga cb hB (by omega) r (by omega) ho hp2 hl (fun s2 O2 r2 ho2 hp3 q1 q2 q3 q4 hle he => ?_)
    have : O2 = [] := by
      rcases he with c | c
      · exfalso
        have : (0 : Int32).toInt = 0 := by decide
        omega
      · exact c
    subst this
    have hp4 : (s2 3 9).toInt = B := hp3
    exact k s2 r2 ⟨Int32.toInt_inj.mp (by rw [hp4, hB]), fun j hj => (q1 j (by show j < B + 0; omega)).trans (hops j (by omega))⟩
  refine ⟨fun n y s => n = y.toInt.toNat ∧ ∃ O : List Int, GRx σ s l [] (gs O) (-1 - O.length) (-1 - 2 * O.length) ∧ OPc s B O ∧ (s 3 9).toInt = ((B + O.length : Nat) : Int) ∧ (∀ j, j < B → (s 22) j = (σ 22) j) ∧ O.length ≤ 10, ⟨_, rfl, [], grx_wk r7 (by omega) (by show -1 ≤ -1 - ((0 : Nat) : Int); omega) (by show -1 ≤ -1 - 2 * ((0 : Nat) : Int); omega), trivial, by rw [p7.1]; exact hB, fun j hj => p7.2 j (by omega), by show 0 ≤ 10; omega⟩, ?_⟩
  rintro n y s ⟨hn, O, r, ho, hp2, hops, h10⟩
  have tks := tk_kg r.1 tk
  have kr : -2000 ≤ (s 3 2).toInt ∧ (s 3 2).toInt ≤ 2000000000 := by
    by_cases c : (s 3 3).toInt < 0
    · obtain ⟨⟨p1, p2⟩, p3, p4⟩ := r.2.1.1 c
      have en : (ps s : Int) = (s 3 1).toInt := nt p1
      have := (tks.2.1 (ps s) (by omega)).2
      rw [p3]
      omega
    · have := r.2.1.2 (by omega)
      omega
  refine ⟨True, fun _ => fin s O r ho hp2 hops h10, fun _ => trivial, fun c => sp_glevelOf kr (fun v1 hv1 => ⟨fun _ => trivial, fun c2 => sp_glevelOf kr (fun v2 hv2 => ?_)⟩)⟩
  have hb : 41 ≤ (s 3 2).toInt ∧ (s 3 2).toInt ≤ 58 := by
    by_cases q : 41 ≤ (s 3 2).toInt ∧ (s 3 2).toInt ≤ 58
    · exact q
    · exfalso
      unfold lvl at hv1
      rw [if_neg q] at hv1
      omega
  refine sp_gsettle (u := -1) (w := -1) tk ga cb hB (by omega) r (by omega) ho hp2 hl (fun s2 O2 r2 ho2 hp3 q1 q2 q3 q4 hle he => ?_)
  have good : (s2 3 3).toInt < 0 := by
    by_cases q : (s2 3 3).toInt < 0
    · exact q
    · have := r2.2.1.2 (by omega)
      rw [q3] at this
      omega
  have tk2 := tk_kg r2.1 tk
  have lv := lvl_le (s 3 2).toInt
  have h9 : O2.length ≤ 9 := by
    rcases he with q | q
    · omega
    · subst q
      show 0 ≤ 9
      omega
  have hpn : (s2 3 9).toNatClampNeg = B + O2.length := by rw [nt', hp3]; rfl
  have k2 : Kp [(3, 9)] [22, 23] s2 (upC (upF s2 22 (setv 400 (s2 22) (s2 3 9) (s2 3 1))) 3 9 ((s2 3 9) + (1 : Int32))) := kp_f (kp_F kp_rf rfl) rfl
  have r3 := grx_k r2 k2
  have ops3 : ∀ j, ((upC (upF s2 22 (setv 400 (s2 22) (s2 3 9) (s2 3 1))) 3 9 ((s2 3 9) + (1 : Int32))) 22) j = if j = B + O2.length then (s2 3 1) else (s2 22) j := fun j => by
    show (setv 400 (s2 22) (s2 3 9) (s2 3 1)) j = _
    rw [setv_at (j := B + O2.length) hp3 (by omega)]
  have pn3 : ((upC (upF s2 22 (setv 400 (s2 22) (s2 3 9) (s2 3 1))) 3 9 ((s2 3 9) + (1 : Int32))) 3 9).toInt = ((B + O2.length : Nat) : Int) + 1 := by
    show ((s2 3 9) + (1 : Int32)).toInt = _
    rw [ad1 (by omega), hp3]
  have ew3 : ((upC (upF s2 22 (setv 400 (s2 22) (s2 3 9) (s2 3 1))) 3 9 ((s2 3 9) + (1 : Int32))) 3 3).toInt = (s2 3 3).toInt := rfl
  have ek3 : ((upC (upF s2 22 (setv 400 (s2 22) (s2 3 9) (s2 3 1))) 3 9 ((s2 3 9) + (1 : Int32))) 3 2) = (s2 3 2) := rfl
  have ho3 : OPc (upC (upF s2 22 (setv 400 (s2 22) (s2 3 9) (s2 3 1))) 3 9 ((s2 3 9) + (1 : Int32))) B ((s 3 2).toInt :: O2) := by
    refine ⟨?_, hb, ?_, opc_k (σ := s2) (by rfl) O2 (fun j hj => by rw [ops3, if_neg (by omega)]) ho2⟩
    · rw [ops3, if_pos rfl, tkx_kg (kp_sub k2 rfl rfl)]
      rw [tkx_pos r2.2.1 tk2 good, q3]
    · rcases he with q | q
      · omega
      · subst q
        have := lv.2.2 hb.1 hb.2
        show ((0 : Nat) : Int) + 1 ≤ _
        omega
  have tkp : tkx (upC (upF s2 22 (setv 400 (s2 22) (s2 3 9) (s2 3 1))) 3 9 ((s2 3 9) + (1 : Int32))) (s2 3 1) = (s 3 2).toInt := by
    rw [tkx_kg (kp_sub k2 rfl rfl), tkx_pos r2.2.1 tk2 good, q3]
  generalize hz : (upC (upF s2 22 (setv 400 (s2 22) (s2 3 9) (s2 3 1))) 3 9 ((s2 3 9) + (1 : Int32))) = z at *
  refine sp_gadd0 (tk_kg r3.1 tk) r3.2.1 (cb_grx cb r3 (by omega)) (fun v4 s4 ad _ => ?_)
  have r4 := grx_add (c := iL (s 3 2).toInt :: O2.map iL) (w' := 2) ga r3 ad (fun hw S hS => by
    rw [tkp]
    exact Or.inr (Or.inr (Or.inr (Or.inr (Or.inl ⟨by decide, Or.inr (Or.inr hb), O2.map iL ++ S, rfl, rfl⟩))))) (by decide) (by decide)
  have tk4 := tk_kg r4.1 tk
  refine sp_gadv tk4 r4.2.1 (by rw [ad.2.2.2.2.2.1, ek3, q3]; omega) (fun s5 a5 => ?_)
  have r5 := grx_tr ga r4 (adv_g a5)
  have p5 := pso_tr ad.2.2.1 a5.2.2.2.2.1
  have pn5 : (s5 3 9).toInt = ((B + O2.length : Nat) : Int) + 1 := by rw [p5.1]; exact pn3
  refine hu x s5 _ hx (tk_kg r5.1 tk) r5.2.1 (cb_grx cb r5 (by omega)) ⟨by omega, by have := hp.2; omega⟩ (fun s6 r6' p6 => ?_)
  have r6 := grx_tr ga r5 (grx_ctx (l := l) (e := iL (s 3 2).toInt :: O2.map iL) r6' (by show l + ((O2.map iL).length + 1) ≤ l + 10; rw [List.length_map]; omega))
  have p6' := pso_tr p5 p6
  refine ⟨(y + (-1 : Int32)).toInt.toNat, dn_lt hn c, rfl, (s 3 2).toInt :: O2, grx_wk r6 (Nat.le_refl _) (by show _ ≤ -1 - ((O2.length + 1 : Nat) : Int); omega) (by show _ ≤ -1 - 2 * ((O2.length + 1 : Nat) : Int); omega), opc_k (funext (fun j => ?_)) _ (fun j hj => ?_) ho3, by rw [p6'.1, pn3]; show _ = ((B + (O2.length + 1) : Nat) : Int); omega, fun j hj => ?_, by show O2.length + 1 ≤ 10; omega⟩
  · exact (kp_tr (kp_tr ad.1 (adv_g (l := 0) (a := []) a5).1) r6'.1) 13 j rfl rfl
  · have hj' : j < B + (O2.length + 1) := hj
    exact p6'.2 j (by omega)
  · rw [p6'.2 j (by omega), ops3, if_neg (by omega), q1 j (by omega)]
    exact hops j hj
theorem sp_gbehind (hb : SPE Kb d l p) (he : d + 1 ≤ 25 → SPE Kh (d + 1) l' p') (hl : l + 1 ≤ l') (hp' : p ≤ p') : SPE (wk_X3_behind Ka Kb Kc Kd Ke Kf Kg Kh) d l p := fun x σ Q hx tk ga cb hp k => by
  unfold wk_X3_behind
  refine hb x σ _ hx tk ga cb hp (fun s2 r2 p2 => ?_)
  refine ⟨fun n _ y s => n = y.toInt.toNat ∧ GRx σ s l [] [iV] (-1) (-1) ∧ PSo σ s, ⟨_, rfl, r2, p2⟩, ?_⟩
  rintro n z y s hz ⟨hn, r, q⟩
  refine ⟨fun _ => k s r q, fun c => ⟨fun _ => k s r q, fun _ => ?_⟩⟩
  have tks := tk_kg r.1 tk
  refine ⟨fun z => z.toInt ≠ 0 → 2 ≤ (s 3 2).toInt, ?_, 2 ≤ (s 3 2).toInt, fun c _ => c, fun c => by omega, fun _ => ⟨fun c => by omega, fun _ => ⟨fun c e => absurd rfl e, fun c => by omega⟩⟩⟩
  intro z2 hz2 hk
  refine ⟨fun s => GRx σ s l [] [iV] (-1) (-1) ∧ PSo σ s, fun s9 h9 => ⟨_, dn_lt hn c, rfl, h9.1, h9.2⟩, fun _ => ⟨fun _ => ⟨r, q⟩, fun e => ?_⟩, fun c24 => ?_⟩
  · refine sp_gadv tks r.2.1 (hk e) (fun s3 a3 => ?_)
    have r3 := grx_tr ga r (adv_g a3)
    refine sp_gadd0 (tk_kg r3.1 tk) r3.2.1 (cb_grx cb r3 (by omega)) (fun v4 s4 ad _ => ⟨?_, pso_tr (pso_tr q a3.2.2.2.2.1) ad.2.2.1⟩)
    exact grx_wk (grx_add (c := [iV]) (w' := 2) ga r3 ad (fun hw S hS => Or.inr (Or.inr (Or.inr (Or.inr (Or.inr (Or.inr (Or.inr (Or.inr (Or.inl ⟨by decide, S, rfl, rfl⟩))))))))) (by decide) (by decide)) (Nat.le_refl _) (by omega) (by omega)
  · refine sp_gdeeper tks r.2.1 (by omega) (fun s3 r3 p3 => ⟨fun _ => ⟨grx_wk (grx_tr ga r (r3 l [iV] [iV] 0 0)) (Nat.le_refl _) (by omega) (by omega), pso_tr q p3⟩, fun e => absurd rfl e⟩) (fun s3 d3 a3 => ⟨fun e => absurd e (by decide), fun _ => ?_⟩)
    have r3 := grx_tr ga r (adv_g a3)
    have q3 := pso_tr q a3.2.2.2.2.1
    refine sp_gadd0 (tk_kg r3.1 tk) r3.2.1 (cb_grx cb r3 (by omega)) (fun v4 s4 ad4 _ => ?_)
    have r4 := grx_add (c := [iL 24]) (w' := 2) ga r3 ad4 (fun hw S hS => by
      rw [tkx_kg (adv_g (l := 0) (a := []) a3).1, tkx_pos r.2.1 tks a3.2.2.2.2.2, c24]
      exact Or.inr (Or.inr (Or.inr (Or.inr (Or.inl ⟨by decide, Or.inl rfl, S, rfl, rfl⟩))))) (by decide) (by decide)
    have q4 := pso_tr q3 ad4.2.2.1
    refine he (by omega) _ s4 _ (by rw [ad1 (by omega)]; omega) (tk_kg r4.1 tk) r4.2.1 (cb_grx cb r4 (by omega)) ⟨(pen_of q4 hp).1, by have := (pen_of q4 hp).2; omega⟩ (fun s5 r5' p5 => ?_)
    have r5 := grx_tr ga r4 (grx_ctx (l := l) (e := [iL 24]) r5' hl)
    refine sp_gexpect (tk_kg r5.1 tk) r5.2.1 (by decide) (fun s6 r6' p6 _ => ?_)
    have r6 := grx_tr ga r5 (r6' l _)
    have q6 := pso_tr (pso_tr q4 p5) p6
    refine sp_gadd0 (tk_kg r6.1 tk) r6.2.1 (cb_grx cb r6 (by omega)) (fun v7 s7 ad7 _ => ⟨?_, pso_tr q6 ad7.2.2.1⟩)
    exact grx_wk (grx_add (c := [iV]) (w' := 3) ga r6 ad7 (fun hw S hS => Or.inr (Or.inr (Or.inr (Or.inr (Or.inr (Or.inr (Or.inr (Or.inl ⟨by decide, S, rfl, rfl⟩)))))))) (by decide) (by decide)) (Nat.le_refl _) (by omega) (by omega)
theorem sp_gcall (he : d + 1 ≤ 25 → SPE Kh (d + 1) l' p') (hl : l + 1 ≤ l') (hl5 : l < 500) (hp' : p ≤ p') : SPC (wk_X3_call Ka Kb Kc Kd Ke Kf Kg Kh) d l p := fun nm x σ Q hx tk ga cb hp hk hnm k => by
  unfold wk_X3_call
  refine sp_gdeeper tk ga (by omega) (fun s3 r3 p3 => ⟨fun e => absurd rfl e, fun _ => k s3 (r3 _ _ _ _ _) p3⟩) (fun s3 d3 a3 => ⟨fun _ => ?_, fun e => absurd e (by decide)⟩)
  have r3 := adv_g (l := l) (a := []) a3
  have q3 := a3.2.2.2.2.1
  refine sp_gadd0 (tk_kg r3.1 tk) r3.2.1 (cb_grx cb r3 (by omega)) (fun v4 s4 ad4 _ => ?_)
  have r4 := grx_add (c := [iF]) (w' := 0) ga r3 ad4 (fun hw S hS => Or.inr (Or.inl ⟨by decide, by show S.length < 500; omega, by rw [tkx_kg r3.1]; exact hnm a3.2.2.2.2.2, rfl⟩)) (by decide) (by decide)
  have q4 := pso_tr q3 ad4.2.2.1
  refine ⟨fun _ => True, fun y0 _ _ => ?_, fun _ => trivial, fun _ => trivial⟩
  refine ⟨fun n _ y s => n = y.toInt.toNat ∧ GRx σ s l [] [iF] (-1) (-4) ∧ PSo σ s, ⟨_, rfl, grx_wk r4 (Nat.le_refl _) (by omega) (by omega), q4⟩, ?_⟩
  rintro n z y s hz ⟨hn, r, q⟩
  have tks := tk_kg r.1 tk
  refine ⟨True, fun _ => ?_, fun _ => trivial, fun c => ⟨fun _ => trivial, fun _ => ?_⟩⟩
  · refine sp_gexpect tks r.2.1 (by decide) (fun s6 r6' p6 _ => ?_)
    have r6 := grx_tr ga r (r6' l _)
    refine sp_gadd0 (tk_kg r6.1 tk) r6.2.1 (cb_grx cb r6 (by omega)) (fun v7 s7 ad7 _ => k s7 ?_ (pso_tr (pso_tr q p6) ad7.2.2.1))
    exact grx_wk (grx_add (c := [iV]) (w' := 3) ga r6 ad7 (fun hw S hS => Or.inr (Or.inr (Or.inr (Or.inl ⟨by decide, S, rfl, rfl⟩)))) (by decide) (by decide)) (Nat.le_refl _) (by omega) (by omega)
  · refine he (by omega) _ s _ (by rw [ad1 (by omega)]; omega) tks r.2.1 (cb_grx cb r (by omega)) ⟨(pen_of q hp).1, by have := (pen_of q hp).2; omega⟩ (fun s5 r5' p5 => ?_)
    have r5 := grx_tr ga r (grx_ctx (l := l) (e := [iF]) r5' hl)
    have q5 := pso_tr q p5
    refine sp_gadd0 (tk_kg r5.1 tk) r5.2.1 (cb_grx cb r5 (by omega)) (fun v7 s7 ad7 _ => ?_)
    have r7 := grx_add (c := [iF]) (w' := 0) ga r5 ad7 (fun hw S hS => Or.inr (Or.inr (Or.inl ⟨by decide, S, rfl, rfl⟩))) (by decide) (by decide)
    have q7 := pso_tr q5 ad7.2.2.1
    refine sp_gaccept (tk_kg r7.1 tk) r7.2.1 (by decide) (fun _ => ⟨_, dn_lt hn c, rfl, grx_wk r7 (Nat.le_refl _) (by omega) (by omega), q7⟩) (fun s8 a8 _ => ⟨_, dn_lt hn c, rfl, grx_wk (grx_tr ga r7 (adv_g a8)) (Nat.le_refl _) (by omega) (by omega), pso_tr q7 a8.2.2.2.2.1⟩)
end GBI
end

section
/-! the grammar: the expressions' group -/
def EFk (n : Nat) : Prop := ∀ d : Nat, 1 ≤ d → d ≤ 25 →
  (8 * (25 - d) + 7 < n → SPE (KVA n).2.2.2.2.2.2.2 d (20 * (d - 1)) (10 * (d - 1))) ∧
  (8 * (25 - d) + 6 < n → SPE (KVA n).2.2.2.2.2.2.1 d (20 * (d - 1)) (10 * (d - 1))) ∧
  (8 * (25 - d) + 5 < n → SPE (KVA n).2.2.2.2.2.1 d (20 * (d - 1)) (10 * (d - 1))) ∧
  (8 * (25 - d) + 4 < n → SPE (KVA n).2.2.2.2.1 d (20 * (d - 1) + 10) (10 * (d - 1) + 10)) ∧
  (8 * (25 - d) + 3 < n → SPK (KVA n).2.2.2.1 d (20 * (d - 1) + 10) (10 * (d - 1) + 10)) ∧
  (8 * (25 - d) + 3 < n → SPE (KVA n).2.2.1 d (20 * (d - 1) + 10) (10 * (d - 1) + 10)) ∧
  (8 * (25 - d) + 2 < n → SPE (KVA n).2.1 d (20 * (d - 1) + 10) (10 * (d - 1) + 10)) ∧
  (8 * (25 - d) + 1 < n → SPC (KVA n).1 d (20 * (d - 1) + 10) (10 * (d - 1) + 10))
theorem efk_0 : EFk 0 := fun d h1 h2 => ⟨fun h => absurd h (Nat.not_lt_zero _), fun h => absurd h (Nat.not_lt_zero _), fun h => absurd h (Nat.not_lt_zero _), fun h => absurd h (Nat.not_lt_zero _), fun h => absurd h (Nat.not_lt_zero _), fun h => absurd h (Nat.not_lt_zero _), fun h => absurd h (Nat.not_lt_zero _), fun h => absurd h (Nat.not_lt_zero _)⟩
theorem efk_s {n : Nat} (ih : EFk n) : EFk (n + 1) := fun d h1 h2 => by
  obtain ⟨g1, g2, g3, g4, g5, g6, g7, g8⟩ := ih d h1 h2
  have up : d + 1 ≤ 25 → _ := fun h => ih (d + 1) (by omega) h
  have ed : 20 * (d + 1 - 1) = 20 * (d - 1) + 20 := by omega
  have ep : 10 * (d + 1 - 1) = 10 * (d - 1) + 10 := by omega
  refine ⟨fun hn => ?_, fun hn => ?_, fun hn => ?_, fun hn => ?_, fun hn => ?_, fun hn => ?_, fun hn => ?_, fun hn => ?_⟩
  · show SPE (wk_X3_expression ((KVA n).1) ((KVA n).2.1) ((KVA n).2.2.1) ((KVA n).2.2.2.1) ((KVA n).2.2.2.2.1) ((KVA n).2.2.2.2.2.1) ((KVA n).2.2.2.2.2.2.1) ((KVA n).2.2.2.2.2.2.2)) d _ _
    exact sp_gexpr (g2 (by omega)) (fun h => (up h).1 (by omega)) (by omega) (by omega)
  · show SPE (wk_X3_choice ((KVA n).1) ((KVA n).2.1) ((KVA n).2.2.1) ((KVA n).2.2.2.1) ((KVA n).2.2.2.2.1) ((KVA n).2.2.2.2.2.1) ((KVA n).2.2.2.2.2.2.1) ((KVA n).2.2.2.2.2.2.2)) d _ _
    exact sp_gchoice (g3 (by omega)) (fun h => (up h).1 (by omega)) (fun h => (up h).2.1 (by omega)) (by omega) (by omega)
  · show SPE (wk_X3_binary ((KVA n).1) ((KVA n).2.1) ((KVA n).2.2.1) ((KVA n).2.2.2.1) ((KVA n).2.2.2.2.1) ((KVA n).2.2.2.2.2.1) ((KVA n).2.2.2.2.2.2.1) ((KVA n).2.2.2.2.2.2.2)) d _ _
    exact sp_gbinary (g4 (by omega)) (by omega) (by omega)
  · show SPE (wk_X3_unary ((KVA n).1) ((KVA n).2.1) ((KVA n).2.2.1) ((KVA n).2.2.2.1) ((KVA n).2.2.2.2.1) ((KVA n).2.2.2.2.2.1) ((KVA n).2.2.2.2.2.2.1) ((KVA n).2.2.2.2.2.2.2)) d _ _
    exact sp_gunary (g6 (by omega)) (g5 (by omega)) (fun h => (up h).2.2.2.1 (by omega)) (by omega) (by omega)
  · show SPK (wk_X3_cast ((KVA n).1) ((KVA n).2.1) ((KVA n).2.2.1) ((KVA n).2.2.2.1) ((KVA n).2.2.2.2.1) ((KVA n).2.2.2.2.2.1) ((KVA n).2.2.2.2.2.2.1) ((KVA n).2.2.2.2.2.2.2)) d _ _
    exact sp_gcast (fun h => (up h).2.2.2.1 (by omega)) (by omega) (by omega)
  · show SPE (wk_X3_behind ((KVA n).1) ((KVA n).2.1) ((KVA n).2.2.1) ((KVA n).2.2.2.1) ((KVA n).2.2.2.2.1) ((KVA n).2.2.2.2.2.1) ((KVA n).2.2.2.2.2.2.1) ((KVA n).2.2.2.2.2.2.2)) d _ _
    exact sp_gbehind (g7 (by omega)) (fun h => (up h).1 (by omega)) (by omega) (by omega)
  · show SPE (wk_X3_primary ((KVA n).1) ((KVA n).2.1) ((KVA n).2.2.1) ((KVA n).2.2.2.1) ((KVA n).2.2.2.2.1) ((KVA n).2.2.2.2.2.1) ((KVA n).2.2.2.2.2.2.1) ((KVA n).2.2.2.2.2.2.2)) d _ _
    exact sp_gprimary (g8 (by omega)) (fun h => (up h).1 (by omega)) (by omega) (by omega) (by omega)
  · show SPC (wk_X3_call ((KVA n).1) ((KVA n).2.1) ((KVA n).2.2.1) ((KVA n).2.2.2.1) ((KVA n).2.2.2.2.1) ((KVA n).2.2.2.2.2.1) ((KVA n).2.2.2.2.2.2.1) ((KVA n).2.2.2.2.2.2.2)) d _ _
    exact sp_gcall (fun h => (up h).1 (by omega)) (by omega) (by omega) (by omega)
theorem efk_all : ∀ n, EFk n
  | 0 => efk_0
  | n + 1 => efk_s (efk_all n)
theorem spg_expr : SPE wkG_expression 1 0 0 := (efk_all 240 1 (by decide) (by decide)).1 (by decide)
end

section
/-! the steps of a unit, whole: a function or none (and parameters to come), the constructs around, the operands -/
abbrev Zs : Type := Nat × List Nat × List It
/-- how many rows of statements the constructs around take -/
def nzr (K : List Nat) : Nat := (K.filter (fun c => decide (1 ≤ c ∧ c ≤ 8))).length
/-- the same; much more within an initial -/
def nz (K : List Nat) : Nat := nzr K + 1000 * (K.filter (fun c => decide (9 ≤ c))).length
def b4 (x : Int32) : Prop := (x &&& (4 : Int32)).toInt ≠ 0
def spar (x : Int32) : Nat := (ushr x (24 : Int32)).toInt.toNat
/-- where a statement may stand; where its body may begin -/
def tpK (K : List Nat) : Prop := K = [] ∨ ∃ K', K = 0 :: K'
def bdK (K : List Nat) : Prop := K = [] ∨ ∃ c K', K = c :: K' ∧ (c = 0 ∨ c = 1 ∨ c = 3 ∨ c = 4 ∨ c = 8)
def sk (m : Nat) (K : List Nat) : Prop := nz K ≤ m ∧ tpK K
/-- a step that is none of an expression: what stood before it, and what behind it -/
def dz (act : Int) (fst snd : Int32) (z z' : Zs) : Prop :=
  (act = 20 ∧ ∃ K, z = (1, K, []) ∧ z' = (1, 0 :: K, []) ∧ nz K ≤ 100 ∧ bdK K) ∨
  (act = 21 ∧ ∃ K, z = (1, 0 :: K, []) ∧ z' = (1, K, [])) ∨
  (act = 22 ∧ ∃ K, z = (1, K, [iV]) ∧ z' = (1, K, []) ∧ nz K ≤ 100) ∨
  (act = 23 ∧ ∃ K, z = (1, K, [iV]) ∧ z' = (1, 1 :: K, []) ∧ sk 24 K) ∨
  (act = 24 ∧ ∃ K, z = (1, 1 :: K, []) ∧ z' = z) ∨
  (act = 25 ∧ ∃ K, z = (1, 1 :: K, []) ∧ z' = (1, K, [])) ∨
  (act = 26 ∧ ∃ K, z = (1, K, []) ∧ z' = (1, 2 :: K, []) ∧ sk 24 K) ∨
  (act = 27 ∧ ∃ K, z = (1, 2 :: K, [iV]) ∧ z' = (1, 3 :: K, [])) ∨
  (act = 28 ∧ ∃ K, z = (1, 3 :: K, []) ∧ z' = (1, K, [])) ∨
  (act = 29 ∧ ∃ K, z = (1, K, []) ∧ z' = (1, 4 :: K, []) ∧ sk 24 K) ∨
  (act = 30 ∧ ∃ K, z = (1, 4 :: K, []) ∧ z' = (1, 5 :: K, [])) ∨
  (act = 31 ∧ ∃ K, z = (1, 5 :: K, [iV]) ∧ z' = (1, K, [])) ∨
  (act = 32 ∧ ∃ K, z = (1, K, []) ∧ z' = (1, 6 :: K, []) ∧ sk 24 K) ∨
  (act = 33 ∧ ∃ K, z = (1, 6 :: K, if fst.toInt = 0 then [] else [iV]) ∧ z' = (1, 7 :: K, [])) ∨
  (act = 34 ∧ ∃ K, z = (1, 7 :: K, []) ∧ z' = (1, 8 :: K, [])) ∨
  (act = 35 ∧ ∃ K, z = (1, 8 :: K, []) ∧ z' = (1, K, [])) ∨
  ((act = 36 ∨ act = 37) ∧ ∃ K, z = (1, K, []) ∧ z' = z ∧ sk 100 K) ∨
  (act = 38 ∧ ∃ K, z = (1, K, if fst.toInt = 0 then [] else [iV]) ∧ z' = (1, K, []) ∧ nz K ≤ 100) ∨
  (act = 42 ∧ ∃ F K, z = (F, K, []) ∧ z' = z) ∨
  (act = 43 ∧ ∃ F K, F ≤ 1 ∧ tpK K ∧ z = (F, K, []) ∧ ((b4 snd ∧ z' = (F, 9 :: K, [])) ∨ (¬ b4 snd ∧ z' = z))) ∨
  (act = 44 ∧ ∃ F K c, (c = 9 ∨ c = 10) ∧ z = (F, c :: K, [iV]) ∧ z' = (F, 10 :: K, [])) ∨
  (act = 45 ∧ ∃ F K, z = (F, 9 :: K, []) ∧ z' = (F, 11 :: K, [])) ∨
  (act = 46 ∧ ∃ F K, z' = (F, K, []) ∧ ((fst.toInt = 0 ∧ z = (F, 9 :: K, [iV])) ∨ (fst.toInt = 1 ∧ (z = (F, 9 :: K, []) ∨ z = (F, 10 :: K, []))) ∨ (fst.toInt = 2 ∧ z = (F, 11 :: K, [])))) ∨
  (act = 47 ∧ z = (0, [], []) ∧ spar fst ≤ 8 ∧ ((b4 snd ∧ z' = (1 + spar fst, [], [])) ∨ (¬ b4 snd ∧ z' = (0, [], [])))) ∨
  (act = 48 ∧ ∃ F, z = (F + 2, [], []) ∧ z' = (F + 1, [], [])) ∨
  (act = 49 ∧ z = (1, [], []) ∧ z' = (0, [], []))
section DZC
variable {act : Int} {fst snd : Int32} {z z' : Zs}
theorem dzc_20 (h : act = 20 ∧ ∃ K, z = (1, K, []) ∧ z' = (1, 0 :: K, []) ∧ nz K ≤ 100 ∧ bdK K) : dz act fst snd z z' := Or.inl h
theorem dzc_21 (h : act = 21 ∧ ∃ K, z = (1, 0 :: K, []) ∧ z' = (1, K, [])) : dz act fst snd z z' := Or.inr (Or.inl h)
theorem dzc_22 (h : act = 22 ∧ ∃ K, z = (1, K, [iV]) ∧ z' = (1, K, []) ∧ nz K ≤ 100) : dz act fst snd z z' := Or.inr (Or.inr (Or.inl h))
theorem dzc_23 (h : act = 23 ∧ ∃ K, z = (1, K, [iV]) ∧ z' = (1, 1 :: K, []) ∧ sk 24 K) : dz act fst snd z z' := Or.inr (Or.inr (Or.inr (Or.inl h)))
theorem dzc_24 (h : act = 24 ∧ ∃ K, z = (1, 1 :: K, []) ∧ z' = z) : dz act fst snd z z' := Or.inr (Or.inr (Or.inr (Or.inr (Or.inl h))))
theorem dzc_25 (h : act = 25 ∧ ∃ K, z = (1, 1 :: K, []) ∧ z' = (1, K, [])) : dz act fst snd z z' := Or.inr (Or.inr (Or.inr (Or.inr (Or.inr (Or.inl h)))))
theorem dzc_26 (h : act = 26 ∧ ∃ K, z = (1, K, []) ∧ z' = (1, 2 :: K, []) ∧ sk 24 K) : dz act fst snd z z' := Or.inr (Or.inr (Or.inr (Or.inr (Or.inr (Or.inr (Or.inl h))))))
theorem dzc_27 (h : act = 27 ∧ ∃ K, z = (1, 2 :: K, [iV]) ∧ z' = (1, 3 :: K, [])) : dz act fst snd z z' := Or.inr (Or.inr (Or.inr (Or.inr (Or.inr (Or.inr (Or.inr (Or.inl h)))))))
theorem dzc_28 (h : act = 28 ∧ ∃ K, z = (1, 3 :: K, []) ∧ z' = (1, K, [])) : dz act fst snd z z' := Or.inr (Or.inr (Or.inr (Or.inr (Or.inr (Or.inr (Or.inr (Or.inr (Or.inl h))))))))
theorem dzc_29 (h : act = 29 ∧ ∃ K, z = (1, K, []) ∧ z' = (1, 4 :: K, []) ∧ sk 24 K) : dz act fst snd z z' := Or.inr (Or.inr (Or.inr (Or.inr (Or.inr (Or.inr (Or.inr (Or.inr (Or.inr (Or.inl h)))))))))
theorem dzc_30 (h : act = 30 ∧ ∃ K, z = (1, 4 :: K, []) ∧ z' = (1, 5 :: K, [])) : dz act fst snd z z' := Or.inr (Or.inr (Or.inr (Or.inr (Or.inr (Or.inr (Or.inr (Or.inr (Or.inr (Or.inr (Or.inl h))))))))))
theorem dzc_31 (h : act = 31 ∧ ∃ K, z = (1, 5 :: K, [iV]) ∧ z' = (1, K, [])) : dz act fst snd z z' := Or.inr (Or.inr (Or.inr (Or.inr (Or.inr (Or.inr (Or.inr (Or.inr (Or.inr (Or.inr (Or.inr (Or.inl h)))))))))))
theorem dzc_32 (h : act = 32 ∧ ∃ K, z = (1, K, []) ∧ z' = (1, 6 :: K, []) ∧ sk 24 K) : dz act fst snd z z' := Or.inr (Or.inr (Or.inr (Or.inr (Or.inr (Or.inr (Or.inr (Or.inr (Or.inr (Or.inr (Or.inr (Or.inr (Or.inl h))))))))))))
theorem dzc_33 (h : act = 33 ∧ ∃ K, z = (1, 6 :: K, if fst.toInt = 0 then [] else [iV]) ∧ z' = (1, 7 :: K, [])) : dz act fst snd z z' := Or.inr (Or.inr (Or.inr (Or.inr (Or.inr (Or.inr (Or.inr (Or.inr (Or.inr (Or.inr (Or.inr (Or.inr (Or.inr (Or.inl h)))))))))))))
theorem dzc_34 (h : act = 34 ∧ ∃ K, z = (1, 7 :: K, []) ∧ z' = (1, 8 :: K, [])) : dz act fst snd z z' := Or.inr (Or.inr (Or.inr (Or.inr (Or.inr (Or.inr (Or.inr (Or.inr (Or.inr (Or.inr (Or.inr (Or.inr (Or.inr (Or.inr (Or.inl h))))))))))))))
theorem dzc_35 (h : act = 35 ∧ ∃ K, z = (1, 8 :: K, []) ∧ z' = (1, K, [])) : dz act fst snd z z' := Or.inr (Or.inr (Or.inr (Or.inr (Or.inr (Or.inr (Or.inr (Or.inr (Or.inr (Or.inr (Or.inr (Or.inr (Or.inr (Or.inr (Or.inr (Or.inl h)))))))))))))))
theorem dzc_36 (h : (act = 36 ∨ act = 37) ∧ ∃ K, z = (1, K, []) ∧ z' = z ∧ sk 100 K) : dz act fst snd z z' := Or.inr (Or.inr (Or.inr (Or.inr (Or.inr (Or.inr (Or.inr (Or.inr (Or.inr (Or.inr (Or.inr (Or.inr (Or.inr (Or.inr (Or.inr (Or.inr (Or.inl h))))))))))))))))
theorem dzc_38 (h : act = 38 ∧ ∃ K, z = (1, K, if fst.toInt = 0 then [] else [iV]) ∧ z' = (1, K, []) ∧ nz K ≤ 100) : dz act fst snd z z' := Or.inr (Or.inr (Or.inr (Or.inr (Or.inr (Or.inr (Or.inr (Or.inr (Or.inr (Or.inr (Or.inr (Or.inr (Or.inr (Or.inr (Or.inr (Or.inr (Or.inr (Or.inl h)))))))))))))))))
theorem dzc_42 (h : act = 42 ∧ ∃ F K, z = (F, K, []) ∧ z' = z) : dz act fst snd z z' := Or.inr (Or.inr (Or.inr (Or.inr (Or.inr (Or.inr (Or.inr (Or.inr (Or.inr (Or.inr (Or.inr (Or.inr (Or.inr (Or.inr (Or.inr (Or.inr (Or.inr (Or.inr (Or.inl h))))))))))))))))))
theorem dzc_43 (h : act = 43 ∧ ∃ F K, F ≤ 1 ∧ tpK K ∧ z = (F, K, []) ∧ ((b4 snd ∧ z' = (F, 9 :: K, [])) ∨ (¬ b4 snd ∧ z' = z))) : dz act fst snd z z' := Or.inr (Or.inr (Or.inr (Or.inr (Or.inr (Or.inr (Or.inr (Or.inr (Or.inr (Or.inr (Or.inr (Or.inr (Or.inr (Or.inr (Or.inr (Or.inr (Or.inr (Or.inr (Or.inr (Or.inl h)))))))))))))))))))
theorem dzc_44 (h : act = 44 ∧ ∃ F K c, (c = 9 ∨ c = 10) ∧ z = (F, c :: K, [iV]) ∧ z' = (F, 10 :: K, [])) : dz act fst snd z z' := Or.inr (Or.inr (Or.inr (Or.inr (Or.inr (Or.inr (Or.inr (Or.inr (Or.inr (Or.inr (Or.inr (Or.inr (Or.inr (Or.inr (Or.inr (Or.inr (Or.inr (Or.inr (Or.inr (Or.inr (Or.inl h))))))))))))))))))))
theorem dzc_45 (h : act = 45 ∧ ∃ F K, z = (F, 9 :: K, []) ∧ z' = (F, 11 :: K, [])) : dz act fst snd z z' := Or.inr (Or.inr (Or.inr (Or.inr (Or.inr (Or.inr (Or.inr (Or.inr (Or.inr (Or.inr (Or.inr (Or.inr (Or.inr (Or.inr (Or.inr (Or.inr (Or.inr (Or.inr (Or.inr (Or.inr (Or.inr (Or.inl h)))))))))))))))))))))
theorem dzc_46 (h : act = 46 ∧ ∃ F K, z' = (F, K, []) ∧ ((fst.toInt = 0 ∧ z = (F, 9 :: K, [iV])) ∨ (fst.toInt = 1 ∧ (z = (F, 9 :: K, []) ∨ z = (F, 10 :: K, []))) ∨ (fst.toInt = 2 ∧ z = (F, 11 :: K, [])))) : dz act fst snd z z' := Or.inr (Or.inr (Or.inr (Or.inr (Or.inr (Or.inr (Or.inr (Or.inr (Or.inr (Or.inr (Or.inr (Or.inr (Or.inr (Or.inr (Or.inr (Or.inr (Or.inr (Or.inr (Or.inr (Or.inr (Or.inr (Or.inr (Or.inl h))))))))))))))))))))))
theorem dzc_47 (h : act = 47 ∧ z = (0, [], []) ∧ spar fst ≤ 8 ∧ ((b4 snd ∧ z' = (1 + spar fst, [], [])) ∨ (¬ b4 snd ∧ z' = (0, [], [])))) : dz act fst snd z z' := Or.inr (Or.inr (Or.inr (Or.inr (Or.inr (Or.inr (Or.inr (Or.inr (Or.inr (Or.inr (Or.inr (Or.inr (Or.inr (Or.inr (Or.inr (Or.inr (Or.inr (Or.inr (Or.inr (Or.inr (Or.inr (Or.inr (Or.inr (Or.inl h)))))))))))))))))))))))
theorem dzc_48 (h : act = 48 ∧ ∃ F, z = (F + 2, [], []) ∧ z' = (F + 1, [], [])) : dz act fst snd z z' := Or.inr (Or.inr (Or.inr (Or.inr (Or.inr (Or.inr (Or.inr (Or.inr (Or.inr (Or.inr (Or.inr (Or.inr (Or.inr (Or.inr (Or.inr (Or.inr (Or.inr (Or.inr (Or.inr (Or.inr (Or.inr (Or.inr (Or.inr (Or.inr (Or.inl h))))))))))))))))))))))))
theorem dzc_49 (h : act = 49 ∧ z = (1, [], []) ∧ z' = (0, [], [])) : dz act fst snd z z' := Or.inr (Or.inr (Or.inr (Or.inr (Or.inr (Or.inr (Or.inr (Or.inr (Or.inr (Or.inr (Or.inr (Or.inr (Or.inr (Or.inr (Or.inr (Or.inr (Or.inr (Or.inr (Or.inr (Or.inr (Or.inr (Or.inr (Or.inr (Or.inr (Or.inr (h)))))))))))))))))))))))))
end DZC
/-- a name's token, of so many bytes at the most -/
def VN (σ : St) (t : Int32) (w : Int) : Prop := vlx σ t ≤ w ∧ tkx σ t = 2
theorem vn_same {σ s : St} {t : Int32} (e13 : (s 13) = (σ 13)) (e14 : (s 14) = (σ 14)) : VN s t = VN σ t := funext (fun w => by unfold VN vlx tkx; rw [e13, e14])
/-- one turn of the walk: a step, or a size with all that stands in it -/
def WS (σ : St) (i j : Nat) (z z' : Zs) : Prop :=
  (j = i + 1 ∧ act σ i ≤ 16 ∧ ∃ F K A B, z = (F, K, A) ∧ z' = (F, K, B) ∧ dx (act σ i) (tkx σ ((σ 19) i)) A B) ∨
  (j = i + 1 ∧ dz (act σ i) ((σ 20) i) ((σ 21) i) z z' ∧ (act σ i = 43 ∨ act σ i = 47 → tkx σ ((σ 19) i) = 2)) ∨
  (act σ i = 40 ∧ i + 1 < j ∧ ((σ 20) i).toInt + 1 = j ∧ act σ (j - 1) = 41 ∧ XR σ (j - 1 - (i + 1)) (i + 1) [] [iV] ∧ ∃ F K, z = (F, K, []) ∧ z' = z)
def RZ (σ : St) : Nat → Nat → Nat → Zs → Zs → Prop
  | 0, i, j, z, z' => i = j ∧ z = z'
  | m + 1, i, j, z, z' => ∃ i1 z1, WS σ i i1 z z1 ∧ i1 ≤ j ∧ RZ σ m i1 j z1 z'
/-- the bytes of names that steps may keep -/
def nst (σ : St) (i : Nat) : Nat := if act σ i = 43 ∨ act σ i = 47 then (vlx σ ((σ 19) i)).toNat else 0
def nsum (σ : St) : Nat → Nat → Nat
  | 0, _ => 0
  | n + 1, i => nst σ i + nsum σ n (i + 1)
section ZST
variable {σ s : St}
theorem nsum_app : ∀ (n i m : Nat), nsum σ (n + m) i = nsum σ n i + nsum σ m (i + n)
  | 0, i, m => by
    rw [Nat.zero_add]
    show _ = 0 + nsum σ m i
    omega
  | n + 1, i, m => by
    rw [Nat.add_right_comm]
    show nst σ i + nsum σ (n + m) (i + 1) = nst σ i + nsum σ n (i + 1) + nsum σ m (i + (n + 1))
    rw [nsum_app n (i + 1) m]
    have : i + 1 + n = i + (n + 1) := by omega
    rw [this]
    omega
theorem nsum_same (hv : (s 14) = (σ 14)) : ∀ (n i : Nat), (∀ j, i ≤ j → j < i + n → SameAt σ s j) → nsum s n i = nsum σ n i
  | 0, i => fun _ => rfl
  | n + 1, i => fun e => by
    have h := e i (by omega) (by omega)
    show nst s i + nsum s n (i + 1) = nst σ i + nsum σ n (i + 1)
    rw [nsum_same hv n (i + 1) (fun j h1 h2 => e j (by omega) (by omega))]
    unfold nst vlx
    rw [act_same h, h.2, hv]
/-- an expression keeps no names -/
theorem nsum_xr : ∀ (n i : Nat) (A B : List It), XR σ n i A B → nsum σ n i = 0
  | 0, _, _, _ => fun _ => rfl
  | n + 1, i, A, B => fun h => by
    obtain ⟨A1, h1, h2⟩ := h
    show nst σ i + nsum σ n (i + 1) = 0
    rw [nsum_xr n (i + 1) A1 B h2]
    unfold nst
    rw [if_neg]
    unfold dx at h1
    omega
theorem rz_app : ∀ (m m' i j k : Nat) (z z' z'' : Zs), j ≤ k → RZ σ m i j z z' → RZ σ m' j k z' z'' → RZ σ (m + m') i k z z''
  | 0, m', i, j, k, z, z', z'' => fun _ h g => by
    obtain ⟨rfl, rfl⟩ := h
    rw [Nat.zero_add]
    exact g
  | m + 1, m', i, j, k, z, z', z'' => fun hj h g => by
    obtain ⟨i1, z1, h1, h2, h3⟩ := h
    rw [Nat.add_right_comm]
    exact ⟨i1, z1, h1, by omega, rz_app m m' i1 j k z1 z' z'' hj h3 g⟩
theorem dx_act {a t : Int} {A B : List It} (h : dx a t A B) : 1 ≤ a ∧ a ≤ 16 := by
  unfold dx at h
  omega
theorem xr_rz : ∀ (n i : Nat) (A B : List It) (F : Nat) (K : List Nat), XR σ n i A B → RZ σ n i (i + n) (F, K, A) (F, K, B)
  | 0, i, A, B, F, K => fun h => by
    cases h
    exact ⟨rfl, rfl⟩
  | n + 1, i, A, B, F, K => fun h => by
    obtain ⟨A1, h1, h2⟩ := h
    have e : i + (n + 1) = i + 1 + n := by omega
    rw [e]
    exact ⟨i + 1, (F, K, A1), Or.inl ⟨rfl, (dx_act h1).2, F, K, A, A1, rfl, rfl, h1⟩, by omega, xr_rz n (i + 1) A1 B F K h2⟩
theorem ws_lt {i j : Nat} {z z' : Zs} (h : WS σ i j z z') : i < j := by
  unfold WS at h
  omega
def SameZ (σ s : St) (i : Nat) : Prop := SameAt σ s i ∧ (s 20) i = (σ 20) i ∧ (act σ i ≠ 42 → (s 21) i = (σ 21) i)
theorem dz_42 {f s0 s1 : Int32} {z z' : Zs} (h : dz 42 f s0 z z') : dz 42 f s1 z z' := by
  unfold dz at h
  rcases h with h | h | h | h | h | h | h | h | h | h | h | h | h | h | h | h | h | h | h | h | h | h | h | h | h | h
  all_goals first
    | exact absurd h.1 (by decide)
    | exact dzc_42 h
theorem ws_same {i j : Nat} {z z' : Zs} (hk : (s 13) = (σ 13)) (e : ∀ q, i ≤ q → q < j → SameZ σ s q) (h : WS σ i j z z') : WS s i j z z' := by
  have hij := ws_lt h
  have e0 := e i (Nat.le_refl _) hij
  have ea := act_same e0.1
  rcases h with ⟨h1, h2, F, K, A, B, h3, h4, h5⟩ | ⟨h1, h2, hN⟩ | ⟨h1, h2, h3, h4, h5, h6⟩
  · refine Or.inl ⟨h1, by rw [ea]; exact h2, F, K, A, B, h3, h4, ?_⟩
    unfold tkx at h5 ⊢
    rw [ea, e0.1.2, hk]
    exact h5
  · have hN' : act s i = 43 ∨ act s i = 47 → tkx s ((s 19) i) = 2 := fun c => by
      rw [ea] at c
      have q := hN c
      unfold tkx at q ⊢
      rw [e0.1.2, hk]
      exact q
    refine Or.inr (Or.inl ⟨h1, ?_, hN'⟩)
    rw [ea, e0.2.1]
    by_cases c : act σ i = 42
    · rw [c] at h2 ⊢
      exact dz_42 h2
    · rw [e0.2.2 c]
      exact h2
  · refine Or.inr (Or.inr ⟨by rw [ea]; exact h1, h2, by rw [e0.2.1]; exact h3, ?_, xr_same hk _ _ _ _ (fun q q1 q2 => (e q (by omega) (by omega)).1) h5, h6⟩)
    rw [act_same (e (j - 1) (by omega) (by omega)).1]
    exact h4
theorem rz_same (hk : (s 13) = (σ 13)) : ∀ (m i j : Nat) (z z' : Zs), (∀ q, i ≤ q → q < j → SameZ σ s q) → RZ σ m i j z z' → RZ s m i j z z'
  | 0, i, j, z, z' => fun _ h => h
  | m + 1, i, j, z, z' => fun e h => by
    obtain ⟨i1, z1, h1, h2, h3⟩ := h
    have := ws_lt h1
    exact ⟨i1, z1, ws_same hk (fun q q1 q2 => e q q1 (by omega)) h1, h2, rz_same hk m i1 j z1 z' (fun q q1 q2 => e q (by omega) q2) h3⟩
end ZST
end

section
/-! the grammar: stretches of steps -/
abbrev RZs : Type := Zs → Zs → Prop
def GRz (σ s : St) (R : RZs) (u w v : Int) : Prop :=
  KG σ s ∧ GA s ∧ ((s 3 3).toInt < 0 → (σ 3 3).toInt < 0 ∧ (∀ j : Nat, (j : Int) < (σ 3 4).toInt → SameZ σ s j) ∧ ∃ n : Nat, (s 3 4).toInt = (σ 3 4).toInt + n ∧ (n : Int) ≤ 2 * (pl s - pl σ) + u ∧ (csum s n (cn σ) : Int) ≤ 4 * (pl s - pl σ) + w ∧ (nsum s n (cn σ) : Int) ≤ (pl s - pl σ) + v ∧ pl σ ≤ pl s ∧ ∀ z z', R z z' → ∃ m, RZ s m (cn σ) (cn σ + n) z z')
def rId (P : Zs → Prop) : RZs := fun z z' => P z ∧ z' = z
section GRZ
variable {σ s t : St} {R R' R'' : RZs} {u w v : Int}
theorem grz_bad (k : KG σ s) (g : GA s) (h : 0 ≤ (s 3 3).toInt) : GRz σ s R u w v := ⟨k, g, fun hw => absurd hw (by omega)⟩
theorem grz_rf {P : Zs → Prop} (g : GA σ) : GRz σ σ (rId P) 0 0 0 := ⟨kp_rf, g, fun hw => ⟨hw, fun _ _ => ⟨⟨rfl, rfl⟩, rfl, fun _ => rfl⟩, 0, by omega, by omega, by show ((0 : Nat) : Int) ≤ _; omega, by show ((0 : Nat) : Int) ≤ _; omega, Int.le_refl _, fun z z' h => ⟨0, rfl, h.2.symm⟩⟩⟩
theorem grz_wk {u' w' v' : Int} (h : GRz σ s R u w v) (hR : ∀ z z', R' z z' → R z z') (hu : u ≤ u') (hw : w ≤ w') (hv : v ≤ v') : GRz σ s R' u' w' v' := ⟨h.1, h.2.1, fun c => by
  obtain ⟨h1, h2, n, h3, h4, h5, h6, h7, h8⟩ := h.2.2 c
  exact ⟨h1, h2, n, h3, by omega, by omega, by omega, h7, fun z z' q => h8 z z' (hR z z' q)⟩⟩
theorem grz_tr {u' w' v' : Int} (g : GA σ) (h : GRz σ s R u w v) (h2 : GRz s t R' u' w' v') (hR : ∀ z z'', R'' z z'' → ∃ z', R z z' ∧ R' z' z'') : GRz σ t R'' (u + u') (w + w') (v + v') := ⟨kp_tr h.1 h2.1, h2.2.1, fun hw => by
  obtain ⟨b1, b2, m, b3, b4, b5, b6, b7, b8⟩ := h2.2.2 hw
  obtain ⟨a1, a2, n, a3, a4, a5, a6, a7, a8⟩ := h.2.2 b1
  have c0 := (g.1 a1).2.2
  have e0 := cn_eq c0
  have e1 : (cn s : Int) = (s 3 4).toInt := cn_eq (by omega)
  have ec : cn s = cn σ + n := by omega
  have hk : (t 13) = (s 13) := funext (fun j => h2.1 13 j rfl rfl)
  have hv : (t 14) = (s 14) := funext (fun j => h2.1 14 j rfl rfl)
  have sm : ∀ j, cn σ ≤ j → j < cn σ + n → SameZ s t j := fun j h1 h2 => b2 j (by omega)
  refine ⟨a1, fun j hj => ?_, n + m, by omega, by omega, ?_, ?_, by omega, fun z z'' q => ?_⟩
  · obtain ⟨x1, x2, x3⟩ := a2 j hj
    obtain ⟨y1, y2, y3⟩ := b2 j (by omega)
    exact ⟨⟨y1.1.trans x1.1, y1.2.trans x1.2⟩, y2.trans x2, fun c => (y3 (by rw [act_same x1]; exact c)).trans (x3 c)⟩
  · rw [csum_app, csum_same hv n _ (fun j h1 h2 => (sm j h1 h2).1), ← ec]
    omega
  · rw [nsum_app, nsum_same hv n _ (fun j h1 h2 => (sm j h1 h2).1), ← ec]
    omega
  · obtain ⟨z', q1, q2⟩ := hR z z'' q
    obtain ⟨m1, r1⟩ := a8 z z' q1
    obtain ⟨m2, r2⟩ := b8 z' z'' q2
    rw [ec] at r2
    refine ⟨m1 + m2, ?_⟩
    rw [← Nat.add_assoc]
    exact rz_app m1 m2 _ _ _ _ _ _ (by omega) (rz_same hk m1 _ _ _ _ sm r1) r2⟩
theorem grz_x {l : Nat} {a b : List It} (h : GRx σ s l a b u w) : GRz σ s (fun z z' => ∃ F K, z = (F, K, a) ∧ z' = (F, K, b)) u w 0 := ⟨h.1, h.2.1, fun c => by
  obtain ⟨h1, h2, n, h3, h4, h5, h6, h7⟩ := h.2.2 c
  have h8 := h7 [] (Nat.zero_le _)
  rw [List.append_nil, List.append_nil] at h8
  refine ⟨h1, fun j hj => ⟨(h2 j hj).1, (h2 j hj).2.1, fun _ => (h2 j hj).2.2⟩, n, h3, h4, h5, by rw [nsum_xr n _ _ _ h8]; show (0 : Int) ≤ _; omega, h6, ?_⟩
  rintro z z' ⟨F, K, rfl, rfl⟩
  exact ⟨n, xr_rz n _ a b F K h8⟩⟩
theorem cb_grz {c : Int} (g : CBd σ c) (h : GRz σ s R u w v) {c' : Int} (hu : c + u ≤ c') : CBd s c' := fun hw => by
  obtain ⟨h1, h2, n, h3, h4, h5, h6, h7, h8⟩ := h.2.2 hw
  have := g h1
  omega
/-- tokens alone -/
theorem adv_z {P : Zs → Prop} (h : ADV σ s) : GRz σ s (rId P) (-2) (-4) (-1) := by
  have r := adv_g (l := 0) (a := []) h
  refine ⟨r.1, r.2.1, fun c => ?_⟩
  obtain ⟨h1, h2, n, h3, h4, h5, h6, h7⟩ := r.2.2 c
  have n0 : n = 0 := by
    have := h.2.2.1
    rw [this] at h3
    omega
  subst n0
  refine ⟨h1, fun j hj => ⟨(h2 j hj).1, (h2 j hj).2.1, fun _ => (h2 j hj).2.2⟩, 0, h3, h4, h5, ?_, h6, fun z z' q => ⟨0, rfl, q.2.symm⟩⟩
  show ((0 : Nat) : Int) ≤ _
  omega
theorem nil_z {P : Zs → Prop} (h : ∀ l a, GRx σ s l a a 0 0) (hc : (s 3 3).toInt < 0 → (s 3 4) = (σ 3 4)) : GRz σ s (rId P) 0 0 0 := by
  have r := h 0 []
  refine ⟨r.1, r.2.1, fun c => ?_⟩
  obtain ⟨h1, h2, n, h3, h4, h5, h6, h7⟩ := r.2.2 c
  have n0 : n = 0 := by
    have := hc c
    rw [this] at h3
    omega
  subst n0
  refine ⟨h1, fun j hj => ⟨(h2 j hj).1, (h2 j hj).2.1, fun _ => (h2 j hj).2.2⟩, 0, h3, h4, h5, ?_, h6, fun z z' q => ⟨0, rfl, q.2.symm⟩⟩
  show ((0 : Nat) : Int) ≤ _
  omega
/-- a name, a string -/
theorem adv_more (tk : TKc σ) (g : GA σ) (h : ADV σ s) : ((σ 3 2).toInt = 2 → 1 ≤ vlx σ (σ 3 1) ∧ pl σ + vlx σ (σ 3 1) ≤ pl s) ∧ ((σ 3 2).toInt = 4 → 0 ≤ vlx σ (σ 3 1) ∧ vlx σ (σ 3 1) ≤ 200 ∧ pl σ + vlx σ (σ 3 1) + 2 ≤ pl s) := by
  have hw := h.2.2.2.2.2
  obtain ⟨⟨p1, p2⟩, p3, p4⟩ := g.1 hw
  have en : (ps σ : Int) = (σ 3 1).toInt := nt p1
  have r := adv_g (l := 0) (a := []) h
  have e15 : (s 15) = (σ 15) := funext (fun j => r.1 15 j rfl rfl)
  have ep : ps s = ps σ + 1 := by
    unfold ps
    rw [h.1, nt', ad1 (by have := tk.1.2; omega)]
    unfold ps at en
    omega
  have es : pl s = ((σ 15) (ps σ + 1)).toInt := by unfold pl; rw [ep, e15]
  have ev : vlx σ (σ 3 1) = ((σ 14) (ps σ)).toInt := by
    unfold vlx
    rw [atv_at (j := ps σ) en.symm (by have := tk.1.2; omega)]
  have ek : (σ 3 2).toInt = ((σ 13) (ps σ)).toInt := by rw [p3]
  rw [es, ev, ek]
  refine ⟨fun c => ?_, fun c => ?_⟩
  · have := (tk.2.2 (ps σ) (by omega) (by omega)).2.2.1 c
    unfold pl
    omega
  · have := (tk.2.2 (ps σ) (by omega) (by omega)).2.2.2 c
    unfold pl
    omega
/-- the words of a step that is none of an expression -/
def cz (a : Int) : Int := (([0, 2, 3, 2, 0, 0, 3, 2, 2, 2, 3, 2, 0, 2, 2, 2, 0, 0, 0, 0, 0, 0, 1, 2, 2, 0, 0, 4, 2, 2, 0, 2, 0, 4, 4, 2, 2, 2, 3, 0, 0, 0, 0, 5, 3, 0, 3, 4, 0, 3] : List Nat).getD a.toNat 0 : Nat)
theorem add_z {a1 a2 a3 a4 : Int32} (h : ADD σ s a1 a2 a3 a4) (g : GA σ) (hd : (σ 3 3).toInt < 0 → ∀ z z', R z z' → dz a1.toInt a3 a4 z z') (hc : cz a1.toInt ≤ w) (h17 : a1.toInt ≠ 45) (hv : 0 ≤ v) (hn : a1.toInt = 43 ∨ a1.toInt = 47 → VN σ a2 v) : GRz σ s R 1 w v := ⟨h.1, h.2.1, fun hw => by
  have ep := add_pl h
  have e14 : (s 14) = (σ 14) := funext (fun j => h.1 14 j rfl rfl)
  have e13 : (s 13) = (σ 13) := funext (fun j => h.1 13 j rfl rfl)
  obtain ⟨h1, h2, h3, h4, h5, h6, h7⟩ := h
  have hw' : (σ 3 3).toInt < 0 := by rw [← h4]; exact hw
  obtain ⟨c1, c2, c3, c4, c5, c6⟩ := h7 hw'
  have p4 := (g.1 hw').2.2
  have ec := cn_eq p4
  refine ⟨hw', fun j hj => ?_, 1, by omega, by omega, ?_, ?_, by omega, fun z z' q => ⟨1, cn σ + 1, z', Or.inr (Or.inl ⟨rfl, ?_, fun c => ?_⟩), Nat.le_refl _, rfl, rfl⟩⟩
  · obtain ⟨x1, x2, x3⟩ := c6 j (by omega)
    exact ⟨x1, x2, fun _ => x3⟩
  · show ((cst s (cn σ) + 0 : Nat) : Int) ≤ _
    unfold cst
    rw [c2, if_neg h17]
    unfold cz at hc
    omega
  · show ((nst s (cn σ) + 0 : Nat) : Int) ≤ _
    unfold nst
    rw [c2, c3]
    split
    · rename_i c
      have := (hn c).1
      unfold vlx at this ⊢
      rw [e14]
      omega
    · show (0 : Int) ≤ _
      omega
  · rw [c2, c4, c5]
    exact hd hw' z z' q
  · rw [c2] at c
    have q2 := (hn c).2
    unfold tkx at q2 ⊢
    rw [c3, e13]
    exact q2⟩
theorem grz_k (h : GRz σ s R u w v) (k : Kp [(3, 9)] [22, 23] s t) : GRz σ t R u w v := by
  have e1 : (t 3 1) = (s 3 1) := k 3 1 rfl rfl
  have e2 : (t 3 2) = (s 3 2) := k 3 2 rfl rfl
  have e3 : (t 3 3) = (s 3 3) := k 3 3 rfl rfl
  have e4 : (t 3 4) = (s 3 4) := k 3 4 rfl rfl
  have e13 : (t 13) = (s 13) := funext (fun j => k 13 j rfl rfl)
  have e14 : (t 14) = (s 14) := funext (fun j => k 14 j rfl rfl)
  have e15 : (t 15) = (s 15) := funext (fun j => k 15 j rfl rfl)
  have e5 : (t 2 4) = (s 2 4) := k 2 4 rfl rfl
  have sm : ∀ j, SameZ s t j := fun j => ⟨⟨k 18 j rfl rfl, k 19 j rfl rfl⟩, k 20 j rfl rfl, fun _ => k 21 j rfl rfl⟩
  have ep : pl t = pl s := by unfold pl ps; rw [e1, e15]
  obtain ⟨h1, h2, h3⟩ := h
  refine ⟨kp_tr h1 (kp_sub k rfl rfl), ?_, fun hw => ?_⟩
  · unfold GA ps
    rw [e1, e2, e3, e4, e5, e13]
    exact h2
  · rw [e3] at hw
    obtain ⟨a1, a2, n, a3, a4, a5, a6, a7, a8⟩ := h3 hw
    refine ⟨a1, fun j hj => ?_, n, by rw [e4]; exact a3, by rw [ep]; exact a4, by rw [ep, csum_same e14 n _ (fun j _ _ => (sm j).1)]; exact a5, by rw [ep, nsum_same e14 n _ (fun j _ _ => (sm j).1)]; exact a6, by rw [ep]; exact a7, fun z z' q => ?_⟩
    · obtain ⟨b1, b2, b3⟩ := a2 j hj
      exact ⟨⟨(sm j).1.1.trans b1.1, (sm j).1.2.trans b1.2⟩, (sm j).2.1.trans b2, fun c => (k 21 j rfl rfl).trans (b3 c)⟩
    · obtain ⟨m, q2⟩ := a8 z z' q
      exact ⟨m, rz_same e13 m _ _ _ _ (fun j _ _ => sm j) q2⟩
/-- seconds at a bracket are told later -/
theorem grz_42 {x y : Int32} {f : Nat → Int32} (h : GRz σ s R u w v) (hf : f = setv 32100 (s 21) x y) (hx : (s 3 3).toInt < 0 → x.toInt < 0 ∨ ∃ j : Nat, x.toInt = j ∧ act s j = 42) : GRz σ (upF s 21 f) R u w v := by
  have hsec : ∀ j, act s j ≠ 42 → (s 3 3).toInt < 0 → f j = (s 21) j := fun j hj hw => by
    rw [hf]
    rcases setv_cases 32100 (s 21) x y with ⟨e, -⟩ | ⟨i, e1, e2, e3⟩
    · rw [e]
    · rw [e3]
      show (if j = i then y else _) = _
      rw [if_neg]
      intro e
      subst e
      rcases hx hw with q | ⟨i2, q1, q2⟩
      · omega
      · have : i2 = j := by omega
        subst this
        exact hj q2
  have sm : (s 3 3).toInt < 0 → ∀ j, SameZ s (upF s 21 f) j := fun hw j => ⟨⟨rfl, rfl⟩, rfl, fun c => hsec j c hw⟩
  obtain ⟨h1, h2, h3⟩ := h
  refine ⟨kp_F h1 rfl, h2, fun hw => ?_⟩
  have hw' : (s 3 3).toInt < 0 := hw
  obtain ⟨a1, a2, n, a3, a4, a5, a6, a7, a8⟩ := h3 hw'
  have ep : pl (upF s 21 f) = pl s := rfl
  refine ⟨a1, fun j hj => ?_, n, a3, by rw [ep]; exact a4, by rw [ep, csum_same (σ := s) (s := upF s 21 f) rfl n _ (fun j _ _ => (sm hw' j).1)]; exact a5, by rw [ep, nsum_same (σ := s) (s := upF s 21 f) rfl n _ (fun j _ _ => (sm hw' j).1)]; exact a6, by rw [ep]; exact a7, fun z z' q => ?_⟩
  · obtain ⟨b1, b2, b3⟩ := a2 j hj
    exact ⟨b1, b2, fun c => (hsec j (by rw [act_same b1]; exact c) hw').trans (b3 c)⟩
  · obtain ⟨m, q2⟩ := a8 z z' q
    exact ⟨m, rz_same (σ := s) (s := upF s 21 f) rfl m _ _ _ _ (fun j _ _ => sm hw' j) q2⟩
end GRZ
end

section
/-! the grammar: statements without others in them -/
def xR : RZs := fun z z' => ∃ F K, z = (F, K, []) ∧ z' = (F, K, [iV])
def kR (m : Nat) : RZs := rId (fun z => ∃ K, z = (1, K, []) ∧ sk m K)
abbrev P0 (σ : St) : Prop := (σ 3 9) = 0
section GSI
variable {σ s t : St} {R R' R'' : RZs} {u w v : Int} {m : Nat}
theorem p0_of (h : PSo σ s) (hp : P0 σ) : P0 s := h.1.trans hp
theorem exp_z {P : Zs → Prop} {x : Int} (r : ∀ l a, GRx σ s l a a (-2) (-4)) (h : (s 3 3).toInt < 0 → ADV σ s ∧ (σ 3 2).toInt = x) : GRz σ s (rId P) (-2) (-4) (-1) := by
  by_cases c : (s 3 3).toInt < 0
  · exact adv_z (h c).1
  · exact grz_bad (r 0 []).1 (r 0 []).2.1 (by omega)
theorem sp_gx {Q : St → Prop} (tk : TKc σ) (ga : GA σ) (cb : CBd σ 70) (hp : P0 σ) (k : ∀ s, GRz σ s xR (-1) (-1) 0 → P0 s → Q s) : wkG_expression (1 : Int32) σ Q := by
  have h0 : (σ 3 9).toInt = 0 := by rw [hp]; rfl
  exact spg_expr 1 σ Q rfl tk ga cb ⟨by omega, by omega⟩ (fun s r p => k s (grz_x r) (p0_of p hp))
theorem sp_gcond {a b : Int32} {Q : St → Prop} (tk : TKc σ) (ga : GA σ) (cb : CBd σ 70) (hp : P0 σ) (hR : ∀ z z', R z z' → ∃ F K, z = (F, K, []) ∧ dz a.toInt 0 0 (F, K, [iV]) z') (hc : cz a.toInt ≤ 4) (h45 : a.toInt ≠ 45 ∧ a.toInt ≠ 43 ∧ a.toInt ≠ 47) (k : ∀ s, GRz σ s R (-4) (-5) 0 → P0 s → Q s) : wk_X3_condition a b σ Q := by
  unfold wk_X3_condition
  refine sp_gexpect tk ga (by decide) (fun s3 r3' p3 e3 => ?_)
  have r3 := exp_z (P := fun z => ∃ F K, z = (F, K, [])) r3' e3
  refine sp_gx (tk_kg r3.1 tk) r3.2.1 (cb_grz cb r3 (by omega)) (p0_of p3 hp) (fun s4 r4' p4 => ?_)
  have r4 := grz_tr (R'' := xR) ga r3 r4' (fun z z'' q => ⟨z, ⟨by obtain ⟨F, K, e, -⟩ := q; exact ⟨F, K, e⟩, rfl⟩, q⟩)
  refine sp_gexpect (tk_kg r4.1 tk) r4.2.1 (by decide) (fun s5 r5' p5 e5 => ?_)
  have r5 := grz_tr (R'' := xR) ga r4 (exp_z (P := fun _ => True) r5' e5) (fun z z'' q => ⟨z'', q, trivial, rfl⟩)
  refine sp_gadd0 (tk_kg r5.1 tk) r5.2.1 (cb_grz cb r5 (by omega)) (fun v6 s6 ad _ => k s6 ?_ (p0_of ad.2.2.1 (p0_of p5 p4)))
  refine grz_wk (grz_tr (R'' := R) ga r5 (add_z (R := fun z z' => ∃ F K, z = (F, K, [iV]) ∧ dz a.toInt 0 0 z z') (w := 4) (v := 0) ad r5.2.1 (fun _ z z' q => by obtain ⟨F, K, rfl, q⟩ := q; exact q) hc h45.1 (by omega) (fun c => by omega)) (fun z z'' q => ?_)) (fun _ _ q => q) (by omega) (by omega) (by omega)
  obtain ⟨F, K, e1, q2⟩ := hR z z'' q
  subst e1
  exact ⟨_, ⟨F, K, rfl, rfl⟩, F, K, rfl, q2⟩
theorem sp_gsimple {Q : St → Prop} (hm : m ≤ 100) (tk : TKc σ) (ga : GA σ) (cb : CBd σ 70) (hp : P0 σ) (k : ∀ s, GRz σ s (kR m) 0 0 0 → P0 s → Q s) : wk_X3_simple σ Q := by
  have fin : ∀ s, GRz σ s (kR m) 2 4 1 → CBd s 90 → P0 s → wk_X3_expect (27 : Int32) s (fun s130 => Q s130) := fun s r c p => by
    refine sp_gexpect (tk_kg r.1 tk) r.2.1 (by decide) (fun s5 r5' p5 e5 => k s5 ?_ (p0_of p5 p))
    exact grz_wk (grz_tr (R'' := kR m) ga r (exp_z (P := fun _ => True) r5' e5) (fun z z'' q => ⟨z'', q, trivial, rfl⟩)) (fun _ _ q => q) (by omega) (by omega) (by omega)
  unfold wk_X3_simple
  refine ⟨fun s => GRz σ s (kR m) 2 4 1 ∧ CBd s 90 ∧ P0 s, fun s h => fin s h.1 h.2.1 h.2.2, 2 ≤ (σ 3 2).toInt, fun c => ⟨fun y => y = 36 ∨ y = 37, fun y hy => ?_, fun _ => Or.inr rfl, fun _ => Or.inl rfl⟩, fun c => by omega, fun _ => ⟨fun n15 => ⟨fun n16 => ?_, fun c16 => ?_⟩, fun c => by omega⟩⟩
  · have hy2 : y.toInt = 36 ∨ y.toInt = 37 := by rcases hy with e | e <;> subst e <;> decide
    refine sp_gadd0 tk ga (cb_le cb (by omega)) (fun v2 s2 ad _ => ?_)
    have r2 := add_z (R := kR m) (w := 2) (v := 0) ad ga (fun _ z z' q => by
      obtain ⟨⟨K, rfl, q2⟩, rfl⟩ := q
      exact dzc_36 ⟨hy2, K, rfl, rfl, by have := q2.1; omega, q2.2⟩) (by rcases hy with e | e <;> subst e <;> decide) (by omega) (by omega) (fun c => by omega)
    refine sp_gadv (tk_kg r2.1 tk) r2.2.1 (by rw [ad.2.2.2.2.2.1]; exact c) (fun s3 a3 => ?_)
    have r3 := grz_tr (R'' := kR m) ga r2 (adv_z (P := fun _ => True) a3) (fun z z'' q => ⟨z'', q, trivial, rfl⟩)
    exact ⟨grz_wk r3 (fun _ _ q => q) (by omega) (by omega) (by omega), cb_grz cb r3 (by omega), p0_of a3.2.2.2.2.1 (p0_of ad.2.2.1 hp)⟩
  · refine sp_gx tk ga cb hp (fun s2 r2 p2 => ?_)
    refine sp_gadd0 (tk_kg r2.1 tk) r2.2.1 (cb_grz cb r2 (by omega)) (fun v3 s3 ad _ => ?_)
    have r3 := grz_tr (R'' := kR m) ga r2 (add_z (R := fun z z' => ∃ K, z = (1, K, [iV]) ∧ z' = (1, K, []) ∧ sk m K) (w := 1) (v := 0) ad r2.2.1 (fun _ z z' q => by
      obtain ⟨K, rfl, rfl, q3⟩ := q
      exact dzc_22 ⟨by decide, K, rfl, rfl, by have := q3.1; omega⟩) (by decide) (by decide) (by omega) (fun c => absurd c (by decide))) (fun z z'' q => by
      obtain ⟨⟨K, rfl, q2⟩, rfl⟩ := q
      exact ⟨_, ⟨1, K, rfl, rfl⟩, K, rfl, rfl, q2⟩)
    exact ⟨grz_wk r3 (fun _ _ q => q) (by omega) (by omega) (by omega), cb_grz cb r3 (by omega), p0_of ad.2.2.1 p2⟩
  · refine sp_gadv tk ga (by omega) (fun s2 a2 => ?_)
    have r2 := adv_z (P := fun z => ∃ K, z = (1, K, []) ∧ sk m K) a2
    have p2 := p0_of a2.2.2.2.2.1 hp
    refine ⟨fun _ => True, fun y hy _ => ?_, fun _ => trivial, fun _ => trivial⟩
    have last : ∀ (y3 : Int32) s9 (R9 : RZs), GRz σ s9 R9 (-1) (-3) 0 → P0 s9 → (∀ z z', kR m z z' → ∃ z1, R9 z z1 ∧ ∃ K, z1 = (1, K, if y3.toInt = 0 then [] else [iV]) ∧ z' = (1, K, []) ∧ nz K ≤ 100) → wk_X3_add (38 : Int32) (σ 3 1) y3 (0 : Int32) s9 (fun v105 s105 => GRz σ s105 (kR m) 2 4 1 ∧ CBd s105 90 ∧ P0 s105) := fun y3 s9 R9 r9 p9 h9 => by
      refine sp_gadd0 (tk_kg r9.1 tk) r9.2.1 (cb_grz cb r9 (by omega)) (fun v3 s3 ad _ => ?_)
      have r3 := grz_tr (R'' := kR m) ga r9 (add_z (R := fun z z' => ∃ K, z = (1, K, if y3.toInt = 0 then [] else [iV]) ∧ z' = (1, K, []) ∧ nz K ≤ 100) (w := 3) (v := 0) ad r9.2.1 (fun _ z z' q => by
        exact dzc_38 ⟨by decide, q⟩) (by decide) (by decide) (by omega) (fun c => absurd c (by decide))) h9
      exact ⟨grz_wk r3 (fun _ _ q => q) (by omega) (by omega) (by omega), cb_grz cb r3 (by omega), p0_of ad.2.2.1 p9⟩
    by_cases hz : y.toInt = 0
    · refine ⟨fun s => s = s2, ?_, fun _ => rfl, fun c => absurd hz c⟩
      rintro s rfl
      refine ⟨fun y3 => y3 = 0, ?_, fun _ => rfl, fun c => absurd hz c⟩
      rintro y3 - rfl
      refine last 0 s _ (grz_wk r2 (fun _ _ q => q) (by omega) (by omega) (by omega)) p2 (fun z z' q => ?_)
      obtain ⟨⟨K, rfl, q2⟩, rfl⟩ := q
      exact ⟨_, ⟨⟨K, rfl, q2⟩, rfl⟩, K, rfl, rfl, by have := q2.1; omega⟩
    · refine ⟨fun s => GRz σ s (fun z z' => ∃ K, z = (1, K, []) ∧ sk m K ∧ z' = (1, K, [iV])) (-1) (-3) 0 ∧ P0 s, ?_, fun c => absurd c hz, fun _ => sp_gx (tk_kg r2.1 tk) r2.2.1 (cb_grz cb r2 (by omega)) p2 (fun s3 r3 p3 => ⟨?_, p3⟩)⟩
      · rintro s ⟨r9, p9⟩
        refine ⟨fun y3 => y3 = 1, ?_, fun c => absurd c hz, fun _ => rfl⟩
        rintro y3 - rfl
        refine last 1 s _ r9 p9 (fun z z' q => ?_)
        obtain ⟨⟨K, rfl, q2⟩, rfl⟩ := q
        exact ⟨_, ⟨K, rfl, q2, rfl⟩, K, rfl, rfl, by have := q2.1; omega⟩
      · exact grz_wk (grz_tr (R'' := fun z z' => ∃ K, z = (1, K, []) ∧ sk m K ∧ z' = (1, K, [iV])) ga r2 r3 (fun z z'' q => by
          obtain ⟨K, rfl, q2, rfl⟩ := q
          exact ⟨_, ⟨⟨K, rfl, q2⟩, rfl⟩, 1, K, rfl, rfl⟩)) (fun _ _ q => q) (by omega) (by omega) (by omega)
end GSI
end

