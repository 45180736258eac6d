/-! the grammar: tokens, and what stays -/
def TKc (σ : St) : Prop := (1 ≤ (σ 2 4).toInt ∧ (σ 2 4).toInt ≤ 16001 ∧ (σ 2 1).toInt ≤ 16000) ∧ (∀ j : Nat, (j : Int) < (σ 2 4).toInt → (0 ≤ ((σ 15) j).toInt ∧ ((σ 15) j).toInt ≤ (σ 2 1).toInt) ∧ 0 ≤ ((σ 13) j).toInt ∧ ((σ 13) j).toInt ≤ 62) ∧
  (∀ j : Nat, (j : Int) < (σ 2 4).toInt → 2 ≤ ((σ 13) j).toInt → (j : Int) + 1 < (σ 2 4).toInt ∧ ((σ 15) j).toInt + 1 ≤ ((σ 15) (j + 1)).toInt ∧ (((σ 13) j).toInt = 2 → 1 ≤ ((σ 14) j).toInt ∧ ((σ 15) j).toInt + ((σ 14) j).toInt ≤ ((σ 15) (j + 1)).toInt) ∧ (((σ 13) j).toInt = 4 → 0 ≤ ((σ 14) j).toInt ∧ ((σ 14) j).toInt ≤ 200 ∧ ((σ 15) j).toInt + ((σ 14) j).toInt + 2 ≤ ((σ 15) (j + 1)).toInt))
abbrev KG (a b : St) : Prop := Kp [(3, 1), (3, 2), (3, 3), (3, 4), (3, 9)] [18, 19, 20, 21, 22, 23] a b
def ps (σ : St) : Nat := (σ 3 1).toNatClampNeg
def pl (σ : St) : Int := ((σ 15) (ps σ)).toInt
def cn (σ : St) : Nat := (σ 3 4).toNatClampNeg
/-- where the reading stands; or it failed -/
def GA (σ : St) : Prop := ((σ 3 3).toInt < 0 → (0 ≤ (σ 3 1).toInt ∧ (σ 3 1).toInt < (σ 2 4).toInt) ∧ (σ 3 2) = (σ 13) (ps σ) ∧ 0 ≤ (σ 3 4).toInt) ∧ (0 ≤ (σ 3 3).toInt → (σ 3 2).toInt = -1)
def CBd (σ : St) (c : Int) : Prop := (σ 3 3).toInt < 0 → (σ 3 4).toInt ≤ 2 * pl σ + c
def PSo (σ s : St) : Prop := (s 3 9) = (σ 3 9) ∧ ∀ j : Nat, (j : Int) < (σ 3 9).toInt → (s 22) j = (σ 22) j
/-- a stretch of steps: with operands a ++ S before it, b ++ S behind it -/
def GRx (σ s : St) (l : Nat) (a b : List It) (u w : Int) : Prop :=
  KG σ s ∧ GA s ∧ ((s 3 3).toInt < 0 → (σ 3 3).toInt < 0 ∧ (∀ j : Nat, (j : Int) < (σ 3 4).toInt → SameAt σ s j ∧ (s 20) j = (σ 20) j ∧ (s 21) j = (σ 21) j) ∧ ∃ n : Nat, (s 3 4).toInt = (σ 3 4).toInt + n ∧ (n : Int) ≤ 2 * (pl s - pl σ) + u ∧ (csum s n (cn σ) : Int) ≤ 4 * (pl s - pl σ) + w ∧ pl σ ≤ pl s ∧ ∀ S : List It, S.length ≤ l → XR s n (cn σ) (a ++ S) (b ++ S))
section GRS
variable {σ s t : St} {l : Nat} {a b e : List It} {u w : Int}
theorem tk_kg (k : KG σ s) (h : TKc σ) : TKc s := by
  have e4 : (s 2 4) = (σ 2 4) := k 2 4 rfl rfl
  have e13 : (s 13) = (σ 13) := funext (fun j => k 13 j rfl rfl)
  have e14 : (s 14) = (σ 14) := funext (fun j => k 14 j rfl rfl)
  have e15 : (s 15) = (σ 15) := funext (fun j => k 15 j rfl rfl)
  have e1 : (s 2 1) = (σ 2 1) := k 2 1 rfl rfl
  unfold TKc
  rw [e1, e4, e13, e14, e15]
  exact h
theorem pl_rng (tk : TKc σ) (g : GA σ) (hw : (σ 3 3).toInt < 0) : 0 ≤ pl σ ∧ pl σ ≤ 16000 := by
  obtain ⟨⟨p1, p2⟩, p3, p4⟩ := g.1 hw
  have e := nt p1
  have h1 := (tk.2.1 (ps σ) (by unfold ps; omega)).1
  have h2 := tk.1.2.2
  unfold pl
  omega
theorem pso_rf : PSo σ σ := ⟨rfl, fun _ _ => rfl⟩
theorem pso_tr (h : PSo σ s) (g : PSo s t) : PSo σ t := ⟨g.1.trans h.1, fun j hj => (g.2 j (by rw [h.1]; exact hj)).trans (h.2 j hj)⟩
theorem pso_k (h1 : (s 3 9) = (σ 3 9)) (h2 : (s 22) = (σ 22)) : PSo σ s := ⟨h1, fun j _ => by rw [h2]⟩
theorem grx_rf (g : GA σ) : GRx σ σ l a a 0 0 := ⟨kp_rf, g, fun hw => ⟨hw, fun _ _ => ⟨⟨rfl, rfl⟩, rfl, rfl⟩, 0, by omega, by omega, by show ((0 : Nat) : Int) ≤ _; omega, Int.le_refl _, fun S _ => rfl⟩⟩
theorem grx_bad (k : KG σ s) (g : GA s) (h : 0 ≤ (s 3 3).toInt) : GRx σ s l a b u w := ⟨k, g, fun hw => absurd hw (by omega)⟩
theorem grx_wk {u' w' : Int} {l' : Nat} (h : GRx σ s l a b u w) (hl : l' ≤ l) (hu : u ≤ u') (hw : w ≤ w') : GRx σ s l' a b u' w' := ⟨h.1, h.2.1, fun c => by
  obtain ⟨h1, h2, n, h3, h4, h5, h6, h7⟩ := h.2.2 c
  exact ⟨h1, h2, n, h3, by omega, by omega, h6, fun S hS => h7 S (Nat.le_trans hS hl)⟩⟩
theorem cn_eq (h : 0 ≤ (σ 3 4).toInt) : (cn σ : Int) = (σ 3 4).toInt := nt h
theorem grx_tr {c : List It} {u' w' : Int} (g : GA σ) (h : GRx σ s l a b u w) (h2 : GRx s t l b c u' w') : GRx σ t l a c (u + u') (w + w') := ⟨kp_tr h.1 h2.1, h2.2.1, fun hw => by
  obtain ⟨b1, b2, m, b3, b4, b5, b6, b7⟩ := h2.2.2 hw
  obtain ⟨a1, a2, n, a3, a4, a5, a6, a7⟩ := h.2.2 b1
  have c0 := (g.1 a1).2.2
  have e0 := cn_eq c0
  have e1 : (cn s : Int) = (s 3 4).toInt := cn_eq (by omega)
  have ec : cn s = cn σ + n := by omega
  have hk : (t 13) = (s 13) := funext (fun j => h2.1 13 j rfl rfl)
  have hv : (t 14) = (s 14) := funext (fun j => h2.1 14 j rfl rfl)
  have sm : ∀ j, cn σ ≤ j → j < cn σ + n → SameAt s t j := fun j h1 h2 => (b2 j (by omega)).1
  refine ⟨a1, fun j hj => ?_, n + m, by omega, by omega, ?_, by omega, fun S hS => ?_⟩
  · obtain ⟨x1, x2, x3⟩ := a2 j hj
    obtain ⟨y1, y2, y3⟩ := b2 j (by omega)
    exact ⟨⟨y1.1.trans x1.1, y1.2.trans x1.2⟩, y2.trans x2, y3.trans x3⟩
  · rw [csum_app, csum_same hv n _ sm, ← ec]
    omega
  · exact xr_app n _ m _ _ _ (xr_same hk n _ _ _ sm (a7 S hS)) (by rw [← ec]; exact b7 S hS)⟩
theorem grx_ctx {l' : Nat} (h : GRx σ s l' a b u w) (hl : l + e.length ≤ l') : GRx σ s l (a ++ e) (b ++ e) u w := ⟨h.1, h.2.1, fun c => by
  obtain ⟨h1, h2, n, h3, h4, h5, h6, h7⟩ := h.2.2 c
  refine ⟨h1, h2, n, h3, h4, h5, h6, fun S hS => ?_⟩
  rw [List.append_assoc, List.append_assoc]
  exact h7 (e ++ S) (by rw [List.length_append]; omega)⟩
theorem cb_grx {c : Int} (g : CBd σ c) (h : GRx σ s l a b u w) {c' : Int} (hu : c + u ≤ c') : CBd s c' := fun hw => by
  obtain ⟨h1, h2, n, h3, h4, h5, h6, h7⟩ := h.2.2 hw
  have := g h1
  omega
/-! its small methods -/
def ADV (σ s : St) : Prop := (s 3 1) = (σ 3 1) + 1 ∧ (s 3 3) = (σ 3 3) ∧ (s 3 4) = (σ 3 4) ∧ (∀ l a, GRx σ s l a a (-2) (-4)) ∧ PSo σ s ∧ (σ 3 3).toInt < 0
theorem sp_gadv {Q : St → Prop} (tk : TKc σ) (g : GA σ) (hk : 2 ≤ (σ 3 2).toInt) (k : ∀ s, ADV σ s → Q s) : wk_X3_advance σ Q := by
  have hw : (σ 3 3).toInt < 0 := by
    by_cases c : (σ 3 3).toInt < 0
    · exact c
    · have := g.2 (by omega)
      omega
  obtain ⟨⟨p1, p2⟩, p3, p4⟩ := g.1 hw
  have en : (ps σ : Int) = (σ 3 1).toInt := nt p1
  obtain ⟨t1, t2, t3⟩ := tk
  have r3 := t3 (ps σ) (by omega) (by rw [← p3]; exact hk)
  have e1 : ((σ 3 1) + (1 : Int32)).toInt = (σ 3 1).toInt + 1 := ad1 (by omega)
  unfold wk_X3_advance
  refine ⟨fun y => y = 1, ?_, False, fun f => f.elim, fun c => by omega, fun _ => ⟨fun c => by omega, fun _ => ⟨fun c => by omega, fun _ => rfl⟩⟩⟩
  rintro y - rfl
  refine ⟨fun c => absurd c (by decide), fun _ => ⟨⟨by omega, by omega⟩, k _ ?_⟩⟩
  have en2 : ((σ 3 1) + (1 : Int32)).toNatClampNeg = ps σ + 1 := by
    have := nt (x := (σ 3 1) + (1 : Int32)) (by omega)
    omega
  rw [en2]
  have q1 : ps (upC (upC σ 3 1 ((σ 3 1) + (1 : Int32))) 3 2 ((σ 13) (ps σ + 1))) = ps σ + 1 := en2
  have q2 : pl (upC (upC σ 3 1 ((σ 3 1) + (1 : Int32))) 3 2 ((σ 13) (ps σ + 1))) = ((σ 15) (ps σ + 1)).toInt := by
    unfold pl
    rw [q1]
    rfl
  have q3 : pl σ + 1 ≤ ((σ 15) (ps σ + 1)).toInt := r3.2.1
  refine ⟨rfl, rfl, rfl, fun l a => ⟨kp_f (kp_f kp_rf rfl) rfl, ⟨fun _ => ⟨⟨by show 0 ≤ ((σ 3 1) + (1 : Int32)).toInt; omega, by show ((σ 3 1) + (1 : Int32)).toInt < (σ 2 4).toInt; omega⟩, by rw [q1]; rfl, p4⟩, fun c => ?_⟩, fun _ => ⟨hw, fun _ _ => ⟨⟨rfl, rfl⟩, rfl, rfl⟩, 0, ?_, ?_, ?_, ?_, fun S _ => rfl⟩⟩, pso_k rfl rfl, hw⟩
  · have : 0 ≤ (σ 3 3).toInt := c
    omega
  · show (σ 3 4).toInt = (σ 3 4).toInt + 0
    omega
  · rw [q2]; omega
  · rw [q2]
    show ((0 : Nat) : Int) ≤ _
    omega
  · rw [q2]; omega
theorem sp_gfail {Q : St → Prop} (g : GA σ) (k : ∀ s, (∀ l a b u w, GRx σ s l a b u w) → PSo σ s → 0 ≤ (s 3 3).toInt → Q s) : wk_X3_fail σ Q := by
  unfold wk_X3_fail
  have i : ((-1 : Int32)).toInt = -1 := by decide
  refine ⟨fun c => k _ (fun l a b u w => grx_bad (kp_f kp_rf rfl) ⟨fun d => ?_, fun _ => i⟩ c) (pso_k rfl rfl) c, fun c => ?_⟩
  · have : (σ 3 3).toInt < 0 := d
    omega
  · have p := (g.1 c).1.1
    exact k _ (fun l a b u w => grx_bad (kp_f (kp_f kp_rf rfl) rfl) ⟨fun d => absurd (show (σ 3 1).toInt < 0 from d) (by omega), fun _ => i⟩ p) (pso_k rfl rfl) p
theorem sp_gexpect {x : Int32} {Q : St → Prop} (tk : TKc σ) (g : GA σ) (hx : 2 ≤ x.toInt) (k : ∀ s, (∀ l a, GRx σ s l a a (-2) (-4)) → PSo σ s → ((s 3 3).toInt < 0 → ADV σ s ∧ (σ 3 2).toInt = x.toInt) → Q s) : wk_X3_expect x σ Q := by
  unfold wk_X3_expect
  exact ⟨fun c => sp_gfail g (fun s r p bad => k s (fun l a => r l a a _ _) p (fun h => by omega)), fun c => sp_gadv tk g (by omega) (fun s r => k s r.2.2.2.1 r.2.2.2.2.1 (fun _ => ⟨r, c⟩))⟩
theorem sp_gaccept {x : Int32} {Q : Int32 → St → Prop} (tk : TKc σ) (g : GA σ) (hx : 2 ≤ x.toInt) (k0 : (σ 3 2).toInt ≠ x.toInt → Q 0 σ) (k1 : ∀ s, ADV σ s → (σ 3 2).toInt = x.toInt → Q 1 s) : wk_X3_accept x σ Q := by
  unfold wk_X3_accept
  refine ⟨fun y => (y = 0 ∧ (σ 3 2).toInt ≠ x.toInt) ∨ (y = 1 ∧ (σ 3 2).toInt = x.toInt), ?_, fun c => Or.inl ⟨rfl, c⟩, fun c => Or.inr ⟨rfl, c⟩⟩
  rintro y - (⟨rfl, c⟩ | ⟨rfl, c⟩)
  · exact ⟨fun _ => k0 c, fun e => absurd rfl e⟩
  · exact ⟨fun e => absurd e (by decide), fun _ => sp_gadv tk g (by omega) (fun s r => k1 s r c)⟩
theorem sp_gdeeper {x : Int32} {Q : Int32 → St → Prop} (tk : TKc σ) (g : GA σ) (hk : 2 ≤ (σ 3 2).toInt) (k0 : ∀ s, (∀ l a b u w, GRx σ s l a b u w) → PSo σ s → Q 0 s) (k1 : ∀ s, x.toInt < 25 → ADV σ s → Q 1 s) : wk_X3_deeper x σ Q := by
  unfold wk_X3_deeper
  refine ⟨fun y => y = 0 ∨ (y = 1 ∧ x.toInt < 25), ?_, fun _ => Or.inl rfl, fun c => Or.inr ⟨rfl, c⟩⟩
  rintro y - (rfl | ⟨rfl, c⟩)
  · exact ⟨fun _ => sp_gfail g (fun s r p bad => k0 s r p), fun e => absurd rfl e⟩
  · exact ⟨fun e => absurd e (by decide), fun _ => sp_gadv tk g hk (fun s r => k1 s c r)⟩
def adS (σ : St) (a1 a2 a3 a4 : Int32) : St := upC (upC (upC (upC (upC σ 18 (σ 3 4).toNatClampNeg a1) 19 (σ 3 4).toNatClampNeg a2) 20 (σ 3 4).toNatClampNeg a3) 21 (σ 3 4).toNatClampNeg a4) 3 4 ((σ 3 4) + (1 : Int32))
/-- a step is put: as it is where nothing failed -/
def ADD (σ s : St) (a1 a2 a3 a4 : Int32) : Prop := KG σ s ∧ GA s ∧ PSo σ s ∧ (s 3 3) = (σ 3 3) ∧ (s 3 1) = (σ 3 1) ∧ (s 3 2) = (σ 3 2) ∧ ((σ 3 3).toInt < 0 → (s 3 4).toInt = (σ 3 4).toInt + 1 ∧ act s (cn σ) = a1.toInt ∧ (s 19) (cn σ) = a2 ∧ (s 20) (cn σ) = a3 ∧ (s 21) (cn σ) = a4 ∧ ∀ j : Nat, j ≠ cn σ → SameAt σ s j ∧ (s 20) j = (σ 20) j ∧ (s 21) j = (σ 21) j)
theorem sp_gadd0 {a1 a2 a3 a4 : Int32} {Q : Int32 → St → Prop} (tk : TKc σ) (g : GA σ) (cb : CBd σ 90) (k : ∀ v s, ADD σ s a1 a2 a3 a4 → ((σ 3 3).toInt < 0 → v = (σ 3 4)) → Q v s) : wk_X3_add a1 a2 a3 a4 σ Q := by
  have bad : ∀ v, 0 ≤ (σ 3 3).toInt → Q v σ := fun v h => k v σ ⟨kp_rf, g, pso_rf, rfl, rfl, rfl, fun c => absurd c (by omega)⟩ (fun c => absurd c (by omega))
  have ok : (σ 3 3).toInt < 0 → 0 ≤ (σ 3 4).toInt ∧ (σ 3 4).toInt < 32100 := fun h => by
    have := pl_rng tk g h
    have := cb h
    exact ⟨(g.1 h).2.2, by omega⟩
  have fail : ¬ (0 ≤ (σ 3 4).toInt ∧ (σ 3 4).toInt < 32100) → Q (σ 3 4) σ := fun h => bad _ (by
    by_cases c : (σ 3 3).toInt < 0
    · exact absurd (ok c) h
    · omega)
  unfold wk_X3_add
  refine ⟨fun c => fail (by omega), fun c0 => ⟨fun c => fail (by omega), fun c1 => ⟨fun c => fail (by omega), fun _ => ⟨fun c => fail (by omega), fun _ => ⟨fun c => fail (by omega), fun _ => ⟨⟨c0, c1⟩, ⟨c0, c1⟩, ⟨c0, c1⟩, ⟨c0, c1⟩, ?_⟩⟩⟩⟩⟩⟩
  have e1 : ((σ 3 4) + (1 : Int32)).toInt = (σ 3 4).toInt + 1 := ad1 (by omega)
  show Q _ (adS σ a1 a2 a3 a4)
  have r18 : ∀ j, adS σ a1 a2 a3 a4 18 j = if j = cn σ then a1 else σ 18 j := fun j => by
    unfold adS cn
    simp only [rdC, Nat.reduceEqDiff, if_true, if_false]
  have r19 : ∀ j, adS σ a1 a2 a3 a4 19 j = if j = cn σ then a2 else σ 19 j := fun j => by
    unfold adS cn
    simp only [rdC, Nat.reduceEqDiff, if_true, if_false]
  have r20 : ∀ j, adS σ a1 a2 a3 a4 20 j = if j = cn σ then a3 else σ 20 j := fun j => by
    unfold adS cn
    simp only [rdC, Nat.reduceEqDiff, if_true, if_false]
  have r21 : ∀ j, adS σ a1 a2 a3 a4 21 j = if j = cn σ then a4 else σ 21 j := fun j => by
    unfold adS cn
    simp only [rdC, Nat.reduceEqDiff, if_true, if_false]
  refine k _ _ ⟨kp_f (kp_a (kp_a (kp_a (kp_a kp_rf rfl) rfl) rfl) rfl) rfl, ⟨fun h => ?_, fun h => g.2 h⟩, pso_k rfl rfl, rfl, rfl, rfl, fun h => ⟨e1, ?_, ?_, ?_, ?_, fun j hj => ⟨⟨?_, ?_⟩, ?_, ?_⟩⟩⟩ (fun _ => rfl)
  · obtain ⟨p1, p3, p4⟩ := g.1 h
    exact ⟨p1, p3, by show 0 ≤ ((σ 3 4) + (1 : Int32)).toInt; omega⟩
  · unfold act
    rw [r18, if_pos rfl]
  · rw [r19, if_pos rfl]
  · rw [r20, if_pos rfl]
  · rw [r21, if_pos rfl]
  · rw [r18, if_neg hj]
  · rw [r19, if_neg hj]
  · rw [r20, if_neg hj]
  · rw [r21, if_neg hj]
theorem add_pl {a1 a2 a3 a4 : Int32} (h : ADD σ s a1 a2 a3 a4) : pl s = pl σ := by
  have e15 : (s 15) = (σ 15) := funext (fun j => h.1 15 j rfl rfl)
  unfold pl ps
  rw [h.2.2.2.2.1, e15]
/-- of an expression -/
theorem add_grx {a1 a2 a3 a4 : Int32} (h : ADD σ s a1 a2 a3 a4) (g : GA σ) (hd : (σ 3 3).toInt < 0 → ∀ S : List It, S.length ≤ l → dx a1.toInt (tkx σ a2) (a ++ S) (b ++ S)) (hc : (([0, 2, 3, 2, 0, 0, 3, 2, 2, 2, 3, 2, 0, 2, 2, 2, 0] : List Nat).getD a1.toInt.toNat 0 : Int) ≤ w) (h17 : a1.toInt ≤ 16) : GRx σ s l a b 1 w := ⟨h.1, h.2.1, fun hw => by
  have ep := add_pl h
  obtain ⟨h1, h2, h3, h4, h5, h6, h7⟩ := h
  have hw' : (σ 3 3).toInt < 0 := by rw [← h4]; exact hw
  obtain ⟨c1, c2, c3, c4, c5, c6⟩ := h7 hw'
  have p4 := (g.1 hw').2.2
  have ec := cn_eq p4
  have e13 : (s 13) = (σ 13) := funext (fun j => h1 13 j rfl rfl)
  refine ⟨hw', fun j hj => c6 j (by omega), 1, by omega, by omega, ?_, by omega, fun S hS => ⟨b ++ S, ?_, rfl⟩⟩
  · show ((cst s (cn σ) + 0 : Nat) : Int) ≤ _
    have e : cst s (cn σ) = ([0, 2, 3, 2, 0, 0, 3, 2, 2, 2, 3, 2, 0, 2, 2, 2, 0] : List Nat).getD a1.toInt.toNat 0 := by
      unfold cst
      rw [c2, if_neg (by omega)]
      have : ∀ m, m ≤ 16 → ([0, 2, 3, 2, 0, 0, 3, 2, 2, 2, 3, 2, 0, 2, 2, 2, 0, 0, 0, 0, 0, 0, 1, 2, 2, 0, 0, 4, 2, 2, 0, 2, 0, 4, 4, 2, 2, 2, 3, 0, 0, 0, 0, 5, 3, 0, 3, 4, 0, 3] : List Nat).getD m 0 = ([0, 2, 3, 2, 0, 0, 3, 2, 2, 2, 3, 2, 0, 2, 2, 2, 0] : List Nat).getD m 0 := by decide
      rw [this _ (by omega)]
      omega
    rw [e]
    omega
  · rw [c2, c3]
    unfold tkx
    rw [e13]
    exact hd hw' S hS⟩
end GRS
