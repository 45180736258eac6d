/-! what holds between two calls -/
def fO (σ : St) (o : Nat) : Int := ((σ 22) o).toInt
def InO (σ : St) (o e : Nat) : Prop := fO σ o ≤ (e : Int) ∧ (e : Int) < fO σ (o + 1)
def FnD (σ : St) (e : Nat) : Prop := ((σ 9) e).toInt = 2 ∧ (σ 13) e ≠ 0
def ITr (σ : St) (a b d : Int) : Prop := 0 ≤ a ∧ ∃ n : Nat, b = a + 3 * n ∧ ∀ j : Nat, j < n → (0 ≤ ((σ 25) (a + 3 * j).toNat).toInt ∧ ((σ 25) (a + 3 * j).toNat).toInt < d) ∧ ((σ 25) (a + 3 * j + 2).toNat).toInt ≤ 100
def HH (σ : St) (e h h' : Nat) : Prop := ((σ 15) e).toInt ≤ h ∧ (h' : Int) = h - ((σ 15) e).toInt + (if ((σ 10) e).toInt = -1 then 0 else 1)
def COo (σ : St) (o : Nat) (n : Int) (h h' : Nat) : Prop := 0 ≤ n ∧ ∃ e : Nat, (e : Int) = fO σ o + n ∧ InO σ o e ∧ ((σ 9) e).toInt = 2 ∧ (σ 14) e ≠ 0 ∧ ((σ 12) e ≠ 0 → (σ 13) e ≠ 0) ∧ HH σ e h h'
/-- a function's body -/
def BDk (σ : St) (f o : Nat) (C : Int → Nat → Nat → Prop) : Prop := ∃ b : Nat, ((σ 17) f).toInt = b ∧ (b : Int) < (σ 0 45).toInt ∧ (σ 54) b = (σ 15) f ∧ ((σ 27) b).toInt = o ∧ BT σ b (((σ 10) f).toInt = -1) C
def OBJ (σ : St) (o : Nat) : Prop := (0 ≤ fO σ o ∧ fO σ o ≤ 100 * o ∧ fO σ o ≤ fO σ (o + 1) ∧ fO σ (o + 1) ≤ fO σ o + 100) ∧ (0 ≤ ((σ 23) o).toInt ∧ ((σ 23) o).toInt ≤ 16000) ∧ ITr σ ((σ 24) o).toInt ((σ 24) (o + 1)).toInt ((σ 23) o).toInt ∧ ∀ e, InO σ o e → FnD σ e → BDk σ e o (COo σ o)
/-- linked objects -/
def LKo (σ : St) (o : Nat) : Prop := ∃ p : Nat, (p : Int) < (σ 0 70).toInt ∧ ((σ 41) p).toInt = (o : Int) + 1
def AIMk (σ : St) (e : Nat) : Prop := (0 ≤ ((σ 43) e).toInt → ∃ o f, LKo σ o ∧ InO σ o f ∧ FnD σ f ∧ (σ 43) e = (σ 17) f ∧ (σ 15) f = (σ 15) e ∧ (σ 10) f = (σ 10) e) ∧ (((σ 43) e).toInt < 0 → -4 ≤ ((σ 43) e).toInt ∧ (((σ 43) e).toInt = -1 → ((σ 15) e).toInt = 0 ∧ ((σ 10) e).toInt = 0) ∧ (((σ 43) e).toInt ≠ -1 → ((σ 15) e).toInt = 1 ∧ ((σ 10) e).toInt = -1))
def CAL (σ : St) (o : Nat) (n : Int) (h h' : Nat) : Prop := (0 ≤ n ∧ n < 100) ∧ ∃ e : Nat, (e : Int) = fO σ o + n ∧ InO σ o e ∧ AIMk σ e ∧ HH σ e h h'
def LNk (σ : St) : Prop := (∀ p : Nat, (p : Int) < (σ 0 70).toInt → 1 ≤ ((σ 41) p).toInt ∧ ((σ 41) p).toInt ≤ (σ 0 35).toInt) ∧ (∀ o, LKo σ o → ∀ f, InO σ o f → FnD σ f → BDk σ f o (CAL σ o)) ∧ ∃ o f, LKo σ o ∧ InO σ o f ∧ FnD σ f ∧ (σ 17) f = (σ 0 78) ∧ ((σ 15) f).toInt = 0
def LNK (σ : St) : Prop := (-1 ≤ (σ 0 70).toInt ∧ (σ 0 70).toInt ≤ 100) ∧ (0 ≤ (σ 0 70).toInt → LNk σ)
def PCK (σ : St) : Prop := (0 ≤ (σ 0 67).toInt ∧ (σ 0 67).toInt ≤ 100) ∧ (∀ k : Nat, (k : Int) < (σ 0 67).toInt → 1 ≤ ((σ 40) k).toInt ∧ ((σ 40) k).toInt ≤ (σ 0 35).toInt) ∧ ∀ j k : Nat, j < k → (k : Int) < (σ 0 67).toInt → (σ 40) j ≠ (σ 40) k
def MIS (σ : St) : Prop := (0 ≤ (σ 0 88).toInt ∧ (σ 0 88).toInt ≤ 4096) ∧ (0 ≤ (σ 0 91).toInt ∧ (σ 0 91).toInt ≤ 4096)
def NUG (σ : St) (vs : List Nat) : Prop := (0 ≤ (σ 0 1).toInt ∧ (σ 0 1).toInt ≤ 16000) ∧ (0 ≤ (σ 0 35).toInt ∧ (σ 0 35).toInt ≤ 100) ∧ (0 ≤ (σ 0 31).toInt ∧ (σ 0 31).toInt + (σ 0 1).toInt ≤ (σ 0 2).toInt) ∧ (0 ≤ (σ 0 17).toInt ∧ (σ 0 17).toInt + 40 * (σ 0 1).toInt ≤ 40 * (σ 0 2).toInt) ∧ (0 ≤ (σ 0 39).toInt ∧ (σ 0 39).toInt + 12 * (σ 0 1).toInt ≤ 12 * (σ 0 2).toInt) ∧ (vs.length : Int) + 2 * (σ 0 1).toInt ≤ 2 * (σ 0 2).toInt ∧ (0 ≤ (σ 0 45).toInt ∧ 2 * (σ 0 45).toInt + (σ 0 1).toInt ≤ (σ 0 2).toInt)
def ENG (σ : St) : Prop := (σ 0 36) = (σ 22) (σ 0 35).toNatClampNeg ∧ (σ 0 39) = (σ 24) (σ 0 35).toNatClampNeg ∧ (0 ≤ (σ 0 36).toInt ∧ (σ 0 36).toInt ≤ 100 * (σ 0 35).toInt)
def ARG (σ τ : St) : Prop := (AllIn 0 16000 (σ 3) ∧ AllIn 0 16000 (σ 4)) ∧ AllIn 0 16001 (σ 34) ∧ AllIn 0 99 (σ 35) ∧ AllIn (-1) 16001 (σ 21) ∧ AllIn 0 8 (σ 15) ∧ NMo σ ∧ AllIn 0 10 (σ 31) ∧ AllIn (-1) 10 (σ 10) ∧ VTy σ ∧ AllIn 0 16000 (σ 17) ∧ AllIn 0 10 (σ 16) ∧ AllIn (-1) 4000 (σ 32) ∧ VOK τ
def GLI (σ τ : St) (vs : List Nat) : Prop := NUG σ vs ∧ ENG σ ∧ ARG σ τ ∧ (∀ o : Nat, (o : Int) < (σ 0 35).toInt → OBJ σ o) ∧ PCK σ ∧ LNK σ ∧ MIS σ
/-- what stays of the objects that there are -/
def OLD (σ s : St) : Prop := (∀ o : Nat, (o : Int) ≤ (σ 0 35).toInt → (s 22) o = (σ 22) o ∧ (s 24) o = (σ 24) o) ∧ (∀ o : Nat, (o : Int) < (σ 0 35).toInt → (s 23) o = (σ 23) o) ∧ (∀ e : Nat, (e : Int) < (σ 0 36).toInt → (s 9) e = (σ 9) e ∧ (s 10) e = (σ 10) e ∧ (s 15) e = (σ 15) e ∧ (s 12) e = (σ 12) e ∧ ((σ 14) e ≠ 0 → (s 14) e ≠ 0) ∧ (s 13) e = (σ 13) e ∧ (s 17) e = (σ 17) e) ∧ (RW σ s ∧ UB σ s ∧ ∀ j : Nat, (j : Int) < (σ 0 39).toInt → (s 25) j = (σ 25) j) ∧ ((σ 0 17).toInt ≤ (s 0 17).toInt ∧ (σ 0 45).toInt ≤ (s 0 45).toInt ∧ (σ 0 35).toInt ≤ (s 0 35).toInt)
/-- what only links and runs touch -/
def OLK (σ s : St) : Prop := (s 43) = (σ 43) ∧ (s 41) = (σ 41) ∧ (s 0 70) = (σ 0 70) ∧ (s 0 78) = (σ 0 78)
section GIS
variable {σ s τ t : St} {vs z : List Nat}
theorem fo_mono (h : ∀ o : Nat, (o : Int) < (σ 0 35).toInt → OBJ σ o) (o : Nat) : ∀ d : Nat, (o : Int) + d ≤ (σ 0 35).toInt → fO σ o ≤ fO σ (o + d) := fun d => by
  induction d with
  | zero => exact fun _ => Int.le_refl _
  | succ d ih =>
    intro hd
    have h1 := ih (by omega)
    have h2 := (h (o + d) (by omega)).1.2.2.1
    have e : o + (d + 1) = o + d + 1 := by omega
    rw [e]
    omega
theorem fo_ent (hE : ENG σ) (h0 : 0 ≤ (σ 0 35).toInt) (h : ∀ o : Nat, (o : Int) < (σ 0 35).toInt → OBJ σ o) {o : Nat} (ho : (o : Int) ≤ (σ 0 35).toInt) : fO σ o ≤ (σ 0 36).toInt := by
  have n := nt h0
  have h1 := fo_mono h o ((σ 0 35).toNatClampNeg - o) (by omega)
  have e : o + ((σ 0 35).toNatClampNeg - o) = (σ 0 35).toNatClampNeg := by omega
  rw [e] at h1
  have e2 := hE.1
  unfold fO at h1
  rw [← e2] at h1
  exact h1
theorem fi_mono (h : ∀ o : Nat, (o : Int) < (σ 0 35).toInt → OBJ σ o) (o : Nat) : ∀ d : Nat, (o : Int) + d ≤ (σ 0 35).toInt → ((σ 24) o).toInt ≤ ((σ 24) (o + d)).toInt := fun d => by
  induction d with
  | zero => exact fun _ => Int.le_refl _
  | succ d ih =>
    intro hd
    have h1 := ih (by omega)
    obtain ⟨h2, n, h3, -⟩ := (h (o + d) (by omega)).2.2.1
    have e : o + (d + 1) = o + d + 1 := by omega
    rw [e]
    omega
theorem fi_cnt (hE : ENG σ) (h0 : 0 ≤ (σ 0 35).toInt) (h : ∀ o : Nat, (o : Int) < (σ 0 35).toInt → OBJ σ o) {o : Nat} (ho : (o : Int) ≤ (σ 0 35).toInt) : ((σ 24) o).toInt ≤ (σ 0 39).toInt := by
  have n := nt h0
  have h1 := fi_mono h o ((σ 0 35).toNatClampNeg - o) (by omega)
  have e : o + ((σ 0 35).toNatClampNeg - o) = (σ 0 35).toNatClampNeg := by omega
  rw [e] at h1
  have e2 := hE.2.1
  rw [← e2] at h1
  exact h1
theorem itr_of {a b d : Int} (hj : ∀ j : Nat, (j : Int) < b → (s 25) j = (σ 25) j) (h : ITr σ a b d) : ITr s a b d := by
  obtain ⟨h1, n, h2, h3⟩ := h
  refine ⟨h1, n, h2, fun j hn => ?_⟩
  obtain ⟨g1, g2⟩ := h3 j hn
  rw [hj _ (by omega), hj _ (by omega)]
  exact ⟨g1, g2⟩
theorem bdk_old {f o : Nat} {C C' : Int → Nat → Nat → Prop} (h1 : (s 17) f = (σ 17) f) (h2 : (s 15) f = (σ 15) f) (h3 : (s 10) f = (σ 10) f) (hr : RW σ s) (hu : UB σ s) (hw : (σ 0 17).toInt ≤ (s 0 17).toInt) (hb : (σ 0 45).toInt ≤ (s 0 45).toInt) (hC : ∀ n h h', C n h h' → C' n h h') (h : BDk σ f o C) : BDk s f o C' := by
  obtain ⟨b, b1, b2, b3, b4, b5⟩ := h
  obtain ⟨u1, u2, u3, u4, u5, u6⟩ := hu b b2
  refine ⟨b, by rw [h1]; exact b1, by omega, by rw [u6, h2]; exact b3, by rw [u2]; exact b4, ?_⟩
  rw [h3]
  exact bt_ur b2 hr hw hu hC b5
theorem hh_eq {e h h' : Nat} (h1 : (s 15) e = (σ 15) e) (h2 : (s 10) e = (σ 10) e) (k : HH σ e h h') : HH s e h h' := by
  unfold HH
  rw [h1, h2]
  exact k
theorem ino_old {o e : Nat} (g : OLD σ s) (ho : (o : Int) < (σ 0 35).toInt) : InO s o e ↔ InO σ o e := by
  unfold InO fO
  rw [(g.1 o (by omega)).1, (g.1 (o + 1) (by omega)).1]
theorem obj_old {o : Nat} (g : OLD σ s) (hE : ENG σ) (h : ∀ o : Nat, (o : Int) < (σ 0 35).toInt → OBJ σ o) (ho : (o : Int) < (σ 0 35).toInt) : OBJ s o := by
  have hi : ∀ {e : Nat}, InO s o e ↔ InO σ o e := fun {e} => ino_old (e := e) g ho
  have i1 := fo_ent hE (by omega) h (o := o + 1) (by omega)
  have i2 := fi_cnt hE (by omega) h (o := o + 1) (by omega)
  obtain ⟨g1, g2, g3, ⟨g4, g5, g6⟩, g7, g8, g9⟩ := g
  obtain ⟨f1, f2⟩ := g1 o (by omega)
  obtain ⟨f3, f4⟩ := g1 (o + 1) (by omega)
  obtain ⟨h1, h2, h3, h4⟩ := h o ho
  refine ⟨by unfold fO; rw [f1, f3]; exact h1, by rw [g2 o ho]; exact h2, ?_, fun e he hd => ?_⟩
  · rw [f2, f4, g2 o ho]
    exact itr_of (fun j hj => g6 j (by omega)) h3
  · have he' := hi.mp he
    have hlt : (e : Int) < (σ 0 36).toInt := by have := he'.2; omega
    obtain ⟨e1, e2, e3, e4, e5, e6, e7⟩ := g3 e hlt
    have hd' : FnD σ e := ⟨by rw [← e1]; exact hd.1, by rw [← e6]; exact hd.2⟩
    refine bdk_old e7 e3 e2 g4 g5 g7 g8 (fun n a b c => ?_) (h4 e he' hd')
    obtain ⟨c1, e9, c2, c3, c4, c5, c6, c7⟩ := c
    have hlt9 : (e9 : Int) < (σ 0 36).toInt := by have := c3.2; omega
    obtain ⟨k1, k2, k3, k4, k5, k6, k7⟩ := g3 e9 hlt9
    exact ⟨c1, e9, by unfold fO at c2 ⊢; rw [f1]; exact c2, by unfold InO fO at c3 ⊢; rw [f1, f3]; exact c3, by rw [k1]; exact c4, k5 c5, by rw [k4, k6]; exact c6, hh_eq k3 k2 c7⟩
theorem lko_old {o : Nat} (g : OLK σ s) : LKo s o ↔ LKo σ o := by
  unfold LKo
  rw [g.2.1, g.2.2.1]
theorem lko_lt {o : Nat} (h : LNk σ) (k : LKo σ o) : (o : Int) < (σ 0 35).toInt := by
  obtain ⟨p, p1, p2⟩ := k
  have := h.1 p p1
  omega
theorem lnk_old (g : OLD σ s) (k : OLK σ s) (hE : ENG σ) (h : ∀ o : Nat, (o : Int) < (σ 0 35).toInt → OBJ σ o) (hl : LNK σ) : LNK s := by
  refine ⟨by rw [k.2.2.1]; exact hl.1, fun c => ?_⟩
  rw [k.2.2.1] at c
  have hk := hl.2 c
  have lt := fun {o : Nat} (q : LKo σ o) => lko_lt hk q
  have en : ∀ {o e : Nat}, LKo σ o → InO σ o e → (e : Int) < (σ 0 36).toInt := fun {o e} q1 q2 => by
    have := lt q1
    have i1 := fo_ent hE (by omega) h (o := o + 1) (by omega)
    have := q2.2
    omega
  obtain ⟨l1, l2, o3, f3, l3, l4, l5, l6, l7⟩ := hk
  have ino := fun {o e : Nat} (q : LKo σ o) => ino_old (e := e) g (lt q)
  have g9 := g
  obtain ⟨g1, g2, g3, ⟨g4, g5, g6⟩, g7, g8, g9⟩ := g9
  refine ⟨fun p hp => by rw [k.2.1]; rw [k.2.2.1] at hp; have := l1 p hp; omega, fun o ho f hf hd => ?_, o3, f3, (lko_old k).mpr l3, (ino l3).mpr l4, ?_, ?_, ?_⟩
  · have ho' := (lko_old k).mp ho
    have hf' := (ino ho').mp hf
    obtain ⟨e1, e2, e3, e4, e5, e6, e7⟩ := g3 f (en ho' hf')
    have hd' : FnD σ f := ⟨by rw [← e1]; exact hd.1, by rw [← e6]; exact hd.2⟩
    refine bdk_old e7 e3 e2 g4 g5 g7 g8 (fun n a b c => ?_) (l2 o ho' f hf' hd')
    obtain ⟨c1, e9, c2, c3, ⟨c4, c5⟩, c6⟩ := c
    obtain ⟨k1, k2, k3, k4, k5, k6, k7⟩ := g3 e9 (en ho' c3)
    refine ⟨c1, e9, by unfold fO at c2 ⊢; rw [(g1 o (by have := lt ho'; omega)).1]; exact c2, (ino ho').mpr c3, ⟨fun c => ?_, fun c => ?_⟩, hh_eq k3 k2 c6⟩
    · rw [k.1] at c
      obtain ⟨o8, f8, x1, x2, x3, x4, x5, x6⟩ := c4 c
      obtain ⟨y1, y2, y3, y4, y5, y6, y7⟩ := g3 f8 (en x1 x2)
      exact ⟨o8, f8, (lko_old k).mpr x1, (ino x1).mpr x2, ⟨by rw [y1]; exact x3.1, by rw [y6]; exact x3.2⟩, by rw [k.1, y7]; exact x4, by rw [y3, k3]; exact x5, by rw [y2, k2]; exact x6⟩
    · rw [k.1] at c ⊢
      rw [k3, k2]
      exact c5 c
  · obtain ⟨e1, e2, e3, e4, e5, e6, e7⟩ := g3 f3 (en l3 l4)
    exact ⟨by rw [e1]; exact l5.1, by rw [e6]; exact l5.2⟩
  · obtain ⟨e1, e2, e3, e4, e5, e6, e7⟩ := g3 f3 (en l3 l4)
    rw [e7, k.2.2.2]
    exact l6
  · obtain ⟨e1, e2, e3, e4, e5, e6, e7⟩ := g3 f3 (en l3 l4)
    rw [e3]
    exact l7
end GIS
