/-! link(), both sides: one answer, one fault -/
/-- what link() and run() leave that other calls tell -/
def LKa (w σ : St) : Prop := (∀ i, i < 4 → w 55 i = sc0 55 i) ∧ ((w 10 2).toInt ≠ 0 ↔ 0 ≤ (σ 0 70).toInt) ∧ (w 10 3).toInt = (σ 0 71).toInt ∧ (w 10 4).toInt = (σ 0 72).toInt ∧ (w 11 0).toInt = (σ 0 88).toInt
section LBQ
variable {w σ s t τ : St} {vs z : List Nat} {x d dd v m c c2 : Int32} {o e f p q j : Nat} {kind : Int}
theorem least {P : Nat → Prop} : ∀ n, P n → ∃ k, P k ∧ ∀ i, i < k → ¬ P i := fun n => by
  induction n using Nat.strongRecOn with
  | _ n ih =>
    intro hn
    by_cases h : ∃ i, i < n ∧ P i
    · obtain ⟨i, h1, h2⟩ := h
      exact ih i h1 h2
    · exact ⟨n, hn, fun i hi hp => h ⟨i, hi, hp⟩⟩
theorem dfi_ex (n : Int) (d : Int32) : ∃ v, DFi w n d v := by
  by_cases h : ∃ a : Nat, ∃ x : Int32, x.toInt = (a : Int) ∧ x.toInt < n ∧ ∃ y, RGi w x y ∧ CDi w (w 30) 65600 (atv 10100 (w 29) (d - (1 : Int32))) ((atv 10100 (w 29) d) - (atv 10100 (w 29) (d - (1 : Int32)))) y
  · obtain ⟨a0, h0⟩ := h
    obtain ⟨a, ⟨x, hx, hn, y0, g1, g2⟩, hmin⟩ := least (P := fun a => ∃ x : Int32, x.toInt = ((a : Nat) : Int) ∧ x.toInt < n ∧ ∃ y, RGi w x y ∧ CDi w (w 30) 65600 (atv 10100 (w 29) (d - (1 : Int32))) ((atv 10100 (w 29) d) - (atv 10100 (w 29) (d - (1 : Int32)))) y) a0 h0
    obtain ⟨b, ⟨y, hy, r, g⟩, hmin2⟩ := least (P := fun b => ∃ y : Int32, y.toInt = LOi w x + (b : Int) ∧ RGi w x y ∧ CDi w (w 30) 65600 (atv 10100 (w 29) (d - (1 : Int32))) ((atv 10100 (w 29) d) - (atv 10100 (w 29) (d - (1 : Int32)))) y) (y0.toInt - LOi w x).toNat ⟨y0, by have := g1.1; omega, g1, g2⟩
    refine ⟨y, Or.inr ⟨x, ⟨by omega, hn⟩, r, g, fun x' p1 p2 y' r' g' => hmin x'.toInt.toNat (by omega) ⟨x', by omega, by omega, y', r', g'⟩, fun y' r' lt g' => hmin2 (y'.toInt - LOi w x).toNat (by have := r'.1; omega) ⟨y', by have := r'.1; omega, r', g'⟩⟩⟩
  · exact ⟨(-1 : Int32), Or.inl ⟨rfl, fun x p1 p2 y r g => h ⟨x.toInt.toNat, x, by omega, p2, y, r, g⟩⟩⟩
theorem kx_le (K : LKx w σ τ vs o) : (σ 0 36).toInt ≤ 10000 := by
  obtain ⟨h, hG, r, re, pk, rf⟩ := K
  have d0 := de_le h.2.1 o (Nat.le_refl _)
  have h3 := h.2.2.1
  have h1 := h.1
  have r2 := r.2.1
  omega
theorem pik_le (K : LKx w σ τ vs o) : 0 ≤ (σ 0 67).toInt ∧ (σ 0 67).toInt ≤ 100 := K.2.1.2.2.2.2.1.1
theorem lib_neg {r r' : Int32} (h : LIB σ e r) (h' : LIB σ e r') : r.toInt = r'.toInt := lib_uniq h h'
theorem fn_in (K : LKx w σ τ vs o) {n : Int} (hn : n ≤ (σ 0 67).toInt) (h : FND σ e n q f) : (f : Int) < (σ 0 36).toInt := by
  have pl := pik_le K
  have hq := h.1
  obtain ⟨_, _, _, _, _, g6⟩ := rg_at K (p := q) (x := nI (q + 1)) (by omega) (by rw [nI_toInt (by omega)]; rfl)
  have := h.2.1.2
  omega
/-- a fault at a symbol on one side is one on the other -/
theorem wr_eq (K : LKx w σ τ vs o) (hp : (p : Int) < (σ 0 67).toInt) (he : InO σ (PO σ p) e) (hs : (σ 12 e).toInt = 0) (hx : x.toInt = (p : Int) + 1) (hd : d.toInt = ((e + 4 : Nat) : Int)) (hk : 31 ≤ kind ∧ kind ≤ 33) : WRc w kind x d ↔ HOm σ kind p e (σ 0 67).toInt := by
  have hl := kx_le K
  have pl := pik_le K
  obtain ⟨_, _, _, _, _, g6⟩ := rg_at K hp hx
  have he2 : (e : Int) < (σ 0 36).toInt := by have := he.2; omega
  obtain ⟨_, _, f4, f8, _, b13⟩ := fl_at K he2 hl hd
  have pk1 : (w 10 5).toInt = (((σ 0 67).toInt.toNat : Nat) : Int) + 1 := by have := K.2.2.2.2.1.1; omega
  have en : (((σ 0 67).toInt.toNat : Nat) : Int) = (σ 0 67).toInt := by omega
  have dq : ∀ {v}, DFi w (w 10 5).toInt d v → (∃ j : Nat, j < 4 ∧ v.toInt = (j : Int) ∧ ∃ r, LIB σ e r ∧ r.toInt = (j : Int)) ∨ ((∃ r, LIB σ e r ∧ r.toInt < 0) ∧ ((NFD σ e (σ 0 67).toInt ∧ v = -1) ∨ ∃ p f : Nat, FND σ e (σ 0 67).toInt p f ∧ v.toInt = ((f + 4 : Nat) : Int))) := fun {v} h => by
    rw [pk1] at h
    have hh := df_eq K hl he2 hd (q := (σ 0 67).toInt.toNat) (by omega) h
    rw [en] at hh
    exact hh
  unfold WRc HOm
  rw [f4, f8]
  constructor
  · rintro (⟨a1, a2, v, a3, a4⟩ | ⟨a1, a2, a3, v, a4, a5⟩ | ⟨a1, a2, v, a3, a4⟩)
    · refine Or.inl ⟨a2, ⟨hs, a1⟩, ?_⟩
      rw [hx] at a3
      rcases df_eq K hl he2 hd (q := p) (by omega) a3 with ⟨j, _, _, r, r1, r2⟩ | ⟨_, ⟨_, g⟩ | ⟨p', f, g, _⟩⟩
      · exact Or.inl ⟨r, r1, by omega⟩
      · rw [g] at a4
        exact absurd a4 (by decide)
      · exact Or.inr ⟨p', f, g⟩
    · refine Or.inr ⟨by omega, ⟨hs, by omega⟩, Or.inl ⟨a2, a3, ?_⟩⟩
      rcases dq a4 with ⟨j, _, g, _⟩ | ⟨g, ⟨g2, _⟩ | ⟨p', f, _, g2⟩⟩
      · omega
      · exact ⟨g, g2⟩
      · omega
    · refine Or.inr ⟨by omega, ⟨hs, by omega⟩, Or.inr ⟨by omega, ?_⟩⟩
      rcases dq a3 with ⟨j, j4, g, r, r1, r2⟩ | ⟨g, ⟨_, g2⟩ | ⟨p', f, g1, g2⟩⟩
      · refine Or.inl ⟨r, r1, by omega, ?_⟩
        rw [r2, ← ag_lib K hl he2 hd j4 g]
        exact a4
      · exfalso
        refine a4 (Or.inl ?_)
        rw [g2]
        decide
      · refine Or.inr ⟨g, p', f, g1, ?_⟩
        rw [← ag_eq K hl he2 (fn_in K (Int.le_refl _) g1) hd g2]
        exact a4
  · rintro (⟨a1, a2, a3⟩ | ⟨a0, a1, a2⟩)
    · refine Or.inl ⟨a2.2, a1, ?_⟩
      obtain ⟨v, hv⟩ := dfi_ex (w := w) ((p : Int) + 1) d
      rw [hx]
      refine ⟨v, hv, ?_⟩
      rcases df_eq K hl he2 hd (q := p) (by omega) hv with ⟨j, _, g, _⟩ | ⟨⟨r, r1, r2⟩, ⟨g1, g2⟩ | ⟨p', f, _, g⟩⟩
      · omega
      · exfalso
        rcases a3 with ⟨r', r1', r2'⟩ | g
        · have := lib_neg r1 r1'
          omega
        · exact fnd_not g1 g
      · omega
    · have k4 : ¬ (σ 13 e).toInt = 1 := by have := a1.2; omega
      obtain ⟨v, hv⟩ := dfi_ex (w := w) (w 10 5).toInt d
      have hv2 := dq hv
      rcases a2 with ⟨b1, b2, ⟨r, r1, r2⟩, b3⟩ | ⟨b1, b2⟩
      · refine Or.inr (Or.inl ⟨k4, b1, b2, v, hv, ?_⟩)
        rcases hv2 with ⟨j, _, g, r', r1', r2'⟩ | ⟨_, ⟨_, g⟩ | ⟨p', f, g, _⟩⟩
        · have := lib_neg r1 r1'
          omega
        · rw [g]; decide
        · exact absurd ⟨p', f, g⟩ (fnd_not b3)
      · refine Or.inr (Or.inr ⟨k4, (by first | exact b1 | (clear hv hv2 b2 dq; omega)), v, hv, ?_⟩)
        rcases b2 with ⟨r, r1, r2, r3⟩ | ⟨⟨r, r1, r2⟩, p', f, g1, g2⟩
        · rcases hv2 with ⟨j, j4, g, r', r1', r2'⟩ | ⟨⟨r', r1', r2'⟩, _⟩
          · rw [ag_lib K hl he2 hd j4 g, ← r2', ← lib_neg r1 r1']
            exact r3
          · have := lib_neg r1 r1'
            omega
        · rcases hv2 with ⟨j, _, _, r', r1', r2'⟩ | ⟨_, ⟨g, _⟩ | ⟨p2, f2, g3, g4⟩⟩
          · have := lib_neg r1 r1'
            omega
          · exact absurd ⟨p', f, g1⟩ (fnd_not g)
          · obtain ⟨_, u⟩ := fnd_uniq g1 g3
            rw [ag_eq K hl he2 (fn_in K (Int.le_refl _) g3) hd g4, ← u]
            exact g2
/-- where the class stands, told by the reference's numbers -/
theorem at_ref (K : LKx w σ τ vs o) (h1 : 1 ≤ x.toInt) (h2 : x.toInt < (w 10 5).toInt) (hr : RGi w x d) (hn : ¬ FLb (atv 10100 (w 25) d) 2) : ∃ p e : Nat, (p : Int) < (σ 0 67).toInt ∧ x.toInt = (p : Int) + 1 ∧ d.toInt = ((e + 4 : Nat) : Int) ∧ InO σ (PO σ p) e ∧ (σ 12 e).toInt = 0 := by
  have pk1 := K.2.2.2.2.1.1
  obtain ⟨p, hp⟩ : ∃ p : Nat, x.toInt = (p : Int) + 1 := ⟨(x.toInt - 1).toNat, by omega⟩
  obtain ⟨_, _, g3, g4, g5, g6⟩ := rg_at K (p := p) (by omega) hp
  obtain ⟨e, he⟩ : ∃ e : Nat, d.toInt = ((e + 4 : Nat) : Int) := ⟨(d.toInt - 4).toNat, by have := hr.1; omega⟩
  have hin : InO σ (PO σ p) e := ⟨by have := hr.1; omega, by have := hr.2; omega⟩
  refine ⟨p, e, by omega, hp, he, hin, ?_⟩
  have hf := (fl_at K (f := e) (d := d) (by have := hin.2; omega) (kx_le K) he).2.1
  exact Classical.byContradiction (fun hc => hn (hf.2 hc))
theorem at_cls (K : LKx w σ τ vs o) (hp : (p : Int) < (σ 0 67).toInt) (he : InO σ (PO σ p) e) (hs : (σ 12 e).toInt = 0) (hx : x.toInt = (p : Int) + 1) (hd : d.toInt = ((e + 4 : Nat) : Int)) : (1 ≤ x.toInt ∧ x.toInt < (w 10 5).toInt) ∧ RGi w x d ∧ ¬ FLb (atv 10100 (w 25) d) 2 := by
  obtain ⟨_, g2, g3, g4, g5, g6⟩ := rg_at K hp hx
  have hf := (fl_at K (f := e) (d := d) (by have := he.2; omega) (kx_le K) hd).2.1
  exact ⟨⟨by omega, g2⟩, ⟨by have := he.1; omega, by have := he.2; omega⟩, fun g => (hf.1 g) hs⟩
theorem no_eq (K : LKx w σ τ vs o) (hk : 31 ≤ kind ∧ kind ≤ 33) : NOc w kind ↔ NOm σ kind (σ 0 67).toInt := by
  have pl := pik_le K
  have hl := kx_le K
  constructor
  · intro h p hp e he hs g
    have hx : (nI (p + 1)).toInt = (p : Int) + 1 := by rw [nI_toInt (by omega)]; rfl
    obtain ⟨_, _, _, _, _, g6⟩ := rg_at K hp hx
    have hd : (nI (e + 4)).toInt = ((e + 4 : Nat) : Int) := nI_toInt (by have := he.2; omega)
    obtain ⟨c1, c2, c3⟩ := at_cls K hp he hs hx hd
    exact h _ c1.1 c1.2 _ c2 c3 ((wr_eq K hp he hs hx hd hk).2 g)
  · intro h x h1 h2 d hr hn g
    obtain ⟨p, e, a1, a2, a3, a4, a5⟩ := at_ref K h1 h2 hr hn
    exact h p a1 e a4 a5 ((wr_eq K a1 a4 a5 a2 a3 hk).1 g)
theorem fr_ref (K : LKx w σ τ vs o) (hk : 31 ≤ kind ∧ kind ≤ 33) (h : FRc w kind x d c) : ∃ p e : Nat, x.toInt = (p : Int) + 1 ∧ FRm σ kind (σ 0 67).toInt p e c := by
  have pl := pik_le K
  have hl := kx_le K
  obtain ⟨⟨h1, h2⟩, ⟨hr, hn, hw⟩, h3, h4, h5⟩ := h
  obtain ⟨p, e, a1, a2, a3, a4, a5⟩ := at_ref K h1 h2 hr hn
  obtain ⟨_, _, g3, g4, g5, g6⟩ := rg_at K a1 a2
  refine ⟨p, e, a2, a1, ⟨a4, a5, (wr_eq K a1 a4 a5 a2 a3 hk).1 hw⟩, fun p' hp' e' he' hs' g => ?_, fun e' he' hlt hs' g => ?_, ?_⟩
  · have hx : (nI (p' + 1)).toInt = (p' : Int) + 1 := by rw [nI_toInt (by omega)]; rfl
    obtain ⟨_, _, _, _, _, g6'⟩ := rg_at K (p := p') (by omega) hx
    have hd : (nI (e' + 4)).toInt = ((e' + 4 : Nat) : Int) := nI_toInt (by have := he'.2; omega)
    obtain ⟨c1, c2, c3⟩ := at_cls K (by omega) he' hs' hx hd
    exact h3 _ c1.1 (by omega) _ c2 c3 ((wr_eq K (by omega) he' hs' hx hd hk).2 g)
  · have hd : (nI (e' + 4)).toInt = ((e' + 4 : Nat) : Int) := nI_toInt (by have := he'.2; omega)
    obtain ⟨c1, c2, c3⟩ := at_cls K a1 he' hs' a2 hd
    exact h4 _ c2 (by omega) c3 ((wr_eq K a1 he' hs' a2 hd hk).2 g)
  · have ha := a4.1
    rw [h5, show (d.toInt - LOi w x).toNat = ((e : Int) - fO σ (PO σ p)).toNat from by omega]
    refine congrArg (fun n : Nat => (n : Int)) (cz_eq (fun i hi => ?_))
    have hf := (fl_at K (f := (fO σ (PO σ p)).toNat + i) (d := nI ((fO σ (PO σ p)).toNat + i + 4)) (by have := a4.2; omega) hl (nI_toInt (by have := a4.2; omega))).2.1
    rw [atv_at (nI_toInt (by have := a4.2; omega)) (by have := a4.2; omega)] at hf
    rw [show (LOi w x).toNat + i = (fO σ (PO σ p)).toNat + i + 4 from by omega]
    unfold FLb at hf
    exact ⟨fun hz => Classical.byContradiction (fun hc => (hf.2 hc) hz), fun hz => Classical.byContradiction (fun hc => (hf.1 hc) hz)⟩
theorem frm_uniq {n : Int} {p2 e2 : Nat} (h : FRm σ kind n p e c) (g : FRm σ kind n p2 e2 c2) : p = p2 ∧ c = c2 := by
  obtain ⟨h1, ⟨h2, h3, h4⟩, h5, h6, h7⟩ := h
  obtain ⟨g1, ⟨g2, g3, g4⟩, g5, g6, g7⟩ := g
  have ep : p = p2 := by
    rcases Nat.lt_trichotomy p p2 with l | l | l
    · exact absurd h4 (g5 p l e h2 h3)
    · exact l
    · exact absurd g4 (h5 p2 l e2 g2 g3)
  subst ep
  have ee : e = e2 := by
    rcases Nat.lt_trichotomy e e2 with l | l | l
    · exact absurd h4 (g6 e h2 l h3)
    · exact l
    · exact absurd g4 (h6 e2 g2 l g3)
  subst ee
  exact ⟨rfl, ieq (by rw [h7, g7])⟩
/-- a name is main -/
def NM4 (σ : St) (f : Nat) : Prop := (σ 19 f).toInt = 4 ∧ nfm σ f 0 = 109 ∧ nfm σ f 1 = 97 ∧ nfm σ f 2 = 105 ∧ nfm σ f 3 = 110
theorem nm4_sam (he : NM4 σ e) (hf : NM4 σ f) : ALK σ e f := by
  obtain ⟨a0, a1, a2, a3, a4⟩ := he
  obtain ⟨b0, b1, b2, b3, b4⟩ := hf
  refine ⟨by omega, fun k hk => ?_⟩
  rcases (by omega : k = 0 ∨ k = 1 ∨ k = 2 ∨ k = 3) with g | g | g | g <;> rw [g]
  · rw [a1, b1]
  · rw [a2, b2]
  · rw [a3, b3]
  · rw [a4, b4]
theorem sma_at : (sc0 55 0).toInt = 109 ∧ (sc0 55 1).toInt = 97 ∧ (sc0 55 2).toInt = 105 ∧ (sc0 55 3).toInt = 110 := by decide +kernel
theorem lb_main : ∀ j, j < 4 → lbL j = 4 → (sc0 30 (lbS j)).toInt ≠ 109 := by decide +kernel
/-- main is looked for alike -/
theorem mn_fit (K : LKx w σ τ vs o) (h55 : ∀ i, i < 4 → w 55 i = sc0 55 i) (hf : (f : Int) < (σ 0 36).toInt) (hd : d.toInt = ((f + 4 : Nat) : Int)) : CDi w (w 55) 4 0 4 d ↔ ((σ 12 f).toInt = 0 ∧ (σ 13 f).toInt = 1) ∧ NM4 σ f := by
  have hl := kx_le K
  obtain ⟨_, f2, f4, _, _, _⟩ := fl_at K hf hl hd
  obtain ⟨h, hG, r, re, pk, rf⟩ := K
  obtain ⟨_, _, _, _, b1, b2, b3, b4, b5, b6, b7⟩ := rf.2.1 f hf
  have n57 := h.2.2.2.2.1.2.2
  have f65 := h.2.2.2.2.1.1
  have y1 : atv 10100 (w 29) d = w 29 (f + 4) := atv_at hd (by omega)
  have y2 : atv 10100 (w 29) (d - (1 : Int32)) = w 29 (f + 3) := atv_at (by rw [sb (by rw [i1]; omega) (by rw [i1]; omega), i1]; omega) (by omega)
  have z2 : ((w 29 (f + 4)) - (w 29 (f + 3))).toInt = (σ 19 f).toInt := by rw [sb (by omega) (by omega)]; exact b1
  obtain ⟨m0, m1, m2, m3⟩ := sma_at
  have e4 : (4 : Int32).toInt = 4 := rfl
  have e0 : (0 : Int32).toInt = 0 := rfl
  have by' : ∀ k : Nat, (k : Int) < (σ 19 f).toInt → (w 30 ((w 29 (f + 3)).toInt + (k : Int)).toNat).toInt = nfm σ f k := fun k hk => by
    unfold nfm
    rw [show ((w 29 (f + 3)).toInt + (k : Int)).toNat = (w 29 (f + 3)).toInt.toNat + k from by omega, show ((σ 18 f).toInt + (k : Int)).toNat = (σ 18 f).toInt.toNat + k from by omega]
    exact (b7 k hk).1
  have mb : ∀ k : Nat, k < 4 → (w 55 ((0 : Int) + (k : Int)).toNat).toInt = (sc0 55 k).toInt := fun k hk => by rw [show ((0 : Int) + (k : Int)).toNat = k from by omega, h55 k hk]
  unfold CDi NMq NM4
  rw [f2, f4, y1, y2, z2, e4, e0]
  constructor
  · rintro ⟨c1, c2, c3, c4⟩
    have q : ∀ k : Nat, k < 4 → nfm σ f k = (sc0 55 k).toInt := fun k hk => by
      rw [← by' k (by omega), ← mb k hk]
      exact (c4 k (by omega)).2.2.2
    exact ⟨⟨Classical.byContradiction c2, c1⟩, c3, by rw [q 0 (by decide), m0], by rw [q 1 (by decide), m1], by rw [q 2 (by decide), m2], by rw [q 3 (by decide), m3]⟩
  · rintro ⟨⟨c1, c2⟩, c3, d0, d1, d2, d3⟩
    refine ⟨c2, fun g => g c1, c3, fun k hk => ⟨by omega, Int.le_refl _, by show (0 : Int) + (k : Int) < ((4 : Nat) : Int); omega, ?_⟩⟩
    rw [by' k (by omega), mb k (by omega)]
    rcases (by omega : k = 0 ∨ k = 1 ∨ k = 2 ∨ k = 3) with g | g | g | g <;> rw [g]
    · rw [d0, m0]
    · rw [d1, m1]
    · rw [d2, m2]
    · rw [d3, m3]
theorem mn_lib (K : LKx w σ τ vs o) (h55 : ∀ i, i < 4 → w 55 i = sc0 55 i) (hj : j < 4) (hd : d.toInt = (j : Int)) : ¬ CDi w (w 55) 4 0 4 d := by
  obtain ⟨h, hG, r, re, pk, rf⟩ := K
  have lb := lb_ends j hj
  have y1 : (atv 10100 (w 29) d).toInt = ((lbS j + lbL j : Nat) : Int) := by
    rw [atv_at hd (by omega), (rf.1.1 j hj).2.2.2.2]
    exact lb.1
  have y2 : (atv 10100 (w 29) (d - (1 : Int32))).toInt = (lbS j : Int) := by
    have ed : (d - (1 : Int32)).toInt = (j : Int) - 1 := by rw [sb (by rw [i1]; omega) (by rw [i1]; omega), i1, hd]
    by_cases j0 : j = 0
    · rw [j0] at ed ⊢
      rcases atv_cases 10100 (w 29) (d - (1 : Int32)) with ⟨g1, g2⟩ | ⟨i, g1, g2, g3⟩
      · rw [g1]; rfl
      · omega
    · rw [atv_at (j := j - 1) (by rw [ed]; omega) (by omega), (rf.1.1 (j - 1) (by omega)).2.2.2.2, lb_starts (j - 1) (by omega), show j - 1 + 1 = j from by omega]
  have z2 : ((atv 10100 (w 29) d) - (atv 10100 (w 29) (d - (1 : Int32)))).toInt = (lbL j : Int) := by rw [sb (by omega) (by omega)]; omega
  rintro ⟨_, _, c3, c4⟩
  rw [z2, show (4 : Int32).toInt = 4 from rfl] at c3
  have hb := (c4 0 (by rw [show (4 : Int32).toInt = 4 from rfl]; omega)).2.2.2
  rw [y2, show ((lbS j : Int) + ((0 : Nat) : Int)).toNat = lbS j from by omega, show ((0 : Int32).toInt + ((0 : Nat) : Int)).toNat = 0 from rfl, rf.1.2 (lbS j) (by omega), h55 0 (by decide), sma_at.1] at hb
  exact lb_main j hj (by omega) hb
/-- the first main is one to begin with on both sides or on none -/
theorem mn_eq (K : LKx w σ τ vs o) (h55 : ∀ i, i < 4 → w 55 i = sc0 55 i) (hno : NOm σ 31 (σ 0 67).toInt) (hm : MFc w m) : (MNc w m → ∃ f, MFm σ (σ 0 67).toInt f ∧ m.toInt = ((f + 4 : Nat) : Int)) ∧ ∀ f, MFm σ (σ 0 67).toInt f → MNc w m ∧ m.toInt = ((f + 4 : Nat) : Int) := by
  have pl := pik_le K
  have hl := kx_le K
  have pk1 := K.2.2.2.2.1.1
  have z0 : ((0 : Int32)).toInt = 0 := rfl
  have lz := rg_lib K z0
  -- where m stands
  have place : ∀ x : Int32, 0 ≤ x.toInt → x.toInt < (w 10 5).toInt → RGi w x m → CDi w (w 55) 4 0 4 m → ∃ p f : Nat, (p : Int) < (σ 0 67).toInt ∧ x.toInt = (p : Int) + 1 ∧ m.toInt = ((f + 4 : Nat) : Int) ∧ InO σ (PO σ p) f ∧ ((σ 12 f).toInt = 0 ∧ (σ 13 f).toInt = 1) ∧ NM4 σ f := fun x x0 x1 hr hc => by
    by_cases e0 : x.toInt = 0
    · obtain ⟨a1, a2⟩ := rg_lib K e0
      have b1 := hr.1
      have b2 := hr.2
      exact absurd hc (mn_lib K h55 (j := m.toInt.toNat) (by omega) (by omega))
    · obtain ⟨p, hp⟩ : ∃ p : Nat, x.toInt = (p : Int) + 1 := ⟨(x.toInt - 1).toNat, by omega⟩
      obtain ⟨_, _, g3, g4, g5, g6⟩ := rg_at K (p := p) (by omega) hp
      obtain ⟨f, hf⟩ : ∃ f : Nat, m.toInt = ((f + 4 : Nat) : Int) := ⟨(m.toInt - 4).toNat, by have := hr.1; omega⟩
      have hin : InO σ (PO σ p) f := ⟨by have := hr.1; omega, by have := hr.2; omega⟩
      have ht := (mn_fit K h55 (f := f) (by have := hin.2; omega) hf).1 hc
      exact ⟨p, f, by omega, hp, hf, hin, ht.1, ht.2⟩
  -- its type
  have typ : ∀ f : Nat, (f : Int) < (σ 0 36).toInt → m.toInt = ((f + 4 : Nat) : Int) → (MNc w m ↔ (σ 9 f).toInt = 2 ∧ (σ 10 f).toInt = 0 ∧ (σ 15 f).toInt = 0) := fun f hf hmf => by
    obtain ⟨f1, _, _, _, f9, _⟩ := fl_at K hf hl hmf
    have K2 := K
    obtain ⟨h, hG, r, re, pk, rf⟩ := K2
    obtain ⟨⟨a1, _⟩, _, _, a4, _⟩ := rf.2.1 f hf
    have x26 : atv 10100 (w 26) m = w 26 (f + 4) := atv_at hmf (by omega)
    have x27 : atv 10100 (w 27) m = w 27 (f + 4) := atv_at hmf (by omega)
    have x25 : FLb (atv 10100 (w 25) m) 1 ↔ FLq w (f + 4) 1 := by rw [atv_at hmf (by omega)]; exact Iff.rfl
    unfold MNc
    rw [f1, x26, x27, a1]
    have s0 : FLq w (f + 4) 1 → ((w 27 (f + 4)).toInt = 0 ↔ (σ 15 f).toInt = 0) := fun y => by
      obtain ⟨a5, a6, a7, l, a8, a9, a10⟩ := a4 y
      obtain ⟨s1, s2⟩ := sg_says a8 a9 a10
      have eg : (w 27 (f + 4)).toInt = 16777216 * (l.length : Int) + (sgV l : Int) := by
        rw [a10]
        unfold sgI sgX
        omega
      have len : (l.length : Int) = (σ 15 f).toInt := by rw [← s1]; exact a5
      constructor
      · intro g
        omega
      · intro g
        have ln : l = [] := List.eq_nil_of_length_eq_zero (by omega)
        rw [eg, ln]
        rfl
    constructor
    · rintro ⟨b1, b2, b3, b4⟩
      exact ⟨by omega, b3, (s0 (x25.1 (f1.2 b2))).1 b4⟩
    · rintro ⟨b2, b3, b4⟩
      exact ⟨by omega, by omega, b3, (s0 (x25.1 (f1.2 (by omega)))).2 b4⟩
  refine ⟨fun hn => ?_, fun f hf => ?_⟩
  · rcases hm with ⟨h1, _⟩ | ⟨x, h1, h2, h3, _, _⟩
    · have := hn.1
      rw [h1] at this
      exact absurd this (by decide)
    · obtain ⟨p, f, a1, a2, a3, a4, a5, a6⟩ := place x h1.1 h1.2 h2 h3
      obtain ⟨_, _, _, _, _, g6⟩ := rg_at K a1 a2
      have hf : (f : Int) < (σ 0 36).toInt := by have := a4.2; omega
      exact ⟨f, ⟨p, a1, a4, a6, a5, (typ f hf a3).1 hn⟩, a3⟩
  · obtain ⟨p, hp, hin, n4, hsd, hty⟩ := hf
    have hx : (nI (p + 1)).toInt = (p : Int) + 1 := by rw [nI_toInt (by omega)]; rfl
    obtain ⟨_, _, g3, g4, g5, g6⟩ := rg_at K hp hx
    have hf2 : (f : Int) < (σ 0 36).toInt := by have := hin.2; omega
    have hd : (nI (f + 4)).toInt = ((f + 4 : Nat) : Int) := nI_toInt (by omega)
    have cand : CDi w (w 55) 4 0 4 (nI (f + 4)) := (mn_fit K h55 hf2 hd).2 ⟨hsd, n4⟩
    have rg : RGi w (nI (p + 1)) (nI (f + 4)) := ⟨by have := hin.1; omega, by have := hin.2; omega⟩
    rcases hm with ⟨_, h2⟩ | ⟨x, h1, h2, h3, h4, h5⟩
    · exact absurd cand (h2 _ (by omega) (by omega) _ rg)
    · obtain ⟨p', f', a1, a2, a3, a4, a5, a6⟩ := place x h1.1 h1.2 h2 h3
      have hle : p' ≤ p := by
        by_cases c : p < p'
        · exact absurd cand (h4 _ (by omega) (by omega) _ rg)
        · omega
      have ef : p' = p ∧ f' = f := by
        by_cases c : p' = p
        · refine ⟨c, ?_⟩
          rw [c] at a2 a4
          have exx : x = nI (p + 1) := ieq (by omega)
          rw [exx] at h5
          have hle2 : f' ≤ f := by
            by_cases c2 : f < f'
            · exact absurd cand (h5 _ rg (by omega))
            · omega
          by_cases c2 : f' = f
          · exact c2
          · exfalso
            have K2 := K
            obtain ⟨h, hG, r, re, pk, rf⟩ := K2
            have po := po_obj hG (p := p) hp
            refine rf.2.2.1 (PO σ p) po.2.1.2 f' f a4.1 (by omega) hin.2 ?_
            have al := nm4_sam a6 n4
            refine ⟨al.1, fun k hk => ?_⟩
            have := al.2 k hk
            unfold nfm at this
            obtain ⟨_, _, _, _, n1⟩ := rf.2.1 f hf2
            obtain ⟨_, _, _, _, n2⟩ := rf.2.1 f' (by omega)
            have p1 := n1.2.2.2.1
            have p2 := n2.2.2.2.1
            rw [show ((σ 18 f').toInt + (k : Int)).toNat = (σ 18 f').toInt.toNat + k from by omega, show ((σ 18 f).toInt + (k : Int)).toNat = (σ 18 f).toInt.toNat + k from by omega] at this
            exact this
        · exfalso
          refine hno p hp f hin hsd.1 (Or.inl ⟨rfl, hsd, ?_⟩)
          obtain ⟨v, hv⟩ := dfi_ex (w := w) ((p : Int) + 1) (nI (f + 4))
          rcases df_eq K hl hf2 hd (q := p) (by omega) hv with ⟨j, _, _, r, r1, r2⟩ | ⟨_, ⟨g, _⟩ | ⟨q, f2, g, _⟩⟩
          · exact Or.inl ⟨r, r1, by omega⟩
          · exact absurd ⟨a5.1, a5.2, nm4_sam n4 a6⟩ (g p' (by omega) f' a4)
          · exact Or.inr ⟨q, f2, g⟩
      rw [ef.2] at a3
      exact ⟨(typ f hf2 a3).2 hty, a3⟩
/-- cells of data, alike -/
theorem ds_eq (K : LKx w σ τ vs o) : DSc w = SUMd σ (σ 0 67).toInt.toNat ∧ ∀ i : Nat, i < (w 10 5).toInt.toNat - 1 → 0 ≤ (w 37 (w 56 (i + 1)).toInt.toNat).toInt ∧ (w 37 (w 56 (i + 1)).toInt.toNat).toInt ≤ 16000 := by
  have pl := pik_le K
  obtain ⟨h, hG, r, re, pk, rf⟩ := K
  have pk1 := pk.1
  have one : ∀ i : Nat, (i : Int) < (σ 0 67).toInt → (w 37 (w 56 (i + 1)).toInt.toNat).toInt = (σ 23 (PO σ i)).toInt := fun i hi => by
    have po := po_obj hG (p := i) hi
    rw [pk.2 i hi, show (σ 40 i).toInt.toNat = PO σ i + 1 from by have := po.2.1.1; omega]
    exact re.2.1 (PO σ i) (by have := po.2.1.2; have := r.1; omega)
  refine ⟨?_, fun i hi => ?_⟩
  · unfold DSc
    rw [show (w 10 5).toInt.toNat - 1 = (σ 0 67).toInt.toNat from by omega]
    have : ∀ n : Nat, (n : Int) ≤ (σ 0 67).toInt → dsm (fun i => (w 37 (w 56 (i + 1)).toInt.toNat).toInt) n = SUMd σ n := fun n => by
      induction n with
      | zero => exact fun _ => rfl
      | succ n ih =>
        intro hn
        rw [dsm_s, ih (by omega)]
        show _ + (w 37 (w 56 (n + 1)).toInt.toNat).toInt = SUMd σ n + (σ 23 (PO σ n)).toInt
        rw [one n (by omega)]
    exact this _ (by omega)
  · rw [one i (by omega)]
    exact (po_obj hG (p := i) (by omega)).2.2.2.1
/-- link(): one answer; what it leaves that other calls tell is alike -/
theorem ln_eq {v2 : Int32} (K : LKx w σ τ vs o) (ka : LKa w σ) (c : LNc w v t) (m : LNm σ v2 s) : v = v2 ∧ LKa t s := by
  have pl := pik_le K
  obtain ⟨k55, kr, k3, k4, k11⟩ := ka
  have nk : ∀ k : Int, 31 ≤ k → k < 34 → (NOc w k ↔ NOm σ k (σ 0 67).toInt) := fun k k1 k2 => no_eq K ⟨k1, by omega⟩
  have l0 : LN0 w 10 2 = w 10 2 := rfl
  have notboth : ∀ {kind x d cc}, (31 ≤ kind ∧ kind ≤ 33) → FRc w kind x d cc → ¬ NOm σ kind (σ 0 67).toInt := fun {kind x d cc} hk hf hn => by
    obtain ⟨p, e, _, g1, ⟨g2, g3, g4⟩, _⟩ := fr_ref K hk hf
    exact hn p g1 e g2 g3 g4
  have notboth2 : ∀ {kind p e cc}, FRm σ kind (σ 0 67).toInt p e cc → ¬ NOm σ kind (σ 0 67).toInt := fun {kind p e cc} hf hn => hn p hf.1 e hf.2.1.1 hf.2.1.2.1 hf.2.1.2.2
  rcases c with ⟨kind, x, d, cc, c1, c2, c3, c4, c5⟩ | ⟨c1, mm, c2, c3⟩
  · rcases m with ⟨kind2, p2, e2, cc2, s', m1, m2, m0, m3, m4, m5, m6⟩ | ⟨m1, _⟩
    · have ek : kind = kind2 := by
        refine ieq ?_
        rcases (by omega : kind.toInt < kind2.toInt ∨ kind.toInt = kind2.toInt ∨ kind2.toInt < kind.toInt) with l | l | l
        · exact absurd (m2 kind.toInt c1.1 l) (notboth c1 c3)
        · exact l
        · exact absurd ((nk kind2.toInt m1.1 (by omega)).1 (c2 kind2.toInt m1.1 l)) (notboth2 m3)
      subst ek
      obtain ⟨p, e, hx, hf⟩ := fr_ref K c1 c3
      obtain ⟨u1, u2⟩ := frm_uniq hf m3
      refine ⟨by rw [c4, m4], ?_⟩
      rw [c5, m6]
      refine ⟨fun i hi => ?_, ?_, ?_, ?_, ?_⟩
      · rw [rdC_ne (by decide), rdC_ne (by decide), rdC_ne (by decide), ln0_rows 55 (by decide)]
        exact k55 i hi
      · rw [rdA_ne (by decide), rdA_ne (by decide), rdA_ne (by decide), rdA_ne (by decide), rdA_ne (by decide), show s' 0 70 = σ 0 70 from m5 0 70 rfl rfl, l0]
        exact kr
      · have n0 := nt m0
        have n1 := (s_rng p2).2
        rw [rdA_ne (by decide), rdA_ne (by decide), rdA_eq rfl, rdA_ne (by decide), rdA_eq rfl, sb (by rw [i1]; omega) (by rw [i1]; omega), i1, hx, u1]
        omega
      · rw [rdA_ne (by decide), rdA_eq rfl, rdA_eq rfl, u2]
      · rw [rdC_ne (by decide), rdC_ne (by decide), rdC_ne (by decide), ln0_rows 11 (by decide), rdA_ne (by decide), rdA_ne (by decide), show s' 0 88 = σ 0 88 from m5 0 88 rfl rfl]
        exact k11
    · exact absurd (m1 kind.toInt c1.1 (by omega)) (notboth c1 c3)
  · have allm : ∀ k : Int, 31 ≤ k → k < 34 → NOm σ k (σ 0 67).toInt := fun k k1 k2 => (nk k k1 k2).1 (c1 k k1 k2)
    rcases m with ⟨kind2, p2, e2, cc2, s', m1, m2, m0, m3, m4, m5, m6⟩ | ⟨_, m1⟩
    · exact absurd (allm kind2.toInt m1.1 (by omega)) (notboth2 m3)
    · obtain ⟨q1, q2⟩ := mn_eq K k55 (allm 31 (by decide) (by decide)) c2
      obtain ⟨d1, _⟩ := ds_eq K
      have same : ∀ a : St, Kp [(0, 73), (0, 74)] [] (LM0 σ) a → LKa (upC (LN0 w) 10 5 (1 : Int32)) a := fun a ha => by
        refine ⟨fun i hi => ?_, ?_, ?_, ?_, ?_⟩
        · rw [rdC_ne (by decide), ln0_rows 55 (by decide)]
          exact k55 i hi
        · rw [rdA_ne (by decide), show a 0 70 = σ 0 70 from ha 0 70 rfl rfl, l0]
          exact kr
        · rw [rdA_ne (by decide), show a 0 71 = -1 from ha 0 71 rfl rfl]
          rfl
        · rw [rdA_ne (by decide), show a 0 72 = -1 from ha 0 72 rfl rfl]
          rfl
        · rw [rdC_ne (by decide), ln0_rows 11 (by decide), show a 0 88 = σ 0 88 from ha 0 88 rfl rfl]
          exact k11
      rcases c3 with ⟨n1, n2, n3⟩ | ⟨n1, n2⟩
      · rcases m1 with ⟨_, g2, g3⟩ | ⟨f, g, _⟩
        · rw [n3]
          exact ⟨by rw [n2, g2], same s g3⟩
        · exact absurd (q2 f g).1 n1
      · obtain ⟨f0, hf0, _⟩ := q1 n1
        rcases m1 with ⟨g, _⟩ | ⟨f, g, g2⟩
        · exact absurd hf0 (g f0)
        · rcases n2 with ⟨a1, a2, a3⟩ | ⟨a1, a2, s9, a3, _, a4⟩
          · rcases g2 with ⟨b1, b2, b3⟩ | ⟨b1, _⟩
            · rw [a3]
              exact ⟨by rw [a2, b2], same s b3⟩
            · omega
          · rcases g2 with ⟨b1, _⟩ | ⟨b1, b2, s1, s2, b3, b4, _, b5⟩
            · omega
            · refine ⟨by rw [a2, b2], ?_⟩
              rw [a4, b5]
              have r70 : (upC s2 0 70 (σ 0 67)) 0 70 = σ 0 67 := rfl
              refine ⟨fun i hi => ?_, ?_, ?_, ?_, ?_⟩
              · rw [rdC_ne (by decide), rdC_ne (by decide), rdC_ne (by decide), show s9 55 i = LN0 w 55 i from a3 55 i rfl rfl, ln0_rows 55 (by decide)]
                exact k55 i hi
              · rw [rdA_ne (by decide), rdA_eq rfl, r70]
                exact ⟨fun _ => pl.1, fun _ => by decide⟩
              · rw [rdA_ne (by decide), rdA_ne (by decide), rdA_ne (by decide), show s9 10 3 = LN0 w 10 3 from a3 10 3 rfl rfl, rdA_ne (by decide), show s2 0 71 = (upC s1 0 78 (σ 17 f)) 0 71 from b4 0 71 rfl rfl, rdA_ne (by decide), show s1 0 71 = LM0 σ 0 71 from b3 0 71 rfl rfl]
                rfl
              · rw [rdA_ne (by decide), rdA_ne (by decide), rdA_ne (by decide), show s9 10 4 = LN0 w 10 4 from a3 10 4 rfl rfl, rdA_ne (by decide), show s2 0 72 = (upC s1 0 78 (σ 17 f)) 0 72 from b4 0 72 rfl rfl, rdA_ne (by decide), show s1 0 72 = LM0 σ 0 72 from b3 0 72 rfl rfl]
                rfl
              · rw [rdC_ne (by decide), rdC_ne (by decide), rdC_ne (by decide), show s9 11 0 = LN0 w 11 0 from a3 11 0 rfl rfl, ln0_rows 11 (by decide), rdA_ne (by decide), show s2 0 88 = (upC s1 0 78 (σ 17 f)) 0 88 from b4 0 88 rfl rfl, rdA_ne (by decide), show s1 0 88 = LM0 σ 0 88 from b3 0 88 rfl rfl]
                exact k11
end LBQ
