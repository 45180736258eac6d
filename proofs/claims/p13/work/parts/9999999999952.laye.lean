/-! after link(): where all stands, alike on both sides -/
def LPo (ρ : St) (p : Nat) : Nat := ((ρ 41 p).toInt - 1).toNat
/-- an entity of what is linked as p-th -/
def LYe (κ ρ : St) (p e : Nat) : Prop := ((ρ 13 e).toInt ≠ 0 → ((ρ 9 e).toInt = 1 → κ 59 (e + 4) = ρ 42 p + ρ 17 e ∧ ρ 43 e = ρ 42 p + ρ 17 e) ∧ ((ρ 9 e).toInt ≠ 1 → κ 59 (e + 4) = κ 28 (e + 4) ∧ ρ 43 e = ρ 17 e)) ∧ ((ρ 13 e).toInt = 0 → (ρ 12 e).toInt = 0 → (ρ 14 e).toInt ≠ 0 → (∃ j : Nat, j < 4 ∧ (κ 59 (e + 4)).toInt = -1 - (j : Int) ∧ (ρ 43 e).toInt = -1 - (j : Int) ∧ (ρ 9 e).toInt = 2 ∧ LTy ρ e (j : Int)) ∨ ∃ q f : Nat, (q : Int) < (ρ 0 70).toInt ∧ InO ρ (LPo ρ q) f ∧ (ρ 12 f).toInt = 0 ∧ (ρ 13 f).toInt ≠ 0 ∧ HTy ρ e f ∧ κ 59 (e + 4) = κ 59 (f + 4) ∧ ρ 43 e = ρ 43 f)
/-- what is linked as p-th -/
def LYp (κ ρ : St) (p : Nat) : Prop := (κ 57 (p + 1)).toInt = (ρ 41 p).toInt ∧ (1 ≤ (ρ 41 p).toInt ∧ (ρ 41 p).toInt ≤ (ρ 0 35).toInt) ∧ κ 58 (LPo ρ p + 1) = ρ 42 p ∧ ρ 44 (LPo ρ p) = ρ 42 p ∧ (16 ≤ (ρ 42 p).toInt ∧ (ρ 42 p).toInt + (ρ 23 (LPo ρ p)).toInt ≤ 16016 ∧ 0 ≤ (ρ 23 (LPo ρ p)).toInt) ∧ (∀ e, InO ρ (LPo ρ p) e → LYe κ ρ p e) ∧ ∀ e, InO ρ (LPo ρ p) e → (ρ 12 e).toInt = 0 → (ρ 13 e).toInt ≠ 0 → ∀ j, j < 4 → ¬ LBk ρ e (lbK j) (lbL j)
def LYr (κ ρ : St) : Prop := (κ 10 2).toInt ≠ 0 → ((κ 10 7).toInt = (ρ 0 70).toInt + 1 ∧ 0 ≤ (ρ 0 70).toInt ∧ (ρ 0 70).toInt ≤ 100) ∧ (κ 57 0).toInt = 0 ∧ (∀ p : Nat, (p : Int) < (ρ 0 70).toInt → LYp κ ρ p) ∧ ∀ p p' : Nat, (p : Int) < (ρ 0 70).toInt → (p' : Int) < (ρ 0 70).toInt → LPo ρ p = LPo ρ p' → p = p'
section LYE
variable {w σ s t s9 s2 τ : St} {vs : List Nat} {x d v : Int32} {o p e j : Nat}
theorem lb_vals : ∀ j : Nat, j < 4 → (sc0 28 j).toInt = -1 - (j : Int) := by decide +kernel
theorem bsI_rows (e37 : s 37 = w 37) (e56 : s 56 = w 56) : bsI s = bsI w := funext (fun n => by
  induction n with
  | zero => rfl
  | succ n ih =>
    show bsI s n + atv 101 (s 37) (atv 101 (s 56) (nI n)) = bsI w n + atv 101 (w 37) (atv 101 (w 56) (nI n))
    rw [ih, e37, e56])
theorem lyc_rows (e : ∀ c, c ≠ 10 → s c = w c) (e5 : s 10 5 = w 10 5) (h : LYc s t) : LYc w t := by
  unfold LYc BAx ADx ADd ADn DFi FSTi CDi NMq RGi LOi HIi kxI at h ⊢
  rw [e5, bsI_rows (e 37 (by decide)) (e 56 (by decide)), e 25 (by decide), e 28 (by decide), e 29 (by decide), e 30 (by decide), e 34 (by decide), e 56 (by decide)] at h
  exact h
theorem sum_b (K : LKx w σ τ vs o) : ∀ p : Nat, (p : Int) ≤ (σ 0 67).toInt → 0 ≤ SUMd σ p ∧ SUMd σ p ≤ 16000 * (p : Int)
  | 0, _ => ⟨Int.le_refl _, Int.le_refl _⟩
  | p + 1, h => by
    have ih := sum_b K p (by omega)
    have dc := (po_obj K.2.1 (p := p) (by omega)).2.2.2.1
    show 0 ≤ SUMd σ p + (σ 23 (PO σ p)).toInt ∧ SUMd σ p + (σ 23 (PO σ p)).toInt ≤ _
    omega
theorem bs_val (K : LKx w σ τ vs o) (h37 : (w 37 0).toInt = 0) : ∀ p : Nat, (p : Int) ≤ (σ 0 67).toInt → (bsI w (p + 1)).toInt = 16 + SUMd σ p
  | 0, _ => by
    have e : kxI w (nI 0) = w 56 0 := atv_at (by rw [nI_toInt (by decide)]) (by decide)
    have z := K.1.2.2.2.2.2.2.2.2.2.2.1.2.1
    show ((16 : Int32) + atv 101 (w 37) (kxI w (nI 0))).toInt = 16 + 0
    rw [e, atv_at (j := 0) z (by decide), show w 37 0 = 0 from ieq h37]
    rfl
  | p + 1, h => by
    have ih := bs_val K h37 p (by omega)
    have sb := sum_b K p (by omega)
    have pl := pik_le K
    have po := po_obj K.2.1 (p := p) (by omega)
    have dc := po.2.2.2.1
    have e : kxI w (nI (p + 1)) = w 56 (p + 1) := atv_at (by rw [nI_toInt (by omega)]) (by omega)
    have e40 := K.2.2.2.2.1.2 p (by omega)
    have a40 := po.1
    have p1 := po.2.1.1
    have p2 := po.2.1.2
    have e37 : (w 37 (PO σ p + 1)).toInt = (σ 23 (PO σ p)).toInt := K.2.2.2.1.2.1 (PO σ p) (by have := K.2.2.1.1; omega)
    show (bsI w (p + 1) + atv 101 (w 37) (kxI w (nI (p + 1)))).toInt = 16 + (SUMd σ p + (σ 23 (PO σ p)).toInt)
    rw [e, atv_at (j := PO σ p + 1) (by omega) (by omega), ad (by omega) (by omega), ih, e37]
    omega
theorem cl_pre (K : LKx w σ τ vs o) (hp : (p : Int) < (σ 0 67).toInt) (he : InO σ (PO σ p) e) : (nI (p + 1)).toInt = (p : Int) + 1 ∧ (nI (p + 1)).toInt < (w 10 5).toInt ∧ RGi w (nI (p + 1)) (nI (e + 4)) ∧ (nI (e + 4)).toInt = ((e + 4 : Nat) : Int) ∧ (e : Int) < (σ 0 36).toInt ∧ e + 4 < 10100 := by
  have pl := pik_le K
  have hl := kx_le K
  have hx : (nI (p + 1)).toInt = (p : Int) + 1 := by rw [nI_toInt (by omega)]; rfl
  obtain ⟨_, g2, g3, g4, g5, g6⟩ := rg_at K hp hx
  have h1 := he.1
  have h2 := he.2
  have hd : (nI (e + 4)).toInt = ((e + 4 : Nat) : Int) := nI_toInt (by omega)
  exact ⟨hx, g2, ⟨by omega, by omega⟩, hd, by omega, by omega⟩
theorem cl_def (K : LKx w σ τ vs o) (ly : LYc w t) (hp : (p : Int) < (σ 0 67).toInt) (he : InO σ (PO σ p) e) (h13 : (σ 13 e).toInt ≠ 0) : ((σ 9 e).toInt = 1 → t 59 (e + 4) = bsI w (p + 1) + w 28 (e + 4)) ∧ ((σ 9 e).toInt ≠ 1 → t 59 (e + 4) = w 28 (e + 4)) := by
  obtain ⟨_, _, b, bx, bd, _⟩ := ly
  obtain ⟨hx, g2, rg, hd, hf2, he4⟩ := cl_pre K hp he
  obtain ⟨f1, _, f4, _, _, f13⟩ := fl_at K hf2 (kx_le K) hd
  have aq := bd (nI (e + 4)) (f4.2 (by omega))
  have ax := bx (nI (p + 1)) (by omega) g2 (nI (e + 4)) rg
  have a1 : atv 10100 (t 59) (nI (e + 4)) = t 59 (e + 4) := atv_at hd he4
  have a2 : atv 10100 (w 28) (nI (e + 4)) = w 28 (e + 4) := atv_at hd he4
  have a3 : (nI (p + 1)).toInt.toNat = p + 1 := by omega
  rw [a2, a3] at ax
  rw [a1] at aq
  exact ⟨fun h9 => aq.trans (ax.2 (fun g => (f1.1 g) h9)), fun h9 => aq.trans (ax.1 (f1.2 h9))⟩
theorem cl_und (K : LKx w σ τ vs o) (ly : LYc w t) (hp : (p : Int) < (σ 0 67).toInt) (he : InO σ (PO σ p) e) (h13 : (σ 13 e).toInt = 0) (hv : DFi w (w 10 5).toInt (nI (e + 4)) v) : (∀ j : Nat, j < 4 → v.toInt = (j : Int) → (t 59 (e + 4)).toInt = -1 - (j : Int)) ∧ ∀ q f : Nat, (q : Int) < (σ 0 67).toInt → InO σ (PO σ q) f → (σ 13 f).toInt ≠ 0 → v.toInt = ((f + 4 : Nat) : Int) → t 59 (e + 4) = t 59 (f + 4) := by
  obtain ⟨_, _, b, bx, bd, un⟩ := ly
  obtain ⟨hx, g2, rg, hd, hf2, he4⟩ := cl_pre K hp he
  obtain ⟨_, _, f4, _, _, _⟩ := fl_at K hf2 (kx_le K) hd
  have aq := un (nI (p + 1)) (by omega) g2 (nI (e + 4)) rg (fun g => by have := f4.1 g; omega) v hv
  have a1 : atv 10100 (t 59) (nI (e + 4)) = t 59 (e + 4) := atv_at hd he4
  rw [a1] at aq
  refine ⟨fun j hj jv => ?_, fun q f hq hf f13 fv => ?_⟩
  · have z0 : ((0 : Int32)).toInt = 0 := rfl
    obtain ⟨r1, r2⟩ := rg_lib K z0
    have ax := bx (0 : Int32) (by omega) (by omega) v ⟨by omega, by omega⟩
    have fl := (lib_fl K hj jv).2.2.1
    rw [aq, ax.1 fl, atv_at jv (by omega), (K.2.2.2.2.2.1.1 j hj).2.2.2.1]
    exact lb_vals j hj
  · obtain ⟨_, _, _, hd', hf2', hf4⟩ := cl_pre K hq hf
    have ev : v = nI (f + 4) := ieq (by omega)
    obtain ⟨_, _, f4', _, _, f13'⟩ := fl_at K hf2' (kx_le K) hd'
    have aq2 := bd (nI (f + 4)) (f4'.2 (by omega))
    have a2 : atv 10100 (t 59) (nI (f + 4)) = t 59 (f + 4) := atv_at hd' hf4
    rw [aq, ev, ← aq2, a2]
theorem lay_und (K : LKx w σ τ vs o) (ly : LYc w t) (lm : LYm σ (σ 0 67).toInt s2) (hno : ∀ k : Int, 31 ≤ k → k < 34 → NOm σ k (σ 0 67).toInt) (hp : (p : Int) < (σ 0 67).toInt) (he : InO σ (PO σ p) e) (h13 : (σ 13 e).toInt = 0) (h12 : (σ 12 e).toInt = 0) (h14 : (σ 14 e).toInt ≠ 0) : (∃ j : Nat, j < 4 ∧ (t 59 (e + 4)).toInt = -1 - (j : Int) ∧ (s2 43 e).toInt = -1 - (j : Int) ∧ (σ 9 e).toInt = 2 ∧ LTy σ e (j : Int)) ∨ ∃ q f : Nat, (q : Int) < (σ 0 67).toInt ∧ InO σ (PO σ q) f ∧ (σ 12 f).toInt = 0 ∧ (σ 13 f).toInt ≠ 0 ∧ HTy σ e f ∧ t 59 (e + 4) = t 59 (f + 4) ∧ s2 43 e = s2 43 f := by
  obtain ⟨n, hn⟩ : ∃ n : Nat, (σ 0 67).toInt = (n : Int) := ⟨_, (Int.toNat_of_nonneg (pik_le K).1).symm⟩
  have pk1 := K.2.2.2.2.1.1
  obtain ⟨hx, g2, rg, hd, hf2, he4⟩ := cl_pre K hp he
  obtain ⟨v, hv⟩ := dfi_ex (w := w) ((n : Int) + 1) (nI (e + 4))
  have hv' : DFi w (w 10 5).toInt (nI (e + 4)) v := by rw [pk1, hn]; exact hv
  obtain ⟨u1, u2⟩ := cl_und K ly hp he h13 hv'
  have am := (lm.2.2.2 p hp e he).2 h13 h12
  have n33 := hno 33 (by decide) (by decide) p hp e he h12
  have n32 := hno 32 (by decide) (by decide) p hp e he h12
  rcases df_eq K (kx_le K) hf2 hd (q := n) (by omega) hv with ⟨j, j4, jv, r, r1, r2⟩ | ⟨⟨r, r1, r2⟩, hc⟩
  · have hlm : HLm σ e r.toInt := Classical.byContradiction (fun hc => n33 (Or.inr ⟨by decide, ⟨h12, h13⟩, Or.inr ⟨by decide, Or.inl ⟨r, r1, by omega, hc⟩⟩⟩))
    rw [r2] at hlm
    exact Or.inl ⟨j, j4, u1 j j4 jv, by rw [am.1 r r1 (by omega), r2], hlm.1, ⟨hlm.2.1, fun g => ⟨(hlm.2.2 g).1, (hlm.2.2 g).2.1⟩⟩⟩
  · rcases hc with ⟨nf, _⟩ | ⟨q, f, fn, fv⟩
    · exact absurd (Or.inr ⟨by decide, ⟨h12, h13⟩, Or.inl ⟨rfl, h14, ⟨r, r1, r2⟩, by rw [hn]; exact nf⟩⟩) n32
    · have fn' : FND σ e (σ 0 67).toInt q f := by rw [hn]; exact fn
      have htm : HTm σ e f := Classical.byContradiction (fun hc => n33 (Or.inr ⟨by decide, ⟨h12, h13⟩, Or.inr ⟨by decide, Or.inr ⟨⟨r, r1, r2⟩, q, f, fn', hc⟩⟩⟩))
      have q1 := fn'.1
      have fi := fn'.2.1
      have mt := fn'.2.2.1
      have f13 : (σ 13 f).toInt ≠ 0 := by rw [mt.2.1]; decide
      have af := (lm.2.2.2 q q1 f fi).1 f13
      have ae := am.2 r q f r1 r2 fn'
      refine Or.inr ⟨q, f, q1, fi, mt.1, f13, ⟨htm.1, htm.2.1, fun g => (htm.2.2.2 g).1⟩, u2 q f q1 fi f13 fv, ?_⟩
      by_cases c9 : (σ 9 e).toInt = 1
      · rw [ae.2 c9, af.2 (by rw [← htm.1]; exact c9)]
      · rw [ae.1 c9, af.1 (by rw [← htm.1]; exact c9)]
theorem lay_eq (K : LKx w σ τ vs o) (h37 : (w 37 0).toInt = 0) (hno : ∀ k : Int, 31 ≤ k → k < 34 → NOm σ k (σ 0 67).toInt) (hs : SUMd σ (σ 0 67).toInt.toNat ≤ 16000) (kx : KxS (LN0 w) s9) (ly0 : LYc (LN0 w) s9) (lm : LYm σ (σ 0 67).toInt s2) (ht : ∀ c, c ≠ 10 → t c = s9 c) (ht7 : t 10 7 = s9 10 7) (hr : ∀ c, 1 ≤ c → c ≤ 40 → s c = σ c) (h4 : ∀ c, 41 ≤ c → c ≤ 45 → s c = s2 c) (h70 : s 0 70 = σ 0 67) (h35 : s 0 35 = σ 0 35) : LYr t s := by
  have ly : LYc w s9 := lyc_rows ln0_rows rfl ly0
  have pl := pik_le K
  have pk1 := K.2.2.2.2.1.1
  have lpo : ∀ p : Nat, (p : Int) < (σ 0 67).toInt → LPo s p = PO σ p := fun p hp => by
    unfold LPo PO
    rw [h4 41 (by decide) (by decide), lm.2.2.1 p hp]
  have ino : ∀ o e, InO s o e ↔ InO σ o e := fun o e => by
    unfold InO fO
    rw [hr 22 (by decide) (by decide)]
  have t28 : t 28 = w 28 := by rw [ht 28 (by decide), show s9 28 = LN0 w 28 from funext (fun j => kx 28 j rfl rfl), ln0_rows 28 (by decide)]
  have t57 : ∀ i : Nat, (i : Int) < (w 10 5).toInt → t 57 i = w 56 i := fun i hi => by
    have hx : (nI i).toInt = (i : Int) := nI_toInt (by omega)
    have h1 := ly.2.1.1 (nI i) (by omega) (by omega)
    have e1 : atv 101 (s9 57) (nI i) = s9 57 i := atv_at hx (by omega)
    have e2 : kxI w (nI i) = w 56 i := atv_at hx (by omega)
    rw [ht 57 (by decide), ← e1, h1, e2]
  intro _
  rw [h70]
  refine ⟨⟨by rw [ht7, ly.1]; exact pk1, pl⟩, ?_, fun p hp => ?_, fun p p' hp hp' e => ?_⟩
  · rw [t57 0 (by omega)]
    exact K.1.2.2.2.2.2.2.2.2.2.2.1.2.1
  · have po := po_obj K.2.1 (p := p) hp
    have a40 := po.1
    have e40 := K.2.2.2.2.1.2 p hp
    have bv := bs_val K h37 p (by omega)
    have sb := sum_b K p (by omega)
    have b42 := lm.1 p hp
    have eb : bsI w (p + 1) = s2 42 p := ieq (by rw [bv, b42])
    have e41 : s 41 p = σ 40 p := by rw [h4 41 (by decide) (by decide)]; exact lm.2.2.1 p hp
    have smx : SUMd σ (p + 1) ≤ SUMd σ (σ 0 67).toInt.toNat := by
      have := sum_mono (σ := σ) (n := (σ 0 67).toInt) (fun q hq => (po_obj K.2.1 (p := q) hq).2.2.2.1.1) (p + 1) ((σ 0 67).toInt.toNat - (p + 1)) (by omega)
      rw [show p + 1 + ((σ 0 67).toInt.toNat - (p + 1)) = (σ 0 67).toInt.toNat from by omega] at this
      exact this
    have sx : SUMd σ (p + 1) = SUMd σ p + (σ 23 (PO σ p)).toInt := rfl
    refine ⟨?_, ?_, ?_, ?_, ?_, fun e he => ?_, fun e he h12 h13 j hj hb => ?_⟩
    · rw [t57 (p + 1) (by omega), e41, e40]
    · rw [e41, h35]
      have := po.2.1.2
      have := po.2.1.1
      omega
    · rw [lpo p hp, h4 42 (by decide) (by decide), ← eb, ht 58 (by decide)]
      have hx : (nI (p + 1)).toInt = ((p + 1 : Nat) : Int) := nI_toInt (by omega)
      have h1 := ly.2.1.2 (nI (p + 1)) (by omega) (by omega)
      have e2 : kxI w (nI (p + 1)) = w 56 (p + 1) := atv_at hx (by omega)
      rw [e2, show (nI (p + 1)).toInt.toNat = p + 1 from by omega] at h1
      rw [← h1]
      exact (atv_at (by have := po.2.1.1; omega) (by have := po.2.1.1; omega)).symm
    · rw [lpo p hp, h4 44 (by decide) (by decide), h4 42 (by decide) (by decide)]
      exact lm.2.1 p hp
    · rw [lpo p hp, h4 42 (by decide) (by decide), hr 23 (by decide) (by decide), b42]
      have := po.2.2.2.1
      omega
    · rw [lpo p hp, ino] at he
      have lty : ∀ e l, LTy s e l ↔ LTy σ e l := fun e l => by
        unfold LTy
        rw [hr 10 (by decide) (by decide), hr 15 (by decide) (by decide)]
      have hty : ∀ e f, HTy s e f ↔ HTy σ e f := fun e f => by
        unfold HTy
        rw [hr 9 (by decide) (by decide), hr 10 (by decide) (by decide), hr 15 (by decide) (by decide)]
      have am := lm.2.2.2 p hp e he
      obtain ⟨_, _, _, _, hf2, _⟩ := cl_pre K hp he
      unfold LYe
      rw [hr 9 (by decide) (by decide), hr 12 (by decide) (by decide), hr 13 (by decide) (by decide), hr 14 (by decide) (by decide), hr 17 (by decide) (by decide), h4 42 (by decide) (by decide), h4 43 (by decide) (by decide), ht 59 (by decide), t28, h70]
      refine ⟨fun h13 => ?_, fun h13 h12 h14 => ?_⟩
      · have cd := cl_def K ly hp he h13
        have e28 := (K.2.2.2.2.2.2.1 e hf2).1.2
        refine ⟨fun h9 => ⟨?_, (am.1 h13).2 h9⟩, fun h9 => ⟨cd.2 h9, (am.1 h13).1 h9⟩⟩
        rw [cd.1 h9, eb, e28 h9 h13]
      · rcases lay_und K ly lm hno hp he h13 h12 h14 with ⟨j, j4, a1, a2, a3, a4⟩ | ⟨q, f, q1, fi, f12, f13, a1, a2, a3⟩
        · exact Or.inl ⟨j, j4, a1, a2, a3, (lty e j).2 a4⟩
        · exact Or.inr ⟨q, f, q1, by rw [lpo q q1, ino]; exact fi, f12, f13, (hty e f).2 a1, a2, a3⟩
    · rw [lpo p hp, ino] at he
      rw [hr 12 (by decide) (by decide)] at h12
      rw [hr 13 (by decide) (by decide)] at h13
      obtain ⟨_, _, _, hd, hf2, _⟩ := cl_pre K hp he
      obtain ⟨_, _, _, _, _, f13⟩ := fl_at K hf2 (kx_le K) hd
      unfold LBk nfm at hb
      rw [hr 18 (by decide) (by decide), hr 19 (by decide) (by decide), hr 20 (by decide) (by decide)] at hb
      obtain ⟨r, hl⟩ := lib_ex (σ := σ) e
      refine hno 31 (by decide) (by decide) p hp e he h12 (Or.inl ⟨rfl, ⟨h12, by omega⟩, Or.inl ⟨r, hl, ?_⟩⟩)
      rcases (lib_at e).1 hl with ⟨i, i4, ir, _⟩ | ⟨_, hn⟩
      · omega
      · exact absurd hb (hn j hj)
  · rw [lpo p hp, lpo p' hp'] at e
    exact (dj_gi K.2.1).1 p p' hp hp' e
end LYE
