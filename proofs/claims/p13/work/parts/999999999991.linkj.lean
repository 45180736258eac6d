/-! link(), the class, exactly but for the places of what is linked -/
def dsm (g : Nat → Int) : Nat → Int
  | 0 => 0
  | n + 1 => dsm g n + g n
def LN0 (w : St) : St := upC (upC w 10 3 ((-1) : Int32)) 10 4 ((-1) : Int32)
def MFc (w : St) (v : Int32) : Prop := FSTi w (w 10 5).toInt (CDi w (w 55) 4 0 4) v
def DSc (w : St) : Int := dsm (fun i => (w 37 (w 56 (i + 1)).toInt.toNat).toInt) ((w 10 5).toInt.toNat - 1)
/-- what link() comes to -/
def LNc (w : St) (v : Int32) (t : St) : Prop :=
  (∃ (kind x d c : Int32), (31 ≤ kind.toInt ∧ kind.toInt ≤ 33) ∧ (∀ k : Int, 31 ≤ k → k < kind.toInt → NOc w k) ∧ FRc w kind.toInt x d c ∧ v = -kind ∧ t = upC (upC (upC (LN0 w) 10 3 (x - (1 : Int32))) 10 4 c) 10 5 (1 : Int32))
  ∨ ((∀ k : Int, 31 ≤ k → k < 34 → NOc w k) ∧ ∃ m, MFc w m ∧ ((¬ MNc w m ∧ v = -(34 : Int32) ∧ t = upC (LN0 w) 10 5 (1 : Int32)) ∨ (MNc w m ∧ ((16000 < DSc w ∧ v = -(35 : Int32) ∧ t = upC (LN0 w) 10 5 (1 : Int32)) ∨ (DSc w ≤ 16000 ∧ v = 0 ∧ ∃ s, KxS (LN0 w) s ∧ LYc (LN0 w) s ∧ t = upC (upC (upC s 10 11 (atv 10100 (s 59) m)) 10 2 (1 : Int32)) 10 5 (1 : Int32))))))
section LNJ
variable {w s t u : St} {a1 a2 x v d c m : Int32} {o n : Nat} {g g2 : Nat → Int}
theorem dsm_s : dsm g (n + 1) = dsm g n + g n := rfl
theorem dsm_eq (h : ∀ i, i < n → g i = g2 i) : dsm g n = dsm g2 n := by
  induction n with
  | zero => rfl
  | succ n ih => rw [dsm_s, dsm_s, ih (fun i hi => h i (by omega)), h n (by omega)]
theorem dsm_rng (h : ∀ i, i < n → 0 ≤ g i ∧ g i ≤ 16000) : 0 ≤ dsm g n ∧ dsm g n ≤ 16000 * (n : Int) := by
  induction n with
  | zero => exact ⟨Int.le_refl _, Int.le_refl _⟩
  | succ n ih =>
    have a := ih (fun i hi => h i (by omega))
    have b := h n (by omega)
    rw [dsm_s]
    omega
theorem ln_rows (h : ∀ c, c ≠ 10 → s c = w c) (h5 : s 10 5 = w 10 5) (k : Int) : NOc s k = NOc w k ∧ (∀ x d c, FRc s k x d c = FRc w k x d c) ∧ (∀ v, MNc s v = MNc w v) ∧ DSc s = DSc w := by
  unfold NOc FRc MNc DSc WRc DFi FSTi CDi NMq RGi LOi HIi kxI AGc
  rw [h5, h 25 (by decide), h 26 (by decide), h 27 (by decide), h 29 (by decide), h 30 (by decide), h 34 (by decide), h 37 (by decide), h 56 (by decide)]
  exact ⟨rfl, fun _ _ _ => rfl, fun _ => rfl, rfl⟩
theorem ln0_rows : ∀ c, c ≠ 10 → LN0 w c = w c := fun c hc => by unfold LN0; rw [rdC_ne hc, rdC_ne hc]
theorem px_dataCells {Q : Int32 → Prop} (hp : 1 ≤ (w 10 5).toInt ∧ (w 10 5).toInt ≤ 101) (h56 : ∀ j : Nat, 1 ≤ j → (j : Int) < (w 10 5).toInt → 0 ≤ (w 56 j).toInt ∧ (w 56 j).toInt ≤ 100) (hd : ∀ i : Nat, i < (w 10 5).toInt.toNat - 1 → 0 ≤ (w 37 (w 56 (i + 1)).toInt.toNat).toInt ∧ (w 37 (w 56 (i + 1)).toInt.toNat).toInt ≤ 16000) (k : ∀ v : Int32, v.toInt = DSc w → Q v) : pk_X4_dataCells w Q := by
  unfold pk_X4_dataCells
  refine ⟨fun y x => 1 ≤ x.toInt ∧ x.toInt ≤ (w 10 5).toInt ∧ y.toInt = dsm (fun i => (w 37 (w 56 (i + 1)).toInt.toNat).toInt) (x.toInt.toNat - 1), ⟨by decide, by rw [i1]; omega, rfl⟩, ?_⟩
  rintro y x ⟨h0, h1, hy⟩
  refine ⟨fun c => k y ?_, fun c => ?_⟩
  · rw [hy]
    unfold DSc
    rw [show x.toInt.toNat = (w 10 5).toInt.toNat from by omega]
  · have up := up_lt c
    have rg := dsm_rng (g := fun i => (w 37 (w 56 (i + 1)).toInt.toNat).toInt) (n := x.toInt.toNat - 1) (fun i hi => hd i (by omega))
    have dx := hd (x.toInt.toNat - 1) (by omega)
    rw [show x.toInt.toNat - 1 + 1 = x.toInt.toNat from by omega] at dx
    have k56 := h56 x.toInt.toNat (by omega) (by omega)
    have e56 : atv 101 (w 56) x = w 56 x.toInt.toNat := atv_at (by omega) (by omega)
    have e37 : atv 101 (w 37) (w 56 x.toInt.toNat) = w 37 (w 56 x.toInt.toNat).toInt.toNat := atv_at (by omega) (by omega)
    rw [e56, e37]
    refine ⟨by rw [up]; omega, by rw [up]; omega, ?_⟩
    rw [up, ad (by omega) (by omega), hy, show (x.toInt + 1).toNat - 1 = (x.toInt.toNat - 1) + 1 from by omega, dsm_s]
    show _ = _ + (w 37 (w 56 (x.toInt.toNat - 1 + 1)).toInt.toNat).toInt
    rw [show x.toInt.toNat - 1 + 1 = x.toInt.toNat from by omega]
theorem px_find55 {Q : Int32 → Prop} (hb : NEb w) (k : ∀ v, FSTi w a2.toInt (CDi w (w 55) 4 0 4) v → Q v) : pk_X4_find_r56_r55 a2 (0 : Int32) (4 : Int32) w Q := wl_wk_X4_find_r56_r55 (fun v p => k v p) (sp_find55 hb (by decide) (by decide) (fun v p => p))
theorem px_linkx {Q : Int32 → St → Prop} (h : IVx w o) (hd : ∀ i : Nat, i < (w 10 5).toInt.toNat - 1 → 0 ≤ (w 37 (w 56 (i + 1)).toInt.toNat).toInt ∧ (w 37 (w 56 (i + 1)).toInt.toNat).toInt ≤ 16000) (k : ∀ v t, LNc w v t → Q v t) : pk_X12_link w Q := by
  have rn0 := rn_iv h
  have hnb : NEb w := h.2.2.2.2.2.1.2
  have pkx := h.2.2.2.2.2.2.2.2.2.2.1
  have o100 := h.1.2
  unfold pk_X12_link pk_X4_join
  rw [show upC (upC w 10 3 ((-1) : Int32)) 10 4 ((-1) : Int32) = LN0 w from rfl]
  have r0 := ln0_rows (w := w)
  have h5 : LN0 w 10 5 = w 10 5 := rfl
  have nb0 : NEb (LN0 w) := by unfold NEb; rw [r0 29 (by decide)]; exact hnb
  have rnl : RNo (LN0 w) := by
    unfold RNo LOi HIi kxI
    rw [r0 34 (by decide), r0 56 (by decide), h5]
    exact rn0
  have rdl : RGd (LN0 w) := by
    have rd0 := rgd_iv h
    unfold RGd RGi LOi HIi kxI at rd0 ⊢
    rw [r0 34 (by decide), r0 56 (by decide), h5]
    exact rd0
  obtain ⟨_, lfr, lmn, lds⟩ := ln_rows (s := LN0 w) r0 h5 0
  refine px_find55 nb0 (fun v25 hf => ?_)
  have hM : MFc w v25 := by
    unfold MFc
    rw [fst_same (r0 56 (by decide)) (r0 34 (by decide)) (r0 25 (by decide)) (r0 29 (by decide)) (r0 30 (by decide)), r0 55 (by decide)] at hf
    exact hf
  refine ⟨fun x2 x3 s => (31 ≤ x3.toInt ∧ x3.toInt ≤ 34) ∧ ((x2 = 0 ∧ s = LN0 w ∧ ∀ k : Int, 31 ≤ k → k < x3.toInt → NOc w k) ∨ ∃ (x d c : Int32), (31 ≤ x2.toInt ∧ x2.toInt ≤ 33) ∧ (∀ k : Int, 31 ≤ k → k < x2.toInt → NOc w k) ∧ FRc w x2.toInt x d c ∧ s = upC (upC (LN0 w) 10 3 (x - (1 : Int32))) 10 4 c), ⟨by decide, Or.inl ⟨rfl, rfl, fun k k1 k2 => by rw [show (31 : Int32).toInt = 31 from rfl] at k2; omega⟩⟩, ?_⟩
  rintro x2 x3 s ⟨hx, hs⟩
  have e33 : (33 : Int32).toInt = 33 := rfl
  rcases hs with ⟨e2, es, hno⟩ | ⟨x, d, c, hk, hno, hfr, es⟩
  · subst e2 es
    refine ⟨∀ k : Int, 31 ≤ k → k < 34 → NOc w k, fun all => ?_, fun c3 k k1 k2 => hno k k1 (by omega), fun c3 => ⟨fun z => absurd rfl z, fun _ => px_look nb0 rnl (fun hn => ⟨by rw [ad1 (by omega)]; omega, Or.inl ⟨rfl, rfl, fun k k1 k2 => ?_⟩⟩) (fun x d c hf => ⟨by rw [ad1 (by omega)]; omega, Or.inr ⟨x, d, c, by omega, hno, ?_, rfl⟩⟩)⟩⟩
    rotate_left
    · rw [ad1 (by omega)] at k2
      by_cases e : k = x3.toInt
      · rw [e, ← (ln_rows (s := LN0 w) r0 h5 x3.toInt).1]
        exact hn
      · exact hno k k1 (by omega)
    · rw [← (ln_rows (s := LN0 w) r0 h5 x3.toInt).2.1]
      exact hf
    -- no fault of 31 .. 33
    have z0 : ((0 : Int32)).toInt = 0 := rfl
    have fail : ∀ a : Int32, (a = 34 → ¬ MNc w v25) → (a = 35 → MNc w v25 ∧ 16000 < DSc w) → (a = 34 ∨ a = 35) → Q (-a) (upC (LN0 w) 10 5 (1 : Int32)) := fun a a34 a35 ha => by
      rcases ha with e | e
      · rw [e]
        exact k _ _ (Or.inr ⟨all, v25, hM, Or.inl ⟨a34 e, rfl, rfl⟩⟩)
      · rw [e]
        exact k _ _ (Or.inr ⟨all, v25, hM, Or.inr ⟨(a35 e).1, Or.inl ⟨(a35 e).2, rfl, rfl⟩⟩⟩)
    refine ⟨fun a => (a = 0 ∧ MNc w v25) ∨ (a = 34 ∧ ¬ MNc w v25), fun a ha => ⟨fun b => (b = 0 ∧ MNc w v25 ∧ DSc w ≤ 16000) ∨ (b = 34 ∧ ¬ MNc w v25) ∨ (b = 35 ∧ MNc w v25 ∧ 16000 < DSc w), fun b hb => ⟨fun b0 => ?_, fun b0 => ?_⟩, fun a0 => ?_, fun a0 => ?_⟩, fun z => absurd rfl z, fun _ => px_isMain (fun hm => ⟨fun _ => Or.inl ⟨rfl, by rw [← lmn]; exact hm⟩, fun z => absurd z (by decide)⟩) (fun hm => ⟨fun z => absurd rfl z, fun _ => Or.inr ⟨rfl, by rw [← lmn]; exact hm⟩⟩)⟩
    · rcases hb with ⟨e, _⟩ | ⟨e, hm⟩ | ⟨e, hm⟩
      · rw [e] at b0
        exact absurd rfl b0
      · exact fail b (fun _ => hm) (fun e2 => by rw [e] at e2; exact absurd e2 (by decide)) (Or.inl e)
      · exact fail b (fun e2 => by rw [e] at e2; exact absurd e2 (by decide)) (fun _ => hm) (Or.inr e)
    · rcases hb with ⟨e, hm, hds⟩ | ⟨e, _⟩ | ⟨e, _⟩
      · rw [e]
        refine wl_wk_X4_settle (fun s93 p => ?_) (sk_settlex (Q := fun s => KxS (LN0 w) s ∧ LYc (LN0 w) s) nb0 rnl rdl (by rw [h5]; have := pkx.1; omega) (fun t kx ly => ⟨kx, ly⟩))
        exact k _ _ (Or.inr ⟨all, v25, hM, Or.inr ⟨hm, Or.inr ⟨hds, rfl, s93, p.1, p.2, rfl⟩⟩⟩)
      · rw [e] at b0
        exact absurd b0 (by decide)
      · rw [e] at b0
        exact absurd b0 (by decide)
    · rcases ha with ⟨e, _⟩ | ⟨e, hm⟩
      · rw [e] at a0
        exact absurd rfl a0
      · exact Or.inr (Or.inl ⟨e, hm⟩)
    · rcases ha with ⟨e, hm⟩ | ⟨e, _⟩
      · refine px_dataCells (by rw [h5]; have := pkx.1; omega) (fun j j1 j2 => ?_) (fun i hi => ?_) (fun v hv => ⟨fun c => Or.inl ⟨e, hm, by rw [← lds]; omega⟩, fun c => Or.inr (Or.inr ⟨rfl, hm, by rw [← lds]; omega⟩)⟩)
        · rw [h5] at j2
          rw [r0 56 (by decide)]
          have := pkx.2.2.1 j j1 j2
          omega
        · rw [h5] at hi
          rw [r0 37 (by decide), r0 56 (by decide)]
          exact hd i hi
      · rw [e] at a0
        exact absurd a0 (by decide)
  · have x20 : x2.toInt ≠ 0 := by omega
    refine ⟨True, fun _ => ⟨fun a => a = x2, fun a ha => ⟨fun b => b = x2, fun b hb => ⟨fun _ => ?_, fun b0 => by rw [hb] at b0; omega⟩, fun _ => ha, fun a0 => by rw [ha] at a0; omega⟩, fun _ => rfl, fun z => absurd z x20⟩, fun _ => trivial, fun _ => ⟨fun _ => trivial, fun z => absurd z x20⟩⟩
    rw [hb, es]
    exact k _ _ (Or.inl ⟨x2, x, d, c, hk, hno, hfr, rfl, rfl⟩)
end LNJ
