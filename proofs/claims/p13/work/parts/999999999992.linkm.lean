/-! link(), the reference, exactly but for the places of what is linked -/
def LM0 (σ : St) : St := upC (upC (upC σ 0 67 (0 : Int32)) 0 71 ((-1) : Int32)) 0 72 ((-1) : Int32)
/-- main's body's number is told by an entity -/
def MFm (σ : St) (n : Int) (f : Nat) : Prop := ∃ p : Nat, (p : Int) < n ∧ InO σ (PO σ p) f ∧ MNm σ f
def LNm (σ : St) (v : Int32) (s : St) : Prop :=
  (∃ (kind p : Int32) (e : Nat) (c : Int32) (s' : St), (31 ≤ kind.toInt ∧ kind.toInt ≤ 33) ∧ (∀ k : Int, 31 ≤ k → k < kind.toInt → NOm σ k (σ 0 67).toInt) ∧ 0 ≤ p.toInt ∧ FRm σ kind.toInt (σ 0 67).toInt p.toNatClampNeg e c ∧ v = -kind ∧ Kp [(0, 73), (0, 74)] [] (LM0 σ) s' ∧ s = upC (upC s' 0 71 p) 0 72 c)
  ∨ ((∀ k : Int, 31 ≤ k → k < 34 → NOm σ k (σ 0 67).toInt) ∧ (((∀ f, ¬ MFm σ (σ 0 67).toInt f) ∧ v = -(34 : Int32) ∧ Kp [(0, 73), (0, 74)] [] (LM0 σ) s) ∨ ∃ f, MFm σ (σ 0 67).toInt f ∧ ((16000 < SUMd σ (σ 0 67).toInt.toNat ∧ v = -(35 : Int32) ∧ Kp [(0, 73), (0, 74)] [] (LM0 σ) s) ∨ (SUMd σ (σ 0 67).toInt.toNat ≤ 16000 ∧ v = 0 ∧ ∃ s1 s2, Kp [(0, 73), (0, 74)] [] (LM0 σ) s1 ∧ KLa (upC s1 0 78 (σ 17 f)) s2 ∧ LYm σ (σ 0 67).toInt s2 ∧ s = upC s2 0 70 (σ 0 67)))))
section LMM
variable {σ s t τ u : St} {vs z : List Nat} {a x : Int32} {p n : Nat}
theorem lm0_rows : ∀ c, c ≠ 0 → LM0 σ c = σ c := fun c hc => by unfold LM0; rw [rdC_ne hc, rdC_ne hc, rdC_ne hc]
theorem lm_rows (h : ∀ c, c ≠ 0 → s c = σ c) (k n : Int) : NOm s k n = NOm σ k n ∧ (∀ p e c, FRm s k n p e c = FRm σ k n p e c) ∧ (∀ f, MFm s n f = MFm σ n f) ∧ (∀ p, PO s p = PO σ p) ∧ RWS s n = RWS σ n := by
  unfold NOm FRm MFm HOm MNm LIB LBk FND NFD MT ALK nfm InO fO PO HLm HTm RWS NMo AllIn
  first | unfold InO | skip
  first | unfold fO | skip
  first | unfold PO | skip
  rw [h 9 (by decide), h 10 (by decide), h 11 (by decide), h 12 (by decide), h 13 (by decide), h 14 (by decide), h 15 (by decide), h 16 (by decide), h 18 (by decide), h 19 (by decide), h 20 (by decide), h 22 (by decide), h 40 (by decide)]
  exact ⟨rfl, fun _ _ _ => rfl, fun _ => rfl, fun _ => rfl, rfl⟩
theorem sumd_rows (h : ∀ c, c ≠ 0 → s c = σ c) : ∀ p, SUMd s p = SUMd σ p
  | 0 => rfl
  | p + 1 => by
    show SUMd s p + (s 23 (PO s p)).toInt = SUMd σ p + (σ 23 (PO σ p)).toInt
    rw [sumd_rows h p]
    unfold PO
    rw [h 23 (by decide), h 40 (by decide)]
theorem rx_linkx {Q : Int32 → St → St → List Nat → Prop} (h : GLI σ τ vs) (hF : (σ 0 2).toInt ≤ 10240) (k : ∀ v s, LNm σ v s → Q v s τ vs) : pp_link σ τ vs Q := by
  have e31 : (31 : Int32).toInt = 31 := by decide
  have e0 : (0 : Int32).toInt = 0 := by decide
  have hR := rws_gi h
  have hn := hR.1
  unfold pp_link
  rw [show upC (upC (upC σ 0 67 (0 : Int32)) 0 71 ((-1) : Int32)) 0 72 ((-1) : Int32) = LM0 σ from rfl]
  refine ⟨fun x s t z => 31 ≤ x.toInt ∧ x.toInt ≤ 34 ∧ Kp [(0, 73), (0, 74)] [] (LM0 σ) s ∧ t = τ ∧ z = vs ∧ ∀ i : Int, 31 ≤ i → i < x.toInt → NOm σ i (σ 0 67).toInt, ⟨by omega, by omega, kp_rf, rfl, rfl, fun i i1 i2 => by omega⟩, ?_⟩
  rintro x s t z ⟨q2, q3, kl, rfl, rfl, q4⟩
  have rows : ∀ c, c ≠ 0 → s c = σ c := fun c hc => (k7_rows kl c hc).trans (lm0_rows c hc)
  obtain ⟨_, lfr, lmf, lpo, lrw⟩ := lm_rows rows x.toInt (σ 0 67).toInt
  have hRs : RWS s (σ 0 67).toInt := by rw [lrw]; exact hR
  refine ⟨fun c => ?_, fun c => ?_⟩
  rotate_left 1
  · have e1 := ad1 (x := x) (by omega)
    refine rx_isFault hRs (fun s2 k2 cl => ⟨fun _ => ⟨by omega, by omega, kp_tr kl k2, rfl, rfl, fun i i1 i2 => ?_⟩, fun z => absurd rfl z⟩) (fun s2 p e c k2 hp hf => ⟨fun z => absurd z (by decide), fun _ => ?_⟩)
    · by_cases e : i = x.toInt
      · rw [e, ← (lm_rows rows x.toInt (σ 0 67).toInt).1]
        exact cl
      · exact q4 i i1 (by omega)
    · rw [lfr] at hf
      exact k _ _ (Or.inl ⟨x, p, e, c, s2, by omega, q4, hp, hf, rfl, kp_tr kl k2, rfl⟩)
  have all : ∀ i : Int, 31 ≤ i → i < 34 → NOm σ i (σ 0 67).toInt := fun i i1 i2 => q4 i i1 (by omega)
  refine rx_mainOf hRs (fun hno => ⟨fun q => absurd q (by decide), fun _ => k _ _ (Or.inr ⟨all, Or.inl ⟨fun f hm => ?_, rfl, kl⟩⟩)⟩) (fun pm fm m1 m2 m3 => ⟨fun _ => ?_, fun hneg => ?_⟩)
  · rw [← lmf] at hm
    obtain ⟨p, hp, hi, hm⟩ := hm
    exact hno p hp f hi hm
  rotate_left
  · exfalso
    have w0 := (h.2.2.1.2.2.2.2.2.2.2.2.2.1 fm).1
    rw [rows 17 (by decide)] at hneg
    omega
  have hM : MFm σ (σ 0 67).toInt fm := by rw [← lmf]; exact ⟨pm, m1, m2, m3⟩
  have a40 := rows 40 (by decide)
  have a23 := rows 23 (by decide)
  refine ⟨fun y p => 0 ≤ p.toInt ∧ p.toInt ≤ (σ 0 67).toInt ∧ y.toInt = SUMd σ p.toNatClampNeg ∧ (0 ≤ y.toInt ∧ y.toInt ≤ 16000 * p.toInt), ⟨by omega, by omega, by rw [e0, show (0 : Int32).toNatClampNeg = 0 by decide]; rfl, by omega⟩, ?_⟩
  rintro y p ⟨r2, r5, r3, r4⟩
  have np := nt r2
  refine ⟨fun c3 => ⟨fun c4 => ?_, fun c4 => k _ _ (Or.inr ⟨all, Or.inr ⟨fm, hM, Or.inl ⟨?_, rfl, kl⟩⟩⟩)⟩, fun c3 _ _ => ?_⟩
  rotate_left 1
  · rw [← show p.toNatClampNeg = (σ 0 67).toInt.toNat from by omega, ← r3]
    exact c4
  · obtain ⟨i1, i2, i3, i4, i5, i6, i7, i8, i9⟩ := po_of hR r2 c3
    rw [a40, a23, i3]
    have ep := ad1 (x := p) (by omega)
    have epn : (p + 1).toNatClampNeg = p.toNatClampNeg + 1 := by rw [nt', ep]; omega
    have dc := (po_obj h (p := p.toNatClampNeg) (by omega)).2.2.2.1
    have ey : (y + σ 23 (PO σ p.toNatClampNeg)).toInt = y.toInt + (σ 23 (PO σ p.toNatClampNeg)).toInt := ad (by omega) (by omega)
    refine ⟨by omega, by omega, ?_, by omega⟩
    rw [ey, epn, r3]
    rfl
  have pe : p.toNatClampNeg = (σ 0 67).toInt.toNat := by omega
  rw [r3, pe] at c4
  have ly := lyb_gi h hF c4
  rw [rows 17 (by decide)]
  have ly2 : LYb (upC s 0 78 (σ 17 fm)) (σ 0 67).toInt := by
    have ea : ∀ c, c ≠ 0 → upC s 0 78 (σ 17 fm) c = σ c := fun c hc => by rw [rdC_ne hc]; exact rows c hc
    obtain ⟨l1, l2, l3⟩ := ly
    refine ⟨by rw [(lm_rows ea 0 (σ 0 67).toInt).2.2.2.2]; exact hR, ?_, by rw [sumd_rows ea]; exact l3⟩
    unfold ITr PO
    rw [ea 23 (by decide), ea 24 (by decide), ea 25 (by decide), ea 40 (by decide)]
    exact l2
  have eb : ∀ c, c ≠ 0 → upC s 0 78 (σ 17 fm) c = σ c := fun c hc => by rw [rdC_ne hc]; exact rows c hc
  obtain ⟨dj1, dj2⟩ := dj_gi h
  refine rx_layAll ly2 (dj_rows eb dj1 dj2).1 (dj_rows eb dj1 dj2).2 (fun s6 k6 l6 => ?_)
  exact k _ _ (Or.inr ⟨all, Or.inr ⟨fm, hM, Or.inr ⟨c4, rfl, s, s6, kl, k6, lym_rows eb l6, rfl⟩⟩⟩)
end LMM
