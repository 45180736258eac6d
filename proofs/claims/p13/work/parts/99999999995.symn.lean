/-! symbol() and name(), both sides -/
def fsy (f : Int32) : Int := (if (f &&& 1).toInt = 0 then 1 else 2) + (if (f &&& 4).toInt = 0 then (if (f &&& 8).toInt = 0 then 0 else 8) else 4)
def SYw (w : St) (a b v : Int32) : Prop := ∃ d : Int32, SAw w a b d.toInt ∧ (d.toInt < 0 → v = -1) ∧ (0 ≤ d.toInt → v.toInt = fsy (atv 10100 (w 25) d))
def SYr (σ : St) (a b v : Int32) : Prop := ∃ d : Int32, SAm σ a b d.toInt ∧ (d.toInt < 0 → v = -1) ∧ (0 ≤ d.toInt → v = ((σ 9 d.toNatClampNeg) + (if (σ 13 d.toNatClampNeg).toInt = 0 then 0 else 4)) + (if (σ 13 d.toNatClampNeg).toInt = 0 then (if (σ 14 d.toNatClampNeg).toInt = 0 then 0 else 8) else 0))
/-- byte c of the name of d -/
def NBw (w : St) (d c v : Int32) : Prop := (d.toInt < 0 → v = -1) ∧ ∀ D : Nat, d.toInt = (D : Int) + 1 → D + 1 < 10100 → 0 ≤ (w 29 D).toInt → (w 29 D).toInt ≤ (w 29 (D + 1)).toInt → (w 29 (D + 1)).toInt ≤ 65600 → ((c.toInt < 0 ∨ (w 29 (D + 1)).toInt - (w 29 D).toInt ≤ c.toInt) → v = -1) ∧ (0 ≤ c.toInt → c.toInt < (w 29 (D + 1)).toInt - (w 29 D).toInt → v = (w 30 ((w 29 D).toInt.toNat + c.toInt.toNat)) &&& 255)
def NBm (σ : St) (d c v : Int32) : Prop := (d.toInt < 0 → v = -1) ∧ (0 ≤ d.toInt → ((c.toInt < 0 ∨ (σ 19 d.toNatClampNeg).toInt ≤ c.toInt) → v = -1) ∧ (0 ≤ c.toInt → c.toInt < (σ 19 d.toNatClampNeg).toInt → v = σ 20 ((σ 18 d.toNatClampNeg) + c).toNatClampNeg))
def NMw2 (w : St) (a b c v : Int32) : Prop := ∃ d : Int32, SAw w a b d.toInt ∧ NBw w d c v
def NMr2 (σ : St) (a b c v : Int32) : Prop := ∃ d : Int32, SAm σ a b d.toInt ∧ NBm σ d c v
section SYN
variable {w σ s t τ : St} {vs z : List Nat} {a b c v v2 x : Int32} {o e : Nat}
theorem px_symbol {Q : Int32 → Prop} (h : IVx w o) (k : ∀ v, SYw w a b v → Q v) : pk_X12_symbol a b w Q := by
  unfold pk_X12_symbol
  refine px_symbolAt h (fun d hd => ⟨fun c0 => ?_, fun c0 => k _ ⟨d, hd, fun _ => rfl, fun c => by omega⟩⟩)
  have fin : ∀ v : Int32, v.toInt = fsy (atv 10100 (w 25) d) → Q v := fun v hv => k v ⟨d, hd, fun c => by omega, fun _ => hv⟩
  refine xl_is (fun v1 r1 h1 => ⟨fun y => y.toInt = if ((atv 10100 (w 25) d) &&& 1).toInt = 0 then 1 else 2, fun y hy => xl_is (fun v4 r4 h4 => ⟨fun z4 => xl_is (fun v8 r8 h8 => ⟨fun z8 => fin _ ?_, fun z8 => fin _ ?_⟩), fun z4 => fin _ ?_⟩), fun z1 => ?_, fun z1 => ?_⟩)
  · have q4 : ((atv 10100 (w 25) d) &&& 4).toInt = 0 := Classical.byContradiction (fun hc => (h4.2 hc) z4)
    have q8 : ((atv 10100 (w 25) d) &&& 8).toInt = 0 := Classical.byContradiction (fun hc => (h8.2 hc) z8)
    unfold fsy
    rw [if_pos q4, if_pos q8, hy]
    omega
  · have q4 : ((atv 10100 (w 25) d) &&& 4).toInt = 0 := Classical.byContradiction (fun hc => (h4.2 hc) z4)
    have hy2 : 1 ≤ y.toInt ∧ y.toInt ≤ 2 := by rw [hy]; split <;> omega
    unfold fsy
    rw [if_pos q4, if_neg (h8.1 z8), ← hy]
    exact ad (by rw [show (8 : Int32).toInt = 8 from rfl]; omega) (by rw [show (8 : Int32).toInt = 8 from rfl]; omega)
  · have hy2 : 1 ≤ y.toInt ∧ y.toInt ≤ 2 := by rw [hy]; split <;> omega
    unfold fsy
    rw [if_neg (h4.1 z4), ← hy]
    exact ad (by rw [show (4 : Int32).toInt = 4 from rfl]; omega) (by rw [show (4 : Int32).toInt = 4 from rfl]; omega)
  · rw [if_pos (Classical.byContradiction (fun hc => (h1.2 hc) z1))]
    rfl
  · rw [if_neg (h1.1 z1)]
    rfl
theorem rx_symbol {Q : Int32 → Prop} (h : GLI σ τ vs) (hd : ∀ A : Nat, ((A : Int) + 1) ≤ (σ 0 35).toInt → 0 ≤ (σ 22 A).toInt ∧ (σ 22 A).toInt ≤ (σ 22 (A + 1)).toInt ∧ (σ 22 (A + 1)).toInt ≤ 10000) (k : ∀ v, SYr σ a b v → Q v) : pp_symbol a b σ τ vs Q := by
  unfold pp_symbol
  refine rx_symbolAt h hd (fun d hd => ⟨fun c0 _ _ => ?_, fun c0 => k _ ⟨d, hd, fun _ => rfl, fun c => by omega⟩⟩)
  refine ⟨fun y => y = if (σ 13 d.toNatClampNeg).toInt = 0 then 0 else 4, fun y hy _ => ⟨fun c13 => k _ ⟨d, hd, fun c => by omega, fun _ => ?_⟩, fun c13 _ => ⟨fun c14 => k _ ⟨d, hd, fun c => by omega, fun _ => ?_⟩, fun c14 => k _ ⟨d, hd, fun c => by omega, fun _ => ?_⟩⟩⟩, fun c13 => ?_, fun c13 => ?_⟩
  · have hy' : y = if (σ 13 d.toNatClampNeg).toInt = 0 then 0 else 4 := hy
    rw [hy']
    simp only [if_neg c13]
  · have hy' : y = if (σ 13 d.toNatClampNeg).toInt = 0 then 0 else 4 := hy
    rw [hy']
    simp only [if_pos c13, if_pos c14]
  · have hy' : y = if (σ 13 d.toNatClampNeg).toInt = 0 then 0 else 4 := hy
    rw [hy']
    simp only [if_pos c13, if_neg c14]
  · rw [if_pos c13]
  · rw [if_neg c13]
theorem sym_eq (h : IVx w o) (r : RLp w σ) (re : RLe w σ) (rf : RLf w σ) (c : SYw w a b v) (m : SYr σ a b v2) : v = v2 := by
  obtain ⟨d, c1, c2, c3⟩ := c
  obtain ⟨d2, m1, m2, m3⟩ := m
  rcases sa_eq h r re c1 m1 with ⟨e1, e2⟩ | ⟨e, he, e1, e2⟩
  · rw [c2 (by omega), m2 (by omega)]
  · have hlt : e + 4 < 10100 := by
      obtain ⟨⟨h1, h1'⟩, h2, h3, -⟩ := h
      have d0 := de_le h2 o (Nat.le_refl _)
      have := r.2.1
      omega
    have n2 : d2.toNatClampNeg = e := nat_of e2
    have c4 := c3 (by omega)
    have m4 := m3 (by omega)
    rw [atv_at e1 hlt] at c4
    rw [n2] at m4
    obtain ⟨f1, _, f4, f9⟩ := re.2.2 e he
    have f8 := (rf.2.1 e he).2.1
    unfold FLq at f1 f4 f8
    refine ieq ?_
    rw [c4, m4]
    unfold fsy
    have k1 : ((w 25 (e + 4)) &&& 1).toInt = 0 ↔ (σ 9 e).toInt = 1 := ⟨fun q => Classical.byContradiction (fun q2 => f1.2 q2 q), fun q => Classical.byContradiction (fun q2 => f1.1 q2 q)⟩
    have k4 : ((w 25 (e + 4)) &&& 4).toInt = 0 ↔ (σ 13 e).toInt = 0 := ⟨fun q => Classical.byContradiction (fun q2 => f4.2 q2 q), fun q => Classical.byContradiction (fun q2 => f4.1 q2 q)⟩
    have k8 : ((w 25 (e + 4)) &&& 8).toInt = 0 ↔ (σ 14 e).toInt = 0 := ⟨fun q => Classical.byContradiction (fun q2 => f8.2 q2 q), fun q => Classical.byContradiction (fun q2 => f8.1 q2 q)⟩
    rcases f9 with g | g
    · have g' : σ 9 e = 1 := ieq g
      rw [if_pos (k1.2 g), g']
      by_cases x4 : (σ 13 e).toInt = 0
      · rw [if_pos (k4.2 x4), if_pos x4, if_pos x4]
        by_cases x8 : (σ 14 e).toInt = 0
        · rw [if_pos (k8.2 x8), if_pos x8]
          rfl
        · rw [if_neg (fun q => x8 (k8.1 q)), if_neg x8]
          rfl
      · rw [if_neg (fun q => x4 (k4.1 q)), if_neg x4, if_neg x4]
        rfl
    · have g' : σ 9 e = 2 := ieq g
      rw [if_neg (fun q => by have := k1.1 q; omega), g']
      by_cases x4 : (σ 13 e).toInt = 0
      · rw [if_pos (k4.2 x4), if_pos x4, if_pos x4]
        by_cases x8 : (σ 14 e).toInt = 0
        · rw [if_pos (k8.2 x8), if_pos x8]
          rfl
        · rw [if_neg (fun q => x8 (k8.1 q)), if_neg x8]
          rfl
      · rw [if_neg (fun q => x4 (k4.1 q)), if_neg x4, if_neg x4]
        rfl
theorem px_name {Q : Int32 → Prop} (h : IVx w o) (k : ∀ v, NMw2 w a b c v → Q v) : pk_X12_name a b c w Q := by
  unfold pk_X12_name pk_X8_nameByte pk_X8_nameStart
  refine px_symbolAt h (fun d hd => ?_)
  have d1 : 0 ≤ d.toInt → (d - (1 : Int32)).toInt = d.toInt - 1 := fun hd0 => by rw [sb (by rw [i1]; omega) (by rw [i1]; have := (s_rng d).2; omega), i1]
  by_cases hd0 : d.toInt < 0
  · have fin : Q ((-1) : Int32) := k _ ⟨d, hd, fun _ => rfl, fun D hD => by omega⟩
    refine ⟨fun y => y.toInt = 0, fun y hy => ⟨fun _ => fin, fun c0 => ⟨fun _ => fin, fun c1 => by omega⟩⟩, fun c0 => by omega, fun _ => rfl⟩
  · have d1 := d1 (by omega)
    have at1 : ∀ D : Nat, d.toInt = (D : Int) + 1 → D + 1 < 10100 → atv 10100 (w 29) d = w 29 (D + 1) ∧ atv 10100 (w 29) (d - (1 : Int32)) = w 29 D := fun D hD hlt => ⟨atv_at (by rw [hD]; rfl) hlt, atv_at (by rw [d1]; omega) (by omega)⟩
    refine ⟨fun y => y = (atv 10100 (w 29) d) - (atv 10100 (w 29) (d - (1 : Int32))), fun y hy => ⟨fun c0 => k _ ⟨d, hd, fun c => by omega, fun D hD hlt g1 g2 g3 => ⟨fun _ => rfl, fun c1 => by omega⟩⟩, fun c0 => ⟨fun c1 => k _ ⟨d, hd, fun c => by omega, fun D hD hlt g1 g2 g3 => ⟨fun _ => rfl, fun _ c2 => ?_⟩⟩, fun c1 => ⟨fun c2 => k _ ⟨d, hd, fun c => by omega, fun D hD hlt g1 g2 g3 => ⟨fun _ => rfl, fun _ c3 => ?_⟩⟩, fun c2 _ => k _ ⟨d, hd, fun c => by omega, fun D hD hlt g1 g2 g3 => ⟨fun c3 => ?_, fun _ c3 => ?_⟩⟩⟩⟩⟩, fun _ => rfl, fun c0 => by omega⟩
    · exfalso
      obtain ⟨a1, a2⟩ := at1 D hD hlt
      rw [hy, a1, a2, sb (by omega) (by omega)] at c1
      omega
    · exfalso
      obtain ⟨a1, a2⟩ := at1 D hD hlt
      rw [a2, ad (by omega) (by omega)] at c2
      omega
    · exfalso
      obtain ⟨a1, a2⟩ := at1 D hD hlt
      rw [hy, a1, a2, sb (by omega) (by omega)] at c1
      omega
    · obtain ⟨a1, a2⟩ := at1 D hD hlt
      rw [a2, nt', ad (by omega) (by omega), show ((w 29 D).toInt + c.toInt).toNat = (w 29 D).toInt.toNat + c.toInt.toNat from by omega]
theorem rx_name {Q : Int32 → Prop} (h : GLI σ τ vs) (hd : ∀ A : Nat, ((A : Int) + 1) ≤ (σ 0 35).toInt → 0 ≤ (σ 22 A).toInt ∧ (σ 22 A).toInt ≤ (σ 22 (A + 1)).toInt ∧ (σ 22 (A + 1)).toInt ≤ 10000) (k : ∀ v, NMr2 σ a b c v → Q v) : pp_name a b c σ τ vs Q := by
  unfold pp_name
  exact rx_symbolAt h hd (fun d hd => ⟨fun c0 => k _ ⟨d, hd, fun _ => rfl, fun c => by omega⟩, fun c0 => ⟨fun c1 => k _ ⟨d, hd, fun c => by omega, fun _ => ⟨fun _ => rfl, fun c2 => by omega⟩⟩, fun c1 _ => ⟨fun c2 => k _ ⟨d, hd, fun c => by omega, fun _ => ⟨fun _ => rfl, fun _ c3 => by omega⟩⟩, fun c2 _ _ => k _ ⟨d, hd, fun c => by omega, fun _ => ⟨fun c3 => by omega, fun _ _ => rfl⟩⟩⟩⟩⟩)
theorem name_eq (h : IVx w o) (hG : GLI σ τ vs) (r : RLp w σ) (re : RLe w σ) (rf : RLf w σ) (cc : NMw2 w a b c v) (m : NMr2 σ a b c v2) : v = v2 := by
  obtain ⟨d, c1, c2, c3⟩ := cc
  obtain ⟨d2, m1, m2, m3⟩ := m
  rcases sa_eq h r re c1 m1 with ⟨e1, e2⟩ | ⟨e, he, e1, e2⟩
  · rw [c2 (by omega), m2 (by omega)]
  · obtain ⟨⟨h1, h1'⟩, h2, h3, h4, ⟨f1, f2, f3⟩, -⟩ := h
    have hlt : e + 4 < 10100 := by
      have d0 := de_le h2 o (Nat.le_refl _)
      have := r.2.1
      omega
    have n2 : d2.toNatClampNeg = e := nat_of e2
    have r3 := r.2.2.1
    obtain ⟨a1, a2, a3, a4, a5, a6, a7⟩ := (rf.2.1 e he).2.2.2.2
    have c4 := c3 (e + 3) (by rw [e1]; omega) (by omega) a3 (by show (w 29 (e + 3)).toInt ≤ (w 29 (e + 4)).toInt; omega) (by show (w 29 (e + 4)).toInt ≤ 65600; omega)
    rw [show e + 3 + 1 = e + 4 from rfl] at c4
    have m4 := m3 (by omega)
    rw [n2] at m4
    by_cases hc : c.toInt < 0 ∨ (σ 19 e).toInt ≤ c.toInt
    · rw [c4.1 (by omega), m4.1 hc]
    · rw [c4.2 (by omega) (by omega), m4.2 (by omega) (by omega)]
      obtain ⟨b1, b2, b3⟩ := a7 c.toInt.toNat (by omega)
      have ei : ((σ 18 e) + c).toNatClampNeg = (σ 18 e).toInt.toNat + c.toInt.toNat := by rw [nt', ad (by omega) (by omega)]; omega
      rw [ei]
      refine ieq ?_
      have x := (bq (x := w 30 ((w 29 (e + 3)).toInt.toNat + c.toInt.toNat)) (c := (w 30 ((w 29 (e + 3)).toInt.toNat + c.toInt.toNat)).toInt) (by omega) (by omega)).2 rfl
      rw [x]
      exact b1
end SYN
