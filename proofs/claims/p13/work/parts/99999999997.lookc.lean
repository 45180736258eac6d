/-! link(), the class: which fault there is, exactly -/
def AGc (w : St) (d v : Int32) : Prop := v.toInt < 0 ∨ ((FLb (atv 10100 (w 25) d) 1 ↔ FLb (atv 10100 (w 25) v) 1) ∧ (atv 10100 (w 26) d).toInt = (atv 10100 (w 26) v).toInt ∧ ((atv 10100 (w 27) d).toInt = (atv 10100 (w 27) v).toInt ∨ (¬ FLb (atv 10100 (w 25) d) 1 ∧ (atv 10100 (w 27) d).toInt = 0 ∧ 0 < (atv 10100 (w 27) v).toInt)))
/-- a fault of a number at a symbol d of what is picked as x-th -/
def WRc (w : St) (kind : Int) (x d : Int32) : Prop := (FLb (atv 10100 (w 25) d) 4 ∧ kind = 31 ∧ ∃ v, DFi w x.toInt d v ∧ 0 ≤ v.toInt) ∨ (¬ FLb (atv 10100 (w 25) d) 4 ∧ kind = 32 ∧ FLb (atv 10100 (w 25) d) 8 ∧ ∃ v, DFi w (w 10 5).toInt d v ∧ v.toInt < 0) ∨ (¬ FLb (atv 10100 (w 25) d) 4 ∧ kind = 33 ∧ ∃ v, DFi w (w 10 5).toInt d v ∧ ¬ AGc w d v)
/-- none of a number -/
def NOc (w : St) (kind : Int) : Prop := ∀ x : Int32, 1 ≤ x.toInt → x.toInt < (w 10 5).toInt → ∀ d, RGi w x d → ¬ FLb (atv 10100 (w 25) d) 2 → ¬ WRc w kind x d
/-- the first of a number, at symbol c of the x-th -/
def FRc (w : St) (kind : Int) (x d c : Int32) : Prop := (1 ≤ x.toInt ∧ x.toInt < (w 10 5).toInt) ∧ (RGi w x d ∧ ¬ FLb (atv 10100 (w 25) d) 2 ∧ WRc w kind x d) ∧ (∀ x' : Int32, 1 ≤ x'.toInt → x'.toInt < x.toInt → ∀ d, RGi w x' d → ¬ FLb (atv 10100 (w 25) d) 2 → ¬ WRc w kind x' d) ∧ (∀ d', RGi w x d' → d'.toInt < d.toInt → ¬ FLb (atv 10100 (w 25) d') 2 → ¬ WRc w kind x d') ∧ c.toInt = ((czn (fun d => ((w 25 d) &&& 2).toInt) (LOi w x).toNat (d.toInt - LOi w x).toNat : Nat) : Int)
/-- it is int main(void) -/
def MNc (w : St) (v : Int32) : Prop := 0 ≤ v.toInt ∧ FLb (atv 10100 (w 25) v) 1 ∧ (atv 10100 (w 26) v).toInt = 0 ∧ (atv 10100 (w 27) v).toInt = 0
section LKC
variable {w s t u : St} {a1 a2 a3 x v d : Int32} {o : Nat}
theorem px_agrees {Q : Int32 → Prop} (k1 : AGc w a1 a2 → Q (1 : Int32)) (k0 : ¬ AGc w a1 a2 → Q (0 : Int32)) : pk_X4_agrees a1 a2 w Q := by
  unfold pk_X4_agrees
  refine xl_is (fun v31 r31 h31 => ⟨fun y => y.toInt ≠ 0 ↔ (v31.toInt = 0 ∧ (atv 10100 (w 27) a1).toInt = 0 ∧ 0 < (atv 10100 (w 27) a2).toInt), fun y0 ry hy => ⟨fun c => k1 (Or.inl c), fun c => xl_is (fun v69 r69 h69 => ⟨fun c1 => k0 ?_, fun c1 => ⟨fun c2 => k0 ?_, fun c2 => ⟨fun c3 => k1 (Or.inr ⟨?_, c2, Or.inl c3⟩), fun c3 => ⟨fun c4 => k0 ?_, fun c4 => k1 (Or.inr ⟨?_, c2, Or.inr ⟨?_, (hy.1 c4).2⟩⟩)⟩⟩⟩⟩)⟩, ?_⟩)
  · rintro (g | ⟨g1, g2, g3⟩)
    · omega
    · by_cases q : v31.toInt = 0
      · have q2 : v69.toInt ≠ 0 := by omega
        exact absurd (g1.2 (h69.1 q2)) (fun f => (h31.2 f) q)
      · have q2 : v69.toInt = 0 := by
          have := g1.1 (h31.1 q)
          rcases r69 with g | g
          · exact g
          · rcases r31 with g' | g'
            · exact absurd g' q
            · omega
        exact absurd (g1.1 (h31.1 q)) (fun f => (h69.2 f) q2)
  · rintro (g | ⟨g1, g2, g3⟩)
    · omega
    · exact c2 g2
  · exact ⟨fun f => h69.1 (by have := h31.2 f; omega), fun f => h31.1 (by have := h69.2 f; omega)⟩
  · rintro (g | ⟨g1, g2, g3 | ⟨g3, g4, g5⟩⟩)
    · omega
    · exact c3 g3
    · have q : v31.toInt = 0 := Classical.byContradiction (fun hc => g3 (h31.1 hc))
      have := hy.2 ⟨q, g4, g5⟩
      omega
  · exact ⟨fun f => h69.1 (by have := h31.2 f; omega), fun f => h31.1 (by have := h69.2 f; omega)⟩
  · intro f
    exact (h31.2 f) (hy.1 c4).1
  · by_cases g : v31.toInt = 0 ∧ (atv 10100 (w 27) a1).toInt = 0 ∧ 0 < (atv 10100 (w 27) a2).toInt
    · exact ⟨False, fun hx => hx.elim, fun c => absurd g.1 c, fun _ => ⟨fun c => absurd g.2.1 c, fun _ => ⟨fun c => by omega, fun _ => ⟨fun _ => g, fun _ => by decide⟩⟩⟩⟩
    · exact ⟨True, fun _ => ⟨fun hx => absurd rfl hx, fun h => absurd h g⟩, fun _ => trivial, fun c0 => ⟨fun _ => trivial, fun c1 => ⟨fun _ => trivial, fun c2 => absurd ⟨c0, c1, c2⟩ g⟩⟩⟩
theorem px_definition {Q : Int32 → Prop} (hb : NEb w) (k : ∀ v, DFi w a1.toInt a2 v → Q v) : pk_X4_definition a1 a2 w Q := wl_wk_X4_definition (fun v p => k v p) (sp_definition hb (fun v p => p))
theorem dfi_one {n : Int} {v' : Int32} (h : DFi w n d v) (h' : DFi w n d v') : v = v' := fst_one h h'
theorem px_isWrong {Q : Int32 → Prop} (hb : NEb w) (k1 : WRc w a1.toInt a2 a3 → Q (1 : Int32)) (k0 : ¬ WRc w a1.toInt a2 a3 → Q (0 : Int32)) : pk_X4_isWrong a1 a2 a3 w Q := by
  unfold pk_X4_isWrong
  refine xl_is (fun v6 r6 h6 => ⟨fun c6 => ?_, fun c6 => ?_⟩)
  · have n4 : ¬ FLb (atv 10100 (w 25) a3) 4 := fun f => (h6.2 f) c6
    refine ⟨fun c32 => ⟨fun c33 => k0 ?_, fun c33 => px_definition hb (fun v hv => px_agrees (fun ag => ⟨fun _ => k0 ?_, fun z => absurd z (by decide)⟩) (fun ag => ⟨fun z => absurd rfl z, fun _ => k1 (Or.inr (Or.inr ⟨n4, c33, v, hv, ag⟩))⟩))⟩, fun c32 => xl_is (fun v8 r8 h8 => ⟨fun c8 => k0 ?_, fun c8 => px_definition hb (fun v hv => ⟨fun cv => k0 ?_, fun cv => k1 (Or.inr (Or.inl ⟨n4, c32, h8.1 c8, v, hv, cv⟩))⟩)⟩)⟩
    · rintro (⟨g, _⟩ | ⟨_, g, _⟩ | ⟨_, g, _⟩)
      · exact n4 g
      · exact c32 g
      · exact c33 g
    · rintro (⟨g, _⟩ | ⟨_, g, _⟩ | ⟨_, g, v', g1, g2⟩)
      · exact n4 g
      · exact c32 g
      · exact g2 (by rw [dfi_one g1 hv]; exact ag)
    · rintro (⟨g, _⟩ | ⟨_, _, g, _⟩ | ⟨_, g, _⟩)
      · exact n4 g
      · exact (h8.2 g) c8
      · omega
    · rintro (⟨g, _⟩ | ⟨_, _, _, v', g1, g2⟩ | ⟨_, g, _⟩)
      · exact n4 g
      · rw [dfi_one g1 hv] at g2
        omega
      · omega
  · have y4 : FLb (atv 10100 (w 25) a3) 4 := h6.1 c6
    refine ⟨fun c31 => k0 ?_, fun c31 => px_definition hb (fun v hv => ⟨fun cv => k0 ?_, fun cv => k1 (Or.inl ⟨y4, c31, v, hv, cv⟩)⟩)⟩
    · rintro (⟨_, g, _⟩ | ⟨g, _⟩ | ⟨g, _⟩)
      · exact c31 g
      · exact g y4
      · exact g y4
    · rintro (⟨_, _, v', g1, g2⟩ | ⟨g, _⟩ | ⟨g, _⟩)
      · rw [dfi_one g1 hv] at g2
        omega
      · exact g y4
      · exact g y4
theorem px_firstI {Q : Int32 → Prop} (k : ∀ v : Int32, v.toInt = LOi w x → Q v) : pk_X8_firstOf (atv 101 (w 56) x) w Q := wl_wk_X8_firstOf (fun v p => k v p) (sp_firstI (fun v p => p))
theorem px_look {Q : Int32 → St → Prop} (hb : NEb w) (rn : RNo w) (k0 : NOc w a1.toInt → Q (0 : Int32) w) (k1 : ∀ x d c, FRc w a1.toInt x d c → Q a1 (upC (upC w 10 3 (x - (1 : Int32))) 10 4 c)) : pk_X4_look a1 w Q := by
  unfold pk_X4_look
  refine ⟨fun x => 1 ≤ x.toInt ∧ ∀ x' : Int32, 1 ≤ x'.toInt → x'.toInt < x.toInt → ∀ d, RGi w x' d → ¬ FLb (atv 10100 (w 25) d) 2 → ¬ WRc w a1.toInt x' d, ⟨by decide, fun x' p1 p2 => absurd p2 (by rw [i1]; omega)⟩, ?_⟩
  rintro x ⟨h0, ha⟩
  refine ⟨fun c => k0 (fun x' p1 p2 => ha x' p1 (by omega)), fun c => px_firstI (fun v0 hv0 => ?_)⟩
  have up := up_lt c
  obtain ⟨g0, g2⟩ := rn x (by omega) c
  refine ⟨fun z y => LOi w x ≤ y.toInt ∧ z.toInt = ((czn (fun d => ((w 25 d) &&& 2).toInt) (LOi w x).toNat (y.toInt - LOi w x).toNat : Nat) : Int) ∧ ∀ d, RGi w x d → d.toInt < y.toInt → ¬ FLb (atv 10100 (w 25) d) 2 → ¬ WRc w a1.toInt x d, ⟨by omega, ?_, fun d p1 p2 => absurd p1.1 (by omega)⟩, ?_⟩
  · rw [hv0, show (LOi w x - LOi w x).toNat = 0 from by omega]
    rfl
  rintro z y ⟨hl, hz, hy⟩
  refine ⟨fun c1 => ?_, fun c1 => ?_⟩
  · have c2 : HIi w x ≤ y.toInt := c1
    refine ⟨by rw [up]; omega, fun x' p1 p2 d p3 => ?_⟩
    rw [up] at p2
    by_cases ce : x'.toInt = x.toInt
    · have ex : x' = x := ieq ce
      subst ex
      exact hy d p3 (by have := p3.2; omega)
    · exact ha x' p1 (by omega) d p3
  · have c2 : y.toInt < HIi w x := c1
    have upy := up_lt c1
    have aty : atv 10100 (w 25) y = w 25 y.toInt.toNat := atv_at (by omega) (by omega)
    have ey : (LOi w x).toNat + (y.toInt - LOi w x).toNat = y.toInt.toNat := by omega
    have en : ((y + 1).toInt - LOi w x).toNat = (y.toInt - LOi w x).toNat + 1 := by rw [upy]; omega
    have nx : ∀ z' : Int32, z'.toInt = ((czn (fun d => ((w 25 d) &&& 2).toInt) (LOi w x).toNat ((y.toInt - LOi w x).toNat + 1) : Nat) : Int) → (¬ FLb (atv 10100 (w 25) y) 2 → ¬ WRc w a1.toInt x y) → LOi w x ≤ (y + 1).toInt ∧ z'.toInt = ((czn (fun d => ((w 25 d) &&& 2).toInt) (LOi w x).toNat ((y + 1).toInt - LOi w x).toNat : Nat) : Int) ∧ ∀ d, RGi w x d → d.toInt < (y + 1).toInt → ¬ FLb (atv 10100 (w 25) d) 2 → ¬ WRc w a1.toInt x d := fun z' hz' nc => by
      refine ⟨by rw [upy]; omega, by rw [en]; exact hz', fun d p1 p2 => ?_⟩
      rw [upy] at p2
      by_cases ce : d.toInt = y.toInt
      · have ex : d = y := ieq ce
        rw [ex]
        exact nc
      · exact hy d p1 (by omega)
    have hle := cz_le (f := fun d => ((w 25 d) &&& 2).toInt) (lo := (LOi w x).toNat) (n := (y.toInt - LOi w x).toNat)
    have step : czn (fun d => ((w 25 d) &&& 2).toInt) (LOi w x).toNat ((y.toInt - LOi w x).toNat + 1) = czn (fun d => ((w 25 d) &&& 2).toInt) (LOi w x).toNat (y.toInt - LOi w x).toNat + if ((atv 10100 (w 25) y) &&& 2).toInt = 0 then 1 else 0 := by
      rw [cz_s]
      show _ + (if ((w 25 ((LOi w x).toNat + (y.toInt - LOi w x).toNat)) &&& 2).toInt = 0 then 1 else 0) = _
      rw [ey, aty]
    refine xl_is (fun v55 r55 h55 => ⟨fun y0 => y0.toInt = if v55.toInt = 0 then 1 else 0, fun y0 r0 hy0 => ⟨¬ FLb (atv 10100 (w 25) y) 2 → ¬ WRc w a1.toInt x y, fun hj => ⟨fun y1 => y1.toInt = if v55.toInt = 0 then 1 else 0, fun y1 r1 hy1 => nx _ ?_ hj, fun c3 => ?_, fun c3 => ?_⟩, fun c3 nf => ?_, fun c3 => px_isWrong hb (fun g => ⟨fun z => absurd z (by decide), fun _ => k1 x y z ⟨⟨h0, c⟩, ⟨⟨hl, c2⟩, ?_, g⟩, ha, hy, hz⟩⟩) (fun g => ⟨fun _ _ => g, fun z => absurd rfl z⟩)⟩, fun c3 => ?_, fun c3 => ?_⟩)
    · rw [ad (by rw [hy1]; split <;> omega) (by rw [hy1]; split <;> omega), hz, hy1, step]
      by_cases q : v55.toInt = 0
      · rw [if_pos q, if_pos (Classical.byContradiction (fun hc => (h55.2 hc) q))]
        rfl
      · rw [if_neg q, if_neg (h55.1 q)]
        rfl
    · exact i0.trans (c3.symm.trans hy0)
    · rcases r0 with q | q
      · rw [q] at c3
        exact absurd rfl c3
      · rw [q] at hy0
        rw [← hy0]
    · by_cases q : v55.toInt = 0
      · rw [if_pos q] at hy0
        omega
      · exact absurd (h55.1 q) nf
    · intro f
      by_cases q : v55.toInt = 0
      · exact (h55.2 f) q
      · rw [if_neg q] at hy0
        exact c3 hy0
    · rw [if_neg c3]
      rfl
    · rw [if_pos c3]
      rfl
theorem px_isMain {Q : Int32 → Prop} (k1 : MNc w v → Q (1 : Int32)) (k0 : ¬ MNc w v → Q (0 : Int32)) : pk_X4_isMain v w Q := by
  unfold pk_X4_isMain
  refine ⟨fun c => k0 (fun h => by have := h.1; omega), fun c => xl_is (fun v10 r10 h10 => ⟨fun c1 => k0 (fun h => (h10.2 h.2.1) c1), fun c1 => ⟨fun c2 => k0 (fun h => c2 h.2.2.1), fun c2 => ⟨fun c3 => k0 (fun h => c3 h.2.2.2), fun c3 => k1 ⟨c, h10.1 c1, c2, c3⟩⟩⟩⟩)⟩
end LKC
