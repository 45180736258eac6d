/-! a variable outside of functions: both sides -/
/-- between what is declared outside of functions -/
def URq (kd : Nat → Int) (n m lo : Nat) (w σ : St) : Prop := REq kd n 0 m lo w σ ∧ (w 7 7).toInt = 0 ∧ (w 6 6).toInt = -1 ∧ (w 8 6).toInt = -1 ∧ (w 9 5).toInt = 0
def USq (kd : Nat → Int) (n m m' lo : Nat) (g : List Gsq) (σ σ' : St) : Prop := (σ 0 12).toInt = 0 → ∀ w, URq kd n m lo w σ → (w 6 3).toInt = 0 → GWq g w (fun s => ((s 6 3).toInt ≠ 0 → (σ' 0 12).toInt ≠ 0) ∧ ((s 6 3).toInt = 0 → (σ' 0 12).toInt = 0 ∧ URq kd n m' lo s σ')) ((σ' 0 12).toInt ≠ 0)
section GVR
variable {w s r s2 s3 s95 s285 σ σ' τ t : St} {kd vl : Nat → Int} {n m m' lo d p pb u ty D : Nat} {vs z : List Nat} {a b c a1 a2 a3 a4 a5 v kn st ex : Int32} {F0 : Prop} {g : List Gsq} {gb : List Gsq} {giv lk lk4 szi : Int} {x6 x7 x8 rr cells : Int} {ext stc lack B : Prop} {Q : St → Prop}
theorem xv_gvar (h66 : (w 6 6).toInt < 0) (kk : ∀ (w2 : St) (y : Int32), Kp [(8, 9), (8, 11), (8, 12), (8, 13), (8, 15), (8, 16)] [] w w2 → w2 8 11 = b → (w2 8 12).toInt = EXw w → (w2 8 15).toInt = 0 → (w2 8 16).toInt = 0 → (w2 8 9).toInt = 0 → ((w2 8 13).toInt ≠ 0 ↔ (c &&& (3 : Int32)).toInt = 2) → (y.toInt ≠ 0 ↔ (c &&& (4 : Int32)).toInt ≠ 0) → pk_X1_outer a (c &&& (3 : Int32)) y w2 (fun s => Q (upC s 8 6 ((-1) : Int32)))) : pk_X1_variable a b c w Q := by
  unfold pk_X1_variable
  refine ⟨fun y => (y.toInt ≠ 0 ↔ (c &&& (4 : Int32)).toInt ≠ 0), fun y _ hy => ⟨fun x => x.toInt = EXw w, fun x hx => ⟨fun y2 => y2.toInt = 0, fun y2 _ h2 => ⟨fun y3 => (y3.toInt ≠ 0 ↔ (c &&& (3 : Int32)).toInt = 2), fun y3 _ h3 => ⟨fun _ => kk _ y (kp_f (kp_f (kp_f (kp_f (kp_f (kp_f kp_rf rfl) rfl) rfl) rfl) rfl) rfl) ?_ ?_ ?_ ?_ ?_ ?_ hy, fun cc => absurd h2 cc⟩, fun cc => ⟨fun hx => absurd rfl hx, fun hx => absurd hx cc⟩, fun cc => ⟨fun _ => cc, fun _ => by decide⟩⟩, fun _ => rfl, fun cc => by omega⟩, fun cc => ⟨EXw w = 0, fun hj => hj.symm, fun c1 => ?_, fun c1 => ⟨fun c2 => ?_, fun c2 => ?_⟩⟩, fun cc => ?_⟩, fun cc => ⟨fun hx => absurd rfl hx, fun hx => absurd cc hx⟩, fun cc => ⟨fun _ => cc, fun _ => by decide⟩⟩
  · rw [rdA_ne (by decide), rdA_ne (by decide), rdA_ne (by decide), rdA_ne (by decide), rdA_ne (by decide), rdA_eq rfl]
  · rw [rdA_ne (by decide), rdA_ne (by decide), rdA_ne (by decide), rdA_ne (by decide), rdA_eq rfl]
    exact hx
  · rw [rdA_ne (by decide), rdA_ne (by decide), rdA_ne (by decide), rdA_eq rfl]
    rfl
  · rw [rdA_ne (by decide), rdA_ne (by decide), rdA_eq rfl]
    rfl
  · rw [rdA_ne (by decide), rdA_eq rfl]
    exact h2
  · rw [rdA_eq rfl]
    exact h3
  · unfold EXw
    rw [if_pos cc, if_neg (fun h => by omega)]
  · unfold EXw
    rw [if_pos cc, if_neg (fun h => by omega)]
  · show (w 8 7).toInt = EXw w
    unfold EXw
    rw [if_pos cc, if_pos ⟨c1, c2⟩]
  · show ((-1 : Int32)).toInt = EXw w
    unfold EXw
    rw [if_neg (fun h => by omega)]
    rfl
theorem gn_lm (h : GNf σ s lo m u v a2 kn st ex rr) (hr : rr = -1) (hm : m < 100) : lo + m < 10000 ∧ (σ 0 31).toInt + ((σ 4 u).toInt - (σ 3 u).toInt) ≤ 65536 := by
  rcases h with ⟨_, h, _⟩ | ⟨_, _, h1, _, s1, h2, _⟩ | ⟨r, h, _⟩
  · omega
  · have := h2.2.2.1
    have := h2.2.2.2.1
    exact ⟨h1, by omega⟩
  · omega
/-- the class's walk over a variable, up to its initial -/
theorem gw0 {rest : List Gsq} (hlk : (lk4 = lk ∧ kd pb ≠ 30) ∨ (lk4 = lk + 4 ∧ kd pb = 30)) (hl : lk = 0 ∨ lk = 1 ∨ lk = 2) (hex : ext ↔ lk = 2) (hla : lack ↔ ext ∨ kd pb = 30) (hu : u ≤ n) (ku : kd u = 2)
    (hbk : (σ 0 12).toInt = 0 → ∀ w, REq kd n 0 m lo w σ → (w 6 3).toInt = 0 → (w 7 7).toInt = 0 → (w 8 6).toInt = -1 → GWq (bkl kd p gb giv szi) w (fun w1 => (w1 6 3).toInt = 0 ∧ BKg kd n 0 m lo x6 x7 x8 w w1 s95) False)
    (hrr : EFm s95 lo (lo + m) u rr) (hlm : rr = -1 → m < 100 → lo + m < 10000 ∧ (s95 0 31).toInt + ((s95 4 u).toInt - (s95 3 u).toInt) ≤ 65536)
    (hbd : ∀ (w2 : St) (b : Int32), b.toInt = lk → REq kd n 0 m lo w2 s95 → (w2 8 11).toInt = (ty : Int) → (w2 8 12).toInt = KNq x6 x7 → ((w2 8 13).toInt ≠ 0 ↔ ext) → (SQl w2 lack ↔ SQm x6 x7 x8 lack) → BDc w2 m lo b lack rr → B) (hsq : (∀ lack, SQm x6 x7 x8 lack) → B) (hq : ∀ s, (s 6 3).toInt ≠ 0 → B → Q s)
    (h0 : (σ 0 12).toInt = 0) (hR : URq kd n m lo w σ) (hf : (w 6 3).toInt = 0)
    (kk : ∀ (w2 : St) (b : Int32) (s : St) (d : Nat), b.toInt = lk → REq kd n 0 m lo w2 s95 → (w2 8 11).toInt = (ty : Int) → (w2 8 12).toInt = KNq x6 x7 → ((w2 8 13).toInt ≠ 0 ↔ ext) → (SQl w2 lack ↔ SQm x6 x7 x8 lack) → ¬ BDc w2 m lo b lack rr → (rr = -1 → m < 100 ∧ d = (w2 5 1).toInt.toNat) → (∀ r : Nat, rr = ((lo + r : Nat) : Int) → r < m ∧ d = (w2 5 1).toInt.toNat - m + r) → OUf w2 s u m d (rr = -1) b → (w2 7 7).toInt = 0 → (w2 6 6).toInt = -1 → (w2 9 5).toInt = 0 → (w2 8 9).toInt = 0 → (w2 8 15).toInt = 0 → (w2 8 16).toInt = 0 → GWq rest (upC s 8 6 ((-1) : Int32)) Q B) : GWq (bkl kd p gb giv szi ++ ([gq (43, u, (ty : Int), lk4)] ++ rest)) w Q B := by
  refine gv_app (gv_mono (hbk h0 w hR.1 hf hR.2.1 hR.2.2.2.1) (fun w1 hw1 => ?_) False.elim)
  obtain ⟨f1, hg⟩ := hw1
  rcases hg with ⟨b1, b2, b3, b4, b5, b6⟩ | ⟨b1, b2, b3⟩
  · have w66 : (w1 6 6).toInt = -1 := by rw [b3 6 6 (op_lt (by decide)) rfl rfl]; exact hR.2.2.1
    have w95 : (w1 9 5).toInt = 0 := by rw [b3 9 5 (op_lt (by decide)) rfl rfl]; exact hR.2.2.2.2
    refine gv_app (gv_d (x := (43, u, (ty : Int), lk4)) (by simp) (fun _ => da_var (fun a b c ea eb ec => xv_gvar (by omega) (fun w2 y k2 g11 g12 g15 g16 g9 g13 hy => ?_))) (fun hx => absurd f1 hx))
    obtain ⟨cb, c3, c4⟩ : (c &&& (3 : Int32)).toInt = lk ∧ ((c &&& (3 : Int32)).toInt = 2 ↔ ext) ∧ ((c &&& (4 : Int32)).toInt ≠ 0 ↔ kd pb = 30) := by
      have hcx : ∀ k : Int32, ec = ec → k.toInt = lk4 → c = k := fun k _ h => ieq (by rw [ec, h])
      rcases hlk with ⟨h, h2⟩ | ⟨h, h2⟩
      · rcases hl with e | e | e
        · rw [hcx 0 rfl (by rw [h, e]; rfl), hex, e]
          exact ⟨by decide, by decide, ⟨fun h => absurd rfl h, fun h => absurd h h2⟩⟩
        · rw [hcx 1 rfl (by rw [h, e]; rfl), hex, e]
          exact ⟨by decide, by decide, ⟨fun h => absurd rfl h, fun h => absurd h h2⟩⟩
        · rw [hcx 2 rfl (by rw [h, e]; rfl), hex, e]
          exact ⟨by decide, by decide, ⟨fun h => absurd rfl h, fun h => absurd h h2⟩⟩
      · rcases hl with e | e | e
        · rw [hcx 4 rfl (by rw [h, e]; rfl), hex, e]
          exact ⟨by decide, by decide, ⟨fun _ => h2, fun _ => by decide⟩⟩
        · rw [hcx 5 rfl (by rw [h, e]; rfl), hex, e]
          exact ⟨by decide, by decide, ⟨fun _ => h2, fun _ => by decide⟩⟩
        · rw [hcx 6 rfl (by rw [h, e]; rfl), hex, e]
          exact ⟨by decide, by decide, ⟨fun _ => h2, fun _ => by decide⟩⟩
    have hE2 : REq kd n 0 m lo w2 s95 := re_cd b1 (cd_ko (ko_kp k2) rfl rfl) dd_rf
    have f2 : (w2 6 3).toInt = 0 := by rw [k2 6 3 rfl rfl]; exact f1
    have e13 : (w2 8 13).toInt ≠ 0 ↔ ext := g13.trans c3
    have e11 : (w2 8 11).toInt = (ty : Int) := by rw [g11, eb]
    have e12 : (w2 8 12).toInt = KNq x6 x7 := by rw [g12, b4]
    have hlk2 : lack ↔ y.toInt ≠ 0 ∨ (w2 8 13).toInt ≠ 0 := by
      rw [hla, hy, c4, e13]
      exact Or.comm
    have sq : SQl w2 lack ↔ SQm x6 x7 x8 lack := by
      by_cases hl2 : lack
      · rw [← b6 1 lack ⟨fun _ => hl2, fun _ => by decide⟩, sq_l (y := 1) (w := w1) ⟨fun _ => hl2, fun _ => by decide⟩]
        unfold SQl
        rw [k2 8 6 rfl rfl, k2 8 7 rfl rfl]
      · rw [← b6 0 lack ⟨fun h => absurd rfl h, fun h => absurd h hl2⟩, sq_l (y := 0) (w := w1) ⟨fun h => absurd rfl h, fun h => absurd h hl2⟩]
        unfold SQl
        rw [k2 8 6 rfl rfl, k2 8 7 rfl rfl]
    have kb : -1 ≤ KNq x6 x7 ∧ KNq x6 x7 ≤ 4000 := by
      unfold KNq
      split
      · split
        · omega
        · decide
      · decide
    refine xo_outer (lack := lack) hE2 f2 ea hu ku (by omega) hlk2 hrr hlm (fun hbc s hs => ?_) (fun nb s d q0 q1 hou => ?_)
    · have hB := hbd w2 _ cb hE2 e11 e12 e13 sq hbc
      have e63 : ((upC s 8 6 ((-1) : Int32)) 6 3).toInt ≠ 0 := by rw [rdC_ne (by decide)]; exact hs
      exact gv_bad e63 hB (fun s' h => hq s' h hB)
    · exact kk w2 _ s d cb hE2 e11 e12 e13 sq nb q0 q1 hou (by rw [k2 7 7 rfl rfl]; exact b2) (by rw [k2 6 6 rfl rfl]; exact w66) (by rw [k2 9 5 rfl rfl]; exact w95) g9 g15 g16
  · have hB := hsq b3
    exact gv_app (gv_d (x := (43, u, (ty : Int), lk4)) (by simp) (fun _ => da_var (fun a b c _ _ _ => xv_badAny b1 b2 (fun s h => gv_bad h hB (fun s' h' => hq s' h' hB)))) (fun _ => hB))
/-- the class's faults at a variable are the reference's -/
theorem bd_eq {w2 : St} (hE : REq kd n 0 m lo w2 s95) (hrr : EFm s95 lo (lo + m) u rr) (hb : b.toInt = lk) (h11 : (w2 8 11).toInt = a2.toInt) (h12 : (w2 8 12).toInt = kn.toInt) (hkn : -1 ≤ kn.toInt) (hst : lk = 1 ↔ st.toInt ≠ 0) (hex : (w2 8 13).toInt ≠ 0 ↔ ex.toInt ≠ 0) (hsq : SQl w2 lack ↔ B) (hD : (s95 0 37).toInt = (D : Int)) (hD9 : D ≤ 16000) (hc : (ex.toInt ≠ 0 → CLw w2 = 0) ∧ (ex.toInt = 0 → CLw w2 = cells)) : (BDc w2 m lo b lack rr ↔ BDm s95 m lo a2 kn st ex rr B D cells) ∧ ∀ r : Nat, r < m → (JNw w2 ((w2 5 1).toInt.toNat - m + r) b ↔ JNm s95 (lo + r) a2 kn st ex) := by
  have hj : ∀ r : Nat, r < m → (JNw w2 ((w2 5 1).toInt.toNat - m + r) b ↔ JNm s95 (lo + r) a2 kn st ex) := fun r hr => jn_eq (hE.2.2.1.2.2.2.2.2 r hr) h11 h12 hkn (by rw [hb]; exact hst) hex
  have hrm : ∀ r : Nat, rr = ((lo + r : Nat) : Int) → r < m := fun r hr => by
    rcases hrr with ⟨e, h1, h2, h3, h4, h5⟩ | ⟨h1, h2⟩
    · omega
    · omega
  obtain ⟨D', d1, d2, d3⟩ := hE.2.2.2.1
  have hDD : (w2 6 5).toInt = (D : Int) := by omega
  refine ⟨?_, hj⟩
  unfold BDc BDm
  rw [hsq, hDD]
  constructor
  · rintro ((h | ⟨r, h1, h2⟩) | h | h)
    · exact Or.inl (Or.inl h)
    · exact Or.inl (Or.inr ⟨r, h1, fun hx => h2 ((hj r (hrm r h1)).2 hx)⟩)
    · exact Or.inr (Or.inl h)
    · refine Or.inr (Or.inr ?_)
      have : ex.toInt = 0 := Decidable.byContradiction (fun hx => by
        have := hc.1 hx
        omega)
      have := hc.2 this
      exact ⟨‹_›, by omega⟩
  · rintro ((h | ⟨r, h1, h2⟩) | h | h)
    · exact Or.inl (Or.inl h)
    · exact Or.inl (Or.inr ⟨r, h1, fun hx => h2 ((hj r (hrm r h1)).1 hx)⟩)
    · exact Or.inr (Or.inl h)
    · have := hc.2 h.1
      exact Or.inr (Or.inr (by omega))
/-- both sides between two declarations, behind a variable -/
theorem ur_var {w2 : St} (hE : REq kd n 0 m' lo (upC s 8 6 ((-1) : Int32)) s285) (hk : Kp [(6, 3), (6, 4), (8, 10), (8, 14), (6, 5), (6, 7), (5, 7), (5, 1)] [25, 26, 27, 28, 29, 30, 38, 39] w2 s) (h77 : (w2 7 7).toInt = 0) (h66 : (w2 6 6).toInt = -1) (h95 : (w2 9 5).toInt = 0) : URq kd n m' lo (upC s 8 6 ((-1) : Int32)) s285 :=
  ⟨hE, by rw [rdC_ne (by decide), hk 7 7 rfl rfl]; exact h77, by rw [rdC_ne (by decide), hk 6 6 rfl rfl]; exact h66, by rw [rdA_eq rfl]; rfl, by rw [rdC_ne (by decide), hk 9 5 rfl rfl]; exact h95⟩
end GVR
