section
/-! the class's grammar: parameters, heads of functions -/
section SHD
variable {kd vl : Nat → Int} {n p d w ty nm k t q : Nat} {σ0 σ s : St} {g : List Gsq} {l : List (Nat × Nat)} {x a1 a2 a3 a4 : Int32} {a : Stq}
/-- the row of parameters' names -/
def P23 (s : St) (l : List (Nat × Nat)) : Prop := ∀ (i : Nat) (y : Nat × Nat), l[i]? = some y → (s 23 i).toInt = (y.2 : Int)
theorem p23_k (h : P23 σ l) (e : s 23 = σ 23) : P23 s l := by
  unfold P23
  rw [e]
  exact h
theorem gu_expect {Q : St → Prop} (t0 : TKv σ0 kd vl n) (h : GTq kd n σ0 σ p g) (hx : 2 ≤ x.toInt) (k1 : kd p = x.toInt → ∀ s, GTq kd n σ0 s (p + 1) g → s 23 = σ 23 → Q s) (k0 : kd p ≠ x.toInt → ∀ s, GJq σ0 s → Q s) : pk_X3_expect x σ Q :=
  pg_expect (gt_tk t0 h) h.2.1 hx (fun s ks c gs => k1 c s (gt_k h (kg2 ks) gs (ks 3 9 rfl rfl)) (funext (fun j => ks 23 j rfl rfl))) (fun s ks c gs => k0 c s ⟨kp_tr h.1 (kg3 ks), gs⟩)
theorem gu_accept {Q : Int32 → St → Prop} (t0 : TKv σ0 kd vl n) (h : GTq kd n σ0 σ p g) (hx : 2 ≤ x.toInt) (k1 : kd p = x.toInt → ∀ s, GTq kd n σ0 s (p + 1) g → s 23 = σ 23 → Q 1 s) (k0 : kd p ≠ x.toInt → Q 0 σ) : pk_X3_accept x σ Q :=
  pg_accept (gt_tk t0 h) h.2.1 hx (fun s ks c gs => k1 c s (gt_k h (kg2 ks) gs (ks 3 9 rfl rfl)) (funext (fun j => ks 23 j rfl rfl))) k0
theorem gu_add {Q : Int32 → St → Prop} (h : GTq kd n σ0 σ p g) (hl : (lnq g : Int) ≤ 32090) (ha : a.1 ≠ 40) (he : (a1.toInt, a2.toInt, a3.toInt, a4.toInt) = (a.1, (a.2.1 : Int), a.2.2.1, a.2.2.2)) (k : ∀ v s, GTq kd n σ0 s p (g ++ [gq a]) → s 23 = σ 23 → Q v s) : pk_X3_add a1 a2 a3 a4 σ Q :=
  pg_add h.2.1 hl he (fun v s ks gs hv => k v s (gt_k h (kg4 ks) (by rw [flt_add ha]; exact gs) (ks 3 9 rfl rfl)) (funext (fun j => ks 23 j rfl rfl)))
theorem gu_stars {Q : Int32 → St → Prop} (t0 : TKv σ0 kd vl n) (h : GTq kd n σ0 σ p g) (k1 : ∀ (v : Int32) s t p1, SRq kd 5 p = some (t, p1) → v.toInt = (t : Int) → GTq kd n σ0 s p1 g → p ≤ p1 → t ≤ 5 → s 23 = σ 23 → Q v s) (k0 : ∀ v s, SRq kd 5 p = none → GJq σ0 s → Q v s) : pk_X3_stars σ Q :=
  pg_stars (gt_tk t0 h) h.2.1 (fun v s t p1 ks e hv gs hp ht => k1 v s t p1 e hv (gt_k h (kg2 ks) gs (ks 3 9 rfl rfl)) hp ht (funext (fun j => ks 23 j rfl rfl))) (fun v s ks e gb => k0 v s e ⟨kp_tr h.1 ks, gb⟩)
/-- one parameter -/
def pmE (kd : Nat → Int) (t q : Nat) : Option (Nat × Nat) := if kd (if kd q = 2 then q + 1 else q) = 24 then (if kd ((if kd q = 2 then q + 1 else q) + 1) = 25 then some ((if kd q = 2 then q + 1 else q) + 2, t + 1) else none) else some ((if kd q = 2 then q + 1 else q), t)
theorem pm_s (c : kd p = 5) (hs : SRq kd 5 (p + 1) = some (t, q)) : PMn kd (k + 1) p = (pmE kd t q).bind fun e => if kd e.1 = 26 then (PMn kd k (e.1 + 1)).bind fun r => some (r.1, (e.2, if kd q = 2 then q else e.1) :: r.2) else some (e.1, [(e.2, if kd q = 2 then q else e.1)]) := by
  rw [PMn, if_pos c, hs]
  rfl
theorem pm_n (c : kd p ≠ 5) : PMn kd k p = none := by
  cases k with
  | zero => rfl
  | succ k => rw [PMn, if_neg c]
theorem pm_s0 (c : kd p = 5) (hs : SRq kd 5 (p + 1) = none) : PMn kd k p = none := by
  cases k with
  | zero => rfl
  | succ k =>
    rw [PMn, if_pos c, hs]
    rfl
/-- parameters so far -/
def PMc (kd : Nat → Int) (p p1 : Nat) (l : List (Nat × Nat)) : Prop := l.length ≤ 8 ∧ PMn kd 8 p = (PMn kd (8 - l.length) p1).bind fun r => some (r.1, l ++ r.2)
theorem pmc_0 : PMc kd p p [] := ⟨by decide, by
  show PMn kd 8 p = (PMn kd 8 p).bind fun r => some (r.1, [] ++ r.2)
  cases PMn kd 8 p <;> rfl⟩
theorem pmc_n {p1 : Nat} (h : PMc kd p p1 l) (e : PMn kd (8 - l.length) p1 = none) : PMn kd 8 p = none := by rw [h.2, e]; rfl
theorem pmc_e {p1 : Nat} {e : Nat × Nat} (h : PMc kd p p1 l) (hl : l.length < 8) (c : kd p1 = 5) (hs : SRq kd 5 (p1 + 1) = some (t, q)) (he : pmE kd t q = some e) (n26 : kd e.1 ≠ 26) : PMn kd 8 p = some (e.1, l ++ [(e.2, if kd q = 2 then q else e.1)]) := by
  obtain ⟨j, hj⟩ : ∃ j, 8 - l.length = j + 1 := ⟨7 - l.length, by omega⟩
  rw [h.2, hj, pm_s c hs, he]
  show (if kd e.1 = 26 then _ else _ : Option (Nat × List (Nat × Nat))).bind _ = _
  rw [if_neg n26]
  rfl
theorem pmc_s {p1 : Nat} {e : Nat × Nat} (h : PMc kd p p1 l) (hl : l.length < 8) (c : kd p1 = 5) (hs : SRq kd 5 (p1 + 1) = some (t, q)) (he : pmE kd t q = some e) (c26 : kd e.1 = 26) : PMc kd p (e.1 + 1) (l ++ [(e.2, if kd q = 2 then q else e.1)]) := by
  obtain ⟨j, hj⟩ : ∃ j, 8 - l.length = j + 1 := ⟨7 - l.length, by omega⟩
  have el : (l ++ [(e.2, if kd q = 2 then q else e.1)]).length = l.length + 1 := by rw [List.length_append]; rfl
  refine ⟨by rw [el]; omega, ?_⟩
  rw [h.2, hj, pm_s c hs, he, el, show 8 - (l.length + 1) = j from by omega]
  show (if kd e.1 = 26 then _ else _ : Option (Nat × List (Nat × Nat))).bind _ = _
  rw [if_pos c26]
  cases PMn kd j (e.1 + 1) with
  | none => rfl
  | some r =>
    show some (r.1, l ++ ((e.2, if kd q = 2 then q else e.1) :: r.2)) = some (r.1, (l ++ [(e.2, if kd q = 2 then q else e.1)]) ++ r.2)
    rw [List.append_assoc]
    rfl
theorem pmc_n2 {p1 : Nat} (h : PMc kd p p1 l) (c : kd p1 = 5) (hs : SRq kd 5 (p1 + 1) = some (t, q)) (he : pmE kd t q = none) : PMn kd 8 p = none := by
  refine pmc_n h ?_
  cases hj : 8 - l.length with
  | zero => rfl
  | succ j =>
    rw [pm_s c hs, he]
    rfl
theorem gt_parameters {Q : Int32 → St → Prop} (t0 : TKv σ0 kd vl n) (h : GTq kd n σ0 σ p g)
    (k1 : ∀ x s p' l, PMn kd 8 p = some (p', l) → GTq kd n σ0 s p' g → x = nI (sgX l) → P23 s l → Tyq l → (1 ≤ l.length ∧ l.length ≤ 8 ∧ 2 * l.length ≤ p' - p + 1) → p < p' → Q x s) (k0 : ∀ x s, PMn kd 8 p = none → GJq σ0 s → Q x s) : pk_X3_parameters σ Q := by
  have h16 := t0.1.2.1
  unfold pk_X3_parameters
  refine ⟨fun x1 x2 x3 s => (∃ p1 l, GTq kd n σ0 s p1 g ∧ x2.toInt = (l.length : Int) ∧ x1 = nI (sgX l) ∧ P23 s l ∧ Tyq l ∧ l.length ≤ 8 ∧ p ≤ p1 ∧ ((x3.toInt = 1 ∧ PMc kd p p1 l ∧ 2 * l.length ≤ p1 - p) ∨ (x3.toInt = 0 ∧ 1 ≤ l.length ∧ PMn kd 8 p = some (p1, l) ∧ 2 * l.length ≤ p1 - p + 1 ∧ p < p1))) ∨ (x3.toInt = 0 ∧ GJq σ0 s ∧ PMn kd 8 p = none), ?_, ?_⟩
  · exact Or.inl ⟨p, [], h, rfl, rfl, (fun i y e => by cases i <;> cases e), fun y hy => absurd hy (by simp), by decide, Nat.le_refl _, Or.inl ⟨rfl, pmc_0, by show 2 * 0 ≤ _; omega⟩⟩
  rintro x1 x2 x3 s6 w3 hL
  refine ⟨x3.toInt = 0 ∨ 8 ≤ x2.toInt, fun hj => ⟨fun c => ?_, fun c => ?_⟩, fun c => Or.inr c, fun c8 => ⟨fun c => Or.inl c, fun c => ?_⟩⟩
  · rcases hL with ⟨p1, l, g6, e2, e1, h23, ht, hl, hpp, ⟨e3, _⟩ | ⟨_, hl1, hp, hb, hpp2⟩⟩ | ⟨_, j6, hn⟩
    · omega
    · exact k1 x1 s6 p1 l hp g6 e1 h23 ht ⟨hl1, hl, hb⟩ hpp2
    · exact k0 x1 s6 hn j6
  · rcases hL with ⟨p1, l, g6, e2, e1, h23, ht, hl, hpp, ⟨e3, hc, hb⟩ | ⟨e3, _⟩⟩ | ⟨e3, _⟩
    · refine gt_fail g6 (fun s105 j105 => k0 x1 s105 (pmc_n hc ?_) j105)
      rw [show 8 - l.length = 0 from by omega]
      rfl
    · omega
    · omega
  · rcases hL with ⟨p1, l, g6, e2, e1, h23, ht, hl, hpp, ⟨e3, hc, hb⟩ | ⟨e3, _⟩⟩ | ⟨e3, _⟩
    rotate_left
    · exact absurd e3 c
    · exact absurd e3 c
    have hl8 : l.length < 8 := by omega
    have hn1 := gt_n g6
    have jbody : ∀ s18, GJq σ0 s18 → PMn kd 8 p = none → ∀ v22 : Int32, ∀ c2 : Int32, pk_X3_accept (2 : Int32) s18 (fun v35 s35 => pk_X3_accept (24 : Int32) s35 (fun v43 s43 => ∃ J58 : Int32 → St → Prop, (∀ (x4_58 : Int32) (s58 : St), J58 x4_58 s58 → (∃ J77 : Int32 → Prop, (∀ (y2_77 : Int32), J77 y2_77 → (pk_X8_withParameter x1 x4_58 (upF s58 23 (setv 8 (s58 23) x2 y2_77)) (fun v83 => pk_X3_accept (26 : Int32) (upF s58 23 (setv 8 (s58 23) x2 y2_77)) (fun v90 s90 => (∃ p1 l, GTq kd n σ0 s90 p1 g ∧ (x2 + 1).toInt = (l.length : Int) ∧ v83 = nI (sgX l) ∧ P23 s90 l ∧ Tyq l ∧ l.length ≤ 8 ∧ p ≤ p1 ∧ ((v90.toInt = 1 ∧ PMc kd p p1 l ∧ 2 * l.length ≤ p1 - p) ∨ (v90.toInt = 0 ∧ 1 ≤ l.length ∧ PMn kd 8 p = some (p1, l) ∧ 2 * l.length ≤ p1 - p + 1 ∧ p < p1))) ∨ (v90.toInt = 0 ∧ GJq σ0 s90 ∧ PMn kd 8 p = none))))) ∧ ((v35.toInt = 0 → (J77 (s58 3 1))) ∧ (v35.toInt ≠ 0 → (J77 c2))))) ∧ ((v43.toInt = 0 → (J58 v22 s43)) ∧ (v43.toInt ≠ 0 → (pk_X3_expect (25 : Int32) s43 (fun s52 => J58 (v22 + 1) s52)))))) := fun s18 j18 hn v22 c2 =>
      gj_accept j18 (by decide) (gj_accept j18 (by decide) ⟨fun _ s => GJq σ0 s, fun x4 s58 j58 => ⟨fun _ => True, fun y77 _ => by
        unfold pk_X8_withParameter pk_X8_parameters
        exact gj_accept (gj_F j58 rfl) (by decide) (Or.inr ⟨rfl, gj_F j58 rfl, hn⟩), fun _ => trivial, fun _ => trivial⟩, fun _ => j18, fun c => absurd rfl c⟩)
    refine gu_expect t0 g6 (by decide) (fun c5 s18 g18 e18 => ?_) (fun c5 s18 j18 => gj_stars j18 (fun v22 => jbody s18 j18 (pmc_n hc (pm_n c5)) v22 (s18 3 1)))
    refine gu_stars t0 g18 (fun v22 s22 t q hs hv g22 hq ht5 e22 => ?_) (fun v22 s22 hs j22 => jbody s22 j22 (pmc_n hc (pm_s0 c5 hs)) v22 (s22 3 1))
    have hnq := gt_n g22
    have e22' : s22 23 = s6 23 := e22.trans e18
    -- behind the name
    have rest : ∀ (v35 : Int32) (s35 : St), (v35.toInt ≠ 0 ↔ kd q = 2) → GTq kd n σ0 s35 (if kd q = 2 then q + 1 else q) g → s35 23 = s6 23 → pk_X3_accept (24 : Int32) s35 (fun v43 s43 => ∃ J58 : Int32 → St → Prop, (∀ (x4_58 : Int32) (s58 : St), J58 x4_58 s58 → (∃ J77 : Int32 → Prop, (∀ (y2_77 : Int32), J77 y2_77 → (pk_X8_withParameter x1 x4_58 (upF s58 23 (setv 8 (s58 23) x2 y2_77)) (fun v83 => pk_X3_accept (26 : Int32) (upF s58 23 (setv 8 (s58 23) x2 y2_77)) (fun v90 s90 => (∃ p1 l, GTq kd n σ0 s90 p1 g ∧ (x2 + 1).toInt = (l.length : Int) ∧ v83 = nI (sgX l) ∧ P23 s90 l ∧ Tyq l ∧ l.length ≤ 8 ∧ p ≤ p1 ∧ ((v90.toInt = 1 ∧ PMc kd p p1 l ∧ 2 * l.length ≤ p1 - p) ∨ (v90.toInt = 0 ∧ 1 ≤ l.length ∧ PMn kd 8 p = some (p1, l) ∧ 2 * l.length ≤ p1 - p + 1 ∧ p < p1))) ∨ (v90.toInt = 0 ∧ GJq σ0 s90 ∧ PMn kd 8 p = none))))) ∧ ((v35.toInt = 0 → (J77 (s58 3 1))) ∧ (v35.toInt ≠ 0 → (J77 (s22 3 1)))))) ∧ ((v43.toInt = 0 → (J58 v22 s43)) ∧ (v43.toInt ≠ 0 → (pk_X3_expect (25 : Int32) s43 (fun s52 => J58 (v22 + 1) s52))))) := fun v35 s35 w35 g35 e35 => by
      have j58 : ∀ (x4 : Int32) s58, ((∃ e : Nat × Nat, pmE kd t q = some e ∧ x4.toInt = (e.2 : Int) ∧ e.2 ≤ 6 ∧ q ≤ e.1 ∧ GTq kd n σ0 s58 e.1 g ∧ s58 23 = s6 23) ∨ (GJq σ0 s58 ∧ PMn kd 8 p = none)) → (∃ J77 : Int32 → Prop, (∀ (y2_77 : Int32), J77 y2_77 → (pk_X8_withParameter x1 x4 (upF s58 23 (setv 8 (s58 23) x2 y2_77)) (fun v83 => pk_X3_accept (26 : Int32) (upF s58 23 (setv 8 (s58 23) x2 y2_77)) (fun v90 s90 => (∃ p1 l, GTq kd n σ0 s90 p1 g ∧ (x2 + 1).toInt = (l.length : Int) ∧ v83 = nI (sgX l) ∧ P23 s90 l ∧ Tyq l ∧ l.length ≤ 8 ∧ p ≤ p1 ∧ ((v90.toInt = 1 ∧ PMc kd p p1 l ∧ 2 * l.length ≤ p1 - p) ∨ (v90.toInt = 0 ∧ 1 ≤ l.length ∧ PMn kd 8 p = some (p1, l) ∧ 2 * l.length ≤ p1 - p + 1 ∧ p < p1))) ∨ (v90.toInt = 0 ∧ GJq σ0 s90 ∧ PMn kd 8 p = none))))) ∧ ((v35.toInt = 0 → (J77 (s58 3 1))) ∧ (v35.toInt ≠ 0 → (J77 (s22 3 1))))) := by
        rintro x4 s58 (⟨e, he, ex4, e6, hqe, g58, e58⟩ | ⟨j58, hn⟩)
        · have hne := gt_n g58
          refine ⟨fun y => y.toInt = ((if kd q = 2 then q else e.1 : Nat) : Int), fun y77 h77 => ?_, fun c => ?_, fun c => ?_⟩
          rotate_left
          · rw [if_neg (fun e => w35.2 e c)]
            exact gt_at g58
          · rw [if_pos (w35.1 c)]
            exact gt_at g22
          unfold pk_X8_withParameter pk_X8_parameters
          have ex : x4 = nI e.2 := ieq (by rw [ex4, nI_toInt (by omega)])
          have sw := sg_with (x := (e.2, if kd q = 2 then q else e.1)) hl8 ht e6
          have gF : GTq kd n σ0 (upF s58 23 (setv 8 (s58 23) x2 y77)) e.1 g := ⟨kp_tr g58.1 (kg_F rfl), gst_F g58.2.1 (by decide) (by
            obtain ⟨b1, b2⟩ := g58.2.1.2.2.2.2
            exact ⟨by rw [rdF_ne (by decide)]; exact b1, by rw [rdF_ne (by decide), rdF_ne (by decide), rdF_ne (by decide), rdF_ne (by decide)]; exact b2⟩), by rw [rdF_ne (by decide)]; exact g58.2.2⟩
          have hP : P23 (upF s58 23 (setv 8 (s58 23) x2 y77)) (l ++ [(e.2, if kd q = 2 then q else e.1)]) := fun i y hi => by
            rw [rdF_eq]
            have es : (setv 8 (s58 23) x2 y77) i = if i = l.length then y77 else s58 23 i := by rw [setv_at e2 hl8]
            rw [es, e58]
            rcases app_at hi with ⟨c, hi⟩ | ⟨c, hi⟩
            · rw [if_neg (by omega)]
              exact h23 i y hi
            · rw [if_pos c, h77, hi]
          have hT : Tyq (l ++ [(e.2, if kd q = 2 then q else e.1)]) := fun y hy => by
            rcases List.mem_append.mp hy with c | c
            · exact ht y c
            · rw [List.mem_singleton.mp c]
              exact e6
          have hlen : (l ++ [(e.2, if kd q = 2 then q else e.1)]).length = l.length + 1 := by rw [List.length_append]; rfl
          have e2' : (x2 + 1).toInt = ((l ++ [(e.2, if kd q = 2 then q else e.1)]).length : Int) := by rw [ad1 (by omega), e2, hlen]; rfl
          have ew : ((x1 + (16777216 : Int32)) ||| (x4 <<< (((3 : Int32) * ushr x1 (24 : Int32)) &&& 31))) = nI (sgX (l ++ [(e.2, if kd q = 2 then q else e.1)])) := by
            rw [e1, ex]
            exact sw
          generalize upF s58 23 (setv 8 (s58 23) x2 y77) = sF at gF hP
          refine gu_accept t0 gF (by decide) (fun c26 s90 g90 e90 => Or.inl ⟨e.1 + 1, _, g90, e2', ew, p23_k hP e90, hT, by rw [hlen]; omega, by omega, Or.inl ⟨rfl, pmc_s hc hl8 c5 hs he c26, by rw [hlen]; omega⟩⟩) (fun n26 => Or.inl ⟨e.1, _, gF, e2', ew, hP, hT, by rw [hlen]; omega, by omega, Or.inr ⟨rfl, by rw [hlen]; omega, pmc_e hc hl8 c5 hs he n26, by rw [hlen]; omega, by omega⟩⟩)
        · exact ⟨fun _ => True, fun y77 _ => by
            unfold pk_X8_withParameter pk_X8_parameters
            exact gj_accept (gj_F j58 rfl) (by decide) (Or.inr ⟨rfl, gj_F j58 rfl, hn⟩), fun _ => trivial, fun _ => trivial⟩
      have eq1 : q ≤ (if kd q = 2 then q + 1 else q) := by split <;> omega
      refine gu_accept t0 g35 (by decide) (fun c24 s43 g43 e43 => ⟨_, j58, fun c => absurd c (by decide), fun _ => ?_⟩) (fun n24 => ⟨_, j58, fun _ => Or.inl ⟨((if kd q = 2 then q + 1 else q), t), if_neg n24, hv, by show t ≤ 6; omega, eq1, g35, e35⟩, fun c => absurd rfl c⟩)
      refine gu_expect t0 g43 (by decide) (fun c25 s52 g52 e52 => Or.inl ⟨((if kd q = 2 then q + 1 else q) + 2, t + 1), (if_pos c24).trans (if_pos c25), by rw [ad1 (by omega), hv]; rfl, by show t + 1 ≤ 6; omega, by show q ≤ (if kd q = 2 then q + 1 else q) + 2; omega, g52, by rw [e52, e43, e35]⟩) (fun c25 s52 j52 => Or.inr ⟨j52, pmc_n2 hc c5 hs ((if_pos c24).trans (if_neg c25))⟩)
    refine gu_accept t0 g22 (by decide) (fun c2 s35 g35 e35 => rest 1 s35 ⟨fun _ => c2, fun _ => by decide⟩ (by rw [if_pos (show kd q = 2 from c2)]; exact g35) (e35.trans e22')) (fun n2 => rest 0 s22 ⟨fun c => absurd rfl c, fun c => absurd c n2⟩ (by rw [if_neg (show ¬ kd q = 2 from n2)]; exact g22) e22')
end SHD
end

section
/-! the class's grammar: heads of functions, units -/
section SRD
variable {kd vl : Nat → Int} {n p d w ty nm k t q : Nat} {σ0 σ s : St} {g : List Gsq} {l : List (Nat × Nat)} {x a1 a2 a3 a4 : Int32} {lk res : Int}
theorem lnq_map : ∀ {l : List (Nat × Nat)}, lnq (l.map (fun x => gq (48, x.2, (x.1 : Int), 0))) = l.length
  | [] => rfl
  | x :: l => by
    have e : (x :: l).map (fun x => gq (48, x.2, (x.1 : Int), 0)) = [gq (48, x.2, (x.1 : Int), 0)] ++ l.map (fun x => gq (48, x.2, (x.1 : Int), 0)) := rfl
    rw [e, lnq_app, lnq_one (by simp), lnq_map (l := l), List.length_cons]
    omega
theorem gj_parameters {Q : Int32 → St → Prop} (h : GJq σ0 σ) (k : ∀ v s, GJq σ0 s → Q v s) : pk_X3_parameters σ Q := by
  unfold pk_X3_parameters
  refine ⟨fun _ _ x3 s => GJq σ0 s, h, fun x1 x2 x3 s6 w3 j6 => ⟨True, fun _ => ⟨fun _ => k x1 s6 j6, fun _ => gj_fail j6 (fun s105 j105 => k x1 s105 j105)⟩, fun _ => trivial, fun _ => ⟨fun _ => trivial, fun _ => ?_⟩⟩⟩
  exact gj_expect j6 (by decide) (fun s18 j18 => gj_stars j18 (fun v22 => gj_accept j18 (by decide) (gj_accept j18 (by decide) ⟨fun _ s => GJq σ0 s, fun x4 s58 j58 => ⟨fun _ => True, fun y77 _ => by
        unfold pk_X8_withParameter pk_X8_parameters
        exact gj_accept (gj_F j58 rfl) (by decide) (gj_F j58 rfl), fun _ => trivial, fun _ => trivial⟩, fun _ => j18, fun c => absurd rfl c⟩)))
/-- behind ( and the parameters, where it is no function -/
theorem gj_head2 {Q : Int32 → St → Prop} (h : GJq σ0 σ) (k : ∀ s, GJq σ0 s → Q 0 s) : pk_X3_expect (21 : Int32) σ (fun s43 => ∃ J60 : Int32 → Prop, (∀ (y0_60 : Int32), y0_60 = 0 ∨ y0_60 = 1 → (J60 y0_60 → (∃ J86 : Int32 → Prop, (∀ (y5_86 : Int32), J86 y5_86 → (pk_X3_add (47 : Int32) a1 x ((((a2 + (1 : Int32)) * (8 : Int32)) + a3) + y5_86) s43 (fun v87 s87 => ∃ J102 : St → Prop, (∀ (s102 : St), J102 s102 → (∃ L105 : Int32 → St → Prop, (L105 (0 : Int32) s102) ∧ ∀ (x6_105 : Int32) (s105 : St), L105 x6_105 s105 → (pk_X8_parameters x s105 (fun v109 => (v109.toInt ≤ x6_105.toInt → (Q y0_60 s105)) ∧ (x6_105.toInt < v109.toInt → ((y0_60.toInt = 0 → (Q y0_60 s105)) ∧ (y0_60.toInt ≠ 0 → (pk_X8_parameter x x6_105 s105 (fun v136 => pk_X3_add (48 : Int32) (atv 8 (s105 23) x6_105) v136 (0 : Int32) s105 (fun v140 s140 => L105 (x6_105 + 1) s140)))))))))) ∧ ((y0_60.toInt ≠ 0 → (J102 s87)) ∧ (y0_60.toInt = 0 → (pk_X3_expect (27 : Int32) s87 (fun s99 => J102 s99))))))) ∧ ((y0_60.toInt = 0 → (J86 (0 : Int32))) ∧ (y0_60.toInt ≠ 0 → (J86 (4 : Int32))))))) ∧ (((s43 3 2).toInt ≠ 22 → (J60 (0 : Int32))) ∧ ((s43 3 2).toInt = 22 → (J60 (1 : Int32))))) :=
  gj_expect h (by decide) (fun s43 j43 => ⟨fun y => y = 0, fun y60 _ e60 => ⟨fun _ => True, fun y86 _ => gj_add j43 (fun _ s87 j87 => ⟨fun s => GJq σ0 s, fun s102 j102 => ⟨fun _ s => GJq σ0 s, j102, fun x6 s105 j105 => by
      unfold pk_X8_parameters
      rw [e60]
      exact ⟨fun _ => k s105 j105, fun _ => ⟨fun _ => k s105 j105, fun c => absurd rfl c⟩⟩⟩, fun _ => j87, fun _ => gj_expect j87 (by decide) (fun s99 j99 => j99)⟩), fun _ => trivial, fun _ => trivial⟩, fun _ => rfl, fun c => by have : (s43 3 2).toInt = -1 := j43.2.2; omega⟩)
theorem gj_head {Q : Int32 → St → Prop} (h : GJq σ0 σ) (k : ∀ s, GJq σ0 s → Q 0 s) : pk_X3_head a1 a2 a3 σ Q := by
  unfold pk_X3_head
  exact gj_expect h (by decide) (fun s3 j3 => ⟨fun x4 s => GJq σ0 s, fun x4 s40 j40 => gj_head2 j40 k, fun _ => ⟨fun c => by have : (s3 3 2).toInt = -1 := j3.2.2; omega, fun _ => gj_parameters j3 (fun v s j => j)⟩, fun c => by have : (s3 3 2).toInt = -1 := j3.2.2; omega⟩)
def HPn (kd : Nat → Int) (p : Nat) : Option (Nat × List (Nat × Nat)) := if kd (p + 1) = 6 then some (p + 2, []) else if kd (p + 1) = 21 then some (p + 1, []) else PMn kd 8 (p + 1)
theorem hd_s {p1 : Nat} (c20 : kd p = 20) (h : HPn kd p = some (p1, l)) (c21 : kd p1 = 21) : HDn kd p = some (p1 + 1, l) := by
  unfold HDn
  rw [if_pos c20]
  show (HPn kd p).bind _ = _
  rw [h]
  exact if_pos c21
theorem hd_n {p1 : Nat} (c20 : kd p = 20) (h : HPn kd p = some (p1, l)) (c21 : kd p1 ≠ 21) : HDn kd p = none := by
  unfold HDn
  rw [if_pos c20]
  show (HPn kd p).bind _ = _
  rw [h]
  exact if_neg c21
theorem hd_n2 (c20 : kd p = 20) (h : HPn kd p = none) : HDn kd p = none := by
  unfold HDn
  rw [if_pos c20]
  show (HPn kd p).bind _ = _
  rw [h]
  rfl
theorem gt_head {Q : Int32 → St → Prop} (t0 : TKv σ0 kd vl n) (h : GTq kd n σ0 σ p g) (hl : (lnq g : Int) ≤ 2 * p + 60) (hp : 1 ≤ p) (ha1 : a1.toInt = (nm : Int)) (ha2 : a2.toInt = res) (hres : -1 ≤ res ∧ res ≤ 5) (ha3 : a3.toInt = lk) (hlk : 0 ≤ lk ∧ lk ≤ 2)
    (kb : ∀ s p' l, HDn kd p = some (p', l) → kd p' = 22 → GTq kd n σ0 s p' (g ++ [gq (47, nm, sgI l, (res + 1) * 8 + lk + 4)] ++ l.map (fun x => gq (48, x.2, (x.1 : Int), 0))) → (l.length : Int) + 2 * p + 3 ≤ 2 * p' → p < p' → Q 1 s)
    (kn : ∀ s p' l, HDn kd p = some (p', l) → kd p' ≠ 22 → kd p' = 27 → GTq kd n σ0 s (p' + 1) (g ++ [gq (47, nm, sgI l, (res + 1) * 8 + lk)]) → p < p' → Q 0 s)
    (k0 : ∀ s, GJq σ0 s → (HDn kd p = none ∨ ∃ p' l, HDn kd p = some (p', l) ∧ kd p' ≠ 22 ∧ kd p' ≠ 27) → Q 0 s) : pk_X3_head a1 a2 a3 σ Q := by
  have h16 := t0.1.2.1
  unfold pk_X3_head
  have en0 : (0 : Int32) = nI (sgX []) := rfl
  have e23 : ∀ s, P23 s [] := fun s i y e => by cases i <;> cases e
  have et0 : Tyq [] := fun y hy => absurd hy (by simp)
  refine gt_expect t0 h (by decide) (fun c20 s3 g3 => ?_) (fun c20 s3 j3 => ?_)
  rotate_left
  · exact ⟨fun x4 s => GJq σ0 s, fun x4 s40 j40 => gj_head2 j40 (fun s j => k0 s j (Or.inl (if_neg c20))), fun _ => ⟨fun c => by have : (s3 3 2).toInt = -1 := j3.2.2; omega, fun _ => gj_parameters j3 (fun v s j => j)⟩, fun c => by have : (s3 3 2).toInt = -1 := j3.2.2; omega⟩
  rw [gt_kd g3]
  refine ⟨fun x4 s => (∃ p1 l, HPn kd p = some (p1, l) ∧ GTq kd n σ0 s p1 g ∧ x4 = nI (sgX l) ∧ P23 s l ∧ Tyq l ∧ l.length ≤ 8 ∧ 2 * l.length ≤ p1 - p ∧ p < p1) ∨ (GJq σ0 s ∧ HDn kd p = none), ?_, fun n6 => ⟨fun c21 => Or.inl ⟨p + 1, [], (if_neg n6).trans (if_pos c21), g3, en0, e23 s3, et0, by decide, Nat.zero_le _, by omega⟩, fun n21 => ?_⟩, fun c6 => ?_⟩
  rotate_left
  · refine gt_parameters t0 g3 (fun x s p' l hpm g' ex h23 ht hlen hpp => Or.inl ⟨p', l, (if_neg n6).trans ((if_neg n21).trans hpm), g', ex, h23, ht, hlen.2.1, by omega, by omega⟩) (fun x s hpm j => Or.inr ⟨j, hd_n2 c20 ((if_neg n6).trans ((if_neg n21).trans hpm))⟩)
  · exact gt_adv t0 g3 (by omega) (fun s19 g19 => Or.inl ⟨p + 2, [], if_pos c6, g19, en0, e23 s19, et0, by decide, Nat.zero_le _, by omega⟩)
  rintro x4 s40 (⟨p1, l, hpm, g40, ex, h23, ht, hl8, hlen, hpp⟩ | ⟨j40, hn⟩)
  rotate_left
  · exact gj_head2 j40 (fun s j => k0 s j (Or.inl hn))
  have hn1 := gt_n g40
  refine gu_expect t0 g40 (by decide) (fun c21 s43 g43 e43 => ?_) (fun c21 s43 j43 => ?_)
  rotate_left
  · exact ⟨fun y => y = 0, fun y60 _ e60 => ⟨fun _ => True, fun y86 _ => gj_add j43 (fun _ s87 j87 => ⟨fun s => GJq σ0 s, fun s102 j102 => ⟨fun _ s => GJq σ0 s, j102, fun x6 s105 j105 => by
      unfold pk_X8_parameters
      rw [e60]
      exact ⟨fun _ => k0 s105 j105 (Or.inl (hd_n c20 hpm c21)), fun _ => ⟨fun _ => k0 s105 j105 (Or.inl (hd_n c20 hpm c21)), fun c => absurd rfl c⟩⟩⟩, fun _ => j87, fun _ => gj_expect j87 (by decide) (fun s99 j99 => j99)⟩), fun _ => trivial, fun _ => trivial⟩, fun _ => rfl, fun c => by have : (s43 3 2).toInt = -1 := j43.2.2; omega⟩
  have hHD := hd_s c20 hpm c21
  have hn2 := gt_n g43
  rw [gt_kd g43]
  refine ⟨fun y => (y.toInt ≠ 0 ↔ kd (p1 + 1) = 22), fun y60 w60 h60 => ⟨fun y => y.toInt = (if kd (p1 + 1) = 22 then 4 else 0), fun y86 h86 => ?_, fun c => by rw [if_neg (fun e => h60.2 e c)]; rfl, fun c => by rw [if_pos (h60.1 c)]; rfl⟩, fun c => ⟨fun h => absurd rfl h, fun h => absurd h c⟩, fun c => ⟨fun _ => c, fun _ => by decide⟩⟩
  have e86 : 0 ≤ y86.toInt ∧ y86.toInt ≤ 4 := by rw [h86]; split <;> omega
  have ea2 : (a2 + (1 : Int32)).toInt = res + 1 := by rw [adc i1 (by omega) (by omega), ha2]
  have em8 : ((a2 + (1 : Int32)) * (8 : Int32)).toInt = (res + 1) * 8 := by rw [m8r (by omega) (by omega), ea2]
  have em9 : (((a2 + (1 : Int32)) * (8 : Int32)) + a3).toInt = (res + 1) * 8 + lk := by rw [ad (by omega) (by omega), em8, ha3]
  have esum : ((((a2 + (1 : Int32)) * (8 : Int32)) + a3) + y86).toInt = (res + 1) * 8 + lk + (if kd (p1 + 1) = 22 then 4 else 0) := by rw [ad (by omega) (by omega), em9, h86]
  refine gu_add (a := (47, nm, sgI l, (res + 1) * 8 + lk + (if kd (p1 + 1) = 22 then 4 else 0))) g43 (by omega) (by simp) (by rw [ha1, esum, ex, sgx_int hl8 ht]; rfl) (fun _ s87 g87 e87 => ?_)
  have h23' : P23 s87 l := p23_k (p23_k h23 e43) e87
  refine ⟨fun s => (kd (p1 + 1) = 22 ∧ GTq kd n σ0 s (p1 + 1) (g ++ [gq (47, nm, sgI l, (res + 1) * 8 + lk + 4)]) ∧ P23 s l) ∨ (kd (p1 + 1) ≠ 22 ∧ kd (p1 + 1) = 27 ∧ GTq kd n σ0 s (p1 + 2) (g ++ [gq (47, nm, sgI l, (res + 1) * 8 + lk)])) ∨ (kd (p1 + 1) ≠ 22 ∧ kd (p1 + 1) ≠ 27 ∧ GJq σ0 s), ?_, fun c => ?_, fun c => ?_⟩
  rotate_left
  · have c22 := h60.1 c
    rw [if_pos c22] at g87
    exact Or.inl ⟨c22, g87, h23'⟩
  · have c22 : kd (p1 + 1) ≠ 22 := fun e => h60.2 e c
    rw [if_neg c22, Int.add_zero] at g87
    exact gt_expect t0 g87 (by decide) (fun c27 s99 g99 => Or.inr (Or.inl ⟨c22, c27, g99⟩)) (fun c27 s99 j99 => Or.inr (Or.inr ⟨c22, c27, j99⟩))
  have ev : ushr x4 (24 : Int32) = nI l.length := by rw [ex]; exact sgn_X hl8 ht
  have evn : (ushr x4 (24 : Int32)).toInt = (l.length : Int) := by rw [ev]; exact nI_toInt (by omega)
  rintro s102 (⟨c22, g102, h102⟩ | ⟨c22, c27, g102⟩ | ⟨c22, c27, j102⟩)
  · have y1 : y60 = 1 := w60.resolve_left (fun e => h60.2 c22 (by rw [e]; rfl))
    rw [y1]
    refine ⟨fun x6 s => ∃ l1 l2, l = l1 ++ l2 ∧ x6.toInt = (l1.length : Int) ∧ GTq kd n σ0 s (p1 + 1) (g ++ [gq (47, nm, sgI l, (res + 1) * 8 + lk + 4)] ++ l1.map (fun x => gq (48, x.2, (x.1 : Int), 0))) ∧ P23 s l, ⟨[], l, rfl, rfl, by show GTq kd n σ0 s102 (p1 + 1) (_ ++ []); rw [List.append_nil]; exact g102, h102⟩, ?_⟩
    rintro x6 s105 ⟨l1, l2, el, e6, g105, h105⟩
    have elen : l.length = l1.length + l2.length := by rw [el, List.length_append]
    unfold pk_X8_parameters
    dsimp only
    rw [evn]
    refine ⟨fun c => ?_, fun c => ⟨fun h => absurd h (by decide), fun _ => ?_⟩⟩
    · have : l2 = [] := List.eq_nil_of_length_eq_zero (by omega)
      rw [this, List.append_nil] at el
      rw [← el] at g105
      exact kb s105 (p1 + 1) l hHD c22 g105 (by omega) (by omega)
    · cases l2 with
      | nil =>
        rw [List.length_nil] at elen
        omega
      | cons y l3 =>
        have ey : l[l1.length]? = some y := by
          rw [el, List.getElem?_append_right (Nat.le_refl _), Nat.sub_self]
          rfl
        have e6' : x6 = nI l1.length := ieq (by rw [e6, nI_toInt (by omega)])
        unfold pk_X8_parameter
        have et : ((ushr x4 ((3 : Int32) * x6)) &&& (7 : Int32)).toInt = (y.1 : Int) := by
          rw [ex, e6']
          exact sgt_X hl8 ht ey (by omega)
        have ea : (atv 8 (s105 23) x6).toInt = (y.2 : Int) := by
          rw [atv_at e6 (by omega)]
          exact h105 _ _ ey
        refine gu_add (a := (48, y.2, (y.1 : Int), 0)) g105 (by rw [lnq_app, lnq_app, lnq_map, lnq_one (by simp)]; omega) (by simp) (by rw [ea, et]; rfl) (fun _ s140 g140 e140 => ⟨l1 ++ [y], l3, by rw [el, List.append_assoc]; rfl, by rw [ad1 (by omega), e6, List.length_append]; rfl, ?_, p23_k h105 e140⟩)
        rw [List.map_append, ← List.append_assoc]
        exact g140
  · have y0 : y60 = 0 := w60.resolve_right (fun e => c22 (h60.1 (by rw [e]; decide)))
    rw [y0]
    refine ⟨fun _ s => GTq kd n σ0 s (p1 + 2) (g ++ [gq (47, nm, sgI l, (res + 1) * 8 + lk)]), g102, fun x6 s105 g105 => ?_⟩
    unfold pk_X8_parameters
    exact ⟨fun _ => kn s105 (p1 + 1) l hHD c22 c27 g105 (by omega), fun _ => ⟨fun _ => kn s105 (p1 + 1) l hHD c22 c27 g105 (by omega), fun h => absurd rfl h⟩⟩
  · have y0 : y60 = 0 := w60.resolve_right (fun e => c22 (h60.1 (by rw [e]; decide)))
    rw [y0]
    refine ⟨fun _ s => GJq σ0 s, j102, fun x6 s105 j105 => ?_⟩
    unfold pk_X8_parameters
    exact ⟨fun _ => k0 s105 j105 (Or.inr ⟨_, _, hHD, c22, c27⟩), fun _ => ⟨fun _ => k0 s105 j105 (Or.inr ⟨_, _, hHD, c22, c27⟩), fun h => absurd rfl h⟩⟩
end SRD
end

section
/-! the class's grammar: units -/
section SUN
variable {kd vl : Nat → Int} {n p d w ty nm k t q : Nat} {σ0 σ s : St} {g : List Gsq} {l : List (Nat × Nat)} {x a1 a2 a3 a4 : Int32} {lk res : Int} {R : Option (Nat × List Gsq)}
theorem fu_n (h : HDn kd p = none) : EVq (fun n => FUn kd vl n lk res nm p) none := ev_b0 (ev_k h)
theorem fu_0 {p' : Nat} (h : HDn kd p = some (p', l)) (c1 : kd p' ≠ 22) (c2 : kd p' ≠ 27) : EVq (fun n => FUn kd vl n lk res nm p) none := ev_b (ev_k h) (ev_f c1 (ev_f c2 ev_c))
theorem fu_p {p' : Nat} (h : HDn kd p = some (p', l)) (c1 : kd p' ≠ 22) (c2 : kd p' = 27) : EVq (fun n => FUn kd vl n lk res nm p) (some (p' + 1, [gq (47, nm, sgI l, (res + 1) * 8 + lk)])) := ev_b (ev_k h) (ev_f c1 (ev_t c2 ev_c))
theorem fu_b {p' q : Nat} {gs : List Gsq} (h : HDn kd p = some (p', l)) (c1 : kd p' = 22) (hb : EVq (fun n => STn kd vl n 1 1 (p' + 1)) (some (q, gs))) : EVq (fun n => FUn kd vl n lk res nm p) (some (q, [gq (47, nm, sgI l, (res + 1) * 8 + lk + 4)] ++ l.map (fun x => gq (48, x.2, (x.1 : Int), 0)) ++ gs ++ [gq (stp 49 nm)])) := ev_b (ev_k h) (ev_t c1 (ev_b hb ev_c))
theorem fu_b0 {p' : Nat} (h : HDn kd p = some (p', l)) (c1 : kd p' = 22) (hb : EVq (fun n => STn kd vl n 1 1 (p' + 1)) none) : EVq (fun n => FUn kd vl n lk res nm p) none := ev_b (ev_k h) (ev_t c1 (ev_b0 hb))
theorem i1_v0 (c : kd p = 6) (c2 : kd (p + 1) ≠ 2) : EVq (fun n => I1n kd vl n lk p) none := ev_t c (ev_f c2 ev_c)
theorem i1_v (c : kd p = 6) (c2 : kd (p + 1) = 2) (h : EVq (fun n => FUn kd vl n lk (-1) (p + 1) (p + 2)) R) : EVq (fun n => I1n kd vl n lk p) R := ev_t c (ev_t c2 h)
theorem i1_0 (c : kd p ≠ 6) (c2 : kd p ≠ 5) : EVq (fun n => I1n kd vl n lk p) none := ev_f c (ev_f c2 ev_c)
theorem i1_s0 (c : kd p = 5) (hs : SRq kd 5 (p + 1) = none) : EVq (fun n => I1n kd vl n lk p) none := ev_f (by omega) (ev_t c (ev_b0 (ev_k hs)))
theorem i1_s1 (c : kd p = 5) (hs : SRq kd 5 (p + 1) = some (t, q)) (c2 : kd q ≠ 2) : EVq (fun n => I1n kd vl n lk p) none := ev_f (by omega) (ev_t c (ev_b (ev_k hs) (ev_f c2 ev_c)))
theorem i1_f (c : kd p = 5) (hs : SRq kd 5 (p + 1) = some (t, q)) (c2 : kd q = 2) (c3 : kd (q + 1) = 20) (h : EVq (fun n => FUn kd vl n lk (t : Int) q (q + 1)) R) : EVq (fun n => I1n kd vl n lk p) R := ev_f (by omega) (ev_t c (ev_b (ev_k hs) (ev_t c2 (ev_t c3 h))))
theorem i1_w (c : kd p = 5) (hs : SRq kd 5 (p + 1) = some (t, q)) (c2 : kd q = 2) (c3 : kd (q + 1) ≠ 20) (h : EVq (fun n => VSn kd vl n lk q t (q + 1)) R) : EVq (fun n => I1n kd vl n lk p) R := ev_f (by omega) (ev_t c (ev_b (ev_k hs) (ev_t c2 (ev_f c3 h))))
theorem un_e (c : kd p = 0) : EVq (fun n => UNn kd vl n p) (some []) := ev_up (ev_t c ev_c)
theorem un_0 (c : kd p ≠ 0) (h : EVq (fun n => I1n kd vl n (lkq (kd p)) (if lkq (kd p) = 0 then p else p + 1)) none) : EVq (fun n => UNn kd vl n p) none := ev_up (ev_f c (ev_b0 h))
theorem un_1 {p' : Nat} {gs : List Gsq} (c : kd p ≠ 0) (h : EVq (fun n => I1n kd vl n (lkq (kd p)) (if lkq (kd p) = 0 then p else p + 1)) (some (p', gs))) (h2 : EVq (fun n => UNn kd vl n p') none) : EVq (fun n => UNn kd vl n p) none := ev_up (ev_f c (ev_b h (ev_b0 h2)))
theorem un_s {p' : Nat} {gs gl : List Gsq} (c : kd p ≠ 0) (h : EVq (fun n => I1n kd vl n (lkq (kd p)) (if lkq (kd p) = 0 then p else p + 1)) (some (p', gs))) (h2 : EVq (fun n => UNn kd vl n p') (some gl)) : EVq (fun n => UNn kd vl n p) (some (gs ++ gl)) := ev_up (ev_f c (ev_b h (ev_b h2 ev_c)))
theorem gt_start {Q : St → Prop} (t0 : TKv σ0 kd vl n) (k : ∀ s, GTq kd n σ0 s 0 [] → Q s) : pk_X3_advance (upC (upC (upC (upC σ0 3 4 (0 : Int32)) 3 9 (0 : Int32)) 3 3 ((-1) : Int32)) 3 1 ((-1) : Int32)) Q := by
  have kk : Kp [(3, 1), (3, 3), (3, 4), (3, 9)] [] σ0 (upC (upC (upC (upC σ0 3 4 (0 : Int32)) 3 9 (0 : Int32)) 3 3 ((-1) : Int32)) 3 1 ((-1) : Int32)) := kp_f (kp_f (kp_f (kp_f kp_rf rfl) rfl) rfl) rfl
  have r1 : (upC (upC (upC (upC σ0 3 4 (0 : Int32)) 3 9 (0 : Int32)) 3 3 ((-1) : Int32)) 3 1 ((-1) : Int32)) 3 1 = -1 := rdA_eq rfl
  have r3 : (upC (upC (upC (upC σ0 3 4 (0 : Int32)) 3 9 (0 : Int32)) 3 3 ((-1) : Int32)) 3 1 ((-1) : Int32)) 3 3 = -1 := by rw [rdA_ne (by decide), rdA_eq rfl]
  have r9 : (upC (upC (upC (upC σ0 3 4 (0 : Int32)) 3 9 (0 : Int32)) 3 3 ((-1) : Int32)) 3 1 ((-1) : Int32)) 3 9 = 0 := by rw [rdA_ne (by decide), rdA_ne (by decide), rdA_eq rfl]
  have r4 : (upC (upC (upC (upC σ0 3 4 (0 : Int32)) 3 9 (0 : Int32)) 3 3 ((-1) : Int32)) 3 1 ((-1) : Int32)) 3 4 = 0 := by rw [rdA_ne (by decide), rdA_ne (by decide), rdA_ne (by decide), rdA_eq rfl]
  generalize upC (upC (upC (upC σ0 3 4 (0 : Int32)) 3 9 (0 : Int32)) 3 3 ((-1) : Int32)) 3 1 ((-1) : Int32) = σ1 at kk r1 r3 r9 r4 ⊢
  have e24 : (σ1 2 4).toInt = (n : Int) + 1 := by rw [kk 2 4 rfl rfl]; exact t0.1.1
  have e0 : ((σ1 3 1) + (1 : Int32)).toInt = 0 := by rw [r1]; decide
  unfold pk_X3_advance
  rw [e0]
  refine ⟨fun y => y.toInt ≠ 0, fun y _ hy => ⟨fun c => absurd c hy, fun _ _ => ?_⟩, False, fun f => f.elim, fun c => by omega, fun _ => ⟨fun c => by omega, fun _ => ⟨fun c => by omega, fun _ => by decide⟩⟩⟩
  have en : ((σ1 3 1) + (1 : Int32)).toNatClampNeg = 0 := by rw [nt', e0]; rfl
  rw [en]
  have k2 : Kp [(3, 1), (3, 2)] [] σ1 (upC (upC σ1 3 1 ((σ1 3 1) + (1 : Int32))) 3 2 (σ1 13 0)) := kp_f (kp_f kp_rf rfl) rfl
  have q1 : (upC (upC σ1 3 1 ((σ1 3 1) + (1 : Int32))) 3 2 (σ1 13 0)) 3 1 = (σ1 3 1) + (1 : Int32) := by rw [rdA_ne (by decide), rdA_eq rfl]
  have q2 : (upC (upC σ1 3 1 ((σ1 3 1) + (1 : Int32))) 3 2 (σ1 13 0)) 3 2 = σ1 13 0 := rdA_eq rfl
  generalize upC (upC σ1 3 1 ((σ1 3 1) + (1 : Int32))) 3 2 (σ1 13 0) = s at k2 q1 q2 ⊢
  refine k s ⟨kp_tr (kp_sub kk rfl rfl) (kg2 k2), ⟨?_, ?_, Nat.zero_le _, ?_, ?_, fun i a p x y e => by cases i <;> cases e⟩, ?_⟩
  · rw [k2 3 3 rfl rfl, r3]; decide
  · rw [q1, e0]; rfl
  · rw [q2, kk 13 0 rfl rfl]
    exact t0.1.2.2.1 0 (Nat.zero_le _)
  · rw [k2 3 4 rfl rfl, r4]; rfl
  · rw [k2 3 9 rfl rfl, r9]; rfl
theorem gt_read {Q : Int32 → St → Prop} (t0 : TKv σ0 kd vl n) (k1 : ∀ s g, EVq (fun n => UNn kd vl n 0) (some g) → KGq σ0 s → TBL s (fltq 0 g) → (lnq g : Int) ≤ 2 * n + 60 → Q 1 s) (k0 : ∀ s, KGq σ0 s → EVq (fun n => UNn kd vl n 0) none → Q 0 s) : pk_X3_read σ0 Q := by
  have h16 := t0.1.2.1
  unfold pk_X3_read
  refine gt_start t0 (fun s21 g21 => ?_)
  have e4 : (s21 2 4).toInt = (n : Int) + 1 := (gt_tk t0 g21).1
  refine ⟨fun x s => (∃ p g, GTq kd n σ0 s p g ∧ (lnq g : Int) ≤ 2 * p + 60 ∧ (n : Int) + 1 ≤ x.toInt + p ∧ (∀ gl, EVq (fun n => UNn kd vl n p) (some gl) → EVq (fun n => UNn kd vl n 0) (some (g ++ gl))) ∧ (EVq (fun n => UNn kd vl n p) none → EVq (fun n => UNn kd vl n 0) none)) ∨ (GJq σ0 s ∧ EVq (fun n => UNn kd vl n 0) none), Or.inl ⟨0, [], g21, by rw [lnq_nil]; omega, by omega, fun gl h => h, id⟩, ?_⟩
  rintro x s32 (⟨p, g, g32, hb, hx, y1, y0⟩ | ⟨j32, hn⟩)
  rotate_left
  · exact ⟨True, fun _ => ⟨fun _ => k0 s32 j32.1 hn, fun c => by have := j32.2.1; omega⟩, fun _ => trivial, fun _ => ⟨fun _ => trivial, fun c => by have := j32.2.1; omega⟩⟩
  have hn1 := gt_n g32
  have ek := gt_kd g32
  have ew : (s32 3 3).toInt < 0 := g32.2.1.1
  have hk := kd_r t0.1 p
  rw [ek]
  refine ⟨kd p = 0, fun c0 => ⟨fun c => by omega, fun _ => ?_⟩, fun c => by omega, fun _ => ⟨fun c => by omega, fun _ => ⟨id, fun c0 => ?_⟩⟩⟩
  · have := y1 [] (un_e c0)
    rw [List.append_nil] at this
    exact k1 s32 g this g32.1 g32.2.1.2.2.2.2 (by omega)
  refine ⟨fun y => y.toInt = lkq (kd p), fun y77 h77 => ?_, fun n7 => ⟨fun n8 => by unfold lkq; rw [if_neg n7, if_neg n8]; rfl, fun c8 => by unfold lkq; rw [if_neg n7, if_pos c8]; rfl⟩, fun c7 => by unfold lkq; rw [if_pos c7]; rfl⟩
  have lk2 : 0 ≤ lkq (kd p) ∧ lkq (kd p) ≤ 2 := by unfold lkq; (repeat' split) <;> omega
  have lk0 : lkq (kd p) ≠ 0 → 2 ≤ kd p := fun h => by unfold lkq at h; (repeat' split at h) <;> omega
  generalize hlk : lkq (kd p) = lk at h77 lk2 lk0
  have nun : EVq (fun n => I1n kd vl n lk (if lk = 0 then p else p + 1)) none → EVq (fun n => UNn kd vl n 0) none := fun h => y0 (un_0 c0 (by rw [hlk]; exact h))
  refine ⟨fun s => GTq kd n σ0 s (if lk = 0 then p else p + 1) g, fun s86 g86 => ?_, fun c => by rw [if_pos (by omega)]; exact g32, fun c => by rw [if_neg (by omega)]; exact gt_adv t0 g32 (lk0 (by omega)) (fun s83 g83 => g83)⟩
  obtain ⟨p1, hp1⟩ : ∃ p1, p1 = (if lk = 0 then p else p + 1) := ⟨_, rfl⟩
  have hpp : p ≤ p1 := by rw [hp1]; split <;> omega
  rw [← hp1] at g86 nun
  have hn2 := gt_n g86
  rw [gt_kd g86]
  -- what an item leaves
  have good : ∀ s p' gs, EVq (fun n => I1n kd vl n lk p1) (some (p', gs)) → GTq kd n σ0 s p' (g ++ gs) → (lnq gs : Int) + 2 * p1 ≤ 2 * p' → p1 < p' → (∃ p g, GTq kd n σ0 s p g ∧ (lnq g : Int) ≤ 2 * p + 60 ∧ (n : Int) + 1 ≤ (x + (-1)).toInt + p ∧ (∀ gl, EVq (fun n => UNn kd vl n p) (some gl) → EVq (fun n => UNn kd vl n 0) (some (g ++ gl))) ∧ (EVq (fun n => UNn kd vl n p) none → EVq (fun n => UNn kd vl n 0) none)) ∨ (GJq σ0 s ∧ EVq (fun n => UNn kd vl n 0) none) := fun s p' gs h1 h2 h3 h4 => by
    have h1' : EVq (fun n => I1n kd vl n (lkq (kd p)) (if lkq (kd p) = 0 then p else p + 1)) (some (p', gs)) := by rw [hlk, ← hp1]; exact h1
    refine Or.inl ⟨p', g ++ gs, h2, by rw [lnq_app]; omega, dn_ge (by omega) (by omega), fun gl hgl => ?_, fun h => y0 (un_1 c0 h1' h)⟩
    have := y1 _ (un_s c0 h1' hgl)
    rw [List.append_assoc]
    exact this
  -- functions
  have func : ∀ (a b : Int32) (res : Int) (nm : Nat) s q, GTq kd n σ0 s q g → p1 + 2 ≤ q → a.toInt = (nm : Int) → b.toInt = res → -1 ≤ res ∧ res ≤ 5 → (∀ R, EVq (fun n => FUn kd vl n lk res nm q) R → EVq (fun n => I1n kd vl n lk p1) R) → pk_X3_head a b y77 s (fun v171 s171 => (v171.toInt = 0 → ((∃ p g, GTq kd n σ0 s171 p g ∧ (lnq g : Int) ≤ 2 * p + 60 ∧ (n : Int) + 1 ≤ (x + (-1)).toInt + p ∧ (∀ gl, EVq (fun n => UNn kd vl n p) (some gl) → EVq (fun n => UNn kd vl n 0) (some (g ++ gl))) ∧ (EVq (fun n => UNn kd vl n p) none → EVq (fun n => UNn kd vl n 0) none)) ∨ (GJq σ0 s171 ∧ EVq (fun n => UNn kd vl n 0) none))) ∧ (v171.toInt ≠ 0 → (pkG_statements (1 : Int32) s171 (fun s179 => pk_X3_add (49 : Int32) a (0 : Int32) (0 : Int32) s179 (fun v189 s189 => (∃ p g, GTq kd n σ0 s189 p g ∧ (lnq g : Int) ≤ 2 * p + 60 ∧ (n : Int) + 1 ≤ (x + (-1)).toInt + p ∧ (∀ gl, EVq (fun n => UNn kd vl n p) (some gl) → EVq (fun n => UNn kd vl n 0) (some (g ++ gl))) ∧ (EVq (fun n => UNn kd vl n p) none → EVq (fun n => UNn kd vl n 0) none)) ∨ (GJq σ0 s189 ∧ EVq (fun n => UNn kd vl n 0) none)))))) := fun a b res nm s q gq' hq ha hb' hres hI =>
    gt_head t0 gq' (by omega) (by omega) ha hb' hres h77 lk2
      (fun s171 p' l hh c22 g171 hlb hpl => ⟨fun c => absurd c (by decide), fun _ => by
        have e49 := lnq_one (a := stp 49 nm) (by simp [stp])
        have e47 := lnq_one (a := (47, nm, sgI l, (res + 1) * 8 + lk + 4)) (by simp)
        refine gtG_statements t0 (1 : Int32) 1 p' s171 _ _ rfl (by omega) g171 c22 (by rw [lnq_app, lnq_app, lnq_map]; omega) (by omega) (fun s179 p2 gs hgs g179 hb2 hp2 => ?_) (fun s179 j179 hgs => gj_add j179 (fun _ s189 j189 => Or.inr ⟨j189, nun (hI _ (fu_b0 hh c22 hgs))⟩))
        have hn3 := gt_n g179
        refine gt_add (a := stp 49 nm) g179 (by rw [lnq_app, lnq_app, lnq_app, lnq_map]; omega) (by simp [stp]) (by rw [ha]; rfl) (fun _ s189 g189 _ => good s189 p2 _ (hI _ (fu_b hh c22 hgs)) ?_ ?_ (by omega))
        · simp only [List.append_assoc] at g189 ⊢
          exact g189
        · rw [lnq_app, lnq_app, lnq_app, lnq_map]
          omega⟩)
      (fun s171 p' l hh n22 c27 g171 hpl => ⟨fun _ => good s171 (p' + 1) _ (hI _ (fu_p hh n22 c27)) g171 (by rw [lnq_one (by simp)]; omega) (by omega), fun c => absurd rfl c⟩)
      (fun s171 j171 hh => ⟨fun _ => Or.inr ⟨j171, nun (hI _ (hh.elim fu_n (fun ⟨p', l, h1, h2, h3⟩ => fu_0 h1 h2 h3)))⟩, fun c => absurd rfl c⟩)
  refine ⟨fun y => (y.toInt ≠ 0 ↔ kd p1 = 6), fun y100 _ h100 => ⟨fun y => y.toInt = (if kd p1 = 6 then 6 else 5), fun y112 h112 => ?_, fun c => by rw [if_neg (fun e => h100.2 e c)]; rfl, fun c => by rw [if_pos (h100.1 c)]; rfl⟩, fun c => ⟨fun h => absurd rfl h, fun h => absurd h c⟩, fun c => ⟨fun _ => c, fun _ => by decide⟩⟩
  -- junk behind
  have jtail : ∀ s112, GJq σ0 s112 → EVq (fun n => UNn kd vl n 0) none → ∀ (v : Int32), pk_X3_expect (2 : Int32) s112 (fun s137 => ∃ J193 : St → Prop, (∀ (s193 : St), J193 s193 → ((∃ p g, GTq kd n σ0 s193 p g ∧ (lnq g : Int) ≤ 2 * p + 60 ∧ (n : Int) + 1 ≤ (x + (-1)).toInt + p ∧ (∀ gl, EVq (fun n => UNn kd vl n p) (some gl) → EVq (fun n => UNn kd vl n 0) (some (g ++ gl))) ∧ (EVq (fun n => UNn kd vl n p) none → EVq (fun n => UNn kd vl n 0) none)) ∨ (GJq σ0 s193 ∧ EVq (fun n => UNn kd vl n 0) none))) ∧ (∃ J165 : Prop, (J165 → (pk_X3_head (s112 3 1) v y77 s137 (fun v171 s171 => (v171.toInt = 0 → (J193 s171)) ∧ (v171.toInt ≠ 0 → (pkG_statements (1 : Int32) s171 (fun s179 => pk_X3_add (49 : Int32) (s112 3 1) (0 : Int32) (0 : Int32) s179 (fun v189 s189 => J193 s189))))))) ∧ ((y100.toInt ≠ 0 → (J165)) ∧ (y100.toInt = 0 → (((s137 3 2).toInt = 20 → (J165)) ∧ ((s137 3 2).toInt ≠ 20 → (pk_X3_variables (s112 3 1) v y77 s137 (fun s159 => J193 s159)))))))) := fun s112 j112 hn v =>
    gj_expect j112 (by decide) (fun s137 j137 => ⟨fun s => GJq σ0 s, fun s193 j193 => Or.inr ⟨j193, hn⟩, True, fun _ => gj_head j137 (fun s171 j171 => ⟨fun _ => j171, fun c => absurd rfl c⟩), fun _ => trivial, fun _ => ⟨fun _ => trivial, fun _ => gj_variables j137 (fun s159 j159 => j159)⟩⟩)
  refine gt_expect t0 g86 (by rw [h112]; split <;> omega) (fun ce s112 g112 => ?_) (fun ce s112 j112 => ?_)
  rotate_left
  · have n56 : kd p1 ≠ 6 ∧ kd p1 ≠ 5 := by rw [h112] at ce; split at ce <;> omega
    have hn := nun (i1_0 n56.1 n56.2)
    exact ⟨fun _ s => GJq σ0 s, fun v s127 j127 => jtail s127 j127 hn v, fun _ => gj_stars j112 (fun _ => j112), fun _ => j112⟩
  have hn3 := gt_n g112
  refine ⟨fun v s => (kd p1 = 6 ∧ v.toInt = -1 ∧ GTq kd n σ0 s (p1 + 1) g) ∨ (kd p1 = 5 ∧ ∃ t q, SRq kd 5 (p1 + 1) = some (t, q) ∧ t ≤ 5 ∧ p1 + 1 ≤ q ∧ v.toInt = (t : Int) ∧ GTq kd n σ0 s q g) ∨ (GJq σ0 s ∧ EVq (fun n => UNn kd vl n 0) none), ?_, fun c => ?_, fun c => Or.inl ⟨h100.1 c, rfl, g112⟩⟩
  rotate_left
  · have n6 : kd p1 ≠ 6 := fun e => h100.2 e c
    have c5 : kd p1 = 5 := by rw [h112, if_neg n6] at ce; exact ce
    exact gt_stars t0 g112 (fun v s t q hs hv g124 hq ht => Or.inr (Or.inl ⟨c5, t, q, hs, ht, hq, hv, g124⟩)) (fun v s hs j124 => Or.inr (Or.inr ⟨j124, nun (i1_s0 c5 hs)⟩))
  rintro v s127 (⟨c6, hv, g127⟩ | ⟨c5, t, q, hs, ht, hq, hv, g127⟩ | ⟨j127, hn⟩)
  · refine gt_expect t0 g127 (by decide) (fun c2 s137 g137 => ⟨_, fun s193 h => h, True, fun _ => func _ _ (-1) (p1 + 1) s137 (p1 + 2) g137 (by omega) (gt_at g127) hv (by omega) (fun R hR => i1_v c6 c2 hR), fun _ => trivial, fun c => absurd (h100.2 c6) (fun h => h c)⟩) (fun c2 s137 j137 => ?_)
    have hn := nun (i1_v0 c6 c2)
    exact ⟨fun s => GJq σ0 s, fun s193 j193 => Or.inr ⟨j193, hn⟩, True, fun _ => gj_head j137 (fun s171 j171 => ⟨fun _ => j171, fun c => absurd rfl c⟩), fun _ => trivial, fun _ => ⟨fun _ => trivial, fun _ => gj_variables j137 (fun s159 j159 => j159)⟩⟩
  · have n6 : ¬ kd p1 = 6 := by omega
    refine gt_expect t0 g127 (by decide) (fun c2 s137 g137 => ?_) (fun c2 s137 j137 => ?_)
    rotate_left
    · have hn := nun (i1_s1 c5 hs c2)
      exact ⟨fun s => GJq σ0 s, fun s193 j193 => Or.inr ⟨j193, hn⟩, True, fun _ => gj_head j137 (fun s171 j171 => ⟨fun _ => j171, fun c => absurd rfl c⟩), fun _ => trivial, fun _ => ⟨fun _ => trivial, fun _ => gj_variables j137 (fun s159 j159 => j159)⟩⟩
    rw [gt_kd g137]
    refine ⟨_, fun s193 h => h, kd (q + 1) = 20, fun c20 => func _ _ (t : Int) q s137 (q + 1) g137 (by omega) (gt_at g127) hv (by omega) (fun R hR => i1_f c5 hs c2 c20 hR), fun c => absurd (h100.1 c) n6, fun _ => ⟨id, fun n20 => ?_⟩⟩
    exact gt_variables t0 g137 (by omega) (by omega) (gt_at g127) hv lk2 h77 (fun s159 p' gs hev g159 hb2 hp2 => good s159 p' gs (i1_w c5 hs c2 n20 hev) g159 (by omega) (by omega)) (fun s159 j159 hev => Or.inr ⟨j159, nun (i1_w c5 hs c2 n20 hev)⟩)
  · exact jtail s127 j127 hn v
end SUN
end

section
/-! both sides: statements -/
def CDq (w s : St) : Prop := (∀ c, [1, 13, 14, 15, 25, 26, 27, 38, 39, 40, 41, 42, 44].contains c = true → s c = w c) ∧ s 6 15 = w 6 15 ∧ s 6 7 = w 6 7 ∧ s 5 1 = w 5 1 ∧ s 6 5 = w 6 5 ∧ s 5 7 = w 5 7
def DDq (a b : St) : Prop := (∀ c, [1, 2, 3, 4, 6, 9, 10, 11, 12, 13, 14, 15, 16, 18, 19, 20, 21, 22, 31, 32, 34, 35].contains c = true → b c = a c) ∧ b 0 35 = a 0 35 ∧ b 0 36 = a 0 36 ∧ b 0 53 = a 0 53 ∧ b 0 37 = a 0 37 ∧ b 0 31 = a 0 31
section RLW
variable {w s r σ σ' : St} {kd : Nat → Int} {n S m lo : Nat} {fs : List (Nat × Nat)} {cs : List Nat}
theorem cd_rf : CDq w w := ⟨fun _ _ => rfl, rfl, rfl, rfl, rfl, rfl⟩
theorem cd_tr (h : CDq w s) (g : CDq s r) : CDq w r := ⟨fun c hc => (g.1 c hc).trans (h.1 c hc), g.2.1.trans h.2.1, g.2.2.1.trans h.2.2.1, g.2.2.2.1.trans h.2.2.2.1, g.2.2.2.2.1.trans h.2.2.2.2.1, g.2.2.2.2.2.trans h.2.2.2.2.2⟩
theorem dd_rf : DDq σ σ := ⟨fun _ _ => rfl, rfl, rfl, rfl, rfl, rfl⟩
theorem dd_tr (h : DDq σ s) (g : DDq s r) : DDq σ r := ⟨fun c hc => (g.1 c hc).trans (h.1 c hc), g.2.1.trans h.2.1, g.2.2.1.trans h.2.2.1, g.2.2.2.1.trans h.2.2.2.1, g.2.2.2.2.1.trans h.2.2.2.2.1, g.2.2.2.2.2.trans h.2.2.2.2.2⟩
theorem cd_lt : ∀ c, [1, 13, 14, 15, 25, 26, 27, 38, 39, 40, 41, 42, 44].contains c = true → c < 47 := by
  intro c h
  simp only [List.contains_cons, List.contains_nil, Bool.or_false, Bool.or_eq_true, beq_iff_eq] at h
  omega
theorem cd_ko (h : Ko fs cs w s) (h1 : cs.all (fun c => ![1, 13, 14, 15, 25, 26, 27, 38, 39, 40, 41, 42, 44].contains c && c != 5 && c != 6) = true) (h2 : fs.all (fun f => ![1, 13, 14, 15, 25, 26, 27, 38, 39, 40, 41, 42, 44].contains f.1 && f != (6, 15) && f != (6, 7) && f != (5, 1) && f != (6, 5) && f != (5, 7)) = true) : CDq w s := by
  rw [List.all_eq_true] at h1 h2
  have nc : ∀ c, [1, 13, 14, 15, 25, 26, 27, 38, 39, 40, 41, 42, 44].contains c = true → cs.contains c = false := fun c hc => by
    cases e : cs.contains c with
    | false => rfl
    | true =>
      have := h1 c (List.contains_iff_mem.mp e)
      simp only [Bool.and_eq_true, Bool.not_eq_true'] at this
      rw [this.1.1] at hc
      cases hc
  have nf : ∀ c j, [1, 13, 14, 15, 25, 26, 27, 38, 39, 40, 41, 42, 44].contains c = true → fs.contains (c, j) = false := fun c j hc => by
    cases e : fs.contains (c, j) with
    | false => rfl
    | true =>
      have := h2 (c, j) (List.contains_iff_mem.mp e)
      simp only [Bool.and_eq_true, Bool.not_eq_true'] at this
      rw [this.1.1.1.1.1] at hc
      cases hc
  have c56 : cs.contains 5 = false ∧ cs.contains 6 = false := by
    constructor
    · cases e : cs.contains 5 with
      | false => rfl
      | true => exact absurd (h1 5 (List.contains_iff_mem.mp e)) (by decide)
    · cases e : cs.contains 6 with
      | false => rfl
      | true => exact absurd (h1 6 (List.contains_iff_mem.mp e)) (by decide)
  have ff : ∀ f, (f = (6, 15) ∨ f = (6, 7) ∨ f = (5, 1) ∨ f = (6, 5) ∨ f = (5, 7)) → fs.contains f = false := fun f hf => by
    cases e : fs.contains f with
    | false => rfl
    | true =>
      have := h2 f (List.contains_iff_mem.mp e)
      rcases hf with rfl | rfl | rfl | rfl | rfl <;> exact absurd this (by decide)
  exact ⟨fun c hc => funext (fun j => h c j (op_lt (cd_lt c hc)) (nf c j hc) (nc c hc)), h 6 15 (op_lt (by omega)) (ff _ (Or.inl rfl)) c56.2, h 6 7 (op_lt (by omega)) (ff _ (Or.inr (Or.inl rfl))) c56.2, h 5 1 (op_lt (by omega)) (ff _ (Or.inr (Or.inr (Or.inl rfl)))) c56.1, h 6 5 (op_lt (by omega)) (ff _ (Or.inr (Or.inr (Or.inr (Or.inl rfl))))) c56.2, h 5 7 (op_lt (by omega)) (ff _ (Or.inr (Or.inr (Or.inr (Or.inr rfl))))) c56.1⟩
theorem re_cd (h : REq kd n S m lo w σ) (k : CDq w s) (r : DDq σ σ') : REq kd n S m lo s σ' := by
  obtain ⟨k0, f1, f2, f3, f4, f5⟩ := k
  obtain ⟨r0, e1, e2, e3, e4, e5⟩ := r
  have c1 := k0 1 rfl
  have c13 := k0 13 rfl
  have c14 := k0 14 rfl
  have c15 := k0 15 rfl
  have c25 := k0 25 rfl
  have c26 := k0 26 rfl
  have c27 := k0 27 rfl
  have c38 := k0 38 rfl
  have c39 := k0 39 rfl
  have c40 := k0 40 rfl
  have c41 := k0 41 rfl
  have c42 := k0 42 rfl
  have c44 := k0 44 rfl
  have g1 := r0 1 rfl
  have g2 := r0 2 rfl
  have g3 := r0 3 rfl
  have g4 := r0 4 rfl
  have g6 := r0 6 rfl
  have g9 := r0 9 rfl
  have g10 := r0 10 rfl
  have g11 := r0 11 rfl
  have g12 := r0 12 rfl
  have g13 := r0 13 rfl
  have g14 := r0 14 rfl
  have g15 := r0 15 rfl
  have g16 := r0 16 rfl
  have g18 := r0 18 rfl
  have g19 := r0 19 rfl
  have g20 := r0 20 rfl
  have g21 := r0 21 rfl
  have g22 := r0 22 rfl
  have g31 := r0 31 rfl
  have g32 := r0 32 rfl
  have g34 := r0 34 rfl
  have g35 := r0 35 rfl
  clear k0 r0
  unfold REq TKR LOR OUR ORR TYR RTk TNm FLq NSm EOKm otk mtk at h ⊢
  rw [c1, c13, c14, c15, c25, c26, c27, c38, c39, c40, c41, c42, c44, f1, f2, f3, f4, f5, g1, g2, g3, g4, g6, g9, g10, g11, g12, g13, g14, g15, g16, g18, g19, g20, g21, g22, g31, g32, g34, g35, e1, e2, e3, e4, e5]
  exact h
theorem rgm_dd (h : RGm kd n S m lo σ) (r : DDq σ σ') (f : 0 ≤ (σ' 0 12).toInt) : RGm kd n S m lo σ' := by
  obtain ⟨r0, e1, e2, e3, e4, e5⟩ := r
  have g1 := r0 1 rfl
  have g2 := r0 2 rfl
  have g3 := r0 3 rfl
  have g4 := r0 4 rfl
  have g6 := r0 6 rfl
  have g9 := r0 9 rfl
  have g10 := r0 10 rfl
  have g15 := r0 15 rfl
  have g16 := r0 16 rfl
  have g18 := r0 18 rfl
  have g19 := r0 19 rfl
  have g22 := r0 22 rfl
  have g31 := r0 31 rfl
  have g34 := r0 34 rfl
  have g35 := r0 35 rfl
  clear r0
  obtain ⟨h1, h2, h3, h4, h5, h6, h7, h8, h9, h10, h11, h12⟩ := h
  unfold RGm
  unfold RTk TNm LOKm EOKm mtk TNm at *
  rw [g2, g3, g4, g6, g9, g10, g15, g16, g18, g19, g22, g31, g34, g35, e1, e2, e3, e4, e5]
  exact ⟨h1, h2, h3, h4, h5, h6, h7, h8, h9, h10, h11, f⟩
theorem dd_k {a b : St} (h : Kp fs cs a b) (h1 : cs.all (fun c => ![1, 2, 3, 4, 6, 9, 10, 11, 12, 13, 14, 15, 16, 18, 19, 20, 21, 22, 31, 32, 34, 35].contains c && c != 0) = true) (h2 : fs.all (fun f => ![1, 2, 3, 4, 6, 9, 10, 11, 12, 13, 14, 15, 16, 18, 19, 20, 21, 22, 31, 32, 34, 35].contains f.1 && f != (0, 35) && f != (0, 36) && f != (0, 53) && f != (0, 37) && f != (0, 31)) = true) : DDq a b := by
  rw [List.all_eq_true] at h1 h2
  have nc : ∀ c, [1, 2, 3, 4, 6, 9, 10, 11, 12, 13, 14, 15, 16, 18, 19, 20, 21, 22, 31, 32, 34, 35].contains c = true → cs.contains c = false := fun c hc => by
    cases e : cs.contains c with
    | false => rfl
    | true =>
      have := h1 c (List.contains_iff_mem.mp e)
      simp only [Bool.and_eq_true, Bool.not_eq_true'] at this
      rw [this.1] at hc
      cases hc
  have nf : ∀ c j, [1, 2, 3, 4, 6, 9, 10, 11, 12, 13, 14, 15, 16, 18, 19, 20, 21, 22, 31, 32, 34, 35].contains c = true → fs.contains (c, j) = false := fun c j hc => by
    cases e : fs.contains (c, j) with
    | false => rfl
    | true =>
      have := h2 (c, j) (List.contains_iff_mem.mp e)
      simp only [Bool.and_eq_true, Bool.not_eq_true'] at this
      rw [this.1.1.1.1.1] at hc
      cases hc
  have c0 : cs.contains 0 = false := by
    cases e : cs.contains 0 with
    | false => rfl
    | true => exact absurd (h1 0 (List.contains_iff_mem.mp e)) (by decide)
  have ff : ∀ f, (f = (0, 35) ∨ f = (0, 36) ∨ f = (0, 53) ∨ f = (0, 37) ∨ f = (0, 31)) → fs.contains f = false := fun f hf => by
    cases e : fs.contains f with
    | false => rfl
    | true =>
      have := h2 f (List.contains_iff_mem.mp e)
      rcases hf with rfl | rfl | rfl | rfl | rfl <;> exact absurd this (by decide)
  exact ⟨fun c hc => funext (fun j => h c j (nf c j hc) (nc c hc)), h 0 35 (ff _ (Or.inl rfl)) c0, h 0 36 (ff _ (Or.inr (Or.inl rfl))) c0, h 0 53 (ff _ (Or.inr (Or.inr (Or.inl rfl)))) c0, h 0 37 (ff _ (Or.inr (Or.inr (Or.inr (Or.inl rfl))))) c0, h 0 31 (ff _ (Or.inr (Or.inr (Or.inr (Or.inr rfl))))) c0⟩
end RLW
end

section
/-! both sides: the walk over steps -/
def SAq (x : Stq) (w : St) (Q : St → Prop) : Prop := ∀ a b : Int32, b.toInt = x.1 → (atv 32100 (w 19) a).toInt = (x.2.1 : Int) → (atv 32100 (w 20) a).toInt = x.2.2.1 → pk_X7_take b a w Q
def DAq (x : Stq) (w : St) (Q : St → Prop) : Prop := ∀ a b : Int32, b.toInt = x.1 → (atv 32100 (w 19) a).toInt = (x.2.1 : Int) → (atv 32100 (w 20) a).toInt = x.2.2.1 → (atv 32100 (w 21) a).toInt = x.2.2.2 → pk_X1_take b a w Q
/-- a size: its steps stand from a to b -/
def CAq (l : List Stq) (w : St) (Q : St → Prop) : Prop := ∀ a b : Int32, 0 ≤ a.toInt → b.toInt = a.toInt + (l.length : Int) → b.toInt ≤ 32100 → (∀ i y, l[i]? = some y → (w 18 (a.toInt.toNat + i)).toInt = y.1 ∧ (w 19 (a.toInt.toNat + i)).toInt = (y.2.1 : Int) ∧ (w 20 (a.toInt.toNat + i)).toInt = y.2.2.1) → pk_X7_constant a b w (fun v s => Q (upC s 8 8 v))
def GWq : List Gsq → St → (St → Prop) → Prop → Prop
  | [], w, Q, _ => Q w
  | x :: l, w, Q, B => ((w 6 3).toInt = 0 → if x.1.1 = 40 then CAq x.2 w (fun s => GWq l s Q B) else if x.1.1 < 20 then XTq x.1 w (fun s => GWq l s Q B) else if x.1.1 < 40 then SAq x.1 w (fun s => GWq l s Q B) else DAq x.1 w (fun s => GWq l s Q B)) ∧ ((w 6 3).toInt ≠ 0 → B)
section GWS
variable {w s r σ σ' : St} {kd : Nat → Int} {n S m lo : Nat} {l l2 : List Gsq} {Q Q2 : St → Prop} {B B2 : Prop} {x : Stq} {xs : List Stq}
theorem st_mono (h : SAq x w Q) (k : ∀ s, Q s → Q2 s) : SAq x w Q2 := fun a b e0 e1 e2 => cj_wk_X7_take (fun s q _ => k s q) (h a b e0 e1 e2) (h a b e0 e1 e2)
theorem dt_mono (h : DAq x w Q) (k : ∀ s, Q s → Q2 s) : DAq x w Q2 := fun a b e0 e1 e2 e3 => cj_wk_X1_take (fun s q _ => k s q) (h a b e0 e1 e2 e3) (h a b e0 e1 e2 e3)
theorem ct_mono (h : CAq xs w Q) (k : ∀ s, Q s → Q2 s) : CAq xs w Q2 := fun a b h0 h1 h2 h3 => cj_wk_X7_constant (fun v s q _ => k _ q) (h a b h0 h1 h2 h3) (h a b h0 h1 h2 h3)
theorem gv_mono : ∀ {l : List Gsq} {w : St}, GWq l w Q B → (∀ s, Q s → Q2 s) → (B → B2) → GWq l w Q2 B2
  | [], _, h, k, _ => k _ h
  | x :: l, w, h, k, b => by
    refine ⟨fun c => ?_, fun c => b (h.2 c)⟩
    have h1 := h.1 c
    by_cases c1 : x.1.1 = 40
    · rw [if_pos c1] at h1 ⊢
      exact ct_mono h1 (fun _ hs => gv_mono hs k b)
    rw [if_neg c1] at h1 ⊢
    by_cases c2 : x.1.1 < 20
    · rw [if_pos c2] at h1 ⊢
      exact xt_mono h1 (fun _ hs => gv_mono hs k b)
    rw [if_neg c2] at h1 ⊢
    by_cases c3 : x.1.1 < 40
    · rw [if_pos c3] at h1 ⊢
      exact st_mono h1 (fun _ hs => gv_mono hs k b)
    rw [if_neg c3] at h1 ⊢
    exact dt_mono h1 (fun _ hs => gv_mono hs k b)
theorem gv_app : ∀ {l : List Gsq} {w : St}, GWq l w (fun s => GWq l2 s Q B) B → GWq (l ++ l2) w Q B
  | [], _, h => h
  | x :: l, w, h => by
    refine ⟨fun c => ?_, h.2⟩
    have h1 := h.1 c
    by_cases c1 : x.1.1 = 40
    · rw [if_pos c1] at h1 ⊢
      exact ct_mono h1 (fun _ hs => gv_app hs)
    rw [if_neg c1] at h1 ⊢
    by_cases c2 : x.1.1 < 20
    · rw [if_pos c2] at h1 ⊢
      exact xt_mono h1 (fun _ hs => gv_app hs)
    rw [if_neg c2] at h1 ⊢
    by_cases c3 : x.1.1 < 40
    · rw [if_pos c3] at h1 ⊢
      exact st_mono h1 (fun _ hs => gv_app hs)
    rw [if_neg c3] at h1 ⊢
    exact dt_mono h1 (fun _ hs => gv_app hs)
theorem gv_bad (c : (w 6 3).toInt ≠ 0) (b : B) (q : ∀ s, (s 6 3).toInt ≠ 0 → Q s) : GWq l w Q B := by
  cases l with
  | nil => exact q w c
  | cons y l => exact ⟨fun c0 => absurd c0 c, fun _ => b⟩
theorem gv_x : ∀ {l : List Stq} {w : St}, (∀ y, y ∈ l → 1 ≤ y.1 ∧ y.1 ≤ 16) → XW l w Q B → GWq (gqs l) w Q B
  | [], _, _, h => h
  | y :: l, w, hy, h => by
    have hy0 := hy y (List.mem_cons_self ..)
    refine ⟨fun c => ?_, h.2⟩
    have c1 : ¬ (gq y).1.1 = 40 := by show ¬ y.1 = 40; omega
    have c2 : (gq y).1.1 < 20 := by show y.1 < 20; omega
    rw [if_neg c1, if_pos c2]
    exact xt_mono (h.1 c) (fun _ hs => gv_x (fun z hz => hy z (List.mem_cons_of_mem _ hz)) hs)
theorem gv_s (hx : 20 ≤ x.1 ∧ x.1 < 40) (h : (w 6 3).toInt = 0 → SAq x w Q) (b : (w 6 3).toInt ≠ 0 → B) : GWq [gq x] w Q B := by
  refine ⟨fun c => ?_, b⟩
  have c1 : ¬ (gq x).1.1 = 40 := by show ¬ x.1 = 40; omega
  have c2 : ¬ (gq x).1.1 < 20 := by show ¬ x.1 < 20; omega
  have c3 : (gq x).1.1 < 40 := hx.2
  rw [if_neg c1, if_neg c2, if_pos c3]
  exact h c
theorem gv_d (hx : 41 ≤ x.1) (h : (w 6 3).toInt = 0 → DAq x w Q) (b : (w 6 3).toInt ≠ 0 → B) : GWq [gq x] w Q B := by
  refine ⟨fun c => ?_, b⟩
  have c1 : ¬ (gq x).1.1 = 40 := by show ¬ x.1 = 40; omega
  have c2 : ¬ (gq x).1.1 < 20 := by show ¬ x.1 < 20; omega
  have c3 : ¬ (gq x).1.1 < 40 := by show ¬ x.1 < 40; omega
  rw [if_neg c1, if_neg c2, if_neg c3]
  exact h c
theorem gv_c (hx : x.1 = 40) (h : (w 6 3).toInt = 0 → CAq xs w Q) (b : (w 6 3).toInt ≠ 0 → B) : GWq [(x, xs)] w Q B := by
  refine ⟨fun c => ?_, b⟩
  have c1 : ((x, xs) : Gsq).1.1 = 40 := hx
  rw [if_pos c1]
  exact h c
end GWS
/-! the class's steps of statements -/
section CST
variable {w s r : St} {p O : Nat} {Q : St → Prop} {k ty h z f i : Int} {x a b : Int32}
/-- what steps of statements leave: but for code, faults, operands, what is open -/
abbrev STw (a b : St) : Prop := Ko [(4, 1), (6, 3), (6, 4), (7, 7), (9, 5)] [24, 43, 49, 50, 51, 52, 53, 54] a b
theorem sw_k {fs : List (Nat × Nat)} {cs : List Nat} (h : Kp fs cs w s) (s1 : fs.all (fun x => [(4, 1), (6, 3), (6, 4), (7, 7), (9, 5)].contains x || [24, 43, 49, 50, 51, 52, 53, 54].contains x.1) = true) (s2 : cs.all (fun x => [24, 43, 49, 50, 51, 52, 53, 54].contains x) = true) : STw w s := ko_sub (ko_kp h) s1 s2
theorem xs_begin (hO : (w 9 5).toInt = (O : Int)) (hO9 : O < 26) (kk : ∀ s, Kp [(9, 5)] [49, 50, 51, 52] w s → (s 9 5).toInt = (O : Int) + 1 → (∀ i, i ≠ O → s 49 i = w 49 i) → ((s 49 O).toInt ≠ 0 ↔ b.toInt ≠ 0) → Q s) : pk_X7_begin b w Q := by
  unfold pk_X7_begin
  refine ⟨fun y => (y.toInt ≠ 0 ↔ b.toInt ≠ 0), fun y _ hy => ?_, fun c => ⟨fun h => absurd rfl h, fun h => absurd c h⟩, fun c => ⟨fun _ => c, fun _ => by decide⟩⟩
  have e49 : ∀ j, (setv 26 (w 49) (w 9 5) y) j = if j = O then y else w 49 j := fun j => by rw [setv_at hO hO9]
  refine kk _ (kp_f (kp_F (kp_F (kp_F (kp_F kp_rf rfl) rfl) rfl) rfl) rfl) ?_ (fun i hi => ?_) ?_
  · rw [rdA_eq rfl, ad1 (by omega), hO]
  · rw [rdC_ne (by decide), rdF_ne (by decide), rdF_ne (by decide), rdF_ne (by decide), rdF_eq, e49, if_neg hi]
  · rw [rdC_ne (by decide), rdF_ne (by decide), rdF_ne (by decide), rdF_ne (by decide), rdF_eq, e49, if_pos rfl]
    exact hy
theorem xs_finish (hO : (w 9 5).toInt = (O : Int) + 1) (kk : ∀ s, Kp [(4, 1), (9, 5)] [24] w s → (s 9 5).toInt = (O : Int) → Q s) : pk_X7_finish w Q := by
  unfold pk_X7_finish
  refine xl_aim (fun s ks => kk s (kp_tr (kp_f kp_rf rfl) (kp_sub ks rfl rfl)) ?_)
  rw [ks 9 5 rfl rfl, rdA_eq rfl, sb1 (by omega), hO]
  omega
theorem xs_cond {Q : Nat → St → Prop} (hc : (w 7 7).toInt = 1) (h0 : (w 6 3).toInt = 0) (hA : AVq w 65 k ty h z f x i) (hk : 0 ≤ k ∧ k ≤ 3) (kk : ∀ u s, STx 0 w s → (s 7 7).toInt = 0 → ((s 6 3).toInt ≠ 0 ↔ ty = -1) → Q u s) : pk_X7_condition a w Q := by
  unfold pk_X7_condition
  refine xl_pop (j := 0) (by rw [hc]; rfl) (by omega) hA hk (fun s ks e6 e7 hA2 => ⟨fun c => ?_, fun c => ?_⟩)
  · rw [hA2.2.1] at c
    exact kk _ s ks e7 ⟨fun hx => absurd (by rw [e6]; exact h0) hx, fun hx => absurd hx c⟩
  · rw [hA2.2.1] at c
    refine xl_fail (by decide) (fun s2 k2 f2 => kk _ s2 (stq_tr ks (stq_kp (kp_sub k2 rfl rfl))) ?_ ⟨fun _ => c, fun _ => f2⟩)
    rw [k2 7 7 rfl rfl]
    exact e7
theorem xs_exit {u : Nat} (kk : ∀ s, Kp [(4, 1)] [24, 51] w s → Q s) : pk_X7_exitUnless u w Q := by
  unfold pk_X7_exitUnless
  exact xl_unless (fun v s ks => kk _ (kp_F (kp_sub ks rfl rfl) rfl))
theorem xs_turn (kk : ∀ s, Kp [(4, 1)] [24] w s → Q s) : pk_X7_turn a w Q := by
  unfold pk_X7_turn
  exact xl_emit (fun v s ks => kk s ks)
theorem xs_jump (kk : ∀ s, Kp [(4, 1)] [24] w s → Q s) : pk_X7_jumpBack a w Q := by
  unfold pk_X7_jumpBack
  exact xl_emit (fun v s ks => kk s ks)
end CST
end

section
/-! both sides: what statements keep alike -/
def SCq (S d : Nat) (w σ : St) : Prop := (w 6 17).toInt = (d : Int) ∧ (σ 0 54).toInt = (d : Int) ∧ (∀ i, i < d → 0 ≤ (w 45 i).toInt ∧ (w 45 i).toInt ≤ (S : Int) ∧ ∀ j : Nat, j < S → ((w 45 i).toInt ≤ (j : Int) ↔ (i : Int) + 1 ≤ (σ 36 j).toInt)) ∧ ∀ j, j < S → (σ 36 j).toInt ≤ (d : Int)
def LCq (S : Nat) (w σ : St) : Prop := ∃ Lc : Nat, (w 6 10).toInt = (Lc : Int) ∧ (σ 0 49).toInt = (Lc : Int) ∧ S ≤ Lc ∧ Lc ≤ 100 ∧ ∀ j, j < S → (w 44 j).toInt < (Lc : Int)
def LPq (O : Nat) (w σ : St) : Prop := (w 9 5).toInt = (O : Int) ∧ ((∃ i, i < O ∧ (w 49 i).toInt ≠ 0) ↔ 0 < (σ 0 57).toInt)
def RTq (w σ : St) : Prop := 0 ≤ (w 6 6).toInt ∧ (atv 10100 (w 26) (w 6 6)).toInt = (σ 0 56).toInt ∧ ((σ 0 55).toInt ≠ 0 ↔ (σ 0 56).toInt = -1)
/-- within a function: S locals in sight, d deep, c operands; O open -/
def RSo (kd : Nat → Int) (n S m lo d c : Nat) (w σ : St) : Prop := REq kd n S m lo w σ ∧ (w 7 7).toInt = (c : Int) ∧ SCq S d w σ ∧ LCq S w σ ∧ RTq w σ ∧ (w 8 6).toInt = -1
def RSq (kd : Nat → Int) (n S m lo d O c : Nat) (w σ : St) : Prop := RSo kd n S m lo d c w σ ∧ LPq O w σ
/-- what the reference wants of its own state there -/
def RGs (kd vl : Nat → Int) (n S m lo d : Nat) (σ : St) : Prop := RGm kd n S m lo σ ∧ (σ 0 54).toInt = (d : Int) ∧ (∃ Lc : Nat, (σ 0 49).toInt = (Lc : Int) ∧ S ≤ Lc ∧ Lc ≤ 100) ∧ (σ 0 15).toInt = 0 ∧ ∀ p, p ≤ n → (σ 6 p).toInt = vl p
def CSw (w s : St) : Prop := CDq w s ∧ s 6 17 = w 6 17 ∧ s 6 10 = w 6 10 ∧ s 6 6 = w 6 6 ∧ s 45 = w 45 ∧ s 8 6 = w 8 6
def DSw (a b : St) : Prop := DDq a b ∧ b 0 54 = a 0 54 ∧ b 0 49 = a 0 49 ∧ b 0 55 = a 0 55 ∧ b 0 56 = a 0 56 ∧ b 36 = a 36 ∧ b 0 15 = a 0 15
/-- the class's walk over the steps of statements leaves the like -/
def WSq (kd : Nat → Int) (n m lo d O S S' : Nat) (g : List Gsq) (σ σ' : St) : Prop :=
  (σ 0 12).toInt = 0 → ∀ w, RSq kd n S m lo d O 0 w σ → (w 6 3).toInt = 0 → GWq g w (fun s => ((s 6 3).toInt ≠ 0 → (σ' 0 12).toInt ≠ 0) ∧ ((s 6 3).toInt = 0 → (σ' 0 12).toInt = 0 ∧ RSq kd n S' m lo d O 0 s σ' ∧ ∀ i, i < O → s 49 i = w 49 i)) ((σ' 0 12).toInt ≠ 0)
section SRL
variable {w s r σ σ' σ1 σ2 : St} {kd vl : Nat → Int} {n S m lo d O O2 c c2 p S1 S2 : Nat} {g g2 : List Gsq} {l : List Stq} {Q : St → Prop} {B : Prop} {K T H Z F : Int} {X : Int32}
theorem cs_rf : CSw w w := ⟨cd_rf, rfl, rfl, rfl, rfl, rfl⟩
theorem cs_tr (h : CSw w s) (g : CSw s r) : CSw w r := ⟨cd_tr h.1 g.1, g.2.1.trans h.2.1, g.2.2.1.trans h.2.2.1, g.2.2.2.1.trans h.2.2.2.1, g.2.2.2.2.1.trans h.2.2.2.2.1, g.2.2.2.2.2.trans h.2.2.2.2.2⟩
theorem ds_rf : DSw σ σ := ⟨dd_rf, rfl, rfl, rfl, rfl, rfl, rfl⟩
theorem ds_tr (h : DSw σ σ1) (g : DSw σ1 σ2) : DSw σ σ2 := ⟨dd_tr h.1 g.1, g.2.1.trans h.2.1, g.2.2.1.trans h.2.2.1, g.2.2.2.1.trans h.2.2.2.1, g.2.2.2.2.1.trans h.2.2.2.2.1, g.2.2.2.2.2.1.trans h.2.2.2.2.2.1, g.2.2.2.2.2.2.trans h.2.2.2.2.2.2⟩
theorem cs_w (h : STw w s) : CSw w s := ⟨cd_ko h rfl rfl, h 6 17 (op_lt (by omega)) rfl rfl, h 6 10 (op_lt (by omega)) rfl rfl, h 6 6 (op_lt (by omega)) rfl rfl, ko_rd h 45 (by omega) rfl (fun _ => rfl), h 8 6 (op_lt (by omega)) rfl rfl⟩
theorem sw_x {j : Nat} (h : STx j w s) : STw w s := ko_sub h.1 rfl rfl
/-- the reference: puts, faults, places -/
theorem ds_k {fs : List (Nat × Nat)} {cs : List Nat} (h : Kp fs cs σ σ') (s1 : fs.all (fun x => [(0, 10), (0, 12), (0, 13), (0, 17), (0, 39), (0, 57), (0, 58), (0, 59), (0, 60)].contains x || [8, 33, 25].contains x.1) = true) (s2 : cs.all (fun x => [8, 33, 25].contains x) = true) : DSw σ σ' := by
  have h' : Kp [(0, 10), (0, 12), (0, 13), (0, 17), (0, 39), (0, 57), (0, 58), (0, 59), (0, 60)] [8, 33, 25] σ σ' := kp_sub h s1 s2
  exact ⟨dd_k h' rfl rfl, h' 0 54 rfl rfl, h' 0 49 rfl rfl, h' 0 55 rfl rfl, h' 0 56 rfl rfl, funext (fun j => h' 36 j rfl rfl), h' 0 15 rfl rfl⟩
theorem sc_cs (h : SCq S d w σ) (k : CSw w s) (r : DSw σ σ') : SCq S d s σ' := by
  unfold SCq
  rw [k.2.1, k.2.2.2.2.1, r.2.1, r.2.2.2.2.2.1]
  exact h
theorem lc_cs (h : LCq S w σ) (k : CSw w s) (r : DSw σ σ') : LCq S s σ' := by
  unfold LCq
  rw [k.2.2.1, r.2.2.1, k.1.1 44 rfl]
  exact h
theorem rt_cs (h : RTq w σ) (k : CSw w s) (r : DSw σ σ') : RTq s σ' := by
  unfold RTq
  rw [k.2.2.2.1, k.1.1 26 rfl, r.2.2.2.1, r.2.2.2.2.1]
  exact h
theorem lp_cs (h : LPq O w σ) (e95 : s 9 5 = w 9 5) (e49 : ∀ i, i < O → s 49 i = w 49 i) (e57 : σ' 0 57 = σ 0 57) : LPq O s σ' := by
  refine ⟨by rw [e95]; exact h.1, ?_⟩
  rw [e57, ← h.2]
  exact ⟨fun ⟨i, h1, h2⟩ => ⟨i, h1, by rw [← e49 i h1]; exact h2⟩, fun ⟨i, h1, h2⟩ => ⟨i, h1, by rw [e49 i h1]; exact h2⟩⟩
theorem ro_cs (h : RSo kd n S m lo d c w σ) (k : CSw w s) (r : DSw σ σ') (e7 : (s 7 7).toInt = (c2 : Int)) : RSo kd n S m lo d c2 s σ' :=
  ⟨re_cd h.1 k.1 r.1, e7, sc_cs h.2.2.1 k r, lc_cs h.2.2.2.1 k r, rt_cs h.2.2.2.2.1 k r, by rw [k.2.2.2.2.2]; exact h.2.2.2.2.2⟩
theorem rg_ds (h : RGs kd vl n S m lo d σ) (r : DSw σ σ') (f : 0 ≤ (σ' 0 12).toInt) : RGs kd vl n S m lo d σ' := by
  obtain ⟨h1, h2, h3, h4, h5⟩ := h
  refine ⟨rgm_dd h1 r.1 f, by rw [r.2.1]; exact h2, ?_, by rw [r.2.2.2.2.2.2]; exact h4, by rw [r.1.1 6 rfl]; exact h5⟩
  rw [r.2.2.1]
  exact h3
theorem rg_ke (h : RGs kd vl n S m lo d σ) (hr : KEr σ σ') (hG : RGm kd n S m lo σ') : RGs kd vl n S m lo d σ' := by
  obtain ⟨h1, h2, h3, h4, h5⟩ := h
  refine ⟨hG, by rw [hr 0 54 rfl rfl]; exact h2, ?_, by rw [hr 0 15 rfl rfl]; exact h4, ?_⟩
  · rw [hr 0 49 rfl rfl]
    exact h3
  · rw [show σ' 6 = σ 6 from funext (fun j => hr 6 j rfl rfl)]
    exact h5
/-- behind an expression -/
theorem ro_ste (h : RSo kd n S m lo d c w σ) (hR : REq kd n S m lo s σ') (k : STe 0 w s) (hr : KEr σ σ') (e7 : (s 7 7).toInt = (c2 : Int)) : RSo kd n S m lo d c2 s σ' := by
  obtain ⟨_, _, h3, h4, h6, h7⟩ := h
  have e617 : s 6 17 = w 6 17 := k.1 6 17 (op_lt (by omega)) rfl rfl
  have e610 : s 6 10 = w 6 10 := k.1 6 10 (op_lt (by omega)) rfl rfl
  have e66 : s 6 6 = w 6 6 := k.1 6 6 (op_lt (by omega)) rfl rfl
  have e86 : s 8 6 = w 8 6 := k.1 8 6 (op_lt (by omega)) rfl rfl
  have e45 : s 45 = w 45 := ko_rd k.1 45 (by omega) rfl (fun _ => rfl)
  have e44 : s 44 = w 44 := ko_rd k.1 44 (by omega) rfl (fun _ => rfl)
  have e26 : s 26 = w 26 := ko_rd k.1 26 (by omega) rfl (fun _ => rfl)
  have e36 : σ' 36 = σ 36 := funext (fun j => hr 36 j rfl rfl)
  refine ⟨hR, e7, ?_, ?_, ?_, ?_⟩
  · unfold SCq
    rw [e617, e45, e36, hr 0 54 rfl rfl]
    exact h3
  · unfold LCq
    rw [e610, hr 0 49 rfl rfl, e44]
    exact h4
  · unfold RTq
    rw [e66, e26, hr 0 55 rfl rfl, hr 0 56 rfl rfl]
    exact h6
  · rw [e86]
    exact h7
theorem ste_49 (k : STe 0 w s) : s 49 = w 49 := ko_rd k.1 49 (by omega) rfl (fun _ => rfl)
theorem ste_95 (k : STe 0 w s) : s 9 5 = w 9 5 := k.1 9 5 (op_lt (by omega)) rfl rfl
theorem bd_0 (h15 : (σ 0 15).toInt = 0) (h : BDr σ σ' F) : (σ' 0 12).toInt ≠ 0 := by
  rcases h with h | h
  · exact h.2
  · omega
/-- an expression, then what comes behind it -/
theorem wx_ex {rest : List Gsq} (hE : EXq kd n S m lo 0 l σ σ1 K T H Z F X) (hact : ∀ y, y ∈ l → 1 ≤ y.1 ∧ y.1 ≤ 16) (h15 : (σ 0 15).toInt = 0) (hr : KEr σ σ1) (h0 : (σ 0 12).toInt = 0) (hR : RSo kd n S m lo d 0 w σ) (hf : (w 6 3).toInt = 0) (hb : (σ1 0 12).toInt ≠ 0 → B) (hq : ∀ s, (s 6 3).toInt ≠ 0 → B → Q s)
    (kk : ∀ s i, (s 6 3).toInt = 0 → (σ1 0 12).toInt = 0 → T ≠ -2 → H ≤ 60 → RSo kd n S m lo d 1 s σ1 → STe 0 w s → AVq s 65 K T H Z F X i → GWq rest s Q B) : GWq (gqs l ++ rest) w Q B := by
  refine gv_app (gv_x hact (xw_mono (hE h0 w hR.1 hf hR.2.1) (fun s hs => ?_) (fun hx => hb (bd_0 h15 hx))))
  by_cases c0 : (s 6 3).toInt = 0
  · obtain ⟨g1, g2, g3, g4, g5, g6, i, g7⟩ := hs.2 c0
    exact kk s i c0 g1 g2 g3 (ro_ste hR g4 g5 hr (by rw [g6]; rfl)) g5 g7
  · have := hb (bd_0 h15 (hs.1 c0))
    exact gv_bad c0 this (fun s' h => hq s' h this)
theorem ws_app (h1 : WSq kd n m lo d O S S1 g σ σ1) (h2 : WSq kd n m lo d O S1 S2 g2 σ1 σ2) (hm : MNq σ1 σ2) : WSq kd n m lo d O S S2 (g ++ g2) σ σ2 := by
  intro h0 w hR hf
  refine gv_app (gv_mono (h1 h0 w hR hf) (fun s hs => ?_) hm)
  by_cases c0 : (s 6 3).toInt = 0
  · obtain ⟨g1, g2', g3⟩ := hs.2 c0
    refine gv_mono (h2 g1 s g2' c0) (fun r hr => ⟨hr.1, fun c => ?_⟩) id
    obtain ⟨k1, k2, k3⟩ := hr.2 c
    exact ⟨k1, k2, fun i hi => (k3 i hi).trans (g3 i hi)⟩
  · have := hm (hs.1 c0)
    exact gv_bad c0 this (fun s' h => ⟨fun _ => this, fun hx => absurd hx h⟩)
theorem ws_nil (h : DSw σ σ') (e12 : σ' 0 12 = σ 0 12) (e57 : σ' 0 57 = σ 0 57) : WSq kd n m lo d O S S [] σ σ' := fun h0 w hR hf =>
  ⟨fun hx => absurd hf hx, fun _ => ⟨by rw [e12]; exact h0, ⟨ro_cs hR.1 cs_rf h hR.1.2.1, lp_cs hR.2 rfl (fun _ _ => rfl) e57⟩, fun _ _ => rfl⟩⟩
/-- the reference goes on without a fault -/
theorem ws_src (h : DSw σ σ1) (e12 : σ1 0 12 = σ 0 12) (e57 : σ1 0 57 = σ 0 57) (hw : WSq kd n m lo d O S S1 g σ1 σ2) : WSq kd n m lo d O S S1 g σ σ2 := fun h0 w hR hf =>
  hw (by rw [e12]; exact h0) w (⟨ro_cs hR.1 cs_rf h hR.1.2.1, lp_cs hR.2 rfl (fun _ _ => rfl) e57⟩) hf
theorem ws_ref (hw : WSq kd n m lo d O S S1 g σ σ1) (h : DSw σ1 σ2) (e12 : σ2 0 12 = σ1 0 12) (e57 : σ2 0 57 = σ1 0 57) : WSq kd n m lo d O S S1 g σ σ2 := fun h0 w hR hf => by
  rw [e12]
  refine gv_mono (hw h0 w hR hf) (fun s hs => ⟨hs.1, fun c => ?_⟩) id
  obtain ⟨k1, k2, k3⟩ := hs.2 c
  exact ⟨k1, ⟨ro_cs k2.1 cs_rf h k2.1.2.1, lp_cs k2.2 rfl (fun _ _ => rfl) e57⟩, k3⟩
end SRL
end

section
/-! the class's steps of statements, by their acts -/
section X7T
variable {w s : St} {a b : Int32} {Q : St → Prop}
theorem bt7 {c k lo hi : Int} (e : c = k) (h : lo ≤ k ∧ k ≤ hi) : lo ≤ c ∧ c ≤ hi := by rw [e]; exact h
theorem bt8 {c : Int} (e : 36 ≤ c ∧ c ≤ 37) (h : c ≠ 36) : c = 37 := by omega
theorem x7_take {c : Int} (hb : b.toInt = c) (hc : 20 ≤ c ∧ c ≤ 38) (h : (c = 20 → pk_X11_open w Q) ∧ (c = 21 → pk_X11_close w Q) ∧ (c = 22 → pk_X2_pop w (fun _ s1 => pk_X0_emit (2 : Int32) (0 : Int32) (0 : Int32) (0 : Int32) s1 (fun _ s2 => Q s2))) ∧ (23 ≤ c ∧ c ≤ 25 → pk_X7_conditional b (atv 32100 (w 19) a) w Q) ∧ (26 ≤ c ∧ c ≤ 28 → pk_X7_whileLoop b (atv 32100 (w 19) a) w Q) ∧ (29 ≤ c ∧ c ≤ 31 → pk_X7_doLoop b (atv 32100 (w 19) a) w Q) ∧ (c = 36 → pk_X7_leave_r51 (atv 32100 (w 19) a) w Q) ∧ (c = 37 → pk_X7_leave_r52 (atv 32100 (w 19) a) w Q) ∧ (∀ y : Int32, (y.toInt ≠ 0 ↔ (atv 32100 (w 20) a).toInt ≠ 0) → (32 ≤ c ∧ c ≤ 35 → pk_X7_forLoop b (atv 32100 (w 19) a) y w Q) ∧ (c = 38 → pk_X7_giveBack (atv 32100 (w 19) a) y w Q))) : pk_X7_take b a w Q := by
  obtain ⟨h20, h21, h22, h23, h26, h29, h36, h37, hy⟩ := h
  unfold pk_X7_take
  refine ⟨fun y => (y.toInt ≠ 0 ↔ (atv 32100 (w 20) a).toInt ≠ 0), fun y _ hj => ?_, fun e => ⟨fun hx => absurd rfl hx, fun hx => absurd e hx⟩, fun e => ⟨fun _ => e, fun _ => by decide⟩⟩
  obtain ⟨h32, h38⟩ := hy y hj
  rw [hb]
  refine ⟨32 ≤ c ∧ c ≤ 35, h32, 29 ≤ c ∧ c ≤ 31, h29, 26 ≤ c ∧ c ≤ 28, h26, 36 ≤ c ∧ c ≤ 37, fun e => ⟨fun e1 => h37 (bt8 e e1), fun e1 => h36 e1⟩, 23 ≤ c ∧ c ≤ 25, h23, h20, fun n20 => ⟨h21, fun n21 => ⟨h22, fun n22 => ⟨fun e => bt7 e (by decide), fun n23 => ⟨fun e => bt7 e (by decide), fun n24 => ⟨fun e => bt7 e (by decide), fun n25 => ⟨fun e => bt7 e (by decide), fun n26 => ⟨fun e => bt7 e (by decide), fun n27 => ⟨fun e => bt7 e (by decide), fun n28 => ⟨fun e => bt7 e (by decide), fun n29 => ⟨fun e => bt7 e (by decide), fun n30 => ⟨fun e => bt7 e (by decide), fun n31 => ⟨fun e => bt7 e (by decide), fun n32 => ⟨fun e => bt7 e (by decide), fun n33 => ⟨fun e => bt7 e (by decide), fun n34 => ⟨fun e => bt7 e (by decide), fun n35 => ⟨fun e => bt7 e (by decide), fun n36 => ⟨fun e => bt7 e (by decide), fun n37 => ⟨h38, fun n38 => by
    clear h20 h21 h22 h23 h26 h29 h36 h37 hy h32 h38
    omega⟩⟩⟩⟩⟩⟩⟩⟩⟩⟩⟩⟩⟩⟩⟩⟩⟩⟩⟩
theorem x7_open {c : Int} (hb : b.toInt = c) (hc : c = 20) (h : pk_X11_open w Q) : pk_X7_take b a w Q := x7_take hb (by omega) ⟨fun _ => h, fun e => by omega, fun e => by omega, fun e => by omega, fun e => by omega, fun e => by omega, fun e => by omega, fun e => by omega, fun _ _ => ⟨fun e => by omega, fun e => by omega⟩⟩
theorem x7_close {c : Int} (hb : b.toInt = c) (hc : c = 21) (h : pk_X11_close w Q) : pk_X7_take b a w Q := x7_take hb (by omega) ⟨fun e => by omega, fun _ => h, fun e => by omega, fun e => by omega, fun e => by omega, fun e => by omega, fun e => by omega, fun e => by omega, fun _ _ => ⟨fun e => by omega, fun e => by omega⟩⟩
theorem x7_disc {c : Int} (hb : b.toInt = c) (hc : c = 22) (h : pk_X2_pop w (fun _ s1 => pk_X0_emit (2 : Int32) (0 : Int32) (0 : Int32) (0 : Int32) s1 (fun _ s2 => Q s2))) : pk_X7_take b a w Q := x7_take hb (by omega) ⟨fun e => by omega, fun e => by omega, fun _ => h, fun e => by omega, fun e => by omega, fun e => by omega, fun e => by omega, fun e => by omega, fun _ _ => ⟨fun e => by omega, fun e => by omega⟩⟩
theorem x7_if {c : Int} (hb : b.toInt = c) (hc : 23 ≤ c ∧ c ≤ 25) (h : pk_X7_conditional b (atv 32100 (w 19) a) w Q) : pk_X7_take b a w Q := x7_take hb (by omega) ⟨fun e => by omega, fun e => by omega, fun e => by omega, fun _ => h, fun e => by omega, fun e => by omega, fun e => by omega, fun e => by omega, fun _ _ => ⟨fun e => by omega, fun e => by omega⟩⟩
theorem x7_while {c : Int} (hb : b.toInt = c) (hc : 26 ≤ c ∧ c ≤ 28) (h : pk_X7_whileLoop b (atv 32100 (w 19) a) w Q) : pk_X7_take b a w Q := x7_take hb (by omega) ⟨fun e => by omega, fun e => by omega, fun e => by omega, fun e => by omega, fun _ => h, fun e => by omega, fun e => by omega, fun e => by omega, fun _ _ => ⟨fun e => by omega, fun e => by omega⟩⟩
theorem x7_do {c : Int} (hb : b.toInt = c) (hc : 29 ≤ c ∧ c ≤ 31) (h : pk_X7_doLoop b (atv 32100 (w 19) a) w Q) : pk_X7_take b a w Q := x7_take hb (by omega) ⟨fun e => by omega, fun e => by omega, fun e => by omega, fun e => by omega, fun e => by omega, fun _ => h, fun e => by omega, fun e => by omega, fun _ _ => ⟨fun e => by omega, fun e => by omega⟩⟩
theorem x7_brk {c : Int} (hb : b.toInt = c) (hc : c = 36) (h : pk_X7_leave_r51 (atv 32100 (w 19) a) w Q) : pk_X7_take b a w Q := x7_take hb (by omega) ⟨fun e => by omega, fun e => by omega, fun e => by omega, fun e => by omega, fun e => by omega, fun e => by omega, fun _ => h, fun e => by omega, fun _ _ => ⟨fun e => by omega, fun e => by omega⟩⟩
theorem x7_cont {c : Int} (hb : b.toInt = c) (hc : c = 37) (h : pk_X7_leave_r52 (atv 32100 (w 19) a) w Q) : pk_X7_take b a w Q := x7_take hb (by omega) ⟨fun e => by omega, fun e => by omega, fun e => by omega, fun e => by omega, fun e => by omega, fun e => by omega, fun e => by omega, fun _ => h, fun _ _ => ⟨fun e => by omega, fun e => by omega⟩⟩
theorem x7_for {c : Int} (hb : b.toInt = c) (hc : 32 ≤ c ∧ c ≤ 35) (h : ∀ y : Int32, (y.toInt ≠ 0 ↔ (atv 32100 (w 20) a).toInt ≠ 0) → pk_X7_forLoop b (atv 32100 (w 19) a) y w Q) : pk_X7_take b a w Q := x7_take hb (by omega) ⟨fun e => by omega, fun e => by omega, fun e => by omega, fun e => by omega, fun e => by omega, fun e => by omega, fun e => by omega, fun e => by omega, fun y hy => ⟨fun _ => h y hy, fun e => by omega⟩⟩
theorem x7_ret {c : Int} (hb : b.toInt = c) (hc : c = 38) (h : ∀ y : Int32, (y.toInt ≠ 0 ↔ (atv 32100 (w 20) a).toInt ≠ 0) → pk_X7_giveBack (atv 32100 (w 19) a) y w Q) : pk_X7_take b a w Q := x7_take hb (by omega) ⟨fun e => by omega, fun e => by omega, fun e => by omega, fun e => by omega, fun e => by omega, fun e => by omega, fun e => by omega, fun e => by omega, fun y hy => ⟨fun e => by omega, fun _ => h y hy⟩⟩
end X7T
/-- what is open goes from O to O2; b: it is a loop -/
def OQq (O O2 : Nat) (b : Prop) (w s : St) : Prop := STw w s ∧ (s 9 5).toInt = (O2 : Int) ∧ (∀ i, i < O → i < O2 → s 49 i = w 49 i) ∧ (O < O2 → ((s 49 O).toInt ≠ 0 ↔ b))
section SAC
variable {w s r : St} {O O2 p q : Nat} {bb : Prop} {T : Int} {k ty h z f i : Int} {x : Int32} {Q : St → Prop}
theorem oq_k (hO : (w 9 5).toInt = (O : Int)) (k : Kp [(4, 1), (6, 3), (6, 4), (7, 7)] [24, 43, 50, 51, 52, 53, 54] w s) : OQq O O bb w s :=
  ⟨ko_sub (ko_kp k) rfl rfl, by rw [k 9 5 rfl rfl]; exact hO, fun i _ _ => k 49 i rfl rfl, fun h => absurd h (by omega)⟩
theorem oq_x {O1 : Nat} (h : OQq O O1 bb w s) (k : Kp [(4, 1), (6, 3), (6, 4), (7, 7)] [24, 43, 50, 51, 52, 53, 54] s r) : OQq O O1 bb w r :=
  ⟨ko_tr h.1 (ko_sub (ko_kp k) rfl rfl), by rw [k 9 5 rfl rfl]; exact h.2.1, fun i h1 h2 => (k 49 i rfl rfl).trans (h.2.2.1 i h1 h2), fun h1 => by rw [k 49 O rfl rfl]; exact h.2.2.2 h1⟩
theorem oq_0 (hO : (w 9 5).toInt = (O : Int)) (k : STx 0 w s) : OQq O O bb w s :=
  ⟨sw_x k, by rw [k.1 9 5 (op_lt (by omega)) rfl rfl]; exact hO, fun i _ _ => by rw [ko_rd k.1 49 (by omega) rfl (fun _ => rfl)], fun h => absurd h (by omega)⟩
theorem oq_tr {O1 : Nat} {b2 : Prop} (h : OQq O O1 bb w s) (g : OQq O1 O2 b2 s r) (hO : O = O1 ∧ (bb ↔ b2) ∨ O1 = O2 ∨ O1 = O + 1 ∧ O2 = O) : OQq O O2 bb w r := by
  obtain ⟨h1, h2, h3, h4⟩ := h
  obtain ⟨g1, g2, g3, g4⟩ := g
  refine ⟨ko_tr h1 g1, g2, fun i i1 i2 => ?_, fun hl => ?_⟩
  · have : i < O1 := by rcases hO with ⟨e, _⟩ | e | e <;> omega
    rw [g3 i this i2, h3 i i1 this]
  · rcases hO with ⟨e, e2⟩ | e | e
    · rw [e2, e]
      exact g4 (by omega)
    · rw [g3 O (by omega) hl]
      exact h4 (by omega)
    · omega
theorem oq_begin {b : Int32} (hO : (w 9 5).toInt = (O : Int)) (hO9 : O < 26) (hb : b.toInt ≠ 0 ↔ bb) (kk : ∀ s, OQq O (O + 1) bb w s → s 6 3 = w 6 3 → s 7 7 = w 7 7 → Q s) : pk_X7_begin b w Q :=
  xs_begin hO hO9 (fun s ks e h49 hn => kk s ⟨sw_k ks rfl rfl, by rw [e]; rfl, fun i h1 _ => h49 i (by omega), fun _ => hn.trans hb⟩ (ks 6 3 rfl rfl) (ks 7 7 rfl rfl))
theorem oq_finish (hO : (w 9 5).toInt = ((O + 1 : Nat) : Int)) (kk : ∀ s, OQq (O + 1) O bb w s → s 6 3 = w 6 3 → s 7 7 = w 7 7 → Q s) : pk_X7_finish w Q :=
  xs_finish (O := O) (by rw [hO]; rfl) (fun s ks e => kk s ⟨sw_k ks rfl rfl, e, fun i _ _ => ks 49 i rfl rfl, fun h => absurd h (by omega)⟩ (ks 6 3 rfl rfl) (ks 7 7 rfl rfl))
/-- behind a condition -/
def CQq (O O2 : Nat) (b : Prop) (T : Int) (w s : St) : Prop := OQq O O2 b w s ∧ (s 7 7).toInt = 0 ∧ ((s 6 3).toInt ≠ 0 ↔ T = -1)
/-- behind any other step -/
def NQq (O O2 : Nat) (b : Prop) (w s : St) : Prop := OQq O O2 b w s ∧ s 6 3 = w 6 3 ∧ s 7 7 = w 7 7
theorem sa_23 (hO : (w 9 5).toInt = (O : Int)) (hO9 : O < 26) (hc : (w 7 7).toInt = 1) (h0 : (w 6 3).toInt = 0) (hA : AVq w 65 k ty h z f x i) (hk : 0 ≤ k ∧ k ≤ 3) : SAq (stp 23 p) w (CQq O (O + 1) False ty w) := fun a b e0 e1 e2 => x7_if e0 (by simp [stp]) (by
  unfold pk_X7_conditional
  rw [e0]
  refine ⟨fun c => absurd rfl c, fun _ => xs_cond hc h0 hA hk (fun u s ks e7 e6 => ?_)⟩
  refine oq_begin (bb := False) (by rw [ks.1 9 5 (op_lt (by omega)) rfl rfl]; exact hO) hO9 ⟨fun c => absurd rfl c, False.elim⟩ (fun s2 o2 e62 e72 => xs_exit (fun s3 k3 => ⟨oq_x (oq_tr (oq_0 hO ks) o2 (Or.inl ⟨rfl, Iff.rfl⟩)) (kp_sub k3 rfl rfl), ?_, ?_⟩))
  · rw [k3 7 7 rfl rfl, e72]; exact e7
  · rw [k3 6 3 rfl rfl, e62]; exact e6)
theorem sa_24 (hO : (w 9 5).toInt = (O : Int)) : SAq (stp 24 p) w (NQq O O bb w) := fun a b e0 e1 e2 => x7_if e0 (by simp [stp]) (by
  unfold pk_X7_conditional
  rw [e0]
  refine ⟨fun _ => ⟨fun c => absurd rfl c, fun _ => xl_emit (fun v s ks => xl_aim (fun s2 k2 => ?_))⟩, fun c => absurd c (by simp [stp])⟩
  have kk : Kp [(4, 1)] [24, 51] w (upF s2 51 (setv 26 (s2 51) ((s2 9 5) - (1 : Int32)) v)) := kp_F (kp_sub (kp_tr ks k2) rfl rfl) rfl
  exact ⟨oq_k hO (kp_sub kk rfl rfl), kk 6 3 rfl rfl, kk 7 7 rfl rfl⟩)
theorem sa_25 (hO : (w 9 5).toInt = ((O + 1 : Nat) : Int)) : SAq (stp 25 p) w (NQq (O + 1) O bb w) := fun a b e0 e1 e2 => x7_if e0 (by simp [stp]) (by
  unfold pk_X7_conditional
  rw [e0]
  exact ⟨fun _ => ⟨fun _ => oq_finish hO (fun s o e6 e7 => ⟨o, e6, e7⟩), fun c => absurd c (by simp [stp])⟩, fun c => absurd c (by simp [stp])⟩)
theorem sa_26 (hO : (w 9 5).toInt = (O : Int)) (hO9 : O < 26) : SAq (stp 26 p) w (NQq O (O + 1) True w) := fun a b e0 e1 e2 => x7_while e0 (by simp [stp]) (by
  unfold pk_X7_whileLoop
  rw [e0]
  exact ⟨fun c => absurd rfl c, fun _ => oq_begin (bb := True) hO hO9 ⟨fun _ => trivial, fun _ => by decide⟩ (fun s o e6 e7 => ⟨o, e6, e7⟩)⟩)
theorem sa_27 (hO : (w 9 5).toInt = (O : Int)) (hc : (w 7 7).toInt = 1) (h0 : (w 6 3).toInt = 0) (hA : AVq w 65 k ty h z f x i) (hk : 0 ≤ k ∧ k ≤ 3) : SAq (stp 27 p) w (CQq O O bb ty w) := fun a b e0 e1 e2 => x7_while e0 (by simp [stp]) (by
  unfold pk_X7_whileLoop
  rw [e0]
  refine ⟨fun _ => ⟨fun c => absurd rfl c, fun _ => xs_cond hc h0 hA hk (fun u s ks e7 e6 => xs_exit (fun s2 k2 => xs_turn (fun s3 k3 => ?_)))⟩, fun c => absurd c (by simp [stp])⟩
  have kk : Kp [(4, 1)] [24, 51] s s3 := kp_tr k2 (kp_sub k3 rfl rfl)
  exact ⟨oq_x (oq_0 hO ks) (kp_sub kk rfl rfl), by rw [kk 7 7 rfl rfl]; exact e7, by rw [kk 6 3 rfl rfl]; exact e6⟩)
theorem sa_28 (hO : (w 9 5).toInt = ((O + 1 : Nat) : Int)) : SAq (stp 28 p) w (NQq (O + 1) O bb w) := fun a b e0 e1 e2 => x7_while e0 (by simp [stp]) (by
  unfold pk_X7_whileLoop
  rw [e0]
  refine ⟨fun _ => ⟨fun _ => xl_aim (fun s ks => xs_jump (fun s2 k2 => ?_)), fun c => absurd c (by simp [stp])⟩, fun c => absurd c (by simp [stp])⟩
  have kk : Kp [(4, 1)] [24] w s2 := kp_tr ks k2
  exact oq_finish (bb := bb) (by rw [kk 9 5 rfl rfl]; exact hO) (fun s3 o e6 e7 => ⟨oq_tr (oq_k (bb := bb) hO (kp_sub kk rfl rfl)) o (Or.inl ⟨rfl, Iff.rfl⟩), e6.trans (kk 6 3 rfl rfl), e7.trans (kk 7 7 rfl rfl)⟩))
theorem sa_29 (hO : (w 9 5).toInt = (O : Int)) (hO9 : O < 26) : SAq (stp 29 p) w (NQq O (O + 1) True w) := fun a b e0 e1 e2 => x7_do e0 (by simp [stp]) (by
  unfold pk_X7_doLoop
  rw [e0]
  exact ⟨fun c => absurd rfl c, fun _ => oq_begin (bb := True) hO hO9 ⟨fun _ => trivial, fun _ => by decide⟩ (fun s o e6 e7 => xs_turn (fun s2 k2 => ⟨oq_x o (kp_sub k2 rfl rfl), (k2 6 3 rfl rfl).trans e6, (k2 7 7 rfl rfl).trans e7⟩))⟩)
theorem sa_30 (hO : (w 9 5).toInt = (O : Int)) : SAq (stp 30 p) w (NQq O O bb w) := fun a b e0 e1 e2 => x7_do e0 (by simp [stp]) (by
  unfold pk_X7_doLoop
  rw [e0]
  exact ⟨fun _ => ⟨fun c => absurd rfl c, fun _ => xl_aim (fun s ks => ⟨oq_k hO (kp_sub ks rfl rfl), ks 6 3 rfl rfl, ks 7 7 rfl rfl⟩)⟩, fun c => absurd c (by simp [stp])⟩)
theorem sa_31 (hO : (w 9 5).toInt = ((O + 1 : Nat) : Int)) (hc : (w 7 7).toInt = 1) (h0 : (w 6 3).toInt = 0) (hA : AVq w 65 k ty h z f x i) (hk : 0 ≤ k ∧ k ≤ 3) : SAq (stp 31 p) w (CQq (O + 1) O bb ty w) := fun a b e0 e1 e2 => x7_do e0 (by simp [stp]) (by
  unfold pk_X7_doLoop
  rw [e0]
  refine ⟨fun _ => ⟨fun _ => xs_cond hc h0 hA hk (fun u s ks e7 e6 => xl_emit (fun v s2 k2 => ?_)), fun c => absurd c (by simp [stp])⟩, fun c => absurd c (by simp [stp])⟩
  have o2 := oq_x (oq_0 (bb := bb) hO ks) (kp_sub k2 rfl rfl)
  exact oq_finish (bb := bb) o2.2.1 (fun s3 o e63 e73 => ⟨oq_tr o2 o (Or.inl ⟨rfl, Iff.rfl⟩), by rw [e73, k2 7 7 rfl rfl]; exact e7, by rw [e63, k2 6 3 rfl rfl]; exact e6⟩))
theorem sa_32 (hO : (w 9 5).toInt = (O : Int)) (hO9 : O < 26) : SAq (stp 32 p) w (NQq O (O + 1) True w) := fun a b e0 e1 e2 => x7_for e0 (by simp [stp]) (fun y hy => by
  unfold pk_X7_forLoop
  rw [e0]
  exact ⟨fun c => absurd rfl c, fun _ => oq_begin (bb := True) hO hO9 ⟨fun _ => trivial, fun _ => by decide⟩ (fun s o e6 e7 => ⟨o, e6, e7⟩)⟩)
theorem sa_33 (hO : (w 9 5).toInt = (O : Int)) : SAq (33, p, 0, 0) w (NQq O O bb w) := fun a b e0 e1 e2 => x7_for e0 (by simp) (fun y hy => by
  have y0 : y.toInt = 0 := Decidable.byContradiction (fun c => (hy.1 c) e2)
  unfold pk_X7_forLoop
  rw [e0]
  refine ⟨fun _ => ⟨fun c => absurd rfl c, fun _ => ⟨fun s => s = w, fun s hs => ?_, fun _ => rfl, fun c => absurd y0 c⟩⟩, fun c => absurd c (by simp)⟩
  rw [hs]
  refine xl_emit (fun v s2 k2 => ?_)
  exact ⟨oq_k hO (kp_F (kp_F (kp_sub k2 rfl rfl) rfl) rfl), by rw [rdF_ne (by decide), rdF_ne (by decide)]; exact k2 6 3 rfl rfl, by rw [rdF_ne (by decide), rdF_ne (by decide)]; exact k2 7 7 rfl rfl⟩)
theorem sa_33c (hO : (w 9 5).toInt = (O : Int)) (hc : (w 7 7).toInt = 1) (h0 : (w 6 3).toInt = 0) (hA : AVq w 65 k ty h z f x i) (hk : 0 ≤ k ∧ k ≤ 3) : SAq (33, p, 1, 0) w (CQq O O bb ty w) := fun a b e0 e1 e2 => x7_for e0 (by simp) (fun y hy => by
  have y1 : y.toInt ≠ 0 := hy.2 (by rw [e2]; simp)
  unfold pk_X7_forLoop
  rw [e0]
  refine ⟨fun _ => ⟨fun c => absurd rfl c, fun _ => ⟨fun s => OQq O O bb w s ∧ (s 7 7).toInt = 0 ∧ ((s 6 3).toInt ≠ 0 ↔ ty = -1), fun s hs => ?_, fun c => absurd c y1, fun _ => ?_⟩⟩, fun c => absurd c (by simp)⟩
  · refine xl_emit (fun v s2 k2 => ?_)
    have kk : Kp [(4, 1)] [24, 53, 54] s (upF (upF s2 53 (setv 26 (s2 53) ((s 9 5) - (1 : Int32)) v)) 54 (setv 26 ((upF s2 53 (setv 26 (s2 53) ((s 9 5) - (1 : Int32)) v)) 54) ((s2 9 5) - (1 : Int32)) (s2 4 1))) := kp_F (kp_F (kp_sub k2 rfl rfl) rfl) rfl
    exact ⟨oq_x hs.1 (kp_sub kk rfl rfl), by rw [kk 7 7 rfl rfl]; exact hs.2.1, by rw [kk 6 3 rfl rfl]; exact hs.2.2⟩
  · refine xs_cond hc h0 hA hk (fun u s ks e7 e6 => xs_exit (fun s2 k2 => ⟨oq_x (oq_0 hO ks) (kp_sub k2 rfl rfl), ?_, ?_⟩))
    · rw [k2 7 7 rfl rfl]; exact e7
    · rw [k2 6 3 rfl rfl]; exact e6)
theorem sa_34 (hO : (w 9 5).toInt = (O : Int)) : SAq (stp 34 p) w (NQq O O bb w) := fun a b e0 e1 e2 => x7_for e0 (by simp [stp]) (fun y hy => by
  unfold pk_X7_forLoop
  rw [e0]
  refine ⟨fun _ => ⟨fun _ => ⟨fun c => absurd rfl c, fun _ => xs_jump (fun s ks => xl_aim (fun s2 k2 => xs_turn (fun s3 k3 => ?_)))⟩, fun c => absurd c (by simp [stp])⟩, fun c => absurd c (by simp [stp])⟩
  have kk : Kp [(4, 1)] [24] w s3 := kp_tr (kp_tr ks k2) k3
  exact ⟨oq_k hO (kp_sub kk rfl rfl), kk 6 3 rfl rfl, kk 7 7 rfl rfl⟩)
theorem sa_35 (hO : (w 9 5).toInt = ((O + 1 : Nat) : Int)) : SAq (stp 35 p) w (NQq (O + 1) O bb w) := fun a b e0 e1 e2 => x7_for e0 (by simp [stp]) (fun y hy => by
  unfold pk_X7_forLoop
  rw [e0]
  refine ⟨fun _ => ⟨fun _ => ⟨fun _ => xl_aim (fun s ks => xs_jump (fun s2 k2 => ?_)), fun c => absurd c (by simp [stp])⟩, fun c => absurd c (by simp [stp])⟩, fun c => absurd c (by simp [stp])⟩
  have kk : Kp [(4, 1)] [24] w s2 := kp_tr ks k2
  exact oq_finish (bb := bb) (by rw [kk 9 5 rfl rfl]; exact hO) (fun s3 o e6 e7 => ⟨oq_tr (oq_k (bb := bb) hO (kp_sub kk rfl rfl)) o (Or.inl ⟨rfl, Iff.rfl⟩), e6.trans (kk 6 3 rfl rfl), e7.trans (kk 7 7 rfl rfl)⟩))
/-- an expression's value is dropped -/
theorem sa_22 (hO : (w 9 5).toInt = (O : Int)) (hc : (w 7 7).toInt = 1) (hA : AVq w 65 k ty h z f x i) (hk : 0 ≤ k ∧ k ≤ 3) : SAq (stp 22 p) w (fun s => OQq O O bb w s ∧ s 6 3 = w 6 3 ∧ (s 7 7).toInt = 0) := fun a b e0 e1 e2 => x7_disc e0 (by simp [stp]) (xl_pop (j := 0) (by rw [hc]; rfl) (by omega) hA hk (fun s ks e6 e7 _ => xl_emit (fun v s2 k2 => ⟨oq_x (oq_0 hO ks) (kp_sub k2 rfl rfl), (k2 6 3 rfl rfl).trans e6, by rw [k2 7 7 rfl rfl]; exact e7⟩)))
end SAC
end

