/-! the class's grammar: parameters, heads of functions -/
section SHD
variable {kd vl : Nat → Int} {n p d w ty nm k t q : Nat} {σ0 σ s : St} {g : List Gsq} {l : List (Nat × Nat)} {x a1 a2 a3 a4 : Int32} {a : Stq}
/-- the row of parameters' names -/
def P23 (s : St) (l : List (Nat × Nat)) : Prop := ∀ (i : Nat) (y : Nat × Nat), l[i]? = some y → (s 23 i).toInt = (y.2 : Int)
theorem p23_k (h : P23 σ l) (e : s 23 = σ 23) : P23 s l := by
  unfold P23
  rw [e]
  exact h
theorem gu_expect {Q : St → Prop} (t0 : TKv σ0 kd vl n) (h : GTq kd n σ0 σ p g) (hx : 2 ≤ x.toInt) (k1 : kd p = x.toInt → ∀ s, GTq kd n σ0 s (p + 1) g → s 23 = σ 23 → Q s) (k0 : kd p ≠ x.toInt → ∀ s, GJq σ0 s → Q s) : pk_X3_expect x σ Q :=
  pg_expect (gt_tk t0 h) h.2.1 hx (fun s ks c gs => k1 c s (gt_k h (kg2 ks) gs (ks 3 9 rfl rfl)) (funext (fun j => ks 23 j rfl rfl))) (fun s ks c gs => k0 c s ⟨kp_tr h.1 (kg3 ks), gs⟩)
theorem gu_accept {Q : Int32 → St → Prop} (t0 : TKv σ0 kd vl n) (h : GTq kd n σ0 σ p g) (hx : 2 ≤ x.toInt) (k1 : kd p = x.toInt → ∀ s, GTq kd n σ0 s (p + 1) g → s 23 = σ 23 → Q 1 s) (k0 : kd p ≠ x.toInt → Q 0 σ) : pk_X3_accept x σ Q :=
  pg_accept (gt_tk t0 h) h.2.1 hx (fun s ks c gs => k1 c s (gt_k h (kg2 ks) gs (ks 3 9 rfl rfl)) (funext (fun j => ks 23 j rfl rfl))) k0
theorem gu_add {Q : Int32 → St → Prop} (h : GTq kd n σ0 σ p g) (hl : (lnq g : Int) ≤ 32090) (ha : a.1 ≠ 40) (he : (a1.toInt, a2.toInt, a3.toInt, a4.toInt) = (a.1, (a.2.1 : Int), a.2.2.1, a.2.2.2)) (k : ∀ v s, GTq kd n σ0 s p (g ++ [gq a]) → s 23 = σ 23 → Q v s) : pk_X3_add a1 a2 a3 a4 σ Q :=
  pg_add h.2.1 hl he (fun v s ks gs hv => k v s (gt_k h (kg4 ks) (by rw [flt_add ha]; exact gs) (ks 3 9 rfl rfl)) (funext (fun j => ks 23 j rfl rfl)))
theorem gu_stars {Q : Int32 → St → Prop} (t0 : TKv σ0 kd vl n) (h : GTq kd n σ0 σ p g) (k1 : ∀ (v : Int32) s t p1, SRq kd 5 p = some (t, p1) → v.toInt = (t : Int) → GTq kd n σ0 s p1 g → p ≤ p1 → t ≤ 5 → s 23 = σ 23 → Q v s) (k0 : ∀ v s, SRq kd 5 p = none → GJq σ0 s → Q v s) : pk_X3_stars σ Q :=
  pg_stars (gt_tk t0 h) h.2.1 (fun v s t p1 ks e hv gs hp ht => k1 v s t p1 e hv (gt_k h (kg2 ks) gs (ks 3 9 rfl rfl)) hp ht (funext (fun j => ks 23 j rfl rfl))) (fun v s ks e gb => k0 v s e ⟨kp_tr h.1 ks, gb⟩)
/-- one parameter -/
def pmE (kd : Nat → Int) (t q : Nat) : Option (Nat × Nat) := if kd (if kd q = 2 then q + 1 else q) = 24 then (if kd ((if kd q = 2 then q + 1 else q) + 1) = 25 then some ((if kd q = 2 then q + 1 else q) + 2, t + 1) else none) else some ((if kd q = 2 then q + 1 else q), t)
theorem pm_s (c : kd p = 5) (hs : SRq kd 5 (p + 1) = some (t, q)) : PMn kd (k + 1) p = (pmE kd t q).bind fun e => if kd e.1 = 26 then (PMn kd k (e.1 + 1)).bind fun r => some (r.1, (e.2, if kd q = 2 then q else e.1) :: r.2) else some (e.1, [(e.2, if kd q = 2 then q else e.1)]) := by
  rw [PMn, if_pos c, hs]
  rfl
theorem pm_n (c : kd p ≠ 5) : PMn kd k p = none := by
  cases k with
  | zero => rfl
  | succ k => rw [PMn, if_neg c]
theorem pm_s0 (c : kd p = 5) (hs : SRq kd 5 (p + 1) = none) : PMn kd k p = none := by
  cases k with
  | zero => rfl
  | succ k =>
    rw [PMn, if_pos c, hs]
    rfl
/-- parameters so far -/
def PMc (kd : Nat → Int) (p p1 : Nat) (l : List (Nat × Nat)) : Prop := l.length ≤ 8 ∧ PMn kd 8 p = (PMn kd (8 - l.length) p1).bind fun r => some (r.1, l ++ r.2)
theorem pmc_0 : PMc kd p p [] := ⟨by decide, by
  show PMn kd 8 p = (PMn kd 8 p).bind fun r => some (r.1, [] ++ r.2)
  cases PMn kd 8 p <;> rfl⟩
theorem pmc_n {p1 : Nat} (h : PMc kd p p1 l) (e : PMn kd (8 - l.length) p1 = none) : PMn kd 8 p = none := by rw [h.2, e]; rfl
theorem pmc_e {p1 : Nat} {e : Nat × Nat} (h : PMc kd p p1 l) (hl : l.length < 8) (c : kd p1 = 5) (hs : SRq kd 5 (p1 + 1) = some (t, q)) (he : pmE kd t q = some e) (n26 : kd e.1 ≠ 26) : PMn kd 8 p = some (e.1, l ++ [(e.2, if kd q = 2 then q else e.1)]) := by
  obtain ⟨j, hj⟩ : ∃ j, 8 - l.length = j + 1 := ⟨7 - l.length, by omega⟩
  rw [h.2, hj, pm_s c hs, he]
  show (if kd e.1 = 26 then _ else _ : Option (Nat × List (Nat × Nat))).bind _ = _
  rw [if_neg n26]
  rfl
theorem pmc_s {p1 : Nat} {e : Nat × Nat} (h : PMc kd p p1 l) (hl : l.length < 8) (c : kd p1 = 5) (hs : SRq kd 5 (p1 + 1) = some (t, q)) (he : pmE kd t q = some e) (c26 : kd e.1 = 26) : PMc kd p (e.1 + 1) (l ++ [(e.2, if kd q = 2 then q else e.1)]) := by
  obtain ⟨j, hj⟩ : ∃ j, 8 - l.length = j + 1 := ⟨7 - l.length, by omega⟩
  have el : (l ++ [(e.2, if kd q = 2 then q else e.1)]).length = l.length + 1 := by rw [List.length_append]; rfl
  refine ⟨by rw [el]; omega, ?_⟩
  rw [h.2, hj, pm_s c hs, he, el, show 8 - (l.length + 1) = j from by omega]
  show (if kd e.1 = 26 then _ else _ : Option (Nat × List (Nat × Nat))).bind _ = _
  rw [if_pos c26]
  cases PMn kd j (e.1 + 1) with
  | none => rfl
  | some r =>
    show some (r.1, l ++ ((e.2, if kd q = 2 then q else e.1) :: r.2)) = some (r.1, (l ++ [(e.2, if kd q = 2 then q else e.1)]) ++ r.2)
    rw [List.append_assoc]
    rfl
theorem pmc_n2 {p1 : Nat} (h : PMc kd p p1 l) (c : kd p1 = 5) (hs : SRq kd 5 (p1 + 1) = some (t, q)) (he : pmE kd t q = none) : PMn kd 8 p = none := by
  refine pmc_n h ?_
  cases hj : 8 - l.length with
  | zero => rfl
  | succ j =>
    rw [pm_s c hs, he]
    rfl
theorem gt_parameters {Q : Int32 → St → Prop} (t0 : TKv σ0 kd vl n) (h : GTq kd n σ0 σ p g)
    (k1 : ∀ x s p' l, PMn kd 8 p = some (p', l) → GTq kd n σ0 s p' g → x = nI (sgX l) → P23 s l → Tyq l → (1 ≤ l.length ∧ l.length ≤ 8 ∧ 2 * l.length ≤ p' - p + 1) → p < p' → Q x s) (k0 : ∀ x s, PMn kd 8 p = none → GJq σ0 s → Q x s) : pk_X3_parameters σ Q := by
  have h16 := t0.1.2.1
  unfold pk_X3_parameters
  refine ⟨fun x1 x2 x3 s => (∃ p1 l, GTq kd n σ0 s p1 g ∧ x2.toInt = (l.length : Int) ∧ x1 = nI (sgX l) ∧ P23 s l ∧ Tyq l ∧ l.length ≤ 8 ∧ p ≤ p1 ∧ ((x3.toInt = 1 ∧ PMc kd p p1 l ∧ 2 * l.length ≤ p1 - p) ∨ (x3.toInt = 0 ∧ 1 ≤ l.length ∧ PMn kd 8 p = some (p1, l) ∧ 2 * l.length ≤ p1 - p + 1 ∧ p < p1))) ∨ (x3.toInt = 0 ∧ GJq σ0 s ∧ PMn kd 8 p = none), ?_, ?_⟩
  · exact Or.inl ⟨p, [], h, rfl, rfl, (fun i y e => by cases i <;> cases e), fun y hy => absurd hy (by simp), by decide, Nat.le_refl _, Or.inl ⟨rfl, pmc_0, by show 2 * 0 ≤ _; omega⟩⟩
  rintro x1 x2 x3 s6 w3 hL
  refine ⟨x3.toInt = 0 ∨ 8 ≤ x2.toInt, fun hj => ⟨fun c => ?_, fun c => ?_⟩, fun c => Or.inr c, fun c8 => ⟨fun c => Or.inl c, fun c => ?_⟩⟩
  · rcases hL with ⟨p1, l, g6, e2, e1, h23, ht, hl, hpp, ⟨e3, _⟩ | ⟨_, hl1, hp, hb, hpp2⟩⟩ | ⟨_, j6, hn⟩
    · omega
    · exact k1 x1 s6 p1 l hp g6 e1 h23 ht ⟨hl1, hl, hb⟩ hpp2
    · exact k0 x1 s6 hn j6
  · rcases hL with ⟨p1, l, g6, e2, e1, h23, ht, hl, hpp, ⟨e3, hc, hb⟩ | ⟨e3, _⟩⟩ | ⟨e3, _⟩
    · refine gt_fail g6 (fun s105 j105 => k0 x1 s105 (pmc_n hc ?_) j105)
      rw [show 8 - l.length = 0 from by omega]
      rfl
    · omega
    · omega
  · rcases hL with ⟨p1, l, g6, e2, e1, h23, ht, hl, hpp, ⟨e3, hc, hb⟩ | ⟨e3, _⟩⟩ | ⟨e3, _⟩
    rotate_left
    · exact absurd e3 c
    · exact absurd e3 c
    have hl8 : l.length < 8 := by omega
    have hn1 := gt_n g6
    have jbody : ∀ s18, GJq σ0 s18 → PMn kd 8 p = none → ∀ v22 : Int32, ∀ c2 : Int32, pk_X3_accept (2 : Int32) s18 (fun v35 s35 => pk_X3_accept (24 : Int32) s35 (fun v43 s43 => ∃ J58 : Int32 → St → Prop, (∀ (x4_58 : Int32) (s58 : St), J58 x4_58 s58 → (∃ J77 : Int32 → Prop, (∀ (y2_77 : Int32), J77 y2_77 → (pk_X8_withParameter x1 x4_58 (upF s58 23 (setv 8 (s58 23) x2 y2_77)) (fun v83 => pk_X3_accept (26 : Int32) (upF s58 23 (setv 8 (s58 23) x2 y2_77)) (fun v90 s90 => (∃ p1 l, GTq kd n σ0 s90 p1 g ∧ (x2 + 1).toInt = (l.length : Int) ∧ v83 = nI (sgX l) ∧ P23 s90 l ∧ Tyq l ∧ l.length ≤ 8 ∧ p ≤ p1 ∧ ((v90.toInt = 1 ∧ PMc kd p p1 l ∧ 2 * l.length ≤ p1 - p) ∨ (v90.toInt = 0 ∧ 1 ≤ l.length ∧ PMn kd 8 p = some (p1, l) ∧ 2 * l.length ≤ p1 - p + 1 ∧ p < p1))) ∨ (v90.toInt = 0 ∧ GJq σ0 s90 ∧ PMn kd 8 p = none))))) ∧ ((v35.toInt = 0 → (J77 (s58 3 1))) ∧ (v35.toInt ≠ 0 → (J77 c2))))) ∧ ((v43.toInt = 0 → (J58 v22 s43)) ∧ (v43.toInt ≠ 0 → (pk_X3_expect (25 : Int32) s43 (fun s52 => J58 (v22 + 1) s52)))))) := fun s18 j18 hn v22 c2 =>
      gj_accept j18 (by decide) (gj_accept j18 (by decide) ⟨fun _ s => GJq σ0 s, fun x4 s58 j58 => ⟨fun _ => True, fun y77 _ => by
        unfold pk_X8_withParameter pk_X8_parameters
        exact gj_accept (gj_F j58 rfl) (by decide) (Or.inr ⟨rfl, gj_F j58 rfl, hn⟩), fun _ => trivial, fun _ => trivial⟩, fun _ => j18, fun c => absurd rfl c⟩)
    refine gu_expect t0 g6 (by decide) (fun c5 s18 g18 e18 => ?_) (fun c5 s18 j18 => gj_stars j18 (fun v22 => jbody s18 j18 (pmc_n hc (pm_n c5)) v22 (s18 3 1)))
    refine gu_stars t0 g18 (fun v22 s22 t q hs hv g22 hq ht5 e22 => ?_) (fun v22 s22 hs j22 => jbody s22 j22 (pmc_n hc (pm_s0 c5 hs)) v22 (s22 3 1))
    have hnq := gt_n g22
    have e22' : s22 23 = s6 23 := e22.trans e18
    -- behind the name
    have rest : ∀ (v35 : Int32) (s35 : St), (v35.toInt ≠ 0 ↔ kd q = 2) → GTq kd n σ0 s35 (if kd q = 2 then q + 1 else q) g → s35 23 = s6 23 → pk_X3_accept (24 : Int32) s35 (fun v43 s43 => ∃ J58 : Int32 → St → Prop, (∀ (x4_58 : Int32) (s58 : St), J58 x4_58 s58 → (∃ J77 : Int32 → Prop, (∀ (y2_77 : Int32), J77 y2_77 → (pk_X8_withParameter x1 x4_58 (upF s58 23 (setv 8 (s58 23) x2 y2_77)) (fun v83 => pk_X3_accept (26 : Int32) (upF s58 23 (setv 8 (s58 23) x2 y2_77)) (fun v90 s90 => (∃ p1 l, GTq kd n σ0 s90 p1 g ∧ (x2 + 1).toInt = (l.length : Int) ∧ v83 = nI (sgX l) ∧ P23 s90 l ∧ Tyq l ∧ l.length ≤ 8 ∧ p ≤ p1 ∧ ((v90.toInt = 1 ∧ PMc kd p p1 l ∧ 2 * l.length ≤ p1 - p) ∨ (v90.toInt = 0 ∧ 1 ≤ l.length ∧ PMn kd 8 p = some (p1, l) ∧ 2 * l.length ≤ p1 - p + 1 ∧ p < p1))) ∨ (v90.toInt = 0 ∧ GJq σ0 s90 ∧ PMn kd 8 p = none))))) ∧ ((v35.toInt = 0 → (J77 (s58 3 1))) ∧ (v35.toInt ≠ 0 → (J77 (s22 3 1)))))) ∧ ((v43.toInt = 0 → (J58 v22 s43)) ∧ (v43.toInt ≠ 0 → (pk_X3_expect (25 : Int32) s43 (fun s52 => J58 (v22 + 1) s52))))) := fun v35 s35 w35 g35 e35 => by
      have j58 : ∀ (x4 : Int32) s58, ((∃ e : Nat × Nat, pmE kd t q = some e ∧ x4.toInt = (e.2 : Int) ∧ e.2 ≤ 6 ∧ q ≤ e.1 ∧ GTq kd n σ0 s58 e.1 g ∧ s58 23 = s6 23) ∨ (GJq σ0 s58 ∧ PMn kd 8 p = none)) → (∃ J77 : Int32 → Prop, (∀ (y2_77 : Int32), J77 y2_77 → (pk_X8_withParameter x1 x4 (upF s58 23 (setv 8 (s58 23) x2 y2_77)) (fun v83 => pk_X3_accept (26 : Int32) (upF s58 23 (setv 8 (s58 23) x2 y2_77)) (fun v90 s90 => (∃ p1 l, GTq kd n σ0 s90 p1 g ∧ (x2 + 1).toInt = (l.length : Int) ∧ v83 = nI (sgX l) ∧ P23 s90 l ∧ Tyq l ∧ l.length ≤ 8 ∧ p ≤ p1 ∧ ((v90.toInt = 1 ∧ PMc kd p p1 l ∧ 2 * l.length ≤ p1 - p) ∨ (v90.toInt = 0 ∧ 1 ≤ l.length ∧ PMn kd 8 p = some (p1, l) ∧ 2 * l.length ≤ p1 - p + 1 ∧ p < p1))) ∨ (v90.toInt = 0 ∧ GJq σ0 s90 ∧ PMn kd 8 p = none))))) ∧ ((v35.toInt = 0 → (J77 (s58 3 1))) ∧ (v35.toInt ≠ 0 → (J77 (s22 3 1))))) := by
        rintro x4 s58 (⟨e, he, ex4, e6, hqe, g58, e58⟩ | ⟨j58, hn⟩)
        · have hne := gt_n g58
          refine ⟨fun y => y.toInt = ((if kd q = 2 then q else e.1 : Nat) : Int), fun y77 h77 => ?_, fun c => ?_, fun c => ?_⟩
          rotate_left
          · rw [if_neg (fun e => w35.2 e c)]
            exact gt_at g58
          · rw [if_pos (w35.1 c)]
            exact gt_at g22
          unfold pk_X8_withParameter pk_X8_parameters
          have ex : x4 = nI e.2 := ieq (by rw [ex4, nI_toInt (by omega)])
          have sw := sg_with (x := (e.2, if kd q = 2 then q else e.1)) hl8 ht e6
          have gF : GTq kd n σ0 (upF s58 23 (setv 8 (s58 23) x2 y77)) e.1 g := ⟨kp_tr g58.1 (kg_F rfl), gst_F g58.2.1 (by decide) (by
            obtain ⟨b1, b2⟩ := g58.2.1.2.2.2.2
            exact ⟨by rw [rdF_ne (by decide)]; exact b1, by rw [rdF_ne (by decide), rdF_ne (by decide), rdF_ne (by decide), rdF_ne (by decide)]; exact b2⟩), by rw [rdF_ne (by decide)]; exact g58.2.2⟩
          have hP : P23 (upF s58 23 (setv 8 (s58 23) x2 y77)) (l ++ [(e.2, if kd q = 2 then q else e.1)]) := fun i y hi => by
            rw [rdF_eq]
            have es : (setv 8 (s58 23) x2 y77) i = if i = l.length then y77 else s58 23 i := by rw [setv_at e2 hl8]
            rw [es, e58]
            rcases app_at hi with ⟨c, hi⟩ | ⟨c, hi⟩
            · rw [if_neg (by omega)]
              exact h23 i y hi
            · rw [if_pos c, h77, hi]
          have hT : Tyq (l ++ [(e.2, if kd q = 2 then q else e.1)]) := fun y hy => by
            rcases List.mem_append.mp hy with c | c
            · exact ht y c
            · rw [List.mem_singleton.mp c]
              exact e6
          have hlen : (l ++ [(e.2, if kd q = 2 then q else e.1)]).length = l.length + 1 := by rw [List.length_append]; rfl
          have e2' : (x2 + 1).toInt = ((l ++ [(e.2, if kd q = 2 then q else e.1)]).length : Int) := by rw [ad1 (by omega), e2, hlen]; rfl
          have ew : ((x1 + (16777216 : Int32)) ||| (x4 <<< (((3 : Int32) * ushr x1 (24 : Int32)) &&& 31))) = nI (sgX (l ++ [(e.2, if kd q = 2 then q else e.1)])) := by
            rw [e1, ex]
            exact sw
          generalize upF s58 23 (setv 8 (s58 23) x2 y77) = sF at gF hP
          refine gu_accept t0 gF (by decide) (fun c26 s90 g90 e90 => Or.inl ⟨e.1 + 1, _, g90, e2', ew, p23_k hP e90, hT, by rw [hlen]; omega, by omega, Or.inl ⟨rfl, pmc_s hc hl8 c5 hs he c26, by rw [hlen]; omega⟩⟩) (fun n26 => Or.inl ⟨e.1, _, gF, e2', ew, hP, hT, by rw [hlen]; omega, by omega, Or.inr ⟨rfl, by rw [hlen]; omega, pmc_e hc hl8 c5 hs he n26, by rw [hlen]; omega, by omega⟩⟩)
        · exact ⟨fun _ => True, fun y77 _ => by
            unfold pk_X8_withParameter pk_X8_parameters
            exact gj_accept (gj_F j58 rfl) (by decide) (Or.inr ⟨rfl, gj_F j58 rfl, hn⟩), fun _ => trivial, fun _ => trivial⟩
      have eq1 : q ≤ (if kd q = 2 then q + 1 else q) := by split <;> omega
      refine gu_accept t0 g35 (by decide) (fun c24 s43 g43 e43 => ⟨_, j58, fun c => absurd c (by decide), fun _ => ?_⟩) (fun n24 => ⟨_, j58, fun _ => Or.inl ⟨((if kd q = 2 then q + 1 else q), t), if_neg n24, hv, by show t ≤ 6; omega, eq1, g35, e35⟩, fun c => absurd rfl c⟩)
      refine gu_expect t0 g43 (by decide) (fun c25 s52 g52 e52 => Or.inl ⟨((if kd q = 2 then q + 1 else q) + 2, t + 1), (if_pos c24).trans (if_pos c25), by rw [ad1 (by omega), hv]; rfl, by show t + 1 ≤ 6; omega, by show q ≤ (if kd q = 2 then q + 1 else q) + 2; omega, g52, by rw [e52, e43, e35]⟩) (fun c25 s52 j52 => Or.inr ⟨j52, pmc_n2 hc c5 hs ((if_pos c24).trans (if_neg c25))⟩)
    refine gu_accept t0 g22 (by decide) (fun c2 s35 g35 e35 => rest 1 s35 ⟨fun _ => c2, fun _ => by decide⟩ (by rw [if_pos (show kd q = 2 from c2)]; exact g35) (e35.trans e22')) (fun n2 => rest 0 s22 ⟨fun c => absurd rfl c, fun c => absurd c n2⟩ (by rw [if_neg (show ¬ kd q = 2 from n2)]; exact g22) e22')
end SHD
