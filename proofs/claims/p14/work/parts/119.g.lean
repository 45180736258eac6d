section
/-! parameters: both sides -/
/-- where a function begins: S parameters are there -/
def PRq (kd : Nat → Int) (n S m lo : Nat) (res : Int) (w σ : St) : Prop := REq kd n S m lo w σ ∧ (w 7 7).toInt = 0 ∧ SCq S 1 w σ ∧ LCq S w σ ∧ (w 8 6).toInt = -1 ∧ (w 9 5).toInt = 0 ∧ (0 ≤ (w 6 6).toInt ∧ (atv 10100 (w 26) (w 6 6)).toInt = res) ∧ (w 45 0).toInt = 0 ∧ (w 6 10).toInt = (S : Int)
section PAR
variable {w s r σ σ' σ1 τ t : St} {kd vl : Nat → Int} {n S m lo d u Lc i : Nat} {vs z : List Nat} {a b ty v tk : Int32} {Q : St → Prop} {res rs k3 : Int} {l : List (Nat × Nat)} {x : Nat × Nat} {F0 : Prop}
theorem da_fun {name : Nat} {sg lk : Int} (h : ∀ a b c : Int32, a.toInt = (name : Int) → b.toInt = sg → c.toInt = lk → pk_X1_function a b c w Q) : DAq (47, name, sg, lk) w Q := fun a b e0 e1 e2 e3 => by
  have e0' : b.toInt = 47 := e0
  unfold pk_X1_take
  exact ⟨fun c => absurd (e0'.symm.trans c) (by decide), fun _ => ⟨fun c => absurd (e0'.symm.trans c) (by decide), fun _ => ⟨fun c => absurd (e0'.symm.trans c) (by decide), fun _ => ⟨fun c => absurd (e0'.symm.trans c) (by decide), fun _ => ⟨fun c => absurd (e0'.symm.trans c) (by decide), fun _ => ⟨fun _ => h _ _ _ e1 e2 e3, fun c => absurd e0' c⟩⟩⟩⟩⟩⟩
theorem da_par {name : Nat} {ty : Int} (h : ∀ a b : Int32, a.toInt = (name : Int) → b.toInt = ty → pk_X1_parameter a b w Q) : DAq (48, name, ty, 0) w Q := fun a b e0 e1 e2 e3 => by
  have e0' : b.toInt = 48 := e0
  unfold pk_X1_take
  exact ⟨fun c => absurd (e0'.symm.trans c) (by decide), fun _ => ⟨fun c => absurd (e0'.symm.trans c) (by decide), fun _ => ⟨fun c => absurd (e0'.symm.trans c) (by decide), fun _ => ⟨fun c => absurd (e0'.symm.trans c) (by decide), fun _ => ⟨fun c => absurd (e0'.symm.trans c) (by decide), fun _ => ⟨fun c => absurd (e0'.symm.trans c) (by decide), fun _ => ⟨fun _ => h _ _ e1 e2, fun c => absurd e0' c⟩⟩⟩⟩⟩⟩⟩
theorem da_end {name : Nat} (h : pk_X1_functionEnd w Q) : DAq (stp 49 name) w Q := fun a b e0 e1 e2 e3 => by
  have e0' : b.toInt = 49 := e0
  unfold pk_X1_take
  exact ⟨fun c => absurd (e0'.symm.trans c) (by decide), fun _ => ⟨fun c => absurd (e0'.symm.trans c) (by decide), fun _ => ⟨fun c => absurd (e0'.symm.trans c) (by decide), fun _ => ⟨fun c => absurd (e0'.symm.trans c) (by decide), fun _ => ⟨fun c => absurd (e0'.symm.trans c) (by decide), fun _ => ⟨fun c => absurd (e0'.symm.trans c) (by decide), fun _ => ⟨fun c => absurd (e0'.symm.trans c) (by decide), fun _ => h⟩⟩⟩⟩⟩⟩⟩
theorem mr_declareLocal {Q : Int32 → St → St → List Nat → Prop} (h49 : (σ 0 49).toInt = (Lc : Int)) (hl : Lc < 100) (kk : ∀ v s, Kp [(0, 49)] [31, 32, 33] σ s → v.toInt = (Lc : Int) → (s 0 49).toInt = (Lc : Int) + 1 → (∀ j, s 31 j = if j = Lc then b else σ 31 j) → (∀ j, s 32 j = if j = Lc then -1 else σ 32 j) → Q v s τ vs) : pp_declareLocal a b σ τ vs Q := by
  unfold pp_declareLocal
  have en : (σ 0 49).toNatClampNeg = Lc := nat_of h49
  rw [en]
  refine ⟨fun _ _ _ _ => kk _ _ (kp_f (kp_a (kp_a (kp_a kp_rf rfl) rfl) rfl) rfl) ?_ ?_ (fun j => ?_) (fun j => ?_), fun c => by omega⟩
  · rw [sb1 (by rw [ad1 (by omega)]; omega), ad1 (by omega), h49]; omega
  · rw [rdA_eq rfl, ad1 (by omega), h49]
  · rw [rdC_ne (by decide), rdC_ne (by decide), rdC_ne (by decide), rdC_eq]
  · rw [rdC_ne (by decide), rdC_ne (by decide), rdC_eq, rdC_ne (by decide)]
theorem mr_heldHere1 {d : Nat} {Q : Int32 → Prop} (ha : a.toInt = (u : Int)) (tu : TNm σ u) (hS : LOKm σ S) (h54 : (σ 0 54).toInt = (d : Int)) (kk : ∀ v : Int32, (v.toInt ≠ 0 ↔ HHm σ S d u) → Q v) : pp_isHeldHere a σ τ vs Q := mr_heldHere ha tu hS h54 (fun hh => kk 1 ⟨fun _ => hh, fun _ => by decide⟩) (fun hh => kk 0 ⟨fun h => absurd rfl h, fun h => absurd h hh⟩)
/-- the reference: a local that nobody names -/
theorem rg_loc1 (hG : RGs kd vl n S m lo d σ) (hSL : S ≤ Lc) (hl : Lc < 100) (hty : 0 ≤ ty.toInt ∧ ty.toInt ≤ 8) (kr : Kp [(0, 12), (0, 13), (0, 49)] [31, 32, 33] σ σ') (h12 : 0 ≤ (σ' 0 12).toInt) (g49 : (σ' 0 49).toInt = (Lc : Int) + 1) (g31 : ∀ j, σ' 31 j = if j = Lc then ty else σ 31 j) : RGs kd vl n S m lo d σ' := by
  obtain ⟨⟨h1, h2, h3, h4, h5, h6, h7, h8, h9, h10, h11, _⟩, q2, q3, q4, q5⟩ := hG
  have gs : ∀ c, c ≠ 0 → c ≠ 31 → c ≠ 32 → c ≠ 33 → σ' c = σ c := fun c h0 h1 h2 h3 => funext (fun j => kr c j (by
    simp only [List.contains_cons, List.contains_nil, Bool.or_false, Bool.or_eq_false_iff, beq_eq_false_iff_ne, ne_eq, Prod.mk.injEq, not_and]
    omega) (by
    simp only [List.contains_cons, List.contains_nil, Bool.or_false, Bool.or_eq_false_iff, beq_eq_false_iff_ne, ne_eq]
    omega))
  have g2 := gs 2 (by decide) (by decide) (by decide) (by decide)
  have g3 := gs 3 (by decide) (by decide) (by decide) (by decide)
  have g4 := gs 4 (by decide) (by decide) (by decide) (by decide)
  have g6 := gs 6 (by decide) (by decide) (by decide) (by decide)
  have g9 := gs 9 (by decide) (by decide) (by decide) (by decide)
  have g10 := gs 10 (by decide) (by decide) (by decide) (by decide)
  have g15 := gs 15 (by decide) (by decide) (by decide) (by decide)
  have g16 := gs 16 (by decide) (by decide) (by decide) (by decide)
  have g18 := gs 18 (by decide) (by decide) (by decide) (by decide)
  have g19 := gs 19 (by decide) (by decide) (by decide) (by decide)
  have g22 := gs 22 (by decide) (by decide) (by decide) (by decide)
  have g34 := gs 34 (by decide) (by decide) (by decide) (by decide)
  have g35 := gs 35 (by decide) (by decide) (by decide) (by decide)
  refine ⟨⟨?_, ?_, ?_, ?_, ?_, h6, ⟨fun j => ?_, fun j hj => ?_⟩, ?_, ?_, ?_, ?_, h12⟩, by rw [kr 0 54 rfl rfl]; exact q2, ⟨Lc + 1, by rw [g49]; rfl, by omega, by omega⟩, by rw [kr 0 15 rfl rfl]; exact q4, by rw [g6]; exact q5⟩
  · unfold RTk at h1 ⊢; rw [g2]; exact h1
  · unfold TNm at h2 ⊢; rw [g3, g4]; exact h2
  · rw [g6]; exact h3
  · unfold LOKm TNm mtk at h4 ⊢; rw [g3, g4, g34, kr 0 53 rfl rfl]; exact h4
  · unfold EOKm at h5 ⊢; rw [g18, g19, g22, kr 0 35 rfl rfl, kr 0 36 rfl rfl, kr 0 31 rfl rfl]; exact h5
  · rw [g31]
    by_cases cj : j = Lc
    · rw [if_pos cj]; omega
    · rw [if_neg cj]; exact h7.1 j
  · rw [g31, g35]
    by_cases cj : (σ 35 j).toInt.toNat = Lc
    · rw [if_pos cj]; omega
    · rw [if_neg cj]; exact h7.2 j hj
  · rw [g10]; exact h8
  · rw [g35]; exact h9
  · rw [g9, g10, g15, g16]; exact h10
  · rw [kr 0 37 rfl rfl]; exact h11
/-- both sides, a parameter more -/
theorem pr_more (hP : PRq kd n S m lo res w σ) (hE : REq kd n (S + 1) m lo s σ') (hS : S < 100)
    (kw : Kp [(6, 10), (6, 15)] [40, 41, 42, 43, 44] w s) (f10 : (s 6 10).toInt = (S : Int) + 1) (f44 : ∀ j, s 44 j = if j = S then w 6 10 else w 44 j)
    (kr : Kp [(0, 12), (0, 13), (0, 49), (0, 53), (0, 17), (0, 10)] [8, 31, 32, 33, 34, 35, 36] σ σ') (g49 : (σ' 0 49).toInt = (S : Int) + 1) (g36 : ∀ j, σ' 36 j = if j = S then σ 0 54 else σ 36 j) : PRq kd n (S + 1) m lo res s σ' := by
  obtain ⟨_, h77, ⟨c1, c2, c3, c4⟩, ⟨Lc', l1, l2, l3, l4, l5⟩, h86, h95, h66, h45, h10⟩ := hP
  have k45 : s 45 = w 45 := funext (fun j => kw 45 j rfl rfl)
  have k26 : s 26 = w 26 := funext (fun j => kw 26 j rfl rfl)
  have eL : Lc' = S := by omega
  rw [eL] at l5
  refine ⟨hE, by rw [kw 7 7 rfl rfl]; exact h77, ⟨by rw [kw 6 17 rfl rfl]; exact c1, by rw [kr 0 54 rfl rfl]; exact c2, fun i hi => ?_, fun j hj => ?_⟩, ⟨S + 1, by rw [f10]; rfl, by rw [g49]; rfl, Nat.le_refl _, by omega, fun j hj => ?_⟩, by rw [kw 8 6 rfl rfl]; exact h86, by rw [kw 9 5 rfl rfl]; exact h95, by rw [kw 6 6 rfl rfl, k26]; exact h66, by rw [k45]; exact h45, by rw [f10]; rfl⟩
  · rw [k45]
    obtain ⟨i0, i1, i2⟩ := c3 i hi
    refine ⟨i0, by omega, fun j hj => ?_⟩
    rw [g36]
    by_cases cj : j = S
    · rw [if_pos cj, c2, cj]
      exact ⟨fun _ => by omega, fun _ => i1⟩
    · rw [if_neg cj]
      exact i2 j (by omega)
  · rw [g36]
    by_cases cj : j = S
    · rw [if_pos cj, c2]
      omega
    · rw [if_neg cj]
      exact c4 j (by omega)
  · rw [f44]
    by_cases cj : j = S
    · rw [if_pos cj, h10]
      omega
    · rw [if_neg cj]
      have := l5 j (by omega)
      omega
/-- the class's step of a parameter that is named -/
theorem xp_named (hP : PRq kd n S m lo res w σ) (hS : S < 100) (ha : a.toInt = (u : Int)) (hu : u ≤ n) (ku : kd u = 2) (hf : (w 6 3).toInt = 0) (k1 : HHm σ S 1 u → ∀ s, (s 6 3).toInt ≠ 0 → Q s) (k0 : ¬ HHm σ S 1 u → ∀ s, Kp [(6, 10), (6, 15)] [40, 41, 42, 43, 44] w s → (s 6 10).toInt = (S : Int) + 1 → (s 6 15).toInt = (S : Int) + 1 → (∀ j, s 40 j = if j = S then a else w 40 j) → (∀ j, s 41 j = if j = S then b else w 41 j) → (∀ j, s 42 j = if j = S then -1 else w 42 j) → (∀ j, s 44 j = if j = S then w 6 10 else w 44 j) → Q s) : pk_X1_parameter a b w Q := by
  obtain ⟨hE, h77, hC, hL, h86, h95, h66, h45, h10⟩ := hP
  have hn := hE.1.1.1
  have hh := held_alike hE.1 hE.2.1 hC (Nat.le_refl 1) hu ku
  rw [show (w 45 (1 - 1)).toInt.toNat = 0 from by show (w 45 0).toInt.toNat = 0; rw [h45]; rfl] at hh
  have e13 : (atv 16002 (w 13) a).toInt = 2 := by rw [atv_at ha (by omega), hE.1.2.1 u hu]; exact ku
  unfold pk_X1_parameter
  refine ⟨HHm σ S 1 u, fun hj => xl_fail (by decide) (fun s _ h => k1 hj s h), fun c => absurd e13 c, fun _ => xl_localFrom (S := S) (lo := 0) (u := u) rfl ha (tn_class hE.1 (by omega) hu ku) (lo_class hE.1 hE.2.1) (fun v hv => ?_)⟩
  have nh : v.toInt < 0 ↔ ¬ HHm σ S 1 u := by
    rw [← hh]
    rcases hv with ⟨j, j1, j2, j3, j4, j5⟩ | ⟨j1, j2⟩
    · have := (hE.2.1.2.2.2.1 j j2).2.1
      exact ⟨fun h => by omega, fun h => absurd ⟨j, j1, j2, j3⟩ h⟩
    · exact ⟨fun _ ⟨j, q1, q2, q3⟩ => j1 j q1 q2 q3, fun _ => by omega⟩
  exact ⟨fun c => xl_declareLocal (Lc := S) (S := S) h10 hS hE.2.1.1 hS (fun s ks f10 f15 f40 f41 f42 f44 => k0 (nh.1 c) s ks f10 f15 f40 f41 f42 f44), fun c => Classical.byContradiction (fun h => by have := nh.2 h; omega)⟩
/-- the class's step of a parameter without a name -/
theorem xp_no (hE : REq kd n S m lo w σ) (ha : a.toInt = (u : Int)) (hu : u ≤ n) (ku : kd u ≠ 2) (k1 : ∀ s, (s 6 3).toInt ≠ 0 → Q s) : pk_X1_parameter a b w Q := by
  have hn := hE.1.1.1
  have e13 : (atv 16002 (w 13) a).toInt ≠ 2 := by rw [atv_at ha (by omega), hE.1.2.1 u hu]; exact ku
  unfold pk_X1_parameter
  exact ⟨True, fun _ => xl_fail (by decide) (fun s _ h => k1 s h), fun _ => trivial, fun c => absurd c e13⟩
def pml (l : List (Nat × Nat)) : List Gsq := l.map (fun x => gq (48, x.2, (x.1 : Int), 0))
/-- the walk over the first i parameters -/
def PWq (kd : Nat → Int) (n m lo : Nat) (res : Int) (l : List (Nat × Nat)) (i S : Nat) (σ σ' : St) : Prop := (σ 0 12).toInt = 0 → ∀ w, PRq kd n 0 m lo res w σ → (w 6 3).toInt = 0 → GWq (pml (l.take i)) w (fun s => ((s 6 3).toInt ≠ 0 → (σ' 0 12).toInt ≠ 0) ∧ ((s 6 3).toInt = 0 → (σ' 0 12).toInt = 0 ∧ S = i ∧ PRq kd n i m lo res s σ')) ((σ' 0 12).toInt ≠ 0)
theorem tk_s (h : l[i]? = some x) : l.take (i + 1) = l.take i ++ [x] := by rw [List.take_succ, h]; rfl
theorem pml_s (h : l[i]? = some x) : pml (l.take (i + 1)) = pml (l.take i) ++ [gq (48, x.2, (x.1 : Int), 0)] := by
  unfold pml
  rw [tk_s h, List.map_append]
  rfl
theorem pw_0 : PWq kd n m lo res l 0 0 σ σ := fun h0 w hP hf => ⟨fun hx => absurd hf hx, fun _ => ⟨h0, rfl, hP⟩⟩
/-- what stands at an index of a head's rows -/
theorem es_params {K : St → St → List Nat → Prop} (hH : HRq kd n σ l) (hG : RGs kd vl n 0 m lo 1 σ) (h49 : (σ 0 49).toInt = 0)
    (kk : ∀ s S, Kp [(0, 12), (0, 13), (0, 49), (0, 53), (0, 17)] [8, 31, 32, 33, 34, 35, 36] σ s → RGs kd vl n S m lo 1 s → MNq σ s → S ≤ l.length → PWq kd n m lo res l l.length S σ s → K s τ vs) :
    ∃ L235 : Int32 → St → St → List Nat → Prop, (L235 (0 : Int32) σ τ vs) ∧ ∀ (x6_235 : Int32) (s235 t235 : St) (z235 : List Nat), L235 x6_235 s235 t235 z235 → (((s235 0 64).toInt ≤ x6_235.toInt → K s235 t235 z235) ∧ (x6_235.toInt < (s235 0 64).toInt → ((0 ≤ x6_235.toInt ∧ x6_235.toInt < 8) → (∃ J351 : St → St → List Nat → Prop, (∀ (s351 t351 : St) (z351 : List Nat), J351 s351 t351 z351 → (L235 (x6_235 + 1) s351 t351 z351)) ∧ ((0 ≤ (s235 38 x6_235.toNatClampNeg).toInt → ((0 ≤ x6_235.toInt ∧ x6_235.toInt < 8) → (pp_isHeldHere (s235 38 x6_235.toNatClampNeg) s235 t235 z235 (fun v297 => ∃ J308 : Int32 → Prop, (∀ (y1_308 : Int32), y1_308 = 0 ∨ y1_308 = 1 → (J308 y1_308 → ((0 ≤ x6_235.toInt ∧ x6_235.toInt < 8) → (pp_must y1_308 (s235 38 x6_235.toNatClampNeg) s235 t235 z235 (fun s315 t315 z315 => (0 ≤ x6_235.toInt ∧ x6_235.toInt < 8) → ((0 ≤ x6_235.toInt ∧ x6_235.toInt < 8) → (pp_declareLocal (s315 38 x6_235.toNatClampNeg) (s315 37 x6_235.toNatClampNeg) s315 t315 z315 (fun v333 s333 t333 z333 => (0 ≤ x6_235.toInt ∧ x6_235.toInt < 8) → (pp_hold (s333 38 x6_235.toNatClampNeg) v333 s333 t333 z333 (fun s348 t348 z348 => J351 s348 t348 z348)))))))))) ∧ ((v297.toInt ≠ 0 → (J308 (0 : Int32))) ∧ (v297.toInt = 0 → (J308 (1 : Int32)))))))) ∧ ((s235 38 x6_235.toNatClampNeg).toInt < 0 → ((0 ≤ x6_235.toInt ∧ x6_235.toInt < 8) → (pp_tell (2 : Int32) (s235 39 x6_235.toNatClampNeg) s235 t235 z235 (fun s263 t263 z263 => (0 ≤ x6_235.toInt ∧ x6_235.toInt < 8) → ((0 ≤ x6_235.toInt ∧ x6_235.toInt < 8) → (pp_declareLocal (s263 39 x6_235.toNatClampNeg) (s263 37 x6_235.toNatClampNeg) s263 t263 z263 (fun v281 s281 t281 z281 => J351 s281 t281 z281)))))))))))) := by
  obtain ⟨hh1, hh2, hh3⟩ := hH
  refine ⟨fun x s t z => t = τ ∧ z = vs ∧ ∃ i S : Nat, x.toInt = (i : Int) ∧ i ≤ l.length ∧ Kp [(0, 12), (0, 13), (0, 49), (0, 53), (0, 17)] [8, 31, 32, 33, 34, 35, 36] σ s ∧ RGs kd vl n S m lo 1 s ∧ (s 0 49).toInt = (i : Int) ∧ S ≤ i ∧ MNq σ s ∧ (∀ j, j < S → (s 36 j).toInt = 1) ∧ PWq kd n m lo res l i S σ s, ⟨rfl, rfl, 0, 0, rfl, Nat.zero_le _, kp_rf, hG, by rw [h49]; rfl, Nat.le_refl 0, id, fun j hj => absurd hj (Nat.not_lt_zero j), pw_0⟩, ?_⟩
  rintro xx s t z ⟨et, ez, i, S, hx, hi, ks, hGs, e49, hSi, hm, h36, hw⟩
  rw [et, ez]
  have f64 : (s 0 64).toInt = (l.length : Int) := by rw [ks 0 64 rfl rfl]; exact hh1
  have nx : xx.toNatClampNeg = i := nat_of hx
  have h15 : (s 0 15).toInt = 0 := hGs.2.2.2.1
  have h54 : (s 0 54).toInt = ((1 : Nat) : Int) := hGs.2.1
  have h0 := rgq_0 hGs.1
  rw [f64, nx]
  refine ⟨fun c => ?_, fun c r => ?_⟩
  · have ei : i = l.length := by omega
    rw [ei] at hw
    exact kk s S ks hGs hm (by omega) hw
  obtain ⟨x, hxl⟩ := l_at (l := l) (k := i) (by omega)
  obtain ⟨p1, p2, p3, p4, p5⟩ := hh3 i x hxl
  have e38 : s 38 i = σ 38 i := ks 38 i rfl rfl
  have e37 : s 37 i = σ 37 i := ks 37 i rfl rfl
  have ex1 : (xx + 1).toInt = ((i + 1 : Nat) : Int) := by show (xx + (1 : Int32)).toInt = _; rw [ad1 (by omega), hx]; rfl
  rw [e38]
  refine ⟨fun s' t' z' => t' = τ ∧ z' = vs ∧ ∃ S' : Nat, Kp [(0, 12), (0, 13), (0, 49), (0, 53), (0, 17)] [8, 31, 32, 33, 34, 35, 36] σ s' ∧ RGs kd vl n S' m lo 1 s' ∧ (s' 0 49).toInt = ((i + 1 : Nat) : Int) ∧ S' ≤ i + 1 ∧ MNq σ s' ∧ (∀ j, j < S' → (s' 36 j).toInt = 1) ∧ PWq kd n m lo res l (i + 1) S' σ s', ?_, fun c38 _ => ?_, fun c38 _ => ?_⟩
  · rintro s' t' z' ⟨et', ez', S', g1, g2, g3, g4, g5, g6, g7⟩
    exact ⟨et', ez', i + 1, S', ex1, by omega, g1, g2, g3, g4, g5, g6, g7⟩
  · have k2 : kd x.2 = 2 := Decidable.byContradiction (fun h => by have := p5 h; omega)
    have e2 := p4 k2
    have tu : TNm s x.2 := hGs.1.2.1 x.2 p3 k2
    have hlok := hGs.1.2.2.2.1
    refine mr_heldHere1 e2 tu hlok h54 (fun v297 hv => ?_)
    · skip
      refine ⟨fun y => y.toInt = 0 ↔ HHm s S 1 x.2, fun y _ hy _ => mr_must h0 (fun s315 k315 f315 _ _ => ?_), fun c => ⟨fun _ => hv.1 c, fun _ => rfl⟩, fun c => ⟨fun h => absurd h (by decide), fun h => absurd c (hv.2 h)⟩⟩
      have ff : FTq s s315 (HHm s S 1 x.2) := ft_iff f315 hy
      have e315 : s315 38 i = σ 38 i := (k315 38 i rfl rfl).trans e38
      have e315b : s315 37 i = σ 37 i := (k315 37 i rfl rfl).trans e37
      rw [e315, e315b]
      refine mr_declareLocal (Lc := i) (by rw [k315 0 49 rfl rfl]; exact e49) (by omega) (fun v333 s333 k333 hv333 g49 g31 g32 _ => ?_)
      have e333 : s333 38 i = σ 38 i := (k333 38 i rfl rfl).trans e315
      rw [e333]
      refine mr_hold (S := S) (by rw [k333 0 53 rfl rfl, k315 0 53 rfl rfl]; exact hlok.1) (by omega) (fun s348 k348 f53 f34 f35 f36 => ?_)
      have kr : Kp [(0, 12), (0, 13), (0, 49), (0, 53), (0, 17), (0, 10)] [8, 31, 32, 33, 34, 35, 36] s s348 := kp_tr (kp_sub k315 rfl rfl) (kp_tr (kp_sub k333 rfl rfl) (kp_sub k348 rfl rfl))
      have ks' : Kp [(0, 12), (0, 13), (0, 49), (0, 53), (0, 17)] [8, 31, 32, 33, 34, 35, 36] σ s348 := kp_tr ks (kp_tr (kp_sub k315 rfl rfl) (kp_tr (kp_sub k333 rfl rfl) (kp_sub k348 rfl rfl)))
      have e12 : s348 0 12 = s315 0 12 := by rw [k348 0 12 rfl rfl, k333 0 12 rfl rfl]
      have q31 : ∀ j, s348 31 j = if j = i then σ 37 i else s 31 j := fun j => by rw [k348 31 j rfl rfl, g31, k315 31 j rfl rfl]
      have q32 : ∀ j, s348 32 j = if j = i then -1 else s 32 j := fun j => by rw [k348 32 j rfl rfl, g32, k315 32 j rfl rfl]
      have q34 : ∀ j, s348 34 j = if j = S then σ 38 i else s 34 j := fun j => by rw [f34, k333 34 j rfl rfl, k315 34 j rfl rfl]
      have q35 : ∀ j, s348 35 j = if j = S then v333 else s 35 j := fun j => by rw [f35, k333 35 j rfl rfl, k315 35 j rfl rfl]
      have q36 : ∀ j, s348 36 j = if j = S then s 0 54 else s 36 j := fun j => by rw [f36, k333 36 j rfl rfl, k315 36 j rfl rfl, k333 0 54 rfl rfl, k315 0 54 rfl rfl]
      have q49 : (s348 0 49).toInt = (i : Int) + 1 := by rw [k348 0 49 rfl rfl]; exact g49
      have ftF : FTq s s348 (HHm s S 1 x.2) := ft_k ff e12
      refine ⟨rfl, rfl, S + 1, ks', rg_more hGs (by omega) (by omega) e49 hSi (by omega) p3 k2 e2 hv333 kr ftF.1 q49 f53 q31 q34 q35, by rw [q49]; rfl, by omega, fun hx => ftF.2.2 (Or.inl (hm hx)), fun j hj => ?_, ?_⟩
      · rw [q36]
        by_cases cj : j = S
        · rw [if_pos cj]; exact h54
        · rw [if_neg cj]; exact h36 j (by omega)
      · intro hz w hP hf
        rw [pml_s hxl]
        have mn : MNq s s348 := fun hx => ftF.2.2 (Or.inl hx)
        refine gv_app (gv_mono (hw hz w hP hf) (fun w1 hw1 => ?_) mn)
        by_cases c0 : (w1 6 3).toInt = 0
        · obtain ⟨n0, eS, hP1⟩ := hw1.2 c0
          rw [eS] at ftF q34 q35 q36 f53
          refine gv_d (x := (48, x.2, (x.1 : Int), 0)) (by simp) (fun _ => da_par (fun a b ea eb => xp_named hP1 (by omega) ea p3 k2 c0 (fun hh w2 h63 => ?_) (fun nh w2 k2w f10 f15 f40 f41 f42 f44 => ?_))) (fun hx => absurd c0 hx)
          · have : (s348 0 12).toInt ≠ 0 := ftF.2.2 (Or.inr ⟨hh, by omega⟩)
            exact ⟨fun _ => this, fun hx => absurd hx h63⟩
          · have nf : (s348 0 12).toInt = 0 := Decidable.byContradiction (fun hx => (ftF.2.1 hx).elim (fun h => h n0) (fun h => nh h.1))
            have ea' : a = σ 38 i := ieq (by rw [ea, e2])
            have eb' : b = σ 37 i := ieq (by rw [eb, p1])
            rw [ea'] at f40
            rw [eb'] at f41
            have e63 : (w2 6 3).toInt = 0 := by rw [k2w 6 3 rfl rfl]; exact c0
            have hE2 : REq kd n (i + 1) m lo w2 s348 := re_more (a := σ 38 i) (b := v333) (ty := σ 37 i) (ex := -1) (Lc := i) (u := x.2) hP1.1 ⟨Nat.le_refl _, by omega⟩ (fun j hj => by
              obtain ⟨Lc', l1, l2, l3, l4, l5⟩ := hP1.2.2.2.1
              have h10 := hP1.2.2.2.2.2.2.2.2
              have := l5 j hj
              omega) hP1.2.2.2.2.2.2.2.2 (by omega) p3 k2 e2 hv333 (ko_sub (ko_kp k2w) rfl rfl) f15 f40 f41 f42 f44 kr f53 q31 (fun j hj => by rw [q32, if_neg hj]) (by rw [q32, if_pos rfl]) q34 q35
            exact ⟨fun hx => absurd e63 hx, fun _ => ⟨nf, by omega, pr_more hP1 hE2 (by omega) k2w f10 f44 kr q49 q36⟩⟩
        · have := mn (hw1.1 c0)
          exact gv_bad c0 this (fun s' h => ⟨fun _ => this, fun hx => absurd hx h⟩)
  · have k2 : kd x.2 ≠ 2 := fun h => by have := p4 h; omega
    refine mr_tell h0 (by decide) (fun s263 k263 f263 _ _ => ?_)
    have e263b : s263 37 i = σ 37 i := (k263 37 i rfl rfl).trans e37
    rw [e263b]
    refine mr_declareLocal (Lc := i) (by rw [k263 0 49 rfl rfl]; exact e49) (by omega) (fun v281 s281 k281 hv281 g49 g31 g32 => ?_)
    have kr : Kp [(0, 12), (0, 13), (0, 49)] [31, 32, 33] s s281 := kp_tr (kp_sub k263 rfl rfl) (kp_sub k281 rfl rfl)
    have e12 : s281 0 12 = s263 0 12 := k281 0 12 rfl rfl
    have hB : (s281 0 12).toInt ≠ 0 := by
      rw [e12]
      exact f263.2.2 (Or.inr ⟨trivial, by omega⟩)
    refine ⟨rfl, rfl, S, kp_tr ks (kp_sub kr rfl rfl), rg_loc1 hGs hSi (by omega) (ty := σ 37 i) (by omega) kr (by rw [e12]; exact f263.1) g49 (fun j => by rw [g31, k263 31 j rfl rfl]), by rw [g49]; rfl, by omega, fun _ => hB, fun j hj => by rw [kr 36 j rfl rfl]; exact h36 j hj, ?_⟩
    intro hz w hP hf
    rw [pml_s hxl]
    refine gv_app (gv_mono (hw hz w hP hf) (fun w1 hw1 => ?_) (fun _ => hB))
    by_cases c0 : (w1 6 3).toInt = 0
    · obtain ⟨n0, eS, hP1⟩ := hw1.2 c0
      exact gv_d (x := (48, x.2, (x.1 : Int), 0)) (by simp) (fun _ => da_par (fun a b ea eb => xp_no hP1.1 ea p3 k2 (fun w2 h63 => ⟨fun _ => hB, fun hx => absurd hx h63⟩))) (fun hx => absurd c0 hx)
    · exact gv_bad c0 hB (fun s' h => ⟨fun _ => hB, fun hx => absurd hx h⟩)
end PAR
end

section
/-! functions: bodies and ends, both sides -/
section FBD
variable {w s r s1 s2 s3 σ σ' σ0 σ1 τ t : St} {kd vl : Nat → Int} {n S S' m m' lo u d p : Nat} {vs z : List Nat} {a a1 a2 a3 v sig : Int32} {Q : St → Prop} {lk rs rr k3 : Int} {l : List (Nat × Nat)} {F0 body stc : Prop}
theorem xl_settle (kk : ∀ s, Kp [] [24] w s → Q s) : pk_X0_settle_r48 a w Q := by
  unfold pk_X0_settle_r48
  refine ⟨fun _ _ s => Kp [] [24] w s, kp_rf, fun x y s ks => ⟨fun _ => kk s ks, fun _ => ⟨fun _ => kk s ks, fun _ => ⟨fun s => Kp [] [24] w s, fun s h => h, True, fun _ => ⟨fun _ => ks, fun _ => ⟨fun _ => ks, fun _ => kp_F ks rfl⟩⟩, fun _ => trivial, fun _ => ⟨fun _ => trivial, fun _ => ⟨fun _ => trivial, fun _ => kp_F (kp_F ks rfl) rfl⟩⟩⟩⟩⟩⟩
theorem xl_thread (kk : ∀ s, Kp [] [24] w s → Q s) : pk_X0_thread a w Q := by
  unfold pk_X0_thread
  refine ⟨fun _ _ s => Kp [] [24] w s, kp_rf, fun x y s ks => ⟨fun _ => kk s ks, fun _ => ⟨fun _ => kk s ks, fun _ => ⟨fun s => Kp [] [24] w s, fun s h => h, fun _ => ks, fun _ => ⟨fun _ => ks, fun _ => ⟨fun _ _ => True, trivial, fun x2 y2 _ => ⟨True, fun _ => kp_F ks rfl, fun _ => trivial, fun _ => ⟨fun _ => trivial, fun _ => trivial⟩⟩⟩⟩⟩⟩⟩⟩
theorem xf_end (kk : ∀ s, Kp [(4, 1), (6, 6), (6, 10), (6, 15), (6, 17)] [24, 48] w s → (s 6 6).toInt = -1 → (s 6 15).toInt = 0 → Q s) : pk_X1_functionEnd w Q := by
  unfold pk_X1_functionEnd pk_X8_parameters
  refine xl_emit (fun v8 s8 k8 => xl_emit (fun v21 s21 k21 => ⟨fun _ _ _ s => Kp [(4, 1)] [24, 48] w s, kp_sub (kp_tr k8 k21) rfl rfl, fun x3 x4 x5 s72 k72 => ⟨fun _ => xl_settle (fun s255 k255 => ?_), fun _ => ⟨fun _ => True, fun y _ _ => ⟨fun _ => True, fun y2 _ => ⟨fun _ => True, fun y1 _ => ⟨fun _ => True, fun y3 _ => kp_F k72 rfl, fun _ => trivial, fun _ => trivial⟩, True, fun _ => trivial, fun _ => trivial, fun _ => ⟨fun _ => trivial, fun _ => trivial⟩⟩, fun _ => trivial, fun _ => trivial⟩, fun _ => trivial, fun _ => trivial⟩⟩⟩))
  have kz : Kp [(4, 1)] [24, 48] w s255 := kp_tr (kp_F (kp_F (kp_F (kp_F k72 rfl) rfl) rfl) rfl) (kp_sub k255 rfl rfl)
  have fin : ∀ s, Kp [(4, 1)] [24, 48] w s → pk_X11_leave s (fun s283 => Q s283) := fun s ks => by
    unfold pk_X11_leave
    refine kk _ (kp_f (kp_f (kp_f (kp_f (kp_sub ks rfl rfl) rfl) rfl) rfl) rfl) ?_ ?_
    · rw [rdA_ne (by decide), rdA_ne (by decide), rdA_ne (by decide), rdA_eq rfl]; rfl
    · rw [rdA_ne (by decide), rdA_eq rfl]; rfl
  exact ⟨fun s => Kp [(4, 1)] [24, 48] w s, fun s ks => fin s ks, fun _ => kz, fun _ => xl_thread (fun s ks => kp_tr kz (kp_sub ks rfl rfl))⟩
/-- what the end of a body leaves in the reference -/
abbrev ENr (a b : St) : Prop := Kp [(0, 10), (0, 17), (0, 53), (0, 45)] [8, 26, 27, 28, 29, 30, 54] a b
theorem en_g (k : ENr σ s) : ∀ c, c ≠ 0 → c ≠ 8 → c ≠ 26 → c ≠ 27 → c ≠ 28 → c ≠ 29 → c ≠ 30 → c ≠ 54 → s c = σ c := fun c h0 h1 h2 h3 h4 h5 h6 h7 => funext (fun j => k c j (by
  simp only [List.contains_cons, List.contains_nil, Bool.or_false, Bool.or_eq_false_iff, beq_eq_false_iff_ne, ne_eq, Prod.mk.injEq, not_and]
  omega) (by
  simp only [List.contains_cons, List.contains_nil, Bool.or_false, Bool.or_eq_false_iff, beq_eq_false_iff_ne, ne_eq]
  omega))
theorem rg_end (h : RGs kd vl n S m lo d σ) (k : ENr σ s) (h53 : (s 0 53).toInt = 0) : RGs kd vl n 0 m lo d s := by
  obtain ⟨⟨h1, h2, h3, h4, h5, h6, h7, h8, h9, h10, h11, h12⟩, q2, ⟨Lc, l1, l2, l3⟩, q4, q5⟩ := h
  have gs := en_g k
  have g2 := gs 2 (by decide) (by decide) (by decide) (by decide) (by decide) (by decide) (by decide) (by decide)
  have g3 := gs 3 (by decide) (by decide) (by decide) (by decide) (by decide) (by decide) (by decide) (by decide)
  have g4 := gs 4 (by decide) (by decide) (by decide) (by decide) (by decide) (by decide) (by decide) (by decide)
  have g6 := gs 6 (by decide) (by decide) (by decide) (by decide) (by decide) (by decide) (by decide) (by decide)
  have g9 := gs 9 (by decide) (by decide) (by decide) (by decide) (by decide) (by decide) (by decide) (by decide)
  have g10 := gs 10 (by decide) (by decide) (by decide) (by decide) (by decide) (by decide) (by decide) (by decide)
  have g15 := gs 15 (by decide) (by decide) (by decide) (by decide) (by decide) (by decide) (by decide) (by decide)
  have g16 := gs 16 (by decide) (by decide) (by decide) (by decide) (by decide) (by decide) (by decide) (by decide)
  have g18 := gs 18 (by decide) (by decide) (by decide) (by decide) (by decide) (by decide) (by decide) (by decide)
  have g19 := gs 19 (by decide) (by decide) (by decide) (by decide) (by decide) (by decide) (by decide) (by decide)
  have g22 := gs 22 (by decide) (by decide) (by decide) (by decide) (by decide) (by decide) (by decide) (by decide)
  have g31 := gs 31 (by decide) (by decide) (by decide) (by decide) (by decide) (by decide) (by decide) (by decide)
  have g35 := gs 35 (by decide) (by decide) (by decide) (by decide) (by decide) (by decide) (by decide) (by decide)
  refine ⟨⟨?_, ?_, ?_, ⟨h53, by decide, fun j hj => absurd hj (Nat.not_lt_zero j)⟩, ?_, h6, ⟨?_, fun j hj => absurd hj (Nat.not_lt_zero j)⟩, ?_, ?_, ?_, ?_, by rw [k 0 12 rfl rfl]; exact h12⟩, by rw [k 0 54 rfl rfl]; exact q2, ⟨Lc, by rw [k 0 49 rfl rfl]; exact l1, Nat.zero_le _, l3⟩, by rw [k 0 15 rfl rfl]; exact q4, by rw [g6]; exact q5⟩
  · unfold RTk at h1 ⊢; rw [g2]; exact h1
  · unfold TNm at h2 ⊢; rw [g3, g4]; exact h2
  · rw [g6]; exact h3
  · unfold EOKm at h5 ⊢; rw [g18, g19, g22, k 0 35 rfl rfl, k 0 36 rfl rfl, k 0 31 rfl rfl]; exact h5
  · rw [g31]; exact h7.1
  · rw [g10]; exact h8
  · rw [g35]; exact h9
  · rw [g9, g10, g15, g16]; exact h10
  · rw [k 0 37 rfl rfl]; exact h11
theorem re_end (h : REq kd n S m lo w σ) (kw : Kp [(4, 1), (6, 6), (6, 10), (6, 15), (6, 17)] [24, 48] w s) (h15 : (s 6 15).toInt = 0) (k : ENr σ σ') (h53 : (σ' 0 53).toInt = 0) : REq kd n 0 m lo s σ' := by
  obtain ⟨hT, hL, hO, hD, y1, y2⟩ := h
  have gs := en_g k
  have cs : ∀ c, c ≠ 4 → c ≠ 6 → c ≠ 24 → c ≠ 48 → s c = w c := fun c h4 h6 h1 h2 => funext (fun j => kw c j (by
    simp only [List.contains_cons, List.contains_nil, Bool.or_false, Bool.or_eq_false_iff, beq_eq_false_iff_ne, ne_eq, Prod.mk.injEq, not_and]
    omega) (by
    simp only [List.contains_cons, List.contains_nil, Bool.or_false, Bool.or_eq_false_iff, beq_eq_false_iff_ne, ne_eq]
    omega))
  have c5 := cs 5 (by decide) (by decide) (by decide) (by decide)
  have c25 := cs 25 (by decide) (by decide) (by decide) (by decide)
  have c26 := cs 26 (by decide) (by decide) (by decide) (by decide)
  have c27 := cs 27 (by decide) (by decide) (by decide) (by decide)
  have c38 := cs 38 (by decide) (by decide) (by decide) (by decide)
  have c39 := cs 39 (by decide) (by decide) (by decide) (by decide)
  have g1 := gs 1 (by decide) (by decide) (by decide) (by decide) (by decide) (by decide) (by decide) (by decide)
  have g2 := gs 2 (by decide) (by decide) (by decide) (by decide) (by decide) (by decide) (by decide) (by decide)
  have g3 := gs 3 (by decide) (by decide) (by decide) (by decide) (by decide) (by decide) (by decide) (by decide)
  have g4 := gs 4 (by decide) (by decide) (by decide) (by decide) (by decide) (by decide) (by decide) (by decide)
  have g6 := gs 6 (by decide) (by decide) (by decide) (by decide) (by decide) (by decide) (by decide) (by decide)
  have g9 := gs 9 (by decide) (by decide) (by decide) (by decide) (by decide) (by decide) (by decide) (by decide)
  have g10 := gs 10 (by decide) (by decide) (by decide) (by decide) (by decide) (by decide) (by decide) (by decide)
  have g11 := gs 11 (by decide) (by decide) (by decide) (by decide) (by decide) (by decide) (by decide) (by decide)
  have g12 := gs 12 (by decide) (by decide) (by decide) (by decide) (by decide) (by decide) (by decide) (by decide)
  have g13 := gs 13 (by decide) (by decide) (by decide) (by decide) (by decide) (by decide) (by decide) (by decide)
  have g14 := gs 14 (by decide) (by decide) (by decide) (by decide) (by decide) (by decide) (by decide) (by decide)
  have g15 := gs 15 (by decide) (by decide) (by decide) (by decide) (by decide) (by decide) (by decide) (by decide)
  have g16 := gs 16 (by decide) (by decide) (by decide) (by decide) (by decide) (by decide) (by decide) (by decide)
  have g18 := gs 18 (by decide) (by decide) (by decide) (by decide) (by decide) (by decide) (by decide) (by decide)
  have g19 := gs 19 (by decide) (by decide) (by decide) (by decide) (by decide) (by decide) (by decide) (by decide)
  have g20 := gs 20 (by decide) (by decide) (by decide) (by decide) (by decide) (by decide) (by decide) (by decide)
  have g21 := gs 21 (by decide) (by decide) (by decide) (by decide) (by decide) (by decide) (by decide) (by decide)
  have g22 := gs 22 (by decide) (by decide) (by decide) (by decide) (by decide) (by decide) (by decide) (by decide)
  refine ⟨tk_fr hT (cs 1 (by decide) (by decide) (by decide) (by decide)) (cs 13 (by decide) (by decide) (by decide) (by decide)) (cs 14 (by decide) (by decide) (by decide) (by decide)) (cs 15 (by decide) (by decide) (by decide) (by decide)) g1 g2 g3 g4 g6, ⟨h15, h53, by decide, fun j hj => absurd hj (Nat.not_lt_zero j), fun j hj => absurd hj (Nat.not_lt_zero j)⟩, ?_, ?_, fun j hj => absurd hj (Nat.not_lt_zero j), fun i hi => ?_⟩
  · unfold OUR ORR FLq NSm EOKm otk at hO ⊢
    rw [c5, c25, c26, c27, c38, c39, kw 6 7 rfl rfl, g1, g3, g4, g9, g10, g11, g12, g13, g14, g15, g16, g18, g19, g20, g21, g22, k 0 35 rfl rfl, k 0 36 rfl rfl, k 0 31 rfl rfl]
    exact hO
  · rw [kw 6 5 rfl rfl, k 0 37 rfl rfl]
    exact hD
  · rw [c26, c5]
    exact y2 i hi
/-- the reference: a function's body and its rows -/
theorem es_body {Q : St → St → List Nat → Prop} (hG : RGs kd vl n S m lo 1 σ) (hg : GMt σ n p) (c22 : kd p = 22)
    (kk : ∀ s t z p' gs s0 s1 S', EVq (fun N => STn kd vl N 1 1 (p + 1)) (some (p', gs)) → p < p' → GMt s n p' → RGs kd vl n 0 m lo 1 s → MNq σ s → TFq τ vs t z → Kp [(0, 55), (0, 56), (0, 57), (0, 58), (0, 59), (0, 10)] [] σ s0 → ((s0 0 55).toInt ≠ 0 ↔ a.toInt = -1) → s0 0 56 = a → (s0 0 57).toInt = 0 → WSq kd n m lo 1 0 S S' gs s0 s1 → ENr s1 s → (s 0 53).toInt = 0 → Q s t z) (kn : EVq (fun N => STn kd vl N 1 1 (p + 1)) none → F0) : pp_bodyOf a σ τ vs Q (fun _ _ _ => F0) := by
  unfold pp_bodyOf
  refine ⟨fun y => y.toInt ≠ 0 ↔ a.toInt = -1, fun y _ hy => ?_, fun c => ⟨fun h => absurd rfl h, fun h => absurd h c⟩, fun c => ⟨fun _ => c, fun _ => by decide⟩⟩
  have k0 : Kp [(0, 55), (0, 56), (0, 57), (0, 58), (0, 59), (0, 10)] [] σ (upC (upC (upC (upC (upC (upC σ 0 55 y) 0 56 a) 0 57 (0 : Int32)) 0 58 ((-1) : Int32)) 0 59 ((-1) : Int32)) 0 10 ((σ 0 10) + (1 : Int32))) := kp_f (kp_f (kp_f (kp_f (kp_f (kp_f kp_rf rfl) rfl) rfl) rfl) rfl) rfl
  have e55 : (upC (upC (upC (upC (upC (upC σ 0 55 y) 0 56 a) 0 57 (0 : Int32)) 0 58 ((-1) : Int32)) 0 59 ((-1) : Int32)) 0 10 ((σ 0 10) + (1 : Int32))) 0 55 = y := by rw [rdA_ne (by decide), rdA_ne (by decide), rdA_ne (by decide), rdA_ne (by decide), rdA_ne (by decide), rdA_eq rfl]
  have e56 : (upC (upC (upC (upC (upC (upC σ 0 55 y) 0 56 a) 0 57 (0 : Int32)) 0 58 ((-1) : Int32)) 0 59 ((-1) : Int32)) 0 10 ((σ 0 10) + (1 : Int32))) 0 56 = a := by rw [rdA_ne (by decide), rdA_ne (by decide), rdA_ne (by decide), rdA_ne (by decide), rdA_eq rfl]
  have e57 : ((upC (upC (upC (upC (upC (upC σ 0 55 y) 0 56 a) 0 57 (0 : Int32)) 0 58 ((-1) : Int32)) 0 59 ((-1) : Int32)) 0 10 ((σ 0 10) + (1 : Int32))) 0 57).toInt = 0 := by rw [rdA_ne (by decide), rdA_ne (by decide), rdA_ne (by decide), rdA_eq rfl]; rfl
  have g0 : GMt (upC (upC (upC (upC (upC (upC σ 0 55 y) 0 56 a) 0 57 (0 : Int32)) 0 58 ((-1) : Int32)) 0 59 ((-1) : Int32)) 0 10 ((σ 0 10) + (1 : Int32))) n (p + 1) := by
    have h1 := gm_up hG.1.1 hg (by rw [c22]; decide)
    refine ⟨?_, h1.2⟩
    rw [rdA_eq rfl]
    have h2 := h1.1
    rw [rdA_eq rfl] at h2
    exact h2
  generalize upC (upC (upC (upC (upC (upC σ 0 55 y) 0 56 a) 0 57 (0 : Int32)) 0 58 ((-1) : Int32)) 0 59 ((-1) : Int32)) 0 10 ((σ 0 10) + (1 : Int32)) = s0 at k0 e55 e56 e57 g0
  have e12 : s0 0 12 = σ 0 12 := k0 0 12 rfl rfl
  have hG0 : RGs kd vl n S m lo 1 s0 := by
    obtain ⟨h1, h2, h3, h4, h5⟩ := hG
    refine ⟨rgm_dd h1 (dd_k k0 rfl rfl) (by rw [e12]; exact rgq_0 h1), by rw [k0 0 54 rfl rfl]; exact h2, by rw [k0 0 49 rfl rfl]; exact h3, by rw [k0 0 15 rfl rfl]; exact h4, fun q hq => by rw [k0 6 q rfl rfl]; exact h5 q hq⟩
  refine ⟨fun s t z => ∃ (pc Sc : Nat) (gc : List Gsq), p + 1 ≤ pc ∧ GMt s n pc ∧ RGs kd vl n Sc m lo 1 s ∧ MNq s0 s ∧ s 0 57 = s0 0 57 ∧ TFq τ vs t z ∧ (∀ R, EVq (fun N => STn kd vl N 1 1 pc) R → EVq (fun N => STn kd vl N 1 1 (p + 1)) (R.map (fun r => (r.1, gc ++ r.2)))) ∧ WSq kd n m lo 1 0 S Sc gc s0 s, ⟨p + 1, S, [], Nat.le_refl _, g0, hG0, fun h => h, rfl, tf_rf, fun R hR => ?_, ws_nil ds_rf rfl rfl⟩, ?_⟩
  · cases R with
    | none => exact hR
    | some r => exact hR
  rintro s54 t54 z54 ⟨pc, Sc, gc, hp, gs, hGs, hm, h57, htf, hev, hW⟩
  refine mr_is1 hGs.1.1 gs (c := 23) (by decide) (by decide) (fun v57 hv57 => ⟨fun c => ?_, fun c => ?_⟩)
  · have k23 := hv57.1 c
    have ka : Kp [(0, 10)] [] s54 (upC s54 0 10 ((s54 0 10) + (1 : Int32))) := kp_f kp_rf rfl
    have ga := gm_up hGs.1.1 gs (by rw [k23]; decide)
    generalize upC s54 0 10 ((s54 0 10) + (1 : Int32)) = sa at ka ga
    refine ⟨fun s t z => t = t54 ∧ z = z54 ∧ Kp [(0, 17)] [8] sa s, ?_, fun _ => mr_put1 (fun s1 k1 => mr_put0 (fun s2 k2 => ⟨rfl, rfl, kp_tr k1 k2⟩)), fun _ => mr_put0 (fun s1 k1 => ⟨rfl, rfl, k1⟩)⟩
    rintro s109 t109 z109 ⟨et, ez, k109⟩
    rw [et, ez]
    have fin : ∀ sF, Kp [(0, 17), (0, 53), (0, 45)] [8, 26, 27, 28, 29, 30, 54] sa sF → (sF 0 53).toInt = 0 → Q sF t54 z54 := fun sF kF f53 => by
      have kE : ENr s54 sF := kp_tr (kp_sub ka rfl rfl) (kp_sub kF rfl rfl)
      refine kk sF t54 z54 (pc + 1) (gc ++ []) s0 s54 Sc (hev _ (sl_e k23)) (by omega) (gm_k ga (kF 0 10 rfl rfl)) (rg_end hGs kE f53) (fun hx => ?_) htf k0 (by rw [e55]; exact hy) e56 e57 (by rw [List.append_nil]; exact hW) kE f53
      rw [kE 0 12 rfl rfl]
      exact hm (by rw [e12]; exact hx)
    refine ⟨fun _ _ _ _ _ => ?_, fun _ => fin _ (kp_f (kp_sub k109 rfl rfl) rfl) (by rw [rdA_eq rfl]; rfl)⟩
    refine ⟨fun _ _ s t z => t = t54 ∧ z = z54 ∧ Kp [(0, 17), (0, 53)] [8, 26, 27, 28, 29] sa s ∧ (s 0 53).toInt = 0, ⟨rfl, rfl, kp_a (kp_a (kp_a (kp_a (kp_f (kp_sub k109 rfl rfl) rfl) rfl) rfl) rfl) rfl, ?_⟩, ?_⟩
    · rw [rdC_ne (by decide), rdC_ne (by decide), rdC_ne (by decide), rdC_ne (by decide), rdA_eq rfl]; rfl
    rintro x y s165 t165 z165 ⟨et2, ez2, k165, f53⟩
    rw [et2, ez2]
    refine ⟨fun _ _ _ => fin _ (kp_f (kp_a (kp_a (kp_sub k165 rfl rfl) rfl) rfl) rfl) (by rw [rdA_ne (by decide), rdC_ne (by decide), rdC_ne (by decide)]; exact f53), fun _ _ => ⟨fun _ => True, fun y2 _ _ => ⟨fun _ => True, fun y3 _ _ => mr_put1 (fun s224 k224 => ⟨fun _ => True, fun x4 _ => ⟨rfl, rfl, kp_tr k165 (kp_sub k224 rfl rfl), by rw [k224 0 53 rfl rfl]; exact f53⟩, fun _ => trivial, fun _ _ => trivial⟩), fun _ => trivial, fun _ => trivial⟩, True, fun _ => trivial, fun _ => trivial, fun _ _ => ⟨fun _ => trivial, fun _ => trivial⟩⟩⟩
  · have k23 : kd pc ≠ 23 := fun h => (hv57.2 h) c
    refine es_stmt1 (kd := kd) (vl := vl) (n := n) (m := m) (lo := lo) (d := 1) (p := pc) (a := (1 : Int32)) rfl (Nat.le_refl 1) (by decide) Sc s54 t54 z54 _ F0 hGs gs (by rw [h57, on_0]; omega) (fun s2 t2 z2 he => ?_) (fun hn => kn (hev none (sl_s k23 (ev_b0 hn))))
    obtain ⟨p1, S2, g1, h1, h2, h3, h4, h5, h6, h7, h8⟩ := he
    exact ⟨p1, S2, gc ++ g1, by omega, h3, h4, fun hx => h5 (hm hx), h6.trans h57, tf_tr htf h7, sl_step k23 h1 hev, ws_app hW (h8 0 (by rw [on_0]; exact Nat.zero_lt_one)) h5⟩
/-- the class's step of a function's name, beside the reference -/
theorem uf_step {rest : Prop} (hE : REq kd n 0 m lo w s1) (hf : (w 6 3).toInt = 0) (n1 : (s1 0 12).toInt = 0) (h15 : (s1 0 15).toInt = 0) (ha : a.toInt = (u : Int)) (hu : u ≤ n) (ku : kd u = 2) (hl : lk = 0 ∨ lk = 1 ∨ lk = 2) (hr : a2.toInt = rs) (hr5 : -1 ≤ rs ∧ rs ≤ 5) {b c : Int32} (hb : b.toInt = sgI l) (hc : (c.toInt = (rs + 1) * 8 + lk ∧ ¬ body) ∨ (c.toInt = (rs + 1) * 8 + lk + 4 ∧ body)) (hst3 : a3 = 0 ∨ a3 = 1) (hst : lk = 1 ↔ a3.toInt ≠ 0) (hl8 : l.length ≤ 8) (ht : Tyq l) (hrr : EFm s1 lo (lo + m) u rr) (hfn : FNf s1 s2 lo m u v a2 a3 body l rr) (hft : FTq s1 s3 (BFm s1 m lo a2 a3 body l rr)) (hgd : ¬ BFm s1 m lo a2 a3 body l rr → GFd s1 s3 u m lo m' a2 a3 body l rr)
    (kb : (s3 0 12).toInt ≠ 0 → ∀ s, (s 6 3).toInt ≠ 0 → Q s) (kk : ∀ s (d : Nat), d < 10100 → (s 6 3).toInt = 0 → (s3 0 12).toInt = 0 → REq kd n 0 m' lo s s3 → FUf w s u m d (rr = -1) a2 b (lk = 1) body → Q s) : pk_X1_function a b c w Q := by
  have hj : ∀ r : Nat, r < m → (JFw w ((w 5 1).toInt.toNat - m + r) a2 b (lk = 1) body ↔ JFm s1 (lo + r) a2 a3 body l) := fun r hr => jf_eq (hE.2.2.1.2.2.2.2.2 r hr) hl8 ht hb hst3 hst
  have hrm : ∀ r : Nat, rr = ((lo + r : Nat) : Int) → r < m := fun r hr => by
    rcases hrr with ⟨e, h1, h2, h3, h4, h5⟩ | ⟨h1, h2⟩
    · omega
    · omega
  have heq : BFw w m lo a2 b (lk = 1) body rr ↔ BFm s1 m lo a2 a3 body l rr := by
    unfold BFw BFm
    constructor
    · rintro (h | ⟨r, h1, h2⟩)
      · exact Or.inl h
      · exact Or.inr ⟨r, h1, fun hx => h2 ((hj r (hrm r h1)).2 hx)⟩
    · rintro (h | ⟨r, h1, h2⟩)
      · exact Or.inl h
      · exact Or.inr ⟨r, h1, fun hx => h2 ((hj r (hrm r h1)).1 hx)⟩
  have hlm : rr = -1 → m < 100 → lo + m < 10000 ∧ (s1 0 31).toInt + ((s1 4 u).toInt - (s1 3 u).toInt) ≤ 65536 := fun h hm => by
    rcases hfn with ⟨_, h100, _⟩ | ⟨_, _, h1, _, q, h2, _⟩ | ⟨r, h3, _⟩
    · omega
    · have := h2.2.2.1
      have := h2.2.2.2.1
      exact ⟨h1, by omega⟩
    · omega
  refine xf_function (rs := rs) (lk := lk) (res := a2) (stc := lk = 1) (body := body) hE hf ha hu ku hl hr5 hc hr Iff.rfl hrr hlm (fun hbf s h63 => kb (hft.2.2 (Or.inr ⟨heq.1 hbf, by omega⟩)) s h63) (fun nb s d q0 q1 hfu => ?_)
  have nb2 := fun h => nb (heq.2 h)
  have n3 : (s3 0 12).toInt = 0 := Decidable.byContradiction (fun hx => (hft.2.1 hx).elim (fun h => h n1) (fun h => nb2 h.1))
  have hq : rr = -1 ∨ ∃ r : Nat, r < m ∧ rr = ((lo + r : Nat) : Int) := by
    rcases hrr with ⟨e, h1, h2, h3, h4, h5⟩ | ⟨h1, h2⟩
    · exact Or.inr ⟨e - lo, by omega, by omega⟩
    · exact Or.inl h2
  have hd9 : d < 10100 := by
    have h1 := hE.2.2.1.2.2.2.1.1
    have h2 := hE.2.2.1.2.2.2.2.1.2.2.2.1
    rcases hq with h | ⟨r, _, h⟩
    · have := (q0 h).2
      omega
    · have := (q1 r h).1
      have := (q1 r h).2
      omega
  refine kk s d hd9 hfu.2.1 n3 (re_gfun hE hu ku hq q0 q1 hfu (fun r hr => ?_) (fun h => (hlm h (q0 h).1).1) hl8 ht hb (by omega) hst (hgd nb2)) hfu
  rw [(q1 r hr).2]
  exact Classical.byContradiction (fun h => nb (Or.inr ⟨r, hr, h⟩))
end FBD
end

section
/-! functions, whole; items of a unit -/
section EFU
variable {w s r s1 s2 s3 σ σ' σ0 σ1 τ t : St} {kd vl : Nat → Int} {n S S' m m' lo u d p : Nat} {vs z : List Nat} {a a1 a2 a3 v sig : Int32} {lk rs rr k3 : Int} {l : List (Nat × Nat)} {F0 body stc : Prop}
theorem hr_ty (h : HRq kd n s l) : Tyq l := fun x hx => by
  obtain ⟨k, hk, e⟩ := List.getElem_of_mem hx
  exact (h.2.2 k x (by rw [List.getElem?_eq_getElem hk, e])).2.1
theorem dd_53 {fs : List (Nat × Nat)} (k : Kp [(0, 49), (0, 53), (0, 54), (0, 65)] [] σ s) (e : s 0 53 = σ 0 53) : DDq σ s := by
  have k' : Kp [(0, 49), (0, 54), (0, 65)] [] σ s := fun c j h1 h2 => by
    by_cases ce : c = 0 ∧ j = 53
    · rw [ce.1, ce.2]; exact e
    · refine k c j ?_ h2
      simp only [List.contains_cons, List.contains_nil, Bool.or_false, Bool.or_eq_false_iff, beq_eq_false_iff_ne, ne_eq, Prod.mk.injEq, not_and] at h1 ⊢
      omega
  exact dd_k k' rfl rfl
theorem es_function {Q : St → St → List Nat → Prop} (h1 : a1.toInt = (u : Int)) (hu : u ≤ n) (ku : kd u = 2) (hr : a2.toInt = rs) (hr5 : -1 ≤ rs ∧ rs ≤ 5) (hst3 : a3 = 0 ∨ a3 = 1) (hl : lk = 0 ∨ lk = 1 ∨ lk = 2) (hst : lk = 1 ↔ a3.toInt ≠ 0) (hG : RGs kd vl n 0 m lo d σ) (hg : GMt σ n p)
    (kk : ∀ s t z p' m' d' g, EVq (fun N => FUn kd vl N lk rs u p) (some (p', g)) → p < p' → GMt s n p' → RGs kd vl n 0 m' lo d' s → MNq σ s → TFq τ vs t z → USq kd n m m' lo g σ s → Q s t z) (kn : EVq (fun N => FUn kd vl N lk rs u p) none → F0) : pp_function a1 a2 a3 σ τ vs Q (fun _ _ _ => F0) := by
  unfold pp_function
  refine mr_head hG.1.1 hg (fun s1 p1 l hhd hp g1 k1 hH => ?_) (fun hn => kn (fu_n hn))
  have e12 : s1 0 12 = σ 0 12 := k1 0 12 rfl rfl
  have dd1 : DDq σ s1 := dd_k k1 rfl rfl
  have hG1 : RGs kd vl n 0 m lo d s1 := by
    obtain ⟨h1, h2, h3, h4, h5⟩ := hG
    exact ⟨rgm_dd h1 dd1 (by rw [e12]; exact rgq_0 h1), by rw [k1 0 54 rfl rfl]; exact h2, by rw [k1 0 49 rfl rfl]; exact h3, by rw [k1 0 15 rfl rfl]; exact h4, fun q hq => by rw [k1 6 q rfl rfl]; exact h5 q hq⟩
  have ht := hr_ty hH
  have hl8 := hH.2.1
  have h15 : (s1 0 15).toInt = 0 := hG1.2.2.2.1
  have hm100 : m ≤ 100 := hG1.1.2.2.2.2.2.1
  refine mr_is1 hG1.1.1 g1 (c := 22) (by decide) (by decide) (fun v7 hv7 => mr_entity h1 (hG1.1.2.1 u hu ku) hG1.1.2.2.2.2.1 (fun v14 he => ⟨fun v s t z => t = τ ∧ z = vs ∧ FNf s1 s lo m u v a2 a3 (kd p1 = 22) l v14.toInt, ?_, mr_fname (J162 := fun v s t z => t = τ ∧ z = vs ∧ FNf s1 s lo m u v a2 a3 (kd p1 = 22) l v14.toInt) h1 (hG1.1.2.1 u hu ku) hG1.1.2.2.2.2.1 hm100 (rgq_0 hG1.1) hH hv7 he (fun v s hf => ⟨rfl, rfl, hf⟩)⟩))
  rintro v s162 t162 z162 ⟨et, ez, hfn⟩
  rw [et, ez]
  refine ⟨fun c7 => ?_, fun c7 => ?_⟩
  · have c22 : kd p1 = 22 := hv7.1 c7
    refine ⟨fun s t z => t = τ ∧ z = vs ∧ DFf s162 s v (kd p1 = 22), ?_, fun cv => ⟨rfl, rfl, Or.inr ⟨c22, Or.inl ⟨rfl, Or.inl cv⟩⟩⟩, fun cv _ => ?_⟩
    rotate_left
    · have ev : v.toInt = ((v.toInt.toNat : Nat) : Int) := by omega
      have en : v.toNatClampNeg = v.toInt.toNat := nat_of ev
      rw [en]
      refine ⟨fun c9 => ⟨rfl, rfl, Or.inr ⟨c22, Or.inl ⟨rfl, Or.inr ⟨v.toInt.toNat, ev, c9⟩⟩⟩⟩, fun c9 _ _ => ⟨rfl, rfl, Or.inr ⟨c22, Or.inr ⟨v.toInt.toNat, ev, c9, kp_a (kp_a kp_rf rfl) rfl, fun j => ?_⟩⟩⟩⟩
      rw [rdC_ne (by decide), rdC_eq]
      rfl
    rintro s209 t209 z209 ⟨et2, ez2, hdf⟩
    rw [et2, ez2]
    obtain ⟨m', hG3, e10, e64, e37, e38, hft, hgd⟩ := fn_fin hG1 hu ku (by omega) hst3 hl8 hfn hdf
    have k0 : Kp [(0, 49), (0, 53), (0, 54), (0, 65)] [] s209 (upC (upC (upC (upC s209 0 49 (0 : Int32)) 0 53 (0 : Int32)) 0 54 (1 : Int32)) 0 65 (s209 0 64)) := kp_f (kp_f (kp_f (kp_f kp_rf rfl) rfl) rfl) rfl
    have f49 : ((upC (upC (upC (upC s209 0 49 (0 : Int32)) 0 53 (0 : Int32)) 0 54 (1 : Int32)) 0 65 (s209 0 64)) 0 49).toInt = 0 := by rw [rdA_ne (by decide), rdA_ne (by decide), rdA_ne (by decide), rdA_eq rfl]; rfl
    have f53 : ((upC (upC (upC (upC s209 0 49 (0 : Int32)) 0 53 (0 : Int32)) 0 54 (1 : Int32)) 0 65 (s209 0 64)) 0 53).toInt = 0 := by rw [rdA_ne (by decide), rdA_ne (by decide), rdA_eq rfl]; rfl
    have f54 : ((upC (upC (upC (upC s209 0 49 (0 : Int32)) 0 53 (0 : Int32)) 0 54 (1 : Int32)) 0 65 (s209 0 64)) 0 54).toInt = 1 := by rw [rdA_ne (by decide), rdA_eq rfl]; rfl
    generalize upC (upC (upC (upC s209 0 49 (0 : Int32)) 0 53 (0 : Int32)) 0 54 (1 : Int32)) 0 65 (s209 0 64) = σ0 at k0 f49 f53 f54
    have e53 : σ0 0 53 = s209 0 53 := ieq (by rw [f53, hG3.1.2.2.2.1.1]; rfl)
    have dd0 : DDq s209 σ0 := dd_53 (fs := []) k0 e53
    have e012 : σ0 0 12 = s209 0 12 := k0 0 12 rfl rfl
    have hG0 : RGs kd vl n 0 m' lo 1 σ0 := by
      obtain ⟨h1, h2, h3, h4, h5⟩ := hG3
      exact ⟨rgm_dd h1 dd0 (by rw [e012]; exact rgq_0 h1), by rw [f54]; rfl, ⟨0, by rw [f49]; rfl, Nat.le_refl 0, by decide⟩, by rw [k0 0 15 rfl rfl]; exact h4, fun q hq => by rw [k0 6 q rfl rfl]; exact h5 q hq⟩
    have hH0 : HRq kd n σ0 l := by
      obtain ⟨b1, b2, b3⟩ := hH
      refine ⟨by rw [k0 0 64 rfl rfl, e64]; exact b1, b2, fun k x hx => ?_⟩
      rw [k0 37 k rfl rfl, k0 38 k rfl rfl, e37, e38]
      exact b3 k x hx
    have g0 : GMt σ0 n p1 := gm_k g1 ((k0 0 10 rfl rfl).trans e10)
    refine es_params (K := fun s t z => pp_bodyOf a2 s t z (fun s359 t359 z359 => Q s359 t359 z359) (fun _ _ _ => F0)) (res := rs) hH0 hG0 f49 (fun sP S kP hGP hmP hSl hwP => ?_)
    have gP : GMt sP n p1 := gm_k g0 (kP 0 10 rfl rfl)
    refine es_body hGP gP c22 (fun s t z p' gs b0 b1 S' hev hp' g' hG' hm' htf kb e55 e56 e57 hws hen h53 => ?_) (fun hn => kn (fu_b0 hhd c22 hn))
    have mB : MNq s209 s := fun hx => hm' (hmP (by rw [e012]; exact hx))
    refine kk s t z p' m' 1 _ (fu_b hhd c22 hev) (by omega) g' hG' (fun hx => mB (hft.2.2 (Or.inl (by rw [e12]; exact hx)))) htf ?_
    intro h0 w hR hf
    rw [List.append_assoc, List.append_assoc]
    have hE1 : REq kd n 0 m lo w s1 := re_cd hR.1 cd_rf dd1
    have n1 : (s1 0 12).toInt = 0 := by rw [e12]; exact h0
    refine gv_app (gv_d (x := (47, u, sgI l, (rs + 1) * 8 + lk + 4)) (by simp) (fun _ => da_fun (fun a b c ea eb ec => uf_step (body := kd p1 = 22) (rest := True) hE1 hf n1 h15 ea hu ku hl hr hr5 eb (Or.inr ⟨ec, c22⟩) hst3 hst hl8 ht he hfn hft hgd (fun hB sx h63 => ?_) (fun sx dx hd9 h63 n3 hE3 hfu => ?_))) (fun hx => absurd hf hx))
    · have := mB hB
      exact gv_bad h63 this (fun s' h => ⟨fun _ => this, fun hx => absurd hx h⟩)
    obtain ⟨ko, _, _, _, f26, _, _, fb, _⟩ := hfu
    obtain ⟨q66, q610, q615, q617, q45⟩ := fb c22
    have hE4 : REq kd n 0 m' lo sx σ0 := re_cd hE3 cd_rf dd0
    have hP0 : PRq kd n 0 m' lo rs sx σ0 := by
      refine ⟨hE4, by rw [ko 7 7 rfl rfl]; exact hR.2.1, ⟨by rw [q617]; rfl, by rw [f54]; rfl, fun i hi => ?_, fun j hj => absurd hj (Nat.not_lt_zero j)⟩, ⟨0, by rw [q610]; rfl, by rw [f49]; rfl, Nat.le_refl 0, by decide, fun j hj => absurd hj (Nat.not_lt_zero j)⟩, by rw [ko 8 6 rfl rfl]; exact hR.2.2.2.1, by rw [ko 9 5 rfl rfl]; exact hR.2.2.2.2, ⟨by omega, by rw [atv_at q66 hd9, f26]; exact hr⟩, q45, by rw [q610]; rfl⟩
      have : i = 0 := by omega
      rw [this, q45]
      exact ⟨by omega, by omega, fun j hj => absurd hj (Nat.not_lt_zero j)⟩
    have hw2 := hwP (by rw [e012]; exact n3) sx hP0 h63
    rw [List.take_length] at hw2
    have mP : MNq sP s := hm'
    refine gv_app (gv_mono hw2 (fun w2 hw3 => ?_) (fun hx => mP hx))
    by_cases c2 : (w2 6 3).toInt = 0
    · obtain ⟨nP, eS, hPl⟩ := hw3.2 c2
      obtain ⟨r1, r2, r3, r4, r5, r6, r7, _, _⟩ := hPl
      have ddb : DDq sP b0 := dd_k kb rfl rfl
      have hRS : RSq kd n S m' lo 1 0 0 w2 b0 := by
        rw [eS]
        refine ⟨⟨re_cd r1 cd_rf ddb, by rw [r2]; rfl, ?_, ?_, ⟨r7.1, by rw [e56, r7.2]; exact hr.symm, by rw [e55, e56]⟩, r5⟩, ⟨by rw [r6]; rfl, ⟨fun ⟨i, hi, _⟩ => absurd hi (Nat.not_lt_zero i), fun h => by omega⟩⟩⟩
        · unfold SCq at r3 ⊢
          rw [kb 0 54 rfl rfl, show b0 36 = sP 36 from funext (fun j => kb 36 j rfl rfl)]
          exact r3
        · unfold LCq at r4 ⊢
          rw [kb 0 49 rfl rfl]
          exact r4
      have eb12 : b0 0 12 = sP 0 12 := kb 0 12 rfl rfl
      have e1 : s 0 12 = b1 0 12 := hen 0 12 rfl rfl
      refine gv_app (gv_mono (hws (by rw [eb12]; exact nP) w2 hRS c2) (fun w4 hw4 => ?_) (fun hx => by rw [e1]; exact hx))
      by_cases c4 : (w4 6 3).toInt = 0
      · obtain ⟨nb1, hR4, _⟩ := hw4.2 c4
        refine gv_d (x := stp 49 u) (by simp [stp]) (fun _ => da_end (xf_end (fun w5 k5 f66 f615 => ?_))) (fun hx => absurd c4 hx)
        have e63 : (w5 6 3).toInt = 0 := by rw [k5 6 3 rfl rfl]; exact c4
        exact ⟨fun hx => absurd e63 hx, fun _ => ⟨by rw [e1]; exact nb1, re_end hR4.1.1 k5 f615 hen h53, by rw [k5 7 7 rfl rfl, hR4.1.2.1]; rfl, f66, by rw [k5 8 6 rfl rfl]; exact hR4.1.2.2.2.2.2, by rw [k5 9 5 rfl rfl, hR4.2.1]; rfl⟩⟩
      · have : (s 0 12).toInt ≠ 0 := by rw [e1]; exact hw4.1 c4
        exact gv_bad c4 this (fun s' h => ⟨fun _ => this, fun hx => absurd hx h⟩)
    · have := mP (hw3.1 c2)
      exact gv_bad c2 this (fun s' h => ⟨fun _ => this, fun hx => absurd hx h⟩)
  · have n22 : kd p1 ≠ 22 := fun h => (hv7.2 h) c7
    obtain ⟨m', hG3, e10, e64, e37, e38, hft, hgd⟩ := fn_fin hG1 hu ku (by omega) hst3 hl8 hfn (Or.inl ⟨n22, rfl⟩)
    have g3 : GMt s162 n p1 := gm_k g1 e10
    refine mr_expect hG3.1.1 g3 (c := 27) (by decide) (by decide) (fun c27 s170 k170 g170 => ?_) (fun c27 => kn (fu_0 hhd n22 c27))
    have e3 : s170 0 12 = s162 0 12 := k170 0 12 rfl rfl
    have d3 := ds_k k170 rfl rfl
    refine kk s170 τ vs (p1 + 1) m' d _ (fu_p hhd n22 c27) (by omega) g170 (rg_ds hG3 d3 (by rw [e3]; exact rgq_0 hG3.1)) (fun hx => by rw [e3]; exact hft.2.2 (Or.inl (by rw [e12]; exact hx))) tf_rf ?_
    intro h0 w hR hf
    have hE1 : REq kd n 0 m lo w s1 := re_cd hR.1 cd_rf dd1
    have n1 : (s1 0 12).toInt = 0 := by rw [e12]; exact h0
    refine gv_d (x := (47, u, sgI l, (rs + 1) * 8 + lk)) (by simp) (fun _ => da_fun (fun a b c ea eb ec => uf_step (body := kd p1 = 22) (rest := True) hE1 hf n1 h15 ea hu ku hl hr hr5 eb (Or.inl ⟨ec, n22⟩) hst3 hst hl8 ht he hfn hft hgd (fun hB sx h63 => ?_) (fun sx dx hd9 h63 n3 hE3 hfu => ?_))) (fun hx => absurd hf hx)
    · exact ⟨fun _ => by rw [e3]; exact hB, fun hx => absurd hx h63⟩
    · obtain ⟨ko, _, _, _, _, _, _, _, fnb⟩ := hfu
      obtain ⟨q66, _⟩ := fnb n22
      exact ⟨fun hx => absurd h63 hx, fun _ => ⟨by rw [e3]; exact n3, re_cd hE3 cd_rf d3.1, by rw [ko 7 7 rfl rfl]; exact hR.2.1, by rw [q66]; exact hR.2.2.1, by rw [ko 8 6 rfl rfl]; exact hR.2.2.2.1, by rw [ko 9 5 rfl rfl]; exact hR.2.2.2.2⟩⟩
end EFU
end

section
/-! items of a unit -/
section ITM
variable {s σ τ : St} {kd vl : Nat → Int} {n m lo d p q ty : Nat} {vs : List Nat} {lk : Int} {F0 : Prop} {a : Int32}
theorem mr_isWord {Q : Int32 → Prop} {c : Nat} (tk : RTk σ kd n) (g : GMt σ n p) (hc : c ≤ 62) (ha : rkI (c : Int) = a.toInt) (k : ∀ v : Int32, (v = 0 ∨ v = 1) → (v.toInt ≠ 0 ↔ kd p = (c : Int)) → Q v) : pp_isWord a σ τ vs Q := by
  unfold pp_isWord
  have e : (σ 0 10).toNatClampNeg = p := nat_of g.1
  have r := rk_to tk g.2 c hc ha
  rw [e]
  exact fun _ => ⟨fun h => k 0 (Or.inl rfl) ⟨fun h0 => absurd rfl h0, fun h1 => absurd (r.2 h1) h⟩, fun h => k 1 (Or.inr rfl) ⟨fun _ => r.1 h, fun _ => by decide⟩⟩
theorem lkq_1 {k : Int} : lkq k = 1 ↔ k = 7 := by
  unfold lkq
  by_cases h : k = 7
  · rw [if_pos h]; exact ⟨fun _ => h, fun _ => rfl⟩
  · rw [if_neg h]
    by_cases h8 : k = 8
    · rw [if_pos h8]; omega
    · rw [if_neg h8]; omega
theorem lkq_2 {k : Int} : lkq k = 2 ↔ k = 8 := by
  unfold lkq
  by_cases h : k = 7
  · rw [if_pos h]; omega
  · rw [if_neg h]
    by_cases h8 : k = 8
    · rw [if_pos h8]; exact ⟨fun _ => h8, fun _ => rfl⟩
    · rw [if_neg h8]; omega
theorem lkq_r {k : Int} : lkq k = 0 ∨ lkq k = 1 ∨ lkq k = 2 := by
  unfold lkq
  by_cases h : k = 7
  · rw [if_pos h]; exact Or.inr (Or.inl rfl)
  · rw [if_neg h]
    by_cases h8 : k = 8
    · rw [if_pos h8]; exact Or.inr (Or.inr rfl)
    · rw [if_neg h8]; exact Or.inl rfl
theorem vn_eq (hs : SRq kd 5 p = some (ty, q)) (c : kd q = 2) : (fun N => VNn kd vl N lk p) = fun N => VSn kd vl N lk q ty (q + 1) := funext (fun N => by
  unfold VNn
  rw [hs]
  exact if_pos c)
theorem es_item {Q : St → St → List Nat → Prop} (hG : RGs kd vl n 0 m lo d σ) (hg : GMt σ n p)
    (kk : ∀ s t z p' m' d' g, EVq (fun N => I1n kd vl N (lkq (kd p)) (if lkq (kd p) = 0 then p else p + 1)) (some (p', g)) → p < p' → GMt s n p' → RGs kd vl n 0 m' lo d' s → MNq σ s → TFq τ vs t z → USq kd n m m' lo g σ s → Q s t z) (kn : EVq (fun N => I1n kd vl N (lkq (kd p)) (if lkq (kd p) = 0 then p else p + 1)) none → F0) : pp_item σ τ vs Q (fun _ _ _ => F0) := by
  unfold pp_item
  refine mr_isWord hG.1.1 hg (c := 7) (by decide) (by decide) (fun v3 h3 w3 => mr_isWord hG.1.1 hg (c := 8) (by decide) (by decide) (fun v10 h10 w10 => ?_))
  have hst : lkq (kd p) = 1 ↔ v3.toInt ≠ 0 := ⟨fun h => w3.2 (lkq_1.1 h), fun h => lkq_1.2 (w3.1 h)⟩
  have hex : lkq (kd p) = 2 ↔ v10.toInt ≠ 0 := ⟨fun h => w10.2 (lkq_2.1 h), fun h => lkq_2.2 (w10.1 h)⟩
  have hl : lkq (kd p) = 0 ∨ lkq (kd p) = 1 ∨ lkq (kd p) = 2 := lkq_r
  have h0 : kd p = 7 ∨ kd p = 8 → ¬ lkq (kd p) = 0 := fun h hx => by
    rcases h with h | h
    · have := lkq_1.2 h; omega
    · have := lkq_2.2 h; omega
  have h1 : ¬ (kd p = 7 ∨ kd p = 8) → lkq (kd p) = 0 := fun h => by
    rcases hl with h' | h' | h'
    · exact h'
    · exact absurd (Or.inl (lkq_1.1 h')) h
    · exact absurd (Or.inr (lkq_2.1 h')) h
  generalize hp1 : (if lkq (kd p) = 0 then p else p + 1) = p1 at kk kn
  have hpp : p ≤ p1 := by rw [← hp1]; split <;> omega
  generalize lkq (kd p) = lk at hst hex hl kk kn h0 h1 hp1
  refine ⟨fun s t z => t = τ ∧ z = vs ∧ GMt s n p1 ∧ Kp [(0, 10)] [] σ s, ?_, kd p = 7 ∨ kd p = 8, fun hj => ⟨rfl, rfl, ?_, kp_f kp_rf rfl⟩, fun c => Or.inl (w3.1 c), fun c3 => ⟨fun c10 => ⟨rfl, rfl, ?_, kp_rf⟩, fun c => Or.inr (w10.1 c)⟩⟩
  rotate_left
  · rw [← hp1, if_neg (h0 hj)]
    exact gm_up hG.1.1 hg (by rcases hj with h | h <;> omega)
  · have : ¬ (kd p = 7 ∨ kd p = 8) := fun h => by
      rcases h with h | h
      · exact (w3.2 h) c3
      · exact (w10.2 h) c10
    rw [← hp1, if_pos (h1 this)]
    exact hg
  rintro s t z ⟨et, ez, g1, k1⟩
  rw [et, ez]
  have tk1 : RTk s kd n := rtk_k k1 (fun _ => rfl) rfl hG.1.1
  have en1 : (s 0 10).toNatClampNeg = p1 := nat_of g1.1
  have r6 : (s 2 p1).toInt = 6 ↔ kd p1 = 6 := rk_to tk1 g1.2 6 (by decide) (j := 6) (by decide)
  have r5 : (s 2 p1).toInt = 5 ↔ kd p1 = 5 := rk_to tk1 g1.2 5 (by decide) (j := 5) (by decide)
  have hn16 := tk1.1
  -- what stands behind, in any state that differs by the place alone
  have go : ∀ s', Kp [(0, 10)] [] σ s' → RGs kd vl n 0 m lo d s' ∧ s' 0 12 = σ 0 12 ∧ DDq σ s' := fun s' k' => by
    have e12 : s' 0 12 = σ 0 12 := k' 0 12 rfl rfl
    have dd := ds_k k' rfl rfl
    exact ⟨rg_ds hG dd (by rw [e12]; exact rgq_0 hG.1), e12, dd.1⟩
  have fin : ∀ s', Kp [(0, 10)] [] σ s' → ∀ s2 t2 z2 p' m' d' g, EVq (fun N => I1n kd vl N lk p1) (some (p', g)) → p < p' → GMt s2 n p' → RGs kd vl n 0 m' lo d' s2 → MNq s' s2 → TFq τ vs t2 z2 → USq kd n m m' lo g s' s2 → Q s2 t2 z2 := fun s' k' s2 t2 z2 p' m' d' g hev hp hgm hR hm htf hu => by
    obtain ⟨_, e12, dd⟩ := go s' k'
    exact kk s2 t2 z2 p' m' d' g hev hp hgm hR (fun hx => hm (by rw [e12]; exact hx)) htf (us_src dd e12 hu)
  have func : ∀ (a1 a2 : Int32) (u q : Nat) (rs : Int) (s' : St), a1.toInt = (u : Int) → u ≤ n → kd u = 2 → a2.toInt = rs → -1 ≤ rs ∧ rs ≤ 5 → Kp [(0, 10)] [] σ s' → GMt s' n q → p < q → (∀ R, EVq (fun N => FUn kd vl N lk rs u q) R → EVq (fun N => I1n kd vl N lk p1) R) → pp_function a1 a2 v3 s' τ vs (fun s185 t185 z185 => Q s185 t185 z185) (fun _ _ _ => F0) := fun a1 a2 u q rs s' ha1 hun ku ha2 hrs k' g' hpq hI => by
    obtain ⟨hG', e12, dd⟩ := go s' k'
    exact es_function ha1 hun ku ha2 hrs h3 hl hst hG' g' (fun s2 t2 z2 p' m' d' g hev hp hgm hR hm htf hu => fin s' k' s2 t2 z2 p' m' d' g (hI _ hev) (by omega) hgm hR hm htf hu) (fun hn => kn (hI _ hn))
  rw [en1]
  refine fun _ => ⟨fun n6 => ?_, fun c6 => ?_⟩
  rotate_left
  · have k6 := r6.1 c6
    have ga := gm_up tk1 g1 (by omega)
    have ka : Kp [(0, 10)] [] s (upC s 0 10 ((s 0 10) + (1 : Int32))) := kp_f kp_rf rfl
    have e1 : ((s 0 10) + (1 : Int32)).toInt = ((p1 + 1 : Nat) : Int) := by rw [ad1 (by have := g1.1; have := g1.2; omega), g1.1]; rfl
    have n1 : ((s 0 10) + (1 : Int32)).toNatClampNeg = p1 + 1 := nat_of e1
    have r2 : (s 2 (p1 + 1)).toInt = 2 ↔ kd (p1 + 1) = 2 := rk_to tk1 ga.2 2 (by decide) (j := 2) (by decide)
    rw [n1]
    refine fun _ => ⟨fun c2 => ?_, fun c2 => ?_⟩
    · have k2 := r2.1 c2
      have gb := gm_up (rtk_k ka (fun _ => rfl) rfl tk1) ga (by omega)
      have eb : upC (upC s 0 10 ((s 0 10) + (1 : Int32))) 0 10 (((upC s 0 10 ((s 0 10) + (1 : Int32))) 0 10) + (1 : Int32)) = upC (upC s 0 10 ((s 0 10) + (1 : Int32))) 0 10 (((s 0 10) + (1 : Int32)) + (1 : Int32)) := by rw [rdA_eq rfl]
      rw [eb] at gb
      exact func _ _ (p1 + 1) (p1 + 2) (-1) _ e1 ga.2 k2 (by decide) (by decide) (kp_tr k1 (kp_tr ka (kp_f kp_rf rfl))) gb (by omega) (fun R h => i1_v k6 k2 h)
    · have k2 : kd (p1 + 1) ≠ 2 := fun h => c2 (r2.2 h)
      unfold pp_wrong pp_wrongAt
      exact fun _ => kn (i1_v0 k6 k2)
  have k6 : kd p1 ≠ 6 := fun h => n6 (r6.2 h)
  refine fun _ => ⟨fun c5 => ?_, fun n5 => ?_⟩
  rotate_left
  · have k5 : kd p1 ≠ 5 := fun h => n5 (r5.2 h)
    unfold pp_wrong pp_wrongAt
    exact fun _ => kn (i1_0 k6 k5)
  have k5 := r5.1 c5
  have ga := gm_up tk1 g1 (by omega)
  have e1 : ((s 0 10) + (1 : Int32)).toInt = ((p1 + 1 : Nat) : Int) := by rw [ad1 (by have := g1.1; have := g1.2; omega), g1.1]; rfl
  have ka : Kp [(0, 10)] [] s (upC s 0 10 ((s 0 10) + (1 : Int32))) := kp_f kp_rf rfl
  generalize upC s 0 10 ((s 0 10) + (1 : Int32)) = sa at ga ka
  have tka : RTk sa kd n := rtk_k ka (fun _ => rfl) rfl tk1
  have ksa : Kp [(0, 10)] [] σ sa := kp_tr k1 ka
  refine mr_stars tka ga (fun y s131 i q hy hi hs hq g131 k131 => ?_) (fun hs => kn (i1_s0 k5 hs))
  have tk131 : RTk s131 kd n := rtk_k k131 (fun _ => rfl) rfl tka
  have en : (s131 0 10).toNatClampNeg = q := nat_of g131.1
  have r2 : (s131 2 q).toInt = 2 ↔ kd q = 2 := rk_to tk131 g131.2 2 (by decide) (j := 2) (by decide)
  have kb : Kp [(0, 10)] [] σ s131 := kp_tr ksa k131
  rw [en]
  refine fun _ => ⟨fun c2 => ?_, fun c2 => ?_⟩
  rotate_left
  · have k2 : kd q ≠ 2 := fun h => c2 (r2.2 h)
    unfold pp_wrong pp_wrongAt
    exact fun _ => kn (i1_s1 k5 hs k2)
  have k2 := r2.1 c2
  have gq := gm_up tk131 g131 (by omega)
  have kq : Kp [(0, 10)] [] s131 (upC s131 0 10 ((s131 0 10) + (1 : Int32))) := kp_f kp_rf rfl
  generalize upC s131 0 10 ((s131 0 10) + (1 : Int32)) = sq at gq kq
  have tkq : RTk sq kd n := rtk_k kq (fun _ => rfl) rfl tk131
  have kσq : Kp [(0, 10)] [] σ sq := kp_tr kb kq
  refine mr_is1 tkq gq (c := 20) (by decide) (by decide) (fun v173 w173 => ⟨fun cv => ?_, fun cv => ?_⟩)
  · have c20 : kd (q + 1) ≠ 20 := fun h => (w173.2 h) cv
    have kr : Kp [(0, 10)] [] σ (upC sq 0 10 ((s 0 10) + (1 : Int32))) := kp_tr kσq (kp_f kp_rf rfl)
    have gr : GMt (upC sq 0 10 ((s 0 10) + (1 : Int32))) n (p1 + 1) := ⟨by rw [rdA_eq rfl]; exact e1, ga.2⟩
    generalize upC sq 0 10 ((s 0 10) + (1 : Int32)) = sr at kr gr
    obtain ⟨hG', e12, dd⟩ := go sr kr
    have hI : ∀ R, EVq (fun N => VNn kd vl N lk (p1 + 1)) R → EVq (fun N => I1n kd vl N lk p1) R := fun R h => i1_w k5 hs k2 c20 (by rw [vn_eq hs k2] at h; exact h)
    exact es_uvars h3 hl hst hex hG' gr (fun s2 t2 z2 p' m' g hev hp hgm hR hm htf hu => fin sr kr s2 t2 z2 p' m' d g (hI _ hev) (by omega) hgm hR hm htf hu) (fun hn => kn (hI _ hn))
  · have c20 := w173.1 cv
    exact func _ _ q (q + 1) (i : Int) sq g131.1 g131.2 k2 hy (by omega) kσq gq (by omega) (fun R h => i1_f k5 hs k2 c20 h)
end ITM
end

section
/-! the end of a unit: what has no body -/
/-- a static function of the unit that is called and has no body -/
def NBk (w : St) (m i : Nat) : Prop := FLq w ((w 5 1).toInt.toNat - m + i) 2 ∧ ¬ FLq w ((w 5 1).toInt.toNat - m + i) 4 ∧ 0 ≤ (w 39 i).toInt
def NBp (σ : St) (lo i : Nat) : Prop := (σ 9 (lo + i)).toInt = 2 ∧ (σ 12 (lo + i)).toInt ≠ 0 ∧ (σ 13 (lo + i)).toInt = 0 ∧ 0 ≤ (σ 21 i).toInt
section FNS
variable {w s σ τ : St} {kd : Nat → Int} {n m lo i : Nat} {vs : List Nat} {x x1 : Int32} {P : Nat → Prop}
theorem nb_eq (h : ORR w σ kd n i ((w 5 1).toInt.toNat - m + i) (lo + i)) : NBk w m i ↔ NBp σ lo i := by
  obtain ⟨_, _, _, _, h1, h9, _, _, _, _, h39, h2, h4, h124, _, _, _⟩ := h
  have e39 : 0 ≤ (w 39 i).toInt ↔ 0 ≤ (σ 21 i).toInt := by omega
  constructor
  · rintro ⟨a, b, c⟩
    have c1 := Classical.byContradiction (fun hx => b (h124 hx a))
    exact ⟨h9.resolve_left (h1.1 c1), h2.1 a, Classical.byContradiction (fun hx => b (h4.2 hx)), e39.1 c⟩
  · rintro ⟨a, b, c, d⟩
    exact ⟨h2.2 b, fun hx => (h4.1 hx) c, e39.2 d⟩
/-- one more looked at -/
theorem some_no (h : 0 ≤ x.toInt ↔ ∃ j, j < i ∧ P j) (hn : ¬ P i) : 0 ≤ x.toInt ↔ ∃ j, j < i + 1 ∧ P j := by
  rw [h]
  constructor
  · rintro ⟨j, hj, hp⟩; exact ⟨j, Nat.lt_succ_of_lt hj, hp⟩
  · rintro ⟨j, hj, hp⟩
    rcases Nat.lt_succ_iff_lt_or_eq.mp hj with h' | h'
    · exact ⟨j, h', hp⟩
    · rw [h'] at hp; exact absurd hp hn
theorem some_yes (hx : 0 ≤ x.toInt) (hp : P i) : 0 ≤ x.toInt ↔ ∃ j, j < i + 1 ∧ P j := ⟨fun _ => ⟨i, Nat.lt_succ_self i, hp⟩, fun _ => hx⟩
theorem no_zero : ¬ ∃ j, j < 0 ∧ P j := fun ⟨j, hj, _⟩ => absurd hj (Nat.not_lt_zero j)
theorem fd_at {a b x : Int32} (ha : b.toInt = (m : Int)) (hm : m ≤ 100) (h51 : (m : Int) ≤ a.toInt ∧ a.toInt ≤ 10100) (hx : x.toInt = (i : Int)) (hi : i < m) : ((a - b) + x).toInt = ((a.toInt.toNat - m + i : Nat) : Int) ∧ a.toInt.toNat - m + i < 10100 := by
  have e1 := sb (x := a) (y := b) (by omega) (by omega)
  rw [ad (by rw [e1]; omega) (by rw [e1]; omega), e1]
  omega
theorem xf_finish {Q : St → Prop} (h67 : (w 6 7).toInt = (m : Int)) (hm : m ≤ 100) (h51 : (m : Int) ≤ (w 5 1).toInt ∧ (w 5 1).toInt ≤ 10100) (kk : ∀ s, Kp [(6, 3), (6, 4)] [] w s → ((s 6 3).toInt ≠ 0 ↔ (w 6 3).toInt ≠ 0 ∨ ∃ i, i < m ∧ NBk w m i) → Q s) : pk_X11_finish w Q := by
  unfold pk_X11_finish
  refine ⟨fun x1 x2 => ∃ i : Nat, x2.toInt = (i : Int) ∧ i ≤ m ∧ (0 ≤ x1.toInt ↔ ∃ j, j < i ∧ NBk w m j), ⟨0, rfl, Nat.zero_le _, ⟨fun h => absurd h (by decide), fun h => absurd h no_zero⟩⟩, ?_⟩
  rintro x1 x2 ⟨i, hx2, him, hb⟩
  refine ⟨fun c => ?_, fun c => ?_⟩
  · have ei : i = m := by clear hb; omega
    rw [ei] at hb
    exact ⟨fun c1 => kk w kp_rf ⟨Or.inl, fun h => h.elim id (fun h' => absurd (hb.2 h') (Int.not_le.mpr c1))⟩, fun c1 => xl_fail (by decide) (fun s k h => kk s k ⟨fun _ => Or.inr (hb.1 c1), fun _ => h⟩)⟩
  · have hi : i < m := by clear hb; omega
    obtain ⟨ed, hd⟩ := fd_at (a := w 5 1) (b := w 6 7) h67 hm h51 hx2 hi
    have af : atv 10100 (w 25) (((w 5 1) - (w 6 7)) + x2) = w 25 ((w 5 1).toInt.toNat - m + i) := atv_at ed hd
    have at39 : atv 100 (w 39) x2 = w 39 i := atv_at hx2 (Nat.lt_of_lt_of_le hi hm)
    have e1 : (x2 + 1).toInt = ((i + 1 : Nat) : Int) := by
      clear hb
      rw [ad1 (by omega), hx2]; rfl
    refine xl_is (fun v43 _ h43 => ?_)
    rw [af] at h43
    refine ⟨fun y => y.toInt ≠ 0 ↔ FLq w ((w 5 1).toInt.toNat - m + i) 2 ∧ ¬ FLq w ((w 5 1).toInt.toNat - m + i) 4, fun y _ hy => ?_, ¬ (FLq w ((w 5 1).toInt.toNat - m + i) 2 ∧ ¬ FLq w ((w 5 1).toInt.toNat - m + i) 4), fun hj => ⟨fun h => absurd rfl h, fun h => absurd h hj⟩, fun c0 h => (h43.2 h.1) c0, fun c0 => xl_is (fun v55 _ h55 => ?_)⟩
    rotate_left
    · rw [af] at h55
      exact ⟨fun c1 h => h.2 (h55.1 c1), fun c1 => ⟨fun _ => ⟨h43.1 c0, fun h => (h55.2 h) c1⟩, fun _ => by decide⟩⟩
    rw [at39]
    refine ⟨fun x => (0 ≤ x.toInt ↔ ∃ j, j < i + 1 ∧ NBk w m j), fun x hx => ⟨i + 1, e1, hi, hx⟩, fun c0 => some_no hb (fun h => (hy.2 ⟨h.1, h.2.1⟩) c0), fun c0 => ⟨fun c39 => some_no hb (fun h => absurd h.2.2 (Int.not_le.mpr c39)), fun c39 => ?_⟩⟩
    have nb : NBk w m i := ⟨(hy.1 c0).1, (hy.1 c0).2, c39⟩
    exact ⟨True, fun _ => some_yes c39 nb, fun _ => trivial, fun c1 => ⟨fun _ => some_yes c1 nb, fun _ => trivial⟩⟩
theorem mr_bodiless {Q : St → St → List Nat → Prop} (hE : EOKm σ lo (lo + m)) (hm : m ≤ 100) (h0 : 0 ≤ (σ 0 12).toInt) (h15 : (σ 0 15).toInt = 0) (kk : ∀ s, KFr σ s → ((s 0 12).toInt ≠ 0 ↔ (σ 0 12).toInt ≠ 0 ∨ ∃ i, i < m ∧ NBp σ lo i) → 0 ≤ (s 0 12).toInt → Q s τ vs) : pp_bodiless σ τ vs Q := by
  obtain ⟨e22, e36, _, hle, _⟩ := hE
  unfold pp_bodiless
  generalize σ 22 (σ 0 35).toNatClampNeg = f at e22
  refine fun _ => ⟨fun x1 x2 => ∃ i : Nat, x2.toInt = ((lo + i : Nat) : Int) ∧ i ≤ m ∧ (0 ≤ x1.toInt ↔ ∃ j, j < i ∧ NBp σ lo j), ⟨0, e22, Nat.zero_le _, ⟨fun h => absurd h (by decide), fun h => absurd h no_zero⟩⟩, ?_⟩
  rintro x1 x2 ⟨i, hx2, him, hb⟩
  refine ⟨fun c => ?_, fun c => ?_⟩
  · have ei : i = m := by clear hb; omega
    rw [ei] at hb
    exact ⟨fun c1 => kk σ kp_rf ⟨Or.inl, fun h => h.elim id (fun h' => absurd (hb.2 h') (Int.not_le.mpr c1))⟩ h0, fun c1 => mr_tell h0 (by decide) (fun s k h => kk s k ⟨fun _ => Or.inr (hb.1 c1), fun _ => h.2.2 (Or.inr ⟨trivial, by clear hb; omega⟩)⟩ h.1)⟩
  · have hi : i < m := by clear hb; omega
    have e1 : (x2 + 1).toInt = ((lo + (i + 1) : Nat) : Int) := by
      clear hb
      rw [ad1 (by omega), hx2]; rfl
    have en : x2.toNatClampNeg = lo + i := nat_of hx2
    have ef : (x2 - f).toNatClampNeg = i := nat_of (by clear hb; rw [sb (by omega) (by omega)]; omega)
    rw [en, ef]
    refine fun _ _ _ => ⟨fun x => (0 ≤ x.toInt ↔ ∃ j, j < i + 1 ∧ NBp σ lo j), fun x hx => ⟨i + 1, e1, hi, hx⟩, fun c0 => some_no hb (fun h => c0 h.1), fun c9 _ => ⟨fun c0 => some_no hb (fun h => h.2.1 c0), fun c12 _ => ⟨fun c0 => some_no hb (fun h => c0 h.2.2.1), fun c13 => ⟨fun c0 => some_no hb (fun h => absurd h.2.2.2 (Int.not_le.mpr c0)), fun c21 => ?_⟩⟩⟩⟩
    have nb : NBp σ lo i := ⟨c9, c12, c13, c21⟩
    exact ⟨True, fun _ => some_yes c21 nb, fun _ => trivial, fun c1 => ⟨fun _ => some_yes c1 nb, fun _ => trivial⟩⟩
end FNS
end

section
/-! a unit is read -/
/-- the tokens' kinds and values, from what the text tells -/
def TKLq (L : List (Int32 × Int32 × Int)) (c : Int32) (kd vl : Nat → Int) (n : Nat) : Prop := n = L.length ∧ kd n = c.toInt ∧ (∀ p, n < p → kd p = 0) ∧ ∀ (j : Nat) (k v : Int32) (q : Int), L[j]? = some (k, v, q) → kd j = k.toInt ∧ (k.toInt = 4 → vl j = v.toInt)
section TKN
variable {f : Nat → Int32} {N q e : Int} {k v c : Int32} {y : TSq} {L : List (Int32 × Int32 × Int)} {σ s w : St} {kd vl : Nat → Int} {n p : Nat}
theorem tok_rng (h : TOKq (byt f N) q k v e) (h0 : 0 ≤ byt f N q) : (k.toInt = 2 → 0 ≤ q ∧ 0 ≤ v.toInt ∧ q + v.toInt ≤ N) ∧ (k.toInt = 4 → 0 ≤ v.toInt ∧ v.toInt ≤ 200) := by
  have hq := byt_in h0
  unfold TOKq at h
  by_cases c1 : LTq (byt f N q)
  · rw [if_pos c1] at h
    obtain ⟨⟨h1, h2, _⟩, h4, h5, h6⟩ := h
    refine ⟨fun _ => ⟨hq.1, by omega, ?_⟩, fun h4 => ?_⟩
    · by_cases ce : q < e
      · have hb := h2 (e - 1) (by omega) (by omega)
        have : 0 ≤ byt f N (e - 1) := by unfold NDq at hb; omega
        have := byt_in this
        omega
      · omega
    · rcases h6 with ⟨w, _, hw⟩ | ⟨_, hk⟩
      · omega
      · omega
  rw [if_neg c1] at h
  by_cases c2 : DGq (byt f N q)
  · rw [if_pos c2] at h
    by_cases c3 : HSq (byt f N) q
    · rw [if_pos c3] at h
      have := h.2.2.1
      exact ⟨fun h' => by omega, fun h' => by omega⟩
    · rw [if_neg c3] at h
      have := h.2.2.1
      exact ⟨fun h' => by omega, fun h' => by omega⟩
  rw [if_neg c2] at h
  by_cases c3 : byt f N q = 39
  · rw [if_pos c3] at h
    have := h.2.2.2.1
    exact ⟨fun h' => by omega, fun h' => by omega⟩
  rw [if_neg c3] at h
  by_cases c4 : byt f N q = 34
  · rw [if_pos c4] at h
    obtain ⟨n, ⟨hn, _⟩, _, hk, hv⟩ := h
    exact ⟨fun h' => by omega, fun _ => by omega⟩
  rw [if_neg c4] at h
  obtain ⟨w, _, _, hk, _⟩ := h
  exact ⟨fun h' => by omega, fun h' => by omega⟩
theorem rch_all (hN : 0 ≤ N) (h : RCHq (byt f N) (0, []) y) : ((y.2.length : Int) ≤ y.1 ∧ (y.2.length : Int) ≤ N) ∧ ∀ (j : Nat) (k v : Int32) (q : Int), y.2[j]? = some (k, v, q) → (2 ≤ k.toInt ∧ k.toInt ≤ 62) ∧ (k.toInt = 2 → 0 ≤ q ∧ 0 ≤ v.toInt ∧ q + v.toInt ≤ N) ∧ (k.toInt = 4 → 0 ≤ v.toInt ∧ v.toInt ≤ 200) := by
  refine h (fun y => ((y.2.length : Int) ≤ y.1 ∧ (y.2.length : Int) ≤ N) ∧ ∀ (j : Nat) (k v : Int32) (q : Int), y.2[j]? = some (k, v, q) → (2 ≤ k.toInt ∧ k.toInt ≤ 62) ∧ (k.toInt = 2 → 0 ≤ q ∧ 0 ≤ v.toInt ∧ q + v.toInt ≤ N) ∧ (k.toInt = 4 → 0 ≤ v.toInt ∧ v.toInt ≤ 200)) ⟨⟨Int.le_refl _, hN⟩, fun j k v q h => by cases h⟩ ?_
  rintro u v ⟨⟨h1, h2⟩, h3⟩ (⟨b1, b2⟩ | ⟨⟨b0, _, _⟩, k, x, e, ht, ev⟩)
  · have := bl_up b1
    rw [b2]
    exact ⟨⟨by omega, h2⟩, h3⟩
  · have hp := byt_in b0
    have up := tok_up ht
    rw [ev]
    refine ⟨?_, fun j k' v' q' hj => ?_⟩
    · show (((u.2 ++ [(k, x, u.1)]).length : Nat) : Int) ≤ e ∧ (((u.2 ++ [(k, x, u.1)]).length : Nat) : Int) ≤ N
      rw [List.length_append]
      show ((u.2.length + 1 : Nat) : Int) ≤ e ∧ ((u.2.length + 1 : Nat) : Int) ≤ N
      omega
    · rcases app_at hj with ⟨_, hj'⟩ | ⟨_, hj'⟩
      · exact h3 j k' v' q' hj'
      · cases hj'
        exact ⟨tok_k ht, tok_rng ht b0⟩
theorem fin_c {b : Int → Int} (h : FINq b q c) : c = 0 ∨ c = 1 := by
  rcases h with ⟨_, h⟩ | ⟨_, h⟩
  · exact Or.inl h
  · exact Or.inr h
/-- the kinds that L and c tell -/
def kdL (L : List (Int32 × Int32 × Int)) (c : Int32) (p : Nat) : Int := if p = L.length then c.toInt else match L[p]? with | some x => x.1.toInt | none => 0
theorem tl_kd (hv : ∀ (j : Nat) (k v : Int32) (q : Int), L[j]? = some (k, v, q) → k.toInt = 4 → vl j = v.toInt) : TKLq L c (kdL L c) vl L.length := by
  refine ⟨rfl, if_pos rfl, fun p hp => ?_, fun j k v q h => ⟨?_, hv j k v q h⟩⟩
  · unfold kdL
    rw [if_neg (by omega), List.getElem?_eq_none (by omega)]
  · have := ltn h
    unfold kdL
    rw [if_neg (by omega), h]
theorem tl_at (hT : TKLq L c kd vl n) (hp : p < n) : ∃ k v q, L[p]? = some (k, v, q) ∧ kd p = k.toInt := by
  obtain ⟨h1, _, _, h4⟩ := hT
  rw [h1] at hp
  refine ⟨L[p].1, L[p].2.1, L[p].2.2, ?_, ?_⟩
  · exact List.getElem?_eq_getElem hp
  · exact (h4 p L[p].1 L[p].2.1 L[p].2.2 (List.getElem?_eq_getElem hp)).1
/-- the reference's tokens -/
theorem tl_ref (hN : 0 ≤ N ∧ N ≤ 16000) (h : RCHq (byt f N) (0, []) (q, L)) (hf : FINq (byt f N) q c) (hM : FMq σ L c) (hT : TKLq L c kd vl n) : RTk σ kd n ∧ (∀ p, p ≤ n → kd p = 2 → TNm σ p) ∧ ∀ p, p ≤ n → kd p = 4 → 0 ≤ (σ 6 p).toInt ∧ (σ 6 p).toInt ≤ 200 := by
  obtain ⟨⟨_, a1⟩, a2⟩ := rch_all hN.1 h
  have a1 : (L.length : Int) ≤ N := a1
  have hc := fin_c hf
  have hT' := hT
  obtain ⟨t1, t2, t3, t4⟩ := hT
  obtain ⟨m1, m2, m3⟩ := hM
  have c01 : 0 ≤ c.toInt ∧ c.toInt ≤ 1 := by rcases hc with h | h <;> rw [h] <;> decide
  refine ⟨⟨by omega, fun p hp => ?_, fun p => ?_, t3, by rw [t2]; exact c01.2⟩, fun p hp k2 => ?_, fun p hp k4 => ?_⟩
  · by_cases cp : p = n
    · rw [cp, t2, t1, m3]
      rcases hc with h | h <;> rw [h] <;> decide
    · obtain ⟨k, v, q', hj, hk⟩ := tl_at hT' (p := p) (by omega)
      rw [hk]
      exact (m2 p k v q' hj).1
  · by_cases cp : p < n
    · obtain ⟨k, v, q', hj, hk⟩ := tl_at hT' cp
      have := (a2 p k v q' hj).1
      rw [hk]
      omega
    · by_cases cn : p = n
      · rw [cn, t2]; omega
      · rw [t3 p (by omega)]; omega
  · have hlt : p < n := by
      by_cases cp : p = n
      · rw [cp, t2] at k2; omega
      · omega
    obtain ⟨k, v, q', hj, hk⟩ := tl_at hT' hlt
    rw [hk] at k2
    obtain ⟨b1, b2, b3, _⟩ := m2 p k v q' hj
    have b3 := b3 k2
    obtain ⟨_, r2, _⟩ := a2 p k v q' hj
    have r2 := r2 k2
    exact ⟨by omega, by omega, by omega, by omega⟩
  · have hlt : p < n := by
      by_cases cp : p = n
      · rw [cp, t2] at k4; omega
      · omega
    obtain ⟨k, v, q', hj, hk⟩ := tl_at hT' hlt
    rw [hk] at k4
    obtain ⟨_, _, _, b4⟩ := m2 p k v q' hj
    obtain ⟨_, _, r3⟩ := a2 p k v q' hj
    rw [b4 (Or.inr k4)]
    exact r3 k4
/-- the class's tokens -/
theorem tl_cls (hN : 0 ≤ N ∧ N ≤ 16000) (h : RCHq (byt f N) (0, []) (q, L)) (hf : FINq (byt f N) q c) (hC : FNq w L c) (hT : TKLq L c kd vl n) : TKv w kd vl n := by
  obtain ⟨⟨_, a1⟩, a2⟩ := rch_all hN.1 h
  have a1 : (L.length : Int) ≤ N := a1
  have hc := fin_c hf
  have hT' := hT
  obtain ⟨t1, t2, t3, t4⟩ := hT
  obtain ⟨m1, m2, m3⟩ := hC
  refine ⟨⟨by rw [m1, t1], by omega, fun p hp => ?_, t3, fun p hp => ?_, ?_⟩, fun p hp k4 => ?_⟩
  · by_cases cp : p = n
    · rw [cp, t2, t1, m3]
    · obtain ⟨k, v, q', hj, hk⟩ := tl_at hT' (p := p) (by omega)
      rw [hk, (m2 p k v q' hj).1]
  · obtain ⟨k, v, q', hj, hk⟩ := tl_at hT' hp
    rw [hk]
    exact (a2 p k v q' hj).1
  · rw [t2]
    rcases hc with h | h <;> rw [h] <;> decide
  · have hlt : p < n := by
      by_cases cp : p = n
      · rw [cp, t2] at k4
        rcases hc with h | h <;> rw [h] at k4 <;> exact absurd k4 (by decide)
      · omega
    obtain ⟨k, v, q', hj, hk⟩ := tl_at hT' hlt
    rw [hk] at k4
    rw [(m2 p k v q' hj).2.1, (t4 p k v q' hj).2 k4]
    exact ⟨rfl, (a2 p k v q' hj).2.2 k4⟩
/-- both -/
theorem tl_both (hN : 0 ≤ N ∧ N ≤ 16000) (h : RCHq (byt f N) (0, []) (q, L)) (hf : FINq (byt f N) q c) (hM : FMq σ L c) (hC : FNq w L c) (hT : TKLq L c kd vl n) (ht : ∀ i : Nat, i < 16000 → (w 1 i).toInt = (σ 1 i).toInt) : TKR w σ kd n := by
  obtain ⟨r1, r2, r3⟩ := tl_ref hN h hf hM hT
  have r4 := (tl_cls hN h hf hC hT).1.2.2.1
  have hc := fin_c hf
  obtain ⟨_, a2⟩ := rch_all hN.1 h
  have lt : ∀ p, p ≤ n → 2 ≤ kd p → p < n := fun p hp h2 => by
    by_cases cp : p = n
    · have := hT.2.1
      rw [cp, this] at h2
      rcases hc with h | h <;> rw [h] at h2 <;> exact absurd h2 (by decide)
    · omega
  refine ⟨r1, r4, ht, fun p hp k2 => ?_, fun p hp k3 => ?_, fun p hp k4 => ?_⟩
  · obtain ⟨k, v, q', hj, hk⟩ := tl_at hT (lt p hp (by omega))
    obtain ⟨b1, b2, b3, _⟩ := hM.2.1 p k v q' hj
    obtain ⟨d1, d2, d3⟩ := hC.2.1 p k v q' hj
    have b3 := b3 (by omega)
    exact ⟨by omega, by rw [d2]; omega, r2 p hp k2⟩
  · obtain ⟨k, v, q', hj, hk⟩ := tl_at hT (lt p hp (by omega))
    obtain ⟨_, _, _, b4⟩ := hM.2.1 p k v q' hj
    obtain ⟨_, d2, _⟩ := hC.2.1 p k v q' hj
    rw [d2, b4 (Or.inl (by omega))]
  · obtain ⟨k, v, q', hj, hk⟩ := tl_at hT (lt p hp (by omega))
    obtain ⟨_, _, _, b4⟩ := hM.2.1 p k v q' hj
    obtain ⟨_, d2, _⟩ := hC.2.1 p k v q' hj
    have := r3 p hp k4
    rw [d2, ← b4 (Or.inr (by omega))]
    exact ⟨rfl, this⟩
end TKN
end

section
/-! a unit, whole: the reference -/
def S0q (lo : Nat) (σ : St) : Prop := (σ 0 53).toInt = 0 ∧ (σ 0 54).toInt = 0 ∧ (σ 0 49).toInt = 0 ∧ (σ 0 15).toInt = 0 ∧ (σ 0 12).toInt = 0 ∧ (σ 0 37).toInt = 0 ∧ EOKm σ lo lo ∧ (∀ j, 0 ≤ (σ 31 j).toInt ∧ (σ 31 j).toInt ≤ 10) ∧ (∀ j, -2 ≤ (σ 10 j).toInt ∧ (σ 10 j).toInt ≤ 10) ∧ ∀ j, -1 ≤ (σ 35 j).toInt
/-- the class's walk over g, and its end, leave the like of the reference's answer v -/
def UNw (kd : Nat → Int) (n lo : Nat) (g : List Gsq) (σ1 : St) (v : Int32) (s : St) : Prop := ∀ w, URq kd n 0 lo w σ1 → (w 6 3).toInt = 0 → GWq g w (fun r => pk_X11_finish r (fun r' => ((r' 6 3).toInt ≠ 0 → v.toInt ≠ 0) ∧ ((r' 6 3).toInt = 0 → v.toInt = 0 ∧ ∃ m, URq kd n m lo r' s))) (v.toInt ≠ 0)
/-- what holds before an item -/
def UIv (kd vl : Nat → Int) (n lo : Nat) (σ s : St) : Prop := ∃ (p m d : Nat) (g : List Gsq), GMt s n p ∧ RGs kd vl n 0 m lo d s ∧ USq kd n 0 m lo g σ s ∧ ∀ R, EVq (fun N => UNn kd vl N p) R → EVq (fun N => UNn kd vl N 0) (R.map (fun l => g ++ l))
/-- what reading leaves, told by the text alone -/
def RDq (f : Nat → Int32) (N : Int) (lo : Nat) (σ : St) (v : Int32) (s : St) : Prop := ∃ (kd vl : Nat → Int) (n : Nat) (L : List (Int32 × Int32 × Int)) (q : Int) (c : Int32) (σ1 : St), RCHq (byt f N) (0, []) (q, L) ∧ FINq (byt f N) q c ∧ TKLq L c kd vl n ∧ FMq σ1 L c ∧ Kp [(0, 8), (0, 10)] [2, 3, 4, 5, 6] σ σ1 ∧ ((v = -21 ∧ EVq (fun N => UNn kd vl N 0) none) ∨ ∃ g, EVq (fun N => UNn kd vl N 0) (some g) ∧ UNw kd n lo g σ1 v s)
section UNI
variable {w r r' s σ σ' τ t : St} {kd vl : Nat → Int} {n m lo p d : Nat} {vs z : List Nat} {g : List Gsq} {N : Int} {f : Nat → Int32} {v x : Int32}
theorem neg20 (h : 0 ≤ x.toInt) : ((-20 : Int32) - x).toInt ≠ 0 := by
  obtain ⟨k, e⟩ := s_sub (-20 : Int32) x
  have := s_rng x
  have e2 : (-20 : Int32).toInt = -20 := by decide
  omega
theorem xf_finish_bad {Q : St → Prop} (c : (w 6 3).toInt ≠ 0) (q : Q w) : pk_X11_finish w Q := by
  unfold pk_X11_finish pk_X11_fail
  exact ⟨fun _ _ => True, trivial, fun x1 x2 _ => ⟨fun _ => ⟨fun _ => q, fun _ => ⟨fun _ => q, fun h => absurd h c⟩⟩, fun _ => xl_is (fun v _ _ => ⟨fun _ => True, fun y _ _ => ⟨fun _ => True, fun _ _ => trivial, fun _ => trivial, fun _ => ⟨fun _ => trivial, fun _ => ⟨True, fun _ => trivial, fun _ => trivial, fun _ => ⟨fun _ => trivial, fun _ => trivial⟩⟩⟩⟩, True, fun _ => trivial, fun _ => trivial, fun _ => xl_is (fun _ _ _ => ⟨fun _ => trivial, fun _ => trivial⟩)⟩)⟩⟩
theorem ur_k (h : URq kd n m lo r s) (k : Kp [(6, 3), (6, 4)] [] r r') (dd : DDq s σ) : URq kd n m lo r' σ := by
  obtain ⟨h1, h2, h3, h4, h5⟩ := h
  exact ⟨re_cd h1 (cd_ko (fs := [(6, 3), (6, 4)]) (cs := []) (fun c j _ a b => k c j a b) rfl rfl) dd, by rw [k 7 7 rfl rfl]; exact h2, by rw [k 6 6 rfl rfl]; exact h3, by rw [k 8 6 rfl rfl]; exact h4, by rw [k 9 5 rfl rfl]; exact h5⟩
theorem ui_end (hG : RGs kd vl n 0 m lo d s) (hu : USq kd n 0 m lo g σ s) (h12 : (σ 0 12).toInt = 0) {s2 s' : St} (k2 : KFr s s2) (f2 : (s2 0 12).toInt ≠ 0 ↔ (s 0 12).toInt ≠ 0 ∨ ∃ i, i < m ∧ NBp s lo i) (k' : Kp [(0, 14)] [] s2 s') (hv : v.toInt ≠ 0 ↔ (s2 0 12).toInt ≠ 0) : UNw kd n lo g σ v s' := by
  intro w hW hw
  refine gv_mono (hu h12 w hW hw) (fun r hr => ?_) (fun hB => hv.2 (f2.2 (Or.inl hB)))
  by_cases c : (r 6 3).toInt = 0
  · obtain ⟨b1, b2⟩ := hr.2 c
    have hO := b2.1.2.2.1
    have hle := hO.2.2.2.2.1.2.2.2.1
    have e51 := hO.2.2.2.1.1
    have hm1 := hO.2.1
    refine xf_finish hO.1 hm1 ⟨hO.2.2.1, by omega⟩ (fun r' kr hf => ⟨fun hx => ?_, fun hx => ?_⟩)
    · refine hv.2 (f2.2 ((hf.1 hx).elim (fun h => absurd c h) (fun h => ?_)))
      obtain ⟨i, hi, hb⟩ := h
      exact Or.inr ⟨i, hi, (nb_eq (hO.2.2.2.2.2 i hi)).1 hb⟩
    · have h2 : (s2 0 12).toInt = 0 := Classical.byContradiction (fun hc => by
        rcases f2.1 hc with h | ⟨i, hi, hb⟩
        · exact h b1
        · exact (hf.2 (Or.inr ⟨i, hi, (nb_eq (hO.2.2.2.2.2 i hi)).2 hb⟩)) hx)
      exact ⟨Classical.byContradiction (fun hc => (hv.1 hc) h2), m, ur_k b2 kr (dd_tr (dd_k k2 rfl rfl) (dd_k k' rfl rfl))⟩
  · have hB := hr.1 c
    exact xf_finish_bad c ⟨fun _ => hv.2 (f2.2 (Or.inl hB)), fun hx => absurd hx c⟩
theorem es_unit {Q : Int32 → St → St → List Nat → Prop} (hG : RGs kd vl n 0 0 lo 0 σ) (hg : GMt σ n 0) (h12 : (σ 0 12).toInt = 0) (kk : ∀ v s t z g, EVq (fun N => UNn kd vl N 0) (some g) → UNw kd n lo g σ v s → Q v s t z) (kn : EVq (fun N => UNn kd vl N 0) none → ∀ s t z, Q (-21) s t z) : ∃ L9 : St → St → List Nat → Prop, (L9 σ τ vs) ∧ ∀ (s9 t9 : St) (z9 : List Nat), L9 s9 t9 z9 → ((0 ≤ (s9 0 10).toInt ∧ (s9 0 10).toInt < 16002) → (((s9 2 (s9 0 10).toNatClampNeg).toInt = 0 → (pp_bodiless s9 t9 z9 (fun s54 t54 z54 => ((s54 0 12).toInt ≠ 0 → (Q (((-20) : Int32) - (s54 0 12)) (upC s54 0 14 (s54 0 13)) t54 z54)) ∧ ((s54 0 12).toInt = 0 → (Q (0 : Int32) s54 t54 z54))))) ∧ ((s9 2 (s9 0 10).toNatClampNeg).toInt ≠ 0 → ((0 ≤ (s9 0 10).toInt ∧ (s9 0 10).toInt < 16002) → (((s9 2 (s9 0 10).toNatClampNeg).toInt ≠ 1 → (pp_item s9 t9 z9 (fun s40 t40 z40 => L9 s40 t40 z40) (fun s40x t40x z40x => Q ((-21) : Int32) s40x t40x z40x))) ∧ ((s9 2 (s9 0 10).toNatClampNeg).toInt = 1 → (pp_wrong s9 t9 z9 (fun s35 t35 z35 => Q ((-21) : Int32) s35 t35 z35)))))))) := by
  refine ⟨fun s _ _ => UIv kd vl n lo σ s, ⟨0, 0, 0, [], hg, hG, us_nil dd_rf rfl, fun R h => by cases R <;> exact h⟩, ?_⟩
  rintro s t z ⟨p, m, d, g, g1, hG1, hu, hR⟩
  have en : (s 0 10).toNatClampNeg = p := nat_of g1.1
  have r0 : (s 2 p).toInt = 0 ↔ kd p = 0 := rk_to hG1.1.1 g1.2 0 (by decide) (j := 0) (by decide)
  have r1 : (s 2 p).toInt = 1 ↔ kd p = 1 := rk_to hG1.1.1 g1.2 1 (by decide) (j := 1) (by decide)
  rw [en]
  refine fun _ => ⟨fun c0 => ?_, fun n0 _ => ⟨fun n1 => ?_, fun c1 => ?_⟩⟩
  · have k0 := r0.1 c0
    have hev : EVq (fun N => UNn kd vl N 0) (some g) := by
      have := hR (some []) (un_e k0)
      have e : (some [] : Option (List Gsq)).map (fun l => g ++ l) = some g := congrArg some (List.append_nil g)
      rw [e] at this
      exact this
    refine mr_bodiless hG1.1.2.2.2.2.1 hG1.1.2.2.2.2.2.1 (rgq_0 hG1.1) hG1.2.2.2.1 (fun s2 k2 f2 h0 => ⟨fun hx => ?_, fun hx => ?_⟩)
    · exact kk _ _ t z g hev (ui_end hG1 hu h12 k2 f2 (kp_f kp_rf rfl) ⟨fun _ => hx, fun _ => neg20 h0⟩)
    · exact kk 0 s2 t z g hev (ui_end hG1 hu h12 k2 f2 kp_rf ⟨fun h => absurd rfl h, fun h => absurd hx h⟩)
  · have k0 : kd p ≠ 0 := fun h => n0 (r0.2 h)
    have h := es_item (τ := t) (vs := z) (F0 := EVq (fun N => UNn kd vl N 0) none) (Q := fun s _ _ => UIv kd vl n lo σ s) hG1 g1 (fun s2 t2 z2 p' m' d' g' hev hp g2 hG2 hm htf hw => ⟨p', m', d', g ++ g', g2, hG2, us_app hu hw hm, fun R hR' => ?_⟩) (fun hn => hR none (un_0 k0 hn))
    · exact cj_wp_item (fun _ _ _ a _ => a) (fun s t z a _ => kn a s t z) h h
    · cases R with
      | none => exact hR none (un_1 k0 hev hR')
      | some gl =>
        have := hR _ (un_s k0 hev hR')
        show EVq (fun N => UNn kd vl N 0) (some ((g ++ g') ++ gl))
        rw [List.append_assoc]
        exact this
  · have k1 := r1.1 c1
    have e0 : lkq (kd p) = 0 := by rw [k1]; rfl
    unfold pp_wrong pp_wrongAt
    exact fun _ => kn (hR none (un_0 (by omega) (by rw [if_pos e0]; exact i1_0 (by omega) (by omega)))) _ _ _
theorem s0_k (k : Kp [(0, 8), (0, 10)] [2, 3, 4, 5, 6] σ s) (h : S0q lo σ) : S0q lo s := by
  have a : ∀ c, c ≠ 0 → ¬ (2 ≤ c ∧ c ≤ 6) → s c = σ c := fun c c0 c2 => funext (fun j => k c j (by
    simp only [List.contains_cons, List.contains_nil, Bool.or_false, Bool.or_eq_false_iff, beq_eq_false_iff_ne, ne_eq, Prod.mk.injEq, not_and]
    omega) (by
    simp only [List.contains_cons, List.contains_nil, Bool.or_false, Bool.or_eq_false_iff, beq_eq_false_iff_ne, ne_eq]
    omega))
  obtain ⟨h1, h2, h3, h4, h5, h6, h7, h8, h9, ha⟩ := h
  refine ⟨by rw [k 0 53 rfl rfl]; exact h1, by rw [k 0 54 rfl rfl]; exact h2, by rw [k 0 49 rfl rfl]; exact h3, by rw [k 0 15 rfl rfl]; exact h4, by rw [k 0 12 rfl rfl]; exact h5, by rw [k 0 37 rfl rfl]; exact h6, ?_, by rw [a 31 (by decide) (by decide)]; exact h8, by rw [a 10 (by decide) (by decide)]; exact h9, by rw [a 35 (by decide) (by decide)]; exact ha⟩
  unfold EOKm at h7 ⊢
  rw [a 22 (by decide) (by decide), a 18 (by decide) (by decide), a 19 (by decide) (by decide), k 0 35 rfl rfl, k 0 36 rfl rfl, k 0 31 rfl rfl]
  exact h7
theorem es_read {Q : Int32 → St → St → List Nat → Prop} (hf : σ 1 = f) (hB : ∀ j, -128 ≤ (f j).toInt ∧ (f j).toInt ≤ 127) (hN : (σ 0 9).toInt = N) (h0 : 0 ≤ N) (h16 : N ≤ 16000) (hS : S0q lo σ) (kk : ∀ v s t z, RDq f N lo σ v s → Q v s t z) : pp_read_0 σ τ vs Q := by
  unfold pp_read_0
  refine pm_cut hf hB hN h0 h16 (fun s L q c ks hr hfin hM => ?_)
  have k1 : Kp [(0, 8), (0, 10)] [2, 3, 4, 5, 6] σ (upC s 0 10 (0 : Int32)) := kp_f (kp_sub ks rfl rfl) rfl
  have hM1 : FMq (upC s 0 10 (0 : Int32)) L c := by
    obtain ⟨m1, m2, m3⟩ := hM
    refine ⟨by rw [rdA_ne (by decide)]; exact m1, fun j k v q hj => ?_, by rw [rdC_ne (by decide)]; exact m3⟩
    rw [rdC_ne (by decide), rdC_ne (by decide), rdC_ne (by decide), rdC_ne (by decide)]
    exact m2 j k v q hj
  have e10 : ((upC s 0 10 (0 : Int32)) 0 10).toInt = 0 := by rw [rdA_eq rfl]; rfl
  generalize upC s 0 10 (0 : Int32) = σ1 at k1 hM1 e10
  have hT : TKLq L c (kdL L c) (fun p => (σ1 6 p).toInt) L.length := tl_kd (fun j k v q hj h4 => by
    show (σ1 6 j).toInt = v.toInt
    rw [(hM1.2.1 j k v q hj).2.2.2 (Or.inr h4)])
  obtain ⟨r1, r2, r3⟩ := tl_ref ⟨h0, h16⟩ hr hfin hM1 hT
  obtain ⟨z1, z2, z3, z4, z5, z6, z7, z8, z9, za⟩ := s0_k k1 hS
  have hG : RGs (kdL L c) (fun p => (σ1 6 p).toInt) L.length 0 0 lo 0 σ1 := by
    refine ⟨⟨r1, r2, fun p hp h4 => ?_, ⟨z1, by decide, fun j hj => absurd hj (Nat.not_lt_zero j)⟩, z7, by decide, ⟨z8, fun j hj => absurd hj (Nat.not_lt_zero j)⟩, z9, za, fun e h1 h2 => absurd h2 (Nat.not_lt.mpr h1), ⟨0, z6, by decide⟩, by rw [z5]; exact Int.le_refl _⟩, z2, ⟨0, z3, Nat.le_refl _, by decide⟩, z4, fun p _ => rfl⟩
    have := r3 p hp h4
    omega
  exact es_unit hG ⟨e10, Nat.zero_le _⟩ z5 (fun v s t z g hev hu => kk v s t z ⟨_, _, _, L, q, c, σ1, hr, hfin, hT, hM1, k1, Or.inr ⟨g, hev, hu⟩⟩) (fun hn s t z => kk _ s t z ⟨_, _, _, L, q, c, σ1, hr, hfin, hT, hM1, k1, Or.inl ⟨rfl, hn⟩⟩)
/-- the class as the walk begins -/
theorem ur_start (hT : TKR w σ kd n) (hS : S0q lo σ) (c615 : (w 6 15).toInt = 0) (c67 : (w 6 7).toInt = 0) (c51 : (w 5 1).toInt = (lo : Int) + 4) (c57 : (w 5 7).toInt = (σ 0 31).toInt + 15) (c65 : (w 6 5).toInt = 0) (c77 : (w 7 7).toInt = 0) (c66 : (w 6 6).toInt = -1) (c86 : (w 8 6).toInt = -1) (c95 : (w 9 5).toInt = 0) : URq kd n 0 lo w σ := by
  obtain ⟨z1, z2, z3, z4, z5, z6, z7, z8, z9, za⟩ := hS
  exact ⟨⟨hT, ⟨c615, z1, by decide, fun j hj => absurd hj (Nat.not_lt_zero j), fun j hj => absurd hj (Nat.not_lt_zero j)⟩, ⟨c67, by decide, by omega, ⟨by omega, c57⟩, z7, fun i hi => absurd hi (Nat.not_lt_zero i)⟩, ⟨0, c65, z6, by decide⟩, ⟨fun j hj => absurd hj (Nat.not_lt_zero j), fun i hi => absurd hi (Nat.not_lt_zero i)⟩⟩, c77, c66, c86, c95⟩
end UNI
end

