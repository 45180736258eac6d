/-! parameters: both sides -/
/-- where a function begins: S parameters are there -/
def PRq (kd : Nat → Int) (n S m lo : Nat) (res : Int) (w σ : St) : Prop := REq kd n S m lo w σ ∧ (w 7 7).toInt = 0 ∧ SCq S 1 w σ ∧ LCq S w σ ∧ (w 8 6).toInt = -1 ∧ (w 9 5).toInt = 0 ∧ (0 ≤ (w 6 6).toInt ∧ (atv 10100 (w 26) (w 6 6)).toInt = res) ∧ (w 45 0).toInt = 0 ∧ (w 6 10).toInt = (S : Int)
section PAR
variable {w s r σ σ' σ1 τ t : St} {kd vl : Nat → Int} {n S m lo d u Lc i : Nat} {vs z : List Nat} {a b ty v tk : Int32} {Q : St → Prop} {res rs k3 : Int} {l : List (Nat × Nat)} {x : Nat × Nat} {F0 : Prop}
theorem da_fun {name : Nat} {sg lk : Int} (h : ∀ a b c : Int32, a.toInt = (name : Int) → b.toInt = sg → c.toInt = lk → pk_X1_function a b c w Q) : DAq (47, name, sg, lk) w Q := fun a b e0 e1 e2 e3 => by
  have e0' : b.toInt = 47 := e0
  unfold pk_X1_take
  exact ⟨fun c => absurd (e0'.symm.trans c) (by decide), fun _ => ⟨fun c => absurd (e0'.symm.trans c) (by decide), fun _ => ⟨fun c => absurd (e0'.symm.trans c) (by decide), fun _ => ⟨fun c => absurd (e0'.symm.trans c) (by decide), fun _ => ⟨fun c => absurd (e0'.symm.trans c) (by decide), fun _ => ⟨fun _ => h _ _ _ e1 e2 e3, fun c => absurd e0' c⟩⟩⟩⟩⟩⟩
theorem da_par {name : Nat} {ty : Int} (h : ∀ a b : Int32, a.toInt = (name : Int) → b.toInt = ty → pk_X1_parameter a b w Q) : DAq (48, name, ty, 0) w Q := fun a b e0 e1 e2 e3 => by
  have e0' : b.toInt = 48 := e0
  unfold pk_X1_take
  exact ⟨fun c => absurd (e0'.symm.trans c) (by decide), fun _ => ⟨fun c => absurd (e0'.symm.trans c) (by decide), fun _ => ⟨fun c => absurd (e0'.symm.trans c) (by decide), fun _ => ⟨fun c => absurd (e0'.symm.trans c) (by decide), fun _ => ⟨fun c => absurd (e0'.symm.trans c) (by decide), fun _ => ⟨fun c => absurd (e0'.symm.trans c) (by decide), fun _ => ⟨fun _ => h _ _ e1 e2, fun c => absurd e0' c⟩⟩⟩⟩⟩⟩⟩
theorem da_end {name : Nat} (h : pk_X1_functionEnd w Q) : DAq (stp 49 name) w Q := fun a b e0 e1 e2 e3 => by
  have e0' : b.toInt = 49 := e0
  unfold pk_X1_take
  exact ⟨fun c => absurd (e0'.symm.trans c) (by decide), fun _ => ⟨fun c => absurd (e0'.symm.trans c) (by decide), fun _ => ⟨fun c => absurd (e0'.symm.trans c) (by decide), fun _ => ⟨fun c => absurd (e0'.symm.trans c) (by decide), fun _ => ⟨fun c => absurd (e0'.symm.trans c) (by decide), fun _ => ⟨fun c => absurd (e0'.symm.trans c) (by decide), fun _ => ⟨fun c => absurd (e0'.symm.trans c) (by decide), fun _ => h⟩⟩⟩⟩⟩⟩⟩
theorem mr_declareLocal {Q : Int32 → St → St → List Nat → Prop} (h49 : (σ 0 49).toInt = (Lc : Int)) (hl : Lc < 100) (kk : ∀ v s, Kp [(0, 49)] [31, 32, 33] σ s → v.toInt = (Lc : Int) → (s 0 49).toInt = (Lc : Int) + 1 → (∀ j, s 31 j = if j = Lc then b else σ 31 j) → (∀ j, s 32 j = if j = Lc then -1 else σ 32 j) → Q v s τ vs) : pp_declareLocal a b σ τ vs Q := by
  unfold pp_declareLocal
  have en : (σ 0 49).toNatClampNeg = Lc := nat_of h49
  rw [en]
  refine ⟨fun _ _ _ _ => kk _ _ (kp_f (kp_a (kp_a (kp_a kp_rf rfl) rfl) rfl) rfl) ?_ ?_ (fun j => ?_) (fun j => ?_), fun c => by omega⟩
  · rw [sb1 (by rw [ad1 (by omega)]; omega), ad1 (by omega), h49]; omega
  · rw [rdA_eq rfl, ad1 (by omega), h49]
  · rw [rdC_ne (by decide), rdC_ne (by decide), rdC_ne (by decide), rdC_eq]
  · rw [rdC_ne (by decide), rdC_ne (by decide), rdC_eq, rdC_ne (by decide)]
theorem mr_heldHere1 {d : Nat} {Q : Int32 → Prop} (ha : a.toInt = (u : Int)) (tu : TNm σ u) (hS : LOKm σ S) (h54 : (σ 0 54).toInt = (d : Int)) (kk : ∀ v : Int32, (v.toInt ≠ 0 ↔ HHm σ S d u) → Q v) : pp_isHeldHere a σ τ vs Q := mr_heldHere ha tu hS h54 (fun hh => kk 1 ⟨fun _ => hh, fun _ => by decide⟩) (fun hh => kk 0 ⟨fun h => absurd rfl h, fun h => absurd h hh⟩)
/-- the reference: a local that nobody names -/
theorem rg_loc1 (hG : RGs kd vl n S m lo d σ) (hSL : S ≤ Lc) (hl : Lc < 100) (hty : 0 ≤ ty.toInt ∧ ty.toInt ≤ 8) (kr : Kp [(0, 12), (0, 13), (0, 49)] [31, 32, 33] σ σ') (h12 : 0 ≤ (σ' 0 12).toInt) (g49 : (σ' 0 49).toInt = (Lc : Int) + 1) (g31 : ∀ j, σ' 31 j = if j = Lc then ty else σ 31 j) : RGs kd vl n S m lo d σ' := by
  obtain ⟨⟨h1, h2, h3, h4, h5, h6, h7, h8, h9, h10, h11, _⟩, q2, q3, q4, q5⟩ := hG
  have gs : ∀ c, c ≠ 0 → c ≠ 31 → c ≠ 32 → c ≠ 33 → σ' c = σ c := fun c h0 h1 h2 h3 => funext (fun j => kr c j (by
    simp only [List.contains_cons, List.contains_nil, Bool.or_false, Bool.or_eq_false_iff, beq_eq_false_iff_ne, ne_eq, Prod.mk.injEq, not_and]
    omega) (by
    simp only [List.contains_cons, List.contains_nil, Bool.or_false, Bool.or_eq_false_iff, beq_eq_false_iff_ne, ne_eq]
    omega))
  have g2 := gs 2 (by decide) (by decide) (by decide) (by decide)
  have g3 := gs 3 (by decide) (by decide) (by decide) (by decide)
  have g4 := gs 4 (by decide) (by decide) (by decide) (by decide)
  have g6 := gs 6 (by decide) (by decide) (by decide) (by decide)
  have g9 := gs 9 (by decide) (by decide) (by decide) (by decide)
  have g10 := gs 10 (by decide) (by decide) (by decide) (by decide)
  have g15 := gs 15 (by decide) (by decide) (by decide) (by decide)
  have g16 := gs 16 (by decide) (by decide) (by decide) (by decide)
  have g18 := gs 18 (by decide) (by decide) (by decide) (by decide)
  have g19 := gs 19 (by decide) (by decide) (by decide) (by decide)
  have g22 := gs 22 (by decide) (by decide) (by decide) (by decide)
  have g34 := gs 34 (by decide) (by decide) (by decide) (by decide)
  have g35 := gs 35 (by decide) (by decide) (by decide) (by decide)
  refine ⟨⟨?_, ?_, ?_, ?_, ?_, h6, ⟨fun j => ?_, fun j hj => ?_⟩, ?_, ?_, ?_, ?_, h12⟩, by rw [kr 0 54 rfl rfl]; exact q2, ⟨Lc + 1, by rw [g49]; rfl, by omega, by omega⟩, by rw [kr 0 15 rfl rfl]; exact q4, by rw [g6]; exact q5⟩
  · unfold RTk at h1 ⊢; rw [g2]; exact h1
  · unfold TNm at h2 ⊢; rw [g3, g4]; exact h2
  · rw [g6]; exact h3
  · unfold LOKm TNm mtk at h4 ⊢; rw [g3, g4, g34, kr 0 53 rfl rfl]; exact h4
  · unfold EOKm at h5 ⊢; rw [g18, g19, g22, kr 0 35 rfl rfl, kr 0 36 rfl rfl, kr 0 31 rfl rfl]; exact h5
  · rw [g31]
    by_cases cj : j = Lc
    · rw [if_pos cj]; omega
    · rw [if_neg cj]; exact h7.1 j
  · rw [g31, g35]
    by_cases cj : (σ 35 j).toInt.toNat = Lc
    · rw [if_pos cj]; omega
    · rw [if_neg cj]; exact h7.2 j hj
  · rw [g10]; exact h8
  · rw [g35]; exact h9
  · rw [g9, g10, g15, g16]; exact h10
  · rw [kr 0 37 rfl rfl]; exact h11
/-- both sides, a parameter more -/
theorem pr_more (hP : PRq kd n S m lo res w σ) (hE : REq kd n (S + 1) m lo s σ') (hS : S < 100)
    (kw : Kp [(6, 10), (6, 15)] [40, 41, 42, 43, 44] w s) (f10 : (s 6 10).toInt = (S : Int) + 1) (f44 : ∀ j, s 44 j = if j = S then w 6 10 else w 44 j)
    (kr : Kp [(0, 12), (0, 13), (0, 49), (0, 53), (0, 17), (0, 10)] [8, 31, 32, 33, 34, 35, 36] σ σ') (g49 : (σ' 0 49).toInt = (S : Int) + 1) (g36 : ∀ j, σ' 36 j = if j = S then σ 0 54 else σ 36 j) : PRq kd n (S + 1) m lo res s σ' := by
  obtain ⟨_, h77, ⟨c1, c2, c3, c4⟩, ⟨Lc', l1, l2, l3, l4, l5⟩, h86, h95, h66, h45, h10⟩ := hP
  have k45 : s 45 = w 45 := funext (fun j => kw 45 j rfl rfl)
  have k26 : s 26 = w 26 := funext (fun j => kw 26 j rfl rfl)
  have eL : Lc' = S := by omega
  rw [eL] at l5
  refine ⟨hE, by rw [kw 7 7 rfl rfl]; exact h77, ⟨by rw [kw 6 17 rfl rfl]; exact c1, by rw [kr 0 54 rfl rfl]; exact c2, fun i hi => ?_, fun j hj => ?_⟩, ⟨S + 1, by rw [f10]; rfl, by rw [g49]; rfl, Nat.le_refl _, by omega, fun j hj => ?_⟩, by rw [kw 8 6 rfl rfl]; exact h86, by rw [kw 9 5 rfl rfl]; exact h95, by rw [kw 6 6 rfl rfl, k26]; exact h66, by rw [k45]; exact h45, by rw [f10]; rfl⟩
  · rw [k45]
    obtain ⟨i0, i1, i2⟩ := c3 i hi
    refine ⟨i0, by omega, fun j hj => ?_⟩
    rw [g36]
    by_cases cj : j = S
    · rw [if_pos cj, c2, cj]
      exact ⟨fun _ => by omega, fun _ => i1⟩
    · rw [if_neg cj]
      exact i2 j (by omega)
  · rw [g36]
    by_cases cj : j = S
    · rw [if_pos cj, c2]
      omega
    · rw [if_neg cj]
      exact c4 j (by omega)
  · rw [f44]
    by_cases cj : j = S
    · rw [if_pos cj, h10]
      omega
    · rw [if_neg cj]
      have := l5 j (by omega)
      omega
/-- the class's step of a parameter that is named -/
theorem xp_named (hP : PRq kd n S m lo res w σ) (hS : S < 100) (ha : a.toInt = (u : Int)) (hu : u ≤ n) (ku : kd u = 2) (hf : (w 6 3).toInt = 0) (k1 : HHm σ S 1 u → ∀ s, (s 6 3).toInt ≠ 0 → Q s) (k0 : ¬ HHm σ S 1 u → ∀ s, Kp [(6, 10), (6, 15)] [40, 41, 42, 43, 44] w s → (s 6 10).toInt = (S : Int) + 1 → (s 6 15).toInt = (S : Int) + 1 → (∀ j, s 40 j = if j = S then a else w 40 j) → (∀ j, s 41 j = if j = S then b else w 41 j) → (∀ j, s 42 j = if j = S then -1 else w 42 j) → (∀ j, s 44 j = if j = S then w 6 10 else w 44 j) → Q s) : pk_X1_parameter a b w Q := by
  obtain ⟨hE, h77, hC, hL, h86, h95, h66, h45, h10⟩ := hP
  have hn := hE.1.1.1
  have hh := held_alike hE.1 hE.2.1 hC (Nat.le_refl 1) hu ku
  rw [show (w 45 (1 - 1)).toInt.toNat = 0 from by show (w 45 0).toInt.toNat = 0; rw [h45]; rfl] at hh
  have e13 : (atv 16002 (w 13) a).toInt = 2 := by rw [atv_at ha (by omega), hE.1.2.1 u hu]; exact ku
  unfold pk_X1_parameter
  refine ⟨HHm σ S 1 u, fun hj => xl_fail (by decide) (fun s _ h => k1 hj s h), fun c => absurd e13 c, fun _ => xl_localFrom (S := S) (lo := 0) (u := u) rfl ha (tn_class hE.1 (by omega) hu ku) (lo_class hE.1 hE.2.1) (fun v hv => ?_)⟩
  have nh : v.toInt < 0 ↔ ¬ HHm σ S 1 u := by
    rw [← hh]
    rcases hv with ⟨j, j1, j2, j3, j4, j5⟩ | ⟨j1, j2⟩
    · have := (hE.2.1.2.2.2.1 j j2).2.1
      exact ⟨fun h => by omega, fun h => absurd ⟨j, j1, j2, j3⟩ h⟩
    · exact ⟨fun _ ⟨j, q1, q2, q3⟩ => j1 j q1 q2 q3, fun _ => by omega⟩
  exact ⟨fun c => xl_declareLocal (Lc := S) (S := S) h10 hS hE.2.1.1 hS (fun s ks f10 f15 f40 f41 f42 f44 => k0 (nh.1 c) s ks f10 f15 f40 f41 f42 f44), fun c => Classical.byContradiction (fun h => by have := nh.2 h; omega)⟩
/-- the class's step of a parameter without a name -/
theorem xp_no (hE : REq kd n S m lo w σ) (ha : a.toInt = (u : Int)) (hu : u ≤ n) (ku : kd u ≠ 2) (k1 : ∀ s, (s 6 3).toInt ≠ 0 → Q s) : pk_X1_parameter a b w Q := by
  have hn := hE.1.1.1
  have e13 : (atv 16002 (w 13) a).toInt ≠ 2 := by rw [atv_at ha (by omega), hE.1.2.1 u hu]; exact ku
  unfold pk_X1_parameter
  exact ⟨True, fun _ => xl_fail (by decide) (fun s _ h => k1 s h), fun _ => trivial, fun c => absurd c e13⟩
def pml (l : List (Nat × Nat)) : List Gsq := l.map (fun x => gq (48, x.2, (x.1 : Int), 0))
/-- the walk over the first i parameters -/
def PWq (kd : Nat → Int) (n m lo : Nat) (res : Int) (l : List (Nat × Nat)) (i S : Nat) (σ σ' : St) : Prop := (σ 0 12).toInt = 0 → ∀ w, PRq kd n 0 m lo res w σ → (w 6 3).toInt = 0 → GWq (pml (l.take i)) w (fun s => ((s 6 3).toInt ≠ 0 → (σ' 0 12).toInt ≠ 0) ∧ ((s 6 3).toInt = 0 → (σ' 0 12).toInt = 0 ∧ S = i ∧ PRq kd n i m lo res s σ')) ((σ' 0 12).toInt ≠ 0)
theorem tk_s (h : l[i]? = some x) : l.take (i + 1) = l.take i ++ [x] := by rw [List.take_succ, h]; rfl
theorem pml_s (h : l[i]? = some x) : pml (l.take (i + 1)) = pml (l.take i) ++ [gq (48, x.2, (x.1 : Int), 0)] := by
  unfold pml
  rw [tk_s h, List.map_append]
  rfl
theorem pw_0 : PWq kd n m lo res l 0 0 σ σ := fun h0 w hP hf => ⟨fun hx => absurd hf hx, fun _ => ⟨h0, rfl, hP⟩⟩
/-- what stands at an index of a head's rows -/
theorem es_params {K : St → St → List Nat → Prop} (hH : HRq kd n σ l) (hG : RGs kd vl n 0 m lo 1 σ) (h49 : (σ 0 49).toInt = 0)
    (kk : ∀ s S, Kp [(0, 12), (0, 13), (0, 49), (0, 53), (0, 17)] [8, 31, 32, 33, 34, 35, 36] σ s → RGs kd vl n S m lo 1 s → MNq σ s → S ≤ l.length → PWq kd n m lo res l l.length S σ s → K s τ vs) :
    ∃ L235 : Int32 → St → St → List Nat → Prop, (L235 (0 : Int32) σ τ vs) ∧ ∀ (x6_235 : Int32) (s235 t235 : St) (z235 : List Nat), L235 x6_235 s235 t235 z235 → (((s235 0 64).toInt ≤ x6_235.toInt → K s235 t235 z235) ∧ (x6_235.toInt < (s235 0 64).toInt → ((0 ≤ x6_235.toInt ∧ x6_235.toInt < 8) → (∃ J351 : St → St → List Nat → Prop, (∀ (s351 t351 : St) (z351 : List Nat), J351 s351 t351 z351 → (L235 (x6_235 + 1) s351 t351 z351)) ∧ ((0 ≤ (s235 38 x6_235.toNatClampNeg).toInt → ((0 ≤ x6_235.toInt ∧ x6_235.toInt < 8) → (pp_isHeldHere (s235 38 x6_235.toNatClampNeg) s235 t235 z235 (fun v297 => ∃ J308 : Int32 → Prop, (∀ (y1_308 : Int32), y1_308 = 0 ∨ y1_308 = 1 → (J308 y1_308 → ((0 ≤ x6_235.toInt ∧ x6_235.toInt < 8) → (pp_must y1_308 (s235 38 x6_235.toNatClampNeg) s235 t235 z235 (fun s315 t315 z315 => (0 ≤ x6_235.toInt ∧ x6_235.toInt < 8) → ((0 ≤ x6_235.toInt ∧ x6_235.toInt < 8) → (pp_declareLocal (s315 38 x6_235.toNatClampNeg) (s315 37 x6_235.toNatClampNeg) s315 t315 z315 (fun v333 s333 t333 z333 => (0 ≤ x6_235.toInt ∧ x6_235.toInt < 8) → (pp_hold (s333 38 x6_235.toNatClampNeg) v333 s333 t333 z333 (fun s348 t348 z348 => J351 s348 t348 z348)))))))))) ∧ ((v297.toInt ≠ 0 → (J308 (0 : Int32))) ∧ (v297.toInt = 0 → (J308 (1 : Int32)))))))) ∧ ((s235 38 x6_235.toNatClampNeg).toInt < 0 → ((0 ≤ x6_235.toInt ∧ x6_235.toInt < 8) → (pp_tell (2 : Int32) (s235 39 x6_235.toNatClampNeg) s235 t235 z235 (fun s263 t263 z263 => (0 ≤ x6_235.toInt ∧ x6_235.toInt < 8) → ((0 ≤ x6_235.toInt ∧ x6_235.toInt < 8) → (pp_declareLocal (s263 39 x6_235.toNatClampNeg) (s263 37 x6_235.toNatClampNeg) s263 t263 z263 (fun v281 s281 t281 z281 => J351 s281 t281 z281)))))))))))) := by
  obtain ⟨hh1, hh2, hh3⟩ := hH
  refine ⟨fun x s t z => t = τ ∧ z = vs ∧ ∃ i S : Nat, x.toInt = (i : Int) ∧ i ≤ l.length ∧ Kp [(0, 12), (0, 13), (0, 49), (0, 53), (0, 17)] [8, 31, 32, 33, 34, 35, 36] σ s ∧ RGs kd vl n S m lo 1 s ∧ (s 0 49).toInt = (i : Int) ∧ S ≤ i ∧ MNq σ s ∧ (∀ j, j < S → (s 36 j).toInt = 1) ∧ PWq kd n m lo res l i S σ s, ⟨rfl, rfl, 0, 0, rfl, Nat.zero_le _, kp_rf, hG, by rw [h49]; rfl, Nat.le_refl 0, id, fun j hj => absurd hj (Nat.not_lt_zero j), pw_0⟩, ?_⟩
  rintro xx s t z ⟨et, ez, i, S, hx, hi, ks, hGs, e49, hSi, hm, h36, hw⟩
  rw [et, ez]
  have f64 : (s 0 64).toInt = (l.length : Int) := by rw [ks 0 64 rfl rfl]; exact hh1
  have nx : xx.toNatClampNeg = i := nat_of hx
  have h15 : (s 0 15).toInt = 0 := hGs.2.2.2.1
  have h54 : (s 0 54).toInt = ((1 : Nat) : Int) := hGs.2.1
  have h0 := rgq_0 hGs.1
  rw [f64, nx]
  refine ⟨fun c => ?_, fun c r => ?_⟩
  · have ei : i = l.length := by omega
    rw [ei] at hw
    exact kk s S ks hGs hm (by omega) hw
  obtain ⟨x, hxl⟩ := l_at (l := l) (k := i) (by omega)
  obtain ⟨p1, p2, p3, p4, p5⟩ := hh3 i x hxl
  have e38 : s 38 i = σ 38 i := ks 38 i rfl rfl
  have e37 : s 37 i = σ 37 i := ks 37 i rfl rfl
  have ex1 : (xx + 1).toInt = ((i + 1 : Nat) : Int) := by show (xx + (1 : Int32)).toInt = _; rw [ad1 (by omega), hx]; rfl
  rw [e38]
  refine ⟨fun s' t' z' => t' = τ ∧ z' = vs ∧ ∃ S' : Nat, Kp [(0, 12), (0, 13), (0, 49), (0, 53), (0, 17)] [8, 31, 32, 33, 34, 35, 36] σ s' ∧ RGs kd vl n S' m lo 1 s' ∧ (s' 0 49).toInt = ((i + 1 : Nat) : Int) ∧ S' ≤ i + 1 ∧ MNq σ s' ∧ (∀ j, j < S' → (s' 36 j).toInt = 1) ∧ PWq kd n m lo res l (i + 1) S' σ s', ?_, fun c38 _ => ?_, fun c38 _ => ?_⟩
  · rintro s' t' z' ⟨et', ez', S', g1, g2, g3, g4, g5, g6, g7⟩
    exact ⟨et', ez', i + 1, S', ex1, by omega, g1, g2, g3, g4, g5, g6, g7⟩
  · have k2 : kd x.2 = 2 := Decidable.byContradiction (fun h => by have := p5 h; omega)
    have e2 := p4 k2
    have tu : TNm s x.2 := hGs.1.2.1 x.2 p3 k2
    have hlok := hGs.1.2.2.2.1
    refine mr_heldHere1 e2 tu hlok h54 (fun v297 hv => ?_)
    · skip
      refine ⟨fun y => y.toInt = 0 ↔ HHm s S 1 x.2, fun y _ hy _ => mr_must h0 (fun s315 k315 f315 _ _ => ?_), fun c => ⟨fun _ => hv.1 c, fun _ => rfl⟩, fun c => ⟨fun h => absurd h (by decide), fun h => absurd c (hv.2 h)⟩⟩
      have ff : FTq s s315 (HHm s S 1 x.2) := ft_iff f315 hy
      have e315 : s315 38 i = σ 38 i := (k315 38 i rfl rfl).trans e38
      have e315b : s315 37 i = σ 37 i := (k315 37 i rfl rfl).trans e37
      rw [e315, e315b]
      refine mr_declareLocal (Lc := i) (by rw [k315 0 49 rfl rfl]; exact e49) (by omega) (fun v333 s333 k333 hv333 g49 g31 g32 _ => ?_)
      have e333 : s333 38 i = σ 38 i := (k333 38 i rfl rfl).trans e315
      rw [e333]
      refine mr_hold (S := S) (by rw [k333 0 53 rfl rfl, k315 0 53 rfl rfl]; exact hlok.1) (by omega) (fun s348 k348 f53 f34 f35 f36 => ?_)
      have kr : Kp [(0, 12), (0, 13), (0, 49), (0, 53), (0, 17), (0, 10)] [8, 31, 32, 33, 34, 35, 36] s s348 := kp_tr (kp_sub k315 rfl rfl) (kp_tr (kp_sub k333 rfl rfl) (kp_sub k348 rfl rfl))
      have ks' : Kp [(0, 12), (0, 13), (0, 49), (0, 53), (0, 17)] [8, 31, 32, 33, 34, 35, 36] σ s348 := kp_tr ks (kp_tr (kp_sub k315 rfl rfl) (kp_tr (kp_sub k333 rfl rfl) (kp_sub k348 rfl rfl)))
      have e12 : s348 0 12 = s315 0 12 := by rw [k348 0 12 rfl rfl, k333 0 12 rfl rfl]
      have q31 : ∀ j, s348 31 j = if j = i then σ 37 i else s 31 j := fun j => by rw [k348 31 j rfl rfl, g31, k315 31 j rfl rfl]
      have q32 : ∀ j, s348 32 j = if j = i then -1 else s 32 j := fun j => by rw [k348 32 j rfl rfl, g32, k315 32 j rfl rfl]
      have q34 : ∀ j, s348 34 j = if j = S then σ 38 i else s 34 j := fun j => by rw [f34, k333 34 j rfl rfl, k315 34 j rfl rfl]
      have q35 : ∀ j, s348 35 j = if j = S then v333 else s 35 j := fun j => by rw [f35, k333 35 j rfl rfl, k315 35 j rfl rfl]
      have q36 : ∀ j, s348 36 j = if j = S then s 0 54 else s 36 j := fun j => by rw [f36, k333 36 j rfl rfl, k315 36 j rfl rfl, k333 0 54 rfl rfl, k315 0 54 rfl rfl]
      have q49 : (s348 0 49).toInt = (i : Int) + 1 := by rw [k348 0 49 rfl rfl]; exact g49
      have ftF : FTq s s348 (HHm s S 1 x.2) := ft_k ff e12
      refine ⟨rfl, rfl, S + 1, ks', rg_more hGs (by omega) (by omega) e49 hSi (by omega) p3 k2 e2 hv333 kr ftF.1 q49 f53 q31 q34 q35, by rw [q49]; rfl, by omega, fun hx => ftF.2.2 (Or.inl (hm hx)), fun j hj => ?_, ?_⟩
      · rw [q36]
        by_cases cj : j = S
        · rw [if_pos cj]; exact h54
        · rw [if_neg cj]; exact h36 j (by omega)
      · intro hz w hP hf
        rw [pml_s hxl]
        have mn : MNq s s348 := fun hx => ftF.2.2 (Or.inl hx)
        refine gv_app (gv_mono (hw hz w hP hf) (fun w1 hw1 => ?_) mn)
        by_cases c0 : (w1 6 3).toInt = 0
        · obtain ⟨n0, eS, hP1⟩ := hw1.2 c0
          rw [eS] at ftF q34 q35 q36 f53
          refine gv_d (x := (48, x.2, (x.1 : Int), 0)) (by simp) (fun _ => da_par (fun a b ea eb => xp_named hP1 (by omega) ea p3 k2 c0 (fun hh w2 h63 => ?_) (fun nh w2 k2w f10 f15 f40 f41 f42 f44 => ?_))) (fun hx => absurd c0 hx)
          · have : (s348 0 12).toInt ≠ 0 := ftF.2.2 (Or.inr ⟨hh, by omega⟩)
            exact ⟨fun _ => this, fun hx => absurd hx h63⟩
          · have nf : (s348 0 12).toInt = 0 := Decidable.byContradiction (fun hx => (ftF.2.1 hx).elim (fun h => h n0) (fun h => nh h.1))
            have ea' : a = σ 38 i := ieq (by rw [ea, e2])
            have eb' : b = σ 37 i := ieq (by rw [eb, p1])
            rw [ea'] at f40
            rw [eb'] at f41
            have e63 : (w2 6 3).toInt = 0 := by rw [k2w 6 3 rfl rfl]; exact c0
            have hE2 : REq kd n (i + 1) m lo w2 s348 := re_more (a := σ 38 i) (b := v333) (ty := σ 37 i) (ex := -1) (Lc := i) (u := x.2) hP1.1 ⟨Nat.le_refl _, by omega⟩ (fun j hj => by
              obtain ⟨Lc', l1, l2, l3, l4, l5⟩ := hP1.2.2.2.1
              have h10 := hP1.2.2.2.2.2.2.2.2
              have := l5 j hj
              omega) hP1.2.2.2.2.2.2.2.2 (by omega) p3 k2 e2 hv333 (ko_sub (ko_kp k2w) rfl rfl) f15 f40 f41 f42 f44 kr f53 q31 (fun j hj => by rw [q32, if_neg hj]) (by rw [q32, if_pos rfl]) q34 q35
            exact ⟨fun hx => absurd e63 hx, fun _ => ⟨nf, by omega, pr_more hP1 hE2 (by omega) k2w f10 f44 kr q49 q36⟩⟩
        · have := mn (hw1.1 c0)
          exact gv_bad c0 this (fun s' h => ⟨fun _ => this, fun hx => absurd hx h⟩)
  · have k2 : kd x.2 ≠ 2 := fun h => by have := p4 h; omega
    refine mr_tell h0 (by decide) (fun s263 k263 f263 _ _ => ?_)
    have e263b : s263 37 i = σ 37 i := (k263 37 i rfl rfl).trans e37
    rw [e263b]
    refine mr_declareLocal (Lc := i) (by rw [k263 0 49 rfl rfl]; exact e49) (by omega) (fun v281 s281 k281 hv281 g49 g31 g32 => ?_)
    have kr : Kp [(0, 12), (0, 13), (0, 49)] [31, 32, 33] s s281 := kp_tr (kp_sub k263 rfl rfl) (kp_sub k281 rfl rfl)
    have e12 : s281 0 12 = s263 0 12 := k281 0 12 rfl rfl
    have hB : (s281 0 12).toInt ≠ 0 := by
      rw [e12]
      exact f263.2.2 (Or.inr ⟨trivial, by omega⟩)
    refine ⟨rfl, rfl, S, kp_tr ks (kp_sub kr rfl rfl), rg_loc1 hGs hSi (by omega) (ty := σ 37 i) (by omega) kr (by rw [e12]; exact f263.1) g49 (fun j => by rw [g31, k263 31 j rfl rfl]), by rw [g49]; rfl, by omega, fun _ => hB, fun j hj => by rw [kr 36 j rfl rfl]; exact h36 j hj, ?_⟩
    intro hz w hP hf
    rw [pml_s hxl]
    refine gv_app (gv_mono (hw hz w hP hf) (fun w1 hw1 => ?_) (fun _ => hB))
    by_cases c0 : (w1 6 3).toInt = 0
    · obtain ⟨n0, eS, hP1⟩ := hw1.2 c0
      exact gv_d (x := (48, x.2, (x.1 : Int), 0)) (by simp) (fun _ => da_par (fun a b ea eb => xp_no hP1.1 ea p3 k2 (fun w2 h63 => ⟨fun _ => hB, fun hx => absurd hx h63⟩))) (fun hx => absurd c0 hx)
    · exact gv_bad c0 hB (fun s' h => ⟨fun _ => hB, fun hx => absurd hx h⟩)
end PAR
