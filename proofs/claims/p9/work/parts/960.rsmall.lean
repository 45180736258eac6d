/-! the reference's expressions: small methods -/
abbrev KWr (a b : St) : Prop := Kp [(0, 17)] [8] a b
abbrev KFr (a b : St) : Prop := Kp [(0, 12), (0, 13)] [] a b
abbrev KXr (a b : St) : Prop := Kp [(0, 12), (0, 13), (0, 17)] [8, 33] a b
/-- a Value: how, type, height, zero, known, worth, number -/
def MVq (τ : St) (u : Nat) (k t h z f : Int) (x : Int32) (i : Int) : Prop := (τ u 1).toInt = k ∧ (τ u 0).toInt = t ∧ (τ u 3).toInt = h ∧ (τ u 5).toInt = z ∧ (τ u 6).toInt = f ∧ (f = 1 → τ u 7 = x) ∧ (1 ≤ k ∧ k ≤ 2 → (τ u 2).toInt = i)
/-- the Values that are there stay -/
def TFq (τ : St) (vs : List Nat) (t : St) (z : List Nat) : Prop := (∀ u, u ∈ vs → u ∈ z) ∧ ∀ u, u ∈ vs → ∀ m, t u m = τ u m
/-- a fault is told if B -/
def FTq (σ s : St) (B : Prop) : Prop := 0 ≤ (s 0 12).toInt ∧ ((s 0 12).toInt ≠ 0 ↔ (σ 0 12).toInt ≠ 0 ∨ (B ∧ (σ 0 15).toInt ≤ 0))
section RSM
variable {σ s r τ t : St} {vs z : List Nat} {u v : Nat} {k ty h zz f i k2 ty2 h2 z2 f2 i2 : Int} {x x2 a b c : Int32} {B B2 : Prop}
theorem tf_rf : TFq τ vs τ vs := ⟨fun _ h => h, fun _ _ _ => rfl⟩
theorem tf_tr {t2 : St} {y : List Nat} (h1 : TFq τ vs t z) (h2 : TFq t z t2 y) : TFq τ vs t2 y := ⟨fun u hu => h2.1 u (h1.1 u hu), fun u hu m => (h2.2 u (h1.1 u hu) m).trans (h1.2 u hu m)⟩
theorem mv_tf (hA : MVq τ u k ty h zz f x i) (hu : u ∈ vs) (hT : TFq τ vs t z) : MVq t u k ty h zz f x i := by
  unfold MVq
  rw [hT.2 u hu 0, hT.2 u hu 1, hT.2 u hu 2, hT.2 u hu 3, hT.2 u hu 5, hT.2 u hu 6, hT.2 u hu 7]
  exact hA
theorem mv_eq (hA : MVq τ u k ty h zz f x i) (e : ∀ m, t u m = τ u m) : MVq t u k ty h zz f x i := by
  unfold MVq
  rw [e 0, e 1, e 2, e 3, e 5, e 6, e 7]
  exact hA
theorem ft_rf (h0 : 0 ≤ (σ 0 12).toInt) : FTq σ σ False := ⟨h0, ⟨Or.inl, fun hx => by rcases hx with hx | hx; exact hx; exact hx.1.elim⟩⟩
theorem ft_tr (h1 : FTq σ s B) (h2 : FTq s r B2) (e : s 0 15 = σ 0 15) : FTq σ r (B ∨ B2) := ⟨h2.1, by
  rw [h2.2, h1.2, e]
  constructor
  · rintro ((q | ⟨q, q2⟩) | ⟨q, q2⟩)
    · exact Or.inl q
    · exact Or.inr ⟨Or.inl q, q2⟩
    · exact Or.inr ⟨Or.inr q, q2⟩
  · rintro (q | ⟨q | q, q2⟩)
    · exact Or.inl (Or.inl q)
    · exact Or.inl (Or.inr ⟨q, q2⟩)
    · exact Or.inr ⟨q, q2⟩⟩
theorem ft_iff (h1 : FTq σ s B) (e : B ↔ B2) : FTq σ s B2 := ⟨h1.1, by rw [h1.2, e]⟩
theorem ft_k (h1 : FTq σ s B) (e : r 0 12 = s 0 12) : FTq σ r B := by
  unfold FTq
  rw [e]
  exact h1
theorem ft_same (h0 : 0 ≤ (σ 0 12).toInt) (e : s 0 12 = σ 0 12) : FTq σ s False := ft_k (ft_rf h0) e
theorem mr_put0 {Q : St → St → List Nat → Prop} (kk : ∀ s, KWr σ s → Q s τ vs) : pp_put_0 a σ τ vs Q := by
  unfold pp_put_0
  exact ⟨fun _ _ => kk _ (kp_f (kp_a kp_rf rfl) rfl), fun _ => trivial⟩
theorem mr_put1 {Q : St → St → List Nat → Prop} (kk : ∀ s, KWr σ s → Q s τ vs) : pp_put_1 a b σ τ vs Q := by
  unfold pp_put_1
  exact mr_put0 (fun s k1 => mr_put0 (fun s2 k2 => kk s2 (kp_tr k1 k2)))
theorem mr_put2 {Q : St → St → List Nat → Prop} (kk : ∀ s, KWr σ s → Q s τ vs) : pp_put_2 a b c σ τ vs Q := by
  unfold pp_put_2
  exact mr_put1 (fun s k1 => mr_put0 (fun s2 k2 => kk s2 (kp_tr k1 k2)))
theorem mr_open {Q : Int32 → St → St → List Nat → Prop} (kk : ∀ v s, KWr σ s → Q v s τ vs) : pp_open a σ τ vs Q := by
  unfold pp_open
  exact mr_put1 (fun s k1 => kk _ s k1)
theorem mr_aim {Q : St → St → List Nat → Prop} (kk : ∀ s, KWr σ s → Q s τ vs) : pp_aim a σ τ vs Q := fun _ => kk _ (kp_a kp_rf rfl)
/-- reads it -/
theorem mr_read {Q : St → St → List Nat → Prop} (hA : MVq τ u k ty h zz f x i) (kk : u ∈ vs → ∀ s t, KWr σ s → (∀ v, v ≠ u → ∀ m, t v m = τ v m) → MVq t u 0 ty h zz f x i → Q s t vs) : pp_read_1 u σ τ vs Q := by
  unfold pp_read_1
  intro hu
  have go : ∀ s, KWr σ s → Q s (upC τ u 1 (0 : Int32)) vs := fun s ks => by
    obtain ⟨q0, q1, q2, q3, q4, q5, q6⟩ := hA
    exact kk hu s _ ks (fun v hv m => by rw [rdC_ne hv]) ⟨by rw [rdA_eq rfl]; rfl, by rw [rdA_ne (by decide)]; exact q1, by rw [rdA_ne (by decide)]; exact q2, by rw [rdA_ne (by decide)]; exact q3, by rw [rdA_ne (by decide)]; exact q4, fun hf => by rw [rdA_ne (by decide)]; exact q5 hf, fun hi => by omega⟩
  refine ⟨fun s t z => KWr σ s ∧ t = τ ∧ z = vs, ?_, fun _ => ⟨kp_rf, rfl, rfl⟩, fun _ => mr_put1 (fun s ks => ⟨ks, rfl, rfl⟩)⟩
  rintro s t1 z1 ⟨ks, e1, e2⟩ _
  subst e1
  subst e2
  refine ⟨fun s t' z' => KWr σ s ∧ t' = t1 ∧ z' = z1, ?_, fun _ => ⟨ks, rfl, rfl⟩, fun _ => mr_put1 (fun s2 k2 => ⟨kp_tr ks k2, rfl, rfl⟩)⟩
  rintro s2 t2 z2 ⟨k2, e1, e2⟩ _
  subst e1
  subst e2
  exact ⟨fun _ => go s2 k2, fun _ _ => mr_put1 (fun s3 k3 _ => go s3 (kp_tr k2 k3))⟩
theorem mr_tell {Q : St → St → List Nat → Prop} (h0 : 0 ≤ (σ 0 12).toInt) (ha : 0 < a.toInt) (kk : ∀ s, KFr σ s → FTq σ s True → Q s τ vs) : pp_tell a b σ τ vs Q := by
  unfold pp_tell
  refine ⟨fun c => kk σ kp_rf ⟨h0, ⟨Or.inl, fun _ => by omega⟩⟩, fun c => ⟨fun c2 _ => kk _ (kp_f (kp_f kp_rf rfl) rfl) ⟨?_, ?_⟩, fun c2 => kk σ kp_rf ⟨h0, ⟨Or.inl, fun hx => by rcases hx with hx | hx; exact hx; omega⟩⟩⟩⟩
  · rw [rdA_ne (by decide), rdA_eq rfl]
    omega
  · rw [rdA_ne (by decide), rdA_eq rfl]
    exact ⟨fun _ => Or.inr ⟨trivial, c2⟩, fun _ => by omega⟩
theorem mr_must {Q : St → St → List Nat → Prop} (h0 : 0 ≤ (σ 0 12).toInt) (kk : ∀ s, KFr σ s → FTq σ s (a.toInt = 0) → Q s τ vs) : pp_must a b σ τ vs Q := by
  unfold pp_must
  exact ⟨fun c => kk σ kp_rf (ft_iff (ft_rf h0) ⟨fun hx => hx.elim, fun hx => absurd hx c⟩), fun c => mr_tell h0 (by decide) (fun s ks fs => kk s ks (ft_iff fs ⟨fun _ => c, fun _ => trivial⟩))⟩
theorem mem_app {q : Nat} (h : u ∈ vs) : u ∈ vs ++ [q] := List.mem_append_left _ h
theorem nvq {q : Nat} (hq : q ∉ vs) (hu : v ∈ vs) : v ≠ q := fun e => by
  subst e
  exact hq hu
/-- a new Value -/
theorem mr_new {q : Nat} (hq : q ∉ vs) (hu : v ∈ vs) (m : Nat) {g : Nat → Int32} : upF τ q g v m = τ v m := by
  rw [rdF_ne (nvq hq hu)]
theorem mr_made {Q : Nat → St → St → List Nat → Prop} (h0 : 0 ≤ (σ 0 12).toInt) (hA : MVq τ u k ty h zz f x i) (hB : MVq τ v k2 ty2 h2 z2 f2 x2 i2) (hu : u ∈ vs) (hv : v ∈ vs) (hh : 0 ≤ h ∧ h ≤ 20000 ∧ 0 ≤ h2 ∧ h2 ≤ 20000)
    (kk : ∀ q s t, q ∉ vs → KFr σ s → TFq τ vs t (vs ++ [q]) → (∀ m, m ≠ 0 → m ≠ 3 → t q m = 0) → MVq t q 0 a.toInt (1 + mxq h h2) 0 0 0 0 → FTq σ s (60 < 1 + mxq h h2) → Q q s t (vs ++ [q])) : pp_made a u v b σ τ vs Q := by
  unfold pp_made pp_Vinit
  intro _ q hq _ _ _ _
  have e1 : ∀ m, upC (upC (upF τ q (fun _ => 0)) q 3 (1 : Int32)) q 0 a u m = τ u m := fun m => by rw [rdC_ne (nvq hq hu), rdC_ne (nvq hq hu), mr_new hq hu]
  have e2 : ∀ m, upC (upC (upF τ q (fun _ => 0)) q 3 (1 : Int32)) q 0 a v m = τ v m := fun m => by rw [rdC_ne (nvq hq hv), rdC_ne (nvq hq hv), mr_new hq hv]
  rw [e1 3, e2 3]
  have em : (if (τ u 3) < (τ v 3) then (τ v 3) else (τ u 3)).toInt = mxq h h2 := by rw [mx_int, hA.2.2.1, hB.2.2.1]
  have hm : 0 ≤ mxq h h2 ∧ mxq h h2 ≤ 20000 := by unfold mxq; split <;> omega
  have e3 : ((if (τ u 3) < (τ v 3) then (τ v 3) else (τ u 3)) + (1 : Int32)).toInt = 1 + mxq h h2 := by rw [ad0 i1 (by omega) (by omega), em]; omega
  generalize hg : upC (upC (upC (upF τ q (fun _ => 0)) q 3 (1 : Int32)) q 0 a) q 3 ((if (τ u 3) < (τ v 3) then (τ v 3) else (τ u 3)) + (1 : Int32)) = t
  have tq : ∀ m, t q m = if m = 3 then ((if (τ u 3) < (τ v 3) then (τ v 3) else (τ u 3)) + (1 : Int32)) else if m = 0 then a else 0 := fun m => by
    rw [← hg, rdA]
    by_cases q3 : m = 3
    · rw [if_pos q3, if_pos q3]
    · rw [if_neg q3, if_neg q3, rdA]
      by_cases q0 : m = 0
      · rw [if_pos q0, if_pos q0]
      · rw [if_neg q0, if_neg q0, rdA_ne q3, rdF_eq]
  have tf : TFq τ vs t (vs ++ [q]) := ⟨fun w hw => mem_app hw, fun w hw m => by rw [← hg, rdC_ne (nvq hq hw), rdC_ne (nvq hq hw), rdC_ne (nvq hq hw), mr_new hq hw]⟩
  have mv : MVq t q 0 a.toInt (1 + mxq h h2) 0 0 0 0 := by
    refine ⟨?_, ?_, ?_, ?_, ?_, fun hf => absurd hf (by decide), fun hi => by omega⟩
    · rw [tq]; rfl
    · rw [tq, if_neg (by decide), if_pos rfl]
    · rw [tq, if_pos rfl, e3]
    · rw [tq]; rfl
    · rw [tq]; rfl
  have t0 : ∀ m, m ≠ 0 → m ≠ 3 → t q m = 0 := fun m m0 m3 => by rw [tq, if_neg m3, if_neg m0]
  rw [e3]
  exact ⟨fun c => kk q σ t hq kp_rf tf t0 mv (ft_iff (ft_rf h0) ⟨fun hx => hx.elim, fun hx => by omega⟩), fun c => mr_tell h0 (by decide) (fun s ks fs => kk q s t hq ks tf t0 mv (ft_iff fs ⟨fun _ => c, fun _ => trivial⟩))⟩
theorem mr_isInt {Q : Int32 → Prop} (hA : MVq τ u k ty h zz f x i) (k1 : ty = 0 → Q 1) (k0 : ty ≠ 0 → Q 0) : pp_isInt u σ τ vs Q := by
  unfold pp_isInt
  have := hA.2.1
  exact fun _ => ⟨fun c => k0 (by omega), fun c => k1 (by omega)⟩
theorem mr_isPointer {Q : Int32 → Prop} (hA : MVq τ u k ty h zz f x i) (k1 : 0 < ty → Q 1) (k0 : ty ≤ 0 → Q 0) : pp_isPointer u σ τ vs Q := by
  unfold pp_isPointer
  have := hA.2.1
  exact fun _ => ⟨fun c => k0 (by omega), fun c => k1 (by omega)⟩
theorem mr_isAny {Q : Int32 → Prop} (hA : MVq τ u k ty h zz f x i) (k1 : 0 ≤ ty → Q 1) (k0 : ty < 0 → Q 0) : pp_isAny u σ τ vs Q := by
  unfold pp_isAny
  have := hA.2.1
  exact fun _ => ⟨fun c => k0 (by omega), fun c => k1 (by omega)⟩
theorem mr_fits {Q : Int32 → Prop} (hA : MVq τ u k ty h zz f x i) (kk : ∀ v : Int32, (v.toInt = 0 ∨ v.toInt = 1) → (v.toInt = 1 ↔ ty = a.toInt ∨ (0 < a.toInt ∧ zz ≠ 0)) → Q v) : pp_fits u a σ τ vs Q := by
  unfold pp_fits
  have h1 := hA.2.1
  have h3 := hA.2.2.2.1
  exact fun _ => ⟨fun c => kk 1 (Or.inr rfl) ⟨fun _ => Or.inl (by omega), fun _ => rfl⟩, fun c => ⟨fun c2 => kk 0 (Or.inl rfl) ⟨fun hx => absurd hx (by decide), fun hx => by omega⟩, fun c2 => ⟨fun c3 => kk 0 (Or.inl rfl) ⟨fun hx => absurd hx (by decide), fun hx => by omega⟩, fun c3 => kk 1 (Or.inr rfl) ⟨fun _ => Or.inr ⟨c2, by omega⟩, fun _ => rfl⟩⟩⟩⟩
/-- tokens -/
def RTk (σ : St) (kd : Nat → Int) (n : Nat) : Prop := n ≤ 16000 ∧ (∀ p, p ≤ n → (σ 2 p).toInt = rkI (kd p)) ∧ (∀ p, 0 ≤ kd p ∧ kd p ≤ 62) ∧ (∀ p, n < p → kd p = 0) ∧ kd n ≤ 1
def GMt (σ : St) (n p : Nat) : Prop := (σ 0 10).toInt = (p : Int) ∧ p ≤ n
theorem rk_inj : ∀ a : Nat, a < 63 → ∀ b : Nat, b < 63 → rkI (a : Int) = rkI (b : Int) → a = b := by decide
theorem rk_one {a b : Int} (ha : 0 ≤ a ∧ a ≤ 62) (hb : 0 ≤ b ∧ b ≤ 62) (h : rkI a = rkI b) : a = b := by
  have e1 : ((a.toNat : Nat) : Int) = a := by omega
  have e2 : ((b.toNat : Nat) : Int) = b := by omega
  have := rk_inj a.toNat (by omega) b.toNat (by omega) (by rw [e1, e2]; exact h)
  omega
variable {kd : Nat → Int} {n p : Nat}
theorem rtk_k {fs : List (Nat × Nat)} {cs : List Nat} (hk : Kp fs cs σ s) (h1 : ∀ j, fs.contains (2, j) = false) (h2 : cs.contains 2 = false) (h : RTk σ kd n) : RTk s kd n := by
  have e : s 2 = σ 2 := funext (fun j => hk 2 j (h1 j) h2)
  unfold RTk
  rw [e]
  exact h
theorem gm_kind (tk : RTk σ kd n) (g : GMt σ n p) : (σ 2 (σ 0 10).toNatClampNeg).toInt = rkI (kd p) := by
  rw [show (σ 0 10).toNatClampNeg = p from by rw [nt', g.1]; rfl]
  exact tk.2.1 p g.2
theorem gm_lt (tk : RTk σ kd n) (g : GMt σ n p) (h2 : 2 ≤ kd p) : p < n := by
  by_cases c : p = n
  · have := tk.2.2.2.2
    rw [c] at h2
    omega
  · have := g.2
    omega
theorem gm_up (tk : RTk σ kd n) (g : GMt σ n p) (h2 : 2 ≤ kd p) : GMt (upC σ 0 10 ((σ 0 10) + (1 : Int32))) n (p + 1) := by
  have := gm_lt tk g h2
  have h16 := tk.1
  refine ⟨?_, by omega⟩
  rw [rdA_eq rfl, ad0 i1 (by have := g.1; omega) (by have := g.1; omega), g.1]
  rfl
theorem mr_is {Q : Int32 → Prop} {c : Int} (tk : RTk σ kd n) (g : GMt σ n p) (hc : 0 ≤ c ∧ c ≤ 62) (ha : ((32 : Int32) + a).toInt = rkI c) (k1 : kd p = c → Q 1) (k0 : kd p ≠ c → Q 0) : pp_is a σ τ vs Q := by
  unfold pp_is
  intro _
  rw [gm_kind tk g, ha]
  exact ⟨fun d => k0 (fun e => d (by rw [e])), fun d => k1 (rk_one (tk.2.2.1 p) hc d)⟩
theorem mr_expect {Q : St → St → List Nat → Prop} {F : Prop} {c : Int} (tk : RTk σ kd n) (g : GMt σ n p) (hc : 2 ≤ c ∧ c ≤ 62) (ha : ((32 : Int32) + a).toInt = rkI c) (k1 : kd p = c → ∀ s, Kp [(0, 10)] [] σ s → GMt s n (p + 1) → Q s τ vs) (k0 : kd p ≠ c → F) : pp_expect a σ τ vs Q (fun _ _ _ => F) := by
  unfold pp_expect pp_wrong pp_wrongAt
  exact mr_is tk g (by omega) ha (fun e => ⟨fun _ => k1 e _ (kp_f kp_rf rfl) (gm_up tk g (by omega)), fun hx => absurd hx (by decide)⟩) (fun e => ⟨fun hx => absurd rfl hx, fun _ _ => k0 e⟩)
theorem mr_accept {Q : Int32 → St → St → List Nat → Prop} {c : Int} (tk : RTk σ kd n) (g : GMt σ n p) (hc : 2 ≤ c ∧ c ≤ 62) (ha : ((32 : Int32) + a).toInt = rkI c) (k1 : kd p = c → ∀ s, Kp [(0, 10)] [] σ s → GMt s n (p + 1) → Q 1 s τ vs) (k0 : kd p ≠ c → Q 0 σ τ vs) : pp_accept a σ τ vs Q := by
  unfold pp_accept
  exact mr_is tk g (by omega) ha (fun e => ⟨fun _ => k1 e _ (kp_f kp_rf rfl) (gm_up tk g (by omega)), fun hx => absurd hx (by decide)⟩) (fun e => ⟨fun hx => absurd rfl hx, fun _ => k0 e⟩)
theorem mr_deeper {Q : Int32 → St → St → List Nat → Prop} {F : Prop} {d : Nat} (hx : a.toInt = (d : Int)) (hd : d ≤ 25) (k1 : d < 25 → ∀ v : Int32, v.toInt = (d : Int) + 1 → Q v σ τ vs) (k0 : ¬ d < 25 → F) : pp_deeper a σ τ vs Q (fun _ _ _ => F) := by
  unfold pp_deeper pp_wrong pp_wrongAt
  exact ⟨fun c => k1 (by omega) _ (by rw [ad1 (by omega), hx]), fun c _ => k0 (by omega)⟩
theorem mr_sign {Q : Int32 → Prop} (tk : RTk σ kd n) (g : GMt σ n p) (kk : ∀ v : Int32, v.toInt = rkI (kd p) - 32 → Q v) : pp_sign σ τ vs Q := by
  unfold pp_sign
  intro _
  refine kk _ ?_
  have e := gm_kind tk g
  have hr : ∀ a : Nat, a < 63 → 0 ≤ rkI (a : Int) ∧ rkI (a : Int) ≤ 100 := by decide
  have h1 := tk.2.2.1 p
  have h2 := hr (kd p).toNat (by omega)
  rw [show (((kd p).toNat : Nat) : Int) = kd p from by omega] at h2
  rw [sbc (n := 32) (by decide) (by omega) (by omega), e]
/-- signs by their class's numbers -/
theorem sg_asg : ∀ a : Nat, a < 63 → ((0 ≤ rkI (a : Int) - 32 ∧ rkI (a : Int) - 32 ≤ 9) ∨ rkI (a : Int) - 32 = 30 ↔ 30 ≤ a ∧ a ≤ 40) := by decide
theorem mr_isAssignment {Q : Int32 → Prop} {k : Int} (hk : 0 ≤ k ∧ k ≤ 62) (ha : a.toInt = rkI k - 32) (k1 : 30 ≤ k ∧ k ≤ 40 → Q 1) (k0 : ¬ (30 ≤ k ∧ k ≤ 40) → Q 0) : pp_isAssignment a σ τ vs Q := by
  have h := sg_asg k.toNat (by omega)
  rw [show ((k.toNat : Nat) : Int) = k from by omega, ← ha] at h
  unfold pp_isAssignment
  refine ⟨¬ (0 ≤ a.toInt ∧ a.toInt ≤ 9), fun hj => ⟨fun c => k0 (by omega), fun c => k1 (by omega)⟩, fun c => by omega, fun c => ⟨fun c2 => k1 (by omega), fun c2 => by omega⟩⟩
theorem rk_rank : ∀ a : Nat, a < 63 → (if rkI (a : Int) - 32 = 10 then 1 else if rkI (a : Int) - 32 = 11 then 2 else if rkI (a : Int) - 32 = 31 then 3 else if rkI (a : Int) - 32 = 32 then 4 else if rkI (a : Int) - 32 = 33 then 5 else if rkI (a : Int) - 32 = 12 ∨ rkI (a : Int) - 32 = 13 then 6 else if rkI (a : Int) - 32 = 14 ∨ rkI (a : Int) - 32 = 15 ∨ rkI (a : Int) - 32 = 34 ∨ rkI (a : Int) - 32 = 35 then 7 else if rkI (a : Int) - 32 = 16 ∨ rkI (a : Int) - 32 = 17 then 8 else if rkI (a : Int) - 32 = 36 ∨ rkI (a : Int) - 32 = 37 then 9 else if rkI (a : Int) - 32 = 38 ∨ rkI (a : Int) - 32 = 39 ∨ rkI (a : Int) - 32 = 40 then 10 else 0) = lvq (a : Int) := by decide
theorem mr_rank {Q : Int32 → Prop} {k : Int} (hk : 0 ≤ k ∧ k ≤ 62) (ha : a.toInt = rkI k - 32) (kk : ∀ v : Int32, v.toInt = lvq k → Q v) : pp_rank a σ τ vs Q := by
  have h := rk_rank k.toNat (by omega)
  rw [show ((k.toNat : Nat) : Int) = k from by omega, ← ha] at h
  have go : ∀ v : Int32, v.toInt = (if a.toInt = 10 then 1 else if a.toInt = 11 then 2 else if a.toInt = 31 then 3 else if a.toInt = 32 then 4 else if a.toInt = 33 then 5 else if a.toInt = 12 ∨ a.toInt = 13 then 6 else if a.toInt = 14 ∨ a.toInt = 15 ∨ a.toInt = 34 ∨ a.toInt = 35 then 7 else if a.toInt = 16 ∨ a.toInt = 17 then 8 else if a.toInt = 36 ∨ a.toInt = 37 then 9 else if a.toInt = 38 ∨ a.toInt = 39 ∨ a.toInt = 40 then 10 else 0) → Q v := fun v hv => kk v (by rw [hv, h])
  clear h kk
  unfold pp_rank
  generalize a.toInt = m at go ⊢
  have g0 := go 0
  have g1 := go 1
  have g2 := go 2
  have g3 := go 3
  have g4 := go 4
  have g5 := go 5
  have g6 := go 6
  have g7 := go 7
  have g8 := go 8
  have g9 := go 9
  have g10 := go 10
  have l0 : ((0 : Int32)).toInt = 0 := by decide
  have l1 : ((1 : Int32)).toInt = 1 := by decide
  have l2 : ((2 : Int32)).toInt = 2 := by decide
  have l3 : ((3 : Int32)).toInt = 3 := by decide
  have l4 : ((4 : Int32)).toInt = 4 := by decide
  have l5 : ((5 : Int32)).toInt = 5 := by decide
  have l6 : ((6 : Int32)).toInt = 6 := by decide
  have l7 : ((7 : Int32)).toInt = 7 := by decide
  have l8 : ((8 : Int32)).toInt = 8 := by decide
  have l9 : ((9 : Int32)).toInt = 9 := by decide
  have l10 : ((10 : Int32)).toInt = 10 := by decide
  rw [l0] at g0
  rw [l1] at g1
  rw [l2] at g2
  rw [l3] at g3
  rw [l4] at g4
  rw [l5] at g5
  rw [l6] at g6
  rw [l7] at g7
  rw [l8] at g8
  rw [l9] at g9
  rw [l10] at g10
  refine ⟨fun n10 => ⟨fun n11 => ⟨fun n31 => ⟨fun n32 => ⟨fun n33 => ⟨fun e => g6 ?_, fun n12 => ⟨fun n13 => ⟨fun e => g7 ?_, fun n14 => ⟨fun e => g7 ?_, fun n15 => ⟨fun e => g7 ?_, fun n34 => ⟨fun n35 => ⟨fun e => g8 ?_, fun n16 => ⟨fun n17 => ⟨fun e => g9 ?_, fun n36 => ⟨fun n37 => ⟨fun e => g10 ?_, fun n38 => ⟨fun e => g10 ?_, fun n39 => ⟨fun e => g0 ?_, fun e => g10 ?_⟩⟩⟩, fun e => g9 ?_⟩⟩, fun e => g8 ?_⟩⟩, fun e => g7 ?_⟩⟩⟩⟩, fun e => g6 ?_⟩⟩, fun e => g5 ?_⟩, fun e => g4 ?_⟩, fun e => g3 ?_⟩, fun e => g2 ?_⟩, fun e => g1 ?_⟩
  all_goals (repeat' split) <;> omega
end RSM
