/-! the class's grammar: small methods -/
abbrev KGq (a b : St) : Prop := Kp [(3, 1), (3, 2), (3, 3), (3, 4), (3, 9)] [18, 19, 20, 21, 22, 23] a b
/-- the tokens' kinds: n of them, then the end or what is none -/
def TKd (σ : St) (kd : Nat → Int) (n : Nat) : Prop := (σ 2 4).toInt = (n : Int) + 1 ∧ n ≤ 16000 ∧ (∀ p, p ≤ n → (σ 13 p).toInt = kd p) ∧ (∀ p, n < p → kd p = 0) ∧ (∀ p, p < n → 2 ≤ kd p ∧ kd p ≤ 62) ∧ (kd n = 0 ∨ kd n = 1)
/-- the steps that are put -/
def TBL (s : St) (L : List Stq) : Prop := (s 3 4).toInt = (L.length : Int) ∧ ∀ (i : Nat) (a : Int) (p : Nat) (x y : Int), L[i]? = some (a, p, x, y) → (s 18 i).toInt = a ∧ (s 19 i).toInt = (p : Int) ∧ (s 20 i).toInt = x ∧ (s 21 i).toInt = y
def GSt (kd : Nat → Int) (n : Nat) (s : St) (p : Nat) (L : List Stq) : Prop := (s 3 3).toInt < 0 ∧ (s 3 1).toInt = (p : Int) ∧ p ≤ n ∧ (s 3 2).toInt = kd p ∧ TBL s L
def GBd (s : St) : Prop := 0 ≤ (s 3 3).toInt ∧ (s 3 2).toInt = -1
def PSq (σ s : St) : Prop := s 3 9 = σ 3 9 ∧ ∀ j : Nat, (j : Int) < (σ 3 9).toInt → s 22 j = σ 22 j
abbrev KXq : Type := Int32 → St → (St → Prop) → Prop
section GSM
variable {kd : Nat → Int} {n p q : Nat} {σ s t : St} {L : List Stq} {x a1 a2 a3 a4 : Int32}
theorem tkd_k (k : KGq σ s) (h : TKd σ kd n) : TKd s kd n := by
  have e4 : s 2 4 = σ 2 4 := k 2 4 rfl rfl
  have e13 : s 13 = σ 13 := funext (fun j => k 13 j rfl rfl)
  unfold TKd
  rw [e4, e13]
  exact h
theorem psq_rf : PSq σ σ := ⟨rfl, fun _ _ => rfl⟩
theorem psq_tr (h : PSq σ s) (g : PSq s t) : PSq σ t := ⟨g.1.trans h.1, fun j hj => (g.2 j (by rw [h.1]; exact hj)).trans (h.2 j hj)⟩
theorem psq_k {fs : List (Nat × Nat)} {cs : List Nat} (k : Kp fs cs σ s) (h1 : fs.contains (3, 9) = false ∧ cs.contains 3 = false) (h2 : cs.contains 22 = false) (h3 : ∀ j, fs.contains (22, j) = false) : PSq σ s := ⟨k 3 9 h1.1 h1.2, fun j _ => k 22 j (h3 j) h2⟩
theorem gst_kd (tk : TKd σ kd n) (g : GSt kd n σ p L) (h : 2 ≤ kd p) : p < n := by
  by_cases c : p = n
  · have := tk.2.2.2.2.2
    rw [c] at h
    omega
  · have := g.2.2.1
    omega
theorem kd_r (tk : TKd σ kd n) (p : Nat) : 0 ≤ kd p ∧ kd p ≤ 62 := by
  by_cases c : p < n
  · have := tk.2.2.2.2.1 p c
    omega
  · by_cases c2 : p = n
    · have := tk.2.2.2.2.2
      rw [c2]
      omega
    · rw [tk.2.2.2.1 p (by omega)]
      omega
theorem tbl_k (h : TBL σ L) (k : Kp [(3, 1), (3, 2), (3, 3), (3, 9)] [22, 23] σ s) : TBL s L := by
  refine ⟨by rw [show s 3 4 = σ 3 4 from k 3 4 rfl rfl]; exact h.1, fun i a p x y e => ?_⟩
  rw [show s 18 i = σ 18 i from k 18 i rfl rfl, show s 19 i = σ 19 i from k 19 i rfl rfl, show s 20 i = σ 20 i from k 20 i rfl rfl, show s 21 i = σ 21 i from k 21 i rfl rfl]
  exact h.2 i a p x y e
theorem gst_k (h : GSt kd n σ p L) (k : Kp [(3, 9)] [22, 23] σ s) : GSt kd n s p L := by
  obtain ⟨h1, h2, h3, h4, h5⟩ := h
  refine ⟨by rw [show s 3 3 = σ 3 3 from k 3 3 rfl rfl]; exact h1, by rw [show s 3 1 = σ 3 1 from k 3 1 rfl rfl]; exact h2, h3, by rw [show s 3 2 = σ 3 2 from k 3 2 rfl rfl]; exact h4, tbl_k h5 (kp_sub k rfl rfl)⟩
theorem gbd_k (h : GBd σ) (k : Kp [(3, 1), (3, 4), (3, 9)] [18, 19, 20, 21, 22, 23] σ s) : GBd s := by
  refine ⟨by rw [show s 3 3 = σ 3 3 from k 3 3 rfl rfl]; exact h.1, by rw [show s 3 2 = σ 3 2 from k 3 2 rfl rfl]; exact h.2⟩
theorem pg_adv {Q : St → Prop} (tk : TKd σ kd n) (g : GSt kd n σ p L) (hk : 2 ≤ kd p) (k : ∀ s, Kp [(3, 1), (3, 2)] [] σ s → GSt kd n s (p + 1) L → Q s) : pk_X3_advance σ Q := by
  have hp := gst_kd tk g hk
  have h16 := tk.2.1
  obtain ⟨g1, g2, g3, g4, g5⟩ := g
  have e1 : ((σ 3 1) + (1 : Int32)).toInt = (p : Int) + 1 := by rw [ad0 i1 (by omega) (by omega), g2]
  have tk1 := tk.1
  unfold pk_X3_advance
  refine ⟨fun y => y.toInt = 1, fun y _ hy => ⟨fun c => by omega, fun _ _ => k _ (kp_f (kp_f kp_rf rfl) rfl) ⟨?_, ?_, by omega, ?_, ?_⟩⟩, False, fun f => f.elim, fun c => by omega, fun _ => ⟨fun c => by omega, fun _ => ⟨fun c => by omega, fun _ => rfl⟩⟩⟩
  · rw [rdA_ne (by decide), rdA_ne (by decide)]
    exact g1
  · rw [rdA_ne (by decide), rdA_eq rfl, e1]
    rfl
  · rw [rdA_eq rfl, show ((σ 3 1) + (1 : Int32)).toNatClampNeg = p + 1 from by rw [nt', e1]; omega]
    exact tk.2.2.1 (p + 1) (by omega)
  · exact tbl_k g5 (kp_f (kp_f kp_rf rfl) rfl)
theorem pg_fail {Q : St → Prop} (g : GSt kd n σ p L) (k : ∀ s, Kp [(3, 2), (3, 3)] [] σ s → GBd s → Q s) : pk_X3_fail σ Q := by
  obtain ⟨g1, g2, g3, g4, g5⟩ := g
  unfold pk_X3_fail
  refine ⟨fun c => by omega, fun _ => k _ (kp_f (kp_f kp_rf rfl) rfl) ⟨?_, ?_⟩⟩
  · rw [rdA_ne (by decide), rdA_eq rfl]
    omega
  · rw [rdA_eq rfl]
    decide
theorem jk_fail {Q : St → Prop} (g : GBd σ) (k : ∀ s, KGq σ s → GBd s → Q s) : pk_X3_fail σ Q := by
  unfold pk_X3_fail
  refine ⟨fun c => k _ (kp_f kp_rf rfl) ⟨?_, ?_⟩, fun c => absurd c (by have := g.1; omega)⟩
  · rw [rdA_ne (by decide)]
    exact c
  · rw [rdA_eq rfl]
    decide
theorem pg_expect {Q : St → Prop} (tk : TKd σ kd n) (g : GSt kd n σ p L) (hx : 2 ≤ x.toInt) (k1 : ∀ s, Kp [(3, 1), (3, 2)] [] σ s → kd p = x.toInt → GSt kd n s (p + 1) L → Q s) (k0 : ∀ s, Kp [(3, 2), (3, 3)] [] σ s → kd p ≠ x.toInt → GBd s → Q s) : pk_X3_expect x σ Q := by
  have e := g.2.2.2.1
  unfold pk_X3_expect
  exact ⟨fun c => pg_fail g (fun s ks gb => k0 s ks (by omega) gb), fun c => pg_adv tk g (by omega) (fun s ks gs => k1 s ks (by omega) gs)⟩
theorem jk_expect {Q : St → Prop} (g : GBd σ) (hx : 0 ≤ x.toInt) (k : ∀ s, KGq σ s → GBd s → Q s) : pk_X3_expect x σ Q := by
  unfold pk_X3_expect
  exact ⟨fun c => jk_fail g k, fun c => absurd c (by have := g.2; omega)⟩
theorem pg_accept {Q : Int32 → St → Prop} (tk : TKd σ kd n) (g : GSt kd n σ p L) (hx : 2 ≤ x.toInt) (k1 : ∀ s, Kp [(3, 1), (3, 2)] [] σ s → kd p = x.toInt → GSt kd n s (p + 1) L → Q 1 s) (k0 : kd p ≠ x.toInt → Q 0 σ) : pk_X3_accept x σ Q := by
  have e := g.2.2.2.1
  unfold pk_X3_accept
  refine ⟨fun y => (y = 0 ∧ kd p ≠ x.toInt) ∨ (y = 1 ∧ kd p = x.toInt), ?_, fun c => Or.inl ⟨rfl, by omega⟩, fun c => Or.inr ⟨rfl, by omega⟩⟩
  rintro y - (⟨rfl, c⟩ | ⟨rfl, c⟩)
  · exact ⟨fun _ => k0 c, fun e => absurd rfl e⟩
  · exact ⟨fun e => absurd e (by decide), fun _ => pg_adv tk g (by omega) (fun s ks gs => k1 s ks c gs)⟩
theorem jk_accept {Q : Int32 → St → Prop} (g : GBd σ) (hx : 0 ≤ x.toInt) (k : Q 0 σ) : pk_X3_accept x σ Q := by
  unfold pk_X3_accept
  refine ⟨fun y => y = 0, ?_, fun c => rfl, fun c => absurd c (by have := g.2; omega)⟩
  rintro y - rfl
  exact ⟨fun _ => k, fun e => absurd rfl e⟩
theorem pg_deeper {Q : Int32 → St → Prop} {d : Nat} (tk : TKd σ kd n) (g : GSt kd n σ p L) (hk : 2 ≤ kd p) (hx : x.toInt = d) (k1 : ∀ s, d < 25 → Kp [(3, 1), (3, 2)] [] σ s → GSt kd n s (p + 1) L → Q 1 s) (k0 : ∀ s, ¬ d < 25 → Kp [(3, 2), (3, 3)] [] σ s → GBd s → Q 0 s) : pk_X3_deeper x σ Q := by
  unfold pk_X3_deeper
  refine ⟨fun y => (y = 0 ∧ ¬ d < 25) ∨ (y = 1 ∧ d < 25), ?_, fun c => Or.inl ⟨rfl, by omega⟩, fun c => Or.inr ⟨rfl, by omega⟩⟩
  rintro y - (⟨rfl, c⟩ | ⟨rfl, c⟩)
  · exact ⟨fun _ => pg_fail g (fun s ks gb => k0 s c ks gb), fun e => absurd rfl e⟩
  · exact ⟨fun e => absurd e (by decide), fun _ => pg_adv tk g hk (fun s ks gs => k1 s c ks gs)⟩
theorem pg_add {Q : Int32 → St → Prop} {a : Stq} (g : GSt kd n σ p L) (hl : (L.length : Int) ≤ 32090) (ha : (a1.toInt, a2.toInt, a3.toInt, a4.toInt) = (a.1, (a.2.1 : Int), a.2.2.1, a.2.2.2)) (k : ∀ v s, Kp [(3, 4)] [18, 19, 20, 21] σ s → GSt kd n s p (L ++ [a]) → v.toInt = (L.length : Int) → Q v s) : pk_X3_add a1 a2 a3 a4 σ Q := by
  obtain ⟨g1, g2, g3, g4, g5⟩ := g
  have g6 := g5.1
  have en : (σ 3 4).toNatClampNeg = L.length := by rw [nt', g6]; rfl
  have e4 : ((σ 3 4) + (1 : Int32)).toInt = (L.length : Int) + 1 := by rw [ad0 i1 (by omega) (by omega), g6]
  unfold pk_X3_add
  refine ⟨fun c => by omega, fun _ => ⟨fun c => by omega, fun _ => ⟨fun c => by omega, fun _ => ⟨fun c => by omega, fun _ => ⟨fun c => by omega, fun _ _ _ _ _ => ?_⟩⟩⟩⟩⟩
  rw [en]
  have kk : Kp [(3, 4)] [18, 19, 20, 21] σ (upC (upC (upC (upC (upC σ 18 L.length a1) 19 L.length a2) 20 L.length a3) 21 L.length a4) 3 4 ((σ 3 4) + (1 : Int32))) := kp_f (kp_a (kp_a (kp_a (kp_a kp_rf rfl) rfl) rfl) rfl) rfl
  have r18 : ∀ j, upC (upC (upC (upC (upC σ 18 L.length a1) 19 L.length a2) 20 L.length a3) 21 L.length a4) 3 4 ((σ 3 4) + (1 : Int32)) 18 j = if j = L.length then a1 else σ 18 j := fun j => by simp only [rdC, Nat.reduceEqDiff, if_true, if_false]
  have r19 : ∀ j, upC (upC (upC (upC (upC σ 18 L.length a1) 19 L.length a2) 20 L.length a3) 21 L.length a4) 3 4 ((σ 3 4) + (1 : Int32)) 19 j = if j = L.length then a2 else σ 19 j := fun j => by simp only [rdC, Nat.reduceEqDiff, if_true, if_false]
  have r20 : ∀ j, upC (upC (upC (upC (upC σ 18 L.length a1) 19 L.length a2) 20 L.length a3) 21 L.length a4) 3 4 ((σ 3 4) + (1 : Int32)) 20 j = if j = L.length then a3 else σ 20 j := fun j => by simp only [rdC, Nat.reduceEqDiff, if_true, if_false]
  have r21 : ∀ j, upC (upC (upC (upC (upC σ 18 L.length a1) 19 L.length a2) 20 L.length a3) 21 L.length a4) 3 4 ((σ 3 4) + (1 : Int32)) 21 j = if j = L.length then a4 else σ 21 j := fun j => by simp only [rdC, Nat.reduceEqDiff, if_true, if_false]
  have r34 : upC (upC (upC (upC (upC σ 18 L.length a1) 19 L.length a2) 20 L.length a3) 21 L.length a4) 3 4 ((σ 3 4) + (1 : Int32)) 3 4 = (σ 3 4) + (1 : Int32) := rdA_eq rfl
  generalize upC (upC (upC (upC (upC σ 18 L.length a1) 19 L.length a2) 20 L.length a3) 21 L.length a4) 3 4 ((σ 3 4) + (1 : Int32)) = s at kk r18 r19 r20 r21 r34
  refine k _ s kk ⟨by rw [show s 3 3 = σ 3 3 from kk 3 3 rfl rfl]; exact g1, by rw [show s 3 1 = σ 3 1 from kk 3 1 rfl rfl]; exact g2, g3, by rw [show s 3 2 = σ 3 2 from kk 3 2 rfl rfl]; exact g4, ?_, fun i b q y z e => ?_⟩ g6
  · rw [r34, e4, List.length_append]
    rfl
  · rw [r18, r19, r20, r21]
    rcases app_at e with ⟨c, e⟩ | ⟨c, e⟩
    · rw [if_neg (by omega), if_neg (by omega), if_neg (by omega), if_neg (by omega)]
      exact g5.2 i b q y z e
    · rw [if_pos c, if_pos c, if_pos c, if_pos c]
      rw [← e] at ha
      exact ⟨congrArg (fun z : Int × Int × Int × Int => z.1) ha, congrArg (fun z : Int × Int × Int × Int => z.2.1) ha, congrArg (fun z : Int × Int × Int × Int => z.2.2.1) ha, congrArg (fun z : Int × Int × Int × Int => z.2.2.2) ha⟩
theorem jk_add {Q : Int32 → St → Prop} (g : GBd σ) (k : ∀ v s, Kp [(3, 4)] [18, 19, 20, 21] σ s → GBd s → Q v s) : pk_X3_add a1 a2 a3 a4 σ Q := by
  unfold pk_X3_add
  have h := k (σ 3 4) σ kp_rf g
  refine ⟨fun _ => h, fun _ => ⟨fun _ => h, fun _ => ⟨fun _ => h, fun _ => ⟨fun _ => h, fun _ => ⟨fun _ => h, fun _ _ _ _ _ => ?_⟩⟩⟩⟩⟩
  have kk : Kp [(3, 4)] [18, 19, 20, 21] σ (upC (upC (upC (upC (upC σ 18 (σ 3 4).toNatClampNeg a1) 19 (σ 3 4).toNatClampNeg a2) 20 (σ 3 4).toNatClampNeg a3) 21 (σ 3 4).toNatClampNeg a4) 3 4 ((σ 3 4) + (1 : Int32))) := kp_f (kp_a (kp_a (kp_a (kp_a kp_rf rfl) rfl) rfl) rfl) rfl
  exact k _ _ kk (gbd_k g (kp_sub kk rfl rfl))
theorem pg_levelOf {Q : Int32 → Prop} (hx : -2000 ≤ x.toInt ∧ x.toInt ≤ 2000000000) (k : ∀ v : Int32, v.toInt = lvq x.toInt → Q v) : pk_X3_levelOf x σ Q := by
  have e : (x - (41 : Int32)).toInt = x.toInt - 41 := sbc (by decide) (by omega) (by omega)
  unfold pk_X3_levelOf
  refine ⟨fun c => k _ ?_, fun c => ⟨fun c2 => k _ ?_, fun c2 _ => k _ ?_⟩⟩
  · unfold lvq
    rw [if_neg (by omega)]
    rfl
  · unfold lvq
    rw [if_neg (by omega)]
    rfl
  · have e2 : (x - (41 : Int32)).toNatClampNeg = (x.toInt - 41).toNat := by rw [nt', e]
    unfold lvq
    rw [if_pos (by omega), e2]
theorem lvq_r (x : Int) : 0 ≤ lvq x ∧ lvq x ≤ 10 ∧ (1 ≤ lvq x → 41 ≤ x ∧ x ≤ 58) := by
  have h : ∀ n, n < 18 → 1 ≤ (gC 0 n).toInt ∧ (gC 0 n).toInt ≤ 10 := by decide
  unfold lvq
  by_cases c : 41 ≤ x ∧ x ≤ 58
  · rw [if_pos c]
    have := h (x - 41).toNat (by omega)
    exact ⟨by omega, by omega, fun _ => c⟩
  · rw [if_neg c]
    exact ⟨by omega, by omega, fun h => by omega⟩
/-- stars -/
theorem pg_stars {Q : Int32 → St → Prop} (tk : TKd σ kd n) (g : GSt kd n σ p L) (k1 : ∀ (v : Int32) s t p1, Kp [(3, 1), (3, 2)] [] σ s → SRq kd 5 p = some (t, p1) → v.toInt = (t : Int) → GSt kd n s p1 L → p ≤ p1 → t ≤ 5 → Q v s) (k0 : ∀ v s, KGq σ s → SRq kd 5 p = none → GBd s → Q v s) : pk_X3_stars σ Q := by
  unfold pk_X3_stars
  refine ⟨fun x s => Kp [(3, 1), (3, 2)] [] σ s ∧ ∃ j : Nat, j ≤ 5 ∧ x.toInt = (j : Int) ∧ GSt kd n s (p + j) L ∧ (∀ r, SRq kd (5 - j) (p + j) = r → SRq kd 5 p = r.bind fun r => some (r.1 + j, r.2)), ⟨kp_rf, 0, by decide, rfl, g, fun r h => ?_⟩, ?_⟩
  · show SRq kd 5 p = _
    have h' : SRq kd 5 p = r := h
    rw [h']
    cases r <;> rfl
  rintro x s ⟨ks, j, h1, h2, h3, h4⟩
  have e := h3.2.2.2.1
  have tks := tkd_k (kp_sub ks rfl rfl) tk
  refine ⟨¬ (j < 5 ∧ kd (p + j) = 45), fun hj => ⟨fun c => ?_, fun c => ?_⟩, fun c hh => by omega, fun c => ⟨fun c2 hh => by omega, fun c2 => pg_adv tks h3 (by omega) (fun s2 k2 g2 => ⟨kp_tr ks k2, j + 1, by omega, by rw [ad1 (by omega)]; omega, g2, fun r hr => ?_⟩)⟩⟩
  · have e2 : SRq kd (5 - j) (p + j) = some (0, p + j) := by
      cases h : 5 - j with
      | zero => exact if_neg (by omega)
      | succ m => exact if_neg (by omega)
    exact k1 x s j (p + j) ks (by rw [h4 _ e2]; show some (0 + j, p + j) = some (j, p + j); rw [Nat.zero_add]) h2 h3 (by omega) h1
  · have e5 : j = 5 := by omega
    subst e5
    have e2 : SRq kd (5 - 5) (p + 5) = none := if_pos (by omega)
    exact pg_fail h3 (fun s2 k2 gb => k0 x s2 (kp_sub (kp_tr (kp_sub ks (fs' := [(3, 1), (3, 2), (3, 3)]) (cs' := []) rfl rfl) (kp_sub k2 rfl rfl)) rfl rfl) (by rw [h4 _ e2]; rfl) gb)
  · have e6 : 5 - j = (5 - (j + 1)) + 1 := by omega
    have e7 : SRq kd (5 - j) (p + j) = r.bind fun r => some (r.1 + 1, r.2) := by
      rw [e6]
      refine (if_pos (by omega)).trans ?_
      rw [Nat.add_assoc, hr]
    rw [h4 _ e7]
    cases r with
    | none => rfl
    | some r =>
      show some (r.1 + 1 + j, r.2) = some (r.1 + (j + 1), r.2)
      rw [Nat.add_assoc, Nat.add_comm 1 j]
theorem jk_stars {Q : Int32 → St → Prop} (g : GBd σ) (k : Q 0 σ) : pk_X3_stars σ Q := by
  unfold pk_X3_stars
  refine ⟨fun x s => x = 0 ∧ s = σ, ⟨rfl, rfl⟩, ?_⟩
  rintro x s ⟨rfl, rfl⟩
  have e := g.2
  exact ⟨True, fun _ => ⟨fun _ => k, fun c => by omega⟩, fun _ => trivial, fun _ => ⟨fun _ => trivial, fun c => by omega⟩⟩
end GSM
