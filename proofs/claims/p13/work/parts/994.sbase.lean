/-! the class's grammar of statements: its small steps -/
def lnq (g : List Gsq) : Nat := (fltq 0 g).length
def TKv (s : St) (kd vl : Nat → Int) (n : Nat) : Prop := TKd s kd n ∧ ∀ p, p ≤ n → kd p = 4 → (s 14 p).toInt = vl p ∧ 0 ≤ vl p ∧ vl p ≤ 200
/-- at p, behind g -/
def GTq (kd : Nat → Int) (n : Nat) (σ0 s : St) (p : Nat) (g : List Gsq) : Prop := KGq σ0 s ∧ GSt kd n s p (fltq 0 g) ∧ (s 3 9).toInt = 0
/-- no unit -/
def GJq (σ0 s : St) : Prop := KGq σ0 s ∧ GBd s
section SBA
variable {kd vl : Nat → Int} {n p p1 : Nat} {σ0 σ s : St} {g g1 g2 : List Gsq} {l : List Stq} {x a1 a2 a3 a4 : Int32} {a : Stq}
theorem lnq_app : lnq (g1 ++ g2) = lnq g1 + lnq g2 := by
  unfold lnq
  rw [flt_app, List.length_append, flt_len (a := g2) (o2 := 0)]
theorem lnq_one (h : a.1 ≠ 40) : lnq [gq a] = 1 := by
  unfold lnq
  rw [flt_one h]
  rfl
theorem lnq_nil : lnq [] = 0 := rfl
theorem lnq_size {y : Stq} (h : y.1 = 40) : lnq [(y, l)] = l.length + 2 := by
  unfold lnq fltq
  rw [if_pos h]
  simp only [List.length_append, List.length_cons, List.length_nil, fltq]
  omega
def Cact (sel d m p : Nat) (L : List Stq) (p' : Nat) (L' : List Stq) : Prop := (∀ y, y ∈ L → 1 ≤ y.1 ∧ y.1 ≤ 16) → ∀ y, y ∈ L' → 1 ≤ y.1 ∧ y.1 ≤ 16
theorem act_app {L : List Stq} {b : Stq} (h : ∀ y, y ∈ L → 1 ≤ y.1 ∧ y.1 ≤ 16) (hb : 1 ≤ b.1 ∧ b.1 ≤ 16) : ∀ y, y ∈ L ++ [b] → 1 ≤ y.1 ∧ y.1 ≤ 16 := fun y hy => by
  rcases List.mem_append.mp hy with q | q
  · exact h y q
  · rw [List.mem_singleton.mp q]
    exact hb
theorem pi_act : PIq kd Cact := by
  refine ⟨?_, ?_, ?_, ?_, ?_, ?_, ?_, ?_, ?_, ?_, ?_, ?_, ?_, ?_, ?_, ?_, ?_, ?_, ?_, ?_, ?_⟩
  · exact fun d m p L p1 L1 h c => h
  · exact fun d m p L p1 L1 p2 L2 h c hd h2 q => act_app (h2 (act_app (h q) (by simp [stp]))) (by simp [stp])
  · exact fun d m p L p1 L1 h c => h
  · exact fun d m p L p1 L1 p2 L2 p3 L3 h c hd h2 c2 h3 q => act_app (h3 (act_app (h2 (act_app (h q) (by simp [stp]))) (by simp [stp]))) (by simp [stp])
  · exact fun d m p L p1 L1 c hd h q => act_app (h q) (by simp [stp])
  · exact fun d m p L i p1 p2 L2 c hd hs c2 h q => act_app (h q) (by simp [stp])
  · exact fun d m p L p1 L1 p2 L2 c c2 h h2 q => h2 (h q)
  · exact fun d m p L c q => act_app q (by simp [stp])
  · exact fun d m p L c q => act_app q (by simp [stp])
  · exact fun d m p L c c2 q => act_app q (by simp [stp])
  · exact fun d m p L c c2 hd c3 q => act_app (act_app q (by simp [stp])) (by simp [stp])
  · exact fun d m p L p1 L1 c c2 hd c3 h q => h (act_app q (by simp [stp]))
  · exact fun d m p L p1 L1 c hd h c2 q => h q
  · exact fun d m p L p1 L1 p2 L2 h c h2 q => h2 (act_app (h q) (by simp [stp]))
  · exact fun d m p L p1 L1 h c q => act_app (act_app (h q) (by simp [stp])) (by simp [stp])
  · exact fun d m p L p1 L1 p2 L2 c hd h c2 h2 q => h2 (act_app (h (act_app q (by simp [stp]))) (by simp [stp]))
  · exact fun d m p L p1 L1 c h q => h (act_app q (by simp [stp]))
  · exact fun d m p L c q => q
  · exact fun d m p L p1 L1 p2 L2 h h2 q => h2 (h q)
  · exact fun d m p L c q => q
  · exact fun d m p L p1 L1 p2 L2 c h h2 q => h2 (act_app (h (act_app q (by simp [stp]))) (by simp [stp]))
theorem pv_act {d : Nat} (h : PVq kd 0 d 0 p [] (some (p1, l))) : ∀ y, y ∈ l → 1 ≤ y.1 ∧ y.1 ≤ 16 := pv_ind pi_act h (fun y hy => absurd hy (by simp))
theorem lnq_gqs (h : ∀ y, y ∈ l → 1 ≤ y.1 ∧ y.1 ≤ 16) : lnq (gqs l) = l.length := by
  unfold lnq
  rw [flt_gqs (fun y hy => by have := h y hy; omega)]
theorem gt_k (h : GTq kd n σ0 σ p g) (k : KGq σ s) (h2 : GSt kd n s p1 (fltq 0 g1)) (h3 : s 3 9 = σ 3 9) : GTq kd n σ0 s p1 g1 := ⟨kp_tr h.1 k, h2, by rw [h3]; exact h.2.2⟩
theorem gj_k (h : GJq σ0 σ) (k : KGq σ s) (h2 : GBd s) : GJq σ0 s := ⟨kp_tr h.1 k, h2⟩
theorem gt_tk (t0 : TKv σ0 kd vl n) (h : GTq kd n σ0 σ p g) : TKd σ kd n := tkd_k h.1 t0.1
theorem gt_kd (h : GTq kd n σ0 σ p g) : (σ 3 2).toInt = kd p := h.2.1.2.2.2.1
theorem gt_at (h : GTq kd n σ0 σ p g) : (σ 3 1).toInt = (p : Int) := h.2.1.2.1
theorem gt_n (h : GTq kd n σ0 σ p g) : p ≤ n := h.2.1.2.2.1
theorem gt_adv {Q : St → Prop} (t0 : TKv σ0 kd vl n) (h : GTq kd n σ0 σ p g) (hk : 2 ≤ kd p) (k : ∀ s, GTq kd n σ0 s (p + 1) g → Q s) : pk_X3_advance σ Q :=
  pg_adv (gt_tk t0 h) h.2.1 hk (fun s ks gs => k s (gt_k h (kg2 ks) gs (ks 3 9 rfl rfl)))
theorem gt_expect {Q : St → Prop} (t0 : TKv σ0 kd vl n) (h : GTq kd n σ0 σ p g) (hx : 2 ≤ x.toInt) (k1 : kd p = x.toInt → ∀ s, GTq kd n σ0 s (p + 1) g → Q s) (k0 : kd p ≠ x.toInt → ∀ s, GJq σ0 s → Q s) : pk_X3_expect x σ Q :=
  pg_expect (gt_tk t0 h) h.2.1 hx (fun s ks c gs => k1 c s (gt_k h (kg2 ks) gs (ks 3 9 rfl rfl))) (fun s ks c gs => k0 c s ⟨kp_tr h.1 (kg3 ks), gs⟩)
theorem gj_expect {Q : St → Prop} (h : GJq σ0 σ) (hx : 0 ≤ x.toInt) (k : ∀ s, GJq σ0 s → Q s) : pk_X3_expect x σ Q := jk_expect h.2 hx (fun s ks gs => k s (gj_k h ks gs))
theorem gt_accept {Q : Int32 → St → Prop} (t0 : TKv σ0 kd vl n) (h : GTq kd n σ0 σ p g) (hx : 2 ≤ x.toInt) (k1 : kd p = x.toInt → ∀ s, GTq kd n σ0 s (p + 1) g → Q 1 s) (k0 : kd p ≠ x.toInt → Q 0 σ) : pk_X3_accept x σ Q :=
  pg_accept (gt_tk t0 h) h.2.1 hx (fun s ks c gs => k1 c s (gt_k h (kg2 ks) gs (ks 3 9 rfl rfl))) k0
theorem gj_accept {Q : Int32 → St → Prop} (h : GJq σ0 σ) (hx : 0 ≤ x.toInt) (k : Q 0 σ) : pk_X3_accept x σ Q := jk_accept h.2 hx k
theorem gt_fail {Q : St → Prop} (h : GTq kd n σ0 σ p g) (k : ∀ s, GJq σ0 s → Q s) : pk_X3_fail σ Q := pg_fail h.2.1 (fun s ks gs => k s ⟨kp_tr h.1 (kg3 ks), gs⟩)
theorem gj_fail {Q : St → Prop} (h : GJq σ0 σ) (k : ∀ s, GJq σ0 s → Q s) : pk_X3_fail σ Q := jk_fail h.2 (fun s ks gs => k s (gj_k h ks gs))
theorem flt_add (h : a.1 ≠ 40) : fltq 0 (g ++ [gq a]) = fltq 0 g ++ [a] := by
  rw [flt_app]
  have : fltq (0 + (fltq 0 g).length) [gq a] = [a] := flt_one h
  rw [this]
theorem gt_add {Q : Int32 → St → Prop} (h : GTq kd n σ0 σ p g) (hl : (lnq g : Int) ≤ 32090) (ha : a.1 ≠ 40) (he : (a1.toInt, a2.toInt, a3.toInt, a4.toInt) = (a.1, (a.2.1 : Int), a.2.2.1, a.2.2.2)) (k : ∀ v s, GTq kd n σ0 s p (g ++ [gq a]) → v.toInt = (lnq g : Int) → Q v s) : pk_X3_add a1 a2 a3 a4 σ Q :=
  pg_add h.2.1 hl he (fun v s ks gs hv => k v s (gt_k h (kg4 ks) (by rw [flt_add ha]; exact gs) (ks 3 9 rfl rfl)) hv)
theorem gj_add {Q : Int32 → St → Prop} (h : GJq σ0 σ) (k : ∀ v s, GJq σ0 s → Q v s) : pk_X3_add a1 a2 a3 a4 σ Q := jk_add h.2 (fun v s ks gs => k v s (gj_k h (kg4 ks) gs))
theorem gj_expr {Q : St → Prop} (h : GJq σ0 σ) (k : ∀ s, GJq σ0 s → Q s) : pkG_expression x σ Q := jgG_expr x σ Q h.2 (fun s ks gs => k s (gj_k h ks gs))
/-- an expression over any steps before it -/
theorem gr_expr {Q : St → Prop} {L : List Stq} (t0 : TKv σ0 kd vl n) (hk : KGq σ0 σ) (hg : GSt kd n σ p L) (h9 : (σ 3 9).toInt = 0) (hl : (L.length : Int) ≤ 2 * p + 70)
    (k1 : ∀ s p' l, PVq kd 0 1 0 p [] (some (p', l)) → (∀ y, y ∈ l → 1 ≤ y.1 ∧ y.1 ≤ 16) → KGq σ0 s → GSt kd n s p' (L ++ l) → (s 3 9).toInt = 0 → (l.length : Int) + 2 * p + 1 ≤ 2 * p' → p < p' → Q s) (k0 : ∀ s, GJq σ0 s → PVq kd 0 1 0 p [] none → Q s) : pkG_expression (1 : Int32) σ Q := by
  refine pgG_expr (1 : Int32) 1 p L σ Q rfl (by omega) (tkd_k hk t0.1) hg hl ⟨by omega, by rw [h9]; decide⟩ trivial (fun s p' L' ks ps gs hv hb hpp => ?_) (fun s ks gb hv => k0 s ⟨kp_tr hk ks, gb⟩ (pv_pre0 hv []))
  obtain ⟨l, e, h2⟩ := pv_pre hv
  have h3 := h2 []
  rw [List.nil_append] at h3
  subst e
  rw [List.length_append] at hb
  exact k1 s p' l h3 (pv_act h3) (kp_tr hk ks) gs (by rw [ps.1]; exact h9) (by omega) hpp
theorem gt_expr {Q : St → Prop} (t0 : TKv σ0 kd vl n) (h : GTq kd n σ0 σ p g) (hl : (lnq g : Int) ≤ 2 * p + 70)
    (k1 : ∀ s p' l, EVq (fun n => EXn kd n p) (some (p', gqs l)) → lnq (gqs l) = l.length → GTq kd n σ0 s p' (g ++ gqs l) → (l.length : Int) + 2 * p + 1 ≤ 2 * p' → p < p' → Q s) (k0 : ∀ s, GJq σ0 s → EVq (fun n => EXn kd n p) none → Q s) : pkG_expression (1 : Int32) σ Q :=
  gr_expr t0 h.1 h.2.1 h.2.2 hl (fun s p' l hv ha hk hg h9 hb hpp => k1 s p' l (ex_ev hv) (lnq_gqs ha) ⟨hk, by
    rw [flt_app, flt_gqs (fun y hy => by have := ha y hy; omega)]
    exact hg, h9⟩ hb hpp) (fun s hj hv => k0 s hj (ex_ev0 hv))
theorem gt_stars {Q : Int32 → St → Prop} (t0 : TKv σ0 kd vl n) (h : GTq kd n σ0 σ p g) (k1 : ∀ (v : Int32) s t p1, SRq kd 5 p = some (t, p1) → v.toInt = (t : Int) → GTq kd n σ0 s p1 g → p ≤ p1 → t ≤ 5 → Q v s) (k0 : ∀ v s, SRq kd 5 p = none → GJq σ0 s → Q v s) : pk_X3_stars σ Q :=
  pg_stars (gt_tk t0 h) h.2.1 (fun v s t p1 ks e hv gs hp ht => k1 v s t p1 e hv (gt_k h (kg2 ks) gs (ks 3 9 rfl rfl)) hp ht) (fun v s ks e gb => k0 v s e ⟨kp_tr h.1 ks, gb⟩)
theorem gj_stars {Q : Int32 → St → Prop} (h : GJq σ0 σ) (k : ∀ v, Q v σ) : pk_X3_stars σ Q := jk_stars h.2 (k 0)
end SBA
