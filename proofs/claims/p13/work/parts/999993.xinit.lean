/-! the class's steps of declarations, by their acts; initials -/
def STi (a b : St) : Prop := Ko [(4, 1), (6, 3), (6, 4), (7, 7), (5, 9), (8, 15), (8, 16)] [24, 43, 17, 31, 32, 33] a b
section X1T
variable {w s r : St} {a b : Int32} {p name : Nat} {told ty lk ext cnt K T H Z F I : Int} {X : Int32} {Q : St → Prop}
theorem da_bracket0 (kk : ∀ s, Kp [(8, 6), (8, 7)] [] w s → (s 8 6).toInt = (p : Int) → (s 8 7).toInt = (if told ≤ 0 then -1 else told) → Q s) : DAq (42, p, 0, told) w Q := fun a b e0 e1 e2 e3 => by
  have e0' : b.toInt = 42 := e0
  have e2' : (atv 32100 (w 20) a).toInt = 0 := e2
  have e3' : (atv 32100 (w 21) a).toInt = told := e3
  unfold pk_X1_take
  refine ⟨fun _ => ⟨fun _ => ⟨fun c => ?_, fun c => ?_⟩, fun c => absurd e2' c⟩, fun c => absurd e0' c⟩
  · refine kk _ (kp_f (kp_f kp_rf rfl) rfl) (by rw [rdA_ne (by decide), rdA_eq rfl]; exact e1) ?_
    rw [rdA_eq rfl, if_pos (by omega)]
    rfl
  · refine kk _ (kp_f (kp_f kp_rf rfl) rfl) (by rw [rdA_ne (by decide), rdA_eq rfl]; exact e1) ?_
    rw [rdA_eq rfl, if_neg (by omega)]
    exact e3'
theorem da_bracket1 (kk : ∀ s, Kp [(8, 6), (8, 7)] [] w s → (s 8 6).toInt = (p : Int) → s 8 7 = w 8 8 → Q s) : DAq (42, p, 1, told) w Q := fun a b e0 e1 e2 e3 => by
  have e0' : b.toInt = 42 := e0
  have e2' : (atv 32100 (w 20) a).toInt = 1 := e2
  unfold pk_X1_take
  refine ⟨fun _ => ⟨fun c => absurd (e2'.symm.trans c) (by decide), fun _ => kk _ (kp_f (kp_f kp_rf rfl) rfl) (by rw [rdA_ne (by decide), rdA_eq rfl]; exact e1) (rdA_eq rfl)⟩, fun c => absurd e0' c⟩
theorem da_var (h : ∀ a b c : Int32, a.toInt = (name : Int) → b.toInt = ty → c.toInt = lk → pk_X1_variable a b c w Q) : DAq (43, name, ty, lk) w Q := fun a b e0 e1 e2 e3 => by
  have e0' : b.toInt = 43 := e0
  unfold pk_X1_take
  exact ⟨fun c => absurd (e0'.symm.trans c) (by decide), fun _ => ⟨fun _ => h _ _ _ e1 e2 e3, fun c => absurd e0' c⟩⟩
theorem da_item (h : pk_X1_item w Q) : DAq (stp 44 p) w Q := fun a b e0 e1 e2 e3 => by
  have e0' : b.toInt = 44 := e0
  unfold pk_X1_take
  exact ⟨fun c => absurd (e0'.symm.trans c) (by decide), fun _ => ⟨fun c => absurd (e0'.symm.trans c) (by decide), fun _ => ⟨fun _ => h, fun c => absurd e0' c⟩⟩⟩
theorem da_fill (h : ∀ a : Int32, a.toInt = (p : Int) → pk_X1_fill a w Q) : DAq (stp 45 p) w Q := fun a b e0 e1 e2 e3 => by
  have e0' : b.toInt = 45 := e0
  unfold pk_X1_take
  exact ⟨fun c => absurd (e0'.symm.trans c) (by decide), fun _ => ⟨fun c => absurd (e0'.symm.trans c) (by decide), fun _ => ⟨fun c => absurd (e0'.symm.trans c) (by decide), fun _ => ⟨fun _ => h _ e1, fun c => absurd e0' c⟩⟩⟩⟩
theorem da_init {k : Int} (h : ∀ a b : Int32, a.toInt = (p : Int) → b.toInt = k → pk_X1_initial a b w Q) : DAq (46, p, k, 0) w Q := fun a b e0 e1 e2 e3 => by
  have e0' : b.toInt = 46 := e0
  unfold pk_X1_take
  exact ⟨fun c => absurd (e0'.symm.trans c) (by decide), fun _ => ⟨fun c => absurd (e0'.symm.trans c) (by decide), fun _ => ⟨fun c => absurd (e0'.symm.trans c) (by decide), fun _ => ⟨fun c => absurd (e0'.symm.trans c) (by decide), fun _ => ⟨fun _ => h _ _ e1 e2, fun c => absurd e0' c⟩⟩⟩⟩⟩
theorem sti_x {j : Nat} (h : STx j w s) : STi w s := ko_sub h.1 rfl rfl
theorem sti_tr (h : STi w s) (g : STi s r) : STi w r := ko_tr h g
theorem sti_kp {fs : List (Nat × Nat)} {cs : List Nat} (h : Kp fs cs w s) (s1 : fs.all (fun x => [(4, 1), (6, 3), (6, 4), (7, 7), (5, 9), (8, 15), (8, 16)].contains x || [24, 43, 17, 31, 32, 33].contains x.1) = true) (s2 : cs.all (fun x => [24, 43, 17, 31, 32, 33].contains x) = true) : STi w s := ko_sub (ko_kp h) s1 s2
/-- an initial suits -/
def SUq (w : St) (T Z F : Int) : Prop := ((T = (w 8 11).toInt ∧ (w 8 11).toInt ≠ -1) ∨ (0 < (w 8 11).toInt ∧ Z ≠ 0)) ∧ ((w 8 9).toInt ≠ 0 ∨ F ≠ 0)
theorem xi_suits {u : Nat} {Q : Int32 → Prop} (h1 : (w u 1).toInt = T) (h3 : (w u 3).toInt = Z) (h6 : (w u 6).toInt = F) (k1 : SUq w T Z F → Q 1) (k0 : ¬ SUq w T Z F → Q 0) : pk_X1_suits u w Q := by
  unfold pk_X1_suits
  refine xl_fits h1 h3 (fun v hv1 hv2 => ⟨fun c => k0 (fun h => ?_), fun c => ?_⟩)
  · have := hv2.2 h.1
    omega
  have hf := hv2.1 (hv1.elim (fun e => absurd e c) id)
  refine ⟨fun c2 => k1 ⟨hf, Or.inl c2⟩, fun c2 => ?_⟩
  unfold pk_X6_isInitial
  rw [h6]
  exact ⟨fun c3 => ⟨fun _ => k0 (fun h => h.2.elim (fun h => h c2) (fun h => h c3)), fun hx => absurd rfl hx⟩, fun c3 => ⟨fun hx => absurd hx (by decide), fun _ => k1 ⟨hf, Or.inr c3⟩⟩⟩
theorem xi_put {u : Nat} (kk : ∀ s, Kp [(4, 1), (5, 9)] [31, 32, 33] w s → Q s) : pk_X1_putInitial a u w Q := by
  unfold pk_X1_putInitial pk_X0_cut pk_X6_isConstant pk_X8_addInitial
  exact ⟨fun _ => ⟨fun _ => True, fun _ _ => kk _ (kp_f (kp_F (kp_F (kp_F (kp_f kp_rf rfl) rfl) rfl) rfl) rfl), fun _ => trivial, fun _ => trivial⟩, fun _ => ⟨fun _ => True, fun _ _ => kk _ (kp_f (kp_F (kp_F (kp_F (kp_f kp_rf rfl) rfl) rfl) rfl) rfl), fun _ => trivial, fun _ => trivial⟩⟩
theorem xi_store (kk : ∀ s, Kp [(4, 1)] [24] w s → Q s) : pk_X1_storeLocal w Q := by
  unfold pk_X1_storeLocal
  exact xl_emit (fun _ s ks => xl_emit (fun _ s2 k2 => kk s2 (kp_tr ks k2)))
/-- an item of an array's initial -/
theorem xi_item (hc : (w 7 7).toInt = 1) (hA : AVq w 65 K T H Z F X I) (hk : 0 ≤ K ∧ K ≤ 3) (h15 : (w 8 15).toInt = cnt) (hcn : 0 ≤ cnt ∧ cnt ≤ 20000) (kk : ∀ s, STi w s → (s 7 7).toInt = 0 → s 6 3 = w 6 3 → (s 8 15).toInt = cnt + 1 → ((s 8 16).toInt ≠ 0 ↔ (w 8 16).toInt ≠ 0 ∨ (w 8 12).toInt ≤ cnt ∨ ¬ SUq w T Z F) → Q s) : pk_X1_item w Q := by
  unfold pk_X1_item
  refine xl_pop (j := 0) (by rw [hc]; rfl) (by omega) hA hk (fun s ks e6 e7 hA2 => ?_)
  have e15 : s 8 15 = w 8 15 := ks.1 8 15 (op_lt (by decide)) rfl rfl
  have e16 : s 8 16 = w 8 16 := ks.1 8 16 (op_lt (by decide)) rfl rfl
  have e12 : s 8 12 = w 8 12 := ks.1 8 12 (op_lt (by decide)) rfl rfl
  have e11 : s 8 11 = w 8 11 := ks.1 8 11 (op_lt (by decide)) rfl rfl
  have e9 : s 8 9 = w 8 9 := ks.1 8 9 (op_lt (by decide)) rfl rfl
  have su : SUq s T Z F ↔ SUq w T Z F := by unfold SUq; rw [e11, e9]
  have good : ∀ s2, Kp [(4, 1), (5, 9)] [24, 31, 32, 33] s s2 → ¬ ((w 8 12).toInt ≤ cnt) → SUq w T Z F → Q (upC s2 8 15 ((s2 8 15) + (1 : Int32))) := fun s2 k2 h1 h2 => by
    have k3 : Kp [(4, 1), (5, 9), (8, 15)] [24, 31, 32, 33] s (upC s2 8 15 ((s2 8 15) + (1 : Int32))) := kp_f (kp_sub k2 rfl rfl) rfl
    refine kk _ (sti_tr (sti_x ks) (sti_kp k3 rfl rfl)) (by rw [k3 7 7 rfl rfl]; exact e7) ((k3 6 3 rfl rfl).trans e6) (by rw [rdA_eq rfl, k2 8 15 rfl rfl, e15, ad1 (by omega), h15]) ?_
    rw [k3 8 16 rfl rfl, e16]
    exact ⟨fun h => Or.inl h, fun h => h.elim id (fun h => absurd h (fun h => h.elim h1 (fun h => h h2)))⟩
  have bad : ((w 8 12).toInt ≤ cnt ∨ ¬ SUq w T Z F) → Q (upC (upC s 8 16 (1 : Int32)) 8 15 ((s 8 15) + (1 : Int32))) := fun hb => by
    have k3 : Kp [(8, 15), (8, 16)] [] s (upC (upC s 8 16 (1 : Int32)) 8 15 ((s 8 15) + (1 : Int32))) := kp_f (kp_f kp_rf rfl) rfl
    refine kk _ (sti_tr (sti_x ks) (sti_kp k3 rfl rfl)) (by rw [k3 7 7 rfl rfl]; exact e7) ((k3 6 3 rfl rfl).trans e6) (by rw [rdA_eq rfl, e15, ad1 (by omega), h15]) ?_
    rw [rdA_ne (by decide), rdA_eq rfl]
    exact ⟨fun _ => Or.inr hb, fun _ => by decide⟩
  refine ⟨(w 8 12).toInt ≤ cnt ∨ ¬ SUq w T Z F, bad, fun c => Or.inl (by rw [← h15, ← e15, ← e12]; exact c), fun c => xi_suits hA2.2.1 hA2.2.2.2.1 hA2.2.2.2.2.1 (fun hs => ⟨fun _ => ⟨fun _ => xi_put (fun s2 k2 => good s2 (kp_sub k2 rfl rfl) (by rw [← h15, ← e15, ← e12]; omega) (su.1 hs)), fun _ => xl_emit (fun _ s2 k2 => good s2 (kp_sub k2 rfl rfl) (by rw [← h15, ← e15, ← e12]; omega) (su.1 hs))⟩, fun hx => absurd hx (by decide)⟩) (fun hs => ⟨fun hx => absurd rfl hx, fun _ => Or.inr (fun h => hs (su.2 h))⟩)⟩
/-- the end of an initial -/
theorem xi_end (h0 : (w 6 3).toInt = 0) (kk : ∀ s, Kp [(6, 3), (6, 4)] [] w s → ((s 6 3).toInt ≠ 0 ↔ (w 8 16).toInt ≠ 0 ∨ (w 8 13).toInt ≠ 0) → Q s) : ∃ J103 : Prop, (J103 → (pk_X11_fail (2 : Int32) a w (fun s109 => Q s109))) ∧ (((w 8 16).toInt ≠ 0 → (J103)) ∧ ((w 8 16).toInt = 0 → (((w 8 13).toInt = 0 → (Q w)) ∧ ((w 8 13).toInt ≠ 0 → (J103))))) :=
  ⟨(w 8 16).toInt ≠ 0 ∨ (w 8 13).toInt ≠ 0, fun hj => xl_fail (by decide) (fun s ks hs => kk s ks ⟨fun _ => hj, fun _ => hs⟩), fun c => Or.inl c, fun c => ⟨fun c2 => kk w kp_rf ⟨fun h => absurd h0 h, fun h => h.elim (fun h => absurd c h) (fun h => absurd c2 h)⟩, fun c2 => Or.inr c2⟩⟩
theorem xi_init0 (hb : b.toInt = 0) (h0 : (w 6 3).toInt = 0) (hc : (w 7 7).toInt = 1) (hA : AVq w 65 K T H Z F X I) (hk : 0 ≤ K ∧ K ≤ 3) (kk : ∀ s, STi w s → (s 7 7).toInt = 0 → ((s 6 3).toInt ≠ 0 ↔ ¬ ((w 8 12).toInt = -1 ∧ SUq w T Z F) ∨ (w 8 13).toInt ≠ 0) → Q s) : pk_X1_initial a b w Q := by
  unfold pk_X1_initial
  refine ⟨fun s => STi w s ∧ (s 7 7).toInt = 0 ∧ (s 6 3).toInt = 0 ∧ s 8 13 = w 8 13 ∧ ((s 8 16).toInt ≠ 0 ↔ ¬ ((w 8 12).toInt = -1 ∧ SUq w T Z F)), fun s hs => ?_, fun _ => ⟨fun c => absurd hb c, fun _ => ?_⟩, fun c => absurd (hb.symm.trans c) (by decide)⟩
  · obtain ⟨g1, g2, g3, g4, g5⟩ := hs
    refine xi_end g3 (fun s2 k2 h2 => kk s2 (sti_tr g1 (sti_kp k2 rfl rfl)) (by rw [k2 7 7 rfl rfl]; exact g2) ?_)
    rw [h2, g5, g4]
  · refine xl_pop (j := 0) (by rw [hc]; rfl) (by omega) hA hk (fun s ks e6 e7 hA2 => ?_)
    have e12 : s 8 12 = w 8 12 := ks.1 8 12 (op_lt (by decide)) rfl rfl
    have e11 : s 8 11 = w 8 11 := ks.1 8 11 (op_lt (by decide)) rfl rfl
    have e9 : s 8 9 = w 8 9 := ks.1 8 9 (op_lt (by decide)) rfl rfl
    have e13 : s 8 13 = w 8 13 := ks.1 8 13 (op_lt (by decide)) rfl rfl
    have su : SUq s T Z F ↔ SUq w T Z F := by unfold SUq; rw [e11, e9]
    refine ⟨fun y => (y.toInt ≠ 0 ↔ ¬ ((w 8 12).toInt = -1 ∧ SUq w T Z F)), fun y _ hy => ?_, ¬ ((w 8 12).toInt = -1 ∧ SUq w T Z F), fun hj => ⟨fun _ => hj, fun _ => by decide⟩, fun c h => c (by rw [e12]; exact h.1), fun c => xi_suits hA2.2.1 hA2.2.2.2.1 hA2.2.2.2.2.1 (fun hs => ⟨fun _ => ⟨fun hx => absurd rfl hx, fun hx => absurd ⟨by rw [← e12]; exact c, su.1 hs⟩ hx⟩, fun hx => absurd hx (by decide)⟩) (fun hs => ⟨fun hx => absurd rfl hx, fun _ h => hs (su.2 h.2)⟩)⟩
    have fin : ∀ s2, Kp [(4, 1), (5, 9)] [24, 31, 32, 33] (upC s 8 16 y) s2 → STi w s2 ∧ (s2 7 7).toInt = 0 ∧ (s2 6 3).toInt = 0 ∧ s2 8 13 = w 8 13 ∧ ((s2 8 16).toInt ≠ 0 ↔ ¬ ((w 8 12).toInt = -1 ∧ SUq w T Z F)) := fun s2 k2 => by
      have k3 : Kp [(4, 1), (5, 9), (8, 16)] [24, 31, 32, 33] s s2 := kp_tr (kp_f kp_rf rfl) (kp_sub k2 rfl rfl)
      refine ⟨sti_tr (sti_x ks) (sti_kp k3 rfl rfl), by rw [k3 7 7 rfl rfl]; exact e7, by rw [k3 6 3 rfl rfl, e6]; exact h0, (k3 8 13 rfl rfl).trans e13, ?_⟩
      rw [k2 8 16 rfl rfl, rdA_eq rfl]
      exact hy
    exact ⟨fun _ => xi_put (fun s2 k2 => fin s2 (kp_sub k2 rfl rfl)), fun _ => xi_store (fun s2 k2 => fin s2 (kp_sub k2 rfl rfl))⟩
theorem xi_init1 (hb : b.toInt = 1) (h0 : (w 6 3).toInt = 0) (kk : ∀ s, STi w s → s 7 7 = w 7 7 → ((s 6 3).toInt ≠ 0 ↔ ((w 8 16).toInt ≠ 0 ∨ (w 8 12).toInt = -1) ∨ (w 8 13).toInt ≠ 0) → Q s) : pk_X1_initial a b w Q := by
  unfold pk_X1_initial
  refine ⟨fun s => Kp [(8, 16)] [] w s ∧ ((s 8 16).toInt ≠ 0 ↔ (w 8 16).toInt ≠ 0 ∨ (w 8 12).toInt = -1), fun s hs => ?_, fun c => absurd hb c, fun _ => ⟨fun y => (y.toInt ≠ 0 ↔ (w 8 16).toInt ≠ 0 ∨ (w 8 12).toInt = -1), fun y _ hy => ⟨kp_f kp_rf rfl, by rw [rdA_eq rfl]; exact hy⟩, (w 8 16).toInt ≠ 0 ∨ (w 8 12).toInt = -1, fun hj => ⟨fun _ => hj, fun _ => by decide⟩, fun c => Or.inl c, fun c => ⟨fun c2 => ⟨fun hx => absurd rfl hx, fun hx => hx.elim (fun h => absurd c h) (fun h => absurd h c2)⟩, fun c2 => Or.inr c2⟩⟩⟩
  obtain ⟨ks, hs⟩ := hs
  refine xi_end (by rw [ks 6 3 rfl rfl]; exact h0) (fun s2 k2 h2 => kk s2 (sti_tr (sti_kp ks rfl rfl) (sti_kp k2 rfl rfl)) (by rw [k2 7 7 rfl rfl, ks 7 7 rfl rfl]) ?_)
  rw [h2, hs, ks 8 13 rfl rfl]
theorem xi_init2 (hb : b.toInt = 2) (h0 : (w 6 3).toInt = 0) (kk : ∀ s, STi w s → s 7 7 = w 7 7 → ((s 6 3).toInt ≠ 0 ↔ (w 8 16).toInt ≠ 0 ∨ (w 8 13).toInt ≠ 0) → Q s) : pk_X1_initial a b w Q := by
  unfold pk_X1_initial
  refine ⟨fun s => s = w, fun s hs => ?_, fun _ => ⟨fun _ => rfl, fun c => absurd (hb.symm.trans c) (by decide)⟩, fun c => absurd (hb.symm.trans c) (by decide)⟩
  rw [hs]
  exact xi_end h0 (fun s2 k2 h2 => kk s2 (sti_kp k2 rfl rfl) (k2 7 7 rfl rfl) h2)
end X1T
