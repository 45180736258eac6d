/-! the class's steps of statements, by their acts -/
section X7T
variable {w s : St} {a b : Int32} {Q : St → Prop}
theorem bt7 {c k lo hi : Int} (e : c = k) (h : lo ≤ k ∧ k ≤ hi) : lo ≤ c ∧ c ≤ hi := by rw [e]; exact h
theorem bt8 {c : Int} (e : 36 ≤ c ∧ c ≤ 37) (h : c ≠ 36) : c = 37 := by omega
theorem x7_take {c : Int} (hb : b.toInt = c) (hc : 20 ≤ c ∧ c ≤ 38) (h : (c = 20 → pk_X11_open w Q) ∧ (c = 21 → pk_X11_close w Q) ∧ (c = 22 → pk_X2_pop w (fun _ s1 => pk_X0_emit (2 : Int32) (0 : Int32) (0 : Int32) (0 : Int32) s1 (fun _ s2 => Q s2))) ∧ (23 ≤ c ∧ c ≤ 25 → pk_X7_conditional b (atv 32100 (w 19) a) w Q) ∧ (26 ≤ c ∧ c ≤ 28 → pk_X7_whileLoop b (atv 32100 (w 19) a) w Q) ∧ (29 ≤ c ∧ c ≤ 31 → pk_X7_doLoop b (atv 32100 (w 19) a) w Q) ∧ (c = 36 → pk_X7_leave_r51 (atv 32100 (w 19) a) w Q) ∧ (c = 37 → pk_X7_leave_r52 (atv 32100 (w 19) a) w Q) ∧ (∀ y : Int32, (y.toInt ≠ 0 ↔ (atv 32100 (w 20) a).toInt ≠ 0) → (32 ≤ c ∧ c ≤ 35 → pk_X7_forLoop b (atv 32100 (w 19) a) y w Q) ∧ (c = 38 → pk_X7_giveBack (atv 32100 (w 19) a) y w Q))) : pk_X7_take b a w Q := by
  obtain ⟨h20, h21, h22, h23, h26, h29, h36, h37, hy⟩ := h
  unfold pk_X7_take
  refine ⟨fun y => (y.toInt ≠ 0 ↔ (atv 32100 (w 20) a).toInt ≠ 0), fun y _ hj => ?_, fun e => ⟨fun hx => absurd rfl hx, fun hx => absurd e hx⟩, fun e => ⟨fun _ => e, fun _ => by decide⟩⟩
  obtain ⟨h32, h38⟩ := hy y hj
  rw [hb]
  refine ⟨32 ≤ c ∧ c ≤ 35, h32, 29 ≤ c ∧ c ≤ 31, h29, 26 ≤ c ∧ c ≤ 28, h26, 36 ≤ c ∧ c ≤ 37, fun e => ⟨fun e1 => h37 (bt8 e e1), fun e1 => h36 e1⟩, 23 ≤ c ∧ c ≤ 25, h23, h20, fun n20 => ⟨h21, fun n21 => ⟨h22, fun n22 => ⟨fun e => bt7 e (by decide), fun n23 => ⟨fun e => bt7 e (by decide), fun n24 => ⟨fun e => bt7 e (by decide), fun n25 => ⟨fun e => bt7 e (by decide), fun n26 => ⟨fun e => bt7 e (by decide), fun n27 => ⟨fun e => bt7 e (by decide), fun n28 => ⟨fun e => bt7 e (by decide), fun n29 => ⟨fun e => bt7 e (by decide), fun n30 => ⟨fun e => bt7 e (by decide), fun n31 => ⟨fun e => bt7 e (by decide), fun n32 => ⟨fun e => bt7 e (by decide), fun n33 => ⟨fun e => bt7 e (by decide), fun n34 => ⟨fun e => bt7 e (by decide), fun n35 => ⟨fun e => bt7 e (by decide), fun n36 => ⟨fun e => bt7 e (by decide), fun n37 => ⟨h38, fun n38 => by
    clear h20 h21 h22 h23 h26 h29 h36 h37 hy h32 h38
    omega⟩⟩⟩⟩⟩⟩⟩⟩⟩⟩⟩⟩⟩⟩⟩⟩⟩⟩⟩
theorem x7_open {c : Int} (hb : b.toInt = c) (hc : c = 20) (h : pk_X11_open w Q) : pk_X7_take b a w Q := x7_take hb (by omega) ⟨fun _ => h, fun e => by omega, fun e => by omega, fun e => by omega, fun e => by omega, fun e => by omega, fun e => by omega, fun e => by omega, fun _ _ => ⟨fun e => by omega, fun e => by omega⟩⟩
theorem x7_close {c : Int} (hb : b.toInt = c) (hc : c = 21) (h : pk_X11_close w Q) : pk_X7_take b a w Q := x7_take hb (by omega) ⟨fun e => by omega, fun _ => h, fun e => by omega, fun e => by omega, fun e => by omega, fun e => by omega, fun e => by omega, fun e => by omega, fun _ _ => ⟨fun e => by omega, fun e => by omega⟩⟩
theorem x7_disc {c : Int} (hb : b.toInt = c) (hc : c = 22) (h : pk_X2_pop w (fun _ s1 => pk_X0_emit (2 : Int32) (0 : Int32) (0 : Int32) (0 : Int32) s1 (fun _ s2 => Q s2))) : pk_X7_take b a w Q := x7_take hb (by omega) ⟨fun e => by omega, fun e => by omega, fun _ => h, fun e => by omega, fun e => by omega, fun e => by omega, fun e => by omega, fun e => by omega, fun _ _ => ⟨fun e => by omega, fun e => by omega⟩⟩
theorem x7_if {c : Int} (hb : b.toInt = c) (hc : 23 ≤ c ∧ c ≤ 25) (h : pk_X7_conditional b (atv 32100 (w 19) a) w Q) : pk_X7_take b a w Q := x7_take hb (by omega) ⟨fun e => by omega, fun e => by omega, fun e => by omega, fun _ => h, fun e => by omega, fun e => by omega, fun e => by omega, fun e => by omega, fun _ _ => ⟨fun e => by omega, fun e => by omega⟩⟩
theorem x7_while {c : Int} (hb : b.toInt = c) (hc : 26 ≤ c ∧ c ≤ 28) (h : pk_X7_whileLoop b (atv 32100 (w 19) a) w Q) : pk_X7_take b a w Q := x7_take hb (by omega) ⟨fun e => by omega, fun e => by omega, fun e => by omega, fun e => by omega, fun _ => h, fun e => by omega, fun e => by omega, fun e => by omega, fun _ _ => ⟨fun e => by omega, fun e => by omega⟩⟩
theorem x7_do {c : Int} (hb : b.toInt = c) (hc : 29 ≤ c ∧ c ≤ 31) (h : pk_X7_doLoop b (atv 32100 (w 19) a) w Q) : pk_X7_take b a w Q := x7_take hb (by omega) ⟨fun e => by omega, fun e => by omega, fun e => by omega, fun e => by omega, fun e => by omega, fun _ => h, fun e => by omega, fun e => by omega, fun _ _ => ⟨fun e => by omega, fun e => by omega⟩⟩
theorem x7_brk {c : Int} (hb : b.toInt = c) (hc : c = 36) (h : pk_X7_leave_r51 (atv 32100 (w 19) a) w Q) : pk_X7_take b a w Q := x7_take hb (by omega) ⟨fun e => by omega, fun e => by omega, fun e => by omega, fun e => by omega, fun e => by omega, fun e => by omega, fun _ => h, fun e => by omega, fun _ _ => ⟨fun e => by omega, fun e => by omega⟩⟩
theorem x7_cont {c : Int} (hb : b.toInt = c) (hc : c = 37) (h : pk_X7_leave_r52 (atv 32100 (w 19) a) w Q) : pk_X7_take b a w Q := x7_take hb (by omega) ⟨fun e => by omega, fun e => by omega, fun e => by omega, fun e => by omega, fun e => by omega, fun e => by omega, fun e => by omega, fun _ => h, fun _ _ => ⟨fun e => by omega, fun e => by omega⟩⟩
theorem x7_for {c : Int} (hb : b.toInt = c) (hc : 32 ≤ c ∧ c ≤ 35) (h : ∀ y : Int32, (y.toInt ≠ 0 ↔ (atv 32100 (w 20) a).toInt ≠ 0) → pk_X7_forLoop b (atv 32100 (w 19) a) y w Q) : pk_X7_take b a w Q := x7_take hb (by omega) ⟨fun e => by omega, fun e => by omega, fun e => by omega, fun e => by omega, fun e => by omega, fun e => by omega, fun e => by omega, fun e => by omega, fun y hy => ⟨fun _ => h y hy, fun e => by omega⟩⟩
theorem x7_ret {c : Int} (hb : b.toInt = c) (hc : c = 38) (h : ∀ y : Int32, (y.toInt ≠ 0 ↔ (atv 32100 (w 20) a).toInt ≠ 0) → pk_X7_giveBack (atv 32100 (w 19) a) y w Q) : pk_X7_take b a w Q := x7_take hb (by omega) ⟨fun e => by omega, fun e => by omega, fun e => by omega, fun e => by omega, fun e => by omega, fun e => by omega, fun e => by omega, fun e => by omega, fun y hy => ⟨fun e => by omega, fun _ => h y hy⟩⟩
end X7T
/-- what is open goes from O to O2; b: it is a loop -/
def OQq (O O2 : Nat) (b : Prop) (w s : St) : Prop := STw w s ∧ (s 9 5).toInt = (O2 : Int) ∧ (∀ i, i < O → i < O2 → s 49 i = w 49 i) ∧ (O < O2 → ((s 49 O).toInt ≠ 0 ↔ b))
section SAC
variable {w s r : St} {O O2 p q : Nat} {bb : Prop} {T : Int} {k ty h z f i : Int} {x : Int32} {Q : St → Prop}
theorem oq_k (hO : (w 9 5).toInt = (O : Int)) (k : Kp [(4, 1), (6, 3), (6, 4), (7, 7)] [24, 43, 50, 51, 52, 53, 54] w s) : OQq O O bb w s :=
  ⟨ko_sub (ko_kp k) rfl rfl, by rw [k 9 5 rfl rfl]; exact hO, fun i _ _ => k 49 i rfl rfl, fun h => absurd h (by omega)⟩
theorem oq_x {O1 : Nat} (h : OQq O O1 bb w s) (k : Kp [(4, 1), (6, 3), (6, 4), (7, 7)] [24, 43, 50, 51, 52, 53, 54] s r) : OQq O O1 bb w r :=
  ⟨ko_tr h.1 (ko_sub (ko_kp k) rfl rfl), by rw [k 9 5 rfl rfl]; exact h.2.1, fun i h1 h2 => (k 49 i rfl rfl).trans (h.2.2.1 i h1 h2), fun h1 => by rw [k 49 O rfl rfl]; exact h.2.2.2 h1⟩
theorem oq_0 (hO : (w 9 5).toInt = (O : Int)) (k : STx 0 w s) : OQq O O bb w s :=
  ⟨sw_x k, by rw [k.1 9 5 (op_lt (by omega)) rfl rfl]; exact hO, fun i _ _ => by rw [ko_rd k.1 49 (by omega) rfl (fun _ => rfl)], fun h => absurd h (by omega)⟩
theorem oq_tr {O1 : Nat} {b2 : Prop} (h : OQq O O1 bb w s) (g : OQq O1 O2 b2 s r) (hO : O = O1 ∧ (bb ↔ b2) ∨ O1 = O2 ∨ O1 = O + 1 ∧ O2 = O) : OQq O O2 bb w r := by
  obtain ⟨h1, h2, h3, h4⟩ := h
  obtain ⟨g1, g2, g3, g4⟩ := g
  refine ⟨ko_tr h1 g1, g2, fun i i1 i2 => ?_, fun hl => ?_⟩
  · have : i < O1 := by rcases hO with ⟨e, _⟩ | e | e <;> omega
    rw [g3 i this i2, h3 i i1 this]
  · rcases hO with ⟨e, e2⟩ | e | e
    · rw [e2, e]
      exact g4 (by omega)
    · rw [g3 O (by omega) hl]
      exact h4 (by omega)
    · omega
theorem oq_begin {b : Int32} (hO : (w 9 5).toInt = (O : Int)) (hO9 : O < 26) (hb : b.toInt ≠ 0 ↔ bb) (kk : ∀ s, OQq O (O + 1) bb w s → s 6 3 = w 6 3 → s 7 7 = w 7 7 → Q s) : pk_X7_begin b w Q :=
  xs_begin hO hO9 (fun s ks e h49 hn => kk s ⟨sw_k ks rfl rfl, by rw [e]; rfl, fun i h1 _ => h49 i (by omega), fun _ => hn.trans hb⟩ (ks 6 3 rfl rfl) (ks 7 7 rfl rfl))
theorem oq_finish (hO : (w 9 5).toInt = ((O + 1 : Nat) : Int)) (kk : ∀ s, OQq (O + 1) O bb w s → s 6 3 = w 6 3 → s 7 7 = w 7 7 → Q s) : pk_X7_finish w Q :=
  xs_finish (O := O) (by rw [hO]; rfl) (fun s ks e => kk s ⟨sw_k ks rfl rfl, e, fun i _ _ => ks 49 i rfl rfl, fun h => absurd h (by omega)⟩ (ks 6 3 rfl rfl) (ks 7 7 rfl rfl))
/-- behind a condition -/
def CQq (O O2 : Nat) (b : Prop) (T : Int) (w s : St) : Prop := OQq O O2 b w s ∧ (s 7 7).toInt = 0 ∧ ((s 6 3).toInt ≠ 0 ↔ T = -1)
/-- behind any other step -/
def NQq (O O2 : Nat) (b : Prop) (w s : St) : Prop := OQq O O2 b w s ∧ s 6 3 = w 6 3 ∧ s 7 7 = w 7 7
theorem sa_23 (hO : (w 9 5).toInt = (O : Int)) (hO9 : O < 26) (hc : (w 7 7).toInt = 1) (h0 : (w 6 3).toInt = 0) (hA : AVq w 65 k ty h z f x i) (hk : 0 ≤ k ∧ k ≤ 3) : SAq (stp 23 p) w (CQq O (O + 1) False ty w) := fun a b e0 e1 e2 => x7_if e0 (by simp [stp]) (by
  unfold pk_X7_conditional
  rw [e0]
  refine ⟨fun c => absurd rfl c, fun _ => xs_cond hc h0 hA hk (fun u s ks e7 e6 => ?_)⟩
  refine oq_begin (bb := False) (by rw [ks.1 9 5 (op_lt (by omega)) rfl rfl]; exact hO) hO9 ⟨fun c => absurd rfl c, False.elim⟩ (fun s2 o2 e62 e72 => xs_exit (fun s3 k3 => ⟨oq_x (oq_tr (oq_0 hO ks) o2 (Or.inl ⟨rfl, Iff.rfl⟩)) (kp_sub k3 rfl rfl), ?_, ?_⟩))
  · rw [k3 7 7 rfl rfl, e72]; exact e7
  · rw [k3 6 3 rfl rfl, e62]; exact e6)
theorem sa_24 (hO : (w 9 5).toInt = (O : Int)) : SAq (stp 24 p) w (NQq O O bb w) := fun a b e0 e1 e2 => x7_if e0 (by simp [stp]) (by
  unfold pk_X7_conditional
  rw [e0]
  refine ⟨fun _ => ⟨fun c => absurd rfl c, fun _ => xl_emit (fun v s ks => xl_aim (fun s2 k2 => ?_))⟩, fun c => absurd c (by simp [stp])⟩
  have kk : Kp [(4, 1)] [24, 51] w (upF s2 51 (setv 26 (s2 51) ((s2 9 5) - (1 : Int32)) v)) := kp_F (kp_sub (kp_tr ks k2) rfl rfl) rfl
  exact ⟨oq_k hO (kp_sub kk rfl rfl), kk 6 3 rfl rfl, kk 7 7 rfl rfl⟩)
theorem sa_25 (hO : (w 9 5).toInt = ((O + 1 : Nat) : Int)) : SAq (stp 25 p) w (NQq (O + 1) O bb w) := fun a b e0 e1 e2 => x7_if e0 (by simp [stp]) (by
  unfold pk_X7_conditional
  rw [e0]
  exact ⟨fun _ => ⟨fun _ => oq_finish hO (fun s o e6 e7 => ⟨o, e6, e7⟩), fun c => absurd c (by simp [stp])⟩, fun c => absurd c (by simp [stp])⟩)
theorem sa_26 (hO : (w 9 5).toInt = (O : Int)) (hO9 : O < 26) : SAq (stp 26 p) w (NQq O (O + 1) True w) := fun a b e0 e1 e2 => x7_while e0 (by simp [stp]) (by
  unfold pk_X7_whileLoop
  rw [e0]
  exact ⟨fun c => absurd rfl c, fun _ => oq_begin (bb := True) hO hO9 ⟨fun _ => trivial, fun _ => by decide⟩ (fun s o e6 e7 => ⟨o, e6, e7⟩)⟩)
theorem sa_27 (hO : (w 9 5).toInt = (O : Int)) (hc : (w 7 7).toInt = 1) (h0 : (w 6 3).toInt = 0) (hA : AVq w 65 k ty h z f x i) (hk : 0 ≤ k ∧ k ≤ 3) : SAq (stp 27 p) w (CQq O O bb ty w) := fun a b e0 e1 e2 => x7_while e0 (by simp [stp]) (by
  unfold pk_X7_whileLoop
  rw [e0]
  refine ⟨fun _ => ⟨fun c => absurd rfl c, fun _ => xs_cond hc h0 hA hk (fun u s ks e7 e6 => xs_exit (fun s2 k2 => xs_turn (fun s3 k3 => ?_)))⟩, fun c => absurd c (by simp [stp])⟩
  have kk : Kp [(4, 1)] [24, 51] s s3 := kp_tr k2 (kp_sub k3 rfl rfl)
  exact ⟨oq_x (oq_0 hO ks) (kp_sub kk rfl rfl), by rw [kk 7 7 rfl rfl]; exact e7, by rw [kk 6 3 rfl rfl]; exact e6⟩)
theorem sa_28 (hO : (w 9 5).toInt = ((O + 1 : Nat) : Int)) : SAq (stp 28 p) w (NQq (O + 1) O bb w) := fun a b e0 e1 e2 => x7_while e0 (by simp [stp]) (by
  unfold pk_X7_whileLoop
  rw [e0]
  refine ⟨fun _ => ⟨fun _ => xl_aim (fun s ks => xs_jump (fun s2 k2 => ?_)), fun c => absurd c (by simp [stp])⟩, fun c => absurd c (by simp [stp])⟩
  have kk : Kp [(4, 1)] [24] w s2 := kp_tr ks k2
  exact oq_finish (bb := bb) (by rw [kk 9 5 rfl rfl]; exact hO) (fun s3 o e6 e7 => ⟨oq_tr (oq_k (bb := bb) hO (kp_sub kk rfl rfl)) o (Or.inl ⟨rfl, Iff.rfl⟩), e6.trans (kk 6 3 rfl rfl), e7.trans (kk 7 7 rfl rfl)⟩))
theorem sa_29 (hO : (w 9 5).toInt = (O : Int)) (hO9 : O < 26) : SAq (stp 29 p) w (NQq O (O + 1) True w) := fun a b e0 e1 e2 => x7_do e0 (by simp [stp]) (by
  unfold pk_X7_doLoop
  rw [e0]
  exact ⟨fun c => absurd rfl c, fun _ => oq_begin (bb := True) hO hO9 ⟨fun _ => trivial, fun _ => by decide⟩ (fun s o e6 e7 => xs_turn (fun s2 k2 => ⟨oq_x o (kp_sub k2 rfl rfl), (k2 6 3 rfl rfl).trans e6, (k2 7 7 rfl rfl).trans e7⟩))⟩)
theorem sa_30 (hO : (w 9 5).toInt = (O : Int)) : SAq (stp 30 p) w (NQq O O bb w) := fun a b e0 e1 e2 => x7_do e0 (by simp [stp]) (by
  unfold pk_X7_doLoop
  rw [e0]
  exact ⟨fun _ => ⟨fun c => absurd rfl c, fun _ => xl_aim (fun s ks => ⟨oq_k hO (kp_sub ks rfl rfl), ks 6 3 rfl rfl, ks 7 7 rfl rfl⟩)⟩, fun c => absurd c (by simp [stp])⟩)
theorem sa_31 (hO : (w 9 5).toInt = ((O + 1 : Nat) : Int)) (hc : (w 7 7).toInt = 1) (h0 : (w 6 3).toInt = 0) (hA : AVq w 65 k ty h z f x i) (hk : 0 ≤ k ∧ k ≤ 3) : SAq (stp 31 p) w (CQq (O + 1) O bb ty w) := fun a b e0 e1 e2 => x7_do e0 (by simp [stp]) (by
  unfold pk_X7_doLoop
  rw [e0]
  refine ⟨fun _ => ⟨fun _ => xs_cond hc h0 hA hk (fun u s ks e7 e6 => xl_emit (fun v s2 k2 => ?_)), fun c => absurd c (by simp [stp])⟩, fun c => absurd c (by simp [stp])⟩
  have o2 := oq_x (oq_0 (bb := bb) hO ks) (kp_sub k2 rfl rfl)
  exact oq_finish (bb := bb) o2.2.1 (fun s3 o e63 e73 => ⟨oq_tr o2 o (Or.inl ⟨rfl, Iff.rfl⟩), by rw [e73, k2 7 7 rfl rfl]; exact e7, by rw [e63, k2 6 3 rfl rfl]; exact e6⟩))
theorem sa_32 (hO : (w 9 5).toInt = (O : Int)) (hO9 : O < 26) : SAq (stp 32 p) w (NQq O (O + 1) True w) := fun a b e0 e1 e2 => x7_for e0 (by simp [stp]) (fun y hy => by
  unfold pk_X7_forLoop
  rw [e0]
  exact ⟨fun c => absurd rfl c, fun _ => oq_begin (bb := True) hO hO9 ⟨fun _ => trivial, fun _ => by decide⟩ (fun s o e6 e7 => ⟨o, e6, e7⟩)⟩)
theorem sa_33 (hO : (w 9 5).toInt = (O : Int)) : SAq (33, p, 0, 0) w (NQq O O bb w) := fun a b e0 e1 e2 => x7_for e0 (by simp) (fun y hy => by
  have y0 : y.toInt = 0 := Decidable.byContradiction (fun c => (hy.1 c) e2)
  unfold pk_X7_forLoop
  rw [e0]
  refine ⟨fun _ => ⟨fun c => absurd rfl c, fun _ => ⟨fun s => s = w, fun s hs => ?_, fun _ => rfl, fun c => absurd y0 c⟩⟩, fun c => absurd c (by simp)⟩
  rw [hs]
  refine xl_emit (fun v s2 k2 => ?_)
  exact ⟨oq_k hO (kp_F (kp_F (kp_sub k2 rfl rfl) rfl) rfl), by rw [rdF_ne (by decide), rdF_ne (by decide)]; exact k2 6 3 rfl rfl, by rw [rdF_ne (by decide), rdF_ne (by decide)]; exact k2 7 7 rfl rfl⟩)
theorem sa_33c (hO : (w 9 5).toInt = (O : Int)) (hc : (w 7 7).toInt = 1) (h0 : (w 6 3).toInt = 0) (hA : AVq w 65 k ty h z f x i) (hk : 0 ≤ k ∧ k ≤ 3) : SAq (33, p, 1, 0) w (CQq O O bb ty w) := fun a b e0 e1 e2 => x7_for e0 (by simp) (fun y hy => by
  have y1 : y.toInt ≠ 0 := hy.2 (by rw [e2]; simp)
  unfold pk_X7_forLoop
  rw [e0]
  refine ⟨fun _ => ⟨fun c => absurd rfl c, fun _ => ⟨fun s => OQq O O bb w s ∧ (s 7 7).toInt = 0 ∧ ((s 6 3).toInt ≠ 0 ↔ ty = -1), fun s hs => ?_, fun c => absurd c y1, fun _ => ?_⟩⟩, fun c => absurd c (by simp)⟩
  · refine xl_emit (fun v s2 k2 => ?_)
    have kk : Kp [(4, 1)] [24, 53, 54] s (upF (upF s2 53 (setv 26 (s2 53) ((s 9 5) - (1 : Int32)) v)) 54 (setv 26 ((upF s2 53 (setv 26 (s2 53) ((s 9 5) - (1 : Int32)) v)) 54) ((s2 9 5) - (1 : Int32)) (s2 4 1))) := kp_F (kp_F (kp_sub k2 rfl rfl) rfl) rfl
    exact ⟨oq_x hs.1 (kp_sub kk rfl rfl), by rw [kk 7 7 rfl rfl]; exact hs.2.1, by rw [kk 6 3 rfl rfl]; exact hs.2.2⟩
  · refine xs_cond hc h0 hA hk (fun u s ks e7 e6 => xs_exit (fun s2 k2 => ⟨oq_x (oq_0 hO ks) (kp_sub k2 rfl rfl), ?_, ?_⟩))
    · rw [k2 7 7 rfl rfl]; exact e7
    · rw [k2 6 3 rfl rfl]; exact e6)
theorem sa_34 (hO : (w 9 5).toInt = (O : Int)) : SAq (stp 34 p) w (NQq O O bb w) := fun a b e0 e1 e2 => x7_for e0 (by simp [stp]) (fun y hy => by
  unfold pk_X7_forLoop
  rw [e0]
  refine ⟨fun _ => ⟨fun _ => ⟨fun c => absurd rfl c, fun _ => xs_jump (fun s ks => xl_aim (fun s2 k2 => xs_turn (fun s3 k3 => ?_)))⟩, fun c => absurd c (by simp [stp])⟩, fun c => absurd c (by simp [stp])⟩
  have kk : Kp [(4, 1)] [24] w s3 := kp_tr (kp_tr ks k2) k3
  exact ⟨oq_k hO (kp_sub kk rfl rfl), kk 6 3 rfl rfl, kk 7 7 rfl rfl⟩)
theorem sa_35 (hO : (w 9 5).toInt = ((O + 1 : Nat) : Int)) : SAq (stp 35 p) w (NQq (O + 1) O bb w) := fun a b e0 e1 e2 => x7_for e0 (by simp [stp]) (fun y hy => by
  unfold pk_X7_forLoop
  rw [e0]
  refine ⟨fun _ => ⟨fun _ => ⟨fun _ => xl_aim (fun s ks => xs_jump (fun s2 k2 => ?_)), fun c => absurd c (by simp [stp])⟩, fun c => absurd c (by simp [stp])⟩, fun c => absurd c (by simp [stp])⟩
  have kk : Kp [(4, 1)] [24] w s2 := kp_tr ks k2
  exact oq_finish (bb := bb) (by rw [kk 9 5 rfl rfl]; exact hO) (fun s3 o e6 e7 => ⟨oq_tr (oq_k (bb := bb) hO (kp_sub kk rfl rfl)) o (Or.inl ⟨rfl, Iff.rfl⟩), e6.trans (kk 6 3 rfl rfl), e7.trans (kk 7 7 rfl rfl)⟩))
/-- an expression's value is dropped -/
theorem sa_22 (hO : (w 9 5).toInt = (O : Int)) (hc : (w 7 7).toInt = 1) (hA : AVq w 65 k ty h z f x i) (hk : 0 ≤ k ∧ k ≤ 3) : SAq (stp 22 p) w (fun s => OQq O O bb w s ∧ s 6 3 = w 6 3 ∧ (s 7 7).toInt = 0) := fun a b e0 e1 e2 => x7_disc e0 (by simp [stp]) (xl_pop (j := 0) (by rw [hc]; rfl) (by omega) hA hk (fun s ks e6 e7 _ => xl_emit (fun v s2 k2 => ⟨oq_x (oq_0 hO ks) (kp_sub k2 rfl rfl), (k2 6 3 rfl rfl).trans e6, by rw [k2 7 7 rfl rfl]; exact e7⟩)))
end SAC
