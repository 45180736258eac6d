/-! stretches of statements -/
abbrev KSt (σ s : St) : Prop := Kp [(0, 10), (0, 12), (0, 13), (0, 14), (0, 17), (0, 37), (0, 39), (0, 49), (0, 53), (0, 54), (0, 57), (0, 58), (0, 59), (0, 60)] [8, 25, 33, 14, 21, 34, 35, 36, 31, 32] σ s
def RSt (σ : St) (vs : List Nat) (s t : St) (z : List Nat) : Prop := KSt σ s ∧ PA s t ∧ RW σ s ∧ MOn σ s ∧ OF σ s ∧ (σ 0 17).toInt ≤ (s 0 17).toInt ∧ (σ 0 39).toInt ≤ (s 0 39).toInt ∧ pos σ ≤ pos s ∧ (∀ u ∈ vs, u ∈ z) ∧ vs.length ≤ z.length ∧ IE σ s ∧ (σ 0 49).toInt ≤ (s 0 49).toInt
/-- what an exception leaves: silent may stand -/
def RTt (σ : St) (vs : List Nat) (s t : St) (z : List Nat) : Prop := (∃ s0, RSt σ vs s0 t z ∧ s = upC s0 0 15 (s 0 15)) ∧ (z.length : Int) ≤ vs.length + 2 * ((σ 0 9).toInt - pos σ)
section STM
variable {σ s s' τ t t' : St} {vs z z' : List Nat}
theorem rs_rf (h : PA σ τ) : RSt σ vs σ τ vs := ⟨kp_rf, h, fun _ _ => rfl, mon_rf, of_rf, Int.le_refl _, Int.le_refl _, Int.le_refl _, fun _ h => h, Nat.le_refl _, ie_rf, Int.le_refl _⟩
theorem rs_tr {s' t' : St} {z' : List Nat} (h : RSt σ vs s t z) (g : RSt s z s' t' z') : RSt σ vs s' t' z' := by
  obtain ⟨h1, h2, h3, h4, h5, h6, h7, h8, h9, h10, h11, h12⟩ := h
  obtain ⟨g1, g2, g3, g4, g5, g6, g7, g8, g9, g10, g11, g12⟩ := g
  exact ⟨kp_tr h1 g1, g2, fun j hj => (g3 j (by omega)).trans (h3 j hj), ⟨fun e he => g4.1 e (h4.1 e he), fun n hn => g4.2 n (h4.2 n hn)⟩, of_tr h5 g5, by omega, by omega, by omega, fun u hu => g9 u (h9 u hu), by omega, ie_tr h11 g11, by omega⟩
theorem rs_rl (r : RL σ vs s t z) : RSt σ vs s t z := by
  have e := rl_loc r
  obtain ⟨h1, h2, h3, h4, h5, h6, h7, h8, h9, h10, h11⟩ := r
  exact ⟨kp_sub h1 rfl rfl, h2, h3, h4, h5, h6, h7, h8, h9, h10, h11, by rw [e]; exact Int.le_refl _⟩
theorem rs_sz (r : RSt σ vs s t z) : (s 0 9).toInt = (σ 0 9).toInt := by rw [r.1 0 9 rfl rfl]
theorem rs_sil (r : RSt σ vs s t z) : (s 0 15) = (σ 0 15) := r.1 0 15 rfl rfl
theorem rs_tok (r : RSt σ vs s t z) : (s 0 8) = (σ 0 8) := r.1 0 8 rfl rfl
theorem rs_wcn (r : RSt σ vs s t z) (h0 : 0 ≤ (σ 0 17).toInt) : wcn σ ≤ wcn s := by
  have e1 : (wcn σ : Int) = (σ 0 17).toInt := nt h0
  have h := r.2.2.2.2.2.1
  have e2 : (wcn s : Int) = (s 0 17).toInt := nt (by omega)
  omega
theorem rs_ev (r : RSt σ vs s t z) : EV σ s := by
  obtain ⟨k, -, -, m, -, -, -, -, -, -, -, hl⟩ := r
  have f1 : (s 0 35) = (σ 0 35) := k _ _ rfl rfl
  have f2 : (s 0 36) = (σ 0 36) := k _ _ rfl rfl
  have e22 : (s 22) = (σ 22) := funext (fun j => k 22 j rfl rfl)
  have e15 : (s 15) = (σ 15) := funext (fun j => k 15 j rfl rfl)
  have e10 : (s 10) = (σ 10) := funext (fun j => k 10 j rfl rfl)
  have e9 : (s 9) = (σ 9) := funext (fun j => k 9 j rfl rfl)
  have eF : Fi s = Fi σ := by unfold Fi; rw [f1, e22]
  refine ⟨hl, k _ _ rfl rfl, fun n h h' ⟨c1, c2, e, c3, c4, c5, c6, c7, c8⟩ => ⟨c1, by rw [eF, f2]; exact c2, e, by rw [eF]; exact c3, by rw [e9]; exact c4, m.1 _ c5, m.2 _ c6, by rw [e15]; exact c7, by rw [e15, e10]; exact c8⟩⟩
theorem rs_nb (h : NB σ vs) (r : RSt σ vs s t z) (hw : (s 0 17).toInt ≤ (σ 0 17).toInt + 40 * (pos s - pos σ)) (hi : (s 0 39).toInt ≤ (σ 0 39).toInt + 12 * (pos s - pos σ)) (hz : (z.length : Int) ≤ vs.length + 2 * (pos s - pos σ)) : NB s z := by
  obtain ⟨h1, h2, h3⟩ := h
  have e := rs_sz r
  unfold NB
  rw [e]
  exact ⟨by omega, by omega, by omega⟩
theorem up_sil : σ = upC σ 0 15 (σ 0 15) := by
  funext c j
  rw [rdC]
  by_cases e : c = 0
  · rw [if_pos e]
    by_cases e2 : j = 15
    · rw [if_pos e2, e, e2]
    · rw [if_neg e2, e]
  · rw [if_neg e]
theorem rt_rtx (h : RTx σ vs s t z) : RTt σ vs s t z := ⟨⟨s, rs_rl h.1, up_sil⟩, h.2⟩
theorem rt_rs (r : RSt σ vs s t z) (hz : (z.length : Int) ≤ vs.length + 2 * (pos s - pos σ)) (g : RTt s z s' t' z') : RTt σ vs s' t' z' := by
  obtain ⟨⟨s0, g1, g2⟩, g3⟩ := g
  refine ⟨⟨s0, rs_tr r g1, g2⟩, ?_⟩
  rw [rs_sz r] at g3
  omega
/-! chains of jumps -/
def Ch (w : Nat → Int32) : Int → List Nat → Prop
  | p, [] => p < 0
  | p, b :: B => p = (b : Int) ∧ (∀ c ∈ B, c < b) ∧ Ch w (w b).toInt B
theorem ch_w {w w' : Nat → Int32} : ∀ {B : List Nat} {p : Int}, (∀ b ∈ B, w' b = w b) → Ch w p B → Ch w' p B
  | [], _, _, h => h
  | b :: B, p, hw, ⟨h1, h2, h3⟩ => ⟨h1, h2, by
      rw [hw b List.mem_cons_self]
      exact ch_w (fun c hc => hw c (List.mem_cons_of_mem _ hc)) h3⟩
def CHN (σ s : St) (B G : List Nat) : Prop := (∀ b ∈ B, wcn σ < b ∧ b < wcn s) ∧ (∀ b ∈ G, wcn σ < b ∧ b < wcn s) ∧ (∀ b ∈ B, b ∉ G) ∧ (∀ A : List Nat, (∀ b ∈ A, b < wcn σ) → Ch (σ 8) (σ 0 58).toInt A → Ch (s 8) (s 0 58).toInt (B ++ A)) ∧ (∀ A : List Nat, (∀ b ∈ A, b < wcn σ) → Ch (σ 8) (σ 0 59).toInt A → Ch (s 8) (s 0 59).toInt (G ++ A))
theorem chn_tr {B G B' G' : List Nat} (h : CHN σ s B G) (g : CHN s s' B' G') (h1 : wcn σ ≤ wcn s) (h2 : wcn s ≤ wcn s') : CHN σ s' (B' ++ B) (G' ++ G) := by
  obtain ⟨a1, a2, a3, a4, a5⟩ := h
  obtain ⟨b1, b2, b3, b4, b5⟩ := g
  refine ⟨fun b hb => ?_, fun b hb => ?_, fun b hb hg => ?_, fun A hA hC => ?_, fun A hA hC => ?_⟩
  · rcases List.mem_append.mp hb with h | h
    · have := b1 b h; omega
    · have := a1 b h; omega
  · rcases List.mem_append.mp hb with h | h
    · have := b2 b h; omega
    · have := a2 b h; omega
  · rcases List.mem_append.mp hb with h | h
    · rcases List.mem_append.mp hg with k | k
      · exact b3 b h k
      · have := b1 b h; have := a2 b k; omega
    · rcases List.mem_append.mp hg with k | k
      · have := a1 b h; have := b2 b k; omega
      · exact a3 b h k
  · rw [List.append_assoc]
    refine b4 (B ++ A) (fun b hb => ?_) (a4 A hA hC)
    rcases List.mem_append.mp hb with h | h
    · exact (a1 b h).2
    · have := hA b h; omega
  · rw [List.append_assoc]
    refine b5 (G ++ A) (fun b hb => ?_) (a5 A hA hC)
    rcases List.mem_append.mp hb with h | h
    · exact (a2 b h).2
    · have := hA b h; omega
theorem chn_no (h0 : 0 ≤ (σ 0 17).toInt) (hr : RW σ s) (hb : (s 0 58) = (σ 0 58)) (hg : (s 0 59) = (σ 0 59)) : CHN σ s [] [] := by
  have e0 : (wcn σ : Int) = (σ 0 17).toInt := nt h0
  refine ⟨fun b hb => absurd hb List.not_mem_nil, fun b hb => absurd hb List.not_mem_nil, fun b hb => absurd hb List.not_mem_nil, fun A hA hC => ?_, fun A hA hC => ?_⟩
  · rw [hb]
    exact ch_w (fun b hb => hr b (by have := hA b hb; omega)) hC
  · rw [hg]
    exact ch_w (fun b hb => hr b (by have := hA b hb; omega)) hC
/-- a jump that is still open: at no value, at a level of at least L -/
def Hol (w : Nat → Int32) (g : Gh) (L b : Nat) : Prop := ∃ q k, b = q + 1 ∧ g q = some (0, k) ∧ L ≤ k ∧ g (q + 1) = none ∧ w q = 15 ∧ g (q + 2) ≠ none
def Xh (X : Nat → Prop) (B : List Nat) : Nat → Prop := fun q => X q ∨ q + 1 ∈ B
def TSt (σ s : St) (a b : Nat) (B G : List Nat) : Prop := ∀ g X E0 L, TY σ g X E0 a L → (s 0 12).toInt = 0 → (s 0 15).toInt = 0 → ∃ g', TY s g' (Xh X (B ++ G)) E0 b L ∧ Ext g g' (wcn σ) ∧ ∀ h ∈ B ++ G, Hol (s 8) g' L h
theorem ho_mono {w w' : Nat → Int32} {g g' : Gh} {L b n : Nat} (h : Hol w g L b) (hb : b < n) (he : Ext g g' n) (hw : ∀ q, q < n → w' q = w q) : Hol w' g' L b := by
  obtain ⟨q, k, h1, h2, h3, h4, h5, h6⟩ := h
  exact ⟨q, k, h1, by rw [he q (by omega)]; exact h2, h3, by rw [he _ (by omega)]; exact h4, by rw [hw q (by omega)]; exact h5, by rw [he _ (by omega)]; exact h6⟩
theorem ts_te {N a b : Nat} (h : TE σ s N a b) (hN : N ≤ 546) : TSt σ s a b [] [] := fun g X E0 L hT hf hs => by
  obtain ⟨g', h1, h2⟩ := h g X E0 0 L (by rw [Nat.zero_add]; exact hT) (by omega) hf hs
  rw [Nat.zero_add] at h1
  exact ⟨g', ty_X h1 (fun q hq => Or.inl hq), h2, fun b hb => absurd hb List.not_mem_nil⟩
theorem ts_tr {a b c : Nat} {B G B' G' : List Nat} (h : TSt σ s a b B G) (g : TSt s s' b c B' G') (hB : ∀ b ∈ B ++ G, b < wcn s) (h1 : wcn σ ≤ wcn s) (h0 : 0 ≤ (s 0 17).toInt) (hr : RW s s') (ho : OF s s') (hs : (s' 0 15) = (s 0 15)) : TSt σ s' a c (B' ++ B) (G' ++ G) := fun g0 X E0 L hT hf hs9 => by
  have e0 : (wcn s : Int) = (s 0 17).toInt := nt h0
  obtain ⟨g1, t1, x1, o1⟩ := h g0 X E0 L hT (of0 ho hf) (by rw [← hs]; exact hs9)
  obtain ⟨g2, t2, x2, o2⟩ := g g1 _ E0 L t1 hf hs9
  refine ⟨g2, ty_X t2 (fun q hq => ?_), ext_tr x1 x2 h1, fun b hb => ?_⟩
  · rcases hq with (hq | hq) | hq
    · exact Or.inl hq
    · refine Or.inr ?_
      rcases List.mem_append.mp hq with h | h
      · simp [h]
      · simp [h]
    · refine Or.inr ?_
      rcases List.mem_append.mp hq with h | h
      · simp [h]
      · simp [h]
  · have old : b ∈ B ++ G → Hol (s' 8) g2 L b := fun hb => ho_mono (o1 b hb) (hB b hb) x2 (fun q hq => hr q (by omega))
    rcases List.mem_append.mp hb with h | h
    · rcases List.mem_append.mp h with k | k
      · exact o2 b (List.mem_append.mpr (Or.inl k))
      · exact old (List.mem_append.mpr (Or.inl k))
    · rcases List.mem_append.mp h with k | k
      · exact o2 b (List.mem_append.mpr (Or.inr k))
      · exact old (List.mem_append.mpr (Or.inr k))
/-- a stretch of statements: what it leaves open -/
def SRt (σ : St) (vs : List Nat) (a b : Nat) (s t : St) (z : List Nat) (B G : List Nat) : Prop := RSt σ vs s t z ∧ CHN σ s B G ∧ TSt σ s a b B G ∧ (s 0 57) = (σ 0 57) ∧ ((s 0 12).toInt = 0 → (s 0 15).toInt = 0 → (σ 0 57).toInt ≤ 0 → B = [] ∧ G = [])
theorem sr_b {a b : Nat} {B G : List Nat} (h : SRt σ vs a b s t z B G) : ∀ b ∈ B ++ G, b < wcn s := fun b hb => by
  rcases List.mem_append.mp hb with k | k
  · exact (h.2.1.1 b k).2
  · exact (h.2.1.2.1 b k).2
theorem sr_tr {a b c : Nat} {B G B' G' : List Nat} (h0 : 0 ≤ (σ 0 17).toInt) (h : SRt σ vs a b s t z B G) (g : SRt s z b c s' t' z' B' G') : SRt σ vs a c s' t' z' (B' ++ B) (G' ++ G) := by
  have hb := sr_b h
  obtain ⟨h1, h2, h3, h4, h5⟩ := h
  obtain ⟨g1, g2, g3, g4, g5⟩ := g
  have m1 := rs_wcn h1 h0
  have h0s := h1.2.1.2.2.1.2.2.2.2.1
  have m2 := rs_wcn g1 h0s
  refine ⟨rs_tr h1 g1, chn_tr h2 g2 m1 m2, ts_tr h3 g3 hb m1 h0s g1.2.2.1 g1.2.2.2.2.1 (rs_sil g1), g4.trans h4, fun f1 f2 f3 => ?_⟩
  obtain ⟨a1, a2⟩ := g5 f1 f2 (by rw [h4]; exact f3)
  obtain ⟨a3, a4⟩ := h5 (of0 g1.2.2.2.2.1 f1) (by rw [← rs_sil g1]; exact f2) f3
  rw [a1, a2, a3, a4]
  exact ⟨rfl, rfl⟩
theorem sr_rl {N a b : Nat} (h0 : 0 ≤ (σ 0 17).toInt) (r : RL σ vs s t z) (te : TE σ s N a b) (hN : N ≤ 546) : SRt σ vs a b s t z [] [] := ⟨rs_rl r, chn_no h0 r.2.2.1 (r.1 0 58 rfl rfl) (r.1 0 59 rfl rfl), ts_te te hN, r.1 0 57 rfl rfl, fun _ _ _ => ⟨rfl, rfl⟩⟩
end STM
