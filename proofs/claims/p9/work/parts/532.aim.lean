/-! chains are aimed -/
section AIMS
variable {σ s s' τ t t' : St} {vs z z' : List Nat} {g g' : Gh} {X X' : Nat → Prop} {E0 H L : Nat}
def ALx (σ s : St) (B : List Nat) (to : Int32) : Prop := Kp [] [8] σ s ∧ ∀ j, (s 8) j = if j ∈ B then to else (σ 8) j
theorem sp_aimAll {a to : Int32} {B : List Nat} {Q : St → St → List Nat → Prop} (hC : Ch (σ 8) a.toInt B) (hB : ∀ b ∈ B, b < 500000) (k : ∀ s, ALx σ s B to → Q s τ vs) : wp_aimAll a to σ τ vs Q := by
  unfold wp_aimAll
  refine ⟨fun n x s t z => τ = t ∧ vs = z ∧ ∃ D R, B = D ++ R ∧ n = R.length ∧ ALx σ s D to ∧ Ch (s 8) x.toInt R ∧ ∀ d ∈ D, ∀ c ∈ R, c < d, ⟨B.length, rfl, rfl, [], B, rfl, rfl, ⟨kp_rf, fun j => by rw [if_neg List.not_mem_nil]⟩, hC, fun d hd => absurd hd List.not_mem_nil⟩, ?_⟩
  rintro n x s _ _ ⟨rfl, rfl, D, R, h1, h2, h3, h4, h5⟩
  cases R with
  | nil =>
    refine ⟨fun _ => ?_, fun c => absurd h4 (by show ¬ x.toInt < 0; omega)⟩
    rw [List.append_nil] at h1
    rw [h1] at k
    exact k s h3
  | cons b R =>
    obtain ⟨c1, c2, c3⟩ := h4
    have hb := hB b (by rw [h1]; simp)
    refine ⟨fun c => by omega, fun c => ⟨⟨c, by omega⟩, ⟨c, by omega⟩, R.length, by rw [h2]; exact Nat.lt_succ_self _, rfl, rfl, D ++ [b], R, by rw [h1]; simp, rfl, ⟨kp_a h3.1 rfl, fun j => ?_⟩, ?_, fun d hd e he => ?_⟩⟩
    · have eb : x.toNatClampNeg = b := by rw [nt', c1]; exact Int.toNat_natCast b
      show upC s 8 x.toNatClampNeg to 8 j = _
      rw [rdA, eb]
      by_cases e : j = b
      · rw [if_pos e, if_pos (by rw [e]; simp)]
      · rw [if_neg e, h3.2]
        by_cases e2 : j ∈ D
        · rw [if_pos e2, if_pos (by simp [e2])]
        · rw [if_neg e2, if_neg (by simp [e, e2])]
    · have eb : x.toNatClampNeg = b := by rw [nt', c1]; exact Int.toNat_natCast b
      rw [eb]
      exact ch_w (fun c hc => rdA_ne (by have := c2 c hc; omega)) c3
    · rcases List.mem_append.mp hd with h | h
      · exact h5 d h e (List.mem_cons_of_mem _ he)
      · rw [List.mem_singleton.mp h]
        exact c2 e he
theorem rs_al {B : List Nat} {to : Int32} (r : RSt σ vs s t z) (h : ALx s s' B to) (hB : ∀ b ∈ B, wcn σ < b) (h0 : 0 ≤ (σ 0 17).toInt) : RSt σ vs s' t z := by
  have e0 : (wcn σ : Int) = (σ 0 17).toInt := nt h0
  obtain ⟨h1, h2, h3, h4, h5, h6, h7, h8, h9, h10, h11, h12⟩ := r
  obtain ⟨k, w⟩ := h
  have f : ∀ j, s' 0 j = s 0 j := fun j => k 0 j rfl rfl
  have fr : (s' 3) = (s 3) := funext (fun j => k 3 j rfl rfl)
  have f1 : (s' 21) = (s 21) := funext (fun j => k 21 j rfl rfl)
  have f2 : (s' 14) = (s 14) := funext (fun j => k 14 j rfl rfl)
  refine ⟨kp_tr h1 (kp_sub k rfl rfl), pa_ke h2 (kp_sub k rfl rfl) (by unfold AtOK; rw [f, f]; exact h2.2.1) (by rw [f]; exact h2.2.2.1.2.2.2.1) (by rw [f]; exact h2.2.2.1.2.2.2.2.1) (by rw [f]; exact h2.2.2.1.2.2.2.2.2.1) (by rw [f1]; exact h2.2.2.2.1.2.2.1) h2.2.2.2.2, fun j hj => ?_, ⟨fun e he => by rw [f2]; exact h4.1 e he, fun n hn => by rw [f1]; exact h4.2 n hn⟩, of_tr h5 (of_eq (f _)), by rw [f]; exact h6, by rw [f]; exact h7, ?_, h9, h10, ie_tr h11 (ie_of (funext (fun j => k 25 j rfl rfl)) (f _) (f _)), by rw [f]; exact h12⟩
  · rw [w, if_neg (fun c => by have := hB j c; omega)]
    exact h3 j hj
  · unfold pos
    rw [f, fr]
    exact h8
/-- jumps that were open get their aim -/
theorem ty_aimall {B G : List Nat} {to : Int32} {T kT : Nat} (h : TY σ g (Xh X (B ++ G)) E0 H L) (hA : ALx σ s B to) (ho : ∀ b ∈ B, Hol (σ 8) g (kT + 1) b) (hto : to.toInt = (T : Int)) (hg : g T = some (0, kT)) (hBG : ∀ b ∈ B, b ∉ G) (hG : ∀ b ∈ G, Hol (σ 8) g 0 b) : TY s g (Xh X G) E0 H L := by
  obtain ⟨h1, h2, h3, h4, h5⟩ := h
  have f : ∀ j, s 0 j = σ 0 j := fun j => hA.1 0 j rfl rfl
  have en : wcn s = wcn σ := by unfold wcn; rw [f]
  have hev : EV σ s := ev_ke (kp_sub hA.1 rfl rfl) (mon_of (funext (fun j => hA.1 14 j rfl rfl)) (funext (fun j => hA.1 21 j rfl rfl)))
  refine ⟨by rw [en]; exact h1, by rw [en]; exact h2, by rw [en]; exact h3, h4, fun q h k hq hlt hx => ?_⟩
  rw [en] at hlt
  have hqB : q ∉ B := fun c => by
    obtain ⟨p, k9, e1, -, -, e2, -⟩ := ho q c
    rw [← e1, hq] at e2
    cases e2
  by_cases c : q + 1 ∈ B
  · obtain ⟨p, k9, e1, e2, e3, e4, e5, e6⟩ := ho _ c
    have e7 : p = q := by omega
    subst e7
    rw [hq] at e2
    cases e2
    have w1 : (s 8) p = 15 := by rw [hA.2, if_neg hqB]; exact e5
    have w2 : (s 8) (p + 1) = to := by rw [hA.2, if_pos c]
    unfold OKc OPw
    rw [w1, w2, hto]
    refine ⟨by decide, by omega, ?_, e6⟩
    exact ⟨by omega, kT, by rw [Int.toNat_natCast]; exact hg, Or.inl (by omega)⟩
  · refine okc_mono hev (by rw [hA.2, if_neg hqB]) (Or.inr (by rw [hA.2, if_neg c])) (fun _ _ h => h) (h5 q h k hq hlt (fun z => ?_))
    rcases z with z | z
    · exact hx (Or.inl z)
    · rcases List.mem_append.mp z with z | z
      · exact c z
      · exact hx (Or.inr z)
/-- the level at the end may be lowered -/
theorem nx_low {n k pc pc' h' L' : Nat} (hL : L' ≤ L) (hn : g n = some (H, L)) (h : Nx g k pc pc' h') : Nx (fun q => if q = n then some (H, L') else g q) k pc pc' h' := by
  obtain ⟨h1, k', h2, h3⟩ := h
  by_cases e : pc' = n
  · subst e
    rw [hn] at h2
    cases h2
    exact ⟨h1, L', if_pos rfl, by omega⟩
  · exact ⟨h1, k', by show (if pc' = n then _ else _) = _; rw [if_neg e]; exact h2, h3⟩
theorem opn_low {n m k pc h L' : Nat} {a nl : Int} {vd : Prop} {C : Int → Nat → Nat → Prop} (hL : L' ≤ L) (hn : g n = some (H, L)) (H9 : OPn m a g nl vd C pc h k) : OPn m a (fun q => if q = n then some (H, L') else g q) nl vd C pc h k := by
  have N : ∀ {pc' h'}, Nx g k pc pc' h' → Nx (fun q => if q = n then some (H, L') else g q) k pc pc' h' := fun x => nx_low hL hn x
  match m, H9 with
  | 0, H => exact N H
  | 1, H => exact ⟨H.1, N H.2⟩
  | 2, H => exact N H
  | 3, H => exact ⟨H.1, N H.2⟩
  | 4, H => exact ⟨H.1, N H.2⟩
  | 5, H => exact ⟨H.1, N H.2⟩
  | 6, H => exact ⟨H.1, N H.2⟩
  | 7, H => exact ⟨H.1, H.2.1, N H.2.2⟩
  | 8, H => exact ⟨H.1, N H.2⟩
  | 9, H => exact ⟨H.1, N H.2⟩
  | 10, H => exact ⟨H.1, N H.2⟩
  | 11, H => exact ⟨H.1, N H.2⟩
  | 12, H => exact ⟨H.1, N H.2⟩
  | 13, H => exact ⟨H.1, N H.2⟩
  | 14, H => exact ⟨H.1, N H.2⟩
  | 15, H9 =>
    refine ⟨H9.1, N H9.2.1, ?_⟩
    show (if pc + 2 = n then _ else _) ≠ none
    split
    · exact fun c => by cases c
    · exact H9.2.2
  | 16, H => exact ⟨H.1, H.2.1, N H.2.2.1, N H.2.2.2⟩
  | 17, H => exact ⟨H.1, H.2.1, N H.2.2.1, N H.2.2.2⟩
  | 18, H9 =>
    obtain ⟨h0, k', h1⟩ := H9
    by_cases e : pc + 2 = n
    · rw [e, hn] at h1
      cases h1
      exact ⟨h0, L', if_pos e⟩
    · exact ⟨h0, k', by show (if pc + 2 = n then _ else _) = _; rw [if_neg e]; exact h1⟩
  | 19, H =>
    obtain ⟨h', h1, h2⟩ := H
    exact ⟨h', h1, N h2⟩
  | 20, H => exact H
  | 21, H => exact H
  | 22, H => exact ⟨H.1, N H.2⟩
  | 23, H => exact ⟨H.1, N H.2⟩
  | 24, H => exact ⟨H.1, N H.2⟩
theorem ty_low {L' : Nat} (h : TY σ g X E0 H L) (hL : L' ≤ L) : TY σ (fun q => if q = wcn σ then some (H, L') else g q) X E0 H L' := by
  obtain ⟨h1, h2, h3, h4, h5⟩ := h
  refine ⟨h1, if_pos rfl, fun q hq => ?_, fun q hq => ?_, fun q h k hq hlt hx => ?_⟩
  · show (if q = wcn σ then _ else _) = _
    rw [if_neg (by omega)]; exact h3 q hq
  · show (if q = wcn σ then _ else _) = _
    rw [if_neg (by omega)]; exact h4 q hq
  · have hq' : g q = some (h, k) := by
      have hq9 : (if q = wcn σ then some (H, L') else g q) = some (h, k) := hq
      rw [if_neg (by omega)] at hq9
      exact hq9
    obtain ⟨a1, a2⟩ := h5 q h k hq' hlt hx
    exact ⟨a1, opn_low hL h2 a2⟩
end AIMS
