/-! what holds while a unit is read -/
def pos (σ : St) : Int := ((σ 3) (σ 0 10).toNatClampNeg).toInt
def kd (σ : St) : Int := ((σ 2) (σ 0 10).toNatClampNeg).toInt
def Fi (σ : St) : Int := ((σ 22) (σ 0 35).toNatClampNeg).toInt
def wcn (σ : St) : Nat := (σ 0 17).toNatClampNeg
def AtOK (σ : St) : Prop := 0 ≤ (σ 0 10).toInt ∧ (σ 0 10).toInt < (σ 0 8).toInt
def NMo (σ : St) : Prop := ∀ j, 0 ≤ ((σ 18) j).toInt ∧ 0 ≤ ((σ 19) j).toInt ∧ ((σ 18) j).toInt + ((σ 19) j).toInt ≤ 65536
def VTy (σ : St) : Prop := ∀ j, ((σ 9) j).toInt = 1 → 0 ≤ ((σ 10) j).toInt
def HLd (σ : St) : Prop := ∀ k : Nat, (k : Int) < (σ 0 53).toInt → ((σ 35) k).toInt < (σ 0 49).toInt
def ARR (σ : St) : Prop := AllIn 0 16001 (σ 34) ∧ AllIn 0 99 (σ 35) ∧ AllIn (-1) 16001 (σ 21) ∧ AllIn 0 8 (σ 15) ∧ NMo σ ∧ AllIn 0 10 (σ 31) ∧ AllIn (-1) 10 (σ 10) ∧ VTy σ ∧ HLd σ ∧ AllIn 0 16000 (σ 17) ∧ AllIn 0 10 (σ 16) ∧ AllIn (-1) 4000 (σ 32)
def VOK (τ : St) : Prop := ∀ u, (0 ≤ (τ u 1).toInt ∧ (τ u 1).toInt ≤ 3) ∧ (0 ≤ (τ u 2).toInt ∧ (τ u 2).toInt ≤ 99) ∧ (0 ≤ (τ u 4).toInt ∧ (τ u 4).toInt ≤ 16001) ∧ (τ u 8).toInt ≤ 100 ∧ ((τ u 1).toInt ≠ 0 → (τ u 0).toInt ≠ -1) ∧ ((τ u 5).toInt ≠ 0 → (τ u 0).toInt = 0)
def NUM (σ : St) : Prop := (0 ≤ (σ 0 35).toInt ∧ (σ 0 35).toInt ≤ 99) ∧ (0 ≤ Fi σ ∧ Fi σ ≤ 9900 ∧ Fi σ ≤ (σ 0 36).toInt ∧ (σ 0 36).toInt ≤ Fi σ + 100) ∧ (0 ≤ (σ 0 53).toInt ∧ (σ 0 53).toInt ≤ (σ 0 49).toInt ∧ (σ 0 49).toInt ≤ 100) ∧ (0 ≤ (σ 0 37).toInt ∧ (σ 0 37).toInt ≤ 16000) ∧ 0 ≤ (σ 0 17).toInt ∧ 0 ≤ (σ 0 39).toInt ∧ 0 ≤ (σ 0 15).toInt
def PA (σ τ : St) : Prop := TK σ ∧ AtOK σ ∧ NUM σ ∧ ARR σ ∧ VOK τ
section PAR
variable {σ s τ t : St} {vs z : List Nat}
theorem at_tok (h : TK σ) (ha : AtOK σ) : 0 ≤ (σ 0 10).toInt ∧ (σ 0 10).toInt < 16002 := by
  obtain ⟨h1, h2, -⟩ := h
  obtain ⟨h3, h4⟩ := ha
  omega
theorem pos_in (h : TK σ) (ha : AtOK σ) : 0 ≤ pos σ ∧ pos σ ≤ (σ 0 9).toInt ∧ (σ 0 9).toInt ≤ 16000 := by
  have hn := nt ha.1
  obtain ⟨h1, h2, h3, h4, h5, h6, h7, -⟩ := h
  refine ⟨(h5 _).1, (h7 _ ?_).1, h4⟩
  have := ha.2
  omega
def nxt (σ : St) : St := upC σ 0 10 ((σ 0 10) + 1)
theorem nxt_at : ((nxt σ) 0 10) = (σ 0 10) + 1 := by unfold nxt; rw [rdA_eq rfl]
theorem nxt_kp : Kp [(0, 10)] [] σ (nxt σ) := kp_f kp_rf rfl
theorem tk_kp {fs : List (Nat × Nat)} {cs : List Nat} (h : Kp fs cs σ s) (h1 : fs.contains (0, 8) = false) (h2 : fs.contains (0, 9) = false) (h3 : cs.contains 2 = false ∧ cs.contains 3 = false ∧ cs.contains 4 = false ∧ cs.contains 6 = false ∧ cs.contains 0 = false) (hf : fs.all (fun x => x.1 == 0) = true) (hT : TK σ) : TK s := by
  have e0 : ∀ c k, c ≠ 0 → cs.contains c = false → s c k = σ c k := fun c k hc h9 => by
    refine h c k ?_ h9
    cases q : fs.contains (c, k) with
    | false => rfl
    | true =>
      have h4 := List.all_eq_true.mp hf (c, k) (List.contains_iff_mem.mp q)
      exact absurd (eq_of_beq h4) hc
  have a2 : s 2 = σ 2 := funext (fun k => e0 2 k (by decide) h3.1)
  have a3 : s 3 = σ 3 := funext (fun k => e0 3 k (by decide) h3.2.1)
  have a4 : s 4 = σ 4 := funext (fun k => e0 4 k (by decide) h3.2.2.1)
  have a6 : s 6 = σ 6 := funext (fun k => e0 6 k (by decide) h3.2.2.2.1)
  have e1 : (s 0 8) = (σ 0 8) := h _ _ h1 h3.2.2.2.2
  have e2 : (s 0 9) = (σ 0 9) := h _ _ h2 h3.2.2.2.2
  unfold TK
  rw [e1, e2, a2, a3, a4, a6]
  exact hT
theorem nxt_ok (h : TK σ) (ha : AtOK σ) (hk : 2 ≤ kd σ) : AtOK (nxt σ) ∧ pos σ + 1 ≤ pos (nxt σ) := by
  have hn := nt ha.1
  obtain ⟨h1, h2, h3, h4, h5, h6, h7, h8⟩ := h
  have h9 := ha.2
  obtain ⟨g1, g2, g3, -⟩ := h8 _ (by omega) hk
  have e1 : ((nxt σ) 0 10).toInt = (σ 0 10).toInt + 1 := by rw [nxt_at, ad1 (by omega)]
  have e2 : ((nxt σ) 0 10).toNatClampNeg = (σ 0 10).toNatClampNeg + 1 := by rw [nt', e1]; omega
  have e3 : ((nxt σ) 0 8).toInt = (σ 0 8).toInt := rfl
  refine ⟨⟨by omega, by omega⟩, ?_⟩
  unfold pos
  rw [e2]
  have e4 : ((nxt σ) 3) = (σ 3) := rfl
  rw [e4]
  omega
/-- what expressions change -/
abbrev KE (σ s : St) : Prop := Kp [(0, 10), (0, 12), (0, 13), (0, 14), (0, 17), (0, 37), (0, 39)] [8, 25, 33, 14, 21] σ s
def RW (σ s : St) : Prop := ∀ j : Nat, (j : Int) < (σ 0 17).toInt → (s 8) j = (σ 8) j
def MOn (σ s : St) : Prop := (∀ e, (σ 14) e ≠ 0 → (s 14) e ≠ 0) ∧ (∀ n, 0 ≤ ((σ 21) n).toInt → 0 ≤ ((s 21) n).toInt)
def OF (σ s : St) : Prop := (s 0 12).toInt = (σ 0 12).toInt ∨ (1 ≤ (s 0 12).toInt ∧ (s 0 12).toInt ≤ 4)
theorem of0 {σ s : St} (h : OF σ s) (q : (s 0 12).toInt = 0) : (σ 0 12).toInt = 0 := by
  rcases h with h | h
  · rw [← h]; exact q
  · omega
theorem of_rf {σ : St} : OF σ σ := Or.inl rfl
theorem of_eq {σ s : St} (e : (s 0 12) = (σ 0 12)) : OF σ s := Or.inl (by rw [e])
theorem of_tr {σ s s' : St} (h : OF σ s) (g : OF s s') : OF σ s' := by
  rcases g with g | g
  · rcases h with h | h
    · exact Or.inl (g.trans h)
    · exact Or.inr (by rw [g]; exact h)
  · exact Or.inr g
/-- a stretch of an expression -/
def ITd (σ : St) (f d : Int) : Prop := 0 ≤ f ∧ ∃ n : Nat, (σ 0 39).toInt = f + 3 * n ∧ ∀ j : Nat, j < n → (0 ≤ ((σ 25) (f + 3 * j).toNat).toInt ∧ ((σ 25) (f + 3 * j).toNat).toInt < d) ∧ ((σ 25) (f + 3 * j + 2).toNat).toInt ≤ 100
theorem itd_le {f d d' : Int} (h : ITd σ f d) (hd : d ≤ d') : ITd σ f d' := by
  obtain ⟨i1, n, i2, i3⟩ := h
  exact ⟨i1, n, i2, fun j hj => ⟨⟨(i3 j hj).1.1, Int.lt_of_lt_of_le (i3 j hj).1.2 hd⟩, (i3 j hj).2⟩⟩
theorem itd_of {f d : Int} (h1 : (s 25) = (σ 25)) (h2 : (s 0 39) = (σ 0 39)) (h : ITd σ f d) : ITd s f d := by
  unfold ITd
  rw [h1, h2]
  exact h
/-- the rows of what data begin with go on being right -/
def IE (σ s : St) : Prop := (σ 0 37).toInt ≤ (s 0 37).toInt ∧ (∀ f, ITd σ f (σ 0 37).toInt → ITd s f (s 0 37).toInt) ∧ (σ 0 39).toInt ≤ (s 0 39).toInt ∧ ∀ j : Nat, (j : Int) < (σ 0 39).toInt → (s 25) j = (σ 25) j
theorem ie_rf : IE σ σ := ⟨Int.le_refl _, fun _ h => h, Int.le_refl _, fun _ _ => rfl⟩
theorem ie_tr {s' : St} (h : IE σ s) (g : IE s s') : IE σ s' := ⟨Int.le_trans h.1 g.1, fun f q => g.2.1 f (h.2.1 f q), Int.le_trans h.2.2.1 g.2.2.1, fun j hj => (g.2.2.2 j (Int.lt_of_lt_of_le hj h.2.2.1)).trans (h.2.2.2 j hj)⟩
theorem ie_of (h1 : (s 25) = (σ 25)) (h2 : (s 0 39) = (σ 0 39)) (h3 : (s 0 37) = (σ 0 37)) : IE σ s := ⟨by rw [h3]; exact Int.le_refl _, fun f h => by rw [h3]; exact itd_of h1 h2 h, by rw [h2]; exact Int.le_refl _, fun j _ => by rw [h1]⟩
def RL (σ : St) (vs : List Nat) (s t : St) (z : List Nat) : Prop := KE σ s ∧ PA s t ∧ RW σ s ∧ MOn σ s ∧ OF σ s ∧ (σ 0 17).toInt ≤ (s 0 17).toInt ∧ (σ 0 39).toInt ≤ (s 0 39).toInt ∧ pos σ ≤ pos s ∧ (∀ u ∈ vs, u ∈ z) ∧ vs.length ≤ z.length ∧ IE σ s
theorem mon_rf : MOn σ σ := ⟨fun _ h => h, fun _ h => h⟩
theorem rl_rf (h : PA σ τ) : RL σ vs σ τ vs := ⟨kp_rf, h, fun _ _ => rfl, mon_rf, of_rf, Int.le_refl _, Int.le_refl _, Int.le_refl _, fun _ h => h, Nat.le_refl _, ie_rf⟩
theorem rl_tr {s' t' : St} {z' : List Nat} (h : RL σ vs s t z) (g : RL s z s' t' z') : RL σ vs s' t' z' := by
  obtain ⟨h1, h2, h3, h4, h5, h6, h7, h8, h9, h10, h11⟩ := h
  obtain ⟨g1, g2, g3, g4, g5, g6, g7, g8, g9, g10, g11⟩ := g
  exact ⟨kp_tr h1 g1, g2, fun j hj => (g3 j (by omega)).trans (h3 j hj), ⟨fun e he => g4.1 e (h4.1 e he), fun n hn => g4.2 n (h4.2 n hn)⟩, of_tr h5 g5, by omega, by omega, by omega, fun u hu => g9 u (h9 u hu), by omega, ie_tr h11 g11⟩
/-- the frame of expressions keeps what holds -/
theorem pa_ke (h : PA σ τ) (k : KE σ s) (ha : AtOK s) (hd : 0 ≤ (s 0 37).toInt ∧ (s 0 37).toInt ≤ 16000) (hw : 0 ≤ (s 0 17).toInt) (hi : 0 ≤ (s 0 39).toInt) (hf : AllIn (-1) 16001 (s 21)) (hv : VOK t) : PA s t := by
  obtain ⟨h1, h2, ⟨n1, n2, n3, n4, n5, n6, n7⟩, ⟨a1, a2, a3, a4, a5, a6, a7, a8, a9, b1, b2, b3⟩, h5⟩ := h
  have e22 : (s 22) = (σ 22) := funext (fun j => k 22 j rfl rfl)
  have e34 : (s 34) = (σ 34) := funext (fun j => k 34 j rfl rfl)
  have e35 : (s 35) = (σ 35) := funext (fun j => k 35 j rfl rfl)
  have e15 : (s 15) = (σ 15) := funext (fun j => k 15 j rfl rfl)
  have e18 : (s 18) = (σ 18) := funext (fun j => k 18 j rfl rfl)
  have e19 : (s 19) = (σ 19) := funext (fun j => k 19 j rfl rfl)
  have e31 : (s 31) = (σ 31) := funext (fun j => k 31 j rfl rfl)
  have e10 : (s 10) = (σ 10) := funext (fun j => k 10 j rfl rfl)
  have e9 : (s 9) = (σ 9) := funext (fun j => k 9 j rfl rfl)
  have e32 : (s 32) = (σ 32) := funext (fun j => k 32 j rfl rfl)
  have e16 : (s 16) = (σ 16) := funext (fun j => k 16 j rfl rfl)
  have e17 : (s 17) = (σ 17) := funext (fun j => k 17 j rfl rfl)
  have f1 : (s 0 35) = (σ 0 35) := k _ _ rfl rfl
  have f2 : (s 0 36) = (σ 0 36) := k _ _ rfl rfl
  have f3 : (s 0 53) = (σ 0 53) := k _ _ rfl rfl
  have f4 : (s 0 49) = (σ 0 49) := k _ _ rfl rfl
  have f5 : (s 0 15) = (σ 0 15) := k _ _ rfl rfl
  have eF : Fi s = Fi σ := by unfold Fi; rw [f1, e22]
  refine ⟨tk_kp k rfl rfl ⟨rfl, rfl, rfl, rfl, rfl⟩ rfl h1, ha, ⟨by rw [f1]; exact n1, by rw [eF, f2]; exact n2, by rw [f3, f4]; exact n3, hd, hw, hi, by rw [f5]; exact n7⟩, ⟨by rw [e34]; exact a1, by rw [e35]; exact a2, hf, by rw [e15]; exact a4, ?_, by rw [e31]; exact a6, by rw [e10]; exact a7, ?_, ?_, by rw [e17]; exact b1, by rw [e16]; exact b2, by rw [e32]; exact b3⟩, hv⟩
  · unfold NMo; rw [e18, e19]; exact a5
  · unfold VTy; rw [e9, e10]; exact a8
  · unfold HLd; rw [e35, f3, f4]; exact a9
theorem rl_nxt (h : PA σ τ) (hk : 2 ≤ kd σ) : RL σ vs (nxt σ) τ vs ∧ pos σ + 1 ≤ pos (nxt σ) ∧ ((nxt σ) 0 17).toInt = (σ 0 17).toInt ∧ ((nxt σ) 0 39).toInt = (σ 0 39).toInt := by
  have h9 := h
  obtain ⟨h1, h2, ⟨n1, n2, n3, n4, n5, n6, n7⟩, ⟨a1, a2, a3, a4, a5, a6, a7, a8, a9, b1, b2, b3⟩, h5⟩ := h9
  obtain ⟨g1, g2⟩ := nxt_ok h1 h2 hk
  have k : KE σ (nxt σ) := kp_sub nxt_kp rfl rfl
  exact ⟨⟨k, pa_ke h k g1 n4 n5 n6 a3 h5, fun _ _ => rfl, mon_rf, of_rf, Int.le_refl _, Int.le_refl _, by omega, fun _ h => h, Nat.le_refl _, ie_of rfl rfl rfl⟩, g2, rfl, rfl⟩
end PAR
/-! what is asked of the token at hand -/
section TOKS
variable {σ τ : St} {vs : List Nat}
theorem sp_is {a : Int32} {Q : Int32 → Prop} (h : PA σ τ) (h1 : kd σ = ((32 : Int32) + a).toInt → Q 1) (h0 : kd σ ≠ ((32 : Int32) + a).toInt → Q 0) : wp_is a σ τ vs Q := by
  unfold wp_is
  exact ⟨at_tok h.1 h.2.1, h0, h1⟩
theorem sp_isWord {a : Int32} {Q : Int32 → Prop} (h : PA σ τ) (h1 : kd σ = a.toInt → Q 1) (h0 : kd σ ≠ a.toInt → Q 0) : wp_isWord a σ τ vs Q := by
  unfold wp_isWord
  exact ⟨at_tok h.1 h.2.1, h0, h1⟩
def sg (σ : St) : Int32 := (σ 2) (σ 0 10).toNatClampNeg - (32 : Int32)
theorem sp_sign {Q : Int32 → Prop} (h : PA σ τ) (k : Q (sg σ)) : wp_sign σ τ vs Q := by
  unfold wp_sign
  exact ⟨at_tok h.1 h.2.1, k⟩
theorem sg_kd {n : Int} (h : (sg σ).toInt = n) (h0 : 0 ≤ n) (h1 : n ≤ 200) : kd σ = n + 32 := by
  obtain ⟨k, e⟩ := s_sub ((σ 2) (σ 0 10).toNatClampNeg) (32 : Int32)
  have e2 : (32 : Int32).toInt = 32 := by decide
  have := s_rng ((σ 2) (σ 0 10).toNatClampNeg)
  unfold sg at h
  unfold kd
  omega
def RTx (σ : St) (vs : List Nat) (s t : St) (z : List Nat) : Prop := RL σ vs s t z ∧ (z.length : Int) ≤ vs.length + 2 * ((σ 0 9).toInt - pos σ)
theorem rt_of {s t : St} {z : List Nat} {s' t' : St} {z' : List Nat} (h : RL σ vs s t z) (hz : (z.length : Int) ≤ vs.length + 2 * (pos s - pos σ)) (g : RTx s z s' t' z') : RTx σ vs s' t' z' := by
  refine ⟨rl_tr h g.1, ?_⟩
  have e : (s 0 9) = (σ 0 9) := h.1 _ _ rfl rfl
  have := g.2
  rw [e] at this
  omega
theorem sp_wrong {Q : St → St → List Nat → Prop} (h : PA σ τ) (k : ∀ s, RTx σ vs s τ vs → Q s τ vs) : wp_wrong σ τ vs Q := by
  unfold wp_wrong wp_wrongAt
  refine ⟨at_tok h.1 h.2.1, k _ ⟨⟨?_, ?_, fun _ _ => rfl, mon_rf, of_rf, Int.le_refl _, Int.le_refl _, Int.le_refl _, fun _ h => h, Nat.le_refl _, ie_of rfl rfl rfl⟩, ?_⟩⟩
  · exact kp_f kp_rf rfl
  · obtain ⟨h1, h2, ⟨n1, n2, n3, n4, n5, n6, n7⟩, ⟨a1, a2, a3, a4, a5, a6, a7, a8, a9, b1, b2, b3⟩, h5⟩ := h
    exact pa_ke ⟨h1, h2, ⟨n1, n2, n3, n4, n5, n6, n7⟩, ⟨a1, a2, a3, a4, a5, a6, a7, a8, a9, b1, b2, b3⟩, h5⟩ (kp_f kp_rf rfl) h2 n4 n5 n6 a3 h5
  · have := pos_in h.1 h.2.1
    omega
theorem sp_expect {a : Int32} {Q T : St → St → List Nat → Prop} (h : PA σ τ) (ha : 2 ≤ ((32 : Int32) + a).toInt) (k : kd σ = ((32 : Int32) + a).toInt → RL σ vs (nxt σ) τ vs → pos σ + 1 ≤ pos (nxt σ) → ((nxt σ) 0 17).toInt = (σ 0 17).toInt → ((nxt σ) 0 39).toInt = (σ 0 39).toInt → Q (nxt σ) τ vs) (kt : ∀ s, RTx σ vs s τ vs → T s τ vs) : wp_expect a σ τ vs Q T := by
  unfold wp_expect
  refine sp_is h (fun e => ⟨fun _ => ?_, fun c => absurd c (by decide)⟩) (fun _ => ⟨fun c => absurd rfl c, fun _ => sp_wrong h kt⟩)
  obtain ⟨g1, g2, g3, g4⟩ := rl_nxt (vs := vs) h (by rw [e]; exact ha)
  exact k e g1 g2 g3 g4
theorem sp_deeper {d : Int32} {Q : Int32 → St → St → List Nat → Prop} {T : St → St → List Nat → Prop} (h : PA σ τ) (h1 : 0 ≤ d.toInt ∧ d.toInt ≤ 25) (k : d.toInt + 1 ≤ 25 → (d + 1).toInt = d.toInt + 1 → Q (d + 1) σ τ vs) (kt : ∀ s, RTx σ vs s τ vs → T s τ vs) : wp_deeper d σ τ vs Q T := by
  unfold wp_deeper
  exact ⟨fun c => k (by omega) (ad1 (by omega)), fun _ => sp_wrong h kt⟩
end TOKS
