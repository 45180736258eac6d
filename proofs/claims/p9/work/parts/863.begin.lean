/-! steps of statements: what they leave; an expression's value thrown away; a construct begun -/
/-- a statement's step: typed code again, with these constructs around -/
def SRs (σ s : St) (b : Nat) (K : List Nat) (H0 m : Nat) : Prop := KXS σ s ∧ MKs σ s ∧ ((∀ j, j < b → (s 24) j = (σ 24) j) ∧ b ≤ clen s) ∧ 0 ≤ (s 4 1).toInt ∧ (s 4 1).toInt ≤ (σ 4 1).toInt + m ∧ ((s 6 3).toInt = 0 → (σ 6 3).toInt = 0 ∧ ∃ g' X', SB s g' b K X' H0 ∧ clen s ≤ clen σ + m)
section BGN
variable {σ s z t : St} {g g' g1 : Gh} {X X0 Y : Nat → Prop} {b e e0 H H0 L m n c : Nat} {K : List Nat} {x y : Int32}
theorem kxs_e (k : KXE σ s) : KXS σ s := ko_sub k (by decide) (by decide)
theorem ss_discard {Q : St → Prop} (h : SE σ g b K X H0 e0 [iV]) (hb : b ≤ e0) (cap : (σ 4 1).toInt ≤ 262150) (k : ∀ s, SRs σ s b K H0 (2 * plc σ [iV] + 1) → Q s) : wk_X2_pop σ (fun u148 s148 => wk_X0_emit (2 : Int32) (0 : Int32) (0 : Int32) (0 : Int32) s148 (fun v160 s160 => Q s160)) := by
  have p1 : plc σ [iV] = pk σ 65 + 0 := plc_V
  have pk1 := pkq_le (σ := σ) (q := 65)
  have c0 := clen_eq h.1.2.2.1
  refine vs_pop h (by omega) (fun s g1 k1 m1 w1 ag vs hc fu _ => ?_)
  have l0 := vs.2.2.2.1
  have c1 := clen_eq l0
  refine sk_emit (n := 2) rfl (by decide) l0 (by omega) (fun v t _ em => k t ?_)
  have el := em_len em (m := 2) rfl
  have ec := em_clen em (n := 2) rfl l0
  have l2 : ln 2 = 1 := rfl
  obtain ⟨ek, emk, -, -, ef, -⟩ := em_k em
  have hb2 : b ≤ clen s := Nat.le_trans hb vs.2.2.2.2.2.2.1
  refine ⟨kxs_e (ko_tr k1 ek), mks_tr m1 emk, ⟨fun j hj => (em.2.2.1 j (by omega)).trans (w1 j (by omega)), by omega⟩, by omega, by omega, fun hf => ⟨by rw [← fu]; exact ef ▸ hf, ?_⟩⟩
  obtain ⟨g2, -, a2, -⟩ := vs_emit vs em (k := 2) rfl ⟨by decide, by decide⟩ (by decide) (Or.inl rfl)
  exact ⟨g2, X, a2 rfl, by omega⟩
theorem sk_begin {Q : St → Prop} (hn : (σ 9 5).toInt = n) (hn2 : n < 26) (k : ∀ s, Kp [(9, 5)] [49, 50, 51, 52] σ s → (s 9 5).toInt = n + 1 → (∀ j, j ≠ n → (s 49) j = (σ 49) j ∧ (s 50) j = (σ 50) j ∧ (s 51) j = (σ 51) j ∧ (s 52) j = (σ 52) j) → ((s 49) n).toInt = (if x.toInt = 0 then 0 else 1) → (s 50) n = (σ 4 1) → (s 51) n = -1 → (s 52) n = -1 → Q s) : wk_X7_begin x σ Q := by
  unfold wk_X7_begin
  refine ⟨fun y => y.toInt = (if x.toInt = 0 then 0 else 1), fun y _ hy => ?_, fun c => by rw [if_pos c]; rfl, fun c => by rw [if_neg c]; rfl⟩
  simp only [rdF, Nat.reduceEqDiff, if_false]
  rw [setv_at hn hn2, setv_at hn hn2, setv_at hn hn2, setv_at hn hn2]
  refine k _ (kp_f (kp_F (kp_F (kp_F (kp_F kp_rf rfl) rfl) rfl) rfl) rfl) ?_ (fun j hj => ⟨?_, ?_, ?_, ?_⟩) ?_ ?_ ?_ ?_
  · simp only [rdC, if_true]
    exact (ad0 i1 (by omega) (by omega)).trans (by omega)
  all_goals simp only [rdC, rdF, Nat.reduceEqDiff, if_false, if_true]
  · exact if_neg hj
  · exact if_neg hj
  · exact if_neg hj
  · exact if_neg hj
  · exact hy
theorem cpu_x (k : KXS σ s) (m : MKs σ s) : ∀ a n, CPu σ a n → CPu s a n := fun a n ⟨h1, h2, h3, h4, h5⟩ => by
  have e1 : (s 5 1) = (σ 5 1) := k 5 1 (op_lt (by decide)) rfl rfl
  have e2 : (s 6 7) = (σ 6 7) := k 6 7 (op_lt (by decide)) rfl rfl
  have e3 : (s 27) = (σ 27) := funext (fun j => k 27 j (op_lt (by decide)) rfl rfl)
  exact ⟨by rw [e1, e2]; exact h1, (flb1 m).mpr h2, (m.1 _).2.2.2 h3, by rw [e1, e2]; exact m.2 _ h4, by rw [e3]; exact h5⟩
theorem cx_begin (h : CX σ g e K X) (kk : Kp [(9, 5)] [49, 50, 51, 52] σ s) (hs : ∀ j, j ≠ nzr K → (s 49) j = (σ 49) j ∧ (s 50) j = (σ 50) j ∧ (s 51) j = (σ 51) j ∧ (s 52) j = (σ 52) j) (hl : ((s 49) (nzr K)).toInt = (if c = 1 then 0 else 1)) (hx : (s 51) (nzr K) = -1) (ha : (s 52) (nzr K) = -1) (hc : c = 1 ∨ c = 2 ∨ c = 4 ∨ c = 6) (ht : 2 ≤ c → ((s 50) (nzr K)).toInt = e ∧ g e = some (0, LV K)) : CX s g e (c :: K) X := by
  have w0 : (s 24) = (σ 24) := funext (fun j => kk 24 j rfl rfl)
  have b0 : (s 53) = (σ 53) := funext (fun j => kk 53 j rfl rfl)
  have l0 : (s 54) = (σ 54) := funext (fun j => kk 54 j rfl rfl)
  have m1 : ((-1 : Int32)).toInt < 0 := by decide
  unfold CX
  rw [if_neg (by omega)]
  refine ⟨X, [], [], [], cx_mono K X (fun j hj => ?_) (fun q _ => by rw [w0]) agr_rf (Nat.le_refl _) h, fun q => ⟨Or.inl, fun z => z.elim id (fun z => by rcases z with z | z | z <;> cases z)⟩, ⟨fun q hq => (by cases hq), fun q hq => (by cases hq), fun q hq => (by cases hq)⟩, ?_, ?_, hl, fun p hp => (by cases hp), fun p hp => (by cases hp), fun _ => rfl, fun c2 => ⟨e, (ht c2).1, Nat.le_refl _, (ht c2).2⟩, fun z => (by omega), fun z => (by omega), fun _ => rfl⟩
  · obtain ⟨a1, a2, a3, a4⟩ := hs j (by omega)
    exact ⟨a1, a2, a3, a4, by rw [b0], by rw [l0]⟩
  · show ((s 51) (nzr K)).toInt < 0
    rw [hx]
    exact m1
  · intro _
    show ((s 52) (nzr K)).toInt < 0
    rw [ha]
    exact m1
/-- a while or a for begins -/
theorem ss_begin {Q : St → Prop} (h : SB σ g b K X 0) (hc : c = 2 ∨ c = 6) (hn : nzr K < 26) (k : ∀ s, SRs σ s b (c :: K) 0 0 → Q s) : wk_X7_begin (1 : Int32) σ Q := by
  obtain ⟨h1, h2, h3, h4, h5, h6⟩ := h
  have c0 := clen_eq h4
  refine sk_begin (n := nzr K) h5 hn (fun s kk o1 rs a1 a2 a3 a4 => k s ?_)
  have w0 : (s 24) = (σ 24) := funext (fun j => kk 24 j rfl rfl)
  have e4 : (s 4 1) = (σ 4 1) := kk 4 1 rfl rfl
  have e6 : (s 6 3) = (σ 6 3) := kk 6 3 rfl rfl
  have e7 : (s 7 7) = (σ 7 7) := kk 7 7 rfl rfl
  have ecl : clen s = clen σ := by unfold clen; rw [e4]
  have kx : KXS σ s := ko_sub (ko_kp kk) (by decide) (by decide)
  have mk : MKs σ s := mks_eq (funext (fun j => kk 25 j rfl rfl)) (funext (fun j => kk 39 j rfl rfl))
  have lv : LV (c :: K) = LV K := by rcases hc with e | e <;> subst e <;> rfl
  refine ⟨kx, mk, ⟨fun j _ => by rw [w0], by rw [ecl]; exact h1.1⟩, by rw [e4]; exact h4, by rw [e4]; omega, fun hf => ⟨by rw [← e6]; exact hf, g, X, ⟨?_, ?_, by rw [e7]; exact h3, by rw [e4]; exact h4, ?_, by rw [ecl]; exact h6⟩, by omega⟩⟩
  · rw [ecl, lv, w0]
    exact typ_mono (fun _ _ => rfl) agr_rf (cpu_x kx mk) (fun _ z => z) h1
  · rw [ecl]
    exact cx_begin h2 kk rs (by rw [a1, if_neg (by decide), if_neg (by omega)]) a3 a4 (by omega) (fun _ => ⟨by rw [a2]; omega, h1.2.1⟩)
  · rw [o1, nz_c (by omega)]
    rfl
end BGN
