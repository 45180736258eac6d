/-! compile, from outside -/
abbrev KXu (σ s : St) : Prop := Kp [(0, 8), (0, 10), (0, 9), (0, 1), (0, 14), (0, 37), (0, 12), (0, 15), (0, 53), (0, 54), (0, 49)] [2, 3, 4, 5, 6] σ s
abbrev KZu (σ s : St) : Prop := Kp [(0, 35), (0, 17), (0, 31), (0, 45), (0, 39), (0, 36), (0, 15)] [23, 22, 24] σ s
/-- what a unit leaves of what was there -/
def OLU (σ s : St) : Prop := (∀ e : Nat, (e : Int) < (σ 0 36).toInt → (s 9) e = (σ 9) e ∧ (s 10) e = (σ 10) e ∧ (s 15) e = (σ 15) e ∧ (s 12) e = (σ 12) e ∧ ((σ 14) e ≠ 0 → (s 14) e ≠ 0) ∧ (s 13) e = (σ 13) e ∧ (s 17) e = (σ 17) e) ∧ (RW σ s ∧ UB σ s ∧ ∀ j : Nat, (j : Int) < (σ 0 39).toInt → (s 25) j = (σ 25) j)
section CMP
variable {σ σ1 s S τ t : St} {vs z : List Nat}
theorem olu_ur (k : KXu σ σ1) (u : UR σ1 vs s t z) (hE : (σ 0 36).toInt = Fi σ1) : OLU σ s := by
  obtain ⟨h1, h2, h3, h4, h5, h6, h7, h8, ⟨u1, u2, u3⟩, h10⟩ := u
  have e36 : (σ1 0 36) = (σ 0 36) := k _ _ rfl rfl
  have e17 : (σ1 0 17) = (σ 0 17) := k _ _ rfl rfl
  have e45 : (σ1 0 45) = (σ 0 45) := k _ _ rfl rfl
  have e39 : (σ1 0 39) = (σ 0 39) := k _ _ rfl rfl
  have a : ∀ c, c ≠ 0 → ([2, 3, 4, 5, 6] : List Nat).contains c = false → σ1 c = σ c := fun c c0 q => funext (fun j => k c j (by
    cases e : (([(0, 8), (0, 10), (0, 9), (0, 1), (0, 14), (0, 37), (0, 12), (0, 15), (0, 53), (0, 54), (0, 49)] : List (Nat × Nat)).contains (c, j)) with
    | false => rfl
    | true =>
      have := List.contains_iff_mem.mp e
      simp at this
      omega) q)
  have a8 := a 8 (by decide) rfl
  have a25 := a 25 (by decide) rfl
  refine ⟨fun e he => ?_, fun j hj => by rw [h3 j (by rw [e17]; exact hj), a8], fun b hb => ?_, fun j hj => by rw [h8 j (by rw [e39]; exact hj), a25]⟩
  · obtain ⟨x1, x2, x3, x4, x5⟩ := u1 e (by rw [e36]; exact he)
    obtain ⟨y1, y2⟩ := u3 e (by rw [← hE]; exact he)
    rw [a 9 (by decide) rfl] at x1
    rw [a 10 (by decide) rfl] at x2
    rw [a 15 (by decide) rfl] at x3
    rw [a 12 (by decide) rfl] at x4
    rw [a 14 (by decide) rfl] at x5
    rw [a 13 (by decide) rfl] at y1
    rw [a 17 (by decide) rfl] at y2
    exact ⟨x1, x2, x3, x4, x5, y1, y2⟩
  · obtain ⟨x1, x2, x3, x4, x5, x6⟩ := h10 b (by rw [e45]; exact hb)
    rw [a 26 (by decide) rfl] at x1
    rw [a 27 (by decide) rfl] at x2
    rw [a 28 (by decide) rfl] at x3
    rw [a 29 (by decide) rfl] at x4
    rw [a 30 (by decide) rfl] at x5
    rw [a 54 (by decide) rfl] at x6
    exact ⟨x1, x2, x3, x4, x5, x6⟩
theorem olu_kz (h : OLU σ s) (k : KZu s S) : OLU σ S := by
  obtain ⟨h1, h2, h3, h4⟩ := h
  refine ⟨fun e he => ?_, fun j hj => (k 8 j rfl rfl).trans (h2 j hj), fun b hb => ?_, fun j hj => (k 25 j rfl rfl).trans (h4 j hj)⟩
  · obtain ⟨x1, x2, x3, x4, x5, x6, x7⟩ := h1 e he
    exact ⟨(k 9 e rfl rfl).trans x1, (k 10 e rfl rfl).trans x2, (k 15 e rfl rfl).trans x3, (k 12 e rfl rfl).trans x4, fun q => by rw [k 14 e rfl rfl]; exact x5 q, (k 13 e rfl rfl).trans x6, (k 17 e rfl rfl).trans x7⟩
  · obtain ⟨x1, x2, x3, x4, x5, x6⟩ := h3 b hb
    exact ⟨(k 26 b rfl rfl).trans x1, (k 27 b rfl rfl).trans x2, (k 28 b rfl rfl).trans x3, (k 29 b rfl rfl).trans x4, (k 30 b rfl rfl).trans x5, (k 54 b rfl rfl).trans x6⟩
theorem arg_pa (h : PA s t) (k : KZu s S) : ARG S t := by
  obtain ⟨⟨-, -, -, -, t1, t2, -⟩, -, -, ⟨a1, a2, a3, a4, a5, a6, a7, a8, a9, b1, b2, b3⟩, hV⟩ := h
  have e3 : (S 3) = (s 3) := funext (fun j => k 3 j rfl rfl)
  have e4 : (S 4) = (s 4) := funext (fun j => k 4 j rfl rfl)
  have e34 : (S 34) = (s 34) := funext (fun j => k 34 j rfl rfl)
  have e35 : (S 35) = (s 35) := funext (fun j => k 35 j rfl rfl)
  have e15 : (S 15) = (s 15) := funext (fun j => k 15 j rfl rfl)
  have e18 : (S 18) = (s 18) := funext (fun j => k 18 j rfl rfl)
  have e19 : (S 19) = (s 19) := funext (fun j => k 19 j rfl rfl)
  have e31 : (S 31) = (s 31) := funext (fun j => k 31 j rfl rfl)
  have e10 : (S 10) = (s 10) := funext (fun j => k 10 j rfl rfl)
  have e9 : (S 9) = (s 9) := funext (fun j => k 9 j rfl rfl)
  have e32 : (S 32) = (s 32) := funext (fun j => k 32 j rfl rfl)
  have e16 : (S 16) = (s 16) := funext (fun j => k 16 j rfl rfl)
  have e17 : (S 17) = (s 17) := funext (fun j => k 17 j rfl rfl)
  have e21 : (S 21) = (s 21) := funext (fun j => k 21 j rfl rfl)
  refine ⟨⟨by rw [e3]; exact t1, by rw [e4]; exact t2⟩, by rw [e34]; exact a1, by rw [e35]; exact a2, by rw [e21]; exact a3, by rw [e15]; exact a4, ?_, by rw [e31]; exact a6, by rw [e10]; exact a7, ?_, by rw [e17]; exact b1, by rw [e16]; exact b2, by rw [e32]; exact b3, hV⟩
  · unfold NMo; rw [e18, e19]; exact a5
  · unfold VTy; rw [e9, e10]; exact a8
theorem gi_mk (h : GLI σ τ vs) (old : OLD σ S) (olk : OLK σ S) (arg : ARG S t) (nug : NUG S z) (eng : ENG S) (new : (S 0 35).toInt = (σ 0 35).toInt ∨ ((S 0 35).toInt = (σ 0 35).toInt + 1 ∧ OBJ S (σ 0 35).toNatClampNeg)) (hp : (S 40) = (σ 40) ∧ (S 0 67) = (σ 0 67)) (mis : (S 0 88) = (σ 0 88) ∧ (S 0 91) = (σ 0 91)) : GLI S t z := by
  obtain ⟨h1, h2, h3, h4, h5, h6, h7⟩ := h
  have n := nt h1.2.1.1
  refine ⟨nug, eng, arg, fun o ho => ?_, ?_, lnk_old old olk h2 h4 h6, ?_⟩
  · by_cases c : (o : Int) < (σ 0 35).toInt
    · exact obj_old old h2 h4 c
    · rcases new with q | ⟨q, ob⟩
      · omega
      · have e : o = (σ 0 35).toNatClampNeg := by omega
        rw [e]; exact ob
  · obtain ⟨p1, p2, p3⟩ := h5
    unfold PCK
    rw [hp.1, hp.2]
    have := old.2.2.2.2.2.2
    exact ⟨p1, fun k hk => by have := p2 k hk; omega, p3⟩
  · unfold MIS
    rw [mis.1, mis.2]
    exact h7
theorem good_start (hE : (σ 0 36).toInt = Fi σ) (h0 : 0 ≤ (σ 0 39).toInt) : GOODu σ (σ 0 39).toInt := ⟨⟨h0, 0, by omega, fun j hj => absurd hj (Nat.not_lt_zero _)⟩, fun e e1 e2 => by omega⟩
end CMP
/-! the state in which a unit is read -/
section CMQ
variable {σ σ0 τ : St} {vs : List Nat}
abbrev K0c (σ s : St) : Prop := Kp [(0, 9), (0, 1), (0, 14), (0, 37), (0, 12), (0, 15), (0, 53), (0, 54), (0, 49)] [] σ s
theorem rs0_gi (h : GLI σ τ vs) (hF : (σ 0 2).toInt ≤ 10240) (ho : (σ 0 35).toInt < 100) (k : K0c σ σ0) (e9 : (σ0 0 9) = (σ 0 1)) (e37 : (σ0 0 37) = 0) (e12 : (σ0 0 12) = 0) (e15 : (σ0 0 15) = 0) (e53 : (σ0 0 53) = 0) (e49 : (σ0 0 49) = 0) : RS0 σ0 τ vs ∧ (σ 0 36).toInt = Fi σ0 ∧ Fi σ0 ≤ 100 * (σ 0 35).toInt := by
  obtain ⟨⟨⟨t1, t2⟩, ⟨o1, o2⟩, ⟨n1, n2⟩, ⟨w1, w2⟩, ⟨i1, i2⟩, v1, ⟨b1, b2⟩⟩, ⟨g1, g2, g3, g4⟩, ⟨⟨r1, r2⟩, a1, a2, a3, a4, a5, a6, a7, a8, c1, c2, c3, hV⟩, -⟩ := h
  have a : ∀ c, c ≠ 0 → σ0 c = σ c := fun c c0 => funext (fun j => k c j (by
    cases e : (([(0, 9), (0, 1), (0, 14), (0, 37), (0, 12), (0, 15), (0, 53), (0, 54), (0, 49)] : List (Nat × Nat)).contains (c, j)) with
    | false => rfl
    | true =>
      have := List.contains_iff_mem.mp e
      simp at this
      omega) rfl)
  have f35 : (σ0 0 35) = (σ 0 35) := k _ _ rfl rfl
  have f36 : (σ0 0 36) = (σ 0 36) := k _ _ rfl rfl
  have f17 : (σ0 0 17) = (σ 0 17) := k _ _ rfl rfl
  have f39 : (σ0 0 39) = (σ 0 39) := k _ _ rfl rfl
  have f31 : (σ0 0 31) = (σ 0 31) := k _ _ rfl rfl
  have f45 : (σ0 0 45) = (σ 0 45) := k _ _ rfl rfl
  have z0 : (0 : Int32).toInt = 0 := by decide
  have eF : Fi σ0 = (σ 0 36).toInt := by unfold Fi; rw [f35, a 22 (by decide), ← g1]
  refine ⟨⟨by rw [e9]; exact ⟨t1, t2⟩, ⟨by rw [a 3 (by decide)]; exact r1, by rw [a 4 (by decide)]; exact r2⟩, ⟨⟨by rw [f35]; omega, by rw [eF, f36]; omega, by rw [e53, e49, z0]; decide, by rw [e37, z0]; decide, by rw [f17]; exact w1, by rw [f39]; exact i1, by rw [e15, z0]; decide⟩, ⟨by rw [a 34 (by decide)]; exact a1, by rw [a 35 (by decide)]; exact a2, by rw [a 21 (by decide)]; exact a3, by rw [a 15 (by decide)]; exact a4, ?_, by rw [a 31 (by decide)]; exact a6, by rw [a 10 (by decide)]; exact a7, ?_, fun j hj => ?_, by rw [a 17 (by decide)]; exact c1, by rw [a 16 (by decide)]; exact c2, by rw [a 32 (by decide)]; exact c3⟩, hV⟩, by rw [e15, e12]; exact ⟨z0, z0⟩, by rw [f31, e9]; omega, by rw [f45, e9]; omega, by rw [f17, f39, e9]; omega⟩, eF.symm, by omega⟩
  · unfold NMo; rw [a 18 (by decide), a 19 (by decide)]; exact a5
  · unfold VTy; rw [a 9 (by decide), a 10 (by decide)]; exact a8
  · rw [e53, z0] at hj; omega
end CMQ
