/-! compile(), both sides: what is declared stays alike -/
abbrev KRx (σ s : St) : Prop := Kp [(0, 8), (0, 9), (0, 1), (0, 10), (0, 12), (0, 13), (0, 14), (0, 15), (0, 17), (0, 37), (0, 39), (0, 49), (0, 53), (0, 54), (0, 57), (0, 58), (0, 59), (0, 60), (0, 36), (0, 31), (0, 45), (0, 64), (0, 65), (0, 55), (0, 56)] [2, 3, 4, 5, 6, 8, 25, 33, 14, 21, 34, 35, 36, 31, 32, 9, 10, 11, 12, 13, 15, 16, 17, 18, 19, 20, 26, 27, 28, 29, 30, 54, 37, 38, 39] σ s
def OLe (σ s : St) : Prop := ∀ e : Nat, (e : Int) < (σ 0 36).toInt → s 9 e = σ 9 e ∧ s 10 e = σ 10 e ∧ s 12 e = σ 12 e ∧ s 13 e = σ 13 e ∧ s 15 e = σ 15 e
def CMPx (a : Int32) (σ s : St) : Prop := ((a.toInt < 0 ∨ 3 < a.toInt ∨ (σ 0 35).toInt = 100) ∧ s = upC (upC (upC σ 0 9 (σ 0 1)) 0 1 (0 : Int32)) 0 14 ((-1) : Int32)) ∨ ((0 ≤ a.toInt ∧ a.toInt ≤ 3 ∧ (σ 0 35).toInt ≠ 100) ∧ ∃ (lo : Nat) (σ0 s1 : St) (v1 : Int32), S0q lo σ0 ∧ (σ 0 36).toInt = (lo : Int) ∧ σ0 0 31 = σ 0 31 ∧ σ0 1 = σ 1 ∧ RDq (σ 1) (σ 0 1).toInt lo σ0 v1 s1 ∧ KRx σ s1 ∧ OLe σ s1 ∧ ((v1.toInt = 0 ∧ s = upC (upC (upC (upC s1 23 (s1 0 35).toNatClampNeg (s1 0 37)) 0 35 ((s1 0 35) + (1 : Int32))) 22 ((s1 0 35) + (1 : Int32)).toNatClampNeg (s1 0 36)) 24 ((s1 0 35) + (1 : Int32)).toNatClampNeg (s1 0 39)) ∨ (v1.toInt ≠ 0 ∧ s = upC (upC (upC (upC (upC s1 0 17 (σ 0 17)) 0 31 (σ 0 31)) 0 45 (σ 0 45)) 0 39 (σ 0 39)) 0 36 (s1 22 (s1 0 35).toNatClampNeg))))
/-- what is declared, alike on both sides -/
def RLe (w σ : St) : Prop := (∀ k : Nat, (k : Int) ≤ (w 5 13).toInt → (w 34 k).toInt = (σ 22 k).toInt + 4) ∧ (∀ k : Nat, (k : Int) < (w 5 13).toInt → (w 37 (k + 1)).toInt = (σ 23 k).toInt) ∧ ∀ e : Nat, (e : Int) < (σ 0 36).toInt → (FLq w (e + 4) 1 ↔ (σ 9 e).toInt ≠ 1) ∧ (FLq w (e + 4) 2 ↔ (σ 12 e).toInt ≠ 0) ∧ (FLq w (e + 4) 4 ↔ (σ 13 e).toInt ≠ 0) ∧ ((σ 9 e).toInt = 1 ∨ (σ 9 e).toInt = 2)
section CPX
variable {w σ s s' σ0 σ1 τ t : St} {vs z : List Nat} {a : Int32} {o : Nat}
theorem ole_of (h : (σ 0 36).toInt = Fi σ1) (k : Kp [(0, 8), (0, 9), (0, 1), (0, 10), (0, 12), (0, 14), (0, 15), (0, 37), (0, 49), (0, 53), (0, 54)] [2, 3, 4, 5, 6] σ σ1) (u : UE σ1 s) : OLe σ s := fun e he => by
  obtain ⟨u1, _, u3⟩ := u
  have e36 : σ1 0 36 = σ 0 36 := k 0 36 rfl rfl
  obtain ⟨x9, x10, x15, x12, _⟩ := u1 e (by rw [e36]; exact he)
  obtain ⟨x13, _⟩ := u3 e (by rw [← h]; exact he)
  exact ⟨x9.trans (k 9 e rfl rfl), x10.trans (k 10 e rfl rfl), x12.trans (k 12 e rfl rfl), x13.trans (k 13 e rfl rfl), x15.trans (k 15 e rfl rfl)⟩
theorem rd_frx (h : RS0 σ0 τ vs) (k0 : K0c σ σ0) (hF : (σ 0 36).toInt = Fi σ0) : wp_read_0 σ0 τ vs (fun _ s _ _ => KRx σ s ∧ OLe σ s) := by
  have eF : ∀ σ1, KR σ0 σ1 → (σ 0 36).toInt = Fi σ1 := fun σ1 kr => by
    rw [hF]
    unfold Fi
    rw [show σ1 0 35 = σ0 0 35 from kr 0 35 rfl rfl, show σ1 22 = σ0 22 from funext (fun j => kr 22 j rfl rfl)]
  refine sp_read0 h (fun σ1 s t z hP kr il _ _ => ⟨kp_tr (kp_sub k0 rfl rfl) (kp_tr (kp_sub kr rfl rfl) (kp_sub il.1.1 rfl rfl)), ole_of (eF σ1 kr) (kp_tr (kp_sub k0 rfl rfl) (kp_sub kr rfl rfl)) il.1.2.2.2.2.2.2.2.2.1⟩) (fun v σ1 s t z hv hP kr ut => ?_)
  obtain ⟨⟨s0, u1, hs⟩, -⟩ := ut
  have k1 : KRx σ s0 := kp_tr (kp_sub k0 rfl rfl) (kp_tr (kp_sub kr rfl rfl) (kp_sub u1.1 rfl rfl))
  have o1 : OLe σ s0 := ole_of (eF σ1 kr) (kp_tr (kp_sub k0 rfl rfl) (kp_sub kr rfl rfl)) u1.2.2.2.2.2.2.2.2.1
  rw [hs]
  refine ⟨kp_f k1 rfl, fun e he => ?_⟩
  rw [rdC_ne (by decide), rdC_ne (by decide), rdC_ne (by decide), rdC_ne (by decide), rdC_ne (by decide)]
  exact o1 e he
theorem es_compilex {Q : Int32 → St → St → List Nat → Prop} (h : GLI σ τ vs) (hF : (σ 0 2).toInt ≤ 10240) (hB : ∀ j, -128 ≤ (σ 1 j).toInt ∧ (σ 1 j).toInt ≤ 127) (kk : ∀ v s t z, CMPx a σ s → Q v s t z) : pp_compile a σ τ vs Q := by
  have h9 := h
  obtain ⟨⟨⟨t1, t2⟩, ⟨o1, o2⟩, ⟨n1, n2⟩, -⟩, hE, hA, -⟩ := h9
  unfold pp_compile
  refine ⟨fun c => kk _ _ _ _ (Or.inl ⟨Or.inl c, rfl⟩), fun c0 => ⟨fun c => kk _ _ _ _ (Or.inl ⟨Or.inr (Or.inl c), rfl⟩), fun c3 => ⟨fun ho _ _ => ?_, fun c => kk _ _ _ _ (Or.inl ⟨Or.inr (Or.inr c), rfl⟩)⟩⟩⟩
  have ho' : (σ 0 35).toInt < 100 := by omega
  generalize h0 : (upC (upC (upC (upC (upC (upC (upC (upC (upC (upC (upC σ 0 9 (σ 0 1)) 0 1 (0 : Int32)) 0 14 ((-1) : Int32)) 22 (σ 0 35).toNatClampNeg (σ 0 36)) 24 (σ 0 35).toNatClampNeg (σ 0 39)) 0 37 (0 : Int32)) 0 12 (0 : Int32)) 0 15 (0 : Int32)) 0 53 (0 : Int32)) 0 54 (0 : Int32)) 0 49 (0 : Int32)) = σ0
  have k0 : K0c σ σ0 := by
    have ka : Kp [(0, 9), (0, 1), (0, 14), (0, 37), (0, 12), (0, 15), (0, 53), (0, 54), (0, 49)] [22, 24] σ σ0 := by
      rw [← h0]
      exact kp_f (kp_f (kp_f (kp_f (kp_f (kp_f (kp_a (kp_a (kp_f (kp_f (kp_f kp_rf rfl) rfl) rfl) rfl) rfl) rfl) rfl) rfl) rfl) rfl) rfl
    intro c j q1 q2
    by_cases c22 : c = 22
    · subst c22
      rw [← h0]
      simp only [rdC, Nat.reduceEqDiff, if_true, if_false]
      by_cases e : j = (σ 0 35).toNatClampNeg
      · rw [if_pos e, e]; exact hE.1
      · rw [if_neg e]
    · by_cases c24 : c = 24
      · subst c24
        rw [← h0]
        simp only [rdC, Nat.reduceEqDiff, if_true, if_false]
        by_cases e : j = (σ 0 35).toNatClampNeg
        · rw [if_pos e, e]; exact hE.2.1
        · rw [if_neg e]
      · refine ka c j q1 ?_
        simp
        exact ⟨c22, c24⟩
  have z9 : σ0 0 9 = σ 0 1 := by rw [← h0]; rfl
  have z37 : σ0 0 37 = 0 := by rw [← h0]; rfl
  have z12 : σ0 0 12 = 0 := by rw [← h0]; rfl
  have z15 : σ0 0 15 = 0 := by rw [← h0]; rfl
  have z53 : σ0 0 53 = 0 := by rw [← h0]; rfl
  have z54 : σ0 0 54 = 0 := by rw [← h0]; rfl
  have z49 : σ0 0 49 = 0 := by rw [← h0]; rfl
  obtain ⟨rs, eFi, -⟩ := rs0_gi (σ0 := σ0) h hF ho' k0 z9 z37 z12 z15 z53 z49
  clear h0
  have y : ∀ c, c ≠ 0 → σ0 c = σ c := fun c c0 => funext (fun j => k0 c j (by
    simp only [List.contains_cons, List.contains_nil, Bool.or_false, Bool.or_eq_false_iff, beq_eq_false_iff_ne, ne_eq, Prod.mk.injEq, not_and]
    omega) rfl)
  have f35 : σ0 0 35 = σ 0 35 := k0 0 35 rfl rfl
  have f36 : σ0 0 36 = σ 0 36 := k0 0 36 rfl rfl
  have f31 : σ0 0 31 = σ 0 31 := k0 0 31 rfl rfl
  obtain ⟨g1, g2, g3, g4⟩ := hE
  obtain ⟨-, -, a35, -, -, -, a31, a10, -⟩ := hA
  have eL : (σ 0 36).toInt = (((σ 0 36).toInt.toNat : Nat) : Int) := by omega
  generalize (σ 0 36).toInt.toNat = lo at eL
  have hS : S0q lo σ0 := by
    refine ⟨by rw [z53]; rfl, by rw [z54]; rfl, by rw [z49]; rfl, by rw [z15]; rfl, by rw [z12]; rfl, by rw [z37]; rfl, ⟨?_, by rw [f36]; exact eL, Nat.le_refl _, by omega, fun e h1 h2 => absurd h2 (Nat.not_lt.mpr h1), by rw [f31]; omega, by rw [f31]; omega, fun e h1 h2 => absurd h2 (Nat.not_lt.mpr h1)⟩, fun j => ?_, fun j => ?_, fun j => ?_⟩
    · rw [f35, y 22 (by decide), ← g1]; exact eL
    · rw [y 31 (by decide)]; exact a31 j
    · rw [y 10 (by decide)]; have := a10 j; omega
    · rw [y 35 (by decide)]; have := a35 j; omega
  have fr : wp_read_0 σ0 τ vs (fun v s _ _ => (v = 0 ∨ v.toInt < 0) ∧ KRx σ s ∧ OLe σ s) := mg_wp_read_0 (fun v s t z p q => ⟨p.1, q⟩) (rd_fr rs) (wl_wp_read_0 (fun v s t z p => p) (rd_frx rs k0 eFi))
  refine cj_wp_read_0 (fun v s t z p1 p2 => ?_) (wl_wp_read_0 (fun v s t z p => p) fr) (es_read (Q := fun v s _ _ => RDq (σ 1) (σ 0 1).toInt lo σ0 v s) (f := σ 1) (N := (σ 0 1).toInt) (σ := σ0) (y 1 (by decide)) hB (by rw [z9]) t1 t2 hS (fun v s t z hr => hr))
  obtain ⟨hv, kx, ol⟩ := p1
  refine ⟨fun c _ _ _ => kk _ _ _ _ (Or.inr ⟨⟨c0, c3, ho⟩, lo, σ0, s, v, hS, eL, f31, y 1 (by decide), p2, kx, ol, Or.inl ⟨?_, rfl⟩⟩), fun c _ => kk _ _ _ _ (Or.inr ⟨⟨c0, c3, ho⟩, lo, σ0, s, v, hS, eL, f31, y 1 (by decide), p2, kx, ol, Or.inr ⟨by omega, rfl⟩⟩)⟩
  rcases hv with h | h
  · rw [h]; rfl
  · omega
end CPX
