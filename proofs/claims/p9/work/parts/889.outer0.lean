/-! the walk: declarations outside of functions -/
/-- entries of names' tokens, all of them -/
def NMr (σ : St) : Prop := ∀ j : Nat, ((σ 13) j).toInt = 2 → 0 ≤ ((σ 14) j).toInt ∧ ((σ 15) j).toInt + ((σ 14) j).toInt ≤ 16000
abbrev KUx (a b : St) : Prop := Kp [(6, 3), (6, 4), (6, 5), (6, 7), (5, 1), (5, 7), (8, 6), (8, 7), (8, 8), (8, 9), (8, 10), (8, 11), (8, 12), (8, 13), (8, 14), (8, 15), (8, 16)] [25, 26, 27, 28, 29, 30, 38, 39] a b
/-- one declaration of the unit changes, or comes -/
def DVx (σ s : St) (d : Nat) : Prop := KUx σ s ∧ ((s 5 1).toInt - (s 6 7).toInt = (σ 5 1).toInt - (σ 6 7).toInt ∧ 0 ≤ (s 6 7).toInt ∧ (s 6 7).toInt ≤ 100 ∧ (s 5 1).toInt ≤ 10100) ∧ ((σ 5 1).toInt - (σ 6 7).toInt ≤ d ∧ (d : Int) < (s 5 1).toInt) ∧
  (∀ j : Nat, j ≠ d → (s 25) j = (σ 25) j ∧ (s 26) j = (σ 26) j ∧ (s 27) j = (σ 27) j ∧ (s 28) j = (σ 28) j ∧ (s 29) j = (σ 29) j) ∧
  (∀ i : Nat, (i : Int) < (σ 6 7).toInt → (s 39) i = (σ 39) i) ∧ ((σ 5 1).toInt ≤ (s 5 1).toInt ∧ ∀ j : Nat, (σ 5 1).toInt ≤ j → (j : Int) < (s 5 1).toInt → j = d) ∧ (0 ≤ (s 5 7).toInt ∧ (NME σ → NME s))
/-- calls of it stay calls -/
def DCa (σ s : St) (d : Nat) : Prop := (d : Int) < (σ 5 1).toInt → ¬ FLb ((σ 25) d) 1 ∨ ((s 27) d = (σ 27) d ∧ FLb ((s 25) d) 1 ∧ (FLb ((σ 25) d) 8 → FLb ((s 25) d) 8))
section OU0
variable {σ s z t ρ : St} {g g' g1 : Gh} {X X0 Y : Nat → Prop} {b e e0 e' h h' H H0 H' L L' m n N N' Nb c d p tt j i F F' k B : Nat} {K K2 M E G D : List Nat} {A : List It} {x y v a op a1 a2 a3 : Int32}
theorem cp_dv (hv : DVx σ s d) (hd : DCa σ s d) : ∀ a m, CPu σ a m → CPu s a m := fun a m ⟨h1, h2, h3, h4, h5⟩ => by
  obtain ⟨k1, ⟨u1, u2, u3, u4⟩, ⟨d1, d2⟩, d3, d4, ⟨d5, d6⟩, d7⟩ := hv
  obtain ⟨c1, c2, c3, c4⟩ := h1
  have eq : (s 5 1).toInt - (s 6 7).toInt = (σ 5 1).toInt - (σ 6 7).toInt := u1
  obtain ⟨j, hj⟩ : ∃ j : Nat, a.toNat = j := ⟨_, rfl⟩
  have ct : (s 39) (a - ((s 5 1).toInt - (s 6 7).toInt)).toNat = (σ 39) (a - ((σ 5 1).toInt - (σ 6 7).toInt)).toNat := by
    rw [eq]
    exact d4 _ (by omega)
  refine ⟨⟨by omega, by omega, c3, c4⟩, ?_, ?_, by rw [ct]; exact h4, ?_⟩
  all_goals
    by_cases e : a.toNat = d
    · rw [e] at h2 h3 h5 ⊢
      rcases hd (by omega) with q | ⟨q1, q2, q3⟩
      · exact absurd h2 q
      · first
        | exact q2
        | exact q3 h3
        | (rw [q1]; exact h5)
    · obtain ⟨r1, r2, r3, r4, r5⟩ := d3 _ e
      first
      | (rw [r1]; exact h2)
      | (rw [r1]; exact h3)
      | (rw [r3]; exact h5)
theorem uf_dv (hv : DVx σ s d) (hd : DCa σ s d) (hσ : (σ 6 6).toInt = -1) (hw : ∀ j, j < N → (s 24) j = (σ 24) j) (hq : FLb ((s 25) d) 1 → FLb ((s 25) d) 4 → (s 6 6).toInt ≠ d → ∃ hd L g, ((s 28) d).toInt = (hd : Nat) ∧ FUNe (s 24) (CPu s) N hd (spar ((s 27) d)) L g) (h : UFx σ N) : UFx s N := fun d' q1 q2 q3 q4 q5 => by
  by_cases e : d' = d
  · subst e
    exact hq q3 q4 q5
  · obtain ⟨k1, ⟨u1, u2, u3, u4⟩, ⟨d1, d2⟩, d3, d4, ⟨d5, d6⟩, d7⟩ := hv
    obtain ⟨r1, r2, r3, r4, r5⟩ := d3 d' e
    rw [r1] at q3 q4
    have lt : (d' : Int) < (σ 5 1).toInt := by
      by_cases c : (d' : Int) < (σ 5 1).toInt
      · exact c
      · exact absurd (d6 d' (by omega) q2) e
    obtain ⟨hd', L, g, a1, a2⟩ := h d' (by omega) lt q3 q4 (by rw [hσ]; omega)
    exact ⟨hd', L, g, by rw [r4]; exact a1, by rw [r3]; exact fune_mono hw (cp_dv ⟨k1, ⟨u1, u2, u3, u4⟩, ⟨d1, d2⟩, d3, d4, ⟨d5, d6⟩, d7⟩ hd) (Nat.le_refl _) a2⟩
theorem wk_dv (h : WKs ρ σ) (hv : DVx σ s d) (k : KWk σ s) (hx : FLb ((s 25) d) 1 → spar ((s 27) d) ≤ 8) (hs : (s 6 15).toInt ≤ 1000 ∧ -1000 ≤ (s 6 15).toInt) (hw : ∀ j, j < clen ρ → (s 24) j = (σ 24) j) (hl : clen ρ ≤ clen s) (h0 : 0 ≤ (s 4 1).toInt) : WKs ρ s := by
  obtain ⟨h1, ⟨u1, u2, u3, u4, u5⟩, ⟨o1, o2, o3, o4⟩, h4, h5⟩ := h
  obtain ⟨k1, ⟨v1, v2, v3, v4⟩, ⟨d1, d2⟩, d3, d4, ⟨d5, d6⟩, d7⟩ := hv
  have e5 : (s 15) = (σ 15) := funext (fun j => k 15 j (op_lt (by decide)) rfl rfl)
  refine ⟨ko_tr h1 k, ⟨by unfold PLA; rw [e5]; exact u1, ⟨v2, v3⟩, ⟨by omega, v4⟩, hs, fun j q => ?_⟩, ⟨by omega, fun j hj => ?_, fun j hj => (hw j hj).trans (o3 j hj), hl⟩, h0, d7.1, d7.2 h5.2⟩
  · by_cases e : j = d
    · rw [e] at q ⊢
      exact hx q
    · obtain ⟨r1, r2, r3, r4, r5⟩ := d3 j e
      rw [r1] at q
      rw [r3]
      exact u5 j q
  · obtain ⟨r1, r2, r3, r4, r5⟩ := d3 j (by omega)
    rw [r1, r2, r3, r4, r5]
    exact o2 j hj
/-- one more declaration -/
theorem sp_declareOuter {Q : Int32 → St → Prop} (nm : NMr σ) (by' : ByteOK (σ 1)) (pl : PLA σ) (tk : tkx σ a1 = 2) (hd : 0 ≤ (σ 5 1).toInt ∧ (σ 5 1).toInt < 10100) (ho : 0 ≤ (σ 6 7).toInt ∧ (σ 6 7).toInt < 100) (hn : 0 ≤ (σ 5 7).toInt ∧ (σ 5 7).toInt + (vlx σ a1).toNat ≤ 65600) (k : ∀ (s : St) (v : Int32) (d : Nat), v.toInt = (d : Int) → (σ 5 1).toInt = d → Kp [(6, 7), (5, 1), (5, 7)] [25, 28, 29, 30, 38, 39] σ s → (s 6 7).toInt = (σ 6 7).toInt + 1 → (s 5 1).toInt = (σ 5 1).toInt + 1 → (s 5 7).toInt = (σ 5 7).toInt + (vlx σ a1).toNat → (∀ j : Nat, j ≠ d → (s 25) j = (σ 25) j ∧ (s 28) j = (σ 28) j ∧ (s 29) j = (σ 29) j) → (s 25) d = 0 → (∀ i : Nat, (i : Int) < (σ 6 7).toInt → (s 39) i = (σ 39) i) → (((s 29) d).toInt = (s 5 7).toInt ∧ (s 5 7).toInt ≤ 65600) → Q v s) : wk_X11_declareOuter a1 σ Q := by
  obtain ⟨j, hj, hjn, hk⟩ : ∃ j : Nat, a1.toInt = j ∧ j < 16002 ∧ ((σ 13) j).toInt = 2 := by
    unfold tkx at tk
    rcases atv_cases 16002 (σ 13) a1 with ⟨q1, q2⟩ | ⟨j, q1, q2, q3⟩
    · rw [q1] at tk
      exact absurd tk (by decide)
    · exact ⟨j, q1, q2, by rw [← q3]; exact tk⟩
  have ev : atv 16002 (σ 14) a1 = (σ 14) j := atv_at hj hjn
  have ep : atv 16002 (σ 15) a1 = (σ 15) j := atv_at hj hjn
  have vx : vlx σ a1 = ((σ 14) j).toInt := by unfold vlx; rw [ev]
  rw [vx] at hn k
  obtain ⟨n1, n2⟩ := nm j hk
  obtain ⟨p1, p2⟩ := pl j
  obtain ⟨d, ed⟩ : ∃ d : Nat, (σ 5 1).toInt = d := ⟨(σ 5 1).toInt.toNat, by omega⟩
  obtain ⟨o, eo⟩ : ∃ o : Nat, (σ 6 7).toInt = o := ⟨(σ 6 7).toInt.toNat, by omega⟩
  have dn : ((σ 5 1)).toNatClampNeg = d := by rw [nt', ed]; rfl
  unfold wk_X11_declareOuter
  rw [ep, ev, setv_at (v := ((-1) : Int32)) eo (by omega)]
  generalize hu : upC (upF (upF σ 38 (setv 100 (σ 38) (σ 6 7) a1)) 39 _) 6 7 ((σ 6 7) + (1 : Int32)) = u
  have u5 : ∀ q, u 5 q = σ 5 q := fun q => by rw [← hu, rdC_ne (by decide), rdF_ne (by decide), rdF_ne (by decide)]
  have u1 : u 1 = σ 1 := by rw [← hu, rdC_ne (by decide), rdF_ne (by decide), rdF_ne (by decide)]
  have u25 : u 25 = σ 25 := by rw [← hu, rdC_ne (by decide), rdF_ne (by decide), rdF_ne (by decide)]
  have u28 : u 28 = σ 28 := by rw [← hu, rdC_ne (by decide), rdF_ne (by decide), rdF_ne (by decide)]
  have u29 : u 29 = σ 29 := by rw [← hu, rdC_ne (by decide), rdF_ne (by decide), rdF_ne (by decide)]
  have u39 : u 39 = fun i => if i = o then ((-1) : Int32) else σ 39 i := by rw [← hu, rdC_ne (by decide), rdF_eq]; rfl
  have u67 : (u 6 7).toInt = (σ 6 7).toInt + 1 := by
    rw [← hu, rdA_eq rfl]
    show ((σ 6 7) + (1 : Int32)).toInt = _
    exact ad0 i1 (by omega) (by omega)
  have ku : Kp [(6, 7)] [38, 39] σ u := by
    rw [← hu]
    exact kp_f (kp_F (kp_F kp_rf rfl) rfl) rfl
  unfold wk_X8_declare_r1
  rw [u5 1, u5 7, u1, dn]
  have s1 : (((σ 15) j) + ((σ 14) j)).toInt = ((σ 15) j).toInt + ((σ 14) j).toInt := ad (by omega) (by omega)
  have s2 : ((σ 5 7) + ((σ 14) j)).toInt = (σ 5 7).toInt + ((σ 14) j).toInt := ad (by omega) (by omega)
  refine ⟨fun c => by omega, fun _ => ⟨fun c => by omega, fun _ => ⟨fun c => by omega, fun _ => ⟨fun c => by omega, fun _ => ⟨fun _ => ⟨⟨by omega, by omega, by omega, by omega, by omega, by'⟩, ⟨⟨by omega, by omega⟩, ?_⟩⟩, fun c => by omega⟩⟩⟩⟩⟩
  refine k _ _ d ed ed (kp_F (kp_F (kp_f (kp_a (kp_f (kp_F (kp_sub ku rfl rfl) rfl) rfl) rfl) rfl) rfl) rfl) ?_ ?_ ?_ (fun i hi => ⟨?_, ?_, ?_⟩) ?_ (fun i hi => ?_) ?_
  · rw [rdF_ne (by decide), rdF_ne (by decide), rdC_ne (by decide), rdC_ne (by decide), rdC_ne (by decide), rdF_ne (by decide)]
    exact u67
  · rw [rdF_ne (by decide), rdF_ne (by decide), rdA_eq rfl]
    exact ad0 i1 (by omega) (by omega)
  · rw [rdF_ne (by decide), rdF_ne (by decide), rdA_ne (by decide), rdC_ne (by decide), rdA_eq rfl, s2]
    omega
  · rw [rdF_ne (by decide), rdF_eq, setv_at ed (by omega)]
    show (if i = d then (0 : Int32) else _) = _
    rw [if_neg hi, rdC_ne (by decide), rdC_ne (by decide), rdC_ne (by decide), rdF_ne (by decide), u25]
  · rw [rdF_eq, setv_at ed (by omega)]
    show (if i = d then (0 : Int32) else _) = _
    rw [if_neg hi, rdF_ne (by decide), rdC_ne (by decide), rdC_ne (by decide), rdC_ne (by decide), rdF_ne (by decide), u28]
  · rw [rdF_ne (by decide), rdF_ne (by decide), rdC_ne (by decide), rdA_ne hi, rdC_ne (by decide), rdF_ne (by decide), u29]
  · rw [rdF_ne (by decide), rdF_eq, setv_at ed (by omega)]
    exact if_pos rfl
  · rw [rdF_ne (by decide), rdF_ne (by decide), rdC_ne (by decide), rdC_ne (by decide), rdC_ne (by decide), rdF_ne (by decide), u39]
    show (if i = o then ((-1) : Int32) else σ 39 i) = _
    rw [if_neg (by omega)]
  · rw [rdF_ne (by decide), rdF_ne (by decide), rdC_ne (by decide), rdA_eq rfl, rdF_ne (by decide), rdF_ne (by decide), rdA_ne (by decide), rdC_ne (by decide), rdA_eq rfl]
    exact ⟨rfl, by rw [s2]; omega⟩
end OU0
