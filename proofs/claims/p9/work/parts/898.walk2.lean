/-! the walk, whole -/
section WK2
variable {σ s z t ρ : St} {g g' g1 : Gh} {X X0 Y : Nat → Prop} {b e e0 e' h h' H H0 H' L L' m n N N' Nb c d p tt j i F F' k B q E hd f : Nat} {K K2 M G D : List Nat} {A : List It} {x y v a op a1 a2 a3 : Int32}
theorem rz_end : ∀ (m j : Nat) (z z' : Zs), RZ σ m j j z z' → z = z'
  | 0, j, z, z' => fun h => h.2
  | m + 1, j, z, z' => fun h => by
    obtain ⟨i1', z1, h1, h2, h3⟩ := h
    have := ws_lt h1
    omega
theorem wd_ge {x3 : Int32} {q i i2 : Nat} (h : (q : Int) - i ≤ x3.toInt) (hi : i + 1 ≤ i2) (c : 0 < x3.toInt) : (q : Int) - i2 ≤ (x3 + (-1 : Int32)).toInt := by
  rw [dc1 (by omega)]
  omega
/-- behind the walk: every function of the unit is finished, and none that is called lacks a body -/
def WDx (ρ s : St) : Prop := WKs ρ s ∧ ((s 6 3).toInt = 0 → ∃ N, UFx s N ∧ N ≤ clen s ∧ (s 6 6).toInt = -1 ∧ clen ρ ≤ N ∧
  ∀ i : Nat, (i : Int) < (s 6 7).toInt → ∀ d : Nat, (d : Int) = (s 5 1).toInt - (s 6 7).toInt + i → FLb ((s 25) d) 2 → 0 ≤ ((s 39) i).toInt → FLb ((s 25) d) 4)
theorem sp_ufinish {Q : St → Prop} (u : UXs s) (k : ∀ s', FAi s s' → ((s' 6 3).toInt = 0 → s' = s ∧ ∀ i : Nat, (i : Int) < (s 6 7).toInt → ∀ d : Nat, (d : Int) = (s 5 1).toInt - (s 6 7).toInt + i → FLb ((s 25) d) 2 → 0 ≤ ((s 39) i).toInt → FLb ((s 25) d) 4) → Q s') : wk_X11_finish s Q := by
  obtain ⟨u1, u2, u3, u4, u5⟩ := u
  unfold wk_X11_finish
  refine ⟨fun n x1 x2 => n = ((s 6 7).toInt - x2.toInt).toNat ∧ 0 ≤ x2.toInt ∧ (x1.toInt < 0 → ∀ i : Nat, (i : Int) < x2.toInt → ∀ d : Nat, (d : Int) = (s 5 1).toInt - (s 6 7).toInt + i → FLb ((s 25) d) 2 → 0 ≤ ((s 39) i).toInt → FLb ((s 25) d) 4), ⟨_, rfl, by decide, fun _ i hi => absurd hi (by show ¬ (i : Int) < 0; omega)⟩, ?_⟩
  rintro n x1 x2 ⟨hn, h0, hv⟩
  refine ⟨fun c => ⟨fun c1 => k s fa_rf (fun _ => ⟨rfl, fun i hi => hv c1 i (by omega)⟩), fun _ => fa_fail (by decide) (fun t ft fz => k t ft (fun z => absurd z fz))⟩, fun c => ?_⟩
  obtain ⟨i, hi⟩ : ∃ i : Nat, x2.toInt = i := ⟨x2.toInt.toNat, by omega⟩
  have e1 : ((s 5 1) - (s 6 7)).toInt = (s 5 1).toInt - (s 6 7).toInt := sb (by omega) (by omega)
  have e2 : (((s 5 1) - (s 6 7)) + x2).toInt = (s 5 1).toInt - (s 6 7).toInt + i := by rw [ad (by omega) (by omega), e1, hi]
  obtain ⟨d, hd⟩ : ∃ d : Nat, (s 5 1).toInt - (s 6 7).toInt + i = (d : Int) := ⟨((s 5 1).toInt - (s 6 7).toInt + i).toNat, by omega⟩
  have ed : (((s 5 1) - (s 6 7)) + x2).toInt = (d : Int) := by rw [e2, hd]
  have af : atv 10100 (s 25) (((s 5 1) - (s 6 7)) + x2) = s 25 d := atv_at ed (by omega)
  have at39 : atv 100 (s 39) x2 = s 39 i := atv_at hi (by omega)
  have up : (x2 + 1).toInt = x2.toInt + 1 := ad1 (by omega)
  -- what the next turn wants, when this one lacks nothing
  have nxt : ∀ x1' : Int32, (x1'.toInt < 0 → (FLb (s 25 d) 2 → 0 ≤ (s 39 i).toInt → FLb (s 25 d) 4) ∧ x1.toInt < 0) → ∃ m, m < n ∧ (m = ((s 6 7).toInt - (x2 + 1).toInt).toNat ∧ 0 ≤ (x2 + 1).toInt ∧ (x1'.toInt < 0 → ∀ i : Nat, (i : Int) < (x2 + 1).toInt → ∀ d : Nat, (d : Int) = (s 5 1).toInt - (s 6 7).toInt + i → FLb ((s 25) d) 2 → 0 ≤ ((s 39) i).toInt → FLb ((s 25) d) 4)) := fun x1' hx => by
    refine ⟨_, ?_, rfl, by rw [up]; omega, fun c1 j hj d' hd' => ?_⟩
    · rw [up]
      clear hx hv
      omega
    · rw [up] at hj
      obtain ⟨q1, q2⟩ := hx c1
      by_cases cj : j = i
      · subst cj
        have : d' = d := by clear hx hv q1; omega
        rw [this]
        exact q1
      · exact hv q2 j (by clear hx hv q1; omega) d' hd'
  refine is_all (fun v43 n43 y43 _ => ?_)
  rw [af] at n43 y43
  refine ⟨fun y => y.toInt = 0 → FLb (s 25 d) 2 → FLb (s 25 d) 4, fun y66 _ hy => ?_, (FLb (s 25 d) 2 → FLb (s 25 d) 4), fun hJ _ => hJ, fun c0 q => absurd q (n43 c0), fun _ => is_all (fun v55 n55 y55 _ => ?_)⟩
  · refine ⟨fun x1' => x1'.toInt < 0 → (FLb (s 25 d) 2 → 0 ≤ (s 39 i).toInt → FLb (s 25 d) 4) ∧ x1.toInt < 0, fun x1' hx => nxt x1' hx, fun c0 c1 => ⟨fun q1 _ => hy c0 q1, c1⟩, fun _ => ⟨fun ct c1 => ⟨fun _ q2 => ?_, c1⟩, fun ct => ?_⟩⟩
    · rw [at39] at ct
      omega
    · refine ⟨True, fun _ c1 => ?_, fun _ => trivial, fun cx => ⟨fun _ c1 => absurd c1 (by omega), fun _ => trivial⟩⟩
      omega
  · rw [af] at n55 y55
    exact ⟨fun c5 _ => y55 c5, fun _ e => absurd e (by decide)⟩
/-- the walk over a unit -/
theorem sp_walk {Q : St → Prop} (rd : RDk σ) (sz : (σ 2 1).toInt ≤ 16000) (nm : NMr σ) (pl : PLA σ) (by' : ByteOK (σ 1)) (hd : 0 ≤ (σ 5 1).toInt ∧ (σ 5 1).toInt ≤ 10000) (l0 : 0 ≤ (σ 4 1).toInt) (lb : (σ 4 1).toInt + 4 * (σ 2 1).toInt ≤ 262144) (hn : 0 ≤ (σ 5 7).toInt ∧ (σ 5 7).toInt + (σ 2 1).toInt ≤ 65600) (hnm : NME σ) (fx : ∀ j, FLb ((σ 25) j) 1 → spar ((σ 27) j) ≤ 8) (k : ∀ ρ s, Kp [(6, 2), (6, 3), (6, 4), (6, 5), (6, 7), (6, 6), (6, 10), (6, 15), (6, 17), (8, 6), (8, 8), (7, 7), (9, 5)] [] σ ρ → (ρ 6 7).toInt = 0 → WDx ρ s → ((s 6 3).toInt = 0 → (clen s : Int) ≤ (σ 4 1).toInt + 4 * (σ 2 1).toInt ∧ (s 5 7).toInt ≤ (σ 5 7).toInt + (σ 2 1).toInt) → Q s) : wk_X7_walk x σ Q := by
  obtain ⟨⟨g0, g1'⟩, ⟨m0, rz⟩, cs, ns⟩ := rd
  unfold wk_X7_walk wk_X11_begin wk_X11_leave wk_X1_begin
  dsimp only
  generalize hρ : upC (upC (upC (upC (upC (upC (upC (upC (upC (upC (upC (upC (upC σ 6 2 x) 6 3 (0 : Int32)) 6 4 ((-1) : Int32)) 6 5 (0 : Int32)) 6 7 (0 : Int32)) 6 6 ((-1) : Int32)) 6 10 (0 : Int32)) 6 15 (0 : Int32)) 6 17 (0 : Int32)) 8 6 ((-1) : Int32)) 8 8 (0 : Int32)) 7 7 (0 : Int32)) 9 5 (0 : Int32) = ρ
  have kρ : Kp [(6, 2), (6, 3), (6, 4), (6, 5), (6, 7), (6, 6), (6, 10), (6, 15), (6, 17), (8, 6), (8, 8), (7, 7), (9, 5)] [] σ ρ := by
    rw [← hρ]
    exact kp_f (kp_f (kp_f (kp_f (kp_f (kp_f (kp_f (kp_f (kp_f (kp_f (kp_f (kp_f (kp_f kp_rf rfl) rfl) rfl) rfl) rfl) rfl) rfl) rfl) rfl) rfl) rfl) rfl) rfl
  have r3 : ρ 6 3 = 0 := by rw [← hρ]; rfl
  have r7 : ρ 6 7 = 0 := by rw [← hρ]; rfl
  have r6 : ρ 6 6 = -1 := by rw [← hρ]; rfl
  have r15 : ρ 6 15 = 0 := by rw [← hρ]; rfl
  have r77 : ρ 7 7 = 0 := by rw [← hρ]; rfl
  have r95 : ρ 9 5 = 0 := by rw [← hρ]; rfl
  have e34 : ρ 3 4 = σ 3 4 := kρ 3 4 rfl rfl
  have row : ∀ c, c ≠ 6 → c ≠ 7 → c ≠ 8 → c ≠ 9 → ρ c = σ c := fun c c6 c7 c8 c9 => by
    rw [← hρ, rdC_ne c9, rdC_ne c7, rdC_ne c8, rdC_ne c8, rdC_ne c6, rdC_ne c6, rdC_ne c6, rdC_ne c6, rdC_ne c6, rdC_ne c6, rdC_ne c6, rdC_ne c6, rdC_ne c6]
  have ecn : cn ρ = cn σ := by unfold cn; rw [e34]
  have cnl := cn_eq g0
  have rl : ρ 4 1 = σ 4 1 := by rw [row 4 (by decide) (by decide) (by decide) (by decide)]
  have ecl : clen ρ = clen σ := by unfold clen; rw [rl]
  have c0 := clen_eq l0
  have smz : ∀ q, SameZ σ ρ q := fun q => ⟨⟨by rw [row 18 (by decide) (by decide) (by decide) (by decide)], by rw [row 19 (by decide) (by decide) (by decide) (by decide)]⟩, by rw [row 20 (by decide) (by decide) (by decide) (by decide)], fun _ => by rw [row 21 (by decide) (by decide) (by decide) (by decide)]⟩
  have e13 : (ρ 13) = (σ 13) := row 13 (by decide) (by decide) (by decide) (by decide)
  have e14 : (ρ 14) = (σ 14) := row 14 (by decide) (by decide) (by decide) (by decide)
  have e15 : (ρ 15) = (σ 15) := row 15 (by decide) (by decide) (by decide) (by decide)
  have ecs : csum ρ (cn ρ - 0) 0 = csum σ (cn σ) 0 := by rw [ecn]; exact csum_same e14 _ _ (fun j _ _ => (smz j).1)
  have ens : nsum ρ (cn ρ - 0) 0 = nsum σ (cn σ) 0 := by rw [ecn]; exact nsum_same e14 _ _ (fun j _ _ => (smz j).1)
  have dρ : (ρ 5 1).toInt = (σ 5 1).toInt := by rw [row 5 (by decide) (by decide) (by decide) (by decide)]
  have nρ : (ρ 5 7).toInt = (σ 5 7).toInt := by rw [row 5 (by decide) (by decide) (by decide) (by decide)]
  have o0 : (ρ 6 7).toInt = 0 := by rw [r7]; rfl
  have wk0 : WKs ρ ρ := ⟨ko_rf, ⟨by unfold PLA; rw [e15]; exact pl, by rw [o0]; exact ⟨Int.le_refl _, by decide⟩, by rw [o0, dρ]; exact ⟨hd.1, by omega⟩, by rw [r15]; exact ⟨by decide, by decide⟩, fun j q => by rw [row 27 (by decide) (by decide) (by decide) (by decide)]; rw [row 25 (by decide) (by decide) (by decide) (by decide)] at q; exact fx j q⟩, ⟨by rw [o0]; omega, fun d _ => ⟨rfl, rfl, rfl, rfl, rfl, rfl, rfl, id⟩, fun _ _ => rfl, Nat.le_refl _⟩, by rw [rl]; exact l0, nme_k (by rw [row 5 (by decide) (by decide) (by decide) (by decide)]) (by rw [row 5 (by decide) (by decide) (by decide) (by decide)]) (fun d => by rw [row 29 (by decide) (by decide) (by decide) (by decide)]) ⟨hn.1, hnm⟩⟩
  obtain ⟨gg, sb0⟩ := sb_fresh (s := ρ) (K := []) (by rw [r77]; rfl) (by rw [rl]; exact l0) (by rw [r95]; rfl) (Or.inl rfl)
  have wl0 : WLx ρ ρ ((σ 4 1).toInt + 4 * (σ 2 1).toInt) ((σ 5 7).toInt + (σ 2 1).toInt) 0 z0 := fun _ => by
    refine ⟨clen ρ, clen ρ, clen ρ, 0, gg, _, ⟨⟨Nat.le_refl _, Nat.le_refl _, Nat.le_refl _⟩, se_nil sb0, fun d h1 h2 => ?_, by decide, trivial, fun _ => ⟨by rw [r6]; rfl, Or.inl rfl⟩, fun z => absurd z (by decide), fun z => absurd z (by rintro ⟨c1, K1, q, -⟩; cases q)⟩, ?_, ?_, Nat.le_refl _, by decide⟩
    · rw [o0] at h1
      omega
    · show (clen ρ : Int) + 2 * (0 : Nat) + _ ≤ _
      rw [ecs, ecl]
      omega
    · rw [ens, nρ]
      omega
  rw [show (upC (upC (upC (upC (upC (upC (upC (upC (upC (upC (upC σ 6 2 x) 6 3 (0 : Int32)) 6 4 ((-1) : Int32)) 6 5 (0 : Int32)) 6 7 (0 : Int32)) 6 6 ((-1) : Int32)) 6 10 (0 : Int32)) 6 15 (0 : Int32)) 6 17 (0 : Int32)) 8 6 ((-1) : Int32)) 8 8 (0 : Int32)) 3 4 = σ 3 4 from rfl]
  refine ⟨fun n x2 x3 s => ∃ (i m : Nat) (z : Zs), x2.toInt = i ∧ i ≤ cn ρ ∧ n = x3.toInt.toNat ∧ (cn ρ : Int) - i ≤ x3.toInt ∧ RZ ρ m i (cn ρ) z z0 ∧ WKs ρ s ∧ WLx ρ s ((σ 4 1).toInt + 4 * (σ 2 1).toInt) ((σ 5 7).toInt + (σ 2 1).toInt) i z, ⟨_, 0, m0, z0, rfl, Nat.zero_le _, rfl, by rw [ecn]; omega, by rw [ecn]; exact rz_same e13 _ _ _ _ _ (fun q _ _ => smz q) rz, wk0, wl0⟩, ?_⟩
  rintro n x2 x3 s ⟨i, m, z, hx, hi, hn', h3, rz2, wk, wl⟩
  have s34 : s 3 4 = ρ 3 4 := wk.1 3 4 (op_lt (by decide)) rfl rfl
  have stop : ((s 6 3).toInt = 0 → i = cn ρ) → wk_X11_finish s (fun s180 => Q s180) := fun hend => by
    refine sp_ufinish wk.2.1 (fun s' fs hv => ?_)
    have ql := fa_l fs
    have e4 : s' 4 1 = s 4 1 := fs.1 4 1 rfl rfl
    have ecs' : clen s' = clen s := by unfold clen; rw [e4]
    have wk' : WKs ρ s' := kl_wk wk ql (by rw [show s' 6 15 = s 6 15 from fs.1 6 15 rfl rfl]; exact wk.2.1.2.2.2.1) (fun j _ => fs.1 24 j rfl rfl) (by rw [ecs']; exact wk.2.2.1.2.2.2) (by rw [e4]; exact wk.2.2.2.1)
    have all : (s' 6 3).toInt = 0 → ∃ Nb b e0 H0 g X, WSx ρ s 0 [] [] Nb b e0 H0 g X ∧ (clen s : Int) ≤ (σ 4 1).toInt + 4 * (σ 2 1).toInt ∧ (s 5 7).toInt ≤ (σ 5 7).toInt + (σ 2 1).toInt := fun f => by
      have f0 := fs.2 f
      have ie := hend f0
      subst ie
      have ez := rz_end _ _ _ _ rz2
      subst ez
      obtain ⟨Nb, b, e0, H0, g, X, q1, q2, q3, -⟩ := wl f0
      rw [Nat.sub_self] at q2 q3
      have q2' : (clen s : Int) + 2 * (0 : Nat) + (0 : Nat) ≤ (σ 4 1).toInt + 4 * (σ 2 1).toInt := q2
      have q3' : (s 5 7).toInt + (0 : Nat) ≤ (σ 5 7).toInt + (σ 2 1).toInt := q3
      exact ⟨Nb, b, e0, H0, g, X, q1, by omega, by omega⟩
    refine k ρ s' kρ o0 ⟨wk', fun f => ?_⟩ (fun f => ?_)
    · obtain ⟨Nb, b, e0, H0, g, X, q1, q2, q3⟩ := all f
      obtain ⟨es, hv2⟩ := hv f
      clear all hv
      subst es
      have e0c := se_e0 q1.2.1
      exact ⟨Nb, q1.2.2.1, by have := q1.1; omega, (q1.2.2.2.2.2.1 rfl).1, q1.1.1, hv2⟩
    · obtain ⟨Nb, b, e0, H0, g, X, q1, q2, q3⟩ := all f
      obtain ⟨es, -⟩ := hv f
      clear all hv
      subst es
      exact ⟨q2, q3⟩
  refine ⟨(s 6 3).toInt = 0 → i = cn ρ, stop, fun c _ => by omega, fun c => ⟨fun c2 _ => ?_, fun c2 => ⟨fun c3 z' => absurd z' c3, fun hf => ?_⟩⟩⟩
  · rw [s34, e34] at c2
    omega
  · rw [s34, e34] at c2
    cases m with
    | zero =>
      exfalso
      have := rz2.1
      omega
    | succ m =>
      obtain ⟨i2, z2, w1, w2, w3⟩ := rz2
      have lt := ws_lt w1
      have goal : ∀ s', WKs ρ s' → WLx ρ s' ((σ 4 1).toInt + 4 * (σ 2 1).toInt) ((σ 5 7).toInt + (σ 2 1).toInt) i2 z2 → ∀ x2' : Int32, x2'.toInt + 1 = i2 → ∃ mm, mm < n ∧ ∃ (i m : Nat) (z : Zs), (x2' + 1).toInt = i ∧ i ≤ cn ρ ∧ mm = (x3 + (-1)).toInt.toNat ∧ (cn ρ : Int) - i ≤ (x3 + (-1)).toInt ∧ RZ ρ m i (cn ρ) z z0 ∧ WKs ρ s' ∧ WLx ρ s' ((σ 4 1).toInt + 4 * (σ 2 1).toInt) ((σ 5 7).toInt + (σ 2 1).toInt) i z := fun s' k1 k2 x2' hx2 => by
        have hx3 : (x2' + 1).toInt = i2 := by rw [ad1 (by omega)]; omega
        exact ⟨_, dn_lt hn' c, i2, m, z2, hx3, w2, rfl, wd_ge h3 (by omega) c, w3, k1, k2⟩
      exact ⟨fun x2' s' => x2'.toInt + 1 = i2 ∧ WKs ρ s' ∧ WLx ρ s' ((σ 4 1).toInt + 4 * (σ 2 1).toInt) ((σ 5 7).toInt + (σ 2 1).toInt) i2 z2, fun x2' s' q => goal s' q.2.1 q.2.2 x2' q.1, ws_turn (Q := fun x2' s' => x2'.toInt + 1 = i2 ∧ WKs ρ s' ∧ WLx ρ s' ((σ 4 1).toInt + 4 * (σ 2 1).toInt) ((σ 5 7).toInt + (σ 2 1).toInt) i2 z2) (by unfold NMr; rw [e13, e14, e15]; exact nm) (by rw [row 1 (by decide) (by decide) (by decide) (by decide)]; exact by') (by rw [dρ]; exact hd.2) (by omega) (by omega) wk wl hf hx (by rw [ecn]; omega) (by omega) w1 w2 (fun x' s' q0 q1 q2 => ⟨q0, q1, q2⟩)⟩
end WK2
