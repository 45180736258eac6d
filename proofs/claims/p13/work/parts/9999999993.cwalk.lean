/-! the class's walk over a unit's table, alike -/
/-- the rows of one -/
def flr (o : Nat) (x : Gsq) : List Stq := if x.1.1 = 40 then [(40, x.1.2.1, (o : Int) + 1 + (x.2.length : Int), 0)] ++ x.2 ++ [stp 41 x.1.2.1] else [x.1]
section CWA
variable {σ s z t ρ w r : St} {g : List Gsq} {x : Gsq} {l : List Gsq} {o i : Nat} {L pre : List Stq} {B : Prop}
theorem fl_cons : fltq o (x :: l) = flr o x ++ fltq (o + (flr o x).length) l := by
  unfold flr
  rw [fltq]
  by_cases c : x.1.1 = 40
  · rw [if_pos c, if_pos c]
    rw [show ([((40 : Int), x.1.2.1, (o : Int) + 1 + (x.2.length : Int), (0 : Int))] ++ x.2 ++ [stp 41 x.1.2.1]).length = x.2.length + 2 from by simp only [List.length_append, List.length_cons, List.length_nil]; omega]
    rw [show o + (x.2.length + 2) = o + x.2.length + 2 from by omega]
  · rw [if_neg c, if_neg c]
    rfl
theorem flr_pos : 1 ≤ (flr o x).length := by
  unfold flr
  by_cases c : x.1.1 = 40
  · rw [if_pos c]
    simp only [List.length_append, List.length_cons, List.length_nil]
    omega
  · rw [if_neg c]
    exact Nat.le_refl 1
theorem flr_40 (c : x.1.1 = 40) : flr o x = [((40 : Int), x.1.2.1, (o : Int) + 1 + (x.2.length : Int), (0 : Int))] ++ x.2 ++ [stp 41 x.1.2.1] := if_pos c
theorem flr_1 (c : x.1.1 ≠ 40) : flr o x = [x.1] := if_neg c
theorem tb_at (tb : TBL σ L) {y : Stq} (h : L[i]? = some y) : (σ 18 i).toInt = y.1 ∧ (σ 19 i).toInt = (y.2.1 : Int) ∧ (σ 20 i).toInt = y.2.2.1 ∧ (σ 21 i).toInt = y.2.2.2 := tb.2 i y.1 y.2.1 y.2.2.1 y.2.2.2 h
theorem ap_at {a b : List Stq} {j : Nat} {y : Stq} (h : b[j]? = some y) : (a ++ b)[a.length + j]? = some y := by
  rw [List.getElem?_append_right (Nat.le_add_right _ _), Nat.add_sub_cancel_left]
  exact h
theorem ap_lt {a b : List Stq} {j : Nat} {y : Stq} (h : a[j]? = some y) : (a ++ b)[j]? = some y := by
  have hj := (List.getElem?_eq_some_iff.mp h).1
  rw [List.getElem?_append_left hj]
  exact h
/-- the row at i, and those of a size behind it -/
theorem row_at (tb : TBL σ L) (hL : L = pre ++ fltq pre.length (x :: l)) : (x.1.1 ≠ 40 → (σ 18 pre.length).toInt = x.1.1 ∧ (σ 19 pre.length).toInt = (x.1.2.1 : Int) ∧ (σ 20 pre.length).toInt = x.1.2.2.1 ∧ (σ 21 pre.length).toInt = x.1.2.2.2) ∧ (x.1.1 = 40 → (σ 18 pre.length).toInt = 40 ∧ (σ 20 pre.length).toInt = (pre.length : Int) + 1 + (x.2.length : Int) ∧ ∀ j y, x.2[j]? = some y → (σ 18 (pre.length + 1 + j)).toInt = y.1 ∧ (σ 19 (pre.length + 1 + j)).toInt = (y.2.1 : Int) ∧ (σ 20 (pre.length + 1 + j)).toInt = y.2.2.1) := by
  rw [fl_cons] at hL
  refine ⟨fun c => ?_, fun c => ?_⟩
  · rw [flr_1 c] at hL
    refine tb_at tb (i := pre.length) ?_
    rw [hL]
    exact ap_at (j := 0) (ap_lt rfl)
  · rw [flr_40 c] at hL
    have h0 := tb_at tb (i := pre.length) (y := ((40 : Int), x.1.2.1, (pre.length : Int) + 1 + (x.2.length : Int), (0 : Int))) (by rw [hL]; exact ap_at (j := 0) (ap_lt (ap_lt (ap_lt rfl))))
    refine ⟨h0.1, h0.2.2.1, fun j y hj => ?_⟩
    have h1 := tb_at tb (i := pre.length + 1 + j) (y := y) (by
      rw [hL, Nat.add_assoc]
      exact ap_at (j := 1 + j) (ap_lt (ap_lt (ap_at (a := [((40 : Int), x.1.2.1, (pre.length : Int) + 1 + (x.2.length : Int), (0 : Int))]) hj))))
    exact ⟨h1.1, h1.2.1, h1.2.2.1⟩
theorem cw_walk {Q : St → Prop} {a : Int32} (rd : RDk σ) (sz : (σ 2 1).toInt ≤ 16000) (nm : NMr σ) (pl : PLA σ) (by' : ByteOK (σ 1)) (hd : 0 ≤ (σ 5 1).toInt ∧ (σ 5 1).toInt ≤ 10000) (l0 : 0 ≤ (σ 4 1).toInt) (lb : (σ 4 1).toInt + 4 * (σ 2 1).toInt ≤ 262144) (hn : 0 ≤ (σ 5 7).toInt ∧ (σ 5 7).toInt + (σ 2 1).toInt ≤ 65600) (hnm : NME σ) (fx : ∀ j, FLb ((σ 25) j) 1 → spar ((σ 27) j) ≤ 8) (tb : TBL σ (fltq 0 g))
    (hG : ∀ ρ, Kp [(6, 2), (6, 3), (6, 4), (6, 5), (6, 7), (6, 6), (6, 10), (6, 15), (6, 17), (8, 6), (8, 8), (7, 7), (9, 5)] [] σ ρ → (ρ 6 3).toInt = 0 → (ρ 6 5).toInt = 0 → (ρ 6 7).toInt = 0 → (ρ 6 6).toInt = -1 → (ρ 6 15).toInt = 0 → (ρ 8 6).toInt = -1 → (ρ 7 7).toInt = 0 → (ρ 9 5).toInt = 0 → GWq g ρ (fun r => pk_X11_finish r Q) B) (hB : B → ∀ r, (r 6 3).toInt ≠ 0 → Q r) : pk_X7_walk a σ Q := by
  obtain ⟨⟨g0, g1'⟩, ⟨m0, rz⟩, cs, ns⟩ := rd
  unfold pk_X7_walk pk_X11_begin pk_X11_leave pk_X1_begin
  dsimp only
  generalize hρ : upC (upC (upC (upC (upC (upC (upC (upC (upC (upC (upC (upC (upC σ 6 2 a) 6 3 (0 : Int32)) 6 4 ((-1) : Int32)) 6 5 (0 : Int32)) 6 7 (0 : Int32)) 6 6 ((-1) : Int32)) 6 10 (0 : Int32)) 6 15 (0 : Int32)) 6 17 (0 : Int32)) 8 6 ((-1) : Int32)) 8 8 (0 : Int32)) 7 7 (0 : Int32)) 9 5 (0 : Int32) = ρ
  have kρ : Kp [(6, 2), (6, 3), (6, 4), (6, 5), (6, 7), (6, 6), (6, 10), (6, 15), (6, 17), (8, 6), (8, 8), (7, 7), (9, 5)] [] σ ρ := by
    rw [← hρ]
    exact kp_f (kp_f (kp_f (kp_f (kp_f (kp_f (kp_f (kp_f (kp_f (kp_f (kp_f (kp_f (kp_f kp_rf rfl) rfl) rfl) rfl) rfl) rfl) rfl) rfl) rfl) rfl) rfl) rfl) rfl
  have r3 : ρ 6 3 = 0 := by rw [← hρ]; rfl
  have r5 : ρ 6 5 = 0 := by rw [← hρ]; rfl
  have r7 : ρ 6 7 = 0 := by rw [← hρ]; rfl
  have r6 : ρ 6 6 = -1 := by rw [← hρ]; rfl
  have r15 : ρ 6 15 = 0 := by rw [← hρ]; rfl
  have r86 : ρ 8 6 = -1 := by rw [← hρ]; rfl
  have r77 : ρ 7 7 = 0 := by rw [← hρ]; rfl
  have r95 : ρ 9 5 = 0 := by rw [← hρ]; rfl
  have e34 : ρ 3 4 = σ 3 4 := kρ 3 4 rfl rfl
  have row : ∀ c, c ≠ 6 → c ≠ 7 → c ≠ 8 → c ≠ 9 → ρ c = σ c := fun c c6 c7 c8 c9 => by
    rw [← hρ, rdC_ne c9, rdC_ne c7, rdC_ne c8, rdC_ne c8, rdC_ne c6, rdC_ne c6, rdC_ne c6, rdC_ne c6, rdC_ne c6, rdC_ne c6, rdC_ne c6, rdC_ne c6, rdC_ne c6]
  have ecn : cn ρ = cn σ := by unfold cn; rw [e34]
  have cnl := cn_eq g0
  have rl : ρ 4 1 = σ 4 1 := by rw [row 4 (by decide) (by decide) (by decide) (by decide)]
  have ecl : clen ρ = clen σ := by unfold clen; rw [rl]
  have c0 := clen_eq l0
  have smz : ∀ q, SameZ σ ρ q := fun q => ⟨⟨by rw [row 18 (by decide) (by decide) (by decide) (by decide)], by rw [row 19 (by decide) (by decide) (by decide) (by decide)]⟩, by rw [row 20 (by decide) (by decide) (by decide) (by decide)], fun _ => by rw [row 21 (by decide) (by decide) (by decide) (by decide)]⟩
  have e13 : (ρ 13) = (σ 13) := row 13 (by decide) (by decide) (by decide) (by decide)
  have e14 : (ρ 14) = (σ 14) := row 14 (by decide) (by decide) (by decide) (by decide)
  have e15 : (ρ 15) = (σ 15) := row 15 (by decide) (by decide) (by decide) (by decide)
  have ecs : csum ρ (cn ρ - 0) 0 = csum σ (cn σ) 0 := by rw [ecn]; exact csum_same e14 _ _ (fun j _ _ => (smz j).1)
  have ens : nsum ρ (cn ρ - 0) 0 = nsum σ (cn σ) 0 := by rw [ecn]; exact nsum_same e14 _ _ (fun j _ _ => (smz j).1)
  have dρ : (ρ 5 1).toInt = (σ 5 1).toInt := by rw [row 5 (by decide) (by decide) (by decide) (by decide)]
  have nρ : (ρ 5 7).toInt = (σ 5 7).toInt := by rw [row 5 (by decide) (by decide) (by decide) (by decide)]
  have o0 : (ρ 6 7).toInt = 0 := by rw [r7]; rfl
  have wk0 : WKs ρ ρ := ⟨ko_rf, ⟨by unfold PLA; rw [e15]; exact pl, by rw [o0]; exact ⟨Int.le_refl _, by decide⟩, by rw [o0, dρ]; exact ⟨hd.1, by omega⟩, by rw [r15]; exact ⟨by decide, by decide⟩, fun j q => by rw [row 27 (by decide) (by decide) (by decide) (by decide)]; rw [row 25 (by decide) (by decide) (by decide) (by decide)] at q; exact fx j q⟩, ⟨by rw [o0]; omega, fun d _ => ⟨rfl, rfl, rfl, rfl, rfl, rfl, rfl, id⟩, fun _ _ => rfl, Nat.le_refl _⟩, by rw [rl]; exact l0, nme_k (by rw [row 5 (by decide) (by decide) (by decide) (by decide)]) (by rw [row 5 (by decide) (by decide) (by decide) (by decide)]) (fun d => by rw [row 29 (by decide) (by decide) (by decide) (by decide)]) ⟨hn.1, hnm⟩⟩
  obtain ⟨gg, sb0⟩ := sb_fresh (s := ρ) (K := []) (by rw [r77]; rfl) (by rw [rl]; exact l0) (by rw [r95]; rfl) (Or.inl rfl)
  have wl0 : WLx ρ ρ ((σ 4 1).toInt + 4 * (σ 2 1).toInt) ((σ 5 7).toInt + (σ 2 1).toInt) 0 z0 := fun _ => by
    refine ⟨clen ρ, clen ρ, clen ρ, 0, gg, _, ⟨⟨Nat.le_refl _, Nat.le_refl _, Nat.le_refl _⟩, se_nil sb0, fun d h1 h2 => ?_, by decide, trivial, fun _ => ⟨by rw [r6]; rfl, Or.inl rfl⟩, fun z => absurd z (by decide), fun z => absurd z (by rintro ⟨c1, K1, q, -⟩; cases q)⟩, ?_, ?_, Nat.le_refl _, by decide⟩
    · rw [o0] at h1
      omega
    · show (clen ρ : Int) + 2 * (0 : Nat) + _ ≤ _
      rw [ecs, ecl]
      omega
    · rw [ens, nρ]
      omega
  have tbρ : TBL ρ (fltq 0 g) := by
    refine ⟨by rw [e34]; exact tb.1, ?_⟩
    rw [row 18 (by decide) (by decide) (by decide) (by decide), row 19 (by decide) (by decide) (by decide) (by decide), row 20 (by decide) (by decide) (by decide) (by decide), row 21 (by decide) (by decide) (by decide) (by decide)]
    exact tb.2
  have hlen : (fltq 0 g).length = cn ρ := by
    have := tb.1
    rw [ecn]
    omega
  have gw0 := hG ρ kρ (by rw [r3]; rfl) (by rw [r5]; rfl) (by rw [r7]; rfl) (by rw [r6]; rfl) (by rw [r15]; rfl) (by rw [r86]; rfl) (by rw [r77]; rfl) (by rw [r95]; rfl)
  rw [show (upC (upC (upC (upC (upC (upC (upC (upC (upC (upC (upC σ 6 2 a) 6 3 (0 : Int32)) 6 4 ((-1) : Int32)) 6 5 (0 : Int32)) 6 7 (0 : Int32)) 6 6 ((-1) : Int32)) 6 10 (0 : Int32)) 6 15 (0 : Int32)) 6 17 (0 : Int32)) 8 6 ((-1) : Int32)) 8 8 (0 : Int32)) 3 4 = σ 3 4 from rfl]
  clear hρ
  refine ⟨fun x2 x3 s => ∃ (pre : List Stq) (m : Nat) (z : Zs) (l : List Gsq), x2.toInt = (pre.length : Int) ∧ pre.length ≤ cn ρ ∧ (cn ρ : Int) - pre.length ≤ x3.toInt ∧ RZ ρ m pre.length (cn ρ) z z0 ∧ WKs ρ s ∧ WLx ρ s ((σ 4 1).toInt + 4 * (σ 2 1).toInt) ((σ 5 7).toInt + (σ 2 1).toInt) pre.length z ∧ fltq 0 g = pre ++ fltq pre.length l ∧ GWq l s (fun r => pk_X11_finish r Q) B, ⟨[], m0, z0, g, rfl, Nat.zero_le _, ?_, ?_, wk0, wl0, rfl, gw0⟩, ?_⟩
  · rw [ecn]
    show (cn σ : Int) - ((0 : Nat) : Int) ≤ _
    omega
  · rw [ecn]; exact rz_same e13 _ _ _ _ _ (fun q _ _ => smz q) rz
  rintro x2 x3 s ⟨pre, m, z, l, hx, hi, h3, rz2, wk, wl, hpl, gw⟩
  have s34 : s 3 4 = ρ 3 4 := wk.1 3 4 (op_lt (by decide)) rfl rfl
  have hl2 : pre.length + (fltq pre.length l).length = cn ρ := by rw [← hlen, hpl, List.length_append]
  have stop : ((s 6 3).toInt = 0 → pre.length = cn ρ) → pk_X11_finish s (fun s180 => Q s180) := fun hend => by
    cases l with
    | nil => exact gw
    | cons x l' =>
      by_cases c : (s 6 3).toInt = 0
      · exfalso
        have h1 := hend c
        rw [fl_cons, List.length_append] at hl2
        have := flr_pos (o := pre.length) (x := x)
        omega
      · exact xf_finish_bad c (hB (gw.2 c) s c)
  refine ⟨(s 6 3).toInt = 0 → pre.length = cn ρ, stop, fun c _ => by omega, fun c => ⟨fun c2 _ => ?_, fun c2 => ⟨fun c3 z' => absurd z' c3, fun hf => ?_⟩⟩⟩
  · rw [s34, e34] at c2
    omega
  rw [s34, e34] at c2
  cases m with
  | zero =>
    exfalso
    have := rz2.1
    omega
  | succ m =>
    obtain ⟨i2, z2, w1, w2, w3⟩ := rz2
    have lt := ws_lt w1
    cases l with
    | nil =>
      exfalso
      have : pre.length + 0 = cn ρ := hl2
      omega
    | cons x l' =>
      obtain ⟨e13', e14', e15', e18, e19, e20, e21, _, _⟩ := kwk_g wk.1
      have hi3 : pre.length < 32100 := by omega
      have a18 : atv 32100 (s 18) x2 = (ρ 18) pre.length := by rw [e18]; exact atv_at hx hi3
      have a19 : atv 32100 (s 19) x2 = (ρ 19) pre.length := by rw [e19]; exact atv_at hx hi3
      have a20 : atv 32100 (s 20) x2 = (ρ 20) pre.length := by rw [e20]; exact atv_at hx hi3
      have a21 : atv 32100 (s 21) x2 = (ρ 21) pre.length := by rw [e21]; exact atv_at hx hi3
      obtain ⟨ra, rb⟩ := row_at tbρ hpl
      have hpl2 : fltq 0 g = (pre ++ flr pre.length x) ++ fltq (pre ++ flr pre.length x).length l' := by rw [hpl, fl_cons, List.append_assoc, List.length_append]
      -- where the next one stands
      have ei : (pre ++ flr pre.length x).length = i2 := by
        rw [List.length_append]
        by_cases c40 : x.1.1 = 40
        · obtain ⟨b1, b2, _⟩ := rb c40
          have : (flr pre.length x).length = x.2.length + 2 := by rw [flr_40 c40]; simp only [List.length_append, List.length_cons, List.length_nil]; omega
          have act : act ρ pre.length = 40 := b1
          rcases w1 with ⟨_, q2, _⟩ | ⟨_, q2, _⟩ | ⟨_, _, q3, _⟩
          · omega
          · have := dz_rng q2; omega
          · omega
        · obtain ⟨b1, _⟩ := ra c40
          have : (flr pre.length x).length = 1 := by rw [flr_1 c40]; rfl
          have act : act ρ pre.length = x.1.1 := b1
          rcases w1 with ⟨q1, _⟩ | ⟨q1, _⟩ | ⟨q1, _⟩
          · omega
          · omega
          · exact absurd (act.symm.trans q1) c40
      have W := ws_turn (Q := fun x2' s' => x2'.toInt + 1 = i2 ∧ WKs ρ s' ∧ WLx ρ s' ((σ 4 1).toInt + 4 * (σ 2 1).toInt) ((σ 5 7).toInt + (σ 2 1).toInt) i2 z2) (by unfold NMr; rw [e13, e14, e15]; exact nm) (by rw [row 1 (by decide) (by decide) (by decide) (by decide)]; exact by') (by rw [dρ]; exact hd.2) (by omega) (by omega) wk wl hf hx (by rw [ecn]; omega) (by omega) w1 w2 (fun x' s' q0 q1 q2 => ⟨q0, q1, q2⟩)
      have g1 := gw.1 hf
      refine ⟨fun x2' s' => (x2'.toInt + 1 = i2 ∧ WKs ρ s' ∧ WLx ρ s' ((σ 4 1).toInt + 4 * (σ 2 1).toInt) ((σ 5 7).toInt + (σ 2 1).toInt) i2 z2) ∧ GWq l' s' (fun r => pk_X11_finish r Q) B, fun x2' s' q => ?_, ?_⟩
      · obtain ⟨⟨q1, q2, q3⟩, q4⟩ := q
        have hx3 : (x2' + 1).toInt = i2 := by rw [ad1 (by omega)]; omega
        refine ⟨pre ++ flr pre.length x, m, z2, l', by rw [ei]; exact hx3, by rw [ei]; exact w2, by rw [ei]; exact wd_ge h3 (by omega) c, by rw [ei]; exact w3, q2, by rw [ei]; exact q3, hpl2, q4⟩
      · by_cases c40 : x.1.1 = 40
        · rw [if_pos c40] at g1
          obtain ⟨b1, b2, b3⟩ := rb c40
          refine ⟨fun c20 => ⟨fun c40' => ⟨fun cc => ?_, fun cc => absurd (by rw [a18]; exact b1) cc⟩, fun c40' => by rw [a18, b1] at c40'; omega⟩, fun c20 => by rw [a18, b1] at c20; omega⟩
          refine cj_wk_X7_constant (fun v s' h1 h2 => ⟨h1, h2⟩) (wl_wk_X7_constant (fun v s' h => h) (((W.1 c20).1 c40').1 cc)) ?_
          have x1 : (x2 + (1 : Int32)).toInt = (pre.length : Int) + 1 := by rw [ad1 (by omega), hx]
          have hle : pre.length + (x.2.length + 2) ≤ cn ρ := by
            have e2 : (flr pre.length x).length = x.2.length + 2 := by rw [flr_40 c40]; simp only [List.length_append, List.length_cons, List.length_nil]; omega
            rw [fl_cons, List.length_append, e2] at hl2
            omega
          refine g1 (x2 + (1 : Int32)) (atv 32100 (s 20) x2) (by omega) (by rw [a20, b2, x1]) (by rw [a20, b2]; omega) (fun j y hj => ?_)
          · have e : (x2 + (1 : Int32)).toInt.toNat + j = pre.length + 1 + j := by omega
            rw [e, e18, e19, e20]
            exact b3 j y hj
        · rw [if_neg c40] at g1
          obtain ⟨b1, b2, b3, b4⟩ := ra c40
          by_cases c2 : x.1.1 < 20
          · rw [if_pos c2] at g1
            refine ⟨fun c20 => by rw [a18, b1] at c20; omega, fun c20 => ?_⟩
            exact cj_wk_X2_take (fun s' h1 h2 => ⟨h1, h2⟩) (wl_wk_X2_take (fun s' h => h) (W.2 c20)) (g1 x2 (by rw [a18]; exact b1) (by rw [a19]; exact b2) (by rw [a20]; exact b3))
          · rw [if_neg c2] at g1
            by_cases c4 : x.1.1 < 40
            · rw [if_pos c4] at g1
              refine ⟨fun c20 => ⟨fun c40' => by rw [a18, b1] at c40'; omega, fun c40' => ?_⟩, fun c20 => by rw [a18, b1] at c20; omega⟩
              exact cj_wk_X7_take (fun s' h1 h2 => ⟨h1, h2⟩) (wl_wk_X7_take (fun s' h => h) ((W.1 c20).2 c40')) (g1 x2 _ (by rw [a18]; exact b1) (by rw [a19]; exact b2) (by rw [a20]; exact b3))
            · rw [if_neg c4] at g1
              refine ⟨fun c20 => ⟨fun c40' => ⟨fun cc => by rw [a18, b1] at cc; exact absurd cc c40, fun cc => ?_⟩, fun c40' => by rw [a18, b1] at c40'; omega⟩, fun c20 => by rw [a18, b1] at c20; omega⟩
              exact cj_wk_X1_take (fun s' h1 h2 => ⟨h1, h2⟩) (wl_wk_X1_take (fun s' h => h) (((W.1 c20).1 c40').2 cc)) (g1 x2 _ (by rw [a18]; exact b1) (by rw [a19]; exact b2) (by rw [a20]; exact b3) (by rw [a21]; exact b4))
end CWA
