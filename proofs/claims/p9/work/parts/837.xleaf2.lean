/-! steps of an expression: a number, a function's name -/
/-- what a unit keeps while it is compiled -/
def UXs (σ : St) : Prop := PLA σ ∧ (0 ≤ (σ 6 7).toInt ∧ (σ 6 7).toInt ≤ 100) ∧ ((σ 6 7).toInt ≤ (σ 5 1).toInt ∧ (σ 5 1).toInt ≤ 10100) ∧ ((σ 6 15).toInt ≤ 1000 ∧ -1000 ≤ (σ 6 15).toInt) ∧ (∀ j, FLb ((σ 25) j) 1 → spar ((σ 27) j) ≤ 8)
section XL2
variable {σ s t : St} {g g' : Gh} {CP CP' : Int → Nat → Prop} {X0 X Xs : Nat → Prop} {b e0 H0 L e H H' n q s0 Hs : Nat} {A B S : List It} {it : It} {x y : Int32}
theorem uxs_k (k : KXE σ s) (m : MKs σ s) (h : UXs σ) : UXs s := by
  have e1 : (s 5 1) = (σ 5 1) := k 5 1 (op_lt (by decide)) rfl rfl
  have e2 : (s 6 7) = (σ 6 7) := k 6 7 (op_lt (by decide)) rfl rfl
  have e3 : (s 27) = (σ 27) := funext (fun j => k 27 j (op_lt (by decide)) rfl rfl)
  have e4 : (s 6 15) = (σ 6 15) := k 6 15 (op_lt (by decide)) rfl rfl
  have e5 : (s 15) = (σ 15) := funext (fun j => k 15 j (op_lt (by decide)) rfl rfl)
  obtain ⟨h1, h2, h3, h4, h5⟩ := h
  exact ⟨by unfold PLA; rw [e5]; exact h1, by rw [e2]; exact h2, by rw [e1, e2]; exact h3, by rw [e4]; exact h4, fun j q => by rw [e3]; exact h5 j ((flb1 m).mp q)⟩
theorem psh_k (p : PSH σ s n) : KXE σ s := ko_sub p.1 rfl rfl
theorem ro_mks (h : RO q σ s) (hq : q ≠ 25) (hq2 : q ≠ 39) : MKs σ s := mks_eq (funext (fun j => h 25 j (Ne.symm hq))) (funext (fun j => h 39 j (Ne.symm hq2)))
theorem psh_rows (p : PSH σ s n) : (s 24) = (σ 24) ∧ (s 4 1) = (σ 4 1) ∧ (s 25) = (σ 25) ∧ (s 39) = (σ 39) ∧ (s 6 3) = (σ 6 3) :=
  ⟨funext (fun j => p.1 24 j (op_lt (by decide)) rfl rfl), p.1 4 1 (op_lt (by decide)) rfl rfl, funext (fun j => p.1 25 j (op_lt (by decide)) rfl rfl), funext (fun j => p.1 39 j (op_lt (by decide)) rfl rfl), p.1 6 3 (op_lt (by decide)) rfl rfl⟩
theorem xs_number {Q : St → Prop} (h : XC σ g X0 b e0 H0 L A) (cap : (σ 4 1).toInt ≤ 262150) (hA : A.length < 500) (k : ∀ s, XRs σ s g X0 b e0 H0 L A (iV :: A) 2 → Q s) : wk_X2_number x σ Q := by
  unfold wk_X2_number
  refine sp_opush h.1 hA (fun s1 p => ?_)
  rintro _ rfl _ rfl
  refine ⟨fun _ => True, fun y1 _ _ => ?_, fun _ => trivial, fun _ => trivial⟩
  rintro _ rfl
  have hop := isOp_at hA
  obtain ⟨w1, c1, fl1, ct1, fu1⟩ := psh_rows p
  generalize hz : upC (upC (upC s1 (65 + A.length) 6 (1 : Int32)) (65 + A.length) 8 (atv 16002 ((upC s1 (65 + A.length) 6 (1 : Int32)) 14) x)) (65 + A.length) 3 y1 = z
  have hro : RO (65 + A.length) s1 z := by rw [← hz]; exact ro_up (ro_up (ro_up ro_rf))
  have zq : ∀ j, j ≠ 6 → j ≠ 8 → j ≠ 3 → z (65 + A.length) j = s1 (65 + A.length) j := fun j h6 h8 h3 => by rw [← hz, rdA_ne h3, rdA_ne h8, rdA_ne h6]
  have kz : KXE σ z := ko_tr (psh_k p) (ro_ko hro hop)
  have mz : MKs σ z := mks_tr (mks_eq fl1 ct1) (ro_mks hro (by omega) (by omega))
  have cz : (z 4 1) = (σ 4 1) := (hro 4 1 (by omega)).trans c1
  have z0 : 0 ≤ (z 4 1).toInt := by rw [cz]; exact h.2.2.1
  have z1 : (z 4 1).toInt < 262204 := by rw [cz]; omega
  refine sk_emit (n := 1) rfl (by decide) z0 z1 (fun v s _ em => k s ?_)
  have fz : (z 6 3) = (σ 6 3) := (hro 6 3 (by omega)).trans fu1
  have fs : (s 6 3) = (z 6 3) := em_cells em 6 3 (by decide) (by decide)
  exact xr_leaf h (fun hf => by rw [fs, fz] at hf; exact hf) hA kz mz (low_tr p.2.1 (ro_low hro (Nat.le_refl _))) ((funext (fun j => hro 24 j (by omega))).trans w1) cz (by rw [hro 7 7 (by omega)]; exact p.2.2.1) (by rw [zq 9 (by decide) (by decide) (by decide)]; exact p.2.2.2.2.2.2.1) (by rw [zq 2 (by decide) (by decide) (by decide)]; exact p.2.2.2.2.1) (by unfold KDq; rw [zq 0 (by decide) (by decide) (by decide)]; exact p.2.2.2.1) (fun _ => by decide) em (m := 1) rfl (by decide) rfl rfl (by decide) fs
theorem sp_mentionCall {Q : St → Prop} (u : UXs σ) (hx : (σ 5 1).toInt - (σ 6 7).toInt ≤ x.toInt ∧ x.toInt < (σ 5 1).toInt) (hy : 0 ≤ y.toInt) (k : ∀ s, Kp [] [25, 39] σ s → MKs σ s → (∀ j : Nat, x.toInt = j → FLb ((s 25) j) 8) → 0 ≤ ((s 39) (x.toInt - ((σ 5 1).toInt - (σ 6 7).toInt)).toNat).toInt → Q s) : wk_X11_mentionCall x y σ Q := by
  obtain ⟨u1, u2, u3, u4, u5⟩ := u
  have e1 : ((σ 5 1) - (σ 6 7)).toInt = (σ 5 1).toInt - (σ 6 7).toInt := sb (by omega) (by omega)
  have e2 : (x - ((σ 5 1) - (σ 6 7))).toInt = x.toInt - ((σ 5 1).toInt - (σ 6 7).toInt) := by rw [sb (by omega) (by omega), e1]
  obtain ⟨i, hi⟩ : ∃ i : Nat, x.toInt - ((σ 5 1).toInt - (σ 6 7).toInt) = i := ⟨(x.toInt - ((σ 5 1).toInt - (σ 6 7).toInt)).toNat, by omega⟩
  have ei : (x.toInt - ((σ 5 1).toInt - (σ 6 7).toInt)).toNat = i := by omega
  unfold wk_X11_mentionCall
  refine sp_mark8 (fun s hs m hf => ?_)
  have fl : ∀ j : Nat, x.toInt = j → FLb ((s 25) j) 8 := fun j hj => hf j hj (by omega)
  have ec : (s 39) = (σ 39) := funext (fun j => hs 39 j rfl rfl)
  have ea : atv 100 (s 39) (x - ((σ 5 1) - (σ 6 7))) = (s 39) i := atv_at (by omega) (by omega)
  rw [ei] at k
  refine ⟨fun c => k s (kp_sub hs rfl rfl) m fl (by rw [ea] at c; exact c), fun c => ?_⟩
  rw [ea] at c
  have es : setv 100 (s 39) (x - ((σ 5 1) - (σ 6 7))) y = fun j => if j = i then y else (s 39) j := setv_at (by omega) (by omega)
  refine k _ (kp_F (kp_sub hs rfl rfl) rfl) ⟨fun j => m.1 j, fun j hj => ?_⟩ fl ?_
  · show 0 ≤ ((setv 100 (s 39) (x - ((σ 5 1) - (σ 6 7))) y) j).toInt
    rw [es]
    show 0 ≤ (if j = i then y else (s 39) j).toInt
    split
    · exact hy
    · rw [ec]
      exact hj
  · show 0 ≤ ((setv 100 (s 39) (x - ((σ 5 1) - (σ 6 7))) y) i).toInt
    rw [es]
    show 0 ≤ (if i = i then y else (s 39) i).toInt
    rw [if_pos rfl]
    exact hy
/-- a fault, and nothing else -/
theorem xr_bad {B : List It} {c : Nat} (h : XC σ g X0 b e0 H0 L A) (k : Kp [(6, 3), (6, 4)] [] σ s) (hf : (s 6 3).toInt ≠ 0) : XRs σ s g X0 b e0 H0 L A B c := by
  obtain ⟨h1, h2, h3, H, X, h4⟩ := h
  have hT := rlx_typ A _ H X h4
  have e1 : (s 4 1) = (σ 4 1) := k 4 1 rfl rfl
  have en := clen_eq h3
  refine ⟨ko_sub (ko_kp k) rfl rfl, mks_eq (funext (fun j => k 25 j rfl rfl)) (funext (fun j => k 39 j rfl rfl)), fun j _ => k 24 j rfl rfl, by rw [e1]; have := hT.2; omega, fun c => absurd c hf, by rw [e1]; omega, fun c => absurd c hf⟩
theorem xs_callee {Q : St → Prop} (u : UXs σ) (h : XC σ g X0 b e0 H0 L A) (hA : A.length < 500) (htk : tkx σ x = 2) (k : ∀ s, XRs σ s g X0 b e0 H0 L A (iF :: A) 0 → Q s) : wk_X2_callee x σ Q := by
  have hx : 0 ≤ x.toInt := by
    unfold tkx at htk
    rcases atv_cases 16002 (σ 13) x with ⟨e, -⟩ | ⟨j, e, -, -⟩
    · rw [e] at htk
      exact absurd htk (by decide)
    · omega
  have u' := u
  obtain ⟨u1, u2, u3, u4, u5⟩ := u'
  have refuse : wk_X2_refuse x σ (fun s43 => Q s43) := sp_refuse (fun s hs hf => k s (xr_bad h hs hf))
  unfold wk_X2_callee
  refine sp_localFrom u1 u4 (by decide) (fun v => ?_)
  refine ⟨fun y => y = -1 ∨ ((σ 5 1).toInt - (σ 6 7).toInt ≤ y.toInt ∧ y.toInt < (σ 5 1).toInt), ?_, fun _ => Or.inl rfl, fun _ => sp_outerOf u1 u2 u3 (Or.inl rfl) (fun v a b => Or.inr ⟨a, b⟩)⟩
  intro y hy
  refine ⟨True, fun _ => refuse, fun _ => trivial, fun c => sk_is (fun _ => ⟨fun e => absurd rfl e, fun _ => trivial⟩) (fun fl => ⟨fun _ => ?_, fun e => absurd e (by decide)⟩)⟩
  have hy2 : (σ 5 1).toInt - (σ 6 7).toInt ≤ y.toInt ∧ y.toInt < (σ 5 1).toInt := by
    rcases hy with e | e
    · rw [e] at c
      exact absurd c (by decide)
    · exact e
  refine sp_mentionCall u hy2 hx (fun s1 k1 m1 f8 ct => ?_)
  have e7 : (s1 7 7) = (σ 7 7) := k1 7 7 rfl rfl
  refine sp_opush (n := A.length) (by rw [e7]; exact h.1) hA (fun s2 p => ?_)
  rintro _ rfl _ rfl _ rfl _ rfl
  have hop := isOp_at hA
  obtain ⟨w2, c2, fl2, ct2, fu2⟩ := psh_rows p
  generalize hz : upC (upC (upC (upC s2 (65 + A.length) 0 (4 : Int32)) (65 + A.length) 4 y) (65 + A.length) 1 (atv 10100 ((upC (upC s2 (65 + A.length) 0 (4 : Int32)) (65 + A.length) 4 y) 26) y)) (65 + A.length) 2 (0 : Int32) = z
  have hro : RO (65 + A.length) s2 z := by rw [← hz]; exact ro_up (ro_up (ro_up (ro_up ro_rf)))
  have zq : ∀ j, z (65 + A.length) j = if j = 2 then 0 else if j = 1 then (atv 10100 ((upC (upC s2 (65 + A.length) 0 (4 : Int32)) (65 + A.length) 4 y) 26) y) else if j = 4 then y else if j = 0 then 4 else s2 (65 + A.length) j := fun j => by rw [← hz, rdA, rdA, rdA, rdA]
  have kz : KXE σ z := ko_tr (ko_tr (ko_sub (ko_kp k1) rfl rfl) (psh_k p)) (ro_ko hro hop)
  have mz : MKs σ z := mks_tr (mks_tr m1 (mks_eq fl2 ct2)) (ro_mks hro (by omega) (by omega))
  have wz : (z 24) = (σ 24) := (funext (fun j => hro 24 j (by omega))).trans (w2.trans (funext (fun j => k1 24 j rfl rfl)))
  have clz : (z 4 1) = (σ 4 1) := (hro 4 1 (by omega)).trans (c2.trans (k1 4 1 rfl rfl))
  have fz : (z 6 3) = (σ 6 3) := (hro 6 3 (by omega)).trans (fu2.trans (k1 6 3 rfl rfl))
  have lz : LOW A.length σ z := low_tr (low_tr (low_kp k1 rfl rfl) p.2.1) (ro_low hro (Nat.le_refl _))
  have h' := h
  obtain ⟨h1, h2, h3, H, X, h4⟩ := h'
  have hT := rlx_typ A _ H X h4
  have en := clen_eq h3
  have ecl : clen z = clen σ := by unfold clen; rw [clz]
  refine k z ⟨kz, mz, fun j _ => by rw [wz], by rw [clz]; have := hT.2; omega, fun hf => by rw [fz] at hf; exact hf, by rw [clz]; omega, fun _ => ⟨g, agr_rf, ⟨?_, nc_of (by decide), by rw [clz]; exact h3, H, X, ?_⟩, ?_⟩⟩
  · rw [hro 7 7 (by omega), p.2.2.1]
    show _ = ((A.length + 1 : Nat) : Int)
    omega
  · have hR : RLx z g (CPu z) X0 b e0 H0 L A (clen σ) H X := rlx_mono (cpu_mono kz mz) (funext (fun j => kz 27 j (op_lt (by decide)) rfl rfl)) A _ H X (fun j _ => by rw [wz]) agr_rf lz (Or.inl h2) h4
    have hT2 := (rlx_typ A _ H X hR).1
    rw [ecl]
    have ey : y.toInt = ((y.toInt.toNat : Nat) : Int) := by omega
    have ext : (z 27) = (σ 27) := funext (fun j => kz 27 j (op_lt (by decide)) rfl rfl)
    have fl1 : FLb ((σ 25) y.toInt.toNat) 1 := by
      rw [atv_at (f := (σ 25)) ey (by omega)] at fl
      exact fl
    refine rlx_F h2 hR (Nat.le_refl _) ?_ hT2 ⟨rfl, ?_, 0, ?_, by omega, by omega, ?_, fun c => absurd c (by decide), spar ((σ 27) y.toInt.toNat), u5 _ fl1, ?_, ?_, fun _ => ⟨Nat.zero_le _, ?_⟩⟩
    · rw [zq]
      show (s2 (65 + A.length) 9).toInt = _
      rw [p.2.2.2.2.2.2.1, k1 4 1 rfl rfl]
      exact en.symm
    · unfold KDq
      rw [zq]
      rfl
    · rw [zq]
      show (s2 (65 + A.length) 11).toInt = _
      rw [p.2.2.2.2.2.2.2.1]
      rfl
    · rw [zq]
      show (0 : Int) ≤ 0 ∧ (0 : Int) ≤ 60
      omega
    · rw [zq, ext]
      show spar (atv 10100 (σ 27) y) = _
      rw [atv_at ey (by omega)]
    · rw [zq]
      show CPu z y.toInt _
      have e1 : (z 5 1) = (σ 5 1) := kz 5 1 (op_lt (by decide)) rfl rfl
      have e2 : (z 6 7) = (σ 6 7) := kz 6 7 (op_lt (by decide)) rfl rfl
      have efl : (z 25) = (s1 25) := (funext (fun j => hro 25 j (by omega))).trans fl2
      have ect : (z 39) = (s1 39) := (funext (fun j => hro 39 j (by omega))).trans ct2
      exact ⟨by rw [e1, e2]; omega, (flb1 mz).mpr fl1, by rw [efl]; exact f8 _ ey, by rw [e1, e2, ect]; exact ct, by rw [ext]⟩
    · exact bnd_one hT2.2.1 (by omega)
  · rw [plc_0 (Or.inr (by unfold KDq; rw [zq]; rfl)), plc_low A lz]
    omega
end XL2
