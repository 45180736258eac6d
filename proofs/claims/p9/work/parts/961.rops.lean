/-! the reference's operators on Values -/
section ROP
variable {σ s r τ t : St} {vs z : List Nat} {u v : Nat} {k ty h zz f i k2 ty2 h2 z2 f2 i2 sg : Int} {x x2 a b c : Int32} {B B2 : Prop}
theorem mr_isI {Q : Int32 → Prop} (hA : MVq τ u k ty h zz f x i) (kk : ∀ v : Int32, (v = 0 ∨ v = 1) → (v.toInt ≠ 0 ↔ ty = 0) → Q v) : pp_isInt u σ τ vs Q :=
  mr_isInt hA (fun e => kk 1 (Or.inr rfl) ⟨fun _ => e, fun _ => by decide⟩) (fun e => kk 0 (Or.inl rfl) ⟨fun hx => absurd rfl hx, fun hx => absurd hx e⟩)
theorem mr_isP {Q : Int32 → Prop} (hA : MVq τ u k ty h zz f x i) (kk : ∀ v : Int32, (v = 0 ∨ v = 1) → (v.toInt ≠ 0 ↔ 0 < ty) → Q v) : pp_isPointer u σ τ vs Q :=
  mr_isPointer hA (fun e => kk 1 (Or.inr rfl) ⟨fun _ => e, fun _ => by decide⟩) (fun e => kk 0 (Or.inl rfl) ⟨fun hx => absurd rfl hx, fun hx => by omega⟩)
theorem mr_isA {Q : Int32 → Prop} (hA : MVq τ u k ty h zz f x i) (kk : ∀ v : Int32, (v = 0 ∨ v = 1) → (v.toInt ≠ 0 ↔ 0 ≤ ty) → Q v) : pp_isAny u σ τ vs Q :=
  mr_isAny hA (fun e => kk 1 (Or.inr rfl) ⟨fun _ => e, fun _ => by decide⟩) (fun e => kk 0 (Or.inl rfl) ⟨fun hx => absurd rfl hx, fun hx => by omega⟩)
theorem sn_of (h9 : 0 ≤ sg ∧ sg ≤ 62) (hs : a.toInt = rkI sg - 32) (m : Nat) (hm : m ≤ 62) (n : Int) (hn : rkI (m : Int) - 32 = n) (e : a.toInt = n) : sg = (m : Int) := rk_one h9 (by omega) (by omega)
theorem rk_rng : ∀ a : Nat, a < 57 → a < 41 ∨ (12 ≤ rkI (a : Int) - 32 ∧ rkI (a : Int) - 32 ≤ 40) := by decide
theorem rk_j : ∀ a : Nat, a < 57 → a < 41 ∨ 53 ≤ a ∨ ¬ (rkI (a : Int) - 32 = 14 ∨ rkI (a : Int) - 32 = 15 ∨ rkI (a : Int) - 32 = 34 ∨ rkI (a : Int) - 32 = 35 ∨ (18 ≤ rkI (a : Int) - 32 ∧ rkI (a : Int) - 32 ≤ 30)) := by decide
theorem rk_j2 : ∀ a : Nat, a < 57 → a < 53 ∨ (rkI (a : Int) - 32 = 14 ∨ rkI (a : Int) - 32 = 15 ∨ rkI (a : Int) - 32 = 34 ∨ rkI (a : Int) - 32 = 35) := by decide
theorem dv_m1 (b : Int32) : b / (-1) = -b := Int32.toInt_inj.mp (by rw [Int32.toInt_div, show ((-1 : Int32)).toInt = -1 from by decide, Int32.toInt_neg, Int.tdiv_neg, Int.tdiv_one])
theorem ml_m1 (b : Int32) : b - -b * (-1) = 0 := by grind
theorem mr_work {Q : Int32 → Prop} (hr : 41 ≤ sg ∧ sg ≤ 56) (hs : a.toInt = rkI sg - 32) (hq : Q (wkq sg b c)) : pp_work a b c σ τ vs Q := by
  have sx := sn_of (a := a) (sg := sg) (by omega) hs
  have hrg : 12 ≤ a.toInt ∧ a.toInt ≤ 40 := by
    have := rk_rng sg.toNat (by omega)
    rw [show ((sg.toNat : Nat) : Int) = sg from by omega, ← hs] at this
    omega
  have jj : (a.toInt = 14 ∨ a.toInt = 15 ∨ a.toInt = 34 ∨ a.toInt = 35 ∨ (18 ≤ a.toInt ∧ a.toInt ≤ 30)) → 53 ≤ sg := fun hj => by
    have := rk_j sg.toNat (by omega)
    rw [show ((sg.toNat : Nat) : Int) = sg from by omega, ← hs] at this
    omega
  have g : ∀ m : Nat, m ≤ 62 → ∀ n : Int, rkI (m : Int) - 32 = n → a.toInt = n → ∀ {y : Int32}, wkq (m : Int) b c = y → Q y := fun m hm n hn e y hy => by
    rw [← hy, ← sx m hm n hn e]
    exact hq
  have h1 : ∀ m : Nat, m ≤ 62 → ∀ n : Int, rkI (m : Int) - 32 = n → a.toInt = n → (((m : Int) = 51 ∧ b.toInt = c.toInt) ∨ ((m : Int) = 52 ∧ b.toInt ≠ c.toInt) ∨ ((m : Int) = 53 ∧ b.toInt < c.toInt) ∨ ((m : Int) = 54 ∧ c.toInt < b.toInt) ∨ ((m : Int) = 55 ∧ b.toInt ≤ c.toInt) ∨ ((m : Int) = 56 ∧ c.toInt ≤ b.toInt)) → Q 1 := fun m hm n hn e hc => g m hm n hn e (by
    unfold wkq
    rw [if_neg (by omega), if_neg (by omega), if_neg (by omega), if_neg (by omega), if_neg (by omega), if_neg (by omega), if_neg (by omega), if_neg (by omega), if_neg (by omega), if_neg (by omega), if_pos hc])
  have h2 : ∀ m : Nat, m ≤ 62 → ∀ n : Int, rkI (m : Int) - 32 = n → a.toInt = n → (((m : Int) = 51 ∧ ¬ b.toInt = c.toInt) ∨ ((m : Int) = 52 ∧ ¬ b.toInt ≠ c.toInt) ∨ ((m : Int) = 53 ∧ ¬ b.toInt < c.toInt) ∨ ((m : Int) = 54 ∧ ¬ c.toInt < b.toInt) ∨ ((m : Int) = 55 ∧ ¬ b.toInt ≤ c.toInt) ∨ ((m : Int) = 56 ∧ ¬ c.toInt ≤ b.toInt)) → Q 0 := fun m hm n hn e hc => g m hm n hn e (by
    unfold wkq
    rw [if_neg (by omega), if_neg (by omega), if_neg (by omega), if_neg (by omega), if_neg (by omega), if_neg (by omega), if_neg (by omega), if_neg (by omega), if_neg (by omega), if_neg (by omega), if_neg (by omega)])
  have gd : a.toInt = 39 → c.toInt = -1 → Q (-b) := fun e hc => g 46 (by decide) 39 (by decide) e (by
    have : c = -1 := Int32.toInt_inj.mp (by rw [hc]; rfl)
    subst this
    show b / (-1) = -b
    exact dv_m1 b)
  have gr : a.toInt = 40 → c.toInt = -1 → Q 0 := fun e hc => g 47 (by decide) 40 (by decide) e (by
    have : c = -1 := Int32.toInt_inj.mp (by rw [hc]; rfl)
    subst this
    show b - b / (-1) * (-1) = 0
    rw [dv_m1]
    exact ml_m1 b)
  clear hq
  unfold pp_work
  refine ⟨53 ≤ sg, fun hj => ⟨fun y => y = a, fun y hy => ⟨fun y2 => y2 = b, fun y2 hy2 => ⟨fun y3 => y3 = c, fun y3 hy3 => ?_, fun hx => by omega, fun _ => rfl⟩, fun hx => by omega, fun _ => rfl⟩, fun hx => by omega, fun _ => rfl⟩, ?_⟩
  · rw [hy, hy2, hy3]
    have h4 : a.toInt = 14 ∨ a.toInt = 15 ∨ a.toInt = 34 ∨ a.toInt = 35 := by
      have := rk_j2 sg.toNat (by omega)
      rw [show ((sg.toNat : Nat) : Int) = sg from by omega, ← hs] at this
      omega
    unfold pp_compared
    exact ⟨fun n34 => ⟨fun n35 => ⟨fun n14 => ⟨fun q => ⟨fun _ => h2 56 (by decide) 15 (by decide) (by omega) (Or.inr (Or.inr (Or.inr (Or.inr (Or.inr (⟨rfl, by omega⟩)))))), fun hx => absurd rfl hx⟩, fun q => ⟨fun hx => absurd hx (by decide), fun _ => h1 56 (by decide) 15 (by decide) (by omega) (Or.inr (Or.inr (Or.inr (Or.inr (Or.inr (⟨rfl, by omega⟩))))))⟩⟩, fun e => ⟨fun q => ⟨fun _ => h2 55 (by decide) 14 (by decide) e (Or.inr (Or.inr (Or.inr (Or.inr (Or.inl ⟨rfl, by omega⟩))))), fun hx => absurd rfl hx⟩, fun q => ⟨fun hx => absurd hx (by decide), fun _ => h1 55 (by decide) 14 (by decide) e (Or.inr (Or.inr (Or.inr (Or.inr (Or.inl ⟨rfl, by omega⟩)))))⟩⟩⟩, fun e => ⟨fun q => ⟨fun _ => h2 54 (by decide) 35 (by decide) e (Or.inr (Or.inr (Or.inr (Or.inl ⟨rfl, by omega⟩)))), fun hx => absurd rfl hx⟩, fun q => ⟨fun hx => absurd hx (by decide), fun _ => h1 54 (by decide) 35 (by decide) e (Or.inr (Or.inr (Or.inr (Or.inl ⟨rfl, by omega⟩))))⟩⟩⟩, fun e => ⟨fun q => ⟨fun _ => h2 53 (by decide) 34 (by decide) e (Or.inr (Or.inr (Or.inl ⟨rfl, by omega⟩))), fun hx => absurd rfl hx⟩, fun q => ⟨fun hx => absurd hx (by decide), fun _ => h1 53 (by decide) 34 (by decide) e (Or.inr (Or.inr (Or.inl ⟨rfl, by omega⟩)))⟩⟩⟩
  · exact ⟨fun e => ⟨fun c => h2 51 (by decide) 12 (by decide) e (Or.inl ⟨rfl, fun d => c d⟩), fun c => h1 51 (by decide) 12 (by decide) e (Or.inl ⟨rfl, c⟩)⟩, fun n12 => ⟨fun e => ⟨fun c => h2 52 (by decide) 13 (by decide) e (Or.inr (Or.inl ⟨rfl, fun d => d c⟩)), fun c => h1 52 (by decide) 13 (by decide) e (Or.inr (Or.inl ⟨rfl, c⟩))⟩, fun n13 => ⟨fun e => jj (by omega), fun n14 => ⟨fun e => jj (by omega), fun n15 => ⟨fun e => g 41 (by decide) 16 (by decide) e rfl, fun n16 => ⟨fun e => g 42 (by decide) 17 (by decide) e rfl, fun n17 => ⟨fun e => jj (by omega), fun n18 => ⟨fun e => jj (by omega), fun n19 => ⟨fun e => jj (by omega), fun n20 => ⟨fun e => jj (by omega), fun n21 => ⟨fun e => jj (by omega), fun n22 => ⟨fun e => jj (by omega), fun n23 => ⟨fun e => jj (by omega), fun n24 => ⟨fun e => jj (by omega), fun n25 => ⟨fun e => jj (by omega), fun n26 => ⟨fun e => jj (by omega), fun n27 => ⟨fun e => jj (by omega), fun n28 => ⟨fun e => jj (by omega), fun n29 => ⟨fun e => jj (by omega), fun n30 => ⟨fun e => g 49 (by decide) 31 (by decide) e rfl, fun n31 => ⟨fun e => g 50 (by decide) 32 (by decide) e rfl, fun n32 => ⟨fun e => g 48 (by decide) 33 (by decide) e rfl, fun n33 => ⟨fun e => jj (by omega), fun n34 => ⟨fun e => jj (by omega), fun n35 => ⟨fun e => g 43 (by decide) 36 (by decide) e rfl, fun n36 => ⟨fun e => g 44 (by decide) 37 (by decide) e rfl, fun n37 => ⟨fun e => g 45 (by decide) 38 (by decide) e rfl, fun n38 => ⟨fun e => ⟨fun c c0 => g 46 (by decide) 39 (by decide) e rfl, fun c => gd e c⟩, fun n39 => ⟨fun e => ⟨fun c c0 => g 47 (by decide) 40 (by decide) e rfl, fun c => gr e c⟩, fun n40 => jj (by omega)⟩⟩⟩⟩⟩⟩⟩⟩⟩⟩⟩⟩⟩⟩⟩⟩⟩⟩⟩⟩⟩⟩⟩⟩⟩⟩⟩⟩⟩
theorem rk_iff : ∀ a : Nat, a < 63 → (rkI (a : Int) - 32 = 36 ↔ a = 43) ∧ (rkI (a : Int) - 32 = 37 ↔ a = 44) ∧ (rkI (a : Int) - 32 = 12 ↔ a = 51) ∧ (rkI (a : Int) - 32 = 13 ↔ a = 52) ∧ (lvq (a : Int) = 7 ↔ 53 ≤ a ∧ a ≤ 56) := by decide
section TYL
variable {sg ta tb za zb : Int}
theorem ty_43p (h : sg = 43 ∧ tb = 0 ∧ ta ≠ -1) : tyq sg ta tb za zb = ta := by unfold tyq; (repeat' split) <;> omega
theorem ty_43q (h : sg = 43 ∧ ta = 0 ∧ tb ≠ -1) : tyq sg ta tb za zb = tb := by unfold tyq; (repeat' split) <;> omega
theorem ty_43n (h : sg = 43 ∧ (ta = -1 ∨ tb = -1 ∨ (ta ≠ 0 ∧ tb ≠ 0))) : tyq sg ta tb za zb = -2 := by unfold tyq; (repeat' split) <;> omega
theorem ty_44p (h : sg = 44 ∧ tb = 0 ∧ ta ≠ -1) : tyq sg ta tb za zb = ta := by unfold tyq; (repeat' split) <;> omega
theorem ty_44z (h : sg = 44 ∧ ta = tb ∧ ta ≠ -1) : tyq sg ta tb za zb = 0 := by unfold tyq; (repeat' split) <;> omega
theorem ty_44n (h : sg = 44 ∧ (ta = -1 ∨ tb = -1 ∨ (tb ≠ 0 ∧ ta ≠ tb))) : tyq sg ta tb za zb = -2 := by unfold tyq; (repeat' split) <;> omega
theorem ty_51z (h : (51 ≤ sg ∧ sg ≤ 52) ∧ ta ≠ -1 ∧ tb ≠ -1 ∧ (ta = tb ∨ (0 < tb ∧ za ≠ 0) ∨ (0 < ta ∧ zb ≠ 0))) : tyq sg ta tb za zb = 0 := by unfold tyq; (repeat' split) <;> omega
theorem ty_51n (h : (51 ≤ sg ∧ sg ≤ 52) ∧ (ta = -1 ∨ tb = -1 ∨ (ta ≠ tb ∧ ¬ (0 < tb ∧ za ≠ 0) ∧ ¬ (0 < ta ∧ zb ≠ 0)))) : tyq sg ta tb za zb = -2 := by unfold tyq; (repeat' split) <;> omega
theorem ty_53z (h : (53 ≤ sg ∧ sg ≤ 56) ∧ ta = tb ∧ ta ≠ -1) : tyq sg ta tb za zb = 0 := by unfold tyq; (repeat' split) <;> omega
theorem ty_53n (h : (53 ≤ sg ∧ sg ≤ 56) ∧ (ta = -1 ∨ tb = -1 ∨ ta ≠ tb)) : tyq sg ta tb za zb = -2 := by unfold tyq; (repeat' split) <;> omega
theorem ty_ez (h : sg ≤ 56 ∧ ta = 0 ∧ tb = 0) : tyq sg ta tb za zb = 0 := by unfold tyq; (repeat' split) <;> omega
theorem ty_en (h : (sg ≤ 42 ∨ (45 ≤ sg ∧ sg ≤ 50)) ∧ ¬ (ta = 0 ∧ tb = 0)) : tyq sg ta tb za zb = -2 := by unfold tyq; (repeat' split) <;> omega
end TYL
theorem mr_typeOf {Q : Int32 → Prop} (hA : MVq τ u k ty h zz f x i) (hB : MVq τ v k2 ty2 h2 z2 f2 x2 i2) (hr : 41 ≤ sg ∧ sg ≤ 56) (hs : a.toInt = rkI sg - 32) (hty : -2 ≤ ty ∧ ty ≤ 9 ∧ -2 ≤ ty2 ∧ ty2 ≤ 9) (hz : (zz ≠ 0 → ty ≠ -1) ∧ (z2 ≠ 0 → ty2 ≠ -1)) (kk : ∀ r : Int32, -2 ≤ r.toInt ∧ r.toInt ≤ 9 → (ty ≠ -2 → ty2 ≠ -2 → r.toInt = tyq sg ty ty2 zz z2) → Q r) : pp_typeOf a u v σ τ vs Q := by
  have m2 : ((-2 : Int32)).toInt = -2 := by decide
  have m0 : ((0 : Int32)).toInt = 0 := by decide
  have a0 := hA.2.1
  have b0 := hB.2.1
  have az := hA.2.2.2.1
  have bz := hB.2.2.2.1
  have hi := rk_iff sg.toNat (by omega)
  rw [show ((sg.toNat : Nat) : Int) = sg from by omega, ← hs] at hi
  obtain ⟨i36, i37, i12, i13, i7⟩ := hi
  have hrk : ∀ {P : Int32 → Prop}, (∀ v : Int32, v.toInt = lvq sg → P v) → pp_rank a σ τ vs P := fun hp => mr_rank (by omega) hs hp
  generalize lvq sg = lv at hrk i7
  clear hs
  unfold pp_typeOf
  refine mr_isI hA (fun v1 _ w1 => ⟨fun y => (y.toInt ≠ 0 ↔ ty = 0 ∧ ty2 = 0), fun y _ hy => mr_isP hA (fun v2 _ w2 => ⟨fun y' => (y'.toInt ≠ 0 ↔ 0 < ty ∧ ty = ty2), fun y' _ hy' => ?_, ¬ (0 < ty ∧ ty = ty2), fun hj => ⟨fun hx => absurd rfl hx, fun hx => absurd hx hj⟩, fun c => by omega, fun c _ _ => ⟨fun c2 => by omega, fun c2 => ⟨fun _ => by omega, fun _ => by decide⟩⟩⟩), ¬ (ty = 0 ∧ ty2 = 0), fun hj => ⟨fun hx => absurd rfl hx, fun hx => absurd hx hj⟩, fun c => by omega, fun c => mr_isI hB (fun v3 _ w3 => ⟨fun c2 => by omega, fun c2 => ⟨fun _ => by omega, fun _ => by decide⟩⟩)⟩)
  clear w1 w2
  exact ⟨fun n36 => ⟨fun n37 => ⟨sg = 51 ∨ sg = 52, fun hj => ⟨fun c1 => kk _ (by omega) (fun q1 q2 => by rw [ty_51z (by omega)]; exact m0), fun c1 => ⟨fun c2 => kk _ (by omega) (fun q1 q2 => by rw [ty_51z (by omega)]; exact m0), fun c2 => mr_isP hA (fun v3 _ w3 => ⟨¬ (0 < ty ∧ z2 ≠ 0), fun hj2 => mr_isP hB (fun v4 _ w4 => ⟨fun c3 => kk _ (by omega) (fun q1 q2 => by rw [ty_51n (by omega)]; exact m2), fun c3 _ => ⟨fun c4 => kk _ (by omega) (fun q1 q2 => by rw [ty_51n (by omega)]; exact m2), fun c4 => kk _ (by omega) (fun q1 q2 => by rw [ty_51z (by omega)]; exact m0)⟩⟩), fun c3 => by omega, fun c3 _ => ⟨fun c4 => kk _ (by omega) (fun q1 q2 => by rw [ty_51z (by omega)]; exact m0), fun c4 => by omega⟩⟩)⟩⟩, fun c1 => by omega, fun c1 => ⟨fun c2 => hrk (fun v hv => ⟨fun c3 => ⟨fun c4 => kk _ (by omega) (fun q1 q2 => by rw [ty_en (by omega)]; exact m2), fun c4 => kk _ (by omega) (fun q1 q2 => by rw [ty_ez (by omega)]; exact m0)⟩, fun c3 => ⟨fun c4 => kk _ (by omega) (fun q1 q2 => by rw [ty_53z (by omega)]; exact m0), fun c4 => ⟨fun c5 => kk _ (by omega) (fun q1 q2 => by rw [ty_53n (by omega)]; exact m2), fun c5 => kk _ (by omega) (fun q1 q2 => by rw [ty_53z (by omega)]; exact m0)⟩⟩⟩), fun c2 => by omega⟩⟩, fun c37 => ⟨fun c1 => kk _ (by omega) (fun q1 q2 => by rw [ty_44z (by omega)]; exact m0), fun c1 => ⟨fun c2 => mr_isP hA (fun v3 _ w3 => ⟨fun c3 => kk _ (by omega) (fun q1 q2 => by rw [ty_44n (by omega)]; exact m2), fun c3 => mr_isI hB (fun v4 _ w4 => ⟨fun c4 => kk _ (by omega) (fun q1 q2 => by rw [ty_44n (by omega)]; exact m2), fun c4 _ => kk _ (by omega) (fun q1 q2 => by rw [ty_44p (by omega)]; exact a0)⟩)⟩), fun c2 => kk _ (by omega) (fun q1 q2 => by rw [ty_44z (by omega)]; exact m0)⟩⟩⟩, fun c36 => ⟨fun c1 => mr_isP hA (fun v3 _ w3 => ⟨¬ (0 < ty ∧ ty2 = 0), fun hj2 => mr_isI hA (fun v4 _ w4 => ⟨fun c3 => kk _ (by omega) (fun q1 q2 => by rw [ty_43n (by omega)]; exact m2), fun c3 => mr_isP hB (fun v5 _ w5 => ⟨fun c4 => kk _ (by omega) (fun q1 q2 => by rw [ty_43n (by omega)]; exact m2), fun c4 _ => kk _ (by omega) (fun q1 q2 => by rw [ty_43q (by omega)]; exact b0)⟩)⟩), fun c3 => by omega, fun c3 => mr_isI hB (fun v4 _ w4 => ⟨fun c4 => by omega, fun c4 _ => kk _ (by omega) (fun q1 q2 => by rw [ty_43p (by omega)]; exact a0)⟩)⟩), fun c1 => kk _ (by omega) (fun q1 q2 => by rw [ty_ez (by omega)]; exact m0)⟩⟩
end ROP
