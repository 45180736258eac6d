/-! the class's grammar: heads of functions, units -/
section SRD
variable {kd vl : Nat → Int} {n p d w ty nm k t q : Nat} {σ0 σ s : St} {g : List Gsq} {l : List (Nat × Nat)} {x a1 a2 a3 a4 : Int32} {lk res : Int}
theorem lnq_map : ∀ {l : List (Nat × Nat)}, lnq (l.map (fun x => gq (48, x.2, (x.1 : Int), 0))) = l.length
  | [] => rfl
  | x :: l => by
    have e : (x :: l).map (fun x => gq (48, x.2, (x.1 : Int), 0)) = [gq (48, x.2, (x.1 : Int), 0)] ++ l.map (fun x => gq (48, x.2, (x.1 : Int), 0)) := rfl
    rw [e, lnq_app, lnq_one (by simp), lnq_map (l := l), List.length_cons]
    omega
theorem gj_parameters {Q : Int32 → St → Prop} (h : GJq σ0 σ) (k : ∀ v s, GJq σ0 s → Q v s) : pk_X3_parameters σ Q := by
  unfold pk_X3_parameters
  refine ⟨fun _ _ x3 s => GJq σ0 s, h, fun x1 x2 x3 s6 w3 j6 => ⟨True, fun _ => ⟨fun _ => k x1 s6 j6, fun _ => gj_fail j6 (fun s105 j105 => k x1 s105 j105)⟩, fun _ => trivial, fun _ => ⟨fun _ => trivial, fun _ => ?_⟩⟩⟩
  exact gj_expect j6 (by decide) (fun s18 j18 => gj_stars j18 (fun v22 => gj_accept j18 (by decide) (gj_accept j18 (by decide) ⟨fun _ s => GJq σ0 s, fun x4 s58 j58 => ⟨fun _ => True, fun y77 _ => by
        unfold pk_X8_withParameter pk_X8_parameters
        exact gj_accept (gj_F j58 rfl) (by decide) (gj_F j58 rfl), fun _ => trivial, fun _ => trivial⟩, fun _ => j18, fun c => absurd rfl c⟩)))
/-- behind ( and the parameters, where it is no function -/
theorem gj_head2 {Q : Int32 → St → Prop} (h : GJq σ0 σ) (k : ∀ s, GJq σ0 s → Q 0 s) : pk_X3_expect (21 : Int32) σ (fun s43 => ∃ J60 : Int32 → Prop, (∀ (y0_60 : Int32), y0_60 = 0 ∨ y0_60 = 1 → (J60 y0_60 → (∃ J86 : Int32 → Prop, (∀ (y5_86 : Int32), J86 y5_86 → (pk_X3_add (47 : Int32) a1 x ((((a2 + (1 : Int32)) * (8 : Int32)) + a3) + y5_86) s43 (fun v87 s87 => ∃ J102 : St → Prop, (∀ (s102 : St), J102 s102 → (∃ L105 : Int32 → St → Prop, (L105 (0 : Int32) s102) ∧ ∀ (x6_105 : Int32) (s105 : St), L105 x6_105 s105 → (pk_X8_parameters x s105 (fun v109 => (v109.toInt ≤ x6_105.toInt → (Q y0_60 s105)) ∧ (x6_105.toInt < v109.toInt → ((y0_60.toInt = 0 → (Q y0_60 s105)) ∧ (y0_60.toInt ≠ 0 → (pk_X8_parameter x x6_105 s105 (fun v136 => pk_X3_add (48 : Int32) (atv 8 (s105 23) x6_105) v136 (0 : Int32) s105 (fun v140 s140 => L105 (x6_105 + 1) s140)))))))))) ∧ ((y0_60.toInt ≠ 0 → (J102 s87)) ∧ (y0_60.toInt = 0 → (pk_X3_expect (27 : Int32) s87 (fun s99 => J102 s99))))))) ∧ ((y0_60.toInt = 0 → (J86 (0 : Int32))) ∧ (y0_60.toInt ≠ 0 → (J86 (4 : Int32))))))) ∧ (((s43 3 2).toInt ≠ 22 → (J60 (0 : Int32))) ∧ ((s43 3 2).toInt = 22 → (J60 (1 : Int32))))) :=
  gj_expect h (by decide) (fun s43 j43 => ⟨fun y => y = 0, fun y60 _ e60 => ⟨fun _ => True, fun y86 _ => gj_add j43 (fun _ s87 j87 => ⟨fun s => GJq σ0 s, fun s102 j102 => ⟨fun _ s => GJq σ0 s, j102, fun x6 s105 j105 => by
      unfold pk_X8_parameters
      rw [e60]
      exact ⟨fun _ => k s105 j105, fun _ => ⟨fun _ => k s105 j105, fun c => absurd rfl c⟩⟩⟩, fun _ => j87, fun _ => gj_expect j87 (by decide) (fun s99 j99 => j99)⟩), fun _ => trivial, fun _ => trivial⟩, fun _ => rfl, fun c => by have : (s43 3 2).toInt = -1 := j43.2.2; omega⟩)
theorem gj_head {Q : Int32 → St → Prop} (h : GJq σ0 σ) (k : ∀ s, GJq σ0 s → Q 0 s) : pk_X3_head a1 a2 a3 σ Q := by
  unfold pk_X3_head
  exact gj_expect h (by decide) (fun s3 j3 => ⟨fun x4 s => GJq σ0 s, fun x4 s40 j40 => gj_head2 j40 k, fun _ => ⟨fun c => by have : (s3 3 2).toInt = -1 := j3.2.2; omega, fun _ => gj_parameters j3 (fun v s j => j)⟩, fun c => by have : (s3 3 2).toInt = -1 := j3.2.2; omega⟩)
def HPn (kd : Nat → Int) (p : Nat) : Option (Nat × List (Nat × Nat)) := if kd (p + 1) = 6 then some (p + 2, []) else if kd (p + 1) = 21 then some (p + 1, []) else PMn kd 8 (p + 1)
theorem hd_s {p1 : Nat} (c20 : kd p = 20) (h : HPn kd p = some (p1, l)) (c21 : kd p1 = 21) : HDn kd p = some (p1 + 1, l) := by
  unfold HDn
  rw [if_pos c20]
  show (HPn kd p).bind _ = _
  rw [h]
  exact if_pos c21
theorem hd_n {p1 : Nat} (c20 : kd p = 20) (h : HPn kd p = some (p1, l)) (c21 : kd p1 ≠ 21) : HDn kd p = none := by
  unfold HDn
  rw [if_pos c20]
  show (HPn kd p).bind _ = _
  rw [h]
  exact if_neg c21
theorem hd_n2 (c20 : kd p = 20) (h : HPn kd p = none) : HDn kd p = none := by
  unfold HDn
  rw [if_pos c20]
  show (HPn kd p).bind _ = _
  rw [h]
  rfl
theorem gt_head {Q : Int32 → St → Prop} (t0 : TKv σ0 kd vl n) (h : GTq kd n σ0 σ p g) (hl : (lnq g : Int) ≤ 2 * p + 60) (hp : 1 ≤ p) (ha1 : a1.toInt = (nm : Int)) (ha2 : a2.toInt = res) (hres : -1 ≤ res ∧ res ≤ 5) (ha3 : a3.toInt = lk) (hlk : 0 ≤ lk ∧ lk ≤ 2)
    (kb : ∀ s p' l, HDn kd p = some (p', l) → kd p' = 22 → GTq kd n σ0 s p' (g ++ [gq (47, nm, sgI l, (res + 1) * 8 + lk + 4)] ++ l.map (fun x => gq (48, x.2, (x.1 : Int), 0))) → (l.length : Int) + 2 * p + 3 ≤ 2 * p' → p < p' → Q 1 s)
    (kn : ∀ s p' l, HDn kd p = some (p', l) → kd p' ≠ 22 → kd p' = 27 → GTq kd n σ0 s (p' + 1) (g ++ [gq (47, nm, sgI l, (res + 1) * 8 + lk)]) → p < p' → Q 0 s)
    (k0 : ∀ s, GJq σ0 s → (HDn kd p = none ∨ ∃ p' l, HDn kd p = some (p', l) ∧ kd p' ≠ 22 ∧ kd p' ≠ 27) → Q 0 s) : pk_X3_head a1 a2 a3 σ Q := by
  have h16 := t0.1.2.1
  unfold pk_X3_head
  have en0 : (0 : Int32) = nI (sgX []) := rfl
  have e23 : ∀ s, P23 s [] := fun s i y e => by cases i <;> cases e
  have et0 : Tyq [] := fun y hy => absurd hy (by simp)
  refine gt_expect t0 h (by decide) (fun c20 s3 g3 => ?_) (fun c20 s3 j3 => ?_)
  rotate_left
  · exact ⟨fun x4 s => GJq σ0 s, fun x4 s40 j40 => gj_head2 j40 (fun s j => k0 s j (Or.inl (if_neg c20))), fun _ => ⟨fun c => by have : (s3 3 2).toInt = -1 := j3.2.2; omega, fun _ => gj_parameters j3 (fun v s j => j)⟩, fun c => by have : (s3 3 2).toInt = -1 := j3.2.2; omega⟩
  rw [gt_kd g3]
  refine ⟨fun x4 s => (∃ p1 l, HPn kd p = some (p1, l) ∧ GTq kd n σ0 s p1 g ∧ x4 = nI (sgX l) ∧ P23 s l ∧ Tyq l ∧ l.length ≤ 8 ∧ 2 * l.length ≤ p1 - p ∧ p < p1) ∨ (GJq σ0 s ∧ HDn kd p = none), ?_, fun n6 => ⟨fun c21 => Or.inl ⟨p + 1, [], (if_neg n6).trans (if_pos c21), g3, en0, e23 s3, et0, by decide, Nat.zero_le _, by omega⟩, fun n21 => ?_⟩, fun c6 => ?_⟩
  rotate_left
  · refine gt_parameters t0 g3 (fun x s p' l hpm g' ex h23 ht hlen hpp => Or.inl ⟨p', l, (if_neg n6).trans ((if_neg n21).trans hpm), g', ex, h23, ht, hlen.2.1, by omega, by omega⟩) (fun x s hpm j => Or.inr ⟨j, hd_n2 c20 ((if_neg n6).trans ((if_neg n21).trans hpm))⟩)
  · exact gt_adv t0 g3 (by omega) (fun s19 g19 => Or.inl ⟨p + 2, [], if_pos c6, g19, en0, e23 s19, et0, by decide, Nat.zero_le _, by omega⟩)
  rintro x4 s40 (⟨p1, l, hpm, g40, ex, h23, ht, hl8, hlen, hpp⟩ | ⟨j40, hn⟩)
  rotate_left
  · exact gj_head2 j40 (fun s j => k0 s j (Or.inl hn))
  have hn1 := gt_n g40
  refine gu_expect t0 g40 (by decide) (fun c21 s43 g43 e43 => ?_) (fun c21 s43 j43 => ?_)
  rotate_left
  · exact ⟨fun y => y = 0, fun y60 _ e60 => ⟨fun _ => True, fun y86 _ => gj_add j43 (fun _ s87 j87 => ⟨fun s => GJq σ0 s, fun s102 j102 => ⟨fun _ s => GJq σ0 s, j102, fun x6 s105 j105 => by
      unfold pk_X8_parameters
      rw [e60]
      exact ⟨fun _ => k0 s105 j105 (Or.inl (hd_n c20 hpm c21)), fun _ => ⟨fun _ => k0 s105 j105 (Or.inl (hd_n c20 hpm c21)), fun c => absurd rfl c⟩⟩⟩, fun _ => j87, fun _ => gj_expect j87 (by decide) (fun s99 j99 => j99)⟩), fun _ => trivial, fun _ => trivial⟩, fun _ => rfl, fun c => by have : (s43 3 2).toInt = -1 := j43.2.2; omega⟩
  have hHD := hd_s c20 hpm c21
  have hn2 := gt_n g43
  rw [gt_kd g43]
  refine ⟨fun y => (y.toInt ≠ 0 ↔ kd (p1 + 1) = 22), fun y60 w60 h60 => ⟨fun y => y.toInt = (if kd (p1 + 1) = 22 then 4 else 0), fun y86 h86 => ?_, fun c => by rw [if_neg (fun e => h60.2 e c)]; rfl, fun c => by rw [if_pos (h60.1 c)]; rfl⟩, fun c => ⟨fun h => absurd rfl h, fun h => absurd h c⟩, fun c => ⟨fun _ => c, fun _ => by decide⟩⟩
  have e86 : 0 ≤ y86.toInt ∧ y86.toInt ≤ 4 := by rw [h86]; split <;> omega
  have ea2 : (a2 + (1 : Int32)).toInt = res + 1 := by rw [adc i1 (by omega) (by omega), ha2]
  have em8 : ((a2 + (1 : Int32)) * (8 : Int32)).toInt = (res + 1) * 8 := by rw [m8r (by omega) (by omega), ea2]
  have em9 : (((a2 + (1 : Int32)) * (8 : Int32)) + a3).toInt = (res + 1) * 8 + lk := by rw [ad (by omega) (by omega), em8, ha3]
  have esum : ((((a2 + (1 : Int32)) * (8 : Int32)) + a3) + y86).toInt = (res + 1) * 8 + lk + (if kd (p1 + 1) = 22 then 4 else 0) := by rw [ad (by omega) (by omega), em9, h86]
  refine gu_add (a := (47, nm, sgI l, (res + 1) * 8 + lk + (if kd (p1 + 1) = 22 then 4 else 0))) g43 (by omega) (by simp) (by rw [ha1, esum, ex, sgx_int hl8 ht]; rfl) (fun _ s87 g87 e87 => ?_)
  have h23' : P23 s87 l := p23_k (p23_k h23 e43) e87
  refine ⟨fun s => (kd (p1 + 1) = 22 ∧ GTq kd n σ0 s (p1 + 1) (g ++ [gq (47, nm, sgI l, (res + 1) * 8 + lk + 4)]) ∧ P23 s l) ∨ (kd (p1 + 1) ≠ 22 ∧ kd (p1 + 1) = 27 ∧ GTq kd n σ0 s (p1 + 2) (g ++ [gq (47, nm, sgI l, (res + 1) * 8 + lk)])) ∨ (kd (p1 + 1) ≠ 22 ∧ kd (p1 + 1) ≠ 27 ∧ GJq σ0 s), ?_, fun c => ?_, fun c => ?_⟩
  rotate_left
  · have c22 := h60.1 c
    rw [if_pos c22] at g87
    exact Or.inl ⟨c22, g87, h23'⟩
  · have c22 : kd (p1 + 1) ≠ 22 := fun e => h60.2 e c
    rw [if_neg c22, Int.add_zero] at g87
    exact gt_expect t0 g87 (by decide) (fun c27 s99 g99 => Or.inr (Or.inl ⟨c22, c27, g99⟩)) (fun c27 s99 j99 => Or.inr (Or.inr ⟨c22, c27, j99⟩))
  have ev : ushr x4 (24 : Int32) = nI l.length := by rw [ex]; exact sgn_X hl8 ht
  have evn : (ushr x4 (24 : Int32)).toInt = (l.length : Int) := by rw [ev]; exact nI_toInt (by omega)
  rintro s102 (⟨c22, g102, h102⟩ | ⟨c22, c27, g102⟩ | ⟨c22, c27, j102⟩)
  · have y1 : y60 = 1 := w60.resolve_left (fun e => h60.2 c22 (by rw [e]; rfl))
    rw [y1]
    refine ⟨fun x6 s => ∃ l1 l2, l = l1 ++ l2 ∧ x6.toInt = (l1.length : Int) ∧ GTq kd n σ0 s (p1 + 1) (g ++ [gq (47, nm, sgI l, (res + 1) * 8 + lk + 4)] ++ l1.map (fun x => gq (48, x.2, (x.1 : Int), 0))) ∧ P23 s l, ⟨[], l, rfl, rfl, by show GTq kd n σ0 s102 (p1 + 1) (_ ++ []); rw [List.append_nil]; exact g102, h102⟩, ?_⟩
    rintro x6 s105 ⟨l1, l2, el, e6, g105, h105⟩
    have elen : l.length = l1.length + l2.length := by rw [el, List.length_append]
    unfold pk_X8_parameters
    dsimp only
    rw [evn]
    refine ⟨fun c => ?_, fun c => ⟨fun h => absurd h (by decide), fun _ => ?_⟩⟩
    · have : l2 = [] := List.eq_nil_of_length_eq_zero (by omega)
      rw [this, List.append_nil] at el
      rw [← el] at g105
      exact kb s105 (p1 + 1) l hHD c22 g105 (by omega) (by omega)
    · cases l2 with
      | nil =>
        rw [List.length_nil] at elen
        omega
      | cons y l3 =>
        have ey : l[l1.length]? = some y := by
          rw [el, List.getElem?_append_right (Nat.le_refl _), Nat.sub_self]
          rfl
        have e6' : x6 = nI l1.length := ieq (by rw [e6, nI_toInt (by omega)])
        unfold pk_X8_parameter
        have et : ((ushr x4 ((3 : Int32) * x6)) &&& (7 : Int32)).toInt = (y.1 : Int) := by
          rw [ex, e6']
          exact sgt_X hl8 ht ey (by omega)
        have ea : (atv 8 (s105 23) x6).toInt = (y.2 : Int) := by
          rw [atv_at e6 (by omega)]
          exact h105 _ _ ey
        refine gu_add (a := (48, y.2, (y.1 : Int), 0)) g105 (by rw [lnq_app, lnq_app, lnq_map, lnq_one (by simp)]; omega) (by simp) (by rw [ea, et]; rfl) (fun _ s140 g140 e140 => ⟨l1 ++ [y], l3, by rw [el, List.append_assoc]; rfl, by rw [ad1 (by omega), e6, List.length_append]; rfl, ?_, p23_k h105 e140⟩)
        rw [List.map_append, ← List.append_assoc]
        exact g140
  · have y0 : y60 = 0 := w60.resolve_right (fun e => c22 (h60.1 (by rw [e]; decide)))
    rw [y0]
    refine ⟨fun _ s => GTq kd n σ0 s (p1 + 2) (g ++ [gq (47, nm, sgI l, (res + 1) * 8 + lk)]), g102, fun x6 s105 g105 => ?_⟩
    unfold pk_X8_parameters
    exact ⟨fun _ => kn s105 (p1 + 1) l hHD c22 c27 g105 (by omega), fun _ => ⟨fun _ => kn s105 (p1 + 1) l hHD c22 c27 g105 (by omega), fun h => absurd rfl h⟩⟩
  · have y0 : y60 = 0 := w60.resolve_right (fun e => c22 (h60.1 (by rw [e]; decide)))
    rw [y0]
    refine ⟨fun _ s => GJq σ0 s, j102, fun x6 s105 j105 => ?_⟩
    unfold pk_X8_parameters
    exact ⟨fun _ => k0 s105 j105 (Or.inr ⟨_, _, hHD, c22, c27⟩), fun _ => ⟨fun _ => k0 s105 j105 (Or.inr ⟨_, _, hHD, c22, c27⟩), fun h => absurd rfl h⟩⟩
end SRD
