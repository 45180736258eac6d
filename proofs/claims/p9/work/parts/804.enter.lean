/-! the machine: into a function, and out of it -/
def enS (s : St) (a : Int32) : St := upC (upC (upC (upC (upC (upF (upF (upF s 64 (setv 771 (s 64) ((3 : Int32) * (s 12 7)) (s 12 8))) 64 (setv 771 ((upF s 64 (setv 771 (s 64) ((3 : Int32) * (s 12 7)) (s 12 8))) 64) (((3 : Int32) * (s 12 7)) + (1 : Int32)) (s 12 10))) 64 (setv 771 ((upF (upF s 64 (setv 771 (s 64) ((3 : Int32) * (s 12 7)) (s 12 8))) 64 (setv 771 ((upF s 64 (setv 771 (s 64) ((3 : Int32) * (s 12 7)) (s 12 8))) 64) (((3 : Int32) * (s 12 7)) + (1 : Int32)) (s 12 10))) 64) (((3 : Int32) * (s 12 7)) + (2 : Int32)) (s 12 11))) 12 7 ((s 12 7) + (1 : Int32))) 12 10 ((s 12 9) - (atv 262208 (s 24) (a + (2 : Int32))))) 12 9 (((s 12 9) - (atv 262208 (s 24) (a + (2 : Int32)))) + (atv 262208 (s 24) (a + (1 : Int32))))) 12 11 (((s 12 11) - (32 : Int32)) - (atv 262208 (s 24) a))) 12 8 (a + (4 : Int32))
theorem mul3 {x : Int32} (h0 : 0 ≤ x.toInt) (h1 : x.toInt ≤ 1000) : ((3 : Int32) * x).toInt = 3 * x.toInt := by
  have h := Int32.toInt_mul (3 : Int32) x
  rw [i3] at h
  rw [h, Int.bmod_eq_of_le] <;> omega
def ENm (σ s : St) (c hd n L : Nat) : Prop := KMm σ s ∧ (s 12 7).toInt = c + 1 ∧ (s 12 10).toInt = (σ 12 9).toInt - n ∧ (s 12 9).toInt = (σ 12 9).toInt - n + L ∧ (24576 ≤ (s 12 11).toInt ∧ (s 12 11).toInt ≤ (σ 12 11).toInt - 32) ∧ (s 12 8).toInt = hd + 4 ∧ (s 12 13) = (σ 12 13) ∧ (s 12 14).toInt = (σ 12 14).toInt + 1 ∧ (σ 12 14).toInt < (σ 12 12).toInt ∧ (∀ j, j < 3 * c → (s 64) j = (σ 64) j) ∧ (s 64) (3 * c) = (σ 12 8) ∧ (s 64) (3 * c + 1) = (σ 12 10) ∧ (s 64) (3 * c + 2) = (σ 12 11)
theorem enS_7 (s : St) (a : Int32) : enS s a 12 7 = s 12 7 + 1 := by
  unfold enS
  simp only [rdC, rdF, Nat.reduceEqDiff, if_true, if_false]
theorem enS_8 (s : St) (a : Int32) : enS s a 12 8 = a + 4 := by
  unfold enS
  simp only [rdC, rdF, Nat.reduceEqDiff, if_true, if_false]
theorem enS_9 (s : St) (a : Int32) : enS s a 12 9 = (s 12 9 - atv 262208 (s 24) (a + 2)) + atv 262208 (s 24) (a + 1) := by
  unfold enS
  simp only [rdC, rdF, Nat.reduceEqDiff, if_true, if_false]
theorem enS_10 (s : St) (a : Int32) : enS s a 12 10 = s 12 9 - atv 262208 (s 24) (a + 2) := by
  unfold enS
  simp only [rdC, rdF, Nat.reduceEqDiff, if_true, if_false]
theorem enS_11 (s : St) (a : Int32) : enS s a 12 11 = (s 12 11 - 32) - atv 262208 (s 24) a := by
  unfold enS
  simp only [rdC, rdF, Nat.reduceEqDiff, if_true, if_false]
theorem enS_j (s : St) (a : Int32) (j : Nat) (h : j = 13 ∨ j = 14 ∨ j = 12) : enS s a 12 j = s 12 j := by
  unfold enS
  rcases h with e | e | e <;> subst e <;> simp only [rdC, rdF, Nat.reduceEqDiff, if_true, if_false]
theorem enS_64 (s : St) (a : Int32) : enS s a 64 = setv 771 (setv 771 (setv 771 (s 64) ((3 : Int32) * (s 12 7)) (s 12 8)) (((3 : Int32) * (s 12 7)) + (1 : Int32)) (s 12 10)) (((3 : Int32) * (s 12 7)) + (2 : Int32)) (s 12 11) := by
  unfold enS
  rw [rdC_ne (by decide), rdC_ne (by decide), rdC_ne (by decide), rdC_ne (by decide), rdC_ne (by decide), rdF_eq, rdF_eq, rdF_eq]
section ENT
variable {κ σ s t : St} {Fs : Nat → Nat → Prop} {N : Nat} {a b : Int32}
theorem kept3 {f : Nat → Int32} {x v0 v1 v2 : Int32} {c : Nat} (hx : x.toInt = c) (hc : c ≤ 255) :
    setv 771 (setv 771 (setv 771 f ((3 : Int32) * x) v0) (((3 : Int32) * x) + (1 : Int32)) v1) (((3 : Int32) * x) + (2 : Int32)) v2 = fun j => if j = 3 * c + 2 then v2 else if j = 3 * c + 1 then v1 else if j = 3 * c then v0 else f j := by
  have m := mul3 (x := x) (by omega) (by omega)
  have e0 : ((3 : Int32) * x).toInt = (3 * c : Nat) := by omega
  have e1 : (((3 : Int32) * x) + (1 : Int32)).toInt = (3 * c + 1 : Nat) := by rw [ad0 i1 (by omega) (by omega)]; omega
  have e2 : (((3 : Int32) * x) + (2 : Int32)).toInt = (3 * c + 2 : Nat) := by rw [ad0 i2 (by omega) (by omega)]; omega
  rw [setv_at e0 (by omega), setv_at e1 (by omega), setv_at e2 (by omega)]
theorem sk_enter {CP : Int → Nat → Prop} {c hd n L : Nat} {g : Gh} {Q : St → Prop} (hc : (σ 12 7).toInt = c) (hfr : (σ 12 11).toInt ≤ 32768 - 32 * (c : Int) ∧ 0 ≤ (σ 12 11).toInt) (ha : a.toInt = hd) (F : FUNc (κ 24) CP N hd n L g) (hw : (σ 24) = (κ 24)) (hN : N ≤ 262150) (hT : (n : Int) ≤ (σ 12 9).toInt ∧ (σ 12 9).toInt ≤ 150000) (ht : 0 ≤ (σ 12 14).toInt ∧ (σ 12 14).toInt ≤ 20000)
    (k0 : ∀ s, KMm σ s → (s 12 13).toInt ≠ -1 → Q s) (k1 : ∀ s, ENm σ s c hd n L → Q s) : wk_X5_enter a b σ Q := by
  obtain ⟨f1, f2, f3, f4, f5, f6, f7, f8⟩ := F
  unfold wk_X5_enter
  refine sp_mturn (fun ltu => ⟨fun _ => ?_, fun e => absurd e (by decide)⟩) (fun s hs => ⟨fun e => absurd rfl e, fun _ => k0 s (kp_sub hs.1 rfl rfl) hs.2⟩)
  have e0 : atv 262208 (σ 24) a = κ 24 hd := by rw [hw]; exact atv_at ha (by omega)
  have e1 : atv 262208 (σ 24) (a + (1 : Int32)) = κ 24 (hd + 1) := by rw [hw]; exact atv_at (by rw [ad0 i1 (by omega) (by omega)]; omega) (by omega)
  have e2 : atv 262208 (σ 24) (a + (2 : Int32)) = κ 24 (hd + 2) := by rw [hw]; exact atv_at (by rw [ad0 i2 (by omega) (by omega)]; omega) (by omega)
  have e4 : (a + (4 : Int32)).toInt = hd + 4 := by rw [ad0 i4 (by omega) (by omega)]; omega
  have t1 : ((σ 12 14) + (1 : Int32)).toInt = (σ 12 14).toInt + 1 := ad1 (by omega)
  have x1 : ((σ 12 11) - (32 : Int32)).toInt = (σ 12 11).toInt - 32 := sbc (by decide) (by omega) (by omega)
  have x2 : (((σ 12 11) - (32 : Int32)) - atv 262208 (σ 24) a).toInt = (σ 12 11).toInt - 32 - (κ 24 hd).toInt := by rw [e0, sb (by omega) (by omega), x1]
  refine ⟨fun c1 => ?_, fun c1 => sp_mfail (by decide) (fun s hs => k0 s (kp_tr (kp_f kp_rf rfl) (kp_sub hs.1 rfl rfl)) hs.2)⟩
  have c2 : 24576 ≤ (((σ 12 11) - (32 : Int32)) - atv 262208 (σ 24) a).toInt := c1
  refine sp_copyParameters (by show (atv 262208 (σ 24) (a + (2 : Int32))).toInt ≤ 8; rw [e2, f5]; omega) (fun s hs => k1 s ?_)
  have hs' : PE (enS (upC σ 12 14 ((σ 12 14) + (1 : Int32))) a) s 0 := hs
  obtain ⟨p1, p2⟩ := hs'
  have q : ∀ j, j ≠ 9 → s 12 j = enS (upC σ 12 14 ((σ 12 14) + (1 : Int32))) a 12 j := fun j hj => p1 12 j (by
    simp only [List.contains_cons, List.contains_nil, Bool.or_false, Bool.or_eq_false_iff]
    refine ⟨?_, ?_, ?_⟩ <;> simp [hj]) rfl
  have u0 : ∀ j, j ≠ 14 → (upC σ 12 14 ((σ 12 14) + (1 : Int32))) 12 j = σ 12 j := fun j hj => rdA_ne hj
  have u24 : (upC σ 12 14 ((σ 12 14) + (1 : Int32))) 24 = σ 24 := rdC_ne (by decide)
  have u64 : (upC σ 12 14 ((σ 12 14) + (1 : Int32))) 64 = σ 64 := rdC_ne (by decide)
  have q7 : (s 12 7) = (σ 12 7) + 1 := by rw [q 7 (by decide), enS_7, u0 7 (by decide)]
  have q8 : (s 12 8) = a + (4 : Int32) := by rw [q 8 (by decide), enS_8]
  have q10 : (s 12 10) = (σ 12 9) - atv 262208 (σ 24) (a + (2 : Int32)) := by rw [q 10 (by decide), enS_10, u0 9 (by decide), u24]
  have q11 : (s 12 11) = ((σ 12 11) - (32 : Int32)) - atv 262208 (σ 24) a := by rw [q 11 (by decide), enS_11, u0 11 (by decide), u24]
  have q13 : (s 12 13) = (σ 12 13) := by rw [q 13 (by decide), enS_j _ _ 13 (Or.inl rfl), u0 13 (by decide)]
  have q14 : (s 12 14) = (σ 12 14) + 1 := by rw [q 14 (by decide), enS_j _ _ 14 (Or.inr (Or.inl rfl)), rdA_eq rfl]
  have p3 : (s 12 9).toInt = (((σ 12 9) - atv 262208 (σ 24) (a + (2 : Int32))) + atv 262208 (σ 24) (a + (1 : Int32))).toInt + 0 := by rw [p2, enS_9, u0 9 (by decide), u24]
  have qk : (s 64) = fun j => if j = 3 * c + 2 then (σ 12 11) else if j = 3 * c + 1 then (σ 12 10) else if j = 3 * c then (σ 12 8) else (σ 64) j := by
    refine (funext (fun j => p1 64 j rfl rfl)).trans ?_
    rw [enS_64, u0 7 (by decide), u0 8 (by decide), u0 10 (by decide), u0 11 (by decide), u64]
    exact kept3 hc (by omega)
  have y1 : ((σ 12 9) - atv 262208 (σ 24) (a + (2 : Int32))).toInt = (σ 12 9).toInt - n := by rw [e2, sbc f5 (by omega) (by omega)]
  refine ⟨kp_tr (b := enS (upC σ 12 14 ((σ 12 14) + (1 : Int32))) a) ?_ (kp_sub p1 rfl rfl), by rw [q7, ad1 (by omega)]; omega, by rw [q10, y1], by rw [p3, e1, adc f3 (by omega) (by omega), y1]; omega, ⟨by rw [q11]; exact c2, by rw [q11, x2]; omega⟩, by rw [q8]; exact e4, q13, by rw [q14]; exact t1, ltu, fun j hj => ?_, ?_, ?_, ?_⟩
  · unfold enS
    exact kp_f (kp_f (kp_f (kp_f (kp_f (kp_F (kp_F (kp_F (kp_f kp_rf rfl) rfl) rfl) rfl) rfl) rfl) rfl) rfl) rfl
  · rw [qk]
    show (if _ then _ else _) = _
    rw [if_neg (by omega), if_neg (by omega), if_neg (by omega)]
  · rw [qk]
    show (if _ then _ else _) = _
    rw [if_neg (by omega), if_neg (by omega), if_pos rfl]
  · rw [qk]
    show (if _ then _ else _) = _
    rw [if_neg (by omega), if_pos rfl]
  · rw [qk]
    show (if _ then _ else _) = _
    rw [if_pos rfl]
/-- a function is entered out of another -/
theorem cx_enter {c hd n L m : Nat} {g : Gh} {pc h k ah aL : Nat} {ag : Gh} {Q : St → Prop} {v : Int32} (hL : LKf κ Fs N) (C : CTx κ σ Fs N c hd n L g pc h k) (ha : a.toInt = ah) (F : FUNc (κ 24) (CPI κ Fs) N ah m aL ag) (hm : m ≤ h) (j : Jn g k pc (pc + 3) (h - m + 1)) (hv : v.toInt = pc + 3)
    (kk : ∀ s, GOx κ s Fs N (PHI σ N c g pc k) → Q s) : wk_X5_enter a b (upC σ 12 8 v) Q := by
  obtain ⟨c1, c2, c3, c4, c5, c6, c7, c8, c9, d1, d2⟩ := C
  have bn := frm_bnd _ _ _ c5
  have bh := (c7.2.2.2.2.2.2.2 pc h k c9).2.1
  have bL := c7.2.2.2.1
  obtain ⟨k', e, hr, ht⟩ := jn_lt c7 j
  have kv : KMm σ (upC σ 12 8 v) := kp_f kp_rf rfl
  have hw : ((upC σ 12 8 v) 24) = (κ 24) := funext (fun i => (c1 24 i rfl rfl))
  refine sk_enter (κ := κ) (c := c) (n := m) (L := aL) (hd := ah) c3 ⟨bn.2.2.2, by show 0 ≤ (σ 12 11).toInt; omega⟩ ha F hw hL.1 ⟨by show (m : Int) ≤ (σ 12 9).toInt; omega, by show (σ 12 9).toInt ≤ 150000; omega⟩ ⟨d2.1, by show (σ 12 14).toInt ≤ 20000; omega⟩ (fun s hs ho => kk s (Or.inl ⟨kp_tr c1 (kp_tr kv hs), ho⟩)) (fun s hs => kk s (Or.inr ?_))
  obtain ⟨e1, e2, e3, e4, e5, e6, e7, e8, e9, x1, x2, x3, x4⟩ := hs
  have o3 : ((upC σ 12 8 v) 12 9).toInt = (σ 12 9).toInt := rfl
  have o4 : ((upC σ 12 8 v) 12 11).toInt = (σ 12 11).toInt := rfl
  have o5 : ((upC σ 12 8 v) 12 13) = (σ 12 13) := rfl
  have o6 : ((upC σ 12 8 v) 12 14).toInt = (σ 12 14).toInt := rfl
  have o7 : ((upC σ 12 8 v) 12 12).toInt = (σ 12 12).toInt := rfl
  have o8 : ((upC σ 12 8 v) 12 8) = v := rfl
  have o9 : ((upC σ 12 8 v) 12 10) = (σ 12 10) := rfl
  have o10 : ((upC σ 12 8 v) 12 11) = (σ 12 11) := rfl
  have o11 : ((upC σ 12 8 v) 64) = (σ 64) := rfl
  rw [o3] at e3 e4
  rw [o4] at e5
  rw [o5] at e7
  rw [o6] at e8
  rw [o6, o7] at e9
  rw [o11] at x1
  rw [o8] at x2
  rw [o9] at x3
  rw [o10] at x4
  have q12 : (s 12 12) = (σ 12 12) := e1 12 12 rfl rfl
  obtain ⟨f1, f2, f3, f4, f5, f6, ⟨k2, f7⟩, f8⟩ := F
  have hrk := cnt_le (lwr ag k2 (ah + 4)) N
  refine ⟨c + 1, ah, m, aL, ag, ah + 4, 0, k2, ⟨kp_tr c1 (kp_tr kv e1), by rw [e7]; exact c2, by omega, by omega, ?_, e5.1, ⟨f1, f2, f3, f4, f5, f6, ⟨k2, f7⟩, f8⟩, by omega, f7, by omega, by rw [q12]; omega⟩, ?_⟩
  · obtain ⟨c', rfl⟩ : ∃ c', c = c' + 1 := ⟨c - 1, by omega⟩
    have hx2 : ((s 64) (3 * (c' + 1))).toInt = (pc + 3 : Nat) := by rw [x2, hv]; rfl
    refine ⟨hd, n, L, g, pc + 3, h - m + 1, k', (σ 12 10).toInt, (σ 12 11).toInt, c7, hx2, by rw [x3], by rw [x4], e, by omega, by omega, e5.2, frm_k _ _ _ x1 c5⟩
  · have hrk' : rk ag N k2 (ah + 4) ≤ N := hrk
    unfold PHI
    rw [q12, e8]
    have hN := hL.1
    have z : (2 * ((σ 12 12).toInt - ((σ 12 14).toInt + 1)) + ((c + 1 : Nat) : Int)) * ((N : Int) + 1) = (2 * ((σ 12 12).toInt - (σ 12 14).toInt) + (c : Int)) * ((N : Int) + 1) - ((N : Int) + 1) := by
      have : (2 * ((σ 12 12).toInt - ((σ 12 14).toInt + 1)) + ((c + 1 : Nat) : Int)) = (2 * ((σ 12 12).toInt - (σ 12 14).toInt) + (c : Int)) - 1 := by omega
      rw [this, Int.sub_mul, Int.one_mul]
    rw [z]
    omega
theorem sp_giveBack {c hd n L : Nat} {g : Gh} {pc h k : Nat} {Q : St → Prop} {v : Int32} (C : CTx κ σ Fs N c hd n L g pc h k) (hh : 1 ≤ h)
    (kk : ∀ s, GOx κ s Fs N (PHI σ N c g pc k) → Q s) : wk_X5_giveBack (upC σ 12 8 v) Q := by
  obtain ⟨c1, c2, c3, c4, c5, c6, c7, c8, c9, d1, d2⟩ := C
  have bn := frm_bnd _ _ _ c5
  have bh := (c7.2.2.2.2.2.2.2 pc h k c9).2.1
  have bL := c7.2.2.2.1
  have kv : KMm σ (upC σ 12 8 v) := kp_f kp_rf rfl
  unfold wk_X5_giveBack
  refine sk_pop ⟨by show 0 ≤ (σ 12 9).toInt; omega, by show (σ 12 9).toInt ≤ 200000; omega⟩ (fun x s1 hs1 => ?_)
  obtain ⟨p1, p2⟩ := hs1
  have q : ∀ j, j ≠ 9 → s1 12 j = upC σ 12 8 v 12 j := fun j hj => p1 12 j (by
    simp only [List.contains_cons, List.contains_nil, Bool.or_false, Bool.or_eq_false_iff]
    refine ⟨?_, ?_, ?_⟩ <;> simp [hj]) rfl
  have q7 : (s1 12 7) = (σ 12 7) := q 7 (by decide)
  have q10 : (s1 12 10) = (σ 12 10) := q 10 (by decide)
  have q12 : (s1 12 12) = (σ 12 12) := q 12 (by decide)
  have q13 : (s1 12 13) = (σ 12 13) := q 13 (by decide)
  have q14 : (s1 12 14) = (σ 12 14) := q 14 (by decide)
  have qk : (s1 64) = (σ 64) := funext (fun j => p1 64 j rfl rfl)
  have km1 : KMm κ s1 := kp_tr c1 (kp_tr kv (kp_sub p1 rfl rfl))
  have ec : ((s1 12 7) - (1 : Int32)).toInt = (c : Int) - 1 := by rw [q7, sb1 (by omega)]; omega
  refine ⟨fun pos => ?_, fun neg => ?_⟩
  · obtain ⟨c', rfl⟩ : ∃ c', c = c' + 2 := ⟨c - 2, by omega⟩
    obtain ⟨hd2, n2, L2, g2, pc2, h2, k2, l0, f0, r1, r2, r3, r4, r5, r6, r7, r8, r9⟩ := c5
    have m := mul3 (x := (s1 12 7) - (1 : Int32)) (by omega) (by omega)
    have a0 : atv 771 ((s1 64)) ((3 : Int32) * ((s1 12 7) - (1 : Int32))) = (σ 64) (3 * (c' + 1)) := by
      rw [qk]
      exact atv_at (by omega) (by omega)
    have a1 : atv 771 ((s1 64)) (((3 : Int32) * ((s1 12 7) - (1 : Int32))) + (1 : Int32)) = (σ 64) (3 * (c' + 1) + 1) := by
      rw [qk]
      exact atv_at (by rw [ad0 i1 (by omega) (by omega)]; omega) (by omega)
    have a2 : atv 771 ((s1 64)) (((3 : Int32) * ((s1 12 7) - (1 : Int32))) + (2 : Int32)) = (σ 64) (3 * (c' + 1) + 2) := by
      rw [qk]
      exact atv_at (by rw [ad0 i2 (by omega) (by omega)]; omega) (by omega)
    rw [a0, a1, a2]
    have bn2 := frm_bnd _ _ _ r9
    have bh2 := (r1.2.2.2.2.2.2.2 pc2 h2 k2 r5)
    have bL2 := r1.2.2.2.1
    refine sk_push ⟨by show 0 ≤ (s1 12 10).toInt; rw [q10]; omega, by show (s1 12 10).toInt ≤ 200000; rw [q10]; omega⟩ (fun s hs => kk s (Or.inr ?_))
    obtain ⟨w1, w2⟩ := hs
    have w : ∀ j, j ≠ 9 → s 12 j = _ := fun j hj => w1 12 j (by
      simp only [List.contains_cons, List.contains_nil, Bool.or_false, Bool.or_eq_false_iff]
      refine ⟨?_, ?_, ?_⟩ <;> simp [hj]) rfl
    have w7 : (s 12 7) = (s1 12 7) - (1 : Int32) := w 7 (by decide)
    have w8 : (s 12 8) = (σ 64) (3 * (c' + 1)) := w 8 (by decide)
    have w10 : (s 12 10) = (σ 64) (3 * (c' + 1) + 1) := w 10 (by decide)
    have w11 : (s 12 11) = (σ 64) (3 * (c' + 1) + 2) := w 11 (by decide)
    have w12 : (s 12 12) = (s1 12 12) := w 12 (by decide)
    have w13 : (s 12 13) = (s1 12 13) := w 13 (by decide)
    have w14 : (s 12 14) = (s1 12 14) := w 14 (by decide)
    have w9 : (s 12 9).toInt = (s1 12 10).toInt + 1 := w2
    have wk : (s 64) = (σ 64) := (funext (fun j => w1 64 j rfl rfl)).trans qk
    refine ⟨c' + 1, hd2, n2, L2, g2, pc2, h2, k2, ⟨kp_tr km1 (kp_tr (kp_f (kp_f (kp_f (kp_f (kp_f kp_rf rfl) rfl) rfl) rfl) rfl) (kp_sub w1 rfl rfl)), by rw [w13, q13]; exact c2, by rw [w7, ec]; omega, by omega, ?_, by rw [w11]; omega, r1, by rw [w8]; exact r2, r5, by rw [w9, w10, q10]; omega, by rw [w12, w14, q12, q14]; exact d2⟩, ?_⟩
    · rw [w10, w11, r3, r4]
      exact frm_k _ _ _ (fun j _ => by rw [wk]) r9
    · have hrk : rk g2 N k2 pc2 ≤ N := cnt_le _ _
      unfold PHI
      rw [w12, w14, q12, q14]
      have z : (2 * ((σ 12 12).toInt - (σ 12 14).toInt) + ((c' + 1 : Nat) : Int)) * ((N : Int) + 1) = (2 * ((σ 12 12).toInt - (σ 12 14).toInt) + ((c' + 2 : Nat) : Int)) * ((N : Int) + 1) - ((N : Int) + 1) := by
        have : (2 * ((σ 12 12).toInt - (σ 12 14).toInt) + ((c' + 1 : Nat) : Int)) = (2 * ((σ 12 12).toInt - (σ 12 14).toInt) + ((c' + 2 : Nat) : Int)) - 1 := by omega
        rw [this, Int.sub_mul, Int.one_mul]
      rw [z]
      omega
  · exact kk _ (Or.inl ⟨kp_tr km1 (kp_f (kp_f (kp_f (kp_f (kp_f (kp_f (kp_f kp_rf rfl) rfl) rfl) rfl) rfl) rfl) rfl), by show (0 : Int32).toInt ≠ -1; decide⟩)
end ENT
