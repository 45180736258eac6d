/-! feed() and end(), both sides -/
/-- the i-th byte of a word -/
def wbx (a : Int32) (i : Nat) : Int32 := vp_nar .byte (a >>> ((nI (24 - 8 * i)) &&& 31)).toInt8.toInt32
def FBv (a1 a2 a3 a4 a5 : Int32) (k : Nat) : Int32 := if k < 4 then wbx a1 k else if k < 8 then wbx a2 (k - 4) else if k < 12 then wbx a3 (k - 8) else if k < 16 then wbx a4 (k - 12) else wbx a5 (k - 16)
/-- what feed() leaves -/
def FDt (a1 a2 a3 a4 a5 : Int32) (w t : St) : Prop := (16000 < (w 0 1).toInt + 20 → t = w) ∧ ((w 0 1).toInt + 20 ≤ 16000 → (t 0 1).toInt = (w 0 1).toInt + 20 ∧ (t 0 2).toInt = (w 0 2).toInt + 20 ∧ (∀ c j, c ≠ 1 → (c, j) ≠ (0, 1) → (c, j) ≠ (0, 2) → t c j = w c j) ∧ ∀ j : Nat, t 1 j = if (w 0 1).toInt ≤ j ∧ (j : Int) < (w 0 1).toInt + 20 then FBv a1 a2 a3 a4 a5 (j - (w 0 1).toInt.toNat) else w 1 j)
/-- what end() leaves -/
def ENt (a : Int32) (w t : St) : Prop := t = if 0 ≤ a.toInt ∧ a.toInt ≤ (w 0 1).toInt then upC w 0 1 a else w
section FEE
variable {w σ s t τ : St} {vs z : List Nat} {a a1 a2 a3 a4 a5 x : Int32} {H i : Nat} {o : Nat}
theorem fd_sh : ∀ i, i < 20 → ((24 : Int32) - ((8 : Int32) * (nI i - nI i / (4 : Int32) * (4 : Int32)))) = nI (24 - 8 * (i % 4)) := by decide +kernel
theorem kp_ne (k : Kp [(0, 1), (0, 2)] [1] w t) : ∀ c j, c ≠ 1 → (c, j) ≠ (0, 1) → (c, j) ≠ (0, 2) → t c j = w c j := fun c j h1 h2 h3 => k c j (by
  simp only [List.contains_cons, List.contains_nil, Bool.or_false, Bool.or_eq_false_iff, beq_eq_false_iff_ne, ne_eq]
  exact ⟨h2, h3⟩) (by
  simp only [List.contains_cons, List.contains_nil, Bool.or_false, beq_eq_false_iff_ne, ne_eq]
  exact h1)
theorem px_take {Q : St → Prop} (hH : (σ 0 1).toInt = (H : Int)) (hb : H + 4 ≤ 16000) (k : ∀ s, (s 0 1).toInt = ((H + 4 : Nat) : Int) → Kp [(0, 1)] [1] σ s → (∀ j : Nat, s 1 j = if H ≤ j ∧ j < H + 4 then wbx a (j - H) else σ 1 j) → Q s) : pk_X12_takeBytes a σ Q := by
  unfold pk_X12_takeBytes
  refine ⟨fun x s => ∃ i : Nat, i ≤ 4 ∧ x.toInt = 24 - 8 * (i : Int) ∧ (s 0 1).toInt = ((H + i : Nat) : Int) ∧ Kp [(0, 1)] [1] σ s ∧ ∀ j : Nat, s 1 j = if H ≤ j ∧ j < H + i then wbx a (j - H) else σ 1 j, ⟨0, by decide, by decide, hH, kp_rf, fun j => by rw [if_neg (by omega)]⟩, ?_⟩
  rintro x s ⟨i, hi, hx, h1, ks, hf⟩
  refine ⟨fun c => ?_, fun c => ⟨fun c1 => ?_, fun c1 _ => ?_⟩⟩
  · have : i = 4 := by omega
    rw [this] at h1 hf
    exact k s h1 ks hf
  · omega
  · have en : (s 0 1).toNatClampNeg = H + i := nat_of h1
    have ex : x = nI (24 - 8 * i) := ieq (by rw [nI_toInt (by omega), hx]; omega)
    refine ⟨i + 1, by omega, by rw [dc8 (by omega), hx]; omega, by rw [rdA_eq rfl, ad1 (by omega), h1]; omega, kp_f (kp_a ks rfl) rfl, fun j => ?_⟩
    rw [rdC_ne (by decide), rdC_eq, en]
    show (if j = H + i then _ else s 1 j) = _
    by_cases cj : j = H + i
    · rw [if_pos cj, if_pos (by omega), ex]
      have : j - H = i := by omega
      rw [this]
      rfl
    · rw [if_neg cj, hf]
      by_cases c2 : H ≤ j ∧ j < H + i
      · rw [if_pos c2, if_pos (by omega)]
      · rw [if_neg c2, if_neg (by omega)]
theorem fb_five {f f1 f2 f3 f4 f5 : Nat → Int32} (h1 : ∀ j : Nat, f1 j = if H ≤ j ∧ j < H + 4 then wbx a1 (j - H) else f j) (h2 : ∀ j : Nat, f2 j = if H + 4 ≤ j ∧ j < H + 4 + 4 then wbx a2 (j - (H + 4)) else f1 j) (h3 : ∀ j : Nat, f3 j = if H + 8 ≤ j ∧ j < H + 8 + 4 then wbx a3 (j - (H + 8)) else f2 j) (h4 : ∀ j : Nat, f4 j = if H + 12 ≤ j ∧ j < H + 12 + 4 then wbx a4 (j - (H + 12)) else f3 j) (h5 : ∀ j : Nat, f5 j = if H + 16 ≤ j ∧ j < H + 16 + 4 then wbx a5 (j - (H + 16)) else f4 j) (j : Nat) : f5 j = if H ≤ j ∧ j < H + 20 then FBv a1 a2 a3 a4 a5 (j - H) else f j := by
  rw [h5, h4, h3, h2, h1]
  by_cases c : H ≤ j ∧ j < H + 20
  · rw [if_pos c]
    unfold FBv
    by_cases b1 : j - H < 4
    · rw [if_neg (by omega), if_neg (by omega), if_neg (by omega), if_neg (by omega), if_pos (by omega), if_pos b1]
    rw [if_neg b1]
    by_cases b2 : j - H < 8
    · rw [if_neg (by omega), if_neg (by omega), if_neg (by omega), if_pos (by omega), if_pos b2, show j - (H + 4) = j - H - 4 from by omega]
    rw [if_neg b2]
    by_cases b3 : j - H < 12
    · rw [if_neg (by omega), if_neg (by omega), if_pos (by omega), if_pos b3, show j - (H + 8) = j - H - 8 from by omega]
    rw [if_neg b3]
    by_cases b4 : j - H < 16
    · rw [if_neg (by omega), if_pos (by omega), if_pos b4, show j - (H + 12) = j - H - 12 from by omega]
    rw [if_neg b4, if_pos (by omega), show j - (H + 16) = j - H - 16 from by omega]
  · rw [if_neg c, if_neg (by omega), if_neg (by omega), if_neg (by omega), if_neg (by omega), if_neg (by omega)]
theorem px_feed {Q : Int32 → St → Prop} (h : IVx w o) (hF : (w 0 2).toInt ≤ 60000) (k : ∀ v t, FDt a1 a2 a3 a4 a5 w t → Q v t) : pk_X12_feed a1 a2 a3 a4 a5 w Q := by
  have f := h.2.2.2.2.1
  unfold FDx at f
  have e20 : ((20 : Int32)).toInt = 20 := rfl
  have q1 : ((w 0 1) + (20 : Int32)).toInt = (w 0 1).toInt + 20 := ad0 e20 (by omega) (by omega)
  have q2 : ((w 0 2) + (20 : Int32)).toInt = (w 0 2).toInt + 20 := ad0 e20 (by omega) (by omega)
  obtain ⟨H, hH⟩ : ∃ H : Nat, (w 0 1).toInt = (H : Int) := ⟨(w 0 1).toInt.toNat, by omega⟩
  unfold pk_X12_feed
  rw [q1, q2]
  refine ⟨fun c => k _ _ ⟨fun _ => rfl, fun hx => by omega⟩, fun c1 => ⟨fun _ => ?_, fun hx => by omega⟩⟩
  refine px_take hH (by omega) (fun s1 p1 k1 b1 => ?_)
  refine px_take p1 (by omega) (fun s2 p2 k2 b2 => ?_)
  refine px_take p2 (by omega) (fun s3 p3 k3 b3 => ?_)
  refine px_take p3 (by omega) (fun s4 p4 k4 b4 => ?_)
  refine px_take p4 (by omega) (fun s5 p5 k5 b5 => ?_)
  have kk : Kp [(0, 1)] [1] w s5 := kp_tr (kp_tr (kp_tr (kp_tr k1 k2) k3) k4) k5
  have e02 : s5 0 2 = w 0 2 := kk 0 2 rfl rfl
  refine k _ _ ⟨fun hx => by omega, fun _ => ⟨?_, ?_, kp_ne (kp_f (kp_sub kk rfl rfl) rfl), fun j => ?_⟩⟩
  · rw [rdA_ne (by decide), p5, hH]; rfl
  · rw [rdA_eq rfl, e02, q2]
  · rw [rdC_ne (by decide), fb_five b1 b2 b3 b4 b5 j, hH]
    by_cases c : H ≤ j ∧ j < H + 20
    · rw [if_pos c, if_pos (by omega)]
      rfl
    · rw [if_neg c, if_neg (by omega)]
theorem rx_feed {Q : Int32 → St → St → List Nat → Prop} (h : GLI σ τ vs) (hF : (σ 0 2).toInt ≤ 10220) (k : ∀ v s t z, FDt a1 a2 a3 a4 a5 σ s → Q v s t z) : pp_feed a1 a2 a3 a4 a5 σ τ vs Q := by
  obtain ⟨⟨⟨t1, t2⟩, -, ⟨n1, n2⟩, -⟩, -⟩ := h
  have e20 : ((20 : Int32)).toInt = 20 := rfl
  have q1 : ((σ 0 1) + (20 : Int32)).toInt = (σ 0 1).toInt + 20 := ad0 e20 (by omega) (by omega)
  have q2 : ((σ 0 2) + (20 : Int32)).toInt = (σ 0 2).toInt + 20 := ad0 e20 (by omega) (by omega)
  obtain ⟨H, hH⟩ : ∃ H : Nat, (σ 0 1).toInt = (H : Int) := ⟨(σ 0 1).toInt.toNat, by omega⟩
  unfold pp_feed
  rw [q1, q2]
  refine ⟨fun c => k _ _ _ _ ⟨fun _ => rfl, fun hx => by omega⟩, fun c1 => ⟨fun _ => ?_, fun hx => by omega⟩⟩
  refine ⟨fun x s t z => ∃ i : Nat, i ≤ 20 ∧ x.toInt = (i : Int) ∧ Kp [] [1] σ s ∧ ∀ j : Nat, s 1 j = if H ≤ j ∧ j < H + i then FBv a1 a2 a3 a4 a5 (j - H) else σ 1 j, ⟨0, by decide, by decide, kp_rf, fun j => by rw [if_neg (by omega)]⟩, ?_⟩
  rintro x s t z ⟨i, hi, hx, ks, hf⟩
  have e01 : s 0 1 = σ 0 1 := ks 0 1 rfl rfl
  have e02 : s 0 2 = σ 0 2 := ks 0 2 rfl rfl
  rw [e01, e02]
  refine ⟨fun c => ?_, fun c => ?_⟩
  · have ei : i = 20 := by omega
    rw [ei] at hf
    refine k _ _ _ _ ⟨fun hx => by omega, fun _ => ⟨?_, ?_, kp_ne (kp_f (kp_f (kp_sub ks rfl rfl) rfl) rfl), fun j => ?_⟩⟩
    · rw [rdA_ne (by decide), rdA_eq rfl, q1]
    · rw [rdA_eq rfl, q2]
    · rw [rdC_ne (by decide), rdC_ne (by decide), hf, hH]
      by_cases c : H ≤ j ∧ j < H + 20
      · rw [if_pos c, if_pos (by omega)]
        rfl
      · rw [if_neg c, if_neg (by omega)]
  · have ex : x = nI i := ieq (by rw [nI_toInt (by omega), hx])
    have e1 : ((σ 0 1) + x).toInt = ((H + i : Nat) : Int) := by rw [ad (by omega) (by omega), hH, hx]; rfl
    have en : ((σ 0 1) + x).toNatClampNeg = H + i := nat_of e1
    rw [en]
    refine ⟨fun y => y = if i < 4 then a1 else if i < 8 then a2 else if i < 12 then a3 else if i < 16 then a4 else a5, fun y hy _ => ?_, fun c4 => ⟨fun c8 => ⟨fun c12 => ⟨fun c16 => ?_, fun c16 => ?_⟩, fun c12 => ?_⟩, fun c8 => ?_⟩, fun c4 => ?_⟩
    · refine ⟨i + 1, by omega, by rw [ad1 (by omega), hx]; rfl, kp_a ks rfl, fun j => ?_⟩
      rw [rdC_eq]
      show (if j = H + i then _ else s 1 j) = _
      by_cases cj : j = H + i
      · rw [if_pos cj, if_pos (by omega), ex, fd_sh i (by omega)]
        have ej : j - H = i := by omega
        rw [ej, hy]
        unfold FBv
        by_cases b1 : i < 4
        · rw [if_pos b1, if_pos b1, show i % 4 = i from by omega]
          rfl
        rw [if_neg b1, if_neg b1]
        by_cases b2 : i < 8
        · rw [if_pos b2, if_pos b2, show i % 4 = i - 4 from by omega]
          rfl
        rw [if_neg b2, if_neg b2]
        by_cases b3 : i < 12
        · rw [if_pos b3, if_pos b3, show i % 4 = i - 8 from by omega]
          rfl
        rw [if_neg b3, if_neg b3]
        by_cases b4 : i < 16
        · rw [if_pos b4, if_pos b4, show i % 4 = i - 12 from by omega]
          rfl
        rw [if_neg b4, if_neg b4, show i % 4 = i - 16 from by omega]
        rfl
      · rw [if_neg cj, hf]
        by_cases c2 : H ≤ j ∧ j < H + i
        · rw [if_pos c2, if_pos (by omega)]
        · rw [if_neg c2, if_neg (by omega)]
    · rw [if_neg (by omega), if_neg (by omega), if_neg (by omega), if_neg (by omega)]
    · rw [if_neg (by omega), if_neg (by omega), if_neg (by omega), if_pos (by omega)]
    · rw [if_neg (by omega), if_neg (by omega), if_pos (by omega)]
    · rw [if_neg (by omega), if_pos (by omega)]
    · rw [if_pos (by omega)]
theorem px_end {Q : Int32 → St → Prop} (k : ∀ v t, ENt a w t → Q v t) : pk_X12_end a w Q := by
  unfold pk_X12_end
  refine ⟨fun c => k _ _ ?_, fun c => ⟨fun c1 => k _ _ ?_, fun c1 => k _ _ ?_⟩⟩
  · unfold ENt; rw [if_neg (by omega)]
  · unfold ENt; rw [if_pos ⟨c, c1⟩]
  · unfold ENt; rw [if_neg (by omega)]
theorem rx_end {Q : Int32 → St → St → List Nat → Prop} (k : ∀ v s t z, ENt a σ s → Q v s t z) : pp_end a σ τ vs Q := by
  unfold pp_end
  refine ⟨fun c => k _ _ _ _ ?_, fun c => ⟨fun c1 => k _ _ _ _ ?_, fun c1 => k _ _ _ _ ?_⟩⟩
  · unfold ENt; rw [if_neg (by omega)]
  · unfold ENt; rw [if_pos ⟨c, c1⟩]
  · unfold ENt; rw [if_neg (by omega)]
end FEE
