/-! tokens: rows -/
abbrev KTk (a b : St) : Prop := Kp [(2, 2), (2, 3), (2, 4)] [13, 14, 15, 16] a b
/-- so many tokens are read; the next one begins at the position, or behind it -/
def TRa (σ : St) (n : Nat) : Prop := (0 ≤ (σ 2 1).toInt ∧ (σ 2 1).toInt ≤ 16000) ∧ (0 ≤ (σ 2 2).toInt ∧ (σ 2 2).toInt ≤ (σ 2 1).toInt) ∧ PLA σ ∧ NMr σ ∧ (σ 2 4).toInt = n ∧
  (∀ j, j < n → (0 ≤ ((σ 15) j).toInt ∧ ((σ 15) j).toInt ≤ (σ 2 1).toInt) ∧ 2 ≤ ((σ 13) j).toInt ∧ ((σ 13) j).toInt ≤ 62) ∧
  (∀ j, j < n → ∀ nx : Int, nx = (if j + 1 < n then ((σ 15) (j + 1)).toInt else (σ 2 2).toInt) → ((σ 15) j).toInt + 1 ≤ nx ∧ (((σ 13) j).toInt = 2 → 1 ≤ ((σ 14) j).toInt ∧ ((σ 15) j).toInt + ((σ 14) j).toInt ≤ nx) ∧ (((σ 13) j).toInt = 4 → 0 ≤ ((σ 14) j).toInt ∧ ((σ 14) j).toInt ≤ 200 ∧ ((σ 15) j).toInt + ((σ 14) j).toInt + 2 ≤ nx))
def TEn (s : St) : Prop := TKc s ∧ PLA s ∧ NMr s
section SCN
variable {σ s z t ρ : St} {n m i j : Nat} {x y v a a1 a2 a3 : Int32}
theorem sp_byte {Q : Int32 → Prop} (k : ∀ v : Int32, (0 ≤ v.toInt → 0 ≤ x.toInt ∧ x.toInt < (σ 2 1).toInt) → Q v) : wk_X10_byteAt x σ Q := by
  unfold wk_X10_byteAt
  have m1 : ∀ P : Prop, 0 ≤ ((-1 : Int32)).toInt → P := fun P h => absurd h (by decide)
  exact ⟨fun _ => k _ (m1 _), fun c => ⟨fun _ => k _ (m1 _), fun c1 => ⟨fun _ => k _ (m1 _), fun c2 => ⟨⟨c, c2⟩, k _ (fun _ => ⟨c, c1⟩)⟩⟩⟩⟩
/-- one more row -/
def ADt (σ s : St) (n : Nat) (a1 a2 a3 : Int32) : Prop := KTk σ s ∧ (s 2 4).toInt = n + 1 ∧ (s 2 2) = (σ 2 2) + a3 ∧ (∀ j, j ≠ n → (s 13) j = (σ 13) j ∧ (s 14) j = (σ 14) j ∧ (s 15) j = (σ 15) j) ∧ (s 13) n = a1 ∧ (s 14) n = a2 ∧ (s 15) n = (σ 2 2)
theorem sp_tadd0 {Q : Int32 → St → Prop} (hc : (σ 2 4).toInt = n) (hn : n < 16002) (k : ∀ s, ADt σ s n a1 a2 a3 → Q 1 s) : wk_X10_add a1 a2 a3 σ Q := by
  have en : (σ 2 4).toNatClampNeg = n := by rw [nt', hc]; rfl
  unfold wk_X10_add
  refine ⟨fun s => s = upC (upC (upC (upC (upC σ 13 n a1) 14 n a2) 15 n (σ 2 2)) 16 n (σ 2 3)) 2 4 ((σ 2 4) + (1 : Int32)), fun s hs => ?_, fun c => by omega, fun _ => ⟨fun c => by omega, fun _ => ⟨fun c => by omega, fun _ => ⟨fun c => by omega, fun _ => ⟨fun c => by omega, fun _ => ⟨⟨by omega, by omega⟩, ⟨by omega, by omega⟩, ⟨by omega, by omega⟩, ⟨by omega, by omega⟩, by rw [en]⟩⟩⟩⟩⟩⟩
  subst hs
  refine k _ ⟨kp_f (kp_f (kp_a (kp_a (kp_a (kp_a kp_rf rfl) rfl) rfl) rfl) rfl) rfl, ?_, ?_, fun j hj => ⟨?_, ?_, ?_⟩, ?_, ?_, ?_⟩
  · rw [rdA_ne (by decide), rdA_eq rfl]
    show ((σ 2 4) + (1 : Int32)).toInt = _
    rw [ad0 i1 (by omega) (by omega)]
    omega
  · rw [rdA_eq rfl]
    rfl
  · rw [rdC_ne (by decide), rdC_ne (by decide), rdC_ne (by decide), rdC_ne (by decide), rdC_ne (by decide), rdA_ne hj]
  · rw [rdC_ne (by decide), rdC_ne (by decide), rdC_ne (by decide), rdC_ne (by decide), rdA_ne hj, rdC_ne (by decide)]
  · rw [rdC_ne (by decide), rdC_ne (by decide), rdC_ne (by decide), rdA_ne hj, rdC_ne (by decide), rdC_ne (by decide)]
  · rw [rdC_ne (by decide), rdC_ne (by decide), rdC_ne (by decide), rdC_ne (by decide), rdC_ne (by decide), rdA_eq rfl]
  · rw [rdC_ne (by decide), rdC_ne (by decide), rdC_ne (by decide), rdC_ne (by decide), rdA_eq rfl]
  · rw [rdC_ne (by decide), rdC_ne (by decide), rdC_ne (by decide), rdA_eq rfl]
/-- a token -/
theorem sp_tadd {Q : Int32 → St → Prop} (tr : TRa σ n) (hn : n ≤ 16000) (h1 : 2 ≤ a1.toInt ∧ a1.toInt ≤ 62) (h3 : 1 ≤ a3.toInt ∧ (σ 2 2).toInt + a3.toInt ≤ (σ 2 1).toInt) (hN : a1.toInt = 2 → 1 ≤ a2.toInt ∧ a2.toInt ≤ a3.toInt) (hS : a1.toInt = 4 → 0 ≤ a2.toInt ∧ a2.toInt ≤ 200 ∧ a2.toInt + 2 ≤ a3.toInt) (k : ∀ s, KTk σ s → TRa s (n + 1) → Q 1 s) : wk_X10_add a1 a2 a3 σ Q := by
  obtain ⟨t1, t2, t3, t4, t5, t6, t7⟩ := tr
  refine sp_tadd0 t5 (by omega) (fun s ad => k s ad.1 ?_)
  obtain ⟨d1, d2, d3, d4, d5, d6, d7⟩ := ad
  have es : s 2 1 = σ 2 1 := d1 2 1 rfl rfl
  have ep : (s 2 2).toInt = (σ 2 2).toInt + a3.toInt := by rw [d3, ad (by omega) (by omega)]
  refine ⟨by rw [es]; exact t1, by rw [es, ep]; omega, fun j => ?_, fun j hj => ?_, by rw [d2]; omega, fun j hj => ?_, fun j hj nx hnx => ?_⟩
  · by_cases e : j = n
    · rw [e, d7]
      omega
    · rw [(d4 j e).2.2]
      exact t3 j
  · by_cases e : j = n
    · rw [e, d5] at hj
      rw [e, d6, d7]
      have := hN hj
      omega
    · obtain ⟨q1, q2, q3⟩ := d4 j e
      rw [q1] at hj
      rw [q2, q3]
      exact t4 j hj
  · by_cases e : j = n
    · rw [e, d5, d7, es]
      omega
    · obtain ⟨q1, q2, q3⟩ := d4 j e
      rw [q1, q3, es]
      exact t6 j (by omega)
  · by_cases e : j = n
    · rw [e, if_neg (by omega)] at hnx
      rw [e, d5, d6, d7, hnx, ep]
      refine ⟨by omega, fun c => ?_, fun c => ?_⟩
      · have := hN c
        omega
      · have := hS c
        omega
    · obtain ⟨q1, q2, q3⟩ := d4 j e
      rw [q1, q2, q3]
      have hj' : j < n := by omega
      refine t7 j hj' nx ?_
      rw [if_pos (by omega)] at hnx
      rw [hnx]
      by_cases e2 : j + 1 < n
      · rw [if_pos e2, (d4 (j + 1) (by omega)).2.2]
      · rw [if_neg e2, show j + 1 = n from by omega, d7]
/-- the last token: the text's end, or what is none -/
theorem sp_tend {Q : Int32 → St → Prop} (tr : TRa σ n) (hn : n ≤ 16000) (h1 : a1.toInt = 0 ∨ a1.toInt = 1) (k : ∀ s, KTk σ s → TEn s → Q 1 s) : wk_X10_add a1 (0 : Int32) (0 : Int32) σ Q := by
  obtain ⟨t1, t2, t3, t4, t5, t6, t7⟩ := tr
  refine sp_tadd0 t5 (by omega) (fun s ad => k s ad.1 ?_)
  obtain ⟨d1, d2, d3, d4, d5, d6, d7⟩ := ad
  have es : s 2 1 = σ 2 1 := d1 2 1 rfl rfl
  refine ⟨⟨by rw [d2, es]; omega, fun j hj => ?_, fun j hj hk => ?_⟩, fun j => ?_, fun j hj => ?_⟩
  · rw [d2] at hj
    by_cases e : j = n
    · rw [e, d5, d7, es]
      omega
    · obtain ⟨q1, q2, q3⟩ := d4 j e
      have := t6 j (by omega)
      rw [q1, q3, es]
      omega
  · rw [d2] at hj
    have e : j ≠ n := fun e => by rw [e, d5] at hk; omega
    obtain ⟨q1, q2, q3⟩ := d4 j e
    have hj' : j < n := by omega
    rw [d2, q1, q2, q3]
    refine ⟨by omega, ?_⟩
    refine t7 j hj' _ ?_
    by_cases e2 : j + 1 < n
    · rw [if_pos e2, (d4 (j + 1) (by omega)).2.2]
    · rw [if_neg e2, show j + 1 = n from by omega, d7]
  · by_cases e : j = n
    · rw [e, d7]
      omega
    · rw [(d4 j e).2.2]
      exact t3 j
  · by_cases e : j = n
    · rw [e, d5] at hj
      omega
    · obtain ⟨q1, q2, q3⟩ := d4 j e
      rw [q1] at hj
      rw [q2, q3]
      exact t4 j hj
theorem tr_pos (tr : TRa σ n) (k : Kp [(2, 2), (2, 3)] [] σ s) (hp : (σ 2 2).toInt ≤ (s 2 2).toInt ∧ (s 2 2).toInt ≤ (σ 2 1).toInt) : TRa s n := by
  obtain ⟨t1, t2, t3, t4, t5, t6, t7⟩ := tr
  have es : s 2 1 = σ 2 1 := k 2 1 rfl rfl
  have e13 : s 13 = σ 13 := funext (fun j => k 13 j rfl rfl)
  have e14 : s 14 = σ 14 := funext (fun j => k 14 j rfl rfl)
  have e15 : s 15 = σ 15 := funext (fun j => k 15 j rfl rfl)
  refine ⟨by rw [es]; exact t1, by rw [es]; omega, by unfold PLA; rw [e15]; exact t3, by unfold NMr; rw [e13, e14, e15]; exact t4, by rw [show s 2 4 = σ 2 4 from k 2 4 rfl rfl]; exact t5, fun j hj => by rw [e13, e15, es]; exact t6 j hj, fun j hj nx hnx => ?_⟩
  rw [e13, e14, e15]
  rw [e15] at hnx
  by_cases e2 : j + 1 < n
  · rw [if_pos e2] at hnx
    exact t7 j hj nx (by rw [if_pos e2]; exact hnx)
  · rw [if_neg e2] at hnx
    obtain ⟨q1, q2, q3⟩ := t7 j hj (σ 2 2).toInt (by rw [if_neg e2])
    refine ⟨by omega, fun c => ?_, fun c => ?_⟩
    · have := q2 c
      omega
    · have := q3 c
      omega
theorem sp_tbad {Q : Int32 → St → Prop} (tr : TRa σ n) (hn : n ≤ 16000) (hp : (σ 2 2).toInt ≤ a1.toInt ∧ a1.toInt ≤ (σ 2 1).toInt) (k : ∀ s, KTk σ s → TEn s → Q 0 s) : wk_X10_bad a1 σ Q := by
  unfold wk_X10_bad
  have kp1 : Kp [(2, 2), (2, 3)] [] σ (upC σ 2 2 a1) := kp_f kp_rf rfl
  refine sp_tend (tr_pos tr kp1 (by rw [rdA_eq rfl]; exact hp)) hn (Or.inr rfl) (fun s ks te => k s (kp_tr (kp_sub kp1 rfl rfl) ks) te)
theorem sp_mayOccur {Q : Int32 → Prop} (k : ∀ v, Q v) : wk_X10_mayOccur x σ Q := ⟨True, fun _ => ⟨fun _ => k _, fun _ => ⟨fun _ => k _, fun _ => ⟨fun _ => k _, fun _ => k _⟩⟩⟩, fun _ => trivial, fun _ => ⟨fun _ => k _, fun _ => trivial⟩⟩
theorem sp_skipComment {Q : Int32 → St → Prop} (tr : TRa σ n) (hn : n ≤ 16000) (k0 : ∀ s, KTk σ s → TEn s → Q 0 s) (k1 : ∀ s, KTk σ s → TRa s n → Q 1 s) : wk_X10_skipComment σ Q := by
  have t1 := tr.1
  have t2 := tr.2.1
  have e2 : ((σ 2 2) + (2 : Int32)).toInt = (σ 2 2).toInt + 2 := ad0 i2 (by omega) (by omega)
  unfold wk_X10_skipComment
  refine ⟨fun q y s => q = (16010 - y.toInt).toNat ∧ ((σ 2 2).toInt ≤ y.toInt ∧ y.toInt ≤ 16002) ∧ Kp [(2, 3)] [] σ s, ⟨_, rfl, by rw [e2]; omega, kp_rf⟩, ?_⟩
  rintro q y s ⟨hq, hy, ks⟩
  have ks2 : Kp [(2, 2), (2, 3)] [] σ s := kp_sub ks rfl rfl
  have es : s 2 1 = σ 2 1 := ks 2 1 rfl rfl
  have ep : s 2 2 = σ 2 2 := ks 2 2 rfl rfl
  have trs : TRa s n := tr_pos tr ks2 (by rw [ep]; omega)
  have kk : KTk σ s := kp_sub ks rfl rfl
  refine ⟨fun _ => sp_tbad trs hn (by rw [ep, es]; omega) (fun u ku te => k0 u (kp_tr kk ku) te), fun c => sp_byte (fun v17 h17 => sp_mayOccur (fun v22 => ⟨fun _ => ?_, fun _ => sp_tbad trs hn (by rw [ep, es]; rw [es] at c; omega) (fun u ku te => k0 u (kp_tr kk ku) te)⟩))⟩
  rw [es] at c
  have up : (y + 1).toInt = y.toInt + 1 := ad1 (by omega)
  refine ⟨fun _ => True, fun y2 _ _ => ⟨True, fun _ => ⟨(16010 - (y + 1).toInt).toNat, by rw [up]; omega, rfl, by rw [up]; omega, kp_f ks rfl⟩, fun _ => trivial, fun _ => sp_byte (fun v64 h64 => ⟨fun _ => trivial, fun c47 => ?_⟩)⟩, fun _ => trivial, fun _ => trivial⟩
  generalize hu : upC (upC s 2 3 ((s 2 3) + y2)) 2 2 (y + (2 : Int32)) = u
  have ku : Kp [(2, 2), (2, 3)] [] σ u := by rw [← hu]; exact kp_f (kp_f ks2 rfl) rfl
  have pu : (u 2 2).toInt = y.toInt + 2 := by
    rw [← hu, rdA_eq rfl]
    exact ad0 i2 (by omega) (by omega)
  have h1 : (y + (1 : Int32)).toInt = y.toInt + 1 := up
  have h2 := (h64 (by omega)).2
  have h2' : (y + (1 : Int32)).toInt < ((upC s 2 3 ((s 2 3) + y2)) 2 1).toInt := h2
  rw [h1, rdA_ne (by decide), es] at h2'
  exact k1 u (kp_sub ku rfl rfl) (tr_pos tr ku (by rw [pu]; omega))
theorem sp_skipLine {Q : Int32 → St → Prop} (tr : TRa σ n) (hn : n ≤ 16000) (k0 : ∀ s, KTk σ s → TEn s → Q 0 s) (k1 : ∀ s, KTk σ s → TRa s n → Q 1 s) : wk_X10_skipLine σ Q := by
  have t1 := tr.1
  have t2 := tr.2.1
  unfold wk_X10_skipLine
  refine ⟨fun q s => q = (16010 - (s 2 2).toInt).toNat ∧ ((σ 2 2).toInt ≤ (s 2 2).toInt ∧ (s 2 2).toInt ≤ (σ 2 1).toInt) ∧ Kp [(2, 2), (2, 3)] [] σ s, ⟨_, rfl, by omega, kp_rf⟩, ?_⟩
  rintro q s ⟨hq, hy, ks⟩
  have es : s 2 1 = σ 2 1 := ks 2 1 rfl rfl
  have trs : TRa s n := tr_pos tr ks hy
  have kk : KTk σ s := kp_sub ks rfl rfl
  refine ⟨fun _ => k1 s kk trs, fun c => sp_byte (fun v16 h16 => ⟨fun _ => k1 s kk trs, fun _ => sp_byte (fun v29 h29 => sp_mayOccur (fun v32 => ⟨fun _ => ?_, fun _ => sp_tbad trs hn (by rw [es]; omega) (fun u ku te => k0 u (kp_tr kk ku) te)⟩))⟩)⟩
  rw [es] at c
  have up : ((upC s 2 2 ((s 2 2) + (1 : Int32))) 2 2).toInt = (s 2 2).toInt + 1 := by
    rw [rdA_eq rfl]
    exact ad0 i1 (by omega) (by omega)
  exact ⟨_, by omega, rfl, by rw [up]; omega, kp_f ks rfl⟩
theorem sp_skipBlanks {Q : Int32 → St → Prop} (tr : TRa σ n) (hn : n ≤ 16000) (k0 : ∀ s, KTk σ s → TEn s → Q 0 s) (k1 : ∀ s, KTk σ s → TRa s n → Q 1 s) : wk_X10_skipBlanks σ Q := by
  have t1 := tr.1
  unfold wk_X10_skipBlanks
  refine ⟨fun q y s => q = ((σ 2 1).toInt + 1 - y.toInt).toNat ∧ (0 ≤ y.toInt ∧ y.toInt ≤ 16010) ∧ KTk σ s ∧ TRa s n, ⟨_, rfl, ⟨by decide, by decide⟩, kp_rf, tr⟩, ?_⟩
  rintro q y s ⟨hq, hy, ks, trs⟩
  have es : s 2 1 = σ 2 1 := ks 2 1 rfl rfl
  have s1 := trs.1
  have s2 := trs.2.1
  refine ⟨fun _ => k1 s ks trs, fun c => sp_byte (fun v15 h15 => ?_)⟩
  rw [es] at c
  have up : (y + 1).toInt = y.toInt + 1 := ad1 (by omega)
  have go : ∀ u, KTk σ u → TRa u n → ∃ m, m < q ∧ (m = ((σ 2 1).toInt + 1 - (y + 1).toInt).toNat ∧ (0 ≤ (y + 1).toInt ∧ (y + 1).toInt ≤ 16010) ∧ KTk σ u ∧ TRa u n) := fun u ku tu => ⟨_, by rw [up]; omega, rfl, by rw [up]; omega, ku, tu⟩
  refine ⟨fun _ => True, fun y0 _ => ?_, fun _ => trivial, fun _ => sp_byte (fun _ _ => trivial)⟩
  refine ⟨fun u => KTk σ u ∧ TRa u n, fun u hu => go u hu.1 hu.2, True, fun _ => ⟨fun _ => sp_skipComment trs hn (fun u ku te => ⟨fun z => absurd rfl z, fun _ => k0 u (kp_tr ks ku) te⟩) (fun u ku tu => ⟨fun _ => ⟨kp_tr ks ku, tu⟩, fun z => absurd z (by decide)⟩), fun _ => sp_skipLine trs hn (fun u ku te => ⟨fun _ => k0 u (kp_tr ks ku) te, fun z => absurd rfl z⟩) (fun u ku tu => ⟨fun z => absurd z (by decide), fun _ => ⟨kp_tr ks ku, tu⟩⟩)⟩, fun _ => trivial, fun _ => ⟨fun _ => ?_, fun _ => trivial⟩⟩
  have adv : 0 ≤ v15.toInt → ∃ J117 : Int32 → Prop, (∀ (y2_117 : Int32), y2_117 = 0 ∨ y2_117 = 1 → J117 y2_117 → (KTk σ (upC (upC s 2 3 ((s 2 3) + y2_117)) 2 2 ((s 2 2) + (1 : Int32))) ∧ TRa (upC (upC s 2 3 ((s 2 3) + y2_117)) 2 2 ((s 2 2) + (1 : Int32))) n)) ∧ (v15.toInt ≠ 10 → J117 (0 : Int32)) ∧ (v15.toInt = 10 → J117 (1 : Int32)) := fun hv => by
    refine ⟨fun _ => True, fun y2 _ _ => ?_, fun _ => trivial, fun _ => trivial⟩
    have ku : Kp [(2, 2), (2, 3)] [] s (upC (upC s 2 3 ((s 2 3) + y2)) 2 2 ((s 2 2) + (1 : Int32))) := kp_f (kp_f kp_rf rfl) rfl
    have lt := (h15 hv).2
    refine ⟨kp_tr ks (kp_sub ku rfl rfl), tr_pos trs ku ?_⟩
    rw [rdA_eq rfl, ad0 i1 (by omega) (by omega)]
    omega
  exact ⟨0 ≤ v15.toInt, adv, fun c9 => by omega, fun _ => ⟨fun c10 => by omega, fun _ => ⟨fun c13 => by omega, fun _ => ⟨fun _ => k1 s ks trs, fun c32 => by omega⟩⟩⟩⟩
end SCN
