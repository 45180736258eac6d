section
/-! tokens: rows -/
abbrev KTk (a b : St) : Prop := Kp [(2, 2), (2, 3), (2, 4)] [13, 14, 15, 16] a b
/-- so many tokens are read; the next one begins at the position, or behind it -/
def TRa (σ : St) (n : Nat) : Prop := (0 ≤ (σ 2 1).toInt ∧ (σ 2 1).toInt ≤ 16000) ∧ (0 ≤ (σ 2 2).toInt ∧ (σ 2 2).toInt ≤ (σ 2 1).toInt) ∧ PLA σ ∧ NMr σ ∧ (σ 2 4).toInt = n ∧
  (∀ j, j < n → (0 ≤ ((σ 15) j).toInt ∧ ((σ 15) j).toInt ≤ (σ 2 1).toInt) ∧ 2 ≤ ((σ 13) j).toInt ∧ ((σ 13) j).toInt ≤ 62) ∧
  (∀ j, j < n → ∀ nx : Int, nx = (if j + 1 < n then ((σ 15) (j + 1)).toInt else (σ 2 2).toInt) → ((σ 15) j).toInt + 1 ≤ nx ∧ (((σ 13) j).toInt = 2 → 1 ≤ ((σ 14) j).toInt ∧ ((σ 15) j).toInt + ((σ 14) j).toInt ≤ nx) ∧ (((σ 13) j).toInt = 4 → 0 ≤ ((σ 14) j).toInt ∧ ((σ 14) j).toInt ≤ 200 ∧ ((σ 15) j).toInt + ((σ 14) j).toInt + 2 ≤ nx))
def TEn (s : St) : Prop := TKc s ∧ PLA s ∧ NMr s
section SCN
variable {σ s z t ρ : St} {n m i j : Nat} {x y v a a1 a2 a3 : Int32}
theorem sp_byte {Q : Int32 → Prop} (k : ∀ v : Int32, (0 ≤ v.toInt → 0 ≤ x.toInt ∧ x.toInt < (σ 2 1).toInt) → Q v) : wk_X10_byteAt x σ Q := by
  unfold wk_X10_byteAt
  have m1 : ∀ P : Prop, 0 ≤ ((-1 : Int32)).toInt → P := fun P h => absurd h (by decide)
  exact ⟨fun _ => k _ (m1 _), fun c => ⟨fun _ => k _ (m1 _), fun c1 => ⟨fun _ => k _ (m1 _), fun c2 => ⟨⟨c, c2⟩, k _ (fun _ => ⟨c, c1⟩)⟩⟩⟩⟩
/-- one more row -/
def ADt (σ s : St) (n : Nat) (a1 a2 a3 : Int32) : Prop := KTk σ s ∧ (s 2 4).toInt = n + 1 ∧ (s 2 2) = (σ 2 2) + a3 ∧ (∀ j, j ≠ n → (s 13) j = (σ 13) j ∧ (s 14) j = (σ 14) j ∧ (s 15) j = (σ 15) j) ∧ (s 13) n = a1 ∧ (s 14) n = a2 ∧ (s 15) n = (σ 2 2)
theorem sp_tadd0 {Q : Int32 → St → Prop} (hc : (σ 2 4).toInt = n) (hn : n < 16002) (k : ∀ s, ADt σ s n a1 a2 a3 → Q 1 s) : wk_X10_add a1 a2 a3 σ Q := by
  have en : (σ 2 4).toNatClampNeg = n := by rw [nt', hc]; rfl
  unfold wk_X10_add
  refine ⟨fun s => s = upC (upC (upC (upC (upC σ 13 n a1) 14 n a2) 15 n (σ 2 2)) 16 n (σ 2 3)) 2 4 ((σ 2 4) + (1 : Int32)), fun s hs => ?_, fun c => by omega, fun _ => ⟨fun c => by omega, fun _ => ⟨fun c => by omega, fun _ => ⟨fun c => by omega, fun _ => ⟨fun c => by omega, fun _ => ⟨⟨by omega, by omega⟩, ⟨by omega, by omega⟩, ⟨by omega, by omega⟩, ⟨by omega, by omega⟩, by rw [en]⟩⟩⟩⟩⟩⟩
  subst hs
  refine k _ ⟨kp_f (kp_f (kp_a (kp_a (kp_a (kp_a kp_rf rfl) rfl) rfl) rfl) rfl) rfl, ?_, ?_, fun j hj => ⟨?_, ?_, ?_⟩, ?_, ?_, ?_⟩
  · rw [rdA_ne (by decide), rdA_eq rfl]
    show ((σ 2 4) + (1 : Int32)).toInt = _
    rw [ad0 i1 (by omega) (by omega)]
    omega
  · rw [rdA_eq rfl]
    rfl
  · rw [rdC_ne (by decide), rdC_ne (by decide), rdC_ne (by decide), rdC_ne (by decide), rdC_ne (by decide), rdA_ne hj]
  · rw [rdC_ne (by decide), rdC_ne (by decide), rdC_ne (by decide), rdC_ne (by decide), rdA_ne hj, rdC_ne (by decide)]
  · rw [rdC_ne (by decide), rdC_ne (by decide), rdC_ne (by decide), rdA_ne hj, rdC_ne (by decide), rdC_ne (by decide)]
  · rw [rdC_ne (by decide), rdC_ne (by decide), rdC_ne (by decide), rdC_ne (by decide), rdC_ne (by decide), rdA_eq rfl]
  · rw [rdC_ne (by decide), rdC_ne (by decide), rdC_ne (by decide), rdC_ne (by decide), rdA_eq rfl]
  · rw [rdC_ne (by decide), rdC_ne (by decide), rdC_ne (by decide), rdA_eq rfl]
/-- a token -/
theorem sp_tadd {Q : Int32 → St → Prop} (tr : TRa σ n) (hn : n ≤ 16000) (h1 : 2 ≤ a1.toInt ∧ a1.toInt ≤ 62) (h3 : 1 ≤ a3.toInt ∧ (σ 2 2).toInt + a3.toInt ≤ (σ 2 1).toInt) (hN : a1.toInt = 2 → 1 ≤ a2.toInt ∧ a2.toInt ≤ a3.toInt) (hS : a1.toInt = 4 → 0 ≤ a2.toInt ∧ a2.toInt ≤ 200 ∧ a2.toInt + 2 ≤ a3.toInt) (k : ∀ s, KTk σ s → TRa s (n + 1) → Q 1 s) : wk_X10_add a1 a2 a3 σ Q := by
  obtain ⟨t1, t2, t3, t4, t5, t6, t7⟩ := tr
  refine sp_tadd0 t5 (by omega) (fun s ad => k s ad.1 ?_)
  obtain ⟨d1, d2, d3, d4, d5, d6, d7⟩ := ad
  have es : s 2 1 = σ 2 1 := d1 2 1 rfl rfl
  have ep : (s 2 2).toInt = (σ 2 2).toInt + a3.toInt := by rw [d3, ad (by omega) (by omega)]
  refine ⟨by rw [es]; exact t1, by rw [es, ep]; omega, fun j => ?_, fun j hj => ?_, by rw [d2]; omega, fun j hj => ?_, fun j hj nx hnx => ?_⟩
  · by_cases e : j = n
    · rw [e, d7]
      omega
    · rw [(d4 j e).2.2]
      exact t3 j
  · by_cases e : j = n
    · rw [e, d5] at hj
      rw [e, d6, d7]
      have := hN hj
      omega
    · obtain ⟨q1, q2, q3⟩ := d4 j e
      rw [q1] at hj
      rw [q2, q3]
      exact t4 j hj
  · by_cases e : j = n
    · rw [e, d5, d7, es]
      omega
    · obtain ⟨q1, q2, q3⟩ := d4 j e
      rw [q1, q3, es]
      exact t6 j (by omega)
  · by_cases e : j = n
    · rw [e, if_neg (by omega)] at hnx
      rw [e, d5, d6, d7, hnx, ep]
      refine ⟨by omega, fun c => ?_, fun c => ?_⟩
      · have := hN c
        omega
      · have := hS c
        omega
    · obtain ⟨q1, q2, q3⟩ := d4 j e
      rw [q1, q2, q3]
      have hj' : j < n := by omega
      refine t7 j hj' nx ?_
      rw [if_pos (by omega)] at hnx
      rw [hnx]
      by_cases e2 : j + 1 < n
      · rw [if_pos e2, (d4 (j + 1) (by omega)).2.2]
      · rw [if_neg e2, show j + 1 = n from by omega, d7]
/-- the last token: the text's end, or what is none -/
theorem sp_tend {Q : Int32 → St → Prop} (tr : TRa σ n) (hn : n ≤ 16000) (h1 : a1.toInt = 0 ∨ a1.toInt = 1) (k : ∀ s, KTk σ s → TEn s → Q 1 s) : wk_X10_add a1 (0 : Int32) (0 : Int32) σ Q := by
  obtain ⟨t1, t2, t3, t4, t5, t6, t7⟩ := tr
  refine sp_tadd0 t5 (by omega) (fun s ad => k s ad.1 ?_)
  obtain ⟨d1, d2, d3, d4, d5, d6, d7⟩ := ad
  have es : s 2 1 = σ 2 1 := d1 2 1 rfl rfl
  refine ⟨⟨by rw [d2, es]; omega, fun j hj => ?_, fun j hj hk => ?_⟩, fun j => ?_, fun j hj => ?_⟩
  · rw [d2] at hj
    by_cases e : j = n
    · rw [e, d5, d7, es]
      omega
    · obtain ⟨q1, q2, q3⟩ := d4 j e
      have := t6 j (by omega)
      rw [q1, q3, es]
      omega
  · rw [d2] at hj
    have e : j ≠ n := fun e => by rw [e, d5] at hk; omega
    obtain ⟨q1, q2, q3⟩ := d4 j e
    have hj' : j < n := by omega
    rw [d2, q1, q2, q3]
    refine ⟨by omega, ?_⟩
    refine t7 j hj' _ ?_
    by_cases e2 : j + 1 < n
    · rw [if_pos e2, (d4 (j + 1) (by omega)).2.2]
    · rw [if_neg e2, show j + 1 = n from by omega, d7]
  · by_cases e : j = n
    · rw [e, d7]
      omega
    · rw [(d4 j e).2.2]
      exact t3 j
  · by_cases e : j = n
    · rw [e, d5] at hj
      omega
    · obtain ⟨q1, q2, q3⟩ := d4 j e
      rw [q1] at hj
      rw [q2, q3]
      exact t4 j hj
theorem tr_pos (tr : TRa σ n) (k : Kp [(2, 2), (2, 3)] [] σ s) (hp : (σ 2 2).toInt ≤ (s 2 2).toInt ∧ (s 2 2).toInt ≤ (σ 2 1).toInt) : TRa s n := by
  obtain ⟨t1, t2, t3, t4, t5, t6, t7⟩ := tr
  have es : s 2 1 = σ 2 1 := k 2 1 rfl rfl
  have e13 : s 13 = σ 13 := funext (fun j => k 13 j rfl rfl)
  have e14 : s 14 = σ 14 := funext (fun j => k 14 j rfl rfl)
  have e15 : s 15 = σ 15 := funext (fun j => k 15 j rfl rfl)
  refine ⟨by rw [es]; exact t1, by rw [es]; omega, by unfold PLA; rw [e15]; exact t3, by unfold NMr; rw [e13, e14, e15]; exact t4, by rw [show s 2 4 = σ 2 4 from k 2 4 rfl rfl]; exact t5, fun j hj => by rw [e13, e15, es]; exact t6 j hj, fun j hj nx hnx => ?_⟩
  rw [e13, e14, e15]
  rw [e15] at hnx
  by_cases e2 : j + 1 < n
  · rw [if_pos e2] at hnx
    exact t7 j hj nx (by rw [if_pos e2]; exact hnx)
  · rw [if_neg e2] at hnx
    obtain ⟨q1, q2, q3⟩ := t7 j hj (σ 2 2).toInt (by rw [if_neg e2])
    refine ⟨by omega, fun c => ?_, fun c => ?_⟩
    · have := q2 c
      omega
    · have := q3 c
      omega
theorem sp_tbad {Q : Int32 → St → Prop} (tr : TRa σ n) (hn : n ≤ 16000) (hp : (σ 2 2).toInt ≤ a1.toInt ∧ a1.toInt ≤ (σ 2 1).toInt) (k : ∀ s, KTk σ s → TEn s → Q 0 s) : wk_X10_bad a1 σ Q := by
  unfold wk_X10_bad
  have kp1 : Kp [(2, 2), (2, 3)] [] σ (upC σ 2 2 a1) := kp_f kp_rf rfl
  refine sp_tend (tr_pos tr kp1 (by rw [rdA_eq rfl]; exact hp)) hn (Or.inr rfl) (fun s ks te => k s (kp_tr (kp_sub kp1 rfl rfl) ks) te)
theorem sp_mayOccur {Q : Int32 → Prop} (k : ∀ v, Q v) : wk_X10_mayOccur x σ Q := ⟨True, fun _ => ⟨fun _ => k _, fun _ => ⟨fun _ => k _, fun _ => ⟨fun _ => k _, fun _ => k _⟩⟩⟩, fun _ => trivial, fun _ => ⟨fun _ => k _, fun _ => trivial⟩⟩
theorem sp_skipComment {Q : Int32 → St → Prop} (tr : TRa σ n) (hn : n ≤ 16000) (k0 : ∀ s, KTk σ s → TEn s → Q 0 s) (k1 : ∀ s, KTk σ s → TRa s n → Q 1 s) : wk_X10_skipComment σ Q := by
  have t1 := tr.1
  have t2 := tr.2.1
  have e2 : ((σ 2 2) + (2 : Int32)).toInt = (σ 2 2).toInt + 2 := ad0 i2 (by omega) (by omega)
  unfold wk_X10_skipComment
  refine ⟨fun q y s => q = (16010 - y.toInt).toNat ∧ ((σ 2 2).toInt ≤ y.toInt ∧ y.toInt ≤ 16002) ∧ Kp [(2, 3)] [] σ s, ⟨_, rfl, by rw [e2]; omega, kp_rf⟩, ?_⟩
  rintro q y s ⟨hq, hy, ks⟩
  have ks2 : Kp [(2, 2), (2, 3)] [] σ s := kp_sub ks rfl rfl
  have es : s 2 1 = σ 2 1 := ks 2 1 rfl rfl
  have ep : s 2 2 = σ 2 2 := ks 2 2 rfl rfl
  have trs : TRa s n := tr_pos tr ks2 (by rw [ep]; omega)
  have kk : KTk σ s := kp_sub ks rfl rfl
  refine ⟨fun _ => sp_tbad trs hn (by rw [ep, es]; omega) (fun u ku te => k0 u (kp_tr kk ku) te), fun c => sp_byte (fun v17 h17 => sp_mayOccur (fun v22 => ⟨fun _ => ?_, fun _ => sp_tbad trs hn (by rw [ep, es]; rw [es] at c; omega) (fun u ku te => k0 u (kp_tr kk ku) te)⟩))⟩
  rw [es] at c
  have up : (y + 1).toInt = y.toInt + 1 := ad1 (by omega)
  refine ⟨fun _ => True, fun y2 _ _ => ⟨True, fun _ => ⟨(16010 - (y + 1).toInt).toNat, by rw [up]; omega, rfl, by rw [up]; omega, kp_f ks rfl⟩, fun _ => trivial, fun _ => sp_byte (fun v64 h64 => ⟨fun _ => trivial, fun c47 => ?_⟩)⟩, fun _ => trivial, fun _ => trivial⟩
  generalize hu : upC (upC s 2 3 ((s 2 3) + y2)) 2 2 (y + (2 : Int32)) = u
  have ku : Kp [(2, 2), (2, 3)] [] σ u := by rw [← hu]; exact kp_f (kp_f ks2 rfl) rfl
  have pu : (u 2 2).toInt = y.toInt + 2 := by
    rw [← hu, rdA_eq rfl]
    exact ad0 i2 (by omega) (by omega)
  have h1 : (y + (1 : Int32)).toInt = y.toInt + 1 := up
  have h2 := (h64 (by omega)).2
  have h2' : (y + (1 : Int32)).toInt < ((upC s 2 3 ((s 2 3) + y2)) 2 1).toInt := h2
  rw [h1, rdA_ne (by decide), es] at h2'
  exact k1 u (kp_sub ku rfl rfl) (tr_pos tr ku (by rw [pu]; omega))
theorem sp_skipLine {Q : Int32 → St → Prop} (tr : TRa σ n) (hn : n ≤ 16000) (k0 : ∀ s, KTk σ s → TEn s → Q 0 s) (k1 : ∀ s, KTk σ s → TRa s n → Q 1 s) : wk_X10_skipLine σ Q := by
  have t1 := tr.1
  have t2 := tr.2.1
  unfold wk_X10_skipLine
  refine ⟨fun q s => q = (16010 - (s 2 2).toInt).toNat ∧ ((σ 2 2).toInt ≤ (s 2 2).toInt ∧ (s 2 2).toInt ≤ (σ 2 1).toInt) ∧ Kp [(2, 2), (2, 3)] [] σ s, ⟨_, rfl, by omega, kp_rf⟩, ?_⟩
  rintro q s ⟨hq, hy, ks⟩
  have es : s 2 1 = σ 2 1 := ks 2 1 rfl rfl
  have trs : TRa s n := tr_pos tr ks hy
  have kk : KTk σ s := kp_sub ks rfl rfl
  refine ⟨fun _ => k1 s kk trs, fun c => sp_byte (fun v16 h16 => ⟨fun _ => k1 s kk trs, fun _ => sp_byte (fun v29 h29 => sp_mayOccur (fun v32 => ⟨fun _ => ?_, fun _ => sp_tbad trs hn (by rw [es]; omega) (fun u ku te => k0 u (kp_tr kk ku) te)⟩))⟩)⟩
  rw [es] at c
  have up : ((upC s 2 2 ((s 2 2) + (1 : Int32))) 2 2).toInt = (s 2 2).toInt + 1 := by
    rw [rdA_eq rfl]
    exact ad0 i1 (by omega) (by omega)
  exact ⟨_, by omega, rfl, by rw [up]; omega, kp_f ks rfl⟩
theorem sp_skipBlanks {Q : Int32 → St → Prop} (tr : TRa σ n) (hn : n ≤ 16000) (k0 : ∀ s, KTk σ s → TEn s → Q 0 s) (k1 : ∀ s, KTk σ s → TRa s n → Q 1 s) : wk_X10_skipBlanks σ Q := by
  have t1 := tr.1
  unfold wk_X10_skipBlanks
  refine ⟨fun q y s => q = ((σ 2 1).toInt + 1 - y.toInt).toNat ∧ (0 ≤ y.toInt ∧ y.toInt ≤ 16010) ∧ KTk σ s ∧ TRa s n, ⟨_, rfl, ⟨by decide, by decide⟩, kp_rf, tr⟩, ?_⟩
  rintro q y s ⟨hq, hy, ks, trs⟩
  have es : s 2 1 = σ 2 1 := ks 2 1 rfl rfl
  have s1 := trs.1
  have s2 := trs.2.1
  refine ⟨fun _ => k1 s ks trs, fun c => sp_byte (fun v15 h15 => ?_)⟩
  rw [es] at c
  have up : (y + 1).toInt = y.toInt + 1 := ad1 (by omega)
  have go : ∀ u, KTk σ u → TRa u n → ∃ m, m < q ∧ (m = ((σ 2 1).toInt + 1 - (y + 1).toInt).toNat ∧ (0 ≤ (y + 1).toInt ∧ (y + 1).toInt ≤ 16010) ∧ KTk σ u ∧ TRa u n) := fun u ku tu => ⟨_, by rw [up]; omega, rfl, by rw [up]; omega, ku, tu⟩
  refine ⟨fun _ => True, fun y0 _ => ?_, fun _ => trivial, fun _ => sp_byte (fun _ _ => trivial)⟩
  refine ⟨fun u => KTk σ u ∧ TRa u n, fun u hu => go u hu.1 hu.2, True, fun _ => ⟨fun _ => sp_skipComment trs hn (fun u ku te => ⟨fun z => absurd rfl z, fun _ => k0 u (kp_tr ks ku) te⟩) (fun u ku tu => ⟨fun _ => ⟨kp_tr ks ku, tu⟩, fun z => absurd z (by decide)⟩), fun _ => sp_skipLine trs hn (fun u ku te => ⟨fun _ => k0 u (kp_tr ks ku) te, fun z => absurd rfl z⟩) (fun u ku tu => ⟨fun z => absurd z (by decide), fun _ => ⟨kp_tr ks ku, tu⟩⟩)⟩, fun _ => trivial, fun _ => ⟨fun _ => ?_, fun _ => trivial⟩⟩
  have adv : 0 ≤ v15.toInt → ∃ J117 : Int32 → Prop, (∀ (y2_117 : Int32), y2_117 = 0 ∨ y2_117 = 1 → J117 y2_117 → (KTk σ (upC (upC s 2 3 ((s 2 3) + y2_117)) 2 2 ((s 2 2) + (1 : Int32))) ∧ TRa (upC (upC s 2 3 ((s 2 3) + y2_117)) 2 2 ((s 2 2) + (1 : Int32))) n)) ∧ (v15.toInt ≠ 10 → J117 (0 : Int32)) ∧ (v15.toInt = 10 → J117 (1 : Int32)) := fun hv => by
    refine ⟨fun _ => True, fun y2 _ _ => ?_, fun _ => trivial, fun _ => trivial⟩
    have ku : Kp [(2, 2), (2, 3)] [] s (upC (upC s 2 3 ((s 2 3) + y2)) 2 2 ((s 2 2) + (1 : Int32))) := kp_f (kp_f kp_rf rfl) rfl
    have lt := (h15 hv).2
    refine ⟨kp_tr ks (kp_sub ku rfl rfl), tr_pos trs ku ?_⟩
    rw [rdA_eq rfl, ad0 i1 (by omega) (by omega)]
    omega
  exact ⟨0 ≤ v15.toInt, adv, fun c9 => by omega, fun _ => ⟨fun c10 => by omega, fun _ => ⟨fun c13 => by omega, fun _ => ⟨fun _ => k1 s ks trs, fun c32 => by omega⟩⟩⟩⟩
end SCN
end

section
/-! one token -/
def bvt (σ : St) (x : Int32) : Int32 := if x.toInt < 0 then -1 else if (σ 2 1).toInt ≤ x.toInt then -1 else if 16000 ≤ x.toInt then -1 else (σ 1 x.toNatClampNeg) &&& (255 : Int32)
/-- the spaces before a place of a list -/
def spn (k : Nat) : Nat → Nat
  | 0 => 0
  | j + 1 => spn k j + (if (chI (gC k j)).toInt = 32 then 1 else 0)
section TKN
variable {σ s z t ρ : St} {n m i j : Nat} {x y v a a1 a2 a3 : Int32}
theorem spn_up (k : Nat) : ∀ d j, spn k j ≤ spn k (j + d)
  | 0, _ => Nat.le_refl _
  | d + 1, j => Nat.le_trans (spn_up k d j) (Nat.le_add_right _ _)
theorem spn_to {k N : Nat} (h : j ≤ N) : spn k j ≤ spn k N := by
  have e := spn_up k (N - j) j
  rwa [show j + (N - j) = N from by omega] at e
theorem spn_66 : spn 2 66 = 12 := by decide +kernel
theorem spn_108 : spn 3 108 = 43 := by decide +kernel
theorem chI_3 : ∀ j, j < 108 → 0 ≤ (chI (gC 3 j)).toInt := by decide +kernel
theorem n66 : (nI 66).toInt = 66 := by decide
theorem n108 : (nI 108).toInt = 108 := by decide
theorem sp_byteV {Q : Int32 → Prop} (k : Q (bvt σ x)) : wk_X10_byteAt x σ Q := by
  unfold bvt at k
  unfold wk_X10_byteAt
  refine ⟨fun c => ?_, fun c => ⟨fun c1 => ?_, fun c1 => ⟨fun c2 => ?_, fun c2 => ⟨⟨c, c2⟩, ?_⟩⟩⟩⟩
  · rwa [if_pos c] at k
  · rwa [if_neg (by omega), if_pos c1] at k
  · rwa [if_neg (by omega), if_neg (by omega), if_pos c2] at k
  · rwa [if_neg (by omega), if_neg (by omega), if_neg (by omega)] at k
theorem bvt_pos (h : 0 ≤ (bvt σ x).toInt) : 0 ≤ x.toInt ∧ x.toInt < (σ 2 1).toInt := by
  unfold bvt at h
  have m1 : ¬ 0 ≤ ((-1 : Int32)).toInt := by decide
  by_cases c : x.toInt < 0
  · rw [if_pos c] at h
    exact absurd h m1
  rw [if_neg c] at h
  by_cases c1 : (σ 2 1).toInt ≤ x.toInt
  · rw [if_pos c1] at h
    exact absurd h m1
  exact ⟨by omega, by omega⟩
theorem sk_isDigit {Q : Int32 → Prop} (k0 : ¬ (48 ≤ x.toInt ∧ x.toInt ≤ 57) → Q 0) (k1 : 48 ≤ x.toInt ∧ x.toInt ≤ 57 → Q 1) : wk_X10_isDigit x σ Q := by
  unfold wk_X10_isDigit
  exact ⟨fun c => k0 (fun h => by omega), fun c => ⟨fun c1 => k0 (fun h => by omega), fun c1 => k1 ⟨c, c1⟩⟩⟩
theorem sk_isLetter {Q : Int32 → Prop} (k0 : Q 0) (k1 : 0 ≤ x.toInt → Q 1) : wk_X10_isLetter x σ Q := by
  unfold wk_X10_isLetter
  refine ⟨True, fun _ => ⟨True, fun _ => ⟨fun _ => k0, fun c => k1 (by omega)⟩, fun _ => trivial, fun c => ⟨fun _ => k1 (by omega), fun _ => trivial⟩⟩, fun _ => trivial, fun c => ⟨fun _ => k1 (by omega), fun _ => trivial⟩⟩
theorem sp_sixteenth {Q : Int32 → Prop} (k : ∀ w : Int32, (0 ≤ w.toInt → 0 ≤ x.toInt) → Q w) : wk_X10_sixteenth x σ Q := by
  have m1 : ¬ 0 ≤ ((-1 : Int32)).toInt := by decide
  unfold wk_X10_sixteenth
  refine sk_isDigit (fun _ => ⟨fun _ => ⟨True, fun _ => ⟨fun _ => k _ (fun h => absurd h m1), fun c => ⟨fun _ => k _ (fun h => absurd h m1), fun _ => k _ (fun _ => by omega)⟩⟩, fun _ => trivial, fun c => ⟨fun _ => trivial, fun _ => k _ (fun _ => by omega)⟩⟩, fun h => absurd rfl h⟩) (fun c => ⟨fun h => absurd h (by decide), fun _ => k _ (fun _ => by omega)⟩)
theorem sp_widthAt {Q : Int32 → Prop} (k1 : Q 1) (k2 : Q 2) : wk_X10_widthAt x σ Q := by
  unfold wk_X10_widthAt
  exact sp_byteV ⟨fun _ => k1, fun _ => k2⟩
theorem sp_codeAt {Q : Int32 → Prop} (k : ∀ w, Q w) : wk_X10_codeAt x y σ Q := by
  unfold wk_X10_codeAt
  refine sp_byteV ⟨fun _ => sp_byteV ⟨fun _ => k _, fun _ => ⟨fun _ => k _, fun _ => ⟨fun _ => k _, fun _ => ⟨fun _ => k _, fun _ => ⟨fun _ => k _, fun _ => k _⟩⟩⟩⟩⟩, fun _ => ⟨fun _ => k _, fun _ => ⟨fun _ => k _, fun _ => ⟨fun _ => k _, fun _ => k _⟩⟩⟩⟩
theorem sp_isNext0 {Q : Int32 → Prop} (h2 : 0 ≤ x.toInt ∧ x.toInt ≤ 66) (h3 : 0 ≤ y.toInt ∧ y.toInt ≤ 66) (k0 : Q 0) (k1 : Q 1) : wk_X10_isNext_s0 x y σ Q := by
  unfold wk_X10_isNext_s0
  refine ⟨fun q w => q = (100 - w.toInt).toNat ∧ (0 ≤ w.toInt ∧ w.toInt ≤ 66), ⟨_, rfl, by decide, by decide⟩, ?_⟩
  rintro q w ⟨hq, hw⟩
  refine ⟨fun _ => k1, fun c => ⟨fun _ => k0, fun c1 => ?_⟩⟩
  rw [n66, ad (by omega) (by omega)] at c1
  have up : (w + 1).toInt = w.toInt + 1 := ad1 (by omega)
  have eu : (x + w).toInt = x.toInt + w.toInt := ad (by omega) (by omega)
  exact ⟨by omega, sp_byteV ⟨fun _ => ⟨_, by rw [up]; omega, rfl, by rw [up]; omega⟩, fun _ => k0⟩⟩
theorem sp_isNext1 {Q : Int32 → Prop} (tp : 0 ≤ (σ 2 2).toInt ∧ (σ 2 2).toInt ≤ (σ 2 1).toInt ∧ (σ 2 1).toInt ≤ 16000) (h2 : 0 ≤ x.toInt ∧ x.toInt ≤ 108) (h3 : 0 ≤ y.toInt ∧ y.toInt ≤ 108) (k0 : Q 0) (k1 : (σ 2 2).toInt + y.toInt ≤ (σ 2 1).toInt → Q 1) : wk_X10_isNext_s1 x y σ Q := by
  unfold wk_X10_isNext_s1
  refine ⟨fun q w => q = (200 - w.toInt).toNat ∧ (0 ≤ w.toInt ∧ w.toInt ≤ y.toInt ∧ (σ 2 2).toInt + w.toInt ≤ (σ 2 1).toInt), ⟨_, rfl, by decide, h3.1, by rw [show ((0 : Int32)).toInt = 0 from rfl]; omega⟩, ?_⟩
  rintro q w ⟨hq, hw⟩
  refine ⟨fun c => k1 (by omega), fun c => ⟨fun _ => k0, fun c1 => ?_⟩⟩
  rw [n108, ad (by omega) (by omega)] at c1
  have up : (w + 1).toInt = w.toInt + 1 := ad1 (by omega)
  have eu : (x + w).toInt = x.toInt + w.toInt := ad (by omega) (by omega)
  refine ⟨by omega, sp_byteV ⟨fun e => ?_, fun _ => k0⟩⟩
  have p1 := chI_3 (x + w).toNatClampNeg (by rw [nt', eu]; omega)
  have p2 := (bvt_pos (σ := σ) (x := (σ 2 2) + w) (by rw [← e]; exact p1)).2
  rw [ad (by omega) (by omega)] at p2
  exact ⟨_, by rw [up]; omega, rfl, by rw [up]; omega⟩
theorem spn_s {k : Nat} (w : Int32) (h : 0 ≤ w.toInt ∧ w.toInt < 200) : (w + 1).toNatClampNeg = w.toNatClampNeg + 1 := by
  have up : (w + 1).toInt = w.toInt + 1 := ad1 (by omega)
  rw [nt', nt', up]
  omega
theorem sp_listed0 {Q : Int32 → Prop} (h2 : 0 ≤ x.toInt ∧ x.toInt ≤ 66) (k : ∀ w : Int32, (0 ≤ w.toInt → w.toInt ≤ 11) → Q w) : wk_X10_listed_s0 x σ Q := by
  unfold wk_X10_listed_s0
  refine ⟨fun q a b c => q = (100 - c.toInt).toNat ∧ (0 ≤ c.toInt ∧ c.toInt ≤ 66) ∧ (0 ≤ b.toInt ∧ b.toInt ≤ c.toInt) ∧ a.toInt = spn 2 c.toNatClampNeg, ⟨_, rfl, by decide, by decide, by decide⟩, ?_⟩
  rintro q a b c ⟨hq, hc, hb, ha⟩
  refine ⟨fun _ => k _ (fun h => absurd h (by decide)), fun c1 => ⟨by rw [n66] at c1; omega, ?_⟩⟩
  rw [n66] at c1
  have up : (c + 1).toInt = c.toInt + 1 := ad1 (by omega)
  have uc := spn_s (k := 2) c (by omega)
  have ub := spn_to (k := 2) (j := c.toNatClampNeg + 1) (N := 66) (by rw [nt']; omega)
  rw [spn_66] at ub
  have e1 : spn 2 (c.toNatClampNeg + 1) = spn 2 c.toNatClampNeg + (if (chI (gC 2 c.toNatClampNeg)).toInt = 32 then 1 else 0) := rfl
  refine ⟨fun a' b' => (0 ≤ b'.toInt ∧ b'.toInt ≤ c.toInt + 1) ∧ a'.toInt = spn 2 (c.toNatClampNeg + 1), fun a' b' h => ⟨_, by rw [up]; omega, rfl, by rw [up]; omega, by rw [up]; exact h.1, by rw [uc]; exact h.2⟩, fun ne => ⟨by omega, by rw [e1, if_neg ne, ha]; rfl⟩, fun e => ?_⟩
  rw [if_pos e] at e1
  have ua : (a + 1).toInt = a.toInt + 1 := ad1 (by omega)
  have n1 : (0 ≤ (c + (1 : Int32)).toInt ∧ (c + (1 : Int32)).toInt ≤ c.toInt + 1) ∧ (a + 1).toInt = spn 2 (c.toNatClampNeg + 1) := ⟨by rw [up]; omega, by rw [ua, e1]; omega⟩
  refine ⟨True, fun _ => n1, fun _ => trivial, fun e3 => sp_isNext0 ⟨hb.1, by omega⟩ h2 ⟨fun _ => trivial, fun z => absurd rfl z⟩ ⟨fun z => absurd z (by decide), fun _ => k _ (fun _ => by omega)⟩⟩
theorem sp_listed1 {Q : Int32 → Prop} (tp : 0 ≤ (σ 2 2).toInt ∧ (σ 2 2).toInt ≤ (σ 2 1).toInt ∧ (σ 2 1).toInt ≤ 16000) (h2 : 0 ≤ x.toInt ∧ x.toInt ≤ 66) (k : ∀ w : Int32, (0 ≤ w.toInt → w.toInt ≤ 42 ∧ (σ 2 2).toInt + x.toInt ≤ (σ 2 1).toInt) → Q w) : wk_X10_listed_s1 x σ Q := by
  unfold wk_X10_listed_s1
  refine ⟨fun q a b c => q = (200 - c.toInt).toNat ∧ (0 ≤ c.toInt ∧ c.toInt ≤ 108) ∧ (0 ≤ b.toInt ∧ b.toInt ≤ c.toInt) ∧ a.toInt = spn 3 c.toNatClampNeg, ⟨_, rfl, by decide, by decide, by decide⟩, ?_⟩
  rintro q a b c ⟨hq, hc, hb, ha⟩
  refine ⟨fun _ => k _ (fun h => absurd h (by decide)), fun c1 => ⟨by rw [n108] at c1; omega, ?_⟩⟩
  rw [n108] at c1
  have up : (c + 1).toInt = c.toInt + 1 := ad1 (by omega)
  have uc := spn_s (k := 3) c (by omega)
  have ub := spn_to (k := 3) (j := c.toNatClampNeg + 1) (N := 108) (by rw [nt']; omega)
  rw [spn_108] at ub
  have e1 : spn 3 (c.toNatClampNeg + 1) = spn 3 c.toNatClampNeg + (if (chI (gC 3 c.toNatClampNeg)).toInt = 32 then 1 else 0) := rfl
  refine ⟨fun a' b' => (0 ≤ b'.toInt ∧ b'.toInt ≤ c.toInt + 1) ∧ a'.toInt = spn 3 (c.toNatClampNeg + 1), fun a' b' h => ⟨_, by rw [up]; omega, rfl, by rw [up]; omega, by rw [up]; exact h.1, by rw [uc]; exact h.2⟩, fun ne => ⟨by omega, by rw [e1, if_neg ne, ha]; rfl⟩, fun e => ?_⟩
  rw [if_pos e] at e1
  have ua : (a + 1).toInt = a.toInt + 1 := ad1 (by omega)
  have n1 : (0 ≤ (c + (1 : Int32)).toInt ∧ (c + (1 : Int32)).toInt ≤ c.toInt + 1) ∧ (a + 1).toInt = spn 3 (c.toNatClampNeg + 1) := ⟨by rw [up]; omega, by rw [ua, e1]; omega⟩
  refine ⟨True, fun _ => n1, fun _ => trivial, fun e3 => sp_isNext1 tp ⟨hb.1, by omega⟩ ⟨h2.1, by omega⟩ ⟨fun _ => trivial, fun z => absurd rfl z⟩ (fun h => ⟨fun z => absurd z (by decide), fun _ => k _ (fun _ => ⟨by omega, h⟩)⟩)⟩
end TKN
end

section
/-! the kinds of tokens, scan() -/
section SCN2
variable {σ s z t ρ : St} {n m i j : Nat} {x y v a a1 a2 a3 : Int32}
theorem tr_cnt (tr : TRa σ n) : (n : Int) ≤ (σ 2 2).toInt := by
  obtain ⟨t1, t2, t3, t4, t5, t6, t7⟩ := tr
  have h : ∀ j, j < n → (j : Int) ≤ ((σ 15) j).toInt := by
    intro j
    induction j with
    | zero => intro h; have := (t6 0 h).1.1; omega
    | succ j ih =>
      intro h
      have h1 := ih (by omega)
      have h2 := (t7 j (by omega) _ (by rw [if_pos h])).1
      omega
  by_cases c : n = 0
  · omega
  · have h1 := h (n - 1) (by omega)
    have h2 := (t7 (n - 1) (by omega) (σ 2 2).toInt (by rw [if_neg (by omega)])).1
    omega
theorem sp_word {Q : Int32 → St → Prop} (tr : TRa σ n) (hn : n ≤ 16000) (hb : 0 ≤ (bvt σ (σ 2 2)).toInt) (k0 : ∀ s, KTk σ s → TEn s → Q 0 s) (k1 : ∀ s, KTk σ s → TRa s (n + 1) → Q 1 s) : wk_X10_word σ Q := by
  have t1 := tr.1
  have t2 := tr.2.1
  have p0 := (bvt_pos hb).2
  have m1 : ((-1 : Int32)).toInt < 0 := by decide
  unfold wk_X10_word
  refine sp_byteV ⟨fun q w b => q = (16010 - w.toInt).toNat ∧ (1 ≤ w.toInt ∧ (σ 2 2).toInt + w.toInt ≤ (σ 2 1).toInt) ∧ (0 ≤ b.toInt → (σ 2 2).toInt + w.toInt < (σ 2 1).toInt), ⟨_, rfl, ⟨by decide, by rw [i1]; omega⟩, fun h => ?_⟩, ?_⟩
  · have h2 := (bvt_pos h).2
    rwa [ad (by rw [i1]; omega) (by rw [i1]; omega)] at h2
  rintro q w b ⟨hq, hw, hb2⟩
  have up : (w + 1).toInt = w.toInt + 1 := ad1 (by omega)
  refine ⟨True, fun _ => ⟨fun c => sp_listed0 ⟨by omega, by omega⟩ (fun v hv => ⟨fun y => y.toInt = 2 ∨ (5 ≤ y.toInt ∧ y.toInt ≤ 16), fun y hy => sp_tadd tr hn (by omega) hw (fun _ => by omega) (fun e => by omega) k1, fun c => Or.inr ?_, fun _ => Or.inl rfl⟩), fun _ => sp_tbad tr hn (by omega) k0⟩, fun _ => trivial, fun c => sk_isLetter ?_ ?_⟩
  · have h1 := hv c
    have e : ((5 : Int32) + v).toInt = 5 + v.toInt := ad (by rw [show ((5 : Int32)).toInt = 5 from rfl]; omega) (by rw [show ((5 : Int32)).toInt = 5 from rfl]; omega)
    omega
  · refine ⟨(σ 2 2).toInt + w.toInt < (σ 2 1).toInt, fun h => sp_byteV ⟨_, by rw [up]; omega, rfl, by rw [up]; omega, fun h3 => ?_⟩, fun z => absurd rfl z, fun _ => sk_isDigit (fun _ => ⟨fun _ => trivial, fun z => absurd rfl z⟩) (fun c4 => ⟨fun _ => trivial, fun _ => hb2 (by omega)⟩)⟩
    have h2 := (bvt_pos h3).2
    have e1 : ((σ 2 2) + w).toInt = (σ 2 2).toInt + w.toInt := ad (by omega) (by omega)
    rw [ad0 i1 (by rw [e1]; omega) (by rw [e1]; omega), e1] at h2
    rw [up]
    omega
  · intro c4
    refine ⟨(σ 2 2).toInt + w.toInt < (σ 2 1).toInt, fun h => sp_byteV ⟨_, by rw [up]; omega, rfl, by rw [up]; omega, fun h3 => ?_⟩, fun _ => hb2 c4, fun z => absurd z (by decide)⟩
    have h2 := (bvt_pos h3).2
    have e1 : ((σ 2 2) + w).toInt = (σ 2 2).toInt + w.toInt := ad (by omega) (by omega)
    rw [ad0 i1 (by rw [e1]; omega) (by rw [e1]; omega), e1] at h2
    rw [up]
    omega
theorem sp_digits {Q : Int32 → St → Prop} (tr : TRa σ n) (hn : n ≤ 16000) (hb : 48 ≤ (bvt σ (σ 2 2)).toInt ∧ (bvt σ (σ 2 2)).toInt ≤ 57) (k0 : ∀ s, KTk σ s → TEn s → Q 0 s) (k1 : ∀ s, KTk σ s → TRa s (n + 1) → Q 1 s) : wk_X10_digits σ Q := by
  have t1 := tr.1
  have t2 := tr.2.1
  unfold wk_X10_digits
  refine sp_byteV ⟨fun q _ w b => q = (16010 - w.toInt).toNat ∧ (0 ≤ w.toInt ∧ (σ 2 2).toInt + w.toInt ≤ (σ 2 1).toInt) ∧ (0 ≤ b.toInt → (σ 2 2).toInt + w.toInt < (σ 2 1).toInt) ∧ (w.toInt < 1 → 48 ≤ b.toInt ∧ b.toInt ≤ 57), ⟨_, rfl, ⟨by decide, by rw [i0]; omega⟩, fun h => ?_, fun _ => hb⟩, ?_⟩
  · have h2 := (bvt_pos h).2
    rw [i0]
    omega
  rintro q g w b ⟨hq, hw, hb2, hb3⟩
  have up : (w + 1).toInt = w.toInt + 1 := ad1 (by omega)
  refine ⟨1 ≤ w.toInt, fun h1 => ⟨fun _ => sp_tadd tr hn ⟨by decide, by decide⟩ ⟨h1, hw.2⟩ (fun e => absurd e (by decide)) (fun e => absurd e (by decide)) k1, fun _ => sp_tbad tr hn (by omega) k0⟩, fun c => by omega, fun c => sk_isDigit (fun nd => ⟨fun _ => ?_, fun z => absurd rfl z⟩) (fun c4 => ⟨fun z => absurd z (by decide), fun _ => sp_byteV ⟨_, by rw [up]; omega, rfl, ?_, fun h3 => ?_, fun z => by rw [up] at z; omega⟩⟩)⟩
  · by_cases c1 : 1 ≤ w.toInt
    · exact c1
    · exact absurd (hb3 (by omega)) nd
  · have := hb2 (by omega)
    rw [up]
    omega
  · have h2 := (bvt_pos h3).2
    have e1 : ((σ 2 2) + w).toInt = (σ 2 2).toInt + w.toInt := ad (by omega) (by omega)
    rw [ad0 i1 (by rw [e1]; omega) (by rw [e1]; omega), e1] at h2
    rw [up]
    omega
theorem sp_sixteens {Q : Int32 → St → Prop} (tr : TRa σ n) (hn : n ≤ 16000) (hb : (σ 2 2).toInt + 2 ≤ (σ 2 1).toInt) (k0 : ∀ s, KTk σ s → TEn s → Q 0 s) (k1 : ∀ s, KTk σ s → TRa s (n + 1) → Q 1 s) : wk_X10_sixteens σ Q := by
  have t1 := tr.1
  have t2 := tr.2.1
  unfold wk_X10_sixteens
  refine sp_byteV (sp_sixteenth (fun v0 h0 => ⟨fun q _ w b => q = (16010 - w.toInt).toNat ∧ (2 ≤ w.toInt ∧ (σ 2 2).toInt + w.toInt ≤ (σ 2 1).toInt) ∧ (0 ≤ b.toInt → (σ 2 2).toInt + w.toInt < (σ 2 1).toInt), ⟨_, rfl, ⟨by decide, by rw [i2]; omega⟩, fun h => ?_⟩, ?_⟩))
  · have h2 := (bvt_pos (h0 h)).2
    rw [ad0 i2 (by omega) (by omega)] at h2
    rw [i2]
    omega
  rintro q g w b ⟨hq, hw, hb2⟩
  have up : (w + 1).toInt = w.toInt + 1 := ad1 (by omega)
  refine ⟨True, fun _ => ⟨fun _ => sp_tadd tr hn ⟨by decide, by decide⟩ ⟨by omega, hw.2⟩ (fun e => absurd e (by decide)) (fun e => absurd e (by decide)) k1, fun _ => sp_tbad tr hn (by omega) k0⟩, fun _ => trivial, fun c => ⟨fun _ => trivial, fun c4 => sp_byteV (sp_sixteenth (fun v1 h1 => ⟨_, by rw [up]; omega, rfl, ?_, fun h3 => ?_⟩))⟩⟩
  · have := hb2 c4
    rw [up]
    omega
  · have h2 := (bvt_pos (h1 h3)).2
    have e1 : ((σ 2 2) + w).toInt = (σ 2 2).toInt + w.toInt := ad (by omega) (by omega)
    rw [ad0 i1 (by rw [e1]; omega) (by rw [e1]; omega), e1] at h2
    rw [up]
    omega
theorem sp_string {Q : Int32 → St → Prop} (tr : TRa σ n) (hn : n ≤ 16000) (k0 : ∀ s, KTk σ s → TEn s → Q 0 s) (k1 : ∀ s, KTk σ s → TRa s (n + 1) → Q 1 s) : wk_X10_string σ Q := by
  have t1 := tr.1
  have t2 := tr.2.1
  unfold wk_X10_string
  refine ⟨fun q w c => q = (1000 - c.toInt).toNat ∧ (0 ≤ c.toInt ∧ c.toInt ≤ 201) ∧ (c.toInt + 1 ≤ w.toInt ∧ w.toInt ≤ 1 + 2 * c.toInt), ⟨_, rfl, by decide, by decide⟩, ?_⟩
  rintro q w c ⟨hq, hc, hw⟩
  have up : (w + 1).toInt = w.toInt + 1 := ad1 (by omega)
  have e1 : ((σ 2 2) + w).toInt = (σ 2 2).toInt + w.toInt := ad (by omega) (by omega)
  refine ⟨c.toInt ≤ 200 → (σ 2 2).toInt + w.toInt < (σ 2 1).toInt, fun h => ⟨fun c1 => sp_tadd tr hn ⟨by decide, by decide⟩ ?_ (fun e => absurd e (by decide)) (fun _ => ?_) k1, fun _ => sp_tbad tr hn (by omega) k0⟩, fun c1 c2 => by omega, fun c1 => sp_byteV ⟨fun e _ => ?_, fun _ => sp_codeAt (fun v3 => ⟨fun _ => ?_, fun _ => sp_tbad tr hn (by omega) k0⟩)⟩⟩
  · have := h c1
    rw [up]
    omega
  · rw [up]
    omega
  · have h2 := (bvt_pos (σ := σ) (x := (σ 2 2) + w) (by rw [e]; decide)).2
    omega
  · have uc : (c + 1).toInt = c.toInt + 1 := ad1 (by omega)
    have u2 : (w + (2 : Int32)).toInt = w.toInt + 2 := ad0 i2 (by omega) (by omega)
    exact sp_widthAt ⟨_, by rw [uc]; omega, rfl, by rw [uc]; omega, by rw [uc, up]; omega⟩ ⟨_, by rw [uc]; omega, rfl, by rw [uc]; omega, by rw [uc, u2]; omega⟩
theorem sp_character {Q : Int32 → St → Prop} (tr : TRa σ n) (hn : n ≤ 16000) (k0 : ∀ s, KTk σ s → TEn s → Q 0 s) (k1 : ∀ s, KTk σ s → TRa s (n + 1) → Q 1 s) : wk_X10_character σ Q := by
  have t1 := tr.1
  have t2 := tr.2.1
  have main : ∀ v21 v9 : Int32, v21.toInt = 1 ∨ v21.toInt = 2 → (∃ J45 : Prop, (J45 → wk_X10_bad (σ 2 2) σ (fun v50 s50 => Q v50 s50)) ∧ (v9.toInt < 0 → J45) ∧ (0 ≤ v9.toInt → wk_X10_byteAt ((σ 2 2) + ((1 : Int32) + v21)) σ (fun v37 => (v37.toInt = 39 → wk_X10_add (3 : Int32) v9 (((1 : Int32) + v21) + (1 : Int32)) σ (fun v62 s62 => Q v62 s62)) ∧ (v37.toInt ≠ 39 → J45)))) := by
    intro v21 v9 h
    refine ⟨True, fun _ => sp_tbad tr hn (by omega) k0, fun _ => trivial, fun _ => sp_byteV ⟨fun e => ?_, fun _ => trivial⟩⟩
    have e1 : ((1 : Int32) + v21).toInt = 1 + v21.toInt := ad (by rw [i1]; omega) (by rw [i1]; omega)
    have e2 : (((1 : Int32) + v21) + (1 : Int32)).toInt = 2 + v21.toInt := by rw [ad0 i1 (by omega) (by omega), e1]; omega
    have h2 := (bvt_pos (σ := σ) (x := (σ 2 2) + ((1 : Int32) + v21)) (by rw [e]; decide)).2
    rw [ad (by omega) (by omega), e1] at h2
    exact sp_tadd tr hn ⟨by decide, by decide⟩ (by rw [e2]; omega) (fun e => absurd e (by decide)) (fun e => absurd e (by decide)) k1
  unfold wk_X10_character
  exact sp_codeAt (fun v9 => sp_widthAt (main 1 v9 (Or.inl rfl)) (main 2 v9 (Or.inr rfl)))
theorem sp_mayGoOn {Q : Int32 → Prop} (k : ∀ w, Q w) : wk_X10_mayGoOn x σ Q := by
  unfold wk_X10_mayGoOn
  exact ⟨fun _ => k _, fun _ => ⟨fun _ => k _, fun _ => ⟨fun _ => k _, fun _ => ⟨fun _ => k _, fun _ => ⟨fun _ => k _, fun _ => ⟨fun _ => k _, fun _ => ⟨fun _ => k _, fun _ => k _⟩⟩⟩⟩⟩⟩⟩
theorem sg_dn (w : Int32) (h : 0 < w.toInt) : (w + (-1)).toInt = w.toInt - 1 := dc1 (by omega)
theorem sk_sign {Q : Int32 → St → Prop} (tr : TRa σ n) (hn : n ≤ 16000) (k0 : ∀ s, KTk σ s → TEn s → Q 0 s) (k1 : ∀ s, KTk σ s → TRa s (n + 1) → Q 1 s) : wk_X10_sign σ Q := by
  have t1 := tr.1
  have t2 := tr.2.1
  have tp : 0 ≤ (σ 2 2).toInt ∧ (σ 2 2).toInt ≤ (σ 2 1).toInt ∧ (σ 2 1).toInt ≤ 16000 := ⟨t2.1, t2.2, t1.2⟩
  unfold wk_X10_sign
  refine sp_byteV (sp_mayGoOn (fun v10 => ⟨fun y => y.toInt = 1 ∨ y.toInt = 3, fun y hy => ⟨fun q w => q = w.toNatClampNeg ∧ w.toInt ≤ 3, ⟨_, rfl, by omega⟩, ?_⟩, fun _ => Or.inl rfl, fun _ => Or.inr rfl⟩))
  rintro q w ⟨hq, hw⟩
  refine ⟨fun _ => sp_tbad tr hn (by omega) k0, fun c => sp_listed1 tp (by omega) (fun v hv => ⟨fun _ => ?_, fun c1 => ?_⟩)⟩
  · have e := sg_dn w c
    refine ⟨_, ?_, rfl, ?_⟩
    · rw [hq, nt', nt', e]
      clear e
      omega
    · rw [e]
      clear e
      omega
  · have h1 := hv c1
    have e : ((20 : Int32) + v).toInt = 20 + v.toInt := ad (by rw [show ((20 : Int32)).toInt = 20 from rfl]; omega) (by rw [show ((20 : Int32)).toInt = 20 from rfl]; omega)
    exact sp_tadd tr hn (by omega) (by omega) (fun e2 => by omega) (fun e2 => by omega) k1
theorem sk_token {Q : Int32 → St → Prop} (tr : TRa σ n) (hn : n ≤ 16000) (k0 : ∀ s, KTk σ s → TEn s → Q 0 s) (k1 : ∀ s, KTk σ s → TRa s (n + 1) → Q 1 s) : wk_X10_token σ Q := by
  have t1 := tr.1
  have t2 := tr.2.1
  unfold wk_X10_token
  refine sp_byteV ⟨fun c => sk_isLetter ⟨fun _ => sk_isDigit (fun _ => ⟨fun _ => ⟨fun _ => ⟨fun _ => sk_sign tr hn k0 k1, fun _ => sp_string tr hn k0 k1⟩, fun _ => sp_character tr hn k0 k1⟩, fun z => absurd rfl z⟩) (fun c4 => ⟨fun z => absurd z (by decide), fun _ => ?_⟩), fun z => absurd rfl z⟩ (fun _ => ⟨fun z => absurd z (by decide), fun _ => sp_word tr hn c k0 k1⟩), fun _ => sp_tend tr hn (Or.inl rfl) k0⟩
  have m1 : ∀ v73 : Int32, (0 ≤ v73.toInt → (σ 2 2).toInt + 2 ≤ (σ 2 1).toInt) → (v73.toInt < 0 → True) ∧ (0 ≤ v73.toInt → wk_X10_sixteens σ (fun v80 s80 => Q v80 s80)) := fun v73 h => ⟨fun _ => trivial, fun c5 => sp_sixteens tr hn (h c5) k0 k1⟩
  refine ⟨True, fun _ => sp_digits tr hn c4 k0 k1, fun _ => trivial, fun _ => sp_byteV ⟨fun _ => trivial, fun e => sp_byteV (sp_sixteenth (fun v73 _ => m1 v73 (fun _ => ?_)))⟩⟩
  have h2 := (bvt_pos (σ := σ) (x := (σ 2 2) + (1 : Int32)) (by rw [e]; decide)).2
  rw [ad0 i1 (by omega) (by omega)] at h2
  omega
theorem sp_scan {Q : St → Prop} (ha : 0 ≤ a.toInt ∧ a.toInt ≤ 16000) (hp : PLA σ) (hm : NMr σ) (k : ∀ s, Kp [(2, 1), (2, 2), (2, 3), (2, 4)] [13, 14, 15, 16] σ s → (s 2 1).toInt = a.toInt → TEn s → Q s) : wk_X10_scan a σ Q := by
  unfold wk_X10_scan
  generalize hu : upC (upC (upC (upC σ 2 1 a) 2 2 (0 : Int32)) 2 3 (1 : Int32)) 2 4 (0 : Int32) = u
  have ku : Kp [(2, 1), (2, 2), (2, 3), (2, 4)] [13, 14, 15, 16] σ u := by rw [← hu]; exact kp_f (kp_f (kp_f (kp_f kp_rf rfl) rfl) rfl) rfl
  have us : (u 2 1).toInt = a.toInt := by rw [← hu, rdA_ne (by decide), rdA_ne (by decide), rdA_ne (by decide), rdA_eq rfl]
  have up : (u 2 2).toInt = 0 := by rw [← hu, rdA_ne (by decide), rdA_ne (by decide), rdA_eq rfl]; rfl
  have uc : (u 2 4).toInt = 0 := by rw [← hu, rdA_eq rfl]; rfl
  have e13 : u 13 = σ 13 := by rw [← hu]; rfl
  have e14 : u 14 = σ 14 := by rw [← hu]; rfl
  have e15 : u 15 = σ 15 := by rw [← hu]; rfl
  have tr0 : TRa u 0 := by
    refine ⟨by rw [us]; exact ha, by rw [us, up]; omega, by unfold PLA; rw [e15]; exact hp, by unfold NMr; rw [e13, e14, e15]; exact hm, by rw [uc]; rfl, fun j hj => absurd hj (by omega), fun j hj => absurd hj (by omega)⟩
  clear e13 e14 e15 uc up hu hp hm
  refine ⟨fun q m c s => q = (16010 - c.toInt).toNat ∧ KTk u s ∧ (0 ≤ c.toInt ∧ c.toInt ≤ 16001) ∧ ((m.toInt = 1 ∧ ∃ n, TRa s n ∧ c.toInt = n) ∨ (m.toInt = 0 ∧ TEn s)), ⟨_, rfl, kp_rf, by decide, Or.inl ⟨rfl, 0, tr0, rfl⟩⟩, ?_⟩
  rintro q m c s - ⟨hq, ks, hc, h⟩
  have es : (s 2 1).toInt = a.toInt := by rw [show s 2 1 = u 2 1 from ks 2 1 rfl rfl]; exact us
  have fin : ∀ r, KTk u r → TEn r → Q r := fun r kr te => k r (kp_tr ku (kp_sub kr rfl rfl)) (by rw [show r 2 1 = u 2 1 from kr 2 1 rfl rfl]; exact us) te
  rcases h with ⟨hm, n, tr, hn⟩ | ⟨hm, te⟩
  · have cn := tr_cnt tr
    have t2 := tr.2.1
    refine ⟨fun c1 => by omega, fun c1 => ⟨fun z => by omega, fun _ => ?_⟩⟩
    have upc : (c + 1).toInt = c.toInt + 1 := ad1 (by omega)
    have go0 : ∀ r, KTk u r → TEn r → ∃ p, p < q ∧ (p = (16010 - (c + 1).toInt).toNat ∧ KTk u r ∧ (0 ≤ (c + 1).toInt ∧ (c + 1).toInt ≤ 16001) ∧ (((0 : Int32).toInt = 1 ∧ ∃ n, TRa r n ∧ (c + 1).toInt = n) ∨ ((0 : Int32).toInt = 0 ∧ TEn r))) := fun r kr te => ⟨_, by rw [upc]; omega, rfl, kr, by rw [upc]; omega, Or.inr ⟨rfl, te⟩⟩
    have go1 : ∀ r, KTk u r → TRa r (n + 1) → ∃ p, p < q ∧ (p = (16010 - (c + 1).toInt).toNat ∧ KTk u r ∧ (0 ≤ (c + 1).toInt ∧ (c + 1).toInt ≤ 16001) ∧ (((1 : Int32).toInt = 1 ∧ ∃ n, TRa r n ∧ (c + 1).toInt = n) ∨ ((1 : Int32).toInt = 0 ∧ TEn r))) := fun r kr te => ⟨_, by rw [upc]; omega, rfl, kr, by rw [upc]; omega, Or.inl ⟨rfl, n + 1, te, by rw [upc]; omega⟩⟩
    have hn' : n ≤ 16000 := by omega
    clear fin
    refine sp_skipBlanks tr hn' (fun r kr te => ?_) (fun r kr tr2 => ?_)
    · exact ⟨fun y0 s5 => y0 = 0 ∧ KTk u s5 ∧ TEn s5, fun y0 s5 _ hy => by rw [hy.1]; exact go0 s5 hy.2.1 hy.2.2, fun s4 => KTk u s4 ∧ TEn s4, fun s4 h4 => ⟨rfl, h4⟩, fun _ => ⟨kp_tr ks kr, te⟩, fun z => absurd rfl z⟩
    · refine ⟨fun y0 s5 => (y0 = 0 ∧ KTk u s5 ∧ TEn s5) ∨ (y0 = 1 ∧ KTk u s5 ∧ TRa s5 (n + 1)), fun y0 s5 _ hy => ?_, fun s4 => KTk u s4 ∧ TEn s4, fun s4 h4 => Or.inl ⟨rfl, h4⟩, fun z => absurd z (by decide), fun _ => sk_token tr2 hn' (fun v kv te => ⟨fun _ => ⟨kp_tr ks (kp_tr kr kv), te⟩, fun z => absurd rfl z⟩) (fun v kv t3 => ⟨fun z => absurd z (by decide), fun _ => Or.inr ⟨rfl, kp_tr ks (kp_tr kr kv), t3⟩⟩)⟩
      rcases hy with hy | hy
      · rw [hy.1]
        exact go0 s5 hy.2.1 hy.2.2
      · rw [hy.1]
        exact go1 s5 hy.2.1 hy.2.2
  · exact ⟨fun _ => fin s ks te, fun _ => ⟨fun _ => fin s ks te, fun z => absurd hm z⟩⟩
end SCN2
end

section
/-! between calls -/
/-- what a unit's code may call -/
def CPo (σ : St) (o : Nat) (a : Int) (m : Nat) : Prop := (((σ 34) (o - 1)).toInt ≤ a ∧ a < ((σ 34) o).toInt ∧ 0 ≤ a ∧ a < 10100) ∧ FLb ((σ 25) a.toNat) 1 ∧ FLb ((σ 25) a.toNat) 8 ∧ spar ((σ 27) a.toNat) = m ∧ (FLb ((σ 25) a.toNat) 2 → FLb ((σ 25) a.toNat) 4)
/-- a kept unit's functions -/
def FNo (σ : St) (o : Nat) : Prop := ∀ d : Nat, ((σ 34) (o - 1)).toInt ≤ d → (d : Int) < ((σ 34) o).toInt → FLb ((σ 25) d) 1 → FLb ((σ 25) d) 4 → ∃ hd L g, ((σ 28) d).toInt = (hd : Nat) ∧ FUNe (σ 24) (CPo σ o) (clen σ) hd (spar ((σ 27) d)) L g
def LKe (κ : St) (Fs : Nat → Nat → Prop) (N : Nat) : Prop := ∀ hd n, Fs hd n → ∃ L g, FUNe (κ 24) (CPI κ Fs) N hd n L g
/-- what is linked can be run -/
def RDy (σ : St) : Prop := (σ 10 2).toInt ≠ 0 → ∃ Fs hd, LKe σ Fs (clen σ) ∧ (σ 10 11).toInt = (hd : Nat) ∧ Fs hd 0
/-- the library's declarations -/
def LBr (σ : St) : Prop := ((σ 29) 0).toInt = 3 ∧ ∀ d : Nat, d < 4 → FLb ((σ 25) d) 1 ∧ FLb ((σ 25) d) 4 ∧ ((σ 28) d).toInt = -1 - d ∧ spar ((σ 27) d) = (if d = 0 then 0 else 1)
/-- what is picked -/
def PKx (σ : St) (o : Nat) : Prop := (1 ≤ (σ 10 5).toInt ∧ (σ 10 5).toInt ≤ o + 1) ∧ ((σ 56) 0).toInt = 0 ∧ (∀ j : Nat, 1 ≤ j → (j : Int) < (σ 10 5).toInt → 1 ≤ ((σ 56) j).toInt ∧ ((σ 56) j).toInt ≤ o) ∧ ∀ i j : Nat, 1 ≤ i → i < j → (j : Int) < (σ 10 5).toInt → ((σ 56) i).toInt ≠ ((σ 56) j).toInt
/-- the ends of the objects' declarations -/
def DEx (σ : St) (o : Nat) : Prop := ((σ 34) 0).toInt = 4 ∧ ∀ k, k < o → ((σ 34) k).toInt ≤ ((σ 34) (k + 1)).toInt ∧ ((σ 34) (k + 1)).toInt ≤ ((σ 34) k).toInt + 100
/-- the bytes that are fed and what came of them -/
def FDx (σ : St) : Prop := (0 ≤ (σ 0 1).toInt ∧ (σ 0 1).toInt ≤ 16000 ∧ (σ 0 1).toInt ≤ (σ 0 2).toInt ∧ (σ 0 2).toInt ≤ 65536) ∧ (0 ≤ (σ 4 1).toInt ∧ (σ 4 1).toInt ≤ 4 * ((σ 0 2).toInt - (σ 0 1).toInt)) ∧ (0 ≤ (σ 5 7).toInt ∧ (σ 5 7).toInt ≤ 15 + ((σ 0 2).toInt - (σ 0 1).toInt))
def IVx (σ : St) (o : Nat) : Prop := ((σ 5 13).toInt = o ∧ o ≤ 100) ∧ DEx σ o ∧ (σ 5 1).toInt = ((σ 34) o).toInt ∧ (σ 4 1).toInt = ((σ 36) o).toInt ∧ FDx σ ∧ NME σ ∧ (PLA σ ∧ NMr σ ∧ ByteOK (σ 1) ∧ ∀ j, FLb ((σ 25) j) 1 → spar ((σ 27) j) ≤ 8) ∧ LBr σ ∧ (∀ k, 1 ≤ k → k ≤ o → FNo σ k) ∧ RDy σ ∧ PKx σ o ∧ (σ 12 18).toInt = 0 ∧ 0 ≤ (σ 11 0).toInt
/-- what was there stays -/
def BLx (σ s : St) (o : Nat) : Prop := (∀ d : Nat, (d : Int) < (σ 5 1).toInt → (s 27) d = (σ 27) d ∧ (s 28) d = (σ 28) d ∧ (s 29) d = (σ 29) d ∧ ((s 25) d &&& 1 = (σ 25) d &&& 1) ∧ ((s 25) d &&& 2 = (σ 25) d &&& 2) ∧ ((s 25) d &&& 4 = (σ 25) d &&& 4) ∧ (FLb ((σ 25) d) 8 → FLb ((s 25) d) 8)) ∧ (∀ j, j < clen σ → (s 24) j = (σ 24) j) ∧ clen σ ≤ clen s ∧ (∀ k, k ≤ o → (s 34) k = (σ 34) k) ∧ (s 59) = (σ 59) ∧ s 10 = σ 10 ∧ (s 56) = (σ 56)
section IVS
variable {σ s z t ρ : St} {n m i j k o d : Nat} {x y v a a1 a2 a3 : Int32}
theorem de_le (h : DEx σ o) : ∀ k, k ≤ o → 4 ≤ ((σ 34) k).toInt ∧ ((σ 34) k).toInt ≤ 4 + 100 * (k : Int)
  | 0, _ => by rw [h.1]; omega
  | k + 1, hk => by
    have h1 := de_le h k (by omega)
    have h2 := h.2 k (by omega)
    omega
theorem de_mono (h : DEx σ o) (hi : i ≤ o) : ∀ k, k ≤ i → ((σ 34) k).toInt ≤ ((σ 34) i).toInt := by
  induction i with
  | zero => intro k hk; rw [show k = 0 from by omega]; exact Int.le_refl _
  | succ i ih =>
    intro k hk
    by_cases c : k = i + 1
    · rw [c]; exact Int.le_refl _
    · exact Int.le_trans (ih (by omega) k (by omega)) (h.2 i (by omega)).1
theorem flb_iff (h : x &&& a = y &&& a) : FLb x a ↔ FLb y a := by unfold FLb; rw [h]
theorem bl_cp (b : BLx σ s o) (hk : k ≤ o) (he : ((σ 34) k).toInt ≤ (σ 5 1).toInt) : ∀ a m, CPo σ k a m → CPo s k a m := fun a m ⟨⟨c1, c2, c3, c4⟩, h1, h2, h3, h4⟩ => by
  obtain ⟨b1, b2, b3, b4, b5, b6, b7⟩ := b
  obtain ⟨r1, r2, r3, r4, r5, r6, r7⟩ := b1 a.toNat (by omega)
  unfold CPo
  rw [b4 (k - 1) (by omega), b4 k hk, r1]
  exact ⟨⟨c1, c2, c3, c4⟩, (flb_iff r4).mpr h1, r7 h2, h3, fun q => (flb_iff r6).mpr (h4 ((flb_iff r5).mp q))⟩
theorem bl_fn (b : BLx σ s o) (hk : k ≤ o) (he : ((σ 34) k).toInt ≤ (σ 5 1).toInt) (h : FNo σ k) : FNo s k := fun d h1 h2 h3 h4 => by
  have cp := bl_cp b hk he
  obtain ⟨b1, b2, b3, b4, b5, b6, b7⟩ := b
  rw [b4 (k - 1) (by omega)] at h1
  rw [b4 k hk] at h2
  obtain ⟨r1, r2, r3, r4, r5, r6, r7⟩ := b1 d (by omega)
  obtain ⟨hd, L, g, q1, q2⟩ := h d h1 h2 ((flb_iff r4).mp h3) ((flb_iff r6).mp h4)
  exact ⟨hd, L, g, by rw [r2]; exact q1, by rw [r1]; exact fune_mono b2 cp b3 q2⟩
theorem bl_lb (b : BLx σ s o) (hd : 4 ≤ (σ 5 1).toInt) (h : LBr σ) : LBr s := by
  obtain ⟨b1, b2, b3, b4, b5, b6, b7⟩ := b
  refine ⟨by rw [(b1 0 (by omega)).2.2.1]; exact h.1, fun d hd4 => ?_⟩
  obtain ⟨r1, r2, r3, r4, r5, r6, r7⟩ := b1 d (by omega)
  obtain ⟨q1, q2, q3, q4⟩ := h.2 d hd4
  exact ⟨(flb_iff r4).mpr q1, (flb_iff r6).mpr q2, by rw [r2]; exact q3, by rw [r1]; exact q4⟩
theorem cpi_mono {κ κ' : St} {Fs : Nat → Nat → Prop} (e : (κ' 59) = (κ 59)) : ∀ a m, CPI κ Fs a m → CPI κ' Fs a m := fun a m h => by
  unfold CPI at h ⊢
  rw [e]
  exact h
theorem bl_rd (b : BLx σ s o) (h : RDy σ) : RDy s := fun hr => by
  obtain ⟨b1, b2, b3, b4, b5, b6, b7⟩ := b
  rw [b6] at hr
  obtain ⟨Fs, hd, q1, q2, q3⟩ := h hr
  refine ⟨Fs, hd, fun hd' n hf => ?_, by rw [b6]; exact q2, q3⟩
  obtain ⟨L, g, f⟩ := q1 hd' n hf
  exact ⟨L, g, fune_mono b2 (cpi_mono b5) b3 f⟩
theorem bl_pk {o' : Nat} (b : BLx σ s o) (ho : o ≤ o') (h : PKx σ o) : PKx s o' := by
  obtain ⟨b1, b2, b3, b4, b5, b6, b7⟩ := b
  obtain ⟨⟨h1, h2⟩, h3, h4, h5⟩ := h
  unfold PKx
  rw [b6, b7]
  exact ⟨⟨h1, by omega⟩, h3, fun j j1 j2 => ⟨(h4 j j1 j2).1, by have := (h4 j j1 j2).2; omega⟩, h5⟩
theorem nme_cut (h : NME σ) (e : ∀ d : Nat, (d : Int) < (σ 5 1).toInt → (s 29) d = (σ 29) d) (b : ∀ d, 0 ≤ ((s 29) d).toInt ∧ ((s 29) d).toInt ≤ 65600) (ed : (s 5 1).toInt = (σ 5 1).toInt) (en : (s 5 7).toInt = (σ 5 7).toInt) : NME s := ⟨fun d hd => by rw [e d (by omega), en]; exact h.1 d (by omega), b⟩
end IVS
end

section
/-! compile() -/
section CMP
variable {σ s z t ρ : St} {n m i j k o d : Nat} {x y v a a1 a2 a3 : Int32}
/-- a few cells apart from what is kept between calls -/
theorem iv_kp (h : IVx σ o) (K : ∀ c j, (c = 1 ∨ c = 4 ∨ c = 5 ∨ c = 10 ∨ (24 ≤ c ∧ c ≤ 29) ∨ c = 34 ∨ c = 36 ∨ c = 56 ∨ c = 59 ∨ (c = 12 ∧ j = 18) ∨ c = 11) → s c j = σ c j) (fd : FDx s) (pl : PLA s) (nm : NMr s) : IVx s o := by
  have R : ∀ c, (c = 1 ∨ c = 4 ∨ c = 5 ∨ c = 10 ∨ (24 ≤ c ∧ c ≤ 29) ∨ c = 34 ∨ c = 36 ∨ c = 56 ∨ c = 59) → s c = σ c := fun c hc => funext (fun j => K c j (by omega))
  obtain ⟨h1, h2, h3, h4, h5, h6, ⟨g1, g2, g3, g4⟩, h8, h9, ha, hb, hc, hi⟩ := h
  have r4 := R 4 (by decide)
  have r5 := R 5 (by decide)
  have r34 := R 34 (by decide)
  have r36 := R 36 (by decide)
  have ecl : clen s = clen σ := by unfold clen; rw [r4]
  have bl : BLx σ s o := ⟨fun d _ => by rw [R 25 (by decide), R 27 (by decide), R 28 (by decide), R 29 (by decide)]; exact ⟨rfl, rfl, rfl, rfl, rfl, rfl, id⟩, fun j _ => by rw [R 24 (by decide)], by rw [ecl]; exact Nat.le_refl _, fun k _ => by rw [r34], R 59 (by decide), R 10 (by decide), R 56 (by decide)⟩
  have d0 := de_le h2
  refine ⟨by rw [r5]; exact h1, by unfold DEx; rw [r34]; exact h2, by rw [r5, r34]; exact h3, by rw [r4, r36]; exact h4, fd, by unfold NME; rw [r5, R 29 (by decide)]; exact h6, ⟨pl, nm, by rw [R 1 (by decide)]; exact g3, by rw [R 25 (by decide), R 27 (by decide)]; exact g4⟩, bl_lb bl (by have := d0 o (Nat.le_refl _); omega) h8, fun k k1 k2 => bl_fn bl k2 (by have := de_mono h2 (Nat.le_refl _) k k2; omega) (h9 k k1 k2), bl_rd bl ha, bl_pk bl (Nat.le_refl _) hb, by rw [K 12 18 (by decide)]; exact hc, by rw [K 11 0 (by decide)]; exact hi⟩
theorem bl_wk (e : ∀ c j, (c = 1 ∨ c = 4 ∨ c = 5 ∨ c = 10 ∨ (24 ≤ c ∧ c ≤ 29) ∨ c = 34 ∨ c = 36 ∨ c = 56 ∨ c = 59 ∨ (c = 12 ∧ j = 18) ∨ c = 11) → ρ c j = σ c j) (wk : WKs ρ s) : BLx σ s o := by
  obtain ⟨kw, ux, ⟨o1, o2, o3, o4⟩, l0, nm⟩ := wk
  have r4 : ρ 4 1 = σ 4 1 := e 4 1 (by decide)
  have r5 : ρ 5 1 = σ 5 1 := e 5 1 (by decide)
  have ecl : clen ρ = clen σ := by unfold clen; rw [r4]
  rw [r5] at o2
  rw [ecl] at o3 o4
  refine ⟨fun d hd => ?_, fun j hj => (o3 j hj).trans (e 24 j (by simp)), o4, fun k _ => ?_, funext (fun j => ?_), funext (fun j => ?_), funext (fun j => ?_)⟩
  · obtain ⟨q1, q2, q3, q4, q5, q6, q7, q8⟩ := o2 d hd
    rw [e 25 d (by simp)] at q5 q6 q7 q8
    exact ⟨q2.trans (e 27 d (by simp)), q3.trans (e 28 d (by simp)), q4.trans (e 29 d (by simp)), q5, q6, q7, q8⟩
  · exact (kw 34 k (op_lt (by decide)) rfl rfl).trans (e 34 k (by simp))
  · exact (kw 59 j (op_mid (by decide) (by decide)) rfl rfl).trans (e 59 j (by simp))
  · exact (kw 10 j (op_lt (by decide)) rfl rfl).trans (e 10 j (by simp))
  · exact (kw 56 j (op_mid (by decide) (by decide)) rfl rfl).trans (e 56 j (by simp))
theorem sp_forget {Q : St → Prop} (h : IVx σ o) (e : ∀ c j, (c = 1 ∨ c = 4 ∨ c = 5 ∨ c = 10 ∨ (24 ≤ c ∧ c ≤ 29) ∨ c = 34 ∨ c = 36 ∨ c = 56 ∨ c = 59 ∨ (c = 12 ∧ j = 18) ∨ c = 11) → ρ c j = σ c j) (wk : WKs ρ s) (nm : NMr s) (fd : FDx σ) (e01 : s 0 1 = σ 0 1) (e02 : s 0 2 = σ 0 2) (k : ∀ t, IVx t o → Q t) : wk_X8_forget s Q := by
  have bl := bl_wk (o := o) e wk
  obtain ⟨⟨h1, h1'⟩, h2, h3, h4, h5, h6, ⟨g1, g2, g3, g4⟩, h8, h9, ha, hb, hc, hi⟩ := h
  obtain ⟨kw, ux, ol, l0, nmd⟩ := wk
  have d0 := (de_le h2) o (Nat.le_refl _)
  have e513 : (s 5 13).toInt = o := by rw [(kw 5 13 (op_lt (by decide)) rfl rfl).trans (e 5 13 (by simp))]; exact h1
  have e34 : s 34 o = σ 34 o := bl.2.2.2.1 o (Nat.le_refl _)
  have e36 : s 36 o = σ 36 o := (kw 36 o (op_lt (by decide)) rfl rfl).trans (e 36 o (by simp))
  have cs := clen_eq l0
  have cσ := clen_eq fd.2.1.1
  have b3 := bl.2.2.1
  obtain ⟨D, hD⟩ : ∃ D : Nat, (σ 34 o).toInt = (D : Int) + 1 := ⟨((σ 34 o).toInt - 1).toNat, by omega⟩
  have eD : ((σ 34 o) - (1 : Int32)).toInt = D := by rw [sb (by rw [i1]; omega) (by rw [i1]; omega), i1]; omega
  unfold wk_X8_forget wk_X8_nameStart wk_X0_cut
  rw [atv_at e513 (by omega), atv_at e513 (by omega), atv_at e513 (by omega), e34, e36, rdC_ne (show (29 : Nat) ≠ 5 by decide), atv_at eD (by omega)]
  dsimp only
  generalize hv : (if (upC (upC (upC s 5 1 (σ 34 o)) 5 7 (s 29 D)) 5 9 (s 35 o)) 4 1 < σ 36 o then (upC (upC (upC s 5 1 (σ 34 o)) 5 7 (s 29 D)) 5 9 (s 35 o)) 4 1 else σ 36 o) = v
  have ev : v.toInt = (σ 4 1).toInt := by
    rw [← hv, rdC_ne (by decide), rdC_ne (by decide), rdC_ne (by decide)]
    by_cases c : s 4 1 < σ 36 o
    · have c' := Int32.lt_iff_toInt_lt.mp c
      rw [← h4] at c'
      omega
    · rw [if_neg c, ← h4]
  generalize ht : upC (upC (upC (upC s 5 1 (σ 34 o)) 5 7 (s 29 D)) 5 9 (s 35 o)) 4 1 v = t
  have kt : Kp [(5, 1), (5, 7), (5, 9), (4, 1)] [] s t := by rw [← ht]; exact kp_f (kp_f (kp_f (kp_f kp_rf rfl) rfl) rfl) rfl
  have t41 : (t 4 1).toInt = (σ 4 1).toInt := by rw [← ht, rdA_eq rfl]; exact ev
  have t51 : t 5 1 = σ 34 o := by rw [← ht]; rfl
  have t57 : t 5 7 = s 29 D := by rw [← ht]; rfl
  have n57 : (t 5 7).toInt = (σ 5 7).toInt := by rw [t57, (bl.1 D (by omega)).2.2.1]; exact h6.1 D (by omega)
  have ecl : clen t = clen σ := by
    have := clen_eq (σ := t) (by rw [t41]; exact fd.2.1.1)
    omega
  have row : ∀ c j, c ≠ 4 → c ≠ 5 → t c j = s c j := fun c j c4 c5 => by rw [← ht, rdC_ne c4, rdC_ne c5, rdC_ne c5, rdC_ne c5]
  have blt : BLx σ t o := by
    obtain ⟨b1, b2, b3, b4, b5, b6, b7⟩ := bl
    refine ⟨fun d hd => by rw [row 25 d (by decide) (by decide), row 27 d (by decide) (by decide), row 28 d (by decide) (by decide), row 29 d (by decide) (by decide)]; exact b1 d hd, fun j hj => by rw [row 24 j (by decide) (by decide)]; exact b2 j hj, by rw [ecl]; exact Nat.le_refl _, fun k hk => by rw [row 34 k (by decide) (by decide)]; exact b4 k hk, ?_, ?_, ?_⟩
    · rw [← b5]; exact funext (fun j => row 59 j (by decide) (by decide))
    · rw [← b6]; exact funext (fun j => row 10 j (by decide) (by decide))
    · rw [← b7]; exact funext (fun j => row 56 j (by decide) (by decide))
  have m513 : t 5 13 = s 5 13 := kt 5 13 rfl rfl
  obtain ⟨f1, f2, f3⟩ := fd
  refine k t ⟨⟨by rw [m513]; exact e513, h1'⟩, ⟨by rw [blt.2.2.2.1 0 (by omega)]; exact h2.1, fun q hq => by rw [blt.2.2.2.1 q (by omega), blt.2.2.2.1 (q + 1) (by omega)]; exact h2.2 q hq⟩, by rw [t51, blt.2.2.2.1 o (Nat.le_refl _)], by rw [t41, row 36 o (by decide) (by decide), e36]; exact h4, ⟨by rw [row 0 1 (by decide) (by decide), row 0 2 (by decide) (by decide), e01, e02]; exact f1, by rw [t41, row 0 1 (by decide) (by decide), row 0 2 (by decide) (by decide), e01, e02]; exact f2, by rw [n57, row 0 1 (by decide) (by decide), row 0 2 (by decide) (by decide), e01, e02]; exact f3⟩, nme_cut h6 (fun d hd => (blt.1 d hd).2.2.1) (fun d => by rw [row 29 d (by decide) (by decide)]; exact nmd.2.2 d) (by rw [t51, h3]) n57, ⟨?_, ?_, ?_, fun j q => ?_⟩, bl_lb blt (by omega) h8, fun q k1 k2 => bl_fn blt k2 (by have := de_mono h2 (Nat.le_refl _) q k2; omega) (h9 q k1 k2), bl_rd blt ha, bl_pk blt (Nat.le_refl _) hb, ?_, by rw [row 11 0 (by decide) (by decide), kw 11 0 (op_lt (by decide)) rfl rfl, e 11 0 (by decide)]; exact hi⟩
  · intro j
    rw [row 15 j (by decide) (by decide)]
    exact ux.1 j
  · intro j hj
    rw [row 13 j (by decide) (by decide)] at hj
    rw [row 14 j (by decide) (by decide), row 15 j (by decide) (by decide)]
    exact nm j hj
  · have e1 : t 1 = σ 1 := funext (fun j => by rw [row 1 j (by decide) (by decide), kw 1 j (op_lt (by decide)) rfl rfl, e 1 j (by simp)])
    rw [e1]
    exact g3
  · rw [row 25 j (by decide) (by decide)] at q
    rw [row 27 j (by decide) (by decide)]
    exact ux.2.2.2.2 j q
  · rw [row 12 18 (by decide) (by decide), kw 12 18 (op_lt (by decide)) rfl rfl, e 12 18 (by decide)]
    exact hc
theorem sk_keep {Q : Int32 → St → Prop} (h : IVx σ o) (ho : o < 100) (e : ∀ c j, (c = 1 ∨ c = 4 ∨ c = 5 ∨ c = 10 ∨ (24 ≤ c ∧ c ≤ 29) ∨ c = 34 ∨ c = 36 ∨ c = 56 ∨ c = 59 ∨ (c = 12 ∧ j = 18) ∨ c = 11) → ρ c j = σ c j) (wk : WKs ρ s) (nm : NMr s) (fd : FDx s) (hN : ∃ N, UFx s N ∧ N ≤ clen s ∧ (s 6 6).toInt = -1 ∧ clen ρ ≤ N ∧ ∀ i : Nat, (i : Int) < (s 6 7).toInt → ∀ d : Nat, (d : Int) = (s 5 1).toInt - (s 6 7).toInt + i → FLb ((s 25) d) 2 → 0 ≤ ((s 39) i).toInt → FLb ((s 25) d) 4) (k : ∀ v t, IVx t (o + 1) → Q v t) : wk_X8_keep a1 s Q := by
  have bl := bl_wk (o := o) e wk
  obtain ⟨⟨h1, h1'⟩, h2, h3, h4, h5, h6, ⟨g1, g2, g3, g4⟩, h8, h9, ha, hb, hc, hi⟩ := h
  obtain ⟨kw, ux, ol, l0, nmd⟩ := wk
  have d0 := (de_le h2) o (Nat.le_refl _)
  have e513 : (s 5 13).toInt = o := by rw [(kw 5 13 (op_lt (by decide)) rfl rfl).trans (e 5 13 (by decide))]; exact h1
  have e514 : ((s 5 13) + (1 : Int32)).toInt = (o + 1 : Nat) := by rw [ad0 i1 (by omega) (by omega), e513]; omega
  have eo := ol.1
  rw [e 5 1 (by decide), h3] at eo
  obtain ⟨u1, u2, u3, u4, u5⟩ := ux
  unfold wk_X8_keep
  generalize ht : upF _ 37 _ = t
  have row : ∀ c, c ≠ 5 → c ≠ 34 → c ≠ 35 → c ≠ 36 → c ≠ 37 → t c = s c := fun c c5 c34 c35 c36 c37 => by rw [← ht, rdF_ne c37, rdF_ne c36, rdF_ne c35, rdF_ne c34, rdC_ne c5]
  have t5 : ∀ q, q ≠ 13 → t 5 q = s 5 q := fun q hq => by rw [← ht, rdF_ne (by decide), rdF_ne (by decide), rdF_ne (by decide), rdF_ne (by decide), rdA_ne hq]
  have t513 : t 5 13 = (s 5 13) + (1 : Int32) := by rw [← ht, rdF_ne (by decide), rdF_ne (by decide), rdF_ne (by decide), rdF_ne (by decide), rdA_eq rfl]
  have t34 : t 34 = fun q => if q = o + 1 then s 5 1 else s 34 q := by rw [← ht, rdF_ne (by decide), rdF_ne (by decide), rdF_ne (by decide), rdF_eq, setv_at e514 (by omega), rdC_ne (by decide)]
  have t36 : t 36 = fun q => if q = o + 1 then s 4 1 else s 36 q := by rw [← ht, rdF_ne (by decide), rdF_eq, setv_at e514 (by omega), rdF_ne (by decide), rdF_ne (by decide), rdC_ne (by decide)]
  clear ht
  have e36 : ∀ q, q ≠ o + 1 → t 34 q = s 34 q := fun q hq => by rw [t34]; exact if_neg hq
  have e34 : t 34 (o + 1) = s 5 1 := by rw [t34]; exact if_pos rfl
  have blt : BLx σ t o := by
    obtain ⟨b1, b2, b3, b4, b5, b6, b7⟩ := bl
    have ecl : clen t = clen s := by unfold clen; rw [row 4 (by decide) (by decide) (by decide) (by decide) (by decide)]
    refine ⟨fun d hd => by rw [row 25 (by decide) (by decide) (by decide) (by decide) (by decide), row 27 (by decide) (by decide) (by decide) (by decide) (by decide), row 28 (by decide) (by decide) (by decide) (by decide) (by decide), row 29 (by decide) (by decide) (by decide) (by decide) (by decide)]; exact b1 d hd, fun j hj => by rw [row 24 (by decide) (by decide) (by decide) (by decide) (by decide)]; exact b2 j hj, by rw [ecl]; exact b3, fun k hk => by rw [e36 k (by omega)]; exact b4 k hk, ?_, ?_, ?_⟩
    · rw [← b5]; exact row 59 (by decide) (by decide) (by decide) (by decide) (by decide)
    · rw [← b6]; exact row 10 (by decide) (by decide) (by decide) (by decide) (by decide)
    · rw [← b7]; exact row 56 (by decide) (by decide) (by decide) (by decide) (by decide)
  have de : DEx t (o + 1) := by
    refine ⟨by rw [e36 0 (by omega), bl.2.2.2.1 0 (by omega)]; exact h2.1, fun q hq => ?_⟩
    by_cases c : q = o
    · rw [c, e34, e36 o (by omega), bl.2.2.2.1 o (Nat.le_refl _)]
      omega
    · rw [e36 q (by omega), e36 (q + 1) (by omega), bl.2.2.2.1 q (by omega), bl.2.2.2.1 (q + 1) (by omega)]
      exact h2.2 q (by omega)
  have r4 := row 4 (by decide) (by decide) (by decide) (by decide) (by decide)
  have r0 := row 0 (by decide) (by decide) (by decide) (by decide) (by decide)
  have r25 := row 25 (by decide) (by decide) (by decide) (by decide) (by decide)
  have r27 := row 27 (by decide) (by decide) (by decide) (by decide) (by decide)
  have r28 := row 28 (by decide) (by decide) (by decide) (by decide) (by decide)
  have r24 := row 24 (by decide) (by decide) (by decide) (by decide) (by decide)
  have r29 := row 29 (by decide) (by decide) (by decide) (by decide) (by decide)
  refine k _ t ⟨⟨by rw [t513]; exact e514, by omega⟩, de, by rw [t5 1 (by decide), e34], by rw [r4, t36]; show _ = (if o + 1 = o + 1 then s 4 1 else s 36 (o + 1)).toInt; rw [if_pos rfl], by unfold FDx; rw [r0, r4, t5 7 (by decide)]; exact fd, nme_k (t5 1 (by decide)) (t5 7 (by decide)) (fun d => by rw [r29]) nmd |>.2, ⟨?_, ?_, ?_, fun j q => ?_⟩, bl_lb blt (by omega) h8, fun q k1 k2 => ?_, bl_rd blt ha, bl_pk blt (by omega) hb, ?_, by rw [row 11 (by decide) (by decide) (by decide) (by decide) (by decide), kw 11 0 (op_lt (by decide)) rfl rfl, e 11 0 (by decide)]; exact hi⟩
  · unfold PLA
    rw [row 15 (by decide) (by decide) (by decide) (by decide) (by decide)]
    exact u1
  · unfold NMr
    rw [row 13 (by decide) (by decide) (by decide) (by decide) (by decide), row 14 (by decide) (by decide) (by decide) (by decide) (by decide), row 15 (by decide) (by decide) (by decide) (by decide) (by decide)]
    exact nm
  · have e1 : t 1 = σ 1 := funext (fun j => by rw [row 1 (by decide) (by decide) (by decide) (by decide) (by decide), kw 1 j (op_lt (by decide)) rfl rfl, e 1 j (by simp)])
    rw [e1]
    exact g3
  · rw [r25] at q
    rw [r27]
    exact u5 j q
  · by_cases c : q = o + 1
    · subst c
      obtain ⟨N, n1, n2, n3, n4, n5⟩ := hN
      intro d d1 d2 f1 f4
      rw [show o + 1 - 1 = o from rfl, e36 o (by omega), bl.2.2.2.1 o (Nat.le_refl _)] at d1
      rw [e34] at d2
      rw [r25] at f1 f4
      obtain ⟨hd, L, g, q1, q2⟩ := n1 d (by omega) d2 f1 f4 (by omega)
      refine ⟨hd, L, g, by rw [r28]; exact q1, ?_⟩
      rw [r24, r27]
      refine fune_mono (fun _ _ => rfl) (fun a m ⟨⟨c1, c2, c3, c4⟩, p1, p2, p3, p4⟩ => ?_) (by unfold clen; rw [r4]; exact n2) q2
      refine ⟨by rw [show o + 1 - 1 = o from rfl, e36 o (by omega), bl.2.2.2.1 o (Nat.le_refl _), e34]; omega, by rw [r25]; exact p1, by rw [r25]; exact p2, by rw [r27]; exact p4, fun f2 => ?_⟩
      rw [r25] at f2 ⊢
      exact n5 (a - ((s 5 1).toInt - (s 6 7).toInt)).toNat (by omega) a.toNat (by omega) f2 p3
    · exact bl_fn blt (by omega) (by have := de_mono h2 (Nat.le_refl _) q (by omega); omega) (h9 q k1 (by omega))
  · rw [row 12 (by decide) (by decide) (by decide) (by decide) (by decide), kw 12 18 (op_lt (by decide)) rfl rfl, e 12 18 (by decide)]
    exact hc
end CMP
end

section
/-! compile(), whole -/
section CMP2
variable {σ s z t ρ : St} {n m i j k o d : Nat} {x y v a a1 a2 a3 : Int32}
theorem sk_compile {Q : Int32 → St → Prop} (h : IVx σ o) (k : ∀ v t o', IVx t o' → Q v t) : wk_X12_compile a1 σ Q := by
  have h' := h
  obtain ⟨⟨h1, h1'⟩, h2, h3, h4, ⟨f1, f2, f3⟩, h6, ⟨g1, g2, g3, g4⟩, h8, h9, ha, hb, hc, hi⟩ := h'
  have d0 := de_le h2
  unfold wk_X12_compile
  generalize hσ1 : upC (upC σ 0 1 (0 : Int32)) 0 3 ((-1) : Int32) = σ1
  have r1 : ∀ c, c ≠ 0 → σ1 c = σ c := fun c hc0 => by rw [← hσ1, rdC_ne hc0, rdC_ne hc0]
  have q01 : (σ1 0 1).toInt = 0 := by rw [← hσ1]; rfl
  have q02 : σ1 0 2 = σ 0 2 := by rw [← hσ1]; rfl
  have fd1 : FDx σ1 := by
    unfold FDx
    rw [q01, q02, r1 4 (by decide), r1 5 (by decide)]
    omega
  clear hσ1
  have iv1 : IVx σ1 o := iv_kp h (fun c j hc0 => by rw [r1 c (by omega)]) fd1 (by unfold PLA; rw [r1 15 (by decide)]; exact g1) (by unfold NMr; rw [r1 13 (by decide), r1 14 (by decide), r1 15 (by decide)]; exact g2)
  refine ⟨fun _ => k _ _ o iv1, fun _ => ⟨fun _ => k _ _ o iv1, fun _ => ⟨fun c100 => ?_, fun _ => k _ _ o iv1⟩⟩⟩
  refine sp_scan ⟨f1.1, f1.2.1⟩ (by unfold PLA; rw [r1 15 (by decide)]; exact g1) (by unfold NMr; rw [r1 13 (by decide), r1 14 (by decide), r1 15 (by decide)]; exact g2) (fun s4 k4 z4 te => ?_)
  obtain ⟨tk, pl4, nm4⟩ := te
  have kc : ∀ s5, KG s4 s5 → ∀ c j, c ≠ 2 → c ≠ 3 → ¬ (13 ≤ c ∧ c ≤ 23) → s5 c j = σ1 c j := fun s5 k5 c j c2 c3 c4 => by
    have e1 : s5 c j = s4 c j := k5 c j (by
      simp only [List.contains_cons, List.contains_nil, Bool.or_false, Bool.or_eq_false_iff, beq_eq_false_iff_ne, ne_eq, Prod.mk.injEq, not_and]
      omega) (by
      simp only [List.contains_cons, List.contains_nil, Bool.or_false, Bool.or_eq_false_iff, beq_eq_false_iff_ne, ne_eq]
      omega)
    have e2 : s4 c j = σ1 c j := k4 c j (by
      simp only [List.contains_cons, List.contains_nil, Bool.or_false, Bool.or_eq_false_iff, beq_eq_false_iff_ne, ne_eq, Prod.mk.injEq, not_and]
      omega) (by
      simp only [List.contains_cons, List.contains_nil, Bool.or_false, Bool.or_eq_false_iff, beq_eq_false_iff_ne, ne_eq]
      omega)
    exact e1.trans e2
  have t13 : ∀ s5, KG s4 s5 → s5 13 = s4 13 ∧ s5 14 = s4 14 ∧ s5 15 = s4 15 := fun s5 k5 => ⟨funext (fun j => k5 13 j rfl rfl), funext (fun j => k5 14 j rfl rfl), funext (fun j => k5 15 j rfl rfl)⟩
  have pn : ∀ s5, KG s4 s5 → PLA s5 ∧ NMr s5 := fun s5 k5 => by
    obtain ⟨w1, w2, w3⟩ := t13 s5 k5
    exact ⟨by unfold PLA; rw [w3]; exact pl4, by unfold NMr; rw [w1, w2, w3]; exact nm4⟩
  refine sp_gread tk (fun s5 k5 => ⟨fun z => absurd rfl z, fun _ => ?_⟩) (fun s5 k5 rd => ⟨fun _ => ?_, fun z => absurd z (by decide)⟩)
  · generalize hu : upC s5 0 3 (atv 16002 (s5 15) (s5 3 3)) = u
    have ru : ∀ c j, c ≠ 0 → u c j = s5 c j := fun c j hc0 => by rw [← hu, rdC_ne hc0]
    have u01 : u 0 1 = s5 0 1 := by rw [← hu]; rfl
    have u02 : u 0 2 = s5 0 2 := by rw [← hu]; rfl
    clear hu
    obtain ⟨p1, p2⟩ := pn s5 k5
    have w := kc s5 k5
    refine k _ _ o (iv_kp iv1 (fun c j hc0 => by rw [ru c j (by omega)]; exact w c j (by omega) (by omega) (by omega)) ?_ (fun j => by rw [ru 15 j (by decide)]; exact p1 j) (fun j hj => by rw [ru 13 j (by decide)] at hj; rw [ru 14 j (by decide), ru 15 j (by decide)]; exact p2 j hj))
    unfold FDx
    rw [u01, u02, ru 4 1 (by decide), ru 5 7 (by decide), w 0 1 (by decide) (by decide) (by omega), w 0 2 (by decide) (by decide) (by omega), w 4 1 (by decide) (by decide) (by omega), w 5 7 (by decide) (by decide) (by omega)]
    exact fd1
  · obtain ⟨p1, p2⟩ := pn s5 k5
    have w := kc s5 k5
    have row : ∀ c, c ≠ 2 → c ≠ 3 → ¬ (13 ≤ c ∧ c ≤ 23) → s5 c = σ1 c := fun c c2 c3 c4 => funext (fun j => w c j c2 c3 c4)
    have v5 := row 5 (by decide) (by decide) (by omega)
    have v4 := row 4 (by decide) (by decide) (by omega)
    have v0 := row 0 (by decide) (by decide) (by omega)
    have sz : (s5 2 1).toInt = (σ 0 1).toInt := by rw [show s5 2 1 = s4 2 1 from k5 2 1 rfl rfl]; exact z4
    have dd := d0 o (Nat.le_refl _)
    refine sp_walk rd (by rw [sz]; exact f1.2.1) p2 p1 (by rw [row 1 (by decide) (by decide) (by omega), r1 1 (by decide)]; exact g3) (by rw [v5, r1 5 (by decide)]; omega) (by rw [v4, r1 4 (by decide)]; exact f2.1) (by rw [v4, sz, r1 4 (by decide)]; omega) (by rw [v5, sz, r1 5 (by decide)]; omega) (by unfold NME; rw [v5, row 29 (by decide) (by decide) (by omega), r1 5 (by decide), r1 29 (by decide)]; exact h6) (by rw [row 25 (by decide) (by decide) (by omega), row 27 (by decide) (by decide) (by omega), r1 25 (by decide), r1 27 (by decide)]; exact g4) (fun ρ s kρ o0 wd hz => ?_)
    have e : ∀ c j, (c = 1 ∨ c = 4 ∨ c = 5 ∨ c = 10 ∨ (24 ≤ c ∧ c ≤ 29) ∨ c = 34 ∨ c = 36 ∨ c = 56 ∨ c = 59 ∨ (c = 12 ∧ j = 18) ∨ c = 11) → ρ c j = σ1 c j := fun c j hc0 => by
      have e1 : ρ c j = s5 c j := kρ c j (by
        simp only [List.contains_cons, List.contains_nil, Bool.or_false, Bool.or_eq_false_iff, beq_eq_false_iff_ne, ne_eq, Prod.mk.injEq, not_and]
        omega) rfl
      rw [e1]
      exact w c j (by omega) (by omega) (by omega)
    have kw := wd.1.1
    have s01 : s 0 1 = σ1 0 1 := by rw [kw 0 1 (op_lt (by decide)) rfl rfl, kρ 0 1 rfl rfl, v0]
    have s02 : s 0 2 = σ1 0 2 := by rw [kw 0 2 (op_lt (by decide)) rfl rfl, kρ 0 2 rfl rfl, v0]
    have nms : NMr s := fun j hj => by
      rw [kw 13 j (op_lt (by decide)) rfl rfl, kρ 13 j rfl rfl] at hj
      rw [kw 14 j (op_lt (by decide)) rfl rfl, kρ 14 j rfl rfl, kw 15 j (op_lt (by decide)) rfl rfl, kρ 15 j rfl rfl]
      exact p2 j hj
    refine ⟨fun f0 => ?_, fun _ => sp_forget iv1 e wd.1 nms fd1 s01 s02 (fun t it => ?_)⟩
    · obtain ⟨c1, c2⟩ := hz f0
      have cs := clen_eq wd.1.2.2.2.1
      refine sk_keep iv1 (by omega) e wd.1 nms ?_ (wd.2 f0) (fun v t it => k v t (o + 1) it)
      rw [v4, sz, r1 4 (by decide)] at c1
      rw [v5, sz, r1 5 (by decide)] at c2
      have := wd.1.2.2.2.2.1
      unfold FDx
      rw [s01, s02, q01, q02]
      omega
    · generalize hu : upC t 0 3 (atv 16002 (t 15) (t 6 4)) = u
      have ru : ∀ c j, c ≠ 0 → u c j = t c j := fun c j hc0 => by rw [← hu, rdC_ne hc0]
      have u01 : u 0 1 = t 0 1 := by rw [← hu]; rfl
      have u02 : u 0 2 = t 0 2 := by rw [← hu]; rfl
      clear hu
      have ft := it.2.2.2.2.1
      refine k _ _ o (iv_kp it (fun c j hc0 => ru c j (by omega)) ?_ (fun j => by rw [ru 15 j (by decide)]; exact it.2.2.2.2.2.2.1.1 j) (fun j hj => by rw [ru 13 j (by decide)] at hj; rw [ru 14 j (by decide), ru 15 j (by decide)]; exact it.2.2.2.2.2.2.1.2.1 j hj))
      unfold FDx at ft ⊢
      rw [u01, u02, ru 4 1 (by decide), ru 5 7 (by decide)]
      exact ft
end CMP2
end

section
/-! names are looked up -/
def kxI (σ : St) (x : Int32) : Int32 := atv 101 (σ 56) x
def LOi (σ : St) (x : Int32) : Int := if 0 < (kxI σ x).toInt then (atv 101 (σ 34) (kxI σ x - (1 : Int32))).toInt else 0
def HIi (σ : St) (x : Int32) : Int := (atv 101 (σ 34) (kxI σ x)).toInt
def RGi (σ : St) (x d : Int32) : Prop := LOi σ x ≤ d.toInt ∧ d.toInt < HIi σ x
/-- the first that fits -/
def FSTi (σ : St) (n : Int) (C : Int32 → Prop) (v : Int32) : Prop := (v = -1 ∧ ∀ x, 0 ≤ x.toInt → x.toInt < n → ∀ d, RGi σ x d → ¬ C d) ∨ ∃ x, (0 ≤ x.toInt ∧ x.toInt < n) ∧ RGi σ x v ∧ C v ∧ (∀ x', 0 ≤ x'.toInt → x'.toInt < x.toInt → ∀ d, RGi σ x' d → ¬ C d) ∧ ∀ d, RGi σ x d → d.toInt < v.toInt → ¬ C d
/-- a declaration's name is that one -/
def NMq (σ : St) (B : Nat → Int32) (cap : Nat) (d a3 a4 : Int32) : Prop := ((atv 10100 (σ 29) d) - (atv 10100 (σ 29) (d - (1 : Int32)))).toInt = a4.toInt ∧ ∀ x : Nat, (x : Int) < a4.toInt → (atv 10100 (σ 29) (d - (1 : Int32))).toInt + x < 65600 ∧ 0 ≤ a3.toInt ∧ a3.toInt + x < cap ∧ (σ 30 ((atv 10100 (σ 29) (d - (1 : Int32))).toInt + x).toNat).toInt = (B (a3.toInt + x).toNat).toInt
def CDi (σ : St) (B : Nat → Int32) (cap : Nat) (a3 a4 d : Int32) : Prop := FLb (atv 10100 (σ 25) d) 4 ∧ ¬ FLb (atv 10100 (σ 25) d) 2 ∧ NMq σ B cap d a3 a4
/-- its definition in the picked units -/
def DFi (σ : St) (n : Int) (d v : Int32) : Prop := FSTi σ n (CDi σ (σ 30) 65600 (atv 10100 (σ 29) (d - (1 : Int32))) ((atv 10100 (σ 29) d) - (atv 10100 (σ 29) (d - (1 : Int32))))) v
section FND
variable {σ s z t ρ : St} {m i j k o d : Nat} {n : Int} {x y v a a1 a2 a3 a4 a5 : Int32} {C : Int32 → Prop}
theorem fst_one {v' : Int32} (h : FSTi σ n C v) (h' : FSTi σ n C v') : v = v' := by
  rcases h with ⟨q1, q2⟩ | ⟨x, q1, q2, q3, q4, q5⟩
  · rcases h' with ⟨p1, p2⟩ | ⟨x', p1, p2, p3, p4, p5⟩
    · rw [q1, p1]
    · exact absurd p3 (q2 x' p1.1 p1.2 v' p2)
  · rcases h' with ⟨p1, p2⟩ | ⟨x', p1, p2, p3, p4, p5⟩
    · exact absurd q3 (p2 x q1.1 q1.2 v q2)
    · by_cases c1 : x.toInt < x'.toInt
      · exact absurd q3 (p4 x q1.1 c1 v q2)
      by_cases c2 : x'.toInt < x.toInt
      · exact absurd p3 (q4 x' p1.1 c2 v' p2)
      have ex : x = x' := Int32.toInt_inj.mp (by omega)
      subst ex
      by_cases c3 : v.toInt < v'.toInt
      · exact absurd q3 (p5 v q2 c3)
      by_cases c4 : v'.toInt < v.toInt
      · exact absurd p3 (q5 v' p2 c4)
      exact Int32.toInt_inj.mp (by omega)
def NEb (σ : St) : Prop := ∀ d, 0 ≤ ((σ 29) d).toInt ∧ ((σ 29) d).toInt ≤ 65600
theorem neb_at (h : NEb σ) (x : Int32) : 0 ≤ (atv 10100 (σ 29) x).toInt ∧ (atv 10100 (σ 29) x).toInt ≤ 65600 := by
  rcases atv_cases 10100 (σ 29) x with ⟨q1, q2⟩ | ⟨j, q1, q2, q3⟩
  · rw [q1]; decide
  · rw [q3]; exact h j
theorem sp_isNamed30 {Q : Int32 → Prop} (hb : NEb σ) (h3 : a3.toInt ≤ 65600) (h4 : a4.toInt ≤ 65600) (k1 : NMq σ (σ 30) 65600 a1 a3 a4 → Q 1) (k0 : ¬ NMq σ (σ 30) 65600 a1 a3 a4 → Q 0) : wk_X8_isNamed_r30 a1 a3 a4 σ Q := by
  have b := neb_at hb (a1 - (1 : Int32))
  unfold wk_X8_isNamed_r30
  refine ⟨fun e => ?_, fun e => k0 (fun q => e q.1)⟩
  refine ⟨fun m x => m = (a4.toInt - x.toInt).toNat ∧ 0 ≤ x.toInt ∧ ∀ y : Nat, (y : Int) < x.toInt → (atv 10100 (σ 29) (a1 - (1 : Int32))).toInt + y < 65600 ∧ 0 ≤ a3.toInt ∧ a3.toInt + y < (65600 : Nat) ∧ (σ 30 ((atv 10100 (σ 29) (a1 - (1 : Int32))).toInt + y).toNat).toInt = (σ 30 (a3.toInt + y).toNat).toInt, ⟨_, rfl, by decide, fun y hy => absurd hy (by rw [i0]; omega)⟩, ?_⟩
  rintro m x ⟨hm, h0, ha⟩
  refine ⟨fun c => k1 ⟨e, fun y hy => ha y (by omega)⟩, fun c => ?_⟩
  have up := up_lt c
  obtain ⟨X, hX⟩ : ∃ X : Nat, x.toInt = X := ⟨x.toInt.toNat, by omega⟩
  have e1 : ((atv 10100 (σ 29) (a1 - (1 : Int32))) + x).toInt = (atv 10100 (σ 29) (a1 - (1 : Int32))).toInt + X := by rw [ad (by omega) (by omega), hX]
  refine ⟨fun c1 => k0 (fun q => ?_), fun c1 => ⟨fun c2 => k0 (fun q => ?_), fun c2 => ?_⟩⟩
  · have := (q.2 X (by omega)).1
    omega
  · have := (q.2 X (by omega)).2.1
    omega
  have e2 : (a3 + x).toInt = a3.toInt + X := by rw [ad (by omega) (by omega), hX]
  refine ⟨fun c3 => k0 (fun q => ?_), fun c3 => ⟨⟨by omega, c1⟩, ⟨by omega, c3⟩, fun c4 => ?_, fun c4 => k0 (fun q => ?_)⟩⟩
  · have := (q.2 X (by omega)).2.2.1
    omega
  · rw [nt', nt', e1, e2] at c4
    refine ⟨_, by rw [up]; omega, rfl, by rw [up]; omega, fun y hy => ?_⟩
    rw [up] at hy
    by_cases cy : y = X
    · rw [cy]
      exact ⟨by omega, c2, by omega, c4⟩
    · exact ha y (by omega)
  · rw [nt', nt', e1, e2] at c4
    exact c4 (q.2 X (by omega)).2.2.2
theorem sp_isNamed55 {Q : Int32 → Prop} (hb : NEb σ) (h3 : a3.toInt ≤ 65600) (h4 : a4.toInt ≤ 65600) (k1 : NMq σ (σ 55) 4 a1 a3 a4 → Q 1) (k0 : ¬ NMq σ (σ 55) 4 a1 a3 a4 → Q 0) : wk_X8_isNamed_r55 a1 a3 a4 σ Q := by
  have b := neb_at hb (a1 - (1 : Int32))
  unfold wk_X8_isNamed_r55
  refine ⟨fun e => ?_, fun e => k0 (fun q => e q.1)⟩
  refine ⟨fun m x => m = (a4.toInt - x.toInt).toNat ∧ 0 ≤ x.toInt ∧ ∀ y : Nat, (y : Int) < x.toInt → (atv 10100 (σ 29) (a1 - (1 : Int32))).toInt + y < 65600 ∧ 0 ≤ a3.toInt ∧ a3.toInt + y < (4 : Nat) ∧ (σ 30 ((atv 10100 (σ 29) (a1 - (1 : Int32))).toInt + y).toNat).toInt = (σ 55 (a3.toInt + y).toNat).toInt, ⟨_, rfl, by decide, fun y hy => absurd hy (by rw [i0]; omega)⟩, ?_⟩
  rintro m x ⟨hm, h0, ha⟩
  refine ⟨fun c => k1 ⟨e, fun y hy => ha y (by omega)⟩, fun c => ?_⟩
  have up := up_lt c
  obtain ⟨X, hX⟩ : ∃ X : Nat, x.toInt = X := ⟨x.toInt.toNat, by omega⟩
  have e1 : ((atv 10100 (σ 29) (a1 - (1 : Int32))) + x).toInt = (atv 10100 (σ 29) (a1 - (1 : Int32))).toInt + X := by rw [ad (by omega) (by omega), hX]
  refine ⟨fun c1 => k0 (fun q => ?_), fun c1 => ⟨fun c2 => k0 (fun q => ?_), fun c2 => ?_⟩⟩
  · have := (q.2 X (by omega)).1
    omega
  · have := (q.2 X (by omega)).2.1
    omega
  have e2 : (a3 + x).toInt = a3.toInt + X := by rw [ad (by omega) (by omega), hX]
  refine ⟨fun c3 => k0 (fun q => ?_), fun c3 => ⟨⟨by omega, c1⟩, ⟨by omega, c3⟩, fun c4 => ?_, fun c4 => k0 (fun q => ?_)⟩⟩
  · have := (q.2 X (by omega)).2.2.1
    omega
  · rw [nt', nt', e1, e2] at c4
    refine ⟨_, by rw [up]; omega, rfl, by rw [up]; omega, fun y hy => ?_⟩
    rw [up] at hy
    by_cases cy : y = X
    · rw [cy]
      exact ⟨by omega, c2, by omega, c4⟩
    · exact ha y (by omega)
  · rw [nt', nt', e1, e2] at c4
    exact c4 (q.2 X (by omega)).2.2.2
theorem sp_firstI {Q : Int32 → Prop} (k : ∀ v : Int32, v.toInt = LOi σ x → Q v) : wk_X8_firstOf (atv 101 (σ 56) x) σ Q := by
  unfold wk_X8_firstOf
  refine ⟨fun c => k _ ?_, fun c => k _ ?_⟩
  · unfold LOi kxI
    rw [if_pos c]
  · unfold LOi kxI
    rw [if_neg (by omega)]
    rfl
theorem sp_find30 {Q : Int32 → Prop} (hb : NEb σ) (h3 : a4.toInt ≤ 65600) (h4 : a5.toInt ≤ 65600) (k : ∀ v, FSTi σ a2.toInt (CDi σ (σ 30) 65600 a4 a5) v → Q v) : wk_X4_find_r56_r30 a2 a4 a5 σ Q := by
  unfold wk_X4_find_r56_r30
  refine ⟨fun m x => m = (a2.toInt - x.toInt).toNat ∧ 0 ≤ x.toInt ∧ ∀ x', 0 ≤ x'.toInt → x'.toInt < x.toInt → ∀ d, RGi σ x' d → ¬ CDi σ (σ 30) 65600 a4 a5 d, ⟨_, rfl, by decide, fun x' p1 p2 => absurd p2 (by rw [i0]; omega)⟩, ?_⟩
  rintro m x ⟨hm, h0, ha⟩
  refine ⟨fun c => k _ (Or.inl ⟨rfl, fun x' p1 p2 => ha x' p1 (by omega)⟩), fun c => sp_firstI (fun v0 hv0 => ?_)⟩
  have up := up_lt c
  refine ⟨fun q y => q = (HIi σ x - y.toInt).toNat ∧ LOi σ x ≤ y.toInt ∧ ∀ d, RGi σ x d → d.toInt < y.toInt → ¬ CDi σ (σ 30) 65600 a4 a5 d, ⟨_, rfl, by omega, fun d p1 p2 => absurd p1.1 (by omega)⟩, ?_⟩
  rintro q y ⟨hq, hl, hy⟩
  refine ⟨fun c1 => ?_, fun c1 => ?_⟩
  · have c2 : HIi σ x ≤ y.toInt := c1
    refine ⟨_, by rw [up]; omega, rfl, by rw [up]; omega, fun x' p1 p2 d p3 => ?_⟩
    rw [up] at p2
    by_cases ce : x'.toInt = x.toInt
    · have ex : x' = x := Int32.toInt_inj.mp ce
      subst ex
      exact hy d p3 (by have := p3.2; omega)
    · exact ha x' p1 (by omega) d p3
  · have c2 : y.toInt < HIi σ x := c1
    have upy := up_lt c1
    have nx : ¬ CDi σ (σ 30) 65600 a4 a5 y → ∃ p, p < q ∧ (p = (HIi σ x - (y + 1).toInt).toNat ∧ LOi σ x ≤ (y + 1).toInt ∧ ∀ d, RGi σ x d → d.toInt < (y + 1).toInt → ¬ CDi σ (σ 30) 65600 a4 a5 d) := fun nc => by
      refine ⟨_, by rw [upy]; omega, rfl, by rw [upy]; omega, fun d p1 p2 => ?_⟩
      rw [upy] at p2
      by_cases ce : d.toInt = y.toInt
      · have ex : d = y := Int32.toInt_inj.mp ce
        rw [ex]
        exact nc
      · exact hy d p1 (by omega)
    refine is_all (fun v52 n52 y52 _ => ⟨¬ CDi σ (σ 30) 65600 a4 a5 y, nx, fun c3 q1 => n52 c3 q1.1, fun c3 => is_all (fun v65 n65 y65 _ => ⟨fun c4 q1 => q1.2.1 (y65 c4), fun c4 => sp_isNamed30 hb h3 h4 (fun nq => ⟨fun z => absurd z (by decide), fun _ => k y (Or.inr ⟨x, ⟨h0, c⟩, ⟨hl, c2⟩, ⟨y52 c3, n65 c4, nq⟩, ha, hy⟩)⟩) (fun nq => ⟨fun _ q1 => nq q1.2.2, fun z => absurd rfl z⟩)⟩)⟩)
theorem sp_find55 {Q : Int32 → Prop} (hb : NEb σ) (h3 : a4.toInt ≤ 65600) (h4 : a5.toInt ≤ 65600) (k : ∀ v, FSTi σ a2.toInt (CDi σ (σ 55) 4 a4 a5) v → Q v) : wk_X4_find_r56_r55 a2 a4 a5 σ Q := by
  unfold wk_X4_find_r56_r55
  refine ⟨fun m x => m = (a2.toInt - x.toInt).toNat ∧ 0 ≤ x.toInt ∧ ∀ x', 0 ≤ x'.toInt → x'.toInt < x.toInt → ∀ d, RGi σ x' d → ¬ CDi σ (σ 55) 4 a4 a5 d, ⟨_, rfl, by decide, fun x' p1 p2 => absurd p2 (by rw [i0]; omega)⟩, ?_⟩
  rintro m x ⟨hm, h0, ha⟩
  refine ⟨fun c => k _ (Or.inl ⟨rfl, fun x' p1 p2 => ha x' p1 (by omega)⟩), fun c => sp_firstI (fun v0 hv0 => ?_)⟩
  have up := up_lt c
  refine ⟨fun q y => q = (HIi σ x - y.toInt).toNat ∧ LOi σ x ≤ y.toInt ∧ ∀ d, RGi σ x d → d.toInt < y.toInt → ¬ CDi σ (σ 55) 4 a4 a5 d, ⟨_, rfl, by omega, fun d p1 p2 => absurd p1.1 (by omega)⟩, ?_⟩
  rintro q y ⟨hq, hl, hy⟩
  refine ⟨fun c1 => ?_, fun c1 => ?_⟩
  · have c2 : HIi σ x ≤ y.toInt := c1
    refine ⟨_, by rw [up]; omega, rfl, by rw [up]; omega, fun x' p1 p2 d p3 => ?_⟩
    rw [up] at p2
    by_cases ce : x'.toInt = x.toInt
    · have ex : x' = x := Int32.toInt_inj.mp ce
      subst ex
      exact hy d p3 (by have := p3.2; omega)
    · exact ha x' p1 (by omega) d p3
  · have c2 : y.toInt < HIi σ x := c1
    have upy := up_lt c1
    have nx : ¬ CDi σ (σ 55) 4 a4 a5 y → ∃ p, p < q ∧ (p = (HIi σ x - (y + 1).toInt).toNat ∧ LOi σ x ≤ (y + 1).toInt ∧ ∀ d, RGi σ x d → d.toInt < (y + 1).toInt → ¬ CDi σ (σ 55) 4 a4 a5 d) := fun nc => by
      refine ⟨_, by rw [upy]; omega, rfl, by rw [upy]; omega, fun d p1 p2 => ?_⟩
      rw [upy] at p2
      by_cases ce : d.toInt = y.toInt
      · have ex : d = y := Int32.toInt_inj.mp ce
        rw [ex]
        exact nc
      · exact hy d p1 (by omega)
    refine is_all (fun v52 n52 y52 _ => ⟨¬ CDi σ (σ 55) 4 a4 a5 y, nx, fun c3 q1 => n52 c3 q1.1, fun c3 => is_all (fun v65 n65 y65 _ => ⟨fun c4 q1 => q1.2.1 (y65 c4), fun c4 => sp_isNamed55 hb h3 h4 (fun nq => ⟨fun z => absurd z (by decide), fun _ => k y (Or.inr ⟨x, ⟨h0, c⟩, ⟨hl, c2⟩, ⟨y52 c3, n65 c4, nq⟩, ha, hy⟩)⟩) (fun nq => ⟨fun _ q1 => nq q1.2.2, fun z => absurd rfl z⟩)⟩)⟩)
theorem sp_definition {Q : Int32 → Prop} (hb : NEb σ) (k : ∀ v, DFi σ a1.toInt a2 v → Q v) : wk_X4_definition a1 a2 σ Q := by
  unfold wk_X4_definition wk_X8_nameStart
  have b1 := neb_at hb (a2 - (1 : Int32))
  have b2 := neb_at hb a2
  exact sp_find30 hb b1.2 (by rw [sb (by omega) (by omega)]; omega) k
theorem dfi_same (h56 : s 56 = σ 56) (h34 : s 34 = σ 34) (h25 : s 25 = σ 25) (h29 : s 29 = σ 29) (h30 : s 30 = σ 30) : DFi s n x v ↔ DFi σ n x v := by
  unfold DFi FSTi CDi NMq RGi LOi HIi kxI
  rw [h56, h34, h25, h29, h30]
theorem rgi_same (h56 : s 56 = σ 56) (h34 : s 34 = σ 34) : RGi s x y ↔ RGi σ x y := by
  unfold RGi LOi HIi kxI
  rw [h56, h34]
end FND
end

section
/-! link(): what is wrong -/
def AGi (σ : St) (d v : Int32) : Prop := FLb (atv 10100 (σ 25) d) 1 → 0 ≤ v.toInt → FLb (atv 10100 (σ 25) v) 1 ∧ atv 10100 (σ 27) d = atv 10100 (σ 27) v
def GDi (σ : St) (n : Int) (a d : Int32) : Prop := (a.toInt = 32 → ¬ FLb (atv 10100 (σ 25) d) 4 → FLb (atv 10100 (σ 25) d) 8 → ∃ v, DFi σ n d v ∧ 0 ≤ v.toInt) ∧ (a.toInt = 33 → ¬ FLb (atv 10100 (σ 25) d) 4 → ∃ v, DFi σ n d v ∧ AGi σ d v)
/-- a fault's number finds nothing -/
def LKd (σ : St) (a : Int32) : Prop := ∀ x, 1 ≤ x.toInt → x.toInt < (σ 10 5).toInt → ∀ d, RGi σ x d → ¬ FLb (atv 10100 (σ 25) d) 2 → GDi σ (σ 10 5).toInt a d
section LOK
variable {σ s z t ρ : St} {m i j k o d : Nat} {n : Int} {x y v a a1 a2 a3 a4 a5 : Int32} {C : Int32 → Prop}
theorem sp_agrees {Q : Int32 → Prop} (k0 : Q 0) (k1 : AGi σ a1 a2 → Q 1) : wk_X4_agrees a1 a2 σ Q := by
  unfold wk_X4_agrees
  refine is_all (fun v31 n31 y31 _ => ⟨fun y => y.toInt ≠ 0 → v31.toInt = 0, fun y0 _ hy => ⟨fun c => k1 (fun _ q => by omega), fun c => is_all (fun v69 n69 y69 _ => ⟨fun _ => k0, fun e => ⟨fun _ => k0, fun _ => ⟨fun e2 => k1 (fun f _ => ⟨?_, Int32.toInt_inj.mp e2⟩), fun _ => ⟨fun _ => k0, fun c1 => k1 (fun f _ => absurd f (n31 (hy c1)))⟩⟩⟩⟩)⟩, True, fun _ z => absurd rfl z, fun _ => trivial, fun c => ⟨fun _ => trivial, fun _ => ⟨fun _ => trivial, fun _ _ => c⟩⟩⟩)
  by_cases c2 : v69.toInt = 0
  · exact absurd f (n31 (by omega))
  · exact y69 c2
theorem sp_isWrong {Q : Int32 → Prop} (hb : NEb σ) (k0 : GDi σ (σ 10 5).toInt a1 a3 → Q 0) (k1 : Q 1) : wk_X4_isWrong a1 a2 a3 σ Q := by
  unfold wk_X4_isWrong
  refine is_all (fun v6 n6 y6 _ => ⟨fun c => ⟨fun c32 => ⟨fun c33 => k0 ⟨fun e => absurd e c32, fun e => absurd e c33⟩, fun c33 => sp_definition hb (fun v hv => sp_agrees ⟨fun z => absurd rfl z, fun _ => k1⟩ (fun ag => ⟨fun _ => k0 ⟨fun e => absurd e c32, fun _ _ => ⟨v, hv, ag⟩⟩, fun z => absurd z (by decide)⟩))⟩, fun c32 => is_all (fun v46 n46 y46 _ => ⟨fun c46 => k0 ⟨fun _ _ f8 => absurd f8 (n46 c46), fun e => by omega⟩, fun _ => sp_definition hb (fun v hv => ⟨fun cv => k0 ⟨fun _ _ _ => ⟨v, hv, cv⟩, fun e => by omega⟩, fun _ => k1⟩)⟩)⟩, fun c => ⟨fun _ => k0 ⟨fun _ nf => absurd (y6 c) nf, fun _ nf => absurd (y6 c) nf⟩, fun _ => sp_definition hb (fun v _ => ⟨fun _ => k0 ⟨fun _ nf => absurd (y6 c) nf, fun _ nf => absurd (y6 c) nf⟩, fun _ => k1⟩)⟩⟩)
theorem sk_look {Q : Int32 → St → Prop} (hb : NEb σ) (k0 : LKd σ a1 → Q 0 σ) (k1 : ∀ u, Kp [(10, 3), (10, 4)] [] σ u → Q a1 u) : wk_X4_look a1 σ Q := by
  unfold wk_X4_look
  refine ⟨fun m x => m = ((σ 10 5).toInt - x.toInt).toNat ∧ 1 ≤ x.toInt ∧ ∀ x', 1 ≤ x'.toInt → x'.toInt < x.toInt → ∀ d, RGi σ x' d → ¬ FLb (atv 10100 (σ 25) d) 2 → GDi σ (σ 10 5).toInt a1 d, ⟨_, rfl, by decide, fun x' p1 p2 => absurd p2 (by rw [i1]; omega)⟩, ?_⟩
  rintro m x ⟨hm, h0, ha⟩
  refine ⟨fun c => k0 (fun x' p1 p2 => ha x' p1 (by omega)), fun c => sp_firstI (fun v0 hv0 => ?_)⟩
  have up := up_lt c
  refine ⟨fun q _ y => q = (HIi σ x - y.toInt).toNat ∧ LOi σ x ≤ y.toInt ∧ ∀ d, RGi σ x d → d.toInt < y.toInt → ¬ FLb (atv 10100 (σ 25) d) 2 → GDi σ (σ 10 5).toInt a1 d, ⟨_, rfl, by omega, fun d p1 p2 => absurd p1.1 (by omega)⟩, ?_⟩
  rintro q w y ⟨hq, hl, hy⟩
  refine ⟨fun c1 => ?_, fun c1 => ?_⟩
  · have c2 : HIi σ x ≤ y.toInt := c1
    refine ⟨_, by rw [up]; omega, rfl, by rw [up]; omega, fun x' p1 p2 d p3 => ?_⟩
    rw [up] at p2
    by_cases ce : x'.toInt = x.toInt
    · have ex : x' = x := Int32.toInt_inj.mp ce
      subst ex
      exact hy d p3 (by have := p3.2; omega)
    · exact ha x' p1 (by omega) d p3
  · have c2 : y.toInt < HIi σ x := c1
    have upy := up_lt c1
    have nx : (¬ FLb (atv 10100 (σ 25) y) 2 → GDi σ (σ 10 5).toInt a1 y) → ∃ p, p < q ∧ (p = (HIi σ x - (y + 1).toInt).toNat ∧ LOi σ x ≤ (y + 1).toInt ∧ ∀ d, RGi σ x d → d.toInt < (y + 1).toInt → ¬ FLb (atv 10100 (σ 25) d) 2 → GDi σ (σ 10 5).toInt a1 d) := fun nc => by
      refine ⟨_, by rw [upy]; omega, rfl, by rw [upy]; omega, fun d p1 p2 => ?_⟩
      rw [upy] at p2
      by_cases ce : d.toInt = y.toInt
      · have ex : d = y := Int32.toInt_inj.mp ce
        rw [ex]
        exact nc
      · exact hy d p1 (by omega)
    refine is_all (fun v55 n55 y55 _ => ⟨fun y0 => y0.toInt = 0 → FLb (atv 10100 (σ 25) y) 2, fun y0 _ hy0 => ⟨¬ FLb (atv 10100 (σ 25) y) 2 → GDi σ (σ 10 5).toInt a1 y, fun hj => ⟨fun _ => True, fun y1 _ _ => nx hj, fun _ => trivial, fun _ => trivial⟩, fun c3 nf => absurd (hy0 c3) nf, fun _ => sp_isWrong hb (fun g => ⟨fun _ _ => g, fun z => absurd rfl z⟩) ⟨fun z => absurd z (by decide), fun _ => k1 _ (kp_f (kp_f kp_rf rfl) rfl)⟩⟩, fun c3 _ => y55 c3, fun _ z => absurd z (by decide)⟩)
end LOK
end

section
/-! link(): addresses -/
abbrev KxS (a b : St) : Prop := Kp [(10, 7)] [57, 58, 59] a b
/-- defined ones have what they had; -/
def ADd (σ s : St) (b : Nat → Int32) : Prop := ∀ d, FLb (atv 10100 (σ 25) d) 4 → atv 10100 (s 59) d = atv 10100 b d
/-- one that is not has its definition's -/
def ADn (σ s : St) (b : Nat → Int32) (d : Int32) : Prop := ∀ v, DFi σ (σ 10 5).toInt d v → atv 10100 (s 59) d = atv 10100 b v
section STL
variable {σ s z t ρ : St} {m i j k o d : Nat} {n : Int} {x y v a a1 a2 a3 a4 a5 : Int32} {C : Int32 → Prop} {b : Nat → Int32}
theorem atv_set {n : Nat} {f : Nat → Int32} (h : 0 ≤ x.toInt ∧ x.toInt < n) : atv n (setv n f x v) x = v := by
  unfold atv setv
  rw [if_pos h, if_pos h]
  exact if_pos rfl
theorem atv_nst {n : Nat} {f : Nat → Int32} (h : y.toInt ≠ x.toInt) : atv n (setv n f x v) y = atv n f y := by
  unfold atv setv
  by_cases c : 0 ≤ y.toInt ∧ y.toInt < n
  · rw [if_pos c, if_pos c]
    by_cases c2 : 0 ≤ x.toInt ∧ x.toInt < n
    · rw [if_pos c2]
      exact if_neg (by rw [nt', nt']; omega)
    · rw [if_neg c2]
  · rw [if_neg c, if_neg c]
theorem sp_firstS {Q : Int32 → Prop} (e34 : s 34 = σ 34) (k : ∀ v : Int32, v.toInt = LOi σ x → Q v) : wk_X8_firstOf (kxI σ x) s Q := by
  unfold wk_X8_firstOf
  rw [e34]
  refine ⟨fun c => k _ ?_, fun c => k _ ?_⟩
  · unfold LOi
    rw [if_pos c]
  · unfold LOi
    rw [if_neg (by omega)]
    rfl
theorem kx_rows (k : KxS σ s) : s 56 = σ 56 ∧ s 34 = σ 34 ∧ s 25 = σ 25 ∧ s 29 = σ 29 ∧ s 30 = σ 30 ∧ s 28 = σ 28 ∧ s 37 = σ 37 := ⟨funext (fun j => k 56 j rfl rfl), funext (fun j => k 34 j rfl rfl), funext (fun j => k 25 j rfl rfl), funext (fun j => k 29 j rfl rfl), funext (fun j => k 30 j rfl rfl), funext (fun j => k 28 j rfl rfl), funext (fun j => k 37 j rfl rfl)⟩
theorem sp_refer {Q : St → Prop} (hb : NEb σ) (rg : 0 ≤ LOi σ x ∧ HIi σ x ≤ 10100) (ks : KxS σ s) (e7 : s 10 7 = σ 10 5) (h1 : ADd σ s b) (k : ∀ t, Kp [] [59] s t → ADd σ t b → (∀ d, RGi σ x d → ¬ FLb (atv 10100 (σ 25) d) 4 → ADn σ t b d) → (∀ d, ¬ FLb (atv 10100 (σ 25) d) 4 → ADn σ s b d → ADn σ t b d) → Q t) : wk_X4_refer (kxI σ x) s Q := by
  obtain ⟨r56, r34, r25, r29, r30, -, -⟩ := kx_rows ks
  unfold wk_X4_refer
  refine sp_firstS r34 (fun v0 hv0 => ?_)
  let P : Int32 → St → Prop := fun y u => Kp [] [59] s u ∧ ADd σ u b ∧ LOi σ x ≤ y.toInt ∧ (∀ d, RGi σ x d → d.toInt < y.toInt → ¬ FLb (atv 10100 (σ 25) d) 4 → ADn σ u b d) ∧ (∀ d, ¬ FLb (atv 10100 (σ 25) d) 4 → ADn σ s b d → ADn σ u b d)
  refine ⟨fun q y u => q = (HIi σ x - y.toInt).toNat ∧ P y u, ⟨_, rfl, kp_rf, h1, by omega, fun d p1 p2 => absurd p1.1 (by omega), fun d _ q => q⟩, ?_⟩
  rintro q y u ⟨hq, ku, hd, hl, hy, ho⟩
  have kx : KxS σ u := kp_tr ks (kp_sub ku rfl rfl)
  obtain ⟨w56, w34, w25, w29, w30, -, -⟩ := kx_rows kx
  rw [w34]
  refine ⟨fun c1 => ?_, fun c1 => ?_⟩
  · have c2 : HIi σ x ≤ y.toInt := c1
    exact k u ku hd (fun d p1 p2 => hy d p1 (by have := p1.2; omega) p2) ho
  · have c2 : y.toInt < HIi σ x := c1
    have upy := up_lt c1
    refine is_all (fun v30 n30 y30 _ => ?_)
    rw [w25] at n30 y30
    refine ⟨fun u' => P (y + 1) u', fun u' h' => ⟨_, by rw [upy]; omega, rfl, h'⟩, fun c3 => ⟨ku, hd, by rw [upy]; omega, fun d p1 p2 p3 => ?_, ho⟩, fun c3 => sp_definition (by unfold NEb; rw [w29]; exact hb) (fun v hv => ?_)⟩
    · rw [upy] at p2
      by_cases ce : d.toInt = y.toInt
      · have ex : d = y := Int32.toInt_inj.mp ce
        rw [ex] at p3
        exact absurd (y30 c3) p3
      · exact hy d p1 (by omega) p3
    · rw [show (u 10 7).toInt = (σ 10 5).toInt from by rw [ku 10 7 rfl rfl, e7], dfi_same w56 w34 w25 w29 w30] at hv
      have val : atv 10100 (u 59) v = atv 10100 b v := by
        rcases hv with ⟨q1, q2⟩ | ⟨x', q1, q2, q3, q4, q5⟩
        · rw [q1]; rfl
        · exact hd v q3.1
      have nf := n30 c3
      have same : ∀ d, d.toInt ≠ y.toInt → atv 10100 ((upF u 59 (setv 10100 (u 59) y (atv 10100 (u 59) v))) 59) d = atv 10100 (u 59) d := fun d hd' => by rw [rdF_eq]; exact atv_nst hd'
      have new : ∀ w, DFi σ (σ 10 5).toInt y w → atv 10100 ((upF u 59 (setv 10100 (u 59) y (atv 10100 (u 59) v))) 59) y = atv 10100 b w := fun w hw => by
        rw [rdF_eq, atv_set ⟨by omega, by omega⟩, val, fst_one hv hw]
      refine ⟨kp_F ku rfl, fun d hf => ?_, by rw [upy]; omega, fun d p1 p2 p3 => ?_, fun d p3 p4 => ?_⟩
      · by_cases ce : d.toInt = y.toInt
        · have ex : d = y := Int32.toInt_inj.mp ce
          rw [ex] at hf
          exact absurd hf nf
        · rw [same d ce]
          exact hd d hf
      · rw [upy] at p2
        by_cases ce : d.toInt = y.toInt
        · have ex : d = y := Int32.toInt_inj.mp ce
          rw [ex]
          exact new
        · intro w hw
          rw [same d ce]
          exact hy d p1 (by omega) p3 w hw
      · by_cases ce : d.toInt = y.toInt
        · have ex : d = y := Int32.toInt_inj.mp ce
          rw [ex]
          exact new
        · intro w hw
          rw [same d ce]
          exact ho d p3 p4 w hw
end STL
end

