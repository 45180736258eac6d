section
/-! tokens: the reference's side -/
def rkT (w : Nat) : Nat := ([20, 21, 22, 23, 24, 25, 26, 27, 28, 29, 30, 0, 1, 2, 3, 4, 5, 6, 7, 8, 9, 16, 17, 36, 37, 38, 39, 40, 33, 31, 32, 12, 13, 34, 35, 14, 15, 10, 11, 41, 42, 18, 19] : List Nat).getD w 0
def iRf (r : Nat) : Nat := ([11, 12, 13, 14, 15, 16, 17, 18, 19, 20, 37, 38, 31, 32, 35, 36, 21, 22, 41, 42, 0, 1, 2, 3, 4, 5, 6, 7, 8, 9, 10, 29, 30, 28, 33, 34, 23, 24, 25, 26, 27, 39, 40] : List Nat).getD r 43
def bRf (r : Nat) : Nat := ([1, 5, 9, 12, 15, 18, 21, 24, 27, 30, 33, 36, 39, 42, 45, 48, 51, 54, 57, 60, 63, 65, 67, 69, 71, 73, 75, 77, 79, 81, 83, 85, 87, 89, 91, 93, 95, 97, 99, 101, 103, 105, 107] : List Nat).getD r 109
/-- the reference's kind of a token -/
def rkI (k : Int) : Int := if k < 20 then k else 32 + (rkT (k - 20).toNat : Nat)
theorem rf_tab : ∀ r, r < 43 → iRf r < 43 ∧ rkT (iRf r) = r ∧ bRf r + lSg (iRf r) ≤ 108 ∧ bRf (r + 1) = bRf r + lSg (iRf r) + 1 ∧ (chI (SF 1 (bRf r + lSg (iRf r)))).toInt = 32 ∧ 1 ≤ lSg (iRf r) ∧ lSg (iRf r) ≤ 3 := by decide +kernel
theorem rf_chr : ∀ r, r < 43 → ∀ i, i < 3 → i < lSg (iRf r) → (chI (SF 1 (bRf r + i))).toInt = (chI (gC 3 (bSg (iRf r) + i))).toInt ∧ (chI (SF 1 (bRf r + i))).toInt ≠ 32 ∧ 33 ≤ (chI (SF 1 (bRf r + i))).toInt ∧ (chI (SF 1 (bRf r + i))).toInt ≤ 126 := by decide +kernel
theorem fr_tab : ∀ w, w < 43 → rkT w < 43 ∧ iRf (rkT w) = w := by decide
theorem rw_chr : ∀ w, w < 12 → ∀ i, i < 8 → i < lWd w → (chI (SF 0 (1 + bWd w + i))).toInt = (chI (gC 2 (bWd w + i))).toInt ∧ (chI (SF 0 (1 + bWd w + i))).toInt ≠ 32 ∧ 33 ≤ (chI (SF 0 (1 + bWd w + i))).toInt ∧ (chI (SF 0 (1 + bWd w + i))).toInt ≤ 126 := by decide +kernel
theorem rw_tab : ∀ w, w < 12 → (chI (SF 0 (1 + bWd w + lWd w))).toInt = 32 ∧ 1 + bWd w + lWd w ≤ 66 := by decide +kernel
theorem and255 : ∀ n : Nat, n < 256 → ((Int32.ofInt ((n : Int) - 128)) &&& (255 : Int32)).toInt = if n < 128 then (n : Int) + 128 else (n : Int) - 128 := by decide +kernel
theorem bq {x : Int32} {c : Int} (hx : -128 ≤ x.toInt ∧ x.toInt ≤ 127) (hc : 0 ≤ c ∧ c ≤ 127) : (x &&& (255 : Int32)).toInt = c ↔ x.toInt = c := by
  have h := and255 (x.toInt + 128).toNat (by omega)
  rw [show (((x.toInt + 128).toNat : Nat) : Int) - 128 = x.toInt from by omega, Int32.ofInt_toInt] at h
  by_cases q : (x.toInt + 128).toNat < 128
  · rw [if_pos q] at h
    omega
  · rw [if_neg q] at h
    omega
theorem nI_self (x : Int32) : nI x.toBitVec.toNat = x := by
  refine Int32.toBitVec_inj.mp ?_
  show BitVec.ofNat 32 x.toBitVec.toNat = x.toBitVec
  rw [BitVec.ofNat_toNat, BitVec.setWidth_eq]
theorem or_nI (a b : Nat) : nI a ||| nI b = nI (a ||| b) := by
  refine Int32.toBitVec_inj.mp (BitVec.eq_of_toNat_eq ?_)
  rw [Int32.toBitVec_or, BitVec.toNat_or]
  show (BitVec.ofNat 32 a).toNat ||| (BitVec.ofNat 32 b).toNat = (BitVec.ofNat 32 (a ||| b)).toNat
  rw [BitVec.toNat_ofNat, BitVec.toNat_ofNat, BitVec.toNat_ofNat, Nat.or_mod_two_pow]
theorem hex_or (x : Int32) {m : Nat} (h : m < 16) : (x <<< ((4 : Int32) &&& 31)) ||| nI m = x * 16 + nI m := by
  have e1 : x <<< ((4 : Int32) &&& 31) = nI (2 ^ 4 * x.toBitVec.toNat) := by
    refine Int32.toBitVec_inj.mp (BitVec.eq_of_toNat_eq ?_)
    rw [pk_shl x _ 4 (by decide)]
    show _ = (BitVec.ofNat 32 (2 ^ 4 * x.toBitVec.toNat)).toNat
    rw [BitVec.toNat_ofNat, Nat.mul_comm]
  rw [e1, or_nI, ← Nat.two_pow_add_eq_or_of_lt (by omega)]
  have e2 : x * 16 + nI m = nI x.toBitVec.toNat * nI 16 + nI m := by rw [nI_self]; rfl
  rw [e2]
  show Int32.ofNat (2 ^ 4 * x.toBitVec.toNat + m) = Int32.ofNat x.toBitVec.toNat * Int32.ofNat 16 + Int32.ofNat m
  rw [← Int32.ofNat_mul, ← Int32.ofNat_add, Nat.mul_comm]
theorem hx_nI {v : Int32} {i : Int} (h : v.toInt = hxq i) (h0 : 0 ≤ v.toInt) : v = nI (hxq i).toNat ∧ (hxq i).toNat < 16 ∧ Int32.ofInt (hxq i) = v := by
  have := hx_r (c := i)
  refine ⟨?_, by omega, by rw [← h, Int32.ofInt_toInt]⟩
  refine ieq ?_
  have e : (nI (hxq i).toNat).toInt = ((hxq i).toNat : Int) := nI_toInt (by omega)
  rw [e]
  omega
abbrev KRq (a b : St) : Prop := Kp [(0, 8)] [2, 3, 4, 5, 6] a b
def RMq (s : St) (L : List (Int32 × Int32 × Int)) : Prop := (s 0 8).toInt = (L.length : Int) ∧ ∀ j k v q, L[j]? = some (k, v, q) → (s 2 j).toInt = rkI k.toInt ∧ (s 3 j).toInt = q ∧ (k.toInt = 2 → (s 4 j).toInt = q + v.toInt) ∧ (k.toInt = 3 ∨ k.toInt = 4 → s 6 j = v)
def FMq (s : St) (L : List (Int32 × Int32 × Int)) (c : Int32) : Prop := (s 0 8).toInt = (L.length : Int) + 1 ∧ (∀ j k v q, L[j]? = some (k, v, q) → (s 2 j).toInt = rkI k.toInt ∧ (s 3 j).toInt = q ∧ (k.toInt = 2 → (s 4 j).toInt = q + v.toInt) ∧ (k.toInt = 3 ∨ k.toInt = 4 → s 6 j = v)) ∧ s 2 L.length = c
section TM
variable {f : Nat → Int32} {N p e : Int} {σ τ s : St} {vs : List Nat} {L : List (Int32 × Int32 × Int)} {a1 a2 a3 a4 a5 x y a n k v : Int32}
theorem pm_look {Q : Int32 → Prop} {i : Int} (hf : σ 1 = f) (hN : (σ 0 9).toInt = N) (hx : x.toInt = i) (k : ∀ v : Int32, v.toInt = byt f N i → Q v) : pp_look x σ τ vs Q := by
  subst hx
  unfold pp_look
  refine ⟨fun c => k _ ?_, fun c d => k _ ?_⟩
  · rw [byt, if_neg (by omega)]
    decide
  · rw [byt, if_pos (by omega), ← hf]
    rfl
theorem pm_isDigit {Q : Int32 → Prop} (k1 : DGq x.toInt → Q 1) (k0 : ¬ DGq x.toInt → Q 0) : pp_isDigit x σ τ vs Q := by
  unfold pp_isDigit
  exact ⟨fun c => k0 (by omega), fun c => ⟨fun c1 => k0 (by omega), fun c1 => k1 (by omega)⟩⟩
theorem pm_isAllowed {Q : Int32 → Prop} (k1 : AOq x.toInt → Q 1) (k0 : ¬ AOq x.toInt → Q 0) : pp_isAllowed x σ τ vs Q := by
  unfold pp_isAllowed
  exact ⟨fun c => k1 (by omega), fun c => ⟨fun c => k1 (by omega), fun c => ⟨fun c => k1 (by omega), fun c => ⟨fun c => k0 (by omega), fun c => ⟨fun c => k0 (by omega), fun c => k1 (by omega)⟩⟩⟩⟩⟩
theorem pm_isBlank {Q : Int32 → Prop} (k1 : BKq x.toInt → Q 1) (k0 : ¬ BKq x.toInt → Q 0) : pp_isBlank x σ τ vs Q := by
  unfold pp_isBlank
  exact ⟨fun c => k1 (by omega), fun c => ⟨fun c => k1 (by omega), fun c => ⟨fun c => k1 (by omega), fun c => ⟨fun c => k0 (by omega), fun c => k1 (by omega)⟩⟩⟩⟩
theorem pm_isLetter {Q : Int32 → Prop} (k1 : LTq x.toInt → Q 1) (k0 : ¬ LTq x.toInt → Q 0) : pp_isLetter x σ τ vs Q := by
  unfold pp_isLetter
  exact ⟨¬ (97 ≤ x.toInt ∧ x.toInt ≤ 122), fun j => ⟨¬ (65 ≤ x.toInt ∧ x.toInt ≤ 90), fun j2 => ⟨fun c => k0 (by omega), fun c => k1 (by omega)⟩, fun c => by omega, fun c => ⟨fun c1 => k1 (by omega), fun c1 => by omega⟩⟩, fun c => by omega, fun c => ⟨fun c1 => k1 (by omega), fun c1 => by omega⟩⟩
theorem pm_sixteen {Q : Int32 → Prop} (k : ∀ w : Int32, w.toInt = hxq x.toInt → Q w) : pp_sixteen x σ τ vs Q := by
  have e48 : ((48 : Int32)).toInt = 48 := by decide
  have e97 : ((97 : Int32)).toInt = 97 := by decide
  have e65 : ((65 : Int32)).toInt = 65 := by decide
  have e10 : ((10 : Int32)).toInt = 10 := by decide
  have m1 : ((-1 : Int32)).toInt = -1 := by decide
  unfold pp_sixteen
  refine pm_isDigit (fun c => ⟨fun h => absurd h (by decide), fun _ => k _ ?_⟩) (fun c => ⟨fun _ => ⟨¬ (97 ≤ x.toInt ∧ x.toInt ≤ 102), fun j => ⟨fun c1 => k _ ?_, fun c1 => ⟨fun c2 => k _ ?_, fun c2 => k _ ?_⟩⟩, fun c1 => by omega, fun c1 => ⟨fun c2 => by omega, fun c2 => k _ ?_⟩⟩, fun h => absurd rfl h⟩)
  · rw [sbc e48 (by omega) (by omega), hxq, if_pos c]
  · rw [hxq, if_neg c, if_neg j, if_neg (by omega)]
    exact m1
  · rw [hxq, if_neg c, if_neg j, if_neg (by omega)]
    exact m1
  · have e : (x - (65 : Int32)).toInt = x.toInt - 65 := sbc e65 (by omega) (by omega)
    rw [hxq, if_neg c, if_neg j, if_pos (by omega), adc e10 (by omega) (by omega), e]
    omega
  · have e : (x - (97 : Int32)).toInt = x.toInt - 97 := sbc e97 (by omega) (by omega)
    rw [hxq, if_neg c, if_pos (by omega), adc e10 (by omega) (by omega), e]
    omega
theorem pm_tok0 {Q : St → St → List Nat → Prop} (hL : RMq σ L) (hl : L.length ≤ 16001) (h1 : a1.toInt = rkI k.toInt) (h2 : a2.toInt = p) (h3 : k.toInt = 2 → a3.toInt = p + v.toInt) (h4 : k.toInt = 3 ∨ k.toInt = 4 → a5 = v) (kk : ∀ s, KRq σ s → RMq s (L ++ [(k, v, p)]) → (s 2 L.length).toInt = a1.toInt → (s 0 8).toInt = (L.length : Int) + 1 → Q s τ vs) : pp_token a1 a2 a3 a4 a5 σ τ vs Q := by
  have g1 := hL.1
  have en : (σ 0 8).toNatClampNeg = L.length := by rw [nt', g1]; rfl
  unfold pp_token
  intro _ _ _ _ _
  rw [en]
  have e8 : ((σ 0 8) + (1 : Int32)).toInt = (L.length : Int) + 1 := by rw [ad0 i1 (by omega) (by omega), g1]
  refine kk _ (kp_f (kp_a (kp_a (kp_a (kp_a (kp_a kp_rf rfl) rfl) rfl) rfl) rfl) rfl) ⟨?_, fun j k1 v1 q e => ?_⟩ ?_ ?_
  · rw [rdA_eq rfl, e8, List.length_append]
    rfl
  · rcases app_at e with ⟨c, e⟩ | ⟨c, e⟩
    · have r := hL.2 j k1 v1 q e
      have e2 : upC (upC (upC (upC (upC (upC σ 2 L.length a1) 3 L.length a2) 4 L.length a3) 5 L.length a4) 6 L.length a5) 0 8 ((σ 0 8) + (1 : Int32)) 2 j = σ 2 j := by rw [rdC_ne (by decide), rdC_ne (by decide), rdC_ne (by decide), rdC_ne (by decide), rdC_ne (by decide), rdA_ne (by omega)]
      have e3 : upC (upC (upC (upC (upC (upC σ 2 L.length a1) 3 L.length a2) 4 L.length a3) 5 L.length a4) 6 L.length a5) 0 8 ((σ 0 8) + (1 : Int32)) 3 j = σ 3 j := by rw [rdC_ne (by decide), rdC_ne (by decide), rdC_ne (by decide), rdC_ne (by decide), rdA_ne (by omega), rdC_ne (by decide)]
      have e4 : upC (upC (upC (upC (upC (upC σ 2 L.length a1) 3 L.length a2) 4 L.length a3) 5 L.length a4) 6 L.length a5) 0 8 ((σ 0 8) + (1 : Int32)) 4 j = σ 4 j := by rw [rdC_ne (by decide), rdC_ne (by decide), rdC_ne (by decide), rdA_ne (by omega), rdC_ne (by decide), rdC_ne (by decide)]
      have e6 : upC (upC (upC (upC (upC (upC σ 2 L.length a1) 3 L.length a2) 4 L.length a3) 5 L.length a4) 6 L.length a5) 0 8 ((σ 0 8) + (1 : Int32)) 6 j = σ 6 j := by rw [rdC_ne (by decide), rdA_ne (by omega), rdC_ne (by decide), rdC_ne (by decide), rdC_ne (by decide), rdC_ne (by decide)]
      rw [e2, e3, e4, e6]
      exact r
    · obtain ⟨rfl, rfl, rfl⟩ : k1 = k ∧ v1 = v ∧ q = p := ⟨congrArg (fun z : Int32 × Int32 × Int => z.1) e, congrArg (fun z : Int32 × Int32 × Int => z.2.1) e, congrArg (fun z : Int32 × Int32 × Int => z.2.2) e⟩
      rw [c]
      have e2 : upC (upC (upC (upC (upC (upC σ 2 L.length a1) 3 L.length a2) 4 L.length a3) 5 L.length a4) 6 L.length a5) 0 8 ((σ 0 8) + (1 : Int32)) 2 L.length = a1 := by rw [rdC_ne (by decide), rdC_ne (by decide), rdC_ne (by decide), rdC_ne (by decide), rdC_ne (by decide), rdA_eq rfl]
      have e3 : upC (upC (upC (upC (upC (upC σ 2 L.length a1) 3 L.length a2) 4 L.length a3) 5 L.length a4) 6 L.length a5) 0 8 ((σ 0 8) + (1 : Int32)) 3 L.length = a2 := by rw [rdC_ne (by decide), rdC_ne (by decide), rdC_ne (by decide), rdC_ne (by decide), rdA_eq rfl]
      have e4 : upC (upC (upC (upC (upC (upC σ 2 L.length a1) 3 L.length a2) 4 L.length a3) 5 L.length a4) 6 L.length a5) 0 8 ((σ 0 8) + (1 : Int32)) 4 L.length = a3 := by rw [rdC_ne (by decide), rdC_ne (by decide), rdC_ne (by decide), rdA_eq rfl]
      have e6 : upC (upC (upC (upC (upC (upC σ 2 L.length a1) 3 L.length a2) 4 L.length a3) 5 L.length a4) 6 L.length a5) 0 8 ((σ 0 8) + (1 : Int32)) 6 L.length = a5 := by rw [rdC_ne (by decide), rdA_eq rfl]
      rw [e2, e3, e4, e6]
      exact ⟨h1, h2, h3, h4⟩
  · rw [rdC_ne (by decide), rdC_ne (by decide), rdC_ne (by decide), rdC_ne (by decide), rdC_ne (by decide), rdA_eq rfl]
  · rw [rdA_eq rfl, e8]
theorem fm_rm {c v : Int32} {q : Int} (h : RMq s (L ++ [(c, v, q)])) (hc : c.toInt < 2) : FMq s L c := by
  refine ⟨by rw [h.1, List.length_append]; rfl, fun j k v' q' e => h.2 j k v' q' (by rw [List.getElem?_append_left (ltn e)]; exact e), ieq ?_⟩
  have := (h.2 L.length c v q (by rw [List.getElem?_append_right (Nat.le_refl _), Nat.sub_self]; rfl)).1
  rw [this, rkI, if_pos (by omega)]
theorem pm_bad {Q : Int32 → St → St → List Nat → Prop} (hL : RMq σ L) (hl : L.length ≤ 16001) (kk : ∀ s, KRq σ s → FMq s L 1 → Q a s τ vs) : pp_bad a σ τ vs Q := by
  unfold pp_bad
  exact pm_tok0 (k := 1) (v := 0) (p := a.toInt) hL hl (by decide) rfl (fun h => absurd h (by decide)) (fun h => absurd h (by decide)) (fun s ks hs _ _ => kk s ks (fm_rm hs (by decide)))
theorem pm_code {Q : Int32 → Prop} {q : Int32} {i : Int} (hf : σ 1 = f) (hN : (σ 0 9).toInt = N) (h16 : N ≤ 16000) (hx : x.toInt = i) (hi : i ≤ 100000) (k : ∀ v : Int32, v.toInt = cdq (byt f N) q.toInt i → Q v) : pp_code x q σ τ vs Q := by
  have m1 : ((-1 : Int32)).toInt = -1 := by decide
  unfold pp_code
  refine pm_look hf hN hx (fun v hv => ⟨fun c => ⟨fun c1 => k _ ?_, fun c1 => ⟨fun c2 => k _ ?_, fun c2 => ⟨fun c3 => k _ ?_, fun c3 => k _ ?_⟩⟩⟩, fun c => ?_⟩)
  · rw [cdq, if_neg (by omega), if_neg (by omega)]
    exact m1
  · rw [cdq, if_neg (by omega), if_neg (by omega)]
    exact m1
  · rw [cdq, if_neg (by omega), if_neg (by omega)]
    exact m1
  · rw [cdq, if_neg (by omega), if_pos (by omega)]
    exact hv
  · have hin := byt_in (f := f) (N := N) (i := i) (by omega)
    have e92 : byt f N i = 92 := by omega
    refine pm_look hf hN (i := i + 1) (by rw [ad0 i1 (by omega) (by omega), hx]) (fun w hw => ⟨fun d => ⟨fun d1 => ⟨fun d2 => k _ ?_, fun d2 => ⟨fun d3 => k _ ?_, fun d3 => ⟨fun d4 => k _ ?_, fun d4 => k _ ?_⟩⟩⟩, fun d1 => k _ ?_⟩, fun d => k _ ?_⟩)
    · rw [cdq, if_pos e92, if_pos (by omega)]
      exact hw
    · rw [cdq, if_pos e92, if_pos (by omega)]
      exact hw
    · rw [cdq, if_pos e92, if_neg (by omega), if_neg (by omega), if_neg (by omega)]
      exact m1
    · rw [cdq, if_pos e92, if_pos (by omega)]
      exact hw
    · rw [cdq, if_pos e92, if_neg (by omega), if_pos (by omega)]
      rfl
    · rw [cdq, if_pos e92, if_neg (by omega), if_neg (by omega), if_pos (by omega)]
      rfl
theorem pm_lineEnd {Q : Int32 → St → St → List Nat → Prop} (hf : σ 1 = f) (hN : (σ 0 9).toInt = N) (h16 : N ≤ 16000) (hp : a.toInt = p) (hp0 : 0 ≤ p ∧ p ≤ N) (hL : RMq σ L) (hl : L.length ≤ 16001) (c1 : byt f N p = 47) (c2 : byt f N (p + 1) = 47)
    (k1 : ∀ x : Int32, x.toInt ≤ N → BLq (byt f N) p x.toInt → Q x σ τ vs) (k0 : ∀ x s, KRq σ s → BBq (byt f N) p → FMq s L 1 → Q x s τ vs) : pp_lineEnd a σ τ vs Q := by
  unfold pp_lineEnd
  have bl : ∀ e, p ≤ e → (∀ i, p ≤ i → i < e → INl (byt f N i)) → (byt f N e = 10 ∨ byt f N e < 0) → BLq (byt f N) p e := fun e h0 h1 h2 => by
    rw [BLq, if_pos c1, if_pos c2]
    exact ⟨⟨h0, h1, by omega⟩, h2⟩
  refine ⟨fun x => p ≤ x.toInt ∧ x.toInt ≤ N ∧ ∀ j, p ≤ j → j < x.toInt → INl (byt f N j), ⟨by omega, by omega, fun j h1 h2 => by omega⟩, ?_⟩
  rintro x ⟨g1, g2, g3⟩
  refine ⟨fun c => k1 x g2 (bl _ g1 g3 (Or.inr ?_)), fun c => pm_look hf hN rfl (fun v hv => ⟨fun d => k1 x g2 (bl _ g1 g3 (Or.inl (by omega))), fun d => pm_look hf hN rfl (fun w hw => pm_isAllowed (fun m => ⟨fun _ => ⟨?_, ?_, fun j h1 h2 => ?_⟩, fun z => absurd z (by decide)⟩) (fun m => ⟨fun z => absurd rfl z, fun _ => pm_bad hL hl (fun s ks hs => k0 x s ks ⟨c1, ?_⟩ hs)⟩))⟩)⟩
  · rw [byt, if_neg (by omega)]
    omega
  · rw [ad1 (by omega)]
    omega
  · rw [ad1 (by omega)]
    omega
  · rw [ad1 (by omega)] at h2
    by_cases q : j = x.toInt
    · rw [q]
      exact ⟨by omega, by omega⟩
    · exact g3 j h1 (by omega)
  · rw [if_pos c2]
    have := byt_pos (f := f) (N := N) (i := x.toInt) ⟨by omega, by omega⟩
    exact ⟨x.toInt, ⟨g1, g3, by omega⟩, by omega, this⟩
theorem pm_remarkEnd {Q : Int32 → St → St → List Nat → Prop} (hf : σ 1 = f) (hN : (σ 0 9).toInt = N) (h16 : N ≤ 16000) (hp : a.toInt = p) (hp0 : 0 ≤ p ∧ p ≤ N) (hL : RMq σ L) (hl : L.length ≤ 16001) (c1 : byt f N p = 47) (c2 : byt f N (p + 1) = 42)
    (k1 : ∀ x : Int32, x.toInt ≤ N → BLq (byt f N) p x.toInt → Q x σ τ vs) (k0 : ∀ x s, KRq σ s → BBq (byt f N) p → FMq s L 1 → Q x s τ vs) : pp_remarkEnd a a2 σ τ vs Q := by
  unfold pp_remarkEnd
  have n2 := byt_in (f := f) (N := N) (i := p + 1) (by omega)
  refine ⟨fun x => p + 2 ≤ x.toInt ∧ x.toInt ≤ N ∧ ∀ j, p + 2 ≤ j → j < x.toInt → AOq (byt f N j) ∧ ¬ (byt f N j = 42 ∧ byt f N (j + 1) = 47), ⟨by rw [ad0 i2 (by omega) (by omega)]; omega, by rw [ad0 i2 (by omega) (by omega)]; omega, fun j h1 h2 => by rw [ad0 i2 (by omega) (by omega)] at h2; omega⟩, ?_⟩
  rintro x ⟨g1, g2, g3⟩
  have bad : ¬ AOq (byt f N x.toInt) → BBq (byt f N) p := fun m => ⟨c1, by rw [if_neg (by omega)]; exact ⟨c2, x.toInt, ⟨g1, g3, fun h => absurd h m⟩, m⟩⟩
  have nb : N ≤ x.toInt → byt f N x.toInt < 0 := fun h => by
    rw [byt, if_neg (by omega)]
    omega
  have nx : x.toInt < N → ¬ (byt f N x.toInt = 42 ∧ byt f N (x.toInt + 1) = 47) → pp_look x σ τ vs (fun v36 => pp_isAllowed v36 σ τ vs (fun v39 => (v39.toInt ≠ 0 → (p + 2 ≤ (x + 1).toInt ∧ (x + 1).toInt ≤ N ∧ ∀ j, p + 2 ≤ j → j < (x + 1).toInt → AOq (byt f N j) ∧ ¬ (byt f N j = 42 ∧ byt f N (j + 1) = 47))) ∧ (v39.toInt = 0 → pp_bad x σ τ vs (fun v47 s47 t47 z47 => Q v47 s47 t47 z47)))) := fun hx hn => by
    refine pm_look hf hN rfl (fun w hw => pm_isAllowed (fun m => ⟨fun _ => ⟨?_, ?_, fun j h1 h2 => ?_⟩, fun z => absurd z (by decide)⟩) (fun m => ⟨fun z => absurd rfl z, fun _ => pm_bad hL hl (fun s ks hs => k0 x s ks (bad (by omega)) hs)⟩))
    · rw [ad1 (by omega)]
      omega
    · rw [ad1 (by omega)]
      omega
    · rw [ad1 (by omega)] at h2
      by_cases q : j = x.toInt
      · rw [q]
        exact ⟨by omega, hn⟩
      · exact g3 j h1 (by omega)
  refine ⟨N ≤ x.toInt ∨ (byt f N x.toInt = 42 ∧ byt f N (x.toInt + 1) = 47), fun j => ⟨fun c => pm_bad hL hl (fun s ks hs => k0 a s ks (bad (by have := nb (by omega); omega)) hs), fun c => k1 _ ?_ ?_⟩, fun c => Or.inl (by omega), fun c => pm_look hf hN rfl (fun v hv => ⟨x.toInt < N ∧ ¬ (byt f N x.toInt = 42 ∧ byt f N (x.toInt + 1) = 47), fun h => nx h.1 h.2, fun d => ⟨by omega, by omega⟩, fun d => pm_look hf hN (i := x.toInt + 1) (ad0 i1 (by omega) (by omega)) (fun w hw => ⟨fun d2 => Or.inr ⟨by omega, by omega⟩, fun d2 => ⟨by omega, by omega⟩⟩)⟩)⟩
  · have := byt_in (f := f) (N := N) (i := x.toInt + 1) (by omega)
    rw [ad0 i2 (by omega) (by omega)]
    omega
  · have := byt_in (f := f) (N := N) (i := x.toInt + 1) (by omega)
    rw [ad0 i2 (by omega) (by omega), BLq, if_pos c1, if_neg (by omega)]
    exact ⟨c2, x.toInt, ⟨g1, g3, fun _ => ⟨by omega, by omega⟩⟩, by omega, rfl⟩
/-- what is not allowed is no token -/
theorem na_bad {b : Int → Int} (h0 : 0 ≤ b p) (h1 : ¬ AOq (b p)) : (¬ BKq (b p) ∧ ¬ CMq b p) ∧ BADq b p := by
  refine ⟨⟨by omega, by omega⟩, h0, ?_⟩
  rw [if_neg (by omega), if_neg (by omega), if_neg (by omega), if_neg (by omega)]
  intro w n hm
  have hw := hm.1
  have hl := sg_len w hw
  have hc := sg_pos w hw 0 (by omega) (by omega)
  have h := hm.2.2 0 (by omega)
  rw [show p + ((0 : Nat) : Int) = p from by omega] at h
  omega
end TM
end

section
/-! tokens: the reference's side, one token -/
section TN
variable {f : Nat → Int32} {N p e : Int} {σ τ s : St} {vs : List Nat} {L : List (Int32 × Int32 × Int)} {a1 a2 a3 a4 a5 x y a n k v : Int32}
theorem pm_among0 {Q : Int32 → Prop} (hf : σ 1 = f) (hB : ∀ j, -128 ≤ (f j).toInt ∧ (f j).toInt ≤ 127) (hp : a1.toInt = p) (hp0 : 0 ≤ p ∧ p ≤ a2.toInt ∧ a2.toInt ≤ N ∧ N ≤ 16000)
    (k : ∀ r : Int32, ((∃ w, WMq (byt f N) p (a2.toInt - p) w ∧ r.toInt = w) ∨ ((∀ w, ¬ WMq (byt f N) p (a2.toInt - p) w) ∧ r.toInt < 0)) → Q r) : pp_among a1 a2 0 σ τ vs Q := by
  have eN : (nI (SN 0)).toInt = 67 := by decide
  have eS : ((SN 0 : Nat) : Int) = 67 := by decide
  have en : (a2 - a1).toInt = a2.toInt - p := by rw [sb (by omega) (by omega), hp]
  unfold pp_among
  refine ⟨fun r x => ∃ w : Nat, w ≤ 12 ∧ r.toInt = w ∧ x.toInt = 1 + bWd w ∧ ∀ w', w' < w → ¬ WMq (byt f N) p (a2.toInt - p) w', ⟨0, by decide, by decide, by decide, fun w' h => by omega⟩, ?_⟩
  rintro r x ⟨w, h1, h2, h3, h4⟩
  by_cases hw : w = 12
  · subst hw
    have e12 : (bWd 12 : Int) = 66 := by decide
    exact ⟨fun _ => k _ (Or.inr ⟨fun w' hw' => h4 w' hw'.1 hw', by decide⟩), fun c1 => by omega⟩
  obtain ⟨t1, t2, _⟩ := wd_nx w (by omega)
  obtain ⟨t3, t5⟩ := rw_tab w (by omega)
  have t4 := wd_len w (by omega)
  refine ⟨fun c1 => by omega, fun c1 => ⟨fun e => 1 + (bWd w : Int) ≤ e.toInt ∧ e.toInt ≤ 1 + bWd w + lWd w, ⟨by omega, by omega⟩, ?_⟩⟩
  rintro e ⟨g1, g2⟩ g3
  have ee : e.toNatClampNeg = 1 + bWd w + (e.toInt.toNat - (1 + bWd w)) := by rw [nt']; omega
  refine ⟨fun d => ?_, fun d => ⟨by rw [ad1 (by omega)]; omega, ?_⟩⟩
  · have ec : e.toInt = 1 + bWd w + lWd w := by
      by_cases q : e.toInt = 1 + bWd w + lWd w
      · exact q
      · exact absurd (by rw [ee] at d; exact d) (rw_chr w (by omega) (e.toInt.toNat - (1 + bWd w)) (by omega) (by omega)).2.1
    have el : (e - x).toInt = lWd w := by rw [sb (by omega) (by omega)]; omega
    refine ⟨fun y => (y.toInt = 1 ↔ (lWd w : Int) = a2.toInt - p), fun y hy hj => ⟨fun z i => 0 ≤ i.toInt ∧ i.toInt ≤ 10 ∧ (z.toInt = 1 → (lWd w : Int) = a2.toInt - p ∧ i.toInt ≤ lWd w ∧ ∀ j : Nat, (j : Int) < i.toInt → byt f N (p + j) = (chI (gC 2 (bWd w + j))).toInt) ∧ (z.toInt = 0 → ¬ WMq (byt f N) p (a2.toInt - p) w), ⟨by decide, by decide, fun h => ⟨hj.mp h, by rw [i0]; omega, fun j hjj => by rw [i0] at hjj; omega⟩, fun h hm => ?_⟩, ?_⟩, fun c => ?_, fun c => ?_⟩
    · have := hj.mpr hm.2.1
      omega
    · rintro z i hz ⟨q1, q2, q3, q4⟩
      have nxt : ∀ i' : Int32, i'.toInt = 1 + bWd w + lWd w + 1 → (¬ WMq (byt f N) p (a2.toInt - p) w) → ∃ w : Nat, w ≤ 12 ∧ (r + 1).toInt = w ∧ i'.toInt = 1 + bWd w ∧ ∀ w', w' < w → ¬ WMq (byt f N) p (a2.toInt - p) w' := fun i' hi' hn => by
        refine ⟨w + 1, by omega, by rw [ad1 (by omega)]; omega, by rw [t2]; omega, fun w' hw' => ?_⟩
        by_cases q : w' = w
        · rw [q]
          exact hn
        · exact h4 w' (by omega)
      refine ⟨z.toInt = 0 ∨ (z.toInt = 1 ∧ (lWd w : Int) ≤ i.toInt), fun jj => ⟨fun c => nxt _ (by rw [ad1 (by omega)]; omega) (q4 c), fun c => ?_⟩, fun c => Or.inl c, fun c => ⟨fun c2 => ?_, fun c2 h3a h3b => ?_⟩⟩
      · have hz1 : z.toInt = 1 := by rcases jj with h | h <;> omega
        obtain ⟨v1, v2, v3⟩ := q3 hz1
        exact k _ (Or.inl ⟨w, ⟨by omega, v1, fun j hjj => v3 j (by omega)⟩, h2⟩)
      · have hz1 : z.toInt = 1 := by
          rcases hz with h | h
          · rw [h] at c; exact absurd rfl c
          · rw [h]; rfl
        obtain ⟨v1, v2, v3⟩ := q3 hz1
        exact Or.inr ⟨hz1, by omega⟩
      · have hz1 : z.toInt = 1 := by
          rcases hz with h | h
          · rw [h] at c; exact absurd rfl c
          · rw [h]; rfl
        obtain ⟨v1, v2, v3⟩ := q3 hz1
        have u1 : (i + 1).toInt = i.toInt + 1 := ad1 (by omega)
        have u2 : (a1 + i).toInt = p + i.toInt := by rw [ad (by omega) (by omega), hp]
        have u3 : (x + i).toInt = 1 + bWd w + i.toInt := by rw [ad (by omega) (by omega), h3]
        have u4 : (x + i).toNatClampNeg = 1 + bWd w + i.toInt.toNat := by rw [nt', u3]; omega
        have u5 : ((i.toInt.toNat : Nat) : Int) = i.toInt := Int.toNat_of_nonneg q1
        obtain ⟨w1, w2, w3, w4⟩ := rw_chr w (by omega) i.toInt.toNat (by omega) (by omega)
        have u6 : byt f N (p + i.toInt) = (chI (gC 2 (bWd w + i.toInt.toNat))).toInt ↔ (σ 1 (a1 + i).toNatClampNeg).toInt = (chI (SF 0 (x + i).toNatClampNeg)).toInt := by
          rw [u4, w1, byt, if_pos (by omega), hf, nt', u2]
          exact bq (hB _) (by omega)
        refine ⟨fun y => (y.toInt = 1 ↔ byt f N (p + i.toInt) = (chI (gC 2 (bWd w + i.toInt.toNat))).toInt) ∧ (y.toInt = 0 ∨ y.toInt = 1), fun y _ hy2 => ⟨by omega, by omega, fun h => ⟨v1, by omega, fun j hjj => ?_⟩, fun h hm => ?_⟩, fun d2 => ⟨⟨fun h => absurd h (by decide), fun h => absurd (u6.mp h) d2⟩, Or.inl rfl⟩, fun d2 => ⟨⟨fun _ => u6.mpr d2, fun _ => rfl⟩, Or.inr rfl⟩⟩
        · by_cases q : (j : Int) = i.toInt
          · have : j = i.toInt.toNat := by omega
            subst this
            rw [u5]
            exact hy2.1.mp h
          · exact v3 j (by omega)
        · have := hm.2.2 i.toInt.toNat (by omega)
          rw [u5] at this
          have := hy2.1.mpr this
          omega
    · rw [el, en] at c
      exact ⟨fun h => absurd h (by decide), fun h => absurd h c⟩
    · rw [el, en] at c
      exact ⟨fun _ => c, fun _ => rfl⟩
  · rw [ad1 (by omega)]
    have : e.toInt ≠ 1 + bWd w + lWd w := fun q => d (by rw [show e.toNatClampNeg = 1 + bWd w + lWd w from by rw [nt']; omega]; exact t3)
    omega
theorem pm_among1 {Q : Int32 → Prop} (hf : σ 1 = f) (hB : ∀ j, -128 ≤ (f j).toInt ∧ (f j).toInt ≤ 127) (hp : a1.toInt = p) (hp0 : 0 ≤ p ∧ p ≤ a2.toInt ∧ a2.toInt ≤ N ∧ N ≤ 16000)
    (k : ∀ r : Int32, ((∃ w, SMq (byt f N) p (a2.toInt - p) w ∧ r.toInt = rkT w) ∨ ((∀ w, ¬ SMq (byt f N) p (a2.toInt - p) w) ∧ r.toInt < 0)) → Q r) : pp_among a1 a2 1 σ τ vs Q := by
  have eN : (nI (SN 1)).toInt = 109 := by decide
  have eS : ((SN 1 : Nat) : Int) = 109 := by decide
  have en : (a2 - a1).toInt = a2.toInt - p := by rw [sb (by omega) (by omega), hp]
  unfold pp_among
  refine ⟨fun r x => ∃ w : Nat, w ≤ 43 ∧ r.toInt = w ∧ x.toInt = bRf w ∧ ∀ w', w' < w → ¬ SMq (byt f N) p (a2.toInt - p) (iRf w'), ⟨0, by decide, by decide, by decide, fun w' h => by omega⟩, ?_⟩
  rintro r x ⟨w, h1, h2, h3, h4⟩
  by_cases hw : w = 43
  · subst hw
    have e12 : (bRf 43 : Int) = 109 := by decide
    refine ⟨fun _ => k _ (Or.inr ⟨fun w' hw' => ?_, by decide⟩), fun c1 => by omega⟩
    obtain ⟨y1, y2⟩ := fr_tab w' hw'.1
    have := h4 (rkT w') y1
    rw [y2] at this
    exact this hw'
  obtain ⟨r1, r2, r3, t2, t3, t4, t5⟩ := rf_tab w (by omega)
  refine ⟨fun c1 => by omega, fun c1 => ⟨fun e => (bRf w : Int) ≤ e.toInt ∧ e.toInt ≤ bRf w + lSg (iRf w), ⟨by omega, by omega⟩, ?_⟩⟩
  rintro e ⟨g1, g2⟩ g3
  have ee : e.toNatClampNeg = bRf w + (e.toInt.toNat - bRf w) := by rw [nt']; omega
  refine ⟨fun d => ?_, fun d => ⟨by rw [ad1 (by omega)]; omega, ?_⟩⟩
  · have ec : e.toInt = bRf w + lSg (iRf w) := by
      by_cases q : e.toInt = bRf w + lSg (iRf w)
      · exact q
      · exact absurd (by rw [ee] at d; exact d) (rf_chr w (by omega) (e.toInt.toNat - bRf w) (by omega) (by omega)).2.1
    have el : (e - x).toInt = lSg (iRf w) := by rw [sb (by omega) (by omega)]; omega
    refine ⟨fun y => (y.toInt = 1 ↔ (lSg (iRf w) : Int) = a2.toInt - p), fun y hy hj => ⟨fun z i => 0 ≤ i.toInt ∧ i.toInt ≤ 10 ∧ (z.toInt = 1 → (lSg (iRf w) : Int) = a2.toInt - p ∧ i.toInt ≤ lSg (iRf w) ∧ ∀ j : Nat, (j : Int) < i.toInt → byt f N (p + j) = (chI (gC 3 (bSg (iRf w) + j))).toInt) ∧ (z.toInt = 0 → ¬ SMq (byt f N) p (a2.toInt - p) (iRf w)), ⟨by decide, by decide, fun h => ⟨hj.mp h, by rw [i0]; omega, fun j hjj => by rw [i0] at hjj; omega⟩, fun h hm => ?_⟩, ?_⟩, fun c => ?_, fun c => ?_⟩
    · have := hj.mpr hm.2.1
      omega
    · rintro z i hz ⟨q1, q2, q3, q4⟩
      have nxt : ∀ i' : Int32, i'.toInt = bRf w + lSg (iRf w) + 1 → (¬ SMq (byt f N) p (a2.toInt - p) (iRf w)) → ∃ w : Nat, w ≤ 43 ∧ (r + 1).toInt = w ∧ i'.toInt = bRf w ∧ ∀ w', w' < w → ¬ SMq (byt f N) p (a2.toInt - p) (iRf w') := fun i' hi' hn => by
        refine ⟨w + 1, by omega, by rw [ad1 (by omega)]; omega, by rw [t2]; omega, fun w' hw' => ?_⟩
        by_cases q : w' = w
        · rw [q]
          exact hn
        · exact h4 w' (by omega)
      refine ⟨z.toInt = 0 ∨ (z.toInt = 1 ∧ (lSg (iRf w) : Int) ≤ i.toInt), fun jj => ⟨fun c => nxt _ (by rw [ad1 (by omega)]; omega) (q4 c), fun c => ?_⟩, fun c => Or.inl c, fun c => ⟨fun c2 => ?_, fun c2 h3a h3b => ?_⟩⟩
      · have hz1 : z.toInt = 1 := by rcases jj with h | h <;> omega
        obtain ⟨v1, v2, v3⟩ := q3 hz1
        exact k _ (Or.inl ⟨iRf w, ⟨r1, v1, fun j hjj => v3 j (by omega)⟩, by rw [r2]; exact h2⟩)
      · have hz1 : z.toInt = 1 := by
          rcases hz with h | h
          · rw [h] at c; exact absurd rfl c
          · rw [h]; rfl
        obtain ⟨v1, v2, v3⟩ := q3 hz1
        exact Or.inr ⟨hz1, by omega⟩
      · have hz1 : z.toInt = 1 := by
          rcases hz with h | h
          · rw [h] at c; exact absurd rfl c
          · rw [h]; rfl
        obtain ⟨v1, v2, v3⟩ := q3 hz1
        have u1 : (i + 1).toInt = i.toInt + 1 := ad1 (by omega)
        have u2 : (a1 + i).toInt = p + i.toInt := by rw [ad (by omega) (by omega), hp]
        have u3 : (x + i).toInt = bRf w + i.toInt := by rw [ad (by omega) (by omega), h3]
        have u4 : (x + i).toNatClampNeg = bRf w + i.toInt.toNat := by rw [nt', u3]; omega
        have u5 : ((i.toInt.toNat : Nat) : Int) = i.toInt := Int.toNat_of_nonneg q1
        obtain ⟨w1, w2, w3, w4⟩ := rf_chr w (by omega) i.toInt.toNat (by omega) (by omega)
        have u6 : byt f N (p + i.toInt) = (chI (gC 3 (bSg (iRf w) + i.toInt.toNat))).toInt ↔ (σ 1 (a1 + i).toNatClampNeg).toInt = (chI (SF 1 (x + i).toNatClampNeg)).toInt := by
          rw [u4, w1, byt, if_pos (by omega), hf, nt', u2]
          exact bq (hB _) (by omega)
        refine ⟨fun y => (y.toInt = 1 ↔ byt f N (p + i.toInt) = (chI (gC 3 (bSg (iRf w) + i.toInt.toNat))).toInt) ∧ (y.toInt = 0 ∨ y.toInt = 1), fun y _ hy2 => ⟨by omega, by omega, fun h => ⟨v1, by omega, fun j hjj => ?_⟩, fun h hm => ?_⟩, fun d2 => ⟨⟨fun h => absurd h (by decide), fun h => absurd (u6.mp h) d2⟩, Or.inl rfl⟩, fun d2 => ⟨⟨fun _ => u6.mpr d2, fun _ => rfl⟩, Or.inr rfl⟩⟩
        · by_cases q : (j : Int) = i.toInt
          · have : j = i.toInt.toNat := by omega
            subst this
            rw [u5]
            exact hy2.1.mp h
          · exact v3 j (by omega)
        · have := hm.2.2 i.toInt.toNat (by omega)
          rw [u5] at this
          have := hy2.1.mpr this
          omega
    · rw [el, en] at c
      exact ⟨fun h => absurd h (by decide), fun h => absurd h c⟩
    · rw [el, en] at c
      exact ⟨fun _ => c, fun _ => rfl⟩
  · rw [ad1 (by omega)]
    have : e.toInt ≠ bRf w + lSg (iRf w) := fun q => d (by rw [show e.toNatClampNeg = bRf w + lSg (iRf w) from by rw [nt']; omega]; exact t3)
    omega
/-- a token is put -/
theorem pm_tadd {Q : St → St → List Nat → Prop} {Q2 : Int32 → St → St → List Nat → Prop} (hL : RMq σ L) (hl : L.length ≤ 16001) (ht : TOKq (byt f N) p k v x.toInt) (hx : x.toInt ≤ N) (h1 : a1.toInt = rkI k.toInt) (h2 : a2.toInt = p) (h3 : k.toInt = 2 → a3.toInt = p + v.toInt) (h4 : k.toInt = 3 ∨ k.toInt = 4 → a5 = v) (hq : ∀ s, Q2 x s τ vs → Q s τ vs)
    (k1 : ∀ s k v x, KRq σ s → TOKq (byt f N) p k v x.toInt → x.toInt ≤ N → RMq s (L ++ [(k, v, p)]) → (s 0 8).toInt = (L.length : Int) + 1 → (s 2 L.length).toInt = rkI k.toInt → Q2 x s τ vs) : pp_token a1 a2 a3 a4 a5 σ τ vs Q :=
  pm_tok0 (k := k) (v := v) (p := p) hL hl h1 h2 h3 h4 (fun s ks hs e1 e2 => hq s (k1 s k v x ks ht hx hs e2 (by rw [e1, h1])))
theorem pm_name {Q : Int32 → St → St → List Nat → Prop} (hf : σ 1 = f) (hB : ∀ j, -128 ≤ (f j).toInt ∧ (f j).toInt ≤ 127) (hN : (σ 0 9).toInt = N) (h16 : N ≤ 16000) (hp : a.toInt = p) (hL : RMq σ L) (hl : L.length ≤ 16001) (hb : LTq (byt f N p))
    (k1 : ∀ s k v x, KRq σ s → TOKq (byt f N) p k v x.toInt → x.toInt ≤ N → RMq s (L ++ [(k, v, p)]) → (s 0 8).toInt = (L.length : Int) + 1 → (s 2 L.length).toInt = rkI k.toInt → Q x s τ vs) (k0 : ∀ x s, KRq σ s → BADq (byt f N) p → FMq s L 1 → Q x s τ vs) : pp_nameEnd a a2 σ τ vs Q := by
  have hin := byt_in (f := f) (N := N) (i := p) (by omega)
  have e5 : ((5 : Int32)).toInt = 5 := by decide
  unfold pp_nameEnd
  refine ⟨fun x => p ≤ x.toInt ∧ x.toInt ≤ N ∧ ∀ i, p ≤ i → i < x.toInt → NDq (byt f N i), ⟨by omega, by omega, fun i h1 h2 => by omega⟩, ?_⟩
  rintro x ⟨g1, g2, g3⟩
  have nx : NDq (byt f N x.toInt) → (p ≤ (x + 1).toInt ∧ (x + 1).toInt ≤ N ∧ ∀ i, p ≤ i → i < (x + 1).toInt → NDq (byt f N i)) := fun h => by
    have hin2 := byt_in (f := f) (N := N) (i := x.toInt) (by omega)
    rw [ad1 (by omega)]
    refine ⟨by omega, by omega, fun i h1 h2 => ?_⟩
    by_cases q : i = x.toInt
    · rw [q]
      exact h
    · exact g3 i h1 (by omega)
  refine pm_look hf hN rfl (fun v hv => pm_isLetter (fun d => ⟨NDq (byt f N x.toInt), nx, fun _ => by omega, fun z => absurd z (by decide)⟩) (fun d => ⟨NDq (byt f N x.toInt), nx, fun z => absurd rfl z, fun _ => pm_look hf hN rfl (fun w hw => pm_isDigit (fun d2 => ⟨fun z => absurd z (by decide), fun _ => by omega⟩) (fun d2 => ⟨fun _ => ?_, fun z => absurd rfl z⟩))⟩))
  have en : ENq NDq (byt f N) p x.toInt := ⟨by omega, g3, by omega⟩
  have ex : (x - a).toInt = x.toInt - p := by rw [sb (by omega) (by omega), hp]
  refine ⟨fun c => pm_among0 (N := N) hf hB hp (by omega) (fun r hr => ?_), fun c => pm_bad hL hl (fun s ks hs => k0 _ s ks ⟨by omega, by rw [if_pos hb]; exact ⟨_, en, by omega⟩⟩ hs)⟩
  have tk : ∀ y : Int32, ((∃ w, WMq (byt f N) p (x.toInt - p) w ∧ y.toInt = 5 + w) ∨ ((∀ w, ¬ WMq (byt f N) p (x.toInt - p) w) ∧ y.toInt = 2)) → TOKq (byt f N) p y (x - a) x.toInt := fun y hy => by
    rw [TOKq, if_pos hb]
    exact ⟨en, by omega, ex, hy⟩
  refine ⟨fun y => ((∃ w, WMq (byt f N) p (x.toInt - p) w ∧ y.toInt = 5 + w) ∨ ((∀ w, ¬ WMq (byt f N) p (x.toInt - p) w) ∧ y.toInt = 2)), fun y hy => pm_tadd (Q2 := Q) hL hl (tk y hy) g2 ?_ hp (fun _ => by omega) (fun h => ?_) (fun s h => h) k1, fun c => ?_, fun c => ?_⟩
  · rw [rkI, if_pos]
    rcases hy with ⟨w, m, q⟩ | ⟨_, q⟩
    · have := m.1
      omega
    · omega
  · rcases hy with ⟨w, m, q⟩ | ⟨_, q⟩ <;> omega
  · rcases hr with ⟨w', m1, m2⟩ | ⟨m1, m2⟩
    · omega
    · exact Or.inr ⟨m1, by decide⟩
  · rcases hr with ⟨w', m1, m2⟩ | ⟨m1, m2⟩
    · have := m1.1
      exact Or.inl ⟨w', m1, by rw [ad (by omega) (by omega)]; omega⟩
    · omega
theorem pm_number {Q : Int32 → St → St → List Nat → Prop} (hf : σ 1 = f) (hN : (σ 0 9).toInt = N) (h16 : N ≤ 16000) (hp : a.toInt = p) (hL : RMq σ L) (hl : L.length ≤ 16001) (hb : DGq (byt f N p))
    (k1 : ∀ s k v x, KRq σ s → TOKq (byt f N) p k v x.toInt → x.toInt ≤ N → RMq s (L ++ [(k, v, p)]) → (s 0 8).toInt = (L.length : Int) + 1 → (s 2 L.length).toInt = rkI k.toInt → Q x s τ vs) (k0 : ∀ x s, KRq σ s → BADq (byt f N) p → FMq s L 1 → Q x s τ vs) : pp_numberEnd a a2 σ τ vs Q := by
  have hin := byt_in (f := f) (N := N) (i := p) (by omega)
  have nl : ¬ LTq (byt f N p) := by omega
  have eM : (2147483647 : Int64).toInt = 2147483647 := by decide
  have e10 : (10 : Int64).toInt = 10 := by decide
  have e48 : (48 : Int64).toInt = 48 := by decide
  have r3 : ((3 : Int32)).toInt = rkI ((3 : Int32)).toInt := by decide
  unfold pp_numberEnd
  refine pm_look hf hN hp (fun v hv => ⟨¬ HSq (byt f N) p, fun hh => ⟨fun x u => p ≤ x.toInt ∧ x.toInt ≤ N ∧ (∀ i, p ≤ i → i < x.toInt → DGq (byt f N i)) ∧ 0 ≤ u.toInt ∧ u.toInt ≤ 30000000000 ∧ ((u.toInt ≤ 2147483647 ∧ u.toInt = dvq (byt f N) p (x.toInt - p).toNat) ∨ (2147483647 < u.toInt ∧ 2147483647 < dvq (byt f N) p (x.toInt - p).toNat)), ⟨by omega, by omega, fun i h1 h2 => by omega, by decide, by decide, Or.inl ⟨by decide, by rw [show (a.toInt - p).toNat = 0 from by omega]; rfl⟩⟩, ?_⟩, fun c => ?_, fun c => ?_⟩)
  · rintro x u ⟨g1, g2, g3, g4, g5, g6⟩
    refine pm_look hf hN rfl (fun w hw => pm_isDigit (fun d => ⟨fun z => absurd z (by decide), fun _ => ?_⟩) (fun d => ⟨fun _ => ?_, fun z => absurd rfl z⟩))
    · have hin2 := byt_in (f := f) (N := N) (i := x.toInt) (by omega)
      have nd := dv_nn (b := byt f N) (p := p) (x.toInt - p).toNat (fun i h1 h2 => g3 i h1 (by omega))
      have ed : dvq (byt f N) p ((x + 1).toInt - p).toNat = dvq (byt f N) p (x.toInt - p).toNat * 10 + (byt f N x.toInt - 48) := by
        rw [ad1 (by omega), show (x.toInt + 1 - p).toNat = (x.toInt - p).toNat + 1 from by omega, dv_s, show p + (((x.toInt - p).toNat : Nat) : Int) = x.toInt from by omega]
      have cm : p ≤ (x + 1).toInt ∧ (x + 1).toInt ≤ N ∧ ∀ i, p ≤ i → i < (x + 1).toInt → DGq (byt f N i) := by
        rw [ad1 (by omega)]
        refine ⟨by omega, by omega, fun i h1 h2 => ?_⟩
        by_cases q : i = x.toInt
        · rw [q]
          omega
        · exact g3 i h1 (by omega)
      refine ⟨fun u2 => 0 ≤ u2.toInt ∧ u2.toInt ≤ 30000000000 ∧ ((u2.toInt ≤ 2147483647 ∧ u2.toInt = dvq (byt f N) p ((x + 1).toInt - p).toNat) ∨ (2147483647 < u2.toInt ∧ 2147483647 < dvq (byt f N) p ((x + 1).toInt - p).toNat)), fun u2 h => ⟨cm.1, cm.2.1, cm.2.2, h.1, h.2.1, h.2.2⟩, fun c => ?_, fun c => pm_look hf hN rfl (fun w2 hw2 => ?_)⟩
      · have q := lc_gt c
        rw [eM] at q
        refine ⟨g4, g5, Or.inr ⟨q, ?_⟩⟩
        rw [ed]
        omega
      · have q := lc_le c
        rw [eM] at q
        have m1 : ((10 : Int64) * u).toInt = 10 * u.toInt := by rw [Int64.toInt_mul, e10, Int.bmod_eq_of_le (by omega) (by omega)]
        have m2 : (((10 : Int64) * u) + w2.toInt64).toInt = 10 * u.toInt + byt f N x.toInt := by rw [Int64.toInt_add, m1, Int32.toInt_toInt64, hw2, Int.bmod_eq_of_le (by omega) (by omega)]
        have m3 : ((((10 : Int64) * u) + w2.toInt64) - (48 : Int64)).toInt = 10 * u.toInt + byt f N x.toInt - 48 := by rw [Int64.toInt_sub, m2, e48, Int.bmod_eq_of_le (by omega) (by omega)]
        dsimp only
        rw [m3, ed]
        exact ⟨by omega, by omega, by omega⟩
    · have en : ENq DGq (byt f N) p x.toInt := ⟨by omega, g3, by omega⟩
      refine ⟨fun c => ?_, fun c => ?_⟩
      · have q := lc_le c
        rw [eM] at q
        refine pm_tadd (Q2 := Q) (k := 3) (v := u.toInt32) hL hl ?_ g2 r3 hp (fun h => absurd h (by decide)) (fun _ => rfl) (fun s h => h) k1
        rw [TOKq, if_neg nl, if_pos hb, if_neg hh]
        refine ⟨en, by omega, by decide, ?_⟩
        rw [Int64.toInt_toInt32, Int.bmod_eq_of_le (by omega) (by omega)]
        omega
      · have q := lc_gt c
        rw [eM] at q
        refine pm_bad hL hl (fun s ks hs => k0 _ s ks ⟨by omega, ?_⟩ hs)
        rw [if_neg nl, if_pos hb, if_neg hh]
        exact ⟨_, en, by omega⟩
  · rintro ⟨h, _⟩
    omega
  · refine pm_look hf hN (i := p + 1) (by rw [ad0 i1 (by omega) (by omega), hp]) (fun v2 hv2 => ⟨fun c2 => by rintro ⟨_, h, _⟩; omega, fun c2 => pm_look hf hN (i := p + 2) (by rw [ad0 i2 (by omega) (by omega), hp]) (fun v3 hv3 => pm_sixteen (fun w hw => ⟨fun c3 => ?_, fun c3 => ?_⟩))⟩)
    · rintro ⟨_, _, h⟩
      rw [← hv3] at h
      have := hx_iff.mpr h
      omega
    · have hh : HSq (byt f N) p := ⟨by omega, by omega, by rw [← hv3]; exact hx_iff.mp (by omega)⟩
      have hin2 := byt_in (f := f) (N := N) (i := p + 2) (by omega)
      refine ⟨fun x u => p + 2 ≤ x.toInt ∧ x.toInt ≤ N ∧ (∀ i, p + 2 ≤ i → i < x.toInt → HXq (byt f N i)) ∧ u = hvq (byt f N) (p + 2) (x.toInt - p - 2).toNat, ⟨by rw [ad0 i2 (by omega) (by omega)]; omega, by rw [ad0 i2 (by omega) (by omega)]; omega, fun i h1 h2 => by rw [ad0 i2 (by omega) (by omega)] at h2; omega, by rw [ad0 i2 (by omega) (by omega), show (a.toInt + 2 - p - 2).toNat = 0 from by omega]; rfl⟩, ?_⟩
      rintro x u ⟨g1, g2, g3, g4⟩
      have ex : (x - a).toInt = x.toInt - p := by rw [sb (by omega) (by omega), hp]
      refine pm_look hf hN rfl (fun w1 hw1 => pm_sixteen (fun w2 hw2 => ⟨fun d => ?_, fun d => ?_⟩))
      · have nhx : ¬ HXq (byt f N x.toInt) := fun h => by
          rw [← hw1] at h
          have := hx_iff.mpr h
          omega
        have en : ENq HXq (byt f N) (p + 2) x.toInt := ⟨g1, g3, nhx⟩
        refine ⟨fun c => ?_, fun c => ?_⟩
        · refine pm_tadd (Q2 := Q) (k := 3) (v := u) hL hl ?_ g2 r3 hp (fun h => absurd h (by decide)) (fun _ => rfl) (fun s h => h) k1
          rw [TOKq, if_neg nl, if_pos hb, if_pos hh]
          exact ⟨en, by omega, by decide, g4⟩
        · refine pm_bad hL hl (fun s ks hs => k0 _ s ks ⟨by omega, ?_⟩ hs)
          rw [if_neg nl, if_pos hb, if_pos hh]
          exact ⟨_, en, by omega⟩
      · have hd : HXq (byt f N x.toInt) := by
          rw [← hw1]
          exact hx_iff.mp (by omega)
        have hin3 := byt_in (f := f) (N := N) (i := x.toInt) (by omega)
        refine pm_look hf hN rfl (fun w3 hw3 => pm_sixteen (fun w4 hw4 => ⟨?_, ?_, fun i h1 h2 => ?_, ?_⟩))
        · rw [ad1 (by omega)]
          omega
        · rw [ad1 (by omega)]
          omega
        · rw [ad1 (by omega)] at h2
          by_cases q : i = x.toInt
          · rw [q]
            exact hd
          · exact g3 i h1 (by omega)
        · rw [hw3] at hw4
          have h4 := hx_iff.mpr hd
          obtain ⟨n1, n2, n3⟩ := hx_nI hw4 (by omega)
          rw [ad1 (by omega), show (x.toInt + 1 - p - 2).toNat = (x.toInt - p - 2).toNat + 1 from by omega, hv_s, show p + 2 + (((x.toInt - p - 2).toNat : Nat) : Int) = x.toInt from by omega, ← g4, n3, n1, hex_or u n2]
theorem pm_char {Q : Int32 → St → St → List Nat → Prop} (hf : σ 1 = f) (hN : (σ 0 9).toInt = N) (h16 : N ≤ 16000) (hp : a.toInt = p) (hL : RMq σ L) (hl : L.length ≤ 16001) (hb : byt f N p = 39)
    (k1 : ∀ s k v x, KRq σ s → TOKq (byt f N) p k v x.toInt → x.toInt ≤ N → RMq s (L ++ [(k, v, p)]) → (s 0 8).toInt = (L.length : Int) + 1 → (s 2 L.length).toInt = rkI k.toInt → Q x s τ vs) (k0 : ∀ x s, KRq σ s → BADq (byt f N) p → FMq s L 1 → Q x s τ vs) : pp_codeEnd a a2 σ τ vs Q := by
  have hin := byt_in (f := f) (N := N) (i := p) (by omega)
  have e39 : ((39 : Int32)).toInt = 39 := by decide
  have r3 : ((3 : Int32)).toInt = rkI ((3 : Int32)).toInt := by decide
  have e1 : (a + (1 : Int32)).toInt = p + 1 := by rw [ad0 i1 (by omega) (by omega), hp]
  unfold pp_codeEnd
  refine pm_code hf hN h16 e1 (by omega) (fun v hv => pm_look hf hN e1 (fun w hw => ⟨fun y => y.toInt = 1 + wdq (byt f N) (p + 1), fun y hy => ?_, fun c => ?_, fun c => ?_⟩))
  · rw [e39] at hv
    have hr := wd_r (b := byt f N) (i := p + 1)
    have ey : (a + y).toInt = p + 1 + wdq (byt f N) (p + 1) := by rw [ad (by omega) (by omega)]; omega
    have ey2 : ((a + y) + (1 : Int32)).toInt = p + 2 + wdq (byt f N) (p + 1) := by rw [ad0 i1 (by omega) (by omega), ey]; omega
    refine ⟨cdq (byt f N) 39 (p + 1) < 0 ∨ byt f N (p + 1 + wdq (byt f N) (p + 1)) ≠ 39, fun j => ?_, fun c => by omega, fun c => pm_look hf hN ey (fun u hu => ⟨fun d => ?_, fun d => by omega⟩)⟩
    · refine pm_bad hL hl (fun s ks hs => k0 _ s ks ⟨by omega, ?_⟩ hs)
      rw [if_neg (by omega), if_neg (by omega), if_pos hb]
      exact j
    · have hin2 := byt_in (f := f) (N := N) (i := p + 1 + wdq (byt f N) (p + 1)) (by omega)
      refine pm_tadd (Q2 := Q) (k := 3) (v := v) hL hl ?_ (by omega) r3 hp (fun h => absurd h (by decide)) (fun _ => rfl) (fun s h => h) k1
      rw [TOKq, if_neg (by omega), if_neg (by omega), if_pos hb]
      exact ⟨by omega, by omega, ey2, by decide, hv⟩
  · rw [wdq, if_neg (by omega)]
    decide
  · rw [wdq, if_pos (by omega)]
    decide
theorem pm_str {Q : Int32 → St → St → List Nat → Prop} (hf : σ 1 = f) (hN : (σ 0 9).toInt = N) (h16 : N ≤ 16000) (hp : a.toInt = p) (hL : RMq σ L) (hl : L.length ≤ 16001) (hb : byt f N p = 34)
    (k1 : ∀ s k v x, KRq σ s → TOKq (byt f N) p k v x.toInt → x.toInt ≤ N → RMq s (L ++ [(k, v, p)]) → (s 0 8).toInt = (L.length : Int) + 1 → (s 2 L.length).toInt = rkI k.toInt → Q x s τ vs) (k0 : ∀ x s, KRq σ s → BADq (byt f N) p → FMq s L 1 → Q x s τ vs) : pp_stringEnd a a2 σ τ vs Q := by
  have hin := byt_in (f := f) (N := N) (i := p) (by omega)
  have e34 : ((34 : Int32)).toInt = 34 := by decide
  have r4 : ((4 : Int32)).toInt = rkI ((4 : Int32)).toInt := by decide
  unfold pp_stringEnd
  refine ⟨fun x c => ∃ n : Nat, c.toInt = n ∧ n ≤ 200 ∧ x.toInt = spq (byt f N) p n ∧ p < x.toInt ∧ x.toInt ≤ N ∧ ∀ j, j < n → byt f N (spq (byt f N) p j) ≠ 34 ∧ 0 ≤ cdq (byt f N) 34 (spq (byt f N) p j), ⟨0, rfl, by decide, ?_, by rw [ad0 i1 (by omega) (by omega)]; omega, by rw [ad0 i1 (by omega) (by omega)]; omega, fun j h => by omega⟩, ?_⟩
  · rw [ad0 i1 (by omega) (by omega), hp]
    rfl
  rintro x c ⟨n, g1, g2, g3, g4, g5, g6⟩
  refine pm_look hf hN rfl (fun v hv => ⟨fun d => ?_, fun d => pm_code hf hN h16 rfl (by omega) (fun v2 hv2 => ⟨cdq (byt f N) 34 x.toInt < 0 ∨ n = 200, fun j => ?_, fun d2 => by rw [e34] at hv2; omega, fun d2 => ⟨fun d3 => pm_look hf hN rfl (fun v3 hv3 => ⟨fun y => y.toInt = wdq (byt f N) x.toInt, fun y hy => ?_, fun c => ?_, fun c => ?_⟩), fun d3 => by omega⟩⟩)⟩)
  · have hin2 := byt_in (f := f) (N := N) (i := x.toInt) (by omega)
    have ew : (x + (1 : Int32)).toInt = x.toInt + 1 := ad0 i1 (by omega) (by omega)
    refine pm_tadd (Q2 := Q) (k := 4) (v := c) hL hl ?_ (by omega) r4 hp (fun h => absurd h (by decide)) (fun _ => rfl) (fun s h => h) k1
    rw [TOKq, if_neg (by omega), if_neg (by omega), if_neg (by omega), if_pos hb]
    exact ⟨n, ⟨by omega, g6, by rw [← g3]; omega⟩, by omega, by decide, g1⟩
  · refine pm_bad hL hl (fun s ks hs => k0 _ s ks ⟨by omega, ?_⟩ hs)
    rw [if_neg (by omega), if_neg (by omega), if_neg (by omega), if_pos hb]
    exact ⟨n, by omega, g6, by rw [← g3]; omega, by rw [← g3]; exact j⟩
  · rw [e34] at hv2
    have hu := cd_up (b := byt f N) rfl (by omega : 0 ≤ cdq (byt f N) 34 x.toInt)
    have hr := wd_r (b := byt f N) (i := x.toInt)
    have exy : (x + y).toInt = x.toInt + wdq (byt f N) x.toInt := by rw [ad (by omega) (by omega), hy]
    refine ⟨n + 1, by rw [ad1 (by omega)]; omega, by omega, by rw [sp_s, ← g3, exy], by omega, by omega, fun j hj => ?_⟩
    by_cases q : j = n
    · rw [q, ← g3]
      exact ⟨by omega, by omega⟩
    · exact g6 j (by omega)
  · rw [wdq, if_neg (by omega)]
    rfl
  · rw [wdq, if_pos (by omega)]
    rfl
theorem pm_sign {Q : Int32 → St → St → List Nat → Prop} (hf : σ 1 = f) (hB : ∀ j, -128 ≤ (f j).toInt ∧ (f j).toInt ≤ 127) (hN : (σ 0 9).toInt = N) (h16 : N ≤ 16000) (hp : a.toInt = p) (hL : RMq σ L) (hl : L.length ≤ 16001) (hb : 0 ≤ byt f N p) (n1 : ¬ LTq (byt f N p)) (n2 : ¬ DGq (byt f N p)) (n3 : byt f N p ≠ 39) (n4 : byt f N p ≠ 34)
    (k1 : ∀ s k v x, KRq σ s → TOKq (byt f N) p k v x.toInt → x.toInt ≤ N → RMq s (L ++ [(k, v, p)]) → (s 0 8).toInt = (L.length : Int) + 1 → (s 2 L.length).toInt = rkI k.toInt → Q x s τ vs) (k0 : ∀ x s, KRq σ s → BADq (byt f N) p → FMq s L 1 → Q x s τ vs) : pp_signEnd a a2 σ τ vs Q := by
  have hin := byt_in hb
  have e32 : ((32 : Int32)).toInt = 32 := by decide
  unfold pp_signEnd
  refine ⟨fun x => x.toInt ≤ 3 ∧ ∀ w n, SMq (byt f N) p n w → n ≤ x.toInt, ⟨by decide, fun w n hm => ?_⟩, ?_⟩
  · have hl2 := sg_len w hm.1
    have h3 := hm.2.1
    rw [i3]
    omega
  rintro x ⟨h1, h2⟩
  have sin : ∀ w n, SMq (byt f N) p n w → p + n ≤ N := fun w n hm => by
    have hw := hm.1
    have hl2 := sg_len w hw
    have h3 := hm.2.1
    have hc := sg_pos w hw (lSg w - 1) (by omega) (by omega)
    have hm2 := hm.2.2 (lSg w - 1) (by omega)
    have hin2 := byt_in (f := f) (N := N) (i := p + ((lSg w - 1 : Nat) : Int)) (by omega)
    omega
  refine ⟨fun c => pm_bad hL hl (fun s ks hs => k0 _ s ks ⟨hb, ?_⟩ hs), fun c => ?_⟩
  · rw [if_neg n1, if_neg n2, if_neg n3, if_neg n4]
    intro w n hm
    have := h2 w n hm
    have := sg_len w hm.1
    have := hm.2.1
    omega
  have ex : (a + x).toInt = p + x.toInt := by rw [ad (by omega) (by omega), hp]
  refine ⟨fun r => (∃ w, SMq (byt f N) p x.toInt w ∧ r.toInt = rkT w) ∨ ((∀ w, ¬ SMq (byt f N) p x.toInt w) ∧ r.toInt < 0), fun r hr => ⟨fun d => ?_, fun d => ⟨?_, fun w n hm => ?_⟩⟩, fun c2 => Or.inr ⟨fun w hm => ?_, by decide⟩, fun c2 => pm_among1 (N := N) hf hB hp (by omega) (fun r hr => ?_)⟩
  · rcases hr with ⟨w, r1, r2⟩ | ⟨r1, r2⟩
    · have hw := r1.1
      have hin2 := sin w _ r1
      have ee : (a + x).toInt - p = x.toInt := by omega
      have ft := fr_tab w hw
      have ek : ((20 : Int32) + nI w).toInt = 20 + w := by
        have e20 : ((20 : Int32)).toInt = 20 := by decide
        have ew : (nI w).toInt = (w : Int) := nI_toInt (by omega)
        rw [ad (by omega) (by omega)]
        omega
      refine pm_tadd (Q2 := Q) (k := (20 : Int32) + nI w) (v := 0) hL hl ?_ (by omega) ?_ hp (fun h => by omega) (fun h => by omega) (fun s h => h) k1
      · rw [TOKq, if_neg n1, if_neg n2, if_neg n3, if_neg n4, ee]
        exact ⟨w, r1, h2, ek, rfl⟩
      · rw [ek, rkI, if_neg (by omega), show ((20 + (w : Int)) - 20).toNat = w from by omega, ad (by omega) (by omega)]
        omega
    · omega
  · rw [dc1 (by omega)]
    omega
  · rw [dc1 (by omega)]
    have q := h2 w n hm
    by_cases e : n = x.toInt
    · rcases hr with ⟨w', r1, r2⟩ | ⟨r1, r2⟩
      · omega
      · rw [e] at hm
        exact absurd hm (r1 w)
    · omega
  · have := sin w _ hm
    omega
  · rw [show (a + x).toInt - p = x.toInt from by omega] at hr
    exact hr
theorem pm_one {Q : Int32 → St → St → List Nat → Prop} (hf : σ 1 = f) (hB : ∀ j, -128 ≤ (f j).toInt ∧ (f j).toInt ≤ 127) (hN : (σ 0 9).toInt = N) (h16 : N ≤ 16000) (hp : a.toInt = p) (hL : RMq σ L) (hl : L.length ≤ 16001) (hb : 0 ≤ byt f N p)
    (k1 : ∀ s k v x, KRq σ s → TOKq (byt f N) p k v x.toInt → x.toInt ≤ N → RMq s (L ++ [(k, v, p)]) → (s 0 8).toInt = (L.length : Int) + 1 → (s 2 L.length).toInt = rkI k.toInt → Q x s τ vs) (k0 : ∀ x s, KRq σ s → BADq (byt f N) p → FMq s L 1 → Q x s τ vs) : pp_one_0 a a2 σ τ vs Q := by
  unfold pp_one_0
  refine pm_look hf hN hp (fun v hv => pm_isLetter (fun d => ⟨fun z => absurd z (by decide), fun _ => pm_name hf hB hN h16 hp hL hl (by omega) k1 k0⟩) (fun d => ⟨fun _ => pm_isDigit (fun d2 => ⟨fun z => absurd z (by decide), fun _ => pm_number hf hN h16 hp hL hl (by omega) k1 k0⟩) (fun d2 => ⟨fun _ => ⟨fun d3 => ⟨fun d4 => pm_sign hf hB hN h16 hp hL hl hb (by omega) (by omega) (by omega) (by omega) k1 k0, fun d4 => pm_str hf hN h16 hp hL hl (by omega) k1 k0⟩, fun d3 => pm_char hf hN h16 hp hL hl (by omega) k1 k0⟩, fun z => absurd rfl z⟩), fun z => absurd rfl z⟩))
theorem tok_k {b : Int → Int} (h : TOKq b p k v e) : 2 ≤ k.toInt ∧ k.toInt ≤ 62 := by
  unfold TOKq at h
  by_cases c1 : LTq (b p)
  · rw [if_pos c1] at h
    rcases h.2.2.2 with ⟨w, q1, q2⟩ | ⟨q1, q2⟩
    · have := q1.1
      omega
    · omega
  rw [if_neg c1] at h
  by_cases c2 : DGq (b p)
  · rw [if_pos c2] at h
    by_cases c3 : HSq b p
    · rw [if_pos c3] at h
      have := h.2.2.1
      omega
    · rw [if_neg c3] at h
      have := h.2.2.1
      omega
  rw [if_neg c2] at h
  by_cases c3 : b p = 39
  · rw [if_pos c3] at h
    have := h.2.2.2.1
    omega
  rw [if_neg c3] at h
  by_cases c4 : b p = 34
  · rw [if_pos c4] at h
    obtain ⟨m, _, _, a, _⟩ := h
    omega
  rw [if_neg c4] at h
  obtain ⟨w, q1, _, q2, _⟩ := h
  have := q1.1
  omega
theorem rk_ge {i : Int} (h : 2 ≤ i) : 2 ≤ rkI i := by
  unfold rkI
  split
  · exact h
  · omega
/-- cut(): the tokens are those of the text -/
theorem pm_cut {Q : St → St → List Nat → Prop} (hf : σ 1 = f) (hB : ∀ j, -128 ≤ (f j).toInt ∧ (f j).toInt ≤ 127) (hN : (σ 0 9).toInt = N) (h0 : 0 ≤ N) (h16 : N ≤ 16000)
    (kk : ∀ s L q c, KRq σ s → RCHq (byt f N) (0, []) (q, L) → FINq (byt f N) q c → FMq s L c → Q s τ vs) : pp_cut σ τ vs Q := by
  unfold pp_cut
  generalize hu : upC σ 0 8 (0 : Int32) = u
  have ku : KRq σ u := by rw [← hu]; exact kp_f kp_rf rfl
  have uc : (u 0 8).toInt = 0 := by rw [← hu, rdA_eq rfl]; rfl
  refine ⟨fun x _ s t z => t = τ ∧ z = vs ∧ KRq σ s ∧ ∃ L, RCHq (byt f N) (0, []) (x.toInt, L) ∧ RMq s L ∧ (L.length : Int) ≤ x.toInt ∧ x.toInt ≤ N, ⟨rfl, rfl, ku, [], rch_0, ⟨uc, fun j k v q e => by cases e⟩, Int.le_refl _, h0⟩, ?_⟩
  rintro x ln s t z ⟨rfl, rfl, ks, L, g1, g2, g3, g4⟩
  have sf : s 1 = f := by rw [← hf]; exact funext (fun j => ks 1 j rfl rfl)
  have sN : (s 0 9).toInt = N := by rw [show s 0 9 = σ 0 9 from ks 0 9 rfl rfl]; exact hN
  have gn := g2.1
  refine ⟨fun c => pm_tok0 (k := 0) (v := 0) (p := (s 0 9).toInt) g2 (by omega) (by decide) rfl (fun h => absurd h (by decide)) (fun h => absurd h (by decide)) (fun r kr hr _ _ => kk r L _ 0 (kp_tr ks kr) g1 (Or.inl ⟨?_, rfl⟩) (fm_rm hr (by decide))), fun c => pm_look sf sN rfl (fun v hv => ?_)⟩
  · rw [byt, if_neg (by omega)]
    omega
  have hb : 0 ≤ byt f N x.toInt := byt_pos ⟨by omega, by omega⟩
  -- what stands behind one piece
  have J : ∀ (Qa : Int32 → Prop), (∀ w : Int32, ((w.toInt ≠ 0 ∧ AOq (byt f N x.toInt)) ∨ (w.toInt = 0 ∧ ¬ AOq (byt f N x.toInt))) → Qa w) → pp_isAllowed v s t z Qa := fun Qa h => pm_isAllowed (fun m => h 1 (Or.inl ⟨by decide, by omega⟩)) (fun m => h 0 (Or.inr ⟨rfl, by omega⟩))
  refine J _ (fun w35 hw35 => ⟨fun x5 r t1 z1 => t1 = t ∧ z1 = z ∧ KRq σ r ∧ ((∃ e L', x5.toInt = e ∧ RCHq (byt f N) (0, []) (e, L') ∧ RMq r L' ∧ (L'.length : Int) ≤ e ∧ e ≤ N ∧ ((r 0 8).toInt ≤ (s 0 8).toInt ∨ ((r 0 8).toInt = (L.length : Int) + 1 ∧ 2 ≤ (r 2 L.length).toInt))) ∨ (∃ q, RCHq (byt f N) (0, []) (q, L) ∧ FINq (byt f N) q 1 ∧ FMq r L 1)), ?_, ?_⟩)
  · rintro x5 r t1 z1 ⟨rfl, rfl, kr, h⟩
    have e1 : (r 0 8).toInt = (L.length : Int) + 1 → ((r 0 8) - (1 : Int32)).toNatClampNeg = L.length := fun h => by
      rw [nt', sbc i1 (by omega) (by omega), h]
      omega
    rcases h with ⟨e, L', q1, q2, q3, q4, q5, q6⟩ | ⟨q, q1, q2, q3⟩
    · refine ⟨True, fun _ => ⟨fun _ _ => True, trivial, ?_⟩, fun _ => trivial, fun c1 _ => ⟨fun _ => trivial, fun c2 => ?_⟩⟩
      · rintro y1 y2 -
        refine ⟨fun _ => ⟨rfl, rfl, kr, L', by rw [q1]; exact q2, q3, by omega, by omega⟩, fun _ => ?_⟩
        unfold pp_look
        exact ⟨fun _ => ⟨fun _ => True, fun _ _ => trivial, fun _ => trivial, fun _ => trivial⟩, fun _ _ => ⟨fun _ => True, fun _ _ => trivial, fun _ => trivial, fun _ => trivial⟩⟩
      · rcases q6 with q6 | ⟨q6, q7⟩
        · omega
        · rw [e1 q6] at c2
          omega
    · refine ⟨False, fun h => h.elim, fun c1 => ?_, fun c1 _ => ⟨fun c2 => ?_, fun _ => kk r L q 1 kr q1 q2 q3⟩⟩
      · have := q3.1
        omega
      · rw [e1 q3.1, q3.2.2] at c2
        exact c2 (by decide)
  · have bl : ∀ y : Int32, y.toInt ≤ N → BLq (byt f N) x.toInt y.toInt → (t = t ∧ z = z ∧ KRq σ s ∧ ((∃ e L', y.toInt = e ∧ RCHq (byt f N) (0, []) (e, L') ∧ RMq s L' ∧ (L'.length : Int) ≤ e ∧ e ≤ N ∧ ((s 0 8).toInt ≤ (s 0 8).toInt ∨ ((s 0 8).toInt = (L.length : Int) + 1 ∧ 2 ≤ (s 2 L.length).toInt))) ∨ (∃ q, RCHq (byt f N) (0, []) (q, L) ∧ FINq (byt f N) q 1 ∧ FMq s L 1))) := fun y hy hbl => by
      have := bl_up hbl
      exact ⟨rfl, rfl, ks, Or.inl ⟨y.toInt, L, rfl, rch_s g1 (Or.inl ⟨hbl, rfl⟩), g2, by omega, hy, Or.inl (Int.le_refl _)⟩⟩
    refine ⟨fun c1 => ?_, fun c1 => ?_⟩
    · refine ⟨¬ (byt f N x.toInt = 47 ∧ byt f N (x.toInt + 1) = 47), fun j1 => ⟨¬ CMq (byt f N) x.toInt, fun j2 => ?_, fun d => by omega, fun d => pm_look sf sN (i := x.toInt + 1) (ad0 i1 (by omega) (by omega)) (fun w hw => ⟨fun d2 => by omega, fun d2 => pm_remarkEnd sf sN h16 rfl (by omega) g2 (by omega) (by omega) (by omega) (fun y hy hbl => bl y hy hbl) (fun y r kr hbb hr => ⟨rfl, rfl, kp_tr ks kr, Or.inr ⟨_, g1, Or.inr ⟨Or.inl hbb, rfl⟩, hr⟩⟩)⟩)⟩, fun d => by omega, fun d => pm_look sf sN (i := x.toInt + 1) (ad0 i1 (by omega) (by omega)) (fun w hw => ⟨fun d2 => by omega, fun d2 => pm_lineEnd sf sN h16 rfl (by omega) g2 (by omega) (by omega) (by omega) (fun y hy hbl => bl y hy hbl) (fun y r kr hbb hr => ⟨rfl, rfl, kp_tr ks kr, Or.inr ⟨_, g1, Or.inr ⟨Or.inl hbb, rfl⟩, hr⟩⟩)⟩)⟩
      have nb : ¬ BKq v.toInt → ¬ BKq (byt f N x.toInt) := fun h => by omega
      refine pm_isBlank (fun m => ⟨fun _ => bl _ (by rw [ad0 i1 (by omega) (by omega)]; omega) ?_, fun z => absurd z (by decide)⟩) (fun m => ⟨fun z => absurd rfl z, fun _ => pm_one sf hB sN h16 rfl g2 (by omega) hb (fun r k v y kr ht hy hr e1 e2 => ⟨rfl, rfl, kp_tr ks kr, Or.inl ⟨y.toInt, _, rfl, rch_s g1 (Or.inr ⟨⟨hb, nb m, j2⟩, k, v, y.toInt, ht, rfl⟩), hr, ?_, hy, Or.inr ⟨e1, by rw [e2]; exact rk_ge (tok_k ht).1⟩⟩⟩) (fun y r kr hbad hr => ⟨rfl, rfl, kp_tr ks kr, Or.inr ⟨_, g1, Or.inr ⟨Or.inr ⟨⟨by omega, j2⟩, hbad⟩, rfl⟩, hr⟩⟩)⟩)
      · rw [ad0 i1 (by omega) (by omega), BLq, if_neg (by omega)]
        exact ⟨by omega, rfl⟩
      · have := tok_up ht
        rw [List.length_append]
        show ((L.length + 1 : Nat) : Int) ≤ y.toInt
        omega
    · have na : ¬ AOq (byt f N x.toInt) := by
        rcases hw35 with ⟨h, _⟩ | ⟨_, h⟩
        · exact absurd c1 h
        · exact h
      obtain ⟨m1, m2⟩ := na_bad hb na
      refine pm_tok0 (k := 1) (v := 0) (p := x.toInt) g2 (by omega) (by decide) rfl (fun h => absurd h (by decide)) (fun h => absurd h (by decide)) (fun r kr hr _ _ => ⟨rfl, rfl, kp_tr ks kr, Or.inr ⟨_, g1, Or.inr ⟨Or.inr ⟨m1, m2⟩, rfl⟩, fm_rm hr (by decide)⟩⟩)
end TN
end

section
/-! the grammar of expressions, as a function of the tokens' kinds: the steps -/
abbrev Stq : Type := Int × Nat × Int × Int
def stp (a : Int) (p : Nat) : Stq := (a, p, 0, 0)
def lvq (s : Int) : Int := if 41 ≤ s ∧ s ≤ 58 then (gC 0 (s - 41).toNat).toInt else 0
abbrev UNq (k : Int) : Prop := k = 44 ∨ k = 59 ∨ k = 60 ∨ k = 45 ∨ k = 48 ∨ k = 61 ∨ k = 62
/-- stars from p on: how many, and where they end; none behind the fifth -/
def SRq (kd : Nat → Int) : Nat → Nat → Option (Nat × Nat)
  | 0, p => if kd p = 45 then none else some (0, p)
  | n + 1, p => if kd p = 45 then (SRq kd n (p + 1)).bind fun r => some (r.1 + 1, r.2) else some (0, p)
def PEq (kd : Nat → Int) : Nat → Nat → Nat → Nat → Nat → List Stq → Option (Nat × List Stq)
  | 0, _, _, _, _, _ => none
  | n + 1, sel, d, m, p, L =>
    match sel with
    | 0 => (PEq kd n 1 d 0 p L).bind fun r => if 30 ≤ kd r.1 ∧ kd r.1 ≤ 40 then (if d < 25 then (PEq kd n 0 (d + 1) 0 (r.1 + 1) (r.2 ++ [stp 7 r.1])).bind fun r2 => some (r2.1, r2.2 ++ [stp 9 r.1]) else none) else some r
    | 1 => (PEq kd n 7 d 1 p L).bind fun r => if kd r.1 = 28 then (if d < 25 then (PEq kd n 0 (d + 1) 0 (r.1 + 1) (r.2 ++ [stp 14 r.1])).bind fun r2 => if kd r2.1 = 29 then (PEq kd n 1 (d + 1) 0 (r2.1 + 1) (r2.2 ++ [stp 15 r.1])).bind fun r3 => some (r3.1, r3.2 ++ [stp 16 r.1]) else none else none) else some r
    | 2 => if UNq (kd p) then (if d < 25 then (PEq kd n 2 (d + 1) 0 (p + 1) L).bind fun r => some (r.1, r.2 ++ [stp 11 p]) else none)
      else if kd p = 20 ∧ kd (p + 1) = 5 then (if d < 25 then (SRq kd 5 (p + 2)).bind fun t => if kd t.2 = 21 then (PEq kd n 2 (d + 1) 0 (t.2 + 1) L).bind fun r => some (r.1, r.2 ++ [(12, p, (t.1 : Int), 0)]) else none else none)
      else (PEq kd n 4 d 0 p L).bind fun r => PEq kd n 6 d 0 r.1 r.2
    | 4 => if kd p = 3 then some (p + 1, L ++ [stp 1 p]) else if kd p = 4 then some (p + 1, L ++ [stp 2 p])
      else if kd p = 2 then (if kd (p + 1) = 20 then (if d < 25 then (if kd (p + 2) = 21 then some (p + 3, L ++ [stp 4 p] ++ [stp 6 p]) else PEq kd n 5 d p (p + 2) (L ++ [stp 4 p])) else none) else some (p + 1, L ++ [stp 3 p]))
      else if kd p = 20 then (if d < 25 then (PEq kd n 0 (d + 1) 0 (p + 1) L).bind fun r => if kd r.1 = 21 then some (r.1 + 1, r.2) else none else none) else none
    | 5 => (PEq kd n 0 (d + 1) 0 p L).bind fun r => if kd r.1 = 26 then PEq kd n 5 d m (r.1 + 1) (r.2 ++ [stp 5 m]) else if kd r.1 = 21 then some (r.1 + 1, r.2 ++ [stp 5 m] ++ [stp 6 m]) else none
    | 6 => if kd p = 24 then (if d < 25 then (PEq kd n 0 (d + 1) 0 (p + 1) (L ++ [stp 7 p])).bind fun r => if kd r.1 = 25 then PEq kd n 6 d 0 (r.1 + 1) (r.2 ++ [stp 10 p]) else none else none)
      else if kd p = 61 ∨ kd p = 62 then PEq kd n 6 d 0 (p + 1) (L ++ [stp 13 p]) else some (p, L)
    | 7 => (PEq kd n 2 d 0 p L).bind fun r => PEq kd n 8 d m r.1 r.2
    | 8 => if (m : Int) ≤ lvq (kd p) then (PEq kd n 7 d ((lvq (kd p)).toNat + 1) (p + 1) (L ++ [stp 7 p])).bind fun r => PEq kd n 8 d m r.1 (r.2 ++ [stp 8 p]) else some (p, L)
    | _ => none
/-- what it is, given turns enough -/
def PVq (kd : Nat → Int) (sel d m p : Nat) (L : List Stq) (R : Option (Nat × List Stq)) : Prop := ∃ N, ∀ n, N ≤ n → PEq kd n sel d m p L = R
section PV
variable {kd : Nat → Int} {sel d m p p1 p2 t : Nat} {L L1 L2 : List Stq} {R R1 R2 : Option (Nat × List Stq)}
theorem pv_one (h : PVq kd sel d m p L R1) (g : PVq kd sel d m p L R2) : R1 = R2 := by
  obtain ⟨N, h⟩ := h
  obtain ⟨M, g⟩ := g
  rw [← h (N + M) (by omega), g (N + M) (by omega)]
theorem pv_up (h : ∃ N, ∀ n, N ≤ n → PEq kd (n + 1) sel d m p L = R) : PVq kd sel d m p L R := by
  obtain ⟨N, h⟩ := h
  refine ⟨N + 1, fun n hn => ?_⟩
  obtain ⟨n', rfl⟩ : ∃ n', n = n' + 1 := ⟨n - 1, by omega⟩
  exact h n' (by omega)
theorem peq_0 {n : Nat} : PEq kd (n + 1) 0 d m p L = ((PEq kd n 1 d 0 p L).bind fun r => if 30 ≤ kd r.1 ∧ kd r.1 ≤ 40 then (if d < 25 then (PEq kd n 0 (d + 1) 0 (r.1 + 1) (r.2 ++ [stp 7 r.1])).bind fun r2 => some (r2.1, r2.2 ++ [stp 9 r.1]) else none) else some r) := rfl
theorem peq_1 {n : Nat} : PEq kd (n + 1) 1 d m p L = ((PEq kd n 7 d 1 p L).bind fun r => if kd r.1 = 28 then (if d < 25 then (PEq kd n 0 (d + 1) 0 (r.1 + 1) (r.2 ++ [stp 14 r.1])).bind fun r2 => if kd r2.1 = 29 then (PEq kd n 1 (d + 1) 0 (r2.1 + 1) (r2.2 ++ [stp 15 r.1])).bind fun r3 => some (r3.1, r3.2 ++ [stp 16 r.1]) else none else none) else some r) := rfl
theorem peq_2 {n : Nat} : PEq kd (n + 1) 2 d m p L = (if UNq (kd p) then (if d < 25 then (PEq kd n 2 (d + 1) 0 (p + 1) L).bind fun r => some (r.1, r.2 ++ [stp 11 p]) else none)
      else if kd p = 20 ∧ kd (p + 1) = 5 then (if d < 25 then (SRq kd 5 (p + 2)).bind fun t => if kd t.2 = 21 then (PEq kd n 2 (d + 1) 0 (t.2 + 1) L).bind fun r => some (r.1, r.2 ++ [(12, p, (t.1 : Int), 0)]) else none else none)
      else (PEq kd n 4 d 0 p L).bind fun r => PEq kd n 6 d 0 r.1 r.2) := rfl
theorem peq_4 {n : Nat} : PEq kd (n + 1) 4 d m p L = (if kd p = 3 then some (p + 1, L ++ [stp 1 p]) else if kd p = 4 then some (p + 1, L ++ [stp 2 p])
      else if kd p = 2 then (if kd (p + 1) = 20 then (if d < 25 then (if kd (p + 2) = 21 then some (p + 3, L ++ [stp 4 p] ++ [stp 6 p]) else PEq kd n 5 d p (p + 2) (L ++ [stp 4 p])) else none) else some (p + 1, L ++ [stp 3 p]))
      else if kd p = 20 then (if d < 25 then (PEq kd n 0 (d + 1) 0 (p + 1) L).bind fun r => if kd r.1 = 21 then some (r.1 + 1, r.2) else none else none) else none) := rfl
theorem peq_5 {n : Nat} : PEq kd (n + 1) 5 d m p L = ((PEq kd n 0 (d + 1) 0 p L).bind fun r => if kd r.1 = 26 then PEq kd n 5 d m (r.1 + 1) (r.2 ++ [stp 5 m]) else if kd r.1 = 21 then some (r.1 + 1, r.2 ++ [stp 5 m] ++ [stp 6 m]) else none) := rfl
theorem peq_6 {n : Nat} : PEq kd (n + 1) 6 d m p L = (if kd p = 24 then (if d < 25 then (PEq kd n 0 (d + 1) 0 (p + 1) (L ++ [stp 7 p])).bind fun r => if kd r.1 = 25 then PEq kd n 6 d 0 (r.1 + 1) (r.2 ++ [stp 10 p]) else none else none)
      else if kd p = 61 ∨ kd p = 62 then PEq kd n 6 d 0 (p + 1) (L ++ [stp 13 p]) else some (p, L)) := rfl
theorem peq_7 {n : Nat} : PEq kd (n + 1) 7 d m p L = ((PEq kd n 2 d 0 p L).bind fun r => PEq kd n 8 d m r.1 r.2) := rfl
theorem peq_8 {n : Nat} : PEq kd (n + 1) 8 d m p L = (if (m : Int) ≤ lvq (kd p) then (PEq kd n 7 d ((lvq (kd p)).toNat + 1) (p + 1) (L ++ [stp 7 p])).bind fun r => PEq kd n 8 d m r.1 (r.2 ++ [stp 8 p]) else some (p, L)) := rfl
-- expression
theorem pv_e0 (h : PVq kd 1 d 0 p L none) : PVq kd 0 d m p L none := by
  obtain ⟨N, h⟩ := h
  exact pv_up ⟨N, fun n hn => by rw [peq_0, h n hn]; rfl⟩
theorem pv_e1 (h : PVq kd 1 d 0 p L (some (p1, L1))) (c : ¬ (30 ≤ kd p1 ∧ kd p1 ≤ 40)) : PVq kd 0 d m p L (some (p1, L1)) := by
  obtain ⟨N, h⟩ := h
  exact pv_up ⟨N, fun n hn => by rw [peq_0, h n hn]; exact if_neg c⟩
theorem pv_e2 (h : PVq kd 1 d 0 p L (some (p1, L1))) (c : 30 ≤ kd p1 ∧ kd p1 ≤ 40) (hd : ¬ d < 25) : PVq kd 0 d m p L none := by
  obtain ⟨N, h⟩ := h
  exact pv_up ⟨N, fun n hn => by rw [peq_0, h n hn]; exact (if_pos c).trans (if_neg hd)⟩
theorem pv_e3 (h : PVq kd 1 d 0 p L (some (p1, L1))) (c : 30 ≤ kd p1 ∧ kd p1 ≤ 40) (hd : d < 25) (h2 : PVq kd 0 (d + 1) 0 (p1 + 1) (L1 ++ [stp 7 p1]) R) : PVq kd 0 d m p L (R.bind fun r2 => some (r2.1, r2.2 ++ [stp 9 p1])) := by
  obtain ⟨N, h⟩ := h
  obtain ⟨M, h2⟩ := h2
  exact pv_up ⟨N + M, fun n hn => by rw [peq_0, h n (by omega)]; exact (if_pos c).trans ((if_pos hd).trans (by rw [h2 n (by omega)]))⟩
-- choice
theorem pv_c0 (h : PVq kd 7 d 1 p L none) : PVq kd 1 d m p L none := by
  obtain ⟨N, h⟩ := h
  exact pv_up ⟨N, fun n hn => by rw [peq_1, h n hn]; rfl⟩
theorem pv_c1 (h : PVq kd 7 d 1 p L (some (p1, L1))) (c : kd p1 ≠ 28) : PVq kd 1 d m p L (some (p1, L1)) := by
  obtain ⟨N, h⟩ := h
  exact pv_up ⟨N, fun n hn => by rw [peq_1, h n hn]; exact if_neg c⟩
theorem pv_c2 (h : PVq kd 7 d 1 p L (some (p1, L1))) (c : kd p1 = 28) (hd : ¬ d < 25) : PVq kd 1 d m p L none := by
  obtain ⟨N, h⟩ := h
  exact pv_up ⟨N, fun n hn => by rw [peq_1, h n hn]; exact (if_pos c).trans (if_neg hd)⟩
theorem pv_c3 (h : PVq kd 7 d 1 p L (some (p1, L1))) (c : kd p1 = 28) (hd : d < 25) (h2 : PVq kd 0 (d + 1) 0 (p1 + 1) (L1 ++ [stp 14 p1]) none) : PVq kd 1 d m p L none := by
  obtain ⟨N, h⟩ := h
  obtain ⟨M, h2⟩ := h2
  exact pv_up ⟨N + M, fun n hn => by rw [peq_1, h n (by omega)]; exact (if_pos c).trans ((if_pos hd).trans (by rw [h2 n (by omega)]; rfl))⟩
theorem pv_c4 (h : PVq kd 7 d 1 p L (some (p1, L1))) (c : kd p1 = 28) (hd : d < 25) (h2 : PVq kd 0 (d + 1) 0 (p1 + 1) (L1 ++ [stp 14 p1]) (some (p2, L2))) (c2 : kd p2 ≠ 29) : PVq kd 1 d m p L none := by
  obtain ⟨N, h⟩ := h
  obtain ⟨M, h2⟩ := h2
  exact pv_up ⟨N + M, fun n hn => by rw [peq_1, h n (by omega)]; exact (if_pos c).trans ((if_pos hd).trans (by rw [h2 n (by omega)]; exact if_neg c2))⟩
theorem pv_c5 (h : PVq kd 7 d 1 p L (some (p1, L1))) (c : kd p1 = 28) (hd : d < 25) (h2 : PVq kd 0 (d + 1) 0 (p1 + 1) (L1 ++ [stp 14 p1]) (some (p2, L2))) (c2 : kd p2 = 29) (h3 : PVq kd 1 (d + 1) 0 (p2 + 1) (L2 ++ [stp 15 p1]) R) : PVq kd 1 d m p L (R.bind fun r3 => some (r3.1, r3.2 ++ [stp 16 p1])) := by
  obtain ⟨N, h⟩ := h
  obtain ⟨M, h2⟩ := h2
  obtain ⟨O, h3⟩ := h3
  exact pv_up ⟨N + M + O, fun n hn => by rw [peq_1, h n (by omega)]; exact (if_pos c).trans ((if_pos hd).trans (by rw [h2 n (by omega)]; exact (if_pos c2).trans (by rw [h3 n (by omega)])))⟩
-- unary
theorem pv_u0 (c : UNq (kd p)) (hd : ¬ d < 25) : PVq kd 2 d m p L none := pv_up ⟨0, fun n _ => by rw [peq_2, if_pos c, if_neg hd]⟩
theorem pv_u1 (c : UNq (kd p)) (hd : d < 25) (h : PVq kd 2 (d + 1) 0 (p + 1) L R) : PVq kd 2 d m p L (R.bind fun r => some (r.1, r.2 ++ [stp 11 p])) := by
  obtain ⟨N, h⟩ := h
  exact pv_up ⟨N, fun n hn => by rw [peq_2, if_pos c, if_pos hd, h n hn]⟩
theorem pv_t0 (c : kd p = 20 ∧ kd (p + 1) = 5) (hd : ¬ d < 25) : PVq kd 2 d m p L none := pv_up ⟨0, fun n _ => by rw [peq_2, if_neg (by omega), if_pos c, if_neg hd]⟩
theorem pv_t1 (c : kd p = 20 ∧ kd (p + 1) = 5) (hd : d < 25) (hs : SRq kd 5 (p + 2) = none) : PVq kd 2 d m p L none := pv_up ⟨0, fun n _ => by rw [peq_2, if_neg (by omega), if_pos c, if_pos hd, hs]; rfl⟩
theorem pv_t2 (c : kd p = 20 ∧ kd (p + 1) = 5) (hd : d < 25) (hs : SRq kd 5 (p + 2) = some (t, p1)) (c2 : kd p1 ≠ 21) : PVq kd 2 d m p L none := pv_up ⟨0, fun n _ => by rw [peq_2, if_neg (by omega), if_pos c, if_pos hd, hs]; exact if_neg c2⟩
theorem pv_t3 (c : kd p = 20 ∧ kd (p + 1) = 5) (hd : d < 25) (hs : SRq kd 5 (p + 2) = some (t, p1)) (c2 : kd p1 = 21) (h : PVq kd 2 (d + 1) 0 (p1 + 1) L R) : PVq kd 2 d m p L (R.bind fun r => some (r.1, r.2 ++ [(12, p, (t : Int), 0)])) := by
  obtain ⟨N, h⟩ := h
  exact pv_up ⟨N, fun n hn => by rw [peq_2, if_neg (by omega), if_pos c, if_pos hd, hs]; exact (if_pos c2).trans (by rw [h n hn])⟩
theorem pv_b0 (c : ¬ UNq (kd p)) (c2 : ¬ (kd p = 20 ∧ kd (p + 1) = 5)) (h : PVq kd 4 d 0 p L none) : PVq kd 2 d m p L none := by
  obtain ⟨N, h⟩ := h
  exact pv_up ⟨N, fun n hn => by rw [peq_2, if_neg c, if_neg c2, h n hn]; rfl⟩
theorem pv_b1 (c : ¬ UNq (kd p)) (c2 : ¬ (kd p = 20 ∧ kd (p + 1) = 5)) (h : PVq kd 4 d 0 p L (some (p1, L1))) (h2 : PVq kd 6 d 0 p1 L1 R) : PVq kd 2 d m p L R := by
  obtain ⟨N, h⟩ := h
  obtain ⟨M, h2⟩ := h2
  exact pv_up ⟨N + M, fun n hn => by rw [peq_2, if_neg c, if_neg c2, h n (by omega)]; exact h2 n (by omega)⟩
-- primary
theorem pv_p3 (c : kd p = 3) : PVq kd 4 d m p L (some (p + 1, L ++ [stp 1 p])) := pv_up ⟨0, fun n _ => by rw [peq_4, if_pos c]⟩
theorem pv_p4 (c : kd p = 4) : PVq kd 4 d m p L (some (p + 1, L ++ [stp 2 p])) := pv_up ⟨0, fun n _ => by rw [peq_4, if_neg (by omega), if_pos c]⟩
theorem pv_p2 (c : kd p = 2) (c2 : kd (p + 1) ≠ 20) : PVq kd 4 d m p L (some (p + 1, L ++ [stp 3 p])) := pv_up ⟨0, fun n _ => by rw [peq_4, if_neg (by omega), if_neg (by omega), if_pos c, if_neg c2]⟩
theorem pv_k0 (c : kd p = 2) (c2 : kd (p + 1) = 20) (hd : ¬ d < 25) : PVq kd 4 d m p L none := pv_up ⟨0, fun n _ => by rw [peq_4, if_neg (by omega), if_neg (by omega), if_pos c, if_pos c2, if_neg hd]⟩
theorem pv_k1 (c : kd p = 2) (c2 : kd (p + 1) = 20) (hd : d < 25) (c3 : kd (p + 2) = 21) : PVq kd 4 d m p L (some (p + 3, L ++ [stp 4 p] ++ [stp 6 p])) := pv_up ⟨0, fun n _ => by rw [peq_4, if_neg (by omega), if_neg (by omega), if_pos c, if_pos c2, if_pos hd, if_pos c3]⟩
theorem pv_k2 (c : kd p = 2) (c2 : kd (p + 1) = 20) (hd : d < 25) (c3 : kd (p + 2) ≠ 21) (h : PVq kd 5 d p (p + 2) (L ++ [stp 4 p]) R) : PVq kd 4 d m p L R := by
  obtain ⟨N, h⟩ := h
  exact pv_up ⟨N, fun n hn => by rw [peq_4, if_neg (by omega), if_neg (by omega), if_pos c, if_pos c2, if_pos hd, if_neg c3, h n hn]⟩
theorem pv_r0 (c : kd p = 20) (hd : ¬ d < 25) : PVq kd 4 d m p L none := pv_up ⟨0, fun n _ => by rw [peq_4, if_neg (by omega), if_neg (by omega), if_neg (by omega), if_pos c, if_neg hd]⟩
theorem pv_r1 (c : kd p = 20) (hd : d < 25) (h : PVq kd 0 (d + 1) 0 (p + 1) L none) : PVq kd 4 d m p L none := by
  obtain ⟨N, h⟩ := h
  exact pv_up ⟨N, fun n hn => by rw [peq_4, if_neg (by omega), if_neg (by omega), if_neg (by omega), if_pos c, if_pos hd, h n hn]; rfl⟩
theorem pv_r2 (c : kd p = 20) (hd : d < 25) (h : PVq kd 0 (d + 1) 0 (p + 1) L (some (p1, L1))) (c2 : kd p1 ≠ 21) : PVq kd 4 d m p L none := by
  obtain ⟨N, h⟩ := h
  exact pv_up ⟨N, fun n hn => by rw [peq_4, if_neg (by omega), if_neg (by omega), if_neg (by omega), if_pos c, if_pos hd, h n hn]; exact if_neg c2⟩
theorem pv_r3 (c : kd p = 20) (hd : d < 25) (h : PVq kd 0 (d + 1) 0 (p + 1) L (some (p1, L1))) (c2 : kd p1 = 21) : PVq kd 4 d m p L (some (p1 + 1, L1)) := by
  obtain ⟨N, h⟩ := h
  exact pv_up ⟨N, fun n hn => by rw [peq_4, if_neg (by omega), if_neg (by omega), if_neg (by omega), if_pos c, if_pos hd, h n hn]; exact if_pos c2⟩
theorem pv_n (c : kd p ≠ 2 ∧ kd p ≠ 3 ∧ kd p ≠ 4 ∧ kd p ≠ 20) : PVq kd 4 d m p L none := pv_up ⟨0, fun n _ => by rw [peq_4, if_neg (by omega), if_neg (by omega), if_neg (by omega), if_neg (by omega)]⟩
-- arguments
theorem pv_a0 (h : PVq kd 0 (d + 1) 0 p L none) : PVq kd 5 d m p L none := by
  obtain ⟨N, h⟩ := h
  exact pv_up ⟨N, fun n hn => by rw [peq_5, h n hn]; rfl⟩
theorem pv_a1 (h : PVq kd 0 (d + 1) 0 p L (some (p1, L1))) (c : kd p1 = 26) (h2 : PVq kd 5 d m (p1 + 1) (L1 ++ [stp 5 m]) R) : PVq kd 5 d m p L R := by
  obtain ⟨N, h⟩ := h
  obtain ⟨M, h2⟩ := h2
  exact pv_up ⟨N + M, fun n hn => by rw [peq_5, h n (by omega)]; exact (if_pos c).trans (h2 n (by omega))⟩
theorem pv_a2 (h : PVq kd 0 (d + 1) 0 p L (some (p1, L1))) (c : kd p1 = 21) : PVq kd 5 d m p L (some (p1 + 1, L1 ++ [stp 5 m] ++ [stp 6 m])) := by
  obtain ⟨N, h⟩ := h
  exact pv_up ⟨N, fun n hn => by rw [peq_5, h n hn]; exact (if_neg (by show ¬ kd p1 = 26; omega)).trans (if_pos c)⟩
theorem pv_a3 (h : PVq kd 0 (d + 1) 0 p L (some (p1, L1))) (c : kd p1 ≠ 26) (c2 : kd p1 ≠ 21) : PVq kd 5 d m p L none := by
  obtain ⟨N, h⟩ := h
  exact pv_up ⟨N, fun n hn => by rw [peq_5, h n hn]; exact (if_neg c).trans (if_neg c2)⟩
-- behind
theorem pv_h0 (c : kd p = 24) (hd : ¬ d < 25) : PVq kd 6 d m p L none := pv_up ⟨0, fun n _ => by rw [peq_6, if_pos c, if_neg hd]⟩
theorem pv_h1 (c : kd p = 24) (hd : d < 25) (h : PVq kd 0 (d + 1) 0 (p + 1) (L ++ [stp 7 p]) none) : PVq kd 6 d m p L none := by
  obtain ⟨N, h⟩ := h
  exact pv_up ⟨N, fun n hn => by rw [peq_6, if_pos c, if_pos hd, h n hn]; rfl⟩
theorem pv_h2 (c : kd p = 24) (hd : d < 25) (h : PVq kd 0 (d + 1) 0 (p + 1) (L ++ [stp 7 p]) (some (p1, L1))) (c2 : kd p1 ≠ 25) : PVq kd 6 d m p L none := by
  obtain ⟨N, h⟩ := h
  exact pv_up ⟨N, fun n hn => by rw [peq_6, if_pos c, if_pos hd, h n hn]; exact if_neg c2⟩
theorem pv_h3 (c : kd p = 24) (hd : d < 25) (h : PVq kd 0 (d + 1) 0 (p + 1) (L ++ [stp 7 p]) (some (p1, L1))) (c2 : kd p1 = 25) (h2 : PVq kd 6 d 0 (p1 + 1) (L1 ++ [stp 10 p]) R) : PVq kd 6 d m p L R := by
  obtain ⟨N, h⟩ := h
  obtain ⟨M, h2⟩ := h2
  exact pv_up ⟨N + M, fun n hn => by rw [peq_6, if_pos c, if_pos hd, h n (by omega)]; exact (if_pos c2).trans (h2 n (by omega))⟩
theorem pv_h4 (c : kd p = 61 ∨ kd p = 62) (h : PVq kd 6 d 0 (p + 1) (L ++ [stp 13 p]) R) : PVq kd 6 d m p L R := by
  obtain ⟨N, h⟩ := h
  exact pv_up ⟨N, fun n hn => by rw [peq_6, if_neg (by omega), if_pos c, h n hn]⟩
theorem pv_h5 (c : kd p ≠ 24 ∧ kd p ≠ 61 ∧ kd p ≠ 62) : PVq kd 6 d m p L (some (p, L)) := pv_up ⟨0, fun n _ => by rw [peq_6, if_neg c.1, if_neg (by omega)]⟩
-- two sides
theorem pv_l0 (h : PVq kd 2 d 0 p L none) : PVq kd 7 d m p L none := by
  obtain ⟨N, h⟩ := h
  exact pv_up ⟨N, fun n hn => by rw [peq_7, h n hn]; rfl⟩
theorem pv_l1 (h : PVq kd 2 d 0 p L (some (p1, L1))) (h2 : PVq kd 8 d m p1 L1 R) : PVq kd 7 d m p L R := by
  obtain ⟨N, h⟩ := h
  obtain ⟨M, h2⟩ := h2
  exact pv_up ⟨N + M, fun n hn => by rw [peq_7, h n (by omega)]; exact h2 n (by omega)⟩
theorem pv_l2 (c : ¬ (m : Int) ≤ lvq (kd p)) : PVq kd 8 d m p L (some (p, L)) := pv_up ⟨0, fun n _ => by rw [peq_8, if_neg c]⟩
theorem pv_l3 (c : (m : Int) ≤ lvq (kd p)) (h : PVq kd 7 d ((lvq (kd p)).toNat + 1) (p + 1) (L ++ [stp 7 p]) none) : PVq kd 8 d m p L none := by
  obtain ⟨N, h⟩ := h
  exact pv_up ⟨N, fun n hn => by rw [peq_8, if_pos c, h n hn]; rfl⟩
theorem pv_l4 (c : (m : Int) ≤ lvq (kd p)) (h : PVq kd 7 d ((lvq (kd p)).toNat + 1) (p + 1) (L ++ [stp 7 p]) (some (p1, L1))) (h2 : PVq kd 8 d m p1 (L1 ++ [stp 8 p]) R) : PVq kd 8 d m p L R := by
  obtain ⟨N, h⟩ := h
  obtain ⟨M, h2⟩ := h2
  exact pv_up ⟨N + M, fun n hn => by rw [peq_8, if_pos c, h n (by omega)]; exact h2 n (by omega)⟩
end PV
end

section
/-! the class's grammar: small methods -/
abbrev KGq (a b : St) : Prop := Kp [(3, 1), (3, 2), (3, 3), (3, 4), (3, 9)] [18, 19, 20, 21, 22, 23] a b
/-- the tokens' kinds: n of them, then the end or what is none -/
def TKd (σ : St) (kd : Nat → Int) (n : Nat) : Prop := (σ 2 4).toInt = (n : Int) + 1 ∧ n ≤ 16000 ∧ (∀ p, p ≤ n → (σ 13 p).toInt = kd p) ∧ (∀ p, n < p → kd p = 0) ∧ (∀ p, p < n → 2 ≤ kd p ∧ kd p ≤ 62) ∧ (kd n = 0 ∨ kd n = 1)
/-- the steps that are put -/
def TBL (s : St) (L : List Stq) : Prop := (s 3 4).toInt = (L.length : Int) ∧ ∀ (i : Nat) (a : Int) (p : Nat) (x y : Int), L[i]? = some (a, p, x, y) → (s 18 i).toInt = a ∧ (s 19 i).toInt = (p : Int) ∧ (s 20 i).toInt = x ∧ (s 21 i).toInt = y
def GSt (kd : Nat → Int) (n : Nat) (s : St) (p : Nat) (L : List Stq) : Prop := (s 3 3).toInt < 0 ∧ (s 3 1).toInt = (p : Int) ∧ p ≤ n ∧ (s 3 2).toInt = kd p ∧ TBL s L
def GBd (s : St) : Prop := 0 ≤ (s 3 3).toInt ∧ (s 3 2).toInt = -1
def PSq (σ s : St) : Prop := s 3 9 = σ 3 9 ∧ ∀ j : Nat, (j : Int) < (σ 3 9).toInt → s 22 j = σ 22 j
abbrev KXq : Type := Int32 → St → (St → Prop) → Prop
section GSM
variable {kd : Nat → Int} {n p q : Nat} {σ s t : St} {L : List Stq} {x a1 a2 a3 a4 : Int32}
theorem tkd_k (k : KGq σ s) (h : TKd σ kd n) : TKd s kd n := by
  have e4 : s 2 4 = σ 2 4 := k 2 4 rfl rfl
  have e13 : s 13 = σ 13 := funext (fun j => k 13 j rfl rfl)
  unfold TKd
  rw [e4, e13]
  exact h
theorem psq_rf : PSq σ σ := ⟨rfl, fun _ _ => rfl⟩
theorem psq_tr (h : PSq σ s) (g : PSq s t) : PSq σ t := ⟨g.1.trans h.1, fun j hj => (g.2 j (by rw [h.1]; exact hj)).trans (h.2 j hj)⟩
theorem psq_k {fs : List (Nat × Nat)} {cs : List Nat} (k : Kp fs cs σ s) (h1 : fs.contains (3, 9) = false ∧ cs.contains 3 = false) (h2 : cs.contains 22 = false) (h3 : ∀ j, fs.contains (22, j) = false) : PSq σ s := ⟨k 3 9 h1.1 h1.2, fun j _ => k 22 j (h3 j) h2⟩
theorem gst_kd (tk : TKd σ kd n) (g : GSt kd n σ p L) (h : 2 ≤ kd p) : p < n := by
  by_cases c : p = n
  · have := tk.2.2.2.2.2
    rw [c] at h
    omega
  · have := g.2.2.1
    omega
theorem kd_r (tk : TKd σ kd n) (p : Nat) : 0 ≤ kd p ∧ kd p ≤ 62 := by
  by_cases c : p < n
  · have := tk.2.2.2.2.1 p c
    omega
  · by_cases c2 : p = n
    · have := tk.2.2.2.2.2
      rw [c2]
      omega
    · rw [tk.2.2.2.1 p (by omega)]
      omega
theorem tbl_k (h : TBL σ L) (k : Kp [(3, 1), (3, 2), (3, 3), (3, 9)] [22, 23] σ s) : TBL s L := by
  refine ⟨by rw [show s 3 4 = σ 3 4 from k 3 4 rfl rfl]; exact h.1, fun i a p x y e => ?_⟩
  rw [show s 18 i = σ 18 i from k 18 i rfl rfl, show s 19 i = σ 19 i from k 19 i rfl rfl, show s 20 i = σ 20 i from k 20 i rfl rfl, show s 21 i = σ 21 i from k 21 i rfl rfl]
  exact h.2 i a p x y e
theorem gst_k (h : GSt kd n σ p L) (k : Kp [(3, 9)] [22, 23] σ s) : GSt kd n s p L := by
  obtain ⟨h1, h2, h3, h4, h5⟩ := h
  refine ⟨by rw [show s 3 3 = σ 3 3 from k 3 3 rfl rfl]; exact h1, by rw [show s 3 1 = σ 3 1 from k 3 1 rfl rfl]; exact h2, h3, by rw [show s 3 2 = σ 3 2 from k 3 2 rfl rfl]; exact h4, tbl_k h5 (kp_sub k rfl rfl)⟩
theorem gbd_k (h : GBd σ) (k : Kp [(3, 1), (3, 4), (3, 9)] [18, 19, 20, 21, 22, 23] σ s) : GBd s := by
  refine ⟨by rw [show s 3 3 = σ 3 3 from k 3 3 rfl rfl]; exact h.1, by rw [show s 3 2 = σ 3 2 from k 3 2 rfl rfl]; exact h.2⟩
theorem pg_adv {Q : St → Prop} (tk : TKd σ kd n) (g : GSt kd n σ p L) (hk : 2 ≤ kd p) (k : ∀ s, Kp [(3, 1), (3, 2)] [] σ s → GSt kd n s (p + 1) L → Q s) : pk_X3_advance σ Q := by
  have hp := gst_kd tk g hk
  have h16 := tk.2.1
  obtain ⟨g1, g2, g3, g4, g5⟩ := g
  have e1 : ((σ 3 1) + (1 : Int32)).toInt = (p : Int) + 1 := by rw [ad0 i1 (by omega) (by omega), g2]
  have tk1 := tk.1
  unfold pk_X3_advance
  refine ⟨fun y => y.toInt = 1, fun y _ hy => ⟨fun c => by omega, fun _ _ => k _ (kp_f (kp_f kp_rf rfl) rfl) ⟨?_, ?_, by omega, ?_, ?_⟩⟩, False, fun f => f.elim, fun c => by omega, fun _ => ⟨fun c => by omega, fun _ => ⟨fun c => by omega, fun _ => rfl⟩⟩⟩
  · rw [rdA_ne (by decide), rdA_ne (by decide)]
    exact g1
  · rw [rdA_ne (by decide), rdA_eq rfl, e1]
    rfl
  · rw [rdA_eq rfl, show ((σ 3 1) + (1 : Int32)).toNatClampNeg = p + 1 from by rw [nt', e1]; omega]
    exact tk.2.2.1 (p + 1) (by omega)
  · exact tbl_k g5 (kp_f (kp_f kp_rf rfl) rfl)
theorem pg_fail {Q : St → Prop} (g : GSt kd n σ p L) (k : ∀ s, Kp [(3, 2), (3, 3)] [] σ s → GBd s → Q s) : pk_X3_fail σ Q := by
  obtain ⟨g1, g2, g3, g4, g5⟩ := g
  unfold pk_X3_fail
  refine ⟨fun c => by omega, fun _ => k _ (kp_f (kp_f kp_rf rfl) rfl) ⟨?_, ?_⟩⟩
  · rw [rdA_ne (by decide), rdA_eq rfl]
    omega
  · rw [rdA_eq rfl]
    decide
theorem jk_fail {Q : St → Prop} (g : GBd σ) (k : ∀ s, KGq σ s → GBd s → Q s) : pk_X3_fail σ Q := by
  unfold pk_X3_fail
  refine ⟨fun c => k _ (kp_f kp_rf rfl) ⟨?_, ?_⟩, fun c => absurd c (by have := g.1; omega)⟩
  · rw [rdA_ne (by decide)]
    exact c
  · rw [rdA_eq rfl]
    decide
theorem pg_expect {Q : St → Prop} (tk : TKd σ kd n) (g : GSt kd n σ p L) (hx : 2 ≤ x.toInt) (k1 : ∀ s, Kp [(3, 1), (3, 2)] [] σ s → kd p = x.toInt → GSt kd n s (p + 1) L → Q s) (k0 : ∀ s, Kp [(3, 2), (3, 3)] [] σ s → kd p ≠ x.toInt → GBd s → Q s) : pk_X3_expect x σ Q := by
  have e := g.2.2.2.1
  unfold pk_X3_expect
  exact ⟨fun c => pg_fail g (fun s ks gb => k0 s ks (by omega) gb), fun c => pg_adv tk g (by omega) (fun s ks gs => k1 s ks (by omega) gs)⟩
theorem jk_expect {Q : St → Prop} (g : GBd σ) (hx : 0 ≤ x.toInt) (k : ∀ s, KGq σ s → GBd s → Q s) : pk_X3_expect x σ Q := by
  unfold pk_X3_expect
  exact ⟨fun c => jk_fail g k, fun c => absurd c (by have := g.2; omega)⟩
theorem pg_accept {Q : Int32 → St → Prop} (tk : TKd σ kd n) (g : GSt kd n σ p L) (hx : 2 ≤ x.toInt) (k1 : ∀ s, Kp [(3, 1), (3, 2)] [] σ s → kd p = x.toInt → GSt kd n s (p + 1) L → Q 1 s) (k0 : kd p ≠ x.toInt → Q 0 σ) : pk_X3_accept x σ Q := by
  have e := g.2.2.2.1
  unfold pk_X3_accept
  refine ⟨fun y => (y = 0 ∧ kd p ≠ x.toInt) ∨ (y = 1 ∧ kd p = x.toInt), ?_, fun c => Or.inl ⟨rfl, by omega⟩, fun c => Or.inr ⟨rfl, by omega⟩⟩
  rintro y - (⟨rfl, c⟩ | ⟨rfl, c⟩)
  · exact ⟨fun _ => k0 c, fun e => absurd rfl e⟩
  · exact ⟨fun e => absurd e (by decide), fun _ => pg_adv tk g (by omega) (fun s ks gs => k1 s ks c gs)⟩
theorem jk_accept {Q : Int32 → St → Prop} (g : GBd σ) (hx : 0 ≤ x.toInt) (k : Q 0 σ) : pk_X3_accept x σ Q := by
  unfold pk_X3_accept
  refine ⟨fun y => y = 0, ?_, fun c => rfl, fun c => absurd c (by have := g.2; omega)⟩
  rintro y - rfl
  exact ⟨fun _ => k, fun e => absurd rfl e⟩
theorem pg_deeper {Q : Int32 → St → Prop} {d : Nat} (tk : TKd σ kd n) (g : GSt kd n σ p L) (hk : 2 ≤ kd p) (hx : x.toInt = d) (k1 : ∀ s, d < 25 → Kp [(3, 1), (3, 2)] [] σ s → GSt kd n s (p + 1) L → Q 1 s) (k0 : ∀ s, ¬ d < 25 → Kp [(3, 2), (3, 3)] [] σ s → GBd s → Q 0 s) : pk_X3_deeper x σ Q := by
  unfold pk_X3_deeper
  refine ⟨fun y => (y = 0 ∧ ¬ d < 25) ∨ (y = 1 ∧ d < 25), ?_, fun c => Or.inl ⟨rfl, by omega⟩, fun c => Or.inr ⟨rfl, by omega⟩⟩
  rintro y - (⟨rfl, c⟩ | ⟨rfl, c⟩)
  · exact ⟨fun _ => pg_fail g (fun s ks gb => k0 s c ks gb), fun e => absurd rfl e⟩
  · exact ⟨fun e => absurd e (by decide), fun _ => pg_adv tk g hk (fun s ks gs => k1 s c ks gs)⟩
theorem pg_add {Q : Int32 → St → Prop} {a : Stq} (g : GSt kd n σ p L) (hl : (L.length : Int) ≤ 32090) (ha : (a1.toInt, a2.toInt, a3.toInt, a4.toInt) = (a.1, (a.2.1 : Int), a.2.2.1, a.2.2.2)) (k : ∀ v s, Kp [(3, 4)] [18, 19, 20, 21] σ s → GSt kd n s p (L ++ [a]) → v.toInt = (L.length : Int) → Q v s) : pk_X3_add a1 a2 a3 a4 σ Q := by
  obtain ⟨g1, g2, g3, g4, g5⟩ := g
  have g6 := g5.1
  have en : (σ 3 4).toNatClampNeg = L.length := by rw [nt', g6]; rfl
  have e4 : ((σ 3 4) + (1 : Int32)).toInt = (L.length : Int) + 1 := by rw [ad0 i1 (by omega) (by omega), g6]
  unfold pk_X3_add
  refine ⟨fun c => by omega, fun _ => ⟨fun c => by omega, fun _ => ⟨fun c => by omega, fun _ => ⟨fun c => by omega, fun _ => ⟨fun c => by omega, fun _ _ _ _ _ => ?_⟩⟩⟩⟩⟩
  rw [en]
  have kk : Kp [(3, 4)] [18, 19, 20, 21] σ (upC (upC (upC (upC (upC σ 18 L.length a1) 19 L.length a2) 20 L.length a3) 21 L.length a4) 3 4 ((σ 3 4) + (1 : Int32))) := kp_f (kp_a (kp_a (kp_a (kp_a kp_rf rfl) rfl) rfl) rfl) rfl
  have r18 : ∀ j, upC (upC (upC (upC (upC σ 18 L.length a1) 19 L.length a2) 20 L.length a3) 21 L.length a4) 3 4 ((σ 3 4) + (1 : Int32)) 18 j = if j = L.length then a1 else σ 18 j := fun j => by simp only [rdC, Nat.reduceEqDiff, if_true, if_false]
  have r19 : ∀ j, upC (upC (upC (upC (upC σ 18 L.length a1) 19 L.length a2) 20 L.length a3) 21 L.length a4) 3 4 ((σ 3 4) + (1 : Int32)) 19 j = if j = L.length then a2 else σ 19 j := fun j => by simp only [rdC, Nat.reduceEqDiff, if_true, if_false]
  have r20 : ∀ j, upC (upC (upC (upC (upC σ 18 L.length a1) 19 L.length a2) 20 L.length a3) 21 L.length a4) 3 4 ((σ 3 4) + (1 : Int32)) 20 j = if j = L.length then a3 else σ 20 j := fun j => by simp only [rdC, Nat.reduceEqDiff, if_true, if_false]
  have r21 : ∀ j, upC (upC (upC (upC (upC σ 18 L.length a1) 19 L.length a2) 20 L.length a3) 21 L.length a4) 3 4 ((σ 3 4) + (1 : Int32)) 21 j = if j = L.length then a4 else σ 21 j := fun j => by simp only [rdC, Nat.reduceEqDiff, if_true, if_false]
  have r34 : upC (upC (upC (upC (upC σ 18 L.length a1) 19 L.length a2) 20 L.length a3) 21 L.length a4) 3 4 ((σ 3 4) + (1 : Int32)) 3 4 = (σ 3 4) + (1 : Int32) := rdA_eq rfl
  generalize upC (upC (upC (upC (upC σ 18 L.length a1) 19 L.length a2) 20 L.length a3) 21 L.length a4) 3 4 ((σ 3 4) + (1 : Int32)) = s at kk r18 r19 r20 r21 r34
  refine k _ s kk ⟨by rw [show s 3 3 = σ 3 3 from kk 3 3 rfl rfl]; exact g1, by rw [show s 3 1 = σ 3 1 from kk 3 1 rfl rfl]; exact g2, g3, by rw [show s 3 2 = σ 3 2 from kk 3 2 rfl rfl]; exact g4, ?_, fun i b q y z e => ?_⟩ g6
  · rw [r34, e4, List.length_append]
    rfl
  · rw [r18, r19, r20, r21]
    rcases app_at e with ⟨c, e⟩ | ⟨c, e⟩
    · rw [if_neg (by omega), if_neg (by omega), if_neg (by omega), if_neg (by omega)]
      exact g5.2 i b q y z e
    · rw [if_pos c, if_pos c, if_pos c, if_pos c]
      rw [← e] at ha
      exact ⟨congrArg (fun z : Int × Int × Int × Int => z.1) ha, congrArg (fun z : Int × Int × Int × Int => z.2.1) ha, congrArg (fun z : Int × Int × Int × Int => z.2.2.1) ha, congrArg (fun z : Int × Int × Int × Int => z.2.2.2) ha⟩
theorem jk_add {Q : Int32 → St → Prop} (g : GBd σ) (k : ∀ v s, Kp [(3, 4)] [18, 19, 20, 21] σ s → GBd s → Q v s) : pk_X3_add a1 a2 a3 a4 σ Q := by
  unfold pk_X3_add
  have h := k (σ 3 4) σ kp_rf g
  refine ⟨fun _ => h, fun _ => ⟨fun _ => h, fun _ => ⟨fun _ => h, fun _ => ⟨fun _ => h, fun _ => ⟨fun _ => h, fun _ _ _ _ _ => ?_⟩⟩⟩⟩⟩
  have kk : Kp [(3, 4)] [18, 19, 20, 21] σ (upC (upC (upC (upC (upC σ 18 (σ 3 4).toNatClampNeg a1) 19 (σ 3 4).toNatClampNeg a2) 20 (σ 3 4).toNatClampNeg a3) 21 (σ 3 4).toNatClampNeg a4) 3 4 ((σ 3 4) + (1 : Int32))) := kp_f (kp_a (kp_a (kp_a (kp_a kp_rf rfl) rfl) rfl) rfl) rfl
  exact k _ _ kk (gbd_k g (kp_sub kk rfl rfl))
theorem pg_levelOf {Q : Int32 → Prop} (hx : -2000 ≤ x.toInt ∧ x.toInt ≤ 2000000000) (k : ∀ v : Int32, v.toInt = lvq x.toInt → Q v) : pk_X3_levelOf x σ Q := by
  have e : (x - (41 : Int32)).toInt = x.toInt - 41 := sbc (by decide) (by omega) (by omega)
  unfold pk_X3_levelOf
  refine ⟨fun c => k _ ?_, fun c => ⟨fun c2 => k _ ?_, fun c2 _ => k _ ?_⟩⟩
  · unfold lvq
    rw [if_neg (by omega)]
    rfl
  · unfold lvq
    rw [if_neg (by omega)]
    rfl
  · have e2 : (x - (41 : Int32)).toNatClampNeg = (x.toInt - 41).toNat := by rw [nt', e]
    unfold lvq
    rw [if_pos (by omega), e2]
theorem lvq_r (x : Int) : 0 ≤ lvq x ∧ lvq x ≤ 10 ∧ (1 ≤ lvq x → 41 ≤ x ∧ x ≤ 58) := by
  have h : ∀ n, n < 18 → 1 ≤ (gC 0 n).toInt ∧ (gC 0 n).toInt ≤ 10 := by decide
  unfold lvq
  by_cases c : 41 ≤ x ∧ x ≤ 58
  · rw [if_pos c]
    have := h (x - 41).toNat (by omega)
    exact ⟨by omega, by omega, fun _ => c⟩
  · rw [if_neg c]
    exact ⟨by omega, by omega, fun h => by omega⟩
/-- stars -/
theorem pg_stars {Q : Int32 → St → Prop} (tk : TKd σ kd n) (g : GSt kd n σ p L) (k1 : ∀ (v : Int32) s t p1, Kp [(3, 1), (3, 2)] [] σ s → SRq kd 5 p = some (t, p1) → v.toInt = (t : Int) → GSt kd n s p1 L → p ≤ p1 → t ≤ 5 → Q v s) (k0 : ∀ v s, KGq σ s → SRq kd 5 p = none → GBd s → Q v s) : pk_X3_stars σ Q := by
  unfold pk_X3_stars
  refine ⟨fun x s => Kp [(3, 1), (3, 2)] [] σ s ∧ ∃ j : Nat, j ≤ 5 ∧ x.toInt = (j : Int) ∧ GSt kd n s (p + j) L ∧ (∀ r, SRq kd (5 - j) (p + j) = r → SRq kd 5 p = r.bind fun r => some (r.1 + j, r.2)), ⟨kp_rf, 0, by decide, rfl, g, fun r h => ?_⟩, ?_⟩
  · show SRq kd 5 p = _
    have h' : SRq kd 5 p = r := h
    rw [h']
    cases r <;> rfl
  rintro x s ⟨ks, j, h1, h2, h3, h4⟩
  have e := h3.2.2.2.1
  have tks := tkd_k (kp_sub ks rfl rfl) tk
  refine ⟨¬ (j < 5 ∧ kd (p + j) = 45), fun hj => ⟨fun c => ?_, fun c => ?_⟩, fun c hh => by omega, fun c => ⟨fun c2 hh => by omega, fun c2 => pg_adv tks h3 (by omega) (fun s2 k2 g2 => ⟨kp_tr ks k2, j + 1, by omega, by rw [ad1 (by omega)]; omega, g2, fun r hr => ?_⟩)⟩⟩
  · have e2 : SRq kd (5 - j) (p + j) = some (0, p + j) := by
      cases h : 5 - j with
      | zero => exact if_neg (by omega)
      | succ m => exact if_neg (by omega)
    exact k1 x s j (p + j) ks (by rw [h4 _ e2]; show some (0 + j, p + j) = some (j, p + j); rw [Nat.zero_add]) h2 h3 (by omega) h1
  · have e5 : j = 5 := by omega
    subst e5
    have e2 : SRq kd (5 - 5) (p + 5) = none := if_pos (by omega)
    exact pg_fail h3 (fun s2 k2 gb => k0 x s2 (kp_sub (kp_tr (kp_sub ks (fs' := [(3, 1), (3, 2), (3, 3)]) (cs' := []) rfl rfl) (kp_sub k2 rfl rfl)) rfl rfl) (by rw [h4 _ e2]; rfl) gb)
  · have e6 : 5 - j = (5 - (j + 1)) + 1 := by omega
    have e7 : SRq kd (5 - j) (p + j) = r.bind fun r => some (r.1 + 1, r.2) := by
      rw [e6]
      refine (if_pos (by omega)).trans ?_
      rw [Nat.add_assoc, hr]
    rw [h4 _ e7]
    cases r with
    | none => rfl
    | some r =>
      show some (r.1 + 1 + j, r.2) = some (r.1 + (j + 1), r.2)
      rw [Nat.add_assoc, Nat.add_comm 1 j]
theorem jk_stars {Q : Int32 → St → Prop} (g : GBd σ) (k : Q 0 σ) : pk_X3_stars σ Q := by
  unfold pk_X3_stars
  refine ⟨fun x s => x = 0 ∧ s = σ, ⟨rfl, rfl⟩, ?_⟩
  rintro x s ⟨rfl, rfl⟩
  have e := g.2
  exact ⟨True, fun _ => ⟨fun _ => k, fun c => by omega⟩, fun _ => trivial, fun _ => ⟨fun _ => trivial, fun c => by omega⟩⟩
end GSM
end

