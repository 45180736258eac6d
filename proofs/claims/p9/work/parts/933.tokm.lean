/-! tokens: the reference's side -/
def rkT (w : Nat) : Nat := ([20, 21, 22, 23, 24, 25, 26, 27, 28, 29, 30, 0, 1, 2, 3, 4, 5, 6, 7, 8, 9, 16, 17, 36, 37, 38, 39, 40, 33, 31, 32, 12, 13, 34, 35, 14, 15, 10, 11, 41, 42, 18, 19] : List Nat).getD w 0
def iRf (r : Nat) : Nat := ([11, 12, 13, 14, 15, 16, 17, 18, 19, 20, 37, 38, 31, 32, 35, 36, 21, 22, 41, 42, 0, 1, 2, 3, 4, 5, 6, 7, 8, 9, 10, 29, 30, 28, 33, 34, 23, 24, 25, 26, 27, 39, 40] : List Nat).getD r 43
def bRf (r : Nat) : Nat := ([1, 5, 9, 12, 15, 18, 21, 24, 27, 30, 33, 36, 39, 42, 45, 48, 51, 54, 57, 60, 63, 65, 67, 69, 71, 73, 75, 77, 79, 81, 83, 85, 87, 89, 91, 93, 95, 97, 99, 101, 103, 105, 107] : List Nat).getD r 109
/-- the reference's kind of a token -/
def rkI (k : Int) : Int := if k < 20 then k else 32 + (rkT (k - 20).toNat : Nat)
theorem rf_tab : ∀ r, r < 43 → iRf r < 43 ∧ rkT (iRf r) = r ∧ bRf r + lSg (iRf r) ≤ 108 ∧ bRf (r + 1) = bRf r + lSg (iRf r) + 1 ∧ (chI (SF 1 (bRf r + lSg (iRf r)))).toInt = 32 ∧ 1 ≤ lSg (iRf r) ∧ lSg (iRf r) ≤ 3 := by decide +kernel
theorem rf_chr : ∀ r, r < 43 → ∀ i, i < 3 → i < lSg (iRf r) → (chI (SF 1 (bRf r + i))).toInt = (chI (gC 3 (bSg (iRf r) + i))).toInt ∧ (chI (SF 1 (bRf r + i))).toInt ≠ 32 ∧ 33 ≤ (chI (SF 1 (bRf r + i))).toInt ∧ (chI (SF 1 (bRf r + i))).toInt ≤ 126 := by decide +kernel
theorem fr_tab : ∀ w, w < 43 → rkT w < 43 ∧ iRf (rkT w) = w := by decide
theorem rw_chr : ∀ w, w < 12 → ∀ i, i < 8 → i < lWd w → (chI (SF 0 (1 + bWd w + i))).toInt = (chI (gC 2 (bWd w + i))).toInt ∧ (chI (SF 0 (1 + bWd w + i))).toInt ≠ 32 ∧ 33 ≤ (chI (SF 0 (1 + bWd w + i))).toInt ∧ (chI (SF 0 (1 + bWd w + i))).toInt ≤ 126 := by decide +kernel
theorem rw_tab : ∀ w, w < 12 → (chI (SF 0 (1 + bWd w + lWd w))).toInt = 32 ∧ 1 + bWd w + lWd w ≤ 66 := by decide +kernel
theorem and255 : ∀ n : Nat, n < 256 → ((Int32.ofInt ((n : Int) - 128)) &&& (255 : Int32)).toInt = if n < 128 then (n : Int) + 128 else (n : Int) - 128 := by decide +kernel
theorem bq {x : Int32} {c : Int} (hx : -128 ≤ x.toInt ∧ x.toInt ≤ 127) (hc : 0 ≤ c ∧ c ≤ 127) : (x &&& (255 : Int32)).toInt = c ↔ x.toInt = c := by
  have h := and255 (x.toInt + 128).toNat (by omega)
  rw [show (((x.toInt + 128).toNat : Nat) : Int) - 128 = x.toInt from by omega, Int32.ofInt_toInt] at h
  by_cases q : (x.toInt + 128).toNat < 128
  · rw [if_pos q] at h
    omega
  · rw [if_neg q] at h
    omega
theorem nI_self (x : Int32) : nI x.toBitVec.toNat = x := by
  refine Int32.toBitVec_inj.mp ?_
  show BitVec.ofNat 32 x.toBitVec.toNat = x.toBitVec
  rw [BitVec.ofNat_toNat, BitVec.setWidth_eq]
theorem or_nI (a b : Nat) : nI a ||| nI b = nI (a ||| b) := by
  refine Int32.toBitVec_inj.mp (BitVec.eq_of_toNat_eq ?_)
  rw [Int32.toBitVec_or, BitVec.toNat_or]
  show (BitVec.ofNat 32 a).toNat ||| (BitVec.ofNat 32 b).toNat = (BitVec.ofNat 32 (a ||| b)).toNat
  rw [BitVec.toNat_ofNat, BitVec.toNat_ofNat, BitVec.toNat_ofNat, Nat.or_mod_two_pow]
theorem hex_or (x : Int32) {m : Nat} (h : m < 16) : (x <<< ((4 : Int32) &&& 31)) ||| nI m = x * 16 + nI m := by
  have e1 : x <<< ((4 : Int32) &&& 31) = nI (2 ^ 4 * x.toBitVec.toNat) := by
    refine Int32.toBitVec_inj.mp (BitVec.eq_of_toNat_eq ?_)
    rw [pk_shl x _ 4 (by decide)]
    show _ = (BitVec.ofNat 32 (2 ^ 4 * x.toBitVec.toNat)).toNat
    rw [BitVec.toNat_ofNat, Nat.mul_comm]
  rw [e1, or_nI, ← Nat.two_pow_add_eq_or_of_lt (by omega)]
  have e2 : x * 16 + nI m = nI x.toBitVec.toNat * nI 16 + nI m := by rw [nI_self]; rfl
  rw [e2]
  show Int32.ofNat (2 ^ 4 * x.toBitVec.toNat + m) = Int32.ofNat x.toBitVec.toNat * Int32.ofNat 16 + Int32.ofNat m
  rw [← Int32.ofNat_mul, ← Int32.ofNat_add, Nat.mul_comm]
theorem hx_nI {v : Int32} {i : Int} (h : v.toInt = hxq i) (h0 : 0 ≤ v.toInt) : v = nI (hxq i).toNat ∧ (hxq i).toNat < 16 ∧ Int32.ofInt (hxq i) = v := by
  have := hx_r (c := i)
  refine ⟨?_, by omega, by rw [← h, Int32.ofInt_toInt]⟩
  refine ieq ?_
  have e : (nI (hxq i).toNat).toInt = ((hxq i).toNat : Int) := nI_toInt (by omega)
  rw [e]
  omega
abbrev KRq (a b : St) : Prop := Kp [(0, 8)] [2, 3, 4, 5, 6] a b
def RMq (s : St) (L : List (Int32 × Int32 × Int)) : Prop := (s 0 8).toInt = (L.length : Int) ∧ ∀ j k v q, L[j]? = some (k, v, q) → (s 2 j).toInt = rkI k.toInt ∧ (s 3 j).toInt = q ∧ (k.toInt = 2 → (s 4 j).toInt = q + v.toInt) ∧ (k.toInt = 3 ∨ k.toInt = 4 → s 6 j = v)
def FMq (s : St) (L : List (Int32 × Int32 × Int)) (c : Int32) : Prop := (s 0 8).toInt = (L.length : Int) + 1 ∧ (∀ j k v q, L[j]? = some (k, v, q) → (s 2 j).toInt = rkI k.toInt ∧ (s 3 j).toInt = q ∧ (k.toInt = 2 → (s 4 j).toInt = q + v.toInt) ∧ (k.toInt = 3 ∨ k.toInt = 4 → s 6 j = v)) ∧ s 2 L.length = c
section TM
variable {f : Nat → Int32} {N p e : Int} {σ τ s : St} {vs : List Nat} {L : List (Int32 × Int32 × Int)} {a1 a2 a3 a4 a5 x y a n k v : Int32}
theorem pm_look {Q : Int32 → Prop} {i : Int} (hf : σ 1 = f) (hN : (σ 0 9).toInt = N) (hx : x.toInt = i) (k : ∀ v : Int32, v.toInt = byt f N i → Q v) : pp_look x σ τ vs Q := by
  subst hx
  unfold pp_look
  refine ⟨fun c => k _ ?_, fun c d => k _ ?_⟩
  · rw [byt, if_neg (by omega)]
    decide
  · rw [byt, if_pos (by omega), ← hf]
    rfl
theorem pm_isDigit {Q : Int32 → Prop} (k1 : DGq x.toInt → Q 1) (k0 : ¬ DGq x.toInt → Q 0) : pp_isDigit x σ τ vs Q := by
  unfold pp_isDigit
  exact ⟨fun c => k0 (by omega), fun c => ⟨fun c1 => k0 (by omega), fun c1 => k1 (by omega)⟩⟩
theorem pm_isAllowed {Q : Int32 → Prop} (k1 : AOq x.toInt → Q 1) (k0 : ¬ AOq x.toInt → Q 0) : pp_isAllowed x σ τ vs Q := by
  unfold pp_isAllowed
  exact ⟨fun c => k1 (by omega), fun c => ⟨fun c => k1 (by omega), fun c => ⟨fun c => k1 (by omega), fun c => ⟨fun c => k0 (by omega), fun c => ⟨fun c => k0 (by omega), fun c => k1 (by omega)⟩⟩⟩⟩⟩
theorem pm_isBlank {Q : Int32 → Prop} (k1 : BKq x.toInt → Q 1) (k0 : ¬ BKq x.toInt → Q 0) : pp_isBlank x σ τ vs Q := by
  unfold pp_isBlank
  exact ⟨fun c => k1 (by omega), fun c => ⟨fun c => k1 (by omega), fun c => ⟨fun c => k1 (by omega), fun c => ⟨fun c => k0 (by omega), fun c => k1 (by omega)⟩⟩⟩⟩
theorem pm_isLetter {Q : Int32 → Prop} (k1 : LTq x.toInt → Q 1) (k0 : ¬ LTq x.toInt → Q 0) : pp_isLetter x σ τ vs Q := by
  unfold pp_isLetter
  exact ⟨¬ (97 ≤ x.toInt ∧ x.toInt ≤ 122), fun j => ⟨¬ (65 ≤ x.toInt ∧ x.toInt ≤ 90), fun j2 => ⟨fun c => k0 (by omega), fun c => k1 (by omega)⟩, fun c => by omega, fun c => ⟨fun c1 => k1 (by omega), fun c1 => by omega⟩⟩, fun c => by omega, fun c => ⟨fun c1 => k1 (by omega), fun c1 => by omega⟩⟩
theorem pm_sixteen {Q : Int32 → Prop} (k : ∀ w : Int32, w.toInt = hxq x.toInt → Q w) : pp_sixteen x σ τ vs Q := by
  have e48 : ((48 : Int32)).toInt = 48 := by decide
  have e97 : ((97 : Int32)).toInt = 97 := by decide
  have e65 : ((65 : Int32)).toInt = 65 := by decide
  have e10 : ((10 : Int32)).toInt = 10 := by decide
  have m1 : ((-1 : Int32)).toInt = -1 := by decide
  unfold pp_sixteen
  refine pm_isDigit (fun c => ⟨fun h => absurd h (by decide), fun _ => k _ ?_⟩) (fun c => ⟨fun _ => ⟨¬ (97 ≤ x.toInt ∧ x.toInt ≤ 102), fun j => ⟨fun c1 => k _ ?_, fun c1 => ⟨fun c2 => k _ ?_, fun c2 => k _ ?_⟩⟩, fun c1 => by omega, fun c1 => ⟨fun c2 => by omega, fun c2 => k _ ?_⟩⟩, fun h => absurd rfl h⟩)
  · rw [sbc e48 (by omega) (by omega), hxq, if_pos c]
  · rw [hxq, if_neg c, if_neg j, if_neg (by omega)]
    exact m1
  · rw [hxq, if_neg c, if_neg j, if_neg (by omega)]
    exact m1
  · have e : (x - (65 : Int32)).toInt = x.toInt - 65 := sbc e65 (by omega) (by omega)
    rw [hxq, if_neg c, if_neg j, if_pos (by omega), adc e10 (by omega) (by omega), e]
    omega
  · have e : (x - (97 : Int32)).toInt = x.toInt - 97 := sbc e97 (by omega) (by omega)
    rw [hxq, if_neg c, if_pos (by omega), adc e10 (by omega) (by omega), e]
    omega
theorem pm_tok0 {Q : St → St → List Nat → Prop} (hL : RMq σ L) (hl : L.length ≤ 16001) (h1 : a1.toInt = rkI k.toInt) (h2 : a2.toInt = p) (h3 : k.toInt = 2 → a3.toInt = p + v.toInt) (h4 : k.toInt = 3 ∨ k.toInt = 4 → a5 = v) (kk : ∀ s, KRq σ s → RMq s (L ++ [(k, v, p)]) → (s 2 L.length).toInt = a1.toInt → (s 0 8).toInt = (L.length : Int) + 1 → Q s τ vs) : pp_token a1 a2 a3 a4 a5 σ τ vs Q := by
  have g1 := hL.1
  have en : (σ 0 8).toNatClampNeg = L.length := by rw [nt', g1]; rfl
  unfold pp_token
  intro _ _ _ _ _
  rw [en]
  have e8 : ((σ 0 8) + (1 : Int32)).toInt = (L.length : Int) + 1 := by rw [ad0 i1 (by omega) (by omega), g1]
  refine kk _ (kp_f (kp_a (kp_a (kp_a (kp_a (kp_a kp_rf rfl) rfl) rfl) rfl) rfl) rfl) ⟨?_, fun j k1 v1 q e => ?_⟩ ?_ ?_
  · rw [rdA_eq rfl, e8, List.length_append]
    rfl
  · rcases app_at e with ⟨c, e⟩ | ⟨c, e⟩
    · have r := hL.2 j k1 v1 q e
      have e2 : upC (upC (upC (upC (upC (upC σ 2 L.length a1) 3 L.length a2) 4 L.length a3) 5 L.length a4) 6 L.length a5) 0 8 ((σ 0 8) + (1 : Int32)) 2 j = σ 2 j := by rw [rdC_ne (by decide), rdC_ne (by decide), rdC_ne (by decide), rdC_ne (by decide), rdC_ne (by decide), rdA_ne (by omega)]
      have e3 : upC (upC (upC (upC (upC (upC σ 2 L.length a1) 3 L.length a2) 4 L.length a3) 5 L.length a4) 6 L.length a5) 0 8 ((σ 0 8) + (1 : Int32)) 3 j = σ 3 j := by rw [rdC_ne (by decide), rdC_ne (by decide), rdC_ne (by decide), rdC_ne (by decide), rdA_ne (by omega), rdC_ne (by decide)]
      have e4 : upC (upC (upC (upC (upC (upC σ 2 L.length a1) 3 L.length a2) 4 L.length a3) 5 L.length a4) 6 L.length a5) 0 8 ((σ 0 8) + (1 : Int32)) 4 j = σ 4 j := by rw [rdC_ne (by decide), rdC_ne (by decide), rdC_ne (by decide), rdA_ne (by omega), rdC_ne (by decide), rdC_ne (by decide)]
      have e6 : upC (upC (upC (upC (upC (upC σ 2 L.length a1) 3 L.length a2) 4 L.length a3) 5 L.length a4) 6 L.length a5) 0 8 ((σ 0 8) + (1 : Int32)) 6 j = σ 6 j := by rw [rdC_ne (by decide), rdA_ne (by omega), rdC_ne (by decide), rdC_ne (by decide), rdC_ne (by decide), rdC_ne (by decide)]
      rw [e2, e3, e4, e6]
      exact r
    · obtain ⟨rfl, rfl, rfl⟩ : k1 = k ∧ v1 = v ∧ q = p := ⟨congrArg (fun z : Int32 × Int32 × Int => z.1) e, congrArg (fun z : Int32 × Int32 × Int => z.2.1) e, congrArg (fun z : Int32 × Int32 × Int => z.2.2) e⟩
      rw [c]
      have e2 : upC (upC (upC (upC (upC (upC σ 2 L.length a1) 3 L.length a2) 4 L.length a3) 5 L.length a4) 6 L.length a5) 0 8 ((σ 0 8) + (1 : Int32)) 2 L.length = a1 := by rw [rdC_ne (by decide), rdC_ne (by decide), rdC_ne (by decide), rdC_ne (by decide), rdC_ne (by decide), rdA_eq rfl]
      have e3 : upC (upC (upC (upC (upC (upC σ 2 L.length a1) 3 L.length a2) 4 L.length a3) 5 L.length a4) 6 L.length a5) 0 8 ((σ 0 8) + (1 : Int32)) 3 L.length = a2 := by rw [rdC_ne (by decide), rdC_ne (by decide), rdC_ne (by decide), rdC_ne (by decide), rdA_eq rfl]
      have e4 : upC (upC (upC (upC (upC (upC σ 2 L.length a1) 3 L.length a2) 4 L.length a3) 5 L.length a4) 6 L.length a5) 0 8 ((σ 0 8) + (1 : Int32)) 4 L.length = a3 := by rw [rdC_ne (by decide), rdC_ne (by decide), rdC_ne (by decide), rdA_eq rfl]
      have e6 : upC (upC (upC (upC (upC (upC σ 2 L.length a1) 3 L.length a2) 4 L.length a3) 5 L.length a4) 6 L.length a5) 0 8 ((σ 0 8) + (1 : Int32)) 6 L.length = a5 := by rw [rdC_ne (by decide), rdA_eq rfl]
      rw [e2, e3, e4, e6]
      exact ⟨h1, h2, h3, h4⟩
  · rw [rdC_ne (by decide), rdC_ne (by decide), rdC_ne (by decide), rdC_ne (by decide), rdC_ne (by decide), rdA_eq rfl]
  · rw [rdA_eq rfl, e8]
theorem fm_rm {c v : Int32} {q : Int} (h : RMq s (L ++ [(c, v, q)])) (hc : c.toInt < 2) : FMq s L c := by
  refine ⟨by rw [h.1, List.length_append]; rfl, fun j k v' q' e => h.2 j k v' q' (by rw [List.getElem?_append_left (ltn e)]; exact e), ieq ?_⟩
  have := (h.2 L.length c v q (by rw [List.getElem?_append_right (Nat.le_refl _), Nat.sub_self]; rfl)).1
  rw [this, rkI, if_pos (by omega)]
theorem pm_bad {Q : Int32 → St → St → List Nat → Prop} (hL : RMq σ L) (hl : L.length ≤ 16001) (kk : ∀ s, KRq σ s → FMq s L 1 → Q a s τ vs) : pp_bad a σ τ vs Q := by
  unfold pp_bad
  exact pm_tok0 (k := 1) (v := 0) (p := a.toInt) hL hl (by decide) rfl (fun h => absurd h (by decide)) (fun h => absurd h (by decide)) (fun s ks hs _ _ => kk s ks (fm_rm hs (by decide)))
theorem pm_code {Q : Int32 → Prop} {q : Int32} {i : Int} (hf : σ 1 = f) (hN : (σ 0 9).toInt = N) (h16 : N ≤ 16000) (hx : x.toInt = i) (hi : i ≤ 100000) (k : ∀ v : Int32, v.toInt = cdq (byt f N) q.toInt i → Q v) : pp_code x q σ τ vs Q := by
  have m1 : ((-1 : Int32)).toInt = -1 := by decide
  unfold pp_code
  refine pm_look hf hN hx (fun v hv => ⟨fun c => ⟨fun c1 => k _ ?_, fun c1 => ⟨fun c2 => k _ ?_, fun c2 => ⟨fun c3 => k _ ?_, fun c3 => k _ ?_⟩⟩⟩, fun c => ?_⟩)
  · rw [cdq, if_neg (by omega), if_neg (by omega)]
    exact m1
  · rw [cdq, if_neg (by omega), if_neg (by omega)]
    exact m1
  · rw [cdq, if_neg (by omega), if_neg (by omega)]
    exact m1
  · rw [cdq, if_neg (by omega), if_pos (by omega)]
    exact hv
  · have hin := byt_in (f := f) (N := N) (i := i) (by omega)
    have e92 : byt f N i = 92 := by omega
    refine pm_look hf hN (i := i + 1) (by rw [ad0 i1 (by omega) (by omega), hx]) (fun w hw => ⟨fun d => ⟨fun d1 => ⟨fun d2 => k _ ?_, fun d2 => ⟨fun d3 => k _ ?_, fun d3 => ⟨fun d4 => k _ ?_, fun d4 => k _ ?_⟩⟩⟩, fun d1 => k _ ?_⟩, fun d => k _ ?_⟩)
    · rw [cdq, if_pos e92, if_pos (by omega)]
      exact hw
    · rw [cdq, if_pos e92, if_pos (by omega)]
      exact hw
    · rw [cdq, if_pos e92, if_neg (by omega), if_neg (by omega), if_neg (by omega)]
      exact m1
    · rw [cdq, if_pos e92, if_pos (by omega)]
      exact hw
    · rw [cdq, if_pos e92, if_neg (by omega), if_pos (by omega)]
      rfl
    · rw [cdq, if_pos e92, if_neg (by omega), if_neg (by omega), if_pos (by omega)]
      rfl
theorem pm_lineEnd {Q : Int32 → St → St → List Nat → Prop} (hf : σ 1 = f) (hN : (σ 0 9).toInt = N) (h16 : N ≤ 16000) (hp : a.toInt = p) (hp0 : 0 ≤ p ∧ p ≤ N) (hL : RMq σ L) (hl : L.length ≤ 16001) (c1 : byt f N p = 47) (c2 : byt f N (p + 1) = 47)
    (k1 : ∀ x : Int32, x.toInt ≤ N → BLq (byt f N) p x.toInt → Q x σ τ vs) (k0 : ∀ x s, KRq σ s → BBq (byt f N) p → FMq s L 1 → Q x s τ vs) : pp_lineEnd a σ τ vs Q := by
  unfold pp_lineEnd
  have bl : ∀ e, p ≤ e → (∀ i, p ≤ i → i < e → INl (byt f N i)) → (byt f N e = 10 ∨ byt f N e < 0) → BLq (byt f N) p e := fun e h0 h1 h2 => by
    rw [BLq, if_pos c1, if_pos c2]
    exact ⟨⟨h0, h1, by omega⟩, h2⟩
  refine ⟨fun x => p ≤ x.toInt ∧ x.toInt ≤ N ∧ ∀ j, p ≤ j → j < x.toInt → INl (byt f N j), ⟨by omega, by omega, fun j h1 h2 => by omega⟩, ?_⟩
  rintro x ⟨g1, g2, g3⟩
  refine ⟨fun c => k1 x g2 (bl _ g1 g3 (Or.inr ?_)), fun c => pm_look hf hN rfl (fun v hv => ⟨fun d => k1 x g2 (bl _ g1 g3 (Or.inl (by omega))), fun d => pm_look hf hN rfl (fun w hw => pm_isAllowed (fun m => ⟨fun _ => ⟨?_, ?_, fun j h1 h2 => ?_⟩, fun z => absurd z (by decide)⟩) (fun m => ⟨fun z => absurd rfl z, fun _ => pm_bad hL hl (fun s ks hs => k0 x s ks ⟨c1, ?_⟩ hs)⟩))⟩)⟩
  · rw [byt, if_neg (by omega)]
    omega
  · rw [ad1 (by omega)]
    omega
  · rw [ad1 (by omega)]
    omega
  · rw [ad1 (by omega)] at h2
    by_cases q : j = x.toInt
    · rw [q]
      exact ⟨by omega, by omega⟩
    · exact g3 j h1 (by omega)
  · rw [if_pos c2]
    have := byt_pos (f := f) (N := N) (i := x.toInt) ⟨by omega, by omega⟩
    exact ⟨x.toInt, ⟨g1, g3, by omega⟩, by omega, this⟩
theorem pm_remarkEnd {Q : Int32 → St → St → List Nat → Prop} (hf : σ 1 = f) (hN : (σ 0 9).toInt = N) (h16 : N ≤ 16000) (hp : a.toInt = p) (hp0 : 0 ≤ p ∧ p ≤ N) (hL : RMq σ L) (hl : L.length ≤ 16001) (c1 : byt f N p = 47) (c2 : byt f N (p + 1) = 42)
    (k1 : ∀ x : Int32, x.toInt ≤ N → BLq (byt f N) p x.toInt → Q x σ τ vs) (k0 : ∀ x s, KRq σ s → BBq (byt f N) p → FMq s L 1 → Q x s τ vs) : pp_remarkEnd a a2 σ τ vs Q := by
  unfold pp_remarkEnd
  have n2 := byt_in (f := f) (N := N) (i := p + 1) (by omega)
  refine ⟨fun x => p + 2 ≤ x.toInt ∧ x.toInt ≤ N ∧ ∀ j, p + 2 ≤ j → j < x.toInt → AOq (byt f N j) ∧ ¬ (byt f N j = 42 ∧ byt f N (j + 1) = 47), ⟨by rw [ad0 i2 (by omega) (by omega)]; omega, by rw [ad0 i2 (by omega) (by omega)]; omega, fun j h1 h2 => by rw [ad0 i2 (by omega) (by omega)] at h2; omega⟩, ?_⟩
  rintro x ⟨g1, g2, g3⟩
  have bad : ¬ AOq (byt f N x.toInt) → BBq (byt f N) p := fun m => ⟨c1, by rw [if_neg (by omega)]; exact ⟨c2, x.toInt, ⟨g1, g3, fun h => absurd h m⟩, m⟩⟩
  have nb : N ≤ x.toInt → byt f N x.toInt < 0 := fun h => by
    rw [byt, if_neg (by omega)]
    omega
  have nx : x.toInt < N → ¬ (byt f N x.toInt = 42 ∧ byt f N (x.toInt + 1) = 47) → pp_look x σ τ vs (fun v36 => pp_isAllowed v36 σ τ vs (fun v39 => (v39.toInt ≠ 0 → (p + 2 ≤ (x + 1).toInt ∧ (x + 1).toInt ≤ N ∧ ∀ j, p + 2 ≤ j → j < (x + 1).toInt → AOq (byt f N j) ∧ ¬ (byt f N j = 42 ∧ byt f N (j + 1) = 47))) ∧ (v39.toInt = 0 → pp_bad x σ τ vs (fun v47 s47 t47 z47 => Q v47 s47 t47 z47)))) := fun hx hn => by
    refine pm_look hf hN rfl (fun w hw => pm_isAllowed (fun m => ⟨fun _ => ⟨?_, ?_, fun j h1 h2 => ?_⟩, fun z => absurd z (by decide)⟩) (fun m => ⟨fun z => absurd rfl z, fun _ => pm_bad hL hl (fun s ks hs => k0 x s ks (bad (by omega)) hs)⟩))
    · rw [ad1 (by omega)]
      omega
    · rw [ad1 (by omega)]
      omega
    · rw [ad1 (by omega)] at h2
      by_cases q : j = x.toInt
      · rw [q]
        exact ⟨by omega, hn⟩
      · exact g3 j h1 (by omega)
  refine ⟨N ≤ x.toInt ∨ (byt f N x.toInt = 42 ∧ byt f N (x.toInt + 1) = 47), fun j => ⟨fun c => pm_bad hL hl (fun s ks hs => k0 a s ks (bad (by have := nb (by omega); omega)) hs), fun c => k1 _ ?_ ?_⟩, fun c => Or.inl (by omega), fun c => pm_look hf hN rfl (fun v hv => ⟨x.toInt < N ∧ ¬ (byt f N x.toInt = 42 ∧ byt f N (x.toInt + 1) = 47), fun h => nx h.1 h.2, fun d => ⟨by omega, by omega⟩, fun d => pm_look hf hN (i := x.toInt + 1) (ad0 i1 (by omega) (by omega)) (fun w hw => ⟨fun d2 => Or.inr ⟨by omega, by omega⟩, fun d2 => ⟨by omega, by omega⟩⟩)⟩)⟩
  · have := byt_in (f := f) (N := N) (i := x.toInt + 1) (by omega)
    rw [ad0 i2 (by omega) (by omega)]
    omega
  · have := byt_in (f := f) (N := N) (i := x.toInt + 1) (by omega)
    rw [ad0 i2 (by omega) (by omega), BLq, if_pos c1, if_neg (by omega)]
    exact ⟨c2, x.toInt, ⟨g1, g3, fun _ => ⟨by omega, by omega⟩⟩, by omega, rfl⟩
/-- what is not allowed is no token -/
theorem na_bad {b : Int → Int} (h0 : 0 ≤ b p) (h1 : ¬ AOq (b p)) : (¬ BKq (b p) ∧ ¬ CMq b p) ∧ BADq b p := by
  refine ⟨⟨by omega, by omega⟩, h0, ?_⟩
  rw [if_neg (by omega), if_neg (by omega), if_neg (by omega), if_neg (by omega)]
  intro w n hm
  have hw := hm.1
  have hl := sg_len w hw
  have hc := sg_pos w hw 0 (by omega) (by omega)
  have h := hm.2.2 0 (by omega)
  rw [show p + ((0 : Nat) : Int) = p from by omega] at h
  omega
end TM
