/-! tokens: the class's side -/
abbrev KTq (a b : St) : Prop := Kp [(2, 2), (2, 3), (2, 4)] [13, 14, 15, 16] a b
abbrev KBq (a b : St) : Prop := Kp [(2, 2), (2, 3)] [] a b
def RWq (s : St) (L : List (Int32 × Int32 × Int)) : Prop := (s 2 4).toInt = (L.length : Int) ∧ ∀ j k v q, L[j]? = some (k, v, q) → s 13 j = k ∧ s 14 j = v ∧ (s 15 j).toInt = q
def FNq (s : St) (L : List (Int32 × Int32 × Int)) (c : Int32) : Prop := (s 2 4).toInt = (L.length : Int) + 1 ∧ (∀ j k v q, L[j]? = some (k, v, q) → s 13 j = k ∧ s 14 j = v ∧ (s 15 j).toInt = q) ∧ s 13 L.length = c
theorem app_at {α : Type} {L : List α} {a x : α} {j : Nat} (h : (L ++ [a])[j]? = some x) : (j < L.length ∧ L[j]? = some x) ∨ (j = L.length ∧ x = a) := by
  by_cases c : j < L.length
  · rw [List.getElem?_append_left c] at h
    exact Or.inl ⟨c, h⟩
  · rw [List.getElem?_append_right (by omega)] at h
    by_cases q : j - L.length = 0
    · rw [q] at h
      exact Or.inr ⟨by omega, (Option.some.inj h).symm⟩
    · rw [List.getElem?_eq_none (by show 1 ≤ j - L.length; omega)] at h
      cases h
theorem ltn {L : List (Int32 × Int32 × Int)} {j : Nat} {x : Int32 × Int32 × Int} (h : L[j]? = some x) : j < L.length := by
  by_cases c : j < L.length
  · exact c
  · rw [List.getElem?_eq_none (by omega)] at h
    cases h
theorem wd_nx : ∀ w, w < 12 → bWd w + lWd w ≤ 65 ∧ bWd (w + 1) = bWd w + lWd w + 1 ∧ (chI (gC 2 (bWd w + lWd w))).toInt = 32 := by decide +kernel
theorem wd_ns : ∀ w, w < 12 → ∀ i, i < 8 → i < lWd w → (chI (gC 2 (bWd w + i))).toInt ≠ 32 := by decide +kernel
theorem sg_nx : ∀ w, w < 43 → bSg w + lSg w ≤ 107 ∧ bSg (w + 1) = bSg w + lSg w + 1 ∧ (chI (gC 3 (bSg w + lSg w))).toInt = 32 := by decide +kernel
theorem sg_ns : ∀ w, w < 43 → ∀ i, i < 3 → i < lSg w → (chI (gC 3 (bSg w + i))).toInt ≠ 32 := by decide +kernel
theorem q66 : (nI 66).toInt = 66 := by decide
theorem q108 : (nI 108).toInt = 108 := by decide
section TC
variable {f : Nat → Int32} {N p : Int} {σ s : St} {L : List (Int32 × Int32 × Int)} {a1 a2 a3 x y a n : Int32}
theorem pl_byte {Q : Int32 → Prop} {i : Int} (hf : σ 1 = f) (hN : (σ 2 1).toInt = N) (h16 : N ≤ 16000) (hx : x.toInt = i) (k : ∀ v : Int32, v.toInt = byt f N i → Q v) : pk_X10_byteAt x σ Q := by
  subst hx
  unfold pk_X10_byteAt
  refine ⟨fun c => k _ ?_, fun c => ⟨fun c1 => k _ ?_, fun c1 => ⟨fun c2 => by omega, fun c2 _ => k _ ?_⟩⟩⟩
  · rw [byt, if_neg (by omega)]
    decide
  · rw [byt, if_neg (by omega)]
    decide
  · rw [byt, if_pos (by omega), ← hf]
    rfl
theorem rw_kb (h : RWq σ L) (k : KBq σ s) : RWq s L := by
  refine ⟨by rw [show s 2 4 = σ 2 4 from k 2 4 rfl rfl]; exact h.1, fun j k1 v q e => ?_⟩
  rw [show s 13 j = σ 13 j from k 13 j rfl rfl, show s 14 j = σ 14 j from k 14 j rfl rfl, show s 15 j = σ 15 j from k 15 j rfl rfl]
  exact h.2 j k1 v q e
theorem pl_add0 {Q : Int32 → St → Prop} (hL : RWq σ L) (hl : L.length ≤ 16001) (hp : (σ 2 2).toInt = p) (k : ∀ s, KTq σ s → RWq s (L ++ [(a1, a2, p)]) → s 2 2 = (σ 2 2) + a3 → Q 1 s) : pk_X10_add a1 a2 a3 σ Q := by
  have h1 := hL.1
  have en : (σ 2 4).toNatClampNeg = L.length := by rw [nt', h1]; rfl
  unfold pk_X10_add
  refine ⟨fun s => s = upC (upC (upC (upC (upC σ 13 L.length a1) 14 L.length a2) 15 L.length (σ 2 2)) 16 L.length (σ 2 3)) 2 4 ((σ 2 4) + (1 : Int32)), fun s hs => ?_, fun c => by omega, fun _ => ⟨fun c => by omega, fun _ => ⟨fun c => by omega, fun _ => ⟨fun c => by omega, fun _ => ⟨fun c => by omega, fun _ _ _ _ _ => by rw [en]⟩⟩⟩⟩⟩
  subst hs
  refine k _ (kp_f (kp_f (kp_a (kp_a (kp_a (kp_a kp_rf rfl) rfl) rfl) rfl) rfl) rfl) ⟨?_, fun j k1 v q e => ?_⟩ ?_
  · rw [rdA_ne (by decide), rdA_eq rfl]
    show ((σ 2 4) + (1 : Int32)).toInt = _
    rw [ad0 i1 (by omega) (by omega), h1, List.length_append]
    rfl
  · rcases app_at e with ⟨c, e⟩ | ⟨c, e⟩
    · have r := hL.2 j k1 v q e
      rw [rdC_ne (by decide), rdC_ne (by decide), rdC_ne (by decide), rdC_ne (by decide), rdC_ne (by decide), rdA_ne (by omega)]
      rw [rdC_ne (by decide), rdC_ne (by decide), rdC_ne (by decide), rdC_ne (by decide), rdA_ne (by omega), rdC_ne (by decide)]
      rw [rdC_ne (by decide), rdC_ne (by decide), rdC_ne (by decide), rdA_ne (by omega), rdC_ne (by decide), rdC_ne (by decide)]
      exact r
    · obtain ⟨rfl, rfl, rfl⟩ : k1 = a1 ∧ v = a2 ∧ q = p := by
        have e1 := congrArg (fun z : Int32 × Int32 × Int => z.1) e
        have e2 := congrArg (fun z : Int32 × Int32 × Int => z.2.1) e
        have e3 := congrArg (fun z : Int32 × Int32 × Int => z.2.2) e
        exact ⟨e1, e2, e3⟩
      rw [c]
      rw [rdC_ne (by decide), rdC_ne (by decide), rdC_ne (by decide), rdC_ne (by decide), rdC_ne (by decide), rdA_eq rfl]
      rw [rdC_ne (by decide), rdC_ne (by decide), rdC_ne (by decide), rdC_ne (by decide), rdA_eq rfl]
      rw [rdC_ne (by decide), rdC_ne (by decide), rdC_ne (by decide), rdA_eq rfl]
      exact ⟨rfl, rfl, hp⟩
  · rw [rdA_eq rfl]
    rfl
theorem fn_rw {c v : Int32} {q : Int} (h : RWq s (L ++ [(c, v, q)])) : FNq s L c := by
  refine ⟨by rw [h.1, List.length_append]; rfl, fun j k v' q' e => h.2 j k v' q' (by rw [List.getElem?_append_left (ltn e)]; exact e), ?_⟩
  exact (h.2 L.length c v q (by rw [List.getElem?_append_right (Nat.le_refl _), Nat.sub_self]; rfl)).1
theorem pl_bad {Q : Int32 → St → Prop} (hL : RWq σ L) (hl : L.length ≤ 16001) (k : ∀ s, KTq σ s → FNq s L 1 → Q 0 s) : pk_X10_bad a σ Q := by
  unfold pk_X10_bad
  have kb : KBq σ (upC σ 2 2 a) := kp_f kp_rf rfl
  exact pl_add0 (rw_kb hL kb) hl rfl (fun s ks hs _ => k s (kp_tr (kp_sub kb rfl rfl) ks) (fn_rw hs))
theorem pl_mayOccur {Q : Int32 → Prop} (k1 : AOq x.toInt → Q 1) (k0 : ¬ AOq x.toInt → Q 0) : pk_X10_mayOccur x σ Q := by
  unfold pk_X10_mayOccur
  exact ⟨¬ (32 ≤ x.toInt ∧ x.toInt ≤ 126), fun j => ⟨fun c => k1 (by omega), fun c => ⟨fun c1 => k1 (by omega), fun c1 => ⟨fun c2 => k0 (by omega), fun c2 => k1 (by omega)⟩⟩⟩, fun c => by omega, fun c => ⟨fun c1 => k1 (by omega), fun c1 => by omega⟩⟩
theorem pl_isDigit {Q : Int32 → Prop} (k1 : DGq x.toInt → Q 1) (k0 : ¬ DGq x.toInt → Q 0) : pk_X10_isDigit x σ Q := by
  unfold pk_X10_isDigit
  exact ⟨fun c => k0 (by omega), fun c => ⟨fun c1 => k0 (by omega), fun c1 => k1 (by omega)⟩⟩
theorem pl_isLetter {Q : Int32 → Prop} (k1 : LTq x.toInt → Q 1) (k0 : ¬ LTq x.toInt → Q 0) : pk_X10_isLetter x σ Q := by
  unfold pk_X10_isLetter
  exact ⟨¬ (97 ≤ x.toInt ∧ x.toInt ≤ 122), fun j => ⟨¬ (65 ≤ x.toInt ∧ x.toInt ≤ 90), fun j2 => ⟨fun c => k0 (by omega), fun c => k1 (by omega)⟩, fun c => by omega, fun c => ⟨fun c1 => k1 (by omega), fun c1 => by omega⟩⟩, fun c => by omega, fun c => ⟨fun c1 => k1 (by omega), fun c1 => by omega⟩⟩
theorem pl_sixteenth {Q : Int32 → Prop} (k : ∀ w : Int32, w.toInt = hxq x.toInt → Q w) : pk_X10_sixteenth x σ Q := by
  have e48 : ((48 : Int32)).toInt = 48 := by decide
  have e97 : ((97 : Int32)).toInt = 97 := by decide
  have e65 : ((65 : Int32)).toInt = 65 := by decide
  have e10 : ((10 : Int32)).toInt = 10 := by decide
  have m1 : ((-1 : Int32)).toInt = -1 := by decide
  unfold pk_X10_sixteenth
  refine pl_isDigit (fun c => ⟨fun h => absurd h (by decide), fun _ => k _ ?_⟩) (fun c => ⟨fun _ => ⟨¬ (97 ≤ x.toInt ∧ x.toInt ≤ 102), fun j => ⟨fun c1 => k _ ?_, fun c1 => ⟨fun c2 => k _ ?_, fun c2 => k _ ?_⟩⟩, fun c1 => by omega, fun c1 => ⟨fun c2 => by omega, fun c2 => k _ ?_⟩⟩, fun h => absurd rfl h⟩)
  · rw [sbc e48 (by omega) (by omega), hxq, if_pos c]
  · rw [hxq, if_neg c, if_neg j, if_neg (by omega)]
    exact m1
  · rw [hxq, if_neg c, if_neg j, if_neg (by omega)]
    exact m1
  · have e : (x - (65 : Int32)).toInt = x.toInt - 65 := sbc e65 (by omega) (by omega)
    rw [hxq, if_neg c, if_neg j, if_pos (by omega), adc e10 (by omega) (by omega), e]
    omega
  · have e : (x - (97 : Int32)).toInt = x.toInt - 97 := sbc e97 (by omega) (by omega)
    rw [hxq, if_neg c, if_pos (by omega), adc e10 (by omega) (by omega), e]
    omega
theorem pl_line {Q : Int32 → St → Prop} (hf : σ 1 = f) (hN : (σ 2 1).toInt = N) (h16 : N ≤ 16000) (hp : (σ 2 2).toInt = p) (hp0 : 0 ≤ p ∧ p ≤ N) (hL : RWq σ L) (hl : L.length ≤ 16001) (c1 : byt f N p = 47) (c2 : byt f N (p + 1) = 47)
    (k1 : ∀ s e, KBq σ s → (s 2 2).toInt = e → e ≤ N → BLq (byt f N) p e → Q 1 s) (k0 : ∀ s, KTq σ s → BBq (byt f N) p → FNq s L 1 → Q 0 s) : pk_X10_skipLine σ Q := by
  unfold pk_X10_skipLine
  have bl : ∀ e, p ≤ e → (∀ i, p ≤ i → i < e → INl (byt f N i)) → (byt f N e = 10 ∨ byt f N e < 0) → BLq (byt f N) p e := fun e h0 h1 h2 => by
    rw [BLq, if_pos c1, if_pos c2]
    exact ⟨⟨h0, h1, by omega⟩, h2⟩
  refine ⟨fun s => KBq σ s ∧ ∃ i, (s 2 2).toInt = i ∧ p ≤ i ∧ i ≤ N ∧ ∀ j, p ≤ j → j < i → INl (byt f N j), ⟨kp_rf, p, hp, by omega, by omega, fun j h1 h2 => by omega⟩, ?_⟩
  rintro s ⟨ks, i, hi, g1, g2, g3⟩
  have sf : s 1 = f := by rw [← hf]; exact funext (fun j => ks 1 j rfl rfl)
  have sN : (s 2 1).toInt = N := by rw [show s 2 1 = σ 2 1 from ks 2 1 rfl rfl]; exact hN
  refine ⟨fun c => k1 s i ks hi g2 (bl i g1 g3 (Or.inr ?_)), fun c => pl_byte sf sN h16 hi (fun v hv => ⟨fun d => k1 s i ks hi g2 (bl i g1 g3 (Or.inl (by omega))), fun d => pl_byte sf sN h16 hi (fun w hw => pl_mayOccur (fun m => ⟨fun _ => ?_, fun z => absurd z (by decide)⟩) (fun m => ⟨fun z => absurd rfl z, fun _ => ?_⟩))⟩)⟩
  · rw [byt, if_neg (by omega)]
    omega
  · refine ⟨kp_tr ks (kp_f kp_rf rfl), i + 1, ?_, by omega, by omega, fun j h1 h2 => ?_⟩
    · rw [rdA_eq rfl, ad0 i1 (by omega) (by omega), hi]
    · by_cases q : j = i
      · rw [q]
        exact ⟨by omega, by omega⟩
      · exact g3 j h1 (by omega)
  · refine pl_bad (rw_kb hL ks) hl (fun r kr hr => k0 r (kp_tr (kp_sub ks rfl rfl) kr) ⟨c1, ?_⟩ hr)
    rw [if_pos c2]
    have := byt_pos (f := f) (N := N) (i := i) ⟨by omega, by omega⟩
    exact ⟨i, ⟨g1, g3, by omega⟩, by omega, this⟩
theorem pl_comment {Q : Int32 → St → Prop} (hf : σ 1 = f) (hN : (σ 2 1).toInt = N) (h16 : N ≤ 16000) (hp : (σ 2 2).toInt = p) (hp0 : 0 ≤ p ∧ p ≤ N) (hL : RWq σ L) (hl : L.length ≤ 16001) (c1 : byt f N p = 47) (c2 : byt f N (p + 1) = 42)
    (k1 : ∀ s e, KBq σ s → (s 2 2).toInt = e → e ≤ N → BLq (byt f N) p e → Q 1 s) (k0 : ∀ s, KTq σ s → BBq (byt f N) p → FNq s L 1 → Q 0 s) : pk_X10_skipComment σ Q := by
  unfold pk_X10_skipComment
  have n2 := byt_in (f := f) (N := N) (i := p + 1) (by omega)
  refine ⟨fun x s => Kp [(2, 3)] [] σ s ∧ ∃ i, x.toInt = i ∧ p + 2 ≤ i ∧ i ≤ N ∧ ∀ j, p + 2 ≤ j → j < i → AOq (byt f N j) ∧ ¬ (byt f N j = 42 ∧ byt f N (j + 1) = 47), ⟨kp_rf, p + 2, by rw [ad0 i2 (by omega) (by omega), hp], by omega, by omega, fun j h1 h2 => by omega⟩, ?_⟩
  rintro x s ⟨ks, i, hi, g1, g2, g3⟩
  have sf : s 1 = f := by rw [← hf]; exact funext (fun j => ks 1 j rfl rfl)
  have sN : (s 2 1).toInt = N := by rw [show s 2 1 = σ 2 1 from ks 2 1 rfl rfl]; exact hN
  have kb : KBq σ s := kp_sub ks rfl rfl
  have bad : ¬ AOq (byt f N i) → BBq (byt f N) p := fun m => ⟨c1, by rw [if_neg (by omega)]; exact ⟨c2, i, ⟨g1, g3, fun h => absurd h m⟩, m⟩⟩
  refine ⟨fun c => pl_bad (rw_kb hL kb) hl (fun r kr hr => k0 r (kp_tr (kp_sub kb rfl rfl) kr) (bad ?_) hr), fun c => pl_byte sf sN h16 hi (fun v hv => pl_mayOccur (fun m => ⟨fun _ => ?_, fun z => absurd z (by decide)⟩) (fun m => ⟨fun z => absurd rfl z, fun _ => pl_bad (rw_kb hL kb) hl (fun r kr hr => k0 r (kp_tr (kp_sub kb rfl rfl) kr) (bad (by omega)) hr)⟩))⟩
  · rw [byt, if_neg (by omega)]
    omega
  · refine ⟨fun _ => True, fun y _ _ => ?_, fun _ => trivial, fun _ => trivial⟩
    have kr : Kp [(2, 3)] [] σ (upC s 2 3 ((s 2 3) + y)) := kp_tr ks (kp_f kp_rf rfl)
    generalize hr : upC s 2 3 ((s 2 3) + y) = r at kr
    have rf : r 1 = f := by rw [← hf]; exact funext (fun j => kr 1 j rfl rfl)
    have rN : (r 2 1).toInt = N := by rw [show r 2 1 = σ 2 1 from kr 2 1 rfl rfl]; exact hN
    have hi1 : (x + (1 : Int32)).toInt = i + 1 := by rw [ad0 i1 (by omega) (by omega), hi]
    refine ⟨¬ (byt f N i = 42 ∧ byt f N (i + 1) = 47), fun j => ⟨kr, i + 1, hi1, by omega, by omega, fun j2 h1 h2 => ?_⟩, fun d => by omega, fun d => pl_byte rf rN h16 hi1 (fun w hw => ⟨fun d2 => by omega, fun d2 => k1 _ (i + 2) (kp_tr (kp_sub kr rfl rfl) (kp_f kp_rf rfl)) ?_ ?_ ?_⟩)⟩
    · by_cases q : j2 = i
      · rw [q]
        exact ⟨by omega, j⟩
      · exact g3 j2 h1 (by omega)
    · rw [rdA_eq rfl, ad0 i2 (by omega) (by omega), hi]
    · have := byt_in (f := f) (N := N) (i := i + 1) (by omega)
      omega
    · rw [BLq, if_pos c1, if_neg (by omega)]
      exact ⟨c2, i, ⟨g1, g3, fun _ => ⟨by omega, by omega⟩⟩, by omega, rfl⟩
theorem pl_blanks {Q : Int32 → St → Prop} (hf : σ 1 = f) (hN : (σ 2 1).toInt = N) (h16 : N ≤ 16000) (hp : (σ 2 2).toInt = p) (hp0 : 0 ≤ p ∧ p ≤ N) (hL : RWq σ L) (hl : L.length ≤ 16001)
    (k1 : ∀ s q, KBq σ s → (s 2 2).toInt = q → p ≤ q ∧ q ≤ N → RCHq (byt f N) (p, L) (q, L) → ¬ BKq (byt f N q) ∧ ¬ CMq (byt f N) q → Q 1 s) (k0 : ∀ s q, KTq σ s → RCHq (byt f N) (p, L) (q, L) → BBq (byt f N) q → FNq s L 1 → Q 0 s) : pk_X10_skipBlanks σ Q := by
  unfold pk_X10_skipBlanks
  refine ⟨fun x s => KBq σ s ∧ ∃ q, (s 2 2).toInt = q ∧ p ≤ q ∧ q ≤ N ∧ RCHq (byt f N) (p, L) (q, L) ∧ 0 ≤ x.toInt ∧ x.toInt ≤ q - p, ⟨kp_rf, p, hp, by omega, by omega, rch_0, by decide, by rw [i0]; omega⟩, ?_⟩
  rintro x s ⟨ks, q, hq, g1, g2, g3, g4, g5⟩
  have sf : s 1 = f := by rw [← hf]; exact funext (fun j => ks 1 j rfl rfl)
  have sN : (s 2 1).toInt = N := by rw [show s 2 1 = σ 2 1 from ks 2 1 rfl rfl]; exact hN
  have ux : (x + 1).toInt = x.toInt + 1 := ad1 (by omega)
  have sL := rw_kb hL ks
  have nxt : ∀ r e, KBq s r → (r 2 2).toInt = e → e ≤ N → BLq (byt f N) q e → (KBq σ r ∧ ∃ q, (r 2 2).toInt = q ∧ p ≤ q ∧ q ≤ N ∧ RCHq (byt f N) (p, L) (q, L) ∧ 0 ≤ (x + 1).toInt ∧ (x + 1).toInt ≤ q - p) := fun r e kr hr he hb => by
    have := bl_up hb
    exact ⟨kp_tr ks kr, e, hr, by omega, he, rch_s g3 (Or.inl ⟨hb, rfl⟩), by omega, by omega⟩
  refine ⟨fun c => by omega, fun c => pl_byte sf sN h16 hq (fun v hv => ⟨fun y => (byt f N q = 47 ∧ y.toInt = byt f N (q + 1)) ∨ (byt f N q ≠ 47 ∧ y.toInt = -1), fun y hy => ⟨_, fun r hr => hr, byt f N q = 47 ∧ (y.toInt = 47 ∨ y.toInt = 42), fun hj => ⟨fun d => ?_, fun d => ?_⟩, fun d => ⟨by omega, by omega⟩, fun d => ⟨fun d2 => ?_, fun d2 => ⟨by omega, by omega⟩⟩⟩, fun d => Or.inr ⟨by omega, by decide⟩, fun d => pl_byte sf sN h16 (i := q + 1) (by rw [ad0 i1 (by omega) (by omega), hq]) (fun w hw => Or.inl ⟨by omega, hw⟩)⟩)⟩
  · refine pl_comment sf sN h16 hq (by omega) sL hl hj.1 (by omega) (fun r e kr hr he hb => ⟨fun _ => nxt r e kr hr he hb, fun z => absurd z (by decide)⟩) (fun r kr hb hr => ⟨fun z => absurd rfl z, fun _ => k0 r q (kp_tr (kp_sub ks rfl rfl) kr) g3 hb hr⟩)
  · refine pl_line sf sN h16 hq (by omega) sL hl hj.1 (by omega) (fun r e kr hr he hb => ⟨fun z => absurd z (by decide), fun _ => nxt r e kr hr he hb⟩) (fun r kr hb hr => ⟨fun _ => k0 r q (kp_tr (kp_sub ks rfl rfl) kr) g3 hb hr, fun z => absurd rfl z⟩)
  · have bk : BKq (byt f N q) → ∀ y2 : Int32, (KBq σ (upC (upC s 2 3 ((s 2 3) + y2)) 2 2 ((s 2 2) + (1 : Int32))) ∧ ∃ q, ((upC (upC s 2 3 ((s 2 3) + y2)) 2 2 ((s 2 2) + (1 : Int32))) 2 2).toInt = q ∧ p ≤ q ∧ q ≤ N ∧ RCHq (byt f N) (p, L) (q, L) ∧ 0 ≤ (x + 1).toInt ∧ (x + 1).toInt ≤ q - p) := fun h y2 => by
      have hin := byt_in (f := f) (N := N) (i := q) (by omega)
      refine nxt _ (q + 1) (kp_f (kp_f kp_rf rfl) rfl) ?_ (by omega) ?_
      · rw [rdA_eq rfl, ad0 i1 (by omega) (by omega), hq]
      · rw [BLq, if_neg (by omega)]
        exact ⟨h, rfl⟩
    refine ⟨BKq (byt f N q), fun hb => ⟨fun _ => True, fun y2 _ _ => bk hb y2, fun _ => trivial, fun _ => trivial⟩, fun e => by omega, fun e => ⟨fun e2 => by omega, fun e2 => ⟨fun e3 => by omega, fun e3 => ⟨fun e4 => k1 s q ks hq ⟨g1, g2⟩ g3 ⟨by omega, by omega⟩, fun e4 => by omega⟩⟩⟩⟩
theorem pl_isNext0 {Q : Int32 → Prop} (hf : σ 1 = f) (hN : (σ 2 1).toInt = N) (h16 : N ≤ 16000) (hp : (σ 2 2).toInt = p) (hp0 : 0 ≤ p ∧ p ≤ N) (hx : 0 ≤ x.toInt) (hy : 0 ≤ y.toInt) (hxy : x.toInt + y.toInt ≤ 65)
    (k1 : (∀ i : Nat, (i : Int) < y.toInt → byt f N (p + i) = (chI (gC 2 (x.toInt.toNat + i))).toInt) → Q 1) (k0 : (∃ i : Nat, (i : Int) < y.toInt ∧ byt f N (p + i) ≠ (chI (gC 2 (x.toInt.toNat + i))).toInt) → Q 0) : pk_X10_isNext_s0 x y σ Q := by
  unfold pk_X10_isNext_s0
  refine ⟨fun j => 0 ≤ j.toInt ∧ j.toInt ≤ y.toInt ∧ ∀ i : Nat, (i : Int) < j.toInt → byt f N (p + i) = (chI (gC 2 (x.toInt.toNat + i))).toInt, ⟨by decide, hy, fun i h => by rw [i0] at h; omega⟩, ?_⟩
  rintro j ⟨h1, h2, h3⟩
  have e1 : (x + j).toInt = x.toInt + j.toInt := ad (by omega) (by omega)
  refine ⟨fun c => k1 (fun i hi => h3 i (by omega)), fun c => ⟨fun c1 => by rw [q66] at c1; omega, fun c1 _ => pl_byte hf hN h16 (i := p + j.toInt) (by rw [ad (by omega) (by omega), hp]) (fun v hv => ?_)⟩⟩
  have e2 : (x + j).toNatClampNeg = x.toInt.toNat + j.toInt.toNat := by rw [nt', e1]; omega
  have e3 : (j.toInt.toNat : Int) = j.toInt := Int.toNat_of_nonneg h1
  have up : (j + 1).toInt = j.toInt + 1 := ad1 (by omega)
  rw [e2]
  refine ⟨fun d => ⟨by omega, by omega, fun i hi => ?_⟩, fun d => k0 ⟨j.toInt.toNat, by omega, ?_⟩⟩
  · by_cases q : (i : Int) = j.toInt
    · have : i = j.toInt.toNat := by omega
      subst this
      rw [e3, ← hv, d]
    · exact h3 i (by omega)
  · rw [e3, ← hv]
    exact fun h => d h.symm
theorem pl_isNext1 {Q : Int32 → Prop} (hf : σ 1 = f) (hN : (σ 2 1).toInt = N) (h16 : N ≤ 16000) (hp : (σ 2 2).toInt = p) (hp0 : 0 ≤ p ∧ p ≤ N) (hx : 0 ≤ x.toInt) (hy : 0 ≤ y.toInt) (hxy : x.toInt + y.toInt ≤ 107)
    (k1 : (∀ i : Nat, (i : Int) < y.toInt → byt f N (p + i) = (chI (gC 3 (x.toInt.toNat + i))).toInt) → Q 1) (k0 : (∃ i : Nat, (i : Int) < y.toInt ∧ byt f N (p + i) ≠ (chI (gC 3 (x.toInt.toNat + i))).toInt) → Q 0) : pk_X10_isNext_s1 x y σ Q := by
  unfold pk_X10_isNext_s1
  refine ⟨fun j => 0 ≤ j.toInt ∧ j.toInt ≤ y.toInt ∧ ∀ i : Nat, (i : Int) < j.toInt → byt f N (p + i) = (chI (gC 3 (x.toInt.toNat + i))).toInt, ⟨by decide, hy, fun i h => by rw [i0] at h; omega⟩, ?_⟩
  rintro j ⟨h1, h2, h3⟩
  have e1 : (x + j).toInt = x.toInt + j.toInt := ad (by omega) (by omega)
  refine ⟨fun c => k1 (fun i hi => h3 i (by omega)), fun c => ⟨fun c1 => by rw [q108] at c1; omega, fun c1 _ => pl_byte hf hN h16 (i := p + j.toInt) (by rw [ad (by omega) (by omega), hp]) (fun v hv => ?_)⟩⟩
  have e2 : (x + j).toNatClampNeg = x.toInt.toNat + j.toInt.toNat := by rw [nt', e1]; omega
  have e3 : (j.toInt.toNat : Int) = j.toInt := Int.toNat_of_nonneg h1
  have up : (j + 1).toInt = j.toInt + 1 := ad1 (by omega)
  rw [e2]
  refine ⟨fun d => ⟨by omega, by omega, fun i hi => ?_⟩, fun d => k0 ⟨j.toInt.toNat, by omega, ?_⟩⟩
  · by_cases q : (i : Int) = j.toInt
    · have : i = j.toInt.toNat := by omega
      subst this
      rw [e3, ← hv, d]
    · exact h3 i (by omega)
  · rw [e3, ← hv]
    exact fun h => d h.symm
theorem pl_listed0 {Q : Int32 → Prop} (hf : σ 1 = f) (hN : (σ 2 1).toInt = N) (h16 : N ≤ 16000) (hp : (σ 2 2).toInt = p) (hp0 : 0 ≤ p ∧ p ≤ N)
    (k : ∀ r : Int32, ((∃ w, WMq (byt f N) p n.toInt w ∧ r.toInt = w) ∨ ((∀ w, ¬ WMq (byt f N) p n.toInt w) ∧ r.toInt < 0)) → Q r) : pk_X10_listed_s0 n σ Q := by
  unfold pk_X10_listed_s0
  refine ⟨fun a b c => ∃ w : Nat, w ≤ 12 ∧ a.toInt = w ∧ b.toInt = bWd w ∧ (bWd w : Int) ≤ c.toInt ∧ c.toInt ≤ bWd w + lWd w ∧ ∀ w', w' < w → ¬ WMq (byt f N) p n.toInt w', ⟨0, by decide, by decide, by decide, by decide, by decide, fun w' h => by omega⟩, ?_⟩
  rintro a b c ⟨w, h1, h2, h3, h4, h5, h6⟩
  by_cases hw : w = 12
  · subst hw
    have e12 : (bWd 12 : Int) = 66 := by decide
    exact ⟨fun _ => k _ (Or.inr ⟨fun w' hw' => h6 w' hw'.1 hw', by decide⟩), fun c1 => by rw [q66] at c1; omega⟩
  obtain ⟨t1, t2, t3⟩ := wd_nx w (by omega)
  have t4 := wd_len w (by omega)
  refine ⟨fun c1 => by rw [q66] at c1; omega, fun c1 _ => ?_⟩
  have uc : (c + 1).toInt = c.toInt + 1 := ad1 (by omega)
  have ua : (a + 1).toInt = a.toInt + 1 := ad1 (by omega)
  have en : c.toNatClampNeg = bWd w + (c.toInt.toNat - bWd w) := by rw [nt']; omega
  refine ⟨_, fun a' b' h => h, fun d => ⟨w, h1, h2, h3, by omega, ?_, h6⟩, fun d => ?_⟩
  · have : c.toInt ≠ bWd w + lWd w := fun e => d (by rw [show c.toNatClampNeg = bWd w + lWd w from by rw [nt']; omega]; exact t3)
    omega
  have ec : c.toInt = bWd w + lWd w := by
    by_cases q : c.toInt = bWd w + lWd w
    · exact q
    · exact absurd (by rw [en] at d; exact d) (wd_ns w (by omega) (c.toInt.toNat - bWd w) (by omega) (by omega))
  have ecb : (c - b).toInt = lWd w := by rw [sb (by omega) (by omega)]; omega
  have enb : b.toInt.toNat = bWd w := by omega
  refine ⟨¬ WMq (byt f N) p n.toInt w, fun j => ⟨w + 1, by omega, by omega, by rw [t2]; show (c + 1).toInt = _; omega, by rw [t2]; omega, by rw [t2]; omega, fun w' hw' => ?_⟩, fun e hm => e (by rw [ecb]; exact hm.2.1), fun e => pl_isNext0 hf hN h16 hp hp0 (by omega) (by omega) (by omega) (fun hm => ⟨fun z => absurd z (by decide), fun _ => k _ (Or.inl ⟨w, ⟨by omega, by omega, fun i hi => ?_⟩, h2⟩)⟩) (fun hm => ⟨fun _ hw' => ?_, fun z => absurd rfl z⟩)⟩
  · by_cases q : w' = w
    · rw [q]
      exact j
    · exact h6 w' (by omega)
  · rw [hm i (by omega), enb]
  · obtain ⟨i, i1, i2⟩ := hm
    rw [enb] at i2
    exact i2 (hw'.2.2 i (by omega))
theorem pl_listed1 {Q : Int32 → Prop} (hf : σ 1 = f) (hN : (σ 2 1).toInt = N) (h16 : N ≤ 16000) (hp : (σ 2 2).toInt = p) (hp0 : 0 ≤ p ∧ p ≤ N)
    (k : ∀ r : Int32, ((∃ w, SMq (byt f N) p n.toInt w ∧ r.toInt = w) ∨ ((∀ w, ¬ SMq (byt f N) p n.toInt w) ∧ r.toInt < 0)) → Q r) : pk_X10_listed_s1 n σ Q := by
  unfold pk_X10_listed_s1
  refine ⟨fun a b c => ∃ w : Nat, w ≤ 43 ∧ a.toInt = w ∧ b.toInt = bSg w ∧ (bSg w : Int) ≤ c.toInt ∧ c.toInt ≤ bSg w + lSg w ∧ ∀ w', w' < w → ¬ SMq (byt f N) p n.toInt w', ⟨0, by decide, by decide, by decide, by decide, by decide, fun w' h => by omega⟩, ?_⟩
  rintro a b c ⟨w, h1, h2, h3, h4, h5, h6⟩
  by_cases hw : w = 43
  · subst hw
    have e12 : (bSg 43 : Int) = 108 := by decide
    exact ⟨fun _ => k _ (Or.inr ⟨fun w' hw' => h6 w' hw'.1 hw', by decide⟩), fun c1 => by rw [q108] at c1; omega⟩
  obtain ⟨t1, t2, t3⟩ := sg_nx w (by omega)
  have t4 := sg_len w (by omega)
  refine ⟨fun c1 => by rw [q108] at c1; omega, fun c1 _ => ?_⟩
  have uc : (c + 1).toInt = c.toInt + 1 := ad1 (by omega)
  have ua : (a + 1).toInt = a.toInt + 1 := ad1 (by omega)
  have en : c.toNatClampNeg = bSg w + (c.toInt.toNat - bSg w) := by rw [nt']; omega
  refine ⟨_, fun a' b' h => h, fun d => ⟨w, h1, h2, h3, by omega, ?_, h6⟩, fun d => ?_⟩
  · have : c.toInt ≠ bSg w + lSg w := fun e => d (by rw [show c.toNatClampNeg = bSg w + lSg w from by rw [nt']; omega]; exact t3)
    omega
  have ec : c.toInt = bSg w + lSg w := by
    by_cases q : c.toInt = bSg w + lSg w
    · exact q
    · exact absurd (by rw [en] at d; exact d) (sg_ns w (by omega) (c.toInt.toNat - bSg w) (by omega) (by omega))
  have ecb : (c - b).toInt = lSg w := by rw [sb (by omega) (by omega)]; omega
  have enb : b.toInt.toNat = bSg w := by omega
  refine ⟨¬ SMq (byt f N) p n.toInt w, fun j => ⟨w + 1, by omega, by omega, by rw [t2]; show (c + 1).toInt = _; omega, by rw [t2]; omega, by rw [t2]; omega, fun w' hw' => ?_⟩, fun e hm => e (by rw [ecb]; exact hm.2.1), fun e => pl_isNext1 hf hN h16 hp hp0 (by omega) (by omega) (by omega) (fun hm => ⟨fun z => absurd z (by decide), fun _ => k _ (Or.inl ⟨w, ⟨by omega, by omega, fun i hi => ?_⟩, h2⟩)⟩) (fun hm => ⟨fun _ hw' => ?_, fun z => absurd rfl z⟩)⟩
  · by_cases q : w' = w
    · rw [q]
      exact j
    · exact h6 w' (by omega)
  · rw [hm i (by omega), enb]
  · obtain ⟨i, i1, i2⟩ := hm
    rw [enb] at i2
    exact i2 (hw'.2.2 i (by omega))
end TC
