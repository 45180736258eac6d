/-! the walk: the end of a function -/
section FEN
variable {σ s z t ρ : St} {g g' g1 : Gh} {X X0 Y : Nat → Prop} {b e e0 e' h h' H H0 H' L L' m n N N' Nb c d p tt j i F F' k B q E hd : Nat} {K K2 M G D : List Nat} {A : List It} {x y v a op a1 a2 a3 : Int32} {w w' : Nat → Int32} {CP CP' : Int → Nat → Prop}
theorem ushr_nn : 0 ≤ (ushr x (24 : Int32)).toInt := by
  have e24 : ((24 : Int32).toUInt32 &&& Int32.toUInt32 31) = (24 : UInt32) := by decide
  have e : (ushr x (24 : Int32)).toBitVec.toNat = x.toBitVec.toNat / 16777216 := by
    unfold ushr
    rw [e24]
    show (x.toUInt32 >>> (24 : UInt32)).toNat = _
    rw [UInt32.toNat_shiftRight]
    have e3 : (24 : UInt32).toNat % 32 = 24 := by decide
    rw [e3, Nat.shiftRight_eq_div_pow]
    rfl
  have l := x.toBitVec.isLt
  have h := BitVec.toInt_eq_toNat_cond (ushr x (24 : Int32)).toBitVec
  rw [e, if_pos (by omega)] at h
  have h' : (ushr x (24 : Int32)).toInt = ((x.toBitVec.toNat / 16777216 : Nat) : Int) := h
  rw [h']
  omega
/-- the code of a function, with its last return -/
theorem tyf_of (T : TYp w g CP X b e 0 0) (hX : ∀ q, ¬ X q) (bd : BND g b e 420) (hw : ∀ j, j < e → w' j = w j) (h1 : (w' e).toInt = (1 : Nat)) (h2 : (w' (e + 2)).toInt = (33 : Nat)) (hC : ∀ a m, CP a m → CP' a m) : ∃ g', TYf w' g' CP' b (e + 3) := by
  obtain ⟨t1, t2, ⟨t3, t4⟩, t5⟩ := T
  let g' : Gh := fun q => if q ≤ e then g q else if q = e + 2 then some (1, 0) else none
  have lo : ∀ q, q ≤ e → g' q = g q := fun q hq => if_pos hq
  have mid : g' (e + 2) = some (1, 0) := by
    show (if e + 2 ≤ e then _ else if e + 2 = e + 2 then _ else _) = _
    rw [if_neg (by omega), if_pos rfl]
  have hi : ∀ q, e < q → q ≠ e + 2 → g' q = none := fun q h1 h2 => by
    show (if q ≤ e then _ else if q = e + 2 then _ else _) = _
    rw [if_neg (by omega), if_neg h2]
  have up : ∀ p v, rs g e p = some v → g' p = some v := fun p v z => by
    unfold rs at z
    by_cases c : p ≤ e
    · rw [if_pos c] at z
      rw [lo p c]
      exact z
    · rw [if_neg c] at z
      cases z
  refine ⟨g', ⟨0, by rw [lo b t1]; exact t4⟩, fun q hq => by rw [lo q (by omega)]; exact t3 q hq, fun q h k hq => ?_⟩
  by_cases c : q < e
  · rw [lo q (by omega)] at hq
    obtain ⟨⟨n, o1, o2⟩, n', d1, d2, d3, d4⟩ := t5 q h k hq c
    have en : n' = n := by omega
    subst en
    have bq : b ≤ q := by
      by_cases cb : b ≤ q
      · exact cb
      · rw [t3 q (by omega)] at hq
        cases hq
    have o3 := opk_mono (g' := g') (CP' := CP') (pd' := False) up hC (fun z => hX q z) o2
    refine ⟨by omega, bd q h k bq (by omega) hq, n', by rw [hw q c]; exact o1, ?_, by omega, Or.inr ?_, fun j j1 j2 => ?_⟩
    · by_cases c1 : n' < 26 ∨ 31 = n' ∨ 32 < n'
      · exact opk_arg c1 o3
      · have := ln_2 n' (by have := o2.1.2.1; omega) (by omega) (by omega) (by omega)
        rw [hw (q + 1) (by omega)]
        exact o3
    · rw [rs_le d2] at d3
      rw [lo _ d2]
      exact d3
    · have := d4 j j1 j2
      rw [rs_le (by omega)] at this
      rw [lo j (by omega)]
      exact this
  · by_cases c2 : q = e
    · subst c2
      rw [lo q (Nat.le_refl _), t2] at hq
      cases hq
      have l1 : ln 1 = 2 := rfl
      refine ⟨by omega, by omega, 1, h1, opk_pl (h' := 1) (by decide) (by decide) (Or.inl (by decide)) (by decide) (by decide) ⟨0, by rw [l1]; exact mid, Or.inr ⟨rfl, by omega⟩⟩, by omega, Or.inr (by rw [l1, mid]; exact fun z => by cases z), fun j j1 j2 => hi j j1 (by omega)⟩
    · by_cases c3 : q = e + 2
      · subst c3
        rw [mid] at hq
        cases hq
        have l1 : ln 33 = 1 := rfl
        refine ⟨by omega, by decide, 33, h2, ⟨⟨by decide, by decide, by decide⟩, fun z => by unfold PLn at z; omega, fun z => by omega, fun z => by omega, fun z => by omega, fun z => by omega, fun z => by omega, fun _ => Nat.le_refl _⟩, by omega, Or.inl (by omega), fun j j1 j2 => by omega⟩
      · rw [hi q (by omega) c3] at hq
        cases hq
theorem tyf_low (T : TYf w g CP b E) (hw : ∀ j, b ≤ j → w' j = w j) (hC : ∀ a m, CP a m → CP' a m) : TYf w' g CP' b E := by
  obtain ⟨t1, t2, t3⟩ := T
  refine ⟨t1, t2, fun q h k hq => ?_⟩
  have bq : b ≤ q := by
    by_cases cb : b ≤ q
    · exact cb
    · rw [t2 q (by omega)] at hq
      cases hq
  obtain ⟨p1, p2, np, p3, p4, p5, p6, p7⟩ := t3 q h k hq
  exact ⟨p1, p2, np, by rw [hw q bq]; exact p3, by rw [hw _ (by omega)]; exact opk_mono (fun _ _ z => z) hC id p4, p5, p6, p7⟩
theorem tr_wk2 (w : WKs ρ s) (k : Kp [(4, 1), (6, 6), (6, 10), (6, 15), (6, 17)] [24, 48] s t) (hs : (t 6 15).toInt ≤ 1000 ∧ -1000 ≤ (t 6 15).toInt) (hw : ∀ j, j < clen ρ → (t 24) j = (s 24) j) (hl : clen ρ ≤ clen t) (h0 : 0 ≤ (t 4 1).toInt) : WKs ρ t := by
  obtain ⟨h1, ⟨u1, u2, u3, u4, u5⟩, ⟨o1, o2, o3, o4⟩, h4, h5⟩ := w
  have e1 : (t 5 1) = (s 5 1) := k 5 1 rfl rfl
  have e2 : (t 6 7) = (s 6 7) := k 6 7 rfl rfl
  have e5 : (t 15) = (s 15) := funext (fun j => k 15 j rfl rfl)
  refine ⟨ko_tr h1 (ko_sub (ko_kp k) (by decide) (by decide)), ⟨by unfold PLA; rw [e5]; exact u1, by rw [e2]; exact u2, by rw [e1, e2]; exact u3, hs, fun j q => ?_⟩, ⟨by rw [e1, e2]; exact o1, fun j hj => ?_, fun j hj => (hw j hj).trans (o3 j hj), hl⟩, h0, nme_k e1 (k 5 7 rfl rfl) (fun d => k 29 d rfl rfl) h5⟩
  · rw [show t 27 j = s 27 j from k 27 j rfl rfl]
    rw [show t 25 j = s 25 j from k 25 j rfl rfl] at q
    exact u5 j q
  · rw [show t 25 j = s 25 j from k 25 j rfl rfl, show t 26 j = s 26 j from k 26 j rfl rfl, show t 27 j = s 27 j from k 27 j rfl rfl, show t 28 j = s 28 j from k 28 j rfl rfl, show t 29 j = s 29 j from k 29 j rfl rfl]
    exact o2 j hj
theorem cp_tr2 (k : Kp [(4, 1), (6, 6), (6, 10), (6, 15), (6, 17)] [24, 48] s t) : ∀ a m, CPu s a m → CPu t a m := fun a m hq => by
  unfold CPu at hq ⊢
  rw [show t 5 1 = s 5 1 from k 5 1 rfl rfl, show t 6 7 = s 6 7 from k 6 7 rfl rfl, show t 25 = s 25 from funext (fun j => k 25 j rfl rfl), show t 39 = s 39 from funext (fun j => k 39 j rfl rfl), show t 27 = s 27 from funext (fun j => k 27 j rfl rfl)]
  exact hq
def hdW (w : Nat → Int32) (hd : Nat) (v0 v1 v2 v3 : Int32) : Nat → Int32 := fun i => if i = hd + 3 then v3 else if i = hd + 2 then v2 else if i = hd + 1 then v1 else if i = hd then v0 else w i
theorem setv4 {f : Nat → Int32} {v0 v1 v2 v3 : Int32} (hx : x.toInt = hd) (hb : hd + 4 < 262208) : setv 262208 (setv 262208 (setv 262208 (setv 262208 f x v0) (x + (1 : Int32)) v1) (x + (2 : Int32)) v2) (x + (3 : Int32)) v3 = hdW f hd v0 v1 v2 v3 := by
  have h1 : (x + (1 : Int32)).toInt = ((hd + 1 : Nat) : Int) := by rw [ad0 i1 (by omega) (by omega)]; omega
  have h2 : (x + (2 : Int32)).toInt = ((hd + 2 : Nat) : Int) := by rw [ad0 i2 (by omega) (by omega)]; omega
  have h3 : (x + (3 : Int32)).toInt = ((hd + 3 : Nat) : Int) := by rw [ad0 i3 (by omega) (by omega)]; omega
  rw [setv_at hx (by omega), setv_at h1 (by omega), setv_at h2 (by omega), setv_at h3 (by omega)]
  rfl
theorem ws_fnEnd {Q : St → Prop} (wk : WKs ρ σ) (h : WSx ρ σ 1 [] [] Nb b e0 H0 g X) (cap : (σ 4 1).toInt ≤ 262150) (k : ∀ s, KWk σ s → WKs ρ s → (s 5 7) = (σ 5 7) → ((s 6 3).toInt = 0 → ∃ Nb' b' e1 g' X', WSx ρ s 0 [] [] Nb' b' e1 0 g' X' ∧ clen s ≤ clen σ + 3) → Q s) : wk_X1_functionEnd σ Q := by
  obtain ⟨⟨n1, n2, n3⟩, h2, h3, h4, h5, h6, h7, h8⟩ := h
  have fn := (h7 (Nat.le_refl _)).1
  have H00 : H0 = 0 := by
    by_cases c : H0 = 0
    · exact c
    · exfalso
      obtain ⟨⟨K2, e2⟩, -⟩ := (h7 (Nat.le_refl _)).2 c
      cases e2
  subst H00
  obtain ⟨d, f1, f2, f3, f4, f5, f6, f7, f8, f9, b1, b2, b3, b4, b5⟩ := fn
  obtain ⟨T, cx, cnt, l0, op0, bd⟩ := sb_nil h2
  have hX : ∀ q, ¬ X q := cx
  have c0 := clen_eq l0
  have bb := T.1
  have udec := wk.2.1.2.2.1
  have d10 : d < 10100 := by omega
  unfold wk_X1_functionEnd
  refine sk_emit (n := 1) rfl (by decide) l0 (by omega) (fun v8 s8 _ em1 => ?_)
  have ec1 := em_clen em1 (n := 1) rfl l0
  have el1 := em_len em1 (m := 1) rfl
  have l1 : ln 1 = 2 := rfl
  refine sk_emit (n := 33) rfl (by decide) (by omega) (by omega) (fun v21 s21 _ em2 => ?_)
  have ec2 := em_clen em2 (n := 33) rfl (by omega)
  have el2 := em_len em2 (m := 33) rfl
  have l33 : ln 33 = 1 := rfl
  have es : clen s8 = clen σ + 2 := by omega
  have et : clen s21 = clen σ + 3 := by omega
  have lt21 : (s21 4 1).toInt = (σ 4 1).toInt + 3 := by omega
  have k21 : Kp [(4, 1)] [24] σ s21 := kp_tr em1.1 em2.1
  obtain ⟨g', TF⟩ := tyf_of (w' := (s21 24)) (CP' := CPu s21) T hX bd (fun j hj => (em2.2.2.1 j (by omega)).trans (em1.2.2.1 j hj)) (by rw [em2.2.2.1 _ (by omega), em1.2.2.2.1]; rfl) (by rw [← es, em2.2.2.2.1]; rfl) (fun a m z => by
    unfold CPu at z ⊢
    rw [show s21 5 1 = σ 5 1 from k21 5 1 rfl rfl, show s21 6 7 = σ 6 7 from k21 6 7 rfl rfl, show s21 25 = σ 25 from funext (fun j => k21 25 j rfl rfl), show s21 39 = σ 39 from funext (fun j => k21 39 j rfl rfl), show s21 27 = σ 27 from funext (fun j => k21 27 j rfl rfl)]
    exact z)
  have w21 : ∀ j, j < clen σ → (s21 24) j = (σ 24) j := fun j hj => (em2.2.2.1 j (by omega)).trans (em1.2.2.1 j hj)
  have e66 : s21 6 6 = σ 6 6 := k21 6 6 rfl rfl
  have e610 : s21 6 10 = σ 6 10 := k21 6 10 rfl rfl
  have e28 : s21 28 = σ 28 := funext (fun j => k21 28 j rfl rfl)
  have e27 : s21 27 = σ 27 := funext (fun j => k21 27 j rfl rfl)
  have e42 : s21 42 = σ 42 := funext (fun j => k21 42 j rfl rfl)
  have a28 : atv 10100 (s21 28) (s21 6 6) = (σ 28) d := by rw [e28, e66]; exact atv_at f1 d10
  have a27 : atv 10100 (s21 27) (s21 6 6) = (σ 27) d := by rw [e27, e66]; exact atv_at f1 d10
  unfold wk_X8_parameters
  rw [a28, a27]
  have v60 : (ushr ((σ 27) d) (24 : Int32)).toInt = (spar ((σ 27) d) : Nat) := by
    have := ushr_nn (x := (σ 27) d)
    unfold spar
    omega
  generalize ushr ((σ 27) d) (24 : Int32) = v6 at v60 ⊢
  refine ⟨fun n x3 x4 x5 s => n = ((σ 6 10).toInt - x5.toInt).toNat ∧ (0 ≤ x5.toInt ∧ x5.toInt ≤ (σ 6 10).toInt) ∧ (0 ≤ x3.toInt ∧ x3.toInt ≤ 4000 * x5.toInt) ∧ Kp [] [48] s21 s, ⟨_, rfl, ⟨by decide, f9.1⟩, ⟨by decide, by decide⟩, kp_rf⟩, ?_⟩
  rintro n x3 x4 x5 s ⟨hn, hx5, hx3, ks⟩
  have s610 : s 6 10 = σ 6 10 := (ks 6 10 rfl rfl).trans e610
  rw [s610]
  refine ⟨fun c => ?_, fun c => ?_⟩
  · -- the code is settled
    rw [rdF_eq, rdF_eq, rdF_eq]
    have hv : ((σ 28) d).toInt = Nb := f6
    rw [setv4 hv (by omega)]
    generalize hu : upF (upF (upF (upF s 24 _) 24 _) 24 _) 24 (hdW (s 24) Nb x3 (σ 6 10) v6 x4) = u
    have u24 : u 24 = hdW (s 24) Nb x3 (σ 6 10) v6 x4 := by rw [← hu]; exact rdF_eq
    have uo : ∀ c, c ≠ 24 → u c = s c := fun c hc => by rw [← hu, rdF_ne hc, rdF_ne hc, rdF_ne hc, rdF_ne hc]
    have s24 : s 24 = s21 24 := funext (fun j => ks 24 j rfl rfl)
    have ku : Kp [] [24, 48] s21 u := by
      rw [← hu]
      exact kp_F (kp_F (kp_F (kp_F (kp_sub ks rfl rfl) rfl) rfl) rfl) rfl
    have u4 : u 4 1 = s21 4 1 := ku 4 1 rfl rfl
    have ecu : clen u = clen σ + 3 := by unfold clen at et ⊢; rw [u4]; exact et
    have ex4 : ((σ 28) d + (4 : Int32)).toInt = b := by rw [ad0 i4 (by omega) (by omega)]; omega
    have TU : TYf (u 24) g' (CPu u) b (clen σ + 3) := tyf_low TF (fun j hj => by
      show u 24 j = s21 24 j
      rw [u24, s24]
      unfold hdW
      rw [if_neg (by omega), if_neg (by omega), if_neg (by omega), if_neg (by omega)]) (fun a m z => by
      unfold CPu at z ⊢
      rw [show u 5 1 = s21 5 1 from ku 5 1 rfl rfl, show u 6 7 = s21 6 7 from ku 6 7 rfl rfl, show u 25 = s21 25 from funext (fun j => ku 25 j rfl rfl), show u 39 = s21 39 from funext (fun j => ku 39 j rfl rfl), show u 27 = s21 27 from funext (fun j => ku 27 j rfl rfl)]
      exact z)
    have hE : ((clen σ + 3 : Nat) : Int) = (u 4 1).toInt := by rw [u4, lt21]; omega
    have wU : ∀ j, j < Nb → u 24 j = σ 24 j := fun j hj => by
      rw [u24, s24]
      unfold hdW
      rw [if_neg (by omega), if_neg (by omega), if_neg (by omega), if_neg (by omega)]
      exact w21 j (by omega)
    -- after settling and threading
    have fin : ∀ s9, Kp [] [24] u s9 → TYf (s9 24) g' (CPu u) b (clen σ + 3) → (∀ j, j < b → (s9 24) j = (u 24) j) → wk_X11_leave s9 (fun s283 => Q s283) := fun s9 k9 T9 w9 => by
      unfold wk_X11_leave
      generalize ht : upC (upC (upC (upC s9 6 6 ((-1) : Int32)) 6 10 (0 : Int32)) 6 15 (0 : Int32)) 6 17 (0 : Int32) = t
      have kt9 : Kp [(6, 6), (6, 10), (6, 15), (6, 17)] [] s9 t := by
        rw [← ht]
        exact kp_f (kp_f (kp_f (kp_f kp_rf rfl) rfl) rfl) rfl
      have kt : Kp [(4, 1), (6, 6), (6, 10), (6, 15), (6, 17)] [24, 48] σ t := kp_tr (kp_sub k21 rfl rfl) (kp_tr (kp_sub ku rfl rfl) (kp_tr (kp_sub k9 rfl rfl) (kp_sub kt9 rfl rfl)))
      have t66 : t 6 6 = -1 := by rw [← ht, rdA_ne (by decide), rdA_ne (by decide), rdA_ne (by decide), rdA_eq rfl]
      have t615 : t 6 15 = 0 := by rw [← ht, rdA_ne (by decide), rdA_eq rfl]
      have t4 : t 4 1 = s21 4 1 := (kt9 4 1 rfl rfl).trans ((k9 4 1 rfl rfl).trans u4)
      have ect : clen t = clen σ + 3 := by unfold clen at et ⊢; rw [t4]; exact et
      have t24 : t 24 = s9 24 := funext (fun j => kt9 24 j rfl rfl)
      have lT : (t 4 1).toInt = (σ 4 1).toInt + 3 := by rw [t4]; exact lt21
      have wT : ∀ j, j < Nb → t 24 j = σ 24 j := fun j hj => by rw [t24]; exact (w9 j (by omega)).trans (wU j hj)
      have cpt := cp_tr2 kt
      have cput : ∀ a m, CPu u a m → CPu t a m := fun a m z => by
        unfold CPu at z ⊢
        rw [show t 5 1 = u 5 1 from (kt9 5 1 rfl rfl).trans (k9 5 1 rfl rfl), show t 6 7 = u 6 7 from (kt9 6 7 rfl rfl).trans (k9 6 7 rfl rfl), show t 25 = u 25 from funext (fun j => (kt9 25 j rfl rfl).trans (k9 25 j rfl rfl)), show t 39 = u 39 from funext (fun j => (kt9 39 j rfl rfl).trans (k9 39 j rfl rfl)), show t 27 = u 27 from funext (fun j => (kt9 27 j rfl rfl).trans (k9 27 j rfl rfl))]
        exact z
      obtain ⟨gg, sb'⟩ := sb_fresh (s := t) (K := []) (by rw [show t 7 7 = σ 7 7 from kt 7 7 rfl rfl]; exact cnt) (by omega) (by rw [show t 9 5 = σ 9 5 from kt 9 5 rfl rfl]; exact op0) (Or.inl rfl)
      refine k t (ko_sub (ko_kp kt) (by decide) (by decide)) (tr_wk2 wk kt (by rw [t615]; decide) (fun j hj => wT j (by omega)) (by omega) (by omega)) (kt 5 7 rfl rfl) (fun _ => ⟨clen σ + 3, clen t, clen t, gg, _, ⟨⟨by omega, by omega, Nat.le_refl _⟩, se_nil sb', ?_, by decide, trivial, fun _ => ⟨by rw [t66]; rfl, Or.inl rfl⟩, fun z => absurd z (by decide), fun z => absurd z (by rintro ⟨c1, K1, q, -⟩; cases q)⟩, by omega⟩)
      intro d' q1 q2 q3 q4 q5
      rw [show t 5 1 = σ 5 1 from kt 5 1 rfl rfl, show t 6 7 = σ 6 7 from kt 6 7 rfl rfl] at q1
      rw [show t 5 1 = σ 5 1 from kt 5 1 rfl rfl] at q2
      rw [show t 25 d' = σ 25 d' from kt 25 d' rfl rfl] at q3 q4
      rw [show t 28 d' = σ 28 d' from kt 28 d' rfl rfl, show t 27 d' = σ 27 d' from kt 27 d' rfl rfl]
      by_cases e : d' = d
      · rw [e]
        have hb4 : ∀ i, i < 4 → t 24 (Nb + i) = hdW (s 24) Nb x3 (σ 6 10) v6 x4 (Nb + i) := fun i hi => by
          rw [t24]
          exact (w9 _ (by omega)).trans (congrFun u24 _)
        have T9' : TYf (t 24) g' (CPu t) b (clen σ + 3) := tyf_low T9 (fun j _ => by rw [t24]) cput
        refine ⟨Nb, (σ 6 10).toInt.toNat, g', f6, tyf_fun T9' f7 (by omega) ?_ ?_ (by omega) ?_ f8⟩
        · rw [show (t 24) Nb = x3 from by
            have := hb4 0 (by decide)
            rw [Nat.add_zero] at this
            rw [this]
            unfold hdW
            rw [if_neg (by omega), if_neg (by omega), if_neg (by omega), if_pos rfl]]
          omega
        · rw [show (t 24) (Nb + 1) = (σ 6 10) from by
            rw [hb4 1 (by decide)]
            unfold hdW
            rw [if_neg (by omega), if_neg (by omega), if_pos rfl]]
          omega
        · rw [show (t 24) (Nb + 2) = v6 from by
            rw [hb4 2 (by decide)]
            unfold hdW
            rw [if_neg (by omega), if_pos rfl]]
          exact v60
      · obtain ⟨hd', L, g9, y1, y2⟩ := h3 d' q1 q2 q3 q4 (by rw [f1]; omega)
        exact ⟨hd', L, g9, y1, fune_mono wT cpt (by omega) y2⟩
    refine sp_settle (E := clen σ + 3) TU hE (by omega) (by omega) ex4 (fun s255 k255 T255 w255 => ?_)
    refine ⟨fun s9 => Kp [] [24] u s9 ∧ TYf (s9 24) g' (CPu u) b (clen σ + 3) ∧ (∀ j, j < b → (s9 24) j = (u 24) j), fun s9 h9 => fin s9 h9.1 h9.2.1 h9.2.2, fun _ => ⟨k255, T255, w255⟩, fun _ => ?_⟩
    refine sp_thread (E := clen σ + 3) T255 (by rw [show s255 4 1 = u 4 1 from k255 4 1 rfl rfl]; exact hE) (by omega) (by omega) ex4 (fun s276 k276 T276 w276 => ⟨kp_tr k255 k276, T276, fun j hj => (w276 j hj).trans (w255 j hj)⟩)
  · -- a local's place
    have n100 : x5.toInt < 100 := by omega
    obtain ⟨j5, hj5⟩ : ∃ j5 : Nat, x5.toInt = j5 := ⟨x5.toInt.toNat, by omega⟩
    have sz : (atv 100 (s 42) x5).toInt ≤ 4000 := by
      rw [show s 42 = σ 42 from (funext (fun j => ks 42 j rfl rfl)).trans e42, atv_at hj5 (by omega)]
      exact b4 j5 (by omega)
    have up : (x5 + 1).toInt = x5.toInt + 1 := ad1 (by omega)
    refine ⟨fun _ => True, fun y0 _ _ => ?_, fun _ => trivial, fun _ => trivial⟩
    refine ⟨fun _ => True, fun y2 _ => ?_, fun _ => trivial, fun _ => trivial⟩
    refine ⟨fun _ => True, fun y1 _ => ?_, True, fun _ => trivial, fun _ => trivial, fun _ => ⟨fun _ => trivial, fun _ => trivial⟩⟩
    refine ⟨fun y => 0 ≤ y.toInt ∧ y.toInt ≤ 4000, fun y17 hy17 => ⟨((σ 6 10).toInt - (x5 + 1).toInt).toNat, by rw [up]; omega, rfl, by rw [up]; omega, by rw [up, ad (by omega) (by omega)]; omega, kp_F ks rfl⟩, fun _ => ⟨by decide, by decide⟩, fun _ => ?_⟩
    by_cases cc : atv 100 (s 42) x5 < (1 : Int32)
    · rw [if_pos cc]
      exact ⟨by decide, by decide⟩
    · rw [if_neg cc]
      have : ¬ (atv 100 (s 42) x5).toInt < 1 := fun q => cc (Int32.lt_iff_toInt_lt.mpr (by rw [i1]; exact q))
      exact ⟨by omega, sz⟩
end FEN
