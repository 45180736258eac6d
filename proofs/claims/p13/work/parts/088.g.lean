section
/-! the walk: a function's step -/
section FU3
variable {σ s z t ρ : St} {g g' g1 : Gh} {X X0 Y : Nat → Prop} {b e e0 e' h h' H H0 H' L L' m n N N' Nb c d p tt j i F F' k B : Nat} {K K2 M E G D : List Nat} {A : List It} {x y v a op a1 a2 a3 : Int32}
theorem dca_pf (hv : DVx σ s d) (h6 : (d : Int) < (σ 5 1).toInt → FLb ((σ 25) d) 1 ∧ (σ 27) d = a2 ∧ (s 27) d = a2 ∧ ((s 25) d &&& 4 = (σ 25) d &&& 4) ∧ (FLb ((σ 25) d) 8 → FLb ((s 25) d) 8) ∧ (s 28) d = (σ 28) d ∧ FLb ((s 25) d) 1) : DCa σ s d := fun c => by
  obtain ⟨q1, q2, q3, q4, q5, q6, q7⟩ := h6 c
  exact Or.inr ⟨by rw [q3, q2], q7, q5⟩
theorem tr_wk (w : WKs ρ s) (k : Kp [(4, 1), (6, 6), (6, 10), (6, 15), (6, 17)] [45] s t) (hs : (t 6 15).toInt ≤ 1000 ∧ -1000 ≤ (t 6 15).toInt) (hl : clen ρ ≤ clen t) (h0 : 0 ≤ (t 4 1).toInt) : WKs ρ t := by
  obtain ⟨h1, ⟨u1, u2, u3, u4, u5⟩, ⟨o1, o2, o3, o4⟩, h4, h5⟩ := w
  have e1 : (t 5 1) = (s 5 1) := k 5 1 rfl rfl
  have e2 : (t 6 7) = (s 6 7) := k 6 7 rfl rfl
  have e5 : (t 15) = (s 15) := funext (fun j => k 15 j rfl rfl)
  refine ⟨ko_tr h1 (ko_sub (ko_kp k) (by decide) (by decide)), ⟨by unfold PLA; rw [e5]; exact u1, by rw [e2]; exact u2, by rw [e1, e2]; exact u3, hs, fun j q => ?_⟩, ⟨by rw [e1, e2]; exact o1, fun j hj => ?_, fun j hj => (k 24 j rfl rfl).trans (o3 j hj), hl⟩, h0, nme_k e1 (k 5 7 rfl rfl) (fun d => k 29 d rfl rfl) h5⟩
  · rw [show t 27 j = s 27 j from k 27 j rfl rfl]
    rw [show t 25 j = s 25 j from k 25 j rfl rfl] at q
    exact u5 j q
  · rw [show t 25 j = s 25 j from k 25 j rfl rfl, show t 26 j = s 26 j from k 26 j rfl rfl, show t 27 j = s 27 j from k 27 j rfl rfl, show t 28 j = s 28 j from k 28 j rfl rfl, show t 29 j = s 29 j from k 29 j rfl rfl]
    exact o2 j hj
theorem cp_tr (k : Kp [(4, 1), (6, 6), (6, 10), (6, 15), (6, 17)] [45] s t) : ∀ a m, CPu s a m → CPu t a m := fun a m hq => by
  unfold CPu at hq ⊢
  rw [show t 5 1 = s 5 1 from k 5 1 rfl rfl, show t 6 7 = s 6 7 from k 6 7 rfl rfl, show t 25 = s 25 from funext (fun j => k 25 j rfl rfl), show t 39 = s 39 from funext (fun j => k 39 j rfl rfl), show t 27 = s 27 from funext (fun j => k 27 j rfl rfl)]
  exact hq
theorem ws_func {Q : St → Prop} (wk : WKs ρ σ) (h : WSx ρ σ 0 [] [] Nb b e0 H0 g X) (nm : NMr σ) (by' : ByteOK (σ 1)) (tk : tkx σ a1 = 2) (hd : (σ 5 1).toInt - (σ 6 7).toInt ≤ 10000) (hn : (σ 5 7).toInt + (vlx σ a1).toNat ≤ 65600) (sp : spar a2 ≤ 8) (cap : (σ 4 1).toInt ≤ 262150) (hM : (b4 a3 ∧ m = 1 + spar a2) ∨ (¬ b4 a3 ∧ m = 0)) (k : ∀ s, KWk σ s → WKs ρ s → (s 5 7).toInt ≤ (σ 5 7).toInt + (vlx σ a1).toNat → ((s 6 3).toInt = 0 → ∃ Nb' b' e1 g' X', WSx ρ s m [] [] Nb' b' e1 0 g' X' ∧ clen s ≤ clen σ + 4) → Q s) : wk_X1_function a1 a2 a3 σ Q := by
  obtain ⟨⟨n1, n2, n3⟩, h2, h3, h4, h5, h6, h7, h8⟩ := h
  obtain ⟨f0, -⟩ := h6 rfl
  have sb := sb_nil h2
  have c00 := sb.2.2.1
  have l00 := sb.2.2.2.1
  have o00 : (σ 9 5).toInt = 0 := sb.2.2.2.2.1
  have cσ := clen_eq l00
  have bb := sb.1.1
  refine sp_func wk nm by' tk hd hn (fun s fs ff => ?_) (fun nb s y hp => ?_) (fun nb s y hp hnd => ?_)
  · have q := fs.1
    have ql := fa_l fs
    have e4 : (s 4 1) = (σ 4 1) := q 4 1 rfl rfl
    have ecl : clen s = clen σ := by unfold clen; rw [e4]
    exact k s (kl_wk0 ql) (kl_wk wk ql (by rw [show s 6 15 = σ 6 15 from q 6 15 rfl rfl]; exact wk.2.1.2.2.2.1) (fun j _ => q 24 j rfl rfl) (by rw [ecl]; exact wk.2.2.1.2.2.2) (by rw [e4]; exact l00)) (by rw [show s 5 7 = σ 5 7 from q 5 7 rfl rfl]; omega) (fun z => absurd z ff)
  · have hm : m = 0 := by
      rcases hM with q | q
      · exact absurd q.1 nb
      · exact q.2
    subst hm
    obtain ⟨d, d1, d2, dv, d4, d5, d6, d7, d8⟩ := hp
    obtain ⟨r1, r2, r3, r4, r5, r6, r7⟩ := ku_rows dv.1
    have dca := dca_pf dv d6
    have ecl : clen s = clen σ := by unfold clen; rw [r2]
    have wks : WKs ρ s := wk_dv wk dv r7 (fun _ => by rw [d5 (Nat.le_refl _)]; exact sp) (by rw [r6]; exact wk.2.1.2.2.2.1) (fun j _ => by rw [r1]) (by rw [ecl]; exact wk.2.2.1.2.2.2) (by rw [r2]; exact l00)
    obtain ⟨g', sb'⟩ := sb_fresh (s := s) (K := []) (by rw [r3]; exact c00) (by rw [r2]; exact l00) (by rw [r4]; exact o00) (Or.inl rfl)
    refine k s r7 wks d8 (fun _ => ⟨Nb, clen s, clen s, g', _, ⟨⟨n1, by omega, Nat.le_refl _⟩, se_nil sb', uf_dv dv dca f0 (fun j _ => by rw [r1]) (fun q1 q4 q5 => ?_) h3, by decide, trivial, fun _ => ⟨by rw [r5]; exact f0, Or.inl rfl⟩, fun z => absurd z (by decide), fun z => absurd z (by rintro ⟨c1, K1, q, -⟩; cases q)⟩, by omega⟩)
    by_cases lt : (d : Int) < (σ 5 1).toInt
    · obtain ⟨p1, p2, p3, p4, p5, p6, p7⟩ := d6 lt
      have q4' : FLb ((σ 25) d) 4 := by
        unfold FLb at q4 ⊢
        rw [p4] at q4
        exact q4
      obtain ⟨hd', L, g9, a1', a2'⟩ := h3 d dv.2.2.1.1 lt p1 q4' (by rw [f0]; omega)
      exact ⟨hd', L, g9, by rw [p6]; exact a1', by rw [p3, ← p2]; exact fune_mono (fun j _ => by rw [r1]) (cp_dv dv dca) (Nat.le_refl _) a2'⟩
    · exact absurd q4 (d7 (by omega))
  · have hm : m = 1 + spar a2 := by
      rcases hM with q | q
      · exact q.2
      · exact absurd nb q.1
    obtain ⟨d, d1, d2, dv, d4, d5, d6, d7, d8⟩ := hp
    unfold wk_X8_mark
    rw [setv_at d1 d2, atv_at d1 d2]
    have dv1 : DVx σ (upF s 25 (fun k => if k = d then (s 25) d ||| 4 else (s 25) k)) d := dv_row dv (Or.inl rfl) (fun j hj => if_neg hj)
    generalize hs1 : upF s 25 (fun k => if k = d then (s 25) d ||| 4 else (s 25) k) = s1 at dv1 ⊢
    have f1 : ∀ c, c ≠ 25 → s1 c = s c := fun c hc => by rw [← hs1]; exact rdF_ne hc
    have fd : s1 25 d = (s 25) d ||| 4 := by
      rw [← hs1, rdF_eq]
      exact if_pos rfl
    have s4 : s1 4 1 = σ 4 1 := by rw [f1 4 (by decide)]; exact dv.1 4 1 rfl rfl
    have z14 : (4 : Int32) &&& 1 = 0 := by decide
    have z84 : (4 : Int32) &&& 8 = 0 := by decide
    have fl1 : FLb (s1 25 d) 1 := by
      have := d4 (by decide)
      unfold FLb at this ⊢
      rw [fd, and_or, z14, Int32.or_zero]
      exact this
    have fl4 : FLb (s1 25 d) 4 := by
      rw [fd]
      exact flb_set (by decide)
    show wk_X0_header s1 _
    unfold wk_X0_header
    rw [s4]
    refine ⟨fun c => by omega, fun _ => ?_⟩
    show wk_X11_enter y (upF (upC s1 4 1 ((σ 4 1) + (4 : Int32))) 28 (setv 10100 ((upC s1 4 1 ((σ 4 1) + (4 : Int32))) 28) y (σ 4 1))) _
    have e28 : (upC s1 4 1 ((σ 4 1) + (4 : Int32))) 28 = s1 28 := rdC_ne (by decide)
    rw [e28, setv_at d1 d2]
    unfold wk_X11_enter wk_X11_leave wk_X11_open
    dsimp only
    have dv2 : DVx σ (upF s1 28 (fun k => if k = d then (σ 4 1) else s1 28 k)) d := dv_row dv1 (Or.inr (Or.inr (Or.inr rfl))) (fun j hj => if_neg hj)
    generalize hs2 : upF s1 28 (fun k => if k = d then (σ 4 1) else s1 28 k) = s2 at dv2
    have f2 : ∀ c, c ≠ 28 → s2 c = s1 c := fun c hc => by rw [← hs2]; exact rdF_ne hc
    have v2 : s2 28 = fun k => if k = d then (σ 4 1) else s1 28 k := by rw [← hs2]; exact rdF_eq
    generalize hu : upC (upC (upC (upC (upC (upF (upC s1 4 1 ((σ 4 1) + (4 : Int32))) 28 (fun k => if k = d then (σ 4 1) else s1 28 k)) 6 6 ((-1) : Int32)) 6 10 (0 : Int32)) 6 15 (0 : Int32)) 6 17 (0 : Int32)) 6 6 y = u
    have uc : ∀ c, c ≠ 4 → c ≠ 6 → u c = s2 c := fun c c4 c6 => by
      rw [← hu, rdC_ne c6, rdC_ne c6, rdC_ne c6, rdC_ne c6, rdC_ne c6]
      by_cases e : c = 28
      · subst e
        rw [rdF_eq, v2]
      · rw [rdF_ne e, rdC_ne c4, f2 c e]
    have u4 : u 4 1 = (σ 4 1) + (4 : Int32) := by
      rw [← hu, rdC_ne (by decide), rdC_ne (by decide), rdC_ne (by decide), rdC_ne (by decide), rdC_ne (by decide), rdF_ne (by decide), rdA_eq rfl]
    have u4' : ∀ q, q ≠ 1 → u 4 q = s2 4 q := fun q hq => by
      rw [← hu, rdC_ne (by decide), rdC_ne (by decide), rdC_ne (by decide), rdC_ne (by decide), rdC_ne (by decide), rdF_ne (by decide), rdA_ne hq, f2 4 (by decide)]
    have u66 : u 6 6 = y := by rw [← hu, rdA_eq rfl]
    have u610 : u 6 10 = 0 := by rw [← hu, rdA_ne (by decide), rdA_ne (by decide), rdA_ne (by decide), rdA_eq rfl]
    have u615 : u 6 15 = 0 := by rw [← hu, rdA_ne (by decide), rdA_ne (by decide), rdA_eq rfl]
    have u617 : u 6 17 = 0 := by rw [← hu, rdA_ne (by decide), rdA_eq rfl]
    have u6 : ∀ q, q ≠ 6 → q ≠ 10 → q ≠ 15 → q ≠ 17 → u 6 q = s2 6 q := fun q q6 q10 q15 q17 => by
      rw [← hu, rdA_ne q6, rdA_ne q17, rdA_ne q15, rdA_ne q10, rdA_ne q6, rdF_ne (by decide), rdC_ne (by decide), f2 6 (by decide)]
    have ku : Kp [(4, 1), (6, 6), (6, 10), (6, 15), (6, 17)] [45] s2 u := fun c q h1 h2 => by
      by_cases c4 : c = 4
      · subst c4
        by_cases q1 : q = 1
        · subst q1
          cases h1
        · exact u4' q q1
      · by_cases c6 : c = 6
        · subst c6
          by_cases q6 : q = 6
          · subst q6; cases h1
          · by_cases q10 : q = 10
            · subst q10; cases h1
            · by_cases q15 : q = 15
              · subst q15; cases h1
              · by_cases q17 : q = 17
                · subst q17; cases h1
                · exact u6 q q6 q10 q15 q17
        · rw [uc c c4 c6]
    rw [u617, u615]
    generalize ht : upC (upF u 45 (setv 52 (u 45) (0 : Int32) (0 : Int32))) 6 17 ((0 : Int32) + (1 : Int32)) = t
    have kt : Kp [(4, 1), (6, 6), (6, 10), (6, 15), (6, 17)] [45] s2 t := by
      rw [← ht]
      exact kp_f (kp_F ku rfl) rfl
    have t4 : t 4 1 = (σ 4 1) + (4 : Int32) := by rw [← ht, rdC_ne (by decide), rdF_ne (by decide)]; exact u4
    have t4' : (t 4 1).toInt = (σ 4 1).toInt + 4 := by rw [t4]; exact ad0 i4 (by omega) (by omega)
    have ct := clen_eq (σ := t) (by rw [t4']; omega)
    have ect : clen t = clen σ + 4 := by
      rw [t4'] at ct
      omega
    have t66 : t 6 6 = y := by rw [← ht, rdA_ne (by decide), rdF_ne (by decide)]; exact u66
    have t610 : t 6 10 = 0 := by rw [← ht, rdA_ne (by decide), rdF_ne (by decide)]; exact u610
    have t615 : t 6 15 = 0 := by rw [← ht, rdA_ne (by decide), rdF_ne (by decide)]; exact u615
    have t617 : t 6 17 = (0 : Int32) + (1 : Int32) := by rw [← ht, rdA_eq rfl]
    have t45 : t 45 0 = 0 := by
      rw [← ht, rdC_ne (by decide), rdF_eq, setv_at (j := 0) rfl (by decide)]
      exact if_pos rfl
    obtain ⟨r1, r2, r3, r4, r5, r6, r7⟩ := ku_rows dv2.1
    have d5' := d5 (Nat.le_refl _)
    have e27 : s2 27 d = a2 := by rw [f2 27 (by decide), f1 27 (by decide)]; exact d5'
    have dca2 : DCa σ s2 d := fun c => by
      obtain ⟨p1, p2, p3, p4, p5, p6, p7⟩ := d6 c
      refine Or.inr ⟨by rw [e27, p2], by rw [f2 25 (by decide)]; exact fl1, fun z => ?_⟩
      have := p5 z
      unfold FLb at this ⊢
      rw [f2 25 (by decide), fd, and_or, z84, Int32.or_zero]
      exact this
    have ecl2 : clen s2 = clen σ := by unfold clen; rw [r2]
    have wk2 : WKs ρ s2 := wk_dv wk dv2 r7 (fun _ => by rw [e27]; exact sp) (by rw [r6]; exact wk.2.1.2.2.2.1) (fun j _ => by rw [r1]) (by rw [ecl2]; exact wk.2.2.1.2.2.2) (by rw [r2]; exact l00)
    have wkt : WKs ρ t := tr_wk wk2 kt (by rw [t615]; decide) (by omega) (by omega)
    have wt : t 24 = σ 24 := funext (fun j => (kt 24 j rfl rfl).trans (by rw [r1]))
    have dec : t 5 1 = s2 5 1 := kt 5 1 rfl rfl
    have out : t 6 7 = s2 6 7 := kt 6 7 rfl rfl
    have dv2' := dv2
    obtain ⟨k1, ⟨v1, v2', v3, v4⟩, ⟨w1, w2⟩, w3, w4, ⟨w5, w6⟩, w7⟩ := dv2'
    obtain ⟨g', sb'⟩ := sb_fresh (s := t) (K := []) (by rw [show t 7 7 = s2 7 7 from kt 7 7 rfl rfl, r3]; exact c00) (by omega) (by rw [show t 9 5 = s2 9 5 from kt 9 5 rfl rfl, r4]; exact o00) (Or.inl rfl)
    refine k t (ko_tr r7 (ko_sub (ko_kp kt) (by decide) (by decide))) wkt (by rw [show t 5 7 = s2 5 7 from kt 5 7 rfl rfl, f2 5 (by decide), f1 5 (by decide)]; exact d8) (fun _ => ⟨clen σ, clen t, clen t, g', _, ⟨⟨by omega, by omega, Nat.le_refl _⟩, se_nil sb', ?_, by decide, trivial, fun z => by omega, fun _ => ⟨⟨d, ?_, ?_, ?_, ?_, ?_, ?_, ect, ?_, ?_, ?_, ?_, ?_, ?_, fun _ => rfl⟩, fun z => absurd rfl z⟩, fun z => absurd z (by rintro ⟨c1, K1, q, -⟩; cases q)⟩, by omega⟩)
    · intro d' q1 q2 q3 q4 q5
      have ne : d' ≠ d := fun e => q5 (by rw [t66, d1, e])
      rw [dec, out] at q1
      rw [dec] at q2
      obtain ⟨x1, x2, x3, x4, x5⟩ := w3 d' ne
      rw [show t 25 d' = s2 25 d' from kt 25 d' rfl rfl, x1] at q3 q4
      have lt : (d' : Int) < (σ 5 1).toInt := by
        by_cases cc : (d' : Int) < (σ 5 1).toInt
        · exact cc
        · exact absurd (w6 d' (by omega) q2) ne
      obtain ⟨hd', L, g9, y1, y2⟩ := h3 d' (by omega) lt q3 q4 (by rw [f0]; omega)
      refine ⟨hd', L, g9, by rw [show t 28 d' = s2 28 d' from kt 28 d' rfl rfl, x4]; exact y1, ?_⟩
      rw [show t 27 d' = s2 27 d' from kt 27 d' rfl rfl, x3]
      exact fune_mono (fun j _ => by rw [wt]) (fun a m z => cp_tr kt a m (cp_dv dv2 dca2 a m z)) (by omega) y2
    · rw [t66]
      exact d1
    · rw [dec, out]
      omega
    · rw [dec]
      omega
    · rw [show t 25 d = s2 25 d from kt 25 d rfl rfl, f2 25 (by decide)]
      exact fl1
    · rw [show t 25 d = s2 25 d from kt 25 d rfl rfl, f2 25 (by decide)]
      exact fl4
    · rw [show t 28 d = s2 28 d from kt 28 d rfl rfl, v2]
      show (if d = d then (σ 4 1) else s1 28 d).toInt = _
      rw [if_pos rfl]
      omega
    · rw [show t 27 d = s2 27 d from kt 27 d rfl rfl, e27]
      exact sp
    · rw [t610, i0]
      omega
    · rw [t610, t615]
      exact ⟨Int.le_refl _, Int.le_refl _⟩
    · rw [t617]
      rfl
    · intro j j1 j2
      rw [t617] at j2
      have j2' : (j : Int) < 1 := j2
      have : j = 0 := by omega
      rw [this, t45, t610]
      exact ⟨Int.le_refl _, Int.le_refl _⟩
    · intro j hj
      rw [t610, i0] at hj
      omega
end FU3
end

section
/-! the end of a function: its code whole, places settled, jumps threaded -/
/-- a function's code, whole: nothing reaches over its end -/
def TYf (w : Nat → Int32) (g : Gh) (CP : Int → Nat → Prop) (b E : Nat) : Prop := (∃ k, g b = some (0, k)) ∧ (∀ q, q < b → g q = none) ∧ ∀ q h k, g q = some (h, k) → q < E ∧ h ≤ 420 ∧ ∃ n : Nat, (w q).toInt = n ∧ OPk n (w (q + 1)).toInt g CP False q h k ∧ q + ln n ≤ E ∧ (q + ln n = E ∨ g (q + ln n) ≠ none) ∧ ∀ j, q < j → j < q + ln n → g j = none
section STL
variable {σ s z t ρ : St} {g g' g1 : Gh} {X X0 Y : Nat → Prop} {b e e0 e' h h' H H0 H' L L' m n N N' Nb c d p tt j i F F' k B q E hd : Nat} {K K2 M G D : List Nat} {A : List It} {x y v a op a1 a2 a3 : Int32} {w w' : Nat → Int32} {CP CP' : Int → Nat → Prop}
theorem tyf_fun (T : TYf w g CP b E) (hb : b = hd + 4) (hE : b < E) (h0 : 0 ≤ (w hd).toInt ∧ (w hd).toInt ≤ 1000000) (h1 : (w (hd + 1)).toInt = L) (hL : L ≤ 100) (h2 : (w (hd + 2)).toInt = n) (hn : n ≤ 8) : FUNe w CP E hd n L g := by
  obtain ⟨t1, t2, t3⟩ := T
  refine ⟨⟨by omega, h0, h1, hL, h2, hn, by rw [← hb]; exact t1, fun q h k hq => ?_⟩, fun q h k hq => ?_⟩
  · obtain ⟨a1, a2, m, a3, a4, -⟩ := t3 q h k hq
    exact ⟨a1, a2, m, a3, a4⟩
  · obtain ⟨a1, a2, m, a3, a4, a5, -⟩ := t3 q h k hq
    exact ⟨m, a3, a5⟩
/-- one word is no jump -/
theorem ln_arg {n : Nat} (h0 : 1 ≤ n ∧ n ≤ 60) (h : ln n ≤ 1) : n < 26 ∨ 31 = n ∨ 32 < n := by
  by_cases c : n < 26 ∨ 31 = n ∨ 32 < n
  · exact c
  · have := ln_2 n (by omega) (by omega) (by omega) (by omega)
    omega
/-- words changed in one instruction, its kind as it was -/
theorem tyf_set (T : TYf w g CP b E) {h0 k0 n0 n1 : Nat} (hq : g q = some (h0, k0)) (hn0 : (w q).toInt = n0) (l2 : 2 ≤ ln n0) (hn1 : (w' q).toInt = n1) (hl : ln n1 = ln n0) (hO : OPk n1 (w' (q + 1)).toInt g CP False q h0 k0) (hw : ∀ i, i ≠ q → i ≠ q + 1 → w' i = w i) : TYf w' g CP b E := by
  obtain ⟨t1, t2, t3⟩ := T
  obtain ⟨q1, q2, nq, q3, q4, q5, q6, q7⟩ := t3 q h0 k0 hq
  have en : nq = n0 := by omega
  subst en
  have gn : g (q + 1) = none := q7 (q + 1) (by omega) (by omega)
  refine ⟨t1, t2, fun p h k hp => ?_⟩
  by_cases e : p = q
  · subst e
    rw [hq] at hp
    cases hp
    exact ⟨q1, q2, n1, hn1, hO, by omega, by rw [hl]; exact q6, by rw [hl]; exact q7⟩
  · obtain ⟨p1, p2, np, p3, p4, p5, p6, p7⟩ := t3 p h k hp
    have ne : p ≠ q + 1 := fun c => by rw [c, gn] at hp; cases hp
    refine ⟨p1, p2, np, by rw [hw p e ne]; exact p3, ?_, p5, p6, p7⟩
    by_cases e2 : p + 1 = q
    · have l1 : ln np ≤ 1 := by
        by_cases c : ln np ≤ 1
        · exact c
        · have := p7 (p + 1) (by omega) (by omega)
          rw [e2, hq] at this
          cases this
      exact opk_arg (ln_arg ⟨p4.1.1, p4.1.2.1⟩ l1) p4
    · rw [hw (p + 1) e2 (by omega)]
      exact p4
theorem opk_fr {n : Nat} {a a' : Int} {pd : Prop} {pc h k : Nat} (hn : n = 8 ∨ n = 9 ∨ n = 10) (H0 : OPk n a g CP pd pc h k) : OPk (n + 3) a' g CP pd pc h k := by
  obtain ⟨h1, h2, -⟩ := H0
  obtain ⟨p1, h', p2, p3⟩ := h2 (by unfold PLn; omega)
  have e1 : po (n + 3) = po n := by rcases hn with e | e | e <;> subst e <;> rfl
  have e2 : de (n + 3) = de n := by rcases hn with e | e | e <;> subst e <;> rfl
  have e3 : ln (n + 3) = ln n := by rcases hn with e | e | e <;> subst e <;> rfl
  exact opk_pl (by omega) (by omega) (by omega) (by rw [e1]; exact p1) (by rw [e2]; exact p2) (by rw [e3]; exact p3)
/-- what is left of the way through the code -/
theorem adv_len {n : Nat} (h : (w q).toInt = n) (hn : n < 61) (h1 : 1 ≤ ln n) (hqE : q + ln n ≤ 262190) (hx : x.toInt = q) (hqn : q < 262208) : (x + (if (atv 61 (gC 1) (atv 262208 w x)) < (1 : Int32) then (1 : Int32) else (atv 61 (gC 1) (atv 262208 w x)))).toInt = ((q + ln n : Nat) : Int) := by
  have e1 : atv 262208 w x = w q := atv_at hx hqn
  have e2 : (atv 61 (gC 1) (atv 262208 w x)).toInt = (ln n : Nat) := by rw [e1]; exact ln_at h hn
  rw [if_neg (by rw [Int32.lt_iff_toInt_lt, e2, i1]; omega), ad (by rw [e2]; omega) (by rw [e2]; omega), e2]
  omega
theorem cnt_dn {v : Int32} {E q l : Nat} (h : (E : Int) - q ≤ v.toInt) (hl : 1 ≤ l) (hv : 0 < v.toInt) : (E : Int) - ((q + l : Nat) : Int) ≤ (v + (-1 : Int32)).toInt := by
  rw [dc1 (by omega)]
  omega
/-- places are settled -/
theorem sp_settle {Q : St → Prop} (T : TYf (σ 24) g CP b E) (hE : (E : Int) = (σ 4 1).toInt) (cap : E ≤ 262180) (hbE : b < E) (hx : x.toInt = b) (k : ∀ s, Kp [] [24] σ s → TYf (s 24) g CP b E → (∀ j, j < b → (s 24) j = (σ 24) j) → Q s) : wk_X0_settle_r48 x σ Q := by
  unfold wk_X0_settle_r48
  refine ⟨fun n y v s => ∃ q : Nat, y.toInt = q ∧ n = E - q ∧ b ≤ q ∧ (q = E ∨ g q ≠ none) ∧ q ≤ E ∧ (E : Int) - q ≤ v.toInt ∧ Kp [] [24] σ s ∧ TYf (s 24) g CP b E ∧ (∀ j, j < b → (s 24) j = (σ 24) j), ⟨E - b, b, hx, rfl, Nat.le_refl _, Or.inr ?_, by omega, by omega, kp_rf, T, fun _ _ => rfl⟩, ?_⟩
  · obtain ⟨⟨k0, t1⟩, -⟩ := T
    rw [t1]
    exact fun z => by cases z
  rintro n y v s ⟨q, hq, hn, bq, gq, qE, hv, ks, Ts, ws⟩
  have e4 : s 4 1 = σ 4 1 := ks 4 1 rfl rfl
  have fin : Q s := k s ks Ts ws
  refine ⟨fun _ => fin, fun c => ⟨fun _ => fin, fun c2 => ?_⟩⟩
  have qlt : q < E := by rw [e4] at c2; omega
  have gq' : g q ≠ none := by
    rcases gq with e | e
    · omega
    · exact e
  obtain ⟨⟨h0, k0⟩, hg⟩ : ∃ v, g q = some v := by
    cases hh : g q with
    | none => exact absurd hh gq'
    | some v => exact ⟨v, rfl⟩
  obtain ⟨q1, q2, nq, q3, q4, q5, q6, q7⟩ := Ts.2.2 q h0 k0 hg
  have n60 := q4.1.2.1
  have n1' := q4.1.1
  have lnp := ln_pos nq (by omega) n1' q4.1.2.2
  have ew : atv 262208 (s 24) y = (s 24) q := atv_at hq (by omega)
  have ew' : (atv 262208 (s 24) y).toInt = nq := by rw [ew]; exact q3
  have nxt := adv_len (w := (s 24)) q3 (by omega) lnp.1 (by omega) hq (by omega)
  have go : ∀ s2, Kp [] [24] σ s2 → TYf (s2 24) g CP b E → (∀ j, j < b → (s2 24) j = (σ 24) j) → ∃ m, m < n ∧ ∃ q' : Nat, (y + (if (atv 61 (gC 1) (atv 262208 (s 24) y)) < (1 : Int32) then (1 : Int32) else (atv 61 (gC 1) (atv 262208 (s 24) y)))).toInt = q' ∧ m = E - q' ∧ b ≤ q' ∧ (q' = E ∨ g q' ≠ none) ∧ q' ≤ E ∧ (E : Int) - q' ≤ (v + (-1 : Int32)).toInt ∧ Kp [] [24] σ s2 ∧ TYf (s2 24) g CP b E ∧ (∀ j, j < b → (s2 24) j = (σ 24) j) := fun s2 k2 T2 w2 => by
    refine ⟨E - (q + ln nq), by omega, q + ln nq, nxt, rfl, by omega, q6, q5, cnt_dn hv lnp.1 c, k2, T2, w2⟩
  refine ⟨fun s2 => Kp [] [24] σ s2 ∧ TYf (s2 24) g CP b E ∧ (∀ j, j < b → (s2 24) j = (σ 24) j), fun s2 h2 => go s2 h2.1 h2.2.1 h2.2.2, ?_⟩
  have y1 : (y + (1 : Int32)).toInt = ((q + 1 : Nat) : Int) := by rw [ad0 i1 (by omega) (by omega)]; omega
  have qE1 : q + 1 < 262208 := by omega
  refine ⟨¬ (nq = 8 ∨ nq = 9 ∨ nq = 10) ∨ True, fun _ => ⟨fun _ => ⟨ks, Ts, ws⟩, fun c14 => ⟨fun _ => ⟨ks, Ts, ws⟩, fun c17 => ?_⟩⟩, fun _ => Or.inr trivial, fun c8 => ⟨fun _ => Or.inr trivial, fun c10 => ⟨fun _ => Or.inr trivial, fun _ => ?_⟩⟩⟩
  · rw [ew'] at c14 c17
    have l2 : 2 ≤ ln nq := by
      have : nq = 14 ∨ nq = 15 ∨ nq = 16 ∨ nq = 17 := by omega
      rcases this with e | e | e | e <;> subst e <;> decide
    rw [setv_at y1 qE1]
    refine ⟨kp_F ks rfl, tyf_set Ts hg q3 l2 (n1 := nq) ?_ rfl ?_ (fun i i1 i2 => ?_), fun j hj => ?_⟩
    · rw [rdF_eq]
      show (if q = q + 1 then _ else s 24 q).toInt = _
      rw [if_neg (by omega)]
      exact q3
    · exact opk_arg (Or.inl (by omega)) q4
    · rw [rdF_eq]
      exact if_neg i2
    · rw [rdF_eq]
      show (if j = q + 1 then _ else s 24 j) = _
      rw [if_neg (by omega)]
      exact ws j hj
  · rw [ew'] at c8 c10
    have hn3 : nq = 8 ∨ nq = 9 ∨ nq = 10 := by omega
    have l2 : 2 ≤ ln nq := by
      rcases hn3 with e | e | e <;> subst e <;> decide
    have w3 : (atv 262208 (s 24) y + (3 : Int32)).toInt = ((nq + 3 : Nat) : Int) := by rw [ad0 i3 (by rw [ew']; omega) (by rw [ew']; omega), ew']; omega
    rw [setv_at hq (by omega), setv_at y1 qE1]
    refine ⟨kp_F (kp_F ks rfl) rfl, tyf_set Ts hg q3 l2 (n1 := nq + 3) ?_ ?_ ?_ (fun i i1 i2 => ?_), fun j hj => ?_⟩
    · rw [rdF_eq]
      show (if q = q + 1 then _ else (upF s 24 _) 24 q).toInt = _
      rw [if_neg (by omega), rdF_eq, if_pos rfl]
      exact w3
    · rcases hn3 with e | e | e <;> subst e <;> rfl
    · exact opk_fr hn3 q4
    · rw [rdF_eq]
      show (if i = q + 1 then _ else (upF s 24 _) 24 i) = _
      rw [if_neg i2, rdF_eq, if_neg i1]
    · rw [rdF_eq]
      show (if j = q + 1 then _ else (upF s 24 _) 24 j) = _
      rw [if_neg (by omega), rdF_eq, if_neg (by omega)]
      exact ws j hj
theorem jn_tr {t t2 h k pc k1 : Nat} (h1 : g t = some (h, k1)) (hl : k1 < k ∨ (k1 = k ∧ pc < t)) (j : Jn g k1 t t2 h) : Jn g k pc t2 h := by
  obtain ⟨k2, a1, a2⟩ := j
  exact ⟨k2, a1, by omega⟩
/-- jumps are threaded -/
theorem sp_thread {Q : St → Prop} (T : TYf (σ 24) g CP b E) (hE : (E : Int) = (σ 4 1).toInt) (cap : E ≤ 262180) (hbE : b < E) (hx : x.toInt = b) (k : ∀ s, Kp [] [24] σ s → TYf (s 24) g CP b E → (∀ j, j < b → (s 24) j = (σ 24) j) → Q s) : wk_X0_thread x σ Q := by
  unfold wk_X0_thread
  refine ⟨fun n y v s => ∃ q : Nat, y.toInt = q ∧ n = E - q ∧ b ≤ q ∧ (q = E ∨ g q ≠ none) ∧ q ≤ E ∧ (E : Int) - q ≤ v.toInt ∧ Kp [] [24] σ s ∧ TYf (s 24) g CP b E ∧ (∀ j, j < b → (s 24) j = (σ 24) j), ⟨E - b, b, hx, rfl, Nat.le_refl _, Or.inr ?_, by omega, by omega, kp_rf, T, fun _ _ => rfl⟩, ?_⟩
  · obtain ⟨⟨k0, t1⟩, -⟩ := T
    rw [t1]
    exact fun z => by cases z
  rintro n y v s ⟨q, hq, hn, bq, gq, qE, hv, ks, Ts, ws⟩
  have e4 : s 4 1 = σ 4 1 := ks 4 1 rfl rfl
  have fin : Q s := k s ks Ts ws
  refine ⟨fun _ => fin, fun c => ⟨fun _ => fin, fun c2 => ?_⟩⟩
  have qlt : q < E := by rw [e4] at c2; omega
  have gq' : g q ≠ none := by
    rcases gq with e | e
    · omega
    · exact e
  obtain ⟨⟨h0, k0⟩, hg⟩ : ∃ v, g q = some v := by
    cases hh : g q with
    | none => exact absurd hh gq'
    | some v => exact ⟨v, rfl⟩
  obtain ⟨q1, q2, nq, q3, q4, q5, q6, q7⟩ := Ts.2.2 q h0 k0 hg
  have n60 := q4.1.2.1
  have n1' := q4.1.1
  have lnp := ln_pos nq (by omega) n1' q4.1.2.2
  have ew : atv 262208 (s 24) y = (s 24) q := atv_at hq (by omega)
  have ew' : (atv 262208 (s 24) y).toInt = nq := by rw [ew]; exact q3
  have nxt := adv_len (w := (s 24)) q3 (by omega) lnp.1 (by omega) hq (by omega)
  have go : ∀ s2, Kp [] [24] σ s2 → TYf (s2 24) g CP b E → (∀ j, j < b → (s2 24) j = (σ 24) j) → ∃ m, m < n ∧ ∃ q' : Nat, (y + (if (atv 61 (gC 1) (atv 262208 (s 24) y)) < (1 : Int32) then (1 : Int32) else (atv 61 (gC 1) (atv 262208 (s 24) y)))).toInt = q' ∧ m = E - q' ∧ b ≤ q' ∧ (q' = E ∨ g q' ≠ none) ∧ q' ≤ E ∧ (E : Int) - q' ≤ (v + (-1 : Int32)).toInt ∧ Kp [] [24] σ s2 ∧ TYf (s2 24) g CP b E ∧ (∀ j, j < b → (s2 24) j = (σ 24) j) := fun s2 k2 T2 w2 => by
    refine ⟨E - (q + ln nq), by omega, q + ln nq, nxt, rfl, by omega, q6, q5, cnt_dn hv lnp.1 c, k2, T2, w2⟩
  refine ⟨fun s2 => Kp [] [24] σ s2 ∧ TYf (s2 24) g CP b E ∧ (∀ j, j < b → (s2 24) j = (σ 24) j), fun s2 h2 => go s2 h2.1 h2.2.1 h2.2.2, fun _ => ⟨ks, Ts, ws⟩, fun c26 => ⟨fun _ => ⟨ks, Ts, ws⟩, fun c28 => ?_⟩⟩
  rw [ew'] at c26 c28
  have n3 : nq = 26 ∨ nq = 27 ∨ nq = 28 := by omega
  have l2 : ln nq = 2 := by rcases n3 with e | e | e <;> subst e <;> rfl
  have y1 : (y + (1 : Int32)).toInt = ((q + 1 : Nat) : Int) := by rw [ad0 i1 (by omega) (by omega)]; omega
  have qE1 : q + 1 < 262208 := by omega
  have ea : atv 262208 (s 24) (y + (1 : Int32)) = (s 24) (q + 1) := atv_at y1 qE1
  -- where it leads, at which height
  let hT : Nat := if nq = 26 then h0 else h0 - 1
  have aim : 0 ≤ ((s 24) (q + 1)).toInt ∧ Jn g k0 q ((s 24) (q + 1)).toInt.toNat hT := by
    rcases n3 with e | e | e
    · rcases q4.2.2.1 e with f | f
      · exact absurd f id
      · refine ⟨f.1, ?_⟩
        show Jn g k0 q _ (if nq = 26 then h0 else h0 - 1)
        rw [if_pos e]
        exact f.2
    · rcases (q4.2.2.2.1 (Or.inl e)).2.2 with f | f
      · exact absurd f id
      · refine ⟨f.1, ?_⟩
        show Jn g k0 q _ (if nq = 26 then h0 else h0 - 1)
        rw [if_neg (by omega)]
        exact f.2
    · rcases (q4.2.2.2.1 (Or.inr e)).2.2 with f | f
      · exact absurd f id
      · refine ⟨f.1, ?_⟩
        show Jn g k0 q _ (if nq = 26 then h0 else h0 - 1)
        rw [if_neg (by omega)]
        exact f.2
  refine ⟨fun n z i => n = (100 - i.toInt).toNat ∧ 0 ≤ i.toInt ∧ 0 ≤ z.toInt ∧ Jn g k0 q z.toInt.toNat hT, ⟨100, rfl, by decide, by rw [ea]; exact aim.1, by rw [ea]; exact aim.2⟩, ?_⟩
  rintro n2 z i ⟨hn2, hi, z0, hj⟩
  have setz : Kp [] [24] σ (upF s 24 (setv 262208 (s 24) (y + (1 : Int32)) z)) ∧ TYf ((upF s 24 (setv 262208 (s 24) (y + (1 : Int32)) z)) 24) g CP b E ∧ (∀ j, j < b → ((upF s 24 (setv 262208 (s 24) (y + (1 : Int32)) z)) 24) j = (σ 24) j) := by
    rw [setv_at y1 qE1]
    refine ⟨kp_F ks rfl, tyf_set Ts hg q3 (by omega) (n1 := nq) ?_ rfl ?_ (fun i i1 i2 => ?_), fun j hj => ?_⟩
    · rw [rdF_eq]
      show (if q = q + 1 then _ else s 24 q).toInt = _
      rw [if_neg (by omega)]
      exact q3
    · rw [rdF_eq]
      show OPk nq (if q + 1 = q + 1 then z else _).toInt g CP False q h0 k0
      rw [if_pos rfl]
      obtain ⟨o1, o2, o3, o4, o5, o6, o7, o8⟩ := q4
      have hjT : Jn g k0 q z.toInt.toNat (if nq = 26 then h0 else h0 - 1) := hj
      refine ⟨o1, fun c => by exfalso; unfold PLn at c; clear hj hjT o2 o3 o4 o5 o6 o7; omega, fun c => Or.inr ⟨z0, by rw [if_pos c] at hjT; exact hjT⟩, fun c => ?_, fun c => by exfalso; clear hj hjT o2 o3 o4 o5 o6 o7; omega, fun c => by exfalso; clear hj hjT o2 o3 o4 o5 o6 o7; omega, fun c => by exfalso; clear hj hjT o2 o3 o4 o5 o6 o7; omega, fun c => by exfalso; clear hj hjT o2 o3 o4 o5 o6 o7; omega⟩
      have n26 : nq ≠ 26 := by clear hj hjT o2 o3 o4 o5 o6 o7; omega
      rw [if_neg n26] at hjT
      obtain ⟨b1, b2, -⟩ := o4 c
      exact ⟨b1, b2, Or.inr ⟨z0, hjT⟩⟩
    · rw [rdF_eq]
      exact if_neg i2
    · rw [rdF_eq]
      show (if j = q + 1 then _ else s 24 j) = _
      rw [if_neg (by omega)]
      exact ws j hj
  refine ⟨True, fun _ => setz, fun _ => trivial, fun ci => ⟨fun _ => trivial, fun c26' => ?_⟩⟩
  obtain ⟨k1, g1', hl⟩ := hj
  obtain ⟨zt, ez⟩ : ∃ zt : Nat, z.toInt = zt := ⟨z.toInt.toNat, by omega⟩
  have ezt : z.toInt.toNat = zt := by omega
  rw [ezt] at g1' hl
  obtain ⟨p1, p2, np, p3, p4, p5, p6, p7⟩ := Ts.2.2 zt hT k1 g1'
  have zlt : zt < 262208 := by omega
  rw [atv_at ez zlt] at c26'
  have np26 : np = 26 := by omega
  have z1 : (z + (1 : Int32)).toInt = ((zt + 1 : Nat) : Int) := by rw [ad0 i1 (by omega) (by omega)]; omega
  have ez1 : atv 262208 (s 24) (z + (1 : Int32)) = (s 24) (zt + 1) := atv_at z1 (by omega)
  have up : (i + 1).toInt = i.toInt + 1 := ad1 (by omega)
  rcases p4.2.2.1 np26 with f | f
  · exact absurd f id
  · refine ⟨(100 - (i + 1).toInt).toNat, by rw [up]; clear hl; omega, rfl, by rw [up]; clear hl; omega, by rw [ez1]; exact f.1, ?_⟩
    rw [ez1]
    exact jn_tr g1' hl f.2
end STL
end

section
/-! the walk: the end of a function -/
section FEN
variable {σ s z t ρ : St} {g g' g1 : Gh} {X X0 Y : Nat → Prop} {b e e0 e' h h' H H0 H' L L' m n N N' Nb c d p tt j i F F' k B q E hd : Nat} {K K2 M G D : List Nat} {A : List It} {x y v a op a1 a2 a3 : Int32} {w w' : Nat → Int32} {CP CP' : Int → Nat → Prop}
theorem ushr_nn : 0 ≤ (ushr x (24 : Int32)).toInt := by
  have e24 : ((24 : Int32).toUInt32 &&& Int32.toUInt32 31) = (24 : UInt32) := by decide
  have e : (ushr x (24 : Int32)).toBitVec.toNat = x.toBitVec.toNat / 16777216 := by
    unfold ushr
    rw [e24]
    show (x.toUInt32 >>> (24 : UInt32)).toNat = _
    rw [UInt32.toNat_shiftRight]
    have e3 : (24 : UInt32).toNat % 32 = 24 := by decide
    rw [e3, Nat.shiftRight_eq_div_pow]
    rfl
  have l := x.toBitVec.isLt
  have h := BitVec.toInt_eq_toNat_cond (ushr x (24 : Int32)).toBitVec
  rw [e, if_pos (by omega)] at h
  have h' : (ushr x (24 : Int32)).toInt = ((x.toBitVec.toNat / 16777216 : Nat) : Int) := h
  rw [h']
  omega
/-- the code of a function, with its last return -/
theorem tyf_of (T : TYp w g CP X b e 0 0) (hX : ∀ q, ¬ X q) (bd : BND g b e 420) (hw : ∀ j, j < e → w' j = w j) (h1 : (w' e).toInt = (1 : Nat)) (h2 : (w' (e + 2)).toInt = (33 : Nat)) (hC : ∀ a m, CP a m → CP' a m) : ∃ g', TYf w' g' CP' b (e + 3) := by
  obtain ⟨t1, t2, ⟨t3, t4⟩, t5⟩ := T
  let g' : Gh := fun q => if q ≤ e then g q else if q = e + 2 then some (1, 0) else none
  have lo : ∀ q, q ≤ e → g' q = g q := fun q hq => if_pos hq
  have mid : g' (e + 2) = some (1, 0) := by
    show (if e + 2 ≤ e then _ else if e + 2 = e + 2 then _ else _) = _
    rw [if_neg (by omega), if_pos rfl]
  have hi : ∀ q, e < q → q ≠ e + 2 → g' q = none := fun q h1 h2 => by
    show (if q ≤ e then _ else if q = e + 2 then _ else _) = _
    rw [if_neg (by omega), if_neg h2]
  have up : ∀ p v, rs g e p = some v → g' p = some v := fun p v z => by
    unfold rs at z
    by_cases c : p ≤ e
    · rw [if_pos c] at z
      rw [lo p c]
      exact z
    · rw [if_neg c] at z
      cases z
  refine ⟨g', ⟨0, by rw [lo b t1]; exact t4⟩, fun q hq => by rw [lo q (by omega)]; exact t3 q hq, fun q h k hq => ?_⟩
  by_cases c : q < e
  · rw [lo q (by omega)] at hq
    obtain ⟨⟨n, o1, o2⟩, n', d1, d2, d3, d4⟩ := t5 q h k hq c
    have en : n' = n := by omega
    subst en
    have bq : b ≤ q := by
      by_cases cb : b ≤ q
      · exact cb
      · rw [t3 q (by omega)] at hq
        cases hq
    have o3 := opk_mono (g' := g') (CP' := CP') (pd' := False) up hC (fun z => hX q z) o2
    refine ⟨by omega, bd q h k bq (by omega) hq, n', by rw [hw q c]; exact o1, ?_, by omega, Or.inr ?_, fun j j1 j2 => ?_⟩
    · by_cases c1 : n' < 26 ∨ 31 = n' ∨ 32 < n'
      · exact opk_arg c1 o3
      · have := ln_2 n' (by have := o2.1.2.1; omega) (by omega) (by omega) (by omega)
        rw [hw (q + 1) (by omega)]
        exact o3
    · rw [rs_le d2] at d3
      rw [lo _ d2]
      exact d3
    · have := d4 j j1 j2
      rw [rs_le (by omega)] at this
      rw [lo j (by omega)]
      exact this
  · by_cases c2 : q = e
    · subst c2
      rw [lo q (Nat.le_refl _), t2] at hq
      cases hq
      have l1 : ln 1 = 2 := rfl
      refine ⟨by omega, by omega, 1, h1, opk_pl (h' := 1) (by decide) (by decide) (Or.inl (by decide)) (by decide) (by decide) ⟨0, by rw [l1]; exact mid, Or.inr ⟨rfl, by omega⟩⟩, by omega, Or.inr (by rw [l1, mid]; exact fun z => by cases z), fun j j1 j2 => hi j j1 (by omega)⟩
    · by_cases c3 : q = e + 2
      · subst c3
        rw [mid] at hq
        cases hq
        have l1 : ln 33 = 1 := rfl
        refine ⟨by omega, by decide, 33, h2, ⟨⟨by decide, by decide, by decide⟩, fun z => by unfold PLn at z; omega, fun z => by omega, fun z => by omega, fun z => by omega, fun z => by omega, fun z => by omega, fun _ => Nat.le_refl _⟩, by omega, Or.inl (by omega), fun j j1 j2 => by omega⟩
      · rw [hi q (by omega) c3] at hq
        cases hq
theorem tyf_low (T : TYf w g CP b E) (hw : ∀ j, b ≤ j → w' j = w j) (hC : ∀ a m, CP a m → CP' a m) : TYf w' g CP' b E := by
  obtain ⟨t1, t2, t3⟩ := T
  refine ⟨t1, t2, fun q h k hq => ?_⟩
  have bq : b ≤ q := by
    by_cases cb : b ≤ q
    · exact cb
    · rw [t2 q (by omega)] at hq
      cases hq
  obtain ⟨p1, p2, np, p3, p4, p5, p6, p7⟩ := t3 q h k hq
  exact ⟨p1, p2, np, by rw [hw q bq]; exact p3, by rw [hw _ (by omega)]; exact opk_mono (fun _ _ z => z) hC id p4, p5, p6, p7⟩
theorem tr_wk2 (w : WKs ρ s) (k : Kp [(4, 1), (6, 6), (6, 10), (6, 15), (6, 17)] [24, 48] s t) (hs : (t 6 15).toInt ≤ 1000 ∧ -1000 ≤ (t 6 15).toInt) (hw : ∀ j, j < clen ρ → (t 24) j = (s 24) j) (hl : clen ρ ≤ clen t) (h0 : 0 ≤ (t 4 1).toInt) : WKs ρ t := by
  obtain ⟨h1, ⟨u1, u2, u3, u4, u5⟩, ⟨o1, o2, o3, o4⟩, h4, h5⟩ := w
  have e1 : (t 5 1) = (s 5 1) := k 5 1 rfl rfl
  have e2 : (t 6 7) = (s 6 7) := k 6 7 rfl rfl
  have e5 : (t 15) = (s 15) := funext (fun j => k 15 j rfl rfl)
  refine ⟨ko_tr h1 (ko_sub (ko_kp k) (by decide) (by decide)), ⟨by unfold PLA; rw [e5]; exact u1, by rw [e2]; exact u2, by rw [e1, e2]; exact u3, hs, fun j q => ?_⟩, ⟨by rw [e1, e2]; exact o1, fun j hj => ?_, fun j hj => (hw j hj).trans (o3 j hj), hl⟩, h0, nme_k e1 (k 5 7 rfl rfl) (fun d => k 29 d rfl rfl) h5⟩
  · rw [show t 27 j = s 27 j from k 27 j rfl rfl]
    rw [show t 25 j = s 25 j from k 25 j rfl rfl] at q
    exact u5 j q
  · rw [show t 25 j = s 25 j from k 25 j rfl rfl, show t 26 j = s 26 j from k 26 j rfl rfl, show t 27 j = s 27 j from k 27 j rfl rfl, show t 28 j = s 28 j from k 28 j rfl rfl, show t 29 j = s 29 j from k 29 j rfl rfl]
    exact o2 j hj
theorem cp_tr2 (k : Kp [(4, 1), (6, 6), (6, 10), (6, 15), (6, 17)] [24, 48] s t) : ∀ a m, CPu s a m → CPu t a m := fun a m hq => by
  unfold CPu at hq ⊢
  rw [show t 5 1 = s 5 1 from k 5 1 rfl rfl, show t 6 7 = s 6 7 from k 6 7 rfl rfl, show t 25 = s 25 from funext (fun j => k 25 j rfl rfl), show t 39 = s 39 from funext (fun j => k 39 j rfl rfl), show t 27 = s 27 from funext (fun j => k 27 j rfl rfl)]
  exact hq
def hdW (w : Nat → Int32) (hd : Nat) (v0 v1 v2 v3 : Int32) : Nat → Int32 := fun i => if i = hd + 3 then v3 else if i = hd + 2 then v2 else if i = hd + 1 then v1 else if i = hd then v0 else w i
theorem setv4 {f : Nat → Int32} {v0 v1 v2 v3 : Int32} (hx : x.toInt = hd) (hb : hd + 4 < 262208) : setv 262208 (setv 262208 (setv 262208 (setv 262208 f x v0) (x + (1 : Int32)) v1) (x + (2 : Int32)) v2) (x + (3 : Int32)) v3 = hdW f hd v0 v1 v2 v3 := by
  have h1 : (x + (1 : Int32)).toInt = ((hd + 1 : Nat) : Int) := by rw [ad0 i1 (by omega) (by omega)]; omega
  have h2 : (x + (2 : Int32)).toInt = ((hd + 2 : Nat) : Int) := by rw [ad0 i2 (by omega) (by omega)]; omega
  have h3 : (x + (3 : Int32)).toInt = ((hd + 3 : Nat) : Int) := by rw [ad0 i3 (by omega) (by omega)]; omega
  rw [setv_at hx (by omega), setv_at h1 (by omega), setv_at h2 (by omega), setv_at h3 (by omega)]
  rfl
theorem ws_fnEnd {Q : St → Prop} (wk : WKs ρ σ) (h : WSx ρ σ 1 [] [] Nb b e0 H0 g X) (cap : (σ 4 1).toInt ≤ 262150) (k : ∀ s, KWk σ s → WKs ρ s → (s 5 7) = (σ 5 7) → ((s 6 3).toInt = 0 → ∃ Nb' b' e1 g' X', WSx ρ s 0 [] [] Nb' b' e1 0 g' X' ∧ clen s ≤ clen σ + 3) → Q s) : wk_X1_functionEnd σ Q := by
  obtain ⟨⟨n1, n2, n3⟩, h2, h3, h4, h5, h6, h7, h8⟩ := h
  have fn := (h7 (Nat.le_refl _)).1
  have H00 : H0 = 0 := by
    by_cases c : H0 = 0
    · exact c
    · exfalso
      obtain ⟨⟨K2, e2⟩, -⟩ := (h7 (Nat.le_refl _)).2 c
      cases e2
  subst H00
  obtain ⟨d, f1, f2, f3, f4, f5, f6, f7, f8, f9, b1, b2, b3, b4, b5⟩ := fn
  obtain ⟨T, cx, cnt, l0, op0, bd⟩ := sb_nil h2
  have hX : ∀ q, ¬ X q := cx
  have c0 := clen_eq l0
  have bb := T.1
  have udec := wk.2.1.2.2.1
  have d10 : d < 10100 := by omega
  unfold wk_X1_functionEnd
  refine sk_emit (n := 1) rfl (by decide) l0 (by omega) (fun v8 s8 _ em1 => ?_)
  have ec1 := em_clen em1 (n := 1) rfl l0
  have el1 := em_len em1 (m := 1) rfl
  have l1 : ln 1 = 2 := rfl
  refine sk_emit (n := 33) rfl (by decide) (by omega) (by omega) (fun v21 s21 _ em2 => ?_)
  have ec2 := em_clen em2 (n := 33) rfl (by omega)
  have el2 := em_len em2 (m := 33) rfl
  have l33 : ln 33 = 1 := rfl
  have es : clen s8 = clen σ + 2 := by omega
  have et : clen s21 = clen σ + 3 := by omega
  have lt21 : (s21 4 1).toInt = (σ 4 1).toInt + 3 := by omega
  have k21 : Kp [(4, 1)] [24] σ s21 := kp_tr em1.1 em2.1
  obtain ⟨g', TF⟩ := tyf_of (w' := (s21 24)) (CP' := CPu s21) T hX bd (fun j hj => (em2.2.2.1 j (by omega)).trans (em1.2.2.1 j hj)) (by rw [em2.2.2.1 _ (by omega), em1.2.2.2.1]; rfl) (by rw [← es, em2.2.2.2.1]; rfl) (fun a m z => by
    unfold CPu at z ⊢
    rw [show s21 5 1 = σ 5 1 from k21 5 1 rfl rfl, show s21 6 7 = σ 6 7 from k21 6 7 rfl rfl, show s21 25 = σ 25 from funext (fun j => k21 25 j rfl rfl), show s21 39 = σ 39 from funext (fun j => k21 39 j rfl rfl), show s21 27 = σ 27 from funext (fun j => k21 27 j rfl rfl)]
    exact z)
  have w21 : ∀ j, j < clen σ → (s21 24) j = (σ 24) j := fun j hj => (em2.2.2.1 j (by omega)).trans (em1.2.2.1 j hj)
  have e66 : s21 6 6 = σ 6 6 := k21 6 6 rfl rfl
  have e610 : s21 6 10 = σ 6 10 := k21 6 10 rfl rfl
  have e28 : s21 28 = σ 28 := funext (fun j => k21 28 j rfl rfl)
  have e27 : s21 27 = σ 27 := funext (fun j => k21 27 j rfl rfl)
  have e42 : s21 42 = σ 42 := funext (fun j => k21 42 j rfl rfl)
  have a28 : atv 10100 (s21 28) (s21 6 6) = (σ 28) d := by rw [e28, e66]; exact atv_at f1 d10
  have a27 : atv 10100 (s21 27) (s21 6 6) = (σ 27) d := by rw [e27, e66]; exact atv_at f1 d10
  unfold wk_X8_parameters
  rw [a28, a27]
  have v60 : (ushr ((σ 27) d) (24 : Int32)).toInt = (spar ((σ 27) d) : Nat) := by
    have := ushr_nn (x := (σ 27) d)
    unfold spar
    omega
  generalize ushr ((σ 27) d) (24 : Int32) = v6 at v60 ⊢
  refine ⟨fun n x3 x4 x5 s => n = ((σ 6 10).toInt - x5.toInt).toNat ∧ (0 ≤ x5.toInt ∧ x5.toInt ≤ (σ 6 10).toInt) ∧ (0 ≤ x3.toInt ∧ x3.toInt ≤ 4000 * x5.toInt) ∧ Kp [] [48] s21 s, ⟨_, rfl, ⟨by decide, f9.1⟩, ⟨by decide, by decide⟩, kp_rf⟩, ?_⟩
  rintro n x3 x4 x5 s ⟨hn, hx5, hx3, ks⟩
  have s610 : s 6 10 = σ 6 10 := (ks 6 10 rfl rfl).trans e610
  rw [s610]
  refine ⟨fun c => ?_, fun c => ?_⟩
  · -- the code is settled
    rw [rdF_eq, rdF_eq, rdF_eq]
    have hv : ((σ 28) d).toInt = Nb := f6
    rw [setv4 hv (by omega)]
    generalize hu : upF (upF (upF (upF s 24 _) 24 _) 24 _) 24 (hdW (s 24) Nb x3 (σ 6 10) v6 x4) = u
    have u24 : u 24 = hdW (s 24) Nb x3 (σ 6 10) v6 x4 := by rw [← hu]; exact rdF_eq
    have uo : ∀ c, c ≠ 24 → u c = s c := fun c hc => by rw [← hu, rdF_ne hc, rdF_ne hc, rdF_ne hc, rdF_ne hc]
    have s24 : s 24 = s21 24 := funext (fun j => ks 24 j rfl rfl)
    have ku : Kp [] [24, 48] s21 u := by
      rw [← hu]
      exact kp_F (kp_F (kp_F (kp_F (kp_sub ks rfl rfl) rfl) rfl) rfl) rfl
    have u4 : u 4 1 = s21 4 1 := ku 4 1 rfl rfl
    have ecu : clen u = clen σ + 3 := by unfold clen at et ⊢; rw [u4]; exact et
    have ex4 : ((σ 28) d + (4 : Int32)).toInt = b := by rw [ad0 i4 (by omega) (by omega)]; omega
    have TU : TYf (u 24) g' (CPu u) b (clen σ + 3) := tyf_low TF (fun j hj => by
      show u 24 j = s21 24 j
      rw [u24, s24]
      unfold hdW
      rw [if_neg (by omega), if_neg (by omega), if_neg (by omega), if_neg (by omega)]) (fun a m z => by
      unfold CPu at z ⊢
      rw [show u 5 1 = s21 5 1 from ku 5 1 rfl rfl, show u 6 7 = s21 6 7 from ku 6 7 rfl rfl, show u 25 = s21 25 from funext (fun j => ku 25 j rfl rfl), show u 39 = s21 39 from funext (fun j => ku 39 j rfl rfl), show u 27 = s21 27 from funext (fun j => ku 27 j rfl rfl)]
      exact z)
    have hE : ((clen σ + 3 : Nat) : Int) = (u 4 1).toInt := by rw [u4, lt21]; omega
    have wU : ∀ j, j < Nb → u 24 j = σ 24 j := fun j hj => by
      rw [u24, s24]
      unfold hdW
      rw [if_neg (by omega), if_neg (by omega), if_neg (by omega), if_neg (by omega)]
      exact w21 j (by omega)
    -- after settling and threading
    have fin : ∀ s9, Kp [] [24] u s9 → TYf (s9 24) g' (CPu u) b (clen σ + 3) → (∀ j, j < b → (s9 24) j = (u 24) j) → wk_X11_leave s9 (fun s283 => Q s283) := fun s9 k9 T9 w9 => by
      unfold wk_X11_leave
      generalize ht : upC (upC (upC (upC s9 6 6 ((-1) : Int32)) 6 10 (0 : Int32)) 6 15 (0 : Int32)) 6 17 (0 : Int32) = t
      have kt9 : Kp [(6, 6), (6, 10), (6, 15), (6, 17)] [] s9 t := by
        rw [← ht]
        exact kp_f (kp_f (kp_f (kp_f kp_rf rfl) rfl) rfl) rfl
      have kt : Kp [(4, 1), (6, 6), (6, 10), (6, 15), (6, 17)] [24, 48] σ t := kp_tr (kp_sub k21 rfl rfl) (kp_tr (kp_sub ku rfl rfl) (kp_tr (kp_sub k9 rfl rfl) (kp_sub kt9 rfl rfl)))
      have t66 : t 6 6 = -1 := by rw [← ht, rdA_ne (by decide), rdA_ne (by decide), rdA_ne (by decide), rdA_eq rfl]
      have t615 : t 6 15 = 0 := by rw [← ht, rdA_ne (by decide), rdA_eq rfl]
      have t4 : t 4 1 = s21 4 1 := (kt9 4 1 rfl rfl).trans ((k9 4 1 rfl rfl).trans u4)
      have ect : clen t = clen σ + 3 := by unfold clen at et ⊢; rw [t4]; exact et
      have t24 : t 24 = s9 24 := funext (fun j => kt9 24 j rfl rfl)
      have lT : (t 4 1).toInt = (σ 4 1).toInt + 3 := by rw [t4]; exact lt21
      have wT : ∀ j, j < Nb → t 24 j = σ 24 j := fun j hj => by rw [t24]; exact (w9 j (by omega)).trans (wU j hj)
      have cpt := cp_tr2 kt
      have cput : ∀ a m, CPu u a m → CPu t a m := fun a m z => by
        unfold CPu at z ⊢
        rw [show t 5 1 = u 5 1 from (kt9 5 1 rfl rfl).trans (k9 5 1 rfl rfl), show t 6 7 = u 6 7 from (kt9 6 7 rfl rfl).trans (k9 6 7 rfl rfl), show t 25 = u 25 from funext (fun j => (kt9 25 j rfl rfl).trans (k9 25 j rfl rfl)), show t 39 = u 39 from funext (fun j => (kt9 39 j rfl rfl).trans (k9 39 j rfl rfl)), show t 27 = u 27 from funext (fun j => (kt9 27 j rfl rfl).trans (k9 27 j rfl rfl))]
        exact z
      obtain ⟨gg, sb'⟩ := sb_fresh (s := t) (K := []) (by rw [show t 7 7 = σ 7 7 from kt 7 7 rfl rfl]; exact cnt) (by omega) (by rw [show t 9 5 = σ 9 5 from kt 9 5 rfl rfl]; exact op0) (Or.inl rfl)
      refine k t (ko_sub (ko_kp kt) (by decide) (by decide)) (tr_wk2 wk kt (by rw [t615]; decide) (fun j hj => wT j (by omega)) (by omega) (by omega)) (kt 5 7 rfl rfl) (fun _ => ⟨clen σ + 3, clen t, clen t, gg, _, ⟨⟨by omega, by omega, Nat.le_refl _⟩, se_nil sb', ?_, by decide, trivial, fun _ => ⟨by rw [t66]; rfl, Or.inl rfl⟩, fun z => absurd z (by decide), fun z => absurd z (by rintro ⟨c1, K1, q, -⟩; cases q)⟩, by omega⟩)
      intro d' q1 q2 q3 q4 q5
      rw [show t 5 1 = σ 5 1 from kt 5 1 rfl rfl, show t 6 7 = σ 6 7 from kt 6 7 rfl rfl] at q1
      rw [show t 5 1 = σ 5 1 from kt 5 1 rfl rfl] at q2
      rw [show t 25 d' = σ 25 d' from kt 25 d' rfl rfl] at q3 q4
      rw [show t 28 d' = σ 28 d' from kt 28 d' rfl rfl, show t 27 d' = σ 27 d' from kt 27 d' rfl rfl]
      by_cases e : d' = d
      · rw [e]
        have hb4 : ∀ i, i < 4 → t 24 (Nb + i) = hdW (s 24) Nb x3 (σ 6 10) v6 x4 (Nb + i) := fun i hi => by
          rw [t24]
          exact (w9 _ (by omega)).trans (congrFun u24 _)
        have T9' : TYf (t 24) g' (CPu t) b (clen σ + 3) := tyf_low T9 (fun j _ => by rw [t24]) cput
        refine ⟨Nb, (σ 6 10).toInt.toNat, g', f6, tyf_fun T9' f7 (by omega) ?_ ?_ (by omega) ?_ f8⟩
        · rw [show (t 24) Nb = x3 from by
            have := hb4 0 (by decide)
            rw [Nat.add_zero] at this
            rw [this]
            unfold hdW
            rw [if_neg (by omega), if_neg (by omega), if_neg (by omega), if_pos rfl]]
          omega
        · rw [show (t 24) (Nb + 1) = (σ 6 10) from by
            rw [hb4 1 (by decide)]
            unfold hdW
            rw [if_neg (by omega), if_neg (by omega), if_pos rfl]]
          omega
        · rw [show (t 24) (Nb + 2) = v6 from by
            rw [hb4 2 (by decide)]
            unfold hdW
            rw [if_neg (by omega), if_pos rfl]]
          exact v60
      · obtain ⟨hd', L, g9, y1, y2⟩ := h3 d' q1 q2 q3 q4 (by rw [f1]; omega)
        exact ⟨hd', L, g9, y1, fune_mono wT cpt (by omega) y2⟩
    refine sp_settle (E := clen σ + 3) TU hE (by omega) (by omega) ex4 (fun s255 k255 T255 w255 => ?_)
    refine ⟨fun s9 => Kp [] [24] u s9 ∧ TYf (s9 24) g' (CPu u) b (clen σ + 3) ∧ (∀ j, j < b → (s9 24) j = (u 24) j), fun s9 h9 => fin s9 h9.1 h9.2.1 h9.2.2, fun _ => ⟨k255, T255, w255⟩, fun _ => ?_⟩
    refine sp_thread (E := clen σ + 3) T255 (by rw [show s255 4 1 = u 4 1 from k255 4 1 rfl rfl]; exact hE) (by omega) (by omega) ex4 (fun s276 k276 T276 w276 => ⟨kp_tr k255 k276, T276, fun j hj => (w276 j hj).trans (w255 j hj)⟩)
  · -- a local's place
    have n100 : x5.toInt < 100 := by omega
    obtain ⟨j5, hj5⟩ : ∃ j5 : Nat, x5.toInt = j5 := ⟨x5.toInt.toNat, by omega⟩
    have sz : (atv 100 (s 42) x5).toInt ≤ 4000 := by
      rw [show s 42 = σ 42 from (funext (fun j => ks 42 j rfl rfl)).trans e42, atv_at hj5 (by omega)]
      exact b4 j5 (by omega)
    have up : (x5 + 1).toInt = x5.toInt + 1 := ad1 (by omega)
    refine ⟨fun _ => True, fun y0 _ _ => ?_, fun _ => trivial, fun _ => trivial⟩
    refine ⟨fun _ => True, fun y2 _ => ?_, fun _ => trivial, fun _ => trivial⟩
    refine ⟨fun _ => True, fun y1 _ => ?_, True, fun _ => trivial, fun _ => trivial, fun _ => ⟨fun _ => trivial, fun _ => trivial⟩⟩
    refine ⟨fun y => 0 ≤ y.toInt ∧ y.toInt ≤ 4000, fun y17 hy17 => ⟨((σ 6 10).toInt - (x5 + 1).toInt).toNat, by rw [up]; omega, rfl, by rw [up]; omega, by rw [up, ad (by omega) (by omega)]; omega, kp_F ks rfl⟩, fun _ => ⟨by decide, by decide⟩, fun _ => ?_⟩
    by_cases cc : atv 100 (s 42) x5 < (1 : Int32)
    · rw [if_pos cc]
      exact ⟨by decide, by decide⟩
    · rw [if_neg cc]
      have : ¬ (atv 100 (s 42) x5).toInt < 1 := fun q => cc (Int32.lt_iff_toInt_lt.mpr (by rw [i1]; exact q))
      exact ⟨by omega, sz⟩
end FEN
end

section
/-! the walk: a size -/
section SIZ
variable {σ s z t ρ : St} {g g' g1 : Gh} {X X0 Y : Nat → Prop} {b e e0 e' h h' H H0 H' L L' m n N N' Nb c d p tt j i F F' k B q E hd f : Nat} {K K2 M G D : List Nat} {A : List It} {x y v a op a1 a2 a3 : Int32}
theorem kxe_g (k : KXE σ s) : (s 14) = (σ 14) ∧ (s 13) = (σ 13) ∧ (s 18) = (σ 18) ∧ (s 19) = (σ 19) := ⟨ko_rd k 14 (Or.inl (by decide)) rfl (fun _ => rfl), ko_rd k 13 (Or.inl (by decide)) rfl (fun _ => rfl), ko_rd k 18 (Or.inl (by decide)) rfl (fun _ => rfl), ko_rd k 19 (Or.inl (by decide)) rfl (fun _ => rfl)⟩
theorem kxe_cst (k : KXE σ s) : ∀ i, cst s i = cst σ i := fun i => by
  obtain ⟨e1, e2, e3, e4⟩ := kxe_g k
  exact cst_same e1 ⟨by rw [e3], by rw [e4]⟩
theorem sp_top0 {Q : Nat → Prop} (k : ∀ u, Q u) : wk_X2_top σ Q := by
  unfold wk_X2_top
  refine ⟨fun _ => k _, fun c1 => ⟨fun _ => k _, fun c2 => ⟨⟨?_, ?_⟩, k _⟩⟩⟩
  · rw [sbc i1 (by omega) (by omega)]
    omega
  · rw [sbc i1 (by omega) (by omega)]
    omega
theorem sp_constant {Q : Int32 → St → Prop} (u : UXs σ) (sb : SB σ g b K X H0) (hf : (σ 6 3).toInt = 0) (ha1 : a1.toInt = f) (ha2 : a2.toInt = ((f + n : Nat) : Int)) (hn : f + n ≤ 32100) (xr : XR σ n f [] [iV]) (cap : clen σ + csum σ n f ≤ 262150) (k : ∀ v t, KXE σ t → MKs σ t → (t 4 1) = (σ 4 1) → (∀ j, j < clen σ → (t 24) j = (σ 24) j) → (t 7 7).toInt = 0 → (t 6 3).toInt = 0 → Q v t) : wk_X7_constant a1 a2 σ Q := by
  have l0 := sb.2.2.2.1
  have c0 := clen_eq l0
  unfold wk_X7_constant
  refine ⟨fun r y s => ∃ m : Nat, r + m = n ∧ y.toInt = ((f + m : Nat) : Int) ∧ KXE σ s ∧ MKs σ s ∧ (∀ j, j < clen σ → (s 24) j = (σ 24) j) ∧ (σ 4 1).toInt ≤ (s 4 1).toInt ∧ ((s 6 3).toInt = 0 → ∃ g' A, SE s g' b K X H0 (clen σ) A ∧ XR σ r (f + m) A [iV] ∧ A.length ≤ 500 ∧ clen s + 2 * plc s A + csum σ r (f + m) ≤ 262150), ⟨n, 0, rfl, by rw [ha1]; rfl, ko_rf, mks_rf, fun _ _ => rfl, by omega, fun _ => ⟨g, [], se_nil sb, xr, by decide, by show clen σ + 2 * 0 + csum σ n f ≤ _; omega⟩⟩, ?_⟩
  rintro r y s ⟨m, hr, hy, ks, ms, ws, ls, hv⟩
  have l0s : 0 ≤ (s 4 1).toInt := by clear hv; omega
  have fin : ∃ J57 : Int32 → Prop, (∀ (y0_57 : Int32), y0_57 = 0 ∨ y0_57 = 1 → J57 y0_57 → (wk_X0_cut (σ 4 1) (upC s 6 3 (0 : Int32)) (fun s72 => wk_X2_top s72 (fun u79 => (y0_57.toInt = 0 → Q (0 : Int32) (upC s72 7 7 (0 : Int32))) ∧ (y0_57.toInt ≠ 0 → wk_X6_isConstant u79 (upC s72 7 7 (0 : Int32)) (fun v99 => (v99.toInt = 0 → Q (0 : Int32) (upC s72 7 7 (0 : Int32))) ∧ (v99.toInt ≠ 0 → Q (if ((upC s72 7 7 (0 : Int32)) u79 8) < (0 : Int32) then (0 : Int32) else ((upC s72 7 7 (0 : Int32)) u79 8)) (upC s72 7 7 (0 : Int32))))))))) ∧ ((s 6 3).toInt ≠ 0 → J57 (0 : Int32)) ∧ ((s 6 3).toInt = 0 → J57 (1 : Int32)) := by
    refine ⟨fun _ => True, fun y0 _ _ => ?_, fun _ => trivial, fun _ => trivial⟩
    refine sk_cut (by rw [rdC_ne (by decide)]; exact ls) (fun s72 k72 e72 => ?_)
    have done : ∀ v, Q v (upC s72 7 7 (0 : Int32)) := fun v => by
      generalize ht : upC s72 7 7 (0 : Int32) = t
      have kt : Kp [(7, 7), (4, 1), (6, 3)] [] s t := by
        rw [← ht]
        exact kp_f (kp_tr (kp_f kp_rf rfl) (kp_sub k72 rfl rfl)) rfl
      have t7 : t 7 7 = 0 := by rw [← ht, rdA_eq rfl]
      have t4 : t 4 1 = σ 4 1 := by rw [← ht, rdC_ne (by decide)]; exact e72
      have t63 : t 6 3 = 0 := by
        rw [← ht, rdC_ne (by decide)]
        rw [show s72 6 3 = (upC s 6 3 (0 : Int32)) 6 3 from k72 6 3 rfl rfl, rdA_eq rfl]
      refine k v t (ko_tr ks (ko_sub (ko_kp kt) (by decide) (by decide))) (mks_tr ms (mks_eq (funext (fun j => kt 25 j rfl rfl)) (funext (fun j => kt 39 j rfl rfl)))) t4 (fun j hj => (kt 24 j rfl rfl).trans (ws j hj)) (by rw [t7]; rfl) (by rw [t63]; rfl)
    exact sp_top0 (fun u => ⟨fun _ => done _, fun _ => sp_isConstant (fun _ => ⟨fun _ => done _, fun _ => done _⟩) (fun _ => ⟨fun _ => done _, fun _ => done _⟩)⟩)
  refine ⟨True, fun _ => fin, fun _ => trivial, fun c => ⟨fun _ => trivial, fun c2 => ?_⟩⟩
  obtain ⟨g', A, se, xr', hA, hc⟩ := hv c2
  cases r with
  | zero =>
    exfalso
    rw [hy, ha2] at c
    omega
  | succ r =>
    obtain ⟨B, hdx, hB⟩ := xr'
    obtain ⟨e14, e13, e18, e19⟩ := kxe_g ks
    have cs := clen_eq l0s
    have ecs : csum σ (r + 1) (f + m) = cst σ (f + m) + csum σ r (f + m + 1) := rfl
    have ea : act s (f + m) = act σ (f + m) := by unfold act; rw [e18]
    have etk : tkx s ((s 19) (f + m)) = tkx σ ((σ 19) (f + m)) := by unfold tkx; rw [e13, e19]
    refine se_take (uxs_k ks ms u) se (by omega) hA hy (by omega) (by rw [ea, etk]; exact hdx) (fun s2 k2 m2 w2 l2 l2' hv2 => ?_)
    have up : (y + 1).toInt = ((f + (m + 1) : Nat) : Int) := by rw [ad1 (by omega)]; omega
    refine ⟨r, by omega, m + 1, by omega, up, ko_tr ks k2, mks_tr ms m2, fun j hj => (w2 j hj).trans (ws j hj), by clear hv2 hv; omega, fun z => ?_⟩
    obtain ⟨g2, ag, se2, cc⟩ := hv2 z
    rw [kxe_cst ks] at cc
    refine ⟨g2, B, se2, hB, dx_len hdx hA, ?_⟩
    rw [show f + (m + 1) = f + m + 1 from rfl]
    omega
theorem ws_const (wk : WKs ρ σ) (h : WSx ρ σ F K [] Nb b e0 H0 g X) (k : KXE σ t) (m : MKs σ t) (e4 : (t 4 1) = (σ 4 1)) (w : ∀ j, j < clen σ → (t 24) j = (σ 24) j) (cnt : (t 7 7).toInt = 0) : WKs ρ t ∧ WSx ρ t F K [] Nb b e0 H0 g X := by
  obtain ⟨⟨n1, n2, n3⟩, h2, h3, h4, h5, h6, h7, h8⟩ := h
  have ee := se_e0 h2
  obtain ⟨T, cx, c7, l0, op0, bd⟩ := sb_nil h2
  have kx := kxw_e k
  have ecl : clen t = clen σ := by unfold clen; rw [e4]
  have es : (t 6 15) = (σ 6 15) := k 6 15 (op_lt (by decide)) rfl rfl
  obtain ⟨r1, r2, r3, r4, r5, r6, r7⟩ := kw_e k
  have sb' : SB t g b K X H0 := ⟨by rw [ecl]; exact typ_mono w agr_rf (cpu_mono k m) (fun _ z => z) T, by rw [ecl]; exact cx_e k w agr_rf (Nat.le_refl _) cx, cnt, by rw [e4]; exact l0, by rw [r7]; exact op0, by rw [ecl]; exact bd⟩
  have d8 : ∀ j, t 8 j = σ 8 j := fun j => k 8 j (op_lt (by decide)) (by
    rw [List.contains_cons, List.contains_cons, List.contains_cons, List.contains_cons, List.contains_cons, List.contains_cons, List.contains_nil]
    rfl) rfl
  refine ⟨wk_w wk kx m (by rw [es]; exact wk.2.1.2.2.2.1) (fun j hj => w j (by omega)) (by rw [ecl]; exact wk.2.2.1.2.2.2) (by rw [e4]; exact l0), ⟨n1, n2, n3⟩, by rw [ee, ← ecl]; exact se_nil sb', uf_w kx m (fun q hq => w q (by omega)) h3, h4, h5, fun c => by rw [show t 6 6 = σ 6 6 from k 6 6 (op_lt (by decide)) rfl rfl]; exact h6 c, fun c => ⟨fn_k kx m es (k 6 17 (op_lt (by decide)) rfl rfl) (funext (fun j => k 45 j (op_lt (by decide)) rfl rfl)) rfl (fn_F2 (h7 c).1) (h7 c).1, fun z => by rw [d8]; exact (h7 c).2 z⟩, fun c => by rw [d8]; exact h8 c⟩
end SIZ
end

section
/-! the walk: every step -/
theorem dz_F1 {a : Int} {f1 f2 : Int32} {F : Nat} {K : List Nat} {A : List It} {z' : Zs} (h : dz a f1 f2 (F, K, A) z') (hr : 20 ≤ a ∧ a ≤ 38) : F = 1 := by
  have c : a = 20 ∨ a = 21 ∨ a = 22 ∨ a = 23 ∨ a = 24 ∨ a = 25 ∨ a = 26 ∨ a = 27 ∨ a = 28 ∨ a = 29 ∨ a = 30 ∨ a = 31 ∨ a = 32 ∨ a = 33 ∨ a = 34 ∨ a = 35 ∨ a = 36 ∨ a = 37 ∨ a = 38 := by omega
  rcases c with c | c | c | c | c | c | c | c | c | c | c | c | c | c | c | c | c | c | c
  · obtain ⟨K1, e1, -⟩ := dzi_20 h c
    exact (zs_inj e1).1.symm
  · obtain ⟨K1, e1, -⟩ := dzi_21 h c
    exact (zs_inj e1).1.symm
  · obtain ⟨K1, e1, -⟩ := dzi_22 h c
    exact (zs_inj e1).1.symm
  · obtain ⟨K1, e1, -⟩ := dzi_23 h c
    exact (zs_inj e1).1.symm
  · obtain ⟨K1, e1, -⟩ := dzi_24 h c
    exact (zs_inj e1).1.symm
  · obtain ⟨K1, e1, -⟩ := dzi_25 h c
    exact (zs_inj e1).1.symm
  · obtain ⟨K1, e1, -⟩ := dzi_26 h c
    exact (zs_inj e1).1.symm
  · obtain ⟨K1, e1, -⟩ := dzi_27 h c
    exact (zs_inj e1).1.symm
  · obtain ⟨K1, e1, -⟩ := dzi_28 h c
    exact (zs_inj e1).1.symm
  · obtain ⟨K1, e1, -⟩ := dzi_29 h c
    exact (zs_inj e1).1.symm
  · obtain ⟨K1, e1, -⟩ := dzi_30 h c
    exact (zs_inj e1).1.symm
  · obtain ⟨K1, e1, -⟩ := dzi_31 h c
    exact (zs_inj e1).1.symm
  · obtain ⟨K1, e1, -⟩ := dzi_32 h c
    exact (zs_inj e1).1.symm
  · obtain ⟨K1, e1, -⟩ := dzi_33 h c
    exact (zs_inj e1).1.symm
  · obtain ⟨K1, e1, -⟩ := dzi_34 h c
    exact (zs_inj e1).1.symm
  · obtain ⟨K1, e1, -⟩ := dzi_35 h c
    exact (zs_inj e1).1.symm
  · obtain ⟨K1, e1, -⟩ := dzi_36 h (Or.inl c)
    exact (zs_inj e1).1.symm
  · obtain ⟨K1, e1, -⟩ := dzi_36 h (Or.inr c)
    exact (zs_inj e1).1.symm
  · obtain ⟨K1, e1, -⟩ := dzi_38 h c
    exact (zs_inj e1).1.symm
theorem Int1 : (1 : Int32).toInt = 1 := by decide
section WKL
variable {σ s z t ρ : St} {g g' g1 : Gh} {X X0 Y : Nat → Prop} {b e e0 e' h h' H H0 H' L L' m n N N' Nb c d p tt j i F F' k B q E hd f : Nat} {K K2 M G D : List Nat} {A : List It} {x y v a op a1 a2 a3 : Int32}
/-- where the declarations' take() goes -/
theorem tk1_all {Q : St → Prop} (hr : 42 ≤ a.toInt ∧ a.toInt ≤ 49) (h42 : a.toInt = 42 → ∀ y, Q (upC (upC σ 8 6 (atv 32100 (σ 19) x)) 8 7 y)) (h43 : a.toInt = 43 → wk_X1_variable (atv 32100 (σ 19) x) (atv 32100 (σ 20) x) (atv 32100 (σ 21) x) σ (fun s => Q s)) (h44 : a.toInt = 44 → wk_X1_item σ (fun s => Q s)) (h45 : a.toInt = 45 → wk_X1_fill (atv 32100 (σ 19) x) σ (fun s => Q s)) (h46 : a.toInt = 46 → wk_X1_initial (atv 32100 (σ 19) x) (atv 32100 (σ 20) x) σ (fun s => Q s)) (h47 : a.toInt = 47 → wk_X1_function (atv 32100 (σ 19) x) (atv 32100 (σ 20) x) (atv 32100 (σ 21) x) σ (fun s => Q s)) (h48 : a.toInt = 48 → wk_X1_parameter (atv 32100 (σ 19) x) (atv 32100 (σ 20) x) σ (fun s => Q s)) (h49 : a.toInt = 49 → wk_X1_functionEnd σ (fun s => Q s)) : wk_X1_take a x σ Q := by
  unfold wk_X1_take
  exact ⟨fun c => ⟨fun _ => ⟨fun _ => h42 c _, fun _ => h42 c _⟩, fun _ => h42 c _⟩, fun _ => ⟨h43, fun _ => ⟨h44, fun _ => ⟨h45, fun _ => ⟨h46, fun _ => ⟨h47, fun _ => ⟨h48, fun _ => h49 (by omega)⟩⟩⟩⟩⟩⟩⟩
/-- what the walk keeps to between its steps -/
def WLx (ρ s : St) (BB NB : Int) (i : Nat) (z : Zs) : Prop := (s 6 3).toInt = 0 → ∃ Nb b e0 H0 g X, WSx ρ s z.1 z.2.1 z.2.2 Nb b e0 H0 g X ∧ (clen s : Int) + 2 * plc s z.2.2 + csum ρ (cn ρ - i) i ≤ BB ∧ (s 5 7).toInt + nsum ρ (cn ρ - i) i ≤ NB ∧ z.2.1.length ≤ i ∧ z.2.2.length ≤ 500
theorem kwk_g (k : KWk σ s) : (s 13) = (σ 13) ∧ (s 14) = (σ 14) ∧ (s 15) = (σ 15) ∧ (s 18) = (σ 18) ∧ (s 19) = (σ 19) ∧ (s 20) = (σ 20) ∧ (s 21) = (σ 21) ∧ (s 3 4) = (σ 3 4) ∧ s 1 = σ 1 := ⟨ko_rd k 13 (Or.inl (by decide)) rfl (fun _ => rfl), ko_rd k 14 (Or.inl (by decide)) rfl (fun _ => rfl), ko_rd k 15 (Or.inl (by decide)) rfl (fun _ => rfl), ko_rd k 18 (Or.inl (by decide)) rfl (fun _ => rfl), ko_rd k 19 (Or.inl (by decide)) rfl (fun _ => rfl), ko_rd k 20 (Or.inl (by decide)) rfl (fun _ => rfl), ko_rd k 21 (Or.inl (by decide)) rfl (fun _ => rfl), k 3 4 (op_lt (by decide)) rfl rfl, ko_rd k 1 (Or.inl (by decide)) rfl (fun _ => rfl)⟩
theorem cs_step (hi : i < q) : csum ρ (q - i) i = cst ρ i + csum ρ (q - (i + 1)) (i + 1) := by
  have : q - i = (q - (i + 1)) + 1 := by omega
  rw [this]
  rfl
theorem ns_step (hi : i < q) : nsum ρ (q - i) i = nst ρ i + nsum ρ (q - (i + 1)) (i + 1) := by
  have : q - i = (q - (i + 1)) + 1 := by omega
  rw [this]
  rfl
theorem cst_tab {n : Nat} (hn : n < 50) (h45 : n ≠ 45) (h : act σ i = (n : Int)) : cst σ i = ([0, 2, 3, 2, 0, 0, 3, 2, 2, 2, 3, 2, 0, 2, 2, 2, 0, 0, 0, 0, 0, 0, 1, 2, 2, 0, 0, 4, 2, 2, 0, 2, 0, 4, 4, 2, 2, 2, 3, 0, 0, 0, 0, 5, 3, 0, 3, 4, 0, 3] : List Nat).getD n 0 := by
  unfold cst
  rw [h, if_neg (by omega)]
  rfl
/-- a step behind which the next one stands; all that it says is put together -/
theorem wl_next {z1 : Zs} {BB NB : Int} (hi : i < cn ρ) (hK : z1.2.1.length ≤ i + 1) (hA : z1.2.2.length ≤ 500) (hv : (s 6 3).toInt = 0 → ∃ Nb b e0 H0 g X, WSx ρ s z1.1 z1.2.1 z1.2.2 Nb b e0 H0 g X ∧ (clen s : Int) + 2 * plc s z1.2.2 ≤ BB - csum ρ (cn ρ - (i + 1)) (i + 1)) (hn : (s 5 7).toInt ≤ NB - nsum ρ (cn ρ - (i + 1)) (i + 1)) : WLx ρ s BB NB (i + 1) z1 := fun f => by
  obtain ⟨Nb, b, e0, H0, g, X, h1, h2⟩ := hv f
  exact ⟨Nb, b, e0, H0, g, X, h1, by omega, by omega, hK, hA⟩
/-- one turn of the walk -/
theorem ws_turn {Q : Int32 → St → Prop} {z z1 : Zs} {BB NB : Int} {i1 : Nat} (nm : NMr ρ) (by' : ByteOK (ρ 1)) (hd : (ρ 5 1).toInt ≤ 10000) (hBB : BB ≤ 262144) (hNB : NB ≤ 65600) (wk : WKs ρ s) (wl : WLx ρ s BB NB i z) (hf : (s 6 3).toInt = 0) (hx : x.toInt = i) (hc : cn ρ ≤ 32100) (hi : i < cn ρ) (w : WS ρ i i1 z z1) (hi1 : i1 ≤ cn ρ) (k : ∀ (x' : Int32) s', x'.toInt + 1 = i1 → WKs ρ s' → WLx ρ s' BB NB i1 z1 → Q x' s') :
    (20 ≤ (atv 32100 (s 18) x).toInt → (40 ≤ (atv 32100 (s 18) x).toInt → ((atv 32100 (s 18) x).toInt = 40 → wk_X7_constant (x + (1 : Int32)) (atv 32100 (s 20) x) s (fun v s154 => Q (if x < (atv 32100 (s 20) x) then (atv 32100 (s 20) x) else x) (upC s154 8 8 v))) ∧ ((atv 32100 (s 18) x).toInt ≠ 40 → wk_X1_take (atv 32100 (s 18) x) x s (fun s125 => Q x s125))) ∧ ((atv 32100 (s 18) x).toInt < 40 → wk_X7_take (atv 32100 (s 18) x) x s (fun s105 => Q x s105))) ∧ ((atv 32100 (s 18) x).toInt < 20 → wk_X2_take x s (fun s88 => Q x s88)) := by
  obtain ⟨Nb, b, e0, H0, g, X, h, hb, hn, hK, hA⟩ := wl hf
  obtain ⟨F, K, A⟩ := z
  have h : WSx ρ s F K A Nb b e0 H0 g X := h
  have hb : (clen s : Int) + 2 * plc s A + csum ρ (cn ρ - i) i ≤ BB := hb
  have hK : K.length ≤ i := hK
  have hA : A.length ≤ 500 := hA
  obtain ⟨e13, e14, e15, e18, e19, e20, e21, e34, e1⟩ := kwk_g wk.1
  have hi3 : i < 32100 := by omega
  have ea : atv 32100 (s 18) x = (ρ 18) i := by rw [e18]; exact atv_at hx hi3
  have ea2 : atv 32100 (s 18) x = (s 18) i := atv_at hx hi3
  have et : atv 32100 (s 19) x = (ρ 19) i := by rw [e19]; exact atv_at hx hi3
  have ef : atv 32100 (s 20) x = (ρ 20) i := by rw [e20]; exact atv_at hx hi3
  have es : atv 32100 (s 21) x = (ρ 21) i := by rw [e21]; exact atv_at hx hi3
  have act' : act s i = act ρ i := by unfold act; rw [e18]
  have eact : ((ρ 18) i).toInt = act ρ i := rfl
  have ecst : cst s i = cst ρ i := cst_same e14 ⟨by rw [e18], by rw [e19]⟩
  have vx : vlx s ((ρ 19) i) = vlx ρ ((ρ 19) i) := by unfold vlx; rw [e14]
  have tx : tkx s ((ρ 19) i) = tkx ρ ((ρ 19) i) := by unfold tkx; rw [e13]
  have l0 : 0 ≤ (s 4 1).toInt := wk.2.2.2.1
  have c0 := clen_eq l0
  have step := cs_step (ρ := ρ) hi
  have stepn := ns_step (ρ := ρ) hi
  have cap : (s 4 1).toInt ≤ 262150 := by omega
  have hx1 : x.toInt + 1 = ((i + 1 : Nat) : Int) := by omega
  have nm' : NMr s := by unfold NMr; rw [e13, e14, e15]; exact nm
  have by2 : ByteOK (s 1) := by rw [e1]; exact by'
  have hd' : (s 5 1).toInt - (s 6 7).toInt ≤ 10000 := by
    have := wk.2.2.1.1
    omega
  rw [ea, eact, ef]
  rcases w with ⟨w1, w2, F2, K2', A2, B2, z1e, z2e, w3⟩ | ⟨w1, w3, w4⟩ | ⟨w1, w2, w3, w4, w5, F2, K2', z1e, z2e⟩
  · -- an expression's
    obtain ⟨q1, q2, q3⟩ := zs_inj z1e
    subst q1 q2 q3 z2e w1
    refine ⟨fun c => by omega, fun _ => ?_⟩
    refine ws_x wk h cap hA hx hi3 (by rw [act', e19, tx]; exact w3) (fun s2 k2 w2' hv => k x s2 hx1 w2' (wl_next hi (by clear hv; show K2'.length ≤ i + 1; omega) (dx_len w3 hA) (fun f2 => ?_) ?_))
    · obtain ⟨g', q4, q5⟩ := hv f2
      rw [ecst] at q5
      exact ⟨Nb, b, e0, H0, g', X, q4, by show (clen s2 : Int) + 2 * plc s2 B2 ≤ _; omega⟩
    · rw [show s2 5 7 = s 5 7 from k2 5 7 (op_lt (by decide)) rfl rfl]
      clear hv
      omega
  · -- a statement's or a declaration's
    subst w1
    have rg := dz_rng w3
    refine ⟨fun c20 => ⟨fun c40 => ⟨fun c => by omega, fun _ => ?_⟩, fun c40 => ?_⟩, fun c => by omega⟩
    · -- declarations
      rw [← ea]
      refine tk1_all (by rw [ea, eact]; omega) (fun c y => ?_) (fun c => ?_) (fun c => ?_) (fun c => ?_) (fun c => ?_) (fun c => ?_) (fun c => ?_) (fun c => ?_)
      all_goals rw [ea, eact] at c
      all_goals try rw [et]
      all_goals try rw [ef]
      all_goals try rw [es]
      · obtain ⟨F2, K2', e2, e3⟩ := dzi_42 w3 c
        obtain ⟨q1, q2, q3⟩ := zs_inj e2
        subst q1 q2 q3
        rw [e2] at e3
        subst e3
        generalize hs2 : upC (upC s 8 6 ((ρ 19) i)) 8 7 y = s2
        have kt : Kp [(8, 6), (8, 7), (8, 8)] [] s s2 := by rw [← hs2]; exact kp_f (kp_f kp_rf rfl) rfl
        have e4 : clen s2 = clen s := by unfold clen; rw [show s2 4 1 = s 4 1 from kt 4 1 rfl rfl]
        refine k x s2 hx1 (wk_D kt wk) (wl_next hi (by show K2'.length ≤ i + 1; omega) (Nat.zero_le _) (fun _ => ⟨Nb, b, e0, H0, g, X, ws_D kt h, by rw [e4]; show (clen s : Int) + 2 * (0 : Nat) ≤ _; have : plc s [] = 0 := rfl; omega⟩) ?_)
        rw [show s2 5 7 = s 5 7 from kt 5 7 rfl rfl]
        omega
      · obtain ⟨F2, K2', hF1, tp, e2, e3⟩ := dzi_43 w3 c
        obtain ⟨q1, q2, q3⟩ := zs_inj e2
        subst q1 q2 q3
        have p0 : plc s [] = 0 := rfl
        have tk2 : tkx s ((ρ 19) i) = 2 := by rw [tx]; exact w4 (Or.inl c)
        have ens : nst ρ i = (vlx ρ ((ρ 19) i)).toNat := if_pos (Or.inl c)
        have ecs := cst_tab (n := 43) (by decide) (by decide) c
        have ecs' : cst ρ i = 5 := ecs
        have zz : ∃ M, z1 = (F2, M, []) ∧ M.length ≤ K2'.length + 1 ∧ ((b4 ((ρ 21) i) ∧ M = 9 :: K2') ∨ (¬ b4 ((ρ 21) i) ∧ M = K2')) := by
          rcases e3 with ⟨b1, e3⟩ | ⟨b1, e3⟩
          · exact ⟨9 :: K2', e3, Nat.le_refl _, Or.inl ⟨b1, rfl⟩⟩
          · exact ⟨K2', e3.trans e2, Nat.le_succ _, Or.inr ⟨b1, rfl⟩⟩
        obtain ⟨M, ez, hM1, hM2⟩ := zz
        subst ez
        have f01 : F2 = 0 ∨ F2 = 1 := by omega
        rcases f01 with rfl | rfl
        · refine ws_var0 wk h tp nm' by2 tk2 hd' (by rw [vx]; omega) hM2 (fun s2 k2 w2' n2 hv => k x s2 hx1 w2' (wl_next hi (by clear hv; show M.length ≤ i + 1; omega) (Nat.zero_le _) (fun f2 => ?_) (by clear hv; rw [vx] at n2; omega)))
          obtain ⟨Nb', b', e1', g', X', q4, q5⟩ := hv f2
          clear hv
          exact ⟨Nb', b', e1', 0, g', X', q4, by show (clen s2 : Int) + 2 * (0 : Nat) ≤ _; omega⟩
        · refine ws_var1 wk h tp cap hM2 (fun s2 k2 w2' n2 hv => k x s2 hx1 w2' (wl_next hi (by clear hv; show M.length ≤ i + 1; omega) (Nat.zero_le _) (fun f2 => ?_) (by clear hv; rw [n2]; omega)))
          obtain ⟨e1', g', q4, q5⟩ := hv f2
          clear hv
          exact ⟨Nb, b, e1', 0, g', X, q4, by show (clen s2 : Int) + 2 * (0 : Nat) ≤ _; omega⟩
      · obtain ⟨F2, K2', c9, hc9, e2, e3⟩ := dzi_44 w3 c
        obtain ⟨q1, q2, q3⟩ := zs_inj e2
        subst q1 q2 q3 e3
        have ecs : cst ρ i = 3 := cst_tab (n := 44) (by decide) (by decide) c
        refine ws_item (by omega) wk h cap (fun s2 k2 w2' n2 hv => k x s2 hx1 w2' (wl_next hi (by clear hv; show K2'.length + 1 ≤ i + 1; simp only [List.length_cons] at hK; omega) (Nat.zero_le _) (fun f2 => ?_) (by clear hv; rw [n2]; omega)))
        obtain ⟨e1', H1, g', X', q4, q5⟩ := hv f2
        clear hv
        exact ⟨Nb, b, e1', H1, g', X', q4, by show (clen s2 : Int) + 2 * (0 : Nat) ≤ _; omega⟩
      · obtain ⟨F2, K2', e2, e3⟩ := dzi_45 w3 c
        obtain ⟨q1, q2, q3⟩ := zs_inj e2
        subst q1 q2 q3 e3
        have p0 : plc s [] = 0 := rfl
        have ecs : cst ρ i = 4 * (vlx ρ ((ρ 19) i)).toNat := by
          unfold cst
          rw [if_pos c, c]
          show 0 + _ = _
          omega
        refine ws_fill wk h (by rw [vx]; omega) (fun s2 k2 w2' n2 hv => k x s2 hx1 w2' (wl_next hi (by clear hv; show K2'.length + 1 ≤ i + 1; simp only [List.length_cons] at hK; omega) (Nat.zero_le _) (fun f2 => ?_) (by clear hv; rw [n2]; omega)))
        obtain ⟨e1', g', q4, q5⟩ := hv f2
        clear hv
        rw [vx] at q5
        exact ⟨Nb, b, e1', H0, g', X, q4, by show (clen s2 : Int) + 2 * (0 : Nat) ≤ _; omega⟩
      · obtain ⟨F2, K2', e3, e2⟩ := dzi_46 w3 c
        subst e3
        have ecs : cst ρ i = 3 := cst_tab (n := 46) (by decide) (by decide) c
        have fin : ∀ c9 : Nat, 9 ≤ c9 → F = F2 → K = c9 :: K2' → ((((ρ 20) i).toInt = 0 ∧ c9 = 9 ∧ A = [iV]) ∨ (((ρ 20) i).toInt = 1 ∧ A = []) ∨ (((ρ 20) i).toInt = 2 ∧ c9 = 11 ∧ A = [])) → wk_X1_initial ((ρ 19) i) ((ρ 20) i) s (fun s => Q x s) := fun c9 h9 q1 q2 hAA => by
          subst q1 q2
          refine ws_initial h9 wk h hAA cap (fun s2 k2 w2' n2 hv => k x s2 hx1 w2' (wl_next hi (by clear hv; show K2'.length ≤ i + 1; simp only [List.length_cons] at hK; omega) (Nat.zero_le _) (fun f2 => ?_) (by clear hv; rw [n2]; omega)))
          obtain ⟨e1', H1, g', X', q4, q5⟩ := hv f2
          clear hv
          exact ⟨Nb, b, e1', H1, g', X', q4, by show (clen s2 : Int) + 2 * (0 : Nat) ≤ _; omega⟩
        rcases e2 with ⟨p1, p2⟩ | ⟨p1, p2 | p2⟩ | ⟨p1, p2⟩
        · obtain ⟨q1, q2, q3⟩ := zs_inj p2
          exact fin 9 (by decide) q1.symm q2.symm (Or.inl ⟨p1, rfl, q3.symm⟩)
        · obtain ⟨q1, q2, q3⟩ := zs_inj p2
          exact fin 9 (by decide) q1.symm q2.symm (Or.inr (Or.inl ⟨p1, q3.symm⟩))
        · obtain ⟨q1, q2, q3⟩ := zs_inj p2
          exact fin 10 (by decide) q1.symm q2.symm (Or.inr (Or.inl ⟨p1, q3.symm⟩))
        · obtain ⟨q1, q2, q3⟩ := zs_inj p2
          exact fin 11 (by decide) q1.symm q2.symm (Or.inr (Or.inr ⟨p1, rfl, q3.symm⟩))
      · obtain ⟨e2, sp, e3⟩ := dzi_47 w3 c
        obtain ⟨q1, q2, q3⟩ := zs_inj e2
        subst q1 q2 q3
        have p0 : plc s [] = 0 := rfl
        have tk2 : tkx s ((ρ 19) i) = 2 := by rw [tx]; exact w4 (Or.inr c)
        have ens : nst ρ i = (vlx ρ ((ρ 19) i)).toNat := if_pos (Or.inr c)
        have ecs : cst ρ i = 4 := cst_tab (n := 47) (by decide) (by decide) c
        have zz : ∃ M, z1 = (M, [], []) ∧ ((b4 ((ρ 21) i) ∧ M = 1 + spar ((ρ 20) i)) ∨ (¬ b4 ((ρ 21) i) ∧ M = 0)) := by
          rcases e3 with ⟨b1, e3⟩ | ⟨b1, e3⟩
          · exact ⟨_, e3, Or.inl ⟨b1, rfl⟩⟩
          · exact ⟨_, e3, Or.inr ⟨b1, rfl⟩⟩
        obtain ⟨M, ez, hM2⟩ := zz
        subst ez
        refine ws_func wk h nm' by2 tk2 hd' (by rw [vx]; omega) sp cap hM2 (fun s2 k2 w2' n2 hv => k x s2 hx1 w2' (wl_next hi (Nat.zero_le _) (Nat.zero_le _) (fun f2 => ?_) (by clear hv; rw [vx] at n2; omega)))
        obtain ⟨Nb', b', e1', g', X', q4, q5⟩ := hv f2
        clear hv
        exact ⟨Nb', b', e1', 0, g', X', q4, by show (clen s2 : Int) + 2 * (0 : Nat) ≤ _; omega⟩
      · obtain ⟨F2, e2, e3⟩ := dzi_48 w3 c
        obtain ⟨q1, q2, q3⟩ := zs_inj e2
        subst q1 q2 q3 e3
        have p0 : plc s [] = 0 := rfl
        refine ws_param wk h (fun s2 k2 w2' n2 hv => k x s2 hx1 w2' (wl_next hi (Nat.zero_le _) (Nat.zero_le _) (fun f2 => ?_) (by clear hv; rw [n2]; omega)))
        obtain ⟨e1', g', q4, q5⟩ := hv f2
        clear hv
        exact ⟨Nb, b, e1', 0, g', X, q4, by show (clen s2 : Int) + 2 * (0 : Nat) ≤ _; omega⟩
      · obtain ⟨e2, e3⟩ := dzi_49 w3 c
        obtain ⟨q1, q2, q3⟩ := zs_inj e2
        subst q1 q2 q3 e3
        have p0 : plc s [] = 0 := rfl
        have ecs : cst ρ i = 3 := cst_tab (n := 49) (by decide) (by decide) c
        refine ws_fnEnd wk h cap (fun s2 k2 w2' n2 hv => k x s2 hx1 w2' (wl_next hi (Nat.zero_le _) (Nat.zero_le _) (fun f2 => ?_) (by clear hv; rw [n2]; omega)))
        obtain ⟨Nb', b', e1', g', X', q4, q5⟩ := hv f2
        clear hv
        exact ⟨Nb', b', e1', 0, g', X', q4, by show (clen s2 : Int) + 2 * (0 : Nat) ≤ _; omega⟩
    · -- statements
      have F1 : F = 1 := dz_F1 w3 (by omega)
      subst F1
      refine ws_s (f1 := (ρ 20) i) (f2 := (ρ 21) i) wk h cap hx hi3 (by omega) (by rw [e18]) (by rw [act']; omega) (by rw [act', e20, e21]; exact w3) hf (fun s2 M ez hM k2 w2' hv => ?_)
      subst ez
      refine k x s2 hx1 w2' (wl_next hi (by clear hv; show M.length ≤ i + 1; omega) (Nat.zero_le _) (fun f2 => ?_) ?_)
      · obtain ⟨e1', g', X', q4, q5⟩ := hv f2
        rw [ecst] at q5
        exact ⟨Nb, b, e1', 0, g', X', q4, by show (clen s2 : Int) + 2 * (0 : Nat) ≤ _; omega⟩
      · rw [show s2 5 7 = s 5 7 from k2 5 7 (op_lt (by decide)) rfl rfl]
        clear hv
        omega
  · -- a size
    have qq := zs_inj z1e
    obtain ⟨q1, q2, q3⟩ := qq
    subst q1 q2 q3
    rw [z1e] at z2e
    subst z2e
    refine ⟨fun _ => ⟨fun _ => ⟨fun _ => ?_, fun c => absurd w1 c⟩, fun c => by omega⟩, fun c => by omega⟩
    have p0 : plc s [] = 0 := rfl
    have ei1 : (if x < ((ρ 20) i) then ((ρ 20) i) else x).toInt + 1 = i1 := by
      rw [if_pos (Int32.lt_iff_toInt_lt.mpr (by omega))]
      omega
    have x1 : (x + (1 : Int32)).toInt = ((i + 1 : Nat) : Int) := by rw [ad0 Int1 (by omega) (by omega)]; omega
    have nlen : (i + 1) + (i1 - 1 - (i + 1)) = i1 - 1 := by omega
    have csplit : csum ρ (cn ρ - i) i = cst ρ i + (csum ρ (i1 - 1 - (i + 1)) (i + 1) + (cst ρ (i1 - 1) + csum ρ (cn ρ - i1) i1)) := by
      rw [step]
      have e1' : cn ρ - (i + 1) = (i1 - 1 - (i + 1)) + (cn ρ - (i1 - 1)) := by omega
      rw [e1', csum_app, nlen, cs_step (ρ := ρ) (q := cn ρ) (i := i1 - 1) (by omega)]
      have : i1 - 1 + 1 = i1 := by omega
      rw [this]
    have nsplit : nsum ρ (cn ρ - i) i = nst ρ i + (nsum ρ (i1 - 1 - (i + 1)) (i + 1) + (nst ρ (i1 - 1) + nsum ρ (cn ρ - i1) i1)) := by
      rw [stepn]
      have e1' : cn ρ - (i + 1) = (i1 - 1 - (i + 1)) + (cn ρ - (i1 - 1)) := by omega
      rw [e1', nsum_app, nlen, ns_step (ρ := ρ) (q := cn ρ) (i := i1 - 1) (by omega)]
      have : i1 - 1 + 1 = i1 := by omega
      rw [this]
    have sm : ∀ q, csum s q (i + 1) = csum ρ q (i + 1) := fun q => csum_same e14 q _ (fun j _ _ => ⟨by rw [e18], by rw [e19]⟩)
    refine sp_constant (f := i + 1) (n := i1 - 1 - (i + 1)) wk.2.1 (sb_nil h.2.1) hf x1 (by rw [nlen]; omega) (by omega) (xr_same e13 _ _ _ _ (fun j _ _ => ⟨by rw [e18], by rw [e19]⟩) w5) (by rw [sm]; omega) (fun v t kt mt t4 wt ct ft => ?_)
    obtain ⟨w6, h6⟩ := ws_const wk h kt mt t4 wt ct
    have ecl : clen t = clen s := by unfold clen; rw [t4]
    generalize hu : upC t 8 8 v = u
    have ku : Kp [(8, 6), (8, 7), (8, 8)] [] t u := by rw [← hu]; exact kp_f kp_rf rfl
    have ecu : clen u = clen t := by unfold clen; rw [show u 4 1 = t 4 1 from ku 4 1 rfl rfl]
    have en : u 5 7 = s 5 7 := (ku 5 7 rfl rfl).trans (kt 5 7 (op_lt (by decide)) rfl rfl)
    refine k _ u ei1 (wk_D ku w6) (fun _ => ⟨Nb, b, e0, H0, g, X, ws_D ku h6, by show (clen u : Int) + 2 * (0 : Nat) + (csum ρ (cn ρ - i1) i1 : Nat) ≤ BB; omega, by rw [en]; omega, by show K2'.length ≤ i1; omega, Nat.zero_le _⟩)
end WKL
end

section
/-! the walk, whole -/
section WK2
variable {σ s z t ρ : St} {g g' g1 : Gh} {X X0 Y : Nat → Prop} {b e e0 e' h h' H H0 H' L L' m n N N' Nb c d p tt j i F F' k B q E hd f : Nat} {K K2 M G D : List Nat} {A : List It} {x y v a op a1 a2 a3 : Int32}
theorem rz_end : ∀ (m j : Nat) (z z' : Zs), RZ σ m j j z z' → z = z'
  | 0, j, z, z' => fun h => h.2
  | m + 1, j, z, z' => fun h => by
    obtain ⟨i1', z1, h1, h2, h3⟩ := h
    have := ws_lt h1
    omega
theorem wd_ge {x3 : Int32} {q i i2 : Nat} (h : (q : Int) - i ≤ x3.toInt) (hi : i + 1 ≤ i2) (c : 0 < x3.toInt) : (q : Int) - i2 ≤ (x3 + (-1 : Int32)).toInt := by
  rw [dc1 (by omega)]
  omega
/-- behind the walk: every function of the unit is finished, and none that is called lacks a body -/
def WDx (ρ s : St) : Prop := WKs ρ s ∧ ((s 6 3).toInt = 0 → ∃ N, UFx s N ∧ N ≤ clen s ∧ (s 6 6).toInt = -1 ∧ clen ρ ≤ N ∧
  ∀ i : Nat, (i : Int) < (s 6 7).toInt → ∀ d : Nat, (d : Int) = (s 5 1).toInt - (s 6 7).toInt + i → FLb ((s 25) d) 2 → 0 ≤ ((s 39) i).toInt → FLb ((s 25) d) 4)
theorem sp_ufinish {Q : St → Prop} (u : UXs s) (k : ∀ s', FAi s s' → ((s' 6 3).toInt = 0 → s' = s ∧ ∀ i : Nat, (i : Int) < (s 6 7).toInt → ∀ d : Nat, (d : Int) = (s 5 1).toInt - (s 6 7).toInt + i → FLb ((s 25) d) 2 → 0 ≤ ((s 39) i).toInt → FLb ((s 25) d) 4) → Q s') : wk_X11_finish s Q := by
  obtain ⟨u1, u2, u3, u4, u5⟩ := u
  unfold wk_X11_finish
  refine ⟨fun n x1 x2 => n = ((s 6 7).toInt - x2.toInt).toNat ∧ 0 ≤ x2.toInt ∧ (x1.toInt < 0 → ∀ i : Nat, (i : Int) < x2.toInt → ∀ d : Nat, (d : Int) = (s 5 1).toInt - (s 6 7).toInt + i → FLb ((s 25) d) 2 → 0 ≤ ((s 39) i).toInt → FLb ((s 25) d) 4), ⟨_, rfl, by decide, fun _ i hi => absurd hi (by show ¬ (i : Int) < 0; omega)⟩, ?_⟩
  rintro n x1 x2 ⟨hn, h0, hv⟩
  refine ⟨fun c => ⟨fun c1 => k s fa_rf (fun _ => ⟨rfl, fun i hi => hv c1 i (by omega)⟩), fun _ => fa_fail (by decide) (fun t ft fz => k t ft (fun z => absurd z fz))⟩, fun c => ?_⟩
  obtain ⟨i, hi⟩ : ∃ i : Nat, x2.toInt = i := ⟨x2.toInt.toNat, by omega⟩
  have e1 : ((s 5 1) - (s 6 7)).toInt = (s 5 1).toInt - (s 6 7).toInt := sb (by omega) (by omega)
  have e2 : (((s 5 1) - (s 6 7)) + x2).toInt = (s 5 1).toInt - (s 6 7).toInt + i := by rw [ad (by omega) (by omega), e1, hi]
  obtain ⟨d, hd⟩ : ∃ d : Nat, (s 5 1).toInt - (s 6 7).toInt + i = (d : Int) := ⟨((s 5 1).toInt - (s 6 7).toInt + i).toNat, by omega⟩
  have ed : (((s 5 1) - (s 6 7)) + x2).toInt = (d : Int) := by rw [e2, hd]
  have af : atv 10100 (s 25) (((s 5 1) - (s 6 7)) + x2) = s 25 d := atv_at ed (by omega)
  have at39 : atv 100 (s 39) x2 = s 39 i := atv_at hi (by omega)
  have up : (x2 + 1).toInt = x2.toInt + 1 := ad1 (by omega)
  -- what the next turn wants, when this one lacks nothing
  have nxt : ∀ x1' : Int32, (x1'.toInt < 0 → (FLb (s 25 d) 2 → 0 ≤ (s 39 i).toInt → FLb (s 25 d) 4) ∧ x1.toInt < 0) → ∃ m, m < n ∧ (m = ((s 6 7).toInt - (x2 + 1).toInt).toNat ∧ 0 ≤ (x2 + 1).toInt ∧ (x1'.toInt < 0 → ∀ i : Nat, (i : Int) < (x2 + 1).toInt → ∀ d : Nat, (d : Int) = (s 5 1).toInt - (s 6 7).toInt + i → FLb ((s 25) d) 2 → 0 ≤ ((s 39) i).toInt → FLb ((s 25) d) 4)) := fun x1' hx => by
    refine ⟨_, ?_, rfl, by rw [up]; omega, fun c1 j hj d' hd' => ?_⟩
    · rw [up]
      clear hx hv
      omega
    · rw [up] at hj
      obtain ⟨q1, q2⟩ := hx c1
      by_cases cj : j = i
      · subst cj
        have : d' = d := by clear hx hv q1; omega
        rw [this]
        exact q1
      · exact hv q2 j (by clear hx hv q1; omega) d' hd'
  refine is_all (fun v43 n43 y43 _ => ?_)
  rw [af] at n43 y43
  refine ⟨fun y => y.toInt = 0 → FLb (s 25 d) 2 → FLb (s 25 d) 4, fun y66 _ hy => ?_, (FLb (s 25 d) 2 → FLb (s 25 d) 4), fun hJ _ => hJ, fun c0 q => absurd q (n43 c0), fun _ => is_all (fun v55 n55 y55 _ => ?_)⟩
  · refine ⟨fun x1' => x1'.toInt < 0 → (FLb (s 25 d) 2 → 0 ≤ (s 39 i).toInt → FLb (s 25 d) 4) ∧ x1.toInt < 0, fun x1' hx => nxt x1' hx, fun c0 c1 => ⟨fun q1 _ => hy c0 q1, c1⟩, fun _ => ⟨fun ct c1 => ⟨fun _ q2 => ?_, c1⟩, fun ct => ?_⟩⟩
    · rw [at39] at ct
      omega
    · refine ⟨True, fun _ c1 => ?_, fun _ => trivial, fun cx => ⟨fun _ c1 => absurd c1 (by omega), fun _ => trivial⟩⟩
      omega
  · rw [af] at n55 y55
    exact ⟨fun c5 _ => y55 c5, fun _ e => absurd e (by decide)⟩
/-- the walk over a unit -/
theorem sp_walk {Q : St → Prop} (rd : RDk σ) (sz : (σ 2 1).toInt ≤ 16000) (nm : NMr σ) (pl : PLA σ) (by' : ByteOK (σ 1)) (hd : 0 ≤ (σ 5 1).toInt ∧ (σ 5 1).toInt ≤ 10000) (l0 : 0 ≤ (σ 4 1).toInt) (lb : (σ 4 1).toInt + 4 * (σ 2 1).toInt ≤ 262144) (hn : 0 ≤ (σ 5 7).toInt ∧ (σ 5 7).toInt + (σ 2 1).toInt ≤ 65600) (hnm : NME σ) (fx : ∀ j, FLb ((σ 25) j) 1 → spar ((σ 27) j) ≤ 8) (k : ∀ ρ s, Kp [(6, 2), (6, 3), (6, 4), (6, 5), (6, 7), (6, 6), (6, 10), (6, 15), (6, 17), (8, 6), (8, 8), (7, 7), (9, 5)] [] σ ρ → (ρ 6 7).toInt = 0 → WDx ρ s → ((s 6 3).toInt = 0 → (clen s : Int) ≤ (σ 4 1).toInt + 4 * (σ 2 1).toInt ∧ (s 5 7).toInt ≤ (σ 5 7).toInt + (σ 2 1).toInt) → Q s) : wk_X7_walk x σ Q := by
  obtain ⟨⟨g0, g1'⟩, ⟨m0, rz⟩, cs, ns⟩ := rd
  unfold wk_X7_walk wk_X11_begin wk_X11_leave wk_X1_begin
  dsimp only
  generalize hρ : upC (upC (upC (upC (upC (upC (upC (upC (upC (upC (upC (upC (upC σ 6 2 x) 6 3 (0 : Int32)) 6 4 ((-1) : Int32)) 6 5 (0 : Int32)) 6 7 (0 : Int32)) 6 6 ((-1) : Int32)) 6 10 (0 : Int32)) 6 15 (0 : Int32)) 6 17 (0 : Int32)) 8 6 ((-1) : Int32)) 8 8 (0 : Int32)) 7 7 (0 : Int32)) 9 5 (0 : Int32) = ρ
  have kρ : Kp [(6, 2), (6, 3), (6, 4), (6, 5), (6, 7), (6, 6), (6, 10), (6, 15), (6, 17), (8, 6), (8, 8), (7, 7), (9, 5)] [] σ ρ := by
    rw [← hρ]
    exact kp_f (kp_f (kp_f (kp_f (kp_f (kp_f (kp_f (kp_f (kp_f (kp_f (kp_f (kp_f (kp_f kp_rf rfl) rfl) rfl) rfl) rfl) rfl) rfl) rfl) rfl) rfl) rfl) rfl) rfl
  have r3 : ρ 6 3 = 0 := by rw [← hρ]; rfl
  have r7 : ρ 6 7 = 0 := by rw [← hρ]; rfl
  have r6 : ρ 6 6 = -1 := by rw [← hρ]; rfl
  have r15 : ρ 6 15 = 0 := by rw [← hρ]; rfl
  have r77 : ρ 7 7 = 0 := by rw [← hρ]; rfl
  have r95 : ρ 9 5 = 0 := by rw [← hρ]; rfl
  have e34 : ρ 3 4 = σ 3 4 := kρ 3 4 rfl rfl
  have row : ∀ c, c ≠ 6 → c ≠ 7 → c ≠ 8 → c ≠ 9 → ρ c = σ c := fun c c6 c7 c8 c9 => by
    rw [← hρ, rdC_ne c9, rdC_ne c7, rdC_ne c8, rdC_ne c8, rdC_ne c6, rdC_ne c6, rdC_ne c6, rdC_ne c6, rdC_ne c6, rdC_ne c6, rdC_ne c6, rdC_ne c6, rdC_ne c6]
  have ecn : cn ρ = cn σ := by unfold cn; rw [e34]
  have cnl := cn_eq g0
  have rl : ρ 4 1 = σ 4 1 := by rw [row 4 (by decide) (by decide) (by decide) (by decide)]
  have ecl : clen ρ = clen σ := by unfold clen; rw [rl]
  have c0 := clen_eq l0
  have smz : ∀ q, SameZ σ ρ q := fun q => ⟨⟨by rw [row 18 (by decide) (by decide) (by decide) (by decide)], by rw [row 19 (by decide) (by decide) (by decide) (by decide)]⟩, by rw [row 20 (by decide) (by decide) (by decide) (by decide)], fun _ => by rw [row 21 (by decide) (by decide) (by decide) (by decide)]⟩
  have e13 : (ρ 13) = (σ 13) := row 13 (by decide) (by decide) (by decide) (by decide)
  have e14 : (ρ 14) = (σ 14) := row 14 (by decide) (by decide) (by decide) (by decide)
  have e15 : (ρ 15) = (σ 15) := row 15 (by decide) (by decide) (by decide) (by decide)
  have ecs : csum ρ (cn ρ - 0) 0 = csum σ (cn σ) 0 := by rw [ecn]; exact csum_same e14 _ _ (fun j _ _ => (smz j).1)
  have ens : nsum ρ (cn ρ - 0) 0 = nsum σ (cn σ) 0 := by rw [ecn]; exact nsum_same e14 _ _ (fun j _ _ => (smz j).1)
  have dρ : (ρ 5 1).toInt = (σ 5 1).toInt := by rw [row 5 (by decide) (by decide) (by decide) (by decide)]
  have nρ : (ρ 5 7).toInt = (σ 5 7).toInt := by rw [row 5 (by decide) (by decide) (by decide) (by decide)]
  have o0 : (ρ 6 7).toInt = 0 := by rw [r7]; rfl
  have wk0 : WKs ρ ρ := ⟨ko_rf, ⟨by unfold PLA; rw [e15]; exact pl, by rw [o0]; exact ⟨Int.le_refl _, by decide⟩, by rw [o0, dρ]; exact ⟨hd.1, by omega⟩, by rw [r15]; exact ⟨by decide, by decide⟩, fun j q => by rw [row 27 (by decide) (by decide) (by decide) (by decide)]; rw [row 25 (by decide) (by decide) (by decide) (by decide)] at q; exact fx j q⟩, ⟨by rw [o0]; omega, fun d _ => ⟨rfl, rfl, rfl, rfl, rfl, rfl, rfl, id⟩, fun _ _ => rfl, Nat.le_refl _⟩, by rw [rl]; exact l0, nme_k (by rw [row 5 (by decide) (by decide) (by decide) (by decide)]) (by rw [row 5 (by decide) (by decide) (by decide) (by decide)]) (fun d => by rw [row 29 (by decide) (by decide) (by decide) (by decide)]) ⟨hn.1, hnm⟩⟩
  obtain ⟨gg, sb0⟩ := sb_fresh (s := ρ) (K := []) (by rw [r77]; rfl) (by rw [rl]; exact l0) (by rw [r95]; rfl) (Or.inl rfl)
  have wl0 : WLx ρ ρ ((σ 4 1).toInt + 4 * (σ 2 1).toInt) ((σ 5 7).toInt + (σ 2 1).toInt) 0 z0 := fun _ => by
    refine ⟨clen ρ, clen ρ, clen ρ, 0, gg, _, ⟨⟨Nat.le_refl _, Nat.le_refl _, Nat.le_refl _⟩, se_nil sb0, fun d h1 h2 => ?_, by decide, trivial, fun _ => ⟨by rw [r6]; rfl, Or.inl rfl⟩, fun z => absurd z (by decide), fun z => absurd z (by rintro ⟨c1, K1, q, -⟩; cases q)⟩, ?_, ?_, Nat.le_refl _, by decide⟩
    · rw [o0] at h1
      omega
    · show (clen ρ : Int) + 2 * (0 : Nat) + _ ≤ _
      rw [ecs, ecl]
      omega
    · rw [ens, nρ]
      omega
  rw [show (upC (upC (upC (upC (upC (upC (upC (upC (upC (upC (upC σ 6 2 x) 6 3 (0 : Int32)) 6 4 ((-1) : Int32)) 6 5 (0 : Int32)) 6 7 (0 : Int32)) 6 6 ((-1) : Int32)) 6 10 (0 : Int32)) 6 15 (0 : Int32)) 6 17 (0 : Int32)) 8 6 ((-1) : Int32)) 8 8 (0 : Int32)) 3 4 = σ 3 4 from rfl]
  refine ⟨fun n x2 x3 s => ∃ (i m : Nat) (z : Zs), x2.toInt = i ∧ i ≤ cn ρ ∧ n = x3.toInt.toNat ∧ (cn ρ : Int) - i ≤ x3.toInt ∧ RZ ρ m i (cn ρ) z z0 ∧ WKs ρ s ∧ WLx ρ s ((σ 4 1).toInt + 4 * (σ 2 1).toInt) ((σ 5 7).toInt + (σ 2 1).toInt) i z, ⟨_, 0, m0, z0, rfl, Nat.zero_le _, rfl, by rw [ecn]; omega, by rw [ecn]; exact rz_same e13 _ _ _ _ _ (fun q _ _ => smz q) rz, wk0, wl0⟩, ?_⟩
  rintro n x2 x3 s ⟨i, m, z, hx, hi, hn', h3, rz2, wk, wl⟩
  have s34 : s 3 4 = ρ 3 4 := wk.1 3 4 (op_lt (by decide)) rfl rfl
  have stop : ((s 6 3).toInt = 0 → i = cn ρ) → wk_X11_finish s (fun s180 => Q s180) := fun hend => by
    refine sp_ufinish wk.2.1 (fun s' fs hv => ?_)
    have ql := fa_l fs
    have e4 : s' 4 1 = s 4 1 := fs.1 4 1 rfl rfl
    have ecs' : clen s' = clen s := by unfold clen; rw [e4]
    have wk' : WKs ρ s' := kl_wk wk ql (by rw [show s' 6 15 = s 6 15 from fs.1 6 15 rfl rfl]; exact wk.2.1.2.2.2.1) (fun j _ => fs.1 24 j rfl rfl) (by rw [ecs']; exact wk.2.2.1.2.2.2) (by rw [e4]; exact wk.2.2.2.1)
    have all : (s' 6 3).toInt = 0 → ∃ Nb b e0 H0 g X, WSx ρ s 0 [] [] Nb b e0 H0 g X ∧ (clen s : Int) ≤ (σ 4 1).toInt + 4 * (σ 2 1).toInt ∧ (s 5 7).toInt ≤ (σ 5 7).toInt + (σ 2 1).toInt := fun f => by
      have f0 := fs.2 f
      have ie := hend f0
      subst ie
      have ez := rz_end _ _ _ _ rz2
      subst ez
      obtain ⟨Nb, b, e0, H0, g, X, q1, q2, q3, -⟩ := wl f0
      rw [Nat.sub_self] at q2 q3
      have q2' : (clen s : Int) + 2 * (0 : Nat) + (0 : Nat) ≤ (σ 4 1).toInt + 4 * (σ 2 1).toInt := q2
      have q3' : (s 5 7).toInt + (0 : Nat) ≤ (σ 5 7).toInt + (σ 2 1).toInt := q3
      exact ⟨Nb, b, e0, H0, g, X, q1, by omega, by omega⟩
    refine k ρ s' kρ o0 ⟨wk', fun f => ?_⟩ (fun f => ?_)
    · obtain ⟨Nb, b, e0, H0, g, X, q1, q2, q3⟩ := all f
      obtain ⟨es, hv2⟩ := hv f
      clear all hv
      subst es
      have e0c := se_e0 q1.2.1
      exact ⟨Nb, q1.2.2.1, by have := q1.1; omega, (q1.2.2.2.2.2.1 rfl).1, q1.1.1, hv2⟩
    · obtain ⟨Nb, b, e0, H0, g, X, q1, q2, q3⟩ := all f
      obtain ⟨es, -⟩ := hv f
      clear all hv
      subst es
      exact ⟨q2, q3⟩
  refine ⟨(s 6 3).toInt = 0 → i = cn ρ, stop, fun c _ => by omega, fun c => ⟨fun c2 _ => ?_, fun c2 => ⟨fun c3 z' => absurd z' c3, fun hf => ?_⟩⟩⟩
  · rw [s34, e34] at c2
    omega
  · rw [s34, e34] at c2
    cases m with
    | zero =>
      exfalso
      have := rz2.1
      omega
    | succ m =>
      obtain ⟨i2, z2, w1, w2, w3⟩ := rz2
      have lt := ws_lt w1
      have goal : ∀ s', WKs ρ s' → WLx ρ s' ((σ 4 1).toInt + 4 * (σ 2 1).toInt) ((σ 5 7).toInt + (σ 2 1).toInt) i2 z2 → ∀ x2' : Int32, x2'.toInt + 1 = i2 → ∃ mm, mm < n ∧ ∃ (i m : Nat) (z : Zs), (x2' + 1).toInt = i ∧ i ≤ cn ρ ∧ mm = (x3 + (-1)).toInt.toNat ∧ (cn ρ : Int) - i ≤ (x3 + (-1)).toInt ∧ RZ ρ m i (cn ρ) z z0 ∧ WKs ρ s' ∧ WLx ρ s' ((σ 4 1).toInt + 4 * (σ 2 1).toInt) ((σ 5 7).toInt + (σ 2 1).toInt) i z := fun s' k1 k2 x2' hx2 => by
        have hx3 : (x2' + 1).toInt = i2 := by rw [ad1 (by omega)]; omega
        exact ⟨_, dn_lt hn' c, i2, m, z2, hx3, w2, rfl, wd_ge h3 (by omega) c, w3, k1, k2⟩
      exact ⟨fun x2' s' => x2'.toInt + 1 = i2 ∧ WKs ρ s' ∧ WLx ρ s' ((σ 4 1).toInt + 4 * (σ 2 1).toInt) ((σ 5 7).toInt + (σ 2 1).toInt) i2 z2, fun x2' s' q => goal s' q.2.1 q.2.2 x2' q.1, ws_turn (Q := fun x2' s' => x2'.toInt + 1 = i2 ∧ WKs ρ s' ∧ WLx ρ s' ((σ 4 1).toInt + 4 * (σ 2 1).toInt) ((σ 5 7).toInt + (σ 2 1).toInt) i2 z2) (by unfold NMr; rw [e13, e14, e15]; exact nm) (by rw [row 1 (by decide) (by decide) (by decide) (by decide)]; exact by') (by rw [dρ]; exact hd.2) (by omega) (by omega) wk wl hf hx (by rw [ecn]; omega) (by omega) w1 w2 (fun x' s' q0 q1 q2 => ⟨q0, q1, q2⟩)⟩
end WK2
end

