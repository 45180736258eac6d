/-! the walk: a function's step -/
section FU3
variable {σ s z t ρ : St} {g g' g1 : Gh} {X X0 Y : Nat → Prop} {b e e0 e' h h' H H0 H' L L' m n N N' Nb c d p tt j i F F' k B : Nat} {K K2 M E G D : List Nat} {A : List It} {x y v a op a1 a2 a3 : Int32}
theorem dca_pf (hv : DVx σ s d) (h6 : (d : Int) < (σ 5 1).toInt → FLb ((σ 25) d) 1 ∧ (σ 27) d = a2 ∧ (s 27) d = a2 ∧ ((s 25) d &&& 4 = (σ 25) d &&& 4) ∧ (FLb ((σ 25) d) 8 → FLb ((s 25) d) 8) ∧ (s 28) d = (σ 28) d ∧ FLb ((s 25) d) 1) : DCa σ s d := fun c => by
  obtain ⟨q1, q2, q3, q4, q5, q6, q7⟩ := h6 c
  exact Or.inr ⟨by rw [q3, q2], q7, q5⟩
theorem tr_wk (w : WKs ρ s) (k : Kp [(4, 1), (6, 6), (6, 10), (6, 15), (6, 17)] [45] s t) (hs : (t 6 15).toInt ≤ 1000 ∧ -1000 ≤ (t 6 15).toInt) (hl : clen ρ ≤ clen t) (h0 : 0 ≤ (t 4 1).toInt) : WKs ρ t := by
  obtain ⟨h1, ⟨u1, u2, u3, u4, u5⟩, ⟨o1, o2, o3, o4⟩, h4, h5⟩ := w
  have e1 : (t 5 1) = (s 5 1) := k 5 1 rfl rfl
  have e2 : (t 6 7) = (s 6 7) := k 6 7 rfl rfl
  have e5 : (t 15) = (s 15) := funext (fun j => k 15 j rfl rfl)
  refine ⟨ko_tr h1 (ko_sub (ko_kp k) (by decide) (by decide)), ⟨by unfold PLA; rw [e5]; exact u1, by rw [e2]; exact u2, by rw [e1, e2]; exact u3, hs, fun j q => ?_⟩, ⟨by rw [e1, e2]; exact o1, fun j hj => ?_, fun j hj => (k 24 j rfl rfl).trans (o3 j hj), hl⟩, h0, nme_k e1 (k 5 7 rfl rfl) (fun d => k 29 d rfl rfl) h5⟩
  · rw [show t 27 j = s 27 j from k 27 j rfl rfl]
    rw [show t 25 j = s 25 j from k 25 j rfl rfl] at q
    exact u5 j q
  · rw [show t 25 j = s 25 j from k 25 j rfl rfl, show t 26 j = s 26 j from k 26 j rfl rfl, show t 27 j = s 27 j from k 27 j rfl rfl, show t 28 j = s 28 j from k 28 j rfl rfl, show t 29 j = s 29 j from k 29 j rfl rfl]
    exact o2 j hj
theorem cp_tr (k : Kp [(4, 1), (6, 6), (6, 10), (6, 15), (6, 17)] [45] s t) : ∀ a m, CPu s a m → CPu t a m := fun a m hq => by
  unfold CPu at hq ⊢
  rw [show t 5 1 = s 5 1 from k 5 1 rfl rfl, show t 6 7 = s 6 7 from k 6 7 rfl rfl, show t 25 = s 25 from funext (fun j => k 25 j rfl rfl), show t 39 = s 39 from funext (fun j => k 39 j rfl rfl), show t 27 = s 27 from funext (fun j => k 27 j rfl rfl)]
  exact hq
theorem ws_func {Q : St → Prop} (wk : WKs ρ σ) (h : WSx ρ σ 0 [] [] Nb b e0 H0 g X) (nm : NMr σ) (by' : ByteOK (σ 1)) (tk : tkx σ a1 = 2) (hd : (σ 5 1).toInt - (σ 6 7).toInt ≤ 10000) (hn : (σ 5 7).toInt + (vlx σ a1).toNat ≤ 65600) (sp : spar a2 ≤ 8) (cap : (σ 4 1).toInt ≤ 262150) (hM : (b4 a3 ∧ m = 1 + spar a2) ∨ (¬ b4 a3 ∧ m = 0)) (k : ∀ s, KWk σ s → WKs ρ s → (s 5 7).toInt ≤ (σ 5 7).toInt + (vlx σ a1).toNat → ((s 6 3).toInt = 0 → ∃ Nb' b' e1 g' X', WSx ρ s m [] [] Nb' b' e1 0 g' X' ∧ clen s ≤ clen σ + 4) → Q s) : wk_X1_function a1 a2 a3 σ Q := by
  obtain ⟨⟨n1, n2, n3⟩, h2, h3, h4, h5, h6, h7, h8⟩ := h
  obtain ⟨f0, -⟩ := h6 rfl
  have sb := sb_nil h2
  have c00 := sb.2.2.1
  have l00 := sb.2.2.2.1
  have o00 : (σ 9 5).toInt = 0 := sb.2.2.2.2.1
  have cσ := clen_eq l00
  have bb := sb.1.1
  refine sp_func wk nm by' tk hd hn (fun s fs ff => ?_) (fun nb s y hp => ?_) (fun nb s y hp hnd => ?_)
  · have q := fs.1
    have ql := fa_l fs
    have e4 : (s 4 1) = (σ 4 1) := q 4 1 rfl rfl
    have ecl : clen s = clen σ := by unfold clen; rw [e4]
    exact k s (kl_wk0 ql) (kl_wk wk ql (by rw [show s 6 15 = σ 6 15 from q 6 15 rfl rfl]; exact wk.2.1.2.2.2.1) (fun j _ => q 24 j rfl rfl) (by rw [ecl]; exact wk.2.2.1.2.2.2) (by rw [e4]; exact l00)) (by rw [show s 5 7 = σ 5 7 from q 5 7 rfl rfl]; omega) (fun z => absurd z ff)
  · have hm : m = 0 := by
      rcases hM with q | q
      · exact absurd q.1 nb
      · exact q.2
    subst hm
    obtain ⟨d, d1, d2, dv, d4, d5, d6, d7, d8⟩ := hp
    obtain ⟨r1, r2, r3, r4, r5, r6, r7⟩ := ku_rows dv.1
    have dca := dca_pf dv d6
    have ecl : clen s = clen σ := by unfold clen; rw [r2]
    have wks : WKs ρ s := wk_dv wk dv r7 (fun _ => by rw [d5 (Nat.le_refl _)]; exact sp) (by rw [r6]; exact wk.2.1.2.2.2.1) (fun j _ => by rw [r1]) (by rw [ecl]; exact wk.2.2.1.2.2.2) (by rw [r2]; exact l00)
    obtain ⟨g', sb'⟩ := sb_fresh (s := s) (K := []) (by rw [r3]; exact c00) (by rw [r2]; exact l00) (by rw [r4]; exact o00) (Or.inl rfl)
    refine k s r7 wks d8 (fun _ => ⟨Nb, clen s, clen s, g', _, ⟨⟨n1, by omega, Nat.le_refl _⟩, se_nil sb', uf_dv dv dca f0 (fun j _ => by rw [r1]) (fun q1 q4 q5 => ?_) h3, by decide, trivial, fun _ => ⟨by rw [r5]; exact f0, Or.inl rfl⟩, fun z => absurd z (by decide), fun z => absurd z (by rintro ⟨c1, K1, q, -⟩; cases q)⟩, by omega⟩)
    by_cases lt : (d : Int) < (σ 5 1).toInt
    · obtain ⟨p1, p2, p3, p4, p5, p6, p7⟩ := d6 lt
      have q4' : FLb ((σ 25) d) 4 := by
        unfold FLb at q4 ⊢
        rw [p4] at q4
        exact q4
      obtain ⟨hd', L, g9, a1', a2'⟩ := h3 d dv.2.2.1.1 lt p1 q4' (by rw [f0]; omega)
      exact ⟨hd', L, g9, by rw [p6]; exact a1', by rw [p3, ← p2]; exact fune_mono (fun j _ => by rw [r1]) (cp_dv dv dca) (Nat.le_refl _) a2'⟩
    · exact absurd q4 (d7 (by omega))
  · have hm : m = 1 + spar a2 := by
      rcases hM with q | q
      · exact q.2
      · exact absurd nb q.1
    obtain ⟨d, d1, d2, dv, d4, d5, d6, d7, d8⟩ := hp
    unfold wk_X8_mark
    rw [setv_at d1 d2, atv_at d1 d2]
    have dv1 : DVx σ (upF s 25 (fun k => if k = d then (s 25) d ||| 4 else (s 25) k)) d := dv_row dv (Or.inl rfl) (fun j hj => if_neg hj)
    generalize hs1 : upF s 25 (fun k => if k = d then (s 25) d ||| 4 else (s 25) k) = s1 at dv1 ⊢
    have f1 : ∀ c, c ≠ 25 → s1 c = s c := fun c hc => by rw [← hs1]; exact rdF_ne hc
    have fd : s1 25 d = (s 25) d ||| 4 := by
      rw [← hs1, rdF_eq]
      exact if_pos rfl
    have s4 : s1 4 1 = σ 4 1 := by rw [f1 4 (by decide)]; exact dv.1 4 1 rfl rfl
    have z14 : (4 : Int32) &&& 1 = 0 := by decide
    have z84 : (4 : Int32) &&& 8 = 0 := by decide
    have fl1 : FLb (s1 25 d) 1 := by
      have := d4 (by decide)
      unfold FLb at this ⊢
      rw [fd, and_or, z14, Int32.or_zero]
      exact this
    have fl4 : FLb (s1 25 d) 4 := by
      rw [fd]
      exact flb_set (by decide)
    show wk_X0_header s1 _
    unfold wk_X0_header
    rw [s4]
    refine ⟨fun c => by omega, fun _ => ?_⟩
    show wk_X11_enter y (upF (upC s1 4 1 ((σ 4 1) + (4 : Int32))) 28 (setv 10100 ((upC s1 4 1 ((σ 4 1) + (4 : Int32))) 28) y (σ 4 1))) _
    have e28 : (upC s1 4 1 ((σ 4 1) + (4 : Int32))) 28 = s1 28 := rdC_ne (by decide)
    rw [e28, setv_at d1 d2]
    unfold wk_X11_enter wk_X11_leave wk_X11_open
    dsimp only
    have dv2 : DVx σ (upF s1 28 (fun k => if k = d then (σ 4 1) else s1 28 k)) d := dv_row dv1 (Or.inr (Or.inr (Or.inr rfl))) (fun j hj => if_neg hj)
    generalize hs2 : upF s1 28 (fun k => if k = d then (σ 4 1) else s1 28 k) = s2 at dv2
    have f2 : ∀ c, c ≠ 28 → s2 c = s1 c := fun c hc => by rw [← hs2]; exact rdF_ne hc
    have v2 : s2 28 = fun k => if k = d then (σ 4 1) else s1 28 k := by rw [← hs2]; exact rdF_eq
    generalize hu : upC (upC (upC (upC (upC (upF (upC s1 4 1 ((σ 4 1) + (4 : Int32))) 28 (fun k => if k = d then (σ 4 1) else s1 28 k)) 6 6 ((-1) : Int32)) 6 10 (0 : Int32)) 6 15 (0 : Int32)) 6 17 (0 : Int32)) 6 6 y = u
    have uc : ∀ c, c ≠ 4 → c ≠ 6 → u c = s2 c := fun c c4 c6 => by
      rw [← hu, rdC_ne c6, rdC_ne c6, rdC_ne c6, rdC_ne c6, rdC_ne c6]
      by_cases e : c = 28
      · subst e
        rw [rdF_eq, v2]
      · rw [rdF_ne e, rdC_ne c4, f2 c e]
    have u4 : u 4 1 = (σ 4 1) + (4 : Int32) := by
      rw [← hu, rdC_ne (by decide), rdC_ne (by decide), rdC_ne (by decide), rdC_ne (by decide), rdC_ne (by decide), rdF_ne (by decide), rdA_eq rfl]
    have u4' : ∀ q, q ≠ 1 → u 4 q = s2 4 q := fun q hq => by
      rw [← hu, rdC_ne (by decide), rdC_ne (by decide), rdC_ne (by decide), rdC_ne (by decide), rdC_ne (by decide), rdF_ne (by decide), rdA_ne hq, f2 4 (by decide)]
    have u66 : u 6 6 = y := by rw [← hu, rdA_eq rfl]
    have u610 : u 6 10 = 0 := by rw [← hu, rdA_ne (by decide), rdA_ne (by decide), rdA_ne (by decide), rdA_eq rfl]
    have u615 : u 6 15 = 0 := by rw [← hu, rdA_ne (by decide), rdA_ne (by decide), rdA_eq rfl]
    have u617 : u 6 17 = 0 := by rw [← hu, rdA_ne (by decide), rdA_eq rfl]
    have u6 : ∀ q, q ≠ 6 → q ≠ 10 → q ≠ 15 → q ≠ 17 → u 6 q = s2 6 q := fun q q6 q10 q15 q17 => by
      rw [← hu, rdA_ne q6, rdA_ne q17, rdA_ne q15, rdA_ne q10, rdA_ne q6, rdF_ne (by decide), rdC_ne (by decide), f2 6 (by decide)]
    have ku : Kp [(4, 1), (6, 6), (6, 10), (6, 15), (6, 17)] [45] s2 u := fun c q h1 h2 => by
      by_cases c4 : c = 4
      · subst c4
        by_cases q1 : q = 1
        · subst q1
          cases h1
        · exact u4' q q1
      · by_cases c6 : c = 6
        · subst c6
          by_cases q6 : q = 6
          · subst q6; cases h1
          · by_cases q10 : q = 10
            · subst q10; cases h1
            · by_cases q15 : q = 15
              · subst q15; cases h1
              · by_cases q17 : q = 17
                · subst q17; cases h1
                · exact u6 q q6 q10 q15 q17
        · rw [uc c c4 c6]
    rw [u617, u615]
    generalize ht : upC (upF u 45 (setv 52 (u 45) (0 : Int32) (0 : Int32))) 6 17 ((0 : Int32) + (1 : Int32)) = t
    have kt : Kp [(4, 1), (6, 6), (6, 10), (6, 15), (6, 17)] [45] s2 t := by
      rw [← ht]
      exact kp_f (kp_F ku rfl) rfl
    have t4 : t 4 1 = (σ 4 1) + (4 : Int32) := by rw [← ht, rdC_ne (by decide), rdF_ne (by decide)]; exact u4
    have t4' : (t 4 1).toInt = (σ 4 1).toInt + 4 := by rw [t4]; exact ad0 i4 (by omega) (by omega)
    have ct := clen_eq (σ := t) (by rw [t4']; omega)
    have ect : clen t = clen σ + 4 := by
      rw [t4'] at ct
      omega
    have t66 : t 6 6 = y := by rw [← ht, rdA_ne (by decide), rdF_ne (by decide)]; exact u66
    have t610 : t 6 10 = 0 := by rw [← ht, rdA_ne (by decide), rdF_ne (by decide)]; exact u610
    have t615 : t 6 15 = 0 := by rw [← ht, rdA_ne (by decide), rdF_ne (by decide)]; exact u615
    have t617 : t 6 17 = (0 : Int32) + (1 : Int32) := by rw [← ht, rdA_eq rfl]
    have t45 : t 45 0 = 0 := by
      rw [← ht, rdC_ne (by decide), rdF_eq, setv_at (j := 0) rfl (by decide)]
      exact if_pos rfl
    obtain ⟨r1, r2, r3, r4, r5, r6, r7⟩ := ku_rows dv2.1
    have d5' := d5 (Nat.le_refl _)
    have e27 : s2 27 d = a2 := by rw [f2 27 (by decide), f1 27 (by decide)]; exact d5'
    have dca2 : DCa σ s2 d := fun c => by
      obtain ⟨p1, p2, p3, p4, p5, p6, p7⟩ := d6 c
      refine Or.inr ⟨by rw [e27, p2], by rw [f2 25 (by decide)]; exact fl1, fun z => ?_⟩
      have := p5 z
      unfold FLb at this ⊢
      rw [f2 25 (by decide), fd, and_or, z84, Int32.or_zero]
      exact this
    have ecl2 : clen s2 = clen σ := by unfold clen; rw [r2]
    have wk2 : WKs ρ s2 := wk_dv wk dv2 r7 (fun _ => by rw [e27]; exact sp) (by rw [r6]; exact wk.2.1.2.2.2.1) (fun j _ => by rw [r1]) (by rw [ecl2]; exact wk.2.2.1.2.2.2) (by rw [r2]; exact l00)
    have wkt : WKs ρ t := tr_wk wk2 kt (by rw [t615]; decide) (by omega) (by omega)
    have wt : t 24 = σ 24 := funext (fun j => (kt 24 j rfl rfl).trans (by rw [r1]))
    have dec : t 5 1 = s2 5 1 := kt 5 1 rfl rfl
    have out : t 6 7 = s2 6 7 := kt 6 7 rfl rfl
    have dv2' := dv2
    obtain ⟨k1, ⟨v1, v2', v3, v4⟩, ⟨w1, w2⟩, w3, w4, ⟨w5, w6⟩, w7⟩ := dv2'
    obtain ⟨g', sb'⟩ := sb_fresh (s := t) (K := []) (by rw [show t 7 7 = s2 7 7 from kt 7 7 rfl rfl, r3]; exact c00) (by omega) (by rw [show t 9 5 = s2 9 5 from kt 9 5 rfl rfl, r4]; exact o00) (Or.inl rfl)
    refine k t (ko_tr r7 (ko_sub (ko_kp kt) (by decide) (by decide))) wkt (by rw [show t 5 7 = s2 5 7 from kt 5 7 rfl rfl, f2 5 (by decide), f1 5 (by decide)]; exact d8) (fun _ => ⟨clen σ, clen t, clen t, g', _, ⟨⟨by omega, by omega, Nat.le_refl _⟩, se_nil sb', ?_, by decide, trivial, fun z => by omega, fun _ => ⟨⟨d, ?_, ?_, ?_, ?_, ?_, ?_, ect, ?_, ?_, ?_, ?_, ?_, ?_, fun _ => rfl⟩, fun z => absurd rfl z⟩, fun z => absurd z (by rintro ⟨c1, K1, q, -⟩; cases q)⟩, by omega⟩)
    · intro d' q1 q2 q3 q4 q5
      have ne : d' ≠ d := fun e => q5 (by rw [t66, d1, e])
      rw [dec, out] at q1
      rw [dec] at q2
      obtain ⟨x1, x2, x3, x4, x5⟩ := w3 d' ne
      rw [show t 25 d' = s2 25 d' from kt 25 d' rfl rfl, x1] at q3 q4
      have lt : (d' : Int) < (σ 5 1).toInt := by
        by_cases cc : (d' : Int) < (σ 5 1).toInt
        · exact cc
        · exact absurd (w6 d' (by omega) q2) ne
      obtain ⟨hd', L, g9, y1, y2⟩ := h3 d' (by omega) lt q3 q4 (by rw [f0]; omega)
      refine ⟨hd', L, g9, by rw [show t 28 d' = s2 28 d' from kt 28 d' rfl rfl, x4]; exact y1, ?_⟩
      rw [show t 27 d' = s2 27 d' from kt 27 d' rfl rfl, x3]
      exact fune_mono (fun j _ => by rw [wt]) (fun a m z => cp_tr kt a m (cp_dv dv2 dca2 a m z)) (by omega) y2
    · rw [t66]
      exact d1
    · rw [dec, out]
      omega
    · rw [dec]
      omega
    · rw [show t 25 d = s2 25 d from kt 25 d rfl rfl, f2 25 (by decide)]
      exact fl1
    · rw [show t 25 d = s2 25 d from kt 25 d rfl rfl, f2 25 (by decide)]
      exact fl4
    · rw [show t 28 d = s2 28 d from kt 28 d rfl rfl, v2]
      show (if d = d then (σ 4 1) else s1 28 d).toInt = _
      rw [if_pos rfl]
      omega
    · rw [show t 27 d = s2 27 d from kt 27 d rfl rfl, e27]
      exact sp
    · rw [t610, i0]
      omega
    · rw [t610, t615]
      exact ⟨Int.le_refl _, Int.le_refl _⟩
    · rw [t617]
      rfl
    · intro j j1 j2
      rw [t617] at j2
      have j2' : (j : Int) < 1 := j2
      have : j = 0 := by omega
      rw [this, t45, t610]
      exact ⟨Int.le_refl _, Int.le_refl _⟩
    · intro j hj
      rw [t610, i0] at hj
      omega
end FU3
