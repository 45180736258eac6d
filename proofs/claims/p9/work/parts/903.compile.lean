/-! compile() -/
section CMP
variable {σ s z t ρ : St} {n m i j k o d : Nat} {x y v a a1 a2 a3 : Int32}
/-- a few cells apart from what is kept between calls -/
theorem iv_kp (h : IVx σ o) (K : ∀ c j, (c = 1 ∨ c = 4 ∨ c = 5 ∨ c = 10 ∨ (24 ≤ c ∧ c ≤ 29) ∨ c = 34 ∨ c = 36 ∨ c = 56 ∨ c = 59 ∨ (c = 12 ∧ j = 18) ∨ c = 11) → s c j = σ c j) (fd : FDx s) (pl : PLA s) (nm : NMr s) : IVx s o := by
  have R : ∀ c, (c = 1 ∨ c = 4 ∨ c = 5 ∨ c = 10 ∨ (24 ≤ c ∧ c ≤ 29) ∨ c = 34 ∨ c = 36 ∨ c = 56 ∨ c = 59) → s c = σ c := fun c hc => funext (fun j => K c j (by omega))
  obtain ⟨h1, h2, h3, h4, h5, h6, ⟨g1, g2, g3, g4⟩, h8, h9, ha, hb, hc, hi⟩ := h
  have r4 := R 4 (by decide)
  have r5 := R 5 (by decide)
  have r34 := R 34 (by decide)
  have r36 := R 36 (by decide)
  have ecl : clen s = clen σ := by unfold clen; rw [r4]
  have bl : BLx σ s o := ⟨fun d _ => by rw [R 25 (by decide), R 27 (by decide), R 28 (by decide), R 29 (by decide)]; exact ⟨rfl, rfl, rfl, rfl, rfl, rfl, id⟩, fun j _ => by rw [R 24 (by decide)], by rw [ecl]; exact Nat.le_refl _, fun k _ => by rw [r34], R 59 (by decide), R 10 (by decide), R 56 (by decide)⟩
  have d0 := de_le h2
  refine ⟨by rw [r5]; exact h1, by unfold DEx; rw [r34]; exact h2, by rw [r5, r34]; exact h3, by rw [r4, r36]; exact h4, fd, by unfold NME; rw [r5, R 29 (by decide)]; exact h6, ⟨pl, nm, by rw [R 1 (by decide)]; exact g3, by rw [R 25 (by decide), R 27 (by decide)]; exact g4⟩, bl_lb bl (by have := d0 o (Nat.le_refl _); omega) h8, fun k k1 k2 => bl_fn bl k2 (by have := de_mono h2 (Nat.le_refl _) k k2; omega) (h9 k k1 k2), bl_rd bl ha, bl_pk bl (Nat.le_refl _) hb, by rw [K 12 18 (by decide)]; exact hc, by rw [K 11 0 (by decide)]; exact hi⟩
theorem bl_wk (e : ∀ c j, (c = 1 ∨ c = 4 ∨ c = 5 ∨ c = 10 ∨ (24 ≤ c ∧ c ≤ 29) ∨ c = 34 ∨ c = 36 ∨ c = 56 ∨ c = 59 ∨ (c = 12 ∧ j = 18) ∨ c = 11) → ρ c j = σ c j) (wk : WKs ρ s) : BLx σ s o := by
  obtain ⟨kw, ux, ⟨o1, o2, o3, o4⟩, l0, nm⟩ := wk
  have r4 : ρ 4 1 = σ 4 1 := e 4 1 (by decide)
  have r5 : ρ 5 1 = σ 5 1 := e 5 1 (by decide)
  have ecl : clen ρ = clen σ := by unfold clen; rw [r4]
  rw [r5] at o2
  rw [ecl] at o3 o4
  refine ⟨fun d hd => ?_, fun j hj => (o3 j hj).trans (e 24 j (by simp)), o4, fun k _ => ?_, funext (fun j => ?_), funext (fun j => ?_), funext (fun j => ?_)⟩
  · obtain ⟨q1, q2, q3, q4, q5, q6, q7, q8⟩ := o2 d hd
    rw [e 25 d (by simp)] at q5 q6 q7 q8
    exact ⟨q2.trans (e 27 d (by simp)), q3.trans (e 28 d (by simp)), q4.trans (e 29 d (by simp)), q5, q6, q7, q8⟩
  · exact (kw 34 k (op_lt (by decide)) rfl rfl).trans (e 34 k (by simp))
  · exact (kw 59 j (op_mid (by decide) (by decide)) rfl rfl).trans (e 59 j (by simp))
  · exact (kw 10 j (op_lt (by decide)) rfl rfl).trans (e 10 j (by simp))
  · exact (kw 56 j (op_mid (by decide) (by decide)) rfl rfl).trans (e 56 j (by simp))
theorem sp_forget {Q : St → Prop} (h : IVx σ o) (e : ∀ c j, (c = 1 ∨ c = 4 ∨ c = 5 ∨ c = 10 ∨ (24 ≤ c ∧ c ≤ 29) ∨ c = 34 ∨ c = 36 ∨ c = 56 ∨ c = 59 ∨ (c = 12 ∧ j = 18) ∨ c = 11) → ρ c j = σ c j) (wk : WKs ρ s) (nm : NMr s) (fd : FDx σ) (e01 : s 0 1 = σ 0 1) (e02 : s 0 2 = σ 0 2) (k : ∀ t, IVx t o → Q t) : wk_X8_forget s Q := by
  have bl := bl_wk (o := o) e wk
  obtain ⟨⟨h1, h1'⟩, h2, h3, h4, h5, h6, ⟨g1, g2, g3, g4⟩, h8, h9, ha, hb, hc, hi⟩ := h
  obtain ⟨kw, ux, ol, l0, nmd⟩ := wk
  have d0 := (de_le h2) o (Nat.le_refl _)
  have e513 : (s 5 13).toInt = o := by rw [(kw 5 13 (op_lt (by decide)) rfl rfl).trans (e 5 13 (by simp))]; exact h1
  have e34 : s 34 o = σ 34 o := bl.2.2.2.1 o (Nat.le_refl _)
  have e36 : s 36 o = σ 36 o := (kw 36 o (op_lt (by decide)) rfl rfl).trans (e 36 o (by simp))
  have cs := clen_eq l0
  have cσ := clen_eq fd.2.1.1
  have b3 := bl.2.2.1
  obtain ⟨D, hD⟩ : ∃ D : Nat, (σ 34 o).toInt = (D : Int) + 1 := ⟨((σ 34 o).toInt - 1).toNat, by omega⟩
  have eD : ((σ 34 o) - (1 : Int32)).toInt = D := by rw [sb (by rw [i1]; omega) (by rw [i1]; omega), i1]; omega
  unfold wk_X8_forget wk_X8_nameStart wk_X0_cut
  rw [atv_at e513 (by omega), atv_at e513 (by omega), atv_at e513 (by omega), e34, e36, rdC_ne (show (29 : Nat) ≠ 5 by decide), atv_at eD (by omega)]
  dsimp only
  generalize hv : (if (upC (upC (upC s 5 1 (σ 34 o)) 5 7 (s 29 D)) 5 9 (s 35 o)) 4 1 < σ 36 o then (upC (upC (upC s 5 1 (σ 34 o)) 5 7 (s 29 D)) 5 9 (s 35 o)) 4 1 else σ 36 o) = v
  have ev : v.toInt = (σ 4 1).toInt := by
    rw [← hv, rdC_ne (by decide), rdC_ne (by decide), rdC_ne (by decide)]
    by_cases c : s 4 1 < σ 36 o
    · have c' := Int32.lt_iff_toInt_lt.mp c
      rw [← h4] at c'
      omega
    · rw [if_neg c, ← h4]
  generalize ht : upC (upC (upC (upC s 5 1 (σ 34 o)) 5 7 (s 29 D)) 5 9 (s 35 o)) 4 1 v = t
  have kt : Kp [(5, 1), (5, 7), (5, 9), (4, 1)] [] s t := by rw [← ht]; exact kp_f (kp_f (kp_f (kp_f kp_rf rfl) rfl) rfl) rfl
  have t41 : (t 4 1).toInt = (σ 4 1).toInt := by rw [← ht, rdA_eq rfl]; exact ev
  have t51 : t 5 1 = σ 34 o := by rw [← ht]; rfl
  have t57 : t 5 7 = s 29 D := by rw [← ht]; rfl
  have n57 : (t 5 7).toInt = (σ 5 7).toInt := by rw [t57, (bl.1 D (by omega)).2.2.1]; exact h6.1 D (by omega)
  have ecl : clen t = clen σ := by
    have := clen_eq (σ := t) (by rw [t41]; exact fd.2.1.1)
    omega
  have row : ∀ c j, c ≠ 4 → c ≠ 5 → t c j = s c j := fun c j c4 c5 => by rw [← ht, rdC_ne c4, rdC_ne c5, rdC_ne c5, rdC_ne c5]
  have blt : BLx σ t o := by
    obtain ⟨b1, b2, b3, b4, b5, b6, b7⟩ := bl
    refine ⟨fun d hd => by rw [row 25 d (by decide) (by decide), row 27 d (by decide) (by decide), row 28 d (by decide) (by decide), row 29 d (by decide) (by decide)]; exact b1 d hd, fun j hj => by rw [row 24 j (by decide) (by decide)]; exact b2 j hj, by rw [ecl]; exact Nat.le_refl _, fun k hk => by rw [row 34 k (by decide) (by decide)]; exact b4 k hk, ?_, ?_, ?_⟩
    · rw [← b5]; exact funext (fun j => row 59 j (by decide) (by decide))
    · rw [← b6]; exact funext (fun j => row 10 j (by decide) (by decide))
    · rw [← b7]; exact funext (fun j => row 56 j (by decide) (by decide))
  have m513 : t 5 13 = s 5 13 := kt 5 13 rfl rfl
  obtain ⟨f1, f2, f3⟩ := fd
  refine k t ⟨⟨by rw [m513]; exact e513, h1'⟩, ⟨by rw [blt.2.2.2.1 0 (by omega)]; exact h2.1, fun q hq => by rw [blt.2.2.2.1 q (by omega), blt.2.2.2.1 (q + 1) (by omega)]; exact h2.2 q hq⟩, by rw [t51, blt.2.2.2.1 o (Nat.le_refl _)], by rw [t41, row 36 o (by decide) (by decide), e36]; exact h4, ⟨by rw [row 0 1 (by decide) (by decide), row 0 2 (by decide) (by decide), e01, e02]; exact f1, by rw [t41, row 0 1 (by decide) (by decide), row 0 2 (by decide) (by decide), e01, e02]; exact f2, by rw [n57, row 0 1 (by decide) (by decide), row 0 2 (by decide) (by decide), e01, e02]; exact f3⟩, nme_cut h6 (fun d hd => (blt.1 d hd).2.2.1) (fun d => by rw [row 29 d (by decide) (by decide)]; exact nmd.2.2 d) (by rw [t51, h3]) n57, ⟨?_, ?_, ?_, fun j q => ?_⟩, bl_lb blt (by omega) h8, fun q k1 k2 => bl_fn blt k2 (by have := de_mono h2 (Nat.le_refl _) q k2; omega) (h9 q k1 k2), bl_rd blt ha, bl_pk blt (Nat.le_refl _) hb, ?_, by rw [row 11 0 (by decide) (by decide), kw 11 0 (op_lt (by decide)) rfl rfl, e 11 0 (by decide)]; exact hi⟩
  · intro j
    rw [row 15 j (by decide) (by decide)]
    exact ux.1 j
  · intro j hj
    rw [row 13 j (by decide) (by decide)] at hj
    rw [row 14 j (by decide) (by decide), row 15 j (by decide) (by decide)]
    exact nm j hj
  · have e1 : t 1 = σ 1 := funext (fun j => by rw [row 1 j (by decide) (by decide), kw 1 j (op_lt (by decide)) rfl rfl, e 1 j (by simp)])
    rw [e1]
    exact g3
  · rw [row 25 j (by decide) (by decide)] at q
    rw [row 27 j (by decide) (by decide)]
    exact ux.2.2.2.2 j q
  · rw [row 12 18 (by decide) (by decide), kw 12 18 (op_lt (by decide)) rfl rfl, e 12 18 (by decide)]
    exact hc
theorem sk_keep {Q : Int32 → St → Prop} (h : IVx σ o) (ho : o < 100) (e : ∀ c j, (c = 1 ∨ c = 4 ∨ c = 5 ∨ c = 10 ∨ (24 ≤ c ∧ c ≤ 29) ∨ c = 34 ∨ c = 36 ∨ c = 56 ∨ c = 59 ∨ (c = 12 ∧ j = 18) ∨ c = 11) → ρ c j = σ c j) (wk : WKs ρ s) (nm : NMr s) (fd : FDx s) (hN : ∃ N, UFx s N ∧ N ≤ clen s ∧ (s 6 6).toInt = -1 ∧ clen ρ ≤ N ∧ ∀ i : Nat, (i : Int) < (s 6 7).toInt → ∀ d : Nat, (d : Int) = (s 5 1).toInt - (s 6 7).toInt + i → FLb ((s 25) d) 2 → 0 ≤ ((s 39) i).toInt → FLb ((s 25) d) 4) (k : ∀ v t, IVx t (o + 1) → Q v t) : wk_X8_keep a1 s Q := by
  have bl := bl_wk (o := o) e wk
  obtain ⟨⟨h1, h1'⟩, h2, h3, h4, h5, h6, ⟨g1, g2, g3, g4⟩, h8, h9, ha, hb, hc, hi⟩ := h
  obtain ⟨kw, ux, ol, l0, nmd⟩ := wk
  have d0 := (de_le h2) o (Nat.le_refl _)
  have e513 : (s 5 13).toInt = o := by rw [(kw 5 13 (op_lt (by decide)) rfl rfl).trans (e 5 13 (by decide))]; exact h1
  have e514 : ((s 5 13) + (1 : Int32)).toInt = (o + 1 : Nat) := by rw [ad0 i1 (by omega) (by omega), e513]; omega
  have eo := ol.1
  rw [e 5 1 (by decide), h3] at eo
  obtain ⟨u1, u2, u3, u4, u5⟩ := ux
  unfold wk_X8_keep
  generalize ht : upF _ 37 _ = t
  have row : ∀ c, c ≠ 5 → c ≠ 34 → c ≠ 35 → c ≠ 36 → c ≠ 37 → t c = s c := fun c c5 c34 c35 c36 c37 => by rw [← ht, rdF_ne c37, rdF_ne c36, rdF_ne c35, rdF_ne c34, rdC_ne c5]
  have t5 : ∀ q, q ≠ 13 → t 5 q = s 5 q := fun q hq => by rw [← ht, rdF_ne (by decide), rdF_ne (by decide), rdF_ne (by decide), rdF_ne (by decide), rdA_ne hq]
  have t513 : t 5 13 = (s 5 13) + (1 : Int32) := by rw [← ht, rdF_ne (by decide), rdF_ne (by decide), rdF_ne (by decide), rdF_ne (by decide), rdA_eq rfl]
  have t34 : t 34 = fun q => if q = o + 1 then s 5 1 else s 34 q := by rw [← ht, rdF_ne (by decide), rdF_ne (by decide), rdF_ne (by decide), rdF_eq, setv_at e514 (by omega), rdC_ne (by decide)]
  have t36 : t 36 = fun q => if q = o + 1 then s 4 1 else s 36 q := by rw [← ht, rdF_ne (by decide), rdF_eq, setv_at e514 (by omega), rdF_ne (by decide), rdF_ne (by decide), rdC_ne (by decide)]
  clear ht
  have e36 : ∀ q, q ≠ o + 1 → t 34 q = s 34 q := fun q hq => by rw [t34]; exact if_neg hq
  have e34 : t 34 (o + 1) = s 5 1 := by rw [t34]; exact if_pos rfl
  have blt : BLx σ t o := by
    obtain ⟨b1, b2, b3, b4, b5, b6, b7⟩ := bl
    have ecl : clen t = clen s := by unfold clen; rw [row 4 (by decide) (by decide) (by decide) (by decide) (by decide)]
    refine ⟨fun d hd => by rw [row 25 (by decide) (by decide) (by decide) (by decide) (by decide), row 27 (by decide) (by decide) (by decide) (by decide) (by decide), row 28 (by decide) (by decide) (by decide) (by decide) (by decide), row 29 (by decide) (by decide) (by decide) (by decide) (by decide)]; exact b1 d hd, fun j hj => by rw [row 24 (by decide) (by decide) (by decide) (by decide) (by decide)]; exact b2 j hj, by rw [ecl]; exact b3, fun k hk => by rw [e36 k (by omega)]; exact b4 k hk, ?_, ?_, ?_⟩
    · rw [← b5]; exact row 59 (by decide) (by decide) (by decide) (by decide) (by decide)
    · rw [← b6]; exact row 10 (by decide) (by decide) (by decide) (by decide) (by decide)
    · rw [← b7]; exact row 56 (by decide) (by decide) (by decide) (by decide) (by decide)
  have de : DEx t (o + 1) := by
    refine ⟨by rw [e36 0 (by omega), bl.2.2.2.1 0 (by omega)]; exact h2.1, fun q hq => ?_⟩
    by_cases c : q = o
    · rw [c, e34, e36 o (by omega), bl.2.2.2.1 o (Nat.le_refl _)]
      omega
    · rw [e36 q (by omega), e36 (q + 1) (by omega), bl.2.2.2.1 q (by omega), bl.2.2.2.1 (q + 1) (by omega)]
      exact h2.2 q (by omega)
  have r4 := row 4 (by decide) (by decide) (by decide) (by decide) (by decide)
  have r0 := row 0 (by decide) (by decide) (by decide) (by decide) (by decide)
  have r25 := row 25 (by decide) (by decide) (by decide) (by decide) (by decide)
  have r27 := row 27 (by decide) (by decide) (by decide) (by decide) (by decide)
  have r28 := row 28 (by decide) (by decide) (by decide) (by decide) (by decide)
  have r24 := row 24 (by decide) (by decide) (by decide) (by decide) (by decide)
  have r29 := row 29 (by decide) (by decide) (by decide) (by decide) (by decide)
  refine k _ t ⟨⟨by rw [t513]; exact e514, by omega⟩, de, by rw [t5 1 (by decide), e34], by rw [r4, t36]; show _ = (if o + 1 = o + 1 then s 4 1 else s 36 (o + 1)).toInt; rw [if_pos rfl], by unfold FDx; rw [r0, r4, t5 7 (by decide)]; exact fd, nme_k (t5 1 (by decide)) (t5 7 (by decide)) (fun d => by rw [r29]) nmd |>.2, ⟨?_, ?_, ?_, fun j q => ?_⟩, bl_lb blt (by omega) h8, fun q k1 k2 => ?_, bl_rd blt ha, bl_pk blt (by omega) hb, ?_, by rw [row 11 (by decide) (by decide) (by decide) (by decide) (by decide), kw 11 0 (op_lt (by decide)) rfl rfl, e 11 0 (by decide)]; exact hi⟩
  · unfold PLA
    rw [row 15 (by decide) (by decide) (by decide) (by decide) (by decide)]
    exact u1
  · unfold NMr
    rw [row 13 (by decide) (by decide) (by decide) (by decide) (by decide), row 14 (by decide) (by decide) (by decide) (by decide) (by decide), row 15 (by decide) (by decide) (by decide) (by decide) (by decide)]
    exact nm
  · have e1 : t 1 = σ 1 := funext (fun j => by rw [row 1 (by decide) (by decide) (by decide) (by decide) (by decide), kw 1 j (op_lt (by decide)) rfl rfl, e 1 j (by simp)])
    rw [e1]
    exact g3
  · rw [r25] at q
    rw [r27]
    exact u5 j q
  · by_cases c : q = o + 1
    · subst c
      obtain ⟨N, n1, n2, n3, n4, n5⟩ := hN
      intro d d1 d2 f1 f4
      rw [show o + 1 - 1 = o from rfl, e36 o (by omega), bl.2.2.2.1 o (Nat.le_refl _)] at d1
      rw [e34] at d2
      rw [r25] at f1 f4
      obtain ⟨hd, L, g, q1, q2⟩ := n1 d (by omega) d2 f1 f4 (by omega)
      refine ⟨hd, L, g, by rw [r28]; exact q1, ?_⟩
      rw [r24, r27]
      refine fune_mono (fun _ _ => rfl) (fun a m ⟨⟨c1, c2, c3, c4⟩, p1, p2, p3, p4⟩ => ?_) (by unfold clen; rw [r4]; exact n2) q2
      refine ⟨by rw [show o + 1 - 1 = o from rfl, e36 o (by omega), bl.2.2.2.1 o (Nat.le_refl _), e34]; omega, by rw [r25]; exact p1, by rw [r25]; exact p2, by rw [r27]; exact p4, fun f2 => ?_⟩
      rw [r25] at f2 ⊢
      exact n5 (a - ((s 5 1).toInt - (s 6 7).toInt)).toNat (by omega) a.toNat (by omega) f2 p3
    · exact bl_fn blt (by omega) (by have := de_mono h2 (Nat.le_refl _) q (by omega); omega) (h9 q k1 (by omega))
  · rw [row 12 (by decide) (by decide) (by decide) (by decide) (by decide), kw 12 18 (op_lt (by decide)) rfl rfl, e 12 18 (by decide)]
    exact hc
end CMP
