section
/-! for -/
def CTt (s0 s1 : St) (x : Int) : Prop := (x < 0 ∧ TE s0 s1 501 0 0) ∨ (∃ sa, x = (wcn sa : Int) + 1 ∧ TE s0 sa 501 0 1 ∧ PU sa s1 [16, -1] ∧ (s0 0 17).toInt ≤ (sa 0 17).toInt)
def okS (s : St) : Prop := (s 0 12).toInt = 0 ∧ (s 0 15).toInt = 0
section FOR
variable {σ s s' τ t t' : St} {vs z z' : List Nat} {g g' : Gh} {X X' : Nat → Prop} {E0 H L : Nat}
theorem ts_for {s0 s1 s2 s3 s4 s5 s6 s7 s8 s8p s9 s10 s11 : St} {tp0 tp3 : Int32} {x : Int} {B : List Nat} (h0 : 0 ≤ (s0 0 17).toInt) (ht0 : tp0.toInt = (s0 0 17).toInt) (ct : CTt s0 s1 x) (w1 : (s0 0 17).toInt ≤ (s1 0 17).toInt) (te12 : TE s1 s2 501 0 0) (r12 : RW s1 s2) (w2 : (s1 0 17).toInt ≤ (s2 0 17).toInt) (p3 : PU s2 s3 [15, -1]) (ht3 : tp3.toInt = (s3 0 17).toInt) (te34 : TE s3 s4 501 0 0) (r34 : RW s3 s4) (w4 : (s3 0 17).toInt ≤ (s4 0 17).toInt) (p5 : PU s4 s5 [15, tp0]) (te56 : TE s5 s6 501 0 0) (r56 : RW s5 s6) (w6 : (s5 0 17).toInt ≤ (s6 0 17).toInt) (e7 : s7 = aimS s6 (wcn s2)) (hl : LT s7 s8 tp3.toInt B) (r78 : RW s7 s8) (w8 : (s7 0 17).toInt ≤ (s8 0 17).toInt) (hb : ∀ b ∈ B, wcn s7 < b ∧ b < wcn s8) (e8 : RSt s8 vs s8p t z) (e8w : (s8p 0 17) = (s8 0 17)) (e8x : ∀ q, (s8p 8) q = (s8 8) q) (p9 : PU s8p s9 [15, tp3]) (e10 : (x < 0 → s10 = s9) ∧ (0 ≤ x → s10 = aimS s9 (x - 1).toNat)) (al : ALx s10 s11 B (s9 0 17)) (okc : okS s9 → okS s1 ∧ okS s2 ∧ okS s4 ∧ okS s6 ∧ okS s8) : TSt s0 s11 0 0 [] [] := by
  intro g X E0 L hT hf hs
  subst e7
  have a0 : ∀ j, s11 0 j = s9 0 j := fun j => by
    rw [al.1 0 j rfl rfl]
    by_cases c : x < 0
    · rw [e10.1 c]
    · rw [e10.2 (by omega)]; rfl
  have ok9 : okS s9 := ⟨by rw [← a0 12]; exact hf, by rw [← a0 15]; exact hs⟩
  obtain ⟨k1, k2, k4, k6, k8⟩ := okc ok9
  have W3 : (s3 0 17).toInt = (s2 0 17).toInt + 2 := p3.2.1
  have W5 : (s5 0 17).toInt = (s4 0 17).toInt + 2 := p5.2.1
  have W7 : ((aimS s6 (wcn s2)) 0 17).toInt = (s6 0 17).toInt := rfl
  have W8 : (s8p 0 17).toInt = (s8 0 17).toInt := by rw [e8w]
  have W9 : (s9 0 17).toInt = (s8p 0 17).toInt + 2 := p9.2.1
  have n0 : (wcn s0 : Int) = (s0 0 17).toInt := nt h0
  have n1 : (wcn s1 : Int) = (s1 0 17).toInt := nt (by omega)
  have n2 : (wcn s2 : Int) = (s2 0 17).toInt := nt (by omega)
  have n3 : (wcn s3 : Int) = (s3 0 17).toInt := nt (by omega)
  have n4 : (wcn s4 : Int) = (s4 0 17).toInt := nt (by omega)
  have n5 : (wcn s5 : Int) = (s5 0 17).toInt := nt (by omega)
  have n6 : (wcn s6 : Int) = (s6 0 17).toInt := nt (by omega)
  have n7 : wcn (aimS s6 (wcn s2)) = wcn s6 := rfl
  have n8 : (wcn s8 : Int) = (s8 0 17).toInt := nt (by omega)
  have n8p : wcn s8p = wcn s8 := by unfold wcn; rw [e8w]
  have n9 : (wcn s9 : Int) = (s9 0 17).toInt := nt (by omega)
  -- the condition
  have C1 : ∃ g1 X1, TY s1 g1 X1 E0 0 L ∧ Ext g g1 (wcn s0) ∧ (x < 0 → X1 = X) ∧ (0 ≤ x → X1 = (fun q => X q ∨ q = (x - 1).toNat) ∧ (wcn s0 ≤ (x - 1).toNat ∧ (x - 1).toNat + 2 = wcn s1) ∧ g1 (x - 1).toNat = some (1, L) ∧ g1 ((x - 1).toNat + 1) = none ∧ g1 ((x - 1).toNat + 2) = some (0, L) ∧ (s1 8) (x - 1).toNat = 16) := by
    rcases ct with ⟨c, te⟩ | ⟨sa, c, te, pa, wa⟩
    · obtain ⟨g1, t1, x1⟩ := te g X E0 0 L (by rw [Nat.zero_add]; exact hT) (by omega) k1.1 k1.2
      rw [Nat.zero_add] at t1
      exact ⟨g1, X, t1, x1, fun _ => rfl, fun c2 => by omega⟩
    · have fa : (s1 0 12) = (sa 0 12) := pa.1 0 12 rfl rfl
      have la : (s1 0 15) = (sa 0 15) := pa.1 0 15 rfl rfl
      have Wa : (s1 0 17).toInt = (sa 0 17).toInt + 2 := pa.2.1
      have na : (wcn sa : Int) = (sa 0 17).toInt := nt (by omega)
      have ex : (x - 1).toNat = wcn sa := by omega
      obtain ⟨ga, ta, xa⟩ := te g X E0 0 L (by rw [Nat.zero_add]; exact hT) (by omega) (by rw [← fa]; exact k1.1) (by rw [← la]; exact k1.2)
      rw [Nat.zero_add] at ta
      obtain ⟨g1, t1, x1, a1, b1⟩ := ty_hole2 (H' := 0) (L' := L) ta (by omega) pa rfl
      refine ⟨g1, _, t1, ext_tr xa x1 (by omega), fun c2 => by omega, fun _ => ?_⟩
      rw [ex]
      refine ⟨rfl, ⟨by omega, by omega⟩, a1, b1, ?_, pa.2.2.2 0 _ rfl⟩
      have : wcn sa + 2 = wcn s1 := by omega
      rw [this]
      exact t1.2.1
  obtain ⟨g1, X1, t1, x1, cX, cH⟩ := C1
  obtain ⟨g2, t2, x2⟩ := te12 g1 X1 E0 0 L (by rw [Nat.zero_add]; exact t1) (by omega) k2.1 k2.2
  rw [Nat.zero_add] at t2
  obtain ⟨g3, t3, x3, a3, b3⟩ := ty_hole2 (H' := 0) (L' := L + 1) t2 (by omega) p3 rfl
  obtain ⟨g4, t4, x4⟩ := te34 g3 _ E0 0 (L + 1) (by rw [Nat.zero_add]; exact t3) (by omega) k4.1 k4.2
  rw [Nat.zero_add] at t4
  have top0 : g4 (wcn s0) = some (0, L) := by rw [x4 _ (by omega), x3 _ (by omega), x2 _ (by omega), x1 _ (Nat.le_refl _)]; exact hT.2.1
  obtain ⟨g5, t5, x5⟩ := ty_back (L' := L) (T := wcn s0) (kT := L) t4 (by omega) p5 (by omega) top0 (by omega)
  obtain ⟨g6, t6, x6⟩ := te56 g5 _ E0 0 L (by rw [Nat.zero_add]; exact t5) (by omega) k6.1 k6.2
  rw [Nat.zero_add] at t6
  have q1 : g6 (wcn s2) = some (0, L) := by rw [x6 _ (by omega), x5 _ (by omega), x4 _ (by omega), a3]
  have q2 : g6 (wcn s2 + 1) = none := by rw [x6 _ (by omega), x5 _ (by omega), x4 _ (by omega), b3]
  have q3 : g6 (wcn s3) = some (0, L + 1) := by rw [x6 _ (by omega), x5 _ (by omega), x4 _ (Nat.le_refl _)]; exact t3.2.1
  have o1 : (s6 8) (wcn s2) = 15 := by
    rw [r56 _ (by omega), p5.2.2.1 _ (by omega), r34 _ (by omega)]
    exact p3.2.2.2 0 _ rfl
  have t7 : TY (aimS s6 (wcn s2)) g6 X1 E0 0 L := by
    refine ty_aim t6 (by omega) (by omega) q2 (fun h k hh => ?_)
    rw [q1] at hh
    cases hh
    refine okc_go o1 (by omega) ⟨by omega, L, t6.2.1, Or.inr ⟨rfl, by omega⟩⟩ ?_
    have : wcn s2 + 2 = wcn s3 := by omega
    rw [this, q3]
    exact fun c => by cases c
  have top3 : g6 tp3.toInt.toNat = some (0, L + 1) := by
    have : tp3.toInt.toNat = wcn s3 := by omega
    rw [this]; exact q3
  obtain ⟨g8, t8, x8, o8⟩ := hl g6 X1 E0 L t7 (fun _ => ⟨L + 1, top3, Nat.le_refl _⟩) k8.1 k8.2
  rw [if_pos (by omega)] at t8
  rw [n7] at x8
  have t8' := ty_rs t8 (by omega) e8 e8w
  have q8 : g8 (wcn s3) = some (0, L + 1) := by rw [x8 _ (by omega)]; exact q3
  obtain ⟨g9, t9, x9⟩ := ty_back (L' := L) (T := wcn s3) (kT := L + 1) t8' (by omega) p9 (by omega) q8 (by omega)
  rw [n8p] at x9
  have o9 : ∀ b ∈ B, Hol (s9 8) g9 (L + 2) b := fun b hb9 => ho_mono (o8 b hb9) (hb b hb9).2 x9 (fun q hq => by rw [p9.2.2.1 q (by omega), e8x])
  have XX : Ext g g9 (wcn s0) := fun q hq => by rw [x9 q (by omega), x8 q (by omega), x6 q (by omega), x5 q (by omega), x4 q (by omega), x3 q (by omega), x2 q (by omega), x1 q (by omega)]
  have fin : ∀ s10', s10 = s10' → (s10' 0 17) = (s9 0 17) → TY s10' g9 (Xh X B) E0 0 L → (∀ b ∈ B, Hol (s10' 8) g9 (L + 2) b) → ∃ g', TY s11 g' (Xh X ([] ++ [])) E0 0 L ∧ Ext g g' (wcn s0) ∧ ∀ h ∈ ([] : List Nat) ++ [], Hol (s11 8) g' L h := fun s10' e w10 t10 ho => by
    subst e
    have tn := ty_aimall (G := []) (T := wcn s9) (kT := L) (ty_X t10 (fun q hq => hq.imp id (fun h => by rw [List.append_nil]; exact h))) al (fun b hb9 => hol_le (ho b hb9) (by omega)) n9.symm t9.2.1 (fun b _ => List.not_mem_nil) (fun b hb9 => absurd hb9 List.not_mem_nil)
    exact ⟨g9, ty_X tn (fun q hq => Or.inl (hq.elim id (fun c => absurd c List.not_mem_nil))), XX, fun b hb9 => absurd hb9 List.not_mem_nil⟩
  by_cases c : x < 0
  · rw [cX c] at t9
    exact fin s9 (e10.1 c) rfl t9 o9
  · obtain ⟨d1, ⟨d2, d3⟩, d4, d5, d6, d7⟩ := cH (by omega)
    have y : ∀ q, q ≤ wcn s1 → g9 q = g1 q := fun q hq => by rw [x9 q (by omega), x8 q (by omega), x6 q (by omega), x5 q (by omega), x4 q (by omega), x3 q (by omega), x2 q (by omega)]
    have y1 := y (x - 1).toNat (by omega)
    have y2 := y ((x - 1).toNat + 1) (by omega)
    have y3 := y ((x - 1).toNat + 2) (by omega)
    rw [d4] at y1
    rw [d5] at y2
    rw [d6] at y3
    have oo : (s9 8) (x - 1).toNat = 16 := by
      rw [p9.2.2.1 _ (by omega), e8x, r78 _ (by omega)]
      show upC s6 8 (wcn s2 + 1) _ 8 _ = _
      rw [rdA_ne (by omega), r56 _ (by omega), p5.2.2.1 _ (by omega), r34 _ (by omega), p3.2.2.1 _ (by omega), r12 _ (by omega)]
      exact d7
    rw [d1] at t9
    refine fin (aimS s9 (x - 1).toNat) (e10.2 (by omega)) rfl ?_ (fun b hb9 => hol_aim (o9 b hb9) y2)
    refine ty_aim (ty_X t9 (fun q hq => ?_)) (by omega) (by omega) y2 (fun h k hh => ?_)
    · rcases hq with (hq | hq) | hq
      · exact Or.inl (Or.inl hq)
      · exact Or.inr hq
      · exact Or.inl (Or.inr hq)
    · rw [y1] at hh
      cases hh
      exact okc_br oo (Or.inl rfl) (by omega) (by omega) ⟨by omega, L, t9.2.1, Or.inr ⟨rfl, by omega⟩⟩ ⟨by omega, L, y3, Or.inr ⟨rfl, by omega⟩⟩
theorem sp_for {k1 k2 k3 : KZ} {k4 : KL} {k5 k6 : Int32 → KZ} {d : Int} (hL : SSl k4 d) : SSd (wp_forStatement k1 k2 k3 k4 k5 k6) d 13 := by
  intro a tk σ τ vs Q T had hP hS hB htk hk kQ kT
  unfold wp_forStatement
  have h0 := hP.2.2.1.2.2.2.2.1
  obtain ⟨rn, pn, wn, icn⟩ := rl_nxt (vs := vs) hP (by omega)
  have hPn := rn.2.1
  have h0n := hPn.2.2.1.2.2.2.2.1
  rw [show upC σ 0 10 ((σ 0 10) + (1 : Int32)) = nxt σ from rfl]
  refine sp_expect hPn (by decide) (fun hk1 ra pa wa ica => ?_) (fun s' hs => kT _ _ _ (rt_rtx (rt_of rn (by omega) hs)))
  have r13 := rl_tr rn ra
  have hP13 := ra.2.1
  have te13 : TE σ (nxt (nxt σ)) 501 0 0 := te_rl h0 rn ra (te_nxt h0 rn) (te_nxt h0n ra)
  have nc13 : NCt σ vs (nxt (nxt σ)) vs 80 := ⟨by omega, by omega, by omega⟩
  generalize nxt (nxt σ) = s13 at *
  -- behind the first ;
  have B29 : ∀ (s t : St) (z : List Nat), RL σ vs s t z ∧ NCt σ vs s z 80 ∧ TE σ s 501 0 0 → wp_expect (27 : Int32) s t z (fun s32 t32 z32 => wp_is (27 : Int32) s32 t32 z32 (fun v46 => (∃ J83 : Int32 → St → St → List Nat → Prop, (∀ (x4_83 : Int32) (s83 t83 : St) (z83 : List Nat), J83 x4_83 s83 t83 z83 → (wp_expect (27 : Int32) s83 t83 z83 (fun s86 t86 z86 => wp_open (15 : Int32) s86 t86 z86 (fun v92 s92 t92 z92 => wp_is (21 : Int32) s92 t92 z92 (fun v106 => (∃ J116 : St → St → List Nat → Prop, (∀ (s116 t116 : St) (z116 : List Nat), J116 s116 t116 z116 → (wp_put_1 (15 : Int32) (s32 0 17) s116 t116 z116 (fun s120 t120 z120 => wp_expect (21 : Int32) s120 t120 z120 (fun s126 t126 z126 => wp_aim v92 s126 t126 z126 (fun s132 t132 z132 => k4 a tk (s92 0 17) s132 t132 z132 (fun s140 t140 z140 => wp_put_1 (15 : Int32) (s92 0 17) (upC s140 0 58 (s140 0 60)) t140 z140 (fun s162 t162 z162 => (∃ J176 : St → St → List Nat → Prop, (∀ (s176 t176 : St) (z176 : List Nat), J176 s176 t176 z176 → (wp_aimAll (s140 0 58) (s176 0 17) s176 t176 z176 (fun s183 t183 z183 => Q s183 t183 z183))) ∧ (x4_83.toInt < 0 → J176 s162 t162 z162) ∧ (0 ≤ x4_83.toInt → wp_aim x4_83 s162 t162 z162 (fun s173 t173 z173 => J176 s173 t173 z173))))) T)) T))) ∧ (v106.toInt ≠ 0 → J116 s92 t92 z92) ∧ (v106.toInt = 0 → wp_plain s92 t92 z92 (fun s113 t113 z113 => J116 s113 t113 z113) T))))) T)) ∧ (v46.toInt ≠ 0 → J83 ((-1) : Int32) s32 t32 z32) ∧ (v46.toInt = 0 → wpE_expression (1 : Int32) s32 t32 z32 (fun u54 s54 t54 z54 => wp_read_1 u54 s54 t54 z54 (fun s62 t62 z62 => wp_isAny u54 s62 t62 z62 (fun v68 => wp_must v68 tk s62 t62 z62 (fun s72 t72 z72 => wp_open (16 : Int32) s72 t72 z72 (fun v78 s78 t78 z78 => J83 v78 s78 t78 z78))))) T)))) T := fun s29 t29 z29 ⟨r29, nc29, te29⟩ => by
    have hP29 := r29.2.1
    refine sp_expect hP29 (by decide) (fun hk2 rb pb wb icb => ?_) (fun s' hs => kT _ _ _ (rt_rtx (rt_of r29 nc29.2.2 hs)))
    have r32 := rl_tr r29 rb
    have h029 := hP29.2.2.1.2.2.2.2.1
    have te32 : TE σ (nxt s29) 501 0 0 := te_rl h0 r29 rb te29 (te_nxt h029 rb)
    have nc32 : NCt σ vs (nxt s29) z29 120 := by
      obtain ⟨m1, m2, m3⟩ := nc29
      exact ⟨by omega, by omega, by omega⟩
    have hP32 := rb.2.1
    have h032 := hP32.2.2.1.2.2.2.2.1
    generalize nxt s29 = s32 at *
    have hB32 := nct_nb hB (rs_rl r32) nc32 (by omega)
    have hS32 := ps_rs hS (rs_rl r32)
    have n0 : (wcn σ : Int) = (σ 0 17).toInt := nt h0
    have mw32 := r32.2.2.2.2.2.1
    -- behind the condition
    have B83 : ∀ (x4 : Int32) (s83 t83 : St) (z83 : List Nat), RL s32 z29 s83 t83 z83 ∧ NCt s32 z29 s83 z83 0 ∧ CTt s32 s83 x4.toInt ∧ (0 ≤ x4.toInt → (s32 0 17).toInt + 1 ≤ x4.toInt ∧ x4.toInt + 1 = (s83 0 17).toInt) → wp_expect (27 : Int32) s83 t83 z83 (fun s86 t86 z86 => wp_open (15 : Int32) s86 t86 z86 (fun v92 s92 t92 z92 => wp_is (21 : Int32) s92 t92 z92 (fun v106 => (∃ J116 : St → St → List Nat → Prop, (∀ (s116 t116 : St) (z116 : List Nat), J116 s116 t116 z116 → (wp_put_1 (15 : Int32) (s32 0 17) s116 t116 z116 (fun s120 t120 z120 => wp_expect (21 : Int32) s120 t120 z120 (fun s126 t126 z126 => wp_aim v92 s126 t126 z126 (fun s132 t132 z132 => k4 a tk (s92 0 17) s132 t132 z132 (fun s140 t140 z140 => wp_put_1 (15 : Int32) (s92 0 17) (upC s140 0 58 (s140 0 60)) t140 z140 (fun s162 t162 z162 => (∃ J176 : St → St → List Nat → Prop, (∀ (s176 t176 : St) (z176 : List Nat), J176 s176 t176 z176 → (wp_aimAll (s140 0 58) (s176 0 17) s176 t176 z176 (fun s183 t183 z183 => Q s183 t183 z183))) ∧ (x4.toInt < 0 → J176 s162 t162 z162) ∧ (0 ≤ x4.toInt → wp_aim x4 s162 t162 z162 (fun s173 t173 z173 => J176 s173 t173 z173))))) T)) T))) ∧ (v106.toInt ≠ 0 → J116 s92 t92 z92) ∧ (v106.toInt = 0 → wp_plain s92 t92 z92 (fun s113 t113 z113 => J116 s113 t113 z113) T))))) T := fun x4 s83 t83 z83 ⟨r83, nc83, ct, hx4⟩ => by
      have hP83 := r83.2.1
      have rA := rl_tr r32 r83
      have ncA := nct_tr nc32 nc83
      refine sp_expect hP83 (by decide) (fun hk3 rc pc wc icc => ?_) (fun s' hs => kT _ _ _ (rt_rtx (rt_of rA ncA.2.2 hs)))
      have h083 := hP83.2.2.1.2.2.2.2.1
      have te86 : TE s83 (nxt s83) 501 0 0 := te_nxt h083 rc
      have hP86 := rc.2.1
      have h086 := hP86.2.2.1.2.2.2.2.1
      have rB := rl_tr rA rc
      have ncB : NCt σ vs (nxt s83) z83 160 := by
        obtain ⟨m1, m2, m3⟩ := ncA
        exact ⟨by omega, by omega, by omega⟩
      generalize nxt s83 = s86 at *
      have hcB := nb_cap (nct_nb hB (rs_rl rB) ncB (by omega)) hP86
      refine sp_open h086 (by omega) (fun v92 s92 p92 e92 => ?_)
      have r92 := rl_pu (vs := z83) (z := z83) hP86 p92 hP86.2.2.2.2 (fun _ h => h) (Nat.le_refl _)
      have W92 : (s92 0 17).toInt = (s86 0 17).toInt + 2 := p92.2.1
      have P92 := pos_sq (sq_pu p92)
      have I92 := ic_sq (sq_pu p92)
      have rC := rl_tr rB r92
      have ncC : NCt σ vs s92 z83 158 := by
        obtain ⟨m1, m2, m3⟩ := ncB
        exact ⟨by omega, by rw [I92]; omega, by omega⟩
      have hP92 := r92.2.1
      have h092 := hP92.2.2.1.2.2.2.2.1
      have hBC := nct_nb hB (rs_rl rC) ncC (by omega)
      -- behind the third
      have B116 : ∀ (s116 t116 : St) (z116 : List Nat), RL s92 z83 s116 t116 z116 ∧ NCt s92 z83 s116 z116 0 ∧ TE s92 s116 501 0 0 → wp_put_1 (15 : Int32) (s32 0 17) s116 t116 z116 (fun s120 t120 z120 => wp_expect (21 : Int32) s120 t120 z120 (fun s126 t126 z126 => wp_aim v92 s126 t126 z126 (fun s132 t132 z132 => k4 a tk (s92 0 17) s132 t132 z132 (fun s140 t140 z140 => wp_put_1 (15 : Int32) (s92 0 17) (upC s140 0 58 (s140 0 60)) t140 z140 (fun s162 t162 z162 => (∃ J176 : St → St → List Nat → Prop, (∀ (s176 t176 : St) (z176 : List Nat), J176 s176 t176 z176 → (wp_aimAll (s140 0 58) (s176 0 17) s176 t176 z176 (fun s183 t183 z183 => Q s183 t183 z183))) ∧ (x4.toInt < 0 → J176 s162 t162 z162) ∧ (0 ≤ x4.toInt → wp_aim x4 s162 t162 z162 (fun s173 t173 z173 => J176 s173 t173 z173))))) T)) T) := fun s4 t4 z4 ⟨r4, nc4, te4⟩ => by
        have hP4 := r4.2.1
        have h04 := hP4.2.2.1.2.2.2.2.1
        have rD := rl_tr rC r4
        have ncD := nct_tr ncC nc4
        have hcD := nb_cap (nct_nb hB (rs_rl rD) ncD (by omega)) hP4
        refine sp_put_1 h04 (by omega) (fun s5 p5 => ?_)
        have r5 := rl_pu (vs := z4) (z := z4) hP4 p5 hP4.2.2.2.2 (fun _ h => h) (Nat.le_refl _)
        have W5 : (s5 0 17).toInt = (s4 0 17).toInt + 2 := p5.2.1
        have P5 := pos_sq (sq_pu p5)
        have I5 := ic_sq (sq_pu p5)
        have rE := rl_tr rD r5
        have ncE : NCt σ vs s5 z4 156 := by
          obtain ⟨m1, m2, m3⟩ := ncD
          exact ⟨by omega, by rw [I5]; omega, by omega⟩
        have hP5 := r5.2.1
        have h05 := hP5.2.2.1.2.2.2.2.1
        refine sp_expect hP5 (by decide) (fun hk6 rf pf wf icf => ?_) (fun s' hs => kT _ _ _ (rt_rtx (rt_of rE ncE.2.2 hs)))
        have te56 : TE s5 (nxt s5) 501 0 0 := te_nxt h05 rf
        have hP6 := rf.2.1
        have h06 := hP6.2.2.1.2.2.2.2.1
        have rF := rl_tr rE rf
        have ncF : NCt σ vs (nxt s5) z4 196 := by
          obtain ⟨m1, m2, m3⟩ := ncE
          exact ⟨by omega, by omega, by omega⟩
        generalize nxt s5 = s6 at *
        have mw83 := r83.2.2.2.2.2.1
        have mw86 := rc.2.2.2.2.2.1
        have mw4 := r4.2.2.2.2.2.1
        have n86 : (wcn s86 : Int) = (s86 0 17).toInt := nt h086
        have n32 : (wcn s32 : Int) = (s32 0 17).toInt := nt h032
        have hcF := nb_cap (nct_nb hB (rs_rl rF) ncF (by omega)) hP6
        refine sp_aim (p := wcn s86) (by omega) (by omega) ?_
        have rs7 := rs_aim (p := wcn s86) (rs_rl rF) (by omega)
        have hP7 := rs7.2.1
        have W7 : ((aimS s6 (wcn s86)) 0 17).toInt = (s6 0 17).toInt := rfl
        have P7 : pos (aimS s6 (wcn s86)) = pos s6 := rfl
        have nc7 : NCt σ vs (aimS s6 (wcn s86)) z4 196 := ncF
        have hB7 := nct_nb hB rs7 nc7 (by omega)
        have sz7 := rs_sz rs7
        have hbb : ((aimS s6 (wcn s86)) 0 17).toInt + 2 + 40 * (((aimS s6 (wcn s86)) 0 9).toInt - pos (aimS s6 (wcn s86))) ≤ 410000 := by
          obtain ⟨b1, -⟩ := hB
          obtain ⟨c1, -⟩ := nc7
          rw [sz7]
          omega
        refine hL a tk _ _ t4 z4 _ T had hP7 (ps_rs hS rs7) hB7 hbb htk (by rw [W7]; omega) (fun s8 t8 z8 lq => ?_) (fun s' t' z' hs => kT _ _ _ (rt_rs rs7 nc7.2.2 hs))
        obtain ⟨r8, nc8, p8, lo8, go8, ob8, B, hBb, hC, hLT⟩ := lq
        have hP8 := r8.2.1
        have h08 := hP8.2.2.1.2.2.2.2.1
        have rs8 := rs_tr rs7 r8
        have nc08 := nct_tr nc7 nc8
        have hc8 := nb_cap (nct_nb hB rs8 nc08 (by omega)) hP8
        have r8' : RSt s8 z8 (upC s8 0 58 (s8 0 60)) t8 z8 := rs_f (rs_rf hP8) (by omega)
        have w8' : ((upC s8 0 58 (s8 0 60)) 0 17) = (s8 0 17) := rfl
        have x8' : ∀ q, ((upC s8 0 58 (s8 0 60)) 8) q = (s8 8) q := fun _ => rfl
        have b8' : ((upC s8 0 58 (s8 0 60)) 0 58) = ((aimS s6 (wcn s86)) 0 58) := by rw [rdA_eq rfl]; exact ob8
        have g8' : ((upC s8 0 58 (s8 0 60)) 0 59) = (s8 0 59) := rfl
        have l8' : ((upC s8 0 58 (s8 0 60)) 0 57) = (s8 0 57) := rfl
        have f8' : ((upC s8 0 58 (s8 0 60)) 0 12) = (s8 0 12) := rfl
        have si8' : ((upC s8 0 58 (s8 0 60)) 0 15) = (s8 0 15) := rfl
        have ps8' : pos (upC s8 0 58 (s8 0 60)) = pos s8 := rfl
        have ic8' : ((upC s8 0 58 (s8 0 60)) 0 39) = (s8 0 39) := rfl
        generalize (upC s8 0 58 (s8 0 60)) = s8p at *
        have hP8p := r8'.2.1
        refine sp_put_1 (by rw [w8']; exact h08) (by rw [w8']; omega) (fun s9 p9 => ?_)
        have r9 := rl_pu (vs := z8) (z := z8) hP8p p9 hP8p.2.2.2.2 (fun _ h => h) (Nat.le_refl _)
        have W9 : (s9 0 17).toInt = (s8 0 17).toInt + 2 := by rw [p9.2.1, w8']; rfl
        have P9 : pos s9 = pos s8 := (pos_sq (sq_pu p9)).trans ps8'
        have I9 : (s9 0 39) = (s8 0 39) := (ic_sq (sq_pu p9)).trans ic8'
        have rs9 := rs_tr rs8 (rs_tr r8' (rs_rl r9))
        have nc9 : NCt σ vs s9 z8 0 := by
          obtain ⟨m1, m2, m3⟩ := nc08
          exact ⟨by rw [P9]; omega, by rw [I9, P9]; exact m2, by rw [P9]; exact m3⟩
        have mw6 := rf.2.2.2.2.2.1
        have mw8 := r8.2.2.2.2.2.1
        have n6 : (wcn s6 : Int) = (s6 0 17).toInt := nt h06
        have n7 : wcn (aimS s6 (wcn s86)) = wcn s6 := rfl
        have n8 : (wcn s8 : Int) = (s8 0 17).toInt := nt h08
        -- the last jumps
        have fin : ∀ s10 : St, ((x4.toInt < 0 → s10 = s9) ∧ (0 ≤ x4.toInt → s10 = aimS s9 (x4.toInt - 1).toNat)) → wp_aimAll (s8 0 58) (s10 0 17) s10 t8 z8 (fun s183 t183 z183 => Q s183 t183 z183) := fun s10 e10 => by
          have a10 : ∀ j, s10 0 j = s9 0 j := fun j => by
            by_cases c : x4.toInt < 0
            · rw [e10.1 c]
            · rw [e10.2 (by omega)]; rfl
          have rs10 : RSt σ vs s10 t8 z8 := by
            by_cases c : x4.toInt < 0
            · rw [e10.1 c]; exact rs9
            · rw [e10.2 (by omega)]
              have := hx4 (by omega)
              exact rs_aim rs9 (by omega)
          have nc10 : NCt σ vs s10 z8 0 ∧ pos s10 = pos s9 := by
            by_cases c : x4.toInt < 0
            · rw [e10.1 c]; exact ⟨nc9, rfl⟩
            · rw [e10.2 (by omega)]; exact ⟨nc9, rfl⟩
          have C10 : Ch (s10 8) (s8 0 58).toInt B := ch_w (fun b hb => by
            have hbb9 := hBb b hb
            have e1 : (s10 8) b = (s9 8) b := by
              by_cases c : x4.toInt < 0
              · rw [e10.1 c]
              · rw [e10.2 (by omega)]
                have := hx4 (by omega)
                show upC s9 8 _ _ 8 b = _
                rw [rdA_ne (by omega)]
            rw [e1, p9.2.2.1 b (by rw [w8']; omega), x8']) hC
          rw [a10 17]
          refine sp_aimAll C10 (fun b hb => by have := (hBb b hb).2; omega) (fun s11 al => ?_)
          have rs11 := rs_al rs10 al (fun b hb => by have := (hBb b hb).1; have := rs_wcn rs7 h0; omega) h0
          obtain ⟨nc11, P11⟩ := nct_al nc10.1 al
          have a0 : ∀ j, s11 0 j = s9 0 j := fun j => (al.1 0 j rfl rfl).trans (a10 j)
          have eB : (s11 0 58) = (σ 0 58) := by
            rw [a0 58, p9.1 0 58 rfl rfl, b8']
            exact rF.1 0 58 rfl rfl
          have eG : (s11 0 59) = (σ 0 59) := by
            rw [a0 59, p9.1 0 59 rfl rfl, g8', go8]
            exact rF.1 0 59 rfl rfl
          have eL : (s11 0 57) = (σ 0 57) := by
            rw [a0 57, p9.1 0 57 rfl rfl, l8', lo8]
            exact rF.1 0 57 rfl rfl
          have okc : okS s9 → okS s83 ∧ okS s86 ∧ okS s4 ∧ okS s6 ∧ okS s8 := fun ⟨o1, o2⟩ => by
            have f89 : (s9 0 12) = (s8 0 12) := (p9.1 0 12 rfl rfl).trans f8'
            have l89 : (s9 0 15) = (s8 0 15) := (p9.1 0 15 rfl rfl).trans si8'
            rw [f89] at o1
            rw [l89] at o2
            have o6 : (s6 0 12).toInt = 0 := of0 r8.2.2.2.2.1 o1
            have l6 : (s6 0 15).toInt = 0 := by
              have := rs_sil r8
              rw [this] at o2; exact o2
            have o4 : (s4 0 12).toInt = 0 := of0 (rl_tr r5 rf).2.2.2.2.1 o6
            have l4 : (s4 0 15).toInt = 0 := by
              have := rl_sil (rl_tr r5 rf)
              rw [this] at l6; exact l6
            have o86 : (s86 0 12).toInt = 0 := of0 (rl_tr r92 r4).2.2.2.2.1 o4
            have l86 : (s86 0 15).toInt = 0 := by
              have := rl_sil (rl_tr r92 r4)
              rw [this] at l4; exact l4
            have o83 : (s83 0 12).toInt = 0 := of0 rc.2.2.2.2.1 o86
            have l83 : (s83 0 15).toInt = 0 := by
              have := rl_sil rc
              rw [this] at l86; exact l86
            exact ⟨⟨o83, l83⟩, ⟨o86, l86⟩, ⟨o4, l4⟩, ⟨o6, l6⟩, ⟨o1, o2⟩⟩
          have ts := ts_for (vs := z8) (s0 := s32) (tp0 := s32 0 17) (tp3 := s92 0 17) h032 rfl ct r83.2.2.2.2.2.1 te86 rc.2.2.1 mw86 p92 rfl te4 r4.2.2.1 mw4 p5 te56 rf.2.2.1 mw6 rfl hLT r8.2.2.1 mw8 hBb r8' w8' x8' p9 e10 al okc
          refine kQ _ _ _ ⟨[], [], ⟨rs11, chn_no h0 rs11.2.2.1 eB eG, fun g X E0 L hT hf hs => ?_, eL, fun _ _ _ => ⟨rfl, rfl⟩⟩, nc11, ?_⟩
          · have ok9 : okS s9 := ⟨by rw [← a0 12]; exact hf, by rw [← a0 15]; exact hs⟩
            have o83 := (okc ok9).1
            have o32 : (s32 0 12).toInt = 0 := of0 r83.2.2.2.2.1 o83.1
            have l32 : (s32 0 15).toInt = 0 := by
              have := o83.2
              rw [rl_sil r83] at this; exact this
            obtain ⟨g1, t1, x1⟩ := te32 g X E0 0 L (by rw [Nat.zero_add]; exact hT) (by omega) o32 l32
            rw [Nat.zero_add] at t1
            obtain ⟨g2, t2, x2, o2⟩ := ts g1 X E0 L t1 hf hs
            exact ⟨g2, t2, ext_tr x1 x2 (by omega), o2⟩
          · have := nc10.2
            have mp := rF.2.2.2.2.2.2.2.1
            omega
        refine ⟨fun s10 t10 z10 => t8 = t10 ∧ z8 = z10 ∧ ((x4.toInt < 0 → s10 = s9) ∧ (0 ≤ x4.toInt → s10 = aimS s9 (x4.toInt - 1).toNat)), ?_, fun c => ⟨rfl, rfl, fun _ => rfl, fun c2 => by omega⟩, fun c => ?_⟩
        · rintro s10 _ _ ⟨rfl, rfl, e10⟩
          exact fin s10 e10
        · have hx := hx4 c
          exact sp_aim (p := (x4.toInt - 1).toNat) (by omega) (by omega) ⟨rfl, rfl, fun c2 => by omega, fun _ => rfl⟩
      refine sp_is hP92 (fun hk5 => ⟨fun s t z => RL s92 z83 s t z ∧ NCt s92 z83 s z 0 ∧ TE s92 s 501 0 0, fun s t z h => B116 s t z h, fun _ => ⟨rl_rf hP92, nct_rf, te_rf⟩, no1⟩) (fun hk5 => ⟨fun s t z => RL s92 z83 s t z ∧ NCt s92 z83 s z 0 ∧ TE s92 s 501 0 0, fun s t z h => B116 s t z h, no0, fun _ => sp_plain hP92 hBC (fun s t z r nc p te => ⟨r, nct_le nc (by omega), te⟩) (fun s' t' z' hs => kT _ _ _ (rt_rtx (rt_of rC ncC.2.2 hs)))⟩)
    refine sp_is hP32 (fun hk4 => ⟨fun x4 s t z => RL s32 z29 s t z ∧ NCt s32 z29 s z 0 ∧ CTt s32 s x4.toInt ∧ (0 ≤ x4.toInt → (s32 0 17).toInt + 1 ≤ x4.toInt ∧ x4.toInt + 1 = (s 0 17).toInt), fun x4 s t z h => B83 x4 s t z h, fun _ => ⟨rl_rf hP32, nct_rf, Or.inl ⟨by decide, te_rf⟩, fun c => absurd c (by decide)⟩, no1⟩) (fun hk4 => ⟨fun x4 s t z => RL s32 z29 s t z ∧ NCt s32 z29 s z 0 ∧ CTt s32 s x4.toInt ∧ (0 ≤ x4.toInt → (s32 0 17).toInt + 1 ≤ x4.toInt ∧ x4.toInt + 1 = (s 0 17).toInt), fun x4 s t z h => B83 x4 s t z h, no0, fun _ => ?_⟩)
    refine sx_expr 1 s32 t29 z29 _ T (by decide) hP32 hB32 (fun u s t z r => ?_) (fun s' t' z' hs => kT _ _ _ (rt_rtx (rt_of r32 nc32.2.2 hs)))
    refine sp_read r.1.2.1 (re_nb hB32 r) r.2.2.1.1 (fun s2 hrd => ?_)
    obtain ⟨g1, g2, g3, g4, g5, g6, g7, g8⟩ := re_read hP32 r hrd (by omega)
    have hP2 := g1.2.1
    have h02 := hP2.2.2.1.2.2.2.2.1
    have hu := r.2.2.1.1
    have hc2 := nb_cap (nb_of hB32 g1 (by omega) (by omega) g5) hP2
    have fin2 : ∀ y : Int32, (y.toInt ≠ 0 → (upC t u 1 (0 : Int32) u 0).toInt ≠ -1) → wp_must y tk s2 (upC t u 1 (0 : Int32)) z (fun s72 t72 z72 => wp_open (16 : Int32) s72 t72 z72 (fun v78 s78 t78 z78 => RL s32 z29 s78 t78 z78 ∧ NCt s32 z29 s78 z78 0 ∧ CTt s32 s78 v78.toInt ∧ (0 ≤ v78.toInt → (s32 0 17).toInt + 1 ≤ v78.toInt ∧ v78.toInt + 1 = (s78 0 17).toInt))) := fun y hy => by
      refine sp_must htk (fun s3 hs hf => ?_)
      have sq := sq_tl hs
      have w3 := sq_wc sq h02
      refine sp_open w3.1 (by omega) (fun v s4 p4 ev4 => ?_)
      have sq4 := sq_tr sq (sq_pu p4)
      have rC := sq_rl (vs := z) hP2 sq4
      have rC3 := sq_rl (vs := z) hP2 sq
      have P4 := pos_sq sq4
      have I4 := ic_sq sq4
      have W4 : (s4 0 17).toInt = (s3 0 17).toInt + 2 := p4.2.1
      have n3 : (wcn s3 : Int) = (s3 0 17).toInt := nt w3.1
      have mw := g1.2.2.2.2.2.1
      have mw3 := sq.2.2.2.1
      refine ⟨rl_tr g1 rC, ⟨by omega, by rw [I4]; omega, by omega⟩, Or.inr ⟨s3, by omega, ?_, p4, by omega⟩, fun _ => by omega⟩
      refine te_if (P := (upC t u 1 (0 : Int32) u 0).toInt ≠ -1) (fun f1 f2 => hy (hf f1 f2)) (fun c => ?_)
      have eu : ev (upC t u 1 (0 : Int32)) u = 1 := ev_st (by rw [rdA, if_pos rfl]; rfl) c
      rw [eu] at g6
      exact te_rl h032 g1 rC3 g6 (te_tl h02 hs)
    exact sp_isAny hu (fun c => fin2 1 (fun _ => by omega)) (fun _ => fin2 0 no0)
  refine sp_is hP13 (fun hk1 => ⟨fun s t z => RL σ vs s t z ∧ NCt σ vs s z 80 ∧ TE σ s 501 0 0, fun s t z h => B29 s t z h, fun _ => ⟨r13, nc13, te13⟩, no1⟩) (fun hk1 => ⟨fun s t z => RL σ vs s t z ∧ NCt σ vs s z 80 ∧ TE σ s 501 0 0, fun s t z h => B29 s t z h, no0, fun _ => ?_⟩)
  exact sp_plain hP13 (nct_nb hB (rs_rl r13) nc13 (by omega)) (fun s t z r nc p te => ⟨rl_tr r13 r, nct_le (nct_tr nc13 nc) (by omega), te_rl h0 r13 r te13 te⟩) (fun s' t' z' hs => kT _ _ _ (rt_rtx (rt_of r13 nc13.2.2 hs)))
end FOR
end

section
/-! a statement -/
section STT
variable {σ s s' τ t t' : St} {vs z z' : List Nat} {g g' : Gh} {X X' : Nat → Prop} {E0 H L : Nat}
theorem sr_pre {B G : List Nat} (h0 : 0 ≤ (σ 0 17).toInt) (rn : RL σ vs s t z) (te : TE σ s 501 0 0) (h : SRt s z 0 0 s' t' z' B G) : SRt σ vs 0 0 s' t' z' B G := by
  have := sr_tr h0 (sr_rl h0 rn te (by omega)) h
  rw [List.append_nil, List.append_nil] at this
  exact this
theorem pq_pre {c : Int} (h0 : 0 ≤ (σ 0 17).toInt) (rn : RL σ vs s t z) (te : TE σ s 501 0 0) (nc : NCt σ vs s z c) (hc : 0 ≤ c) (h : PQ s z s' t' z') : PQ σ vs s' t' z' := by
  obtain ⟨B, G, sr, n, p⟩ := h
  have mp := rn.2.2.2.2.2.2.2.1
  exact ⟨B, G, sr_pre h0 rn te sr, nct_le (nct_tr nc n) (by omega), by omega⟩
theorem sp_ifS {k2 : KZ} {d : Int} (hI : SS k2 d) {a : Int32} {Q T : St → St → List Nat → Prop} (had : a.toInt = d) (hP : PA σ τ) (hS : PSt σ) (hB : NB σ vs) (hk : kd σ = 9) (kQ : ∀ s t z, PQ σ vs s t z → Q s t z) (kT : ∀ s t z, RTt σ vs s t z → T s t z) : wp_condition (σ 0 10) (upC σ 0 10 ((σ 0 10) + (1 : Int32))) τ vs (fun s120 t120 z120 => wp_open (16 : Int32) s120 t120 z120 (fun v126 s126 t126 z126 => k2 a s126 t126 z126 (fun s132 t132 z132 => wp_isWord (10 : Int32) s132 t132 z132 (fun v138 => (v138.toInt ≠ 0 → wp_open (15 : Int32) (upC s132 0 10 ((s132 0 10) + (1 : Int32))) t132 z132 (fun v165 s165 t165 z165 => wp_aim v126 s165 t165 z165 (fun s172 t172 z172 => k2 a s172 t172 z172 (fun s177 t177 z177 => wp_aim v165 s177 t177 z177 (fun s183 t183 z183 => Q s183 t183 z183)) T))) ∧ (v138.toInt = 0 → wp_aim v126 s132 t132 z132 (fun s146 t146 z146 => Q s146 t146 z146)))) T)) T := by
  have h0 := hP.2.2.1.2.2.2.2.1
  have htk := at_tok hP.1 hP.2.1
  obtain ⟨rn, pn, wn, icn⟩ := rl_nxt (vs := vs) hP (by omega)
  have hPn := rn.2.1
  have h0n := hPn.2.2.1.2.2.2.2.1
  have hBn : NB (nxt σ) vs := nb_of hB rn (by omega) (by omega) (by omega)
  rw [show upC σ 0 10 ((σ 0 10) + (1 : Int32)) = nxt σ from rfl]
  refine sp_condition hPn hBn htk (fun s1 t1 z1 r1 nc1 te1 => ?_) (fun s' t' z' hs => kT _ _ _ (rt_rtx (rt_of rn (by omega) hs)))
  have hP1 := r1.2.1
  have h01 := hP1.2.2.1.2.2.2.2.1
  have r01 := rl_tr rn r1
  have nc01 : NCt σ vs s1 z1 60 := by
    obtain ⟨m1, m2, m3⟩ := nc1
    exact ⟨by omega, by omega, by omega⟩
  have sr1 : SRt σ vs 0 1 s1 t1 z1 [] [] := sr_rl h0 r01 (te_rl h0 rn r1 (te_nxt h0 rn) te1) (by omega)
  have hc1 := nb_cap (nct_nb hB (rs_rl r01) nc01 (by omega)) hP1
  refine sp_open h01 (by omega) (fun v s2 p2 ev2 => ?_)
  have rl2 := rl_pu (vs := z1) (z := z1) hP1 p2 hP1.2.2.2.2 (fun _ h => h) (Nat.le_refl _)
  have W2 : (s2 0 17).toInt = (s1 0 17).toInt + 2 := p2.2.1
  have P2 := pos_sq (sq_pu p2)
  have I2 := ic_sq (sq_pu p2)
  have r02 := rl_tr r01 rl2
  have nc02 : NCt σ vs s2 z1 58 := by
    obtain ⟨m1, m2, m3⟩ := nc01
    exact ⟨by omega, by rw [I2]; omega, by omega⟩
  have hP2 := rl2.2.1
  have h02 := hP2.2.2.1.2.2.2.2.1
  refine hI a s2 t1 z1 _ T had hP2 (ps_rs hS (rs_rl r02)) (nct_nb hB (rs_rl r02) nc02 (by omega)) (fun s3 t3 z3 pq => ?_) (fun s' t' z' hs => kT _ _ _ (rt_rs (rs_rl r02) nc02.2.2 hs))
  obtain ⟨B, G, sr3, nc3, p3⟩ := pq
  have hP3 := sr3.1.2.1
  have h03 := hP3.2.2.1.2.2.2.2.1
  have nc03 := nct_tr nc02 nc3
  have rs3 := rs_tr (rs_rl r02) sr3.1
  have n1 : (wcn s1 : Int) = (s1 0 17).toInt := nt h01
  have n2 : (wcn s2 : Int) = (s2 0 17).toInt := nt h02
  have n3 : (wcn s3 : Int) = (s3 0 17).toInt := nt h03
  have mw3 := sr3.1.2.2.2.2.2.1
  have mp1 := r01.2.2.2.2.2.2.2.1
  have hc3 := nb_cap (nct_nb hB rs3 nc03 (by omega)) hP3
  have c12 : CHN s1 s2 [] [] := chn_no h01 p2.2.2.1 (p2.1 0 58 rfl rfl) (p2.1 0 59 rfl rfl)
  have c13 : CHN s1 s3 B G := by
    have := chn_tr c12 sr3.2.1 (by omega) (by omega)
    rw [List.append_nil, List.append_nil] at this
    exact this
  have hbb : ∀ b ∈ B ++ G, wcn s2 < b ∧ b < wcn s3 := fun b hb => by
    rcases List.mem_append.mp hb with h | h
    · exact sr3.2.1.1 b h
    · exact sr3.2.1.2.1 b h
  have lo12 : (s2 0 57) = (s1 0 57) := p2.1 0 57 rfl rfl
  have si12 : (s2 0 15) = (s1 0 15) := p2.1 0 15 rfl rfl
  refine sp_isWord hP3 (fun hk3 => ⟨fun _ => ?_, no1⟩) (fun hk3 => ⟨no0, fun _ => ?_⟩)
  · -- else
    have hk3' : kd s3 = 10 := hk3
    obtain ⟨ro, po, wo, ico⟩ := rl_nxt (vs := z3) hP3 (by omega)
    have hPo := ro.2.1
    have h0o := hPo.2.2.1.2.2.2.2.1
    have sro : SRt s2 z1 0 0 (nxt s3) t3 z3 B G := by
      have := sr_tr h02 sr3 (sr_rl h03 ro (te_nxt (N := 0) h03 ro) (by omega))
      exact this
    rw [show upC s3 0 10 ((s3 0 10) + (1 : Int32)) = nxt s3 from rfl]
    have nc0o : NCt σ vs (nxt s3) z3 98 := by
      obtain ⟨m1, m2, m3⟩ := nc03
      exact ⟨by omega, by omega, by omega⟩
    have no_ : wcn (nxt s3) = wcn s3 := rfl
    have c1o : CHN s1 (nxt s3) B G := by
      have := chn_tr c12 sro.2.1 (by omega) (by omega)
      rw [List.append_nil, List.append_nil] at this
      exact this
    refine sp_open h0o (by omega) (fun v4 s4 p4 ev4 => ?_)
    have rl4 := rl_pu (vs := z3) (z := z3) hPo p4 hPo.2.2.2.2 (fun _ h => h) (Nat.le_refl _)
    have W4 : (s4 0 17).toInt = ((nxt s3) 0 17).toInt + 2 := p4.2.1
    have P4 := pos_sq (sq_pu p4)
    have I4 := ic_sq (sq_pu p4)
    have rs4 := rs_tr (rs_tr rs3 (rs_rl ro)) (rs_rl rl4)
    refine sp_aim (p := wcn s1) (by omega) (by omega) ?_
    have n0 : (wcn σ : Int) = (σ 0 17).toInt := nt h0
    have mw1 := r01.2.2.2.2.2.1
    have rs5 := rs_aim (p := wcn s1) rs4 (by omega)
    have hP5 := rs5.2.1
    have nc5 : NCt σ vs (aimS s4 (wcn s1)) z3 96 := by
      obtain ⟨m1, m2, m3⟩ := nc0o
      have nn : NCt σ vs s4 z3 96 := ⟨by omega, by rw [I4]; omega, by omega⟩
      exact nn
    refine hI a _ t3 z3 _ T had hP5 (ps_rs hS rs5) (nct_nb hB rs5 nc5 (by omega)) (fun s6 t6 z6 pq => ?_) (fun s' t' z' hs => kT _ _ _ (rt_rs rs5 nc5.2.2 hs))
    obtain ⟨B', G', sr6, nc6, p6⟩ := pq
    have hP6 := sr6.1.2.1
    have h06 := hP6.2.2.1.2.2.2.2.1
    have nc06 := nct_tr nc5 nc6
    have rs6 := rs_tr rs5 sr6.1
    have hc6 := nb_cap (nct_nb hB rs6 nc06 (by omega)) hP6
    have mw6 := sr6.1.2.2.2.2.2.1
    have n5 : wcn (aimS s4 (wcn s1)) = wcn s4 := rfl
    have n4 : (wcn s4 : Int) = (s4 0 17).toInt := nt (by omega)
    have n6 : (wcn s6 : Int) = (s6 0 17).toInt := nt h06
    have W5 : ((aimS s4 (wcn s1)) 0 17).toInt = (s4 0 17).toInt := rfl
    refine sp_aim (p := wcn (nxt s3)) (by omega) (by omega) ?_
    have rs7 := rs_aim (p := wcn (nxt s3)) rs6 (by omega)
    have ts := ts_ifelse h01 p2 sro.2.2.1 sro.1.2.2.1 (by show (s2 0 17).toInt ≤ ((nxt s3) 0 17).toInt; omega) hbb p4 rfl sr6.2.2.1 sr6.1.2.2.1 mw6 (fun b hb => by
      rcases List.mem_append.mp hb with h | h
      · exact (sr6.2.1.1 b h).1
      · exact (sr6.2.1.2.1 b h).1) rfl (of_tr rl4.2.2.2.2.1 sr6.1.2.2.2.2.1) (by rw [rs_sil sr6.1]; exact p4.1 0 15 rfl rfl)
    have c14 : CHN s1 s4 B G := by
      have := chn_tr c1o (chn_no h0o p4.2.2.1 (p4.1 0 58 rfl rfl) (p4.1 0 59 rfl rfl)) (by omega) (by omega)
      exact this
    have c15 : CHN s1 (aimS s4 (wcn s1)) B G := chn_aim c14 (Nat.le_refl _) (fun b hb => by have := hbb b (by simp [hb]); omega) (fun b hb => by have := hbb b (by simp [hb]); omega)
    have c16 := chn_tr c15 sr6.2.1 (by omega) (by omega)
    have c17 := chn_aim (p := wcn (nxt s3)) c16 (by omega) (fun b hb => by
      rcases List.mem_append.mp hb with h | h
      · have := (sr6.2.1.1 b h).1; omega
      · have := hbb b (by simp [h]); omega) (fun b hb => by
      rcases List.mem_append.mp hb with h | h
      · have := (sr6.2.1.2.1 b h).1; omega
      · have := hbb b (by simp [h]); omega)
    have eL1 : ((nxt s3) 0 57) = (s1 0 57) := sro.2.2.2.1.trans lo12
    have eL6 : (s6 0 57) = (s1 0 57) := by
      have e : ((aimS s4 (wcn s1)) 0 57) = ((nxt s3) 0 57) := p4.1 0 57 rfl rfl
      rw [sr6.2.2.2.1, e, eL1]
    have rs17 : RSt s1 z1 (aimS s6 (wcn (nxt s3))) t6 z6 := rs_aim (rs_tr (rs_aim (p := wcn s1) (rs_tr (rs_rl rl2) (rs_tr sro.1 (rs_rl rl4))) (by omega)) sr6.1) (by omega)
    have srF : SRt s1 z1 1 0 (aimS s6 (wcn (nxt s3))) t6 z6 (B' ++ B) (G' ++ G) := ⟨rs17, c17, ts, eL6, fun f1 f2 f3 => by
      have f6 : (s6 0 12).toInt = 0 := f1
      have l6 : (s6 0 15).toInt = 0 := f2
      have eL5 : ((aimS s4 (wcn s1)) 0 57) = (s1 0 57) := (p4.1 0 57 rfl rfl : (s4 0 57) = ((nxt s3) 0 57)).trans eL1
      obtain ⟨b1, b2⟩ := sr6.2.2.2.2 f6 l6 (by rw [eL5]; exact f3)
      have f4 : (s4 0 12).toInt = 0 := of0 sr6.1.2.2.2.2.1 f6
      have l4 : (s4 0 15).toInt = 0 := by
        have := rs_sil sr6.1
        rw [this] at l6; exact l6
      have fo : ((nxt s3) 0 12).toInt = 0 := of0 rl4.2.2.2.2.1 f4
      have lo : ((nxt s3) 0 15).toInt = 0 := by
        have := rl_sil rl4
        rw [this] at l4; exact l4
      obtain ⟨b3, b4⟩ := sro.2.2.2.2 fo lo (by rw [lo12]; exact f3)
      rw [b1, b2, b3, b4]
      exact ⟨rfl, rfl⟩⟩
    have fin := sr_tr h0 sr1 srF
    refine kQ _ _ _ ⟨_, _, fin, nct_le (c := 96) nc06 (by omega), ?_⟩
    show pos σ < pos s6
    have : pos (aimS s4 (wcn s1)) = pos s4 := rfl
    omega
  · -- none
    refine sp_aim (p := wcn s1) (by omega) (by omega) ?_
    have ts := ts_if h01 p2 sr3.2.2.1 sr3.1.2.2.1 mw3 (fun b hb => (hbb b hb).1)
    have c14 := chn_aim (p := wcn s1) c13 (Nat.le_refl _) (fun b hb => by have := hbb b (by simp [hb]); omega) (fun b hb => by have := hbb b (by simp [hb]); omega)
    have rs14 : RSt s1 z1 (aimS s3 (wcn s1)) t3 z3 := rs_aim (rs_tr (rs_rl rl2) sr3.1) (by omega)
    have srF : SRt s1 z1 1 0 (aimS s3 (wcn s1)) t3 z3 B G := ⟨rs14, c14, ts, sr3.2.2.2.1.trans lo12, fun f1 f2 f3 => sr3.2.2.2.2 f1 f2 (by rw [lo12]; exact f3)⟩
    have fin := sr_tr h0 sr1 srF
    refine kQ _ _ _ ⟨_, _, fin, nct_le (c := 58) nc03 (by omega), ?_⟩
    show pos σ < pos s3
    omega
theorem sp_jump {Q T : St → St → List Nat → Prop} (hP : PA σ τ) (hS : PSt σ) (hB : NB σ vs) (hk : kd σ = 14 ∨ kd σ = 15) (kQ : ∀ s t z, PQ σ vs s t z → Q s t z) (kT : ∀ s t z, RTt σ vs s t z → T s t z) : ((0 ≤ (σ 0 10).toInt ∧ (σ 0 10).toInt < 16002) ∧ (∃ J301 : Int32 → Prop, (∀ (y0_301 : Int32), y0_301 = 0 ∨ y0_301 = 1 → J301 y0_301 → (wp_expect (27 : Int32) (upC σ 0 10 ((σ 0 10) + (1 : Int32))) τ vs (fun s315 t315 z315 => (∃ J331 : Int32 → Prop, (∀ (y1_331 : Int32), y1_331 = 0 ∨ y1_331 = 1 → J331 y1_331 → (wp_must y1_331 (σ 0 10) s315 t315 z315 (fun s332 t332 z332 => (∃ J353 : Int32 → Prop, (∀ (y2_353 : Int32), J353 y2_353 → (wp_put_1 (15 : Int32) y2_353 s332 t332 z332 (fun s353 t353 z353 => (y0_301.toInt = 0 → Q (upC s353 0 59 ((s353 0 17) - (1 : Int32))) t353 z353) ∧ (y0_301.toInt ≠ 0 → Q (upC s353 0 58 ((s353 0 17) - (1 : Int32))) t353 z353)))) ∧ (y0_301.toInt = 0 → J353 (s332 0 59)) ∧ (y0_301.toInt ≠ 0 → J353 (s332 0 58)))))) ∧ ((s315 0 57).toInt ≤ 0 → J331 (0 : Int32)) ∧ (0 < (s315 0 57).toInt → J331 (1 : Int32)))) T)) ∧ ((σ 2 (σ 0 10).toNatClampNeg).toInt ≠ 14 → J301 (0 : Int32)) ∧ ((σ 2 (σ 0 10).toNatClampNeg).toInt = 14 → J301 (1 : Int32)))) := by
  have h0 := hP.2.2.1.2.2.2.2.1
  have htk := at_tok hP.1 hP.2.1
  obtain ⟨rn, pn, wn, icn⟩ := rl_nxt (vs := vs) hP (by omega)
  have hPn := rn.2.1
  have h0n := hPn.2.2.1.2.2.2.2.1
  refine ⟨htk, fun _ => True, fun y0 hy0 _ => ?_, fun _ => trivial, fun _ => trivial⟩
  rw [show upC σ 0 10 ((σ 0 10) + (1 : Int32)) = nxt σ from rfl]
  refine sp_expect hPn (by decide) (fun hk1 ra pa wa ica => ?_) (fun s' hs => kT _ _ _ (rt_rtx (rt_of rn (by omega) hs)))
  have r1 := rl_tr rn ra
  have hP1 := ra.2.1
  have te1 : TE σ (nxt (nxt σ)) 501 0 0 := te_rl h0 rn ra (te_nxt h0 rn) (te_nxt h0n ra)
  have nc1 : NCt σ vs (nxt (nxt σ)) vs 80 := ⟨by omega, by omega, by omega⟩
  have pp : pos σ < pos (nxt (nxt σ)) := by omega
  generalize nxt (nxt σ) = s1 at *
  have h01 := hP1.2.2.1.2.2.2.2.1
  have hc1 := nb_cap (nct_nb hB (rs_rl r1) nc1 (by omega)) hP1
  refine ⟨fun y => y.toInt ≠ 0 → 0 < (s1 0 57).toInt, fun y1 _ hy1 => sp_must htk (fun s2 hs hf => ?_), fun _ => no0, fun c _ => c⟩
  have sq := sq_tl hs
  have w2 := sq_wc sq h01
  have rl2 := sq_rl (vs := vs) hP1 sq
  have sr2 : SRt s1 vs 0 0 s2 τ vs [] [] := sr_rl h01 rl2 (te_tl (N := 0) h01 hs) (by omega)
  have P2 := pos_sq sq
  have I2 := ic_sq sq
  have hP2 := rl2.2.1
  have lo2 : (s2 0 57) = (s1 0 57) := hs.1 0 57 rfl rfl
  have ok2 : (s2 0 12).toInt = 0 → (s2 0 15).toInt = 0 → 0 < (s1 0 57).toInt := fun f1 f2 => hy1 (hf f1 f2)
  have main : ∀ (p : Nat) (isB : Bool) (y2 : Int32), (isB = true → p = 58) → (isB = false → p = 59) → y2 = s2 0 p → ∀ s3, PU s2 s3 [15, y2] → Q (upC s3 0 p ((s3 0 17) - (1 : Int32))) τ vs := fun p isB y2 hp1 hp2 hy2 s3 p3 => by
    have hp : p = 58 ∨ p = 59 := by cases isB <;> simp_all
    have rl3 := rl_pu (vs := vs) (z := vs) hP2 p3 hP2.2.2.2.2 (fun _ h => h) (Nat.le_refl _)
    have W3 : (s3 0 17).toInt = (s2 0 17).toInt + 2 := p3.2.1
    have P3 := pos_sq (sq_pu p3)
    have I3 := ic_sq (sq_pu p3)
    have n2 : (wcn s2 : Int) = (s2 0 17).toInt := nt w2.1
    have n3 : (wcn s3 : Int) = (s3 0 17).toInt := nt (by omega)
    have eh : ((s3 0 17) - (1 : Int32)).toInt = ((wcn s2 + 1 : Nat) : Int) := by rw [sb1 (by omega)]; omega
    have rs4 : RSt s2 vs (upC s3 0 p ((s3 0 17) - (1 : Int32))) τ vs := rs_f (rs_rl rl3) (by omega)
    have e0 : ∀ j, j ≠ p → (upC s3 0 p ((s3 0 17) - (1 : Int32))) 0 j = s3 0 j := fun j hj => rdA_ne hj
    have ex : ∀ q, ((upC s3 0 p ((s3 0 17) - (1 : Int32))) 8) q = (s3 8) q := fun _ => rfl
    have ep : (upC s3 0 p ((s3 0 17) - (1 : Int32))) 0 p = (s3 0 17) - (1 : Int32) := rdA_eq rfl
    have ew : ((upC s3 0 p ((s3 0 17) - (1 : Int32))) 0 17) = (s3 0 17) := e0 17 (by omega)
    have wn4 : wcn (upC s3 0 p ((s3 0 17) - (1 : Int32))) = wcn s3 := by unfold wcn; rw [ew]
    have hw0 : (s3 8) (wcn s2) = 15 := p3.2.2.2 0 _ rfl
    have hw1 : (s3 8) (wcn s2 + 1) = y2 := p3.2.2.2 1 _ rfl
    have newC : ∀ A : List Nat, (∀ b ∈ A, b < wcn s2) → Ch (s2 8) (s2 0 p).toInt A → Ch ((upC s3 0 p ((s3 0 17) - (1 : Int32))) 8) (upC s3 0 p ((s3 0 17) - (1 : Int32)) 0 p).toInt ((wcn s2 + 1) :: A) := fun A hA hC => by
      rw [ep]
      refine ⟨eh, fun c hc => by have := hA c hc; omega, ?_⟩
      show Ch (s3 8) ((s3 8) (wcn s2 + 1)).toInt A
      rw [hw1, hy2]
      exact ch_w (fun b hb => p3.2.2.1 b (by have := hA b hb; omega)) hC
    have oldC : ∀ q, q ≠ p → q ≠ 17 → ∀ A : List Nat, (∀ b ∈ A, b < wcn s2) → Ch (s2 8) (s2 0 q).toInt A → Ch ((upC s3 0 p ((s3 0 17) - (1 : Int32))) 8) (upC s3 0 p ((s3 0 17) - (1 : Int32)) 0 q).toInt A := fun q hq hq2 A hA hC => by
      rw [e0 q hq]
      have e9 : s3 0 q = s2 0 q := p3.1 0 q (by
        show ([(0, 17)] : List (Nat × Nat)).contains (0, q) = false
        rw [List.contains_cons, List.contains_nil, Bool.or_false]
        exact beq_eq_false_iff_ne.mpr (fun e => hq2 (by cases e; rfl))) rfl
      rw [e9]
      exact ch_w (fun b hb => p3.2.2.1 b (by have := hA b hb; omega)) hC
    have tst : ∀ B G : List Nat, (∀ b, b ∈ B ++ G ↔ b = wcn s2 + 1) → TSt s2 (upC s3 0 p ((s3 0 17) - (1 : Int32))) 0 0 B G := fun B G hBG g X E0 L hT hf9 hs9 => by
      obtain ⟨g1, t1, x1, a1, b1⟩ := ty_hole2 (H' := 0) (L' := L) hT w2.1 p3 rfl
      have t2 := ty_rs t1 (by omega) (rs_f (rs_rf (vs := vs) rl3.2.1) (by omega) : RSt s3 vs (upC s3 0 p ((s3 0 17) - (1 : Int32))) τ vs) ew
      refine ⟨g1, ty_X t2 (fun q hq => hq.imp id (fun e => (hBG _).mpr (by omega))), x1, fun b hb => ?_⟩
      refine ⟨wcn s2, L, (hBG b).mp hb, a1, Nat.le_refl _, b1, hw0, ?_⟩
      have : wcn s2 + 2 = wcn s3 := by omega
      rw [this, t1.2.1]
      exact fun c => by cases c
    have rwr : wcn s2 < wcn s2 + 1 ∧ wcn s2 + 1 < wcn (upC s3 0 p ((s3 0 17) - (1 : Int32))) := by rw [wn4]; omega
    have eLp : ((upC s3 0 p ((s3 0 17) - (1 : Int32))) 0 57) = (s2 0 57) := (e0 57 (by omega)).trans (p3.1 0 57 rfl rfl)
    have empt : ∀ {B G : List Nat}, ((upC s3 0 p ((s3 0 17) - (1 : Int32))) 0 12).toInt = 0 → ((upC s3 0 p ((s3 0 17) - (1 : Int32))) 0 15).toInt = 0 → (s2 0 57).toInt ≤ 0 → B = [] ∧ G = [] := fun {B G} f1 f2 f3 => by
      rw [e0 12 (by omega)] at f1
      rw [e0 15 (by omega)] at f2
      have e12 : (s3 0 12) = (s2 0 12) := p3.1 0 12 rfl rfl
      have e15 : (s3 0 15) = (s2 0 15) := p3.1 0 15 rfl rfl
      rw [e12] at f1
      rw [e15] at f2
      have := ok2 f1 f2
      rw [lo2] at f3
      omega
    have sr4 : ∃ B G, SRt s2 vs 0 0 (upC s3 0 p ((s3 0 17) - (1 : Int32))) τ vs B G := by
      rcases hp with hp | hp
      · subst hp
        refine ⟨[wcn s2 + 1], [], rs4, ⟨fun b hb => ?_, fun b hb => absurd hb List.not_mem_nil, fun b _ => List.not_mem_nil, fun A hA hC => newC A hA hC, fun A hA hC => oldC 59 (by decide) (by decide) A hA hC⟩, tst _ _ (fun b => by simp), eLp, fun f1 f2 f3 => empt f1 f2 f3⟩
        rw [List.mem_singleton.mp hb]; exact rwr
      · subst hp
        refine ⟨[], [wcn s2 + 1], rs4, ⟨fun b hb => absurd hb List.not_mem_nil, fun b hb => ?_, fun b hb => absurd hb List.not_mem_nil, fun A hA hC => oldC 58 (by decide) (by decide) A hA hC, fun A hA hC => newC A hA hC⟩, tst _ _ (fun b => by simp), eLp, fun f1 f2 f3 => empt f1 f2 f3⟩
        rw [List.mem_singleton.mp hb]; exact rwr
    obtain ⟨B, G, sr4⟩ := sr4
    have srF := sr_tr h0 (sr_rl h0 r1 te1 (by omega)) (sr_tr h01 sr2 sr4)
    have P4 : pos (upC s3 0 p ((s3 0 17) - (1 : Int32))) = pos s1 := by
      have e1 : (upC s3 0 p ((s3 0 17) - (1 : Int32))) 0 10 = s3 0 10 := e0 10 (by omega)
      unfold pos
      rw [e1]
      show ((s3 3) (s3 0 10).toNatClampNeg).toInt = _
      have := P3.trans P2
      unfold pos at this
      exact this
    obtain ⟨m1, m2, m3⟩ := nc1
    refine kQ _ _ _ ⟨_, _, srF, ⟨?_, ?_, ?_⟩, by rw [P4]; exact pp⟩
    · rw [P4, ew]; omega
    · rw [P4, e0 39 (by omega), I3, I2]; exact m2
    · rw [P4]; exact m3
  refine ⟨fun y2 => (y0.toInt = 0 → y2 = s2 0 59) ∧ (y0.toInt ≠ 0 → y2 = s2 0 58), fun y2 ⟨ha, hb⟩ => ?_, fun c => ⟨fun _ => rfl, fun q => absurd c q⟩, fun c => ⟨fun q => absurd q c, fun _ => rfl⟩⟩
  by_cases c : y0.toInt = 0
  · exact sp_put_1 w2.1 (by omega) (fun s3 p3 => ⟨fun _ => main 59 false y2 (fun e => by cases e) (fun _ => rfl) (ha c) s3 p3, fun q => absurd c q⟩)
  · exact sp_put_1 w2.1 (by omega) (fun s3 p3 => ⟨fun q => absurd q c, fun _ => main 58 true y2 (fun _ => rfl) (fun e => by cases e) (hb c) s3 p3⟩)
end STT
end

section
/-! the statements' group -/
section STI
variable {σ s s' τ t t' : St} {vs z z' : List Nat}
theorem sp_statement {k1 k2 k3 : KZ} {k4 : KL} {k5 k6 : Int32 → KZ} {d : Int} (hI : d ≤ 25 → SS k2 d) (hBl : d ≤ 25 → SS k3 d) (hL : d ≤ 25 → SSl k4 d) (hD : d ≤ 25 → SSd k5 d 12) (hF : d ≤ 25 → SSd k6 d 13) : SS (wp_statement k1 k2 k3 k4 k5 k6) d := by
  intro a σ τ vs Q T had hP hS hB kQ kT
  unfold wp_statement
  have h0 := hP.2.2.1.2.2.2.2.1
  have htk := at_tok hP.1 hP.2.1
  refine ⟨fun hd => ⟨htk, True, fun _ => ?_, kd σ = 14 ∨ kd σ = 15, fun hj => sp_jump hP hS hB hj kQ kT, fun c => ?_, fun _ => ?_⟩, fun _ => sp_wrong hP (fun s' hs => kT _ _ _ (rt_rtx hs))⟩
  · -- a block, an expression, none
    refine sp_is hP (fun hk => ⟨no1, fun _ => ?_⟩) (fun hk => ⟨fun _ => ?_, no0⟩)
    · exact hBl (by omega) a σ τ vs _ T had hP hS hB kQ kT
    · have fin : ∀ s t z, RL σ vs s t z ∧ NCt σ vs s z 0 ∧ TE σ s 501 0 0 → wp_expect (27 : Int32) s t z (fun s427 t427 z427 => Q s427 t427 z427) T := fun s t z ⟨r, nc, te⟩ => by
        refine sp_expect r.2.1 (by decide) (fun hk2 ro po wo ico => ?_) (fun s' hs => kT _ _ _ (rt_rtx (rt_of r nc.2.2 hs)))
        have h0s := r.2.1.2.2.1.2.2.2.2.1
        obtain ⟨m1, m2, m3⟩ := nc
        have mp := r.2.2.2.2.2.2.2.1
        exact kQ _ _ _ ⟨[], [], sr_rl h0 (rl_tr r ro) (te_rl h0 r ro te (te_nxt h0s ro)) (by omega), ⟨by omega, by omega, by omega⟩, by omega⟩
      refine sp_is hP (fun hk2 => ⟨fun s t z => RL σ vs s t z ∧ NCt σ vs s z 0 ∧ TE σ s 501 0 0, fin, fun _ => ⟨rl_rf hP, nct_rf, te_rf⟩, no1⟩) (fun hk2 => ⟨fun s t z => RL σ vs s t z ∧ NCt σ vs s z 0 ∧ TE σ s 501 0 0, fin, no0, fun _ => sp_plain hP hB (fun s t z r nc p te => ⟨r, nct_le nc (by omega), te⟩) (fun s' t' z' hs => kT _ _ _ (rt_rtx hs))⟩)
  · -- int
    have hk : kd σ = 5 := c
    obtain ⟨rn, pn, wn, icn⟩ := rl_nxt (vs := vs) hP (by omega)
    have hBn : NB (nxt σ) vs := nb_of hB rn (by omega) (by omega) (by omega)
    show wp_variables _ _ _ (nxt σ) τ vs _ T
    refine sp_variablesL rn.2.1 (ps_rs hS (rs_rl rn)) hBn (by decide) (fun s t z sr nc p => kQ _ _ _ (pq_pre (c := 40) h0 rn (te_nxt h0 rn) ⟨by omega, by omega, by omega⟩ (by omega) ⟨[], [], sr, nc, p⟩)) (fun s' t' z' hs => kT _ _ _ (rt_rs (rs_rl rn) (by omega) hs))
  · refine ⟨fun _ => trivial, fun _ => ⟨fun _ => trivial, fun _ => ⟨fun _ => trivial, fun _ => ⟨fun c => ?_, fun _ => ⟨fun _ => trivial, fun _ => ⟨fun c => ?_, fun _ => ⟨fun c => ?_, fun _ => ⟨fun c => ?_, fun _ => ⟨fun c => Or.inl c, fun _ => ⟨fun c => Or.inr c, fun _ => ⟨fun c => ?_, fun _ => trivial⟩⟩⟩⟩⟩⟩⟩⟩⟩⟩⟩
    · exact sp_ifS (hI (by omega)) had hP hS hB c kQ kT
    · exact sp_while (hL (by omega)) had hP hS hB c kQ kT
    · exact hD (by omega) a _ σ τ vs _ T had hP hS hB htk c kQ kT
    · exact hF (by omega) a _ σ τ vs _ T had hP hS hB htk c kQ kT
    · exact sp_return hP hS hB htk c (fun s t z sr nc p => kQ _ _ _ ⟨[], [], sr, nc, p⟩) (fun s' t' z' hs => kT _ _ _ (rt_rtx hs))
end STI
/-- at so much fuel -/
def SFu (n : Nat) : Prop := ∀ d : Int, 0 ≤ d → d ≤ 26 →
  (4 + 4 * (26 - d) < n → SS (KKS n).1 d) ∧
  (d ≤ 25 → 1 + 4 * (26 - d) < n → SS (KKS n).2.1 d) ∧
  (d ≤ 25 → 1 + 4 * (26 - d) < n → SS (KKS n).2.2.1 d) ∧
  (d ≤ 25 → 2 + 4 * (26 - d) < n → SSl (KKS n).2.2.2.1 d) ∧
  (d ≤ 25 → 3 + 4 * (26 - d) < n → SSd (KKS n).2.2.2.2.1 d 12) ∧
  (d ≤ 25 → 3 + 4 * (26 - d) < n → SSd (KKS n).2.2.2.2.2 d 13)
theorem sf_all (n : Nat) : SFu n := by
  induction n with
  | zero =>
    intro d h1 h2
    refine ⟨fun h => ?_, fun _ h => ?_, fun _ h => ?_, fun _ h => ?_, fun _ h => ?_, fun _ h => ?_⟩
    all_goals omega
  | succ n ih =>
    intro d h1 h2
    obtain ⟨g1, g2, g3, g4, g5, g6⟩ := ih d h1 h2
    have up : d ≤ 25 → 4 + 4 * (25 - d) < (n : Int) → SS (KKS n).1 (d + 1) := fun h h' => (ih (d + 1) (by omega) (by omega)).1 (by omega)
    refine ⟨fun h => ?_, fun hd h => ?_, fun hd h => ?_, fun hd h => ?_, fun hd h => ?_, fun hd h => ?_⟩
    · show SS (wp_statement ((KKS n).1) ((KKS n).2.1) ((KKS n).2.2.1) ((KKS n).2.2.2.1) ((KKS n).2.2.2.2.1) ((KKS n).2.2.2.2.2)) d
      exact sp_statement (fun hd => g2 hd (by omega)) (fun hd => g3 hd (by omega)) (fun hd => g4 hd (by omega)) (fun hd => g5 hd (by omega)) (fun hd => g6 hd (by omega))
    · show SS (wp_inner ((KKS n).1) ((KKS n).2.1) ((KKS n).2.2.1) ((KKS n).2.2.2.1) ((KKS n).2.2.2.2.1) ((KKS n).2.2.2.2.2)) d
      exact sp_inner ⟨h1, hd⟩ (up hd (by omega))
    · show SS (wp_block ((KKS n).1) ((KKS n).2.1) ((KKS n).2.2.1) ((KKS n).2.2.2.1) ((KKS n).2.2.2.2.1) ((KKS n).2.2.2.2.2)) d
      exact sp_block ⟨h1, hd⟩ (up hd (by omega))
    · show SSl (wp_loop ((KKS n).1) ((KKS n).2.1) ((KKS n).2.2.1) ((KKS n).2.2.2.1) ((KKS n).2.2.2.2.1) ((KKS n).2.2.2.2.2)) d
      exact sp_loop (g2 hd (by omega))
    · show SSd (wp_doStatement ((KKS n).1) ((KKS n).2.1) ((KKS n).2.2.1) ((KKS n).2.2.2.1) ((KKS n).2.2.2.2.1) ((KKS n).2.2.2.2.2)) d 12
      exact sp_do (g4 hd (by omega))
    · show SSd (wp_forStatement ((KKS n).1) ((KKS n).2.1) ((KKS n).2.2.1) ((KKS n).2.2.2.1) ((KKS n).2.2.2.2.1) ((KKS n).2.2.2.2.2)) d 13
      exact sp_for (g4 hd (by omega))
/-- a statement of a function's outermost block -/
theorem ss_stmt : SS wpS_statement 1 := (sf_all 120 1 (by omega) (by omega)).1 (by omega)
end

section
/-! a unit: what holds outside of functions -/
abbrev KU (σ s : St) : Prop := Kp [(0, 10), (0, 12), (0, 13), (0, 14), (0, 17), (0, 37), (0, 39), (0, 49), (0, 53), (0, 54), (0, 57), (0, 58), (0, 59), (0, 60), (0, 36), (0, 31), (0, 45), (0, 64), (0, 65), (0, 55), (0, 56)] [8, 25, 33, 14, 21, 34, 35, 36, 31, 32, 9, 10, 11, 12, 13, 15, 16, 17, 18, 19, 20, 26, 27, 28, 29, 30, 54, 37, 38, 39] σ s
/-- what is known of a name stays -/
def UE (σ s : St) : Prop := (∀ e : Nat, (e : Int) < (σ 0 36).toInt → (s 9) e = (σ 9) e ∧ (s 10) e = (σ 10) e ∧ (s 15) e = (σ 15) e ∧ (s 12) e = (σ 12) e ∧ ((σ 14) e ≠ 0 → (s 14) e ≠ 0)) ∧ (∀ n : Nat, (n : Int) < (σ 0 36).toInt - Fi σ → 0 ≤ ((σ 21) n).toInt → 0 ≤ ((s 21) n).toInt) ∧ (∀ e : Nat, (e : Int) < Fi σ → (s 13) e = (σ 13) e ∧ (s 17) e = (σ 17) e)
def UB (σ s : St) : Prop := ∀ b : Nat, (b : Int) < (σ 0 45).toInt → (s 26) b = (σ 26) b ∧ (s 27) b = (σ 27) b ∧ (s 28) b = (σ 28) b ∧ (s 29) b = (σ 29) b ∧ (s 30) b = (σ 30) b ∧ (s 54) b = (σ 54) b
def UR (σ : St) (vs : List Nat) (s t : St) (z : List Nat) : Prop := KU σ s ∧ PA s t ∧ RW σ s ∧ OF σ s ∧ ((σ 0 17).toInt ≤ (s 0 17).toInt ∧ (σ 0 39).toInt ≤ (s 0 39).toInt ∧ pos σ ≤ pos s ∧ (σ 0 36).toInt ≤ (s 0 36).toInt ∧ (σ 0 45).toInt ≤ (s 0 45).toInt ∧ (σ 0 37).toInt ≤ (s 0 37).toInt) ∧ (∀ u ∈ vs, u ∈ z) ∧ vs.length ≤ z.length ∧ (∀ j : Nat, (j : Int) < (σ 0 39).toInt → (s 25) j = (σ 25) j) ∧ UE σ s ∧ UB σ s
def UT (σ : St) (vs : List Nat) (s t : St) (z : List Nat) : Prop := (∃ s0, UR σ vs s0 t z ∧ s = upC s0 0 15 (s 0 15)) ∧ (z.length : Int) ≤ vs.length + 2 * ((σ 0 9).toInt - pos σ)
/-- a row of a body: where a local's cells lie -/
def RowOK (w : Nat → Int32) (r : Nat) (fc : Int) : Prop := (0 ≤ (w r).toInt → (w r).toInt < fc) ∧ (0 < (w (r + 1)).toInt → 0 ≤ (w r).toInt ∧ (w r).toInt + (w (r + 1)).toInt ≤ fc)
/-- a body that is done -/
def BT (σ : St) (b : Nat) (vd : Prop) (C : Int → Nat → Nat → Prop) : Prop := ∃ (g : Gh) (E0 R nl : Nat), ((σ 26) b).toInt = E0 ∧ ((σ 29) b).toInt = R ∧ ((σ 28) b).toInt = nl ∧ E0 < R ∧ ((R + 2 * nl : Nat) : Int) ≤ (σ 0 17).toInt ∧ nl ≤ 100 ∧ (0 ≤ ((σ 30) b).toInt ∧ ((σ 30) b).toInt ≤ 1000000) ∧ (0 ≤ ((σ 54) b).toInt ∧ ((σ 54) b).toInt ≤ nl) ∧ (∃ k, g E0 = some (0, k)) ∧ (∀ q h k, g q = some (h, k) → (E0 ≤ q ∧ q < R) ∧ OPw (σ 8) g nl vd C q h k) ∧ ∀ k, k < nl → RowOK (σ 8) (R + 2 * k) ((σ 30) b).toInt
def BodyOK (σ : St) (e : Nat) : Prop := ∃ b : Nat, ((σ 17) e).toInt = b ∧ (b : Int) < (σ 0 45).toInt ∧ (σ 54) b = (σ 15) e ∧ (σ 27) b = (σ 0 35) ∧ BT σ b (((σ 10) e).toInt = -1) (CO σ)
def GOODu (σ : St) (f : Int) : Prop := ITd σ f (σ 0 37).toInt ∧ ∀ e : Nat, Fi σ ≤ (e : Int) → (e : Int) < (σ 0 36).toInt → ((σ 9) e).toInt = 2 → (σ 13) e ≠ 0 → BodyOK σ e
section UNI
variable {σ s s' τ t t' : St} {vs z z' : List Nat}
theorem ue_rf : UE σ σ := ⟨fun _ _ => ⟨rfl, rfl, rfl, rfl, fun h => h⟩, fun _ _ h => h, fun _ _ => ⟨rfl, rfl⟩⟩
theorem ub_rf : UB σ σ := fun _ _ => ⟨rfl, rfl, rfl, rfl, rfl, rfl⟩
theorem ur_rf (h : PA σ τ) : UR σ vs σ τ vs := ⟨kp_rf, h, fun _ _ => rfl, of_rf, ⟨Int.le_refl _, Int.le_refl _, Int.le_refl _, Int.le_refl _, Int.le_refl _, Int.le_refl _⟩, fun _ h => h, Nat.le_refl _, fun _ _ => rfl, ue_rf, ub_rf⟩
theorem ku_Fi (k : KU σ s) : Fi s = Fi σ := by
  have f1 : (s 0 35) = (σ 0 35) := k _ _ rfl rfl
  have e22 : (s 22) = (σ 22) := funext (fun j => k 22 j rfl rfl)
  unfold Fi
  rw [f1, e22]
theorem ur_tr {s' t' : St} {z' : List Nat} (h : UR σ vs s t z) (g : UR s z s' t' z') : UR σ vs s' t' z' := by
  obtain ⟨h1, h2, h3, h4, ⟨m1, m2, m3, m4, m5, m6⟩, h6, h7, h8, ⟨u1, u2, u3⟩, h10⟩ := h
  obtain ⟨g1, g2, g3, g4, ⟨n1, n2, n3, n4, n5, n6⟩, g6, g7, g8, ⟨v1, v2, v3⟩, g10⟩ := g
  have eF := ku_Fi h1
  refine ⟨kp_tr h1 g1, g2, fun j hj => (g3 j (by omega)).trans (h3 j hj), of_tr h4 g4, ⟨by omega, by omega, by omega, by omega, by omega, by omega⟩, fun u hu => g6 u (h6 u hu), by omega, fun j hj => (g8 j (by omega)).trans (h8 j hj), ⟨fun e he => ?_, fun n hn q => v2 n (by rw [eF]; omega) (u2 n hn q), fun e he => ?_⟩, fun b hb => ?_⟩
  · obtain ⟨a1, a2, a3, a4, a5⟩ := u1 e he
    obtain ⟨b1, b2, b3, b4, b5⟩ := v1 e (by omega)
    exact ⟨b1.trans a1, b2.trans a2, b3.trans a3, b4.trans a4, fun q => b5 (a5 q)⟩
  · obtain ⟨a1, a2⟩ := u3 e he
    obtain ⟨b1, b2⟩ := v3 e (by rw [eF]; exact he)
    exact ⟨b1.trans a1, b2.trans a2⟩
  · obtain ⟨a1, a2, a3, a4, a5, a6⟩ := h10 b hb
    obtain ⟨b1, b2, b3, b4, b5, b6⟩ := g10 b (by omega)
    exact ⟨b1.trans a1, b2.trans a2, b3.trans a3, b4.trans a4, b5.trans a5, b6.trans a6⟩
theorem ur_rs (r : RSt σ vs s t z) : UR σ vs s t z := by
  obtain ⟨h1, h2, h3, h4, h5, h6, h7, h8, h9, h10, h11, h12⟩ := r
  have f2 : (s 0 36) = (σ 0 36) := h1 _ _ rfl rfl
  have f3 : (s 0 45) = (σ 0 45) := h1 _ _ rfl rfl
  refine ⟨kp_sub h1 rfl rfl, h2, h3, h5, ⟨h6, h7, h8, by rw [f2]; exact Int.le_refl _, by rw [f3]; exact Int.le_refl _, h11.1⟩, h9, h10, h11.2.2.2, ⟨fun e _ => ⟨h1 9 e rfl rfl, h1 10 e rfl rfl, h1 15 e rfl rfl, h1 12 e rfl rfl, h4.1 e⟩, fun n _ => h4.2 n, fun e _ => ⟨h1 13 e rfl rfl, h1 17 e rfl rfl⟩⟩, fun b _ => ⟨h1 26 b rfl rfl, h1 27 b rfl rfl, h1 28 b rfl rfl, h1 29 b rfl rfl, h1 30 b rfl rfl, h1 54 b rfl rfl⟩⟩
theorem ur_sz (r : UR σ vs s t z) : (s 0 9).toInt = (σ 0 9).toInt := by rw [r.1 0 9 rfl rfl]
theorem ur_sil (r : UR σ vs s t z) : (s 0 15) = (σ 0 15) := r.1 0 15 rfl rfl
theorem ut_rt (g : RTt σ vs s t z) : UT σ vs s t z := by
  obtain ⟨⟨s0, g1, g2⟩, g3⟩ := g
  exact ⟨⟨s0, ur_rs g1, g2⟩, g3⟩
theorem ut_ur (r : UR σ vs s t z) (hz : (z.length : Int) ≤ vs.length + 2 * (pos s - pos σ)) (g : UT s z s' t' z') : UT σ vs s' t' z' := by
  obtain ⟨⟨s0, g1, g2⟩, g3⟩ := g
  refine ⟨⟨s0, ur_tr r g1, g2⟩, ?_⟩
  rw [ur_sz r] at g3
  omega
theorem co_ur (r : UR σ vs s t z) {n : Int} {h h' : Nat} (c : CO σ n h h') : CO s n h h' := by
  have eF := ku_Fi r.1
  obtain ⟨h1, h2, h3, h4, ⟨m1, m2, m3, m4, m5, m6⟩, h6, h7, h8, ⟨u1, u2, u3⟩, h10⟩ := r
  obtain ⟨c1, c2, e, c3, c4, c5, c6, c7, c8⟩ := c
  obtain ⟨a1, a2, a3, a4, a5⟩ := u1 e (by omega)
  exact ⟨c1, by rw [eF]; omega, e, by rw [eF]; exact c3, by rw [a1]; exact c4, a5 c5, u2 _ (by omega) c6, by rw [a3]; exact c7, by rw [a3, a2]; exact c8⟩
/-- a finished body stays so -/
theorem bt_ur {b : Nat} {vd : Prop} {C C' : Int → Nat → Nat → Prop} (hb : (b : Int) < (σ 0 45).toInt) (hw : RW σ s) (hm : (σ 0 17).toInt ≤ (s 0 17).toInt) (hu : UB σ s) (hC : ∀ n h h', C n h h' → C' n h h') (h : BT σ b vd C) : BT s b vd C' := by
  obtain ⟨g, E0, R, nl, h1, h2, h3, h4, h5, h6, h7, h8, h9, h10, h11⟩ := h
  obtain ⟨u1, u2, u3, u4, u5, u6⟩ := hu b hb
  refine ⟨g, E0, R, nl, by rw [u1]; exact h1, by rw [u4]; exact h2, by rw [u3]; exact h3, h4, by omega, h6, by rw [u5]; exact h7, by rw [u6]; exact h8, h9, fun q hh k hq => ?_, fun k hk => ?_⟩
  · obtain ⟨⟨a1, a2⟩, a3, a4⟩ := h10 q hh k hq
    refine ⟨⟨a1, a2⟩, by rw [hw q (by omega)]; exact a3, ?_⟩
    rw [hw q (by omega)]
    refine opn_mono (fun _ _ h => h) ?_ (Int.le_refl _) Iff.rfl hC a4
    by_cases c : q + 1 < R
    · exact Or.inr (by rw [hw _ (by omega)])
    · refine Or.inl (fun p hp => ?_)
      cases e : g p with
      | none => rfl
      | some v =>
        obtain ⟨v1, v2⟩ := v
        have := (h10 p v1 v2 e).1
        omega
  · have := h11 k hk
    unfold RowOK at *
    rw [hw _ (by omega), hw _ (by omega), u5]
    exact this
theorem bodyok_ur {e : Nat} (r : UR σ vs s t z) (he : (e : Int) < (σ 0 36).toInt) (hw : (s 17) e = (σ 17) e) (h : BodyOK σ e) : BodyOK s e := by
  obtain ⟨b, h1, h2, h3, h4, h5⟩ := h
  have hr := r
  obtain ⟨g1, g2, g3, g4, ⟨m1, m2, m3, m4, m5, m6⟩, g6, g7, g8, ⟨u1, u2, u3⟩, g10⟩ := hr
  obtain ⟨a1, a2, a3, a4, a5⟩ := u1 e he
  obtain ⟨b1, b2, b3, b4, b5, b6⟩ := g10 b h2
  have eo : (s 0 35) = (σ 0 35) := g1 _ _ rfl rfl
  refine ⟨b, by rw [hw]; exact h1, by omega, by rw [b6, a3]; exact h3, by rw [b2, eo]; exact h4, ?_⟩
  rw [a2]
  exact bt_ur h2 g3 m1 g10 (fun n h h' c => co_ur r c) h5
theorem good_ur {f : Int} (r : UR σ vs s t z) (hi : ITd σ f (σ 0 37).toInt → ITd s f (s 0 37).toInt) (hd : ∀ e : Nat, Fi σ ≤ (e : Int) → (e : Int) < (s 0 36).toInt → ((s 9) e).toInt = 2 → (s 13) e ≠ 0 → ((e : Int) < (σ 0 36).toInt ∧ (σ 13) e ≠ 0 ∧ (s 17) e = (σ 17) e) ∨ BodyOK s e) (h : GOODu σ f) : GOODu s f := by
  refine ⟨hi h.1, fun e e1 e2 e3 e4 => ?_⟩
  rw [ku_Fi r.1] at e1
  rcases hd e e1 e2 e3 e4 with ⟨c1, c2, c3⟩ | c
  · have hs := (r.2.2.2.2.2.2.2.2.1.1 e c1).1
    rw [hs] at e3
    exact bodyok_ur r c1 c3 (h.2 e e1 c1 e3 c2)
  · exact c
theorem good_rs {f : Int} (r : RSt σ vs s t z) (h : GOODu σ f) : GOODu s f := by
  have f2 : (s 0 36) = (σ 0 36) := r.1 _ _ rfl rfl
  refine good_ur (ur_rs r) (r.2.2.2.2.2.2.2.2.2.2.1.2.1 f) (fun e e1 e2 e3 e4 => Or.inl ⟨by rw [← f2]; exact e2, ?_, r.1 17 e rfl rfl⟩) h
  have e9 : (s 13) e = (σ 13) e := r.1 13 e rfl rfl
  rw [← e9]; exact e4
end UNI
end

section
/-! initials outside of functions -/
section GIN
variable {σ s s' τ t t' : St} {vs z z' : List Nat}
/-- as RL, but what data begin with is said apart -/
def RG (σ : St) (vs : List Nat) (s t : St) (z : List Nat) : Prop := KE σ s ∧ UR σ vs s t z
theorem rg_rl (r : RL σ vs s t z) : RG σ vs s t z := ⟨r.1, ur_rs (rs_rl r)⟩
theorem rg_tr (h : RG σ vs s t z) (g : RG s z s' t' z') : RG σ vs s' t' z' := ⟨kp_tr h.1 g.1, ur_tr h.2 g.2⟩
theorem rg_nb {c : Int} (h : NB σ vs) (r : RG σ vs s t z) (n : NCt σ vs s z c) (hc : 0 ≤ c) : NB s z := by
  obtain ⟨h1, h2, h3⟩ := h
  obtain ⟨n1, n2, n3⟩ := n
  have e := ur_sz r.2
  unfold NB
  rw [e]
  exact ⟨by omega, by omega, by omega⟩
def ITp (σ s : St) : Prop := ∀ f, ITd σ f (σ 0 37).toInt → ITd s f (s 0 37).toInt
/-- the words back, a row of inits -/
theorem rg_w (h0 : 0 ≤ (σ 0 17).toInt) (r : RL σ vs s t z) : RG σ vs (upC s 0 17 (σ 0 17)) t z ∧ ITp σ (upC s 0 17 (σ 0 17)) := by
  obtain ⟨g1, g2, g3, g4, g5, g6, g7, g8, g9, g10, g11⟩ := r
  obtain ⟨p1, p2, ⟨m1, m2, m3, m4, m5, m6, m7⟩, pa, p5⟩ := g2
  have k : KE σ (upC s 0 17 (σ 0 17)) := kp_f g1 rfl
  have f2 : (s 0 36) = (σ 0 36) := g1 _ _ rfl rfl
  have f3 : (s 0 45) = (σ 0 45) := g1 _ _ rfl rfl
  have hw : ((upC s 0 17 (σ 0 17)) 0 17).toInt = (σ 0 17).toInt := by rw [rdA_eq rfl]
  refine ⟨⟨k, kp_sub k rfl rfl, ⟨tk_kp (fs := [(0, 17)]) (cs := []) (kp_f kp_rf rfl) rfl rfl ⟨rfl, rfl, rfl, rfl, rfl⟩ rfl p1, p2, ⟨m1, m2, m3, m4, ?_, m6, m7⟩, pa, p5⟩, g3, g5, ⟨by rw [hw]; exact Int.le_refl _, g7, g8, ?_, ?_, g11.1⟩, g9, g10, g11.2.2.2, ⟨fun e _ => ⟨g1 9 e rfl rfl, g1 10 e rfl rfl, g1 15 e rfl rfl, g1 12 e rfl rfl, g4.1 e⟩, fun n _ => g4.2 n, fun e _ => ⟨g1 13 e rfl rfl, g1 17 e rfl rfl⟩⟩, fun b _ => ⟨g1 26 b rfl rfl, g1 27 b rfl rfl, g1 28 b rfl rfl, g1 29 b rfl rfl, g1 30 b rfl rfl, g1 54 b rfl rfl⟩⟩, g11.2.1⟩
  · rw [hw]
    exact h0
  · show (σ 0 36).toInt ≤ (s 0 36).toInt
    rw [f2]; exact Int.le_refl _
  · show (σ 0 45).toInt ≤ (s 0 45).toInt
    rw [f3]; exact Int.le_refl _
theorem rg_in {c b : Int32} (h : PA σ τ) (p : INx σ s c b) : RG σ vs s τ vs ∧ (0 ≤ c.toInt → c.toInt < (σ 0 37).toInt → b.toInt ≤ 100 → ITp σ s) ∧ pos s = pos σ ∧ (s 0 17) = (σ 0 17) := by
  obtain ⟨p1, p2, p3, p4, p5⟩ := p
  have h9 := h
  obtain ⟨h1, h2, ⟨n1, n2, n3, n4, n5, n6, n7⟩, ⟨-, -, a3, -⟩, h5⟩ := h9
  have k : KE σ s := kp_sub p1 rfl rfl
  have e1 : (s 0 10) = (σ 0 10) := p1 _ _ rfl rfl
  have e2 : (s 0 8) = (σ 0 8) := p1 _ _ rfl rfl
  have e3 : (s 0 37) = (σ 0 37) := p1 _ _ rfl rfl
  have e4 : (s 0 17) = (σ 0 17) := p1 _ _ rfl rfl
  have e5 : (s 21) = (σ 21) := funext (fun j => p1 21 j rfl rfl)
  have e6 : (s 3) = (σ 3) := funext (fun j => p1 3 j rfl rfl)
  have e7 : (s 14) = (σ 14) := funext (fun j => p1 14 j rfl rfl)
  have e8 : (s 0 12) = (σ 0 12) := p1 _ _ rfl rfl
  have f2 : (s 0 36) = (σ 0 36) := p1 _ _ rfl rfl
  have f3 : (s 0 45) = (σ 0 45) := p1 _ _ rfl rfl
  have eP : pos s = pos σ := by unfold pos; rw [e1, e6]
  refine ⟨⟨k, kp_sub k rfl rfl, pa_ke h k (by unfold AtOK; rw [e1, e2]; exact h2) (by rw [e3]; exact n4) (by rw [e4]; exact n5) (by omega) (by rw [e5]; exact a3) h5, fun j _ => p1 8 j rfl rfl, of_eq e8, ⟨by rw [e4]; exact Int.le_refl _, p2, by rw [eP]; exact Int.le_refl _, by rw [f2]; exact Int.le_refl _, by rw [f3]; exact Int.le_refl _, by rw [e3]; exact Int.le_refl _⟩, fun _ h => h, Nat.le_refl _, p5, ⟨fun e _ => ⟨p1 9 e rfl rfl, p1 10 e rfl rfl, p1 15 e rfl rfl, p1 12 e rfl rfl, fun q => by rw [e7]; exact q⟩, fun n _ q => by rw [e5]; exact q, fun e _ => ⟨p1 13 e rfl rfl, p1 17 e rfl rfl⟩⟩, fun b _ => ⟨p1 26 b rfl rfl, p1 27 b rfl rfl, p1 28 b rfl rfl, p1 29 b rfl rfl, p1 30 b rfl rfl, p1 54 b rfl rfl⟩⟩, fun c1 c2 c3 f hI => ?_, eP, e4⟩
  rw [e3]
  exact p4 f _ hI c1 c2 c3
theorem itp_tr (h : ITp σ s) (g : ITp s s') : ITp σ s' := fun f q => g f (h f q)
theorem sp_isInitial {u : Nat} {ty : Int32} {Q : Int32 → Prop} (hu : u ∈ vs) (h1 : Q 1) (h0 : Q 0) : wp_isInitial u ty σ τ vs Q := by
  unfold wp_isInitial
  exact ⟨fun _ => ⟨hu, fun _ => h1, fun _ => ⟨fun _ => h0, fun _ => ⟨fun _ => h0, fun _ => h1⟩⟩⟩, fun _ => ⟨hu, fun _ => h0, fun _ => sp_isInt hu (fun _ => ⟨fun _ => h0, fun _ => h1⟩) (fun _ => ⟨fun _ => h0, fun _ => h1⟩)⟩⟩
theorem sp_one1G {ty c n f : Int32} {Q : Int32 → St → St → List Nat → Prop} {T : St → St → List Nat → Prop} (h : PA σ τ) (hB : NB σ vs) (hf : f.toInt = 0) (k : ∀ (v : Int32) s t z, (v = 0 ∨ v = 1) → RG σ vs s t z → NCt σ vs s z 2 → pos σ < pos s → (0 ≤ c.toInt → c.toInt < (σ 0 37).toInt → ITp σ s) → Q v s t z) (kT : ∀ s t z, RTx σ vs s t z → T s t z) : wp_one_1 ty c n f σ τ vs Q T := by
  have h0 := h.2.2.1.2.2.2.2.1
  unfold wp_one_1
  refine sx_expr 1 σ τ vs _ T (by decide) h hB (fun u s t z r => ?_) kT
  refine sp_read r.1.2.1 (re_nb hB r) r.2.2.1.1 (fun s2 hrd => ⟨fun c => absurd hf c, fun _ => ?_⟩)
  obtain ⟨g1, g2, g3, g4, g5, g6, g7, g8⟩ := re_read h r hrd (by omega)
  obtain ⟨w1, w2⟩ := rg_w h0 g1
  have hu := r.2.2.1.1
  have mw := g1.2.2.2.2.2.1
  have P1 : pos (upC s2 0 17 (σ 0 17)) = pos s2 := rfl
  have I1 : ((upC s2 0 17 (σ 0 17)) 0 39) = (s2 0 39) := rfl
  have D1 : ((upC s2 0 17 (σ 0 17)) 0 37) = (s2 0 37) := rfl
  have W1 : ((upC s2 0 17 (σ 0 17)) 0 17) = (σ 0 17) := rdA_eq rfl
  have hd := g1.2.2.2.2.2.2.2.2.2.2.1
  have hc2 := nb_cap (nb_of hB g1 (by omega) (by omega) g5) g1.2.1
  generalize (upC s2 0 17 (σ 0 17)) = s3 at *
  have hP3 := w1.2.2.1
  have hV := hP3.2.2.2.2 u
  have nc3 : NCt σ vs s3 z 14 := ⟨by rw [W1, P1]; omega, by rw [I1, P1]; omega, by rw [P1]; exact g5⟩
  have fin : ∀ s4, RG σ vs s4 (upC t u 1 (0 : Int32)) z → NCt σ vs s4 z 2 → pos σ < pos s4 → (0 ≤ c.toInt → c.toInt < (σ 0 37).toInt → ITp σ s4) → wp_isInitial u ty s4 (upC t u 1 (0 : Int32)) z (fun v84 => Q v84 s4 (upC t u 1 (0 : Int32)) z) := fun s4 a1 a2 a3 a4 => sp_isInitial hu (k 1 _ _ _ (Or.inr rfl) a1 a2 a3 a4) (k 0 _ _ _ (Or.inl rfl) a1 a2 a3 a4)
  refine sp_isInitial hu ?_ ?_
  · refine ⟨fun s4 t4 z4 => upC t u 1 (0 : Int32) = t4 ∧ z = z4 ∧ RG σ vs s4 (upC t u 1 (0 : Int32)) z ∧ NCt σ vs s4 z 2 ∧ pos σ < pos s4 ∧ (0 ≤ c.toInt → c.toInt < (σ 0 37).toInt → ITp σ s4), ?_, no1, fun _ => ⟨hu, fun y2 => True, fun y2 _ => ⟨fun y3 => y3.toInt ≤ 100, fun y3 hy3 => sp_init hP3.2.2.1.2.2.2.2.2.1 (by rw [I1]; omega) (fun s4 hs4 => ?_), fun _ => by decide, fun _ => hV.2.2.2.1⟩, fun _ => trivial, fun _ => trivial⟩⟩
    · rintro s4 _ _ ⟨rfl, rfl, a1, a2, a3, a4⟩
      exact fin s4 a1 a2 a3 a4
    · obtain ⟨b1, b2, b3, b4⟩ := rg_in (vs := z) hP3 hs4
      have m4 := hs4.2.2.1
      obtain ⟨n1, n2, n3⟩ := nc3
      refine ⟨rfl, rfl, rg_tr w1 b1, ⟨by rw [b3, b4]; omega, by rw [b3]; rw [I1] at m4; rw [P1]; omega, by rw [b3]; exact n3⟩, by rw [b3, P1]; omega, fun c1 c2 => itp_tr w2 (b2 c1 (by rw [D1]; exact Int.lt_of_lt_of_le c2 hd) hy3)⟩
  · refine ⟨fun s4 t4 z4 => upC t u 1 (0 : Int32) = t4 ∧ z = z4 ∧ s4 = s3, ?_, fun _ => ⟨rfl, rfl, rfl⟩, no0⟩
    rintro s4 _ _ ⟨rfl, rfl, rfl⟩
    exact fin s4 w1 (nct_le nc3 (by omega)) (by rw [P1]; omega) (fun _ _ => w2)
theorem sp_bracesG {cells ty first n f : Int32} {Q : Int32 → St → St → List Nat → Prop} {T : St → St → List Nat → Prop} (h : PA σ τ) (hB : NB σ vs) (hf : f.toInt = 0) (hn : 0 ≤ n.toInt → n.toInt < 10000) (h1 : first.toInt = 0) (k : ∀ (v : Int32) s t z, (v = 0 ∨ v = 1) → RG σ vs s t z → NCt σ vs s z 0 → (v.toInt ≠ 0 → 0 ≤ n.toInt → ((σ 17) n.toNatClampNeg).toInt + cells.toInt ≤ (σ 0 37).toInt → ITp σ s) → Q v s t z) (kT : ∀ s t z, UT σ vs s t z → T s t z) : wp_braces cells ty first n f σ τ vs Q T := by
  have h0 := h.2.2.1.2.2.2.2.1
  unfold wp_braces
  refine sp_expect h (by decide) (fun hk rn pn wn icn => ?_) (fun s hs => kT _ _ _ (ut_rt (rt_rtx hs)))
  have dn : ((nxt σ) 0 37) = (σ 0 37) := rfl
  have wh : ∀ j, ((nxt σ) 17) j = (σ 17) j := fun _ => rfl
  generalize nxt σ = s0 at *
  have hP0 := rn.2.1
  have hB0 : NB s0 vs := nb_of hB rn (by omega) (by omega) (by omega)
  have rg0 : RG σ vs s0 τ vs := rg_rl rn
  have hwr := hP0.2.2.2.1.2.2.2.2.2.2.2.2.2.1
  refine ⟨fun m x y s t z => m = ((σ 0 9).toInt - pos s).toNat ∧ RG s0 vs s t z ∧ NCt s0 vs s z 0 ∧ (0 ≤ y.toInt ∧ y.toInt ≤ pos s - pos s0) ∧ (0 ≤ n.toInt → ((s0 17) n.toNatClampNeg).toInt + cells.toInt ≤ (s0 0 37).toInt → y.toInt ≤ cells.toInt → ITp s0 s), ⟨_, rfl, rg_rl (rl_rf hP0), nct_rf, by omega, fun _ _ _ => fun _ q => q⟩, ?_⟩
  rintro m x y s t z hx ⟨q1, q2, q3, q4, q5⟩
  have hPs := q2.2.2.1
  have hBs := rg_nb hB0 q2 q3 (by omega)
  have hps := pos_in hPs.1 hPs.2.1
  have hp0 := pos_in hP0.1 hP0.2.1
  have ey := ad1 (x := y) (by omega)
  have esz : (s 0 9).toInt = (σ 0 9).toInt := by rw [ur_sz q2.2, rl_sz rn]
  have ewh : ∀ j, (s 17) j = (s0 17) j := fun j => q2.1 17 j rfl rfl
  have cut : ∀ {s5 t5 z5}, RG s0 vs s5 t5 z5 → (z5.length : Int) ≤ vs.length + 2 * (pos s5 - pos s0) → ∀ s' t' z', UT s5 z5 s' t' z' → T s' t' z' := fun r5 hz s' t' z' hs => kT _ _ _ (ut_ur rg0.2 (by omega) (ut_ur r5.2 hz hs))
  refine ⟨fun w s9 t9 z9 => RG s0 vs s9 t9 z9 ∧ NCt s0 vs s9 z9 0 ∧ pos s < pos s9 ∧ (0 ≤ n.toInt → ((s0 17) n.toNatClampNeg).toInt + cells.toInt ≤ (s0 0 37).toInt → (y + 1).toInt ≤ cells.toInt → ITp s0 s9), ?_, fun _ => ?_, fun c => absurd hf c⟩
  · rintro w s9 t9 z9 hw ⟨a1, a2, a3, a4⟩
    have hP9 := a1.2.2.1
    unfold wp_accept
    refine sp_is hP9 (fun hk9 => ⟨fun _ => ⟨fun _ => ?_, no1⟩, no1⟩) (fun _ => ⟨no0, fun _ => ⟨no0, fun _ => ?_⟩⟩)
    · have hk9' : kd s9 = 58 := hk9
      obtain ⟨ro, po, wo, ico⟩ := rl_nxt (vs := z9) hP9 (by omega)
      have hp := pos_in ro.2.1.1 ro.2.1.2.1
      have e9 : ((nxt s9) 0 9).toInt = (σ 0 9).toInt := by rw [rl_sz ro, ur_sz a1.2, rl_sz rn]
      obtain ⟨b1, b2, b3⟩ := a2
      refine ⟨((σ 0 9).toInt - pos (nxt s9)).toNat, by omega, rfl, rg_tr a1 (rg_rl ro), ?_, ?_, fun c1 c2 c3 => a4 c1 c2 c3⟩
      · show NCt s0 vs (nxt s9) z9 0
        exact ⟨by omega, by omega, by omega⟩
      · show _ ∧ _ ≤ pos (nxt s9) - pos s0
        omega
    · refine sp_expect hP9 (by decide) (fun hk9 ro po wo ico => ?_) (fun s' hs => cut a1 a2.2.2 _ _ _ (ut_rt (rt_rtx hs)))
      obtain ⟨b1, b2, b3⟩ := a2
      have rF := rg_tr rg0 (rg_tr a1 (rg_rl ro))
      have fin : ∀ v : Int32, (v = 0 ∨ v = 1) → (v.toInt ≠ 0 → (y + 1).toInt ≤ cells.toInt) → Q v (nxt s9) t9 z9 := fun v hv c => by
        refine k v _ _ _ hv rF ⟨by omega, by omega, by omega⟩ (fun c1 c2 c3 f hI => ?_)
        have i0 : ITd s0 f (s0 0 37).toInt := rn.2.2.2.2.2.2.2.2.2.2.2.1 f hI
        exact a4 c2 (by rw [wh, dn]; exact c3) (c c1) f i0
      exact ⟨fun _ => fin 0 (Or.inl rfl) no0, fun _ => ⟨fun _ => fin 0 (Or.inl rfl) no0, fun c => fin 1 (Or.inr rfl) (fun _ => c)⟩⟩
  · refine ⟨fun cc => 0 ≤ n.toInt → cc = (s 17) n.toNatClampNeg + y, fun cc hcc => ?_, fun c => ⟨⟨c, hn c⟩, fun _ => rfl⟩, fun c q => by omega⟩
    refine sp_one1G hPs hBs (by decide) (fun v s2 t2 z2 hv r2 nc2 p2 it2 => ?_) (fun s' t' z' hs => cut q2 q3.2.2 _ _ _ (ut_rt (rt_rtx hs)))
    have rA := rg_tr q2 r2
    have nA := nct_tr q3 nc2
    have itA : 0 ≤ n.toInt → ((s0 17) n.toNatClampNeg).toInt + cells.toInt ≤ (s0 0 37).toInt → (y + 1).toInt ≤ cells.toInt → ITp s0 s2 := fun c1 c2 c3 => by
      have w1 := (hwr n.toNatClampNeg)
      have ec : cc.toInt = ((s0 17) n.toNatClampNeg).toInt + y.toInt := by
        rw [hcc c1, ewh, ad (by omega) (by omega)]
      have dm := q2.2.2.2.2.2.1.2.2.2.2.2
      exact itp_tr (q5 c1 c2 (by omega)) (it2 (by omega) (by omega))
    refine ⟨fun _ => True, fun w hw _ => ⟨rA, nct_le nA (by omega), p2, itA⟩, ⟨True, fun _ => trivial, fun _ => trivial, fun _ => ⟨fun _ => trivial, fun _ => trivial⟩⟩⟩
def GRel (σ : St) (vs : List Nat) (n : Int32) (cells : Int) (v : Int32) (s : St) (t : St) (z : List Nat) : Prop := RG σ vs s t z ∧ NCt σ vs s z 0 ∧ (v.toInt ≠ 0 → 0 ≤ n.toInt → ((σ 17) n.toNatClampNeg).toInt + cells ≤ (σ 0 37).toInt → ITp σ s)
theorem sp_oneInitialG {ty n f : Int32} {Q : Int32 → St → St → List Nat → Prop} {T : St → St → List Nat → Prop} (h : PA σ τ) (hB : NB σ vs) (hf : f.toInt = 0) (hn : 0 ≤ n.toInt → n.toInt < 10000) (k : ∀ (v : Int32) s t z, (v = 0 ∨ v = 1) → GRel σ vs n 1 v s t z → Q v s t z) (kT : ∀ s t z, UT σ vs s t z → T s t z) : wp_oneInitial ty n f σ τ vs Q T := by
  have hwr := h.2.2.2.1.2.2.2.2.2.2.2.2.2.1
  unfold wp_oneInitial
  refine sp_is h (fun hk => ⟨no1, fun _ => ?_⟩) (fun hk => ⟨fun _ => ?_, no0⟩)
  · exact sp_bracesG h hB hf hn (by decide) (fun v s t z hv r nc it => k 0 s t z (Or.inl rfl) ⟨r, nc, no0⟩) kT
  · refine ⟨fun c => 0 ≤ n.toInt → c = (σ 17) n.toNatClampNeg, fun c hc => sp_one1G h hB hf (fun v s t z hv r nc p it => k v s t z hv ⟨r, nct_le nc (by omega), fun c1 c2 c3 => ?_⟩) (fun s' t' z' hs => kT _ _ _ (ut_rt (rt_rtx hs))), ⟨n.toInt < 0, fun c q => by omega, fun c => absurd hf c, fun _ => ⟨fun c => ⟨⟨c, hn c⟩, fun _ => rfl⟩, fun c => c⟩⟩⟩
    have := hwr n.toNatClampNeg
    rw [hc c2] at it
    exact it this.1 (by omega)
theorem rg_ix {lo hi : Int} (h : PA σ τ) (p : IXx σ s lo hi) : RG σ vs s τ vs ∧ (0 ≤ lo → hi ≤ (σ 0 37).toInt → ITp σ s) ∧ pos s = pos σ ∧ (s 0 17) = (σ 0 17) := by
  obtain ⟨p1, p2, p4, p5⟩ := p
  have h9 := h
  obtain ⟨h1, h2, ⟨n1, n2, n3, n4, n5, n6, n7⟩, ⟨-, -, a3, -⟩, h5⟩ := h9
  have k : KE σ s := kp_sub p1 rfl rfl
  have e1 : (s 0 10) = (σ 0 10) := p1 _ _ rfl rfl
  have e2 : (s 0 8) = (σ 0 8) := p1 _ _ rfl rfl
  have e3 : (s 0 37) = (σ 0 37) := p1 _ _ rfl rfl
  have e4 : (s 0 17) = (σ 0 17) := p1 _ _ rfl rfl
  have e5 : (s 21) = (σ 21) := funext (fun j => p1 21 j rfl rfl)
  have e6 : (s 3) = (σ 3) := funext (fun j => p1 3 j rfl rfl)
  have e7 : (s 14) = (σ 14) := funext (fun j => p1 14 j rfl rfl)
  have e8 : (s 0 12) = (σ 0 12) := p1 _ _ rfl rfl
  have f2 : (s 0 36) = (σ 0 36) := p1 _ _ rfl rfl
  have f3 : (s 0 45) = (σ 0 45) := p1 _ _ rfl rfl
  have eP : pos s = pos σ := by unfold pos; rw [e1, e6]
  refine ⟨⟨k, kp_sub k rfl rfl, pa_ke h k (by unfold AtOK; rw [e1, e2]; exact h2) (by rw [e3]; exact n4) (by rw [e4]; exact n5) (by omega) (by rw [e5]; exact a3) h5, fun j _ => p1 8 j rfl rfl, of_eq e8, ⟨by rw [e4]; exact Int.le_refl _, p2, by rw [eP]; exact Int.le_refl _, by rw [f2]; exact Int.le_refl _, by rw [f3]; exact Int.le_refl _, by rw [e3]; exact Int.le_refl _⟩, fun _ h => h, Nat.le_refl _, p5, ⟨fun e _ => ⟨p1 9 e rfl rfl, p1 10 e rfl rfl, p1 15 e rfl rfl, p1 12 e rfl rfl, fun q => by rw [e7]; exact q⟩, fun n _ q => by rw [e5]; exact q, fun e _ => ⟨p1 13 e rfl rfl, p1 17 e rfl rfl⟩⟩, fun b _ => ⟨p1 26 b rfl rfl, p1 27 b rfl rfl, p1 28 b rfl rfl, p1 29 b rfl rfl, p1 30 b rfl rfl, p1 54 b rfl rfl⟩⟩, fun c1 c2 f hI => ?_, eP, e4⟩
  rw [e3]
  exact p4 f _ hI c1 c2
theorem sp_rowInitialG {ty cells n f : Int32} {Q : Int32 → St → St → List Nat → Prop} {T : St → St → List Nat → Prop} (h : PA σ τ) (hB : NB σ vs) (hf : f.toInt = 0) (hn : 0 ≤ n.toInt → n.toInt < 10000) (k : ∀ (v : Int32) s t z, (v = 0 ∨ v = 1) → GRel σ vs n cells.toInt v s t z → Q v s t z) (kT : ∀ s t z, UT σ vs s t z → T s t z) : wp_rowInitial ty cells n f σ τ vs Q T := by
  have h0 := h.2.2.1.2.2.2.2.1
  have htk := at_tok h.1 h.2.1
  have hcap := nb_cap hB h
  have hwr := h.2.2.2.1.2.2.2.2.2.2.2.2.2.1
  unfold wp_rowInitial
  refine ⟨htk, ⟨True, fun _ => ?_, fun _ => trivial, fun c4 => ?_⟩⟩
  · refine sp_is h (fun hk => ⟨no1, fun _ => ?_⟩) (fun hk => ⟨fun _ => ?_, no0⟩)
    · exact sp_bracesG h hB hf hn (by decide) (fun v s t z hv r nc it => k v s t z hv ⟨r, nc, it⟩) kT
    · refine sx_expr 1 σ τ vs _ T (by decide) h hB (fun u s t z r => ?_) (fun s' t' z' hs => kT _ _ _ (ut_rt (rt_rtx hs)))
      refine sp_read r.1.2.1 (re_nb hB r) r.2.2.1.1 (fun s2 hrd => ?_)
      obtain ⟨g1, g2, g3, g4, g5, g6, g7, g8⟩ := re_read h r hrd (by omega)
      exact k 0 _ _ _ (Or.inl rfl) ⟨rg_rl g1, ⟨by omega, by omega, by omega⟩, no0⟩
  · have hk : kd σ = 4 := c4
    obtain ⟨rn, pn, wn, icn⟩ := rl_nxt (vs := vs) h (by omega)
    have htn := at_tok rn.2.1.1 rn.2.1.2.1
    rw [nxt_at] at htn
    have hv := STR_ok h.1 h.2.1 c4
    have ps := nxt_str h.1 h.2.1 hk
    have hPn := rn.2.1
    refine ⟨htn, ⟨True, fun _ => ?_, fun _ => trivial, fun _ => ⟨htn, fun _ => trivial, fun _ => trivial⟩⟩⟩
    have ev1 : ((nxt σ) 6) (σ 0 10).toNatClampNeg = (σ 6) (σ 0 10).toNatClampNeg := rfl
    have fin : ∀ s, RG (nxt σ) vs s τ vs → NCt (nxt σ) vs s vs (-(3 * ((σ 6) (σ 0 10).toNatClampNeg).toInt)) ∨ True → True := fun _ _ _ => trivial
    have done : ∀ s, RG (nxt σ) vs s τ vs → pos s = pos (nxt σ) → (s 0 17) = ((nxt σ) 0 17) → (s 0 39).toInt ≤ ((nxt σ) 0 39).toInt + 3 * ((σ 6) (σ 0 10).toNatClampNeg).toInt → (0 ≤ n.toInt → ((σ 6) (σ 0 10).toNatClampNeg).toInt ≤ cells.toInt → ((σ 17) n.toNatClampNeg).toInt + cells.toInt ≤ (σ 0 37).toInt → ITp (nxt σ) s) → (ty.toInt ≠ 0 → Q 0 s τ vs) ∧ (ty.toInt = 0 → ((0 ≤ (σ 0 10).toInt ∧ (σ 0 10).toInt < 16002) ∧ (cells.toInt < (s 6 (σ 0 10).toNatClampNeg).toInt → Q 0 s τ vs) ∧ ((s 6 (σ 0 10).toNatClampNeg).toInt ≤ cells.toInt → Q 1 s τ vs))) := fun s r e1 e2 e3 e4 => by
      have rF := rg_tr (rg_rl rn) r
      have ev : (s 6) (σ 0 10).toNatClampNeg = (σ 6) (σ 0 10).toNatClampNeg := r.1 6 _ rfl rfl
      have nc : NCt σ vs s vs 0 := ⟨by rw [e1, e2]; omega, by rw [e1]; omega, by rw [e1]; omega⟩
      refine ⟨fun _ => k 0 _ _ _ (Or.inl rfl) ⟨rF, nc, no0⟩, fun _ => ⟨htk, fun _ => k 0 _ _ _ (Or.inl rfl) ⟨rF, nc, no0⟩, fun c => k 1 _ _ _ (Or.inr rfl) ⟨rF, nc, fun _ c2 c3 => ?_⟩⟩⟩
      rw [ev] at c
      exact itp_tr (fun f q => rn.2.2.2.2.2.2.2.2.2.2.2.1 f q) (e4 c2 c c3)
    show wp_fill _ _ _ _ (nxt σ) τ vs _
    unfold wp_fill
    refine ⟨fun c => ⟨fun q => absurd hf q, fun _ => ⟨htk, fun c2 => ?_, fun c2 => ⟨⟨c, hn c⟩, sp_codes hPn.1 htk ⟨hv.1, hv.2.1⟩ hPn.2.2.1.2.2.2.2.2.1 (by omega) (hwr _) (fun s hx hi => ?_)⟩⟩⟩, fun c => ?_⟩
    · exact done (nxt σ) (rg_rl (rl_rf hPn)) rfl rfl (by omega) (fun _ c3 => by rw [ev1] at c2; omega)
    · obtain ⟨b1, b2, b3, b4⟩ := rg_ix (vs := vs) hPn hx
      rw [ev1] at hi b2
      exact done s b1 b3 b4 hi (fun c1 c3 c4 => b2 (hwr _).1 (by show ((σ 17) n.toNatClampNeg).toInt + _ ≤ (σ 0 37).toInt; omega))
    · exact done (nxt σ) (rg_rl (rl_rf hPn)) rfl rfl (by omega) (fun c1 => by omega)
end GIN
end

