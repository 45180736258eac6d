/-! for -/
def CTt (s0 s1 : St) (x : Int) : Prop := (x < 0 ∧ TE s0 s1 501 0 0) ∨ (∃ sa, x = (wcn sa : Int) + 1 ∧ TE s0 sa 501 0 1 ∧ PU sa s1 [16, -1] ∧ (s0 0 17).toInt ≤ (sa 0 17).toInt)
def okS (s : St) : Prop := (s 0 12).toInt = 0 ∧ (s 0 15).toInt = 0
section FOR
variable {σ s s' τ t t' : St} {vs z z' : List Nat} {g g' : Gh} {X X' : Nat → Prop} {E0 H L : Nat}
theorem ts_for {s0 s1 s2 s3 s4 s5 s6 s7 s8 s8p s9 s10 s11 : St} {tp0 tp3 : Int32} {x : Int} {B : List Nat} (h0 : 0 ≤ (s0 0 17).toInt) (ht0 : tp0.toInt = (s0 0 17).toInt) (ct : CTt s0 s1 x) (w1 : (s0 0 17).toInt ≤ (s1 0 17).toInt) (te12 : TE s1 s2 501 0 0) (r12 : RW s1 s2) (w2 : (s1 0 17).toInt ≤ (s2 0 17).toInt) (p3 : PU s2 s3 [15, -1]) (ht3 : tp3.toInt = (s3 0 17).toInt) (te34 : TE s3 s4 501 0 0) (r34 : RW s3 s4) (w4 : (s3 0 17).toInt ≤ (s4 0 17).toInt) (p5 : PU s4 s5 [15, tp0]) (te56 : TE s5 s6 501 0 0) (r56 : RW s5 s6) (w6 : (s5 0 17).toInt ≤ (s6 0 17).toInt) (e7 : s7 = aimS s6 (wcn s2)) (hl : LT s7 s8 tp3.toInt B) (r78 : RW s7 s8) (w8 : (s7 0 17).toInt ≤ (s8 0 17).toInt) (hb : ∀ b ∈ B, wcn s7 < b ∧ b < wcn s8) (e8 : RSt s8 vs s8p t z) (e8w : (s8p 0 17) = (s8 0 17)) (e8x : ∀ q, (s8p 8) q = (s8 8) q) (p9 : PU s8p s9 [15, tp3]) (e10 : (x < 0 → s10 = s9) ∧ (0 ≤ x → s10 = aimS s9 (x - 1).toNat)) (al : ALx s10 s11 B (s9 0 17)) (okc : okS s9 → okS s1 ∧ okS s2 ∧ okS s4 ∧ okS s6 ∧ okS s8) : TSt s0 s11 0 0 [] [] := by
  intro g X E0 L hT hf hs
  subst e7
  have a0 : ∀ j, s11 0 j = s9 0 j := fun j => by
    rw [al.1 0 j rfl rfl]
    by_cases c : x < 0
    · rw [e10.1 c]
    · rw [e10.2 (by omega)]; rfl
  have ok9 : okS s9 := ⟨by rw [← a0 12]; exact hf, by rw [← a0 15]; exact hs⟩
  obtain ⟨k1, k2, k4, k6, k8⟩ := okc ok9
  have W3 : (s3 0 17).toInt = (s2 0 17).toInt + 2 := p3.2.1
  have W5 : (s5 0 17).toInt = (s4 0 17).toInt + 2 := p5.2.1
  have W7 : ((aimS s6 (wcn s2)) 0 17).toInt = (s6 0 17).toInt := rfl
  have W8 : (s8p 0 17).toInt = (s8 0 17).toInt := by rw [e8w]
  have W9 : (s9 0 17).toInt = (s8p 0 17).toInt + 2 := p9.2.1
  have n0 : (wcn s0 : Int) = (s0 0 17).toInt := nt h0
  have n1 : (wcn s1 : Int) = (s1 0 17).toInt := nt (by omega)
  have n2 : (wcn s2 : Int) = (s2 0 17).toInt := nt (by omega)
  have n3 : (wcn s3 : Int) = (s3 0 17).toInt := nt (by omega)
  have n4 : (wcn s4 : Int) = (s4 0 17).toInt := nt (by omega)
  have n5 : (wcn s5 : Int) = (s5 0 17).toInt := nt (by omega)
  have n6 : (wcn s6 : Int) = (s6 0 17).toInt := nt (by omega)
  have n7 : wcn (aimS s6 (wcn s2)) = wcn s6 := rfl
  have n8 : (wcn s8 : Int) = (s8 0 17).toInt := nt (by omega)
  have n8p : wcn s8p = wcn s8 := by unfold wcn; rw [e8w]
  have n9 : (wcn s9 : Int) = (s9 0 17).toInt := nt (by omega)
  -- the condition
  have C1 : ∃ g1 X1, TY s1 g1 X1 E0 0 L ∧ Ext g g1 (wcn s0) ∧ (x < 0 → X1 = X) ∧ (0 ≤ x → X1 = (fun q => X q ∨ q = (x - 1).toNat) ∧ (wcn s0 ≤ (x - 1).toNat ∧ (x - 1).toNat + 2 = wcn s1) ∧ g1 (x - 1).toNat = some (1, L) ∧ g1 ((x - 1).toNat + 1) = none ∧ g1 ((x - 1).toNat + 2) = some (0, L) ∧ (s1 8) (x - 1).toNat = 16) := by
    rcases ct with ⟨c, te⟩ | ⟨sa, c, te, pa, wa⟩
    · obtain ⟨g1, t1, x1⟩ := te g X E0 0 L (by rw [Nat.zero_add]; exact hT) (by omega) k1.1 k1.2
      rw [Nat.zero_add] at t1
      exact ⟨g1, X, t1, x1, fun _ => rfl, fun c2 => by omega⟩
    · have fa : (s1 0 12) = (sa 0 12) := pa.1 0 12 rfl rfl
      have la : (s1 0 15) = (sa 0 15) := pa.1 0 15 rfl rfl
      have Wa : (s1 0 17).toInt = (sa 0 17).toInt + 2 := pa.2.1
      have na : (wcn sa : Int) = (sa 0 17).toInt := nt (by omega)
      have ex : (x - 1).toNat = wcn sa := by omega
      obtain ⟨ga, ta, xa⟩ := te g X E0 0 L (by rw [Nat.zero_add]; exact hT) (by omega) (by rw [← fa]; exact k1.1) (by rw [← la]; exact k1.2)
      rw [Nat.zero_add] at ta
      obtain ⟨g1, t1, x1, a1, b1⟩ := ty_hole2 (H' := 0) (L' := L) ta (by omega) pa rfl
      refine ⟨g1, _, t1, ext_tr xa x1 (by omega), fun c2 => by omega, fun _ => ?_⟩
      rw [ex]
      refine ⟨rfl, ⟨by omega, by omega⟩, a1, b1, ?_, pa.2.2.2 0 _ rfl⟩
      have : wcn sa + 2 = wcn s1 := by omega
      rw [this]
      exact t1.2.1
  obtain ⟨g1, X1, t1, x1, cX, cH⟩ := C1
  obtain ⟨g2, t2, x2⟩ := te12 g1 X1 E0 0 L (by rw [Nat.zero_add]; exact t1) (by omega) k2.1 k2.2
  rw [Nat.zero_add] at t2
  obtain ⟨g3, t3, x3, a3, b3⟩ := ty_hole2 (H' := 0) (L' := L + 1) t2 (by omega) p3 rfl
  obtain ⟨g4, t4, x4⟩ := te34 g3 _ E0 0 (L + 1) (by rw [Nat.zero_add]; exact t3) (by omega) k4.1 k4.2
  rw [Nat.zero_add] at t4
  have top0 : g4 (wcn s0) = some (0, L) := by rw [x4 _ (by omega), x3 _ (by omega), x2 _ (by omega), x1 _ (Nat.le_refl _)]; exact hT.2.1
  obtain ⟨g5, t5, x5⟩ := ty_back (L' := L) (T := wcn s0) (kT := L) t4 (by omega) p5 (by omega) top0 (by omega)
  obtain ⟨g6, t6, x6⟩ := te56 g5 _ E0 0 L (by rw [Nat.zero_add]; exact t5) (by omega) k6.1 k6.2
  rw [Nat.zero_add] at t6
  have q1 : g6 (wcn s2) = some (0, L) := by rw [x6 _ (by omega), x5 _ (by omega), x4 _ (by omega), a3]
  have q2 : g6 (wcn s2 + 1) = none := by rw [x6 _ (by omega), x5 _ (by omega), x4 _ (by omega), b3]
  have q3 : g6 (wcn s3) = some (0, L + 1) := by rw [x6 _ (by omega), x5 _ (by omega), x4 _ (Nat.le_refl _)]; exact t3.2.1
  have o1 : (s6 8) (wcn s2) = 15 := by
    rw [r56 _ (by omega), p5.2.2.1 _ (by omega), r34 _ (by omega)]
    exact p3.2.2.2 0 _ rfl
  have t7 : TY (aimS s6 (wcn s2)) g6 X1 E0 0 L := by
    refine ty_aim t6 (by omega) (by omega) q2 (fun h k hh => ?_)
    rw [q1] at hh
    cases hh
    refine okc_go o1 (by omega) ⟨by omega, L, t6.2.1, Or.inr ⟨rfl, by omega⟩⟩ ?_
    have : wcn s2 + 2 = wcn s3 := by omega
    rw [this, q3]
    exact fun c => by cases c
  have top3 : g6 tp3.toInt.toNat = some (0, L + 1) := by
    have : tp3.toInt.toNat = wcn s3 := by omega
    rw [this]; exact q3
  obtain ⟨g8, t8, x8, o8⟩ := hl g6 X1 E0 L t7 (fun _ => ⟨L + 1, top3, Nat.le_refl _⟩) k8.1 k8.2
  rw [if_pos (by omega)] at t8
  rw [n7] at x8
  have t8' := ty_rs t8 (by omega) e8 e8w
  have q8 : g8 (wcn s3) = some (0, L + 1) := by rw [x8 _ (by omega)]; exact q3
  obtain ⟨g9, t9, x9⟩ := ty_back (L' := L) (T := wcn s3) (kT := L + 1) t8' (by omega) p9 (by omega) q8 (by omega)
  rw [n8p] at x9
  have o9 : ∀ b ∈ B, Hol (s9 8) g9 (L + 2) b := fun b hb9 => ho_mono (o8 b hb9) (hb b hb9).2 x9 (fun q hq => by rw [p9.2.2.1 q (by omega), e8x])
  have XX : Ext g g9 (wcn s0) := fun q hq => by rw [x9 q (by omega), x8 q (by omega), x6 q (by omega), x5 q (by omega), x4 q (by omega), x3 q (by omega), x2 q (by omega), x1 q (by omega)]
  have fin : ∀ s10', s10 = s10' → (s10' 0 17) = (s9 0 17) → TY s10' g9 (Xh X B) E0 0 L → (∀ b ∈ B, Hol (s10' 8) g9 (L + 2) b) → ∃ g', TY s11 g' (Xh X ([] ++ [])) E0 0 L ∧ Ext g g' (wcn s0) ∧ ∀ h ∈ ([] : List Nat) ++ [], Hol (s11 8) g' L h := fun s10' e w10 t10 ho => by
    subst e
    have tn := ty_aimall (G := []) (T := wcn s9) (kT := L) (ty_X t10 (fun q hq => hq.imp id (fun h => by rw [List.append_nil]; exact h))) al (fun b hb9 => hol_le (ho b hb9) (by omega)) n9.symm t9.2.1 (fun b _ => List.not_mem_nil) (fun b hb9 => absurd hb9 List.not_mem_nil)
    exact ⟨g9, ty_X tn (fun q hq => Or.inl (hq.elim id (fun c => absurd c List.not_mem_nil))), XX, fun b hb9 => absurd hb9 List.not_mem_nil⟩
  by_cases c : x < 0
  · rw [cX c] at t9
    exact fin s9 (e10.1 c) rfl t9 o9
  · obtain ⟨d1, ⟨d2, d3⟩, d4, d5, d6, d7⟩ := cH (by omega)
    have y : ∀ q, q ≤ wcn s1 → g9 q = g1 q := fun q hq => by rw [x9 q (by omega), x8 q (by omega), x6 q (by omega), x5 q (by omega), x4 q (by omega), x3 q (by omega), x2 q (by omega)]
    have y1 := y (x - 1).toNat (by omega)
    have y2 := y ((x - 1).toNat + 1) (by omega)
    have y3 := y ((x - 1).toNat + 2) (by omega)
    rw [d4] at y1
    rw [d5] at y2
    rw [d6] at y3
    have oo : (s9 8) (x - 1).toNat = 16 := by
      rw [p9.2.2.1 _ (by omega), e8x, r78 _ (by omega)]
      show upC s6 8 (wcn s2 + 1) _ 8 _ = _
      rw [rdA_ne (by omega), r56 _ (by omega), p5.2.2.1 _ (by omega), r34 _ (by omega), p3.2.2.1 _ (by omega), r12 _ (by omega)]
      exact d7
    rw [d1] at t9
    refine fin (aimS s9 (x - 1).toNat) (e10.2 (by omega)) rfl ?_ (fun b hb9 => hol_aim (o9 b hb9) y2)
    refine ty_aim (ty_X t9 (fun q hq => ?_)) (by omega) (by omega) y2 (fun h k hh => ?_)
    · rcases hq with (hq | hq) | hq
      · exact Or.inl (Or.inl hq)
      · exact Or.inr hq
      · exact Or.inl (Or.inr hq)
    · rw [y1] at hh
      cases hh
      exact okc_br oo (Or.inl rfl) (by omega) (by omega) ⟨by omega, L, t9.2.1, Or.inr ⟨rfl, by omega⟩⟩ ⟨by omega, L, y3, Or.inr ⟨rfl, by omega⟩⟩
theorem sp_for {k1 k2 k3 : KZ} {k4 : KL} {k5 k6 : Int32 → KZ} {d : Int} (hL : SSl k4 d) : SSd (wp_forStatement k1 k2 k3 k4 k5 k6) d 13 := by
  intro a tk σ τ vs Q T had hP hS hB htk hk kQ kT
  unfold wp_forStatement
  have h0 := hP.2.2.1.2.2.2.2.1
  obtain ⟨rn, pn, wn, icn⟩ := rl_nxt (vs := vs) hP (by omega)
  have hPn := rn.2.1
  have h0n := hPn.2.2.1.2.2.2.2.1
  rw [show upC σ 0 10 ((σ 0 10) + (1 : Int32)) = nxt σ from rfl]
  refine sp_expect hPn (by decide) (fun hk1 ra pa wa ica => ?_) (fun s' hs => kT _ _ _ (rt_rtx (rt_of rn (by omega) hs)))
  have r13 := rl_tr rn ra
  have hP13 := ra.2.1
  have te13 : TE σ (nxt (nxt σ)) 501 0 0 := te_rl h0 rn ra (te_nxt h0 rn) (te_nxt h0n ra)
  have nc13 : NCt σ vs (nxt (nxt σ)) vs 80 := ⟨by omega, by omega, by omega⟩
  generalize nxt (nxt σ) = s13 at *
  -- behind the first ;
  have B29 : ∀ (s t : St) (z : List Nat), RL σ vs s t z ∧ NCt σ vs s z 80 ∧ TE σ s 501 0 0 → wp_expect (27 : Int32) s t z (fun s32 t32 z32 => wp_is (27 : Int32) s32 t32 z32 (fun v46 => (∃ J83 : Int32 → St → St → List Nat → Prop, (∀ (x4_83 : Int32) (s83 t83 : St) (z83 : List Nat), J83 x4_83 s83 t83 z83 → (wp_expect (27 : Int32) s83 t83 z83 (fun s86 t86 z86 => wp_open (15 : Int32) s86 t86 z86 (fun v92 s92 t92 z92 => wp_is (21 : Int32) s92 t92 z92 (fun v106 => (∃ J116 : St → St → List Nat → Prop, (∀ (s116 t116 : St) (z116 : List Nat), J116 s116 t116 z116 → (wp_put_1 (15 : Int32) (s32 0 17) s116 t116 z116 (fun s120 t120 z120 => wp_expect (21 : Int32) s120 t120 z120 (fun s126 t126 z126 => wp_aim v92 s126 t126 z126 (fun s132 t132 z132 => k4 a tk (s92 0 17) s132 t132 z132 (fun s140 t140 z140 => wp_put_1 (15 : Int32) (s92 0 17) (upC s140 0 58 (s140 0 60)) t140 z140 (fun s162 t162 z162 => (∃ J176 : St → St → List Nat → Prop, (∀ (s176 t176 : St) (z176 : List Nat), J176 s176 t176 z176 → (wp_aimAll (s140 0 58) (s176 0 17) s176 t176 z176 (fun s183 t183 z183 => Q s183 t183 z183))) ∧ (x4_83.toInt < 0 → J176 s162 t162 z162) ∧ (0 ≤ x4_83.toInt → wp_aim x4_83 s162 t162 z162 (fun s173 t173 z173 => J176 s173 t173 z173))))) T)) T))) ∧ (v106.toInt ≠ 0 → J116 s92 t92 z92) ∧ (v106.toInt = 0 → wp_plain s92 t92 z92 (fun s113 t113 z113 => J116 s113 t113 z113) T))))) T)) ∧ (v46.toInt ≠ 0 → J83 ((-1) : Int32) s32 t32 z32) ∧ (v46.toInt = 0 → wpE_expression (1 : Int32) s32 t32 z32 (fun u54 s54 t54 z54 => wp_read_1 u54 s54 t54 z54 (fun s62 t62 z62 => wp_isAny u54 s62 t62 z62 (fun v68 => wp_must v68 tk s62 t62 z62 (fun s72 t72 z72 => wp_open (16 : Int32) s72 t72 z72 (fun v78 s78 t78 z78 => J83 v78 s78 t78 z78))))) T)))) T := fun s29 t29 z29 ⟨r29, nc29, te29⟩ => by
    have hP29 := r29.2.1
    refine sp_expect hP29 (by decide) (fun hk2 rb pb wb icb => ?_) (fun s' hs => kT _ _ _ (rt_rtx (rt_of r29 nc29.2.2 hs)))
    have r32 := rl_tr r29 rb
    have h029 := hP29.2.2.1.2.2.2.2.1
    have te32 : TE σ (nxt s29) 501 0 0 := te_rl h0 r29 rb te29 (te_nxt h029 rb)
    have nc32 : NCt σ vs (nxt s29) z29 120 := by
      obtain ⟨m1, m2, m3⟩ := nc29
      exact ⟨by omega, by omega, by omega⟩
    have hP32 := rb.2.1
    have h032 := hP32.2.2.1.2.2.2.2.1
    generalize nxt s29 = s32 at *
    have hB32 := nct_nb hB (rs_rl r32) nc32 (by omega)
    have hS32 := ps_rs hS (rs_rl r32)
    have n0 : (wcn σ : Int) = (σ 0 17).toInt := nt h0
    have mw32 := r32.2.2.2.2.2.1
    -- behind the condition
    have B83 : ∀ (x4 : Int32) (s83 t83 : St) (z83 : List Nat), RL s32 z29 s83 t83 z83 ∧ NCt s32 z29 s83 z83 0 ∧ CTt s32 s83 x4.toInt ∧ (0 ≤ x4.toInt → (s32 0 17).toInt + 1 ≤ x4.toInt ∧ x4.toInt + 1 = (s83 0 17).toInt) → wp_expect (27 : Int32) s83 t83 z83 (fun s86 t86 z86 => wp_open (15 : Int32) s86 t86 z86 (fun v92 s92 t92 z92 => wp_is (21 : Int32) s92 t92 z92 (fun v106 => (∃ J116 : St → St → List Nat → Prop, (∀ (s116 t116 : St) (z116 : List Nat), J116 s116 t116 z116 → (wp_put_1 (15 : Int32) (s32 0 17) s116 t116 z116 (fun s120 t120 z120 => wp_expect (21 : Int32) s120 t120 z120 (fun s126 t126 z126 => wp_aim v92 s126 t126 z126 (fun s132 t132 z132 => k4 a tk (s92 0 17) s132 t132 z132 (fun s140 t140 z140 => wp_put_1 (15 : Int32) (s92 0 17) (upC s140 0 58 (s140 0 60)) t140 z140 (fun s162 t162 z162 => (∃ J176 : St → St → List Nat → Prop, (∀ (s176 t176 : St) (z176 : List Nat), J176 s176 t176 z176 → (wp_aimAll (s140 0 58) (s176 0 17) s176 t176 z176 (fun s183 t183 z183 => Q s183 t183 z183))) ∧ (x4.toInt < 0 → J176 s162 t162 z162) ∧ (0 ≤ x4.toInt → wp_aim x4 s162 t162 z162 (fun s173 t173 z173 => J176 s173 t173 z173))))) T)) T))) ∧ (v106.toInt ≠ 0 → J116 s92 t92 z92) ∧ (v106.toInt = 0 → wp_plain s92 t92 z92 (fun s113 t113 z113 => J116 s113 t113 z113) T))))) T := fun x4 s83 t83 z83 ⟨r83, nc83, ct, hx4⟩ => by
      have hP83 := r83.2.1
      have rA := rl_tr r32 r83
      have ncA := nct_tr nc32 nc83
      refine sp_expect hP83 (by decide) (fun hk3 rc pc wc icc => ?_) (fun s' hs => kT _ _ _ (rt_rtx (rt_of rA ncA.2.2 hs)))
      have h083 := hP83.2.2.1.2.2.2.2.1
      have te86 : TE s83 (nxt s83) 501 0 0 := te_nxt h083 rc
      have hP86 := rc.2.1
      have h086 := hP86.2.2.1.2.2.2.2.1
      have rB := rl_tr rA rc
      have ncB : NCt σ vs (nxt s83) z83 160 := by
        obtain ⟨m1, m2, m3⟩ := ncA
        exact ⟨by omega, by omega, by omega⟩
      generalize nxt s83 = s86 at *
      have hcB := nb_cap (nct_nb hB (rs_rl rB) ncB (by omega)) hP86
      refine sp_open h086 (by omega) (fun v92 s92 p92 e92 => ?_)
      have r92 := rl_pu (vs := z83) (z := z83) hP86 p92 hP86.2.2.2.2 (fun _ h => h) (Nat.le_refl _)
      have W92 : (s92 0 17).toInt = (s86 0 17).toInt + 2 := p92.2.1
      have P92 := pos_sq (sq_pu p92)
      have I92 := ic_sq (sq_pu p92)
      have rC := rl_tr rB r92
      have ncC : NCt σ vs s92 z83 158 := by
        obtain ⟨m1, m2, m3⟩ := ncB
        exact ⟨by omega, by rw [I92]; omega, by omega⟩
      have hP92 := r92.2.1
      have h092 := hP92.2.2.1.2.2.2.2.1
      have hBC := nct_nb hB (rs_rl rC) ncC (by omega)
      -- behind the third
      have B116 : ∀ (s116 t116 : St) (z116 : List Nat), RL s92 z83 s116 t116 z116 ∧ NCt s92 z83 s116 z116 0 ∧ TE s92 s116 501 0 0 → wp_put_1 (15 : Int32) (s32 0 17) s116 t116 z116 (fun s120 t120 z120 => wp_expect (21 : Int32) s120 t120 z120 (fun s126 t126 z126 => wp_aim v92 s126 t126 z126 (fun s132 t132 z132 => k4 a tk (s92 0 17) s132 t132 z132 (fun s140 t140 z140 => wp_put_1 (15 : Int32) (s92 0 17) (upC s140 0 58 (s140 0 60)) t140 z140 (fun s162 t162 z162 => (∃ J176 : St → St → List Nat → Prop, (∀ (s176 t176 : St) (z176 : List Nat), J176 s176 t176 z176 → (wp_aimAll (s140 0 58) (s176 0 17) s176 t176 z176 (fun s183 t183 z183 => Q s183 t183 z183))) ∧ (x4.toInt < 0 → J176 s162 t162 z162) ∧ (0 ≤ x4.toInt → wp_aim x4 s162 t162 z162 (fun s173 t173 z173 => J176 s173 t173 z173))))) T)) T) := fun s4 t4 z4 ⟨r4, nc4, te4⟩ => by
        have hP4 := r4.2.1
        have h04 := hP4.2.2.1.2.2.2.2.1
        have rD := rl_tr rC r4
        have ncD := nct_tr ncC nc4
        have hcD := nb_cap (nct_nb hB (rs_rl rD) ncD (by omega)) hP4
        refine sp_put_1 h04 (by omega) (fun s5 p5 => ?_)
        have r5 := rl_pu (vs := z4) (z := z4) hP4 p5 hP4.2.2.2.2 (fun _ h => h) (Nat.le_refl _)
        have W5 : (s5 0 17).toInt = (s4 0 17).toInt + 2 := p5.2.1
        have P5 := pos_sq (sq_pu p5)
        have I5 := ic_sq (sq_pu p5)
        have rE := rl_tr rD r5
        have ncE : NCt σ vs s5 z4 156 := by
          obtain ⟨m1, m2, m3⟩ := ncD
          exact ⟨by omega, by rw [I5]; omega, by omega⟩
        have hP5 := r5.2.1
        have h05 := hP5.2.2.1.2.2.2.2.1
        refine sp_expect hP5 (by decide) (fun hk6 rf pf wf icf => ?_) (fun s' hs => kT _ _ _ (rt_rtx (rt_of rE ncE.2.2 hs)))
        have te56 : TE s5 (nxt s5) 501 0 0 := te_nxt h05 rf
        have hP6 := rf.2.1
        have h06 := hP6.2.2.1.2.2.2.2.1
        have rF := rl_tr rE rf
        have ncF : NCt σ vs (nxt s5) z4 196 := by
          obtain ⟨m1, m2, m3⟩ := ncE
          exact ⟨by omega, by omega, by omega⟩
        generalize nxt s5 = s6 at *
        have mw83 := r83.2.2.2.2.2.1
        have mw86 := rc.2.2.2.2.2.1
        have mw4 := r4.2.2.2.2.2.1
        have n86 : (wcn s86 : Int) = (s86 0 17).toInt := nt h086
        have n32 : (wcn s32 : Int) = (s32 0 17).toInt := nt h032
        have hcF := nb_cap (nct_nb hB (rs_rl rF) ncF (by omega)) hP6
        refine sp_aim (p := wcn s86) (by omega) (by omega) ?_
        have rs7 := rs_aim (p := wcn s86) (rs_rl rF) (by omega)
        have hP7 := rs7.2.1
        have W7 : ((aimS s6 (wcn s86)) 0 17).toInt = (s6 0 17).toInt := rfl
        have P7 : pos (aimS s6 (wcn s86)) = pos s6 := rfl
        have nc7 : NCt σ vs (aimS s6 (wcn s86)) z4 196 := ncF
        have hB7 := nct_nb hB rs7 nc7 (by omega)
        have sz7 := rs_sz rs7
        have hbb : ((aimS s6 (wcn s86)) 0 17).toInt + 2 + 40 * (((aimS s6 (wcn s86)) 0 9).toInt - pos (aimS s6 (wcn s86))) ≤ 410000 := by
          obtain ⟨b1, -⟩ := hB
          obtain ⟨c1, -⟩ := nc7
          rw [sz7]
          omega
        refine hL a tk _ _ t4 z4 _ T had hP7 (ps_rs hS rs7) hB7 hbb htk (by rw [W7]; omega) (fun s8 t8 z8 lq => ?_) (fun s' t' z' hs => kT _ _ _ (rt_rs rs7 nc7.2.2 hs))
        obtain ⟨r8, nc8, p8, lo8, go8, ob8, B, hBb, hC, hLT⟩ := lq
        have hP8 := r8.2.1
        have h08 := hP8.2.2.1.2.2.2.2.1
        have rs8 := rs_tr rs7 r8
        have nc08 := nct_tr nc7 nc8
        have hc8 := nb_cap (nct_nb hB rs8 nc08 (by omega)) hP8
        have r8' : RSt s8 z8 (upC s8 0 58 (s8 0 60)) t8 z8 := rs_f (rs_rf hP8) (by omega)
        have w8' : ((upC s8 0 58 (s8 0 60)) 0 17) = (s8 0 17) := rfl
        have x8' : ∀ q, ((upC s8 0 58 (s8 0 60)) 8) q = (s8 8) q := fun _ => rfl
        have b8' : ((upC s8 0 58 (s8 0 60)) 0 58) = ((aimS s6 (wcn s86)) 0 58) := by rw [rdA_eq rfl]; exact ob8
        have g8' : ((upC s8 0 58 (s8 0 60)) 0 59) = (s8 0 59) := rfl
        have l8' : ((upC s8 0 58 (s8 0 60)) 0 57) = (s8 0 57) := rfl
        have f8' : ((upC s8 0 58 (s8 0 60)) 0 12) = (s8 0 12) := rfl
        have si8' : ((upC s8 0 58 (s8 0 60)) 0 15) = (s8 0 15) := rfl
        have ps8' : pos (upC s8 0 58 (s8 0 60)) = pos s8 := rfl
        have ic8' : ((upC s8 0 58 (s8 0 60)) 0 39) = (s8 0 39) := rfl
        generalize (upC s8 0 58 (s8 0 60)) = s8p at *
        have hP8p := r8'.2.1
        refine sp_put_1 (by rw [w8']; exact h08) (by rw [w8']; omega) (fun s9 p9 => ?_)
        have r9 := rl_pu (vs := z8) (z := z8) hP8p p9 hP8p.2.2.2.2 (fun _ h => h) (Nat.le_refl _)
        have W9 : (s9 0 17).toInt = (s8 0 17).toInt + 2 := by rw [p9.2.1, w8']; rfl
        have P9 : pos s9 = pos s8 := (pos_sq (sq_pu p9)).trans ps8'
        have I9 : (s9 0 39) = (s8 0 39) := (ic_sq (sq_pu p9)).trans ic8'
        have rs9 := rs_tr rs8 (rs_tr r8' (rs_rl r9))
        have nc9 : NCt σ vs s9 z8 0 := by
          obtain ⟨m1, m2, m3⟩ := nc08
          exact ⟨by rw [P9]; omega, by rw [I9, P9]; exact m2, by rw [P9]; exact m3⟩
        have mw6 := rf.2.2.2.2.2.1
        have mw8 := r8.2.2.2.2.2.1
        have n6 : (wcn s6 : Int) = (s6 0 17).toInt := nt h06
        have n7 : wcn (aimS s6 (wcn s86)) = wcn s6 := rfl
        have n8 : (wcn s8 : Int) = (s8 0 17).toInt := nt h08
        -- the last jumps
        have fin : ∀ s10 : St, ((x4.toInt < 0 → s10 = s9) ∧ (0 ≤ x4.toInt → s10 = aimS s9 (x4.toInt - 1).toNat)) → wp_aimAll (s8 0 58) (s10 0 17) s10 t8 z8 (fun s183 t183 z183 => Q s183 t183 z183) := fun s10 e10 => by
          have a10 : ∀ j, s10 0 j = s9 0 j := fun j => by
            by_cases c : x4.toInt < 0
            · rw [e10.1 c]
            · rw [e10.2 (by omega)]; rfl
          have rs10 : RSt σ vs s10 t8 z8 := by
            by_cases c : x4.toInt < 0
            · rw [e10.1 c]; exact rs9
            · rw [e10.2 (by omega)]
              have := hx4 (by omega)
              exact rs_aim rs9 (by omega)
          have nc10 : NCt σ vs s10 z8 0 ∧ pos s10 = pos s9 := by
            by_cases c : x4.toInt < 0
            · rw [e10.1 c]; exact ⟨nc9, rfl⟩
            · rw [e10.2 (by omega)]; exact ⟨nc9, rfl⟩
          have C10 : Ch (s10 8) (s8 0 58).toInt B := ch_w (fun b hb => by
            have hbb9 := hBb b hb
            have e1 : (s10 8) b = (s9 8) b := by
              by_cases c : x4.toInt < 0
              · rw [e10.1 c]
              · rw [e10.2 (by omega)]
                have := hx4 (by omega)
                show upC s9 8 _ _ 8 b = _
                rw [rdA_ne (by omega)]
            rw [e1, p9.2.2.1 b (by rw [w8']; omega), x8']) hC
          rw [a10 17]
          refine sp_aimAll C10 (fun b hb => by have := (hBb b hb).2; omega) (fun s11 al => ?_)
          have rs11 := rs_al rs10 al (fun b hb => by have := (hBb b hb).1; have := rs_wcn rs7 h0; omega) h0
          obtain ⟨nc11, P11⟩ := nct_al nc10.1 al
          have a0 : ∀ j, s11 0 j = s9 0 j := fun j => (al.1 0 j rfl rfl).trans (a10 j)
          have eB : (s11 0 58) = (σ 0 58) := by
            rw [a0 58, p9.1 0 58 rfl rfl, b8']
            exact rF.1 0 58 rfl rfl
          have eG : (s11 0 59) = (σ 0 59) := by
            rw [a0 59, p9.1 0 59 rfl rfl, g8', go8]
            exact rF.1 0 59 rfl rfl
          have eL : (s11 0 57) = (σ 0 57) := by
            rw [a0 57, p9.1 0 57 rfl rfl, l8', lo8]
            exact rF.1 0 57 rfl rfl
          have okc : okS s9 → okS s83 ∧ okS s86 ∧ okS s4 ∧ okS s6 ∧ okS s8 := fun ⟨o1, o2⟩ => by
            have f89 : (s9 0 12) = (s8 0 12) := (p9.1 0 12 rfl rfl).trans f8'
            have l89 : (s9 0 15) = (s8 0 15) := (p9.1 0 15 rfl rfl).trans si8'
            rw [f89] at o1
            rw [l89] at o2
            have o6 : (s6 0 12).toInt = 0 := of0 r8.2.2.2.2.1 o1
            have l6 : (s6 0 15).toInt = 0 := by
              have := rs_sil r8
              rw [this] at o2; exact o2
            have o4 : (s4 0 12).toInt = 0 := of0 (rl_tr r5 rf).2.2.2.2.1 o6
            have l4 : (s4 0 15).toInt = 0 := by
              have := rl_sil (rl_tr r5 rf)
              rw [this] at l6; exact l6
            have o86 : (s86 0 12).toInt = 0 := of0 (rl_tr r92 r4).2.2.2.2.1 o4
            have l86 : (s86 0 15).toInt = 0 := by
              have := rl_sil (rl_tr r92 r4)
              rw [this] at l4; exact l4
            have o83 : (s83 0 12).toInt = 0 := of0 rc.2.2.2.2.1 o86
            have l83 : (s83 0 15).toInt = 0 := by
              have := rl_sil rc
              rw [this] at l86; exact l86
            exact ⟨⟨o83, l83⟩, ⟨o86, l86⟩, ⟨o4, l4⟩, ⟨o6, l6⟩, ⟨o1, o2⟩⟩
          have ts := ts_for (vs := z8) (s0 := s32) (tp0 := s32 0 17) (tp3 := s92 0 17) h032 rfl ct r83.2.2.2.2.2.1 te86 rc.2.2.1 mw86 p92 rfl te4 r4.2.2.1 mw4 p5 te56 rf.2.2.1 mw6 rfl hLT r8.2.2.1 mw8 hBb r8' w8' x8' p9 e10 al okc
          refine kQ _ _ _ ⟨[], [], ⟨rs11, chn_no h0 rs11.2.2.1 eB eG, fun g X E0 L hT hf hs => ?_, eL, fun _ _ _ => ⟨rfl, rfl⟩⟩, nc11, ?_⟩
          · have ok9 : okS s9 := ⟨by rw [← a0 12]; exact hf, by rw [← a0 15]; exact hs⟩
            have o83 := (okc ok9).1
            have o32 : (s32 0 12).toInt = 0 := of0 r83.2.2.2.2.1 o83.1
            have l32 : (s32 0 15).toInt = 0 := by
              have := o83.2
              rw [rl_sil r83] at this; exact this
            obtain ⟨g1, t1, x1⟩ := te32 g X E0 0 L (by rw [Nat.zero_add]; exact hT) (by omega) o32 l32
            rw [Nat.zero_add] at t1
            obtain ⟨g2, t2, x2, o2⟩ := ts g1 X E0 L t1 hf hs
            exact ⟨g2, t2, ext_tr x1 x2 (by omega), o2⟩
          · have := nc10.2
            have mp := rF.2.2.2.2.2.2.2.1
            omega
        refine ⟨fun s10 t10 z10 => t8 = t10 ∧ z8 = z10 ∧ ((x4.toInt < 0 → s10 = s9) ∧ (0 ≤ x4.toInt → s10 = aimS s9 (x4.toInt - 1).toNat)), ?_, fun c => ⟨rfl, rfl, fun _ => rfl, fun c2 => by omega⟩, fun c => ?_⟩
        · rintro s10 _ _ ⟨rfl, rfl, e10⟩
          exact fin s10 e10
        · have hx := hx4 c
          exact sp_aim (p := (x4.toInt - 1).toNat) (by omega) (by omega) ⟨rfl, rfl, fun c2 => by omega, fun _ => rfl⟩
      refine sp_is hP92 (fun hk5 => ⟨fun s t z => RL s92 z83 s t z ∧ NCt s92 z83 s z 0 ∧ TE s92 s 501 0 0, fun s t z h => B116 s t z h, fun _ => ⟨rl_rf hP92, nct_rf, te_rf⟩, no1⟩) (fun hk5 => ⟨fun s t z => RL s92 z83 s t z ∧ NCt s92 z83 s z 0 ∧ TE s92 s 501 0 0, fun s t z h => B116 s t z h, no0, fun _ => sp_plain hP92 hBC (fun s t z r nc p te => ⟨r, nct_le nc (by omega), te⟩) (fun s' t' z' hs => kT _ _ _ (rt_rtx (rt_of rC ncC.2.2 hs)))⟩)
    refine sp_is hP32 (fun hk4 => ⟨fun x4 s t z => RL s32 z29 s t z ∧ NCt s32 z29 s z 0 ∧ CTt s32 s x4.toInt ∧ (0 ≤ x4.toInt → (s32 0 17).toInt + 1 ≤ x4.toInt ∧ x4.toInt + 1 = (s 0 17).toInt), fun x4 s t z h => B83 x4 s t z h, fun _ => ⟨rl_rf hP32, nct_rf, Or.inl ⟨by decide, te_rf⟩, fun c => absurd c (by decide)⟩, no1⟩) (fun hk4 => ⟨fun x4 s t z => RL s32 z29 s t z ∧ NCt s32 z29 s z 0 ∧ CTt s32 s x4.toInt ∧ (0 ≤ x4.toInt → (s32 0 17).toInt + 1 ≤ x4.toInt ∧ x4.toInt + 1 = (s 0 17).toInt), fun x4 s t z h => B83 x4 s t z h, no0, fun _ => ?_⟩)
    refine sx_expr 1 s32 t29 z29 _ T (by decide) hP32 hB32 (fun u s t z r => ?_) (fun s' t' z' hs => kT _ _ _ (rt_rtx (rt_of r32 nc32.2.2 hs)))
    refine sp_read r.1.2.1 (re_nb hB32 r) r.2.2.1.1 (fun s2 hrd => ?_)
    obtain ⟨g1, g2, g3, g4, g5, g6, g7, g8⟩ := re_read hP32 r hrd (by omega)
    have hP2 := g1.2.1
    have h02 := hP2.2.2.1.2.2.2.2.1
    have hu := r.2.2.1.1
    have hc2 := nb_cap (nb_of hB32 g1 (by omega) (by omega) g5) hP2
    have fin2 : ∀ y : Int32, (y.toInt ≠ 0 → (upC t u 1 (0 : Int32) u 0).toInt ≠ -1) → wp_must y tk s2 (upC t u 1 (0 : Int32)) z (fun s72 t72 z72 => wp_open (16 : Int32) s72 t72 z72 (fun v78 s78 t78 z78 => RL s32 z29 s78 t78 z78 ∧ NCt s32 z29 s78 z78 0 ∧ CTt s32 s78 v78.toInt ∧ (0 ≤ v78.toInt → (s32 0 17).toInt + 1 ≤ v78.toInt ∧ v78.toInt + 1 = (s78 0 17).toInt))) := fun y hy => by
      refine sp_must htk (fun s3 hs hf => ?_)
      have sq := sq_tl hs
      have w3 := sq_wc sq h02
      refine sp_open w3.1 (by omega) (fun v s4 p4 ev4 => ?_)
      have sq4 := sq_tr sq (sq_pu p4)
      have rC := sq_rl (vs := z) hP2 sq4
      have rC3 := sq_rl (vs := z) hP2 sq
      have P4 := pos_sq sq4
      have I4 := ic_sq sq4
      have W4 : (s4 0 17).toInt = (s3 0 17).toInt + 2 := p4.2.1
      have n3 : (wcn s3 : Int) = (s3 0 17).toInt := nt w3.1
      have mw := g1.2.2.2.2.2.1
      have mw3 := sq.2.2.2.1
      refine ⟨rl_tr g1 rC, ⟨by omega, by rw [I4]; omega, by omega⟩, Or.inr ⟨s3, by omega, ?_, p4, by omega⟩, fun _ => by omega⟩
      refine te_if (P := (upC t u 1 (0 : Int32) u 0).toInt ≠ -1) (fun f1 f2 => hy (hf f1 f2)) (fun c => ?_)
      have eu : ev (upC t u 1 (0 : Int32)) u = 1 := ev_st (by rw [rdA, if_pos rfl]; rfl) c
      rw [eu] at g6
      exact te_rl h032 g1 rC3 g6 (te_tl h02 hs)
    exact sp_isAny hu (fun c => fin2 1 (fun _ => by omega)) (fun _ => fin2 0 no0)
  refine sp_is hP13 (fun hk1 => ⟨fun s t z => RL σ vs s t z ∧ NCt σ vs s z 80 ∧ TE σ s 501 0 0, fun s t z h => B29 s t z h, fun _ => ⟨r13, nc13, te13⟩, no1⟩) (fun hk1 => ⟨fun s t z => RL σ vs s t z ∧ NCt σ vs s z 80 ∧ TE σ s 501 0 0, fun s t z h => B29 s t z h, no0, fun _ => ?_⟩)
  exact sp_plain hP13 (nct_nb hB (rs_rl r13) nc13 (by omega)) (fun s t z r nc p te => ⟨rl_tr r13 r, nct_le (nct_tr nc13 nc) (by omega), te_rl h0 r13 r te13 te⟩) (fun s' t' z' hs => kT _ _ _ (rt_rtx (rt_of r13 nc13.2.2 hs)))
end FOR
