/-! statements: inner ones, blocks, jumps -/
section ST3
variable {σ s s' τ t t' : St} {vs z z' : List Nat} {g g' : Gh} {X X' : Nat → Prop} {E0 H L : Nat}
theorem ty_hole2 {ws : List Int32} {H' L' : Nat} (h : TY σ g X E0 H L) (h0 : 0 ≤ (σ 0 17).toInt) (p : PU σ s ws) (hn : ws.length = 2) :
    ∃ g', TY s g' (fun q => X q ∨ q = wcn σ) E0 H' L' ∧ Ext g g' (wcn σ) ∧ g' (wcn σ) = some (H, L) ∧ g' (wcn σ + 1) = none := by
  obtain ⟨g', h1, h2, h3⟩ := ty_ext2 (X' := fun q => X q ∨ q = wcn σ) (H' := H') (L' := L') h h0 (by decide : 0 < 2) (by rw [p.2.1, hn]) p.2.2.1 (ev_pu p) (fun _ h => Or.inl h) (fun g' hg c1 c2 hx => absurd (Or.inr rfl) hx)
  refine ⟨g', h1, h2, ?_, h3 _ (by omega) (by omega)⟩
  rw [h2 _ (Nat.le_refl _)]
  exact h.2.1
theorem rs_aim {p : Nat} (r : RSt σ vs s t z) (hp : (σ 0 17).toInt ≤ (p + 1 : Nat)) : RSt σ vs (aimS s p) t z := by
  obtain ⟨h1, h2, h3, h4, h5, h6, h7, h8, h9, h10, h11, h12⟩ := r
  exact ⟨kp_a h1 rfl, ⟨tk_kp (fs := []) (cs := [8]) (kp_a kp_rf rfl) rfl rfl ⟨rfl, rfl, rfl, rfl, rfl⟩ rfl h2.1, h2.2.1, h2.2.2.1, h2.2.2.2.1, h2.2.2.2.2⟩, fun j hj => by
    show upC s 8 (p + 1) _ 8 j = _
    rw [rdA_ne (by omega)]
    exact h3 j hj, h4, h5, h6, h7, h8, h9, h10, h11, h12⟩
theorem chn_aim {p : Nat} {B G : List Nat} (h : CHN σ s B G) (hp : wcn σ ≤ p) (hB : ∀ b ∈ B, b ≠ p + 1) (hG : ∀ b ∈ G, b ≠ p + 1) : CHN σ (aimS s p) B G := by
  obtain ⟨c1, c2, c3, c4, c5⟩ := h
  refine ⟨c1, c2, c3, fun A hA hC => ch_w (fun b hb => ?_) (c4 A hA hC), fun A hA hC => ch_w (fun b hb => ?_) (c5 A hA hC)⟩
  · show upC s 8 (p + 1) _ 8 b = _
    refine rdA_ne ?_
    rcases List.mem_append.mp hb with k | k
    · exact hB b k
    · have := hA b k; omega
  · show upC s 8 (p + 1) _ 8 b = _
    refine rdA_ne ?_
    rcases List.mem_append.mp hb with k | k
    · exact hG b k
    · have := hA b k; omega
theorem hol_aim {p b : Nat} (h : Hol (s 8) g L b) (hg : g (p + 1) = none) : Hol ((aimS s p) 8) g L b := by
  obtain ⟨q, k, h1, h2, h3, h4, h5, h6⟩ := h
  refine ⟨q, k, h1, h2, h3, h4, ?_, h6⟩
  show upC s 8 (p + 1) _ 8 q = _
  rw [rdA_ne]
  · exact h5
  · intro e
    rw [e, hg] at h2
    cases h2
theorem sp_inner {k1 k2 k3 : KZ} {k4 : Int32 → Int32 → Int32 → St → St → List Nat → (St → St → List Nat → Prop) → (St → St → List Nat → Prop) → Prop} {k5 k6 : Int32 → KZ} {d : Int} (hd : 0 ≤ d ∧ d ≤ 25) (hK : SS k1 (d + 1)) : SS (wp_inner k1 k2 k3 k4 k5 k6) d := by
  intro a σ τ vs Q T had hP hS hB kQ kT
  unfold wp_inner
  have h0 := hP.2.2.1.2.2.2.2.1
  have r1 : RSt σ vs (upC σ 0 54 ((σ 0 54) + (1 : Int32))) τ vs := rs_f (rs_rf hP) (by omega)
  have sr1 : SRt σ vs 0 0 (upC σ 0 54 ((σ 0 54) + (1 : Int32))) τ vs [] [] := ⟨r1, chn_no h0 (fun _ _ => rfl) rfl rfl, fun g X E0 L hT hf hs => ⟨g, ty_X (ty_rs hT h0 r1 rfl) (fun q hq => Or.inl hq), ext_rf, fun b hb => absurd hb List.not_mem_nil⟩, rfl, fun _ _ _ => ⟨rfl, rfl⟩⟩
  refine hK (a + 1) _ τ vs _ T (by rw [ad1 (by omega)]; omega) r1.2.1 (ps_rs hS r1) hB (fun s t z pq => ?_) (fun s' t' z' hs => kT _ _ _ (rt_rs r1 (by show (vs.length : Int) ≤ vs.length + 2 * (pos σ - pos σ); omega) hs))
  obtain ⟨B, G, sr, nc, p⟩ := pq
  have hPs := sr.1.2.1
  refine sp_close hPs (fun s2 q2 => ?_)
  obtain ⟨a1, a2⟩ := qt_sr (a := 0) hPs.2.2.1.2.2.2.2.1 q2
  have P2 := (qt_pos q2).1
  have sra := sr_tr h0 (sr_tr h0 sr1 sr) a1
  have nca : NCt σ vs s2 z 0 := nct_tr (c := 0) (d := 0) nc a2
  have pp : pos σ < pos s2 := by rw [P2]; exact p
  exact kQ _ _ _ ⟨_, _, sra, nca, pp⟩
theorem sp_block {k1 k2 k3 : KZ} {k4 : Int32 → Int32 → Int32 → St → St → List Nat → (St → St → List Nat → Prop) → (St → St → List Nat → Prop) → Prop} {k5 k6 : Int32 → KZ} {d : Int} (hd : 0 ≤ d ∧ d ≤ 25) (hK : SS k1 (d + 1)) : SS (wp_block k1 k2 k3 k4 k5 k6) d := by
  intro a σ τ vs Q T had hP hS hB kQ kT
  unfold wp_block
  have h0 := hP.2.2.1.2.2.2.2.1
  refine sp_expect hP (by decide) (fun hk rn pn wn icn => ?_) (fun s hs => kT _ _ _ (rt_rtx hs))
  have hPn := rn.2.1
  have h0n := hPn.2.2.1.2.2.2.2.1
  have srn : SRt σ vs 0 0 (nxt σ) τ vs [] [] := sr_rl h0 rn (te_nxt (N := 0) h0 rn) (by omega)
  have r1 : RSt (nxt σ) vs (upC (nxt σ) 0 54 (((nxt σ) 0 54) + (1 : Int32))) τ vs := rs_f (rs_rf hPn) (by omega)
  have sr1 : SRt (nxt σ) vs 0 0 (upC (nxt σ) 0 54 (((nxt σ) 0 54) + (1 : Int32))) τ vs [] [] := ⟨r1, chn_no h0n (fun _ _ => rfl) rfl rfl, fun g X E0 L hT hf hs => ⟨g, ty_X (ty_rs hT h0n r1 rfl) (fun q hq => Or.inl hq), ext_rf, fun b hb => absurd hb List.not_mem_nil⟩, rfl, fun _ _ _ => ⟨rfl, rfl⟩⟩
  have srA := sr_tr h0 srn sr1
  have PA_ : pos (upC (nxt σ) 0 54 (((nxt σ) 0 54) + (1 : Int32))) = pos (nxt σ) := rfl
  refine ⟨fun n s t z => n = ((σ 0 9).toInt - pos s).toNat ∧ pos σ < pos s ∧ NCt σ vs s z 0 ∧ ∃ B G, SRt σ vs 0 0 s t z B G, ⟨_, rfl, by rw [PA_]; omega, ⟨by rw [PA_]; show ((nxt σ) 0 17).toInt + 0 ≤ _; omega, by rw [PA_]; show ((nxt σ) 0 39).toInt ≤ _; omega, by rw [PA_]; omega⟩, _, _, srA⟩, ?_⟩
  rintro n s t z ⟨hn, hp, nc, B, G, sr⟩
  have hPs := sr.1.2.1
  have h0s := hPs.2.2.1.2.2.2.2.1
  refine sp_is hPs (fun hk2 => ⟨fun _ => ?_, no1⟩) (fun hk2 => ⟨no0, fun _ => ?_⟩)
  · have hk2' : kd s = 55 := hk2
    obtain ⟨ro, po, wo, ico⟩ := rl_nxt (vs := z) hPs (by omega)
    have sro := sr_tr h0 sr (sr_rl h0s ro (te_nxt (N := 0) h0s ro) (by omega))
    show wp_close (nxt s) t z _
    refine sp_close ro.2.1 (fun s2 q2 => ?_)
    obtain ⟨a1, a2⟩ := qt_sr (a := 0) ro.2.1.2.2.1.2.2.2.2.1 q2
    have P2 := (qt_pos q2).1
    obtain ⟨n1, n2, n3⟩ := nc
    have nco : NCt σ vs (nxt s) z 0 := ⟨by omega, by omega, by omega⟩
    exact kQ _ _ _ ⟨_, _, sr_tr h0 sro a1, nct_tr (c := 0) (d := 0) nco a2, by omega⟩
  · refine hK (a + 1) s t z _ T (by rw [ad1 (by omega)]; omega) hPs (ps_rs hS sr.1) (nct_nb hB sr.1 nc (by omega)) (fun s2 t2 z2 pq => ?_) (fun s' t' z' hs => kT _ _ _ (rt_rs sr.1 nc.2.2 hs))
    obtain ⟨B2, G2, sr2, nc2, p2⟩ := pq
    have hp2 := pos_in sr2.1.2.1.1 sr2.1.2.1.2.1
    have sz2 := rs_sz (rs_tr sr.1 sr2.1)
    exact ⟨((σ 0 9).toInt - pos s2).toNat, by omega, rfl, by omega, nct_tr (c := 0) (d := 0) nc nc2, _, _, sr_tr h0 sr sr2⟩
/-- an if without else, behind its condition -/
theorem ts_if {s1 s2 s3 : St} {B G : List Nat} (h0 : 0 ≤ (s1 0 17).toInt) (p2 : PU s1 s2 [16, -1]) (hi : TSt s2 s3 0 0 B G) (r3 : RW s2 s3) (w3 : (s2 0 17).toInt ≤ (s3 0 17).toInt) (hb : ∀ b ∈ B ++ G, wcn s2 < b) : TSt s1 (aimS s3 (wcn s1)) 1 0 B G := by
  intro g X E0 L hT hf hs
  have W2 : (s2 0 17).toInt = (s1 0 17).toInt + 2 := p2.2.1
  have n1 : (wcn s1 : Int) = (s1 0 17).toInt := nt h0
  have n2 : (wcn s2 : Int) = (s2 0 17).toInt := nt (by omega)
  have n3 : (wcn s3 : Int) = (s3 0 17).toInt := nt (by omega)
  obtain ⟨g1, t1, x1, a1, b1⟩ := ty_hole2 (H' := 0) (L' := L) hT h0 p2 rfl
  obtain ⟨g2, t2, x2, o2⟩ := hi g1 _ E0 L t1 hf hs
  have k1 : g2 (wcn s1) = some (1, L) := by rw [x2 _ (by omega), a1]
  have k2 : g2 (wcn s1 + 1) = none := by rw [x2 _ (by omega), b1]
  have k3 : g2 (wcn s1 + 2) = some (0, L) := by
    have : wcn s1 + 2 = wcn s2 := by omega
    rw [this, x2 _ (by omega)]
    exact t1.2.1
  have o1 : (s3 8) (wcn s1) = 16 := by
    rw [r3 _ (by omega)]
    exact p2.2.2.2 0 _ rfl
  refine ⟨g2, ty_aim (ty_X t2 (fun q hq => ?_)) (by omega) (by omega) k2 (fun h k hh => ?_), ext_tr x1 x2 (by omega), fun b hb => hol_aim (o2 b hb) k2⟩
  · rcases hq with (hq | hq) | hq
    · exact Or.inl (Or.inl hq)
    · exact Or.inr hq
    · exact Or.inl (Or.inr hq)
  · rw [k1] at hh
    cases hh
    exact okc_br o1 (Or.inl rfl) (by omega) (by omega) ⟨by omega, L, t2.2.1, Or.inr ⟨rfl, by omega⟩⟩ ⟨by omega, L, k3, Or.inr ⟨rfl, by omega⟩⟩
theorem ts_ifelse {s1 s2 s3 s4 s5 s6 s7 : St} {B G B' G' : List Nat} (h0 : 0 ≤ (s1 0 17).toInt) (p2 : PU s1 s2 [16, -1]) (hi : TSt s2 s3 0 0 B G) (r3 : RW s2 s3) (w3 : (s2 0 17).toInt ≤ (s3 0 17).toInt) (hb : ∀ b ∈ B ++ G, wcn s2 < b ∧ b < wcn s3) (p4 : PU s3 s4 [15, -1]) (e5 : s5 = aimS s4 (wcn s1)) (hj : TSt s5 s6 0 0 B' G') (r6 : RW s5 s6) (w6 : (s5 0 17).toInt ≤ (s6 0 17).toInt) (hb' : ∀ b ∈ B' ++ G', wcn s5 < b) (e7 : s7 = aimS s6 (wcn s3)) (f3 : OF s3 s6) (l3 : (s6 0 15) = (s3 0 15)) : TSt s1 s7 1 0 (B' ++ B) (G' ++ G) := by
  intro g X E0 L hT hf hs
  subst e5
  subst e7
  have W2 : (s2 0 17).toInt = (s1 0 17).toInt + 2 := p2.2.1
  have W4 : (s4 0 17).toInt = (s3 0 17).toInt + 2 := p4.2.1
  have W5 : ((aimS s4 (wcn s1)) 0 17).toInt = (s4 0 17).toInt := rfl
  have n1 : (wcn s1 : Int) = (s1 0 17).toInt := nt h0
  have n2 : (wcn s2 : Int) = (s2 0 17).toInt := nt (by omega)
  have n3 : (wcn s3 : Int) = (s3 0 17).toInt := nt (by omega)
  have n4 : (wcn s4 : Int) = (s4 0 17).toInt := nt (by omega)
  have n5 : wcn (aimS s4 (wcn s1)) = wcn s4 := rfl
  have n6 : (wcn s6 : Int) = (s6 0 17).toInt := nt (by omega)
  have hf6 : (s6 0 12).toInt = 0 := hf
  have hs6 : (s6 0 15).toInt = 0 := hs
  have hf3 := of0 f3 hf6
  have hs3 : (s3 0 15).toInt = 0 := by rw [← l3]; exact hs6
  obtain ⟨g1, t1, x1, a1, b1⟩ := ty_hole2 (H' := 0) (L' := L) hT h0 p2 rfl
  obtain ⟨g2, t2, x2, o2⟩ := hi g1 _ E0 L t1 hf3 hs3
  obtain ⟨g3, t3, x3, a3, b3⟩ := ty_hole2 (H' := 0) (L' := L) t2 (by omega) p4 rfl
  have k1 : g3 (wcn s1) = some (1, L) := by rw [x3 _ (by omega), x2 _ (by omega), a1]
  have k2 : g3 (wcn s1 + 1) = none := by rw [x3 _ (by omega), x2 _ (by omega), b1]
  have k3 : g3 (wcn s1 + 2) = some (0, L) := by
    have : wcn s1 + 2 = wcn s2 := by omega
    rw [this, x3 _ (by omega), x2 _ (by omega)]
    exact t1.2.1
  have k4 : g3 (wcn s4) = some (0, L) := t3.2.1
  have o1 : (s4 8) (wcn s1) = 16 := by
    rw [p4.2.2.1 _ (by omega), r3 _ (by omega)]
    exact p2.2.2.2 0 _ rfl
  have t4 : TY (aimS s4 (wcn s1)) g3 (fun q => Xh X (B ++ G) q ∨ q = wcn s3) E0 0 L := by
    refine ty_aim (ty_X t3 (fun q hq => ?_)) (by omega) (by omega) k2 (fun h k hh => ?_)
    · rcases hq with ((hq | hq) | hq) | hq
      · exact Or.inl (Or.inl (Or.inl hq))
      · exact Or.inr hq
      · exact Or.inl (Or.inl (Or.inr hq))
      · exact Or.inl (Or.inr hq)
    · rw [k1] at hh
      cases hh
      exact okc_br o1 (Or.inl rfl) (by omega) (by omega) ⟨by omega, L, k4, Or.inr ⟨rfl, by omega⟩⟩ ⟨by omega, L, k3, Or.inr ⟨rfl, by omega⟩⟩
  obtain ⟨g5, t5, x5, o5⟩ := hj g3 _ E0 L t4 hf6 hs6
  rw [n5] at x5
  have q1 : g5 (wcn s3 + 1) = none := by rw [x5 _ (by omega), b3]
  have o6 : (s6 8) (wcn s3) = 15 := by
    rw [r6 _ (by omega)]
    show upC s4 8 (wcn s1 + 1) _ 8 (wcn s3) = _
    rw [rdA_ne (by omega)]
    exact p4.2.2.2 0 _ rfl
  have q2 : g5 (wcn s3) = some (0, L) := by rw [x5 _ (by omega), a3]
  refine ⟨g5, ty_aim (ty_X t5 (fun q hq => ?_)) (by omega) (by omega) q1 (fun h k hh => ?_), ext_tr (ext_tr (ext_tr x1 x2 (by omega)) x3 (by omega)) x5 (by omega), fun b hb9 => ?_⟩
  · rcases hq with ((hq | hq) | hq) | hq
    · exact Or.inl (Or.inl hq)
    · refine Or.inl (Or.inr ?_)
      rcases List.mem_append.mp hq with h | h
      · simp [h]
      · simp [h]
    · exact Or.inr hq
    · refine Or.inl (Or.inr ?_)
      rcases List.mem_append.mp hq with h | h
      · simp [h]
      · simp [h]
  · rw [q2] at hh
    cases hh
    refine okc_go o6 (by omega) ⟨by omega, L, t5.2.1, Or.inr ⟨rfl, by omega⟩⟩ ?_
    have : wcn s3 + 2 = wcn s4 := by omega
    rw [this, x5 _ (by omega), k4]
    exact fun q => by cases q
  · have old : b ∈ B ++ G → Hol ((aimS s6 (wcn s3)) 8) g5 L b := fun h => by
      have bb := hb b h
      have h1 : Hol ((aimS s4 (wcn s1)) 8) g3 L b := hol_aim (ho_mono (o2 b h) bb.2 x3 (fun q hq => p4.2.2.1 q (by omega))) k2
      exact hol_aim (ho_mono (n := wcn s4) h1 (by omega) x5 (fun q hq => r6 q (by omega))) q1
    have new : b ∈ B' ++ G' → Hol ((aimS s6 (wcn s3)) 8) g5 L b := fun h => hol_aim (o5 b h) q1
    rcases List.mem_append.mp hb9 with h | h
    · rcases List.mem_append.mp h with k | k
      · exact new (List.mem_append.mpr (Or.inl k))
      · exact old (List.mem_append.mpr (Or.inl k))
    · rcases List.mem_append.mp h with k | k
      · exact new (List.mem_append.mpr (Or.inr k))
      · exact old (List.mem_append.mpr (Or.inr k))
end ST3
