/-! while, do, for -/
abbrev KL : Type := Int32 → Int32 → Int32 → St → St → List Nat → (St → St → List Nat → Prop) → (St → St → List Nat → Prop) → Prop
def LT (s2 s3 : St) (top : Int) (B : List Nat) : Prop := ∀ g X E0 L, TY s2 g X E0 0 L → (0 ≤ top → ∃ kT, g top.toNat = some (0, kT) ∧ kT ≤ L + 1) → (s3 0 12).toInt = 0 → (s3 0 15).toInt = 0 → ∃ g', TY s3 g' (Xh X B) E0 0 (if 0 ≤ top then L + 2 else L + 1) ∧ Ext g g' (wcn s2) ∧ ∀ b ∈ B, Hol (s3 8) g' (L + 2) b
section WHI
variable {σ s s' τ t t' : St} {vs z z' : List Nat} {g g' : Gh} {X X' : Nat → Prop} {E0 H L : Nat}
/-- a jump back -/
theorem ty_back {tp : Int32} {T kT L' : Nat} (h : TY σ g X E0 0 L) (h0 : 0 ≤ (σ 0 17).toInt) (p : PU σ s [15, tp]) (ht : tp.toInt = (T : Int)) (hg : g T = some (0, kT)) (hk : kT < L) : ∃ g', TY s g' X E0 0 L' ∧ Ext g g' (wcn σ) := by
  obtain ⟨g1, t1, x1, -⟩ := ty_put1 (H' := 0) (L' := L') (n := 2) (k := 15) h h0 p rfl (by decide) rfl rfl (fun g' x hg9 hn hx => by
    have e : x = (T : Int) := by rw [hx _ rfl, ht]
    rw [e]
    exact ⟨by omega, ⟨by omega, kT, by rw [Int.toNat_natCast]; exact hg9 _ _ hg, Or.inl hk⟩, by rw [hn]; exact fun c => by cases c⟩)
  exact ⟨g1, t1, x1⟩
theorem hol_kp {w w' : Nat → Int32} {b n : Nat} (h : Hol w g L b) (hb : b < n) (he : Ext g g' n) (hw : ∀ q, q < n → w' q = w q) : Hol w' g' L b := ho_mono h hb he hw
theorem ts_while {s0 s1 s2 s3 s3' s4 s6 : St} {tp : Int32} {B : List Nat} (h0 : 0 ≤ (s0 0 17).toInt) (c1 : TE s0 s1 501 0 1) (w1 : (s0 0 17).toInt ≤ (s1 0 17).toInt) (p2 : PU s1 s2 [16, -1]) (ht : tp.toInt = (s0 0 17).toInt) (hl : LT s2 s3 tp.toInt B) (r3 : RW s2 s3) (w3 : (s2 0 17).toInt ≤ (s3 0 17).toInt) (hb : ∀ b ∈ B, wcn s2 < b ∧ b < wcn s3) (e3 : RSt s3 vs s3' t z) (e3w : (s3' 0 17) = (s3 0 17)) (e3x : ∀ q, (s3' 8) q = (s3 8) q) (p4 : PU s3' s4 [15, tp]) (al : ALx (aimS s4 (wcn s1)) s6 B (s4 0 17)) (f1 : OF s1 s3) (l1 : (s3 0 15) = (s1 0 15)) (f3 : OF s3 s4) (l3 : (s4 0 15) = (s3 0 15)) : TSt s0 s6 0 0 [] [] := by
  intro g X E0 L hT hf hs
  have a0 : ∀ j, s6 0 j = s4 0 j := fun j => al.1 0 j rfl rfl
  have W2 : (s2 0 17).toInt = (s1 0 17).toInt + 2 := p2.2.1
  have W3 : (s3' 0 17).toInt = (s3 0 17).toInt := by rw [e3w]
  have W4 : (s4 0 17).toInt = (s3' 0 17).toInt + 2 := p4.2.1
  have n0 : (wcn s0 : Int) = (s0 0 17).toInt := nt h0
  have n1 : (wcn s1 : Int) = (s1 0 17).toInt := nt (by omega)
  have n2 : (wcn s2 : Int) = (s2 0 17).toInt := nt (by omega)
  have n3 : (wcn s3 : Int) = (s3 0 17).toInt := nt (by omega)
  have n3' : wcn s3' = wcn s3 := by unfold wcn; rw [e3w]
  have n4 : (wcn s4 : Int) = (s4 0 17).toInt := nt (by omega)
  have hf4 : (s4 0 12).toInt = 0 := by rw [← a0 12]; exact hf
  have hs4 : (s4 0 15).toInt = 0 := by rw [← a0 15]; exact hs
  have hf3 := of0 f3 hf4
  have hs3 : (s3 0 15).toInt = 0 := by rw [← l3]; exact hs4
  obtain ⟨g1, t1, x1⟩ := c1 g X E0 0 L (by rw [Nat.zero_add]; exact hT) (by omega) (of0 f1 hf3) (by rw [← l1]; exact hs3)
  rw [Nat.zero_add] at t1
  obtain ⟨g2, t2, x2, a2, b2⟩ := ty_hole2 (H' := 0) (L' := L) t1 (by omega) p2 rfl
  have top0 : g2 tp.toInt.toNat = some (0, L) := by
    have : tp.toInt.toNat = wcn s0 := by omega
    rw [this, x2 _ (by omega), x1 _ (Nat.le_refl _)]
    exact hT.2.1
  obtain ⟨g3, t3, x3, o3⟩ := hl g2 _ E0 L t2 (fun _ => ⟨L, top0, by omega⟩) hf3 hs3
  rw [if_pos (by omega)] at t3
  have t3' := ty_rs t3 (by omega) e3 e3w
  obtain ⟨g4, t4, x4⟩ := ty_back (L' := L) (T := wcn s0) (kT := L) t3' (by omega) p4 (by omega) (by
    have : g3 (wcn s0) = g2 (wcn s0) := x3 _ (by omega)
    rw [this]
    have e : wcn s0 = tp.toInt.toNat := by omega
    rw [e]; exact top0) (by omega)
  rw [n3'] at x4
  have k1 : g4 (wcn s1) = some (1, L) := by rw [x4 _ (by omega), x3 _ (by omega), a2]
  have k2 : g4 (wcn s1 + 1) = none := by rw [x4 _ (by omega), x3 _ (by omega), b2]
  have k3 : g4 (wcn s1 + 2) = some (0, L) := by
    have : wcn s1 + 2 = wcn s2 := by omega
    rw [this, x4 _ (by omega), x3 _ (by omega)]
    exact t2.2.1
  have o1 : (s4 8) (wcn s1) = 16 := by
    rw [p4.2.2.1 _ (by omega), e3x, r3 _ (by omega)]
    exact p2.2.2.2 0 _ rfl
  have t5 : TY (aimS s4 (wcn s1)) g4 (Xh X B) E0 0 L := by
    refine ty_aim (ty_X t4 (fun q hq => ?_)) (by omega) (by omega) k2 (fun h k hh => ?_)
    · rcases hq with (hq | hq) | hq
      · exact Or.inl (Or.inl hq)
      · exact Or.inr hq
      · exact Or.inl (Or.inr hq)
    · rw [k1] at hh
      cases hh
      exact okc_br o1 (Or.inl rfl) (by omega) (by omega) ⟨by omega, L, t4.2.1, Or.inr ⟨rfl, by omega⟩⟩ ⟨by omega, L, k3, Or.inr ⟨rfl, by omega⟩⟩
  have oB : ∀ b ∈ B, Hol ((aimS s4 (wcn s1)) 8) g4 (L + 2) b := fun b hb9 => hol_aim (ho_mono (o3 b hb9) (hb b hb9).2 x4 (fun q hq => by rw [p4.2.2.1 q (by omega), e3x])) k2
  have t6 := ty_aimall (G := []) (T := wcn s4) (kT := L) (ty_X t5 (fun q hq => hq.imp id (fun h => by rw [List.append_nil]; exact h))) al (fun b hb9 => hol_le (oB b hb9) (by omega)) n4.symm t4.2.1 (fun b _ => List.not_mem_nil) (fun b hb9 => absurd hb9 List.not_mem_nil)
  exact ⟨g4, ty_X t6 (fun q hq => Or.inl (hq.elim id (fun c => absurd c List.not_mem_nil))), ext_tr (ext_tr (ext_tr x1 x2 (by omega)) x3 (by omega)) x4 (by omega), fun b hb9 => absurd hb9 List.not_mem_nil⟩
theorem nct_aim {p : Nat} {c : Int} (h : NCt σ vs s z c) : NCt σ vs (aimS s p) z c := h
theorem nct_al {B : List Nat} {to : Int32} {c : Int} (h : NCt σ vs s z c) (al : ALx s s' B to) : NCt σ vs s' z c ∧ pos s' = pos s := by
  have a0 : ∀ j, s' 0 j = s 0 j := fun j => al.1 0 j rfl rfl
  have afr : (s' 3) = (s 3) := funext (fun j => al.1 3 j rfl rfl)
  have aP : pos s' = pos s := by unfold pos; rw [afr, a0]
  unfold NCt
  rw [aP, a0, a0]
  exact ⟨h, rfl⟩
theorem sp_while {k4 : KL} {d : Int} (hL : SSl k4 d) {a : Int32} {Q T : St → St → List Nat → Prop} (had : a.toInt = d) (hP : PA σ τ) (hS : PSt σ) (hB : NB σ vs) (hk : kd σ = 11) (kQ : ∀ s t z, PQ σ vs s t z → Q s t z) (kT : ∀ s t z, RTt σ vs s t z → T s t z) : wp_condition (σ 0 10) (upC σ 0 10 ((σ 0 10) + (1 : Int32))) τ vs (fun s206 t206 z206 => wp_open (16 : Int32) s206 t206 z206 (fun v212 s212 t212 z212 => k4 a (σ 0 10) (σ 0 17) s212 t212 z212 (fun s221 t221 z221 => wp_put_1 (15 : Int32) (σ 0 17) (upC s221 0 58 (s221 0 60)) t221 z221 (fun s242 t242 z242 => wp_aim v212 s242 t242 z242 (fun s248 t248 z248 => wp_aimAll (s221 0 58) (s248 0 17) s248 t248 z248 (fun s258 t258 z258 => Q s258 t258 z258)))) T)) T := by
  have h0 := hP.2.2.1.2.2.2.2.1
  have htk := at_tok hP.1 hP.2.1
  obtain ⟨rn, pn, wn, icn⟩ := rl_nxt (vs := vs) hP (by omega)
  have hPn := rn.2.1
  have h0n := hPn.2.2.1.2.2.2.2.1
  have hBn : NB (nxt σ) vs := nb_of hB rn (by omega) (by omega) (by omega)
  rw [show upC σ 0 10 ((σ 0 10) + (1 : Int32)) = nxt σ from rfl]
  refine sp_condition hPn hBn htk (fun s1 t1 z1 r1 nc1 te1 => ?_) (fun s' t' z' hs => kT _ _ _ (rt_rtx (rt_of rn (by omega) hs)))
  have hP1 := r1.2.1
  have h01 := hP1.2.2.1.2.2.2.2.1
  have hB1 := nb_of hBn r1 (by have := nc1.1; omega) nc1.2.1 nc1.2.2
  have hc1 := nb_cap hB1 hP1
  refine sp_open h01 (by omega) (fun v s2 p2 ev2 => ?_)
  have rl2 := rl_pu (vs := z1) (z := z1) hP1 p2 hP1.2.2.2.2 (fun _ h => h) (Nat.le_refl _)
  have W2 : (s2 0 17).toInt = (s1 0 17).toInt + 2 := p2.2.1
  have P2 := pos_sq (sq_pu p2)
  have I2 := ic_sq (sq_pu p2)
  have rA := rl_tr rn (rl_tr r1 rl2)
  obtain ⟨m1, m2, m3⟩ := nc1
  have ncA : NCt σ vs s2 z1 58 := ⟨by omega, by rw [I2]; omega, by omega⟩
  have hBA := nct_nb hB (rs_rl rA) ncA (by omega)
  have szA := rl_sz rA
  have hp2 := pos_in rl2.2.1.1 rl2.2.1.2.1
  have mw1 := r1.2.2.2.2.2.1
  have hS2 := ps_rs hS (rs_rl rA)
  have hbb : (s2 0 17).toInt + 2 + 40 * ((s2 0 9).toInt - pos s2) ≤ 410000 := by
    obtain ⟨b1, -⟩ := hB
    obtain ⟨n1, -⟩ := ncA
    rw [szA]
    omega
  refine hL a _ _ s2 t1 z1 _ T had rl2.2.1 hS2 hBA hbb htk (by omega) (fun s3 t3 z3 lq => ?_) (fun s' t' z' hs => kT _ _ _ (rt_rs (rs_rl rA) (by omega) hs))
  obtain ⟨r3, nc3, p3, lo3, go3, ob3, B, hBb, hC, hLT⟩ := lq
  have hP3 := r3.2.1
  have h03 := hP3.2.2.1.2.2.2.2.1
  have rsA3 := rs_tr (rs_rl rA) r3
  have nc03 := nct_tr ncA nc3
  have hc3 := nb_cap (nct_nb hB rsA3 nc03 (by omega)) hP3
  have r3' : RSt s3 z3 (upC s3 0 58 (s3 0 60)) t3 z3 := rs_f (rs_rf hP3) (by omega)
  have w3' : ((upC s3 0 58 (s3 0 60)) 0 17) = (s3 0 17) := rfl
  have x3' : ∀ q, ((upC s3 0 58 (s3 0 60)) 8) q = (s3 8) q := fun _ => rfl
  have b3' : ((upC s3 0 58 (s3 0 60)) 0 58) = (s2 0 58) := by rw [rdA_eq rfl]; exact ob3
  have g3' : ((upC s3 0 58 (s3 0 60)) 0 59) = (s3 0 59) := rfl
  have l3' : ((upC s3 0 58 (s3 0 60)) 0 57) = (s3 0 57) := rfl
  have f3' : ((upC s3 0 58 (s3 0 60)) 0 12) = (s3 0 12) := rfl
  have si3' : ((upC s3 0 58 (s3 0 60)) 0 15) = (s3 0 15) := rfl
  have ps3' : pos (upC s3 0 58 (s3 0 60)) = pos s3 := rfl
  have ic3' : ((upC s3 0 58 (s3 0 60)) 0 39) = (s3 0 39) := rfl
  generalize (upC s3 0 58 (s3 0 60)) = s3p at *
  have hP3p := r3'.2.1
  refine sp_put_1 (by rw [w3']; exact h03) (by rw [w3']; omega) (fun s4 p4 => ?_)
  have W4 : (s4 0 17).toInt = (s3 0 17).toInt + 2 := by rw [p4.2.1, w3']; rfl
  have rl4 := rl_pu (vs := z3) (z := z3) hP3p p4 hP3p.2.2.2.2 (fun _ h => h) (Nat.le_refl _)
  have n0 : (wcn σ : Int) = (σ 0 17).toInt := nt h0
  have n1 : (wcn s1 : Int) = (s1 0 17).toInt := nt h01
  have n2 : (wcn s2 : Int) = (s2 0 17).toInt := nt (by omega)
  have n3 : (wcn s3 : Int) = (s3 0 17).toInt := nt h03
  have m3w := r3.2.2.2.2.2.1
  refine sp_aim (p := wcn s1) (by omega) (by omega) ?_
  have rs4 := rs_tr rsA3 (rs_tr r3' (rs_rl rl4))
  have rs5 := rs_aim (p := wcn s1) rs4 (by omega)
  have C5 : Ch ((aimS s4 (wcn s1)) 8) (s3 0 58).toInt B := ch_w (fun b hb => by
    show upC s4 8 (wcn s1 + 1) _ 8 b = _
    have := hBb b hb
    rw [rdA_ne (by omega), p4.2.2.1 b (by rw [w3']; omega), x3']) hC
  refine sp_aimAll C5 (fun b hb => by have := (hBb b hb).2; omega) (fun s6 al => ?_)
  have rs6 := rs_al rs5 al (fun b hb => by have := (hBb b hb).1; omega) h0
  have a0 : ∀ j, s6 0 j = s4 0 j := fun j => al.1 0 j rfl rfl
  have P4 : pos s4 = pos s3 := (pos_sq (sq_pu p4)).trans ps3'
  have I4 : (s4 0 39) = (s3 0 39) := (ic_sq (sq_pu p4)).trans ic3'
  have nc4 : NCt σ vs s4 z3 0 := by
    obtain ⟨d1, d2, d3⟩ := nc03
    exact ⟨by rw [P4]; omega, by rw [I4, P4]; exact d2, by rw [P4]; exact d3⟩
  obtain ⟨nc6, P6⟩ := nct_al (nct_aim (p := wcn s1) nc4) al
  have PA4 : pos (aimS s4 (wcn s1)) = pos s4 := rfl
  have eB : (s6 0 58) = (σ 0 58) := by
    rw [a0 58, p4.1 0 58 rfl rfl, b3']
    exact rA.1 0 58 rfl rfl
  have eG : (s6 0 59) = (σ 0 59) := by
    rw [a0 59, p4.1 0 59 rfl rfl, g3', go3]
    exact rA.1 0 59 rfl rfl
  have eL : (s6 0 57) = (σ 0 57) := by
    rw [a0 57, p4.1 0 57 rfl rfl, l3', lo3]
    exact rA.1 0 57 rfl rfl
  have f34 : (s4 0 12) = (s3 0 12) := (p4.1 0 12 rfl rfl).trans f3'
  have l34 : (s4 0 15) = (s3 0 15) := (p4.1 0 15 rfl rfl).trans si3'
  have f12 : (s2 0 12) = (s1 0 12) := p2.1 0 12 rfl rfl
  have l12 : (s2 0 15) = (s1 0 15) := p2.1 0 15 rfl rfl
  have ts := ts_while (vs := z3) (s0 := nxt σ) (tp := σ 0 17) h0n te1 mw1 p2 rfl hLT r3.2.2.1 m3w hBb r3' w3' x3' p4 al (of_tr (of_eq f12) r3.2.2.2.2.1) (by rw [rs_sil r3, l12]) (of_eq f34) l34
  refine kQ _ _ _ ⟨[], [], ⟨rs6, chn_no h0 rs6.2.2.1 eB eG, fun g X E0 L hT hf hs => ?_, eL, fun _ _ _ => ⟨rfl, rfl⟩⟩, nc6, by omega⟩
  exact ts g X E0 L (ty_same hT h0 rfl rn.2.2.1 (ev_ke rn.1 rn.2.2.2.1)) hf hs
end WHI
