section
/-! names outside of functions -/
abbrev KD (σ s : St) : Prop := Kp [(0, 12), (0, 13), (0, 36), (0, 31), (0, 37)] [9, 10, 11, 12, 13, 14, 21, 18, 19, 20, 15, 16, 17] σ s
section DCG
variable {σ s s' τ t t' : St} {vs z z' : List Nat}
theorem ur_kd (h : PA σ τ) (k : KD σ s) (hE : (σ 0 36).toInt ≤ (s 0 36).toInt ∧ (s 0 36).toInt ≤ Fi σ + 100) (hd : (σ 0 37).toInt ≤ (s 0 37).toInt ∧ (s 0 37).toInt ≤ 16000) (h3 : AllIn (-1) 16001 (s 21)) (h4 : AllIn 0 8 (s 15)) (h5 : NMo s) (h7 : AllIn (-1) 10 (s 10)) (h8 : VTy s) (g1 : AllIn 0 16000 (s 17)) (g2 : AllIn 0 10 (s 16)) (ho : OF σ s) (hu : UE σ s) : UR σ vs s τ vs ∧ pos s = pos σ ∧ (s 0 17) = (σ 0 17) ∧ (s 0 39) = (σ 0 39) ∧ kd s = kd σ := by
  obtain ⟨hT, hA, ⟨n1, n2, n3, n4, n5, n6, n7⟩, ⟨a1, a2, a3, a4, a5, a6, a7, a8, a9, b1, b2, b3⟩, hV⟩ := h
  have f1 : (s 0 35) = (σ 0 35) := k _ _ rfl rfl
  have f3 : (s 0 10) = (σ 0 10) := k _ _ rfl rfl
  have f4 : (s 0 8) = (σ 0 8) := k _ _ rfl rfl
  have f5 : (s 0 15) = (σ 0 15) := k _ _ rfl rfl
  have f7 : (s 0 17) = (σ 0 17) := k _ _ rfl rfl
  have f8 : (s 0 39) = (σ 0 39) := k _ _ rfl rfl
  have f9 : (s 0 53) = (σ 0 53) := k _ _ rfl rfl
  have f10 : (s 0 49) = (σ 0 49) := k _ _ rfl rfl
  have f11 : (s 0 45) = (σ 0 45) := k _ _ rfl rfl
  have e34 : (s 34) = (σ 34) := funext (fun j => k 34 j rfl rfl)
  have e35 : (s 35) = (σ 35) := funext (fun j => k 35 j rfl rfl)
  have e31 : (s 31) = (σ 31) := funext (fun j => k 31 j rfl rfl)
  have e32 : (s 32) = (σ 32) := funext (fun j => k 32 j rfl rfl)
  have e3 : (s 3) = (σ 3) := funext (fun j => k 3 j rfl rfl)
  have e2 : (s 2) = (σ 2) := funext (fun j => k 2 j rfl rfl)
  have eK : KU σ s := kp_sub k rfl rfl
  have eF := ku_Fi eK
  have eP : pos s = pos σ := by unfold pos; rw [f3, e3]
  refine ⟨⟨eK, ⟨tk_kp k rfl rfl ⟨rfl, rfl, rfl, rfl, rfl⟩ rfl hT, by unfold AtOK; rw [f3, f4]; exact hA, ⟨by rw [f1]; exact n1, by rw [eF]; omega, by rw [f9, f10]; exact n3, by omega, by rw [f7]; exact n5, by rw [f8]; exact n6, by rw [f5]; exact n7⟩, ⟨by rw [e34]; exact a1, by rw [e35]; exact a2, h3, h4, h5, by rw [e31]; exact a6, h7, h8, by unfold HLd; rw [e35, f9, f10]; exact a9, g1, g2, by rw [e32]; exact b3⟩, hV⟩, fun j _ => k 8 j rfl rfl, ho, ⟨by rw [f7]; exact Int.le_refl _, by rw [f8]; exact Int.le_refl _, by rw [eP]; exact Int.le_refl _, hE.1, by rw [f11]; exact Int.le_refl _, hd.1⟩, fun _ h => h, Nat.le_refl _, fun j _ => k 25 j rfl rfl, hu, fun b _ => ⟨k 26 b rfl rfl, k 27 b rfl rfl, k 28 b rfl rfl, k 29 b rfl rfl, k 30 b rfl rfl, k 54 b rfl rfl⟩⟩, eP, f7, f8, by unfold kd; rw [f3, e2]⟩
/-- a new name at e -/
def DCx (σ s : St) (e : Nat) (so : Int32) (len : Int) : Prop := Kp [(0, 36), (0, 31)] [9, 13, 14, 21, 18, 19, 20] σ s ∧ (s 0 36).toInt = (σ 0 36).toInt + 1 ∧ (s 0 31).toInt = (σ 0 31).toInt + len ∧ (∀ j, (s 9) j = if j = e then so else (σ 9) j) ∧ (∀ j, (s 13) j = if j = e then 0 else (σ 13) j) ∧ (∀ j, (s 14) j = if j = e then 0 else (σ 14) j) ∧ (∀ j : Nat, (s 21) j = if (j : Int) = e - Fi σ then -1 else (σ 21) j) ∧ NMo s
theorem dc_init {so ent nf nl : Int32} {e i : Nat} (h1 : ent.toInt = (σ 0 36).toInt + 1) (h2 : (σ 0 36).toInt - Fi σ = (i : Int)) (h3 : NMo σ) (h4 : 0 ≤ nf.toInt ∧ 0 ≤ nl.toInt ∧ nf.toInt + nl.toInt ≤ 65536) (he : (e : Int) = (σ 0 36).toInt) : DCx σ (upC (upC (upC (upC (upC (upC (upC σ 0 36 ent) 9 e so) 13 e 0) 14 e 0) 21 i (-1)) 18 e nf) 19 e nl) e so 0 := by
  refine ⟨kp_a (kp_a (kp_a (kp_a (kp_a (kp_a (kp_f kp_rf rfl) rfl) rfl) rfl) rfl) rfl) rfl, ?_, ?_, fun j => ?_, fun j => ?_, fun j => ?_, fun j => ?_, fun j => ?_⟩
  · simp only [rdC, Nat.reduceEqDiff, if_true, if_false]
    exact h1
  · simp only [rdC, Nat.reduceEqDiff, if_true, if_false]
    omega
  · simp only [rdC, Nat.reduceEqDiff, if_true, if_false]
  · simp only [rdC, Nat.reduceEqDiff, if_true, if_false]
  · simp only [rdC, Nat.reduceEqDiff, if_true, if_false]
  · simp only [rdC, Nat.reduceEqDiff, if_true, if_false]
    by_cases q : j = i
    · rw [if_pos q, if_pos (by omega)]
    · rw [if_neg q, if_neg (by omega)]
  · have q1 : (upC (upC (upC (upC (upC (upC (upC σ 0 36 ent) 9 e so) 13 e 0) 14 e 0) 21 i (-1)) 18 e nf) 19 e nl) 18 j = if j = e then nf else (σ 18) j := by
      simp only [rdC, Nat.reduceEqDiff, if_true, if_false]
    have q2 : (upC (upC (upC (upC (upC (upC (upC σ 0 36 ent) 9 e so) 13 e 0) 14 e 0) 21 i (-1)) 18 e nf) 19 e nl) 19 j = if j = e then nl else (σ 19) j := by
      simp only [rdC, Nat.reduceEqDiff, if_true, if_false]
    rw [q1, q2]
    by_cases q : j = e
    · rw [if_pos q, if_pos q]
      exact h4
    · rw [if_neg q, if_neg q]
      exact h3 j
theorem sp_declare {tk so : Int32} {Q : Int32 → St → St → List Nat → Prop} (h : PA σ τ) (ht : 0 ≤ tk.toInt ∧ tk.toInt < 16002) (hl : ((σ 3) tk.toNatClampNeg).toInt ≤ ((σ 4) tk.toNatClampNeg).toInt) (hn : 0 ≤ (σ 0 31).toInt ∧ (σ 0 31).toInt + (((σ 4) tk.toNatClampNeg).toInt - ((σ 3) tk.toNatClampNeg).toInt) ≤ 60000) (k0 : ∀ s, TL σ s → ((s 0 12).toInt = 0 → (s 0 15).toInt = 0 → False) → Q (-1) s τ vs) (k : ∀ (e : Int32) s, e.toInt = (σ 0 36).toInt → (σ 0 36).toInt < Fi σ + 100 → DCx σ s e.toNatClampNeg so (((σ 4) tk.toNatClampNeg).toInt - ((σ 3) tk.toNatClampNeg).toInt) → Q e s τ vs) : wp_declare tk so σ τ vs Q := by
  have h9 := h
  obtain ⟨hT, hA, ⟨n1, n2, n3, n4, n5, n6, n7⟩, ⟨a1, a2, a3, a4, a5, a6, a7, a8, a9, b1, b2, b3⟩, hV⟩ := h9
  have hF : ((σ 22) (σ 0 35).toNatClampNeg).toInt = Fi σ := rfl
  have fr := hT.2.2.2.2.1 tk.toNatClampNeg
  have to := hT.2.2.2.2.2.1 tk.toNatClampNeg
  have es : ((σ 0 36) - ((σ 22) (σ 0 35).toNatClampNeg)).toInt = (σ 0 36).toInt - Fi σ := by rw [← hF]; exact sb (by rw [hF]; omega) (by rw [hF]; omega)
  have el : ((σ 4) tk.toNatClampNeg - (σ 3) tk.toNatClampNeg).toInt = ((σ 4) tk.toNatClampNeg).toInt - ((σ 3) tk.toNatClampNeg).toInt := sb (by omega) (by omega)
  have ee : ((σ 0 36) + (1 : Int32)).toInt = (σ 0 36).toInt + 1 := ad1 (by omega)
  unfold wp_declare
  refine ⟨by omega, fun c => ?_, fun _ => sp_tell (by decide) ht (fun s hs hf => k0 s hs hf)⟩
  rw [es] at c
  refine ⟨by omega, by omega, by omega, by omega, by omega, by omega, ht, ht, by omega, ht, ?_⟩
  have nb : (vp_nar .boolean (0 : Int32)) = 0 := by decide
  have ni : (((σ 0 36) - ((σ 22) (σ 0 35).toNatClampNeg)).toNatClampNeg : Int) = (σ 0 36).toInt - Fi σ := by rw [nt (by omega), es]
  have ne : ((σ 0 36).toNatClampNeg : Int) = (σ 0 36).toInt := nt (by omega)
  refine ⟨fun n x s t z => τ = t ∧ vs = z ∧ (n : Int) = ((σ 4) tk.toNatClampNeg).toInt - x.toInt ∧ ((σ 3) tk.toNatClampNeg).toInt ≤ x.toInt ∧ x.toInt ≤ ((σ 4) tk.toNatClampNeg).toInt ∧ DCx σ s (σ 0 36).toNatClampNeg so (x.toInt - ((σ 3) tk.toNatClampNeg).toInt), ⟨(((σ 4) tk.toNatClampNeg).toInt - ((σ 3) tk.toNatClampNeg).toInt).toNat, rfl, rfl, by omega, by omega, by omega, ?_⟩, ?_⟩
  · rw [nb]
    have := dc_init (so := so) (nf := (σ 0 31)) (e := (σ 0 36).toNatClampNeg) ee ni.symm a5 (nl := (σ 4) tk.toNatClampNeg - (σ 3) tk.toNatClampNeg) ⟨hn.1, by rw [el]; omega, by rw [el]; omega⟩ ne
    have e0 : ((σ 3) tk.toNatClampNeg).toInt - ((σ 3) tk.toNatClampNeg).toInt = 0 := by omega
    rw [e0]
    exact this
  · rintro n x s _ _ ⟨rfl, rfl, q1, q2, q3, q4⟩
    have et : (s 4) tk.toNatClampNeg = (σ 4) tk.toNatClampNeg := q4.1 _ _ rfl rfl
    refine ⟨ht, fun c2 => ?_, fun c2 => ?_⟩
    · rw [et] at c2
      have ex : x.toInt = ((σ 4) tk.toNatClampNeg).toInt := by omega
      rw [ex] at q4
      exact k _ s rfl (by omega) q4
    · rw [et] at c2
      have e1 := ad1 (x := x) (by omega)
      obtain ⟨p1, p2, p3, p4, p5, p6, p7, p8⟩ := q4
      have e2 : ((s 0 31) + (1 : Int32)).toInt = (s 0 31).toInt + 1 := ad1 (by omega)
      refine ⟨by omega, by omega, n - 1, by omega, rfl, rfl, by omega, by omega, by omega, kp_f (kp_a p1 rfl) rfl, p2, ?_, p4, p5, p6, p7, p8⟩
      rw [rdA_eq rfl, e2]
      omega
theorem ue_dc {e : Nat} {so : Int32} {len : Int} (h : PA σ τ) (he : (e : Int) = (σ 0 36).toInt) (p : DCx σ s e so len) : UE σ s := by
  obtain ⟨p1, p2, p3, p4, p5, p6, p7, p8⟩ := p
  have n2 := h.2.2.1.2.1
  refine ⟨fun j hj => ⟨?_, p1 10 j rfl rfl, p1 15 j rfl rfl, p1 12 j rfl rfl, fun q => ?_⟩, fun n hn q => ?_, fun j hj => ⟨?_, p1 17 j rfl rfl⟩⟩
  · rw [p4, if_neg (by omega)]
  · rw [p6, if_neg (by omega)]; exact q
  · rw [p7, if_neg (by omega)]; exact q
  · rw [p5, if_neg (by omega)]
theorem fc_dc {e : Nat} {so : Int32} {len : Int} (h : PA σ τ) (p : DCx σ s e so len) : AllIn (-1) 16001 (s 21) := fun j => by
  rw [p.2.2.2.2.2.2.1]
  split
  · decide
  · exact h.2.2.2.1.2.2.1 j
/-- looking up or making the name of a variable -/
def GNx (σ s τ : St) (vs : List Nat) (r : Int32) (len : Int) : Prop := UR σ vs s τ vs ∧ pos s = pos σ ∧ (s 0 17) = (σ 0 17) ∧ (s 0 39) = (σ 0 39) ∧ kd s = kd σ ∧ (s 0 37) = (σ 0 37) ∧ (s 25) = (σ 25) ∧ ((σ 0 31).toInt ≤ (s 0 31).toInt ∧ (s 0 31).toInt ≤ (σ 0 31).toInt + len ∧ (s 0 45).toInt = (σ 0 45).toInt) ∧ (r.toInt < 0 → (s 0 12).toInt = 0 → (s 0 15).toInt = 0 → False) ∧ (0 ≤ r.toInt → Fi σ ≤ r.toInt ∧ r.toInt < (s 0 36).toInt ∧ ((s 9) r.toNatClampNeg).toInt = 1) ∧ (∀ f, GOODu σ f → GOODu s f)
theorem sp_globalName {tk ty sz st ex : Int32} {Q : Int32 → St → St → List Nat → Prop} (h : PA σ τ) (ht : 0 ≤ tk.toInt ∧ tk.toInt < 16002) (hl : ((σ 3) tk.toNatClampNeg).toInt ≤ ((σ 4) tk.toNatClampNeg).toInt) (hn : 0 ≤ (σ 0 31).toInt ∧ (σ 0 31).toInt + (((σ 4) tk.toNatClampNeg).toInt - ((σ 3) tk.toNatClampNeg).toInt) ≤ 60000) (hty : 0 ≤ ty.toInt ∧ ty.toInt ≤ 10) (k : ∀ r s, GNx σ s τ vs r (((σ 4) tk.toNatClampNeg).toInt - ((σ 3) tk.toNatClampNeg).toInt) → Q r s τ vs) : wp_globalName tk ty sz st ex σ τ vs Q := by
  have h9 := h
  obtain ⟨hT, hA, ⟨n1, n2, n3, n4, n5, n6, n7⟩, ⟨a1, a2, a3, a4, a5, a6, a7, a8, a9, b1, b2, b3⟩, hV⟩ := h9
  unfold wp_globalName
  have tl : ∀ (r : Int32) s, TL σ s → (r.toInt < 0 → (s 0 12).toInt = 0 → (s 0 15).toInt = 0 → False) → (0 ≤ r.toInt → Fi σ ≤ r.toInt ∧ r.toInt < (s 0 36).toInt ∧ ((s 9) r.toNatClampNeg).toInt = 1) → ∀ s2, Kp [] [11] s s2 → Q r s2 τ vs := fun r s hs f1 f2 s2 k2 => by
    have kk : KD σ s2 := kp_tr (kp_sub hs.1 rfl rfl) (kp_sub k2 rfl rfl)
    have same : ∀ c k, ([(0, 12), (0, 13)] : List (Nat × Nat)).contains (c, k) = false → ([11] : List Nat).contains c = false → s2 c k = σ c k := fun c k h1 h2 => by rw [k2 c k rfl h2, hs.1 c k h1 rfl]
    have e36 : (s2 0 36) = (σ 0 36) := same _ _ rfl rfl
    have e37 : (s2 0 37) = (σ 0 37) := same _ _ rfl rfl
    have a21 : (s2 21) = (σ 21) := funext (fun j => same 21 j rfl rfl)
    have a15 : (s2 15) = (σ 15) := funext (fun j => same 15 j rfl rfl)
    have a18 : (s2 18) = (σ 18) := funext (fun j => same 18 j rfl rfl)
    have a19 : (s2 19) = (σ 19) := funext (fun j => same 19 j rfl rfl)
    have a10 : (s2 10) = (σ 10) := funext (fun j => same 10 j rfl rfl)
    have a9' : (s2 9) = (σ 9) := funext (fun j => same 9 j rfl rfl)
    have a17 : (s2 17) = (σ 17) := funext (fun j => same 17 j rfl rfl)
    have a16 : (s2 16) = (σ 16) := funext (fun j => same 16 j rfl rfl)
    have a14 : (s2 14) = (σ 14) := funext (fun j => same 14 j rfl rfl)
    have f12 : (s2 0 12) = (s 0 12) := k2 _ _ rfl rfl
    have f15 : (s2 0 15) = (s 0 15) := k2 _ _ rfl rfl
    have fe : (s2 0 36) = (s 0 36) := k2 _ _ rfl rfl
    have fs : (s2 9) = (s 9) := funext (fun j => k2 9 j rfl rfl)
    obtain ⟨u1, u2, u3, u4, u5⟩ := ur_kd (vs := vs) h kk (by rw [e36]; omega) (by rw [e37]; omega) (by rw [a21]; exact a3) (by rw [a15]; exact a4) (by unfold NMo; rw [a18, a19]; exact a5) (by rw [a10]; exact a7) (by unfold VTy; rw [a9', a10]; exact a8) (by rw [a17]; exact b1) (by rw [a16]; exact b2) (of_tr hs.2 (of_eq f12)) ⟨fun e _ => ⟨same 9 e rfl rfl, same 10 e rfl rfl, same 15 e rfl rfl, same 12 e rfl rfl, fun q => by rw [a14]; exact q⟩, fun n _ q => by rw [a21]; exact q, fun e _ => ⟨same 13 e rfl rfl, same 17 e rfl rfl⟩⟩
    have n31 : (s2 0 31) = (σ 0 31) := same _ _ rfl rfl
    have n45 : (s2 0 45) = (σ 0 45) := same _ _ rfl rfl
    refine k r s2 ⟨u1, u2, u3, u4, u5, e37, funext (fun j => same 25 j rfl rfl), by rw [n31, n45]; omega, by rw [f12, f15]; exact f1, by rw [fe, fs]; exact f2, fun f hg => good_ur u1 (fun q => by rw [e37]; exact itd_of (funext (fun j => same 25 j rfl rfl)) u4 q) (fun e e1 e2 e3 e4 => Or.inl ⟨by rw [← e36]; exact e2, ?_, same 17 e rfl rfl⟩) hg⟩
    have e13 : (s2 13) e = (σ 13) e := same 13 e rfl rfl
    rw [← e13]; exact e4
  refine sp_entity h ht ⟨fun c => absurd c (by decide), fun _ => ?_⟩ (fun e e1 e2 => ⟨fun c => ⟨by omega, ?_⟩, fun c => by omega⟩)
  · -- a new one
    refine sp_declare h ht hl hn (fun s hs hf => ⟨fun c => absurd c (by decide), fun _ => tl _ s hs (fun _ => hf) (fun c => absurd c (by decide)) s kp_rf⟩) (fun e s he hlt dc => ⟨fun c => ⟨by omega, by omega, by omega, ?_⟩, fun c => by omega⟩)
    have nn : (e.toNatClampNeg : Int) = (σ 0 36).toInt := by rw [nt (by omega)]; exact he
    have ue := ue_dc h nn dc
    have fc := fc_dc h dc
    obtain ⟨p1, p2, p3, p4, p5, p6, p7, p8⟩ := dc
    generalize hs3 : (upC (upC (upC s 10 e.toNatClampNeg ty) 11 e.toNatClampNeg sz) 12 e.toNatClampNeg (vp_nar .boolean st)) = s3
    have x : ∀ c k, c ≠ 10 → c ≠ 11 → c ≠ 12 → s3 c k = s c k := fun c k q1 q2 q3 => by
      rw [← hs3, rdC, if_neg q3, rdC, if_neg q2, rdC, if_neg q1]
    have x10 : ∀ k, s3 10 k = if k = e.toNatClampNeg then ty else (σ 10) k := fun k => by
      have : (s 10) k = (σ 10) k := p1 10 k rfl rfl
      rw [← this, ← hs3, rdC, if_neg (by decide), rdC, if_neg (by decide), rdA]
    have x12 : ∀ k, k ≠ e.toNatClampNeg → s3 12 k = (σ 12) k := fun k q => by
      have : (s 12) k = (σ 12) k := p1 12 k rfl rfl
      rw [← this, ← hs3, rdA, if_neg q, rdC, if_neg (by decide), rdC, if_neg (by decide)]
    have x9 : ∀ j, s3 9 j = s 9 j := fun j => x 9 j (by decide) (by decide) (by decide)
    have x0 : ∀ j, s3 0 j = s 0 j := fun j => x 0 j (by decide) (by decide) (by decide)
    have kk : KD σ s3 := by rw [← hs3]; exact kp_a (kp_a (kp_a (kp_sub p1 rfl rfl) rfl) rfl) rfl
    have e37 : (s3 0 37) = (σ 0 37) := by rw [x0]; exact p1 0 37 rfl rfl
    have e21 : (s3 21) = (s 21) := funext (fun j => x 21 j (by decide) (by decide) (by decide))
    have e15 : (s3 15) = (σ 15) := funext (fun j => by rw [x 15 j (by decide) (by decide) (by decide)]; exact p1 15 j rfl rfl)
    have e16 : (s3 16) = (σ 16) := funext (fun j => by rw [x 16 j (by decide) (by decide) (by decide)]; exact p1 16 j rfl rfl)
    have e17 : (s3 17) = (σ 17) := funext (fun j => by rw [x 17 j (by decide) (by decide) (by decide)]; exact p1 17 j rfl rfl)
    have e18 : (s3 18) = (s 18) := funext (fun j => x 18 j (by decide) (by decide) (by decide))
    have e19 : (s3 19) = (s 19) := funext (fun j => x 19 j (by decide) (by decide) (by decide))
    have e14 : ∀ j, s3 14 j = s 14 j := fun j => x 14 j (by decide) (by decide) (by decide)
    have e13 : ∀ j, s3 13 j = s 13 j := fun j => x 13 j (by decide) (by decide) (by decide)
    have ei : (s3 25) = (σ 25) := funext (fun j => by rw [x 25 j (by decide) (by decide) (by decide)]; exact p1 25 j rfl rfl)
    obtain ⟨ue1, ue2, ue3⟩ := ue
    obtain ⟨u1, u2, u3, u4, u5⟩ := ur_kd (vs := vs) h kk (by rw [x0]; omega) (by rw [e37]; omega) (by rw [e21]; exact fc) (by rw [e15]; exact a4) (by unfold NMo; rw [e18, e19]; exact p8) (fun j => by
      rw [x10]
      split
      · omega
      · exact a7 j) (fun j hj => by
      rw [x9, p4] at hj
      rw [x10]
      by_cases q : j = e.toNatClampNeg
      · rw [if_pos q]; exact hty.1
      · rw [if_neg q] at hj ⊢
        exact a8 j hj) (by rw [e17]; exact b1) (by rw [e16]; exact b2) (of_eq ((x0 12).trans (p1 0 12 rfl rfl))) ⟨fun j hj => by
      obtain ⟨d1, d2, d3, d4, d5⟩ := ue1 j hj
      exact ⟨by rw [x9]; exact d1, by rw [x10, if_neg (by omega)], by rw [e15], by rw [x12 j (by omega)], fun q => by rw [e14]; exact d5 q⟩, fun n hn9 q => by rw [e21]; exact ue2 n hn9 q, fun j hj => ⟨by rw [e13]; exact (ue3 j hj).1, by rw [e17]⟩⟩
    refine k e s3 ⟨u1, u2, u3, u4, u5, e37, ei, by rw [x0, x0, show (s 0 45) = (σ 0 45) from p1 0 45 rfl rfl]; omega, fun c2 => by omega, fun _ => ⟨by omega, by rw [x0]; omega, ?_⟩, fun f hg => good_ur u1 (fun q => by rw [e37]; exact itd_of ei u4 q) (fun j j1 j2 j3 j4 => ?_) hg⟩
    · rw [x9, p4, if_pos rfl]; decide
    · rw [e13, p5] at j4
      by_cases q : j = e.toNatClampNeg
      · rw [if_pos q] at j4
        exact absurd rfl j4
      · rw [if_neg q] at j4
        rw [x0] at j2
        exact Or.inl ⟨by omega, j4, by rw [e17]⟩
  · -- there is one
    refine ⟨fun y => y.toInt ≠ 0 → ((σ 9) e.toNatClampNeg).toInt = 1, fun y _ hy => ⟨fun w => w.toInt ≠ 0 → y.toInt ≠ 0, fun w _ hw => sp_must ht (fun s hs hf => ?_), ?_⟩, ?_⟩
    · have es : (s 9) e.toNatClampNeg = (σ 9) e.toNatClampNeg := hs.1 9 _ rfl rfl
      have ee : (s 0 36) = (σ 0 36) := hs.1 _ _ rfl rfl
      have fin : ∀ s2, Kp [] [11] s s2 → ((0 ≤ e.toInt ∧ e.toInt < 10000) ∧ ((s2 9 e.toNatClampNeg).toInt ≠ 1 → Q (-1) s2 τ vs) ∧ ((s2 9 e.toNatClampNeg).toInt = 1 → Q e s2 τ vs)) := fun s2 k2 => by
        have es2 : (s2 9) e.toNatClampNeg = (σ 9) e.toNatClampNeg := (k2 9 _ rfl rfl).trans es
        refine ⟨by omega, fun c2 => tl _ s hs (fun _ f1 f2 => ?_) (fun c => absurd c (by decide)) s2 k2, fun c2 => tl _ s hs (fun c3 => by omega) (fun _ => ⟨e1, by rw [ee]; exact e2, ?_⟩) s2 k2⟩
        · rw [es2] at c2
          exact c2 (hy (hw (hf f1 f2)))
        · rw [es2] at c2
          rw [es]; exact c2
      refine ⟨fun s2 t2 z2 => τ = t2 ∧ vs = z2 ∧ Kp [] [11] s s2, ?_, fun _ => ⟨rfl, rfl, kp_rf⟩, fun _ => ⟨fun _ => ⟨rfl, rfl, kp_rf⟩, fun _ => ⟨by omega, rfl, rfl, kp_a kp_rf rfl⟩⟩⟩
      rintro s2 _ _ ⟨rfl, rfl, k2⟩
      exact fin s2 k2
    · exact ⟨True, fun _ => no0, fun _ => trivial, fun c2 => ⟨by omega, fun _ => trivial, fun _ => ⟨fun _ => trivial, fun _ => ⟨True, fun _ _ => c2, fun _ => trivial, fun _ => ⟨by omega, fun _ => trivial, fun _ => trivial⟩⟩⟩⟩⟩
    · exact ⟨True, fun _ => no0, fun _ => trivial, fun c2 => ⟨by omega, fun _ => trivial, fun _ => ⟨by omega, fun _ => True, fun y9 _ _ => ⟨fun _ => True, fun w9 _ _ => ⟨fun _ => trivial, fun _ => ⟨True, fun _ _ => c2, fun _ => trivial, fun _ => ⟨by omega, fun _ => trivial, fun _ => ⟨by omega, fun _ => trivial, fun _ => trivial⟩⟩⟩⟩, fun _ => trivial, fun _ => trivial⟩, fun _ => trivial, fun _ => trivial⟩⟩⟩
end DCG
end

section
/-! variables outside of functions -/
def GPs (σ s : St) : Prop := (s 0 12).toInt = 0 → (s 0 15).toInt = 0 → ∀ f, GOODu σ f → GOODu s f
/-- what is kept outside of functions -/
def PU2 (σ : St) : Prop := (σ 0 15).toInt = 0 ∧ 0 ≤ (σ 0 31).toInt ∧ (σ 0 31).toInt + ((σ 0 9).toInt - pos σ) ≤ 60000
def VRx (σ : St) (vs : List Nat) (s t : St) (z : List Nat) (len : Int) : Prop := UR σ vs s t z ∧ NCt σ vs s z 0 ∧ GPs σ s ∧ (0 ≤ (s 0 31).toInt ∧ (s 0 31).toInt ≤ (σ 0 31).toInt + len ∧ (s 0 45).toInt = (σ 0 45).toInt)
section VAG
variable {σ s s' τ t t' : St} {vs z z' : List Nat}
theorem gp_tr (h : GPs σ s) (ho : OF s s') (hs : (s' 0 15) = (s 0 15)) (g : GPs s s') : GPs σ s' := fun f1 f2 f q => g f1 f2 f (h (of0 ho f1) (by rw [← hs]; exact f2) f q)
theorem vr_tr {l m : Int} (h : VRx σ vs s t z l) (g : VRx s z s' t' z' m) : VRx σ vs s' t' z' (l + m) := by
  obtain ⟨h1, h2, h3, h4, h5⟩ := h
  obtain ⟨g1, g2, g3, g4, g5⟩ := g
  exact ⟨ur_tr h1 g1, nct_tr (c := 0) (d := 0) h2 g2, gp_tr h3 g1.2.2.2.1 (ur_sil g1) g3, g4, by omega⟩
theorem vr_rl {c : Int} (hn : 0 ≤ (σ 0 31).toInt) (r : RL σ vs s t z) (n : NCt σ vs s z c) (hc : 0 ≤ c) : VRx σ vs s t z 0 := by
  have e : (s 0 31) = (σ 0 31) := r.1 0 31 rfl rfl
  have e2 : (s 0 45) = (σ 0 45) := r.1 0 45 rfl rfl
  exact ⟨ur_rs (rs_rl r), nct_le n hc, fun _ _ f q => good_rs (rs_rl r) q, by rw [e, e2]; omega⟩
theorem good_rg {f : Int} (r : RG σ vs s t z) (hi : ITp σ s) (h : GOODu σ f) : GOODu s f := by
  have f2 : (s 0 36) = (σ 0 36) := r.1 _ _ rfl rfl
  refine good_ur r.2 (hi f) (fun e e1 e2 e3 e4 => Or.inl ⟨by rw [← f2]; exact e2, ?_, r.1 17 e rfl rfl⟩) h
  have e9 : (s 13) e = (σ 13) e := r.1 13 e rfl rfl
  rw [← e9]; exact e4
theorem vr_tl (h : PA σ τ) (hn : 0 ≤ (σ 0 31).toInt) (hs : TL σ s) : VRx σ vs s τ vs 0 := by
  have sq := sq_tl hs
  have r := sq_rl (vs := vs) h sq
  exact vr_rl hn r ⟨by have := sq.2.2.2.2; rw [pos_sq sq]; omega, by rw [ic_sq sq, pos_sq sq]; omega, by rw [pos_sq sq]; omega⟩ (Int.le_refl _)
theorem vr_nb {l : Int} (h : NB σ vs) (r : VRx σ vs s t z l) : NB s z := by
  obtain ⟨h1, h2, h3⟩ := h
  obtain ⟨r1, ⟨n1, n2, n3⟩, -⟩ := r
  have e := ur_sz r1
  unfold NB
  rw [e]
  exact ⟨by omega, by omega, by omega⟩
theorem sp_lay {e tk c : Int32} {Q : St → St → List Nat → Prop} (h : PA σ τ) (hn : 0 ≤ (σ 0 31).toInt) (ht : 0 ≤ tk.toInt ∧ tk.toInt < 16002) (he : Fi σ ≤ e.toInt ∧ e.toInt < (σ 0 36).toInt ∧ ((σ 9) e.toNatClampNeg).toInt = 1) (hc : 1 ≤ c.toInt ∧ c.toInt ≤ 4000) (k : ∀ s, VRx σ vs s τ vs 0 → ((s 0 12).toInt = 0 → (s 0 15).toInt = 0 → ((s 17) e.toNatClampNeg).toInt + c.toInt ≤ (s 0 37).toInt) → (s 0 36) = (σ 0 36) → kd s = kd σ → pos s = pos σ → Q s τ vs) : wp_lay e tk c σ τ vs Q := by
  have h9 := h
  obtain ⟨hT, hA, ⟨n1, n2, n3, n4, n5, n6, n7⟩, ⟨a1, a2, a3, a4, a5, a6, a7, a8, a9, b1, b2, b3⟩, hV⟩ := h9
  have ed : ((σ 0 37) + c).toInt = (σ 0 37).toInt + c.toInt := ad (by omega) (by omega)
  have nn : (e.toNatClampNeg : Int) = e.toInt := nt (by omega)
  have nb : (vp_nar .boolean (1 : Int32)) = 1 := by decide
  have key : ∀ s, Kp [(0, 12), (0, 13), (0, 37)] [13, 17] σ s → (∀ j, (s 13) j = if j = e.toNatClampNeg then 1 else (σ 13) j) → (∀ j, (s 17) j = if j = e.toNatClampNeg then (σ 0 37) else (σ 17) j) → ((σ 0 37).toInt ≤ (s 0 37).toInt ∧ (s 0 37).toInt ≤ 16000) → OF σ s → ((s 0 12).toInt = 0 → (s 0 15).toInt = 0 → (σ 0 37).toInt + c.toInt ≤ (s 0 37).toInt) → Q s τ vs := fun s kk x13 x17 hd ho hok => by
    have a21 : (s 21) = (σ 21) := funext (fun j => kk 21 j rfl rfl)
    have a15 : (s 15) = (σ 15) := funext (fun j => kk 15 j rfl rfl)
    have a18 : (s 18) = (σ 18) := funext (fun j => kk 18 j rfl rfl)
    have a19 : (s 19) = (σ 19) := funext (fun j => kk 19 j rfl rfl)
    have a10 : (s 10) = (σ 10) := funext (fun j => kk 10 j rfl rfl)
    have a9' : (s 9) = (σ 9) := funext (fun j => kk 9 j rfl rfl)
    have a16 : (s 16) = (σ 16) := funext (fun j => kk 16 j rfl rfl)
    have e36 : (s 0 36) = (σ 0 36) := kk _ _ rfl rfl
    have e31 : (s 0 31) = (σ 0 31) := kk _ _ rfl rfl
    have e45 : (s 0 45) = (σ 0 45) := kk _ _ rfl rfl
    obtain ⟨u1, u2, u3, u4, u5⟩ := ur_kd (vs := vs) h (kp_sub kk rfl rfl) (by rw [e36]; omega) hd (by rw [a21]; exact a3) (by rw [a15]; exact a4) (by unfold NMo; rw [a18, a19]; exact a5) (by rw [a10]; exact a7) (by unfold VTy; rw [a9', a10]; exact a8) (fun j => by
      rw [x17]
      split
      · exact n4
      · exact b1 j) (by rw [a16]; exact b2) ho ⟨fun j _ => ⟨kk 9 j rfl rfl, kk 10 j rfl rfl, kk 15 j rfl rfl, kk 12 j rfl rfl, fun q => by rw [kk 14 j rfl rfl]; exact q⟩, fun n _ q => by rw [a21]; exact q, fun j hj => ⟨by rw [x13, if_neg (by omega)], by rw [x17, if_neg (by omega)]⟩⟩
    refine k s ⟨u1, ⟨by rw [u3, u2]; omega, by rw [u4, u2]; omega, by rw [u2]; omega⟩, fun f1 f2 f hg => good_ur u1 (fun q => itd_le (itd_of (funext (fun j => kk 25 j rfl rfl)) u4 q) hd.1) (fun j j1 j2 j3 j4 => Or.inl ?_) hg, by rw [e31, e45]; omega⟩ (fun f1 f2 => by rw [x17, if_pos rfl]; exact hok f1 f2) e36 u5 u2
    have ne : j ≠ e.toNatClampNeg := fun q => by
      rw [q, a9', he.2.2] at j3
      exact absurd j3 (by decide)
    rw [x13, if_neg ne] at j4
    rw [e36] at j2
    exact ⟨j2, j4, by rw [x17, if_neg ne]⟩
  unfold wp_lay
  refine ⟨by omega, by omega, fun c2 => ?_, fun c2 => sp_tell (by decide) ht (fun s hs hf => ?_)⟩
  · rw [ed] at c2
    refine key _ (kp_f (kp_a (kp_a kp_rf rfl) rfl) rfl) (fun j => ?_) (fun j => ?_) ?_ (Or.inl rfl) (fun _ _ => ?_)
    · simp only [rdC, Nat.reduceEqDiff, if_true, if_false, nb]
    · simp only [rdC, Nat.reduceEqDiff, if_true, if_false]
    · rw [rdA_eq rfl, ed]; omega
    · rw [rdA_eq rfl, ed]; omega
  · have k1 := hs.1
    refine key s (kp_tr (kp_a (kp_a kp_rf rfl) rfl) (kp_sub k1 rfl rfl)) (fun j => ?_) (fun j => ?_) ?_ hs.2 (fun f1 f2 => (hf f1 f2).elim)
    · rw [k1 13 j rfl rfl]
      simp only [rdC, Nat.reduceEqDiff, if_true, if_false, nb]
    · rw [k1 17 j rfl rfl]
      simp only [rdC, Nat.reduceEqDiff, if_true, if_false]
    · have e37 : (s 0 37) = (σ 0 37) := (k1 0 37 rfl rfl)
      rw [e37]; omega
theorem sp_variableG {tk ty a3 a4 f : Int32} {Q : St → St → List Nat → Prop} {T : St → St → List Nat → Prop} (h : PA σ τ) (hS : (σ 0 15).toInt = 0) (hB : NB σ vs) (ht : 0 ≤ tk.toInt ∧ tk.toInt < 16002) (hl : ((σ 3) tk.toNatClampNeg).toInt ≤ ((σ 4) tk.toNatClampNeg).toInt) (hn : 0 ≤ (σ 0 31).toInt ∧ (σ 0 31).toInt + (((σ 4) tk.toNatClampNeg).toInt - ((σ 3) tk.toNatClampNeg).toInt) ≤ 60000) (hty : 0 ≤ ty.toInt ∧ ty.toInt ≤ 10) (hf : f.toInt = 0) (k : ∀ s t z, VRx σ vs s t z (((σ 4) tk.toNatClampNeg).toInt - ((σ 3) tk.toNatClampNeg).toInt) → Q s t z) (kT : ∀ s t z, UT σ vs s t z → T s t z) : wp_variable tk ty a3 a4 f σ τ vs Q T := by
  have htk := at_tok h.1 h.2.1
  unfold wp_variable
  have cut : ∀ {s t z l}, VRx σ vs s t z l → ∀ s' t' z', UT s z s' t' z' → T s' t' z' := fun vr s' t' z' hs => kT _ _ _ (ut_ur vr.1 vr.2.1.2.2 hs)
  have cutl : ∀ {s t z l}, RL σ vs s t z → NCt σ vs s z l → ∀ s' t' z', RTt s z s' t' z' → T s' t' z' := fun r nc s' t' z' hs => kT _ _ _ (ut_rt (rt_rs (rs_rl r) nc.2.2 hs))
  refine sp_is h (fun hk => ⟨fun x6 x7 x8 s t z => (x6.toInt < 0 ∨ (0 ≤ x6.toInt ∧ x6.toInt < 16002)) ∧ RL σ vs s t z ∧ NCt σ vs s z 0, ?_, no1, fun _ => ?_⟩) (fun hk => ⟨fun x6 x7 x8 s t z => (x6.toInt < 0 ∨ (0 ≤ x6.toInt ∧ x6.toInt < 16002)) ∧ RL σ vs s t z ∧ NCt σ vs s z 0, ?_, fun _ => ?_, no0⟩)
  case refine_4 => exact ⟨Or.inl (by decide), rl_rf h, nct_rf⟩
  case refine_2 =>
    have hk2 : kd σ = 56 := hk
    obtain ⟨rn, pn, wn, icn⟩ := rl_nxt (vs := vs) h (by omega)
    have hPn := rn.2.1
    have ncn : NCt σ vs (nxt σ) vs 40 := ⟨by omega, by omega, by omega⟩
    rw [show upC σ 0 10 ((σ 0 10) + (1 : Int32)) = nxt σ from rfl]
    have fin : ∀ (y48 y63 : Int32) s t z, RL (nxt σ) vs s t z → NCt (nxt σ) vs s z 0 → wp_expect (25 : Int32) s t z (fun s68 t68 z68 => (y48.toInt ≠ 0 → (((σ 0 10).toInt < 0 ∨ (0 ≤ (σ 0 10).toInt ∧ (σ 0 10).toInt < 16002)) ∧ RL σ vs s68 t68 z68 ∧ NCt σ vs s68 z68 0)) ∧ (y48.toInt = 0 → wp_is (30 : Int32) s68 t68 z68 (fun v79 => (v79.toInt = 0 → (((σ 0 10).toInt < 0 ∨ (0 ≤ (σ 0 10).toInt ∧ (σ 0 10).toInt < 16002)) ∧ RL σ vs s68 t68 z68 ∧ NCt σ vs s68 z68 0)) ∧ (v79.toInt ≠ 0 → wp_told s68 t68 z68 (fun v86 => (((σ 0 10).toInt < 0 ∨ (0 ≤ (σ 0 10).toInt ∧ (σ 0 10).toInt < 16002)) ∧ RL σ vs s68 t68 z68 ∧ NCt σ vs s68 z68 0)))))) T := fun y48 y63 s t z r nc => by
      have rA := rl_tr rn r
      have nc2 := nct_tr ncn nc
      refine sp_expect r.2.1 (by decide) (fun hk3 ro po wo ico => ?_) (fun s' hs => cutl rA nc2 _ _ _ (rt_rtx hs))
      have ncf : NCt σ vs (nxt s) z 0 := by
        obtain ⟨n1, n2, n3⟩ := nc2
        exact ⟨by omega, by omega, by omega⟩
      have res : (((σ 0 10).toInt < 0 ∨ (0 ≤ (σ 0 10).toInt ∧ (σ 0 10).toInt < 16002)) ∧ RL σ vs (nxt s) t z ∧ NCt σ vs (nxt s) z 0) := ⟨Or.inr htk, rl_tr rA ro, ncf⟩
      exact ⟨fun _ => res, fun _ => sp_is ro.2.1 (fun hk4 => ⟨no1, fun _ => sp_told ro.2.1 (by have : kd (nxt s) = 62 := hk4; omega) (fun _ => res)⟩) (fun _ => ⟨fun _ => res, no0⟩)⟩
    refine sp_is hPn (fun hk3 => ⟨fun y => y.toInt = 0, fun y48 _ hy => ?_, fun _ => rfl, no1⟩) (fun hk3 => ⟨fun y => y.toInt ≠ 0, fun y48 _ hy => ?_, no0, fun _ => by decide⟩)
    · exact ⟨fun y63 s t z => RL (nxt σ) vs s t z ∧ NCt (nxt σ) vs s z 0, fun y63 s t z ⟨a1, a2⟩ => fin y48 y63 s t z a1 a2, fun _ => ⟨rl_rf hPn, nct_rf⟩, fun c => absurd hy c⟩
    · refine ⟨fun y63 s t z => RL (nxt σ) vs s t z ∧ NCt (nxt σ) vs s z 0, fun y63 s t z ⟨a1, a2⟩ => fin y48 y63 s t z a1 a2, fun c => absurd c hy, fun _ => ?_⟩
      exact sp_sizeAt hPn hS (nb_of hB rn (by omega) (by omega) (by omega)) (fun r s t z r1 nc p hw9 => ⟨r1, nc⟩) (fun s' t' z' hs => cutl rn ncn _ _ _ hs)
  all_goals
    rintro x6 x7 x8 s1 t1 z1 - ⟨hx6, r1, nc1⟩
    have hP1 := r1.2.1
    have v1 : VRx σ vs s1 t1 z1 0 := vr_rl hn.1 r1 nc1 (Int.le_refl _)
    have etos : (s1 4) tk.toNatClampNeg = (σ 4) tk.toNatClampNeg := r1.1 4 _ rfl rfl
    have efr : (s1 3) tk.toNatClampNeg = (σ 3) tk.toNatClampNeg := r1.1 3 _ rfl rfl
    have enb : (s1 0 31) = (σ 0 31) := r1.1 0 31 rfl rfl
    have eF1 := ku_Fi v1.1.1
    generalize hlen : ((σ 4) tk.toNatClampNeg).toInt - ((σ 3) tk.toNatClampNeg).toInt = len at *
    refine ⟨fun y => y.toInt ≠ 0 → x6.toInt < 0 ∨ x7.toInt ≤ 4000, fun y119 _ hy119 => ⟨fun y => y.toInt ≤ 4000, fun y141 hy141 => ⟨fun y s t z => VRx σ vs s t z len ∧ (y.toInt < 0 → (s 0 12).toInt = 0 → (s 0 15).toInt = 0 → False) ∧ (0 ≤ y.toInt → Fi s ≤ y.toInt ∧ y.toInt < (s 0 36).toInt ∧ ((s 9) y.toNatClampNeg).toInt = 1), ?_, fun _ => ?_, fun c => absurd hf c⟩, fun c => ⟨fun _ => by decide, fun c2 => ?_⟩, fun _ => by decide⟩, ?_⟩
    rotate_left 1
    · refine sp_globalName hP1 ht (by rw [efr, etos]; exact hl) (by rw [efr, etos, enb]; omega) hty (fun r s gn => ?_)
      rw [efr, etos, hlen] at gn
      obtain ⟨u1, u2, u3, u4, u5, u6, u7, u8, u9, u10, u11⟩ := gn
      have v2 : VRx s1 z1 s t1 z1 len := ⟨u1, ⟨by rw [u3, u2]; omega, by rw [u4, u2]; omega, by rw [u2]; omega⟩, fun _ _ f q => u11 f q, by have := v1.2.2.2; omega⟩
      have v3 := vr_tr v1 v2
      rw [Int.zero_add] at v3
      exact ⟨v3, u9, fun c => by rw [ku_Fi u1.1]; exact u10 c⟩
    · rcases hy119 c2 with q | q
      · omega
      · exact q
    · exact ⟨x6.toInt < 0 ∨ x7.toInt ≤ 4000, fun c _ => c, fun c => Or.inl c, fun _ => ⟨True, fun _ => no0, fun _ => trivial, fun _ => ⟨fun _ => trivial, fun c => Or.inr c⟩⟩⟩
    rintro y170 s2 t2 z2 ⟨v2, f2, g2⟩
    have tl : ∀ (s t : St) (z : List Nat), VRx σ vs s t z len ∧ (y170.toInt < 0 → (s 0 12).toInt = 0 → (s 0 15).toInt = 0 → False) ∧ (0 ≤ y170.toInt → Fi s ≤ y170.toInt ∧ y170.toInt < (s 0 36).toInt ∧ ((s 9) y170.toNatClampNeg).toInt = 1) → ∀ s', TL s s' → VRx σ vs s' t z len ∧ (y170.toInt < 0 → (s' 0 12).toInt = 0 → (s' 0 15).toInt = 0 → False) ∧ (0 ≤ y170.toInt → Fi s' ≤ y170.toInt ∧ y170.toInt < (s' 0 36).toInt ∧ ((s' 9) y170.toNatClampNeg).toInt = 1) := fun s t z ⟨b1, b3, b4⟩ s' hs => by
      have vt := vr_tl (vs := z) b1.1.2.1 b1.2.2.2.1 hs
      have v9 := vr_tr b1 vt
      rw [Int.add_zero] at v9
      have e1 : (s' 0 36) = _ := hs.1 0 36 rfl rfl
      have e2 : (s' 9) y170.toNatClampNeg = _ := hs.1 9 _ rfl rfl
      have e4 : (s' 0 15) = _ := hs.1 0 15 rfl rfl
      exact ⟨v9, fun c f1 f2 => b3 c (of0 hs.2 f1) (by rw [← e4]; exact f2), by rw [ku_Fi vt.1.1, e1, e2]; exact b4⟩
    refine ⟨fun s t z => VRx σ vs s t z len ∧ (y170.toInt < 0 → (s 0 12).toInt = 0 → (s 0 15).toInt = 0 → False) ∧ (0 ≤ y170.toInt → Fi s ≤ y170.toInt ∧ y170.toInt < (s 0 36).toInt ∧ ((s 9) y170.toNatClampNeg).toInt = 1), ?_, fun _ => ⟨v2, f2, g2⟩, fun c6 => ?_⟩
    rotate_left 1
    · have hx6' : 0 ≤ x6.toInt ∧ x6.toInt < 16002 := by omega
      refine ⟨fun s t z => VRx σ vs s t z len ∧ (y170.toInt < 0 → (s 0 12).toInt = 0 → (s 0 15).toInt = 0 → False) ∧ (0 ≤ y170.toInt → Fi s ≤ y170.toInt ∧ y170.toInt < (s 0 36).toInt ∧ ((s 9) y170.toNatClampNeg).toInt = 1), ?_, fun _ => ⟨v2, f2, g2⟩, fun _ => sp_tell (by decide) hx6' (fun s hs _ => tl _ _ _ ⟨v2, f2, g2⟩ s hs)⟩
      rintro s3 t3 z3 b
      refine ⟨fun _ => True, fun y _ _ => sp_must hx6' (fun s hs _ => tl _ _ _ b s hs), ⟨True, fun _ => trivial, fun _ => trivial, fun _ => ⟨True, fun _ => trivial, fun _ => trivial, fun _ => ⟨fun _ => trivial, fun _ => ⟨fun _ => trivial, fun _ => sp_is b.1.1.2.1 (fun _ => ⟨fun _ => trivial, fun _ => trivial⟩) (fun _ => ⟨fun _ => trivial, fun _ => trivial⟩)⟩⟩⟩⟩⟩
    rintro s3 t3 z3 ⟨v3, f3, g3⟩
    have hP3 := v3.1.2.1
    have hmx := mx1 hy141
    -- its cells
    refine ⟨fun s t z => VRx σ vs s t z len ∧ (y170.toInt < 0 → (s 0 12).toInt = 0 → (s 0 15).toInt = 0 → False) ∧ (0 ≤ y170.toInt → y170.toInt < 10000) ∧ (a4.toInt = 0 → 0 ≤ y170.toInt → (s 0 12).toInt = 0 → (s 0 15).toInt = 0 → ((s 17) y170.toNatClampNeg).toInt + (if y141 < (1 : Int32) then (1 : Int32) else y141).toInt ≤ (s 0 37).toInt), ?_, fun c => absurd hf c, fun _ => ⟨fun c => ⟨v3, f3, fun c2 => by omega, fun _ c2 => by omega⟩, fun c => ⟨fun c4 => ⟨v3, f3, fun _ => ?_, fun c5 => absurd c5 c4⟩, fun c4 => ?_⟩⟩⟩
    rotate_left 1
    · have := g3 c
      have := hP3.2.2.1.2.1
      omega
    · refine sp_lay hP3 v3.2.2.2.1 ht (g3 c) hmx (fun s4 v4 w4 e4 k4 p4 => ?_)
      have v9 := vr_tr v3 v4
      rw [Int.add_zero] at v9
      have := g3 c
      have := hP3.2.2.1.2.1
      exact ⟨v9, fun c2 => by omega, fun _ => by omega, fun _ _ f1 f2 => w4 f1 f2⟩
    rintro s4 t4 z4 ⟨v4, f4, g4, w4⟩
    refine ⟨fun s t z => VRx σ vs s t z len ∧ (y170.toInt < 0 → (s 0 12).toInt = 0 → (s 0 15).toInt = 0 → False) ∧ (0 ≤ y170.toInt → y170.toInt < 10000) ∧ (a4.toInt = 0 → 0 ≤ y170.toInt → (s 0 12).toInt = 0 → (s 0 15).toInt = 0 → ((s 17) y170.toNatClampNeg).toInt + (if y141 < (1 : Int32) then (1 : Int32) else y141).toInt ≤ (s 0 37).toInt), ?_, fun _ => ⟨v4, f4, g4, w4⟩, fun c => absurd hf c⟩
    rintro s5 t5 z5 ⟨v5, f5, g5, w5⟩
    have hP5 := v5.1.2.1
    refine sp_is hP5 (fun hk5 => ⟨fun _ => ?_, no1⟩) (fun _ => ⟨no0, fun _ => k _ _ _ v5⟩)
    have hk5' : kd s5 = 62 := hk5
    have htk5 := at_tok hP5.1 hP5.2.1
    obtain ⟨rn, pn, wn, icn⟩ := rl_nxt (vs := z5) hP5 (by omega)
    have hPn := rn.2.1
    rw [show upC s5 0 10 ((s5 0 10) + (1 : Int32)) = nxt s5 from rfl]
    have vn : VRx s5 z5 (nxt s5) t5 z5 0 := vr_rl (c := 40) v5.2.2.2.1 rn ⟨by omega, by omega, by omega⟩ (by omega)
    have v6 := vr_tr v5 vn
    rw [Int.add_zero] at v6
    have hBn := vr_nb hB v6
    have fin : ∀ (v : Int32) (cells : Int) s t z, cells ≤ (if y141 < (1 : Int32) then (1 : Int32) else y141).toInt → (v = 0 ∨ v = 1) → GRel (nxt s5) z5 y170 cells v s t z → (∃ J361 : Int32 → Prop, (∀ (y1_361 : Int32), y1_361 = 0 ∨ y1_361 = 1 → J361 y1_361 → (wp_must y1_361 (s5 0 10) s t z (fun s363 t363 z363 => Q s363 t363 z363))) ∧ (∃ J360 : Prop, (J360 → (J361 (0 : Int32))) ∧ (v.toInt = 0 → J360) ∧ (v.toInt ≠ 0 → (a4.toInt ≠ 0 → J360) ∧ (a4.toInt = 0 → J361 (1 : Int32))))) := fun v cells s t z hcl hv ⟨r, nc, it⟩ => by
      refine ⟨fun y => y.toInt ≠ 0 → v.toInt ≠ 0 ∧ a4.toInt = 0, fun y _ hy => sp_must htk5 (fun s6 hs hf6 => ?_), ⟨True, fun _ => no0, fun _ => trivial, fun c => ⟨fun _ => trivial, fun c2 _ => ⟨c, c2⟩⟩⟩⟩
      have nb7 : ((nxt s5) 0 31).toInt = (s 0 31).toInt := by rw [r.1 0 31 rfl rfl]
      have nb8 : ((nxt s5) 0 45).toInt = (s 0 45).toInt := by rw [r.1 0 45 rfl rfl]
      have vt := vr_tl (vs := z) r.2.2.1 (by rw [← nb7]; exact v6.2.2.2.1) hs
      have vg : VRx (nxt s5) z5 s6 t z 0 := by
        refine ⟨ur_tr r.2 vt.1, nct_tr (c := 0) (d := 0) nc vt.2.1, fun f1 f2 f hg => ?_, by have := vt.2.2.2; omega⟩
        obtain ⟨d1, d2⟩ := hy (hf6 f1 f2)
        have ok6 : ∀ q : Nat, True := fun _ => trivial
        have s6s : (s6 0 15) = ((nxt s5) 0 15) := (hs.1 0 15 rfl rfl).trans (ur_sil r.2)
        have fo : ((nxt s5) 0 12).toInt = 0 := of0 r.2.2.2.2.1 (of0 hs.2 f1)
        have so : ((nxt s5) 0 15).toInt = 0 := by rw [← s6s]; exact f2
        have y0 : 0 ≤ y170.toInt := by
          by_cases c : y170.toInt < 0
          · exact (f5 c fo so).elim
          · omega
        have := w5 d2 y0 fo so
        exact vt.2.2.1 f1 f2 f (good_rg r (it d1 y0 (by show ((s5 17) y170.toNatClampNeg).toInt + cells ≤ (s5 0 37).toInt; omega)) hg)
      have v9 := vr_tr v6 vg
      rw [Int.add_zero] at v9
      exact k _ _ _ v9
    refine ⟨fun v s t z => (v = 0 ∨ v = 1) ∧ ∃ cells : Int, cells ≤ (if y141 < (1 : Int32) then (1 : Int32) else y141).toInt ∧ GRel (nxt s5) z5 y170 cells v s t z, fun v s t z _ ⟨hv, cells, hcl, hr⟩ => fin v cells s t z hcl hv hr, fun c6 => ?_, fun c6 => ?_⟩
    · exact sp_oneInitialG hPn hBn hf g5 (fun v s t z hv hr => ⟨hv, 1, hmx.1, hr⟩) (fun s' t' z' hs => cut v6 _ _ _ hs)
    · exact sp_rowInitialG hPn hBn hf g5 (fun v s t z hv hr => ⟨hv, _, Int.le_refl _, hr⟩) (fun s' t' z' hs => cut v6 _ _ _ hs)
end VAG
end

section
/-! variables outside of functions: all of a line -/
section VGL
variable {σ s s' τ t t' : St} {vs z z' : List Nat}
theorem tok_len (h : PA σ τ) (hk : 2 ≤ kd σ) : ((σ 3) (σ 0 10).toNatClampNeg).toInt + 1 ≤ ((σ 4) (σ 0 10).toNatClampNeg).toInt ∧ ((σ 4) (σ 0 10).toNatClampNeg).toInt ≤ pos (nxt σ) := by
  have hT := h.1
  have ha := h.2.1
  have hn := nt ha.1
  obtain ⟨h1, h2, h3, h4, h5, h6, h7, h8⟩ := hT
  have h9 := ha.2
  obtain ⟨g1, g2, g3, -⟩ := h8 _ (by omega) hk
  have e1 : ((nxt σ) 0 10).toInt = (σ 0 10).toInt + 1 := by rw [nxt_at, ad1 (by omega)]
  have e2 : ((nxt σ) 0 10).toNatClampNeg = (σ 0 10).toNatClampNeg + 1 := by rw [nt', e1]; omega
  refine ⟨g2, ?_⟩
  unfold pos
  rw [e2]
  have e4 : ((nxt σ) 3) = (σ 3) := rfl
  rw [e4]
  exact g3
theorem vr_le {l m : Int} (h : VRx σ vs s t z l) (hl : l ≤ m) : VRx σ vs s t z m := ⟨h.1, h.2.1, h.2.2.1, by have := h.2.2.2; omega⟩
theorem vr_nx {c : Int} (hn : 0 ≤ (σ 0 31).toInt) (r : RL σ vs s t z) (n : NCt σ vs s z c) (hc : 0 ≤ c) : VRx σ vs s t z (pos s - pos σ) := vr_le (vr_rl hn r n hc) (by have := r.2.2.2.2.2.2.2.1; omega)
theorem vr_cut {l : Int} {T : St → St → List Nat → Prop} (kT : ∀ s t z, UT σ vs s t z → T s t z) (v : VRx σ vs s t z l) : ∀ s' t' z', UT s z s' t' z' → T s' t' z' := fun s' t' z' hs => kT _ _ _ (ut_ur v.1 v.2.1.2.2 hs)
theorem vr_cutx {l : Int} {T : St → St → List Nat → Prop} (kT : ∀ s t z, UT σ vs s t z → T s t z) (v : VRx σ vs s t z l) : ∀ s', RTx s z s' t z → T s' t z := fun s' hs => vr_cut kT v _ _ _ (ut_rt (rt_rtx hs))
theorem vr_ps {l m : Int} (v : VRx σ vs s t z (pos s - pos σ)) (g : VRx s z s' t' z' l) (h : l ≤ m) (hm : m ≤ pos s' - pos s) : VRx σ vs s' t' z' (pos s' - pos σ) := vr_le (vr_tr v g) (by omega)
theorem sp_variablesG {a1 a2 f : Int32} {Q T : St → St → List Nat → Prop} (h : PA σ τ) (hS : PU2 σ) (hB : NB σ vs) (hf : f.toInt = 0) (k : ∀ s t z, VRx σ vs s t z (pos s - pos σ) → pos σ < pos s → Q s t z) (kT : ∀ s t z, UT σ vs s t z → T s t z) : wp_variables a1 a2 f σ τ vs Q T := by
  obtain ⟨hS1, hS2, hS3⟩ := hS
  unfold wp_variables
  refine ⟨fun n x s t z => n = ((σ 0 9).toInt - pos s).toNat ∧ VRx σ vs s t z (pos s - pos σ), ⟨_, rfl, vr_nx (c := 0) hS2 (rl_rf h) nct_rf (by omega)⟩, ?_⟩
  rintro n x s t z - ⟨hn, v⟩
  have hPs := v.1.2.1
  have hBs := vr_nb hB v
  have esz := ur_sz v.1
  have mp := v.1.2.2.2.2.1.2.2.1
  have vn := v.2.2.2
  refine ⟨fun _ => ?_, fun _ => ?_⟩
  · refine sp_expect hPs (by decide) (fun hk ro po wo ico => ?_) (vr_cutx kT v)
    have vo := vr_nx (c := 0) vn.1 ro ⟨by omega, by omega, by omega⟩ (by omega)
    exact k _ _ _ (vr_ps v vo (Int.le_refl _) (Int.le_refl _)) (by omega)
  · refine sp_stars hPs (fun ty s1 ty0 ty5 hs1 => ?_) (vr_cutx kT v)
    have r1 := sn_rl (vs := z) hPs hs1
    have hP1 := r1.2.1
    obtain ⟨w1, i1⟩ := sn_wc hs1
    have p1 := hs1.2.2
    have v1 := vr_ps v (vr_nx (c := 0) vn.1 r1 ⟨by omega, by omega, by omega⟩ (by omega)) (Int.le_refl _) (Int.le_refl _)
    have htk := at_tok hP1.1 hP1.2.1
    refine ⟨htk, fun hk => ?_, fun _ => sp_wrong hP1 (vr_cutx kT v1)⟩
    have hk2 : kd s1 = 2 := hk
    obtain ⟨rn, pn, wn, icn⟩ := rl_nxt (vs := z) hP1 (by omega)
    obtain ⟨l1, l2⟩ := tok_len hP1 (by omega)
    have v2 := vr_rl (c := 0) v1.2.2.2.1 rn ⟨by omega, by omega, by omega⟩ (by omega)
    have hPn := rn.2.1
    have hpn := pos_in hPn.1 hPn.2.1
    have v3 := vr_tr v1 v2
    have szn := ur_sz v3.1
    have nbn := v3.2.2.2
    have hBn := vr_nb hB v3
    have hSn : ((nxt s1) 0 15).toInt = 0 := by rw [ur_sil v3.1]; exact hS1
    have p1' : ((s1 3) (s1 0 10).toNatClampNeg).toInt = pos s1 := rfl
    show wp_variable _ _ _ _ _ (nxt s1) t z _ T
    refine sp_variableG hPn hSn hBn htk (by show ((s1 3) _).toInt ≤ ((s1 4) _).toInt; omega) (by show _ ∧ ((nxt s1) 0 31).toInt + (((s1 4) _).toInt - ((s1 3) _).toInt) ≤ 60000; omega) ⟨ty0, by omega⟩ hf (fun s3 t3 z3 v4 => ?_) (vr_cut kT v3)
    have v4' : VRx (nxt s1) z s3 t3 z3 (((s1 4) (s1 0 10).toNatClampNeg).toInt - ((s1 3) (s1 0 10).toNatClampNeg).toInt) := v4
    have m4 := v4'.1.2.2.2.2.1.2.2.1
    have v5 : VRx σ vs s3 t3 z3 (pos s3 - pos σ) := vr_le (vr_tr v3 v4') (by omega)
    have hP3 := v5.1.2.1
    have hp3 := pos_in hP3.1 hP3.2.1
    have sz3 := ur_sz v5.1
    unfold wp_accept
    refine sp_is hP3 (fun hk3 => ⟨fun _ => ?_, no1⟩) (fun _ => ⟨no0, fun _ => ⟨((σ 0 9).toInt - pos s3).toNat, by omega, rfl, v5⟩⟩)
    have hk3' : kd s3 = 58 := hk3
    obtain ⟨ro, po, wo, ico⟩ := rl_nxt (vs := z3) hP3 (by omega)
    have hpo := pos_in ro.2.1.1 ro.2.1.2.1
    have szo := rl_sz ro
    have vo := vr_nx (c := 0) v5.2.2.2.1 ro ⟨by omega, by omega, by omega⟩ (by omega)
    exact ⟨((σ 0 9).toInt - pos (nxt s3)).toNat, by omega, rfl, vr_ps v5 vo (Int.le_refl _) (Int.le_refl _)⟩
end VGL
end

section
/-! the head of a function -/
abbrev KHd (σ s : St) : Prop := Kp [(0, 10), (0, 64)] [37, 38, 39] σ s
def HDs (s : St) : Prop := (0 ≤ (s 0 64).toInt ∧ (s 0 64).toInt ≤ 8) ∧ ∀ k : Nat, (k : Int) < (s 0 64).toInt → (0 ≤ ((s 37) k).toInt ∧ ((s 37) k).toInt ≤ 10) ∧ (-1 ≤ ((s 38) k).toInt ∧ ((s 38) k).toInt < 16002) ∧ (0 ≤ ((s 39) k).toInt ∧ ((s 39) k).toInt < 16002)
def HX (σ s : St) : Prop := KHd σ s ∧ AtOK s ∧ pos σ ≤ pos s ∧ HDs s
section HED
variable {σ s s' τ t t' : St} {vs z z' : List Nat}
theorem ur_hd (h : PA σ τ) (k : KHd σ s) (ha : AtOK s) (hp : pos σ ≤ pos s) : UR σ vs s τ vs := by
  obtain ⟨hT, hA, ⟨n1, n2, n3, n4, n5, n6, n7⟩, ⟨a1, a2, a3, a4, a5, a6, a7, a8, a9, b1, b2, b3⟩, hV⟩ := h
  have f1 : (s 0 35) = (σ 0 35) := k _ _ rfl rfl
  have f3 : (s 0 12) = (σ 0 12) := k _ _ rfl rfl
  have f4 : (s 0 36) = (σ 0 36) := k _ _ rfl rfl
  have f5 : (s 0 15) = (σ 0 15) := k _ _ rfl rfl
  have f6 : (s 0 37) = (σ 0 37) := k _ _ rfl rfl
  have f7 : (s 0 17) = (σ 0 17) := k _ _ rfl rfl
  have f8 : (s 0 39) = (σ 0 39) := k _ _ rfl rfl
  have f9 : (s 0 53) = (σ 0 53) := k _ _ rfl rfl
  have f10 : (s 0 49) = (σ 0 49) := k _ _ rfl rfl
  have f11 : (s 0 45) = (σ 0 45) := k _ _ rfl rfl
  have e34 : (s 34) = (σ 34) := funext (fun j => k 34 j rfl rfl)
  have e35 : (s 35) = (σ 35) := funext (fun j => k 35 j rfl rfl)
  have e31 : (s 31) = (σ 31) := funext (fun j => k 31 j rfl rfl)
  have e32 : (s 32) = (σ 32) := funext (fun j => k 32 j rfl rfl)
  have e21 : (s 21) = (σ 21) := funext (fun j => k 21 j rfl rfl)
  have e15 : (s 15) = (σ 15) := funext (fun j => k 15 j rfl rfl)
  have e18 : (s 18) = (σ 18) := funext (fun j => k 18 j rfl rfl)
  have e19 : (s 19) = (σ 19) := funext (fun j => k 19 j rfl rfl)
  have e10 : (s 10) = (σ 10) := funext (fun j => k 10 j rfl rfl)
  have e9 : (s 9) = (σ 9) := funext (fun j => k 9 j rfl rfl)
  have e17 : (s 17) = (σ 17) := funext (fun j => k 17 j rfl rfl)
  have e16 : (s 16) = (σ 16) := funext (fun j => k 16 j rfl rfl)
  have eK : KU σ s := kp_sub k rfl rfl
  have eF := ku_Fi eK
  refine ⟨eK, ⟨tk_kp k rfl rfl ⟨rfl, rfl, rfl, rfl, rfl⟩ rfl hT, ha, ⟨by rw [f1]; exact n1, by rw [eF, f4]; exact n2, by rw [f9, f10]; exact n3, by rw [f6]; exact n4, by rw [f7]; exact n5, by rw [f8]; exact n6, by rw [f5]; exact n7⟩, ⟨by rw [e34]; exact a1, by rw [e35]; exact a2, by rw [e21]; exact a3, by rw [e15]; exact a4, by unfold NMo; rw [e18, e19]; exact a5, by rw [e31]; exact a6, by rw [e10]; exact a7, by unfold VTy; rw [e9, e10]; exact a8, by unfold HLd; rw [e35, f9, f10]; exact a9, by rw [e17]; exact b1, by rw [e16]; exact b2, by rw [e32]; exact b3⟩, hV⟩, fun j _ => k 8 j rfl rfl, of_eq f3, ⟨by rw [f7]; exact Int.le_refl _, by rw [f8]; exact Int.le_refl _, hp, by rw [f4]; exact Int.le_refl _, by rw [f11]; exact Int.le_refl _, by rw [f6]; exact Int.le_refl _⟩, fun _ h => h, Nat.le_refl _, fun j _ => k 25 j rfl rfl, ⟨fun j _ => ⟨k 9 j rfl rfl, k 10 j rfl rfl, k 15 j rfl rfl, k 12 j rfl rfl, fun q => by rw [k 14 j rfl rfl]; exact q⟩, fun n _ q => by rw [e21]; exact q, fun j _ => ⟨k 13 j rfl rfl, k 17 j rfl rfl⟩⟩, fun b _ => ⟨k 26 b rfl rfl, k 27 b rfl rfl, k 28 b rfl rfl, k 29 b rfl rfl, k 30 b rfl rfl, k 54 b rfl rfl⟩⟩
theorem vr_hd (h : PA σ τ) (hn : 0 ≤ (σ 0 31).toInt) (k : KHd σ s) (ha : AtOK s) (hp : pos σ ≤ pos s) : VRx σ vs s τ vs 0 := by
  have f4 : (s 0 36) = (σ 0 36) := k _ _ rfl rfl
  have f6 : (s 0 37) = (σ 0 37) := k _ _ rfl rfl
  have f7 : (s 0 17) = (σ 0 17) := k _ _ rfl rfl
  have f8 : (s 0 39) = (σ 0 39) := k _ _ rfl rfl
  have f9 : (s 0 31) = (σ 0 31) := k _ _ rfl rfl
  have f10 : (s 0 45) = (σ 0 45) := k _ _ rfl rfl
  have u := ur_hd (vs := vs) h k ha hp
  refine ⟨u, ⟨by rw [f7]; omega, by rw [f8]; omega, by omega⟩, fun f1 f2 f hg => good_ur u (fun q => by rw [f6]; exact itd_le (itd_of (funext (fun j => k 25 j rfl rfl)) f8 q) (Int.le_refl _)) (fun e e1 e2 e3 e4 => Or.inl ⟨by rw [← f4]; exact e2, ?_, k 17 e rfl rfl⟩) hg, by rw [f9, f10]; omega⟩
  have e9 : (s 13) e = (σ 13) e := k 13 e rfl rfl
  rw [← e9]; exact e4
theorem hds_kp (k : Kp [(0, 10)] [] σ s) (h : HDs σ) : HDs s := by
  have f1 : (s 0 64) = (σ 0 64) := k _ _ rfl rfl
  have e1 : (s 37) = (σ 37) := funext (fun j => k 37 j rfl rfl)
  have e2 : (s 38) = (σ 38) := funext (fun j => k 38 j rfl rfl)
  have e3 : (s 39) = (σ 39) := funext (fun j => k 39 j rfl rfl)
  unfold HDs
  rw [f1, e1, e2, e3]
  exact h
theorem hx_sn (h : HX σ s) (g : SNx s s') : HX σ s' := ⟨kp_tr h.1 (kp_sub g.1 rfl rfl), g.2.1, Int.le_trans h.2.2.1 g.2.2, hds_kp g.1 h.2.2.2⟩
theorem hx_pa (h : PA σ τ) (x : HX σ s) : PA s τ := (ur_hd (vs := []) h x.1 x.2.1 x.2.2.1).2.1
theorem hx_cut {T : St → St → List Nat → Prop} (h : PA σ τ) (kT : ∀ s t z, UT σ vs s t z → T s t z) (x : HX σ s) : ∀ s', RTx s vs s' τ vs → T s' τ vs := fun s' hs => kT _ _ _ (ut_ur (ur_hd h x.1 x.2.1 x.2.2.1) (by have := x.2.2.1; omega) (ut_rt (rt_rtx hs)))
theorem hx_add {a b c : Int32} (h : HX σ s) (h8 : (s 0 64).toInt < 8) (ha : 0 ≤ a.toInt ∧ a.toInt ≤ 10) (hb : -1 ≤ b.toInt ∧ b.toInt < 16002) (hc : 0 ≤ c.toInt ∧ c.toInt < 16002) : HX σ (upC (upC (upC (upC s 37 (s 0 64).toNatClampNeg a) 38 (s 0 64).toNatClampNeg b) 39 (s 0 64).toNatClampNeg c) 0 64 ((s 0 64) + (1 : Int32))) := by
  obtain ⟨h1, h2, h3, ⟨h4, h5⟩, h6⟩ := h
  have hn := nt h4
  have e1 : ((s 0 64) + (1 : Int32)).toInt = (s 0 64).toInt + 1 := ad1 (by omega)
  refine ⟨kp_f (kp_a (kp_a (kp_a h1 rfl) rfl) rfl) rfl, ?_, ?_, ⟨?_, fun k hk => ?_⟩⟩
  · exact h2
  · exact h3
  · rw [rdA_eq rfl, e1]; omega
  · have hk' : (k : Int) < (s 0 64).toInt + 1 := by
      rw [rdA_eq rfl, e1] at hk
      exact hk
    simp only [rdC, Nat.reduceEqDiff, if_true, if_false]
    by_cases q : k = (s 0 64).toNatClampNeg
    · simp only [if_pos q]
      exact ⟨ha, hb, hc⟩
    · simp only [if_neg q]
      exact h6 k (by omega)
theorem sp_head {Q T : St → St → List Nat → Prop} (h : PA σ τ) (k : ∀ s, HX σ s → pos σ + 2 ≤ pos s → Q s τ vs) (kT : ∀ s t z, UT σ vs s t z → T s t z) : wp_head σ τ vs Q T := by
  unfold wp_head wp_accept
  have x0 : HX σ (upC σ 0 64 (0 : Int32)) := ⟨kp_f kp_rf rfl, h.2.1, Int.le_refl _, ⟨by rw [rdA_eq rfl]; decide, fun k hk => by rw [rdA_eq rfl, show (0 : Int32).toInt = 0 from rfl] at hk; omega⟩⟩
  have p0 : pos (upC σ 0 64 (0 : Int32)) = pos σ := rfl
  have hP0 := hx_pa h x0
  refine sp_expect hP0 (by decide) (fun hk ro po wo ico => ?_) (hx_cut h kT x0)
  have hx1 := hx_sn x0 (sn_nxt hP0 (by rw [hk]; decide)).1
  generalize nxt (upC σ 0 64 (0 : Int32)) = s1 at *
  have hP1 := hx_pa h hx1
  have fin : ∀ s, HX σ s → pos σ < pos s → wp_expect (21 : Int32) s τ vs (fun s t z => Q s t z) T := fun s hx hp => by
    have hP := hx_pa h hx
    refine sp_expect hP (by decide) (fun hk ro po wo ico => ?_) (hx_cut h kT hx)
    exact k _ (hx_sn hx (sn_nxt hP (by rw [hk]; decide)).1) (by omega)
  refine sp_is hP1 (fun hk1 => ⟨fun _ => ⟨no1, fun _ => ?_⟩, no1⟩) (fun _ => ⟨no0, fun _ => ⟨fun _ => ⟨at_tok hP1.1 hP1.2.1, fun _ => ?_, fun c => ?_⟩, no0⟩⟩)
  · obtain ⟨g1, g2⟩ := sn_nxt hP1 (by rw [hk1]; decide)
    show Q (nxt s1) τ vs
    exact k _ (hx_sn hx1 g1) (by omega)
  rotate_left 1
  · have c' : kd s1 = 6 := c
    obtain ⟨g1, g2⟩ := sn_nxt hP1 (by omega)
    show wp_expect _ (nxt s1) τ vs _ T
    exact fin _ (hx_sn hx1 g1) (by omega)
  refine ⟨fun n s t z => n = ((σ 0 9).toInt - pos s).toNat ∧ τ = t ∧ vs = z ∧ HX σ s ∧ pos σ < pos s, ⟨_, rfl, rfl, rfl, hx1, by omega⟩, ?_⟩
  rintro n s _ _ ⟨hn, rfl, rfl, hx, hp⟩
  have hP := hx_pa h hx
  refine ⟨at_tok hP.1 hP.2.1, True, fun _ => sp_wrong hP (hx_cut h kT hx), fun _ => trivial, fun c => ⟨fun c8 => ?_, fun _ => trivial⟩⟩
  have c' : kd s = 5 := c
  obtain ⟨g1, g2⟩ := sn_nxt hP (by omega)
  have hx2 := hx_sn hx g1
  have hP2 := hx_pa h hx2
  have hc8 : (s 0 64).toInt < 8 := by
    have := hx.2.2.2.1.2
    have : (s 0 64).toInt ≠ 8 := fun q => c8 q
    omega
  have hcn : ((nxt s) 0 64).toInt = (s 0 64).toInt := rfl
  show wp_stars (nxt s) _ _ _ T
  refine sp_stars hP2 (fun ty s3 ty0 ty5 hs3 => ?_) (hx_cut h kT hx2)
  have hx3 := hx_sn hx2 hs3
  have hP3 := hx_pa h hx3
  have hc3 : (s3 0 64).toInt = (s 0 64).toInt := by rw [hs3.1 0 64 rfl rfl]; exact hcn
  have hp3 := hs3.2.2
  have htk3 := at_tok hP3.1 hP3.2.1
  refine ⟨htk3, fun x s t z => (-1 ≤ x.toInt ∧ x.toInt < 16002) ∧ τ = t ∧ vs = z ∧ HX σ s ∧ (s 0 64).toInt < 8 ∧ pos (nxt s3) - pos s3 ≤ pos (nxt s3) - pos s3 ∧ pos (nxt s) = pos (nxt s) ∧ pos s3 ≤ pos s, ?_, fun _ => ⟨by decide, rfl, rfl, hx3, by omega, Int.le_refl _, rfl, Int.le_refl _⟩, fun c2 => ?_⟩
  rotate_left 1
  · have c2' : kd s3 = 2 := c2
    obtain ⟨g3, g4⟩ := sn_nxt hP3 (by omega)
    have : ((nxt s3) 0 64).toInt = (s3 0 64).toInt := rfl
    exact ⟨⟨by omega, by omega⟩, rfl, rfl, hx_sn hx3 g3, by show ((nxt s3) 0 64).toInt < 8; omega, Int.le_refl _, rfl, by show pos s3 ≤ pos (nxt s3); omega⟩
  rintro x s4 _ _ ⟨hx4r, rfl, rfl, hx4, hc4, -, -, hp4⟩
  have hP4 := hx_pa h hx4
  have fin2 : ∀ (v : Int32) s, (0 ≤ v.toInt ∧ v.toInt ≤ 10) → HX σ s → (s 0 64).toInt < 8 → pos s4 ≤ pos s → (((0 ≤ (s 0 64).toInt ∧ (s 0 64).toInt < 8) ∧ ((0 ≤ (s 0 64).toInt ∧ (s 0 64).toInt < 8) ∧ ((0 ≤ (s 0 64).toInt ∧ (s 0 64).toInt < 8) ∧ wp_is (26 : Int32) (upC (upC (upC (upC s 37 (s 0 64).toNatClampNeg v) 38 (s 0 64).toNatClampNeg x) 39 (s 0 64).toNatClampNeg (s 0 10)) 0 64 ((s 0 64) + (1 : Int32))) τ vs (fun v3 => (v3.toInt ≠ 0 → (fun v188 s188 t188 z188 => (v188.toInt ≠ 0 → ∃ m, m < n ∧ (m = ((σ 0 9).toInt - pos s188).toNat ∧ τ = t188 ∧ vs = z188 ∧ HX σ s188 ∧ pos σ < pos s188)) ∧ (v188.toInt = 0 → wp_expect (21 : Int32) s188 t188 z188 (fun s197 t197 z197 => Q s197 t197 z197) T)) (1 : Int32) (upC (upC (upC (upC (upC s 37 (s 0 64).toNatClampNeg v) 38 (s 0 64).toNatClampNeg x) 39 (s 0 64).toNatClampNeg (s 0 10)) 0 64 ((s 0 64) + (1 : Int32))) 0 10 ((upC (upC (upC (upC s 37 (s 0 64).toNatClampNeg v) 38 (s 0 64).toNatClampNeg x) 39 (s 0 64).toNatClampNeg (s 0 10)) 0 64 ((s 0 64) + (1 : Int32))) 0 10 + (1 : Int32))) τ vs) ∧ (v3.toInt = 0 → (fun v188 s188 t188 z188 => (v188.toInt ≠ 0 → ∃ m, m < n ∧ (m = ((σ 0 9).toInt - pos s188).toNat ∧ τ = t188 ∧ vs = z188 ∧ HX σ s188 ∧ pos σ < pos s188)) ∧ (v188.toInt = 0 → wp_expect (21 : Int32) s188 t188 z188 (fun s197 t197 z197 => Q s197 t197 z197) T)) (0 : Int32) (upC (upC (upC (upC s 37 (s 0 64).toNatClampNeg v) 38 (s 0 64).toNatClampNeg x) 39 (s 0 64).toNatClampNeg (s 0 10)) 0 64 ((s 0 64) + (1 : Int32))) τ vs)))))) := fun v s hv hx hc hps => by
    have hr := hx.2.2.2.1.1
    have ps := (hx_pa h hx)
    have xa := hx_add hx hc hv hx4r (at_tok ps.1 ps.2.1)
    have pa : pos (upC (upC (upC (upC s 37 (s 0 64).toNatClampNeg v) 38 (s 0 64).toNatClampNeg x) 39 (s 0 64).toNatClampNeg (s 0 10)) 0 64 ((s 0 64) + (1 : Int32))) = pos s := rfl
    refine ⟨⟨hr, hc⟩, ⟨hr, hc⟩, ⟨hr, hc⟩, ?_⟩
    generalize upC (upC (upC (upC s 37 (s 0 64).toNatClampNeg v) 38 (s 0 64).toNatClampNeg x) 39 (s 0 64).toNatClampNeg (s 0 10)) 0 64 ((s 0 64) + (1 : Int32)) = s5 at *
    have hP5 := hx_pa h xa
    refine sp_is hP5 (fun hk5 => ⟨fun _ => ⟨fun _ => ?_, no1⟩, no1⟩) (fun _ => ⟨no0, fun _ => ⟨no0, fun _ => fin _ xa (by omega)⟩⟩)
    obtain ⟨g5, g6⟩ := sn_nxt hP5 (by rw [hk5]; decide)
    have xn := hx_sn xa g5
    have hPn := hx_pa h xn
    have hpn := pos_in hPn.1 hPn.2.1
    have esz : ((nxt s5) 0 9).toInt = (σ 0 9).toInt := by rw [xn.1 0 9 rfl rfl]
    have e1 : upC s5 0 10 (s5 0 10 + (1 : Int32)) = nxt s5 := rfl
    rw [e1]
    exact ⟨((σ 0 9).toInt - pos (nxt s5)).toNat, by omega, rfl, rfl, rfl, xn, by omega⟩
  refine sp_is hP4 (fun hk4 => ⟨fun _ => ?_, no1⟩) (fun _ => ⟨no0, fun _ => ⟨fun v s t z => τ = t ∧ vs = z ∧ (0 ≤ v.toInt ∧ v.toInt ≤ 10) ∧ HX σ s ∧ (s 0 64).toInt < 8 ∧ pos s4 ≤ pos s, ?_, fun _ => ⟨rfl, rfl, ⟨ty0, by omega⟩, hx4, hc4, Int.le_refl _⟩, no0⟩⟩)
  rotate_left 1
  · rintro v s _ _ ⟨rfl, rfl, hv, hx, hc, hp⟩
    exact fin2 v s hv hx hc hp
  obtain ⟨g7, g8⟩ := sn_nxt hP4 (by rw [hk4]; decide)
  have e1 : upC s4 0 10 (s4 0 10 + (1 : Int32)) = nxt s4 := rfl
  rw [e1]
  have xn := hx_sn hx4 g7
  have hPn := hx_pa h xn
  refine ⟨fun v s t z => τ = t ∧ vs = z ∧ (0 ≤ v.toInt ∧ v.toInt ≤ 10) ∧ HX σ s ∧ (s 0 64).toInt < 8 ∧ pos s4 ≤ pos s, ?_, no1, fun _ => ?_⟩
  · rintro v s _ _ ⟨rfl, rfl, hv, hx, hc, hp⟩
    exact fin2 v s hv hx hc hp
  · refine sp_expect hPn (by decide) (fun hk ro po wo ico => ?_) (hx_cut h kT xn)
    have e2 : (ty + 1).toInt = ty.toInt + 1 := ad1 (by omega)
    have e3 : ((nxt (nxt s4)) 0 64).toInt = (s4 0 64).toInt := rfl
    exact ⟨rfl, rfl, by omega, hx_sn xn (sn_nxt hPn (by rw [hk]; decide)).1, by omega, by omega⟩
end HED
end

section
/-! the same head again -/
section BOD
variable {σ s s' τ t t' : St} {vs z z' : List Nat}
theorem sp_isSameHead {e ty : Int32} {Q : Int32 → Prop} (he : 0 ≤ e.toInt ∧ e.toInt < 10000) (hd : HDs σ) (k0 : Q 0) (k1 : ((σ 10) e.toNatClampNeg).toInt = ty.toInt → ((σ 15) e.toNatClampNeg).toInt = (σ 0 64).toInt → Q 1) : wp_isSameHead e ty σ τ vs Q := by
  obtain ⟨⟨h1, h2⟩, h3⟩ := hd
  have m8 := mul8 (x := e) he.1 (by omega)
  unfold wp_isSameHead
  refine ⟨he, fun _ => k0, fun c1 => ⟨he, fun c2 => ?_, fun _ => k0⟩⟩
  refine ⟨fun n x => (n : Int) = (σ 0 64).toInt - x.toInt ∧ 0 ≤ x.toInt ∧ x.toInt ≤ (σ 0 64).toInt, ⟨((σ 0 64).toInt).toNat, by rw [show (0 : Int32).toInt = 0 from rfl]; omega, by decide, by rw [show (0 : Int32).toInt = 0 from rfl]; exact h1⟩, fun n x ⟨q1, q2, q3⟩ => ⟨fun _ => k1 c1 c2, fun c3 => ?_⟩⟩
  have a8 : (((8 : Int32) * e) + x).toInt = 8 * e.toInt + x.toInt := by rw [← m8]; exact ad (by omega) (by omega)
  have e1 : (x + 1).toInt = x.toInt + 1 := ad1 (by omega)
  exact ⟨by rw [a8]; omega, by omega, fun _ => ⟨((σ 0 64).toInt - x.toInt - 1).toNat, by omega, by omega, by omega, by omega⟩, fun _ => k0⟩
end BOD
end

section
/-! the beginning of a body -/
abbrev KHw (σ s : St) : Prop := Kp [(0, 10), (0, 64), (0, 55), (0, 56), (0, 57), (0, 58), (0, 59), (0, 60), (0, 54), (0, 65), (0, 53), (0, 49)] [37, 38, 39] σ s
section BGN
variable {σ s s' τ t t' : St} {vs z z' : List Nat} {g g' : Gh} {X X' : Nat → Prop} {E0 H L : Nat}
theorem ur_hw (h : PA σ τ) (k : KHw σ s) (hl : 0 ≤ (s 0 53).toInt ∧ (s 0 53).toInt ≤ (s 0 49).toInt ∧ (s 0 49).toInt ≤ 100) (hL : HLd s) (ha : AtOK s) (hp : pos σ ≤ pos s) : UR σ vs s τ vs := by
  obtain ⟨hT, hA, ⟨n1, n2, n3, n4, n5, n6, n7⟩, ⟨a1, a2, a3, a4, a5, a6, a7, a8, a9, b1, b2, b3⟩, hV⟩ := h
  have f1 : (s 0 35) = (σ 0 35) := k _ _ rfl rfl
  have f3 : (s 0 12) = (σ 0 12) := k _ _ rfl rfl
  have f4 : (s 0 36) = (σ 0 36) := k _ _ rfl rfl
  have f5 : (s 0 15) = (σ 0 15) := k _ _ rfl rfl
  have f6 : (s 0 37) = (σ 0 37) := k _ _ rfl rfl
  have f7 : (s 0 17) = (σ 0 17) := k _ _ rfl rfl
  have f8 : (s 0 39) = (σ 0 39) := k _ _ rfl rfl
  have f11 : (s 0 45) = (σ 0 45) := k _ _ rfl rfl
  have e34 : (s 34) = (σ 34) := funext (fun j => k 34 j rfl rfl)
  have e35 : (s 35) = (σ 35) := funext (fun j => k 35 j rfl rfl)
  have e31 : (s 31) = (σ 31) := funext (fun j => k 31 j rfl rfl)
  have e32 : (s 32) = (σ 32) := funext (fun j => k 32 j rfl rfl)
  have e21 : (s 21) = (σ 21) := funext (fun j => k 21 j rfl rfl)
  have e15 : (s 15) = (σ 15) := funext (fun j => k 15 j rfl rfl)
  have e18 : (s 18) = (σ 18) := funext (fun j => k 18 j rfl rfl)
  have e19 : (s 19) = (σ 19) := funext (fun j => k 19 j rfl rfl)
  have e10 : (s 10) = (σ 10) := funext (fun j => k 10 j rfl rfl)
  have e9 : (s 9) = (σ 9) := funext (fun j => k 9 j rfl rfl)
  have e17 : (s 17) = (σ 17) := funext (fun j => k 17 j rfl rfl)
  have e16 : (s 16) = (σ 16) := funext (fun j => k 16 j rfl rfl)
  have eK : KU σ s := kp_sub k rfl rfl
  have eF := ku_Fi eK
  refine ⟨eK, ⟨tk_kp k rfl rfl ⟨rfl, rfl, rfl, rfl, rfl⟩ rfl hT, ha, ⟨by rw [f1]; exact n1, by rw [eF, f4]; exact n2, hl, by rw [f6]; exact n4, by rw [f7]; exact n5, by rw [f8]; exact n6, by rw [f5]; exact n7⟩, ⟨by rw [e34]; exact a1, by rw [e35]; exact a2, by rw [e21]; exact a3, by rw [e15]; exact a4, by unfold NMo; rw [e18, e19]; exact a5, by rw [e31]; exact a6, by rw [e10]; exact a7, by unfold VTy; rw [e9, e10]; exact a8, hL, by rw [e17]; exact b1, by rw [e16]; exact b2, by rw [e32]; exact b3⟩, hV⟩, fun j _ => k 8 j rfl rfl, of_eq f3, ⟨by rw [f7]; exact Int.le_refl _, by rw [f8]; exact Int.le_refl _, hp, by rw [f4]; exact Int.le_refl _, by rw [f11]; exact Int.le_refl _, by rw [f6]; exact Int.le_refl _⟩, fun _ h => h, Nat.le_refl _, fun j _ => k 25 j rfl rfl, ⟨fun j _ => ⟨k 9 j rfl rfl, k 10 j rfl rfl, k 15 j rfl rfl, k 12 j rfl rfl, fun q => by rw [k 14 j rfl rfl]; exact q⟩, fun n _ q => by rw [e21]; exact q, fun j _ => ⟨k 13 j rfl rfl, k 17 j rfl rfl⟩⟩, fun b _ => ⟨k 26 b rfl rfl, k 27 b rfl rfl, k 28 b rfl rfl, k 29 b rfl rfl, k 30 b rfl rfl, k 54 b rfl rfl⟩⟩
theorem vr_hw (h : PA σ τ) (hn : 0 ≤ (σ 0 31).toInt) (k : KHw σ s) (hl : 0 ≤ (s 0 53).toInt ∧ (s 0 53).toInt ≤ (s 0 49).toInt ∧ (s 0 49).toInt ≤ 100) (hL : HLd s) (ha : AtOK s) (hp : pos σ ≤ pos s) : VRx σ vs s τ vs 0 := by
  have f4 : (s 0 36) = (σ 0 36) := k _ _ rfl rfl
  have f6 : (s 0 37) = (σ 0 37) := k _ _ rfl rfl
  have f7 : (s 0 17) = (σ 0 17) := k _ _ rfl rfl
  have f8 : (s 0 39) = (σ 0 39) := k _ _ rfl rfl
  have f9 : (s 0 31) = (σ 0 31) := k _ _ rfl rfl
  have f10 : (s 0 45) = (σ 0 45) := k _ _ rfl rfl
  have u := ur_hw (vs := vs) h k hl hL ha hp
  refine ⟨u, ⟨by rw [f7]; omega, by rw [f8]; omega, by omega⟩, fun f1 f2 f hg => good_ur u (fun q => by rw [f6]; exact itd_le (itd_of (funext (fun j => k 25 j rfl rfl)) f8 q) (Int.le_refl _)) (fun e e1 e2 e3 e4 => Or.inl ⟨by rw [← f4]; exact e2, ?_, k 17 e rfl rfl⟩) hg, by rw [f9, f10]; omega⟩
  have e9 : (s 13) e = (σ 13) e := k 13 e rfl rfl
  rw [← e9]; exact e4
/-- nothing put yet -/
theorem ty_begin (L : Nat) : TY σ (fun q => if q = wcn σ then some (0, L) else none) (fun _ => False) (wcn σ) 0 L := by
  refine ⟨Nat.le_refl _, if_pos rfl, fun q hq => if_neg (by omega), fun q hq => if_neg (by omega), fun q h k hq hl => ?_⟩
  have hq' : (if q = wcn σ then some (0, L) else none) = some (h, k) := hq
  rw [if_neg (by omega)] at hq'
  cases hq'
end BGN
end

section
/-! the end of a body -/
/-- the code of a body is done (its rows are not put yet) -/
def BCo (s : St) (E0 : Nat) : Prop := E0 < wcn s ∧ ∃ g : Gh, (∃ k, g E0 = some (0, k)) ∧ ∀ q h k, g q = some (h, k) → (E0 ≤ q ∧ q < wcn s) ∧ OPw (s 8) g (s 0 49).toInt ((s 0 55) ≠ 0) (CO s) q h k
section BND
variable {σ s s' τ t t' : St} {vs z z' : List Nat} {g g' : Gh} {X X' : Nat → Prop} {E0 H L : Nat}
theorem bc_end {op : Int32} {n : Nat} (h : TY s g X E0 H L) (hX : ∀ q, ¬ X q) (h0 : 0 ≤ (s 0 17).toInt) (p : PU s s' [op]) (hop : op.toInt = n) (ho : ∀ a, OPn n a g (s' 0 49).toInt ((s' 0 55) ≠ 0) (CO s') (wcn s) H L) (hE : ∃ k, g E0 = some (0, k)) : BCo s' E0 := by
  have e0 : (wcn s : Int) = (s 0 17).toInt := nt h0
  have W : (s' 0 17).toInt = (s 0 17).toInt + 1 := p.2.1
  have e1 : (wcn s' : Int) = (s' 0 17).toInt := nt (by omega)
  obtain ⟨v1, v2, v3⟩ := ev_pu p
  obtain ⟨h1, h2, h3, h4, h5⟩ := h
  have hw : (s' 8) (wcn s) = op := p.2.2.2 0 op rfl
  refine ⟨by omega, g, hE, fun q hh k hq => ?_⟩
  have q1 : q ≤ wcn s := by
    by_cases c : wcn s < q
    · rw [h3 q c] at hq
      cases hq
    · omega
  have q2 : E0 ≤ q := by
    by_cases c : q < E0
    · rw [h4 q c] at hq
      cases hq
    · omega
  refine ⟨⟨q2, by omega⟩, ?_⟩
  by_cases c : q = wcn s
  · subst c
    rw [h2] at hq
    cases hq
    refine ⟨by rw [hw, hop]; omega, ?_⟩
    rw [hw, hop, Int.toNat_natCast]
    exact ho _
  · obtain ⟨a1, a2⟩ := h5 q hh k hq (by omega) (hX q)
    have ew : (s' 8) q = (s 8) q := p.2.2.1 q (by omega)
    refine ⟨by rw [ew]; exact a1, ?_⟩
    rw [ew]
    refine opn_mono (fun _ _ h => h) ?_ v1 (by rw [v2]) v3 a2
    by_cases d : q + 1 < wcn s
    · exact Or.inr (by rw [p.2.2.1 (q + 1) (by omega)])
    · exact Or.inl (fun q' hq' => h3 q' (by omega))
theorem bc_leave (h : TY s g X E0 0 L) (hX : ∀ q, ¬ X q) (h0 : 0 ≤ (s 0 17).toInt) (p : PU s s' [20]) (hv : (s 0 55) ≠ 0) (hE : ∃ k, g E0 = some (0, k)) : BCo s' E0 := by
  have e : (s' 0 55) = (s 0 55) := (ev_pu p).2.1
  exact bc_end (n := 20) h hX h0 p (by decide) (fun a => ⟨rfl, by rw [e]; exact hv⟩) hE
theorem bc_value {s2 : St} (h : TY s g X E0 0 L) (hX : ∀ q, ¬ X q) (h0 : 0 ≤ (s 0 17).toInt) (p : PU s s' [0, 0]) (p2 : PU s' s2 [21]) (hv : (s 0 55) = 0) (hE : ∃ k, g E0 = some (0, k)) : BCo s2 E0 := by
  have e : (s' 0 55) = (s 0 55) := (ev_pu p).2.1
  have e2 : (s2 0 55) = (s' 0 55) := (ev_pu p2).2.1
  have W : (s' 0 17).toInt = (s 0 17).toInt + 2 := p.2.1
  obtain ⟨g', t1, x1, -⟩ := ty_put1 (n := 2) (k := 0) (H' := 1) (L' := L) h h0 p rfl (by omega) rfl (by decide) (fun g' x hg hn hx => ⟨by omega, L, hn, Or.inr ⟨rfl, by omega⟩⟩)
  obtain ⟨k, hk⟩ := hE
  have hle := h.1
  exact bc_end (n := 21) t1 hX (by omega) p2 (by decide) (fun a => ⟨rfl, by rw [e2, e]; exact fun c => c hv⟩) ⟨k, by rw [x1 E0 hle]; exact hk⟩
end BND
end

section
/-! the rows of a body: where its locals lie -/
section ROW
variable {σ s s' τ t t' : St} {vs z z' : List Nat}
theorem mxv {y : Int32} : ((if y < (1 : Int32) then (1 : Int32) else y).toInt = if y.toInt < 1 then 1 else y.toInt) ∧ ((if y < (0 : Int32) then (0 : Int32) else y).toInt = if y.toInt < 0 then 0 else y.toInt) := by
  have e1 : (1 : Int32).toInt = 1 := by decide
  have e0 : (0 : Int32).toInt = 0 := by decide
  constructor
  · by_cases c : y < (1 : Int32)
    · rw [if_pos c, if_pos (by rw [← e1]; exact Int32.lt_iff_toInt_lt.mp c), e1]
    · rw [if_neg c, if_neg (fun q => c (Int32.lt_iff_toInt_lt.mpr (by rw [e1]; exact q)))]
  · by_cases c : y < (0 : Int32)
    · rw [if_pos c, if_pos (by rw [← e0]; exact Int32.lt_iff_toInt_lt.mp c), e0]
    · rw [if_neg c, if_neg (fun q => c (Int32.lt_iff_toInt_lt.mpr (by rw [e0]; exact q)))]
theorem row_mono {w : Nat → Int32} {r : Nat} {a b : Int} (h : RowOK w r a) (hab : a ≤ b) : RowOK w r b := ⟨fun q => by have := h.1 q; omega, fun q => by have := h.2 q; omega⟩
theorem row_w {w w' : Nat → Int32} {r : Nat} {a : Int} (h : RowOK w r a) (h1 : w' r = w r) (h2 : w' (r + 1) = w (r + 1)) : RowOK w' r a := by
  unfold RowOK at *
  rw [h1, h2]
  exact h
def RWx (σ s : St) (c k : Int) : Prop := Kp [(0, 17)] [8] σ s ∧ RW σ s ∧ (s 0 17).toInt = (σ 0 17).toInt + 2 * k ∧ (0 ≤ c ∧ c ≤ 4000 * k) ∧ ∀ j : Nat, (j : Int) < k → RowOK (s 8) (wcn σ + 2 * j) c
theorem rw_put {a b : Int32} {c c' k : Int} (h0 : 0 ≤ (σ 0 17).toInt) (hk : 0 ≤ k) (h : RWx σ s c k) (p : PU s s' [a, b]) (hc : c ≤ c' ∧ c' ≤ c + 4000) (hr : (0 ≤ a.toInt → a.toInt < c') ∧ (0 < b.toInt → 0 ≤ a.toInt ∧ a.toInt + b.toInt ≤ c')) : RWx σ s' c' (k + 1) := by
  obtain ⟨h1, h2, h3, ⟨h4, h5⟩, h6⟩ := h
  have e0 : (wcn σ : Int) = (σ 0 17).toInt := nt h0
  have e1 : (wcn s : Int) = (s 0 17).toInt := nt (by omega)
  have W : (s' 0 17).toInt = (s 0 17).toInt + 2 := p.2.1
  have w0 : (s' 8) (wcn s) = a := p.2.2.2 0 a rfl
  have w1 : (s' 8) (wcn s + 1) = b := p.2.2.2 1 b rfl
  refine ⟨kp_tr h1 p.1, fun j hj => (p.2.2.1 j (by omega)).trans (h2 j hj), by omega, by omega, fun j hj => ?_⟩
  by_cases q : (j : Int) < k
  · exact row_mono (row_w (h6 j q) (p.2.2.1 _ (by omega)) (p.2.2.1 _ (by omega))) hc.1
  · have e2 : wcn σ + 2 * j = wcn s := by omega
    rw [e2]
    unfold RowOK
    rw [w0, w1]
    exact hr
theorem sp_rows {K : Int32 → St → St → List Nat → Prop} (h0 : 0 ≤ (σ 0 17).toInt ∧ (σ 0 17).toInt ≤ 480000) (hl : 0 ≤ (σ 0 49).toInt ∧ (σ 0 49).toInt ≤ 100) (hs : AllIn (-1) 4000 (σ 32)) (k : ∀ (c : Int32) s, RWx σ s c.toInt (σ 0 49).toInt → K c s τ vs) : ∃ L165 : Nat → Int32 → Int32 → St → St → List Nat → Prop, (∃ n, L165 n (0 : Int32) (0 : Int32) σ τ vs) ∧ ∀ (n165 : Nat) (x4_165 : Int32) (x5_165 : Int32) (s165 t165 : St) (z165 : List Nat), L165 n165 x4_165 x5_165 s165 t165 z165 → (((s165 0 49).toInt ≤ x5_165.toInt → K x4_165 s165 t165 z165) ∧ (x5_165.toInt < (s165 0 49).toInt → ((0 ≤ x5_165.toInt ∧ x5_165.toInt < 100) ∧ (∃ J199 : Int32 → Prop, (∀ (y0_199 : Int32), y0_199 = 0 ∨ y0_199 = 1 → J199 y0_199 → ((∃ J213 : Int32 → Prop, (∀ (y1_213 : Int32), J213 y1_213 → (((0 ≤ x5_165.toInt ∧ x5_165.toInt < 100) ∧ wp_put_1 y1_213 (if (s165 32 x5_165.toNatClampNeg) < (0 : Int32) then (0 : Int32) else (s165 32 x5_165.toNatClampNeg)) s165 t165 z165 (fun s224 t224 z224 => (∃ J248 : Int32 → Prop, (∀ (x4_248 : Int32), J248 x4_248 → (∃ m, m < n165 ∧ L165 m x4_248 (x5_165 + 1) s224 t224 z224)) ∧ (y0_199.toInt = 0 → J248 x4_165) ∧ (y0_199.toInt ≠ 0 → ((0 ≤ x5_165.toInt ∧ x5_165.toInt < 100) ∧ J248 (x4_165 + (if (s224 32 x5_165.toNatClampNeg) < (1 : Int32) then (1 : Int32) else (s224 32 x5_165.toNatClampNeg)))))))))) ∧ (y0_199.toInt = 0 → J213 ((-1) : Int32)) ∧ (y0_199.toInt ≠ 0 → J213 x4_165)))) ∧ (∃ J194 : Prop, (J194  → (J199 (1 : Int32))) ∧ ((s165 33 x5_165.toNatClampNeg).toInt ≠ 0 → J194) ∧ ((s165 33 x5_165.toNatClampNeg).toInt = 0 → ((0 ≤ x5_165.toInt ∧ x5_165.toInt < 100) ∧ ((s165 32 x5_165.toNatClampNeg).toInt < 0 → J199 (0 : Int32)) ∧ (0 ≤ (s165 32 x5_165.toNatClampNeg).toInt → J194)))))))) := by
  have z0 : (0 : Int32).toInt = 0 := by decide
  refine ⟨fun n c x s t z => (n : Int) = (σ 0 49).toInt - x.toInt ∧ (0 ≤ x.toInt ∧ x.toInt ≤ (σ 0 49).toInt) ∧ τ = t ∧ vs = z ∧ RWx σ s c.toInt x.toInt, ⟨((σ 0 49).toInt).toNat, by rw [z0]; omega, by rw [z0]; omega, rfl, rfl, kp_rf, fun _ _ => rfl, by rw [z0]; omega, by rw [z0]; omega, fun j hj => by rw [z0] at hj; omega⟩, ?_⟩
  rintro n c x s _ _ ⟨hn, hx, rfl, rfl, hr⟩
  have el : (s 0 49) = (σ 0 49) := hr.1 _ _ rfl rfl
  have es : (s 32) x.toNatClampNeg = (σ 32) x.toNatClampNeg := hr.1 32 _ rfl rfl
  have hz := hs x.toNatClampNeg
  have hW := hr.2.2.1
  have hC := hr.2.2.2.1
  have e1 : (x + 1).toInt = x.toInt + 1 := ad1 (by omega)
  refine ⟨fun c1 => ?_, fun c1 => ?_⟩
  · rw [el] at c1
    have e : x.toInt = (σ 0 49).toInt := by omega
    refine k c s ?_
    rw [← e]
    exact hr
  rw [el] at c1
  refine ⟨by omega, fun y => y.toInt = 0 → ((σ 32) x.toNatClampNeg).toInt < 0, fun y _ hy => ?_, True, fun _ => fun q => absurd q (by decide), fun _ => trivial, fun _ => ⟨by omega, fun q _ => by rw [← es]; exact q, fun _ => trivial⟩⟩
  rw [es]
  obtain ⟨m1, m0⟩ := mxv (y := (σ 32) x.toNatClampNeg)
  refine ⟨fun v => (y.toInt = 0 → v.toInt = -1) ∧ (y.toInt ≠ 0 → v = c), fun v hv => ⟨by omega, sp_put_1 (by omega) (by omega) (fun s2 p => ?_)⟩, fun q => ⟨fun _ => by decide, fun q2 => absurd q q2⟩, fun q => ⟨fun q2 => absurd q2 q, fun _ => rfl⟩⟩
  have es2 : (s2 32) x.toNatClampNeg = (σ 32) x.toNatClampNeg := (p.1 32 _ rfl rfl).trans es
  rw [es2]
  generalize hb : (if (σ 32 x.toNatClampNeg) < (0 : Int32) then (0 : Int32) else (σ 32 x.toNatClampNeg)) = b at *
  generalize hm : (if (σ 32 x.toNatClampNeg) < (1 : Int32) then (1 : Int32) else (σ 32 x.toNatClampNeg)) = m at *
  refine ⟨fun c' => RWx σ s2 c'.toInt (x.toInt + 1), fun c' h => ⟨((σ 0 49).toInt - x.toInt - 1).toNat, by omega, by omega, by omega, rfl, rfl, by rw [e1]; exact h⟩, fun q => ?_, fun q => ⟨by omega, ?_⟩⟩
  · have v1 := hv.1 q
    have s1 := hy q
    rw [if_pos s1] at m0
    exact rw_put h0.1 hx.1 hr p (by omega) ⟨fun q2 => by omega, fun q2 => by omega⟩
  · have v1 := hv.2 q
    subst v1
    have ea : (v + m).toInt = v.toInt + m.toInt := ad (by split at m1 <;> omega) (by split at m1 <;> omega)
    show RWx σ s2 (v + m).toInt (x.toInt + 1)
    rw [ea]
    exact rw_put h0.1 hx.1 hr p (by split at m1 <;> omega) ⟨fun _ => by split at m1 <;> omega, fun q2 => ⟨hC.1, by split at m1 <;> split at m0 <;> omega⟩⟩
end ROW
end

section
/-! a body, done -/
section BTF
variable {σ s s' τ t t' : St} {vs z z' : List Nat}
theorem bt_fin {F : St} {E0 b : Nat} {vd : Prop} {C : Int → Nat → Nat → Prop} (hB : BCo s E0) (h0 : 0 ≤ (s 0 17).toInt) (hl : 0 ≤ (s 0 49).toInt ∧ (s 0 49).toInt ≤ 100) (f1 : ((F 26) b).toInt = E0) (f2 : (F 29) b = (s 0 17)) (f3 : (F 28) b = (s 0 49)) (f4 : 0 ≤ ((F 30) b).toInt ∧ ((F 30) b).toInt ≤ 1000000) (f5 : 0 ≤ ((F 54) b).toInt ∧ ((F 54) b).toInt ≤ (s 0 49).toInt) (hw : RW s F) (hW : (F 0 17).toInt = (s 0 17).toInt + 2 * (s 0 49).toInt) (hr : ∀ j : Nat, (j : Int) < (s 0 49).toInt → RowOK (F 8) (wcn s + 2 * j) ((F 30) b).toInt) (hv : (s 0 55) ≠ 0 ↔ vd) (hC : ∀ n h h', CO s n h h' → C n h h') : BT F b vd C := by
  have e0 : (wcn s : Int) = (s 0 17).toInt := nt h0
  obtain ⟨b1, g, b2, b3⟩ := hB
  have en : (((s 0 49).toInt).toNat : Int) = (s 0 49).toInt := Int.toNat_of_nonneg hl.1
  refine ⟨g, E0, wcn s, ((s 0 49).toInt).toNat, f1, by rw [f2]; omega, by rw [f3]; omega, b1, by omega, by omega, f4, by omega, b2, fun q h k hq => ?_, fun k hk => hr k (by omega)⟩
  obtain ⟨⟨a1, a2⟩, a3, a4⟩ := b3 q h k hq
  refine ⟨⟨a1, a2⟩, by rw [hw q (by omega)]; exact a3, ?_⟩
  rw [hw q (by omega)]
  refine opn_mono (fun _ _ h => h) ?_ (by omega) hv hC a4
  by_cases c : q + 1 < wcn s
  · exact Or.inr (by rw [hw _ (by omega)])
  · refine Or.inl (fun p hp => ?_)
    cases e : g p with
    | none => rfl
    | some v =>
      obtain ⟨v1, v2⟩ := v
      have := (b3 p v1 v2 e).1
      omega
end BTF
end

section
/-! a body is put down -/
abbrev KFn (σ s : St) : Prop := Kp [(0, 17), (0, 53), (0, 45)] [8, 26, 27, 28, 29, 30, 54] σ s
section FNB
variable {σ s s' τ t t' : St} {vs z z' : List Nat}
theorem ur_fn (h : PA σ τ) (k : KFn σ s) (hh : (s 0 53) = 0) (hw : (σ 0 17).toInt ≤ (s 0 17).toInt) (hr : RW σ s) (hb : (σ 0 45).toInt ≤ (s 0 45).toInt) (hu : UB σ s) : UR σ vs s τ vs := by
  obtain ⟨hT, hA, ⟨n1, n2, n3, n4, n5, n6, n7⟩, ⟨a1, a2, a3, a4, a5, a6, a7, a8, a9, b1, b2, b3⟩, hV⟩ := h
  have f1 : (s 0 35) = (σ 0 35) := k _ _ rfl rfl
  have f3 : (s 0 12) = (σ 0 12) := k _ _ rfl rfl
  have f4 : (s 0 36) = (σ 0 36) := k _ _ rfl rfl
  have f5 : (s 0 15) = (σ 0 15) := k _ _ rfl rfl
  have f6 : (s 0 37) = (σ 0 37) := k _ _ rfl rfl
  have f2 : (s 0 10) = (σ 0 10) := k _ _ rfl rfl
  have f9 : (s 0 8) = (σ 0 8) := k _ _ rfl rfl
  have e3 : (s 3) = (σ 3) := funext (fun j => k 3 j rfl rfl)
  have hp : pos σ ≤ pos s := by
    unfold pos
    rw [f2, e3]
    exact Int.le_refl _
  have hi : (s 0 53).toInt = 0 := by rw [hh]; decide
  have f10 : (s 0 49) = (σ 0 49) := k _ _ rfl rfl
  have f8 : (s 0 39) = (σ 0 39) := k _ _ rfl rfl
  have e34 : (s 34) = (σ 34) := funext (fun j => k 34 j rfl rfl)
  have e35 : (s 35) = (σ 35) := funext (fun j => k 35 j rfl rfl)
  have e31 : (s 31) = (σ 31) := funext (fun j => k 31 j rfl rfl)
  have e32 : (s 32) = (σ 32) := funext (fun j => k 32 j rfl rfl)
  have e21 : (s 21) = (σ 21) := funext (fun j => k 21 j rfl rfl)
  have e15 : (s 15) = (σ 15) := funext (fun j => k 15 j rfl rfl)
  have e18 : (s 18) = (σ 18) := funext (fun j => k 18 j rfl rfl)
  have e19 : (s 19) = (σ 19) := funext (fun j => k 19 j rfl rfl)
  have e10 : (s 10) = (σ 10) := funext (fun j => k 10 j rfl rfl)
  have e9 : (s 9) = (σ 9) := funext (fun j => k 9 j rfl rfl)
  have e17 : (s 17) = (σ 17) := funext (fun j => k 17 j rfl rfl)
  have e16 : (s 16) = (σ 16) := funext (fun j => k 16 j rfl rfl)
  have eK : KU σ s := kp_sub k rfl rfl
  have eF := ku_Fi eK
  refine ⟨eK, ⟨tk_kp k rfl rfl ⟨rfl, rfl, rfl, rfl, rfl⟩ rfl hT, (by unfold AtOK; rw [f2, f9]; exact hA), ⟨by rw [f1]; exact n1, by rw [eF, f4]; exact n2, (by rw [hi, f10]; omega), by rw [f6]; exact n4, by omega, by rw [f8]; exact n6, by rw [f5]; exact n7⟩, ⟨by rw [e34]; exact a1, by rw [e35]; exact a2, by rw [e21]; exact a3, by rw [e15]; exact a4, by unfold NMo; rw [e18, e19]; exact a5, by rw [e31]; exact a6, by rw [e10]; exact a7, by unfold VTy; rw [e9, e10]; exact a8, (fun j hj => by rw [hi] at hj; omega), by rw [e17]; exact b1, by rw [e16]; exact b2, by rw [e32]; exact b3⟩, hV⟩, hr, of_eq f3, ⟨hw, by rw [f8]; exact Int.le_refl _, hp, by rw [f4]; exact Int.le_refl _, hb, by rw [f6]; exact Int.le_refl _⟩, fun _ h => h, Nat.le_refl _, fun j _ => k 25 j rfl rfl, ⟨fun j _ => ⟨k 9 j rfl rfl, k 10 j rfl rfl, k 15 j rfl rfl, k 12 j rfl rfl, fun q => by rw [k 14 j rfl rfl]; exact q⟩, fun n _ q => by rw [e21]; exact q, fun j _ => ⟨k 13 j rfl rfl, k 17 j rfl rfl⟩⟩, hu⟩
end FNB
end

