/-! names outside of functions -/
abbrev KD (σ s : St) : Prop := Kp [(0, 12), (0, 13), (0, 36), (0, 31), (0, 37)] [9, 10, 11, 12, 13, 14, 21, 18, 19, 20, 15, 16, 17] σ s
section DCG
variable {σ s s' τ t t' : St} {vs z z' : List Nat}
theorem ur_kd (h : PA σ τ) (k : KD σ s) (hE : (σ 0 36).toInt ≤ (s 0 36).toInt ∧ (s 0 36).toInt ≤ Fi σ + 100) (hd : (σ 0 37).toInt ≤ (s 0 37).toInt ∧ (s 0 37).toInt ≤ 16000) (h3 : AllIn (-1) 16001 (s 21)) (h4 : AllIn 0 8 (s 15)) (h5 : NMo s) (h7 : AllIn (-1) 10 (s 10)) (h8 : VTy s) (g1 : AllIn 0 16000 (s 17)) (g2 : AllIn 0 10 (s 16)) (ho : OF σ s) (hu : UE σ s) : UR σ vs s τ vs ∧ pos s = pos σ ∧ (s 0 17) = (σ 0 17) ∧ (s 0 39) = (σ 0 39) ∧ kd s = kd σ := by
  obtain ⟨hT, hA, ⟨n1, n2, n3, n4, n5, n6, n7⟩, ⟨a1, a2, a3, a4, a5, a6, a7, a8, a9, b1, b2, b3⟩, hV⟩ := h
  have f1 : (s 0 35) = (σ 0 35) := k _ _ rfl rfl
  have f3 : (s 0 10) = (σ 0 10) := k _ _ rfl rfl
  have f4 : (s 0 8) = (σ 0 8) := k _ _ rfl rfl
  have f5 : (s 0 15) = (σ 0 15) := k _ _ rfl rfl
  have f7 : (s 0 17) = (σ 0 17) := k _ _ rfl rfl
  have f8 : (s 0 39) = (σ 0 39) := k _ _ rfl rfl
  have f9 : (s 0 53) = (σ 0 53) := k _ _ rfl rfl
  have f10 : (s 0 49) = (σ 0 49) := k _ _ rfl rfl
  have f11 : (s 0 45) = (σ 0 45) := k _ _ rfl rfl
  have e34 : (s 34) = (σ 34) := funext (fun j => k 34 j rfl rfl)
  have e35 : (s 35) = (σ 35) := funext (fun j => k 35 j rfl rfl)
  have e31 : (s 31) = (σ 31) := funext (fun j => k 31 j rfl rfl)
  have e32 : (s 32) = (σ 32) := funext (fun j => k 32 j rfl rfl)
  have e3 : (s 3) = (σ 3) := funext (fun j => k 3 j rfl rfl)
  have e2 : (s 2) = (σ 2) := funext (fun j => k 2 j rfl rfl)
  have eK : KU σ s := kp_sub k rfl rfl
  have eF := ku_Fi eK
  have eP : pos s = pos σ := by unfold pos; rw [f3, e3]
  refine ⟨⟨eK, ⟨tk_kp k rfl rfl ⟨rfl, rfl, rfl, rfl, rfl⟩ rfl hT, by unfold AtOK; rw [f3, f4]; exact hA, ⟨by rw [f1]; exact n1, by rw [eF]; omega, by rw [f9, f10]; exact n3, by omega, by rw [f7]; exact n5, by rw [f8]; exact n6, by rw [f5]; exact n7⟩, ⟨by rw [e34]; exact a1, by rw [e35]; exact a2, h3, h4, h5, by rw [e31]; exact a6, h7, h8, by unfold HLd; rw [e35, f9, f10]; exact a9, g1, g2, by rw [e32]; exact b3⟩, hV⟩, fun j _ => k 8 j rfl rfl, ho, ⟨by rw [f7]; exact Int.le_refl _, by rw [f8]; exact Int.le_refl _, by rw [eP]; exact Int.le_refl _, hE.1, by rw [f11]; exact Int.le_refl _, hd.1⟩, fun _ h => h, Nat.le_refl _, fun j _ => k 25 j rfl rfl, hu, fun b _ => ⟨k 26 b rfl rfl, k 27 b rfl rfl, k 28 b rfl rfl, k 29 b rfl rfl, k 30 b rfl rfl, k 54 b rfl rfl⟩⟩, eP, f7, f8, by unfold kd; rw [f3, e2]⟩
/-- a new name at e -/
def DCx (σ s : St) (e : Nat) (so : Int32) (len : Int) : Prop := Kp [(0, 36), (0, 31)] [9, 13, 14, 21, 18, 19, 20] σ s ∧ (s 0 36).toInt = (σ 0 36).toInt + 1 ∧ (s 0 31).toInt = (σ 0 31).toInt + len ∧ (∀ j, (s 9) j = if j = e then so else (σ 9) j) ∧ (∀ j, (s 13) j = if j = e then 0 else (σ 13) j) ∧ (∀ j, (s 14) j = if j = e then 0 else (σ 14) j) ∧ (∀ j : Nat, (s 21) j = if (j : Int) = e - Fi σ then -1 else (σ 21) j) ∧ NMo s
theorem dc_init {so ent nf nl : Int32} {e i : Nat} (h1 : ent.toInt = (σ 0 36).toInt + 1) (h2 : (σ 0 36).toInt - Fi σ = (i : Int)) (h3 : NMo σ) (h4 : 0 ≤ nf.toInt ∧ 0 ≤ nl.toInt ∧ nf.toInt + nl.toInt ≤ 65536) (he : (e : Int) = (σ 0 36).toInt) : DCx σ (upC (upC (upC (upC (upC (upC (upC σ 0 36 ent) 9 e so) 13 e 0) 14 e 0) 21 i (-1)) 18 e nf) 19 e nl) e so 0 := by
  refine ⟨kp_a (kp_a (kp_a (kp_a (kp_a (kp_a (kp_f kp_rf rfl) rfl) rfl) rfl) rfl) rfl) rfl, ?_, ?_, fun j => ?_, fun j => ?_, fun j => ?_, fun j => ?_, fun j => ?_⟩
  · simp only [rdC, Nat.reduceEqDiff, if_true, if_false]
    exact h1
  · simp only [rdC, Nat.reduceEqDiff, if_true, if_false]
    omega
  · simp only [rdC, Nat.reduceEqDiff, if_true, if_false]
  · simp only [rdC, Nat.reduceEqDiff, if_true, if_false]
  · simp only [rdC, Nat.reduceEqDiff, if_true, if_false]
  · simp only [rdC, Nat.reduceEqDiff, if_true, if_false]
    by_cases q : j = i
    · rw [if_pos q, if_pos (by omega)]
    · rw [if_neg q, if_neg (by omega)]
  · have q1 : (upC (upC (upC (upC (upC (upC (upC σ 0 36 ent) 9 e so) 13 e 0) 14 e 0) 21 i (-1)) 18 e nf) 19 e nl) 18 j = if j = e then nf else (σ 18) j := by
      simp only [rdC, Nat.reduceEqDiff, if_true, if_false]
    have q2 : (upC (upC (upC (upC (upC (upC (upC σ 0 36 ent) 9 e so) 13 e 0) 14 e 0) 21 i (-1)) 18 e nf) 19 e nl) 19 j = if j = e then nl else (σ 19) j := by
      simp only [rdC, Nat.reduceEqDiff, if_true, if_false]
    rw [q1, q2]
    by_cases q : j = e
    · rw [if_pos q, if_pos q]
      exact h4
    · rw [if_neg q, if_neg q]
      exact h3 j
theorem sp_declare {tk so : Int32} {Q : Int32 → St → St → List Nat → Prop} (h : PA σ τ) (ht : 0 ≤ tk.toInt ∧ tk.toInt < 16002) (hl : ((σ 3) tk.toNatClampNeg).toInt ≤ ((σ 4) tk.toNatClampNeg).toInt) (hn : 0 ≤ (σ 0 31).toInt ∧ (σ 0 31).toInt + (((σ 4) tk.toNatClampNeg).toInt - ((σ 3) tk.toNatClampNeg).toInt) ≤ 60000) (k0 : ∀ s, TL σ s → ((s 0 12).toInt = 0 → (s 0 15).toInt = 0 → False) → Q (-1) s τ vs) (k : ∀ (e : Int32) s, e.toInt = (σ 0 36).toInt → (σ 0 36).toInt < Fi σ + 100 → DCx σ s e.toNatClampNeg so (((σ 4) tk.toNatClampNeg).toInt - ((σ 3) tk.toNatClampNeg).toInt) → Q e s τ vs) : wp_declare tk so σ τ vs Q := by
  have h9 := h
  obtain ⟨hT, hA, ⟨n1, n2, n3, n4, n5, n6, n7⟩, ⟨a1, a2, a3, a4, a5, a6, a7, a8, a9, b1, b2, b3⟩, hV⟩ := h9
  have hF : ((σ 22) (σ 0 35).toNatClampNeg).toInt = Fi σ := rfl
  have fr := hT.2.2.2.2.1 tk.toNatClampNeg
  have to := hT.2.2.2.2.2.1 tk.toNatClampNeg
  have es : ((σ 0 36) - ((σ 22) (σ 0 35).toNatClampNeg)).toInt = (σ 0 36).toInt - Fi σ := by rw [← hF]; exact sb (by rw [hF]; omega) (by rw [hF]; omega)
  have el : ((σ 4) tk.toNatClampNeg - (σ 3) tk.toNatClampNeg).toInt = ((σ 4) tk.toNatClampNeg).toInt - ((σ 3) tk.toNatClampNeg).toInt := sb (by omega) (by omega)
  have ee : ((σ 0 36) + (1 : Int32)).toInt = (σ 0 36).toInt + 1 := ad1 (by omega)
  unfold wp_declare
  refine ⟨by omega, fun c => ?_, fun _ => sp_tell (by decide) ht (fun s hs hf => k0 s hs hf)⟩
  rw [es] at c
  refine ⟨by omega, by omega, by omega, by omega, by omega, by omega, ht, ht, by omega, ht, ?_⟩
  have nb : (vp_nar .boolean (0 : Int32)) = 0 := by decide
  have ni : (((σ 0 36) - ((σ 22) (σ 0 35).toNatClampNeg)).toNatClampNeg : Int) = (σ 0 36).toInt - Fi σ := by rw [nt (by omega), es]
  have ne : ((σ 0 36).toNatClampNeg : Int) = (σ 0 36).toInt := nt (by omega)
  refine ⟨fun n x s t z => τ = t ∧ vs = z ∧ (n : Int) = ((σ 4) tk.toNatClampNeg).toInt - x.toInt ∧ ((σ 3) tk.toNatClampNeg).toInt ≤ x.toInt ∧ x.toInt ≤ ((σ 4) tk.toNatClampNeg).toInt ∧ DCx σ s (σ 0 36).toNatClampNeg so (x.toInt - ((σ 3) tk.toNatClampNeg).toInt), ⟨(((σ 4) tk.toNatClampNeg).toInt - ((σ 3) tk.toNatClampNeg).toInt).toNat, rfl, rfl, by omega, by omega, by omega, ?_⟩, ?_⟩
  · rw [nb]
    have := dc_init (so := so) (nf := (σ 0 31)) (e := (σ 0 36).toNatClampNeg) ee ni.symm a5 (nl := (σ 4) tk.toNatClampNeg - (σ 3) tk.toNatClampNeg) ⟨hn.1, by rw [el]; omega, by rw [el]; omega⟩ ne
    have e0 : ((σ 3) tk.toNatClampNeg).toInt - ((σ 3) tk.toNatClampNeg).toInt = 0 := by omega
    rw [e0]
    exact this
  · rintro n x s _ _ ⟨rfl, rfl, q1, q2, q3, q4⟩
    have et : (s 4) tk.toNatClampNeg = (σ 4) tk.toNatClampNeg := q4.1 _ _ rfl rfl
    refine ⟨ht, fun c2 => ?_, fun c2 => ?_⟩
    · rw [et] at c2
      have ex : x.toInt = ((σ 4) tk.toNatClampNeg).toInt := by omega
      rw [ex] at q4
      exact k _ s rfl (by omega) q4
    · rw [et] at c2
      have e1 := ad1 (x := x) (by omega)
      obtain ⟨p1, p2, p3, p4, p5, p6, p7, p8⟩ := q4
      have e2 : ((s 0 31) + (1 : Int32)).toInt = (s 0 31).toInt + 1 := ad1 (by omega)
      refine ⟨by omega, by omega, n - 1, by omega, rfl, rfl, by omega, by omega, by omega, kp_f (kp_a p1 rfl) rfl, p2, ?_, p4, p5, p6, p7, p8⟩
      rw [rdA_eq rfl, e2]
      omega
theorem ue_dc {e : Nat} {so : Int32} {len : Int} (h : PA σ τ) (he : (e : Int) = (σ 0 36).toInt) (p : DCx σ s e so len) : UE σ s := by
  obtain ⟨p1, p2, p3, p4, p5, p6, p7, p8⟩ := p
  have n2 := h.2.2.1.2.1
  refine ⟨fun j hj => ⟨?_, p1 10 j rfl rfl, p1 15 j rfl rfl, p1 12 j rfl rfl, fun q => ?_⟩, fun n hn q => ?_, fun j hj => ⟨?_, p1 17 j rfl rfl⟩⟩
  · rw [p4, if_neg (by omega)]
  · rw [p6, if_neg (by omega)]; exact q
  · rw [p7, if_neg (by omega)]; exact q
  · rw [p5, if_neg (by omega)]
theorem fc_dc {e : Nat} {so : Int32} {len : Int} (h : PA σ τ) (p : DCx σ s e so len) : AllIn (-1) 16001 (s 21) := fun j => by
  rw [p.2.2.2.2.2.2.1]
  split
  · decide
  · exact h.2.2.2.1.2.2.1 j
/-- looking up or making the name of a variable -/
def GNx (σ s τ : St) (vs : List Nat) (r : Int32) (len : Int) : Prop := UR σ vs s τ vs ∧ pos s = pos σ ∧ (s 0 17) = (σ 0 17) ∧ (s 0 39) = (σ 0 39) ∧ kd s = kd σ ∧ (s 0 37) = (σ 0 37) ∧ (s 25) = (σ 25) ∧ ((σ 0 31).toInt ≤ (s 0 31).toInt ∧ (s 0 31).toInt ≤ (σ 0 31).toInt + len ∧ (s 0 45).toInt = (σ 0 45).toInt) ∧ (r.toInt < 0 → (s 0 12).toInt = 0 → (s 0 15).toInt = 0 → False) ∧ (0 ≤ r.toInt → Fi σ ≤ r.toInt ∧ r.toInt < (s 0 36).toInt ∧ ((s 9) r.toNatClampNeg).toInt = 1) ∧ (∀ f, GOODu σ f → GOODu s f)
theorem sp_globalName {tk ty sz st ex : Int32} {Q : Int32 → St → St → List Nat → Prop} (h : PA σ τ) (ht : 0 ≤ tk.toInt ∧ tk.toInt < 16002) (hl : ((σ 3) tk.toNatClampNeg).toInt ≤ ((σ 4) tk.toNatClampNeg).toInt) (hn : 0 ≤ (σ 0 31).toInt ∧ (σ 0 31).toInt + (((σ 4) tk.toNatClampNeg).toInt - ((σ 3) tk.toNatClampNeg).toInt) ≤ 60000) (hty : 0 ≤ ty.toInt ∧ ty.toInt ≤ 10) (k : ∀ r s, GNx σ s τ vs r (((σ 4) tk.toNatClampNeg).toInt - ((σ 3) tk.toNatClampNeg).toInt) → Q r s τ vs) : wp_globalName tk ty sz st ex σ τ vs Q := by
  have h9 := h
  obtain ⟨hT, hA, ⟨n1, n2, n3, n4, n5, n6, n7⟩, ⟨a1, a2, a3, a4, a5, a6, a7, a8, a9, b1, b2, b3⟩, hV⟩ := h9
  unfold wp_globalName
  have tl : ∀ (r : Int32) s, TL σ s → (r.toInt < 0 → (s 0 12).toInt = 0 → (s 0 15).toInt = 0 → False) → (0 ≤ r.toInt → Fi σ ≤ r.toInt ∧ r.toInt < (s 0 36).toInt ∧ ((s 9) r.toNatClampNeg).toInt = 1) → ∀ s2, Kp [] [11] s s2 → Q r s2 τ vs := fun r s hs f1 f2 s2 k2 => by
    have kk : KD σ s2 := kp_tr (kp_sub hs.1 rfl rfl) (kp_sub k2 rfl rfl)
    have same : ∀ c k, ([(0, 12), (0, 13)] : List (Nat × Nat)).contains (c, k) = false → ([11] : List Nat).contains c = false → s2 c k = σ c k := fun c k h1 h2 => by rw [k2 c k rfl h2, hs.1 c k h1 rfl]
    have e36 : (s2 0 36) = (σ 0 36) := same _ _ rfl rfl
    have e37 : (s2 0 37) = (σ 0 37) := same _ _ rfl rfl
    have a21 : (s2 21) = (σ 21) := funext (fun j => same 21 j rfl rfl)
    have a15 : (s2 15) = (σ 15) := funext (fun j => same 15 j rfl rfl)
    have a18 : (s2 18) = (σ 18) := funext (fun j => same 18 j rfl rfl)
    have a19 : (s2 19) = (σ 19) := funext (fun j => same 19 j rfl rfl)
    have a10 : (s2 10) = (σ 10) := funext (fun j => same 10 j rfl rfl)
    have a9' : (s2 9) = (σ 9) := funext (fun j => same 9 j rfl rfl)
    have a17 : (s2 17) = (σ 17) := funext (fun j => same 17 j rfl rfl)
    have a16 : (s2 16) = (σ 16) := funext (fun j => same 16 j rfl rfl)
    have a14 : (s2 14) = (σ 14) := funext (fun j => same 14 j rfl rfl)
    have f12 : (s2 0 12) = (s 0 12) := k2 _ _ rfl rfl
    have f15 : (s2 0 15) = (s 0 15) := k2 _ _ rfl rfl
    have fe : (s2 0 36) = (s 0 36) := k2 _ _ rfl rfl
    have fs : (s2 9) = (s 9) := funext (fun j => k2 9 j rfl rfl)
    obtain ⟨u1, u2, u3, u4, u5⟩ := ur_kd (vs := vs) h kk (by rw [e36]; omega) (by rw [e37]; omega) (by rw [a21]; exact a3) (by rw [a15]; exact a4) (by unfold NMo; rw [a18, a19]; exact a5) (by rw [a10]; exact a7) (by unfold VTy; rw [a9', a10]; exact a8) (by rw [a17]; exact b1) (by rw [a16]; exact b2) (of_tr hs.2 (of_eq f12)) ⟨fun e _ => ⟨same 9 e rfl rfl, same 10 e rfl rfl, same 15 e rfl rfl, same 12 e rfl rfl, fun q => by rw [a14]; exact q⟩, fun n _ q => by rw [a21]; exact q, fun e _ => ⟨same 13 e rfl rfl, same 17 e rfl rfl⟩⟩
    have n31 : (s2 0 31) = (σ 0 31) := same _ _ rfl rfl
    have n45 : (s2 0 45) = (σ 0 45) := same _ _ rfl rfl
    refine k r s2 ⟨u1, u2, u3, u4, u5, e37, funext (fun j => same 25 j rfl rfl), by rw [n31, n45]; omega, by rw [f12, f15]; exact f1, by rw [fe, fs]; exact f2, fun f hg => good_ur u1 (fun q => by rw [e37]; exact itd_of (funext (fun j => same 25 j rfl rfl)) u4 q) (fun e e1 e2 e3 e4 => Or.inl ⟨by rw [← e36]; exact e2, ?_, same 17 e rfl rfl⟩) hg⟩
    have e13 : (s2 13) e = (σ 13) e := same 13 e rfl rfl
    rw [← e13]; exact e4
  refine sp_entity h ht ⟨fun c => absurd c (by decide), fun _ => ?_⟩ (fun e e1 e2 => ⟨fun c => ⟨by omega, ?_⟩, fun c => by omega⟩)
  · -- a new one
    refine sp_declare h ht hl hn (fun s hs hf => ⟨fun c => absurd c (by decide), fun _ => tl _ s hs (fun _ => hf) (fun c => absurd c (by decide)) s kp_rf⟩) (fun e s he hlt dc => ⟨fun c => ⟨by omega, by omega, by omega, ?_⟩, fun c => by omega⟩)
    have nn : (e.toNatClampNeg : Int) = (σ 0 36).toInt := by rw [nt (by omega)]; exact he
    have ue := ue_dc h nn dc
    have fc := fc_dc h dc
    obtain ⟨p1, p2, p3, p4, p5, p6, p7, p8⟩ := dc
    generalize hs3 : (upC (upC (upC s 10 e.toNatClampNeg ty) 11 e.toNatClampNeg sz) 12 e.toNatClampNeg (vp_nar .boolean st)) = s3
    have x : ∀ c k, c ≠ 10 → c ≠ 11 → c ≠ 12 → s3 c k = s c k := fun c k q1 q2 q3 => by
      rw [← hs3, rdC, if_neg q3, rdC, if_neg q2, rdC, if_neg q1]
    have x10 : ∀ k, s3 10 k = if k = e.toNatClampNeg then ty else (σ 10) k := fun k => by
      have : (s 10) k = (σ 10) k := p1 10 k rfl rfl
      rw [← this, ← hs3, rdC, if_neg (by decide), rdC, if_neg (by decide), rdA]
    have x12 : ∀ k, k ≠ e.toNatClampNeg → s3 12 k = (σ 12) k := fun k q => by
      have : (s 12) k = (σ 12) k := p1 12 k rfl rfl
      rw [← this, ← hs3, rdA, if_neg q, rdC, if_neg (by decide), rdC, if_neg (by decide)]
    have x9 : ∀ j, s3 9 j = s 9 j := fun j => x 9 j (by decide) (by decide) (by decide)
    have x0 : ∀ j, s3 0 j = s 0 j := fun j => x 0 j (by decide) (by decide) (by decide)
    have kk : KD σ s3 := by rw [← hs3]; exact kp_a (kp_a (kp_a (kp_sub p1 rfl rfl) rfl) rfl) rfl
    have e37 : (s3 0 37) = (σ 0 37) := by rw [x0]; exact p1 0 37 rfl rfl
    have e21 : (s3 21) = (s 21) := funext (fun j => x 21 j (by decide) (by decide) (by decide))
    have e15 : (s3 15) = (σ 15) := funext (fun j => by rw [x 15 j (by decide) (by decide) (by decide)]; exact p1 15 j rfl rfl)
    have e16 : (s3 16) = (σ 16) := funext (fun j => by rw [x 16 j (by decide) (by decide) (by decide)]; exact p1 16 j rfl rfl)
    have e17 : (s3 17) = (σ 17) := funext (fun j => by rw [x 17 j (by decide) (by decide) (by decide)]; exact p1 17 j rfl rfl)
    have e18 : (s3 18) = (s 18) := funext (fun j => x 18 j (by decide) (by decide) (by decide))
    have e19 : (s3 19) = (s 19) := funext (fun j => x 19 j (by decide) (by decide) (by decide))
    have e14 : ∀ j, s3 14 j = s 14 j := fun j => x 14 j (by decide) (by decide) (by decide)
    have e13 : ∀ j, s3 13 j = s 13 j := fun j => x 13 j (by decide) (by decide) (by decide)
    have ei : (s3 25) = (σ 25) := funext (fun j => by rw [x 25 j (by decide) (by decide) (by decide)]; exact p1 25 j rfl rfl)
    obtain ⟨ue1, ue2, ue3⟩ := ue
    obtain ⟨u1, u2, u3, u4, u5⟩ := ur_kd (vs := vs) h kk (by rw [x0]; omega) (by rw [e37]; omega) (by rw [e21]; exact fc) (by rw [e15]; exact a4) (by unfold NMo; rw [e18, e19]; exact p8) (fun j => by
      rw [x10]
      split
      · omega
      · exact a7 j) (fun j hj => by
      rw [x9, p4] at hj
      rw [x10]
      by_cases q : j = e.toNatClampNeg
      · rw [if_pos q]; exact hty.1
      · rw [if_neg q] at hj ⊢
        exact a8 j hj) (by rw [e17]; exact b1) (by rw [e16]; exact b2) (of_eq ((x0 12).trans (p1 0 12 rfl rfl))) ⟨fun j hj => by
      obtain ⟨d1, d2, d3, d4, d5⟩ := ue1 j hj
      exact ⟨by rw [x9]; exact d1, by rw [x10, if_neg (by omega)], by rw [e15], by rw [x12 j (by omega)], fun q => by rw [e14]; exact d5 q⟩, fun n hn9 q => by rw [e21]; exact ue2 n hn9 q, fun j hj => ⟨by rw [e13]; exact (ue3 j hj).1, by rw [e17]⟩⟩
    refine k e s3 ⟨u1, u2, u3, u4, u5, e37, ei, by rw [x0, x0, show (s 0 45) = (σ 0 45) from p1 0 45 rfl rfl]; omega, fun c2 => by omega, fun _ => ⟨by omega, by rw [x0]; omega, ?_⟩, fun f hg => good_ur u1 (fun q => by rw [e37]; exact itd_of ei u4 q) (fun j j1 j2 j3 j4 => ?_) hg⟩
    · rw [x9, p4, if_pos rfl]; decide
    · rw [e13, p5] at j4
      by_cases q : j = e.toNatClampNeg
      · rw [if_pos q] at j4
        exact absurd rfl j4
      · rw [if_neg q] at j4
        rw [x0] at j2
        exact Or.inl ⟨by omega, j4, by rw [e17]⟩
  · -- there is one
    refine ⟨fun y => y.toInt ≠ 0 → ((σ 9) e.toNatClampNeg).toInt = 1, fun y _ hy => ⟨fun w => w.toInt ≠ 0 → y.toInt ≠ 0, fun w _ hw => sp_must ht (fun s hs hf => ?_), ?_⟩, ?_⟩
    · have es : (s 9) e.toNatClampNeg = (σ 9) e.toNatClampNeg := hs.1 9 _ rfl rfl
      have ee : (s 0 36) = (σ 0 36) := hs.1 _ _ rfl rfl
      have fin : ∀ s2, Kp [] [11] s s2 → ((0 ≤ e.toInt ∧ e.toInt < 10000) ∧ ((s2 9 e.toNatClampNeg).toInt ≠ 1 → Q (-1) s2 τ vs) ∧ ((s2 9 e.toNatClampNeg).toInt = 1 → Q e s2 τ vs)) := fun s2 k2 => by
        have es2 : (s2 9) e.toNatClampNeg = (σ 9) e.toNatClampNeg := (k2 9 _ rfl rfl).trans es
        refine ⟨by omega, fun c2 => tl _ s hs (fun _ f1 f2 => ?_) (fun c => absurd c (by decide)) s2 k2, fun c2 => tl _ s hs (fun c3 => by omega) (fun _ => ⟨e1, by rw [ee]; exact e2, ?_⟩) s2 k2⟩
        · rw [es2] at c2
          exact c2 (hy (hw (hf f1 f2)))
        · rw [es2] at c2
          rw [es]; exact c2
      refine ⟨fun s2 t2 z2 => τ = t2 ∧ vs = z2 ∧ Kp [] [11] s s2, ?_, fun _ => ⟨rfl, rfl, kp_rf⟩, fun _ => ⟨fun _ => ⟨rfl, rfl, kp_rf⟩, fun _ => ⟨by omega, rfl, rfl, kp_a kp_rf rfl⟩⟩⟩
      rintro s2 _ _ ⟨rfl, rfl, k2⟩
      exact fin s2 k2
    · exact ⟨True, fun _ => no0, fun _ => trivial, fun c2 => ⟨by omega, fun _ => trivial, fun _ => ⟨fun _ => trivial, fun _ => ⟨True, fun _ _ => c2, fun _ => trivial, fun _ => ⟨by omega, fun _ => trivial, fun _ => trivial⟩⟩⟩⟩⟩
    · exact ⟨True, fun _ => no0, fun _ => trivial, fun c2 => ⟨by omega, fun _ => trivial, fun _ => ⟨by omega, fun _ => True, fun y9 _ _ => ⟨fun _ => True, fun w9 _ _ => ⟨fun _ => trivial, fun _ => ⟨True, fun _ _ => c2, fun _ => trivial, fun _ => ⟨by omega, fun _ => trivial, fun _ => ⟨by omega, fun _ => trivial, fun _ => trivial⟩⟩⟩⟩, fun _ => trivial, fun _ => trivial⟩, fun _ => trivial, fun _ => trivial⟩⟩⟩
end DCG
