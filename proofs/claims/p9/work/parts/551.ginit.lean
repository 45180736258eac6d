/-! initials outside of functions -/
section GIN
variable {σ s s' τ t t' : St} {vs z z' : List Nat}
/-- as RL, but what data begin with is said apart -/
def RG (σ : St) (vs : List Nat) (s t : St) (z : List Nat) : Prop := KE σ s ∧ UR σ vs s t z
theorem rg_rl (r : RL σ vs s t z) : RG σ vs s t z := ⟨r.1, ur_rs (rs_rl r)⟩
theorem rg_tr (h : RG σ vs s t z) (g : RG s z s' t' z') : RG σ vs s' t' z' := ⟨kp_tr h.1 g.1, ur_tr h.2 g.2⟩
theorem rg_nb {c : Int} (h : NB σ vs) (r : RG σ vs s t z) (n : NCt σ vs s z c) (hc : 0 ≤ c) : NB s z := by
  obtain ⟨h1, h2, h3⟩ := h
  obtain ⟨n1, n2, n3⟩ := n
  have e := ur_sz r.2
  unfold NB
  rw [e]
  exact ⟨by omega, by omega, by omega⟩
def ITp (σ s : St) : Prop := ∀ f, ITd σ f (σ 0 37).toInt → ITd s f (s 0 37).toInt
/-- the words back, a row of inits -/
theorem rg_w (h0 : 0 ≤ (σ 0 17).toInt) (r : RL σ vs s t z) : RG σ vs (upC s 0 17 (σ 0 17)) t z ∧ ITp σ (upC s 0 17 (σ 0 17)) := by
  obtain ⟨g1, g2, g3, g4, g5, g6, g7, g8, g9, g10, g11⟩ := r
  obtain ⟨p1, p2, ⟨m1, m2, m3, m4, m5, m6, m7⟩, pa, p5⟩ := g2
  have k : KE σ (upC s 0 17 (σ 0 17)) := kp_f g1 rfl
  have f2 : (s 0 36) = (σ 0 36) := g1 _ _ rfl rfl
  have f3 : (s 0 45) = (σ 0 45) := g1 _ _ rfl rfl
  have hw : ((upC s 0 17 (σ 0 17)) 0 17).toInt = (σ 0 17).toInt := by rw [rdA_eq rfl]
  refine ⟨⟨k, kp_sub k rfl rfl, ⟨tk_kp (fs := [(0, 17)]) (cs := []) (kp_f kp_rf rfl) rfl rfl ⟨rfl, rfl, rfl, rfl, rfl⟩ rfl p1, p2, ⟨m1, m2, m3, m4, ?_, m6, m7⟩, pa, p5⟩, g3, g5, ⟨by rw [hw]; exact Int.le_refl _, g7, g8, ?_, ?_, g11.1⟩, g9, g10, g11.2.2.2, ⟨fun e _ => ⟨g1 9 e rfl rfl, g1 10 e rfl rfl, g1 15 e rfl rfl, g1 12 e rfl rfl, g4.1 e⟩, fun n _ => g4.2 n, fun e _ => ⟨g1 13 e rfl rfl, g1 17 e rfl rfl⟩⟩, fun b _ => ⟨g1 26 b rfl rfl, g1 27 b rfl rfl, g1 28 b rfl rfl, g1 29 b rfl rfl, g1 30 b rfl rfl, g1 54 b rfl rfl⟩⟩, g11.2.1⟩
  · rw [hw]
    exact h0
  · show (σ 0 36).toInt ≤ (s 0 36).toInt
    rw [f2]; exact Int.le_refl _
  · show (σ 0 45).toInt ≤ (s 0 45).toInt
    rw [f3]; exact Int.le_refl _
theorem rg_in {c b : Int32} (h : PA σ τ) (p : INx σ s c b) : RG σ vs s τ vs ∧ (0 ≤ c.toInt → c.toInt < (σ 0 37).toInt → b.toInt ≤ 100 → ITp σ s) ∧ pos s = pos σ ∧ (s 0 17) = (σ 0 17) := by
  obtain ⟨p1, p2, p3, p4, p5⟩ := p
  have h9 := h
  obtain ⟨h1, h2, ⟨n1, n2, n3, n4, n5, n6, n7⟩, ⟨-, -, a3, -⟩, h5⟩ := h9
  have k : KE σ s := kp_sub p1 rfl rfl
  have e1 : (s 0 10) = (σ 0 10) := p1 _ _ rfl rfl
  have e2 : (s 0 8) = (σ 0 8) := p1 _ _ rfl rfl
  have e3 : (s 0 37) = (σ 0 37) := p1 _ _ rfl rfl
  have e4 : (s 0 17) = (σ 0 17) := p1 _ _ rfl rfl
  have e5 : (s 21) = (σ 21) := funext (fun j => p1 21 j rfl rfl)
  have e6 : (s 3) = (σ 3) := funext (fun j => p1 3 j rfl rfl)
  have e7 : (s 14) = (σ 14) := funext (fun j => p1 14 j rfl rfl)
  have e8 : (s 0 12) = (σ 0 12) := p1 _ _ rfl rfl
  have f2 : (s 0 36) = (σ 0 36) := p1 _ _ rfl rfl
  have f3 : (s 0 45) = (σ 0 45) := p1 _ _ rfl rfl
  have eP : pos s = pos σ := by unfold pos; rw [e1, e6]
  refine ⟨⟨k, kp_sub k rfl rfl, pa_ke h k (by unfold AtOK; rw [e1, e2]; exact h2) (by rw [e3]; exact n4) (by rw [e4]; exact n5) (by omega) (by rw [e5]; exact a3) h5, fun j _ => p1 8 j rfl rfl, of_eq e8, ⟨by rw [e4]; exact Int.le_refl _, p2, by rw [eP]; exact Int.le_refl _, by rw [f2]; exact Int.le_refl _, by rw [f3]; exact Int.le_refl _, by rw [e3]; exact Int.le_refl _⟩, fun _ h => h, Nat.le_refl _, p5, ⟨fun e _ => ⟨p1 9 e rfl rfl, p1 10 e rfl rfl, p1 15 e rfl rfl, p1 12 e rfl rfl, fun q => by rw [e7]; exact q⟩, fun n _ q => by rw [e5]; exact q, fun e _ => ⟨p1 13 e rfl rfl, p1 17 e rfl rfl⟩⟩, fun b _ => ⟨p1 26 b rfl rfl, p1 27 b rfl rfl, p1 28 b rfl rfl, p1 29 b rfl rfl, p1 30 b rfl rfl, p1 54 b rfl rfl⟩⟩, fun c1 c2 c3 f hI => ?_, eP, e4⟩
  rw [e3]
  exact p4 f _ hI c1 c2 c3
theorem itp_tr (h : ITp σ s) (g : ITp s s') : ITp σ s' := fun f q => g f (h f q)
theorem sp_isInitial {u : Nat} {ty : Int32} {Q : Int32 → Prop} (hu : u ∈ vs) (h1 : Q 1) (h0 : Q 0) : wp_isInitial u ty σ τ vs Q := by
  unfold wp_isInitial
  exact ⟨fun _ => ⟨hu, fun _ => h1, fun _ => ⟨fun _ => h0, fun _ => ⟨fun _ => h0, fun _ => h1⟩⟩⟩, fun _ => ⟨hu, fun _ => h0, fun _ => sp_isInt hu (fun _ => ⟨fun _ => h0, fun _ => h1⟩) (fun _ => ⟨fun _ => h0, fun _ => h1⟩)⟩⟩
theorem sp_one1G {ty c n f : Int32} {Q : Int32 → St → St → List Nat → Prop} {T : St → St → List Nat → Prop} (h : PA σ τ) (hB : NB σ vs) (hf : f.toInt = 0) (k : ∀ (v : Int32) s t z, (v = 0 ∨ v = 1) → RG σ vs s t z → NCt σ vs s z 2 → pos σ < pos s → (0 ≤ c.toInt → c.toInt < (σ 0 37).toInt → ITp σ s) → Q v s t z) (kT : ∀ s t z, RTx σ vs s t z → T s t z) : wp_one_1 ty c n f σ τ vs Q T := by
  have h0 := h.2.2.1.2.2.2.2.1
  unfold wp_one_1
  refine sx_expr 1 σ τ vs _ T (by decide) h hB (fun u s t z r => ?_) kT
  refine sp_read r.1.2.1 (re_nb hB r) r.2.2.1.1 (fun s2 hrd => ⟨fun c => absurd hf c, fun _ => ?_⟩)
  obtain ⟨g1, g2, g3, g4, g5, g6, g7, g8⟩ := re_read h r hrd (by omega)
  obtain ⟨w1, w2⟩ := rg_w h0 g1
  have hu := r.2.2.1.1
  have mw := g1.2.2.2.2.2.1
  have P1 : pos (upC s2 0 17 (σ 0 17)) = pos s2 := rfl
  have I1 : ((upC s2 0 17 (σ 0 17)) 0 39) = (s2 0 39) := rfl
  have D1 : ((upC s2 0 17 (σ 0 17)) 0 37) = (s2 0 37) := rfl
  have W1 : ((upC s2 0 17 (σ 0 17)) 0 17) = (σ 0 17) := rdA_eq rfl
  have hd := g1.2.2.2.2.2.2.2.2.2.2.1
  have hc2 := nb_cap (nb_of hB g1 (by omega) (by omega) g5) g1.2.1
  generalize (upC s2 0 17 (σ 0 17)) = s3 at *
  have hP3 := w1.2.2.1
  have hV := hP3.2.2.2.2 u
  have nc3 : NCt σ vs s3 z 14 := ⟨by rw [W1, P1]; omega, by rw [I1, P1]; omega, by rw [P1]; exact g5⟩
  have fin : ∀ s4, RG σ vs s4 (upC t u 1 (0 : Int32)) z → NCt σ vs s4 z 2 → pos σ < pos s4 → (0 ≤ c.toInt → c.toInt < (σ 0 37).toInt → ITp σ s4) → wp_isInitial u ty s4 (upC t u 1 (0 : Int32)) z (fun v84 => Q v84 s4 (upC t u 1 (0 : Int32)) z) := fun s4 a1 a2 a3 a4 => sp_isInitial hu (k 1 _ _ _ (Or.inr rfl) a1 a2 a3 a4) (k 0 _ _ _ (Or.inl rfl) a1 a2 a3 a4)
  refine sp_isInitial hu ?_ ?_
  · refine ⟨fun s4 t4 z4 => upC t u 1 (0 : Int32) = t4 ∧ z = z4 ∧ RG σ vs s4 (upC t u 1 (0 : Int32)) z ∧ NCt σ vs s4 z 2 ∧ pos σ < pos s4 ∧ (0 ≤ c.toInt → c.toInt < (σ 0 37).toInt → ITp σ s4), ?_, no1, fun _ => ⟨hu, fun y2 => True, fun y2 _ => ⟨fun y3 => y3.toInt ≤ 100, fun y3 hy3 => sp_init hP3.2.2.1.2.2.2.2.2.1 (by rw [I1]; omega) (fun s4 hs4 => ?_), fun _ => by decide, fun _ => hV.2.2.2.1⟩, fun _ => trivial, fun _ => trivial⟩⟩
    · rintro s4 _ _ ⟨rfl, rfl, a1, a2, a3, a4⟩
      exact fin s4 a1 a2 a3 a4
    · obtain ⟨b1, b2, b3, b4⟩ := rg_in (vs := z) hP3 hs4
      have m4 := hs4.2.2.1
      obtain ⟨n1, n2, n3⟩ := nc3
      refine ⟨rfl, rfl, rg_tr w1 b1, ⟨by rw [b3, b4]; omega, by rw [b3]; rw [I1] at m4; rw [P1]; omega, by rw [b3]; exact n3⟩, by rw [b3, P1]; omega, fun c1 c2 => itp_tr w2 (b2 c1 (by rw [D1]; exact Int.lt_of_lt_of_le c2 hd) hy3)⟩
  · refine ⟨fun s4 t4 z4 => upC t u 1 (0 : Int32) = t4 ∧ z = z4 ∧ s4 = s3, ?_, fun _ => ⟨rfl, rfl, rfl⟩, no0⟩
    rintro s4 _ _ ⟨rfl, rfl, rfl⟩
    exact fin s4 w1 (nct_le nc3 (by omega)) (by rw [P1]; omega) (fun _ _ => w2)
theorem sp_bracesG {cells ty first n f : Int32} {Q : Int32 → St → St → List Nat → Prop} {T : St → St → List Nat → Prop} (h : PA σ τ) (hB : NB σ vs) (hf : f.toInt = 0) (hn : 0 ≤ n.toInt → n.toInt < 10000) (h1 : first.toInt = 0) (k : ∀ (v : Int32) s t z, (v = 0 ∨ v = 1) → RG σ vs s t z → NCt σ vs s z 0 → (v.toInt ≠ 0 → 0 ≤ n.toInt → ((σ 17) n.toNatClampNeg).toInt + cells.toInt ≤ (σ 0 37).toInt → ITp σ s) → Q v s t z) (kT : ∀ s t z, UT σ vs s t z → T s t z) : wp_braces cells ty first n f σ τ vs Q T := by
  have h0 := h.2.2.1.2.2.2.2.1
  unfold wp_braces
  refine sp_expect h (by decide) (fun hk rn pn wn icn => ?_) (fun s hs => kT _ _ _ (ut_rt (rt_rtx hs)))
  have dn : ((nxt σ) 0 37) = (σ 0 37) := rfl
  have wh : ∀ j, ((nxt σ) 17) j = (σ 17) j := fun _ => rfl
  generalize nxt σ = s0 at *
  have hP0 := rn.2.1
  have hB0 : NB s0 vs := nb_of hB rn (by omega) (by omega) (by omega)
  have rg0 : RG σ vs s0 τ vs := rg_rl rn
  have hwr := hP0.2.2.2.1.2.2.2.2.2.2.2.2.2.1
  refine ⟨fun m x y s t z => m = ((σ 0 9).toInt - pos s).toNat ∧ RG s0 vs s t z ∧ NCt s0 vs s z 0 ∧ (0 ≤ y.toInt ∧ y.toInt ≤ pos s - pos s0) ∧ (0 ≤ n.toInt → ((s0 17) n.toNatClampNeg).toInt + cells.toInt ≤ (s0 0 37).toInt → y.toInt ≤ cells.toInt → ITp s0 s), ⟨_, rfl, rg_rl (rl_rf hP0), nct_rf, by omega, fun _ _ _ => fun _ q => q⟩, ?_⟩
  rintro m x y s t z hx ⟨q1, q2, q3, q4, q5⟩
  have hPs := q2.2.2.1
  have hBs := rg_nb hB0 q2 q3 (by omega)
  have hps := pos_in hPs.1 hPs.2.1
  have hp0 := pos_in hP0.1 hP0.2.1
  have ey := ad1 (x := y) (by omega)
  have esz : (s 0 9).toInt = (σ 0 9).toInt := by rw [ur_sz q2.2, rl_sz rn]
  have ewh : ∀ j, (s 17) j = (s0 17) j := fun j => q2.1 17 j rfl rfl
  have cut : ∀ {s5 t5 z5}, RG s0 vs s5 t5 z5 → (z5.length : Int) ≤ vs.length + 2 * (pos s5 - pos s0) → ∀ s' t' z', UT s5 z5 s' t' z' → T s' t' z' := fun r5 hz s' t' z' hs => kT _ _ _ (ut_ur rg0.2 (by omega) (ut_ur r5.2 hz hs))
  refine ⟨fun w s9 t9 z9 => RG s0 vs s9 t9 z9 ∧ NCt s0 vs s9 z9 0 ∧ pos s < pos s9 ∧ (0 ≤ n.toInt → ((s0 17) n.toNatClampNeg).toInt + cells.toInt ≤ (s0 0 37).toInt → (y + 1).toInt ≤ cells.toInt → ITp s0 s9), ?_, fun _ => ?_, fun c => absurd hf c⟩
  · rintro w s9 t9 z9 hw ⟨a1, a2, a3, a4⟩
    have hP9 := a1.2.2.1
    unfold wp_accept
    refine sp_is hP9 (fun hk9 => ⟨fun _ => ⟨fun _ => ?_, no1⟩, no1⟩) (fun _ => ⟨no0, fun _ => ⟨no0, fun _ => ?_⟩⟩)
    · have hk9' : kd s9 = 58 := hk9
      obtain ⟨ro, po, wo, ico⟩ := rl_nxt (vs := z9) hP9 (by omega)
      have hp := pos_in ro.2.1.1 ro.2.1.2.1
      have e9 : ((nxt s9) 0 9).toInt = (σ 0 9).toInt := by rw [rl_sz ro, ur_sz a1.2, rl_sz rn]
      obtain ⟨b1, b2, b3⟩ := a2
      refine ⟨((σ 0 9).toInt - pos (nxt s9)).toNat, by omega, rfl, rg_tr a1 (rg_rl ro), ?_, ?_, fun c1 c2 c3 => a4 c1 c2 c3⟩
      · show NCt s0 vs (nxt s9) z9 0
        exact ⟨by omega, by omega, by omega⟩
      · show _ ∧ _ ≤ pos (nxt s9) - pos s0
        omega
    · refine sp_expect hP9 (by decide) (fun hk9 ro po wo ico => ?_) (fun s' hs => cut a1 a2.2.2 _ _ _ (ut_rt (rt_rtx hs)))
      obtain ⟨b1, b2, b3⟩ := a2
      have rF := rg_tr rg0 (rg_tr a1 (rg_rl ro))
      have fin : ∀ v : Int32, (v = 0 ∨ v = 1) → (v.toInt ≠ 0 → (y + 1).toInt ≤ cells.toInt) → Q v (nxt s9) t9 z9 := fun v hv c => by
        refine k v _ _ _ hv rF ⟨by omega, by omega, by omega⟩ (fun c1 c2 c3 f hI => ?_)
        have i0 : ITd s0 f (s0 0 37).toInt := rn.2.2.2.2.2.2.2.2.2.2.2.1 f hI
        exact a4 c2 (by rw [wh, dn]; exact c3) (c c1) f i0
      exact ⟨fun _ => fin 0 (Or.inl rfl) no0, fun _ => ⟨fun _ => fin 0 (Or.inl rfl) no0, fun c => fin 1 (Or.inr rfl) (fun _ => c)⟩⟩
  · refine ⟨fun cc => 0 ≤ n.toInt → cc = (s 17) n.toNatClampNeg + y, fun cc hcc => ?_, fun c => ⟨⟨c, hn c⟩, fun _ => rfl⟩, fun c q => by omega⟩
    refine sp_one1G hPs hBs (by decide) (fun v s2 t2 z2 hv r2 nc2 p2 it2 => ?_) (fun s' t' z' hs => cut q2 q3.2.2 _ _ _ (ut_rt (rt_rtx hs)))
    have rA := rg_tr q2 r2
    have nA := nct_tr q3 nc2
    have itA : 0 ≤ n.toInt → ((s0 17) n.toNatClampNeg).toInt + cells.toInt ≤ (s0 0 37).toInt → (y + 1).toInt ≤ cells.toInt → ITp s0 s2 := fun c1 c2 c3 => by
      have w1 := (hwr n.toNatClampNeg)
      have ec : cc.toInt = ((s0 17) n.toNatClampNeg).toInt + y.toInt := by
        rw [hcc c1, ewh, ad (by omega) (by omega)]
      have dm := q2.2.2.2.2.2.1.2.2.2.2.2
      exact itp_tr (q5 c1 c2 (by omega)) (it2 (by omega) (by omega))
    refine ⟨fun _ => True, fun w hw _ => ⟨rA, nct_le nA (by omega), p2, itA⟩, ⟨True, fun _ => trivial, fun _ => trivial, fun _ => ⟨fun _ => trivial, fun _ => trivial⟩⟩⟩
def GRel (σ : St) (vs : List Nat) (n : Int32) (cells : Int) (v : Int32) (s : St) (t : St) (z : List Nat) : Prop := RG σ vs s t z ∧ NCt σ vs s z 0 ∧ (v.toInt ≠ 0 → 0 ≤ n.toInt → ((σ 17) n.toNatClampNeg).toInt + cells ≤ (σ 0 37).toInt → ITp σ s)
theorem sp_oneInitialG {ty n f : Int32} {Q : Int32 → St → St → List Nat → Prop} {T : St → St → List Nat → Prop} (h : PA σ τ) (hB : NB σ vs) (hf : f.toInt = 0) (hn : 0 ≤ n.toInt → n.toInt < 10000) (k : ∀ (v : Int32) s t z, (v = 0 ∨ v = 1) → GRel σ vs n 1 v s t z → Q v s t z) (kT : ∀ s t z, UT σ vs s t z → T s t z) : wp_oneInitial ty n f σ τ vs Q T := by
  have hwr := h.2.2.2.1.2.2.2.2.2.2.2.2.2.1
  unfold wp_oneInitial
  refine sp_is h (fun hk => ⟨no1, fun _ => ?_⟩) (fun hk => ⟨fun _ => ?_, no0⟩)
  · exact sp_bracesG h hB hf hn (by decide) (fun v s t z hv r nc it => k 0 s t z (Or.inl rfl) ⟨r, nc, no0⟩) kT
  · refine ⟨fun c => 0 ≤ n.toInt → c = (σ 17) n.toNatClampNeg, fun c hc => sp_one1G h hB hf (fun v s t z hv r nc p it => k v s t z hv ⟨r, nct_le nc (by omega), fun c1 c2 c3 => ?_⟩) (fun s' t' z' hs => kT _ _ _ (ut_rt (rt_rtx hs))), ⟨n.toInt < 0, fun c q => by omega, fun c => absurd hf c, fun _ => ⟨fun c => ⟨⟨c, hn c⟩, fun _ => rfl⟩, fun c => c⟩⟩⟩
    have := hwr n.toNatClampNeg
    rw [hc c2] at it
    exact it this.1 (by omega)
theorem rg_ix {lo hi : Int} (h : PA σ τ) (p : IXx σ s lo hi) : RG σ vs s τ vs ∧ (0 ≤ lo → hi ≤ (σ 0 37).toInt → ITp σ s) ∧ pos s = pos σ ∧ (s 0 17) = (σ 0 17) := by
  obtain ⟨p1, p2, p4, p5⟩ := p
  have h9 := h
  obtain ⟨h1, h2, ⟨n1, n2, n3, n4, n5, n6, n7⟩, ⟨-, -, a3, -⟩, h5⟩ := h9
  have k : KE σ s := kp_sub p1 rfl rfl
  have e1 : (s 0 10) = (σ 0 10) := p1 _ _ rfl rfl
  have e2 : (s 0 8) = (σ 0 8) := p1 _ _ rfl rfl
  have e3 : (s 0 37) = (σ 0 37) := p1 _ _ rfl rfl
  have e4 : (s 0 17) = (σ 0 17) := p1 _ _ rfl rfl
  have e5 : (s 21) = (σ 21) := funext (fun j => p1 21 j rfl rfl)
  have e6 : (s 3) = (σ 3) := funext (fun j => p1 3 j rfl rfl)
  have e7 : (s 14) = (σ 14) := funext (fun j => p1 14 j rfl rfl)
  have e8 : (s 0 12) = (σ 0 12) := p1 _ _ rfl rfl
  have f2 : (s 0 36) = (σ 0 36) := p1 _ _ rfl rfl
  have f3 : (s 0 45) = (σ 0 45) := p1 _ _ rfl rfl
  have eP : pos s = pos σ := by unfold pos; rw [e1, e6]
  refine ⟨⟨k, kp_sub k rfl rfl, pa_ke h k (by unfold AtOK; rw [e1, e2]; exact h2) (by rw [e3]; exact n4) (by rw [e4]; exact n5) (by omega) (by rw [e5]; exact a3) h5, fun j _ => p1 8 j rfl rfl, of_eq e8, ⟨by rw [e4]; exact Int.le_refl _, p2, by rw [eP]; exact Int.le_refl _, by rw [f2]; exact Int.le_refl _, by rw [f3]; exact Int.le_refl _, by rw [e3]; exact Int.le_refl _⟩, fun _ h => h, Nat.le_refl _, p5, ⟨fun e _ => ⟨p1 9 e rfl rfl, p1 10 e rfl rfl, p1 15 e rfl rfl, p1 12 e rfl rfl, fun q => by rw [e7]; exact q⟩, fun n _ q => by rw [e5]; exact q, fun e _ => ⟨p1 13 e rfl rfl, p1 17 e rfl rfl⟩⟩, fun b _ => ⟨p1 26 b rfl rfl, p1 27 b rfl rfl, p1 28 b rfl rfl, p1 29 b rfl rfl, p1 30 b rfl rfl, p1 54 b rfl rfl⟩⟩, fun c1 c2 f hI => ?_, eP, e4⟩
  rw [e3]
  exact p4 f _ hI c1 c2
theorem sp_rowInitialG {ty cells n f : Int32} {Q : Int32 → St → St → List Nat → Prop} {T : St → St → List Nat → Prop} (h : PA σ τ) (hB : NB σ vs) (hf : f.toInt = 0) (hn : 0 ≤ n.toInt → n.toInt < 10000) (k : ∀ (v : Int32) s t z, (v = 0 ∨ v = 1) → GRel σ vs n cells.toInt v s t z → Q v s t z) (kT : ∀ s t z, UT σ vs s t z → T s t z) : wp_rowInitial ty cells n f σ τ vs Q T := by
  have h0 := h.2.2.1.2.2.2.2.1
  have htk := at_tok h.1 h.2.1
  have hcap := nb_cap hB h
  have hwr := h.2.2.2.1.2.2.2.2.2.2.2.2.2.1
  unfold wp_rowInitial
  refine ⟨htk, ⟨True, fun _ => ?_, fun _ => trivial, fun c4 => ?_⟩⟩
  · refine sp_is h (fun hk => ⟨no1, fun _ => ?_⟩) (fun hk => ⟨fun _ => ?_, no0⟩)
    · exact sp_bracesG h hB hf hn (by decide) (fun v s t z hv r nc it => k v s t z hv ⟨r, nc, it⟩) kT
    · refine sx_expr 1 σ τ vs _ T (by decide) h hB (fun u s t z r => ?_) (fun s' t' z' hs => kT _ _ _ (ut_rt (rt_rtx hs)))
      refine sp_read r.1.2.1 (re_nb hB r) r.2.2.1.1 (fun s2 hrd => ?_)
      obtain ⟨g1, g2, g3, g4, g5, g6, g7, g8⟩ := re_read h r hrd (by omega)
      exact k 0 _ _ _ (Or.inl rfl) ⟨rg_rl g1, ⟨by omega, by omega, by omega⟩, no0⟩
  · have hk : kd σ = 4 := c4
    obtain ⟨rn, pn, wn, icn⟩ := rl_nxt (vs := vs) h (by omega)
    have htn := at_tok rn.2.1.1 rn.2.1.2.1
    rw [nxt_at] at htn
    have hv := STR_ok h.1 h.2.1 c4
    have ps := nxt_str h.1 h.2.1 hk
    have hPn := rn.2.1
    refine ⟨htn, ⟨True, fun _ => ?_, fun _ => trivial, fun _ => ⟨htn, fun _ => trivial, fun _ => trivial⟩⟩⟩
    have ev1 : ((nxt σ) 6) (σ 0 10).toNatClampNeg = (σ 6) (σ 0 10).toNatClampNeg := rfl
    have fin : ∀ s, RG (nxt σ) vs s τ vs → NCt (nxt σ) vs s vs (-(3 * ((σ 6) (σ 0 10).toNatClampNeg).toInt)) ∨ True → True := fun _ _ _ => trivial
    have done : ∀ s, RG (nxt σ) vs s τ vs → pos s = pos (nxt σ) → (s 0 17) = ((nxt σ) 0 17) → (s 0 39).toInt ≤ ((nxt σ) 0 39).toInt + 3 * ((σ 6) (σ 0 10).toNatClampNeg).toInt → (0 ≤ n.toInt → ((σ 6) (σ 0 10).toNatClampNeg).toInt ≤ cells.toInt → ((σ 17) n.toNatClampNeg).toInt + cells.toInt ≤ (σ 0 37).toInt → ITp (nxt σ) s) → (ty.toInt ≠ 0 → Q 0 s τ vs) ∧ (ty.toInt = 0 → ((0 ≤ (σ 0 10).toInt ∧ (σ 0 10).toInt < 16002) ∧ (cells.toInt < (s 6 (σ 0 10).toNatClampNeg).toInt → Q 0 s τ vs) ∧ ((s 6 (σ 0 10).toNatClampNeg).toInt ≤ cells.toInt → Q 1 s τ vs))) := fun s r e1 e2 e3 e4 => by
      have rF := rg_tr (rg_rl rn) r
      have ev : (s 6) (σ 0 10).toNatClampNeg = (σ 6) (σ 0 10).toNatClampNeg := r.1 6 _ rfl rfl
      have nc : NCt σ vs s vs 0 := ⟨by rw [e1, e2]; omega, by rw [e1]; omega, by rw [e1]; omega⟩
      refine ⟨fun _ => k 0 _ _ _ (Or.inl rfl) ⟨rF, nc, no0⟩, fun _ => ⟨htk, fun _ => k 0 _ _ _ (Or.inl rfl) ⟨rF, nc, no0⟩, fun c => k 1 _ _ _ (Or.inr rfl) ⟨rF, nc, fun _ c2 c3 => ?_⟩⟩⟩
      rw [ev] at c
      exact itp_tr (fun f q => rn.2.2.2.2.2.2.2.2.2.2.2.1 f q) (e4 c2 c c3)
    show wp_fill _ _ _ _ (nxt σ) τ vs _
    unfold wp_fill
    refine ⟨fun c => ⟨fun q => absurd hf q, fun _ => ⟨htk, fun c2 => ?_, fun c2 => ⟨⟨c, hn c⟩, sp_codes hPn.1 htk ⟨hv.1, hv.2.1⟩ hPn.2.2.1.2.2.2.2.2.1 (by omega) (hwr _) (fun s hx hi => ?_)⟩⟩⟩, fun c => ?_⟩
    · exact done (nxt σ) (rg_rl (rl_rf hPn)) rfl rfl (by omega) (fun _ c3 => by rw [ev1] at c2; omega)
    · obtain ⟨b1, b2, b3, b4⟩ := rg_ix (vs := vs) hPn hx
      rw [ev1] at hi b2
      exact done s b1 b3 b4 hi (fun c1 c3 c4 => b2 (hwr _).1 (by show ((σ 17) n.toNatClampNeg).toInt + _ ≤ (σ 0 37).toInt; omega))
    · exact done (nxt σ) (rg_rl (rl_rf hPn)) rfl rfl (by omega) (fun c1 => by omega)
end GIN
