/-! texts -/
section TEXT
variable {σ s τ t : St} {vs z : List Nat}
/-- rows of cells from lo to hi -/
def IXx (σ s : St) (lo hi : Int) : Prop := Kp [(0, 39)] [25] σ s ∧ (σ 0 39).toInt ≤ (s 0 39).toInt ∧ (∀ f d : Int, ITd σ f d → 0 ≤ lo → hi ≤ d → ITd s f d) ∧ ∀ j : Nat, (j : Int) < (σ 0 39).toInt → (s 25) j = (σ 25) j
theorem ixx_rf {lo hi : Int} : IXx σ σ lo hi := ⟨kp_rf, Int.le_refl _, fun f d hI _ _ => hI, fun _ _ => rfl⟩
theorem ixx_add {s' : St} {lo hi : Int} {c b : Int32} (h : IXx σ s lo hi) (hb : b.toInt ≤ 100) (hc : c.toInt = hi) (hh : lo ≤ hi) (p : INx s s' c b) : IXx σ s' lo (hi + 1) := by
  obtain ⟨h1, h2, h3, h4⟩ := h
  obtain ⟨p1, p2, p3, p4, p5⟩ := p
  exact ⟨kp_tr h1 p1, by omega, fun f d hI g0 g1 => p4 f d (h3 f d hI g0 (by omega)) (by omega) (by omega) hb, fun j hj => (p5 j (by omega)).trans (h4 j hj)⟩
theorem STR_ok (h : TK σ) {tk : Int32} (h1 : 0 ≤ tk.toInt ∧ tk.toInt < (σ 0 8).toInt) (h2 : ((σ 2) tk.toNatClampNeg).toInt = 4) : 0 ≤ ((σ 6) tk.toNatClampNeg).toInt ∧ ((σ 6) tk.toNatClampNeg).toInt ≤ 200 ∧ ((σ 3) tk.toNatClampNeg).toInt + ((σ 6) tk.toNatClampNeg).toInt + 2 ≤ ((σ 4) tk.toNatClampNeg).toInt := by
  have en := nt h1.1
  obtain ⟨-, -, -, -, -, -, -, h8⟩ := h
  exact (h8 tk.toNatClampNeg (by omega) (by omega)).2.2.2 h2
theorem sp_codes {tk first : Int32} {Q : St → St → List Nat → Prop} (hT : TK σ) (h1 : 0 ≤ tk.toInt ∧ tk.toInt < 16002) (h2 : 0 ≤ ((σ 6) tk.toNatClampNeg).toInt ∧ ((σ 6) tk.toNatClampNeg).toInt ≤ 200) (h0 : 0 ≤ (σ 0 39).toInt) (hi : (σ 0 39).toInt ≤ 180000) (hf : 0 ≤ first.toInt ∧ first.toInt ≤ 16000) (k : ∀ s, IXx σ s first.toInt (first.toInt + ((σ 6) tk.toNatClampNeg).toInt) → (s 0 39).toInt ≤ (σ 0 39).toInt + 3 * ((σ 6) tk.toNatClampNeg).toInt → Q s τ vs) : wp_codes tk first σ τ vs Q := by
  obtain ⟨-, -, hs0, hs, hfr, -⟩ := hT
  have f1 := hfr tk.toNatClampNeg
  have e1 := ad1 (x := (σ 3) tk.toNatClampNeg) (by omega)
  have e0 : (0 : Int32).toInt = 0 := by decide
  unfold wp_codes
  refine ⟨h1, fun n x i s t z => (n : Int) = ((σ 6) tk.toNatClampNeg).toInt - i.toInt ∧ 0 ≤ i.toInt ∧ i.toInt ≤ ((σ 6) tk.toNatClampNeg).toInt ∧ 0 ≤ x.toInt ∧ x.toInt ≤ 16001 + 2 * i.toInt ∧ τ = t ∧ vs = z ∧ IXx σ s first.toInt (first.toInt + i.toInt) ∧ (s 0 39).toInt ≤ (σ 0 39).toInt + 3 * i.toInt, ⟨((σ 6) tk.toNatClampNeg).toInt.toNat, ?_⟩, ?_⟩
  · refine ⟨by omega, by omega, by omega, by omega, by omega, rfl, rfl, ?_, by omega⟩
    rw [e0, Int.add_zero]
    exact ixx_rf
  · rintro n x i s t z ⟨q1, q2, q3, q4, q5, rfl, rfl, hx, hic⟩
    have v1 : (s 6) tk.toNatClampNeg = (σ 6) tk.toNatClampNeg := hx.1 _ _ rfl rfl
    have v2 : (s 0 9) = (σ 0 9) := hx.1 _ _ rfl rfl
    have hi0 : 0 ≤ (s 0 39).toInt := by have := hx.2.1; omega
    refine ⟨h1, fun c => ?_, fun c => ?_⟩
    · rw [v1] at c
      have e : i.toInt = ((σ 6) tk.toNatClampNeg).toInt := by omega
      rw [e] at hx hic
      exact k s hx hic
    · rw [v1] at c
      have ec : (first + i).toInt = first.toInt + i.toInt := ad (by omega) (by omega)
      refine sp_code (by rw [v2]; exact hs) q4 (by omega) (fun r hr => sp_init hi0 (by omega) (fun s2 hs2 => sp_look q4 ?_ ?_))
      · have : (s2 0 9) = (s 0 9) := hs2.1 _ _ rfl rfl
        rw [this, v2]; exact hs
      have e2 := ad1 (x := i) (by omega)
      have hx2 := ixx_add hx (by decide) ec (by omega) hs2
      have hic2 := hs2.2.2.1
      have e3 : first.toInt + i.toInt + 1 = first.toInt + (i + 1).toInt := by omega
      rw [e3] at hx2
      refine ⟨fun y => 1 ≤ y.toInt ∧ y.toInt ≤ 2, fun y ⟨y1, y2⟩ => ⟨n - 1, by omega, ?_⟩, fun _ => by decide, fun _ => by decide⟩
      have e4 : (x + y).toInt = x.toInt + y.toInt := ad (by omega) (by omega)
      exact ⟨by omega, by omega, by omega, by omega, by omega, rfl, rfl, hx2, by omega⟩
theorem rl_mk (h : PA σ τ) (k : KE σ s) (ea : (s 0 10) = (σ 0 10)) (hw : (σ 0 17).toInt ≤ (s 0 17).toInt) (hr : RW σ s) (hi : (σ 0 39).toInt ≤ (s 0 39).toInt) (hd : 0 ≤ (s 0 37).toInt ∧ (s 0 37).toInt ≤ 16000) (hf : AllIn (-1) 16001 (s 21)) (m : MOn σ s) (o : OF σ s) (ie : IE σ s) (hv : VOK t) (hz : ∀ u ∈ vs, u ∈ z) (hl : vs.length ≤ z.length) : RL σ vs s t z := by
  have h9 := h
  obtain ⟨h1, h2, ⟨n1, n2, n3, n4, n5, n6, n7⟩, -⟩ := h9
  have e2 : (s 0 8) = (σ 0 8) := k _ _ rfl rfl
  have e6 : (s 3) = (σ 3) := funext (fun j => k 3 j rfl rfl)
  refine ⟨k, pa_ke h k (by unfold AtOK; rw [ea, e2]; exact h2) hd (by omega) (by omega) hf hv, hr, m, o, hw, hi, ?_, hz, hl, ie⟩
  unfold pos
  rw [ea, e6]
  exact Int.le_refl _
theorem mon_of (h1 : (s 14) = (σ 14)) (h2 : (s 21) = (σ 21)) : MOn σ s := ⟨fun e q => by rw [h1]; exact q, fun n q => by rw [h2]; exact q⟩
/-- a Value's fields are in their ranges -/
def FOK (t : St) (u : Nat) : Prop := (0 ≤ (t u 1).toInt ∧ (t u 1).toInt ≤ 3) ∧ (0 ≤ (t u 2).toInt ∧ (t u 2).toInt ≤ 99) ∧ (0 ≤ (t u 4).toInt ∧ (t u 4).toInt ≤ 16001) ∧ (t u 8).toInt ≤ 100 ∧ ((t u 1).toInt ≠ 0 → (t u 0).toInt ≠ -1) ∧ ((t u 5).toInt ≠ 0 → (t u 0).toInt = 0)
def VNw (τ : St) (u : Nat) (t : St) : Prop := (∀ w, w ≠ u → t w = τ w) ∧ FOK t u
theorem vok_vnw {u : Nat} (h : VOK τ) (p : VNw τ u t) : VOK t := fun w => by
  by_cases e : w = u
  · subst e; exact p.2
  · rw [p.1 w e]; exact h w
theorem vfr_vnw {u : Nat} (hq : u ∉ vs) (p : VNw τ u t) : VFr τ vs t := fun w hw => p.1 w (fun e => hq (e ▸ hw))
theorem vnw_nv {u : Nat} {ty hgt : Int32} (p : NV τ u ty hgt t) : VNw τ u t := by
  refine ⟨p.1, ?_⟩
  obtain ⟨e1, e2, e3, e4, e5, e6, e7, e8⟩ := nv_at p
  unfold FOK
  rw [e2, e3, e5, e6, e8]
  exact ⟨by decide, by decide, by decide, by decide, fun c => absurd rfl c, fun c => absurd rfl c⟩
theorem vnw_up {u k : Nat} {v : Int32} (p : VNw τ u t) (hf : FOK (upC t u k v) u) : VNw τ u (upC t u k v) := ⟨fun w hw => by
  have e2 : upC t u k v w = t w := by show upF t u _ w = _; rw [upF_ne hw]
  rw [e2]; exact p.1 w hw, hf⟩
theorem fok_addr {u : Nat} {b v : Int32} (h : FOK t u) (hb : b.toInt ≤ 100) : FOK (upC (upC (upC t u 6 (2 : Int32)) u 8 b) u 7 v) u := by
  unfold FOK at *
  simp only [rdA, Nat.reduceEqDiff, if_true, if_false]
  exact ⟨h.1, h.2.1, h.2.2.1, hb, h.2.2.2.2⟩
theorem fok_const {u : Nat} {v : Int32} (h : FOK t u) : FOK (upC (upC t u 6 (1 : Int32)) u 7 v) u := by
  unfold FOK at *
  simp only [rdA, Nat.reduceEqDiff, if_true, if_false]
  exact h
theorem up3_ne {u : Nat} {a b c : Nat} {x y v : Int32} {w : Nat} (e : w ≠ u) : upC (upC (upC τ u a x) u b y) u c v w = τ w := by
  show upF (upF (upF τ u _) u _) u _ w = _
  rw [upF_ne e, upF_ne e, upF_ne e]
theorem up2_ne {u : Nat} {a b : Nat} {x y : Int32} {w : Nat} (e : w ≠ u) : upC (upC τ u a x) u b y w = τ w := by
  show upF (upF τ u _) u _ w = _
  rw [upF_ne e, upF_ne e]
theorem vnw_addr {u : Nat} {b v : Int32} (p : VNw τ u t) (hb : b.toInt ≤ 100) : VNw τ u (upC (upC (upC t u 6 (2 : Int32)) u 8 b) u 7 v) := ⟨fun w hw => by rw [up3_ne hw]; exact p.1 w hw, fok_addr p.2 hb⟩
theorem vnw_const {u : Nat} {v : Int32} (p : VNw τ u t) : VNw τ u (upC (upC t u 6 (1 : Int32)) u 7 v) := ⟨fun w hw => by rw [up2_ne hw]; exact p.1 w hw, fok_const p.2⟩
theorem ev_eq {t t' : St} {u u' : Nat} (h1 : (t' u' 1) = (t u 1)) (h2 : (t' u' 0) = (t u 0)) : ev t' u' = ev t u := by
  unfold ev
  rw [h1, h2]
theorem ev_addr {u : Nat} {b v : Int32} : ev (upC (upC (upC t u 6 (2 : Int32)) u 8 b) u 7 v) u = ev t u := by
  refine ev_eq ?_ ?_ <;> simp only [rdA, Nat.reduceEqDiff, if_true, if_false]
theorem ev_const {u : Nat} {v : Int32} : ev (upC (upC t u 6 (1 : Int32)) u 7 v) u = ev t u := by
  refine ev_eq ?_ ?_ <;> simp only [rdA, Nat.reduceEqDiff, if_true, if_false]
theorem how_addr {u : Nat} {b v : Int32} : upC (upC (upC t u 6 (2 : Int32)) u 8 b) u 7 v u 1 = (t u 1) := by
  simp only [rdA, Nat.reduceEqDiff, if_true, if_false]
theorem how_const {u : Nat} {v : Int32} : upC (upC t u 6 (1 : Int32)) u 7 v u 1 = (t u 1) := by
  simp only [rdA, Nat.reduceEqDiff, if_true, if_false]
theorem ev_nv {u : Nat} {ty hgt : Int32} (p : NV τ u ty hgt t) (h : ty.toInt ≠ -1) : ev t u = 1 := by
  obtain ⟨e1, e2, -⟩ := nv_at p
  exact ev_1 (Or.inl (by rw [e2]; rfl)) (by rw [e1]; exact h)
/-- what an operator or a leaf gives -/
def ROx (σ τ : St) (vs : List Nat) (N a : Nat) (c : Int) (u : Nat) (s t : St) (z : List Nat) : Prop := RL σ vs s t z ∧ VFr τ vs t ∧ (u ∈ z ∧ u ∉ vs) ∧ ((t u 1).toInt = 1 → (t u 2).toInt < (s 0 49).toInt) ∧ (s 0 17).toInt ≤ (σ 0 17).toInt + 8 ∧ (s 0 39).toInt ≤ (σ 0 39).toInt + c ∧ (z.length : Int) ≤ vs.length + 1 ∧ TE σ s N a (ev t u)
theorem neg1_sub {x : Int32} (h : 0 ≤ x.toInt) : ((-1 : Int32) - x).toInt ≤ 100 := by
  have e : (-1 : Int32).toInt = -1 := by decide
  have e2 : ((-1 : Int32) - x).toInt = (-1 : Int32).toInt - x.toInt := by
    have h2 := s_rng x
    refine sb ?_ ?_
    · rw [e]; omega
    · rw [e]; omega
  rw [e] at e2
  rw [e2]
  omega
theorem sp_text {tk : Int32} {N : Nat} {Q : Nat → St → St → List Nat → Prop} (h : PA σ τ) (h1 : 0 ≤ tk.toInt ∧ tk.toInt < (σ 0 8).toInt) (h2 : ((σ 2) tk.toNatClampNeg).toInt = 4) (hw : (σ 0 17).toInt ≤ 499000) (hi : (σ 0 39).toInt ≤ 180000) (hc : vs.length < CAP) (hN : 1 ≤ N) (k : ∀ u s t z, ROx σ τ vs N 0 (3 * ((σ 6) tk.toNatClampNeg).toInt) u s t z → Q u s t z) : wp_text tk σ τ vs Q := by
  have hv := STR_ok h.1 h1 h2
  have htk : tk.toInt < 16002 := by have := h.1.2.1; omega
  have h9 := h
  obtain ⟨hT, hA, ⟨n1, n2, n3, n4, n5, n6, n7⟩, ⟨-, -, a3, -⟩, h5⟩ := h9
  have e1 := ad1 (x := (σ 6) tk.toNatClampNeg) (by omega)
  have e2 : ((σ 0 37) + ((σ 6) tk.toNatClampNeg + (1 : Int32))).toInt = (σ 0 37).toInt + (((σ 6) tk.toNatClampNeg).toInt + 1) := by rw [ad (by omega) (by omega), e1]
  unfold wp_text
  refine ⟨⟨h1.1, htk⟩, fun s t z => τ = t ∧ vs = z ∧ TL σ s, ?_, fun _ => ⟨rfl, rfl, tl_rf⟩, fun _ => sp_tell (by decide) ⟨h1.1, htk⟩ (fun s hs _ => ⟨rfl, rfl, hs⟩)⟩
  rintro s _ _ ⟨rfl, rfl, hs⟩
  have d1 : (s 0 37) = (σ 0 37) := hs.1 _ _ rfl rfl
  have d2 : (s 6) = (σ 6) := funext (fun j => hs.1 6 j rfl rfl)
  have d3 : (s 0 39) = (σ 0 39) := hs.1 _ _ rfl rfl
  have d4 : (s 0 17) = (σ 0 17) := hs.1 _ _ rfl rfl
  have d5 : (s 25) = (σ 25) := funext (fun j => hs.1 25 j rfl rfl)
  rw [d1]
  refine ⟨fun s' t z => τ = t ∧ vs = z ∧ Kp [(0, 12), (0, 13), (0, 37), (0, 39)] [25] σ s' ∧ OF σ s' ∧ ((σ 0 37).toInt ≤ (s' 0 37).toInt ∧ (s' 0 37).toInt ≤ 16000) ∧ ((σ 0 39).toInt ≤ (s' 0 39).toInt ∧ (s' 0 39).toInt ≤ (σ 0 39).toInt + 3 * ((σ 6) tk.toNatClampNeg).toInt) ∧ IE σ s', ?_, ?_, ?_⟩
  · rintro s' _ _ ⟨rfl, rfl, k1, k2, k3, k4, k5⟩
    have w1 : (s' 0 17) = (σ 0 17) := k1 _ _ rfl rfl
    have f1 : (s' 21) = (σ 21) := funext (fun j => k1 21 j rfl rfl)
    refine sp_put_1 (by rw [w1]; exact n5) (by rw [w1]; omega) (fun s2 hp => ⟨hc, fun q hq => sp_Vinit (fun t2 ht2 => ⟨by simp, sp_Vaddress (by simp) ?_⟩)⟩)
    have r1 : RL σ vs s' τ vs := rl_mk h (kp_sub k1 rfl rfl) (k1 _ _ rfl rfl) (by rw [w1]; exact Int.le_refl _) (fun j _ => k1 8 j rfl rfl) k4.1 (by omega) (by rw [f1]; exact a3) (mon_of (funext (fun j => k1 14 j rfl rfl)) f1) k2 k5 h5 (fun _ h => h) (Nat.le_refl _)
    have v2 := vnw_addr (v := 0) (b := (-1) - (σ 0 37)) (vnw_nv ht2) (neg1_sub n4.1)
    have r2 : RL s' vs s2 _ (vs ++ [q]) := rl_pu r1.2.1 hp (vok_vnw h5 v2) (fun u hu => by simp [hu]) (by simp)
    refine k _ _ _ _ ⟨rl_tr r1 r2, vfr_vnw hq v2, ⟨by simp, hq⟩, fun c => ?_, ?_, ?_, by simp, ?_⟩
    · rw [how_addr, (nv_at ht2).2.1] at c
      exact absurd c (by decide)
    · have := hp.2.1
      rw [w1] at this
      simp only [List.length_cons, List.length_nil] at this
      omega
    · have : (s2 0 39) = (s' 0 39) := hp.1 _ _ rfl rfl
      rw [this]; exact k4.2
    · rw [ev_addr, ev_nv ht2 (by decide)]
      have t1 : TE σ s' N 0 0 := te_same n5 w1 r1.2.2.1 (ev_ke r1.1 r1.2.2.2.1)
      have t2 : TE s' s2 N 0 1 := te_put (n := 2) (by rw [w1]; exact n5) hp rfl (by decide) rfl (k := 2) rfl (fun g' H L x hH hn hx => hn) hN
      exact te_tr t1 t2 (by unfold wcn; rw [w1]; exact Nat.le_refl _) r2.2.2.2.2.1 (hp.1 _ _ rfl rfl)
  · exact fun _ => ⟨rfl, rfl, kp_sub hs.1 rfl rfl, hs.2, by rw [d1]; omega, by rw [d3]; omega, ie_of d5 d3 d1⟩
  · intro c
    have hT2 : TK s := tk_kp hs.1 rfl rfl ⟨rfl, rfl, rfl, rfl, rfl⟩ rfl hT
    refine sp_codes hT2 ⟨h1.1, htk⟩ (by rw [d2]; omega) (by rw [d3]; exact n6) (by rw [d3]; omega) (by omega) (fun s3 hx hic => ?_)
    rw [d2] at hx hic
    have d6 : (s3 0 37) = (σ 0 37) := (hx.1 _ _ rfl rfl).trans d1
    have d7 : upC s3 0 37 ((s3 0 37) + ((σ 6) tk.toNatClampNeg + (1 : Int32))) 0 37 = (σ 0 37) + ((σ 6) tk.toNatClampNeg + (1 : Int32)) := by rw [rdA_eq rfl, d6]
    refine ⟨rfl, rfl, kp_f (kp_tr (kp_sub hs.1 rfl rfl) (kp_sub hx.1 rfl rfl)) rfl, of_tr hs.2 (of_eq (hx.1 _ _ rfl rfl)), ?_, ?_, ?_, fun f hI => ?_, ?_, fun j hj => ?_⟩
    · rw [d7]; omega
    · have e9 := hx.2.1
      rw [d3] at e9 hic
      exact ⟨e9, hic⟩
    · rw [d7]; omega
    · rw [d7]
      exact hx.2.2.1 f _ (itd_le (itd_of d5 d3 hI) (by omega)) n4.1 (by omega)
    · have e9 := hx.2.1
      rw [d3] at e9
      exact e9
    · have e9 := hx.2.2.2 j (by rw [d3]; exact hj)
      rw [d5] at e9
      exact e9
end TEXT
