/-! compile(), both sides: all of what is declared -/
def CMPz (a : Int32) (σ s : St) : Prop := ((a.toInt < 0 ∨ 3 < a.toInt ∨ (σ 0 35).toInt = 100) ∧ s = upC (upC (upC σ 0 9 (σ 0 1)) 0 1 (0 : Int32)) 0 14 ((-1) : Int32)) ∨ ((0 ≤ a.toInt ∧ a.toInt ≤ 3 ∧ (σ 0 35).toInt ≠ 100) ∧ ∃ (lo : Nat) (σ0 s1 : St) (v1 : Int32), S0q lo σ0 ∧ (σ 0 36).toInt = (lo : Int) ∧ σ0 0 31 = σ 0 31 ∧ σ0 1 = σ 1 ∧ RDq (σ 1) (σ 0 1).toInt lo σ0 v1 s1 ∧ KRx σ s1 ∧ OLe σ s1 ∧ OMs lo (σ 0 31).toInt.toNat σ s1 ∧ ((v1.toInt = 0 ∧ s = upC (upC (upC (upC s1 23 (s1 0 35).toNatClampNeg (s1 0 37)) 0 35 ((s1 0 35) + (1 : Int32))) 22 ((s1 0 35) + (1 : Int32)).toNatClampNeg (s1 0 36)) 24 ((s1 0 35) + (1 : Int32)).toNatClampNeg (s1 0 39)) ∨ (v1.toInt ≠ 0 ∧ s = upC (upC (upC (upC (upC s1 0 17 (σ 0 17)) 0 31 (σ 0 31)) 0 45 (σ 0 45)) 0 39 (σ 0 39)) 0 36 (s1 22 (s1 0 35).toNatClampNeg))))
section CPZ
variable {w σ s s' σ0 σ1 s1 s5 τ t : St} {vs z : List Nat} {a : Int32} {o lo n i m u e D N : Nat} {kd vl : Nat → Int} {L : List (Int32 × Int32 × Int)} {c : Int32} {q : Int}
theorem cmz_x (h : CMPz a σ s) : CMPx a σ s := by
  rcases h with h | ⟨h, lo, σ0, s1, v1, hS, eL, e31, e1, hR, kx, ol, _, hfin⟩
  · exact Or.inl h
  · exact Or.inr ⟨h, lo, σ0, s1, v1, hS, eL, e31, e1, hR, kx, ol, hfin⟩
theorem es_compilez {Q : Int32 → St → St → List Nat → Prop} (h : GLI σ τ vs) (hF : (σ 0 2).toInt ≤ 10240) (hB : ∀ j, -128 ≤ (σ 1 j).toInt ∧ (σ 1 j).toInt ≤ 127) (hb13 : B13 σ) (kk : ∀ v s t z, CMPz a σ s → Q v s t z) : pp_compile a σ τ vs Q := by
  have h9 := h
  obtain ⟨⟨⟨t1, t2⟩, ⟨o1, o2⟩, ⟨n1, n2⟩, -⟩, hE, hA, -⟩ := h9
  unfold pp_compile
  refine ⟨fun c => kk _ _ _ _ (Or.inl ⟨Or.inl c, rfl⟩), fun c0 => ⟨fun c => kk _ _ _ _ (Or.inl ⟨Or.inr (Or.inl c), rfl⟩), fun c3 => ⟨fun ho _ _ => ?_, fun c => kk _ _ _ _ (Or.inl ⟨Or.inr (Or.inr c), rfl⟩)⟩⟩⟩
  have ho' : (σ 0 35).toInt < 100 := by omega
  generalize h0 : (upC (upC (upC (upC (upC (upC (upC (upC (upC (upC (upC σ 0 9 (σ 0 1)) 0 1 (0 : Int32)) 0 14 ((-1) : Int32)) 22 (σ 0 35).toNatClampNeg (σ 0 36)) 24 (σ 0 35).toNatClampNeg (σ 0 39)) 0 37 (0 : Int32)) 0 12 (0 : Int32)) 0 15 (0 : Int32)) 0 53 (0 : Int32)) 0 54 (0 : Int32)) 0 49 (0 : Int32)) = σ0
  have k0 : K0c σ σ0 := by
    have ka : Kp [(0, 9), (0, 1), (0, 14), (0, 37), (0, 12), (0, 15), (0, 53), (0, 54), (0, 49)] [22, 24] σ σ0 := by
      rw [← h0]
      exact kp_f (kp_f (kp_f (kp_f (kp_f (kp_f (kp_a (kp_a (kp_f (kp_f (kp_f kp_rf rfl) rfl) rfl) rfl) rfl) rfl) rfl) rfl) rfl) rfl) rfl
    intro c j q1 q2
    by_cases c22 : c = 22
    · subst c22
      rw [← h0]
      simp only [rdC, Nat.reduceEqDiff, if_true, if_false]
      by_cases e : j = (σ 0 35).toNatClampNeg
      · rw [if_pos e, e]; exact hE.1
      · rw [if_neg e]
    · by_cases c24 : c = 24
      · subst c24
        rw [← h0]
        simp only [rdC, Nat.reduceEqDiff, if_true, if_false]
        by_cases e : j = (σ 0 35).toNatClampNeg
        · rw [if_pos e, e]; exact hE.2.1
        · rw [if_neg e]
      · refine ka c j q1 ?_
        simp
        exact ⟨c22, c24⟩
  have z9 : σ0 0 9 = σ 0 1 := by rw [← h0]; rfl
  have z37 : σ0 0 37 = 0 := by rw [← h0]; rfl
  have z12 : σ0 0 12 = 0 := by rw [← h0]; rfl
  have z15 : σ0 0 15 = 0 := by rw [← h0]; rfl
  have z53 : σ0 0 53 = 0 := by rw [← h0]; rfl
  have z54 : σ0 0 54 = 0 := by rw [← h0]; rfl
  have z49 : σ0 0 49 = 0 := by rw [← h0]; rfl
  obtain ⟨rs, eFi, -⟩ := rs0_gi (σ0 := σ0) h hF ho' k0 z9 z37 z12 z15 z53 z49
  clear h0
  have y : ∀ c, c ≠ 0 → σ0 c = σ c := fun c c0 => funext (fun j => k0 c j (by
    simp only [List.contains_cons, List.contains_nil, Bool.or_false, Bool.or_eq_false_iff, beq_eq_false_iff_ne, ne_eq, Prod.mk.injEq, not_and]
    omega) rfl)
  have f35 : σ0 0 35 = σ 0 35 := k0 0 35 rfl rfl
  have f36 : σ0 0 36 = σ 0 36 := k0 0 36 rfl rfl
  have f31 : σ0 0 31 = σ 0 31 := k0 0 31 rfl rfl
  obtain ⟨g1, g2, g3, g4⟩ := hE
  obtain ⟨-, -, a35, -, -, -, a31, a10, -⟩ := hA
  have eL : (σ 0 36).toInt = (((σ 0 36).toInt.toNat : Nat) : Int) := by omega
  generalize (σ 0 36).toInt.toNat = lo at eL
  have hS : S0q lo σ0 := by
    refine ⟨by rw [z53]; rfl, by rw [z54]; rfl, by rw [z49]; rfl, by rw [z15]; rfl, by rw [z12]; rfl, by rw [z37]; rfl, ⟨?_, by rw [f36]; exact eL, Nat.le_refl _, by omega, fun e h1 h2 => absurd h2 (Nat.not_lt.mpr h1), by rw [f31]; omega, by rw [f31]; omega, fun e h1 h2 => absurd h2 (Nat.not_lt.mpr h1)⟩, fun j => ?_, fun j => ?_, fun j => ?_⟩
    · rw [f35, y 22 (by decide), ← g1]; exact eL
    · rw [y 31 (by decide)]; exact a31 j
    · rw [y 10 (by decide)]; have := a10 j; omega
    · rw [y 35 (by decide)]; have := a35 j; omega
  have fr : wp_read_0 σ0 τ vs (fun v s _ _ => (v = 0 ∨ v.toInt < 0) ∧ KRx σ s ∧ OLe σ s) := mg_wp_read_0 (fun v s t z p q => ⟨p.1, q⟩) (rd_fr rs) (wl_wp_read_0 (fun v s t z p => p) (rd_frx rs k0 eFi))
  have hom0 : OMs lo (σ 0 31).toInt.toNat σ σ0 := by
    refine ⟨by rw [← g1]; exact eL, ⟨f35, y 22 (by decide)⟩, ⟨by rw [f36]; omega, by rw [f31]; omega⟩, ⟨fun e he => ⟨fun c hc => ?_, fun k hk => by rw [y 16 (by decide)]⟩, fun q => by rw [y 13 (by decide)]; exact hb13 q⟩, fun i hi => by rw [y 20 (by decide)]⟩
    rw [y c (fun e => by rw [e] at hc; cases hc)]
  refine cj_wp_read_0 (fun v s t z p1 p23 => ?_) (wl_wp_read_0 (fun v s t z p => p) fr) (cj_wp_read_0 (Q := fun v s _ _ => RDq (σ 1) (σ 0 1).toInt lo σ0 v s ∧ OMs lo (σ 0 31).toInt.toNat σ s) (fun v s t z x y => ⟨x, y⟩) (es_read (Q := fun v s _ _ => RDq (σ 1) (σ 0 1).toInt lo σ0 v s) (f := σ 1) (N := (σ 0 1).toInt) (σ := σ0) (y 1 (by decide)) hB (by rw [z9]) t1 t2 hS (fun v s t z hr => hr)) (om_pp_read_0 (Q := fun _ s _ _ => OMs lo (σ 0 31).toInt.toNat σ s) hom0 (fun _ _ _ _ h => h)))
  obtain ⟨p2, hom⟩ := p23
  obtain ⟨hv, kx, ol⟩ := p1
  refine ⟨fun c _ _ _ => kk _ _ _ _ (Or.inr ⟨⟨c0, c3, ho⟩, lo, σ0, s, v, hS, eL, f31, y 1 (by decide), p2, kx, ol, hom, Or.inl ⟨?_, rfl⟩⟩), fun c _ => kk _ _ _ _ (Or.inr ⟨⟨c0, c3, ho⟩, lo, σ0, s, v, hS, eL, f31, y 1 (by decide), p2, kx, ol, hom, Or.inr ⟨by omega, rfl⟩⟩)⟩
  rcases hv with h | h
  · rw [h]; rfl
  · omega
/-- what stays where no object comes of it -/
def SAz (σ s : St) : Prop := s 0 36 = σ 0 36 ∧ s 0 31 = σ 0 31 ∧ s 0 35 = σ 0 35 ∧ s 22 = σ 22 ∧ (OMr (σ 0 36).toInt.toNat σ s ∧ B13 s) ∧ ∀ i : Nat, (i : Int) < (σ 0 31).toInt → s 20 i = σ 20 i
theorem saz_0 (hb : B13 σ) : SAz σ (upC (upC (upC σ 0 9 (σ 0 1)) 0 1 (0 : Int32)) 0 14 ((-1) : Int32)) := by
  have r : ∀ c, c ≠ 0 → (upC (upC (upC σ 0 9 (σ 0 1)) 0 1 (0 : Int32)) 0 14 ((-1) : Int32)) c = σ c := fun c c0 => by rw [rdC_ne c0, rdC_ne c0, rdC_ne c0]
  refine ⟨rfl, rfl, rfl, r 22 (by decide), ⟨fun e _ => ⟨fun c hc => by rw [r c (fun e => by rw [e] at hc; cases hc)], fun k _ => by rw [r 16 (by decide)]⟩, fun q => by rw [r 13 (by decide)]; exact hb q⟩, fun i _ => by rw [r 20 (by decide)]⟩
theorem saz_1 (kx : KRx σ s1) (hom : OMs lo (σ 0 31).toInt.toNat σ s1) (eL : (σ 0 36).toInt = (lo : Int)) (hE : σ 0 36 = σ 22 (σ 0 35).toNatClampNeg) : SAz σ (upC (upC (upC (upC (upC s1 0 17 (σ 0 17)) 0 31 (σ 0 31)) 0 45 (σ 0 45)) 0 39 (σ 0 39)) 0 36 (s1 22 (s1 0 35).toNatClampNeg)) := by
  have r : ∀ c, c ≠ 0 → (upC (upC (upC (upC (upC s1 0 17 (σ 0 17)) 0 31 (σ 0 31)) 0 45 (σ 0 45)) 0 39 (σ 0 39)) 0 36 (s1 22 (s1 0 35).toNatClampNeg)) c = s1 c := fun c c0 => by rw [rdC_ne c0, rdC_ne c0, rdC_ne c0, rdC_ne c0, rdC_ne c0]
  obtain ⟨_, ⟨o1, o2⟩, _, ⟨o4, o4b⟩, o5⟩ := hom
  refine ⟨?_, ?_, ?_, (r 22 (by decide)).trans o2, ⟨fun e he => ⟨fun c hc => ?_, fun k hk => ?_⟩, fun q => by rw [r 13 (by decide)]; exact o4b q⟩, fun i hi => ?_⟩
  · rw [rdA_eq rfl, o1, o2]
    exact hE.symm
  · rw [rdA_ne (by decide), rdA_ne (by decide), rdA_ne (by decide), rdA_eq rfl]
  · rw [rdA_ne (by decide), rdA_ne (by decide), rdA_ne (by decide), rdA_ne (by decide), rdA_ne (by decide)]
    exact o1
  · rw [r c (fun e => by rw [e] at hc; cases hc)]
    exact (o4 e (by omega)).1 c hc
  · rw [r 16 (by decide)]
    exact (o4 e (by omega)).2 k hk
  · rw [r 20 (by decide)]
    exact o5 i (by omega)
theorem hd_le (h : IVx w o) (r : RLp w σ) (re : RLe w σ) : 0 ≤ (σ 0 36).toInt ∧ ∀ A : Nat, (A : Int) < (σ 0 35).toInt → 0 ≤ (σ 22 A).toInt ∧ (σ 22 (A + 1)).toInt ≤ (σ 0 36).toInt := by
  obtain ⟨⟨h1, h1'⟩, h2, h3, -⟩ := h
  have d0 := de_le h2
  obtain ⟨r1, r2, -⟩ := r
  have q0 := d0 o (Nat.le_refl _)
  refine ⟨by omega, fun A hA => ?_⟩
  have w1 := re.1 A (by omega)
  have w2 := re.1 (A + 1) (by omega)
  have q1 := d0 A (by omega)
  have mo := de_mono h2 (Nat.le_refl o) (A + 1) (by omega)
  omega
theorem rlf_keep (h : RLf w σ) (sm : SAz σ s') (hmo : 0 ≤ (σ 0 36).toInt ∧ ∀ A : Nat, (A : Int) < (σ 0 35).toInt → 0 ≤ (σ 22 A).toInt ∧ (σ 22 (A + 1)).toInt ≤ (σ 0 36).toInt) (r2 : (w 5 1).toInt = (σ 0 36).toInt + 4) (r3 : (w 5 7).toInt = (σ 0 31).toInt + 15) (h15 : 15 ≤ (w 5 7).toInt) (e1 : ∀ d : Nat, (d : Int) < (w 5 1).toInt → t 25 d = w 25 d ∧ t 26 d = w 26 d ∧ t 27 d = w 27 d ∧ t 28 d = w 28 d ∧ t 29 d = w 29 d) (e2 : ∀ i : Nat, (i : Int) < (w 5 7).toInt → t 30 i = w 30 i) (e57 : (t 5 7).toInt = (s' 0 31).toInt + 15) : RLf t s' := by
  obtain ⟨h1, h2, h3, _⟩ := h
  obtain ⟨m36, m31, m35, m22, ⟨mr, m13⟩, m20⟩ := sm
  obtain ⟨p36, hmo⟩ := hmo
  have rows : ∀ e : Nat, (e : Int) < (σ 0 36).toInt → ∀ c, [9, 10, 11, 12, 13, 14, 15, 17, 18, 19].contains c = true → s' c e = σ c e := fun e he c hc => (mr e (by omega)).1 c hc
  refine ⟨lib_same h1 (fun d hd => e1 d (by omega)) (fun i hi => e2 i (by omega)), fun e he => ?_, fun A hA e f h4 h5 h6 hs => ?_, m13⟩
  · rw [m36] at he
    obtain ⟨a1, a2, a3, a4, a5⟩ := e1 (e + 4) (by omega)
    refine enr_same (h2 e he) ⟨a5, (e1 (e + 3) (by omega)).2.2.2.2⟩ e2 (by rw [e57, m31]; omega) a1 a2 a3 a4 (fun c hc => rows e he c (by rcases hc with h | h | h | h | h | h | h | h | h <;> rw [h] <;> rfl)) (fun k hk => (mr e (by omega)).2 k hk) m20 (by rw [m31]; omega)
  · rw [m35] at hA
    rw [m22] at h4 h6
    have hb := hmo A hA
    have he : (e : Int) < (σ 0 36).toInt := by omega
    have hf : (f : Int) < (σ 0 36).toInt := by omega
    obtain ⟨_, _, _, _, ne⟩ := h2 e he
    obtain ⟨_, _, _, _, nf⟩ := h2 f hf
    exact h3 A hA e f h4 h5 h6 (sam_same ⟨rows e he 19 rfl, rows f hf 19 rfl⟩ ⟨rows e he 18 rfl, rows f hf 18 rfl⟩ ⟨ne.2.2.2.1, ne.2.2.2.2.2.1⟩ ⟨nf.2.2.2.1, nf.2.2.2.2.2.1⟩ m20 hs)
/-- the name of a new one is its token's -/
theorem new_nm (hT : TKR s s1 kd n) (ho : ORR s s1 kd n i (e + 4) e) (h5 : s 1 = s5 1 ∧ s 14 = s5 14 ∧ s 15 = s5 15) : (s1 19 e).toInt = (atv 16002 (s5 14) (s 38 i)).toInt ∧ ∀ k : Nat, (k : Int) < (s1 19 e).toInt → (s1 20 ((s1 18 e).toInt.toNat + k)).toInt = (s5 1 ((atv 16002 (s5 15) (s 38 i)).toInt.toNat + k)).toInt := by
  obtain ⟨q1, q2, q3, q4, _⟩ := ho
  have hn := hT.1.1
  have e38 : (s 38 i).toInt = ((otk s i : Nat) : Int) := by unfold otk; omega
  obtain ⟨t1, t2, t3⟩ := hT.2.2.2.1 _ q2 q3
  obtain ⟨q41, q42⟩ := q4
  obtain ⟨_, t5, t6, t7⟩ := t3
  rw [atv_at e38 (by omega), atv_at e38 (by omega), ← h5.1, ← h5.2.1, ← h5.2.2]
  refine ⟨by rw [t2]; exact q41, fun k hk => ?_⟩
  rw [q42 k (by omega), t1]
  exact (hT.2.2.1 _ (by omega)).symm
/-- its bytes are letters and digits -/
theorem new_nd {f : Nat → Int32} {M : Int} (hr : RCHq (byt f M) (0, []) (q, L)) (hB : ∀ j, -128 ≤ (f j).toInt ∧ (f j).toInt ≤ 127) (hTL : TKLq L c kd vl n) (hC : FNq s5 L c) (e1 : s5 1 = f) (hT : TKR s s1 kd n) (ho : ORR s s1 kd n i (e + 4) e) : ∀ k : Nat, (k : Int) < (atv 16002 (s5 14) (s 38 i)).toInt → 48 ≤ (s5 1 ((atv 16002 (s5 15) (s 38 i)).toInt.toNat + k)).toInt ∧ (s5 1 ((atv 16002 (s5 15) (s 38 i)).toInt.toNat + k)).toInt ≤ 122 := by
  obtain ⟨q1, q2, q3, q4, _⟩ := ho
  have hn := hT.1.1
  have e38 : (s 38 i).toInt = ((otk s i : Nat) : Int) := by unfold otk; omega
  have hlt : otk s i < n := by
    have := hT.1.2.2.2.2
    by_cases x : otk s i = n
    · rw [x] at q3
      omega
    · omega
  obtain ⟨kk, v, q', hL, hk⟩ := tl_at hTL hlt
  obtain ⟨_, c2, _⟩ := hC
  obtain ⟨_, c4, c5⟩ := c2 _ _ _ _ hL
  rw [atv_at e38 (by omega), atv_at e38 (by omega), c4, e1]
  intro k hkv
  have hq0 : 0 ≤ q' := by
    have nd := rch_nd hr _ kk v q' hL (by omega) q' (Int.le_refl _) (by omega)
    have : 0 ≤ byt f M q' := by rcases nd with h | h <;> omega
    exact (byt_in this).1
  have nd := rch_nd hr _ kk v q' hL (by omega) (q' + k) (by omega) (by omega)
  have hx := byt_nd (g := f) (N := M) (i := q' + k) (by omega) (hB _) nd
  rw [show (s5 15 (otk s i)).toInt.toNat + k = (q' + (k : Int)).toNat from by omega]
  exact hx
/-- a new one, alike -/
theorem new_enr (hT : TKR s s1 kd n) (ho : ORR s s1 kd n i (e + 4) e) (h5 : s 1 = s5 1 ∧ s 14 = s5 14 ∧ s 15 = s5 15) (hd : D + i = e + 4) (hD : 1 ≤ D) (nk : NMk D s5 s i) (hb : 0 ≤ (s1 18 e).toInt ∧ 0 ≤ (s1 19 e).toInt ∧ (s1 18 e).toInt + (s1 19 e).toInt ≤ (s1 0 31).toInt) (hnd : ∀ k : Nat, (k : Int) < (atv 16002 (s5 14) (s 38 i)).toInt → 48 ≤ (s5 1 ((atv 16002 (s5 15) (s 38 i)).toInt.toNat + k)).toInt ∧ (s5 1 ((atv 16002 (s5 15) (s 38 i)).toInt.toNat + k)).toInt ≤ 122) : EAr s s1 e := by
  obtain ⟨m1, m2⟩ := new_nm hT ho h5
  obtain ⟨_, _, _, _, q5, q6, q7, q8, q9, q10, _, q12, q13, _, q15, q16, _, q18⟩ := ho
  obtain ⟨k1, k2, k3, k4, k5, _, k6⟩ := nk
  rw [hd, show e + 4 - 1 = e + 3 from rfl] at k1
  rw [hd, show e + 4 - 1 = e + 3 from rfl] at k2 k6
  rw [hd] at k5
  refine ⟨⟨q7, q18⟩, q8, fun hf => ⟨q9 hf, q15 hf⟩, fun hf => ?_, by omega, hb.2.1, k2, hb.1, k5, hb.2.2, fun k hk => ?_⟩
  · obtain ⟨a1, a2, a3⟩ := q10 hf
    exact ⟨a1, a2, a3, q16 hf⟩
  · have e2 := m2 k hk
    rw [k6 k (by omega), e2]
    exact ⟨rfl, hnd k (by omega)⟩
/-- the class's, as the reference's left it: what is declared -/
theorem pl_compilez {Q : Int32 → St → Prop} (h : IVx w o) (rl : RLp w σ) (re : RLe w σ) (rf : RLf w σ) (hE : σ 0 36 = σ 22 (σ 0 35).toNatClampNeg) (cm : CMPz a σ s') (k : ∀ v t, ((t 5 7).toInt = (s' 0 31).toInt + 15 → RLf t s') → Q v t) : pk_X12_compile a w Q := by
  have hBy := rl_by h rl
  have hdd := hd_le h rl re
  obtain ⟨r1, r2, r3, r4, r5, r6⟩ := rl
  obtain ⟨⟨h1, h1'⟩, h2, h3, h4, ⟨f1, f2, f3⟩, h6, ⟨g1, g2, g3, g4⟩, h8, h9, ha, hb, hc, hi⟩ := h
  have d0 := de_le h2
  have hmo : 0 ≤ (σ 0 36).toInt ∧ ∀ A : Nat, (A : Int) < (σ 0 35).toInt → 0 ≤ (σ 22 A).toInt ∧ (σ 22 (A + 1)).toInt ≤ (σ 0 36).toInt := hdd
  have h15 : 15 ≤ (w 5 7).toInt := by
    rcases Int.lt_or_le 0 (σ 0 36).toInt with c | c
    · have q := (rf.2.1 0 (by omega)).2.2.2.2
      have q2 := q.2.1
      have q4 := q.2.2.2.1
      have q6 := q.2.2.2.2.2.1
      omega
    · have c0 := hmo.1
      have q := h6.1 3 (by show ((3 : Nat) : Int) + 1 = (w 5 1).toInt; omega)
      have q2 : w 29 3 = sc0 29 3 := (rf.1.1 3 (by decide)).2.2.2.2
      have q3 : (sc0 29 3).toInt = 15 := by decide +kernel
      have q4 : (w 29 3).toInt = (w 5 7).toInt := q
      rw [q2, q3] at q4
      omega
  have same : SAz σ s' → ∀ v t, (∀ d : Nat, (d : Int) < (w 5 1).toInt → t 25 d = w 25 d ∧ t 26 d = w 26 d ∧ t 27 d = w 27 d ∧ t 28 d = w 28 d ∧ t 29 d = w 29 d) → (∀ i : Nat, (i : Int) < (w 5 7).toInt → t 30 i = w 30 i) → Q v t := fun sm v t e1 e2 => k v t (fun e57 => rlf_keep rf sm hmo r2 r3 h15 e1 e2 e57)
  unfold pk_X12_compile
  generalize hσ1 : upC (upC w 0 1 (0 : Int32)) 0 3 ((-1) : Int32) = w1
  have r1' : ∀ c, c ≠ 0 → w1 c = w c := fun c hc0 => by rw [← hσ1, rdC_ne hc0, rdC_ne hc0]
  have q01 : (w1 0 1).toInt = 0 := by rw [← hσ1]; rfl
  have q02 : w1 0 2 = w 0 2 := by rw [← hσ1]; rfl
  clear hσ1
  have early : SAz σ s' → ∀ v, Q v w1 := fun sm v => same sm v w1 (fun d _ => by rw [r1' 25 (by decide), r1' 26 (by decide), r1' 27 (by decide), r1' 28 (by decide), r1' 29 (by decide)]; exact ⟨rfl, rfl, rfl, rfl, rfl⟩) (fun i _ => by rw [r1' 30 (by decide)])
  have bad : (a.toInt < 0 ∨ 3 < a.toInt ∨ 100 ≤ (w 5 13).toInt) → SAz σ s' := fun hx => by
    rcases cm with ⟨_, sm⟩ | ⟨⟨x1, x2, x3⟩, _⟩
    · rw [sm]; exact saz_0 rf.2.2.2
    · omega
  refine ⟨fun c => early (bad (Or.inl c)) _, fun c0 => ⟨fun c => early (bad (Or.inr (Or.inl c))) _, fun c3 => ⟨fun c100 => ?_, fun c => early (bad (Or.inr (Or.inr c))) _⟩⟩⟩
  clear bad early
  rcases cm with ⟨hx, _⟩ | ⟨_, lo, σ0, s1, v1, hS, eL, e31, e1, hR, kx, ol, hom, hfin⟩
  · omega
  obtain ⟨kd, vl, n, L, q, c, σ1, hr, hfi, hT, hM, kσ, hev⟩ := hR
  have hN0 : 0 ≤ (σ 0 1).toInt ∧ (σ 0 1).toInt ≤ 16000 := by omega
  have ew : w 1 = σ 1 := funext (fun j => ieq (r6 j))
  refine cj_wk_X10_scan (fun s4 p1 p2 => ?_) (wl_wk_X10_scan (fun s4 p => p) (sp_scan (Q := fun s4 => Kp [(2, 1), (2, 2), (2, 3), (2, 4)] [13, 14, 15, 16] w1 s4 ∧ (s4 2 1).toInt = (w 0 1).toInt ∧ TEn s4) ⟨f1.1, f1.2.1⟩ (by unfold PLA; rw [r1' 15 (by decide)]; exact g1) (by unfold NMr; rw [r1' 13 (by decide), r1' 14 (by decide), r1' 15 (by decide)]; exact g2) (fun s4 k4 z4 te => ⟨k4, z4, te⟩))) (pl_scan (Q := fun s4 => ∃ L q c, RCHq (byt (σ 1) (σ 0 1).toInt) (0, []) (q, L) ∧ FINq (byt (σ 1) (σ 0 1).toInt) q c ∧ FNq s4 L c) (N := (σ 0 1).toInt) r4 hN0.1 hN0.2 ((r1' 1 (by decide)).trans ew) (fun s L q c kp hr hf hn hl => ⟨L, q, c, hr, hf, hn⟩))
  obtain ⟨k4, z4, te⟩ := p1
  obtain ⟨L', q', c', hr', hf', hC⟩ := p2
  obtain ⟨eql, eqc⟩ := rch_one hr hfi hr' hf'
  have eL' : L' = L := (congrArg Prod.snd eql).symm
  rw [eL', ← eqc] at hC
  have tkv := tl_cls hN0 hr hfi hC hT
  obtain ⟨tk, pl4, nm4⟩ := te
  have kc : ∀ s5, KG s4 s5 → ∀ c j, c ≠ 2 → c ≠ 3 → ¬ (13 ≤ c ∧ c ≤ 23) → s5 c j = w1 c j := fun s5 k5 c j c2 c3 c4 => by
    have e1 : s5 c j = s4 c j := k5 c j (by
      simp only [List.contains_cons, List.contains_nil, Bool.or_false, Bool.or_eq_false_iff, beq_eq_false_iff_ne, ne_eq, Prod.mk.injEq, not_and]
      omega) (by
      simp only [List.contains_cons, List.contains_nil, Bool.or_false, Bool.or_eq_false_iff, beq_eq_false_iff_ne, ne_eq]
      omega)
    have e2 : s4 c j = w1 c j := k4 c j (by
      simp only [List.contains_cons, List.contains_nil, Bool.or_false, Bool.or_eq_false_iff, beq_eq_false_iff_ne, ne_eq, Prod.mk.injEq, not_and]
      omega) (by
      simp only [List.contains_cons, List.contains_nil, Bool.or_false, Bool.or_eq_false_iff, beq_eq_false_iff_ne, ne_eq]
      omega)
    exact e1.trans e2
  have t13 : ∀ s5, KG s4 s5 → s5 13 = s4 13 ∧ s5 14 = s4 14 ∧ s5 15 = s4 15 := fun s5 k5 => ⟨funext (fun j => k5 13 j rfl rfl), funext (fun j => k5 14 j rfl rfl), funext (fun j => k5 15 j rfl rfl)⟩
  refine cj_wk_X3_read (fun v s5 p1 p2 => ?_) (wl_wk_X3_read (fun v s p => p) (sp_gread (Q := fun v s => KG s4 s ∧ (v = 0 ∨ (v = 1 ∧ RDk s))) tk (fun s k5 => ⟨k5, Or.inl rfl⟩) (fun s k5 rd => ⟨k5, Or.inr ⟨rfl, rd⟩⟩))) (gt_read (Q := fun v s => (v = 1 ∧ ∃ g, EVq (fun n => UNn kd vl n 0) (some g) ∧ TBL s (fltq 0 g)) ∨ (v = 0 ∧ EVq (fun n => UNn kd vl n 0) none)) tkv (fun s g e _ tb _ => Or.inl ⟨rfl, g, e, tb⟩) (fun s _ e => Or.inr ⟨rfl, e⟩))
  obtain ⟨k5, prd⟩ := p1
  have w5 := kc s5 k5
  have row : ∀ c, c ≠ 2 → c ≠ 3 → ¬ (13 ≤ c ∧ c ≤ 23) → s5 c = w1 c := fun c c2 c3 c4 => funext (fun j => w5 c j c2 c3 c4)
  have v5 : s5 5 = w 5 := (row 5 (by decide) (by decide) (by omega)).trans (r1' 5 (by decide))
  have v4 : s5 4 = w 4 := (row 4 (by decide) (by decide) (by omega)).trans (r1' 4 (by decide))
  have v0 : s5 0 = w1 0 := row 0 (by decide) (by decide) (by omega)
  have v1' : s5 1 = w 1 := (row 1 (by decide) (by decide) (by omega)).trans (r1' 1 (by decide))
  have v25 : s5 25 = w 25 := (row 25 (by decide) (by decide) (by omega)).trans (r1' 25 (by decide))
  have v27 : s5 27 = w 27 := (row 27 (by decide) (by decide) (by omega)).trans (r1' 27 (by decide))
  have v29 : s5 29 = w 29 := (row 29 (by decide) (by decide) (by omega)).trans (r1' 29 (by decide))
  have v26 : s5 26 = w 26 := (row 26 (by decide) (by decide) (by omega)).trans (r1' 26 (by decide))
  have v28 : s5 28 = w 28 := (row 28 (by decide) (by decide) (by omega)).trans (r1' 28 (by decide))
  have v30 : s5 30 = w 30 := (row 30 (by decide) (by decide) (by omega)).trans (r1' 30 (by decide))
  have v37 : s5 37 = w 37 := (row 37 (by decide) (by decide) (by omega)).trans (r1' 37 (by decide))
  have v34 : s5 34 = w 34 := (row 34 (by decide) (by decide) (by omega)).trans (r1' 34 (by decide))
  refine ⟨fun cv => ?_, fun cv => ?_⟩
  rotate_left
  · -- no unit
    rcases p2 with ⟨hv, _⟩ | ⟨_, hn⟩
    · rw [hv] at cv; exact absurd cv (by decide)
    · have sm : SAz σ s' := by
        rcases hev with ⟨hv1, _⟩ | ⟨g, hg, _⟩
        · rcases hfin with ⟨h0, _⟩ | ⟨_, sm⟩
          · rw [hv1] at h0; exact absurd h0 (by decide)
          · rw [sm]; exact saz_1 kx hom eL hE
        · have := ev_one hg hn
          cases this
      refine same sm _ _ (fun d _ => ?_) (fun i _ => by rw [rdC_ne (by decide), v30])
      rw [rdC_ne (by decide), rdC_ne (by decide), rdC_ne (by decide), rdC_ne (by decide), rdC_ne (by decide), v25, v26, v27, v28, v29]
      exact ⟨rfl, rfl, rfl, rfl, rfl⟩
  rcases p2 with ⟨_, g, hg, tb⟩ | ⟨hv, _⟩
  rotate_left
  · rw [hv] at cv; exact absurd rfl cv
  have rd : RDk s5 := by
    rcases prd with hv | ⟨_, rd⟩
    · rw [hv] at cv; exact absurd rfl cv
    · exact rd
  have hu : UNw kd n lo g σ1 v1 s1 := by
    rcases hev with ⟨_, hn⟩ | ⟨g', hg', hu⟩
    · have := ev_one hg hn
      cases this
    · have := Option.some.inj (ev_one hg' hg)
      rw [this] at hu
      exact hu
  obtain ⟨x13, x14, x15⟩ := t13 s5 k5
  have a_pl : PLA s5 := by unfold PLA; rw [x15]; exact pl4
  have a_nm : NMr s5 := by unfold NMr; rw [x13, x14, x15]; exact nm4
  have sz : (s5 2 1).toInt = (w 0 1).toInt := by rw [show s5 2 1 = s4 2 1 from k5 2 1 rfl rfl]; exact z4
  have dd := d0 o (Nat.le_refl _)
  have a_sz : (s5 2 1).toInt ≤ 16000 := by rw [sz]; exact f1.2.1
  have a_by : ByteOK (s5 1) := by rw [v1']; exact g3
  have a_hd : 0 ≤ (s5 5 1).toInt ∧ (s5 5 1).toInt ≤ 10000 := by rw [v5]; omega
  have a_l0 : 0 ≤ (s5 4 1).toInt := by rw [v4]; exact f2.1
  have a_lb : (s5 4 1).toInt + 4 * (s5 2 1).toInt ≤ 262144 := by rw [v4, sz]; omega
  have a_hn : 0 ≤ (s5 5 7).toInt ∧ (s5 5 7).toInt + (s5 2 1).toInt ≤ 65600 := by rw [v5, sz]; omega
  have a_nme : NME s5 := by unfold NME; rw [v5, v29]; exact h6
  have a_fx : ∀ j, FLb ((s5 25) j) 1 → spar ((s5 27) j) ≤ 8 := by rw [v25, v27]; exact g4
  have hS1 := s0_k kσ hS
  have c1 : σ1 1 = σ 1 := (funext (fun j => kσ 1 j rfl rfl)).trans e1
  have c31 : σ1 0 31 = σ 0 31 := (kσ 0 31 rfl rfl).trans e31
  have hC5 : FNq s5 L c := by
    obtain ⟨m1, m2, m3⟩ := hC
    refine ⟨by rw [show s5 2 4 = s4 2 4 from k5 2 4 rfl rfl]; exact m1, fun j k v q hj => ?_, by rw [x13]; exact m3⟩
    rw [x13, x14, x15]
    exact m2 j k v q hj
  have hD5 : (s5 5 1).toInt = ((lo + 4 : Nat) : Int) := by rw [v5]; omega
  have hN5 : (s5 5 7).toInt = ((w 5 7).toInt.toNat : Int) := by rw [v5]; have := f3.1; omega
  have hE5 : (s5 29 (lo + 4 - 1)).toInt = ((w 5 7).toInt.toNat : Int) := by
    rw [v29, h6.1 (lo + 4 - 1) (by omega)]
    have := f3.1
    omega
  have W := ol_pk_X7_walk (Q := fun s => OLs (lo + 4) (w 5 7).toInt.toNat s5 s) (a := a) hD5 (by omega) hN5 (by omega) hE5 (fun s h => h)
  refine cj_wk_X7_walk (fun s p1 p24 => ?_) (wl_wk_X7_walk (fun s p => p) (sp_walk (Q := fun s => ∃ ρ, Kp [(6, 2), (6, 3), (6, 4), (6, 5), (6, 7), (6, 6), (6, 10), (6, 15), (6, 17), (8, 6), (8, 8), (7, 7), (9, 5)] [] s5 ρ ∧ WDx ρ s) rd a_sz a_nm a_pl a_by a_hd a_l0 a_lb a_hn a_nme a_fx (fun ρ s kρ o0 wd hz => ⟨ρ, kρ, wd⟩))) (cj_wk_X7_walk (fun s x y => And.intro x y) W (cw_walk (Q := fun r => ((r 6 3).toInt ≠ 0 → v1.toInt ≠ 0) ∧ ((r 6 3).toInt = 0 → v1.toInt = 0 ∧ ∃ m, URq kd n m lo r s1)) (B := v1.toInt ≠ 0) rd a_sz a_nm a_pl a_by a_hd a_l0 a_lb a_hn a_nme a_fx tb (fun ρ kρ z63 z65 z67 z66 z615 z86 z77 z95 => hu ρ (ur_start (tl_both hN0 hr hfi hM ?_ hT ?_) hS1 z615 z67 ?_ ?_ z65 z77 z66 z86 z95) z63) (fun b r hr => ⟨fun _ => b, fun hx => absurd hx hr⟩)))
  rotate_left
  · obtain ⟨m1, m2, m3⟩ := hC5
    have y13 : ρ 13 = s5 13 := funext (fun j => kρ 13 j rfl rfl)
    have y14 : ρ 14 = s5 14 := funext (fun j => kρ 14 j rfl rfl)
    have y15 : ρ 15 = s5 15 := funext (fun j => kρ 15 j rfl rfl)
    refine ⟨by rw [kρ 2 4 rfl rfl]; exact m1, fun j k v q hj => ?_, by rw [y13]; exact m3⟩
    rw [y13, y14, y15]
    exact m2 j k v q hj
  · intro i _
    rw [kρ 1 i rfl rfl, v1', c1]
    exact r6 i
  · rw [kρ 5 1 rfl rfl, v5]; omega
  · rw [kρ 5 7 rfl rfl, v5, c31]; exact r3
  obtain ⟨hol, p2⟩ := p24
  obtain ⟨ρ, kρ, wd⟩ := p1
  have kw := wd.1.1
  have s513 : s 5 13 = w 5 13 := by rw [kw 5 13 (op_lt (by decide)) rfl rfl, kρ 5 13 rfl rfl, v5]
  have e513 : (s 5 13).toInt = o := by rw [s513]; exact h1
  have hdiff : (s 5 1).toInt - (s 6 7).toInt = ((lo + 4 : Nat) : Int) := by
    have hx := wd.1.2.2.1.1
    rw [kρ 5 1 rfl rfl] at hx
    omega
  have hol1 := hol.1
  obtain ⟨-, ⟨n1, n2⟩, orow, o30, olast, onm, odst⟩ := hol.2.2 hdiff
  have keepd : ∀ d : Nat, (d : Int) < (w 5 1).toInt → s 25 d = w 25 d ∧ s 26 d = w 26 d ∧ s 27 d = w 27 d ∧ s 28 d = w 28 d ∧ s 29 d = w 29 d := fun d hd => by
    have hx := orow d (by omega)
    rw [v25, v26, v27, v28, v29] at hx
    exact hx
  have keepn : ∀ i : Nat, (i : Int) < (w 5 7).toInt → s 30 i = w 30 i := fun i hi => by rw [o30 i (by omega), v30]
  refine ⟨fun f0 => ?_, fun f0 => ?_⟩
  · obtain ⟨hv0, m, hUR⟩ := p2.2 f0
    have hO := hUR.1.2.2.1
    have hT' := hUR.1.1
    rcases hfin with ⟨_, es'⟩ | ⟨hv1, _⟩
    rotate_left
    · exact absurd hv0 hv1
    have f35 : s1 0 35 = σ 0 35 := kx 0 35 rfl rfl
    have n35 : (s1 0 35).toNatClampNeg = o := nat_of (by rw [f35, ← r1, h1])
    have n351 : ((s1 0 35) + (1 : Int32)).toNatClampNeg = o + 1 := nat_of (by rw [ad1 (by rw [f35, ← r1, h1]; omega), f35, ← r1, h1]; rfl)
    rw [n35, n351] at es'
    unfold pk_X8_keep
    generalize ht : upF _ 37 _ = t
    have trow : ∀ c, c ≠ 5 → c ≠ 34 → c ≠ 35 → c ≠ 36 → c ≠ 37 → t c = s c := fun c c5 c34 c35 c36 c37 => by rw [← ht, rdF_ne c37, rdF_ne c36, rdF_ne c35, rdF_ne c34, rdC_ne c5]
    have t57 : t 5 7 = s 5 7 := by rw [← ht, rdF_ne (by decide), rdF_ne (by decide), rdF_ne (by decide), rdF_ne (by decide), rdA_ne (by decide)]
    clear ht
    have u22 : ∀ q, s' 22 q = if q = o + 1 then s1 0 36 else s1 22 q := fun q => by rw [es', rdC_ne (by decide), rdC_eq, rdC_ne (by decide), rdC_ne (by decide)]
    have u36 : s' 0 36 = s1 0 36 := by rw [es', rdC_ne (by decide), rdC_ne (by decide), rdA_ne (by decide), rdC_ne (by decide)]
    have u31 : s' 0 31 = s1 0 31 := by rw [es', rdC_ne (by decide), rdC_ne (by decide), rdA_ne (by decide), rdC_ne (by decide)]
    have u35 : (s' 0 35).toInt = (o : Int) + 1 := by rw [es', rdC_ne (by decide), rdC_ne (by decide), rdA_eq rfl, ad1 (by rw [f35, ← r1, h1]; omega), f35, ← r1, h1]
    have urow : ∀ c, c ≠ 0 → c ≠ 22 → c ≠ 23 → c ≠ 24 → s' c = s1 c := fun c c0 c22 c23 c24 => by rw [es', rdC_ne c24, rdC_ne c22, rdC_ne c0, rdC_ne c23]
    clear es'
    have e36 := hO.2.2.2.2.1.2.1
    have e51 := hO.2.2.2.1.1
    have e67 := hO.1
    have eok := hO.2.2.2.2.1
    obtain ⟨_, ⟨o1, o2⟩, ⟨o3, o4⟩, ⟨orm, orb⟩, o20⟩ := hom
    have k1 : s1 1 = σ 1 := funext (fun j => kx 1 j rfl rfl)
    have h5 : s 1 = s5 1 ∧ s 14 = s5 14 ∧ s 15 = s5 15 := ⟨hol1.1, hol1.2.2.1, hol1.2.2.2⟩
    have e5σ : s5 1 = σ 1 := v1'.trans ew
    have orr : ∀ i, i < m → ORR s s1 kd n i (lo + i + 4) (lo + i) := fun i hi => by
      have ho := hO.2.2.2.2.2 i hi
      rw [show (s 5 1).toInt.toNat - m + i = lo + i + 4 from by omega] at ho
      exact ho
    have bnd : ∀ i, i < m → 0 ≤ (s1 18 (lo + i)).toInt ∧ 0 ≤ (s1 19 (lo + i)).toInt ∧ (s1 18 (lo + i)).toInt + (s1 19 (lo + i)).toInt ≤ (s1 0 31).toInt := fun i hi => by
      obtain ⟨_, _, _, _, b5, _, _, b8⟩ := eok
      have x := b5 (lo + i) (by omega) (by omega)
      exact ⟨x.1, x.2.1, b8 (lo + i) (by omega) (by omega)⟩
    have new : ∀ i, i < m → EAr s s1 (lo + i) := fun i hi => new_enr hT' (orr i hi) h5 (D := lo + 4) (by omega) (by omega) (onm i (by omega)) (bnd i hi) (new_nd hr hBy hT hC5 e5σ hT' (orr i hi))
    have n57 : (w 5 7).toInt ≤ (s 5 7).toInt := by omega
    refine k _ t (fun e57 => ⟨lib_same rf.1 (fun d hd => ?_) (fun i hi => ?_), fun e he => ?_, fun A hA e f h4' h5' h6' hs => ?_, fun q => by rw [urow 13 (by decide) (by decide) (by decide) (by decide)]; exact orb q⟩)
    · rw [trow 25 (by decide) (by decide) (by decide) (by decide) (by decide), trow 26 (by decide) (by decide) (by decide) (by decide) (by decide), trow 27 (by decide) (by decide) (by decide) (by decide) (by decide), trow 28 (by decide) (by decide) (by decide) (by decide) (by decide), trow 29 (by decide) (by decide) (by decide) (by decide) (by decide)]
      exact keepd d (by omega)
    · rw [trow 30 (by decide) (by decide) (by decide) (by decide) (by decide)]
      exact keepn i (by omega)
    · rw [u36, e36] at he
      by_cases clt : e < lo
      · have hw := keepd (e + 4) (by omega)
        have hw3 := keepd (e + 3) (by omega)
        refine enr_same (rf.2.1 e (by omega)) ⟨?_, ?_⟩ (fun i hi => ?_) (by rw [t57]; exact n57) ?_ ?_ ?_ ?_ (fun c hc => ?_) (fun k hk => ?_) (fun i hi => ?_) (by rw [u31]; omega)
        · rw [trow 29 (by decide) (by decide) (by decide) (by decide) (by decide)]; exact hw.2.2.2.2
        · rw [trow 29 (by decide) (by decide) (by decide) (by decide) (by decide)]; exact hw3.2.2.2.2
        · rw [trow 30 (by decide) (by decide) (by decide) (by decide) (by decide)]; exact keepn i hi
        · rw [trow 25 (by decide) (by decide) (by decide) (by decide) (by decide)]; exact hw.1
        · rw [trow 26 (by decide) (by decide) (by decide) (by decide) (by decide)]; exact hw.2.1
        · rw [trow 27 (by decide) (by decide) (by decide) (by decide) (by decide)]; exact hw.2.2.1
        · rw [trow 28 (by decide) (by decide) (by decide) (by decide) (by decide)]; exact hw.2.2.2.1
        · rw [urow c (by omega) (by omega) (by omega) (by omega)]
          exact (orm e clt).1 c (by rcases hc with h | h | h | h | h | h | h | h | h <;> rw [h] <;> rfl)
        · rw [urow 16 (by decide) (by decide) (by decide) (by decide)]
          exact (orm e clt).2 k hk
        · rw [urow 20 (by decide) (by decide) (by decide) (by decide)]
          exact o20 i (by omega)
      · obtain ⟨i, hi⟩ : ∃ i, e = lo + i := ⟨e - lo, by omega⟩
        rw [hi]
        refine enr_same (new i (by omega)) ⟨?_, ?_⟩ (fun i hi => ?_) (by rw [t57]; omega) ?_ ?_ ?_ ?_ (fun c hc => ?_) (fun k hk => ?_) (fun i hi => ?_) (by rw [u31]; omega)
        · rw [trow 29 (by decide) (by decide) (by decide) (by decide) (by decide)]
        · rw [trow 29 (by decide) (by decide) (by decide) (by decide) (by decide)]
        · rw [trow 30 (by decide) (by decide) (by decide) (by decide) (by decide)]
        · rw [trow 25 (by decide) (by decide) (by decide) (by decide) (by decide)]
        · rw [trow 26 (by decide) (by decide) (by decide) (by decide) (by decide)]
        · rw [trow 27 (by decide) (by decide) (by decide) (by decide) (by decide)]
        · rw [trow 28 (by decide) (by decide) (by decide) (by decide) (by decide)]
        · rw [urow c (by omega) (by omega) (by omega) (by omega)]
        · rw [urow 16 (by decide) (by decide) (by decide) (by decide)]
        · rw [urow 20 (by decide) (by decide) (by decide) (by decide)]
    · have x22 : ∀ q, q ≤ o → s' 22 q = σ 22 q := fun q hq => by
        rw [u22 q, if_neg (by omega), o2]
      rw [u35] at hA
      by_cases c : A < o
      · have hb := hmo.2 A (by omega)
        rw [x22 A (by omega)] at h4'
        rw [x22 (A + 1) (by omega)] at h6'
        have he : (e : Int) < (σ 0 36).toInt := by omega
        have hf : (f : Int) < (σ 0 36).toInt := by omega
        obtain ⟨_, _, _, _, ne⟩ := rf.2.1 e he
        obtain ⟨_, _, _, _, nf⟩ := rf.2.1 f hf
        have ro : ∀ (q : Nat), (q : Int) < (σ 0 36).toInt → ∀ c, c = 18 ∨ c = 19 → s' c q = σ c q := fun q hq c hc => by
          rw [urow c (by omega) (by omega) (by omega) (by omega)]
          exact (orm q (by omega)).1 c (by rcases hc with h | h <;> rw [h] <;> rfl)
        refine rf.2.2.1 A (by omega) e f h4' h5' h6' (sam_same ⟨ro e he 19 (Or.inr rfl), ro f hf 19 (Or.inr rfl)⟩ ⟨ro e he 18 (Or.inl rfl), ro f hf 18 (Or.inl rfl)⟩ ⟨ne.2.2.2.1, ne.2.2.2.2.2.1⟩ ⟨nf.2.2.2.1, nf.2.2.2.2.2.1⟩ (fun i hi => ?_) hs)
        rw [urow 20 (by decide) (by decide) (by decide) (by decide)]
        exact o20 i (by omega)
      · have eA : A = o := by omega
        rw [eA, x22 o (Nat.le_refl _)] at h4'
        rw [eA, u22 (o + 1), if_pos rfl, e36] at h6'
        have hlo : (σ 22 o).toInt = (lo : Int) := by
          have hx := congrArg Int32.toInt hE
          rw [show (σ 0 35).toNatClampNeg = o from nat_of (by rw [← r1, h1])] at hx
          omega
        rw [hlo] at h4'
        obtain ⟨i, hi⟩ : ∃ i, e = lo + i := ⟨e - lo, by omega⟩
        obtain ⟨j, hj⟩ : ∃ j, f = lo + j := ⟨f - lo, by omega⟩
        rw [hi, hj] at hs
        unfold SAMm at hs
        rw [urow 18 (by decide) (by decide) (by decide) (by decide), urow 19 (by decide) (by decide) (by decide) (by decide), urow 20 (by decide) (by decide) (by decide) (by decide)] at hs
        obtain ⟨a1, a2⟩ := new_nm hT' (orr i (by omega)) h5
        obtain ⟨b1, b2⟩ := new_nm hT' (orr j (by omega)) h5
        rcases odst i j (by omega) (by omega) with h | ⟨k, hk, h⟩
        · exact h (by rw [← a1, ← b1]; exact hs.1)
        · refine h ?_
          rw [← a2 k (by omega), ← b2 k (by rw [← hs.1]; omega)]
          exact hs.2 k (by omega)
  · have hv1 := p2.1 f0
    have sm : SAz σ s' := by
      rcases hfin with ⟨h0, _⟩ | ⟨_, sm⟩
      · exact absurd h0 hv1
      · rw [sm]; exact saz_1 kx hom eL hE
    unfold pk_X8_forget pk_X8_nameStart pk_X0_cut
    dsimp only
    refine same sm _ _ (fun d hd => ?_) (fun i hi => ?_)
    · rw [rdC_ne (by decide), rdC_ne (by decide), rdC_ne (by decide), rdC_ne (by decide), rdC_ne (by decide), rdC_ne (by decide), rdC_ne (by decide), rdC_ne (by decide), rdC_ne (by decide), rdC_ne (by decide), rdC_ne (by decide), rdC_ne (by decide), rdC_ne (by decide), rdC_ne (by decide), rdC_ne (by decide), rdC_ne (by decide), rdC_ne (by decide), rdC_ne (by decide), rdC_ne (by decide), rdC_ne (by decide), rdC_ne (by decide), rdC_ne (by decide), rdC_ne (by decide), rdC_ne (by decide), rdC_ne (by decide)]
      exact keepd d hd
    · rw [rdC_ne (by decide), rdC_ne (by decide), rdC_ne (by decide), rdC_ne (by decide), rdC_ne (by decide)]
      exact keepn i hi
end CPZ
