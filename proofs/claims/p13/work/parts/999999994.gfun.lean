/-! a function's name: both sides alike -/
section GFN
variable {w s r σ σ' : St} {kd : Nat → Int} {n m m' lo u d e i : Nat} {a1 a2 a3 res sig st : Int32} {Q : St → Prop} {rr lk rs : Int} {nw c2 c4 stc body : Prop} {l l2 : List (Nat × Nat)}
theorem sgv_ext : ∀ {l l2 : List (Nat × Nat)}, l.length = l2.length → (∀ (k : Nat) (x y : Nat × Nat), l[k]? = some x → l2[k]? = some y → x.1 = y.1) → sgV l = sgV l2
  | [], [], _, _ => rfl
  | [], _ :: _, h, _ => by cases h
  | _ :: _, [], h, _ => by cases h
  | x :: l, y :: l2, h, g => by
    have h1 := g 0 x y rfl rfl
    have h2 := sgv_ext (l := l) (l2 := l2) (Nat.succ.inj h) (fun k a b ha hb => g (k + 1) a b ha hb)
    show x.1 + 8 * sgV l = y.1 + 8 * sgV l2
    rw [h1, h2]
theorem sg_nI (hl : l.length ≤ 8) (ht : Tyq l) (h : sig.toInt = sgI l) : sig = nI (sgX l) := ieq (by rw [h, sgx_int hl ht])
theorem ki_nI {k : Int32} (h0 : 0 ≤ k.toInt) (h1 : k.toInt < 100) : k = nI k.toInt.toNat := ieq (by rw [nI_toInt (by omega)]; omega)
/-- what a signature says -/
theorem sg_says (hl : l.length ≤ 8) (ht : Tyq l) (h : sig.toInt = sgI l) : sgN sig = (l.length : Int) ∧ ∀ (k : Nat) x, l[k]? = some x → sgT sig (nI k) = (x.1 : Int) := by
  rw [sg_nI hl ht h]
  refine ⟨sgn_I hl ht, fun k x hx => sgt_X hl ht hx (List.getElem?_eq_some_iff.mp hx).1⟩
/-- both sides: may be declared once more -/
theorem jf_eq (hO : ORR w σ kd n i d e) (hl : l.length ≤ 8) (ht : Tyq l) (hsig : sig.toInt = sgI l) (hst01 : st = 0 ∨ st = 1) (hst : stc ↔ st.toInt ≠ 0) : JFw w d res sig stc body ↔ JFm σ e res st body l := by
  obtain ⟨p1, p2, p3, p4, p5, p6, p7, p8, p9, p10, p11, p12, p13, p14, p15, p16⟩ := hO
  obtain ⟨g1, g2⟩ := sg_says hl ht hsig
  have h12b := p16.2.1
  have e12 : (FLq w d 2 ↔ stc) ↔ (σ 12 e).toInt = st.toInt := by
    rw [p12, hst]
    rcases hst01 with h | h
    · have : st.toInt = 0 := by rw [h]; rfl
      rw [this]
      rcases h12b with h2 | h2 <;> rw [h2] <;> decide
    · have : st.toInt = 1 := by rw [h]; rfl
      rw [this]
      rcases h12b with h2 | h2 <;> rw [h2] <;> decide
  have sgq : FLq w d 1 → ((w 27 d).toInt = sig.toInt ↔ (σ 15 e).toInt = (l.length : Int) ∧ ∀ k x, l[k]? = some x → (σ 16 (8 * e + k)).toInt = (x.1 : Int)) := fun hf => by
    obtain ⟨a1, a2, a3⟩ := p10 hf
    obtain ⟨l2, b1, b2, b3⟩ := p16.1 hf
    obtain ⟨c1, c2⟩ := sg_says b1 b2 b3
    have at3 : ∀ k : Nat, k < l2.length → sgT (w 27 d) (nI k) = (σ 16 (8 * e + k)).toInt := fun k hk => by
      have h0 : (nI k).toInt = (k : Int) := nI_toInt (by omega)
      have := a3 (nI k) (by omega) (by omega)
      rw [this, h0]
      rfl
    constructor
    · intro h
      have ew : w 27 d = sig := ieq h
      rw [ew] at a1 at3 c1
      have hlen : l2.length = l.length := by omega
      refine ⟨by omega, fun k x hx => ?_⟩
      have hk := (List.getElem?_eq_some_iff.mp hx).1
      rw [← at3 k (by omega), g2 k x hx]
    · rintro ⟨h1, h2⟩
      have hlen : l2.length = l.length := by omega
      have hv : sgV l2 = sgV l := sgv_ext hlen (fun k x y hx hy => by
        have hk := (List.getElem?_eq_some_iff.mp hx).1
        have q1 := c2 k x hx
        have q2 := h2 k y hy
        have q3 := at3 k hk
        omega)
      rw [b3, hsig]
      unfold sgI sgX
      rw [hlen, hv]
  unfold JFw JFm
  constructor
  · rintro ⟨q1, q2, q3, q4, q5⟩
    have i9 : (σ 9 e).toInt = 2 := by
      have := p5.1 q1
      omega
    obtain ⟨r1, r2⟩ := (sgq q1).1 q3
    exact ⟨i9, ⟨by rw [← p7]; exact q2, r1, r2⟩, e12.1 q4, fun h => q5 ⟨h.1, p13.2 h.2⟩⟩
  · rintro ⟨q1, ⟨q2, q3, q3b⟩, q4, q5⟩
    have f1 : FLq w d 1 := p5.2 (by omega)
    exact ⟨f1, by rw [p7]; exact q2, (sgq f1).2 ⟨q3, q3b⟩, e12.2 q4, fun h => q5 ⟨h.1, p13.1 h.2⟩⟩
theorem re_gfun (hE : REq kd n 0 m lo w σ) (hu : u ≤ n) (ku : kd u = 2) (hq : rr = -1 ∨ ∃ r : Nat, r < m ∧ rr = ((lo + r : Nat) : Int)) (hd0 : rr = -1 → m < 100 ∧ d = (w 5 1).toInt.toNat) (hd1 : ∀ r : Nat, rr = ((lo + r : Nat) : Int) → r < m ∧ d = (w 5 1).toInt.toNat - m + r) (hFU : FUf w s u m d (rr = -1) res sig stc body) (hjf : ∀ r : Nat, rr = ((lo + r : Nat) : Int) → JFw w d res sig stc body) (hlm : rr = -1 → lo + m < 10000) (hl : l.length ≤ 8) (ht : Tyq l) (hsig : sig.toInt = sgI l) (hres : -1 ≤ res.toInt ∧ res.toInt ≤ 5) (hst : stc ↔ st.toInt ≠ 0)
    (hG : GFd σ σ' u m lo m' res st body l rr) : REq kd n 0 m' lo s σ' := by
  obtain ⟨hT, hL, hO, ⟨D, hD1, hD2, hD3⟩, y1, y2⟩ := hE
  obtain ⟨ko, f63, fnw, fj, f26, f27, ⟨fl1, fl2, fl4, fl8⟩, fb, fnb⟩ := hFU
  obtain ⟨g0, g1, gx⟩ := hG
  obtain ⟨sN, sT⟩ := sg_says hl ht hsig
  have cs : ∀ c, c ≠ 4 → c ≠ 5 → c ≠ 6 → ([25, 26, 27, 28, 29, 30, 38, 39, 45] : List Nat).contains c = false → s c = w c := fun c h4 h5 h6 hc => funext (fun j => ko c j (by
    simp only [List.contains_cons, List.contains_nil, Bool.or_false, Bool.or_eq_false_iff, beq_eq_false_iff_ne, ne_eq, Prod.mk.injEq, not_and]
    omega) hc)
  have c1 := cs 1 (by decide) (by decide) (by decide) rfl
  have c13 := cs 13 (by decide) (by decide) (by decide) rfl
  have c14 := cs 14 (by decide) (by decide) (by decide) rfl
  have c15 := cs 15 (by decide) (by decide) (by decide) rfl
  have c40 := cs 40 (by decide) (by decide) (by decide) rfl
  have c41 := cs 41 (by decide) (by decide) (by decide) rfl
  have c42 := cs 42 (by decide) (by decide) (by decide) rfl
  have c44 := cs 44 (by decide) (by decide) (by decide) rfl
  have f15 : s 6 15 = w 6 15 := by
    by_cases c : body
    · exact ieq (by rw [(fb c).2.2.1, hL.1]; rfl)
    · exact (fnb c).2.2.1
  have hDD : ∃ D : Nat, (s 6 5).toInt = (D : Int) ∧ (σ' 0 37).toInt = (D : Int) ∧ D ≤ 16000 := ⟨D, by rw [ko 6 5 rfl rfl]; exact hD1, by rw [gx]; exact hD2, hD3⟩
  have y1' : ∀ j, j < 0 → -1 ≤ (s 41 ((s 44 j).toInt.toNat)).toInt ∧ (s 41 ((s 44 j).toInt.toNat)).toInt ≤ 9 := fun j hj => absurd hj (Nat.not_lt_zero j)
  have hT' := hT
  obtain ⟨t1, t2, t3, t4, t5, t6⟩ := hT'.2.2.2.1 u hu ku
  have ho3 := hO.2.2.1
  have ho4 := hO.2.2.2.1.1
  rcases hq with hr | ⟨r, hrm, hr⟩
  · obtain ⟨hm, ed⟩ := hd0 hr
    have hlm' := hlm hr
    obtain ⟨em, σ1, hd, k1, r11, r10, r12, ⟨r12n, r12b⟩, r15, r15n, r16, r16n, r13, r13n, r17⟩ := g0 hr
    obtain ⟨n67, nd, n51, n57, n38, n39, nby⟩ := fnw.1 hr
    have nn := dcf_n hd
    have kx : ∀ c, c ≠ 0 → c ≠ 10 → c ≠ 11 → c ≠ 12 → c ≠ 13 → c ≠ 15 → c ≠ 16 → c ≠ 17 → σ' c = σ1 c := fun c h0 h1 h2 h3 h4 h5 h6 h7 => funext (fun j => k1 c j (by
      simp only [List.contains_cons, List.contains_nil, Bool.or_false, Bool.or_eq_false_iff, beq_eq_false_iff_ne, ne_eq, Prod.mk.injEq, not_and]
      omega) (by
      simp only [List.contains_cons, List.contains_nil, Bool.or_false, Bool.or_eq_false_iff, beq_eq_false_iff_ne, ne_eq]
      omega))
    have gs : ∀ c, c ≠ 0 → c ≠ 9 → c ≠ 13 → c ≠ 14 → c ≠ 21 → c ≠ 18 → c ≠ 19 → c ≠ 20 → c ≠ 10 → c ≠ 11 → c ≠ 12 → c ≠ 15 → c ≠ 16 → c ≠ 17 → σ' c = σ c := fun c b0 b9 b13 b14 b21 b18 b19 b20 b10 b11 b12 b15 b16 b17 => (kx c b0 b10 b11 b12 b13 b15 b16 b17).trans (nn c b0 b9 b13 b14 b21 b18 b19 b20)
    have q1 : σ' 1 = σ 1 := gs 1 (by decide) (by decide) (by decide) (by decide) (by decide) (by decide) (by decide) (by decide) (by decide) (by decide) (by decide) (by decide) (by decide) (by decide)
    have q2 : σ' 2 = σ 2 := gs 2 (by decide) (by decide) (by decide) (by decide) (by decide) (by decide) (by decide) (by decide) (by decide) (by decide) (by decide) (by decide) (by decide) (by decide)
    have q3 : σ' 3 = σ 3 := gs 3 (by decide) (by decide) (by decide) (by decide) (by decide) (by decide) (by decide) (by decide) (by decide) (by decide) (by decide) (by decide) (by decide) (by decide)
    have q4 : σ' 4 = σ 4 := gs 4 (by decide) (by decide) (by decide) (by decide) (by decide) (by decide) (by decide) (by decide) (by decide) (by decide) (by decide) (by decide) (by decide) (by decide)
    have q6 : σ' 6 = σ 6 := gs 6 (by decide) (by decide) (by decide) (by decide) (by decide) (by decide) (by decide) (by decide) (by decide) (by decide) (by decide) (by decide) (by decide) (by decide)
    have q31 : σ' 31 = σ 31 := gs 31 (by decide) (by decide) (by decide) (by decide) (by decide) (by decide) (by decide) (by decide) (by decide) (by decide) (by decide) (by decide) (by decide) (by decide)
    have q32 : σ' 32 = σ 32 := gs 32 (by decide) (by decide) (by decide) (by decide) (by decide) (by decide) (by decide) (by decide) (by decide) (by decide) (by decide) (by decide) (by decide) (by decide)
    have q34 : σ' 34 = σ 34 := gs 34 (by decide) (by decide) (by decide) (by decide) (by decide) (by decide) (by decide) (by decide) (by decide) (by decide) (by decide) (by decide) (by decide) (by decide)
    have q35 : σ' 35 = σ 35 := gs 35 (by decide) (by decide) (by decide) (by decide) (by decide) (by decide) (by decide) (by decide) (by decide) (by decide) (by decide) (by decide) (by decide) (by decide)
    have e53 : σ' 0 53 = σ 0 53 := (k1 0 53 rfl rfl).trans (hd.1 0 53 rfl rfl)
    have hd' := hd
    obtain ⟨_, _, _, _, d9, _, d14, d21, _, _, _, _⟩ := hd'
    have g9 : σ' 9 = σ1 9 := kx 9 (by decide) (by decide) (by decide) (by decide) (by decide) (by decide) (by decide) (by decide)
    have g14 : σ' 14 = σ1 14 := kx 14 (by decide) (by decide) (by decide) (by decide) (by decide) (by decide) (by decide) (by decide)
    have g21 : σ' 21 = σ1 21 := kx 21 (by decide) (by decide) (by decide) (by decide) (by decide) (by decide) (by decide) (by decide)
    have g18 : σ' 18 = σ1 18 := kx 18 (by decide) (by decide) (by decide) (by decide) (by decide) (by decide) (by decide) (by decide)
    have g19 : σ' 19 = σ1 19 := kx 19 (by decide) (by decide) (by decide) (by decide) (by decide) (by decide) (by decide) (by decide)
    have g20 : σ' 20 = σ1 20 := kx 20 (by decide) (by decide) (by decide) (by decide) (by decide) (by decide) (by decide) (by decide)
    have hns := ns_new hT hu ku nby hd hO.2.2.2.2.1.2.2.2.2.2.1 g18 g19 g20 q1 q3 q4
    have n8 : ¬ FLq s d 8 := fun h => (fl8.1 h).1 hr
    have eot : otk s m = u := by
      unfold otk
      rw [n38, if_pos rfl]
      rfl
    rw [em]
    refine ⟨tk_fr hT c1 c13 c14 c15 q1 q2 q3 q4 q6, lo_fr hL c40 c41 c42 c44 f15 q31 q32 q34 q35 e53, ou_add (u := u) hO hm hlm' n67 (by rw [n51]; omega) (by rw [n57]; omega) ⟨by omega, by omega⟩ (fun j hj => by rw [n38, if_neg (by omega)]) (fun j hj => by rw [n39, if_neg (by omega)]) (fun j hj => fj j (by rw [ed]; exact hj)) hd k1 (fun j hj => by rw [r10, if_neg hj]) (fun j _ => by rw [r11]) r12 r13 r15 r16 r17 ?_, hDD, y1', fun i hi => ?_⟩
    · rw [← ed]
      unfold ORR
      rw [eot, n38, if_pos rfl, f26, f27, g9, g14, g21, d9, d14, d21, r10, n39, if_pos rfl, if_pos rfl, if_pos rfl, if_pos rfl, if_pos rfl]
      refine ⟨by omega, hu, ku, hns, ⟨fun _ => by decide, fun _ => fl1⟩, Or.inr rfl, rfl, ⟨fun h => absurd h n8, fun h => absurd rfl h⟩, fun h => absurd fl1 h, fun _ => ⟨by rw [sN, r15n], by rw [r15n]; omega, fun k h0 hk => ?_⟩, Iff.rfl, ?_, ?_, fun h => absurd fl1 h, fun h => absurd fl1 h, fun _ => ⟨l, hl, ht, hsig⟩, r12b, fun h => absurd h (by decide)⟩
      · rw [r15n] at hk
        obtain ⟨x, hx⟩ := l_at (l := l) (k := k.toInt.toNat) (by omega)
        rw [r16n _ x hx]
        rw [ki_nI h0 (by omega)]
        exact sT _ x hx
      · rw [fl2, r12n, ← hst]
        exact ⟨fun h => h.elim (fun h => absurd hr h.1) id, Or.inr⟩
      · rw [fl4, r13n]
        exact ⟨fun h => h.elim (fun h => absurd hr h.1) id, Or.inr⟩
    · have eb : (s 5 1).toInt.toNat - (m + 1) = (w 5 1).toInt.toNat - m := by omega
      rw [eb]
      by_cases ci : i = m
      · rw [ci, show (w 5 1).toInt.toNat - m + m = d from by omega, f26]
        omega
      · rw [(fj _ (by omega)).2.1]
        exact y2 i (by omega)
  · have hne : ¬ rr = -1 := by omega
    obtain ⟨_, ed⟩ := hd1 r hr
    obtain ⟨em, k1, r11, r13, r13e, r17⟩ := g1 r hr
    obtain ⟨n67, n51, n57, n38, n39⟩ := fnw.2 hne
    obtain ⟨j1, j2, j3, j4, j5⟩ := hjf r hr
    have hO6 := hO.2.2.2.2.2 r hrm
    rw [← ed] at hO6
    obtain ⟨p1, p2, p3, p4, p5, p6, p7, p8, p9, p10, p11, p12, p13, p14, p15, p16⟩ := hO6
    have gs : ∀ c, c ≠ 0 → c ≠ 11 → c ≠ 13 → c ≠ 17 → σ' c = σ c := fun c h0 h1 h2 h3 => funext (fun j => k1 c j (by
      simp only [List.contains_cons, List.contains_nil, Bool.or_false, Bool.or_eq_false_iff, beq_eq_false_iff_ne, ne_eq, Prod.mk.injEq, not_and]
      omega) (by
      simp only [List.contains_cons, List.contains_nil, Bool.or_false, Bool.or_eq_false_iff, beq_eq_false_iff_ne, ne_eq]
      omega))
    have e53 : σ' 0 53 = σ 0 53 := k1 0 53 rfl rfl
    have eot : otk s r = otk w r := by unfold otk; rw [n38]
    have e26 : s 26 d = w 26 d := ieq (by rw [f26, j2])
    have e27 : s 27 d = w 27 d := ieq (by rw [f27, j3])
    rw [em]
    refine ⟨tk_fr hT c1 c13 c14 c15 (gs 1 (by decide) (by decide) (by decide) (by decide)) (gs 2 (by decide) (by decide) (by decide) (by decide)) (gs 3 (by decide) (by decide) (by decide) (by decide)) (gs 4 (by decide) (by decide) (by decide) (by decide)) (gs 6 (by decide) (by decide) (by decide) (by decide)), lo_fr hL c40 c41 c42 c44 f15 (gs 31 (by decide) (by decide) (by decide) (by decide)) (gs 32 (by decide) (by decide) (by decide) (by decide)) (gs 34 (by decide) (by decide) (by decide) (by decide)) (gs 35 (by decide) (by decide) (by decide) (by decide)) e53, ou_upd (i := r) hO hrm n67 n51 n57 n38 n39 (fun j hj => fj j (by rw [ed]; exact hj)) k1 (fun j _ => by rw [r11]) r13 r17 ?_, hDD, y1', fun i hi => ?_⟩
    · rw [← ed]
      have fe1 : FLq s d 1 ↔ FLq w d 1 := ⟨fun _ => j1, fun _ => fl1⟩
      have fe2 : FLq s d 2 ↔ FLq w d 2 := by
        rw [fl2, j4]
        exact ⟨fun h => h.elim (fun h => h.2) id, fun h => Or.inr h⟩
      have fe8 : FLq s d 8 ↔ FLq w d 8 := by
        rw [fl8]
        exact ⟨fun h => h.2, fun h => ⟨hne, h⟩⟩
      unfold ORR NSm
      rw [eot, n38, n39, e26, e27, fe1, fe2, fe8, r11, gs 1 (by decide) (by decide) (by decide) (by decide), gs 3 (by decide) (by decide) (by decide) (by decide), gs 4 (by decide) (by decide) (by decide) (by decide), gs 9 (by decide) (by decide) (by decide) (by decide), gs 10 (by decide) (by decide) (by decide) (by decide), gs 12 (by decide) (by decide) (by decide) (by decide), gs 14 (by decide) (by decide) (by decide) (by decide), gs 15 (by decide) (by decide) (by decide) (by decide), gs 16 (by decide) (by decide) (by decide) (by decide), gs 18 (by decide) (by decide) (by decide) (by decide), gs 19 (by decide) (by decide) (by decide) (by decide), gs 20 (by decide) (by decide) (by decide) (by decide), gs 21 (by decide) (by decide) (by decide) (by decide)]
      refine ⟨p1, p2, p3, p4, p5, p6, p7, p8, p9, p10, p11, p12, ?_, fun h => absurd j1 h, p15, p16.1, p16.2.1, fun h => absurd h (p5.1 j1)⟩
      rw [fl4, r13e, ← p13]
      exact ⟨fun h => h.elim (fun h => Or.inr h.2) Or.inl, fun h => h.elim Or.inr (fun h => Or.inl ⟨hne, h⟩)⟩
    · rw [n51]
      by_cases ci : (w 5 1).toInt.toNat - m + i = d
      · rw [ci, f26]
        omega
      · rw [(fj _ ci).2.1]
        exact y2 i hi
end GFN
