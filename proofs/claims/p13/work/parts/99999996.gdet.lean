/-! outside of functions: what a variable's name, its [ ] and its cells leave -/
def GDf (σ s : St) (u m lo m' : Nat) (ty kn : Int32) (ext stc : Prop) (rr cells : Int) : Prop :=
  (rr = -1 → m' = m + 1 ∧ ∃ s1, DCf σ s1 u (lo + m) m 1 ∧ Kp [(0, 10), (0, 12), (0, 13), (0, 37)] [10, 11, 12, 13, 15, 16, 17] s1 s ∧ s 15 = σ 15 ∧ s 16 = σ 16 ∧ (∀ j, s 10 j = if j = lo + m then ty else σ 10 j) ∧ (∀ j, s 11 j = if j = lo + m then kn else σ 11 j) ∧ (∀ j, j ≠ lo + m → s 12 j = σ 12 j) ∧ (((s 12 (lo + m)).toInt ≠ 0 ↔ stc) ∧ ((s 12 (lo + m)).toInt = 0 ∨ (s 12 (lo + m)).toInt = 1)) ∧ (∀ j, j ≠ lo + m → s 13 j = σ 13 j) ∧ ((s 13 (lo + m)).toInt ≠ 0 ↔ ¬ ext) ∧ (∀ j, j ≠ lo + m → s 17 j = σ 17 j) ∧ (¬ ext → s 17 (lo + m) = σ 0 37))
  ∧ (∀ r : Nat, rr = ((lo + r : Nat) : Int) → m' = m ∧ Kp [(0, 10), (0, 12), (0, 13), (0, 37)] [11, 13, 17] σ s ∧ (∀ j, j ≠ lo + r → s 11 j = σ 11 j) ∧ (s 11 (lo + r) = if 0 < kn.toInt then kn else σ 11 (lo + r)) ∧ (∀ j, j ≠ lo + r → s 13 j = σ 13 j) ∧ ((s 13 (lo + r)).toInt ≠ 0 ↔ ¬ ext ∨ (σ 13 (lo + r)).toInt ≠ 0) ∧ (∀ j, j ≠ lo + r → s 17 j = σ 17 j) ∧ (¬ ext → s 17 (lo + r) = σ 0 37) ∧ (ext → s 17 (lo + r) = σ 17 (lo + r)))
  ∧ (ext → s 0 37 = σ 0 37) ∧ (¬ ext → (s 0 37).toInt = (σ 0 37).toInt + cells)
section GDT
variable {w s r s1 s2 s3 σ σ' σ1 : St} {kd vl : Nat → Int} {n S m m' lo u dn d e i : Nat} {sort lk ty kn st ex v : Int32} {rr cells D : Int} {ext stc : Prop}
/-- both sides: may be declared once more -/
theorem jn_eq (hO : ORR w σ kd n i d e) (h11 : (w 8 11).toInt = ty.toInt) (h12 : (w 8 12).toInt = kn.toInt) (hkn : -1 ≤ kn.toInt) (hst : lk.toInt = 1 ↔ st.toInt ≠ 0) (hex : (w 8 13).toInt ≠ 0 ↔ ex.toInt ≠ 0) : JNw w d lk ↔ JNm σ e ty kn st ex := by
  obtain ⟨p1, p2, p3, p4, p5, p6, p7, p8, p9, p10, p11, p12, p13, p14, p15, p16⟩ := hO
  unfold JNw JNm
  rw [h11, h12, hex]
  constructor
  · rintro ⟨⟨q1, q2, q3⟩, q4, ⟨q5, q6⟩, q7⟩
    have i9 : (σ 9 e).toInt = 1 := Decidable.byContradiction (fun h => q1 (p5.2 h))
    have e11 := p9 q1
    have g1 := p15 q1
    rw [e11] at q3 q4 g1
    refine ⟨⟨i9, by omega, ?_, ?_⟩, Decidable.byContradiction (fun h => q6 (p12.2 h)), Decidable.byContradiction (fun h => q5 (hst.2 h)), q7.imp id (fun h => Decidable.byContradiction (fun h2 => h (p13.2 h2)))⟩
    · constructor
      · intro h
        have := q3.1 (by omega)
        omega
      · intro h
        have := q3.2 (by omega)
        omega
    · by_cases c : kn.toInt ≤ 0
      · exact Or.inl c
      · rcases q4 with h | h | h
        · refine Or.inr (Or.inl ?_)
          by_cases c2 : (σ 11 e).toInt = -1
          · have := q3.1 c2
            omega
          · omega
        · exact absurd h c
        · exact Or.inr (Or.inr h)
  · rintro ⟨⟨q1, q2, q3, q4⟩, q5, q6, q7⟩
    have f1 : ¬ FLq w d 1 := fun h => (p5.1 h) q1
    have e11 := p9 f1
    have g1 := p15 f1
    rw [e11] at g1
    rw [e11]
    refine ⟨⟨f1, by omega, ?_⟩, ?_, ⟨fun h => (hst.1 h) q6, fun h => (p12.1 h) q5⟩, q7.imp id (fun h h2 => (p13.1 h2) h)⟩
    · constructor
      · intro h
        have := q3.1 (by omega)
        omega
      · intro h
        have := q3.2 (by omega)
        omega
    · rcases q4 with h | h | h
      · exact Or.inr (Or.inl h)
      · exact Or.inl (by omega)
      · exact Or.inr (Or.inr h)
theorem re_gvar (hE : REq kd n S m lo w σ) (hu : u ≤ n) (ku : kd u = 2) (hq : rr = -1 ∨ ∃ r : Nat, r < m ∧ rr = ((lo + r : Nat) : Int)) (hd0 : rr = -1 → m < 100 ∧ d = (w 5 1).toInt.toNat) (hd1 : ∀ r : Nat, rr = ((lo + r : Nat) : Int) → r < m ∧ d = (w 5 1).toInt.toNat - m + r) (hOU : OUf w s u m d (rr = -1) lk) (hjn : ∀ r : Nat, rr = ((lo + r : Nat) : Int) → JNw w d lk) (hlm : rr = -1 → lo + m < 10000) (h11 : w 8 11 = ty) (h12 : w 8 12 = kn) (hty : 0 ≤ ty.toInt ∧ ty.toInt ≤ 8) (hkn : -1 ≤ kn.toInt) (hext : (w 8 13).toInt ≠ 0 ↔ ext) (hst : lk.toInt = 1 ↔ stc) (hse : stc → ¬ ext)
    (hG : GDf σ σ' u m lo m' ty kn ext stc rr cells) (hcl : (ext → CLw w = 0) ∧ (¬ ext → CLw w = cells)) (hc0 : 0 ≤ cells) (hD9 : (σ' 0 37).toInt ≤ 16000) : REq kd n S m' lo s σ' := by
  obtain ⟨hT, hL, hO, ⟨D, hD1, hD2, hD3⟩, y1, y2⟩ := hE
  obtain ⟨ko, f63, fnw, fj, f26, f27a, f27b, ⟨fl1, fl2, fl4, fl8⟩, f65, f28, f28b⟩ := hOU
  obtain ⟨g0, g1, gx, gn⟩ := hG
  have cs : ∀ c, c ≠ 5 → c ≠ 6 → c ≠ 8 → ([25, 26, 27, 28, 29, 30, 38, 39] : List Nat).contains c = false → s c = w c := fun c h5 h6 h8 hc => funext (fun j => ko c j (by
    simp only [List.contains_cons, List.contains_nil, Bool.or_false, Bool.or_eq_false_iff, beq_eq_false_iff_ne, ne_eq, Prod.mk.injEq, not_and]
    omega) hc)
  have c1 := cs 1 (by decide) (by decide) (by decide) rfl
  have c13 := cs 13 (by decide) (by decide) (by decide) rfl
  have c14 := cs 14 (by decide) (by decide) (by decide) rfl
  have c15 := cs 15 (by decide) (by decide) (by decide) rfl
  have c40 := cs 40 (by decide) (by decide) (by decide) rfl
  have c41 := cs 41 (by decide) (by decide) (by decide) rfl
  have c42 := cs 42 (by decide) (by decide) (by decide) rfl
  have c44 := cs 44 (by decide) (by decide) (by decide) rfl
  have f15 : s 6 15 = w 6 15 := ko 6 15 rfl rfl
  have hDD : ∃ D : Nat, (s 6 5).toInt = (D : Int) ∧ (σ' 0 37).toInt = (D : Int) ∧ D ≤ 16000 := by
    by_cases c : ext
    · have := gx c
      have := hcl.1 c
      exact ⟨D, by omega, by rw [gx c]; exact hD2, hD3⟩
    · have := gn c
      have := hcl.2 c
      exact ⟨(D + cells).toNat, by omega, by omega, by omega⟩
  have y1' : ∀ j, j < S → -1 ≤ (s 41 ((s 44 j).toInt.toNat)).toInt ∧ (s 41 ((s 44 j).toInt.toNat)).toInt ≤ 9 := fun j hj => by rw [c41, c44]; exact y1 j hj
  have hT' := hT
  obtain ⟨t1, t2, t3, t4, t5, t6⟩ := hT'.2.2.2.1 u hu ku
  have ho3 := hO.2.2.1
  have ho4 := hO.2.2.2.1.1
  rcases hq with hr | ⟨r, hrm, hr⟩
  · obtain ⟨hm, ed⟩ := hd0 hr
    have hl := hlm hr
    obtain ⟨em, σ1, hd, k1, r15, r16, r10, r11, r12, ⟨r12n, r12b⟩, r13, r13n, r17, r17n⟩ := g0 hr
    obtain ⟨n67, nd, n51, n57, n38, n39, nby⟩ := fnw.1 hr
    have nn := dcf_n hd
    have kx : ∀ c, c ≠ 0 → c ≠ 10 → c ≠ 11 → c ≠ 12 → c ≠ 13 → c ≠ 15 → c ≠ 16 → c ≠ 17 → σ' c = σ1 c := fun c h0 h1 h2 h3 h4 h5 h6 h7 => funext (fun j => k1 c j (by
      simp only [List.contains_cons, List.contains_nil, Bool.or_false, Bool.or_eq_false_iff, beq_eq_false_iff_ne, ne_eq, Prod.mk.injEq, not_and]
      omega) (by
      simp only [List.contains_cons, List.contains_nil, Bool.or_false, Bool.or_eq_false_iff, beq_eq_false_iff_ne, ne_eq]
      omega))
    have gs : ∀ c, c ≠ 0 → c ≠ 9 → c ≠ 13 → c ≠ 14 → c ≠ 21 → c ≠ 18 → c ≠ 19 → c ≠ 20 → c ≠ 10 → c ≠ 11 → c ≠ 12 → c ≠ 15 → c ≠ 16 → c ≠ 17 → σ' c = σ c := fun c b0 b9 b13 b14 b21 b18 b19 b20 b10 b11 b12 b15 b16 b17 => (kx c b0 b10 b11 b12 b13 b15 b16 b17).trans (nn c b0 b9 b13 b14 b21 b18 b19 b20)
    have q1 : σ' 1 = σ 1 := gs 1 (by decide) (by decide) (by decide) (by decide) (by decide) (by decide) (by decide) (by decide) (by decide) (by decide) (by decide) (by decide) (by decide) (by decide)
    have q2 : σ' 2 = σ 2 := gs 2 (by decide) (by decide) (by decide) (by decide) (by decide) (by decide) (by decide) (by decide) (by decide) (by decide) (by decide) (by decide) (by decide) (by decide)
    have q3 : σ' 3 = σ 3 := gs 3 (by decide) (by decide) (by decide) (by decide) (by decide) (by decide) (by decide) (by decide) (by decide) (by decide) (by decide) (by decide) (by decide) (by decide)
    have q4 : σ' 4 = σ 4 := gs 4 (by decide) (by decide) (by decide) (by decide) (by decide) (by decide) (by decide) (by decide) (by decide) (by decide) (by decide) (by decide) (by decide) (by decide)
    have q6 : σ' 6 = σ 6 := gs 6 (by decide) (by decide) (by decide) (by decide) (by decide) (by decide) (by decide) (by decide) (by decide) (by decide) (by decide) (by decide) (by decide) (by decide)
    have q31 : σ' 31 = σ 31 := gs 31 (by decide) (by decide) (by decide) (by decide) (by decide) (by decide) (by decide) (by decide) (by decide) (by decide) (by decide) (by decide) (by decide) (by decide)
    have q32 : σ' 32 = σ 32 := gs 32 (by decide) (by decide) (by decide) (by decide) (by decide) (by decide) (by decide) (by decide) (by decide) (by decide) (by decide) (by decide) (by decide) (by decide)
    have q34 : σ' 34 = σ 34 := gs 34 (by decide) (by decide) (by decide) (by decide) (by decide) (by decide) (by decide) (by decide) (by decide) (by decide) (by decide) (by decide) (by decide) (by decide)
    have q35 : σ' 35 = σ 35 := gs 35 (by decide) (by decide) (by decide) (by decide) (by decide) (by decide) (by decide) (by decide) (by decide) (by decide) (by decide) (by decide) (by decide) (by decide)
    have e53 : σ' 0 53 = σ 0 53 := (k1 0 53 rfl rfl).trans (hd.1 0 53 rfl rfl)
    have hd' := hd
    obtain ⟨_, _, _, _, d9, _, d14, d21, _, _, _, _⟩ := hd'
    have g9 : σ' 9 = σ1 9 := kx 9 (by decide) (by decide) (by decide) (by decide) (by decide) (by decide) (by decide) (by decide)
    have g14 : σ' 14 = σ1 14 := kx 14 (by decide) (by decide) (by decide) (by decide) (by decide) (by decide) (by decide) (by decide)
    have g21 : σ' 21 = σ1 21 := kx 21 (by decide) (by decide) (by decide) (by decide) (by decide) (by decide) (by decide) (by decide)
    have g18 : σ' 18 = σ1 18 := kx 18 (by decide) (by decide) (by decide) (by decide) (by decide) (by decide) (by decide) (by decide)
    have g19 : σ' 19 = σ1 19 := kx 19 (by decide) (by decide) (by decide) (by decide) (by decide) (by decide) (by decide) (by decide)
    have g20 : σ' 20 = σ1 20 := kx 20 (by decide) (by decide) (by decide) (by decide) (by decide) (by decide) (by decide) (by decide)
    have hns := ns_new hT hu ku nby hd hO.2.2.2.2.1.2.2.2.2.2.1 g18 g19 g20 q1 q3 q4
    have n1 : ¬ FLq s d 1 := fun h => (fl1.1 h).1 hr
    have n8 : ¬ FLq s d 8 := fun h => (fl8.1 h).1 hr
    have eot : otk s m = u := by
      unfold otk
      rw [n38, if_pos rfl]
      rfl
    rw [em]
    refine ⟨tk_fr hT c1 c13 c14 c15 q1 q2 q3 q4 q6, lo_fr hL c40 c41 c42 c44 f15 q31 q32 q34 q35 e53, ou_add (u := u) hO hm hl n67 (by rw [n51]; omega) (by rw [n57]; omega) ⟨by omega, by omega⟩ (fun j hj => by rw [n38, if_neg (by omega)]) (fun j hj => by rw [n39, if_neg (by omega)]) (fun j hj => fj j (by rw [ed]; exact hj)) hd k1 (fun j hj => by rw [r10, if_neg hj]) (fun j hj => by rw [r11, if_neg hj]) r12 r13 (fun j _ => by rw [r15]) (fun x _ => by rw [r16]) r17 ?_, hDD, y1', fun i hi => ?_⟩
    · rw [← ed]
      unfold ORR
      rw [eot, n38, if_pos rfl, f26, f27a (Or.inl hr), h11, h12, g9, g14, g21, d9, d14, d21, r10, r11, n39, if_pos rfl, if_pos rfl, if_pos rfl, if_pos rfl, if_pos rfl, if_pos rfl]
      refine ⟨by omega, hu, ku, hns, ⟨fun h => absurd h n1, fun h => absurd rfl h⟩, Or.inl rfl, rfl, ⟨fun h => absurd h n8, fun h => absurd rfl h⟩, fun _ => rfl, fun h => absurd h n1, Iff.rfl, ?_, ?_, fun _ h => ?_, fun _ => hkn, fun h => absurd h n1, r12b, fun _ h => ?_⟩
      · rw [fl2, r12n, hst]
        exact ⟨fun h => h.elim (fun h => absurd hr h.1) id, Or.inr⟩
      · rw [fl4, r13n]
        constructor
        · rintro (h | h)
          · exact absurd hr h.1
          · exact fun hx => (hext.2 hx) h
        · intro h
          exact Or.inr (Decidable.byContradiction (fun hx => h (hext.1 hx)))
      · have h2 : stc := (fl2.1 h).elim (fun h => absurd hr h.1) hst.1
        exact fl4.2 (Or.inr (Decidable.byContradiction (fun hx => hse h2 (hext.1 hx))))
      · have nx : ¬ ext := r13n.1 h
        rw [f28 (Decidable.byContradiction (fun hx => nx (hext.1 hx))), r17n nx]
        exact ieq (by omega)
    · have eb : (s 5 1).toInt.toNat - (m + 1) = (w 5 1).toInt.toNat - m := by omega
      rw [eb]
      by_cases ci : i = m
      · rw [ci, show (w 5 1).toInt.toNat - m + m = d from by omega, f26, h11]
        omega
      · rw [(fj _ (by omega)).2.1]
        exact y2 i (by omega)
  · have hne : ¬ rr = -1 := by omega
    obtain ⟨_, ed⟩ := hd1 r hr
    obtain ⟨em, k1, r11, r11e, r13, r13e, r17, r17e, r17x⟩ := g1 r hr
    obtain ⟨n67, n51, n57, n38, n39⟩ := fnw.2 hne
    have jn := hjn r hr
    have hO6 := hO.2.2.2.2.2 r hrm
    rw [← ed] at hO6
    obtain ⟨p1, p2, p3, p4, p5, p6, p7, p8, p9, p10, p11, p12, p13, p14, p15, p16⟩ := hO6
    obtain ⟨⟨j1, j2, j3⟩, j4, ⟨j5, j6⟩, j7⟩ := jn
    have gs : ∀ c, c ≠ 0 → c ≠ 11 → c ≠ 13 → c ≠ 17 → σ' c = σ c := fun c h0 h1 h2 h3 => funext (fun j => k1 c j (by
      simp only [List.contains_cons, List.contains_nil, Bool.or_false, Bool.or_eq_false_iff, beq_eq_false_iff_ne, ne_eq, Prod.mk.injEq, not_and]
      omega) (by
      simp only [List.contains_cons, List.contains_nil, Bool.or_false, Bool.or_eq_false_iff, beq_eq_false_iff_ne, ne_eq]
      omega))
    have e53 : σ' 0 53 = σ 0 53 := k1 0 53 rfl rfl
    have n1 : ¬ FLq s d 1 := fun h => j1 (fl1.1 h).2
    have eot : otk s r = otk w r := by unfold otk; rw [n38]
    rw [em]
    refine ⟨tk_fr hT c1 c13 c14 c15 (gs 1 (by decide) (by decide) (by decide) (by decide)) (gs 2 (by decide) (by decide) (by decide) (by decide)) (gs 3 (by decide) (by decide) (by decide) (by decide)) (gs 4 (by decide) (by decide) (by decide) (by decide)) (gs 6 (by decide) (by decide) (by decide) (by decide)), lo_fr hL c40 c41 c42 c44 f15 (gs 31 (by decide) (by decide) (by decide) (by decide)) (gs 32 (by decide) (by decide) (by decide) (by decide)) (gs 34 (by decide) (by decide) (by decide) (by decide)) (gs 35 (by decide) (by decide) (by decide) (by decide)) e53, ou_upd (i := r) hO hrm n67 n51 n57 n38 n39 (fun j hj => fj j (by rw [ed]; exact hj)) k1 r11 r13 r17 ?_, hDD, y1', fun i hi => ?_⟩
    · rw [← ed]
      have e27 : s 27 d = σ' 11 (lo + r) ∨ (s 27 d).toInt = (σ' 11 (lo + r)).toInt := by
        by_cases c : 0 < (w 8 12).toInt
        · refine Or.inl ?_
          rw [f27a (Or.inr c), r11e, h12, if_pos (by rw [← h12]; exact c)]
        · refine Or.inr ?_
          rw [f27b hne c, r11e, if_neg (by rw [← h12]; exact c)]
          exact p9 j1
      have e27' : (s 27 d).toInt = (σ' 11 (lo + r)).toInt := e27.elim (fun h => by rw [h]) id
      have g27 : -1 ≤ (s 27 d).toInt := by
        by_cases c : 0 < (w 8 12).toInt
        · rw [f27a (Or.inr c)]; omega
        · rw [f27b hne c]; exact p15 j1
      have nst : ¬ FLq s d 2 := fun h => (fl2.1 h).elim (fun h => j6 h.2) (fun h => j5 h)
      unfold ORR NSm
      rw [eot, n38, n39, f26, gs 1 (by decide) (by decide) (by decide) (by decide), gs 3 (by decide) (by decide) (by decide) (by decide), gs 4 (by decide) (by decide) (by decide) (by decide), gs 9 (by decide) (by decide) (by decide) (by decide), gs 10 (by decide) (by decide) (by decide) (by decide), gs 12 (by decide) (by decide) (by decide) (by decide), gs 14 (by decide) (by decide) (by decide) (by decide), gs 15 (by decide) (by decide) (by decide) (by decide), gs 16 (by decide) (by decide) (by decide) (by decide), gs 18 (by decide) (by decide) (by decide) (by decide), gs 19 (by decide) (by decide) (by decide) (by decide), gs 20 (by decide) (by decide) (by decide) (by decide), gs 21 (by decide) (by decide) (by decide) (by decide)]
      refine ⟨p1, p2, p3, p4, ⟨fun h => absurd h n1, fun h => absurd (p5.2 h) j1⟩, p6, by rw [← p7, j2], ?_, fun _ => e27', fun h => absurd h n1, p11, ⟨fun h => absurd h nst, fun h => absurd (p12.2 h) j6⟩, ?_, fun _ h => absurd h nst, fun _ => g27, fun h => absurd h n1, p16.2.1, fun h9 h => ?_⟩
      · rw [fl8, ← p8]
        exact ⟨fun h => h.2, fun h => ⟨hne, h⟩⟩
      · rw [fl4, r13e, ← p13]
        constructor
        · rintro (h | h)
          · exact Or.inr h.2
          · exact Or.inl (fun hx => (hext.2 hx) h)
        · rintro (h | h)
          · exact Or.inr (Decidable.byContradiction (fun hx => h (hext.1 hx)))
          · exact Or.inl ⟨hne, h⟩
      · by_cases cx : ext
        · have o13 : (σ 13 (lo + r)).toInt ≠ 0 := (r13e.1 h).elim (fun h => absurd cx h) id
          rw [f28b hne (hext.2 cx), r17x cx]
          exact p16.2.2 h9 o13
        · rw [f28 (Decidable.byContradiction (fun hx => cx (hext.1 hx))), r17e cx]
          exact ieq (by omega)
    · rw [n51]
      by_cases ci : (w 5 1).toInt.toNat - m + i = d
      · rw [ci, f26, h11]
        omega
      · rw [(fj _ ci).2.1]
        exact y2 i hi
end GDT
