/-! both sides: numbers, strings, names -/
section RAU
variable {w σ σ' s r τ t : St} {kd : Nat → Int} {n S m lo u v c p j : Nat} {l l2 : List Stq} {Q Q2 : St → Prop} {B B2 : Prop} {K T H Z F I : Int} {X : Int32}
theorem bd_of (h0 : (σ 0 12).toInt = 0) (hf : FTq σ σ' B) (hb : B) (hF : F ≠ 1) : BDr σ σ' F := by
  unfold BDr
  by_cases q : (σ 0 15).toInt ≤ 0
  · exact Or.inl ⟨q, hf.2.2 (Or.inr ⟨hb, q⟩)⟩
  · exact Or.inr ⟨by omega, hF⟩
theorem nbq_of (h0 : (σ 0 12).toInt = 0) (hf : FTq σ σ' B) (hb : ¬ B) : (σ' 0 12).toInt = 0 := by
  by_cases q : (σ' 0 12).toInt = 0
  · exact q
  · rcases hf.2.1 q with h | h
    · exact absurd h0 h
    · exact absurd h.1 hb
theorem ex_number (hp : p ≤ n) (hk : kd p = 3) (hc : c < 500) (hr : KPr σ σ') (e12 : σ' 0 12 = σ 0 12) : EXq kd n S m lo c [stp 1 p] σ σ' 0 0 1 (if (σ 6 p).toInt = 0 then 1 else 0) 1 (σ 6 p) := by
  intro h0 w hR hf hc7
  refine xw_one (fun _ => xk_number (fun a ha => xt_number hc7 hc (v := σ 6 p) ?_ (fun s ks e6 e7 hA => ⟨fun hx => absurd (by rw [e6]; exact hf) hx, fun _ => ⟨by rw [e12]; exact h0, by decide, by decide, re_xk hR ks hr, ste_x ks, e7, 0, hA⟩⟩))) (fun hx => absurd hf hx)
  rw [← hR.1.2.2.2.2.1 p hp hk]
  exact atv_at ha (by have := hR.1.1.1; omega)
theorem ex_string {D : Nat} (hp : p ≤ n) (hk : kd p = 4) (hc : c < 500) (hr : KEr σ σ') (e14 : σ' 14 = σ 14) (e21 : σ' 21 = σ 21) (hD : (σ 0 37).toInt = (D : Int)) (hf : FTq σ σ' (16000 < (D : Int) + (σ 6 p).toInt + 1)) (e37 : (σ' 0 37).toInt = (if 16000 < (D : Int) + (σ 6 p).toInt + 1 then (D : Int) else (D : Int) + (σ 6 p).toInt + 1)) : EXq kd n S m lo c [stp 2 p] σ σ' 0 1 1 0 2 0 := by
  intro h0 w hR hfw hc7
  obtain ⟨D', d1, d2, d3⟩ := hR.2.2.2.1
  obtain ⟨t1, t2, t3⟩ := hR.1.2.2.2.2.2 p hp hk
  refine xw_one (fun _ => xk_string (fun a ha => xt_string hc7 hc hfw ha (by have := hR.1.1.1; omega) ⟨t2, t3⟩ d1 (by omega) (fun s ks e7 eD hA ef => ?_))) (fun hx => absurd hfw hx)
  rw [t1] at eD ef
  refine ⟨fun hx => bd_of h0 hf (by have := ef.1 hx; omega) (by decide), fun hx => ?_⟩
  have hn : ¬ 16000 < (D : Int) + (σ 6 p).toInt + 1 := fun hy => ef.2 (by omega) hx
  rw [if_neg hn] at e37
  refine ⟨nbq_of h0 hf hn, by decide, by decide, ?_, ste_s ks, e7, 0, hA⟩
  refine re_up hR (ste_s ks) hr (fun i hi => ⟨⟨fl_eq (s25 ks), fl_eq (s25 ks), fl_eq (s25 ks)⟩, (fl_eq (s25 ks)).trans ?_, ?_⟩) ⟨((D : Int) + (σ 6 p).toInt + 1).toNat, by omega, by omega, by omega⟩
  · rw [e14]
    obtain ⟨_, _, _, _, _, _, _, q8, _⟩ := hR.2.2.1.2.2.2.2.2 i hi
    exact q8
  · rw [s39 ks, e21]
    obtain ⟨_, _, _, _, _, _, _, _, _, _, q9⟩ := hR.2.2.1.2.2.2.2.2 i hi
    exact q9.1
theorem lf_one {a b : Int} (h : LFm σ S u a) (g : LFm σ S u b) : a = b := by
  rcases h with ⟨j, j1, j2, j3, j4⟩ | ⟨j1, j2⟩
  · rcases g with ⟨i, i1, i2, i3, i4⟩ | ⟨i1, i2⟩
    · by_cases q : i = j
      · rw [j4, i4, q]
      · by_cases q2 : i < j
        · exact absurd j2 (i3 j q2 j1)
        · exact absurd i2 (j3 i (by omega) i1)
    · exact absurd j2 (i1 j j1)
  · rcases g with ⟨i, i1, i2, i3, i4⟩ | ⟨i1, i2⟩
    · exact absurd i2 (j1 i i1)
    · rw [j2, i2]
theorem ef_one {a b : Int} (h : EFm σ lo n u a) (g : EFm σ lo n u b) : a = b := by
  rcases h with ⟨j, j0, j1, j2, j3, j4⟩ | ⟨j1, j2⟩
  · rcases g with ⟨i, i0, i1, i2, i3, i4⟩ | ⟨i1, i2⟩
    · by_cases q : i = j
      · rw [j4, i4, q]
      · by_cases q2 : i < j
        · exact absurd i2 (j3 i i0 q2)
        · exact absurd j2 (i3 j j0 (by omega))
    · exact absurd j2 (i1 j j0 j1)
  · rcases g with ⟨i, i0, i1, i2, i3, i4⟩ | ⟨i1, i2⟩
    · exact absurd i2 (j1 i i0 i1)
    · rw [j2, i2]
theorem or_81 (x : Int32) : ((x ||| (8 : Int32)) &&& (1 : Int32)) = x &&& (1 : Int32) := by
  have key : ∀ i : Nat, i < 32 → ((Int32.toBitVec 8).getLsbD i && (Int32.toBitVec 1).getLsbD i) = false := by decide
  apply Int32.toBitVec_inj.mp
  simp only [Int32.toBitVec_and, Int32.toBitVec_or]
  apply BitVec.eq_of_getLsbD_eq
  intro i hi
  have k := key i hi
  simp only [BitVec.getLsbD_and, BitVec.getLsbD_or]
  revert k
  generalize (Int32.toBitVec 8).getLsbD i = a
  generalize (Int32.toBitVec 1).getLsbD i = b
  generalize x.toBitVec.getLsbD i = d
  cases a <;> cases b <;> cases d <;> decide
theorem or_82 (x : Int32) : ((x ||| (8 : Int32)) &&& (2 : Int32)) = x &&& (2 : Int32) := by
  have key : ∀ i : Nat, i < 32 → ((Int32.toBitVec 8).getLsbD i && (Int32.toBitVec 2).getLsbD i) = false := by decide
  apply Int32.toBitVec_inj.mp
  simp only [Int32.toBitVec_and, Int32.toBitVec_or]
  apply BitVec.eq_of_getLsbD_eq
  intro i hi
  have k := key i hi
  simp only [BitVec.getLsbD_and, BitVec.getLsbD_or]
  revert k
  generalize (Int32.toBitVec 8).getLsbD i = a
  generalize (Int32.toBitVec 2).getLsbD i = b
  generalize x.toBitVec.getLsbD i = d
  cases a <;> cases b <;> cases d <;> decide
theorem or_84 (x : Int32) : ((x ||| (8 : Int32)) &&& (4 : Int32)) = x &&& (4 : Int32) := by
  have key : ∀ i : Nat, i < 32 → ((Int32.toBitVec 8).getLsbD i && (Int32.toBitVec 4).getLsbD i) = false := by decide
  apply Int32.toBitVec_inj.mp
  simp only [Int32.toBitVec_and, Int32.toBitVec_or]
  apply BitVec.eq_of_getLsbD_eq
  intro i hi
  have k := key i hi
  simp only [BitVec.getLsbD_and, BitVec.getLsbD_or]
  revert k
  generalize (Int32.toBitVec 8).getLsbD i = a
  generalize (Int32.toBitVec 4).getLsbD i = b
  generalize x.toBitVec.getLsbD i = d
  cases a <;> cases b <;> cases d <;> decide
theorem or_88 (x : Int32) : ((x ||| (8 : Int32)) &&& (8 : Int32)) = 8 := by
  apply Int32.toBitVec_inj.mp
  simp only [Int32.toBitVec_and, Int32.toBitVec_or]
  apply BitVec.eq_of_getLsbD_eq
  intro i hi
  simp only [BitVec.getLsbD_and, BitVec.getLsbD_or]
  generalize (Int32.toBitVec 8).getLsbD i = a
  generalize x.toBitVec.getLsbD i = d
  cases a <;> cases d <;> decide
theorem ex_named (hp : p ≤ n) (hk : kd p = 2) (hc : c < 500) (hr : KEr σ σ') (hN : NRq σ σ' S lo (lo + m) p K T F I B) (hf : FTq σ σ' B) (e37 : σ' 0 37 = σ 0 37) (e21 : σ' 21 = σ 21) : EXq kd n S m lo c [stp 3 p] σ σ' K T 1 0 F 0 := by
  intro h0 w hR hfw hc7
  have hR' := hR
  obtain ⟨hT, hL, hO, hD, y1, y2⟩ := hR'
  obtain ⟨oi1, oi2⟩ := ou_alike hT hO hp hk
  have lal : ∀ {v : Int}, LFq w S 0 p v ↔ LFm σ S p v := lo_alike hT hL hp hk
  refine xw_one (fun _ => xk_named (fun a ha => xt_named (S := S) (n := m) hc7 hc hfw ha (tn_class hT (by have := hT.1.1; omega) hp hk) (lo_class hT hL) (ou_class hT hO) ⟨y1, y2⟩ ?_ ?_ ?_)) (fun hx => absurd hfw hx)
  · intro s v hl hv ks e6 e7 hA
    have hl' := lal.1 hl
    refine ⟨fun hx => absurd (by rw [e6]; exact hfw) hx, fun _ => ?_⟩
    rcases hN with ⟨v', g1, g2, g3, g4, g5, g6, g7⟩ | ⟨g1, _⟩ | ⟨g1, _⟩
    · obtain rfl : v = v' := by have := lf_one hl' g1; omega
      obtain ⟨j', j1, j2⟩ := lf_in hl
      obtain ⟨z1, z2⟩ := hL.2.2.2.2 j' j1
      have yv := y1 j' j1
      rw [j2] at z1 z2 yv
      have eK : (if (w 42 v).toInt < 0 then (1 : Int) else 0) = K := by rw [g3]; (repeat' split) <;> omega
      have eT : (if (w 42 v).toInt < 0 then (w 41 v).toInt else (w 41 v).toInt + 1) = T := by rw [g4]; (repeat' split) <;> omega
      rw [eK, eT] at hA
      have hT2 : T ≠ -2 := by rw [← eT]; split <;> omega
      rw [g5]
      exact ⟨nbq_of h0 hf g2, hT2, by decide, re_xk hR ks ⟨hr, g7, e37, e21⟩, ste_x ks, e7, v, hA⟩
    · have := lf_one hl' g1; omega
    · have := lf_one hl' g1; omega
  · intro s r hl ho dn hdn hdn9 hfl ks e6 e7 e39 e25 hA
    have hl' := lal.1 hl
    obtain ⟨hrm, he⟩ := (oi2 r).1 ho
    have ed : dn = (w 5 1).toInt.toNat - m + r := by have := hO.2.2.1; omega
    have orr := hO.2.2.2.2.2 r hrm
    rw [← ed] at orr
    obtain ⟨q1, q2, q3, q4, q5, q5b, q6, q7, q8, q9⟩ := orr
    have nf : ¬ FLq w dn 1 := fun hx => hx hfl
    refine ⟨fun hx => absurd (by rw [e6]; exact hfw) hx, fun _ => ?_⟩
    rcases hN with ⟨v', g1, _⟩ | ⟨g1, e, g2, g3, g4, g5, g6, g7, g8, g9⟩ | ⟨g1, g2, _⟩
    · have h1 := lf_one hl' g1; omega
    · obtain rfl : e = lo + r := by have := ef_one he g2; omega
      have yv := y2 r hrm
      rw [← ed] at yv
      have q8' := q8 nf
      have eK : (if (w 27 dn).toInt < 0 then (2 : Int) else 0) = K := by rw [g5]; (repeat' split) <;> omega
      have eT : (if (w 27 dn).toInt < 0 then (w 26 dn).toInt else (w 26 dn).toInt + 1) = T := by rw [g6]; (repeat' split) <;> omega
      have eF : (if (w 27 dn).toInt < 0 then (0 : Int) else 2) = F := by rw [g7]; (repeat' split) <;> omega
      rw [eK, eT, eF] at hA
      have hT2 : T ≠ -2 := by rw [← eT]; split <;> omega
      refine ⟨nbq_of h0 hf g4, hT2, by decide, re_up hR (ste_y ks) hr (fun i hi => ?_) (by rw [y65 ks, e37]; exact hD), ste_y ks, e7, dn, hA⟩
      obtain ⟨_, _, _, _, _, _, _, p8, _, _, p9⟩ := hO.2.2.2.2.2 i hi
      rw [e39, e21]
      by_cases q : i = r
      · subst q
        rw [← ed] at p8 ⊢
        unfold FLq
        rw [e25, if_pos rfl, or_81, or_82, or_84, or_88, g9, if_pos rfl]
        exact ⟨⟨Iff.rfl, Iff.rfl, Iff.rfl⟩, ⟨fun _ => by decide, fun _ => by decide⟩, p9.1⟩
      · have hm := hO.2.2.1
        unfold FLq
        rw [e25, if_neg (by omega), g9, if_neg (by omega)]
        exact ⟨⟨Iff.rfl, Iff.rfl, Iff.rfl⟩, p8, p9.1⟩
    · exfalso
      rcases g2 with g2 | ⟨e, g2, g3⟩
      · have := ef_one he g2; omega
      · obtain rfl : e = lo + r := by have := ef_one he g2; omega
        exact nf (q5.2 g3)
  · intro s hb hfs
    refine ⟨fun _ => ?_, fun hx => absurd hx hfs⟩
    obtain ⟨hl, hb⟩ := hb
    have hl' := lal.1 hl
    rcases hN with ⟨v', g1, _⟩ | ⟨g1, e, g2, g3, _⟩ | ⟨g1, g2, g3, g4, g5, g6, g7⟩
    · have h1 := lf_one hl' g1; omega
    · exfalso
      rcases hb with hb | ⟨r, hb, hfl⟩
      · have := ef_one (oi1.1 hb) g2; omega
      · obtain ⟨hrm, he⟩ := (oi2 r).1 hb
        obtain rfl : e = lo + r := by have := ef_one he g2; omega
        obtain ⟨q1, q2, q3, q4, q5, _⟩ := hO.2.2.2.2.2 r hrm
        have := hO.2.2.1
        exact q5.1 (hfl _ (by omega)) g3
    · exact bd_of h0 hf g3 (by rw [g6]; decide)
end RAU
