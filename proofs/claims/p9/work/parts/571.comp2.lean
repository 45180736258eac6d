/-! compile -/
abbrev KMi (σ s : St) : Prop := Kp [(0, 1), (0, 2), (0, 9), (0, 10), (0, 8), (0, 12), (0, 13), (0, 14), (0, 15), (0, 37), (0, 71), (0, 72), (0, 73), (0, 74), (0, 81), (0, 86), (0, 88), (0, 89), (0, 91), (0, 92), (0, 93), (0, 94), (0, 95), (0, 96), (0, 97), (0, 98)] [1, 45, 42, 44, 46, 47, 48, 49, 50, 51, 52, 53] σ s
section CMR
variable {σ σ1 s S τ t : St} {vs z : List Nat}
theorem arg_km (h : ARG σ τ) (k : KMi σ S) : ARG S τ := by
  obtain ⟨⟨t1, t2⟩, a1, a2, a3, a4, a5, a6, a7, a8, b1, b2, b3, hV⟩ := h
  have e3 : (S 3) = (σ 3) := funext (fun j => k 3 j rfl rfl)
  have e4 : (S 4) = (σ 4) := funext (fun j => k 4 j rfl rfl)
  have e34 : (S 34) = (σ 34) := funext (fun j => k 34 j rfl rfl)
  have e35 : (S 35) = (σ 35) := funext (fun j => k 35 j rfl rfl)
  have e15 : (S 15) = (σ 15) := funext (fun j => k 15 j rfl rfl)
  have e18 : (S 18) = (σ 18) := funext (fun j => k 18 j rfl rfl)
  have e19 : (S 19) = (σ 19) := funext (fun j => k 19 j rfl rfl)
  have e31 : (S 31) = (σ 31) := funext (fun j => k 31 j rfl rfl)
  have e10 : (S 10) = (σ 10) := funext (fun j => k 10 j rfl rfl)
  have e9 : (S 9) = (σ 9) := funext (fun j => k 9 j rfl rfl)
  have e32 : (S 32) = (σ 32) := funext (fun j => k 32 j rfl rfl)
  have e16 : (S 16) = (σ 16) := funext (fun j => k 16 j rfl rfl)
  have e17 : (S 17) = (σ 17) := funext (fun j => k 17 j rfl rfl)
  have e21 : (S 21) = (σ 21) := funext (fun j => k 21 j rfl rfl)
  refine ⟨⟨by rw [e3]; exact t1, by rw [e4]; exact t2⟩, by rw [e34]; exact a1, by rw [e35]; exact a2, by rw [e21]; exact a3, by rw [e15]; exact a4, ?_, by rw [e31]; exact a6, by rw [e10]; exact a7, ?_, by rw [e17]; exact b1, by rw [e16]; exact b2, by rw [e32]; exact b3, hV⟩
  · unfold NMo; rw [e18, e19]; exact a5
  · unfold VTy; rw [e9, e10]; exact a8
theorem old_km (k : KMi σ s) : OLD σ s ∧ OLK σ s := by
  have e17 : (s 0 17) = (σ 0 17) := k _ _ rfl rfl
  have e45 : (s 0 45) = (σ 0 45) := k _ _ rfl rfl
  have e35 : (s 0 35) = (σ 0 35) := k _ _ rfl rfl
  refine ⟨⟨fun o _ => ⟨k 22 o rfl rfl, k 24 o rfl rfl⟩, fun o _ => k 23 o rfl rfl, fun e _ => ⟨k 9 e rfl rfl, k 10 e rfl rfl, k 15 e rfl rfl, k 12 e rfl rfl, fun q => by rw [k 14 e rfl rfl]; exact q, k 13 e rfl rfl, k 17 e rfl rfl⟩, ⟨fun j _ => k 8 j rfl rfl, fun b _ => ⟨k 26 b rfl rfl, k 27 b rfl rfl, k 28 b rfl rfl, k 29 b rfl rfl, k 30 b rfl rfl, k 54 b rfl rfl⟩, fun j _ => k 25 j rfl rfl⟩, by rw [e17]; exact Int.le_refl _, by rw [e45]; exact Int.le_refl _, by rw [e35]; exact Int.le_refl _⟩, funext (fun j => k 43 j rfl rfl), funext (fun j => k 41 j rfl rfl), k _ _ rfl rfl, k _ _ rfl rfl⟩
/-- what touches nothing that links and objects stand on -/
theorem gi_misc (h : GLI σ τ vs) (k : KMi σ s) (hn : NUG s vs) (hm : MIS s) : GLI s τ vs := by
  obtain ⟨o1, o2⟩ := old_km k
  have e36 : (s 0 36) = (σ 0 36) := k _ _ rfl rfl
  have e39 : (s 0 39) = (σ 0 39) := k _ _ rfl rfl
  have e35 : (s 0 35) = (σ 0 35) := k _ _ rfl rfl
  have e67 : (s 0 67) = (σ 0 67) := k _ _ rfl rfl
  have e22 : (s 22) = (σ 22) := funext (fun j => k 22 j rfl rfl)
  have e24 : (s 24) = (σ 24) := funext (fun j => k 24 j rfl rfl)
  have e40 : (s 40) = (σ 40) := funext (fun j => k 40 j rfl rfl)
  obtain ⟨h1, h2, h3, h4, h5, h6, h7⟩ := h
  refine ⟨hn, by unfold ENG; rw [e36, e39, e35, e22, e24]; exact h2, arg_km h3 k, fun o ho => obj_old o1 h2 h4 (by rw [← e35]; exact ho), by unfold PCK; rw [e67, e35, e40]; exact h5, lnk_old o1 o2 h2 h4 h6, hm⟩
theorem sp_compile {a : Int32} {Q : Int32 → St → St → List Nat → Prop} (h : GLI σ τ vs) (hF : (σ 0 2).toInt ≤ 10240) (k : ∀ r s t z, GLI s t z → (s 0 1).toInt = 0 → (s 0 2) = (σ 0 2) → Q r s t z) : wp_compile a σ τ vs Q := by
  have h9 := h
  obtain ⟨⟨⟨t1, t2⟩, ⟨o1, o2⟩, ⟨n1, n2⟩, ⟨w1, w2⟩, ⟨i1, i2⟩, v1, ⟨b1, b2⟩⟩, hE, hA, hO, hP, hL, hM⟩ := h9
  have z0 : (0 : Int32).toInt = 0 := by decide
  have early : ∀ r, Q r (upC (upC (upC σ 0 9 (σ 0 1)) 0 1 (0 : Int32)) 0 14 ((-1) : Int32)) τ vs := fun r => by
    refine k _ _ _ _ (gi_misc h (kp_f (kp_f (kp_f kp_rf rfl) rfl) rfl) ?_ hM) z0 rfl
    refine ⟨?_, ⟨o1, o2⟩, ⟨n1, ?_⟩, ⟨w1, ?_⟩, ⟨i1, ?_⟩, ?_, ⟨b1, ?_⟩⟩
    · show 0 ≤ (0 : Int32).toInt ∧ (0 : Int32).toInt ≤ 16000
      omega
    · show (σ 0 31).toInt + (0 : Int32).toInt ≤ (σ 0 2).toInt
      omega
    · show (σ 0 17).toInt + 40 * (0 : Int32).toInt ≤ 40 * (σ 0 2).toInt
      omega
    · show (σ 0 39).toInt + 12 * (0 : Int32).toInt ≤ 12 * (σ 0 2).toInt
      omega
    · show (vs.length : Int) + 2 * (0 : Int32).toInt ≤ 2 * (σ 0 2).toInt
      omega
    · show 2 * (σ 0 45).toInt + (0 : Int32).toInt ≤ (σ 0 2).toInt
      omega
  unfold wp_compile
  refine ⟨fun _ => early _, fun _ => ⟨fun _ => early _, fun _ => ⟨fun ho => ?_, fun _ => early _⟩⟩⟩
  have ho' : (σ 0 35).toInt < 100 := by omega
  refine ⟨by omega, by omega, ?_⟩
  generalize h0 : (upC (upC (upC (upC (upC (upC (upC (upC (upC (upC (upC σ 0 9 (σ 0 1)) 0 1 (0 : Int32)) 0 14 ((-1) : Int32)) 22 (σ 0 35).toNatClampNeg (σ 0 36)) 24 (σ 0 35).toNatClampNeg (σ 0 39)) 0 37 (0 : Int32)) 0 12 (0 : Int32)) 0 15 (0 : Int32)) 0 53 (0 : Int32)) 0 54 (0 : Int32)) 0 49 (0 : Int32)) = σ0
  have k0 : K0c σ σ0 := by
    have ka : Kp [(0, 9), (0, 1), (0, 14), (0, 37), (0, 12), (0, 15), (0, 53), (0, 54), (0, 49)] [22, 24] σ σ0 := by
      rw [← h0]
      exact kp_f (kp_f (kp_f (kp_f (kp_f (kp_f (kp_a (kp_a (kp_f (kp_f (kp_f kp_rf rfl) rfl) rfl) rfl) rfl) rfl) rfl) rfl) rfl) rfl) rfl
    intro c j q1 q2
    by_cases c22 : c = 22
    · subst c22
      rw [← h0]
      simp only [rdC, Nat.reduceEqDiff, if_true, if_false]
      by_cases e : j = (σ 0 35).toNatClampNeg
      · rw [if_pos e, e]; exact hE.1
      · rw [if_neg e]
    · by_cases c24 : c = 24
      · subst c24
        rw [← h0]
        simp only [rdC, Nat.reduceEqDiff, if_true, if_false]
        by_cases e : j = (σ 0 35).toNatClampNeg
        · rw [if_pos e, e]; exact hE.2.1
        · rw [if_neg e]
      · refine ka c j q1 ?_
        simp
        exact ⟨c22, c24⟩
  obtain ⟨rs, eF, eF2⟩ := rs0_gi (σ0 := σ0) h hF ho' k0 (by rw [← h0]; rfl) (by rw [← h0]; rfl) (by rw [← h0]; rfl) (by rw [← h0]; rfl) (by rw [← h0]; rfl) (by rw [← h0]; rfl)
  have s9 : (σ0 0 9) = (σ 0 1) := by rw [← h0]; rfl
  have s1' : (σ0 0 1) = 0 := by rw [← h0]; rfl
  have s37 : (σ0 0 37) = 0 := by rw [← h0]; rfl
  clear h0
  have nO := nt o1
  have em1 : ∀ v : Int32, v = 0 → v.toInt = 0 := fun v q => by rw [q]; exact z0
  refine sp_read0 rs (fun σ1 s t z hP1 kr il hfa hsb => ⟨fun _ => ?_, fun c => absurd c (by decide)⟩) (fun v σ1 s t z hv hP1 kr ut => ⟨fun c => by omega, fun _ => ?_⟩)
  · obtain ⟨u1, ⟨c1, c2, c3⟩, u3, u4, u5⟩ := il
    have kx : KXu σ σ1 := kp_tr (kp_sub k0 rfl rfl) (kp_sub kr rfl rfl)
    have e35 : (σ1 0 35) = (σ 0 35) := kx _ _ rfl rfl
    have e22 : (σ1 22) = (σ 22) := funext (fun j => kx 22 j rfl rfl)
    have eF1 : Fi σ1 = (σ 0 36).toInt := by
      unfold Fi
      rw [e35, e22, ← hE.1]
    have olu := olu_ur kx u1 eF1.symm
    have es : (s 0 35) = (σ 0 35) := (u1.1 0 35 rfl rfl).trans e35
    have hPs := u1.2.1
    have e1o : ((σ 0 35) + (1 : Int32)).toInt = (σ 0 35).toInt + 1 := ad1 (by omega)
    have n1o : ((σ 0 35) + (1 : Int32)).toNatClampNeg = (σ 0 35).toNatClampNeg + 1 := by rw [nt', e1o]; omega
    rw [es]
    refine ⟨by omega, by omega, by omega, ?_⟩
    generalize hS : (upC (upC (upC (upC s 23 (σ 0 35).toNatClampNeg (s 0 37)) 0 35 ((σ 0 35) + (1 : Int32))) 22 ((σ 0 35) + (1 : Int32)).toNatClampNeg (s 0 36)) 24 ((σ 0 35) + (1 : Int32)).toNatClampNeg (s 0 39)) = S
    rw [n1o] at hS
    have kz : KZu s S := by rw [← hS]; exact kp_a (kp_a (kp_f (kp_a kp_rf rfl) rfl) rfl) rfl
    have x23 : ∀ j, (S 23) j = if j = (σ 0 35).toNatClampNeg then (s 0 37) else (s 23) j := fun j => by
      rw [← hS]; simp only [rdC, Nat.reduceEqDiff, if_true, if_false]
    have x22 : ∀ j, (S 22) j = if j = (σ 0 35).toNatClampNeg + 1 then (s 0 36) else (s 22) j := fun j => by
      rw [← hS]; simp only [rdC, Nat.reduceEqDiff, if_true, if_false]
    have x24 : ∀ j, (S 24) j = if j = (σ 0 35).toNatClampNeg + 1 then (s 0 39) else (s 24) j := fun j => by
      rw [← hS]; simp only [rdC, Nat.reduceEqDiff, if_true, if_false]
    have x35 : (S 0 35) = (σ 0 35) + 1 := by rw [← hS]; rfl
    have x : ∀ j, j ≠ 35 → S 0 j = s 0 j := fun j q => by
      rw [← hS]; simp only [rdC, Nat.reduceEqDiff, if_true, if_false, if_neg q]
    clear hS
    have y22 : ∀ j, (s 22) j = (σ 22) j := fun j => (u1.1 22 j rfl rfl).trans (kx 22 j rfl rfl)
    have y23 : ∀ j, (s 23) j = (σ 23) j := fun j => (u1.1 23 j rfl rfl).trans (kx 23 j rfl rfl)
    have y24 : ∀ j, (s 24) j = (σ 24) j := fun j => (u1.1 24 j rfl rfl).trans (kx 24 j rfl rfl)
    have z1 : (S 0 1) = 0 := (x 1 (by decide)).trans ((u1.1 0 1 rfl rfl).trans ((kr 0 1 rfl rfl).trans s1'))
    have z2 : (S 0 2) = (σ 0 2) := (x 2 (by decide)).trans ((u1.1 0 2 rfl rfl).trans (kx 0 2 rfl rfl))
    have f17 : (σ1 0 17) = (σ 0 17) := kx _ _ rfl rfl
    have f39 : (σ1 0 39) = (σ 0 39) := kx _ _ rfl rfl
    have f31 : (σ1 0 31) = (σ 0 31) := kx _ _ rfl rfl
    have f45 : (σ1 0 45) = (σ 0 45) := kx _ _ rfl rfl
    have f9 : (σ1 0 9) = (σ 0 1) := (kr 0 9 rfl rfl).trans s9
    have p1 := pos_in hP1.1 hP1.2.1
    have ps := pos_in hPs.1 hPs.2.1
    have sz := ur_sz u1
    rw [f9] at sz p1
    rw [sz] at ps
    rw [f17] at c1
    rw [f39] at c2
    rw [f31] at u4
    rw [f45] at u5
    obtain ⟨hT, hAt, ⟨m1, m2, m3, m4, m5, m6, m7⟩, hAr, hV⟩ := hPs
    have eFs : Fi s = (σ 0 36).toInt := (ku_Fi u1.1).trans eF1
    have mono := u1.2.2.2.2.1
    rw [f17, f39, f45] at mono
    have e36 : (σ1 0 36) = (σ 0 36) := kx _ _ rfl rfl
    rw [e36] at mono
    have oS : (S 0 35).toInt = (σ 0 35).toInt + 1 := by rw [x35]; exact e1o
    have old : OLD σ S := by
      obtain ⟨q1, q2, q3, q4⟩ := olu_kz olu kz
      refine ⟨fun o ho9 => ⟨by rw [x22, if_neg (by omega), y22], by rw [x24, if_neg (by omega), y24]⟩, fun o ho9 => by rw [x23, if_neg (by omega), y23], q1, ⟨q2, q3, q4⟩, by rw [x 17 (by decide)]; omega, by rw [x 45 (by decide)]; omega, by omega⟩
    have olk : OLK σ S := ⟨funext (fun j => (kz 43 j rfl rfl).trans ((u1.1 43 j rfl rfl).trans (kx 43 j rfl rfl))), funext (fun j => (kz 41 j rfl rfl).trans ((u1.1 41 j rfl rfl).trans (kx 41 j rfl rfl))), (x 70 (by decide)).trans ((u1.1 0 70 rfl rfl).trans (kx 0 70 rfl rfl)), (x 78 (by decide)).trans ((u1.1 0 78 rfl rfl).trans (kx 0 78 rfl rfl))⟩
    have good := u3 hfa (by rw [ur_sil u1, show (σ1 0 15) = (σ0 0 15) from kr _ _ rfl rfl]; exact rs.2.2.2.1.1) _ (good_start (by rw [eF1, e36]) (by rw [f39]; exact i1))
    rw [f39] at good
    refine k _ S t z (gi_mk h old olk (arg_pa ⟨hT, hAt, ⟨m1, m2, m3, m4, m5, m6, m7⟩, hAr, hV⟩ kz) ?_ ?_ (Or.inr ⟨oS, ?_⟩) ⟨funext (fun j => (kz 40 j rfl rfl).trans ((u1.1 40 j rfl rfl).trans (kx 40 j rfl rfl))), (x 67 (by decide)).trans ((u1.1 0 67 rfl rfl).trans (kx 0 67 rfl rfl))⟩ ⟨(x 88 (by decide)).trans ((u1.1 0 88 rfl rfl).trans (kx 0 88 rfl rfl)), (x 91 (by decide)).trans ((u1.1 0 91 rfl rfl).trans (kx 0 91 rfl rfl))⟩) (by rw [z1]; exact z0) z2
    · unfold NUG
      rw [z1, z2, x 31 (by decide), x 17 (by decide), x 39 (by decide), x 45 (by decide), z0, oS]
      exact ⟨by omega, by omega, by omega, by omega, by omega, by omega, by omega⟩
    · unfold ENG
      have nS : (S 0 35).toNatClampNeg = (σ 0 35).toNatClampNeg + 1 := by rw [x35]; exact n1o
      rw [nS, x22, if_pos rfl, x24, if_pos rfl, x 36 (by decide), x 39 (by decide), oS]
      exact ⟨rfl, rfl, by omega, by omega⟩
    · have a1 : fO S (σ 0 35).toNatClampNeg = (σ 0 36).toInt := by
        unfold fO
        rw [x22, if_neg (by omega), y22, ← hE.1]
      have a2 : fO S ((σ 0 35).toNatClampNeg + 1) = (s 0 36).toInt := by
        unfold fO
        rw [x22, if_pos rfl]
      refine ⟨by rw [a1, a2]; exact ⟨by omega, by omega, by omega, by omega⟩, by rw [x23, if_pos rfl]; exact m4, ?_, fun e he hd => ?_⟩
      · rw [x24, if_neg (by omega), y24, ← hE.2.1, x24, if_pos rfl, x23, if_pos rfl]
        obtain ⟨q1, n, q2, q3⟩ := good.1
        refine ⟨q1, n, q2, fun j hj => ?_⟩
        have x25 : (S 25) = (s 25) := funext (fun j => kz 25 j rfl rfl)
        rw [x25]
        exact q3 j hj
      · obtain ⟨he1, he2⟩ := he
        rw [a1] at he1
        rw [a2] at he2
        have q9 : (S 9) e = (s 9) e := kz 9 e rfl rfl
        have q13 : (S 13) e = (s 13) e := kz 13 e rfl rfl
        obtain ⟨d1, d2⟩ := hd
        rw [q9] at d1
        rw [q13] at d2
        obtain ⟨b, r1, r2, r3, r4, r5⟩ := good.2 e (by omega) he2 d1 d2
        refine bdk_old (C := CO s) (kz 17 e rfl rfl) (kz 15 e rfl rfl) (kz 10 e rfl rfl) (fun j _ => kz 8 j rfl rfl) (fun b _ => ⟨kz 26 b rfl rfl, kz 27 b rfl rfl, kz 28 b rfl rfl, kz 29 b rfl rfl, kz 30 b rfl rfl, kz 54 b rfl rfl⟩) (by rw [x 17 (by decide)]; exact Int.le_refl _) (by rw [x 45 (by decide)]; exact Int.le_refl _) (fun n h h' c => ?_) ⟨b, r1, r2, r3, by rw [r4, es]; exact nO.symm, r5⟩
        obtain ⟨c1, c2, e9, c3, c4, c5, c6, c7, c8⟩ := c
        have sb := hsb e9 (by omega) (by omega)
        refine ⟨c1, e9, by rw [a1]; omega, ⟨by rw [a1]; omega, by rw [a2]; omega⟩, by rw [kz 9 e9 rfl rfl]; exact c4, by rw [kz 14 e9 rfl rfl]; exact c5, fun q => ?_, hh_eq (kz 15 e9 rfl rfl) (kz 10 e9 rfl rfl) ⟨c7, c8⟩⟩
        rw [kz 12 e9 rfl rfl] at q
        rw [kz 13 e9 rfl rfl]
        refine sb c4 q ?_
        have en : ((e9 : Int) - Fi s).toNat = n.toNat := by omega
        rw [en]; exact c6
  · obtain ⟨⟨s0, u1, hs⟩, uz⟩ := ut
    have kx : KXu σ σ1 := kp_tr (kp_sub k0 rfl rfl) (kp_sub kr rfl rfl)
    have e35 : (σ1 0 35) = (σ 0 35) := kx _ _ rfl rfl
    have e22 : (σ1 22) = (σ 22) := funext (fun j => kx 22 j rfl rfl)
    have e36 : (σ1 0 36) = (σ 0 36) := kx _ _ rfl rfl
    have eF1 : Fi σ1 = (σ 0 36).toInt := by
      unfold Fi
      rw [e35, e22, ← hE.1]
    have olu := olu_ur kx u1 eF1.symm
    have hPs := u1.2.1
    have es0 : (s0 0 35) = (σ 0 35) := (u1.1 0 35 rfl rfl).trans e35
    have es : (s 0 35) = (σ 0 35) := by rw [hs]; exact es0
    have y22 : ∀ j, (s0 22) j = (σ 22) j := fun j => (u1.1 22 j rfl rfl).trans (kx 22 j rfl rfl)
    have ef : (s 22) (σ 0 35).toNatClampNeg = (σ 0 36) := by rw [hs, hE.1]; exact y22 _
    rw [es, ef]
    refine ⟨by omega, ?_⟩
    generalize hS : (upC (upC (upC (upC (upC s 0 17 (σ 0 17)) 0 31 (σ 0 31)) 0 45 (σ 0 45)) 0 39 (σ 0 39)) 0 36 (σ 0 36)) = S
    have kz : KZu s0 S := by rw [← hS, hs]; exact kp_f (kp_f (kp_f (kp_f (kp_f (kp_f kp_rf rfl) rfl) rfl) rfl) rfl) rfl
    have x : ∀ j, j ≠ 15 → S 0 j = if j = 36 then σ 0 36 else if j = 39 then σ 0 39 else if j = 45 then σ 0 45 else if j = 31 then σ 0 31 else if j = 17 then σ 0 17 else s0 0 j := fun j q => by
      rw [← hS, hs]; simp only [rdC, Nat.reduceEqDiff, if_true, if_false, if_neg q]
    have xa : ∀ c j, c ≠ 0 → S c j = s0 c j := fun c j q => by
      rw [← hS, hs]; simp only [rdC, if_neg q]
    clear hS
    have y : ∀ j, ([(0, j)] : List (Nat × Nat)).all (fun x => x.2 == 35 || x.2 == 70 || x.2 == 78 || x.2 == 67 || x.2 == 88 || x.2 == 91 || x.2 == 2) = true → s0 0 j = σ 0 j := fun j q => by
      simp at q
      rcases q with ((((((q | q) | q) | q) | q) | q) | q) <;> subst q
      · exact es0
      · exact (u1.1 0 70 rfl rfl).trans (kx 0 70 rfl rfl)
      · exact (u1.1 0 78 rfl rfl).trans (kx 0 78 rfl rfl)
      · exact (u1.1 0 67 rfl rfl).trans (kx 0 67 rfl rfl)
      · exact (u1.1 0 88 rfl rfl).trans (kx 0 88 rfl rfl)
      · exact (u1.1 0 91 rfl rfl).trans (kx 0 91 rfl rfl)
      · exact (u1.1 0 2 rfl rfl).trans (kx 0 2 rfl rfl)
    have z1 : (S 0 1) = 0 := (x 1 (by decide)).trans ((u1.1 0 1 rfl rfl).trans ((kr 0 1 rfl rfl).trans s1'))
    have z2 : (S 0 2) = (σ 0 2) := (x 2 (by decide)).trans (y 2 rfl)
    have z17 : (S 0 17) = (σ 0 17) := x 17 (by decide)
    have z31 : (S 0 31) = (σ 0 31) := x 31 (by decide)
    have z45 : (S 0 45) = (σ 0 45) := x 45 (by decide)
    have z39 : (S 0 39) = (σ 0 39) := x 39 (by decide)
    have z36 : (S 0 36) = (σ 0 36) := x 36 (by decide)
    have z35 : (S 0 35) = (σ 0 35) := (x 35 (by decide)).trans (y 35 rfl)
    have a22 : (S 22) = (σ 22) := funext (fun j => (xa 22 j (by decide)).trans (y22 j))
    have a24 : (S 24) = (σ 24) := funext (fun j => (xa 24 j (by decide)).trans ((u1.1 24 j rfl rfl).trans (kx 24 j rfl rfl)))
    have a23 : (S 23) = (σ 23) := funext (fun j => (xa 23 j (by decide)).trans ((u1.1 23 j rfl rfl).trans (kx 23 j rfl rfl)))
    have p1 := pos_in hP1.1 hP1.2.1
    have f9 : (σ1 0 9) = (σ 0 1) := (kr 0 9 rfl rfl).trans s9
    rw [f9] at uz p1
    have old : OLD σ S := by
      obtain ⟨q1, q2, q3, q4⟩ := olu_kz olu kz
      exact ⟨fun o _ => ⟨by rw [a22], by rw [a24]⟩, fun o _ => by rw [a23], q1, ⟨q2, q3, q4⟩, by rw [z17]; exact Int.le_refl _, by rw [z45]; exact Int.le_refl _, by rw [z35]; exact Int.le_refl _⟩
    have olk : OLK σ S := ⟨funext (fun j => (xa 43 j (by decide)).trans ((u1.1 43 j rfl rfl).trans (kx 43 j rfl rfl))), funext (fun j => (xa 41 j (by decide)).trans ((u1.1 41 j rfl rfl).trans (kx 41 j rfl rfl))), (x 70 (by decide)).trans (y 70 rfl), (x 78 (by decide)).trans (y 78 rfl)⟩
    refine k _ S t z (gi_mk h old olk (arg_pa hPs kz) ?_ ?_ (Or.inl (by rw [z35])) ⟨funext (fun j => (xa 40 j (by decide)).trans ((u1.1 40 j rfl rfl).trans (kx 40 j rfl rfl))), (x 67 (by decide)).trans (y 67 rfl)⟩ ⟨(x 88 (by decide)).trans (y 88 rfl), (x 91 (by decide)).trans (y 91 rfl)⟩) (by rw [z1]; exact z0) z2
    · unfold NUG
      rw [z1, z2, z31, z17, z39, z45, z35, z0]
      exact ⟨by omega, by omega, by omega, by omega, by omega, by omega, by omega⟩
    · unfold ENG
      rw [z36, z39, z35, a22, a24]
      exact hE
end CMR
