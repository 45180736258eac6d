section
/-! compile -/
abbrev KMi (σ s : St) : Prop := Kp [(0, 1), (0, 2), (0, 9), (0, 10), (0, 8), (0, 12), (0, 13), (0, 14), (0, 15), (0, 37), (0, 71), (0, 72), (0, 73), (0, 74), (0, 81), (0, 86), (0, 88), (0, 89), (0, 91), (0, 92), (0, 93), (0, 94), (0, 95), (0, 96), (0, 97), (0, 98)] [1, 45, 42, 44, 46, 47, 48, 49, 50, 51, 52, 53] σ s
section CMR
variable {σ σ1 s S τ t : St} {vs z : List Nat}
theorem arg_km (h : ARG σ τ) (k : KMi σ S) : ARG S τ := by
  obtain ⟨⟨t1, t2⟩, a1, a2, a3, a4, a5, a6, a7, a8, b1, b2, b3, hV⟩ := h
  have e3 : (S 3) = (σ 3) := funext (fun j => k 3 j rfl rfl)
  have e4 : (S 4) = (σ 4) := funext (fun j => k 4 j rfl rfl)
  have e34 : (S 34) = (σ 34) := funext (fun j => k 34 j rfl rfl)
  have e35 : (S 35) = (σ 35) := funext (fun j => k 35 j rfl rfl)
  have e15 : (S 15) = (σ 15) := funext (fun j => k 15 j rfl rfl)
  have e18 : (S 18) = (σ 18) := funext (fun j => k 18 j rfl rfl)
  have e19 : (S 19) = (σ 19) := funext (fun j => k 19 j rfl rfl)
  have e31 : (S 31) = (σ 31) := funext (fun j => k 31 j rfl rfl)
  have e10 : (S 10) = (σ 10) := funext (fun j => k 10 j rfl rfl)
  have e9 : (S 9) = (σ 9) := funext (fun j => k 9 j rfl rfl)
  have e32 : (S 32) = (σ 32) := funext (fun j => k 32 j rfl rfl)
  have e16 : (S 16) = (σ 16) := funext (fun j => k 16 j rfl rfl)
  have e17 : (S 17) = (σ 17) := funext (fun j => k 17 j rfl rfl)
  have e21 : (S 21) = (σ 21) := funext (fun j => k 21 j rfl rfl)
  refine ⟨⟨by rw [e3]; exact t1, by rw [e4]; exact t2⟩, by rw [e34]; exact a1, by rw [e35]; exact a2, by rw [e21]; exact a3, by rw [e15]; exact a4, ?_, by rw [e31]; exact a6, by rw [e10]; exact a7, ?_, by rw [e17]; exact b1, by rw [e16]; exact b2, by rw [e32]; exact b3, hV⟩
  · unfold NMo; rw [e18, e19]; exact a5
  · unfold VTy; rw [e9, e10]; exact a8
theorem old_km (k : KMi σ s) : OLD σ s ∧ OLK σ s := by
  have e17 : (s 0 17) = (σ 0 17) := k _ _ rfl rfl
  have e45 : (s 0 45) = (σ 0 45) := k _ _ rfl rfl
  have e35 : (s 0 35) = (σ 0 35) := k _ _ rfl rfl
  refine ⟨⟨fun o _ => ⟨k 22 o rfl rfl, k 24 o rfl rfl⟩, fun o _ => k 23 o rfl rfl, fun e _ => ⟨k 9 e rfl rfl, k 10 e rfl rfl, k 15 e rfl rfl, k 12 e rfl rfl, fun q => by rw [k 14 e rfl rfl]; exact q, k 13 e rfl rfl, k 17 e rfl rfl⟩, ⟨fun j _ => k 8 j rfl rfl, fun b _ => ⟨k 26 b rfl rfl, k 27 b rfl rfl, k 28 b rfl rfl, k 29 b rfl rfl, k 30 b rfl rfl, k 54 b rfl rfl⟩, fun j _ => k 25 j rfl rfl⟩, by rw [e17]; exact Int.le_refl _, by rw [e45]; exact Int.le_refl _, by rw [e35]; exact Int.le_refl _⟩, funext (fun j => k 43 j rfl rfl), funext (fun j => k 41 j rfl rfl), k _ _ rfl rfl, k _ _ rfl rfl⟩
/-- what touches nothing that links and objects stand on -/
theorem gi_misc (h : GLI σ τ vs) (k : KMi σ s) (hn : NUG s vs) (hm : MIS s) : GLI s τ vs := by
  obtain ⟨o1, o2⟩ := old_km k
  have e36 : (s 0 36) = (σ 0 36) := k _ _ rfl rfl
  have e39 : (s 0 39) = (σ 0 39) := k _ _ rfl rfl
  have e35 : (s 0 35) = (σ 0 35) := k _ _ rfl rfl
  have e67 : (s 0 67) = (σ 0 67) := k _ _ rfl rfl
  have e22 : (s 22) = (σ 22) := funext (fun j => k 22 j rfl rfl)
  have e24 : (s 24) = (σ 24) := funext (fun j => k 24 j rfl rfl)
  have e40 : (s 40) = (σ 40) := funext (fun j => k 40 j rfl rfl)
  obtain ⟨h1, h2, h3, h4, h5, h6, h7⟩ := h
  refine ⟨hn, by unfold ENG; rw [e36, e39, e35, e22, e24]; exact h2, arg_km h3 k, fun o ho => obj_old o1 h2 h4 (by rw [← e35]; exact ho), by unfold PCK; rw [e67, e35, e40]; exact h5, lnk_old o1 o2 h2 h4 h6, hm⟩
theorem sp_compile {a : Int32} {Q : Int32 → St → St → List Nat → Prop} (h : GLI σ τ vs) (hF : (σ 0 2).toInt ≤ 10240) (k : ∀ r s t z, GLI s t z → (s 0 1).toInt = 0 → (s 0 2) = (σ 0 2) → Q r s t z) : wp_compile a σ τ vs Q := by
  have h9 := h
  obtain ⟨⟨⟨t1, t2⟩, ⟨o1, o2⟩, ⟨n1, n2⟩, ⟨w1, w2⟩, ⟨i1, i2⟩, v1, ⟨b1, b2⟩⟩, hE, hA, hO, hP, hL, hM⟩ := h9
  have z0 : (0 : Int32).toInt = 0 := by decide
  have early : ∀ r, Q r (upC (upC (upC σ 0 9 (σ 0 1)) 0 1 (0 : Int32)) 0 14 ((-1) : Int32)) τ vs := fun r => by
    refine k _ _ _ _ (gi_misc h (kp_f (kp_f (kp_f kp_rf rfl) rfl) rfl) ?_ hM) z0 rfl
    refine ⟨?_, ⟨o1, o2⟩, ⟨n1, ?_⟩, ⟨w1, ?_⟩, ⟨i1, ?_⟩, ?_, ⟨b1, ?_⟩⟩
    · show 0 ≤ (0 : Int32).toInt ∧ (0 : Int32).toInt ≤ 16000
      omega
    · show (σ 0 31).toInt + (0 : Int32).toInt ≤ (σ 0 2).toInt
      omega
    · show (σ 0 17).toInt + 40 * (0 : Int32).toInt ≤ 40 * (σ 0 2).toInt
      omega
    · show (σ 0 39).toInt + 12 * (0 : Int32).toInt ≤ 12 * (σ 0 2).toInt
      omega
    · show (vs.length : Int) + 2 * (0 : Int32).toInt ≤ 2 * (σ 0 2).toInt
      omega
    · show 2 * (σ 0 45).toInt + (0 : Int32).toInt ≤ (σ 0 2).toInt
      omega
  unfold wp_compile
  refine ⟨fun _ => early _, fun _ => ⟨fun _ => early _, fun _ => ⟨fun ho => ?_, fun _ => early _⟩⟩⟩
  have ho' : (σ 0 35).toInt < 100 := by omega
  refine ⟨by omega, by omega, ?_⟩
  generalize h0 : (upC (upC (upC (upC (upC (upC (upC (upC (upC (upC (upC σ 0 9 (σ 0 1)) 0 1 (0 : Int32)) 0 14 ((-1) : Int32)) 22 (σ 0 35).toNatClampNeg (σ 0 36)) 24 (σ 0 35).toNatClampNeg (σ 0 39)) 0 37 (0 : Int32)) 0 12 (0 : Int32)) 0 15 (0 : Int32)) 0 53 (0 : Int32)) 0 54 (0 : Int32)) 0 49 (0 : Int32)) = σ0
  have k0 : K0c σ σ0 := by
    have ka : Kp [(0, 9), (0, 1), (0, 14), (0, 37), (0, 12), (0, 15), (0, 53), (0, 54), (0, 49)] [22, 24] σ σ0 := by
      rw [← h0]
      exact kp_f (kp_f (kp_f (kp_f (kp_f (kp_f (kp_a (kp_a (kp_f (kp_f (kp_f kp_rf rfl) rfl) rfl) rfl) rfl) rfl) rfl) rfl) rfl) rfl) rfl
    intro c j q1 q2
    by_cases c22 : c = 22
    · subst c22
      rw [← h0]
      simp only [rdC, Nat.reduceEqDiff, if_true, if_false]
      by_cases e : j = (σ 0 35).toNatClampNeg
      · rw [if_pos e, e]; exact hE.1
      · rw [if_neg e]
    · by_cases c24 : c = 24
      · subst c24
        rw [← h0]
        simp only [rdC, Nat.reduceEqDiff, if_true, if_false]
        by_cases e : j = (σ 0 35).toNatClampNeg
        · rw [if_pos e, e]; exact hE.2.1
        · rw [if_neg e]
      · refine ka c j q1 ?_
        simp
        exact ⟨c22, c24⟩
  obtain ⟨rs, eF, eF2⟩ := rs0_gi (σ0 := σ0) h hF ho' k0 (by rw [← h0]; rfl) (by rw [← h0]; rfl) (by rw [← h0]; rfl) (by rw [← h0]; rfl) (by rw [← h0]; rfl) (by rw [← h0]; rfl)
  have s9 : (σ0 0 9) = (σ 0 1) := by rw [← h0]; rfl
  have s1' : (σ0 0 1) = 0 := by rw [← h0]; rfl
  have s37 : (σ0 0 37) = 0 := by rw [← h0]; rfl
  clear h0
  have nO := nt o1
  have em1 : ∀ v : Int32, v = 0 → v.toInt = 0 := fun v q => by rw [q]; exact z0
  refine sp_read0 rs (fun σ1 s t z hP1 kr il hfa hsb => ⟨fun _ => ?_, fun c => absurd c (by decide)⟩) (fun v σ1 s t z hv hP1 kr ut => ⟨fun c => by omega, fun _ => ?_⟩)
  · obtain ⟨u1, ⟨c1, c2, c3⟩, u3, u4, u5⟩ := il
    have kx : KXu σ σ1 := kp_tr (kp_sub k0 rfl rfl) (kp_sub kr rfl rfl)
    have e35 : (σ1 0 35) = (σ 0 35) := kx _ _ rfl rfl
    have e22 : (σ1 22) = (σ 22) := funext (fun j => kx 22 j rfl rfl)
    have eF1 : Fi σ1 = (σ 0 36).toInt := by
      unfold Fi
      rw [e35, e22, ← hE.1]
    have olu := olu_ur kx u1 eF1.symm
    have es : (s 0 35) = (σ 0 35) := (u1.1 0 35 rfl rfl).trans e35
    have hPs := u1.2.1
    have e1o : ((σ 0 35) + (1 : Int32)).toInt = (σ 0 35).toInt + 1 := ad1 (by omega)
    have n1o : ((σ 0 35) + (1 : Int32)).toNatClampNeg = (σ 0 35).toNatClampNeg + 1 := by rw [nt', e1o]; omega
    rw [es]
    refine ⟨by omega, by omega, by omega, ?_⟩
    generalize hS : (upC (upC (upC (upC s 23 (σ 0 35).toNatClampNeg (s 0 37)) 0 35 ((σ 0 35) + (1 : Int32))) 22 ((σ 0 35) + (1 : Int32)).toNatClampNeg (s 0 36)) 24 ((σ 0 35) + (1 : Int32)).toNatClampNeg (s 0 39)) = S
    rw [n1o] at hS
    have kz : KZu s S := by rw [← hS]; exact kp_a (kp_a (kp_f (kp_a kp_rf rfl) rfl) rfl) rfl
    have x23 : ∀ j, (S 23) j = if j = (σ 0 35).toNatClampNeg then (s 0 37) else (s 23) j := fun j => by
      rw [← hS]; simp only [rdC, Nat.reduceEqDiff, if_true, if_false]
    have x22 : ∀ j, (S 22) j = if j = (σ 0 35).toNatClampNeg + 1 then (s 0 36) else (s 22) j := fun j => by
      rw [← hS]; simp only [rdC, Nat.reduceEqDiff, if_true, if_false]
    have x24 : ∀ j, (S 24) j = if j = (σ 0 35).toNatClampNeg + 1 then (s 0 39) else (s 24) j := fun j => by
      rw [← hS]; simp only [rdC, Nat.reduceEqDiff, if_true, if_false]
    have x35 : (S 0 35) = (σ 0 35) + 1 := by rw [← hS]; rfl
    have x : ∀ j, j ≠ 35 → S 0 j = s 0 j := fun j q => by
      rw [← hS]; simp only [rdC, Nat.reduceEqDiff, if_true, if_false, if_neg q]
    clear hS
    have y22 : ∀ j, (s 22) j = (σ 22) j := fun j => (u1.1 22 j rfl rfl).trans (kx 22 j rfl rfl)
    have y23 : ∀ j, (s 23) j = (σ 23) j := fun j => (u1.1 23 j rfl rfl).trans (kx 23 j rfl rfl)
    have y24 : ∀ j, (s 24) j = (σ 24) j := fun j => (u1.1 24 j rfl rfl).trans (kx 24 j rfl rfl)
    have z1 : (S 0 1) = 0 := (x 1 (by decide)).trans ((u1.1 0 1 rfl rfl).trans ((kr 0 1 rfl rfl).trans s1'))
    have z2 : (S 0 2) = (σ 0 2) := (x 2 (by decide)).trans ((u1.1 0 2 rfl rfl).trans (kx 0 2 rfl rfl))
    have f17 : (σ1 0 17) = (σ 0 17) := kx _ _ rfl rfl
    have f39 : (σ1 0 39) = (σ 0 39) := kx _ _ rfl rfl
    have f31 : (σ1 0 31) = (σ 0 31) := kx _ _ rfl rfl
    have f45 : (σ1 0 45) = (σ 0 45) := kx _ _ rfl rfl
    have f9 : (σ1 0 9) = (σ 0 1) := (kr 0 9 rfl rfl).trans s9
    have p1 := pos_in hP1.1 hP1.2.1
    have ps := pos_in hPs.1 hPs.2.1
    have sz := ur_sz u1
    rw [f9] at sz p1
    rw [sz] at ps
    rw [f17] at c1
    rw [f39] at c2
    rw [f31] at u4
    rw [f45] at u5
    obtain ⟨hT, hAt, ⟨m1, m2, m3, m4, m5, m6, m7⟩, hAr, hV⟩ := hPs
    have eFs : Fi s = (σ 0 36).toInt := (ku_Fi u1.1).trans eF1
    have mono := u1.2.2.2.2.1
    rw [f17, f39, f45] at mono
    have e36 : (σ1 0 36) = (σ 0 36) := kx _ _ rfl rfl
    rw [e36] at mono
    have oS : (S 0 35).toInt = (σ 0 35).toInt + 1 := by rw [x35]; exact e1o
    have old : OLD σ S := by
      obtain ⟨q1, q2, q3, q4⟩ := olu_kz olu kz
      refine ⟨fun o ho9 => ⟨by rw [x22, if_neg (by omega), y22], by rw [x24, if_neg (by omega), y24]⟩, fun o ho9 => by rw [x23, if_neg (by omega), y23], q1, ⟨q2, q3, q4⟩, by rw [x 17 (by decide)]; omega, by rw [x 45 (by decide)]; omega, by omega⟩
    have olk : OLK σ S := ⟨funext (fun j => (kz 43 j rfl rfl).trans ((u1.1 43 j rfl rfl).trans (kx 43 j rfl rfl))), funext (fun j => (kz 41 j rfl rfl).trans ((u1.1 41 j rfl rfl).trans (kx 41 j rfl rfl))), (x 70 (by decide)).trans ((u1.1 0 70 rfl rfl).trans (kx 0 70 rfl rfl)), (x 78 (by decide)).trans ((u1.1 0 78 rfl rfl).trans (kx 0 78 rfl rfl))⟩
    have good := u3 hfa (by rw [ur_sil u1, show (σ1 0 15) = (σ0 0 15) from kr _ _ rfl rfl]; exact rs.2.2.2.1.1) _ (good_start (by rw [eF1, e36]) (by rw [f39]; exact i1))
    rw [f39] at good
    refine k _ S t z (gi_mk h old olk (arg_pa ⟨hT, hAt, ⟨m1, m2, m3, m4, m5, m6, m7⟩, hAr, hV⟩ kz) ?_ ?_ (Or.inr ⟨oS, ?_⟩) ⟨funext (fun j => (kz 40 j rfl rfl).trans ((u1.1 40 j rfl rfl).trans (kx 40 j rfl rfl))), (x 67 (by decide)).trans ((u1.1 0 67 rfl rfl).trans (kx 0 67 rfl rfl))⟩ ⟨(x 88 (by decide)).trans ((u1.1 0 88 rfl rfl).trans (kx 0 88 rfl rfl)), (x 91 (by decide)).trans ((u1.1 0 91 rfl rfl).trans (kx 0 91 rfl rfl))⟩) (by rw [z1]; exact z0) z2
    · unfold NUG
      rw [z1, z2, x 31 (by decide), x 17 (by decide), x 39 (by decide), x 45 (by decide), z0, oS]
      exact ⟨by omega, by omega, by omega, by omega, by omega, by omega, by omega⟩
    · unfold ENG
      have nS : (S 0 35).toNatClampNeg = (σ 0 35).toNatClampNeg + 1 := by rw [x35]; exact n1o
      rw [nS, x22, if_pos rfl, x24, if_pos rfl, x 36 (by decide), x 39 (by decide), oS]
      exact ⟨rfl, rfl, by omega, by omega⟩
    · have a1 : fO S (σ 0 35).toNatClampNeg = (σ 0 36).toInt := by
        unfold fO
        rw [x22, if_neg (by omega), y22, ← hE.1]
      have a2 : fO S ((σ 0 35).toNatClampNeg + 1) = (s 0 36).toInt := by
        unfold fO
        rw [x22, if_pos rfl]
      refine ⟨by rw [a1, a2]; exact ⟨by omega, by omega, by omega, by omega⟩, by rw [x23, if_pos rfl]; exact m4, ?_, fun e he hd => ?_⟩
      · rw [x24, if_neg (by omega), y24, ← hE.2.1, x24, if_pos rfl, x23, if_pos rfl]
        obtain ⟨q1, n, q2, q3⟩ := good.1
        refine ⟨q1, n, q2, fun j hj => ?_⟩
        have x25 : (S 25) = (s 25) := funext (fun j => kz 25 j rfl rfl)
        rw [x25]
        exact q3 j hj
      · obtain ⟨he1, he2⟩ := he
        rw [a1] at he1
        rw [a2] at he2
        have q9 : (S 9) e = (s 9) e := kz 9 e rfl rfl
        have q13 : (S 13) e = (s 13) e := kz 13 e rfl rfl
        obtain ⟨d1, d2⟩ := hd
        rw [q9] at d1
        rw [q13] at d2
        obtain ⟨b, r1, r2, r3, r4, r5⟩ := good.2 e (by omega) he2 d1 d2
        refine bdk_old (C := CO s) (kz 17 e rfl rfl) (kz 15 e rfl rfl) (kz 10 e rfl rfl) (fun j _ => kz 8 j rfl rfl) (fun b _ => ⟨kz 26 b rfl rfl, kz 27 b rfl rfl, kz 28 b rfl rfl, kz 29 b rfl rfl, kz 30 b rfl rfl, kz 54 b rfl rfl⟩) (by rw [x 17 (by decide)]; exact Int.le_refl _) (by rw [x 45 (by decide)]; exact Int.le_refl _) (fun n h h' c => ?_) ⟨b, r1, r2, r3, by rw [r4, es]; exact nO.symm, r5⟩
        obtain ⟨c1, c2, e9, c3, c4, c5, c6, c7, c8⟩ := c
        have sb := hsb e9 (by omega) (by omega)
        refine ⟨c1, e9, by rw [a1]; omega, ⟨by rw [a1]; omega, by rw [a2]; omega⟩, by rw [kz 9 e9 rfl rfl]; exact c4, by rw [kz 14 e9 rfl rfl]; exact c5, fun q => ?_, hh_eq (kz 15 e9 rfl rfl) (kz 10 e9 rfl rfl) ⟨c7, c8⟩⟩
        rw [kz 12 e9 rfl rfl] at q
        rw [kz 13 e9 rfl rfl]
        refine sb c4 q ?_
        have en : ((e9 : Int) - Fi s).toNat = n.toNat := by omega
        rw [en]; exact c6
  · obtain ⟨⟨s0, u1, hs⟩, uz⟩ := ut
    have kx : KXu σ σ1 := kp_tr (kp_sub k0 rfl rfl) (kp_sub kr rfl rfl)
    have e35 : (σ1 0 35) = (σ 0 35) := kx _ _ rfl rfl
    have e22 : (σ1 22) = (σ 22) := funext (fun j => kx 22 j rfl rfl)
    have e36 : (σ1 0 36) = (σ 0 36) := kx _ _ rfl rfl
    have eF1 : Fi σ1 = (σ 0 36).toInt := by
      unfold Fi
      rw [e35, e22, ← hE.1]
    have olu := olu_ur kx u1 eF1.symm
    have hPs := u1.2.1
    have es0 : (s0 0 35) = (σ 0 35) := (u1.1 0 35 rfl rfl).trans e35
    have es : (s 0 35) = (σ 0 35) := by rw [hs]; exact es0
    have y22 : ∀ j, (s0 22) j = (σ 22) j := fun j => (u1.1 22 j rfl rfl).trans (kx 22 j rfl rfl)
    have ef : (s 22) (σ 0 35).toNatClampNeg = (σ 0 36) := by rw [hs, hE.1]; exact y22 _
    rw [es, ef]
    refine ⟨by omega, ?_⟩
    generalize hS : (upC (upC (upC (upC (upC s 0 17 (σ 0 17)) 0 31 (σ 0 31)) 0 45 (σ 0 45)) 0 39 (σ 0 39)) 0 36 (σ 0 36)) = S
    have kz : KZu s0 S := by rw [← hS, hs]; exact kp_f (kp_f (kp_f (kp_f (kp_f (kp_f kp_rf rfl) rfl) rfl) rfl) rfl) rfl
    have x : ∀ j, j ≠ 15 → S 0 j = if j = 36 then σ 0 36 else if j = 39 then σ 0 39 else if j = 45 then σ 0 45 else if j = 31 then σ 0 31 else if j = 17 then σ 0 17 else s0 0 j := fun j q => by
      rw [← hS, hs]; simp only [rdC, Nat.reduceEqDiff, if_true, if_false, if_neg q]
    have xa : ∀ c j, c ≠ 0 → S c j = s0 c j := fun c j q => by
      rw [← hS, hs]; simp only [rdC, if_neg q]
    clear hS
    have y : ∀ j, ([(0, j)] : List (Nat × Nat)).all (fun x => x.2 == 35 || x.2 == 70 || x.2 == 78 || x.2 == 67 || x.2 == 88 || x.2 == 91 || x.2 == 2) = true → s0 0 j = σ 0 j := fun j q => by
      simp at q
      rcases q with ((((((q | q) | q) | q) | q) | q) | q) <;> subst q
      · exact es0
      · exact (u1.1 0 70 rfl rfl).trans (kx 0 70 rfl rfl)
      · exact (u1.1 0 78 rfl rfl).trans (kx 0 78 rfl rfl)
      · exact (u1.1 0 67 rfl rfl).trans (kx 0 67 rfl rfl)
      · exact (u1.1 0 88 rfl rfl).trans (kx 0 88 rfl rfl)
      · exact (u1.1 0 91 rfl rfl).trans (kx 0 91 rfl rfl)
      · exact (u1.1 0 2 rfl rfl).trans (kx 0 2 rfl rfl)
    have z1 : (S 0 1) = 0 := (x 1 (by decide)).trans ((u1.1 0 1 rfl rfl).trans ((kr 0 1 rfl rfl).trans s1'))
    have z2 : (S 0 2) = (σ 0 2) := (x 2 (by decide)).trans (y 2 rfl)
    have z17 : (S 0 17) = (σ 0 17) := x 17 (by decide)
    have z31 : (S 0 31) = (σ 0 31) := x 31 (by decide)
    have z45 : (S 0 45) = (σ 0 45) := x 45 (by decide)
    have z39 : (S 0 39) = (σ 0 39) := x 39 (by decide)
    have z36 : (S 0 36) = (σ 0 36) := x 36 (by decide)
    have z35 : (S 0 35) = (σ 0 35) := (x 35 (by decide)).trans (y 35 rfl)
    have a22 : (S 22) = (σ 22) := funext (fun j => (xa 22 j (by decide)).trans (y22 j))
    have a24 : (S 24) = (σ 24) := funext (fun j => (xa 24 j (by decide)).trans ((u1.1 24 j rfl rfl).trans (kx 24 j rfl rfl)))
    have a23 : (S 23) = (σ 23) := funext (fun j => (xa 23 j (by decide)).trans ((u1.1 23 j rfl rfl).trans (kx 23 j rfl rfl)))
    have p1 := pos_in hP1.1 hP1.2.1
    have f9 : (σ1 0 9) = (σ 0 1) := (kr 0 9 rfl rfl).trans s9
    rw [f9] at uz p1
    have old : OLD σ S := by
      obtain ⟨q1, q2, q3, q4⟩ := olu_kz olu kz
      exact ⟨fun o _ => ⟨by rw [a22], by rw [a24]⟩, fun o _ => by rw [a23], q1, ⟨q2, q3, q4⟩, by rw [z17]; exact Int.le_refl _, by rw [z45]; exact Int.le_refl _, by rw [z35]; exact Int.le_refl _⟩
    have olk : OLK σ S := ⟨funext (fun j => (xa 43 j (by decide)).trans ((u1.1 43 j rfl rfl).trans (kx 43 j rfl rfl))), funext (fun j => (xa 41 j (by decide)).trans ((u1.1 41 j rfl rfl).trans (kx 41 j rfl rfl))), (x 70 (by decide)).trans (y 70 rfl), (x 78 (by decide)).trans (y 78 rfl)⟩
    refine k _ S t z (gi_mk h old olk (arg_pa hPs kz) ?_ ?_ (Or.inl (by rw [z35])) ⟨funext (fun j => (xa 40 j (by decide)).trans ((u1.1 40 j rfl rfl).trans (kx 40 j rfl rfl))), (x 67 (by decide)).trans (y 67 rfl)⟩ ⟨(x 88 (by decide)).trans (y 88 rfl), (x 91 (by decide)).trans (y 91 rfl)⟩) (by rw [z1]; exact z0) z2
    · unfold NUG
      rw [z1, z2, z31, z17, z39, z45, z35, z0]
      exact ⟨by omega, by omega, by omega, by omega, by omega, by omega, by omega⟩
    · unfold ENG
      rw [z36, z39, z35, a22, a24]
      exact hE
end CMR
end

section
/-! the calls that read, feed, end, pick, input -/
section ESY
variable {σ s τ t : St} {vs z : List Nat}
theorem nt20 : ((20 : Int32)).toInt = 20 := by decide
theorem nug_tr (h : NUG σ vs) (k : Kp [(0, 1)] [1] σ s) (ht : 0 ≤ (s 0 1).toInt ∧ (s 0 1).toInt ≤ (σ 0 1).toInt) : NUG s vs := by
  obtain ⟨⟨t1, t2⟩, ⟨o1, o2⟩, ⟨n1, n2⟩, ⟨w1, w2⟩, ⟨i1, i2⟩, v1, ⟨b1, b2⟩⟩ := h
  have e2 : (s 0 2) = (σ 0 2) := k _ _ rfl rfl
  have e35 : (s 0 35) = (σ 0 35) := k _ _ rfl rfl
  have e31 : (s 0 31) = (σ 0 31) := k _ _ rfl rfl
  have e17 : (s 0 17) = (σ 0 17) := k _ _ rfl rfl
  have e39 : (s 0 39) = (σ 0 39) := k _ _ rfl rfl
  have e45 : (s 0 45) = (σ 0 45) := k _ _ rfl rfl
  unfold NUG
  rw [e2, e35, e31, e17, e39, e45]
  exact ⟨by omega, by omega, by omega, by omega, by omega, by omega, by omega⟩
theorem gi_tr (h : GLI σ τ vs) (k : Kp [(0, 1)] [1] σ s) (ht : 0 ≤ (s 0 1).toInt ∧ (s 0 1).toInt ≤ (σ 0 1).toInt) : GLI s τ vs :=
  gi_misc h (kp_sub k rfl rfl) (nug_tr h.1 k ht) (by
    have e1 : (s 0 88) = (σ 0 88) := k _ _ rfl rfl
    have e2 : (s 0 91) = (σ 0 91) := k _ _ rfl rfl
    unfold MIS
    rw [e1, e2]
    exact h.2.2.2.2.2.2)
/-- feed: its answer, exactly -/
theorem sp_feed {a1 a2 a3 a4 a5 : Int32} {Q : Int32 → St → St → List Nat → Prop} (h : GLI σ τ vs) (hF : (σ 0 2).toInt ≤ 10220) (h0 : 0 ≤ (σ 0 2).toInt) (k0 : 16000 < (σ 0 1).toInt + 20 → Q (-1) σ τ vs) (k1 : (σ 0 1).toInt + 20 ≤ 16000 → ∀ (r : Int32) s, r.toInt = (σ 0 1).toInt + 20 → (s 0 1).toInt = (σ 0 1).toInt + 20 → (s 0 2).toInt = (σ 0 2).toInt + 20 → GLI s τ vs → Q r s τ vs) : wp_feed a1 a2 a3 a4 a5 σ τ vs Q := by
  have h9 := h
  obtain ⟨⟨⟨t1, t2⟩, ⟨o1, o2⟩, ⟨n1, n2⟩, ⟨w1, w2⟩, ⟨i1, i2⟩, v1, ⟨b1, b2⟩⟩, hE, hA, hO, hP, hL, hM⟩ := h9
  have e1 : ((σ 0 1) + (20 : Int32)).toInt = (σ 0 1).toInt + 20 := adc (by decide) (by omega) (by omega)
  have e2 : ((σ 0 2) + (20 : Int32)).toInt = (σ 0 2).toInt + 20 := adc (by decide) (by omega) (by omega)
  unfold wp_feed
  refine ⟨fun c => k0 (by omega), fun c => ⟨fun _ => ?_, fun c2 => by omega⟩⟩
  refine ⟨fun n x s t z => (n : Int) = 20 - x.toInt ∧ 0 ≤ x.toInt ∧ x.toInt ≤ 20 ∧ Kp [] [1] σ s ∧ t = τ ∧ z = vs, ⟨20, by decide, by decide, by decide, kp_rf, rfl, rfl⟩, ?_⟩
  rintro n x s t z ⟨q1, q2, q3, kk, rfl, rfl⟩
  have f1 : (s 0 1) = (σ 0 1) := kk _ _ rfl rfl
  have f2 : (s 0 2) = (σ 0 2) := kk _ _ rfl rfl
  refine ⟨fun _ => ?_, fun c3 => ⟨fun _ => True, fun y _ => ?_, fun _ => ⟨fun _ => ⟨fun _ => ⟨fun _ => trivial, fun _ => trivial⟩, fun _ => trivial⟩, fun _ => trivial⟩, fun _ => trivial⟩⟩
  · rw [f1, f2]
    have g1 : ((upC (upC s 0 1 ((σ 0 1) + (20 : Int32))) 0 2 ((σ 0 2) + (20 : Int32))) 0 1).toInt = (σ 0 1).toInt + 20 := e1
    have g2 : ((upC (upC s 0 1 ((σ 0 1) + (20 : Int32))) 0 2 ((σ 0 2) + (20 : Int32))) 0 2).toInt = (σ 0 2).toInt + 20 := e2
    have k9 : Kp [(0, 1), (0, 2)] [1] σ (upC (upC s 0 1 ((σ 0 1) + (20 : Int32))) 0 2 ((σ 0 2) + (20 : Int32))) := kp_f (kp_f (kp_sub kk rfl rfl) rfl) rfl
    generalize (upC (upC s 0 1 ((σ 0 1) + (20 : Int32))) 0 2 ((σ 0 2) + (20 : Int32))) = S at g1 g2 k9
    refine k1 (by omega) _ S e1 g1 g2 (gi_misc h (kp_sub k9 rfl rfl) ?_ ?_)
    · have e35 : (S 0 35) = (σ 0 35) := k9 _ _ rfl rfl
      have e31 : (S 0 31) = (σ 0 31) := k9 _ _ rfl rfl
      have e17 : (S 0 17) = (σ 0 17) := k9 _ _ rfl rfl
      have e39 : (S 0 39) = (σ 0 39) := k9 _ _ rfl rfl
      have e45 : (S 0 45) = (σ 0 45) := k9 _ _ rfl rfl
      unfold NUG
      rw [g1, g2, e35, e31, e17, e39, e45]
      exact ⟨by omega, by omega, by omega, by omega, by omega, by omega, by omega⟩
    · have e88 : (S 0 88) = (σ 0 88) := k9 _ _ rfl rfl
      have e91 : (S 0 91) = (σ 0 91) := k9 _ _ rfl rfl
      unfold MIS
      rw [e88, e91]
      exact hM
  · have e3 : ((s 0 1) + x).toInt = (σ 0 1).toInt + x.toInt := by rw [f1]; exact ad (by omega) (by omega)
    have e4 := ad1 (x := x) (by omega)
    exact ⟨by omega, n - 1, by omega, by omega, by omega, by omega, kp_a kk rfl, rfl, rfl⟩
/-- end: its answer, exactly -/
theorem sp_end {a : Int32} {Q : Int32 → St → St → List Nat → Prop} (h : GLI σ τ vs) (k0 : a.toInt < 0 ∨ (σ 0 1).toInt < a.toInt → Q (-1) σ τ vs) (k1 : 0 ≤ a.toInt → a.toInt ≤ (σ 0 1).toInt → ∀ s, (s 0 1).toInt = a.toInt → (s 0 2) = (σ 0 2) → GLI s τ vs → Q a s τ vs) : wp_end a σ τ vs Q := by
  unfold wp_end
  exact ⟨fun c => k0 (Or.inl c), fun c => ⟨fun c2 => k1 c c2 _ rfl rfl (gi_tr h (kp_f kp_rf rfl) ⟨c, c2⟩), fun c2 => k0 (Or.inr c2)⟩⟩
theorem sp_place {Q : Int32 → Prop} (k : ∀ r, Q r) : wp_place σ τ vs Q := k _
theorem sp_objects {Q : Int32 → Prop} (k : ∀ r, Q r) : wp_objects σ τ vs Q := k _
theorem sp_fault {a : Int32} {Q : Int32 → Prop} (k : ∀ r, Q r) : wp_fault a σ τ vs Q := ⟨fun _ => ⟨fun _ => k _, fun _ => k _⟩, fun _ => k _⟩
theorem sp_result {Q : Int32 → Prop} (k : ∀ r, Q r) : wp_result σ τ vs Q := k _
theorem sp_turns {Q : Int32 → Prop} (k : ∀ r, Q r) : wp_turns σ τ vs Q := k _
theorem sp_trap {a : Int32} {Q : Int32 → Prop} (k : ∀ r, Q r) : wp_trap a σ τ vs Q := ⟨fun _ => ⟨fun _ => k _, fun _ => k _⟩, fun _ => k _⟩
theorem sp_written {Q : Int32 → Prop} (k : ∀ r, Q r) : wp_written σ τ vs Q := k _
theorem sp_strays {Q : Int32 → Prop} (k : ∀ r, Q r) : wp_strays σ τ vs Q := k _
theorem sp_peek {a : Int32} {Q : Int32 → Prop} (k : ∀ r, Q r) : wp_peek a σ τ vs Q := ⟨fun _ => k _, fun _ => ⟨fun _ => k _, fun c => ⟨fun _ => k _, fun c2 => ⟨⟨c, c2⟩, k _⟩⟩⟩⟩
theorem sp_out {a : Int32} {Q : Int32 → Prop} (h : GLI σ τ vs) (k : ∀ r, Q r) : wp_out a σ τ vs Q := by
  obtain ⟨m1, m2⟩ := h.2.2.2.2.2.2.2
  exact ⟨fun _ => k _, fun c => ⟨fun _ => k _, fun c2 => ⟨⟨c, by omega⟩, k _⟩⟩⟩
theorem sp_input {a : Int32} {Q : Int32 → St → St → List Nat → Prop} (h : GLI σ τ vs) (k : ∀ r s, GLI s τ vs → (s 0 1) = (σ 0 1) → (s 0 2) = (σ 0 2) → Q r s τ vs) : wp_input a σ τ vs Q := by
  obtain ⟨⟨m1, m2⟩, m3⟩ := h.2.2.2.2.2.2
  unfold wp_input
  refine ⟨fun c => ⟨⟨m1, by omega⟩, k _ _ (gi_misc h (kp_f (kp_a kp_rf rfl) rfl) h.1 ?_) rfl rfl⟩, fun _ => k _ _ h rfl rfl⟩
  have e := ad1 (x := (σ 0 88)) (by omega)
  refine ⟨?_, m3⟩
  show 0 ≤ ((σ 0 88) + (1 : Int32)).toInt ∧ ((σ 0 88) + (1 : Int32)).toInt ≤ 4096
  omega
theorem sp_isObject {a : Int32} {Q : Int32 → Prop} (k0 : Q 0) (k1 : 1 ≤ a.toInt → a.toInt ≤ (σ 0 35).toInt → Q 1) : wp_isObject a σ τ vs Q := ⟨fun _ => k0, fun c => ⟨fun _ => k0, fun c2 => k1 c c2⟩⟩
/-- an object's rows -/
theorem ob_rows (h : GLI σ τ vs) {a : Int32} (a1 : 1 ≤ a.toInt) (a2 : a.toInt ≤ (σ 0 35).toInt) : (a - (1 : Int32)).toInt = a.toInt - 1 ∧ (a - (1 : Int32)).toNatClampNeg + 1 = a.toNatClampNeg ∧ ((a - (1 : Int32)).toNatClampNeg : Int) = a.toInt - 1 ∧ OBJ σ (a - (1 : Int32)).toNatClampNeg ∧ ((σ 22) a.toNatClampNeg).toInt = fO σ ((a - (1 : Int32)).toNatClampNeg + 1) ∧ fO σ ((a - (1 : Int32)).toNatClampNeg + 1) ≤ 10000 ∧ a.toInt ≤ 100 := by
  have e := sb1 (x := a) (by omega)
  have n1 := nt (x := a) (by omega)
  have n2 := nt (x := a - (1 : Int32)) (by omega)
  have e3 : (a - (1 : Int32)).toNatClampNeg + 1 = a.toNatClampNeg := by omega
  have ob := h.2.2.2.1 (a - (1 : Int32)).toNatClampNeg (by omega)
  have o2 := h.1.2.1.2
  have := ob.1
  exact ⟨e, e3, by omega, ob, by unfold fO; rw [e3], by omega, by omega⟩
theorem sp_symbolAt {a b : Int32} {Q : Int32 → Prop} (h : GLI σ τ vs) (k : ∀ r : Int32, r.toInt < 10000 → Q r) : wp_symbolAt a b σ τ vs Q := by
  unfold wp_symbolAt
  have em : ((-1 : Int32)).toInt < 10000 := by decide
  refine sp_isObject ⟨fun _ => k _ em, no0⟩ (fun c1 c2 => ⟨no1, fun _ => ⟨fun _ => ?_, fun _ => k _ em⟩⟩)
  obtain ⟨e1, e2, e3, ⟨⟨o1, o2, o3, o4⟩, -⟩, e4, e5, e6⟩ := ob_rows h c1 c2
  have ef : ((σ 22) (a - (1 : Int32)).toNatClampNeg).toInt = fO σ (a - (1 : Int32)).toNatClampNeg := rfl
  refine ⟨by omega, fun n x4 x5 => (n : Int) = fO σ ((a - (1 : Int32)).toNatClampNeg + 1) - x5.toInt ∧ 0 ≤ x5.toInt, ⟨(fO σ ((a - (1 : Int32)).toNatClampNeg + 1) - fO σ (a - (1 : Int32)).toNatClampNeg).toNat, by omega, by omega⟩, ?_⟩
  rintro n x4 x5 ⟨q1, q2⟩
  refine ⟨by omega, fun _ => k _ em, fun c3 => ?_⟩
  rw [e4] at c3
  have e7 := ad1 (x := x5) (by omega)
  exact ⟨by omega, fun _ => True, fun _ _ => ⟨n - 1, by omega, by omega, by omega⟩, fun _ => ⟨fun _ => trivial, fun _ => k _ (by omega)⟩, fun _ => trivial⟩
theorem sp_symbols {a : Int32} {Q : Int32 → Prop} (h : GLI σ τ vs) (c1 : 1 ≤ a.toInt) (c2 : a.toInt ≤ (σ 0 35).toInt) (k : ∀ r : Int32, Q r) : wp_symbols a σ τ vs Q := by
  unfold wp_symbols
  obtain ⟨e1, e2, e3, ⟨⟨o1, o2, o3, o4⟩, -⟩, e4, e5, e6⟩ := ob_rows h c1 c2
  have ef : ((σ 22) (a - (1 : Int32)).toNatClampNeg).toInt = fO σ (a - (1 : Int32)).toNatClampNeg := rfl
  refine ⟨by omega, fun n x4 x5 => (n : Int) = fO σ ((a - (1 : Int32)).toNatClampNeg + 1) - x5.toInt ∧ 0 ≤ x5.toInt, ⟨(fO σ ((a - (1 : Int32)).toNatClampNeg + 1) - fO σ (a - (1 : Int32)).toNatClampNeg).toNat, by omega, by omega⟩, ?_⟩
  rintro n x4 x5 ⟨q1, q2⟩
  refine ⟨by omega, fun _ => k _, fun c3 => ?_⟩
  rw [e4] at c3
  have e7 := ad1 (x := x5) (by omega)
  exact ⟨by omega, fun _ => True, fun _ _ => ⟨n - 1, by omega, by omega, by omega⟩, fun _ => trivial, fun _ => trivial⟩
theorem sp_count {a b : Int32} {Q : Int32 → Prop} (h : GLI σ τ vs) (k : ∀ r : Int32, Q r) : wp_count a b σ τ vs Q := by
  unfold wp_count
  refine sp_isObject ⟨no0, fun _ => k _⟩ (fun c1 c2 => ⟨fun _ => ⟨fun _ => ⟨fun _ => k _, fun _ => ?_⟩, fun _ => sp_symbols h c1 c2 (fun r => k r)⟩, no1⟩)
  obtain ⟨e1, e2, e3, -, e4, e5, e6⟩ := ob_rows h c1 c2
  exact ⟨by omega, k _⟩
theorem sp_name {a b c : Int32} {Q : Int32 → Prop} (h : GLI σ τ vs) (k : ∀ r : Int32, Q r) : wp_name a b c σ τ vs Q := by
  unfold wp_name
  refine sp_symbolAt h (fun v hv => ⟨fun _ => k _, fun c1 => ⟨fun _ => k _, fun c2 => ⟨by omega, fun _ => k _, fun c3 => ?_⟩⟩⟩)
  obtain ⟨m1, m2, m3⟩ := h.2.2.1.2.2.2.2.2.1 v.toNatClampNeg
  have e : ((σ 18) v.toNatClampNeg + c).toInt = ((σ 18) v.toNatClampNeg).toInt + c.toInt := ad (by omega) (by omega)
  exact ⟨by omega, by omega, k _⟩
theorem sp_symbol {a b : Int32} {Q : Int32 → Prop} (h : GLI σ τ vs) (k : ∀ r : Int32, Q r) : wp_symbol a b σ τ vs Q := by
  unfold wp_symbol
  refine sp_symbolAt h (fun v hv => ⟨fun c1 => ⟨by omega, by omega, fun _ => True, fun _ _ => ⟨by omega, fun _ => k _, fun _ => ⟨by omega, fun _ => k _, fun _ => k _⟩⟩, fun _ => trivial, fun _ => trivial⟩, fun _ => k _⟩)
end ESY
/-! as many different picks as there are objects, at most -/
theorem pigeon (m : Nat) : ∀ (n : Nat) (f : Nat → Nat), (∀ k, k < n → f k < m) → (∀ j k, j < k → k < n → f j ≠ f k) → n ≤ m := by
  induction m with
  | zero =>
    intro n f h _
    cases n with
    | zero => exact Nat.le_refl _
    | succ n => exact absurd (h 0 (Nat.succ_pos _)) (Nat.not_lt_zero _)
  | succ m ih =>
    intro n f h g
    cases n with
    | zero => exact Nat.zero_le _
    | succ n =>
      refine Nat.succ_le_succ (ih n (fun k => if f k = m then f n else f k) (fun k hk => ?_) (fun j k hj hk => ?_))
      · show (if f k = m then f n else f k) < m
        have h1 := h k (by omega)
        have h2 := h n (by omega)
        have h3 := g k n hk (by omega)
        split
        · omega
        · omega
      · show (if f j = m then f n else f j) ≠ (if f k = m then f n else f k)
        have h1 := g j k hj (by omega)
        have h2 := g j n (by omega) (by omega)
        have h3 := g k n hk (by omega)
        split <;> split <;> omega
section PIK
variable {σ s τ t : St} {vs z : List Nat}
theorem sp_pick {a : Int32} {Q : Int32 → St → St → List Nat → Prop} (h : GLI σ τ vs) (k : ∀ r s, GLI s τ vs → (s 0 1) = (σ 0 1) → (s 0 2) = (σ 0 2) → Q r s τ vs) : wp_pick a σ τ vs Q := by
  have h9 := h
  obtain ⟨hN, hE, hA, hO, ⟨⟨p1, p2⟩, p3, p4⟩, hL, hM⟩ := h9
  unfold wp_pick
  refine sp_isObject ⟨no0, fun _ => k _ _ h rfl rfl⟩ (fun c1 c2 => ⟨fun _ => ?_, no1⟩)
  have e0 : (0 : Int32).toInt = 0 := by decide
  refine ⟨fun n x => (n : Int) = (σ 0 67).toInt - x.toInt ∧ 0 ≤ x.toInt ∧ ∀ j : Nat, (j : Int) < x.toInt → (σ 40) j ≠ a, ⟨(σ 0 67).toNatClampNeg, by have := nt p1; omega, by decide, fun j hj => by omega⟩, ?_⟩
  rintro n x ⟨q1, q2, q3⟩
  have nx := nt q2
  refine ⟨fun c => ?_, fun c => ⟨by omega, fun c3 => ?_, fun _ => k _ _ h rfl rfl⟩⟩
  · have np := nt p1
    have no := nt hN.2.1.1
    have h100 := hN.2.1.2
    have lt : (σ 0 67).toInt < (σ 0 35).toInt := by
      have pg := pigeon (σ 0 35).toNatClampNeg ((σ 0 67).toNatClampNeg + 1) (fun j => if j = (σ 0 67).toNatClampNeg then a.toNatClampNeg - 1 else ((σ 40) j).toNatClampNeg - 1) (fun j hj => ?_) (fun i j hi hj => ?_)
      · omega
      · show (if j = (σ 0 67).toNatClampNeg then a.toNatClampNeg - 1 else ((σ 40) j).toNatClampNeg - 1) < _
        by_cases e : j = (σ 0 67).toNatClampNeg
        · rw [if_pos e]
          have := nt (x := a) (by omega)
          omega
        · rw [if_neg e]
          have := p3 j (by omega)
          have := nt (x := (σ 40) j) (by omega)
          omega
      · show (if i = (σ 0 67).toNatClampNeg then a.toNatClampNeg - 1 else ((σ 40) i).toNatClampNeg - 1) ≠ (if j = (σ 0 67).toNatClampNeg then a.toNatClampNeg - 1 else ((σ 40) j).toNatClampNeg - 1)
        rw [if_neg (by omega)]
        have i1 := p3 i (by omega)
        have i2 := nt (x := (σ 40) i) (by omega)
        by_cases e : j = (σ 0 67).toNatClampNeg
        · rw [if_pos e]
          have a2 := nt (x := a) (by omega)
          intro q
          exact q3 i (by omega) (ieq (by omega))
        · rw [if_neg e]
          have j1 := p3 j (by omega)
          have j2 := nt (x := (σ 40) j) (by omega)
          intro q
          exact p4 i j hi (by omega) (ieq (by omega))
    refine ⟨by omega, ?_⟩
    have e1 := ad1 (x := (σ 0 67)) (by omega)
    generalize hS : (upC (upC σ 40 (σ 0 67).toNatClampNeg a) 0 67 ((σ 0 67) + (1 : Int32))) = S
    have x40 : ∀ j, (S 40) j = if j = (σ 0 67).toNatClampNeg then a else (σ 40) j := fun j => by
      rw [← hS]; simp only [rdC, Nat.reduceEqDiff, if_true, if_false]
    have x67 : (S 0 67).toInt = (σ 0 67).toInt + 1 := by rw [← hS]; exact e1
    have x : ∀ j, j ≠ 67 → S 0 j = σ 0 j := fun j q => by
      rw [← hS]; simp only [rdC, Nat.reduceEqDiff, if_true, if_false, if_neg q]
    have xa : ∀ c, c ≠ 0 → c ≠ 40 → S c = σ c := fun c q1 q2 => funext (fun j => by
      rw [← hS]; simp only [rdC, if_neg q1, if_neg q2])
    clear hS
    refine k _ S ?_ (x 1 (by decide)) (x 2 (by decide))
    refine ⟨?_, ?_, ?_, fun o ho => ?_, ⟨by omega, fun j hj => ?_, fun i j hi hj => ?_⟩, ?_, ?_⟩
    · unfold NUG
      rw [x 1 (by decide), x 2 (by decide), x 35 (by decide), x 31 (by decide), x 17 (by decide), x 39 (by decide), x 45 (by decide)]
      exact hN
    · unfold ENG
      rw [x 36 (by decide), x 39 (by decide), x 35 (by decide), xa 22 (by decide) (by decide), xa 24 (by decide) (by decide)]
      exact hE
    · unfold ARG NMo VTy
      rw [xa 3 (by decide) (by decide), xa 4 (by decide) (by decide), xa 34 (by decide) (by decide), xa 35 (by decide) (by decide), xa 21 (by decide) (by decide), xa 15 (by decide) (by decide), xa 18 (by decide) (by decide), xa 19 (by decide) (by decide), xa 31 (by decide) (by decide), xa 10 (by decide) (by decide), xa 9 (by decide) (by decide), xa 17 (by decide) (by decide), xa 16 (by decide) (by decide), xa 32 (by decide) (by decide)]
      exact hA
    · rw [x 35 (by decide)] at ho
      exact obj_old ⟨fun o _ => ⟨by rw [xa 22 (by decide) (by decide)], by rw [xa 24 (by decide) (by decide)]⟩, fun o _ => by rw [xa 23 (by decide) (by decide)], fun e _ => ⟨by rw [xa 9 (by decide) (by decide)], by rw [xa 10 (by decide) (by decide)], by rw [xa 15 (by decide) (by decide)], by rw [xa 12 (by decide) (by decide)], fun q => by rw [xa 14 (by decide) (by decide)]; exact q, by rw [xa 13 (by decide) (by decide)], by rw [xa 17 (by decide) (by decide)]⟩, ⟨fun j _ => by rw [xa 8 (by decide) (by decide)], fun b _ => ⟨by rw [xa 26 (by decide) (by decide)], by rw [xa 27 (by decide) (by decide)], by rw [xa 28 (by decide) (by decide)], by rw [xa 29 (by decide) (by decide)], by rw [xa 30 (by decide) (by decide)], by rw [xa 54 (by decide) (by decide)]⟩, fun j _ => by rw [xa 25 (by decide) (by decide)]⟩, by rw [x 17 (by decide)]; exact Int.le_refl _, by rw [x 45 (by decide)]; exact Int.le_refl _, by rw [x 35 (by decide)]; exact Int.le_refl _⟩ hE hO ho
    · rw [x40, x 35 (by decide)]
      by_cases e : j = (σ 0 67).toNatClampNeg
      · rw [if_pos e]; exact ⟨c1, c2⟩
      · rw [if_neg e]; exact p3 j (by omega)
    · rw [x40, x40, if_neg (by omega)]
      by_cases e : j = (σ 0 67).toNatClampNeg
      · rw [if_pos e]
        exact q3 i (by omega)
      · rw [if_neg e]
        exact p4 i j hi (by omega)
    · exact lnk_old ⟨fun o _ => ⟨by rw [xa 22 (by decide) (by decide)], by rw [xa 24 (by decide) (by decide)]⟩, fun o _ => by rw [xa 23 (by decide) (by decide)], fun e _ => ⟨by rw [xa 9 (by decide) (by decide)], by rw [xa 10 (by decide) (by decide)], by rw [xa 15 (by decide) (by decide)], by rw [xa 12 (by decide) (by decide)], fun q => by rw [xa 14 (by decide) (by decide)]; exact q, by rw [xa 13 (by decide) (by decide)], by rw [xa 17 (by decide) (by decide)]⟩, ⟨fun j _ => by rw [xa 8 (by decide) (by decide)], fun b _ => ⟨by rw [xa 26 (by decide) (by decide)], by rw [xa 27 (by decide) (by decide)], by rw [xa 28 (by decide) (by decide)], by rw [xa 29 (by decide) (by decide)], by rw [xa 30 (by decide) (by decide)], by rw [xa 54 (by decide) (by decide)]⟩, fun j _ => by rw [xa 25 (by decide) (by decide)]⟩, by rw [x 17 (by decide)]; exact Int.le_refl _, by rw [x 45 (by decide)]; exact Int.le_refl _, by rw [x 35 (by decide)]; exact Int.le_refl _⟩ ⟨xa 43 (by decide) (by decide), xa 41 (by decide) (by decide), x 70 (by decide), x 78 (by decide)⟩ hE hO hL
    · unfold MIS
      rw [x 88 (by decide), x 91 (by decide)]
      exact hM
  · have e1 := ad1 (x := x) (by omega)
    refine ⟨n - 1, by omega, by omega, by omega, fun j hj => ?_⟩
    by_cases e : j = x.toNatClampNeg
    · rw [e]
      exact fun q => c3 (by rw [q])
    · exact q3 j (by omega)
end PIK
end

section
/-! link: names, the library, what is found -/
def nfm (σ : St) (e k : Nat) : Int := ((σ 20) (((σ 18) e).toInt + k).toNat).toInt
def ALK (σ : St) (e f : Nat) : Prop := ((σ 19) e).toInt = ((σ 19) f).toInt ∧ ∀ k : Nat, (k : Int) < ((σ 19) e).toInt → nfm σ e k = nfm σ f k
def MT (σ : St) (e f : Nat) : Prop := ((σ 12) f).toInt = 0 ∧ ((σ 13) f).toInt = 1 ∧ ALK σ e f
def PO (σ : St) (p : Nat) : Nat := (((σ 40) p).toInt - 1).toNat
def NFD (σ : St) (e : Nat) (m : Int) : Prop := ∀ p : Nat, (p : Int) < m → ∀ f, InO σ (PO σ p) f → ¬ MT σ e f
def FND (σ : St) (e : Nat) (n : Int) (p f : Nat) : Prop := (p : Int) < n ∧ InO σ (PO σ p) f ∧ MT σ e f ∧ NFD σ e p ∧ ∀ f' : Nat, fO σ (PO σ p) ≤ (f' : Int) → f' < f → ¬ MT σ e f'
def RWS (σ : St) (n : Int) : Prop := (0 ≤ n ∧ n ≤ 100) ∧ NMo σ ∧ AllIn 0 8 (σ 15) ∧ ∀ p : Nat, (p : Int) < n → (1 ≤ ((σ 40) p).toInt ∧ ((σ 40) p).toInt ≤ 100) ∧ 0 ≤ fO σ (PO σ p) ∧ fO σ (PO σ p + 1) ≤ 10000 ∧ fO σ (PO σ p) ≤ 9900
def LBk (σ : St) (e k len : Nat) : Prop := ((σ 19) e).toInt = len ∧ ∀ j : Nat, j < len → (chI (SF 2 (k + j))).toInt = nfm σ e j
def LIB (σ : St) (e : Nat) (r : Int32) : Prop := (r.toInt = 0 ∧ LBk σ e 1 3) ∨ (r.toInt = 1 ∧ ¬ LBk σ e 1 3 ∧ LBk σ e 5 3) ∨ (r.toInt = 2 ∧ ¬ LBk σ e 1 3 ∧ ¬ LBk σ e 5 3 ∧ LBk σ e 9 5) ∨ (r.toInt = 3 ∧ ¬ LBk σ e 1 3 ∧ ¬ LBk σ e 5 3 ∧ ¬ LBk σ e 9 5 ∧ LBk σ e 15 4) ∨ (r.toInt = -1 ∧ ¬ LBk σ e 1 3 ∧ ¬ LBk σ e 5 3 ∧ ¬ LBk σ e 9 5 ∧ ¬ LBk σ e 15 4)
section FND
variable {σ s τ t : St} {vs z : List Nat}
theorem fnd_uniq {e p p' f f' : Nat} {n : Int} (h : FND σ e n p f) (g : FND σ e n p' f') : p = p' ∧ f = f' := by
  obtain ⟨h1, h2, h3, h4, h5⟩ := h
  obtain ⟨g1, g2, g3, g4, g5⟩ := g
  have ep : p = p' := by
    rcases Nat.lt_trichotomy p p' with c | c | c
    · exact absurd h3 (g4 p (by omega) f h2)
    · exact c
    · exact absurd g3 (h4 p' (by omega) f' g2)
  subst ep
  refine ⟨rfl, ?_⟩
  rcases Nat.lt_trichotomy f f' with c | c | c
  · exact absurd h3 (g5 f h2.1 c)
  · exact c
  · exact absurd g3 (h5 f' g2.1 c)
theorem lib_uniq {e : Nat} {r r' : Int32} (h : LIB σ e r) (g : LIB σ e r') : r.toInt = r'.toInt := by
  rcases h with ⟨h, a1⟩ | ⟨h, a1, a2⟩ | ⟨h, a1, a2, a3⟩ | ⟨h, a1, a2, a3, a4⟩ | ⟨h, a1, a2, a3, a4⟩ <;> rcases g with ⟨g, b1⟩ | ⟨g, b1, b2⟩ | ⟨g, b1, b2, b3⟩ | ⟨g, b1, b2, b3, b4⟩ | ⟨g, b1, b2, b3, b4⟩ <;> first | exact h.trans g.symm | contradiction
theorem sp_isSymbol {a d : Int32} {Q : Int32 → Prop} (ha : 0 ≤ a.toInt ∧ a.toInt < 10000) (k1 : ((σ 12) a.toNatClampNeg).toInt = 0 → ((σ 13) a.toNatClampNeg).toInt = d.toInt → Q 1) (k0 : ¬ (((σ 12) a.toNatClampNeg).toInt = 0 ∧ ((σ 13) a.toNatClampNeg).toInt = d.toInt) → Q 0) : wp_isSymbol a d σ τ vs Q := by
  unfold wp_isSymbol
  exact ⟨ha, fun c => k0 (fun q => c q.1), fun c => ⟨ha, fun c2 => k0 (fun q => c2 q.2), fun c2 => k1 c c2⟩⟩
theorem nf_ix (h : NMo σ) {e x : Int32} (h0 : 0 ≤ x.toInt) (h1 : x.toInt < ((σ 19) e.toNatClampNeg).toInt) : (0 ≤ ((σ 18) e.toNatClampNeg + x).toInt ∧ ((σ 18) e.toNatClampNeg + x).toInt < 65536) ∧ ((σ 20) ((σ 18) e.toNatClampNeg + x).toNatClampNeg).toInt = nfm σ e.toNatClampNeg x.toNatClampNeg := by
  obtain ⟨m1, m2, m3⟩ := h e.toNatClampNeg
  have e1 : ((σ 18) e.toNatClampNeg + x).toInt = ((σ 18) e.toNatClampNeg).toInt + x.toInt := ad (by omega) (by omega)
  refine ⟨by omega, ?_⟩
  unfold nfm
  rw [nt', e1, nt h0]
theorem sp_isAlike {a b : Int32} {Q : Int32 → Prop} (h : NMo σ) (ha : 0 ≤ a.toInt ∧ a.toInt < 10000) (hb : 0 ≤ b.toInt ∧ b.toInt < 10000) (k1 : ALK σ a.toNatClampNeg b.toNatClampNeg → Q 1) (k0 : ¬ ALK σ a.toNatClampNeg b.toNatClampNeg → Q 0) : wp_isAlike a b σ τ vs Q := by
  unfold wp_isAlike
  refine ⟨ha, hb, fun c => ?_, fun c => k0 (fun q => c q.1)⟩
  have e0 : (0 : Int32).toInt = 0 := by decide
  have ml := (h a.toNatClampNeg).2.1
  have ml2 := (h a.toNatClampNeg).2.2
  have ml3 := (h a.toNatClampNeg).1
  refine ⟨fun n x => (n : Int) = ((σ 19) a.toNatClampNeg).toInt - x.toInt ∧ 0 ≤ x.toInt ∧ ∀ k : Nat, (k : Int) < x.toInt → nfm σ a.toNatClampNeg k = nfm σ b.toNatClampNeg k, ⟨(((σ 19) a.toNatClampNeg).toInt).toNat, by omega, by omega, fun k hk => by omega⟩, ?_⟩
  rintro n x ⟨q1, q2, q3⟩
  have nx := nt q2
  refine ⟨ha, fun c2 => k1 ⟨c, fun k hk => q3 k (by omega)⟩, fun c2 => ?_⟩
  obtain ⟨i1, i2⟩ := nf_ix h (e := a) q2 c2
  obtain ⟨i3, i4⟩ := nf_ix h (e := b) q2 (by omega)
  have e1 := ad1 (x := x) (by omega)
  refine ⟨ha, i1, hb, i3, fun c3 => ⟨n - 1, by omega, by omega, by omega, fun k hk => ?_⟩, fun c3 => k0 (fun q => ?_)⟩
  · by_cases e : k = x.toNatClampNeg
    · rw [e, ← i2, ← i4]; exact c3
    · exact q3 k (by omega)
  · rw [i2, i4] at c3
    exact c3 (q.2 _ (by omega))
theorem po_of {n : Int} (h : RWS σ n) {p : Int32} (h0 : 0 ≤ p.toInt) (h1 : p.toInt < n) : (0 ≤ p.toInt ∧ p.toInt < 100) ∧ (0 ≤ ((σ 40) p.toNatClampNeg - (1 : Int32)).toInt ∧ ((σ 40) p.toNatClampNeg - (1 : Int32)).toInt < 100) ∧ ((σ 40) p.toNatClampNeg - (1 : Int32)).toNatClampNeg = PO σ p.toNatClampNeg ∧ (0 ≤ ((σ 40) p.toNatClampNeg).toInt ∧ ((σ 40) p.toNatClampNeg).toInt < 102) ∧ ((σ 40) p.toNatClampNeg).toNatClampNeg = PO σ p.toNatClampNeg + 1 ∧ 0 ≤ fO σ (PO σ p.toNatClampNeg) ∧ fO σ (PO σ p.toNatClampNeg + 1) ≤ 10000 ∧ (((σ 40) p.toNatClampNeg - (1 : Int32)) + (1 : Int32)) = (σ 40) p.toNatClampNeg ∧ fO σ (PO σ p.toNatClampNeg) ≤ 9900 := by
  have np := nt h0
  have hn := h.1
  obtain ⟨⟨g1, g2⟩, g3, g4, g5⟩ := h.2.2.2 p.toNatClampNeg (by omega)
  have e := sb1 (x := (σ 40) p.toNatClampNeg) (by omega)
  have e2 := ad1 (x := (σ 40) p.toNatClampNeg - (1 : Int32)) (by omega)
  refine ⟨by omega, by omega, by unfold PO; rw [nt', e], by omega, ?_, g3, g4, ieq (by omega), g5⟩
  have := nt (x := (σ 40) p.toNatClampNeg) (by omega)
  unfold PO
  omega
theorem sp_find {e n : Int32} {Q : Int32 → St → St → List Nat → Prop} (h : RWS σ n.toInt) (he : 0 ≤ e.toInt ∧ e.toInt < 10000) (k0 : NFD σ e.toNatClampNeg n.toInt → Q 0 σ τ vs) (k1 : ∀ p f : Int32, (0 ≤ p.toInt ∧ p.toInt < 100) → (0 ≤ f.toInt ∧ f.toInt < 10000) → FND σ e.toNatClampNeg n.toInt p.toNatClampNeg f.toNatClampNeg → Q 1 (upC (upC σ 0 73 p) 0 74 f) τ vs) : wp_find e n σ τ vs Q := by
  have hn := h.1
  have e0 : (0 : Int32).toInt = 0 := by decide
  have e1' : (1 : Int32).toInt = 1 := by decide
  unfold wp_find
  refine ⟨fun m p => (m : Int) = n.toInt - p.toInt ∧ 0 ≤ p.toInt ∧ NFD σ e.toNatClampNeg p.toInt, ⟨n.toInt.toNat, by omega, by omega, fun p hp => by omega⟩, ?_⟩
  rintro m p ⟨q1, q2, q3⟩
  refine ⟨fun c => k0 (fun p' hp' => q3 p' (by omega)), fun c => ?_⟩
  obtain ⟨i1, i2, i3, i4, i5, i6, i7, i8, i9⟩ := po_of h q2 c
  have np := nt q2
  have ep := ad1 (x := p) (by omega)
  rw [i3, i5]
  have ef : ((σ 22) (PO σ p.toNatClampNeg)).toInt = fO σ (PO σ p.toNatClampNeg) := rfl
  have ef2 : ((σ 22) (PO σ p.toNatClampNeg + 1)).toInt = fO σ (PO σ p.toNatClampNeg + 1) := rfl
  refine ⟨i1, by omega, fun m' f => m' = (fO σ (PO σ p.toNatClampNeg + 1) - f.toInt).toNat ∧ fO σ (PO σ p.toNatClampNeg) ≤ f.toInt ∧ ∀ f' : Nat, fO σ (PO σ p.toNatClampNeg) ≤ (f' : Int) → (f' : Int) < f.toInt → ¬ MT σ e.toNatClampNeg f', ⟨_, rfl, by omega, fun f' a b => by omega⟩, ?_⟩
  rintro m' f ⟨r1, r2, r3⟩
  have nf := nt (x := f) (by omega)
  refine ⟨i1, i4, fun c2 => ⟨m - 1, by omega, by omega, by omega, fun p' hp' f' hf' => ?_⟩, fun c2 => ?_⟩
  · by_cases e9 : p' = p.toNatClampNeg
    · subst e9
      exact r3 f' hf'.1 (by have := hf'.2; omega)
    · exact q3 p' (by omega) f' hf'
  have nl := ad1 (x := f) (by omega)
  have nxt9 : ¬ MT σ e.toNatClampNeg f.toNatClampNeg → ∃ m_1, m_1 < m' ∧ (m_1 = (fO σ (PO σ p.toNatClampNeg + 1) - (f + 1).toInt).toNat ∧ fO σ (PO σ p.toNatClampNeg) ≤ (f + 1).toInt ∧ ∀ f' : Nat, fO σ (PO σ p.toNatClampNeg) ≤ (f' : Int) → (f' : Int) < (f + 1).toInt → ¬ MT σ e.toNatClampNeg f') := fun hM => ⟨_, by omega, rfl, by omega, fun f' a b => by
    by_cases e9 : f' = f.toNatClampNeg
    · rw [e9]; exact hM
    · exact r3 f' a (by omega)⟩
  refine sp_isSymbol (by omega) (fun a1 a2 => ⟨¬ MT σ e.toNatClampNeg f.toNatClampNeg, nxt9, no1, fun _ => ?_⟩) (fun a1 => ⟨¬ MT σ e.toNatClampNeg f.toNatClampNeg, nxt9, fun _ q => a1 ⟨q.1, by rw [q.2.1, e1']⟩, no0⟩)
  rw [e1'] at a2
  refine sp_isAlike h.2.1 he (by omega) (fun al => ⟨fun _ => ?_, no1⟩) (fun al => ⟨no0, fun _ q => al q.2.2⟩)
  exact k1 p f i1 (by omega) ⟨by omega, ⟨by omega, by omega⟩, ⟨a1, a2, al⟩, fun p' hp' => q3 p' (by omega), fun f' x1 x2 => r3 f' x1 (by omega)⟩
theorem lib_word {e x2 : Int32} {k len : Nat} {Y : Prop} {N : Int32 → Prop} (hM : NMo σ) (he : 0 ≤ e.toInt ∧ e.toInt < 10000) (h2 : x2.toInt = k) (hl : k + len < 20) (h3 : ∀ j, j < len → (chI (SF 2 (k + j))).toInt ≠ 32) (kY : LBk σ e.toNatClampNeg k len → Y) (kN : ¬ LBk σ e.toNatClampNeg k len → ∀ x4 : Int32, x4.toInt = (k : Int) + len → N x4) (h4 : (chI (SF 2 (k + len))).toInt = 32) :
    ∃ L12 : Nat → Int32 → Prop, (∃ n, L12 n x2) ∧ ∀ (n12 : Nat) (x4_12 : Int32), L12 n12 x4_12 → (((0 ≤ x4_12.toInt ∧ x4_12.toInt < SN 2) ∧ ((chI (SF 2 x4_12.toNatClampNeg)).toInt = 32 → ((0 ≤ e.toInt ∧ e.toInt < 10000) ∧ (∃ J49 : Int32 → Prop, (∀ (y0_49 : Int32), y0_49 = 0 ∨ y0_49 = 1 → J49 y0_49 → (∃ L54 : Nat → Int32 → Int32 → Prop, (∃ n, L54 n y0_49 (0 : Int32)) ∧ ∀ (n54 : Nat) (x5_54 : Int32) (x6_54 : Int32), x5_54 = 0 ∨ x5_54 = 1 → L54 n54 x5_54 x6_54 → ((∃ J108 : Prop, (J108  → ((x5_54.toInt = 0 → N x4_12) ∧ (x5_54.toInt ≠ 0 → Y))) ∧ (x5_54.toInt = 0 → J108) ∧ (x5_54.toInt ≠ 0 → ((x4_12 - x2).toInt ≤ x6_54.toInt → J108) ∧ (x6_54.toInt < (x4_12 - x2).toInt → ((0 ≤ (x2 + x6_54).toInt ∧ (x2 + x6_54).toInt < SN 2) ∧ ((0 ≤ e.toInt ∧ e.toInt < 10000) ∧ ((0 ≤ ((σ 18 e.toNatClampNeg) + x6_54).toInt ∧ ((σ 18 e.toNatClampNeg) + x6_54).toInt < 65536) ∧ (∃ J100 : Int32 → Prop, (∀ (y0_100 : Int32), y0_100 = 0 ∨ y0_100 = 1 → J100 y0_100 → (∃ m, m < n54 ∧ L54 m y0_100 (x6_54 + 1))) ∧ ((chI (SF 2 (x2 + x6_54).toNatClampNeg)).toInt ≠ (σ 20 ((σ 18 e.toNatClampNeg) + x6_54).toNatClampNeg).toInt → J100 (0 : Int32)) ∧ ((chI (SF 2 (x2 + x6_54).toNatClampNeg)).toInt = (σ 20 ((σ 18 e.toNatClampNeg) + x6_54).toNatClampNeg).toInt → J100 (1 : Int32)))))))))))) ∧ ((x4_12 - x2).toInt ≠ (σ 19 e.toNatClampNeg).toInt → J49 (0 : Int32)) ∧ ((x4_12 - x2).toInt = (σ 19 e.toNatClampNeg).toInt → J49 (1 : Int32))))) ∧ ((chI (SF 2 x4_12.toNatClampNeg)).toInt ≠ 32 → ∃ m, m < n12 ∧ L12 m (x4_12 + 1)))) := by
  have eN : ((SN 2 : Nat) : Int) = 20 := by decide
  have e0 : (0 : Int32).toInt = 0 := by decide
  have e1' : (1 : Int32).toInt = 1 := by decide
  refine ⟨fun n x => (n : Int) = (k : Int) + len - x.toInt ∧ (k : Int) ≤ x.toInt ∧ x.toInt ≤ (k : Int) + len, ⟨len, by omega, by omega, by omega⟩, ?_⟩
  rintro n x ⟨q1, q2, q3⟩
  have nx := nt (x := x) (by omega)
  have ex := ad1 (x := x) (by omega)
  refine ⟨by omega, fun c => ⟨he, ?_⟩, fun c => ⟨n - 1, ?_⟩⟩
  · have hx : x.toInt = (k : Int) + len := by
      by_cases q : x.toInt = (k : Int) + len
      · exact q
      · have e9 : x.toNatClampNeg = k + (x.toNatClampNeg - k) := by omega
        rw [e9] at c
        exact absurd c (h3 _ (by omega))
    have es : (x - x2).toInt = len := by rw [sb (by omega) (by omega)]; omega
    rw [es]
    refine ⟨fun y => y.toInt ≠ 0 ↔ ((σ 19) e.toNatClampNeg).toInt = len, fun y hy hj => ?_, fun c2 => ⟨fun q => absurd e0 q, fun q => absurd q.symm c2⟩, fun c2 => ⟨fun _ => c2.symm, fun _ => by decide⟩⟩
    refine ⟨fun n5 x5 x6 => (n5 : Int) = len - x6.toInt ∧ (0 ≤ x6.toInt ∧ x6.toInt ≤ len) ∧ (x5.toInt ≠ 0 → ((σ 19) e.toNatClampNeg).toInt = len ∧ ∀ j : Nat, (j : Int) < x6.toInt → (chI (SF 2 (k + j))).toInt = nfm σ e.toNatClampNeg j) ∧ (x5.toInt = 0 → ¬ LBk σ e.toNatClampNeg k len), ⟨len, by omega, by omega, fun c2 => ⟨hj.mp c2, fun j hj => by omega⟩, fun c2 q => (hj.mpr q.1) c2⟩, ?_⟩
    rintro n5 x5 x6 hx5 ⟨r1, r2, r3, r4⟩
    have n6 := nt (x := x6) (by omega)
    have e6 := ad1 (x := x6) (by omega)
    refine ⟨(x5.toInt ≠ 0 → LBk σ e.toNatClampNeg k len) ∧ (x5.toInt = 0 → ¬ LBk σ e.toNatClampNeg k len), fun hJ => ⟨fun c2 => kN (hJ.2 c2) x hx, fun c2 => kY (hJ.1 c2)⟩, fun c2 => ⟨fun c3 => absurd c2 c3, r4⟩, fun c2 => ⟨fun c3 => ⟨fun _ => ⟨(r3 c2).1, fun j hj => (r3 c2).2 j (by omega)⟩, r4⟩, fun c3 => ?_⟩⟩
    have e2 : (x2 + x6).toInt = x2.toInt + x6.toInt := ad (by omega) (by omega)
    have en : (x2 + x6).toNatClampNeg = k + x6.toNatClampNeg := by have := nt (x := x2 + x6) (by omega); omega
    obtain ⟨i1, i2⟩ := nf_ix hM (e := e) (x := x6) (by omega) (by rw [(r3 c2).1]; exact c3)
    rw [i2, en]
    refine ⟨by omega, he, i1, fun y => (y.toInt ≠ 0 ↔ (chI (SF 2 (k + x6.toNatClampNeg))).toInt = nfm σ e.toNatClampNeg x6.toNatClampNeg), fun y hy hJ => ⟨n5 - 1, by omega, by omega, by omega, fun c4 => ⟨(r3 c2).1, fun j hj => ?_⟩, fun c4 q => ?_⟩, fun c4 => ⟨fun q => absurd e0 q, fun q => absurd q c4⟩, fun c4 => ⟨fun _ => c4, fun _ => by decide⟩⟩
    · by_cases e9 : j = x6.toNatClampNeg
      · rw [e9]; exact hJ.mp c4
      · exact (r3 c2).2 j (by omega)
    · exact hJ.mpr (q.2 _ (by omega)) c4
  · have hx : x.toInt ≠ (k : Int) + len := fun q => by
      have e9 : x.toNatClampNeg = k + len := by omega
      rw [e9] at c
      exact c h4
    exact ⟨by omega, by omega, by omega, by omega⟩
theorem sp_library {e : Int32} {Q : Int32 → Prop} (hM : NMo σ) (he : 0 ≤ e.toInt ∧ e.toInt < 10000) (h : ∀ r, LIB σ e.toNatClampNeg r → Q r) : wp_library_0 e σ τ vs Q := by
  have e0 : (0 : Int32).toInt = 0 := by decide
  have e1' : (1 : Int32).toInt = 1 := by decide
  unfold wp_library_0
  refine ⟨fun n x i => (n : Int) = 4 - i.toInt ∧ ((i.toInt = 0 ∧ x.toInt = (1 : Nat)) ∨ (i.toInt = 1 ∧ x.toInt = (5 : Nat) ∧ ¬ LBk σ e.toNatClampNeg 1 3) ∨ (i.toInt = 2 ∧ x.toInt = (9 : Nat) ∧ ¬ LBk σ e.toNatClampNeg 1 3 ∧ ¬ LBk σ e.toNatClampNeg 5 3) ∨ (i.toInt = 3 ∧ x.toInt = (15 : Nat) ∧ ¬ LBk σ e.toNatClampNeg 1 3 ∧ ¬ LBk σ e.toNatClampNeg 5 3 ∧ ¬ LBk σ e.toNatClampNeg 9 5) ∨ (i.toInt = 4 ∧ ¬ LBk σ e.toNatClampNeg 1 3 ∧ ¬ LBk σ e.toNatClampNeg 5 3 ∧ ¬ LBk σ e.toNatClampNeg 9 5 ∧ ¬ LBk σ e.toNatClampNeg 15 4)), ⟨4, by omega, Or.inl ⟨e0, e1'⟩⟩, ?_⟩
  rintro n x i ⟨q1, q2⟩
  have ei : ∀ j : Int, i.toInt = j → j < 100 → (i + 1).toInt = j + 1 := fun j hj h1 => by rw [ad1 (by omega), hj]
  have ex : ∀ (y : Int32) (j : Int), y.toInt = j → j < 100 → (y + (1 : Int32)).toInt = j + 1 := fun y j hj h1 => by rw [ad1 (by omega), hj]
  rcases q2 with ⟨a, b⟩ | ⟨a, b, c1⟩ | ⟨a, b, c1, c2⟩ | ⟨a, b, c1, c2, c3⟩ | ⟨a, c1, c2, c3, c4⟩
  · refine ⟨fun c => by omega, fun _ => lib_word (k := 1) (len := 3) hM he b (by decide) (by decide +kernel) (fun y => h _ (Or.inl ⟨a, y⟩)) (fun y x4 hx4 => ⟨3, by omega, by rw [ei 0 a (by decide)]; omega, Or.inr (Or.inl ⟨by rw [ei 0 a (by decide)]; decide, by rw [ex _ _ hx4 (by decide)]; decide, y⟩)⟩) (by decide +kernel)⟩
  · refine ⟨fun c => by omega, fun _ => lib_word (k := 5) (len := 3) hM he b (by decide) (by decide +kernel) (fun y => h _ (Or.inr (Or.inl ⟨a, c1, y⟩))) (fun y x4 hx4 => ⟨2, by omega, by rw [ei 1 a (by decide)]; omega, Or.inr (Or.inr (Or.inl ⟨by rw [ei 1 a (by decide)]; decide, by rw [ex _ _ hx4 (by decide)]; decide, c1, y⟩))⟩) (by decide +kernel)⟩
  · refine ⟨fun c => by omega, fun _ => lib_word (k := 9) (len := 5) hM he b (by decide) (by decide +kernel) (fun y => h _ (Or.inr (Or.inr (Or.inl ⟨a, c1, c2, y⟩)))) (fun y x4 hx4 => ⟨1, by omega, by rw [ei 2 a (by decide)]; omega, Or.inr (Or.inr (Or.inr (Or.inl ⟨by rw [ei 2 a (by decide)]; decide, by rw [ex _ _ hx4 (by decide)]; decide, c1, c2, y⟩)))⟩) (by decide +kernel)⟩
  · refine ⟨fun c => by omega, fun _ => lib_word (k := 15) (len := 4) hM he b (by decide) (by decide +kernel) (fun y => h _ (Or.inr (Or.inr (Or.inr (Or.inl ⟨a, c1, c2, c3, y⟩))))) (fun y x4 hx4 => ⟨0, by omega, by rw [ei 3 a (by decide)]; omega, Or.inr (Or.inr (Or.inr (Or.inr ⟨by rw [ei 3 a (by decide)]; decide, c1, c2, c3, y⟩)))⟩) (by decide +kernel)⟩
  · exact ⟨fun _ => h _ (Or.inr (Or.inr (Or.inr (Or.inr ⟨by decide, c1, c2, c3, c4⟩)))), fun c => by omega⟩
theorem sp_hasLibraryType {e l : Int32} {Q : Int32 → Prop} (he : 0 ≤ e.toInt ∧ e.toInt < 10000) (k1 : ((σ 9) e.toNatClampNeg).toInt = 2 → (l.toInt = 0 → ((σ 10) e.toNatClampNeg).toInt = 0 ∧ ((σ 15) e.toNatClampNeg).toInt = 0) → (l.toInt ≠ 0 → ((σ 10) e.toNatClampNeg).toInt = -1 ∧ ((σ 15) e.toNatClampNeg).toInt = 1) → Q 1) (k0 : Q 0) : wp_hasLibraryType e l σ τ vs Q := by
  have e8 : ((8 : Int32)).toInt = 8 := by decide
  unfold wp_hasLibraryType
  refine ⟨he, fun c => ⟨fun c1 => ⟨he, fun _ => k0, fun c2 => ⟨he, fun _ => k0, fun c3 => ⟨?_, fun _ => k0, fun _ => k1 c (fun q => absurd q c1) (fun _ => ⟨c2, c3⟩)⟩⟩⟩, fun c1 => ⟨he, fun _ => k0, fun c2 => ⟨he, fun _ => k0, fun c3 => k1 c (fun _ => ⟨c2, c3⟩) (fun q => absurd c1 q)⟩⟩⟩, fun _ => k0⟩
  have := mul8 (x := e) he.1 (by omega)
  omega
end FND
end

section
/-! link: what holds of a symbol -/
def LTy (σ : St) (e : Nat) (l : Int) : Prop := (l = 0 → ((σ 10) e).toInt = 0 ∧ ((σ 15) e).toInt = 0) ∧ (l ≠ 0 → ((σ 10) e).toInt = -1 ∧ ((σ 15) e).toInt = 1)
def HTy (σ : St) (e f : Nat) : Prop := ((σ 9) e).toInt = ((σ 9) f).toInt ∧ ((σ 10) e).toInt = ((σ 10) f).toInt ∧ (((σ 9) e).toInt ≠ 1 → ((σ 15) e).toInt = ((σ 15) f).toInt)
def NOTH (σ : St) (num : Int) (e : Nat) (n : Int) : Prop := (num = 32 → ((σ 12) e).toInt = 0 → ((σ 13) e).toInt = 0 → ((σ 14) e).toInt ≠ 0 → (∃ r, LIB σ e r ∧ 0 ≤ r.toInt) ∨ ∃ p f : Nat, FND σ e n p f) ∧ (num = 33 → ((σ 12) e).toInt = 0 → ((σ 13) e).toInt = 0 → (∀ r, LIB σ e r → 0 ≤ r.toInt → LTy σ e r.toInt) ∧ ∀ r (p f : Nat), LIB σ e r → r.toInt < 0 → FND σ e n p f → HTy σ e f)
def AIMR (σ : St) (e : Nat) (n : Int) (r : Int32) : Prop := (((σ 13) e).toInt ≠ 0 → ((σ 9) e).toInt ≠ 1 → r = (σ 17) e) ∧ (((σ 13) e).toInt = 0 → ((σ 12) e).toInt = 0 → (∀ l, LIB σ e l → 0 ≤ l.toInt → r.toInt = -1 - l.toInt) ∧ ∀ l (p f : Nat), LIB σ e l → l.toInt < 0 → FND σ e n p f → ((σ 9) e).toInt ≠ 1 → r = (σ 17) f)
abbrev KLi (σ s : St) : Prop := Kp [(0, 67), (0, 71), (0, 72), (0, 73), (0, 74)] [] σ s
/-- the cells that linking reads -/
def zL (σ : St) : St := fun c k => if c = 0 ∨ (41 ≤ c ∧ c ≤ 45) then 0 else σ c k
abbrev KLy (σ s : St) : Prop := Kp [(0, 67), (0, 71), (0, 72), (0, 73), (0, 74), (0, 78)] [42, 44, 45, 43, 41] σ s
section HLD
variable {σ s τ t : St} {vs z : List Nat}
theorem zl_of (k : KLy σ s) : zL s = zL σ := by
  funext c j
  unfold zL
  by_cases h : c = 0 ∨ (41 ≤ c ∧ c ≤ 45)
  · rw [if_pos h, if_pos h]
  · rw [if_neg h, if_neg h]
    refine k c j ?_ ?_
    · simp
      omega
    · simp
      omega
theorem rws_z {n : Int} : RWS (zL σ) n = RWS σ n := rfl
theorem noth_z {a : Int} {e : Nat} {n : Int} : NOTH (zL σ) a e n = NOTH σ a e n := rfl
theorem aimr_z {e : Nat} {n : Int} {r : Int32} : AIMR (zL σ) e n r = AIMR σ e n r := rfl
theorem rws_k {n : Int} (k : KLy σ s) (h : RWS σ n) : RWS s n := by
  rw [← rws_z, zl_of k, rws_z]; exact h
theorem noth_k {a : Int} {e : Nat} {n : Int} (k : KLy σ s) (h : NOTH s a e n) : NOTH σ a e n := by
  rw [← noth_z, ← zl_of k, noth_z]; exact h
theorem aimr_k {e : Nat} {n : Int} {r : Int32} (k : KLy σ s) (h : AIMR s e n r) : AIMR σ e n r := by
  rw [← aimr_z, ← zl_of k, aimr_z]; exact h
theorem sp_hasType {e f : Int32} {Q : Int32 → Prop} (hA : AllIn 0 8 (σ 15)) (he : 0 ≤ e.toInt ∧ e.toInt < 10000) (hf : 0 ≤ f.toInt ∧ f.toInt < 10000) (k1 : HTy σ e.toNatClampNeg f.toNatClampNeg → Q 1) (k0 : Q 0) : wp_hasType e f σ τ vs Q := by
  have e0 : (0 : Int32).toInt = 0 := by decide
  unfold wp_hasType
  refine ⟨he, hf, fun _ => k0, fun c1 => ⟨he, hf, fun c2 => ⟨he, fun c3 => ⟨he, hf, fun c4 => ?_, fun _ => k0⟩, fun c3 => ⟨he, ?_⟩⟩, fun _ => k0⟩⟩
  · have hp := hA e.toNatClampNeg
    refine ⟨fun n x => (n : Int) = ((σ 15) e.toNatClampNeg).toInt - x.toInt ∧ 0 ≤ x.toInt, ⟨((σ 15) e.toNatClampNeg).toInt.toNat, by omega, by omega⟩, ?_⟩
    rintro n x ⟨q1, q2⟩
    refine ⟨he, fun _ => k1 ⟨c1, c2, fun _ => c4⟩, fun c5 => ?_⟩
    have m1 := mul8 (x := e) he.1 (by omega)
    have m2 := mul8 (x := f) hf.1 (by omega)
    have a1 : (((8 : Int32) * e) + x).toInt = 8 * e.toInt + x.toInt := by rw [← m1]; exact ad (by omega) (by omega)
    have a2 : (((8 : Int32) * f) + x).toInt = 8 * f.toInt + x.toInt := by rw [← m2]; exact ad (by omega) (by omega)
    have a3 := ad1 (x := x) (by omega)
    exact ⟨by omega, by omega, fun _ => ⟨n - 1, by omega, by omega, by omega⟩, fun _ => k0⟩
  · have fin : HTy σ e.toNatClampNeg f.toNatClampNeg := ⟨c1, c2, fun q => absurd c3 q⟩
    exact ⟨fun _ => True, fun y _ _ => ⟨hf, fun _ => True, fun y9 _ _ => ⟨fun _ => k0, fun _ => ⟨he, fun _ => k1 fin, fun _ => ⟨he, hf, fun _ => k0, fun _ => k1 fin⟩⟩⟩, fun _ => trivial, fun _ => trivial⟩, fun _ => trivial, fun _ => trivial⟩
theorem sp_holds {num p e n : Int32} {Q : Int32 → St → St → List Nat → Prop} (h : RWS σ n.toInt) (hp : 0 ≤ p.toInt ∧ p.toInt ≤ n.toInt) (he : 0 ≤ e.toInt ∧ e.toInt < 10000) (k : ∀ (r : Int32) s, Kp [(0, 73), (0, 74)] [] σ s → (r.toInt = 0 → NOTH σ num.toInt e.toNatClampNeg n.toInt) → Q r s τ vs) : wp_holds num p e n σ τ vs Q := by
  have e0 : (0 : Int32).toInt = 0 := by decide
  have e1' : (1 : Int32).toInt = 1 := by decide
  have n01 : ∀ P : Prop, (1 : Int32).toInt = 0 → P := fun P c => absurd c (by decide)
  have hn := h.1
  unfold wp_holds
  refine sp_library h.2.1 he (fun l hl => ⟨fun c1 => ?_, fun c1 => ?_⟩)
  · have notsym : ¬ (((σ 12) e.toNatClampNeg).toInt = 0 ∧ ((σ 13) e.toNatClampNeg).toInt = (0 : Int32).toInt) → NOTH σ num.toInt e.toNatClampNeg n.toInt := fun q => ⟨fun _ a b => absurd ⟨a, by rw [e0]; exact b⟩ q, fun _ a b => absurd ⟨a, by rw [e0]; exact b⟩ q⟩
    refine sp_isSymbol he (fun s1 s2 => ⟨fun _ => ⟨fun c2 => ⟨fun c3 => ?_, fun c3 => ?_⟩, fun c2 => ⟨he, fun c3 => ?_, fun c3 => ⟨fun c4 => ?_, fun c4 => ?_⟩⟩⟩, no1⟩) (fun q => ⟨no0, fun _ => k _ _ kp_rf (fun _ => notsym q)⟩)
    · refine sp_find h he (fun nf => ⟨fun _ => k _ _ kp_rf (fun _ => ⟨fun q => absurd q c2, fun _ _ _ => ⟨fun r hr q => ?_, fun r p' f' hr q fn => absurd fn.2.2.1 (nf p' fn.1 f' fn.2.1)⟩⟩), no0⟩) (fun p' f' hp' hf' fn => ⟨no1, fun _ => ?_⟩)
      · have := lib_uniq hr hl; omega
      · have ef : (upC (upC σ 0 73 p') 0 74 f') 0 74 = f' := rfl
        rw [ef]
        refine sp_hasType (σ := upC (upC σ 0 73 p') 0 74 f') h.2.2.1 he hf' (fun ht => ⟨fun _ => k _ _ (kp_f (kp_f kp_rf rfl) rfl) (fun _ => ⟨fun q => absurd q c2, fun _ _ _ => ⟨fun r hr q => ?_, fun r p9 f9 hr q fn9 => ?_⟩⟩), no1⟩) ⟨no0, fun _ => k _ _ (kp_f (kp_f kp_rf rfl) rfl) (n01 _)⟩
        · have := lib_uniq hr hl; omega
        · obtain ⟨-, u2⟩ := fnd_uniq fn9 fn
          rw [u2]
          exact ht
    · refine sp_hasLibraryType he (fun t1 t2 t3 => ⟨fun _ => k _ _ kp_rf (fun _ => ⟨fun q => absurd q c2, fun _ _ _ => ⟨fun r hr q => ?_, fun r p' f' hr q fn => ?_⟩⟩), no1⟩) ⟨no0, fun _ => k _ _ kp_rf (n01 _)⟩
      · have u := lib_uniq hr hl
        rw [u]
        exact ⟨t2, t3⟩
      · have := lib_uniq hr hl; omega
    · exact k _ _ kp_rf (fun _ => ⟨fun _ _ _ q => absurd c3 q, fun q => by omega⟩)
    · exact k _ _ kp_rf (fun _ => ⟨fun _ _ _ _ => Or.inl ⟨l, hl, c4⟩, fun q => by omega⟩)
    · exact sp_find h he (fun nf => ⟨no0, fun _ => k _ _ kp_rf (n01 _)⟩) (fun p' f' hp' hf' fn => ⟨fun _ => k _ _ (kp_f (kp_f kp_rf rfl) rfl) (fun _ => ⟨fun _ _ _ _ => Or.inr ⟨_, _, fn⟩, fun q => by omega⟩), no1⟩)
  · have triv : NOTH σ num.toInt e.toNatClampNeg n.toInt := ⟨fun q => by omega, fun q => by omega⟩
    have hR : RWS σ p.toInt := ⟨by omega, h.2.1, h.2.2.1, fun p' hp' => h.2.2.2 p' (by omega)⟩
    refine sp_isSymbol he (fun s1 s2 => ⟨no1, fun _ => ⟨fun c2 => k _ _ kp_rf (fun _ => triv), fun c2 => ?_⟩⟩) (fun q => ⟨fun _ => k _ _ kp_rf (fun _ => triv), no0⟩)
    exact sp_find hR he (fun nf => ⟨fun _ => k _ _ kp_rf (fun _ => triv), no0⟩) (fun p' f' hp' hf' fn => ⟨no1, fun _ => k _ _ (kp_f (kp_f kp_rf rfl) rfl) (fun _ => triv)⟩)
def CLN (σ : St) (num : Int) (n : Int) : Prop := ∀ p : Nat, (p : Int) < n → ∀ e, InO σ (PO σ p) e → ((σ 12) e).toInt = 0 → NOTH σ num e n
theorem sp_isFault {num n : Int32} {Q : Int32 → St → St → List Nat → Prop} (h : RWS σ n.toInt) (k0 : ∀ s, Kp [(0, 73), (0, 74)] [] σ s → CLN σ num.toInt n.toInt → Q 0 s τ vs) (k1 : ∀ s, Kp [(0, 71), (0, 72), (0, 73), (0, 74)] [] σ s → Q 1 s τ vs) : wp_isFault num n σ τ vs Q := by
  have e0 : (0 : Int32).toInt = 0 := by decide
  have hn := h.1
  unfold wp_isFault
  refine ⟨fun m p s t z => (m : Int) = n.toInt - p.toInt ∧ 0 ≤ p.toInt ∧ Kp [(0, 73), (0, 74)] [] σ s ∧ t = τ ∧ z = vs ∧ ∀ p' : Nat, (p' : Int) < p.toInt → ∀ e, InO σ (PO σ p') e → ((σ 12) e).toInt = 0 → NOTH σ num.toInt e n.toInt, ⟨n.toInt.toNat, by omega, by omega, kp_rf, rfl, rfl, fun p' hp' => by omega⟩, ?_⟩
  rintro m p s t z ⟨q1, q2, kk, rfl, rfl, q3⟩
  refine ⟨fun c => k0 s kk (fun p' hp' => q3 p' (by omega)), fun c => ?_⟩
  have hs := rws_k (kp_sub kk rfl rfl) h
  obtain ⟨i1, i2, i3, i4, i5, i6, i7, i8, i9⟩ := po_of hs q2 c
  have a40 : (s 40) = (σ 40) := funext (fun j => kk 40 j rfl rfl)
  have a22 : (s 22) = (σ 22) := funext (fun j => kk 22 j rfl rfl)
  have ePO : PO s p.toNatClampNeg = PO σ p.toNatClampNeg := by unfold PO; rw [a40]
  rw [i3]
  rw [ePO] at i5 i6 i7 i9 ⊢
  have efs : ∀ o, fO s o = fO σ o := fun o => by unfold fO; rw [a22]
  rw [efs] at i6 i7 i9
  have np := nt q2
  have ep := ad1 (x := p) (by omega)
  have ef : ((s 22) (PO σ p.toNatClampNeg)).toInt = fO σ (PO σ p.toNatClampNeg) := by rw [a22]; rfl
  refine ⟨i1, by rw [ePO] at i3; omega, fun m' x4 e s5 t5 z5 => m' = (fO σ (PO σ p.toNatClampNeg + 1) - e.toInt).toNat ∧ fO σ (PO σ p.toNatClampNeg) ≤ e.toInt ∧ Kp [(0, 73), (0, 74)] [] σ s5 ∧ t5 = t ∧ z5 = z ∧ ∀ e' : Nat, fO σ (PO σ p.toNatClampNeg) ≤ (e' : Int) → (e' : Int) < e.toInt → ((σ 12) e').toInt = 0 → NOTH σ num.toInt e' n.toInt, ⟨_, rfl, by omega, kk, rfl, rfl, fun e' a b => by omega⟩, ?_⟩
  rintro m' x4 e s5 t5 z5 ⟨r1, r2, k5, rfl, rfl, r3⟩
  have b40 : (s5 40) = (σ 40) := funext (fun j => k5 40 j rfl rfl)
  have b22 : (s5 22) = (σ 22) := funext (fun j => k5 22 j rfl rfl)
  have b12 : (s5 12) = (σ 12) := funext (fun j => k5 12 j rfl rfl)
  rw [b40, b22, b12]
  rw [a40] at i4 i5
  rw [i5]
  have ef2 : ((σ 22) (PO σ p.toNatClampNeg + 1)).toInt = fO σ (PO σ p.toNatClampNeg + 1) := rfl
  have ne := nt (x := e) (by omega)
  refine ⟨i1, i4, fun c2 => ⟨m - 1, by omega, by omega, by omega, k5, rfl, rfl, fun p' hp' e' he' hs' => ?_⟩, fun c2 => ?_⟩
  · by_cases e9 : p' = p.toNatClampNeg
    · subst e9
      exact r3 e' he'.1 (by have := he'.2; omega) hs'
    · exact q3 p' (by omega) e' he' hs'
  have e1 := ad1 (x := e) (by omega)
  refine ⟨by omega, fun x9 s9 t9 z9 => Kp [(0, 73), (0, 74)] [] σ s9 ∧ t9 = t5 ∧ z9 = z5 ∧ (((σ 12) e.toNatClampNeg).toInt = 0 → NOTH σ num.toInt e.toNatClampNeg n.toInt), ?_, fun c3 => ?_, fun c3 => ⟨k5, rfl, rfl, fun q => absurd q c3⟩⟩
  · rintro x9 s9 t9 z9 ⟨k9, rfl, rfl, hh⟩
    refine ⟨_, by omega, rfl, by omega, k9, rfl, rfl, fun e' a b hs' => ?_⟩
    by_cases e9 : e' = e.toNatClampNeg
    · subst e9; exact hh hs'
    · exact r3 e' a (by omega) hs'
  · refine sp_holds (rws_k (kp_sub k5 rfl rfl) h) ⟨q2, by omega⟩ (by omega) (fun r s6 k6 hr => ⟨fun c4 => ⟨kp_tr k5 k6, rfl, rfl, fun _ => noth_k (kp_sub k5 rfl rfl) (hr c4)⟩, fun _ => k1 _ (kp_f (kp_f (kp_sub (kp_tr k5 k6) rfl rfl) rfl) rfl)⟩)
/-- main, where there is one -/
theorem sp_mainOf {n : Int32} {Q : Int32 → Prop} (h : RWS σ n.toInt) (k0 : Q (-1)) (k1 : ∀ p f : Nat, (p : Int) < n.toInt → InO σ (PO σ p) f → ((σ 13) f).toInt = 1 → ((σ 9) f).toInt = 2 → ((σ 15) f).toInt = 0 → Q ((σ 17) f)) : wp_mainOf n σ τ vs Q := by
  have e0 : (0 : Int32).toInt = 0 := by decide
  have e1' : (1 : Int32).toInt = 1 := by decide
  have hn := h.1
  unfold wp_mainOf
  refine ⟨fun m p => (m : Int) = n.toInt - p.toInt ∧ 0 ≤ p.toInt, ⟨n.toInt.toNat, by omega, by omega⟩, ?_⟩
  rintro m p ⟨q1, q2⟩
  refine ⟨fun _ => k0, fun c => ?_⟩
  obtain ⟨i1, i2, i3, i4, i5, i6, i7, i8, i9⟩ := po_of h q2 c
  have np := nt q2
  have ep := ad1 (x := p) (by omega)
  rw [i3, i5]
  have ef : ((σ 22) (PO σ p.toNatClampNeg)).toInt = fO σ (PO σ p.toNatClampNeg) := rfl
  have ef2 : ((σ 22) (PO σ p.toNatClampNeg + 1)).toInt = fO σ (PO σ p.toNatClampNeg + 1) := rfl
  refine ⟨i1, by omega, fun m' f => m' = (fO σ (PO σ p.toNatClampNeg + 1) - f.toInt).toNat ∧ fO σ (PO σ p.toNatClampNeg) ≤ f.toInt, ⟨_, rfl, by omega⟩, ?_⟩
  rintro m' f ⟨r1, r2⟩
  have nf := nt (x := f) (by omega)
  refine ⟨i1, i4, fun c2 => ⟨m - 1, by omega, by omega, by omega⟩, fun c2 => ?_⟩
  have ff : 0 ≤ f.toInt ∧ f.toInt < 10000 := by omega
  have e1 := ad1 (x := f) (by omega)
  have nx : ∃ m_1, m_1 < m' ∧ (m_1 = (fO σ (PO σ p.toNatClampNeg + 1) - (f + 1).toInt).toNat ∧ fO σ (PO σ p.toNatClampNeg) ≤ (f + 1).toInt) := ⟨_, by omega, rfl, by omega⟩
  obtain ⟨m1, m2, m3⟩ := h.2.1 f.toNatClampNeg
  have ad4 : ∀ k : Int32, 0 ≤ k.toInt → k.toInt < 4 → ((σ 19) f.toNatClampNeg).toInt = 4 → (0 ≤ ((σ 18) f.toNatClampNeg + k).toInt ∧ ((σ 18) f.toNatClampNeg + k).toInt < 65536) := fun k k1 k2 k3 => by
    have : ((σ 18) f.toNatClampNeg + k).toInt = ((σ 18) f.toNatClampNeg).toInt + k.toInt := ad (by omega) (by omega)
    omega
  refine ⟨ff, fun _ => True, fun y _ _ => ⟨True, fun _ => nx, fun _ => trivial, fun _ => sp_isSymbol ff (fun s1 s2 => ⟨no1, fun _ => ⟨ff, fun _ => trivial, fun c3 => ⟨ff, fun _ => trivial, fun c4 => ⟨ff, fun _ => trivial, fun c5 => ⟨ff, ?_⟩⟩⟩⟩⟩) (fun _ => ⟨fun _ => trivial, no0⟩)⟩, True, fun _ => trivial, fun _ => trivial, fun c3 => ⟨ff, by omega, fun _ => trivial, fun _ => ⟨ff, ad4 1 (by decide) (by decide) c3, fun _ => trivial, fun _ => ⟨ff, ad4 2 (by decide) (by decide) c3, fun _ => trivial, fun _ => ⟨ff, ad4 3 (by decide) (by decide) c3, fun _ => trivial, fun _ => trivial⟩⟩⟩⟩⟩
  exact k1 p.toNatClampNeg f.toNatClampNeg (by omega) ⟨by omega, by omega⟩ (by rw [s2, e1']) c3 c5
theorem sp_aimOf {e p n : Int32} {Q : Int32 → St → St → List Nat → Prop} (h : RWS σ n.toInt) (hp : 0 ≤ p.toInt ∧ p.toInt < 100) (he : 0 ≤ e.toInt ∧ e.toInt < 10000) (k : ∀ (r : Int32) s, Kp [(0, 73), (0, 74)] [] σ s → AIMR σ e.toNatClampNeg n.toInt r → Q r s τ vs) : wp_aimOf e p n σ τ vs Q := by
  have em1 : ((-1 : Int32)).toInt = -1 := by decide
  unfold wp_aimOf
  refine ⟨he, fun c => ⟨he, fun l => ((σ 12) e.toNatClampNeg).toInt ≠ 0 ∨ LIB σ e.toNatClampNeg l, fun l hl => ⟨fun c2 => ⟨he, fun c3 => k _ _ kp_rf ⟨fun q => absurd c q, fun _ q => absurd q c3⟩, fun c3 => ?_⟩, fun c2 => ?_⟩, fun c2 => sp_library h.2.1 he (fun r hr => Or.inr hr), fun c2 => Or.inl c2⟩, fun c => ⟨he, fun c2 => ⟨he, k _ _ kp_rf ⟨fun _ _ => rfl, fun q => absurd q c⟩⟩, fun c2 => ⟨hp, he, k _ _ kp_rf ⟨fun _ q => absurd c2 q, fun q => absurd q c⟩⟩⟩⟩
  · have hl' : LIB σ e.toNatClampNeg l := hl.resolve_left (fun q => q c3)
    refine sp_find h he (fun nf => ⟨no0, fun _ => k _ _ kp_rf ⟨fun q => absurd c q, fun _ _ => ⟨fun l2 hl2 q => ?_, fun l2 p2 f2 hl2 q fn => absurd fn.2.2.1 (nf p2 fn.1 f2 fn.2.1)⟩⟩⟩) (fun p' f' hp' hf' fn => ⟨fun _ => ⟨he, fun c4 => ⟨hf', k _ _ (kp_f (kp_f kp_rf rfl) rfl) ⟨fun q => absurd c q, fun _ _ => ⟨fun l2 hl2 q => ?_, fun l2 p2 f2 hl2 q fn2 _ => ?_⟩⟩⟩, fun c4 => ⟨hp', hf', k _ _ (kp_f (kp_f kp_rf rfl) rfl) ⟨fun q => absurd c q, fun _ _ => ⟨fun l2 hl2 q => ?_, fun l2 p2 f2 hl2 q fn2 q2 => absurd c4 q2⟩⟩⟩⟩, no1⟩)
    · have := lib_uniq hl2 hl'; omega
    · have := lib_uniq hl2 hl'; omega
    · obtain ⟨-, u2⟩ := fnd_uniq fn2 fn
      rw [u2]
      rfl
    · have := lib_uniq hl2 hl'; omega
  · refine k _ _ kp_rf ⟨fun q => absurd c q, fun _ q0 => ?_⟩
    have hl' : LIB σ e.toNatClampNeg l := hl.resolve_left (fun q => q q0)
    have lr : l.toInt ≤ 3 := by
      rcases hl' with ⟨a, -⟩ | ⟨a, -⟩ | ⟨a, -⟩ | ⟨a, -⟩ | ⟨a, -⟩ <;> omega
    have es : ((-1 : Int32) - l).toInt = -1 - l.toInt := by rw [sb (by omega) (by omega), em1]
    refine ⟨fun l2 hl2 q => ?_, fun l2 p2 f2 hl2 q fn2 _ => ?_⟩
    · have := lib_uniq hl2 hl'; omega
    · have := lib_uniq hl2 hl'; omega
end HLD
end

section
/-! link: the image is laid -/
def SUMd (σ : St) : Nat → Int
  | 0 => 0
  | p + 1 => SUMd σ p + ((σ 23) (PO σ p)).toInt
def LYb (σ : St) (n : Int) : Prop := RWS σ n ∧ (∀ p : Nat, (p : Int) < n → (0 ≤ ((σ 23) (PO σ p)).toInt ∧ ((σ 23) (PO σ p)).toInt ≤ 16000) ∧ ITr σ ((σ 24) (PO σ p)).toInt ((σ 24) (PO σ p + 1)).toInt ((σ 23) (PO σ p)).toInt ∧ ((σ 24) (PO σ p + 1)).toInt ≤ 190000) ∧ SUMd σ n.toNat ≤ 16000
abbrev KLa (σ s : St) : Prop := Kp [(0, 73), (0, 74)] [42, 44, 45, 43, 41] σ s
section LAY
variable {σ s τ t : St} {vs z : List Nat}
theorem sum_mono {n : Int} (h : ∀ p : Nat, (p : Int) < n → 0 ≤ ((σ 23) (PO σ p)).toInt) (p : Nat) : ∀ d : Nat, (p : Int) + d ≤ n → SUMd σ p ≤ SUMd σ (p + d) := fun d => by
  induction d with
  | zero => exact fun _ => Int.le_refl _
  | succ d ih =>
    intro hd
    have h1 := ih (by omega)
    have h2 := h (p + d) (by omega)
    have e : SUMd σ (p + (d + 1)) = SUMd σ (p + d) + ((σ 23) (PO σ (p + d))).toInt := rfl
    rw [e]
    omega
theorem sum_at {n : Int} (h : LYb σ n) {p : Nat} (hp : (p : Int) ≤ n) : 0 ≤ SUMd σ p ∧ SUMd σ p ≤ 16000 := by
  obtain ⟨h1, h2, h3⟩ := h
  have m : ∀ p : Nat, (p : Int) < n → 0 ≤ ((σ 23) (PO σ p)).toInt := fun p q => (h2 p q).1.1
  have a := sum_mono m 0 p (by omega)
  rw [Nat.zero_add] at a
  have b := sum_mono m p (n.toNat - p) (by omega)
  rw [show p + (n.toNat - p) = n.toNat by omega] at b
  have z : SUMd σ 0 = 0 := rfl
  omega
theorem ka_arr (k : KLa σ s) : (s 40) = (σ 40) ∧ (s 22) = (σ 22) ∧ (s 23) = (σ 23) ∧ (s 24) = (σ 24) ∧ (s 25) = (σ 25) := ⟨funext (fun j => k 40 j rfl rfl), funext (fun j => k 22 j rfl rfl), funext (fun j => k 23 j rfl rfl), funext (fun j => k 24 j rfl rfl), funext (fun j => k 25 j rfl rfl)⟩
/-- the bases -/
def BSx (σ s : St) (n : Int) : Prop := ∀ p : Nat, (p : Int) < n → ((s 42) p).toInt = 16 + SUMd σ p
theorem bs_kp {n : Int} (k : (s 42) = (t 42)) (h : BSx σ t n) : BSx σ s n := by unfold BSx; rw [k]; exact h
def LFx (σ : St) (n p : Int) (s : St) : Prop := KLa σ s ∧ BSx σ s n ∧ (∀ p' : Nat, (p' : Int) < p → (s 41) p' = (σ 40) p') ∧ ∀ p' : Nat, (p' : Int) < p → ∀ e, InO σ (PO σ p') e → AIMR σ e n ((s 43) e)
theorem lf_kp {n p : Int} {s' : St} (h : LFx σ n p s) (k : Kp [(0, 73), (0, 74)] [45] s s') : LFx σ n p s' := by
  obtain ⟨h1, h2, h3, h4⟩ := h
  have e42 : (s' 42) = (s 42) := funext (fun j => k 42 j rfl rfl)
  have e41 : (s' 41) = (s 41) := funext (fun j => k 41 j rfl rfl)
  have e43 : (s' 43) = (s 43) := funext (fun j => k 43 j rfl rfl)
  exact ⟨kp_tr h1 (kp_sub k rfl rfl), bs_kp e42 h2, by rw [e41]; exact h3, by rw [e43]; exact h4⟩
theorem lf_aim {n p : Int} {e : Nat} {r : Int32} (h : LFx σ n p s) (hr : AIMR σ e n r) : LFx σ n p (upC s 43 e r) := by
  obtain ⟨h1, h2, h3, h4⟩ := h
  refine ⟨kp_a h1 rfl, h2, h3, fun p' hp' e' he' => ?_⟩
  show AIMR σ e' n (upC s 43 e r 43 e')
  rw [rdA]
  by_cases q : e' = e
  · rw [if_pos q, q]; exact hr
  · rw [if_neg q]; exact h4 p' hp' e' he'
theorem sp_layAll {n : Int32} {Q : St → St → List Nat → Prop} (h : LYb σ n.toInt) (k : ∀ s, KLa σ s → (∀ p : Nat, (p : Int) < n.toInt → (s 41) p = (σ 40) p) → (∀ p : Nat, (p : Int) < n.toInt → ∀ e, InO σ (PO σ p) e → AIMR σ e n.toInt ((s 43) e)) → Q (upC s 0 70 n) τ vs) : wp_layAll n σ τ vs Q := by
  have e0 : (0 : Int32).toInt = 0 := by decide
  have e16 : (16 : Int32).toInt = 16 := by decide
  have hn := h.1.1
  unfold wp_layAll
  refine ⟨fun m x p s t z => (m : Int) = n.toInt - p.toInt ∧ 0 ≤ p.toInt ∧ (x.toInt = 16 + SUMd σ p.toNatClampNeg) ∧ KLa σ s ∧ t = τ ∧ z = vs ∧ BSx σ s p.toInt, ⟨n.toInt.toNat, by omega, by omega, ?_, kp_rf, rfl, rfl, fun p hp => by omega⟩, ?_⟩
  · rw [e16, show (0 : Int32).toNatClampNeg = 0 by decide]; rfl
  rintro m x p s t z ⟨q1, q2, q3, ks, rfl, rfl, qb⟩
  obtain ⟨b40, b22, b23, b24, b25⟩ := ka_arr ks
  have np := nt q2
  refine ⟨fun c => ?_, fun c => ?_⟩
  rotate_left 1
  · obtain ⟨i1, i2, i3, i4, i5, i6, i7, i8, i9⟩ := po_of h.1 q2 c
    have dc := (h.2.1 p.toNatClampNeg (by omega)).1
    have sa := sum_at h (p := p.toNatClampNeg) (by omega)
    have ep := ad1 (x := p) (by omega)
    have epn : (p + 1).toNatClampNeg = p.toNatClampNeg + 1 := by rw [nt', ep]; omega
    rw [b40, b23, i3]
    have ex : (x + (σ 23) (PO σ p.toNatClampNeg)).toInt = x.toInt + ((σ 23) (PO σ p.toNatClampNeg)).toInt := ad (by omega) (by omega)
    refine ⟨i1, i1, i2, i1, by omega, m - 1, by omega, by omega, by omega, ?_, kp_a (kp_a ks rfl) rfl, rfl, rfl, fun p' hp' => ?_⟩
    · rw [ex, epn]
      show _ = 16 + (SUMd σ p.toNatClampNeg + _)
      omega
    · have e42 : ∀ j, upC (upC s 42 p.toNatClampNeg x) 44 (PO σ p.toNatClampNeg) x 42 j = if j = p.toNatClampNeg then x else (s 42) j := fun j => by
        simp only [rdC, Nat.reduceEqDiff, if_true, if_false]
      rw [e42]
      by_cases e9 : p' = p.toNatClampNeg
      · rw [if_pos e9, e9]; exact q3
      · rw [if_neg e9]; exact qb p' (by omega)
  have qb' : BSx σ s n.toInt := fun p' hp' => qb p' (by omega)
  clear q1 q3 qb c np q2
  refine ⟨fun m j s2 t2 z2 => (m : Int) = 16016 - j.toInt ∧ 0 ≤ j.toInt ∧ LFx σ n.toInt 0 s2 ∧ t2 = t ∧ z2 = z, ⟨16016, by omega, by omega, ⟨ks, qb', fun p' hp' => by omega, fun p' hp' => by omega⟩, rfl, rfl⟩, ?_⟩
  clear qb' ks b40 b22 b23 b24 b25
  rintro m2 j s2 t2 z2 ⟨q1, q2, lf, rfl, rfl⟩
  have nj := nt q2
  have ej : j.toInt < 16016 → (j + 1).toInt = j.toInt + 1 := fun q => ad1 (by omega)
  refine ⟨fun _ => ?_, fun c => ⟨by omega, m2 - 1, by have := ej c; omega, by have := ej c; omega, by have := ej c; omega, lf_kp lf (kp_a kp_rf rfl), rfl, rfl⟩⟩
  clear q1 q2 nj ej
  -- the objects
  refine ⟨fun m p s3 t3 z3 => (m : Int) = n.toInt - p.toInt ∧ 0 ≤ p.toInt ∧ LFx σ n.toInt p.toInt s3 ∧ t3 = t2 ∧ z3 = z2, ⟨n.toInt.toNat, by omega, by omega, by rw [e0]; exact lf, rfl, rfl⟩, ?_⟩
  clear lf
  rintro m3 p s3 t3 z3 ⟨q1, q2, lf, rfl, rfl⟩
  refine ⟨fun c => k s3 lf.1 (fun p' hp' => lf.2.2.1 p' (by omega)) (fun p' hp' => lf.2.2.2 p' (by omega)), fun c => ?_⟩
  obtain ⟨b40, b22, b23, b24, b25⟩ := ka_arr lf.1
  have np := nt q2
  obtain ⟨i1, i2, i3, i4, i5, i6, i7, i8, i9⟩ := po_of h.1 q2 c
  obtain ⟨dc, it, ic⟩ := h.2.1 p.toNatClampNeg (by omega)
  have sa := sum_at h (p := p.toNatClampNeg + 1) (by omega)
  have sb0 := sum_at h (p := p.toNatClampNeg) (by omega)
  have sS : SUMd σ (p.toNatClampNeg + 1) = SUMd σ p.toNatClampNeg + ((σ 23) (PO σ p.toNatClampNeg)).toInt := rfl
  have ep := ad1 (x := p) (by omega)
  have epn : (p + 1).toNatClampNeg = p.toNatClampNeg + 1 := by rw [nt', ep]; omega
  have ef : ((σ 22) (PO σ p.toNatClampNeg)).toInt = fO σ (PO σ p.toNatClampNeg) := rfl
  have ef2 : ((σ 22) (PO σ p.toNatClampNeg + 1)).toInt = fO σ (PO σ p.toNatClampNeg + 1) := rfl
  rw [b40, b22, i8, i3, i5]
  refine ⟨i1, by omega, ?_⟩
  refine ⟨fun m e s4 t4 z4 => m = (fO σ (PO σ p.toNatClampNeg + 1) - e.toInt).toNat ∧ fO σ (PO σ p.toNatClampNeg) ≤ e.toInt ∧ LFx σ n.toInt p.toInt s4 ∧ t4 = t3 ∧ z4 = z3 ∧ ∀ e' : Nat, fO σ (PO σ p.toNatClampNeg) ≤ (e' : Int) → (e' : Int) < e.toInt → AIMR σ e' n.toInt ((s4 43) e'), ⟨_, rfl, by omega, lf, rfl, rfl, fun e' a b => by omega⟩, ?_⟩
  clear lf b40 b22 b23 b24 b25
  rintro m4 e s4 t4 z4 ⟨r1, r2, lf, rfl, rfl, r3⟩
  obtain ⟨b40, b22, b23, b24, b25⟩ := ka_arr lf.1
  have ne := nt (x := e) (by omega)
  rw [b22, b24]
  refine ⟨i4, fun c2 => ⟨by omega, ?_⟩, fun c2 => ?_⟩
  · -- what begins otherwise than with 0
    obtain ⟨it1, cnt, it2, it3⟩ := it
    have all : ∀ e', InO σ (PO σ p.toNatClampNeg) e' → AIMR σ e' n.toInt ((s4 43) e') := fun e' he' => r3 e' he'.1 (by have := he'.2; omega)
    refine ⟨fun m x s5 t5 z5 => LFx σ n.toInt p.toInt s5 ∧ t5 = t4 ∧ z5 = z4 ∧ (∀ e', InO σ (PO σ p.toNatClampNeg) e' → AIMR σ e' n.toInt ((s5 43) e')) ∧ ∃ j : Nat, j + m = cnt ∧ x.toInt = ((σ 24) (PO σ p.toNatClampNeg)).toInt + 3 * j, ⟨cnt, lf, rfl, rfl, all, 0, by omega, by omega⟩, ?_⟩
    clear lf all r3 b40 b22 b23 b24 b25
    rintro m5 x s5 t5 z5 ⟨lf, rfl, rfl, all, j, j1, j2⟩
    obtain ⟨b40, b22, b23, b24, b25⟩ := ka_arr lf.1
    rw [b24, b40, b22, b25]
    refine ⟨i4, fun c3 => ⟨i1, i1, m3 - 1, by omega, by omega, by omega, ?_, rfl, rfl⟩, fun c3 => ?_⟩
    · obtain ⟨l1, l2, l3, l4⟩ := lf
      refine ⟨kp_a l1 rfl, l2, fun p' hp' => ?_, fun p' hp' e' he' => ?_⟩
      · show upC s5 41 p.toNatClampNeg ((σ 40) p.toNatClampNeg) 41 p' = _
        rw [rdA]
        by_cases e9 : p' = p.toNatClampNeg
        · rw [if_pos e9, e9]
        · rw [if_neg e9]; exact l3 p' (by omega)
      · show AIMR σ e' n.toInt ((s5 43) e')
        by_cases e9 : p' = p.toNatClampNeg
        · rw [e9] at he'
          exact all e' he'
        · exact l4 p' (by omega) e' he'
    · have jl : j < cnt := by omega
      obtain ⟨⟨v1, v2⟩, v3⟩ := it3 j jl
      have x1 : (x + (1 : Int32)).toInt = x.toInt + 1 := ad1 (by omega)
      have x2 : (x + (2 : Int32)).toInt = x.toInt + 2 := adc (by decide) (by omega) (by omega)
      have x3 : (x + 3).toInt = x.toInt + 3 := adc (by decide) (by omega) (by omega)
      have n0 : x.toNatClampNeg = (((σ 24) (PO σ p.toNatClampNeg)).toInt + 3 * j).toNat := by rw [nt', j2]
      have n2 : (x + (2 : Int32)).toNatClampNeg = (((σ 24) (PO σ p.toNatClampNeg)).toInt + 3 * j + 2).toNat := by rw [nt', x2, j2]
      rw [← n0] at v1 v2
      rw [← n2] at v3
      have bs := lf.2.1 p.toNatClampNeg (by omega)
      have ix : ((s5 42) p.toNatClampNeg + (σ 25) x.toNatClampNeg).toInt = ((s5 42) p.toNatClampNeg).toInt + ((σ 25) x.toNatClampNeg).toInt := ad (by omega) (by omega)
      refine ⟨by omega, fun _ => True, fun y _ => ⟨i1, by omega, by omega, by omega, m5 - 1, by omega, lf_kp lf (kp_a kp_rf rfl), rfl, rfl, all, j + 1, by omega, by omega⟩, fun _ => ⟨fun _ => trivial, fun _ => ⟨i1, trivial⟩⟩, fun c4 => ⟨by omega, ?_, trivial⟩⟩
      have a1 : ((σ 22) (PO σ p.toNatClampNeg) + (σ 25) (x + (2 : Int32)).toNatClampNeg).toInt = fO σ (PO σ p.toNatClampNeg) + ((σ 25) (x + (2 : Int32)).toNatClampNeg).toInt := ad (by omega) (by omega)
      rw [sb1 (by omega), a1]
      omega
  · have e1 := ad1 (x := e) (by omega)
    refine sp_aimOf (rws_k (kp_sub lf.1 rfl rfl) h.1) i1 (by omega) (fun r s6 k6 ar => ⟨by omega, (fO σ (PO σ p.toNatClampNeg + 1) - (e + 1).toInt).toNat, by omega, rfl, by omega, ?_, rfl, rfl, fun e' a b => ?_⟩)
    · exact lf_aim (lf_kp lf (kp_sub k6 rfl rfl)) (aimr_k (kp_sub lf.1 rfl rfl) ar)
    · show AIMR σ e' n.toInt (upC s6 43 e.toNatClampNeg r 43 e')
      rw [rdA]
      by_cases q : e' = e.toNatClampNeg
      · rw [if_pos q, q]; exact aimr_k (kp_sub lf.1 rfl rfl) ar
      · rw [if_neg q, show (s6 43) e' = (s4 43) e' from k6 43 e' rfl rfl]
        exact r3 e' a (by omega)
end LAY
end

