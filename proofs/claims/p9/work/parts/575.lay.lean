/-! link: the image is laid -/
def SUMd (σ : St) : Nat → Int
  | 0 => 0
  | p + 1 => SUMd σ p + ((σ 23) (PO σ p)).toInt
def LYb (σ : St) (n : Int) : Prop := RWS σ n ∧ (∀ p : Nat, (p : Int) < n → (0 ≤ ((σ 23) (PO σ p)).toInt ∧ ((σ 23) (PO σ p)).toInt ≤ 16000) ∧ ITr σ ((σ 24) (PO σ p)).toInt ((σ 24) (PO σ p + 1)).toInt ((σ 23) (PO σ p)).toInt ∧ ((σ 24) (PO σ p + 1)).toInt ≤ 190000) ∧ SUMd σ n.toNat ≤ 16000
abbrev KLa (σ s : St) : Prop := Kp [(0, 73), (0, 74)] [42, 44, 45, 43, 41] σ s
section LAY
variable {σ s τ t : St} {vs z : List Nat}
theorem sum_mono {n : Int} (h : ∀ p : Nat, (p : Int) < n → 0 ≤ ((σ 23) (PO σ p)).toInt) (p : Nat) : ∀ d : Nat, (p : Int) + d ≤ n → SUMd σ p ≤ SUMd σ (p + d) := fun d => by
  induction d with
  | zero => exact fun _ => Int.le_refl _
  | succ d ih =>
    intro hd
    have h1 := ih (by omega)
    have h2 := h (p + d) (by omega)
    have e : SUMd σ (p + (d + 1)) = SUMd σ (p + d) + ((σ 23) (PO σ (p + d))).toInt := rfl
    rw [e]
    omega
theorem sum_at {n : Int} (h : LYb σ n) {p : Nat} (hp : (p : Int) ≤ n) : 0 ≤ SUMd σ p ∧ SUMd σ p ≤ 16000 := by
  obtain ⟨h1, h2, h3⟩ := h
  have m : ∀ p : Nat, (p : Int) < n → 0 ≤ ((σ 23) (PO σ p)).toInt := fun p q => (h2 p q).1.1
  have a := sum_mono m 0 p (by omega)
  rw [Nat.zero_add] at a
  have b := sum_mono m p (n.toNat - p) (by omega)
  rw [show p + (n.toNat - p) = n.toNat by omega] at b
  have z : SUMd σ 0 = 0 := rfl
  omega
theorem ka_arr (k : KLa σ s) : (s 40) = (σ 40) ∧ (s 22) = (σ 22) ∧ (s 23) = (σ 23) ∧ (s 24) = (σ 24) ∧ (s 25) = (σ 25) := ⟨funext (fun j => k 40 j rfl rfl), funext (fun j => k 22 j rfl rfl), funext (fun j => k 23 j rfl rfl), funext (fun j => k 24 j rfl rfl), funext (fun j => k 25 j rfl rfl)⟩
/-- the bases -/
def BSx (σ s : St) (n : Int) : Prop := ∀ p : Nat, (p : Int) < n → ((s 42) p).toInt = 16 + SUMd σ p
theorem bs_kp {n : Int} (k : (s 42) = (t 42)) (h : BSx σ t n) : BSx σ s n := by unfold BSx; rw [k]; exact h
def LFx (σ : St) (n p : Int) (s : St) : Prop := KLa σ s ∧ BSx σ s n ∧ (∀ p' : Nat, (p' : Int) < p → (s 41) p' = (σ 40) p') ∧ ∀ p' : Nat, (p' : Int) < p → ∀ e, InO σ (PO σ p') e → AIMR σ e n ((s 43) e)
theorem lf_kp {n p : Int} {s' : St} (h : LFx σ n p s) (k : Kp [(0, 73), (0, 74)] [45] s s') : LFx σ n p s' := by
  obtain ⟨h1, h2, h3, h4⟩ := h
  have e42 : (s' 42) = (s 42) := funext (fun j => k 42 j rfl rfl)
  have e41 : (s' 41) = (s 41) := funext (fun j => k 41 j rfl rfl)
  have e43 : (s' 43) = (s 43) := funext (fun j => k 43 j rfl rfl)
  exact ⟨kp_tr h1 (kp_sub k rfl rfl), bs_kp e42 h2, by rw [e41]; exact h3, by rw [e43]; exact h4⟩
theorem lf_aim {n p : Int} {e : Nat} {r : Int32} (h : LFx σ n p s) (hr : AIMR σ e n r) : LFx σ n p (upC s 43 e r) := by
  obtain ⟨h1, h2, h3, h4⟩ := h
  refine ⟨kp_a h1 rfl, h2, h3, fun p' hp' e' he' => ?_⟩
  show AIMR σ e' n (upC s 43 e r 43 e')
  rw [rdA]
  by_cases q : e' = e
  · rw [if_pos q, q]; exact hr
  · rw [if_neg q]; exact h4 p' hp' e' he'
theorem sp_layAll {n : Int32} {Q : St → St → List Nat → Prop} (h : LYb σ n.toInt) (k : ∀ s, KLa σ s → (∀ p : Nat, (p : Int) < n.toInt → (s 41) p = (σ 40) p) → (∀ p : Nat, (p : Int) < n.toInt → ∀ e, InO σ (PO σ p) e → AIMR σ e n.toInt ((s 43) e)) → Q (upC s 0 70 n) τ vs) : wp_layAll n σ τ vs Q := by
  have e0 : (0 : Int32).toInt = 0 := by decide
  have e16 : (16 : Int32).toInt = 16 := by decide
  have hn := h.1.1
  unfold wp_layAll
  refine ⟨fun m x p s t z => (m : Int) = n.toInt - p.toInt ∧ 0 ≤ p.toInt ∧ (x.toInt = 16 + SUMd σ p.toNatClampNeg) ∧ KLa σ s ∧ t = τ ∧ z = vs ∧ BSx σ s p.toInt, ⟨n.toInt.toNat, by omega, by omega, ?_, kp_rf, rfl, rfl, fun p hp => by omega⟩, ?_⟩
  · rw [e16, show (0 : Int32).toNatClampNeg = 0 by decide]; rfl
  rintro m x p s t z ⟨q1, q2, q3, ks, rfl, rfl, qb⟩
  obtain ⟨b40, b22, b23, b24, b25⟩ := ka_arr ks
  have np := nt q2
  refine ⟨fun c => ?_, fun c => ?_⟩
  rotate_left 1
  · obtain ⟨i1, i2, i3, i4, i5, i6, i7, i8, i9⟩ := po_of h.1 q2 c
    have dc := (h.2.1 p.toNatClampNeg (by omega)).1
    have sa := sum_at h (p := p.toNatClampNeg) (by omega)
    have ep := ad1 (x := p) (by omega)
    have epn : (p + 1).toNatClampNeg = p.toNatClampNeg + 1 := by rw [nt', ep]; omega
    rw [b40, b23, i3]
    have ex : (x + (σ 23) (PO σ p.toNatClampNeg)).toInt = x.toInt + ((σ 23) (PO σ p.toNatClampNeg)).toInt := ad (by omega) (by omega)
    refine ⟨i1, i1, i2, i1, by omega, m - 1, by omega, by omega, by omega, ?_, kp_a (kp_a ks rfl) rfl, rfl, rfl, fun p' hp' => ?_⟩
    · rw [ex, epn]
      show _ = 16 + (SUMd σ p.toNatClampNeg + _)
      omega
    · have e42 : ∀ j, upC (upC s 42 p.toNatClampNeg x) 44 (PO σ p.toNatClampNeg) x 42 j = if j = p.toNatClampNeg then x else (s 42) j := fun j => by
        simp only [rdC, Nat.reduceEqDiff, if_true, if_false]
      rw [e42]
      by_cases e9 : p' = p.toNatClampNeg
      · rw [if_pos e9, e9]; exact q3
      · rw [if_neg e9]; exact qb p' (by omega)
  have qb' : BSx σ s n.toInt := fun p' hp' => qb p' (by omega)
  clear q1 q3 qb c np q2
  refine ⟨fun m j s2 t2 z2 => (m : Int) = 16016 - j.toInt ∧ 0 ≤ j.toInt ∧ LFx σ n.toInt 0 s2 ∧ t2 = t ∧ z2 = z, ⟨16016, by omega, by omega, ⟨ks, qb', fun p' hp' => by omega, fun p' hp' => by omega⟩, rfl, rfl⟩, ?_⟩
  clear qb' ks b40 b22 b23 b24 b25
  rintro m2 j s2 t2 z2 ⟨q1, q2, lf, rfl, rfl⟩
  have nj := nt q2
  have ej : j.toInt < 16016 → (j + 1).toInt = j.toInt + 1 := fun q => ad1 (by omega)
  refine ⟨fun _ => ?_, fun c => ⟨by omega, m2 - 1, by have := ej c; omega, by have := ej c; omega, by have := ej c; omega, lf_kp lf (kp_a kp_rf rfl), rfl, rfl⟩⟩
  clear q1 q2 nj ej
  -- the objects
  refine ⟨fun m p s3 t3 z3 => (m : Int) = n.toInt - p.toInt ∧ 0 ≤ p.toInt ∧ LFx σ n.toInt p.toInt s3 ∧ t3 = t2 ∧ z3 = z2, ⟨n.toInt.toNat, by omega, by omega, by rw [e0]; exact lf, rfl, rfl⟩, ?_⟩
  clear lf
  rintro m3 p s3 t3 z3 ⟨q1, q2, lf, rfl, rfl⟩
  refine ⟨fun c => k s3 lf.1 (fun p' hp' => lf.2.2.1 p' (by omega)) (fun p' hp' => lf.2.2.2 p' (by omega)), fun c => ?_⟩
  obtain ⟨b40, b22, b23, b24, b25⟩ := ka_arr lf.1
  have np := nt q2
  obtain ⟨i1, i2, i3, i4, i5, i6, i7, i8, i9⟩ := po_of h.1 q2 c
  obtain ⟨dc, it, ic⟩ := h.2.1 p.toNatClampNeg (by omega)
  have sa := sum_at h (p := p.toNatClampNeg + 1) (by omega)
  have sb0 := sum_at h (p := p.toNatClampNeg) (by omega)
  have sS : SUMd σ (p.toNatClampNeg + 1) = SUMd σ p.toNatClampNeg + ((σ 23) (PO σ p.toNatClampNeg)).toInt := rfl
  have ep := ad1 (x := p) (by omega)
  have epn : (p + 1).toNatClampNeg = p.toNatClampNeg + 1 := by rw [nt', ep]; omega
  have ef : ((σ 22) (PO σ p.toNatClampNeg)).toInt = fO σ (PO σ p.toNatClampNeg) := rfl
  have ef2 : ((σ 22) (PO σ p.toNatClampNeg + 1)).toInt = fO σ (PO σ p.toNatClampNeg + 1) := rfl
  rw [b40, b22, i8, i3, i5]
  refine ⟨i1, by omega, ?_⟩
  refine ⟨fun m e s4 t4 z4 => m = (fO σ (PO σ p.toNatClampNeg + 1) - e.toInt).toNat ∧ fO σ (PO σ p.toNatClampNeg) ≤ e.toInt ∧ LFx σ n.toInt p.toInt s4 ∧ t4 = t3 ∧ z4 = z3 ∧ ∀ e' : Nat, fO σ (PO σ p.toNatClampNeg) ≤ (e' : Int) → (e' : Int) < e.toInt → AIMR σ e' n.toInt ((s4 43) e'), ⟨_, rfl, by omega, lf, rfl, rfl, fun e' a b => by omega⟩, ?_⟩
  clear lf b40 b22 b23 b24 b25
  rintro m4 e s4 t4 z4 ⟨r1, r2, lf, rfl, rfl, r3⟩
  obtain ⟨b40, b22, b23, b24, b25⟩ := ka_arr lf.1
  have ne := nt (x := e) (by omega)
  rw [b22, b24]
  refine ⟨i4, fun c2 => ⟨by omega, ?_⟩, fun c2 => ?_⟩
  · -- what begins otherwise than with 0
    obtain ⟨it1, cnt, it2, it3⟩ := it
    have all : ∀ e', InO σ (PO σ p.toNatClampNeg) e' → AIMR σ e' n.toInt ((s4 43) e') := fun e' he' => r3 e' he'.1 (by have := he'.2; omega)
    refine ⟨fun m x s5 t5 z5 => LFx σ n.toInt p.toInt s5 ∧ t5 = t4 ∧ z5 = z4 ∧ (∀ e', InO σ (PO σ p.toNatClampNeg) e' → AIMR σ e' n.toInt ((s5 43) e')) ∧ ∃ j : Nat, j + m = cnt ∧ x.toInt = ((σ 24) (PO σ p.toNatClampNeg)).toInt + 3 * j, ⟨cnt, lf, rfl, rfl, all, 0, by omega, by omega⟩, ?_⟩
    clear lf all r3 b40 b22 b23 b24 b25
    rintro m5 x s5 t5 z5 ⟨lf, rfl, rfl, all, j, j1, j2⟩
    obtain ⟨b40, b22, b23, b24, b25⟩ := ka_arr lf.1
    rw [b24, b40, b22, b25]
    refine ⟨i4, fun c3 => ⟨i1, i1, m3 - 1, by omega, by omega, by omega, ?_, rfl, rfl⟩, fun c3 => ?_⟩
    · obtain ⟨l1, l2, l3, l4⟩ := lf
      refine ⟨kp_a l1 rfl, l2, fun p' hp' => ?_, fun p' hp' e' he' => ?_⟩
      · show upC s5 41 p.toNatClampNeg ((σ 40) p.toNatClampNeg) 41 p' = _
        rw [rdA]
        by_cases e9 : p' = p.toNatClampNeg
        · rw [if_pos e9, e9]
        · rw [if_neg e9]; exact l3 p' (by omega)
      · show AIMR σ e' n.toInt ((s5 43) e')
        by_cases e9 : p' = p.toNatClampNeg
        · rw [e9] at he'
          exact all e' he'
        · exact l4 p' (by omega) e' he'
    · have jl : j < cnt := by omega
      obtain ⟨⟨v1, v2⟩, v3⟩ := it3 j jl
      have x1 : (x + (1 : Int32)).toInt = x.toInt + 1 := ad1 (by omega)
      have x2 : (x + (2 : Int32)).toInt = x.toInt + 2 := adc (by decide) (by omega) (by omega)
      have x3 : (x + 3).toInt = x.toInt + 3 := adc (by decide) (by omega) (by omega)
      have n0 : x.toNatClampNeg = (((σ 24) (PO σ p.toNatClampNeg)).toInt + 3 * j).toNat := by rw [nt', j2]
      have n2 : (x + (2 : Int32)).toNatClampNeg = (((σ 24) (PO σ p.toNatClampNeg)).toInt + 3 * j + 2).toNat := by rw [nt', x2, j2]
      rw [← n0] at v1 v2
      rw [← n2] at v3
      have bs := lf.2.1 p.toNatClampNeg (by omega)
      have ix : ((s5 42) p.toNatClampNeg + (σ 25) x.toNatClampNeg).toInt = ((s5 42) p.toNatClampNeg).toInt + ((σ 25) x.toNatClampNeg).toInt := ad (by omega) (by omega)
      refine ⟨by omega, fun _ => True, fun y _ => ⟨i1, by omega, by omega, by omega, m5 - 1, by omega, lf_kp lf (kp_a kp_rf rfl), rfl, rfl, all, j + 1, by omega, by omega⟩, fun _ => ⟨fun _ => trivial, fun _ => ⟨i1, trivial⟩⟩, fun c4 => ⟨by omega, ?_, trivial⟩⟩
      have a1 : ((σ 22) (PO σ p.toNatClampNeg) + (σ 25) (x + (2 : Int32)).toNatClampNeg).toInt = fO σ (PO σ p.toNatClampNeg) + ((σ 25) (x + (2 : Int32)).toNatClampNeg).toInt := ad (by omega) (by omega)
      rw [sb1 (by omega), a1]
      omega
  · have e1 := ad1 (x := e) (by omega)
    refine sp_aimOf (rws_k (kp_sub lf.1 rfl rfl) h.1) i1 (by omega) (fun r s6 k6 ar => ⟨by omega, (fO σ (PO σ p.toNatClampNeg + 1) - (e + 1).toInt).toNat, by omega, rfl, by omega, ?_, rfl, rfl, fun e' a b => ?_⟩)
    · exact lf_aim (lf_kp lf (kp_sub k6 rfl rfl)) (aimr_k (kp_sub lf.1 rfl rfl) ar)
    · show AIMR σ e' n.toInt (upC s6 43 e.toNatClampNeg r 43 e')
      rw [rdA]
      by_cases q : e' = e.toNatClampNeg
      · rw [if_pos q, q]; exact aimr_k (kp_sub lf.1 rfl rfl) ar
      · rw [if_neg q, show (s6 43) e' = (s4 43) e' from k6 43 e' rfl rfl]
        exact r3 e' a (by omega)
end LAY
