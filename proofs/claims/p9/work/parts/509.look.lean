/-! looking names up -/
section LOOK
variable {σ τ : St} {vs : List Nat}
theorem sp_isSame {a b : Int32} {Q : Int32 → Prop} (h : TK σ) (ha : 0 ≤ a.toInt ∧ a.toInt < 16002) (hb : 0 ≤ b.toInt ∧ b.toInt < 16002) (h1 : Q 1) (h0 : Q 0) : wp_isSame a b σ τ vs Q := by
  obtain ⟨-, -, -, -, hf, ht, -⟩ := h
  have f1 := hf a.toNatClampNeg
  have f2 := hf b.toNatClampNeg
  have t1 := ht a.toNatClampNeg
  have t2 := ht b.toNatClampNeg
  have e1 : ((σ 4) a.toNatClampNeg - (σ 3) a.toNatClampNeg).toInt = ((σ 4) a.toNatClampNeg).toInt - ((σ 3) a.toNatClampNeg).toInt := sb (by omega) (by omega)
  have e2 : ((σ 4) b.toNatClampNeg - (σ 3) b.toNatClampNeg).toInt = ((σ 4) b.toNatClampNeg).toInt - ((σ 3) b.toNatClampNeg).toInt := sb (by omega) (by omega)
  unfold wp_isSame
  refine ⟨ha, ha, hb, hb, fun c => ⟨fun n x => (n : Int) = 16000 - x.toInt ∧ 0 ≤ x.toInt ∧ x.toInt ≤ 16000, ⟨16000, by decide⟩, fun n x ⟨q1, q2, q3⟩ => ⟨fun _ => h1, fun c2 => ?_⟩⟩, fun _ => h0⟩
  have e3 : ((σ 3) a.toNatClampNeg + x).toInt = ((σ 3) a.toNatClampNeg).toInt + x.toInt := ad (by omega) (by omega)
  have e4 : ((σ 3) b.toNatClampNeg + x).toInt = ((σ 3) b.toNatClampNeg).toInt + x.toInt := ad (by omega) (by omega)
  have e5 := ad1 (x := x) (by omega)
  exact ⟨ha, by omega, hb, by omega, fun _ => ⟨n - 1, by omega, by omega, by omega, by omega⟩, fun _ => h0⟩
theorem sp_isNamed {e b : Int32} {Q : Int32 → Prop} (h : TK σ) (hn : NMo σ) (he : 0 ≤ e.toInt ∧ e.toInt < 10000) (hb : 0 ≤ b.toInt ∧ b.toInt < 16002) (h1 : Q 1) (h0 : Q 0) : wp_isNamed e b σ τ vs Q := by
  obtain ⟨-, -, -, -, hf, ht, -⟩ := h
  have f2 := hf b.toNatClampNeg
  have t2 := ht b.toNatClampNeg
  obtain ⟨n1, n2, n3⟩ := hn e.toNatClampNeg
  have e2 : ((σ 4) b.toNatClampNeg - (σ 3) b.toNatClampNeg).toInt = ((σ 4) b.toNatClampNeg).toInt - ((σ 3) b.toNatClampNeg).toInt := sb (by omega) (by omega)
  unfold wp_isNamed
  refine ⟨hb, hb, he, fun c => ⟨fun n x => (n : Int) = 16000 - x.toInt ∧ 0 ≤ x.toInt ∧ x.toInt ≤ 16000, ⟨16000, by decide⟩, fun n x ⟨q1, q2, q3⟩ => ⟨fun _ => h1, fun c2 => ?_⟩⟩, fun _ => h0⟩
  have e3 : ((σ 18) e.toNatClampNeg + x).toInt = ((σ 18) e.toNatClampNeg).toInt + x.toInt := ad (by omega) (by omega)
  have e4 : ((σ 3) b.toNatClampNeg + x).toInt = ((σ 3) b.toNatClampNeg).toInt + x.toInt := ad (by omega) (by omega)
  have e5 := ad1 (x := x) (by omega)
  exact ⟨he, by omega, hb, by omega, fun _ => ⟨n - 1, by omega, by omega, by omega, by omega⟩, fun _ => h0⟩
theorem dn_step {x : Int32} {n : Nat} {h : Int} (q1 : (n : Int) = x.toInt + 1) (c : 0 ≤ x.toInt) (q3 : x.toInt < h) : n - 1 < n ∧ ((n - 1 : Nat) : Int) = (x + (-1)).toInt + 1 ∧ -1 ≤ (x + (-1)).toInt ∧ (x + (-1)).toInt < h := by
  have e2 := dc1 (x := x) (by omega)
  revert e2
  generalize (x + (-1)).toInt = y
  intro e2
  exact ⟨by omega, by omega, by omega, by omega⟩
theorem sp_local {b : Int32} {Q : Int32 → Prop} (h : PA σ τ) (hb : 0 ≤ b.toInt ∧ b.toInt < 16002) (k : ∀ r : Int32, -1 ≤ r.toInt → r.toInt < (σ 0 49).toInt → (0 ≤ r.toInt → r.toInt ≤ 99) → Q r) : wp_local b σ τ vs Q := by
  obtain ⟨hT, -, ⟨-, -, ⟨n1, n2, n3⟩, -⟩, ⟨a1, a2, -, -, -, -, -, -, a9, -⟩, -⟩ := h
  have e0 := sb1 (x := (σ 0 53)) (by omega)
  unfold wp_local
  refine ⟨fun n x => (n : Int) = x.toInt + 1 ∧ -1 ≤ x.toInt ∧ x.toInt < (σ 0 53).toInt, ⟨((σ 0 53).toInt).toNat, by omega, by omega, by omega⟩, fun n x ⟨q1, q2, q3⟩ => ⟨fun _ => k _ (by decide) (by show (-1 : Int) < _; omega) (fun c => absurd c (by decide)), fun c => ⟨⟨c, by omega⟩, ?_⟩⟩⟩
  have t1 := a1 x.toNatClampNeg
  have t2 := a2 x.toNatClampNeg
  have en := nt c
  have t3 := a9 x.toNatClampNeg (by omega)
  refine sp_isSame hT ⟨t1.1, by omega⟩ hb ⟨fun c => absurd c (by decide), fun _ => ⟨⟨c, by omega⟩, k _ (by omega) t3 (fun _ => t2.2)⟩⟩ ⟨fun _ => ?_, fun c => absurd rfl c⟩
  exact ⟨n - 1, dn_step q1 c q3⟩
theorem sp_entity {b : Int32} {Q : Int32 → Prop} (h : PA σ τ) (hb : 0 ≤ b.toInt ∧ b.toInt < 16002) (k0 : Q (-1)) (k : ∀ r : Int32, Fi σ ≤ r.toInt → r.toInt < (σ 0 36).toInt → Q r) : wp_entity b σ τ vs Q := by
  obtain ⟨hT, -, ⟨n0, hn, -⟩, ⟨-, -, -, -, a5, -⟩, -⟩ := h
  unfold wp_entity
  have hF : ∃ F, F = Fi σ := ⟨_, rfl⟩
  obtain ⟨F, hF⟩ := hF
  rw [← hF] at hn k
  have hF2 : ((σ 22) (σ 0 35).toNatClampNeg).toInt = F := hF.symm
  clear hF
  obtain ⟨n1, n2, n3, n4⟩ := hn
  refine ⟨by omega, fun n x => (n : Int) = (σ 0 36).toInt - x.toInt ∧ F ≤ x.toInt ∧ x.toInt ≤ (σ 0 36).toInt, ⟨((σ 0 36).toInt - F).toNat, by omega, by omega, by omega⟩, fun n x ⟨q1, q2, q3⟩ => ⟨fun _ => k0, fun c => ?_⟩⟩
  have e2 := ad1 (x := x) (by omega)
  exact sp_isNamed hT a5 ⟨by omega, by omega⟩ hb ⟨fun c => absurd c (by decide), fun _ => k _ q2 c⟩ ⟨fun _ => ⟨n - 1, by omega, by omega, by omega, by omega⟩, fun c => absurd rfl c⟩
theorem it_row {I I' : Nat → Int32} {ic d d' f : Int} {p0 p1 p2 n : Nat} {c v b : Int32} (hw : ∀ q, I' q = if q = p2 then b else if q = p1 then v else if q = p0 then c else I q) (h0 : (p0 : Int) = ic) (h1 : (p1 : Int) = ic + 1) (h2 : (p2 : Int) = ic + 2) (i0 : 0 ≤ f) (i1 : ic = f + 3 * n) (i2 : ∀ j : Nat, j < n → (0 ≤ (I (f + 3 * j).toNat).toInt ∧ (I (f + 3 * j).toNat).toInt < d) ∧ (I (f + 3 * j + 2).toNat).toInt ≤ 100) (c1 : 0 ≤ c.toInt) (c2 : c.toInt < d') (c3 : b.toInt ≤ 100) (hd : d ≤ d') (j : Nat) (hj : j < n + 1) : (0 ≤ (I' (f + 3 * j).toNat).toInt ∧ (I' (f + 3 * j).toNat).toInt < d') ∧ (I' (f + 3 * j + 2).toNat).toInt ≤ 100 := by
  have e1 : ((f + 3 * j).toNat : Int) = f + 3 * j := Int.toNat_of_nonneg (by omega)
  have e2 : ((f + 3 * j + 2).toNat : Int) = f + 3 * j + 2 := Int.toNat_of_nonneg (by omega)
  revert e1 e2
  by_cases q : j < n
  · have e3 := i2 j q
    revert e3
    generalize (f + 3 * (j : Int)).toNat = u
    generalize (f + 3 * (j : Int) + 2).toNat = w
    intro e3 e1 e2
    rw [hw, hw, if_neg (by omega), if_neg (by omega), if_neg (by omega), if_neg (by omega), if_neg (by omega), if_neg (by omega)]
    exact ⟨⟨e3.1.1, by omega⟩, e3.2⟩
  · generalize (f + 3 * (j : Int)).toNat = u
    generalize (f + 3 * (j : Int) + 2).toNat = w
    intro e1 e2
    rw [hw, hw, if_neg (by omega), if_neg (by omega), if_pos (by omega), if_pos (by omega)]
    exact ⟨⟨c1, c2⟩, c3⟩
/-- a row of what data begin with -/
def INx (σ s : St) (cell base : Int32) : Prop := Kp [(0, 39)] [25] σ s ∧ (σ 0 39).toInt ≤ (s 0 39).toInt ∧ (s 0 39).toInt ≤ (σ 0 39).toInt + 3 ∧ (∀ f d : Int, ITd σ f d → 0 ≤ cell.toInt → cell.toInt < d → base.toInt ≤ 100 → ITd s f d) ∧ ∀ j : Nat, (j : Int) < (σ 0 39).toInt → (s 25) j = (σ 25) j
theorem inx_rf {c b : Int32} : INx σ σ c b := ⟨kp_rf, Int.le_refl _, by omega, fun f d hI _ _ _ => hI, fun _ _ => rfl⟩
theorem inx_w {c v b : Int32} {p0 p1 p2 : Nat} {w : Int32} (q : Nat) : upC (upC (upC (upC σ 25 p0 c) 25 p1 v) 25 p2 b) 0 39 w 25 q = if q = p2 then b else if q = p1 then v else if q = p0 then c else (σ 25) q := by
  show upC (upC (upC σ 25 _ c) 25 _ v) 25 _ b 25 q = _
  rw [rdA, rdA, rdA]
theorem inx_add {c v b w : Int32} {p0 p1 p2 : Nat} (h0 : (p0 : Int) = (σ 0 39).toInt) (h1 : (p1 : Int) = (σ 0 39).toInt + 1) (h2 : (p2 : Int) = (σ 0 39).toInt + 2) (h3 : w.toInt = (σ 0 39).toInt + 3) : INx σ (upC (upC (upC (upC σ 25 p0 c) 25 p1 v) 25 p2 b) 0 39 w) c b := by
  refine ⟨kp_f (kp_a (kp_a (kp_a kp_rf rfl) rfl) rfl) rfl, ?_, ?_, fun f d hI c1 c2 c3 => ?_, fun j hj => ?_⟩
  · rw [rdA_eq rfl]; omega
  · rw [rdA_eq rfl]; omega
  · obtain ⟨i1, n, i2, i3⟩ := hI
    exact ⟨i1, n + 1, by rw [rdA_eq rfl]; omega, it_row (fun q => inx_w q) h0 h1 h2 i1 i2 i3 c1 c2 c3 (Int.le_refl _)⟩
  · rw [inx_w, if_neg (by omega), if_neg (by omega), if_neg (by omega)]
theorem sp_init {c v b : Int32} {Q : St → St → List Nat → Prop} (h0 : 0 ≤ (σ 0 39).toInt) (h1 : (σ 0 39).toInt ≤ 190000) (k : ∀ s, INx σ s c b → Q s τ vs) : wp_init c v b σ τ vs Q := by
  have e1 : ((σ 0 39) + (1 : Int32)).toInt = (σ 0 39).toInt + 1 := adc (by decide) (by omega) (by omega)
  have e2 : ((σ 0 39) + (2 : Int32)).toInt = (σ 0 39).toInt + 2 := adc (by decide) (by omega) (by omega)
  have e3 : ((σ 0 39) + (3 : Int32)).toInt = (σ 0 39).toInt + 3 := adc (by decide) (by omega) (by omega)
  have n1 : ((σ 0 39).toNatClampNeg : Int) = (σ 0 39).toInt := nt h0
  have n2 : (((σ 0 39) + (1 : Int32)).toNatClampNeg : Int) = (σ 0 39).toInt + 1 := by rw [nt (by omega)]; exact e1
  have n3 : (((σ 0 39) + (2 : Int32)).toNatClampNeg : Int) = (σ 0 39).toInt + 2 := by rw [nt (by omega)]; exact e2
  have ka := k _ (inx_add (c := c) (v := v) (b := b) n1 n2 n3 e3)
  have kb := k _ inx_rf
  unfold wp_init
  refine ⟨True, fun _ => ⟨fun _ => ⟨fun _ => ⟨⟨h0, by omega⟩, ⟨by omega, by omega⟩, ⟨by omega, by omega⟩, ka⟩, fun q => by omega⟩, fun _ => kb⟩, fun _ => trivial, fun _ => ⟨fun _ => kb, fun _ => trivial⟩⟩
end LOOK
