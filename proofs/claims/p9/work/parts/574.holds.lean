/-! link: what holds of a symbol -/
def LTy (σ : St) (e : Nat) (l : Int) : Prop := (l = 0 → ((σ 10) e).toInt = 0 ∧ ((σ 15) e).toInt = 0) ∧ (l ≠ 0 → ((σ 10) e).toInt = -1 ∧ ((σ 15) e).toInt = 1)
def HTy (σ : St) (e f : Nat) : Prop := ((σ 9) e).toInt = ((σ 9) f).toInt ∧ ((σ 10) e).toInt = ((σ 10) f).toInt ∧ (((σ 9) e).toInt ≠ 1 → ((σ 15) e).toInt = ((σ 15) f).toInt)
def NOTH (σ : St) (num : Int) (e : Nat) (n : Int) : Prop := (num = 32 → ((σ 12) e).toInt = 0 → ((σ 13) e).toInt = 0 → ((σ 14) e).toInt ≠ 0 → (∃ r, LIB σ e r ∧ 0 ≤ r.toInt) ∨ ∃ p f : Nat, FND σ e n p f) ∧ (num = 33 → ((σ 12) e).toInt = 0 → ((σ 13) e).toInt = 0 → (∀ r, LIB σ e r → 0 ≤ r.toInt → LTy σ e r.toInt) ∧ ∀ r (p f : Nat), LIB σ e r → r.toInt < 0 → FND σ e n p f → HTy σ e f)
def AIMR (σ : St) (e : Nat) (n : Int) (r : Int32) : Prop := (((σ 13) e).toInt ≠ 0 → ((σ 9) e).toInt ≠ 1 → r = (σ 17) e) ∧ (((σ 13) e).toInt = 0 → ((σ 12) e).toInt = 0 → (∀ l, LIB σ e l → 0 ≤ l.toInt → r.toInt = -1 - l.toInt) ∧ ∀ l (p f : Nat), LIB σ e l → l.toInt < 0 → FND σ e n p f → ((σ 9) e).toInt ≠ 1 → r = (σ 17) f)
abbrev KLi (σ s : St) : Prop := Kp [(0, 67), (0, 71), (0, 72), (0, 73), (0, 74)] [] σ s
/-- the cells that linking reads -/
def zL (σ : St) : St := fun c k => if c = 0 ∨ (41 ≤ c ∧ c ≤ 45) then 0 else σ c k
abbrev KLy (σ s : St) : Prop := Kp [(0, 67), (0, 71), (0, 72), (0, 73), (0, 74), (0, 78)] [42, 44, 45, 43, 41] σ s
section HLD
variable {σ s τ t : St} {vs z : List Nat}
theorem zl_of (k : KLy σ s) : zL s = zL σ := by
  funext c j
  unfold zL
  by_cases h : c = 0 ∨ (41 ≤ c ∧ c ≤ 45)
  · rw [if_pos h, if_pos h]
  · rw [if_neg h, if_neg h]
    refine k c j ?_ ?_
    · simp
      omega
    · simp
      omega
theorem rws_z {n : Int} : RWS (zL σ) n = RWS σ n := rfl
theorem noth_z {a : Int} {e : Nat} {n : Int} : NOTH (zL σ) a e n = NOTH σ a e n := rfl
theorem aimr_z {e : Nat} {n : Int} {r : Int32} : AIMR (zL σ) e n r = AIMR σ e n r := rfl
theorem rws_k {n : Int} (k : KLy σ s) (h : RWS σ n) : RWS s n := by
  rw [← rws_z, zl_of k, rws_z]; exact h
theorem noth_k {a : Int} {e : Nat} {n : Int} (k : KLy σ s) (h : NOTH s a e n) : NOTH σ a e n := by
  rw [← noth_z, ← zl_of k, noth_z]; exact h
theorem aimr_k {e : Nat} {n : Int} {r : Int32} (k : KLy σ s) (h : AIMR s e n r) : AIMR σ e n r := by
  rw [← aimr_z, ← zl_of k, aimr_z]; exact h
theorem sp_hasType {e f : Int32} {Q : Int32 → Prop} (hA : AllIn 0 8 (σ 15)) (he : 0 ≤ e.toInt ∧ e.toInt < 10000) (hf : 0 ≤ f.toInt ∧ f.toInt < 10000) (k1 : HTy σ e.toNatClampNeg f.toNatClampNeg → Q 1) (k0 : Q 0) : wp_hasType e f σ τ vs Q := by
  have e0 : (0 : Int32).toInt = 0 := by decide
  unfold wp_hasType
  refine ⟨he, hf, fun _ => k0, fun c1 => ⟨he, hf, fun c2 => ⟨he, fun c3 => ⟨he, hf, fun c4 => ?_, fun _ => k0⟩, fun c3 => ⟨he, ?_⟩⟩, fun _ => k0⟩⟩
  · have hp := hA e.toNatClampNeg
    refine ⟨fun n x => (n : Int) = ((σ 15) e.toNatClampNeg).toInt - x.toInt ∧ 0 ≤ x.toInt, ⟨((σ 15) e.toNatClampNeg).toInt.toNat, by omega, by omega⟩, ?_⟩
    rintro n x ⟨q1, q2⟩
    refine ⟨he, fun _ => k1 ⟨c1, c2, fun _ => c4⟩, fun c5 => ?_⟩
    have m1 := mul8 (x := e) he.1 (by omega)
    have m2 := mul8 (x := f) hf.1 (by omega)
    have a1 : (((8 : Int32) * e) + x).toInt = 8 * e.toInt + x.toInt := by rw [← m1]; exact ad (by omega) (by omega)
    have a2 : (((8 : Int32) * f) + x).toInt = 8 * f.toInt + x.toInt := by rw [← m2]; exact ad (by omega) (by omega)
    have a3 := ad1 (x := x) (by omega)
    exact ⟨by omega, by omega, fun _ => ⟨n - 1, by omega, by omega, by omega⟩, fun _ => k0⟩
  · have fin : HTy σ e.toNatClampNeg f.toNatClampNeg := ⟨c1, c2, fun q => absurd c3 q⟩
    exact ⟨fun _ => True, fun y _ _ => ⟨hf, fun _ => True, fun y9 _ _ => ⟨fun _ => k0, fun _ => ⟨he, fun _ => k1 fin, fun _ => ⟨he, hf, fun _ => k0, fun _ => k1 fin⟩⟩⟩, fun _ => trivial, fun _ => trivial⟩, fun _ => trivial, fun _ => trivial⟩
theorem sp_holds {num p e n : Int32} {Q : Int32 → St → St → List Nat → Prop} (h : RWS σ n.toInt) (hp : 0 ≤ p.toInt ∧ p.toInt ≤ n.toInt) (he : 0 ≤ e.toInt ∧ e.toInt < 10000) (k : ∀ (r : Int32) s, Kp [(0, 73), (0, 74)] [] σ s → (r.toInt = 0 → NOTH σ num.toInt e.toNatClampNeg n.toInt) → Q r s τ vs) : wp_holds num p e n σ τ vs Q := by
  have e0 : (0 : Int32).toInt = 0 := by decide
  have e1' : (1 : Int32).toInt = 1 := by decide
  have n01 : ∀ P : Prop, (1 : Int32).toInt = 0 → P := fun P c => absurd c (by decide)
  have hn := h.1
  unfold wp_holds
  refine sp_library h.2.1 he (fun l hl => ⟨fun c1 => ?_, fun c1 => ?_⟩)
  · have notsym : ¬ (((σ 12) e.toNatClampNeg).toInt = 0 ∧ ((σ 13) e.toNatClampNeg).toInt = (0 : Int32).toInt) → NOTH σ num.toInt e.toNatClampNeg n.toInt := fun q => ⟨fun _ a b => absurd ⟨a, by rw [e0]; exact b⟩ q, fun _ a b => absurd ⟨a, by rw [e0]; exact b⟩ q⟩
    refine sp_isSymbol he (fun s1 s2 => ⟨fun _ => ⟨fun c2 => ⟨fun c3 => ?_, fun c3 => ?_⟩, fun c2 => ⟨he, fun c3 => ?_, fun c3 => ⟨fun c4 => ?_, fun c4 => ?_⟩⟩⟩, no1⟩) (fun q => ⟨no0, fun _ => k _ _ kp_rf (fun _ => notsym q)⟩)
    · refine sp_find h he (fun nf => ⟨fun _ => k _ _ kp_rf (fun _ => ⟨fun q => absurd q c2, fun _ _ _ => ⟨fun r hr q => ?_, fun r p' f' hr q fn => absurd fn.2.2.1 (nf p' fn.1 f' fn.2.1)⟩⟩), no0⟩) (fun p' f' hp' hf' fn => ⟨no1, fun _ => ?_⟩)
      · have := lib_uniq hr hl; omega
      · have ef : (upC (upC σ 0 73 p') 0 74 f') 0 74 = f' := rfl
        rw [ef]
        refine sp_hasType (σ := upC (upC σ 0 73 p') 0 74 f') h.2.2.1 he hf' (fun ht => ⟨fun _ => k _ _ (kp_f (kp_f kp_rf rfl) rfl) (fun _ => ⟨fun q => absurd q c2, fun _ _ _ => ⟨fun r hr q => ?_, fun r p9 f9 hr q fn9 => ?_⟩⟩), no1⟩) ⟨no0, fun _ => k _ _ (kp_f (kp_f kp_rf rfl) rfl) (n01 _)⟩
        · have := lib_uniq hr hl; omega
        · obtain ⟨-, u2⟩ := fnd_uniq fn9 fn
          rw [u2]
          exact ht
    · refine sp_hasLibraryType he (fun t1 t2 t3 => ⟨fun _ => k _ _ kp_rf (fun _ => ⟨fun q => absurd q c2, fun _ _ _ => ⟨fun r hr q => ?_, fun r p' f' hr q fn => ?_⟩⟩), no1⟩) ⟨no0, fun _ => k _ _ kp_rf (n01 _)⟩
      · have u := lib_uniq hr hl
        rw [u]
        exact ⟨t2, t3⟩
      · have := lib_uniq hr hl; omega
    · exact k _ _ kp_rf (fun _ => ⟨fun _ _ _ q => absurd c3 q, fun q => by omega⟩)
    · exact k _ _ kp_rf (fun _ => ⟨fun _ _ _ _ => Or.inl ⟨l, hl, c4⟩, fun q => by omega⟩)
    · exact sp_find h he (fun nf => ⟨no0, fun _ => k _ _ kp_rf (n01 _)⟩) (fun p' f' hp' hf' fn => ⟨fun _ => k _ _ (kp_f (kp_f kp_rf rfl) rfl) (fun _ => ⟨fun _ _ _ _ => Or.inr ⟨_, _, fn⟩, fun q => by omega⟩), no1⟩)
  · have triv : NOTH σ num.toInt e.toNatClampNeg n.toInt := ⟨fun q => by omega, fun q => by omega⟩
    have hR : RWS σ p.toInt := ⟨by omega, h.2.1, h.2.2.1, fun p' hp' => h.2.2.2 p' (by omega)⟩
    refine sp_isSymbol he (fun s1 s2 => ⟨no1, fun _ => ⟨fun c2 => k _ _ kp_rf (fun _ => triv), fun c2 => ?_⟩⟩) (fun q => ⟨fun _ => k _ _ kp_rf (fun _ => triv), no0⟩)
    exact sp_find hR he (fun nf => ⟨fun _ => k _ _ kp_rf (fun _ => triv), no0⟩) (fun p' f' hp' hf' fn => ⟨no1, fun _ => k _ _ (kp_f (kp_f kp_rf rfl) rfl) (fun _ => triv)⟩)
def CLN (σ : St) (num : Int) (n : Int) : Prop := ∀ p : Nat, (p : Int) < n → ∀ e, InO σ (PO σ p) e → ((σ 12) e).toInt = 0 → NOTH σ num e n
theorem sp_isFault {num n : Int32} {Q : Int32 → St → St → List Nat → Prop} (h : RWS σ n.toInt) (k0 : ∀ s, Kp [(0, 73), (0, 74)] [] σ s → CLN σ num.toInt n.toInt → Q 0 s τ vs) (k1 : ∀ s, Kp [(0, 71), (0, 72), (0, 73), (0, 74)] [] σ s → Q 1 s τ vs) : wp_isFault num n σ τ vs Q := by
  have e0 : (0 : Int32).toInt = 0 := by decide
  have hn := h.1
  unfold wp_isFault
  refine ⟨fun m p s t z => (m : Int) = n.toInt - p.toInt ∧ 0 ≤ p.toInt ∧ Kp [(0, 73), (0, 74)] [] σ s ∧ t = τ ∧ z = vs ∧ ∀ p' : Nat, (p' : Int) < p.toInt → ∀ e, InO σ (PO σ p') e → ((σ 12) e).toInt = 0 → NOTH σ num.toInt e n.toInt, ⟨n.toInt.toNat, by omega, by omega, kp_rf, rfl, rfl, fun p' hp' => by omega⟩, ?_⟩
  rintro m p s t z ⟨q1, q2, kk, rfl, rfl, q3⟩
  refine ⟨fun c => k0 s kk (fun p' hp' => q3 p' (by omega)), fun c => ?_⟩
  have hs := rws_k (kp_sub kk rfl rfl) h
  obtain ⟨i1, i2, i3, i4, i5, i6, i7, i8, i9⟩ := po_of hs q2 c
  have a40 : (s 40) = (σ 40) := funext (fun j => kk 40 j rfl rfl)
  have a22 : (s 22) = (σ 22) := funext (fun j => kk 22 j rfl rfl)
  have ePO : PO s p.toNatClampNeg = PO σ p.toNatClampNeg := by unfold PO; rw [a40]
  rw [i3]
  rw [ePO] at i5 i6 i7 i9 ⊢
  have efs : ∀ o, fO s o = fO σ o := fun o => by unfold fO; rw [a22]
  rw [efs] at i6 i7 i9
  have np := nt q2
  have ep := ad1 (x := p) (by omega)
  have ef : ((s 22) (PO σ p.toNatClampNeg)).toInt = fO σ (PO σ p.toNatClampNeg) := by rw [a22]; rfl
  refine ⟨i1, by rw [ePO] at i3; omega, fun m' x4 e s5 t5 z5 => m' = (fO σ (PO σ p.toNatClampNeg + 1) - e.toInt).toNat ∧ fO σ (PO σ p.toNatClampNeg) ≤ e.toInt ∧ Kp [(0, 73), (0, 74)] [] σ s5 ∧ t5 = t ∧ z5 = z ∧ ∀ e' : Nat, fO σ (PO σ p.toNatClampNeg) ≤ (e' : Int) → (e' : Int) < e.toInt → ((σ 12) e').toInt = 0 → NOTH σ num.toInt e' n.toInt, ⟨_, rfl, by omega, kk, rfl, rfl, fun e' a b => by omega⟩, ?_⟩
  rintro m' x4 e s5 t5 z5 ⟨r1, r2, k5, rfl, rfl, r3⟩
  have b40 : (s5 40) = (σ 40) := funext (fun j => k5 40 j rfl rfl)
  have b22 : (s5 22) = (σ 22) := funext (fun j => k5 22 j rfl rfl)
  have b12 : (s5 12) = (σ 12) := funext (fun j => k5 12 j rfl rfl)
  rw [b40, b22, b12]
  rw [a40] at i4 i5
  rw [i5]
  have ef2 : ((σ 22) (PO σ p.toNatClampNeg + 1)).toInt = fO σ (PO σ p.toNatClampNeg + 1) := rfl
  have ne := nt (x := e) (by omega)
  refine ⟨i1, i4, fun c2 => ⟨m - 1, by omega, by omega, by omega, k5, rfl, rfl, fun p' hp' e' he' hs' => ?_⟩, fun c2 => ?_⟩
  · by_cases e9 : p' = p.toNatClampNeg
    · subst e9
      exact r3 e' he'.1 (by have := he'.2; omega) hs'
    · exact q3 p' (by omega) e' he' hs'
  have e1 := ad1 (x := e) (by omega)
  refine ⟨by omega, fun x9 s9 t9 z9 => Kp [(0, 73), (0, 74)] [] σ s9 ∧ t9 = t5 ∧ z9 = z5 ∧ (((σ 12) e.toNatClampNeg).toInt = 0 → NOTH σ num.toInt e.toNatClampNeg n.toInt), ?_, fun c3 => ?_, fun c3 => ⟨k5, rfl, rfl, fun q => absurd q c3⟩⟩
  · rintro x9 s9 t9 z9 ⟨k9, rfl, rfl, hh⟩
    refine ⟨_, by omega, rfl, by omega, k9, rfl, rfl, fun e' a b hs' => ?_⟩
    by_cases e9 : e' = e.toNatClampNeg
    · subst e9; exact hh hs'
    · exact r3 e' a (by omega) hs'
  · refine sp_holds (rws_k (kp_sub k5 rfl rfl) h) ⟨q2, by omega⟩ (by omega) (fun r s6 k6 hr => ⟨fun c4 => ⟨kp_tr k5 k6, rfl, rfl, fun _ => noth_k (kp_sub k5 rfl rfl) (hr c4)⟩, fun _ => k1 _ (kp_f (kp_f (kp_sub (kp_tr k5 k6) rfl rfl) rfl) rfl)⟩)
/-- main, where there is one -/
theorem sp_mainOf {n : Int32} {Q : Int32 → Prop} (h : RWS σ n.toInt) (k0 : Q (-1)) (k1 : ∀ p f : Nat, (p : Int) < n.toInt → InO σ (PO σ p) f → ((σ 13) f).toInt = 1 → ((σ 9) f).toInt = 2 → ((σ 15) f).toInt = 0 → Q ((σ 17) f)) : wp_mainOf n σ τ vs Q := by
  have e0 : (0 : Int32).toInt = 0 := by decide
  have e1' : (1 : Int32).toInt = 1 := by decide
  have hn := h.1
  unfold wp_mainOf
  refine ⟨fun m p => (m : Int) = n.toInt - p.toInt ∧ 0 ≤ p.toInt, ⟨n.toInt.toNat, by omega, by omega⟩, ?_⟩
  rintro m p ⟨q1, q2⟩
  refine ⟨fun _ => k0, fun c => ?_⟩
  obtain ⟨i1, i2, i3, i4, i5, i6, i7, i8, i9⟩ := po_of h q2 c
  have np := nt q2
  have ep := ad1 (x := p) (by omega)
  rw [i3, i5]
  have ef : ((σ 22) (PO σ p.toNatClampNeg)).toInt = fO σ (PO σ p.toNatClampNeg) := rfl
  have ef2 : ((σ 22) (PO σ p.toNatClampNeg + 1)).toInt = fO σ (PO σ p.toNatClampNeg + 1) := rfl
  refine ⟨i1, by omega, fun m' f => m' = (fO σ (PO σ p.toNatClampNeg + 1) - f.toInt).toNat ∧ fO σ (PO σ p.toNatClampNeg) ≤ f.toInt, ⟨_, rfl, by omega⟩, ?_⟩
  rintro m' f ⟨r1, r2⟩
  have nf := nt (x := f) (by omega)
  refine ⟨i1, i4, fun c2 => ⟨m - 1, by omega, by omega, by omega⟩, fun c2 => ?_⟩
  have ff : 0 ≤ f.toInt ∧ f.toInt < 10000 := by omega
  have e1 := ad1 (x := f) (by omega)
  have nx : ∃ m_1, m_1 < m' ∧ (m_1 = (fO σ (PO σ p.toNatClampNeg + 1) - (f + 1).toInt).toNat ∧ fO σ (PO σ p.toNatClampNeg) ≤ (f + 1).toInt) := ⟨_, by omega, rfl, by omega⟩
  obtain ⟨m1, m2, m3⟩ := h.2.1 f.toNatClampNeg
  have ad4 : ∀ k : Int32, 0 ≤ k.toInt → k.toInt < 4 → ((σ 19) f.toNatClampNeg).toInt = 4 → (0 ≤ ((σ 18) f.toNatClampNeg + k).toInt ∧ ((σ 18) f.toNatClampNeg + k).toInt < 65536) := fun k k1 k2 k3 => by
    have : ((σ 18) f.toNatClampNeg + k).toInt = ((σ 18) f.toNatClampNeg).toInt + k.toInt := ad (by omega) (by omega)
    omega
  refine ⟨ff, fun _ => True, fun y _ _ => ⟨True, fun _ => nx, fun _ => trivial, fun _ => sp_isSymbol ff (fun s1 s2 => ⟨no1, fun _ => ⟨ff, fun _ => trivial, fun c3 => ⟨ff, fun _ => trivial, fun c4 => ⟨ff, fun _ => trivial, fun c5 => ⟨ff, ?_⟩⟩⟩⟩⟩) (fun _ => ⟨fun _ => trivial, no0⟩)⟩, True, fun _ => trivial, fun _ => trivial, fun c3 => ⟨ff, by omega, fun _ => trivial, fun _ => ⟨ff, ad4 1 (by decide) (by decide) c3, fun _ => trivial, fun _ => ⟨ff, ad4 2 (by decide) (by decide) c3, fun _ => trivial, fun _ => ⟨ff, ad4 3 (by decide) (by decide) c3, fun _ => trivial, fun _ => trivial⟩⟩⟩⟩⟩
  exact k1 p.toNatClampNeg f.toNatClampNeg (by omega) ⟨by omega, by omega⟩ (by rw [s2, e1']) c3 c5
theorem sp_aimOf {e p n : Int32} {Q : Int32 → St → St → List Nat → Prop} (h : RWS σ n.toInt) (hp : 0 ≤ p.toInt ∧ p.toInt < 100) (he : 0 ≤ e.toInt ∧ e.toInt < 10000) (k : ∀ (r : Int32) s, Kp [(0, 73), (0, 74)] [] σ s → AIMR σ e.toNatClampNeg n.toInt r → Q r s τ vs) : wp_aimOf e p n σ τ vs Q := by
  have em1 : ((-1 : Int32)).toInt = -1 := by decide
  unfold wp_aimOf
  refine ⟨he, fun c => ⟨he, fun l => ((σ 12) e.toNatClampNeg).toInt ≠ 0 ∨ LIB σ e.toNatClampNeg l, fun l hl => ⟨fun c2 => ⟨he, fun c3 => k _ _ kp_rf ⟨fun q => absurd c q, fun _ q => absurd q c3⟩, fun c3 => ?_⟩, fun c2 => ?_⟩, fun c2 => sp_library h.2.1 he (fun r hr => Or.inr hr), fun c2 => Or.inl c2⟩, fun c => ⟨he, fun c2 => ⟨he, k _ _ kp_rf ⟨fun _ _ => rfl, fun q => absurd q c⟩⟩, fun c2 => ⟨hp, he, k _ _ kp_rf ⟨fun _ q => absurd c2 q, fun q => absurd q c⟩⟩⟩⟩
  · have hl' : LIB σ e.toNatClampNeg l := hl.resolve_left (fun q => q c3)
    refine sp_find h he (fun nf => ⟨no0, fun _ => k _ _ kp_rf ⟨fun q => absurd c q, fun _ _ => ⟨fun l2 hl2 q => ?_, fun l2 p2 f2 hl2 q fn => absurd fn.2.2.1 (nf p2 fn.1 f2 fn.2.1)⟩⟩⟩) (fun p' f' hp' hf' fn => ⟨fun _ => ⟨he, fun c4 => ⟨hf', k _ _ (kp_f (kp_f kp_rf rfl) rfl) ⟨fun q => absurd c q, fun _ _ => ⟨fun l2 hl2 q => ?_, fun l2 p2 f2 hl2 q fn2 _ => ?_⟩⟩⟩, fun c4 => ⟨hp', hf', k _ _ (kp_f (kp_f kp_rf rfl) rfl) ⟨fun q => absurd c q, fun _ _ => ⟨fun l2 hl2 q => ?_, fun l2 p2 f2 hl2 q fn2 q2 => absurd c4 q2⟩⟩⟩⟩, no1⟩)
    · have := lib_uniq hl2 hl'; omega
    · have := lib_uniq hl2 hl'; omega
    · obtain ⟨-, u2⟩ := fnd_uniq fn2 fn
      rw [u2]
      rfl
    · have := lib_uniq hl2 hl'; omega
  · refine k _ _ kp_rf ⟨fun q => absurd c q, fun _ q0 => ?_⟩
    have hl' : LIB σ e.toNatClampNeg l := hl.resolve_left (fun q => q q0)
    have lr : l.toInt ≤ 3 := by
      rcases hl' with ⟨a, -⟩ | ⟨a, -⟩ | ⟨a, -⟩ | ⟨a, -⟩ | ⟨a, -⟩ <;> omega
    have es : ((-1 : Int32) - l).toInt = -1 - l.toInt := by rw [sb (by omega) (by omega), em1]
    refine ⟨fun l2 hl2 q => ?_, fun l2 p2 f2 hl2 q fn2 _ => ?_⟩
    · have := lib_uniq hl2 hl'; omega
    · have := lib_uniq hl2 hl'; omega
end HLD
