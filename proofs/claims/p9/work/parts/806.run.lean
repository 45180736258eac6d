/-! the machine: a run -/
section RUN
variable {κ σ s t : St} {Fs : Nat → Nat → Prop} {N : Nat} {a b : Int32}
theorem up_lt {x y : Int32} (h : x.toInt < y.toInt) : (x + 1).toInt = x.toInt + 1 := by
  have := s_rng y
  exact ad1 (by omega)
theorem sp_fill62 {Q : St → Prop} (k : ∀ s, Kp [] [62] σ s → Q s) : wk_X4_fill_r62 σ Q := by
  unfold wk_X4_fill_r62
  refine ⟨fun n x s => n = ((σ 10 7).toInt - x.toInt).toNat ∧ Kp [] [62] σ s, ⟨_, rfl, kp_rf⟩, ?_⟩
  rintro n x s ⟨hn, hs⟩
  have e7 : (s 10 7) = (σ 10 7) := hs 10 7 rfl rfl
  refine ⟨fun _ => k s hs, fun c => ?_⟩
  rw [e7] at c
  refine ⟨fun m y s2 => m = ((atv 101 ((σ 35)) (atv 101 ((s 57)) x)).toInt - y.toInt).toNat ∧ Kp [] [62] σ s2, ⟨_, rfl, hs⟩, ?_⟩
  rintro m y s2 ⟨hm, hs2⟩
  have e35 : (s2 35) = (σ 35) := funext (fun j => hs2 35 j rfl rfl)
  refine ⟨fun _ => ⟨((σ 10 7).toInt - (x + 1).toInt).toNat, by rw [up_lt c]; omega, rfl, hs2⟩, fun c2 => ?_⟩
  rw [e35] at c2
  refine ⟨fun _ => True, fun y0 _ => ⟨((atv 101 ((σ 35)) (atv 101 ((s 57)) x)).toInt - (y + 1).toInt).toNat, by rw [up_lt c2]; omega, rfl, kp_F hs2 rfl⟩, fun _ => ⟨fun _ => trivial, fun _ => trivial⟩, fun _ => trivial⟩
def bgS (s : St) (a1 : Int32) : St := upC (upC (upC (upC (upC (upC (upC (upC (upC (upC (upC s 12 12 a1) 12 13 ((-1) : Int32)) 12 14 (0 : Int32)) 12 15 (0 : Int32)) 12 16 ((-1) : Int32)) 12 17 (0 : Int32)) 12 7 (0 : Int32)) 12 8 (0 : Int32)) 12 9 (8 : Int32)) 12 10 (8 : Int32)) 12 11 (32768 : Int32)
abbrev KRm (a b : St) : Prop := Kp [(12, 7), (12, 8), (12, 9), (12, 10), (12, 11), (12, 12), (12, 13), (12, 14), (12, 15), (12, 16), (12, 17), (11, 0), (11, 1), (11, 2)] [60, 61, 62, 63, 64] a b
theorem sp_mbegin {Q : St → Prop} (k : ∀ s, Kp [(11, 1), (11, 2)] [62] σ s → Q (bgS s a)) : wk_X5_begin a σ Q := by
  unfold wk_X5_begin
  refine sp_fill62 (fun s hs => k _ (kp_f (kp_f (kp_tr (kp_F kp_rf rfl) (kp_sub hs rfl rfl)) rfl) rfl))
theorem lg_lt {x y : Int64} (h : (lg_cmp x y).toInt < 0) : x.toInt < y.toInt := lc_lt h
theorem most_eq {f l : Int32} (hf : 0 ≤ f.toInt ∧ f.toInt ≤ 20000) (hl : 0 ≤ l.toInt ∧ l.toInt ≤ 300000) : ((((4 : Int64) * f.toInt64) + (8 : Int64)) * (l.toInt64 + (1 : Int64))).toInt = (4 * f.toInt + 8) * (l.toInt + 1) := by
  have ef : f.toInt64.toInt = f.toInt := Int32.toInt_toInt64 f
  have el : l.toInt64.toInt = l.toInt := Int32.toInt_toInt64 l
  have e4 : (4 : Int64).toInt = 4 := by decide
  have e8 : (8 : Int64).toInt = 8 := by decide
  have e1 : (1 : Int64).toInt = 1 := by decide
  have m1 : ((4 : Int64) * f.toInt64).toInt = 4 * f.toInt := by
    rw [Int64.toInt_mul, e4, ef, Int.bmod_eq_of_le] <;> omega
  have m2 : (((4 : Int64) * f.toInt64) + (8 : Int64)).toInt = 4 * f.toInt + 8 := by
    rw [Int64.toInt_add, m1, e8, Int.bmod_eq_of_le] <;> omega
  have m3 : (l.toInt64 + (1 : Int64)).toInt = l.toInt + 1 := by
    rw [Int64.toInt_add, el, e1, Int.bmod_eq_of_le] <;> omega
  have h1 : 0 ≤ (4 * f.toInt + 8) * (l.toInt + 1) := Int.mul_nonneg (by omega) (by omega)
  have h2 : (4 * f.toInt + 8) * (l.toInt + 1) ≤ 100000 * 400000 := Int.mul_le_mul (by omega) (by omega) (by omega) (by omega)
  rw [Int64.toInt_mul, m2, m3, Int.bmod_eq_of_le] <;> omega
theorem sp_execute {n : Nat} {Q : Int32 → St → Prop} (hL : LKf σ Fs N) (hN : (N : Int) = (σ 4 1).toInt) (ha : 0 ≤ a.toInt ∧ a.toInt ≤ 20000) {hd : Nat} (hm : (σ 10 11).toInt = hd) (hF : Fs hd n) (n0 : n = 0)
    (k : ∀ r s, KRm σ s → (s 11 0).toInt = 0 → Q r s) : wk_X5_execute a σ Q := by
  unfold wk_X5_execute
  refine sp_mbegin (fun s0 hs0 => ?_)
  have kb : KRm σ (bgS s0 a) := kp_f (kp_f (kp_f (kp_f (kp_f (kp_f (kp_f (kp_f (kp_f (kp_f (kp_f (kp_sub hs0 rfl rfl) rfl) rfl) rfl) rfl) rfl) rfl) rfl) rfl) rfl) rfl) rfl
  have ew : ((bgS s0 a) 24) = (σ 24) := funext (fun j => kb 24 j rfl rfl)
  have ea : ((bgS s0 a) 59) = (σ 59) := funext (fun j => kb 59 j rfl rfl)
  have em : ((bgS s0 a) 10 11) = (σ 10 11) := kb 10 11 rfl rfl
  have el : ((bgS s0 a) 4 1) = (σ 4 1) := kb 4 1 rfl rfl
  have ei : ∀ x m, CPI (bgS s0 a) Fs x m = CPI σ Fs x m := fun x m => by unfold CPI; rw [ea]
  have hL' : LKf (bgS s0 a) Fs N := ⟨hL.1, fun h m q => by
    obtain ⟨L, g, F⟩ := hL.2 h m q
    have e2 : CPI (bgS s0 a) Fs = CPI σ Fs := funext (fun x => funext (fun m => ei x m))
    exact ⟨L, g, by rw [ew, e2]; exact F⟩⟩
  obtain ⟨L, g, F⟩ := hL'.2 hd n hF
  have F' := F
  obtain ⟨f1, f2, f3, f4, f5, f6, ⟨k2, f7⟩, f8⟩ := F'
  have b7 : ((bgS s0 a) 12 7).toInt = 0 := rfl
  have b9 : ((bgS s0 a) 12 9).toInt = 8 := rfl
  have b10 : ((bgS s0 a) 12 10).toInt = 8 := rfl
  have b11 : ((bgS s0 a) 12 11).toInt = 32768 := rfl
  have b12 : ((bgS s0 a) 12 12) = a := rfl
  have b13 : ((bgS s0 a) 12 13) = -1 := rfl
  have b14 : ((bgS s0 a) 12 14).toInt = 0 := rfl
  generalize hB : bgS s0 a = B at *
  have fin : ∀ s, KMm B s → wk_X9_useUp s (fun s92 => Q (s92 12 13) s92) := fun s hs => k _ _ (kp_tr kb (kp_f (kp_sub hs rfl rfl) rfl)) rfl
  have hmost := most_eq (f := a) (l := (σ 4 1)) ha (by have := hL.1; omega)
  refine sk_enter (κ := B) (c := 0) (n := n) (L := L) (hd := hd) b7 ⟨by omega, by omega⟩ (by rw [em]; exact hm) F rfl hL.1 ⟨by omega, by omega⟩ ⟨by omega, by omega⟩ (fun s hs ho => ?_) (fun s hs => ?_)
  · refine ⟨fun m x s2 => s2 = s, ⟨0, rfl⟩, ?_⟩
    rintro m x s2 rfl
    refine ⟨True, fun _ => ⟨fun s3 => s3 = s2, fun s3 e => by subst e; exact fin _ hs, fun _ => rfl, fun c => absurd c ho⟩, fun _ => trivial, fun _ => ⟨fun _ => trivial, fun c => absurd c ho⟩⟩
  · obtain ⟨e1, e2, e3, e4, e5, e6, e7, e8, e9, x1, x2, x3, x4⟩ := hs
    have q12 : (s 12 12) = (B 12 12) := e1 12 12 rfl rfl
    have q4 : (s 4 1) = (B 4 1) := e1 4 1 rfl rfl
    have hfu : (s 12 12) = a := q12.trans b12
    have hC : CTx B s Fs N 1 hd n L g (hd + 4) 0 k2 := ⟨e1, e7.trans b13, by omega, by omega, ⟨by omega, by omega⟩, e5.1, F, by omega, f7, by omega, by rw [hfu]; rw [b12] at e9; omega⟩
    have hP : PHI s N 1 g (hd + 4) k2 < (4 * a.toInt + 8) * ((σ 4 1).toInt + 1) := by
      have hrk : rk g N k2 (hd + 4) ≤ N := cnt_le _ _
      have et : (s 12 14).toInt = 1 := by omega
      unfold PHI
      rw [hfu, et, ← hN]
      have h1 : (2 * (a.toInt - 1) + ((1 : Nat) : Int)) * ((N : Int) + 1) ≤ (4 * a.toInt + 6) * ((N : Int) + 1) := Int.mul_le_mul_of_nonneg_right (by omega) (by omega)
      have h2 : (4 * a.toInt + 8) * ((N : Int) + 1) = (4 * a.toInt + 6) * ((N : Int) + 1) + 2 * ((N : Int) + 1) := by rw [← Int.add_mul]; congr 1; omega
      rw [h2]
      omega
    rw [hfu, q4, el]
    generalize hMX : (((4 : Int64) * a.toInt64) + (8 : Int64)) * (((σ 4 1)).toInt64 + (1 : Int64)) = MX at *
    have hMX2 : MX.toInt = (4 * a.toInt + 8) * ((σ 4 1).toInt + 1) := hmost
    refine ⟨fun m x s2 => m = (MX.toInt - x.toInt).toNat ∧ 0 ≤ x.toInt ∧ ((KMm B s2 ∧ (s2 12 13).toInt ≠ -1) ∨ ∃ c hd n L g pc h k, CTx B s2 Fs N c hd n L g pc h k ∧ PHI s2 N c g pc k + x.toInt < MX.toInt), ⟨_, rfl, by decide, Or.inr ⟨1, hd, n, L, g, hd + 4, 0, k2, hC, ?_⟩⟩, ?_⟩
    · have : (0 : Int64).toInt = 0 := by decide
      rw [this]
      omega
    · rintro m x s2 ⟨hm2, hx, hs2⟩
      refine ⟨(s2 12 13).toInt ≠ -1, fun o => ⟨fun s3 => s3 = s2, fun s3 e => ?_, fun _ => rfl, fun c => absurd c o⟩, fun c => ?_, fun c => ⟨fun o => o, fun o => ?_⟩⟩
      · subst e
        rcases hs2 with ⟨q, -⟩ | ⟨c, hd, n, L, g, pc, h, k, C, -⟩
        · exact fin _ q
        · exact fin _ C.1
      · have c2 := lc_ge c
        rcases hs2 with ⟨-, q⟩ | ⟨c, hd, n, L, g, pc, h, k, C, q⟩
        · exact q
        · exfalso
          have hrk : 0 ≤ (2 * ((s2 12 12).toInt - (s2 12 14).toInt) + (c : Int)) * ((N : Int) + 1) := Int.mul_nonneg (by have := C.2.2.2.2.2.2.2.2.2.2; omega) (by omega)
          unfold PHI at q
          omega
      · have c2 := lc_lt c
        rcases hs2 with ⟨-, q⟩ | ⟨c, hd, n, L, g, pc, h, k, C, q⟩
        · exact absurd o q
        · refine sk_step hL' C (fun s3 hs3 => ?_)
          have ex : (x + (1 : Int64)).toInt = x.toInt + 1 := by
            have e1 : (1 : Int64).toInt = 1 := by decide
            have r : MX.toInt ≤ 100000 * 400000 := by
              rw [hMX2]
              exact Int.mul_le_mul (by omega) (by have := hL.1; omega) (by have := hL.1; omega) (by omega)
            rw [Int64.toInt_add, e1, Int.bmod_eq_of_le] <;> omega
          refine ⟨(MX.toInt - (x + (1 : Int64)).toInt).toNat, by rw [ex]; omega, rfl, by rw [ex]; omega, ?_⟩
          rcases hs3 with q2 | ⟨c', hd', n', L', g', pc', h', k', C', q2⟩
          · exact Or.inl q2
          · exact Or.inr ⟨c', hd', n', L', g', pc', h', k', C', by rw [ex]; omega⟩
end RUN
