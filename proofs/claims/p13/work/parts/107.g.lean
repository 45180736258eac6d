section
/-! the reference's names: looked up -/
def NMm (σ : St) (a b : Nat) : Prop := (σ 4 a).toInt - (σ 3 a).toInt = (σ 4 b).toInt - (σ 3 b).toInt ∧ ∀ i : Nat, (i : Int) < (σ 4 b).toInt - (σ 3 b).toInt → (σ 1 ((σ 3 a).toInt.toNat + i)).toInt = (σ 1 ((σ 3 b).toInt.toNat + i)).toInt
def TNm (σ : St) (u : Nat) : Prop := u < 16002 ∧ 0 ≤ (σ 3 u).toInt ∧ (σ 3 u).toInt ≤ (σ 4 u).toInt ∧ (σ 4 u).toInt ≤ 16000
def mtk (σ : St) (j : Nat) : Nat := (σ 34 j).toInt.toNat
def LOKm (σ : St) (S : Nat) : Prop := (σ 0 53).toInt = (S : Int) ∧ S ≤ 100 ∧ ∀ j, j < S → 0 ≤ (σ 34 j).toInt ∧ TNm σ (mtk σ j)
def LFm (σ : St) (S u : Nat) (v : Int) : Prop := (∃ j, j < S ∧ NMm σ (mtk σ j) u ∧ (∀ j', j < j' → j' < S → ¬ NMm σ (mtk σ j') u) ∧ v = (σ 35 j).toInt) ∨ ((∀ j, j < S → ¬ NMm σ (mtk σ j) u) ∧ v = -1)
def NSm (σ : St) (e u : Nat) : Prop := (σ 19 e).toInt = (σ 4 u).toInt - (σ 3 u).toInt ∧ ∀ i : Nat, (i : Int) < (σ 4 u).toInt - (σ 3 u).toInt → (σ 20 ((σ 18 e).toInt.toNat + i)).toInt = (σ 1 ((σ 3 u).toInt.toNat + i)).toInt
def EOKm (σ : St) (lo n : Nat) : Prop := (σ 22 (σ 0 35).toNatClampNeg).toInt = (lo : Int) ∧ (σ 0 36).toInt = (n : Int) ∧ lo ≤ n ∧ n ≤ 10000 ∧ (∀ e, lo ≤ e → e < n → 0 ≤ (σ 18 e).toInt ∧ 0 ≤ (σ 19 e).toInt ∧ (σ 18 e).toInt + (σ 19 e).toInt ≤ 65536) ∧ 0 ≤ (σ 0 31).toInt ∧ (σ 0 31).toInt ≤ 65536 ∧ ∀ e, lo ≤ e → e < n → (σ 18 e).toInt + (σ 19 e).toInt ≤ (σ 0 31).toInt
def EFm (σ : St) (lo n u : Nat) (v : Int) : Prop := (∃ e : Nat, lo ≤ e ∧ e < n ∧ NSm σ e u ∧ (∀ e', lo ≤ e' → e' < e → ¬ NSm σ e' u) ∧ v = e) ∨ ((∀ e, lo ≤ e → e < n → ¬ NSm σ e u) ∧ v = -1)
section RLK
variable {σ s r τ t : St} {vs z : List Nat} {u v q : Nat} {k ty h zz f i sg : Int} {x y a b c : Int32}
theorem nat_of {m : Nat} (h : a.toInt = (m : Int)) : a.toNatClampNeg = m := by rw [nt', h]; rfl
theorem mr_isSame {Q : Int32 → Prop} (ha : a.toInt = (u : Int)) (hb : b.toInt = (v : Int)) (tu : TNm σ u) (tv : TNm σ v) (k1 : NMm σ u v → Q 1) (k0 : ¬ NMm σ u v → Q 0) : pp_isSame a b σ τ vs Q := by
  obtain ⟨u1, u2, u3, u4⟩ := tu
  obtain ⟨v1, v2, v3, v4⟩ := tv
  unfold pp_isSame
  rw [nat_of ha, nat_of hb]
  have e1 : ((σ 4 u) - (σ 3 u)).toInt = (σ 4 u).toInt - (σ 3 u).toInt := sb (by omega) (by omega)
  have e2 : ((σ 4 v) - (σ 3 v)).toInt = (σ 4 v).toInt - (σ 3 v).toInt := sb (by omega) (by omega)
  rw [e1, e2]
  refine fun _ _ _ _ => ⟨fun e => ⟨fun y => 0 ≤ y.toInt ∧ y.toInt ≤ (σ 4 u).toInt - (σ 3 u).toInt ∧ ∀ i : Nat, (i : Int) < y.toInt → (σ 1 ((σ 3 u).toInt.toNat + i)).toInt = (σ 1 ((σ 3 v).toInt.toNat + i)).toInt, ⟨by decide, by rw [i0]; omega, fun i hi => by rw [i0] at hi; omega⟩, ?_⟩, fun e => k0 (fun hx => e hx.1.symm)⟩
  rintro y ⟨y1, y2, y3⟩
  refine ⟨fun c => k1 ⟨e.symm, fun i hi => y3 i (by omega)⟩, fun c _ _ _ _ => ?_⟩
  have a1 : ((σ 3 u) + y).toInt = (σ 3 u).toInt + y.toInt := ad (by omega) (by omega)
  have a2 : ((σ 3 v) + y).toInt = (σ 3 v).toInt + y.toInt := ad (by omega) (by omega)
  have n1 : ((σ 3 u) + y).toNatClampNeg = (σ 3 u).toInt.toNat + y.toInt.toNat := by rw [nt', a1]; omega
  have n2 : ((σ 3 v) + y).toNatClampNeg = (σ 3 v).toInt.toNat + y.toInt.toNat := by rw [nt', a2]; omega
  rw [n1, n2]
  refine ⟨fun c4 => ⟨?_, ?_, fun i hi => ?_⟩, fun c4 => k0 (fun hx => c4 (hx.2 y.toInt.toNat (by omega)))⟩
  · rw [ad1 (by omega)]
    omega
  · rw [ad1 (by omega)]
    omega
  · rw [ad1 (by omega)] at hi
    by_cases q : (i : Int) = y.toInt
    · have : i = y.toInt.toNat := by omega
      subst this
      exact c4
    · exact y3 i (by omega)
theorem mr_local {Q : Int32 → Prop} {S : Nat} (ha : a.toInt = (u : Int)) (tu : TNm σ u) (hS : LOKm σ S) (kk : ∀ v : Int32, LFm σ S u v.toInt → Q v) : pp_local a σ τ vs Q := by
  obtain ⟨s1, s2, s3⟩ := hS
  unfold pp_local
  have e0 : ((σ 0 53) - (1 : Int32)).toInt = (S : Int) - 1 := by rw [sb1 (by omega), s1]
  refine ⟨fun y => -1 ≤ y.toInt ∧ y.toInt < S ∧ ∀ j : Nat, y.toInt < j → j < S → ¬ NMm σ (mtk σ j) u, ⟨by omega, by omega, fun j h1 h2 => by omega⟩, ?_⟩
  rintro y ⟨y1, y2, y3⟩
  refine ⟨fun c => kk _ (Or.inr ⟨fun j h2 => y3 j (by omega) h2, by decide⟩), fun c _ => ?_⟩
  obtain ⟨m, hm⟩ : ∃ m : Nat, y.toInt = m := ⟨y.toInt.toNat, by omega⟩
  obtain ⟨r1, r2⟩ := s3 m (by omega)
  rw [nat_of hm]
  refine mr_isSame (u := mtk σ m) (v := u) (by unfold mtk; omega) ha r2 tu (fun hx => ⟨fun c1 => absurd c1 (by decide), fun _ _ => kk _ (Or.inl ⟨m, by omega, hx, fun j' h1 h2 => y3 j' (by omega) h2, rfl⟩)⟩) (fun hx => ⟨fun _ => ?_, fun c1 => absurd rfl c1⟩)
  have e3 : (y + (-1)).toInt = y.toInt - 1 := dc1 (by omega)
  refine ⟨?_, ?_, fun j' h1 h2 => ?_⟩
  · rw [e3]
    clear e3
    omega
  · rw [e3]
    clear e3
    omega
  · rw [e3] at h1
    clear e3
    by_cases q : j' = m
    · subst q
      exact hx
    · exact y3 j' (by omega) h2
theorem mr_isNamed {Q : Int32 → Prop} {e : Nat} (ha : a.toInt = (e : Int)) (hb : b.toInt = (u : Int)) (tu : TNm σ u) (he : e < 10000 ∧ 0 ≤ (σ 18 e).toInt ∧ 0 ≤ (σ 19 e).toInt ∧ (σ 18 e).toInt + (σ 19 e).toInt ≤ 65536) (k1 : NSm σ e u → Q 1) (k0 : ¬ NSm σ e u → Q 0) : pp_isNamed a b σ τ vs Q := by
  obtain ⟨u1, u2, u3, u4⟩ := tu
  obtain ⟨v1, v2, v3, v4⟩ := he
  unfold pp_isNamed
  rw [nat_of ha, nat_of hb]
  have e1 : ((σ 4 u) - (σ 3 u)).toInt = (σ 4 u).toInt - (σ 3 u).toInt := sb (by omega) (by omega)
  rw [e1]
  refine fun _ _ _ => ⟨fun e' => ⟨fun y => 0 ≤ y.toInt ∧ y.toInt ≤ (σ 4 u).toInt - (σ 3 u).toInt ∧ ∀ i : Nat, (i : Int) < y.toInt → (σ 20 ((σ 18 e).toInt.toNat + i)).toInt = (σ 1 ((σ 3 u).toInt.toNat + i)).toInt, ⟨by decide, by rw [i0]; omega, fun i hi => by rw [i0] at hi; omega⟩, ?_⟩, fun e' => k0 (fun hx => e' hx.1)⟩
  rintro y ⟨y1, y2, y3⟩
  refine ⟨fun c => k1 ⟨e', fun i hi => y3 i (by omega)⟩, fun c _ _ _ _ => ?_⟩
  have a1 : ((σ 18 e) + y).toInt = (σ 18 e).toInt + y.toInt := ad (by omega) (by omega)
  have a2 : ((σ 3 u) + y).toInt = (σ 3 u).toInt + y.toInt := ad (by omega) (by omega)
  have n1 : ((σ 18 e) + y).toNatClampNeg = (σ 18 e).toInt.toNat + y.toInt.toNat := by rw [nt', a1]; omega
  have n2 : ((σ 3 u) + y).toNatClampNeg = (σ 3 u).toInt.toNat + y.toInt.toNat := by rw [nt', a2]; omega
  rw [n1, n2]
  refine ⟨fun c4 => ⟨?_, ?_, fun i hi => ?_⟩, fun c4 => k0 (fun hx => c4 (hx.2 y.toInt.toNat (by omega)))⟩
  · rw [ad1 (by omega)]
    omega
  · rw [ad1 (by omega)]
    omega
  · rw [ad1 (by omega)] at hi
    by_cases q : (i : Int) = y.toInt
    · have : i = y.toInt.toNat := by omega
      subst this
      exact c4
    · exact y3 i (by omega)
theorem mr_entity {Q : Int32 → Prop} {lo n : Nat} (ha : a.toInt = (u : Int)) (tu : TNm σ u) (hE : EOKm σ lo n) (kk : ∀ v : Int32, EFm σ lo n u v.toInt → Q v) : pp_entity a σ τ vs Q := by
  obtain ⟨s1, s2, s3, s4, s5, _⟩ := hE
  unfold pp_entity
  intro _
  refine ⟨fun y => lo ≤ y.toInt ∧ y.toInt ≤ n ∧ ∀ e : Nat, lo ≤ e → (e : Int) < y.toInt → ¬ NSm σ e u, ⟨by omega, by omega, fun e h1 h2 => by omega⟩, ?_⟩
  rintro y ⟨y1, y2, y3⟩
  refine ⟨fun c => kk _ (Or.inr ⟨fun e h1 h2 => y3 e h1 (by omega), by decide⟩), fun c => ?_⟩
  obtain ⟨m, hm⟩ : ∃ m : Nat, y.toInt = m := ⟨y.toInt.toNat, by omega⟩
  obtain ⟨r1, r2, r3⟩ := s5 m (by omega) (by omega)
  refine mr_isNamed hm ha tu ⟨by omega, r1, r2, r3⟩ (fun hx => ⟨fun c1 => absurd c1 (by decide), fun _ => kk _ (Or.inl ⟨m, by omega, by omega, hx, fun e' h1 h2 => y3 e' h1 (by omega), hm⟩)⟩) (fun hx => ⟨fun _ => ⟨?_, ?_, fun e' h1 h2 => ?_⟩, fun c1 => absurd rfl c1⟩)
  · rw [ad1 (by omega)]
    omega
  · rw [ad1 (by omega)]
    omega
  · rw [ad1 (by omega)] at h2
    by_cases q : e' = m
    · subst q
      exact hx
    · exact y3 e' h1 (by omega)
end RLK
end

section
/-! the reference's names and strings -/
abbrev KTr (a b : St) : Prop := Kp [(0, 12), (0, 13), (0, 17), (0, 37), (0, 39)] [8, 25] a b
abbrev KNr (a b : St) : Prop := Kp [(0, 12), (0, 13), (0, 17)] [8, 33, 14] a b
/-- a name's Value: how, type, known, index, bad -/
def NRq (σ s : St) (S lo n u : Nat) (K T F I : Int) (B : Prop) : Prop :=
  (∃ v : Nat, LFm σ S u v ∧ ¬ B ∧ K = (if (σ 32 v).toInt < 0 then 1 else 0) ∧ T = (if (σ 32 v).toInt < 0 then (σ 31 v).toInt else (σ 31 v).toInt + 1) ∧ F = 0 ∧ I = v ∧ s 14 = σ 14)
  ∨ (LFm σ S u (-1) ∧ ∃ e : Nat, EFm σ lo n u e ∧ (σ 9 e).toInt = 1 ∧ ¬ B ∧ K = (if (σ 11 e).toInt < 0 then 2 else 0) ∧ T = (if (σ 11 e).toInt < 0 then (σ 10 e).toInt else (σ 10 e).toInt + 1) ∧ F = (if (σ 11 e).toInt < 0 then 0 else 2) ∧ I = (e : Int) - lo ∧ ∀ m, s 14 m = if m = e then 1 else σ 14 m)
  ∨ (LFm σ S u (-1) ∧ (EFm σ lo n u (-1) ∨ ∃ e : Nat, EFm σ lo n u e ∧ (σ 9 e).toInt ≠ 1) ∧ B ∧ K = 0 ∧ T = -2 ∧ F = 0 ∧ s 14 = σ 14)
section RNM
variable {σ s r τ t : St} {vs z : List Nat} {u v q S lo n : Nat} {k ty h zz f i sg : Int} {x y a b c d : Int32} {B : Prop}
theorem nv_made (hq : q ∉ vs) : MVq (upC (upC (upF τ q (fun _ => 0)) q 3 (1 : Int32)) q 0 a) q 0 a.toInt 1 0 0 0 0 ∧ TFq τ vs (upC (upC (upF τ q (fun _ => 0)) q 3 (1 : Int32)) q 0 a) (vs ++ [q]) := by
  refine ⟨⟨?_, ?_, ?_, ?_, ?_, fun hf => absurd hf (by decide), fun hi => by omega⟩, fun w hw => mem_app hw, fun w hw m => ?_⟩
  · rw [rdA_ne (by decide), rdA_ne (by decide), rdF_eq]; rfl
  · rw [rdA_eq rfl]
  · rw [rdA_ne (by decide), rdA_eq rfl]; rfl
  · rw [rdA_ne (by decide), rdA_ne (by decide), rdF_eq]; rfl
  · rw [rdA_ne (by decide), rdA_ne (by decide), rdF_eq]; rfl
  · rw [rdC_ne (nvq hq hw), rdC_ne (nvq hq hw), mr_new hq hw]
theorem mv_idx {i2 : Int} (hA : MVq t q 0 ty h zz f x i) : MVq (upC t q 2 d) q 0 ty h zz f x i2 := by
  obtain ⟨q0, q1, q2, q3, q4, q5, q6⟩ := hA
  refine ⟨?_, ?_, ?_, ?_, ?_, fun hf => ?_, fun hi => by omega⟩
  · rw [rdA_ne (by decide)]; exact q0
  · rw [rdA_ne (by decide)]; exact q1
  · rw [rdA_ne (by decide)]; exact q2
  · rw [rdA_ne (by decide)]; exact q3
  · rw [rdA_ne (by decide)]; exact q4
  · rw [rdA_ne (by decide)]; exact q5 hf
theorem mv_tok (hA : MVq t q k ty h zz f x i) : MVq (upC t q 4 d) q k ty h zz f x i := by
  obtain ⟨q0, q1, q2, q3, q4, q5, q6⟩ := hA
  refine ⟨?_, ?_, ?_, ?_, ?_, fun hf => ?_, fun hi => ?_⟩
  · rw [rdA_ne (by decide)]; exact q0
  · rw [rdA_ne (by decide)]; exact q1
  · rw [rdA_ne (by decide)]; exact q2
  · rw [rdA_ne (by decide)]; exact q3
  · rw [rdA_ne (by decide)]; exact q4
  · rw [rdA_ne (by decide)]; exact q5 hf
  · rw [rdA_ne (by decide)]; exact q6 hi
theorem mv_how (hA : MVq t q k ty h zz f x i) (hd : (t q 2).toInt = i) : MVq (upC t q 1 c) q c.toInt ty h zz f x i := by
  obtain ⟨q0, q1, q2, q3, q4, q5, q6⟩ := hA
  refine ⟨?_, ?_, ?_, ?_, ?_, fun hf => ?_, fun hi => ?_⟩
  · rw [rdA_eq rfl]
  · rw [rdA_ne (by decide)]; exact q1
  · rw [rdA_ne (by decide)]; exact q2
  · rw [rdA_ne (by decide)]; exact q3
  · rw [rdA_ne (by decide)]; exact q4
  · rw [rdA_ne (by decide)]; exact q5 hf
  · rw [rdA_ne (by decide)]; exact hd
theorem mv_hi (hA : MVq t q k ty h zz f x i) : MVq (upC (upC t q 1 c) q 2 d) q c.toInt ty h zz f x d.toInt := by
  obtain ⟨q0, q1, q2, q3, q4, q5, q6⟩ := hA
  refine ⟨?_, ?_, ?_, ?_, ?_, fun hf => ?_, fun hi => ?_⟩
  · rw [rdA_ne (by decide), rdA_eq rfl]
  · rw [rdA_ne (by decide), rdA_ne (by decide)]; exact q1
  · rw [rdA_ne (by decide), rdA_ne (by decide)]; exact q2
  · rw [rdA_ne (by decide), rdA_ne (by decide)]; exact q3
  · rw [rdA_ne (by decide), rdA_ne (by decide)]; exact q4
  · rw [rdA_ne (by decide), rdA_ne (by decide)]; exact q5 hf
  · rw [rdA_eq rfl]
theorem mr_init {Q : St → St → List Nat → Prop} (kk : ∀ s, Kp [(0, 39)] [25] σ s → Q s τ vs) : pp_init a b c σ τ vs Q := by
  unfold pp_init
  exact ⟨True, fun _ => ⟨fun _ => ⟨fun _ _ _ _ => kk _ (kp_f (kp_a (kp_a (kp_a kp_rf rfl) rfl) rfl) rfl), fun _ => trivial⟩, fun _ => kk _ kp_rf⟩, fun _ => trivial, fun _ => ⟨fun _ => kk _ kp_rf, fun _ => trivial⟩⟩
theorem mr_look {Q : Int32 → Prop} (kk : ∀ v, Q v) : pp_look a σ τ vs Q := by
  unfold pp_look
  exact ⟨fun _ => kk _, fun _ _ => kk _⟩
theorem mr_code {Q : Int32 → Prop} (kk : ∀ v, Q v) : pp_code a b σ τ vs Q := by
  unfold pp_code
  exact mr_look (fun v => ⟨fun _ => ⟨fun _ => kk _, fun _ => ⟨fun _ => kk _, fun _ => ⟨fun _ => kk _, fun _ => kk _⟩⟩⟩, fun _ => mr_look (fun v2 => ⟨fun _ => ⟨fun _ => ⟨fun _ => kk _, fun _ => ⟨fun _ => kk _, fun _ => ⟨fun _ => kk _, fun _ => kk _⟩⟩⟩, fun _ => kk _⟩, fun _ => kk _⟩)⟩)
theorem mr_codes {Q : St → St → List Nat → Prop} (kk : ∀ s, Kp [(0, 39)] [25] σ s → Q s τ vs) : pp_codes a b σ τ vs Q := by
  unfold pp_codes
  refine fun _ => ⟨fun _ _ s t z => Kp [(0, 39)] [25] σ s ∧ t = τ ∧ z = vs, ⟨kp_rf, rfl, rfl⟩, ?_⟩
  rintro x y s t z ⟨ks, rfl, rfl⟩ _
  exact ⟨fun _ => kk s ks, fun _ => mr_code (fun v => mr_init (fun s2 k2 => mr_look (fun v2 => ⟨fun _ => True, fun _ _ => ⟨kp_tr ks k2, rfl, rfl⟩, fun _ => trivial, fun _ => trivial⟩)))⟩
/-- a string -/
theorem mr_text {Q : Nat → St → St → List Nat → Prop} {D n : Int} (h0 : 0 ≤ (σ 0 12).toInt) (ha : a.toInt = (u : Int)) (hD : (σ 0 37).toInt = D) (hD9 : 0 ≤ D ∧ D ≤ 20000) (hn : (σ 6 u).toInt = n) (hn9 : 0 ≤ n ∧ n ≤ 16000)
    (kk : ∀ q s t, q ∉ vs → KTr σ s → TFq τ vs t (vs ++ [q]) → MVq t q 0 1 1 0 2 0 0 → FTq σ s (16000 < D + n + 1) → (s 0 37).toInt = (if 16000 < D + n + 1 then D else D + n + 1) → Q q s t (vs ++ [q])) : pp_text a σ τ vs Q := by
  unfold pp_text
  rw [nat_of ha]
  have e1 : ((σ 6 u) + (1 : Int32)).toInt = n + 1 := by rw [ad0 i1 (by omega) (by omega), hn]
  have e2 : ((σ 0 37) + ((σ 6 u) + (1 : Int32))).toInt = D + n + 1 := by rw [ad (by omega) (by omega), e1, hD]; omega
  rw [e2]
  refine fun _ => ⟨fun s t z => KTr σ s ∧ t = τ ∧ z = vs ∧ FTq σ s (16000 < D + n + 1) ∧ s 0 37 = σ 0 37 ∧ s 6 = σ 6, ?_, fun c => ⟨kp_rf, rfl, rfl, ft_iff (ft_rf h0) ⟨fun hx => hx.elim, fun hx => by omega⟩, rfl, rfl⟩, fun c => mr_tell h0 (by decide) (fun s k1 f1 => ⟨kp_sub k1 rfl rfl, rfl, rfl, ft_iff f1 ⟨fun _ => c, fun _ => trivial⟩, k1 0 37 rfl rfl, funext (fun m => k1 6 m rfl rfl)⟩)⟩
  rintro s t z ⟨k1, e3, e4, f1, d1, d2⟩
  subst e3
  subst e4
  rw [d1, e2]
  refine ⟨fun s' t' z' => KTr σ s' ∧ t' = t ∧ z' = z ∧ FTq σ s' (16000 < D + n + 1) ∧ (s' 0 37).toInt = (if 16000 < D + n + 1 then D else D + n + 1), ?_, fun c => ⟨k1, rfl, rfl, f1, by rw [if_pos c, d1, hD]⟩, fun c => mr_codes (fun s2 k2 => ⟨?_, rfl, rfl, ft_k f1 ?_, ?_⟩)⟩
  · rintro s2 t2 z2 ⟨k2, e3, e4, f2, d3⟩
    subst e3
    subst e4
    refine mr_put1 (fun s3 k3 _ q hq => ?_)
    unfold pp_Vinit
    refine fun _ _ => ?_
    unfold pp_Vaddress
    obtain ⟨m1, m2⟩ := nv_made (τ := t2) (a := 1) hq
    exact fun _ => kk q s3 _ hq (kp_tr k2 (kp_sub k3 rfl rfl)) (tf_up (tf_up (tf_up m2 hq) hq) hq) (mv_addr m1) (ft_k f2 (k3 0 12 rfl rfl)) (by rw [k3 0 37 rfl rfl]; exact d3)
  · exact kp_tr k1 (kp_tr (kp_sub k2 rfl rfl) (kp_f kp_rf rfl))
  · rw [rdA_ne (by decide)]
    exact k2 0 12 rfl rfl
  · rw [rdA_eq rfl, k2 0 37 rfl rfl, d1, if_neg (by omega)]
    exact e2
/-- a name -/
theorem mr_named {Q : Nat → St → St → List Nat → Prop} (h0 : 0 ≤ (σ 0 12).toInt) (ha : a.toInt = (u : Int)) (tu : TNm σ u) (hS : LOKm σ S) (hE : EOKm σ lo n) (hty : (∀ m, -2 ≤ (σ 31 m).toInt ∧ (σ 31 m).toInt ≤ 100) ∧ (∀ m, -2 ≤ (σ 10 m).toInt ∧ (σ 10 m).toInt ≤ 100)) (h35 : ∀ m, -1 ≤ (σ 35 m).toInt)
    (kk : ∀ q s t K T F I B, q ∉ vs → KNr σ s → TFq τ vs t (vs ++ [q]) → MVq t q K T 1 0 F 0 I → NRq σ s S lo n u K T F I B → FTq σ s B → Q q s t (vs ++ [q])) : pp_named a σ τ vs Q := by
  unfold pp_named
  refine mr_local ha tu hS (fun lv hl => ⟨fun c => mr_entity ha tu hE (fun ev he => ?_), fun c _ q hq _ => ?_⟩)
  · have hl1 : LFm σ S u (-1) := by
      rcases hl with ⟨j, j1, j2, j3, j4⟩ | ⟨j1, j2⟩
      · have := h35 j
        rw [show (-1 : Int) = lv.toInt from by omega]
        exact Or.inl ⟨j, j1, j2, j3, j4⟩
      · exact Or.inr ⟨j1, rfl⟩
    have he1 : ev.toInt < 0 → EFm σ lo n u (-1) := fun c => by
      rcases he with ⟨e, e1, e2, e3, e4, e5⟩ | ⟨e1, e2⟩
      · omega
      · exact Or.inr ⟨e1, rfl⟩
    have bad : ∀ s, KFr σ s → FTq σ s True → (EFm σ lo n u (-1) ∨ ∃ e : Nat, EFm σ lo n u e ∧ (σ 9 e).toInt ≠ 1) → ∀ q, q ∉ vs → pp_Vinit q ((-2) : Int32) s (upF τ q (fun _ => 0)) (vs ++ [q]) (fun s134 t134 z134 => Q q s134 t134 z134) := fun s k1 f1 hb q hq => by
      unfold pp_Vinit
      obtain ⟨m1, m2⟩ := nv_made (τ := τ) (a := -2) hq
      rw [show ((-2 : Int32)).toInt = -2 from by decide] at m1
      exact fun _ => kk q s _ 0 (-2) 0 0 True hq (kp_sub k1 rfl rfl) m2 m1 (Or.inr (Or.inr ⟨hl1, hb, trivial, rfl, rfl, rfl, funext (fun m => k1 14 m rfl rfl)⟩)) f1
    refine ⟨fun y => (y.toInt = 0 ↔ (ev.toInt < 0 ∨ (σ 9 ev.toNatClampNeg).toInt ≠ 1)), fun y _ hy => mr_must h0 (fun s k1 f1 => ?_), ev.toInt < 0 ∨ (σ 9 ev.toNatClampNeg).toInt ≠ 1, fun hx => ⟨fun _ => hx, fun _ => rfl⟩, fun c2 => Or.inl c2, fun c2 _ => ⟨fun c3 => Or.inr c3, fun c3 => ⟨fun hx => absurd hx (by decide), fun hx => by omega⟩⟩⟩
    have e9 : s 9 = σ 9 := funext (fun m => k1 9 m rfl rfl)
    rw [e9]
    refine ⟨ev.toInt < 0 ∨ (σ 9 ev.toNatClampNeg).toInt ≠ 1, fun hx _ q hq => bad s k1 (ft_iff f1 ⟨fun _ => trivial, fun _ => hy.2 hx⟩) ?_ q hq, fun c2 => Or.inl c2, fun c2 _ => ⟨fun c3 _ _ _ q hq _ => ?_, fun c3 => Or.inr c3⟩⟩
    · by_cases c2 : ev.toInt < 0
      · exact Or.inl (he1 c2)
      · refine Or.inr ⟨ev.toInt.toNat, ?_, ?_⟩
        · rw [show ((ev.toInt.toNat : Nat) : Int) = ev.toInt from by omega]
          exact he
        · rw [← nt']
          exact hx.resolve_left c2
    · obtain ⟨e, hev⟩ : ∃ e : Nat, ev.toInt = e := ⟨ev.toInt.toNat, by omega⟩
      rw [hev] at he
      rw [nat_of hev] at c3 ⊢
      have hE' := hE
      obtain ⟨s1, s2, s3, s4, s5, _⟩ := hE'
      have he2 : lo ≤ e ∧ e < n := by
        rcases he with ⟨e', e1, e2, e3, e4, e5⟩ | ⟨e1, e2⟩ <;> omega
      have e22 : s 22 (s 0 35).toNatClampNeg = σ 22 (σ 0 35).toNatClampNeg := by rw [k1 0 35 rfl rfl]; exact k1 22 _ rfl rfl
      have eix : (ev - (s 22 (s 0 35).toNatClampNeg)).toInt = (e : Int) - lo := by rw [e22, sb (by omega) (by omega), hev, s1]
      have e10 := k1 10 e rfl rfl
      have e11 := k1 11 e rfl rfl
      have fs : FTq σ s False := ft_iff f1 ⟨fun hx => by have := hy.1 hx; rw [nat_of hev] at this; omega, fun hx => hx.elim⟩
      have en : vp_nar .boolean (1 : Int32) = 1 := rfl
      rw [en]
      have ks : KNr σ (upC s 14 e (1 : Int32)) := kp_tr (kp_sub k1 rfl rfl) (kp_a kp_rf rfl)
      have f12 : (upC s 14 e (1 : Int32)) 0 12 = s 0 12 := by rw [rdC_ne (by decide)]
      have w14 : ∀ m, (upC s 14 e (1 : Int32)) 14 m = if m = e then 1 else σ 14 m := fun m => by
        by_cases q : m = e
        · rw [if_pos q, rdA_eq q]
        · rw [if_neg q, rdA_ne q]
          exact k1 14 m rfl rfl
      have w11 : (upC s 14 e (1 : Int32)) 11 e = σ 11 e := by rw [rdC_ne (by decide), e11]
      generalize upC s 14 e (1 : Int32) = s' at ks f12 w14 w11
      refine ⟨fun y => y.toInt = (if (σ 11 e).toInt < 0 then (σ 10 e).toInt else (σ 10 e).toInt + 1), fun y2 hy2 => ?_, fun c4 _ => ?_, fun c4 _ => ?_⟩
      · unfold pp_Vinit
        intro _ _ _
        rw [w11]
        obtain ⟨m1, m2⟩ := nv_made (τ := τ) (a := y2) hq
        rw [hy2] at m1
        refine ⟨fun c4 => mr_put1 (fun s3 k3 _ => ?_), fun c4 => ?_⟩
        · unfold pp_Vaddress
          refine fun _ => kk q s3 _ 0 _ 2 ((e : Int) - lo) False hq (kp_tr ks (kp_sub k3 rfl rfl)) (tf_up (tf_up (tf_up (tf_up (tf_up m2 hq) hq) hq) hq) hq) (mv_addr (mv_tok (i := (e : Int) - lo) (mv_idx m1))) ?_ (ft_k (ft_k fs f12) (k3 0 12 rfl rfl))
          exact Or.inr (Or.inl ⟨hl1, e, he, c3, fun hx => hx, by rw [if_neg (by omega)], rfl, by rw [if_neg (by omega)], rfl, fun m => (k3 14 m rfl rfl).trans (w14 m)⟩)
        · refine kk q s' _ 2 _ 0 ((e : Int) - lo) False hq ks (tf_up (tf_up (tf_up m2 hq) hq) hq) ?_ (Or.inr (Or.inl ⟨hl1, e, he, c3, fun hx => hx, by rw [if_pos c4], rfl, by rw [if_pos c4], rfl, w14⟩)) (ft_k fs f12)
          exact mv_how (c := 2) (i := (e : Int) - lo) (mv_tok (d := a) (mv_idx (d := ev - (s 22 (s 0 35).toNatClampNeg)) m1)) (by rw [rdA_ne (by decide), rdA_eq rfl]; exact eix)
      · show ((s 10 e) + (1 : Int32)).toInt = _
        have := hty.2 e
        rw [e11] at c4
        rw [e10, ad1 (by omega), if_neg (by omega)]
      · show (s 10 e).toInt = _
        rw [e11] at c4
        rw [e10, if_pos c4]
  · obtain ⟨v, hv⟩ : ∃ v : Nat, lv.toInt = v := ⟨lv.toInt.toNat, by omega⟩
    rw [hv] at hl
    rw [nat_of hv]
    refine ⟨fun y => y.toInt = (if (σ 32 v).toInt < 0 then (σ 31 v).toInt else (σ 31 v).toInt + 1), fun y2 hy2 => ?_, fun c4 _ => ?_, fun c4 _ => ?_⟩
    · unfold pp_Vinit
      intro _ _
      obtain ⟨m1, m2⟩ := nv_made (τ := τ) (a := y2) hq
      rw [hy2] at m1
      refine ⟨fun y => y.toInt = (if (σ 32 v).toInt < 0 then 1 else 0), fun y3 _ hy3 _ _ => ?_, fun c4 => by rw [if_neg (by omega)]; rfl, fun c4 => by rw [if_pos c4]; rfl⟩
      have m3 := mv_hi (c := y3) (d := lv) m1
      rw [hy3, hv] at m3
      refine ⟨fun c4 => kk q σ _ _ _ 0 v False hq kp_rf (tf_up (tf_up m2 hq) hq) m3 (Or.inl ⟨v, hl, fun hx => hx, rfl, rfl, rfl, rfl, rfl⟩) (ft_rf h0), fun c4 => mr_put1 (fun s3 k3 => kk q s3 _ _ _ 0 v False hq (kp_sub k3 rfl rfl) (tf_up (tf_up m2 hq) hq) m3 (Or.inl ⟨v, hl, fun hx => hx, rfl, rfl, rfl, rfl, funext (fun m => k3 14 m rfl rfl)⟩) (ft_k (ft_rf h0) (k3 0 12 rfl rfl)))⟩
    · show ((σ 31 v) + (1 : Int32)).toInt = _
      have := hty.1 v
      rw [ad1 (by omega), if_neg (by omega)]
    · show (σ 31 v).toInt = _
      rw [if_pos c4]
end RNM
end

