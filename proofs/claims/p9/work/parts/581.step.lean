/-! the machine: a step -/
def PG (κ : St) (G : Nat → Nat → Gh) (K : Nat) : Prop := PRG κ G K ∧ LNk κ ∧ (κ 0 35).toInt ≤ 100 ∧ (κ 0 17).toInt ≤ 409600 ∧ (κ 0 88).toInt ≤ 4096 ∧ (∀ o : Nat, (o : Int) < (κ 0 35).toInt → 0 ≤ fO κ o ∧ fO κ o ≤ 9900) ∧ AllIn 0 8 (κ 15)
def RES (κ : St) (G : Nat → Nat → Gh) (K : Nat) (m : Nat) (v : Int32) (s : St) : Prop := ∃ m', m' < m ∧ MI κ G K v s m'
section STP
variable {κ σ s τ t : St} {vs z : List Nat} {G : Nat → Nat → Gh} {K : Nat} {d B f o pc h k : Nat}
theorem mn_kp (kk : Kp [(0, 81), (0, 86), (0, 94), (0, 95), (0, 96), (0, 97)] [46, 47, 48] σ s) (hn : MN σ) : MN s := by
  have w1 : (s 0 91) = (σ 0 91) := kk _ _ rfl rfl
  have w2 : (s 0 89) = (σ 0 89) := kk _ _ rfl rfl
  have w3 : (s 0 93) = (σ 0 93) := kk _ _ rfl rfl
  have w4 : (s 0 92) = (σ 0 92) := kk _ _ rfl rfl
  unfold MN
  rw [w1, w2, w3, w4]
  exact hn
theorem mi_go1 {h' : Nat} {v : Int32} (c : CTX κ G K σ d B f o pc h k) (hp : pc < 1048576) (ks : Kp [(0, 81)] [46, 47, 48] σ s) (ht : (s 0 81).toInt = (σ 0 81).toInt + (h' : Int) - h) {q : Nat} (hv : v.toInt = (q : Int)) (nx : Nx (G f o) k pc q h') : RES κ G K (MS σ K d k pc) v s := by
  have hn := mn_kp (s := s) (kp_sub ks rfl rfl) c.2.1
  have ht9 := c.2.2.2.2.2.2
  exact mi_go c hp (kp_sub ks rfl rfl) ⟨hn.1, hn.2.1⟩ (by omega) hv nx
theorem mi_end1 {v : Int32} (c : CTX κ G K σ d B f o pc h k) (hp : pc < 1048576) (ks : Kp [(0, 81), (0, 86), (0, 94), (0, 95), (0, 96), (0, 97)] [46, 47, 48] σ s) (ho : 0 ≤ (s 0 97).toInt) : RES κ G K (MS σ K d k pc) v s :=
  mi_end (ms_pos hp) (kp_tr c.1 (kp_sub ks rfl rfl)) (mn_kp ks c.2.1) ho
theorem sp_isCell {a : Int32} {Q : Int32 → Prop} (h : ∀ r : Int32, (r.toInt ≠ 0 → 0 ≤ a.toInt ∧ a.toInt < 32768) → Q r) : wp_isCell a σ τ vs Q := by
  unfold wp_isCell
  exact ⟨fun _ => h _ (fun c => absurd rfl c), fun c => ⟨fun _ => h _ (fun c => absurd rfl c), fun c2 => h _ (fun _ => ⟨by omega, by omega⟩)⟩⟩
/-- a turn -/
theorem mi_turn {v : Int32} {k' : Nat} (hP : PRG κ G K) (c : CTX κ G K σ d B f o pc h k) (hp : pc < 1048576) (hne : (σ 0 92).toInt ≠ (σ 0 93).toInt) (hv : v.toInt = ((pc + 2 : Nat) : Int)) (hg : G f o (pc + 2) = some (h, k')) : RES κ G K (MS σ K d k pc) v (upC σ 0 92 ((σ 0 92) + (1 : Int32))) := by
  obtain ⟨c1, ⟨n1, n2, n3⟩, c3, c4, c5, c6, c7⟩ := c
  have t1 : ((σ 0 92) + (1 : Int32)).toInt = (σ 0 92).toInt + 1 := ad1 (by omega)
  have kk : KRn κ (upC σ 0 92 ((σ 0 92) + (1 : Int32))) := kp_f c1 rfl
  have mn : MN (upC σ 0 92 ((σ 0 92) + (1 : Int32))) := by
    refine ⟨n1, n2, ?_⟩
    show 0 ≤ ((σ 0 92) + (1 : Int32)).toInt ∧ ((σ 0 92) + (1 : Int32)).toInt ≤ (σ 0 93).toInt ∧ (σ 0 93).toInt ≤ 20000
    omega
  have ev : v.toNatClampNeg = pc + 2 := by rw [nt', hv]; rfl
  obtain ⟨a1, a2, a3⟩ := (chf_fr c4).1
  obtain ⟨-, -, -, -, -, -, hk⟩ := hP f o a1 a2 a3
  refine ⟨MS (upC σ 0 92 ((σ 0 92) + (1 : Int32))) K d k' (pc + 2), ?_, kk, mn, fun _ => ⟨by omega, d, B, f, o, h, k', ⟨kk, mn, c3, chf_eq (σ := σ) (fun j _ => ⟨rfl, rfl, rfl⟩) c4, c5, by rw [ev]; exact hg, c7⟩, by rw [ev]⟩⟩
  unfold MS
  refine ms_lt ?_ (hk _ _ _ hg)
  show ((σ 0 93).toInt - ((σ 0 92) + (1 : Int32)).toInt).toNat * 300 + d < ((σ 0 93).toInt - (σ 0 92).toInt).toNat * 300 + d
  omega
/-- a body is left -/
theorem sp_leave {a : Int32} {Q : Int32 → St → St → List Nat → Prop} (hP : PRG κ G K) (c : CTX κ G K σ d B f o pc h k) (hp : pc < 1048576) {b R nl : Nat} (fi : FIx κ σ d o b R nl) (hB : B ≤ 546 * d) (ha : (a.toInt = 0 → h = 0 ∧ rsF κ f = 0) ∧ (a.toInt ≠ 0 → h = 1 ∧ rsF κ f = 1)) (kQ : ∀ v s, RES κ G K (MS σ K d k pc) v s → Q v s τ vs) : wp_leave a σ τ vs Q := by
  have hd := fi.2.1
  have c9 := c
  obtain ⟨c1, c2, c3, c4, c5, c6, c7⟩ := c9
  have e0 : (0 : Int32).toInt = 0 := by decide
  -- where it goes on
  have back : ∀ (y : Int32) s, Kp [(0, 81)] [47] σ s → (s 0 81).toInt = (B : Int) → 0 < d → ((upC s 0 86 ((s 0 86) - (1 : Int32))) = (upC s 0 86 ((s 0 86) - (1 : Int32)))) ∧ ∀ (S : St), Kp [(0, 81), (0, 86)] [47] σ S → (S 0 86).toInt = (d : Int) → (S 0 81).toInt = ((B + rsF κ f : Nat) : Int) → RES κ G K (MS σ K d k pc) ((S 51) d) S := fun y s ks ht d0 => ⟨rfl, fun S kS hdS htS => by
    cases d with
    | zero => omega
    | succ i =>
      obtain ⟨fr, B0, f0, o0, h0, k0, pc0, x1, x2, x3, x4, x5⟩ := c4
      have x2' : ((S 51) (i + 1)).toInt = (pc0 : Int) := by rw [kS 51 _ rfl rfl]; exact x2
      have ev : ((S 51) (i + 1)).toNatClampNeg = pc0 := by rw [nt', x2']; rfl
      have kk : KRn κ S := kp_tr c1 (kp_sub kS rfl rfl)
      have mn : MN S := mn_kp (kp_sub kS rfl rfl) c2
      have e92 : (S 0 92) = (σ 0 92) := kS _ _ rfl rfl
      have e93 : (S 0 93) = (σ 0 93) := kS _ _ rfl rfl
      obtain ⟨a1, a2, a3⟩ := (chf_fr x1).1
      obtain ⟨-, -, -, -, -, -, hk⟩ := hP f0 o0 a1 a2 a3
      refine ⟨MS S K i k0 pc0, ?_, kk, mn, fun _ => ⟨by omega, i, B0, f0, o0, h0, k0, ⟨kk, mn, by rw [hdS]; omega, chf_eq (fun j _ => ⟨kS 50 j rfl rfl, kS 49 j rfl rfl, kS 51 j rfl rfl⟩) x1, x3, by rw [ev]; exact x4, by rw [htS, x5]⟩, by rw [ev]⟩⟩
      unfold MS
      rw [e92, e93]
      exact ms_lt (by omega) (hk _ _ _ x4)⟩
  unfold wp_leave
  refine ⟨fun y s t z => t = τ ∧ z = vs ∧ Kp [(0, 81)] [] σ s ∧ (s 0 81).toInt = (B : Int), ?_, fun q => ⟨rfl, rfl, kp_rf, by have := (ha.1 q).1; rw [c7]; omega⟩, fun q => ?_⟩
  · rintro y s _ _ ⟨rfl, rfl, ks, ht⟩
    have e86 : (s 0 86) = (σ 0 86) := ks _ _ rfl rfl
    have ed : ((s 0 86) - (1 : Int32)).toInt = d := by rw [e86, sb1 (by omega), c3]; omega
    have en : ((s 0 86) - (1 : Int32)).toNatClampNeg = d := by rw [nt', ed]; rfl
    refine ⟨fun q => ⟨fun q2 => ⟨by omega, ?_⟩, fun q2 => ?_⟩, fun q => kQ _ _ (mi_end1 c hp (kp_f (kp_f (kp_f (kp_sub ks rfl rfl) rfl) rfl) rfl) (by show 0 ≤ (0 : Int32).toInt; decide))⟩
    · rw [en]
      refine kQ _ _ ((back y s (kp_sub ks rfl rfl) ht (by omega)).2 (upC s 0 86 ((s 0 86) - (1 : Int32))) (kp_f (kp_sub ks rfl rfl) rfl) ed ?_)
      rw [(ha.1 q2).2]
      exact ht
    · refine sp_push (σ := upC s 0 86 ((s 0 86) - (1 : Int32))) (by show 0 ≤ (s 0 81).toInt ∧ (s 0 81).toInt < 140000; omega) (fun S kS hS => ?_)
      have kA : Kp [(0, 81), (0, 86)] [47] σ S := kp_tr (kp_f (kp_sub ks rfl rfl) rfl) (kp_sub kS rfl rfl)
      have hdS : (S 0 86).toInt = (d : Int) := by rw [show (S 0 86) = ((s 0 86) - (1 : Int32)) from kS _ _ rfl rfl]; exact ed
      have hS' : (S 0 81).toInt = (s 0 81).toInt + 1 := hS
      have enS : (S 0 86).toNatClampNeg = d := by rw [nt', hdS]; rfl
      rw [enS]
      refine ⟨by omega, kQ _ _ ((back y s (kp_sub ks rfl rfl) ht (by omega)).2 S kA hdS ?_)⟩
      rw [(ha.2 q2).2]
      omega
  · have h1 := (ha.2 q).1
    refine sp_pop (by omega) (fun r s ks hs => ⟨rfl, rfl, ks, by omega⟩)
theorem neg1s {x : Int32} (h0 : -100 ≤ x.toInt) (h1 : x.toInt < 0) : ((-1 : Int32) - x).toInt = -1 - x.toInt := by
  have e : ((-1 : Int32)).toInt = -1 := by decide
  generalize (-1 : Int32) = a at e ⊢
  rw [sb (by omega) (by omega), e]
/-- a call -/
theorem sp_mcall {pw a ln : Int32} {Q : Int32 → St → St → List Nat → Prop} (hG : PG κ G K) (c : CTX κ G K σ d B f o pc h k) (hoc : (σ 0 97).toInt < 0) (hpw : pw.toInt = (pc : Int)) (hp : pc < 1048000) {b R nl : Nat} (fi : FIx κ σ d o b R nl) (hB : B ≤ 546 * d) {h' : Nat} (hC : CAL κ o a.toInt h h') (nx : Nx (G f o) k pc (pc + 3) h') (kQ : ∀ v s, RES κ G K (MS σ K d k pc) v s → Q v s τ vs) : wp_call_1 pw a ln σ τ vs Q := by
  obtain ⟨hP, hL, hO, hW, hI, hFo, hPc⟩ := hG
  have c9 := c
  obtain ⟨c1, c2, c3, c4, c5, c6, c7⟩ := c9
  obtain ⟨i1, i2⟩ := fi_ix fi
  have fi9 := fi
  obtain ⟨f1, f2, f3, f4, f5, f6, f7, f8, f9, f10, f11⟩ := fi9
  obtain ⟨⟨n0, n1⟩, e, e1, e2, ⟨am1, am2⟩, hh1, hh2⟩ := hC
  have e3 : (3 : Int32).toInt = 3 := by decide
  have lo := lko_lt hL (chf_fr c4).1.1
  have fo := hFo o lo
  have pw3 : (pw + (3 : Int32)).toInt = ((pc + 3 : Nat) : Int) := by rw [adc e3 (by omega) (by omega), hpw]; rfl
  have er : ((σ 50) d).toNatClampNeg = b := by rw [nt', f3]; rfl
  have a27 : (σ 27) = (κ 27) := funext (fun j => c1 27 j rfl rfl)
  have a22 : (σ 22) = (κ 22) := funext (fun j => c1 22 j rfl rfl)
  have a43 : (σ 43) = (κ 43) := funext (fun j => c1 43 j rfl rfl)
  have a26 : (σ 26) = (κ 26) := funext (fun j => c1 26 j rfl rfl)
  have eo : ((κ 27) b).toNatClampNeg = o := by rw [nt', f5]; rfl
  have ef : ((κ 22) o).toInt = fO κ o := rfl
  have ix : ((κ 22) o + a).toInt = (e : Int) := by rw [ad (by rw [ef]; omega) (by rw [ef]; omega), ef, e1]
  have en : ((κ 22) o + a).toNatClampNeg = e := by rw [nt', ix]; rfl
  unfold wp_call_1
  rw [i2, er, a27, eo, a22, en, a43]
  refine ⟨by omega, by omega, by omega, by omega, fun q => ?_, fun q => ?_⟩
  · obtain ⟨o', f', x1, x2, x3, x4, x5, x6⟩ := am1 q
    obtain ⟨b', y1, y2, y3, y4, ⟨E0, R', nl', d1, d2, d3, d4, d5, d6, d7, d8, ⟨k0, d9⟩, d10, d11⟩, y6⟩ := hP f' o' x1 x2 x3
    have eb : ((κ 17) f').toNatClampNeg = b' := by rw [nt', y1]; rfl
    rw [x4]
    refine sp_enter (D := d + 1) hP hL hO hW x1 x2 x3 c1 c2 (by rw [c3]; rfl) (Or.inr ⟨f, o, chf_fr c4⟩) (by rw [x5, c7]; omega) (fun s h0 ks ms => ⟨fun _ => kQ _ _ (mi_end (ms_pos (by omega)) ks ms h0), fun q9 => by omega⟩) (fun S en kS mS oS => ⟨fun q9 => by rw [oS] at q9; omega, fun _ => ?_⟩)
    have a26S : (S 26) = (κ 26) := funext (fun j => kS 26 j rfl rfl)
    rw [eb, a26S]
    refine ⟨by omega, kQ _ _ ?_⟩
    obtain ⟨z1, z2, z3, z4, ⟨z5, z6, z7⟩, z8, z9⟩ := en
    obtain ⟨nx1, k', nx2, nx3⟩ := nx
    have eE : ((κ 26) b').toNatClampNeg = E0 := by rw [nt', d1]; rfl
    have e93 : (S 0 93) = (σ 0 93) := z1 _ _ rfl rfl
    have mt := c2.2.2
    have mtS := mS.2.2
    rw [e93] at mtS
    have pc8 := hPc e
    have rsq : rsF κ f' = (if ((κ 10) e).toInt = -1 then 0 else 1) := by unfold rsF; rw [x6]
    have rsi : ((rsF κ f' : Nat) : Int) = (if ((κ 10) e).toInt = -1 then 0 else 1) := by
      rw [rsq]; split <;> rfl
    rw [← rsi] at hh2
    rw [x5] at z4
    refine ⟨MS S K (d + 1) k0 E0, ?_, kS, mS, fun _ => ⟨by omega, d + 1, B + h - ((κ 15) e).toNatClampNeg, f', o', 0, k0, ⟨kS, mS, by rw [z2], ⟨⟨⟨x1, x2, x3⟩, z5, z6, z7⟩, B, f, o, h', k', pc + 3, chf_eq (fun j hj => z9 j (by omega)) c4, by rw [z8]; exact pw3, nx1, nx2, ?_⟩, by omega, by rw [eE]; exact d9, ?_⟩, by rw [eE]⟩⟩
    · unfold MS
      rw [e93]
      refine ms_lt ?_ (y6 _ _ _ d9)
      omega
    · have := nt pc8.1
      omega
    · have := nt pc8.1
      omega
  · obtain ⟨g1, g2, g3⟩ := am2 q
    have el := neg1s (x := (κ 43) e) (by omega) q
    generalize ((-1 : Int32) - (κ 43) e) = l at el ⊢
    refine sp_library1 fi ⟨c2.1, c2.2.1⟩ (by rw [show (σ 0 88) = (κ 0 88) from c1 _ _ rfl rfl]; exact hI) ⟨fun _ => by omega, fun q2 => ?_⟩ (fun s hs => kQ _ _ ?_)
    · have := (g3 (by omega)).1
      omega
    · obtain ⟨s1, s2, s3⟩ := hs
      have ht : (s 0 81).toInt = ((B + h' : Nat) : Int) := by
        have s3 : (s 0 81).toInt = (σ 0 81).toInt + (if l.toInt = 0 then 1 else -1) := s3
        rw [el] at s3
        by_cases q2 : ((κ 43) e).toInt = -1
        · obtain ⟨u1, u2⟩ := g2 q2
          rw [if_pos (by omega)] at s3
          rw [if_neg (by omega)] at hh2
          omega
        · obtain ⟨u1, u2⟩ := g3 q2
          rw [if_neg (by omega)] at s3
          rw [if_pos u2] at hh2
          omega
      exact mi_go c (by omega) (kp_sub s1 rfl rfl) s2 ht pw3 nx
end STP
