/-! the class's grammar: signs with two sides wait in a row; the levels' recursion gives the same steps -/
section GBN
variable {kd : Nat → Int} {n B d : Nat} {Ka : Int32 → KXq} {Kb Kc Kd Ke Kf Kg Kh : KXq} {σ s : St} {x v : Int32}
def OPq (kd : Nat → Int) (n B : Nat) (s : St) : List (Nat × Nat) → Prop
  | [] => True
  | a :: O => (s 22 (B + O.length)).toInt = (a.2 : Int) ∧ lvq (kd a.2) = (a.1 : Int) ∧ (O.length : Int) + 1 ≤ a.1 ∧ a.2 ≤ n ∧ OPq kd n B s O
/-- what is still to come, with these signs waiting -/
def FBq (kd : Nat → Int) (d : Nat) : List (Nat × Nat) → Nat → List Stq → Option (Nat × List Stq) → Prop
  | [], p, L, R => PVq kd 8 d 1 p L R
  | a :: O, p, L, R => (PVq kd 8 d (a.1 + 1) p L none ∧ R = none) ∨ ∃ p' L', PVq kd 8 d (a.1 + 1) p L (some (p', L')) ∧ FBq kd d O p' (L' ++ [stp 8 a.2]) R
theorem opq_k {t : St} : ∀ O : List (Nat × Nat), (∀ j, j < B + O.length → t 22 j = s 22 j) → OPq kd n B s O → OPq kd n B t O
  | [] => fun _ _ => trivial
  | a :: O => fun e h => by
    obtain ⟨h1, h2, h3, h4, h5⟩ := h
    exact ⟨by rw [e _ (by show B + O.length < B + (O.length + 1); omega)]; exact h1, h2, h3, h4, opq_k O (fun j hj => e j (by show j < B + (O.length + 1); omega)) h5⟩
/-- one sign more waits -/
theorem fb_push {O : List (Nat × Nat)} {p1 p2 l : Nat} {L1 L2 : List Stq} {R : Option (Nat × List Stq)} (hl : lvq (kd p1) = (l : Int)) (hl1 : 1 ≤ l) (ho : O = [] ∨ ∃ a O', O = a :: O' ∧ a.1 < l) (hu : PVq kd 2 d 0 (p1 + 1) (L1 ++ [stp 7 p1]) (some (p2, L2))) (h : FBq kd d ((l, p1) :: O) p2 L2 R) : FBq kd d O p1 L1 R := by
  have et : (lvq (kd p1)).toNat = l := by omega
  rcases h with ⟨h1, h2⟩ | ⟨p', L', h1, h2⟩
  · have h7 : PVq kd 7 d ((lvq (kd p1)).toNat + 1) (p1 + 1) (L1 ++ [stp 7 p1]) none := by rw [et]; exact pv_l1 hu h1
    subst h2
    rcases ho with ho | ⟨a, O', ho, ha⟩
    · subst ho
      exact pv_l3 (by omega) h7
    · subst ho
      exact Or.inl ⟨pv_l3 (by omega) h7, rfl⟩
  · have h7 : PVq kd 7 d ((lvq (kd p1)).toNat + 1) (p1 + 1) (L1 ++ [stp 7 p1]) (some (p', L')) := by rw [et]; exact pv_l1 hu h1
    rcases ho with ho | ⟨a, O', ho, ha⟩
    · subst ho
      exact pv_l4 (by omega) h7 h2
    · subst ho
      rcases h2 with ⟨q1, q2⟩ | ⟨p'', L'', q1, q2⟩
      · exact Or.inl ⟨pv_l4 (by omega) h7 q1, q2⟩
      · exact Or.inr ⟨p'', L'', pv_l4 (by omega) h7 q1, q2⟩
theorem fb_bad {O : List (Nat × Nat)} {p1 l : Nat} {L1 : List Stq} (hl : lvq (kd p1) = (l : Int)) (hl1 : 1 ≤ l) (ho : O = [] ∨ ∃ a O', O = a :: O' ∧ a.1 < l) (hu : PVq kd 2 d 0 (p1 + 1) (L1 ++ [stp 7 p1]) none) : FBq kd d O p1 L1 none := by
  rcases ho with ho | ⟨a, O', ho, ha⟩
  · subst ho
    exact pv_l3 (by omega) (pv_l0 hu)
  · subst ho
    exact Or.inl ⟨pv_l3 (by omega) (pv_l0 hu), rfl⟩
theorem pg_settle {Q : St → Prop} {a : Int32} {p1 : Nat} {L1 : List Stq} {O : List (Nat × Nat)} (tk : TKd σ kd n) (g : GSt kd n σ p1 L1) (ha : a.toInt = (B : Int)) (hB : B + O.length ≤ 400) (hL : (L1.length : Int) + O.length ≤ 32080) (ho : OPq kd n B σ O) (hp : (σ 3 9).toInt = (B : Int) + O.length) (hv : lvq (kd p1) ≤ v.toInt)
    (k : ∀ s O2 L2, Kp [(3, 4), (3, 9)] [18, 19, 20, 21] σ s → GSt kd n s p1 L2 → OPq kd n B s O2 → (s 3 9).toInt = (B : Int) + O2.length → (L2.length : Int) + O2.length = L1.length + O.length → O2.length ≤ O.length → (∀ R, FBq kd d O2 p1 L2 R → FBq kd d O p1 L1 R) → (O2 = [] ∨ ∃ b O', O2 = b :: O' ∧ (b.1 : Int) < v.toInt) → Q s) : pk_X3_settle a v σ Q := by
  have h16 := tk.2.1
  unfold pk_X3_settle
  refine ⟨fun s => Kp [(3, 4), (3, 9)] [18, 19, 20, 21] σ s ∧ ∃ O2 L2, GSt kd n s p1 L2 ∧ OPq kd n B s O2 ∧ (s 3 9).toInt = (B : Int) + O2.length ∧ (L2.length : Int) + O2.length = L1.length + O.length ∧ O2.length ≤ O.length ∧ (∀ R, FBq kd d O2 p1 L2 R → FBq kd d O p1 L1 R), ⟨kp_rf, O, L1, g, ho, hp, rfl, Nat.le_refl _, fun R h => h⟩, ?_⟩
  rintro s ⟨ks, O2, L2, g2, o2, p2, b2, l2, f2⟩
  match O2, o2, p2, b2, l2, f2 with
  | [], o2, p2, b2, l2, f2 => exact ⟨fun _ => k s [] L2 ks g2 o2 p2 b2 l2 f2 (Or.inl rfl), fun c => by have : ((([] : List (Nat × Nat)).length : Nat) : Int) = 0 := rfl; omega⟩
  | b :: O3, o2, p2, b2, l2, f2 =>
    have el : (b :: O3).length = O3.length + 1 := rfl
    rw [el] at p2 b2 l2
    obtain ⟨h1, h2, h3, h4, h5⟩ := o2
    have e1 : ((s 3 9) - (1 : Int32)).toInt = ((B + O3.length : Nat) : Int) := by rw [sb1 (by omega)]; omega
    have e2 : atv 400 (s 22) ((s 3 9) - (1 : Int32)) = s 22 (B + O3.length) := atv_at e1 (by omega)
    have tks := tkd_k (kp_sub ks rfl rfl) tk
    have e3 : atv 16002 (s 13) (s 22 (B + O3.length)) = s 13 b.2 := atv_at h1 (by omega)
    have e4 : (s 13 b.2).toInt = kd b.2 := tks.2.2.1 b.2 h4
    refine ⟨fun c => by omega, fun c => ?_⟩
    rw [e2, e3]
    refine pg_levelOf (by have := kd_r tk b.2; omega) (fun w hw => ⟨fun c2 => ?_, fun c2 => k s (b :: O3) L2 ks g2 ⟨h1, h2, h3, h4, h5⟩ (by rw [p2, el]) (by rw [el]; exact b2) (by rw [el]; exact l2) f2 (Or.inr ⟨b, O3, rfl, by rw [e4] at hw; omega⟩)⟩)
    rw [e4, h2] at hw
    refine pg_add (a := stp 8 b.2) g2 (by omega) (by rw [h1]; rfl) (fun v3 s3 k3 g3 _ => ?_)
    have k4 : Kp [(3, 9)] [] s3 (upC s3 3 9 ((s3 3 9) - (1 : Int32))) := kp_f kp_rf rfl
    have e9 : s3 3 9 = s 3 9 := k3 3 9 rfl rfl
    have e22 : ∀ j, upC s3 3 9 ((s3 3 9) - (1 : Int32)) 22 j = s 22 j := fun j => (k4 22 j rfl rfl).trans (k3 22 j rfl rfl)
    have e99 : (upC s3 3 9 ((s3 3 9) - (1 : Int32)) 3 9).toInt = (B : Int) + O3.length := by
      rw [rdA_eq rfl, e9, e1]
      omega
    generalize upC s3 3 9 ((s3 3 9) - (1 : Int32)) = s4 at k4 e22 e99
    refine ⟨kp_tr ks (kp_tr (kp_sub k3 rfl rfl) (kp_sub k4 rfl rfl)), O3, _, gst_k g3 (kp_sub k4 rfl rfl), opq_k O3 (fun j _ => e22 j) h5, e99, by rw [ln1]; omega, by omega, fun R hR => f2 R (Or.inr ⟨p1, L2, pv_l2 (by omega), hR⟩)⟩
theorem jk_levelOf {Q : Int32 → Prop} (k : ∀ v, Q v) : pk_X3_levelOf x σ Q := by
  unfold pk_X3_levelOf
  exact ⟨fun c => k _, fun c => ⟨fun c2 => k _, fun c2 _ => k _⟩⟩
theorem jk_settle {Q : St → Prop} {a : Int32} (g : GBd σ) (k : ∀ s, KGq σ s → GBd s → Q s) : pk_X3_settle a v σ Q := by
  unfold pk_X3_settle
  refine ⟨fun s => KGq σ s ∧ GBd s, ⟨kp_rf, g⟩, ?_⟩
  rintro s ⟨ks, gs⟩
  refine ⟨fun _ => k s ks gs, fun _ => jk_levelOf (fun w => ⟨fun _ => jk_add gs (fun _ s2 k2 g2 => ?_), fun _ => k s ks gs⟩)⟩
  have k4 : Kp [(3, 9)] [] s2 (upC s2 3 9 ((s2 3 9) - (1 : Int32))) := kp_f kp_rf rfl
  exact ⟨kp_tr ks (kp_tr (kg4 k2) (kp_sub k4 rfl rfl)), gbd_k g2 (kp_sub k4 rfl rfl)⟩
theorem jg_binary (ju : SJg Ke) : SJg (pk_X3_binary Ka Kb Kc Kd Ke Kf Kg Kh) := fun x σ Q g k => by
  unfold pk_X3_binary
  refine ju x σ _ g (fun s0 k0 g0 => ⟨fun _ s => KGq σ s ∧ GBd s, ⟨k0, g0⟩, ?_⟩)
  rintro w s ⟨ks, gs⟩
  have e := gs.2
  have hl : ∀ v : Int32, v.toInt = lvq (s 3 2).toInt → v.toInt = 0 := fun v h => by
    rw [h, e]
    decide
  refine ⟨True, fun _ => jk_settle gs (fun s2 k2 g2 => k s2 (kp_tr ks k2) g2), fun _ => trivial, fun _ => pg_levelOf (by omega) (fun v hv => ⟨fun _ => trivial, fun c => by have := hl v hv; omega⟩)⟩
theorem pg_binary (hu : SPg kd n Ke (fun _ => True) 0 (fun d p L R => PVq kd 2 d 0 p L R)) : SPg kd n (pk_X3_binary Ka Kb Kc Kd Ke Kf Kg Kh) (fun _ => True) 10 (fun d p L R => PVq kd 7 d 1 p L R) := fun x d p L σ Q hx hd tk g hb hp _ k1 k0 => by
  have h16 := tk.2.1
  obtain ⟨B, hB⟩ : ∃ B : Nat, (σ 3 9).toInt = B := ⟨(σ 3 9).toInt.toNat, by omega⟩
  unfold pk_X3_binary
  have main : ∀ s0, KGq σ s0 → ((GBd s0 ∧ PVq kd 7 d 1 p L none) ∨ (PSq σ s0 ∧ ∃ p' L', GSt kd n s0 p' L' ∧ (L'.length : Int) + 2 * p + 1 ≤ L.length + 2 * p' ∧ p < p' ∧ ∀ R, PVq kd 8 d 1 p' L' R → PVq kd 7 d 1 p L R)) → ∃ L18 : Int32 → St → Prop, (L18 (s0 2 4) s0) ∧ ∀ (x3_18 : Int32) (s18 : St), L18 x3_18 s18 → (∃ J97 : Prop, (J97 → (pk_X3_settle (σ 3 9) (0 : Int32) s18 (fun s100 => Q s100))) ∧ ((x3_18.toInt ≤ 0 → (J97)) ∧ (0 < x3_18.toInt → (pk_X3_levelOf (s18 3 2) s18 (fun v26 => (v26.toInt ≤ 0 → (J97)) ∧ (0 < v26.toInt → (pk_X3_levelOf (s18 3 2) s18 (fun v38 => pk_X3_settle (σ 3 9) v38 s18 (fun s41 => pk_X3_add (7 : Int32) (s41 3 1) (0 : Int32) (0 : Int32) (upC (upF s41 22 (setv 400 (s41 22) (s41 3 9) (s41 3 1))) 3 9 ((s41 3 9) + (1 : Int32))) (fun v78 s78 => pk_X3_advance s78 (fun s83 => Ke x s83 (fun s88 => L18 (x3_18 + (-1)) s88)))))))))))) := by
    intro s0 ks0 h0
    have hc0 := (tkd_k ks0 tk).1
    refine ⟨fun w s => KGq σ s ∧ ((GBd s ∧ PVq kd 7 d 1 p L none) ∨ ((∀ j : Nat, j < B → s 22 j = σ 22 j) ∧ ∃ O p' L', GSt kd n s p' L' ∧ OPq kd n B s O ∧ (s 3 9).toInt = (B : Int) + O.length ∧ O.length ≤ 10 ∧ (L'.length : Int) + O.length + 2 * p + 1 ≤ L.length + 2 * p' ∧ p < p' ∧ (w.toInt + p' : Int) ≥ n + p + 2 ∧ ∀ R, FBq kd d O p' L' R → PVq kd 7 d 1 p L R)), ⟨ks0, ?_⟩, ?_⟩
    · rcases h0 with h0 | ⟨ps, p', L', gs, b, l, v⟩
      · exact Or.inl h0
      · exact Or.inr ⟨fun j hj => ps.2 j (by omega), [], p', L', gs, trivial, by rw [ps.1, hB]; rfl, by decide, by show (L'.length : Int) + ((0 : Nat) : Int) + 2 * p + 1 ≤ _; omega, l, by omega, v⟩
    rintro w s ⟨ks, h⟩
    have tks := tkd_k ks tk
    rcases h with ⟨gb, v⟩ | ⟨hops, O, p', L', gs, o, pe, ol, b, l, cw, f⟩
    · have e := gb.2
      have hl : ∀ v : Int32, v.toInt = lvq (s 3 2).toInt → v.toInt = 0 := fun v h => by
        rw [h, e]
        decide
      exact ⟨True, fun _ => jk_settle gb (fun s2 k2 g2 => k0 s2 (kp_tr ks k2) g2 v), fun _ => trivial, fun _ => pg_levelOf (by omega) (fun v2 hv => ⟨fun _ => trivial, fun c => by have := hl v2 hv; omega⟩)⟩
    have e := gs.2.2.2.1
    have hp' := gs.2.2.1
    have hkr := kd_r tk p'
    have lr := lvq_r (kd p')
    refine ⟨lvq (kd p') ≤ 0, fun hj => ?_, fun c => by omega, fun c => pg_levelOf (by omega) (fun v2 hv2 => ⟨fun c2 => by rw [e] at hv2; omega, fun c2 => pg_levelOf (by omega) (fun v3 hv3 => ?_)⟩)⟩
    · refine pg_settle (d := d) (O := O) tks gs hB (by omega) (by omega) o pe (by rw [i0]; exact hj) (fun s2 O2 L2 k2 g2 o2 p2 b2 l2 f2 e2 => ?_)
      have : O2 = [] := by
        rcases e2 with q | ⟨b, O', q, q2⟩
        · exact q
        · rw [i0] at q2
          omega
      subst this
      have b3 : (L2.length : Int) + ((0 : Nat) : Int) = L'.length + O.length := b2
      refine k1 s2 p' L2 (kp_tr ks (kp_sub k2 rfl rfl)) ⟨ieq ?_, fun j hj => ?_⟩ g2 (f _ (f2 _ (pv_l2 (by omega)))) (by omega) l
      · rw [p2, hB]
        show (B : Int) + ((0 : Nat) : Int) = B
        omega
      · exact (k2 22 j rfl rfl).trans (hops j (by omega))
    · rw [e] at hv3 hv2
      refine pg_settle (d := d) (O := O) tks gs hB (by omega) (by omega) o pe (by omega) (fun s2 O2 L2 k2 g2 o2 p2 b2 l2 f2 e2 => ?_)
      obtain ⟨lv, hlv⟩ : ∃ lv : Nat, lvq (kd p') = lv := ⟨(lvq (kd p')).toNat, by omega⟩
      have ho2 : O2 = [] ∨ ∃ a O', O2 = a :: O' ∧ a.1 < lv := by
        rcases e2 with q | ⟨b, O', q, q2⟩
        · exact Or.inl q
        · exact Or.inr ⟨b, O', q, by omega⟩
      have hol : (O2.length : Int) + 1 ≤ lv := by
        rcases ho2 with q | ⟨a, O', q, q2⟩
        · rw [q]
          show ((0 : Nat) : Int) + 1 ≤ _
          omega
        · rw [q] at o2 ⊢
          have := o2.2.2.1
          show ((O'.length + 1 : Nat) : Int) + 1 ≤ _
          omega
      have e91 := g2.2.1
      have hsv : setv 400 (s2 22) (s2 3 9) (s2 3 1) = fun j => if j = B + O2.length then s2 3 1 else s2 22 j := setv_at (by rw [p2]; omega) (by omega)
      rw [hsv]
      have kz : Kp [(3, 9)] [22] s2 (upC (upF s2 22 (fun j => if j = B + O2.length then s2 3 1 else s2 22 j)) 3 9 ((s2 3 9) + (1 : Int32))) := kp_f (kp_F kp_rf rfl) rfl
      have z22 : ∀ j, upC (upF s2 22 (fun j => if j = B + O2.length then s2 3 1 else s2 22 j)) 3 9 ((s2 3 9) + (1 : Int32)) 22 j = if j = B + O2.length then s2 3 1 else s2 22 j := fun j => by rw [rdC_ne (by decide), rdF_eq]
      have z39 : (upC (upF s2 22 (fun j => if j = B + O2.length then s2 3 1 else s2 22 j)) 3 9 ((s2 3 9) + (1 : Int32)) 3 9).toInt = (B : Int) + O2.length + 1 := by
        rw [rdA_eq rfl, ad0 i1 (by omega) (by omega), p2]
      generalize upC (upF s2 22 (fun j => if j = B + O2.length then s2 3 1 else s2 22 j)) 3 9 ((s2 3 9) + (1 : Int32)) = s3 at kz z22 z39
      have g3 : GSt kd n s3 p' L2 := gst_k g2 (kp_sub kz rfl rfl)
      have q3 : KGq σ s3 := kp_tr ks (kp_tr (kp_sub k2 rfl rfl) (kp_sub kz rfl rfl))
      refine pg_add (a := stp 7 p') g3 (by omega) (by rw [e91]; rfl) (fun v4 s4 k4 g4 _ => pg_adv (tkd_k (kp_tr q3 (kg4 k4)) tk) g4 (by omega) (fun s5 k5 g5 => ?_))
      have q5 := kp_tr q3 (kp_tr (kg4 k4) (kg2 k5))
      have r5 : PSq s3 s5 := psq_tr (ps4 k4) (ps2 k5)
      have o5 : OPq kd n B s5 ((lv, p') :: O2) := by
        refine ⟨?_, hlv, hol, hp', opq_k (s := s2) O2 (fun j hj => ?_) o2⟩
        · rw [r5.2 _ (by show ((B + O2.length : Nat) : Int) < _; omega), z22, if_pos rfl]
          exact e91
        · rw [r5.2 _ (by omega), z22, if_neg (by omega)]
      refine hu x d (p' + 1) _ s5 _ hx hd (tkd_k q5 tk) g5 (by rw [ln1]; omega) (by rw [r5.1]; omega) trivial (fun s6 p6 L6 k6 r6 g6 v6 b6 l6 => ?_) (fun s6 k6 gb6 v6 => ⟨kp_tr q5 k6, Or.inl ⟨gb6, f _ (f2 _ (fb_bad hlv (by omega) ho2 v6))⟩⟩)
      rw [ln1] at b6
      have el : (((lv, p') :: O2).length : Int) = O2.length + 1 := rfl
      refine ⟨kp_tr q5 k6, Or.inr ⟨fun j hj => ?_, (lv, p') :: O2, p6, L6, g6, ?_, ?_, ?_, ?_, by omega, ?_, fun R hR => f _ (f2 _ (fb_push hlv (by omega) ho2 v6 hR))⟩⟩
      · rw [r6.2 j (by rw [r5.1]; omega), r5.2 j (by omega), z22, if_neg (by omega)]
        exact (k2 22 j rfl rfl).trans (hops j hj)
      · exact opq_k _ (fun j hj => r6.2 j (by rw [r5.1]; have : j < B + (O2.length + 1) := hj; omega)) o5
      · rw [r6.1, r5.1, z39, el]
        omega
      · show O2.length + 1 ≤ 10
        omega
      · rw [el]
        omega
      · exact dn_ge c (by omega)
  refine hu x d p L σ _ hx hd tk g hb (by omega) trivial (fun s p1 L1 ks ps g1 v1 b1 l1 => main s ks (Or.inr ⟨ps, p1, L1, g1, b1, l1, fun R hR => pv_l1 v1 hR⟩)) (fun s ks gb v0 => main s ks (Or.inl ⟨gb, pv_l0 v0⟩))
end GBN
/-! the group -/
theorem pg_KVA {kd : Nat → Int} {n : Nat} : ∀ m, SPCg kd n ((PKVA m).1) ∧ (SPg kd n ((PKVA m).2.1) (fun _ => True) 0 (fun d p L R => PVq kd 4 d 0 p L R) ∧ SJg ((PKVA m).2.1)) ∧ (SPg kd n ((PKVA m).2.2.1) (fun p => ¬ UNq (kd p) ∧ ¬ (kd p = 20 ∧ kd (p + 1) = 5)) 0 (fun d p L R => PVq kd 2 d 0 p L R) ∧ SJg ((PKVA m).2.2.1)) ∧ SPg kd n ((PKVA m).2.2.2.1) (fun p => kd p = 20 ∧ kd (p + 1) = 5) 0 (fun d p L R => PVq kd 2 d 0 p L R) ∧ (SPg kd n ((PKVA m).2.2.2.2.1) (fun _ => True) 0 (fun d p L R => PVq kd 2 d 0 p L R) ∧ SJg ((PKVA m).2.2.2.2.1)) ∧ (SPg kd n ((PKVA m).2.2.2.2.2.1) (fun _ => True) 10 (fun d p L R => PVq kd 7 d 1 p L R) ∧ SJg ((PKVA m).2.2.2.2.2.1)) ∧ (SPg kd n ((PKVA m).2.2.2.2.2.2.1) (fun _ => True) 10 (fun d p L R => PVq kd 1 d 0 p L R) ∧ SJg ((PKVA m).2.2.2.2.2.2.1)) ∧ (SPg kd n ((PKVA m).2.2.2.2.2.2.2) (fun _ => True) 10 (fun d p L R => PVq kd 0 d 0 p L R) ∧ SJg ((PKVA m).2.2.2.2.2.2.2))
  | 0 => ⟨fun _ _ _ _ _ _ _ _ _ _ _ _ _ _ _ _ _ _ => trivial, ⟨fun _ _ _ _ _ _ _ _ _ _ _ _ _ _ _ => trivial, fun _ _ _ _ _ => trivial⟩, ⟨fun _ _ _ _ _ _ _ _ _ _ _ _ _ _ _ => trivial, fun _ _ _ _ _ => trivial⟩, fun _ _ _ _ _ _ _ _ _ _ _ _ _ _ _ => trivial, ⟨fun _ _ _ _ _ _ _ _ _ _ _ _ _ _ _ => trivial, fun _ _ _ _ _ => trivial⟩, ⟨fun _ _ _ _ _ _ _ _ _ _ _ _ _ _ _ => trivial, fun _ _ _ _ _ => trivial⟩, ⟨fun _ _ _ _ _ _ _ _ _ _ _ _ _ _ _ => trivial, fun _ _ _ _ _ => trivial⟩, ⟨fun _ _ _ _ _ _ _ _ _ _ _ _ _ _ _ => trivial, fun _ _ _ _ _ => trivial⟩⟩
  | m + 1 => by
    obtain ⟨ha, ⟨hb, jb⟩, ⟨hc, jc⟩, hd, ⟨he, je⟩, ⟨hf, jf⟩, ⟨hg, jg⟩, hh, jh⟩ := pg_KVA (kd := kd) (n := n) m
    exact ⟨pg_call (Ka := (PKVA m).1) (Kb := (PKVA m).2.1) (Kc := (PKVA m).2.2.1) (Kd := (PKVA m).2.2.2.1) (Ke := (PKVA m).2.2.2.2.1) (Kf := (PKVA m).2.2.2.2.2.1) (Kg := (PKVA m).2.2.2.2.2.2.1) (Kh := (PKVA m).2.2.2.2.2.2.2) hh, ⟨pg_primary (Ka := (PKVA m).1) (Kb := (PKVA m).2.1) (Kc := (PKVA m).2.2.1) (Kd := (PKVA m).2.2.2.1) (Ke := (PKVA m).2.2.2.2.1) (Kf := (PKVA m).2.2.2.2.2.1) (Kg := (PKVA m).2.2.2.2.2.2.1) (Kh := (PKVA m).2.2.2.2.2.2.2) ha hh, jg_primary (Ka := (PKVA m).1) (Kb := (PKVA m).2.1) (Kc := (PKVA m).2.2.1) (Kd := (PKVA m).2.2.2.1) (Ke := (PKVA m).2.2.2.2.1) (Kf := (PKVA m).2.2.2.2.2.1) (Kg := (PKVA m).2.2.2.2.2.2.1) (Kh := (PKVA m).2.2.2.2.2.2.2)⟩, ⟨pg_behind (Ka := (PKVA m).1) (Kb := (PKVA m).2.1) (Kc := (PKVA m).2.2.1) (Kd := (PKVA m).2.2.2.1) (Ke := (PKVA m).2.2.2.2.1) (Kf := (PKVA m).2.2.2.2.2.1) (Kg := (PKVA m).2.2.2.2.2.2.1) (Kh := (PKVA m).2.2.2.2.2.2.2) hb hh jh, jg_behind (Ka := (PKVA m).1) (Kb := (PKVA m).2.1) (Kc := (PKVA m).2.2.1) (Kd := (PKVA m).2.2.2.1) (Ke := (PKVA m).2.2.2.2.1) (Kf := (PKVA m).2.2.2.2.2.1) (Kg := (PKVA m).2.2.2.2.2.2.1) (Kh := (PKVA m).2.2.2.2.2.2.2) jb⟩, pg_cast (Ka := (PKVA m).1) (Kb := (PKVA m).2.1) (Kc := (PKVA m).2.2.1) (Kd := (PKVA m).2.2.2.1) (Ke := (PKVA m).2.2.2.2.1) (Kf := (PKVA m).2.2.2.2.2.1) (Kg := (PKVA m).2.2.2.2.2.2.1) (Kh := (PKVA m).2.2.2.2.2.2.2) he je, ⟨pg_unary (Ka := (PKVA m).1) (Kb := (PKVA m).2.1) (Kc := (PKVA m).2.2.1) (Kd := (PKVA m).2.2.2.1) (Ke := (PKVA m).2.2.2.2.1) (Kf := (PKVA m).2.2.2.2.2.1) (Kg := (PKVA m).2.2.2.2.2.2.1) (Kh := (PKVA m).2.2.2.2.2.2.2) hc hd he, jg_unary (Ka := (PKVA m).1) (Kb := (PKVA m).2.1) (Kc := (PKVA m).2.2.1) (Kd := (PKVA m).2.2.2.1) (Ke := (PKVA m).2.2.2.2.1) (Kf := (PKVA m).2.2.2.2.2.1) (Kg := (PKVA m).2.2.2.2.2.2.1) (Kh := (PKVA m).2.2.2.2.2.2.2) jc⟩, ⟨pg_binary (Ka := (PKVA m).1) (Kb := (PKVA m).2.1) (Kc := (PKVA m).2.2.1) (Kd := (PKVA m).2.2.2.1) (Ke := (PKVA m).2.2.2.2.1) (Kf := (PKVA m).2.2.2.2.2.1) (Kg := (PKVA m).2.2.2.2.2.2.1) (Kh := (PKVA m).2.2.2.2.2.2.2) he, jg_binary (Ka := (PKVA m).1) (Kb := (PKVA m).2.1) (Kc := (PKVA m).2.2.1) (Kd := (PKVA m).2.2.2.1) (Ke := (PKVA m).2.2.2.2.1) (Kf := (PKVA m).2.2.2.2.2.1) (Kg := (PKVA m).2.2.2.2.2.2.1) (Kh := (PKVA m).2.2.2.2.2.2.2) je⟩, ⟨pg_choice (Ka := (PKVA m).1) (Kb := (PKVA m).2.1) (Kc := (PKVA m).2.2.1) (Kd := (PKVA m).2.2.2.1) (Ke := (PKVA m).2.2.2.2.1) (Kf := (PKVA m).2.2.2.2.2.1) (Kg := (PKVA m).2.2.2.2.2.2.1) (Kh := (PKVA m).2.2.2.2.2.2.2) hf hh hg jg, jg_choice (Ka := (PKVA m).1) (Kb := (PKVA m).2.1) (Kc := (PKVA m).2.2.1) (Kd := (PKVA m).2.2.2.1) (Ke := (PKVA m).2.2.2.2.1) (Kf := (PKVA m).2.2.2.2.2.1) (Kg := (PKVA m).2.2.2.2.2.2.1) (Kh := (PKVA m).2.2.2.2.2.2.2) jf⟩, pg_expr (Ka := (PKVA m).1) (Kb := (PKVA m).2.1) (Kc := (PKVA m).2.2.1) (Kd := (PKVA m).2.2.2.1) (Ke := (PKVA m).2.2.2.2.1) (Kf := (PKVA m).2.2.2.2.2.1) (Kg := (PKVA m).2.2.2.2.2.2.1) (Kh := (PKVA m).2.2.2.2.2.2.2) hg hh jh, jg_expr (Ka := (PKVA m).1) (Kb := (PKVA m).2.1) (Kc := (PKVA m).2.2.1) (Kd := (PKVA m).2.2.2.1) (Ke := (PKVA m).2.2.2.2.1) (Kf := (PKVA m).2.2.2.2.2.1) (Kg := (PKVA m).2.2.2.2.2.2.1) (Kh := (PKVA m).2.2.2.2.2.2.2) jg⟩
theorem pgG_expr {kd : Nat → Int} {n : Nat} : SPg kd n pkG_expression (fun _ => True) 10 (fun d p L R => PVq kd 0 d 0 p L R) := (pg_KVA 240).2.2.2.2.2.2.2.1
theorem jgG_expr : SJg pkG_expression := (pg_KVA (kd := fun _ => 0) (n := 0) 240).2.2.2.2.2.2.2.2
