/-! the grammar: signs that wait, brackets behind, calls -/
def OPc (σ : St) (B : Nat) : List Int → Prop
  | [] => True
  | x :: O => tkx σ ((σ 22) (B + O.length)) = x ∧ (41 ≤ x ∧ x ≤ 58) ∧ (O.length : Int) + 1 ≤ lvl x ∧ OPc σ B O
def gs (O : List Int) : List It := iV :: O.map iL
theorem lvl_le : ∀ x : Int, 0 ≤ lvl x ∧ lvl x ≤ 10 ∧ (41 ≤ x → x ≤ 58 → 1 ≤ lvl x) := fun x => by
  have h : ∀ n, n < 18 → 1 ≤ (gC 0 n).toInt ∧ (gC 0 n).toInt ≤ 10 := by decide
  unfold lvl
  by_cases c : 41 ≤ x ∧ x ≤ 58
  · rw [if_pos c]
    have := h (x - 41).toNat (by omega)
    exact ⟨by omega, by omega, fun _ _ => by omega⟩
  · rw [if_neg c]
    exact ⟨by omega, by omega, fun h1 h2 => absurd ⟨h1, h2⟩ c⟩
section GBI
variable {σ s t : St} {l p d l' p' B : Nat} {Ka : Int32 → KX1} {Kb Kc Kd Ke Kf Kg Kh : KX1}
theorem sp_glevelOf {x : Int32} {Q : Int32 → Prop} (hx : -2000 ≤ x.toInt ∧ x.toInt ≤ 2000000000) (k : ∀ v : Int32, v.toInt = lvl x.toInt → Q v) : wk_X3_levelOf x σ Q := by
  have e : (x - (41 : Int32)).toInt = x.toInt - 41 := sbc (by decide) (by omega) (by omega)
  unfold wk_X3_levelOf
  refine ⟨fun c => k _ ?_, fun c => ⟨fun c2 => k _ ?_, fun c2 => ⟨⟨c, c2⟩, k _ ?_⟩⟩⟩
  · unfold lvl
    rw [if_neg (by omega)]
    rfl
  · unfold lvl
    rw [if_neg (by omega)]
    rfl
  · have en := nt c
    have e2 : (x - (41 : Int32)).toNatClampNeg = (x.toInt - 41).toNat := by omega
    unfold lvl
    rw [if_pos (by omega), e2]
theorem grx_k {a b : List It} {u w : Int} (h : GRx σ s l a b u w) (k : Kp [(3, 9)] [22, 23] s t) : GRx σ t l a b u w := by
  have e1 : (t 3 1) = (s 3 1) := k 3 1 rfl rfl
  have e2 : (t 3 2) = (s 3 2) := k 3 2 rfl rfl
  have e3 : (t 3 3) = (s 3 3) := k 3 3 rfl rfl
  have e4 : (t 3 4) = (s 3 4) := k 3 4 rfl rfl
  have e13 : (t 13) = (s 13) := funext (fun j => k 13 j rfl rfl)
  have e14 : (t 14) = (s 14) := funext (fun j => k 14 j rfl rfl)
  have e15 : (t 15) = (s 15) := funext (fun j => k 15 j rfl rfl)
  have e5 : (t 2 4) = (s 2 4) := k 2 4 rfl rfl
  have sm : ∀ j, SameAt s t j := fun j => ⟨k 18 j rfl rfl, k 19 j rfl rfl⟩
  have ep : pl t = pl s := by unfold pl ps; rw [e1, e15]
  obtain ⟨h1, h2, h3⟩ := h
  refine ⟨kp_tr h1 (kp_sub k rfl rfl), ?_, fun hw => ?_⟩
  · unfold GA ps
    rw [e1, e2, e3, e4, e5, e13]
    exact h2
  · rw [e3] at hw
    obtain ⟨a1, a2, n, a3, a4, a5, a6, a7⟩ := h3 hw
    refine ⟨a1, fun j hj => ?_, n, by rw [e4]; exact a3, by rw [ep]; exact a4, by rw [ep, csum_same e14 n _ (fun j _ _ => sm j)]; exact a5, by rw [ep]; exact a6, fun S hS => xr_same e13 n _ _ _ (fun j _ _ => sm j) (a7 S hS)⟩
    obtain ⟨b1, b2, b3⟩ := a2 j hj
    exact ⟨⟨(sm j).1.trans b1.1, (sm j).2.trans b1.2⟩, (k 20 j rfl rfl).trans b2, (k 21 j rfl rfl).trans b3⟩
theorem opc_k (hk : (s 13) = (σ 13)) : ∀ O : List Int, (∀ j, j < B + O.length → (s 22) j = (σ 22) j) → OPc σ B O → OPc s B O
  | [] => fun _ _ => trivial
  | x :: O => fun e h => by
    obtain ⟨h1, h2, h3, h4⟩ := h
    refine ⟨?_, h2, h3, opc_k hk O (fun j hj => e j (by show j < B + (O.length + 1); omega)) h4⟩
    rw [e _ (by show B + O.length < B + (O.length + 1); omega)]
    unfold tkx at h1 ⊢
    rw [hk]
    exact h1
theorem sp_gsettle {a v : Int32} {O : List Int} {σ0 : St} {u w : Int} {Q : St → Prop} (tk : TKc σ0) (g0 : GA σ0) (cb : CBd σ0 70) (ha : a.toInt = B) (hB : B + O.length ≤ 400) (r : GRx σ0 σ l [] (gs O) (u - O.length) (w - 2 * O.length)) (hu : u ≤ 0) (ho : OPc σ B O) (hp : (σ 3 9).toInt = ((B + O.length : Nat) : Int)) (hl : l + 12 ≤ 500)
    (k : ∀ (s : St) (O2 : List Int), GRx σ0 s l [] (gs O2) (u - O2.length) (w - 2 * O2.length) → OPc s B O2 → (s 3 9).toInt = ((B + O2.length : Nat) : Int) → (∀ j, j < B + O2.length → (s 22) j = (σ 22) j) → (s 3 1) = (σ 3 1) → (s 3 2) = (σ 3 2) → (s 3 3) = (σ 3 3) → O2.length ≤ O.length → ((O2.length : Int) < v.toInt ∨ O2 = []) → Q s) : wk_X3_settle a v σ Q := by
  unfold wk_X3_settle
  refine ⟨fun n s => ∃ O2 : List Int, n = O2.length ∧ O2.length ≤ O.length ∧ GRx σ0 s l [] (gs O2) (u - O2.length) (w - 2 * O2.length) ∧ OPc s B O2 ∧ (s 3 9).toInt = ((B + O2.length : Nat) : Int) ∧ (∀ j, j < B + O2.length → (s 22) j = (σ 22) j) ∧ (s 3 1) = (σ 3 1) ∧ (s 3 2) = (σ 3 2) ∧ (s 3 3) = (σ 3 3), ⟨_, O, rfl, Nat.le_refl _, r, ho, hp, fun _ _ => rfl, rfl, rfl, rfl⟩, ?_⟩
  rintro n s ⟨O2, hn, hle, r2, ho2, hp2, q1, q2, q3, q4⟩
  match O2, hn, hle, r2, ho2, hp2 with
  | [], hn, hle, r2, ho2, hp2 =>
    refine ⟨fun _ => k s [] r2 ho2 hp2 q1 q2 q3 q4 hle (Or.inr rfl), fun c => ?_⟩
    have : ((B + ([] : List Int).length : Nat) : Int) = B := rfl
    omega
  | x :: O3, hn, hle, r2, ho2, hp2 =>
    have el : (x :: O3).length = O3.length + 1 := rfl
    rw [el] at hp2 hle hn r2
    obtain ⟨h1, h2, h3, h4⟩ := ho2
    have e1 : ((s 3 9) - (1 : Int32)).toInt = ((B + O3.length : Nat) : Int) := by rw [sb1 (by omega)]; omega
    have e2 : atv 400 (s 22) ((s 3 9) - (1 : Int32)) = (s 22) (B + O3.length) := atv_at e1 (by omega)
    refine ⟨fun c => by omega, fun c => ?_⟩
    rw [e2]
    have hx : (atv 16002 (s 13) ((s 22) (B + O3.length))).toInt = x := h1
    refine sp_glevelOf (by rw [hx]; omega) (fun v2 hv2 => ⟨fun c2 => ?_, fun c2 => k s (x :: O3) r2 ⟨h1, h2, h3, h4⟩ hp2 q1 q2 q3 q4 hle (Or.inl ?_)⟩)
    · refine sp_gadd0 (tk_kg r2.1 tk) r2.2.1 (cb_grx cb r2 (by omega)) (fun v3 s3 ad _ => ⟨O3.length, by omega, O3, rfl, by omega, ?_, ?_, ?_, ?_, ?_, ?_, ?_⟩)
      · have r3 := grx_add (c := gs O3) (w' := 2) g0 r2 ad (fun hw S hS => by
          rw [h1]
          exact Or.inr (Or.inr (Or.inr (Or.inr (Or.inr (Or.inl ⟨by decide, h2, O3.map iL ++ S, rfl, rfl⟩)))))) (by decide) (by decide)
        exact grx_wk (grx_k r3 (kp_f kp_rf rfl)) (Nat.le_refl _) (by omega) (by omega)
      · refine opc_k (σ := s3) (by rfl) O3 (fun _ _ => by rfl) ?_
        exact opc_k (σ := s) (funext (fun j => ad.1 13 j rfl rfl)) O3 (fun j hj => ad.2.2.1.2 j (by omega)) h4
      · show ((s3 3 9) - (1 : Int32)).toInt = _
        rw [ad.2.2.1.1]
        exact e1
      · intro j hj
        exact (ad.2.2.1.2 j (by omega)).trans (q1 j (by show j < B + (O3.length + 1); omega))
      · exact (ad.2.2.2.2.1).trans q2
      · exact (ad.2.2.2.2.2.1).trans q3
      · exact (ad.2.2.2.1).trans q4
    · rw [hx] at hv2
      have : ((x :: O3).length : Int) = O3.length + 1 := rfl
      omega
theorem sp_gbinary (hu : SPE Ke d (l + 10) (p + 10)) (hl : l + 12 ≤ 500) (hp9 : p + 10 ≤ 400) : SPE (wk_X3_binary Ka Kb Kc Kd Ke Kf Kg Kh) d l p := fun x σ Q hx tk ga cb hp k => by
  obtain ⟨B, hB⟩ : ∃ B : Nat, (σ 3 9).toInt = B := ⟨(σ 3 9).toInt.toNat, by omega⟩
  unfold wk_X3_binary
  refine hu x σ _ hx tk ga cb ⟨hp.1, by have := hp.2; omega⟩ (fun s7 r7 p7 => ?_)
  have fin : ∀ (s : St) (O : List Int), GRx σ s l [] (gs O) (-1 - O.length) (-1 - 2 * O.length) → OPc s B O → (s 3 9).toInt = ((B + O.length : Nat) : Int) → (∀ j, j < B → (s 22) j = (σ 22) j) → O.length ≤ 10 → wk_X3_settle (σ 3 9) (0 : Int32) s (fun s100 => Q s100) := fun s O r ho hp2 hops h10 => by
    refine sp_gsettle (u := -1) (w := -1) tk ga cb hB (by omega) r (by omega) ho hp2 hl (fun s2 O2 r2 ho2 hp3 q1 q2 q3 q4 hle he => ?_)
    have : O2 = [] := by
      rcases he with c | c
      · exfalso
        have : (0 : Int32).toInt = 0 := by decide
        omega
      · exact c
    subst this
    have hp4 : (s2 3 9).toInt = B := hp3
    exact k s2 r2 ⟨Int32.toInt_inj.mp (by rw [hp4, hB]), fun j hj => (q1 j (by show j < B + 0; omega)).trans (hops j (by omega))⟩
  refine ⟨fun n y s => n = y.toInt.toNat ∧ ∃ O : List Int, GRx σ s l [] (gs O) (-1 - O.length) (-1 - 2 * O.length) ∧ OPc s B O ∧ (s 3 9).toInt = ((B + O.length : Nat) : Int) ∧ (∀ j, j < B → (s 22) j = (σ 22) j) ∧ O.length ≤ 10, ⟨_, rfl, [], grx_wk r7 (by omega) (by show -1 ≤ -1 - ((0 : Nat) : Int); omega) (by show -1 ≤ -1 - 2 * ((0 : Nat) : Int); omega), trivial, by rw [p7.1]; exact hB, fun j hj => p7.2 j (by omega), by show 0 ≤ 10; omega⟩, ?_⟩
  rintro n y s ⟨hn, O, r, ho, hp2, hops, h10⟩
  have tks := tk_kg r.1 tk
  have kr : -2000 ≤ (s 3 2).toInt ∧ (s 3 2).toInt ≤ 2000000000 := by
    by_cases c : (s 3 3).toInt < 0
    · obtain ⟨⟨p1, p2⟩, p3, p4⟩ := r.2.1.1 c
      have en : (ps s : Int) = (s 3 1).toInt := nt p1
      have := (tks.2.1 (ps s) (by omega)).2
      rw [p3]
      omega
    · have := r.2.1.2 (by omega)
      omega
  refine ⟨True, fun _ => fin s O r ho hp2 hops h10, fun _ => trivial, fun c => sp_glevelOf kr (fun v1 hv1 => ⟨fun _ => trivial, fun c2 => sp_glevelOf kr (fun v2 hv2 => ?_)⟩)⟩
  have hb : 41 ≤ (s 3 2).toInt ∧ (s 3 2).toInt ≤ 58 := by
    by_cases q : 41 ≤ (s 3 2).toInt ∧ (s 3 2).toInt ≤ 58
    · exact q
    · exfalso
      unfold lvl at hv1
      rw [if_neg q] at hv1
      omega
  refine sp_gsettle (u := -1) (w := -1) tk ga cb hB (by omega) r (by omega) ho hp2 hl (fun s2 O2 r2 ho2 hp3 q1 q2 q3 q4 hle he => ?_)
  have good : (s2 3 3).toInt < 0 := by
    by_cases q : (s2 3 3).toInt < 0
    · exact q
    · have := r2.2.1.2 (by omega)
      rw [q3] at this
      omega
  have tk2 := tk_kg r2.1 tk
  have lv := lvl_le (s 3 2).toInt
  have h9 : O2.length ≤ 9 := by
    rcases he with q | q
    · omega
    · subst q
      show 0 ≤ 9
      omega
  have hpn : (s2 3 9).toNatClampNeg = B + O2.length := by rw [nt', hp3]; rfl
  have k2 : Kp [(3, 9)] [22, 23] s2 (upC (upF s2 22 (setv 400 (s2 22) (s2 3 9) (s2 3 1))) 3 9 ((s2 3 9) + (1 : Int32))) := kp_f (kp_F kp_rf rfl) rfl
  have r3 := grx_k r2 k2
  have ops3 : ∀ j, ((upC (upF s2 22 (setv 400 (s2 22) (s2 3 9) (s2 3 1))) 3 9 ((s2 3 9) + (1 : Int32))) 22) j = if j = B + O2.length then (s2 3 1) else (s2 22) j := fun j => by
    show (setv 400 (s2 22) (s2 3 9) (s2 3 1)) j = _
    rw [setv_at (j := B + O2.length) hp3 (by omega)]
  have pn3 : ((upC (upF s2 22 (setv 400 (s2 22) (s2 3 9) (s2 3 1))) 3 9 ((s2 3 9) + (1 : Int32))) 3 9).toInt = ((B + O2.length : Nat) : Int) + 1 := by
    show ((s2 3 9) + (1 : Int32)).toInt = _
    rw [ad1 (by omega), hp3]
  have ew3 : ((upC (upF s2 22 (setv 400 (s2 22) (s2 3 9) (s2 3 1))) 3 9 ((s2 3 9) + (1 : Int32))) 3 3).toInt = (s2 3 3).toInt := rfl
  have ek3 : ((upC (upF s2 22 (setv 400 (s2 22) (s2 3 9) (s2 3 1))) 3 9 ((s2 3 9) + (1 : Int32))) 3 2) = (s2 3 2) := rfl
  have ho3 : OPc (upC (upF s2 22 (setv 400 (s2 22) (s2 3 9) (s2 3 1))) 3 9 ((s2 3 9) + (1 : Int32))) B ((s 3 2).toInt :: O2) := by
    refine ⟨?_, hb, ?_, opc_k (σ := s2) (by rfl) O2 (fun j hj => by rw [ops3, if_neg (by omega)]) ho2⟩
    · rw [ops3, if_pos rfl, tkx_kg (kp_sub k2 rfl rfl)]
      rw [tkx_pos r2.2.1 tk2 good, q3]
    · rcases he with q | q
      · omega
      · subst q
        have := lv.2.2 hb.1 hb.2
        show ((0 : Nat) : Int) + 1 ≤ _
        omega
  have tkp : tkx (upC (upF s2 22 (setv 400 (s2 22) (s2 3 9) (s2 3 1))) 3 9 ((s2 3 9) + (1 : Int32))) (s2 3 1) = (s 3 2).toInt := by
    rw [tkx_kg (kp_sub k2 rfl rfl), tkx_pos r2.2.1 tk2 good, q3]
  generalize hz : (upC (upF s2 22 (setv 400 (s2 22) (s2 3 9) (s2 3 1))) 3 9 ((s2 3 9) + (1 : Int32))) = z at *
  refine sp_gadd0 (tk_kg r3.1 tk) r3.2.1 (cb_grx cb r3 (by omega)) (fun v4 s4 ad _ => ?_)
  have r4 := grx_add (c := iL (s 3 2).toInt :: O2.map iL) (w' := 2) ga r3 ad (fun hw S hS => by
    rw [tkp]
    exact Or.inr (Or.inr (Or.inr (Or.inr (Or.inl ⟨by decide, Or.inr (Or.inr hb), O2.map iL ++ S, rfl, rfl⟩))))) (by decide) (by decide)
  have tk4 := tk_kg r4.1 tk
  refine sp_gadv tk4 r4.2.1 (by rw [ad.2.2.2.2.2.1, ek3, q3]; omega) (fun s5 a5 => ?_)
  have r5 := grx_tr ga r4 (adv_g a5)
  have p5 := pso_tr ad.2.2.1 a5.2.2.2.2.1
  have pn5 : (s5 3 9).toInt = ((B + O2.length : Nat) : Int) + 1 := by rw [p5.1]; exact pn3
  refine hu x s5 _ hx (tk_kg r5.1 tk) r5.2.1 (cb_grx cb r5 (by omega)) ⟨by omega, by have := hp.2; omega⟩ (fun s6 r6' p6 => ?_)
  have r6 := grx_tr ga r5 (grx_ctx (l := l) (e := iL (s 3 2).toInt :: O2.map iL) r6' (by show l + ((O2.map iL).length + 1) ≤ l + 10; rw [List.length_map]; omega))
  have p6' := pso_tr p5 p6
  refine ⟨(y + (-1 : Int32)).toInt.toNat, dn_lt hn c, rfl, (s 3 2).toInt :: O2, grx_wk r6 (Nat.le_refl _) (by show _ ≤ -1 - ((O2.length + 1 : Nat) : Int); omega) (by show _ ≤ -1 - 2 * ((O2.length + 1 : Nat) : Int); omega), opc_k (funext (fun j => ?_)) _ (fun j hj => ?_) ho3, by rw [p6'.1, pn3]; show _ = ((B + (O2.length + 1) : Nat) : Int); omega, fun j hj => ?_, by show O2.length + 1 ≤ 10; omega⟩
  · exact (kp_tr (kp_tr ad.1 (adv_g (l := 0) (a := []) a5).1) r6'.1) 13 j rfl rfl
  · have hj' : j < B + (O2.length + 1) := hj
    exact p6'.2 j (by omega)
  · rw [p6'.2 j (by omega), ops3, if_neg (by omega), q1 j (by omega)]
    exact hops j hj
theorem sp_gbehind (hb : SPE Kb d l p) (he : d + 1 ≤ 25 → SPE Kh (d + 1) l' p') (hl : l + 1 ≤ l') (hp' : p ≤ p') : SPE (wk_X3_behind Ka Kb Kc Kd Ke Kf Kg Kh) d l p := fun x σ Q hx tk ga cb hp k => by
  unfold wk_X3_behind
  refine hb x σ _ hx tk ga cb hp (fun s2 r2 p2 => ?_)
  refine ⟨fun n _ y s => n = y.toInt.toNat ∧ GRx σ s l [] [iV] (-1) (-1) ∧ PSo σ s, ⟨_, rfl, r2, p2⟩, ?_⟩
  rintro n z y s hz ⟨hn, r, q⟩
  refine ⟨fun _ => k s r q, fun c => ⟨fun _ => k s r q, fun _ => ?_⟩⟩
  have tks := tk_kg r.1 tk
  refine ⟨fun z => z.toInt ≠ 0 → 2 ≤ (s 3 2).toInt, ?_, 2 ≤ (s 3 2).toInt, fun c _ => c, fun c => by omega, fun _ => ⟨fun c => by omega, fun _ => ⟨fun c e => absurd rfl e, fun c => by omega⟩⟩⟩
  intro z2 hz2 hk
  refine ⟨fun s => GRx σ s l [] [iV] (-1) (-1) ∧ PSo σ s, fun s9 h9 => ⟨_, dn_lt hn c, rfl, h9.1, h9.2⟩, fun _ => ⟨fun _ => ⟨r, q⟩, fun e => ?_⟩, fun c24 => ?_⟩
  · refine sp_gadv tks r.2.1 (hk e) (fun s3 a3 => ?_)
    have r3 := grx_tr ga r (adv_g a3)
    refine sp_gadd0 (tk_kg r3.1 tk) r3.2.1 (cb_grx cb r3 (by omega)) (fun v4 s4 ad _ => ⟨?_, pso_tr (pso_tr q a3.2.2.2.2.1) ad.2.2.1⟩)
    exact grx_wk (grx_add (c := [iV]) (w' := 2) ga r3 ad (fun hw S hS => Or.inr (Or.inr (Or.inr (Or.inr (Or.inr (Or.inr (Or.inr (Or.inr (Or.inl ⟨by decide, S, rfl, rfl⟩))))))))) (by decide) (by decide)) (Nat.le_refl _) (by omega) (by omega)
  · refine sp_gdeeper tks r.2.1 (by omega) (fun s3 r3 p3 => ⟨fun _ => ⟨grx_wk (grx_tr ga r (r3 l [iV] [iV] 0 0)) (Nat.le_refl _) (by omega) (by omega), pso_tr q p3⟩, fun e => absurd rfl e⟩) (fun s3 d3 a3 => ⟨fun e => absurd e (by decide), fun _ => ?_⟩)
    have r3 := grx_tr ga r (adv_g a3)
    have q3 := pso_tr q a3.2.2.2.2.1
    refine sp_gadd0 (tk_kg r3.1 tk) r3.2.1 (cb_grx cb r3 (by omega)) (fun v4 s4 ad4 _ => ?_)
    have r4 := grx_add (c := [iL 24]) (w' := 2) ga r3 ad4 (fun hw S hS => by
      rw [tkx_kg (adv_g (l := 0) (a := []) a3).1, tkx_pos r.2.1 tks a3.2.2.2.2.2, c24]
      exact Or.inr (Or.inr (Or.inr (Or.inr (Or.inl ⟨by decide, Or.inl rfl, S, rfl, rfl⟩))))) (by decide) (by decide)
    have q4 := pso_tr q3 ad4.2.2.1
    refine he (by omega) _ s4 _ (by rw [ad1 (by omega)]; omega) (tk_kg r4.1 tk) r4.2.1 (cb_grx cb r4 (by omega)) ⟨(pen_of q4 hp).1, by have := (pen_of q4 hp).2; omega⟩ (fun s5 r5' p5 => ?_)
    have r5 := grx_tr ga r4 (grx_ctx (l := l) (e := [iL 24]) r5' hl)
    refine sp_gexpect (tk_kg r5.1 tk) r5.2.1 (by decide) (fun s6 r6' p6 _ => ?_)
    have r6 := grx_tr ga r5 (r6' l _)
    have q6 := pso_tr (pso_tr q4 p5) p6
    refine sp_gadd0 (tk_kg r6.1 tk) r6.2.1 (cb_grx cb r6 (by omega)) (fun v7 s7 ad7 _ => ⟨?_, pso_tr q6 ad7.2.2.1⟩)
    exact grx_wk (grx_add (c := [iV]) (w' := 3) ga r6 ad7 (fun hw S hS => Or.inr (Or.inr (Or.inr (Or.inr (Or.inr (Or.inr (Or.inr (Or.inl ⟨by decide, S, rfl, rfl⟩)))))))) (by decide) (by decide)) (Nat.le_refl _) (by omega) (by omega)
theorem sp_gcall (he : d + 1 ≤ 25 → SPE Kh (d + 1) l' p') (hl : l + 1 ≤ l') (hl5 : l < 500) (hp' : p ≤ p') : SPC (wk_X3_call Ka Kb Kc Kd Ke Kf Kg Kh) d l p := fun nm x σ Q hx tk ga cb hp hk hnm k => by
  unfold wk_X3_call
  refine sp_gdeeper tk ga (by omega) (fun s3 r3 p3 => ⟨fun e => absurd rfl e, fun _ => k s3 (r3 _ _ _ _ _) p3⟩) (fun s3 d3 a3 => ⟨fun _ => ?_, fun e => absurd e (by decide)⟩)
  have r3 := adv_g (l := l) (a := []) a3
  have q3 := a3.2.2.2.2.1
  refine sp_gadd0 (tk_kg r3.1 tk) r3.2.1 (cb_grx cb r3 (by omega)) (fun v4 s4 ad4 _ => ?_)
  have r4 := grx_add (c := [iF]) (w' := 0) ga r3 ad4 (fun hw S hS => Or.inr (Or.inl ⟨by decide, by show S.length < 500; omega, by rw [tkx_kg r3.1]; exact hnm a3.2.2.2.2.2, rfl⟩)) (by decide) (by decide)
  have q4 := pso_tr q3 ad4.2.2.1
  refine ⟨fun _ => True, fun y0 _ _ => ?_, fun _ => trivial, fun _ => trivial⟩
  refine ⟨fun n _ y s => n = y.toInt.toNat ∧ GRx σ s l [] [iF] (-1) (-4) ∧ PSo σ s, ⟨_, rfl, grx_wk r4 (Nat.le_refl _) (by omega) (by omega), q4⟩, ?_⟩
  rintro n z y s hz ⟨hn, r, q⟩
  have tks := tk_kg r.1 tk
  refine ⟨True, fun _ => ?_, fun _ => trivial, fun c => ⟨fun _ => trivial, fun _ => ?_⟩⟩
  · refine sp_gexpect tks r.2.1 (by decide) (fun s6 r6' p6 _ => ?_)
    have r6 := grx_tr ga r (r6' l _)
    refine sp_gadd0 (tk_kg r6.1 tk) r6.2.1 (cb_grx cb r6 (by omega)) (fun v7 s7 ad7 _ => k s7 ?_ (pso_tr (pso_tr q p6) ad7.2.2.1))
    exact grx_wk (grx_add (c := [iV]) (w' := 3) ga r6 ad7 (fun hw S hS => Or.inr (Or.inr (Or.inr (Or.inl ⟨by decide, S, rfl, rfl⟩)))) (by decide) (by decide)) (Nat.le_refl _) (by omega) (by omega)
  · refine he (by omega) _ s _ (by rw [ad1 (by omega)]; omega) tks r.2.1 (cb_grx cb r (by omega)) ⟨(pen_of q hp).1, by have := (pen_of q hp).2; omega⟩ (fun s5 r5' p5 => ?_)
    have r5 := grx_tr ga r (grx_ctx (l := l) (e := [iF]) r5' hl)
    have q5 := pso_tr q p5
    refine sp_gadd0 (tk_kg r5.1 tk) r5.2.1 (cb_grx cb r5 (by omega)) (fun v7 s7 ad7 _ => ?_)
    have r7 := grx_add (c := [iF]) (w' := 0) ga r5 ad7 (fun hw S hS => Or.inr (Or.inr (Or.inl ⟨by decide, S, rfl, rfl⟩))) (by decide) (by decide)
    have q7 := pso_tr q5 ad7.2.2.1
    refine sp_gaccept (tk_kg r7.1 tk) r7.2.1 (by decide) (fun _ => ⟨_, dn_lt hn c, rfl, grx_wk r7 (Nat.le_refl _) (by omega) (by omega), q7⟩) (fun s8 a8 _ => ⟨_, dn_lt hn c, rfl, grx_wk (grx_tr ga r7 (adv_g a8)) (Nat.le_refl _) (by omega) (by omega), pso_tr q7 a8.2.2.2.2.1⟩)
end GBI
