/-! variables, one behind the other -/
/-- from behind the int -/
def VNn (kd vl : Nat → Int) (N : Nat) (lk : Int) (p : Nat) : Option (Nat × List Gsq) := (SRq kd 5 p).bind fun t => if kd t.2 = 2 then VSn kd vl N lk t.2 t.1 (t.2 + 1) else none
section VNL
variable {w s r σ σ' τ t : St} {kd vl : Nat → Int} {n S m lo d p p' q ty u p0 : Nat} {vs z : List Nat} {g g' : List Gsq} {lk : Int} {R : Option (Nat × List Gsq)} {F0 : Prop} {a1 a2 a3 : Int32}
theorem vn_0 (hs : SRq kd 5 p = none) : EVq (fun N => VNn kd vl N lk p) none := ⟨0, fun N _ => by
  show VNn kd vl N lk p = none
  unfold VNn
  rw [hs]
  rfl⟩
theorem vn_1 (hs : SRq kd 5 p = some (ty, q)) (c : kd q ≠ 2) : EVq (fun N => VNn kd vl N lk p) none := ⟨0, fun N _ => by
  show VNn kd vl N lk p = none
  unfold VNn
  rw [hs]
  exact if_neg c⟩
theorem vn_up {f : Nat → Option (Nat × List Gsq)} (hs : SRq kd 5 p = some (ty, q)) (c : kd q = 2) (hf : ∀ N, VSn kd vl (N + 1) lk q ty (q + 1) = f N) (h : EVq f R) : EVq (fun N => VNn kd vl N lk p) R := by
  obtain ⟨N, h⟩ := h
  refine ⟨N + 1, fun k hk => ?_⟩
  obtain ⟨k', rfl⟩ : ∃ k', k = k' + 1 := ⟨k - 1, by omega⟩
  show VNn kd vl (k' + 1) lk p = R
  unfold VNn
  rw [hs]
  show (if kd q = 2 then VSn kd vl (k' + 1) lk q ty (q + 1) else none) = R
  rw [if_pos c, hf]
  exact h k' (by omega)
theorem vn_2 (hs : SRq kd 5 p = some (ty, q)) (c : kd q = 2) (h : EVq (fun N => V1n kd vl N lk q ty (q + 1)) none) : EVq (fun N => VNn kd vl N lk p) none := vn_up hs c (fun _ => rfl) (ev_b0 h)
theorem vn_3 (hs : SRq kd 5 p = some (ty, q)) (c : kd q = 2) (h : EVq (fun N => V1n kd vl N lk q ty (q + 1)) (some (p', g'))) (c26 : kd p' = 26) (hR : EVq (fun N => VNn kd vl N lk (p' + 1)) R) : EVq (fun N => VNn kd vl N lk p) (R.map (fun r => (r.1, g' ++ r.2))) := by
  refine vn_up hs c (fun _ => rfl) (ev_b h (ev_t c26 ?_))
  obtain ⟨N, hN⟩ := hR
  refine ⟨N, fun k hk => ?_⟩
  have := hN k hk
  show ((SRq kd 5 (p' + 1)).bind fun t => if kd t.2 = 2 then (VSn kd vl k lk t.2 t.1 (t.2 + 1)).bind fun q => some (q.1, g' ++ q.2) else none) = R.map (fun r => (r.1, g' ++ r.2))
  rw [← this]
  show _ = (VNn kd vl k lk (p' + 1)).map (fun r => (r.1, g' ++ r.2))
  unfold VNn
  cases SRq kd 5 (p' + 1) with
  | none => rfl
  | some t =>
    show (if kd t.2 = 2 then (VSn kd vl k lk t.2 t.1 (t.2 + 1)).bind fun q => some (q.1, g' ++ q.2) else none) = (if kd t.2 = 2 then VSn kd vl k lk t.2 t.1 (t.2 + 1) else none).map (fun r => (r.1, g' ++ r.2))
    by_cases c2 : kd t.2 = 2
    · rw [if_pos c2, if_pos c2]
      cases VSn kd vl k lk t.2 t.1 (t.2 + 1) with
      | none => rfl
      | some r => rfl
    · rw [if_neg c2, if_neg c2]
      rfl
theorem vn_4 (hs : SRq kd 5 p = some (ty, q)) (c : kd q = 2) (h : EVq (fun N => V1n kd vl N lk q ty (q + 1)) (some (p', g'))) (c27 : kd p' = 27) : EVq (fun N => VNn kd vl N lk p) (some (p' + 1, g')) := vn_up hs c (fun _ => rfl) (ev_b h (ev_f (by show ¬ kd p' = 26; omega) (ev_t c27 ev_c)))
theorem vn_5 (hs : SRq kd 5 p = some (ty, q)) (c : kd q = 2) (h : EVq (fun N => V1n kd vl N lk q ty (q + 1)) (some (p', g'))) (c26 : kd p' ≠ 26) (c27 : kd p' ≠ 27) : EVq (fun N => VNn kd vl N lk p) none := vn_up hs c (fun _ => rfl) (ev_b h (ev_f c26 (ev_f c27 ev_c)))
/-- the loop, for whatever is kept from one variable to the next -/
theorem vars_loop {I : Nat → List Gsq → St → St → List Nat → Prop} {Q : St → St → List Nat → Prop} (hI : ∀ p g s t z, I p g s t z → RTk s kd n ∧ GMt s n p) (hmv : ∀ p p' g s s' t z, I p g s t z → Kp [(0, 10)] [] s s' → GMt s' n p' → I p' g s' t z)
    (hvar : ∀ p g s t z (a v : Int32) (u ty : Nat) (Q : St → St → List Nat → Prop), I p g s t z → a.toInt = (u : Int) → v.toInt = (ty : Int) → ty ≤ 5 → kd u = 2 → u ≤ n → u + 1 = p → (∀ p' g' s' t' z', EVq (fun N => V1n kd vl N lk u ty p) (some (p', g')) → p ≤ p' → I p' (g ++ g') s' t' z' → Q s' t' z') → (EVq (fun N => V1n kd vl N lk u ty p) none → F0) → pp_variable a v a1 a2 a3 s t z Q (fun _ _ _ => F0))
    (h0 : I p0 [] σ τ vs) (kk : ∀ p' g s t z, EVq (fun N => VNn kd vl N lk p0) (some (p', g)) → p0 < p' → I p' g s t z → Q s t z) (kn : EVq (fun N => VNn kd vl N lk p0) none → F0) : pp_variables a1 a2 a3 σ τ vs Q (fun _ _ _ => F0) := by
  unfold pp_variables
  refine ⟨fun x s t z => ∃ (p1 : Nat) (g : List Gsq), p0 ≤ p1 ∧ I p1 g s t z ∧ (x.toInt ≠ 0 → ∀ R, EVq (fun N => VNn kd vl N lk p1) R → EVq (fun N => VNn kd vl N lk p0) (R.map (fun r => (r.1, g ++ r.2)))) ∧ (x.toInt = 0 → (kd p1 = 27 → EVq (fun N => VNn kd vl N lk p0) (some (p1 + 1, g))) ∧ (kd p1 ≠ 27 → EVq (fun N => VNn kd vl N lk p0) none)), ⟨p0, [], Nat.le_refl p0, h0, fun _ R h => ?_, fun h => absurd h (by decide)⟩, ?_⟩
  · cases R with
    | none => exact h
    | some r => exact h
  rintro x s t z _ ⟨p1, g, hp, hI1, hx1, hx0⟩
  obtain ⟨tk, g1⟩ := hI _ _ _ _ _ hI1
  refine ⟨fun c => mr_expect tk g1 (c := 27) (by decide) (by decide) (fun c27 s1 k1 gg => kk (p1 + 1) g s1 t z ((hx0 c).1 c27) (by omega) (hmv p1 (p1 + 1) g s s1 t z hI1 k1 gg)) (fun c27 => kn ((hx0 c).2 c27)), fun c => ?_⟩
  refine mr_stars tk g1 (fun y s9 i q hy hi hs hq g9 k9 => ?_) (fun hs => kn (hx1 c none (vn_0 hs)))
  have hI9 := hmv p1 q g s s9 t z hI1 k9 g9
  obtain ⟨tk9, _⟩ := hI _ _ _ _ _ hI9
  have e9 : (s9 0 10).toNatClampNeg = q := nat_of g9.1
  have r2 := rk_to tk9 g9.2 2 (by decide) (j := 2) (by decide)
  rw [e9]
  refine fun _ => ⟨fun c2 => ?_, fun c2 => ?_⟩
  · have k2 := r2.1 c2
    have ka : Kp [(0, 10)] [] s9 (upC s9 0 10 ((s9 0 10) + (1 : Int32))) := kp_f kp_rf rfl
    have ga := gm_up tk9 g9 (by omega)
    refine hvar (q + 1) g _ t z (s9 0 10) y q i _ (hmv q (q + 1) g s9 _ t z hI9 ka ga) g9.1 hy hi k2 g9.2 rfl (fun p' g' s' t' z' hev hp' hI' => ?_) (fun hn => kn (hx1 c none (vn_2 hs k2 hn)))
    obtain ⟨tk', gg'⟩ := hI _ _ _ _ _ hI'
    refine mr_accept1 tk' gg' (c := 26) (by decide) (by decide) (fun v s1 p2 hv k1 g1' f1 f0 => ⟨p2, g ++ g', ?_, hmv p' p2 _ s' s1 t' z' hI' k1 g1', fun cv R hR => ?_, fun cv => ?_⟩)
    · by_cases cc : kd p' = 26
      · rw [f1 cc]; omega
      · rw [f0 cc]; omega
    · have c26 := hv.1 cv
      rw [f1 c26] at hR
      have := hx1 c _ (vn_3 hs k2 hev c26 hR)
      cases R with
      | none => exact this
      | some r =>
        rw [show ((some r).map (fun r : Nat × List Gsq => (r.1, g ++ g' ++ r.2))) = some (r.1, g ++ (g' ++ r.2)) from by simp [List.append_assoc]]
        exact this
    · have c26 : kd p' ≠ 26 := fun h => (hv.2 h) cv
      rw [f0 c26]
      exact ⟨fun c27 => hx1 c _ (vn_4 hs k2 hev c27), fun c27 => hx1 c _ (vn_5 hs k2 hev c26 c27)⟩
  · unfold pp_wrong pp_wrongAt
    exact fun _ => kn (hx1 c none (vn_1 hs (fun h => c2 (r2.2 h))))
/-- variables of a function: the row of the reference's statements -/
theorem es_vwr : VWr kd vl n m lo := by
  intro d p h1 hd c5 S σ τ vs Q F hG hg h57 kk kn
  have hd' : ¬ 25 < d := by omega
  have ka : Kp [(0, 10)] [] σ (upC σ 0 10 ((σ 0 10) + (1 : Int32))) := kp_f kp_rf rfl
  have ga := gm_up hG.1.1 hg (by omega)
  show pp_variables (0 : Int32) (0 : Int32) (1 : Int32) (upC σ 0 10 ((σ 0 10) + (1 : Int32))) τ vs Q (fun _ _ _ => F)
  generalize upC σ 0 10 ((σ 0 10) + (1 : Int32)) = σa at ka ga
  have ea : σa 0 12 = σ 0 12 := ka 0 12 rfl rfl
  have hGa := rg_ds hG (ds_k ka rfl rfl) (by rw [ea]; exact rgq_0 hG.1)
  have e57a : σa 0 57 = σ 0 57 := ka 0 57 rfl rfl
  refine vars_loop (n := n) (lk := 0) (p0 := p + 1) (I := fun p g s t z => ∃ S', GMt s n p ∧ RGs kd vl n S' m lo d s ∧ MNq σa s ∧ s 0 57 = σa 0 57 ∧ TFq τ vs t z ∧ ∀ O, WSq kd n m lo d O S S' g σa s) (fun p g s t z h => ?_) (fun p p' g s s' t z h k g' => ?_) (fun p g s t z a v u ty Q h hau hvt hty ku hu hup k1 k0 => ?_) ⟨S, ga, hGa, id, rfl, tf_rf, fun O => ws_nil ds_rf rfl rfl⟩ (fun p' g s t z hev hp hI => ?_) (fun hn => kn (st_5 hd' c5 hn))
  · obtain ⟨S', h1, h2, _⟩ := h
    exact ⟨h2.1.1, h1⟩
  · obtain ⟨S', h1, h2, h3, h4, h5, h6⟩ := h
    have e : s' 0 12 = s 0 12 := k 0 12 rfl rfl
    have dd := ds_k k rfl rfl
    exact ⟨S', g', rg_ds h2 dd (by rw [e]; exact rgq_0 h2.1), fun hx => by rw [e]; exact h3 hx, (k 0 57 rfl rfl).trans h4, h5, fun O => ws_ref (h6 O) dd e (k 0 57 rfl rfl)⟩
  · obtain ⟨S', i1, i2, i3, i4, i5, i6⟩ := h
    refine es_vlocal hau hu ku hvt hty rfl (by decide) ⟨h1, by omega⟩ i2 i1 (fun s' t' z' p' S2 g' hev hp' g1 hG1 hm e57 htf hw => ?_) k0
    exact k1 p' g' s' t' z' hev hp' ⟨S2, g1, hG1, fun hx => hm (i3 hx), e57.trans i4, tf_tr i5 htf, fun O => ws_app (i6 O) (hw O) hm⟩
  · obtain ⟨S', i1, i2, i3, i4, i5, i6⟩ := hI
    refine kk s t z ⟨p', S', g, st_5 hd' c5 hev, by omega, i1, i2, fun hx => i3 (by rw [ea]; exact hx), i4.trans e57a, i5, fun O _ => ws_src (ds_k ka rfl rfl) ea e57a (i6 O)⟩
/-- a statement of a function's body, d deep; nothing wanted -/
theorem es_stmt1 {a : Int32} (ha : a.toInt = (d : Int)) (h1 : 1 ≤ d) (hd : d ≤ 26) : SWr kd vl n m lo 0 d p (ppS_statement a) := es_stmt es_vwr ha h1 hd
end VNL
