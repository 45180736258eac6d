/-! the reference: initials in { }, from { to } -/
section ESB
variable {w s r s8 s9 σ σ' σ1 τ t : St} {kd vl : Nat → Int} {n S m lo d cnt p q pc p1 : Nat} {vs z : List Nat} {loc ok : Prop} {gc : List Gsq} {a1 a2 a3 a4 a5 : Int32} {F0 : Prop} {ty : Int} {x6 x7 : Int32}
theorem ke_k {fs : List (Nat × Nat)} {cs : List Nat} (h : Kp fs cs σ σ') (s1 : fs.all (fun x => [(0, 10), (0, 12), (0, 13), (0, 17), (0, 37), (0, 39)].contains x || [8, 33, 14, 25, 21].contains x.1) = true) (s2 : cs.all (fun x => [8, 33, 14, 25, 21].contains x) = true) : KEr σ σ' := kp_sub h s1 s2
theorem br_k (h : BRb kd vl n S m lo d p loc ty σ τ vs x6 x7 s t z) (k : Kp [(0, 17)] [8] s s9) : BRb kd vl n S m lo d p loc ty σ τ vs x6 x7 s9 t z := by
  obtain ⟨pc, gc, cnt, ok, j1, j2, j3, j4, j5, j6, j7, j8, j9, j10, j11⟩ := h
  have e : s9 0 12 = s 0 12 := k 0 12 rfl rfl
  have dd := ds_k k rfl rfl
  exact ⟨pc, gc, cnt, ok, j1, gm_k j2 (k 0 10 rfl rfl), rg_ds j3 dd (by rw [e]; exact rgq_0 j3.1), fun hx => by rw [e]; exact j4 hx, kp_tr j5 (ke_k k rfl rfl), j6, j7, j8, j9, ir_ref j10 dd.1 e, j11⟩
theorem es_braces {Q : Int32 → St → St → List Nat → Prop} (k22 : kd p = 22) (h3 : a3.toInt = 0) (h5 : a5.toInt ≠ 0 ↔ loc) (hty : 0 ≤ a2.toInt) (hG : RGs kd vl n S m lo d σ) (hg : GMt σ n p)
    (kk : ∀ (v : Int32) s t z p' gc cnt ok, EVq (fun N => ITn kd N (p + 1)) (some (p', gc, cnt)) → p + 1 < p' → GMt s n p' → RGs kd vl n S m lo d s → MNq σ s → KEr σ s → TFq τ vs t z → 1 ≤ cnt → IRq kd n S m lo loc a2.toInt gc σ s cnt ok → (v = 0 ∨ v = 1) → (v.toInt ≠ 0 ↔ ok ∧ (cnt : Int) ≤ a1.toInt) → Q v s t z)
    (kn : EVq (fun N => ITn kd N (p + 1)) none → F0) : pp_braces a1 a2 a3 a4 a5 σ τ vs Q (fun _ _ _ => F0) := by
  unfold pp_braces
  have hnn := hG.1.1.1
  refine mr_expect hG.1.1 hg (c := 22) (by decide) (by decide) (fun _ s3 ks3 g3 => ?_) (fun hx => absurd k22 hx)
  have d3 := ds_k ks3 rfl rfl
  have e3 : s3 0 12 = σ 0 12 := ks3 0 12 rfl rfl
  have hG3 := rg_ds hG d3 (by rw [e3]; exact rgq_0 hG.1)
  refine ⟨fun x6 x7 s t z => BRb kd vl n S m lo d (p + 1) loc a2.toInt σ τ vs x6 x7 s t z, ⟨p + 1, [], 0, True, Nat.le_refl _, g3, hG3, fun hx => by rw [e3]; exact hx, ke_k ks3 rfl rfl, tf_rf, by rw [h3]; rfl, ⟨fun _ => trivial, fun _ => by decide⟩, Nat.zero_le _, ir_nil2 d3.1 e3, fun R h => ?_⟩, ?_⟩
  · cases R with
    | none => exact h
    | some r => exact h
  rintro x6 x7 s12 t12 z12 hx6 hb
  have hb' := hb
  obtain ⟨pc, gc, cnt, ok, i1, i2, i3, i4, i5, i6, i7, i8, i9, i10, i11⟩ := hb'
  have pcu : ∀ pc', GMt s12 n pc' → pc' = pc := fun pc' g' => by
    have h1 := g'.1
    have h2 := i2.1
    omega
  refine ⟨fun y s t z => BRa kd vl n S m lo d (p + 1) loc a2.toInt σ τ vs y x7 s t z, ?_, fun c5 => ?_, fun c5 => ?_⟩
  · rintro y s t z hy ⟨pc, gc, cnt, ok, j1, j2, j3, j4, j5, j6, j7, j8, j9, j10, j11, j12, j13⟩
    have hpn := j2.2
    have e71 : (x7 + 1).toInt = (cnt : Int) + 1 := by rw [ad1 (by omega), j7]
    refine mr_accept1 j3.1.1 j2 (c := 26) (by decide) (by decide) (fun v s1 p1 hv k1 g1 f1 f0 => ⟨fun c => ?_, fun c => ?_⟩)
    · have c26 := hv.1 c
      have e1 : s1 0 12 = s 0 12 := k1 0 12 rfl rfl
      have d1 := ds_k k1 rfl rfl
      rw [f1 c26] at g1
      exact ⟨pc + 1, gc, cnt + 1, ok, by omega, g1, rg_ds j3 d1 (by rw [e1]; exact rgq_0 j3.1), fun hx => by rw [e1]; exact j4 hx, kp_tr j5 (ke_k k1 rfl rfl), j6, by rw [e71]; rfl, j8, by omega, ir_ref j10 d1.1 e1, j11 c26⟩
    · have c26 : kd pc ≠ 26 := fun h => (hv.2 h) c
      have e1 : s1 0 12 = s 0 12 := k1 0 12 rfl rfl
      have d1 := ds_k k1 rfl rfl
      have hG1 := rg_ds j3 d1 (by rw [e1]; exact rgq_0 j3.1)
      rw [f0 c26] at g1
      refine mr_expect hG1.1.1 g1 (c := 23) (by decide) (by decide) (fun c23 s2 k2 g2 => ?_) (fun c23 => kn (j13 c23 c26))
      have e2 : s2 0 12 = s1 0 12 := k2 0 12 rfl rfl
      have d2 := ds_k k2 rfl rfl
      have fin : ∀ v : Int32, (v = 0 ∨ v = 1) → (v.toInt ≠ 0 ↔ ok ∧ ((cnt + 1 : Nat) : Int) ≤ a1.toInt) → Q v s2 t z := fun v hv1 hv2 =>
        kk v s2 t z (pc + 1) gc (cnt + 1) ok (j12 c23) (by omega) g2 (rg_ds hG1 d2 (by rw [e2]; exact rgq_0 hG1.1)) (fun hx => by rw [e2, e1]; exact j4 hx) (kp_tr j5 (kp_tr (ke_k k1 rfl rfl) (ke_k k2 rfl rfl))) j6 (by omega) (ir_ref (ir_ref j10 d1.1 e1) d2.1 e2) hv1 hv2
      rw [e71]
      refine ⟨fun cy => fin 0 (Or.inl rfl) ⟨fun h => absurd rfl h, fun h => absurd cy (j8.2 h.1)⟩, fun cy => ⟨fun cl => fin 0 (Or.inl rfl) ⟨fun h => absurd rfl h, fun h => ?_⟩, fun cl => fin 1 (Or.inr rfl) ⟨fun _ => ⟨j8.1 cy, ?_⟩, fun _ => by decide⟩⟩⟩
      · have := h.2
        omega
      · omega
  · have nl : ¬ loc := fun h => (h5.2 h) c5
    refine ⟨fun _ => True, fun y2 _ => ?_, fun _ _ => trivial, fun _ => trivial⟩
    refine es_oneg rfl i3 i2 (fun v s t z p' l s8 K T H Z F X hev hp g9 hG9 hm h57 htf hact hr hvr hex k8 hv1 hv2 => ?_) (fun hn => kn (i11 none (ev_up (ev_b0 hn))))
    have fim : v.toInt ≠ 0 ↔ FIm loc a2.toInt T Z F := hv2.trans ⟨fun h => Or.inr ⟨nl, h⟩, fun h => h.elim (fun h => absurd h.1 nl) (fun h => h.2)⟩
    refine ⟨fun y => y.toInt ≠ 0 ↔ x6.toInt ≠ 0 ∧ FIm loc a2.toInt T Z F, fun y _ hj => br_item hb (fun pc' g' => by rw [pcu pc' g']; exact ⟨hev, hp⟩) g9 hG9 hm (kp_tr hr (ke_k k8 rfl rfl)) htf hact hvr hex k8 hty hj, x6.toInt = 0 ∨ v.toInt = 0, fun hj => ⟨fun h => absurd rfl h, fun h => hj.elim (fun c => absurd c h.1) (fun c => absurd c (fim.2 h.2))⟩, fun c => Or.inl c, fun c => ⟨fun c2 => Or.inr c2, fun c2 => ⟨fun _ => ⟨c, fim.1 c2⟩, fun _ => by decide⟩⟩⟩
  · have hl : loc := h5.1 c5
    refine ⟨fun s t z => t = t12 ∧ z = z12 ∧ Kp [(0, 17)] [8] s12 s, ?_, fun _ => ⟨rfl, rfl, kp_rf⟩, fun _ => mr_put1 (fun s1 k1 => mr_put1 (fun s2 k2 => mr_put2 (fun s3 k3 => ⟨rfl, rfl, kp_tr k1 (kp_tr k2 k3)⟩)))⟩
    rintro s45 t45 z45 ⟨et, ez, k45⟩
    rw [et, ez]
    have hbk := br_k hb k45
    have i245 : GMt s45 n pc := gm_k i2 (k45 0 10 rfl rfl)
    have i345 : RGs kd vl n S m lo d s45 := rg_ds i3 (ds_k k45 rfl rfl) (by rw [k45 0 12 rfl rfl]; exact rgq_0 i3.1)
    refine es_one (by decide) i345 i245 (fun v s t z p' l s8 K T H Z F X hev hp g9 hG9 hm h57 htf hact hr hvr hex k8 hv1 hv2 => ?_) (fun hn => kn (i11 none (ev_up (ev_b0 hn))))
    have fim : v.toInt ≠ 0 ↔ FIm loc a2.toInt T Z F := by
      constructor
      · intro h
        exact Or.inl ⟨hl, hv2.1 (hv1.elim (fun e => absurd e h) id)⟩
      · intro h
        have := hv2.2 (h.elim (fun h => h.2) (fun h => absurd hl h.1))
        omega
    refine ⟨fun y => y.toInt ≠ 0 ↔ x6.toInt ≠ 0 ∧ FIm loc a2.toInt T Z F, fun y _ hj => ⟨fun s' t' z' => t' = t ∧ z' = z ∧ Kp [(0, 17)] [8] s s', ?_, fun _ => ⟨rfl, rfl, kp_rf⟩, fun _ => mr_put1 (fun s1 k1 => mr_put0 (fun s2 k2 => ⟨rfl, rfl, kp_tr k1 k2⟩))⟩, x6.toInt = 0 ∨ v.toInt = 0, fun hj => ⟨fun h => absurd rfl h, fun h => hj.elim (fun c => absurd c h.1) (fun c => absurd c (fim.2 h.2))⟩, fun c => Or.inl c, fun c => ⟨fun c2 => Or.inr c2, fun c2 => ⟨fun _ => ⟨c, fim.1 c2⟩, fun _ => by decide⟩⟩⟩
    rintro s90 t90 z90 ⟨et9, ez9, k90⟩
    rw [et9, ez9]
    have e90 : s90 0 12 = s 0 12 := k90 0 12 rfl rfl
    have k89 : Kp [(0, 17)] [8] s8 s90 := kp_tr k8 k90
    exact br_item hbk (fun pc' g' => by rw [pcu pc' (gm_k g' (by rw [k45 0 10 rfl rfl]))]; exact ⟨hev, hp⟩) (gm_k g9 (k90 0 10 rfl rfl)) (rg_ds hG9 (ds_k k90 rfl rfl) (by rw [e90]; exact rgq_0 hG9.1)) (fun hx => by rw [e90]; exact hm hx) (kp_tr hr (ke_k k89 rfl rfl)) htf hact hvr hex (kp_sub k89 rfl rfl) hty hj
end ESB
