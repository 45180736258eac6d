/-! the reference's expressions: unary -/
section RUO
variable {σ σ1 s s2 τ t : St} {kd : Nat → Int} {n S m lo d p u q : Nat} {vs z : List Nat} {a b : Int32} {K T H Z F I : Int} {X : Int32} {B : Prop}
theorem rk_iff4 : ∀ a : Nat, a < 63 → (rkI (a : Int) - 32 = 42 ↔ a = 60) ∧ (rkI (a : Int) - 32 = 20 ↔ a = 20) ∧ (rkI (a : Int) = 5 ↔ a = 5) := by decide
theorem rk_iff5 {k : Int} (hr : 0 ≤ k ∧ k ≤ 62) : (rkI k - 32 = 42 ↔ k = 60) ∧ (rkI k - 32 = 20 ↔ k = 20) ∧ (rkI k = 5 ↔ k = 5) := by
  have hi := rk_iff4 k.toNat (by omega)
  rw [show ((k.toNat : Nat) : Int) = k from by omega] at hi
  omega
/-- what stands behind a sign, and the sign -/
theorem er_sign {v6 : Int32} {Q : Nat → St → St → List Nat → Prop} (hp : p ≤ n) (hn : n ≤ 16000) (hd : d < 25) (hun : UNq (kd p)) (hk62 : 0 ≤ kd p ∧ kd p ≤ 62) (hv : v6.toInt = rkI (kd p) - 32) (k0 : Kp [(0, 10)] [] σ σ1) (he : EPq kd n S m lo 2 (d + 1) 0 (p + 1) σ1 τ vs u s t z) (hk : ∀ q s2 t2 z2, EPq kd n S m lo 2 d 0 p σ τ vs q s2 t2 z2 → Q q s2 t2 z2) :
    (v6.toInt ≠ 33 → (∃ J103 : Prop, (J103 → (pp_stepped u v6 (0 : Int32) b s t z (fun u109 s109 t109 z109 => Q u109 s109 t109 z109))) ∧ ((v6.toInt = 18 → (J103)) ∧ (v6.toInt ≠ 18 → ((v6.toInt ≠ 19 → (pp_read_1 u s t z (fun s116 t116 z116 => (v6.toInt ≠ 38 → (pp_one_2 v6 u b s116 t116 z116 (fun u140 s140 t140 z140 => Q u140 s140 t140 z140))) ∧ (v6.toInt = 38 → (pp_pointedTo u b s116 t116 z116 (fun u129 s129 t129 z129 => Q u129 s129 t129 z129)))))) ∧ (v6.toInt = 19 → (J103))))))) ∧ (v6.toInt = 33 → (pp_pointed u b s t z (fun u87 s87 t87 z87 => Q u87 s87 t87 z87))) := by
  obtain ⟨i41, i37, i33, i38, i18, i19⟩ := rk_iff3 (sg := kd p) hk62 hv
  obtain ⟨p', l, h1, h2, h3, h4, h5, h6, h7, h8, h9, K, T, H, Z, F, I, X, g1, g2, g3, g4⟩ := he
  have hp' := h3.2
  have hH : 0 ≤ H ∧ H ≤ 20000 := by have := g2.2.2.1; omega
  have h0 : 0 ≤ (s 0 12).toInt := h6.2.2.2.2.2.2.2.2.2.2.2
  have vK := g2.1
  have vT := g2.2.1
  have vF1 := g2.2.2.2.2.1
  have vKT := g2.2.2.2.2.2.2.2
  have h2p : 2 ≤ kd p := by unfold UNq at hun; omega
  have fin := fun {B : Prop} {K3 T3 F3 : Int} {X3 : Int32} {q : Nat} {s2 t2 : St} => ep_un (σ := σ) (τ := τ) (vs := vs) (B := B) (K3 := K3) (T3 := T3) (F3 := F3) (X3 := X3) (q := q) (s2 := s2) (t2 := t2) (I := 0) hp h2p hd hun k0 h1 h2 h3 h4 h5 h6 h7 h9 g2 g3 g4
  refine ⟨fun c33 => ⟨kd p = 61 ∨ kd p = 62, fun hj => ?_, fun c => Or.inl (i18.1 c), fun c18 => ⟨fun c19 => ?_, fun c => Or.inr (i19.1 c)⟩⟩, fun c33 => ?_⟩
  · refine mr_stepped h0 g1 h8 hH (fun q s2 t2 T' hq ks tf mv t1 t2' f3 => hk q s2 t2 _ (fin (kpr_x ks) (ks 0 10 rfl rfl) f3 hq (tf_new h7 tf) mv ?_ (fun hx => absurd hx (by decide)) (fun hT => ?_)))
    · refine ⟨by omega, ?_, by omega, fun hx => absurd rfl hx, fun hx => absurd hx (by decide), fun hx => absurd hx (by decide), by omega, fun hx => by omega⟩
      by_cases c : K = 0 ∨ T < 0
      · rw [t1 c]; omega
      · rw [t2' c]; exact vT
    · have e61 : uyB (kd p) K T ↔ ¬ (1 ≤ K ∧ K ≤ 3) := by unfold uyB; rw [if_pos hj]
      rw [e61]
      refine ⟨⟨fun hx => by omega, fun hx => by omega⟩, fun hx _ => ?_⟩
      have := t2' hx
      refine ⟨by omega, ?_, ?_, ?_, fun hy => absurd hy (by decide)⟩
      · unfold uyK; rw [if_neg (by omega)]
      · unfold uyT; rw [if_pos hj]; exact this
      · unfold uyF; rw [if_neg (by omega), if_neg (by omega)]
  · refine mr_read g1 (fun _ sr tr kr hne g1' => ?_)
    have tfr : TFq τ vs tr z := ⟨h7.1, fun w hw m => by
      rw [hne w (fun e => h9 (by rw [← e]; exact hw)) m]
      exact h7.2 w hw m⟩
    have h0r : 0 ≤ (sr 0 12).toInt := by rw [kr 0 12 rfl rfl]; exact h0
    have no48 : kd p ≠ 48 := fun e => c33 (i33.2 e)
    have no61 : kd p ≠ 61 := fun e => c18 (i18.2 e)
    have no62 : kd p ≠ 62 := fun e => c19 (i19.2 e)
    refine ⟨fun c38 => ?_, fun c38 => ?_⟩
    · have no45 : kd p ≠ 45 := fun e => c38 (i38.2 e)
      have hr : kd p = 44 ∨ kd p = 59 ∨ kd p = 60 := by unfold UNq at hun; omega
      refine mr_one (sg := kd p) h0r g1' h8 hr hv vF1 hH (fun q s2 t2 F' X' hq ks tf mv f01 f1 f3 f60 => hk q s2 t2 _ (fin (kpr_tr (kpr_x (kw_x kr)) (kpr_x ks)) ((ks 0 10 rfl rfl).trans (kr 0 10 rfl rfl)) (ft_from (kr 0 12 rfl rfl) (kr 0 15 rfl rfl) f3) hq (tf_new tfr tf) mv ?_ (fun hx => ?_) (fun hT => ?_)))
      · exact ⟨by omega, by omega, by omega, fun hx => absurd rfl hx, fun _ => rfl, fun hx => by omega, by omega, fun hx => by omega⟩
      · obtain ⟨y1, y2⟩ := f1 hx
        refine ⟨y1, ?_, y2⟩
        have := vF1 y1
        unfold onB
        split <;> omega
      · have e59 : onB (kd p) T ↔ uyB (kd p) K T := by
          have eu : uyB (kd p) K T ↔ ivB (kd p) T := by unfold uyB; rw [if_neg (by omega), if_neg no48, if_neg no45]
          rw [eu]
          unfold onB ivB
          split <;> omega
        refine ⟨e59, fun hx hh => ?_⟩
        obtain ⟨y1, y2⟩ := f60 hh
        refine ⟨by decide, ?_, ?_, ?_, y2⟩
        · unfold uyK; rw [if_neg no45]
        · unfold uyT; rw [if_neg (by omega), if_neg no48, if_neg no45]
        · unfold uyF; rw [if_neg no48, if_pos (by omega)]; exact y1
    · have k45 := i38.1 c38
      refine mr_pointedTo h0r g1' h8 vT hH (fun q s2 t2 hq ks tf mv f3 => hk q s2 t2 _ (fin (kpr_tr (kpr_x (kw_x kr)) (kpr_x ks)) ((ks 0 10 rfl rfl).trans (kr 0 10 rfl rfl)) (ft_from (kr 0 12 rfl rfl) (kr 0 15 rfl rfl) f3) hq (tf_new tfr tf) mv ?_ (fun hx => absurd hx (by decide)) (fun hT => ?_)))
      · refine ⟨by omega, ?_, by omega, fun hx => absurd rfl hx, fun hx => absurd hx (by decide), fun hx => absurd hx (by decide), by omega, fun _ => ?_⟩
        · split <;> omega
        · split <;> omega
      · have e45 : uyB (kd p) K T ↔ T < 1 := by
          unfold uyB
          rw [if_neg (by omega), if_neg (by omega), if_pos k45]
        rw [e45]
        refine ⟨Iff.rfl, fun hx hh => ⟨?_, ?_, ?_, ?_, fun hy => absurd hy (by decide)⟩⟩
        · split <;> omega
        · unfold uyK; rw [if_pos k45]
        · unfold uyT; rw [if_pos (show 0 < T by omega), if_neg (by omega), if_neg (by omega), if_pos k45]
        · unfold uyF; rw [if_neg (by omega), if_neg (by omega)]
  · have k48 := i33.1 c33
    refine mr_pointed h0 g1 h8 vK vT hH (fun q s2 t2 T' F' hq ks tf mv t1 t2' f' f3 => hk q s2 t2 _ (fin (kpr_x ks) (ks 0 10 rfl rfl) f3 hq (tf_new h7 tf) mv ?_ (fun hx => ?_) (fun hT => ?_)))
    · refine ⟨by omega, ?_, by omega, fun hx => absurd rfl hx, fun hx => ?_, fun hx => ?_, ?_, fun hx => by omega⟩
      · by_cases c : ptB K T
        · rw [t1 c]; omega
        · rw [t2' c]; unfold ptB at c; omega
      · rw [f'] at hx; split at hx <;> omega
      · by_cases c : ptB K T
        · exact Or.inr (t1 c)
        · have := t2' c
          unfold ptB at c
          exact Or.inl (by omega)
      · rw [f']; split <;> omega
    · rw [f'] at hx; split at hx <;> omega
    · have e48 : uyB (kd p) K T ↔ ¬ (1 ≤ K ∧ K ≤ 3) ∨ 9 ≤ T := by unfold uyB; rw [if_neg (by omega), if_pos k48]
      rw [e48]
      unfold ptB at t1 t2' ⊢
      refine ⟨⟨fun hx => by omega, fun hx => by omega⟩, fun hx hh => ?_⟩
      have := t2' hx
      refine ⟨by omega, ?_, ?_, ?_, fun hy => ?_⟩
      · unfold uyK; rw [if_neg (by omega)]
      · unfold uyT; rw [if_neg (by omega), if_pos k48]; exact this
      · unfold uyF
        rw [if_pos k48, f']
        by_cases c : K = 2
        · rw [if_pos ⟨c, hh⟩, if_pos c]
        · rw [if_neg (fun hy => c hy.1), if_neg c]
      · rw [f'] at hy; split at hy <;> omega
end RUO
