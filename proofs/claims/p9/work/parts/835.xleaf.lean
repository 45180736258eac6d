/-! steps of an expression: numbers -/
section XLF
variable {σ s t : St} {g g' : Gh} {CP CP' : Int → Nat → Prop} {X0 X Xs : Nat → Prop} {b e0 H0 L e H H' n q s0 Hs : Nat} {A B S : List It} {it : It} {x y : Int32}
theorem em_words {op a b c : Int32} (h : EMi σ s op a b c) : ∀ j, j < clen σ → (s 24) j = (σ 24) j := h.2.2.1
theorem em_clen {op a b c : Int32} {n : Nat} (h : EMi σ s op a b c) (hn : op.toInt = n) (h0 : 0 ≤ (σ 4 1).toInt) : clen s = clen σ + ln n := by
  have e := h.2.1
  have en : op.toInt.toNat = n := by omega
  rw [en] at e
  have e1 := clen_eq h0
  have e2 := clen_eq (σ := s) (by omega)
  omega
/-- an operand is made, its code put behind all -/
theorem xr_leaf {op a1 a2 a3 : Int32} {m c : Nat} {s1 : St} (h : XC σ g X0 b e0 H0 L A) (hf : (s 6 3).toInt = 0 → (σ 6 3).toInt = 0) (hA : A.length < 500)
    (k1 : KXE σ s1) (mk : MKs σ s1) (l1 : LOW A.length σ s1) (w1 : (s1 24) = (σ 24)) (c1 : (s1 4 1) = (σ 4 1)) (cn1 : (s1 7 7).toInt = A.length + 1) (st1 : (s1 (65 + A.length) 9) = (σ 4 1)) (ht1 : (s1 (65 + A.length) 2).toInt = 1) (kd1 : KDq s1 (65 + A.length) = 0) (f6 : (s1 (65 + A.length) 6).toInt = 1 → 2 ≤ ln m)
    (em : EMi s1 s op a1 a2 a3) (hm : op.toInt = m) (m0 : 1 ≤ m ∧ m ≤ 25) (mp : po m = 0) (md : de m = 1) (mc : ln m ≤ c) (fu : (s 6 3) = (s1 6 3)) : XRs σ s g X0 b e0 H0 L A (iV :: A) c := by
  obtain ⟨h1, h2, h3, H, X, h4⟩ := h
  have hT := rlx_typ A _ H X h4
  have cl1 : clen s1 = clen σ := by unfold clen; rw [c1]
  have h31 : 0 ≤ (s1 4 1).toInt := by rw [c1]; exact h3
  have kem : KXE s1 s := ko_sub (ko_kp em.1) rfl rfl
  have ec := em_clen em hm h31
  have en := clen_eq h3
  have en1 := clen_eq h31
  have ce : ∀ j k, j ≠ 4 → j ≠ 24 → s j k = s1 j k := em_cells em
  have fl : (s 25) = (s1 25) := funext (fun j => ce 25 j (by decide) (by decide))
  have ct : (s 39) = (s1 39) := funext (fun j => ce 39 j (by decide) (by decide))
  have mk2 : MKs σ s := mks_tr mk (mks_eq fl ct)
  have k2 : KXE σ s := ko_tr k1 kem
  have ws : ∀ j, j < clen σ → (s 24) j = (σ 24) j := fun j hj => (em.2.2.1 j (by rw [cl1]; exact hj)).trans (by rw [w1])
  have lm : (s 4 1).toInt = (σ 4 1).toInt + ln m := by
    have e := em.2.1
    have en : op.toInt.toNat = m := by omega
    rw [en, c1] at e
    exact e
  have l4 : ∀ m, m < 61 → ln m ≤ 4 := by decide
  have l5 := l4 m (by omega)
  refine ⟨k2, mk2, fun j hj => ws j (by have := hT.2; omega), by have := hT.2; omega, hf, by omega, fun hf0 => ?_⟩
  have hlow : LOW A.length σ s := fun j k hj => by rw [ce _ k (by omega) (by omega)]; exact l1 j k hj
  have op0 : (s 24) (clen σ) = op := by rw [← cl1]; exact em.2.2.2.1
  obtain ⟨g', T', ag, gi⟩ := typ_pl (w' := (s 24)) (n := m) (H' := H + 1) (typ_mono (g' := g) (CP' := CPu s) (fun q _ => rfl) agr_rf (cpu_mono k2 mk2) (fun _ z => z) hT.1) (fun q hq => ws q hq) (by rw [op0]; exact hm) m0.1 (by omega) (Or.inl m0.2) (by omega) (by rw [md]; omega)
  have ecs : clen s = clen σ + ln m := by omega
  have hR : RLx s g' (CPu s) X0 b e0 H0 L A (clen σ) H X := rlx_mono (cpu_mono k2 mk2) (funext (fun j => k2 27 j (op_lt (by decide)) rfl rfl)) A _ H X ws ag hlow (Or.inl h2) h4
  refine ⟨g', agr_le ag hT.2, ⟨?_, nc_of (by decide), by omega, H + 1, X, ?_⟩, ?_⟩
  · have : (s 7 7).toInt = (s1 7 7).toInt := by rw [ce 7 7 (by decide) (by decide)]
    rw [this, cn1]
    show _ = ((A.length + 1 : Nat) : Int)
    omega
  · rw [ecs]
    have kd : KDq s (65 + A.length) = 0 := by
      unfold KDq
      rw [ce _ 0 (by omega) (by omega)]
      exact kd1
    have htx : (s (65 + A.length) 2).toInt = 1 := by rw [ce _ 2 (by omega) (by omega)]; exact ht1
    refine rlx_V h2 hR (Nat.le_add_right _ _) (by rw [ce _ 9 (by omega) (by omega), st1, en]) T' ⟨by omega, fun z => by omega, fun _ => rfl, ⟨⟨by omega, by omega⟩, ?_⟩, fun z => ⟨kd, ?_⟩⟩
    · have eh : HT s (65 + A.length) = 1 := by unfold HT; rw [htx]; rfl
      rw [eh]
      have hg : g (clen σ) = some (H, L) := hT.1.2.1
      exact bnd_ext (bnd_one (L := L) hg (by omega)) ag gi T'.2.1 (by omega)
    · rw [ce _ 6 (by omega) (by omega)] at z
      have := f6 z
      omega
  · have pk : plc s (iV :: A) = plc s A := plc_0 (Or.inl (by
      unfold KDq
      rw [ce _ 0 (by omega) (by omega)]
      exact kd1))
    rw [pk, plc_low A hlow]
    omega
end XLF
