/-! the grammar: stretches of steps -/
abbrev RZs : Type := Zs → Zs → Prop
def GRz (σ s : St) (R : RZs) (u w v : Int) : Prop :=
  KG σ s ∧ GA s ∧ ((s 3 3).toInt < 0 → (σ 3 3).toInt < 0 ∧ (∀ j : Nat, (j : Int) < (σ 3 4).toInt → SameZ σ s j) ∧ ∃ n : Nat, (s 3 4).toInt = (σ 3 4).toInt + n ∧ (n : Int) ≤ 2 * (pl s - pl σ) + u ∧ (csum s n (cn σ) : Int) ≤ 4 * (pl s - pl σ) + w ∧ (nsum s n (cn σ) : Int) ≤ (pl s - pl σ) + v ∧ pl σ ≤ pl s ∧ ∀ z z', R z z' → ∃ m, RZ s m (cn σ) (cn σ + n) z z')
def rId (P : Zs → Prop) : RZs := fun z z' => P z ∧ z' = z
section GRZ
variable {σ s t : St} {R R' R'' : RZs} {u w v : Int}
theorem grz_bad (k : KG σ s) (g : GA s) (h : 0 ≤ (s 3 3).toInt) : GRz σ s R u w v := ⟨k, g, fun hw => absurd hw (by omega)⟩
theorem grz_rf {P : Zs → Prop} (g : GA σ) : GRz σ σ (rId P) 0 0 0 := ⟨kp_rf, g, fun hw => ⟨hw, fun _ _ => ⟨⟨rfl, rfl⟩, rfl, fun _ => rfl⟩, 0, by omega, by omega, by show ((0 : Nat) : Int) ≤ _; omega, by show ((0 : Nat) : Int) ≤ _; omega, Int.le_refl _, fun z z' h => ⟨0, rfl, h.2.symm⟩⟩⟩
theorem grz_wk {u' w' v' : Int} (h : GRz σ s R u w v) (hR : ∀ z z', R' z z' → R z z') (hu : u ≤ u') (hw : w ≤ w') (hv : v ≤ v') : GRz σ s R' u' w' v' := ⟨h.1, h.2.1, fun c => by
  obtain ⟨h1, h2, n, h3, h4, h5, h6, h7, h8⟩ := h.2.2 c
  exact ⟨h1, h2, n, h3, by omega, by omega, by omega, h7, fun z z' q => h8 z z' (hR z z' q)⟩⟩
theorem grz_tr {u' w' v' : Int} (g : GA σ) (h : GRz σ s R u w v) (h2 : GRz s t R' u' w' v') (hR : ∀ z z'', R'' z z'' → ∃ z', R z z' ∧ R' z' z'') : GRz σ t R'' (u + u') (w + w') (v + v') := ⟨kp_tr h.1 h2.1, h2.2.1, fun hw => by
  obtain ⟨b1, b2, m, b3, b4, b5, b6, b7, b8⟩ := h2.2.2 hw
  obtain ⟨a1, a2, n, a3, a4, a5, a6, a7, a8⟩ := h.2.2 b1
  have c0 := (g.1 a1).2.2
  have e0 := cn_eq c0
  have e1 : (cn s : Int) = (s 3 4).toInt := cn_eq (by omega)
  have ec : cn s = cn σ + n := by omega
  have hk : (t 13) = (s 13) := funext (fun j => h2.1 13 j rfl rfl)
  have hv : (t 14) = (s 14) := funext (fun j => h2.1 14 j rfl rfl)
  have sm : ∀ j, cn σ ≤ j → j < cn σ + n → SameZ s t j := fun j h1 h2 => b2 j (by omega)
  refine ⟨a1, fun j hj => ?_, n + m, by omega, by omega, ?_, ?_, by omega, fun z z'' q => ?_⟩
  · obtain ⟨x1, x2, x3⟩ := a2 j hj
    obtain ⟨y1, y2, y3⟩ := b2 j (by omega)
    exact ⟨⟨y1.1.trans x1.1, y1.2.trans x1.2⟩, y2.trans x2, fun c => (y3 (by rw [act_same x1]; exact c)).trans (x3 c)⟩
  · rw [csum_app, csum_same hv n _ (fun j h1 h2 => (sm j h1 h2).1), ← ec]
    omega
  · rw [nsum_app, nsum_same hv n _ (fun j h1 h2 => (sm j h1 h2).1), ← ec]
    omega
  · obtain ⟨z', q1, q2⟩ := hR z z'' q
    obtain ⟨m1, r1⟩ := a8 z z' q1
    obtain ⟨m2, r2⟩ := b8 z' z'' q2
    rw [ec] at r2
    refine ⟨m1 + m2, ?_⟩
    rw [← Nat.add_assoc]
    exact rz_app m1 m2 _ _ _ _ _ _ (by omega) (rz_same hk m1 _ _ _ _ sm r1) r2⟩
theorem grz_x {l : Nat} {a b : List It} (h : GRx σ s l a b u w) : GRz σ s (fun z z' => ∃ F K, z = (F, K, a) ∧ z' = (F, K, b)) u w 0 := ⟨h.1, h.2.1, fun c => by
  obtain ⟨h1, h2, n, h3, h4, h5, h6, h7⟩ := h.2.2 c
  have h8 := h7 [] (Nat.zero_le _)
  rw [List.append_nil, List.append_nil] at h8
  refine ⟨h1, fun j hj => ⟨(h2 j hj).1, (h2 j hj).2.1, fun _ => (h2 j hj).2.2⟩, n, h3, h4, h5, by rw [nsum_xr n _ _ _ h8]; show (0 : Int) ≤ _; omega, h6, ?_⟩
  rintro z z' ⟨F, K, rfl, rfl⟩
  exact ⟨n, xr_rz n _ a b F K h8⟩⟩
theorem cb_grz {c : Int} (g : CBd σ c) (h : GRz σ s R u w v) {c' : Int} (hu : c + u ≤ c') : CBd s c' := fun hw => by
  obtain ⟨h1, h2, n, h3, h4, h5, h6, h7, h8⟩ := h.2.2 hw
  have := g h1
  omega
/-- tokens alone -/
theorem adv_z {P : Zs → Prop} (h : ADV σ s) : GRz σ s (rId P) (-2) (-4) (-1) := by
  have r := adv_g (l := 0) (a := []) h
  refine ⟨r.1, r.2.1, fun c => ?_⟩
  obtain ⟨h1, h2, n, h3, h4, h5, h6, h7⟩ := r.2.2 c
  have n0 : n = 0 := by
    have := h.2.2.1
    rw [this] at h3
    omega
  subst n0
  refine ⟨h1, fun j hj => ⟨(h2 j hj).1, (h2 j hj).2.1, fun _ => (h2 j hj).2.2⟩, 0, h3, h4, h5, ?_, h6, fun z z' q => ⟨0, rfl, q.2.symm⟩⟩
  show ((0 : Nat) : Int) ≤ _
  omega
theorem nil_z {P : Zs → Prop} (h : ∀ l a, GRx σ s l a a 0 0) (hc : (s 3 3).toInt < 0 → (s 3 4) = (σ 3 4)) : GRz σ s (rId P) 0 0 0 := by
  have r := h 0 []
  refine ⟨r.1, r.2.1, fun c => ?_⟩
  obtain ⟨h1, h2, n, h3, h4, h5, h6, h7⟩ := r.2.2 c
  have n0 : n = 0 := by
    have := hc c
    rw [this] at h3
    omega
  subst n0
  refine ⟨h1, fun j hj => ⟨(h2 j hj).1, (h2 j hj).2.1, fun _ => (h2 j hj).2.2⟩, 0, h3, h4, h5, ?_, h6, fun z z' q => ⟨0, rfl, q.2.symm⟩⟩
  show ((0 : Nat) : Int) ≤ _
  omega
/-- a name, a string -/
theorem adv_more (tk : TKc σ) (g : GA σ) (h : ADV σ s) : ((σ 3 2).toInt = 2 → 1 ≤ vlx σ (σ 3 1) ∧ pl σ + vlx σ (σ 3 1) ≤ pl s) ∧ ((σ 3 2).toInt = 4 → 0 ≤ vlx σ (σ 3 1) ∧ vlx σ (σ 3 1) ≤ 200 ∧ pl σ + vlx σ (σ 3 1) + 2 ≤ pl s) := by
  have hw := h.2.2.2.2.2
  obtain ⟨⟨p1, p2⟩, p3, p4⟩ := g.1 hw
  have en : (ps σ : Int) = (σ 3 1).toInt := nt p1
  have r := adv_g (l := 0) (a := []) h
  have e15 : (s 15) = (σ 15) := funext (fun j => r.1 15 j rfl rfl)
  have ep : ps s = ps σ + 1 := by
    unfold ps
    rw [h.1, nt', ad1 (by have := tk.1.2; omega)]
    unfold ps at en
    omega
  have es : pl s = ((σ 15) (ps σ + 1)).toInt := by unfold pl; rw [ep, e15]
  have ev : vlx σ (σ 3 1) = ((σ 14) (ps σ)).toInt := by
    unfold vlx
    rw [atv_at (j := ps σ) en.symm (by have := tk.1.2; omega)]
  have ek : (σ 3 2).toInt = ((σ 13) (ps σ)).toInt := by rw [p3]
  rw [es, ev, ek]
  refine ⟨fun c => ?_, fun c => ?_⟩
  · have := (tk.2.2 (ps σ) (by omega) (by omega)).2.2.1 c
    unfold pl
    omega
  · have := (tk.2.2 (ps σ) (by omega) (by omega)).2.2.2 c
    unfold pl
    omega
/-- the words of a step that is none of an expression -/
def cz (a : Int) : Int := (([0, 2, 3, 2, 0, 0, 3, 2, 2, 2, 3, 2, 0, 2, 2, 2, 0, 0, 0, 0, 0, 0, 1, 2, 2, 0, 0, 4, 2, 2, 0, 2, 0, 4, 4, 2, 2, 2, 3, 0, 0, 0, 0, 5, 3, 0, 3, 4, 0, 3] : List Nat).getD a.toNat 0 : Nat)
theorem add_z {a1 a2 a3 a4 : Int32} (h : ADD σ s a1 a2 a3 a4) (g : GA σ) (hd : (σ 3 3).toInt < 0 → ∀ z z', R z z' → dz a1.toInt a3 a4 z z') (hc : cz a1.toInt ≤ w) (h17 : a1.toInt ≠ 45) (hv : 0 ≤ v) (hn : a1.toInt = 43 ∨ a1.toInt = 47 → VN σ a2 v) : GRz σ s R 1 w v := ⟨h.1, h.2.1, fun hw => by
  have ep := add_pl h
  have e14 : (s 14) = (σ 14) := funext (fun j => h.1 14 j rfl rfl)
  have e13 : (s 13) = (σ 13) := funext (fun j => h.1 13 j rfl rfl)
  obtain ⟨h1, h2, h3, h4, h5, h6, h7⟩ := h
  have hw' : (σ 3 3).toInt < 0 := by rw [← h4]; exact hw
  obtain ⟨c1, c2, c3, c4, c5, c6⟩ := h7 hw'
  have p4 := (g.1 hw').2.2
  have ec := cn_eq p4
  refine ⟨hw', fun j hj => ?_, 1, by omega, by omega, ?_, ?_, by omega, fun z z' q => ⟨1, cn σ + 1, z', Or.inr (Or.inl ⟨rfl, ?_, fun c => ?_⟩), Nat.le_refl _, rfl, rfl⟩⟩
  · obtain ⟨x1, x2, x3⟩ := c6 j (by omega)
    exact ⟨x1, x2, fun _ => x3⟩
  · show ((cst s (cn σ) + 0 : Nat) : Int) ≤ _
    unfold cst
    rw [c2, if_neg h17]
    unfold cz at hc
    omega
  · show ((nst s (cn σ) + 0 : Nat) : Int) ≤ _
    unfold nst
    rw [c2, c3]
    split
    · rename_i c
      have := (hn c).1
      unfold vlx at this ⊢
      rw [e14]
      omega
    · show (0 : Int) ≤ _
      omega
  · rw [c2, c4, c5]
    exact hd hw' z z' q
  · rw [c2] at c
    have q2 := (hn c).2
    unfold tkx at q2 ⊢
    rw [c3, e13]
    exact q2⟩
theorem grz_k (h : GRz σ s R u w v) (k : Kp [(3, 9)] [22, 23] s t) : GRz σ t R u w v := by
  have e1 : (t 3 1) = (s 3 1) := k 3 1 rfl rfl
  have e2 : (t 3 2) = (s 3 2) := k 3 2 rfl rfl
  have e3 : (t 3 3) = (s 3 3) := k 3 3 rfl rfl
  have e4 : (t 3 4) = (s 3 4) := k 3 4 rfl rfl
  have e13 : (t 13) = (s 13) := funext (fun j => k 13 j rfl rfl)
  have e14 : (t 14) = (s 14) := funext (fun j => k 14 j rfl rfl)
  have e15 : (t 15) = (s 15) := funext (fun j => k 15 j rfl rfl)
  have e5 : (t 2 4) = (s 2 4) := k 2 4 rfl rfl
  have sm : ∀ j, SameZ s t j := fun j => ⟨⟨k 18 j rfl rfl, k 19 j rfl rfl⟩, k 20 j rfl rfl, fun _ => k 21 j rfl rfl⟩
  have ep : pl t = pl s := by unfold pl ps; rw [e1, e15]
  obtain ⟨h1, h2, h3⟩ := h
  refine ⟨kp_tr h1 (kp_sub k rfl rfl), ?_, fun hw => ?_⟩
  · unfold GA ps
    rw [e1, e2, e3, e4, e5, e13]
    exact h2
  · rw [e3] at hw
    obtain ⟨a1, a2, n, a3, a4, a5, a6, a7, a8⟩ := h3 hw
    refine ⟨a1, fun j hj => ?_, n, by rw [e4]; exact a3, by rw [ep]; exact a4, by rw [ep, csum_same e14 n _ (fun j _ _ => (sm j).1)]; exact a5, by rw [ep, nsum_same e14 n _ (fun j _ _ => (sm j).1)]; exact a6, by rw [ep]; exact a7, fun z z' q => ?_⟩
    · obtain ⟨b1, b2, b3⟩ := a2 j hj
      exact ⟨⟨(sm j).1.1.trans b1.1, (sm j).1.2.trans b1.2⟩, (sm j).2.1.trans b2, fun c => (k 21 j rfl rfl).trans (b3 c)⟩
    · obtain ⟨m, q2⟩ := a8 z z' q
      exact ⟨m, rz_same e13 m _ _ _ _ (fun j _ _ => sm j) q2⟩
/-- seconds at a bracket are told later -/
theorem grz_42 {x y : Int32} {f : Nat → Int32} (h : GRz σ s R u w v) (hf : f = setv 32100 (s 21) x y) (hx : (s 3 3).toInt < 0 → x.toInt < 0 ∨ ∃ j : Nat, x.toInt = j ∧ act s j = 42) : GRz σ (upF s 21 f) R u w v := by
  have hsec : ∀ j, act s j ≠ 42 → (s 3 3).toInt < 0 → f j = (s 21) j := fun j hj hw => by
    rw [hf]
    rcases setv_cases 32100 (s 21) x y with ⟨e, -⟩ | ⟨i, e1, e2, e3⟩
    · rw [e]
    · rw [e3]
      show (if j = i then y else _) = _
      rw [if_neg]
      intro e
      subst e
      rcases hx hw with q | ⟨i2, q1, q2⟩
      · omega
      · have : i2 = j := by omega
        subst this
        exact hj q2
  have sm : (s 3 3).toInt < 0 → ∀ j, SameZ s (upF s 21 f) j := fun hw j => ⟨⟨rfl, rfl⟩, rfl, fun c => hsec j c hw⟩
  obtain ⟨h1, h2, h3⟩ := h
  refine ⟨kp_F h1 rfl, h2, fun hw => ?_⟩
  have hw' : (s 3 3).toInt < 0 := hw
  obtain ⟨a1, a2, n, a3, a4, a5, a6, a7, a8⟩ := h3 hw'
  have ep : pl (upF s 21 f) = pl s := rfl
  refine ⟨a1, fun j hj => ?_, n, a3, by rw [ep]; exact a4, by rw [ep, csum_same (σ := s) (s := upF s 21 f) rfl n _ (fun j _ _ => (sm hw' j).1)]; exact a5, by rw [ep, nsum_same (σ := s) (s := upF s 21 f) rfl n _ (fun j _ _ => (sm hw' j).1)]; exact a6, by rw [ep]; exact a7, fun z z' q => ?_⟩
  · obtain ⟨b1, b2, b3⟩ := a2 j hj
    exact ⟨b1, b2, fun c => (hsec j (by rw [act_same b1]; exact c) hw').trans (b3 c)⟩
  · obtain ⟨m, q2⟩ := a8 z z' q
    exact ⟨m, rz_same (σ := s) (s := upF s 21 f) rfl m _ _ _ _ (fun j _ _ => sm hw' j) q2⟩
end GRZ
