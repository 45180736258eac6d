/-! operators -/
section OPS
variable {σ s s' τ t : St} {vs z : List Nat}
theorem te_if {N a b : Nat} {P : Prop} (h : (s 0 12).toInt = 0 → (s 0 15).toInt = 0 → P) (k : P → TE σ s N a b) : TE σ s N a b := fun g X E0 H L hT hH hf hs => k (h hf hs) g X E0 H L hT hH hf hs
theorem te_eq {N a b a' b' : Nat} (ha : a = a') (hb : b = b') (h : TE σ s N a' b') : TE σ s N a b := by rw [ha, hb]; exact h
/-- the states change, then a Value is made -/
theorem rox_new {N a q : Nat} {c : Int} {t' : St} (r : RL σ vs s τ vs) (hq : q ∉ vs) (v : VNw τ q t') (hl : (t' q 1).toInt = 1 → (t' q 2).toInt < (s 0 49).toInt) (hw : (s 0 17).toInt ≤ (σ 0 17).toInt + 8) (hi : (s 0 39).toInt ≤ (σ 0 39).toInt + c) (te : TE σ s N a (ev t' q)) : ROx σ τ vs N a c q s t' (vs ++ [q]) := by
  obtain ⟨h1, h2, h3, h4, h5, h6, h7, h8, h9, h10, h11⟩ := r
  exact ⟨⟨h1, ⟨h2.1, h2.2.1, h2.2.2.1, h2.2.2.2.1, vok_vnw h2.2.2.2.2 v⟩, h3, h4, h5, h6, h7, h8, fun u hu => by simp [hu], by simp, h11⟩, vfr_vnw hq v, ⟨by simp, hq⟩, hl, hw, hi, by simp, te⟩
/-- states that told or put, no more -/
def SQ (σ s : St) (n : Int) : Prop := Kp [(0, 12), (0, 13), (0, 17)] [8] σ s ∧ OF σ s ∧ RW σ s ∧ (σ 0 17).toInt ≤ (s 0 17).toInt ∧ (s 0 17).toInt ≤ (σ 0 17).toInt + n
theorem sq_rf : SQ σ σ 0 := ⟨kp_rf, of_rf, fun _ _ => rfl, Int.le_refl _, by omega⟩
theorem sq_tl (h : TL σ s) : SQ σ s 0 := by
  have e : (s 0 17) = (σ 0 17) := h.1 _ _ rfl rfl
  exact ⟨kp_sub h.1 rfl rfl, h.2, fun j _ => h.1 8 j rfl rfl, by rw [e]; omega, by rw [e]; omega⟩
theorem sq_pu {ws : List Int32} (h : PU σ s ws) : SQ σ s ws.length := by
  have e8 : (s 0 12) = (σ 0 12) := h.1 _ _ rfl rfl
  exact ⟨kp_sub h.1 rfl rfl, of_eq e8, h.2.2.1, by rw [h.2.1]; omega, by rw [h.2.1]; omega⟩
theorem sq_tr {n m : Int} (h : SQ σ s n) (g : SQ s s' m) : SQ σ s' (n + m) := by
  obtain ⟨h1, h2, h3, h4, h5⟩ := h
  obtain ⟨g1, g2, g3, g4, g5⟩ := g
  exact ⟨kp_tr h1 g1, of_tr h2 g2, fun j hj => (g3 j (by omega)).trans (h3 j hj), by omega, by omega⟩
theorem sq_rl {n : Int} (h : PA σ τ) (p : SQ σ s n) : RL σ vs s τ vs := by
  obtain ⟨p1, p2, p3, p4, p5⟩ := p
  have h9 := h
  obtain ⟨h1, h2, ⟨n1, n2, n3, n4, n5, n6, n7⟩, ⟨-, -, a3, -⟩, h5⟩ := h9
  have e3 : (s 0 37) = (σ 0 37) := p1 _ _ rfl rfl
  have e4 : (s 0 39) = (σ 0 39) := p1 _ _ rfl rfl
  have e5 : (s 21) = (σ 21) := funext (fun j => p1 21 j rfl rfl)
  exact rl_mk h (kp_sub p1 rfl rfl) (p1 _ _ rfl rfl) p4 p3 (by rw [e4]; exact Int.le_refl _) (by rw [e3]; exact n4) (by rw [e5]; exact a3) (mon_of (funext (fun j => p1 14 j rfl rfl)) e5) p2 (ie_of (funext (fun j => p1 25 j rfl rfl)) e4 e3) h5 (fun _ h => h) (Nat.le_refl _)
theorem sq_wc {n : Int} (p : SQ σ s n) (h : 0 ≤ (σ 0 17).toInt) : 0 ≤ (s 0 17).toInt ∧ (s 0 17).toInt ≤ (σ 0 17).toInt + n ∧ wcn σ ≤ wcn s := by
  obtain ⟨p1, p2, p3, p4, p5⟩ := p
  have e1 : (wcn σ : Int) = (σ 0 17).toInt := nt h
  have e2 : (wcn s : Int) = (s 0 17).toInt := nt (by omega)
  omega
theorem te_tl {N a : Nat} (h0 : 0 ≤ (σ 0 17).toInt) (p : TL σ s) : TE σ s N a a := te_same h0 (p.1 _ _ rfl rfl) (fun j _ => p.1 8 j rfl rfl) (ev_ke (kp_sub p.1 rfl rfl) (mon_of (funext (fun j => p.1 14 j rfl rfl)) (funext (fun j => p.1 21 j rfl rfl))))
/-- chained through a state that told or put -/
theorem te_sq {N a b c : Nat} {n m : Int} (h0 : 0 ≤ (σ 0 17).toInt) (p : SQ σ s n) (p2 : SQ s s' m) (h : TE σ s N a b) (h2 : TE s s' N b c) : TE σ s' N a c := te_tr h h2 (sq_wc p h0).2.2 p2.2.1 (p2.1 _ _ rfl rfl)
theorem sil_sq {n : Int} (p : SQ σ s n) (h : (s 0 15).toInt = 0) : (σ 0 15).toInt = 0 := by
  have e : (s 0 15) = (σ 0 15) := p.1 _ _ rfl rfl
  rw [← e]; exact h
theorem vnw_how {u : Nat} {hw tk : Int32} (p : VNw τ u t) (h1 : 0 ≤ hw.toInt ∧ hw.toInt ≤ 3) (h2 : 0 ≤ tk.toInt ∧ tk.toInt < 16002) (h3 : (t u 0).toInt ≠ -1) : VNw τ u (upC (upC t u 1 hw) u 4 tk) := by
  refine ⟨fun w hw => by rw [up2_ne hw]; exact p.1 w hw, ?_⟩
  have := p.2
  unfold FOK at *
  simp only [rdA, Nat.reduceEqDiff, if_true, if_false]
  exact ⟨h1, this.2.1, by omega, this.2.2.2.1, fun _ => h3, this.2.2.2.2.2⟩
theorem ev_st {u : Nat} (h : (τ u 1).toInt = 0) (h2 : (τ u 0).toInt ≠ -1) : ev τ u = 1 := ev_1 (Or.inl h) h2
theorem sp_pointedTo {p : Nat} {tk : Int32} {N : Nat} {Q : Nat → St → St → List Nat → Prop} (h : PA σ τ) (hp : p ∈ vs) (hh : (τ p 1).toInt = 0) (ht : 0 ≤ tk.toInt ∧ tk.toInt < 16002) (hc : vs.length < CAP) (k : ∀ u s t z, ROx σ τ vs N (ev τ p) 0 u s t z → Q u s t z) : wp_pointedTo p tk σ τ vs Q := by
  have h0 := h.2.2.1.2.2.2.2.1
  have key : ∀ (y : Int32) s s' q t hgt, TL σ s → ((s 0 12).toInt = 0 → (s 0 15).toInt = 0 → 0 < (τ p 0).toInt) → q ∉ vs → NV τ q y hgt t → y.toInt ≠ -1 → TL s s' → Q q s' (upC (upC t q 1 (3 : Int32)) q 4 tk) (vs ++ [q]) := fun y s s' q t hgt hs hf hq hv hy hs' => by
    have sq := sq_tr (sq_tl hs) (sq_tl hs')
    have et : (t q 0).toInt = y.toInt := by rw [(nv_at hv).1]
    refine k _ _ _ _ (rox_new (sq_rl h sq) hq (vnw_how (vnw_nv hv) (by decide) ht (by rw [et]; exact hy)) (fun c => ?_) ?_ ?_ ?_)
    · simp only [rdA, Nat.reduceEqDiff, if_true, if_false] at c
      exact absurd c (by decide)
    · have := (sq_wc sq h0).2.1
      omega
    · have e : (s' 0 39) = (σ 0 39) := sq.1 _ _ rfl rfl
      rw [e]; omega
    · refine te_if (P := 0 < (τ p 0).toInt) (fun f1 f2 => hf (of0 hs'.2 f1) (sil_sq (sq_tl hs') f2)) (fun c => ?_)
      refine te_eq (ev_st hh (by omega)) (ev_1 (Or.inr ?_) ?_) (te_sq h0 (sq_tl hs) (sq_tl hs') (te_tl h0 hs) (te_tl (sq_wc (sq_tl hs) h0).1 hs'))
      · simp only [rdA, Nat.reduceEqDiff, if_true, if_false]; rfl
      · simp only [rdA, Nat.reduceEqDiff, if_true, if_false]
        rw [et]; exact hy
  unfold wp_pointedTo
  refine sp_isPointer hp (fun c => sp_must ht (fun s hs hf => sp_isPointer hp (fun _ => ?_) (fun c2 => absurd c (by omega)))) (fun c => sp_must ht (fun s hs hf => sp_isPointer hp (fun c2 => absurd c (by omega)) (fun _ => ?_)))
  · have e := sb1 (x := (τ p 0)) (by omega)
    exact ⟨fun y => y.toInt ≠ -1, fun y hy => sp_made hp hp hc ht (fun q s' t hgt hq hv hs' => ⟨by simp, key y s s' q t hgt hs (fun _ _ => c) hq hv hy hs'⟩), fun c2 => absurd c2 (by decide), fun _ => ⟨hp, by show (_ - (1 : Int32)).toInt ≠ -1; omega⟩⟩
  · refine ⟨fun y => y.toInt ≠ -1, fun y hy => sp_made hp hp hc ht (fun q s' t hgt hq hv hs' => ⟨by simp, key y s s' q t hgt hs (fun f1 f2 => absurd rfl (hf f1 f2)) hq hv hy hs'⟩), fun _ => by decide, fun c2 => absurd rfl c2⟩
theorem sp_one_2 {op : Int32} {v : Nat} {tk : Int32} {N : Nat} {Q : Nat → St → St → List Nat → Prop} (h : PA σ τ) (hp : v ∈ vs) (hh : (τ v 1).toInt = 0) (hw : (σ 0 17).toInt ≤ 499000) (ht : 0 ≤ tk.toInt ∧ tk.toInt < 16002) (hc : vs.length < CAP) (hN : 1 ≤ N) (k : ∀ u s t z, ROx σ τ vs N (ev τ v) 0 u s t z → Q u s t z) : wp_one_2 op v tk σ τ vs Q := by
  have h0 := h.2.2.1.2.2.2.2.1
  unfold wp_one_2
  refine ⟨fun y => y.toInt ≠ 0 → (τ v 0).toInt ≠ -1, fun y _ hy => sp_must ht (fun s hs hf => sp_made hp hp hc ht (fun q s' t hgt hq hv hs' => ?_)), fun _ => sp_isInt hp (fun c _ => by omega) (fun _ c => absurd rfl c), fun _ => sp_isAny hp (fun c _ => by omega) (fun _ c => absurd rfl c)⟩
  have sq := sq_tr (sq_tl hs) (sq_tl hs')
  have hwc := sq_wc sq h0
  refine ⟨fun y => y = 12 ∨ y = 13 ∨ y = 14, fun y1 hy1 => sp_put_0 hwc.1 (by omega) (fun s2 hp2 => ?_), fun _ => ⟨fun _ => Or.inr (Or.inl rfl), fun _ => Or.inl rfl⟩, fun _ => Or.inr (Or.inr rfl)⟩
  have sq2 := sq_tr sq (sq_pu hp2)
  have key : ∀ t', VNw τ q t' → (t' q 1) = 0 → ev t' q = 1 → Q q s2 t' (vs ++ [q]) := fun t' v1 v2 v3 => by
    refine k _ _ _ _ (rox_new (sq_rl h sq2) hq v1 (fun c => ?_) ?_ ?_ ?_)
    · rw [v2] at c
      exact absurd c (by decide)
    · have := (sq_wc sq2 h0).2.1
      simp only [List.length_cons, List.length_nil] at this
      omega
    · have e : (s2 0 39) = (σ 0 39) := sq2.1 _ _ rfl rfl
      rw [e]; omega
    · refine te_if (P := (τ v 0).toInt ≠ -1) (fun f1 f2 => hy (hf (of0 hs'.2 (of0 (sq_pu hp2).2.1 f1)) (sil_sq (sq_tr (sq_tl hs') (sq_pu hp2)) f2))) (fun c => ?_)
      refine te_eq (ev_st hh c) v3 (te_sq h0 sq (sq_pu hp2) (te_sq h0 (sq_tl hs) (sq_tl hs') (te_tl h0 hs) (te_tl (sq_wc (sq_tl hs) h0).1 hs')) ?_)
      rcases hy1 with rfl | rfl | rfl
      · exact te_put (n := 1) hwc.1 hp2 rfl (by decide) rfl (k := 12) rfl (fun g' H L x hH hn hx => ⟨by omega, hn⟩) hN
      · exact te_put (n := 1) hwc.1 hp2 rfl (by decide) rfl (k := 13) rfl (fun g' H L x hH hn hx => ⟨by omega, hn⟩) hN
      · exact te_put (n := 1) hwc.1 hp2 rfl (by decide) rfl (k := 14) rfl (fun g' H L x hH hn hx => ⟨by omega, hn⟩) hN
  have hv1 : v ∈ vs ++ [q] := by simp [hp]
  have kQ : Q q s2 t (vs ++ [q]) := key t (vnw_nv hv) (nv_at hv).2.1 (ev_nv hv (by decide))
  refine ⟨hv1, fun _ => kQ, fun _ => sp_isInt hv1 (fun _ => ⟨fun c => absurd c (by decide), fun _ => ⟨by simp, fun _ => ⟨fun _ => True, fun y2 _ => sp_Vconstant (by simp) (key _ (vnw_const (vnw_nv hv)) (by rw [how_const]; exact (nv_at hv).2.1) (by rw [ev_const]; exact ev_nv hv (by decide))), fun _ => ⟨fun _ => trivial, fun _ => trivial⟩, fun _ => ⟨fun _ => trivial, fun _ => trivial⟩⟩, fun _ => kQ⟩⟩) (fun _ => ⟨fun _ => kQ, fun c => absurd rfl c⟩)⟩
theorem sp_compared {a b c : Int32} {Q : Int32 → Prop} (h : ∀ r, Q r) : wp_compared a b c σ τ vs Q := by
  unfold wp_compared
  exact ⟨fun _ => ⟨fun _ => ⟨fun _ => ⟨fun _ => h _, fun _ => h _⟩, fun _ => ⟨fun _ => h _, fun _ => h _⟩⟩, fun _ => ⟨fun _ => h _, fun _ => h _⟩⟩, fun _ => ⟨fun _ => h _, fun _ => h _⟩⟩
theorem sp_work {a b c : Int32} {Q : Int32 → Prop} (hz : a.toInt = 39 ∨ a.toInt = 40 → c.toInt ≠ 0) (h : ∀ r, Q r) : wp_work a b c σ τ vs Q := by
  have hz2 : a.toInt = 39 ∨ a.toInt = 40 → ¬ c = 0 := fun q e => hz q (by rw [e]; rfl)
  unfold wp_work
  refine ⟨True, fun _ => ⟨fun _ => True, fun _ _ => ⟨fun _ => True, fun _ _ => ⟨fun _ => True, fun _ _ => sp_compared (fun _ => ⟨fun _ => h _, fun _ => h _⟩), fun _ => trivial, fun _ => trivial⟩, fun _ => trivial, fun _ => trivial⟩, fun _ => trivial, fun _ => trivial⟩, fun _ => ⟨fun _ => h _, fun _ => h _⟩, fun _ => ⟨fun _ => ⟨fun _ => h _, fun _ => h _⟩, fun _ => ?_⟩⟩
  iterate 2 refine ⟨fun _ => trivial, fun _ => ?_⟩
  iterate 2 refine ⟨fun _ => h _, fun _ => ?_⟩
  iterate 13 refine ⟨fun _ => trivial, fun _ => ?_⟩
  iterate 3 refine ⟨fun _ => h _, fun _ => ?_⟩
  iterate 2 refine ⟨fun _ => trivial, fun _ => ?_⟩
  iterate 3 refine ⟨fun _ => h _, fun _ => ?_⟩
  exact ⟨fun q => ⟨fun _ => ⟨hz2 (Or.inl q), h _⟩, fun _ => h _⟩, fun _ => ⟨fun q => ⟨fun _ => ⟨hz2 (Or.inr q), h _⟩, fun _ => h _⟩, fun _ => trivial⟩⟩
end OPS
