/-! operators of two parts -/
section TWO
variable {σ s s' τ t : St} {vs z : List Nat}
def rkf (x : Int) : Int := if x = 10 then 1 else if x = 11 then 2 else if x = 31 then 3 else if x = 32 then 4 else if x = 33 then 5 else if x = 12 ∨ x = 13 then 6 else if x = 14 ∨ x = 15 ∨ x = 34 ∨ x = 35 then 7 else if x = 16 ∨ x = 17 then 8 else if x = 36 ∨ x = 37 then 9 else if x = 38 ∨ x = 39 ∨ x = 40 then 10 else 0
theorem rkf_rng (x : Int) : 0 ≤ rkf x ∧ rkf x ≤ 10 ∧ (rkf x ≠ 0 → 10 ≤ x ∧ x ≤ 40) := by
  unfold rkf
  repeat' split
  all_goals omega
theorem sp_rank {op : Int32} {Q : Int32 → Prop} (h : ∀ r : Int32, r.toInt = rkf op.toInt → Q r) : wp_rank op σ τ vs Q := by
  have g : ∀ (r : Int32) (n : Int), r.toInt = n → n = rkf op.toInt → Q r := fun r n h1 h2 => h r (h1.trans h2)
  have w : ∀ (n : Int), (∀ x, x = op.toInt → n = rkf x) → n = rkf op.toInt := fun n h => h _ rfl
  unfold wp_rank
  generalize hx : op.toInt = x at *
  clear hx w
  exact ⟨fun _ => ⟨fun _ => ⟨fun _ => ⟨fun _ => ⟨fun _ => ⟨fun _ => g _ 6 rfl (by unfold rkf; repeat' split; all_goals omega), fun _ => ⟨fun _ => ⟨fun _ => g _ 7 rfl (by unfold rkf; repeat' split; all_goals omega), fun _ => ⟨fun _ => g _ 7 rfl (by unfold rkf; repeat' split; all_goals omega), fun _ => ⟨fun _ => g _ 7 rfl (by unfold rkf; repeat' split; all_goals omega), fun _ => ⟨fun _ => ⟨fun _ => g _ 8 rfl (by unfold rkf; repeat' split; all_goals omega), fun _ => ⟨fun _ => ⟨fun _ => g _ 9 rfl (by unfold rkf; repeat' split; all_goals omega), fun _ => ⟨fun _ => ⟨fun _ => g _ 10 rfl (by unfold rkf; repeat' split; all_goals omega), fun _ => ⟨fun _ => g _ 10 rfl (by unfold rkf; repeat' split; all_goals omega), fun _ => ⟨fun _ => g _ 0 rfl (by unfold rkf; repeat' split; all_goals omega), fun _ => g _ 10 rfl (by unfold rkf; repeat' split; all_goals omega)⟩⟩⟩, fun _ => g _ 9 rfl (by unfold rkf; repeat' split; all_goals omega)⟩⟩, fun _ => g _ 8 rfl (by unfold rkf; repeat' split; all_goals omega)⟩⟩, fun _ => g _ 7 rfl (by unfold rkf; repeat' split; all_goals omega)⟩⟩⟩⟩, fun _ => g _ 6 rfl (by unfold rkf; repeat' split; all_goals omega)⟩⟩, fun _ => g _ 5 rfl (by unfold rkf; repeat' split; all_goals omega)⟩, fun _ => g _ 4 rfl (by unfold rkf; repeat' split; all_goals omega)⟩, fun _ => g _ 3 rfl (by unfold rkf; repeat' split; all_goals omega)⟩, fun _ => g _ 2 rfl (by unfold rkf; repeat' split; all_goals omega)⟩, fun _ => g _ 1 rfl (by unfold rkf; repeat' split; all_goals omega)⟩
theorem sp_typeOf {op : Int32} {a b : Nat} {Q : Int32 → Prop} (hV : VOK τ) (ha : a ∈ vs) (hb : b ∈ vs) (h : ∀ r : Int32, r.toInt ≠ -1 → (r.toInt ≠ -2 → (τ a 0).toInt ≠ -1 ∧ (τ b 0).toInt ≠ -1) → Q r) : wp_typeOf op a b σ τ vs Q := by
  have q2 : Q (-2) := h _ (by decide) (fun c => absurd rfl c)
  have q0 : (τ a 0).toInt ≠ -1 → (τ b 0).toInt ≠ -1 → Q 0 := fun c1 c2 => h _ (by decide) (fun _ => ⟨c1, c2⟩)
  have za := (hV a).2.2.2.2.2
  have zb := (hV b).2.2.2.2.2
  have n0 : ∀ {P : Prop}, ((0 : Int32).toInt ≠ 0 → P) := fun c => absurd rfl c
  have n1 : ∀ {P : Prop}, ((1 : Int32).toInt = 0 → P) := fun c => absurd c (by decide)
  unfold wp_typeOf
  have e1 : wp_isInt a σ τ vs (fun v => (v.toInt = 0 → True) ∧ (v.toInt ≠ 0 → True)) → True := fun _ => trivial
  refine sp_isInt ha (fun ca => ⟨fun y => y.toInt ≠ 0 → (τ a 0).toInt = 0 ∧ (τ b 0).toInt = 0, fun y0 _ hy0 => ?_, ⟨True, fun _ => n0, n1, fun _ => sp_isInt hb (fun cb => ⟨n1, fun _ _ => ⟨ca, cb⟩⟩) (fun _ => ⟨fun _ => trivial, n0⟩)⟩⟩) (fun ca => ⟨fun y => y.toInt ≠ 0 → (τ a 0).toInt = 0 ∧ (τ b 0).toInt = 0, fun y0 _ hy0 => ?_, ⟨True, fun _ => n0, fun _ => trivial, n0⟩⟩)
  all_goals
    have A : y0.toInt ≠ 0 → Q 0 := fun c => q0 (by have := hy0 c; omega) (by have := hy0 c; omega)
    have pt : ∀ {P : Int32 → Prop}, (∀ y1 : Int32, (y1.toInt ≠ 0 → 0 < (τ a 0).toInt ∧ (τ a 0).toInt = (τ b 0).toInt) → P y1) → wp_isPointer a σ τ vs (fun v21 => (∃ J43 : Int32 → Prop, (∀ (y0_43 : Int32), y0_43 = 0 ∨ y0_43 = 1 → J43 y0_43 → P y0_43) ∧ (∃ J42 : Prop, (J42 → (J43 (0 : Int32))) ∧ (v21.toInt = 0 → J42) ∧ (v21.toInt ≠ 0 → (a ∈ vs ∧ (b ∈ vs ∧ ((τ a 0).toInt ≠ (τ b 0).toInt → J42) ∧ ((τ a 0).toInt = (τ b 0).toInt → J43 (1 : Int32)))))))) := fun hP => sp_isPointer ha (fun cp => ⟨fun y => y.toInt ≠ 0 → 0 < (τ a 0).toInt ∧ (τ a 0).toInt = (τ b 0).toInt, fun y1 _ hy1 => hP y1 hy1, ⟨True, fun _ => n0, n1, fun _ => ⟨ha, hb, fun _ => trivial, fun ce _ => ⟨cp, ce⟩⟩⟩⟩) (fun cp => ⟨fun y => y.toInt ≠ 0 → 0 < (τ a 0).toInt ∧ (τ a 0).toInt = (τ b 0).toInt, fun y1 _ hy1 => hP y1 hy1, ⟨True, fun _ => n0, fun _ => trivial, n0⟩⟩)
    refine pt (fun y1 hy1 => ?_)
    have B : y1.toInt ≠ 0 → Q 0 := fun c => q0 (by have := hy1 c; omega) (by have := hy1 c; omega)
    refine ⟨fun _ => ⟨fun _ => ⟨True, fun _ => ⟨A, fun _ => ⟨B, fun _ => ?_⟩⟩, fun _ => trivial, fun _ => ⟨fun _ => sp_rank (fun r _ => ⟨fun _ => ⟨fun _ => q2, A⟩, fun _ => ⟨A, fun _ => ⟨fun _ => q2, B⟩⟩⟩), fun _ => trivial⟩⟩, fun _ => ⟨A, fun _ => ⟨fun _ => ?_, B⟩⟩⟩, fun _ => ⟨fun _ => ?_, A⟩⟩
    · have e2 : wp_isPointer b σ τ vs (fun v183 => (v183.toInt = 0 → Q ((-2) : Int32)) ∧ (v183.toInt ≠ 0 → (a ∈ vs ∧ ((τ a 5).toInt = 0 → Q ((-2) : Int32)) ∧ ((τ a 5).toInt ≠ 0 → Q (0 : Int32))))) := sp_isPointer hb (fun c => ⟨n1, fun _ => ⟨ha, fun _ => q2, fun cz => q0 (by have := za cz; omega) (by omega)⟩⟩) (fun _ => ⟨fun _ => q2, n0⟩)
      exact sp_isPointer ha (fun c => ⟨True, fun _ => e2, n1, fun _ => ⟨hb, fun cz => q0 (by omega) (by have := zb cz; omega), fun _ => trivial⟩⟩) (fun c => ⟨True, fun _ => e2, fun _ => trivial, n0⟩)
    · exact sp_isPointer ha (fun c => ⟨n1, fun _ => sp_isInt hb (fun c2 => ⟨n1, fun _ => ⟨ha, h _ (by omega) (fun _ => ⟨by omega, by omega⟩)⟩⟩) (fun _ => ⟨fun _ => q2, n0⟩)⟩) (fun _ => ⟨fun _ => q2, n0⟩)
    · have e2 : wp_isInt a σ τ vs (fun v81 => (v81.toInt = 0 → Q ((-2) : Int32)) ∧ (v81.toInt ≠ 0 → wp_isPointer b σ τ vs (fun v88 => (v88.toInt = 0 → Q ((-2) : Int32)) ∧ (v88.toInt ≠ 0 → (b ∈ vs ∧ Q (τ b 0)))))) := sp_isInt ha (fun c => ⟨n1, fun _ => sp_isPointer hb (fun c2 => ⟨n1, fun _ => ⟨hb, h _ (by omega) (fun _ => ⟨by omega, by omega⟩)⟩⟩) (fun _ => ⟨fun _ => q2, n0⟩)⟩) (fun _ => ⟨fun _ => q2, n0⟩)
      exact sp_isPointer ha (fun c => ⟨True, fun _ => e2, n1, fun _ => sp_isInt hb (fun c2 => ⟨n1, fun _ => ⟨ha, h _ (by omega) (fun _ => ⟨by omega, by omega⟩)⟩⟩) (fun _ => ⟨fun _ => trivial, n0⟩)⟩) (fun c => ⟨True, fun _ => e2, fun _ => trivial, n0⟩)
theorem sp_two {op : Int32} {a b : Nat} {tk : Int32} {N : Nat} {Q : Nat → St → St → List Nat → Prop} (h : PA σ τ) (ha : a ∈ vs) (hb : b ∈ vs) (hha : (τ a 1).toInt = 0) (hhb : (τ b 1).toInt = 0) (hw : (σ 0 17).toInt ≤ 499000) (ht : 0 ≤ tk.toInt ∧ tk.toInt < 16002) (hc : vs.length < CAP) (hN : 2 ≤ N) (k : ∀ u s t z, ROx σ τ vs N (ev τ a + ev τ b) 0 u s t z → Q u s t z) : wp_two op a b tk σ τ vs Q := by
  have h0 := h.2.2.1.2.2.2.2.1
  have hV := h.2.2.2.2
  have n0 : ∀ {P : Prop}, ((0 : Int32).toInt ≠ 0 → P) := fun c => absurd rfl c
  have n1 : ∀ {P : Prop}, ((1 : Int32).toInt = 0 → P) := fun c => absurd c (by decide)
  unfold wp_two
  refine sp_typeOf hV ha hb (fun ty hty1 hty2 => ⟨fun y => y.toInt ≠ 0 → (τ a 0).toInt ≠ -1 ∧ (τ b 0).toInt ≠ -1, fun y _ hy => sp_must ht (fun s hs hf => sp_made ha hb hc ht (fun q s' t hgt hq hv hs' => sp_rank (fun r _ => ⟨fun _ => True, fun y2 _ _ => ⟨fun _ => True, fun y3 _ => ⟨ht, ?_⟩, fun _ => trivial, fun _ => trivial⟩, ⟨True, fun _ => trivial, fun _ => trivial, fun _ => sp_isPointer (by simp [ha]) (fun _ => ⟨fun _ => trivial, fun _ => trivial⟩) (fun _ => ⟨fun _ => trivial, fun _ => trivial⟩)⟩⟩))), fun _ => n0, fun c _ => hty2 c⟩)
  have sq := sq_tr (sq_tl hs) (sq_tl hs')
  have hwc := sq_wc sq h0
  refine sp_put_2 hwc.1 (by omega) (fun s2 hp2 => ?_)
  have sq2 := sq_tr sq (sq_pu hp2)
  have za : a ∈ vs ++ [q] := by simp [ha]
  have zb : b ∈ vs ++ [q] := by simp [hb]
  have zq : q ∈ vs ++ [q] := by simp
  have nea : a ≠ q := fun e => hq (e ▸ ha)
  have neb : b ≠ q := fun e => hq (e ▸ hb)
  have key : ∀ t', VNw τ q t' → (t' q 1) = 0 → ev t' q = 1 → Q q s2 t' (vs ++ [q]) := fun t' v1 v2 v3 => by
    refine k _ _ _ _ (rox_new (sq_rl h sq2) hq v1 (fun c => ?_) ?_ ?_ ?_)
    · rw [v2] at c
      exact absurd c (by decide)
    · have := (sq_wc sq2 h0).2.1
      simp only [List.length_cons, List.length_nil] at this
      omega
    · have e : (s2 0 39) = (σ 0 39) := sq2.1 _ _ rfl rfl
      rw [e]; omega
    · refine te_if (P := (τ a 0).toInt ≠ -1 ∧ (τ b 0).toInt ≠ -1) (fun f1 f2 => hy (hf (of0 hs'.2 (of0 (sq_pu hp2).2.1 f1)) (sil_sq (sq_tr (sq_tl hs') (sq_pu hp2)) f2))) (fun c => ?_)
      refine te_eq (a' := 2) (by rw [ev_st hha c.1, ev_st hhb c.2]) v3 (te_sq h0 sq (sq_pu hp2) (te_sq h0 (sq_tl hs) (sq_tl hs') (te_tl h0 hs) (te_tl (sq_wc (sq_tl hs) h0).1 hs')) ?_)
      refine te_put (n := 3) hwc.1 hp2 rfl (by decide) rfl (k := 11) rfl (fun g' H L x hH hn hx => ⟨by omega, ?_⟩) (by omega)
      have e9 : H + 2 - 1 = H + 1 := by omega
      rw [e9]
      exact hn
  have e1 := ev_nv hv hty1
  have hhow := (nv_at hv).2.1
  have kQ : Q q s2 t (vs ++ [q]) := key t (vnw_nv hv) hhow e1
  have kC : ∀ v, wp_Vconstant q v s2 t (vs ++ [q]) (fun u s t z => Q u s t z) := fun v => sp_Vconstant zq (key _ (vnw_const (vnw_nv hv)) (by rw [how_const]; exact hhow) (by rw [ev_const]; exact e1))
  have kA : ∀ w v, (τ w 8).toInt ≤ 100 → w ≠ q → wp_Vaddress q (t w 8) v s2 t (vs ++ [q]) (fun u s t z => Q u s t z) := fun w v hb9 hw9 => sp_Vaddress zq (key _ (vnw_addr (vnw_nv hv) (by rw [hv.1 w hw9]; exact hb9)) (by rw [how_addr]; exact hhow) (by rw [ev_addr]; exact e1))
  have ba := (hV a).2.2.2.1
  have bb := (hV b).2.2.2.1
  have J197 : ∀ y0 : Int32, (∃ J257 : Prop, (J257 → ((y0.toInt = 0 → Q q s2 t (vs ++ [q])) ∧ (y0.toInt ≠ 0 → ((t a 6).toInt ≠ 1 → Q q s2 t (vs ++ [q])) ∧ ((t a 6).toInt = 1 → (b ∈ (vs ++ [q]) ∧ ((t b 6).toInt ≠ 2 → Q q s2 t (vs ++ [q])) ∧ ((t b 6).toInt = 2 → wp_Vaddress q (t b 8) ((t a 7) + (t b 7)) s2 t (vs ++ [q]) (fun u293 s293 t293 z293 => Q u293 s293 t293 z293))))))) ∧ (y0.toInt = 0 → J257) ∧ (y0.toInt ≠ 0 → ((t a 6).toInt ≠ 2 → J257) ∧ ((t a 6).toInt = 2 → (b ∈ (vs ++ [q]) ∧ ((t b 6).toInt ≠ 1 → J257) ∧ ((t b 6).toInt = 1 → (∃ J253 : Int32 → Prop, (∀ (y2_253 : Int32), J253 y2_253 → (wp_Vaddress q (t a 8) y2_253 s2 t (vs ++ [q]) (fun u253 s253 t253 z253 => Q u253 s253 t253 z253))) ∧ (op.toInt ≠ 36 → J253 ((t a 7) - (t b 7))) ∧ (op.toInt = 36 → J253 ((t a 7) + (t b 7))))))))) := fun y0 => ⟨True, fun _ => ⟨fun _ => kQ, fun _ => ⟨fun _ => kQ, fun _ => ⟨zb, fun _ => kQ, fun _ => kA b _ bb neb⟩⟩⟩, fun _ => trivial, fun _ => ⟨fun _ => trivial, fun _ => ⟨zb, fun _ => trivial, fun _ => ⟨fun _ => True, fun _ _ => kA a _ ba nea, fun _ => trivial, fun _ => trivial⟩⟩⟩⟩
  refine ⟨zq, fun _ => ⟨za, ⟨True, fun _ => ⟨fun _ => True, fun y0 _ _ => J197 y0, ⟨True, fun _ => trivial, ⟨True, fun _ => sp_isPointer zq (fun _ => ⟨fun _ => trivial, fun _ => trivial⟩) (fun _ => ⟨fun _ => trivial, fun _ => trivial⟩), fun _ => trivial, fun _ => ⟨fun _ => trivial, fun _ => trivial⟩⟩⟩⟩, fun _ => trivial, fun _ => ⟨zb, fun _ => trivial, fun _ => sp_isInt za (fun _ => ⟨fun _ => trivial, fun _ => sp_isInt zb (fun _ => ⟨fun _ => trivial, fun _ => ?_⟩) (fun _ => ⟨fun _ => trivial, n0⟩)⟩) (fun _ => ⟨fun _ => trivial, n0⟩)⟩⟩⟩, fun _ => kQ⟩
  exact ⟨(op.toInt = 39 ∨ op.toInt = 40) → (t b 7).toInt ≠ 0, fun hz => sp_work hz (fun r => kC r), ⟨op.toInt = 39 ∨ op.toInt = 40, fun _ => ⟨fun c _ => c, fun _ => kQ⟩, fun c => Or.inl c, fun c1 => ⟨fun c2 => fun c => by omega, fun c2 => Or.inr c2⟩⟩⟩
end TWO
