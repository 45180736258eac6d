/-! items of an initial: both sides -/
def STv (a b : St) : Prop := Ko [(4, 1), (6, 3), (6, 4), (7, 7), (6, 5), (5, 9), (8, 15), (8, 16)] [24, 43, 17, 31, 32, 33, 25, 39] a b
def FIm (loc : Prop) (ty T Z F : Int) : Prop := (loc ∧ (T = ty ∨ (0 < ty ∧ Z ≠ 0))) ∨ (¬ loc ∧ INm ty T Z F)
/-- the class's walk over cnt items leaves the like; ok: all of them fit -/
def IRq (kd : Nat → Int) (n S m lo : Nat) (loc : Prop) (ty : Int) (gc : List Gsq) (σ σ' : St) (cnt : Nat) (ok : Prop) : Prop :=
  (σ 0 12).toInt = 0 → ∀ w, REq kd n S m lo w σ → (w 6 3).toInt = 0 → (w 7 7).toInt = 0 → (w 8 11).toInt = ty → ((w 8 9).toInt ≠ 0 ↔ loc) → (w 8 15).toInt = 0 → (w 8 16).toInt = 0 → GWq gc w (fun s => ((s 6 3).toInt ≠ 0 → (σ' 0 12).toInt ≠ 0) ∧ ((s 6 3).toInt = 0 → (σ' 0 12).toInt = 0 ∧ REq kd n S m lo s σ' ∧ (s 7 7).toInt = 0 ∧ STv w s ∧ (s 8 15).toInt = (cnt : Int) ∧ ((s 8 16).toInt ≠ 0 ↔ ¬ ok ∨ (1 ≤ cnt ∧ (w 8 12).toInt < (cnt : Int))))) ((σ' 0 12).toInt ≠ 0)
section ITE
variable {w s r s8 s9 σ σ' σ1 τ t : St} {kd vl : Nat → Int} {n S m lo cnt p q : Nat} {loc ok : Prop} {gc : List Gsq} {l : List Stq} {K T H Z F ty : Int} {X : Int32}
theorem stk_i (h : STi w s) : STv w s := ko_sub h rfl rfl
theorem stk_e {j : Nat} (h : STe j w s) : STv w s := ko_sub h.1 rfl rfl
theorem stk_tr (h : STv w s) (g : STv s r) : STv w r := ko_tr h g
theorem su_fits (hv : VRq K T H Z F) (h2 : T ≠ -2) (h11 : (w 8 11).toInt = ty) (hty : 0 ≤ ty) (h9 : (w 8 9).toInt ≠ 0 ↔ loc) : SUq w T Z F ↔ FIm loc ty T Z F := by
  unfold FIm
  by_cases c : (w 8 9).toInt = 0
  · have nl : ¬ loc := fun h => (h9.2 h) c
    rw [su_global hv h2 (by omega) c, h11]
    exact ⟨fun h => Or.inr ⟨nl, h⟩, fun h => h.elim (fun h => absurd h.1 nl) (fun h => h.2)⟩
  · have hl : loc := h9.1 c
    rw [su_local (by omega) c, h11]
    exact ⟨fun h => Or.inl ⟨hl, h⟩, fun h => h.elim (fun h => h.2) (fun h => absurd hl h.1)⟩
theorem ir_nil : IRq kd n S m lo loc ty [] σ σ 0 True := fun h0 w hR hf h77 h11 h9 h15 h16 =>
  ⟨fun hx => absurd hf hx, fun _ => ⟨h0, hR, h77, ko_rf, h15, ⟨fun hx => absurd h16 hx, fun h => h.elim (fun h => absurd trivial h) (fun h => absurd h.1 (by decide))⟩⟩⟩
theorem ir_step (h : IRq kd n S m lo loc ty gc σ σ1 cnt ok) (hE : EXq kd n S m lo 0 l σ1 s8 K T H Z F X) (hact : ∀ y, y ∈ l → 1 ≤ y.1 ∧ y.1 ≤ 16) (hvr : VRq K T H Z F) (h15s : (σ1 0 15).toInt = 0) (k8 : Kp [(0, 17), (0, 39)] [8, 25] s8 s9) (hm : MNq σ1 s9) (hty : 0 ≤ ty) (hcn : cnt ≤ 16000) : IRq kd n S m lo loc ty (gc ++ (gqs l ++ [gq (stp 44 q)])) σ s9 (cnt + 1) (ok ∧ FIm loc ty T Z F) := by
  intro h0 w hR hf h77 h11 h9 h15 h16
  have e9 : s9 0 12 = s8 0 12 := k8 0 12 rfl rfl
  refine gv_app (gv_mono (h h0 w hR hf h77 h11 h9 h15 h16) (fun s hs => ?_) hm)
  by_cases c0 : (s 6 3).toInt = 0
  · obtain ⟨a1, a2, a3, a4, a5, a6⟩ := hs.2 c0
    refine gv_app (gv_x hact (xw_mono (hE a1 s a2 c0 a3) (fun r hr => ?_) (fun hx => by rw [e9]; exact bd_0 h15s hx)))
    by_cases c1 : (r 6 3).toInt = 0
    · obtain ⟨g1, g2, g3, g4, g5, g6, i, g7⟩ := hr.2 c1
      have k1 : STv w r := stk_tr a4 (stk_e g5)
      have f15 : r 8 15 = s 8 15 := g5.1 8 15 (op_lt (by decide)) rfl rfl
      have f16 : r 8 16 = s 8 16 := g5.1 8 16 (op_lt (by decide)) rfl rfl
      have f11 : r 8 11 = w 8 11 := k1 8 11 (op_lt (by decide)) rfl rfl
      have f9 : r 8 9 = w 8 9 := k1 8 9 (op_lt (by decide)) rfl rfl
      have f12 : r 8 12 = w 8 12 := k1 8 12 (op_lt (by decide)) rfl rfl
      have su : SUq r T Z F ↔ FIm loc ty T Z F := su_fits hvr g2 (by rw [f11]; exact h11) hty (by rw [f9]; exact h9)
      refine gv_d (x := stp 44 q) (by simp [stp]) (fun _ => da_item (xi_item (cnt := (cnt : Int)) (by rw [g6]; rfl) g7 hvr.1 (by rw [f15]; exact a5) (by omega) (fun s2 ks e7 e6 e15 e16 => ?_))) (fun hx => absurd c1 hx)
      refine ⟨fun hx => absurd (by rw [e6]; exact c1) hx, fun _ => ⟨by rw [e9]; exact g1, re_cd g4 (cd_ko ks rfl rfl) (dd_k k8 rfl rfl), e7, stk_tr k1 (stk_i ks), by rw [e15]; rfl, ?_⟩⟩
      rw [e16, f16, a6, f12, su]
      constructor
      · rintro ((h | h) | h | h)
        · exact Or.inl (fun hx => h hx.1)
        · exact Or.inr ⟨Nat.succ_le_succ (Nat.zero_le _), by have := h.2; omega⟩
        · exact Or.inr ⟨Nat.succ_le_succ (Nat.zero_le _), by omega⟩
        · exact Or.inl (fun hx => h hx.2)
      · rintro (h | h)
        · by_cases co : ok
          · exact Or.inr (Or.inr (fun hx => h ⟨co, hx⟩))
          · exact Or.inl (Or.inl co)
        · exact Or.inr (Or.inl (by have := h.2; omega))
    · have : (s9 0 12).toInt ≠ 0 := by rw [e9]; exact bd_0 h15s (hr.1 c1)
      exact gv_bad c1 this (fun s' h => ⟨fun _ => this, fun hx => absurd hx h⟩)
  · have := hm (hs.1 c0)
    exact gv_bad c0 this (fun s' h => ⟨fun _ => this, fun hx => absurd hx h⟩)
end ITE
