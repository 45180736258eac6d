/-! steps of an expression: operators -/
section XOP
variable {σ s t : St} {g g' : Gh} {CP CP' : Int → Nat → Prop} {X0 X Xs : Nat → Prop} {b e0 H0 L e H H' n q q2 s0 Hs : Nat} {A B S : List It} {it : It} {x y : Int32}
theorem sk_typeOf {Q : Int32 → Prop} (k : ∀ v, Q v) : wk_X2_typeOf x q q2 σ Q := by
  unfold wk_X2_typeOf
  have f1 : wk_X6_fits q (σ q2 1) σ (fun v123 => (v123.toInt ≠ 0 → Q (0 : Int32)) ∧ (v123.toInt = 0 → wk_X6_fits q2 (σ q 1) σ (fun v134 => (v134.toInt = 0 → Q ((-2) : Int32)) ∧ (v134.toInt ≠ 0 → Q (0 : Int32))))) := by
    have f2 : wk_X6_fits q2 (σ q 1) σ (fun v134 => (v134.toInt = 0 → Q ((-2) : Int32)) ∧ (v134.toInt ≠ 0 → Q (0 : Int32))) := sk_fits ⟨fun _ => k _, fun _ => k _⟩ ⟨fun _ => k _, fun _ => k _⟩
    exact sk_fits ⟨fun _ => k _, fun _ => f2⟩ ⟨fun _ => k _, fun _ => f2⟩
  refine ⟨fun _ => k _, fun _ => ⟨fun _ => ⟨fun _ => True, fun y0 _ _ => ⟨True, fun _ => ⟨fun _ => k _, fun _ => ⟨fun _ => k _, fun _ => k _⟩⟩, True, fun _ => ⟨fun _ => k _, fun _ => k _⟩, True, fun _ => f1, fun _ => ⟨fun _ => ⟨fun _ => k _, fun _ => k _⟩, fun _ => k _⟩, ?_⟩, fun _ => trivial, fun _ => trivial⟩, fun _ => k _⟩⟩
  repeat' (first | exact trivial | exact k _ | apply And.intro | intro _)
/-- a jump alone is aimed -/
theorem sp_aim1 {j : Nat} {Q : St → Prop} (hx : x.toInt = j) (hj : j < 262200) (hw : ((σ 24) (j + 1)).toInt < 0) (hl : 0 < (σ 4 1).toInt) (k : Q (upF σ 24 (fun i => if i = j + 1 then y else (σ 24) i))) : wk_X0_aim x y σ Q := by
  have e1 : (x + (1 : Int32)).toInt = ((j + 1 : Nat) : Int) := by rw [ad0 i1 (by omega) (by omega)]; omega
  have es : setv 262208 (σ 24) (x + (1 : Int32)) y = fun i => if i = j + 1 then y else (σ 24) i := setv_at e1 (by omega)
  have ea : atv 262208 (σ 24) (x + (1 : Int32)) = (σ 24) (j + 1) := atv_at e1 (by omega)
  unfold wk_X0_aim
  refine ⟨fun n x3 x4 s => (n = 1 ∧ x3 = x ∧ 0 < x4.toInt ∧ s = σ) ∨ (n = 0 ∧ x3.toInt < 0 ∧ s = upF σ 24 (fun i => if i = j + 1 then y else (σ 24) i)), ⟨1, Or.inl ⟨rfl, rfl, hl, rfl⟩⟩, ?_⟩
  rintro n x3 x4 s (⟨rfl, rfl, h4, rfl⟩ | ⟨rfl, h3, rfl⟩)
  · refine ⟨fun c => by omega, fun _ => ⟨fun c => by omega, fun _ => ⟨0, by omega, Or.inr ⟨rfl, ?_, ?_⟩⟩⟩⟩
    · rw [ea]
      exact hw
    · rw [es]
  · exact ⟨fun _ => k, fun _ => ⟨fun _ => k, fun c => by omega⟩⟩
theorem sp_aim0 {Q : St → Prop} (hx : x.toInt < 0) (k : Q σ) : wk_X0_aim x y σ Q := by
  unfold wk_X0_aim
  refine ⟨fun n x3 _ s => n = 0 ∧ x3 = x ∧ s = σ, ⟨0, rfl, rfl, rfl⟩, ?_⟩
  rintro n x3 x4 s ⟨rfl, rfl, rfl⟩
  exact ⟨fun _ => k, fun _ => ⟨fun _ => k, fun c => by omega⟩⟩
theorem sp_combine {Q : St → Prop} (k : ∀ s, RO q σ s → (∀ j, j ≠ 6 → j ≠ 7 → j ≠ 8 → s q j = σ q j) → ((s q 6).toInt = 1 → (σ q 6).toInt = 1 ∧ x.toInt < 57) → Q s) : wk_X2_combine x q q2 σ Q := by
  have z0 : ∀ s6n : St, s6n = upC σ q 6 (0 : Int32) → Q s6n := by
    rintro _ rfl
    exact k _ (ro_up ro_rf) (fun j h6 _ _ => rdA_ne h6) (fun h => by rw [rdA_eq rfl] at h; exact absurd h (by decide))
  unfold wk_X2_combine
  refine ⟨fun _ => True, fun y0 _ _ => ⟨fun _ => True, fun y1 _ _ => sp_isConstant (fun n1 => ?_) (fun c1 => ?_), ?_⟩, ?_⟩
  · have tail : (∃ J126 : Prop, (J126 → ((x.toInt ≠ 43 → (∀ s6n : St, s6n = upC σ q 6 (0 : Int32) → Q s6n)) ∧ (x.toInt = 43 → wk_X6_isConstant q σ (fun v133 => (v133.toInt = 0 → (∀ s11n : St, s11n = upC σ q 6 (0 : Int32) → Q s11n)) ∧ (v133.toInt ≠ 0 → ((σ q2 6).toInt ≠ 2 → (∀ s15n : St, s15n = upC σ q 6 (0 : Int32) → Q s15n)) ∧ ((σ q2 6).toInt = 2 → (∀ s18n : St, s18n = upC σ q 6 (2 : Int32) → (∀ s20n : St, s20n = upC s18n q 7 (s18n q2 7) → (∀ s22n : St, s22n = upC s20n q 8 ((s20n q 8) + (s20n q2 8)) → Q s22n))))))))) ∧ (y1.toInt = 0 → J126) ∧ (y1.toInt ≠ 0 → ((σ q 6).toInt ≠ 2 → J126) ∧ ((σ q 6).toInt = 2 → wk_X6_isConstant q2 σ (fun v101 => (v101.toInt = 0 → J126) ∧ (v101.toInt ≠ 0 → wk_X5_worked x (σ q 8) (σ q2 8) σ (fun v117 => (∀ s32n : St, s32n = upC σ q 8 v117 → Q s32n))))))) := by
      refine ⟨True, fun _ => ⟨fun _ => z0, fun _ => sp_isConstant (fun _ => ⟨fun _ => z0, fun e => absurd rfl e⟩) (fun c => absurd c n1)⟩, fun _ => trivial, fun _ => ⟨fun _ => trivial, fun c2 => sp_isConstant (fun _ => ⟨fun _ => trivial, fun e => absurd rfl e⟩) (fun _ => ⟨fun _ => trivial, fun _ => sk_worked (fun v => ?_)⟩)⟩⟩
      rintro _ rfl
      exact k _ (ro_up ro_rf) (fun j _ _ h8 => rdA_ne h8) (fun h => by rw [rdA_ne (by decide)] at h; omega)
    exact ⟨True, fun _ => tail, fun _ => trivial, fun e => absurd rfl e⟩
  · have tail : (∃ J126 : Prop, (J126 → ((x.toInt ≠ 43 → (∀ s6n : St, s6n = upC σ q 6 (0 : Int32) → Q s6n)) ∧ (x.toInt = 43 → wk_X6_isConstant q σ (fun v133 => (v133.toInt = 0 → (∀ s11n : St, s11n = upC σ q 6 (0 : Int32) → Q s11n)) ∧ (v133.toInt ≠ 0 → ((σ q2 6).toInt ≠ 2 → (∀ s15n : St, s15n = upC σ q 6 (0 : Int32) → Q s15n)) ∧ ((σ q2 6).toInt = 2 → (∀ s18n : St, s18n = upC σ q 6 (2 : Int32) → (∀ s20n : St, s20n = upC s18n q 7 (s18n q2 7) → (∀ s22n : St, s22n = upC s20n q 8 ((s20n q 8) + (s20n q2 8)) → Q s22n))))))))) ∧ (y1.toInt = 0 → J126) ∧ (y1.toInt ≠ 0 → ((σ q 6).toInt ≠ 2 → J126) ∧ ((σ q 6).toInt = 2 → wk_X6_isConstant q2 σ (fun v101 => (v101.toInt = 0 → J126) ∧ (v101.toInt ≠ 0 → wk_X5_worked x (σ q 8) (σ q2 8) σ (fun v117 => (∀ s32n : St, s32n = upC σ q 8 v117 → Q s32n))))))) := by
      have add : ∀ s18n : St, s18n = upC σ q 6 (2 : Int32) → (∀ s20n : St, s20n = upC s18n q 7 (s18n q2 7) → (∀ s22n : St, s22n = upC s20n q 8 ((s20n q 8) + (s20n q2 8)) → Q s22n)) := by
        rintro _ rfl _ rfl _ rfl
        refine k _ (ro_up (ro_up (ro_up ro_rf))) (fun j h6 h7 h8 => by rw [rdA_ne h8, rdA_ne h7, rdA_ne h6]) (fun h => ?_)
        rw [rdA_ne (by decide), rdA_ne (by decide), rdA_eq rfl] at h
        exact absurd h (by decide)
      exact ⟨True, fun _ => ⟨fun _ => z0, fun _ => sp_isConstant (fun _ => ⟨fun _ => z0, fun e => absurd rfl e⟩) (fun _ => ⟨fun _ => z0, fun _ => ⟨fun _ => z0, fun _ => add⟩⟩)⟩, fun _ => trivial, fun _ => ⟨fun _ => trivial, fun c2 => by omega⟩⟩
    refine ⟨True, fun _ => tail, fun _ => trivial, fun _ => sp_isConstant (fun _ => ⟨fun _ => trivial, fun e => absurd rfl e⟩) (fun _ => ⟨fun _ => trivial, fun _ => ⟨fun _ => trivial, fun c57 => ⟨fun _ => trivial, fun _ => sk_worked (fun v => ?_)⟩⟩⟩)⟩
    rintro _ rfl
    exact k _ (ro_up ro_rf) (fun j _ _ h8 => rdA_ne h8) (fun _ => ⟨c1, c57⟩)
  · exact ⟨True, fun _ => trivial, fun _ => trivial, fun _ => ⟨fun _ => trivial, fun _ => trivial⟩⟩
  · exact ⟨True, fun _ => trivial, True, fun _ => ⟨fun _ => trivial, fun _ => trivial⟩, fun _ => trivial, fun _ => ⟨fun _ => trivial, fun _ => trivial⟩⟩
theorem sp_operate {v : Int32} {sg : Nat} {Q : St → Prop} (hx : x.toInt = sg) (hs : 41 ≤ sg ∧ sg ≤ 56) (h0 : 0 ≤ (σ 4 1).toInt) (h1 : (σ 4 1).toInt < 262200) (k : ∀ (n : Nat) (op a b c : Int32) s, op.toInt = n → 41 ≤ n → n ≤ 60 → EMi σ s op a b c → Q s) : wk_X2_operate x y v σ Q := by
  unfold wk_X2_operate
  refine ⟨fun z => z.toInt ≠ 0 → 53 ≤ x.toInt, ?_, True, fun _ e => absurd rfl e, fun _ => trivial, fun _ => ⟨fun _ => trivial, fun c => ⟨fun _ => trivial, fun _ _ => c⟩⟩⟩
  intro z hz hzx
  refine ⟨fun w => w = x ∨ (w = x + 4 ∧ 53 ≤ x.toInt), ?_, fun _ => Or.inl rfl, fun c => Or.inr ⟨rfl, hzx c⟩⟩
  rintro w (e | ⟨e, e2⟩)
  · subst e
    exact sk_emit hx (by omega) h0 (by omega) (fun _ s _ em => k sg _ _ _ _ s hx hs.1 (by omega) em)
  · subst e
    have e3 : (x + (4 : Int32)).toInt = ((sg + 4 : Nat) : Int) := by rw [ad0 i4 (by omega) (by omega)]; omega
    exact sk_emit e3 (by omega) h0 (by omega) (fun _ s _ em => k (sg + 4) _ _ _ _ s e3 (by omega) (by omega) em)
/-- a constant is one instruction -/
theorem sp_fold {Q : St → Prop} (h0 : 0 ≤ (σ 4 1).toInt) (h1 : (σ 4 1).toInt < 262200) (hst : (σ q 6).toInt = 1 → 0 ≤ (σ q 9).toInt ∧ (σ q 9).toInt ≤ (σ 4 1).toInt) (hq : q ≠ 4) (k0 : Q σ) (k1 : ∀ (s1 s : St) (v : Int32), (σ q 6).toInt = 1 → Kp [(4, 1)] [] σ s1 → (s1 4 1) = (σ q 9) → EMi s1 s 1 v 0 0 → Q s) : wk_X2_fold q σ Q := by
  unfold wk_X2_fold
  refine ⟨fun _ => k0, fun _ => sp_isConstant (fun _ => ⟨fun _ => k0, fun e => absurd rfl e⟩) (fun c => ⟨fun e => absurd e (by decide), fun _ => sk_cut (hst c).2 (fun s1 hs1 e1 => ?_)⟩)⟩
  have := hst c
  exact sk_emit (n := 1) rfl (by decide) (by rw [e1]; omega) (by rw [e1]; omega) (fun _ s _ em => k1 s1 s _ c hs1 e1 em)
end XOP
