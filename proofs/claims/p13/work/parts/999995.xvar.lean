/-! the class's steps: a string that fills, a variable -/
section XVA
variable {w s r : St} {a b c : Int32} {u : Nat} {Q : St → Prop}
theorem xi_fill (hu : a.toInt = (u : Int)) (hun : u < 16002) (hv : 0 ≤ (w 14 u).toInt ∧ (w 14 u).toInt ≤ 200) (kk : ∀ s, STi w s → s 7 7 = w 7 7 → s 6 3 = w 6 3 → ((s 8 16).toInt ≠ 0 ↔ (w 8 12).toInt < (w 14 u).toInt) → Q s) : pk_X1_fill a w Q := by
  unfold pk_X1_fill
  refine xl_readCodes hu hun hv (fun v s hvv ks => ?_)
  have e12 : s 8 12 = w 8 12 := ks 8 12 rfl rfl
  rw [e12, hvv]
  refine ⟨fun y => (y.toInt ≠ 0 ↔ (w 8 12).toInt < (w 14 u).toInt), fun y _ hy => ⟨fun _ s2 => STi w s2 ∧ s2 7 7 = w 7 7 ∧ s2 6 3 = w 6 3 ∧ ((s2 8 16).toInt ≠ 0 ↔ (w 8 12).toInt < (w 14 u).toInt), ⟨?_, ?_, ?_, ?_⟩, ?_⟩, fun cc => ⟨fun hx => absurd rfl hx, fun hx => by omega⟩, fun cc => ⟨fun _ => cc, fun _ => by decide⟩⟩
  · have k2 : Kp [(8, 16)] [17] w (upC s 8 16 y) := kp_f (kp_sub ks rfl rfl) rfl
    exact sti_kp k2 rfl rfl
  · rw [rdC_ne (by decide), ks 7 7 rfl rfl]
  · rw [rdC_ne (by decide), ks 6 3 rfl rfl]
  · rw [rdA_eq rfl]
    exact hy
  rintro x s2 ⟨g1, g2, g3, g4⟩
  have more : ∀ s3, Kp [(4, 1), (5, 9)] [24, 31, 32, 33] s2 s3 → STi w s3 ∧ s3 7 7 = w 7 7 ∧ s3 6 3 = w 6 3 ∧ ((s3 8 16).toInt ≠ 0 ↔ (w 8 12).toInt < (w 14 u).toInt) := fun s3 k3 => ⟨sti_tr g1 (sti_kp k3 rfl rfl), (k3 7 7 rfl rfl).trans g2, (k3 6 3 rfl rfl).trans g3, by rw [k3 8 16 rfl rfl]; exact g4⟩
  refine ⟨fun _ => kk s2 g1 g2 g3 g4, fun _ => ⟨fun _ => kk s2 g1 g2 g3 g4, fun _ => ⟨fun s3 => STi w s3 ∧ s3 7 7 = w 7 7 ∧ s3 6 3 = w 6 3 ∧ ((s3 8 16).toInt ≠ 0 ↔ (w 8 12).toInt < (w 14 u).toInt), fun s3 h3 => h3, fun _ => ?_, fun _ => xl_emit (fun _ s3 k3 => more s3 (kp_sub k3 rfl rfl))⟩⟩⟩
  unfold pk_X8_addInitial
  exact more _ (kp_f (kp_F (kp_F (kp_F kp_rf rfl) rfl) rfl) rfl)
/-- the size that a variable gets -/
def EXw (w : St) : Int := if 0 ≤ (w 8 6).toInt then (if 1 ≤ (w 8 7).toInt ∧ (w 8 7).toInt ≤ 4000 then (w 8 7).toInt else 0) else -1
theorem xv_variable (h66 : 0 ≤ (w 6 6).toInt) (kk : ∀ (w2 : St) (y : Int32), Kp [(8, 9), (8, 11), (8, 12), (8, 13), (8, 15), (8, 16)] [] w w2 → w2 8 11 = b → (w2 8 12).toInt = EXw w → (w2 8 15).toInt = 0 → (w2 8 16).toInt = 0 → (w2 8 9).toInt ≠ 0 → ((w2 8 13).toInt ≠ 0 ↔ (c &&& (3 : Int32)).toInt = 2) → (y.toInt ≠ 0 ↔ (c &&& (4 : Int32)).toInt ≠ 0) → pk_X1_local a y w2 (fun s => Q (upC s 8 6 ((-1) : Int32)))) : pk_X1_variable a b c w Q := by
  unfold pk_X1_variable
  refine ⟨fun y => (y.toInt ≠ 0 ↔ (c &&& (4 : Int32)).toInt ≠ 0), fun y _ hy => ⟨fun x => x.toInt = EXw w, fun x hx => ⟨fun y2 => y2.toInt ≠ 0, fun y2 _ h2 => ⟨fun y3 => (y3.toInt ≠ 0 ↔ (c &&& (3 : Int32)).toInt = 2), fun y3 _ h3 => ⟨fun cc => absurd cc h2, fun _ => kk _ y (kp_f (kp_f (kp_f (kp_f (kp_f (kp_f kp_rf rfl) rfl) rfl) rfl) rfl) rfl) ?_ ?_ ?_ ?_ ?_ ?_ hy⟩, fun cc => ⟨fun hx => absurd rfl hx, fun hx => absurd hx cc⟩, fun cc => ⟨fun _ => cc, fun _ => by decide⟩⟩, fun cc => by omega, fun _ => by decide⟩, fun cc => ⟨EXw w = 0, fun hj => hj.symm, fun c1 => ?_, fun c1 => ⟨fun c2 => ?_, fun c2 => ?_⟩⟩, fun cc => ?_⟩, fun cc => ⟨fun hx => absurd rfl hx, fun hx => absurd cc hx⟩, fun cc => ⟨fun _ => cc, fun _ => by decide⟩⟩
  · rw [rdA_ne (by decide), rdA_ne (by decide), rdA_ne (by decide), rdA_ne (by decide), rdA_ne (by decide), rdA_eq rfl]
  · rw [rdA_ne (by decide), rdA_ne (by decide), rdA_ne (by decide), rdA_ne (by decide), rdA_eq rfl]
    exact hx
  · rw [rdA_ne (by decide), rdA_ne (by decide), rdA_ne (by decide), rdA_eq rfl]
    rfl
  · rw [rdA_ne (by decide), rdA_ne (by decide), rdA_eq rfl]
    rfl
  · rw [rdA_ne (by decide), rdA_eq rfl]
    exact h2
  · rw [rdA_eq rfl]
    exact h3
  · unfold EXw
    rw [if_pos cc, if_neg (fun h => by omega)]
  · unfold EXw
    rw [if_pos cc, if_neg (fun h => by omega)]
  · show (w 8 7).toInt = EXw w
    unfold EXw
    rw [if_pos cc, if_pos ⟨c1, c2⟩]
  · show ((-1 : Int32)).toInt = EXw w
    unfold EXw
    rw [if_neg (fun h => by omega)]
    rfl
end XVA
