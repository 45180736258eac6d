section
/-! worlds with a pool behind them; what constructors make -/
section LPO
variable {D : va_G} {cl : List vw_C} {H H1 : Heap} {A : Nat → Prop}
theorem l_memP {ws : va_W} : va_P D cl ws H ↔ ∀ q, q ∈ ws → va_at D cl q H := by
  constructor
  · intro h q hq
    obtain ⟨k, hk⟩ := List.getElem?_of_mem hq
    exact h k q hk
  · intro h k q hk
    exact h q (List.mem_of_getElem? hk)
theorem l_permP {ws ws' : va_W} (h : va_P D cl ws H) (hp : ∀ q, q ∈ ws' → q ∈ ws) : va_P D cl ws' H := l_memP.mpr (fun q hq => l_memP.mp h q (hp q hq))
theorem l_appD {a b : va_W} : va_D A (a ++ b) ↔ va_D A a ∧ va_D A b ∧ ∀ (i j : Nat) (p q : Nat × va_E), a[i]? = some p → b[j]? = some q → p.1 ≠ q.1 := by
  constructor
  · rintro ⟨h1, h2⟩
    have ea : ∀ {i : Nat} {p : Nat × va_E}, a[i]? = some p → (a ++ b)[i]? = some p := fun {i p} h => by
      rw [List.getElem?_append_left (List.getElem?_eq_some_iff.mp h).1]; exact h
    have eb : ∀ {j : Nat} {q : Nat × va_E}, b[j]? = some q → (a ++ b)[a.length + j]? = some q := fun {j q} h => by
      rw [List.getElem?_append_right (Nat.le_add_right _ _), Nat.add_sub_cancel_left]; exact h
    refine ⟨⟨fun i j p q hi hj e => h1 i j p q (ea hi) (ea hj) e, fun k q hk => h2 k q (ea hk)⟩, ⟨fun i j p q hi hj e => ?_, fun k q hk => h2 _ q (eb hk)⟩, fun i j p q hi hj e => ?_⟩
    · have := h1 _ _ p q (eb hi) (eb hj) e
      omega
    · have := h1 _ _ p q (ea hi) (eb hj) e
      have := (List.getElem?_eq_some_iff.mp hi).1
      omega
  · rintro ⟨h1, h2, h3⟩
    exact va_D.app h1 h2 h3
theorem l_appP {a b : va_W} : va_P D cl (a ++ b) H ↔ va_P D cl a H ∧ va_P D cl b H := by
  rw [l_memP, l_memP, l_memP]
  constructor
  · exact fun h => ⟨fun q hq => h q (List.mem_append_left _ hq), fun q hq => h q (List.mem_append_right _ hq)⟩
  · rintro ⟨h1, h2⟩ q hq
    rcases List.mem_append.mp hq with h | h
    · exact h1 q h
    · exact h2 q h
theorem l_swapP {a b : va_W} (h : va_P D cl (a ++ b) H) : va_P D cl (b ++ a) H := l_appP.mpr ⟨(l_appP.mp h).2, (l_appP.mp h).1⟩
theorem l_swapD {a b : va_W} (h : va_D A (a ++ b)) : va_D A (b ++ a) := by
  obtain ⟨h1, h2, h3⟩ := l_appD.mp h
  exact l_appD.mpr ⟨h2, h1, fun i j p q hi hj e => h3 j i q p hj hi e.symm⟩
/-- what was made last goes before the pool -/
theorem l_mvP {E T : va_W} {x : Nat × va_E} (h : va_P D cl ((E ++ T) ++ [x]) H) : va_P D cl ((E ++ [x]) ++ T) H := by
  rw [List.append_assoc] at h
  obtain ⟨h1, h2⟩ := l_appP.mp h
  rw [List.append_assoc]
  exact l_appP.mpr ⟨h1, l_swapP h2⟩
theorem l_mvD {E T : va_W} {x : Nat × va_E} (h : va_D A ((E ++ T) ++ [x])) : va_D A ((E ++ [x]) ++ T) := by
  rw [List.append_assoc] at h
  obtain ⟨h1, h2, h3⟩ := l_appD.mp h
  rw [List.append_assoc]
  refine l_appD.mpr ⟨h1, l_swapD h2, fun i j p q hi hj e => ?_⟩
  have hm : q ∈ T ++ [x] := by
    have := List.mem_of_getElem? hj
    rcases List.mem_append.mp this with z | z
    · exact List.mem_append_right _ z
    · exact List.mem_append_left _ z
  obtain ⟨k, hk⟩ := List.getElem?_of_mem hm
  exact h3 i k p q hi hk e
/-- the last of the world goes behind the pool -/
theorem l_rotP {E T : va_W} {x : Nat × va_E} (h : va_P D cl ((E ++ [x]) ++ T) H) : va_P D cl (E ++ (T ++ [x])) H := by
  rw [List.append_assoc] at h
  obtain ⟨h1, h2⟩ := l_appP.mp h
  exact l_appP.mpr ⟨h1, l_swapP h2⟩
theorem l_rotD {E T : va_W} {x : Nat × va_E} (h : va_D A ((E ++ [x]) ++ T)) : va_D A (E ++ (T ++ [x])) := by
  have h := l_swapD (a := T) (b := E ++ [x]) (l_swapD h)
  rw [List.append_assoc] at h
  obtain ⟨h1, h2, h3⟩ := l_appD.mp h
  refine l_appD.mpr ⟨h1, l_swapD h2, fun i j p q hi hj e => ?_⟩
  have hm : q ∈ [x] ++ T := by
    have := List.mem_of_getElem? hj
    rcases List.mem_append.mp this with z | z
    · exact List.mem_append_right _ z
    · exact List.mem_append_left _ z
  obtain ⟨k, hk⟩ := List.getElem?_of_mem hm
  exact h3 i k p q hi hk e
theorem l_subP {ws ws' T : va_W} (h : va_P D cl (ws ++ T) H) (is : List Nat) (hs : is.filterMap (fun i => ws[i]?) = ws') : va_P D cl (ws' ++ T) H :=
  l_appP.mpr ⟨(l_appP.mp h).1.sub is hs, (l_appP.mp h).2⟩
theorem l_subD {ws ws' T : va_W} (h : va_D A (ws ++ T)) (is : List Nat) (hn : va_nd is = true) (hs : is.map (fun i => ws[i]?) = ws'.map some) : va_D A (ws' ++ T) := by
  obtain ⟨h1, h2, h3⟩ := l_appD.mp h
  refine l_appD.mpr ⟨h1.sub is hn hs, h2, fun i j p q hi hj e => ?_⟩
  have h4 : (is.map (fun i => ws[i]?))[i]? = some (some p) := by rw [hs, List.getElem?_map, hi]; rfl
  rw [List.getElem?_map] at h4
  cases hk : is[i]? with
  | none => rw [hk] at h4; cases h4
  | some k =>
    rw [hk] at h4
    exact h3 k j p q (Option.some.inj h4) hj e
theorem l_mapD {ws ws' : va_W} (h : va_D A ws) (e : ws'.map (fun q => q.1) = ws.map (fun q => q.1)) : va_D A ws' := by
  have g : ∀ {i : Nat} {p : Nat × va_E}, ws'[i]? = some p → ∃ p', ws[i]? = some p' ∧ p'.1 = p.1 := fun {i p} hi => by
    have h1 : (ws'.map (fun q => q.1))[i]? = some p.1 := by rw [List.getElem?_map, hi]; rfl
    rw [e, List.getElem?_map] at h1
    cases hk : ws[i]? with
    | none => rw [hk] at h1; cases h1
    | some p' =>
      rw [hk] at h1
      exact ⟨p', rfl, Option.some.inj h1⟩
  refine ⟨fun i j p q hi hj hpq => ?_, fun k q hk => ?_⟩
  · obtain ⟨p', a1, a2⟩ := g hi
    obtain ⟨q', b1, b2⟩ := g hj
    exact h.1 i j p' q' a1 b1 (by rw [a2, b2, hpq])
  · obtain ⟨q', b1, b2⟩ := g hk
    rw [← b2]
    exact h.2 k q' b1
end LPO
def ozs : List Value := [.int 0, .int 0, .int 0, .int 0, .int 0, .int 0, .int 0, .int 0, .int 0, .int 0, .int 0, .int 0, .int 0]
def opsI (q : Nat → Nat) (n : Nat) : va_W := (List.range n).map (fun k => (q k, .inr (6, ozs)))
theorem l_nilP {D : va_G} {cl : List vw_C} {H : Heap} {ws : va_W} {q : Nat → Nat} (h : va_P D cl ws H) : va_P D cl (ws ++ opsI q 0) H := by
  rw [show opsI q 0 = [] from rfl, List.append_nil]; exact h
theorem l_nilD {A : Nat → Prop} {ws : va_W} {q : Nat → Nat} (h : va_D A ws) : va_D A (ws ++ opsI q 0) := by
  rw [show opsI q 0 = [] from rfl, List.append_nil]; exact h
def q_up (q : Nat → Nat) (i a : Nat) : Nat → Nat := fun k => if k = i then a else q k
theorem opsI_succ {q : Nat → Nat} {i a : Nat} : opsI (q_up q i a) (i + 1) = opsI q i ++ [(a, .inr (6, ozs))] := by
  unfold opsI
  rw [List.range_succ, List.map_append]
  congr 1
  · refine List.map_congr_left (fun k hk => ?_)
    have := List.mem_range.mp hk
    unfold q_up
    rw [if_neg (by omega)]
  · unfold q_up
    simp
theorem l_row {D : va_G} {cl : List vw_C} {H : Heap} {q n : Nat} {c : ClassId} {f g : Nat → Option Nat} (h : va_at D cl (q, .inl (c, n, .inr (.inr (.inr (.inr f))))) H) (hfg : ∀ k, k < n → f k = g k) : va_at D cl (q, .inl (c, n, .inr (.inr (.inr (.inr g))))) H := by
  have e : arrV c n (fun j => va_rf (f j)) = arrV c n (fun j => va_rf (g j)) := by
    unfold arrV
    congr 1
    refine Array.ext (by simp) (fun i h1 h2 => ?_)
    simp at h1 ⊢
    rw [hfg i h1]
  show H[q]? = some (arrV c n (fun j => va_rf (g j)))
  rw [← e]
  exact h
section LCQ
variable {p : Program} {l : Launch} {e : Env} {R : Room} {s : State} {m : MethodId} {args : Array Value} {below : List Frame} {meth : Method} {c : Code} {H : Heap} {locs : List Loc} {cells slots mc ms : Nat} {Q : State → Prop} {D : va_G} {cy : Nat → ClassId} {A : Nat → Prop} {H0 : Heap} {ls : Array Slot} {st0 rest : List Value} {pc : Nat} {ws pl : va_W} {a : Array Value}
theorem k_callvQ {X : Type} {post : X → Prop} {w1 : X → va_W} {wc wr : va_W}
    (hr : va_Run p l e R s m args below meth c H locs cells slots mc ms (F0 m pc ls st0) rest (va_Qv post (fun u => kPost D cy (va_A wc H.size) (w1 u)) (va_A wc H.size) a) (va_A wc H.size))
    (hP : va_P D vwCl (ws ++ pl) H) (hD : va_D A (ws ++ pl)) (hS : va_S A H0 H locs) (hA : ∀ q, H0.size ≤ q → A q) (isC isR : List Nat) (hC : isC.map (fun i => ws[i]?) = wc.map some) (hR : isR.map (fun i => ws[i]?) = wr.map some) (hn : va_nd isR = true) (hdis : ∀ i ∈ isR, i ∉ isC)
    (kk : ∀ (u : X) (H1 : Heap) (locs1 : List Loc), post u → va_P D vwCl ((wr ++ w1 u) ++ pl) H1 → va_D A ((wr ++ w1 u) ++ pl) → va_S A H0 H1 locs1 → W p l e R s m args below meth c H1 locs1 (cells + mc) (slots + ms) Q (F0 m (pc + 3) ls rest)) : W p l e R s m args below meth c H locs cells slots Q (F0 m pc ls st0) := by
  have hF : ∀ q, va_A wc H.size q → A q := va_free (wc := wc) (l_appD.mp hD).1 hS hA isC hC
  refine va_callv hr hS (fun q _ h => hF q h) hF (fun u t H1 locs1 ht hvm hw hB hz1 hk1 hS1 => ?_)
  obtain ⟨hP1, hK1, hD1⟩ := hB
  rw [ht] at hP1
  obtain ⟨hP2, hD2⟩ := va_joinQ (wr := wr) hP hD isC isR hC hR hn hdis hk1 hF hP1 hD1
  exact kk u H1 locs1 hw hP2 hD2 hS1
end LCQ
theorem m_22 : Cond.initialized "java/lang/IllegalStateException" ∈ GW := tw_1 22 rfl rfl
theorem m_86 : Cond.arrayClass .byte ∈ GW := tw_1 86 rfl rfl
theorem m_87 : Cond.arrayClass .int ∈ GW := tw_1 87 rfl rfl
theorem m_2166 : Cond.arrayClass .boolean ∈ GW := tw_10 6 rfl rfl
/-! the words and statics of an exception that is made -/
def isDC : Cond → Bool
  | .declares _ => true
  | .castable _ _ => true
  | _ => false
def xAt : List Cond := vx_at0 "LinkedUnitsModel" 31 "java/lang/IllegalStateException" ["java/lang/RuntimeException", "java/lang/Exception"]
def xAtN : List Cond := xAt.filter (fun w => !goodWord w)
theorem xAt_in : ∀ w ∈ xAt, w ∈ lw_tbl := by decide +kernel
theorem xAtN_dc : ∀ w ∈ xAtN, isDC w = true ∧ w.onTables = true := by decide +kernel
theorem xAt_good : ∀ w ∈ Cond.classLink "LinkedUnitsModel" 29 "java/lang/IllegalStateException" :: Cond.initialized "java/lang/IllegalStateException" :: xAt, vx_ot w = true := by decide +kernel
theorem xAt_at {args : Array Value} {s : State} (hg : ∀ w ∈ GW, w.before args s = true) (hN : ∀ w ∈ xAtN, va_Nw w s) : ∀ w ∈ xAt, w.before args s = true :=
  vx_hat (B := xAtN) (fun w hw => hg w (List.mem_filter.mpr ⟨xAt_in w (List.mem_filter.mp hw).1, (List.mem_filter.mp hw).2⟩)) (fun _ hw => hw) (fun w hw => va_Nw.use (xAtN_dc w hw).2 (hN w hw))
theorem xAtN_warm {s U : State} (hW : s.WarmedH U.vm) {w : Cond} (h : isDC w = true) (hz : va_Nw w s) : va_Nw w U := by
  cases w <;> first | exact va_Nw.warmD hW hz | exact va_Nw.warmC hW hz | (simp [isDC] at h)
def mEnv (A : Nat → Prop) (U : State) : Prop :=
  (∀ w ∈ xAtN, va_Nw w U) ∧ vx_Zq Bundle.tN "UNASSIGNED_STACK" Bundle.steD A U U.heap ∧ vx_Zq Bundle.tN "SUPPRESSED_SENTINEL" Bundle.listD A U U.heap
theorem mEnv_ok : EnvOK mEnv := by
  intro A B s U hW hq hAB h
  obtain ⟨h1, h2, h3⟩ := h
  exact ⟨fun w hw => xAtN_warm hW (xAtN_dc w hw).1 (h1 w hw), (vx_Zq.moved hW.alike (h2.kept hq)).narrow hAB, (vx_Zq.moved hW.alike (h3.kept hq)).narrow hAB⟩
def sNm : Nat → Int32 := (upd (upd (upd (upd (upd (upd (upd (upd (upd (upd (upd (upd (upd (upd (upd (fun _ => 0) (0 : Int32).toNatClampNeg (vp_nar .byte 103)) (1 : Int32).toNatClampNeg (vp_nar .byte 101)) (2 : Int32).toNatClampNeg (vp_nar .byte 116)) (3 : Int32).toNatClampNeg (vp_nar .byte 112)) (4 : Int32).toNatClampNeg (vp_nar .byte 117)) (5 : Int32).toNatClampNeg (vp_nar .byte 116)) (6 : Int32).toNatClampNeg (vp_nar .byte 112)) (7 : Int32).toNatClampNeg (vp_nar .byte 114)) (8 : Int32).toNatClampNeg (vp_nar .byte 105)) (9 : Int32).toNatClampNeg (vp_nar .byte 110)) (10 : Int32).toNatClampNeg (vp_nar .byte 116)) (11 : Int32).toNatClampNeg (vp_nar .byte 115)) (12 : Int32).toNatClampNeg (vp_nar .byte 116)) (13 : Int32).toNatClampNeg (vp_nar .byte 111)) (14 : Int32).toNatClampNeg (vp_nar .byte 112))
def sFl : Nat → Int32 := (upd (upd (upd (upd (fun _ => 0) (0 : Int32).toNatClampNeg 5) (1 : Int32).toNatClampNeg 5) (2 : Int32).toNatClampNeg 5) (3 : Int32).toNatClampNeg 5)
def sNe : Nat → Int32 := (upd (upd (upd (upd (fun _ => 0) (0 : Int32).toNatClampNeg 3) (1 : Int32).toNatClampNeg 6) (2 : Int32).toNatClampNeg 11) (3 : Int32).toNatClampNeg 15)
def sDe : Nat → Int32 := (upd (fun _ => 0) (0 : Int32).toNatClampNeg 4)
def sMa : Nat → Int32 := (upd (upd (upd (upd (fun _ => 0) (0 : Int32).toNatClampNeg (vp_nar .byte 109)) (1 : Int32).toNatClampNeg (vp_nar .byte 97)) (2 : Int32).toNatClampNeg (vp_nar .byte 105)) (3 : Int32).toNatClampNeg (vp_nar .byte 110))
def oLU (r : Nat → Nat) : List Value := [.ref (r 1), .int 0, .int 0, .int (-1), .ref (r 2), .ref (r 3), .ref (r 4), .ref (r 5), .ref (r 6), .ref (r 7), .ref (r 8), .ref (r 9), .ref (r 10), .ref (r 11), .ref (r 12)]
def oTok (r : Nat → Nat) : List Value := [.ref (r 1), .int 0, .int 0, .int 0, .int 0, .ref (r 13), .ref (r 14), .ref (r 15), .ref (r 16), .ref (r 17)]
def oGra (r : Nat → Nat) : List Value := [.ref (r 2), .int 0, .int 0, .int 0, .int 0, .ref (r 18), .ref (r 19), .ref (r 20), .ref (r 21), .int 0, .ref (r 22), .ref (r 23)]
def oCod (r : Nat → Nat) : List Value := [.ref (r 24), .int 0]
def oSto (r : Nat → Nat) : List Value := [.ref (r 4), .int 4, .ref (r 25), .ref (r 26), .ref (r 27), .ref (r 28), .ref (r 29), .int 15, .ref (r 30), .int 0, .ref (r 31), .ref (r 32), .ref (r 33), .int 0, .ref (r 34), .ref (r 35), .ref (r 36), .ref (r 37)]
def oUni (r : Nat → Nat) : List Value := [.ref (r 2), .ref (r 5), .int 0, .int 0, .int 0, .int 0, .int 0, .int 0, .ref (r 38), .ref (r 39), .int 0, .ref (r 40), .ref (r 41), .ref (r 42), .ref (r 43), .int 0, .ref (r 44), .int 0, .ref (r 45)]
def oExp (r : Nat → Nat) : List Value := [.ref (r 3), .ref (r 2), .ref (r 6), .ref (r 5), .ref (r 4), .ref (r 46), .ref (r 47), .int 0]
def oDec (r : Nat → Nat) : List Value := [.ref (r 3), .ref (r 2), .ref (r 6), .ref (r 5), .ref (r 4), .ref (r 7), .int 0, .int 0, .int 0, .int 0, .int 0, .int 0, .int 0, .int 0, .int 0, .int 0, .int 0, .ref (r 48)]
def oSta (r : Nat → Nat) : List Value := [.ref (r 3), .ref (r 6), .ref (r 4), .ref (r 7), .ref (r 8), .int 0, .ref (r 49), .ref (r 50), .ref (r 51), .ref (r 52), .ref (r 53), .ref (r 54)]
def oIma (r : Nat → Nat) : List Value := [.ref (r 5), .ref (r 55), .int 0, .int (-1), .int (-1), .int 1, .ref (r 56), .int 0, .ref (r 57), .ref (r 58), .ref (r 59), .int 0]
def oTap (r : Nat → Nat) : List Value := [.int 0, .int 0, .int 0, .ref (r 60), .ref (r 61)]
def oMac (r : Nat → Nat) : List Value := [.ref (r 5), .ref (r 10), .ref (r 11), .ref (r 24), .ref (r 62), .ref (r 63), .ref (r 64), .int 0, .int 0, .int 0, .int 0, .int 0, .int 0, .int 0, .int 0, .int 0, .int (-1), .int 0, .int 0]
def oMo (r : Nat → Nat) : List Value := [.ref (r 1), .int 0, .int 0, .ref (r 4), .ref (r 5), .ref (r 6), .ref (r 7), .ref (r 8), .int 0, .int 0, .int 0, .ref (r 12), .int 0, .int 0, .int (-1), .int 0, .ref (r 17), .int 0, .ref (r 19), .ref (r 20), .ref (r 21), .ref (r 22), .ref (r 23), .ref (r 24), .ref (r 25), .ref (r 26), .ref (r 27), .ref (r 28), .ref (r 29), .ref (r 30), .ref (r 31), .int 0, .ref (r 33), .ref (r 34), .ref (r 35), .int 0, .int 0, .int 0, .ref (r 39), .int 0, .ref (r 41), .ref (r 42), .ref (r 43), .ref (r 44), .ref (r 45), .int 0, .ref (r 47), .ref (r 48), .ref (r 49), .int 0, .ref (r 51), .ref (r 52), .ref (r 53), .int 0, .int 0, .int 0, .int 0, .int 0, .int 0, .int 0, .int 0, .ref (r 62), .ref (r 63), .ref (r 64), .int 0, .int 0, .ref (r 67), .int 0, .ref (r 69), .ref (r 70), .int (-1), .int (-1), .int (-1), .int 0, .int 0, .ref (r 76), .ref (r 77), .ref (r 78), .int 0, .ref (r 80), .ref (r 81), .int 0, .ref (r 83), .ref (r 84), .ref (r 85), .ref (r 86), .int 0, .ref (r 88), .int 0, .int 0, .ref (r 91), .int 0, .int 0, .int 0, .int 0, .int 0, .int 0, .int 0, .int 0, .ref (r 100)]
def sTy : Nat → Int32 := (upd (upd (upd (upd (fun _ => 0) (0 : Int32).toNatClampNeg 0) (1 : Int32).toNatClampNeg (-1)) (2 : Int32).toNatClampNeg (-1)) (3 : Int32).toNatClampNeg (-1))
def sEx : Nat → Int32 := (upd (upd (upd (upd (fun _ => 0) (0 : Int32).toNatClampNeg 0) (1 : Int32).toNatClampNeg 16777216) (2 : Int32).toNatClampNeg 16777216) (3 : Int32).toNatClampNeg 16777216)
def sVa : Nat → Int32 := (upd (upd (upd (upd (fun _ => 0) (0 : Int32).toNatClampNeg (-1)) (1 : Int32).toNatClampNeg (-2)) (2 : Int32).toNatClampNeg (-3)) (3 : Int32).toNatClampNeg (-4))
end

section
theorem gw_SX {own : String} {idx : Nat} {y : MethodName} {c : Cond} (h1 : Cond.methodLink own idx y ∈ GW) (h2 : Cond.static y ∈ GW) (h4 : Cond.initialized y.cls ∈ GW) (h5 : c ∈ GW) : GoodIn GW (va_wsS own idx y (c :: GW)) :=
  gw_good (fun w hw => by
    simp only [va_wsS, List.mem_append, List.mem_cons, List.not_mem_nil, or_false] at hw
    rcases hw with (rfl | rfl | rfl) | rfl | h <;> assumption)
set_option maxHeartbeats 4000000 in
set_option maxRecDepth 100000 in
theorem c_chk_null (l : Launch) (D : va_G) (cy : Nat → ClassId) (sz : Nat) (k : Int32) (hk : vp_in k 19) : Met l y_Preconditions_checkIndex (Cond.code y_Preconditions_checkIndex b_Preconditions_checkIndex 3 (some .int) :: GW) ({ frames := 0, cells := 0, slots := 0, locals := 0 }) (va_Pc [.int k, .int 19, .null] (kPre D cy sz [])) ((fun A : Nat → Prop => va_Qi (S := Unit) (fun (r : Int32) (_ : Unit) => r = k) (fun _ => kPost D cy A []) A) (va_A [] sz)) 0 0 (va_A [] sz) := by
  refine k_ofW (Qc := fun A => va_Qi (S := Unit) (fun (r : Int32) (_ : Unit) => r = k) (fun _ => kPost D cy A []) A) (by decide) (Nat.le_of_ble_eq_true rfl) ?_
  intro p e s m below meth c A ls hx hb hr hml hown hlocks hin hg hNW hK hP hD hA hS hl
  have hl : lv_has ls 3 [(0, .int k), (1, .int 19), (2, .null)] := hl
  have hown : s.vm.findClass "jdk/internal/util/Preconditions" = some m.cls := hown
  refine lv_iload_n hx hb d_Preconditions_checkIndex_0 rfl (lv_at hl 0 rfl) ?_
  refine lv_if_lt (tgt := 9) hx hb d_Preconditions_checkIndex_1 (by decide) (fun c_1 => False.elim (hk (Or.inl c_1))) (fun c_1 => ?_)
  refine lv_iload_n hx hb d_Preconditions_checkIndex_4 rfl (lv_at hl 0 rfl) ?_
  refine lv_iload_n hx hb d_Preconditions_checkIndex_5 rfl (lv_at hl 1 rfl) ?_
  refine lv_icmp_lt (tgt := 16) hx hb d_Preconditions_checkIndex_6 (by decide) (fun c_6 => ?_) (fun c_6 => False.elim (c_6 (show k < (19 : Int32) from k_in_lt (n := 19) (by decide) hk)))
  refine lv_iload_n hx hb d_Preconditions_checkIndex_16 rfl (lv_at hl 0 rfl) ?_
  refine W.widen (k := 0) (n := 0) (Nat.le_of_ble_eq_true rfl) (Nat.le_of_ble_eq_true rfl) ?_
  exact k_iret (X := Unit) (w1 := fun _ => []) () hx hb hr d_Preconditions_checkIndex_17 hlocks (hP.sub [] rfl) hK (hD.sub [] (by decide) rfl) hS rfl
set_option maxHeartbeats 4000000 in
set_option maxRecDepth 100000 in
theorem c_chk_ref (l : Launch) (D : va_G) (cy : Nat → ClassId) (sz : Nat) (fz : Nat) (k : Int32) (hk : vp_in k 19) : Met l y_Preconditions_checkIndex (Cond.code y_Preconditions_checkIndex b_Preconditions_checkIndex 3 (some .int) :: GW) ({ frames := 0, cells := 0, slots := 0, locals := 0 }) (va_Pc [.int k, .int 19, .ref fz] (kPre D cy sz [])) ((fun A : Nat → Prop => va_Qi (S := Unit) (fun (r : Int32) (_ : Unit) => r = k) (fun _ => kPost D cy A []) A) (va_A [] sz)) 0 0 (va_A [] sz) := by
  refine k_ofW (Qc := fun A => va_Qi (S := Unit) (fun (r : Int32) (_ : Unit) => r = k) (fun _ => kPost D cy A []) A) (by decide) (Nat.le_of_ble_eq_true rfl) ?_
  intro p e s m below meth c A ls hx hb hr hml hown hlocks hin hg hNW hK hP hD hA hS hl
  have hl : lv_has ls 3 [(0, .int k), (1, .int 19), (2, .ref fz)] := hl
  have hown : s.vm.findClass "jdk/internal/util/Preconditions" = some m.cls := hown
  refine lv_iload_n hx hb d_Preconditions_checkIndex_0 rfl (lv_at hl 0 rfl) ?_
  refine lv_if_lt (tgt := 9) hx hb d_Preconditions_checkIndex_1 (by decide) (fun c_1 => False.elim (hk (Or.inl c_1))) (fun c_1 => ?_)
  refine lv_iload_n hx hb d_Preconditions_checkIndex_4 rfl (lv_at hl 0 rfl) ?_
  refine lv_iload_n hx hb d_Preconditions_checkIndex_5 rfl (lv_at hl 1 rfl) ?_
  refine lv_icmp_lt (tgt := 16) hx hb d_Preconditions_checkIndex_6 (by decide) (fun c_6 => ?_) (fun c_6 => False.elim (c_6 (show k < (19 : Int32) from k_in_lt (n := 19) (by decide) hk)))
  refine lv_iload_n hx hb d_Preconditions_checkIndex_16 rfl (lv_at hl 0 rfl) ?_
  refine W.widen (k := 0) (n := 0) (Nat.le_of_ble_eq_true rfl) (Nat.le_of_ble_eq_true rfl) ?_
  exact k_iret (X := Unit) (w1 := fun _ => []) () hx hb hr d_Preconditions_checkIndex_17 hlocks (hP.sub [] rfl) hK (hD.sub [] (by decide) rfl) hS rfl
set_option maxHeartbeats 4000000 in
set_option maxRecDepth 100000 in
theorem c_schk (l : Launch) (D : va_G) (cy : Nat → ClassId) (sz : Nat) (sa sv : Nat) (k : Int32) (hk : vp_in k 19) : Met l y_String_checkIndex (Cond.code y_String_checkIndex b_String_checkIndex 2 none :: GW) ({ frames := 1, cells := 0, slots := 0, locals := 22 }) (va_Pc [.int k, .int 19] (kPreE D cy sz [] (sEnv sa sv))) ((fun A : Nat → Prop => va_Qv (S := Unit) (fun (_ : Unit) => True) (fun _ => kPost D cy A []) A) (va_A [] sz)) 0 0 (va_A [] sz) := by
  refine k_ofWE (Qc := fun A => va_Qv (S := Unit) (fun (_ : Unit) => True) (fun _ => kPost D cy A []) A) (by decide) (Nat.le_of_ble_eq_true rfl) ?_
  intro p e s m below meth c A ls hx hb hr hml hown hlocks hin hg hNW hK hP hD hA hS hl hE
  have hl : lv_has ls 2 [(0, .int k), (1, .int 19)] := hl
  have hown : s.vm.findClass "java/lang/String" = some m.cls := hown
  refine lv_iload_n hx hb d_String_checkIndex_0 rfl (lv_at hl 0 rfl) ?_
  refine lv_iload_n hx hb d_String_checkIndex_1 rfl (lv_at hl 1 rfl) ?_
  rcases hE.2.2.2.2.2.2 with hz | ⟨fz, hz⟩
  · refine va_gets hx hb hz hS hown (hg _ m_195) (fun _ h9 => h9) d_String_checkIndex_2 ?_
    refine k_calli (wc := []) (wr := []) (va_runS (As := [.int k, .int 19, .null]) (rest := []) ⟨hx, hb, hml, hown, hg⟩ (c_chk_null l D cy s.heap.size k hk) (va_cwS 3 hg (gw_SX m_197 m_198 m_8 m_199) rfl rfl rfl (by decide +kernel) ⟨(Nat.le_of_ble_eq_true rfl), (Nat.le_of_ble_eq_true rfl)⟩) (k_preS hP hD hK hNW [] (by decide) rfl) rfl rfl hl.1 rfl (lv_room (Nat.le_of_ble_eq_true rfl)) d_String_checkIndex_5 ⟨(Nat.le_of_ble_eq_true rfl), (Nat.le_of_ble_eq_true rfl)⟩) hP hD hS hA [] [] rfl rfl (by decide) (by decide) (fun r1 u1 H locs hw hP hD hS => ?_)
    have hP : va_P D vwCl [] H := hP
    have hD : va_D A [] := hD
    obtain rfl : r1 = k := hw
    refine lv_pop hx hb d_String_checkIndex_8 rfl ?_
    refine W.widen (k := 0) (n := 0) (Nat.le_of_ble_eq_true rfl) (Nat.le_of_ble_eq_true rfl) ?_
    exact k_vret (X := Unit) (w1 := fun _ => []) () hx hb hr d_String_checkIndex_9 hlocks (hP.sub [] rfl) hK (hD.sub [] (by decide) rfl) hS trivial
  · refine va_gets hx hb hz hS hown (hg _ m_195) (fun _ h9 => h9) d_String_checkIndex_2 ?_
    refine k_calli (wc := []) (wr := []) (va_runS (As := [.int k, .int 19, .ref fz]) (rest := []) ⟨hx, hb, hml, hown, hg⟩ (c_chk_ref l D cy s.heap.size fz k hk) (va_cwS 3 hg (gw_SX m_197 m_198 m_8 m_199) rfl rfl rfl (by decide +kernel) ⟨(Nat.le_of_ble_eq_true rfl), (Nat.le_of_ble_eq_true rfl)⟩) (k_preS hP hD hK hNW [] (by decide) rfl) rfl rfl hl.1 rfl (lv_room (Nat.le_of_ble_eq_true rfl)) d_String_checkIndex_5 ⟨(Nat.le_of_ble_eq_true rfl), (Nat.le_of_ble_eq_true rfl)⟩) hP hD hS hA [] [] rfl rfl (by decide) (by decide) (fun r2 u2 H locs hw hP hD hS => ?_)
    have hP : va_P D vwCl [] H := hP
    have hD : va_D A [] := hD
    obtain rfl : r2 = k := hw
    refine lv_pop hx hb d_String_checkIndex_8 rfl ?_
    refine W.widen (k := 0) (n := 0) (Nat.le_of_ble_eq_true rfl) (Nat.le_of_ble_eq_true rfl) ?_
    exact k_vret (X := Unit) (w1 := fun _ => []) () hx hb hr d_String_checkIndex_9 hlocks (hP.sub [] rfl) hK (hD.sub [] (by decide) rfl) hS trivial
set_option maxHeartbeats 4000000 in
set_option maxRecDepth 100000 in
theorem c_lcharAt (l : Launch) (D : va_G) (cy : Nat → ClassId) (sz : Nat) (sa sv : Nat) (k : Int32) (hk : vp_in k 19) : Met l y_StringLatin1_charAt (Cond.code y_StringLatin1_charAt b_StringLatin1_charAt 2 (some .char) :: GW) ({ frames := 2, cells := 0, slots := 0, locals := 43 }) (va_Pc [.ref sv, .int k] (kPreE D cy sz [] (sEnv sa sv))) ((fun A : Nat → Prop => va_Qi (S := Unit) (fun (r : Int32) (_ : Unit) => r = (((((libB (k).toNatClampNeg) &&& 255)).toUInt32 % 65536).toInt32)) (fun _ => kPost D cy A []) A) (va_A [] sz)) 0 0 (va_A [] sz) := by
  refine k_ofWE (Qc := fun A => va_Qi (S := Unit) (fun (r : Int32) (_ : Unit) => r = (((((libB (k).toNatClampNeg) &&& 255)).toUInt32 % 65536).toInt32)) (fun _ => kPost D cy A []) A) (by decide) (Nat.le_of_ble_eq_true rfl) ?_
  intro p e s m below meth c A ls hx hb hr hml hown hlocks hin hg hNW hK hP hD hA hS hl hE
  have hl : lv_has ls 2 [(0, .ref sv), (1, .int k)] := hl
  have hown : s.vm.findClass "java/lang/StringLatin1" = some m.cls := hown
  refine lv_iload_n hx hb d_StringLatin1_charAt_0 rfl (lv_at hl 1 rfl) ?_
  refine lv_aload_n hx hb d_StringLatin1_charAt_1 rfl (lv_at hl 0 rfl) ?_
  refine va_tlen hx hb hE.2.2.2.2.1 hS (v := 19) (by decide) d_StringLatin1_charAt_2 ?_
  refine k_callv (wc := []) (wr := []) (va_runS (As := [.int k, .int 19]) (rest := []) ⟨hx, hb, hml, hown, hg⟩ (c_schk l D cy s.heap.size sa sv k hk ) (va_cwS 2 hg (gw_SX m_192 m_193 m_6 m_194) rfl rfl rfl (by decide +kernel) ⟨(Nat.le_of_ble_eq_true rfl), (Nat.le_of_ble_eq_true rfl)⟩) (k_preSE (sEnv_ok sa sv) hS hA hE hP hD hK hNW [] (by decide) rfl) rfl rfl hl.1 rfl (lv_room (Nat.le_of_ble_eq_true rfl)) d_StringLatin1_charAt_3 ⟨(Nat.le_of_ble_eq_true rfl), (Nat.le_of_ble_eq_true rfl)⟩) hP hD hS hA [] [] rfl rfl (by decide) (by decide) (fun u1 H locs hw hP hD hS => ?_)
  have hP : va_P D vwCl [] H := hP
  have hD : va_D A [] := hD
  refine lv_aload_n hx hb d_StringLatin1_charAt_6 rfl (lv_at hl 0 rfl) ?_
  refine lv_iload_n hx hb d_StringLatin1_charAt_7 rfl (lv_at hl 1 rfl) ?_
  refine va_tb hx hb hE.2.2.2.2.1 hS hk (v := .int (libB (k).toNatClampNeg)) rfl d_StringLatin1_charAt_8 ?_
  refine lv_sipush (v := 255) hx hb d_StringLatin1_charAt_9 (by decide) ?_
  refine lv_iand hx hb d_StringLatin1_charAt_12 ?_
  refine lv_i2c (v := ((((libB (k).toNatClampNeg) &&& 255)).toUInt32 % 65536).toInt32) hx hb d_StringLatin1_charAt_13 rfl ?_
  refine W.widen (k := 0) (n := 0) (Nat.le_of_ble_eq_true rfl) (Nat.le_of_ble_eq_true rfl) ?_
  exact k_zret (X := Unit) (w1 := fun _ => []) () hx hb hr (pk_nc _) d_StringLatin1_charAt_14 hlocks (hP.sub [] rfl) hK (hD.sub [] (by decide) rfl) hS rfl
set_option maxHeartbeats 4000000 in
set_option maxRecDepth 100000 in
theorem c_scoder (l : Launch) (D : va_G) (cy : Nat → ClassId) (sz : Nat) (sa sv : Nat) : Met l y_String_coder (Cond.code y_String_coder b_String_coder 1 (some .byte) :: GW) ({ frames := 0, cells := 0, slots := 0, locals := 0 }) (va_Pc [.ref sa] (kPreE D cy sz [] (sEnv sa sv))) ((fun A : Nat → Prop => va_Qi (S := Unit) (fun (r : Int32) (_ : Unit) => r = 0) (fun _ => kPost D cy A []) A) (va_A [] sz)) 0 0 (va_A [] sz) := by
  refine k_ofWE (Qc := fun A => va_Qi (S := Unit) (fun (r : Int32) (_ : Unit) => r = 0) (fun _ => kPost D cy A []) A) (by decide) (Nat.le_of_ble_eq_true rfl) ?_
  intro p e s m below meth c A ls hx hb hr hml hown hlocks hin hg hNW hK hP hD hA hS hl hE
  have hl : lv_has ls 1 [(0, .ref sa)] := hl
  have hown : s.vm.findClass "java/lang/String" = some m.cls := hown
  refine va_gets hx hb hE.2.2.2.2.2.1 hS hown (hg _ m_179) (fun _ h9 => h9) d_String_coder_0 ?_
  refine lv_if_eq (tgt := 13) hx hb d_String_coder_3 (by decide) (fun c_3 => absurd c_3 (by decide)) (fun _ => ?_)
  refine lv_aload_n hx hb d_String_coder_6 rfl (lv_at hl 0 rfl) ?_
  refine vk_getf hx hb hE.2.2.1 hS hown (hg _ m_2842) (fun _ h9 => h9) d_String_coder_7 ?_
  refine lv_goto (tgt := 14) hx hb d_String_coder_10 (by decide) ?_
  refine W.widen (k := 0) (n := 0) (Nat.le_of_ble_eq_true rfl) (Nat.le_of_ble_eq_true rfl) ?_
  exact k_zret (X := Unit) (w1 := fun _ => []) () hx hb hr rfl d_String_coder_14 hlocks (hP.sub [] rfl) hK (hD.sub [] (by decide) rfl) hS rfl
set_option maxHeartbeats 4000000 in
set_option maxRecDepth 100000 in
theorem c_slatin (l : Launch) (D : va_G) (cy : Nat → ClassId) (sz : Nat) (sa sv : Nat) : Met l y_String_isLatin1 (Cond.code y_String_isLatin1 b_String_isLatin1 1 (some .boolean) :: GW) ({ frames := 0, cells := 0, slots := 0, locals := 0 }) (va_Pc [.ref sa] (kPreE D cy sz [] (sEnv sa sv))) ((fun A : Nat → Prop => va_Qi (S := Unit) (fun (r : Int32) (_ : Unit) => r = 1) (fun _ => kPost D cy A []) A) (va_A [] sz)) 0 0 (va_A [] sz) := by
  refine k_ofWE (Qc := fun A => va_Qi (S := Unit) (fun (r : Int32) (_ : Unit) => r = 1) (fun _ => kPost D cy A []) A) (by decide) (Nat.le_of_ble_eq_true rfl) ?_
  intro p e s m below meth c A ls hx hb hr hml hown hlocks hin hg hNW hK hP hD hA hS hl hE
  have hl : lv_has ls 1 [(0, .ref sa)] := hl
  have hown : s.vm.findClass "java/lang/String" = some m.cls := hown
  refine va_gets hx hb hE.2.2.2.2.2.1 hS hown (hg _ m_179) (fun _ h9 => h9) d_String_isLatin1_0 ?_
  refine lv_if_eq (tgt := 17) hx hb d_String_isLatin1_3 (by decide) (fun c_3 => absurd c_3 (by decide)) (fun _ => ?_)
  refine lv_aload_n hx hb d_String_isLatin1_6 rfl (lv_at hl 0 rfl) ?_
  refine vk_getf hx hb hE.2.2.1 hS hown (hg _ m_2842) (fun _ h9 => h9) d_String_isLatin1_7 ?_
  refine lv_if_ne (tgt := 17) hx hb d_String_isLatin1_10 (by decide) (fun c_10 => absurd c_10 (by decide)) (fun _ => ?_)
  refine lv_iconst (v := 1) hx hb d_String_isLatin1_13 (by decide) ?_
  refine lv_goto (tgt := 18) hx hb d_String_isLatin1_14 (by decide) ?_
  refine W.widen (k := 0) (n := 0) (Nat.le_of_ble_eq_true rfl) (Nat.le_of_ble_eq_true rfl) ?_
  exact k_zret (X := Unit) (w1 := fun _ => []) () hx hb hr rfl d_String_isLatin1_18 hlocks (hP.sub [] rfl) hK (hD.sub [] (by decide) rfl) hS rfl
set_option maxHeartbeats 4000000 in
set_option maxRecDepth 100000 in
theorem c_slength (l : Launch) (D : va_G) (cy : Nat → ClassId) (sz : Nat) (sa sv : Nat) : Met l y_String_length (Cond.code y_String_length b_String_length 1 (some .int) :: GW) ({ frames := 1, cells := 0, slots := 0, locals := 20 }) (va_Pc [.ref sa] (kPreE D cy sz [] (sEnv sa sv))) ((fun A : Nat → Prop => va_Qi (S := Unit) (fun (r : Int32) (_ : Unit) => r = 19) (fun _ => kPost D cy A []) A) (va_A [] sz)) 0 0 (va_A [] sz) := by
  refine k_ofWE (Qc := fun A => va_Qi (S := Unit) (fun (r : Int32) (_ : Unit) => r = 19) (fun _ => kPost D cy A []) A) (by decide) (Nat.le_of_ble_eq_true rfl) ?_
  intro p e s m below meth c A ls hx hb hr hml hown hlocks hin hg hNW hK hP hD hA hS hl hE
  have hl : lv_has ls 1 [(0, .ref sa)] := hl
  have hown : s.vm.findClass "java/lang/String" = some m.cls := hown
  refine lv_aload_n hx hb d_String_length_0 rfl (lv_at hl 0 rfl) ?_
  refine vk_getf hx hb hE.2.2.2.1 hS hown (hg _ m_2841) (fun _ h9 => h9) d_String_length_1 ?_
  refine va_tlen hx hb hE.2.2.2.2.1 hS (v := 19) (by decide) d_String_length_4 ?_
  refine lv_aload_n hx hb d_String_length_5 rfl (lv_at hl 0 rfl) ?_
  refine k_calli (wc := []) (wr := []) (va_runV (As := []) (rest := [.int 19]) ⟨hx, hb, hml, hown, hg⟩ (c_scoder l D cy s.heap.size sa sv ) (cwV 0 hg (gw_V m_175 m_176 m_177 m_6 m_178) rfl rfl rfl (by decide +kernel) ⟨(Nat.le_of_ble_eq_true rfl), (Nat.le_of_ble_eq_true rfl)⟩) (k_preVE (As := []) (sEnv_ok sa sv) hS hA hE hP hD hK hNW [] (by decide) rfl (k_recvO hE.2.1 hS)) rfl rfl hl.1 rfl (lv_room (Nat.le_of_ble_eq_true rfl)) d_String_length_6 ⟨(Nat.le_of_ble_eq_true rfl), (Nat.le_of_ble_eq_true rfl)⟩) hP hD hS hA [] [] rfl rfl (by decide) (by decide) (fun r1 u1 H locs hw hP hD hS => ?_)
  have hP : va_P D vwCl [] H := hP
  have hD : va_D A [] := hD
  obtain rfl : r1 = 0 := hw
  refine lv_ishr hx hb d_String_length_9 ?_
  refine k_topi 19 (by decide) ?_
  refine W.widen (k := 0) (n := 0) (Nat.le_of_ble_eq_true rfl) (Nat.le_of_ble_eq_true rfl) ?_
  exact k_iret (X := Unit) (w1 := fun _ => []) () hx hb hr d_String_length_10 hlocks (hP.sub [] rfl) hK (hD.sub [] (by decide) rfl) hS rfl
set_option maxHeartbeats 4000000 in
set_option maxRecDepth 100000 in
theorem c_scharAt (l : Launch) (D : va_G) (cy : Nat → ClassId) (sz : Nat) (sa sv : Nat) (k : Int32) (hk : vp_in k 19) : Met l y_String_charAt (Cond.code y_String_charAt b_String_charAt 2 (some .char) :: GW) ({ frames := 3, cells := 0, slots := 0, locals := 64 }) (va_Pc [.ref sa, .int k] (kPreE D cy sz [] (sEnv sa sv))) ((fun A : Nat → Prop => va_Qi (S := Unit) (fun (r : Int32) (_ : Unit) => r = (((((libB (k).toNatClampNeg) &&& 255)).toUInt32 % 65536).toInt32)) (fun _ => kPost D cy A []) A) (va_A [] sz)) 0 0 (va_A [] sz) := by
  refine k_ofWE (Qc := fun A => va_Qi (S := Unit) (fun (r : Int32) (_ : Unit) => r = (((((libB (k).toNatClampNeg) &&& 255)).toUInt32 % 65536).toInt32)) (fun _ => kPost D cy A []) A) (by decide) (Nat.le_of_ble_eq_true rfl) ?_
  intro p e s m below meth c A ls hx hb hr hml hown hlocks hin hg hNW hK hP hD hA hS hl hE
  have hl : lv_has ls 2 [(0, .ref sa), (1, .int k)] := hl
  have hown : s.vm.findClass "java/lang/String" = some m.cls := hown
  refine lv_aload_n hx hb d_String_charAt_0 rfl (lv_at hl 0 rfl) ?_
  refine k_calli (wc := []) (wr := []) (va_runV (As := []) (rest := []) ⟨hx, hb, hml, hown, hg⟩ (c_slatin l D cy s.heap.size sa sv ) (cwV 0 hg (gw_V m_185 m_186 m_187 m_6 m_188) rfl rfl rfl (by decide +kernel) ⟨(Nat.le_of_ble_eq_true rfl), (Nat.le_of_ble_eq_true rfl)⟩) (k_preVE (As := []) (sEnv_ok sa sv) hS hA hE hP hD hK hNW [] (by decide) rfl (k_recvO hE.2.1 hS)) rfl rfl hl.1 rfl (lv_room (Nat.le_of_ble_eq_true rfl)) d_String_charAt_1 ⟨(Nat.le_of_ble_eq_true rfl), (Nat.le_of_ble_eq_true rfl)⟩) hP hD hS hA [] [] rfl rfl (by decide) (by decide) (fun r1 u1 H locs hw hP hD hS => ?_)
  have hP : va_P D vwCl [] H := hP
  have hD : va_D A [] := hD
  obtain rfl : r1 = 1 := hw
  refine lv_if_eq (tgt := 16) hx hb d_String_charAt_4 (by decide) (fun c_4 => absurd c_4 (by decide)) (fun _ => ?_)
  refine lv_aload_n hx hb d_String_charAt_7 rfl (lv_at hl 0 rfl) ?_
  refine vk_getf hx hb hE.2.2.2.1 hS hown (hg _ m_2841) (fun _ h9 => h9) d_String_charAt_8 ?_
  refine lv_iload_n hx hb d_String_charAt_11 rfl (lv_at hl 1 rfl) ?_
  refine k_calli (wc := []) (wr := []) (va_runS (As := [.ref sv, .int k]) (rest := []) ⟨hx, hb, hml, hown, hg⟩ (c_lcharAt l D cy H.size sa sv k hk ) (va_cwS 2 hg (gw_SX m_189 m_190 m_7 m_191) rfl rfl rfl (by decide +kernel) ⟨(Nat.le_of_ble_eq_true rfl), (Nat.le_of_ble_eq_true rfl)⟩) (k_preSE (sEnv_ok sa sv) hS hA hE hP hD hK hNW [] (by decide) rfl) rfl rfl hl.1 rfl (lv_room (Nat.le_of_ble_eq_true rfl)) d_String_charAt_12 ⟨(Nat.le_of_ble_eq_true rfl), (Nat.le_of_ble_eq_true rfl)⟩) hP hD hS hA [] [] rfl rfl (by decide) (by decide) (fun r2 u2 H locs hw hP hD hS => ?_)
  have hP : va_P D vwCl [] H := hP
  have hD : va_D A [] := hD
  obtain rfl : r2 = (((((libB (k).toNatClampNeg) &&& 255)).toUInt32 % 65536).toInt32) := hw
  refine W.widen (k := 0) (n := 0) (Nat.le_of_ble_eq_true rfl) (Nat.le_of_ble_eq_true rfl) ?_
  exact k_zret (X := Unit) (w1 := fun _ => []) () hx hb hr (pk_nc _) d_String_charAt_15 hlocks (hP.sub [] rfl) hK (hD.sub [] (by decide) rfl) hS rfl
end

