/-! steps of statements: break, continue, return, whole -/
section SBC
variable {σ s z t : St} {g g' g1 : Gh} {X X0 Y : Nat → Prop} {b e e0 e' H H0 H' L L' m n N c d p tt j cc : Nat} {K K2 M E G D : List Nat} {x y v : Int32}
theorem lv_mono {K2 : List Nat} : ∀ (K1 : List Nat), LV K2 ≤ LV (K1 ++ K2)
  | [] => Nat.le_refl _
  | c :: K1 => by
    have ih := lv_mono (K2 := K2) K1
    show LV K2 ≤ (if c = 3 ∨ c = 4 ∨ c = 5 ∨ c = 7 then LV (K1 ++ K2) + 1 else if c = 8 then LV (K1 ++ K2) + 2 else LV (K1 ++ K2))
    by_cases h : c = 3 ∨ c = 4 ∨ c = 5 ∨ c = 7
    · rw [if_pos h]
      omega
    · rw [if_neg h]
      by_cases h2 : c = 8
      · rw [if_pos h2]
        omega
      · rw [if_neg h2]
        exact ih
/-- the jump of a break or continue put: the row of chains is left to be told -/
theorem ss_jmp {cc m : Nat} {Q : St → Prop} (hcc : cc = 51 ∨ cc = 52) (h : SB σ g b K X 0) (cap : (σ 4 1).toInt ≤ 262150) (hf : (σ 6 3).toInt = 0)
    (hC : ∀ s g', KXE σ s → (∀ q, q < clen σ → (s 24) q = (σ 24) q) → AGR g g' (clen σ) → (s 24) (clen σ + 1) = (σ cc m) → WJ (s 24) g' (clen σ + 2) (clen σ) (LV K) → CX (upF s cc (fun i => if i = m then (σ 4 1) else s cc i)) g' (clen σ + 2) K (fun q => X q ∨ q = clen σ))
    (k : ∀ s, SRs σ s b K 0 2 → Q s) : wk_X0_emit (26 : Int32) (σ cc m) (0 : Int32) (0 : Int32) σ (fun v s => Q (upF s cc (fun i => if i = m then v else s cc i))) := by
  obtain ⟨h1, h2, h3, h4, h5, h6⟩ := h
  have c0 := clen_eq h4
  refine sk_emit (n := 26) rfl (by decide) h4 (by omega) (fun v s ev em => ?_)
  have ec := em_clen em (n := 26) rfl h4
  have el := em_len em (m := 26) rfl
  have l2 : ln 26 = 2 := rfl
  obtain ⟨ek, emk, -, -, ef, ee⟩ := em_k em
  have ec2 : clen s = clen σ + 2 := ec
  have el2 : (s 4 1).toInt = (σ 4 1).toInt + 2 := el
  obtain ⟨g2, T2, ag2, gn⟩ := typ_hole (w' := (s 24)) (n := 26) (H' := 0) (L' := LV K) (typ_mono (fun q _ => rfl) agr_rf (cpu_mono ek emk) (fun _ z => z) h1) em.2.2.1 (by rw [em.2.2.2.1]; rfl) (by decide) (fun z => absurd rfl z)
  have cz := hC s g2 ek em.2.2.1 ag2 em.2.2.2.2.1 ⟨26, LV K, by rw [em.2.2.2.1]; rfl, Or.inl rfl, by rw [ag2 _ (Nat.le_refl _), h1.2.1]; rfl, Nat.le_refl _, Nat.le_refl _⟩
  rw [ev]
  generalize hz : upF s cc (fun i => if i = m then (σ 4 1) else s cc i) = z at cz ⊢
  have zr : ∀ c, c ≠ 51 → c ≠ 52 → z c = s c := fun c h1 h2 => by
    rw [← hz]
    refine rdF_ne (fun e => ?_)
    rcases hcc with q | q
    · exact h1 (e.trans q)
    · exact h2 (e.trans q)
  have z4 : (z 4 1) = (s 4 1) := by rw [zr 4 (by decide) (by decide)]
  have ecz : clen z = clen σ + 2 := by unfold clen at ec2 ⊢; rw [z4]; exact ec2
  have z24 : (z 24) = (s 24) := zr 24 (by decide) (by decide)
  have kz : KXS s z := by
    rw [← hz]
    rcases hcc with q | q
    · subst q
      exact ko_kp (kp_F kp_rf rfl)
    · subst q
      exact ko_kp (kp_F kp_rf rfl)
  have mz : MKs s z := mks_eq (zr 25 (by decide) (by decide)) (zr 39 (by decide) (by decide))
  have bb := h1.1
  refine k z ⟨ko_tr (kxs_e ek) kz, mks_tr emk mz, ⟨fun j hj => by rw [z24]; exact em.2.2.1 j (by omega), by omega⟩, by rw [z4]; omega, by rw [z4]; omega, fun _ => ⟨hf, g2, _, ⟨?_, by rw [ecz]; exact cz, by rw [zr 7 (by decide) (by decide), ee]; exact h3, by rw [z4]; omega, by rw [zr 9 (by decide) (by decide), (kw_e ek).2.2.2.2.2.2]; exact h5, ?_⟩, by omega⟩⟩
  · rw [ecz, z24]
    exact typ_mono (fun _ _ => rfl) agr_rf (cpu_x kz mz) (fun _ z => z) T2
  · rw [ecz]
    exact bnd_ext h6 ag2 (fun j a1 a2 => by
      have : j = clen σ + 1 := by omega
      rw [this]
      exact gn) T2.2.1 (by omega)
theorem ss_leave {cc : Nat} {Q : St → Prop} (hcc : cc = 51 ∨ cc = 52) (h : SB σ g b K X 0) (hn : nzr K ≤ 25) (cap : (σ 4 1).toInt ≤ 262150) (hf : (σ 6 3).toInt = 0) (ht : tpK K) (hw : wfK K) (k : ∀ s, SRs σ s b K 0 2 → Q s) : lvF cc x σ Q := by
  have h' := h
  obtain ⟨h1, h2, h3, h4, h5, h6⟩ := h'
  have c0 := clen_eq h4
  have bb := h1.1
  rcases loop_split K with nl | ⟨K1, c, K2, e1, e2, e3, e4⟩
  · refine lv_no h5 (by omega) (fun j hj => cx_loops (M := []) K X nl (by rw [List.append_nil]; exact h2) j (Nat.zero_le _) (by rw [List.append_nil]; exact hj)) (fun s kk ff => k s ?_)
    have s4 : (s 4 1) = (σ 4 1) := kk 4 1 rfl rfl
    refine sr_bad (ko_sub (ko_kp kk) (by decide) (by decide)) (mks_eq (funext (fun j => kk 25 j rfl rfl)) (funext (fun j => kk 39 j rfl rfl))) (fun j _ => kk 24 j rfl rfl) ?_ (by rw [s4]; exact h4) (by rw [s4]; omega) ff
    have : clen s = clen σ := by unfold clen; rw [s4]
    omega
  · subst e1
    have c9 : ¬ (c = 0 ∨ 9 ≤ c) := by omega
    have nk : nzr (c :: K2) = nzr K2 + 1 := nz_c c9
    have na := nzr_app (K2 := c :: K2) K1
    obtain ⟨Ys, hs⟩ := cx_suf (M := c :: K2) K1 X h2
    have hl1 : ((σ 49) (nzr K2)).toInt ≠ 0 := by
      unfold CX at hs
      rw [if_neg c9] at hs
      obtain ⟨Y, E, G, D, a1, a2, a3, b1, b2, b3, b4⟩ := hs
      rw [b3, if_neg (by omega)]
      decide
    have lvm := lv_mono (K2 := c :: K2) K1
    have lv2 : LV K2 ≤ LV (c :: K2) := lv_mono (K2 := K2) [c]
    refine lv_yes h5 (by omega) (m := nzr K2) (by omega) (fun j j1 j2 => cx_loops (M := c :: K2) K1 X e2 h2 j (by omega) j2) hl1 (ss_jmp hcc h cap hf (fun s g' ek ww ag hj wj => ?_) k)
    obtain ⟨q1, q2, q3, q4, q5, q6, q7⟩ := kw_e ek
    have wjm : ∀ l, l ≤ LV (K1 ++ c :: K2) → WJ (s 24) g' (clen σ + 2) (clen σ) l := fun l hl => by
      obtain ⟨n, k2, a1, a2, a3, a4, a5⟩ := wj
      exact ⟨n, k2, a1, a2, a3, a4, by omega⟩
    rcases hcc with ec | ec
    · subst ec
      refine cx_up (M := c :: K2) (fun Y hY => cx_exit hY c9 ⟨q1, q2, q3, q4, q5, q6⟩ ww ag (by omega) (Nat.le_refl _) (by omega) hj (wjm _ (by omega))) (fun i hi => ?_) (fun q hq => by rw [rdF_ne (by decide)]; exact ww q hq) ag (by omega) (Nat.le_refl _) K1 X h2
      refine ⟨by rw [rdF_ne (by decide), q1], by rw [rdF_ne (by decide), q2], ?_, by rw [rdF_ne (by decide), q4], by rw [rdF_ne (by decide), q5], by rw [rdF_ne (by decide), q6]⟩
      rw [rdF_eq]
      show (if i = nzr K2 then (σ 4 1) else s 51 i) = _
      rw [if_neg (by omega), q3]
    · subst ec
      have c348 := wf_loop _ K1 c K2 (Nat.le_refl _) e2 e3 ht hw
      refine cx_up (M := c :: K2) (fun Y hY => cx_again hY c348 ⟨q1, q2, q3, q4, q5, q6⟩ ww ag (by omega) (Nat.le_refl _) (by omega) hj (wjm _ ?_)) (fun i hi => ?_) (fun q hq => by rw [rdF_ne (by decide)]; exact ww q hq) ag (by omega) (Nat.le_refl _) K1 X h2
      · refine Nat.le_trans ?_ lvm
        rcases c348 with e9 | e9 | e9 <;> subst e9 <;> exact Nat.le_refl _
      · refine ⟨by rw [rdF_ne (by decide), q1], by rw [rdF_ne (by decide), q2], by rw [rdF_ne (by decide), q3], ?_, by rw [rdF_ne (by decide), q5], by rw [rdF_ne (by decide), q6]⟩
        rw [rdF_eq]
        show (if i = nzr K2 then (σ 4 1) else s 52 i) = _
        rw [if_neg (by omega), q4]
/-- a value on the stack, behind the last statement -/
def SRv (σ s : St) (b : Nat) (K : List Nat) (m : Nat) : Prop := KXS σ s ∧ MKs σ s ∧ ((∀ j, j < b → (s 24) j = (σ 24) j) ∧ b ≤ clen s) ∧ 0 ≤ (s 4 1).toInt ∧ (s 4 1).toInt ≤ (σ 4 1).toInt + m ∧ ((s 6 3).toInt = 0 → (σ 6 3).toInt = 0 ∧ ∃ g X, TYp (s 24) g (CPu s) X b (clen s) 1 (LV K) ∧ CX s g (clen s) K X ∧ (s 7 7).toInt = 0 ∧ (s 9 5).toInt = nzr K ∧ BND g b (clen s) 420 ∧ clen s ≤ clen σ + m)
theorem typ_ret {w w' : Nat → Int32} {CP : Int → Nat → Prop} (T : TYp w g CP X b e H L) (hw : ∀ q, q < e → w' q = w q) (h0 : (w' e).toInt = (33 : Nat)) (hh : 1 ≤ H) : ∃ g', TYp w' g' CP X b (e + 1) 0 L' ∧ AGR g g' e := by
  have l2 : ln 33 = 1 := rfl
  obtain ⟨g', t1, t2, t3⟩ := typ_ext (X' := X) (H' := 0) (L' := L') T hw (fun _ h => h) h0 (by omega) (fun g' _ ge _ => by
    exact ⟨⟨by omega, by omega, by omega⟩, fun c => by exfalso; unfold PLn at c; omega, fun c => by exfalso; omega, fun c => by exfalso; omega, fun c => by exfalso; omega, fun c => by exfalso; omega, fun c => by exfalso; omega, fun _ => hh⟩)
  rw [l2] at t1
  exact ⟨g', t1, t2⟩
theorem ss_ret {Q : St → Prop} (r : SRv σ s b K m) (cap : (s 4 1).toInt ≤ 262190) (k : ∀ t, SRs σ t b K 0 (m + 1) → Q t) : wk_X0_emit (33 : Int32) (0 : Int32) (0 : Int32) (0 : Int32) s (fun v74 s74 => Q s74) := by
  obtain ⟨r1, r2, r3, r4, r5, r6⟩ := r
  have c1 := clen_eq r4
  have hbc := r3.2
  refine sk_emit (n := 33) rfl (by decide) r4 (by clear r6; omega) (fun v t _ em => k t ?_)
  have el := em_len em (m := 33) rfl
  have ec := em_clen em (n := 33) rfl r4
  have l2 : ln 33 = 1 := rfl
  obtain ⟨ek, emk, -, -, ef, ee⟩ := em_k em
  have ec2 : clen t = clen s + 1 := ec
  refine ⟨ko_tr r1 (kxs_e ek), mks_tr r2 emk, ⟨fun j hj => (em.2.2.1 j (by clear r6; omega)).trans (r3.1 j hj), by clear r6; omega⟩, by clear r6; omega, by clear r6; omega, fun hf => ?_⟩
  obtain ⟨f0, g', X', h1, h2, h3, h5, h6, h7⟩ := r6 (by rw [← ef]; exact hf)
  obtain ⟨g2, T2, ag2⟩ := typ_ret (w' := (t 24)) (L' := LV K) (typ_mono (fun q _ => rfl) agr_rf (cpu_mono ek emk) (fun _ z => z) h1) em.2.2.1 (by rw [em.2.2.2.1]; rfl) (Nat.le_refl _)
  refine ⟨f0, g2, X', ⟨by rw [ec2]; exact T2, cx_e ek em.2.2.1 ag2 (by omega) h2, by rw [ee]; exact h3, by omega, by rw [(kw_e ek).2.2.2.2.2.2]; exact h5, ?_⟩, by omega⟩
  rw [ec2]
  exact bnd_ext h6 ag2 (fun j a1 a2 => by omega) T2.2.1 (by omega)
theorem ss_rpush {Q : Int32 → St → Prop} (h : SB σ g b K X 0) (cap : (σ 4 1).toInt ≤ 262150) (hf : (σ 6 3).toInt = 0) (k : ∀ v s, SRv σ s b K 2 → Q v s) : wk_X0_emit (1 : Int32) (0 : Int32) (0 : Int32) (0 : Int32) σ (fun v s => Q v s) := by
  obtain ⟨h1, h2, h3, h4, h5, h6⟩ := h
  have c0 := clen_eq h4
  have bb := h1.1
  refine sk_emit (n := 1) rfl (by decide) h4 (by omega) (fun v t _ em => k v t ?_)
  have el := em_len em (m := 1) rfl
  have ec := em_clen em (n := 1) rfl h4
  have l2 : ln 1 = 2 := rfl
  obtain ⟨ek, emk, -, -, ef, ee⟩ := em_k em
  have ec2 : clen t = clen σ + 2 := ec
  obtain ⟨g2, T2, ag2, gi2⟩ := typ_pl (w' := (t 24)) (n := 1) (H' := 1) (typ_mono (fun q _ => rfl) agr_rf (cpu_mono ek emk) (fun _ z => z) h1) em.2.2.1 (by rw [em.2.2.2.1]; rfl) (by decide) (by decide) (Or.inl (by decide)) (by decide) (by decide)
  refine ⟨kxs_e ek, emk, ⟨fun j hj => em.2.2.1 j (by omega), by omega⟩, by omega, by omega, fun _ => ⟨hf, g2, X, by rw [ec2]; exact T2, cx_e ek em.2.2.1 ag2 (by omega) h2, by rw [ee]; exact h3, by rw [(kw_e ek).2.2.2.2.2.2]; exact h5, ?_, by omega⟩⟩
  rw [ec2]
  exact bnd_ext h6 ag2 gi2 T2.2.1 (by omega)
theorem ss_rpop {Q : Nat → St → Prop} (h : SE σ g b K X 0 e0 [iV]) (hb : b ≤ e0) (cap : (σ 4 1).toInt ≤ 262150) (hf : (σ 6 3).toInt = 0) (k : ∀ s, SRv σ s b K (2 * plc σ [iV]) → Q 65 s) : wk_X2_pop σ Q := by
  have hh0 := h.1.2.2.1
  have c0 := clen_eq hh0
  refine vs_pop h (by omega) (fun s g1 k1 m1 w1 ag vs hc fu _ => k s ?_)
  obtain ⟨h1, h2, h3, h4, h5, h6, h7, h8, h9, h10⟩ := vs
  have c1 := clen_eq h4
  refine ⟨kxs_e k1, m1, ⟨fun j hj => w1 j (by omega), by omega⟩, h4, by omega, fun _ => ⟨hf, g1, X, h1, cx_mono K X (fun _ _ => ⟨rfl, rfl, rfl, rfl, rfl, rfl⟩) (fun _ _ => rfl) agr_rf h7 h2, h3, h5, h6, hc⟩⟩
theorem ss_return {y : Int32} {Q : St → Prop} (hf : (σ 6 3).toInt = 0) (cap : (σ 4 1).toInt ≤ 262150) (h : (y.toInt = 0 ∧ m = 2 ∧ ∃ g X, SB σ g b K X 0) ∨ (y.toInt ≠ 0 ∧ m = 2 * plc σ [iV] ∧ ∃ g X e0, b ≤ e0 ∧ SE σ g b K X 0 e0 [iV])) (k : ∀ s, SRs σ s b K 0 (m + 1) → Q s) : wk_X7_giveBack x y σ Q := by
  have hm : m ≤ 2 := by
    rcases h with h | h
    · omega
    · have p1 : plc σ [iV] = pk σ 65 + 0 := plc_V
      have pk1 := pkq_le (σ := σ) (q := 65)
      have := h.2.1
      omega
  have fin : ∀ (f : Int32) s, SRv σ s b K m → wk_X0_emit (33 : Int32) (0 : Int32) (0 : Int32) (0 : Int32) s (fun v74 s74 => (f.toInt ≠ 0 → Q s74) ∧ (f.toInt = 0 → wk_X11_fail (2 : Int32) x s74 (fun s89 => Q s89))) := fun f s r => by
    have rl := r.2.2.2.2.1
    have r0 := r.2.2.2.1
    refine ss_ret (Q := fun s74 => (f.toInt ≠ 0 → Q s74) ∧ (f.toInt = 0 → wk_X11_fail (2 : Int32) x s74 (fun s89 => Q s89))) r (by omega) (fun t rt => ⟨fun _ => k t rt, fun _ => sp_ufail (by decide) (fun u ku fu => k u ?_)⟩)
    obtain ⟨r1, r2, r3, r4, r5, r6⟩ := rt
    have u4 : (u 4 1) = (t 4 1) := ku 4 1 rfl rfl
    have ecu : clen u = clen t := by unfold clen; rw [u4]
    exact sr_bad (ko_tr r1 (ko_sub (ko_kp ku) (by decide) (by decide))) (mks_tr r2 (mks_eq (funext (fun j => ku 25 j rfl rfl)) (funext (fun j => ku 39 j rfl rfl)))) (fun j hj => (ku 24 j rfl rfl).trans (r3.1 j hj)) (by rw [ecu]; exact r3.2) (by rw [u4]; exact r4) (by rw [u4]; exact r5) fu
  unfold wk_X7_giveBack
  refine ⟨fun _ => True, fun y0 _ _ => ?_, fun _ => trivial, fun _ => trivial⟩
  refine ⟨fun _ s => SRv σ s b K m, fun f s _ r => fin f s r, fun c => ?_, fun c => ?_⟩
  · rcases h with ⟨h1, h2, g, X, h3⟩ | h
    · exact ss_rpush h3 (by omega) hf (fun v s r => by rw [h2]; exact r)
    · exact absurd c h.1
  · rcases h with h | ⟨h1, h2, g, X, e0, h3, h4⟩
    · exact absurd h.1 c
    · refine ss_rpop h4 h3 (by omega) hf (fun s r => ?_)
      have : SRv σ s b K m := by rw [h2]; exact r
      exact sk_fits this this
end SBC
