section
/-! one total formula and a family of partial ones -/
theorem mf_wk_X0_thread {a1 : Int32} {σ : St} {Q1 Q : St → Prop} {Q2 : St → St → Prop} (kQ : (∀ (v0 : St), Q1 v0 → (∀ i_, Q2 i_ v0) → Q v0)) (h1 : wk_X0_thread a1 σ Q1) (h2 : ∀ i_ : St, pk_X0_thread a1 σ (Q2 i_)) : wk_X0_thread a1 σ Q := by
  unfold wk_X0_thread at h1 ⊢
  unfold pk_X0_thread at h2
  exact (h1.elim fun J5 hh6 => (Classical.axiomOfChoice (fun i_ => (h2 i_))).elim fun J7 hh8 => ⟨(fun x1 x2 x3 x4 => J5 x1 x2 x3 x4 ∧ ∀ i_, J7 i_ x2 x3 x4), (hh6.1.elim fun na la => ⟨na, la, fun i_ => (hh8 i_).1⟩), fun n7 x2_7 x3_7 s7 l9 => ⟨(fun c10 => (kQ _ ((hh6.2 n7 x2_7 x3_7 s7 l9.1).1 c10) (fun i_ => (((hh8 i_).2 x2_7 x3_7 s7 (l9.2 i_)).1 c10)))), (fun c11 => ⟨(fun c12 => (kQ _ (((hh6.2 n7 x2_7 x3_7 s7 l9.1).2 c11).1 c12) (fun i_ => ((((hh8 i_).2 x2_7 x3_7 s7 (l9.2 i_)).2 c11).1 c12)))), (fun c13 => ((((hh6.2 n7 x2_7 x3_7 s7 l9.1).2 c11).2 c13).elim fun J15 hh16 => (Classical.axiomOfChoice (fun i_ => ((((hh8 i_).2 x2_7 x3_7 s7 (l9.2 i_)).2 c11).2 c13))).elim fun J17 hh18 => ⟨(fun x14 => (J15 x14 ∧ ∀ i_, J17 i_ x14)), ⟨(fun s110 => (fun j19 => (((hh16.1 s110) j19.1).elim fun ma la => ⟨ma, la.1, la.2, fun i_ => (((hh18 i_).1 s110) (j19.2 i_))⟩))), ⟨(fun c20 => ⟨(hh16.2.1 c20), fun i_ => ((hh18 i_).2.1 c20)⟩), (fun c21 => ⟨(fun c22 => ⟨((hh16.2.2 c21).1 c22), fun i_ => (((hh18 i_).2.2 c21).1 c22)⟩), (fun c23 => (((hh16.2.2 c21).2 c23).elim fun J27 hh28 => (Classical.axiomOfChoice (fun i_ => (((hh18 i_).2.2 c21).2 c23))).elim fun J29 hh30 => ⟨(fun x24 x25 x26 => J27 x24 x25 x26 ∧ ∀ i_, J29 i_ x25 x26), (hh28.1.elim fun na la => ⟨na, la, fun i_ => (hh30 i_).1⟩), fun n58 x5_58 x6_58 l31 => ((hh28.2 n58 x5_58 x6_58 l31.1).elim fun J32 hh33 => (Classical.axiomOfChoice (fun i_ => ((hh30 i_).2 x5_58 x6_58 (l31.2 i_)))).elim fun J34 hh35 => ⟨(J32 ∧ ∀ i_, J34 i_), ⟨(fun j36 => ⟨(hh33.1 j36.1), fun i_ => ((hh35 i_).1 (j36.2 i_))⟩), ⟨(fun c37 => ⟨(hh33.2.1 c37), fun i_ => ((hh35 i_).2.1 c37)⟩), (fun c38 => ⟨(fun c39 => ⟨((hh33.2.2 c38).1 c39), fun i_ => (((hh35 i_).2.2 c38).1 c39)⟩), (fun c40 => (((hh33.2.2 c38).2 c40).elim fun ma la => ⟨ma, la.1, la.2, fun i_ => (((hh35 i_).2.2 c38).2 c40)⟩))⟩)⟩⟩⟩)⟩))⟩)⟩⟩⟩))⟩)⟩⟩)
theorem mf_wk_X1_functionEnd {σ : St} {Q1 Q : St → Prop} {Q2 : St → St → Prop} (kQ : (∀ (v0 : St), Q1 v0 → (∀ i_, Q2 i_ v0) → Q v0)) (h1 : wk_X1_functionEnd σ Q1) (h2 : ∀ i_ : St, pk_X1_functionEnd σ (Q2 i_)) : wk_X1_functionEnd σ Q := by
  unfold wk_X1_functionEnd at h1 ⊢
  unfold pk_X1_functionEnd at h2
  exact (mf_wk_X0_emit  (fun v8 s8 u1 u2 => (mf_wk_X0_emit  (fun v21 s21 u3 u4 => (mf_wk_X8_parameters  (fun v60 u5 u6 => (u5.elim fun J12 hh13 => (Classical.axiomOfChoice (fun i_ => (u6 i_))).elim fun J14 hh15 => ⟨(fun x7 x8 x9 x10 x11 => J12 x7 x8 x9 x10 x11 ∧ ∀ i_, J14 i_ x8 x9 x10 x11), (hh13.1.elim fun na la => ⟨na, la, fun i_ => (hh15 i_).1⟩), fun n72 x3_72 x4_72 x5_72 s72 l16 => ⟨(fun c17 => (mf_wk_X0_settle_r48  (fun s255 u18 u19 => (u18.elim fun J21 hh22 => (Classical.axiomOfChoice (fun i_ => (u19 i_))).elim fun J23 hh24 => ⟨(fun x20 => (J21 x20 ∧ ∀ i_, J23 i_ x20)), ⟨(fun s279 => (fun j25 => (mf_wk_X11_leave  (fun s283 u26 u27 => (kQ _ u26 (fun i_ => (u27 i_)))) ((hh22.1 s279) j25.1) (fun i_ => (((hh24 i_).1 s279) (j25.2 i_)))))), ⟨(fun c28 => ⟨(hh22.2.1 c28), fun i_ => ((hh24 i_).2.1 c28)⟩), (fun c29 => (mf_wk_X0_thread  (fun s276 u30 u31 => ⟨u30, fun i_ => (u31 i_)⟩) (hh22.2.2 c29) (fun i_ => ((hh24 i_).2.2 c29))))⟩⟩⟩)) ((hh13.2 n72 x3_72 x4_72 x5_72 s72 l16.1).1 c17) (fun i_ => (((hh15 i_).2 x3_72 x4_72 x5_72 s72 (l16.2 i_)).1 c17)))), (fun c32 => (((hh13.2 n72 x3_72 x4_72 x5_72 s72 l16.1).2 c32).elim fun J34 hh35 => (Classical.axiomOfChoice (fun i_ => (((hh15 i_).2 x3_72 x4_72 x5_72 s72 (l16.2 i_)).2 c32))).elim fun J36 hh37 => ⟨(fun x33 => (J34 x33 ∧ ∀ i_, J36 i_ x33)), ⟨(fun y0_104 => (fun c38 => (fun j39 => ((((hh35.1 y0_104) c38) j39.1).elim fun J41 hh42 => (Classical.axiomOfChoice (fun i_ => ((((hh37 i_).1 y0_104) c38) (j39.2 i_)))).elim fun J43 hh44 => ⟨(fun x40 => (J41 x40 ∧ ∀ i_, J43 i_ x40)), ⟨(fun y2_122 => (fun j45 => (((hh42.1 y2_122) j45.1).elim fun J47 hh48 => (Classical.axiomOfChoice (fun i_ => (((hh44 i_).1 y2_122) (j45.2 i_)))).elim fun J49 hh50 => ⟨(fun x46 => (J47 x46 ∧ ∀ i_, J49 i_ x46)), ⟨(fun y1_146 => (fun j51 => (((hh48.1 y1_146) j51.1).elim fun J53 hh54 => (Classical.axiomOfChoice (fun i_ => (((hh50 i_).1 y1_146) (j51.2 i_)))).elim fun J55 hh56 => ⟨(fun x52 => (J53 x52 ∧ ∀ i_, J55 i_ x52)), ⟨(fun y1_175 => (fun j57 => (((hh54.1 y1_175) j57.1).elim fun ma la => ⟨ma, la.1, la.2, fun i_ => (((hh56 i_).1 y1_175) (j57.2 i_))⟩))), ⟨(fun c58 => ⟨(hh54.2.1 c58), fun i_ => ((hh56 i_).2.1 c58)⟩), (fun c59 => ⟨(hh54.2.2 c59), fun i_ => ((hh56 i_).2.2 c59)⟩)⟩⟩⟩))), (hh48.2.elim fun J60 hh61 => (Classical.axiomOfChoice (fun i_ => (hh50 i_).2)).elim fun J62 hh63 => ⟨(J60 ∧ ∀ i_, J62 i_), ⟨(fun j64 => ⟨(hh61.1 j64.1), fun i_ => ((hh63 i_).1 (j64.2 i_))⟩), ⟨(fun c65 => ⟨(hh61.2.1 c65), fun i_ => ((hh63 i_).2.1 c65)⟩), (fun c66 => ⟨(fun c67 => ⟨((hh61.2.2 c66).1 c67), fun i_ => (((hh63 i_).2.2 c66).1 c67)⟩), (fun c68 => ⟨((hh61.2.2 c66).2 c68), fun i_ => (((hh63 i_).2.2 c66).2 c68)⟩)⟩)⟩⟩⟩)⟩⟩))), ⟨(fun c69 => ⟨(hh42.2.1 c69), fun i_ => ((hh44 i_).2.1 c69)⟩), (fun c70 => ⟨(hh42.2.2 c70), fun i_ => ((hh44 i_).2.2 c70)⟩)⟩⟩⟩)))), ⟨(fun c71 => ⟨(hh35.2.1 c71), fun i_ => ((hh37 i_).2.1 c71)⟩), (fun c72 => ⟨(hh35.2.2 c72), fun i_ => ((hh37 i_).2.2 c72)⟩)⟩⟩⟩))⟩⟩)) u3 (fun i_ => (u4 i_)))) u1 (fun i_ => (u2 i_)))) h1 (fun i_ => (h2 i_)))
theorem mf_wk_X1_take {a1 : Int32} {a2 : Int32} {σ : St} {Q1 Q : St → Prop} {Q2 : St → St → Prop} (kQ : (∀ (v0 : St), Q1 v0 → (∀ i_, Q2 i_ v0) → Q v0)) (h1 : wk_X1_take a1 a2 σ Q1) (h2 : ∀ i_ : St, pk_X1_take a1 a2 σ (Q2 i_)) : wk_X1_take a1 a2 σ Q := by
  unfold wk_X1_take at h1 ⊢
  unfold pk_X1_take at h2
  exact ⟨(fun c1 => ⟨(fun c2 => ⟨(fun c3 => (kQ _ (((h1.1 c1).1 c2).1 c3) (fun i_ => ((((h2 i_).1 c1).1 c2).1 c3)))), (fun c4 => (kQ _ (((h1.1 c1).1 c2).2 c4) (fun i_ => ((((h2 i_).1 c1).1 c2).2 c4))))⟩), (fun c5 => (kQ _ ((h1.1 c1).2 c5) (fun i_ => (((h2 i_).1 c1).2 c5))))⟩), (fun c6 => ⟨(fun c7 => (mf_wk_X1_variable  (fun s121 u8 u9 => (kQ _ u8 (fun i_ => (u9 i_)))) ((h1.2 c6).1 c7) (fun i_ => (((h2 i_).2 c6).1 c7)))), (fun c10 => ⟨(fun c11 => (mf_wk_X1_item  (fun s128 u12 u13 => (kQ _ u12 (fun i_ => (u13 i_)))) (((h1.2 c6).2 c10).1 c11) (fun i_ => ((((h2 i_).2 c6).2 c10).1 c11)))), (fun c14 => ⟨(fun c15 => (mf_wk_X1_fill  (fun s136 u16 u17 => (kQ _ u16 (fun i_ => (u17 i_)))) ((((h1.2 c6).2 c10).2 c14).1 c15) (fun i_ => (((((h2 i_).2 c6).2 c10).2 c14).1 c15)))), (fun c18 => ⟨(fun c19 => (mf_wk_X1_initial  (fun s146 u20 u21 => (kQ _ u20 (fun i_ => (u21 i_)))) (((((h1.2 c6).2 c10).2 c14).2 c18).1 c19) (fun i_ => ((((((h2 i_).2 c6).2 c10).2 c14).2 c18).1 c19)))), (fun c22 => ⟨(fun c23 => (mf_wk_X1_function  (fun s158 u24 u25 => (kQ _ u24 (fun i_ => (u25 i_)))) ((((((h1.2 c6).2 c10).2 c14).2 c18).2 c22).1 c23) (fun i_ => (((((((h2 i_).2 c6).2 c10).2 c14).2 c18).2 c22).1 c23)))), (fun c26 => ⟨(fun c27 => (mf_wk_X1_parameter  (fun s168 u28 u29 => (kQ _ u28 (fun i_ => (u29 i_)))) (((((((h1.2 c6).2 c10).2 c14).2 c18).2 c22).2 c26).1 c27) (fun i_ => ((((((((h2 i_).2 c6).2 c10).2 c14).2 c18).2 c22).2 c26).1 c27)))), (fun c30 => (mf_wk_X1_functionEnd  (fun s175 u31 u32 => (kQ _ u31 (fun i_ => (u32 i_)))) (((((((h1.2 c6).2 c10).2 c14).2 c18).2 c22).2 c26).2 c30) (fun i_ => ((((((((h2 i_).2 c6).2 c10).2 c14).2 c18).2 c22).2 c26).2 c30))))⟩)⟩)⟩)⟩)⟩)⟩)⟩
theorem mf_wk_X7_jumpBack {a1 : Int32} {σ : St} {Q1 Q : St → Prop} {Q2 : St → St → Prop} (kQ : (∀ (v0 : St), Q1 v0 → (∀ i_, Q2 i_ v0) → Q v0)) (h1 : wk_X7_jumpBack a1 σ Q1) (h2 : ∀ i_ : St, pk_X7_jumpBack a1 σ (Q2 i_)) : wk_X7_jumpBack a1 σ Q := by
  unfold wk_X7_jumpBack at h1 ⊢
  unfold pk_X7_jumpBack at h2
  exact (mf_wk_X0_emit  (fun v9 s9 u1 u2 => (kQ _ u1 (fun i_ => (u2 i_)))) h1 (fun i_ => (h2 i_)))
theorem mf_wk_X7_finish {σ : St} {Q1 Q : St → Prop} {Q2 : St → St → Prop} (kQ : (∀ (v0 : St), Q1 v0 → (∀ i_, Q2 i_ v0) → Q v0)) (h1 : wk_X7_finish σ Q1) (h2 : ∀ i_ : St, pk_X7_finish σ (Q2 i_)) : wk_X7_finish σ Q := by
  unfold wk_X7_finish at h1 ⊢
  unfold pk_X7_finish at h2
  exact (mf_wk_X0_aim  (fun s32 u1 u2 => (kQ _ u1 (fun i_ => (u2 i_)))) h1 (fun i_ => (h2 i_)))
theorem mf_wk_X7_turn {a1 : Int32} {σ : St} {Q1 Q : St → Prop} {Q2 : St → St → Prop} (kQ : (∀ (v0 : St), Q1 v0 → (∀ i_, Q2 i_ v0) → Q v0)) (h1 : wk_X7_turn a1 σ Q1) (h2 : ∀ i_ : St, pk_X7_turn a1 σ (Q2 i_)) : wk_X7_turn a1 σ Q := by
  unfold wk_X7_turn at h1 ⊢
  unfold pk_X7_turn at h2
  exact (mf_wk_X0_emit  (fun v22 s22 u1 u2 => (kQ _ u1 (fun i_ => (u2 i_)))) h1 (fun i_ => (h2 i_)))
theorem mf_wk_X7_condition {a1 : Int32} {σ : St} {Q1 Q : Nat → St → Prop} {Q2 : St → Nat → St → Prop} (kQ : (∀ (v0 : Nat) (v1 : St), Q1 v0 v1 → (∀ i_, Q2 i_ v0 v1) → Q v0 v1)) (h1 : wk_X7_condition a1 σ Q1) (h2 : ∀ i_ : St, pk_X7_condition a1 σ (Q2 i_)) : wk_X7_condition a1 σ Q := by
  unfold wk_X7_condition at h1 ⊢
  unfold pk_X7_condition at h2
  exact (mf_wk_X2_pop  (fun u4 s4 u1 u2 => ⟨(fun c3 => (kQ _ _ (u1.1 c3) (fun i_ => ((u2 i_).1 c3)))), (fun c4 => (mf_wk_X11_fail  (fun s22 u5 u6 => (kQ _ _ u5 (fun i_ => (u6 i_)))) (u1.2 c4) (fun i_ => ((u2 i_).2 c4))))⟩) h1 (fun i_ => (h2 i_)))
theorem mf_wk_X7_exitUnless {a1 : Nat} {σ : St} {Q1 Q : St → Prop} {Q2 : St → St → Prop} (kQ : (∀ (v0 : St), Q1 v0 → (∀ i_, Q2 i_ v0) → Q v0)) (h1 : wk_X7_exitUnless a1 σ Q1) (h2 : ∀ i_ : St, pk_X7_exitUnless a1 σ (Q2 i_)) : wk_X7_exitUnless a1 σ Q := by
  unfold wk_X7_exitUnless at h1 ⊢
  unfold pk_X7_exitUnless at h2
  exact (mf_wk_X2_unless  (fun v28 s28 u1 u2 => (kQ _ u1 (fun i_ => (u2 i_)))) h1 (fun i_ => (h2 i_)))
theorem mf_wk_X7_begin {a1 : Int32} {σ : St} {Q1 Q : St → Prop} {Q2 : St → St → Prop} (kQ : (∀ (v0 : St), Q1 v0 → (∀ i_, Q2 i_ v0) → Q v0)) (h1 : wk_X7_begin a1 σ Q1) (h2 : ∀ i_ : St, pk_X7_begin a1 σ (Q2 i_)) : wk_X7_begin a1 σ Q := by
  unfold wk_X7_begin at h1 ⊢
  unfold pk_X7_begin at h2
  exact (h1.elim fun J2 hh3 => (Classical.axiomOfChoice (fun i_ => (h2 i_))).elim fun J4 hh5 => ⟨(fun x1 => (J2 x1 ∧ ∀ i_, J4 i_ x1)), ⟨(fun y2_17 => (fun c6 => (fun j7 => (kQ _ (((hh3.1 y2_17) c6) j7.1) (fun i_ => ((((hh5 i_).1 y2_17) c6) (j7.2 i_))))))), ⟨(fun c8 => ⟨(hh3.2.1 c8), fun i_ => ((hh5 i_).2.1 c8)⟩), (fun c9 => ⟨(hh3.2.2 c9), fun i_ => ((hh5 i_).2.2 c9)⟩)⟩⟩⟩)
theorem mf_wk_X7_forLoop {a1 : Int32} {a2 : Int32} {a3 : Int32} {σ : St} {Q1 Q : St → Prop} {Q2 : St → St → Prop} (kQ : (∀ (v0 : St), Q1 v0 → (∀ i_, Q2 i_ v0) → Q v0)) (h1 : wk_X7_forLoop a1 a2 a3 σ Q1) (h2 : ∀ i_ : St, pk_X7_forLoop a1 a2 a3 σ (Q2 i_)) : wk_X7_forLoop a1 a2 a3 σ Q := by
  unfold wk_X7_forLoop at h1 ⊢
  unfold pk_X7_forLoop at h2
  exact ⟨(fun c1 => ⟨(fun c2 => ⟨(fun c3 => (mf_wk_X0_aim  (fun s169 u4 u5 => (mf_wk_X7_jumpBack  (fun s186 u6 u7 => (mf_wk_X7_finish  (fun s190 u8 u9 => (kQ _ u8 (fun i_ => (u9 i_)))) u6 (fun i_ => (u7 i_)))) u4 (fun i_ => (u5 i_)))) (((h1.1 c1).1 c2).1 c3) (fun i_ => ((((h2 i_).1 c1).1 c2).1 c3)))), (fun c10 => (mf_wk_X7_jumpBack  (fun s101 u11 u12 => (mf_wk_X0_aim  (fun s128 u13 u14 => (mf_wk_X7_turn  (fun s133 u15 u16 => (kQ _ u15 (fun i_ => (u16 i_)))) u13 (fun i_ => (u14 i_)))) u11 (fun i_ => (u12 i_)))) (((h1.1 c1).1 c2).2 c10) (fun i_ => ((((h2 i_).1 c1).1 c2).2 c10))))⟩), (fun c17 => (((h1.1 c1).2 c17).elim fun J19 hh20 => (Classical.axiomOfChoice (fun i_ => (((h2 i_).1 c1).2 c17))).elim fun J21 hh22 => ⟨(fun x18 => (J19 x18 ∧ ∀ i_, J21 i_ x18)), ⟨(fun s33 => (fun j23 => (mf_wk_X0_emit  (fun v52 s52 u24 u25 => (kQ _ u24 (fun i_ => (u25 i_)))) ((hh20.1 s33) j23.1) (fun i_ => (((hh22 i_).1 s33) (j23.2 i_)))))), ⟨(fun c26 => ⟨(hh20.2.1 c26), fun i_ => ((hh22 i_).2.1 c26)⟩), (fun c27 => (mf_wk_X7_condition  (fun u27 s27 u28 u29 => (mf_wk_X7_exitUnless  (fun s30 u30 u31 => ⟨u30, fun i_ => (u31 i_)⟩) u28 (fun i_ => (u29 i_)))) (hh20.2.2 c27) (fun i_ => ((hh22 i_).2.2 c27))))⟩⟩⟩))⟩), (fun c32 => (mf_wk_X7_begin  (fun s8 u33 u34 => (kQ _ u33 (fun i_ => (u34 i_)))) (h1.2 c32) (fun i_ => ((h2 i_).2 c32))))⟩
theorem mf_wk_X7_doLoop {a1 : Int32} {a2 : Int32} {σ : St} {Q1 Q : St → Prop} {Q2 : St → St → Prop} (kQ : (∀ (v0 : St), Q1 v0 → (∀ i_, Q2 i_ v0) → Q v0)) (h1 : wk_X7_doLoop a1 a2 σ Q1) (h2 : ∀ i_ : St, pk_X7_doLoop a1 a2 σ (Q2 i_)) : wk_X7_doLoop a1 a2 σ Q := by
  unfold wk_X7_doLoop at h1 ⊢
  unfold pk_X7_doLoop at h2
  exact ⟨(fun c1 => ⟨(fun c2 => (mf_wk_X7_condition  (fun u57 s57 u3 u4 => (mf_wk_X0_emit  (fun v82 s82 u5 u6 => (mf_wk_X7_finish  (fun s87 u7 u8 => (kQ _ u7 (fun i_ => (u8 i_)))) u5 (fun i_ => (u6 i_)))) u3 (fun i_ => (u4 i_)))) ((h1.1 c1).1 c2) (fun i_ => (((h2 i_).1 c1).1 c2)))), (fun c9 => (mf_wk_X0_aim  (fun s49 u10 u11 => (kQ _ u10 (fun i_ => (u11 i_)))) ((h1.1 c1).2 c9) (fun i_ => (((h2 i_).1 c1).2 c9))))⟩), (fun c12 => (mf_wk_X7_begin  (fun s8 u13 u14 => (mf_wk_X7_turn  (fun s13 u15 u16 => (kQ _ u15 (fun i_ => (u16 i_)))) u13 (fun i_ => (u14 i_)))) (h1.2 c12) (fun i_ => ((h2 i_).2 c12))))⟩
theorem mf_wk_X7_whileLoop {a1 : Int32} {a2 : Int32} {σ : St} {Q1 Q : St → Prop} {Q2 : St → St → Prop} (kQ : (∀ (v0 : St), Q1 v0 → (∀ i_, Q2 i_ v0) → Q v0)) (h1 : wk_X7_whileLoop a1 a2 σ Q1) (h2 : ∀ i_ : St, pk_X7_whileLoop a1 a2 σ (Q2 i_)) : wk_X7_whileLoop a1 a2 σ Q := by
  unfold wk_X7_whileLoop at h1 ⊢
  unfold pk_X7_whileLoop at h2
  exact ⟨(fun c1 => ⟨(fun c2 => (mf_wk_X0_aim  (fun s67 u3 u4 => (mf_wk_X7_jumpBack  (fun s84 u5 u6 => (mf_wk_X7_finish  (fun s88 u7 u8 => (kQ _ u7 (fun i_ => (u8 i_)))) u5 (fun i_ => (u6 i_)))) u3 (fun i_ => (u4 i_)))) ((h1.1 c1).1 c2) (fun i_ => (((h2 i_).1 c1).1 c2)))), (fun c9 => (mf_wk_X7_condition  (fun u23 s23 u10 u11 => (mf_wk_X7_exitUnless  (fun s26 u12 u13 => (mf_wk_X7_turn  (fun s31 u14 u15 => (kQ _ u14 (fun i_ => (u15 i_)))) u12 (fun i_ => (u13 i_)))) u10 (fun i_ => (u11 i_)))) ((h1.1 c1).2 c9) (fun i_ => (((h2 i_).1 c1).2 c9))))⟩), (fun c16 => (mf_wk_X7_begin  (fun s8 u17 u18 => (kQ _ u17 (fun i_ => (u18 i_)))) (h1.2 c16) (fun i_ => ((h2 i_).2 c16))))⟩
theorem mf_wk_X7_leave_r52 {a1 : Int32} {σ : St} {Q1 Q : St → Prop} {Q2 : St → St → Prop} (kQ : (∀ (v0 : St), Q1 v0 → (∀ i_, Q2 i_ v0) → Q v0)) (h1 : wk_X7_leave_r52 a1 σ Q1) (h2 : ∀ i_ : St, pk_X7_leave_r52 a1 σ (Q2 i_)) : wk_X7_leave_r52 a1 σ Q := by
  unfold wk_X7_leave_r52 at h1 ⊢
  unfold pk_X7_leave_r52 at h2
  exact (h1.elim fun J3 hh4 => (Classical.axiomOfChoice (fun i_ => (h2 i_))).elim fun J5 hh6 => ⟨(fun x1 x2 => J3 x1 x2 ∧ ∀ i_, J5 i_ x2), (hh4.1.elim fun na la => ⟨na, la, fun i_ => (hh6 i_).1⟩), fun n7 x3_7 l7 => ((hh4.2 n7 x3_7 l7.1).elim fun J8 hh9 => (Classical.axiomOfChoice (fun i_ => ((hh6 i_).2 x3_7 (l7.2 i_)))).elim fun J10 hh11 => ⟨(J8 ∧ ∀ i_, J10 i_), ⟨(fun j12 => ⟨(fun c13 => (mf_wk_X0_emit  (fun v59 s59 u14 u15 => (kQ _ u14 (fun i_ => (u15 i_)))) ((hh9.1 j12.1).1 c13) (fun i_ => (((hh11 i_).1 (j12.2 i_)).1 c13)))), (fun c16 => (mf_wk_X11_fail  (fun s38 u17 u18 => (kQ _ u17 (fun i_ => (u18 i_)))) ((hh9.1 j12.1).2 c16) (fun i_ => (((hh11 i_).1 (j12.2 i_)).2 c16))))⟩), ⟨(fun c19 => ⟨(hh9.2.1 c19), fun i_ => ((hh11 i_).2.1 c19)⟩), (fun c20 => ⟨(fun c21 => ⟨((hh9.2.2 c20).1 c21), fun i_ => (((hh11 i_).2.2 c20).1 c21)⟩), (fun c22 => (((hh9.2.2 c20).2 c22).elim fun ma la => ⟨ma, la.1, la.2, fun i_ => (((hh11 i_).2.2 c20).2 c22)⟩))⟩)⟩⟩⟩)⟩)
theorem mf_wk_X7_leave_r51 {a1 : Int32} {σ : St} {Q1 Q : St → Prop} {Q2 : St → St → Prop} (kQ : (∀ (v0 : St), Q1 v0 → (∀ i_, Q2 i_ v0) → Q v0)) (h1 : wk_X7_leave_r51 a1 σ Q1) (h2 : ∀ i_ : St, pk_X7_leave_r51 a1 σ (Q2 i_)) : wk_X7_leave_r51 a1 σ Q := by
  unfold wk_X7_leave_r51 at h1 ⊢
  unfold pk_X7_leave_r51 at h2
  exact (h1.elim fun J3 hh4 => (Classical.axiomOfChoice (fun i_ => (h2 i_))).elim fun J5 hh6 => ⟨(fun x1 x2 => J3 x1 x2 ∧ ∀ i_, J5 i_ x2), (hh4.1.elim fun na la => ⟨na, la, fun i_ => (hh6 i_).1⟩), fun n7 x3_7 l7 => ((hh4.2 n7 x3_7 l7.1).elim fun J8 hh9 => (Classical.axiomOfChoice (fun i_ => ((hh6 i_).2 x3_7 (l7.2 i_)))).elim fun J10 hh11 => ⟨(J8 ∧ ∀ i_, J10 i_), ⟨(fun j12 => ⟨(fun c13 => (mf_wk_X0_emit  (fun v59 s59 u14 u15 => (kQ _ u14 (fun i_ => (u15 i_)))) ((hh9.1 j12.1).1 c13) (fun i_ => (((hh11 i_).1 (j12.2 i_)).1 c13)))), (fun c16 => (mf_wk_X11_fail  (fun s38 u17 u18 => (kQ _ u17 (fun i_ => (u18 i_)))) ((hh9.1 j12.1).2 c16) (fun i_ => (((hh11 i_).1 (j12.2 i_)).2 c16))))⟩), ⟨(fun c19 => ⟨(hh9.2.1 c19), fun i_ => ((hh11 i_).2.1 c19)⟩), (fun c20 => ⟨(fun c21 => ⟨((hh9.2.2 c20).1 c21), fun i_ => (((hh11 i_).2.2 c20).1 c21)⟩), (fun c22 => (((hh9.2.2 c20).2 c22).elim fun ma la => ⟨ma, la.1, la.2, fun i_ => (((hh11 i_).2.2 c20).2 c22)⟩))⟩)⟩⟩⟩)⟩)
theorem mf_wk_X7_conditional {a1 : Int32} {a2 : Int32} {σ : St} {Q1 Q : St → Prop} {Q2 : St → St → Prop} (kQ : (∀ (v0 : St), Q1 v0 → (∀ i_, Q2 i_ v0) → Q v0)) (h1 : wk_X7_conditional a1 a2 σ Q1) (h2 : ∀ i_ : St, pk_X7_conditional a1 a2 σ (Q2 i_)) : wk_X7_conditional a1 a2 σ Q := by
  unfold wk_X7_conditional at h1 ⊢
  unfold pk_X7_conditional at h2
  exact ⟨(fun c1 => ⟨(fun c2 => (mf_wk_X7_finish  (fun s89 u3 u4 => (kQ _ u3 (fun i_ => (u4 i_)))) ((h1.1 c1).1 c2) (fun i_ => (((h2 i_).1 c1).1 c2)))), (fun c5 => (mf_wk_X0_emit  (fun v40 s40 u6 u7 => (mf_wk_X0_aim  (fun s68 u8 u9 => (kQ _ u8 (fun i_ => (u9 i_)))) u6 (fun i_ => (u7 i_)))) ((h1.1 c1).2 c5) (fun i_ => (((h2 i_).1 c1).2 c5))))⟩), (fun c10 => (mf_wk_X7_condition  (fun u8 s8 u11 u12 => (mf_wk_X7_begin  (fun s14 u13 u14 => (mf_wk_X7_exitUnless  (fun s19 u15 u16 => (kQ _ u15 (fun i_ => (u16 i_)))) u13 (fun i_ => (u14 i_)))) u11 (fun i_ => (u12 i_)))) (h1.2 c10) (fun i_ => ((h2 i_).2 c10))))⟩
theorem mf_wk_X11_close {σ : St} {Q1 Q : St → Prop} {Q2 : St → St → Prop} (kQ : (∀ (v0 : St), Q1 v0 → (∀ i_, Q2 i_ v0) → Q v0)) (h1 : wk_X11_close σ Q1) (h2 : ∀ i_ : St, pk_X11_close σ (Q2 i_)) : wk_X11_close σ Q := by
  unfold wk_X11_close at h1 ⊢
  unfold pk_X11_close at h2
  exact (kQ _ h1 (fun i_ => (h2 i_)))
theorem mf_wk_X7_giveBack {a1 : Int32} {a2 : Int32} {σ : St} {Q1 Q : St → Prop} {Q2 : St → St → Prop} (kQ : (∀ (v0 : St), Q1 v0 → (∀ i_, Q2 i_ v0) → Q v0)) (h1 : wk_X7_giveBack a1 a2 σ Q1) (h2 : ∀ i_ : St, pk_X7_giveBack a1 a2 σ (Q2 i_)) : wk_X7_giveBack a1 a2 σ Q := by
  unfold wk_X7_giveBack at h1 ⊢
  unfold pk_X7_giveBack at h2
  exact (h1.elim fun J2 hh3 => (Classical.axiomOfChoice (fun i_ => (h2 i_))).elim fun J4 hh5 => ⟨(fun x1 => (J2 x1 ∧ ∀ i_, J4 i_ x1)), ⟨(fun y0_31 => (fun c6 => (fun j7 => ((((hh3.1 y0_31) c6) j7.1).elim fun J10 hh11 => (Classical.axiomOfChoice (fun i_ => ((((hh5 i_).1 y0_31) c6) (j7.2 i_)))).elim fun J12 hh13 => ⟨(fun x8 x9 => (J10 x8 x9 ∧ ∀ i_, J12 i_ x8 x9)), ⟨(fun x4_65 s65 => (fun c14 => (fun j15 => (mf_wk_X0_emit  (fun v74 s74 u16 u17 => ⟨(fun c18 => (kQ _ (u16.1 c18) (fun i_ => ((u17 i_).1 c18)))), (fun c19 => (mf_wk_X11_fail  (fun s89 u20 u21 => (kQ _ u20 (fun i_ => (u21 i_)))) (u16.2 c19) (fun i_ => ((u17 i_).2 c19))))⟩) (((hh11.1 x4_65 s65) c14) j15.1) (fun i_ => ((((hh13 i_).1 x4_65 s65) c14) (j15.2 i_))))))), ⟨(fun c22 => (mf_wk_X0_emit  (fun v61 s61 u23 u24 => ⟨u23, fun i_ => (u24 i_)⟩) (hh11.2.1 c22) (fun i_ => ((hh13 i_).2.1 c22)))), (fun c25 => (mf_wk_X2_pop  (fun u41 s41 u26 u27 => (mf_wk_X6_fits  (fun v45 u28 u29 => ⟨u28, fun i_ => (u29 i_)⟩) u26 (fun i_ => (u27 i_)))) (hh11.2.2 c25) (fun i_ => ((hh13 i_).2.2 c25))))⟩⟩⟩)))), ⟨(fun c30 => ⟨(hh3.2.1 c30), fun i_ => ((hh5 i_).2.1 c30)⟩), (fun c31 => ⟨(hh3.2.2 c31), fun i_ => ((hh5 i_).2.2 c31)⟩)⟩⟩⟩)
theorem mf_wk_X7_take {a1 : Int32} {a2 : Int32} {σ : St} {Q1 Q : St → Prop} {Q2 : St → St → Prop} (kQ : (∀ (v0 : St), Q1 v0 → (∀ i_, Q2 i_ v0) → Q v0)) (h1 : wk_X7_take a1 a2 σ Q1) (h2 : ∀ i_ : St, pk_X7_take a1 a2 σ (Q2 i_)) : wk_X7_take a1 a2 σ Q := by
  unfold wk_X7_take at h1 ⊢
  unfold pk_X7_take at h2
  exact (h1.elim fun J2 hh3 => (Classical.axiomOfChoice (fun i_ => (h2 i_))).elim fun J4 hh5 => ⟨(fun x1 => (J2 x1 ∧ ∀ i_, J4 i_ x1)), ⟨(fun y0_31 => (fun c6 => (fun j7 => ((((hh3.1 y0_31) c6) j7.1).elim fun J8 hh9 => (Classical.axiomOfChoice (fun i_ => ((((hh5 i_).1 y0_31) c6) (j7.2 i_)))).elim fun J10 hh11 => ⟨(J8 ∧ ∀ i_, J10 i_), ⟨(fun j12 => (mf_wk_X7_forLoop  (fun s234 u13 u14 => (kQ _ u13 (fun i_ => (u14 i_)))) (hh9.1 j12.1) (fun i_ => ((hh11 i_).1 (j12.2 i_))))), (hh9.2.elim fun J15 hh16 => (Classical.axiomOfChoice (fun i_ => (hh11 i_).2)).elim fun J17 hh18 => ⟨(J15 ∧ ∀ i_, J17 i_), ⟨(fun j19 => (mf_wk_X7_doLoop  (fun s223 u20 u21 => (kQ _ u20 (fun i_ => (u21 i_)))) (hh16.1 j19.1) (fun i_ => ((hh18 i_).1 (j19.2 i_))))), (hh16.2.elim fun J22 hh23 => (Classical.axiomOfChoice (fun i_ => (hh18 i_).2)).elim fun J24 hh25 => ⟨(J22 ∧ ∀ i_, J24 i_), ⟨(fun j26 => (mf_wk_X7_whileLoop  (fun s214 u27 u28 => (kQ _ u27 (fun i_ => (u28 i_)))) (hh23.1 j26.1) (fun i_ => ((hh25 i_).1 (j26.2 i_))))), (hh23.2.elim fun J29 hh30 => (Classical.axiomOfChoice (fun i_ => (hh25 i_).2)).elim fun J31 hh32 => ⟨(J29 ∧ ∀ i_, J31 i_), ⟨(fun j33 => ⟨(fun c34 => (mf_wk_X7_leave_r52  (fun s195 u35 u36 => (kQ _ u35 (fun i_ => (u36 i_)))) ((hh30.1 j33.1).1 c34) (fun i_ => (((hh32 i_).1 (j33.2 i_)).1 c34)))), (fun c37 => (mf_wk_X7_leave_r51  (fun s195 u38 u39 => (kQ _ u38 (fun i_ => (u39 i_)))) ((hh30.1 j33.1).2 c37) (fun i_ => (((hh32 i_).1 (j33.2 i_)).2 c37))))⟩), (hh30.2.elim fun J40 hh41 => (Classical.axiomOfChoice (fun i_ => (hh32 i_).2)).elim fun J42 hh43 => ⟨(J40 ∧ ∀ i_, J42 i_), ⟨(fun j44 => (mf_wk_X7_conditional  (fun s170 u45 u46 => (kQ _ u45 (fun i_ => (u46 i_)))) (hh41.1 j44.1) (fun i_ => ((hh43 i_).1 (j44.2 i_))))), ⟨(fun c47 => (mf_wk_X11_open  (fun s128 u48 u49 => (kQ _ u48 (fun i_ => (u49 i_)))) (hh41.2.1 c47) (fun i_ => ((hh43 i_).2.1 c47)))), (fun c50 => ⟨(fun c51 => (mf_wk_X11_close  (fun s138 u52 u53 => (kQ _ u52 (fun i_ => (u53 i_)))) ((hh41.2.2 c50).1 c51) (fun i_ => (((hh43 i_).2.2 c50).1 c51)))), (fun c54 => ⟨(fun c55 => (mf_wk_X2_pop  (fun u148 s148 u56 u57 => (mf_wk_X0_emit  (fun v160 s160 u58 u59 => (kQ _ u58 (fun i_ => (u59 i_)))) u56 (fun i_ => (u57 i_)))) (((hh41.2.2 c50).2 c54).1 c55) (fun i_ => ((((hh43 i_).2.2 c50).2 c54).1 c55)))), (fun c60 => ⟨(fun c61 => ⟨((((hh41.2.2 c50).2 c54).2 c60).1 c61), fun i_ => (((((hh43 i_).2.2 c50).2 c54).2 c60).1 c61)⟩), (fun c62 => ⟨(fun c63 => ⟨(((((hh41.2.2 c50).2 c54).2 c60).2 c62).1 c63), fun i_ => ((((((hh43 i_).2.2 c50).2 c54).2 c60).2 c62).1 c63)⟩), (fun c64 => ⟨(fun c65 => ⟨((((((hh41.2.2 c50).2 c54).2 c60).2 c62).2 c64).1 c65), fun i_ => (((((((hh43 i_).2.2 c50).2 c54).2 c60).2 c62).2 c64).1 c65)⟩), (fun c66 => ⟨(fun c67 => ⟨(((((((hh41.2.2 c50).2 c54).2 c60).2 c62).2 c64).2 c66).1 c67), fun i_ => ((((((((hh43 i_).2.2 c50).2 c54).2 c60).2 c62).2 c64).2 c66).1 c67)⟩), (fun c68 => ⟨(fun c69 => ⟨((((((((hh41.2.2 c50).2 c54).2 c60).2 c62).2 c64).2 c66).2 c68).1 c69), fun i_ => (((((((((hh43 i_).2.2 c50).2 c54).2 c60).2 c62).2 c64).2 c66).2 c68).1 c69)⟩), (fun c70 => ⟨(fun c71 => ⟨(((((((((hh41.2.2 c50).2 c54).2 c60).2 c62).2 c64).2 c66).2 c68).2 c70).1 c71), fun i_ => ((((((((((hh43 i_).2.2 c50).2 c54).2 c60).2 c62).2 c64).2 c66).2 c68).2 c70).1 c71)⟩), (fun c72 => ⟨(fun c73 => ⟨((((((((((hh41.2.2 c50).2 c54).2 c60).2 c62).2 c64).2 c66).2 c68).2 c70).2 c72).1 c73), fun i_ => (((((((((((hh43 i_).2.2 c50).2 c54).2 c60).2 c62).2 c64).2 c66).2 c68).2 c70).2 c72).1 c73)⟩), (fun c74 => ⟨(fun c75 => ⟨(((((((((((hh41.2.2 c50).2 c54).2 c60).2 c62).2 c64).2 c66).2 c68).2 c70).2 c72).2 c74).1 c75), fun i_ => ((((((((((((hh43 i_).2.2 c50).2 c54).2 c60).2 c62).2 c64).2 c66).2 c68).2 c70).2 c72).2 c74).1 c75)⟩), (fun c76 => ⟨(fun c77 => ⟨((((((((((((hh41.2.2 c50).2 c54).2 c60).2 c62).2 c64).2 c66).2 c68).2 c70).2 c72).2 c74).2 c76).1 c77), fun i_ => (((((((((((((hh43 i_).2.2 c50).2 c54).2 c60).2 c62).2 c64).2 c66).2 c68).2 c70).2 c72).2 c74).2 c76).1 c77)⟩), (fun c78 => ⟨(fun c79 => ⟨(((((((((((((hh41.2.2 c50).2 c54).2 c60).2 c62).2 c64).2 c66).2 c68).2 c70).2 c72).2 c74).2 c76).2 c78).1 c79), fun i_ => ((((((((((((((hh43 i_).2.2 c50).2 c54).2 c60).2 c62).2 c64).2 c66).2 c68).2 c70).2 c72).2 c74).2 c76).2 c78).1 c79)⟩), (fun c80 => ⟨(fun c81 => ⟨((((((((((((((hh41.2.2 c50).2 c54).2 c60).2 c62).2 c64).2 c66).2 c68).2 c70).2 c72).2 c74).2 c76).2 c78).2 c80).1 c81), fun i_ => (((((((((((((((hh43 i_).2.2 c50).2 c54).2 c60).2 c62).2 c64).2 c66).2 c68).2 c70).2 c72).2 c74).2 c76).2 c78).2 c80).1 c81)⟩), (fun c82 => ⟨(fun c83 => ⟨(((((((((((((((hh41.2.2 c50).2 c54).2 c60).2 c62).2 c64).2 c66).2 c68).2 c70).2 c72).2 c74).2 c76).2 c78).2 c80).2 c82).1 c83), fun i_ => ((((((((((((((((hh43 i_).2.2 c50).2 c54).2 c60).2 c62).2 c64).2 c66).2 c68).2 c70).2 c72).2 c74).2 c76).2 c78).2 c80).2 c82).1 c83)⟩), (fun c84 => ⟨(fun c85 => ⟨((((((((((((((((hh41.2.2 c50).2 c54).2 c60).2 c62).2 c64).2 c66).2 c68).2 c70).2 c72).2 c74).2 c76).2 c78).2 c80).2 c82).2 c84).1 c85), fun i_ => (((((((((((((((((hh43 i_).2.2 c50).2 c54).2 c60).2 c62).2 c64).2 c66).2 c68).2 c70).2 c72).2 c74).2 c76).2 c78).2 c80).2 c82).2 c84).1 c85)⟩), (fun c86 => ⟨(fun c87 => ⟨(((((((((((((((((hh41.2.2 c50).2 c54).2 c60).2 c62).2 c64).2 c66).2 c68).2 c70).2 c72).2 c74).2 c76).2 c78).2 c80).2 c82).2 c84).2 c86).1 c87), fun i_ => ((((((((((((((((((hh43 i_).2.2 c50).2 c54).2 c60).2 c62).2 c64).2 c66).2 c68).2 c70).2 c72).2 c74).2 c76).2 c78).2 c80).2 c82).2 c84).2 c86).1 c87)⟩), (fun c88 => ⟨(fun c89 => ⟨((((((((((((((((((hh41.2.2 c50).2 c54).2 c60).2 c62).2 c64).2 c66).2 c68).2 c70).2 c72).2 c74).2 c76).2 c78).2 c80).2 c82).2 c84).2 c86).2 c88).1 c89), fun i_ => (((((((((((((((((((hh43 i_).2.2 c50).2 c54).2 c60).2 c62).2 c64).2 c66).2 c68).2 c70).2 c72).2 c74).2 c76).2 c78).2 c80).2 c82).2 c84).2 c86).2 c88).1 c89)⟩), (fun c90 => ⟨(fun c91 => (mf_wk_X7_giveBack  (fun s205 u92 u93 => (kQ _ u92 (fun i_ => (u93 i_)))) (((((((((((((((((((hh41.2.2 c50).2 c54).2 c60).2 c62).2 c64).2 c66).2 c68).2 c70).2 c72).2 c74).2 c76).2 c78).2 c80).2 c82).2 c84).2 c86).2 c88).2 c90).1 c91) (fun i_ => ((((((((((((((((((((hh43 i_).2.2 c50).2 c54).2 c60).2 c62).2 c64).2 c66).2 c68).2 c70).2 c72).2 c74).2 c76).2 c78).2 c80).2 c82).2 c84).2 c86).2 c88).2 c90).1 c91)))), (fun c94 => ⟨(((((((((((((((((((hh41.2.2 c50).2 c54).2 c60).2 c62).2 c64).2 c66).2 c68).2 c70).2 c72).2 c74).2 c76).2 c78).2 c80).2 c82).2 c84).2 c86).2 c88).2 c90).2 c94), fun i_ => ((((((((((((((((((((hh43 i_).2.2 c50).2 c54).2 c60).2 c62).2 c64).2 c66).2 c68).2 c70).2 c72).2 c74).2 c76).2 c78).2 c80).2 c82).2 c84).2 c86).2 c88).2 c90).2 c94)⟩)⟩)⟩)⟩)⟩)⟩)⟩)⟩)⟩)⟩)⟩)⟩)⟩)⟩)⟩)⟩)⟩)⟩)⟩)⟩⟩⟩)⟩⟩)⟩⟩)⟩⟩)⟩⟩)))), ⟨(fun c95 => ⟨(hh3.2.1 c95), fun i_ => ((hh5 i_).2.1 c95)⟩), (fun c96 => ⟨(hh3.2.2 c96), fun i_ => ((hh5 i_).2.2 c96)⟩)⟩⟩⟩)
theorem mf_wk_X7_walk {a1 : Int32} {σ : St} {Q1 Q : St → Prop} {Q2 : St → St → Prop} (kQ : (∀ (v0 : St), Q1 v0 → (∀ i_, Q2 i_ v0) → Q v0)) (h1 : wk_X7_walk a1 σ Q1) (h2 : ∀ i_ : St, pk_X7_walk a1 σ (Q2 i_)) : wk_X7_walk a1 σ Q := by
  unfold wk_X7_walk at h1 ⊢
  unfold pk_X7_walk at h2
  exact (mf_wk_X11_begin  (fun s5 u1 u2 => (mf_wk_X1_begin  (fun s12 u3 u4 => (u3.elim fun J9 hh10 => (Classical.axiomOfChoice (fun i_ => (u4 i_))).elim fun J11 hh12 => ⟨(fun x5 x6 x7 x8 => J9 x5 x6 x7 x8 ∧ ∀ i_, J11 i_ x6 x7 x8), (hh10.1.elim fun na la => ⟨na, la, fun i_ => (hh12 i_).1⟩), fun n38 x2_38 x3_38 s38 l13 => ((hh10.2 n38 x2_38 x3_38 s38 l13.1).elim fun J14 hh15 => (Classical.axiomOfChoice (fun i_ => ((hh12 i_).2 x2_38 x3_38 s38 (l13.2 i_)))).elim fun J16 hh17 => ⟨(J14 ∧ ∀ i_, J16 i_), ⟨(fun j18 => (mf_wk_X11_finish  (fun s180 u19 u20 => (kQ _ u19 (fun i_ => (u20 i_)))) (hh15.1 j18.1) (fun i_ => ((hh17 i_).1 (j18.2 i_))))), ⟨(fun c21 => ⟨(hh15.2.1 c21), fun i_ => ((hh17 i_).2.1 c21)⟩), (fun c22 => ⟨(fun c23 => ⟨((hh15.2.2 c22).1 c23), fun i_ => (((hh17 i_).2.2 c22).1 c23)⟩), (fun c24 => ⟨(fun c25 => ⟨(((hh15.2.2 c22).2 c24).1 c25), fun i_ => ((((hh17 i_).2.2 c22).2 c24).1 c25)⟩), (fun c26 => ((((hh15.2.2 c22).2 c24).2 c26).elim fun J29 hh30 => (Classical.axiomOfChoice (fun i_ => ((((hh17 i_).2.2 c22).2 c24).2 c26))).elim fun J31 hh32 => ⟨(fun x27 x28 => (J29 x27 x28 ∧ ∀ i_, J31 i_ x27 x28)), ⟨(fun x2_167 s167 => (fun j33 => (((hh30.1 x2_167 s167) j33.1).elim fun ma la => ⟨ma, la.1, la.2, fun i_ => (((hh32 i_).1 x2_167 s167) (j33.2 i_))⟩))), ⟨(fun c34 => ⟨(fun c35 => ⟨(fun c36 => (mf_wk_X7_constant  (fun v154 s154 u37 u38 => ⟨u37, fun i_ => (u38 i_)⟩) (((hh30.2.1 c34).1 c35).1 c36) (fun i_ => ((((hh32 i_).2.1 c34).1 c35).1 c36)))), (fun c39 => (mf_wk_X1_take  (fun s125 u40 u41 => ⟨u40, fun i_ => (u41 i_)⟩) (((hh30.2.1 c34).1 c35).2 c39) (fun i_ => ((((hh32 i_).2.1 c34).1 c35).2 c39))))⟩), (fun c42 => (mf_wk_X7_take  (fun s105 u43 u44 => ⟨u43, fun i_ => (u44 i_)⟩) ((hh30.2.1 c34).2 c42) (fun i_ => (((hh32 i_).2.1 c34).2 c42))))⟩), (fun c45 => (mf_wk_X2_take  (fun s88 u46 u47 => ⟨u46, fun i_ => (u47 i_)⟩) (hh30.2.2 c45) (fun i_ => ((hh32 i_).2.2 c45))))⟩⟩⟩))⟩)⟩)⟩⟩⟩)⟩)) u1 (fun i_ => (u2 i_)))) h1 (fun i_ => (h2 i_)))
theorem mf_wk_X8_keep {a1 : Int32} {σ : St} {Q1 Q : Int32 → St → Prop} {Q2 : St → Int32 → St → Prop} (kQ : (∀ (v0 : Int32) (v1 : St), Q1 v0 v1 → (∀ i_, Q2 i_ v0 v1) → Q v0 v1)) (h1 : wk_X8_keep a1 σ Q1) (h2 : ∀ i_ : St, pk_X8_keep a1 σ (Q2 i_)) : wk_X8_keep a1 σ Q := by
  unfold wk_X8_keep at h1 ⊢
  unfold pk_X8_keep at h2
  exact (kQ _ _ h1 (fun i_ => (h2 i_)))
theorem mf_wk_X8_nameStart {a1 : Int32} {σ : St} {Q1 Q : Int32 → Prop} {Q2 : St → Int32 → Prop} (kQ : (∀ (v0 : Int32), Q1 v0 → (∀ i_, Q2 i_ v0) → Q v0)) (h1 : wk_X8_nameStart a1 σ Q1) (h2 : ∀ i_ : St, pk_X8_nameStart a1 σ (Q2 i_)) : wk_X8_nameStart a1 σ Q := by
  unfold wk_X8_nameStart at h1 ⊢
  unfold pk_X8_nameStart at h2
  exact (kQ _ h1 (fun i_ => (h2 i_)))
theorem mf_wk_X8_forget {σ : St} {Q1 Q : St → Prop} {Q2 : St → St → Prop} (kQ : (∀ (v0 : St), Q1 v0 → (∀ i_, Q2 i_ v0) → Q v0)) (h1 : wk_X8_forget σ Q1) (h2 : ∀ i_ : St, pk_X8_forget σ (Q2 i_)) : wk_X8_forget σ Q := by
  unfold wk_X8_forget at h1 ⊢
  unfold pk_X8_forget at h2
  exact (mf_wk_X8_nameStart  (fun v21 u1 u2 => (mf_wk_X0_cut  (fun s57 u3 u4 => (kQ _ u3 (fun i_ => (u4 i_)))) u1 (fun i_ => (u2 i_)))) h1 (fun i_ => (h2 i_)))
theorem mf_wk_X12_compile {a1 : Int32} {σ : St} {Q1 Q : Int32 → St → Prop} {Q2 : St → Int32 → St → Prop} (kQ : (∀ (v0 : Int32) (v1 : St), Q1 v0 v1 → (∀ i_, Q2 i_ v0 v1) → Q v0 v1)) (h1 : wk_X12_compile a1 σ Q1) (h2 : ∀ i_ : St, pk_X12_compile a1 σ (Q2 i_)) : wk_X12_compile a1 σ Q := by
  unfold wk_X12_compile at h1 ⊢
  unfold pk_X12_compile at h2
  exact ⟨(fun c1 => (kQ _ _ (h1.1 c1) (fun i_ => ((h2 i_).1 c1)))), (fun c2 => ⟨(fun c3 => (kQ _ _ ((h1.2 c2).1 c3) (fun i_ => (((h2 i_).2 c2).1 c3)))), (fun c4 => ⟨(fun c5 => (mf_wk_X10_scan  (fun s44 u6 u7 => (mf_wk_X3_read  (fun v51 s51 u8 u9 => ⟨(fun c10 => (mf_wk_X7_walk  (fun s86 u11 u12 => ⟨(fun c13 => (mf_wk_X8_keep  (fun v149 s149 u14 u15 => (kQ _ _ u14 (fun i_ => (u15 i_)))) (u11.1 c13) (fun i_ => ((u12 i_).1 c13)))), (fun c16 => (mf_wk_X8_forget  (fun s103 u17 u18 => (kQ _ _ u17 (fun i_ => (u18 i_)))) (u11.2 c16) (fun i_ => ((u12 i_).2 c16))))⟩) (u8.1 c10) (fun i_ => ((u9 i_).1 c10)))), (fun c19 => (kQ _ _ (u8.2 c19) (fun i_ => ((u9 i_).2 c19))))⟩) u6 (fun i_ => (u7 i_)))) (((h1.2 c2).2 c4).1 c5) (fun i_ => ((((h2 i_).2 c2).2 c4).1 c5)))), (fun c20 => (kQ _ _ (((h1.2 c2).2 c4).2 c20) (fun i_ => ((((h2 i_).2 c2).2 c4).2 c20))))⟩)⟩)⟩
end

section
/-! compile(), both sides -/
/-- alike between calls -/
def RLp (w σ : St) : Prop := (w 5 13).toInt = (σ 0 35).toInt ∧ (w 5 1).toInt = (σ 0 36).toInt + 4 ∧ (w 5 7).toInt = (σ 0 31).toInt + 15 ∧ (w 0 1).toInt = (σ 0 1).toInt ∧ (w 0 2).toInt = (σ 0 2).toInt ∧ ∀ j, (w 1 j).toInt = (σ 1 j).toInt
def SAM (σ s : St) : Prop := s 0 35 = σ 0 35 ∧ s 0 36 = σ 0 36 ∧ s 0 31 = σ 0 31
/-- what the reference's compile() leaves -/
def CMPq (a : Int32) (σ s : St) : Prop := s 1 = σ 1 ∧ (((a.toInt < 0 ∨ 3 < a.toInt ∨ (σ 0 35).toInt = 100) ∧ SAM σ s) ∨ ((0 ≤ a.toInt ∧ a.toInt ≤ 3 ∧ (σ 0 35).toInt ≠ 100) ∧ ∃ (lo : Nat) (σ0 s1 : St) (v1 : Int32), S0q lo σ0 ∧ (σ 0 36).toInt = (lo : Int) ∧ σ0 0 31 = σ 0 31 ∧ σ0 1 = σ 1 ∧ RDq (σ 1) (σ 0 1).toInt lo σ0 v1 s1 ∧ ((v1.toInt = 0 ∧ (s 0 35).toInt = (σ 0 35).toInt + 1 ∧ s 0 36 = s1 0 36 ∧ s 0 31 = s1 0 31) ∨ (v1.toInt ≠ 0 ∧ SAM σ s))))
section CPB
variable {w σ s s' σ0 τ t : St} {vs z : List Nat} {a : Int32} {o : Nat}
theorem rd_fr (h : RS0 σ τ vs) : wp_read_0 σ τ vs (fun v s _ _ => (v = 0 ∨ v.toInt < 0) ∧ s 0 35 = σ 0 35 ∧ s 22 = σ 22 ∧ s 1 = σ 1) := sp_read0 h (fun σ1 s t z hP kr il _ _ => ⟨Or.inl rfl, (il.1.1 0 35 rfl rfl).trans (kr 0 35 rfl rfl), funext (fun j => (il.1.1 22 j rfl rfl).trans (kr 22 j rfl rfl)), funext (fun j => (il.1.1 1 j rfl rfl).trans (kr 1 j rfl rfl))⟩) (fun v σ1 s t z hv hP kr ut => by
  obtain ⟨⟨s0, u1, hs⟩, -⟩ := ut
  refine ⟨Or.inr hv, ?_, ?_, ?_⟩
  · rw [hs, rdA_ne (by decide)]; exact (u1.1 0 35 rfl rfl).trans (kr 0 35 rfl rfl)
  · rw [hs, rdC_ne (by decide)]; exact funext (fun j => (u1.1 22 j rfl rfl).trans (kr 22 j rfl rfl))
  · rw [hs, rdC_ne (by decide)]; exact funext (fun j => (u1.1 1 j rfl rfl).trans (kr 1 j rfl rfl)))
theorem es_compile {Q : Int32 → St → St → List Nat → Prop} (h : GLI σ τ vs) (hF : (σ 0 2).toInt ≤ 10240) (hB : ∀ j, -128 ≤ (σ 1 j).toInt ∧ (σ 1 j).toInt ≤ 127) (kk : ∀ v s t z, CMPq a σ s → Q v s t z) : pp_compile a σ τ vs Q := by
  have h9 := h
  obtain ⟨⟨⟨t1, t2⟩, ⟨o1, o2⟩, ⟨n1, n2⟩, -⟩, hE, hA, -⟩ := h9
  unfold pp_compile
  have e1 : upC (upC (upC σ 0 9 (σ 0 1)) 0 1 (0 : Int32)) 0 14 ((-1) : Int32) 1 = σ 1 := by rw [rdC_ne (by decide), rdC_ne (by decide), rdC_ne (by decide)]
  refine ⟨fun c => kk _ _ _ _ ⟨e1, Or.inl ⟨Or.inl c, rfl, rfl, rfl⟩⟩, fun c0 => ⟨fun c => kk _ _ _ _ ⟨e1, Or.inl ⟨Or.inr (Or.inl c), rfl, rfl, rfl⟩⟩, fun c3 => ⟨fun ho _ _ => ?_, fun c => kk _ _ _ _ ⟨e1, Or.inl ⟨Or.inr (Or.inr c), rfl, rfl, rfl⟩⟩⟩⟩⟩
  have ho' : (σ 0 35).toInt < 100 := by omega
  clear e1
  generalize h0 : (upC (upC (upC (upC (upC (upC (upC (upC (upC (upC (upC σ 0 9 (σ 0 1)) 0 1 (0 : Int32)) 0 14 ((-1) : Int32)) 22 (σ 0 35).toNatClampNeg (σ 0 36)) 24 (σ 0 35).toNatClampNeg (σ 0 39)) 0 37 (0 : Int32)) 0 12 (0 : Int32)) 0 15 (0 : Int32)) 0 53 (0 : Int32)) 0 54 (0 : Int32)) 0 49 (0 : Int32)) = σ0
  have k0 : K0c σ σ0 := by
    have ka : Kp [(0, 9), (0, 1), (0, 14), (0, 37), (0, 12), (0, 15), (0, 53), (0, 54), (0, 49)] [22, 24] σ σ0 := by
      rw [← h0]
      exact kp_f (kp_f (kp_f (kp_f (kp_f (kp_f (kp_a (kp_a (kp_f (kp_f (kp_f kp_rf rfl) rfl) rfl) rfl) rfl) rfl) rfl) rfl) rfl) rfl) rfl
    intro c j q1 q2
    by_cases c22 : c = 22
    · subst c22
      rw [← h0]
      simp only [rdC, Nat.reduceEqDiff, if_true, if_false]
      by_cases e : j = (σ 0 35).toNatClampNeg
      · rw [if_pos e, e]; exact hE.1
      · rw [if_neg e]
    · by_cases c24 : c = 24
      · subst c24
        rw [← h0]
        simp only [rdC, Nat.reduceEqDiff, if_true, if_false]
        by_cases e : j = (σ 0 35).toNatClampNeg
        · rw [if_pos e, e]; exact hE.2.1
        · rw [if_neg e]
      · refine ka c j q1 ?_
        simp
        exact ⟨c22, c24⟩
  have z9 : σ0 0 9 = σ 0 1 := by rw [← h0]; rfl
  have z37 : σ0 0 37 = 0 := by rw [← h0]; rfl
  have z12 : σ0 0 12 = 0 := by rw [← h0]; rfl
  have z15 : σ0 0 15 = 0 := by rw [← h0]; rfl
  have z53 : σ0 0 53 = 0 := by rw [← h0]; rfl
  have z54 : σ0 0 54 = 0 := by rw [← h0]; rfl
  have z49 : σ0 0 49 = 0 := by rw [← h0]; rfl
  obtain ⟨rs, -, -⟩ := rs0_gi (σ0 := σ0) h hF ho' k0 z9 z37 z12 z15 z53 z49
  clear h0
  have y : ∀ c, c ≠ 0 → σ0 c = σ c := fun c c0 => funext (fun j => k0 c j (by
    simp only [List.contains_cons, List.contains_nil, Bool.or_false, Bool.or_eq_false_iff, beq_eq_false_iff_ne, ne_eq, Prod.mk.injEq, not_and]
    omega) rfl)
  have f35 : σ0 0 35 = σ 0 35 := k0 0 35 rfl rfl
  have f36 : σ0 0 36 = σ 0 36 := k0 0 36 rfl rfl
  have f31 : σ0 0 31 = σ 0 31 := k0 0 31 rfl rfl
  obtain ⟨g1, g2, g3, g4⟩ := hE
  obtain ⟨-, -, a35, -, -, -, a31, a10, -⟩ := hA
  have eL : (σ 0 36).toInt = (((σ 0 36).toInt.toNat : Nat) : Int) := by omega
  generalize (σ 0 36).toInt.toNat = lo at eL
  have hS : S0q lo σ0 := by
    refine ⟨by rw [z53]; rfl, by rw [z54]; rfl, by rw [z49]; rfl, by rw [z15]; rfl, by rw [z12]; rfl, by rw [z37]; rfl, ⟨?_, by rw [f36]; exact eL, Nat.le_refl _, by omega, fun e h1 h2 => absurd h2 (Nat.not_lt.mpr h1), by rw [f31]; omega, by rw [f31]; omega, fun e h1 h2 => absurd h2 (Nat.not_lt.mpr h1)⟩, fun j => ?_, fun j => ?_, fun j => ?_⟩
    · rw [f35, y 22 (by decide), ← g1]; exact eL
    · rw [y 31 (by decide)]; exact a31 j
    · rw [y 10 (by decide)]; have := a10 j; omega
    · rw [y 35 (by decide)]; have := a35 j; omega
  refine cj_wp_read_0 (fun v s t z p1 p2 => ?_) (wl_wp_read_0 (fun v s t z p => p) (rd_fr rs)) (es_read (Q := fun v s _ _ => RDq (σ 1) (σ 0 1).toInt lo σ0 v s) (f := σ 1) (N := (σ 0 1).toInt) (σ := σ0) (y 1 (by decide)) hB (by rw [z9]) t1 t2 hS (fun v s t z hr => hr))
  obtain ⟨hv, e35, e22, e1⟩ := p1
  rw [f35] at e35
  rw [y 22 (by decide)] at e22
  rw [y 1 (by decide)] at e1
  refine ⟨fun c _ _ _ => kk _ _ _ _ ⟨?_, Or.inr ⟨⟨c0, c3, ho⟩, lo, σ0, s, v, hS, eL, f31, y 1 (by decide), p2, Or.inl ⟨?_, ?_, rfl, rfl⟩⟩⟩, fun c _ => kk _ _ _ _ ⟨?_, Or.inr ⟨⟨c0, c3, ho⟩, lo, σ0, s, v, hS, eL, f31, y 1 (by decide), p2, Or.inr ⟨by omega, ?_, ?_, rfl⟩⟩⟩⟩
  · rw [rdC_ne (by decide), rdC_ne (by decide), rdC_ne (by decide), rdC_ne (by decide)]; exact e1
  · rcases hv with h | h
    · rw [h]; rfl
    · omega
  · show ((s 0 35) + (1 : Int32)).toInt = _
    rw [ad1 (by rw [e35]; omega), e35]
  · rw [rdC_ne (by decide), rdC_ne (by decide), rdC_ne (by decide), rdC_ne (by decide), rdC_ne (by decide)]; exact e1
  · show s 0 35 = _
    exact e35
  · show s 22 (s 0 35).toNatClampNeg = _
    rw [e22, e35, ← g1]
/-- the class's, as the reference's left it -/
theorem pl_compile {Q : Int32 → St → Prop} (h : IVx w o) (rl : RLp w σ) (cm : CMPq a σ s') (k : ∀ v t, (t 5 13).toInt = (s' 0 35).toInt → (t 5 1).toInt = (s' 0 36).toInt + 4 → (t 5 7).toInt = (s' 0 31).toInt + 15 → (t 0 1).toInt = 0 → t 0 2 = w 0 2 → t 1 = w 1 → Q v t) : pk_X12_compile a w Q := by
  obtain ⟨r1, r2, r3, r4, r5, r6⟩ := rl
  obtain ⟨⟨h1, h1'⟩, h2, h3, h4, ⟨f1, f2, f3⟩, h6, ⟨g1, g2, g3, g4⟩, h8, h9, ha, hb, hc, hi⟩ := h
  have d0 := de_le h2
  have same : SAM σ s' → ∀ v t, t 5 13 = w 5 13 → (t 5 1).toInt = (w 5 1).toInt → (t 5 7).toInt = (w 5 7).toInt → (t 0 1).toInt = 0 → t 0 2 = w 0 2 → t 1 = w 1 → Q v t := fun sm v t e1 e2 e3 e4 e5 e6 => k v t (by rw [e1, sm.1]; exact r1) (by rw [e2, sm.2.1]; exact r2) (by rw [e3, sm.2.2]; exact r3) e4 e5 e6
  unfold pk_X12_compile
  generalize hσ1 : upC (upC w 0 1 (0 : Int32)) 0 3 ((-1) : Int32) = w1
  have r1' : ∀ c, c ≠ 0 → w1 c = w c := fun c hc0 => by rw [← hσ1, rdC_ne hc0, rdC_ne hc0]
  have q01 : (w1 0 1).toInt = 0 := by rw [← hσ1]; rfl
  have q02 : w1 0 2 = w 0 2 := by rw [← hσ1]; rfl
  clear hσ1
  have early : SAM σ s' → ∀ v, Q v w1 := fun sm v => same sm v w1 (by rw [r1' 5 (by decide)]) (by rw [r1' 5 (by decide)]) (by rw [r1' 5 (by decide)]) q01 q02 (r1' 1 (by decide))
  obtain ⟨-, cm⟩ := cm
  have bad : (a.toInt < 0 ∨ 3 < a.toInt ∨ 100 ≤ (w 5 13).toInt) → SAM σ s' := fun hx => by
    rcases cm with ⟨_, sm⟩ | ⟨⟨x1, x2, x3⟩, _⟩
    · exact sm
    · omega
  refine ⟨fun c => early (bad (Or.inl c)) _, fun c0 => ⟨fun c => early (bad (Or.inr (Or.inl c))) _, fun c3 => ⟨fun c100 => ?_, fun c => early (bad (Or.inr (Or.inr c))) _⟩⟩⟩
  clear bad early
  rcases cm with ⟨hx, _⟩ | ⟨_, lo, σ0, s1, v1, hS, eL, e31, e1, hR, hfin⟩
  · omega
  obtain ⟨kd, vl, n, L, q, c, σ1, hr, hfi, hT, hM, kσ, hev⟩ := hR
  have hN0 : 0 ≤ (σ 0 1).toInt ∧ (σ 0 1).toInt ≤ 16000 := by omega
  have ew : w 1 = σ 1 := funext (fun j => ieq (r6 j))
  refine cj_wk_X10_scan (fun s4 p1 p2 => ?_) (wl_wk_X10_scan (fun s4 p => p) (sp_scan (Q := fun s4 => Kp [(2, 1), (2, 2), (2, 3), (2, 4)] [13, 14, 15, 16] w1 s4 ∧ (s4 2 1).toInt = (w 0 1).toInt ∧ TEn s4) ⟨f1.1, f1.2.1⟩ (by unfold PLA; rw [r1' 15 (by decide)]; exact g1) (by unfold NMr; rw [r1' 13 (by decide), r1' 14 (by decide), r1' 15 (by decide)]; exact g2) (fun s4 k4 z4 te => ⟨k4, z4, te⟩))) (pl_scan (Q := fun s4 => ∃ L q c, RCHq (byt (σ 1) (σ 0 1).toInt) (0, []) (q, L) ∧ FINq (byt (σ 1) (σ 0 1).toInt) q c ∧ FNq s4 L c) (N := (σ 0 1).toInt) r4 hN0.1 hN0.2 ((r1' 1 (by decide)).trans ew) (fun s L q c kp hr hf hn hl => ⟨L, q, c, hr, hf, hn⟩))
  obtain ⟨k4, z4, te⟩ := p1
  obtain ⟨L', q', c', hr', hf', hC⟩ := p2
  obtain ⟨eql, eqc⟩ := rch_one hr hfi hr' hf'
  have eL' : L' = L := (congrArg Prod.snd eql).symm
  rw [eL', ← eqc] at hC
  have tkv := tl_cls hN0 hr hfi hC hT
  obtain ⟨tk, pl4, nm4⟩ := te
  have kc : ∀ s5, KG s4 s5 → ∀ c j, c ≠ 2 → c ≠ 3 → ¬ (13 ≤ c ∧ c ≤ 23) → s5 c j = w1 c j := fun s5 k5 c j c2 c3 c4 => by
    have e1 : s5 c j = s4 c j := k5 c j (by
      simp only [List.contains_cons, List.contains_nil, Bool.or_false, Bool.or_eq_false_iff, beq_eq_false_iff_ne, ne_eq, Prod.mk.injEq, not_and]
      omega) (by
      simp only [List.contains_cons, List.contains_nil, Bool.or_false, Bool.or_eq_false_iff, beq_eq_false_iff_ne, ne_eq]
      omega)
    have e2 : s4 c j = w1 c j := k4 c j (by
      simp only [List.contains_cons, List.contains_nil, Bool.or_false, Bool.or_eq_false_iff, beq_eq_false_iff_ne, ne_eq, Prod.mk.injEq, not_and]
      omega) (by
      simp only [List.contains_cons, List.contains_nil, Bool.or_false, Bool.or_eq_false_iff, beq_eq_false_iff_ne, ne_eq]
      omega)
    exact e1.trans e2
  have t13 : ∀ s5, KG s4 s5 → s5 13 = s4 13 ∧ s5 14 = s4 14 ∧ s5 15 = s4 15 := fun s5 k5 => ⟨funext (fun j => k5 13 j rfl rfl), funext (fun j => k5 14 j rfl rfl), funext (fun j => k5 15 j rfl rfl)⟩
  refine cj_wk_X3_read (fun v s5 p1 p2 => ?_) (wl_wk_X3_read (fun v s p => p) (sp_gread (Q := fun v s => KG s4 s ∧ (v = 0 ∨ (v = 1 ∧ RDk s))) tk (fun s k5 => ⟨k5, Or.inl rfl⟩) (fun s k5 rd => ⟨k5, Or.inr ⟨rfl, rd⟩⟩))) (gt_read (Q := fun v s => (v = 1 ∧ ∃ g, EVq (fun n => UNn kd vl n 0) (some g) ∧ TBL s (fltq 0 g)) ∨ (v = 0 ∧ EVq (fun n => UNn kd vl n 0) none)) tkv (fun s g e _ tb _ => Or.inl ⟨rfl, g, e, tb⟩) (fun s _ e => Or.inr ⟨rfl, e⟩))
  obtain ⟨k5, prd⟩ := p1
  have w5 := kc s5 k5
  have row : ∀ c, c ≠ 2 → c ≠ 3 → ¬ (13 ≤ c ∧ c ≤ 23) → s5 c = w1 c := fun c c2 c3 c4 => funext (fun j => w5 c j c2 c3 c4)
  have v5 : s5 5 = w 5 := (row 5 (by decide) (by decide) (by omega)).trans (r1' 5 (by decide))
  have v4 : s5 4 = w 4 := (row 4 (by decide) (by decide) (by omega)).trans (r1' 4 (by decide))
  have v0 : s5 0 = w1 0 := row 0 (by decide) (by decide) (by omega)
  have v1' : s5 1 = w 1 := (row 1 (by decide) (by decide) (by omega)).trans (r1' 1 (by decide))
  have v25 : s5 25 = w 25 := (row 25 (by decide) (by decide) (by omega)).trans (r1' 25 (by decide))
  have v27 : s5 27 = w 27 := (row 27 (by decide) (by decide) (by omega)).trans (r1' 27 (by decide))
  have v29 : s5 29 = w 29 := (row 29 (by decide) (by decide) (by omega)).trans (r1' 29 (by decide))
  have v34 : s5 34 = w 34 := (row 34 (by decide) (by decide) (by omega)).trans (r1' 34 (by decide))
  refine ⟨fun cv => ?_, fun cv => ?_⟩
  rotate_left
  · -- no unit
    rcases p2 with ⟨hv, _⟩ | ⟨_, hn⟩
    · rw [hv] at cv; exact absurd cv (by decide)
    · have sm : SAM σ s' := by
        rcases hev with ⟨hv1, _⟩ | ⟨g, hg, _⟩
        · rcases hfin with ⟨h0, _⟩ | ⟨_, sm⟩
          · rw [hv1] at h0; exact absurd h0 (by decide)
          · exact sm
        · have := ev_one hg hn
          cases this
      refine same sm _ _ ?_ ?_ ?_ ?_ ?_ ?_
      · rw [rdC_ne (by decide), v5]
      · rw [rdC_ne (by decide), v5]
      · rw [rdC_ne (by decide), v5]
      · rw [rdA_ne (by decide), v0]; exact q01
      · rw [rdA_ne (by decide), v0]; exact q02
      · rw [rdC_ne (by decide), v1']
  rcases p2 with ⟨_, g, hg, tb⟩ | ⟨hv, _⟩
  rotate_left
  · rw [hv] at cv; exact absurd rfl cv
  have rd : RDk s5 := by
    rcases prd with hv | ⟨_, rd⟩
    · rw [hv] at cv; exact absurd rfl cv
    · exact rd
  have hu : UNw kd n lo g σ1 v1 s1 := by
    rcases hev with ⟨_, hn⟩ | ⟨g', hg', hu⟩
    · have := ev_one hg hn
      cases this
    · have := Option.some.inj (ev_one hg' hg)
      rw [this] at hu
      exact hu
  obtain ⟨x13, x14, x15⟩ := t13 s5 k5
  have a_pl : PLA s5 := by unfold PLA; rw [x15]; exact pl4
  have a_nm : NMr s5 := by unfold NMr; rw [x13, x14, x15]; exact nm4
  have sz : (s5 2 1).toInt = (w 0 1).toInt := by rw [show s5 2 1 = s4 2 1 from k5 2 1 rfl rfl]; exact z4
  have dd := d0 o (Nat.le_refl _)
  have a_sz : (s5 2 1).toInt ≤ 16000 := by rw [sz]; exact f1.2.1
  have a_by : ByteOK (s5 1) := by rw [v1']; exact g3
  have a_hd : 0 ≤ (s5 5 1).toInt ∧ (s5 5 1).toInt ≤ 10000 := by rw [v5]; omega
  have a_l0 : 0 ≤ (s5 4 1).toInt := by rw [v4]; exact f2.1
  have a_lb : (s5 4 1).toInt + 4 * (s5 2 1).toInt ≤ 262144 := by rw [v4, sz]; omega
  have a_hn : 0 ≤ (s5 5 7).toInt ∧ (s5 5 7).toInt + (s5 2 1).toInt ≤ 65600 := by rw [v5, sz]; omega
  have a_nme : NME s5 := by unfold NME; rw [v5, v29]; exact h6
  have a_fx : ∀ j, FLb ((s5 25) j) 1 → spar ((s5 27) j) ≤ 8 := by rw [v25, v27]; exact g4
  have hS1 := s0_k kσ hS
  have c1 : σ1 1 = σ 1 := (funext (fun j => kσ 1 j rfl rfl)).trans e1
  have c31 : σ1 0 31 = σ 0 31 := (kσ 0 31 rfl rfl).trans e31
  have hC5 : FNq s5 L c := by
    obtain ⟨m1, m2, m3⟩ := hC
    refine ⟨by rw [show s5 2 4 = s4 2 4 from k5 2 4 rfl rfl]; exact m1, fun j k v q hj => ?_, by rw [x13]; exact m3⟩
    rw [x13, x14, x15]
    exact m2 j k v q hj
  refine cj_wk_X7_walk (fun s p1 p2 => ?_) (wl_wk_X7_walk (fun s p => p) (sp_walk (Q := fun s => ∃ ρ, Kp [(6, 2), (6, 3), (6, 4), (6, 5), (6, 7), (6, 6), (6, 10), (6, 15), (6, 17), (8, 6), (8, 8), (7, 7), (9, 5)] [] s5 ρ ∧ WDx ρ s) rd a_sz a_nm a_pl a_by a_hd a_l0 a_lb a_hn a_nme a_fx (fun ρ s kρ o0 wd hz => ⟨ρ, kρ, wd⟩))) (cw_walk (Q := fun r => ((r 6 3).toInt ≠ 0 → v1.toInt ≠ 0) ∧ ((r 6 3).toInt = 0 → v1.toInt = 0 ∧ ∃ m, URq kd n m lo r s1)) (B := v1.toInt ≠ 0) rd a_sz a_nm a_pl a_by a_hd a_l0 a_lb a_hn a_nme a_fx tb (fun ρ kρ z63 z65 z67 z66 z615 z86 z77 z95 => hu ρ (ur_start (tl_both hN0 hr hfi hM ?_ hT ?_) hS1 z615 z67 ?_ ?_ z65 z77 z66 z86 z95) z63) (fun b r hr => ⟨fun _ => b, fun hx => absurd hx hr⟩))
  rotate_left
  · obtain ⟨m1, m2, m3⟩ := hC5
    have y13 : ρ 13 = s5 13 := funext (fun j => kρ 13 j rfl rfl)
    have y14 : ρ 14 = s5 14 := funext (fun j => kρ 14 j rfl rfl)
    have y15 : ρ 15 = s5 15 := funext (fun j => kρ 15 j rfl rfl)
    refine ⟨by rw [kρ 2 4 rfl rfl]; exact m1, fun j k v q hj => ?_, by rw [y13]; exact m3⟩
    rw [y13, y14, y15]
    exact m2 j k v q hj
  · intro i _
    rw [kρ 1 i rfl rfl, v1', c1]
    exact r6 i
  · rw [kρ 5 1 rfl rfl, v5]; omega
  · rw [kρ 5 7 rfl rfl, v5, c31]; exact r3
  obtain ⟨ρ, kρ, wd⟩ := p1
  have kw := wd.1.1
  have s01 : (s 0 1).toInt = 0 := by rw [kw 0 1 (op_lt (by decide)) rfl rfl, kρ 0 1 rfl rfl, v0]; exact q01
  have s02 : s 0 2 = w 0 2 := by rw [kw 0 2 (op_lt (by decide)) rfl rfl, kρ 0 2 rfl rfl, v0]; exact q02
  have s1w : s 1 = w 1 := funext (fun j => by rw [kw 1 j (op_lt (by decide)) rfl rfl, kρ 1 j rfl rfl, v1'])
  have s513 : s 5 13 = w 5 13 := by rw [kw 5 13 (op_lt (by decide)) rfl rfl, kρ 5 13 rfl rfl, v5]
  refine ⟨fun f0 => ?_, fun f0 => ?_⟩
  · obtain ⟨hv0, m, hUR⟩ := p2.2 f0
    have hO := hUR.1.2.2.1
    rcases hfin with ⟨_, e35, e36, e31'⟩ | ⟨hv1, _⟩
    rotate_left
    · exact absurd hv0 hv1
    unfold pk_X8_keep
    generalize ht : upF _ 37 _ = t
    have trow : ∀ c, c ≠ 5 → c ≠ 34 → c ≠ 35 → c ≠ 36 → c ≠ 37 → t c = s c := fun c c5 c34 c35 c36 c37 => by rw [← ht, rdF_ne c37, rdF_ne c36, rdF_ne c35, rdF_ne c34, rdC_ne c5]
    have t5 : ∀ q, q ≠ 13 → t 5 q = s 5 q := fun q hq => by rw [← ht, rdF_ne (by decide), rdF_ne (by decide), rdF_ne (by decide), rdF_ne (by decide), rdA_ne hq]
    have t513 : t 5 13 = (s 5 13) + (1 : Int32) := by rw [← ht, rdF_ne (by decide), rdF_ne (by decide), rdF_ne (by decide), rdF_ne (by decide), rdA_eq rfl]
    clear ht
    have t0 := trow 0 (by decide) (by decide) (by decide) (by decide) (by decide)
    refine k _ t ?_ ?_ ?_ ?_ ?_ ?_
    · rw [t513, s513, ad1 (by omega), e35]; omega
    · rw [t5 1 (by decide), e36, hO.2.2.2.1.1, hO.2.2.2.2.1.2.1]; omega
    · rw [t5 7 (by decide), e31']; exact hO.2.2.2.1.2
    · rw [t0]; exact s01
    · rw [t0]; exact s02
    · rw [trow 1 (by decide) (by decide) (by decide) (by decide) (by decide)]; exact s1w
  · have hv1 := p2.1 f0
    have sm : SAM σ s' := by
      rcases hfin with ⟨h0, _⟩ | ⟨_, sm⟩
      · exact absurd h0 hv1
      · exact sm
    have e513 : (s 5 13).toInt = o := by rw [s513]; exact h1
    have e34 : s 34 o = w 34 o := by rw [kw 34 o (op_lt (by decide)) rfl rfl, kρ 34 o rfl rfl, v34]
    obtain ⟨D, hD⟩ : ∃ D : Nat, (w 34 o).toInt = (D : Int) + 1 := ⟨((w 34 o).toInt - 1).toNat, by omega⟩
    have eD : ((w 34 o) - (1 : Int32)).toInt = D := by rw [sb (by rw [i1]; omega) (by rw [i1]; omega), i1]; omega
    have n57 : (s 29 D).toInt = (w 5 7).toInt := by
      have hd : (D : Int) < (ρ 5 1).toInt := by rw [kρ 5 1 rfl rfl, v5]; omega
      rw [(wd.1.2.2.1.2.1 D hd).2.2.2.1, kρ 29 D rfl rfl, v29]
      exact h6.1 D (by omega)
    unfold pk_X8_forget pk_X8_nameStart pk_X0_cut
    rw [atv_at e513 (by omega), atv_at e513 (by omega), atv_at e513 (by omega), e34, rdC_ne (show (29 : Nat) ≠ 5 by decide), atv_at eD (by omega)]
    dsimp only
    refine same sm _ _ ?_ ?_ ?_ ?_ ?_ ?_
    · rw [rdC_ne (by decide), rdC_ne (by decide), rdA_ne (by decide), rdA_ne (by decide), rdA_ne (by decide)]; exact s513
    · rw [rdC_ne (by decide), rdC_ne (by decide), rdA_ne (by decide), rdA_ne (by decide), rdA_eq rfl]; exact h3.symm
    · rw [rdC_ne (by decide), rdC_ne (by decide), rdA_ne (by decide), rdA_eq rfl]; exact n57
    · rw [rdA_ne (by decide), rdC_ne (by decide), rdC_ne (by decide), rdC_ne (by decide), rdC_ne (by decide)]; exact s01
    · rw [rdA_ne (by decide), rdC_ne (by decide), rdC_ne (by decide), rdC_ne (by decide), rdC_ne (by decide)]; exact s02
    · rw [rdC_ne (by decide), rdC_ne (by decide), rdC_ne (by decide), rdC_ne (by decide), rdC_ne (by decide)]; exact s1w
end CPB
end

section
/-! feed() and end(), both sides -/
/-- the i-th byte of a word -/
def wbx (a : Int32) (i : Nat) : Int32 := vp_nar .byte (a >>> ((nI (24 - 8 * i)) &&& 31)).toInt8.toInt32
def FBv (a1 a2 a3 a4 a5 : Int32) (k : Nat) : Int32 := if k < 4 then wbx a1 k else if k < 8 then wbx a2 (k - 4) else if k < 12 then wbx a3 (k - 8) else if k < 16 then wbx a4 (k - 12) else wbx a5 (k - 16)
/-- what feed() leaves -/
def FDt (a1 a2 a3 a4 a5 : Int32) (w t : St) : Prop := (16000 < (w 0 1).toInt + 20 → t = w) ∧ ((w 0 1).toInt + 20 ≤ 16000 → (t 0 1).toInt = (w 0 1).toInt + 20 ∧ (t 0 2).toInt = (w 0 2).toInt + 20 ∧ (∀ c j, c ≠ 1 → (c, j) ≠ (0, 1) → (c, j) ≠ (0, 2) → t c j = w c j) ∧ ∀ j : Nat, t 1 j = if (w 0 1).toInt ≤ j ∧ (j : Int) < (w 0 1).toInt + 20 then FBv a1 a2 a3 a4 a5 (j - (w 0 1).toInt.toNat) else w 1 j)
/-- what end() leaves -/
def ENt (a : Int32) (w t : St) : Prop := t = if 0 ≤ a.toInt ∧ a.toInt ≤ (w 0 1).toInt then upC w 0 1 a else w
section FEE
variable {w σ s t τ : St} {vs z : List Nat} {a a1 a2 a3 a4 a5 x : Int32} {H i : Nat} {o : Nat}
theorem fd_sh : ∀ i, i < 20 → ((24 : Int32) - ((8 : Int32) * (nI i - nI i / (4 : Int32) * (4 : Int32)))) = nI (24 - 8 * (i % 4)) := by decide +kernel
theorem kp_ne (k : Kp [(0, 1), (0, 2)] [1] w t) : ∀ c j, c ≠ 1 → (c, j) ≠ (0, 1) → (c, j) ≠ (0, 2) → t c j = w c j := fun c j h1 h2 h3 => k c j (by
  simp only [List.contains_cons, List.contains_nil, Bool.or_false, Bool.or_eq_false_iff, beq_eq_false_iff_ne, ne_eq]
  exact ⟨h2, h3⟩) (by
  simp only [List.contains_cons, List.contains_nil, Bool.or_false, beq_eq_false_iff_ne, ne_eq]
  exact h1)
theorem px_take {Q : St → Prop} (hH : (σ 0 1).toInt = (H : Int)) (hb : H + 4 ≤ 16000) (k : ∀ s, (s 0 1).toInt = ((H + 4 : Nat) : Int) → Kp [(0, 1)] [1] σ s → (∀ j : Nat, s 1 j = if H ≤ j ∧ j < H + 4 then wbx a (j - H) else σ 1 j) → Q s) : pk_X12_takeBytes a σ Q := by
  unfold pk_X12_takeBytes
  refine ⟨fun x s => ∃ i : Nat, i ≤ 4 ∧ x.toInt = 24 - 8 * (i : Int) ∧ (s 0 1).toInt = ((H + i : Nat) : Int) ∧ Kp [(0, 1)] [1] σ s ∧ ∀ j : Nat, s 1 j = if H ≤ j ∧ j < H + i then wbx a (j - H) else σ 1 j, ⟨0, by decide, by decide, hH, kp_rf, fun j => by rw [if_neg (by omega)]⟩, ?_⟩
  rintro x s ⟨i, hi, hx, h1, ks, hf⟩
  refine ⟨fun c => ?_, fun c => ⟨fun c1 => ?_, fun c1 _ => ?_⟩⟩
  · have : i = 4 := by omega
    rw [this] at h1 hf
    exact k s h1 ks hf
  · omega
  · have en : (s 0 1).toNatClampNeg = H + i := nat_of h1
    have ex : x = nI (24 - 8 * i) := ieq (by rw [nI_toInt (by omega), hx]; omega)
    refine ⟨i + 1, by omega, by rw [dc8 (by omega), hx]; omega, by rw [rdA_eq rfl, ad1 (by omega), h1]; omega, kp_f (kp_a ks rfl) rfl, fun j => ?_⟩
    rw [rdC_ne (by decide), rdC_eq, en]
    show (if j = H + i then _ else s 1 j) = _
    by_cases cj : j = H + i
    · rw [if_pos cj, if_pos (by omega), ex]
      have : j - H = i := by omega
      rw [this]
      rfl
    · rw [if_neg cj, hf]
      by_cases c2 : H ≤ j ∧ j < H + i
      · rw [if_pos c2, if_pos (by omega)]
      · rw [if_neg c2, if_neg (by omega)]
theorem fb_five {f f1 f2 f3 f4 f5 : Nat → Int32} (h1 : ∀ j : Nat, f1 j = if H ≤ j ∧ j < H + 4 then wbx a1 (j - H) else f j) (h2 : ∀ j : Nat, f2 j = if H + 4 ≤ j ∧ j < H + 4 + 4 then wbx a2 (j - (H + 4)) else f1 j) (h3 : ∀ j : Nat, f3 j = if H + 8 ≤ j ∧ j < H + 8 + 4 then wbx a3 (j - (H + 8)) else f2 j) (h4 : ∀ j : Nat, f4 j = if H + 12 ≤ j ∧ j < H + 12 + 4 then wbx a4 (j - (H + 12)) else f3 j) (h5 : ∀ j : Nat, f5 j = if H + 16 ≤ j ∧ j < H + 16 + 4 then wbx a5 (j - (H + 16)) else f4 j) (j : Nat) : f5 j = if H ≤ j ∧ j < H + 20 then FBv a1 a2 a3 a4 a5 (j - H) else f j := by
  rw [h5, h4, h3, h2, h1]
  by_cases c : H ≤ j ∧ j < H + 20
  · rw [if_pos c]
    unfold FBv
    by_cases b1 : j - H < 4
    · rw [if_neg (by omega), if_neg (by omega), if_neg (by omega), if_neg (by omega), if_pos (by omega), if_pos b1]
    rw [if_neg b1]
    by_cases b2 : j - H < 8
    · rw [if_neg (by omega), if_neg (by omega), if_neg (by omega), if_pos (by omega), if_pos b2, show j - (H + 4) = j - H - 4 from by omega]
    rw [if_neg b2]
    by_cases b3 : j - H < 12
    · rw [if_neg (by omega), if_neg (by omega), if_pos (by omega), if_pos b3, show j - (H + 8) = j - H - 8 from by omega]
    rw [if_neg b3]
    by_cases b4 : j - H < 16
    · rw [if_neg (by omega), if_pos (by omega), if_pos b4, show j - (H + 12) = j - H - 12 from by omega]
    rw [if_neg b4, if_pos (by omega), show j - (H + 16) = j - H - 16 from by omega]
  · rw [if_neg c, if_neg (by omega), if_neg (by omega), if_neg (by omega), if_neg (by omega), if_neg (by omega)]
theorem px_feed {Q : Int32 → St → Prop} (h : IVx w o) (hF : (w 0 2).toInt ≤ 60000) (k : ∀ v t, FDt a1 a2 a3 a4 a5 w t → Q v t) : pk_X12_feed a1 a2 a3 a4 a5 w Q := by
  have f := h.2.2.2.2.1
  unfold FDx at f
  have e20 : ((20 : Int32)).toInt = 20 := rfl
  have q1 : ((w 0 1) + (20 : Int32)).toInt = (w 0 1).toInt + 20 := ad0 e20 (by omega) (by omega)
  have q2 : ((w 0 2) + (20 : Int32)).toInt = (w 0 2).toInt + 20 := ad0 e20 (by omega) (by omega)
  obtain ⟨H, hH⟩ : ∃ H : Nat, (w 0 1).toInt = (H : Int) := ⟨(w 0 1).toInt.toNat, by omega⟩
  unfold pk_X12_feed
  rw [q1, q2]
  refine ⟨fun c => k _ _ ⟨fun _ => rfl, fun hx => by omega⟩, fun c1 => ⟨fun _ => ?_, fun hx => by omega⟩⟩
  refine px_take hH (by omega) (fun s1 p1 k1 b1 => ?_)
  refine px_take p1 (by omega) (fun s2 p2 k2 b2 => ?_)
  refine px_take p2 (by omega) (fun s3 p3 k3 b3 => ?_)
  refine px_take p3 (by omega) (fun s4 p4 k4 b4 => ?_)
  refine px_take p4 (by omega) (fun s5 p5 k5 b5 => ?_)
  have kk : Kp [(0, 1)] [1] w s5 := kp_tr (kp_tr (kp_tr (kp_tr k1 k2) k3) k4) k5
  have e02 : s5 0 2 = w 0 2 := kk 0 2 rfl rfl
  refine k _ _ ⟨fun hx => by omega, fun _ => ⟨?_, ?_, kp_ne (kp_f (kp_sub kk rfl rfl) rfl), fun j => ?_⟩⟩
  · rw [rdA_ne (by decide), p5, hH]; rfl
  · rw [rdA_eq rfl, e02, q2]
  · rw [rdC_ne (by decide), fb_five b1 b2 b3 b4 b5 j, hH]
    by_cases c : H ≤ j ∧ j < H + 20
    · rw [if_pos c, if_pos (by omega)]
      rfl
    · rw [if_neg c, if_neg (by omega)]
theorem rx_feed {Q : Int32 → St → St → List Nat → Prop} (h : GLI σ τ vs) (hF : (σ 0 2).toInt ≤ 10220) (k : ∀ v s t z, FDt a1 a2 a3 a4 a5 σ s → Q v s t z) : pp_feed a1 a2 a3 a4 a5 σ τ vs Q := by
  obtain ⟨⟨⟨t1, t2⟩, -, ⟨n1, n2⟩, -⟩, -⟩ := h
  have e20 : ((20 : Int32)).toInt = 20 := rfl
  have q1 : ((σ 0 1) + (20 : Int32)).toInt = (σ 0 1).toInt + 20 := ad0 e20 (by omega) (by omega)
  have q2 : ((σ 0 2) + (20 : Int32)).toInt = (σ 0 2).toInt + 20 := ad0 e20 (by omega) (by omega)
  obtain ⟨H, hH⟩ : ∃ H : Nat, (σ 0 1).toInt = (H : Int) := ⟨(σ 0 1).toInt.toNat, by omega⟩
  unfold pp_feed
  rw [q1, q2]
  refine ⟨fun c => k _ _ _ _ ⟨fun _ => rfl, fun hx => by omega⟩, fun c1 => ⟨fun _ => ?_, fun hx => by omega⟩⟩
  refine ⟨fun x s t z => ∃ i : Nat, i ≤ 20 ∧ x.toInt = (i : Int) ∧ Kp [] [1] σ s ∧ ∀ j : Nat, s 1 j = if H ≤ j ∧ j < H + i then FBv a1 a2 a3 a4 a5 (j - H) else σ 1 j, ⟨0, by decide, by decide, kp_rf, fun j => by rw [if_neg (by omega)]⟩, ?_⟩
  rintro x s t z ⟨i, hi, hx, ks, hf⟩
  have e01 : s 0 1 = σ 0 1 := ks 0 1 rfl rfl
  have e02 : s 0 2 = σ 0 2 := ks 0 2 rfl rfl
  rw [e01, e02]
  refine ⟨fun c => ?_, fun c => ?_⟩
  · have ei : i = 20 := by omega
    rw [ei] at hf
    refine k _ _ _ _ ⟨fun hx => by omega, fun _ => ⟨?_, ?_, kp_ne (kp_f (kp_f (kp_sub ks rfl rfl) rfl) rfl), fun j => ?_⟩⟩
    · rw [rdA_ne (by decide), rdA_eq rfl, q1]
    · rw [rdA_eq rfl, q2]
    · rw [rdC_ne (by decide), rdC_ne (by decide), hf, hH]
      by_cases c : H ≤ j ∧ j < H + 20
      · rw [if_pos c, if_pos (by omega)]
        rfl
      · rw [if_neg c, if_neg (by omega)]
  · have ex : x = nI i := ieq (by rw [nI_toInt (by omega), hx])
    have e1 : ((σ 0 1) + x).toInt = ((H + i : Nat) : Int) := by rw [ad (by omega) (by omega), hH, hx]; rfl
    have en : ((σ 0 1) + x).toNatClampNeg = H + i := nat_of e1
    rw [en]
    refine ⟨fun y => y = if i < 4 then a1 else if i < 8 then a2 else if i < 12 then a3 else if i < 16 then a4 else a5, fun y hy _ => ?_, fun c4 => ⟨fun c8 => ⟨fun c12 => ⟨fun c16 => ?_, fun c16 => ?_⟩, fun c12 => ?_⟩, fun c8 => ?_⟩, fun c4 => ?_⟩
    · refine ⟨i + 1, by omega, by rw [ad1 (by omega), hx]; rfl, kp_a ks rfl, fun j => ?_⟩
      rw [rdC_eq]
      show (if j = H + i then _ else s 1 j) = _
      by_cases cj : j = H + i
      · rw [if_pos cj, if_pos (by omega), ex, fd_sh i (by omega)]
        have ej : j - H = i := by omega
        rw [ej, hy]
        unfold FBv
        by_cases b1 : i < 4
        · rw [if_pos b1, if_pos b1, show i % 4 = i from by omega]
          rfl
        rw [if_neg b1, if_neg b1]
        by_cases b2 : i < 8
        · rw [if_pos b2, if_pos b2, show i % 4 = i - 4 from by omega]
          rfl
        rw [if_neg b2, if_neg b2]
        by_cases b3 : i < 12
        · rw [if_pos b3, if_pos b3, show i % 4 = i - 8 from by omega]
          rfl
        rw [if_neg b3, if_neg b3]
        by_cases b4 : i < 16
        · rw [if_pos b4, if_pos b4, show i % 4 = i - 12 from by omega]
          rfl
        rw [if_neg b4, if_neg b4, show i % 4 = i - 16 from by omega]
        rfl
      · rw [if_neg cj, hf]
        by_cases c2 : H ≤ j ∧ j < H + i
        · rw [if_pos c2, if_pos (by omega)]
        · rw [if_neg c2, if_neg (by omega)]
    · rw [if_neg (by omega), if_neg (by omega), if_neg (by omega), if_neg (by omega)]
    · rw [if_neg (by omega), if_neg (by omega), if_neg (by omega), if_pos (by omega)]
    · rw [if_neg (by omega), if_neg (by omega), if_pos (by omega)]
    · rw [if_neg (by omega), if_pos (by omega)]
    · rw [if_pos (by omega)]
theorem px_end {Q : Int32 → St → Prop} (k : ∀ v t, ENt a w t → Q v t) : pk_X12_end a w Q := by
  unfold pk_X12_end
  refine ⟨fun c => k _ _ ?_, fun c => ⟨fun c1 => k _ _ ?_, fun c1 => k _ _ ?_⟩⟩
  · unfold ENt; rw [if_neg (by omega)]
  · unfold ENt; rw [if_pos ⟨c, c1⟩]
  · unfold ENt; rw [if_neg (by omega)]
theorem rx_end {Q : Int32 → St → St → List Nat → Prop} (k : ∀ v s t z, ENt a σ s → Q v s t z) : pp_end a σ τ vs Q := by
  unfold pp_end
  refine ⟨fun c => k _ _ _ _ ?_, fun c => ⟨fun c1 => k _ _ _ _ ?_, fun c1 => k _ _ _ _ ?_⟩⟩
  · unfold ENt; rw [if_neg (by omega)]
  · unfold ENt; rw [if_pos ⟨c, c1⟩]
  · unfold ENt; rw [if_neg (by omega)]
end FEE
end

section
/-! the calls, both sides -/
section CLX
variable {w σ s t τ : St} {vs z : List Nat} {a a1 a2 a3 a4 a5 : Int32} {o : Nat}
theorem by_rng {f : Nat → Int32} (h : ByteOK f) (j : Nat) : -128 ≤ (f j).toInt ∧ (f j).toInt ≤ 127 := by
  have h1 : (decide (-128 ≤ f j) && decide (f j ≤ 127)) = true := h j
  have e1 : (-128 : Int32).toInt = -128 := by decide
  have e2 : (127 : Int32).toInt = 127 := by decide
  rw [Bool.and_eq_true, decide_eq_true_eq, decide_eq_true_eq, i_le, i_le, e1, e2] at h1
  exact h1
theorem rl_by (h : IVx w o) (r : RLp w σ) (j : Nat) : -128 ≤ (σ 1 j).toInt ∧ (σ 1 j).toInt ≤ 127 := by
  rw [← r.2.2.2.2.2 j]
  exact by_rng h.2.2.2.2.2.2.1.2.2.1 j
theorem rl_0 : RLp sc0 sm0 := ⟨by decide, by decide, by decide, by decide, by decide, fun j => rfl⟩
theorem rl_feed (r : RLp w σ) (c : FDt a1 a2 a3 a4 a5 w t) (m : FDt a1 a2 a3 a4 a5 σ s) : RLp t s := by
  obtain ⟨r1, r2, r3, r4, r5, r6⟩ := r
  by_cases b : 16000 < (w 0 1).toInt + 20
  · rw [c.1 b, m.1 (by omega)]
    exact ⟨r1, r2, r3, r4, r5, r6⟩
  · obtain ⟨c1, c2, c3, c4⟩ := c.2 (by omega)
    obtain ⟨m1, m2, m3, m4⟩ := m.2 (by omega)
    refine ⟨by rw [c3 5 13 (by decide) (by decide) (by decide), m3 0 35 (by decide) (by decide) (by decide)]; exact r1, by rw [c3 5 1 (by decide) (by decide) (by decide), m3 0 36 (by decide) (by decide) (by decide)]; exact r2, by rw [c3 5 7 (by decide) (by decide) (by decide), m3 0 31 (by decide) (by decide) (by decide)]; exact r3, by omega, by omega, fun j => ?_⟩
    rw [c4, m4, r4]
    by_cases hc : (σ 0 1).toInt ≤ j ∧ (j : Int) < (σ 0 1).toInt + 20
    · rw [if_pos hc, if_pos hc]
    · rw [if_neg hc, if_neg hc]
      exact r6 j
theorem rl_end (r : RLp w σ) (c : ENt a w t) (m : ENt a σ s) : RLp t s := by
  obtain ⟨r1, r2, r3, r4, r5, r6⟩ := r
  unfold ENt at c m
  rw [r4] at c
  by_cases hc : 0 ≤ a.toInt ∧ a.toInt ≤ (σ 0 1).toInt
  · rw [if_pos hc] at c m
    rw [c, m]
    exact ⟨by rw [rdC_ne (by decide), rdA_ne (by decide)]; exact r1, by rw [rdC_ne (by decide), rdA_ne (by decide)]; exact r2, by rw [rdC_ne (by decide), rdA_ne (by decide)]; exact r3, by rw [rdA_eq rfl, rdA_eq rfl], by rw [rdA_ne (by decide), rdA_ne (by decide)]; exact r5, fun j => by rw [rdC_ne (by decide), rdC_ne (by decide)]; exact r6 j⟩
  · rw [if_neg hc] at c m
    rw [c, m]
    exact ⟨r1, r2, r3, r4, r5, r6⟩
theorem rl_frame (r : RLp w σ) (c : FQs w t) (m : FMs σ s) : RLp t s := by
  obtain ⟨r1, r2, r3, r4, r5, r6⟩ := r
  obtain ⟨⟨m1, _⟩, m2, m3, m4, m5, m6⟩ := m
  have c5 : t 5 = w 5 := c 5 (by unfold FQw; decide)
  have c0 : t 0 = w 0 := c 0 (by unfold FQw; decide)
  have c1 : t 1 = w 1 := c 1 (by unfold FQw; decide)
  exact ⟨by rw [c5, m5]; exact r1, by rw [c5, m6]; exact r2, by rw [c5, m4]; exact r3, by rw [c0, m2]; exact r4, by rw [c0, m3]; exact r5, fun j => by rw [c1, m1]; exact r6 j⟩
theorem rl_cell (r : RLp w σ) (c : t = upC w 0 1 (0 : Int32)) (h1 : (s 0 1).toInt = 0) (h2 : s 0 2 = σ 0 2) (m : FCs σ s) : RLp t s := by
  obtain ⟨r1, r2, r3, r4, r5, r6⟩ := r
  obtain ⟨m1, m2, m3, m4⟩ := m
  rw [c]
  exact ⟨by rw [rdC_ne (by decide), m3]; exact r1, by rw [rdC_ne (by decide), m4]; exact r2, by rw [rdC_ne (by decide), m2]; exact r3, by rw [rdA_eq rfl, h1]; rfl, by rw [rdA_ne (by decide), h2]; exact r5, fun j => by rw [rdC_ne (by decide), m1]; exact r6 j⟩
-- the class
theorem cq_feed (h : IVx w o) (hF : (w 0 2).toInt ≤ 60000) : wk_X12_feed a1 a2 a3 a4 a5 w (fun _ t => (∃ o, IVx t o) ∧ FDt a1 a2 a3 a4 a5 w t) := mg_wk_X12_feed (fun _ _ p q => ⟨⟨_, p⟩, q⟩) (sk_feed (Q := fun _ t => IVx t o) h (fun _ _ it => it)) (px_feed (Q := fun _ t => FDt a1 a2 a3 a4 a5 w t) h hF (fun _ _ q => q))
theorem cq_end (h : IVx w o) : wk_X12_end a w (fun _ t => (∃ o, IVx t o) ∧ ENt a w t) := mg_wk_X12_end (fun _ _ p q => ⟨⟨_, p⟩, q⟩) (sk_end (Q := fun _ t => IVx t o) h (fun _ _ it => it)) (px_end (Q := fun _ t => ENt a w t) (fun _ _ q => q))
theorem cq_pick (h : IVx w o) : wk_X12_pick a w (fun _ t => (∃ o, IVx t o) ∧ FQs w t) := mg_wk_X12_pick (fun _ _ p q => ⟨⟨_, p⟩, q⟩) (sk_pick (Q := fun _ t => IVx t o) h (fun _ _ it => it)) (fq_pk_X12_pick (Q := fun _ t => FQs w t) fq_rf (fun _ _ q => q))
theorem cq_link (h : IVx w o) : wk_X12_link w (fun _ t => (∃ o, IVx t o) ∧ FQs w t) := mg_wk_X12_link (fun _ _ p q => ⟨⟨_, p⟩, q⟩) (sk_link (Q := fun _ t => IVx t o) h (fun _ _ it => it)) (fq_pk_X12_link (Q := fun _ t => FQs w t) fq_rf (fun _ _ q => q))
theorem cq_run (h : IVx w o) : wk_X12_run a w (fun _ t => (∃ o, IVx t o) ∧ FQs w t) := mg_wk_X12_run (fun _ _ p q => ⟨⟨_, p⟩, q⟩) (sk_run (Q := fun _ t => IVx t o) h (fun _ _ it => it)) (fq_pk_X12_run (Q := fun _ t => FQs w t) fq_rf (fun _ _ q => q))
theorem cq_input (h : IVx w o) : wk_X12_input a w (fun _ t => (∃ o, IVx t o) ∧ FQs w t) := mg_wk_X12_input (fun _ _ p q => ⟨⟨_, p⟩, q⟩) (sk_input (Q := fun _ t => IVx t o) h (fun _ _ it => it)) (fq_pk_X12_input (Q := fun _ t => FQs w t) fq_rf (fun _ _ q => q))
theorem px_cell : pk_X12_cell w (fun _ t => t = upC w 0 1 (0 : Int32)) := by
  unfold pk_X12_cell
  exact fq_pk_X4_cellOf_r1 (fun _ => rfl)
theorem cq_cell (h : IVx w o) : wk_X12_cell w (fun _ t => (∃ o, IVx t o) ∧ t = upC w 0 1 (0 : Int32)) := mg_wk_X12_cell (fun _ _ p q => ⟨⟨_, p⟩, q⟩) (sk_cell (Q := fun _ t => IVx t o) h (fun _ _ it => it)) px_cell
theorem cq_compile (h : IVx w o) (r : RLp w σ) : wk_X12_compile a w (fun _ t => (∃ o, IVx t o) ∧ ∀ s : St, CMPq a σ s → (s 0 1).toInt = 0 → s 0 2 = σ 0 2 → RLp t s) := mf_wk_X12_compile (Q1 := fun _ t => ∃ o, IVx t o) (Q2 := fun s _ t => CMPq a σ s → (s 0 1).toInt = 0 → s 0 2 = σ 0 2 → RLp t s) (fun v t p q => ⟨p, q⟩) (sk_compile (Q := fun _ t => ∃ o, IVx t o) h (fun v t o' it => ⟨o', it⟩)) (fun s => by
  by_cases c : CMPq a σ s
  · exact pl_compile h r c (fun v t e1 e2 e3 e4 e5 e6 _ h1 h2 => ⟨e1, e2, e3, by rw [e4, h1], by rw [e5, h2]; exact r.2.2.2.2.1, fun j => by rw [e6, c.1]; exact r.2.2.2.2.2 j⟩)
  · exact wl_wk_X12_compile (fun v t _ hc => absurd hc c) (sk_compile (Q := fun _ _ => True) h (fun _ _ _ _ => trivial)))
-- the reference
theorem wx_feed {Q : Int32 → St → St → List Nat → Prop} (h : GLI σ τ vs) (hF : (σ 0 2).toInt ≤ 10220) (h0 : 0 ≤ (σ 0 2).toInt) (k : ∀ r s, GLI s τ vs → (s 0 2).toInt ≤ (σ 0 2).toInt + 20 → FDt a1 a2 a3 a4 a5 σ s → Q r s τ vs) : wp_feed a1 a2 a3 a4 a5 σ τ vs Q := mg_wp_feed (fun r s t z p q => by
  obtain ⟨et, ez, g, f⟩ := p
  rw [et, ez]
  exact k r s g f q) (sp_feed (Q := fun _ s t z => t = τ ∧ z = vs ∧ GLI s τ vs ∧ (s 0 2).toInt ≤ (σ 0 2).toInt + 20) h hF h0 (fun _ => ⟨rfl, rfl, h, by omega⟩) (fun _ r s _ _ f g => ⟨rfl, rfl, g, by omega⟩)) (rx_feed (Q := fun _ s _ _ => FDt a1 a2 a3 a4 a5 σ s) h hF (fun _ _ _ _ q => q))
theorem wx_end {Q : Int32 → St → St → List Nat → Prop} (h : GLI σ τ vs) (k : ∀ r s, GLI s τ vs → s 0 2 = σ 0 2 → ENt a σ s → Q r s τ vs) : wp_end a σ τ vs Q := mg_wp_end (fun r s t z p q => by
  obtain ⟨et, ez, g, f⟩ := p
  rw [et, ez]
  exact k r s g f q) (sp_end (Q := fun _ s t z => t = τ ∧ z = vs ∧ GLI s τ vs ∧ s 0 2 = σ 0 2) h (fun _ => ⟨rfl, rfl, h, rfl⟩) (fun _ _ s _ f g => ⟨rfl, rfl, g, f⟩)) (rx_end (Q := fun _ s _ _ => ENt a σ s) (fun _ _ _ _ q => q))
theorem wx_compile {Q : Int32 → St → St → List Nat → Prop} (h : GLI σ τ vs) (hF : (σ 0 2).toInt ≤ 10240) (hB : ∀ j, -128 ≤ (σ 1 j).toInt ∧ (σ 1 j).toInt ≤ 127) (k : ∀ r s t z, GLI s t z → (s 0 1).toInt = 0 → s 0 2 = σ 0 2 → CMPq a σ s → Q r s t z) : wp_compile a σ τ vs Q := mg_wp_compile (fun r s t z p q => k r s t z p.1 p.2.1 p.2.2 q) (sp_compile (Q := fun _ s t z => GLI s t z ∧ (s 0 1).toInt = 0 ∧ s 0 2 = σ 0 2) h hF (fun _ s t z g h1 h2 => ⟨g, h1, h2⟩)) (es_compile (Q := fun _ s _ _ => CMPq a σ s) h hF hB (fun _ _ _ _ q => q))
theorem wx_cell {Q : Int32 → St → St → List Nat → Prop} (h : GLI σ τ vs) (k : ∀ r s, GLI s τ vs → (s 0 1).toInt = 0 → s 0 2 = σ 0 2 → FCs σ s → Q r s τ vs) : wp_cell σ τ vs Q := mg_wp_cell (fun r s t z p q => by
  obtain ⟨et, ez, g, f, f2⟩ := p
  rw [et, ez]
  exact k r s g f f2 q) (sp_cell (Q := fun _ s t z => t = τ ∧ z = vs ∧ GLI s τ vs ∧ (s 0 1).toInt = 0 ∧ s 0 2 = σ 0 2) h (fun _ s g h1 h2 => ⟨rfl, rfl, g, h1, h2⟩)) (fc_pp_cell (Q := fun _ s _ _ => FCs σ s) fc_rf (fun _ _ _ _ q => q))
theorem wx_pick {Q : Int32 → St → St → List Nat → Prop} (h : GLI σ τ vs) (k : ∀ r s, GLI s τ vs → s 0 2 = σ 0 2 → FMs σ s → Q r s τ vs) : wp_pick a σ τ vs Q := mg_wp_pick (fun r s t z p q => by
  obtain ⟨et, ez, g, f⟩ := p
  rw [et, ez]
  exact k r s g f q) (sp_pick (Q := fun _ s t z => t = τ ∧ z = vs ∧ GLI s τ vs ∧ s 0 2 = σ 0 2) h (fun _ s g _ h2 => ⟨rfl, rfl, g, h2⟩)) (fm_pp_pick (Q := fun _ s _ _ => FMs σ s) fm_rf (fun _ _ _ _ q => q))
theorem wx_link {Q : Int32 → St → St → List Nat → Prop} (h : GLI σ τ vs) (hF : (σ 0 2).toInt ≤ 10240) (k : ∀ r s, GLI s τ vs → s 0 2 = σ 0 2 → FMs σ s → Q r s τ vs) : wp_link σ τ vs Q := mg_wp_link (fun r s t z p q => by
  obtain ⟨et, ez, g, f⟩ := p
  rw [et, ez]
  exact k r s g f q) (sp_link (Q := fun _ s t z => t = τ ∧ z = vs ∧ GLI s τ vs ∧ s 0 2 = σ 0 2) h hF (fun _ s g _ h2 => ⟨rfl, rfl, g, h2⟩)) (fm_pp_link (Q := fun _ s _ _ => FMs σ s) fm_rf (fun _ _ _ _ q => q))
theorem wx_run {Q : Int32 → St → St → List Nat → Prop} (h : GLI σ τ vs) (hF : (σ 0 2).toInt ≤ 10240) (k : ∀ r s, GLI s τ vs → s 0 2 = σ 0 2 → FMs σ s → Q r s τ vs) : wp_run a σ τ vs Q := mg_wp_run (fun r s t z p q => by
  obtain ⟨et, ez, g, f⟩ := p
  rw [et, ez]
  exact k r s g f q) (sp_run (Q := fun _ s t z => t = τ ∧ z = vs ∧ GLI s τ vs ∧ s 0 2 = σ 0 2) h hF (fun _ s g _ h2 => ⟨rfl, rfl, g, h2⟩)) (fm_pp_run (Q := fun _ s _ _ => FMs σ s) fm_rf (fun _ _ _ _ q => q))
theorem wx_input {Q : Int32 → St → St → List Nat → Prop} (h : GLI σ τ vs) (k : ∀ r s, GLI s τ vs → s 0 2 = σ 0 2 → FMs σ s → Q r s τ vs) : wp_input a σ τ vs Q := mg_wp_input (fun r s t z p q => by
  obtain ⟨et, ez, g, f⟩ := p
  rw [et, ez]
  exact k r s g f q) (sp_input (Q := fun _ s t z => t = τ ∧ z = vs ∧ GLI s τ vs ∧ s 0 2 = σ 0 2) h (fun _ s g _ h2 => ⟨rfl, rfl, g, h2⟩)) (fm_pp_input (Q := fun _ s _ _ => FMs σ s) fm_rf (fun _ _ _ _ q => q))
end CLX
end

section
/-! compile(), both sides: what is declared stays alike -/
abbrev KRx (σ s : St) : Prop := Kp [(0, 8), (0, 9), (0, 1), (0, 10), (0, 12), (0, 13), (0, 14), (0, 15), (0, 17), (0, 37), (0, 39), (0, 49), (0, 53), (0, 54), (0, 57), (0, 58), (0, 59), (0, 60), (0, 36), (0, 31), (0, 45), (0, 64), (0, 65), (0, 55), (0, 56)] [2, 3, 4, 5, 6, 8, 25, 33, 14, 21, 34, 35, 36, 31, 32, 9, 10, 11, 12, 13, 15, 16, 17, 18, 19, 20, 26, 27, 28, 29, 30, 54, 37, 38, 39] σ s
def OLe (σ s : St) : Prop := ∀ e : Nat, (e : Int) < (σ 0 36).toInt → s 9 e = σ 9 e ∧ s 10 e = σ 10 e ∧ s 12 e = σ 12 e ∧ s 13 e = σ 13 e ∧ s 15 e = σ 15 e
def CMPx (a : Int32) (σ s : St) : Prop := ((a.toInt < 0 ∨ 3 < a.toInt ∨ (σ 0 35).toInt = 100) ∧ s = upC (upC (upC σ 0 9 (σ 0 1)) 0 1 (0 : Int32)) 0 14 ((-1) : Int32)) ∨ ((0 ≤ a.toInt ∧ a.toInt ≤ 3 ∧ (σ 0 35).toInt ≠ 100) ∧ ∃ (lo : Nat) (σ0 s1 : St) (v1 : Int32), S0q lo σ0 ∧ (σ 0 36).toInt = (lo : Int) ∧ σ0 0 31 = σ 0 31 ∧ σ0 1 = σ 1 ∧ RDq (σ 1) (σ 0 1).toInt lo σ0 v1 s1 ∧ KRx σ s1 ∧ OLe σ s1 ∧ ((v1.toInt = 0 ∧ s = upC (upC (upC (upC s1 23 (s1 0 35).toNatClampNeg (s1 0 37)) 0 35 ((s1 0 35) + (1 : Int32))) 22 ((s1 0 35) + (1 : Int32)).toNatClampNeg (s1 0 36)) 24 ((s1 0 35) + (1 : Int32)).toNatClampNeg (s1 0 39)) ∨ (v1.toInt ≠ 0 ∧ s = upC (upC (upC (upC (upC s1 0 17 (σ 0 17)) 0 31 (σ 0 31)) 0 45 (σ 0 45)) 0 39 (σ 0 39)) 0 36 (s1 22 (s1 0 35).toNatClampNeg))))
/-- what is declared, alike on both sides -/
def RLe (w σ : St) : Prop := (∀ k : Nat, (k : Int) ≤ (w 5 13).toInt → (w 34 k).toInt = (σ 22 k).toInt + 4) ∧ (∀ k : Nat, (k : Int) < (w 5 13).toInt → (w 37 (k + 1)).toInt = (σ 23 k).toInt) ∧ ∀ e : Nat, (e : Int) < (σ 0 36).toInt → (FLq w (e + 4) 1 ↔ (σ 9 e).toInt ≠ 1) ∧ (FLq w (e + 4) 2 ↔ (σ 12 e).toInt ≠ 0) ∧ (FLq w (e + 4) 4 ↔ (σ 13 e).toInt ≠ 0) ∧ ((σ 9 e).toInt = 1 ∨ (σ 9 e).toInt = 2)
section CPX
variable {w σ s s' σ0 σ1 τ t : St} {vs z : List Nat} {a : Int32} {o : Nat}
theorem ole_of (h : (σ 0 36).toInt = Fi σ1) (k : Kp [(0, 8), (0, 9), (0, 1), (0, 10), (0, 12), (0, 14), (0, 15), (0, 37), (0, 49), (0, 53), (0, 54)] [2, 3, 4, 5, 6] σ σ1) (u : UE σ1 s) : OLe σ s := fun e he => by
  obtain ⟨u1, _, u3⟩ := u
  have e36 : σ1 0 36 = σ 0 36 := k 0 36 rfl rfl
  obtain ⟨x9, x10, x15, x12, _⟩ := u1 e (by rw [e36]; exact he)
  obtain ⟨x13, _⟩ := u3 e (by rw [← h]; exact he)
  exact ⟨x9.trans (k 9 e rfl rfl), x10.trans (k 10 e rfl rfl), x12.trans (k 12 e rfl rfl), x13.trans (k 13 e rfl rfl), x15.trans (k 15 e rfl rfl)⟩
theorem rd_frx (h : RS0 σ0 τ vs) (k0 : K0c σ σ0) (hF : (σ 0 36).toInt = Fi σ0) : wp_read_0 σ0 τ vs (fun _ s _ _ => KRx σ s ∧ OLe σ s) := by
  have eF : ∀ σ1, KR σ0 σ1 → (σ 0 36).toInt = Fi σ1 := fun σ1 kr => by
    rw [hF]
    unfold Fi
    rw [show σ1 0 35 = σ0 0 35 from kr 0 35 rfl rfl, show σ1 22 = σ0 22 from funext (fun j => kr 22 j rfl rfl)]
  refine sp_read0 h (fun σ1 s t z hP kr il _ _ => ⟨kp_tr (kp_sub k0 rfl rfl) (kp_tr (kp_sub kr rfl rfl) (kp_sub il.1.1 rfl rfl)), ole_of (eF σ1 kr) (kp_tr (kp_sub k0 rfl rfl) (kp_sub kr rfl rfl)) il.1.2.2.2.2.2.2.2.2.1⟩) (fun v σ1 s t z hv hP kr ut => ?_)
  obtain ⟨⟨s0, u1, hs⟩, -⟩ := ut
  have k1 : KRx σ s0 := kp_tr (kp_sub k0 rfl rfl) (kp_tr (kp_sub kr rfl rfl) (kp_sub u1.1 rfl rfl))
  have o1 : OLe σ s0 := ole_of (eF σ1 kr) (kp_tr (kp_sub k0 rfl rfl) (kp_sub kr rfl rfl)) u1.2.2.2.2.2.2.2.2.1
  rw [hs]
  refine ⟨kp_f k1 rfl, fun e he => ?_⟩
  rw [rdC_ne (by decide), rdC_ne (by decide), rdC_ne (by decide), rdC_ne (by decide), rdC_ne (by decide)]
  exact o1 e he
theorem es_compilex {Q : Int32 → St → St → List Nat → Prop} (h : GLI σ τ vs) (hF : (σ 0 2).toInt ≤ 10240) (hB : ∀ j, -128 ≤ (σ 1 j).toInt ∧ (σ 1 j).toInt ≤ 127) (kk : ∀ v s t z, CMPx a σ s → Q v s t z) : pp_compile a σ τ vs Q := by
  have h9 := h
  obtain ⟨⟨⟨t1, t2⟩, ⟨o1, o2⟩, ⟨n1, n2⟩, -⟩, hE, hA, -⟩ := h9
  unfold pp_compile
  refine ⟨fun c => kk _ _ _ _ (Or.inl ⟨Or.inl c, rfl⟩), fun c0 => ⟨fun c => kk _ _ _ _ (Or.inl ⟨Or.inr (Or.inl c), rfl⟩), fun c3 => ⟨fun ho _ _ => ?_, fun c => kk _ _ _ _ (Or.inl ⟨Or.inr (Or.inr c), rfl⟩)⟩⟩⟩
  have ho' : (σ 0 35).toInt < 100 := by omega
  generalize h0 : (upC (upC (upC (upC (upC (upC (upC (upC (upC (upC (upC σ 0 9 (σ 0 1)) 0 1 (0 : Int32)) 0 14 ((-1) : Int32)) 22 (σ 0 35).toNatClampNeg (σ 0 36)) 24 (σ 0 35).toNatClampNeg (σ 0 39)) 0 37 (0 : Int32)) 0 12 (0 : Int32)) 0 15 (0 : Int32)) 0 53 (0 : Int32)) 0 54 (0 : Int32)) 0 49 (0 : Int32)) = σ0
  have k0 : K0c σ σ0 := by
    have ka : Kp [(0, 9), (0, 1), (0, 14), (0, 37), (0, 12), (0, 15), (0, 53), (0, 54), (0, 49)] [22, 24] σ σ0 := by
      rw [← h0]
      exact kp_f (kp_f (kp_f (kp_f (kp_f (kp_f (kp_a (kp_a (kp_f (kp_f (kp_f kp_rf rfl) rfl) rfl) rfl) rfl) rfl) rfl) rfl) rfl) rfl) rfl
    intro c j q1 q2
    by_cases c22 : c = 22
    · subst c22
      rw [← h0]
      simp only [rdC, Nat.reduceEqDiff, if_true, if_false]
      by_cases e : j = (σ 0 35).toNatClampNeg
      · rw [if_pos e, e]; exact hE.1
      · rw [if_neg e]
    · by_cases c24 : c = 24
      · subst c24
        rw [← h0]
        simp only [rdC, Nat.reduceEqDiff, if_true, if_false]
        by_cases e : j = (σ 0 35).toNatClampNeg
        · rw [if_pos e, e]; exact hE.2.1
        · rw [if_neg e]
      · refine ka c j q1 ?_
        simp
        exact ⟨c22, c24⟩
  have z9 : σ0 0 9 = σ 0 1 := by rw [← h0]; rfl
  have z37 : σ0 0 37 = 0 := by rw [← h0]; rfl
  have z12 : σ0 0 12 = 0 := by rw [← h0]; rfl
  have z15 : σ0 0 15 = 0 := by rw [← h0]; rfl
  have z53 : σ0 0 53 = 0 := by rw [← h0]; rfl
  have z54 : σ0 0 54 = 0 := by rw [← h0]; rfl
  have z49 : σ0 0 49 = 0 := by rw [← h0]; rfl
  obtain ⟨rs, eFi, -⟩ := rs0_gi (σ0 := σ0) h hF ho' k0 z9 z37 z12 z15 z53 z49
  clear h0
  have y : ∀ c, c ≠ 0 → σ0 c = σ c := fun c c0 => funext (fun j => k0 c j (by
    simp only [List.contains_cons, List.contains_nil, Bool.or_false, Bool.or_eq_false_iff, beq_eq_false_iff_ne, ne_eq, Prod.mk.injEq, not_and]
    omega) rfl)
  have f35 : σ0 0 35 = σ 0 35 := k0 0 35 rfl rfl
  have f36 : σ0 0 36 = σ 0 36 := k0 0 36 rfl rfl
  have f31 : σ0 0 31 = σ 0 31 := k0 0 31 rfl rfl
  obtain ⟨g1, g2, g3, g4⟩ := hE
  obtain ⟨-, -, a35, -, -, -, a31, a10, -⟩ := hA
  have eL : (σ 0 36).toInt = (((σ 0 36).toInt.toNat : Nat) : Int) := by omega
  generalize (σ 0 36).toInt.toNat = lo at eL
  have hS : S0q lo σ0 := by
    refine ⟨by rw [z53]; rfl, by rw [z54]; rfl, by rw [z49]; rfl, by rw [z15]; rfl, by rw [z12]; rfl, by rw [z37]; rfl, ⟨?_, by rw [f36]; exact eL, Nat.le_refl _, by omega, fun e h1 h2 => absurd h2 (Nat.not_lt.mpr h1), by rw [f31]; omega, by rw [f31]; omega, fun e h1 h2 => absurd h2 (Nat.not_lt.mpr h1)⟩, fun j => ?_, fun j => ?_, fun j => ?_⟩
    · rw [f35, y 22 (by decide), ← g1]; exact eL
    · rw [y 31 (by decide)]; exact a31 j
    · rw [y 10 (by decide)]; have := a10 j; omega
    · rw [y 35 (by decide)]; have := a35 j; omega
  have fr : wp_read_0 σ0 τ vs (fun v s _ _ => (v = 0 ∨ v.toInt < 0) ∧ KRx σ s ∧ OLe σ s) := mg_wp_read_0 (fun v s t z p q => ⟨p.1, q⟩) (rd_fr rs) (wl_wp_read_0 (fun v s t z p => p) (rd_frx rs k0 eFi))
  refine cj_wp_read_0 (fun v s t z p1 p2 => ?_) (wl_wp_read_0 (fun v s t z p => p) fr) (es_read (Q := fun v s _ _ => RDq (σ 1) (σ 0 1).toInt lo σ0 v s) (f := σ 1) (N := (σ 0 1).toInt) (σ := σ0) (y 1 (by decide)) hB (by rw [z9]) t1 t2 hS (fun v s t z hr => hr))
  obtain ⟨hv, kx, ol⟩ := p1
  refine ⟨fun c _ _ _ => kk _ _ _ _ (Or.inr ⟨⟨c0, c3, ho⟩, lo, σ0, s, v, hS, eL, f31, y 1 (by decide), p2, kx, ol, Or.inl ⟨?_, rfl⟩⟩), fun c _ => kk _ _ _ _ (Or.inr ⟨⟨c0, c3, ho⟩, lo, σ0, s, v, hS, eL, f31, y 1 (by decide), p2, kx, ol, Or.inr ⟨by omega, rfl⟩⟩)⟩
  rcases hv with h | h
  · rw [h]; rfl
  · omega
end CPX
end

