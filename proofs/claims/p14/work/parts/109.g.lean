section
/-! frames of the class: what steps of expressions leave as it is -/
def OPu (u : Nat) : Prop := u = 47 ∨ 65 ≤ u
def FRw (c : Nat) : Prop := [4, 5, 6, 7, 17, 24, 25, 31, 32, 33, 39, 43, 47].contains c = true ∨ 65 ≤ c
def FRs (w s : St) : Prop := ∀ c, ¬ FRw c → s c = w c
theorem op_47 : OPu 47 := Or.inl rfl
theorem op_65 (x : Nat) : OPu (65 + x) := Or.inr (by omega)
theorem frw {c : Nat} (h : [4, 5, 6, 7, 17, 24, 25, 31, 32, 33, 39, 43, 47].contains c = true) : FRw c := Or.inl h
theorem frw_op {u : Nat} (h : OPu u) : FRw u := by
  rcases h with h | h
  · exact Or.inl (by rw [h]; decide)
  · exact Or.inr h
theorem fr_c {w s : St} {c k : Nat} {v : Int32} (h : FRs w s) (hc : FRw c) : FRs w (upC s c k v) := fun q hq => by
  rw [rdC_ne (fun e => hq (by rw [e]; exact hc))]
  exact h q hq
theorem fr_F {w s : St} {c : Nat} {f : Nat → Int32} (h : FRs w s) (hc : FRw c) : FRs w (upF s c f) := fun q hq => by
  rw [rdF_ne (fun e => hq (by rw [e]; exact hc))]
  exact h q hq
theorem fr_e {w s r : St} (e : s = r) (h : FRs w r) : FRs w s := by
  rw [e]
  exact h
theorem fr_rf {w : St} : FRs w w := fun _ _ => rfl
theorem fr_pk_X6_reset {w : St} {a0 : Nat} {a1 : Int32} {σ : St} {Q : St → Prop} (ua0 : OPu a0) (hs : FRs w σ) (k : ∀ (v0 : St), FRs w v0 → Q v0) : pk_X6_reset a0 a1 σ Q := by
  unfold pk_X6_reset
  exact (fun s0n => fun h1_ => (fun s2n => fun h2_ => (fun s4n => fun h3_ => (fun s6n => fun h4_ => (fun s8n => fun h5_ => (fun s10n => fun h6_ => (fun s12n => fun h7_ => (fun s14n => fun h8_ => (fun s16n => fun h9_ => (fun s18n => fun h10_ => (fun s20n => fun h11_ => (fun s22n => fun h12_ => (fun s24n => fun h13_ => (k _ (fr_e h13_ (fr_c (fr_e h12_ (fr_c (fr_e h11_ (fr_c (fr_e h10_ (fr_c (fr_e h9_ (fr_c (fr_e h8_ (fr_c (fr_e h7_ (fr_c (fr_e h6_ (fr_c (fr_e h5_ (fr_c (fr_e h4_ (fr_c (fr_e h3_ (fr_c (fr_e h2_ (fr_c (fr_e h1_ (fr_c hs (frw_op ua0))) (frw_op ua0))) (frw_op ua0))) (frw_op ua0))) (frw_op ua0))) (frw_op ua0))) (frw_op ua0))) (frw_op ua0))) (frw_op ua0))) (frw_op ua0))) (frw_op ua0))) (frw_op ua0))) (frw_op ua0)))))))))))))))))
theorem fr_pk_X2_push {w : St} {σ : St} {Q : Nat → St → Prop} (hs : FRs w σ) (k : ∀ (v0 : Nat) (v1 : St), OPu v0 → FRs w v1 → Q v0 v1) : pk_X2_push σ Q := by
  unfold pk_X2_push
  exact ⟨(fun x1_ => OPu x1_), ⟨(fun y0_35 => fun _ => fun j2_ => (fr_pk_X6_reset j2_ hs (fun s44 p3_ => (k _ _ j2_ (fr_c p3_ (frw (by decide))))))), ⟨True, ⟨(fun j4_ => op_47), ⟨(fun _ => trivial), (fun _ => ⟨(fun _ => trivial), (fun _ => (fun _ => (op_65 _)))⟩)⟩⟩⟩⟩⟩
theorem fr_pk_X0_emit {w : St} {a1 : Int32} {a2 : Int32} {a3 : Int32} {a4 : Int32} {σ : St} {Q : Int32 → St → Prop} (hs : FRs w σ) (k : ∀ (v0 : Int32) (v1 : St), FRs w v1 → Q v0 v1) : pk_X0_emit a1 a2 a3 a4 σ Q := by
  unfold pk_X0_emit
  exact ⟨(fun _ => (k _ _ hs)), (fun _ => ⟨(fun _ => (k _ _ hs)), (fun _ => (fun _ => (fun _ => (fun _ => (fun _ => ⟨(fun _ => (k _ _ (fr_c (fr_c (fr_c (fr_c (fr_c hs (frw (by decide))) (frw (by decide))) (frw (by decide))) (frw (by decide))) (frw (by decide))))), (fun _ => ⟨(fun _ => (k _ _ (fr_c (fr_c (fr_c (fr_c (fr_c hs (frw (by decide))) (frw (by decide))) (frw (by decide))) (frw (by decide))) (frw (by decide))))), (fun _ => (fun _ => (k _ _ (fr_c (fr_c (fr_c (fr_c (fr_c hs (frw (by decide))) (frw (by decide))) (frw (by decide))) (frw (by decide))) (frw (by decide))))))⟩)⟩)))))⟩)⟩
theorem fr_pk_X2_number {w : St} {a1 : Int32} {σ : St} {Q : St → Prop} (hs : FRs w σ) (k : ∀ (v0 : St), FRs w v0 → Q v0) : pk_X2_number a1 σ Q := by
  unfold pk_X2_number
  exact (fr_pk_X2_push hs (fun u1 s1 p1_ p2_ => (fun s1n => fun h3_ => (fun s3n => fun h4_ => ⟨(fun x5_ => True), ⟨(fun y1_38 => fun _ => fun j6_ => (fun s6n => fun h7_ => (fr_pk_X0_emit (fr_e h7_ (fr_c (fr_e h4_ (fr_c (fr_e h3_ (fr_c p2_ (frw_op p1_))) (frw_op p1_))) (frw_op p1_))) (fun v52 s52 p8_ => (k _ p8_))))), ⟨(fun _ => trivial), (fun _ => trivial)⟩⟩⟩))))
theorem fr_pk_X10_byteAt {a1 : Int32} {σ : St} {Q : Int32 → Prop} (k : ∀ (v0 : Int32), Q v0) : pk_X10_byteAt a1 σ Q := by
  unfold pk_X10_byteAt
  exact ⟨(fun _ => (k _)), (fun _ => ⟨(fun _ => (k _)), (fun _ => ⟨(fun _ => (k _)), (fun _ => (fun _ => (k _)))⟩)⟩)⟩
theorem fr_pk_X10_codeAt {a1 : Int32} {a2 : Int32} {σ : St} {Q : Int32 → Prop} (k : ∀ (v0 : Int32), Q v0) : pk_X10_codeAt a1 a2 σ Q := by
  unfold pk_X10_codeAt
  exact (fr_pk_X10_byteAt (fun v2 => ⟨(fun _ => (fr_pk_X10_byteAt (fun v39 => ⟨(fun _ => (k _)), (fun _ => ⟨(fun _ => (k _)), (fun _ => ⟨(fun _ => (k _)), (fun _ => ⟨(fun _ => (k _)), (fun _ => ⟨(fun _ => (k _)), (fun _ => (k _))⟩)⟩)⟩)⟩)⟩))), (fun _ => ⟨(fun _ => (k _)), (fun _ => ⟨(fun _ => (k _)), (fun _ => ⟨(fun _ => (k _)), (fun _ => (k _))⟩)⟩)⟩)⟩))
theorem fr_pk_X10_widthAt {a1 : Int32} {σ : St} {Q : Int32 → Prop} (k : ∀ (v0 : Int32), Q v0) : pk_X10_widthAt a1 σ Q := by
  unfold pk_X10_widthAt
  exact (fr_pk_X10_byteAt (fun v2 => ⟨(fun _ => (k _)), (fun _ => (k _))⟩))
theorem fr_pk_X10_readCodes {w : St} {a1 : Int32} {σ : St} {Q : Int32 → St → Prop} (hs : FRs w σ) (k : ∀ (v0 : Int32) (v1 : St), FRs w v1 → Q v0 v1) : pk_X10_readCodes a1 σ Q := by
  unfold pk_X10_readCodes
  exact ⟨(fun x1_ x2_ x3_ => FRs w x3_), ⟨hs, (fun x3_29 x4_29 s29 => fun j4_ => ⟨(fun _ => (k _ _ j4_)), (fun _ => (fr_pk_X10_codeAt (fun v45 => (fr_pk_X10_widthAt (fun v54 => (fr_F j4_ (frw (by decide))))))))⟩)⟩⟩
theorem fr_pk_X6_become {w : St} {a0 : Nat} {a1 : Int32} {a2 : Int32} {σ : St} {Q : St → Prop} (ua0 : OPu a0) (hs : FRs w σ) (k : ∀ (v0 : St), FRs w v0 → Q v0) : pk_X6_become a0 a1 a2 σ Q := by
  unfold pk_X6_become
  exact (fun s0n => fun h1_ => (fun s2n => fun h2_ => (fun s4n => fun h3_ => (fun s6n => fun h4_ => (k _ (fr_e h4_ (fr_c (fr_e h3_ (fr_c (fr_e h2_ (fr_c (fr_e h1_ (fr_c hs (frw_op ua0))) (frw_op ua0))) (frw_op ua0))) (frw_op ua0))))))))
theorem fr_pk_X8_addInitial {w : St} {a1 : Int32} {a2 : Int32} {a3 : Int32} {σ : St} {Q : St → Prop} (hs : FRs w σ) (k : ∀ (v0 : St), FRs w v0 → Q v0) : pk_X8_addInitial a1 a2 a3 σ Q := by
  unfold pk_X8_addInitial
  exact (k _ (fr_c (fr_F (fr_F (fr_F hs (frw (by decide))) (frw (by decide))) (frw (by decide))) (frw (by decide))))
theorem fr_pk_X11_fail {w : St} {a1 : Int32} {a2 : Int32} {σ : St} {Q : St → Prop} (hs : FRs w σ) (k : ∀ (v0 : St), FRs w v0 → Q v0) : pk_X11_fail a1 a2 σ Q := by
  unfold pk_X11_fail
  exact ⟨(fun _ => (k _ hs)), (fun _ => (k _ (fr_c (fr_c hs (frw (by decide))) (frw (by decide)))))⟩
theorem fr_pk_X2_string {w : St} {a1 : Int32} {σ : St} {Q : St → Prop} (hs : FRs w σ) (k : ∀ (v0 : St), FRs w v0 → Q v0) : pk_X2_string a1 σ Q := by
  unfold pk_X2_string
  exact (fr_pk_X10_readCodes hs (fun v5 s5 p1_ => ⟨(fun x2_ => FRs w x2_), ⟨(fun s37 => fun j3_ => ⟨(fun x4_ x5_ => FRs w x5_), ⟨(fr_c j3_ (frw (by decide))), (fun x4_55 s55 => fun j6_ => ⟨(fun _ => (fr_pk_X2_push j6_ (fun u93 s93 p7_ p8_ => (fr_pk_X6_become p7_ p8_ (fun s102 p9_ => (fun s5n => fun h10_ => (fun s7n => fun h11_ => (fr_pk_X0_emit (fr_e h11_ (fr_c (fr_e h10_ (fr_c p9_ (frw_op p7_))) (frw_op p7_))) (fun v133 s133 p12_ => (k _ p12_)))))))))), (fun _ => (fr_pk_X8_addInitial j6_ (fun s83 p13_ => p13_)))⟩)⟩⟩), ⟨(fun _ => p1_), (fun _ => (fr_pk_X11_fail p1_ (fun s34 p14_ => p14_)))⟩⟩⟩))
theorem fr_pk_X10_sameName {a1 : Int32} {a2 : Int32} {σ : St} {Q : Int32 → Prop} (k : ∀ (v0 : Int32), Q v0) : pk_X10_sameName a1 a2 σ Q := by
  unfold pk_X10_sameName
  exact ⟨(fun _ => ⟨(fun x1_ => True), ⟨trivial, (fun x6_46 => fun j2_ => ⟨(fun _ => (k _)), (fun _ => ⟨(fun _ => (k _)), (fun _ => ⟨(fun _ => (k _)), (fun _ => (fun _ => (fun _ => ⟨(fun _ => trivial), (fun _ => (k _))⟩)))⟩)⟩)⟩)⟩⟩), (fun _ => (k _))⟩
theorem fr_pk_X11_localFrom {a1 : Int32} {a2 : Int32} {σ : St} {Q : Int32 → Prop} (k : ∀ (v0 : Int32), Q v0) : pk_X11_localFrom a1 a2 σ Q := by
  unfold pk_X11_localFrom
  exact ⟨(fun x1_ => True), ⟨trivial, (fun x3_7 => fun j2_ => ⟨(fun _ => (k _)), (fun _ => (fr_pk_X10_sameName (fun v36 => ⟨(fun _ => trivial), (fun _ => (k _))⟩)))⟩)⟩⟩
theorem fr_pk_X8_mark {w : St} {a1 : Int32} {a2 : Int32} {σ : St} {Q : St → Prop} (hs : FRs w σ) (k : ∀ (v0 : St), FRs w v0 → Q v0) : pk_X8_mark a1 a2 σ Q := by
  unfold pk_X8_mark
  exact (k _ (fr_F hs (frw (by decide))))
theorem fr_pk_X2_address {w : St} {a1 : Nat} {σ : St} {Q : St → Prop} (ua1 : OPu a1) (hs : FRs w σ) (k : ∀ (v0 : St), FRs w v0 → Q v0) : pk_X2_address a1 σ Q := by
  unfold pk_X2_address
  exact ⟨(fun x1_ => True), ⟨(fun y0_13 => fun _ => fun j2_ => ⟨(fun x3_ => FRs w x3_), ⟨(fun s75 => fun j4_ => ⟨(fun x5_ => True), ⟨(fun y2_91 => fun j6_ => (fr_pk_X6_become ua1 j4_ (fun s91 p7_ => (fun s4n => fun h8_ => (fun s6n => fun h9_ => (k _ (fr_e h9_ (fr_c (fr_e h8_ (fr_c p7_ (frw_op ua1))) (frw_op ua1))))))))), ⟨(fun _ => trivial), (fun _ => trivial)⟩⟩⟩), ⟨(fun _ => ⟨(fun _ => hs), (fun _ => (fr_pk_X0_emit hs (fun v71 s71 p10_ => p10_)))⟩), (fun _ => (fr_pk_X0_emit (fr_F hs (frw (by decide))) (fun v49 s49 p11_ => p11_)))⟩⟩⟩), ⟨(fun _ => trivial), (fun _ => trivial)⟩⟩⟩
theorem fr_pk_X2_refuse {w : St} {a1 : Int32} {σ : St} {Q : St → Prop} (hs : FRs w σ) (k : ∀ (v0 : St), FRs w v0 → Q v0) : pk_X2_refuse a1 σ Q := by
  unfold pk_X2_refuse
  exact (fr_pk_X11_fail hs (fun s6 p1_ => (k _ p1_)))
theorem fr_pk_X8_is {a1 : Int32} {a2 : Int32} {σ : St} {Q : Int32 → Prop} (k : ∀ (v0 : Int32), Q v0) : pk_X8_is a1 a2 σ Q := by
  unfold pk_X8_is
  exact ⟨(fun _ => (k _)), (fun _ => (k _))⟩
theorem fr_pk_X11_outerOf {a1 : Int32} {σ : St} {Q : Int32 → Prop} (k : ∀ (v0 : Int32), Q v0) : pk_X11_outerOf a1 σ Q := by
  unfold pk_X11_outerOf
  exact ⟨(fun x1_ => True), ⟨trivial, (fun x2_2 => fun j2_ => ⟨(fun _ => (k _)), (fun _ => (fr_pk_X10_sameName (fun v23 => ⟨(fun _ => trivial), (fun _ => (k _))⟩)))⟩)⟩⟩
theorem fr_pk_X2_named {w : St} {a1 : Int32} {σ : St} {Q : St → Prop} (hs : FRs w σ) (k : ∀ (v0 : St), FRs w v0 → Q v0) : pk_X2_named a1 σ Q := by
  unfold pk_X2_named
  exact (fr_pk_X11_localFrom (fun v6 => ⟨(fun x1_ => True), ⟨(fun y0_26 => fun j2_ => ⟨True, ⟨(fun j3_ => (fr_pk_X2_push hs (fun u54 s54 p4_ p5_ => (fun s4n => fun h6_ => ⟨(fun x7_ => True), ⟨(fun y1_80 => fun j8_ => (fun s7n => fun h9_ => ⟨(fun x10_ => True), ⟨(fun y1_114 => fun j11_ => (fun s10n => fun h12_ => (fr_pk_X8_mark (fr_e h12_ (fr_c (fr_e h9_ (fr_c (fr_e h6_ (fr_c p5_ (frw_op p4_))) (frw_op p4_))) (frw_op p4_))) (fun s124 p13_ => ⟨(fun _ => ⟨(fun _ => (k _ p13_)), (fun _ => (fr_pk_X2_address p4_ p13_ (fun s162 p14_ => (k _ p14_))))⟩), (fun _ => ⟨(fun _ => (k _ p13_)), (fun _ => (fr_pk_X2_address p4_ p13_ (fun s162 p15_ => (k _ p15_))))⟩)⟩)))), ⟨(fun _ => trivial), (fun _ => trivial)⟩⟩⟩)), ⟨(fun _ => trivial), (fun _ => trivial)⟩⟩⟩)))), ⟨(fun _ => trivial), (fun _ => ⟨True, ⟨(fun j16_ => (fr_pk_X2_refuse hs (fun s49 p17_ => (k _ p17_)))), ⟨(fun _ => trivial), (fun _ => (fr_pk_X8_is (fun v41 => ⟨(fun _ => trivial), (fun _ => trivial)⟩)))⟩⟩⟩)⟩⟩⟩), ⟨(fun _ => trivial), (fun _ => (fr_pk_X11_outerOf (fun v19 => trivial)))⟩⟩⟩))
theorem fr_pk_X11_mentionCall {w : St} {a1 : Int32} {a2 : Int32} {σ : St} {Q : St → Prop} (hs : FRs w σ) (k : ∀ (v0 : St), FRs w v0 → Q v0) : pk_X11_mentionCall a1 a2 σ Q := by
  unfold pk_X11_mentionCall
  exact (fr_pk_X8_mark hs (fun s22 p1_ => ⟨(fun _ => (k _ p1_)), (fun _ => (k _ (fr_F p1_ (frw (by decide)))))⟩))
theorem fr_pk_X2_callee {w : St} {a1 : Int32} {σ : St} {Q : St → Prop} (hs : FRs w σ) (k : ∀ (v0 : St), FRs w v0 → Q v0) : pk_X2_callee a1 σ Q := by
  unfold pk_X2_callee
  exact (fr_pk_X11_localFrom (fun v6 => ⟨(fun x1_ => True), ⟨(fun y0_24 => fun j2_ => ⟨True, ⟨(fun j3_ => (fr_pk_X2_refuse hs (fun s43 p4_ => (k _ p4_)))), ⟨(fun _ => trivial), (fun _ => (fr_pk_X8_is (fun v35 => ⟨(fun _ => (fr_pk_X11_mentionCall hs (fun s53 p5_ => (fr_pk_X2_push p5_ (fun u57 s57 p6_ p7_ => (fun s10n => fun h8_ => (fun s12n => fun h9_ => (fun s14n => fun h10_ => (fun s16n => fun h11_ => (k _ (fr_e h11_ (fr_c (fr_e h10_ (fr_c (fr_e h9_ (fr_c (fr_e h8_ (fr_c p7_ (frw_op p6_))) (frw_op p6_))) (frw_op p6_))) (frw_op p6_))))))))))))), (fun _ => trivial)⟩)))⟩⟩⟩), ⟨(fun _ => trivial), (fun _ => (fr_pk_X11_outerOf (fun v17 => trivial)))⟩⟩⟩))
theorem fr_pk_X2_top {σ : St} {Q : Nat → Prop} (k : ∀ (v0 : Nat), OPu v0 → Q v0) : pk_X2_top σ Q := by
  unfold pk_X2_top
  exact ⟨(fun _ => (k _ op_47)), (fun _ => ⟨(fun _ => (k _ op_47)), (fun _ => (fun _ => (k _ (op_65 _))))⟩)⟩
theorem fr_pk_X6_isPlace {a0 : Nat} {σ : St} {Q : Int32 → Prop} (ua0 : OPu a0) (k : ∀ (v0 : Int32), Q v0) : pk_X6_isPlace a0 σ Q := by
  unfold pk_X6_isPlace
  exact ⟨(fun _ => (k _)), (fun _ => ⟨(fun _ => (k _)), (fun _ => ⟨(fun _ => (k _)), (fun _ => (k _))⟩)⟩)⟩
theorem fr_pk_X2_loaded {w : St} {a1 : Nat} {σ : St} {Q : Nat → St → Prop} (ua1 : OPu a1) (hs : FRs w σ) (k : ∀ (v0 : Nat) (v1 : St), OPu v0 → FRs w v1 → Q v0 v1) : pk_X2_loaded a1 σ Q := by
  unfold pk_X2_loaded
  exact (fr_pk_X6_isPlace ua1 (fun v1 => ⟨(fun _ => (k _ _ ua1 hs)), (fun _ => ⟨(fun _ => ⟨(fun x1_ => True), ⟨(fun y1_52 => fun j2_ => (fr_pk_X0_emit hs (fun v58 s58 p3_ => (fun s6n => fun h4_ => (k _ _ ua1 (fr_e h4_ (fr_c p3_ (frw_op ua1)))))))), ⟨(fun _ => trivial), (fun _ => trivial)⟩⟩⟩), (fun _ => (fr_pk_X0_emit hs (fun v27 s27 p5_ => (fun s12n => fun h6_ => (k _ _ ua1 (fr_e h6_ (fr_c p5_ (frw_op ua1))))))))⟩)⟩))
theorem fr_pk_X2_pop {w : St} {σ : St} {Q : Nat → St → Prop} (hs : FRs w σ) (k : ∀ (v0 : Nat) (v1 : St), OPu v0 → FRs w v1 → Q v0 v1) : pk_X2_pop σ Q := by
  unfold pk_X2_pop
  exact (fr_pk_X2_top (fun u2 p1_ => (fr_pk_X2_loaded p1_ hs (fun u5 s5 p2_ p3_ => ⟨(fun _ => (k _ _ p2_ (fr_c p3_ (frw (by decide))))), (fun _ => (k _ _ p2_ (fr_c p3_ (frw (by decide)))))⟩))))
theorem fr_pk_X8_parameters {a0 : Int32} {σ : St} {Q : Int32 → Prop} (k : ∀ (v0 : Int32), Q v0) : pk_X8_parameters a0 σ Q := by
  unfold pk_X8_parameters
  exact (k _)
theorem fr_pk_X8_parameter {a0 : Int32} {a1 : Int32} {σ : St} {Q : Int32 → Prop} (k : ∀ (v0 : Int32), Q v0) : pk_X8_parameter a0 a1 σ Q := by
  unfold pk_X8_parameter
  exact (k _)
theorem fr_pk_X6_fits {a0 : Nat} {a1 : Int32} {σ : St} {Q : Int32 → Prop} (ua0 : OPu a0) (k : ∀ (v0 : Int32), Q v0) : pk_X6_fits a0 a1 σ Q := by
  unfold pk_X6_fits
  exact ⟨True, ⟨(fun j1_ => ⟨(fun _ => (k _)), (fun _ => ⟨(fun _ => (k _)), (fun _ => (k _))⟩)⟩), ⟨(fun _ => trivial), (fun _ => ⟨(fun _ => (k _)), (fun _ => trivial)⟩)⟩⟩⟩
theorem fr_pk_X2_argument {w : St} {σ : St} {Q : St → Prop} (hs : FRs w σ) (k : ∀ (v0 : St), FRs w v0 → Q v0) : pk_X2_argument σ Q := by
  unfold pk_X2_argument
  exact (fr_pk_X2_pop hs (fun u1 s1 p1_ p2_ => (fr_pk_X2_top (fun u6 p3_ => (fr_pk_X8_parameters (fun v34 => ⟨(fun x4_ => FRs w x4_), ⟨(fun s58 => fun j5_ => (fun s4n => fun h6_ => (fun s6n => fun h7_ => (k _ (fr_e h7_ (fr_c (fr_e h6_ (fr_c j5_ (frw_op p3_))) (frw_op p3_))))))), ⟨True, ⟨(fun j8_ => (fun s9n => fun h9_ => (fr_e h9_ (fr_c p2_ (frw_op p3_))))), ⟨(fun _ => trivial), (fun _ => (fr_pk_X8_parameter (fun v44 => (fr_pk_X6_fits p1_ (fun v47 => ⟨(fun _ => p2_), (fun _ => trivial)⟩)))))⟩⟩⟩⟩⟩))))))
theorem fr_pk_X2_lineOf {a1 : Int32} {σ : St} {Q : Int32 → Prop} (k : ∀ (v0 : Int32), Q v0) : pk_X2_lineOf a1 σ Q := by
  unfold pk_X2_lineOf
  exact (k _)
theorem fr_pk_X2_raise {w : St} {a1 : Nat} {a2 : Int32} {a3 : Int32} {σ : St} {Q : St → Prop} (ua1 : OPu a1) (hs : FRs w σ) (k : ∀ (v0 : St), FRs w v0 → Q v0) : pk_X2_raise a1 a2 a3 σ Q := by
  unfold pk_X2_raise
  exact (fun s0n => fun h1_ => ⟨(fun _ => (k _ (fr_e h1_ (fr_c hs (frw_op ua1))))), (fun _ => (fr_pk_X11_fail (fr_e h1_ (fr_c hs (frw_op ua1))) (fun s17 p2_ => (k _ p2_))))⟩)
theorem fr_pk_X2_call {w : St} {a1 : Int32} {σ : St} {Q : St → Prop} (hs : FRs w σ) (k : ∀ (v0 : St), FRs w v0 → Q v0) : pk_X2_call a1 σ Q := by
  unfold pk_X2_call
  exact (fr_pk_X2_top (fun u1 p1_ => ⟨(fun x2_ => FRs w x2_), ⟨(fun s41 => fun j3_ => (fr_pk_X2_lineOf (fun v53 => (fr_pk_X0_emit j3_ (fun v57 s57 p4_ => (fr_pk_X6_become p1_ p4_ (fun s67 p5_ => (fr_pk_X2_raise p1_ p5_ (fun s79 p6_ => (k _ p6_)))))))))), ⟨True, ⟨(fun j7_ => (fr_pk_X2_refuse hs (fun s38 p8_ => p8_))), ⟨(fun _ => trivial), (fun _ => (fr_pk_X8_parameters (fun v30 => ⟨(fun _ => hs), (fun _ => trivial)⟩)))⟩⟩⟩⟩⟩))
theorem fr_pk_X2_kindOf {a1 : Int32} {σ : St} {Q : Int32 → Prop} (k : ∀ (v0 : Int32), Q v0) : pk_X2_kindOf a1 σ Q := by
  unfold pk_X2_kindOf
  exact (k _)
theorem fr_pk_X2_fetch {w : St} {a1 : Nat} {a2 : Int32} {σ : St} {Q : St → Prop} (ua1 : OPu a1) (hs : FRs w σ) (k : ∀ (v0 : St), FRs w v0 → Q v0) : pk_X2_fetch a1 a2 σ Q := by
  unfold pk_X2_fetch
  exact ⟨(fun _ => (fr_pk_X6_isPlace ua1 (fun v25 => ⟨(fun _ => (k _ hs)), (fun _ => ⟨(fun x1_ => True), ⟨(fun y1_49 => fun j2_ => (fr_pk_X0_emit hs (fun v55 s55 p3_ => (k _ p3_)))), ⟨(fun _ => trivial), (fun _ => trivial)⟩⟩⟩)⟩))), (fun _ => (fr_pk_X0_emit hs (fun v17 s17 p4_ => (k _ p4_))))⟩
theorem fr_pk_X2_left {w : St} {a1 : Int32} {σ : St} {Q : St → Prop} (hs : FRs w σ) (k : ∀ (v0 : St), FRs w v0 → Q v0) : pk_X2_left a1 σ Q := by
  unfold pk_X2_left
  exact (fr_pk_X2_kindOf (fun v2 => (fr_pk_X2_top (fun u7 p1_ => ⟨(fun x2_ => FRs w x2_), ⟨(fun s48 => fun j3_ => ⟨True, ⟨(fun j4_ => ⟨(fun x5_ => True), ⟨(fun y2_78 => fun j6_ => (fr_pk_X0_emit j3_ (fun v81 s81 p7_ => (fun s6n => fun h8_ => (k _ (fr_e h8_ (fr_c p7_ (frw_op p1_)))))))), ⟨(fun _ => trivial), (fun _ => trivial)⟩⟩⟩), ⟨(fun _ => trivial), (fun _ => ⟨(fun _ => (k _ j3_)), (fun _ => trivial)⟩)⟩⟩⟩), ⟨True, ⟨(fun j9_ => ⟨(fun _ => hs), (fun _ => (fr_pk_X2_loaded p1_ hs (fun u44 s44 p10_ p11_ => p11_)))⟩), ⟨(fun _ => trivial), (fun _ => ⟨(fun _ => trivial), (fun _ => (fr_pk_X2_lineOf (fun v27 => (fr_pk_X2_fetch p1_ hs (fun s30 p12_ => p12_)))))⟩)⟩⟩⟩⟩⟩))))
theorem fr_pk_X2_typeOf {a0 : Int32} {a1 : Nat} {a2 : Nat} {σ : St} {Q : Int32 → Prop} (ua1 : OPu a1) (ua2 : OPu a2) (k : ∀ (v0 : Int32), Q v0) : pk_X2_typeOf a0 a1 a2 σ Q := by
  unfold pk_X2_typeOf
  exact ⟨(fun _ => (k _)), (fun _ => ⟨(fun _ => ⟨(fun x1_ => True), ⟨(fun y0_35 => fun _ => fun j2_ => ⟨True, ⟨(fun j3_ => ⟨(fun _ => (k _)), (fun _ => ⟨(fun _ => (k _)), (fun _ => (k _))⟩)⟩), ⟨True, ⟨(fun j4_ => ⟨(fun _ => (k _)), (fun _ => (k _))⟩), ⟨True, ⟨(fun j5_ => (fr_pk_X6_fits ua1 (fun v123 => ⟨(fun _ => (k _)), (fun _ => (fr_pk_X6_fits ua2 (fun v134 => ⟨(fun _ => (k _)), (fun _ => (k _))⟩)))⟩))), ⟨(fun _ => ⟨(fun _ => ⟨(fun _ => (k _)), (fun _ => (k _))⟩), (fun _ => (k _))⟩), (fun _ => ⟨(fun _ => ⟨(fun _ => ⟨(fun _ => (k _)), (fun _ => (k _))⟩), (fun _ => (k _))⟩), (fun _ => ⟨(fun _ => trivial), (fun _ => ⟨(fun _ => trivial), (fun _ => ⟨(fun _ => trivial), (fun _ => ⟨(fun _ => trivial), (fun _ => ⟨(fun _ => trivial), (fun _ => ⟨(fun _ => trivial), (fun _ => ⟨(fun _ => trivial), (fun _ => ⟨(fun _ => trivial), (fun _ => ⟨(fun _ => trivial), (fun _ => ⟨(fun _ => trivial), (fun _ => ⟨(fun _ => trivial), (fun _ => ⟨(fun _ => trivial), (fun _ => ⟨(fun _ => (k _)), (fun _ => ⟨(fun _ => (k _)), (fun _ => trivial)⟩)⟩)⟩)⟩)⟩)⟩)⟩)⟩)⟩)⟩)⟩)⟩)⟩)⟩)⟩)⟩⟩⟩⟩⟩⟩⟩), ⟨(fun _ => trivial), (fun _ => trivial)⟩⟩⟩), (fun _ => (k _))⟩)⟩
theorem fr_pk_X6_isConstant {a0 : Nat} {σ : St} {Q : Int32 → Prop} (ua0 : OPu a0) (k : ∀ (v0 : Int32), Q v0) : pk_X6_isConstant a0 σ Q := by
  unfold pk_X6_isConstant
  exact ⟨(fun _ => (k _)), (fun _ => (k _))⟩
theorem fr_pk_X5_compared {a0 : Int32} {a1 : Int32} {a2 : Int32} {σ : St} {Q : Int32 → Prop} (k : ∀ (v0 : Int32), Q v0) : pk_X5_compared a0 a1 a2 σ Q := by
  unfold pk_X5_compared
  exact ⟨(fun _ => ⟨(fun _ => (k _)), (fun _ => (k _))⟩), (fun _ => ⟨(fun _ => ⟨(fun _ => (k _)), (fun _ => (k _))⟩), (fun _ => ⟨(fun _ => ⟨(fun _ => (k _)), (fun _ => (k _))⟩), (fun _ => ⟨(fun _ => ⟨(fun _ => (k _)), (fun _ => (k _))⟩), (fun _ => ⟨(fun _ => ⟨(fun _ => (k _)), (fun _ => (k _))⟩), (fun _ => ⟨(fun _ => ⟨(fun _ => (k _)), (fun _ => (k _))⟩), (fun _ => ⟨(fun _ => ⟨(fun _ => (k _)), (fun _ => (k _))⟩), (fun _ => ⟨(fun _ => ⟨(fun _ => (k _)), (fun _ => (k _))⟩), (fun _ => ⟨(fun _ => ⟨(fun _ => (k _)), (fun _ => (k _))⟩), (fun _ => ⟨(fun _ => ⟨(fun _ => (k _)), (fun _ => (k _))⟩), (fun _ => (k _))⟩)⟩)⟩)⟩)⟩)⟩)⟩)⟩)⟩)⟩
theorem fr_pk_X5_worked {a0 : Int32} {a1 : Int32} {a2 : Int32} {σ : St} {Q : Int32 → Prop} (k : ∀ (v0 : Int32), Q v0) : pk_X5_worked a0 a1 a2 σ Q := by
  unfold pk_X5_worked
  exact ⟨(fun _ => (k _)), (fun _ => ⟨(fun _ => (k _)), (fun _ => ⟨(fun _ => (k _)), (fun _ => ⟨(fun _ => (k _)), (fun _ => ⟨(fun _ => (k _)), (fun _ => ⟨(fun _ => ⟨(fun _ => (fun _ => (k _))), (fun _ => (k _))⟩), (fun _ => ⟨(fun _ => ⟨(fun _ => (fun _ => (k _))), (fun _ => (k _))⟩), (fun _ => ⟨(fun _ => (k _)), (fun _ => ⟨(fun _ => (k _)), (fun _ => ⟨(fun _ => (k _)), (fun _ => (fr_pk_X5_compared (fun v121 => ⟨(fun _ => (k _)), (fun _ => (k _))⟩)))⟩)⟩)⟩)⟩)⟩)⟩)⟩)⟩)⟩)⟩
theorem fr_pk_X2_combine {w : St} {a0 : Int32} {a1 : Nat} {a2 : Nat} {σ : St} {Q : St → Prop} (ua1 : OPu a1) (ua2 : OPu a2) (hs : FRs w σ) (k : ∀ (v0 : St), FRs w v0 → Q v0) : pk_X2_combine a0 a1 a2 σ Q := by
  unfold pk_X2_combine
  exact ⟨(fun x1_ => True), ⟨(fun y0_24 => fun _ => fun j2_ => ⟨(fun x3_ => True), ⟨(fun y0_42 => fun _ => fun j4_ => (fr_pk_X6_isConstant ua1 (fun v45 => ⟨True, ⟨(fun j5_ => ⟨True, ⟨(fun j6_ => ⟨(fun _ => (fun s6n => fun h7_ => (k _ (fr_e h7_ (fr_c hs (frw_op ua1)))))), (fun _ => (fr_pk_X6_isConstant ua1 (fun v133 => ⟨(fun _ => (fun s11n => fun h8_ => (k _ (fr_e h8_ (fr_c hs (frw_op ua1)))))), (fun _ => ⟨(fun _ => (fun s15n => fun h9_ => (k _ (fr_e h9_ (fr_c hs (frw_op ua1)))))), (fun _ => (fun s18n => fun h10_ => (fun s20n => fun h11_ => (fun s22n => fun h12_ => (k _ (fr_e h12_ (fr_c (fr_e h11_ (fr_c (fr_e h10_ (fr_c hs (frw_op ua1))) (frw_op ua1))) (frw_op ua1))))))))⟩)⟩)))⟩), ⟨(fun _ => trivial), (fun _ => ⟨(fun _ => trivial), (fun _ => (fr_pk_X6_isConstant ua2 (fun v101 => ⟨(fun _ => trivial), (fun _ => (fr_pk_X5_worked (fun v117 => (fun s32n => fun h13_ => (k _ (fr_e h13_ (fr_c hs (frw_op ua1))))))))⟩)))⟩)⟩⟩⟩), ⟨(fun _ => trivial), (fun _ => (fr_pk_X6_isConstant ua2 (fun v52 => ⟨(fun _ => trivial), (fun _ => ⟨(fun _ => trivial), (fun _ => ⟨(fun _ => trivial), (fun _ => (fr_pk_X5_worked (fun v78 => (fun s44n => fun h14_ => (k _ (fr_e h14_ (fr_c hs (frw_op ua1))))))))⟩)⟩)⟩)))⟩⟩⟩))), ⟨True, ⟨(fun j15_ => trivial), ⟨(fun _ => trivial), (fun _ => ⟨(fun _ => trivial), (fun _ => trivial)⟩)⟩⟩⟩⟩⟩), ⟨True, ⟨(fun j16_ => trivial), ⟨True, ⟨(fun j17_ => ⟨(fun _ => trivial), (fun _ => trivial)⟩), ⟨(fun _ => trivial), (fun _ => ⟨(fun _ => trivial), (fun _ => trivial)⟩)⟩⟩⟩⟩⟩⟩⟩
theorem fr_pk_X0_cut {w : St} {a1 : Int32} {σ : St} {Q : St → Prop} (hs : FRs w σ) (k : ∀ (v0 : St), FRs w v0 → Q v0) : pk_X0_cut a1 σ Q := by
  unfold pk_X0_cut
  exact (k _ (fr_c hs (frw (by decide))))
theorem fr_pk_X2_fold {w : St} {a1 : Nat} {σ : St} {Q : St → Prop} (ua1 : OPu a1) (hs : FRs w σ) (k : ∀ (v0 : St), FRs w v0 → Q v0) : pk_X2_fold a1 σ Q := by
  unfold pk_X2_fold
  exact ⟨(fun _ => (k _ hs)), (fun _ => (fr_pk_X6_isConstant ua1 (fun v11 => ⟨(fun _ => (k _ hs)), (fun _ => (fr_pk_X0_cut hs (fun s25 p1_ => (fr_pk_X0_emit p1_ (fun v39 s39 p2_ => (k _ p2_))))))⟩)))⟩
theorem fr_pk_X0_aim {w : St} {a1 : Int32} {a2 : Int32} {σ : St} {Q : St → Prop} (hs : FRs w σ) (k : ∀ (v0 : St), FRs w v0 → Q v0) : pk_X0_aim a1 a2 σ Q := by
  unfold pk_X0_aim
  exact ⟨(fun x1_ x2_ x3_ => FRs w x3_), ⟨hs, (fun x3_8 x4_8 s8 => fun j4_ => ⟨(fun _ => (k _ j4_)), (fun _ => ⟨(fun _ => (k _ j4_)), (fun _ => (fr_F j4_ (frw (by decide))))⟩)⟩)⟩⟩
theorem fr_pk_X2_operate {w : St} {a1 : Int32} {a2 : Int32} {a3 : Int32} {σ : St} {Q : St → Prop} (hs : FRs w σ) (k : ∀ (v0 : St), FRs w v0 → Q v0) : pk_X2_operate a1 a2 a3 σ Q := by
  unfold pk_X2_operate
  exact ⟨(fun x1_ => True), ⟨(fun y0_21 => fun _ => fun j2_ => ⟨(fun x3_ => True), ⟨(fun y1_39 => fun j4_ => (fr_pk_X0_emit hs (fun v42 s42 p5_ => (k _ p5_)))), ⟨(fun _ => trivial), (fun _ => trivial)⟩⟩⟩), ⟨True, ⟨(fun j6_ => trivial), ⟨(fun _ => trivial), (fun _ => ⟨(fun _ => trivial), (fun _ => ⟨(fun _ => trivial), (fun _ => trivial)⟩)⟩)⟩⟩⟩⟩⟩
theorem fr_pk_X2_binary {w : St} {a1 : Int32} {σ : St} {Q : St → Prop} (hs : FRs w σ) (k : ∀ (v0 : St), FRs w v0 → Q v0) : pk_X2_binary a1 σ Q := by
  unfold pk_X2_binary
  exact (fr_pk_X2_kindOf (fun v2 => (fr_pk_X2_pop hs (fun u7 s7 p1_ p2_ => (fr_pk_X2_top (fun u12 p3_ => (fr_pk_X2_typeOf p3_ p1_ (fun v21 => ⟨(fun x4_ => FRs w x4_), ⟨(fun s38 => fun j5_ => ⟨(fun x6_ => FRs w x6_), ⟨(fun s108 => fun j7_ => (fr_pk_X2_combine p3_ p1_ j7_ (fun s112 p8_ => (fr_pk_X6_become p3_ p8_ (fun s124 p9_ => (fr_pk_X2_fold p3_ p9_ (fun s130 p10_ => (fr_pk_X2_raise p3_ p10_ (fun s151 p11_ => (k _ p11_)))))))))), ⟨True, ⟨(fun j12_ => (fr_pk_X0_emit j5_ (fun v59 s59 p13_ => (fr_pk_X0_aim p13_ (fun s79 p14_ => p14_))))), ⟨(fun _ => trivial), (fun _ => ⟨(fun _ => ⟨(fun x15_ => True), ⟨(fun y2_100 => fun _ => fun j16_ => (fr_pk_X2_lineOf (fun v102 => (fr_pk_X2_operate j5_ (fun s105 p17_ => p17_))))), ⟨(fun _ => trivial), (fun _ => trivial)⟩⟩⟩), (fun _ => trivial)⟩)⟩⟩⟩⟩⟩), ⟨(fun _ => p2_), (fun _ => (fr_pk_X2_refuse p2_ (fun s35 p18_ => p18_)))⟩⟩⟩))))))))
theorem fr_pk_X2_assign {w : St} {a1 : Int32} {σ : St} {Q : St → Prop} (hs : FRs w σ) (k : ∀ (v0 : St), FRs w v0 → Q v0) : pk_X2_assign a1 σ Q := by
  unfold pk_X2_assign
  exact (fr_pk_X2_kindOf (fun v2 => (fr_pk_X2_pop hs (fun u7 s7 p1_ p2_ => (fr_pk_X2_top (fun u12 p3_ => ⟨(fun x4_ => True), ⟨(fun y0_34 => fun _ => fun j5_ => ⟨(fun x6_ => True), ⟨(fun y0_79 => fun _ => fun j7_ => (fr_pk_X6_isPlace p3_ (fun v83 => ⟨(fun x8_ => FRs w x8_), ⟨(fun s99 => fun j9_ => ⟨(fun x10_ => FRs w x10_), ⟨(fun s119 => fun j11_ => ⟨(fun x12_ => FRs w x12_), ⟨(fun s179 => fun j13_ => (fr_pk_X6_become p3_ j13_ (fun s187 p14_ => (fr_pk_X2_raise p3_ p14_ (fun s208 p15_ => (k _ p15_)))))), ⟨(fun _ => ⟨(fun x16_ => True), ⟨(fun y1_168 => fun j17_ => (fr_pk_X0_emit j11_ (fun v175 s175 p18_ => p18_))), ⟨(fun _ => trivial), (fun _ => trivial)⟩⟩⟩), (fun _ => (fr_pk_X2_lineOf (fun v136 => (fr_pk_X0_emit j11_ (fun v141 s141 p19_ => p19_)))))⟩⟩⟩), ⟨(fun _ => j9_), (fun _ => (fr_pk_X2_lineOf (fun v113 => (fr_pk_X2_operate j9_ (fun s116 p20_ => p20_)))))⟩⟩⟩), ⟨True, ⟨(fun j21_ => (fr_pk_X2_refuse p2_ (fun s96 p22_ => p22_))), ⟨(fun _ => trivial), (fun _ => ⟨(fun _ => p2_), (fun _ => trivial)⟩)⟩⟩⟩⟩⟩))), ⟨(fun _ => ⟨True, ⟨(fun j23_ => trivial), ⟨(fun _ => trivial), (fun _ => ⟨True, ⟨(fun j24_ => trivial), ⟨(fun _ => trivial), (fun _ => ⟨(fun _ => trivial), (fun _ => trivial)⟩)⟩⟩⟩)⟩⟩⟩), (fun _ => (fr_pk_X6_fits p1_ (fun v48 => trivial)))⟩⟩⟩), ⟨True, ⟨(fun j25_ => trivial), ⟨(fun _ => trivial), (fun _ => ⟨(fun _ => trivial), (fun _ => trivial)⟩)⟩⟩⟩⟩⟩))))))
theorem fr_pk_X2_pointed {w : St} {a1 : Nat} {a2 : Int32} {σ : St} {Q : St → Prop} (ua1 : OPu a1) (hs : FRs w σ) (k : ∀ (v0 : St), FRs w v0 → Q v0) : pk_X2_pointed a1 a2 σ Q := by
  unfold pk_X2_pointed
  exact ⟨(fun x1_ => FRs w x1_), ⟨(fun s13 => fun j2_ => (fr_pk_X6_become ua1 j2_ (fun s21 p3_ => (fun s2n => fun h4_ => (fr_pk_X2_lineOf (fun v32 => (fun s5n => fun h5_ => (k _ (fr_e h5_ (fr_c (fr_e h4_ (fr_c p3_ (frw_op ua1))) (frw_op ua1))))))))))), ⟨(fun _ => hs), (fun _ => (fr_pk_X2_refuse hs (fun s10 p6_ => p6_)))⟩⟩⟩
theorem fr_pk_X2_index {w : St} {a1 : Int32} {σ : St} {Q : St → Prop} (hs : FRs w σ) (k : ∀ (v0 : St), FRs w v0 → Q v0) : pk_X2_index a1 σ Q := by
  unfold pk_X2_index
  exact (fr_pk_X2_pop hs (fun u1 s1 p1_ p2_ => (fr_pk_X2_top (fun u6 p3_ => ⟨(fun x4_ => FRs w x4_), ⟨(fun s22 => fun j5_ => (fr_pk_X0_emit j5_ (fun v31 s31 p6_ => (fr_pk_X2_pointed p3_ p6_ (fun s38 p7_ => (fr_pk_X2_raise p3_ p7_ (fun s57 p8_ => (k _ p8_)))))))), ⟨(fun _ => p2_), (fun _ => (fr_pk_X2_refuse p2_ (fun s19 p9_ => p9_)))⟩⟩⟩))))
theorem fr_pk_X2_step {w : St} {a1 : Nat} {a2 : Int32} {a3 : Int32} {σ : St} {Q : St → Prop} (ua1 : OPu a1) (hs : FRs w σ) (k : ∀ (v0 : St), FRs w v0 → Q v0) : pk_X2_step a1 a2 a3 σ Q := by
  unfold pk_X2_step
  exact (fr_pk_X6_isPlace ua1 (fun v1 => ⟨(fun x1_ => FRs w x1_), ⟨(fun s12 => fun j2_ => (fr_pk_X2_kindOf (fun v14 => ⟨(fun x3_ => True), ⟨(fun y0_27 => fun j4_ => ⟨(fun x5_ => True), ⟨(fun y0_39 => fun j6_ => ⟨(fun x7_ => FRs w x7_), ⟨(fun s102 => fun j8_ => (fr_pk_X6_become ua1 j8_ (fun s108 p9_ => (fr_pk_X2_raise ua1 p9_ (fun s120 p10_ => (k _ p10_)))))), ⟨(fun _ => ⟨(fun x11_ => True), ⟨(fun y1_90 => fun j12_ => (fr_pk_X0_emit j2_ (fun v98 s98 p13_ => p13_))), ⟨(fun _ => trivial), (fun _ => trivial)⟩⟩⟩), (fun _ => (fr_pk_X2_lineOf (fun v57 => (fr_pk_X0_emit j2_ (fun v64 s64 p14_ => p14_)))))⟩⟩⟩), ⟨(fun _ => trivial), (fun _ => trivial)⟩⟩⟩), ⟨(fun _ => trivial), (fun _ => trivial)⟩⟩⟩))), ⟨(fun _ => hs), (fun _ => (fr_pk_X2_refuse hs (fun s9 p15_ => p15_)))⟩⟩⟩))
theorem fr_pk_X5_inverted {a0 : Int32} {a1 : Int32} {σ : St} {Q : Int32 → Prop} (k : ∀ (v0 : Int32), Q v0) : pk_X5_inverted a0 a1 σ Q := by
  unfold pk_X5_inverted
  exact ⟨(fun _ => (k _)), (fun _ => ⟨(fun _ => (k _)), (fun _ => ⟨(fun _ => ⟨(fun _ => (k _)), (fun _ => (k _))⟩), (fun _ => ⟨(fun _ => (k _)), (fun _ => (k _))⟩)⟩)⟩)⟩
theorem fr_pk_X2_invert {w : St} {a1 : Nat} {a2 : Int32} {a3 : Int32} {σ : St} {Q : St → Prop} (ua1 : OPu a1) (hs : FRs w σ) (k : ∀ (v0 : St), FRs w v0 → Q v0) : pk_X2_invert a1 a2 a3 σ Q := by
  unfold pk_X2_invert
  exact ⟨(fun x1_ => FRs w x1_), ⟨(fun s29 => fun j2_ => ⟨(fun x3_ => True), ⟨(fun y0_53 => fun j4_ => (fr_pk_X0_emit j2_ (fun v64 s64 p5_ => (fr_pk_X5_inverted (fun v75 => (fun s4n => fun h6_ => (fr_pk_X6_isConstant ua1 (fun v84 => ⟨(fun x7_ => True), ⟨(fun y2_95 => fun _ => fun j8_ => (fr_pk_X6_become ua1 (fr_e h6_ (fr_c p5_ (frw_op ua1))) (fun s95 p9_ => (fr_pk_X2_fold ua1 p9_ (fun s100 p10_ => (k _ p10_)))))), ⟨(fun _ => trivial), (fun _ => trivial)⟩⟩⟩)))))))), ⟨(fun _ => ⟨(fun _ => trivial), (fun _ => trivial)⟩), (fun _ => trivial)⟩⟩⟩), ⟨True, ⟨(fun j11_ => (fr_pk_X2_refuse hs (fun s26 p12_ => p12_))), ⟨(fun _ => ⟨(fun _ => hs), (fun _ => trivial)⟩), (fun _ => ⟨(fun _ => hs), (fun _ => trivial)⟩)⟩⟩⟩⟩⟩
theorem fr_pk_X2_unary {w : St} {a1 : Int32} {σ : St} {Q : St → Prop} (hs : FRs w σ) (k : ∀ (v0 : St), FRs w v0 → Q v0) : pk_X2_unary a1 σ Q := by
  unfold pk_X2_unary
  exact (fr_pk_X2_kindOf (fun v2 => (fr_pk_X2_top (fun u7 p1_ => ⟨True, ⟨(fun j2_ => (fr_pk_X2_step p1_ hs (fun s27 p3_ => (k _ p3_)))), ⟨(fun _ => trivial), (fun _ => ⟨(fun _ => ⟨(fun x4_ => FRs w x4_), ⟨(fun s96 => fun j5_ => (fr_pk_X2_raise p1_ j5_ (fun s105 p6_ => (k _ p6_)))), ⟨(fun _ => ⟨(fun _ => (fr_pk_X2_loaded p1_ hs (fun u88 s88 p7_ p8_ => (fr_pk_X2_invert p7_ p8_ (fun s93 p9_ => p9_))))), (fun _ => (fr_pk_X2_loaded p1_ hs (fun u75 s75 p10_ p11_ => (fr_pk_X2_pointed p10_ p11_ (fun s79 p12_ => p12_)))))⟩), (fun _ => (fr_pk_X6_isPlace p1_ (fun v38 => ⟨(fun x13_ => FRs w x13_), ⟨(fun s58 => fun j14_ => (fr_pk_X2_address p1_ j14_ (fun s60 p15_ => p15_))), ⟨True, ⟨(fun j16_ => (fr_pk_X2_refuse hs (fun s55 p17_ => p17_))), ⟨(fun _ => trivial), (fun _ => ⟨(fun _ => hs), (fun _ => trivial)⟩)⟩⟩⟩⟩⟩)))⟩⟩⟩), (fun _ => trivial)⟩)⟩⟩⟩))))
theorem fr_pk_X2_cast {w : St} {a1 : Int32} {a2 : Int32} {σ : St} {Q : St → Prop} (hs : FRs w σ) (k : ∀ (v0 : St), FRs w v0 → Q v0) : pk_X2_cast a1 a2 σ Q := by
  unfold pk_X2_cast
  exact (fr_pk_X2_top (fun u2 p1_ => (fr_pk_X2_loaded p1_ hs (fun u5 s5 p2_ p3_ => ⟨(fun x4_ => FRs w x4_), ⟨(fun s22 => fun j5_ => (fr_pk_X6_become p2_ j5_ (fun s25 p6_ => (fr_pk_X2_raise p2_ p6_ (fun s37 p7_ => (k _ p7_)))))), ⟨(fun _ => p3_), (fun _ => (fr_pk_X2_refuse p3_ (fun s19 p8_ => p8_)))⟩⟩⟩))))
theorem fr_pk_X2_unless {w : St} {a1 : Nat} {a2 : Int32} {σ : St} {Q : Int32 → St → Prop} (ua1 : OPu a1) (hs : FRs w σ) (k : ∀ (v0 : Int32) (v1 : St), FRs w v1 → Q v0 v1) : pk_X2_unless a1 a2 σ Q := by
  unfold pk_X2_unless
  exact ⟨True, ⟨(fun j1_ => (fr_pk_X0_emit hs (fun v62 s62 p2_ => (k _ _ p2_)))), ⟨(fun _ => trivial), (fun _ => (fr_pk_X6_isConstant ua1 (fun v12 => ⟨(fun _ => trivial), (fun _ => (fr_pk_X0_cut hs (fun s26 p3_ => ⟨(fun _ => (fr_pk_X0_emit p3_ (fun v49 s49 p4_ => (k _ _ p4_)))), (fun _ => (k _ _ p3_))⟩)))⟩)))⟩⟩⟩
theorem fr_pk_X2_colon {w : St} {σ : St} {Q : St → Prop} (hs : FRs w σ) (k : ∀ (v0 : St), FRs w v0 → Q v0) : pk_X2_colon σ Q := by
  unfold pk_X2_colon
  exact (fr_pk_X2_top (fun u2 p1_ => (fr_pk_X2_loaded p1_ hs (fun u5 s5 p2_ p3_ => ⟨(fun x4_ => OPu x4_), ⟨(fun y0_47 => fun _ => fun j5_ => (fr_pk_X0_emit p3_ (fun v57 s57 p6_ => (fr_pk_X0_aim p6_ (fun s76 p7_ => (fun s5n => fun h8_ => (k _ (fr_e h8_ (fr_c p7_ (frw_op j5_)))))))))), ⟨True, ⟨(fun j9_ => op_47), ⟨(fun _ => trivial), (fun _ => ⟨(fun _ => trivial), (fun _ => (fun _ => (op_65 _)))⟩)⟩⟩⟩⟩⟩))))
theorem fr_pk_X2_choice {w : St} {a1 : Int32} {σ : St} {Q : St → Prop} (hs : FRs w σ) (k : ∀ (v0 : St), FRs w v0 → Q v0) : pk_X2_choice a1 σ Q := by
  unfold pk_X2_choice
  exact (fr_pk_X2_pop hs (fun u1 s1 p1_ p2_ => (fr_pk_X2_pop p2_ (fun u6 s6 p3_ p4_ => (fr_pk_X2_top (fun u11 p5_ => (fr_pk_X0_aim p4_ (fun s32 p6_ => ⟨(fun x7_ => FRs w x7_), ⟨(fun s71 => fun j8_ => (fr_pk_X6_become p5_ j8_ (fun s106 p9_ => (fr_pk_X2_raise p5_ p9_ (fun s117 p10_ => (k _ p10_)))))), ⟨True, ⟨(fun j11_ => (fr_pk_X2_refuse p6_ (fun s68 p12_ => p12_))), ⟨(fun _ => trivial), (fun _ => (fr_pk_X6_fits p1_ (fun v49 => ⟨(fun _ => p6_), (fun _ => (fr_pk_X6_fits p3_ (fun v60 => ⟨(fun _ => p6_), (fun _ => trivial)⟩)))⟩)))⟩⟩⟩⟩⟩))))))))
theorem fr_pk_X2_take {w : St} {a1 : Int32} {σ : St} {Q : St → Prop} (hs : FRs w σ) (k : ∀ (v0 : St), FRs w v0 → Q v0) : pk_X2_take a1 σ Q := by
  unfold pk_X2_take
  exact ⟨(fun _ => (fr_pk_X2_number hs (fun s98 p1_ => (k _ p1_)))), (fun _ => ⟨(fun _ => (fr_pk_X2_string hs (fun s106 p2_ => (k _ p2_)))), (fun _ => ⟨(fun _ => (fr_pk_X2_named hs (fun s114 p3_ => (k _ p3_)))), (fun _ => ⟨(fun _ => (fr_pk_X2_callee hs (fun s122 p4_ => (k _ p4_)))), (fun _ => ⟨(fun _ => (fr_pk_X2_argument hs (fun s129 p5_ => (k _ p5_)))), (fun _ => ⟨(fun _ => (fr_pk_X2_call hs (fun s137 p6_ => (k _ p6_)))), (fun _ => ⟨(fun _ => (fr_pk_X2_left hs (fun s145 p7_ => (k _ p7_)))), (fun _ => ⟨(fun _ => (fr_pk_X2_binary hs (fun s153 p8_ => (k _ p8_)))), (fun _ => ⟨(fun _ => (fr_pk_X2_assign hs (fun s161 p9_ => (k _ p9_)))), (fun _ => ⟨(fun _ => (fr_pk_X2_index hs (fun s169 p10_ => (k _ p10_)))), (fun _ => ⟨(fun _ => (fr_pk_X2_unary hs (fun s177 p11_ => (k _ p11_)))), (fun _ => ⟨(fun _ => (fr_pk_X2_cast hs (fun s196 p12_ => (k _ p12_)))), (fun _ => ⟨(fun _ => (fr_pk_X2_top (fun u204 p13_ => (fr_pk_X2_step p13_ hs (fun s209 p14_ => (k _ p14_)))))), (fun _ => ⟨(fun _ => (fr_pk_X2_top (fun u216 p15_ => (fr_pk_X2_top (fun u222 p16_ => (fr_pk_X2_loaded p16_ hs (fun u225 s225 p17_ p18_ => (fr_pk_X2_unless p17_ p18_ (fun v229 s229 p19_ => (fun s45n => fun h20_ => (k _ (fr_e h20_ (fr_c p19_ (frw_op p15_)))))))))))))), (fun _ => ⟨(fun _ => (fr_pk_X2_colon hs (fun s239 p21_ => (k _ p21_)))), (fun _ => (fr_pk_X2_choice hs (fun s247 p22_ => (k _ p22_))))⟩)⟩)⟩)⟩)⟩)⟩)⟩)⟩)⟩)⟩)⟩)⟩)⟩)⟩)⟩
end

section
/-! the grammar of statements, variables, functions and units, as functions of the tokens' kinds -/
abbrev Gsq : Type := Stq × List Stq
def gq (x : Stq) : Gsq := (x, [])
def gqs (l : List Stq) : List Gsq := l.map gq
/-- in the end, given turns enough -/
def EVq {α : Type} (f : Nat → Option α) (R : Option α) : Prop := ∃ N, ∀ n, N ≤ n → f n = R
section EV
variable {α β : Type} {f f2 : Nat → Option α} {R R2 : Option α} {c : Prop}
theorem ev_one (h : EVq f R) (g : EVq f R2) : R = R2 := by
  obtain ⟨N, h⟩ := h
  obtain ⟨M, g⟩ := g
  rw [← h (N + M) (by omega), g (N + M) (by omega)]
theorem ev_c : EVq (fun _ => R) R := ⟨0, fun _ _ => rfl⟩
theorem ev_up (h : EVq (fun n => f (n + 1)) R) : EVq f R := by
  obtain ⟨N, h⟩ := h
  refine ⟨N + 1, fun n hn => ?_⟩
  obtain ⟨n', rfl⟩ : ∃ n', n = n' + 1 := ⟨n - 1, by omega⟩
  exact h n' (by omega)
theorem ev_b {a : α} {g : α → Nat → Option β} {S : Option β} (h : EVq f (some a)) (k : EVq (g a) S) : EVq (fun n => (f n).bind (fun r => g r n)) S := by
  obtain ⟨N, h⟩ := h
  obtain ⟨M, k⟩ := k
  refine ⟨N + M, fun n hn => ?_⟩
  show (f n).bind (fun r => g r n) = S
  rw [h n (by omega)]
  exact k n (by omega)
theorem ev_b0 {g : α → Nat → Option β} (h : EVq f none) : EVq (fun n => (f n).bind (fun r => g r n)) none := by
  obtain ⟨N, h⟩ := h
  refine ⟨N, fun n hn => ?_⟩
  show (f n).bind (fun r => g r n) = none
  rw [h n hn]
  rfl
theorem ev_t [Decidable c] (hc : c) (h : EVq f R) : EVq (fun n => if c then f n else f2 n) R := by
  obtain ⟨N, h⟩ := h
  exact ⟨N, fun n hn => (if_pos hc).trans (h n hn)⟩
theorem ev_f [Decidable c] (hc : ¬ c) (h : EVq f2 R) : EVq (fun n => if c then f n else f2 n) R := by
  obtain ⟨N, h⟩ := h
  exact ⟨N, fun n hn => (if_neg hc).trans (h n hn)⟩
end EV
/-- an expression, 1 deep -/
def EXn (kd : Nat → Int) (n p : Nat) : Option (Nat × List Gsq) := (PEq kd n 0 1 0 p []).bind fun r => some (r.1, gqs r.2)
/-- a condition: behind its word -/
def CNn (kd : Nat → Int) (n : Nat) (act : Int) (w p : Nat) : Option (Nat × List Gsq) :=
  if kd p = 20 then (EXn kd n (p + 1)).bind fun r => if kd r.1 = 21 then some (r.1 + 1, r.2 ++ [gq (stp act w)]) else none else none
/-- a variable's [ ]: where it ends, the size, whether one is given -/
def BKn (kd : Nat → Int) (n p : Nat) : Option (Nat × List Gsq × Int) :=
  if kd (p + 1) = 25 then some (p + 2, [], 0) else (PEq kd n 0 1 0 (p + 1) []).bind fun r => if kd r.1 = 25 then some (r.1 + 1, [((40, p, 0, 0), r.2)], 1) else none
/-- initials in { }: up to behind the }, how many -/
def ITn (kd : Nat → Int) : Nat → Nat → Option (Nat × List Gsq × Nat)
  | 0, _ => none
  | n + 1, p => (EXn kd n p).bind fun r => if kd r.1 = 26 then (ITn kd n (r.1 + 1)).bind fun q => some (q.1, r.2 ++ [gq (stp 44 r.1)] ++ q.2.1, q.2.2 + 1) else if kd r.1 = 23 then some (r.1 + 1, r.2 ++ [gq (stp 44 r.1)], 1) else none
/-- a string that stands alone from p on -/
abbrev ALq (kd : Nat → Int) (p : Nat) : Prop := kd p = 4 ∧ (kd (p + 1) = 26 ∨ kd (p + 1) = 27)
/-- an initial: from its = on; br: behind [ ]; the size that it tells -/
def INn (kd vl : Nat → Int) (n : Nat) (br : Bool) (ty p : Nat) : Option (Nat × List Gsq × Int) :=
  if kd (p + 1) = 22 then (ITn kd n (p + 2)).bind fun r => some (r.1, r.2.1 ++ [gq (46, p, 1, 0)], (r.2.2 : Int))
  else if br = true ∧ ALq kd (p + 1) ∧ ty = 0 then some (p + 2, [gq (stp 45 (p + 1)), gq (46, p, 2, 0)], vl (p + 1) + 1)
  else (EXn kd n (p + 1)).bind fun r => some (r.1, r.2 ++ [gq (stp 46 p)], if br = true ∧ ALq kd (p + 1) then vl (p + 1) + 1 else 0)
/-- one variable: from behind its name -/
def V1n (kd vl : Nat → Int) (n : Nat) (lk : Int) (name ty p : Nat) : Option (Nat × List Gsq) :=
  if kd p = 24 then (BKn kd n p).bind fun b => if kd b.1 = 30 then (INn kd vl n true ty b.1).bind fun r => some (r.1, b.2.1 ++ [gq (42, p, b.2.2, r.2.2)] ++ [gq (43, name, (ty : Int), lk + 4)] ++ r.2.1) else some (b.1, b.2.1 ++ [gq (42, p, b.2.2, 0)] ++ [gq (43, name, (ty : Int), lk)])
  else if kd p = 30 then (INn kd vl n false ty p).bind fun r => some (r.1, [gq (43, name, (ty : Int), lk + 4)] ++ r.2.1) else some (p, [gq (43, name, (ty : Int), lk)])
/-- variables: from behind the first one's name -/
def VSn (kd vl : Nat → Int) : Nat → Int → Nat → Nat → Nat → Option (Nat × List Gsq)
  | 0, _, _, _, _ => none
  | n + 1, lk, name, ty, p => (V1n kd vl n lk name ty p).bind fun r => if kd r.1 = 26 then (SRq kd 5 (r.1 + 1)).bind fun t => if kd t.2 = 2 then (VSn kd vl n lk t.2 t.1 (t.2 + 1)).bind fun q => some (q.1, r.2 ++ q.2) else none else if kd r.1 = 27 then some (r.1 + 1, r.2) else none
/-- what stands between a for and its body -/
def FHn (kd : Nat → Int) (n p : Nat) : Option (Nat × List Gsq) :=
  if kd (p + 1) = 20 then
    (if kd (p + 2) = 27 then some (p + 2, []) else (EXn kd n (p + 2)).bind fun r => some (r.1, r.2 ++ [gq (stp 22 p)])).bind fun a => if kd a.1 = 27 then
      (if kd (a.1 + 1) = 27 then some (a.1 + 1, [], (0 : Int)) else (EXn kd n (a.1 + 1)).bind fun r => some (r.1, r.2, 1)).bind fun t => if kd t.1 = 27 then
        (if kd (t.1 + 1) = 21 then some (t.1 + 1, []) else (EXn kd n (t.1 + 1)).bind fun r => some (r.1, r.2 ++ [gq (stp 22 p)])).bind fun l => if kd l.1 = 21 then some (l.1 + 1, a.2 ++ [gq (stp 32 p)] ++ t.2.1 ++ [gq (33, p, t.2.2, 0)] ++ l.2 ++ [gq (stp 34 p)]) else none
      else none
    else none
  else none
/-- statements: 0 one, 1 up to a }, 2 a body -/
def STn (kd vl : Nat → Int) : Nat → Nat → Nat → Nat → Option (Nat × List Gsq)
  | 0, _, _, _ => none
  | n + 1, sel, d, p =>
    match sel with
    | 0 => if 25 < d then none
      else if kd p = 22 then (STn kd vl n 1 (d + 1) (p + 1)).bind fun r => some (r.1, [gq (stp 20 p)] ++ r.2 ++ [gq (stp 21 p)])
      else if kd p = 27 then some (p + 1, [])
      else if kd p = 5 then (SRq kd 5 (p + 1)).bind fun t => if kd t.2 = 2 then VSn kd vl n 0 t.2 t.1 (t.2 + 1) else none
      else if kd p = 9 then (CNn kd n 23 p (p + 1)).bind fun c => (STn kd vl n 2 d c.1).bind fun b => if kd b.1 = 10 then (STn kd vl n 2 d (b.1 + 1)).bind fun e => some (e.1, c.2 ++ b.2 ++ [gq (stp 24 p)] ++ e.2 ++ [gq (stp 25 p)]) else some (b.1, c.2 ++ b.2 ++ [gq (stp 25 p)])
      else if kd p = 11 then (CNn kd n 27 p (p + 1)).bind fun c => (STn kd vl n 2 d c.1).bind fun b => some (b.1, [gq (stp 26 p)] ++ c.2 ++ b.2 ++ [gq (stp 28 p)])
      else if kd p = 12 then (STn kd vl n 2 d (p + 1)).bind fun b => if kd b.1 = 11 then (CNn kd n 31 b.1 (b.1 + 1)).bind fun c => if kd c.1 = 27 then some (c.1 + 1, [gq (stp 29 p)] ++ b.2 ++ [gq (stp 30 b.1)] ++ c.2) else none else none
      else if kd p = 13 then (FHn kd n p).bind fun h => (STn kd vl n 2 d h.1).bind fun b => some (b.1, h.2 ++ b.2 ++ [gq (stp 35 p)])
      else if kd p = 14 then (if kd (p + 1) = 27 then some (p + 2, [gq (stp 36 p)]) else none)
      else if kd p = 15 then (if kd (p + 1) = 27 then some (p + 2, [gq (stp 37 p)]) else none)
      else if kd p = 16 then (if kd (p + 1) = 27 then some (p + 2, [gq (stp 38 p)]) else (EXn kd n (p + 1)).bind fun r => if kd r.1 = 27 then some (r.1 + 1, r.2 ++ [gq (38, p, 1, 0)]) else none)
      else (EXn kd n p).bind fun r => if kd r.1 = 27 then some (r.1 + 1, r.2 ++ [gq (stp 22 p)]) else none
    | 1 => if kd p = 23 then some (p + 1, []) else (STn kd vl n 0 d p).bind fun r => (STn kd vl n 1 d r.1).bind fun q => some (q.1, r.2 ++ q.2)
    | _ => (STn kd vl n 0 (d + 1) p).bind fun r => some (r.1, [gq (stp 20 p)] ++ r.2 ++ [gq (stp 21 r.1)])
/-- parameters: each one's type and where its name stands, or what is there instead -/
def PMn (kd : Nat → Int) : Nat → Nat → Option (Nat × List (Nat × Nat))
  | 0, _ => none
  | k + 1, p => if kd p = 5 then (SRq kd 5 (p + 1)).bind fun t =>
      (if kd (if kd t.2 = 2 then t.2 + 1 else t.2) = 24 then (if kd ((if kd t.2 = 2 then t.2 + 1 else t.2) + 1) = 25 then some ((if kd t.2 = 2 then t.2 + 1 else t.2) + 2, t.1 + 1) else none) else some ((if kd t.2 = 2 then t.2 + 1 else t.2), t.1)).bind fun e =>
        if kd e.1 = 26 then (PMn kd k (e.1 + 1)).bind fun r => some (r.1, (e.2, if kd t.2 = 2 then t.2 else e.1) :: r.2) else some (e.1, [(e.2, if kd t.2 = 2 then t.2 else e.1)])
    else none
/-- a function's ( ): where it ends, its parameters -/
def HDn (kd : Nat → Int) (p : Nat) : Option (Nat × List (Nat × Nat)) :=
  if kd p = 20 then (if kd (p + 1) = 6 then some (p + 2, []) else if kd (p + 1) = 21 then some (p + 1, []) else PMn kd 8 (p + 1)).bind fun r => if kd r.1 = 21 then some (r.1 + 1, r.2) else none else none
def FUn (kd vl : Nat → Int) (n : Nat) (lk res : Int) (name p : Nat) : Option (Nat × List Gsq) :=
  (HDn kd p).bind fun h => if kd h.1 = 22 then (STn kd vl n 1 1 (h.1 + 1)).bind fun b => some (b.1, [gq (47, name, sgI h.2, (res + 1) * 8 + lk + 4)] ++ h.2.map (fun x => gq (48, x.2, (x.1 : Int), 0)) ++ b.2 ++ [gq (stp 49 name)]) else if kd h.1 = 27 then some (h.1 + 1, [gq (47, name, sgI h.2, (res + 1) * 8 + lk)]) else none
/-- an item: behind its linkage -/
def I1n (kd vl : Nat → Int) (n : Nat) (lk : Int) (p : Nat) : Option (Nat × List Gsq) :=
  if kd p = 6 then (if kd (p + 1) = 2 then FUn kd vl n lk (-1) (p + 1) (p + 2) else none)
  else if kd p = 5 then (SRq kd 5 (p + 1)).bind fun t => if kd t.2 = 2 then (if kd (t.2 + 1) = 20 then FUn kd vl n lk (t.1 : Int) t.2 (t.2 + 1) else VSn kd vl n lk t.2 t.1 (t.2 + 1)) else none
  else none
def lkq (k : Int) : Int := if k = 7 then 1 else if k = 8 then 2 else 0
def UNn (kd vl : Nat → Int) : Nat → Nat → Option (List Gsq)
  | 0, _ => none
  | n + 1, p => if kd p = 0 then some [] else (I1n kd vl n (lkq (kd p)) (if lkq (kd p) = 0 then p else p + 1)).bind fun r => (UNn kd vl n r.1).bind fun l => some (r.2 ++ l)
/-- the table's rows of the steps, from the o-th on -/
def fltq : Nat → List Gsq → List Stq
  | _, [] => []
  | o, x :: l => if x.1.1 = 40 then [(40, x.1.2.1, (o : Int) + 1 + (x.2.length : Int), 0)] ++ x.2 ++ [stp 41 x.1.2.1] ++ fltq (o + x.2.length + 2) l else x.1 :: fltq (o + 1) l
section FLT
variable {o : Nat} {a b : List Gsq} {x : Stq} {l : List Stq}
theorem flt_len : ∀ {a : List Gsq} {o o2 : Nat}, (fltq o a).length = (fltq o2 a).length
  | [], _, _ => rfl
  | x :: l, o, o2 => by
    unfold fltq
    by_cases c : x.1.1 = 40
    · rw [if_pos c, if_pos c]
      simp only [List.length_append, List.length_cons, List.length_nil]
      rw [flt_len (a := l) (o := o + x.2.length + 2) (o2 := o2 + x.2.length + 2)]
    · rw [if_neg c, if_neg c]
      simp only [List.length_cons]
      rw [flt_len (a := l) (o := o + 1) (o2 := o2 + 1)]
theorem flt_app : ∀ {a : List Gsq} {o : Nat}, fltq o (a ++ b) = fltq o a ++ fltq (o + (fltq o a).length) b
  | [], o => by
    show fltq o b = [] ++ fltq (o + 0) b
    rfl
  | x :: l, o => by
    show fltq o (x :: (l ++ b)) = _
    by_cases c : x.1.1 = 40
    · have e1 : ∀ m, fltq o (x :: m) = [(40, x.1.2.1, (o : Int) + 1 + (x.2.length : Int), 0)] ++ x.2 ++ [stp 41 x.1.2.1] ++ fltq (o + x.2.length + 2) m := fun m => by rw [fltq, if_pos c]
      rw [e1, e1, flt_app (a := l) (o := o + x.2.length + 2)]
      simp only [List.append_assoc, List.length_append, List.length_cons, List.length_nil]
      rw [show o + x.2.length + 2 + (fltq (o + x.2.length + 2) l).length = o + (0 + 1 + (x.2.length + (0 + 1 + (fltq (o + x.2.length + 2) l).length))) from by omega]
    · have e1 : ∀ m, fltq o (x :: m) = x.1 :: fltq (o + 1) m := fun m => by rw [fltq, if_neg c]
      rw [e1, e1, flt_app (a := l) (o := o + 1)]
      show x.1 :: (fltq (o + 1) l ++ fltq (o + 1 + (fltq (o + 1) l).length) b) = x.1 :: (fltq (o + 1) l ++ fltq (o + ((fltq (o + 1) l).length + 1)) b)
      rw [show o + 1 + (fltq (o + 1) l).length = o + ((fltq (o + 1) l).length + 1) from by omega]
/-- steps of expressions stand as they are -/
theorem flt_gqs : ∀ {l : List Stq} {o : Nat}, (∀ y, y ∈ l → y.1 ≠ 40) → fltq o (gqs l) = l
  | [], _, _ => rfl
  | x :: l, o, h => by
    show fltq o (gq x :: gqs l) = x :: l
    have c : ¬ ((gq x).1.1 = 40) := h x (List.mem_cons_self ..)
    rw [fltq, if_neg c, flt_gqs (fun y hy => h y (List.mem_cons_of_mem _ hy))]
    rfl
theorem flt_one (c : x.1 ≠ 40) : fltq o [gq x] = [x] := by
  have c' : ¬ ((gq x).1.1 = 40) := c
  rw [fltq, if_neg c']
  rfl
end FLT
end

section
/-! the grammar of expressions: by its paths -/
def PIq (kd : Nat → Int) (C : Nat → Nat → Nat → Nat → List Stq → Nat → List Stq → Prop) : Prop :=
  (∀ d m p L p1 L1, C 1 d 0 p L p1 L1 → ¬ (30 ≤ kd p1 ∧ kd p1 ≤ 40) → C 0 d m p L p1 L1)
  ∧ (∀ d m p L p1 L1 p2 L2, C 1 d 0 p L p1 L1 → (30 ≤ kd p1 ∧ kd p1 ≤ 40) → d < 25 → C 0 (d + 1) 0 (p1 + 1) (L1 ++ [stp 7 p1]) p2 L2 → C 0 d m p L p2 (L2 ++ [stp 9 p1]))
  ∧ (∀ d m p L p1 L1, C 7 d 1 p L p1 L1 → kd p1 ≠ 28 → C 1 d m p L p1 L1)
  ∧ (∀ d m p L p1 L1 p2 L2 p3 L3, C 7 d 1 p L p1 L1 → kd p1 = 28 → d < 25 → C 0 (d + 1) 0 (p1 + 1) (L1 ++ [stp 14 p1]) p2 L2 → kd p2 = 29 → C 1 (d + 1) 0 (p2 + 1) (L2 ++ [stp 15 p1]) p3 L3 → C 1 d m p L p3 (L3 ++ [stp 16 p1]))
  ∧ (∀ d m p L p1 L1, UNq (kd p) → d < 25 → C 2 (d + 1) 0 (p + 1) L p1 L1 → C 2 d m p L p1 (L1 ++ [stp 11 p]))
  ∧ (∀ d m p L i p1 p2 L2, (kd p = 20 ∧ kd (p + 1) = 5) → d < 25 → SRq kd 5 (p + 2) = some (i, p1) → kd p1 = 21 → C 2 (d + 1) 0 (p1 + 1) L p2 L2 → C 2 d m p L p2 (L2 ++ [(12, p, (i : Int), 0)]))
  ∧ (∀ d m p L p1 L1 p2 L2, ¬ UNq (kd p) → ¬ (kd p = 20 ∧ kd (p + 1) = 5) → C 4 d 0 p L p1 L1 → C 6 d 0 p1 L1 p2 L2 → C 2 d m p L p2 L2)
  ∧ (∀ d m p L, kd p = 3 → C 4 d m p L (p + 1) (L ++ [stp 1 p])) ∧ (∀ d m p L, kd p = 4 → C 4 d m p L (p + 1) (L ++ [stp 2 p])) ∧ (∀ d m p L, kd p = 2 → kd (p + 1) ≠ 20 → C 4 d m p L (p + 1) (L ++ [stp 3 p]))
  ∧ (∀ d m p L, kd p = 2 → kd (p + 1) = 20 → d < 25 → kd (p + 2) = 21 → C 4 d m p L (p + 3) (L ++ [stp 4 p] ++ [stp 6 p]))
  ∧ (∀ d m p L p1 L1, kd p = 2 → kd (p + 1) = 20 → d < 25 → kd (p + 2) ≠ 21 → C 5 d p (p + 2) (L ++ [stp 4 p]) p1 L1 → C 4 d m p L p1 L1)
  ∧ (∀ d m p L p1 L1, kd p = 20 → d < 25 → C 0 (d + 1) 0 (p + 1) L p1 L1 → kd p1 = 21 → C 4 d m p L (p1 + 1) L1)
  ∧ (∀ d m p L p1 L1 p2 L2, C 0 (d + 1) 0 p L p1 L1 → kd p1 = 26 → C 5 d m (p1 + 1) (L1 ++ [stp 5 m]) p2 L2 → C 5 d m p L p2 L2)
  ∧ (∀ d m p L p1 L1, C 0 (d + 1) 0 p L p1 L1 → kd p1 = 21 → C 5 d m p L (p1 + 1) (L1 ++ [stp 5 m] ++ [stp 6 m]))
  ∧ (∀ d m p L p1 L1 p2 L2, kd p = 24 → d < 25 → C 0 (d + 1) 0 (p + 1) (L ++ [stp 7 p]) p1 L1 → kd p1 = 25 → C 6 d 0 (p1 + 1) (L1 ++ [stp 10 p]) p2 L2 → C 6 d m p L p2 L2)
  ∧ (∀ d m p L p1 L1, (kd p = 61 ∨ kd p = 62) → C 6 d 0 (p + 1) (L ++ [stp 13 p]) p1 L1 → C 6 d m p L p1 L1)
  ∧ (∀ d m p L, (kd p ≠ 24 ∧ kd p ≠ 61 ∧ kd p ≠ 62) → C 6 d m p L p L)
  ∧ (∀ d m p L p1 L1 p2 L2, C 2 d 0 p L p1 L1 → C 8 d m p1 L1 p2 L2 → C 7 d m p L p2 L2)
  ∧ (∀ d (m : Nat) p L, ¬ (m : Int) ≤ lvq (kd p) → C 8 d m p L p L)
  ∧ (∀ d (m : Nat) p L p1 L1 p2 L2, (m : Int) ≤ lvq (kd p) → C 7 d ((lvq (kd p)).toNat + 1) (p + 1) (L ++ [stp 7 p]) p1 L1 → C 8 d m p1 (L1 ++ [stp 8 p]) p2 L2 → C 8 d m p L p2 L2)
theorem bind_in {α β : Type} {o : Option α} {f : α → Option β} {b : β} (h : o.bind f = some b) : ∃ a, o = some a ∧ f a = some b := by
  cases o with
  | none => exact absurd h (by intro e; cases e)
  | some a => exact ⟨a, rfl, h⟩
theorem pe_ind {kd : Nat → Int} {C : Nat → Nat → Nat → Nat → List Stq → Nat → List Stq → Prop} (hC : PIq kd C) : ∀ n sel d m p L p' L', PEq kd n sel d m p L = some (p', L') → C sel d m p L p' L' := by
  obtain ⟨e1, e2, c1, c2, u1, u2, u3, k3, k4, k2, q1, q2, r1, a1, a2, h1, h2, h3, l1, l2, l3⟩ := hC
  intro n
  induction n with
  | zero => exact fun _ _ _ _ _ _ _ h => absurd h (by intro e; cases e)
  | succ n ih =>
    intro sel d m p L p' L' h
    match sel with
    | 0 =>
      rw [peq_0] at h
      obtain ⟨⟨p1, L1⟩, g, h⟩ := bind_in h
      have i1 := ih _ _ _ _ _ _ _ g
      by_cases c : 30 ≤ kd p1 ∧ kd p1 ≤ 40
      · replace h := (if_pos c).symm.trans h
        by_cases hd : d < 25
        · replace h := (if_pos hd).symm.trans h
          obtain ⟨⟨p2, L2⟩, g2, h⟩ := bind_in h
          cases h
          exact e2 _ _ _ _ _ _ _ _ i1 c hd (ih _ _ _ _ _ _ _ g2)
        · replace h := (if_neg hd).symm.trans h
          cases h
      · replace h := (if_neg c).symm.trans h
        cases h
        exact e1 _ _ _ _ _ _ i1 c
    | 1 =>
      rw [peq_1] at h
      obtain ⟨⟨p1, L1⟩, g, h⟩ := bind_in h
      have i1 := ih _ _ _ _ _ _ _ g
      by_cases c : kd p1 = 28
      · replace h := (if_pos c).symm.trans h
        by_cases hd : d < 25
        · replace h := (if_pos hd).symm.trans h
          obtain ⟨⟨p2, L2⟩, g2, h⟩ := bind_in h
          by_cases c2' : kd p2 = 29
          · replace h := (if_pos c2').symm.trans h
            obtain ⟨⟨p3, L3⟩, g3, h⟩ := bind_in h
            cases h
            exact c2 _ _ _ _ _ _ _ _ _ _ i1 c hd (ih _ _ _ _ _ _ _ g2) c2' (ih _ _ _ _ _ _ _ g3)
          · replace h := (if_neg c2').symm.trans h
            cases h
        · replace h := (if_neg hd).symm.trans h
          cases h
      · replace h := (if_neg c).symm.trans h
        cases h
        exact c1 _ _ _ _ _ _ i1 c
    | 2 =>
      rw [peq_2] at h
      by_cases c : UNq (kd p)
      · rw [if_pos c] at h
        by_cases hd : d < 25
        · rw [if_pos hd] at h
          obtain ⟨⟨p1, L1⟩, g, h⟩ := bind_in h
          cases h
          exact u1 _ _ _ _ _ _ c hd (ih _ _ _ _ _ _ _ g)
        · rw [if_neg hd] at h
          cases h
      · rw [if_neg c] at h
        by_cases c5 : kd p = 20 ∧ kd (p + 1) = 5
        · rw [if_pos c5] at h
          by_cases hd : d < 25
          · rw [if_pos hd] at h
            obtain ⟨⟨i, p1⟩, g, h⟩ := bind_in h
            by_cases c6 : kd p1 = 21
            · replace h := (if_pos c6).symm.trans h
              obtain ⟨⟨p2, L2⟩, g2, h⟩ := bind_in h
              cases h
              exact u2 _ _ _ _ _ _ _ _ c5 hd g c6 (ih _ _ _ _ _ _ _ g2)
            · replace h := (if_neg c6).symm.trans h
              cases h
          · rw [if_neg hd] at h
            cases h
        · rw [if_neg c5] at h
          obtain ⟨⟨p1, L1⟩, g, h⟩ := bind_in h
          exact u3 _ _ _ _ _ _ _ _ c c5 (ih _ _ _ _ _ _ _ g) (ih _ _ _ _ _ _ _ h)
    | 3 => cases h
    | 4 =>
      rw [peq_4] at h
      by_cases c3 : kd p = 3
      · rw [if_pos c3] at h
        cases h
        exact k3 _ _ _ _ c3
      rw [if_neg c3] at h
      by_cases c4 : kd p = 4
      · rw [if_pos c4] at h
        cases h
        exact k4 _ _ _ _ c4
      rw [if_neg c4] at h
      by_cases c2' : kd p = 2
      · rw [if_pos c2'] at h
        by_cases c20 : kd (p + 1) = 20
        · rw [if_pos c20] at h
          by_cases hd : d < 25
          · rw [if_pos hd] at h
            by_cases c21 : kd (p + 2) = 21
            · rw [if_pos c21] at h
              cases h
              exact q1 _ _ _ _ c2' c20 hd c21
            · rw [if_neg c21] at h
              exact q2 _ _ _ _ _ _ c2' c20 hd c21 (ih _ _ _ _ _ _ _ h)
          · rw [if_neg hd] at h
            cases h
        · rw [if_neg c20] at h
          cases h
          exact k2 _ _ _ _ c2' c20
      rw [if_neg c2'] at h
      by_cases c20 : kd p = 20
      · rw [if_pos c20] at h
        by_cases hd : d < 25
        · rw [if_pos hd] at h
          obtain ⟨⟨p1, L1⟩, g, h⟩ := bind_in h
          by_cases c21 : kd p1 = 21
          · replace h := (if_pos c21).symm.trans h
            cases h
            exact r1 _ _ _ _ _ _ c20 hd (ih _ _ _ _ _ _ _ g) c21
          · replace h := (if_neg c21).symm.trans h
            cases h
        · rw [if_neg hd] at h
          cases h
      · rw [if_neg c20] at h
        cases h
    | 5 =>
      rw [peq_5] at h
      obtain ⟨⟨p1, L1⟩, g, h⟩ := bind_in h
      have i1 := ih _ _ _ _ _ _ _ g
      by_cases c : kd p1 = 26
      · replace h := (if_pos c).symm.trans h
        exact a1 _ _ _ _ _ _ _ _ i1 c (ih _ _ _ _ _ _ _ h)
      · replace h := (if_neg c).symm.trans h
        by_cases c21 : kd p1 = 21
        · replace h := (if_pos c21).symm.trans h
          cases h
          exact a2 _ _ _ _ _ _ i1 c21
        · replace h := (if_neg c21).symm.trans h
          cases h
    | 6 =>
      rw [peq_6] at h
      by_cases c : kd p = 24
      · rw [if_pos c] at h
        by_cases hd : d < 25
        · rw [if_pos hd] at h
          obtain ⟨⟨p1, L1⟩, g, h⟩ := bind_in h
          by_cases c25 : kd p1 = 25
          · replace h := (if_pos c25).symm.trans h
            exact h1 _ _ _ _ _ _ _ _ c hd (ih _ _ _ _ _ _ _ g) c25 (ih _ _ _ _ _ _ _ h)
          · replace h := (if_neg c25).symm.trans h
            cases h
        · rw [if_neg hd] at h
          cases h
      · rw [if_neg c] at h
        by_cases c6 : kd p = 61 ∨ kd p = 62
        · rw [if_pos c6] at h
          exact h2 _ _ _ _ _ _ c6 (ih _ _ _ _ _ _ _ h)
        · rw [if_neg c6] at h
          cases h
          exact h3 _ _ _ _ ⟨c, fun e => c6 (Or.inl e), fun e => c6 (Or.inr e)⟩
    | 7 =>
      rw [peq_7] at h
      obtain ⟨⟨p1, L1⟩, g, h⟩ := bind_in h
      exact l1 _ _ _ _ _ _ _ _ (ih _ _ _ _ _ _ _ g) (ih _ _ _ _ _ _ _ h)
    | 8 =>
      rw [peq_8] at h
      by_cases c : (m : Int) ≤ lvq (kd p)
      · rw [if_pos c] at h
        obtain ⟨⟨p1, L1⟩, g, h⟩ := bind_in h
        exact l3 _ _ _ _ _ _ _ _ c (ih _ _ _ _ _ _ _ g) (ih _ _ _ _ _ _ _ h)
      · rw [if_neg c] at h
        cases h
        exact l2 _ _ _ _ c
    | k + 9 => cases h
section PRE
variable {kd : Nat → Int} {sel d m p p' : Nat} {L L' : List Stq}
/-- what is before stays, and doesn't matter -/
def Cpre (kd : Nat → Int) (sel d m p : Nat) (L : List Stq) (p' : Nat) (L' : List Stq) : Prop := ∃ l, L' = L ++ l ∧ ∀ M, PVq kd sel d m p M (some (p', M ++ l))
theorem pre_1 {l : List Stq} {y : Stq} (h : L' = L ++ [y] ++ l) : L' = L ++ ([y] ++ l) := by rw [h, List.append_assoc]
theorem pi_pre : PIq kd (Cpre kd) := by
  refine ⟨?_, ?_, ?_, ?_, ?_, ?_, ?_, ?_, ?_, ?_, ?_, ?_, ?_, ?_, ?_, ?_, ?_, ?_, ?_, ?_, ?_⟩
  · rintro d m p L p1 L1 ⟨l, e, h⟩ c
    exact ⟨l, e, fun M => pv_e1 (h M) c⟩
  · rintro d m p L p1 L1 p2 L2 ⟨l, rfl, h⟩ c hd ⟨l2, rfl, h2⟩
    refine ⟨l ++ [stp 7 p1] ++ l2 ++ [stp 9 p1], by simp only [List.append_assoc], fun M => ?_⟩
    have := pv_e3 (m := m) (h M) c hd (h2 (M ++ l ++ [stp 7 p1]))
    simp only [Option.bind, List.append_assoc] at this ⊢
    exact this
  · rintro d m p L p1 L1 ⟨l, e, h⟩ c
    exact ⟨l, e, fun M => pv_c1 (h M) c⟩
  · rintro d m p L p1 L1 p2 L2 p3 L3 ⟨l, rfl, h⟩ c hd ⟨l2, rfl, h2⟩ c2 ⟨l3, rfl, h3⟩
    refine ⟨l ++ [stp 14 p1] ++ l2 ++ [stp 15 p1] ++ l3 ++ [stp 16 p1], by simp only [List.append_assoc], fun M => ?_⟩
    have := pv_c5 (m := m) (h M) c hd (h2 (M ++ l ++ [stp 14 p1])) c2 (h3 (M ++ l ++ [stp 14 p1] ++ l2 ++ [stp 15 p1]))
    simp only [Option.bind, List.append_assoc] at this ⊢
    exact this
  · rintro d m p L p1 L1 c hd ⟨l, rfl, h⟩
    refine ⟨l ++ [stp 11 p], by simp only [List.append_assoc], fun M => ?_⟩
    have := pv_u1 (m := m) c hd (h M)
    simp only [Option.bind, List.append_assoc] at this ⊢
    exact this
  · rintro d m p L i p1 p2 L2 c hd hs c2 ⟨l, rfl, h⟩
    refine ⟨l ++ [(12, p, (i : Int), 0)], by simp only [List.append_assoc], fun M => ?_⟩
    have := pv_t3 (m := m) c hd hs c2 (h M)
    simp only [Option.bind, List.append_assoc] at this ⊢
    exact this
  · rintro d m p L p1 L1 p2 L2 c c2 ⟨l, rfl, h⟩ ⟨l2, rfl, h2⟩
    refine ⟨l ++ l2, by simp only [List.append_assoc], fun M => ?_⟩
    have := pv_b1 (m := m) c c2 (h M) (h2 (M ++ l))
    simp only [List.append_assoc] at this ⊢
    exact this
  · exact fun d m p L c => ⟨_, rfl, fun M => pv_p3 c⟩
  · exact fun d m p L c => ⟨_, rfl, fun M => pv_p4 c⟩
  · exact fun d m p L c c2 => ⟨_, rfl, fun M => pv_p2 c c2⟩
  · exact fun d m p L c c2 hd c3 => ⟨[stp 4 p] ++ [stp 6 p], by simp only [List.append_assoc], fun M => by
      have := pv_k1 (m := m) (L := M) c c2 hd c3
      simp only [List.append_assoc] at this ⊢
      exact this⟩
  · rintro d m p L p1 L1 c c2 hd c3 ⟨l, rfl, h⟩
    refine ⟨[stp 4 p] ++ l, by simp only [List.append_assoc], fun M => ?_⟩
    have := pv_k2 (m := m) c c2 hd c3 (h (M ++ [stp 4 p]))
    simp only [List.append_assoc] at this ⊢
    exact this
  · rintro d m p L p1 L1 c hd ⟨l, e, h⟩ c2
    exact ⟨l, e, fun M => pv_r3 c hd (h M) c2⟩
  · rintro d m p L p1 L1 p2 L2 ⟨l, rfl, h⟩ c ⟨l2, rfl, h2⟩
    refine ⟨l ++ [stp 5 m] ++ l2, by simp only [List.append_assoc], fun M => ?_⟩
    have := pv_a1 (h M) c (h2 (M ++ l ++ [stp 5 m]))
    simp only [List.append_assoc] at this ⊢
    exact this
  · rintro d m p L p1 L1 ⟨l, rfl, h⟩ c
    refine ⟨l ++ [stp 5 m] ++ [stp 6 m], by simp only [List.append_assoc], fun M => ?_⟩
    have := pv_a2 (m := m) (h M) c
    simp only [List.append_assoc] at this ⊢
    exact this
  · rintro d m p L p1 L1 p2 L2 c hd ⟨l, rfl, h⟩ c2 ⟨l2, rfl, h2⟩
    refine ⟨[stp 7 p] ++ l ++ [stp 10 p] ++ l2, by simp only [List.append_assoc], fun M => ?_⟩
    have := pv_h3 (m := m) c hd (h (M ++ [stp 7 p])) c2 (h2 (M ++ [stp 7 p] ++ l ++ [stp 10 p]))
    simp only [List.append_assoc] at this ⊢
    exact this
  · rintro d m p L p1 L1 c ⟨l, rfl, h⟩
    refine ⟨[stp 13 p] ++ l, by simp only [List.append_assoc], fun M => ?_⟩
    have := pv_h4 (m := m) c (h (M ++ [stp 13 p]))
    simp only [List.append_assoc] at this ⊢
    exact this
  · exact fun d m p L c => ⟨[], (List.append_nil _).symm, fun M => by rw [List.append_nil]; exact pv_h5 c⟩
  · rintro d m p L p1 L1 p2 L2 ⟨l, rfl, h⟩ ⟨l2, rfl, h2⟩
    refine ⟨l ++ l2, by simp only [List.append_assoc], fun M => ?_⟩
    have := pv_l1 (m := m) (h M) (h2 (M ++ l))
    simp only [List.append_assoc] at this ⊢
    exact this
  · exact fun d m p L c => ⟨[], (List.append_nil _).symm, fun M => by rw [List.append_nil]; exact pv_l2 c⟩
  · rintro d m p L p1 L1 p2 L2 c ⟨l, rfl, h⟩ ⟨l2, rfl, h2⟩
    refine ⟨[stp 7 p] ++ l ++ [stp 8 p] ++ l2, by simp only [List.append_assoc], fun M => ?_⟩
    have := pv_l4 c (h (M ++ [stp 7 p])) (h2 (M ++ [stp 7 p] ++ l ++ [stp 8 p]))
    simp only [List.append_assoc] at this ⊢
    exact this
theorem pv_ind {C : Nat → Nat → Nat → Nat → List Stq → Nat → List Stq → Prop} (hC : PIq kd C) (h : PVq kd sel d m p L (some (p', L'))) : C sel d m p L p' L' := by
  obtain ⟨N, h⟩ := h
  exact pe_ind hC N _ _ _ _ _ _ _ (h N (Nat.le_refl _))
theorem pv_pre (h : PVq kd sel d m p L (some (p', L'))) : ∃ l, L' = L ++ l ∧ ∀ M, PVq kd sel d m p M (some (p', M ++ l)) := pv_ind pi_pre h
theorem pv_pre0 (h : PVq kd sel d m p L none) (M : List Stq) : PVq kd sel d m p M none := by
  obtain ⟨N, h⟩ := h
  refine ⟨N, fun n hn => ?_⟩
  cases e : PEq kd n sel d m p M with
  | none => rfl
  | some r =>
    obtain ⟨p', L'⟩ := r
    obtain ⟨l, _, h2⟩ := pe_ind pi_pre n _ _ _ _ _ _ _ e
    have := pv_one ⟨N, h⟩ (h2 L)
    cases this
/-- an expression's steps -/
theorem ex_ev {l : List Stq} (h : PVq kd 0 1 0 p [] (some (p', l))) : EVq (fun n => EXn kd n p) (some (p', gqs l)) := ev_b h ev_c
theorem ex_ev0 (h : PVq kd 0 1 0 p [] none) : EVq (fun n => EXn kd n p) none := ev_b0 h
end PRE
end

section
/-! how many initials stand in { }: counted ahead -/
def opq (k : Int) : Int := if k = 20 ∨ k = 22 ∨ k = 24 then 1 else if k = 21 ∨ k = 23 ∨ k = 25 then -1 else 0
def tdn (kd : Nat → Int) : Nat → Nat → Int → Int → Option Int
  | 0, _, _, _ => none
  | f + 1, p, n, o => if kd p = 0 ∨ kd p = 1 then some n else if o + opq (kd p) = 0 then some n else tdn kd f (p + 1) (if kd p = 26 ∧ o + opq (kd p) = 1 then n + 1 else n) (o + opq (kd p))
def TDq (kd : Nat → Int) (p : Nat) (n o R : Int) : Prop := EVq (fun f => tdn kd f p n o) (some R)
section TLD
variable {kd : Nat → Int} {p p1 i : Nat} {n o R : Int}
theorem td_s (c1 : kd p ≠ 0) (c2 : kd p ≠ 1) (c3 : o + opq (kd p) ≠ 0) (h : TDq kd (p + 1) (if kd p = 26 ∧ o + opq (kd p) = 1 then n + 1 else n) (o + opq (kd p)) R) : TDq kd p n o R :=
  ev_up (ev_f (fun h => h.elim c1 c2) (ev_f c3 h))
theorem td_z (c1 : 2 ≤ kd p) (c2 : opq (kd p) = 0) (c3 : kd p ≠ 26) (ho : 1 ≤ o) (h : TDq kd (p + 1) n o R) : TDq kd p n o R := by
  refine td_s (by omega) (by omega) (by omega) ?_
  rw [if_neg (fun h => c3 h.1), c2, Int.add_zero]
  exact h
theorem td_o (c : kd p = 20 ∨ kd p = 22 ∨ kd p = 24) (ho : 0 ≤ o) (h : TDq kd (p + 1) n (o + 1) R) : TDq kd p n o R := by
  have e : opq (kd p) = 1 := if_pos c
  refine td_s (by omega) (by omega) (by omega) ?_
  rw [if_neg (by omega), e]
  exact h
theorem td_cl (c : kd p = 21 ∨ kd p = 23 ∨ kd p = 25) (ho : 1 ≤ o) (h : TDq kd (p + 1) n o R) : TDq kd p n (o + 1) R := by
  have e : opq (kd p) = -1 := (if_neg (by omega)).trans (if_pos c)
  refine td_s (by omega) (by omega) (by omega) ?_
  rw [if_neg (by omega), e, show o + 1 + -1 = o from by omega]
  exact h
theorem td_cm (c : kd p = 26) (ho : 2 ≤ o) (h : TDq kd (p + 1) n o R) : TDq kd p n o R := by
  have e : opq (kd p) = 0 := by rw [c]; rfl
  refine td_s (by omega) (by omega) (by omega) ?_
  rw [if_neg (by omega), e, Int.add_zero]
  exact h
theorem td_c1 (c : kd p = 26) (h : TDq kd (p + 1) (n + 1) 1 R) : TDq kd p n 1 R := by
  have e : opq (kd p) = 0 := by rw [c]; rfl
  refine td_s (by omega) (by omega) (by omega) ?_
  rw [if_pos ⟨c, by omega⟩, e, Int.add_zero]
  exact h
theorem td_end (c : kd p = 23) : TDq kd p n 1 n := ev_up (ev_f (by omega) (ev_t (by rw [c]; rfl) ev_c))
theorem td_k (k : Int) (c : kd p = k) (h2 : 2 ≤ k) (c2 : opq k = 0) (c3 : k ≠ 26) (ho : 1 ≤ o) (h : TDq kd (p + 1) n o R) : TDq kd p n o R := td_z (by omega) (by rw [c]; exact c2) (by omega) ho h
theorem td_sr : ∀ {f p i p1 : Nat}, SRq kd f p = some (i, p1) → 1 ≤ o → TDq kd p1 n o R → TDq kd p n o R
  | 0, p, i, p1, h, ho, g => by
    rw [SRq] at h
    split at h
    · cases h
    · cases h
      exact g
  | f + 1, p, i, p1, h, ho, g => by
    rw [SRq] at h
    split at h
    · next c =>
      obtain ⟨⟨j, p2⟩, h1, h2⟩ := bind_in h
      cases h2
      exact td_k 45 c (by omega) rfl (by decide) ho (td_sr h1 ho g)
    · cases h
      exact g
theorem op_r (h : (30 ≤ kd p ∧ kd p ≤ 62) ∨ (2 ≤ kd p ∧ kd p ≤ 19) ∨ kd p = 28 ∨ kd p = 29) (ho : 1 ≤ o) (g : TDq kd (p + 1) n o R) : TDq kd p n o R :=
  td_z (by omega) ((if_neg (by omega)).trans (if_neg (by omega))) (by omega) ho g
def Ctd (kd : Nat → Int) (sel d m p : Nat) (L : List Stq) (p' : Nat) (L' : List Stq) : Prop := (sel = 7 ∨ sel = 8 → 1 ≤ m) → ∀ n o R, 1 ≤ o → TDq kd p' n o R → TDq kd p n (if sel = 5 then o + 1 else o) R
theorem pi_td : PIq kd (Ctd kd) := by
  refine ⟨?_, ?_, ?_, ?_, ?_, ?_, ?_, ?_, ?_, ?_, ?_, ?_, ?_, ?_, ?_, ?_, ?_, ?_, ?_, ?_, ?_⟩
  · exact fun d m p L p1 L1 h c _ => h (by omega)
  · exact fun d m p L p1 L1 p2 L2 h c hd h2 hm n o R ho g => h (by omega) n o R ho (op_r (by omega) ho (h2 (by omega) n o R ho g))
  · exact fun d m p L p1 L1 h c _ => h (by omega)
  · exact fun d m p L p1 L1 p2 L2 p3 L3 h c hd h2 c2 h3 hm n o R ho g => h (by omega) n o R ho (op_r (by omega) ho (h2 (by omega) n o R ho (op_r (by omega) ho (h3 (by omega) n o R ho g))))
  · exact fun d m p L p1 L1 c hd h hm n o R ho g => op_r (by unfold UNq at c; omega) ho (h (by omega) n o R ho g)
  · exact fun d m p L i p1 p2 L2 c hd hs c2 h hm n o R ho g => td_o (Or.inl c.1) (by omega) (td_k 5 c.2 (by omega) rfl (by decide) (by omega) (td_sr hs (by omega) (td_cl (Or.inl c2) ho (h (by omega) n o R ho g))))
  · exact fun d m p L p1 L1 p2 L2 c c2 h h2 hm n o R ho g => h (by omega) n o R ho (h2 (by omega) n o R ho g)
  · exact fun d m p L c hm n o R ho g => td_k 3 c (by omega) rfl (by decide) ho g
  · exact fun d m p L c hm n o R ho g => td_k 4 c (by omega) rfl (by decide) ho g
  · exact fun d m p L c c2 hm n o R ho g => td_k 2 c (by omega) rfl (by decide) ho g
  · exact fun d m p L c c2 hd c3 hm n o R ho g => td_k 2 c (by omega) rfl (by decide) ho (td_o (Or.inl c2) (by omega) (td_cl (Or.inl c3) ho g))
  · exact fun d m p L p1 L1 c c2 hd c3 h hm n o R ho g => td_k 2 c (by omega) rfl (by decide) ho (td_o (Or.inl c2) (by omega) (h (by omega) n o R ho g))
  · exact fun d m p L p1 L1 c hd h c2 hm n o R ho g => td_o (Or.inl c) (by omega) (h (by omega) n (o + 1) R (by omega) (td_cl (Or.inl c2) ho g))
  · exact fun d m p L p1 L1 p2 L2 h c h2 hm n o R ho g => h (by omega) n (o + 1) R (by omega) (td_cm c (by omega) (h2 (by omega) n o R ho g))
  · exact fun d m p L p1 L1 h c hm n o R ho g => h (by omega) n (o + 1) R (by omega) (td_cl (Or.inl c) ho g)
  · exact fun d m p L p1 L1 p2 L2 c hd h c2 h2 hm n o R ho g => td_o (Or.inr (Or.inr c)) (by omega) (h (by omega) n (o + 1) R (by omega) (td_cl (Or.inr (Or.inr c2)) ho (h2 (by omega) n o R ho g)))
  · exact fun d m p L p1 L1 c h hm n o R ho g => op_r (by omega) ho (h (by omega) n o R ho g)
  · exact fun d m p L c hm n o R ho g => g
  · exact fun d m p L p1 L1 p2 L2 h h2 hm n o R ho g => h (by omega) n o R ho (h2 (by omega) n o R ho g)
  · exact fun d m p L c hm n o R ho g => g
  · exact fun d m p L p1 L1 p2 L2 c h h2 hm n o R ho g => op_r (by
      have := (lvq_r (kd p)).2.2
      have := hm (Or.inr rfl)
      omega) ho (h (by omega) n o R ho (h2 (by omega) n o R ho g))
theorem td_ex {f : Nat} {l : List Gsq} (h : EXn kd f p = some (p1, l)) (ho : 1 ≤ o) (g : TDq kd p1 n o R) : TDq kd p n o R := by
  obtain ⟨⟨p2, l2⟩, h1, h2⟩ := bind_in h
  cases h2
  exact pe_ind pi_td _ _ _ _ _ _ _ _ h1 (by omega) n o R ho g
theorem td_it : ∀ {f p p' k : Nat} {l : List Gsq} {n : Int}, ITn kd f p = some (p', l, k) → TDq kd p n 1 (n + (k : Int) - 1)
  | 0, p, p', k, l, n, h => by cases h
  | f + 1, p, p', k, l, n, h => by
    obtain ⟨⟨p1, l1⟩, h1, h2⟩ := bind_in h
    by_cases c : kd p1 = 26
    · replace h2 := (if_pos c).symm.trans h2
      obtain ⟨⟨p2, l2, k2⟩, h3, h4⟩ := bind_in h2
      cases h4
      have := td_it (n := n + 1) h3
      refine td_ex h1 (by omega) (td_c1 c ?_)
      rw [show n + ((k2 + 1 : Nat) : Int) - 1 = n + 1 + (k2 : Int) - 1 from by omega]
      exact this
    · replace h2 := (if_neg c).symm.trans h2
      by_cases c3 : kd p1 = 23
      · replace h2 := (if_pos c3).symm.trans h2
        cases h2
        refine td_ex h1 (by omega) ?_
        rw [show n + ((1 : Nat) : Int) - 1 = n from by omega]
        exact td_end c3
      · replace h2 := (if_neg c3).symm.trans h2
        cases h2
end TLD
end

section
/-! the class's grammar of statements: its small steps -/
def lnq (g : List Gsq) : Nat := (fltq 0 g).length
def TKv (s : St) (kd vl : Nat → Int) (n : Nat) : Prop := TKd s kd n ∧ ∀ p, p ≤ n → kd p = 4 → (s 14 p).toInt = vl p ∧ 0 ≤ vl p ∧ vl p ≤ 200
/-- at p, behind g -/
def GTq (kd : Nat → Int) (n : Nat) (σ0 s : St) (p : Nat) (g : List Gsq) : Prop := KGq σ0 s ∧ GSt kd n s p (fltq 0 g) ∧ (s 3 9).toInt = 0
/-- no unit -/
def GJq (σ0 s : St) : Prop := KGq σ0 s ∧ GBd s
section SBA
variable {kd vl : Nat → Int} {n p p1 : Nat} {σ0 σ s : St} {g g1 g2 : List Gsq} {l : List Stq} {x a1 a2 a3 a4 : Int32} {a : Stq}
theorem lnq_app : lnq (g1 ++ g2) = lnq g1 + lnq g2 := by
  unfold lnq
  rw [flt_app, List.length_append, flt_len (a := g2) (o2 := 0)]
theorem lnq_one (h : a.1 ≠ 40) : lnq [gq a] = 1 := by
  unfold lnq
  rw [flt_one h]
  rfl
theorem lnq_nil : lnq [] = 0 := rfl
theorem lnq_size {y : Stq} (h : y.1 = 40) : lnq [(y, l)] = l.length + 2 := by
  unfold lnq fltq
  rw [if_pos h]
  simp only [List.length_append, List.length_cons, List.length_nil, fltq]
  omega
def Cact (sel d m p : Nat) (L : List Stq) (p' : Nat) (L' : List Stq) : Prop := (∀ y, y ∈ L → 1 ≤ y.1 ∧ y.1 ≤ 16) → ∀ y, y ∈ L' → 1 ≤ y.1 ∧ y.1 ≤ 16
theorem act_app {L : List Stq} {b : Stq} (h : ∀ y, y ∈ L → 1 ≤ y.1 ∧ y.1 ≤ 16) (hb : 1 ≤ b.1 ∧ b.1 ≤ 16) : ∀ y, y ∈ L ++ [b] → 1 ≤ y.1 ∧ y.1 ≤ 16 := fun y hy => by
  rcases List.mem_append.mp hy with q | q
  · exact h y q
  · rw [List.mem_singleton.mp q]
    exact hb
theorem pi_act : PIq kd Cact := by
  refine ⟨?_, ?_, ?_, ?_, ?_, ?_, ?_, ?_, ?_, ?_, ?_, ?_, ?_, ?_, ?_, ?_, ?_, ?_, ?_, ?_, ?_⟩
  · exact fun d m p L p1 L1 h c => h
  · exact fun d m p L p1 L1 p2 L2 h c hd h2 q => act_app (h2 (act_app (h q) (by simp [stp]))) (by simp [stp])
  · exact fun d m p L p1 L1 h c => h
  · exact fun d m p L p1 L1 p2 L2 p3 L3 h c hd h2 c2 h3 q => act_app (h3 (act_app (h2 (act_app (h q) (by simp [stp]))) (by simp [stp]))) (by simp [stp])
  · exact fun d m p L p1 L1 c hd h q => act_app (h q) (by simp [stp])
  · exact fun d m p L i p1 p2 L2 c hd hs c2 h q => act_app (h q) (by simp [stp])
  · exact fun d m p L p1 L1 p2 L2 c c2 h h2 q => h2 (h q)
  · exact fun d m p L c q => act_app q (by simp [stp])
  · exact fun d m p L c q => act_app q (by simp [stp])
  · exact fun d m p L c c2 q => act_app q (by simp [stp])
  · exact fun d m p L c c2 hd c3 q => act_app (act_app q (by simp [stp])) (by simp [stp])
  · exact fun d m p L p1 L1 c c2 hd c3 h q => h (act_app q (by simp [stp]))
  · exact fun d m p L p1 L1 c hd h c2 q => h q
  · exact fun d m p L p1 L1 p2 L2 h c h2 q => h2 (act_app (h q) (by simp [stp]))
  · exact fun d m p L p1 L1 h c q => act_app (act_app (h q) (by simp [stp])) (by simp [stp])
  · exact fun d m p L p1 L1 p2 L2 c hd h c2 h2 q => h2 (act_app (h (act_app q (by simp [stp]))) (by simp [stp]))
  · exact fun d m p L p1 L1 c h q => h (act_app q (by simp [stp]))
  · exact fun d m p L c q => q
  · exact fun d m p L p1 L1 p2 L2 h h2 q => h2 (h q)
  · exact fun d m p L c q => q
  · exact fun d m p L p1 L1 p2 L2 c h h2 q => h2 (act_app (h (act_app q (by simp [stp]))) (by simp [stp]))
theorem pv_act {d : Nat} (h : PVq kd 0 d 0 p [] (some (p1, l))) : ∀ y, y ∈ l → 1 ≤ y.1 ∧ y.1 ≤ 16 := pv_ind pi_act h (fun y hy => absurd hy (by simp))
theorem lnq_gqs (h : ∀ y, y ∈ l → 1 ≤ y.1 ∧ y.1 ≤ 16) : lnq (gqs l) = l.length := by
  unfold lnq
  rw [flt_gqs (fun y hy => by have := h y hy; omega)]
theorem gt_k (h : GTq kd n σ0 σ p g) (k : KGq σ s) (h2 : GSt kd n s p1 (fltq 0 g1)) (h3 : s 3 9 = σ 3 9) : GTq kd n σ0 s p1 g1 := ⟨kp_tr h.1 k, h2, by rw [h3]; exact h.2.2⟩
theorem gj_k (h : GJq σ0 σ) (k : KGq σ s) (h2 : GBd s) : GJq σ0 s := ⟨kp_tr h.1 k, h2⟩
theorem gt_tk (t0 : TKv σ0 kd vl n) (h : GTq kd n σ0 σ p g) : TKd σ kd n := tkd_k h.1 t0.1
theorem gt_kd (h : GTq kd n σ0 σ p g) : (σ 3 2).toInt = kd p := h.2.1.2.2.2.1
theorem gt_at (h : GTq kd n σ0 σ p g) : (σ 3 1).toInt = (p : Int) := h.2.1.2.1
theorem gt_n (h : GTq kd n σ0 σ p g) : p ≤ n := h.2.1.2.2.1
theorem gt_adv {Q : St → Prop} (t0 : TKv σ0 kd vl n) (h : GTq kd n σ0 σ p g) (hk : 2 ≤ kd p) (k : ∀ s, GTq kd n σ0 s (p + 1) g → Q s) : pk_X3_advance σ Q :=
  pg_adv (gt_tk t0 h) h.2.1 hk (fun s ks gs => k s (gt_k h (kg2 ks) gs (ks 3 9 rfl rfl)))
theorem gt_expect {Q : St → Prop} (t0 : TKv σ0 kd vl n) (h : GTq kd n σ0 σ p g) (hx : 2 ≤ x.toInt) (k1 : kd p = x.toInt → ∀ s, GTq kd n σ0 s (p + 1) g → Q s) (k0 : kd p ≠ x.toInt → ∀ s, GJq σ0 s → Q s) : pk_X3_expect x σ Q :=
  pg_expect (gt_tk t0 h) h.2.1 hx (fun s ks c gs => k1 c s (gt_k h (kg2 ks) gs (ks 3 9 rfl rfl))) (fun s ks c gs => k0 c s ⟨kp_tr h.1 (kg3 ks), gs⟩)
theorem gj_expect {Q : St → Prop} (h : GJq σ0 σ) (hx : 0 ≤ x.toInt) (k : ∀ s, GJq σ0 s → Q s) : pk_X3_expect x σ Q := jk_expect h.2 hx (fun s ks gs => k s (gj_k h ks gs))
theorem gt_accept {Q : Int32 → St → Prop} (t0 : TKv σ0 kd vl n) (h : GTq kd n σ0 σ p g) (hx : 2 ≤ x.toInt) (k1 : kd p = x.toInt → ∀ s, GTq kd n σ0 s (p + 1) g → Q 1 s) (k0 : kd p ≠ x.toInt → Q 0 σ) : pk_X3_accept x σ Q :=
  pg_accept (gt_tk t0 h) h.2.1 hx (fun s ks c gs => k1 c s (gt_k h (kg2 ks) gs (ks 3 9 rfl rfl))) k0
theorem gj_accept {Q : Int32 → St → Prop} (h : GJq σ0 σ) (hx : 0 ≤ x.toInt) (k : Q 0 σ) : pk_X3_accept x σ Q := jk_accept h.2 hx k
theorem gt_fail {Q : St → Prop} (h : GTq kd n σ0 σ p g) (k : ∀ s, GJq σ0 s → Q s) : pk_X3_fail σ Q := pg_fail h.2.1 (fun s ks gs => k s ⟨kp_tr h.1 (kg3 ks), gs⟩)
theorem gj_fail {Q : St → Prop} (h : GJq σ0 σ) (k : ∀ s, GJq σ0 s → Q s) : pk_X3_fail σ Q := jk_fail h.2 (fun s ks gs => k s (gj_k h ks gs))
theorem flt_add (h : a.1 ≠ 40) : fltq 0 (g ++ [gq a]) = fltq 0 g ++ [a] := by
  rw [flt_app]
  have : fltq (0 + (fltq 0 g).length) [gq a] = [a] := flt_one h
  rw [this]
theorem gt_add {Q : Int32 → St → Prop} (h : GTq kd n σ0 σ p g) (hl : (lnq g : Int) ≤ 32090) (ha : a.1 ≠ 40) (he : (a1.toInt, a2.toInt, a3.toInt, a4.toInt) = (a.1, (a.2.1 : Int), a.2.2.1, a.2.2.2)) (k : ∀ v s, GTq kd n σ0 s p (g ++ [gq a]) → v.toInt = (lnq g : Int) → Q v s) : pk_X3_add a1 a2 a3 a4 σ Q :=
  pg_add h.2.1 hl he (fun v s ks gs hv => k v s (gt_k h (kg4 ks) (by rw [flt_add ha]; exact gs) (ks 3 9 rfl rfl)) hv)
theorem gj_add {Q : Int32 → St → Prop} (h : GJq σ0 σ) (k : ∀ v s, GJq σ0 s → Q v s) : pk_X3_add a1 a2 a3 a4 σ Q := jk_add h.2 (fun v s ks gs => k v s (gj_k h (kg4 ks) gs))
theorem gj_expr {Q : St → Prop} (h : GJq σ0 σ) (k : ∀ s, GJq σ0 s → Q s) : pkG_expression x σ Q := jgG_expr x σ Q h.2 (fun s ks gs => k s (gj_k h ks gs))
/-- an expression over any steps before it -/
theorem gr_expr {Q : St → Prop} {L : List Stq} (t0 : TKv σ0 kd vl n) (hk : KGq σ0 σ) (hg : GSt kd n σ p L) (h9 : (σ 3 9).toInt = 0) (hl : (L.length : Int) ≤ 2 * p + 70)
    (k1 : ∀ s p' l, PVq kd 0 1 0 p [] (some (p', l)) → (∀ y, y ∈ l → 1 ≤ y.1 ∧ y.1 ≤ 16) → KGq σ0 s → GSt kd n s p' (L ++ l) → (s 3 9).toInt = 0 → (l.length : Int) + 2 * p + 1 ≤ 2 * p' → p < p' → Q s) (k0 : ∀ s, GJq σ0 s → PVq kd 0 1 0 p [] none → Q s) : pkG_expression (1 : Int32) σ Q := by
  refine pgG_expr (1 : Int32) 1 p L σ Q rfl (by omega) (tkd_k hk t0.1) hg hl ⟨by omega, by rw [h9]; decide⟩ trivial (fun s p' L' ks ps gs hv hb hpp => ?_) (fun s ks gb hv => k0 s ⟨kp_tr hk ks, gb⟩ (pv_pre0 hv []))
  obtain ⟨l, e, h2⟩ := pv_pre hv
  have h3 := h2 []
  rw [List.nil_append] at h3
  subst e
  rw [List.length_append] at hb
  exact k1 s p' l h3 (pv_act h3) (kp_tr hk ks) gs (by rw [ps.1]; exact h9) (by omega) hpp
theorem gt_expr {Q : St → Prop} (t0 : TKv σ0 kd vl n) (h : GTq kd n σ0 σ p g) (hl : (lnq g : Int) ≤ 2 * p + 70)
    (k1 : ∀ s p' l, EVq (fun n => EXn kd n p) (some (p', gqs l)) → lnq (gqs l) = l.length → GTq kd n σ0 s p' (g ++ gqs l) → (l.length : Int) + 2 * p + 1 ≤ 2 * p' → p < p' → Q s) (k0 : ∀ s, GJq σ0 s → EVq (fun n => EXn kd n p) none → Q s) : pkG_expression (1 : Int32) σ Q :=
  gr_expr t0 h.1 h.2.1 h.2.2 hl (fun s p' l hv ha hk hg h9 hb hpp => k1 s p' l (ex_ev hv) (lnq_gqs ha) ⟨hk, by
    rw [flt_app, flt_gqs (fun y hy => by have := ha y hy; omega)]
    exact hg, h9⟩ hb hpp) (fun s hj hv => k0 s hj (ex_ev0 hv))
theorem gt_stars {Q : Int32 → St → Prop} (t0 : TKv σ0 kd vl n) (h : GTq kd n σ0 σ p g) (k1 : ∀ (v : Int32) s t p1, SRq kd 5 p = some (t, p1) → v.toInt = (t : Int) → GTq kd n σ0 s p1 g → p ≤ p1 → t ≤ 5 → Q v s) (k0 : ∀ v s, SRq kd 5 p = none → GJq σ0 s → Q v s) : pk_X3_stars σ Q :=
  pg_stars (gt_tk t0 h) h.2.1 (fun v s t p1 ks e hv gs hp ht => k1 v s t p1 e hv (gt_k h (kg2 ks) gs (ks 3 9 rfl rfl)) hp ht) (fun v s ks e gb => k0 v s e ⟨kp_tr h.1 ks, gb⟩)
theorem gj_stars {Q : Int32 → St → Prop} (h : GJq σ0 σ) (k : ∀ v, Q v σ) : pk_X3_stars σ Q := jk_stars h.2 (k 0)
end SBA
end

