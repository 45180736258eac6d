/-! frames of the class: what steps of expressions leave as it is -/
def OPu (u : Nat) : Prop := u = 47 ∨ 65 ≤ u
def FRw (c : Nat) : Prop := [4, 5, 6, 7, 17, 24, 25, 31, 32, 33, 39, 43, 47].contains c = true ∨ 65 ≤ c
def FRs (w s : St) : Prop := ∀ c, ¬ FRw c → s c = w c
theorem op_47 : OPu 47 := Or.inl rfl
theorem op_65 (x : Nat) : OPu (65 + x) := Or.inr (by omega)
theorem frw {c : Nat} (h : [4, 5, 6, 7, 17, 24, 25, 31, 32, 33, 39, 43, 47].contains c = true) : FRw c := Or.inl h
theorem frw_op {u : Nat} (h : OPu u) : FRw u := by
  rcases h with h | h
  · exact Or.inl (by rw [h]; decide)
  · exact Or.inr h
theorem fr_c {w s : St} {c k : Nat} {v : Int32} (h : FRs w s) (hc : FRw c) : FRs w (upC s c k v) := fun q hq => by
  rw [rdC_ne (fun e => hq (by rw [e]; exact hc))]
  exact h q hq
theorem fr_F {w s : St} {c : Nat} {f : Nat → Int32} (h : FRs w s) (hc : FRw c) : FRs w (upF s c f) := fun q hq => by
  rw [rdF_ne (fun e => hq (by rw [e]; exact hc))]
  exact h q hq
theorem fr_e {w s r : St} (e : s = r) (h : FRs w r) : FRs w s := by
  rw [e]
  exact h
theorem fr_rf {w : St} : FRs w w := fun _ _ => rfl
theorem fr_pk_X6_reset {w : St} {a0 : Nat} {a1 : Int32} {σ : St} {Q : St → Prop} (ua0 : OPu a0) (hs : FRs w σ) (k : ∀ (v0 : St), FRs w v0 → Q v0) : pk_X6_reset a0 a1 σ Q := by
  unfold pk_X6_reset
  exact (fun s0n => fun h1_ => (fun s2n => fun h2_ => (fun s4n => fun h3_ => (fun s6n => fun h4_ => (fun s8n => fun h5_ => (fun s10n => fun h6_ => (fun s12n => fun h7_ => (fun s14n => fun h8_ => (fun s16n => fun h9_ => (fun s18n => fun h10_ => (fun s20n => fun h11_ => (fun s22n => fun h12_ => (fun s24n => fun h13_ => (k _ (fr_e h13_ (fr_c (fr_e h12_ (fr_c (fr_e h11_ (fr_c (fr_e h10_ (fr_c (fr_e h9_ (fr_c (fr_e h8_ (fr_c (fr_e h7_ (fr_c (fr_e h6_ (fr_c (fr_e h5_ (fr_c (fr_e h4_ (fr_c (fr_e h3_ (fr_c (fr_e h2_ (fr_c (fr_e h1_ (fr_c hs (frw_op ua0))) (frw_op ua0))) (frw_op ua0))) (frw_op ua0))) (frw_op ua0))) (frw_op ua0))) (frw_op ua0))) (frw_op ua0))) (frw_op ua0))) (frw_op ua0))) (frw_op ua0))) (frw_op ua0))) (frw_op ua0)))))))))))))))))
theorem fr_pk_X2_push {w : St} {σ : St} {Q : Nat → St → Prop} (hs : FRs w σ) (k : ∀ (v0 : Nat) (v1 : St), OPu v0 → FRs w v1 → Q v0 v1) : pk_X2_push σ Q := by
  unfold pk_X2_push
  exact ⟨(fun x1_ => OPu x1_), ⟨(fun y0_35 => fun _ => fun j2_ => (fr_pk_X6_reset j2_ hs (fun s44 p3_ => (k _ _ j2_ (fr_c p3_ (frw (by decide))))))), ⟨True, ⟨(fun j4_ => op_47), ⟨(fun _ => trivial), (fun _ => ⟨(fun _ => trivial), (fun _ => (fun _ => (op_65 _)))⟩)⟩⟩⟩⟩⟩
theorem fr_pk_X0_emit {w : St} {a1 : Int32} {a2 : Int32} {a3 : Int32} {a4 : Int32} {σ : St} {Q : Int32 → St → Prop} (hs : FRs w σ) (k : ∀ (v0 : Int32) (v1 : St), FRs w v1 → Q v0 v1) : pk_X0_emit a1 a2 a3 a4 σ Q := by
  unfold pk_X0_emit
  exact ⟨(fun _ => (k _ _ hs)), (fun _ => ⟨(fun _ => (k _ _ hs)), (fun _ => (fun _ => (fun _ => (fun _ => (fun _ => ⟨(fun _ => (k _ _ (fr_c (fr_c (fr_c (fr_c (fr_c hs (frw (by decide))) (frw (by decide))) (frw (by decide))) (frw (by decide))) (frw (by decide))))), (fun _ => ⟨(fun _ => (k _ _ (fr_c (fr_c (fr_c (fr_c (fr_c hs (frw (by decide))) (frw (by decide))) (frw (by decide))) (frw (by decide))) (frw (by decide))))), (fun _ => (fun _ => (k _ _ (fr_c (fr_c (fr_c (fr_c (fr_c hs (frw (by decide))) (frw (by decide))) (frw (by decide))) (frw (by decide))) (frw (by decide))))))⟩)⟩)))))⟩)⟩
theorem fr_pk_X2_number {w : St} {a1 : Int32} {σ : St} {Q : St → Prop} (hs : FRs w σ) (k : ∀ (v0 : St), FRs w v0 → Q v0) : pk_X2_number a1 σ Q := by
  unfold pk_X2_number
  exact (fr_pk_X2_push hs (fun u1 s1 p1_ p2_ => (fun s1n => fun h3_ => (fun s3n => fun h4_ => ⟨(fun x5_ => True), ⟨(fun y1_38 => fun _ => fun j6_ => (fun s6n => fun h7_ => (fr_pk_X0_emit (fr_e h7_ (fr_c (fr_e h4_ (fr_c (fr_e h3_ (fr_c p2_ (frw_op p1_))) (frw_op p1_))) (frw_op p1_))) (fun v52 s52 p8_ => (k _ p8_))))), ⟨(fun _ => trivial), (fun _ => trivial)⟩⟩⟩))))
theorem fr_pk_X10_byteAt {a1 : Int32} {σ : St} {Q : Int32 → Prop} (k : ∀ (v0 : Int32), Q v0) : pk_X10_byteAt a1 σ Q := by
  unfold pk_X10_byteAt
  exact ⟨(fun _ => (k _)), (fun _ => ⟨(fun _ => (k _)), (fun _ => ⟨(fun _ => (k _)), (fun _ => (fun _ => (k _)))⟩)⟩)⟩
theorem fr_pk_X10_codeAt {a1 : Int32} {a2 : Int32} {σ : St} {Q : Int32 → Prop} (k : ∀ (v0 : Int32), Q v0) : pk_X10_codeAt a1 a2 σ Q := by
  unfold pk_X10_codeAt
  exact (fr_pk_X10_byteAt (fun v2 => ⟨(fun _ => (fr_pk_X10_byteAt (fun v39 => ⟨(fun _ => (k _)), (fun _ => ⟨(fun _ => (k _)), (fun _ => ⟨(fun _ => (k _)), (fun _ => ⟨(fun _ => (k _)), (fun _ => ⟨(fun _ => (k _)), (fun _ => (k _))⟩)⟩)⟩)⟩)⟩))), (fun _ => ⟨(fun _ => (k _)), (fun _ => ⟨(fun _ => (k _)), (fun _ => ⟨(fun _ => (k _)), (fun _ => (k _))⟩)⟩)⟩)⟩))
theorem fr_pk_X10_widthAt {a1 : Int32} {σ : St} {Q : Int32 → Prop} (k : ∀ (v0 : Int32), Q v0) : pk_X10_widthAt a1 σ Q := by
  unfold pk_X10_widthAt
  exact (fr_pk_X10_byteAt (fun v2 => ⟨(fun _ => (k _)), (fun _ => (k _))⟩))
theorem fr_pk_X10_readCodes {w : St} {a1 : Int32} {σ : St} {Q : Int32 → St → Prop} (hs : FRs w σ) (k : ∀ (v0 : Int32) (v1 : St), FRs w v1 → Q v0 v1) : pk_X10_readCodes a1 σ Q := by
  unfold pk_X10_readCodes
  exact ⟨(fun x1_ x2_ x3_ => FRs w x3_), ⟨hs, (fun x3_29 x4_29 s29 => fun j4_ => ⟨(fun _ => (k _ _ j4_)), (fun _ => (fr_pk_X10_codeAt (fun v45 => (fr_pk_X10_widthAt (fun v54 => (fr_F j4_ (frw (by decide))))))))⟩)⟩⟩
theorem fr_pk_X6_become {w : St} {a0 : Nat} {a1 : Int32} {a2 : Int32} {σ : St} {Q : St → Prop} (ua0 : OPu a0) (hs : FRs w σ) (k : ∀ (v0 : St), FRs w v0 → Q v0) : pk_X6_become a0 a1 a2 σ Q := by
  unfold pk_X6_become
  exact (fun s0n => fun h1_ => (fun s2n => fun h2_ => (fun s4n => fun h3_ => (fun s6n => fun h4_ => (k _ (fr_e h4_ (fr_c (fr_e h3_ (fr_c (fr_e h2_ (fr_c (fr_e h1_ (fr_c hs (frw_op ua0))) (frw_op ua0))) (frw_op ua0))) (frw_op ua0))))))))
theorem fr_pk_X8_addInitial {w : St} {a1 : Int32} {a2 : Int32} {a3 : Int32} {σ : St} {Q : St → Prop} (hs : FRs w σ) (k : ∀ (v0 : St), FRs w v0 → Q v0) : pk_X8_addInitial a1 a2 a3 σ Q := by
  unfold pk_X8_addInitial
  exact (k _ (fr_c (fr_F (fr_F (fr_F hs (frw (by decide))) (frw (by decide))) (frw (by decide))) (frw (by decide))))
theorem fr_pk_X11_fail {w : St} {a1 : Int32} {a2 : Int32} {σ : St} {Q : St → Prop} (hs : FRs w σ) (k : ∀ (v0 : St), FRs w v0 → Q v0) : pk_X11_fail a1 a2 σ Q := by
  unfold pk_X11_fail
  exact ⟨(fun _ => (k _ hs)), (fun _ => (k _ (fr_c (fr_c hs (frw (by decide))) (frw (by decide)))))⟩
theorem fr_pk_X2_string {w : St} {a1 : Int32} {σ : St} {Q : St → Prop} (hs : FRs w σ) (k : ∀ (v0 : St), FRs w v0 → Q v0) : pk_X2_string a1 σ Q := by
  unfold pk_X2_string
  exact (fr_pk_X10_readCodes hs (fun v5 s5 p1_ => ⟨(fun x2_ => FRs w x2_), ⟨(fun s37 => fun j3_ => ⟨(fun x4_ x5_ => FRs w x5_), ⟨(fr_c j3_ (frw (by decide))), (fun x4_55 s55 => fun j6_ => ⟨(fun _ => (fr_pk_X2_push j6_ (fun u93 s93 p7_ p8_ => (fr_pk_X6_become p7_ p8_ (fun s102 p9_ => (fun s5n => fun h10_ => (fun s7n => fun h11_ => (fr_pk_X0_emit (fr_e h11_ (fr_c (fr_e h10_ (fr_c p9_ (frw_op p7_))) (frw_op p7_))) (fun v133 s133 p12_ => (k _ p12_)))))))))), (fun _ => (fr_pk_X8_addInitial j6_ (fun s83 p13_ => p13_)))⟩)⟩⟩), ⟨(fun _ => p1_), (fun _ => (fr_pk_X11_fail p1_ (fun s34 p14_ => p14_)))⟩⟩⟩))
theorem fr_pk_X10_sameName {a1 : Int32} {a2 : Int32} {σ : St} {Q : Int32 → Prop} (k : ∀ (v0 : Int32), Q v0) : pk_X10_sameName a1 a2 σ Q := by
  unfold pk_X10_sameName
  exact ⟨(fun _ => ⟨(fun x1_ => True), ⟨trivial, (fun x6_46 => fun j2_ => ⟨(fun _ => (k _)), (fun _ => ⟨(fun _ => (k _)), (fun _ => ⟨(fun _ => (k _)), (fun _ => (fun _ => (fun _ => ⟨(fun _ => trivial), (fun _ => (k _))⟩)))⟩)⟩)⟩)⟩⟩), (fun _ => (k _))⟩
theorem fr_pk_X11_localFrom {a1 : Int32} {a2 : Int32} {σ : St} {Q : Int32 → Prop} (k : ∀ (v0 : Int32), Q v0) : pk_X11_localFrom a1 a2 σ Q := by
  unfold pk_X11_localFrom
  exact ⟨(fun x1_ => True), ⟨trivial, (fun x3_7 => fun j2_ => ⟨(fun _ => (k _)), (fun _ => (fr_pk_X10_sameName (fun v36 => ⟨(fun _ => trivial), (fun _ => (k _))⟩)))⟩)⟩⟩
theorem fr_pk_X8_mark {w : St} {a1 : Int32} {a2 : Int32} {σ : St} {Q : St → Prop} (hs : FRs w σ) (k : ∀ (v0 : St), FRs w v0 → Q v0) : pk_X8_mark a1 a2 σ Q := by
  unfold pk_X8_mark
  exact (k _ (fr_F hs (frw (by decide))))
theorem fr_pk_X2_address {w : St} {a1 : Nat} {σ : St} {Q : St → Prop} (ua1 : OPu a1) (hs : FRs w σ) (k : ∀ (v0 : St), FRs w v0 → Q v0) : pk_X2_address a1 σ Q := by
  unfold pk_X2_address
  exact ⟨(fun x1_ => True), ⟨(fun y0_13 => fun _ => fun j2_ => ⟨(fun x3_ => FRs w x3_), ⟨(fun s75 => fun j4_ => ⟨(fun x5_ => True), ⟨(fun y2_91 => fun j6_ => (fr_pk_X6_become ua1 j4_ (fun s91 p7_ => (fun s4n => fun h8_ => (fun s6n => fun h9_ => (k _ (fr_e h9_ (fr_c (fr_e h8_ (fr_c p7_ (frw_op ua1))) (frw_op ua1))))))))), ⟨(fun _ => trivial), (fun _ => trivial)⟩⟩⟩), ⟨(fun _ => ⟨(fun _ => hs), (fun _ => (fr_pk_X0_emit hs (fun v71 s71 p10_ => p10_)))⟩), (fun _ => (fr_pk_X0_emit (fr_F hs (frw (by decide))) (fun v49 s49 p11_ => p11_)))⟩⟩⟩), ⟨(fun _ => trivial), (fun _ => trivial)⟩⟩⟩
theorem fr_pk_X2_refuse {w : St} {a1 : Int32} {σ : St} {Q : St → Prop} (hs : FRs w σ) (k : ∀ (v0 : St), FRs w v0 → Q v0) : pk_X2_refuse a1 σ Q := by
  unfold pk_X2_refuse
  exact (fr_pk_X11_fail hs (fun s6 p1_ => (k _ p1_)))
theorem fr_pk_X8_is {a1 : Int32} {a2 : Int32} {σ : St} {Q : Int32 → Prop} (k : ∀ (v0 : Int32), Q v0) : pk_X8_is a1 a2 σ Q := by
  unfold pk_X8_is
  exact ⟨(fun _ => (k _)), (fun _ => (k _))⟩
theorem fr_pk_X11_outerOf {a1 : Int32} {σ : St} {Q : Int32 → Prop} (k : ∀ (v0 : Int32), Q v0) : pk_X11_outerOf a1 σ Q := by
  unfold pk_X11_outerOf
  exact ⟨(fun x1_ => True), ⟨trivial, (fun x2_2 => fun j2_ => ⟨(fun _ => (k _)), (fun _ => (fr_pk_X10_sameName (fun v23 => ⟨(fun _ => trivial), (fun _ => (k _))⟩)))⟩)⟩⟩
theorem fr_pk_X2_named {w : St} {a1 : Int32} {σ : St} {Q : St → Prop} (hs : FRs w σ) (k : ∀ (v0 : St), FRs w v0 → Q v0) : pk_X2_named a1 σ Q := by
  unfold pk_X2_named
  exact (fr_pk_X11_localFrom (fun v6 => ⟨(fun x1_ => True), ⟨(fun y0_26 => fun j2_ => ⟨True, ⟨(fun j3_ => (fr_pk_X2_push hs (fun u54 s54 p4_ p5_ => (fun s4n => fun h6_ => ⟨(fun x7_ => True), ⟨(fun y1_80 => fun j8_ => (fun s7n => fun h9_ => ⟨(fun x10_ => True), ⟨(fun y1_114 => fun j11_ => (fun s10n => fun h12_ => (fr_pk_X8_mark (fr_e h12_ (fr_c (fr_e h9_ (fr_c (fr_e h6_ (fr_c p5_ (frw_op p4_))) (frw_op p4_))) (frw_op p4_))) (fun s124 p13_ => ⟨(fun _ => ⟨(fun _ => (k _ p13_)), (fun _ => (fr_pk_X2_address p4_ p13_ (fun s162 p14_ => (k _ p14_))))⟩), (fun _ => ⟨(fun _ => (k _ p13_)), (fun _ => (fr_pk_X2_address p4_ p13_ (fun s162 p15_ => (k _ p15_))))⟩)⟩)))), ⟨(fun _ => trivial), (fun _ => trivial)⟩⟩⟩)), ⟨(fun _ => trivial), (fun _ => trivial)⟩⟩⟩)))), ⟨(fun _ => trivial), (fun _ => ⟨True, ⟨(fun j16_ => (fr_pk_X2_refuse hs (fun s49 p17_ => (k _ p17_)))), ⟨(fun _ => trivial), (fun _ => (fr_pk_X8_is (fun v41 => ⟨(fun _ => trivial), (fun _ => trivial)⟩)))⟩⟩⟩)⟩⟩⟩), ⟨(fun _ => trivial), (fun _ => (fr_pk_X11_outerOf (fun v19 => trivial)))⟩⟩⟩))
theorem fr_pk_X11_mentionCall {w : St} {a1 : Int32} {a2 : Int32} {σ : St} {Q : St → Prop} (hs : FRs w σ) (k : ∀ (v0 : St), FRs w v0 → Q v0) : pk_X11_mentionCall a1 a2 σ Q := by
  unfold pk_X11_mentionCall
  exact (fr_pk_X8_mark hs (fun s22 p1_ => ⟨(fun _ => (k _ p1_)), (fun _ => (k _ (fr_F p1_ (frw (by decide)))))⟩))
theorem fr_pk_X2_callee {w : St} {a1 : Int32} {σ : St} {Q : St → Prop} (hs : FRs w σ) (k : ∀ (v0 : St), FRs w v0 → Q v0) : pk_X2_callee a1 σ Q := by
  unfold pk_X2_callee
  exact (fr_pk_X11_localFrom (fun v6 => ⟨(fun x1_ => True), ⟨(fun y0_24 => fun j2_ => ⟨True, ⟨(fun j3_ => (fr_pk_X2_refuse hs (fun s43 p4_ => (k _ p4_)))), ⟨(fun _ => trivial), (fun _ => (fr_pk_X8_is (fun v35 => ⟨(fun _ => (fr_pk_X11_mentionCall hs (fun s53 p5_ => (fr_pk_X2_push p5_ (fun u57 s57 p6_ p7_ => (fun s10n => fun h8_ => (fun s12n => fun h9_ => (fun s14n => fun h10_ => (fun s16n => fun h11_ => (k _ (fr_e h11_ (fr_c (fr_e h10_ (fr_c (fr_e h9_ (fr_c (fr_e h8_ (fr_c p7_ (frw_op p6_))) (frw_op p6_))) (frw_op p6_))) (frw_op p6_))))))))))))), (fun _ => trivial)⟩)))⟩⟩⟩), ⟨(fun _ => trivial), (fun _ => (fr_pk_X11_outerOf (fun v17 => trivial)))⟩⟩⟩))
theorem fr_pk_X2_top {σ : St} {Q : Nat → Prop} (k : ∀ (v0 : Nat), OPu v0 → Q v0) : pk_X2_top σ Q := by
  unfold pk_X2_top
  exact ⟨(fun _ => (k _ op_47)), (fun _ => ⟨(fun _ => (k _ op_47)), (fun _ => (fun _ => (k _ (op_65 _))))⟩)⟩
theorem fr_pk_X6_isPlace {a0 : Nat} {σ : St} {Q : Int32 → Prop} (ua0 : OPu a0) (k : ∀ (v0 : Int32), Q v0) : pk_X6_isPlace a0 σ Q := by
  unfold pk_X6_isPlace
  exact ⟨(fun _ => (k _)), (fun _ => ⟨(fun _ => (k _)), (fun _ => ⟨(fun _ => (k _)), (fun _ => (k _))⟩)⟩)⟩
theorem fr_pk_X2_loaded {w : St} {a1 : Nat} {σ : St} {Q : Nat → St → Prop} (ua1 : OPu a1) (hs : FRs w σ) (k : ∀ (v0 : Nat) (v1 : St), OPu v0 → FRs w v1 → Q v0 v1) : pk_X2_loaded a1 σ Q := by
  unfold pk_X2_loaded
  exact (fr_pk_X6_isPlace ua1 (fun v1 => ⟨(fun _ => (k _ _ ua1 hs)), (fun _ => ⟨(fun _ => ⟨(fun x1_ => True), ⟨(fun y1_52 => fun j2_ => (fr_pk_X0_emit hs (fun v58 s58 p3_ => (fun s6n => fun h4_ => (k _ _ ua1 (fr_e h4_ (fr_c p3_ (frw_op ua1)))))))), ⟨(fun _ => trivial), (fun _ => trivial)⟩⟩⟩), (fun _ => (fr_pk_X0_emit hs (fun v27 s27 p5_ => (fun s12n => fun h6_ => (k _ _ ua1 (fr_e h6_ (fr_c p5_ (frw_op ua1))))))))⟩)⟩))
theorem fr_pk_X2_pop {w : St} {σ : St} {Q : Nat → St → Prop} (hs : FRs w σ) (k : ∀ (v0 : Nat) (v1 : St), OPu v0 → FRs w v1 → Q v0 v1) : pk_X2_pop σ Q := by
  unfold pk_X2_pop
  exact (fr_pk_X2_top (fun u2 p1_ => (fr_pk_X2_loaded p1_ hs (fun u5 s5 p2_ p3_ => ⟨(fun _ => (k _ _ p2_ (fr_c p3_ (frw (by decide))))), (fun _ => (k _ _ p2_ (fr_c p3_ (frw (by decide)))))⟩))))
theorem fr_pk_X8_parameters {a0 : Int32} {σ : St} {Q : Int32 → Prop} (k : ∀ (v0 : Int32), Q v0) : pk_X8_parameters a0 σ Q := by
  unfold pk_X8_parameters
  exact (k _)
theorem fr_pk_X8_parameter {a0 : Int32} {a1 : Int32} {σ : St} {Q : Int32 → Prop} (k : ∀ (v0 : Int32), Q v0) : pk_X8_parameter a0 a1 σ Q := by
  unfold pk_X8_parameter
  exact (k _)
theorem fr_pk_X6_fits {a0 : Nat} {a1 : Int32} {σ : St} {Q : Int32 → Prop} (ua0 : OPu a0) (k : ∀ (v0 : Int32), Q v0) : pk_X6_fits a0 a1 σ Q := by
  unfold pk_X6_fits
  exact ⟨True, ⟨(fun j1_ => ⟨(fun _ => (k _)), (fun _ => ⟨(fun _ => (k _)), (fun _ => (k _))⟩)⟩), ⟨(fun _ => trivial), (fun _ => ⟨(fun _ => (k _)), (fun _ => trivial)⟩)⟩⟩⟩
theorem fr_pk_X2_argument {w : St} {σ : St} {Q : St → Prop} (hs : FRs w σ) (k : ∀ (v0 : St), FRs w v0 → Q v0) : pk_X2_argument σ Q := by
  unfold pk_X2_argument
  exact (fr_pk_X2_pop hs (fun u1 s1 p1_ p2_ => (fr_pk_X2_top (fun u6 p3_ => (fr_pk_X8_parameters (fun v34 => ⟨(fun x4_ => FRs w x4_), ⟨(fun s58 => fun j5_ => (fun s4n => fun h6_ => (fun s6n => fun h7_ => (k _ (fr_e h7_ (fr_c (fr_e h6_ (fr_c j5_ (frw_op p3_))) (frw_op p3_))))))), ⟨True, ⟨(fun j8_ => (fun s9n => fun h9_ => (fr_e h9_ (fr_c p2_ (frw_op p3_))))), ⟨(fun _ => trivial), (fun _ => (fr_pk_X8_parameter (fun v44 => (fr_pk_X6_fits p1_ (fun v47 => ⟨(fun _ => p2_), (fun _ => trivial)⟩)))))⟩⟩⟩⟩⟩))))))
theorem fr_pk_X2_lineOf {a1 : Int32} {σ : St} {Q : Int32 → Prop} (k : ∀ (v0 : Int32), Q v0) : pk_X2_lineOf a1 σ Q := by
  unfold pk_X2_lineOf
  exact (k _)
theorem fr_pk_X2_raise {w : St} {a1 : Nat} {a2 : Int32} {a3 : Int32} {σ : St} {Q : St → Prop} (ua1 : OPu a1) (hs : FRs w σ) (k : ∀ (v0 : St), FRs w v0 → Q v0) : pk_X2_raise a1 a2 a3 σ Q := by
  unfold pk_X2_raise
  exact (fun s0n => fun h1_ => ⟨(fun _ => (k _ (fr_e h1_ (fr_c hs (frw_op ua1))))), (fun _ => (fr_pk_X11_fail (fr_e h1_ (fr_c hs (frw_op ua1))) (fun s17 p2_ => (k _ p2_))))⟩)
theorem fr_pk_X2_call {w : St} {a1 : Int32} {σ : St} {Q : St → Prop} (hs : FRs w σ) (k : ∀ (v0 : St), FRs w v0 → Q v0) : pk_X2_call a1 σ Q := by
  unfold pk_X2_call
  exact (fr_pk_X2_top (fun u1 p1_ => ⟨(fun x2_ => FRs w x2_), ⟨(fun s41 => fun j3_ => (fr_pk_X2_lineOf (fun v53 => (fr_pk_X0_emit j3_ (fun v57 s57 p4_ => (fr_pk_X6_become p1_ p4_ (fun s67 p5_ => (fr_pk_X2_raise p1_ p5_ (fun s79 p6_ => (k _ p6_)))))))))), ⟨True, ⟨(fun j7_ => (fr_pk_X2_refuse hs (fun s38 p8_ => p8_))), ⟨(fun _ => trivial), (fun _ => (fr_pk_X8_parameters (fun v30 => ⟨(fun _ => hs), (fun _ => trivial)⟩)))⟩⟩⟩⟩⟩))
theorem fr_pk_X2_kindOf {a1 : Int32} {σ : St} {Q : Int32 → Prop} (k : ∀ (v0 : Int32), Q v0) : pk_X2_kindOf a1 σ Q := by
  unfold pk_X2_kindOf
  exact (k _)
theorem fr_pk_X2_fetch {w : St} {a1 : Nat} {a2 : Int32} {σ : St} {Q : St → Prop} (ua1 : OPu a1) (hs : FRs w σ) (k : ∀ (v0 : St), FRs w v0 → Q v0) : pk_X2_fetch a1 a2 σ Q := by
  unfold pk_X2_fetch
  exact ⟨(fun _ => (fr_pk_X6_isPlace ua1 (fun v25 => ⟨(fun _ => (k _ hs)), (fun _ => ⟨(fun x1_ => True), ⟨(fun y1_49 => fun j2_ => (fr_pk_X0_emit hs (fun v55 s55 p3_ => (k _ p3_)))), ⟨(fun _ => trivial), (fun _ => trivial)⟩⟩⟩)⟩))), (fun _ => (fr_pk_X0_emit hs (fun v17 s17 p4_ => (k _ p4_))))⟩
theorem fr_pk_X2_left {w : St} {a1 : Int32} {σ : St} {Q : St → Prop} (hs : FRs w σ) (k : ∀ (v0 : St), FRs w v0 → Q v0) : pk_X2_left a1 σ Q := by
  unfold pk_X2_left
  exact (fr_pk_X2_kindOf (fun v2 => (fr_pk_X2_top (fun u7 p1_ => ⟨(fun x2_ => FRs w x2_), ⟨(fun s48 => fun j3_ => ⟨True, ⟨(fun j4_ => ⟨(fun x5_ => True), ⟨(fun y2_78 => fun j6_ => (fr_pk_X0_emit j3_ (fun v81 s81 p7_ => (fun s6n => fun h8_ => (k _ (fr_e h8_ (fr_c p7_ (frw_op p1_)))))))), ⟨(fun _ => trivial), (fun _ => trivial)⟩⟩⟩), ⟨(fun _ => trivial), (fun _ => ⟨(fun _ => (k _ j3_)), (fun _ => trivial)⟩)⟩⟩⟩), ⟨True, ⟨(fun j9_ => ⟨(fun _ => hs), (fun _ => (fr_pk_X2_loaded p1_ hs (fun u44 s44 p10_ p11_ => p11_)))⟩), ⟨(fun _ => trivial), (fun _ => ⟨(fun _ => trivial), (fun _ => (fr_pk_X2_lineOf (fun v27 => (fr_pk_X2_fetch p1_ hs (fun s30 p12_ => p12_)))))⟩)⟩⟩⟩⟩⟩))))
theorem fr_pk_X2_typeOf {a0 : Int32} {a1 : Nat} {a2 : Nat} {σ : St} {Q : Int32 → Prop} (ua1 : OPu a1) (ua2 : OPu a2) (k : ∀ (v0 : Int32), Q v0) : pk_X2_typeOf a0 a1 a2 σ Q := by
  unfold pk_X2_typeOf
  exact ⟨(fun _ => (k _)), (fun _ => ⟨(fun _ => ⟨(fun x1_ => True), ⟨(fun y0_35 => fun _ => fun j2_ => ⟨True, ⟨(fun j3_ => ⟨(fun _ => (k _)), (fun _ => ⟨(fun _ => (k _)), (fun _ => (k _))⟩)⟩), ⟨True, ⟨(fun j4_ => ⟨(fun _ => (k _)), (fun _ => (k _))⟩), ⟨True, ⟨(fun j5_ => (fr_pk_X6_fits ua1 (fun v123 => ⟨(fun _ => (k _)), (fun _ => (fr_pk_X6_fits ua2 (fun v134 => ⟨(fun _ => (k _)), (fun _ => (k _))⟩)))⟩))), ⟨(fun _ => ⟨(fun _ => ⟨(fun _ => (k _)), (fun _ => (k _))⟩), (fun _ => (k _))⟩), (fun _ => ⟨(fun _ => ⟨(fun _ => ⟨(fun _ => (k _)), (fun _ => (k _))⟩), (fun _ => (k _))⟩), (fun _ => ⟨(fun _ => trivial), (fun _ => ⟨(fun _ => trivial), (fun _ => ⟨(fun _ => trivial), (fun _ => ⟨(fun _ => trivial), (fun _ => ⟨(fun _ => trivial), (fun _ => ⟨(fun _ => trivial), (fun _ => ⟨(fun _ => trivial), (fun _ => ⟨(fun _ => trivial), (fun _ => ⟨(fun _ => trivial), (fun _ => ⟨(fun _ => trivial), (fun _ => ⟨(fun _ => trivial), (fun _ => ⟨(fun _ => trivial), (fun _ => ⟨(fun _ => (k _)), (fun _ => ⟨(fun _ => (k _)), (fun _ => trivial)⟩)⟩)⟩)⟩)⟩)⟩)⟩)⟩)⟩)⟩)⟩)⟩)⟩)⟩)⟩)⟩⟩⟩⟩⟩⟩⟩), ⟨(fun _ => trivial), (fun _ => trivial)⟩⟩⟩), (fun _ => (k _))⟩)⟩
theorem fr_pk_X6_isConstant {a0 : Nat} {σ : St} {Q : Int32 → Prop} (ua0 : OPu a0) (k : ∀ (v0 : Int32), Q v0) : pk_X6_isConstant a0 σ Q := by
  unfold pk_X6_isConstant
  exact ⟨(fun _ => (k _)), (fun _ => (k _))⟩
theorem fr_pk_X5_compared {a0 : Int32} {a1 : Int32} {a2 : Int32} {σ : St} {Q : Int32 → Prop} (k : ∀ (v0 : Int32), Q v0) : pk_X5_compared a0 a1 a2 σ Q := by
  unfold pk_X5_compared
  exact ⟨(fun _ => ⟨(fun _ => (k _)), (fun _ => (k _))⟩), (fun _ => ⟨(fun _ => ⟨(fun _ => (k _)), (fun _ => (k _))⟩), (fun _ => ⟨(fun _ => ⟨(fun _ => (k _)), (fun _ => (k _))⟩), (fun _ => ⟨(fun _ => ⟨(fun _ => (k _)), (fun _ => (k _))⟩), (fun _ => ⟨(fun _ => ⟨(fun _ => (k _)), (fun _ => (k _))⟩), (fun _ => ⟨(fun _ => ⟨(fun _ => (k _)), (fun _ => (k _))⟩), (fun _ => ⟨(fun _ => ⟨(fun _ => (k _)), (fun _ => (k _))⟩), (fun _ => ⟨(fun _ => ⟨(fun _ => (k _)), (fun _ => (k _))⟩), (fun _ => ⟨(fun _ => ⟨(fun _ => (k _)), (fun _ => (k _))⟩), (fun _ => ⟨(fun _ => ⟨(fun _ => (k _)), (fun _ => (k _))⟩), (fun _ => (k _))⟩)⟩)⟩)⟩)⟩)⟩)⟩)⟩)⟩)⟩
theorem fr_pk_X5_worked {a0 : Int32} {a1 : Int32} {a2 : Int32} {σ : St} {Q : Int32 → Prop} (k : ∀ (v0 : Int32), Q v0) : pk_X5_worked a0 a1 a2 σ Q := by
  unfold pk_X5_worked
  exact ⟨(fun _ => (k _)), (fun _ => ⟨(fun _ => (k _)), (fun _ => ⟨(fun _ => (k _)), (fun _ => ⟨(fun _ => (k _)), (fun _ => ⟨(fun _ => (k _)), (fun _ => ⟨(fun _ => ⟨(fun _ => (fun _ => (k _))), (fun _ => (k _))⟩), (fun _ => ⟨(fun _ => ⟨(fun _ => (fun _ => (k _))), (fun _ => (k _))⟩), (fun _ => ⟨(fun _ => (k _)), (fun _ => ⟨(fun _ => (k _)), (fun _ => ⟨(fun _ => (k _)), (fun _ => (fr_pk_X5_compared (fun v121 => ⟨(fun _ => (k _)), (fun _ => (k _))⟩)))⟩)⟩)⟩)⟩)⟩)⟩)⟩)⟩)⟩)⟩
theorem fr_pk_X2_combine {w : St} {a0 : Int32} {a1 : Nat} {a2 : Nat} {σ : St} {Q : St → Prop} (ua1 : OPu a1) (ua2 : OPu a2) (hs : FRs w σ) (k : ∀ (v0 : St), FRs w v0 → Q v0) : pk_X2_combine a0 a1 a2 σ Q := by
  unfold pk_X2_combine
  exact ⟨(fun x1_ => True), ⟨(fun y0_24 => fun _ => fun j2_ => ⟨(fun x3_ => True), ⟨(fun y0_42 => fun _ => fun j4_ => (fr_pk_X6_isConstant ua1 (fun v45 => ⟨True, ⟨(fun j5_ => ⟨True, ⟨(fun j6_ => ⟨(fun _ => (fun s6n => fun h7_ => (k _ (fr_e h7_ (fr_c hs (frw_op ua1)))))), (fun _ => (fr_pk_X6_isConstant ua1 (fun v133 => ⟨(fun _ => (fun s11n => fun h8_ => (k _ (fr_e h8_ (fr_c hs (frw_op ua1)))))), (fun _ => ⟨(fun _ => (fun s15n => fun h9_ => (k _ (fr_e h9_ (fr_c hs (frw_op ua1)))))), (fun _ => (fun s18n => fun h10_ => (fun s20n => fun h11_ => (fun s22n => fun h12_ => (k _ (fr_e h12_ (fr_c (fr_e h11_ (fr_c (fr_e h10_ (fr_c hs (frw_op ua1))) (frw_op ua1))) (frw_op ua1))))))))⟩)⟩)))⟩), ⟨(fun _ => trivial), (fun _ => ⟨(fun _ => trivial), (fun _ => (fr_pk_X6_isConstant ua2 (fun v101 => ⟨(fun _ => trivial), (fun _ => (fr_pk_X5_worked (fun v117 => (fun s32n => fun h13_ => (k _ (fr_e h13_ (fr_c hs (frw_op ua1))))))))⟩)))⟩)⟩⟩⟩), ⟨(fun _ => trivial), (fun _ => (fr_pk_X6_isConstant ua2 (fun v52 => ⟨(fun _ => trivial), (fun _ => ⟨(fun _ => trivial), (fun _ => ⟨(fun _ => trivial), (fun _ => (fr_pk_X5_worked (fun v78 => (fun s44n => fun h14_ => (k _ (fr_e h14_ (fr_c hs (frw_op ua1))))))))⟩)⟩)⟩)))⟩⟩⟩))), ⟨True, ⟨(fun j15_ => trivial), ⟨(fun _ => trivial), (fun _ => ⟨(fun _ => trivial), (fun _ => trivial)⟩)⟩⟩⟩⟩⟩), ⟨True, ⟨(fun j16_ => trivial), ⟨True, ⟨(fun j17_ => ⟨(fun _ => trivial), (fun _ => trivial)⟩), ⟨(fun _ => trivial), (fun _ => ⟨(fun _ => trivial), (fun _ => trivial)⟩)⟩⟩⟩⟩⟩⟩⟩
theorem fr_pk_X0_cut {w : St} {a1 : Int32} {σ : St} {Q : St → Prop} (hs : FRs w σ) (k : ∀ (v0 : St), FRs w v0 → Q v0) : pk_X0_cut a1 σ Q := by
  unfold pk_X0_cut
  exact (k _ (fr_c hs (frw (by decide))))
theorem fr_pk_X2_fold {w : St} {a1 : Nat} {σ : St} {Q : St → Prop} (ua1 : OPu a1) (hs : FRs w σ) (k : ∀ (v0 : St), FRs w v0 → Q v0) : pk_X2_fold a1 σ Q := by
  unfold pk_X2_fold
  exact ⟨(fun _ => (k _ hs)), (fun _ => (fr_pk_X6_isConstant ua1 (fun v11 => ⟨(fun _ => (k _ hs)), (fun _ => (fr_pk_X0_cut hs (fun s25 p1_ => (fr_pk_X0_emit p1_ (fun v39 s39 p2_ => (k _ p2_))))))⟩)))⟩
theorem fr_pk_X0_aim {w : St} {a1 : Int32} {a2 : Int32} {σ : St} {Q : St → Prop} (hs : FRs w σ) (k : ∀ (v0 : St), FRs w v0 → Q v0) : pk_X0_aim a1 a2 σ Q := by
  unfold pk_X0_aim
  exact ⟨(fun x1_ x2_ x3_ => FRs w x3_), ⟨hs, (fun x3_8 x4_8 s8 => fun j4_ => ⟨(fun _ => (k _ j4_)), (fun _ => ⟨(fun _ => (k _ j4_)), (fun _ => (fr_F j4_ (frw (by decide))))⟩)⟩)⟩⟩
theorem fr_pk_X2_operate {w : St} {a1 : Int32} {a2 : Int32} {a3 : Int32} {σ : St} {Q : St → Prop} (hs : FRs w σ) (k : ∀ (v0 : St), FRs w v0 → Q v0) : pk_X2_operate a1 a2 a3 σ Q := by
  unfold pk_X2_operate
  exact ⟨(fun x1_ => True), ⟨(fun y0_21 => fun _ => fun j2_ => ⟨(fun x3_ => True), ⟨(fun y1_39 => fun j4_ => (fr_pk_X0_emit hs (fun v42 s42 p5_ => (k _ p5_)))), ⟨(fun _ => trivial), (fun _ => trivial)⟩⟩⟩), ⟨True, ⟨(fun j6_ => trivial), ⟨(fun _ => trivial), (fun _ => ⟨(fun _ => trivial), (fun _ => ⟨(fun _ => trivial), (fun _ => trivial)⟩)⟩)⟩⟩⟩⟩⟩
theorem fr_pk_X2_binary {w : St} {a1 : Int32} {σ : St} {Q : St → Prop} (hs : FRs w σ) (k : ∀ (v0 : St), FRs w v0 → Q v0) : pk_X2_binary a1 σ Q := by
  unfold pk_X2_binary
  exact (fr_pk_X2_kindOf (fun v2 => (fr_pk_X2_pop hs (fun u7 s7 p1_ p2_ => (fr_pk_X2_top (fun u12 p3_ => (fr_pk_X2_typeOf p3_ p1_ (fun v21 => ⟨(fun x4_ => FRs w x4_), ⟨(fun s38 => fun j5_ => ⟨(fun x6_ => FRs w x6_), ⟨(fun s108 => fun j7_ => (fr_pk_X2_combine p3_ p1_ j7_ (fun s112 p8_ => (fr_pk_X6_become p3_ p8_ (fun s124 p9_ => (fr_pk_X2_fold p3_ p9_ (fun s130 p10_ => (fr_pk_X2_raise p3_ p10_ (fun s151 p11_ => (k _ p11_)))))))))), ⟨True, ⟨(fun j12_ => (fr_pk_X0_emit j5_ (fun v59 s59 p13_ => (fr_pk_X0_aim p13_ (fun s79 p14_ => p14_))))), ⟨(fun _ => trivial), (fun _ => ⟨(fun _ => ⟨(fun x15_ => True), ⟨(fun y2_100 => fun _ => fun j16_ => (fr_pk_X2_lineOf (fun v102 => (fr_pk_X2_operate j5_ (fun s105 p17_ => p17_))))), ⟨(fun _ => trivial), (fun _ => trivial)⟩⟩⟩), (fun _ => trivial)⟩)⟩⟩⟩⟩⟩), ⟨(fun _ => p2_), (fun _ => (fr_pk_X2_refuse p2_ (fun s35 p18_ => p18_)))⟩⟩⟩))))))))
theorem fr_pk_X2_assign {w : St} {a1 : Int32} {σ : St} {Q : St → Prop} (hs : FRs w σ) (k : ∀ (v0 : St), FRs w v0 → Q v0) : pk_X2_assign a1 σ Q := by
  unfold pk_X2_assign
  exact (fr_pk_X2_kindOf (fun v2 => (fr_pk_X2_pop hs (fun u7 s7 p1_ p2_ => (fr_pk_X2_top (fun u12 p3_ => ⟨(fun x4_ => True), ⟨(fun y0_34 => fun _ => fun j5_ => ⟨(fun x6_ => True), ⟨(fun y0_79 => fun _ => fun j7_ => (fr_pk_X6_isPlace p3_ (fun v83 => ⟨(fun x8_ => FRs w x8_), ⟨(fun s99 => fun j9_ => ⟨(fun x10_ => FRs w x10_), ⟨(fun s119 => fun j11_ => ⟨(fun x12_ => FRs w x12_), ⟨(fun s179 => fun j13_ => (fr_pk_X6_become p3_ j13_ (fun s187 p14_ => (fr_pk_X2_raise p3_ p14_ (fun s208 p15_ => (k _ p15_)))))), ⟨(fun _ => ⟨(fun x16_ => True), ⟨(fun y1_168 => fun j17_ => (fr_pk_X0_emit j11_ (fun v175 s175 p18_ => p18_))), ⟨(fun _ => trivial), (fun _ => trivial)⟩⟩⟩), (fun _ => (fr_pk_X2_lineOf (fun v136 => (fr_pk_X0_emit j11_ (fun v141 s141 p19_ => p19_)))))⟩⟩⟩), ⟨(fun _ => j9_), (fun _ => (fr_pk_X2_lineOf (fun v113 => (fr_pk_X2_operate j9_ (fun s116 p20_ => p20_)))))⟩⟩⟩), ⟨True, ⟨(fun j21_ => (fr_pk_X2_refuse p2_ (fun s96 p22_ => p22_))), ⟨(fun _ => trivial), (fun _ => ⟨(fun _ => p2_), (fun _ => trivial)⟩)⟩⟩⟩⟩⟩))), ⟨(fun _ => ⟨True, ⟨(fun j23_ => trivial), ⟨(fun _ => trivial), (fun _ => ⟨True, ⟨(fun j24_ => trivial), ⟨(fun _ => trivial), (fun _ => ⟨(fun _ => trivial), (fun _ => trivial)⟩)⟩⟩⟩)⟩⟩⟩), (fun _ => (fr_pk_X6_fits p1_ (fun v48 => trivial)))⟩⟩⟩), ⟨True, ⟨(fun j25_ => trivial), ⟨(fun _ => trivial), (fun _ => ⟨(fun _ => trivial), (fun _ => trivial)⟩)⟩⟩⟩⟩⟩))))))
theorem fr_pk_X2_pointed {w : St} {a1 : Nat} {a2 : Int32} {σ : St} {Q : St → Prop} (ua1 : OPu a1) (hs : FRs w σ) (k : ∀ (v0 : St), FRs w v0 → Q v0) : pk_X2_pointed a1 a2 σ Q := by
  unfold pk_X2_pointed
  exact ⟨(fun x1_ => FRs w x1_), ⟨(fun s13 => fun j2_ => (fr_pk_X6_become ua1 j2_ (fun s21 p3_ => (fun s2n => fun h4_ => (fr_pk_X2_lineOf (fun v32 => (fun s5n => fun h5_ => (k _ (fr_e h5_ (fr_c (fr_e h4_ (fr_c p3_ (frw_op ua1))) (frw_op ua1))))))))))), ⟨(fun _ => hs), (fun _ => (fr_pk_X2_refuse hs (fun s10 p6_ => p6_)))⟩⟩⟩
theorem fr_pk_X2_index {w : St} {a1 : Int32} {σ : St} {Q : St → Prop} (hs : FRs w σ) (k : ∀ (v0 : St), FRs w v0 → Q v0) : pk_X2_index a1 σ Q := by
  unfold pk_X2_index
  exact (fr_pk_X2_pop hs (fun u1 s1 p1_ p2_ => (fr_pk_X2_top (fun u6 p3_ => ⟨(fun x4_ => FRs w x4_), ⟨(fun s22 => fun j5_ => (fr_pk_X0_emit j5_ (fun v31 s31 p6_ => (fr_pk_X2_pointed p3_ p6_ (fun s38 p7_ => (fr_pk_X2_raise p3_ p7_ (fun s57 p8_ => (k _ p8_)))))))), ⟨(fun _ => p2_), (fun _ => (fr_pk_X2_refuse p2_ (fun s19 p9_ => p9_)))⟩⟩⟩))))
theorem fr_pk_X2_step {w : St} {a1 : Nat} {a2 : Int32} {a3 : Int32} {σ : St} {Q : St → Prop} (ua1 : OPu a1) (hs : FRs w σ) (k : ∀ (v0 : St), FRs w v0 → Q v0) : pk_X2_step a1 a2 a3 σ Q := by
  unfold pk_X2_step
  exact (fr_pk_X6_isPlace ua1 (fun v1 => ⟨(fun x1_ => FRs w x1_), ⟨(fun s12 => fun j2_ => (fr_pk_X2_kindOf (fun v14 => ⟨(fun x3_ => True), ⟨(fun y0_27 => fun j4_ => ⟨(fun x5_ => True), ⟨(fun y0_39 => fun j6_ => ⟨(fun x7_ => FRs w x7_), ⟨(fun s102 => fun j8_ => (fr_pk_X6_become ua1 j8_ (fun s108 p9_ => (fr_pk_X2_raise ua1 p9_ (fun s120 p10_ => (k _ p10_)))))), ⟨(fun _ => ⟨(fun x11_ => True), ⟨(fun y1_90 => fun j12_ => (fr_pk_X0_emit j2_ (fun v98 s98 p13_ => p13_))), ⟨(fun _ => trivial), (fun _ => trivial)⟩⟩⟩), (fun _ => (fr_pk_X2_lineOf (fun v57 => (fr_pk_X0_emit j2_ (fun v64 s64 p14_ => p14_)))))⟩⟩⟩), ⟨(fun _ => trivial), (fun _ => trivial)⟩⟩⟩), ⟨(fun _ => trivial), (fun _ => trivial)⟩⟩⟩))), ⟨(fun _ => hs), (fun _ => (fr_pk_X2_refuse hs (fun s9 p15_ => p15_)))⟩⟩⟩))
theorem fr_pk_X5_inverted {a0 : Int32} {a1 : Int32} {σ : St} {Q : Int32 → Prop} (k : ∀ (v0 : Int32), Q v0) : pk_X5_inverted a0 a1 σ Q := by
  unfold pk_X5_inverted
  exact ⟨(fun _ => (k _)), (fun _ => ⟨(fun _ => (k _)), (fun _ => ⟨(fun _ => ⟨(fun _ => (k _)), (fun _ => (k _))⟩), (fun _ => ⟨(fun _ => (k _)), (fun _ => (k _))⟩)⟩)⟩)⟩
theorem fr_pk_X2_invert {w : St} {a1 : Nat} {a2 : Int32} {a3 : Int32} {σ : St} {Q : St → Prop} (ua1 : OPu a1) (hs : FRs w σ) (k : ∀ (v0 : St), FRs w v0 → Q v0) : pk_X2_invert a1 a2 a3 σ Q := by
  unfold pk_X2_invert
  exact ⟨(fun x1_ => FRs w x1_), ⟨(fun s29 => fun j2_ => ⟨(fun x3_ => True), ⟨(fun y0_53 => fun j4_ => (fr_pk_X0_emit j2_ (fun v64 s64 p5_ => (fr_pk_X5_inverted (fun v75 => (fun s4n => fun h6_ => (fr_pk_X6_isConstant ua1 (fun v84 => ⟨(fun x7_ => True), ⟨(fun y2_95 => fun _ => fun j8_ => (fr_pk_X6_become ua1 (fr_e h6_ (fr_c p5_ (frw_op ua1))) (fun s95 p9_ => (fr_pk_X2_fold ua1 p9_ (fun s100 p10_ => (k _ p10_)))))), ⟨(fun _ => trivial), (fun _ => trivial)⟩⟩⟩)))))))), ⟨(fun _ => ⟨(fun _ => trivial), (fun _ => trivial)⟩), (fun _ => trivial)⟩⟩⟩), ⟨True, ⟨(fun j11_ => (fr_pk_X2_refuse hs (fun s26 p12_ => p12_))), ⟨(fun _ => ⟨(fun _ => hs), (fun _ => trivial)⟩), (fun _ => ⟨(fun _ => hs), (fun _ => trivial)⟩)⟩⟩⟩⟩⟩
theorem fr_pk_X2_unary {w : St} {a1 : Int32} {σ : St} {Q : St → Prop} (hs : FRs w σ) (k : ∀ (v0 : St), FRs w v0 → Q v0) : pk_X2_unary a1 σ Q := by
  unfold pk_X2_unary
  exact (fr_pk_X2_kindOf (fun v2 => (fr_pk_X2_top (fun u7 p1_ => ⟨True, ⟨(fun j2_ => (fr_pk_X2_step p1_ hs (fun s27 p3_ => (k _ p3_)))), ⟨(fun _ => trivial), (fun _ => ⟨(fun _ => ⟨(fun x4_ => FRs w x4_), ⟨(fun s96 => fun j5_ => (fr_pk_X2_raise p1_ j5_ (fun s105 p6_ => (k _ p6_)))), ⟨(fun _ => ⟨(fun _ => (fr_pk_X2_loaded p1_ hs (fun u88 s88 p7_ p8_ => (fr_pk_X2_invert p7_ p8_ (fun s93 p9_ => p9_))))), (fun _ => (fr_pk_X2_loaded p1_ hs (fun u75 s75 p10_ p11_ => (fr_pk_X2_pointed p10_ p11_ (fun s79 p12_ => p12_)))))⟩), (fun _ => (fr_pk_X6_isPlace p1_ (fun v38 => ⟨(fun x13_ => FRs w x13_), ⟨(fun s58 => fun j14_ => (fr_pk_X2_address p1_ j14_ (fun s60 p15_ => p15_))), ⟨True, ⟨(fun j16_ => (fr_pk_X2_refuse hs (fun s55 p17_ => p17_))), ⟨(fun _ => trivial), (fun _ => ⟨(fun _ => hs), (fun _ => trivial)⟩)⟩⟩⟩⟩⟩)))⟩⟩⟩), (fun _ => trivial)⟩)⟩⟩⟩))))
theorem fr_pk_X2_cast {w : St} {a1 : Int32} {a2 : Int32} {σ : St} {Q : St → Prop} (hs : FRs w σ) (k : ∀ (v0 : St), FRs w v0 → Q v0) : pk_X2_cast a1 a2 σ Q := by
  unfold pk_X2_cast
  exact (fr_pk_X2_top (fun u2 p1_ => (fr_pk_X2_loaded p1_ hs (fun u5 s5 p2_ p3_ => ⟨(fun x4_ => FRs w x4_), ⟨(fun s22 => fun j5_ => (fr_pk_X6_become p2_ j5_ (fun s25 p6_ => (fr_pk_X2_raise p2_ p6_ (fun s37 p7_ => (k _ p7_)))))), ⟨(fun _ => p3_), (fun _ => (fr_pk_X2_refuse p3_ (fun s19 p8_ => p8_)))⟩⟩⟩))))
theorem fr_pk_X2_unless {w : St} {a1 : Nat} {a2 : Int32} {σ : St} {Q : Int32 → St → Prop} (ua1 : OPu a1) (hs : FRs w σ) (k : ∀ (v0 : Int32) (v1 : St), FRs w v1 → Q v0 v1) : pk_X2_unless a1 a2 σ Q := by
  unfold pk_X2_unless
  exact ⟨True, ⟨(fun j1_ => (fr_pk_X0_emit hs (fun v62 s62 p2_ => (k _ _ p2_)))), ⟨(fun _ => trivial), (fun _ => (fr_pk_X6_isConstant ua1 (fun v12 => ⟨(fun _ => trivial), (fun _ => (fr_pk_X0_cut hs (fun s26 p3_ => ⟨(fun _ => (fr_pk_X0_emit p3_ (fun v49 s49 p4_ => (k _ _ p4_)))), (fun _ => (k _ _ p3_))⟩)))⟩)))⟩⟩⟩
theorem fr_pk_X2_colon {w : St} {σ : St} {Q : St → Prop} (hs : FRs w σ) (k : ∀ (v0 : St), FRs w v0 → Q v0) : pk_X2_colon σ Q := by
  unfold pk_X2_colon
  exact (fr_pk_X2_top (fun u2 p1_ => (fr_pk_X2_loaded p1_ hs (fun u5 s5 p2_ p3_ => ⟨(fun x4_ => OPu x4_), ⟨(fun y0_47 => fun _ => fun j5_ => (fr_pk_X0_emit p3_ (fun v57 s57 p6_ => (fr_pk_X0_aim p6_ (fun s76 p7_ => (fun s5n => fun h8_ => (k _ (fr_e h8_ (fr_c p7_ (frw_op j5_)))))))))), ⟨True, ⟨(fun j9_ => op_47), ⟨(fun _ => trivial), (fun _ => ⟨(fun _ => trivial), (fun _ => (fun _ => (op_65 _)))⟩)⟩⟩⟩⟩⟩))))
theorem fr_pk_X2_choice {w : St} {a1 : Int32} {σ : St} {Q : St → Prop} (hs : FRs w σ) (k : ∀ (v0 : St), FRs w v0 → Q v0) : pk_X2_choice a1 σ Q := by
  unfold pk_X2_choice
  exact (fr_pk_X2_pop hs (fun u1 s1 p1_ p2_ => (fr_pk_X2_pop p2_ (fun u6 s6 p3_ p4_ => (fr_pk_X2_top (fun u11 p5_ => (fr_pk_X0_aim p4_ (fun s32 p6_ => ⟨(fun x7_ => FRs w x7_), ⟨(fun s71 => fun j8_ => (fr_pk_X6_become p5_ j8_ (fun s106 p9_ => (fr_pk_X2_raise p5_ p9_ (fun s117 p10_ => (k _ p10_)))))), ⟨True, ⟨(fun j11_ => (fr_pk_X2_refuse p6_ (fun s68 p12_ => p12_))), ⟨(fun _ => trivial), (fun _ => (fr_pk_X6_fits p1_ (fun v49 => ⟨(fun _ => p6_), (fun _ => (fr_pk_X6_fits p3_ (fun v60 => ⟨(fun _ => p6_), (fun _ => trivial)⟩)))⟩)))⟩⟩⟩⟩⟩))))))))
theorem fr_pk_X2_take {w : St} {a1 : Int32} {σ : St} {Q : St → Prop} (hs : FRs w σ) (k : ∀ (v0 : St), FRs w v0 → Q v0) : pk_X2_take a1 σ Q := by
  unfold pk_X2_take
  exact ⟨(fun _ => (fr_pk_X2_number hs (fun s98 p1_ => (k _ p1_)))), (fun _ => ⟨(fun _ => (fr_pk_X2_string hs (fun s106 p2_ => (k _ p2_)))), (fun _ => ⟨(fun _ => (fr_pk_X2_named hs (fun s114 p3_ => (k _ p3_)))), (fun _ => ⟨(fun _ => (fr_pk_X2_callee hs (fun s122 p4_ => (k _ p4_)))), (fun _ => ⟨(fun _ => (fr_pk_X2_argument hs (fun s129 p5_ => (k _ p5_)))), (fun _ => ⟨(fun _ => (fr_pk_X2_call hs (fun s137 p6_ => (k _ p6_)))), (fun _ => ⟨(fun _ => (fr_pk_X2_left hs (fun s145 p7_ => (k _ p7_)))), (fun _ => ⟨(fun _ => (fr_pk_X2_binary hs (fun s153 p8_ => (k _ p8_)))), (fun _ => ⟨(fun _ => (fr_pk_X2_assign hs (fun s161 p9_ => (k _ p9_)))), (fun _ => ⟨(fun _ => (fr_pk_X2_index hs (fun s169 p10_ => (k _ p10_)))), (fun _ => ⟨(fun _ => (fr_pk_X2_unary hs (fun s177 p11_ => (k _ p11_)))), (fun _ => ⟨(fun _ => (fr_pk_X2_cast hs (fun s196 p12_ => (k _ p12_)))), (fun _ => ⟨(fun _ => (fr_pk_X2_top (fun u204 p13_ => (fr_pk_X2_step p13_ hs (fun s209 p14_ => (k _ p14_)))))), (fun _ => ⟨(fun _ => (fr_pk_X2_top (fun u216 p15_ => (fr_pk_X2_top (fun u222 p16_ => (fr_pk_X2_loaded p16_ hs (fun u225 s225 p17_ p18_ => (fr_pk_X2_unless p17_ p18_ (fun v229 s229 p19_ => (fun s45n => fun h20_ => (k _ (fr_e h20_ (fr_c p19_ (frw_op p15_)))))))))))))), (fun _ => ⟨(fun _ => (fr_pk_X2_colon hs (fun s239 p21_ => (k _ p21_)))), (fun _ => (fr_pk_X2_choice hs (fun s247 p22_ => (k _ p22_))))⟩)⟩)⟩)⟩)⟩)⟩)⟩)⟩)⟩)⟩)⟩)⟩)⟩)⟩)⟩
