/-! frames of the calls that make no object -/
def FQw (c : Nat) : Prop := [10, 11, 12, 56, 57, 58, 59, 60, 61, 62, 63, 64].contains c = true
def FQs (w s : St) : Prop := ∀ c, ¬ FQw c → s c = w c
theorem fqw {c : Nat} (h : [10, 11, 12, 56, 57, 58, 59, 60, 61, 62, 63, 64].contains c = true) : FQw c := h
theorem fq_c {w s : St} {c k : Nat} {v : Int32} (h : FQs w s) (hc : FQw c) : FQs w (upC s c k v) := fun q hq => by
  rw [rdC_ne (fun e => hq (by rw [e]; exact hc))]
  exact h q hq
theorem fq_F {w s : St} {c : Nat} {f : Nat → Int32} (h : FQs w s) (hc : FQw c) : FQs w (upF s c f) := fun q hq => by
  rw [rdF_ne (fun e => hq (by rw [e]; exact hc))]
  exact h q hq
theorem fq_e {w s r : St} (e : s = r) (h : FQs w r) : FQs w s := by
  rw [e]
  exact h
theorem fq_rf {w : St} : FQs w w := fun _ _ => rfl
theorem fq_pk_X8_has {a1 : Int32} {σ : St} {Q : Int32 → Prop} (k : ∀ (v0 : Int32), Q v0) : pk_X8_has a1 σ Q := by
  unfold pk_X8_has
  exact ⟨(fun _ => (k _)), (fun _ => ⟨(fun _ => (k _)), (fun _ => (k _))⟩)⟩
theorem fq_pk_X4_choose {w : St} {a1 : Int32} {σ : St} {Q : Int32 → St → Prop} (hs : FQs w σ) (k : ∀ (v0 : Int32) (v1 : St), FQs w v1 → Q v0 v1) : pk_X4_choose a1 σ Q := by
  unfold pk_X4_choose
  exact ⟨(fun x1_ => True), ⟨trivial, (fun x2_2 => fun j2_ => ⟨(fun _ => (k _ _ (fq_c (fq_F hs (fqw (by decide))) (fqw (by decide))))), (fun _ => ⟨(fun _ => trivial), (fun _ => (k _ _ hs))⟩)⟩)⟩⟩
theorem fq_pk_X12_pick {w : St} {a1 : Int32} {σ : St} {Q : Int32 → St → Prop} (hs : FQs w σ) (k : ∀ (v0 : Int32) (v1 : St), FQs w v1 → Q v0 v1) : pk_X12_pick a1 σ Q := by
  unfold pk_X12_pick
  exact (fq_pk_X8_has (fun v5 => ⟨(fun _ => (k _ _ hs)), (fun _ => (fq_pk_X4_choose hs (fun v16 s16 p1_ => (k _ _ p1_))))⟩))
theorem fq_pk_X8_firstOf {a1 : Int32} {σ : St} {Q : Int32 → Prop} (k : ∀ (v0 : Int32), Q v0) : pk_X8_firstOf a1 σ Q := by
  unfold pk_X8_firstOf
  exact ⟨(fun _ => (k _)), (fun _ => (k _))⟩
theorem fq_pk_X8_is {a1 : Int32} {a2 : Int32} {σ : St} {Q : Int32 → Prop} (k : ∀ (v0 : Int32), Q v0) : pk_X8_is a1 a2 σ Q := by
  unfold pk_X8_is
  exact ⟨(fun _ => (k _)), (fun _ => (k _))⟩
theorem fq_pk_X8_isNamed_r55 {a1 : Int32} {a3 : Int32} {a4 : Int32} {σ : St} {Q : Int32 → Prop} (k : ∀ (v0 : Int32), Q v0) : pk_X8_isNamed_r55 a1 a3 a4 σ Q := by
  unfold pk_X8_isNamed_r55
  exact ⟨(fun _ => ⟨(fun x1_ => True), ⟨trivial, (fun x6_33 => fun j2_ => ⟨(fun _ => (k _)), (fun _ => ⟨(fun _ => (k _)), (fun _ => ⟨(fun _ => (k _)), (fun _ => ⟨(fun _ => (k _)), (fun _ => (fun _ => (fun _ => ⟨(fun _ => trivial), (fun _ => (k _))⟩)))⟩)⟩)⟩)⟩)⟩⟩), (fun _ => (k _))⟩
theorem fq_pk_X4_find_r56_r55 {a2 : Int32} {a4 : Int32} {a5 : Int32} {σ : St} {Q : Int32 → Prop} (k : ∀ (v0 : Int32), Q v0) : pk_X4_find_r56_r55 a2 a4 a5 σ Q := by
  unfold pk_X4_find_r56_r55
  exact ⟨(fun x1_ => True), ⟨trivial, (fun x6_3 => fun j2_ => ⟨(fun _ => (k _)), (fun _ => (fq_pk_X8_firstOf (fun v23 => ⟨(fun x3_ => True), ⟨trivial, (fun x8_28 => fun j4_ => ⟨(fun _ => trivial), (fun _ => (fq_pk_X8_is (fun v52 => ⟨True, ⟨(fun j5_ => trivial), ⟨(fun _ => trivial), (fun _ => (fq_pk_X8_is (fun v65 => ⟨(fun _ => trivial), (fun _ => (fq_pk_X8_isNamed_r55 (fun v82 => ⟨(fun _ => trivial), (fun _ => (k _))⟩)))⟩)))⟩⟩⟩)))⟩)⟩⟩)))⟩)⟩⟩
theorem fq_pk_X8_nameStart {a1 : Int32} {σ : St} {Q : Int32 → Prop} (k : ∀ (v0 : Int32), Q v0) : pk_X8_nameStart a1 σ Q := by
  unfold pk_X8_nameStart
  exact (k _)
theorem fq_pk_X8_isNamed_r30 {a1 : Int32} {a3 : Int32} {a4 : Int32} {σ : St} {Q : Int32 → Prop} (k : ∀ (v0 : Int32), Q v0) : pk_X8_isNamed_r30 a1 a3 a4 σ Q := by
  unfold pk_X8_isNamed_r30
  exact ⟨(fun _ => ⟨(fun x1_ => True), ⟨trivial, (fun x6_33 => fun j2_ => ⟨(fun _ => (k _)), (fun _ => ⟨(fun _ => (k _)), (fun _ => ⟨(fun _ => (k _)), (fun _ => ⟨(fun _ => (k _)), (fun _ => (fun _ => (fun _ => ⟨(fun _ => trivial), (fun _ => (k _))⟩)))⟩)⟩)⟩)⟩)⟩⟩), (fun _ => (k _))⟩
theorem fq_pk_X4_find_r56_r30 {a2 : Int32} {a4 : Int32} {a5 : Int32} {σ : St} {Q : Int32 → Prop} (k : ∀ (v0 : Int32), Q v0) : pk_X4_find_r56_r30 a2 a4 a5 σ Q := by
  unfold pk_X4_find_r56_r30
  exact ⟨(fun x1_ => True), ⟨trivial, (fun x6_3 => fun j2_ => ⟨(fun _ => (k _)), (fun _ => (fq_pk_X8_firstOf (fun v23 => ⟨(fun x3_ => True), ⟨trivial, (fun x8_28 => fun j4_ => ⟨(fun _ => trivial), (fun _ => (fq_pk_X8_is (fun v52 => ⟨True, ⟨(fun j5_ => trivial), ⟨(fun _ => trivial), (fun _ => (fq_pk_X8_is (fun v65 => ⟨(fun _ => trivial), (fun _ => (fq_pk_X8_isNamed_r30 (fun v82 => ⟨(fun _ => trivial), (fun _ => (k _))⟩)))⟩)))⟩⟩⟩)))⟩)⟩⟩)))⟩)⟩⟩
theorem fq_pk_X4_definition {a1 : Int32} {a2 : Int32} {σ : St} {Q : Int32 → Prop} (k : ∀ (v0 : Int32), Q v0) : pk_X4_definition a1 a2 σ Q := by
  unfold pk_X4_definition
  exact (fq_pk_X8_nameStart (fun v5 => (fq_pk_X4_find_r56_r30 (fun v36 => (k _)))))
theorem fq_pk_X4_refer {w : St} {a1 : Int32} {σ : St} {Q : St → Prop} (hs : FQs w σ) (k : ∀ (v0 : St), FQs w v0 → Q v0) : pk_X4_refer a1 σ Q := by
  unfold pk_X4_refer
  exact (fq_pk_X8_firstOf (fun v5 => ⟨(fun x1_ x2_ => FQs w x2_), ⟨hs, (fun x2_9 s9 => fun j3_ => ⟨(fun _ => (k _ j3_)), (fun _ => (fq_pk_X8_is (fun v30 => ⟨(fun x4_ => FQs w x4_), ⟨(fun s60 => fun j5_ => j5_), ⟨(fun _ => j3_), (fun _ => (fq_pk_X4_definition (fun v51 => (fq_F j3_ (fqw (by decide))))))⟩⟩⟩)))⟩)⟩⟩))
theorem fq_pk_X4_settle {w : St} {σ : St} {Q : St → Prop} (hs : FQs w σ) (k : ∀ (v0 : St), FQs w v0 → Q v0) : pk_X4_settle σ Q := by
  unfold pk_X4_settle
  exact ⟨(fun x1_ x2_ x3_ => FQs w x3_), ⟨(fq_c hs (fqw (by decide))), (fun x1_13 x2_13 s13 => fun j4_ => ⟨(fun _ => ⟨(fun x5_ x6_ => FQs w x6_), ⟨j4_, (fun x2_153 s153 => fun j7_ => ⟨(fun _ => (k _ j7_)), (fun _ => (fq_pk_X4_refer j7_ (fun s170 p8_ => p8_)))⟩)⟩⟩), (fun _ => (fq_pk_X8_firstOf (fun v67 => ⟨(fun x9_ x10_ => FQs w x10_), ⟨(fq_F (fq_F j4_ (fqw (by decide))) (fqw (by decide))), (fun x4_72 s72 => fun j11_ => ⟨(fun _ => j11_), (fun _ => (fq_pk_X8_is (fun v95 => ⟨(fun x12_ => True), ⟨(fun y0_113 => fun j13_ => (fq_F j11_ (fqw (by decide)))), ⟨(fun _ => trivial), (fun _ => trivial)⟩⟩⟩)))⟩)⟩⟩)))⟩)⟩⟩
theorem fq_pk_X4_dataCells {σ : St} {Q : Int32 → Prop} (k : ∀ (v0 : Int32), Q v0) : pk_X4_dataCells σ Q := by
  unfold pk_X4_dataCells
  exact ⟨(fun x1_ x2_ => True), ⟨trivial, (fun x1_4 x2_4 => fun j3_ => ⟨(fun _ => (k _)), (fun _ => trivial)⟩)⟩⟩
theorem fq_pk_X4_isMain {a1 : Int32} {σ : St} {Q : Int32 → Prop} (k : ∀ (v0 : Int32), Q v0) : pk_X4_isMain a1 σ Q := by
  unfold pk_X4_isMain
  exact ⟨(fun _ => (k _)), (fun _ => (fq_pk_X8_is (fun v10 => ⟨(fun _ => (k _)), (fun _ => ⟨(fun _ => (k _)), (fun _ => ⟨(fun _ => (k _)), (fun _ => (k _))⟩)⟩)⟩)))⟩
theorem fq_pk_X4_agrees {a1 : Int32} {a2 : Int32} {σ : St} {Q : Int32 → Prop} (k : ∀ (v0 : Int32), Q v0) : pk_X4_agrees a1 a2 σ Q := by
  unfold pk_X4_agrees
  exact (fq_pk_X8_is (fun v31 => ⟨(fun x1_ => True), ⟨(fun y0_55 => fun _ => fun j2_ => ⟨(fun _ => (k _)), (fun _ => (fq_pk_X8_is (fun v69 => ⟨(fun _ => (k _)), (fun _ => ⟨(fun _ => (k _)), (fun _ => ⟨(fun _ => (k _)), (fun _ => ⟨(fun _ => (k _)), (fun _ => (k _))⟩)⟩)⟩)⟩)))⟩), ⟨True, ⟨(fun j3_ => trivial), ⟨(fun _ => trivial), (fun _ => ⟨(fun _ => trivial), (fun _ => ⟨(fun _ => trivial), (fun _ => trivial)⟩)⟩)⟩⟩⟩⟩⟩))
theorem fq_pk_X4_isWrong {a1 : Int32} {a2 : Int32} {a3 : Int32} {σ : St} {Q : Int32 → Prop} (k : ∀ (v0 : Int32), Q v0) : pk_X4_isWrong a1 a2 a3 σ Q := by
  unfold pk_X4_isWrong
  exact (fq_pk_X8_is (fun v6 => ⟨(fun _ => ⟨(fun _ => ⟨(fun _ => (k _)), (fun _ => (fq_pk_X4_definition (fun v84 => (fq_pk_X4_agrees (fun v87 => ⟨(fun _ => (k _)), (fun _ => (k _))⟩)))))⟩), (fun _ => (fq_pk_X8_is (fun v46 => ⟨(fun _ => (k _)), (fun _ => (fq_pk_X4_definition (fun v58 => ⟨(fun _ => (k _)), (fun _ => (k _))⟩)))⟩)))⟩), (fun _ => ⟨(fun _ => (k _)), (fun _ => (fq_pk_X4_definition (fun v21 => ⟨(fun _ => (k _)), (fun _ => (k _))⟩)))⟩)⟩))
theorem fq_pk_X4_look {w : St} {a1 : Int32} {σ : St} {Q : Int32 → St → Prop} (hs : FQs w σ) (k : ∀ (v0 : Int32) (v1 : St), FQs w v1 → Q v0 v1) : pk_X4_look a1 σ Q := by
  unfold pk_X4_look
  exact ⟨(fun x1_ => True), ⟨trivial, (fun x2_2 => fun j2_ => ⟨(fun _ => (k _ _ hs)), (fun _ => (fq_pk_X8_firstOf (fun v27 => ⟨(fun x3_ x4_ => True), ⟨trivial, (fun x4_32 x5_32 => fun j5_ => ⟨(fun _ => trivial), (fun _ => (fq_pk_X8_is (fun v55 => ⟨(fun x6_ => True), ⟨(fun y0_66 => fun _ => fun j7_ => ⟨True, ⟨(fun j8_ => ⟨(fun x9_ => True), ⟨(fun y1_111 => fun _ => fun j10_ => trivial), ⟨(fun _ => trivial), (fun _ => trivial)⟩⟩⟩), ⟨(fun _ => trivial), (fun _ => (fq_pk_X4_isWrong (fun v78 => ⟨(fun _ => trivial), (fun _ => (k _ _ (fq_c (fq_c hs (fqw (by decide))) (fqw (by decide)))))⟩)))⟩⟩⟩), ⟨(fun _ => trivial), (fun _ => trivial)⟩⟩⟩)))⟩)⟩⟩)))⟩)⟩⟩
theorem fq_pk_X4_join {w : St} {σ : St} {Q : Int32 → St → Prop} (hs : FQs w σ) (k : ∀ (v0 : Int32) (v1 : St), FQs w v1 → Q v0 v1) : pk_X4_join σ Q := by
  unfold pk_X4_join
  exact (fq_pk_X4_find_r56_r55 (fun v25 => ⟨(fun x1_ x2_ x3_ => FQs w x3_), ⟨(fq_c (fq_c hs (fqw (by decide))) (fqw (by decide))), (fun x2_34 x3_34 s34 => fun j4_ => ⟨True, ⟨(fun j5_ => ⟨(fun x6_ => True), ⟨(fun x2_71 => fun j7_ => ⟨(fun x8_ => True), ⟨(fun x2_88 => fun j9_ => ⟨(fun _ => (k _ _ (fq_c j4_ (fqw (by decide))))), (fun _ => (fq_pk_X4_settle j4_ (fun s93 p10_ => (k _ _ (fq_c (fq_c (fq_c p10_ (fqw (by decide))) (fqw (by decide))) (fqw (by decide)))))))⟩), ⟨(fun _ => trivial), (fun _ => (fq_pk_X4_dataCells (fun v76 => ⟨(fun _ => trivial), (fun _ => trivial)⟩)))⟩⟩⟩), ⟨(fun _ => trivial), (fun _ => (fq_pk_X4_isMain (fun v62 => ⟨(fun _ => trivial), (fun _ => trivial)⟩)))⟩⟩⟩), ⟨(fun _ => trivial), (fun _ => ⟨(fun _ => trivial), (fun _ => (fq_pk_X4_look j4_ (fun v46 s46 p11_ => p11_)))⟩)⟩⟩⟩)⟩⟩))
theorem fq_pk_X12_link {w : St} {σ : St} {Q : Int32 → St → Prop} (hs : FQs w σ) (k : ∀ (v0 : Int32) (v1 : St), FQs w v1 → Q v0 v1) : pk_X12_link σ Q := by
  unfold pk_X12_link
  exact (fq_pk_X4_join hs (fun v4 s4 p1_ => (k _ _ p1_)))
theorem fq_pk_X4_fill_r62 {w : St} {σ : St} {Q : St → Prop} (hs : FQs w σ) (k : ∀ (v0 : St), FQs w v0 → Q v0) : pk_X4_fill_r62 σ Q := by
  unfold pk_X4_fill_r62
  exact ⟨(fun x1_ x2_ => FQs w x2_), ⟨hs, (fun x2_2 s2 => fun j3_ => ⟨(fun _ => (k _ j3_)), (fun _ => ⟨(fun x4_ x5_ => FQs w x5_), ⟨j3_, (fun x4_34 s34 => fun j6_ => ⟨(fun _ => j6_), (fun _ => ⟨(fun x7_ => True), ⟨(fun y0_101 => fun j8_ => (fq_F j6_ (fqw (by decide)))), ⟨(fun _ => ⟨(fun _ => trivial), (fun _ => trivial)⟩), (fun _ => trivial)⟩⟩⟩)⟩)⟩⟩)⟩)⟩⟩
theorem fq_pk_X9_begin {w : St} {σ : St} {Q : St → Prop} (hs : FQs w σ) (k : ∀ (v0 : St), FQs w v0 → Q v0) : pk_X9_begin σ Q := by
  unfold pk_X9_begin
  exact (k _ (fq_c (fq_c hs (fqw (by decide))) (fqw (by decide))))
theorem fq_pk_X5_begin {w : St} {a1 : Int32} {σ : St} {Q : St → Prop} (hs : FQs w σ) (k : ∀ (v0 : St), FQs w v0 → Q v0) : pk_X5_begin a1 σ Q := by
  unfold pk_X5_begin
  exact (fq_pk_X4_fill_r62 (fq_F hs (fqw (by decide))) (fun s16 p1_ => (fq_pk_X9_begin p1_ (fun s23 p2_ => (k _ (fq_c (fq_c (fq_c (fq_c (fq_c (fq_c (fq_c (fq_c (fq_c (fq_c (fq_c p2_ (fqw (by decide))) (fqw (by decide))) (fqw (by decide))) (fqw (by decide))) (fqw (by decide))) (fqw (by decide))) (fqw (by decide))) (fqw (by decide))) (fqw (by decide))) (fqw (by decide))) (fqw (by decide))))))))
theorem fq_pk_X5_fail {w : St} {a1 : Int32} {a2 : Int32} {σ : St} {Q : St → Prop} (hs : FQs w σ) (k : ∀ (v0 : St), FQs w v0 → Q v0) : pk_X5_fail a1 a2 σ Q := by
  unfold pk_X5_fail
  exact (k _ (fq_c (fq_c (fq_c hs (fqw (by decide))) (fqw (by decide))) (fqw (by decide))))
theorem fq_pk_X5_turn {w : St} {a1 : Int32} {σ : St} {Q : Int32 → St → Prop} (hs : FQs w σ) (k : ∀ (v0 : Int32) (v1 : St), FQs w v1 → Q v0 v1) : pk_X5_turn a1 σ Q := by
  unfold pk_X5_turn
  exact ⟨(fun _ => (k _ _ (fq_c hs (fqw (by decide))))), (fun _ => (fq_pk_X5_fail hs (fun s14 p1_ => (k _ _ p1_))))⟩
theorem fq_pk_X5_copyParameters {w : St} {a1 : Int32} {a2 : Int32} {σ : St} {Q : St → Prop} (hs : FQs w σ) (k : ∀ (v0 : St), FQs w v0 → Q v0) : pk_X5_copyParameters a1 a2 σ Q := by
  unfold pk_X5_copyParameters
  exact ⟨(fun x1_ x2_ x3_ => FQs w x3_), ⟨hs, (fun x3_8 x4_8 s8 => fun j4_ => ⟨(fun _ => (k _ j4_)), (fun _ => ⟨(fun x5_ x6_ => FQs w x6_), ⟨(fun x3_48 s48 => fun j7_ => j7_), ⟨(fun _ => j4_), (fun _ => (fq_F j4_ (fqw (by decide))))⟩⟩⟩)⟩)⟩⟩
theorem fq_pk_X5_enter {w : St} {a1 : Int32} {a2 : Int32} {σ : St} {Q : St → Prop} (hs : FQs w σ) (k : ∀ (v0 : St), FQs w v0 → Q v0) : pk_X5_enter a1 a2 σ Q := by
  unfold pk_X5_enter
  exact (fq_pk_X5_turn hs (fun v2 s2 p1_ => ⟨(fun _ => ⟨(fun _ => (fq_pk_X5_copyParameters (fq_c (fq_c (fq_c (fq_c (fq_c (fq_F (fq_F (fq_F p1_ (fqw (by decide))) (fqw (by decide))) (fqw (by decide))) (fqw (by decide))) (fqw (by decide))) (fqw (by decide))) (fqw (by decide))) (fqw (by decide))) (fun s176 p2_ => (k _ p2_)))), (fun _ => (fq_pk_X5_fail p1_ (fun s36 p3_ => (k _ p3_))))⟩), (fun _ => (k _ p1_))⟩))
theorem fq_pk_X9_useUp {w : St} {σ : St} {Q : St → Prop} (hs : FQs w σ) (k : ∀ (v0 : St), FQs w v0 → Q v0) : pk_X9_useUp σ Q := by
  unfold pk_X9_useUp
  exact (k _ (fq_c hs (fqw (by decide))))
theorem fq_pk_X5_stray {w : St} {σ : St} {Q : St → Prop} (hs : FQs w σ) (k : ∀ (v0 : St), FQs w v0 → Q v0) : pk_X5_stray σ Q := by
  unfold pk_X5_stray
  exact (k _ (fq_c (fq_c hs (fqw (by decide))) (fqw (by decide))))
theorem fq_pk_X5_push {w : St} {a1 : Int32} {σ : St} {Q : St → Prop} (hs : FQs w σ) (k : ∀ (v0 : St), FQs w v0 → Q v0) : pk_X5_push a1 σ Q := by
  unfold pk_X5_push
  exact (k _ (fq_c (fq_F hs (fqw (by decide))) (fqw (by decide))))
theorem fq_pk_X5_pop {w : St} {σ : St} {Q : Int32 → St → Prop} (hs : FQs w σ) (k : ∀ (v0 : Int32) (v1 : St), FQs w v1 → Q v0 v1) : pk_X5_pop σ Q := by
  unfold pk_X5_pop
  exact (k _ _ (fq_c hs (fqw (by decide))))
theorem fq_pk_X5_peeked {σ : St} {Q : Int32 → Prop} (k : ∀ (v0 : Int32), Q v0) : pk_X5_peeked σ Q := by
  unfold pk_X5_peeked
  exact (k _)
theorem fq_pk_X5_stepped_r62 {w : St} {a2 : Int32} {a3 : Int32} {σ : St} {Q : St → Prop} (hs : FQs w σ) (k : ∀ (v0 : St), FQs w v0 → Q v0) : pk_X5_stepped_r62 a2 a3 σ Q := by
  unfold pk_X5_stepped_r62
  exact (fq_pk_X5_push (fq_F hs (fqw (by decide))) (fun s39 p1_ => (k _ p1_)))
theorem fq_pk_X5_stepped_r63 {w : St} {a2 : Int32} {a3 : Int32} {σ : St} {Q : St → Prop} (hs : FQs w σ) (k : ∀ (v0 : St), FQs w v0 → Q v0) : pk_X5_stepped_r63 a2 a3 σ Q := by
  unfold pk_X5_stepped_r63
  exact (fq_pk_X5_push (fq_F hs (fqw (by decide))) (fun s39 p1_ => (k _ p1_)))
theorem fq_pk_X5_plain {w : St} {a1 : Int32} {a2 : Int32} {σ : St} {Q : St → Prop} (hs : FQs w σ) (k : ∀ (v0 : St), FQs w v0 → Q v0) : pk_X5_plain a1 a2 σ Q := by
  unfold pk_X5_plain
  exact ⟨(fun _ => (fq_pk_X5_push hs (fun s78 p1_ => (k _ p1_)))), (fun _ => ⟨(fun _ => (fq_pk_X5_pop hs (fun v85 s85 p2_ => (k _ p2_)))), (fun _ => ⟨(fun _ => (fq_pk_X5_push hs (fun s107 p3_ => (k _ p3_)))), (fun _ => ⟨(fun _ => (fq_pk_X5_push hs (fun s125 p4_ => (k _ p4_)))), (fun _ => ⟨(fun _ => (fq_pk_X5_push hs (fun s150 p5_ => (k _ p5_)))), (fun _ => ⟨(fun _ => (fq_pk_X5_peeked (fun v172 => (k _ (fq_F hs (fqw (by decide))))))), (fun _ => ⟨(fun _ => (fq_pk_X5_stepped_r62 hs (fun s198 p6_ => (k _ p6_)))), (fun _ => ⟨(fun _ => (fq_pk_X5_push hs (fun s218 p7_ => (k _ p7_)))), (fun _ => ⟨(fun _ => (fq_pk_X5_peeked (fun v235 => (k _ (fq_F hs (fqw (by decide))))))), (fun _ => (fq_pk_X5_stepped_r63 hs (fun s256 p8_ => (k _ p8_))))⟩)⟩)⟩)⟩)⟩)⟩)⟩)⟩)⟩
theorem fq_pk_X5_inFrame {w : St} {a1 : Int32} {a2 : Int32} {σ : St} {Q : St → Prop} (hs : FQs w σ) (k : ∀ (v0 : St), FQs w v0 → Q v0) : pk_X5_inFrame a1 a2 σ Q := by
  unfold pk_X5_inFrame
  exact ⟨(fun _ => (fq_pk_X5_push hs (fun s77 p1_ => (k _ p1_)))), (fun _ => ⟨(fun _ => (fq_pk_X5_peeked (fun v89 => (k _ (fq_F hs (fqw (by decide))))))), (fun _ => ⟨(fun _ => (fq_pk_X5_stepped_r62 hs (fun s105 p2_ => (k _ p2_)))), (fun _ => ⟨(fun _ => (fq_pk_X5_push hs (fun s113 p3_ => (k _ p3_)))), (fun _ => ⟨(fun _ => ⟨(fun x4_ x5_ => FQs w x5_), ⟨hs, (fun x5_122 s122 => fun j6_ => ⟨(fun _ => (k _ j6_)), (fun _ => ⟨(fun _ => (k _ j6_)), (fun _ => (fq_F j6_ (fqw (by decide))))⟩)⟩)⟩⟩), (fun _ => ⟨(fun _ => (fq_pk_X5_pop hs (fun v166 s166 p7_ => (k _ (fq_F p7_ (fqw (by decide))))))), (fun _ => (k _ (fq_F hs (fqw (by decide)))))⟩)⟩)⟩)⟩)⟩)⟩
theorem fq_pk_X5_isCell {a0 : Int32} {σ : St} {Q : Int32 → Prop} (k : ∀ (v0 : Int32), Q v0) : pk_X5_isCell a0 σ Q := by
  unfold pk_X5_isCell
  exact ⟨(fun _ => (k _)), (fun _ => ⟨(fun _ => (k _)), (fun _ => (k _))⟩)⟩
theorem fq_pk_X5_reach {w : St} {a1 : Int32} {a2 : Int32} {σ : St} {Q : St → Prop} (hs : FQs w σ) (k : ∀ (v0 : St), FQs w v0 → Q v0) : pk_X5_reach a1 a2 σ Q := by
  unfold pk_X5_reach
  exact ⟨(fun x1_ x2_ => FQs w x2_), ⟨(fun y0_25 s25 => fun j3_ => (fq_pk_X5_pop j3_ (fun v28 s28 p4_ => (fq_pk_X5_isCell (fun v35 => ⟨(fun _ => ⟨(fun _ => ⟨(fun _ => ⟨(fun _ => (fq_pk_X5_push p4_ (fun s121 p5_ => (fq_pk_X5_push p5_ (fun s134 p6_ => (k _ p6_)))))), (fun _ => (fq_pk_X5_stepped_r62 p4_ (fun s112 p7_ => (k _ p7_))))⟩), (fun _ => (fq_pk_X5_push (fq_F p4_ (fqw (by decide))) (fun s92 p8_ => (k _ p8_))))⟩), (fun _ => (fq_pk_X5_push p4_ (fun s66 p9_ => (k _ p9_))))⟩), (fun _ => (fq_pk_X5_fail p4_ (fun s44 p10_ => (k _ p10_))))⟩))))), ⟨(fun _ => hs), (fun _ => (fq_pk_X5_pop hs (fun v18 s18 p11_ => p11_)))⟩⟩⟩
theorem fq_pk_X5_inverted {a0 : Int32} {a1 : Int32} {σ : St} {Q : Int32 → Prop} (k : ∀ (v0 : Int32), Q v0) : pk_X5_inverted a0 a1 σ Q := by
  unfold pk_X5_inverted
  exact ⟨(fun _ => (k _)), (fun _ => ⟨(fun _ => (k _)), (fun _ => ⟨(fun _ => ⟨(fun _ => (k _)), (fun _ => (k _))⟩), (fun _ => ⟨(fun _ => (k _)), (fun _ => (k _))⟩)⟩)⟩)⟩
theorem fq_pk_X5_decide {w : St} {a1 : Int32} {a2 : Int32} {σ : St} {Q : St → Prop} (hs : FQs w σ) (k : ∀ (v0 : St), FQs w v0 → Q v0) : pk_X5_decide a1 a2 σ Q := by
  unfold pk_X5_decide
  exact (fq_pk_X5_pop hs (fun v1 s1 p1_ => ⟨(fun x2_ => True), ⟨(fun y0_12 => fun _ => fun j3_ => ⟨(fun _ => (k _ p1_)), (fun _ => ⟨(fun x4_ => True), ⟨(fun y1_26 => fun _ => fun j5_ => (fq_pk_X5_push p1_ (fun s26 p6_ => (k _ (fq_c p6_ (fqw (by decide))))))), ⟨(fun _ => trivial), (fun _ => trivial)⟩⟩⟩)⟩), ⟨(fun _ => trivial), (fun _ => trivial)⟩⟩⟩))
theorem fq_pk_X9_put {w : St} {a1 : Int32} {σ : St} {Q : Int32 → St → Prop} (hs : FQs w σ) (k : ∀ (v0 : Int32) (v1 : St), FQs w v1 → Q v0 v1) : pk_X9_put a1 σ Q := by
  unfold pk_X9_put
  exact ⟨(fun _ => (k _ _ hs)), (fun _ => ⟨(fun _ => (fun _ => (k _ _ (fq_c (fq_c hs (fqw (by decide))) (fqw (by decide)))))), (fun _ => (k _ _ hs))⟩)⟩
theorem fq_pk_X9_print {w : St} {a1 : Int32} {σ : St} {Q : Int32 → St → Prop} (hs : FQs w σ) (k : ∀ (v0 : Int32) (v1 : St), FQs w v1 → Q v0 v1) : pk_X9_print a1 σ Q := by
  unfold pk_X9_print
  exact ⟨(fun x1_ x2_ => True), ⟨trivial, (fun x4_12 x6_12 => fun j3_ => ⟨True, ⟨(fun j4_ => ⟨(fun x5_ x6_ => FQs w x6_), ⟨(fun y0_62 s62 => fun _ => fun j7_ => ⟨(fun x8_ x9_ x10_ => FQs w x10_), ⟨j7_, (fun x4_64 x6_64 s64 => fun _ => fun j11_ => ⟨(fun _ => (k _ _ j11_)), (fun _ => ⟨(fun _ => (k _ _ j11_)), (fun _ => (fun _ => (fq_pk_X9_put j11_ (fun v90 s90 p12_ => p12_))))⟩)⟩)⟩⟩), ⟨(fun x13_ => FQs w x13_), ⟨(fun s57 => fun j14_ => j14_), ⟨(fun _ => hs), (fun _ => (fq_pk_X9_put hs (fun v51 s51 p15_ => ⟨(fun _ => p15_), (fun _ => p15_)⟩)))⟩⟩⟩⟩⟩), ⟨(fun _ => trivial), (fun _ => ⟨(fun _ => trivial), (fun _ => trivial)⟩)⟩⟩⟩)⟩⟩
theorem fq_pk_X9_next {w : St} {σ : St} {Q : Int32 → St → Prop} (hs : FQs w σ) (k : ∀ (v0 : Int32) (v1 : St), FQs w v1 → Q v0 v1) : pk_X9_next σ Q := by
  unfold pk_X9_next
  exact ⟨(fun _ => (k _ _ hs)), (fun _ => ⟨(fun _ => (k _ _ hs)), (fun _ => ⟨(fun _ => (fun _ => (k _ _ (fq_c hs (fqw (by decide)))))), (fun _ => (k _ _ hs))⟩)⟩)⟩
theorem fq_pk_X5_useLibrary {w : St} {a1 : Int32} {a2 : Int32} {σ : St} {Q : St → Prop} (hs : FQs w σ) (k : ∀ (v0 : St), FQs w v0 → Q v0) : pk_X5_useLibrary a1 a2 σ Q := by
  unfold pk_X5_useLibrary
  exact ⟨(fun x1_ x2_ => FQs w x2_), ⟨(fun y0_12 s12 => fun j3_ => ⟨(fun x4_ x5_ => FQs w x5_), ⟨(fun y1_29 s29 => fun j6_ => (fq_pk_X5_push j6_ (fun s29 p7_ => ⟨(fun x8_ => FQs w x8_), ⟨(fun s64 => fun j9_ => (fq_pk_X5_fail j9_ (fun s68 p10_ => (k _ p10_)))), ⟨(fun x11_ => FQs w x11_), ⟨(fun s48 => fun j12_ => ⟨(fun x13_ => FQs w x13_), ⟨(fun s74 => fun j14_ => ⟨(fun _ => (k _ j14_)), (fun _ => (k _ (fq_c (fq_c j14_ (fqw (by decide))) (fqw (by decide)))))⟩), ⟨(fun _ => j12_), (fun _ => (fq_pk_X9_print j12_ (fun v58 s58 p15_ => ⟨(fun _ => p15_), (fun _ => p15_)⟩)))⟩⟩⟩), ⟨(fun _ => p7_), (fun _ => (fq_pk_X9_put p7_ (fun v42 s42 p16_ => ⟨(fun _ => p16_), (fun _ => p16_)⟩)))⟩⟩⟩⟩⟩))), ⟨(fun _ => j3_), (fun _ => (fq_pk_X9_next j3_ (fun v22 s22 p17_ => p17_)))⟩⟩⟩), ⟨(fun _ => (fq_pk_X5_pop hs (fun v9 s9 p18_ => p18_))), (fun _ => hs)⟩⟩⟩
theorem fq_pk_X5_call {w : St} {a1 : Int32} {a2 : Int32} {σ : St} {Q : St → Prop} (hs : FQs w σ) (k : ∀ (v0 : St), FQs w v0 → Q v0) : pk_X5_call a1 a2 σ Q := by
  unfold pk_X5_call
  exact ⟨(fun _ => (fq_pk_X5_useLibrary hs (fun s18 p1_ => (k _ p1_)))), (fun _ => (fq_pk_X5_enter hs (fun s7 p2_ => (k _ p2_))))⟩
theorem fq_pk_X5_giveBack {w : St} {σ : St} {Q : St → Prop} (hs : FQs w σ) (k : ∀ (v0 : St), FQs w v0 → Q v0) : pk_X5_giveBack σ Q := by
  unfold pk_X5_giveBack
  exact (fq_pk_X5_pop hs (fun v1 s1 p1_ => ⟨(fun _ => (fq_pk_X5_push (fq_c (fq_c (fq_c (fq_c (fq_c p1_ (fqw (by decide))) (fqw (by decide))) (fqw (by decide))) (fqw (by decide))) (fqw (by decide))) (fun s100 p2_ => (k _ p2_)))), (fun _ => (k _ (fq_c (fq_c (fq_c (fq_c (fq_c (fq_c (fq_c p1_ (fqw (by decide))) (fqw (by decide))) (fqw (by decide))) (fqw (by decide))) (fqw (by decide))) (fqw (by decide))) (fqw (by decide)))))⟩))
theorem fq_pk_X5_lead {w : St} {a1 : Int32} {a2 : Int32} {σ : St} {Q : St → Prop} (hs : FQs w σ) (k : ∀ (v0 : St), FQs w v0 → Q v0) : pk_X5_lead a1 a2 σ Q := by
  unfold pk_X5_lead
  exact ⟨True, ⟨(fun j1_ => ⟨(fun x2_ => True), ⟨(fun y1_120 => fun _ => fun j3_ => (fq_pk_X5_decide hs (fun s121 p4_ => (k _ p4_)))), ⟨(fun _ => trivial), (fun _ => trivial)⟩⟩⟩), ⟨(fun _ => (k _ (fq_c hs (fqw (by decide))))), (fun _ => ⟨(fun _ => (fq_pk_X5_pop hs (fun v66 s66 p5_ => ⟨(fun _ => (k _ (fq_c p5_ (fqw (by decide))))), (fun _ => (k _ (fq_c p5_ (fqw (by decide)))))⟩))), (fun _ => ⟨(fun _ => (fq_pk_X5_pop hs (fun v88 s88 p6_ => ⟨(fun _ => (k _ (fq_c p6_ (fqw (by decide))))), (fun _ => (k _ (fq_c p6_ (fqw (by decide)))))⟩))), (fun _ => ⟨(fun _ => trivial), (fun _ => ⟨(fun _ => trivial), (fun _ => ⟨(fun _ => (fq_pk_X5_turn hs (fun v129 s129 p7_ => (k _ p7_)))), (fun _ => ⟨(fun _ => (fq_pk_X5_call hs (fun s158 p8_ => (k _ p8_)))), (fun _ => (fq_pk_X5_giveBack hs (fun s165 p9_ => (k _ p9_))))⟩)⟩)⟩)⟩)⟩)⟩)⟩⟩⟩
theorem fq_pk_X5_compared {a0 : Int32} {a1 : Int32} {a2 : Int32} {σ : St} {Q : Int32 → Prop} (k : ∀ (v0 : Int32), Q v0) : pk_X5_compared a0 a1 a2 σ Q := by
  unfold pk_X5_compared
  exact ⟨(fun _ => ⟨(fun _ => (k _)), (fun _ => (k _))⟩), (fun _ => ⟨(fun _ => ⟨(fun _ => (k _)), (fun _ => (k _))⟩), (fun _ => ⟨(fun _ => ⟨(fun _ => (k _)), (fun _ => (k _))⟩), (fun _ => ⟨(fun _ => ⟨(fun _ => (k _)), (fun _ => (k _))⟩), (fun _ => ⟨(fun _ => ⟨(fun _ => (k _)), (fun _ => (k _))⟩), (fun _ => ⟨(fun _ => ⟨(fun _ => (k _)), (fun _ => (k _))⟩), (fun _ => ⟨(fun _ => ⟨(fun _ => (k _)), (fun _ => (k _))⟩), (fun _ => ⟨(fun _ => ⟨(fun _ => (k _)), (fun _ => (k _))⟩), (fun _ => ⟨(fun _ => ⟨(fun _ => (k _)), (fun _ => (k _))⟩), (fun _ => ⟨(fun _ => ⟨(fun _ => (k _)), (fun _ => (k _))⟩), (fun _ => (k _))⟩)⟩)⟩)⟩)⟩)⟩)⟩)⟩)⟩)⟩
theorem fq_pk_X5_worked {a0 : Int32} {a1 : Int32} {a2 : Int32} {σ : St} {Q : Int32 → Prop} (k : ∀ (v0 : Int32), Q v0) : pk_X5_worked a0 a1 a2 σ Q := by
  unfold pk_X5_worked
  exact ⟨(fun _ => (k _)), (fun _ => ⟨(fun _ => (k _)), (fun _ => ⟨(fun _ => (k _)), (fun _ => ⟨(fun _ => (k _)), (fun _ => ⟨(fun _ => (k _)), (fun _ => ⟨(fun _ => ⟨(fun _ => (fun _ => (k _))), (fun _ => (k _))⟩), (fun _ => ⟨(fun _ => ⟨(fun _ => (fun _ => (k _))), (fun _ => (k _))⟩), (fun _ => ⟨(fun _ => (k _)), (fun _ => ⟨(fun _ => (k _)), (fun _ => ⟨(fun _ => (k _)), (fun _ => (fq_pk_X5_compared (fun v121 => ⟨(fun _ => (k _)), (fun _ => (k _))⟩)))⟩)⟩)⟩)⟩)⟩)⟩)⟩)⟩)⟩)⟩
theorem fq_pk_X5_calculate {w : St} {a1 : Int32} {a2 : Int32} {σ : St} {Q : St → Prop} (hs : FQs w σ) (k : ∀ (v0 : St), FQs w v0 → Q v0) : pk_X5_calculate a1 a2 σ Q := by
  unfold pk_X5_calculate
  exact (fq_pk_X5_pop hs (fun v1 s1 p1_ => (fq_pk_X5_pop p1_ (fun v6 s6 p2_ => ⟨True, ⟨(fun j3_ => (fq_pk_X5_worked (fun v50 => (fq_pk_X5_push p2_ (fun s53 p4_ => (k _ p4_)))))), ⟨True, ⟨(fun j5_ => ⟨(fun _ => trivial), (fun _ => (fq_pk_X5_fail p2_ (fun s39 p6_ => (k _ p6_))))⟩), ⟨(fun _ => trivial), (fun _ => ⟨(fun _ => trivial), (fun _ => trivial)⟩)⟩⟩⟩⟩⟩))))
theorem fq_pk_X5_step {w : St} {σ : St} {Q : St → Prop} (hs : FQs w σ) (k : ∀ (v0 : St), FQs w v0 → Q v0) : pk_X5_step σ Q := by
  unfold pk_X5_step
  exact ⟨True, ⟨(fun j1_ => (fq_pk_X5_stray hs (fun s51 p2_ => (k _ p2_)))), ⟨(fun _ => trivial), (fun _ => ⟨(fun _ => trivial), (fun _ => ⟨(fun _ => ⟨(fun _ => ⟨(fun _ => ⟨(fun _ => ⟨(fun _ => ⟨(fun _ => (fq_pk_X5_plain (fq_c hs (fqw (by decide))) (fun s146 p3_ => (k _ p3_)))), (fun _ => (fq_pk_X5_inFrame (fq_c hs (fqw (by decide))) (fun s137 p4_ => (k _ p4_))))⟩), (fun _ => (fq_pk_X5_reach (fq_c hs (fqw (by decide))) (fun s122 p5_ => (k _ p5_))))⟩), (fun _ => (fq_pk_X5_pop (fq_c hs (fqw (by decide))) (fun v101 s101 p6_ => (fq_pk_X5_inverted (fun v104 => (fq_pk_X5_push p6_ (fun s107 p7_ => (k _ p7_))))))))⟩), (fun _ => (fq_pk_X5_lead (fq_c hs (fqw (by decide))) (fun s86 p8_ => (k _ p8_))))⟩), (fun _ => (fq_pk_X5_calculate (fq_c hs (fqw (by decide))) (fun s71 p9_ => (k _ p9_))))⟩), (fun _ => trivial)⟩)⟩)⟩⟩⟩
theorem fq_pk_X5_execute {w : St} {a1 : Int32} {σ : St} {Q : Int32 → St → Prop} (hs : FQs w σ) (k : ∀ (v0 : Int32) (v1 : St), FQs w v1 → Q v0 v1) : pk_X5_execute a1 σ Q := by
  unfold pk_X5_execute
  exact (fq_pk_X5_begin hs (fun s2 p1_ => (fq_pk_X5_enter p1_ (fun s14 p2_ => ⟨(fun x3_ x4_ => FQs w x4_), ⟨p2_, (fun x4_48 s48 => fun j5_ => ⟨True, ⟨(fun j6_ => ⟨(fun x7_ => FQs w x7_), ⟨(fun s88 => fun j8_ => (fq_pk_X9_useUp j8_ (fun s92 p9_ => (k _ _ p9_)))), ⟨(fun _ => j5_), (fun _ => (fq_pk_X5_stray j5_ (fun s85 p10_ => p10_)))⟩⟩⟩), ⟨(fun _ => trivial), (fun _ => ⟨(fun _ => trivial), (fun _ => (fq_pk_X5_step j5_ (fun s64 p11_ => p11_)))⟩)⟩⟩⟩)⟩⟩))))
theorem fq_pk_X12_run {w : St} {a1 : Int32} {σ : St} {Q : Int32 → St → Prop} (hs : FQs w σ) (k : ∀ (v0 : Int32) (v1 : St), FQs w v1 → Q v0 v1) : pk_X12_run a1 σ Q := by
  unfold pk_X12_run
  exact ⟨(fun _ => ⟨(fun _ => (k _ _ hs)), (fun _ => ⟨(fun _ => (fq_pk_X5_execute hs (fun v33 s33 p1_ => (k _ _ p1_)))), (fun _ => (k _ _ hs))⟩)⟩), (fun _ => (k _ _ hs))⟩
theorem fq_pk_X9_give {w : St} {a1 : Int32} {σ : St} {Q : Int32 → St → Prop} (hs : FQs w σ) (k : ∀ (v0 : Int32) (v1 : St), FQs w v1 → Q v0 v1) : pk_X9_give a1 σ Q := by
  unfold pk_X9_give
  exact ⟨(fun _ => (k _ _ hs)), (fun _ => ⟨(fun _ => (fun _ => (k _ _ (fq_c (fq_c hs (fqw (by decide))) (fqw (by decide)))))), (fun _ => (k _ _ hs))⟩)⟩
theorem fq_pk_X12_input {w : St} {a1 : Int32} {σ : St} {Q : Int32 → St → Prop} (hs : FQs w σ) (k : ∀ (v0 : Int32) (v1 : St), FQs w v1 → Q v0 v1) : pk_X12_input a1 σ Q := by
  unfold pk_X12_input
  exact (fq_pk_X9_give hs (fun v5 s5 p1_ => (k _ _ p1_)))
theorem fq_pk_X8_isNamed_r1 {a1 : Int32} {a3 : Int32} {a4 : Int32} {σ : St} {Q : Int32 → Prop} (k : ∀ (v0 : Int32), Q v0) : pk_X8_isNamed_r1 a1 a3 a4 σ Q := by
  unfold pk_X8_isNamed_r1
  exact ⟨(fun _ => ⟨(fun x1_ => True), ⟨trivial, (fun x6_33 => fun j2_ => ⟨(fun _ => (k _)), (fun _ => ⟨(fun _ => (k _)), (fun _ => ⟨(fun _ => (k _)), (fun _ => ⟨(fun _ => (k _)), (fun _ => (fun _ => (fun _ => ⟨(fun _ => trivial), (fun _ => (k _))⟩)))⟩)⟩)⟩)⟩)⟩⟩), (fun _ => (k _))⟩
theorem fq_pk_X4_find_r57_r1 {a2 : Int32} {a4 : Int32} {a5 : Int32} {σ : St} {Q : Int32 → Prop} (k : ∀ (v0 : Int32), Q v0) : pk_X4_find_r57_r1 a2 a4 a5 σ Q := by
  unfold pk_X4_find_r57_r1
  exact ⟨(fun x1_ => True), ⟨trivial, (fun x6_3 => fun j2_ => ⟨(fun _ => (k _)), (fun _ => (fq_pk_X8_firstOf (fun v23 => ⟨(fun x3_ => True), ⟨trivial, (fun x8_28 => fun j4_ => ⟨(fun _ => trivial), (fun _ => (fq_pk_X8_is (fun v52 => ⟨True, ⟨(fun j5_ => trivial), ⟨(fun _ => trivial), (fun _ => (fq_pk_X8_is (fun v65 => ⟨(fun _ => trivial), (fun _ => (fq_pk_X8_isNamed_r1 (fun v82 => ⟨(fun _ => trivial), (fun _ => (k _))⟩)))⟩)))⟩⟩⟩)))⟩)⟩⟩)))⟩)⟩⟩
theorem fq_pk_X4_cellOf_r1 {a2 : Int32} {σ : St} {Q : Int32 → Prop} (k : ∀ (v0 : Int32), Q v0) : pk_X4_cellOf_r1 a2 σ Q := by
  unfold pk_X4_cellOf_r1
  exact ⟨(fun x1_ => True), ⟨(fun y0_26 => fun j2_ => ⟨(fun _ => (fq_pk_X8_is (fun v39 => ⟨(fun _ => (k _)), (fun _ => (k _))⟩))), (fun _ => (k _))⟩), ⟨(fun _ => trivial), (fun _ => (fq_pk_X4_find_r57_r1 (fun v19 => trivial)))⟩⟩⟩
/-- the reference -/
def FMs (w s : St) : Prop := (s 1 = w 1 ∧ s 22 = w 22) ∧ s 0 1 = w 0 1 ∧ s 0 2 = w 0 2 ∧ s 0 31 = w 0 31 ∧ s 0 35 = w 0 35 ∧ s 0 36 = w 0 36
theorem fm_z {w s : St} {k : Nat} {v : Int32} (h : FMs w s) (hk : [1, 2, 31, 35, 36].contains k = false) : FMs w (upC s 0 k v) := by
  obtain ⟨⟨h1, h2⟩, h3, h4, h5, h6, h7⟩ := h
  have n : ∀ j, [1, 2, 31, 35, 36].contains j = true → j ≠ k := fun j hj e => by rw [e, hk] at hj; cases hj
  exact ⟨⟨by rw [rdC_ne (by decide)]; exact h1, by rw [rdC_ne (by decide)]; exact h2⟩, by rw [rdA_ne (n 1 rfl)]; exact h3, by rw [rdA_ne (n 2 rfl)]; exact h4, by rw [rdA_ne (n 31 rfl)]; exact h5, by rw [rdA_ne (n 35 rfl)]; exact h6, by rw [rdA_ne (n 36 rfl)]; exact h7⟩
theorem fm_c {w s : St} {c k : Nat} {v : Int32} (h : FMs w s) (hc : c ≠ 0 ∧ c ≠ 1 ∧ c ≠ 22) : FMs w (upC s c k v) := by
  obtain ⟨⟨h1, h2⟩, h3, h4, h5, h6, h7⟩ := h
  exact ⟨⟨by rw [rdC_ne (fun e => hc.2.1 e.symm)]; exact h1, by rw [rdC_ne (fun e => hc.2.2 e.symm)]; exact h2⟩, by rw [rdC_ne (fun e => hc.1 e.symm)]; exact h3, by rw [rdC_ne (fun e => hc.1 e.symm)]; exact h4, by rw [rdC_ne (fun e => hc.1 e.symm)]; exact h5, by rw [rdC_ne (fun e => hc.1 e.symm)]; exact h6, by rw [rdC_ne (fun e => hc.1 e.symm)]; exact h7⟩
theorem fm_rf {w : St} : FMs w w := ⟨⟨rfl, rfl⟩, rfl, rfl, rfl, rfl, rfl⟩
theorem fm_pp_isObject {a1 : Int32} {σ : St} {τ : St} {vs : List Nat} {Q : Int32 → Prop} (k : ∀ (v0 : Int32), Q v0) : pp_isObject a1 σ τ vs Q := by
  unfold pp_isObject
  exact ⟨(fun _ => (k _)), (fun _ => ⟨(fun _ => (k _)), (fun _ => (k _))⟩)⟩
theorem fm_pp_pick {w : St} {a1 : Int32} {σ : St} {τ : St} {vs : List Nat} {Q : Int32 → St → St → List Nat → Prop} (hs : FMs w σ) (k : ∀ (v0 : Int32) (v1 : St) (v2 : St) (v3 : List Nat), FMs w v1 → Q v0 v1 v2 v3) : pp_pick a1 σ τ vs Q := by
  unfold pp_pick
  exact (fm_pp_isObject (fun v2 => ⟨(fun _ => ⟨(fun x1_ => True), ⟨trivial, (fun x2_12 => fun j2_ => ⟨(fun _ => (fun _ => (k _ _ _ _ (fm_z (fm_c hs (by decide)) rfl)))), (fun _ => (fun _ => ⟨(fun _ => trivial), (fun _ => (k _ _ _ _ hs))⟩))⟩)⟩⟩), (fun _ => (k _ _ _ _ hs))⟩))
theorem fm_pp_isSymbol {a1 : Int32} {a2 : Int32} {σ : St} {τ : St} {vs : List Nat} {Q : Int32 → Prop} (k : ∀ (v0 : Int32), Q v0) : pp_isSymbol a1 a2 σ τ vs Q := by
  unfold pp_isSymbol
  exact (fun _ => ⟨(fun _ => (k _)), (fun _ => (fun _ => ⟨(fun _ => (k _)), (fun _ => (k _))⟩))⟩)
theorem fm_pp_mainOf {a1 : Int32} {σ : St} {τ : St} {vs : List Nat} {Q : Int32 → Prop} (k : ∀ (v0 : Int32), Q v0) : pp_mainOf a1 σ τ vs Q := by
  unfold pp_mainOf
  exact ⟨(fun x1_ => True), ⟨trivial, (fun x2_2 => fun j2_ => ⟨(fun _ => (k _)), (fun _ => (fun _ => (fun _ => ⟨(fun x3_ => True), ⟨trivial, (fun x3_21 => fun j4_ => fun _ => fun _ => ⟨(fun _ => trivial), (fun _ => (fun _ => ⟨(fun x5_ => True), ⟨(fun y0_121 => fun _ => fun j6_ => ⟨True, ⟨(fun j7_ => trivial), ⟨(fun _ => trivial), (fun _ => (fm_pp_isSymbol (fun v131 => ⟨(fun _ => trivial), (fun _ => (fun _ => ⟨(fun _ => trivial), (fun _ => (fun _ => ⟨(fun _ => trivial), (fun _ => (fun _ => ⟨(fun _ => trivial), (fun _ => (fun _ => (k _)))⟩))⟩))⟩))⟩)))⟩⟩⟩), ⟨True, ⟨(fun j8_ => trivial), ⟨(fun _ => trivial), (fun _ => (fun _ => (fun _ => ⟨(fun _ => trivial), (fun _ => (fun _ => (fun _ => ⟨(fun _ => trivial), (fun _ => (fun _ => (fun _ => ⟨(fun _ => trivial), (fun _ => (fun _ => (fun _ => ⟨(fun _ => trivial), (fun _ => trivial)⟩)))⟩)))⟩)))⟩)))⟩⟩⟩⟩⟩))⟩)⟩⟩)))⟩)⟩⟩
theorem fm_pp_isAlike {a1 : Int32} {a2 : Int32} {σ : St} {τ : St} {vs : List Nat} {Q : Int32 → Prop} (k : ∀ (v0 : Int32), Q v0) : pp_isAlike a1 a2 σ τ vs Q := by
  unfold pp_isAlike
  exact (fun _ => (fun _ => ⟨(fun _ => ⟨(fun x1_ => True), ⟨trivial, (fun x3_19 => fun j2_ => fun _ => ⟨(fun _ => (k _)), (fun _ => (fun _ => (fun _ => (fun _ => (fun _ => ⟨(fun _ => trivial), (fun _ => (k _))⟩)))))⟩)⟩⟩), (fun _ => (k _))⟩))
theorem fm_pp_find {w : St} {a1 : Int32} {a2 : Int32} {σ : St} {τ : St} {vs : List Nat} {Q : Int32 → St → St → List Nat → Prop} (hs : FMs w σ) (k : ∀ (v0 : Int32) (v1 : St) (v2 : St) (v3 : List Nat), FMs w v1 → Q v0 v1 v2 v3) : pp_find a1 a2 σ τ vs Q := by
  unfold pp_find
  exact ⟨(fun x1_ => True), ⟨trivial, (fun x3_2 => fun j2_ => ⟨(fun _ => (k _ _ _ _ hs)), (fun _ => (fun _ => (fun _ => ⟨(fun x3_ => True), ⟨trivial, (fun x4_22 => fun j4_ => fun _ => fun _ => ⟨(fun _ => trivial), (fun _ => (fm_pp_isSymbol (fun v42 => ⟨True, ⟨(fun j5_ => trivial), ⟨(fun _ => trivial), (fun _ => (fm_pp_isAlike (fun v52 => ⟨(fun _ => (k _ _ _ _ (fm_z (fm_z hs rfl) rfl))), (fun _ => trivial)⟩)))⟩⟩⟩)))⟩)⟩⟩)))⟩)⟩⟩
theorem fm_pp_library_0 {a1 : Int32} {σ : St} {τ : St} {vs : List Nat} {Q : Int32 → Prop} (k : ∀ (v0 : Int32), Q v0) : pp_library_0 a1 σ τ vs Q := by
  unfold pp_library_0
  exact ⟨(fun x1_ x2_ => True), ⟨trivial, (fun x2_4 x3_4 => fun j3_ => ⟨(fun _ => (k _)), (fun _ => ⟨(fun x4_ => True), ⟨trivial, (fun x4_12 => fun j5_ => fun _ => ⟨(fun _ => (fun _ => ⟨(fun x6_ => True), ⟨(fun y0_49 => fun _ => fun j7_ => ⟨(fun x8_ x9_ => True), ⟨trivial, (fun x5_54 x6_54 => fun _ => fun j10_ => ⟨True, ⟨(fun j11_ => ⟨(fun _ => trivial), (fun _ => (k _))⟩), ⟨(fun _ => trivial), (fun _ => ⟨(fun _ => trivial), (fun _ => (fun _ => (fun _ => (fun _ => ⟨(fun x12_ => True), ⟨(fun y0_100 => fun _ => fun j13_ => trivial), ⟨(fun _ => trivial), (fun _ => trivial)⟩⟩⟩))))⟩)⟩⟩⟩)⟩⟩), ⟨(fun _ => trivial), (fun _ => trivial)⟩⟩⟩)), (fun _ => trivial)⟩)⟩⟩)⟩)⟩⟩
theorem fm_pp_aimOf {w : St} {a1 : Int32} {a2 : Int32} {a3 : Int32} {σ : St} {τ : St} {vs : List Nat} {Q : Int32 → St → St → List Nat → Prop} (hs : FMs w σ) (k : ∀ (v0 : Int32) (v1 : St) (v2 : St) (v3 : List Nat), FMs w v1 → Q v0 v1 v2 v3) : pp_aimOf a1 a2 a3 σ τ vs Q := by
  unfold pp_aimOf
  exact (fun _ => ⟨(fun _ => (fun _ => ⟨(fun x1_ => True), ⟨(fun y0_60 => fun j2_ => ⟨(fun _ => (fun _ => ⟨(fun _ => (k _ _ _ _ hs)), (fun _ => (fm_pp_find hs (fun v84 s84 t84 z84 p3_ => ⟨(fun _ => (fun _ => ⟨(fun _ => (fun _ => (k _ _ _ _ p3_))), (fun _ => (fun _ => (fun _ => (k _ _ _ _ p3_))))⟩)), (fun _ => (k _ _ _ _ p3_))⟩)))⟩)), (fun _ => (k _ _ _ _ hs))⟩), ⟨(fun _ => (fm_pp_library_0 (fun v57 => trivial))), (fun _ => trivial)⟩⟩⟩)), (fun _ => (fun _ => ⟨(fun _ => (fun _ => (k _ _ _ _ hs))), (fun _ => (fun _ => (fun _ => (k _ _ _ _ hs))))⟩))⟩)
theorem fm_pp_layAll {w : St} {a1 : Int32} {σ : St} {τ : St} {vs : List Nat} {Q : St → St → List Nat → Prop} (hs : FMs w σ) (k : ∀ (v0 : St) (v1 : St) (v2 : List Nat), FMs w v0 → Q v0 v1 v2) : pp_layAll a1 σ τ vs Q := by
  unfold pp_layAll
  exact ⟨(fun x1_ x2_ x3_ x4_ x5_ => FMs w x3_), ⟨hs, (fun x2_5 x3_5 s5 t5 z5 => fun j6_ => ⟨(fun _ => ⟨(fun x7_ x8_ x9_ x10_ => FMs w x8_), ⟨j6_, (fun x3_55 s55 t55 z55 => fun j11_ => ⟨(fun _ => ⟨(fun x12_ x13_ x14_ x15_ => FMs w x13_), ⟨j11_, (fun x3_79 s79 t79 z79 => fun j16_ => ⟨(fun _ => (k _ _ _ (fm_z j16_ rfl))), (fun _ => (fun _ => (fun _ => ⟨(fun x17_ x18_ x19_ x20_ => FMs w x18_), ⟨j16_, (fun x5_103 s103 t103 z103 => fun j21_ => fun _ => ⟨(fun _ => (fun _ => ⟨(fun x22_ x23_ x24_ x25_ => FMs w x23_), ⟨j21_, (fun x5_147 s147 t147 z147 => fun j26_ => fun _ => ⟨(fun _ => (fun _ => (fun _ => (fm_c j26_ (by decide))))), (fun _ => (fun _ => ⟨(fun x27_ => True), ⟨(fun y0_217 => fun j28_ => fun _ => fun _ => fun _ => fun _ => (fm_c j26_ (by decide))), ⟨(fun _ => ⟨(fun _ => trivial), (fun _ => (fun _ => trivial))⟩), (fun _ => (fun _ => (fun _ => trivial)))⟩⟩⟩))⟩)⟩⟩)), (fun _ => (fm_pp_aimOf j21_ (fun v128 s128 t128 z128 p29_ => (fun _ => (fm_c p29_ (by decide))))))⟩)⟩⟩)))⟩)⟩⟩), (fun _ => (fun _ => (fm_c j11_ (by decide))))⟩)⟩⟩), (fun _ => (fun _ => (fun _ => (fun _ => (fun _ => (fun _ => (fm_c (fm_c j6_ (by decide)) (by decide))))))))⟩)⟩⟩
theorem fm_pp_hasType {a1 : Int32} {a2 : Int32} {σ : St} {τ : St} {vs : List Nat} {Q : Int32 → Prop} (k : ∀ (v0 : Int32), Q v0) : pp_hasType a1 a2 σ τ vs Q := by
  unfold pp_hasType
  exact (fun _ => (fun _ => ⟨(fun _ => (k _)), (fun _ => (fun _ => (fun _ => ⟨(fun _ => (fun _ => ⟨(fun _ => (fun _ => (fun _ => ⟨(fun _ => ⟨(fun x1_ => True), ⟨trivial, (fun x3_122 => fun j2_ => fun _ => ⟨(fun _ => (k _)), (fun _ => (fun _ => (fun _ => ⟨(fun _ => trivial), (fun _ => (k _))⟩)))⟩)⟩⟩), (fun _ => (k _))⟩))), (fun _ => (fun _ => ⟨(fun x3_ => True), ⟨(fun y0_56 => fun _ => fun j4_ => fun _ => ⟨(fun x5_ => True), ⟨(fun y1_70 => fun _ => fun j6_ => ⟨(fun _ => (k _)), (fun _ => (fun _ => ⟨(fun _ => (k _)), (fun _ => (fun _ => (fun _ => ⟨(fun _ => (k _)), (fun _ => (k _))⟩)))⟩))⟩), ⟨(fun _ => trivial), (fun _ => trivial)⟩⟩⟩), ⟨(fun _ => trivial), (fun _ => trivial)⟩⟩⟩))⟩)), (fun _ => (k _))⟩)))⟩))
theorem fm_pp_hasLibraryType {a1 : Int32} {a2 : Int32} {σ : St} {τ : St} {vs : List Nat} {Q : Int32 → Prop} (k : ∀ (v0 : Int32), Q v0) : pp_hasLibraryType a1 a2 σ τ vs Q := by
  unfold pp_hasLibraryType
  exact (fun _ => ⟨(fun _ => ⟨(fun _ => (fun _ => ⟨(fun _ => (k _)), (fun _ => (fun _ => ⟨(fun _ => (k _)), (fun _ => (fun _ => ⟨(fun _ => (k _)), (fun _ => (k _))⟩))⟩))⟩)), (fun _ => (fun _ => ⟨(fun _ => (k _)), (fun _ => (fun _ => ⟨(fun _ => (k _)), (fun _ => (k _))⟩))⟩))⟩), (fun _ => (k _))⟩)
theorem fm_pp_holds {w : St} {a1 : Int32} {a2 : Int32} {a3 : Int32} {a4 : Int32} {σ : St} {τ : St} {vs : List Nat} {Q : Int32 → St → St → List Nat → Prop} (hs : FMs w σ) (k : ∀ (v0 : Int32) (v1 : St) (v2 : St) (v3 : List Nat), FMs w v1 → Q v0 v1 v2 v3) : pp_holds a1 a2 a3 a4 σ τ vs Q := by
  unfold pp_holds
  exact (fm_pp_library_0 (fun v2 => ⟨(fun _ => (fm_pp_isSymbol (fun v45 => ⟨(fun _ => ⟨(fun _ => ⟨(fun _ => (fm_pp_find hs (fun v114 s114 t114 z114 p1_ => ⟨(fun _ => (k _ _ _ _ p1_)), (fun _ => (fm_pp_hasType (fun v126 => ⟨(fun _ => (k _ _ _ _ p1_)), (fun _ => (k _ _ _ _ p1_))⟩)))⟩))), (fun _ => (fm_pp_hasLibraryType (fun v98 => ⟨(fun _ => (k _ _ _ _ hs)), (fun _ => (k _ _ _ _ hs))⟩)))⟩), (fun _ => (fun _ => ⟨(fun _ => (k _ _ _ _ hs)), (fun _ => ⟨(fun _ => (k _ _ _ _ hs)), (fun _ => (fm_pp_find hs (fun v77 s77 t77 z77 p2_ => ⟨(fun _ => (k _ _ _ _ p2_)), (fun _ => (k _ _ _ _ p2_))⟩)))⟩)⟩))⟩), (fun _ => (k _ _ _ _ hs))⟩))), (fun _ => (fm_pp_isSymbol (fun v16 => ⟨(fun _ => (k _ _ _ _ hs)), (fun _ => ⟨(fun _ => (k _ _ _ _ hs)), (fun _ => (fm_pp_find hs (fun v30 s30 t30 z30 p3_ => ⟨(fun _ => (k _ _ _ _ p3_)), (fun _ => (k _ _ _ _ p3_))⟩)))⟩)⟩)))⟩))
theorem fm_pp_isFault {w : St} {a1 : Int32} {a2 : Int32} {σ : St} {τ : St} {vs : List Nat} {Q : Int32 → St → St → List Nat → Prop} (hs : FMs w σ) (k : ∀ (v0 : Int32) (v1 : St) (v2 : St) (v3 : List Nat), FMs w v1 → Q v0 v1 v2 v3) : pp_isFault a1 a2 σ τ vs Q := by
  unfold pp_isFault
  exact ⟨(fun x1_ x2_ x3_ x4_ => FMs w x2_), ⟨hs, (fun x3_2 s2 t2 z2 => fun j5_ => ⟨(fun _ => (k _ _ _ _ j5_)), (fun _ => (fun _ => (fun _ => ⟨(fun x6_ x7_ x8_ x9_ x10_ => FMs w x8_), ⟨j5_, (fun x4_25 x5_25 s25 t25 z25 => fun j11_ => fun _ => fun _ => ⟨(fun _ => j11_), (fun _ => (fun _ => ⟨(fun x12_ x13_ x14_ x15_ => FMs w x13_), ⟨(fun x4_82 s82 t82 z82 => fun j16_ => j16_), ⟨(fun _ => (fm_pp_holds j11_ (fun v60 s60 t60 z60 p17_ => ⟨(fun _ => p17_), (fun _ => (k _ _ _ _ (fm_z (fm_z p17_ rfl) rfl)))⟩))), (fun _ => j11_)⟩⟩⟩))⟩)⟩⟩)))⟩)⟩⟩
theorem fm_pp_link {w : St} {σ : St} {τ : St} {vs : List Nat} {Q : Int32 → St → St → List Nat → Prop} (hs : FMs w σ) (k : ∀ (v0 : Int32) (v1 : St) (v2 : St) (v3 : List Nat), FMs w v1 → Q v0 v1 v2 v3) : pp_link σ τ vs Q := by
  unfold pp_link
  exact ⟨(fun x1_ x2_ x3_ x4_ => FMs w x2_), ⟨(fm_z (fm_z (fm_z hs rfl) rfl) rfl), (fun x2_23 s23 t23 z23 => fun j5_ => ⟨(fun _ => (fm_pp_mainOf (fun v49 => ⟨(fun _ => ⟨(fun x6_ x7_ => True), ⟨trivial, (fun x3_65 x4_65 => fun j8_ => ⟨(fun _ => ⟨(fun _ => (fm_pp_layAll (fm_z j5_ rfl) (fun s111 t111 z111 p9_ => (k _ _ _ _ p9_)))), (fun _ => (k _ _ _ _ j5_))⟩), (fun _ => (fun _ => (fun _ => trivial)))⟩)⟩⟩), (fun _ => (k _ _ _ _ j5_))⟩))), (fun _ => (fm_pp_isFault j5_ (fun v32 s32 t32 z32 p10_ => ⟨(fun _ => p10_), (fun _ => (k _ _ _ _ p10_))⟩)))⟩)⟩⟩
theorem fm_pp_parametersOf {a1 : Int32} {σ : St} {τ : St} {vs : List Nat} {Q : Int32 → Prop} (k : ∀ (v0 : Int32), Q v0) : pp_parametersOf a1 σ τ vs Q := by
  unfold pp_parametersOf
  exact (fun _ => (k _))
theorem fm_pp_rowOf {a1 : Int32} {σ : St} {τ : St} {vs : List Nat} {Q : Int32 → Prop} (k : ∀ (v0 : Int32), Q v0) : pp_rowOf a1 σ τ vs Q := by
  unfold pp_rowOf
  exact (fun _ => (fun _ => (k _)))
theorem fm_pp_setLocal {w : St} {a1 : Int32} {a2 : Int32} {σ : St} {τ : St} {vs : List Nat} {Q : St → St → List Nat → Prop} (hs : FMs w σ) (k : ∀ (v0 : St) (v1 : St) (v2 : List Nat), FMs w v0 → Q v0 v1 v2) : pp_setLocal a1 a2 σ τ vs Q := by
  unfold pp_setLocal
  exact (fm_pp_rowOf (fun v6 => (fun _ => ⟨(fun _ => (fun _ => (k _ _ _ (fm_c hs (by decide))))), (fun _ => (fun _ => (fun _ => (k _ _ _ (fm_c hs (by decide))))))⟩)))
theorem fm_pp_ends {w : St} {a1 : Int32} {a2 : Int32} {a3 : Int32} {σ : St} {τ : St} {vs : List Nat} {Q : St → St → List Nat → Prop} (hs : FMs w σ) (k : ∀ (v0 : St) (v1 : St) (v2 : List Nat), FMs w v0 → Q v0 v1 v2) : pp_ends a1 a2 a3 σ τ vs Q := by
  unfold pp_ends
  exact (k _ _ _ (fm_z (fm_z (fm_z hs rfl) rfl) rfl))
theorem fm_pp_enter {w : St} {a1 : Int32} {a2 : Int32} {a3 : Int32} {a4 : Int32} {σ : St} {τ : St} {vs : List Nat} {Q : St → St → List Nat → Prop} (hs : FMs w σ) (k : ∀ (v0 : St) (v1 : St) (v2 : List Nat), FMs w v0 → Q v0 v1 v2) : pp_enter a1 a2 a3 a4 σ τ vs Q := by
  unfold pp_enter
  exact ⟨(fun _ => ⟨(fun x1_ => True), ⟨(fun y0_53 => fun j2_ => fun _ => ⟨(fun _ => (fun _ => (fun _ => (fun _ => (fm_pp_parametersOf (fun v125 => ⟨(fun x3_ x4_ x5_ x6_ => FMs w x4_), ⟨(fm_z (fm_c (fm_c (fm_c (fm_z hs rfl) (by decide)) (by decide)) (by decide)) rfl), (fun x7_133 s133 t133 z133 => fun j7_ => fun _ => ⟨(fun _ => ⟨(fun x8_ x9_ x10_ x11_ => FMs w x9_), ⟨(fm_z j7_ rfl), (fun x7_182 s182 t182 z182 => fun j12_ => ⟨(fun _ => (k _ _ _ j12_)), (fun _ => (fun _ => (fm_pp_setLocal j12_ (fun s204 t204 z204 p13_ => p13_))))⟩)⟩⟩), (fun _ => (fun _ => (fm_c j7_ (by decide))))⟩)⟩⟩)))))), (fun _ => (fm_pp_ends (fm_z hs rfl) (fun s78 t78 z78 p14_ => (k _ _ _ p14_))))⟩), ⟨(fun _ => (fun _ => trivial)), (fun _ => trivial)⟩⟩⟩), (fun _ => (fm_pp_ends hs (fun s16 t16 z16 p15_ => (k _ _ _ p15_))))⟩
theorem fm_pp_push {w : St} {a1 : Int32} {σ : St} {τ : St} {vs : List Nat} {Q : St → St → List Nat → Prop} (hs : FMs w σ) (k : ∀ (v0 : St) (v1 : St) (v2 : List Nat), FMs w v0 → Q v0 v1 v2) : pp_push a1 σ τ vs Q := by
  unfold pp_push
  exact (fun _ => (k _ _ _ (fm_z (fm_c hs (by decide)) rfl)))
theorem fm_pp_pop {w : St} {σ : St} {τ : St} {vs : List Nat} {Q : Int32 → St → St → List Nat → Prop} (hs : FMs w σ) (k : ∀ (v0 : Int32) (v1 : St) (v2 : St) (v3 : List Nat), FMs w v1 → Q v0 v1 v2 v3) : pp_pop σ τ vs Q := by
  unfold pp_pop
  exact (fun _ => (k _ _ _ _ (fm_z hs rfl)))
theorem fm_pp_leave {w : St} {a1 : Int32} {σ : St} {τ : St} {vs : List Nat} {Q : Int32 → St → St → List Nat → Prop} (hs : FMs w σ) (k : ∀ (v0 : Int32) (v1 : St) (v2 : St) (v3 : List Nat), FMs w v1 → Q v0 v1 v2 v3) : pp_leave a1 σ τ vs Q := by
  unfold pp_leave
  exact ⟨(fun x1_ x2_ x3_ x4_ => FMs w x2_), ⟨(fun y0_12 s12 t12 z12 => fun j5_ => ⟨(fun _ => ⟨(fun _ => (fun _ => (k _ _ _ _ (fm_z j5_ rfl)))), (fun _ => (fm_pp_push (fm_z j5_ rfl) (fun s48 t48 z48 p6_ => (fun _ => (k _ _ _ _ p6_)))))⟩), (fun _ => (k _ _ _ _ (fm_z (fm_z (fm_z j5_ rfl) rfl) rfl)))⟩), ⟨(fun _ => hs), (fun _ => (fm_pp_pop hs (fun v5 s5 t5 z5 p7_ => p7_)))⟩⟩⟩
theorem fm_pp_isCell {a0 : Int32} {σ : St} {τ : St} {vs : List Nat} {Q : Int32 → Prop} (k : ∀ (v0 : Int32), Q v0) : pp_isCell a0 σ τ vs Q := by
  unfold pp_isCell
  exact ⟨(fun _ => (k _)), (fun _ => ⟨(fun _ => (k _)), (fun _ => (k _))⟩)⟩
theorem fm_pp_trapped {w : St} {a1 : Int32} {a2 : Int32} {σ : St} {τ : St} {vs : List Nat} {Q : St → St → List Nat → Prop} (hs : FMs w σ) (k : ∀ (v0 : St) (v1 : St) (v2 : List Nat), FMs w v0 → Q v0 v1 v2) : pp_trapped a1 a2 σ τ vs Q := by
  unfold pp_trapped
  exact (fun _ => (fun _ => (fm_pp_ends hs (fun s21 t21 z21 p1_ => (k _ _ _ p1_)))))
theorem fm_pp_compared {a0 : Int32} {a1 : Int32} {a2 : Int32} {σ : St} {τ : St} {vs : List Nat} {Q : Int32 → Prop} (k : ∀ (v0 : Int32), Q v0) : pp_compared a0 a1 a2 σ τ vs Q := by
  unfold pp_compared
  exact ⟨(fun _ => ⟨(fun _ => ⟨(fun _ => ⟨(fun _ => (k _)), (fun _ => (k _))⟩), (fun _ => ⟨(fun _ => (k _)), (fun _ => (k _))⟩)⟩), (fun _ => ⟨(fun _ => (k _)), (fun _ => (k _))⟩)⟩), (fun _ => ⟨(fun _ => (k _)), (fun _ => (k _))⟩)⟩
theorem fm_pp_work {a0 : Int32} {a1 : Int32} {a2 : Int32} {σ : St} {τ : St} {vs : List Nat} {Q : Int32 → Prop} (k : ∀ (v0 : Int32), Q v0) : pp_work a0 a1 a2 σ τ vs Q := by
  unfold pp_work
  exact ⟨True, ⟨(fun j1_ => ⟨(fun x2_ => True), ⟨(fun y0_233 => fun j3_ => ⟨(fun x4_ => True), ⟨(fun y1_248 => fun j5_ => ⟨(fun x6_ => True), ⟨(fun y2_263 => fun j7_ => (fm_pp_compared (fun v263 => ⟨(fun _ => (k _)), (fun _ => (k _))⟩))), ⟨(fun _ => trivial), (fun _ => trivial)⟩⟩⟩), ⟨(fun _ => trivial), (fun _ => trivial)⟩⟩⟩), ⟨(fun _ => trivial), (fun _ => trivial)⟩⟩⟩), ⟨(fun _ => ⟨(fun _ => (k _)), (fun _ => (k _))⟩), (fun _ => ⟨(fun _ => ⟨(fun _ => (k _)), (fun _ => (k _))⟩), (fun _ => ⟨(fun _ => trivial), (fun _ => ⟨(fun _ => trivial), (fun _ => ⟨(fun _ => (k _)), (fun _ => ⟨(fun _ => (k _)), (fun _ => ⟨(fun _ => trivial), (fun _ => ⟨(fun _ => trivial), (fun _ => ⟨(fun _ => trivial), (fun _ => ⟨(fun _ => trivial), (fun _ => ⟨(fun _ => trivial), (fun _ => ⟨(fun _ => trivial), (fun _ => ⟨(fun _ => trivial), (fun _ => ⟨(fun _ => trivial), (fun _ => ⟨(fun _ => trivial), (fun _ => ⟨(fun _ => trivial), (fun _ => ⟨(fun _ => trivial), (fun _ => ⟨(fun _ => trivial), (fun _ => ⟨(fun _ => trivial), (fun _ => ⟨(fun _ => (k _)), (fun _ => ⟨(fun _ => (k _)), (fun _ => ⟨(fun _ => (k _)), (fun _ => ⟨(fun _ => trivial), (fun _ => ⟨(fun _ => trivial), (fun _ => ⟨(fun _ => (k _)), (fun _ => ⟨(fun _ => (k _)), (fun _ => ⟨(fun _ => (k _)), (fun _ => ⟨(fun _ => ⟨(fun _ => (fun _ => (k _))), (fun _ => (k _))⟩), (fun _ => ⟨(fun _ => ⟨(fun _ => (fun _ => (k _))), (fun _ => (k _))⟩), (fun _ => trivial)⟩)⟩)⟩)⟩)⟩)⟩)⟩)⟩)⟩)⟩)⟩)⟩)⟩)⟩)⟩)⟩)⟩)⟩)⟩)⟩)⟩)⟩)⟩)⟩)⟩)⟩)⟩)⟩)⟩⟩⟩
theorem fm_pp_emit {w : St} {a1 : Int32} {a2 : Int32} {σ : St} {τ : St} {vs : List Nat} {Q : St → St → List Nat → Prop} (hs : FMs w σ) (k : ∀ (v0 : St) (v1 : St) (v2 : List Nat), FMs w v0 → Q v0 v1 v2) : pp_emit a1 a2 σ τ vs Q := by
  unfold pp_emit
  exact ⟨(fun _ => (fun _ => (k _ _ _ (fm_z (fm_c hs (by decide)) rfl)))), (fun _ => ⟨(fun _ => (k _ _ _ hs)), (fun _ => (fm_pp_trapped hs (fun s21 t21 z21 p1_ => (k _ _ _ p1_))))⟩)⟩
theorem fm_pp_print {w : St} {a1 : Int32} {a2 : Int32} {σ : St} {τ : St} {vs : List Nat} {Q : St → St → List Nat → Prop} (hs : FMs w σ) (k : ∀ (v0 : St) (v1 : St) (v2 : List Nat), FMs w v0 → Q v0 v1 v2) : pp_print a1 a2 σ τ vs Q := by
  unfold pp_print
  exact ⟨(fun x1_ x2_ x3_ x4_ => FMs w x2_), ⟨(fun x3_19 s19 t19 z19 => fun j5_ => ⟨(fun x6_ => True), ⟨trivial, (fun x5_22 => fun j7_ => fun _ => ⟨(fun _ => ⟨(fun x8_ x9_ x10_ x11_ => FMs w x9_), ⟨j5_, (fun x5_44 s44 t44 z44 => fun j12_ => ⟨(fun _ => (k _ _ _ j12_)), (fun _ => (fun _ => (fm_pp_emit j12_ (fun s66 t66 z66 p13_ => p13_))))⟩)⟩⟩), (fun _ => trivial)⟩)⟩⟩), ⟨(fun _ => hs), (fun _ => (fm_pp_emit hs (fun s13 t13 z13 p14_ => p14_)))⟩⟩⟩
theorem fm_pp_library_1 {w : St} {a1 : Int32} {a2 : Int32} {σ : St} {τ : St} {vs : List Nat} {Q : St → St → List Nat → Prop} (hs : FMs w σ) (k : ∀ (v0 : St) (v1 : St) (v2 : List Nat), FMs w v0 → Q v0 v1 v2) : pp_library_1 a1 a2 σ τ vs Q := by
  unfold pp_library_1
  exact ⟨(fun _ => (fm_pp_pop hs (fun v59 s59 t59 z59 p1_ => ⟨(fun _ => ⟨(fun _ => (k _ _ _ (fm_z (fm_z p1_ rfl) rfl))), (fun _ => (fm_pp_print p1_ (fun s85 t85 z85 p2_ => (k _ _ _ p2_))))⟩), (fun _ => (fm_pp_emit p1_ (fun s71 t71 z71 p3_ => (k _ _ _ p3_))))⟩))), (fun _ => ⟨(fun x4_ => True), ⟨(fun y1_33 => fun j5_ => (fm_pp_push hs (fun s33 t33 z33 p6_ => ⟨(fun _ => (k _ _ _ p6_)), (fun _ => (k _ _ _ (fm_z p6_ rfl)))⟩))), ⟨(fun _ => trivial), (fun _ => (fun _ => trivial))⟩⟩⟩)⟩
theorem fm_pp_call_1 {w : St} {a1 : Int32} {a2 : Int32} {a3 : Int32} {σ : St} {τ : St} {vs : List Nat} {Q : Int32 → St → St → List Nat → Prop} (hs : FMs w σ) (k : ∀ (v0 : Int32) (v1 : St) (v2 : St) (v3 : List Nat), FMs w v1 → Q v0 v1 v2 v3) : pp_call_1 a1 a2 a3 σ τ vs Q := by
  unfold pp_call_1
  exact (fun _ => (fun _ => (fun _ => (fun _ => ⟨(fun _ => (fm_pp_enter hs (fun s63 t63 z63 p1_ => ⟨(fun _ => (k _ _ _ _ p1_)), (fun _ => (fun _ => (k _ _ _ _ p1_)))⟩))), (fun _ => (fm_pp_library_1 hs (fun s45 t45 z45 p2_ => (k _ _ _ _ p2_))))⟩))))
theorem fm_pp_getLocal {a1 : Int32} {σ : St} {τ : St} {vs : List Nat} {Q : Int32 → Prop} (k : ∀ (v0 : Int32), Q v0) : pp_getLocal a1 σ τ vs Q := by
  unfold pp_getLocal
  exact (fm_pp_rowOf (fun v6 => (fun _ => ⟨(fun _ => (fun _ => (k _))), (fun _ => (fun _ => (fun _ => (k _))))⟩)))
theorem fm_pp_stepMore {w : St} {a1 : Int32} {a2 : Int32} {σ : St} {τ : St} {vs : List Nat} {Q : Int32 → St → St → List Nat → Prop} (hs : FMs w σ) (k : ∀ (v0 : Int32) (v1 : St) (v2 : St) (v3 : List Nat), FMs w v1 → Q v0 v1 v2 v3) : pp_stepMore a1 a2 σ τ vs Q := by
  unfold pp_stepMore
  exact (fun _ => ⟨True, ⟨(fun j1_ => (fun _ => ⟨(fun x2_ => True), ⟨(fun y1_401 => fun _ => fun j3_ => (fm_pp_leave hs (fun v401 s401 t401 z401 p4_ => (k _ _ _ _ p4_)))), ⟨(fun _ => trivial), (fun _ => trivial)⟩⟩⟩)), ⟨(fun _ => (fm_pp_pop hs (fun v97 s97 t97 z97 p5_ => (fm_pp_isCell (fun v102 => ⟨(fun _ => (fm_pp_trapped p5_ (fun s124 t124 z124 p6_ => (k _ _ _ _ p6_)))), (fun _ => (fun _ => (fm_pp_push p5_ (fun s115 t115 z115 p7_ => (k _ _ _ _ p7_)))))⟩))))), (fun _ => ⟨(fun _ => (fm_pp_pop hs (fun v132 s132 t132 z132 p8_ => (fm_pp_pop p8_ (fun v137 s137 t137 z137 p9_ => (fm_pp_isCell (fun v144 => ⟨(fun x10_ x11_ x12_ => FMs w x10_), ⟨(fun s167 t167 z167 => fun j13_ => (fm_pp_push j13_ (fun s169 t169 z169 p14_ => (k _ _ _ _ p14_)))), ⟨(fun _ => (fm_pp_trapped p9_ (fun s164 t164 z164 p15_ => p15_))), (fun _ => (fun _ => (fm_c p9_ (by decide))))⟩⟩⟩))))))), (fun _ => ⟨(fun _ => trivial), (fun _ => ⟨(fun _ => trivial), (fun _ => ⟨(fun _ => trivial), (fun _ => ⟨(fun _ => trivial), (fun _ => ⟨(fun _ => (fm_pp_pop hs (fun v177 s177 t177 z177 p16_ => (fm_pp_pop p16_ (fun v182 s182 t182 z182 p17_ => ⟨True, ⟨(fun j18_ => (fm_pp_work (fun v224 => (fm_pp_push p17_ (fun s227 t227 z227 p19_ => (k _ _ _ _ p19_)))))), ⟨True, ⟨(fun j20_ => ⟨(fun _ => trivial), (fun _ => (fun _ => (fm_pp_trapped p17_ (fun s213 t213 z213 p21_ => (k _ _ _ _ p21_)))))⟩), ⟨(fun _ => trivial), (fun _ => ⟨(fun _ => trivial), (fun _ => trivial)⟩)⟩⟩⟩⟩⟩))))), (fun _ => ⟨(fun _ => trivial), (fun _ => ⟨(fun _ => trivial), (fun _ => ⟨(fun _ => trivial), (fun _ => ⟨(fun _ => trivial), (fun _ => ⟨(fun _ => trivial), (fun _ => ⟨(fun _ => trivial), (fun _ => ⟨(fun _ => trivial), (fun _ => ⟨(fun _ => (fun _ => (fm_pp_call_1 hs (fun v380 s380 t380 z380 p22_ => (k _ _ _ _ p22_))))), (fun _ => ⟨(fun _ => trivial), (fun _ => ⟨(fun _ => trivial), (fun _ => ⟨(fun _ => (fm_pp_pop hs (fun v235 s235 t235 z235 p23_ => (fm_pp_isCell (fun v240 => ⟨(fun _ => (fun _ => (fun _ => (fun _ => (fun _ => ⟨(fun x24_ => True), ⟨(fun y1_308 => fun j25_ => (fm_pp_push (fm_c p23_ (by decide)) (fun s308 t308 z308 p26_ => (k _ _ _ _ p26_)))), ⟨(fun _ => (fun _ => (fun _ => trivial))), (fun _ => (fun _ => trivial))⟩⟩⟩))))), (fun _ => (fm_pp_trapped p23_ (fun s249 t249 z249 p27_ => (k _ _ _ _ p27_))))⟩))))), (fun _ => ⟨(fun _ => (fm_pp_getLocal (fun v317 => (fun _ => (fm_pp_setLocal hs (fun s333 t333 z333 p28_ => (fun _ => ⟨(fun x29_ => True), ⟨(fun y1_362 => fun j30_ => (fm_pp_push p28_ (fun s362 t362 z362 p31_ => (k _ _ _ _ p31_)))), ⟨(fun _ => (fun _ => trivial)), (fun _ => trivial)⟩⟩⟩))))))), (fun _ => trivial)⟩)⟩)⟩)⟩)⟩)⟩)⟩)⟩)⟩)⟩)⟩)⟩)⟩)⟩)⟩)⟩)⟩)⟩)⟩⟩⟩)
theorem fm_pp_clear {w : St} {a1 : Int32} {σ : St} {τ : St} {vs : List Nat} {Q : St → St → List Nat → Prop} (hs : FMs w σ) (k : ∀ (v0 : St) (v1 : St) (v2 : List Nat), FMs w v0 → Q v0 v1 v2) : pp_clear a1 σ τ vs Q := by
  unfold pp_clear
  exact (fm_pp_rowOf (fun v6 => (fun _ => (fun _ => (fm_pp_rowOf (fun v30 => (fun _ => ⟨(fun x1_ x2_ x3_ x4_ => FMs w x2_), ⟨hs, (fun x4_39 s39 t39 z39 => fun j5_ => ⟨(fun _ => ⟨(fun _ => (k _ _ _ j5_)), (fun _ => (fm_pp_setLocal j5_ (fun s68 t68 z68 p6_ => (k _ _ _ p6_))))⟩), (fun _ => (fun _ => (fm_c j5_ (by decide))))⟩)⟩⟩)))))))
theorem fm_pp_step {w : St} {a1 : Int32} {σ : St} {τ : St} {vs : List Nat} {Q : Int32 → St → St → List Nat → Prop} (hs : FMs w σ) (k : ∀ (v0 : Int32) (v1 : St) (v2 : St) (v3 : List Nat), FMs w v1 → Q v0 v1 v2 v3) : pp_step a1 σ τ vs Q := by
  unfold pp_step
  exact (fun _ => (fun _ => ⟨True, ⟨(fun j1_ => (fm_pp_stepMore hs (fun v445 s445 t445 z445 p2_ => (k _ _ _ _ p2_)))), ⟨(fun _ => (fm_pp_push hs (fun s130 t130 z130 p3_ => (k _ _ _ _ p3_)))), (fun _ => ⟨(fun _ => (fun _ => (fun _ => (fun _ => (fun _ => (fm_pp_push hs (fun s166 t166 z166 p4_ => (k _ _ _ _ p4_)))))))), (fun _ => ⟨(fun _ => (fun _ => (fun _ => (fun _ => (fm_pp_push hs (fun s197 t197 z197 p5_ => (k _ _ _ _ p5_))))))), (fun _ => ⟨(fun _ => (fm_pp_getLocal (fun v207 => (fm_pp_push hs (fun s210 t210 z210 p6_ => (k _ _ _ _ p6_)))))), (fun _ => ⟨(fun _ => (fun _ => (fm_pp_rowOf (fun v235 => (fun _ => (fm_pp_push hs (fun s240 t240 z240 p7_ => (k _ _ _ _ p7_)))))))), (fun _ => ⟨(fun _ => trivial), (fun _ => ⟨(fun _ => trivial), (fun _ => ⟨(fun _ => (fun _ => (fm_pp_setLocal hs (fun s260 t260 z260 p8_ => (k _ _ _ _ p8_))))), (fun _ => ⟨(fun _ => (fm_pp_clear hs (fun s269 t269 z269 p9_ => (k _ _ _ _ p9_)))), (fun _ => ⟨(fun _ => (fun _ => (fm_pp_push hs (fun s288 t288 z288 p10_ => (k _ _ _ _ p10_))))), (fun _ => ⟨(fun _ => (k _ _ _ _ (fm_z hs rfl))), (fun _ => ⟨(fun _ => trivial), (fun _ => ⟨(fun _ => (fm_pp_pop hs (fun v311 s311 t311 z311 p11_ => (fm_pp_push p11_ (fun s315 t315 z315 p12_ => (k _ _ _ _ p12_)))))), (fun _ => ⟨(fun _ => (fm_pp_pop hs (fun v324 s324 t324 z324 p13_ => (fm_pp_push p13_ (fun s329 t329 z329 p14_ => (k _ _ _ _ p14_)))))), (fun _ => ⟨(fun _ => (fm_pp_pop hs (fun v338 s338 t338 z338 p15_ => ⟨(fun x16_ => True), ⟨(fun y1_349 => fun _ => fun j17_ => (fm_pp_push p15_ (fun s349 t349 z349 p18_ => (k _ _ _ _ p18_)))), ⟨(fun _ => trivial), (fun _ => trivial)⟩⟩⟩))), (fun _ => ⟨(fun _ => (k _ _ _ _ hs)), (fun _ => ⟨(fun _ => (fm_pp_pop hs (fun v379 s379 t379 z379 p19_ => ⟨(fun _ => (k _ _ _ _ p19_)), (fun _ => (k _ _ _ _ p19_))⟩))), (fun _ => ⟨(fun _ => (fm_pp_pop hs (fun v394 s394 t394 z394 p20_ => ⟨(fun _ => (k _ _ _ _ p20_)), (fun _ => (k _ _ _ _ p20_))⟩))), (fun _ => ⟨(fun _ => ⟨(fun _ => (k _ _ _ _ (fm_z hs rfl))), (fun _ => (fm_pp_trapped hs (fun s422 t422 z422 p21_ => (k _ _ _ _ p21_))))⟩), (fun _ => ⟨(fun _ => trivial), (fun _ => ⟨(fun _ => trivial), (fun _ => ⟨(fun _ => trivial), (fun _ => ⟨(fun _ => trivial), (fun _ => ⟨(fun _ => trivial), (fun _ => ⟨(fun _ => (fm_pp_pop hs (fun v358 s358 t358 z358 p22_ => ⟨(fun x23_ => True), ⟨(fun y1_369 => fun _ => fun j24_ => (fm_pp_push p22_ (fun s369 t369 z369 p25_ => (k _ _ _ _ p25_)))), ⟨(fun _ => trivial), (fun _ => trivial)⟩⟩⟩))), (fun _ => trivial)⟩)⟩)⟩)⟩)⟩)⟩)⟩)⟩)⟩)⟩)⟩)⟩)⟩)⟩)⟩)⟩)⟩)⟩)⟩)⟩)⟩)⟩)⟩)⟩)⟩⟩⟩))
theorem fm_pp_run {w : St} {a1 : Int32} {σ : St} {τ : St} {vs : List Nat} {Q : Int32 → St → St → List Nat → Prop} (hs : FMs w σ) (k : ∀ (v0 : Int32) (v1 : St) (v2 : St) (v3 : List Nat), FMs w v1 → Q v0 v1 v2 v3) : pp_run a1 σ τ vs Q := by
  unfold pp_run
  exact ⟨(fun _ => ⟨(fun _ => (k _ _ _ _ hs)), (fun _ => ⟨(fun _ => ⟨(fun x1_ x2_ x3_ x4_ => FMs w x2_), ⟨hs, (fun x2_25 s25 t25 z25 => fun j5_ => ⟨(fun _ => (fm_pp_enter (fm_z (fm_z (fm_z (fm_z (fm_z (fm_z (fm_z (fm_z (fm_z (fm_z (fm_z j5_ rfl) rfl) rfl) rfl) rfl) rfl) rfl) rfl) rfl) rfl) rfl) (fun s125 t125 z125 p6_ => ⟨(fun x7_ => True), ⟨(fun y0_148 => fun j8_ => ⟨(fun x9_ x10_ x11_ x12_ => FMs w x10_), ⟨p6_, (fun x2_149 s149 t149 z149 => fun j13_ => ⟨(fun _ => (k _ _ _ _ (fm_z j13_ rfl))), (fun _ => (fm_pp_step j13_ (fun v158 s158 t158 z158 p14_ => p14_)))⟩)⟩⟩), ⟨(fun _ => trivial), (fun _ => (fun _ => trivial))⟩⟩⟩))), (fun _ => ⟨(fun x15_ => True), ⟨(fun y2_55 => fun j16_ => fun _ => (fm_c j5_ (by decide))), ⟨(fun _ => trivial), (fun _ => (fun _ => trivial))⟩⟩⟩)⟩)⟩⟩), (fun _ => (k _ _ _ _ hs))⟩)⟩), (fun _ => (k _ _ _ _ hs))⟩
theorem fm_pp_input {w : St} {a1 : Int32} {σ : St} {τ : St} {vs : List Nat} {Q : Int32 → St → St → List Nat → Prop} (hs : FMs w σ) (k : ∀ (v0 : Int32) (v1 : St) (v2 : St) (v3 : List Nat), FMs w v1 → Q v0 v1 v2 v3) : pp_input a1 σ τ vs Q := by
  unfold pp_input
  exact ⟨(fun _ => (fun _ => (k _ _ _ _ (fm_z (fm_c hs (by decide)) rfl)))), (fun _ => (k _ _ _ _ hs))⟩
/-- the reference, where the text is given back -/
def FCs (w s : St) : Prop := s 1 = w 1 ∧ s 0 31 = w 0 31 ∧ s 0 35 = w 0 35 ∧ s 0 36 = w 0 36
theorem fc_z {w s : St} {v : Int32} (h : FCs w s) : FCs w (upC s 0 1 v) := by
  obtain ⟨h1, h2, h3, h4⟩ := h
  exact ⟨by rw [rdC_ne (by decide)]; exact h1, by rw [rdA_ne (by decide)]; exact h2, by rw [rdA_ne (by decide)]; exact h3, by rw [rdA_ne (by decide)]; exact h4⟩
theorem fc_rf {w : St} : FCs w w := ⟨rfl, rfl, rfl, rfl⟩
theorem fc_pp_isSymbol {a1 : Int32} {a2 : Int32} {σ : St} {τ : St} {vs : List Nat} {Q : Int32 → Prop} (k : ∀ (v0 : Int32), Q v0) : pp_isSymbol a1 a2 σ τ vs Q := by
  unfold pp_isSymbol
  exact (fun _ => ⟨(fun _ => (k _)), (fun _ => (fun _ => ⟨(fun _ => (k _)), (fun _ => (k _))⟩))⟩)
theorem fc_pp_isTray {a1 : Int32} {a2 : Int32} {σ : St} {τ : St} {vs : List Nat} {Q : Int32 → Prop} (k : ∀ (v0 : Int32), Q v0) : pp_isTray a1 a2 σ τ vs Q := by
  unfold pp_isTray
  exact (fun _ => ⟨(fun _ => ⟨(fun x1_ => True), ⟨trivial, (fun x3_14 => fun j2_ => ⟨(fun _ => (k _)), (fun _ => (fun _ => (fun _ => (fun _ => ⟨(fun _ => trivial), (fun _ => (k _))⟩))))⟩)⟩⟩), (fun _ => (k _))⟩)
theorem fc_pp_cell {w : St} {σ : St} {τ : St} {vs : List Nat} {Q : Int32 → St → St → List Nat → Prop} (hs : FCs w σ) (k : ∀ (v0 : Int32) (v1 : St) (v2 : St) (v3 : List Nat), FCs w v1 → Q v0 v1 v2 v3) : pp_cell σ τ vs Q := by
  unfold pp_cell
  exact ⟨(fun _ => ⟨(fun x1_ => True), ⟨trivial, (fun x2_21 => fun j2_ => ⟨(fun _ => ⟨(fun x3_ x4_ => True), ⟨trivial, (fun x2_120 x3_120 => fun j5_ => ⟨(fun _ => (k _ _ _ _ (fc_z hs))), (fun _ => ⟨(fun x6_ => True), ⟨trivial, (fun x4_128 => fun j7_ => fun _ => ⟨(fun _ => ⟨(fun x8_ => True), ⟨(fun y0_160 => fun _ => fun j9_ => ⟨(fun x10_ x11_ => True), ⟨trivial, (fun x5_165 x6_165 => fun _ => fun j12_ => ⟨True, ⟨(fun j13_ => ⟨(fun _ => trivial), (fun _ => (k _ _ _ _ (fc_z hs)))⟩), ⟨(fun _ => trivial), (fun _ => ⟨(fun _ => trivial), (fun _ => (fun _ => (fun _ => ⟨(fun x14_ => True), ⟨(fun y0_201 => fun _ => fun j15_ => trivial), ⟨(fun _ => trivial), (fun _ => trivial)⟩⟩⟩)))⟩)⟩⟩⟩)⟩⟩), ⟨(fun _ => trivial), (fun _ => trivial)⟩⟩⟩), (fun _ => trivial)⟩)⟩⟩)⟩)⟩⟩), (fun _ => (fun _ => (fun _ => ⟨(fun x16_ => True), ⟨trivial, (fun x3_43 => fun j17_ => fun _ => fun _ => ⟨(fun _ => trivial), (fun _ => (fc_pp_isSymbol (fun v61 => ⟨True, ⟨(fun j18_ => trivial), ⟨(fun _ => trivial), (fun _ => (fc_pp_isTray (fun v70 => ⟨(fun _ => trivial), (fun _ => (fun _ => ⟨(fun _ => (k _ _ _ _ (fc_z hs))), (fun _ => (fun _ => (fun _ => (k _ _ _ _ (fc_z hs)))))⟩))⟩)))⟩⟩⟩)))⟩)⟩⟩)))⟩)⟩⟩), (fun _ => (k _ _ _ _ (fc_z hs)))⟩
