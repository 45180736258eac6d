section
/-! frames: what is picked -/
def FWw (c : Nat) : Prop := [11, 12, 60, 61, 62, 63, 64].contains c = true
def FWs (w s : St) : Prop := ∀ c, ¬ FWw c → s c = w c
theorem fww {c : Nat} (h : [11, 12, 60, 61, 62, 63, 64].contains c = true) : FWw c := h
theorem fw_c {w s : St} {c k : Nat} {v : Int32} (h : FWs w s) (hc : FWw c) : FWs w (upC s c k v) := fun q hq => by
  rw [rdC_ne (fun e => hq (by rw [e]; exact hc))]
  exact h q hq
theorem fw_F {w s : St} {c : Nat} {f : Nat → Int32} (h : FWs w s) (hc : FWw c) : FWs w (upF s c f) := fun q hq => by
  rw [rdF_ne (fun e => hq (by rw [e]; exact hc))]
  exact h q hq
theorem fw_e {w s r : St} (e : s = r) (h : FWs w r) : FWs w s := by
  rw [e]
  exact h
theorem fw_rf {w : St} : FWs w w := fun _ _ => rfl
theorem fw_pk_X4_fill_r62 {w : St} {σ : St} {Q : St → Prop} (hs : FWs w σ) (k : ∀ (v0 : St), FWs w v0 → Q v0) : pk_X4_fill_r62 σ Q := by
  unfold pk_X4_fill_r62
  exact ⟨(fun x1_ x2_ => FWs w x2_), ⟨hs, (fun x2_2 s2 => fun j3_ => ⟨(fun _ => (k _ j3_)), (fun _ => ⟨(fun x4_ x5_ => FWs w x5_), ⟨j3_, (fun x4_34 s34 => fun j6_ => ⟨(fun _ => j6_), (fun _ => ⟨(fun x7_ => True), ⟨(fun y0_101 => fun j8_ => (fw_F j6_ (fww (by decide)))), ⟨(fun _ => ⟨(fun _ => trivial), (fun _ => trivial)⟩), (fun _ => trivial)⟩⟩⟩)⟩)⟩⟩)⟩)⟩⟩
theorem fw_pk_X9_begin {w : St} {σ : St} {Q : St → Prop} (hs : FWs w σ) (k : ∀ (v0 : St), FWs w v0 → Q v0) : pk_X9_begin σ Q := by
  unfold pk_X9_begin
  exact (k _ (fw_c (fw_c hs (fww (by decide))) (fww (by decide))))
theorem fw_pk_X5_begin {w : St} {a1 : Int32} {σ : St} {Q : St → Prop} (hs : FWs w σ) (k : ∀ (v0 : St), FWs w v0 → Q v0) : pk_X5_begin a1 σ Q := by
  unfold pk_X5_begin
  exact (fw_pk_X4_fill_r62 (fw_F hs (fww (by decide))) (fun s16 p1_ => (fw_pk_X9_begin p1_ (fun s23 p2_ => (k _ (fw_c (fw_c (fw_c (fw_c (fw_c (fw_c (fw_c (fw_c (fw_c (fw_c (fw_c p2_ (fww (by decide))) (fww (by decide))) (fww (by decide))) (fww (by decide))) (fww (by decide))) (fww (by decide))) (fww (by decide))) (fww (by decide))) (fww (by decide))) (fww (by decide))) (fww (by decide))))))))
theorem fw_pk_X5_fail {w : St} {a1 : Int32} {a2 : Int32} {σ : St} {Q : St → Prop} (hs : FWs w σ) (k : ∀ (v0 : St), FWs w v0 → Q v0) : pk_X5_fail a1 a2 σ Q := by
  unfold pk_X5_fail
  exact (k _ (fw_c (fw_c (fw_c hs (fww (by decide))) (fww (by decide))) (fww (by decide))))
theorem fw_pk_X5_turn {w : St} {a1 : Int32} {σ : St} {Q : Int32 → St → Prop} (hs : FWs w σ) (k : ∀ (v0 : Int32) (v1 : St), FWs w v1 → Q v0 v1) : pk_X5_turn a1 σ Q := by
  unfold pk_X5_turn
  exact ⟨(fun _ => (k _ _ (fw_c hs (fww (by decide))))), (fun _ => (fw_pk_X5_fail hs (fun s14 p1_ => (k _ _ p1_))))⟩
theorem fw_pk_X5_copyParameters {w : St} {a1 : Int32} {a2 : Int32} {σ : St} {Q : St → Prop} (hs : FWs w σ) (k : ∀ (v0 : St), FWs w v0 → Q v0) : pk_X5_copyParameters a1 a2 σ Q := by
  unfold pk_X5_copyParameters
  exact ⟨(fun x1_ x2_ x3_ => FWs w x3_), ⟨hs, (fun x3_8 x4_8 s8 => fun j4_ => ⟨(fun _ => (k _ j4_)), (fun _ => ⟨(fun x5_ x6_ => FWs w x6_), ⟨(fun x3_48 s48 => fun j7_ => j7_), ⟨(fun _ => j4_), (fun _ => (fw_F j4_ (fww (by decide))))⟩⟩⟩)⟩)⟩⟩
theorem fw_pk_X5_enter {w : St} {a1 : Int32} {a2 : Int32} {σ : St} {Q : St → Prop} (hs : FWs w σ) (k : ∀ (v0 : St), FWs w v0 → Q v0) : pk_X5_enter a1 a2 σ Q := by
  unfold pk_X5_enter
  exact (fw_pk_X5_turn hs (fun v2 s2 p1_ => ⟨(fun _ => ⟨(fun _ => (fw_pk_X5_copyParameters (fw_c (fw_c (fw_c (fw_c (fw_c (fw_F (fw_F (fw_F p1_ (fww (by decide))) (fww (by decide))) (fww (by decide))) (fww (by decide))) (fww (by decide))) (fww (by decide))) (fww (by decide))) (fww (by decide))) (fun s176 p2_ => (k _ p2_)))), (fun _ => (fw_pk_X5_fail p1_ (fun s36 p3_ => (k _ p3_))))⟩), (fun _ => (k _ p1_))⟩))
theorem fw_pk_X9_useUp {w : St} {σ : St} {Q : St → Prop} (hs : FWs w σ) (k : ∀ (v0 : St), FWs w v0 → Q v0) : pk_X9_useUp σ Q := by
  unfold pk_X9_useUp
  exact (k _ (fw_c hs (fww (by decide))))
theorem fw_pk_X5_stray {w : St} {σ : St} {Q : St → Prop} (hs : FWs w σ) (k : ∀ (v0 : St), FWs w v0 → Q v0) : pk_X5_stray σ Q := by
  unfold pk_X5_stray
  exact (k _ (fw_c (fw_c hs (fww (by decide))) (fww (by decide))))
theorem fw_pk_X5_push {w : St} {a1 : Int32} {σ : St} {Q : St → Prop} (hs : FWs w σ) (k : ∀ (v0 : St), FWs w v0 → Q v0) : pk_X5_push a1 σ Q := by
  unfold pk_X5_push
  exact (k _ (fw_c (fw_F hs (fww (by decide))) (fww (by decide))))
theorem fw_pk_X5_pop {w : St} {σ : St} {Q : Int32 → St → Prop} (hs : FWs w σ) (k : ∀ (v0 : Int32) (v1 : St), FWs w v1 → Q v0 v1) : pk_X5_pop σ Q := by
  unfold pk_X5_pop
  exact (k _ _ (fw_c hs (fww (by decide))))
theorem fw_pk_X5_peeked {σ : St} {Q : Int32 → Prop} (k : ∀ (v0 : Int32), Q v0) : pk_X5_peeked σ Q := by
  unfold pk_X5_peeked
  exact (k _)
theorem fw_pk_X5_stepped_r62 {w : St} {a2 : Int32} {a3 : Int32} {σ : St} {Q : St → Prop} (hs : FWs w σ) (k : ∀ (v0 : St), FWs w v0 → Q v0) : pk_X5_stepped_r62 a2 a3 σ Q := by
  unfold pk_X5_stepped_r62
  exact (fw_pk_X5_push (fw_F hs (fww (by decide))) (fun s39 p1_ => (k _ p1_)))
theorem fw_pk_X5_stepped_r63 {w : St} {a2 : Int32} {a3 : Int32} {σ : St} {Q : St → Prop} (hs : FWs w σ) (k : ∀ (v0 : St), FWs w v0 → Q v0) : pk_X5_stepped_r63 a2 a3 σ Q := by
  unfold pk_X5_stepped_r63
  exact (fw_pk_X5_push (fw_F hs (fww (by decide))) (fun s39 p1_ => (k _ p1_)))
theorem fw_pk_X5_plain {w : St} {a1 : Int32} {a2 : Int32} {σ : St} {Q : St → Prop} (hs : FWs w σ) (k : ∀ (v0 : St), FWs w v0 → Q v0) : pk_X5_plain a1 a2 σ Q := by
  unfold pk_X5_plain
  exact ⟨(fun _ => (fw_pk_X5_push hs (fun s78 p1_ => (k _ p1_)))), (fun _ => ⟨(fun _ => (fw_pk_X5_pop hs (fun v85 s85 p2_ => (k _ p2_)))), (fun _ => ⟨(fun _ => (fw_pk_X5_push hs (fun s107 p3_ => (k _ p3_)))), (fun _ => ⟨(fun _ => (fw_pk_X5_push hs (fun s125 p4_ => (k _ p4_)))), (fun _ => ⟨(fun _ => (fw_pk_X5_push hs (fun s150 p5_ => (k _ p5_)))), (fun _ => ⟨(fun _ => (fw_pk_X5_peeked (fun v172 => (k _ (fw_F hs (fww (by decide))))))), (fun _ => ⟨(fun _ => (fw_pk_X5_stepped_r62 hs (fun s198 p6_ => (k _ p6_)))), (fun _ => ⟨(fun _ => (fw_pk_X5_push hs (fun s218 p7_ => (k _ p7_)))), (fun _ => ⟨(fun _ => (fw_pk_X5_peeked (fun v235 => (k _ (fw_F hs (fww (by decide))))))), (fun _ => (fw_pk_X5_stepped_r63 hs (fun s256 p8_ => (k _ p8_))))⟩)⟩)⟩)⟩)⟩)⟩)⟩)⟩)⟩
theorem fw_pk_X5_inFrame {w : St} {a1 : Int32} {a2 : Int32} {σ : St} {Q : St → Prop} (hs : FWs w σ) (k : ∀ (v0 : St), FWs w v0 → Q v0) : pk_X5_inFrame a1 a2 σ Q := by
  unfold pk_X5_inFrame
  exact ⟨(fun _ => (fw_pk_X5_push hs (fun s77 p1_ => (k _ p1_)))), (fun _ => ⟨(fun _ => (fw_pk_X5_peeked (fun v89 => (k _ (fw_F hs (fww (by decide))))))), (fun _ => ⟨(fun _ => (fw_pk_X5_stepped_r62 hs (fun s105 p2_ => (k _ p2_)))), (fun _ => ⟨(fun _ => (fw_pk_X5_push hs (fun s113 p3_ => (k _ p3_)))), (fun _ => ⟨(fun _ => ⟨(fun x4_ x5_ => FWs w x5_), ⟨hs, (fun x5_122 s122 => fun j6_ => ⟨(fun _ => (k _ j6_)), (fun _ => ⟨(fun _ => (k _ j6_)), (fun _ => (fw_F j6_ (fww (by decide))))⟩)⟩)⟩⟩), (fun _ => ⟨(fun _ => (fw_pk_X5_pop hs (fun v166 s166 p7_ => (k _ (fw_F p7_ (fww (by decide))))))), (fun _ => (k _ (fw_F hs (fww (by decide)))))⟩)⟩)⟩)⟩)⟩)⟩
theorem fw_pk_X5_isCell {a0 : Int32} {σ : St} {Q : Int32 → Prop} (k : ∀ (v0 : Int32), Q v0) : pk_X5_isCell a0 σ Q := by
  unfold pk_X5_isCell
  exact ⟨(fun _ => (k _)), (fun _ => ⟨(fun _ => (k _)), (fun _ => (k _))⟩)⟩
theorem fw_pk_X5_reach {w : St} {a1 : Int32} {a2 : Int32} {σ : St} {Q : St → Prop} (hs : FWs w σ) (k : ∀ (v0 : St), FWs w v0 → Q v0) : pk_X5_reach a1 a2 σ Q := by
  unfold pk_X5_reach
  exact ⟨(fun x1_ x2_ => FWs w x2_), ⟨(fun y0_25 s25 => fun j3_ => (fw_pk_X5_pop j3_ (fun v28 s28 p4_ => (fw_pk_X5_isCell (fun v35 => ⟨(fun _ => ⟨(fun _ => ⟨(fun _ => ⟨(fun _ => (fw_pk_X5_push p4_ (fun s121 p5_ => (fw_pk_X5_push p5_ (fun s134 p6_ => (k _ p6_)))))), (fun _ => (fw_pk_X5_stepped_r62 p4_ (fun s112 p7_ => (k _ p7_))))⟩), (fun _ => (fw_pk_X5_push (fw_F p4_ (fww (by decide))) (fun s92 p8_ => (k _ p8_))))⟩), (fun _ => (fw_pk_X5_push p4_ (fun s66 p9_ => (k _ p9_))))⟩), (fun _ => (fw_pk_X5_fail p4_ (fun s44 p10_ => (k _ p10_))))⟩))))), ⟨(fun _ => hs), (fun _ => (fw_pk_X5_pop hs (fun v18 s18 p11_ => p11_)))⟩⟩⟩
theorem fw_pk_X5_inverted {a0 : Int32} {a1 : Int32} {σ : St} {Q : Int32 → Prop} (k : ∀ (v0 : Int32), Q v0) : pk_X5_inverted a0 a1 σ Q := by
  unfold pk_X5_inverted
  exact ⟨(fun _ => (k _)), (fun _ => ⟨(fun _ => (k _)), (fun _ => ⟨(fun _ => ⟨(fun _ => (k _)), (fun _ => (k _))⟩), (fun _ => ⟨(fun _ => (k _)), (fun _ => (k _))⟩)⟩)⟩)⟩
theorem fw_pk_X5_decide {w : St} {a1 : Int32} {a2 : Int32} {σ : St} {Q : St → Prop} (hs : FWs w σ) (k : ∀ (v0 : St), FWs w v0 → Q v0) : pk_X5_decide a1 a2 σ Q := by
  unfold pk_X5_decide
  exact (fw_pk_X5_pop hs (fun v1 s1 p1_ => ⟨(fun x2_ => True), ⟨(fun y0_12 => fun _ => fun j3_ => ⟨(fun _ => (k _ p1_)), (fun _ => ⟨(fun x4_ => True), ⟨(fun y1_26 => fun _ => fun j5_ => (fw_pk_X5_push p1_ (fun s26 p6_ => (k _ (fw_c p6_ (fww (by decide))))))), ⟨(fun _ => trivial), (fun _ => trivial)⟩⟩⟩)⟩), ⟨(fun _ => trivial), (fun _ => trivial)⟩⟩⟩))
theorem fw_pk_X9_put {w : St} {a1 : Int32} {σ : St} {Q : Int32 → St → Prop} (hs : FWs w σ) (k : ∀ (v0 : Int32) (v1 : St), FWs w v1 → Q v0 v1) : pk_X9_put a1 σ Q := by
  unfold pk_X9_put
  exact ⟨(fun _ => (k _ _ hs)), (fun _ => ⟨(fun _ => (fun _ => (k _ _ (fw_c (fw_c hs (fww (by decide))) (fww (by decide)))))), (fun _ => (k _ _ hs))⟩)⟩
theorem fw_pk_X9_print {w : St} {a1 : Int32} {σ : St} {Q : Int32 → St → Prop} (hs : FWs w σ) (k : ∀ (v0 : Int32) (v1 : St), FWs w v1 → Q v0 v1) : pk_X9_print a1 σ Q := by
  unfold pk_X9_print
  exact ⟨(fun x1_ x2_ => True), ⟨trivial, (fun x4_12 x6_12 => fun j3_ => ⟨True, ⟨(fun j4_ => ⟨(fun x5_ x6_ => FWs w x6_), ⟨(fun y0_62 s62 => fun _ => fun j7_ => ⟨(fun x8_ x9_ x10_ => FWs w x10_), ⟨j7_, (fun x4_64 x6_64 s64 => fun _ => fun j11_ => ⟨(fun _ => (k _ _ j11_)), (fun _ => ⟨(fun _ => (k _ _ j11_)), (fun _ => (fun _ => (fw_pk_X9_put j11_ (fun v90 s90 p12_ => p12_))))⟩)⟩)⟩⟩), ⟨(fun x13_ => FWs w x13_), ⟨(fun s57 => fun j14_ => j14_), ⟨(fun _ => hs), (fun _ => (fw_pk_X9_put hs (fun v51 s51 p15_ => ⟨(fun _ => p15_), (fun _ => p15_)⟩)))⟩⟩⟩⟩⟩), ⟨(fun _ => trivial), (fun _ => ⟨(fun _ => trivial), (fun _ => trivial)⟩)⟩⟩⟩)⟩⟩
theorem fw_pk_X9_next {w : St} {σ : St} {Q : Int32 → St → Prop} (hs : FWs w σ) (k : ∀ (v0 : Int32) (v1 : St), FWs w v1 → Q v0 v1) : pk_X9_next σ Q := by
  unfold pk_X9_next
  exact ⟨(fun _ => (k _ _ hs)), (fun _ => ⟨(fun _ => (k _ _ hs)), (fun _ => ⟨(fun _ => (fun _ => (k _ _ (fw_c hs (fww (by decide)))))), (fun _ => (k _ _ hs))⟩)⟩)⟩
theorem fw_pk_X5_useLibrary {w : St} {a1 : Int32} {a2 : Int32} {σ : St} {Q : St → Prop} (hs : FWs w σ) (k : ∀ (v0 : St), FWs w v0 → Q v0) : pk_X5_useLibrary a1 a2 σ Q := by
  unfold pk_X5_useLibrary
  exact ⟨(fun x1_ x2_ => FWs w x2_), ⟨(fun y0_12 s12 => fun j3_ => ⟨(fun x4_ x5_ => FWs w x5_), ⟨(fun y1_29 s29 => fun j6_ => (fw_pk_X5_push j6_ (fun s29 p7_ => ⟨(fun x8_ => FWs w x8_), ⟨(fun s64 => fun j9_ => (fw_pk_X5_fail j9_ (fun s68 p10_ => (k _ p10_)))), ⟨(fun x11_ => FWs w x11_), ⟨(fun s48 => fun j12_ => ⟨(fun x13_ => FWs w x13_), ⟨(fun s74 => fun j14_ => ⟨(fun _ => (k _ j14_)), (fun _ => (k _ (fw_c (fw_c j14_ (fww (by decide))) (fww (by decide)))))⟩), ⟨(fun _ => j12_), (fun _ => (fw_pk_X9_print j12_ (fun v58 s58 p15_ => ⟨(fun _ => p15_), (fun _ => p15_)⟩)))⟩⟩⟩), ⟨(fun _ => p7_), (fun _ => (fw_pk_X9_put p7_ (fun v42 s42 p16_ => ⟨(fun _ => p16_), (fun _ => p16_)⟩)))⟩⟩⟩⟩⟩))), ⟨(fun _ => j3_), (fun _ => (fw_pk_X9_next j3_ (fun v22 s22 p17_ => p17_)))⟩⟩⟩), ⟨(fun _ => (fw_pk_X5_pop hs (fun v9 s9 p18_ => p18_))), (fun _ => hs)⟩⟩⟩
theorem fw_pk_X5_call {w : St} {a1 : Int32} {a2 : Int32} {σ : St} {Q : St → Prop} (hs : FWs w σ) (k : ∀ (v0 : St), FWs w v0 → Q v0) : pk_X5_call a1 a2 σ Q := by
  unfold pk_X5_call
  exact ⟨(fun _ => (fw_pk_X5_useLibrary hs (fun s18 p1_ => (k _ p1_)))), (fun _ => (fw_pk_X5_enter hs (fun s7 p2_ => (k _ p2_))))⟩
theorem fw_pk_X5_giveBack {w : St} {σ : St} {Q : St → Prop} (hs : FWs w σ) (k : ∀ (v0 : St), FWs w v0 → Q v0) : pk_X5_giveBack σ Q := by
  unfold pk_X5_giveBack
  exact (fw_pk_X5_pop hs (fun v1 s1 p1_ => ⟨(fun _ => (fw_pk_X5_push (fw_c (fw_c (fw_c (fw_c (fw_c p1_ (fww (by decide))) (fww (by decide))) (fww (by decide))) (fww (by decide))) (fww (by decide))) (fun s100 p2_ => (k _ p2_)))), (fun _ => (k _ (fw_c (fw_c (fw_c (fw_c (fw_c (fw_c (fw_c p1_ (fww (by decide))) (fww (by decide))) (fww (by decide))) (fww (by decide))) (fww (by decide))) (fww (by decide))) (fww (by decide)))))⟩))
theorem fw_pk_X5_lead {w : St} {a1 : Int32} {a2 : Int32} {σ : St} {Q : St → Prop} (hs : FWs w σ) (k : ∀ (v0 : St), FWs w v0 → Q v0) : pk_X5_lead a1 a2 σ Q := by
  unfold pk_X5_lead
  exact ⟨True, ⟨(fun j1_ => ⟨(fun x2_ => True), ⟨(fun y1_120 => fun _ => fun j3_ => (fw_pk_X5_decide hs (fun s121 p4_ => (k _ p4_)))), ⟨(fun _ => trivial), (fun _ => trivial)⟩⟩⟩), ⟨(fun _ => (k _ (fw_c hs (fww (by decide))))), (fun _ => ⟨(fun _ => (fw_pk_X5_pop hs (fun v66 s66 p5_ => ⟨(fun _ => (k _ (fw_c p5_ (fww (by decide))))), (fun _ => (k _ (fw_c p5_ (fww (by decide)))))⟩))), (fun _ => ⟨(fun _ => (fw_pk_X5_pop hs (fun v88 s88 p6_ => ⟨(fun _ => (k _ (fw_c p6_ (fww (by decide))))), (fun _ => (k _ (fw_c p6_ (fww (by decide)))))⟩))), (fun _ => ⟨(fun _ => trivial), (fun _ => ⟨(fun _ => trivial), (fun _ => ⟨(fun _ => (fw_pk_X5_turn hs (fun v129 s129 p7_ => (k _ p7_)))), (fun _ => ⟨(fun _ => (fw_pk_X5_call hs (fun s158 p8_ => (k _ p8_)))), (fun _ => (fw_pk_X5_giveBack hs (fun s165 p9_ => (k _ p9_))))⟩)⟩)⟩)⟩)⟩)⟩)⟩⟩⟩
theorem fw_pk_X5_compared {a0 : Int32} {a1 : Int32} {a2 : Int32} {σ : St} {Q : Int32 → Prop} (k : ∀ (v0 : Int32), Q v0) : pk_X5_compared a0 a1 a2 σ Q := by
  unfold pk_X5_compared
  exact ⟨(fun _ => ⟨(fun _ => (k _)), (fun _ => (k _))⟩), (fun _ => ⟨(fun _ => ⟨(fun _ => (k _)), (fun _ => (k _))⟩), (fun _ => ⟨(fun _ => ⟨(fun _ => (k _)), (fun _ => (k _))⟩), (fun _ => ⟨(fun _ => ⟨(fun _ => (k _)), (fun _ => (k _))⟩), (fun _ => ⟨(fun _ => ⟨(fun _ => (k _)), (fun _ => (k _))⟩), (fun _ => ⟨(fun _ => ⟨(fun _ => (k _)), (fun _ => (k _))⟩), (fun _ => ⟨(fun _ => ⟨(fun _ => (k _)), (fun _ => (k _))⟩), (fun _ => ⟨(fun _ => ⟨(fun _ => (k _)), (fun _ => (k _))⟩), (fun _ => ⟨(fun _ => ⟨(fun _ => (k _)), (fun _ => (k _))⟩), (fun _ => ⟨(fun _ => ⟨(fun _ => (k _)), (fun _ => (k _))⟩), (fun _ => (k _))⟩)⟩)⟩)⟩)⟩)⟩)⟩)⟩)⟩)⟩
theorem fw_pk_X5_worked {a0 : Int32} {a1 : Int32} {a2 : Int32} {σ : St} {Q : Int32 → Prop} (k : ∀ (v0 : Int32), Q v0) : pk_X5_worked a0 a1 a2 σ Q := by
  unfold pk_X5_worked
  exact ⟨(fun _ => (k _)), (fun _ => ⟨(fun _ => (k _)), (fun _ => ⟨(fun _ => (k _)), (fun _ => ⟨(fun _ => (k _)), (fun _ => ⟨(fun _ => (k _)), (fun _ => ⟨(fun _ => ⟨(fun _ => (fun _ => (k _))), (fun _ => (k _))⟩), (fun _ => ⟨(fun _ => ⟨(fun _ => (fun _ => (k _))), (fun _ => (k _))⟩), (fun _ => ⟨(fun _ => (k _)), (fun _ => ⟨(fun _ => (k _)), (fun _ => ⟨(fun _ => (k _)), (fun _ => (fw_pk_X5_compared (fun v121 => ⟨(fun _ => (k _)), (fun _ => (k _))⟩)))⟩)⟩)⟩)⟩)⟩)⟩)⟩)⟩)⟩)⟩
theorem fw_pk_X5_calculate {w : St} {a1 : Int32} {a2 : Int32} {σ : St} {Q : St → Prop} (hs : FWs w σ) (k : ∀ (v0 : St), FWs w v0 → Q v0) : pk_X5_calculate a1 a2 σ Q := by
  unfold pk_X5_calculate
  exact (fw_pk_X5_pop hs (fun v1 s1 p1_ => (fw_pk_X5_pop p1_ (fun v6 s6 p2_ => ⟨True, ⟨(fun j3_ => (fw_pk_X5_worked (fun v50 => (fw_pk_X5_push p2_ (fun s53 p4_ => (k _ p4_)))))), ⟨True, ⟨(fun j5_ => ⟨(fun _ => trivial), (fun _ => (fw_pk_X5_fail p2_ (fun s39 p6_ => (k _ p6_))))⟩), ⟨(fun _ => trivial), (fun _ => ⟨(fun _ => trivial), (fun _ => trivial)⟩)⟩⟩⟩⟩⟩))))
theorem fw_pk_X5_step {w : St} {σ : St} {Q : St → Prop} (hs : FWs w σ) (k : ∀ (v0 : St), FWs w v0 → Q v0) : pk_X5_step σ Q := by
  unfold pk_X5_step
  exact ⟨True, ⟨(fun j1_ => (fw_pk_X5_stray hs (fun s51 p2_ => (k _ p2_)))), ⟨(fun _ => trivial), (fun _ => ⟨(fun _ => trivial), (fun _ => ⟨(fun _ => ⟨(fun _ => ⟨(fun _ => ⟨(fun _ => ⟨(fun _ => ⟨(fun _ => (fw_pk_X5_plain (fw_c hs (fww (by decide))) (fun s146 p3_ => (k _ p3_)))), (fun _ => (fw_pk_X5_inFrame (fw_c hs (fww (by decide))) (fun s137 p4_ => (k _ p4_))))⟩), (fun _ => (fw_pk_X5_reach (fw_c hs (fww (by decide))) (fun s122 p5_ => (k _ p5_))))⟩), (fun _ => (fw_pk_X5_pop (fw_c hs (fww (by decide))) (fun v101 s101 p6_ => (fw_pk_X5_inverted (fun v104 => (fw_pk_X5_push p6_ (fun s107 p7_ => (k _ p7_))))))))⟩), (fun _ => (fw_pk_X5_lead (fw_c hs (fww (by decide))) (fun s86 p8_ => (k _ p8_))))⟩), (fun _ => (fw_pk_X5_calculate (fw_c hs (fww (by decide))) (fun s71 p9_ => (k _ p9_))))⟩), (fun _ => trivial)⟩)⟩)⟩⟩⟩
theorem fw_pk_X5_execute {w : St} {a1 : Int32} {σ : St} {Q : Int32 → St → Prop} (hs : FWs w σ) (k : ∀ (v0 : Int32) (v1 : St), FWs w v1 → Q v0 v1) : pk_X5_execute a1 σ Q := by
  unfold pk_X5_execute
  exact (fw_pk_X5_begin hs (fun s2 p1_ => (fw_pk_X5_enter p1_ (fun s14 p2_ => ⟨(fun x3_ x4_ => FWs w x4_), ⟨p2_, (fun x4_48 s48 => fun j5_ => ⟨True, ⟨(fun j6_ => ⟨(fun x7_ => FWs w x7_), ⟨(fun s88 => fun j8_ => (fw_pk_X9_useUp j8_ (fun s92 p9_ => (k _ _ p9_)))), ⟨(fun _ => j5_), (fun _ => (fw_pk_X5_stray j5_ (fun s85 p10_ => p10_)))⟩⟩⟩), ⟨(fun _ => trivial), (fun _ => ⟨(fun _ => trivial), (fun _ => (fw_pk_X5_step j5_ (fun s64 p11_ => p11_)))⟩)⟩⟩⟩)⟩⟩))))
theorem fw_pk_X12_run {w : St} {a1 : Int32} {σ : St} {Q : Int32 → St → Prop} (hs : FWs w σ) (k : ∀ (v0 : Int32) (v1 : St), FWs w v1 → Q v0 v1) : pk_X12_run a1 σ Q := by
  unfold pk_X12_run
  exact ⟨(fun _ => ⟨(fun _ => (k _ _ hs)), (fun _ => ⟨(fun _ => (fw_pk_X5_execute hs (fun v33 s33 p1_ => (k _ _ p1_)))), (fun _ => (k _ _ hs))⟩)⟩), (fun _ => (k _ _ hs))⟩
theorem fw_pk_X9_give {w : St} {a1 : Int32} {σ : St} {Q : Int32 → St → Prop} (hs : FWs w σ) (k : ∀ (v0 : Int32) (v1 : St), FWs w v1 → Q v0 v1) : pk_X9_give a1 σ Q := by
  unfold pk_X9_give
  exact ⟨(fun _ => (k _ _ hs)), (fun _ => ⟨(fun _ => (fun _ => (k _ _ (fw_c (fw_c hs (fww (by decide))) (fww (by decide)))))), (fun _ => (k _ _ hs))⟩)⟩
theorem fw_pk_X12_input {w : St} {a1 : Int32} {σ : St} {Q : Int32 → St → Prop} (hs : FWs w σ) (k : ∀ (v0 : Int32) (v1 : St), FWs w v1 → Q v0 v1) : pk_X12_input a1 σ Q := by
  unfold pk_X12_input
  exact (fw_pk_X9_give hs (fun v5 s5 p1_ => (k _ _ p1_)))
def FHs (w s : St) : Prop := s 0 67 = w 0 67 ∧ s 40 = w 40
theorem fh_rf {w : St} : FHs w w := ⟨rfl, rfl⟩
theorem fh_z {w s : St} {k : Nat} {v : Int32} (h : FHs w s) (hk : 67 ≠ k) : FHs w (upC s 0 k v) := ⟨by rw [rdA_ne hk]; exact h.1, by rw [rdC_ne (by decide)]; exact h.2⟩
theorem fh_c {w s : St} {c k : Nat} {v : Int32} (h : FHs w s) (h0 : 0 ≠ c) (h40 : 40 ≠ c) : FHs w (upC s c k v) := ⟨by rw [rdC_ne h0]; exact h.1, by rw [rdC_ne h40]; exact h.2⟩
theorem fh_pp_library_0 {a1 : Int32} {σ : St} {τ : St} {vs : List Nat} {Q : Int32 → Prop} (k : ∀ (v0 : Int32), Q v0) : pp_library_0 a1 σ τ vs Q := by
  unfold pp_library_0
  exact ⟨(fun x1_ x2_ => True), ⟨trivial, (fun x2_4 x3_4 => fun j3_ => ⟨(fun _ => (k _)), (fun _ => ⟨(fun x4_ => True), ⟨trivial, (fun x4_12 => fun j5_ => fun _ => ⟨(fun _ => (fun _ => ⟨(fun x6_ => True), ⟨(fun y0_49 => fun _ => fun j7_ => ⟨(fun x8_ x9_ => True), ⟨trivial, (fun x5_54 x6_54 => fun _ => fun j10_ => ⟨True, ⟨(fun j11_ => ⟨(fun _ => trivial), (fun _ => (k _))⟩), ⟨(fun _ => trivial), (fun _ => ⟨(fun _ => trivial), (fun _ => (fun _ => (fun _ => (fun _ => ⟨(fun x12_ => True), ⟨(fun y0_100 => fun _ => fun j13_ => trivial), ⟨(fun _ => trivial), (fun _ => trivial)⟩⟩⟩))))⟩)⟩⟩⟩)⟩⟩), ⟨(fun _ => trivial), (fun _ => trivial)⟩⟩⟩)), (fun _ => trivial)⟩)⟩⟩)⟩)⟩⟩
theorem fh_pp_isSymbol {a1 : Int32} {a2 : Int32} {σ : St} {τ : St} {vs : List Nat} {Q : Int32 → Prop} (k : ∀ (v0 : Int32), Q v0) : pp_isSymbol a1 a2 σ τ vs Q := by
  unfold pp_isSymbol
  exact (fun _ => ⟨(fun _ => (k _)), (fun _ => (fun _ => ⟨(fun _ => (k _)), (fun _ => (k _))⟩))⟩)
theorem fh_pp_isAlike {a1 : Int32} {a2 : Int32} {σ : St} {τ : St} {vs : List Nat} {Q : Int32 → Prop} (k : ∀ (v0 : Int32), Q v0) : pp_isAlike a1 a2 σ τ vs Q := by
  unfold pp_isAlike
  exact (fun _ => (fun _ => ⟨(fun _ => ⟨(fun x1_ => True), ⟨trivial, (fun x3_19 => fun j2_ => fun _ => ⟨(fun _ => (k _)), (fun _ => (fun _ => (fun _ => (fun _ => (fun _ => ⟨(fun _ => trivial), (fun _ => (k _))⟩)))))⟩)⟩⟩), (fun _ => (k _))⟩))
theorem fh_pp_find {w : St} {a1 : Int32} {a2 : Int32} {σ : St} {τ : St} {vs : List Nat} {Q : Int32 → St → St → List Nat → Prop} (hs : FHs w σ) (k : ∀ (v0 : Int32) (v1 : St) (v2 : St) (v3 : List Nat), FHs w v1 → Q v0 v1 v2 v3) : pp_find a1 a2 σ τ vs Q := by
  unfold pp_find
  exact ⟨(fun x1_ => True), ⟨trivial, (fun x3_2 => fun j2_ => ⟨(fun _ => (k _ _ _ _ hs)), (fun _ => (fun _ => (fun _ => ⟨(fun x3_ => True), ⟨trivial, (fun x4_22 => fun j4_ => fun _ => fun _ => ⟨(fun _ => trivial), (fun _ => (fh_pp_isSymbol (fun v42 => ⟨True, ⟨(fun j5_ => trivial), ⟨(fun _ => trivial), (fun _ => (fh_pp_isAlike (fun v52 => ⟨(fun _ => (k _ _ _ _ (fh_z (fh_z hs (by decide)) (by decide)))), (fun _ => trivial)⟩)))⟩⟩⟩)))⟩)⟩⟩)))⟩)⟩⟩
theorem fh_pp_hasType {a1 : Int32} {a2 : Int32} {σ : St} {τ : St} {vs : List Nat} {Q : Int32 → Prop} (k : ∀ (v0 : Int32), Q v0) : pp_hasType a1 a2 σ τ vs Q := by
  unfold pp_hasType
  exact (fun _ => (fun _ => ⟨(fun _ => (k _)), (fun _ => (fun _ => (fun _ => ⟨(fun _ => (fun _ => ⟨(fun _ => (fun _ => (fun _ => ⟨(fun _ => ⟨(fun x1_ => True), ⟨trivial, (fun x3_122 => fun j2_ => fun _ => ⟨(fun _ => (k _)), (fun _ => (fun _ => (fun _ => ⟨(fun _ => trivial), (fun _ => (k _))⟩)))⟩)⟩⟩), (fun _ => (k _))⟩))), (fun _ => (fun _ => ⟨(fun x3_ => True), ⟨(fun y0_56 => fun _ => fun j4_ => fun _ => ⟨(fun x5_ => True), ⟨(fun y1_70 => fun _ => fun j6_ => ⟨(fun _ => (k _)), (fun _ => (fun _ => ⟨(fun _ => (k _)), (fun _ => (fun _ => (fun _ => ⟨(fun _ => (k _)), (fun _ => (k _))⟩)))⟩))⟩), ⟨(fun _ => trivial), (fun _ => trivial)⟩⟩⟩), ⟨(fun _ => trivial), (fun _ => trivial)⟩⟩⟩))⟩)), (fun _ => (k _))⟩)))⟩))
theorem fh_pp_hasLibraryType {a1 : Int32} {a2 : Int32} {σ : St} {τ : St} {vs : List Nat} {Q : Int32 → Prop} (k : ∀ (v0 : Int32), Q v0) : pp_hasLibraryType a1 a2 σ τ vs Q := by
  unfold pp_hasLibraryType
  exact (fun _ => ⟨(fun _ => ⟨(fun _ => (fun _ => ⟨(fun _ => (k _)), (fun _ => (fun _ => ⟨(fun _ => (k _)), (fun _ => (fun _ => ⟨(fun _ => (k _)), (fun _ => (k _))⟩))⟩))⟩)), (fun _ => (fun _ => ⟨(fun _ => (k _)), (fun _ => (fun _ => ⟨(fun _ => (k _)), (fun _ => (k _))⟩))⟩))⟩), (fun _ => (k _))⟩)
theorem fh_pp_holds {w : St} {a1 : Int32} {a2 : Int32} {a3 : Int32} {a4 : Int32} {σ : St} {τ : St} {vs : List Nat} {Q : Int32 → St → St → List Nat → Prop} (hs : FHs w σ) (k : ∀ (v0 : Int32) (v1 : St) (v2 : St) (v3 : List Nat), FHs w v1 → Q v0 v1 v2 v3) : pp_holds a1 a2 a3 a4 σ τ vs Q := by
  unfold pp_holds
  exact (fh_pp_library_0 (fun v2 => ⟨(fun _ => (fh_pp_isSymbol (fun v45 => ⟨(fun _ => ⟨(fun _ => ⟨(fun _ => (fh_pp_find hs (fun v114 s114 t114 z114 p1_ => ⟨(fun _ => (k _ _ _ _ p1_)), (fun _ => (fh_pp_hasType (fun v126 => ⟨(fun _ => (k _ _ _ _ p1_)), (fun _ => (k _ _ _ _ p1_))⟩)))⟩))), (fun _ => (fh_pp_hasLibraryType (fun v98 => ⟨(fun _ => (k _ _ _ _ hs)), (fun _ => (k _ _ _ _ hs))⟩)))⟩), (fun _ => (fun _ => ⟨(fun _ => (k _ _ _ _ hs)), (fun _ => ⟨(fun _ => (k _ _ _ _ hs)), (fun _ => (fh_pp_find hs (fun v77 s77 t77 z77 p2_ => ⟨(fun _ => (k _ _ _ _ p2_)), (fun _ => (k _ _ _ _ p2_))⟩)))⟩)⟩))⟩), (fun _ => (k _ _ _ _ hs))⟩))), (fun _ => (fh_pp_isSymbol (fun v16 => ⟨(fun _ => (k _ _ _ _ hs)), (fun _ => ⟨(fun _ => (k _ _ _ _ hs)), (fun _ => (fh_pp_find hs (fun v30 s30 t30 z30 p3_ => ⟨(fun _ => (k _ _ _ _ p3_)), (fun _ => (k _ _ _ _ p3_))⟩)))⟩)⟩)))⟩))
theorem fh_pp_isFault {w : St} {a1 : Int32} {a2 : Int32} {σ : St} {τ : St} {vs : List Nat} {Q : Int32 → St → St → List Nat → Prop} (hs : FHs w σ) (k : ∀ (v0 : Int32) (v1 : St) (v2 : St) (v3 : List Nat), FHs w v1 → Q v0 v1 v2 v3) : pp_isFault a1 a2 σ τ vs Q := by
  unfold pp_isFault
  exact ⟨(fun x1_ x2_ x3_ x4_ => FHs w x2_), ⟨hs, (fun x3_2 s2 t2 z2 => fun j5_ => ⟨(fun _ => (k _ _ _ _ j5_)), (fun _ => (fun _ => (fun _ => ⟨(fun x6_ x7_ x8_ x9_ x10_ => FHs w x8_), ⟨j5_, (fun x4_25 x5_25 s25 t25 z25 => fun j11_ => fun _ => fun _ => ⟨(fun _ => j11_), (fun _ => (fun _ => ⟨(fun x12_ x13_ x14_ x15_ => FHs w x13_), ⟨(fun x4_82 s82 t82 z82 => fun j16_ => j16_), ⟨(fun _ => (fh_pp_holds j11_ (fun v60 s60 t60 z60 p17_ => ⟨(fun _ => p17_), (fun _ => (k _ _ _ _ (fh_z (fh_z p17_ (by decide)) (by decide))))⟩))), (fun _ => j11_)⟩⟩⟩))⟩)⟩⟩)))⟩)⟩⟩
theorem fh_pp_mainOf {a1 : Int32} {σ : St} {τ : St} {vs : List Nat} {Q : Int32 → Prop} (k : ∀ (v0 : Int32), Q v0) : pp_mainOf a1 σ τ vs Q := by
  unfold pp_mainOf
  exact ⟨(fun x1_ => True), ⟨trivial, (fun x2_2 => fun j2_ => ⟨(fun _ => (k _)), (fun _ => (fun _ => (fun _ => ⟨(fun x3_ => True), ⟨trivial, (fun x3_21 => fun j4_ => fun _ => fun _ => ⟨(fun _ => trivial), (fun _ => (fun _ => ⟨(fun x5_ => True), ⟨(fun y0_121 => fun _ => fun j6_ => ⟨True, ⟨(fun j7_ => trivial), ⟨(fun _ => trivial), (fun _ => (fh_pp_isSymbol (fun v131 => ⟨(fun _ => trivial), (fun _ => (fun _ => ⟨(fun _ => trivial), (fun _ => (fun _ => ⟨(fun _ => trivial), (fun _ => (fun _ => ⟨(fun _ => trivial), (fun _ => (fun _ => (k _)))⟩))⟩))⟩))⟩)))⟩⟩⟩), ⟨True, ⟨(fun j8_ => trivial), ⟨(fun _ => trivial), (fun _ => (fun _ => (fun _ => ⟨(fun _ => trivial), (fun _ => (fun _ => (fun _ => ⟨(fun _ => trivial), (fun _ => (fun _ => (fun _ => ⟨(fun _ => trivial), (fun _ => (fun _ => (fun _ => ⟨(fun _ => trivial), (fun _ => trivial)⟩)))⟩)))⟩)))⟩)))⟩⟩⟩⟩⟩))⟩)⟩⟩)))⟩)⟩⟩
theorem fh_pp_aimOf {w : St} {a1 : Int32} {a2 : Int32} {a3 : Int32} {σ : St} {τ : St} {vs : List Nat} {Q : Int32 → St → St → List Nat → Prop} (hs : FHs w σ) (k : ∀ (v0 : Int32) (v1 : St) (v2 : St) (v3 : List Nat), FHs w v1 → Q v0 v1 v2 v3) : pp_aimOf a1 a2 a3 σ τ vs Q := by
  unfold pp_aimOf
  exact (fun _ => ⟨(fun _ => (fun _ => ⟨(fun x1_ => True), ⟨(fun y0_60 => fun j2_ => ⟨(fun _ => (fun _ => ⟨(fun _ => (k _ _ _ _ hs)), (fun _ => (fh_pp_find hs (fun v84 s84 t84 z84 p3_ => ⟨(fun _ => (fun _ => ⟨(fun _ => (fun _ => (k _ _ _ _ p3_))), (fun _ => (fun _ => (fun _ => (k _ _ _ _ p3_))))⟩)), (fun _ => (k _ _ _ _ p3_))⟩)))⟩)), (fun _ => (k _ _ _ _ hs))⟩), ⟨(fun _ => (fh_pp_library_0 (fun v57 => trivial))), (fun _ => trivial)⟩⟩⟩)), (fun _ => (fun _ => ⟨(fun _ => (fun _ => (k _ _ _ _ hs))), (fun _ => (fun _ => (fun _ => (k _ _ _ _ hs))))⟩))⟩)
theorem fh_pp_layAll {w : St} {a1 : Int32} {σ : St} {τ : St} {vs : List Nat} {Q : St → St → List Nat → Prop} (hs : FHs w σ) (k : ∀ (v0 : St) (v1 : St) (v2 : List Nat), FHs w v0 → Q v0 v1 v2) : pp_layAll a1 σ τ vs Q := by
  unfold pp_layAll
  exact ⟨(fun x1_ x2_ x3_ x4_ x5_ => FHs w x3_), ⟨hs, (fun x2_5 x3_5 s5 t5 z5 => fun j6_ => ⟨(fun _ => ⟨(fun x7_ x8_ x9_ x10_ => FHs w x8_), ⟨j6_, (fun x3_55 s55 t55 z55 => fun j11_ => ⟨(fun _ => ⟨(fun x12_ x13_ x14_ x15_ => FHs w x13_), ⟨j11_, (fun x3_79 s79 t79 z79 => fun j16_ => ⟨(fun _ => (k _ _ _ (fh_z j16_ (by decide)))), (fun _ => (fun _ => (fun _ => ⟨(fun x17_ x18_ x19_ x20_ => FHs w x18_), ⟨j16_, (fun x5_103 s103 t103 z103 => fun j21_ => fun _ => ⟨(fun _ => (fun _ => ⟨(fun x22_ x23_ x24_ x25_ => FHs w x23_), ⟨j21_, (fun x5_147 s147 t147 z147 => fun j26_ => fun _ => ⟨(fun _ => (fun _ => (fun _ => (fh_c j26_ (by decide) (by decide))))), (fun _ => (fun _ => ⟨(fun x27_ => True), ⟨(fun y0_217 => fun j28_ => fun _ => fun _ => fun _ => fun _ => (fh_c j26_ (by decide) (by decide))), ⟨(fun _ => ⟨(fun _ => trivial), (fun _ => (fun _ => trivial))⟩), (fun _ => (fun _ => (fun _ => trivial)))⟩⟩⟩))⟩)⟩⟩)), (fun _ => (fh_pp_aimOf j21_ (fun v128 s128 t128 z128 p29_ => (fun _ => (fh_c p29_ (by decide) (by decide))))))⟩)⟩⟩)))⟩)⟩⟩), (fun _ => (fun _ => (fh_c j11_ (by decide) (by decide))))⟩)⟩⟩), (fun _ => (fun _ => (fun _ => (fun _ => (fun _ => (fun _ => (fh_c (fh_c j6_ (by decide) (by decide)) (by decide) (by decide))))))))⟩)⟩⟩
theorem fh_pp_parametersOf {a1 : Int32} {σ : St} {τ : St} {vs : List Nat} {Q : Int32 → Prop} (k : ∀ (v0 : Int32), Q v0) : pp_parametersOf a1 σ τ vs Q := by
  unfold pp_parametersOf
  exact (fun _ => (k _))
theorem fh_pp_rowOf {a1 : Int32} {σ : St} {τ : St} {vs : List Nat} {Q : Int32 → Prop} (k : ∀ (v0 : Int32), Q v0) : pp_rowOf a1 σ τ vs Q := by
  unfold pp_rowOf
  exact (fun _ => (fun _ => (k _)))
theorem fh_pp_setLocal {w : St} {a1 : Int32} {a2 : Int32} {σ : St} {τ : St} {vs : List Nat} {Q : St → St → List Nat → Prop} (hs : FHs w σ) (k : ∀ (v0 : St) (v1 : St) (v2 : List Nat), FHs w v0 → Q v0 v1 v2) : pp_setLocal a1 a2 σ τ vs Q := by
  unfold pp_setLocal
  exact (fh_pp_rowOf (fun v6 => (fun _ => ⟨(fun _ => (fun _ => (k _ _ _ (fh_c hs (by decide) (by decide))))), (fun _ => (fun _ => (fun _ => (k _ _ _ (fh_c hs (by decide) (by decide))))))⟩)))
theorem fh_pp_ends {w : St} {a1 : Int32} {a2 : Int32} {a3 : Int32} {σ : St} {τ : St} {vs : List Nat} {Q : St → St → List Nat → Prop} (hs : FHs w σ) (k : ∀ (v0 : St) (v1 : St) (v2 : List Nat), FHs w v0 → Q v0 v1 v2) : pp_ends a1 a2 a3 σ τ vs Q := by
  unfold pp_ends
  exact (k _ _ _ (fh_z (fh_z (fh_z hs (by decide)) (by decide)) (by decide)))
theorem fh_pp_enter {w : St} {a1 : Int32} {a2 : Int32} {a3 : Int32} {a4 : Int32} {σ : St} {τ : St} {vs : List Nat} {Q : St → St → List Nat → Prop} (hs : FHs w σ) (k : ∀ (v0 : St) (v1 : St) (v2 : List Nat), FHs w v0 → Q v0 v1 v2) : pp_enter a1 a2 a3 a4 σ τ vs Q := by
  unfold pp_enter
  exact ⟨(fun _ => ⟨(fun x1_ => True), ⟨(fun y0_53 => fun j2_ => fun _ => ⟨(fun _ => (fun _ => (fun _ => (fun _ => (fh_pp_parametersOf (fun v125 => ⟨(fun x3_ x4_ x5_ x6_ => FHs w x4_), ⟨(fh_z (fh_c (fh_c (fh_c (fh_z hs (by decide)) (by decide) (by decide)) (by decide) (by decide)) (by decide) (by decide)) (by decide)), (fun x7_133 s133 t133 z133 => fun j7_ => fun _ => ⟨(fun _ => ⟨(fun x8_ x9_ x10_ x11_ => FHs w x9_), ⟨(fh_z j7_ (by decide)), (fun x7_182 s182 t182 z182 => fun j12_ => ⟨(fun _ => (k _ _ _ j12_)), (fun _ => (fun _ => (fh_pp_setLocal j12_ (fun s204 t204 z204 p13_ => p13_))))⟩)⟩⟩), (fun _ => (fun _ => (fh_c j7_ (by decide) (by decide))))⟩)⟩⟩)))))), (fun _ => (fh_pp_ends (fh_z hs (by decide)) (fun s78 t78 z78 p14_ => (k _ _ _ p14_))))⟩), ⟨(fun _ => (fun _ => trivial)), (fun _ => trivial)⟩⟩⟩), (fun _ => (fh_pp_ends hs (fun s16 t16 z16 p15_ => (k _ _ _ p15_))))⟩
theorem fh_pp_push {w : St} {a1 : Int32} {σ : St} {τ : St} {vs : List Nat} {Q : St → St → List Nat → Prop} (hs : FHs w σ) (k : ∀ (v0 : St) (v1 : St) (v2 : List Nat), FHs w v0 → Q v0 v1 v2) : pp_push a1 σ τ vs Q := by
  unfold pp_push
  exact (fun _ => (k _ _ _ (fh_z (fh_c hs (by decide) (by decide)) (by decide))))
theorem fh_pp_pop {w : St} {σ : St} {τ : St} {vs : List Nat} {Q : Int32 → St → St → List Nat → Prop} (hs : FHs w σ) (k : ∀ (v0 : Int32) (v1 : St) (v2 : St) (v3 : List Nat), FHs w v1 → Q v0 v1 v2 v3) : pp_pop σ τ vs Q := by
  unfold pp_pop
  exact (fun _ => (k _ _ _ _ (fh_z hs (by decide))))
theorem fh_pp_leave {w : St} {a1 : Int32} {σ : St} {τ : St} {vs : List Nat} {Q : Int32 → St → St → List Nat → Prop} (hs : FHs w σ) (k : ∀ (v0 : Int32) (v1 : St) (v2 : St) (v3 : List Nat), FHs w v1 → Q v0 v1 v2 v3) : pp_leave a1 σ τ vs Q := by
  unfold pp_leave
  exact ⟨(fun x1_ x2_ x3_ x4_ => FHs w x2_), ⟨(fun y0_12 s12 t12 z12 => fun j5_ => ⟨(fun _ => ⟨(fun _ => (fun _ => (k _ _ _ _ (fh_z j5_ (by decide))))), (fun _ => (fh_pp_push (fh_z j5_ (by decide)) (fun s48 t48 z48 p6_ => (fun _ => (k _ _ _ _ p6_)))))⟩), (fun _ => (k _ _ _ _ (fh_z (fh_z (fh_z j5_ (by decide)) (by decide)) (by decide))))⟩), ⟨(fun _ => hs), (fun _ => (fh_pp_pop hs (fun v5 s5 t5 z5 p7_ => p7_)))⟩⟩⟩
theorem fh_pp_isCell {a0 : Int32} {σ : St} {τ : St} {vs : List Nat} {Q : Int32 → Prop} (k : ∀ (v0 : Int32), Q v0) : pp_isCell a0 σ τ vs Q := by
  unfold pp_isCell
  exact ⟨(fun _ => (k _)), (fun _ => ⟨(fun _ => (k _)), (fun _ => (k _))⟩)⟩
theorem fh_pp_trapped {w : St} {a1 : Int32} {a2 : Int32} {σ : St} {τ : St} {vs : List Nat} {Q : St → St → List Nat → Prop} (hs : FHs w σ) (k : ∀ (v0 : St) (v1 : St) (v2 : List Nat), FHs w v0 → Q v0 v1 v2) : pp_trapped a1 a2 σ τ vs Q := by
  unfold pp_trapped
  exact (fun _ => (fun _ => (fh_pp_ends hs (fun s21 t21 z21 p1_ => (k _ _ _ p1_)))))
theorem fh_pp_compared {a0 : Int32} {a1 : Int32} {a2 : Int32} {σ : St} {τ : St} {vs : List Nat} {Q : Int32 → Prop} (k : ∀ (v0 : Int32), Q v0) : pp_compared a0 a1 a2 σ τ vs Q := by
  unfold pp_compared
  exact ⟨(fun _ => ⟨(fun _ => ⟨(fun _ => ⟨(fun _ => (k _)), (fun _ => (k _))⟩), (fun _ => ⟨(fun _ => (k _)), (fun _ => (k _))⟩)⟩), (fun _ => ⟨(fun _ => (k _)), (fun _ => (k _))⟩)⟩), (fun _ => ⟨(fun _ => (k _)), (fun _ => (k _))⟩)⟩
theorem fh_pp_work {a0 : Int32} {a1 : Int32} {a2 : Int32} {σ : St} {τ : St} {vs : List Nat} {Q : Int32 → Prop} (k : ∀ (v0 : Int32), Q v0) : pp_work a0 a1 a2 σ τ vs Q := by
  unfold pp_work
  exact ⟨True, ⟨(fun j1_ => ⟨(fun x2_ => True), ⟨(fun y0_233 => fun j3_ => ⟨(fun x4_ => True), ⟨(fun y1_248 => fun j5_ => ⟨(fun x6_ => True), ⟨(fun y2_263 => fun j7_ => (fh_pp_compared (fun v263 => ⟨(fun _ => (k _)), (fun _ => (k _))⟩))), ⟨(fun _ => trivial), (fun _ => trivial)⟩⟩⟩), ⟨(fun _ => trivial), (fun _ => trivial)⟩⟩⟩), ⟨(fun _ => trivial), (fun _ => trivial)⟩⟩⟩), ⟨(fun _ => ⟨(fun _ => (k _)), (fun _ => (k _))⟩), (fun _ => ⟨(fun _ => ⟨(fun _ => (k _)), (fun _ => (k _))⟩), (fun _ => ⟨(fun _ => trivial), (fun _ => ⟨(fun _ => trivial), (fun _ => ⟨(fun _ => (k _)), (fun _ => ⟨(fun _ => (k _)), (fun _ => ⟨(fun _ => trivial), (fun _ => ⟨(fun _ => trivial), (fun _ => ⟨(fun _ => trivial), (fun _ => ⟨(fun _ => trivial), (fun _ => ⟨(fun _ => trivial), (fun _ => ⟨(fun _ => trivial), (fun _ => ⟨(fun _ => trivial), (fun _ => ⟨(fun _ => trivial), (fun _ => ⟨(fun _ => trivial), (fun _ => ⟨(fun _ => trivial), (fun _ => ⟨(fun _ => trivial), (fun _ => ⟨(fun _ => trivial), (fun _ => ⟨(fun _ => trivial), (fun _ => ⟨(fun _ => (k _)), (fun _ => ⟨(fun _ => (k _)), (fun _ => ⟨(fun _ => (k _)), (fun _ => ⟨(fun _ => trivial), (fun _ => ⟨(fun _ => trivial), (fun _ => ⟨(fun _ => (k _)), (fun _ => ⟨(fun _ => (k _)), (fun _ => ⟨(fun _ => (k _)), (fun _ => ⟨(fun _ => ⟨(fun _ => (fun _ => (k _))), (fun _ => (k _))⟩), (fun _ => ⟨(fun _ => ⟨(fun _ => (fun _ => (k _))), (fun _ => (k _))⟩), (fun _ => trivial)⟩)⟩)⟩)⟩)⟩)⟩)⟩)⟩)⟩)⟩)⟩)⟩)⟩)⟩)⟩)⟩)⟩)⟩)⟩)⟩)⟩)⟩)⟩)⟩)⟩)⟩)⟩)⟩)⟩⟩⟩
theorem fh_pp_emit {w : St} {a1 : Int32} {a2 : Int32} {σ : St} {τ : St} {vs : List Nat} {Q : St → St → List Nat → Prop} (hs : FHs w σ) (k : ∀ (v0 : St) (v1 : St) (v2 : List Nat), FHs w v0 → Q v0 v1 v2) : pp_emit a1 a2 σ τ vs Q := by
  unfold pp_emit
  exact ⟨(fun _ => (fun _ => (k _ _ _ (fh_z (fh_c hs (by decide) (by decide)) (by decide))))), (fun _ => ⟨(fun _ => (k _ _ _ hs)), (fun _ => (fh_pp_trapped hs (fun s21 t21 z21 p1_ => (k _ _ _ p1_))))⟩)⟩
theorem fh_pp_print {w : St} {a1 : Int32} {a2 : Int32} {σ : St} {τ : St} {vs : List Nat} {Q : St → St → List Nat → Prop} (hs : FHs w σ) (k : ∀ (v0 : St) (v1 : St) (v2 : List Nat), FHs w v0 → Q v0 v1 v2) : pp_print a1 a2 σ τ vs Q := by
  unfold pp_print
  exact ⟨(fun x1_ x2_ x3_ x4_ => FHs w x2_), ⟨(fun x3_19 s19 t19 z19 => fun j5_ => ⟨(fun x6_ => True), ⟨trivial, (fun x5_22 => fun j7_ => fun _ => ⟨(fun _ => ⟨(fun x8_ x9_ x10_ x11_ => FHs w x9_), ⟨j5_, (fun x5_44 s44 t44 z44 => fun j12_ => ⟨(fun _ => (k _ _ _ j12_)), (fun _ => (fun _ => (fh_pp_emit j12_ (fun s66 t66 z66 p13_ => p13_))))⟩)⟩⟩), (fun _ => trivial)⟩)⟩⟩), ⟨(fun _ => hs), (fun _ => (fh_pp_emit hs (fun s13 t13 z13 p14_ => p14_)))⟩⟩⟩
theorem fh_pp_library_1 {w : St} {a1 : Int32} {a2 : Int32} {σ : St} {τ : St} {vs : List Nat} {Q : St → St → List Nat → Prop} (hs : FHs w σ) (k : ∀ (v0 : St) (v1 : St) (v2 : List Nat), FHs w v0 → Q v0 v1 v2) : pp_library_1 a1 a2 σ τ vs Q := by
  unfold pp_library_1
  exact ⟨(fun _ => (fh_pp_pop hs (fun v59 s59 t59 z59 p1_ => ⟨(fun _ => ⟨(fun _ => (k _ _ _ (fh_z (fh_z p1_ (by decide)) (by decide)))), (fun _ => (fh_pp_print p1_ (fun s85 t85 z85 p2_ => (k _ _ _ p2_))))⟩), (fun _ => (fh_pp_emit p1_ (fun s71 t71 z71 p3_ => (k _ _ _ p3_))))⟩))), (fun _ => ⟨(fun x4_ => True), ⟨(fun y1_33 => fun j5_ => (fh_pp_push hs (fun s33 t33 z33 p6_ => ⟨(fun _ => (k _ _ _ p6_)), (fun _ => (k _ _ _ (fh_z p6_ (by decide))))⟩))), ⟨(fun _ => trivial), (fun _ => (fun _ => trivial))⟩⟩⟩)⟩
theorem fh_pp_call_1 {w : St} {a1 : Int32} {a2 : Int32} {a3 : Int32} {σ : St} {τ : St} {vs : List Nat} {Q : Int32 → St → St → List Nat → Prop} (hs : FHs w σ) (k : ∀ (v0 : Int32) (v1 : St) (v2 : St) (v3 : List Nat), FHs w v1 → Q v0 v1 v2 v3) : pp_call_1 a1 a2 a3 σ τ vs Q := by
  unfold pp_call_1
  exact (fun _ => (fun _ => (fun _ => (fun _ => ⟨(fun _ => (fh_pp_enter hs (fun s63 t63 z63 p1_ => ⟨(fun _ => (k _ _ _ _ p1_)), (fun _ => (fun _ => (k _ _ _ _ p1_)))⟩))), (fun _ => (fh_pp_library_1 hs (fun s45 t45 z45 p2_ => (k _ _ _ _ p2_))))⟩))))
theorem fh_pp_getLocal {a1 : Int32} {σ : St} {τ : St} {vs : List Nat} {Q : Int32 → Prop} (k : ∀ (v0 : Int32), Q v0) : pp_getLocal a1 σ τ vs Q := by
  unfold pp_getLocal
  exact (fh_pp_rowOf (fun v6 => (fun _ => ⟨(fun _ => (fun _ => (k _))), (fun _ => (fun _ => (fun _ => (k _))))⟩)))
theorem fh_pp_stepMore {w : St} {a1 : Int32} {a2 : Int32} {σ : St} {τ : St} {vs : List Nat} {Q : Int32 → St → St → List Nat → Prop} (hs : FHs w σ) (k : ∀ (v0 : Int32) (v1 : St) (v2 : St) (v3 : List Nat), FHs w v1 → Q v0 v1 v2 v3) : pp_stepMore a1 a2 σ τ vs Q := by
  unfold pp_stepMore
  exact (fun _ => ⟨True, ⟨(fun j1_ => (fun _ => ⟨(fun x2_ => True), ⟨(fun y1_401 => fun _ => fun j3_ => (fh_pp_leave hs (fun v401 s401 t401 z401 p4_ => (k _ _ _ _ p4_)))), ⟨(fun _ => trivial), (fun _ => trivial)⟩⟩⟩)), ⟨(fun _ => (fh_pp_pop hs (fun v97 s97 t97 z97 p5_ => (fh_pp_isCell (fun v102 => ⟨(fun _ => (fh_pp_trapped p5_ (fun s124 t124 z124 p6_ => (k _ _ _ _ p6_)))), (fun _ => (fun _ => (fh_pp_push p5_ (fun s115 t115 z115 p7_ => (k _ _ _ _ p7_)))))⟩))))), (fun _ => ⟨(fun _ => (fh_pp_pop hs (fun v132 s132 t132 z132 p8_ => (fh_pp_pop p8_ (fun v137 s137 t137 z137 p9_ => (fh_pp_isCell (fun v144 => ⟨(fun x10_ x11_ x12_ => FHs w x10_), ⟨(fun s167 t167 z167 => fun j13_ => (fh_pp_push j13_ (fun s169 t169 z169 p14_ => (k _ _ _ _ p14_)))), ⟨(fun _ => (fh_pp_trapped p9_ (fun s164 t164 z164 p15_ => p15_))), (fun _ => (fun _ => (fh_c p9_ (by decide) (by decide))))⟩⟩⟩))))))), (fun _ => ⟨(fun _ => trivial), (fun _ => ⟨(fun _ => trivial), (fun _ => ⟨(fun _ => trivial), (fun _ => ⟨(fun _ => trivial), (fun _ => ⟨(fun _ => (fh_pp_pop hs (fun v177 s177 t177 z177 p16_ => (fh_pp_pop p16_ (fun v182 s182 t182 z182 p17_ => ⟨True, ⟨(fun j18_ => (fh_pp_work (fun v224 => (fh_pp_push p17_ (fun s227 t227 z227 p19_ => (k _ _ _ _ p19_)))))), ⟨True, ⟨(fun j20_ => ⟨(fun _ => trivial), (fun _ => (fun _ => (fh_pp_trapped p17_ (fun s213 t213 z213 p21_ => (k _ _ _ _ p21_)))))⟩), ⟨(fun _ => trivial), (fun _ => ⟨(fun _ => trivial), (fun _ => trivial)⟩)⟩⟩⟩⟩⟩))))), (fun _ => ⟨(fun _ => trivial), (fun _ => ⟨(fun _ => trivial), (fun _ => ⟨(fun _ => trivial), (fun _ => ⟨(fun _ => trivial), (fun _ => ⟨(fun _ => trivial), (fun _ => ⟨(fun _ => trivial), (fun _ => ⟨(fun _ => trivial), (fun _ => ⟨(fun _ => (fun _ => (fh_pp_call_1 hs (fun v380 s380 t380 z380 p22_ => (k _ _ _ _ p22_))))), (fun _ => ⟨(fun _ => trivial), (fun _ => ⟨(fun _ => trivial), (fun _ => ⟨(fun _ => (fh_pp_pop hs (fun v235 s235 t235 z235 p23_ => (fh_pp_isCell (fun v240 => ⟨(fun _ => (fun _ => (fun _ => (fun _ => (fun _ => ⟨(fun x24_ => True), ⟨(fun y1_308 => fun j25_ => (fh_pp_push (fh_c p23_ (by decide) (by decide)) (fun s308 t308 z308 p26_ => (k _ _ _ _ p26_)))), ⟨(fun _ => (fun _ => (fun _ => trivial))), (fun _ => (fun _ => trivial))⟩⟩⟩))))), (fun _ => (fh_pp_trapped p23_ (fun s249 t249 z249 p27_ => (k _ _ _ _ p27_))))⟩))))), (fun _ => ⟨(fun _ => (fh_pp_getLocal (fun v317 => (fun _ => (fh_pp_setLocal hs (fun s333 t333 z333 p28_ => (fun _ => ⟨(fun x29_ => True), ⟨(fun y1_362 => fun j30_ => (fh_pp_push p28_ (fun s362 t362 z362 p31_ => (k _ _ _ _ p31_)))), ⟨(fun _ => (fun _ => trivial)), (fun _ => trivial)⟩⟩⟩))))))), (fun _ => trivial)⟩)⟩)⟩)⟩)⟩)⟩)⟩)⟩)⟩)⟩)⟩)⟩)⟩)⟩)⟩)⟩)⟩)⟩)⟩⟩⟩)
theorem fh_pp_clear {w : St} {a1 : Int32} {σ : St} {τ : St} {vs : List Nat} {Q : St → St → List Nat → Prop} (hs : FHs w σ) (k : ∀ (v0 : St) (v1 : St) (v2 : List Nat), FHs w v0 → Q v0 v1 v2) : pp_clear a1 σ τ vs Q := by
  unfold pp_clear
  exact (fh_pp_rowOf (fun v6 => (fun _ => (fun _ => (fh_pp_rowOf (fun v30 => (fun _ => ⟨(fun x1_ x2_ x3_ x4_ => FHs w x2_), ⟨hs, (fun x4_39 s39 t39 z39 => fun j5_ => ⟨(fun _ => ⟨(fun _ => (k _ _ _ j5_)), (fun _ => (fh_pp_setLocal j5_ (fun s68 t68 z68 p6_ => (k _ _ _ p6_))))⟩), (fun _ => (fun _ => (fh_c j5_ (by decide) (by decide))))⟩)⟩⟩)))))))
theorem fh_pp_step {w : St} {a1 : Int32} {σ : St} {τ : St} {vs : List Nat} {Q : Int32 → St → St → List Nat → Prop} (hs : FHs w σ) (k : ∀ (v0 : Int32) (v1 : St) (v2 : St) (v3 : List Nat), FHs w v1 → Q v0 v1 v2 v3) : pp_step a1 σ τ vs Q := by
  unfold pp_step
  exact (fun _ => (fun _ => ⟨True, ⟨(fun j1_ => (fh_pp_stepMore hs (fun v445 s445 t445 z445 p2_ => (k _ _ _ _ p2_)))), ⟨(fun _ => (fh_pp_push hs (fun s130 t130 z130 p3_ => (k _ _ _ _ p3_)))), (fun _ => ⟨(fun _ => (fun _ => (fun _ => (fun _ => (fun _ => (fh_pp_push hs (fun s166 t166 z166 p4_ => (k _ _ _ _ p4_)))))))), (fun _ => ⟨(fun _ => (fun _ => (fun _ => (fun _ => (fh_pp_push hs (fun s197 t197 z197 p5_ => (k _ _ _ _ p5_))))))), (fun _ => ⟨(fun _ => (fh_pp_getLocal (fun v207 => (fh_pp_push hs (fun s210 t210 z210 p6_ => (k _ _ _ _ p6_)))))), (fun _ => ⟨(fun _ => (fun _ => (fh_pp_rowOf (fun v235 => (fun _ => (fh_pp_push hs (fun s240 t240 z240 p7_ => (k _ _ _ _ p7_)))))))), (fun _ => ⟨(fun _ => trivial), (fun _ => ⟨(fun _ => trivial), (fun _ => ⟨(fun _ => (fun _ => (fh_pp_setLocal hs (fun s260 t260 z260 p8_ => (k _ _ _ _ p8_))))), (fun _ => ⟨(fun _ => (fh_pp_clear hs (fun s269 t269 z269 p9_ => (k _ _ _ _ p9_)))), (fun _ => ⟨(fun _ => (fun _ => (fh_pp_push hs (fun s288 t288 z288 p10_ => (k _ _ _ _ p10_))))), (fun _ => ⟨(fun _ => (k _ _ _ _ (fh_z hs (by decide)))), (fun _ => ⟨(fun _ => trivial), (fun _ => ⟨(fun _ => (fh_pp_pop hs (fun v311 s311 t311 z311 p11_ => (fh_pp_push p11_ (fun s315 t315 z315 p12_ => (k _ _ _ _ p12_)))))), (fun _ => ⟨(fun _ => (fh_pp_pop hs (fun v324 s324 t324 z324 p13_ => (fh_pp_push p13_ (fun s329 t329 z329 p14_ => (k _ _ _ _ p14_)))))), (fun _ => ⟨(fun _ => (fh_pp_pop hs (fun v338 s338 t338 z338 p15_ => ⟨(fun x16_ => True), ⟨(fun y1_349 => fun _ => fun j17_ => (fh_pp_push p15_ (fun s349 t349 z349 p18_ => (k _ _ _ _ p18_)))), ⟨(fun _ => trivial), (fun _ => trivial)⟩⟩⟩))), (fun _ => ⟨(fun _ => (k _ _ _ _ hs)), (fun _ => ⟨(fun _ => (fh_pp_pop hs (fun v379 s379 t379 z379 p19_ => ⟨(fun _ => (k _ _ _ _ p19_)), (fun _ => (k _ _ _ _ p19_))⟩))), (fun _ => ⟨(fun _ => (fh_pp_pop hs (fun v394 s394 t394 z394 p20_ => ⟨(fun _ => (k _ _ _ _ p20_)), (fun _ => (k _ _ _ _ p20_))⟩))), (fun _ => ⟨(fun _ => ⟨(fun _ => (k _ _ _ _ (fh_z hs (by decide)))), (fun _ => (fh_pp_trapped hs (fun s422 t422 z422 p21_ => (k _ _ _ _ p21_))))⟩), (fun _ => ⟨(fun _ => trivial), (fun _ => ⟨(fun _ => trivial), (fun _ => ⟨(fun _ => trivial), (fun _ => ⟨(fun _ => trivial), (fun _ => ⟨(fun _ => trivial), (fun _ => ⟨(fun _ => (fh_pp_pop hs (fun v358 s358 t358 z358 p22_ => ⟨(fun x23_ => True), ⟨(fun y1_369 => fun _ => fun j24_ => (fh_pp_push p22_ (fun s369 t369 z369 p25_ => (k _ _ _ _ p25_)))), ⟨(fun _ => trivial), (fun _ => trivial)⟩⟩⟩))), (fun _ => trivial)⟩)⟩)⟩)⟩)⟩)⟩)⟩)⟩)⟩)⟩)⟩)⟩)⟩)⟩)⟩)⟩)⟩)⟩)⟩)⟩)⟩)⟩)⟩)⟩)⟩⟩⟩))
theorem fh_pp_run {w : St} {a1 : Int32} {σ : St} {τ : St} {vs : List Nat} {Q : Int32 → St → St → List Nat → Prop} (hs : FHs w σ) (k : ∀ (v0 : Int32) (v1 : St) (v2 : St) (v3 : List Nat), FHs w v1 → Q v0 v1 v2 v3) : pp_run a1 σ τ vs Q := by
  unfold pp_run
  exact ⟨(fun _ => ⟨(fun _ => (k _ _ _ _ hs)), (fun _ => ⟨(fun _ => ⟨(fun x1_ x2_ x3_ x4_ => FHs w x2_), ⟨hs, (fun x2_25 s25 t25 z25 => fun j5_ => ⟨(fun _ => (fh_pp_enter (fh_z (fh_z (fh_z (fh_z (fh_z (fh_z (fh_z (fh_z (fh_z (fh_z (fh_z j5_ (by decide)) (by decide)) (by decide)) (by decide)) (by decide)) (by decide)) (by decide)) (by decide)) (by decide)) (by decide)) (by decide)) (fun s125 t125 z125 p6_ => ⟨(fun x7_ => True), ⟨(fun y0_148 => fun j8_ => ⟨(fun x9_ x10_ x11_ x12_ => FHs w x10_), ⟨p6_, (fun x2_149 s149 t149 z149 => fun j13_ => ⟨(fun _ => (k _ _ _ _ (fh_z j13_ (by decide)))), (fun _ => (fh_pp_step j13_ (fun v158 s158 t158 z158 p14_ => p14_)))⟩)⟩⟩), ⟨(fun _ => trivial), (fun _ => (fun _ => trivial))⟩⟩⟩))), (fun _ => ⟨(fun x15_ => True), ⟨(fun y2_55 => fun j16_ => fun _ => (fh_c j5_ (by decide) (by decide))), ⟨(fun _ => trivial), (fun _ => (fun _ => trivial))⟩⟩⟩)⟩)⟩⟩), (fun _ => (k _ _ _ _ hs))⟩)⟩), (fun _ => (k _ _ _ _ hs))⟩
theorem fh_pp_input {w : St} {a1 : Int32} {σ : St} {τ : St} {vs : List Nat} {Q : Int32 → St → St → List Nat → Prop} (hs : FHs w σ) (k : ∀ (v0 : Int32) (v1 : St) (v2 : St) (v3 : List Nat), FHs w v1 → Q v0 v1 v2 v3) : pp_input a1 σ τ vs Q := by
  unfold pp_input
  exact ⟨(fun _ => (fun _ => (k _ _ _ _ (fh_z (fh_c hs (by decide) (by decide)) (by decide))))), (fun _ => (k _ _ _ _ hs))⟩
theorem fh_pp_isTray {a1 : Int32} {a2 : Int32} {σ : St} {τ : St} {vs : List Nat} {Q : Int32 → Prop} (k : ∀ (v0 : Int32), Q v0) : pp_isTray a1 a2 σ τ vs Q := by
  unfold pp_isTray
  exact (fun _ => ⟨(fun _ => ⟨(fun x1_ => True), ⟨trivial, (fun x3_14 => fun j2_ => ⟨(fun _ => (k _)), (fun _ => (fun _ => (fun _ => (fun _ => ⟨(fun _ => trivial), (fun _ => (k _))⟩))))⟩)⟩⟩), (fun _ => (k _))⟩)
theorem fh_pp_cell {w : St} {σ : St} {τ : St} {vs : List Nat} {Q : Int32 → St → St → List Nat → Prop} (hs : FHs w σ) (k : ∀ (v0 : Int32) (v1 : St) (v2 : St) (v3 : List Nat), FHs w v1 → Q v0 v1 v2 v3) : pp_cell σ τ vs Q := by
  unfold pp_cell
  exact ⟨(fun _ => ⟨(fun x1_ => True), ⟨trivial, (fun x2_21 => fun j2_ => ⟨(fun _ => ⟨(fun x3_ x4_ => True), ⟨trivial, (fun x2_120 x3_120 => fun j5_ => ⟨(fun _ => (k _ _ _ _ (fh_z hs (by decide)))), (fun _ => ⟨(fun x6_ => True), ⟨trivial, (fun x4_128 => fun j7_ => fun _ => ⟨(fun _ => ⟨(fun x8_ => True), ⟨(fun y0_160 => fun _ => fun j9_ => ⟨(fun x10_ x11_ => True), ⟨trivial, (fun x5_165 x6_165 => fun _ => fun j12_ => ⟨True, ⟨(fun j13_ => ⟨(fun _ => trivial), (fun _ => (k _ _ _ _ (fh_z hs (by decide))))⟩), ⟨(fun _ => trivial), (fun _ => ⟨(fun _ => trivial), (fun _ => (fun _ => (fun _ => ⟨(fun x14_ => True), ⟨(fun y0_201 => fun _ => fun j15_ => trivial), ⟨(fun _ => trivial), (fun _ => trivial)⟩⟩⟩)))⟩)⟩⟩⟩)⟩⟩), ⟨(fun _ => trivial), (fun _ => trivial)⟩⟩⟩), (fun _ => trivial)⟩)⟩⟩)⟩)⟩⟩), (fun _ => (fun _ => (fun _ => ⟨(fun x16_ => True), ⟨trivial, (fun x3_43 => fun j17_ => fun _ => fun _ => ⟨(fun _ => trivial), (fun _ => (fh_pp_isSymbol (fun v61 => ⟨True, ⟨(fun j18_ => trivial), ⟨(fun _ => trivial), (fun _ => (fh_pp_isTray (fun v70 => ⟨(fun _ => trivial), (fun _ => (fun _ => ⟨(fun _ => (k _ _ _ _ (fh_z hs (by decide)))), (fun _ => (fun _ => (fun _ => (k _ _ _ _ (fh_z hs (by decide))))))⟩))⟩)))⟩⟩⟩)))⟩)⟩⟩)))⟩)⟩⟩), (fun _ => (k _ _ _ _ (fh_z hs (by decide))))⟩
end

section
/-! pick(), both sides: what is picked -/
def PKr (w σ : St) : Prop := (w 10 5).toInt = (σ 0 67).toInt + 1 ∧ ∀ j : Nat, (j : Int) < (σ 0 67).toInt → (w 56 (j + 1)).toInt = (σ 40 j).toInt
def PCw (w : St) (a v : Int32) (t : St) : Prop := ((¬ (1 ≤ a.toInt ∧ a.toInt ≤ (w 5 13).toInt) ∨ ∃ j : Nat, 1 ≤ j ∧ (j : Int) < (w 10 5).toInt ∧ (w 56 j).toInt = a.toInt) ∧ v.toInt = -1 ∧ t 10 5 = w 10 5 ∧ t 56 = w 56) ∨ (((1 ≤ a.toInt ∧ a.toInt ≤ (w 5 13).toInt) ∧ ¬ ∃ j : Nat, 1 ≤ j ∧ (j : Int) < (w 10 5).toInt ∧ (w 56 j).toInt = a.toInt) ∧ v.toInt = (w 10 5).toInt ∧ (t 10 5).toInt = (w 10 5).toInt + 1 ∧ ((w 10 5).toInt < 101 → ∀ j : Nat, t 56 j = if (j : Int) = (w 10 5).toInt then a else w 56 j))
def PCm (σ : St) (a v : Int32) (s : St) : Prop := ((¬ (1 ≤ a.toInt ∧ a.toInt ≤ (σ 0 35).toInt) ∨ ∃ j : Nat, (j : Int) < (σ 0 67).toInt ∧ (σ 40 j).toInt = a.toInt) ∧ v.toInt = -1 ∧ s 0 67 = σ 0 67 ∧ s 40 = σ 40) ∨ (((1 ≤ a.toInt ∧ a.toInt ≤ (σ 0 35).toInt) ∧ ¬ ∃ j : Nat, (j : Int) < (σ 0 67).toInt ∧ (σ 40 j).toInt = a.toInt) ∧ v.toInt = (σ 0 67).toInt + 1 ∧ (s 0 67).toInt = (σ 0 67).toInt + 1 ∧ ∀ j : Nat, s 40 j = if (j : Int) = (σ 0 67).toInt then a else σ 40 j)
section PIK
variable {w σ s t τ : St} {vs z : List Nat} {a x v v2 : Int32} {o o' i : Nat}
theorem px_pick {Q : Int32 → St → Prop} (h : IVx w o) (k : ∀ v t, PCw w a v t → Q v t) : pk_X12_pick a w Q := by
  have pk := h.2.2.2.2.2.2.2.2.2.2.1
  obtain ⟨⟨h1, h1'⟩, -⟩ := h
  obtain ⟨⟨p1, p1'⟩, -⟩ := pk
  unfold pk_X12_pick pk_X8_has
  have bad : ¬ (1 ≤ a.toInt ∧ a.toInt ≤ (w 5 13).toInt) → Q (-1) w := fun hn => k _ _ (Or.inl ⟨Or.inl hn, by decide, rfl, rfl⟩)
  refine ⟨fun c => ⟨fun _ => bad (by omega), fun hx => absurd rfl hx⟩, fun c1 => ⟨fun c2 => ⟨fun _ => bad (by omega), fun hx => absurd rfl hx⟩, fun c2 => ⟨fun hx => absurd hx (by decide), fun _ => ?_⟩⟩⟩
  unfold pk_X4_choose
  refine ⟨fun x => ∃ i : Nat, x.toInt = (i : Int) ∧ 1 ≤ i ∧ (i : Int) ≤ (w 10 5).toInt ∧ ∀ j : Nat, 1 ≤ j → j < i → (w 56 j).toInt ≠ a.toInt, ⟨1, by decide, Nat.le_refl 1, p1, fun j h1 h2 => by omega⟩, ?_⟩
  rintro x ⟨i, hx, hi, hi2, hn⟩
  refine ⟨fun c => ?_, fun c => ⟨fun ne => ?_, fun eq => ?_⟩⟩
  · have e1 : ((w 10 5) + (1 : Int32)).toInt = (w 10 5).toInt + 1 := ad1 (by omega)
    refine k _ _ (Or.inr ⟨⟨⟨c1, c2⟩, fun ⟨j, j1, j2, j3⟩ => hn j j1 (by omega) j3⟩, ?_, ?_, fun hb j => ?_⟩)
    · rw [sb (by rw [e1, i1]; omega) (by rw [e1, i1]; omega), e1, i1]; omega
    · rw [rdA_eq rfl, e1]
    · have hP : (w 10 5).toInt = (((w 10 5).toInt.toNat : Nat) : Int) := by omega
      rw [rdC_ne (by decide), rdF_eq, setv_at hP (by omega)]
      show (if j = (w 10 5).toInt.toNat then a else w 56 j) = _
      by_cases cj : j = (w 10 5).toInt.toNat
      · rw [if_pos cj, if_pos (by omega)]
      · rw [if_neg cj, if_neg (by omega)]
  · have af : atv 101 (w 56) x = w 56 i := atv_at hx (by omega)
    rw [af] at ne
    refine ⟨i + 1, by rw [ad1 (by omega), hx]; rfl, by omega, by omega, fun j j1 j2 => ?_⟩
    by_cases cj : j = i
    · rw [cj]; exact ne
    · exact hn j j1 (by omega)
  · have af : atv 101 (w 56) x = w 56 i := atv_at hx (by omega)
    rw [af] at eq
    exact k _ _ (Or.inl ⟨Or.inr ⟨i, hi, by omega, eq⟩, by decide, rfl, rfl⟩)
theorem rx_pick {Q : Int32 → St → St → List Nat → Prop} (hp : 0 ≤ (σ 0 67).toInt) (k : ∀ v s t z, PCm σ a v s → Q v s t z) : pp_pick a σ τ vs Q := by
  have bad : ¬ (1 ≤ a.toInt ∧ a.toInt ≤ (σ 0 35).toInt) → Q (-1) σ τ vs := fun hn => k _ _ _ _ (Or.inl ⟨Or.inl hn, by decide, rfl, rfl⟩)
  unfold pp_pick pp_isObject
  refine ⟨fun c => ⟨fun hx => absurd rfl hx, fun _ => bad (by omega)⟩, fun c1 => ⟨fun c2 => ⟨fun hx => absurd rfl hx, fun _ => bad (by omega)⟩, fun c2 => ⟨fun _ => ?_, fun hx => absurd hx (by decide)⟩⟩⟩
  refine ⟨fun x => ∃ i : Nat, x.toInt = (i : Int) ∧ (i : Int) ≤ (σ 0 67).toInt ∧ ∀ j : Nat, j < i → (σ 40 j).toInt ≠ a.toInt, ⟨0, by decide, hp, fun j h1 => absurd h1 (Nat.not_lt_zero j)⟩, ?_⟩
  rintro x ⟨i, hx, hi2, hn⟩
  refine ⟨fun c hr => ?_, fun c hr => ?_⟩
  · have e1 : ((σ 0 67) + (1 : Int32)).toInt = (σ 0 67).toInt + 1 := ad1 (by omega)
    have nP : (σ 0 67).toNatClampNeg = (σ 0 67).toInt.toNat := rfl
    refine k _ _ _ _ (Or.inr ⟨⟨⟨c1, c2⟩, fun ⟨j, j2, j3⟩ => hn j (by omega) j3⟩, e1, by rw [rdA_eq rfl, e1], fun j => ?_⟩)
    rw [rdC_ne (by decide), rdC_eq]
    show (if j = (σ 0 67).toNatClampNeg then a else σ 40 j) = _
    rw [nP]
    by_cases cj : j = (σ 0 67).toInt.toNat
    · rw [if_pos cj, if_pos (by omega)]
    · rw [if_neg cj, if_neg (by omega)]
  · have en : x.toNatClampNeg = i := nat_of hx
    rw [en]
    refine ⟨fun ne => ⟨i + 1, by rw [ad1 (by omega), hx]; rfl, by omega, fun j j2 => ?_⟩, fun eq => k _ _ _ _ (Or.inl ⟨Or.inr ⟨i, by omega, eq⟩, by decide, rfl, rfl⟩)⟩
    by_cases cj : j = i
    · rw [cj]; exact ne
    · exact hn j (by omega)
theorem pc_eq (hp : 0 ≤ (σ 0 67).toInt) (r : RLp w σ) (p : PKr w σ) (ht : IVx t o') (c : PCw w a v t) (m : PCm σ a v2 s) : v = v2 ∧ PKr t s := by
  have pk := ht.2.2.2.2.2.2.2.2.2.2.1
  obtain ⟨⟨_, t1⟩, -⟩ := ht
  obtain ⟨⟨_, p1'⟩, -⟩ := pk
  obtain ⟨k1, k2⟩ := p
  have e35 := r.1
  have ex : (∃ j : Nat, 1 ≤ j ∧ (j : Int) < (w 10 5).toInt ∧ (w 56 j).toInt = a.toInt) ↔ ∃ j : Nat, (j : Int) < (σ 0 67).toInt ∧ (σ 40 j).toInt = a.toInt := by
    constructor
    · rintro ⟨j, j1, j2, j3⟩
      refine ⟨j - 1, by omega, ?_⟩
      rw [← k2 (j - 1) (by omega), show j - 1 + 1 = j from by omega]
      exact j3
    · rintro ⟨j, j2, j3⟩
      exact ⟨j + 1, by omega, by omega, by rw [k2 j j2]; exact j3⟩
  have mm := m
  clear m
  unfold PCm at mm
  rw [← e35, ← ex] at mm
  rcases c with ⟨cb, cv, c1, c2⟩ | ⟨cg, cv, c1, c2⟩
  · rcases mm with ⟨_, mv, m1, m2⟩ | ⟨mg, _⟩
    · exact ⟨ieq (by rw [cv, mv]), by rw [c1, m1]; exact k1, fun j hj => by rw [m1] at hj; rw [c2, m2]; exact k2 j hj⟩
    · exact absurd cb (fun h => h.elim (fun h => h mg.1) (fun h => mg.2 h))
  · rcases mm with ⟨mb, _⟩ | ⟨_, mv, m1, m2⟩
    · exact absurd mb (fun h => h.elim (fun h => h cg.1) (fun h => cg.2 h))
    · have hb : (w 10 5).toInt < 101 := by omega
      refine ⟨ieq (by rw [cv, mv, k1]), by rw [c1, m1, k1], fun j hj => ?_⟩
      rw [m1] at hj
      rw [c2 hb, m2]
      by_cases cj : (j : Int) = (σ 0 67).toInt
      · rw [if_pos cj, if_pos (by omega)]
      · rw [if_neg cj, if_neg (by omega)]
        exact k2 j (by omega)
theorem pk_kept (p : PKr w σ) (c10 : t 10 5 = w 10 5) (c56 : t 56 = w 56) (m67 : s 0 67 = σ 0 67) (m40 : s 40 = σ 40) : PKr t s := ⟨by rw [c10, m67]; exact p.1, fun j hj => by rw [m67] at hj; rw [c56, m40]; exact p.2 j hj⟩
theorem pk_none (c10 : (t 10 5).toInt = 1) (m67 : (s 0 67).toInt = 0) : PKr t s := ⟨by rw [c10, m67]; rfl, fun j hj => by rw [m67] at hj; omega⟩
theorem px_link {Q : Int32 → St → Prop} (k : ∀ v t, (t 10 5).toInt = 1 → Q v t) : pk_X12_link w Q := by
  unfold pk_X12_link pk_X4_join
  refine fq_pk_X4_find_r56_r55 (fun v25 => ?_)
  refine ⟨fun _ _ _ => True, trivial, fun x2 x3 s34 _ => ⟨True, fun _ => ?_, fun _ => trivial, fun _ => ⟨fun _ => trivial, fun _ => fq_pk_X4_look (w := s34) fq_rf (fun _ _ _ => trivial)⟩⟩⟩
  refine ⟨fun _ => True, fun x2 _ => ?_, fun _ => trivial, fun _ => fq_pk_X4_isMain (fun _ => ⟨fun _ => trivial, fun _ => trivial⟩)⟩
  exact ⟨fun _ => True, fun x2 _ => ⟨fun _ => k _ _ (by rw [rdA_eq rfl]; rfl), fun _ => fq_pk_X4_settle (w := s34) fq_rf (fun s _ => k _ _ (by rw [rdA_eq rfl]; rfl))⟩, fun _ => trivial, fun _ => fq_pk_X4_dataCells (fun _ => ⟨fun _ => trivial, fun _ => trivial⟩)⟩
theorem rx_link {Q : Int32 → St → St → List Nat → Prop} (k : ∀ v s t z, (s 0 67).toInt = 0 → Q v s t z) : pp_link σ τ vs Q := by
  unfold pp_link
  have hz : ∀ s s' : St, (s 0 67).toInt = 0 → FHs s s' → (s' 0 67).toInt = 0 := fun s s' hs h => by rw [h.1]; exact hs
  have hi : ((upC (upC (upC σ 0 67 (0 : Int32)) 0 71 ((-1) : Int32)) 0 72 ((-1) : Int32)) 0 67).toInt = 0 := by rw [rdA_ne (by decide), rdA_ne (by decide), rdA_eq rfl]; rfl
  refine ⟨fun _ s _ _ => (s 0 67).toInt = 0, hi, fun x2 s t z hs => ⟨fun _ => ?_, fun _ => fh_pp_isFault (w := s) fh_rf (fun v s' t' z' h => ⟨fun _ => hz s s' hs h, fun _ => k _ _ _ _ (hz s s' hs h)⟩)⟩⟩
  refine fh_pp_mainOf (fun v49 => ⟨fun _ => ?_, fun _ => k _ _ _ _ hs⟩)
  exact ⟨fun _ _ => True, trivial, fun x3 x4 _ => ⟨fun _ => ⟨fun _ => fh_pp_layAll (w := s) (fh_z fh_rf (by decide)) (fun s' t' z' h => k _ _ _ _ (hz s s' hs h)), fun _ => k _ _ _ _ hs⟩, fun _ _ _ => trivial⟩⟩
theorem pk_0 : PKr sc0 sm0 := ⟨by decide, fun j hj => by
  have e : (sm0 0 67).toInt = 0 := by decide
  rw [e] at hj
  omega⟩
end PIK
end

section
/-! compile() and what is picked; all calls, both sides -/
section PLC
variable {w σ s s' t τ : St} {vs z : List Nat} {a a1 a2 a3 a4 a5 v : Int32} {o : Nat}
theorem pl_c10 {Q : Int32 → St → Prop} (h : IVx w o) (k : ∀ v t, t 10 = w 10 → t 56 = w 56 → Q v t) : pk_X12_compile a w Q := by
  obtain ⟨⟨h1, h1'⟩, h2, h3, h4, ⟨f1, f2, f3⟩, h6, ⟨g1, g2, g3, g4⟩, h8, h9, ha, hb, hc, hi⟩ := h
  have d0 := de_le h2
  unfold pk_X12_compile
  generalize hσ1 : upC (upC w 0 1 (0 : Int32)) 0 3 ((-1) : Int32) = w1
  have r1' : ∀ c, c ≠ 0 → w1 c = w c := fun c hc0 => by rw [← hσ1, rdC_ne hc0, rdC_ne hc0]
  have q01 : (w1 0 1).toInt = 0 := by rw [← hσ1]; rfl
  have q02 : w1 0 2 = w 0 2 := by rw [← hσ1]; rfl
  clear hσ1
  have early : ∀ v, Q v w1 := fun v => k v w1 (r1' 10 (by decide)) (r1' 56 (by decide))
  refine ⟨fun _ => early _, fun _ => ⟨fun _ => early _, fun _ => ⟨fun c100 => ?_, fun _ => early _⟩⟩⟩
  refine wl_wk_X10_scan (fun s4 p1 => ?_) (sp_scan (Q := fun s4 => Kp [(2, 1), (2, 2), (2, 3), (2, 4)] [13, 14, 15, 16] w1 s4 ∧ (s4 2 1).toInt = (w 0 1).toInt ∧ TEn s4) ⟨f1.1, f1.2.1⟩ (by unfold PLA; rw [r1' 15 (by decide)]; exact g1) (by unfold NMr; rw [r1' 13 (by decide), r1' 14 (by decide), r1' 15 (by decide)]; exact g2) (fun s4 k4 z4 te => ⟨k4, z4, te⟩))
  obtain ⟨k4, z4, te⟩ := p1
  obtain ⟨tk, pl4, nm4⟩ := te
  have kc : ∀ s5, KG s4 s5 → ∀ c j, c ≠ 2 → c ≠ 3 → ¬ (13 ≤ c ∧ c ≤ 23) → s5 c j = w1 c j := fun s5 k5 c j c2 c3 c4 => by
    have e1 : s5 c j = s4 c j := k5 c j (by
      simp only [List.contains_cons, List.contains_nil, Bool.or_false, Bool.or_eq_false_iff, beq_eq_false_iff_ne, ne_eq, Prod.mk.injEq, not_and]
      omega) (by
      simp only [List.contains_cons, List.contains_nil, Bool.or_false, Bool.or_eq_false_iff, beq_eq_false_iff_ne, ne_eq]
      omega)
    have e2 : s4 c j = w1 c j := k4 c j (by
      simp only [List.contains_cons, List.contains_nil, Bool.or_false, Bool.or_eq_false_iff, beq_eq_false_iff_ne, ne_eq, Prod.mk.injEq, not_and]
      omega) (by
      simp only [List.contains_cons, List.contains_nil, Bool.or_false, Bool.or_eq_false_iff, beq_eq_false_iff_ne, ne_eq]
      omega)
    exact e1.trans e2
  have t13 : ∀ s5, KG s4 s5 → s5 13 = s4 13 ∧ s5 14 = s4 14 ∧ s5 15 = s4 15 := fun s5 k5 => ⟨funext (fun j => k5 13 j rfl rfl), funext (fun j => k5 14 j rfl rfl), funext (fun j => k5 15 j rfl rfl)⟩
  refine wl_wk_X3_read (fun v s5 p1 => ?_) (sp_gread (Q := fun v s => KG s4 s ∧ (v = 0 ∨ (v = 1 ∧ RDk s))) tk (fun s k5 => ⟨k5, Or.inl rfl⟩) (fun s k5 rd => ⟨k5, Or.inr ⟨rfl, rd⟩⟩))
  obtain ⟨k5, prd⟩ := p1
  have w5 := kc s5 k5
  have row : ∀ c, c ≠ 2 → c ≠ 3 → ¬ (13 ≤ c ∧ c ≤ 23) → s5 c = w1 c := fun c c2 c3 c4 => funext (fun j => w5 c j c2 c3 c4)
  have v5 : s5 5 = w 5 := (row 5 (by decide) (by decide) (by omega)).trans (r1' 5 (by decide))
  have v4 : s5 4 = w 4 := (row 4 (by decide) (by decide) (by omega)).trans (r1' 4 (by decide))
  have v0 : s5 0 = w1 0 := row 0 (by decide) (by decide) (by omega)
  have v1' : s5 1 = w 1 := (row 1 (by decide) (by decide) (by omega)).trans (r1' 1 (by decide))
  have v25 : s5 25 = w 25 := (row 25 (by decide) (by decide) (by omega)).trans (r1' 25 (by decide))
  have v27 : s5 27 = w 27 := (row 27 (by decide) (by decide) (by omega)).trans (r1' 27 (by decide))
  have v29 : s5 29 = w 29 := (row 29 (by decide) (by decide) (by omega)).trans (r1' 29 (by decide))
  have v10 : s5 10 = w 10 := (row 10 (by decide) (by decide) (by omega)).trans (r1' 10 (by decide))
  have v56 : s5 56 = w 56 := (row 56 (by decide) (by decide) (by omega)).trans (r1' 56 (by decide))
  have v34 : s5 34 = w 34 := (row 34 (by decide) (by decide) (by omega)).trans (r1' 34 (by decide))
  refine ⟨fun cv => ?_, fun cv => k _ _ (by rw [rdC_ne (by decide), v10]) (by rw [rdC_ne (by decide), v56])⟩
  have rd : RDk s5 := by
    rcases prd with hv | ⟨_, rd⟩
    · rw [hv] at cv; exact absurd rfl cv
    · exact rd
  obtain ⟨x13, x14, x15⟩ := t13 s5 k5
  have a_pl : PLA s5 := by unfold PLA; rw [x15]; exact pl4
  have a_nm : NMr s5 := by unfold NMr; rw [x13, x14, x15]; exact nm4
  have sz : (s5 2 1).toInt = (w 0 1).toInt := by rw [show s5 2 1 = s4 2 1 from k5 2 1 rfl rfl]; exact z4
  have dd := d0 o (Nat.le_refl _)
  have a_sz : (s5 2 1).toInt ≤ 16000 := by rw [sz]; exact f1.2.1
  have a_by : ByteOK (s5 1) := by rw [v1']; exact g3
  have a_hd : 0 ≤ (s5 5 1).toInt ∧ (s5 5 1).toInt ≤ 10000 := by rw [v5]; omega
  have a_l0 : 0 ≤ (s5 4 1).toInt := by rw [v4]; exact f2.1
  have a_lb : (s5 4 1).toInt + 4 * (s5 2 1).toInt ≤ 262144 := by rw [v4, sz]; omega
  have a_hn : 0 ≤ (s5 5 7).toInt ∧ (s5 5 7).toInt + (s5 2 1).toInt ≤ 65600 := by rw [v5, sz]; omega
  have a_nme : NME s5 := by unfold NME; rw [v5, v29]; exact h6
  have a_fx : ∀ j, FLb ((s5 25) j) 1 → spar ((s5 27) j) ≤ 8 := by rw [v25, v27]; exact g4
  refine wl_wk_X7_walk (fun s p1 => ?_) (sp_walk (Q := fun s => ∃ ρ, Kp [(6, 2), (6, 3), (6, 4), (6, 5), (6, 7), (6, 6), (6, 10), (6, 15), (6, 17), (8, 6), (8, 8), (7, 7), (9, 5)] [] s5 ρ ∧ WDx ρ s) rd a_sz a_nm a_pl a_by a_hd a_l0 a_lb a_hn a_nme a_fx (fun ρ s kρ o0 wd hz => ⟨ρ, kρ, wd⟩))
  obtain ⟨ρ, kρ, wd⟩ := p1
  have kw := wd.1.1
  have s10 : s 10 = w 10 := funext (fun j => by rw [kw 10 j (op_lt (by decide)) rfl rfl, kρ 10 j rfl rfl, v10])
  have s56 : s 56 = w 56 := funext (fun j => by rw [kw 56 j (op_mid (by decide) (by decide)) rfl rfl, kρ 56 j rfl rfl, v56])
  refine ⟨fun f0 => ?_, fun f0 => ?_⟩
  · unfold pk_X8_keep
    generalize ht : upF _ 37 _ = t
    have trow : ∀ c, c ≠ 5 → c ≠ 34 → c ≠ 35 → c ≠ 36 → c ≠ 37 → t c = s c := fun c c5 c34 c35 c36 c37 => by rw [← ht, rdF_ne c37, rdF_ne c36, rdF_ne c35, rdF_ne c34, rdC_ne c5]
    clear ht
    exact k _ t ((trow 10 (by decide) (by decide) (by decide) (by decide) (by decide)).trans s10) ((trow 56 (by decide) (by decide) (by decide) (by decide) (by decide)).trans s56)
  · unfold pk_X8_forget pk_X8_nameStart pk_X0_cut
    dsimp only
    refine k _ _ ?_ ?_
    · rw [rdC_ne (by decide), rdC_ne (by decide), rdC_ne (by decide), rdC_ne (by decide), rdC_ne (by decide)]; exact s10
    · rw [rdC_ne (by decide), rdC_ne (by decide), rdC_ne (by decide), rdC_ne (by decide), rdC_ne (by decide)]; exact s56
/-- alike between calls: all that p6, p7, p10 want -/
def RLa (w σ : St) : Prop := RLp w σ ∧ RLe w σ ∧ PKr w σ
theorem rla_0 : RLa sc0 sm0 := ⟨rl_0, rle_0, pk_0⟩
theorem cmp_pk (h : CMPx a σ s) : s 0 67 = σ 0 67 ∧ s 40 = σ 40 := by
  rcases h with ⟨_, es⟩ | ⟨_, lo, σ0, s1, v1, _, _, _, _, _, kx, _, hfin⟩
  · rw [es]
    exact ⟨rfl, by rw [rdC_ne (by decide), rdC_ne (by decide), rdC_ne (by decide)]⟩
  · have f67 : s1 0 67 = σ 0 67 := kx 0 67 rfl rfl
    have f40 : s1 40 = σ 40 := funext (fun j => kx 40 j rfl rfl)
    rcases hfin with ⟨_, es⟩ | ⟨_, es⟩
    · rw [es]
      exact ⟨f67, by rw [rdC_ne (by decide), rdC_ne (by decide), rdC_ne (by decide), rdC_ne (by decide)]; exact f40⟩
    · rw [es]
      exact ⟨f67, by rw [rdC_ne (by decide), rdC_ne (by decide), rdC_ne (by decide), rdC_ne (by decide), rdC_ne (by decide)]; exact f40⟩
theorem rla_feed (h : RLa w σ) (c : FDt a1 a2 a3 a4 a5 w t) (m : FDt a1 a2 a3 a4 a5 σ s) : RLa t s := ⟨rl_feed h.1 c m, rle_feed h.2.1 c m, pk_kept h.2.2 (by rw [(fd_cells c).1 10 (by decide)]) ((fd_cells c).1 56 (by decide)) ((fd_cells m).2 67 (by decide)) ((fd_cells m).1 40 (by decide))⟩
theorem rla_end (h : RLa w σ) (c : ENt a w t) (m : ENt a σ s) : RLa t s := ⟨rl_end h.1 c m, rle_end h.2.1 c m, pk_kept h.2.2 (by rw [(en_cells c).1 10 (by decide)]) ((en_cells c).1 56 (by decide)) ((en_cells m).2 67 (by decide)) ((en_cells m).1 40 (by decide))⟩
theorem rla_frame (h : RLa w σ) (c : FQs w t) (c2 : FWs w t) (m : FMs σ s) (g : FGs σ s) (f : FHs σ s) : RLa t s := ⟨rl_frame h.1 c m, rle_frame h.2.1 c m g, pk_kept h.2.2 (by rw [c2 10 (by unfold FWw; decide)]) (c2 56 (by unfold FWw; decide)) f.1 f.2⟩
theorem rla_link (h : RLa w σ) (c : FQs w t) (c2 : (t 10 5).toInt = 1) (m : FMs σ s) (g : FGs σ s) (f : (s 0 67).toInt = 0) : RLa t s := ⟨rl_frame h.1 c m, rle_frame h.2.1 c m g, pk_none c2 f⟩
theorem rla_cell (h : RLa w σ) (c : t = upC w 0 1 (0 : Int32)) (h1 : (s 0 1).toInt = 0) (h2 : s 0 2 = σ 0 2) (m : FCs σ s) (g : FGs σ s) (f : FHs σ s) : RLa t s := ⟨rl_cell h.1 c h1 h2 m, rle_cell h.2.1 c m g, pk_kept h.2.2 (by rw [c, rdC_ne (by decide)]) (by rw [c, rdC_ne (by decide)]) f.1 f.2⟩
end PLC
end

section
/-! all calls: the rows that the laws of p7 and p10 take -/
section RWA
variable {w σ s t τ : St} {vs z : List Nat} {a b v v2 : Int32} {o o' : Nat}
theorem rla_pick (hG : GLI σ τ vs) (h : RLa w σ) (ht : ∃ o, IVx t o) (c : FQs w t) (p : PCw w a v t) (m : FMs σ s) (g : FGs σ s) (q : PCm σ a v2 s) : v2 = v ∧ RLa t s := by
  obtain ⟨o', ht⟩ := ht
  obtain ⟨e, k⟩ := pc_eq hG.2.2.2.2.1.1.1 h.1 h.2.2 ht p q
  exact ⟨e.symm, rl_frame h.1 c m, rle_frame h.2.1 c m g, k⟩
theorem ca_pick (h : IVx w o) : wk_X12_pick a w (fun v t => (∃ o, IVx t o) ∧ FQs w t ∧ PCw w a v t) := mg_wk_X12_pick (fun _ _ p q => ⟨p.1, p.2, q⟩) (cq_pick h) (px_pick (Q := fun v t => PCw w a v t) h (fun _ _ q => q))
theorem ca_link (h : IVx w o) : wk_X12_link w (fun _ t => (∃ o, IVx t o) ∧ FQs w t ∧ (t 10 5).toInt = 1) := mg_wk_X12_link (fun _ _ p q => ⟨p.1, p.2, q⟩) (cq_link h) (px_link (Q := fun _ t => (t 10 5).toInt = 1) (fun _ _ q => q))
theorem ca_run (h : IVx w o) : wk_X12_run a w (fun _ t => (∃ o, IVx t o) ∧ FQs w t ∧ FWs w t) := mg_wk_X12_run (fun _ _ p q => ⟨p.1, p.2, q⟩) (cq_run h) (fw_pk_X12_run (Q := fun _ t => FWs w t) fw_rf (fun _ _ q => q))
theorem ca_input (h : IVx w o) : wk_X12_input a w (fun _ t => (∃ o, IVx t o) ∧ FQs w t ∧ FWs w t) := mg_wk_X12_input (fun _ _ p q => ⟨p.1, p.2, q⟩) (cq_input h) (fw_pk_X12_input (Q := fun _ t => FWs w t) fw_rf (fun _ _ q => q))
theorem ca_compile (h : IVx w o) (hG : GLI σ τ vs) (r : RLa w σ) : wk_X12_compile a w (fun _ t => (∃ o, IVx t o) ∧ ∀ s : St, CMPx a σ s → (s 0 1).toInt = 0 → s 0 2 = σ 0 2 → RLa t s) := mg_wk_X12_compile (fun _ t p q => ⟨p.1, fun s c h1 h2 => ⟨(p.2 s c h1 h2).1, (p.2 s c h1 h2).2, pk_kept r.2.2 (by rw [q.1]) q.2 (cmp_pk c).1 (cmp_pk c).2⟩⟩) (cy_compile h hG r.1 r.2.1) (pl_c10 (Q := fun _ t => t 10 = w 10 ∧ t 56 = w 56) h (fun _ _ a b => ⟨a, b⟩))
theorem ra_pick {Q : Int32 → St → St → List Nat → Prop} (h : GLI σ τ vs) (k : ∀ r s, GLI s τ vs → s 0 2 = σ 0 2 → FMs σ s → FGs σ s → PCm σ a r s → Q r s τ vs) : wp_pick a σ τ vs Q := mg_wp_pick (fun r s t z p q => by
  obtain ⟨et, ez, g, f, f2, f3⟩ := p
  rw [et, ez]
  exact k r s g f f2 f3 q) (wy_pick (Q := fun _ s t z => t = τ ∧ z = vs ∧ GLI s τ vs ∧ s 0 2 = σ 0 2 ∧ FMs σ s ∧ FGs σ s) h (fun _ s g h2 h3 h4 => ⟨rfl, rfl, g, h2, h3, h4⟩)) (rx_pick (Q := fun v s _ _ => PCm σ a v s) h.2.2.2.2.1.1.1 (fun _ _ _ _ q => q))
theorem ra_link {Q : Int32 → St → St → List Nat → Prop} (h : GLI σ τ vs) (hF : (σ 0 2).toInt ≤ 10240) (k : ∀ r s, GLI s τ vs → s 0 2 = σ 0 2 → FMs σ s → FGs σ s → (s 0 67).toInt = 0 → Q r s τ vs) : wp_link σ τ vs Q := mg_wp_link (fun r s t z p q => by
  obtain ⟨et, ez, g, f, f2, f3⟩ := p
  rw [et, ez]
  exact k r s g f f2 f3 q) (wy_link (Q := fun _ s t z => t = τ ∧ z = vs ∧ GLI s τ vs ∧ s 0 2 = σ 0 2 ∧ FMs σ s ∧ FGs σ s) h hF (fun _ s g h2 h3 h4 => ⟨rfl, rfl, g, h2, h3, h4⟩)) (rx_link (Q := fun _ s _ _ => (s 0 67).toInt = 0) (fun _ _ _ _ q => q))
theorem ra_run {Q : Int32 → St → St → List Nat → Prop} (h : GLI σ τ vs) (hF : (σ 0 2).toInt ≤ 10240) (k : ∀ r s, GLI s τ vs → s 0 2 = σ 0 2 → FMs σ s → FGs σ s → FHs σ s → Q r s τ vs) : wp_run a σ τ vs Q := mg_wp_run (fun r s t z p q => by
  obtain ⟨et, ez, g, f, f2, f3⟩ := p
  rw [et, ez]
  exact k r s g f f2 f3 q) (wy_run (Q := fun _ s t z => t = τ ∧ z = vs ∧ GLI s τ vs ∧ s 0 2 = σ 0 2 ∧ FMs σ s ∧ FGs σ s) h hF (fun _ s g h2 h3 h4 => ⟨rfl, rfl, g, h2, h3, h4⟩)) (fh_pp_run (Q := fun _ s _ _ => FHs σ s) fh_rf (fun _ _ _ _ q => q))
theorem ra_input {Q : Int32 → St → St → List Nat → Prop} (h : GLI σ τ vs) (k : ∀ r s, GLI s τ vs → s 0 2 = σ 0 2 → FMs σ s → FGs σ s → FHs σ s → Q r s τ vs) : wp_input a σ τ vs Q := mg_wp_input (fun r s t z p q => by
  obtain ⟨et, ez, g, f, f2, f3⟩ := p
  rw [et, ez]
  exact k r s g f f2 f3 q) (wy_input (Q := fun _ s t z => t = τ ∧ z = vs ∧ GLI s τ vs ∧ s 0 2 = σ 0 2 ∧ FMs σ s ∧ FGs σ s) h (fun _ s g h2 h3 h4 => ⟨rfl, rfl, g, h2, h3, h4⟩)) (fh_pp_input (Q := fun _ s _ _ => FHs σ s) fh_rf (fun _ _ _ _ q => q))
theorem ra_cell {Q : Int32 → St → St → List Nat → Prop} (h : GLI σ τ vs) (k : ∀ r s, GLI s τ vs → (s 0 1).toInt = 0 → s 0 2 = σ 0 2 → FCs σ s → FGs σ s → FHs σ s → Q r s τ vs) : wp_cell σ τ vs Q := mg_wp_cell (fun r s t z p q => by
  obtain ⟨et, ez, g, f, f2, f3, f4⟩ := p
  rw [et, ez]
  exact k r s g f f2 f3 f4 q) (wy_cell (Q := fun _ s t z => t = τ ∧ z = vs ∧ GLI s τ vs ∧ (s 0 1).toInt = 0 ∧ s 0 2 = σ 0 2 ∧ FCs σ s ∧ FGs σ s) h (fun _ s g h1 h2 h3 h4 => ⟨rfl, rfl, g, h1, h2, h3, h4⟩)) (fh_pp_cell (Q := fun _ s _ _ => FHs σ s) fh_rf (fun _ _ _ _ q => q))
end RWA
end

