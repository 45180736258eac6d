section
/-! frames: the image and the input -/
def FKs (w s : St) : Prop := s 0 70 = w 0 70 ∧ s 0 71 = w 0 71 ∧ s 0 72 = w 0 72
theorem fk_rf {w : St} : FKs w w := ⟨rfl, rfl, rfl⟩
theorem fk_z {w s : St} {k : Nat} {v : Int32} (h : FKs w s) (hk : k ≠ 70 ∧ k ≠ 71 ∧ k ≠ 72) : FKs w (upC s 0 k v) := ⟨by rw [rdA_ne (fun e => hk.1 e.symm)]; exact h.1, by rw [rdA_ne (fun e => hk.2.1 e.symm)]; exact h.2.1, by rw [rdA_ne (fun e => hk.2.2 e.symm)]; exact h.2.2⟩
theorem fk_c {w s : St} {c k : Nat} {v : Int32} (h : FKs w s) (hc : 0 ≠ c) : FKs w (upC s c k v) := ⟨by rw [rdC_ne hc]; exact h.1, by rw [rdC_ne hc]; exact h.2.1, by rw [rdC_ne hc]; exact h.2.2⟩
theorem fk_pp_isObject {a1 : Int32} {σ : St} {τ : St} {vs : List Nat} {Q : Int32 → Prop} (k : ∀ (v0 : Int32), Q v0) : pp_isObject a1 σ τ vs Q := by
  unfold pp_isObject
  exact ⟨(fun _ => (k _)), (fun _ => ⟨(fun _ => (k _)), (fun _ => (k _))⟩)⟩
theorem fk_pp_pick {w : St} {a1 : Int32} {σ : St} {τ : St} {vs : List Nat} {Q : Int32 → St → St → List Nat → Prop} (hs : FKs w σ) (k : ∀ (v0 : Int32) (v1 : St) (v2 : St) (v3 : List Nat), FKs w v1 → Q v0 v1 v2 v3) : pp_pick a1 σ τ vs Q := by
  unfold pp_pick
  exact (fk_pp_isObject (fun v2 => ⟨(fun _ => ⟨(fun x1_ => True), ⟨trivial, (fun x2_12 => fun j2_ => ⟨(fun _ => (fun _ => (k _ _ _ _ (fk_z (fk_c hs (by decide)) (by decide))))), (fun _ => (fun _ => ⟨(fun _ => trivial), (fun _ => (k _ _ _ _ hs))⟩))⟩)⟩⟩), (fun _ => (k _ _ _ _ hs))⟩))
theorem fk_pp_parametersOf {a1 : Int32} {σ : St} {τ : St} {vs : List Nat} {Q : Int32 → Prop} (k : ∀ (v0 : Int32), Q v0) : pp_parametersOf a1 σ τ vs Q := by
  unfold pp_parametersOf
  exact (fun _ => (k _))
theorem fk_pp_rowOf {a1 : Int32} {σ : St} {τ : St} {vs : List Nat} {Q : Int32 → Prop} (k : ∀ (v0 : Int32), Q v0) : pp_rowOf a1 σ τ vs Q := by
  unfold pp_rowOf
  exact (fun _ => (fun _ => (k _)))
theorem fk_pp_setLocal {w : St} {a1 : Int32} {a2 : Int32} {σ : St} {τ : St} {vs : List Nat} {Q : St → St → List Nat → Prop} (hs : FKs w σ) (k : ∀ (v0 : St) (v1 : St) (v2 : List Nat), FKs w v0 → Q v0 v1 v2) : pp_setLocal a1 a2 σ τ vs Q := by
  unfold pp_setLocal
  exact (fk_pp_rowOf (fun v6 => (fun _ => ⟨(fun _ => (fun _ => (k _ _ _ (fk_c hs (by decide))))), (fun _ => (fun _ => (fun _ => (k _ _ _ (fk_c hs (by decide))))))⟩)))
theorem fk_pp_ends {w : St} {a1 : Int32} {a2 : Int32} {a3 : Int32} {σ : St} {τ : St} {vs : List Nat} {Q : St → St → List Nat → Prop} (hs : FKs w σ) (k : ∀ (v0 : St) (v1 : St) (v2 : List Nat), FKs w v0 → Q v0 v1 v2) : pp_ends a1 a2 a3 σ τ vs Q := by
  unfold pp_ends
  exact (k _ _ _ (fk_z (fk_z (fk_z hs (by decide)) (by decide)) (by decide)))
theorem fk_pp_enter {w : St} {a1 : Int32} {a2 : Int32} {a3 : Int32} {a4 : Int32} {σ : St} {τ : St} {vs : List Nat} {Q : St → St → List Nat → Prop} (hs : FKs w σ) (k : ∀ (v0 : St) (v1 : St) (v2 : List Nat), FKs w v0 → Q v0 v1 v2) : pp_enter a1 a2 a3 a4 σ τ vs Q := by
  unfold pp_enter
  exact ⟨(fun _ => ⟨(fun x1_ => True), ⟨(fun y0_53 => fun j2_ => fun _ => ⟨(fun _ => (fun _ => (fun _ => (fun _ => (fk_pp_parametersOf (fun v125 => ⟨(fun x3_ x4_ x5_ x6_ => FKs w x4_), ⟨(fk_z (fk_c (fk_c (fk_c (fk_z hs (by decide)) (by decide)) (by decide)) (by decide)) (by decide)), (fun x7_133 s133 t133 z133 => fun j7_ => fun _ => ⟨(fun _ => ⟨(fun x8_ x9_ x10_ x11_ => FKs w x9_), ⟨(fk_z j7_ (by decide)), (fun x7_182 s182 t182 z182 => fun j12_ => ⟨(fun _ => (k _ _ _ j12_)), (fun _ => (fun _ => (fk_pp_setLocal j12_ (fun s204 t204 z204 p13_ => p13_))))⟩)⟩⟩), (fun _ => (fun _ => (fk_c j7_ (by decide))))⟩)⟩⟩)))))), (fun _ => (fk_pp_ends (fk_z hs (by decide)) (fun s78 t78 z78 p14_ => (k _ _ _ p14_))))⟩), ⟨(fun _ => (fun _ => trivial)), (fun _ => trivial)⟩⟩⟩), (fun _ => (fk_pp_ends hs (fun s16 t16 z16 p15_ => (k _ _ _ p15_))))⟩
theorem fk_pp_push {w : St} {a1 : Int32} {σ : St} {τ : St} {vs : List Nat} {Q : St → St → List Nat → Prop} (hs : FKs w σ) (k : ∀ (v0 : St) (v1 : St) (v2 : List Nat), FKs w v0 → Q v0 v1 v2) : pp_push a1 σ τ vs Q := by
  unfold pp_push
  exact (fun _ => (k _ _ _ (fk_z (fk_c hs (by decide)) (by decide))))
theorem fk_pp_pop {w : St} {σ : St} {τ : St} {vs : List Nat} {Q : Int32 → St → St → List Nat → Prop} (hs : FKs w σ) (k : ∀ (v0 : Int32) (v1 : St) (v2 : St) (v3 : List Nat), FKs w v1 → Q v0 v1 v2 v3) : pp_pop σ τ vs Q := by
  unfold pp_pop
  exact (fun _ => (k _ _ _ _ (fk_z hs (by decide))))
theorem fk_pp_leave {w : St} {a1 : Int32} {σ : St} {τ : St} {vs : List Nat} {Q : Int32 → St → St → List Nat → Prop} (hs : FKs w σ) (k : ∀ (v0 : Int32) (v1 : St) (v2 : St) (v3 : List Nat), FKs w v1 → Q v0 v1 v2 v3) : pp_leave a1 σ τ vs Q := by
  unfold pp_leave
  exact ⟨(fun x1_ x2_ x3_ x4_ => FKs w x2_), ⟨(fun y0_12 s12 t12 z12 => fun j5_ => ⟨(fun _ => ⟨(fun _ => (fun _ => (k _ _ _ _ (fk_z j5_ (by decide))))), (fun _ => (fk_pp_push (fk_z j5_ (by decide)) (fun s48 t48 z48 p6_ => (fun _ => (k _ _ _ _ p6_)))))⟩), (fun _ => (k _ _ _ _ (fk_z (fk_z (fk_z j5_ (by decide)) (by decide)) (by decide))))⟩), ⟨(fun _ => hs), (fun _ => (fk_pp_pop hs (fun v5 s5 t5 z5 p7_ => p7_)))⟩⟩⟩
theorem fk_pp_isCell {a0 : Int32} {σ : St} {τ : St} {vs : List Nat} {Q : Int32 → Prop} (k : ∀ (v0 : Int32), Q v0) : pp_isCell a0 σ τ vs Q := by
  unfold pp_isCell
  exact ⟨(fun _ => (k _)), (fun _ => ⟨(fun _ => (k _)), (fun _ => (k _))⟩)⟩
theorem fk_pp_trapped {w : St} {a1 : Int32} {a2 : Int32} {σ : St} {τ : St} {vs : List Nat} {Q : St → St → List Nat → Prop} (hs : FKs w σ) (k : ∀ (v0 : St) (v1 : St) (v2 : List Nat), FKs w v0 → Q v0 v1 v2) : pp_trapped a1 a2 σ τ vs Q := by
  unfold pp_trapped
  exact (fun _ => (fun _ => (fk_pp_ends hs (fun s21 t21 z21 p1_ => (k _ _ _ p1_)))))
theorem fk_pp_compared {a0 : Int32} {a1 : Int32} {a2 : Int32} {σ : St} {τ : St} {vs : List Nat} {Q : Int32 → Prop} (k : ∀ (v0 : Int32), Q v0) : pp_compared a0 a1 a2 σ τ vs Q := by
  unfold pp_compared
  exact ⟨(fun _ => ⟨(fun _ => ⟨(fun _ => ⟨(fun _ => (k _)), (fun _ => (k _))⟩), (fun _ => ⟨(fun _ => (k _)), (fun _ => (k _))⟩)⟩), (fun _ => ⟨(fun _ => (k _)), (fun _ => (k _))⟩)⟩), (fun _ => ⟨(fun _ => (k _)), (fun _ => (k _))⟩)⟩
theorem fk_pp_work {a0 : Int32} {a1 : Int32} {a2 : Int32} {σ : St} {τ : St} {vs : List Nat} {Q : Int32 → Prop} (k : ∀ (v0 : Int32), Q v0) : pp_work a0 a1 a2 σ τ vs Q := by
  unfold pp_work
  exact ⟨True, ⟨(fun j1_ => ⟨(fun x2_ => True), ⟨(fun y0_233 => fun j3_ => ⟨(fun x4_ => True), ⟨(fun y1_248 => fun j5_ => ⟨(fun x6_ => True), ⟨(fun y2_263 => fun j7_ => (fk_pp_compared (fun v263 => ⟨(fun _ => (k _)), (fun _ => (k _))⟩))), ⟨(fun _ => trivial), (fun _ => trivial)⟩⟩⟩), ⟨(fun _ => trivial), (fun _ => trivial)⟩⟩⟩), ⟨(fun _ => trivial), (fun _ => trivial)⟩⟩⟩), ⟨(fun _ => ⟨(fun _ => (k _)), (fun _ => (k _))⟩), (fun _ => ⟨(fun _ => ⟨(fun _ => (k _)), (fun _ => (k _))⟩), (fun _ => ⟨(fun _ => trivial), (fun _ => ⟨(fun _ => trivial), (fun _ => ⟨(fun _ => (k _)), (fun _ => ⟨(fun _ => (k _)), (fun _ => ⟨(fun _ => trivial), (fun _ => ⟨(fun _ => trivial), (fun _ => ⟨(fun _ => trivial), (fun _ => ⟨(fun _ => trivial), (fun _ => ⟨(fun _ => trivial), (fun _ => ⟨(fun _ => trivial), (fun _ => ⟨(fun _ => trivial), (fun _ => ⟨(fun _ => trivial), (fun _ => ⟨(fun _ => trivial), (fun _ => ⟨(fun _ => trivial), (fun _ => ⟨(fun _ => trivial), (fun _ => ⟨(fun _ => trivial), (fun _ => ⟨(fun _ => trivial), (fun _ => ⟨(fun _ => (k _)), (fun _ => ⟨(fun _ => (k _)), (fun _ => ⟨(fun _ => (k _)), (fun _ => ⟨(fun _ => trivial), (fun _ => ⟨(fun _ => trivial), (fun _ => ⟨(fun _ => (k _)), (fun _ => ⟨(fun _ => (k _)), (fun _ => ⟨(fun _ => (k _)), (fun _ => ⟨(fun _ => ⟨(fun _ => (fun _ => (k _))), (fun _ => (k _))⟩), (fun _ => ⟨(fun _ => ⟨(fun _ => (fun _ => (k _))), (fun _ => (k _))⟩), (fun _ => trivial)⟩)⟩)⟩)⟩)⟩)⟩)⟩)⟩)⟩)⟩)⟩)⟩)⟩)⟩)⟩)⟩)⟩)⟩)⟩)⟩)⟩)⟩)⟩)⟩)⟩)⟩)⟩)⟩)⟩⟩⟩
theorem fk_pp_emit {w : St} {a1 : Int32} {a2 : Int32} {σ : St} {τ : St} {vs : List Nat} {Q : St → St → List Nat → Prop} (hs : FKs w σ) (k : ∀ (v0 : St) (v1 : St) (v2 : List Nat), FKs w v0 → Q v0 v1 v2) : pp_emit a1 a2 σ τ vs Q := by
  unfold pp_emit
  exact ⟨(fun _ => (fun _ => (k _ _ _ (fk_z (fk_c hs (by decide)) (by decide))))), (fun _ => ⟨(fun _ => (k _ _ _ hs)), (fun _ => (fk_pp_trapped hs (fun s21 t21 z21 p1_ => (k _ _ _ p1_))))⟩)⟩
theorem fk_pp_print {w : St} {a1 : Int32} {a2 : Int32} {σ : St} {τ : St} {vs : List Nat} {Q : St → St → List Nat → Prop} (hs : FKs w σ) (k : ∀ (v0 : St) (v1 : St) (v2 : List Nat), FKs w v0 → Q v0 v1 v2) : pp_print a1 a2 σ τ vs Q := by
  unfold pp_print
  exact ⟨(fun x1_ x2_ x3_ x4_ => FKs w x2_), ⟨(fun x3_19 s19 t19 z19 => fun j5_ => ⟨(fun x6_ => True), ⟨trivial, (fun x5_22 => fun j7_ => fun _ => ⟨(fun _ => ⟨(fun x8_ x9_ x10_ x11_ => FKs w x9_), ⟨j5_, (fun x5_44 s44 t44 z44 => fun j12_ => ⟨(fun _ => (k _ _ _ j12_)), (fun _ => (fun _ => (fk_pp_emit j12_ (fun s66 t66 z66 p13_ => p13_))))⟩)⟩⟩), (fun _ => trivial)⟩)⟩⟩), ⟨(fun _ => hs), (fun _ => (fk_pp_emit hs (fun s13 t13 z13 p14_ => p14_)))⟩⟩⟩
theorem fk_pp_library_1 {w : St} {a1 : Int32} {a2 : Int32} {σ : St} {τ : St} {vs : List Nat} {Q : St → St → List Nat → Prop} (hs : FKs w σ) (k : ∀ (v0 : St) (v1 : St) (v2 : List Nat), FKs w v0 → Q v0 v1 v2) : pp_library_1 a1 a2 σ τ vs Q := by
  unfold pp_library_1
  exact ⟨(fun _ => (fk_pp_pop hs (fun v59 s59 t59 z59 p1_ => ⟨(fun _ => ⟨(fun _ => (k _ _ _ (fk_z (fk_z p1_ (by decide)) (by decide)))), (fun _ => (fk_pp_print p1_ (fun s85 t85 z85 p2_ => (k _ _ _ p2_))))⟩), (fun _ => (fk_pp_emit p1_ (fun s71 t71 z71 p3_ => (k _ _ _ p3_))))⟩))), (fun _ => ⟨(fun x4_ => True), ⟨(fun y1_33 => fun j5_ => (fk_pp_push hs (fun s33 t33 z33 p6_ => ⟨(fun _ => (k _ _ _ p6_)), (fun _ => (k _ _ _ (fk_z p6_ (by decide))))⟩))), ⟨(fun _ => trivial), (fun _ => (fun _ => trivial))⟩⟩⟩)⟩
theorem fk_pp_call_1 {w : St} {a1 : Int32} {a2 : Int32} {a3 : Int32} {σ : St} {τ : St} {vs : List Nat} {Q : Int32 → St → St → List Nat → Prop} (hs : FKs w σ) (k : ∀ (v0 : Int32) (v1 : St) (v2 : St) (v3 : List Nat), FKs w v1 → Q v0 v1 v2 v3) : pp_call_1 a1 a2 a3 σ τ vs Q := by
  unfold pp_call_1
  exact (fun _ => (fun _ => (fun _ => (fun _ => ⟨(fun _ => (fk_pp_enter hs (fun s63 t63 z63 p1_ => ⟨(fun _ => (k _ _ _ _ p1_)), (fun _ => (fun _ => (k _ _ _ _ p1_)))⟩))), (fun _ => (fk_pp_library_1 hs (fun s45 t45 z45 p2_ => (k _ _ _ _ p2_))))⟩))))
theorem fk_pp_getLocal {a1 : Int32} {σ : St} {τ : St} {vs : List Nat} {Q : Int32 → Prop} (k : ∀ (v0 : Int32), Q v0) : pp_getLocal a1 σ τ vs Q := by
  unfold pp_getLocal
  exact (fk_pp_rowOf (fun v6 => (fun _ => ⟨(fun _ => (fun _ => (k _))), (fun _ => (fun _ => (fun _ => (k _))))⟩)))
theorem fk_pp_stepMore {w : St} {a1 : Int32} {a2 : Int32} {σ : St} {τ : St} {vs : List Nat} {Q : Int32 → St → St → List Nat → Prop} (hs : FKs w σ) (k : ∀ (v0 : Int32) (v1 : St) (v2 : St) (v3 : List Nat), FKs w v1 → Q v0 v1 v2 v3) : pp_stepMore a1 a2 σ τ vs Q := by
  unfold pp_stepMore
  exact (fun _ => ⟨True, ⟨(fun j1_ => (fun _ => ⟨(fun x2_ => True), ⟨(fun y1_401 => fun _ => fun j3_ => (fk_pp_leave hs (fun v401 s401 t401 z401 p4_ => (k _ _ _ _ p4_)))), ⟨(fun _ => trivial), (fun _ => trivial)⟩⟩⟩)), ⟨(fun _ => (fk_pp_pop hs (fun v97 s97 t97 z97 p5_ => (fk_pp_isCell (fun v102 => ⟨(fun _ => (fk_pp_trapped p5_ (fun s124 t124 z124 p6_ => (k _ _ _ _ p6_)))), (fun _ => (fun _ => (fk_pp_push p5_ (fun s115 t115 z115 p7_ => (k _ _ _ _ p7_)))))⟩))))), (fun _ => ⟨(fun _ => (fk_pp_pop hs (fun v132 s132 t132 z132 p8_ => (fk_pp_pop p8_ (fun v137 s137 t137 z137 p9_ => (fk_pp_isCell (fun v144 => ⟨(fun x10_ x11_ x12_ => FKs w x10_), ⟨(fun s167 t167 z167 => fun j13_ => (fk_pp_push j13_ (fun s169 t169 z169 p14_ => (k _ _ _ _ p14_)))), ⟨(fun _ => (fk_pp_trapped p9_ (fun s164 t164 z164 p15_ => p15_))), (fun _ => (fun _ => (fk_c p9_ (by decide))))⟩⟩⟩))))))), (fun _ => ⟨(fun _ => trivial), (fun _ => ⟨(fun _ => trivial), (fun _ => ⟨(fun _ => trivial), (fun _ => ⟨(fun _ => trivial), (fun _ => ⟨(fun _ => (fk_pp_pop hs (fun v177 s177 t177 z177 p16_ => (fk_pp_pop p16_ (fun v182 s182 t182 z182 p17_ => ⟨True, ⟨(fun j18_ => (fk_pp_work (fun v224 => (fk_pp_push p17_ (fun s227 t227 z227 p19_ => (k _ _ _ _ p19_)))))), ⟨True, ⟨(fun j20_ => ⟨(fun _ => trivial), (fun _ => (fun _ => (fk_pp_trapped p17_ (fun s213 t213 z213 p21_ => (k _ _ _ _ p21_)))))⟩), ⟨(fun _ => trivial), (fun _ => ⟨(fun _ => trivial), (fun _ => trivial)⟩)⟩⟩⟩⟩⟩))))), (fun _ => ⟨(fun _ => trivial), (fun _ => ⟨(fun _ => trivial), (fun _ => ⟨(fun _ => trivial), (fun _ => ⟨(fun _ => trivial), (fun _ => ⟨(fun _ => trivial), (fun _ => ⟨(fun _ => trivial), (fun _ => ⟨(fun _ => trivial), (fun _ => ⟨(fun _ => (fun _ => (fk_pp_call_1 hs (fun v380 s380 t380 z380 p22_ => (k _ _ _ _ p22_))))), (fun _ => ⟨(fun _ => trivial), (fun _ => ⟨(fun _ => trivial), (fun _ => ⟨(fun _ => (fk_pp_pop hs (fun v235 s235 t235 z235 p23_ => (fk_pp_isCell (fun v240 => ⟨(fun _ => (fun _ => (fun _ => (fun _ => (fun _ => ⟨(fun x24_ => True), ⟨(fun y1_308 => fun j25_ => (fk_pp_push (fk_c p23_ (by decide)) (fun s308 t308 z308 p26_ => (k _ _ _ _ p26_)))), ⟨(fun _ => (fun _ => (fun _ => trivial))), (fun _ => (fun _ => trivial))⟩⟩⟩))))), (fun _ => (fk_pp_trapped p23_ (fun s249 t249 z249 p27_ => (k _ _ _ _ p27_))))⟩))))), (fun _ => ⟨(fun _ => (fk_pp_getLocal (fun v317 => (fun _ => (fk_pp_setLocal hs (fun s333 t333 z333 p28_ => (fun _ => ⟨(fun x29_ => True), ⟨(fun y1_362 => fun j30_ => (fk_pp_push p28_ (fun s362 t362 z362 p31_ => (k _ _ _ _ p31_)))), ⟨(fun _ => (fun _ => trivial)), (fun _ => trivial)⟩⟩⟩))))))), (fun _ => trivial)⟩)⟩)⟩)⟩)⟩)⟩)⟩)⟩)⟩)⟩)⟩)⟩)⟩)⟩)⟩)⟩)⟩)⟩)⟩⟩⟩)
theorem fk_pp_clear {w : St} {a1 : Int32} {σ : St} {τ : St} {vs : List Nat} {Q : St → St → List Nat → Prop} (hs : FKs w σ) (k : ∀ (v0 : St) (v1 : St) (v2 : List Nat), FKs w v0 → Q v0 v1 v2) : pp_clear a1 σ τ vs Q := by
  unfold pp_clear
  exact (fk_pp_rowOf (fun v6 => (fun _ => (fun _ => (fk_pp_rowOf (fun v30 => (fun _ => ⟨(fun x1_ x2_ x3_ x4_ => FKs w x2_), ⟨hs, (fun x4_39 s39 t39 z39 => fun j5_ => ⟨(fun _ => ⟨(fun _ => (k _ _ _ j5_)), (fun _ => (fk_pp_setLocal j5_ (fun s68 t68 z68 p6_ => (k _ _ _ p6_))))⟩), (fun _ => (fun _ => (fk_c j5_ (by decide))))⟩)⟩⟩)))))))
theorem fk_pp_step {w : St} {a1 : Int32} {σ : St} {τ : St} {vs : List Nat} {Q : Int32 → St → St → List Nat → Prop} (hs : FKs w σ) (k : ∀ (v0 : Int32) (v1 : St) (v2 : St) (v3 : List Nat), FKs w v1 → Q v0 v1 v2 v3) : pp_step a1 σ τ vs Q := by
  unfold pp_step
  exact (fun _ => (fun _ => ⟨True, ⟨(fun j1_ => (fk_pp_stepMore hs (fun v445 s445 t445 z445 p2_ => (k _ _ _ _ p2_)))), ⟨(fun _ => (fk_pp_push hs (fun s130 t130 z130 p3_ => (k _ _ _ _ p3_)))), (fun _ => ⟨(fun _ => (fun _ => (fun _ => (fun _ => (fun _ => (fk_pp_push hs (fun s166 t166 z166 p4_ => (k _ _ _ _ p4_)))))))), (fun _ => ⟨(fun _ => (fun _ => (fun _ => (fun _ => (fk_pp_push hs (fun s197 t197 z197 p5_ => (k _ _ _ _ p5_))))))), (fun _ => ⟨(fun _ => (fk_pp_getLocal (fun v207 => (fk_pp_push hs (fun s210 t210 z210 p6_ => (k _ _ _ _ p6_)))))), (fun _ => ⟨(fun _ => (fun _ => (fk_pp_rowOf (fun v235 => (fun _ => (fk_pp_push hs (fun s240 t240 z240 p7_ => (k _ _ _ _ p7_)))))))), (fun _ => ⟨(fun _ => trivial), (fun _ => ⟨(fun _ => trivial), (fun _ => ⟨(fun _ => (fun _ => (fk_pp_setLocal hs (fun s260 t260 z260 p8_ => (k _ _ _ _ p8_))))), (fun _ => ⟨(fun _ => (fk_pp_clear hs (fun s269 t269 z269 p9_ => (k _ _ _ _ p9_)))), (fun _ => ⟨(fun _ => (fun _ => (fk_pp_push hs (fun s288 t288 z288 p10_ => (k _ _ _ _ p10_))))), (fun _ => ⟨(fun _ => (k _ _ _ _ (fk_z hs (by decide)))), (fun _ => ⟨(fun _ => trivial), (fun _ => ⟨(fun _ => (fk_pp_pop hs (fun v311 s311 t311 z311 p11_ => (fk_pp_push p11_ (fun s315 t315 z315 p12_ => (k _ _ _ _ p12_)))))), (fun _ => ⟨(fun _ => (fk_pp_pop hs (fun v324 s324 t324 z324 p13_ => (fk_pp_push p13_ (fun s329 t329 z329 p14_ => (k _ _ _ _ p14_)))))), (fun _ => ⟨(fun _ => (fk_pp_pop hs (fun v338 s338 t338 z338 p15_ => ⟨(fun x16_ => True), ⟨(fun y1_349 => fun _ => fun j17_ => (fk_pp_push p15_ (fun s349 t349 z349 p18_ => (k _ _ _ _ p18_)))), ⟨(fun _ => trivial), (fun _ => trivial)⟩⟩⟩))), (fun _ => ⟨(fun _ => (k _ _ _ _ hs)), (fun _ => ⟨(fun _ => (fk_pp_pop hs (fun v379 s379 t379 z379 p19_ => ⟨(fun _ => (k _ _ _ _ p19_)), (fun _ => (k _ _ _ _ p19_))⟩))), (fun _ => ⟨(fun _ => (fk_pp_pop hs (fun v394 s394 t394 z394 p20_ => ⟨(fun _ => (k _ _ _ _ p20_)), (fun _ => (k _ _ _ _ p20_))⟩))), (fun _ => ⟨(fun _ => ⟨(fun _ => (k _ _ _ _ (fk_z hs (by decide)))), (fun _ => (fk_pp_trapped hs (fun s422 t422 z422 p21_ => (k _ _ _ _ p21_))))⟩), (fun _ => ⟨(fun _ => trivial), (fun _ => ⟨(fun _ => trivial), (fun _ => ⟨(fun _ => trivial), (fun _ => ⟨(fun _ => trivial), (fun _ => ⟨(fun _ => trivial), (fun _ => ⟨(fun _ => (fk_pp_pop hs (fun v358 s358 t358 z358 p22_ => ⟨(fun x23_ => True), ⟨(fun y1_369 => fun _ => fun j24_ => (fk_pp_push p22_ (fun s369 t369 z369 p25_ => (k _ _ _ _ p25_)))), ⟨(fun _ => trivial), (fun _ => trivial)⟩⟩⟩))), (fun _ => trivial)⟩)⟩)⟩)⟩)⟩)⟩)⟩)⟩)⟩)⟩)⟩)⟩)⟩)⟩)⟩)⟩)⟩)⟩)⟩)⟩)⟩)⟩)⟩)⟩)⟩⟩⟩))
theorem fk_pp_run {w : St} {a1 : Int32} {σ : St} {τ : St} {vs : List Nat} {Q : Int32 → St → St → List Nat → Prop} (hs : FKs w σ) (k : ∀ (v0 : Int32) (v1 : St) (v2 : St) (v3 : List Nat), FKs w v1 → Q v0 v1 v2 v3) : pp_run a1 σ τ vs Q := by
  unfold pp_run
  exact ⟨(fun _ => ⟨(fun _ => (k _ _ _ _ hs)), (fun _ => ⟨(fun _ => ⟨(fun x1_ x2_ x3_ x4_ => FKs w x2_), ⟨hs, (fun x2_25 s25 t25 z25 => fun j5_ => ⟨(fun _ => (fk_pp_enter (fk_z (fk_z (fk_z (fk_z (fk_z (fk_z (fk_z (fk_z (fk_z (fk_z (fk_z j5_ (by decide)) (by decide)) (by decide)) (by decide)) (by decide)) (by decide)) (by decide)) (by decide)) (by decide)) (by decide)) (by decide)) (fun s125 t125 z125 p6_ => ⟨(fun x7_ => True), ⟨(fun y0_148 => fun j8_ => ⟨(fun x9_ x10_ x11_ x12_ => FKs w x10_), ⟨p6_, (fun x2_149 s149 t149 z149 => fun j13_ => ⟨(fun _ => (k _ _ _ _ (fk_z j13_ (by decide)))), (fun _ => (fk_pp_step j13_ (fun v158 s158 t158 z158 p14_ => p14_)))⟩)⟩⟩), ⟨(fun _ => trivial), (fun _ => (fun _ => trivial))⟩⟩⟩))), (fun _ => ⟨(fun x15_ => True), ⟨(fun y2_55 => fun j16_ => fun _ => (fk_c j5_ (by decide))), ⟨(fun _ => trivial), (fun _ => (fun _ => trivial))⟩⟩⟩)⟩)⟩⟩), (fun _ => (k _ _ _ _ hs))⟩)⟩), (fun _ => (k _ _ _ _ hs))⟩
theorem fk_pp_input {w : St} {a1 : Int32} {σ : St} {τ : St} {vs : List Nat} {Q : Int32 → St → St → List Nat → Prop} (hs : FKs w σ) (k : ∀ (v0 : Int32) (v1 : St) (v2 : St) (v3 : List Nat), FKs w v1 → Q v0 v1 v2 v3) : pp_input a1 σ τ vs Q := by
  unfold pp_input
  exact ⟨(fun _ => (fun _ => (k _ _ _ _ (fk_z (fk_c hs (by decide)) (by decide))))), (fun _ => (k _ _ _ _ hs))⟩
theorem fk_pp_isSymbol {a1 : Int32} {a2 : Int32} {σ : St} {τ : St} {vs : List Nat} {Q : Int32 → Prop} (k : ∀ (v0 : Int32), Q v0) : pp_isSymbol a1 a2 σ τ vs Q := by
  unfold pp_isSymbol
  exact (fun _ => ⟨(fun _ => (k _)), (fun _ => (fun _ => ⟨(fun _ => (k _)), (fun _ => (k _))⟩))⟩)
theorem fk_pp_isTray {a1 : Int32} {a2 : Int32} {σ : St} {τ : St} {vs : List Nat} {Q : Int32 → Prop} (k : ∀ (v0 : Int32), Q v0) : pp_isTray a1 a2 σ τ vs Q := by
  unfold pp_isTray
  exact (fun _ => ⟨(fun _ => ⟨(fun x1_ => True), ⟨trivial, (fun x3_14 => fun j2_ => ⟨(fun _ => (k _)), (fun _ => (fun _ => (fun _ => (fun _ => ⟨(fun _ => trivial), (fun _ => (k _))⟩))))⟩)⟩⟩), (fun _ => (k _))⟩)
theorem fk_pp_cell {w : St} {σ : St} {τ : St} {vs : List Nat} {Q : Int32 → St → St → List Nat → Prop} (hs : FKs w σ) (k : ∀ (v0 : Int32) (v1 : St) (v2 : St) (v3 : List Nat), FKs w v1 → Q v0 v1 v2 v3) : pp_cell σ τ vs Q := by
  unfold pp_cell
  exact ⟨(fun _ => ⟨(fun x1_ => True), ⟨trivial, (fun x2_21 => fun j2_ => ⟨(fun _ => ⟨(fun x3_ x4_ => True), ⟨trivial, (fun x2_120 x3_120 => fun j5_ => ⟨(fun _ => (k _ _ _ _ (fk_z hs (by decide)))), (fun _ => ⟨(fun x6_ => True), ⟨trivial, (fun x4_128 => fun j7_ => fun _ => ⟨(fun _ => ⟨(fun x8_ => True), ⟨(fun y0_160 => fun _ => fun j9_ => ⟨(fun x10_ x11_ => True), ⟨trivial, (fun x5_165 x6_165 => fun _ => fun j12_ => ⟨True, ⟨(fun j13_ => ⟨(fun _ => trivial), (fun _ => (k _ _ _ _ (fk_z hs (by decide))))⟩), ⟨(fun _ => trivial), (fun _ => ⟨(fun _ => trivial), (fun _ => (fun _ => (fun _ => ⟨(fun x14_ => True), ⟨(fun y0_201 => fun _ => fun j15_ => trivial), ⟨(fun _ => trivial), (fun _ => trivial)⟩⟩⟩)))⟩)⟩⟩⟩)⟩⟩), ⟨(fun _ => trivial), (fun _ => trivial)⟩⟩⟩), (fun _ => trivial)⟩)⟩⟩)⟩)⟩⟩), (fun _ => (fun _ => (fun _ => ⟨(fun x16_ => True), ⟨trivial, (fun x3_43 => fun j17_ => fun _ => fun _ => ⟨(fun _ => trivial), (fun _ => (fk_pp_isSymbol (fun v61 => ⟨True, ⟨(fun j18_ => trivial), ⟨(fun _ => trivial), (fun _ => (fk_pp_isTray (fun v70 => ⟨(fun _ => trivial), (fun _ => (fun _ => ⟨(fun _ => (k _ _ _ _ (fk_z hs (by decide)))), (fun _ => (fun _ => (fun _ => (k _ _ _ _ (fk_z hs (by decide))))))⟩))⟩)))⟩⟩⟩)))⟩)⟩⟩)))⟩)⟩⟩), (fun _ => (k _ _ _ _ (fk_z hs (by decide))))⟩
def FNs (w s : St) : Prop := s 0 88 = w 0 88
theorem fn_rf {w : St} : FNs w w := rfl
theorem fn_z {w s : St} {k : Nat} {v : Int32} (h : FNs w s) (hk : k ≠ 88) : FNs w (upC s 0 k v) := by
  unfold FNs
  rw [rdA_ne (fun e => hk e.symm)]
  exact h
theorem fn_c {w s : St} {c k : Nat} {v : Int32} (h : FNs w s) (hc : 0 ≠ c) : FNs w (upC s c k v) := by
  unfold FNs
  rw [rdC_ne hc]
  exact h
theorem fn_pp_isObject {a1 : Int32} {σ : St} {τ : St} {vs : List Nat} {Q : Int32 → Prop} (k : ∀ (v0 : Int32), Q v0) : pp_isObject a1 σ τ vs Q := by
  unfold pp_isObject
  exact ⟨(fun _ => (k _)), (fun _ => ⟨(fun _ => (k _)), (fun _ => (k _))⟩)⟩
theorem fn_pp_pick {w : St} {a1 : Int32} {σ : St} {τ : St} {vs : List Nat} {Q : Int32 → St → St → List Nat → Prop} (hs : FNs w σ) (k : ∀ (v0 : Int32) (v1 : St) (v2 : St) (v3 : List Nat), FNs w v1 → Q v0 v1 v2 v3) : pp_pick a1 σ τ vs Q := by
  unfold pp_pick
  exact (fn_pp_isObject (fun v2 => ⟨(fun _ => ⟨(fun x1_ => True), ⟨trivial, (fun x2_12 => fun j2_ => ⟨(fun _ => (fun _ => (k _ _ _ _ (fn_z (fn_c hs (by decide)) (by decide))))), (fun _ => (fun _ => ⟨(fun _ => trivial), (fun _ => (k _ _ _ _ hs))⟩))⟩)⟩⟩), (fun _ => (k _ _ _ _ hs))⟩))
theorem fn_pp_isSymbol {a1 : Int32} {a2 : Int32} {σ : St} {τ : St} {vs : List Nat} {Q : Int32 → Prop} (k : ∀ (v0 : Int32), Q v0) : pp_isSymbol a1 a2 σ τ vs Q := by
  unfold pp_isSymbol
  exact (fun _ => ⟨(fun _ => (k _)), (fun _ => (fun _ => ⟨(fun _ => (k _)), (fun _ => (k _))⟩))⟩)
theorem fn_pp_isTray {a1 : Int32} {a2 : Int32} {σ : St} {τ : St} {vs : List Nat} {Q : Int32 → Prop} (k : ∀ (v0 : Int32), Q v0) : pp_isTray a1 a2 σ τ vs Q := by
  unfold pp_isTray
  exact (fun _ => ⟨(fun _ => ⟨(fun x1_ => True), ⟨trivial, (fun x3_14 => fun j2_ => ⟨(fun _ => (k _)), (fun _ => (fun _ => (fun _ => (fun _ => ⟨(fun _ => trivial), (fun _ => (k _))⟩))))⟩)⟩⟩), (fun _ => (k _))⟩)
theorem fn_pp_cell {w : St} {σ : St} {τ : St} {vs : List Nat} {Q : Int32 → St → St → List Nat → Prop} (hs : FNs w σ) (k : ∀ (v0 : Int32) (v1 : St) (v2 : St) (v3 : List Nat), FNs w v1 → Q v0 v1 v2 v3) : pp_cell σ τ vs Q := by
  unfold pp_cell
  exact ⟨(fun _ => ⟨(fun x1_ => True), ⟨trivial, (fun x2_21 => fun j2_ => ⟨(fun _ => ⟨(fun x3_ x4_ => True), ⟨trivial, (fun x2_120 x3_120 => fun j5_ => ⟨(fun _ => (k _ _ _ _ (fn_z hs (by decide)))), (fun _ => ⟨(fun x6_ => True), ⟨trivial, (fun x4_128 => fun j7_ => fun _ => ⟨(fun _ => ⟨(fun x8_ => True), ⟨(fun y0_160 => fun _ => fun j9_ => ⟨(fun x10_ x11_ => True), ⟨trivial, (fun x5_165 x6_165 => fun _ => fun j12_ => ⟨True, ⟨(fun j13_ => ⟨(fun _ => trivial), (fun _ => (k _ _ _ _ (fn_z hs (by decide))))⟩), ⟨(fun _ => trivial), (fun _ => ⟨(fun _ => trivial), (fun _ => (fun _ => (fun _ => ⟨(fun x14_ => True), ⟨(fun y0_201 => fun _ => fun j15_ => trivial), ⟨(fun _ => trivial), (fun _ => trivial)⟩⟩⟩)))⟩)⟩⟩⟩)⟩⟩), ⟨(fun _ => trivial), (fun _ => trivial)⟩⟩⟩), (fun _ => trivial)⟩)⟩⟩)⟩)⟩⟩), (fun _ => (fun _ => (fun _ => ⟨(fun x16_ => True), ⟨trivial, (fun x3_43 => fun j17_ => fun _ => fun _ => ⟨(fun _ => trivial), (fun _ => (fn_pp_isSymbol (fun v61 => ⟨True, ⟨(fun j18_ => trivial), ⟨(fun _ => trivial), (fun _ => (fn_pp_isTray (fun v70 => ⟨(fun _ => trivial), (fun _ => (fun _ => ⟨(fun _ => (k _ _ _ _ (fn_z hs (by decide)))), (fun _ => (fun _ => (fun _ => (k _ _ _ _ (fn_z hs (by decide))))))⟩))⟩)))⟩⟩⟩)))⟩)⟩⟩)))⟩)⟩⟩), (fun _ => (k _ _ _ _ (fn_z hs (by decide))))⟩
theorem r8_pp_run {a1 : Int32} {σ τ : St} {vs : List Nat} {Q : Int32 → St → St → List Nat → Prop} (k0 : ¬ (0 ≤ (σ 0 70).toInt ∧ 0 ≤ a1.toInt ∧ a1.toInt ≤ 20000) → ∀ v, Q v σ τ vs) (k1 : (0 ≤ (σ 0 70).toInt ∧ 0 ≤ a1.toInt ∧ a1.toInt ≤ 20000) → ∀ v s t z, s 0 88 = 0 → Q v s t z) : pp_run a1 σ τ vs Q := by
  unfold pp_run
  exact ⟨(fun c70 => ⟨(fun ca => k0 (by omega) _), (fun ca => ⟨(fun cb => ⟨(fun x1_ x2_ x3_ x4_ => FKs σ x2_), ⟨fk_rf, (fun x2_25 s25 t25 z25 => fun j5_ => ⟨(fun _ => (fk_pp_enter (fk_z (fk_z (fk_z (fk_z (fk_z (fk_z (fk_z (fk_z (fk_z (fk_z (fk_z j5_ (by decide)) (by decide)) (by decide)) (by decide)) (by decide)) (by decide)) (by decide)) (by decide)) (by decide)) (by decide)) (by decide)) (fun s125 t125 z125 p6_ => ⟨(fun x7_ => True), ⟨(fun y0_148 => fun j8_ => ⟨(fun x9_ x10_ x11_ x12_ => FKs σ x10_), ⟨p6_, (fun x2_149 s149 t149 z149 => fun j13_ => ⟨(fun _ => (k1 ⟨c70, ca, cb⟩ _ _ _ _ rfl)), (fun _ => (fk_pp_step j13_ (fun v158 s158 t158 z158 p14_ => p14_)))⟩)⟩⟩), ⟨(fun _ => trivial), (fun _ => (fun _ => trivial))⟩⟩⟩))), (fun _ => ⟨(fun x15_ => True), ⟨(fun y2_55 => fun j16_ => fun _ => (fk_c j5_ (by decide))), ⟨(fun _ => trivial), (fun _ => (fun _ => trivial))⟩⟩⟩)⟩)⟩⟩), (fun cb => k0 (by omega) _)⟩)⟩), (fun c70 => k0 (by omega) _)⟩
theorem r8_execute {a1 : Int32} {σ : St} {Q : Int32 → St → Prop} (k : ∀ v t, t 11 0 = 0 → Q v t) : pk_X5_execute a1 σ Q := by
  unfold pk_X5_execute
  exact (fw_pk_X5_begin (fw_rf (w := σ)) (fun s2 p1_ => (fw_pk_X5_enter p1_ (fun s14 p2_ => ⟨(fun x3_ x4_ => FWs σ x4_), ⟨p2_, (fun x4_48 s48 => fun j5_ => ⟨True, ⟨(fun j6_ => ⟨(fun x7_ => FWs σ x7_), ⟨(fun s88 => fun j8_ => (k _ _ rfl)), ⟨(fun _ => j5_), (fun _ => (fw_pk_X5_stray j5_ (fun s85 p10_ => p10_)))⟩⟩⟩), ⟨(fun _ => trivial), (fun _ => ⟨(fun _ => trivial), (fun _ => (fw_pk_X5_step j5_ (fun s64 p11_ => p11_)))⟩)⟩⟩⟩)⟩⟩))))
theorem r8_pk_run {a1 : Int32} {σ : St} {Q : Int32 → St → Prop} (k0 : ¬ ((σ 10 2).toInt ≠ 0 ∧ 0 ≤ a1.toInt ∧ a1.toInt ≤ 20000) → ∀ v, Q v σ) (k1 : ((σ 10 2).toInt ≠ 0 ∧ 0 ≤ a1.toInt ∧ a1.toInt ≤ 20000) → ∀ v t, t 11 0 = 0 → Q v t) : pk_X12_run a1 σ Q := by
  unfold pk_X12_run
  exact ⟨(fun cr => ⟨(fun ca => k0 (fun h => by omega) _), (fun ca => ⟨(fun cb => r8_execute (fun v t h => k1 ⟨cr, ca, cb⟩ v t h)), (fun cb => k0 (fun h => by omega) _)⟩)⟩), (fun cr => k0 (fun h => h.1 cr) _)⟩
end

section
/-! all calls: what link() and run() leave stays alike -/
def RLc (w σ : St) : Prop := RLb w σ ∧ LKa w σ
section CLC
variable {w σ s s1 t τ : St} {vs z : List Nat} {a b c a1 a2 a3 a4 a5 v v2 : Int32} {o : Nat}
theorem pl_cim {Q : Int32 → St → Prop} (h : IVx w o) (k : ∀ v t, (∀ c, (c = 10 ∨ c = 11 ∨ c = 12 ∨ (55 ≤ c ∧ c ≤ 64)) → t c = w c) → Q v t) : pk_X12_compile a w Q := by
  obtain ⟨⟨h1, h1'⟩, h2, h3, h4, ⟨f1, f2, f3⟩, h6, ⟨g1, g2, g3, g4⟩, h8, h9, ha, hb, hc, hi⟩ := h
  have d0 := de_le h2
  unfold pk_X12_compile
  generalize hσ1 : upC (upC w 0 1 (0 : Int32)) 0 3 ((-1) : Int32) = w1
  have r1' : ∀ c, c ≠ 0 → w1 c = w c := fun c hc0 => by rw [← hσ1, rdC_ne hc0, rdC_ne hc0]
  have q01 : (w1 0 1).toInt = 0 := by rw [← hσ1]; rfl
  have q02 : w1 0 2 = w 0 2 := by rw [← hσ1]; rfl
  clear hσ1
  have early : ∀ v, Q v w1 := fun v => k v w1 (fun c hc => r1' c (by omega))
  refine ⟨fun _ => early _, fun _ => ⟨fun _ => early _, fun _ => ⟨fun c100 => ?_, fun _ => early _⟩⟩⟩
  refine wl_wk_X10_scan (fun s4 p1 => ?_) (sp_scan (Q := fun s4 => Kp [(2, 1), (2, 2), (2, 3), (2, 4)] [13, 14, 15, 16] w1 s4 ∧ (s4 2 1).toInt = (w 0 1).toInt ∧ TEn s4) ⟨f1.1, f1.2.1⟩ (by unfold PLA; rw [r1' 15 (by decide)]; exact g1) (by unfold NMr; rw [r1' 13 (by decide), r1' 14 (by decide), r1' 15 (by decide)]; exact g2) (fun s4 k4 z4 te => ⟨k4, z4, te⟩))
  obtain ⟨k4, z4, te⟩ := p1
  obtain ⟨tk, pl4, nm4⟩ := te
  have kc : ∀ s5, KG s4 s5 → ∀ c j, c ≠ 2 → c ≠ 3 → ¬ (13 ≤ c ∧ c ≤ 23) → s5 c j = w1 c j := fun s5 k5 c j c2 c3 c4 => by
    have e1 : s5 c j = s4 c j := k5 c j (by
      simp only [List.contains_cons, List.contains_nil, Bool.or_false, Bool.or_eq_false_iff, beq_eq_false_iff_ne, ne_eq, Prod.mk.injEq, not_and]
      omega) (by
      simp only [List.contains_cons, List.contains_nil, Bool.or_false, Bool.or_eq_false_iff, beq_eq_false_iff_ne, ne_eq]
      omega)
    have e2 : s4 c j = w1 c j := k4 c j (by
      simp only [List.contains_cons, List.contains_nil, Bool.or_false, Bool.or_eq_false_iff, beq_eq_false_iff_ne, ne_eq, Prod.mk.injEq, not_and]
      omega) (by
      simp only [List.contains_cons, List.contains_nil, Bool.or_false, Bool.or_eq_false_iff, beq_eq_false_iff_ne, ne_eq]
      omega)
    exact e1.trans e2
  have t13 : ∀ s5, KG s4 s5 → s5 13 = s4 13 ∧ s5 14 = s4 14 ∧ s5 15 = s4 15 := fun s5 k5 => ⟨funext (fun j => k5 13 j rfl rfl), funext (fun j => k5 14 j rfl rfl), funext (fun j => k5 15 j rfl rfl)⟩
  refine wl_wk_X3_read (fun v s5 p1 => ?_) (sp_gread (Q := fun v s => KG s4 s ∧ (v = 0 ∨ (v = 1 ∧ RDk s))) tk (fun s k5 => ⟨k5, Or.inl rfl⟩) (fun s k5 rd => ⟨k5, Or.inr ⟨rfl, rd⟩⟩))
  obtain ⟨k5, prd⟩ := p1
  have w5 := kc s5 k5
  have row : ∀ c, c ≠ 2 → c ≠ 3 → ¬ (13 ≤ c ∧ c ≤ 23) → s5 c = w1 c := fun c c2 c3 c4 => funext (fun j => w5 c j c2 c3 c4)
  have v5 : s5 5 = w 5 := (row 5 (by decide) (by decide) (by omega)).trans (r1' 5 (by decide))
  have v4 : s5 4 = w 4 := (row 4 (by decide) (by decide) (by omega)).trans (r1' 4 (by decide))
  have v0 : s5 0 = w1 0 := row 0 (by decide) (by decide) (by omega)
  have v1' : s5 1 = w 1 := (row 1 (by decide) (by decide) (by omega)).trans (r1' 1 (by decide))
  have v25 : s5 25 = w 25 := (row 25 (by decide) (by decide) (by omega)).trans (r1' 25 (by decide))
  have v27 : s5 27 = w 27 := (row 27 (by decide) (by decide) (by omega)).trans (r1' 27 (by decide))
  have v29 : s5 29 = w 29 := (row 29 (by decide) (by decide) (by omega)).trans (r1' 29 (by decide))
  have vc : ∀ c, (c = 10 ∨ c = 11 ∨ c = 12 ∨ (55 ≤ c ∧ c ≤ 64)) → s5 c = w c := fun c hc => (row c (by omega) (by omega) (by omega)).trans (r1' c (by omega))
  have v34 : s5 34 = w 34 := (row 34 (by decide) (by decide) (by omega)).trans (r1' 34 (by decide))
  refine ⟨fun cv => ?_, fun cv => k _ _ (fun c hc => by rw [rdC_ne (by omega), vc c hc])⟩
  have rd : RDk s5 := by
    rcases prd with hv | ⟨_, rd⟩
    · rw [hv] at cv; exact absurd rfl cv
    · exact rd
  obtain ⟨x13, x14, x15⟩ := t13 s5 k5
  have a_pl : PLA s5 := by unfold PLA; rw [x15]; exact pl4
  have a_nm : NMr s5 := by unfold NMr; rw [x13, x14, x15]; exact nm4
  have sz : (s5 2 1).toInt = (w 0 1).toInt := by rw [show s5 2 1 = s4 2 1 from k5 2 1 rfl rfl]; exact z4
  have dd := d0 o (Nat.le_refl _)
  have a_sz : (s5 2 1).toInt ≤ 16000 := by rw [sz]; exact f1.2.1
  have a_by : ByteOK (s5 1) := by rw [v1']; exact g3
  have a_hd : 0 ≤ (s5 5 1).toInt ∧ (s5 5 1).toInt ≤ 10000 := by rw [v5]; omega
  have a_l0 : 0 ≤ (s5 4 1).toInt := by rw [v4]; exact f2.1
  have a_lb : (s5 4 1).toInt + 4 * (s5 2 1).toInt ≤ 262144 := by rw [v4, sz]; omega
  have a_hn : 0 ≤ (s5 5 7).toInt ∧ (s5 5 7).toInt + (s5 2 1).toInt ≤ 65600 := by rw [v5, sz]; omega
  have a_nme : NME s5 := by unfold NME; rw [v5, v29]; exact h6
  have a_fx : ∀ j, FLb ((s5 25) j) 1 → spar ((s5 27) j) ≤ 8 := by rw [v25, v27]; exact g4
  refine wl_wk_X7_walk (fun s p1 => ?_) (sp_walk (Q := fun s => ∃ ρ, Kp [(6, 2), (6, 3), (6, 4), (6, 5), (6, 7), (6, 6), (6, 10), (6, 15), (6, 17), (8, 6), (8, 8), (7, 7), (9, 5)] [] s5 ρ ∧ WDx ρ s) rd a_sz a_nm a_pl a_by a_hd a_l0 a_lb a_hn a_nme a_fx (fun ρ s kρ o0 wd hz => ⟨ρ, kρ, wd⟩))
  obtain ⟨ρ, kρ, wd⟩ := p1
  have kw := wd.1.1
  have sc : ∀ c, (c = 10 ∨ c = 11 ∨ c = 12 ∨ (55 ≤ c ∧ c ≤ 64)) → s c = w c := fun c hc => funext (fun j => by
    rcases (by omega : c = 10 ∨ c = 11 ∨ c = 12 ∨ c = 55 ∨ c = 56 ∨ c = 57 ∨ c = 58 ∨ c = 59 ∨ c = 60 ∨ c = 61 ∨ c = 62 ∨ c = 63 ∨ c = 64) with h | h | h | h | h | h | h | h | h | h | h | h | h <;> subst h
    · rw [kw 10 j (op_lt (by decide)) rfl rfl, kρ 10 j rfl rfl, vc 10 (by omega)]
    · rw [kw 11 j (op_lt (by decide)) rfl rfl, kρ 11 j rfl rfl, vc 11 (by omega)]
    · rw [kw 12 j (op_lt (by decide)) rfl rfl, kρ 12 j rfl rfl, vc 12 (by omega)]
    · rw [kw 55 j (op_mid (by decide) (by decide)) rfl rfl, kρ 55 j rfl rfl, vc 55 (by omega)]
    · rw [kw 56 j (op_mid (by decide) (by decide)) rfl rfl, kρ 56 j rfl rfl, vc 56 (by omega)]
    · rw [kw 57 j (op_mid (by decide) (by decide)) rfl rfl, kρ 57 j rfl rfl, vc 57 (by omega)]
    · rw [kw 58 j (op_mid (by decide) (by decide)) rfl rfl, kρ 58 j rfl rfl, vc 58 (by omega)]
    · rw [kw 59 j (op_mid (by decide) (by decide)) rfl rfl, kρ 59 j rfl rfl, vc 59 (by omega)]
    · rw [kw 60 j (op_mid (by decide) (by decide)) rfl rfl, kρ 60 j rfl rfl, vc 60 (by omega)]
    · rw [kw 61 j (op_mid (by decide) (by decide)) rfl rfl, kρ 61 j rfl rfl, vc 61 (by omega)]
    · rw [kw 62 j (op_mid (by decide) (by decide)) rfl rfl, kρ 62 j rfl rfl, vc 62 (by omega)]
    · rw [kw 63 j (op_mid (by decide) (by decide)) rfl rfl, kρ 63 j rfl rfl, vc 63 (by omega)]
    · rw [kw 64 j (op_mid (by decide) (by decide)) rfl rfl, kρ 64 j rfl rfl, vc 64 (by omega)])
  refine ⟨fun f0 => ?_, fun f0 => ?_⟩
  · unfold pk_X8_keep
    generalize ht : upF _ 37 _ = t
    have trow : ∀ c, c ≠ 5 → c ≠ 34 → c ≠ 35 → c ≠ 36 → c ≠ 37 → t c = s c := fun c c5 c34 c35 c36 c37 => by rw [← ht, rdF_ne c37, rdF_ne c36, rdF_ne c35, rdF_ne c34, rdC_ne c5]
    clear ht
    exact k _ t (fun c hc => (trow c (by omega) (by omega) (by omega) (by omega) (by omega)).trans (sc c hc))
  · unfold pk_X8_forget pk_X8_nameStart pk_X0_cut
    dsimp only
    exact k _ _ (fun c hc => by rw [rdC_ne (by omega), rdC_ne (by omega), rdC_ne (by omega), rdC_ne (by omega), rdC_ne (by omega)]; exact sc c hc)
theorem lka_same (h : LKa w σ) (e55 : t 55 = w 55) (e2 : t 10 2 = w 10 2) (e3 : t 10 3 = w 10 3) (e4 : t 10 4 = w 10 4) (e11 : (t 11 0).toInt = (s 0 88).toInt) (f : FKs σ s) : LKa t s := by
  obtain ⟨h1, h2, h3, h4, h5⟩ := h
  exact ⟨fun i hi => by rw [e55]; exact h1 i hi, by rw [e2, f.1]; exact h2, by rw [e3, f.2.1]; exact h3, by rw [e4, f.2.2]; exact h4, e11⟩
theorem lka_0 : LKa sc0 sm0 := ⟨fun _ _ => rfl, by decide, by decide, by decide, by decide⟩
theorem rlc_0 : RLc sc0 sm0 := ⟨rlb_0, lka_0⟩
theorem lka_cells (h : LKa w σ) (c : (∀ c, 2 ≤ c → t c = w c) ∧ ∀ j, 3 ≤ j → t 0 j = w 0 j) (m : (∀ c, 2 ≤ c → s c = σ c) ∧ ∀ j, 3 ≤ j → s 0 j = σ 0 j) : LKa t s := lka_same h (c.1 55 (by decide)) (by rw [c.1 10 (by decide)]) (by rw [c.1 10 (by decide)]) (by rw [c.1 10 (by decide)]) (by rw [c.1 11 (by decide), m.2 88 (by decide)]; exact h.2.2.2.2) ⟨m.2 70 (by decide), m.2 71 (by decide), m.2 72 (by decide)⟩
theorem rlc_feed (h : RLc w σ) (c : FDt a1 a2 a3 a4 a5 w t) (m : FDt a1 a2 a3 a4 a5 σ s) : RLc t s := ⟨rlb_feed h.1 c m, lka_cells h.2 (fd_cells c) (fd_cells m)⟩
theorem rlc_end (h : RLc w σ) (c : ENt a w t) (m : ENt a σ s) : RLc t s := ⟨rlb_end h.1 c m, lka_cells h.2 (en_cells c) (en_cells m)⟩
theorem fq_row (c : FQs w t) : t 55 = w 55 := c 55 (by unfold FQw; decide)
theorem fw_row (c : FWs w t) : t 10 = w 10 := c 10 (by unfold FWw; decide)
theorem rlc_cell (h : RLc w σ) (c : t = upC w 0 1 (0 : Int32)) (h1 : (s 0 1).toInt = 0) (h2 : s 0 2 = σ 0 2) (m : FCs σ s) (g : FGs σ s) (f : FHs σ s) (fk : FKs σ s) (fn : FNs σ s) : RLc t s := by
  have r : ∀ c, c ≠ 0 → t c = w c := fun q hq => by rw [c, rdC_ne hq]
  exact ⟨rlb_cell h.1 c h1 h2 m g f, lka_same h.2 (r 55 (by decide)) (by rw [r 10 (by decide)]) (by rw [r 10 (by decide)]) (by rw [r 10 (by decide)]) (by rw [r 11 (by decide), fn]; exact h.2.2.2.2.2) fk⟩
/-- pick() -/
theorem px_pickf {Q : Int32 → St → Prop} (k : ∀ v t, (t 10 2 = w 10 2 ∧ t 10 3 = w 10 3 ∧ t 10 4 = w 10 4 ∧ t 11 0 = w 11 0) → Q v t) : pk_X12_pick a w Q := by
  unfold pk_X12_pick pk_X8_has pk_X4_choose
  have same : ∀ v, Q v w := fun v => k v w ⟨rfl, rfl, rfl, rfl⟩
  have body : ∃ L2 : Int32 → Prop, (L2 (1 : Int32)) ∧ ∀ (x2_2 : Int32), L2 x2_2 → (((w 10 5).toInt ≤ x2_2.toInt → (Q (((w 10 5) + (1 : Int32)) - (1 : Int32)) (upC (upF w 56 (setv 101 (w 56) (w 10 5) a)) 10 5 ((w 10 5) + (1 : Int32))))) ∧ (x2_2.toInt < (w 10 5).toInt → (((atv 101 (w 56) x2_2).toInt ≠ a.toInt → (L2 (x2_2 + 1))) ∧ ((atv 101 (w 56) x2_2).toInt = a.toInt → (Q ((-1) : Int32) w))))) := ⟨fun _ => True, trivial, fun x _ => ⟨fun _ => k _ _ ⟨by rw [rdA_ne (by decide), rdF_ne (by decide)], by rw [rdA_ne (by decide), rdF_ne (by decide)], by rw [rdA_ne (by decide), rdF_ne (by decide)], by rw [rdC_ne (by decide), rdF_ne (by decide)]⟩, fun _ => ⟨fun _ => trivial, fun _ => same _⟩⟩⟩
  exact ⟨fun _ => ⟨fun _ => same _, fun _ => body⟩, fun _ => ⟨fun _ => ⟨fun _ => same _, fun _ => body⟩, fun _ => ⟨fun _ => same _, fun _ => body⟩⟩⟩
theorem ce_pick (h : IVx w o) : wk_X12_pick a w (fun v t => (∃ o, IVx t o) ∧ FQs w t ∧ PCw w a v t ∧ (t 10 2 = w 10 2 ∧ t 10 3 = w 10 3 ∧ t 10 4 = w 10 4 ∧ t 11 0 = w 11 0)) := mg_wk_X12_pick (fun _ _ p q => ⟨p.1, p.2.1, p.2.2, q⟩) (ca_pick h) (px_pickf (Q := fun _ t => t 10 2 = w 10 2 ∧ t 10 3 = w 10 3 ∧ t 10 4 = w 10 4 ∧ t 11 0 = w 11 0) (fun _ _ q => q))
theorem re_pick {Q : Int32 → St → St → List Nat → Prop} (h : GLI σ τ vs) (k : ∀ r s, GLI s τ vs → s 0 2 = σ 0 2 → FMs σ s → FGs σ s → PCm σ a r s ∧ FKs σ s ∧ FNs σ s → Q r s τ vs) : wp_pick a σ τ vs Q := mg_wp_pick (fun r s t z p q => by
  obtain ⟨et, ez, g, f, f2, f3, f4⟩ := p
  rw [et, ez]
  exact k r s g f f2 f3 ⟨f4, q⟩) (ra_pick (Q := fun r s t z => t = τ ∧ z = vs ∧ GLI s τ vs ∧ s 0 2 = σ 0 2 ∧ FMs σ s ∧ FGs σ s ∧ PCm σ a r s) h (fun r s g h2 h3 h4 h5 => ⟨rfl, rfl, g, h2, h3, h4, h5⟩)) (cj_wp_pick (Q := fun _ s _ _ => FKs σ s ∧ FNs σ s) (fun v s t z p q => ⟨p, q⟩) (fk_pp_pick (Q := fun _ s _ _ => FKs σ s) fk_rf (fun _ _ _ _ q => q)) (fn_pp_pick (Q := fun _ s _ _ => FNs σ s) fn_rf (fun _ _ _ _ q => q)))
theorem rlc_pick (hG : GLI σ τ vs) (h : RLc w σ) (ht : ∃ o, IVx t o) (c : FQs w t) (p : PCw w a v t ∧ (t 10 2 = w 10 2 ∧ t 10 3 = w 10 3 ∧ t 10 4 = w 10 4 ∧ t 11 0 = w 11 0)) (m : FMs σ s) (g : FGs σ s) (q : PCm σ a v2 s ∧ FKs σ s ∧ FNs σ s) : v2 = v ∧ RLc t s := by
  obtain ⟨e, r⟩ := rlb_pick hG h.1 ht c p.1 m g q.1
  exact ⟨e, r, lka_same h.2 (fq_row c) p.2.1 p.2.2.1 p.2.2.2.1 (by rw [p.2.2.2.2, q.2.2]; exact h.2.2.2.2.2) q.2.1⟩
/-- input() -/
def IUq (x v y : Int32) : Prop := (4096 ≤ x.toInt → v = -1 ∧ y = x) ∧ (x.toInt < 4096 → v = x + 1 ∧ y = x + 1)
theorem px_inputx : pk_X12_input a w (fun v t => IUq (w 11 0) v (t 11 0)) := by
  unfold pk_X12_input pk_X9_give
  exact ⟨fun c => ⟨fun _ => ⟨rfl, rfl⟩, fun c2 => by omega⟩, fun c => ⟨fun _ _ => ⟨fun c2 => by omega, fun _ => ⟨rfl, rfl⟩⟩, fun c2 => ⟨fun _ => ⟨rfl, rfl⟩, fun c3 => by omega⟩⟩⟩
theorem rx_inputx (h : GLI σ τ vs) : pp_input a σ τ vs (fun r s _ _ => IUq (σ 0 88) r (s 0 88)) := by
  have b := h.2.2.2.2.2.2.1
  unfold pp_input
  exact ⟨fun c _ => ⟨fun c2 => by omega, fun _ => ⟨rfl, rfl⟩⟩, fun c => ⟨fun _ => ⟨rfl, rfl⟩, fun c2 => by omega⟩⟩
theorem ce_input (h : IVx w o) : wk_X12_input a w (fun v t => (∃ o, IVx t o) ∧ FQs w t ∧ FWs w t ∧ IUq (w 11 0) v (t 11 0)) := mg_wk_X12_input (fun _ _ p q => ⟨p.1, p.2.1, p.2.2, q⟩) (ca_input h) px_inputx
theorem re_input {Q : Int32 → St → St → List Nat → Prop} (h : GLI σ τ vs) (k : ∀ r s, GLI s τ vs → s 0 2 = σ 0 2 → FMs σ s → FGs σ s → FHs σ s → IUq (σ 0 88) r (s 0 88) ∧ FKs σ s → Q r s τ vs) : wp_input a σ τ vs Q := mg_wp_input (fun r s t z p q => by
  obtain ⟨et, ez, g, f, f2, f3, f4⟩ := p
  rw [et, ez]
  exact k r s g f f2 f3 f4 q) (ra_input (Q := fun _ s t z => t = τ ∧ z = vs ∧ GLI s τ vs ∧ s 0 2 = σ 0 2 ∧ FMs σ s ∧ FGs σ s ∧ FHs σ s) h (fun r s g h2 h3 h4 h5 => ⟨rfl, rfl, g, h2, h3, h4, h5⟩)) (cj_wp_input (Q := fun v s _ _ => IUq (σ 0 88) v (s 0 88) ∧ FKs σ s) (fun v s t z p q => ⟨p, q⟩) (rx_inputx h) (fk_pp_input (Q := fun _ s _ _ => FKs σ s) fk_rf (fun _ _ _ _ q => q)))
theorem in_eq {x x2 y y2 : Int32} (hx : x.toInt = x2.toInt) (c : IUq x v y) (m : IUq x2 v2 y2) : v2 = v ∧ y.toInt = y2.toInt := by
  have e : x = x2 := ieq hx
  subst e
  by_cases h : 4096 ≤ x.toInt
  · obtain ⟨c1, c2⟩ := c.1 h
    obtain ⟨m1, m2⟩ := m.1 h
    exact ⟨by rw [c1, m1], by rw [c2, m2]⟩
  · obtain ⟨c1, c2⟩ := c.2 (by omega)
    obtain ⟨m1, m2⟩ := m.2 (by omega)
    exact ⟨by rw [c1, m1], by rw [c2, m2]⟩
theorem rlc_input (h : RLc w σ) (c : FQs w t) (c2 : FWs w t ∧ IUq (w 11 0) v (t 11 0)) (m : FMs σ s) (g : FGs σ s) (f : FHs σ s) (q : IUq (σ 0 88) v2 (s 0 88) ∧ FKs σ s) : v2 = v ∧ RLc t s := by
  obtain ⟨e, e2⟩ := in_eq h.2.2.2.2.2 c2.2 q.1
  have r := fw_row c2.1
  exact ⟨e, rlb_frame h.1 c c2.1 m g f, lka_same h.2 (fq_row c) (by rw [r]) (by rw [r]) (by rw [r]) e2 q.2⟩
/-- run() -/
def RNq (r : Prop) (a x y : Int32) : Prop := (¬ (r ∧ 0 ≤ a.toInt ∧ a.toInt ≤ 20000) → y = x) ∧ ((r ∧ 0 ≤ a.toInt ∧ a.toInt ≤ 20000) → y = 0)
theorem ce_run (h : IVx w o) : wk_X12_run a w (fun _ t => (∃ o, IVx t o) ∧ FQs w t ∧ FWs w t ∧ RNq ((w 10 2).toInt ≠ 0) a (w 11 0) (t 11 0)) := mg_wk_X12_run (fun _ _ p q => ⟨p.1, p.2.1, p.2.2, q⟩) (ca_run h) (r8_pk_run (Q := fun _ t => RNq ((w 10 2).toInt ≠ 0) a (w 11 0) (t 11 0)) (fun hn _ => ⟨fun _ => rfl, fun hc => absurd hc hn⟩) (fun hc _ t ht => ⟨fun hn => absurd hc hn, fun _ => ht⟩))
theorem re_run {Q : Int32 → St → St → List Nat → Prop} (h : GLI σ τ vs) (hF : (σ 0 2).toInt ≤ 10240) (k : ∀ r s, GLI s τ vs → s 0 2 = σ 0 2 → FMs σ s → FGs σ s → FHs σ s → RNq (0 ≤ (σ 0 70).toInt) a (σ 0 88) (s 0 88) ∧ FKs σ s → Q r s τ vs) : wp_run a σ τ vs Q := mg_wp_run (fun r s t z p q => by
  obtain ⟨et, ez, g, f, f2, f3, f4⟩ := p
  rw [et, ez]
  exact k r s g f f2 f3 f4 q) (ra_run (Q := fun _ s t z => t = τ ∧ z = vs ∧ GLI s τ vs ∧ s 0 2 = σ 0 2 ∧ FMs σ s ∧ FGs σ s ∧ FHs σ s) h hF (fun r s g h2 h3 h4 h5 => ⟨rfl, rfl, g, h2, h3, h4, h5⟩)) (cj_wp_run (Q := fun _ s _ _ => RNq (0 ≤ (σ 0 70).toInt) a (σ 0 88) (s 0 88) ∧ FKs σ s) (fun v s t z p q => ⟨p, q⟩) (r8_pp_run (Q := fun _ s _ _ => RNq (0 ≤ (σ 0 70).toInt) a (σ 0 88) (s 0 88)) (fun hn _ => ⟨fun _ => rfl, fun hc => absurd hc hn⟩) (fun hc _ s _ _ hs => ⟨fun hn => absurd hc hn, fun _ => hs⟩)) (fk_pp_run (Q := fun _ s _ _ => FKs σ s) fk_rf (fun _ _ _ _ q => q)))
theorem rlc_run (h : RLc w σ) (c : FQs w t) (c2 : FWs w t ∧ RNq ((w 10 2).toInt ≠ 0) a (w 11 0) (t 11 0)) (m : FMs σ s) (g : FGs σ s) (f : FHs σ s) (q : RNq (0 ≤ (σ 0 70).toInt) a (σ 0 88) (s 0 88) ∧ FKs σ s) : RLc t s := by
  have r := fw_row c2.1
  have hr := h.2.2.1
  refine ⟨rlb_frame h.1 c c2.1 m g f, lka_same h.2 (fq_row c) (by rw [r]) (by rw [r]) (by rw [r]) ?_ q.2⟩
  by_cases hc : (w 10 2).toInt ≠ 0 ∧ 0 ≤ a.toInt ∧ a.toInt ≤ 20000
  · rw [c2.2.2 hc, q.1.2 ⟨hr.1 hc.1, hc.2⟩]
  · rw [c2.2.1 hc, q.1.1 (fun hm => hc ⟨hr.2 hm.1, hm.2⟩)]
    exact h.2.2.2.2.2
/-- link() -/
theorem ce_link (h : IVx w o) (K : LKx w σ τ vs o) : wk_X12_link w (fun v t => (∃ o, IVx t o) ∧ FQs w t ∧ (t 10 5).toInt = 1 ∧ LNc w v t) := mg_wk_X12_link (fun _ _ p q => ⟨p.1, p.2.1, p.2.2, q⟩) (ca_link h) (px_linkx (Q := fun v t => LNc w v t) h (ds_eq K).2 (fun _ _ q => q))
theorem re_link {Q : Int32 → St → St → List Nat → Prop} (h : GLI σ τ vs) (hF : (σ 0 2).toInt ≤ 10240) (k : ∀ r s, GLI s τ vs → s 0 2 = σ 0 2 → FMs σ s → FGs σ s → (s 0 67).toInt = 0 ∧ LNm σ r s → Q r s τ vs) : wp_link σ τ vs Q := mg_wp_link (fun r s t z p q => by
  obtain ⟨et, ez, g, f, f2, f3, f4⟩ := p
  rw [et, ez]
  exact k r s g f f2 f3 ⟨f4, q⟩) (ra_link (Q := fun _ s t z => t = τ ∧ z = vs ∧ GLI s τ vs ∧ s 0 2 = σ 0 2 ∧ FMs σ s ∧ FGs σ s ∧ (s 0 67).toInt = 0) h hF (fun r s g h2 h3 h4 h5 => ⟨rfl, rfl, g, h2, h3, h4, h5⟩)) (rx_linkx (Q := fun v s _ _ => LNm σ v s) h hF (fun _ _ q => q))
theorem lkx_of (h : IVx w o) (hG : GLI σ τ vs) (r : RLc w σ) : LKx w σ τ vs o := ⟨h, hG, r.1.1.1, r.1.1.2.1, r.1.1.2.2, r.1.2⟩
theorem rlc_link (K : LKx w σ τ vs o) (h : RLc w σ) (c : FQs w t) (c2 : (t 10 5).toInt = 1 ∧ LNc w v t) (m : FMs σ s) (g : FGs σ s) (f : (s 0 67).toInt = 0 ∧ LNm σ v2 s) : v2 = v ∧ RLc t s := by
  obtain ⟨e, k⟩ := ln_eq K h.2 c2.2 f.2
  exact ⟨e.symm, rlb_link h.1 c c2.1 m g f.1, k⟩
/-- compile() -/
theorem cmz_lk (h : CMPz a σ s) : FKs σ s ∧ FNs σ s := by
  rcases h with ⟨_, es⟩ | ⟨_, lo, σ0, s1, v1, _, _, _, _, _, kx, _, _, hfin⟩
  · rw [es]
    exact ⟨⟨rfl, rfl, rfl⟩, rfl⟩
  · have q : ∀ j, 70 ≤ j → j ≤ 72 ∨ j = 88 → s 0 j = σ 0 j := fun j j1 j2 => by
      have e : s1 0 j = σ 0 j := kx 0 j (by
        simp only [List.contains_cons, List.contains_nil, Bool.or_false, Bool.or_eq_false_iff, beq_eq_false_iff_ne, ne_eq, Prod.mk.injEq, not_and]
        omega) rfl
      rcases hfin with ⟨_, es⟩ | ⟨_, es⟩
      · rw [es, rdC_ne (by decide), rdC_ne (by decide), rdA_ne (by omega), rdC_ne (by decide)]
        exact e
      · rw [es, rdA_ne (by omega), rdA_ne (by omega), rdA_ne (by omega), rdA_ne (by omega), rdA_ne (by omega)]
        exact e
    exact ⟨⟨q 70 (by decide) (by decide), q 71 (by decide) (by decide), q 72 (by decide) (by decide)⟩, q 88 (by decide) (by decide)⟩
theorem ce_compile (h : IVx w o) (hG : GLI σ τ vs) (r : RLc w σ) : wk_X12_compile a w (fun _ t => (∃ o, IVx t o) ∧ ∀ s : St, CMPz a σ s → (s 0 1).toInt = 0 → s 0 2 = σ 0 2 → RLc t s) := mg_wk_X12_compile (fun _ t p q => ⟨p.1, fun s c h1 h2 => ⟨p.2 s c h1 h2, lka_same r.2 (q 55 (by omega)) (by rw [q 10 (by omega)]) (by rw [q 10 (by omega)]) (by rw [q 10 (by omega)]) (by rw [q 11 (by omega), (cmz_lk c).2]; exact r.2.2.2.2.2) (cmz_lk c).1⟩⟩) (cb_compile h hG r.1) (pl_cim (Q := fun _ t => ∀ c, (c = 10 ∨ c = 11 ∨ c = 12 ∨ (55 ≤ c ∧ c ≤ 64)) → t c = w c) h (fun _ _ q => q))
/-- cell(), the reference -/
theorem re_cell {Q : Int32 → St → St → List Nat → Prop} (h : GLI σ τ vs) (k : ∀ r s, GLI s τ vs → (s 0 1).toInt = 0 → s 0 2 = σ 0 2 → FCs σ s → FGs σ s → FHs σ s → FKs σ s → FNs σ s → Q r s τ vs) : wp_cell σ τ vs Q := mg_wp_cell (fun r s t z p q => by
  obtain ⟨et, ez, g, f, f2, f3, f4, f5⟩ := p
  rw [et, ez]
  exact k r s g f f2 f3 f4 f5 q.1 q.2) (ra_cell (Q := fun _ s t z => t = τ ∧ z = vs ∧ GLI s τ vs ∧ (s 0 1).toInt = 0 ∧ s 0 2 = σ 0 2 ∧ FCs σ s ∧ FGs σ s ∧ FHs σ s) h (fun r s g h1 h2 h3 h4 h5 => ⟨rfl, rfl, g, h1, h2, h3, h4, h5⟩)) (cj_wp_cell (Q := fun _ s _ _ => FKs σ s ∧ FNs σ s) (fun v s t z p q => ⟨p, q⟩) (fk_pp_cell (Q := fun _ s _ _ => FKs σ s) fk_rf (fun _ _ _ _ q => q)) (fn_pp_cell (Q := fun _ s _ _ => FNs σ s) fn_rf (fun _ _ _ _ q => q)))
/-- fault() -/
def FAw (x0 x1 a : Int32) : Int32 := if a.toInt = 0 then x0 else if a.toInt = 1 then x1 else -1
theorem ce_fault : wk_X12_fault a w (fun v => v = FAw (w 10 3) (w 10 4) a) := by
  unfold wk_X12_fault FAw
  exact ⟨fun c => ⟨fun c1 => by rw [if_neg c, if_neg c1], fun c1 => by rw [if_neg c, if_pos c1]⟩, fun c => by rw [if_pos c]⟩
theorem re_fault : wp_fault a σ τ vs (fun v => v = FAw (σ 0 71) (σ 0 72) a) := by
  unfold wp_fault FAw
  exact ⟨fun c => ⟨fun c1 => by rw [if_neg c, if_neg c1], fun c1 => by rw [if_neg c, if_pos c1]⟩, fun c => by rw [if_pos c]⟩
theorem fa_eq (h : RLc w σ) (c : v = FAw (w 10 3) (w 10 4) a) (m : v2 = FAw (σ 0 71) (σ 0 72) a) : v2 = v := by
  rw [c, m, ieq h.2.2.2.1, ieq h.2.2.2.2.1]
end CLC
end

