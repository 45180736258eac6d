section
/-! partial formulas: rows -/
theorem cj_wp_item {σ : St} {τ : St} {vs : List Nat} {Q1 Q2 Q : St → St → List Nat → Prop} {T1 T2 T : St → St → List Nat → Prop} (kQ : (∀ (v0 : St) (v1 : St) (v2 : List Nat), Q1 v0 v1 v2 → Q2 v0 v1 v2 → Q v0 v1 v2)) (kT : (∀ (v0 : St) (v1 : St) (v2 : List Nat), T1 v0 v1 v2 → T2 v0 v1 v2 → T v0 v1 v2)) (h1 : pp_item σ τ vs Q1 T1) (h2 : pp_item σ τ vs Q2 T2) : pp_item σ τ vs Q T := by
  unfold pp_item at h1 h2 ⊢
  exact (cj_wp_isWord  (fun v3 u1 u2 => (cj_wp_isWord  (fun v10 u3 u4 => (u3.elim fun J8 hh9 => u4.elim fun J10 hh11 => ⟨(fun x5 x6 x7 => (J8 x5 x6 x7 ∧ J10 x5 x6 x7)), ⟨(fun s32 t32 z32 => (fun j12 => (fun c13 => ⟨(fun c14 => (fun c15 => ⟨(fun c16 => (cj_wp_stars  (fun v131 s131 t131 z131 u17 u18 => (fun c19 => ⟨(fun c20 => (cj_wp_is  (fun v173 u21 u22 => ⟨(fun c23 => (cj_wp_variables  (fun s198 t198 z198 u24 u25 => (kQ _ _ _ u24 u25)) kT (u21.1 c23) (u22.1 c23))), (fun c26 => (cj_wp_function  (fun s185 t185 z185 u27 u28 => (kQ _ _ _ u27 u28)) kT (u21.2 c26) (u22.2 c26)))⟩) ((u17 c19).1 c20) ((u18 c19).1 c20))), (fun c29 => (cj_wp_wrong  (fun s150 t150 z150 u30 u31 => (kT _ _ _ u30 u31)) ((u17 c19).2 c29) ((u18 c19).2 c29)))⟩)) kT ((((((hh9.1 s32 t32 z32) j12.1) c13).1 c14) c15).1 c16) ((((((hh11.1 s32 t32 z32) j12.2) c13).1 c14) c15).1 c16))), (fun c32 => (cj_wp_wrong  (fun s111 t111 z111 u33 u34 => (kT _ _ _ u33 u34)) ((((((hh9.1 s32 t32 z32) j12.1) c13).1 c14) c15).2 c32) ((((((hh11.1 s32 t32 z32) j12.2) c13).1 c14) c15).2 c32)))⟩)), (fun c35 => (fun c36 => ⟨(fun c37 => (cj_wp_function  (fun s93 t93 z93 u38 u39 => (kQ _ _ _ u38 u39)) kT ((((((hh9.1 s32 t32 z32) j12.1) c13).2 c35) c36).1 c37) ((((((hh11.1 s32 t32 z32) j12.2) c13).2 c35) c36).1 c37))), (fun c40 => (cj_wp_wrong  (fun s70 t70 z70 u41 u42 => (kT _ _ _ u41 u42)) ((((((hh9.1 s32 t32 z32) j12.1) c13).2 c35) c36).2 c40) ((((((hh11.1 s32 t32 z32) j12.2) c13).2 c35) c36).2 c40)))⟩))⟩))), (hh9.2.elim fun J43 hh44 => hh11.2.elim fun J45 hh46 => ⟨(J43 ∧ J45), ⟨(fun j47 => ⟨(hh44.1 j47.1), (hh46.1 j47.2)⟩), ⟨(fun c48 => ⟨(hh44.2.1 c48), (hh46.2.1 c48)⟩), (fun c49 => ⟨(fun c50 => ⟨((hh44.2.2 c49).1 c50), ((hh46.2.2 c49).1 c50)⟩), (fun c51 => ⟨((hh44.2.2 c49).2 c51), ((hh46.2.2 c49).2 c51)⟩)⟩)⟩⟩⟩)⟩⟩)) u1 u2)) h1 h2)
theorem wl_wp_read_0 {σ : St} {τ : St} {vs : List Nat} {Q1 Q : Int32 → St → St → List Nat → Prop} (kQ : ∀ (v0 : Int32) (v1 : St) (v2 : St) (v3 : List Nat), Q1 v0 v1 v2 v3 → Q v0 v1 v2 v3) (h1 : wp_read_0 σ τ vs Q1) : pp_read_0 σ τ vs Q := by
  unfold wp_read_0 at h1
  unfold pp_read_0
  exact (wl_wp_cut  (fun s1 t1 z1 u1 => (u1.elim fun J6 hh7 => ⟨(fun x3 x4 x5 => ∃ n9, J6 n9 x3 x4 x5), hh7.1, fun s9 t9 z9 l8 => (l8.elim fun n9 l8b => (fun _ => ⟨(fun c11 => (wl_wp_bodiless  (fun s54 t54 z54 u12 => ⟨(fun c13 => (kQ _ _ _ _ (u12.1 c13))), (fun c14 => (kQ _ _ _ _ (u12.2 c14)))⟩) ((hh7.2 n9 s9 t9 z9 l8b).2.1 c11))), (fun c15 => (fun _ => ⟨(fun c17 => (wl_wp_item  (fun s40 t40 z40 u18 => (u18.elim fun ma la => ⟨ma, la.2⟩)) (fun s40x t40x z40x u19 => (kQ _ _ _ _ u19)) (((hh7.2 n9 s9 t9 z9 l8b).2.2 c15).2.1 c17))), (fun c20 => (wl_wp_wrong  (fun s35 t35 z35 u21 => (kQ _ _ _ _ u21)) (((hh7.2 n9 s9 t9 z9 l8b).2.2 c15).2.2 c20)))⟩))⟩))⟩)) h1)
theorem mg_wp_read_0 {σ : St} {τ : St} {vs : List Nat} {Q1 Q2 Q : Int32 → St → St → List Nat → Prop} (kQ : (∀ (v0 : Int32) (v1 : St) (v2 : St) (v3 : List Nat), Q1 v0 v1 v2 v3 → Q2 v0 v1 v2 v3 → Q v0 v1 v2 v3)) (h1 : wp_read_0 σ τ vs Q1) (h2 : pp_read_0 σ τ vs Q2) : wp_read_0 σ τ vs Q := by
  unfold wp_read_0 at h1 ⊢
  unfold pp_read_0 at h2
  exact (mg_wp_cut  (fun s1 t1 z1 u1 u2 => (u1.elim fun J7 hh8 => u2.elim fun J10 hh11 => ⟨(fun x3 x4 x5 x6 => J7 x3 x4 x5 x6 ∧ J10 x4 x5 x6), (hh8.1.elim fun na la => ⟨na, la, hh11.1⟩), fun n9 s9 t9 z9 l9 => ⟨(hh8.2 n9 s9 t9 z9 l9.1).1, ⟨(fun c13 => (mg_wp_bodiless  (fun s54 t54 z54 u14 u15 => ⟨(fun c16 => (kQ _ _ _ _ (u14.1 c16) (u15.1 c16))), (fun c17 => (kQ _ _ _ _ (u14.2 c17) (u15.2 c17)))⟩) ((hh8.2 n9 s9 t9 z9 l9.1).2.1 c13) (((hh11.2 s9 t9 z9 l9.2) (hh8.2 n9 s9 t9 z9 l9.1).1).1 c13))), (fun c18 => ⟨((hh8.2 n9 s9 t9 z9 l9.1).2.2 c18).1, ⟨(fun c20 => (mg_wp_item  (fun s40 t40 z40 u21 u22 => (u21.elim fun ma la => ⟨ma, la.1, la.2, u22⟩)) (fun s40x t40x z40x u23 u24 => (kQ _ _ _ _ u23 u24)) (((hh8.2 n9 s9 t9 z9 l9.1).2.2 c18).2.1 c20) (((((hh11.2 s9 t9 z9 l9.2) (hh8.2 n9 s9 t9 z9 l9.1).1).2 c18) ((hh8.2 n9 s9 t9 z9 l9.1).2.2 c18).1).1 c20))), (fun c25 => (mg_wp_wrong  (fun s35 t35 z35 u26 u27 => (kQ _ _ _ _ u26 u27)) (((hh8.2 n9 s9 t9 z9 l9.1).2.2 c18).2.2 c25) (((((hh11.2 s9 t9 z9 l9.2) (hh8.2 n9 s9 t9 z9 l9.1).1).2 c18) ((hh8.2 n9 s9 t9 z9 l9.1).2.2 c18).1).2 c25)))⟩⟩)⟩⟩⟩)) h1 h2)
theorem cj_wp_read_0 {σ : St} {τ : St} {vs : List Nat} {Q1 Q2 Q : Int32 → St → St → List Nat → Prop} (kQ : (∀ (v0 : Int32) (v1 : St) (v2 : St) (v3 : List Nat), Q1 v0 v1 v2 v3 → Q2 v0 v1 v2 v3 → Q v0 v1 v2 v3)) (h1 : pp_read_0 σ τ vs Q1) (h2 : pp_read_0 σ τ vs Q2) : pp_read_0 σ τ vs Q := by
  unfold pp_read_0 at h1 h2 ⊢
  exact (cj_wp_cut  (fun s1 t1 z1 u1 u2 => (u1.elim fun J7 hh8 => u2.elim fun J10 hh11 => ⟨(fun x4 x5 x6 => J7 x4 x5 x6 ∧ J10 x4 x5 x6), ⟨hh8.1, hh11.1⟩, fun s9 t9 z9 l9 => (fun c12 => ⟨(fun c13 => (cj_wp_bodiless  (fun s54 t54 z54 u14 u15 => ⟨(fun c16 => (kQ _ _ _ _ (u14.1 c16) (u15.1 c16))), (fun c17 => (kQ _ _ _ _ (u14.2 c17) (u15.2 c17)))⟩) (((hh8.2 s9 t9 z9 l9.1) c12).1 c13) (((hh11.2 s9 t9 z9 l9.2) c12).1 c13))), (fun c18 => (fun c19 => ⟨(fun c20 => (cj_wp_item  (fun s40 t40 z40 u21 u22 => ⟨u21, u22⟩) (fun s40x t40x z40x u23 u24 => (kQ _ _ _ _ u23 u24)) (((((hh8.2 s9 t9 z9 l9.1) c12).2 c18) c19).1 c20) (((((hh11.2 s9 t9 z9 l9.2) c12).2 c18) c19).1 c20))), (fun c25 => (cj_wp_wrong  (fun s35 t35 z35 u26 u27 => (kQ _ _ _ _ u26 u27)) (((((hh8.2 s9 t9 z9 l9.1) c12).2 c18) c19).2 c25) (((((hh11.2 s9 t9 z9 l9.2) c12).2 c18) c19).2 c25)))⟩))⟩)⟩)) h1 h2)
theorem wl_wp_compile {a1 : Int32} {σ : St} {τ : St} {vs : List Nat} {Q1 Q : Int32 → St → St → List Nat → Prop} (kQ : ∀ (v0 : Int32) (v1 : St) (v2 : St) (v3 : List Nat), Q1 v0 v1 v2 v3 → Q v0 v1 v2 v3) (h1 : wp_compile a1 σ τ vs Q1) : pp_compile a1 σ τ vs Q := by
  unfold wp_compile at h1
  unfold pp_compile
  exact ⟨(fun c1 => (kQ _ _ _ _ (h1.1 c1))), (fun c2 => ⟨(fun c3 => (kQ _ _ _ _ ((h1.2 c2).1 c3))), (fun c4 => ⟨(fun c5 => (fun _ => (fun _ => (wl_wp_read_0  (fun v118 s118 t118 z118 u8 => ⟨(fun c9 => (fun _ => (fun _ => (fun _ => (kQ _ _ _ _ (u8.1 c9).2.2.2))))), (fun c13 => (fun _ => (kQ _ _ _ _ (u8.2 c13).2)))⟩) (((h1.2 c2).2 c4).1 c5).2.2)))), (fun c15 => (kQ _ _ _ _ (((h1.2 c2).2 c4).2 c15)))⟩)⟩)⟩
theorem mg_wp_compile {a1 : Int32} {σ : St} {τ : St} {vs : List Nat} {Q1 Q2 Q : Int32 → St → St → List Nat → Prop} (kQ : (∀ (v0 : Int32) (v1 : St) (v2 : St) (v3 : List Nat), Q1 v0 v1 v2 v3 → Q2 v0 v1 v2 v3 → Q v0 v1 v2 v3)) (h1 : wp_compile a1 σ τ vs Q1) (h2 : pp_compile a1 σ τ vs Q2) : wp_compile a1 σ τ vs Q := by
  unfold wp_compile at h1 ⊢
  unfold pp_compile at h2
  exact ⟨(fun c1 => (kQ _ _ _ _ (h1.1 c1) (h2.1 c1))), (fun c2 => ⟨(fun c3 => (kQ _ _ _ _ ((h1.2 c2).1 c3) ((h2.2 c2).1 c3))), (fun c4 => ⟨(fun c5 => ⟨(((h1.2 c2).2 c4).1 c5).1, ⟨(((h1.2 c2).2 c4).1 c5).2.1, (mg_wp_read_0  (fun v118 s118 t118 z118 u8 u9 => ⟨(fun c10 => ⟨(u8.1 c10).1, ⟨(u8.1 c10).2.1, ⟨(u8.1 c10).2.2.1, (kQ _ _ _ _ (u8.1 c10).2.2.2 ((((u9.1 c10) (u8.1 c10).1) (u8.1 c10).2.1) (u8.1 c10).2.2.1))⟩⟩⟩), (fun c14 => ⟨(u8.2 c14).1, (kQ _ _ _ _ (u8.2 c14).2 ((u9.2 c14) (u8.2 c14).1))⟩)⟩) (((h1.2 c2).2 c4).1 c5).2.2 (((((h2.2 c2).2 c4).1 c5) (((h1.2 c2).2 c4).1 c5).1) (((h1.2 c2).2 c4).1 c5).2.1))⟩⟩), (fun c16 => (kQ _ _ _ _ (((h1.2 c2).2 c4).2 c16) (((h2.2 c2).2 c4).2 c16)))⟩)⟩)⟩
theorem cj_wp_compile {a1 : Int32} {σ : St} {τ : St} {vs : List Nat} {Q1 Q2 Q : Int32 → St → St → List Nat → Prop} (kQ : (∀ (v0 : Int32) (v1 : St) (v2 : St) (v3 : List Nat), Q1 v0 v1 v2 v3 → Q2 v0 v1 v2 v3 → Q v0 v1 v2 v3)) (h1 : pp_compile a1 σ τ vs Q1) (h2 : pp_compile a1 σ τ vs Q2) : pp_compile a1 σ τ vs Q := by
  unfold pp_compile at h1 h2 ⊢
  exact ⟨(fun c1 => (kQ _ _ _ _ (h1.1 c1) (h2.1 c1))), (fun c2 => ⟨(fun c3 => (kQ _ _ _ _ ((h1.2 c2).1 c3) ((h2.2 c2).1 c3))), (fun c4 => ⟨(fun c5 => (fun c6 => (fun c7 => (cj_wp_read_0  (fun v118 s118 t118 z118 u8 u9 => ⟨(fun c10 => (fun c11 => (fun c12 => (fun c13 => (kQ _ _ _ _ ((((u8.1 c10) c11) c12) c13) ((((u9.1 c10) c11) c12) c13)))))), (fun c14 => (fun c15 => (kQ _ _ _ _ ((u8.2 c14) c15) ((u9.2 c14) c15))))⟩) (((((h1.2 c2).2 c4).1 c5) c6) c7) (((((h2.2 c2).2 c4).1 c5) c6) c7))))), (fun c16 => (kQ _ _ _ _ (((h1.2 c2).2 c4).2 c16) (((h2.2 c2).2 c4).2 c16)))⟩)⟩)⟩
end

section
/-! tokens as a text tells them -/
def byt (f : Nat → Int32) (N i : Int) : Int := if 0 ≤ i ∧ i < N then ((f i.toNat) &&& (255 : Int32)).toInt else -1
abbrev LTq (c : Int) : Prop := (97 ≤ c ∧ c ≤ 122) ∨ (65 ≤ c ∧ c ≤ 90) ∨ c = 95
abbrev DGq (c : Int) : Prop := 48 ≤ c ∧ c ≤ 57
abbrev NDq (c : Int) : Prop := ((97 ≤ c ∧ c ≤ 122) ∨ (65 ≤ c ∧ c ≤ 90) ∨ c = 95) ∨ (48 ≤ c ∧ c ≤ 57)
abbrev AOq (c : Int) : Prop := (32 ≤ c ∧ c ≤ 126) ∨ c = 9 ∨ c = 10 ∨ c = 13
abbrev BKq (c : Int) : Prop := c = 9 ∨ c = 10 ∨ c = 13 ∨ c = 32
def hxq (c : Int) : Int := if 48 ≤ c ∧ c ≤ 57 then c - 48 else if 97 ≤ c ∧ c ≤ 102 then c - 87 else if 65 ≤ c ∧ c ≤ 70 then c - 55 else -1
abbrev HXq (c : Int) : Prop := (48 ≤ c ∧ c ≤ 57) ∨ (97 ≤ c ∧ c ≤ 102) ∨ (65 ≤ c ∧ c ≤ 70)
def cdq (b : Int → Int) (q i : Int) : Int := if b i = 92 then (if b (i + 1) = 34 ∨ b (i + 1) = 39 ∨ b (i + 1) = 92 then b (i + 1) else if b (i + 1) = 48 then 0 else if b (i + 1) = 110 then 10 else -1) else if 32 ≤ b i ∧ b i ≤ 126 ∧ b i ≠ q then b i else -1
def wdq (b : Int → Int) (i : Int) : Int := if b i = 92 then 2 else 1
def ENq (P : Int → Prop) (b : Int → Int) (p e : Int) : Prop := p ≤ e ∧ (∀ i, p ≤ i → i < e → P (b i)) ∧ ¬ P (b e)
def bWd (w : Nat) : Nat := ([0, 4, 9, 16, 23, 26, 31, 37, 40, 44, 50, 59] : List Nat).getD w 66
def lWd (w : Nat) : Nat := ([3, 4, 6, 6, 2, 4, 5, 2, 3, 5, 8, 6] : List Nat).getD w 0
def bSg (w : Nat) : Nat := ([0, 2, 4, 6, 8, 10, 12, 14, 16, 18, 20, 22, 26, 30, 33, 36, 39, 42, 45, 48, 51, 54, 57, 60, 62, 64, 66, 68, 70, 72, 74, 76, 79, 82, 84, 86, 89, 92, 95, 98, 100, 102, 105] : List Nat).getD w 108
def lSg (w : Nat) : Nat := ([1, 1, 1, 1, 1, 1, 1, 1, 1, 1, 1, 3, 3, 2, 2, 2, 2, 2, 2, 2, 2, 2, 2, 1, 1, 1, 1, 1, 1, 1, 1, 2, 2, 1, 1, 2, 2, 2, 2, 1, 1, 2, 2] : List Nat).getD w 0
/-- word w, sign w, stands at p with n bytes -/
def WMq (b : Int → Int) (p n : Int) (w : Nat) : Prop := w < 12 ∧ (lWd w : Int) = n ∧ ∀ i : Nat, i < lWd w → b (p + i) = (chI (gC 2 (bWd w + i))).toInt
def SMq (b : Int → Int) (p n : Int) (w : Nat) : Prop := w < 43 ∧ (lSg w : Int) = n ∧ ∀ i : Nat, i < lSg w → b (p + i) = (chI (gC 3 (bSg w + i))).toInt
def hvq (b : Int → Int) (p : Int) : Nat → Int32
  | 0 => 0
  | n + 1 => hvq b p n * 16 + Int32.ofInt (hxq (b (p + n)))
def dvq (b : Int → Int) (p : Int) : Nat → Int
  | 0 => 0
  | n + 1 => dvq b p n * 10 + (b (p + n) - 48)
def spq (b : Int → Int) (p : Int) : Nat → Int
  | 0 => p + 1
  | n + 1 => spq b p n + wdq b (spq b p n)
def STq (b : Int → Int) (p : Int) (n : Nat) : Prop := n ≤ 200 ∧ (∀ j, j < n → b (spq b p j) ≠ 34 ∧ 0 ≤ cdq b 34 (spq b p j)) ∧ b (spq b p n) = 34
def SBq (b : Int → Int) (p : Int) : Prop := ∃ n, n ≤ 200 ∧ (∀ j, j < n → b (spq b p j) ≠ 34 ∧ 0 ≤ cdq b 34 (spq b p j)) ∧ b (spq b p n) ≠ 34 ∧ (cdq b 34 (spq b p n) < 0 ∨ n = 200)
abbrev HSq (b : Int → Int) (p : Int) : Prop := b p = 48 ∧ b (p + 1) = 120 ∧ HXq (b (p + 2))
/-- a token of kind k and value v stands at p up to e -/
def TOKq (b : Int → Int) (p : Int) (k v : Int32) (e : Int) : Prop :=
  if LTq (b p) then ENq NDq b p e ∧ e - p ≤ 24 ∧ v.toInt = e - p ∧ ((∃ w, WMq b p (e - p) w ∧ k.toInt = 5 + w) ∨ ((∀ w, ¬ WMq b p (e - p) w) ∧ k.toInt = 2))
  else if DGq (b p) then
    (if HSq b p then ENq HXq b (p + 2) e ∧ e - p ≤ 10 ∧ k.toInt = 3 ∧ v = hvq b (p + 2) (e - p - 2).toNat
    else ENq DGq b p e ∧ dvq b p (e - p).toNat ≤ 2147483647 ∧ k.toInt = 3 ∧ v.toInt = dvq b p (e - p).toNat)
  else if b p = 39 then 0 ≤ cdq b 39 (p + 1) ∧ b (p + 1 + wdq b (p + 1)) = 39 ∧ e = p + 2 + wdq b (p + 1) ∧ k.toInt = 3 ∧ v.toInt = cdq b 39 (p + 1)
  else if b p = 34 then ∃ n : Nat, STq b p n ∧ e = spq b p n + 1 ∧ k.toInt = 4 ∧ v.toInt = n
  else ∃ w, SMq b p (e - p) w ∧ (∀ w' n, SMq b p n w' → n ≤ e - p) ∧ k.toInt = 20 + w ∧ v = 0
/-- what stands at p is no token -/
def BADq (b : Int → Int) (p : Int) : Prop :=
  0 ≤ b p ∧ if LTq (b p) then ∃ e, ENq NDq b p e ∧ 24 < e - p
  else if DGq (b p) then
    (if HSq b p then ∃ e, ENq HXq b (p + 2) e ∧ 10 < e - p
    else ∃ e, ENq DGq b p e ∧ 2147483647 < dvq b p (e - p).toNat)
  else if b p = 39 then cdq b 39 (p + 1) < 0 ∨ b (p + 1 + wdq b (p + 1)) ≠ 39
  else if b p = 34 then SBq b p
  else ∀ w n, ¬ SMq b p n w
abbrev CMq (b : Int → Int) (p : Int) : Prop := b p = 47 ∧ (b (p + 1) = 47 ∨ b (p + 1) = 42)
abbrev INl (c : Int) : Prop := ((32 ≤ c ∧ c ≤ 126) ∨ c = 9 ∨ c = 10 ∨ c = 13) ∧ c ≠ 10
def CMe (b : Int → Int) (p e : Int) : Prop := p + 2 ≤ e ∧ (∀ i, p + 2 ≤ i → i < e → AOq (b i) ∧ ¬ (b i = 42 ∧ b (i + 1) = 47)) ∧ (AOq (b e) → b e = 42 ∧ b (e + 1) = 47)
/-- a blank at p, up to e -/
def BLq (b : Int → Int) (p e : Int) : Prop :=
  if b p = 47 then (if b (p + 1) = 47 then ENq INl b p e ∧ (b e = 10 ∨ b e < 0) else b (p + 1) = 42 ∧ ∃ i, CMe b p i ∧ AOq (b i) ∧ e = i + 2)
  else BKq (b p) ∧ e = p + 1
/-- a blank at p that is none -/
def BBq (b : Int → Int) (p : Int) : Prop := b p = 47 ∧ if b (p + 1) = 47 then ∃ e, ENq INl b p e ∧ ¬ AOq (b e) ∧ 0 ≤ b e else b (p + 1) = 42 ∧ ∃ i, CMe b p i ∧ ¬ AOq (b i)
abbrev TSq : Type := Int × List (Int32 × Int32 × Int)
def STPq (b : Int → Int) (x y : TSq) : Prop := (BLq b x.1 y.1 ∧ y.2 = x.2) ∨ ((0 ≤ b x.1 ∧ ¬ BKq (b x.1) ∧ ¬ CMq b x.1) ∧ ∃ k v e, TOKq b x.1 k v e ∧ y = (e, x.2 ++ [(k, v, x.1)]))
/-- what the tokens end with: 0 the text's end, 1 no token -/
def FINq (b : Int → Int) (p : Int) (c : Int32) : Prop := (b p < 0 ∧ c = 0) ∨ ((BBq b p ∨ ((¬ BKq (b p) ∧ ¬ CMq b p) ∧ BADq b p)) ∧ c = 1)
def RCHq (b : Int → Int) (x y : TSq) : Prop := ∀ S : TSq → Prop, S x → (∀ u v, S u → STPq b u v → S v) → S y
section TQ
variable {b : Int → Int} {p e e' n n' : Int} {k k' v v' c c' : Int32} {x y z : TSq} {P : Int → Prop} {w w' m m' : Nat}
theorem b255 (x : Int32) : 0 ≤ (x &&& (255 : Int32)).toInt ∧ (x &&& (255 : Int32)).toInt ≤ 255 := by
  have h : (x &&& (255 : Int32)).toBitVec.toNat ≤ 255 := by
    rw [Int32.toBitVec_and, BitVec.toNat_and]
    exact Nat.and_le_right
  have e : (x &&& (255 : Int32)).toInt = ((x &&& (255 : Int32)).toBitVec.toNat : Int) := BitVec.toInt_eq_toNat_of_lt (by omega)
  omega
theorem byt_in {f : Nat → Int32} {N i : Int} (h : 0 ≤ byt f N i) : 0 ≤ i ∧ i < N := by
  unfold byt at h
  by_cases c : 0 ≤ i ∧ i < N
  · exact c
  · rw [if_neg c] at h
    omega
theorem byt_pos {f : Nat → Int32} {N i : Int} (h : 0 ≤ i ∧ i < N) : 0 ≤ byt f N i := by
  rw [byt, if_pos h]
  exact (b255 _).1
theorem byt_ge {f : Nat → Int32} {N i : Int} : -1 ≤ byt f N i ∧ byt f N i ≤ 255 := by
  unfold byt
  by_cases c : 0 ≤ i ∧ i < N
  · rw [if_pos c]
    have := b255 (f i.toNat)
    omega
  · rw [if_neg c]
    omega
theorem en_one (h : ENq P b p e) (h' : ENq P b p e') : e = e' := by
  obtain ⟨a1, a2, a3⟩ := h
  obtain ⟨c1, c2, c3⟩ := h'
  by_cases q : e < e'
  · exact absurd (c2 e a1 q) a3
  by_cases q' : e' < e
  · exact absurd (a2 e' c1 q') c3
  omega
theorem wd_tab : ∀ w, w < 12 → ∀ w', w' < 12 → lWd w = lWd w' → (∀ i, i < 8 → i < lWd w → (chI (gC 2 (bWd w + i))).toInt = (chI (gC 2 (bWd w' + i))).toInt) → w = w' := by decide +kernel
theorem sg_tab : ∀ w, w < 43 → ∀ w', w' < 43 → lSg w = lSg w' → (∀ i, i < 3 → i < lSg w → (chI (gC 3 (bSg w + i))).toInt = (chI (gC 3 (bSg w' + i))).toInt) → w = w' := by decide +kernel
theorem sg_len : ∀ w, w < 43 → 1 ≤ lSg w ∧ lSg w ≤ 3 := by decide
theorem wd_len : ∀ w, w < 12 → 1 ≤ lWd w ∧ lWd w ≤ 8 := by decide
theorem wm_one (h : WMq b p n w) (h' : WMq b p n w') : w = w' := by
  refine wd_tab w h.1 w' h'.1 (by have := h.2.1; have := h'.2.1; omega) (fun i _ hi => ?_)
  rw [← h.2.2 i hi, ← h'.2.2 i (by have := h.2.1; have := h'.2.1; omega)]
theorem sm_one (h : SMq b p n w) (h' : SMq b p n w') : w = w' := by
  refine sg_tab w h.1 w' h'.1 (by have := h.2.1; have := h'.2.1; omega) (fun i _ hi => ?_)
  rw [← h.2.2 i hi, ← h'.2.2 i (by have := h.2.1; have := h'.2.1; omega)]
theorem st_one (h : STq b p m) (h' : STq b p m') : m = m' := by
  by_cases q : m < m'
  · exact absurd h.2.2 (h'.2.1 m q).1
  by_cases q' : m' < m
  · exact absurd h'.2.2 (h.2.1 m' q').1
  omega
theorem st_sb (h : STq b p m) (h' : SBq b p) : False := by
  obtain ⟨i, i1, i2, i3, i4⟩ := h'
  by_cases q : m < i
  · exact (i2 m q).1 h.2.2
  by_cases q' : i < m
  · have := (h.2.1 i q').2
    have := h.1
    omega
  have e : i = m := by omega
  rw [e] at i3
  exact i3 h.2.2
theorem cm_one (h : CMe b p e) (h' : CMe b p e') : e = e' := by
  obtain ⟨a1, a2, a3⟩ := h
  obtain ⟨c1, c2, c3⟩ := h'
  by_cases q : e < e'
  · have := c2 e a1 q
    exact absurd (a3 this.1) this.2
  by_cases q' : e' < e
  · have := a2 e' c1 q'
    exact absurd (c3 this.1) this.2
  omega
theorem tok_one (h : TOKq b p k v e) (h' : TOKq b p k' v' e') : k = k' ∧ v = v' ∧ e = e' := by
  unfold TOKq at h h'
  by_cases c1 : LTq (b p)
  · rw [if_pos c1] at h h'
    obtain ⟨a1, a2, a3, a4⟩ := h
    obtain ⟨c1, c2, c3, c4⟩ := h'
    have ee := en_one a1 c1
    subst ee
    refine ⟨ieq ?_, ieq (by omega), rfl⟩
    rcases a4 with ⟨w, q1, q2⟩ | ⟨q1, q2⟩
    · rcases c4 with ⟨w', r1, r2⟩ | ⟨r1, r2⟩
      · have := wm_one q1 r1
        omega
      · exact absurd q1 (r1 w)
    · rcases c4 with ⟨w', r1, r2⟩ | ⟨r1, r2⟩
      · exact absurd r1 (q1 w')
      · omega
  rw [if_neg c1] at h h'
  by_cases c2 : DGq (b p)
  · rw [if_pos c2] at h h'
    by_cases c3 : HSq b p
    · rw [if_pos c3] at h h'
      obtain ⟨a1, a2, a3, a4⟩ := h
      obtain ⟨c1, c2, c3, c4⟩ := h'
      have ee := en_one a1 c1
      subst ee
      exact ⟨ieq (by omega), by rw [a4, c4], rfl⟩
    · rw [if_neg c3] at h h'
      obtain ⟨a1, a2, a3, a4⟩ := h
      obtain ⟨c1, c2, c3, c4⟩ := h'
      have ee := en_one a1 c1
      subst ee
      exact ⟨ieq (by omega), ieq (by rw [a4, c4]), rfl⟩
  rw [if_neg c2] at h h'
  by_cases c3 : b p = 39
  · rw [if_pos c3] at h h'
    obtain ⟨_, _, a3, a4, a5⟩ := h
    obtain ⟨_, _, c3, c4, c5⟩ := h'
    exact ⟨ieq (by omega), ieq (by rw [a5, c5]), by rw [a3, c3]⟩
  rw [if_neg c3] at h h'
  by_cases c4 : b p = 34
  · rw [if_pos c4] at h h'
    obtain ⟨m, a1, a2, a3, a4⟩ := h
    obtain ⟨m', c1, c2, c3, c4⟩ := h'
    have ee := st_one a1 c1
    subst ee
    exact ⟨ieq (by omega), ieq (by omega), by rw [a2, c2]⟩
  rw [if_neg c4] at h h'
  obtain ⟨w, a1, a2, a3, a4⟩ := h
  obtain ⟨w', d1, d2, d3, d4⟩ := h'
  have ee : e - p = e' - p := by
    have := a2 w' _ d1
    have := d2 w _ a1
    omega
  rw [← ee] at d1
  have := sm_one a1 d1
  exact ⟨ieq (by omega), by rw [a4, d4], by omega⟩
theorem tok_bad (h : TOKq b p k v e) (h' : BADq b p) : False := by
  unfold TOKq at h
  unfold BADq at h'
  replace h' := h'.2
  by_cases c1 : LTq (b p)
  · rw [if_pos c1] at h h'
    obtain ⟨e', r1, r2⟩ := h'
    have := en_one h.1 r1
    have := h.2.1
    omega
  rw [if_neg c1] at h h'
  by_cases c2 : DGq (b p)
  · rw [if_pos c2] at h h'
    by_cases c3 : HSq b p
    · rw [if_pos c3] at h h'
      obtain ⟨e', r1, r2⟩ := h'
      have := en_one h.1 r1
      have := h.2.1
      omega
    · rw [if_neg c3] at h h'
      obtain ⟨e', r1, r2⟩ := h'
      have ee := en_one h.1 r1
      subst ee
      have := h.2.1
      omega
  rw [if_neg c2] at h h'
  by_cases c3 : b p = 39
  · rw [if_pos c3] at h h'
    rcases h' with h' | h'
    · have := h.1
      omega
    · exact h' h.2.1
  rw [if_neg c3] at h h'
  by_cases c4 : b p = 34
  · rw [if_pos c4] at h h'
    obtain ⟨m, a1, _⟩ := h
    exact st_sb a1 h'
  rw [if_neg c4] at h h'
  obtain ⟨w, a1, _⟩ := h
  exact h' w _ a1
theorem bl_one (h : BLq b p e) (h' : BLq b p e') : e = e' := by
  unfold BLq at h h'
  by_cases c1 : b p = 47
  · rw [if_pos c1] at h h'
    by_cases c2 : b (p + 1) = 47
    · rw [if_pos c2] at h h'
      exact en_one h.1 h'.1
    · rw [if_neg c2] at h h'
      obtain ⟨_, i, a1, _, a2⟩ := h
      obtain ⟨_, i', d1, _, d2⟩ := h'
      have := cm_one a1 d1
      omega
  · rw [if_neg c1] at h h'
    rw [h.2, h'.2]
theorem bl_bb (h : BLq b p e) (h' : BBq b p) : False := by
  unfold BLq at h
  obtain ⟨c1, h'⟩ := h'
  rw [if_pos c1] at h
  by_cases c2 : b (p + 1) = 47
  · rw [if_pos c2] at h h'
    obtain ⟨i, a1, a2, a3⟩ := h'
    have := en_one h.1 a1
    subst this
    have := h.2
    omega
  · rw [if_neg c2] at h h'
    obtain ⟨_, i, a1, a3, a2⟩ := h
    obtain ⟨_, i', d1, d2⟩ := h'
    have := cm_one a1 d1
    subst this
    exact d2 a3
theorem bl_is (h : BLq b p e) : 0 ≤ b p ∧ (BKq (b p) ∨ CMq b p) := by
  unfold BLq at h
  by_cases c1 : b p = 47
  · rw [if_pos c1] at h
    by_cases c2 : b (p + 1) = 47
    · exact ⟨by omega, Or.inr ⟨c1, Or.inl c2⟩⟩
    · rw [if_neg c2] at h
      exact ⟨by omega, Or.inr ⟨c1, Or.inr h.1⟩⟩
  · rw [if_neg c1] at h
    exact ⟨by have := h.1; omega, Or.inl h.1⟩
theorem bb_is (h : BBq b p) : CMq b p := by
  obtain ⟨c1, h⟩ := h
  by_cases c2 : b (p + 1) = 47
  · exact ⟨c1, Or.inl c2⟩
  · rw [if_neg c2] at h
    exact ⟨c1, Or.inr h.1⟩
theorem stp_one (h : STPq b x y) (h' : STPq b x z) : y = z := by
  rcases h with ⟨h1, h2⟩ | ⟨⟨h0, h1, h2⟩, k, v, e, h3, h4⟩
  · rcases h' with ⟨g1, g2⟩ | ⟨⟨g0, g1, g2⟩, k', v', e', g3, g4⟩
    · have := bl_one h1 g1
      exact Prod.ext this (by rw [h2, g2])
    · rcases (bl_is h1).2 with q | q
      · exact absurd q g1
      · exact absurd q g2
  · rcases h' with ⟨g1, g2⟩ | ⟨⟨g0, g1, g2⟩, k', v', e', g3, g4⟩
    · rcases (bl_is g1).2 with q | q
      · exact absurd q h1
      · exact absurd q h2
    · obtain ⟨e1, e2, e3⟩ := tok_one h3 g3
      rw [h4, g4, e1, e2, e3]
theorem stp_fin (h : STPq b x y) (h' : FINq b x.1 c) : False := by
  rcases h with ⟨h1, h2⟩ | ⟨⟨h0, h1, h2⟩, k, v, e, h3, h4⟩
  · obtain ⟨q0, q⟩ := bl_is h1
    rcases h' with ⟨g, _⟩ | ⟨g | ⟨⟨g1, g2⟩, g⟩, _⟩
    · omega
    · exact bl_bb h1 g
    · rcases q with q | q
      · exact g1 q
      · exact g2 q
  · rcases h' with ⟨g, _⟩ | ⟨g | ⟨⟨g1, g2⟩, g⟩, _⟩
    · omega
    · exact h2 (bb_is g)
    · exact tok_bad h3 g
theorem fin_one (h : FINq b p c) (h' : FINq b p c') : c = c' := by
  have key : b p < 0 → (BBq b p ∨ ((¬ BKq (b p) ∧ ¬ CMq b p) ∧ BADq b p)) → False := fun q r => by
    rcases r with r | r
    · have := r.1
      omega
    · have := r.2.1
      omega
  rcases h with ⟨h1, h2⟩ | ⟨h1, h2⟩
  · rcases h' with ⟨g1, g2⟩ | ⟨g1, g2⟩
    · rw [h2, g2]
    · exact (key h1 g1).elim
  · rcases h' with ⟨g1, g2⟩ | ⟨g1, g2⟩
    · exact (key g1 h1).elim
    · rw [h2, g2]
theorem rch_0 : RCHq b x x := fun _ h _ => h
theorem rch_s (h : RCHq b x y) (g : STPq b y z) : RCHq b x z := fun S h1 h2 => h2 y z (h S h1 h2) g
theorem rch_st (g : STPq b x y) (h : RCHq b y z) : RCHq b x z := fun S h1 h2 => h S (h2 x y h1 g) h2
theorem rch_cs (h : RCHq b x z) : x = z ∨ ∃ y, STPq b x y ∧ RCHq b y z :=
  h (fun u => x = u ∨ ∃ y, STPq b x y ∧ RCHq b y u) (Or.inl rfl) (fun u v h g => by
    rcases h with h | ⟨y, h1, h2⟩
    · subst h
      exact Or.inr ⟨v, g, rch_0⟩
    · exact Or.inr ⟨y, h1, rch_s h2 g⟩)
/-- what the tokens are is one -/
theorem rch_one (h : RCHq b x y) (f : FINq b y.1 c) (h' : RCHq b x z) (f' : FINq b z.1 c') : y = z ∧ c = c' := by
  have key : RCHq b z y := h' (fun u => RCHq b u y) h (fun u v hu g => by
    rcases rch_cs hu with q | ⟨t, q1, q2⟩
    · subst q
      exact (stp_fin g f).elim
    · rwa [stp_one g q1])
  rcases rch_cs key with q | ⟨t, q1, q2⟩
  · subst q
    exact ⟨rfl, fin_one f f'⟩
  · exact (stp_fin q1 f').elim
theorem sp_up : ∀ m, p + 1 + m ≤ spq b p m
  | 0 => by
    show p + 1 + ((0 : Nat) : Int) ≤ p + 1
    omega
  | m + 1 => by
    have := sp_up m
    have h : spq b p (m + 1) = spq b p m + wdq b (spq b p m) := rfl
    have : 1 ≤ wdq b (spq b p m) := by
      unfold wdq
      split <;> omega
    omega
theorem tok_up (h : TOKq b p k v e) : p < e := by
  unfold TOKq at h
  by_cases c1 : LTq (b p)
  · rw [if_pos c1] at h
    obtain ⟨⟨a1, a2, a3⟩, _⟩ := h
    by_cases q : p = e
    · rw [← q] at a3
      exact absurd (Or.inl c1) a3
    · omega
  rw [if_neg c1] at h
  by_cases c2 : DGq (b p)
  · rw [if_pos c2] at h
    by_cases c3 : HSq b p
    · rw [if_pos c3] at h
      have := h.1.1
      omega
    · rw [if_neg c3] at h
      obtain ⟨⟨a1, a2, a3⟩, _⟩ := h
      by_cases q : p = e
      · rw [← q] at a3
        exact absurd c2 a3
      · omega
  rw [if_neg c2] at h
  by_cases c3 : b p = 39
  · rw [if_pos c3] at h
    have : 1 ≤ wdq b (p + 1) := by
      unfold wdq
      split <;> omega
    have := h.2.2.1
    omega
  rw [if_neg c3] at h
  by_cases c4 : b p = 34
  · rw [if_pos c4] at h
    obtain ⟨m, _, a, _⟩ := h
    have := sp_up (p := p) (b := b) m
    omega
  rw [if_neg c4] at h
  obtain ⟨w, a1, _⟩ := h
  have := (sg_len w a1.1).1
  have := a1.2.1
  omega
theorem bl_up (h : BLq b p e) : p < e := by
  unfold BLq at h
  by_cases c1 : b p = 47
  · rw [if_pos c1] at h
    by_cases c2 : b (p + 1) = 47
    · rw [if_pos c2] at h
      obtain ⟨⟨a1, a2, a3⟩, _⟩ := h
      by_cases q : p = e
      · rw [← q, c1] at a3
        exact absurd (by omega) a3
      · omega
    · rw [if_neg c2] at h
      obtain ⟨_, i, ⟨a1, _⟩, _, a2⟩ := h
      omega
  · rw [if_neg c1] at h
    omega
end TQ
end

section
/-! tokens: the class's side -/
abbrev KTq (a b : St) : Prop := Kp [(2, 2), (2, 3), (2, 4)] [13, 14, 15, 16] a b
abbrev KBq (a b : St) : Prop := Kp [(2, 2), (2, 3)] [] a b
def RWq (s : St) (L : List (Int32 × Int32 × Int)) : Prop := (s 2 4).toInt = (L.length : Int) ∧ ∀ j k v q, L[j]? = some (k, v, q) → s 13 j = k ∧ s 14 j = v ∧ (s 15 j).toInt = q
def FNq (s : St) (L : List (Int32 × Int32 × Int)) (c : Int32) : Prop := (s 2 4).toInt = (L.length : Int) + 1 ∧ (∀ j k v q, L[j]? = some (k, v, q) → s 13 j = k ∧ s 14 j = v ∧ (s 15 j).toInt = q) ∧ s 13 L.length = c
theorem app_at {α : Type} {L : List α} {a x : α} {j : Nat} (h : (L ++ [a])[j]? = some x) : (j < L.length ∧ L[j]? = some x) ∨ (j = L.length ∧ x = a) := by
  by_cases c : j < L.length
  · rw [List.getElem?_append_left c] at h
    exact Or.inl ⟨c, h⟩
  · rw [List.getElem?_append_right (by omega)] at h
    by_cases q : j - L.length = 0
    · rw [q] at h
      exact Or.inr ⟨by omega, (Option.some.inj h).symm⟩
    · rw [List.getElem?_eq_none (by show 1 ≤ j - L.length; omega)] at h
      cases h
theorem ltn {L : List (Int32 × Int32 × Int)} {j : Nat} {x : Int32 × Int32 × Int} (h : L[j]? = some x) : j < L.length := by
  by_cases c : j < L.length
  · exact c
  · rw [List.getElem?_eq_none (by omega)] at h
    cases h
theorem wd_nx : ∀ w, w < 12 → bWd w + lWd w ≤ 65 ∧ bWd (w + 1) = bWd w + lWd w + 1 ∧ (chI (gC 2 (bWd w + lWd w))).toInt = 32 := by decide +kernel
theorem wd_ns : ∀ w, w < 12 → ∀ i, i < 8 → i < lWd w → (chI (gC 2 (bWd w + i))).toInt ≠ 32 := by decide +kernel
theorem sg_nx : ∀ w, w < 43 → bSg w + lSg w ≤ 107 ∧ bSg (w + 1) = bSg w + lSg w + 1 ∧ (chI (gC 3 (bSg w + lSg w))).toInt = 32 := by decide +kernel
theorem sg_ns : ∀ w, w < 43 → ∀ i, i < 3 → i < lSg w → (chI (gC 3 (bSg w + i))).toInt ≠ 32 := by decide +kernel
theorem q66 : (nI 66).toInt = 66 := by decide
theorem q108 : (nI 108).toInt = 108 := by decide
section TC
variable {f : Nat → Int32} {N p : Int} {σ s : St} {L : List (Int32 × Int32 × Int)} {a1 a2 a3 x y a n : Int32}
theorem pl_byte {Q : Int32 → Prop} {i : Int} (hf : σ 1 = f) (hN : (σ 2 1).toInt = N) (h16 : N ≤ 16000) (hx : x.toInt = i) (k : ∀ v : Int32, v.toInt = byt f N i → Q v) : pk_X10_byteAt x σ Q := by
  subst hx
  unfold pk_X10_byteAt
  refine ⟨fun c => k _ ?_, fun c => ⟨fun c1 => k _ ?_, fun c1 => ⟨fun c2 => by omega, fun c2 _ => k _ ?_⟩⟩⟩
  · rw [byt, if_neg (by omega)]
    decide
  · rw [byt, if_neg (by omega)]
    decide
  · rw [byt, if_pos (by omega), ← hf]
    rfl
theorem rw_kb (h : RWq σ L) (k : KBq σ s) : RWq s L := by
  refine ⟨by rw [show s 2 4 = σ 2 4 from k 2 4 rfl rfl]; exact h.1, fun j k1 v q e => ?_⟩
  rw [show s 13 j = σ 13 j from k 13 j rfl rfl, show s 14 j = σ 14 j from k 14 j rfl rfl, show s 15 j = σ 15 j from k 15 j rfl rfl]
  exact h.2 j k1 v q e
theorem pl_add0 {Q : Int32 → St → Prop} (hL : RWq σ L) (hl : L.length ≤ 16001) (hp : (σ 2 2).toInt = p) (k : ∀ s, KTq σ s → RWq s (L ++ [(a1, a2, p)]) → s 2 2 = (σ 2 2) + a3 → Q 1 s) : pk_X10_add a1 a2 a3 σ Q := by
  have h1 := hL.1
  have en : (σ 2 4).toNatClampNeg = L.length := by rw [nt', h1]; rfl
  unfold pk_X10_add
  refine ⟨fun s => s = upC (upC (upC (upC (upC σ 13 L.length a1) 14 L.length a2) 15 L.length (σ 2 2)) 16 L.length (σ 2 3)) 2 4 ((σ 2 4) + (1 : Int32)), fun s hs => ?_, fun c => by omega, fun _ => ⟨fun c => by omega, fun _ => ⟨fun c => by omega, fun _ => ⟨fun c => by omega, fun _ => ⟨fun c => by omega, fun _ _ _ _ _ => by rw [en]⟩⟩⟩⟩⟩
  subst hs
  refine k _ (kp_f (kp_f (kp_a (kp_a (kp_a (kp_a kp_rf rfl) rfl) rfl) rfl) rfl) rfl) ⟨?_, fun j k1 v q e => ?_⟩ ?_
  · rw [rdA_ne (by decide), rdA_eq rfl]
    show ((σ 2 4) + (1 : Int32)).toInt = _
    rw [ad0 i1 (by omega) (by omega), h1, List.length_append]
    rfl
  · rcases app_at e with ⟨c, e⟩ | ⟨c, e⟩
    · have r := hL.2 j k1 v q e
      rw [rdC_ne (by decide), rdC_ne (by decide), rdC_ne (by decide), rdC_ne (by decide), rdC_ne (by decide), rdA_ne (by omega)]
      rw [rdC_ne (by decide), rdC_ne (by decide), rdC_ne (by decide), rdC_ne (by decide), rdA_ne (by omega), rdC_ne (by decide)]
      rw [rdC_ne (by decide), rdC_ne (by decide), rdC_ne (by decide), rdA_ne (by omega), rdC_ne (by decide), rdC_ne (by decide)]
      exact r
    · obtain ⟨rfl, rfl, rfl⟩ : k1 = a1 ∧ v = a2 ∧ q = p := by
        have e1 := congrArg (fun z : Int32 × Int32 × Int => z.1) e
        have e2 := congrArg (fun z : Int32 × Int32 × Int => z.2.1) e
        have e3 := congrArg (fun z : Int32 × Int32 × Int => z.2.2) e
        exact ⟨e1, e2, e3⟩
      rw [c]
      rw [rdC_ne (by decide), rdC_ne (by decide), rdC_ne (by decide), rdC_ne (by decide), rdC_ne (by decide), rdA_eq rfl]
      rw [rdC_ne (by decide), rdC_ne (by decide), rdC_ne (by decide), rdC_ne (by decide), rdA_eq rfl]
      rw [rdC_ne (by decide), rdC_ne (by decide), rdC_ne (by decide), rdA_eq rfl]
      exact ⟨rfl, rfl, hp⟩
  · rw [rdA_eq rfl]
    rfl
theorem fn_rw {c v : Int32} {q : Int} (h : RWq s (L ++ [(c, v, q)])) : FNq s L c := by
  refine ⟨by rw [h.1, List.length_append]; rfl, fun j k v' q' e => h.2 j k v' q' (by rw [List.getElem?_append_left (ltn e)]; exact e), ?_⟩
  exact (h.2 L.length c v q (by rw [List.getElem?_append_right (Nat.le_refl _), Nat.sub_self]; rfl)).1
theorem pl_bad {Q : Int32 → St → Prop} (hL : RWq σ L) (hl : L.length ≤ 16001) (k : ∀ s, KTq σ s → FNq s L 1 → Q 0 s) : pk_X10_bad a σ Q := by
  unfold pk_X10_bad
  have kb : KBq σ (upC σ 2 2 a) := kp_f kp_rf rfl
  exact pl_add0 (rw_kb hL kb) hl rfl (fun s ks hs _ => k s (kp_tr (kp_sub kb rfl rfl) ks) (fn_rw hs))
theorem pl_mayOccur {Q : Int32 → Prop} (k1 : AOq x.toInt → Q 1) (k0 : ¬ AOq x.toInt → Q 0) : pk_X10_mayOccur x σ Q := by
  unfold pk_X10_mayOccur
  exact ⟨¬ (32 ≤ x.toInt ∧ x.toInt ≤ 126), fun j => ⟨fun c => k1 (by omega), fun c => ⟨fun c1 => k1 (by omega), fun c1 => ⟨fun c2 => k0 (by omega), fun c2 => k1 (by omega)⟩⟩⟩, fun c => by omega, fun c => ⟨fun c1 => k1 (by omega), fun c1 => by omega⟩⟩
theorem pl_isDigit {Q : Int32 → Prop} (k1 : DGq x.toInt → Q 1) (k0 : ¬ DGq x.toInt → Q 0) : pk_X10_isDigit x σ Q := by
  unfold pk_X10_isDigit
  exact ⟨fun c => k0 (by omega), fun c => ⟨fun c1 => k0 (by omega), fun c1 => k1 (by omega)⟩⟩
theorem pl_isLetter {Q : Int32 → Prop} (k1 : LTq x.toInt → Q 1) (k0 : ¬ LTq x.toInt → Q 0) : pk_X10_isLetter x σ Q := by
  unfold pk_X10_isLetter
  exact ⟨¬ (97 ≤ x.toInt ∧ x.toInt ≤ 122), fun j => ⟨¬ (65 ≤ x.toInt ∧ x.toInt ≤ 90), fun j2 => ⟨fun c => k0 (by omega), fun c => k1 (by omega)⟩, fun c => by omega, fun c => ⟨fun c1 => k1 (by omega), fun c1 => by omega⟩⟩, fun c => by omega, fun c => ⟨fun c1 => k1 (by omega), fun c1 => by omega⟩⟩
theorem pl_sixteenth {Q : Int32 → Prop} (k : ∀ w : Int32, w.toInt = hxq x.toInt → Q w) : pk_X10_sixteenth x σ Q := by
  have e48 : ((48 : Int32)).toInt = 48 := by decide
  have e97 : ((97 : Int32)).toInt = 97 := by decide
  have e65 : ((65 : Int32)).toInt = 65 := by decide
  have e10 : ((10 : Int32)).toInt = 10 := by decide
  have m1 : ((-1 : Int32)).toInt = -1 := by decide
  unfold pk_X10_sixteenth
  refine pl_isDigit (fun c => ⟨fun h => absurd h (by decide), fun _ => k _ ?_⟩) (fun c => ⟨fun _ => ⟨¬ (97 ≤ x.toInt ∧ x.toInt ≤ 102), fun j => ⟨fun c1 => k _ ?_, fun c1 => ⟨fun c2 => k _ ?_, fun c2 => k _ ?_⟩⟩, fun c1 => by omega, fun c1 => ⟨fun c2 => by omega, fun c2 => k _ ?_⟩⟩, fun h => absurd rfl h⟩)
  · rw [sbc e48 (by omega) (by omega), hxq, if_pos c]
  · rw [hxq, if_neg c, if_neg j, if_neg (by omega)]
    exact m1
  · rw [hxq, if_neg c, if_neg j, if_neg (by omega)]
    exact m1
  · have e : (x - (65 : Int32)).toInt = x.toInt - 65 := sbc e65 (by omega) (by omega)
    rw [hxq, if_neg c, if_neg j, if_pos (by omega), adc e10 (by omega) (by omega), e]
    omega
  · have e : (x - (97 : Int32)).toInt = x.toInt - 97 := sbc e97 (by omega) (by omega)
    rw [hxq, if_neg c, if_pos (by omega), adc e10 (by omega) (by omega), e]
    omega
theorem pl_line {Q : Int32 → St → Prop} (hf : σ 1 = f) (hN : (σ 2 1).toInt = N) (h16 : N ≤ 16000) (hp : (σ 2 2).toInt = p) (hp0 : 0 ≤ p ∧ p ≤ N) (hL : RWq σ L) (hl : L.length ≤ 16001) (c1 : byt f N p = 47) (c2 : byt f N (p + 1) = 47)
    (k1 : ∀ s e, KBq σ s → (s 2 2).toInt = e → e ≤ N → BLq (byt f N) p e → Q 1 s) (k0 : ∀ s, KTq σ s → BBq (byt f N) p → FNq s L 1 → Q 0 s) : pk_X10_skipLine σ Q := by
  unfold pk_X10_skipLine
  have bl : ∀ e, p ≤ e → (∀ i, p ≤ i → i < e → INl (byt f N i)) → (byt f N e = 10 ∨ byt f N e < 0) → BLq (byt f N) p e := fun e h0 h1 h2 => by
    rw [BLq, if_pos c1, if_pos c2]
    exact ⟨⟨h0, h1, by omega⟩, h2⟩
  refine ⟨fun s => KBq σ s ∧ ∃ i, (s 2 2).toInt = i ∧ p ≤ i ∧ i ≤ N ∧ ∀ j, p ≤ j → j < i → INl (byt f N j), ⟨kp_rf, p, hp, by omega, by omega, fun j h1 h2 => by omega⟩, ?_⟩
  rintro s ⟨ks, i, hi, g1, g2, g3⟩
  have sf : s 1 = f := by rw [← hf]; exact funext (fun j => ks 1 j rfl rfl)
  have sN : (s 2 1).toInt = N := by rw [show s 2 1 = σ 2 1 from ks 2 1 rfl rfl]; exact hN
  refine ⟨fun c => k1 s i ks hi g2 (bl i g1 g3 (Or.inr ?_)), fun c => pl_byte sf sN h16 hi (fun v hv => ⟨fun d => k1 s i ks hi g2 (bl i g1 g3 (Or.inl (by omega))), fun d => pl_byte sf sN h16 hi (fun w hw => pl_mayOccur (fun m => ⟨fun _ => ?_, fun z => absurd z (by decide)⟩) (fun m => ⟨fun z => absurd rfl z, fun _ => ?_⟩))⟩)⟩
  · rw [byt, if_neg (by omega)]
    omega
  · refine ⟨kp_tr ks (kp_f kp_rf rfl), i + 1, ?_, by omega, by omega, fun j h1 h2 => ?_⟩
    · rw [rdA_eq rfl, ad0 i1 (by omega) (by omega), hi]
    · by_cases q : j = i
      · rw [q]
        exact ⟨by omega, by omega⟩
      · exact g3 j h1 (by omega)
  · refine pl_bad (rw_kb hL ks) hl (fun r kr hr => k0 r (kp_tr (kp_sub ks rfl rfl) kr) ⟨c1, ?_⟩ hr)
    rw [if_pos c2]
    have := byt_pos (f := f) (N := N) (i := i) ⟨by omega, by omega⟩
    exact ⟨i, ⟨g1, g3, by omega⟩, by omega, this⟩
theorem pl_comment {Q : Int32 → St → Prop} (hf : σ 1 = f) (hN : (σ 2 1).toInt = N) (h16 : N ≤ 16000) (hp : (σ 2 2).toInt = p) (hp0 : 0 ≤ p ∧ p ≤ N) (hL : RWq σ L) (hl : L.length ≤ 16001) (c1 : byt f N p = 47) (c2 : byt f N (p + 1) = 42)
    (k1 : ∀ s e, KBq σ s → (s 2 2).toInt = e → e ≤ N → BLq (byt f N) p e → Q 1 s) (k0 : ∀ s, KTq σ s → BBq (byt f N) p → FNq s L 1 → Q 0 s) : pk_X10_skipComment σ Q := by
  unfold pk_X10_skipComment
  have n2 := byt_in (f := f) (N := N) (i := p + 1) (by omega)
  refine ⟨fun x s => Kp [(2, 3)] [] σ s ∧ ∃ i, x.toInt = i ∧ p + 2 ≤ i ∧ i ≤ N ∧ ∀ j, p + 2 ≤ j → j < i → AOq (byt f N j) ∧ ¬ (byt f N j = 42 ∧ byt f N (j + 1) = 47), ⟨kp_rf, p + 2, by rw [ad0 i2 (by omega) (by omega), hp], by omega, by omega, fun j h1 h2 => by omega⟩, ?_⟩
  rintro x s ⟨ks, i, hi, g1, g2, g3⟩
  have sf : s 1 = f := by rw [← hf]; exact funext (fun j => ks 1 j rfl rfl)
  have sN : (s 2 1).toInt = N := by rw [show s 2 1 = σ 2 1 from ks 2 1 rfl rfl]; exact hN
  have kb : KBq σ s := kp_sub ks rfl rfl
  have bad : ¬ AOq (byt f N i) → BBq (byt f N) p := fun m => ⟨c1, by rw [if_neg (by omega)]; exact ⟨c2, i, ⟨g1, g3, fun h => absurd h m⟩, m⟩⟩
  refine ⟨fun c => pl_bad (rw_kb hL kb) hl (fun r kr hr => k0 r (kp_tr (kp_sub kb rfl rfl) kr) (bad ?_) hr), fun c => pl_byte sf sN h16 hi (fun v hv => pl_mayOccur (fun m => ⟨fun _ => ?_, fun z => absurd z (by decide)⟩) (fun m => ⟨fun z => absurd rfl z, fun _ => pl_bad (rw_kb hL kb) hl (fun r kr hr => k0 r (kp_tr (kp_sub kb rfl rfl) kr) (bad (by omega)) hr)⟩))⟩
  · rw [byt, if_neg (by omega)]
    omega
  · refine ⟨fun _ => True, fun y _ _ => ?_, fun _ => trivial, fun _ => trivial⟩
    have kr : Kp [(2, 3)] [] σ (upC s 2 3 ((s 2 3) + y)) := kp_tr ks (kp_f kp_rf rfl)
    generalize hr : upC s 2 3 ((s 2 3) + y) = r at kr
    have rf : r 1 = f := by rw [← hf]; exact funext (fun j => kr 1 j rfl rfl)
    have rN : (r 2 1).toInt = N := by rw [show r 2 1 = σ 2 1 from kr 2 1 rfl rfl]; exact hN
    have hi1 : (x + (1 : Int32)).toInt = i + 1 := by rw [ad0 i1 (by omega) (by omega), hi]
    refine ⟨¬ (byt f N i = 42 ∧ byt f N (i + 1) = 47), fun j => ⟨kr, i + 1, hi1, by omega, by omega, fun j2 h1 h2 => ?_⟩, fun d => by omega, fun d => pl_byte rf rN h16 hi1 (fun w hw => ⟨fun d2 => by omega, fun d2 => k1 _ (i + 2) (kp_tr (kp_sub kr rfl rfl) (kp_f kp_rf rfl)) ?_ ?_ ?_⟩)⟩
    · by_cases q : j2 = i
      · rw [q]
        exact ⟨by omega, j⟩
      · exact g3 j2 h1 (by omega)
    · rw [rdA_eq rfl, ad0 i2 (by omega) (by omega), hi]
    · have := byt_in (f := f) (N := N) (i := i + 1) (by omega)
      omega
    · rw [BLq, if_pos c1, if_neg (by omega)]
      exact ⟨c2, i, ⟨g1, g3, fun _ => ⟨by omega, by omega⟩⟩, by omega, rfl⟩
theorem pl_blanks {Q : Int32 → St → Prop} (hf : σ 1 = f) (hN : (σ 2 1).toInt = N) (h16 : N ≤ 16000) (hp : (σ 2 2).toInt = p) (hp0 : 0 ≤ p ∧ p ≤ N) (hL : RWq σ L) (hl : L.length ≤ 16001)
    (k1 : ∀ s q, KBq σ s → (s 2 2).toInt = q → p ≤ q ∧ q ≤ N → RCHq (byt f N) (p, L) (q, L) → ¬ BKq (byt f N q) ∧ ¬ CMq (byt f N) q → Q 1 s) (k0 : ∀ s q, KTq σ s → RCHq (byt f N) (p, L) (q, L) → BBq (byt f N) q → FNq s L 1 → Q 0 s) : pk_X10_skipBlanks σ Q := by
  unfold pk_X10_skipBlanks
  refine ⟨fun x s => KBq σ s ∧ ∃ q, (s 2 2).toInt = q ∧ p ≤ q ∧ q ≤ N ∧ RCHq (byt f N) (p, L) (q, L) ∧ 0 ≤ x.toInt ∧ x.toInt ≤ q - p, ⟨kp_rf, p, hp, by omega, by omega, rch_0, by decide, by rw [i0]; omega⟩, ?_⟩
  rintro x s ⟨ks, q, hq, g1, g2, g3, g4, g5⟩
  have sf : s 1 = f := by rw [← hf]; exact funext (fun j => ks 1 j rfl rfl)
  have sN : (s 2 1).toInt = N := by rw [show s 2 1 = σ 2 1 from ks 2 1 rfl rfl]; exact hN
  have ux : (x + 1).toInt = x.toInt + 1 := ad1 (by omega)
  have sL := rw_kb hL ks
  have nxt : ∀ r e, KBq s r → (r 2 2).toInt = e → e ≤ N → BLq (byt f N) q e → (KBq σ r ∧ ∃ q, (r 2 2).toInt = q ∧ p ≤ q ∧ q ≤ N ∧ RCHq (byt f N) (p, L) (q, L) ∧ 0 ≤ (x + 1).toInt ∧ (x + 1).toInt ≤ q - p) := fun r e kr hr he hb => by
    have := bl_up hb
    exact ⟨kp_tr ks kr, e, hr, by omega, he, rch_s g3 (Or.inl ⟨hb, rfl⟩), by omega, by omega⟩
  refine ⟨fun c => by omega, fun c => pl_byte sf sN h16 hq (fun v hv => ⟨fun y => (byt f N q = 47 ∧ y.toInt = byt f N (q + 1)) ∨ (byt f N q ≠ 47 ∧ y.toInt = -1), fun y hy => ⟨_, fun r hr => hr, byt f N q = 47 ∧ (y.toInt = 47 ∨ y.toInt = 42), fun hj => ⟨fun d => ?_, fun d => ?_⟩, fun d => ⟨by omega, by omega⟩, fun d => ⟨fun d2 => ?_, fun d2 => ⟨by omega, by omega⟩⟩⟩, fun d => Or.inr ⟨by omega, by decide⟩, fun d => pl_byte sf sN h16 (i := q + 1) (by rw [ad0 i1 (by omega) (by omega), hq]) (fun w hw => Or.inl ⟨by omega, hw⟩)⟩)⟩
  · refine pl_comment sf sN h16 hq (by omega) sL hl hj.1 (by omega) (fun r e kr hr he hb => ⟨fun _ => nxt r e kr hr he hb, fun z => absurd z (by decide)⟩) (fun r kr hb hr => ⟨fun z => absurd rfl z, fun _ => k0 r q (kp_tr (kp_sub ks rfl rfl) kr) g3 hb hr⟩)
  · refine pl_line sf sN h16 hq (by omega) sL hl hj.1 (by omega) (fun r e kr hr he hb => ⟨fun z => absurd z (by decide), fun _ => nxt r e kr hr he hb⟩) (fun r kr hb hr => ⟨fun _ => k0 r q (kp_tr (kp_sub ks rfl rfl) kr) g3 hb hr, fun z => absurd rfl z⟩)
  · have bk : BKq (byt f N q) → ∀ y2 : Int32, (KBq σ (upC (upC s 2 3 ((s 2 3) + y2)) 2 2 ((s 2 2) + (1 : Int32))) ∧ ∃ q, ((upC (upC s 2 3 ((s 2 3) + y2)) 2 2 ((s 2 2) + (1 : Int32))) 2 2).toInt = q ∧ p ≤ q ∧ q ≤ N ∧ RCHq (byt f N) (p, L) (q, L) ∧ 0 ≤ (x + 1).toInt ∧ (x + 1).toInt ≤ q - p) := fun h y2 => by
      have hin := byt_in (f := f) (N := N) (i := q) (by omega)
      refine nxt _ (q + 1) (kp_f (kp_f kp_rf rfl) rfl) ?_ (by omega) ?_
      · rw [rdA_eq rfl, ad0 i1 (by omega) (by omega), hq]
      · rw [BLq, if_neg (by omega)]
        exact ⟨h, rfl⟩
    refine ⟨BKq (byt f N q), fun hb => ⟨fun _ => True, fun y2 _ _ => bk hb y2, fun _ => trivial, fun _ => trivial⟩, fun e => by omega, fun e => ⟨fun e2 => by omega, fun e2 => ⟨fun e3 => by omega, fun e3 => ⟨fun e4 => k1 s q ks hq ⟨g1, g2⟩ g3 ⟨by omega, by omega⟩, fun e4 => by omega⟩⟩⟩⟩
theorem pl_isNext0 {Q : Int32 → Prop} (hf : σ 1 = f) (hN : (σ 2 1).toInt = N) (h16 : N ≤ 16000) (hp : (σ 2 2).toInt = p) (hp0 : 0 ≤ p ∧ p ≤ N) (hx : 0 ≤ x.toInt) (hy : 0 ≤ y.toInt) (hxy : x.toInt + y.toInt ≤ 65)
    (k1 : (∀ i : Nat, (i : Int) < y.toInt → byt f N (p + i) = (chI (gC 2 (x.toInt.toNat + i))).toInt) → Q 1) (k0 : (∃ i : Nat, (i : Int) < y.toInt ∧ byt f N (p + i) ≠ (chI (gC 2 (x.toInt.toNat + i))).toInt) → Q 0) : pk_X10_isNext_s0 x y σ Q := by
  unfold pk_X10_isNext_s0
  refine ⟨fun j => 0 ≤ j.toInt ∧ j.toInt ≤ y.toInt ∧ ∀ i : Nat, (i : Int) < j.toInt → byt f N (p + i) = (chI (gC 2 (x.toInt.toNat + i))).toInt, ⟨by decide, hy, fun i h => by rw [i0] at h; omega⟩, ?_⟩
  rintro j ⟨h1, h2, h3⟩
  have e1 : (x + j).toInt = x.toInt + j.toInt := ad (by omega) (by omega)
  refine ⟨fun c => k1 (fun i hi => h3 i (by omega)), fun c => ⟨fun c1 => by rw [q66] at c1; omega, fun c1 _ => pl_byte hf hN h16 (i := p + j.toInt) (by rw [ad (by omega) (by omega), hp]) (fun v hv => ?_)⟩⟩
  have e2 : (x + j).toNatClampNeg = x.toInt.toNat + j.toInt.toNat := by rw [nt', e1]; omega
  have e3 : (j.toInt.toNat : Int) = j.toInt := Int.toNat_of_nonneg h1
  have up : (j + 1).toInt = j.toInt + 1 := ad1 (by omega)
  rw [e2]
  refine ⟨fun d => ⟨by omega, by omega, fun i hi => ?_⟩, fun d => k0 ⟨j.toInt.toNat, by omega, ?_⟩⟩
  · by_cases q : (i : Int) = j.toInt
    · have : i = j.toInt.toNat := by omega
      subst this
      rw [e3, ← hv, d]
    · exact h3 i (by omega)
  · rw [e3, ← hv]
    exact fun h => d h.symm
theorem pl_isNext1 {Q : Int32 → Prop} (hf : σ 1 = f) (hN : (σ 2 1).toInt = N) (h16 : N ≤ 16000) (hp : (σ 2 2).toInt = p) (hp0 : 0 ≤ p ∧ p ≤ N) (hx : 0 ≤ x.toInt) (hy : 0 ≤ y.toInt) (hxy : x.toInt + y.toInt ≤ 107)
    (k1 : (∀ i : Nat, (i : Int) < y.toInt → byt f N (p + i) = (chI (gC 3 (x.toInt.toNat + i))).toInt) → Q 1) (k0 : (∃ i : Nat, (i : Int) < y.toInt ∧ byt f N (p + i) ≠ (chI (gC 3 (x.toInt.toNat + i))).toInt) → Q 0) : pk_X10_isNext_s1 x y σ Q := by
  unfold pk_X10_isNext_s1
  refine ⟨fun j => 0 ≤ j.toInt ∧ j.toInt ≤ y.toInt ∧ ∀ i : Nat, (i : Int) < j.toInt → byt f N (p + i) = (chI (gC 3 (x.toInt.toNat + i))).toInt, ⟨by decide, hy, fun i h => by rw [i0] at h; omega⟩, ?_⟩
  rintro j ⟨h1, h2, h3⟩
  have e1 : (x + j).toInt = x.toInt + j.toInt := ad (by omega) (by omega)
  refine ⟨fun c => k1 (fun i hi => h3 i (by omega)), fun c => ⟨fun c1 => by rw [q108] at c1; omega, fun c1 _ => pl_byte hf hN h16 (i := p + j.toInt) (by rw [ad (by omega) (by omega), hp]) (fun v hv => ?_)⟩⟩
  have e2 : (x + j).toNatClampNeg = x.toInt.toNat + j.toInt.toNat := by rw [nt', e1]; omega
  have e3 : (j.toInt.toNat : Int) = j.toInt := Int.toNat_of_nonneg h1
  have up : (j + 1).toInt = j.toInt + 1 := ad1 (by omega)
  rw [e2]
  refine ⟨fun d => ⟨by omega, by omega, fun i hi => ?_⟩, fun d => k0 ⟨j.toInt.toNat, by omega, ?_⟩⟩
  · by_cases q : (i : Int) = j.toInt
    · have : i = j.toInt.toNat := by omega
      subst this
      rw [e3, ← hv, d]
    · exact h3 i (by omega)
  · rw [e3, ← hv]
    exact fun h => d h.symm
theorem pl_listed0 {Q : Int32 → Prop} (hf : σ 1 = f) (hN : (σ 2 1).toInt = N) (h16 : N ≤ 16000) (hp : (σ 2 2).toInt = p) (hp0 : 0 ≤ p ∧ p ≤ N)
    (k : ∀ r : Int32, ((∃ w, WMq (byt f N) p n.toInt w ∧ r.toInt = w) ∨ ((∀ w, ¬ WMq (byt f N) p n.toInt w) ∧ r.toInt < 0)) → Q r) : pk_X10_listed_s0 n σ Q := by
  unfold pk_X10_listed_s0
  refine ⟨fun a b c => ∃ w : Nat, w ≤ 12 ∧ a.toInt = w ∧ b.toInt = bWd w ∧ (bWd w : Int) ≤ c.toInt ∧ c.toInt ≤ bWd w + lWd w ∧ ∀ w', w' < w → ¬ WMq (byt f N) p n.toInt w', ⟨0, by decide, by decide, by decide, by decide, by decide, fun w' h => by omega⟩, ?_⟩
  rintro a b c ⟨w, h1, h2, h3, h4, h5, h6⟩
  by_cases hw : w = 12
  · subst hw
    have e12 : (bWd 12 : Int) = 66 := by decide
    exact ⟨fun _ => k _ (Or.inr ⟨fun w' hw' => h6 w' hw'.1 hw', by decide⟩), fun c1 => by rw [q66] at c1; omega⟩
  obtain ⟨t1, t2, t3⟩ := wd_nx w (by omega)
  have t4 := wd_len w (by omega)
  refine ⟨fun c1 => by rw [q66] at c1; omega, fun c1 _ => ?_⟩
  have uc : (c + 1).toInt = c.toInt + 1 := ad1 (by omega)
  have ua : (a + 1).toInt = a.toInt + 1 := ad1 (by omega)
  have en : c.toNatClampNeg = bWd w + (c.toInt.toNat - bWd w) := by rw [nt']; omega
  refine ⟨_, fun a' b' h => h, fun d => ⟨w, h1, h2, h3, by omega, ?_, h6⟩, fun d => ?_⟩
  · have : c.toInt ≠ bWd w + lWd w := fun e => d (by rw [show c.toNatClampNeg = bWd w + lWd w from by rw [nt']; omega]; exact t3)
    omega
  have ec : c.toInt = bWd w + lWd w := by
    by_cases q : c.toInt = bWd w + lWd w
    · exact q
    · exact absurd (by rw [en] at d; exact d) (wd_ns w (by omega) (c.toInt.toNat - bWd w) (by omega) (by omega))
  have ecb : (c - b).toInt = lWd w := by rw [sb (by omega) (by omega)]; omega
  have enb : b.toInt.toNat = bWd w := by omega
  refine ⟨¬ WMq (byt f N) p n.toInt w, fun j => ⟨w + 1, by omega, by omega, by rw [t2]; show (c + 1).toInt = _; omega, by rw [t2]; omega, by rw [t2]; omega, fun w' hw' => ?_⟩, fun e hm => e (by rw [ecb]; exact hm.2.1), fun e => pl_isNext0 hf hN h16 hp hp0 (by omega) (by omega) (by omega) (fun hm => ⟨fun z => absurd z (by decide), fun _ => k _ (Or.inl ⟨w, ⟨by omega, by omega, fun i hi => ?_⟩, h2⟩)⟩) (fun hm => ⟨fun _ hw' => ?_, fun z => absurd rfl z⟩)⟩
  · by_cases q : w' = w
    · rw [q]
      exact j
    · exact h6 w' (by omega)
  · rw [hm i (by omega), enb]
  · obtain ⟨i, i1, i2⟩ := hm
    rw [enb] at i2
    exact i2 (hw'.2.2 i (by omega))
theorem pl_listed1 {Q : Int32 → Prop} (hf : σ 1 = f) (hN : (σ 2 1).toInt = N) (h16 : N ≤ 16000) (hp : (σ 2 2).toInt = p) (hp0 : 0 ≤ p ∧ p ≤ N)
    (k : ∀ r : Int32, ((∃ w, SMq (byt f N) p n.toInt w ∧ r.toInt = w) ∨ ((∀ w, ¬ SMq (byt f N) p n.toInt w) ∧ r.toInt < 0)) → Q r) : pk_X10_listed_s1 n σ Q := by
  unfold pk_X10_listed_s1
  refine ⟨fun a b c => ∃ w : Nat, w ≤ 43 ∧ a.toInt = w ∧ b.toInt = bSg w ∧ (bSg w : Int) ≤ c.toInt ∧ c.toInt ≤ bSg w + lSg w ∧ ∀ w', w' < w → ¬ SMq (byt f N) p n.toInt w', ⟨0, by decide, by decide, by decide, by decide, by decide, fun w' h => by omega⟩, ?_⟩
  rintro a b c ⟨w, h1, h2, h3, h4, h5, h6⟩
  by_cases hw : w = 43
  · subst hw
    have e12 : (bSg 43 : Int) = 108 := by decide
    exact ⟨fun _ => k _ (Or.inr ⟨fun w' hw' => h6 w' hw'.1 hw', by decide⟩), fun c1 => by rw [q108] at c1; omega⟩
  obtain ⟨t1, t2, t3⟩ := sg_nx w (by omega)
  have t4 := sg_len w (by omega)
  refine ⟨fun c1 => by rw [q108] at c1; omega, fun c1 _ => ?_⟩
  have uc : (c + 1).toInt = c.toInt + 1 := ad1 (by omega)
  have ua : (a + 1).toInt = a.toInt + 1 := ad1 (by omega)
  have en : c.toNatClampNeg = bSg w + (c.toInt.toNat - bSg w) := by rw [nt']; omega
  refine ⟨_, fun a' b' h => h, fun d => ⟨w, h1, h2, h3, by omega, ?_, h6⟩, fun d => ?_⟩
  · have : c.toInt ≠ bSg w + lSg w := fun e => d (by rw [show c.toNatClampNeg = bSg w + lSg w from by rw [nt']; omega]; exact t3)
    omega
  have ec : c.toInt = bSg w + lSg w := by
    by_cases q : c.toInt = bSg w + lSg w
    · exact q
    · exact absurd (by rw [en] at d; exact d) (sg_ns w (by omega) (c.toInt.toNat - bSg w) (by omega) (by omega))
  have ecb : (c - b).toInt = lSg w := by rw [sb (by omega) (by omega)]; omega
  have enb : b.toInt.toNat = bSg w := by omega
  refine ⟨¬ SMq (byt f N) p n.toInt w, fun j => ⟨w + 1, by omega, by omega, by rw [t2]; show (c + 1).toInt = _; omega, by rw [t2]; omega, by rw [t2]; omega, fun w' hw' => ?_⟩, fun e hm => e (by rw [ecb]; exact hm.2.1), fun e => pl_isNext1 hf hN h16 hp hp0 (by omega) (by omega) (by omega) (fun hm => ⟨fun z => absurd z (by decide), fun _ => k _ (Or.inl ⟨w, ⟨by omega, by omega, fun i hi => ?_⟩, h2⟩)⟩) (fun hm => ⟨fun _ hw' => ?_, fun z => absurd rfl z⟩)⟩
  · by_cases q : w' = w
    · rw [q]
      exact j
    · exact h6 w' (by omega)
  · rw [hm i (by omega), enb]
  · obtain ⟨i, i1, i2⟩ := hm
    rw [enb] at i2
    exact i2 (hw'.2.2 i (by omega))
end TC
end

section
/-! tokens: the class's side, one token -/
theorem lc_le {x y : Int64} (h : (lg_cmp x y).toInt ≤ 0) : x.toInt ≤ y.toInt := by
  have e0 : (0 : Int32).toInt = 0 := by decide
  exact Int64.le_iff_toInt_le.mp ((lg_cmp_le x y).mp (Int32.le_iff_toInt_le.mpr (by omega)))
theorem lc_gt {x y : Int64} (h : 0 < (lg_cmp x y).toInt) : y.toInt < x.toInt := by
  have e0 : (0 : Int32).toInt = 0 := by decide
  exact Int64.lt_iff_toInt_lt.mp ((lg_cmp_gt x y).mp (Int32.lt_iff_toInt_lt.mpr (by omega)))
theorem cd_eq {b : Int → Int} {q i : Int} (h : 0 ≤ cdq b q i) : 0 ≤ b i := by
  unfold cdq at h
  by_cases c : b i = 92
  · omega
  · rw [if_neg c] at h
    by_cases c2 : 32 ≤ b i ∧ b i ≤ 126 ∧ b i ≠ q
    · omega
    · rw [if_neg c2] at h
      omega
theorem cd_up {b : Int → Int} {f : Nat → Int32} {N q i : Int} (hb : b = byt f N) (h : 0 ≤ cdq b q i) : 0 ≤ i ∧ i + wdq b i ≤ N := by
  subst hb
  have h1 := byt_in (cd_eq h)
  unfold wdq
  by_cases c : byt f N i = 92
  · rw [if_pos c]
    unfold cdq at h
    rw [if_pos c] at h
    have : 0 ≤ byt f N (i + 1) := by
      by_cases d : byt f N (i + 1) = 34 ∨ byt f N (i + 1) = 39 ∨ byt f N (i + 1) = 92
      · omega
      · rw [if_neg d] at h
        by_cases d2 : byt f N (i + 1) = 48
        · omega
        · rw [if_neg d2] at h
          by_cases d3 : byt f N (i + 1) = 110
          · omega
          · rw [if_neg d3] at h
            omega
    have := byt_in this
    omega
  · rw [if_neg c]
    omega
theorem hx_iff {c : Int} : 0 ≤ hxq c ↔ HXq c := by
  unfold hxq
  constructor
  · intro h
    by_cases c1 : 48 ≤ c ∧ c ≤ 57
    · exact Or.inl c1
    rw [if_neg c1] at h
    by_cases c2 : 97 ≤ c ∧ c ≤ 102
    · exact Or.inr (Or.inl c2)
    rw [if_neg c2] at h
    by_cases c3 : 65 ≤ c ∧ c ≤ 70
    · exact Or.inr (Or.inr c3)
    rw [if_neg c3] at h
    omega
  · intro h
    by_cases c1 : 48 ≤ c ∧ c ≤ 57
    · rw [if_pos c1]
      omega
    rw [if_neg c1]
    by_cases c2 : 97 ≤ c ∧ c ≤ 102
    · rw [if_pos c2]
      omega
    rw [if_neg c2, if_pos (by omega)]
    omega
theorem hx_r {c : Int} : hxq c ≤ 15 := by
  unfold hxq
  repeat' split
  all_goals omega
theorem dv_nn {b : Int → Int} {p : Int} : ∀ n : Nat, (∀ i, p ≤ i → i < p + n → DGq (b i)) → 0 ≤ dvq b p n
  | 0, _ => Int.le_refl _
  | n + 1, h => by
    have := dv_nn n (fun i h1 h2 => h i h1 (by omega))
    have h2 := h (p + n) (by omega) (by omega)
    show 0 ≤ dvq b p n * 10 + (b (p + n) - 48)
    omega
theorem dv_s {b : Int → Int} {p : Int} {n : Nat} : dvq b p (n + 1) = dvq b p n * 10 + (b (p + n) - 48) := rfl
theorem hv_s {b : Int → Int} {p : Int} {n : Nat} : hvq b p (n + 1) = hvq b p n * 16 + Int32.ofInt (hxq (b (p + n))) := rfl
theorem sp_s {b : Int → Int} {p : Int} {n : Nat} : spq b p (n + 1) = spq b p n + wdq b (spq b p n) := rfl
section TD
variable {f : Nat → Int32} {N p e : Int} {σ s : St} {L : List (Int32 × Int32 × Int)} {a1 a2 a3 x y a n : Int32}
theorem pl_tadd {Q : Int32 → St → Prop} (hp : (σ 2 2).toInt = p) (hp0 : 0 ≤ p ∧ p ≤ N) (h16 : N ≤ 16000) (hL : RWq σ L) (hl : L.length ≤ 16001) (ht : TOKq (byt f N) p a1 a2 e) (he : e = p + a3.toInt) (heN : e ≤ N)
    (k1 : ∀ s k v e, KTq σ s → TOKq (byt f N) p k v e → e ≤ N → RWq s (L ++ [(k, v, p)]) → (s 2 2).toInt = e → Q 1 s) : pk_X10_add a1 a2 a3 σ Q := by
  have := tok_up ht
  exact pl_add0 hL hl hp (fun s ks hs h2 => k1 s a1 a2 e ks ht heN hs (by rw [h2, ad (by omega) (by omega)]; omega))
theorem pl_word {Q : Int32 → St → Prop} (hf : σ 1 = f) (hN : (σ 2 1).toInt = N) (h16 : N ≤ 16000) (hp : (σ 2 2).toInt = p) (hL : RWq σ L) (hl : L.length ≤ 16001) (hb : LTq (byt f N p))
    (k1 : ∀ s k v e, KTq σ s → TOKq (byt f N) p k v e → e ≤ N → RWq s (L ++ [(k, v, p)]) → (s 2 2).toInt = e → Q 1 s) (k0 : ∀ s, KTq σ s → BADq (byt f N) p → FNq s L 1 → Q 0 s) : pk_X10_word σ Q := by
  have hin := byt_in (f := f) (N := N) (i := p) (by omega)
  unfold pk_X10_word
  refine pl_byte hf hN h16 (i := p + 1) (by rw [ad0 i1 (by omega) (by omega), hp]) (fun v hv => ⟨fun w c => 1 ≤ w.toInt ∧ p + w.toInt ≤ N ∧ c.toInt = byt f N (p + w.toInt) ∧ ∀ i, p ≤ i → i < p + w.toInt → NDq (byt f N i), ⟨by decide, by rw [i1]; omega, by rw [i1]; exact hv, fun i h1 h2 => ?_⟩, ?_⟩)
  · rw [i1] at h2
    rw [show i = p from by omega]
    exact Or.inl hb
  rintro w c ⟨g1, g2, g3, g4⟩
  have up : (w + 1).toInt = w.toInt + 1 := ad1 (by omega)
  have nx : NDq (byt f N (p + w.toInt)) → pk_X10_byteAt (((σ 2 2) + w) + (1 : Int32)) σ (fun v44 => 1 ≤ (w + 1).toInt ∧ p + (w + 1).toInt ≤ N ∧ v44.toInt = byt f N (p + (w + 1).toInt) ∧ ∀ i, p ≤ i → i < p + (w + 1).toInt → NDq (byt f N i)) := fun h => by
    have hin2 := byt_in (f := f) (N := N) (i := p + w.toInt) (by omega)
    have e1 : ((σ 2 2) + w).toInt = p + w.toInt := by rw [ad (by omega) (by omega), hp]
    refine pl_byte hf hN h16 (i := p + (w + 1).toInt) (by rw [ad0 i1 (by omega) (by omega)]; omega) (fun v hv => ⟨by omega, by omega, hv, fun i h1 h2 => ?_⟩)
    by_cases q : i = p + w.toInt
    · rw [q]
      exact h
    · exact g4 i h1 (by omega)
  refine ⟨¬ NDq (byt f N (p + w.toInt)), fun j => ?_, fun c1 => by omega, fun c1 => pl_isLetter (fun d => ⟨NDq (byt f N (p + w.toInt)), nx, fun _ => by omega, fun z => absurd z (by decide)⟩) (fun d => ⟨NDq (byt f N (p + w.toInt)), nx, fun z => absurd rfl z, fun _ => pl_isDigit (fun d2 => ⟨fun z => absurd z (by decide), fun _ => by omega⟩) (fun d2 => ⟨fun _ => by omega, fun z => absurd rfl z⟩)⟩)⟩
  have en : ENq NDq (byt f N) p (p + w.toInt) := ⟨by omega, g4, j⟩
  have ew : p + w.toInt - p = w.toInt := by omega
  refine ⟨fun c1 => pl_listed0 hf hN h16 hp (by omega) (n := w) (fun r hr => ⟨fun y => (∃ w', WMq (byt f N) p w.toInt w' ∧ y.toInt = 5 + w') ∨ ((∀ w', ¬ WMq (byt f N) p w.toInt w') ∧ y.toInt = 2), fun y hy => pl_tadd hp (by omega) h16 hL hl (e := p + w.toInt) ?_ rfl g2 k1, fun c2 => ?_, fun c2 => ?_⟩), fun c1 => pl_bad hL hl (fun s ks hs => k0 s ks ⟨by omega, by rw [if_pos hb]; exact ⟨p + w.toInt, en, by omega⟩⟩ hs)⟩
  · rw [TOKq, if_pos hb, ew]
    exact ⟨en, c1, rfl, hy⟩
  · rcases hr with ⟨w', m1, m2⟩ | ⟨m1, m2⟩
    · have := m1.1
      have e5 : ((5 : Int32)).toInt = 5 := by decide
      exact Or.inl ⟨w', m1, by rw [ad (by omega) (by omega)]; omega⟩
    · omega
  · rcases hr with ⟨w', m1, m2⟩ | ⟨m1, m2⟩
    · omega
    · exact Or.inr ⟨m1, by decide⟩
theorem pl_digits {Q : Int32 → St → Prop} (hf : σ 1 = f) (hN : (σ 2 1).toInt = N) (h16 : N ≤ 16000) (hp : (σ 2 2).toInt = p) (hL : RWq σ L) (hl : L.length ≤ 16001) (hb : DGq (byt f N p)) (hh : ¬ HSq (byt f N) p)
    (k1 : ∀ s k v e, KTq σ s → TOKq (byt f N) p k v e → e ≤ N → RWq s (L ++ [(k, v, p)]) → (s 2 2).toInt = e → Q 1 s) (k0 : ∀ s, KTq σ s → BADq (byt f N) p → FNq s L 1 → Q 0 s) : pk_X10_digits σ Q := by
  have hin := byt_in (f := f) (N := N) (i := p) (by omega)
  have nl : ¬ LTq (byt f N p) := by omega
  have eB : (4294967296 : Int64).toInt = 4294967296 := by decide
  have eM : (2147483647 : Int64).toInt = 2147483647 := by decide
  have e10 : (10 : Int64).toInt = 10 := by decide
  unfold pk_X10_digits
  refine pl_byte hf hN h16 hp (fun v hv => ⟨fun x w c => 0 ≤ w.toInt ∧ p + w.toInt ≤ N ∧ c.toInt = byt f N (p + w.toInt) ∧ (∀ i, p ≤ i → i < p + w.toInt → DGq (byt f N i)) ∧ 0 ≤ x.toInt ∧ ((dvq (byt f N) p w.toInt.toNat ≤ 4294967296 ∧ x.toInt = dvq (byt f N) p w.toInt.toNat) ∨ (4294967296 < dvq (byt f N) p w.toInt.toNat ∧ x.toInt = 4294967296)), ⟨by decide, by rw [i0]; omega, by rw [i0, Int.add_zero]; exact hv, fun i h1 h2 => by rw [i0] at h2; omega, by decide, Or.inl ⟨by show (0 : Int) ≤ 4294967296; omega, rfl⟩⟩, ?_⟩)
  rintro x w c ⟨g1, g2, g3, g4, g5, g6⟩
  have up : (w + 1).toInt = w.toInt + 1 := ad1 (by omega)
  have ew : (p + w.toInt - p).toNat = w.toInt.toNat := by omega
  refine ⟨¬ DGq (byt f N (p + w.toInt)), fun j => ?_, fun c1 => by omega, fun c1 => pl_isDigit (fun d => ⟨fun z => absurd z (by decide), fun _ => ?_⟩) (fun d => ⟨fun _ => by omega, fun z => absurd rfl z⟩)⟩
  · have en : ENq DGq (byt f N) p (p + w.toInt) := ⟨by omega, g4, j⟩
    refine ⟨fun c1 => ?_, fun c1 => ?_⟩
    · have q := lc_le c1
      rw [eM] at q
      refine pl_tadd hp (by omega) h16 hL hl (e := p + w.toInt) ?_ rfl g2 k1
      rw [TOKq, if_neg nl, if_pos hb, if_neg hh, ew]
      refine ⟨en, by omega, by decide, ?_⟩
      rw [Int64.toInt_toInt32, Int.bmod_eq_of_le (by omega) (by omega)]
      omega
    · have q := lc_gt c1
      rw [eM] at q
      refine pl_bad hL hl (fun s ks hs => k0 s ks ⟨by omega, ?_⟩ hs)
      rw [if_neg nl, if_pos hb, if_neg hh]
      exact ⟨_, en, by rw [ew]; omega⟩
  · have hin2 := byt_in (f := f) (N := N) (i := p + w.toInt) (by omega)
    have e1 : ((σ 2 2) + w).toInt = p + w.toInt := by rw [ad (by omega) (by omega), hp]
    have e48 : ((48 : Int32)).toInt = 48 := by decide
    have ec : (c - (48 : Int32)).toInt64.toInt = byt f N (p + w.toInt) - 48 := by rw [Int32.toInt_toInt64, sbc e48 (by omega) (by omega), g3]
    have m1 : (x * (10 : Int64)).toInt = x.toInt * 10 := by rw [Int64.toInt_mul, e10, Int.bmod_eq_of_le (by omega) (by omega)]
    have m2 : ((x * (10 : Int64)) + (c - (48 : Int32)).toInt64).toInt = x.toInt * 10 + (byt f N (p + w.toInt) - 48) := by rw [Int64.toInt_add, m1, ec, Int.bmod_eq_of_le (by omega) (by omega)]
    have en : (w + 1).toInt.toNat = w.toInt.toNat + 1 := by omega
    have et : (w.toInt.toNat : Int) = w.toInt := Int.toNat_of_nonneg g1
    have ed : dvq (byt f N) p (w + 1).toInt.toNat = dvq (byt f N) p w.toInt.toNat * 10 + (byt f N (p + w.toInt) - 48) := by rw [en, dv_s, et]
    refine pl_byte hf hN h16 (i := p + (w + 1).toInt) (by rw [ad0 i1 (by omega) (by omega)]; omega) (fun v2 hv2 => ⟨by omega, by omega, hv2, fun i h1 h2 => ?_, ?_⟩)
    · by_cases q : i = p + w.toInt
      · rw [q, ← g3]
        exact d
      · exact g4 i h1 (by omega)
    · rw [ed]
      by_cases q : (4294967296 : Int64) < ((x * (10 : Int64)) + (c - (48 : Int32)).toInt64)
      · have q2 := Int64.lt_iff_toInt_lt.mp q
        rw [eB, m2] at q2
        rw [if_pos q, eB]
        exact ⟨by omega, Or.inr ⟨by omega, rfl⟩⟩
      · have q2 : ¬ (4294967296 : Int64).toInt < ((x * (10 : Int64)) + (c - (48 : Int32)).toInt64).toInt := fun h => q (Int64.lt_iff_toInt_lt.mpr h)
        rw [eB, m2] at q2
        rw [if_neg q, m2]
        exact ⟨by omega, Or.inl ⟨by omega, by omega⟩⟩
theorem pl_sixteens {Q : Int32 → St → Prop} (hf : σ 1 = f) (hN : (σ 2 1).toInt = N) (h16 : N ≤ 16000) (hp : (σ 2 2).toInt = p) (hL : RWq σ L) (hl : L.length ≤ 16001) (hh : HSq (byt f N) p)
    (k1 : ∀ s k v e, KTq σ s → TOKq (byt f N) p k v e → e ≤ N → RWq s (L ++ [(k, v, p)]) → (s 2 2).toInt = e → Q 1 s) (k0 : ∀ s, KTq σ s → BADq (byt f N) p → FNq s L 1 → Q 0 s) : pk_X10_sixteens σ Q := by
  have hin := byt_in (f := f) (N := N) (i := p) (by omega)
  have hin2 := byt_in (f := f) (N := N) (i := p + 2) (by omega)
  have nl : ¬ LTq (byt f N p) := by omega
  have hb : DGq (byt f N p) := by omega
  have oi : ∀ {c : Int32} {i : Int}, c.toInt = hxq i → c = Int32.ofInt (hxq i) := fun {c i} h => by rw [← h, Int32.ofInt_toInt]
  unfold pk_X10_sixteens
  refine pl_byte hf hN h16 (i := p + 2) (by rw [ad0 i2 (by omega) (by omega), hp]) (fun v hv => pl_sixteenth (fun h hh2 => ⟨fun x w c => 2 ≤ w.toInt ∧ p + w.toInt ≤ N ∧ c.toInt = hxq (byt f N (p + w.toInt)) ∧ (∀ i, p + 2 ≤ i → i < p + w.toInt → HXq (byt f N i)) ∧ x = hvq (byt f N) (p + 2) (w.toInt - 2).toNat, ⟨by decide, by rw [i2]; omega, by rw [i2, ← hv]; exact hh2, fun i h1 h2 => by rw [i2] at h2; omega, rfl⟩, ?_⟩))
  rintro x w c ⟨g1, g2, g3, g4, g5⟩
  have up : (w + 1).toInt = w.toInt + 1 := ad1 (by omega)
  have ew : p + w.toInt - p - 2 = w.toInt - 2 := by omega
  refine ⟨¬ HXq (byt f N (p + w.toInt)), fun j => ?_, fun c1 => by omega, fun c1 => ⟨fun d hx => ?_, fun d => ?_⟩⟩
  · have en : ENq HXq (byt f N) (p + 2) (p + w.toInt) := ⟨by omega, g4, j⟩
    refine ⟨fun c1 => ?_, fun c1 => ?_⟩
    · refine pl_tadd hp (by omega) h16 hL hl (e := p + w.toInt) ?_ rfl g2 k1
      rw [TOKq, if_neg nl, if_pos hb, if_pos hh, ew]
      exact ⟨en, by omega, by decide, g5⟩
    · refine pl_bad hL hl (fun s ks hs => k0 s ks ⟨by omega, ?_⟩ hs)
      rw [if_neg nl, if_pos hb, if_pos hh]
      exact ⟨_, en, by omega⟩
  · have := hx_iff.mpr hx
    omega
  · have hd : HXq (byt f N (p + w.toInt)) := hx_iff.mp (by omega)
    have hin3 := byt_in (f := f) (N := N) (i := p + w.toInt) (by omega)
    have e1 : ((σ 2 2) + w).toInt = p + w.toInt := by rw [ad (by omega) (by omega), hp]
    have en : ((w + 1).toInt - 2).toNat = (w.toInt - 2).toNat + 1 := by omega
    have et : p + 2 + (((w.toInt - 2).toNat : Nat) : Int) = p + w.toInt := by omega
    refine pl_byte hf hN h16 (i := p + (w + 1).toInt) (by rw [ad0 i1 (by omega) (by omega)]; omega) (fun v2 hv2 => pl_sixteenth (fun h2 hh3 => ⟨by omega, by omega, by rw [← hv2]; exact hh3, fun i h1 h2 => ?_, ?_⟩))
    · by_cases q : i = p + w.toInt
      · rw [q]
        exact hd
      · exact g4 i h1 (by omega)
    · rw [en, hv_s, et, ← g5, ← oi g3]
theorem pl_codeAt {Q : Int32 → Prop} {q : Int32} {i : Int} (hf : σ 1 = f) (hN : (σ 2 1).toInt = N) (h16 : N ≤ 16000) (hx : x.toInt = i) (hi : i ≤ 100000) (k : ∀ v : Int32, v.toInt = cdq (byt f N) q.toInt i → Q v) : pk_X10_codeAt x q σ Q := by
  have m1 : ((-1 : Int32)).toInt = -1 := by decide
  unfold pk_X10_codeAt
  refine pl_byte hf hN h16 hx (fun v hv => ⟨fun c => ?_, fun c => ⟨fun c1 => k _ ?_, fun c1 => ⟨fun c2 => k _ ?_, fun c2 => ⟨fun c3 => k _ ?_, fun c3 => k _ ?_⟩⟩⟩⟩)
  · have hin := byt_in (f := f) (N := N) (i := i) (by omega)
    have e92 : byt f N i = 92 := by omega
    refine pl_byte hf hN h16 (i := i + 1) (by rw [ad0 i1 (by omega) (by omega), hx]) (fun w hw => ⟨fun d => k _ ?_, fun d => ⟨fun d1 => k _ ?_, fun d1 => ⟨fun d2 => k _ ?_, fun d2 => ⟨fun d3 => k _ ?_, fun d3 => ⟨fun d4 => k _ ?_, fun d4 => k _ ?_⟩⟩⟩⟩⟩)
    · rw [cdq, if_pos e92, if_pos (by omega)]
      exact hw
    · rw [cdq, if_pos e92, if_pos (by omega)]
      exact hw
    · rw [cdq, if_pos e92, if_neg (by omega), if_pos (by omega)]
      rfl
    · rw [cdq, if_pos e92, if_pos (by omega)]
      exact hw
    · rw [cdq, if_pos e92, if_neg (by omega), if_neg (by omega), if_pos (by omega)]
      rfl
    · rw [cdq, if_pos e92, if_neg (by omega), if_neg (by omega), if_neg (by omega)]
      exact m1
  · rw [cdq, if_neg (by omega), if_neg (by omega)]
    exact m1
  · rw [cdq, if_neg (by omega), if_neg (by omega)]
    exact m1
  · rw [cdq, if_neg (by omega), if_pos (by omega)]
    exact hv
  · rw [cdq, if_neg (by omega), if_neg (by omega)]
    exact m1
theorem pl_widthAt {Q : Int32 → Prop} {i : Int} (hf : σ 1 = f) (hN : (σ 2 1).toInt = N) (h16 : N ≤ 16000) (hx : x.toInt = i) (k : ∀ v : Int32, v.toInt = wdq (byt f N) i → Q v) : pk_X10_widthAt x σ Q := by
  unfold pk_X10_widthAt
  refine pl_byte hf hN h16 hx (fun v hv => ⟨fun c => k _ ?_, fun c => k _ ?_⟩)
  · rw [wdq, if_neg (by omega)]
    rfl
  · rw [wdq, if_pos (by omega)]
    rfl
theorem wd_r {b : Int → Int} {i : Int} : 1 ≤ wdq b i ∧ wdq b i ≤ 2 := by
  unfold wdq
  split <;> omega
theorem pl_string {Q : Int32 → St → Prop} (hf : σ 1 = f) (hN : (σ 2 1).toInt = N) (h16 : N ≤ 16000) (hp : (σ 2 2).toInt = p) (hL : RWq σ L) (hl : L.length ≤ 16001) (hb : byt f N p = 34)
    (k1 : ∀ s k v e, KTq σ s → TOKq (byt f N) p k v e → e ≤ N → RWq s (L ++ [(k, v, p)]) → (s 2 2).toInt = e → Q 1 s) (k0 : ∀ s, KTq σ s → BADq (byt f N) p → FNq s L 1 → Q 0 s) : pk_X10_string σ Q := by
  have hin := byt_in (f := f) (N := N) (i := p) (by omega)
  have e34 : ((34 : Int32)).toInt = 34 := by decide
  unfold pk_X10_string
  refine ⟨fun w c => ∃ n : Nat, c.toInt = n ∧ n ≤ 201 ∧ p + w.toInt = spq (byt f N) p n ∧ 1 ≤ w.toInt ∧ p + w.toInt ≤ N ∧ ∀ j, j < n → byt f N (spq (byt f N) p j) ≠ 34 ∧ 0 ≤ cdq (byt f N) 34 (spq (byt f N) p j), ⟨0, rfl, by decide, rfl, by decide, by rw [i1]; omega, fun j h => by omega⟩, ?_⟩
  rintro w c ⟨n, g1, g2, g3, g4, g5, g6⟩
  have e1 : ((σ 2 2) + w).toInt = p + w.toInt := by rw [ad (by omega) (by omega), hp]
  refine ⟨n = 201 ∨ (n ≤ 200 ∧ byt f N (p + w.toInt) = 34), fun j => ⟨fun c1 => ?_, fun c1 => ?_⟩, fun c1 => by omega, fun c1 => pl_byte hf hN h16 e1 (fun v hv => ⟨fun d => by omega, fun d => pl_codeAt hf hN h16 e1 (by omega) (fun v2 hv2 => ⟨fun d2 => ?_, fun d2 => ?_⟩)⟩)⟩
  · have h34 : byt f N (p + w.toInt) = 34 := by omega
    have hin2 := byt_in (f := f) (N := N) (i := p + w.toInt) (by omega)
    have ew : (w + (1 : Int32)).toInt = w.toInt + 1 := ad0 i1 (by omega) (by omega)
    refine pl_tadd hp (by omega) h16 hL hl (e := p + w.toInt + 1) ?_ (by omega) (by omega) k1
    rw [TOKq, if_neg (by omega), if_neg (by omega), if_neg (by omega), if_pos hb]
    exact ⟨n, ⟨by omega, g6, by rw [← g3]; exact h34⟩, by omega, by decide, g1⟩
  · refine pl_bad hL hl (fun s ks hs => k0 s ks ⟨by omega, ?_⟩ hs)
    rw [if_neg (by omega), if_neg (by omega), if_neg (by omega), if_pos hb]
    exact ⟨200, Nat.le_refl _, fun j hj => g6 j (by omega), (g6 200 (by omega)).1, Or.inr rfl⟩
  · rw [e34] at hv2
    have hu := cd_up (b := byt f N) rfl (by omega : 0 ≤ cdq (byt f N) 34 (p + w.toInt))
    refine pl_widthAt hf hN h16 e1 (fun v3 hv3 => ⟨n + 1, by rw [ad1 (by omega)]; omega, by omega, ?_, ?_, ?_, fun j hj => ?_⟩)
    · rw [sp_s, ← g3, ad (by have := wd_r (b := byt f N) (i := p + w.toInt); omega) (by have := wd_r (b := byt f N) (i := p + w.toInt); omega)]
      omega
    · have := wd_r (b := byt f N) (i := p + w.toInt)
      rw [ad (by omega) (by omega)]
      omega
    · have := wd_r (b := byt f N) (i := p + w.toInt)
      rw [ad (by omega) (by omega)]
      omega
    · by_cases q : j = n
      · rw [q, ← g3]
        exact ⟨by omega, by omega⟩
      · exact g6 j (by omega)
  · rw [e34] at hv2
    refine pl_bad hL hl (fun s ks hs => k0 s ks ⟨by omega, ?_⟩ hs)
    rw [if_neg (by omega), if_neg (by omega), if_neg (by omega), if_pos hb]
    exact ⟨n, by omega, g6, by rw [← g3]; omega, Or.inl (by rw [← g3]; omega)⟩
theorem pl_character {Q : Int32 → St → Prop} (hf : σ 1 = f) (hN : (σ 2 1).toInt = N) (h16 : N ≤ 16000) (hp : (σ 2 2).toInt = p) (hL : RWq σ L) (hl : L.length ≤ 16001) (hb : byt f N p = 39)
    (k1 : ∀ s k v e, KTq σ s → TOKq (byt f N) p k v e → e ≤ N → RWq s (L ++ [(k, v, p)]) → (s 2 2).toInt = e → Q 1 s) (k0 : ∀ s, KTq σ s → BADq (byt f N) p → FNq s L 1 → Q 0 s) : pk_X10_character σ Q := by
  have hin := byt_in (f := f) (N := N) (i := p) (by omega)
  have e39 : ((39 : Int32)).toInt = 39 := by decide
  have e1 : ((σ 2 2) + (1 : Int32)).toInt = p + 1 := by rw [ad0 i1 (by omega) (by omega), hp]
  unfold pk_X10_character
  refine pl_codeAt hf hN h16 e1 (by omega) (fun v hv => pl_widthAt hf hN h16 e1 (fun w hw => ?_))
  rw [e39] at hv
  have hr := wd_r (b := byt f N) (i := p + 1)
  have ew : ((1 : Int32) + w).toInt = 1 + w.toInt := ad (by rw [i1]; omega) (by rw [i1]; omega)
  have ew2 : (((1 : Int32) + w) + (1 : Int32)).toInt = 2 + w.toInt := by rw [ad0 i1 (by omega) (by omega), ew]; omega
  refine ⟨cdq (byt f N) 39 (p + 1) < 0 ∨ byt f N (p + 1 + wdq (byt f N) (p + 1)) ≠ 39, fun j => ?_, fun c => by omega, fun c => pl_byte hf hN h16 (i := p + 1 + wdq (byt f N) (p + 1)) (by rw [ad (by omega) (by omega), ew]; omega) (fun u hu => ⟨fun d => ?_, fun d => by omega⟩)⟩
  · refine pl_bad hL hl (fun s ks hs => k0 s ks ⟨by omega, ?_⟩ hs)
    rw [if_neg (by omega), if_neg (by omega), if_pos hb]
    exact j
  · have hin2 := byt_in (f := f) (N := N) (i := p + 1 + wdq (byt f N) (p + 1)) (by omega)
    refine pl_tadd hp (by omega) h16 hL hl (e := p + 2 + wdq (byt f N) (p + 1)) ?_ (by omega) (by omega) k1
    rw [TOKq, if_neg (by omega), if_neg (by omega), if_pos hb]
    exact ⟨by omega, by omega, rfl, by decide, hv⟩
/-- the second byte of a sign of two or three -/
theorem sg_snd : ∀ w, w < 43 → 2 ≤ lSg w → (chI (gC 3 (bSg w + 1))).toInt = 61 ∨ (chI (gC 3 (bSg w + 1))).toInt = 60 ∨ (chI (gC 3 (bSg w + 1))).toInt = 62 ∨ (chI (gC 3 (bSg w + 1))).toInt = 43 ∨ (chI (gC 3 (bSg w + 1))).toInt = 45 ∨ (chI (gC 3 (bSg w + 1))).toInt = 38 ∨ (chI (gC 3 (bSg w + 1))).toInt = 124 := by decide +kernel
theorem sg_pos : ∀ w, w < 43 → ∀ i, i < 3 → i < lSg w → 33 ≤ (chI (gC 3 (bSg w + i))).toInt ∧ (chI (gC 3 (bSg w + i))).toInt ≤ 126 := by decide +kernel
theorem pl_mayGoOn {Q : Int32 → Prop} (k : ∀ w : Int32, (w.toInt = 0 ∧ ¬ (x.toInt = 61 ∨ x.toInt = 60 ∨ x.toInt = 62 ∨ x.toInt = 43 ∨ x.toInt = 45 ∨ x.toInt = 38 ∨ x.toInt = 124)) ∨ w.toInt = 1 → Q w) : pk_X10_mayGoOn x σ Q := by
  unfold pk_X10_mayGoOn
  refine ⟨fun _ => k _ (Or.inr (by decide)), fun _ => ⟨fun _ => k _ (Or.inr (by decide)), fun _ => ⟨fun _ => k _ (Or.inr (by decide)), fun _ => ⟨fun _ => k _ (Or.inr (by decide)), fun _ => ⟨fun _ => k _ (Or.inr (by decide)), fun _ => ⟨fun _ => k _ (Or.inr (by decide)), fun _ => ⟨fun _ => k _ (Or.inl ⟨by decide, by omega⟩), fun _ => k _ (Or.inr (by decide))⟩⟩⟩⟩⟩⟩⟩
theorem pl_sign {Q : Int32 → St → Prop} (hf : σ 1 = f) (hN : (σ 2 1).toInt = N) (h16 : N ≤ 16000) (hp : (σ 2 2).toInt = p) (hL : RWq σ L) (hl : L.length ≤ 16001) (hb : 0 ≤ byt f N p) (n1 : ¬ LTq (byt f N p)) (n2 : ¬ DGq (byt f N p)) (n3 : byt f N p ≠ 39) (n4 : byt f N p ≠ 34)
    (k1 : ∀ s k v e, KTq σ s → TOKq (byt f N) p k v e → e ≤ N → RWq s (L ++ [(k, v, p)]) → (s 2 2).toInt = e → Q 1 s) (k0 : ∀ s, KTq σ s → BADq (byt f N) p → FNq s L 1 → Q 0 s) : pk_X10_sign σ Q := by
  have hin := byt_in hb
  have e20 : ((20 : Int32)).toInt = 20 := by decide
  unfold pk_X10_sign
  refine pl_byte hf hN h16 (i := p + 1) (by rw [ad0 i1 (by omega) (by omega), hp]) (fun v hv => pl_mayGoOn (fun g hg => ⟨fun y => y.toInt ≤ 3 ∧ ∀ w n, SMq (byt f N) p n w → n ≤ y.toInt, fun y hy => ⟨fun x => x.toInt ≤ 3 ∧ ∀ w n, SMq (byt f N) p n w → n ≤ x.toInt, hy, ?_⟩, fun c => ⟨by decide, fun w n hm => ?_⟩, fun c => ⟨by decide, fun w n hm => ?_⟩⟩))
  · rintro x ⟨h1, h2⟩
    refine ⟨fun c => pl_bad hL hl (fun s ks hs => k0 s ks ⟨hb, ?_⟩ hs), fun c => pl_listed1 hf hN h16 hp (by omega) (n := x) (fun r hr => ⟨fun d => ⟨?_, fun w n hm => ?_⟩, fun d => ?_⟩)⟩
    · rw [if_neg n1, if_neg n2, if_neg n3, if_neg n4]
      intro w n hm
      have := h2 w n hm
      have := sg_len w hm.1
      have := hm.2.1
      omega
    · rw [dc1 (by omega)]
      omega
    · rw [dc1 (by omega)]
      have q := h2 w n hm
      by_cases e : n = x.toInt
      · rcases hr with ⟨w', r1, r2⟩ | ⟨r1, r2⟩
        · omega
        · rw [e] at hm
          exact absurd hm (r1 w)
      · omega
    · rcases hr with ⟨w, r1, r2⟩ | ⟨r1, r2⟩
      · have hw := r1.1
        have hl2 := sg_len w hw
        have h3 := r1.2.1
        have hc := sg_pos w hw (lSg w - 1) (by omega) (by omega)
        have hm := r1.2.2 (lSg w - 1) (by omega)
        have hin2 := byt_in (f := f) (N := N) (i := p + ((lSg w - 1 : Nat) : Int)) (by omega)
        have ee : p + x.toInt - p = x.toInt := by omega
        refine pl_tadd hp (by omega) h16 hL hl (e := p + x.toInt) ?_ rfl (by omega) k1
        rw [TOKq, if_neg n1, if_neg n2, if_neg n3, if_neg n4, ee]
        exact ⟨w, r1, h2, by rw [ad (by omega) (by omega)]; omega, rfl⟩
      · omega
  · have hw := hm.1
    have hl2 := sg_len w hw
    have h3 := hm.2.1
    by_cases q : 2 ≤ lSg w
    · have hc := sg_snd w hw q
      have h4 := hm.2.2 1 (by omega)
      have e1 : p + ((1 : Nat) : Int) = p + 1 := rfl
      rw [e1, ← hv] at h4
      rcases hg with ⟨_, hg⟩ | hg
      · omega
      · omega
    · rw [i1]
      omega
  · have hl2 := sg_len w hm.1
    have h3 := hm.2.1
    rw [i3]
    omega
theorem pl_token {Q : Int32 → St → Prop} (hf : σ 1 = f) (hN : (σ 2 1).toInt = N) (h16 : N ≤ 16000) (hp : (σ 2 2).toInt = p) (hp0 : 0 ≤ p ∧ p ≤ N) (hL : RWq σ L) (hl : L.length ≤ 16001)
    (k1 : ∀ s k v e, KTq σ s → TOKq (byt f N) p k v e → 0 ≤ byt f N p → e ≤ N → RWq s (L ++ [(k, v, p)]) → (s 2 2).toInt = e → Q 1 s) (k0 : ∀ s, KTq σ s → BADq (byt f N) p → FNq s L 1 → Q 0 s) (ke : ∀ s, KTq σ s → byt f N p < 0 → FNq s L 0 → Q 0 s) : pk_X10_token σ Q := by
  unfold pk_X10_token
  refine pl_byte hf hN h16 hp (fun v hv => ⟨fun c => ?_, fun c => pl_add0 hL hl hp (fun s ks hs _ => ke s ks (by omega) (fn_rw hs))⟩)
  have k1' := fun s k v e ks ht he hr hq => k1 s k v e ks ht (by omega) he hr hq
  refine pl_isLetter (fun d => ⟨fun z => absurd z (by decide), fun _ => pl_word hf hN h16 hp hL hl (by omega) k1' k0⟩) (fun d => ⟨fun _ => ?_, fun z => absurd rfl z⟩)
  refine pl_isDigit (fun d2 => ⟨fun z => absurd z (by decide), fun _ => ?_⟩) (fun d2 => ⟨fun _ => ⟨fun d3 => ⟨fun d4 => pl_sign hf hN h16 hp hL hl (by omega) (by omega) (by omega) (by omega) (by omega) k1' k0, fun d4 => pl_string hf hN h16 hp hL hl (by omega) k1' k0⟩, fun d3 => pl_character hf hN h16 hp hL hl (by omega) k1' k0⟩, fun z => absurd rfl z⟩)
  refine ⟨¬ HSq (byt f N) p, fun j => pl_digits hf hN h16 hp hL hl (by omega) j k1' k0, fun e => by omega, fun e => pl_byte hf hN h16 (i := p + 1) (by rw [ad0 i1 (by omega) (by omega), hp]) (fun v2 hv2 => ⟨fun e2 => by omega, fun e2 => pl_byte hf hN h16 (i := p + 2) (by rw [ad0 i2 (by omega) (by omega), hp]) (fun v3 hv3 => pl_sixteenth (fun w hw => ⟨fun e3 => ?_, fun e3 => pl_sixteens hf hN h16 hp hL hl ⟨by omega, by omega, ?_⟩ k1' k0⟩))⟩)⟩
  · rintro ⟨_, _, h⟩
    rw [← hv3] at h
    have := hx_iff.mpr h
    omega
  · rw [← hv3]
    exact hx_iff.mp (by omega)
/-- scan(): the tokens are those of the text -/
theorem pl_scan {Q : St → Prop} (ha : a.toInt = N) (h0 : 0 ≤ N) (h16 : N ≤ 16000) (hf : σ 1 = f)
    (k : ∀ s L q c, Kp [(2, 1), (2, 2), (2, 3), (2, 4)] [13, 14, 15, 16] σ s → RCHq (byt f N) (0, []) (q, L) → FINq (byt f N) q c → FNq s L c → L.length ≤ 16000 → Q s) : pk_X10_scan a σ Q := by
  unfold pk_X10_scan
  generalize hu : upC (upC (upC (upC σ 2 1 a) 2 2 (0 : Int32)) 2 3 (1 : Int32)) 2 4 (0 : Int32) = u
  have ku : Kp [(2, 1), (2, 2), (2, 3), (2, 4)] [13, 14, 15, 16] σ u := by rw [← hu]; exact kp_f (kp_f (kp_f (kp_f kp_rf rfl) rfl) rfl) rfl
  have us : (u 2 1).toInt = N := by rw [← hu, rdA_ne (by decide), rdA_ne (by decide), rdA_ne (by decide), rdA_eq rfl]; exact ha
  have up : (u 2 2).toInt = 0 := by rw [← hu, rdA_ne (by decide), rdA_ne (by decide), rdA_eq rfl]; rfl
  have uc : (u 2 4).toInt = 0 := by rw [← hu, rdA_eq rfl]; rfl
  have uf : u 1 = f := by rw [← hf]; exact funext (fun j => ku 1 j rfl rfl)
  refine ⟨fun m c s => KTq u s ∧ ((m.toInt = 1 ∧ ∃ q L, RCHq (byt f N) (0, []) (q, L) ∧ RWq s L ∧ (s 2 2).toInt = q ∧ (L.length : Int) ≤ q ∧ q ≤ N ∧ c.toInt = L.length) ∨ (m.toInt = 0 ∧ ∃ q L d, RCHq (byt f N) (0, []) (q, L) ∧ FINq (byt f N) q d ∧ FNq s L d ∧ (L.length : Int) ≤ N)), ⟨kp_rf, Or.inl ⟨rfl, 0, [], rch_0, ⟨uc, fun j k v q e => by cases e⟩, up, Int.le_refl _, h0, by decide⟩⟩, ?_⟩
  rintro m c s hm ⟨ks, h⟩
  have fin : (m.toInt = 0 ∧ ∃ q L d, RCHq (byt f N) (0, []) (q, L) ∧ FINq (byt f N) q d ∧ FNq s L d ∧ (L.length : Int) ≤ N) → Q s := fun ⟨_, q, L, d, h1, h2, h3, h4⟩ => k s L q d (kp_tr ku (kp_sub ks rfl rfl)) h1 h2 h3 (by omega)
  rcases h with ⟨h1, q, L, g1, g2, g3, g4, g5, g6⟩ | h
  · have sf : s 1 = f := by rw [← uf]; exact funext (fun j => ks 1 j rfl rfl)
    have sN : (s 2 1).toInt = N := by rw [show s 2 1 = u 2 1 from ks 2 1 rfl rfl]; exact us
    have ucc : (c + 1).toInt = c.toInt + 1 := ad1 (by omega)
    clear fin
    refine ⟨fun c1 => by omega, fun c1 => ⟨fun z => by omega, fun _ => pl_blanks sf sN h16 g3 (by omega) g2 (by omega) (fun s1 q1 k1 h1 h2 h3 h4 => ?_) (fun s1 q1 k1 h3 h4 h5 => ?_)⟩⟩
    · have gg := h3 (fun y => RCHq (byt f N) (0, []) y) g1 (fun y z h g => rch_s h g)
      have s1f : s1 1 = f := by rw [← sf]; exact funext (fun j => k1 1 j rfl rfl)
      have s1N : (s1 2 1).toInt = N := by rw [show s1 2 1 = s 2 1 from k1 2 1 rfl rfl]; exact sN
      have kk : ∀ r, KTq s1 r → KTq u r := fun r kr => kp_tr ks (kp_tr (kp_sub k1 rfl rfl) kr)
      refine ⟨fun y r => KTq u r ∧ ((y.toInt = 1 ∧ ∃ q L, RCHq (byt f N) (0, []) (q, L) ∧ RWq r L ∧ (r 2 2).toInt = q ∧ (L.length : Int) ≤ q ∧ q ≤ N ∧ (c + 1).toInt = L.length) ∨ (y.toInt = 0 ∧ ∃ q L d, RCHq (byt f N) (0, []) (q, L) ∧ FINq (byt f N) q d ∧ FNq r L d ∧ (L.length : Int) ≤ N)), fun y r _ hr => hr, fun r => KTq u r ∧ ∃ q L d, RCHq (byt f N) (0, []) (q, L) ∧ FINq (byt f N) q d ∧ FNq r L d ∧ (L.length : Int) ≤ N, fun r hr => ⟨hr.1, Or.inr ⟨rfl, hr.2⟩⟩, fun z => absurd z (by decide), fun _ => pl_token s1f s1N h16 h1 (by omega) (rw_kb g2 k1) (by omega) (fun r k v e kr ht hb he hw hq => ⟨fun z => absurd z (by decide), fun _ => ⟨kk r kr, Or.inl ⟨rfl, e, _, rch_s gg (Or.inr ⟨⟨hb, h4⟩, k, v, e, ht, rfl⟩), hw, hq, ?_, he, ?_⟩⟩⟩) (fun r kr hb hr => ⟨fun _ => ⟨kk r kr, q1, L, 1, gg, Or.inr ⟨Or.inr ⟨h4, hb⟩, rfl⟩, hr, by omega⟩, fun z => absurd rfl z⟩) (fun r kr hb hr => ⟨fun _ => ⟨kk r kr, q1, L, 0, gg, Or.inl ⟨hb, rfl⟩, hr, by omega⟩, fun z => absurd rfl z⟩)⟩
      · have := tok_up ht
        rw [List.length_append]
        show ((L.length + 1 : Nat) : Int) ≤ e
        omega
      · rw [List.length_append]
        show (c + 1).toInt = ((L.length + 1 : Nat) : Int)
        omega
    · have gg := h3 (fun y => RCHq (byt f N) (0, []) y) g1 (fun y z h g => rch_s h g)
      exact ⟨fun y r => KTq u r ∧ ((y.toInt = 1 ∧ ∃ q L, RCHq (byt f N) (0, []) (q, L) ∧ RWq r L ∧ (r 2 2).toInt = q ∧ (L.length : Int) ≤ q ∧ q ≤ N ∧ (c + 1).toInt = L.length) ∨ (y.toInt = 0 ∧ ∃ q L d, RCHq (byt f N) (0, []) (q, L) ∧ FINq (byt f N) q d ∧ FNq r L d ∧ (L.length : Int) ≤ N)), fun y r _ hr => hr, fun r => KTq u r ∧ ∃ q L d, RCHq (byt f N) (0, []) (q, L) ∧ FINq (byt f N) q d ∧ FNq r L d ∧ (L.length : Int) ≤ N, fun r hr => ⟨hr.1, Or.inr ⟨rfl, hr.2⟩⟩, fun _ => ⟨kp_tr ks k1, q1, L, 1, gg, Or.inr ⟨Or.inl h4, rfl⟩, h5, by omega⟩, fun z => absurd rfl z⟩
  · exact ⟨fun _ => fin h, fun _ => ⟨fun _ => fin h, fun z => absurd h.1 z⟩⟩
end TD
end

