/-! jumps over stretches -/
section FORK
variable {σ s s' τ t t' : St} {vs z z' : List Nat}
theorem ty_X {g : Gh} {X X' : Nat → Prop} {E0 H L : Nat} (h : TY σ g X E0 H L) (hX : ∀ q, X q → X' q) : TY σ g X' E0 H L := by
  obtain ⟨h1, h2, h3, h4, h5⟩ := h
  exact ⟨h1, h2, h3, h4, fun q h k hq hlt hx => h5 q h k hq hlt (fun c => hx (hX q c))⟩
/-- words at and above are changed at one place -/
def aimS (σ : St) (p : Nat) : St := upC σ 8 (p + 1) (σ 0 17)
theorem rl_aim {p : Nat} (r : RL σ vs s t z) (hp : (σ 0 17).toInt ≤ (p + 1 : Nat)) : RL σ vs (aimS s p) t z := by
  obtain ⟨h1, h2, h3, h4, h5, h6, h7, h8, h9, h10, h11⟩ := r
  have k : KE σ (aimS s p) := kp_a h1 rfl
  exact ⟨k, ⟨tk_kp (fs := []) (cs := [8]) (kp_a kp_rf rfl) rfl rfl ⟨rfl, rfl, rfl, rfl, rfl⟩ rfl h2.1, h2.2.1, h2.2.2.1, h2.2.2.2.1, h2.2.2.2.2⟩, fun j hj => by
    show upC s 8 (p + 1) _ 8 j = _
    rw [rdA_ne (by omega)]
    exact h3 j hj, h4, h5, h6, h7, h8, h9, h10, h11⟩
theorem okc_br {g : Gh} {p h k : Nat} {op : Int32} (hop : (s 8) p = op) (ho : op = 16 ∨ op = 17) (h1 : 1 ≤ h) (hw : 0 ≤ (s 0 17).toInt) (n1 : Nx g k p (wcn s) (h - 1)) (n2 : Nx g k p (p + 2) (h - 1)) : OKc (aimS s p) g p h k := by
  have e1 : ((aimS s p) 8) p = op := by
    show upC s 8 (p + 1) _ 8 p = _
    rw [rdA_ne (by omega)]; exact hop
  have e2 : ((aimS s p) 8) (p + 1) = (s 0 17) := by
    show upC s 8 (p + 1) _ 8 (p + 1) = _
    rw [rdA_eq rfl]
  unfold OKc OPw
  rw [e1, e2]
  rcases ho with rfl | rfl
  · exact ⟨by decide, h1, hw, n1, n2⟩
  · exact ⟨by decide, h1, hw, n1, n2⟩
theorem okc_go {g : Gh} {p h k : Nat} (hop : (s 8) p = 15) (hw : 0 ≤ (s 0 17).toInt) (n1 : Nx g k p (wcn s) h) (n2 : g (p + 2) ≠ none) : OKc (aimS s p) g p h k := by
  have e1 : ((aimS s p) 8) p = 15 := by
    show upC s 8 (p + 1) _ 8 p = _
    rw [rdA_ne (by omega)]; exact hop
  have e2 : ((aimS s p) 8) (p + 1) = (s 0 17) := by
    show upC s 8 (p + 1) _ 8 (p + 1) = _
    rw [rdA_eq rfl]
  unfold OKc OPw
  rw [e1, e2]
  exact ⟨by decide, hw, n1, n2⟩
/-- a jump where a value decides, one stretch, a jump over the other stretch -/
theorem te_fork {s1 s2 s3 s4 s5 s6 : St} {op : Int32} {M N : Nat} (ho : op = 16 ∨ op = 17) (h0 : 0 ≤ (σ 0 17).toInt) (p1 : PU σ s1 [op, -1]) (r2 : RW s1 s2) (w2 : (s1 0 17).toInt ≤ (s2 0 17).toInt) (e2 : TE s1 s2 M 0 1) (p3 : PU s2 s3 [15, -1]) (e4 : s4 = aimS s3 (wcn σ)) (r5 : RW s4 s5) (w5 : (s4 0 17).toInt ≤ (s5 0 17).toInt) (e5 : TE s4 s5 M 0 1) (e6 : s6 = aimS s5 (wcn s2)) (f3 : OF s2 s5) (l3 : (s5 0 15) = (s2 0 15)) (hN : M + 1 ≤ N) : TE σ s6 N 1 1 := by
  intro g X E0 H L hT hH hf hs
  subst e4
  subst e6
  have W1 : (s1 0 17).toInt = (σ 0 17).toInt + 2 := p1.2.1
  have W3 : (s3 0 17).toInt = (s2 0 17).toInt + 2 := p3.2.1
  have W4 : ((aimS s3 (wcn σ)) 0 17).toInt = (s3 0 17).toInt := rfl
  have n0 : (wcn σ : Int) = (σ 0 17).toInt := nt h0
  have n1 : (wcn s1 : Int) = (s1 0 17).toInt := nt (by omega)
  have n2 : (wcn s2 : Int) = (s2 0 17).toInt := nt (by omega)
  have n3 : (wcn s3 : Int) = (s3 0 17).toInt := nt (by omega)
  have n4 : wcn (aimS s3 (wcn σ)) = wcn s3 := rfl
  have n5 : (wcn s5 : Int) = (s5 0 17).toInt := nt (by omega)
  have hf5 : (s5 0 12).toInt = 0 := hf
  have hs5 : (s5 0 15).toInt = 0 := hs
  have hf2 := of0 f3 hf5
  have hs2 : (s2 0 15).toInt = 0 := by rw [← l3]; exact hs5
  obtain ⟨g1, t1, x1, a1, b1⟩ := ty_hole (H' := H) hT h0 p1 rfl
  obtain ⟨g2, t2, x2⟩ := e2 g1 _ E0 H L t1 (by omega) hf2 hs2
  obtain ⟨g3, t3, x3, a3, b3⟩ := ty_hole (H' := H) t2 (by omega) p3 rfl
  -- the first jump
  have k1 : g3 (wcn σ) = some (H + 1, L) := by rw [x3 _ (by omega), x2 _ (by omega), a1]
  have k2 : g3 (wcn σ + 1) = none := by rw [x3 _ (by omega), x2 _ (by omega), b1]
  have k3 : g3 (wcn σ + 2) = some (H, L) := by
    have : wcn σ + 2 = wcn s1 := by omega
    rw [this, x3 _ (by omega), x2 _ (by omega)]
    exact t1.2.1
  have k4 : g3 (wcn s3) = some (H, L) := t3.2.1
  have o1 : (s3 8) (wcn σ) = op := by
    rw [p3.2.2.1 _ (by omega), r2 _ (by omega)]
    exact p1.2.2.2 0 _ rfl
  have t4 : TY (aimS s3 (wcn σ)) g3 (fun q => X q ∨ q = wcn s2) E0 H L := by
    refine ty_aim (ty_X t3 (fun q hq => ?_)) (by omega) (by omega) k2 (fun h k hh => ?_)
    · rcases hq with (hq | hq) | hq
      · exact Or.inl (Or.inl hq)
      · exact Or.inr hq
      · exact Or.inl (Or.inr hq)
    · rw [k1] at hh
      cases hh
      exact okc_br o1 ho (by omega) (by omega) ⟨by omega, L, k4, Or.inr ⟨rfl, by omega⟩⟩ ⟨by omega, L, k3, Or.inr ⟨rfl, by omega⟩⟩
  obtain ⟨g5, t5, x5⟩ := e5 g3 _ E0 H L t4 (by omega) hf5 hs5
  rw [n4] at x5
  have o2 : (s5 8) (wcn s2) = 15 := by
    rw [r5 _ (by omega)]
    show upC s3 8 (wcn σ + 1) _ 8 (wcn s2) = _
    rw [rdA_ne (by omega)]
    exact p3.2.2.2 0 _ rfl
  have k5 : g5 (wcn s2) = some (H + 1, L) := by rw [x5 _ (by omega), a3]
  refine ⟨g5, ty_aim t5 (by omega) (by omega) (by rw [x5 _ (by omega), b3]) (fun h k hh => ?_), ?_⟩
  · rw [k5] at hh
    cases hh
    refine okc_go o2 (by omega) ⟨by omega, L, t5.2.1, Or.inr ⟨rfl, by omega⟩⟩ ?_
    have : wcn s2 + 2 = wcn s3 := by omega
    rw [this, x5 _ (by omega), k4]
    exact fun q => by cases q
  · exact ext_tr (ext_tr (ext_tr x1 x2 (by omega)) x3 (by omega)) x5 (by omega)
end FORK
