/-! the class's grammar of statements: initials -/
section SIT
variable {kd vl : Nat → Int} {n p d w ty : Nat} {σ0 σ s : St} {g : List Gsq} {a1 a2 a3 : Int32} {k lk : Int} {Q : St → Prop}
/-- initials so far: R what is still to come -/
theorem it_more {p1 : Nat} {l : List Stq} {gi : List Gsq} {x : Nat} {p0 : Nat} (hv : EVq (fun n => EXn kd n p1) (some (w, gqs l))) (c : kd w = 26)
    (h1 : ∀ q l k, EVq (fun n => ITn kd n p1) (some (q, l, k)) → EVq (fun n => ITn kd n p0) (some (q, gi ++ l, x + k))) (h0 : EVq (fun n => ITn kd n p1) none → EVq (fun n => ITn kd n p0) none) :
    (∀ q l2 k, EVq (fun n => ITn kd n (w + 1)) (some (q, l2, k)) → EVq (fun n => ITn kd n p0) (some (q, gi ++ (gqs l ++ [gq (stp 44 w)]) ++ l2, (x + 1) + k))) ∧ (EVq (fun n => ITn kd n (w + 1)) none → EVq (fun n => ITn kd n p0) none) := by
  refine ⟨fun q l2 k h => ?_, fun h => h0 (ev_up (ev_b hv (ev_t c (ev_b0 h))))⟩
  have := h1 q (gqs l ++ [gq (stp 44 w)] ++ l2) (k + 1) (ev_up (ev_b hv (ev_t c (ev_b h ev_c))))
  rw [show x + 1 + k = x + (k + 1) from by omega]
  simp only [List.append_assoc] at this ⊢
  exact this
theorem gt_initial (t0 : TKv σ0 kd vl n) (br : Bool) (G : Int → List Gsq) (hset : ∀ s p ri (v : Int32), GTq kd n σ0 s p (G 0 ++ ri) → GTq kd n σ0 (upF s 21 (setv 32100 (s 21) a1 v)) p (G (if br = true then v.toInt else 0) ++ ri)) (hG : br = false → ∀ c, G c = G 0) (hlen : ∀ c, lnq (G c) = lnq (G 0))
    (h : GTq kd n σ0 σ p (G 0)) (c30 : kd p = 30) (ha1 : 0 ≤ a1.toInt ↔ br = true) (ha2 : a2.toInt = (ty : Int)) (hl : (lnq (G 0) : Int) ≤ 2 * p + 66)
    (k1 : ∀ s p' ri cnt, EVq (fun n => INn kd vl n br ty p) (some (p', ri, cnt)) → GTq kd n σ0 s p' (G cnt ++ ri) → (lnq ri : Int) + 2 * p + 1 ≤ 2 * p' → p < p' → Q s) (k0 : ∀ s, GJq σ0 s → EVq (fun n => INn kd vl n br ty p) none → Q s) : pk_X3_initial a1 a2 σ Q := by
  have h16 := t0.1.2.1
  have ep := gt_at h
  unfold pk_X3_initial
  refine gt_adv t0 h (by omega) (fun s6 g6 => ?_)
  have hn6 := gt_n g6
  have ek6 := gt_kd g6
  have ep6 := gt_at g6
  have tk6 := gt_tk t0 g6
  have hs6 : ∀ s, GTq kd n σ0 s (p + 1) (G 0) → GTq kd n σ0 (upF s 21 (setv 32100 (s 21) a1 ((atv 16002 (s6 14) (s6 3 1)) + (1 : Int32)))) (p + 1) (G (if br = true then ((atv 16002 (s6 14) (s6 3 1)) + (1 : Int32)).toInt else 0)) := fun s hs => by
    have := hset s (p + 1) [] ((atv 16002 (s6 14) (s6 3 1)) + (1 : Int32)) (by rw [List.append_nil]; exact hs)
    rw [List.append_nil] at this
    exact this
  have hv14 : kd (p + 1) = 4 → ((atv 16002 (s6 14) (s6 3 1)) + (1 : Int32)).toInt = vl (p + 1) + 1 := fun c => by
    have e := t0.2 (p + 1) hn6 c
    have e14 : s6 14 = σ0 14 := funext (fun j => g6.1 14 j rfl rfl)
    rw [atv_at ep6 (by omega), e14]
    rw [ad1 (by omega), e.1]
  have hk2 : kd (p + 1) = 4 → (atv 16002 (s6 13) ((s6 3 1) + (1 : Int32))).toInt = kd (p + 2) := fun c => by
    have hlt := gst_kd tk6 g6.2.1 (by omega)
    have e2 : ((s6 3 1) + (1 : Int32)).toInt = ((p + 2 : Nat) : Int) := by rw [ad1 (by omega), ep6]; omega
    rw [atv_at e2 (by omega)]
    exact tk6.2.2.1 (p + 2) (by omega)
  refine ⟨fun y => (y.toInt ≠ 0 ↔ br = true ∧ ALq kd (p + 1)), fun y58 _ hy58 => ?_, ¬ (br = true ∧ ALq kd (p + 1)), fun hx => ⟨fun h => absurd rfl h, fun h => absurd h hx⟩, fun c hx => by have := ha1.2 hx.1; omega, fun c => ⟨fun c4 hx => ?_, fun c4 => ⟨br = true ∧ ALq kd (p + 1), fun hx => ⟨fun _ => hx, fun _ => by decide⟩, fun c26 => ?_, fun n26 => ⟨fun n27 hx => ?_, fun c27 => ?_⟩⟩⟩⟩
  rotate_left
  · rw [ek6] at c4
    exact c4 hx.2.1
  · rw [ek6] at c4
    rw [hk2 c4] at c26
    exact ⟨ha1.1 c, c4, Or.inl c26⟩
  · rw [ek6] at c4
    rw [hk2 c4] at n26 n27
    exact hx.2.2.elim n26 n27
  · rw [ek6] at c4
    rw [hk2 c4] at c27
    exact ⟨ha1.1 c, c4, Or.inr c27⟩
  refine ⟨fun s => GTq kd n σ0 s (p + 1) (G (if br = true ∧ ALq kd (p + 1) then vl (p + 1) + 1 else 0)), fun s89 g89 => ?_, fun c => ?_, fun c => ?_⟩
  rotate_left
  · rw [if_neg (fun hx => (hy58.2 hx) c)]
    exact g6
  · have hx := hy58.1 c
    have := hs6 s6 g6
    rw [if_pos hx.1, hv14 hx.2.1] at this
    rw [if_pos hx]
    exact this
  have ek := gt_kd g89
  have ep89 := gt_at g89
  rw [ek]
  refine ⟨fun n22 => ⟨¬ (br = true ∧ ALq kd (p + 1) ∧ ty = 0), fun hj => ?_, fun c hx => (hy58.2 ⟨hx.1, hx.2.1⟩) c, fun c => ⟨fun c2 hx => c2 (by rw [ha2, hx.2.2]; rfl), fun c2 => ?_⟩⟩, fun c22 => ?_⟩
  · refine gt_expr t0 g89 (by rw [hlen]; omega) (fun s227 p1 l hev hln g227 hb hpp => ?_) (fun s227 j227 hev => gj_add j227 (fun _ s236 j236 => k0 s236 j236 (ev_f n22 (ev_f hj (ev_b0 hev)))))
    have hp1 := gt_n g227
    have e46 := lnq_one (a := stp 46 p) (by simp [stp])
    refine gt_add (a := stp 46 p) g227 (by rw [lnq_app, hlen]; omega) (by simp [stp]) (by rw [ep]; rfl) (fun _ s236 g236 _ => k1 s236 p1 (gqs l ++ [gq (stp 46 p)]) _ (ev_f n22 (ev_f hj (ev_b hev ev_c))) (by rw [← List.append_assoc]; exact g236) (by rw [lnq_app]; omega) (by omega))
  · have hx := hy58.1 c
    have ht : ty = 0 := by omega
    have c4 := hx.2.1
    have e45 := lnq_one (a := stp 45 (p + 1)) (by simp [stp])
    have e46 := lnq_one (a := ((46, p, 2, 0) : Stq)) (by simp)
    rw [if_pos hx] at g89
    refine gt_add (a := stp 45 (p + 1)) g89 (by rw [hlen]; omega) (by simp [stp]) (by rw [ep89]; rfl) (fun _ s204 g204 _ => gt_adv t0 g204 (by omega) (fun s209 g209 => gt_add (a := (46, p, 2, 0)) g209 (by have := gt_n g209; rw [lnq_app, hlen]; omega) (by simp) (by rw [ep]; rfl) (fun _ s218 g218 _ => k1 s218 (p + 2) ([gq (stp 45 (p + 1))] ++ [gq (46, p, 2, 0)]) (vl (p + 1) + 1) (ev_f n22 (ev_t ⟨hx.1, hx.2, ht⟩ ev_c)) ?_ ?_ (by omega))))
    · rw [← List.append_assoc]
      exact g218
    · rw [lnq_app]
      omega
  · have nal : ¬ (br = true ∧ ALq kd (p + 1)) := fun hx => by have := hx.2.1; omega
    rw [if_neg nal] at g89
    refine gt_adv t0 g89 (by omega) (fun s99 g99 => ?_)
    have hn99 := gt_n g99
    refine ⟨fun x6 x7 s => (∃ p1 gi, (x7.toInt = 1 ∧ GTq kd n σ0 s p1 (G 0 ++ gi) ∧ (0 ≤ x6.toInt ∧ x6.toInt + p + 2 ≤ p1) ∧ (lnq gi : Int) + 2 * p + 4 ≤ 2 * p1 ∧ (∀ q l k, EVq (fun n => ITn kd n p1) (some (q, l, k)) → EVq (fun n => ITn kd n (p + 2)) (some (q, gi ++ l, x6.toInt.toNat + k))) ∧ (EVq (fun n => ITn kd n p1) none → EVq (fun n => ITn kd n (p + 2)) none))
      ∨ (x7.toInt = 0 ∧ GTq kd n σ0 s p1 (G 0 ++ gi) ∧ (0 ≤ x6.toInt ∧ x6.toInt ≤ 20000) ∧ (lnq gi : Int) + 2 * p + 4 ≤ 2 * p1 ∧ (kd p1 = 23 → EVq (fun n => ITn kd n (p + 2)) (some (p1 + 1, gi, x6.toInt.toNat))) ∧ (kd p1 ≠ 23 → EVq (fun n => ITn kd n (p + 2)) none)))
      ∨ (x7.toInt = 0 ∧ GJq σ0 s ∧ EVq (fun n => ITn kd n (p + 2)) none), ?_, ?_⟩
    · refine Or.inl ⟨p + 2, [], Or.inl ⟨rfl, by rw [List.append_nil]; exact g99, ⟨by decide, by rw [i0]; omega⟩, by rw [lnq_nil]; omega, fun q l k hx => ?_, id⟩⟩
      have e0 : (0 : Int32).toInt.toNat + k = k := by rw [i0]; omega
      rw [e0, List.nil_append]
      exact hx
    rintro x6 x7 s108 w7 hL
    have nofin : EVq (fun n => ITn kd n (p + 2)) none → EVq (fun n => INn kd vl n br ty p) none := fun hx => ev_t c22 (ev_b0 hx)
    have tail : ∀ s, GJq σ0 s → EVq (fun n => ITn kd n (p + 2)) none → pk_X3_expect (23 : Int32) s (fun s160 => pk_X3_add (46 : Int32) (σ 3 1) (1 : Int32) (0 : Int32) (upF s160 21 (setv 32100 (s160 21) a1 x6)) (fun v179 s179 => Q s179)) := fun s j hn => gj_expect j (by decide) (fun s160 j160 => gj_add (gj_F j160 rfl) (fun _ s179 j179 => k0 s179 j179 (nofin hn)))
    have more : x7.toInt ≠ 0 → pkG_expression (1 : Int32) s108 (fun s127 => pk_X3_add (44 : Int32) (s127 3 1) (0 : Int32) (0 : Int32) s127 (fun v139 s139 => pk_X3_accept (26 : Int32) s139 (fun v146 s146 => (∃ p1 gi, (v146.toInt = 1 ∧ GTq kd n σ0 s146 p1 (G 0 ++ gi) ∧ (0 ≤ (x6 + 1).toInt ∧ (x6 + 1).toInt + p + 2 ≤ p1) ∧ (lnq gi : Int) + 2 * p + 4 ≤ 2 * p1 ∧ (∀ q l k, EVq (fun n => ITn kd n p1) (some (q, l, k)) → EVq (fun n => ITn kd n (p + 2)) (some (q, gi ++ l, (x6 + 1).toInt.toNat + k))) ∧ (EVq (fun n => ITn kd n p1) none → EVq (fun n => ITn kd n (p + 2)) none))
      ∨ (v146.toInt = 0 ∧ GTq kd n σ0 s146 p1 (G 0 ++ gi) ∧ (0 ≤ (x6 + 1).toInt ∧ (x6 + 1).toInt ≤ 20000) ∧ (lnq gi : Int) + 2 * p + 4 ≤ 2 * p1 ∧ (kd p1 = 23 → EVq (fun n => ITn kd n (p + 2)) (some (p1 + 1, gi, (x6 + 1).toInt.toNat))) ∧ (kd p1 ≠ 23 → EVq (fun n => ITn kd n (p + 2)) none)))
      ∨ (v146.toInt = 0 ∧ GJq σ0 s146 ∧ EVq (fun n => ITn kd n (p + 2)) none)))) := fun c7 => by
      rcases hL with ⟨p1, gi, ⟨e7, g108, hx6, hb, hc1, hc0⟩ | ⟨e7, _⟩⟩ | ⟨e7, _⟩
      · have hp1 := gt_n g108
        refine gt_expr t0 g108 (by rw [lnq_app]; omega) (fun s127 p2 l hev hln g127 hb2 hpp => ?_) (fun s127 j127 hev => gj_add j127 (fun _ s139 j139 => gj_accept j139 (by decide) (Or.inr ⟨rfl, j139, hc0 (ev_up (ev_b0 hev))⟩)))
        have hp2 := gt_n g127
        have ep2 := gt_at g127
        have e44 := lnq_one (a := stp 44 p2) (by simp [stp])
        refine gt_add (a := stp 44 p2) g127 (by rw [lnq_app, lnq_app]; omega) (by simp [stp]) (by rw [ep2]; rfl) (fun _ s139 g139 _ => ?_)
        have e6 : (x6 + 1).toInt = x6.toInt + 1 := ad1 (by omega)
        have en : (x6 + 1).toInt.toNat = x6.toInt.toNat + 1 := by rw [e6]; omega
        have eg : G 0 ++ gi ++ gqs l ++ [gq (stp 44 p2)] = G 0 ++ (gi ++ (gqs l ++ [gq (stp 44 p2)])) := by simp only [List.append_assoc]
        have lg : (lnq (gi ++ (gqs l ++ [gq (stp 44 p2)])) : Int) = lnq gi + l.length + 1 := by rw [lnq_app, lnq_app]; omega
        rw [eg] at g139
        refine gt_accept t0 g139 (by decide) (fun c26 s146 g146 => Or.inl ⟨p2 + 1, gi ++ (gqs l ++ [gq (stp 44 p2)]), Or.inl ⟨rfl, g146, by rw [e6]; omega, by omega, ?_, ?_⟩⟩) (fun n26 => Or.inl ⟨p2, gi ++ (gqs l ++ [gq (stp 44 p2)]), Or.inr ⟨rfl, g139, by rw [e6]; omega, by omega, fun c23 => ?_, fun n23 => hc0 (ev_up (ev_b hev (ev_f n26 (ev_f n23 ev_c))))⟩⟩)
        · rw [en]
          exact (it_more hev c26 hc1 hc0).1
        · exact (it_more hev c26 hc1 hc0).2
        · rw [en]
          exact hc1 _ _ _ (ev_up (ev_b hev (ev_f n26 (ev_t c23 ev_c))))
      · exact absurd e7 c7
      · exact absurd e7 c7
    have hcnt : x7.toInt = 1 → ∀ p1 gi, GTq kd n σ0 s108 p1 (G 0 ++ gi) → (s108 2 4).toInt = (n : Int) + 1 ∧ p1 ≤ n := fun _ p1 gi g => ⟨(gt_tk t0 g).1, gt_n g⟩
    refine ⟨x7.toInt = 0, fun hj => ?_, fun c => ?_, fun c => ⟨id, fun c7 => more c7⟩⟩
    · rcases hL with ⟨p1, gi, ⟨e7, _⟩ | ⟨e7, g108, hx6, hb, y1, y0⟩⟩ | ⟨e7, j108, hn⟩
      · omega
      · have hp1 := gt_n g108
        have e46 := lnq_one (a := ((46, p, 1, 0) : Stq)) (by simp)
        refine gt_expect t0 g108 (by decide) (fun c23 s160 g160 => ?_) (fun c23 s160 j160 => gj_add (gj_F j160 rfl) (fun _ s179 j179 => k0 s179 j179 (nofin (y0 c23))))
        have gs := hset s160 (p1 + 1) gi x6 g160
        refine gt_add (a := (46, p, 1, 0)) gs (by rw [lnq_app, hlen]; omega) (by simp) (by rw [ep]; rfl) (fun _ s179 g179 _ => k1 s179 (p1 + 1) (gi ++ [gq (46, p, 1, 0)]) (x6.toInt.toNat : Int) (ev_t c22 (ev_b (y1 c23) ev_c)) ?_ (by rw [lnq_app]; omega) (by omega))
        rw [show ((x6.toInt.toNat : Nat) : Int) = x6.toInt from by omega, ← List.append_assoc]
        by_cases c : br = true
        · rw [if_pos c] at g179
          exact g179
        · rw [if_neg c] at g179
          rw [hG (by simpa using c)]
          exact g179
      · exact tail s108 j108 hn
    · rcases hL with ⟨p1, gi, ⟨e7, g108, hx6, _⟩ | ⟨e7, _⟩⟩ | ⟨e7, _⟩
      · have := hcnt e7 p1 gi g108
        omega
      · exact e7
      · exact e7
end SIT
