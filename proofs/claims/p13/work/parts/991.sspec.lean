/-! the grammar of statements, variables, functions and units, as functions of the tokens' kinds -/
abbrev Gsq : Type := Stq × List Stq
def gq (x : Stq) : Gsq := (x, [])
def gqs (l : List Stq) : List Gsq := l.map gq
/-- in the end, given turns enough -/
def EVq {α : Type} (f : Nat → Option α) (R : Option α) : Prop := ∃ N, ∀ n, N ≤ n → f n = R
section EV
variable {α β : Type} {f f2 : Nat → Option α} {R R2 : Option α} {c : Prop}
theorem ev_one (h : EVq f R) (g : EVq f R2) : R = R2 := by
  obtain ⟨N, h⟩ := h
  obtain ⟨M, g⟩ := g
  rw [← h (N + M) (by omega), g (N + M) (by omega)]
theorem ev_c : EVq (fun _ => R) R := ⟨0, fun _ _ => rfl⟩
theorem ev_up (h : EVq (fun n => f (n + 1)) R) : EVq f R := by
  obtain ⟨N, h⟩ := h
  refine ⟨N + 1, fun n hn => ?_⟩
  obtain ⟨n', rfl⟩ : ∃ n', n = n' + 1 := ⟨n - 1, by omega⟩
  exact h n' (by omega)
theorem ev_b {a : α} {g : α → Nat → Option β} {S : Option β} (h : EVq f (some a)) (k : EVq (g a) S) : EVq (fun n => (f n).bind (fun r => g r n)) S := by
  obtain ⟨N, h⟩ := h
  obtain ⟨M, k⟩ := k
  refine ⟨N + M, fun n hn => ?_⟩
  show (f n).bind (fun r => g r n) = S
  rw [h n (by omega)]
  exact k n (by omega)
theorem ev_b0 {g : α → Nat → Option β} (h : EVq f none) : EVq (fun n => (f n).bind (fun r => g r n)) none := by
  obtain ⟨N, h⟩ := h
  refine ⟨N, fun n hn => ?_⟩
  show (f n).bind (fun r => g r n) = none
  rw [h n hn]
  rfl
theorem ev_t [Decidable c] (hc : c) (h : EVq f R) : EVq (fun n => if c then f n else f2 n) R := by
  obtain ⟨N, h⟩ := h
  exact ⟨N, fun n hn => (if_pos hc).trans (h n hn)⟩
theorem ev_f [Decidable c] (hc : ¬ c) (h : EVq f2 R) : EVq (fun n => if c then f n else f2 n) R := by
  obtain ⟨N, h⟩ := h
  exact ⟨N, fun n hn => (if_neg hc).trans (h n hn)⟩
end EV
/-- an expression, 1 deep -/
def EXn (kd : Nat → Int) (n p : Nat) : Option (Nat × List Gsq) := (PEq kd n 0 1 0 p []).bind fun r => some (r.1, gqs r.2)
/-- a condition: behind its word -/
def CNn (kd : Nat → Int) (n : Nat) (act : Int) (w p : Nat) : Option (Nat × List Gsq) :=
  if kd p = 20 then (EXn kd n (p + 1)).bind fun r => if kd r.1 = 21 then some (r.1 + 1, r.2 ++ [gq (stp act w)]) else none else none
/-- a variable's [ ]: where it ends, the size, whether one is given -/
def BKn (kd : Nat → Int) (n p : Nat) : Option (Nat × List Gsq × Int) :=
  if kd (p + 1) = 25 then some (p + 2, [], 0) else (PEq kd n 0 1 0 (p + 1) []).bind fun r => if kd r.1 = 25 then some (r.1 + 1, [((40, p, 0, 0), r.2)], 1) else none
/-- initials in { }: up to behind the }, how many -/
def ITn (kd : Nat → Int) : Nat → Nat → Option (Nat × List Gsq × Nat)
  | 0, _ => none
  | n + 1, p => (EXn kd n p).bind fun r => if kd r.1 = 26 then (ITn kd n (r.1 + 1)).bind fun q => some (q.1, r.2 ++ [gq (stp 44 r.1)] ++ q.2.1, q.2.2 + 1) else if kd r.1 = 23 then some (r.1 + 1, r.2 ++ [gq (stp 44 r.1)], 1) else none
/-- a string that stands alone from p on -/
abbrev ALq (kd : Nat → Int) (p : Nat) : Prop := kd p = 4 ∧ (kd (p + 1) = 26 ∨ kd (p + 1) = 27)
/-- an initial: from its = on; br: behind [ ]; the size that it tells -/
def INn (kd vl : Nat → Int) (n : Nat) (br : Bool) (ty p : Nat) : Option (Nat × List Gsq × Int) :=
  if kd (p + 1) = 22 then (ITn kd n (p + 2)).bind fun r => some (r.1, r.2.1 ++ [gq (46, p, 1, 0)], (r.2.2 : Int))
  else if br = true ∧ ALq kd (p + 1) ∧ ty = 0 then some (p + 2, [gq (stp 45 (p + 1)), gq (46, p, 2, 0)], vl (p + 1) + 1)
  else (EXn kd n (p + 1)).bind fun r => some (r.1, r.2 ++ [gq (stp 46 p)], if br = true ∧ ALq kd (p + 1) then vl (p + 1) + 1 else 0)
/-- one variable: from behind its name -/
def V1n (kd vl : Nat → Int) (n : Nat) (lk : Int) (name ty p : Nat) : Option (Nat × List Gsq) :=
  if kd p = 24 then (BKn kd n p).bind fun b => if kd b.1 = 30 then (INn kd vl n true ty b.1).bind fun r => some (r.1, b.2.1 ++ [gq (42, p, b.2.2, r.2.2)] ++ [gq (43, name, (ty : Int), lk + 4)] ++ r.2.1) else some (b.1, b.2.1 ++ [gq (42, p, b.2.2, 0)] ++ [gq (43, name, (ty : Int), lk)])
  else if kd p = 30 then (INn kd vl n false ty p).bind fun r => some (r.1, [gq (43, name, (ty : Int), lk + 4)] ++ r.2.1) else some (p, [gq (43, name, (ty : Int), lk)])
/-- variables: from behind the first one's name -/
def VSn (kd vl : Nat → Int) : Nat → Int → Nat → Nat → Nat → Option (Nat × List Gsq)
  | 0, _, _, _, _ => none
  | n + 1, lk, name, ty, p => (V1n kd vl n lk name ty p).bind fun r => if kd r.1 = 26 then (SRq kd 5 (r.1 + 1)).bind fun t => if kd t.2 = 2 then (VSn kd vl n lk t.2 t.1 (t.2 + 1)).bind fun q => some (q.1, r.2 ++ q.2) else none else if kd r.1 = 27 then some (r.1 + 1, r.2) else none
/-- what stands between a for and its body -/
def FHn (kd : Nat → Int) (n p : Nat) : Option (Nat × List Gsq) :=
  if kd (p + 1) = 20 then
    (if kd (p + 2) = 27 then some (p + 2, []) else (EXn kd n (p + 2)).bind fun r => some (r.1, r.2 ++ [gq (stp 22 p)])).bind fun a => if kd a.1 = 27 then
      (if kd (a.1 + 1) = 27 then some (a.1 + 1, [], (0 : Int)) else (EXn kd n (a.1 + 1)).bind fun r => some (r.1, r.2, 1)).bind fun t => if kd t.1 = 27 then
        (if kd (t.1 + 1) = 21 then some (t.1 + 1, []) else (EXn kd n (t.1 + 1)).bind fun r => some (r.1, r.2 ++ [gq (stp 22 p)])).bind fun l => if kd l.1 = 21 then some (l.1 + 1, a.2 ++ [gq (stp 32 p)] ++ t.2.1 ++ [gq (33, p, t.2.2, 0)] ++ l.2 ++ [gq (stp 34 p)]) else none
      else none
    else none
  else none
/-- statements: 0 one, 1 up to a }, 2 a body -/
def STn (kd vl : Nat → Int) : Nat → Nat → Nat → Nat → Option (Nat × List Gsq)
  | 0, _, _, _ => none
  | n + 1, sel, d, p =>
    match sel with
    | 0 => if 25 < d then none
      else if kd p = 22 then (STn kd vl n 1 (d + 1) (p + 1)).bind fun r => some (r.1, [gq (stp 20 p)] ++ r.2 ++ [gq (stp 21 p)])
      else if kd p = 27 then some (p + 1, [])
      else if kd p = 5 then (SRq kd 5 (p + 1)).bind fun t => if kd t.2 = 2 then VSn kd vl n 0 t.2 t.1 (t.2 + 1) else none
      else if kd p = 9 then (CNn kd n 23 p (p + 1)).bind fun c => (STn kd vl n 2 d c.1).bind fun b => if kd b.1 = 10 then (STn kd vl n 2 d (b.1 + 1)).bind fun e => some (e.1, c.2 ++ b.2 ++ [gq (stp 24 p)] ++ e.2 ++ [gq (stp 25 p)]) else some (b.1, c.2 ++ b.2 ++ [gq (stp 25 p)])
      else if kd p = 11 then (CNn kd n 27 p (p + 1)).bind fun c => (STn kd vl n 2 d c.1).bind fun b => some (b.1, [gq (stp 26 p)] ++ c.2 ++ b.2 ++ [gq (stp 28 p)])
      else if kd p = 12 then (STn kd vl n 2 d (p + 1)).bind fun b => if kd b.1 = 11 then (CNn kd n 31 b.1 (b.1 + 1)).bind fun c => if kd c.1 = 27 then some (c.1 + 1, [gq (stp 29 p)] ++ b.2 ++ [gq (stp 30 b.1)] ++ c.2) else none else none
      else if kd p = 13 then (FHn kd n p).bind fun h => (STn kd vl n 2 d h.1).bind fun b => some (b.1, h.2 ++ b.2 ++ [gq (stp 35 p)])
      else if kd p = 14 then (if kd (p + 1) = 27 then some (p + 2, [gq (stp 36 p)]) else none)
      else if kd p = 15 then (if kd (p + 1) = 27 then some (p + 2, [gq (stp 37 p)]) else none)
      else if kd p = 16 then (if kd (p + 1) = 27 then some (p + 2, [gq (stp 38 p)]) else (EXn kd n (p + 1)).bind fun r => if kd r.1 = 27 then some (r.1 + 1, r.2 ++ [gq (38, p, 1, 0)]) else none)
      else (EXn kd n p).bind fun r => if kd r.1 = 27 then some (r.1 + 1, r.2 ++ [gq (stp 22 p)]) else none
    | 1 => if kd p = 23 then some (p + 1, []) else (STn kd vl n 0 d p).bind fun r => (STn kd vl n 1 d r.1).bind fun q => some (q.1, r.2 ++ q.2)
    | _ => (STn kd vl n 0 (d + 1) p).bind fun r => some (r.1, [gq (stp 20 p)] ++ r.2 ++ [gq (stp 21 r.1)])
/-- parameters: each one's type and where its name stands, or what is there instead -/
def PMn (kd : Nat → Int) : Nat → Nat → Option (Nat × List (Nat × Nat))
  | 0, _ => none
  | k + 1, p => if kd p = 5 then (SRq kd 5 (p + 1)).bind fun t =>
      (if kd (if kd t.2 = 2 then t.2 + 1 else t.2) = 24 then (if kd ((if kd t.2 = 2 then t.2 + 1 else t.2) + 1) = 25 then some ((if kd t.2 = 2 then t.2 + 1 else t.2) + 2, t.1 + 1) else none) else some ((if kd t.2 = 2 then t.2 + 1 else t.2), t.1)).bind fun e =>
        if kd e.1 = 26 then (PMn kd k (e.1 + 1)).bind fun r => some (r.1, (e.2, if kd t.2 = 2 then t.2 else e.1) :: r.2) else some (e.1, [(e.2, if kd t.2 = 2 then t.2 else e.1)])
    else none
/-- a function's ( ): where it ends, its parameters -/
def HDn (kd : Nat → Int) (p : Nat) : Option (Nat × List (Nat × Nat)) :=
  if kd p = 20 then (if kd (p + 1) = 6 then some (p + 2, []) else if kd (p + 1) = 21 then some (p + 1, []) else PMn kd 8 (p + 1)).bind fun r => if kd r.1 = 21 then some (r.1 + 1, r.2) else none else none
def FUn (kd vl : Nat → Int) (n : Nat) (lk res : Int) (name p : Nat) : Option (Nat × List Gsq) :=
  (HDn kd p).bind fun h => if kd h.1 = 22 then (STn kd vl n 1 1 (h.1 + 1)).bind fun b => some (b.1, [gq (47, name, sgI h.2, (res + 1) * 8 + lk + 4)] ++ h.2.map (fun x => gq (48, x.2, (x.1 : Int), 0)) ++ b.2 ++ [gq (stp 49 name)]) else if kd h.1 = 27 then some (h.1 + 1, [gq (47, name, sgI h.2, (res + 1) * 8 + lk)]) else none
/-- an item: behind its linkage -/
def I1n (kd vl : Nat → Int) (n : Nat) (lk : Int) (p : Nat) : Option (Nat × List Gsq) :=
  if kd p = 6 then (if kd (p + 1) = 2 then FUn kd vl n lk (-1) (p + 1) (p + 2) else none)
  else if kd p = 5 then (SRq kd 5 (p + 1)).bind fun t => if kd t.2 = 2 then (if kd (t.2 + 1) = 20 then FUn kd vl n lk (t.1 : Int) t.2 (t.2 + 1) else VSn kd vl n lk t.2 t.1 (t.2 + 1)) else none
  else none
def lkq (k : Int) : Int := if k = 7 then 1 else if k = 8 then 2 else 0
def UNn (kd vl : Nat → Int) : Nat → Nat → Option (List Gsq)
  | 0, _ => none
  | n + 1, p => if kd p = 0 then some [] else (I1n kd vl n (lkq (kd p)) (if lkq (kd p) = 0 then p else p + 1)).bind fun r => (UNn kd vl n r.1).bind fun l => some (r.2 ++ l)
/-- the table's rows of the steps, from the o-th on -/
def fltq : Nat → List Gsq → List Stq
  | _, [] => []
  | o, x :: l => if x.1.1 = 40 then [(40, x.1.2.1, (o : Int) + 1 + (x.2.length : Int), 0)] ++ x.2 ++ [stp 41 x.1.2.1] ++ fltq (o + x.2.length + 2) l else x.1 :: fltq (o + 1) l
section FLT
variable {o : Nat} {a b : List Gsq} {x : Stq} {l : List Stq}
theorem flt_len : ∀ {a : List Gsq} {o o2 : Nat}, (fltq o a).length = (fltq o2 a).length
  | [], _, _ => rfl
  | x :: l, o, o2 => by
    unfold fltq
    by_cases c : x.1.1 = 40
    · rw [if_pos c, if_pos c]
      simp only [List.length_append, List.length_cons, List.length_nil]
      rw [flt_len (a := l) (o := o + x.2.length + 2) (o2 := o2 + x.2.length + 2)]
    · rw [if_neg c, if_neg c]
      simp only [List.length_cons]
      rw [flt_len (a := l) (o := o + 1) (o2 := o2 + 1)]
theorem flt_app : ∀ {a : List Gsq} {o : Nat}, fltq o (a ++ b) = fltq o a ++ fltq (o + (fltq o a).length) b
  | [], o => by
    show fltq o b = [] ++ fltq (o + 0) b
    rfl
  | x :: l, o => by
    show fltq o (x :: (l ++ b)) = _
    by_cases c : x.1.1 = 40
    · have e1 : ∀ m, fltq o (x :: m) = [(40, x.1.2.1, (o : Int) + 1 + (x.2.length : Int), 0)] ++ x.2 ++ [stp 41 x.1.2.1] ++ fltq (o + x.2.length + 2) m := fun m => by rw [fltq, if_pos c]
      rw [e1, e1, flt_app (a := l) (o := o + x.2.length + 2)]
      simp only [List.append_assoc, List.length_append, List.length_cons, List.length_nil]
      rw [show o + x.2.length + 2 + (fltq (o + x.2.length + 2) l).length = o + (0 + 1 + (x.2.length + (0 + 1 + (fltq (o + x.2.length + 2) l).length))) from by omega]
    · have e1 : ∀ m, fltq o (x :: m) = x.1 :: fltq (o + 1) m := fun m => by rw [fltq, if_neg c]
      rw [e1, e1, flt_app (a := l) (o := o + 1)]
      show x.1 :: (fltq (o + 1) l ++ fltq (o + 1 + (fltq (o + 1) l).length) b) = x.1 :: (fltq (o + 1) l ++ fltq (o + ((fltq (o + 1) l).length + 1)) b)
      rw [show o + 1 + (fltq (o + 1) l).length = o + ((fltq (o + 1) l).length + 1) from by omega]
/-- steps of expressions stand as they are -/
theorem flt_gqs : ∀ {l : List Stq} {o : Nat}, (∀ y, y ∈ l → y.1 ≠ 40) → fltq o (gqs l) = l
  | [], _, _ => rfl
  | x :: l, o, h => by
    show fltq o (gq x :: gqs l) = x :: l
    have c : ¬ ((gq x).1.1 = 40) := h x (List.mem_cons_self ..)
    rw [fltq, if_neg c, flt_gqs (fun y hy => h y (List.mem_cons_of_mem _ hy))]
    rfl
theorem flt_one (c : x.1 ≠ 40) : fltq o [gq x] = [x] := by
  have c' : ¬ ((gq x).1.1 = 40) := c
  rw [fltq, if_neg c']
  rfl
end FLT
