def sc1 : St := fun j => match j with
  | 0 => fun k => ([0, 0, 0, (-1), 0, 0, 0, 0, 0, 0, 0, 0, 0, 0, 0] : List Int32).getD k 0
  | 2 => fun k => ([0, 0, 0, 0, 0, 0, 0, 0, 0, 0] : List Int32).getD k 0
  | 3 => fun k => ([0, 0, 0, 0, 0, 0, 0, 0, 0, 0, 0, 0] : List Int32).getD k 0
  | 4 => fun k => ([0, 0] : List Int32).getD k 0
  | 5 => fun k => ([0, 4, 0, 0, 0, 0, 0, 15, 0, 0, 0, 0, 0, 0, 0, 0, 0, 0] : List Int32).getD k 0
  | 6 => fun k => ([0, 0, 0, 0, 0, 0, 0, 0, 0, 0, 0, 0, 0, 0, 0, 0, 0, 0, 0] : List Int32).getD k 0
  | 7 => fun k => ([0, 0, 0, 0, 0, 0, 0, 0] : List Int32).getD k 0
  | 8 => fun k => ([0, 0, 0, 0, 0, 0, 0, 0, 0, 0, 0, 0, 0, 0, 0, 0, 0, 0] : List Int32).getD k 0
  | 9 => fun k => ([0, 0, 0, 0, 0, 0, 0, 0, 0, 0, 0, 0] : List Int32).getD k 0
  | 10 => fun k => ([0, 0, 0, (-1), (-1), 1, 0, 0, 0, 0, 0, 0] : List Int32).getD k 0
  | 11 => fun k => ([0, 0, 0, 0, 0] : List Int32).getD k 0
  | 12 => fun k => ([0, 0, 0, 0, 0, 0, 0, 0, 0, 0, 0, 0, 0, 0, 0, 0, (-1), 0, 0] : List Int32).getD k 0
  | 25 => sFl
  | 26 => sTy
  | 27 => sEx
  | 28 => sVa
  | 29 => sNe
  | 30 => sNm
  | 34 => sDe
  | 55 => sMa
  | _ => fun _ => 0
def sc0 : St := fun j => if j < 65 then sc1 j else fun _ => 0
def sm0 : St := fun j => if j = 0 then fun k => ([0, 0, 0, 0, 0, 0, 0, 0, 0, 0, 0, 0, 0, 0, (-1), 0, 0, 0, 0, 0, 0, 0, 0, 0, 0, 0, 0, 0, 0, 0, 0, 0, 0, 0, 0, 0, 0, 0, 0, 0, 0, 0, 0, 0, 0, 0, 0, 0, 0, 0, 0, 0, 0, 0, 0, 0, 0, 0, 0, 0, 0, 0, 0, 0, 0, 0, 0, 0, 0, 0, (-1), (-1), (-1), 0, 0, 0, 0, 0, 0, 0, 0, 0, 0, 0, 0, 0, 0, 0, 0, 0, 0, 0, 0, 0, 0, 0, 0, 0, 0, 0] : List Int32).getD k 0 else fun _ => 0
def rcO (u : (Nat → Nat) × (Nat → Nat)) (j : Nat) : Nat := if j < 65 then u.1 j else u.2 (j - 65)
def rmO (u : Nat → Nat) (j : Nat) : Nat := u (([0, 1, 4, 5, 6, 7, 8, 12, 17, 19, 20, 21, 22, 23, 24, 25, 26, 27, 28, 29, 30, 31, 33, 34, 35, 39, 41, 42, 43, 44, 45, 47, 48, 49, 51, 52, 53, 62, 63, 64, 67, 69, 70, 76, 77, 78, 80, 81, 83, 84, 85, 86, 88, 91, 100] : List Nat).getD j 0)
theorem rcO_pool {u : (Nat → Nat) × (Nat → Nat)} (k : Nat) : rcO u (65 + k) = u.2 k := by
  unfold rcO
  rw [if_neg (by omega), Nat.add_sub_cancel_left]
theorem sc0_pool (k : Nat) : sc0 (65 + k) = fun _ => 0 := by
  unfold sc0
  rw [if_neg (by omega)]
theorem wc_pool {cy : Nat → ClassId} {u : (Nat → Nat) × (Nat → Nat)} (k : Nat) : (rcO u (65 + k), cellE SC cy (rcO u) sc0 (65 + k)) = (u.2 k, .inr (6, ozs)) := by
  have e : ofs SC (rcO u) sc0 (65 + k) 13 = ozs := by
    unfold ofs fval
    rw [sc0_pool]
    simp only [FC_pool]
    rfl
  rw [cellE_obj (KC_pool k), rcO_pool, e]
set_option maxRecDepth 100000 in
theorem w_C1 {cy : Nat → ClassId} {u : (Nat → Nat) × (Nat → Nat)} : (List.range 65).map (fun j => (rcO u j, cellE SC cy (rcO u) sc0 j)) = ([((u.1 0), .inr (12, (oLU u.1))), ((u.1 1), .inl (cy 0, 16000, .inl (fun _ => 0))), ((u.1 2), .inr (10, (oTok u.1))), ((u.1 3), .inr (3, (oGra u.1))), ((u.1 4), .inr (0, (oCod u.1))), ((u.1 5), .inr (8, (oSto u.1))), ((u.1 6), .inr (11, (oUni u.1))), ((u.1 7), .inr (2, (oExp u.1))), ((u.1 8), .inr (1, (oDec u.1))), ((u.1 9), .inr (7, (oSta u.1))), ((u.1 10), .inr (4, (oIma u.1))), ((u.1 11), .inr (9, (oTap u.1))), ((u.1 12), .inr (5, (oMac u.1))), ((u.1 13), .inl (cy 1, 16002, .inl (fun _ => 0))), ((u.1 14), .inl (cy 1, 16002, .inl (fun _ => 0))), ((u.1 15), .inl (cy 1, 16002, .inl (fun _ => 0))), ((u.1 16), .inl (cy 1, 16002, .inl (fun _ => 0))), ((u.1 17), .inl (cy 1, 200, .inl (fun _ => 0))), ((u.1 18), .inl (cy 1, 32100, .inl (fun _ => 0))), ((u.1 19), .inl (cy 1, 32100, .inl (fun _ => 0))), ((u.1 20), .inl (cy 1, 32100, .inl (fun _ => 0))), ((u.1 21), .inl (cy 1, 32100, .inl (fun _ => 0))), ((u.1 22), .inl (cy 1, 400, .inl (fun _ => 0))), ((u.1 23), .inl (cy 1, 8, .inl (fun _ => 0))), ((u.1 24), .inl (cy 1, 262208, .inl (fun _ => 0))), ((u.1 25), .inl (cy 1, 10100, .inl sFl)), ((u.1 26), .inl (cy 1, 10100, .inl sTy)), ((u.1 27), .inl (cy 1, 10100, .inl sEx)), ((u.1 28), .inl (cy 1, 10100, .inl sVa)), ((u.1 29), .inl (cy 1, 10100, .inl sNe)), ((u.1 30), .inl (cy 0, 65600, .inl sNm)), ((u.1 31), .inl (cy 1, 65536, .inl (fun _ => 0))), ((u.1 32), .inl (cy 1, 65536, .inl (fun _ => 0))), ((u.1 33), .inl (cy 1, 65536, .inl (fun _ => 0))), ((u.1 34), .inl (cy 1, 101, .inl sDe)), ((u.1 35), .inl (cy 1, 101, .inl (fun _ => 0))), ((u.1 36), .inl (cy 1, 101, .inl (fun _ => 0))), ((u.1 37), .inl (cy 1, 101, .inl (fun _ => 0))), ((u.1 38), .inl (cy 1, 100, .inl (fun _ => 0))), ((u.1 39), .inl (cy 1, 100, .inl (fun _ => 0))), ((u.1 40), .inl (cy 1, 100, .inl (fun _ => 0))), ((u.1 41), .inl (cy 1, 100, .inl (fun _ => 0))), ((u.1 42), .inl (cy 1, 100, .inl (fun _ => 0))), ((u.1 43), .inl (cy 1, 100, .inl (fun _ => 0))), ((u.1 44), .inl (cy 1, 100, .inl (fun _ => 0))), ((u.1 45), .inl (cy 1, 52, .inl (fun _ => 0))), ((u.1 46), .inl (cy 3, 500, .inr (.inr (.inr (.inr (fun i => some (rcO u (65 + i)))))))), ((u.1 47), .inr (6, [.int 0, .int 0, .int 0, .int 0, .int 0, .int 0, .int 0, .int 0, .int 0, .int 0, .int 0, .int 0, .int 0])), ((u.1 48), .inl (cy 1, 100, .inl (fun _ => 0))), ((u.1 49), .inl (cy 1, 26, .inl (fun _ => 0))), ((u.1 50), .inl (cy 1, 26, .inl (fun _ => 0))), ((u.1 51), .inl (cy 1, 26, .inl (fun _ => 0))), ((u.1 52), .inl (cy 1, 26, .inl (fun _ => 0))), ((u.1 53), .inl (cy 1, 26, .inl (fun _ => 0))), ((u.1 54), .inl (cy 1, 26, .inl (fun _ => 0))), ((u.1 55), .inl (cy 0, 4, .inl sMa)), ((u.1 56), .inl (cy 1, 101, .inl (fun _ => 0))), ((u.1 57), .inl (cy 1, 101, .inl (fun _ => 0))), ((u.1 58), .inl (cy 1, 101, .inl (fun _ => 0))), ((u.1 59), .inl (cy 1, 10100, .inl (fun _ => 0))), ((u.1 60), .inl (cy 0, 4096, .inl (fun _ => 0))), ((u.1 61), .inl (cy 0, 4096, .inl (fun _ => 0))), ((u.1 62), .inl (cy 1, 32768, .inl (fun _ => 0))), ((u.1 63), .inl (cy 1, 148496, .inl (fun _ => 0))), ((u.1 64), .inl (cy 1, 771, .inl (fun _ => 0)))] : va_W) := rfl
set_option maxRecDepth 100000 in
theorem w_C {cy : Nat → ClassId} {u : (Nat → Nat) × (Nat → Nat)} : ([((u.1 0), .inr (12, (oLU u.1))), ((u.1 1), .inl (cy 0, 16000, .inl (fun _ => 0))), ((u.1 2), .inr (10, (oTok u.1))), ((u.1 3), .inr (3, (oGra u.1))), ((u.1 4), .inr (0, (oCod u.1))), ((u.1 5), .inr (8, (oSto u.1))), ((u.1 6), .inr (11, (oUni u.1))), ((u.1 7), .inr (2, (oExp u.1))), ((u.1 8), .inr (1, (oDec u.1))), ((u.1 9), .inr (7, (oSta u.1))), ((u.1 10), .inr (4, (oIma u.1))), ((u.1 11), .inr (9, (oTap u.1))), ((u.1 12), .inr (5, (oMac u.1))), ((u.1 13), .inl (cy 1, 16002, .inl (fun _ => 0))), ((u.1 14), .inl (cy 1, 16002, .inl (fun _ => 0))), ((u.1 15), .inl (cy 1, 16002, .inl (fun _ => 0))), ((u.1 16), .inl (cy 1, 16002, .inl (fun _ => 0))), ((u.1 17), .inl (cy 1, 200, .inl (fun _ => 0))), ((u.1 18), .inl (cy 1, 32100, .inl (fun _ => 0))), ((u.1 19), .inl (cy 1, 32100, .inl (fun _ => 0))), ((u.1 20), .inl (cy 1, 32100, .inl (fun _ => 0))), ((u.1 21), .inl (cy 1, 32100, .inl (fun _ => 0))), ((u.1 22), .inl (cy 1, 400, .inl (fun _ => 0))), ((u.1 23), .inl (cy 1, 8, .inl (fun _ => 0))), ((u.1 24), .inl (cy 1, 262208, .inl (fun _ => 0))), ((u.1 25), .inl (cy 1, 10100, .inl sFl)), ((u.1 26), .inl (cy 1, 10100, .inl sTy)), ((u.1 27), .inl (cy 1, 10100, .inl sEx)), ((u.1 28), .inl (cy 1, 10100, .inl sVa)), ((u.1 29), .inl (cy 1, 10100, .inl sNe)), ((u.1 30), .inl (cy 0, 65600, .inl sNm)), ((u.1 31), .inl (cy 1, 65536, .inl (fun _ => 0))), ((u.1 32), .inl (cy 1, 65536, .inl (fun _ => 0))), ((u.1 33), .inl (cy 1, 65536, .inl (fun _ => 0))), ((u.1 34), .inl (cy 1, 101, .inl sDe)), ((u.1 35), .inl (cy 1, 101, .inl (fun _ => 0))), ((u.1 36), .inl (cy 1, 101, .inl (fun _ => 0))), ((u.1 37), .inl (cy 1, 101, .inl (fun _ => 0))), ((u.1 38), .inl (cy 1, 100, .inl (fun _ => 0))), ((u.1 39), .inl (cy 1, 100, .inl (fun _ => 0))), ((u.1 40), .inl (cy 1, 100, .inl (fun _ => 0))), ((u.1 41), .inl (cy 1, 100, .inl (fun _ => 0))), ((u.1 42), .inl (cy 1, 100, .inl (fun _ => 0))), ((u.1 43), .inl (cy 1, 100, .inl (fun _ => 0))), ((u.1 44), .inl (cy 1, 100, .inl (fun _ => 0))), ((u.1 45), .inl (cy 1, 52, .inl (fun _ => 0))), ((u.1 46), .inl (cy 3, 500, .inr (.inr (.inr (.inr (fun k => some (u.2 k))))))), ((u.1 47), .inr (6, [.int 0, .int 0, .int 0, .int 0, .int 0, .int 0, .int 0, .int 0, .int 0, .int 0, .int 0, .int 0, .int 0])), ((u.1 48), .inl (cy 1, 100, .inl (fun _ => 0))), ((u.1 49), .inl (cy 1, 26, .inl (fun _ => 0))), ((u.1 50), .inl (cy 1, 26, .inl (fun _ => 0))), ((u.1 51), .inl (cy 1, 26, .inl (fun _ => 0))), ((u.1 52), .inl (cy 1, 26, .inl (fun _ => 0))), ((u.1 53), .inl (cy 1, 26, .inl (fun _ => 0))), ((u.1 54), .inl (cy 1, 26, .inl (fun _ => 0))), ((u.1 55), .inl (cy 0, 4, .inl sMa)), ((u.1 56), .inl (cy 1, 101, .inl (fun _ => 0))), ((u.1 57), .inl (cy 1, 101, .inl (fun _ => 0))), ((u.1 58), .inl (cy 1, 101, .inl (fun _ => 0))), ((u.1 59), .inl (cy 1, 10100, .inl (fun _ => 0))), ((u.1 60), .inl (cy 0, 4096, .inl (fun _ => 0))), ((u.1 61), .inl (cy 0, 4096, .inl (fun _ => 0))), ((u.1 62), .inl (cy 1, 32768, .inl (fun _ => 0))), ((u.1 63), .inl (cy 1, 148496, .inl (fun _ => 0))), ((u.1 64), .inl (cy 1, 771, .inl (fun _ => 0)))] : va_W) ++ opsI u.2 500 = wld SC cy (rcO u) sc0 Z0 [] := by
  have e1 : wld SC cy (rcO u) sc0 Z0 [] = (List.range (65 + 500)).map (fun j => (rcO u j, cellE SC cy (rcO u) sc0 j)) := List.append_nil _
  have h46 : (fun k => some (u.2 k)) = fun i => some (rcO u (65 + i)) := funext (fun i => by rw [rcO_pool])
  rw [e1, List.range_add, List.map_append, h46, ← w_C1, List.map_map]
  refine congrArg _ ?_
  unfold opsI
  exact List.map_congr_left (fun k _ => (wc_pool k).symm)
set_option maxRecDepth 100000 in
theorem w_M {cy : Nat → ClassId} {u : Nat → Nat} : ([((u 0), .inr (13, (oMo u))), ((u 1), .inl (cy 0, 16000, .inl (fun _ => 0))), ((u 4), .inl (cy 1, 16002, .inl (fun _ => 0))), ((u 5), .inl (cy 1, 16002, .inl (fun _ => 0))), ((u 6), .inl (cy 1, 16002, .inl (fun _ => 0))), ((u 7), .inl (cy 1, 16002, .inl (fun _ => 0))), ((u 8), .inl (cy 1, 16002, .inl (fun _ => 0))), ((u 12), .inr (14, [])), ((u 17), .inl (cy 1, 524288, .inl (fun _ => 0))), ((u 19), .inl (cy 1, 10000, .inl (fun _ => 0))), ((u 20), .inl (cy 1, 10000, .inl (fun _ => 0))), ((u 21), .inl (cy 1, 10000, .inl (fun _ => 0))), ((u 22), .inl (cy 2, 10000, .inl (fun _ => 0))), ((u 23), .inl (cy 2, 10000, .inl (fun _ => 0))), ((u 24), .inl (cy 2, 10000, .inl (fun _ => 0))), ((u 25), .inl (cy 1, 10000, .inl (fun _ => 0))), ((u 26), .inl (cy 1, 80000, .inl (fun _ => 0))), ((u 27), .inl (cy 1, 10000, .inl (fun _ => 0))), ((u 28), .inl (cy 1, 10000, .inl (fun _ => 0))), ((u 29), .inl (cy 1, 10000, .inl (fun _ => 0))), ((u 30), .inl (cy 0, 65536, .inl (fun _ => 0))), ((u 31), .inl (cy 1, 100, .inl (fun _ => 0))), ((u 33), .inl (cy 1, 102, .inl (fun _ => 0))), ((u 34), .inl (cy 1, 102, .inl (fun _ => 0))), ((u 35), .inl (cy 1, 102, .inl (fun _ => 0))), ((u 39), .inl (cy 1, 196608, .inl (fun _ => 0))), ((u 41), .inl (cy 1, 10000, .inl (fun _ => 0))), ((u 42), .inl (cy 1, 10000, .inl (fun _ => 0))), ((u 43), .inl (cy 1, 10000, .inl (fun _ => 0))), ((u 44), .inl (cy 1, 10000, .inl (fun _ => 0))), ((u 45), .inl (cy 1, 10000, .inl (fun _ => 0))), ((u 47), .inl (cy 1, 100, .inl (fun _ => 0))), ((u 48), .inl (cy 1, 100, .inl (fun _ => 0))), ((u 49), .inl (cy 2, 100, .inl (fun _ => 0))), ((u 51), .inl (cy 1, 100, .inl (fun _ => 0))), ((u 52), .inl (cy 1, 100, .inl (fun _ => 0))), ((u 53), .inl (cy 1, 100, .inl (fun _ => 0))), ((u 62), .inl (cy 1, 8, .inl (fun _ => 0))), ((u 63), .inl (cy 1, 8, .inl (fun _ => 0))), ((u 64), .inl (cy 1, 8, .inl (fun _ => 0))), ((u 67), .inl (cy 1, 100, .inl (fun _ => 0))), ((u 69), .inl (cy 1, 100, .inl (fun _ => 0))), ((u 70), .inl (cy 1, 100, .inl (fun _ => 0))), ((u 76), .inl (cy 1, 10000, .inl (fun _ => 0))), ((u 77), .inl (cy 1, 100, .inl (fun _ => 0))), ((u 78), .inl (cy 1, 16016, .inl (fun _ => 0))), ((u 80), .inl (cy 1, 32768, .inl (fun _ => 0))), ((u 81), .inl (cy 1, 140000, .inl (fun _ => 0))), ((u 83), .inl (cy 1, 26000, .inl (fun _ => 0))), ((u 84), .inl (cy 1, 260, .inl (fun _ => 0))), ((u 85), .inl (cy 1, 260, .inl (fun _ => 0))), ((u 86), .inl (cy 1, 260, .inl (fun _ => 0))), ((u 88), .inl (cy 0, 4096, .inl (fun _ => 0))), ((u 91), .inl (cy 0, 4096, .inl (fun _ => 0))), ((u 100), .inl (cy 1, 10000, .inl (fun _ => 0)))] : va_W) = wld SM cy (rmO u) sm0 Z0 [] := rfl
theorem zin {lo hi : Int} (h0 : lo ≤ 0) (h1 : 0 ≤ hi) : AllIn lo hi (fun _ => 0) := fun _ => ⟨h0, h1⟩
theorem uin {lo hi : Int} {f : Nat → Int32} {i : Nat} {v : Int32} (h : AllIn lo hi f) (hv : lo ≤ v.toInt ∧ v.toInt ≤ hi) : AllIn lo hi (upd f i v) := fun k => by
  unfold upd
  by_cases e : k = i
  · rw [if_pos e]; exact hv
  · rw [if_neg e]; exact h k
theorem inv_0 : Inv sc0 := by
  refine ⟨by decide, by decide, by decide, by decide, by decide, by decide, by decide, by decide, by decide, by decide, by decide, by decide, by decide, ?_, zin (by decide) (by decide), ?_, zin (by decide) (by decide), fun _ => (by decide : fits .byte (.int 0) = true), ⟨by decide, fun z _ h2 => ?_⟩, fun k h => ?_⟩
  · show AllIn 0 10100 sDe
    exact uin (zin (by decide) (by decide)) (by decide)
  · show AllIn 0 65600 sNe
    exact uin (uin (uin (uin (zin (by decide) (by decide)) (by decide)) (by decide)) (by decide)) (by decide)
  · have e : (sc0 6 17).toInt = 0 := by decide
    rw [e] at h2
    omega
  · have h : (0 : Int32).toInt = 2 := h
    exact absurd h (by decide)
theorem gli_0 : GLI sm0 Z0 [] := by
  have z (lo hi : Int) (h0 : lo ≤ 0) (h1 : 0 ≤ hi) : AllIn lo hi (fun _ => 0) := zin h0 h1
  have e35 : (sm0 0 35).toInt = 0 := by decide
  have e67 : (sm0 0 67).toInt = 0 := by decide
  refine ⟨⟨by decide, by decide, by decide, by decide, by decide, by decide, by decide⟩, ⟨by decide, by decide, by decide⟩, ⟨⟨z _ _ (by decide) (by decide), z _ _ (by decide) (by decide)⟩, z _ _ (by decide) (by decide), z _ _ (by decide) (by decide), z _ _ (by decide) (by decide), z _ _ (by decide) (by decide), ?_, z _ _ (by decide) (by decide), z _ _ (by decide) (by decide), ?_, z _ _ (by decide) (by decide), z _ _ (by decide) (by decide), z _ _ (by decide) (by decide), ?_⟩, fun o h => ?_, ⟨by decide, fun k h => ?_, fun j k _ h => ?_⟩, ⟨by decide, fun h => ?_⟩, ⟨by decide, by decide⟩⟩
  · intro j
    show 0 ≤ (0 : Int32).toInt ∧ 0 ≤ (0 : Int32).toInt ∧ (0 : Int32).toInt + (0 : Int32).toInt ≤ 65536
    decide
  · intro j h
    have h : (0 : Int32).toInt = 1 := h
    exact absurd h (by decide)
  · intro q
    show (0 ≤ (0 : Int32).toInt ∧ (0 : Int32).toInt ≤ 3) ∧ (0 ≤ (0 : Int32).toInt ∧ (0 : Int32).toInt ≤ 99) ∧ (0 ≤ (0 : Int32).toInt ∧ (0 : Int32).toInt ≤ 16001) ∧ (0 : Int32).toInt ≤ 100 ∧ ((0 : Int32).toInt ≠ 0 → (0 : Int32).toInt ≠ -1) ∧ ((0 : Int32).toInt ≠ 0 → (0 : Int32).toInt = 0)
    decide
  · rw [e35] at h; omega
  · rw [e67] at h; omega
  · rw [e67] at h; omega
  · exact absurd h (by decide)
