/-! the start, for rounds over the class alone -/
def sNm : Nat → Int32 := (upd (upd (upd (upd (upd (upd (upd (upd (upd (upd (upd (upd (upd (upd (upd (fun _ => 0) (0 : Int32).toNatClampNeg (vp_nar .byte 103)) (1 : Int32).toNatClampNeg (vp_nar .byte 101)) (2 : Int32).toNatClampNeg (vp_nar .byte 116)) (3 : Int32).toNatClampNeg (vp_nar .byte 112)) (4 : Int32).toNatClampNeg (vp_nar .byte 117)) (5 : Int32).toNatClampNeg (vp_nar .byte 116)) (6 : Int32).toNatClampNeg (vp_nar .byte 112)) (7 : Int32).toNatClampNeg (vp_nar .byte 114)) (8 : Int32).toNatClampNeg (vp_nar .byte 105)) (9 : Int32).toNatClampNeg (vp_nar .byte 110)) (10 : Int32).toNatClampNeg (vp_nar .byte 116)) (11 : Int32).toNatClampNeg (vp_nar .byte 115)) (12 : Int32).toNatClampNeg (vp_nar .byte 116)) (13 : Int32).toNatClampNeg (vp_nar .byte 111)) (14 : Int32).toNatClampNeg (vp_nar .byte 112))
def sFl : Nat → Int32 := (upd (upd (upd (upd (fun _ => 0) (0 : Int32).toNatClampNeg 5) (1 : Int32).toNatClampNeg 5) (2 : Int32).toNatClampNeg 5) (3 : Int32).toNatClampNeg 5)
def sNe : Nat → Int32 := (upd (upd (upd (upd (fun _ => 0) (0 : Int32).toNatClampNeg 3) (1 : Int32).toNatClampNeg 6) (2 : Int32).toNatClampNeg 11) (3 : Int32).toNatClampNeg 15)
def sDe : Nat → Int32 := (upd (fun _ => 0) (0 : Int32).toNatClampNeg 4)
def sMa : Nat → Int32 := (upd (upd (upd (upd (fun _ => 0) (0 : Int32).toNatClampNeg (vp_nar .byte 109)) (1 : Int32).toNatClampNeg (vp_nar .byte 97)) (2 : Int32).toNatClampNeg (vp_nar .byte 105)) (3 : Int32).toNatClampNeg (vp_nar .byte 110))
def sTy : Nat → Int32 := (upd (upd (upd (upd (fun _ => 0) (0 : Int32).toNatClampNeg 0) (1 : Int32).toNatClampNeg (-1)) (2 : Int32).toNatClampNeg (-1)) (3 : Int32).toNatClampNeg (-1))
def sEx : Nat → Int32 := (upd (upd (upd (upd (fun _ => 0) (0 : Int32).toNatClampNeg 0) (1 : Int32).toNatClampNeg 16777216) (2 : Int32).toNatClampNeg 16777216) (3 : Int32).toNatClampNeg 16777216)
def sVa : Nat → Int32 := (upd (upd (upd (upd (fun _ => 0) (0 : Int32).toNatClampNeg (-1)) (1 : Int32).toNatClampNeg (-2)) (2 : Int32).toNatClampNeg (-3)) (3 : Int32).toNatClampNeg (-4))
def sc1 : St := fun j => match j with
  | 0 => fun k => ([0, 0, 0, (-1), 0, 0, 0, 0, 0, 0, 0, 0, 0, 0, 0] : List Int32).getD k 0
  | 2 => fun k => ([0, 0, 0, 0, 0, 0, 0, 0, 0, 0] : List Int32).getD k 0
  | 3 => fun k => ([0, 0, 0, 0, 0, 0, 0, 0, 0, 0, 0, 0] : List Int32).getD k 0
  | 4 => fun k => ([0, 0] : List Int32).getD k 0
  | 5 => fun k => ([0, 4, 0, 0, 0, 0, 0, 15, 0, 0, 0, 0, 0, 0, 0, 0, 0, 0] : List Int32).getD k 0
  | 6 => fun k => ([0, 0, 0, 0, 0, 0, 0, 0, 0, 0, 0, 0, 0, 0, 0, 0, 0, 0, 0] : List Int32).getD k 0
  | 7 => fun k => ([0, 0, 0, 0, 0, 0, 0, 0] : List Int32).getD k 0
  | 8 => fun k => ([0, 0, 0, 0, 0, 0, 0, 0, 0, 0, 0, 0, 0, 0, 0, 0, 0, 0] : List Int32).getD k 0
  | 9 => fun k => ([0, 0, 0, 0, 0, 0, 0, 0, 0, 0, 0, 0] : List Int32).getD k 0
  | 10 => fun k => ([0, 0, 0, (-1), (-1), 1, 0, 0, 0, 0, 0, 0] : List Int32).getD k 0
  | 11 => fun k => ([0, 0, 0, 0, 0] : List Int32).getD k 0
  | 12 => fun k => ([0, 0, 0, 0, 0, 0, 0, 0, 0, 0, 0, 0, 0, 0, 0, 0, (-1), 0, 0] : List Int32).getD k 0
  | 25 => sFl
  | 26 => sTy
  | 27 => sEx
  | 28 => sVa
  | 29 => sNe
  | 30 => sNm
  | 34 => sDe
  | 55 => sMa
  | _ => fun _ => 0
def sc0 : St := fun j => if j < 65 then sc1 j else fun _ => 0
theorem zin {lo hi : Int} (h0 : lo ≤ 0) (h1 : 0 ≤ hi) : AllIn lo hi (fun _ => 0) := fun _ => ⟨h0, h1⟩
theorem uin {lo hi : Int} {f : Nat → Int32} {i : Nat} {v : Int32} (h : AllIn lo hi f) (hv : lo ≤ v.toInt ∧ v.toInt ≤ hi) : AllIn lo hi (upd f i v) := fun k => by
  unfold upd
  by_cases e : k = i
  · rw [if_pos e]; exact hv
  · rw [if_neg e]; exact h k
