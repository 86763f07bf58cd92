-- printed by program (gen/)
def M_thrown (S : MS) : Nat := mth S
theorem M_thrown_e (S : MS) : M_thrown S = mth S := rfl
def M_in (x0 : Int32) (x1 : Int32) (x2 : Int32) : Int32 := if x0 < x1 then (nI 0) else (if x2 < x0 then (nI 0) else (nI 1))
theorem M_in_e (x0 : Int32) (x1 : Int32) (x2 : Int32) : M_in x0 x1 x2 = if x0 < x1 then (nI 0) else (if x2 < x0 then (nI 0) else (nI 1)) := rfl
def M_isPair (x0 : Int32) (x1 : Int32) : Int32 := if (M_in x0 (nI 0) (nI 4)) = 0 then (nI 0) else (if (M_in x1 (nI 0) (nI 3)) = 0 then (nI 0) else (nI 1))
theorem M_isPair_e (x0 : Int32) (x1 : Int32) : M_isPair x0 x1 = if (M_in x0 (nI 0) (nI 4)) = 0 then (nI 0) else (if (M_in x1 (nI 0) (nI 3)) = 0 then (nI 0) else (nI 1)) := rfl
def M_isTwo (x0 : Int32) : Int32 := if (x0 &&& (x0 - (nI 1))) = 0 then (nI 0) else (nI 1)
theorem M_isTwo_e (x0 : Int32) : M_isTwo x0 = if (x0 &&& (x0 - (nI 1))) = 0 then (nI 0) else (nI 1) := rfl
def M_find_L4 (x1 : Int32) : MS → Nat → Int32 → Nat → Int32
  | S, 0, _, _ => 0
  | S, N4 + 1, v2, i3 => if (mn S) ≤ i3 then v2 else (if (mnum S i3) = x1 then (M_find_L4 x1 S N4 (nI i3) (i3 + 1)) else (M_find_L4 x1 S N4 v2 (i3 + 1)))
theorem M_find_L4_e (x1 : Int32) (S : MS) (N4 : Nat) (v2 : Int32) (i3 : Nat) : M_find_L4 x1 S (N4 + 1) v2 i3 = if (mn S) ≤ i3 then v2 else (if (mnum S i3) = x1 then (M_find_L4 x1 S N4 (nI i3) (i3 + 1)) else (M_find_L4 x1 S N4 v2 (i3 + 1))) := rfl
def M_find (x1 : Int32) (S : MS) : Int32 := M_find_L4 x1 S (mn S + 1) (-1) 0
theorem M_find_e (x1 : Int32) (S : MS) : M_find x1 S = M_find_L4 x1 S (mn S + 1) (-1) 0 := rfl
def M_doesLeave_K92 (x1 : Int32) (x2 : Int32) (r11 : Int32 → Int32 → Int32 → Nat → Int32) (S : MS) (v3 : Int32) (v4 : Int32) (v5 : Int32) (i6 : Nat) : Int32 := if v5 = 0 then (if (mrk S i6) = 0 then (if (mrc S i6) = (mnum S x2.toNatClampNeg) then (r11 v3 v4 (nI 1) (i6 + 1)) else (r11 v3 v4 (nI 0) (i6 + 1))) else (r11 v3 v4 (nI 0) (i6 + 1))) else (r11 v3 v4 (nI 1) (i6 + 1))
theorem M_doesLeave_K92_e (x1 : Int32) (x2 : Int32) (r11 : Int32 → Int32 → Int32 → Nat → Int32) (S : MS) (v3 : Int32) (v4 : Int32) (v5 : Int32) (i6 : Nat) : M_doesLeave_K92 x1 x2 r11 S v3 v4 v5 i6 = if v5 = 0 then (if (mrk S i6) = 0 then (if (mrc S i6) = (mnum S x2.toNatClampNeg) then (r11 v3 v4 (nI 1) (i6 + 1)) else (r11 v3 v4 (nI 0) (i6 + 1))) else (r11 v3 v4 (nI 0) (i6 + 1))) else (r11 v3 v4 (nI 1) (i6 + 1)) := rfl
def M_doesLeave_K54 (x1 : Int32) (x2 : Int32) (r11 : Int32 → Int32 → Int32 → Nat → Int32) (S : MS) (v3 : Int32) (v4 : Int32) (v5 : Int32) (i6 : Nat) : Int32 := if v4 = 0 then (if (mrk S i6) = 0 then (M_doesLeave_K92 x1 x2 r11 S v3 (nI 0) v5 i6) else (if (mrc S i6) = (mnum S x2.toNatClampNeg) then (M_doesLeave_K92 x1 x2 r11 S v3 (nI 1) v5 i6) else (M_doesLeave_K92 x1 x2 r11 S v3 (nI 0) v5 i6))) else (M_doesLeave_K92 x1 x2 r11 S v3 (nI 1) v5 i6)
theorem M_doesLeave_K54_e (x1 : Int32) (x2 : Int32) (r11 : Int32 → Int32 → Int32 → Nat → Int32) (S : MS) (v3 : Int32) (v4 : Int32) (v5 : Int32) (i6 : Nat) : M_doesLeave_K54 x1 x2 r11 S v3 v4 v5 i6 = if v4 = 0 then (if (mrk S i6) = 0 then (M_doesLeave_K92 x1 x2 r11 S v3 (nI 0) v5 i6) else (if (mrc S i6) = (mnum S x2.toNatClampNeg) then (M_doesLeave_K92 x1 x2 r11 S v3 (nI 1) v5 i6) else (M_doesLeave_K92 x1 x2 r11 S v3 (nI 0) v5 i6))) else (M_doesLeave_K92 x1 x2 r11 S v3 (nI 1) v5 i6) := rfl
def M_doesLeave_L11 (x1 : Int32) (x2 : Int32) : MS → Nat → Int32 → Int32 → Int32 → Nat → Int32
  | S, 0, _, _, _, _ => 0
  | S, N11 + 1, v3, v4, v5, i6 => if (mr S) ≤ i6 then (if v4 = 0 then (if v3 = 0 then (if v5 = 0 then (nI 1) else (nI 0)) else (nI 0)) else (if v5 = 0 then (nI 1) else (nI 0))) else (if (mra S i6) = x1 then (if v3 = 0 then (if (mrk S i6) = 0 then (M_doesLeave_K54 x1 x2 (M_doesLeave_L11 x1 x2 S N11) S (nI 0) v4 v5 i6) else (M_doesLeave_K54 x1 x2 (M_doesLeave_L11 x1 x2 S N11) S (nI 1) v4 v5 i6)) else (M_doesLeave_K54 x1 x2 (M_doesLeave_L11 x1 x2 S N11) S (nI 1) v4 v5 i6)) else (M_doesLeave_L11 x1 x2 S N11 v3 v4 v5 (i6 + 1)))
theorem M_doesLeave_L11_e (x1 : Int32) (x2 : Int32) (S : MS) (N11 : Nat) (v3 : Int32) (v4 : Int32) (v5 : Int32) (i6 : Nat) : M_doesLeave_L11 x1 x2 S (N11 + 1) v3 v4 v5 i6 = if (mr S) ≤ i6 then (if v4 = 0 then (if v3 = 0 then (if v5 = 0 then (nI 1) else (nI 0)) else (nI 0)) else (if v5 = 0 then (nI 1) else (nI 0))) else (if (mra S i6) = x1 then (if v3 = 0 then (if (mrk S i6) = 0 then (M_doesLeave_K54 x1 x2 (M_doesLeave_L11 x1 x2 S N11) S (nI 0) v4 v5 i6) else (M_doesLeave_K54 x1 x2 (M_doesLeave_L11 x1 x2 S N11) S (nI 1) v4 v5 i6)) else (M_doesLeave_K54 x1 x2 (M_doesLeave_L11 x1 x2 S N11) S (nI 1) v4 v5 i6)) else (M_doesLeave_L11 x1 x2 S N11 v3 v4 v5 (i6 + 1))) := rfl
def M_doesLeave (x1 : Int32) (x2 : Int32) (S : MS) : Int32 := M_doesLeave_L11 x1 x2 S (mr S + 1) (nI 0) (nI 0) (nI 0) 0
theorem M_doesLeave_e (x1 : Int32) (x2 : Int32) (S : MS) : M_doesLeave x1 x2 S = M_doesLeave_L11 x1 x2 S (mr S + 1) (nI 0) (nI 0) (nI 0) 0 := rfl
def M_isLeft_L4 (j1 : Nat) : MS → Nat → Int32 → Nat → Int32
  | S, 0, _, _ => 0
  | S, N4 + 1, v2, i3 => if 5 ≤ i3 then v2 else (if v2 = 0 then (M_isLeft_L4 j1 S N4 (nI 0) (i3 + 1)) else (if (mgv S i3) < 0 then (M_isLeft_L4 j1 S N4 (nI 1) (i3 + 1)) else (if (M_doesLeave ((nI (4 * i3)) + (mgv S i3)) (nI j1) S) = 0 then (M_isLeft_L4 j1 S N4 (nI 0) (i3 + 1)) else (M_isLeft_L4 j1 S N4 (nI 1) (i3 + 1)))))
theorem M_isLeft_L4_e (j1 : Nat) (S : MS) (N4 : Nat) (v2 : Int32) (i3 : Nat) : M_isLeft_L4 j1 S (N4 + 1) v2 i3 = if 5 ≤ i3 then v2 else (if v2 = 0 then (M_isLeft_L4 j1 S N4 (nI 0) (i3 + 1)) else (if (mgv S i3) < 0 then (M_isLeft_L4 j1 S N4 (nI 1) (i3 + 1)) else (if (M_doesLeave ((nI (4 * i3)) + (mgv S i3)) (nI j1) S) = 0 then (M_isLeft_L4 j1 S N4 (nI 0) (i3 + 1)) else (M_isLeft_L4 j1 S N4 (nI 1) (i3 + 1))))) := rfl
def M_isLeft (j1 : Nat) (S : MS) : Int32 := M_isLeft_L4 j1 S (5 + 1) (nI 1) 0
theorem M_isLeft_e (j1 : Nat) (S : MS) : M_isLeft j1 S = M_isLeft_L4 j1 S (5 + 1) (nI 1) 0 := rfl
def M_leftMany_L4 : MS → Nat → Nat → Nat → Nat
  | S, 0, _, _ => 0
  | S, N4 + 1, i1, i2 => if (mn S) ≤ i2 then i1 else (if (M_isLeft i2 S) = 0 then (M_leftMany_L4 S N4 (i1 + 0) (i2 + 1)) else (M_leftMany_L4 S N4 (i1 + 1) (i2 + 1)))
theorem M_leftMany_L4_e (S : MS) (N4 : Nat) (i1 : Nat) (i2 : Nat) : M_leftMany_L4 S (N4 + 1) i1 i2 = if (mn S) ≤ i2 then i1 else (if (M_isLeft i2 S) = 0 then (M_leftMany_L4 S N4 (i1 + 0) (i2 + 1)) else (M_leftMany_L4 S N4 (i1 + 1) (i2 + 1))) := rfl
def M_leftMany (S : MS) : Nat := M_leftMany_L4 S (mn S + 1) 0 0
theorem M_leftMany_e (S : MS) : M_leftMany S = M_leftMany_L4 S (mn S + 1) 0 0 := rfl
def M_leftSet_L4 : MS → Nat → Int32 → Nat → Int32
  | S, 0, _, _ => 0
  | S, N4 + 1, v1, i2 => if (mn S) ≤ i2 then v1 else (if (M_isLeft i2 S) = 0 then (M_leftSet_L4 S N4 (v1 ||| (nI 0)) (i2 + 1)) else (M_leftSet_L4 S N4 (v1 ||| ((nI 1) <<< ((nI i2) &&& 31))) (i2 + 1)))
theorem M_leftSet_L4_e (S : MS) (N4 : Nat) (v1 : Int32) (i2 : Nat) : M_leftSet_L4 S (N4 + 1) v1 i2 = if (mn S) ≤ i2 then v1 else (if (M_isLeft i2 S) = 0 then (M_leftSet_L4 S N4 (v1 ||| (nI 0)) (i2 + 1)) else (M_leftSet_L4 S N4 (v1 ||| ((nI 1) <<< ((nI i2) &&& 31))) (i2 + 1))) := rfl
def M_leftSet (S : MS) : Int32 := M_leftSet_L4 S (mn S + 1) (nI 0) 0
theorem M_leftSet_e (S : MS) : M_leftSet S = M_leftSet_L4 S (mn S + 1) (nI 0) 0 := rfl
def M_openSet_L4 : MS → Nat → Int32 → Nat → Int32
  | S, 0, _, _ => 0
  | S, N4 + 1, v1, i2 => if 5 ≤ i2 then v1 else (if 0 ≤ (mgv S i2) then (M_openSet_L4 S N4 (v1 ||| (nI 0)) (i2 + 1)) else (M_openSet_L4 S N4 (v1 ||| ((nI 1) <<< ((nI i2) &&& 31))) (i2 + 1)))
theorem M_openSet_L4_e (S : MS) (N4 : Nat) (v1 : Int32) (i2 : Nat) : M_openSet_L4 S (N4 + 1) v1 i2 = if 5 ≤ i2 then v1 else (if 0 ≤ (mgv S i2) then (M_openSet_L4 S N4 (v1 ||| (nI 0)) (i2 + 1)) else (M_openSet_L4 S N4 (v1 ||| ((nI 1) <<< ((nI i2) &&& 31))) (i2 + 1))) := rfl
def M_openSet (S : MS) : Int32 := M_openSet_L4 S (5 + 1) (nI 0) 0
theorem M_openSet_e (S : MS) : M_openSet S = M_openSet_L4 S (5 + 1) (nI 0) 0 := rfl
def M_isGiven (x1 : Int32) (S : MS) : Int32 := if (mgv S (x1 / (nI 4)).toNatClampNeg) = (x1 - x1 / (nI 4) * (nI 4)) then (nI 1) else (nI 0)
theorem M_isGiven_e (x1 : Int32) (S : MS) : M_isGiven x1 S = if (mgv S (x1 / (nI 4)).toNatClampNeg) = (x1 - x1 / (nI 4) * (nI 4)) then (nI 1) else (nI 0) := rfl
def M_holds (j1 : Nat) (S : MS) : Int32 := if (mpu S j1) < (mtd S) then (nI 0) else (if (M_isGiven (mp1 S j1) S) = 0 then (nI 0) else (if (mp2 S j1) < 0 then (nI 1) else (if 0 ≤ (mp2 S j1) then (if (M_isGiven (mp2 S j1) S) = 0 then (nI 0) else (nI 1)) else (if (M_isGiven (nI 0) S) = 0 then (nI 0) else (nI 1)))))
theorem M_holds_e (j1 : Nat) (S : MS) : M_holds j1 S = if (mpu S j1) < (mtd S) then (nI 0) else (if (M_isGiven (mp1 S j1) S) = 0 then (nI 0) else (if (mp2 S j1) < 0 then (nI 1) else (if 0 ≤ (mp2 S j1) then (if (M_isGiven (mp2 S j1) S) = 0 then (nI 0) else (nI 1)) else (if (M_isGiven (nI 0) S) = 0 then (nI 0) else (nI 1))))) := rfl
def M_ruled_L4 : MS → Nat → Int32 → Nat → Int32
  | S, 0, _, _ => 0
  | S, N4 + 1, v1, i2 => if (mp S) ≤ i2 then v1 else (if (M_holds i2 S) = 0 then (M_ruled_L4 S N4 v1 (i2 + 1)) else (if v1 = 0 then (M_ruled_L4 S N4 (mpc S i2) (i2 + 1)) else (if v1 = (mpc S i2) then (M_ruled_L4 S N4 (mpc S i2) (i2 + 1)) else (M_ruled_L4 S N4 (-1) (i2 + 1)))))
theorem M_ruled_L4_e (S : MS) (N4 : Nat) (v1 : Int32) (i2 : Nat) : M_ruled_L4 S (N4 + 1) v1 i2 = if (mp S) ≤ i2 then v1 else (if (M_holds i2 S) = 0 then (M_ruled_L4 S N4 v1 (i2 + 1)) else (if v1 = 0 then (M_ruled_L4 S N4 (mpc S i2) (i2 + 1)) else (if v1 = (mpc S i2) then (M_ruled_L4 S N4 (mpc S i2) (i2 + 1)) else (M_ruled_L4 S N4 (-1) (i2 + 1))))) := rfl
def M_ruled (S : MS) : Int32 := M_ruled_L4 S (mp S + 1) (nI 0) 0
theorem M_ruled_e (S : MS) : M_ruled S = M_ruled_L4 S (mp S + 1) (nI 0) 0 := rfl
def M_ahead (x1 : Int32) (x2 : Int32) (S : MS) : Int32 := if (mspec S x1.toNatClampNeg) = (mspec S x2.toNatClampNeg) then (if (((mup S x1.toNatClampNeg) * (mdown S x2.toNatClampNeg)) - ((mup S x2.toNatClampNeg) * (mdown S x1.toNatClampNeg))) = 0 then (if x1 ≤ x2 then (-1) else (nI 2)) else (if (((mup S x1.toNatClampNeg) * (mdown S x2.toNatClampNeg)) - ((mup S x2.toNatClampNeg) * (mdown S x1.toNatClampNeg))) ≤ 0 then (-1) else (nI 1))) else (if (mspec S x1.toNatClampNeg) ≤ (mspec S x2.toNatClampNeg) then (-1) else (nI 0))
theorem M_ahead_e (x1 : Int32) (x2 : Int32) (S : MS) : M_ahead x1 x2 S = if (mspec S x1.toNatClampNeg) = (mspec S x2.toNatClampNeg) then (if (((mup S x1.toNatClampNeg) * (mdown S x2.toNatClampNeg)) - ((mup S x2.toNatClampNeg) * (mdown S x1.toNatClampNeg))) = 0 then (if x1 ≤ x2 then (-1) else (nI 2)) else (if (((mup S x1.toNatClampNeg) * (mdown S x2.toNatClampNeg)) - ((mup S x2.toNatClampNeg) * (mdown S x1.toNatClampNeg))) ≤ 0 then (-1) else (nI 1))) else (if (mspec S x1.toNatClampNeg) ≤ (mspec S x2.toNatClampNeg) then (-1) else (nI 0)) := rfl
def M_isLeftBy_L5 (j1 : Nat) (j2 : Nat) : MS → Nat → Int32 → Nat → Int32
  | S, 0, _, _ => 0
  | S, N5 + 1, v3, i4 => if 5 ≤ i4 then v3 else (if v3 = 0 then (M_isLeftBy_L5 j1 j2 S N5 (nI 0) (i4 + 1)) else (if (mgv S i4) < 0 then (M_isLeftBy_L5 j1 j2 S N5 (nI 1) (i4 + 1)) else (if (mtn S j2) < (mtn S i4) then (M_isLeftBy_L5 j1 j2 S N5 (nI 1) (i4 + 1)) else (if (M_doesLeave ((nI (4 * i4)) + (mgv S i4)) (nI j1) S) = 0 then (M_isLeftBy_L5 j1 j2 S N5 (nI 0) (i4 + 1)) else (M_isLeftBy_L5 j1 j2 S N5 (nI 1) (i4 + 1))))))
theorem M_isLeftBy_L5_e (j1 : Nat) (j2 : Nat) (S : MS) (N5 : Nat) (v3 : Int32) (i4 : Nat) : M_isLeftBy_L5 j1 j2 S (N5 + 1) v3 i4 = if 5 ≤ i4 then v3 else (if v3 = 0 then (M_isLeftBy_L5 j1 j2 S N5 (nI 0) (i4 + 1)) else (if (mgv S i4) < 0 then (M_isLeftBy_L5 j1 j2 S N5 (nI 1) (i4 + 1)) else (if (mtn S j2) < (mtn S i4) then (M_isLeftBy_L5 j1 j2 S N5 (nI 1) (i4 + 1)) else (if (M_doesLeave ((nI (4 * i4)) + (mgv S i4)) (nI j1) S) = 0 then (M_isLeftBy_L5 j1 j2 S N5 (nI 0) (i4 + 1)) else (M_isLeftBy_L5 j1 j2 S N5 (nI 1) (i4 + 1)))))) := rfl
def M_isLeftBy (j1 : Nat) (j2 : Nat) (S : MS) : Int32 := M_isLeftBy_L5 j1 j2 S (5 + 1) (nI 1) 0
theorem M_isLeftBy_e (j1 : Nat) (j2 : Nat) (S : MS) : M_isLeftBy j1 j2 S = M_isLeftBy_L5 j1 j2 S (5 + 1) (nI 1) 0 := rfl
def M_bestLeft_L4 : MS → Nat → Int32 → Nat → Int32
  | S, 0, _, _ => 0
  | S, N4 + 1, v1, i2 => if (mn S) ≤ i2 then v1 else (if (M_isLeft i2 S) = 0 then (M_bestLeft_L4 S N4 v1 (i2 + 1)) else (if v1 < 0 then (M_bestLeft_L4 S N4 (nI i2) (i2 + 1)) else (if (M_ahead (nI i2) v1 S) < 0 then (M_bestLeft_L4 S N4 v1 (i2 + 1)) else (M_bestLeft_L4 S N4 (nI i2) (i2 + 1)))))
theorem M_bestLeft_L4_e (S : MS) (N4 : Nat) (v1 : Int32) (i2 : Nat) : M_bestLeft_L4 S (N4 + 1) v1 i2 = if (mn S) ≤ i2 then v1 else (if (M_isLeft i2 S) = 0 then (M_bestLeft_L4 S N4 v1 (i2 + 1)) else (if v1 < 0 then (M_bestLeft_L4 S N4 (nI i2) (i2 + 1)) else (if (M_ahead (nI i2) v1 S) < 0 then (M_bestLeft_L4 S N4 v1 (i2 + 1)) else (M_bestLeft_L4 S N4 (nI i2) (i2 + 1))))) := rfl
def M_bestLeft (S : MS) : Int32 := M_bestLeft_L4 S (mn S + 1) (-1) 0
theorem M_bestLeft_e (S : MS) : M_bestLeft S = M_bestLeft_L4 S (mn S + 1) (-1) 0 := rfl
def M_parts_L5 (x1 : Int32) (x2 : Int32) : MS → Nat → Int32 → Nat → Int32
  | S, 0, _, _ => 0
  | S, N5 + 1, v3, i4 => if 4 ≤ i4 then v3 else (if v3 = 0 then (if (x1 &&& (mlv S (((nI 4) * x2) + (nI i4)).toNatClampNeg)) = (x1 &&& (mlv S ((nI 4) * x2).toNatClampNeg)) then (M_parts_L5 x1 x2 S N5 (nI 0) (i4 + 1)) else (M_parts_L5 x1 x2 S N5 (nI 1) (i4 + 1))) else (M_parts_L5 x1 x2 S N5 (nI 1) (i4 + 1)))
theorem M_parts_L5_e (x1 : Int32) (x2 : Int32) (S : MS) (N5 : Nat) (v3 : Int32) (i4 : Nat) : M_parts_L5 x1 x2 S (N5 + 1) v3 i4 = if 4 ≤ i4 then v3 else (if v3 = 0 then (if (x1 &&& (mlv S (((nI 4) * x2) + (nI i4)).toNatClampNeg)) = (x1 &&& (mlv S ((nI 4) * x2).toNatClampNeg)) then (M_parts_L5 x1 x2 S N5 (nI 0) (i4 + 1)) else (M_parts_L5 x1 x2 S N5 (nI 1) (i4 + 1))) else (M_parts_L5 x1 x2 S N5 (nI 1) (i4 + 1))) := rfl
def M_parts (x1 : Int32) (x2 : Int32) (S : MS) : Int32 := M_parts_L5 x1 x2 S (4 + 1) (nI 0) 1
theorem M_parts_e (x1 : Int32) (x2 : Int32) (S : MS) : M_parts x1 x2 S = M_parts_L5 x1 x2 S (4 + 1) (nI 0) 1 := rfl
def M_begin (x1 : Int32) (x2 : Int32) (x3 : Int32) (S : MS) : MS := if (M_isTwo x2) = 0 then (mwb_s (mwm_s (mwa_s (mwq_s (mwo_s (mwl_s S (upd (mwl S) x1.toNatClampNeg x2)) (upd (mwo S) x1.toNatClampNeg x3)) (upd (mwq S) x1.toNatClampNeg (nI 5))) (upd (mwa S) x1.toNatClampNeg (nI 0))) (upd (mwm S) x1.toNatClampNeg (nI 0))) (upd (mwb S) x1.toNatClampNeg (-1))) else (mwb_s (mwm_s (mwa_s (mwq_s (mwo_s (mwl_s S (upd (mwl S) x1.toNatClampNeg x2)) (upd (mwo S) x1.toNatClampNeg x3)) (upd (mwq S) x1.toNatClampNeg (nI 0))) (upd (mwa S) x1.toNatClampNeg (nI 0))) (upd (mwm S) x1.toNatClampNeg (nI 0))) (upd (mwb S) x1.toNatClampNeg (-1)))
theorem M_begin_e (x1 : Int32) (x2 : Int32) (x3 : Int32) (S : MS) : M_begin x1 x2 x3 S = if (M_isTwo x2) = 0 then (mwb_s (mwm_s (mwa_s (mwq_s (mwo_s (mwl_s S (upd (mwl S) x1.toNatClampNeg x2)) (upd (mwo S) x1.toNatClampNeg x3)) (upd (mwq S) x1.toNatClampNeg (nI 5))) (upd (mwa S) x1.toNatClampNeg (nI 0))) (upd (mwm S) x1.toNatClampNeg (nI 0))) (upd (mwb S) x1.toNatClampNeg (-1))) else (mwb_s (mwm_s (mwa_s (mwq_s (mwo_s (mwl_s S (upd (mwl S) x1.toNatClampNeg x2)) (upd (mwo S) x1.toNatClampNeg x3)) (upd (mwq S) x1.toNatClampNeg (nI 0))) (upd (mwa S) x1.toNatClampNeg (nI 0))) (upd (mwm S) x1.toNatClampNeg (nI 0))) (upd (mwb S) x1.toNatClampNeg (-1))) := rfl
def M_turnTo (x1 : Int32) (x2 : Int32) (S : MS) : MS := if x2 = 0 then (mwm_s (mwa_s (mwq_s S (upd (mwq S) x1.toNatClampNeg ((mwq S x1.toNatClampNeg) + (nI 1)))) (upd (mwa S) x1.toNatClampNeg (nI 0))) (upd (mwm S) x1.toNatClampNeg (nI 0))) else (if (mwb S x1.toNatClampNeg) < 0 then (if x1 = 0 then (mwm_s (mwa_s (mwq_s (mwf_s (mwb_s S (upd (mwb S) x1.toNatClampNeg ((mwm S x1.toNatClampNeg) + (nI 1)))) (mwq S x1.toNatClampNeg)) (upd (mwq S) x1.toNatClampNeg ((mwq S x1.toNatClampNeg) + (nI 1)))) (upd (mwa S) x1.toNatClampNeg (nI 0))) (upd (mwm S) x1.toNatClampNeg (nI 0))) else (mwm_s (mwa_s (mwq_s (mwf_s (mwb_s S (upd (mwb S) x1.toNatClampNeg ((mwm S x1.toNatClampNeg) + (nI 1)))) (mwf S)) (upd (mwq S) x1.toNatClampNeg ((mwq S x1.toNatClampNeg) + (nI 1)))) (upd (mwa S) x1.toNatClampNeg (nI 0))) (upd (mwm S) x1.toNatClampNeg (nI 0)))) else (if (mwb S x1.toNatClampNeg) ≤ ((mwm S x1.toNatClampNeg) + (nI 1)) then (mwm_s (mwa_s (mwq_s S (upd (mwq S) x1.toNatClampNeg ((mwq S x1.toNatClampNeg) + (nI 1)))) (upd (mwa S) x1.toNatClampNeg (nI 0))) (upd (mwm S) x1.toNatClampNeg (nI 0))) else (if x1 = 0 then (mwm_s (mwa_s (mwq_s (mwf_s (mwb_s S (upd (mwb S) x1.toNatClampNeg ((mwm S x1.toNatClampNeg) + (nI 1)))) (mwq S x1.toNatClampNeg)) (upd (mwq S) x1.toNatClampNeg ((mwq S x1.toNatClampNeg) + (nI 1)))) (upd (mwa S) x1.toNatClampNeg (nI 0))) (upd (mwm S) x1.toNatClampNeg (nI 0))) else (mwm_s (mwa_s (mwq_s (mwf_s (mwb_s S (upd (mwb S) x1.toNatClampNeg ((mwm S x1.toNatClampNeg) + (nI 1)))) (mwf S)) (upd (mwq S) x1.toNatClampNeg ((mwq S x1.toNatClampNeg) + (nI 1)))) (upd (mwa S) x1.toNatClampNeg (nI 0))) (upd (mwm S) x1.toNatClampNeg (nI 0))))))
theorem M_turnTo_e (x1 : Int32) (x2 : Int32) (S : MS) : M_turnTo x1 x2 S = if x2 = 0 then (mwm_s (mwa_s (mwq_s S (upd (mwq S) x1.toNatClampNeg ((mwq S x1.toNatClampNeg) + (nI 1)))) (upd (mwa S) x1.toNatClampNeg (nI 0))) (upd (mwm S) x1.toNatClampNeg (nI 0))) else (if (mwb S x1.toNatClampNeg) < 0 then (if x1 = 0 then (mwm_s (mwa_s (mwq_s (mwf_s (mwb_s S (upd (mwb S) x1.toNatClampNeg ((mwm S x1.toNatClampNeg) + (nI 1)))) (mwq S x1.toNatClampNeg)) (upd (mwq S) x1.toNatClampNeg ((mwq S x1.toNatClampNeg) + (nI 1)))) (upd (mwa S) x1.toNatClampNeg (nI 0))) (upd (mwm S) x1.toNatClampNeg (nI 0))) else (mwm_s (mwa_s (mwq_s (mwf_s (mwb_s S (upd (mwb S) x1.toNatClampNeg ((mwm S x1.toNatClampNeg) + (nI 1)))) (mwf S)) (upd (mwq S) x1.toNatClampNeg ((mwq S x1.toNatClampNeg) + (nI 1)))) (upd (mwa S) x1.toNatClampNeg (nI 0))) (upd (mwm S) x1.toNatClampNeg (nI 0)))) else (if (mwb S x1.toNatClampNeg) ≤ ((mwm S x1.toNatClampNeg) + (nI 1)) then (mwm_s (mwa_s (mwq_s S (upd (mwq S) x1.toNatClampNeg ((mwq S x1.toNatClampNeg) + (nI 1)))) (upd (mwa S) x1.toNatClampNeg (nI 0))) (upd (mwm S) x1.toNatClampNeg (nI 0))) else (if x1 = 0 then (mwm_s (mwa_s (mwq_s (mwf_s (mwb_s S (upd (mwb S) x1.toNatClampNeg ((mwm S x1.toNatClampNeg) + (nI 1)))) (mwq S x1.toNatClampNeg)) (upd (mwq S) x1.toNatClampNeg ((mwq S x1.toNatClampNeg) + (nI 1)))) (upd (mwa S) x1.toNatClampNeg (nI 0))) (upd (mwm S) x1.toNatClampNeg (nI 0))) else (mwm_s (mwa_s (mwq_s (mwf_s (mwb_s S (upd (mwb S) x1.toNatClampNeg ((mwm S x1.toNatClampNeg) + (nI 1)))) (mwf S)) (upd (mwq S) x1.toNatClampNeg ((mwq S x1.toNatClampNeg) + (nI 1)))) (upd (mwa S) x1.toNatClampNeg (nI 0))) (upd (mwm S) x1.toNatClampNeg (nI 0)))))) := rfl
def M_code_L64 (x1 : Int32) (x2 : Int32) : MS → Nat → Nat → Int32 × MS
  | U, 0, _ => (0, U)
  | U, N64 + 1, i3 => if i3 ≤ 0 then (nI ((mn U) + 1), mn_s (mdown_s (mup_s (mspec_s (mnum_s U (upd (mnum U) i3 x1)) (upd (mspec U) i3 x2)) (upd (mup U) i3 (nI 0))) (upd (mdown U) i3 (nI 1))) ((mn U) + 1)) else (if (mnum U (i3 - 1)) ≤ x1 then (nI ((mn U) + 1), mn_s (mdown_s (mup_s (mspec_s (mnum_s U (upd (mnum U) i3 x1)) (upd (mspec U) i3 x2)) (upd (mup U) i3 (nI 0))) (upd (mdown U) i3 (nI 1))) ((mn U) + 1)) else (M_code_L64 x1 x2 (mdown_s (mup_s (mspec_s (mnum_s U (upd (mnum U) i3 (mnum U (i3 - 1)))) (upd (mspec U) i3 (mspec U (i3 - 1)))) (upd (mup U) i3 (mup U (i3 - 1)))) (upd (mdown U) i3 (mdown U (i3 - 1)))) N64 (i3 - 1)))
theorem M_code_L64_e (x1 : Int32) (x2 : Int32) (U : MS) (N64 : Nat) (i3 : Nat) : M_code_L64 x1 x2 U (N64 + 1) i3 = if i3 ≤ 0 then (nI ((mn U) + 1), mn_s (mdown_s (mup_s (mspec_s (mnum_s U (upd (mnum U) i3 x1)) (upd (mspec U) i3 x2)) (upd (mup U) i3 (nI 0))) (upd (mdown U) i3 (nI 1))) ((mn U) + 1)) else (if (mnum U (i3 - 1)) ≤ x1 then (nI ((mn U) + 1), mn_s (mdown_s (mup_s (mspec_s (mnum_s U (upd (mnum U) i3 x1)) (upd (mspec U) i3 x2)) (upd (mup U) i3 (nI 0))) (upd (mdown U) i3 (nI 1))) ((mn U) + 1)) else (M_code_L64 x1 x2 (mdown_s (mup_s (mspec_s (mnum_s U (upd (mnum U) i3 (mnum U (i3 - 1)))) (upd (mspec U) i3 (mspec U (i3 - 1)))) (upd (mup U) i3 (mup U (i3 - 1)))) (upd (mdown U) i3 (mdown U (i3 - 1)))) N64 (i3 - 1))) := rfl
def M_code (x1 : Int32) (x2 : Int32) (S : MS) : Int32 × MS := if (M_in x1 (nI 1) (nI 999999)) = 0 then (nI 0, mth_s S 1) else (if (M_in x2 (nI 0) (nI 100)) = 0 then (nI 0, mth_s S 1) else (if (mn S) = 12 then (nI 0, mth_s S 2) else (if (M_find x1 (mth_s S 0)) < 0 then (M_code_L64 x1 x2 (mth_s S 0) (mn S + 1) (mn S)) else (nI 0, mth_s S 0))))
theorem M_code_e (x1 : Int32) (x2 : Int32) (S : MS) : M_code x1 x2 S = if (M_in x1 (nI 1) (nI 999999)) = 0 then (nI 0, mth_s S 1) else (if (M_in x2 (nI 0) (nI 100)) = 0 then (nI 0, mth_s S 1) else (if (mn S) = 12 then (nI 0, mth_s S 2) else (if (M_find x1 (mth_s S 0)) < 0 then (M_code_L64 x1 x2 (mth_s S 0) (mn S + 1) (mn S)) else (nI 0, mth_s S 0)))) := rfl
def M_share (x1 : Int32) (x2 : Int32) (x3 : Int32) (S : MS) : Int32 × MS := if (M_find x1 (mth_s S 0)) < 0 then (nI 0, mth_s S 0) else (if (M_in x2 (nI 0) (nI 1000)) = 0 then (nI 0, mth_s S 0) else (if (M_in x3 (nI 1) (nI 1000)) = 0 then (nI 0, mth_s S 0) else (nI 1, mdown_s (mup_s (mth_s S 0) (upd (mup S) (M_find x1 (mth_s S 0)).toNatClampNeg x2)) (upd (mdown S) (M_find x1 (mth_s S 0)).toNatClampNeg x3))))
theorem M_share_e (x1 : Int32) (x2 : Int32) (x3 : Int32) (S : MS) : M_share x1 x2 x3 S = if (M_find x1 (mth_s S 0)) < 0 then (nI 0, mth_s S 0) else (if (M_in x2 (nI 0) (nI 1000)) = 0 then (nI 0, mth_s S 0) else (if (M_in x3 (nI 1) (nI 1000)) = 0 then (nI 0, mth_s S 0) else (nI 1, mdown_s (mup_s (mth_s S 0) (upd (mup S) (M_find x1 (mth_s S 0)).toNatClampNeg x2)) (upd (mdown S) (M_find x1 (mth_s S 0)).toNatClampNeg x3)))) := rfl
def M_rule_L50 (x1 : Int32) (x2 : Int32) (x3 : Int32) (x4 : Int32) : MS → Nat → Nat → Int32 × MS
  | U, 0, _ => (0, U)
  | U, N50 + 1, i5 => if (mr U) ≤ i5 then (nI ((mr U) + 1), mr_s (mrk_s (mrc_s (mra_s U (upd (mra U) (mr U) (((nI 4) * x1) + x2))) (upd (mrc U) (mr U) x3)) (upd (mrk U) (mr U) (vp_nar .boolean x4))) ((mr U) + 1)) else (if (mra U i5) = (((nI 4) * x1) + x2) then (if (mrc U i5) = x3 then (nI 0, U) else (M_rule_L50 x1 x2 x3 x4 U N50 (i5 + 1))) else (M_rule_L50 x1 x2 x3 x4 U N50 (i5 + 1)))
theorem M_rule_L50_e (x1 : Int32) (x2 : Int32) (x3 : Int32) (x4 : Int32) (U : MS) (N50 : Nat) (i5 : Nat) : M_rule_L50 x1 x2 x3 x4 U (N50 + 1) i5 = if (mr U) ≤ i5 then (nI ((mr U) + 1), mr_s (mrk_s (mrc_s (mra_s U (upd (mra U) (mr U) (((nI 4) * x1) + x2))) (upd (mrc U) (mr U) x3)) (upd (mrk U) (mr U) (vp_nar .boolean x4))) ((mr U) + 1)) else (if (mra U i5) = (((nI 4) * x1) + x2) then (if (mrc U i5) = x3 then (nI 0, U) else (M_rule_L50 x1 x2 x3 x4 U N50 (i5 + 1))) else (M_rule_L50 x1 x2 x3 x4 U N50 (i5 + 1))) := rfl
def M_rule (x1 : Int32) (x2 : Int32) (x3 : Int32) (x4 : Int32) (S : MS) : Int32 × MS := if (M_isPair x1 x2) = 0 then (nI 0, mth_s S 1) else (if 0 ≤ (M_find x3 S) then (if (mr S) = 60 then (nI 0, mth_s S 2) else (M_rule_L50 x1 x2 x3 x4 (mth_s S 0) (mr (mth_s S 0) + 1) 0)) else (nI 0, mth_s S 1))
theorem M_rule_e (x1 : Int32) (x2 : Int32) (x3 : Int32) (x4 : Int32) (S : MS) : M_rule x1 x2 x3 x4 S = if (M_isPair x1 x2) = 0 then (nI 0, mth_s S 1) else (if 0 ≤ (M_find x3 S) then (if (mr S) = 60 then (nI 0, mth_s S 2) else (M_rule_L50 x1 x2 x3 x4 (mth_s S 0) (mr (mth_s S 0) + 1) 0)) else (nI 0, mth_s S 1)) := rfl
def M_answer (x1 : Int32) (x2 : Int32) (S : MS) : Int32 × MS := if (M_in x1 (nI 0) (nI 4)) = 0 then (nI 0, mth_s S 1) else (if (M_in x2 (-1) (nI 3)) = 0 then (nI 0, mth_s S 1) else (if (mgv S x1.toNatClampNeg) = x2 then (nI (M_leftMany (mgv_s (mth_s S 0) (upd (mgv S) x1.toNatClampNeg x2))), mgv_s (mth_s S 0) (upd (mgv S) x1.toNatClampNeg x2)) else (nI (M_leftMany (mgv_s (mtn_s (mtu_s (mth_s S 0) ((mtu S) + 1)) (upd (mtn S) x1.toNatClampNeg (nI ((mtu S) + 1)))) (upd (mgv S) x1.toNatClampNeg x2))), mgv_s (mtn_s (mtu_s (mth_s S 0) ((mtu S) + 1)) (upd (mtn S) x1.toNatClampNeg (nI ((mtu S) + 1)))) (upd (mgv S) x1.toNatClampNeg x2))))
theorem M_answer_e (x1 : Int32) (x2 : Int32) (S : MS) : M_answer x1 x2 S = if (M_in x1 (nI 0) (nI 4)) = 0 then (nI 0, mth_s S 1) else (if (M_in x2 (-1) (nI 3)) = 0 then (nI 0, mth_s S 1) else (if (mgv S x1.toNatClampNeg) = x2 then (nI (M_leftMany (mgv_s (mth_s S 0) (upd (mgv S) x1.toNatClampNeg x2))), mgv_s (mth_s S 0) (upd (mgv S) x1.toNatClampNeg x2)) else (nI (M_leftMany (mgv_s (mtn_s (mtu_s (mth_s S 0) ((mtu S) + 1)) (upd (mtn S) x1.toNatClampNeg (nI ((mtu S) + 1)))) (upd (mgv S) x1.toNatClampNeg x2))), mgv_s (mtn_s (mtu_s (mth_s S 0) ((mtu S) + 1)) (upd (mtn S) x1.toNatClampNeg (nI ((mtu S) + 1)))) (upd (mgv S) x1.toNatClampNeg x2)))) := rfl
def M_found (S : MS) : Int32 × MS := if (M_ruled (mth_s S 0)) ≤ 0 then (if 0 ≤ (M_bestLeft (mth_s S 0)) then (mnum S (M_bestLeft (mth_s S 0)).toNatClampNeg, mth_s S 0) else (nI 0, mth_s S 0)) else (M_ruled (mth_s S 0), mth_s S 0)
theorem M_found_e (S : MS) : M_found S = if (M_ruled (mth_s S 0)) ≤ 0 then (if 0 ≤ (M_bestLeft (mth_s S 0)) then (mnum S (M_bestLeft (mth_s S 0)).toNatClampNeg, mth_s S 0) else (nI 0, mth_s S 0)) else (M_ruled (mth_s S 0), mth_s S 0) := rfl
def M_why_L29 : MS → Nat → Int32 → Nat → Int32 → Int32 × MS
  | U, 0, _, _, _ => (0, U)
  | U, N29 + 1, v2, i3, w1 => if (mn U) ≤ i3 then (v2 + (nI 3), U) else (if (nI i3) = w1 then (M_why_L29 U N29 v2 (i3 + 1) w1) else (if (M_isLeft i3 U) = 0 then (M_why_L29 U N29 v2 (i3 + 1) w1) else (if (M_ahead w1 (nI i3) U) ≤ v2 then (M_why_L29 U N29 v2 (i3 + 1) w1) else (M_why_L29 U N29 (M_ahead w1 (nI i3) U) (i3 + 1) w1))))
theorem M_why_L29_e (U : MS) (N29 : Nat) (v2 : Int32) (i3 : Nat) (w1 : Int32) : M_why_L29 U (N29 + 1) v2 i3 w1 = if (mn U) ≤ i3 then (v2 + (nI 3), U) else (if (nI i3) = w1 then (M_why_L29 U N29 v2 (i3 + 1) w1) else (if (M_isLeft i3 U) = 0 then (M_why_L29 U N29 v2 (i3 + 1) w1) else (if (M_ahead w1 (nI i3) U) ≤ v2 then (M_why_L29 U N29 v2 (i3 + 1) w1) else (M_why_L29 U N29 (M_ahead w1 (nI i3) U) (i3 + 1) w1)))) := rfl
def M_why (S : MS) : Int32 × MS := if (M_ruled (mth_s S 0)) ≤ 0 then (if 0 ≤ (M_bestLeft (mth_s S 0)) then (M_why_L29 (mth_s S 0) (mn (mth_s S 0) + 1) (-1) 0 (M_bestLeft (mth_s S 0))) else (nI 0, mth_s S 0)) else (nI 1, mth_s S 0)
theorem M_why_e (S : MS) : M_why S = if (M_ruled (mth_s S 0)) ≤ 0 then (if 0 ≤ (M_bestLeft (mth_s S 0)) then (M_why_L29 (mth_s S 0) (mn (mth_s S 0) + 1) (-1) 0 (M_bestLeft (mth_s S 0))) else (nI 0, mth_s S 0)) else (nI 1, mth_s S 0) := rfl
def M_left_L9 (x1 : Int32) : MS → Nat → Int32 → Nat → Int32 × MS
  | U, 0, _, _ => (0, U)
  | U, N9 + 1, v2, i3 => if (mn U) ≤ i3 then ((-1), U) else (if (M_isLeft i3 U) = 0 then (if (M_isLeft i3 U) = 0 then (M_left_L9 x1 U N9 (v2 - (nI 0)) (i3 + 1)) else (M_left_L9 x1 U N9 (v2 - (nI 1)) (i3 + 1))) else (if v2 = 0 then (mnum U i3, U) else (if (M_isLeft i3 U) = 0 then (M_left_L9 x1 U N9 (v2 - (nI 0)) (i3 + 1)) else (M_left_L9 x1 U N9 (v2 - (nI 1)) (i3 + 1)))))
theorem M_left_L9_e (x1 : Int32) (U : MS) (N9 : Nat) (v2 : Int32) (i3 : Nat) : M_left_L9 x1 U (N9 + 1) v2 i3 = if (mn U) ≤ i3 then ((-1), U) else (if (M_isLeft i3 U) = 0 then (if (M_isLeft i3 U) = 0 then (M_left_L9 x1 U N9 (v2 - (nI 0)) (i3 + 1)) else (M_left_L9 x1 U N9 (v2 - (nI 1)) (i3 + 1))) else (if v2 = 0 then (mnum U i3, U) else (if (M_isLeft i3 U) = 0 then (M_left_L9 x1 U N9 (v2 - (nI 0)) (i3 + 1)) else (M_left_L9 x1 U N9 (v2 - (nI 1)) (i3 + 1))))) := rfl
def M_left (x1 : Int32) (S : MS) : Int32 × MS := M_left_L9 x1 (mth_s S 0) (mn (mth_s S 0) + 1) x1 0
theorem M_left_e (x1 : Int32) (S : MS) : M_left x1 S = M_left_L9 x1 (mth_s S 0) (mn (mth_s S 0) + 1) x1 0 := rfl
def M_explain_L33 (x1 : Int32) : MS → Nat → Int32 → Nat → Int32 → Int32 × MS
  | U, 0, _, _, _ => (0, U)
  | U, N33 + 1, v3, i4, w2 => if 5 ≤ i4 then (if 0 ≤ v3 then (((nI 4) * v3) + (mgv U v3.toNatClampNeg), U) else ((-1), U)) else (if (mgv U i4) < 0 then (M_explain_L33 x1 U N33 v3 (i4 + 1) w2) else (if 0 ≤ (mgv U i4) then (if (M_doesLeave ((nI (4 * i4)) + (mgv U i4)) w2 U) = 0 then (if v3 < 0 then (M_explain_L33 x1 U N33 (nI i4) (i4 + 1) w2) else (if 0 ≤ v3 then (if (mtn U v3.toNatClampNeg) ≤ (mtn U i4) then (M_explain_L33 x1 U N33 v3 (i4 + 1) w2) else (M_explain_L33 x1 U N33 (nI i4) (i4 + 1) w2)) else (if (mtn U 0) ≤ (mtn U i4) then (M_explain_L33 x1 U N33 v3 (i4 + 1) w2) else (M_explain_L33 x1 U N33 (nI i4) (i4 + 1) w2)))) else (M_explain_L33 x1 U N33 v3 (i4 + 1) w2)) else (if (M_doesLeave (nI 0) w2 U) = 0 then (if v3 < 0 then (M_explain_L33 x1 U N33 (nI i4) (i4 + 1) w2) else (if 0 ≤ v3 then (if (mtn U v3.toNatClampNeg) ≤ (mtn U i4) then (M_explain_L33 x1 U N33 v3 (i4 + 1) w2) else (M_explain_L33 x1 U N33 (nI i4) (i4 + 1) w2)) else (if (mtn U 0) ≤ (mtn U i4) then (M_explain_L33 x1 U N33 v3 (i4 + 1) w2) else (M_explain_L33 x1 U N33 (nI i4) (i4 + 1) w2)))) else (M_explain_L33 x1 U N33 v3 (i4 + 1) w2))))
theorem M_explain_L33_e (x1 : Int32) (U : MS) (N33 : Nat) (v3 : Int32) (i4 : Nat) (w2 : Int32) : M_explain_L33 x1 U (N33 + 1) v3 i4 w2 = if 5 ≤ i4 then (if 0 ≤ v3 then (((nI 4) * v3) + (mgv U v3.toNatClampNeg), U) else ((-1), U)) else (if (mgv U i4) < 0 then (M_explain_L33 x1 U N33 v3 (i4 + 1) w2) else (if 0 ≤ (mgv U i4) then (if (M_doesLeave ((nI (4 * i4)) + (mgv U i4)) w2 U) = 0 then (if v3 < 0 then (M_explain_L33 x1 U N33 (nI i4) (i4 + 1) w2) else (if 0 ≤ v3 then (if (mtn U v3.toNatClampNeg) ≤ (mtn U i4) then (M_explain_L33 x1 U N33 v3 (i4 + 1) w2) else (M_explain_L33 x1 U N33 (nI i4) (i4 + 1) w2)) else (if (mtn U 0) ≤ (mtn U i4) then (M_explain_L33 x1 U N33 v3 (i4 + 1) w2) else (M_explain_L33 x1 U N33 (nI i4) (i4 + 1) w2)))) else (M_explain_L33 x1 U N33 v3 (i4 + 1) w2)) else (if (M_doesLeave (nI 0) w2 U) = 0 then (if v3 < 0 then (M_explain_L33 x1 U N33 (nI i4) (i4 + 1) w2) else (if 0 ≤ v3 then (if (mtn U v3.toNatClampNeg) ≤ (mtn U i4) then (M_explain_L33 x1 U N33 v3 (i4 + 1) w2) else (M_explain_L33 x1 U N33 (nI i4) (i4 + 1) w2)) else (if (mtn U 0) ≤ (mtn U i4) then (M_explain_L33 x1 U N33 v3 (i4 + 1) w2) else (M_explain_L33 x1 U N33 (nI i4) (i4 + 1) w2)))) else (M_explain_L33 x1 U N33 v3 (i4 + 1) w2)))) := rfl
def M_explain (x1 : Int32) (S : MS) : Int32 × MS := if 0 ≤ (M_find x1 S) then (M_explain_L33 x1 (mth_s S 0) (5 + 1) (-1) 0 (M_find x1 S)) else (nI 0, mth_s S 1)
theorem M_explain_e (x1 : Int32) (S : MS) : M_explain x1 S = if 0 ≤ (M_find x1 S) then (M_explain_L33 x1 (mth_s S 0) (5 + 1) (-1) 0 (M_find x1 S)) else (nI 0, mth_s S 1) := rfl
def M_precedent (x1 : Int32) (x2 : Int32) (x3 : Int32) (x4 : Int32) (x5 : Int32) (x6 : Int32) (S : MS) : Int32 × MS := if (M_in x1 (nI 1) (nI 999999)) = 0 then (nI 0, mth_s S 1) else (if (M_isPair x2 x3) = 0 then (nI 0, mth_s S 1) else (if x4 = (-1) then (if (M_in x6 (nI 0) (nI 100000)) = 0 then (nI 0, mth_s S 1) else (if (mp S) = 20 then (nI 0, mth_s S 2) else (if x4 = (-1) then (nI ((mp S) + 1), mp_s (mpu_s (mp2_s (mp1_s (mpc_s (mth_s S 0) (upd (mpc S) (mp S) x1)) (upd (mp1 S) (mp S) (((nI 4) * x2) + x3))) (upd (mp2 S) (mp S) (-1))) (upd (mpu S) (mp S) x6)) ((mp S) + 1)) else (nI ((mp S) + 1), mp_s (mpu_s (mp2_s (mp1_s (mpc_s (mth_s S 0) (upd (mpc S) (mp S) x1)) (upd (mp1 S) (mp S) (((nI 4) * x2) + x3))) (upd (mp2 S) (mp S) (((nI 4) * x4) + x5))) (upd (mpu S) (mp S) x6)) ((mp S) + 1))))) else (if (M_isPair x4 x5) = 0 then (nI 0, mth_s S 1) else (if x4 = x2 then (nI 0, mth_s S 1) else (if (M_in x6 (nI 0) (nI 100000)) = 0 then (nI 0, mth_s S 1) else (if (mp S) = 20 then (nI 0, mth_s S 2) else (if x4 = (-1) then (nI ((mp S) + 1), mp_s (mpu_s (mp2_s (mp1_s (mpc_s (mth_s S 0) (upd (mpc S) (mp S) x1)) (upd (mp1 S) (mp S) (((nI 4) * x2) + x3))) (upd (mp2 S) (mp S) (-1))) (upd (mpu S) (mp S) x6)) ((mp S) + 1)) else (nI ((mp S) + 1), mp_s (mpu_s (mp2_s (mp1_s (mpc_s (mth_s S 0) (upd (mpc S) (mp S) x1)) (upd (mp1 S) (mp S) (((nI 4) * x2) + x3))) (upd (mp2 S) (mp S) (((nI 4) * x4) + x5))) (upd (mpu S) (mp S) x6)) ((mp S) + 1)))))))))
theorem M_precedent_e (x1 : Int32) (x2 : Int32) (x3 : Int32) (x4 : Int32) (x5 : Int32) (x6 : Int32) (S : MS) : M_precedent x1 x2 x3 x4 x5 x6 S = if (M_in x1 (nI 1) (nI 999999)) = 0 then (nI 0, mth_s S 1) else (if (M_isPair x2 x3) = 0 then (nI 0, mth_s S 1) else (if x4 = (-1) then (if (M_in x6 (nI 0) (nI 100000)) = 0 then (nI 0, mth_s S 1) else (if (mp S) = 20 then (nI 0, mth_s S 2) else (if x4 = (-1) then (nI ((mp S) + 1), mp_s (mpu_s (mp2_s (mp1_s (mpc_s (mth_s S 0) (upd (mpc S) (mp S) x1)) (upd (mp1 S) (mp S) (((nI 4) * x2) + x3))) (upd (mp2 S) (mp S) (-1))) (upd (mpu S) (mp S) x6)) ((mp S) + 1)) else (nI ((mp S) + 1), mp_s (mpu_s (mp2_s (mp1_s (mpc_s (mth_s S 0) (upd (mpc S) (mp S) x1)) (upd (mp1 S) (mp S) (((nI 4) * x2) + x3))) (upd (mp2 S) (mp S) (((nI 4) * x4) + x5))) (upd (mpu S) (mp S) x6)) ((mp S) + 1))))) else (if (M_isPair x4 x5) = 0 then (nI 0, mth_s S 1) else (if x4 = x2 then (nI 0, mth_s S 1) else (if (M_in x6 (nI 0) (nI 100000)) = 0 then (nI 0, mth_s S 1) else (if (mp S) = 20 then (nI 0, mth_s S 2) else (if x4 = (-1) then (nI ((mp S) + 1), mp_s (mpu_s (mp2_s (mp1_s (mpc_s (mth_s S 0) (upd (mpc S) (mp S) x1)) (upd (mp1 S) (mp S) (((nI 4) * x2) + x3))) (upd (mp2 S) (mp S) (-1))) (upd (mpu S) (mp S) x6)) ((mp S) + 1)) else (nI ((mp S) + 1), mp_s (mpu_s (mp2_s (mp1_s (mpc_s (mth_s S 0) (upd (mpc S) (mp S) x1)) (upd (mp1 S) (mp S) (((nI 4) * x2) + x3))) (upd (mp2 S) (mp S) (((nI 4) * x4) + x5))) (upd (mpu S) (mp S) x6)) ((mp S) + 1))))))))) := rfl
def M_contradicts (S : MS) : Int32 × MS := if (M_ruled (mth_s S 0)) = (-1) then (nI 1, mth_s S 0) else (nI 0, mth_s S 0)
theorem M_contradicts_e (S : MS) : M_contradicts S = if (M_ruled (mth_s S 0)) = (-1) then (nI 1, mth_s S 0) else (nI 0, mth_s S 0) := rfl
def M_day (x1 : Int32) (S : MS) : Int32 × MS := if (M_in x1 (mtd S) (nI 100000)) = 0 then (nI 0, mth_s S 0) else (nI 1, mtd_s (mth_s S 0) x1)
theorem M_day_e (x1 : Int32) (S : MS) : M_day x1 S = if (M_in x1 (mtd S) (nI 100000)) = 0 then (nI 0, mth_s S 0) else (nI 1, mtd_s (mth_s S 0) x1) := rfl
def M_count_L42 (x1 : Int32) : MS → Nat → Nat → Nat → Nat → Int32 × MS
  | U, 0, _, _, _ => (0, U)
  | U, N42 + 1, i3, i4, w2 => if (mp U) ≤ i4 then (if x1 = nI 0 then (nI (mn U), U) else (if x1 = nI 1 then (nI (mr U), U) else (if x1 = nI 2 then (nI w2, U) else (if x1 = nI 3 then (nI (M_leftMany U), U) else (if x1 = nI 4 then (nI (mp U), U) else (if x1 = nI 5 then (nI i3, U) else (if x1 = nI 6 then (mtd U, U) else (if x1 < (nI 10) then ((-1), U) else (if (nI 15) ≤ x1 then ((-1), U) else (mgv U (x1 - (nI 10)).toNatClampNeg, U)))))))))) else (if (M_holds i4 U) = 0 then (M_count_L42 x1 U N42 (i3 + 0) (i4 + 1) w2) else (M_count_L42 x1 U N42 (i3 + 1) (i4 + 1) w2))
theorem M_count_L42_e (x1 : Int32) (U : MS) (N42 : Nat) (i3 : Nat) (i4 : Nat) (w2 : Nat) : M_count_L42 x1 U (N42 + 1) i3 i4 w2 = if (mp U) ≤ i4 then (if x1 = nI 0 then (nI (mn U), U) else (if x1 = nI 1 then (nI (mr U), U) else (if x1 = nI 2 then (nI w2, U) else (if x1 = nI 3 then (nI (M_leftMany U), U) else (if x1 = nI 4 then (nI (mp U), U) else (if x1 = nI 5 then (nI i3, U) else (if x1 = nI 6 then (mtd U, U) else (if x1 < (nI 10) then ((-1), U) else (if (nI 15) ≤ x1 then ((-1), U) else (mgv U (x1 - (nI 10)).toNatClampNeg, U)))))))))) else (if (M_holds i4 U) = 0 then (M_count_L42 x1 U N42 (i3 + 0) (i4 + 1) w2) else (M_count_L42 x1 U N42 (i3 + 1) (i4 + 1) w2)) := rfl
def M_count_L9 (x1 : Int32) : MS → Nat → Nat → Nat → Int32 × MS
  | U, 0, _, _ => (0, U)
  | U, N9 + 1, i2, i3 => if 5 ≤ i3 then (M_count_L42 x1 U (mp U + 1) 0 0 i2) else (if (mgv U i3) < 0 then (M_count_L9 x1 U N9 (i2 + 0) (i3 + 1)) else (M_count_L9 x1 U N9 (i2 + 1) (i3 + 1)))
theorem M_count_L9_e (x1 : Int32) (U : MS) (N9 : Nat) (i2 : Nat) (i3 : Nat) : M_count_L9 x1 U (N9 + 1) i2 i3 = if 5 ≤ i3 then (M_count_L42 x1 U (mp U + 1) 0 0 i2) else (if (mgv U i3) < 0 then (M_count_L9 x1 U N9 (i2 + 0) (i3 + 1)) else (M_count_L9 x1 U N9 (i2 + 1) (i3 + 1))) := rfl
def M_count (x1 : Int32) (S : MS) : Int32 × MS := M_count_L9 x1 (mth_s S 0) (5 + 1) 0 0
theorem M_count_e (x1 : Int32) (S : MS) : M_count x1 S = M_count_L9 x1 (mth_s S 0) (5 + 1) 0 0 := rfl
def M_emptied_L48 (r25 : MS → Int32 → Nat → Option (Int32 × MS)) : MS → Nat → Int32 → Nat → Int32 → Nat → Option (Int32 × MS)
  | U, 0, _, _, _, _ => none
  | U, N48 + 1, v3, i4, w1, w2 => if (mn U) ≤ i4 then (if v3 = 0 then (r25 U w1 (w2 + 1)) else (if w1 < 0 then (r25 U (nI w2) (w2 + 1)) else (if 0 ≤ w1 then (if ¬ (w1 < 0 ∨ 5 ≤ w1.toNatClampNeg) then (if (mtn U w1.toNatClampNeg) ≤ (mtn U w2) then (r25 U w1 (w2 + 1)) else (r25 U (nI w2) (w2 + 1))) else none) else (if (mtn U 0) ≤ (mtn U w2) then (r25 U w1 (w2 + 1)) else (r25 U (nI w2) (w2 + 1)))))) else (if v3 = 0 then (M_emptied_L48 r25 U N48 (nI 0) (i4 + 1) w1 w2) else (if (M_isLeftBy i4 w2 U) = 0 then (M_emptied_L48 r25 U N48 (nI 1) (i4 + 1) w1 w2) else (M_emptied_L48 r25 U N48 (nI 0) (i4 + 1) w1 w2)))
theorem M_emptied_L48_e (r25 : MS → Int32 → Nat → Option (Int32 × MS)) (U : MS) (N48 : Nat) (v3 : Int32) (i4 : Nat) (w1 : Int32) (w2 : Nat) : M_emptied_L48 r25 U (N48 + 1) v3 i4 w1 w2 = if (mn U) ≤ i4 then (if v3 = 0 then (r25 U w1 (w2 + 1)) else (if w1 < 0 then (r25 U (nI w2) (w2 + 1)) else (if 0 ≤ w1 then (if ¬ (w1 < 0 ∨ 5 ≤ w1.toNatClampNeg) then (if (mtn U w1.toNatClampNeg) ≤ (mtn U w2) then (r25 U w1 (w2 + 1)) else (r25 U (nI w2) (w2 + 1))) else none) else (if (mtn U 0) ≤ (mtn U w2) then (r25 U w1 (w2 + 1)) else (r25 U (nI w2) (w2 + 1)))))) else (if v3 = 0 then (M_emptied_L48 r25 U N48 (nI 0) (i4 + 1) w1 w2) else (if (M_isLeftBy i4 w2 U) = 0 then (M_emptied_L48 r25 U N48 (nI 1) (i4 + 1) w1 w2) else (M_emptied_L48 r25 U N48 (nI 0) (i4 + 1) w1 w2))) := rfl
def M_emptied_L25 : MS → Nat → Int32 → Nat → Option (Int32 × MS)
  | U, 0, _, _ => none
  | U, N25 + 1, v1, i2 => if 5 ≤ i2 then (if ¬ (v1 < 0 ∨ 5 ≤ v1.toNatClampNeg) then (some (((nI 4) * v1) + (mgv U v1.toNatClampNeg), U)) else none) else (if (mgv U i2) < 0 then (M_emptied_L48 (fun U => M_emptied_L25 U N25) U (mn U + 1) (nI 0) 0 v1 i2) else (M_emptied_L48 (fun U => M_emptied_L25 U N25) U (mn U + 1) (nI 1) 0 v1 i2))
theorem M_emptied_L25_e (U : MS) (N25 : Nat) (v1 : Int32) (i2 : Nat) : M_emptied_L25 U (N25 + 1) v1 i2 = if 5 ≤ i2 then (if ¬ (v1 < 0 ∨ 5 ≤ v1.toNatClampNeg) then (some (((nI 4) * v1) + (mgv U v1.toNatClampNeg), U)) else none) else (if (mgv U i2) < 0 then (M_emptied_L48 (fun U => M_emptied_L25 U N25) U (mn U + 1) (nI 0) 0 v1 i2) else (M_emptied_L48 (fun U => M_emptied_L25 U N25) U (mn U + 1) (nI 1) 0 v1 i2)) := rfl
def M_emptied (S : MS) : Option (Int32 × MS) := if (mn S) = 0 then (some ((-1), mth_s S 0)) else (if (M_leftMany (mth_s S 0)) ≤ 0 then (M_emptied_L25 (mth_s S 0) (5 + 1) (-1) 0) else (some ((-1), mth_s S 0)))
theorem M_emptied_e (S : MS) : M_emptied S = if (mn S) = 0 then (some ((-1), mth_s S 0)) else (if (M_leftMany (mth_s S 0)) ≤ 0 then (M_emptied_L25 (mth_s S 0) (5 + 1) (-1) 0) else (some ((-1), mth_s S 0))) := rfl
def M_reckon_L84 (N0 : Nat) : MS → Nat → Int32 → Int32 → Option (Int32 × MS)
  | U, 0, _, _ => none
  | U, N84 + 1, v1, v2 => if v1 < 0 then (some (v2, U)) else (if ¬ (v1 < 0 ∨ 7 ≤ v1.toNatClampNeg) then (if (mwq U v1.toNatClampNeg) = (nI 5) then (if 0 ≤ (mwb U v1.toNatClampNeg) then (if (v1 + (-1)) < 0 then (M_reckon_L84 N0 U N84 (v1 + (-1)) (mwb U v1.toNatClampNeg)) else (if ¬ ((v1 + (-1)) < 0 ∨ 7 ≤ (v1 + (-1)).toNatClampNeg) then (if (mwb U v1.toNatClampNeg) ≤ (mwm U (v1 + (-1)).toNatClampNeg) then (M_reckon_L84 N0 (mwa_s (mwm_s U (upd (mwm U) (v1 + (-1)).toNatClampNeg (mwm U (v1 + (-1)).toNatClampNeg))) (upd (mwa U) (v1 + (-1)).toNatClampNeg ((mwa U (v1 + (-1)).toNatClampNeg) + (nI 1)))) N84 (v1 + (-1)) (mwb U v1.toNatClampNeg)) else (M_reckon_L84 N0 (mwa_s (mwm_s U (upd (mwm U) (v1 + (-1)).toNatClampNeg (mwb U v1.toNatClampNeg))) (upd (mwa U) (v1 + (-1)).toNatClampNeg ((mwa U (v1 + (-1)).toNatClampNeg) + (nI 1)))) N84 (v1 + (-1)) (mwb U v1.toNatClampNeg))) else none)) else (if (v1 + (-1)) < 0 then (M_reckon_L84 N0 U N84 (v1 + (-1)) (nI 0)) else (if ¬ ((v1 + (-1)) < 0 ∨ 7 ≤ (v1 + (-1)).toNatClampNeg) then (if (nI 0) ≤ (mwm U (v1 + (-1)).toNatClampNeg) then (M_reckon_L84 N0 (mwa_s (mwm_s U (upd (mwm U) (v1 + (-1)).toNatClampNeg (mwm U (v1 + (-1)).toNatClampNeg))) (upd (mwa U) (v1 + (-1)).toNatClampNeg ((mwa U (v1 + (-1)).toNatClampNeg) + (nI 1)))) N84 (v1 + (-1)) (nI 0)) else (M_reckon_L84 N0 (mwa_s (mwm_s U (upd (mwm U) (v1 + (-1)).toNatClampNeg (nI 0))) (upd (mwa U) (v1 + (-1)).toNatClampNeg ((mwa U (v1 + (-1)).toNatClampNeg) + (nI 1)))) N84 (v1 + (-1)) (nI 0))) else none))) else (if (((mwo U v1.toNatClampNeg) >>> ((mwq U v1.toNatClampNeg) &&& 31)) &&& (nI 1)) = 0 then (M_reckon_L84 N0 (M_turnTo v1 (nI 0) U) N84 v1 v2) else (if (mwa U v1.toNatClampNeg) = 0 then (if ¬ ((mwq U v1.toNatClampNeg) < 0 ∨ 5 ≤ (mwq U v1.toNatClampNeg).toNatClampNeg) then (if (M_parts (mwl U v1.toNatClampNeg) (mwq U v1.toNatClampNeg) U) = 0 then (M_reckon_L84 N0 (M_turnTo v1 (nI 0) U) N84 v1 v2) else (if (mwa U v1.toNatClampNeg) = (nI 4) then (M_reckon_L84 N0 (M_turnTo v1 (nI 1) U) N84 v1 v2) else (if ¬ ((((nI 4) * (mwq U v1.toNatClampNeg)) + (mwa U v1.toNatClampNeg)) < 0 ∨ 20 ≤ (((nI 4) * (mwq U v1.toNatClampNeg)) + (mwa U v1.toNatClampNeg)).toNatClampNeg) then (if ¬ ((v1 + (nI 1)) < 0 ∨ 7 ≤ (v1 + (nI 1)).toNatClampNeg) then (M_reckon_L84 N0 (M_begin (v1 + (nI 1)) ((mwl U v1.toNatClampNeg) &&& (mlv U (((nI 4) * (mwq U v1.toNatClampNeg)) + (mwa U v1.toNatClampNeg)).toNatClampNeg)) ((mwo U v1.toNatClampNeg) - ((nI 1) <<< ((mwq U v1.toNatClampNeg) &&& 31))) U) N84 (v1 + nI 1) v2) else none) else none))) else none) else (if (mwa U v1.toNatClampNeg) = (nI 4) then (M_reckon_L84 N0 (M_turnTo v1 (nI 1) U) N84 v1 v2) else (if ¬ ((((nI 4) * (mwq U v1.toNatClampNeg)) + (mwa U v1.toNatClampNeg)) < 0 ∨ 20 ≤ (((nI 4) * (mwq U v1.toNatClampNeg)) + (mwa U v1.toNatClampNeg)).toNatClampNeg) then (if ¬ ((v1 + (nI 1)) < 0 ∨ 7 ≤ (v1 + (nI 1)).toNatClampNeg) then (M_reckon_L84 N0 (M_begin (v1 + (nI 1)) ((mwl U v1.toNatClampNeg) &&& (mlv U (((nI 4) * (mwq U v1.toNatClampNeg)) + (mwa U v1.toNatClampNeg)).toNatClampNeg)) ((mwo U v1.toNatClampNeg) - ((nI 1) <<< ((mwq U v1.toNatClampNeg) &&& 31))) U) N84 (v1 + nI 1) v2) else none) else none))))) else none)
theorem M_reckon_L84_e (N0 : Nat) (U : MS) (N84 : Nat) (v1 : Int32) (v2 : Int32) : M_reckon_L84 N0 U (N84 + 1) v1 v2 = if v1 < 0 then (some (v2, U)) else (if ¬ (v1 < 0 ∨ 7 ≤ v1.toNatClampNeg) then (if (mwq U v1.toNatClampNeg) = (nI 5) then (if 0 ≤ (mwb U v1.toNatClampNeg) then (if (v1 + (-1)) < 0 then (M_reckon_L84 N0 U N84 (v1 + (-1)) (mwb U v1.toNatClampNeg)) else (if ¬ ((v1 + (-1)) < 0 ∨ 7 ≤ (v1 + (-1)).toNatClampNeg) then (if (mwb U v1.toNatClampNeg) ≤ (mwm U (v1 + (-1)).toNatClampNeg) then (M_reckon_L84 N0 (mwa_s (mwm_s U (upd (mwm U) (v1 + (-1)).toNatClampNeg (mwm U (v1 + (-1)).toNatClampNeg))) (upd (mwa U) (v1 + (-1)).toNatClampNeg ((mwa U (v1 + (-1)).toNatClampNeg) + (nI 1)))) N84 (v1 + (-1)) (mwb U v1.toNatClampNeg)) else (M_reckon_L84 N0 (mwa_s (mwm_s U (upd (mwm U) (v1 + (-1)).toNatClampNeg (mwb U v1.toNatClampNeg))) (upd (mwa U) (v1 + (-1)).toNatClampNeg ((mwa U (v1 + (-1)).toNatClampNeg) + (nI 1)))) N84 (v1 + (-1)) (mwb U v1.toNatClampNeg))) else none)) else (if (v1 + (-1)) < 0 then (M_reckon_L84 N0 U N84 (v1 + (-1)) (nI 0)) else (if ¬ ((v1 + (-1)) < 0 ∨ 7 ≤ (v1 + (-1)).toNatClampNeg) then (if (nI 0) ≤ (mwm U (v1 + (-1)).toNatClampNeg) then (M_reckon_L84 N0 (mwa_s (mwm_s U (upd (mwm U) (v1 + (-1)).toNatClampNeg (mwm U (v1 + (-1)).toNatClampNeg))) (upd (mwa U) (v1 + (-1)).toNatClampNeg ((mwa U (v1 + (-1)).toNatClampNeg) + (nI 1)))) N84 (v1 + (-1)) (nI 0)) else (M_reckon_L84 N0 (mwa_s (mwm_s U (upd (mwm U) (v1 + (-1)).toNatClampNeg (nI 0))) (upd (mwa U) (v1 + (-1)).toNatClampNeg ((mwa U (v1 + (-1)).toNatClampNeg) + (nI 1)))) N84 (v1 + (-1)) (nI 0))) else none))) else (if (((mwo U v1.toNatClampNeg) >>> ((mwq U v1.toNatClampNeg) &&& 31)) &&& (nI 1)) = 0 then (M_reckon_L84 N0 (M_turnTo v1 (nI 0) U) N84 v1 v2) else (if (mwa U v1.toNatClampNeg) = 0 then (if ¬ ((mwq U v1.toNatClampNeg) < 0 ∨ 5 ≤ (mwq U v1.toNatClampNeg).toNatClampNeg) then (if (M_parts (mwl U v1.toNatClampNeg) (mwq U v1.toNatClampNeg) U) = 0 then (M_reckon_L84 N0 (M_turnTo v1 (nI 0) U) N84 v1 v2) else (if (mwa U v1.toNatClampNeg) = (nI 4) then (M_reckon_L84 N0 (M_turnTo v1 (nI 1) U) N84 v1 v2) else (if ¬ ((((nI 4) * (mwq U v1.toNatClampNeg)) + (mwa U v1.toNatClampNeg)) < 0 ∨ 20 ≤ (((nI 4) * (mwq U v1.toNatClampNeg)) + (mwa U v1.toNatClampNeg)).toNatClampNeg) then (if ¬ ((v1 + (nI 1)) < 0 ∨ 7 ≤ (v1 + (nI 1)).toNatClampNeg) then (M_reckon_L84 N0 (M_begin (v1 + (nI 1)) ((mwl U v1.toNatClampNeg) &&& (mlv U (((nI 4) * (mwq U v1.toNatClampNeg)) + (mwa U v1.toNatClampNeg)).toNatClampNeg)) ((mwo U v1.toNatClampNeg) - ((nI 1) <<< ((mwq U v1.toNatClampNeg) &&& 31))) U) N84 (v1 + nI 1) v2) else none) else none))) else none) else (if (mwa U v1.toNatClampNeg) = (nI 4) then (M_reckon_L84 N0 (M_turnTo v1 (nI 1) U) N84 v1 v2) else (if ¬ ((((nI 4) * (mwq U v1.toNatClampNeg)) + (mwa U v1.toNatClampNeg)) < 0 ∨ 20 ≤ (((nI 4) * (mwq U v1.toNatClampNeg)) + (mwa U v1.toNatClampNeg)).toNatClampNeg) then (if ¬ ((v1 + (nI 1)) < 0 ∨ 7 ≤ (v1 + (nI 1)).toNatClampNeg) then (M_reckon_L84 N0 (M_begin (v1 + (nI 1)) ((mwl U v1.toNatClampNeg) &&& (mlv U (((nI 4) * (mwq U v1.toNatClampNeg)) + (mwa U v1.toNatClampNeg)).toNatClampNeg)) ((mwo U v1.toNatClampNeg) - ((nI 1) <<< ((mwq U v1.toNatClampNeg) &&& 31))) U) N84 (v1 + nI 1) v2) else none) else none))))) else none) := rfl
def M_reckon_L17 (N0 : Nat) (r2 : MS → Nat → Option (Int32 × MS)) : MS → Nat → Nat → Nat → Option (Int32 × MS)
  | U, 0, _, _ => none
  | U, N17 + 1, i2, w1 => if (mn U) ≤ i2 then (r2 U (w1 + 1)) else (if (M_doesLeave (nI w1) (nI i2) U) = 0 then (M_reckon_L17 N0 r2 (mlv_s U (upd (mlv U) w1 ((mlv U w1) ||| (nI 0)))) N17 (i2 + 1) w1) else (M_reckon_L17 N0 r2 (mlv_s U (upd (mlv U) w1 ((mlv U w1) ||| ((nI 1) <<< ((nI i2) &&& 31))))) N17 (i2 + 1) w1))
theorem M_reckon_L17_e (N0 : Nat) (r2 : MS → Nat → Option (Int32 × MS)) (U : MS) (N17 : Nat) (i2 : Nat) (w1 : Nat) : M_reckon_L17 N0 r2 U (N17 + 1) i2 w1 = if (mn U) ≤ i2 then (r2 U (w1 + 1)) else (if (M_doesLeave (nI w1) (nI i2) U) = 0 then (M_reckon_L17 N0 r2 (mlv_s U (upd (mlv U) w1 ((mlv U w1) ||| (nI 0)))) N17 (i2 + 1) w1) else (M_reckon_L17 N0 r2 (mlv_s U (upd (mlv U) w1 ((mlv U w1) ||| ((nI 1) <<< ((nI i2) &&& 31))))) N17 (i2 + 1) w1)) := rfl
def M_reckon_L2 (N0 : Nat) : MS → Nat → Nat → Option (Int32 × MS)
  | U, 0, _ => none
  | U, N2 + 1, i1 => if 20 ≤ i1 then (M_reckon_L84 N0 (M_begin (nI 0) (M_leftSet (mwf_s U (-1))) (M_openSet (mwf_s U (-1))) (mwf_s U (-1))) N0 (nI 0) (nI 0)) else (M_reckon_L17 N0 (fun U => M_reckon_L2 N0 U N2) (mlv_s U (upd (mlv U) i1 (nI 0))) (mn (mlv_s U (upd (mlv U) i1 (nI 0))) + 1) 0 i1)
theorem M_reckon_L2_e (N0 : Nat) (U : MS) (N2 : Nat) (i1 : Nat) : M_reckon_L2 N0 U (N2 + 1) i1 = if 20 ≤ i1 then (M_reckon_L84 N0 (M_begin (nI 0) (M_leftSet (mwf_s U (-1))) (M_openSet (mwf_s U (-1))) (mwf_s U (-1))) N0 (nI 0) (nI 0)) else (M_reckon_L17 N0 (fun U => M_reckon_L2 N0 U N2) (mlv_s U (upd (mlv U) i1 (nI 0))) (mn (mlv_s U (upd (mlv U) i1 (nI 0))) + 1) 0 i1) := rfl
def M_reckon (N0 : Nat) (S : MS) : Option (Int32 × MS) := M_reckon_L2 N0 S (20 + 1) 0
theorem M_reckon_e (N0 : Nat) (S : MS) : M_reckon N0 S = M_reckon_L2 N0 S (20 + 1) 0 := rfl
def M_needed (w0 : Int32 × MS) (S : MS) : Int32 × MS := ((w0).1, (w0).2)
theorem M_needed_e (w0 : Int32 × MS) (S : MS) : M_needed w0 S = ((w0).1, (w0).2) := rfl
def M_question (w0 : Int32 × MS) (S : MS) : Int32 × MS := if ((w0).1) = 0 then ((-1), (w0).2) else (mwf ((w0).2), (w0).2)
theorem M_question_e (w0 : Int32 × MS) (S : MS) : M_question w0 S = if ((w0).1) = 0 then ((-1), (w0).2) else (mwf ((w0).2), (w0).2) := rfl
-- what the reference's small functions say
theorem min_of {x a b : Int32} (h : ¬ M_in x a b = 0) : ¬ x < a ∧ ¬ b < x := by
  unfold M_in at h
  by_cases h1 : x < a
  · rw [if_pos h1] at h; exact absurd nI_0 h
  · rw [if_neg h1] at h
    by_cases h2 : b < x
    · rw [if_pos h2] at h; exact absurd nI_0 h
    · exact ⟨h1, h2⟩
theorem mq_in {x : Int32} (h : ¬ M_in x (nI 0) (nI 4) = 0) : vp_in x 5 := in_bd2 (n := 4) (by decide) (min_of h).1 (min_of h).2
theorem mg0 : vp_in (nI 0 / nI 4) 5 := by unfold vp_in; decide
theorem mx_in0 {x : Int32} (h : vp_in x 5) : vp_in (nI 4 * x) 20 := by
  obtain ⟨j, hj, rfl⟩ := vp_in_of h (by decide)
  rw [pk_mul]
  exact vp_in_nI (by omega) (by decide)
theorem mx_in {x : Int32} {i : Nat} (h : vp_in x 5) (hi : 1 ≤ i) (hi2 : i < 4) : vp_in (nI 4 * x + nI i) 20 := by
  obtain ⟨j, hj, rfl⟩ := vp_in_of h (by decide)
  rw [pk_mul, nI_add]
  exact vp_in_nI (by omega) (by decide)
theorem mc_in {x : Int32} (h1 : ¬ x < nI 10) (h2 : ¬ nI 15 ≤ x) : vp_in (x - nI 10) 5 := by
  have h3 : ¬ x < 0 := by
    rw [Int32.lt_iff_toInt_lt] at h1 ⊢
    rw [nI_toInt (by decide)] at h1
    rw [z_toInt]
    omega
  obtain ⟨j, hj, rfl⟩ := nI_of h3
  have h4 : 10 ≤ j := by
    rcases Nat.lt_or_ge j 10 with q | q
    · exact absurd (nI_lt q (by decide)) h1
    · exact q
  have h5 : j < 15 := by
    rcases Nat.lt_or_ge j 15 with q | q
    · exact q
    · exact absurd (nI_le q hj) h2
  rw [pk_sub h4]
  exact vp_in_nI (by omega) (by decide)
/-- find: the last place with that number, or -1 -/
theorem mf_spec (x : Int32) (S : MS) : ∀ N i v, mn S - i < N → (M_find_L4 x S N v i = v ∧ ∀ k, i ≤ k → k < mn S → ¬ mnum S k = x) ∨
    ∃ k, i ≤ k ∧ k < mn S ∧ M_find_L4 x S N v i = nI k ∧ mnum S k = x ∧ ∀ j, k < j → j < mn S → ¬ mnum S j = x := by
  intro N
  induction N with
  | zero => intro i v h; exact absurd h (Nat.not_lt_zero _)
  | succ N ih =>
    intro i v h
    rw [M_find_L4_e]
    by_cases h1 : mn S ≤ i
    · rw [if_pos h1]
      exact Or.inl ⟨rfl, fun k hk hk2 => by omega⟩
    · rw [if_neg h1]
      by_cases h2 : mnum S i = x
      · rw [if_pos h2]
        rcases ih (i + 1) (nI i) (by omega) with ⟨e, hn⟩ | ⟨k, k1, k2, e, k3, k4⟩
        · exact Or.inr ⟨i, Nat.le_refl _, by omega, e, h2, fun j hj hj2 => hn j hj hj2⟩
        · exact Or.inr ⟨k, by omega, k2, e, k3, k4⟩
      · rw [if_neg h2]
        rcases ih (i + 1) v (by omega) with ⟨e, hn⟩ | ⟨k, k1, k2, e, k3, k4⟩
        · refine Or.inl ⟨e, fun k hk hk2 => ?_⟩
          by_cases hki : k = i
          · rw [hki]; exact h2
          · exact hn k (by omega) hk2
        · exact Or.inr ⟨k, by omega, k2, e, k3, k4⟩
theorem mfind_in {x : Int32} {S : MS} (hI : MI S) (h : ¬ M_find x S < 0) : vp_in (M_find x S) 12 := by
  rcases mf_spec x S (mn S + 1) 0 (-1) (by omega) with ⟨e, -⟩ | ⟨k, -, k2, e, -, -⟩
  · rw [show M_find x S = (-1) from e] at h; exact absurd (by decide) h
  · rw [show M_find x S = nI k from e]
    exact vp_in_nI (by have := hI.1; omega) (by decide)
theorem bl_in (S : MS) (n : Nat) (hn : mn S ≤ n) (hn2 : n < 2 ^ 31) : ∀ N i v, (v < 0 ∨ vp_in v n) → mn S - i < N → (M_bestLeft_L4 S N v i < 0 ∨ vp_in (M_bestLeft_L4 S N v i) n) := by
  intro N
  induction N with
  | zero => intro i v _ h; exact absurd h (Nat.not_lt_zero _)
  | succ N ih =>
    intro i v hv h
    rw [M_bestLeft_L4_e]
    by_cases h1 : mn S ≤ i
    · rw [if_pos h1]; exact hv
    · rw [if_neg h1]
      have hi : nI i < 0 ∨ vp_in (nI i) n := Or.inr (vp_in_nI (by omega) hn2)
      by_cases h2 : M_isLeft i S = 0
      · rw [if_pos h2]; exact ih _ _ hv (by omega)
      · rw [if_neg h2]
        by_cases h3 : v < 0
        · rw [if_pos h3]; exact ih _ _ hi (by omega)
        · rw [if_neg h3]
          by_cases h4 : M_ahead (nI i) v S < 0
          · rw [if_pos h4]; exact ih _ _ hv (by omega)
          · rw [if_neg h4]; exact ih _ _ hi (by omega)
theorem mbl_in {S : MS} (hI : MI S) (h : 0 ≤ M_bestLeft S) : vp_in (M_bestLeft S) 12 := by
  rcases bl_in S 12 hI.1 (by decide) (mn S + 1) 0 (-1) (Or.inl (by decide)) (by omega) with q | q
  · exact absurd q (nn_lt h)
  · exact q
theorem lm_spec (S : MS) : ∀ N i v, i ≤ mn S → mn S - i < N → M_leftMany_L4 S N v i ≤ v + (mn S - i) := by
  intro N
  induction N with
  | zero => intro i v _ h; exact absurd h (Nat.not_lt_zero _)
  | succ N ih =>
    intro i v hi h
    rw [M_leftMany_L4_e]
    by_cases h1 : mn S ≤ i
    · rw [if_pos h1]; omega
    · rw [if_neg h1]
      by_cases h2 : M_isLeft i S = 0
      · rw [if_pos h2]; have := ih (i + 1) (v + 0) (by omega) (by omega); omega
      · rw [if_neg h2]; have := ih (i + 1) (v + 1) (by omega) (by omega); omega
theorem lm_le {S : MS} (hI : MI S) : M_leftMany S ≤ 12 := by
  have := lm_spec S (mn S + 1) 0 0 (by omega) (by omega)
  have h1 := hI.1
  show M_leftMany_L4 S (mn S + 1) 0 0 ≤ 12
  omega
