-- printed by program (gen/)
def Int_bitCount (x0 : Int32) : Int32 := (((((((x0 - (((x0.toUInt32 >>> ((nI 1).toUInt32 &&& Int32.toUInt32 31)).toInt32) &&& (nI 1431655765))) &&& (nI 858993459)) + ((((x0 - (((x0.toUInt32 >>> ((nI 1).toUInt32 &&& Int32.toUInt32 31)).toInt32) &&& (nI 1431655765))).toUInt32 >>> ((nI 2).toUInt32 &&& Int32.toUInt32 31)).toInt32) &&& (nI 858993459))) + (((((x0 - (((x0.toUInt32 >>> ((nI 1).toUInt32 &&& Int32.toUInt32 31)).toInt32) &&& (nI 1431655765))) &&& (nI 858993459)) + ((((x0 - (((x0.toUInt32 >>> ((nI 1).toUInt32 &&& Int32.toUInt32 31)).toInt32) &&& (nI 1431655765))).toUInt32 >>> ((nI 2).toUInt32 &&& Int32.toUInt32 31)).toInt32) &&& (nI 858993459))).toUInt32 >>> ((nI 4).toUInt32 &&& Int32.toUInt32 31)).toInt32)) &&& (nI 252645135)) + (((((((x0 - (((x0.toUInt32 >>> ((nI 1).toUInt32 &&& Int32.toUInt32 31)).toInt32) &&& (nI 1431655765))) &&& (nI 858993459)) + ((((x0 - (((x0.toUInt32 >>> ((nI 1).toUInt32 &&& Int32.toUInt32 31)).toInt32) &&& (nI 1431655765))).toUInt32 >>> ((nI 2).toUInt32 &&& Int32.toUInt32 31)).toInt32) &&& (nI 858993459))) + (((((x0 - (((x0.toUInt32 >>> ((nI 1).toUInt32 &&& Int32.toUInt32 31)).toInt32) &&& (nI 1431655765))) &&& (nI 858993459)) + ((((x0 - (((x0.toUInt32 >>> ((nI 1).toUInt32 &&& Int32.toUInt32 31)).toInt32) &&& (nI 1431655765))).toUInt32 >>> ((nI 2).toUInt32 &&& Int32.toUInt32 31)).toInt32) &&& (nI 858993459))).toUInt32 >>> ((nI 4).toUInt32 &&& Int32.toUInt32 31)).toInt32)) &&& (nI 252645135)).toUInt32 >>> ((nI 8).toUInt32 &&& Int32.toUInt32 31)).toInt32)) + ((((((((x0 - (((x0.toUInt32 >>> ((nI 1).toUInt32 &&& Int32.toUInt32 31)).toInt32) &&& (nI 1431655765))) &&& (nI 858993459)) + ((((x0 - (((x0.toUInt32 >>> ((nI 1).toUInt32 &&& Int32.toUInt32 31)).toInt32) &&& (nI 1431655765))).toUInt32 >>> ((nI 2).toUInt32 &&& Int32.toUInt32 31)).toInt32) &&& (nI 858993459))) + (((((x0 - (((x0.toUInt32 >>> ((nI 1).toUInt32 &&& Int32.toUInt32 31)).toInt32) &&& (nI 1431655765))) &&& (nI 858993459)) + ((((x0 - (((x0.toUInt32 >>> ((nI 1).toUInt32 &&& Int32.toUInt32 31)).toInt32) &&& (nI 1431655765))).toUInt32 >>> ((nI 2).toUInt32 &&& Int32.toUInt32 31)).toInt32) &&& (nI 858993459))).toUInt32 >>> ((nI 4).toUInt32 &&& Int32.toUInt32 31)).toInt32)) &&& (nI 252645135)) + (((((((x0 - (((x0.toUInt32 >>> ((nI 1).toUInt32 &&& Int32.toUInt32 31)).toInt32) &&& (nI 1431655765))) &&& (nI 858993459)) + ((((x0 - (((x0.toUInt32 >>> ((nI 1).toUInt32 &&& Int32.toUInt32 31)).toInt32) &&& (nI 1431655765))).toUInt32 >>> ((nI 2).toUInt32 &&& Int32.toUInt32 31)).toInt32) &&& (nI 858993459))) + (((((x0 - (((x0.toUInt32 >>> ((nI 1).toUInt32 &&& Int32.toUInt32 31)).toInt32) &&& (nI 1431655765))) &&& (nI 858993459)) + ((((x0 - (((x0.toUInt32 >>> ((nI 1).toUInt32 &&& Int32.toUInt32 31)).toInt32) &&& (nI 1431655765))).toUInt32 >>> ((nI 2).toUInt32 &&& Int32.toUInt32 31)).toInt32) &&& (nI 858993459))).toUInt32 >>> ((nI 4).toUInt32 &&& Int32.toUInt32 31)).toInt32)) &&& (nI 252645135)).toUInt32 >>> ((nI 8).toUInt32 &&& Int32.toUInt32 31)).toInt32)).toUInt32 >>> ((nI 16).toUInt32 &&& Int32.toUInt32 31)).toInt32)) &&& (nI 63)
theorem Int_bitCount_e (x0 : Int32) : Int_bitCount x0 = (((((((x0 - (((x0.toUInt32 >>> ((nI 1).toUInt32 &&& Int32.toUInt32 31)).toInt32) &&& (nI 1431655765))) &&& (nI 858993459)) + ((((x0 - (((x0.toUInt32 >>> ((nI 1).toUInt32 &&& Int32.toUInt32 31)).toInt32) &&& (nI 1431655765))).toUInt32 >>> ((nI 2).toUInt32 &&& Int32.toUInt32 31)).toInt32) &&& (nI 858993459))) + (((((x0 - (((x0.toUInt32 >>> ((nI 1).toUInt32 &&& Int32.toUInt32 31)).toInt32) &&& (nI 1431655765))) &&& (nI 858993459)) + ((((x0 - (((x0.toUInt32 >>> ((nI 1).toUInt32 &&& Int32.toUInt32 31)).toInt32) &&& (nI 1431655765))).toUInt32 >>> ((nI 2).toUInt32 &&& Int32.toUInt32 31)).toInt32) &&& (nI 858993459))).toUInt32 >>> ((nI 4).toUInt32 &&& Int32.toUInt32 31)).toInt32)) &&& (nI 252645135)) + (((((((x0 - (((x0.toUInt32 >>> ((nI 1).toUInt32 &&& Int32.toUInt32 31)).toInt32) &&& (nI 1431655765))) &&& (nI 858993459)) + ((((x0 - (((x0.toUInt32 >>> ((nI 1).toUInt32 &&& Int32.toUInt32 31)).toInt32) &&& (nI 1431655765))).toUInt32 >>> ((nI 2).toUInt32 &&& Int32.toUInt32 31)).toInt32) &&& (nI 858993459))) + (((((x0 - (((x0.toUInt32 >>> ((nI 1).toUInt32 &&& Int32.toUInt32 31)).toInt32) &&& (nI 1431655765))) &&& (nI 858993459)) + ((((x0 - (((x0.toUInt32 >>> ((nI 1).toUInt32 &&& Int32.toUInt32 31)).toInt32) &&& (nI 1431655765))).toUInt32 >>> ((nI 2).toUInt32 &&& Int32.toUInt32 31)).toInt32) &&& (nI 858993459))).toUInt32 >>> ((nI 4).toUInt32 &&& Int32.toUInt32 31)).toInt32)) &&& (nI 252645135)).toUInt32 >>> ((nI 8).toUInt32 &&& Int32.toUInt32 31)).toInt32)) + ((((((((x0 - (((x0.toUInt32 >>> ((nI 1).toUInt32 &&& Int32.toUInt32 31)).toInt32) &&& (nI 1431655765))) &&& (nI 858993459)) + ((((x0 - (((x0.toUInt32 >>> ((nI 1).toUInt32 &&& Int32.toUInt32 31)).toInt32) &&& (nI 1431655765))).toUInt32 >>> ((nI 2).toUInt32 &&& Int32.toUInt32 31)).toInt32) &&& (nI 858993459))) + (((((x0 - (((x0.toUInt32 >>> ((nI 1).toUInt32 &&& Int32.toUInt32 31)).toInt32) &&& (nI 1431655765))) &&& (nI 858993459)) + ((((x0 - (((x0.toUInt32 >>> ((nI 1).toUInt32 &&& Int32.toUInt32 31)).toInt32) &&& (nI 1431655765))).toUInt32 >>> ((nI 2).toUInt32 &&& Int32.toUInt32 31)).toInt32) &&& (nI 858993459))).toUInt32 >>> ((nI 4).toUInt32 &&& Int32.toUInt32 31)).toInt32)) &&& (nI 252645135)) + (((((((x0 - (((x0.toUInt32 >>> ((nI 1).toUInt32 &&& Int32.toUInt32 31)).toInt32) &&& (nI 1431655765))) &&& (nI 858993459)) + ((((x0 - (((x0.toUInt32 >>> ((nI 1).toUInt32 &&& Int32.toUInt32 31)).toInt32) &&& (nI 1431655765))).toUInt32 >>> ((nI 2).toUInt32 &&& Int32.toUInt32 31)).toInt32) &&& (nI 858993459))) + (((((x0 - (((x0.toUInt32 >>> ((nI 1).toUInt32 &&& Int32.toUInt32 31)).toInt32) &&& (nI 1431655765))) &&& (nI 858993459)) + ((((x0 - (((x0.toUInt32 >>> ((nI 1).toUInt32 &&& Int32.toUInt32 31)).toInt32) &&& (nI 1431655765))).toUInt32 >>> ((nI 2).toUInt32 &&& Int32.toUInt32 31)).toInt32) &&& (nI 858993459))).toUInt32 >>> ((nI 4).toUInt32 &&& Int32.toUInt32 31)).toInt32)) &&& (nI 252645135)).toUInt32 >>> ((nI 8).toUInt32 &&& Int32.toUInt32 31)).toInt32)).toUInt32 >>> ((nI 16).toUInt32 &&& Int32.toUInt32 31)).toInt32)) &&& (nI 63) := rfl
def Int_compare (x0 : Int32) (x1 : Int32) : Int32 := if x1 ≤ x0 then (if x0 = x1 then (nI 0) else (nI 1)) else (-1)
theorem Int_compare_e (x0 : Int32) (x1 : Int32) : Int_compare x0 x1 = if x1 ≤ x0 then (if x0 = x1 then (nI 0) else (nI 1)) else (-1) := rfl
-- how many bits (as Integer.bitCount computes it)
theorem bc_and (x : Int32) : ∃ j : Nat, j < 64 ∧ Int_bitCount x = nI j := pk_andE _ 6 (by decide)
def popc (x : Int32) : Nat := (Int_bitCount x).toNatClampNeg
theorem popc_eq (x : Int32) : Int_bitCount x = nI (popc x) := by
  obtain ⟨j, hj, e⟩ := bc_and x
  unfold popc
  rw [e, nI_clamp (by omega)]
theorem popc_lt (x : Int32) : popc x < 64 := by
  obtain ⟨j, hj, e⟩ := bc_and x
  unfold popc
  rw [e, nI_clamp (by omega)]
  exact hj
def cn12 (s : Nat) : Nat := (s.testBit 0).toNat + (s.testBit 1).toNat + (s.testBit 2).toNat + (s.testBit 3).toNat + (s.testBit 4).toNat + (s.testBit 5).toNat + (s.testBit 6).toNat + (s.testBit 7).toNat + (s.testBit 8).toNat + (s.testBit 9).toNat + (s.testBit 10).toNat + (s.testBit 11).toNat
set_option maxRecDepth 100000 in
theorem popc_all : (List.range 4096).all (fun s => Int_bitCount (nI s) == nI (cn12 s)) = true := by decide +kernel
theorem popc_n {s : Nat} (h : s < 4096) : popc (nI s) = cn12 s := by
  have h1 := List.all_eq_true.mp popc_all s (List.mem_range.mpr h)
  have h2 : Int_bitCount (nI s) = nI (cn12 s) := by simpa using h1
  unfold popc
  rw [h2]
  refine nI_clamp ?_
  have hb : ∀ b : Bool, b.toNat ≤ 1 := by decide
  unfold cn12
  have := hb (s.testBit 0); have := hb (s.testBit 1); have := hb (s.testBit 2); have := hb (s.testBit 3); have := hb (s.testBit 4); have := hb (s.testBit 5)
  have := hb (s.testBit 6); have := hb (s.testBit 7); have := hb (s.testBit 8); have := hb (s.testBit 9); have := hb (s.testBit 10); have := hb (s.testBit 11)
  omega

def X_isNumber (x0 : Int32) : Int32 := if x0 < (nI 1) then (nI 0) else (if (nI 999999) < x0 then (nI 0) else (nI 1))
theorem X_isNumber_e (x0 : Int32) : X_isNumber x0 = if x0 < (nI 1) then (nI 0) else (if (nI 999999) < x0 then (nI 0) else (nI 1)) := rfl
def X_isQuestion (x0 : Int32) : Int32 := if x0 < 0 then (nI 0) else (if (nI 5) ≤ x0 then (nI 0) else (nI 1))
theorem X_isQuestion_e (x0 : Int32) : X_isQuestion x0 = if x0 < 0 then (nI 0) else (if (nI 5) ≤ x0 then (nI 0) else (nI 1)) := rfl
def X_isAnswer (x0 : Int32) : Int32 := if x0 < 0 then (nI 0) else (if (nI 4) ≤ x0 then (nI 0) else (nI 1))
theorem X_isAnswer_e (x0 : Int32) : X_isAnswer x0 = if x0 < 0 then (nI 0) else (if (nI 4) ≤ x0 then (nI 0) else (nI 1)) := rfl
def X_pairOf (x0 : Int32) (x1 : Int32) : Int32 := ((nI 4) * x0) + x1
theorem X_pairOf_e (x0 : Int32) (x1 : Int32) : X_pairOf x0 x1 = ((nI 4) * x0) + x1 := rfl
def X_contains (x0 : Int32) (x1 : Int32) : Int32 := if ((x0 >>> (x1 &&& 31)) &&& (nI 1)) = 0 then (nI 0) else (nI 1)
theorem X_contains_e (x0 : Int32) (x1 : Int32) : X_contains x0 x1 = if ((x0 >>> (x1 &&& 31)) &&& (nI 1)) = 0 then (nI 0) else (nI 1) := rfl
def X_withRoomAt (x0 : Int32) (x1 : Int32) : Int32 := (x0 &&& (((nI 1) <<< (x1 &&& 31)) - (nI 1))) ||| ((x0 &&& ((((nI 1) <<< (x1 &&& 31)) - (nI 1)) ^^^ (-1))) <<< ((nI 1) &&& 31))
theorem X_withRoomAt_e (x0 : Int32) (x1 : Int32) : X_withRoomAt x0 x1 = (x0 &&& (((nI 1) <<< (x1 &&& 31)) - (nI 1))) ||| ((x0 &&& ((((nI 1) <<< (x1 &&& 31)) - (nI 1)) ^^^ (-1))) <<< ((nI 1) &&& 31)) := rfl
def X_everyCode (S : XS) : Int32 := ((nI 1) <<< ((nI (xn S)) &&& 31)) - (nI 1)
theorem X_everyCode_e (S : XS) : X_everyCode S = ((nI 1) <<< ((nI (xn S)) &&& 31)) - (nI 1) := rfl
def X_placeOf_L2 (x1 : Int32) : XS → Nat → Nat → Int32
  | S, 0, _ => 0
  | S, N2 + 1, i2 => if (xn S) ≤ i2 then (-1) else (if (xnum S i2) = x1 then (nI i2) else (X_placeOf_L2 x1 S N2 (i2 + 1)))
theorem X_placeOf_L2_e (x1 : Int32) (S : XS) (N2 : Nat) (i2 : Nat) : X_placeOf_L2 x1 S (N2 + 1) i2 = if (xn S) ≤ i2 then (-1) else (if (xnum S i2) = x1 then (nI i2) else (X_placeOf_L2 x1 S N2 (i2 + 1))) := rfl
def X_placeOf (x1 : Int32) (S : XS) : Int32 := X_placeOf_L2 x1 S (xn S + 1) 0
theorem X_placeOf_e (x1 : Int32) (S : XS) : X_placeOf x1 S = X_placeOf_L2 x1 S (xn S + 1) 0 := rfl
def X_howManyBelow_L2 (x1 : Int32) : XS → Nat → Nat → Nat
  | S, 0, _ => 0
  | S, N2 + 1, i2 => if (xn S) ≤ i2 then i2 else (if x1 ≤ (xnum S i2) then i2 else (X_howManyBelow_L2 x1 S N2 (i2 + 1)))
theorem X_howManyBelow_L2_e (x1 : Int32) (S : XS) (N2 : Nat) (i2 : Nat) : X_howManyBelow_L2 x1 S (N2 + 1) i2 = if (xn S) ≤ i2 then i2 else (if x1 ≤ (xnum S i2) then i2 else (X_howManyBelow_L2 x1 S N2 (i2 + 1))) := rfl
def X_howManyBelow (x1 : Int32) (S : XS) : Nat := X_howManyBelow_L2 x1 S (xn S + 1) 0
theorem X_howManyBelow_e (x1 : Int32) (S : XS) : X_howManyBelow x1 S = X_howManyBelow_L2 x1 S (xn S + 1) 0 := rfl
def X_answerTo (x1 : Int32) (S : XS) : Int32 := if (X_isQuestion x1) = 0 then (-1) else (xgv S x1.toNatClampNeg)
theorem X_answerTo_e (x1 : Int32) (S : XS) : X_answerTo x1 S = if (X_isQuestion x1) = 0 then (-1) else (xgv S x1.toNatClampNeg) := rfl
def X_leftByRules (x1 : Int32) (S : XS) : Int32 := if (xkw S x1.toNatClampNeg) = 0 then ((X_everyCode S) &&& ((xfw S x1.toNatClampNeg) ^^^ (-1))) else ((xkw S x1.toNatClampNeg) &&& ((xfw S x1.toNatClampNeg) ^^^ (-1)))
theorem X_leftByRules_e (x1 : Int32) (S : XS) : X_leftByRules x1 S = if (xkw S x1.toNatClampNeg) = 0 then ((X_everyCode S) &&& ((xfw S x1.toNatClampNeg) ^^^ (-1))) else ((xkw S x1.toNatClampNeg) &&& ((xfw S x1.toNatClampNeg) ^^^ (-1))) := rfl
def X_leaves (x1 : Int32) (x2 : Int32) (S : XS) : Int32 := if (X_isQuestion x1) = 0 then (X_everyCode S) else (if (X_isAnswer x2) = 0 then (X_everyCode S) else (xlw S (X_pairOf x1 x2).toNatClampNeg))
theorem X_leaves_e (x1 : Int32) (x2 : Int32) (S : XS) : X_leaves x1 x2 S = if (X_isQuestion x1) = 0 then (X_everyCode S) else (if (X_isAnswer x2) = 0 then (X_everyCode S) else (xlw S (X_pairOf x1 x2).toNatClampNeg)) := rfl
def X_leftSet_L7 : XS → Nat → Int32 → Nat → Int32
  | S, 0, _, _ => 0
  | S, N7 + 1, v1, i2 => if 5 ≤ i2 then v1 else (X_leftSet_L7 S N7 (v1 &&& (X_leaves (nI i2) (xgv S i2) S)) (i2 + 1))
theorem X_leftSet_L7_e (S : XS) (N7 : Nat) (v1 : Int32) (i2 : Nat) : X_leftSet_L7 S (N7 + 1) v1 i2 = if 5 ≤ i2 then v1 else (X_leftSet_L7 S N7 (v1 &&& (X_leaves (nI i2) (xgv S i2) S)) (i2 + 1)) := rfl
def X_leftSet (S : XS) : Int32 := X_leftSet_L7 S (5 + 1) (X_everyCode S) 0
theorem X_leftSet_e (S : XS) : X_leftSet S = X_leftSet_L7 S (5 + 1) (X_everyCode S) 0 := rfl
def X_openQuestions_L4 : XS → Nat → Int32 → Nat → Int32
  | S, 0, _, _ => 0
  | S, N4 + 1, v1, i2 => if 5 ≤ i2 then v1 else (if (xgv S i2) = (-1) then (X_openQuestions_L4 S N4 (v1 ||| ((nI 1) <<< ((nI i2) &&& 31))) (i2 + 1)) else (X_openQuestions_L4 S N4 v1 (i2 + 1)))
theorem X_openQuestions_L4_e (S : XS) (N4 : Nat) (v1 : Int32) (i2 : Nat) : X_openQuestions_L4 S (N4 + 1) v1 i2 = if 5 ≤ i2 then v1 else (if (xgv S i2) = (-1) then (X_openQuestions_L4 S N4 (v1 ||| ((nI 1) <<< ((nI i2) &&& 31))) (i2 + 1)) else (X_openQuestions_L4 S N4 v1 (i2 + 1))) := rfl
def X_openQuestions (S : XS) : Int32 := X_openQuestions_L4 S (5 + 1) (nI 0) 0
theorem X_openQuestions_e (S : XS) : X_openQuestions S = X_openQuestions_L4 S (5 + 1) (nI 0) 0 := rfl
def X_parts_L19 (j1 : Nat) (x2 : Int32) : XS → Nat → Nat → Int32
  | S, 0, _ => 0
  | S, N19 + 1, i5 => if 4 ≤ i5 then (nI 0) else (if (x2 &&& (xlw S ((4 * j1) + i5))) = (x2 &&& (xlw S (4 * j1))) then (X_parts_L19 j1 x2 S N19 (i5 + 1)) else (nI 1))
theorem X_parts_L19_e (j1 : Nat) (x2 : Int32) (S : XS) (N19 : Nat) (i5 : Nat) : X_parts_L19 j1 x2 S (N19 + 1) i5 = if 4 ≤ i5 then (nI 0) else (if (x2 &&& (xlw S ((4 * j1) + i5))) = (x2 &&& (xlw S (4 * j1))) then (X_parts_L19 j1 x2 S N19 (i5 + 1)) else (nI 1)) := rfl
def X_parts (j1 : Nat) (x2 : Int32) (S : XS) : Int32 := X_parts_L19 j1 x2 S (4 + 1) 1
theorem X_parts_e (j1 : Nat) (x2 : Int32) (S : XS) : X_parts j1 x2 S = X_parts_L19 j1 x2 S (4 + 1) 1 := rfl
def X_partingOf_L13 (x1 : Int32) (x2 : Int32) : XS → Nat → Int32 → Nat → Int32
  | S, 0, _, _ => 0
  | S, N13 + 1, v3, i4 => if 5 ≤ i4 then v3 else (if (X_contains x2 (nI i4)) = 0 then (X_partingOf_L13 x1 x2 S N13 v3 (i4 + 1)) else (if (X_parts i4 x1 S) = 0 then (X_partingOf_L13 x1 x2 S N13 v3 (i4 + 1)) else (X_partingOf_L13 x1 x2 S N13 (v3 ||| ((nI 1) <<< ((nI i4) &&& 31))) (i4 + 1))))
theorem X_partingOf_L13_e (x1 : Int32) (x2 : Int32) (S : XS) (N13 : Nat) (v3 : Int32) (i4 : Nat) : X_partingOf_L13 x1 x2 S (N13 + 1) v3 i4 = if 5 ≤ i4 then v3 else (if (X_contains x2 (nI i4)) = 0 then (X_partingOf_L13 x1 x2 S N13 v3 (i4 + 1)) else (if (X_parts i4 x1 S) = 0 then (X_partingOf_L13 x1 x2 S N13 v3 (i4 + 1)) else (X_partingOf_L13 x1 x2 S N13 (v3 ||| ((nI 1) <<< ((nI i4) &&& 31))) (i4 + 1)))) := rfl
def X_partingOf (x1 : Int32) (x2 : Int32) (S : XS) : Int32 := if (popc x1) < 2 then (nI 0) else (X_partingOf_L13 x1 x2 S (5 + 1) (nI 0) 0)
theorem X_partingOf_e (x1 : Int32) (x2 : Int32) (S : XS) : X_partingOf x1 x2 S = if (popc x1) < 2 then (nI 0) else (X_partingOf_L13 x1 x2 S (5 + 1) (nI 0) 0) := rfl
def X_neededFor_L23 (nw : Nat → Int32 → Int32 → Nat → Nat) (x1 : Int32) (x2 : Int32) (j3 : Nat) (j4 : Nat) : XS → Nat → Nat → Nat → Nat
  | S, 0, _, _ => 0
  | S, N23 + 1, v6, i7 => if 5 ≤ i7 then v6 else (if v6 ≤ j3 then v6 else (if (X_contains (X_partingOf x1 x2 S) (nI i7)) = 0 then (X_neededFor_L23 nw x1 x2 j3 j4 S N23 v6 (i7 + 1)) else (X_neededFor_L23 nw x1 x2 j3 j4 S N23 (min v6 (nw i7 x1 (X_partingOf x1 x2 S) v6)) (i7 + 1))))
theorem X_neededFor_L23_e (nw : Nat → Int32 → Int32 → Nat → Nat) (x1 : Int32) (x2 : Int32) (j3 : Nat) (j4 : Nat) (S : XS) (N23 : Nat) (v6 : Nat) (i7 : Nat) : X_neededFor_L23 nw x1 x2 j3 j4 S (N23 + 1) v6 i7 = if 5 ≤ i7 then v6 else (if v6 ≤ j3 then v6 else (if (X_contains (X_partingOf x1 x2 S) (nI i7)) = 0 then (X_neededFor_L23 nw x1 x2 j3 j4 S N23 v6 (i7 + 1)) else (X_neededFor_L23 nw x1 x2 j3 j4 S N23 (min v6 (nw i7 x1 (X_partingOf x1 x2 S) v6)) (i7 + 1)))) := rfl
def X_neededFor (nw : Nat → Int32 → Int32 → Nat → Nat) (x1 : Int32) (x2 : Int32) (j3 : Nat) (j4 : Nat) (S : XS) : Nat := X_neededFor_L23 nw x1 x2 j3 j4 S 6 (min j4 (popc (X_partingOf x1 x2 S))) 0
theorem X_neededFor_e (nw : Nat → Int32 → Int32 → Nat → Nat) (x1 : Int32) (x2 : Int32) (j3 : Nat) (j4 : Nat) (S : XS) : X_neededFor nw x1 x2 j3 j4 S = X_neededFor_L23 nw x1 x2 j3 j4 S 6 (min j4 (popc (X_partingOf x1 x2 S))) 0 := rfl
def X_neededWith_L15 (nf : Int32 → Int32 → Nat → Nat → Nat) (j1 : Nat) (x2 : Int32) (x3 : Int32) (j4 : Nat) : XS → Nat → Nat → Nat → Nat
  | S, 0, _, _ => 0
  | S, N15 + 1, v6, i7 => if 4 ≤ i7 then (v6 + 1) else (if j4 ≤ (v6 + 1) then (v6 + 1) else (X_neededWith_L15 nf j1 x2 x3 j4 S N15 (max v6 (nf (x2 &&& (X_leaves (nI j1) (nI i7) S)) (x3 &&& (((nI 1) <<< ((nI j1) &&& 31)) ^^^ (-1))) (max v6 1) (j4 - 1))) (i7 + 1)))
theorem X_neededWith_L15_e (nf : Int32 → Int32 → Nat → Nat → Nat) (j1 : Nat) (x2 : Int32) (x3 : Int32) (j4 : Nat) (S : XS) (N15 : Nat) (v6 : Nat) (i7 : Nat) : X_neededWith_L15 nf j1 x2 x3 j4 S (N15 + 1) v6 i7 = if 4 ≤ i7 then (v6 + 1) else (if j4 ≤ (v6 + 1) then (v6 + 1) else (X_neededWith_L15 nf j1 x2 x3 j4 S N15 (max v6 (nf (x2 &&& (X_leaves (nI j1) (nI i7) S)) (x3 &&& (((nI 1) <<< ((nI j1) &&& 31)) ^^^ (-1))) (max v6 1) (j4 - 1))) (i7 + 1))) := rfl
def X_neededWith (nf : Int32 → Int32 → Nat → Nat → Nat) (j1 : Nat) (x2 : Int32) (x3 : Int32) (j4 : Nat) (S : XS) : Nat := X_neededWith_L15 nf j1 x2 x3 j4 S 5 0 0
theorem X_neededWith_e (nf : Int32 → Int32 → Nat → Nat → Nat) (j1 : Nat) (x2 : Int32) (x3 : Int32) (j4 : Nat) (S : XS) : X_neededWith nf j1 x2 x3 j4 S = X_neededWith_L15 nf j1 x2 x3 j4 S 5 0 0 := rfl
-- what the class's small functions say
theorem xq_in {x : Int32} (h : ¬ X_isQuestion x = 0) : vp_in x 5 := by
  unfold X_isQuestion at h
  by_cases h1 : x < 0
  · rw [if_pos h1] at h; exact absurd nI_0 h
  · rw [if_neg h1] at h
    by_cases h2 : nI 5 ≤ x
    · rw [if_pos h2] at h; exact absurd nI_0 h
    · exact in_bd (by decide) h1 h2
theorem xan_in {x : Int32} (h : ¬ X_isAnswer x = 0) : vp_in x 4 := by
  unfold X_isAnswer at h
  by_cases h1 : x < 0
  · rw [if_pos h1] at h; exact absurd nI_0 h
  · rw [if_neg h1] at h
    by_cases h2 : nI 4 ≤ x
    · rw [if_pos h2] at h; exact absurd nI_0 h
    · exact in_bd (by decide) h1 h2
theorem xpair_n (j k : Nat) : X_pairOf (nI j) (nI k) = nI (4 * j + k) := by
  show nI 4 * nI j + nI k = _
  rw [pk_mul, nI_add]
theorem xpair0 (j : Nat) : X_pairOf (nI j) (nI 0) = nI (4 * j) := xpair_n j 0
theorem xp_in {x y : Int32} (h1 : ¬ X_isQuestion x = 0) (h2 : ¬ X_isAnswer y = 0) : vp_in (X_pairOf x y) 20 := by
  obtain ⟨j, hj, rfl⟩ := vp_in_of (xq_in h1) (by decide)
  obtain ⟨k, hk, rfl⟩ := vp_in_of (xan_in h2) (by decide)
  rw [xpair_n]
  exact vp_in_nI (by omega) (by decide)
/-- placeOf: the first place with that number, or -1 -/
theorem pl_spec (x : Int32) (S : XS) : ∀ N i, xn S - i < N → (X_placeOf_L2 x S N i = (-1) ∧ ∀ k, i ≤ k → k < xn S → ¬ xnum S k = x) ∨
    ∃ k, i ≤ k ∧ k < xn S ∧ X_placeOf_L2 x S N i = nI k ∧ xnum S k = x ∧ ∀ j, i ≤ j → j < k → ¬ xnum S j = x := by
  intro N
  induction N with
  | zero => intro i h; exact absurd h (Nat.not_lt_zero _)
  | succ N ih =>
    intro i h
    rw [X_placeOf_L2_e]
    by_cases h1 : xn S ≤ i
    · rw [if_pos h1]
      exact Or.inl ⟨rfl, fun k hk hk2 => by omega⟩
    · rw [if_neg h1]
      by_cases h2 : xnum S i = x
      · rw [if_pos h2]
        exact Or.inr ⟨i, Nat.le_refl _, by omega, rfl, h2, fun j hj hj2 => by omega⟩
      · rw [if_neg h2]
        rcases ih (i + 1) (by omega) with ⟨e, hn⟩ | ⟨k, k1, k2, e, k3, k4⟩
        · refine Or.inl ⟨e, fun k hk hk2 => ?_⟩
          by_cases hki : k = i
          · rw [hki]; exact h2
          · exact hn k (by omega) hk2
        · refine Or.inr ⟨k, by omega, k2, e, k3, fun j hj hj2 => ?_⟩
          by_cases hji : j = i
          · rw [hji]; exact h2
          · exact k4 j (by omega) hj2
theorem xplace_in {x : Int32} {S : XS} (hI : XI S) (h : ¬ X_placeOf x S = (-1)) : vp_in (X_placeOf x S) 12 := by
  rcases pl_spec x S (xn S + 1) 0 (by omega) with ⟨e, -⟩ | ⟨k, -, k2, e, -, -⟩
  · exact absurd e h
  · rw [show X_placeOf x S = nI k from e]
    exact vp_in_nI (by have := hI.1; omega) (by decide)
/-- howManyBelow: the first place whose number is not below -/
theorem hm_spec (x : Int32) (S : XS) : ∀ N i, i ≤ xn S → xn S - i < N → i ≤ X_howManyBelow_L2 x S N i ∧ X_howManyBelow_L2 x S N i ≤ xn S ∧ (∀ k, i ≤ k → k < X_howManyBelow_L2 x S N i → ¬ x ≤ xnum S k) ∧ (X_howManyBelow_L2 x S N i < xn S → x ≤ xnum S (X_howManyBelow_L2 x S N i)) := by
  intro N
  induction N with
  | zero => intro i _ h; exact absurd h (Nat.not_lt_zero _)
  | succ N ih =>
    intro i hi h
    rw [X_howManyBelow_L2_e]
    by_cases h1 : xn S ≤ i
    · rw [if_pos h1]
      exact ⟨Nat.le_refl _, hi, fun k a b => by omega, fun a => by omega⟩
    · rw [if_neg h1]
      by_cases h2 : x ≤ xnum S i
      · rw [if_pos h2]
        exact ⟨Nat.le_refl _, hi, fun k a b => by omega, fun _ => h2⟩
      · rw [if_neg h2]
        obtain ⟨a, b, c, d⟩ := ih (i + 1) (by omega) (by omega)
        refine ⟨by omega, b, fun k hk hk2 => ?_, d⟩
        by_cases hki : k = i
        · rw [hki]; exact h2
        · exact c k (by omega) hk2
theorem hmb_le (x : Int32) (S : XS) : X_howManyBelow x S ≤ xn S := (hm_spec x S (xn S + 1) 0 (Nat.zero_le _) (by omega)).2.1

-- the search, tied: the limit falls with each question asked
theorem nfl_le (nw : Nat → Int32 → Int32 → Nat → Nat) (x1 x2 : Int32) (j3 j4 : Nat) (S : XS) : ∀ N v i, X_neededFor_L23 nw x1 x2 j3 j4 S N v i ≤ v := by
  intro N
  induction N with
  | zero => intro v i; exact Nat.zero_le _
  | succ N ih =>
    intro v i
    rw [X_neededFor_L23_e]
    by_cases h1 : 5 ≤ i
    · rw [if_pos h1]; exact Nat.le_refl _
    · rw [if_neg h1]
      by_cases h2 : v ≤ j3
      · rw [if_pos h2]; exact Nat.le_refl _
      · rw [if_neg h2]
        by_cases h3 : X_contains (X_partingOf x1 x2 S) (nI i) = 0
        · rw [if_pos h3]; exact ih _ _
        · rw [if_neg h3]; exact Nat.le_trans (ih _ _) (Nat.min_le_left _ _)
theorem nf_lt (nw : Nat → Int32 → Int32 → Nat → Nat) (x1 x2 : Int32) (j3 j4 : Nat) (S : XS) : X_neededFor nw x1 x2 j3 j4 S < 64 :=
  Nat.lt_of_le_of_lt (Nat.le_trans (nfl_le _ _ _ _ _ _ _ _ _) (Nat.min_le_right _ _)) (popc_lt _)
theorem nwl_lt (nf : Int32 → Int32 → Nat → Nat → Nat) (h : ∀ s o f k, nf s o f k < 64) (j1 : Nat) (x2 x3 : Int32) (j4 : Nat) (S : XS) : ∀ N v i, v < 64 → X_neededWith_L15 nf j1 x2 x3 j4 S N v i ≤ 64 := by
  intro N
  induction N with
  | zero => intro v i _; exact Nat.zero_le _
  | succ N ih =>
    intro v i hv
    rw [X_neededWith_L15_e]
    by_cases h1 : 4 ≤ i
    · rw [if_pos h1]; omega
    · rw [if_neg h1]
      by_cases h2 : j4 ≤ v + 1
      · rw [if_pos h2]; omega
      · rw [if_neg h2]
        exact ih _ _ (by have := h (x2 &&& X_leaves (nI j1) (nI i) S) (x3 &&& ((nI 1 <<< (nI j1 &&& 31)) ^^^ (-1))) (max v 1) (j4 - 1); omega)
theorem nw_lt (nf : Int32 → Int32 → Nat → Nat → Nat) (h : ∀ s o f k, nf s o f k < 64) (j1 : Nat) (x2 x3 : Int32) (j4 : Nat) (S : XS) : X_neededWith nf j1 x2 x3 j4 S ≤ 64 := nwl_lt nf h j1 x2 x3 j4 S _ _ _ (by decide)
def X_nf : Nat → XS → Int32 → Int32 → Nat → Nat → Nat
  | 0, S => fun s o f k => X_neededFor (fun _ _ _ _ => 0) s o f k S
  | d + 1, S => fun s o f k => X_neededFor (fun q s o k => X_neededWith (X_nf d S) q s o k S) s o f k S
theorem X_nf_lt (S : XS) : ∀ d s o f k, X_nf d S s o f k < 64 := by
  intro d
  cases d with
  | zero => intro s o f k; exact nf_lt _ _ _ _ _ _
  | succ d => intro s o f k; exact nf_lt _ _ _ _ _ _
def X_nF (s o : Int32) (f k : Nat) (S : XS) : Nat := X_nf 4 S s o f k
def X_nW (q : Nat) (s o : Int32) (k : Nat) (S : XS) : Nat := X_neededWith (X_nf 4 S) q s o k S
theorem X_nF_lt (s o : Int32) (f k : Nat) (S : XS) : X_nF s o f k S < 64 := X_nf_lt S 4 s o f k
theorem X_nW_lt (q : Nat) (s o : Int32) (k : Nat) (S : XS) : X_nW q s o k S ≤ 64 := nw_lt _ (X_nf_lt S 4) q s o k S
theorem ptl (x1 x2 : Int32) (S : XS) : ∀ N v i, v < 32 → ∃ p, p < 32 ∧ X_partingOf_L13 x1 x2 S N (nI v) i = nI p := by
  intro N
  induction N with
  | zero => intro v i _; exact ⟨0, by decide, rfl⟩
  | succ N ih =>
    intro v i hv
    rw [X_partingOf_L13_e]
    by_cases h1 : 5 ≤ i
    · rw [if_pos h1]; exact ⟨v, hv, rfl⟩
    · rw [if_neg h1]
      by_cases h2 : X_contains x2 (nI i) = 0
      · rw [if_pos h2]; exact ih _ _ hv
      · rw [if_neg h2]
        by_cases h3 : X_parts i x1 S = 0
        · rw [if_pos h3]; exact ih _ _ hv
        · rw [if_neg h3, nb_shl1 i (by omega), nx_or]
          refine ih _ _ ?_
          have h4 : (2 : Nat) ^ i < 2 ^ 5 := Nat.pow_lt_pow_right (by decide) (by omega)
          exact Nat.or_lt_two_pow (n := 5) hv h4
theorem pt_lt (x1 x2 : Int32) (S : XS) : ∃ p, p < 32 ∧ X_partingOf x1 x2 S = nI p := by
  unfold X_partingOf
  by_cases h : popc x1 < 2
  · rw [if_pos h]; exact ⟨0, by decide, rfl⟩
  · rw [if_neg h]; exact ptl x1 x2 S _ _ _ (by decide)
theorem cn_le5 : ∀ p, p < 32 → cn12 p ≤ 5 := by decide +kernel
theorem pt_le5 (x1 x2 : Int32) (S : XS) : popc (X_partingOf x1 x2 S) ≤ 5 := by
  obtain ⟨p, hp, e⟩ := pt_lt x1 x2 S
  rw [e, popc_n (by omega)]
  exact cn_le5 p hp

def X_question_L28 : XS → Nat → Int32 → Nat → Nat → Int32
  | S, 0, _, _, _ => 0
  | S, N28 + 1, v3, i4, i5 => if 5 ≤ i5 then v3 else (if i4 ≤ 1 then v3 else (if (X_contains (X_partingOf (X_leftSet S) (X_openQuestions S) S) (nI i5)) = 0 then (X_question_L28 S N28 v3 i4 (i5 + 1)) else (if i4 ≤ (X_nW i5 (X_leftSet S) (X_partingOf (X_leftSet S) (X_openQuestions S) S) i4 S) then (X_question_L28 S N28 v3 i4 (i5 + 1)) else (X_question_L28 S N28 (nI i5) (X_nW i5 (X_leftSet S) (X_partingOf (X_leftSet S) (X_openQuestions S) S) i4 S) (i5 + 1)))))
theorem X_question_L28_e (S : XS) (N28 : Nat) (v3 : Int32) (i4 : Nat) (i5 : Nat) : X_question_L28 S (N28 + 1) v3 i4 i5 = if 5 ≤ i5 then v3 else (if i4 ≤ 1 then v3 else (if (X_contains (X_partingOf (X_leftSet S) (X_openQuestions S) S) (nI i5)) = 0 then (X_question_L28 S N28 v3 i4 (i5 + 1)) else (if i4 ≤ (X_nW i5 (X_leftSet S) (X_partingOf (X_leftSet S) (X_openQuestions S) S) i4 S) then (X_question_L28 S N28 v3 i4 (i5 + 1)) else (X_question_L28 S N28 (nI i5) (X_nW i5 (X_leftSet S) (X_partingOf (X_leftSet S) (X_openQuestions S) S) i4 S) (i5 + 1))))) := rfl
def X_question (S : XS) : Int32 := X_question_L28 S (5 + 1) (-1) ((popc (X_partingOf (X_leftSet S) (X_openQuestions S) S)) + 1) 0
theorem X_question_e (S : XS) : X_question S = X_question_L28 S (5 + 1) (-1) ((popc (X_partingOf (X_leftSet S) (X_openQuestions S) S)) + 1) 0 := rfl
def X_needed (S : XS) : Nat := X_nF (X_leftSet S) (X_openQuestions S) 1 5 S
theorem X_needed_e (S : XS) : X_needed S = X_nF (X_leftSet S) (X_openQuestions S) 1 5 S := rfl
def X_mostSpecificOf_L7 (x1 : Int32) : XS → Nat → Int32 → Int32 → Nat → Int32
  | S, 0, _, _, _ => 0
  | S, N7 + 1, v2, v3, i4 => if (xn S) ≤ i4 then v2 else (if (X_contains x1 (nI i4)) = 0 then (X_mostSpecificOf_L7 x1 S N7 v2 v3 (i4 + 1)) else (if (xspec S i4) ≤ v3 then (if (xspec S i4) = v3 then (X_mostSpecificOf_L7 x1 S N7 (v2 ||| ((nI 1) <<< ((nI i4) &&& 31))) v3 (i4 + 1)) else (X_mostSpecificOf_L7 x1 S N7 v2 v3 (i4 + 1))) else (if (xspec S i4) = (xspec S i4) then (X_mostSpecificOf_L7 x1 S N7 ((nI 0) ||| ((nI 1) <<< ((nI i4) &&& 31))) (xspec S i4) (i4 + 1)) else (X_mostSpecificOf_L7 x1 S N7 (nI 0) (xspec S i4) (i4 + 1)))))
theorem X_mostSpecificOf_L7_e (x1 : Int32) (S : XS) (N7 : Nat) (v2 : Int32) (v3 : Int32) (i4 : Nat) : X_mostSpecificOf_L7 x1 S (N7 + 1) v2 v3 i4 = if (xn S) ≤ i4 then v2 else (if (X_contains x1 (nI i4)) = 0 then (X_mostSpecificOf_L7 x1 S N7 v2 v3 (i4 + 1)) else (if (xspec S i4) ≤ v3 then (if (xspec S i4) = v3 then (X_mostSpecificOf_L7 x1 S N7 (v2 ||| ((nI 1) <<< ((nI i4) &&& 31))) v3 (i4 + 1)) else (X_mostSpecificOf_L7 x1 S N7 v2 v3 (i4 + 1))) else (if (xspec S i4) = (xspec S i4) then (X_mostSpecificOf_L7 x1 S N7 ((nI 0) ||| ((nI 1) <<< ((nI i4) &&& 31))) (xspec S i4) (i4 + 1)) else (X_mostSpecificOf_L7 x1 S N7 (nI 0) (xspec S i4) (i4 + 1))))) := rfl
def X_mostSpecificOf (x1 : Int32) (S : XS) : Int32 := X_mostSpecificOf_L7 x1 S (xn S + 1) (nI 0) (-1) 0
theorem X_mostSpecificOf_e (x1 : Int32) (S : XS) : X_mostSpecificOf x1 S = X_mostSpecificOf_L7 x1 S (xn S + 1) (nI 0) (-1) 0 := rfl
def X_greatestShareOf_L10 (x1 : Int32) : XS → Nat → Int32 → Int32 → Int32 → Nat → Int32
  | S, 0, _, _, _, _ => 0
  | S, N10 + 1, v2, v3, v4, i5 => if (xn S) ≤ i5 then v2 else (if (X_contains x1 (nI i5)) = 0 then (X_greatestShareOf_L10 x1 S N10 v2 v3 v4 (i5 + 1)) else (if (Int_compare ((xup S i5) * v4) (v3 * (xdown S i5))) ≤ 0 then (if (Int_compare ((xup S i5) * v4) (v3 * (xdown S i5))) < 0 then (X_greatestShareOf_L10 x1 S N10 v2 v3 v4 (i5 + 1)) else (X_greatestShareOf_L10 x1 S N10 (v2 ||| ((nI 1) <<< ((nI i5) &&& 31))) v3 v4 (i5 + 1))) else (if (Int_compare ((xup S i5) * v4) (v3 * (xdown S i5))) < 0 then (X_greatestShareOf_L10 x1 S N10 (nI 0) (xup S i5) (xdown S i5) (i5 + 1)) else (X_greatestShareOf_L10 x1 S N10 ((nI 0) ||| ((nI 1) <<< ((nI i5) &&& 31))) (xup S i5) (xdown S i5) (i5 + 1)))))
theorem X_greatestShareOf_L10_e (x1 : Int32) (S : XS) (N10 : Nat) (v2 : Int32) (v3 : Int32) (v4 : Int32) (i5 : Nat) : X_greatestShareOf_L10 x1 S (N10 + 1) v2 v3 v4 i5 = if (xn S) ≤ i5 then v2 else (if (X_contains x1 (nI i5)) = 0 then (X_greatestShareOf_L10 x1 S N10 v2 v3 v4 (i5 + 1)) else (if (Int_compare ((xup S i5) * v4) (v3 * (xdown S i5))) ≤ 0 then (if (Int_compare ((xup S i5) * v4) (v3 * (xdown S i5))) < 0 then (X_greatestShareOf_L10 x1 S N10 v2 v3 v4 (i5 + 1)) else (X_greatestShareOf_L10 x1 S N10 (v2 ||| ((nI 1) <<< ((nI i5) &&& 31))) v3 v4 (i5 + 1))) else (if (Int_compare ((xup S i5) * v4) (v3 * (xdown S i5))) < 0 then (X_greatestShareOf_L10 x1 S N10 (nI 0) (xup S i5) (xdown S i5) (i5 + 1)) else (X_greatestShareOf_L10 x1 S N10 ((nI 0) ||| ((nI 1) <<< ((nI i5) &&& 31))) (xup S i5) (xdown S i5) (i5 + 1))))) := rfl
def X_greatestShareOf (x1 : Int32) (S : XS) : Int32 := X_greatestShareOf_L10 x1 S (xn S + 1) (nI 0) (-1) (nI 1) 0
theorem X_greatestShareOf_e (x1 : Int32) (S : XS) : X_greatestShareOf x1 S = X_greatestShareOf_L10 x1 S (xn S + 1) (nI 0) (-1) (nI 1) 0 := rfl
def X_lastNumberOf_L4 (x1 : Int32) : XS → Nat → Int32 → Nat → Int32
  | S, 0, _, _ => 0
  | S, N4 + 1, v2, i3 => if (xn S) ≤ i3 then v2 else (if (X_contains x1 (nI i3)) = 0 then (X_lastNumberOf_L4 x1 S N4 v2 (i3 + 1)) else (X_lastNumberOf_L4 x1 S N4 (xnum S i3) (i3 + 1)))
theorem X_lastNumberOf_L4_e (x1 : Int32) (S : XS) (N4 : Nat) (v2 : Int32) (i3 : Nat) : X_lastNumberOf_L4 x1 S (N4 + 1) v2 i3 = if (xn S) ≤ i3 then v2 else (if (X_contains x1 (nI i3)) = 0 then (X_lastNumberOf_L4 x1 S N4 v2 (i3 + 1)) else (X_lastNumberOf_L4 x1 S N4 (xnum S i3) (i3 + 1))) := rfl
def X_lastNumberOf (x1 : Int32) (S : XS) : Int32 := X_lastNumberOf_L4 x1 S (xn S + 1) (nI 0) 0
theorem X_lastNumberOf_e (x1 : Int32) (S : XS) : X_lastNumberOf x1 S = X_lastNumberOf_L4 x1 S (xn S + 1) (nI 0) 0 := rfl
def X_isGiven (x1 : Int32) (S : XS) : Int32 := if (X_answerTo (x1 / (nI 4)) S) = (x1 - x1 / (nI 4) * (nI 4)) then (nI 1) else (nI 0)
theorem X_isGiven_e (x1 : Int32) (S : XS) : X_isGiven x1 S = if (X_answerTo (x1 / (nI 4)) S) = (x1 - x1 / (nI 4) * (nI 4)) then (nI 1) else (nI 0) := rfl
def X_holds (j1 : Nat) (S : XS) : Int32 := if (xpu S j1) < (xtd S) then (nI 0) else (if (X_isGiven (xp1 S j1) S) = 0 then (nI 0) else (if (xp2 S j1) = (-1) then (nI 1) else (if (X_isGiven (xp2 S j1) S) = 0 then (nI 0) else (nI 1))))
theorem X_holds_e (j1 : Nat) (S : XS) : X_holds j1 S = if (xpu S j1) < (xtd S) then (nI 0) else (if (X_isGiven (xp1 S j1) S) = 0 then (nI 0) else (if (xp2 S j1) = (-1) then (nI 1) else (if (X_isGiven (xp2 S j1) S) = 0 then (nI 0) else (nI 1)))) := rfl
def X_howManyHold_L4 : XS → Nat → Nat → Nat → Nat
  | S, 0, _, _ => 0
  | S, N4 + 1, i1, i2 => if (xp S) ≤ i2 then i1 else (if (X_holds i2 S) = 0 then (X_howManyHold_L4 S N4 i1 (i2 + 1)) else (X_howManyHold_L4 S N4 (i1 + 1) (i2 + 1)))
theorem X_howManyHold_L4_e (S : XS) (N4 : Nat) (i1 : Nat) (i2 : Nat) : X_howManyHold_L4 S (N4 + 1) i1 i2 = if (xp S) ≤ i2 then i1 else (if (X_holds i2 S) = 0 then (X_howManyHold_L4 S N4 i1 (i2 + 1)) else (X_howManyHold_L4 S N4 (i1 + 1) (i2 + 1))) := rfl
def X_howManyHold (S : XS) : Nat := X_howManyHold_L4 S (xp S + 1) 0 0
theorem X_howManyHold_e (S : XS) : X_howManyHold S = X_howManyHold_L4 S (xp S + 1) 0 0 := rfl
def X_ruledCode_L4 : XS → Nat → Int32 → Nat → Int32
  | S, 0, _, _ => 0
  | S, N4 + 1, v1, i2 => if (xp S) ≤ i2 then v1 else (if (X_holds i2 S) = 0 then (X_ruledCode_L4 S N4 v1 (i2 + 1)) else (if v1 = 0 then (X_ruledCode_L4 S N4 (xpc S i2) (i2 + 1)) else (if v1 = (xpc S i2) then (X_ruledCode_L4 S N4 (xpc S i2) (i2 + 1)) else (-1))))
theorem X_ruledCode_L4_e (S : XS) (N4 : Nat) (v1 : Int32) (i2 : Nat) : X_ruledCode_L4 S (N4 + 1) v1 i2 = if (xp S) ≤ i2 then v1 else (if (X_holds i2 S) = 0 then (X_ruledCode_L4 S N4 v1 (i2 + 1)) else (if v1 = 0 then (X_ruledCode_L4 S N4 (xpc S i2) (i2 + 1)) else (if v1 = (xpc S i2) then (X_ruledCode_L4 S N4 (xpc S i2) (i2 + 1)) else (-1)))) := rfl
def X_ruledCode (S : XS) : Int32 := X_ruledCode_L4 S (xp S + 1) (nI 0) 0
theorem X_ruledCode_e (S : XS) : X_ruledCode S = X_ruledCode_L4 S (xp S + 1) (nI 0) 0 := rfl
def X_found (S : XS) : Int32 := if (X_ruledCode S) ≤ 0 then (X_lastNumberOf (X_greatestShareOf (X_mostSpecificOf (X_leftSet S) S) S) S) else (X_ruledCode S)
theorem X_found_e (S : XS) : X_found S = if (X_ruledCode S) ≤ 0 then (X_lastNumberOf (X_greatestShareOf (X_mostSpecificOf (X_leftSet S) S) S) S) else (X_ruledCode S) := rfl
def X_why (S : XS) : Int32 := if (X_ruledCode S) ≤ 0 then (if (X_leftSet S) = 0 then (nI 0) else (if (popc (X_leftSet S)) = 1 then (nI 2) else (if (popc (X_mostSpecificOf (X_leftSet S) S)) = 1 then (nI 3) else (if (popc (X_greatestShareOf (X_mostSpecificOf (X_leftSet S) S) S)) = 1 then (nI 4) else (nI 5))))) else (nI 1)
theorem X_why_e (S : XS) : X_why S = if (X_ruledCode S) ≤ 0 then (if (X_leftSet S) = 0 then (nI 0) else (if (popc (X_leftSet S)) = 1 then (nI 2) else (if (popc (X_mostSpecificOf (X_leftSet S) S)) = 1 then (nI 3) else (if (popc (X_greatestShareOf (X_mostSpecificOf (X_leftSet S) S) S)) = 1 then (nI 4) else (nI 5))))) else (nI 1) := rfl
def X_left_L10 (x1 : Int32) : XS → Nat → Nat → Nat → Int32
  | S, 0, _, _ => 0
  | S, N10 + 1, i3, i4 => if (xn S) ≤ i4 then (-1) else (if (X_contains (X_leftSet S) (nI i4)) = 0 then (X_left_L10 x1 S N10 i3 (i4 + 1)) else (if (nI i3) = x1 then (xnum S i4) else (X_left_L10 x1 S N10 (i3 + 1) (i4 + 1))))
theorem X_left_L10_e (x1 : Int32) (S : XS) (N10 : Nat) (i3 : Nat) (i4 : Nat) : X_left_L10 x1 S (N10 + 1) i3 i4 = if (xn S) ≤ i4 then (-1) else (if (X_contains (X_leftSet S) (nI i4)) = 0 then (X_left_L10 x1 S N10 i3 (i4 + 1)) else (if (nI i3) = x1 then (xnum S i4) else (X_left_L10 x1 S N10 (i3 + 1) (i4 + 1)))) := rfl
def X_left (x1 : Int32) (S : XS) : Int32 := X_left_L10 x1 S (xn S + 1) 0 0
theorem X_left_e (x1 : Int32) (S : XS) : X_left x1 S = X_left_L10 x1 S (xn S + 1) 0 0 := rfl
def X_emptied_L16 : XS → Nat → Int32 → Nat → Int32
  | S, 0, _, _ => 0
  | S, N16 + 1, v1, i2 => if (xa S) ≤ i2 then (-1) else (if (v1 &&& (X_leaves (xod S i2) (X_answerTo (xod S i2) S) S)) = 0 then (X_pairOf (xod S i2) (X_answerTo (xod S i2) S)) else (X_emptied_L16 S N16 (v1 &&& (X_leaves (xod S i2) (X_answerTo (xod S i2) S) S)) (i2 + 1)))
theorem X_emptied_L16_e (S : XS) (N16 : Nat) (v1 : Int32) (i2 : Nat) : X_emptied_L16 S (N16 + 1) v1 i2 = if (xa S) ≤ i2 then (-1) else (if (v1 &&& (X_leaves (xod S i2) (X_answerTo (xod S i2) S) S)) = 0 then (X_pairOf (xod S i2) (X_answerTo (xod S i2) S)) else (X_emptied_L16 S N16 (v1 &&& (X_leaves (xod S i2) (X_answerTo (xod S i2) S) S)) (i2 + 1))) := rfl
def X_emptied (S : XS) : Int32 := if (xn S) = 0 then (-1) else (X_emptied_L16 S (xa S + 1) (X_everyCode S) 0)
theorem X_emptied_e (S : XS) : X_emptied S = if (xn S) = 0 then (-1) else (X_emptied_L16 S (xa S + 1) (X_everyCode S) 0) := rfl
def X_contradicts (S : XS) : Int32 := if (X_ruledCode S) = (-1) then (nI 1) else (nI 0)
theorem X_contradicts_e (S : XS) : X_contradicts S = if (X_ruledCode S) = (-1) then (nI 1) else (nI 0) := rfl
def X_count (x1 : Int32) (S : XS) : Int32 := if x1 = nI 0 then (nI (xn S)) else (if x1 = nI 1 then (nI (xr S)) else (if x1 = nI 2 then (nI (xa S)) else (if x1 = nI 3 then (nI (popc (X_leftSet S))) else (if x1 = nI 4 then (nI (xp S)) else (if x1 = nI 5 then (nI (X_howManyHold S)) else (if x1 = nI 6 then (xtd S) else (X_answerTo (x1 - (nI 10)) S)))))))
theorem X_count_e (x1 : Int32) (S : XS) : X_count x1 S = if x1 = nI 0 then (nI (xn S)) else (if x1 = nI 1 then (nI (xr S)) else (if x1 = nI 2 then (nI (xa S)) else (if x1 = nI 3 then (nI (popc (X_leftSet S))) else (if x1 = nI 4 then (nI (xp S)) else (if x1 = nI 5 then (nI (X_howManyHold S)) else (if x1 = nI 6 then (xtd S) else (X_answerTo (x1 - (nI 10)) S))))))) := rfl
def X_makeRoomAt_L74 (j1 : Nat) : XS → Nat → Nat → XS
  | U, 0, _ => U
  | U, N74 + 1, i2 => if 20 ≤ i2 then U else (X_makeRoomAt_L74 j1 (xfw_s (xkw_s U (upd (xkw U) i2 (X_withRoomAt (xkw U i2) (nI j1)))) (upd (xfw U) i2 (X_withRoomAt (xfw U i2) (nI j1)))) N74 (i2 + 1))
theorem X_makeRoomAt_L74_e (j1 : Nat) (U : XS) (N74 : Nat) (i2 : Nat) : X_makeRoomAt_L74 j1 U (N74 + 1) i2 = if 20 ≤ i2 then U else (X_makeRoomAt_L74 j1 (xfw_s (xkw_s U (upd (xkw U) i2 (X_withRoomAt (xkw U i2) (nI j1)))) (upd (xfw U) i2 (X_withRoomAt (xfw U i2) (nI j1)))) N74 (i2 + 1)) := rfl
def X_makeRoomAt_L5 (j1 : Nat) : XS → Nat → Nat → XS
  | U, 0, _ => U
  | U, N5 + 1, i2 => if i2 ≤ j1 then (X_makeRoomAt_L74 j1 U (20 + 1) 0) else (X_makeRoomAt_L5 j1 (xdown_s (xup_s (xspec_s (xnum_s U (upd (xnum U) i2 (xnum U (i2 - 1)))) (upd (xspec U) i2 (xspec U (i2 - 1)))) (upd (xup U) i2 (xup U (i2 - 1)))) (upd (xdown U) i2 (xdown U (i2 - 1)))) N5 (i2 - 1))
theorem X_makeRoomAt_L5_e (j1 : Nat) (U : XS) (N5 : Nat) (i2 : Nat) : X_makeRoomAt_L5 j1 U (N5 + 1) i2 = if i2 ≤ j1 then (X_makeRoomAt_L74 j1 U (20 + 1) 0) else (X_makeRoomAt_L5 j1 (xdown_s (xup_s (xspec_s (xnum_s U (upd (xnum U) i2 (xnum U (i2 - 1)))) (upd (xspec U) i2 (xspec U (i2 - 1)))) (upd (xup U) i2 (xup U (i2 - 1)))) (upd (xdown U) i2 (xdown U (i2 - 1)))) N5 (i2 - 1)) := rfl
def X_makeRoomAt (j1 : Nat) (S : XS) : XS := X_makeRoomAt_L5 j1 S (xn S + 1) (xn S)
theorem X_makeRoomAt_e (j1 : Nat) (S : XS) : X_makeRoomAt j1 S = X_makeRoomAt_L5 j1 S (xn S + 1) (xn S) := rfl
def X_give (x1 : Int32) (x2 : Int32) (S : XS) : XS := if 5 ≤ (xa S) then S else (xa_s (xod_s (xgv_s S (upd (xgv S) x1.toNatClampNeg x2)) (upd (xod S) (xa S) x1)) ((xa S) + 1))
theorem X_give_e (x1 : Int32) (x2 : Int32) (S : XS) : X_give x1 x2 S = if 5 ≤ (xa S) then S else (xa_s (xod_s (xgv_s S (upd (xgv S) x1.toNatClampNeg x2)) (upd (xod S) (xa S) x1)) ((xa S) + 1)) := rfl
def X_takeBack_L4 (x1 : Int32) : XS → Nat → Nat → Nat → XS
  | U, 0, _, _ => U
  | U, N4 + 1, i2, i3 => if (xa U) ≤ i3 then (xgv_s (xa_s U i2) (upd (xgv U) x1.toNatClampNeg (-1))) else (if (xod U i3) = x1 then (X_takeBack_L4 x1 U N4 i2 (i3 + 1)) else (X_takeBack_L4 x1 (xod_s U (upd (xod U) i2 (xod U i3))) N4 (i2 + 1) (i3 + 1)))
theorem X_takeBack_L4_e (x1 : Int32) (U : XS) (N4 : Nat) (i2 : Nat) (i3 : Nat) : X_takeBack_L4 x1 U (N4 + 1) i2 i3 = if (xa U) ≤ i3 then (xgv_s (xa_s U i2) (upd (xgv U) x1.toNatClampNeg (-1))) else (if (xod U i3) = x1 then (X_takeBack_L4 x1 U N4 i2 (i3 + 1)) else (X_takeBack_L4 x1 (xod_s U (upd (xod U) i2 (xod U i3))) N4 (i2 + 1) (i3 + 1))) := rfl
def X_takeBack (x1 : Int32) (S : XS) : XS := X_takeBack_L4 x1 S (xa S + 1) 0 0
theorem X_takeBack_e (x1 : Int32) (S : XS) : X_takeBack x1 S = X_takeBack_L4 x1 S (xa S + 1) 0 0 := rfl
def X_share (x1 : Int32) (x2 : Int32) (x3 : Int32) (S : XS) : Int32 × XS := if (X_placeOf x1 S) = (-1) then (nI 0, S) else (if x2 < 0 then (nI 0, S) else (if (nI 1000) < x2 then (nI 0, S) else (if x3 < (nI 1) then (nI 0, S) else (if x3 ≤ (nI 1000) then (nI 1, xdown_s (xup_s S (upd (xup S) (X_placeOf x1 S).toNatClampNeg x2)) (upd (xdown S) (X_placeOf x1 S).toNatClampNeg x3)) else (nI 0, S)))))
theorem X_share_e (x1 : Int32) (x2 : Int32) (x3 : Int32) (S : XS) : X_share x1 x2 x3 S = if (X_placeOf x1 S) = (-1) then (nI 0, S) else (if x2 < 0 then (nI 0, S) else (if (nI 1000) < x2 then (nI 0, S) else (if x3 < (nI 1) then (nI 0, S) else (if x3 ≤ (nI 1000) then (nI 1, xdown_s (xup_s S (upd (xup S) (X_placeOf x1 S).toNatClampNeg x2)) (upd (xdown S) (X_placeOf x1 S).toNatClampNeg x3)) else (nI 0, S))))) := rfl
def X_day (x1 : Int32) (S : XS) : Int32 × XS := if x1 < (xtd S) then (nI 0, S) else (if x1 ≤ (nI 100000) then (nI 1, xtd_s S x1) else (nI 0, S))
theorem X_day_e (x1 : Int32) (S : XS) : X_day x1 S = if x1 < (xtd S) then (nI 0, S) else (if x1 ≤ (nI 100000) then (nI 1, xtd_s S x1) else (nI 0, S)) := rfl
def X_code_L109 (x1 : Int32) (x2 : Int32) : XS → Nat → Nat → Nat → Nat × Int32 × XS
  | U, 0, _, _ => (0, 0, U)
  | U, N109 + 1, i4, w3 => if 20 ≤ i4 then (0, nI (xn U), U) else (X_code_L109 x1 x2 (xlw_s U (upd (xlw U) i4 (X_leftByRules (nI i4) U))) N109 (i4 + 1) w3)
theorem X_code_L109_e (x1 : Int32) (x2 : Int32) (U : XS) (N109 : Nat) (i4 : Nat) (w3 : Nat) : X_code_L109 x1 x2 U (N109 + 1) i4 w3 = if 20 ≤ i4 then (0, nI (xn U), U) else (X_code_L109 x1 x2 (xlw_s U (upd (xlw U) i4 (X_leftByRules (nI i4) U))) N109 (i4 + 1) w3) := rfl
def X_code (x1 : Int32) (x2 : Int32) (S : XS) : Nat × Int32 × XS := if (X_isNumber x1) = 0 then (1, 0, S) else (if x2 < 0 then (1, 0, S) else (if x2 ≤ (nI 100) then (if (xn S) < 12 then (if (X_placeOf x1 S) = (-1) then (X_code_L109 x1 x2 (xn_s (xdown_s (xup_s (xspec_s (xnum_s (X_makeRoomAt (X_howManyBelow x1 S) S) (upd (xnum (X_makeRoomAt (X_howManyBelow x1 S) S)) (X_howManyBelow x1 S) x1)) (upd (xspec (X_makeRoomAt (X_howManyBelow x1 S) S)) (X_howManyBelow x1 S) x2)) (upd (xup (X_makeRoomAt (X_howManyBelow x1 S) S)) (X_howManyBelow x1 S) (nI 0))) (upd (xdown (X_makeRoomAt (X_howManyBelow x1 S) S)) (X_howManyBelow x1 S) (nI 1))) ((xn (X_makeRoomAt (X_howManyBelow x1 S) S)) + 1)) (20 + 1) 0 (X_howManyBelow x1 S)) else (0, nI 0, S)) else (2, 0, S)) else (1, 0, S)))
theorem X_code_e (x1 : Int32) (x2 : Int32) (S : XS) : X_code x1 x2 S = if (X_isNumber x1) = 0 then (1, 0, S) else (if x2 < 0 then (1, 0, S) else (if x2 ≤ (nI 100) then (if (xn S) < 12 then (if (X_placeOf x1 S) = (-1) then (X_code_L109 x1 x2 (xn_s (xdown_s (xup_s (xspec_s (xnum_s (X_makeRoomAt (X_howManyBelow x1 S) S) (upd (xnum (X_makeRoomAt (X_howManyBelow x1 S) S)) (X_howManyBelow x1 S) x1)) (upd (xspec (X_makeRoomAt (X_howManyBelow x1 S) S)) (X_howManyBelow x1 S) x2)) (upd (xup (X_makeRoomAt (X_howManyBelow x1 S) S)) (X_howManyBelow x1 S) (nI 0))) (upd (xdown (X_makeRoomAt (X_howManyBelow x1 S) S)) (X_howManyBelow x1 S) (nI 1))) ((xn (X_makeRoomAt (X_howManyBelow x1 S) S)) + 1)) (20 + 1) 0 (X_howManyBelow x1 S)) else (0, nI 0, S)) else (2, 0, S)) else (1, 0, S))) := rfl
def X_rule (x1 : Int32) (x2 : Int32) (x3 : Int32) (x4 : Int32) (S : XS) : Nat × Int32 × XS := if (X_isQuestion x1) = 0 then (1, 0, S) else (if (X_isAnswer x2) = 0 then (1, 0, S) else (if (X_placeOf x3 S) = (-1) then (1, 0, S) else (if (xr S) < 60 then (if (X_contains ((xkw S (X_pairOf x1 x2).toNatClampNeg) ||| (xfw S (X_pairOf x1 x2).toNatClampNeg)) (X_placeOf x3 S)) = 0 then (if x4 = 0 then (0, nI ((xr S) + 1), xr_s (xlw_s (xfw_s S (upd (xfw S) (X_pairOf x1 x2).toNatClampNeg ((xfw S (X_pairOf x1 x2).toNatClampNeg) ||| ((nI 1) <<< ((X_placeOf x3 S) &&& 31))))) (upd (xlw S) (X_pairOf x1 x2).toNatClampNeg (X_leftByRules (X_pairOf x1 x2) (xfw_s S (upd (xfw S) (X_pairOf x1 x2).toNatClampNeg ((xfw S (X_pairOf x1 x2).toNatClampNeg) ||| ((nI 1) <<< ((X_placeOf x3 S) &&& 31)))))))) ((xr S) + 1)) else (0, nI ((xr S) + 1), xr_s (xlw_s (xkw_s S (upd (xkw S) (X_pairOf x1 x2).toNatClampNeg ((xkw S (X_pairOf x1 x2).toNatClampNeg) ||| ((nI 1) <<< ((X_placeOf x3 S) &&& 31))))) (upd (xlw S) (X_pairOf x1 x2).toNatClampNeg (X_leftByRules (X_pairOf x1 x2) (xkw_s S (upd (xkw S) (X_pairOf x1 x2).toNatClampNeg ((xkw S (X_pairOf x1 x2).toNatClampNeg) ||| ((nI 1) <<< ((X_placeOf x3 S) &&& 31)))))))) ((xr S) + 1))) else (0, nI 0, S)) else (2, 0, S))))
theorem X_rule_e (x1 : Int32) (x2 : Int32) (x3 : Int32) (x4 : Int32) (S : XS) : X_rule x1 x2 x3 x4 S = if (X_isQuestion x1) = 0 then (1, 0, S) else (if (X_isAnswer x2) = 0 then (1, 0, S) else (if (X_placeOf x3 S) = (-1) then (1, 0, S) else (if (xr S) < 60 then (if (X_contains ((xkw S (X_pairOf x1 x2).toNatClampNeg) ||| (xfw S (X_pairOf x1 x2).toNatClampNeg)) (X_placeOf x3 S)) = 0 then (if x4 = 0 then (0, nI ((xr S) + 1), xr_s (xlw_s (xfw_s S (upd (xfw S) (X_pairOf x1 x2).toNatClampNeg ((xfw S (X_pairOf x1 x2).toNatClampNeg) ||| ((nI 1) <<< ((X_placeOf x3 S) &&& 31))))) (upd (xlw S) (X_pairOf x1 x2).toNatClampNeg (X_leftByRules (X_pairOf x1 x2) (xfw_s S (upd (xfw S) (X_pairOf x1 x2).toNatClampNeg ((xfw S (X_pairOf x1 x2).toNatClampNeg) ||| ((nI 1) <<< ((X_placeOf x3 S) &&& 31)))))))) ((xr S) + 1)) else (0, nI ((xr S) + 1), xr_s (xlw_s (xkw_s S (upd (xkw S) (X_pairOf x1 x2).toNatClampNeg ((xkw S (X_pairOf x1 x2).toNatClampNeg) ||| ((nI 1) <<< ((X_placeOf x3 S) &&& 31))))) (upd (xlw S) (X_pairOf x1 x2).toNatClampNeg (X_leftByRules (X_pairOf x1 x2) (xkw_s S (upd (xkw S) (X_pairOf x1 x2).toNatClampNeg ((xkw S (X_pairOf x1 x2).toNatClampNeg) ||| ((nI 1) <<< ((X_placeOf x3 S) &&& 31)))))))) ((xr S) + 1))) else (0, nI 0, S)) else (2, 0, S)))) := rfl
def X_answer (x1 : Int32) (x2 : Int32) (S : XS) : Nat × Int32 × XS := if (X_isQuestion x1) = 0 then (1, 0, S) else (if x2 = (-1) then (if (xgv S x1.toNatClampNeg) = x2 then (0, nI (popc (X_leftSet S)), S) else (if x2 = (-1) then (0, nI (popc (X_leftSet (X_takeBack x1 S))), X_takeBack x1 S) else (0, nI (popc (X_leftSet (X_give x1 x2 (X_takeBack x1 S)))), X_give x1 x2 (X_takeBack x1 S)))) else (if (X_isAnswer x2) = 0 then (1, 0, S) else (if (xgv S x1.toNatClampNeg) = x2 then (0, nI (popc (X_leftSet S)), S) else (if x2 = (-1) then (0, nI (popc (X_leftSet (X_takeBack x1 S))), X_takeBack x1 S) else (0, nI (popc (X_leftSet (X_give x1 x2 (X_takeBack x1 S)))), X_give x1 x2 (X_takeBack x1 S))))))
theorem X_answer_e (x1 : Int32) (x2 : Int32) (S : XS) : X_answer x1 x2 S = if (X_isQuestion x1) = 0 then (1, 0, S) else (if x2 = (-1) then (if (xgv S x1.toNatClampNeg) = x2 then (0, nI (popc (X_leftSet S)), S) else (if x2 = (-1) then (0, nI (popc (X_leftSet (X_takeBack x1 S))), X_takeBack x1 S) else (0, nI (popc (X_leftSet (X_give x1 x2 (X_takeBack x1 S)))), X_give x1 x2 (X_takeBack x1 S)))) else (if (X_isAnswer x2) = 0 then (1, 0, S) else (if (xgv S x1.toNatClampNeg) = x2 then (0, nI (popc (X_leftSet S)), S) else (if x2 = (-1) then (0, nI (popc (X_leftSet (X_takeBack x1 S))), X_takeBack x1 S) else (0, nI (popc (X_leftSet (X_give x1 x2 (X_takeBack x1 S)))), X_give x1 x2 (X_takeBack x1 S)))))) := rfl
def X_explain_L23 (x1 : Int32) : XS → Nat → Nat → Int32 → Nat × Int32 × XS
  | U, 0, _, _ => (0, 0, U)
  | U, N23 + 1, i3, w2 => if (xa U) ≤ i3 then (0, (-1), U) else (if (X_contains (X_leaves (xod U i3) (X_answerTo (xod U i3) U) U) w2) = 0 then (0, X_pairOf (xod U i3) (X_answerTo (xod U i3) U), U) else (X_explain_L23 x1 U N23 (i3 + 1) w2))
theorem X_explain_L23_e (x1 : Int32) (U : XS) (N23 : Nat) (i3 : Nat) (w2 : Int32) : X_explain_L23 x1 U (N23 + 1) i3 w2 = if (xa U) ≤ i3 then (0, (-1), U) else (if (X_contains (X_leaves (xod U i3) (X_answerTo (xod U i3) U) U) w2) = 0 then (0, X_pairOf (xod U i3) (X_answerTo (xod U i3) U), U) else (X_explain_L23 x1 U N23 (i3 + 1) w2)) := rfl
def X_explain (x1 : Int32) (S : XS) : Nat × Int32 × XS := if (X_placeOf x1 S) = (-1) then (1, 0, S) else (X_explain_L23 x1 S (xa S + 1) 0 (X_placeOf x1 S))
theorem X_explain_e (x1 : Int32) (S : XS) : X_explain x1 S = if (X_placeOf x1 S) = (-1) then (1, 0, S) else (X_explain_L23 x1 S (xa S + 1) 0 (X_placeOf x1 S)) := rfl
def X_precedent (x1 : Int32) (x2 : Int32) (x3 : Int32) (x4 : Int32) (x5 : Int32) (x6 : Int32) (S : XS) : Nat × Int32 × XS := if x4 = (-1) then (if (X_isQuestion x2) = 0 then (1, 0, S) else (if (X_isAnswer x3) = 0 then (1, 0, S) else (if (X_isNumber x1) = 0 then (1, 0, S) else (if x6 < 0 then (1, 0, S) else (if x6 ≤ (nI 100000) then (if (xp S) < 20 then (0, nI ((xp S) + 1), xp_s (xpu_s (xp2_s (xp1_s (xpc_s S (upd (xpc S) (xp S) x1)) (upd (xp1 S) (xp S) (X_pairOf x2 x3))) (upd (xp2 S) (xp S) (-1))) (upd (xpu S) (xp S) x6)) ((xp S) + 1)) else (2, 0, S)) else (1, 0, S)))))) else (if (X_isQuestion x2) = 0 then (1, 0, S) else (if (X_isAnswer x3) = 0 then (1, 0, S) else (if (X_isQuestion x4) = 0 then (1, 0, S) else (if (X_isAnswer x5) = 0 then (1, 0, S) else (if x4 = x2 then (1, 0, S) else (if (X_isNumber x1) = 0 then (1, 0, S) else (if x6 < 0 then (1, 0, S) else (if x6 ≤ (nI 100000) then (if (xp S) < 20 then (0, nI ((xp S) + 1), xp_s (xpu_s (xp2_s (xp1_s (xpc_s S (upd (xpc S) (xp S) x1)) (upd (xp1 S) (xp S) (X_pairOf x2 x3))) (upd (xp2 S) (xp S) (X_pairOf x4 x5))) (upd (xpu S) (xp S) x6)) ((xp S) + 1)) else (2, 0, S)) else (1, 0, S)))))))))
theorem X_precedent_e (x1 : Int32) (x2 : Int32) (x3 : Int32) (x4 : Int32) (x5 : Int32) (x6 : Int32) (S : XS) : X_precedent x1 x2 x3 x4 x5 x6 S = if x4 = (-1) then (if (X_isQuestion x2) = 0 then (1, 0, S) else (if (X_isAnswer x3) = 0 then (1, 0, S) else (if (X_isNumber x1) = 0 then (1, 0, S) else (if x6 < 0 then (1, 0, S) else (if x6 ≤ (nI 100000) then (if (xp S) < 20 then (0, nI ((xp S) + 1), xp_s (xpu_s (xp2_s (xp1_s (xpc_s S (upd (xpc S) (xp S) x1)) (upd (xp1 S) (xp S) (X_pairOf x2 x3))) (upd (xp2 S) (xp S) (-1))) (upd (xpu S) (xp S) x6)) ((xp S) + 1)) else (2, 0, S)) else (1, 0, S)))))) else (if (X_isQuestion x2) = 0 then (1, 0, S) else (if (X_isAnswer x3) = 0 then (1, 0, S) else (if (X_isQuestion x4) = 0 then (1, 0, S) else (if (X_isAnswer x5) = 0 then (1, 0, S) else (if x4 = x2 then (1, 0, S) else (if (X_isNumber x1) = 0 then (1, 0, S) else (if x6 < 0 then (1, 0, S) else (if x6 ≤ (nI 100000) then (if (xp S) < 20 then (0, nI ((xp S) + 1), xp_s (xpu_s (xp2_s (xp1_s (xpc_s S (upd (xpc S) (xp S) x1)) (upd (xp1 S) (xp S) (X_pairOf x2 x3))) (upd (xp2 S) (xp S) (X_pairOf x4 x5))) (upd (xpu S) (xp S) x6)) ((xp S) + 1)) else (2, 0, S)) else (1, 0, S))))))))) := rfl
