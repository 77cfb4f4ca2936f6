/-! the methods as functions: written by program out of the bytecode (wip/whole/gen) -/
def s_X0_loseOldest_2 (N : Nat) (k70 : St → Option St) (rec : St → Int32 → Option St) (S : St) (x1 : Int32) : Option St :=
  if (10 : Int32) ≤ x1 then (k70 S) else (if (x1 < 0 ∨ 10 ≤ x1.toNatClampNeg) then none else if (x1 - (1 : Int32) < 0 ∨ 10 ≤ (x1 - (1 : Int32)).toNatClampNeg) then none else bnd (sA S 19 (upd (gA S 19) (x1 - (1 : Int32)).toNatClampNeg (gA S 19 x1.toNatClampNeg))) fun S4 => if (x1 < 0 ∨ 10 ≤ x1.toNatClampNeg) then none else if (x1 - (1 : Int32) < 0 ∨ 10 ≤ (x1 - (1 : Int32)).toNatClampNeg) then none else bnd (sA S4 20 (upd (gA S4 20) (x1 - (1 : Int32)).toNatClampNeg (gA S4 20 x1.toNatClampNeg))) fun S7 => if (x1 < 0 ∨ 10 ≤ x1.toNatClampNeg) then none else if (x1 - (1 : Int32) < 0 ∨ 10 ≤ (x1 - (1 : Int32)).toNatClampNeg) then none else bnd (sA S7 21 (upd (gA S7 21) (x1 - (1 : Int32)).toNatClampNeg (gA S7 21 x1.toNatClampNeg))) fun S10 => if (x1 < 0 ∨ 10 ≤ x1.toNatClampNeg) then none else if (x1 - (1 : Int32) < 0 ∨ 10 ≤ (x1 - (1 : Int32)).toNatClampNeg) then none else bnd (sA S10 22 (upd (gA S10 22) (x1 - (1 : Int32)).toNatClampNeg (gA S10 22 x1.toNatClampNeg))) fun S13 => rec S13 (x1 + (1 : Int32)))
def g_X0_loseOldest_2 (N : Nat) (k70 : St → Option St) : Nat → St → Int32 → Option St
  | 0, _, _ => none
  | n + 1, v0, v1 => s_X0_loseOldest_2 N k70 (g_X0_loseOldest_2 N k70 n) v0 v1
def f_X0_loseOldest (N : Nat) (S : St) : Option St :=
  g_X0_loseOldest_2 N (fun S14 => bnd (sI S14 18 4 (9 : Int32)) fun S15 => some S15) N S (1 : Int32)
def f_X7_yardOf (S : St) (i : Nat) (a1 : Int32) : Option Int32 :=
  if a1 < 0 then (some (0 : Int32)) else (if (3 : Int32) ≤ a1 then (some (0 : Int32)) else (if (a1 < 0 ∨ 3 ≤ a1.toNatClampNeg) then none else some (gA S (5 + 5 * i) a1.toNatClampNeg)))
def f_X7_beatsOf (S : St) (i : Nat) (a1 : Int32) : Option Int32 :=
  if a1 < 0 then (some (0 : Int32)) else (if (3 : Int32) ≤ a1 then (some (0 : Int32)) else (if (a1 < 0 ∨ 3 ≤ a1.toNatClampNeg) then none else some (gA S (6 + 5 * i) a1.toNatClampNeg)))
def f_X7_goodOf (S : St) (i : Nat) (a1 : Int32) : Option Int32 :=
  if a1 < 0 then (some (0 : Int32)) else (if (3 : Int32) ≤ a1 then (some (0 : Int32)) else (if (a1 < 0 ∨ 3 ≤ a1.toNatClampNeg) then none else some (gA S (7 + 5 * i) a1.toNatClampNeg)))
def f_X0_remember_13 (N : Nat) (j2 : Nat) (a1 : Int32) (S : St) : Option St :=
  if (gI S 18 4) < 0 then (some S) else (if (10 : Int32) ≤ (gI S 18 4) then (some S) else (if (gI S 18 4 < 0 ∨ 10 ≤ (gI S 18 4).toNatClampNeg) then none else bnd (sA S 19 (upd (gA S 19) (gI S 18 4).toNatClampNeg a1)) fun S5 => (f_X7_yardOf S5 j2 a1).bind fun r6 => if (gI S5 18 4 < 0 ∨ 10 ≤ (gI S5 18 4).toNatClampNeg) then none else bnd (sA S5 20 (upd (gA S5 20) (gI S5 18 4).toNatClampNeg r6)) fun S8 => (f_X7_beatsOf S8 j2 a1).bind fun r9 => if (gI S8 18 4 < 0 ∨ 10 ≤ (gI S8 18 4).toNatClampNeg) then none else bnd (sA S8 21 (upd (gA S8 21) (gI S8 18 4).toNatClampNeg r9)) fun S11 => (f_X7_goodOf S11 j2 a1).bind fun r12 => if (gI S11 18 4 < 0 ∨ 10 ≤ (gI S11 18 4).toNatClampNeg) then none else bnd (sA S11 22 (upd (gA S11 22) (gI S11 18 4).toNatClampNeg r12)) fun S14 => bnd (sI S14 18 4 ((gI S14 18 4) + (1 : Int32))) fun S15 => some S15))
def f_X0_remember (N : Nat) (S : St) (j2 : Nat) (a1 : Int32) : Option St :=
  if (gI S 18 4) < (10 : Int32) then (f_X0_remember_13 N j2 a1 S) else ((f_X0_loseOldest N S).bind fun r16 => f_X0_remember_13 N j2 a1 r16)
def f_X7_put (S : St) (i : Nat) (a1 : Int32) (a2 : Int32) (a3 : Int32) (a4 : Int32) : Option St :=
  if a1 < 0 then (some S) else (if (3 : Int32) ≤ a1 then (some S) else (if (3 : Int32) ≤ a1 then (some S) else (if (3 : Int32) ≤ a1 then (some S) else (if (a1 < 0 ∨ 3 ≤ a1.toNatClampNeg) then none else bnd (sA S (5 + 5 * i) (upd (gA S (5 + 5 * i)) a1.toNatClampNeg a2)) fun S6 => if (a1 < 0 ∨ 3 ≤ a1.toNatClampNeg) then none else bnd (sA S6 (6 + 5 * i) (upd (gA S6 (6 + 5 * i)) a1.toNatClampNeg a3)) fun S8 => if (a1 < 0 ∨ 3 ≤ a1.toNatClampNeg) then none else bnd (sA S8 (7 + 5 * i) (upd (gA S8 (7 + 5 * i)) a1.toNatClampNeg a4)) fun S10 => some S10))))
def f_X0_takeBackLast (S : St) (j1 : Nat) : Option St :=
  if (gI S 18 4) ≤ 0 then (some S) else (if (10 : Int32) < (gI S 18 4) then (some S) else (bnd (sI S 18 4 ((gI S 18 4) - (1 : Int32))) fun S3 => if (gI S3 18 4 < 0 ∨ 10 ≤ (gI S3 18 4).toNatClampNeg) then none else if (gI S3 18 4 < 0 ∨ 10 ≤ (gI S3 18 4).toNatClampNeg) then none else if (gI S3 18 4 < 0 ∨ 10 ≤ (gI S3 18 4).toNatClampNeg) then none else if (gI S3 18 4 < 0 ∨ 10 ≤ (gI S3 18 4).toNatClampNeg) then none else (f_X7_put S3 j1 (gA S3 19 (gI S3 18 4).toNatClampNeg) (gA S3 20 (gI S3 18 4).toNatClampNeg) (gA S3 21 (gI S3 18 4).toNatClampNeg) (gA S3 22 (gI S3 18 4).toNatClampNeg)).bind fun r8 => some r8))
def f_X9_quarters (a0 : Int32) (a1 : Int32) : Option Int32 :=
  some (a1 * a0)
def f_X9_isTurned (a0 : Int32) (a1 : Int32) : Option Int32 :=
  (f_X9_quarters a0 a1).bind fun r1 => if (r1 - r1 / (4 : Int32) * (4 : Int32)) = (2 : Int32) then (some (1 : Int32)) else (some (0 : Int32))
def s_X1_leastTurnOver_2 (N : Nat) (a0 : Int32) (rec : Int32 → Option Int32) (x1 : Int32) : Option Int32 :=
  if (7 : Int32) < x1 then (some x1) else ((f_X9_isTurned a0 x1).bind fun r2 => if r2 = 0 then (rec (x1 + (1 : Int32))) else (some x1))
def g_X1_leastTurnOver_2 (N : Nat) (a0 : Int32) : Nat → Int32 → Option Int32
  | 0, _ => none
  | n + 1, v0 => s_X1_leastTurnOver_2 N a0 (g_X1_leastTurnOver_2 N a0 n) v0
def f_X1_leastTurnOver (N : Nat) (a0 : Int32) : Option Int32 :=
  g_X1_leastTurnOver_2 N a0 N (0 : Int32)
def f_X9_beatsInAir (a0 : Int32) : Option Int32 :=
  some ((2 : Int32) * a0)
def f_X3_paceOf (S : St) (i : Nat) (a1 : Int32) : Option Int32 :=
  if a1 < 0 then (some (0 : Int32)) else (if (3 : Int32) ≤ a1 then (some (0 : Int32)) else (if (a1 < 0 ∨ 3 ≤ a1.toNatClampNeg) then none else some (gA S (36 + 5 * i) a1.toNatClampNeg)))
def f_X3_yardOnRun (S : St) (i : Nat) (a1 : Int32) (a2 : Int32) (a3 : Int32) : Option Int32 :=
  (f_X3_paceOf S i a1).bind fun r1 => some (if (a2 + (r1 * a3)) < (gI S (33 + 5 * i) 4) then (a2 + (r1 * a3)) else (gI S (33 + 5 * i) 4))
def f_X3_yardAfter (S : St) (i : Nat) (a1 : Int32) (a2 : Int32) (a3 : Int32) (a4 : Int32) : Option Int32 :=
  if a4 = (1 : Int32) then ((f_X9_beatsInAir a3).bind fun r2 => (f_X3_yardOnRun S i a1 a2 r2).bind fun r3 => some r3) else (some a2)
def f_X3_windAt (S : St) (i : Nat) (a1 : Int32) : Option Int32 :=
  if a1 < 0 then (some (0 : Int32)) else (if (24 : Int32) ≤ a1 then (some (0 : Int32)) else (if (a1 < 0 ∨ 24 ≤ a1.toNatClampNeg) then none else some (gA S (34 + 5 * i) a1.toNatClampNeg)))
def f_X3_comesDown (S : St) (i : Nat) (a1 : Int32) (a2 : Int32) (a3 : Int32) : Option Int32 :=
  (f_X3_windAt S i a1).bind fun r1 => some ((a1 + a3) - (a2 * r1))
def f_X3_panOf (S : St) (i : Nat) (a1 : Int32) : Option Int32 :=
  if a1 < 0 then (some (0 : Int32)) else (if (3 : Int32) ≤ a1 then (some (0 : Int32)) else (if (a1 < 0 ∨ 3 ≤ a1.toNatClampNeg) then none else some (gA S (37 + 5 * i) a1.toNatClampNeg)))
def f_X3_isYard (S : St) (i : Nat) (a1 : Int32) : Option Int32 :=
  if a1 < 0 then (some (0 : Int32)) else (if (gI S (33 + 5 * i) 4) ≤ a1 then (some (0 : Int32)) else (some (1 : Int32)))
def f_X3_isWet (S : St) (i : Nat) (a1 : Int32) : Option Int32 :=
  (f_X3_isYard S i a1).bind fun r1 => if r1 = 0 then (some (0 : Int32)) else (if (24 : Int32) ≤ a1 then (some (0 : Int32)) else (if (a1 < 0 ∨ 24 ≤ a1.toNatClampNeg) then none else if (gA S (35 + 5 * i) a1.toNatClampNeg) = 0 then (some (0 : Int32)) else (some (1 : Int32))))
def f_X3_catchOf_67 (S : St) (i : Nat) (x9 : Int32) : Option Int32 :=
  some (if (0 : Int32) < (if x9 < (10 : Int32) then x9 else (10 : Int32)) then (if x9 < (10 : Int32) then x9 else (10 : Int32)) else (0 : Int32))
def f_X3_catchOf_55 (S : St) (i : Nat) (x7 : Int32) (x9 : Int32) : Option Int32 :=
  (f_X3_isWet S i x7).bind fun r8 => if r8 = 0 then (f_X3_catchOf_67 S i x9) else (f_X3_catchOf_67 S i (x9 + (-2 : Int32)))
def f_X3_catchOf (S : St) (i : Nat) (a1 : Int32) (a2 : Int32) (a3 : Int32) (a4 : Int32) (a5 : Int32) (a6 : Int32) : Option Int32 :=
  (f_X3_yardAfter S i a1 a2 a3 a6).bind fun r1 => (f_X3_comesDown S i a2 a3 a4).bind fun r2 => bnd (if 0 ≤ (r2 - r1) then (r2 - r1) else 0 - (r2 - r1)) fun b3 => (f_X3_panOf S i a1).bind fun r4 => bnd ((r4 + (3 : Int32)) - ((3 : Int32) * b3)) fun b5 => (f_X9_quarters a3 a5).bind fun r6 => if (r6 - r6 / (2 : Int32) * (2 : Int32)) = 0 then (f_X3_catchOf_55 S i r1 b5) else (f_X3_catchOf_55 S i r1 (b5 + (-2 : Int32)))
def s_X1_find_27 (N : Nat) (j1 : Nat) (a2 : Int32) (a3 : Int32) (a4 : Int32) (k96 : St → Int32 → Option St) (rec : St → Int32 → Int32 → Int32 → Option St) (S : St) (x5 : Int32) (x6 : Int32) (x7 : Int32) : Option St :=
  if (7 : Int32) < x6 then (k96 S x5) else (if (9 : Int32) < x7 then (k96 S x5) else ((f_X3_catchOf S j1 a2 a3 x5 x7 x6 a4).bind fun r7 => if r7 ≤ (gI S 26 0) then (rec S x5 x6 (x7 + (1 : Int32))) else (bnd (sI S 26 0 r7) fun S9 => bnd (sI S9 26 1 x5) fun S10 => bnd (sI S10 26 2 x7) fun S11 => bnd (sI S11 26 3 x6) fun S12 => rec S12 x5 x6 (x7 + (1 : Int32)))))
def g_X1_find_27 (N : Nat) (j1 : Nat) (a2 : Int32) (a3 : Int32) (a4 : Int32) (k96 : St → Int32 → Option St) : Nat → St → Int32 → Int32 → Int32 → Option St
  | 0, _, _, _, _ => none
  | n + 1, v0, v1, v2, v3 => s_X1_find_27 N j1 a2 a3 a4 k96 (g_X1_find_27 N j1 a2 a3 a4 k96 n) v0 v1 v2 v3
def s_X1_find_11 (N : Nat) (j1 : Nat) (a2 : Int32) (a3 : Int32) (a4 : Int32) (rec : St → Int32 → Option St) (S : St) (x5 : Int32) : Option St :=
  if (4 : Int32) < x5 then (some S) else ((f_X1_leastTurnOver N x5).bind fun r4 => g_X1_find_27 N j1 a2 a3 a4 (fun S14 y13 => rec S14 (y13 + (1 : Int32))) N S x5 r4 (0 : Int32))
def g_X1_find_11 (N : Nat) (j1 : Nat) (a2 : Int32) (a3 : Int32) (a4 : Int32) : Nat → St → Int32 → Option St
  | 0, _, _ => none
  | n + 1, v0, v1 => s_X1_find_11 N j1 a2 a3 a4 (g_X1_find_11 N j1 a2 a3 a4 n) v0 v1
def f_X1_find (N : Nat) (S : St) (j1 : Nat) (a2 : Int32) (a3 : Int32) (a4 : Int32) : Option St :=
  bnd (sI S 26 0 (-1 : Int32)) fun S1 => bnd (gI S1 (33 + 5 * j1) 6) fun b2 => g_X1_find_11 N j1 a2 a3 a4 N S1 b2
def f_X1_number (S : St) : Option Int32 :=
  some ((((100 : Int32) * (gI S 26 1)) + ((10 : Int32) * (gI S 26 2))) + (gI S 26 3))
def s_X3_begin_2 (N : Nat) (i : Nat) (k40 : St → Option St) (rec : St → Int32 → Option St) (S : St) (x1 : Int32) : Option St :=
  if (24 : Int32) ≤ x1 then (k40 S) else (if (24 : Int32) ≤ x1 then (k40 S) else (if (x1 < 0 ∨ 24 ≤ x1.toNatClampNeg) then none else bnd (sA S (34 + 5 * i) (upd (gA S (34 + 5 * i)) x1.toNatClampNeg (0 : Int32))) fun S4 => if (x1 < 0 ∨ 24 ≤ x1.toNatClampNeg) then none else bnd (sA S4 (35 + 5 * i) (upd (gA S4 (35 + 5 * i)) x1.toNatClampNeg (0 : Int32))) fun S6 => rec S6 (x1 + (1 : Int32))))
def g_X3_begin_2 (N : Nat) (i : Nat) (k40 : St → Option St) : Nat → St → Int32 → Option St
  | 0, _, _ => none
  | n + 1, v0, v1 => s_X3_begin_2 N i k40 (g_X3_begin_2 N i k40 n) v0 v1
def f_X3_begin_40 (N : Nat) (i : Nat) (S : St) : Option St :=
  bnd (sI S (33 + 5 * i) 4 (12 : Int32)) fun S8 => bnd (sI S8 (33 + 5 * i) 5 (0 : Int32)) fun S9 => bnd (sI S9 (33 + 5 * i) 6 (2 : Int32)) fun S10 => bnd (sI S10 (33 + 5 * i) 7 (3 : Int32)) fun S11 => bnd (sI S11 (33 + 5 * i) 8 (3 : Int32)) fun S12 => some S12
def f_X3_begin (N : Nat) (S : St) (i : Nat) : Option St :=
  g_X3_begin_2 N i (fun S7 => f_X3_begin_40 N i S7) N S (0 : Int32)
def f_X3_setWind (S : St) (i : Nat) (a1 : Int32) (a2 : Int32) : Option St :=
  if a1 < 0 then (some S) else (if (24 : Int32) ≤ a1 then (some S) else (if (a1 < 0 ∨ 24 ≤ a1.toNatClampNeg) then none else bnd (sA S (34 + 5 * i) (upd (gA S (34 + 5 * i)) a1.toNatClampNeg a2)) fun S4 => some S4))
def f_X3_setWet (S : St) (i : Nat) (a1 : Int32) : Option St :=
  if a1 < 0 then (some S) else (if (24 : Int32) ≤ a1 then (some S) else (if (a1 < 0 ∨ 24 ≤ a1.toNatClampNeg) then none else bnd (sA S (35 + 5 * i) (upd (gA S (35 + 5 * i)) a1.toNatClampNeg (1 : Int32))) fun S4 => some S4))
def f_X3_addRunner (S : St) (i : Nat) (a1 : Int32) (a2 : Int32) : Option St :=
  if (gI S (33 + 5 * i) 5) < 0 then (some S) else (if (3 : Int32) ≤ (gI S (33 + 5 * i) 5) then (some S) else (if (3 : Int32) ≤ (gI S (33 + 5 * i) 5) then (some S) else (if (gI S (33 + 5 * i) 5 < 0 ∨ 3 ≤ (gI S (33 + 5 * i) 5).toNatClampNeg) then none else bnd (sA S (36 + 5 * i) (upd (gA S (36 + 5 * i)) (gI S (33 + 5 * i) 5).toNatClampNeg a1)) fun S5 => if (gI S5 (33 + 5 * i) 5 < 0 ∨ 3 ≤ (gI S5 (33 + 5 * i) 5).toNatClampNeg) then none else bnd (sA S5 (37 + 5 * i) (upd (gA S5 (37 + 5 * i)) (gI S5 (33 + 5 * i) 5).toNatClampNeg a2)) fun S7 => bnd (sI S7 (33 + 5 * i) 5 ((gI S7 (33 + 5 * i) 5) + (1 : Int32))) fun S8 => some S8)))
def f_X3_isRunner (S : St) (i : Nat) (a1 : Int32) : Option Int32 :=
  if a1 < 0 then (some (0 : Int32)) else (if (gI S (33 + 5 * i) 5) ≤ a1 then (some (0 : Int32)) else (some (1 : Int32)))
def f_X4_placeOf (a0 : Int32) (a1 : Int32) (a2 : Int32) : Option Int32 :=
  if a0 < 0 then (some (-1 : Int32)) else (if (24 : Int32) < a0 then (some (-1 : Int32)) else (if a1 < 0 then (some (-1 : Int32)) else (if (24 : Int32) < a1 then (some (-1 : Int32)) else (if a2 < 0 then (some (-1 : Int32)) else (if a2 ≤ (4 : Int32) then (some ((((a0 * (25 : Int32)) + a1) * (5 : Int32)) + a2)) else (some (-1 : Int32)))))))
def f_X4_chance (S : St) (a1 : Int32) (a2 : Int32) (a3 : Int32) : Option Int64 :=
  (f_X4_placeOf a1 a2 a3).bind fun r1 => if r1 < 0 then (some (0 : Int64)) else (if (3125 : Int32) ≤ r1 then (some (0 : Int64)) else (if (r1 < 0 ∨ 3125 ≤ r1.toNatClampNeg) then none else some (gB S 28 r1.toNatClampNeg)))
def f_X4_chanceByToss (S : St) (j1 : Nat) (a2 : Int32) (a3 : Int32) (a4 : Int32) (a5 : Int32) : Option Int64 :=
  (f_X4_chance S a3 a2 (if (0 : Int32) < (a4 - (1 : Int32)) then (a4 - (1 : Int32)) else (0 : Int32))).bind fun r1 => (f_X4_chance S (a3 - (gI S (33 + 5 * j1) 8)) a2 a4).bind fun r2 => some ((((a5.toInt64) * r1) + ((((10 : Int32) - a5).toInt64) * r2)) / (10 : Int64))
def f_X4_bestChance_21 (S : St) (j1 : Nat) (a5 : Int32) (_u : Unit) : Option Int64 :=
  if a5 = 0 then (some (1000000000000 : Int64)) else (some (0 : Int64))
def f_X4_bestChance (S : St) (j1 : Nat) (a2 : Int32) (a3 : Int32) (a4 : Int32) (a5 : Int32) : Option Int64 :=
  if a4 < 0 then (f_X4_bestChance_21 S j1 a5 ()) else (if (gI S (33 + 5 * j1) 4) ≤ a4 then (f_X4_bestChance_21 S j1 a5 ()) else (if a4 < (24 : Int32) then ((f_X3_yardOnRun S j1 a2 a4 (1 : Int32)).bind fun r5 => (f_X4_chance S (a3 - (1 : Int32)) r5 a5).bind fun r6 => if (a4 < 0 ∨ 24 ≤ a4.toNatClampNeg) then none else (f_X9_beatsInAir (gA S 31 a4.toNatClampNeg)).bind fun r8 => if (a4 < 0 ∨ 24 ≤ a4.toNatClampNeg) then none else (f_X4_chanceByToss S j1 a4 (a3 - r8) a5 (gA S 29 a4.toNatClampNeg)).bind fun r10 => if (a4 < 0 ∨ 24 ≤ a4.toNatClampNeg) then none else (f_X3_yardAfter S j1 a2 a4 (gA S 32 a4.toNatClampNeg) (1 : Int32)).bind fun r12 => if (a4 < 0 ∨ 24 ≤ a4.toNatClampNeg) then none else (f_X9_beatsInAir (gA S 32 a4.toNatClampNeg)).bind fun r14 => if (a4 < 0 ∨ 24 ≤ a4.toNatClampNeg) then none else (f_X4_chanceByToss S j1 r12 (a3 - r14) a5 (gA S 30 a4.toNatClampNeg)).bind fun r16 => some (if (if r16 < r10 then r10 else r16) < r6 then r6 else (if r16 < r10 then r10 else r16))) else (f_X4_bestChance_21 S j1 a5 ())))
def f_X4_setChance (S : St) (a1 : Int32) (a2 : Int32) (a3 : Int32) (a4 : Int64) : Option St :=
  (f_X4_placeOf a1 a2 a3).bind fun r1 => if r1 < 0 then (some S) else (if (3125 : Int32) ≤ r1 then (some S) else (if (r1 < 0 ∨ 3125 ≤ r1.toNatClampNeg) then none else bnd (sB S 28 (vp_updL (gB S 28) r1.toNatClampNeg a4)) fun S5 => some S5))
def s_X4_fill_3 (N : Nat) (j1 : Nat) (a2 : Int32) (k87 : St → Option St) (rec : St → Int32 → Option St) (S : St) (x4 : Int32) : Option St :=
  if (gI S (33 + 5 * j1) 4) ≤ x4 then (k87 S) else (if (24 : Int32) ≤ x4 then (k87 S) else ((f_X1_find N S j1 a2 x4 (0 : Int32)).bind fun r3 => if (x4 < 0 ∨ 24 ≤ x4.toNatClampNeg) then none else bnd (sA r3 29 (upd (gA r3 29) x4.toNatClampNeg (gI r3 26 0))) fun S5 => if (x4 < 0 ∨ 24 ≤ x4.toNatClampNeg) then none else bnd (sA S5 31 (upd (gA S5 31) x4.toNatClampNeg (gI S5 26 1))) fun S7 => (f_X1_find N S7 j1 a2 x4 (1 : Int32)).bind fun r8 => if (x4 < 0 ∨ 24 ≤ x4.toNatClampNeg) then none else bnd (sA r8 30 (upd (gA r8 30) x4.toNatClampNeg (gI r8 26 0))) fun S10 => if (x4 < 0 ∨ 24 ≤ x4.toNatClampNeg) then none else bnd (sA S10 32 (upd (gA S10 32) x4.toNatClampNeg (gI S10 26 1))) fun S12 => rec S12 (x4 + (1 : Int32))))
def g_X4_fill_3 (N : Nat) (j1 : Nat) (a2 : Int32) (k87 : St → Option St) : Nat → St → Int32 → Option St
  | 0, _, _ => none
  | n + 1, v0, v1 => s_X4_fill_3 N j1 a2 k87 (g_X4_fill_3 N j1 a2 k87 n) v0 v1
def s_X4_fill_112 (N : Nat) (j1 : Nat) (a2 : Int32) (k149 : St → Int32 → Int32 → Option St) (rec : St → Int32 → Int32 → Int32 → Option St) (S : St) (x4 : Int32) (x5 : Int32) (x6 : Int32) : Option St :=
  if (gI S (33 + 5 * j1) 7) < x6 then (k149 S x4 x5) else ((f_X4_bestChance S j1 a2 x4 x5 x6).bind fun r17 => (f_X4_setChance S x4 x5 x6 r17).bind fun r18 => rec r18 x4 x5 (x6 + (1 : Int32)))
def g_X4_fill_112 (N : Nat) (j1 : Nat) (a2 : Int32) (k149 : St → Int32 → Int32 → Option St) : Nat → St → Int32 → Int32 → Int32 → Option St
  | 0, _, _, _, _ => none
  | n + 1, v0, v1, v2, v3 => s_X4_fill_112 N j1 a2 k149 (g_X4_fill_112 N j1 a2 k149 n) v0 v1 v2 v3
def s_X4_fill_100 (N : Nat) (j1 : Nat) (a2 : Int32) (k155 : St → Int32 → Option St) (rec : St → Int32 → Int32 → Option St) (S : St) (x4 : Int32) (x5 : Int32) : Option St :=
  if (gI S (33 + 5 * j1) 4) < x5 then (k155 S x4) else (g_X4_fill_112 N j1 a2 (fun S21 y19 y20 => rec S21 y19 (y20 + (1 : Int32))) N S x4 x5 (0 : Int32))
def g_X4_fill_100 (N : Nat) (j1 : Nat) (a2 : Int32) (k155 : St → Int32 → Option St) : Nat → St → Int32 → Int32 → Option St
  | 0, _, _, _ => none
  | n + 1, v0, v1, v2 => s_X4_fill_100 N j1 a2 k155 (g_X4_fill_100 N j1 a2 k155 n) v0 v1 v2
def s_X4_fill_90 (N : Nat) (j1 : Nat) (a2 : Int32) (rec : St → Int32 → Option St) (S : St) (x4 : Int32) : Option St :=
  if (24 : Int32) < x4 then (some S) else (g_X4_fill_100 N j1 a2 (fun S23 y22 => rec S23 (y22 + (1 : Int32))) N S x4 (0 : Int32))
def g_X4_fill_90 (N : Nat) (j1 : Nat) (a2 : Int32) : Nat → St → Int32 → Option St
  | 0, _, _ => none
  | n + 1, v0, v1 => s_X4_fill_90 N j1 a2 (g_X4_fill_90 N j1 a2 n) v0 v1
def f_X4_fill_87 (N : Nat) (j1 : Nat) (a2 : Int32) (S : St) : Option St :=
  g_X4_fill_90 N j1 a2 N S (0 : Int32)
def f_X4_fill (N : Nat) (S : St) (j1 : Nat) (a2 : Int32) : Option St :=
  g_X4_fill_3 N j1 a2 (fun S13 => f_X4_fill_87 N j1 a2 S13) N S (0 : Int32)
def f_X5_append (S : St) (a1 : Int32) (a2 : Int32) : Option St :=
  if (gI S 23 2) < 0 then (some S) else (if (6 : Int32) ≤ (gI S 23 2) then (some S) else (if (gI S 23 2 < 0 ∨ 6 ≤ (gI S 23 2).toNatClampNeg) then none else bnd (sA S 24 (upd (gA S 24) (gI S 23 2).toNatClampNeg a1)) fun S4 => if (gI S4 23 2 < 0 ∨ 6 ≤ (gI S4 23 2).toNatClampNeg) then none else bnd (sA S4 25 (upd (gA S4 25) (gI S4 23 2).toNatClampNeg a2)) fun S6 => bnd (sI S6 23 2 ((gI S6 23 2) + (1 : Int32))) fun S7 => some S7))
def f_X5_allow_34 (N : Nat) (S : St) (a1 : Int32) (a2 : Int32) (rec : Int32 → Option Int32) (x3 : Int32) (t0 : Int32) : Option Int32 :=
  if t0 = 0 then (some (0 : Int32)) else (if (x3 < 0 ∨ 6 ≤ x3.toNatClampNeg) then none else if (x3 < 0 ∨ 6 ≤ x3.toNatClampNeg) then none else if (((a2 * (gA S 24 x3.toNatClampNeg)) / (2 : Int32)) - ((a2 * (gA S 24 x3.toNatClampNeg)) / (2 : Int32)) / (4 : Int32) * (4 : Int32)) = (gA S 25 x3.toNatClampNeg) then (rec (x3 + (1 : Int32))) else (some (0 : Int32)))
def s_X5_allow_2 (N : Nat) (S : St) (a1 : Int32) (a2 : Int32) (rec : Int32 → Option Int32) (x3 : Int32) : Option Int32 :=
  if (gI S 23 2) ≤ x3 then (some (1 : Int32)) else (if (6 : Int32) ≤ x3 then (some (1 : Int32)) else (if (x3 < 0 ∨ 6 ≤ x3.toNatClampNeg) then none else (f_X9_beatsInAir a1).bind fun r4 => if r4 ≤ (gA S 24 x3.toNatClampNeg) then (f_X5_allow_34 N S a1 a2 rec x3 (0 : Int32)) else (f_X5_allow_34 N S a1 a2 rec x3 (1 : Int32))))
def g_X5_allow_2 (N : Nat) (S : St) (a1 : Int32) (a2 : Int32) : Nat → Int32 → Option Int32
  | 0, _ => none
  | n + 1, v0 => s_X5_allow_2 N S a1 a2 (g_X5_allow_2 N S a1 a2 n) v0
def f_X5_allow (N : Nat) (S : St) (a1 : Int32) (a2 : Int32) : Option Int32 :=
  g_X5_allow_2 N S a1 a2 N (0 : Int32)
def f_X8_byteAt (S : St) (a1 : Int32) : Option Int32 :=
  if a1 < 0 then (some (0 : Int32)) else (if (gI S 1 1) ≤ a1 then (some (0 : Int32)) else (if (300 : Int32) ≤ a1 then (some (0 : Int32)) else (if (a1 < 0 ∨ 300 ≤ a1.toNatClampNeg) then none else some (gA S 2 a1.toNatClampNeg))))
def s_X6_skipBlanks_0 (N : Nat) (rec : St → Option St) (S : St) : Option St :=
  if (gI S 1 1) ≤ (gI S 3 1) then (some S) else ((f_X8_byteAt S (gI S 3 1)).bind fun r2 => if r2 = (32 : Int32) then (bnd (sI S 3 1 ((gI S 3 1) + (1 : Int32))) fun S4 => rec S4) else (some S))
def g_X6_skipBlanks_0 (N : Nat) : Nat → St → Option St
  | 0, _ => none
  | n + 1, v0 => s_X6_skipBlanks_0 N (g_X6_skipBlanks_0 N n) v0
def f_X6_skipBlanks (N : Nat) (S : St) : Option St :=
  g_X6_skipBlanks_0 N N S
def f_X6_isLetter (a0 : Int32) : Option Int32 :=
  if a0 < (97 : Int32) then (some (0 : Int32)) else (if (122 : Int32) < a0 then (some (0 : Int32)) else (some (1 : Int32)))
def f_J0_coder_7d493 (S : St) (t : Nat) : Option Int32 :=
  if (1 : Int32) = 0 then (some (1 : Int32)) else (some (0 : Int32))
def f_J0_length_8abf5 (S : St) (t : Nat) : Option Int32 :=
  (f_J0_coder_7d493 S t).bind fun r1 => some ((Int32.ofNat (txL.getD t 0)) >>> (r1 &&& 31))
def f_J0_isLatin1_aae02 (S : St) (t : Nat) : Option Int32 :=
  if (1 : Int32) = 0 then (some (0 : Int32)) else (if (0 : Int32) = 0 then (some (1 : Int32)) else (some (0 : Int32)))
def f_J3_checkIndex_8e157_9 (a0 : Int32) (a1 : Int32) (_u : Unit) : Option Int32 :=
  none
def f_J3_checkIndex_8e157 (a0 : Int32) (a1 : Int32) : Option Int32 :=
  if a0 < 0 then (f_J3_checkIndex_8e157_9 a0 a1 ()) else (if a0 < a1 then (some a0) else (f_J3_checkIndex_8e157_9 a0 a1 ()))
def f_J0_checkIndex_df160 (a0 : Int32) (a1 : Int32) : Option Unit :=
  (f_J3_checkIndex_8e157 a0 a1).bind fun r1 => some ()
def f_J1_charAt_3b067 (S : St) (t0 : Nat) (a1 : Int32) : Option Int32 :=
  (f_J0_checkIndex_df160 a1 (Int32.ofNat (txL.getD t0 0))).bind fun r1 => if (a1 < 0 ∨ txL.getD t0 0 ≤ a1.toNatClampNeg) then none else if ¬ (((((txB.getD t0 []).getD a1.toNatClampNeg 0) &&& (255 : Int32)).toUInt32.toUInt16.toUInt32.toInt32).toUInt32.toUInt16.toUInt32.toInt32 = ((((txB.getD t0 []).getD a1.toNatClampNeg 0) &&& (255 : Int32)).toUInt32.toUInt16.toUInt32.toInt32)) then none else some ((((txB.getD t0 []).getD a1.toNatClampNeg 0) &&& (255 : Int32)).toUInt32.toUInt16.toUInt32.toInt32)
def f_J0_charAt_5068e (S : St) (t : Nat) (a1 : Int32) : Option Int32 :=
  (f_J0_isLatin1_aae02 S t).bind fun r1 => if r1 = 0 then (none) else ((f_J1_charAt_3b067 S t a1).bind fun r3 => if ¬ (r3.toUInt32.toUInt16.toUInt32.toInt32 = r3) then none else some r3)
def s_X8_holds_28 (N : Nat) (S : St) (t1 : Nat) (a2 : Int32) (rec : Int32 → Option Int32) (x4 : Int32) : Option Int32 :=
  (f_J0_length_8abf5 S t1).bind fun r5 => if r5 ≤ x4 then (some (1 : Int32)) else (if (a2 + x4 < 0 ∨ 300 ≤ (a2 + x4).toNatClampNeg) then none else (f_J0_charAt_5068e S t1 x4).bind fun r8 => if (gA S 2 (a2 + x4).toNatClampNeg) = r8 then (rec (x4 + (1 : Int32))) else (some (0 : Int32)))
def g_X8_holds_28 (N : Nat) (S : St) (t1 : Nat) (a2 : Int32) : Nat → Int32 → Option Int32
  | 0, _ => none
  | n + 1, v0 => s_X8_holds_28 N S t1 a2 (g_X8_holds_28 N S t1 a2 n) v0
def f_X8_holds (N : Nat) (S : St) (t1 : Nat) (a2 : Int32) (a3 : Int32) : Option Int32 :=
  if a2 < 0 then (some (0 : Int32)) else (if (300 : Int32) < a3 then (some (0 : Int32)) else ((f_J0_length_8abf5 S t1).bind fun r3 => if (a3 - a2) = r3 then (g_X8_holds_28 N S t1 a2 N (0 : Int32)) else (some (0 : Int32))))
def s_X6_readWord_0 (N : Nat) (k44 : St → Option St) (rec : St → Option St) (S : St) : Option St :=
  if (gI S 1 1) ≤ (gI S 3 1) then (k44 S) else ((f_X8_byteAt S (gI S 3 1)).bind fun r2 => (f_X6_isLetter r2).bind fun r3 => if r3 = 0 then (k44 S) else (bnd (sI S 3 1 ((gI S 3 1) + (1 : Int32))) fun S5 => rec S5))
def g_X6_readWord_0 (N : Nat) (k44 : St → Option St) : Nat → St → Option St
  | 0, _ => none
  | n + 1, v0 => s_X6_readWord_0 N k44 (g_X6_readWord_0 N k44 n) v0
def f_X6_readWord_44 (N : Nat) (S : St) : Option St :=
  (f_X8_holds N S 0 (gI S 3 2) (gI S 3 1)).bind fun r7 => if r7 = 0 then ((f_X8_holds N S 1 (gI S 3 2) (gI S 3 1)).bind fun r9 => if r9 = 0 then ((f_X8_holds N S 2 (gI S 3 2) (gI S 3 1)).bind fun r11 => if r11 = 0 then ((f_X8_holds N S 3 (gI S 3 2) (gI S 3 1)).bind fun r13 => if r13 = 0 then ((f_X8_holds N S 4 (gI S 3 2) (gI S 3 1)).bind fun r15 => if r15 = 0 then ((f_X8_holds N S 5 (gI S 3 2) (gI S 3 1)).bind fun r17 => if r17 = 0 then ((f_X8_holds N S 6 (gI S 3 2) (gI S 3 1)).bind fun r19 => if r19 = 0 then (bnd (sI S 3 3 (10 : Int32)) fun S21 => some S21) else (bnd (sI S 3 3 (7 : Int32)) fun S22 => some S22)) else (bnd (sI S 3 3 (6 : Int32)) fun S23 => some S23)) else (bnd (sI S 3 3 (5 : Int32)) fun S24 => some S24)) else (bnd (sI S 3 3 (4 : Int32)) fun S25 => some S25)) else (bnd (sI S 3 3 (3 : Int32)) fun S26 => some S26)) else (bnd (sI S 3 3 (2 : Int32)) fun S27 => some S27)) else (bnd (sI S 3 3 (1 : Int32)) fun S28 => some S28)
def f_X6_readWord (N : Nat) (S : St) : Option St :=
  g_X6_readWord_0 N (fun S6 => f_X6_readWord_44 N S6) N S
def f_X6_isDigit (a0 : Int32) : Option Int32 :=
  if a0 < (48 : Int32) then (some (0 : Int32)) else (if (57 : Int32) < a0 then (some (0 : Int32)) else (some (1 : Int32)))
def s_X6_readDigits_5 (N : Nat) (k80 : St → Option St) (rec : St → Option St) (S : St) : Option St :=
  if (gI S 1 1) ≤ (gI S 3 1) then (k80 S) else ((f_X8_byteAt S (gI S 3 1)).bind fun r3 => (f_X6_isDigit r3).bind fun r4 => if r4 = 0 then (k80 S) else ((f_X8_byteAt S (gI S 3 1)).bind fun r6 => bnd (sI S 3 4 (if ((((gI S 3 4) * (10 : Int32)) + r6) - (48 : Int32)) < (100 : Int32) then ((((gI S 3 4) * (10 : Int32)) + r6) - (48 : Int32)) else (100 : Int32))) fun S7 => bnd (sI S7 3 1 ((gI S7 3 1) + (1 : Int32))) fun S8 => rec S8))
def g_X6_readDigits_5 (N : Nat) (k80 : St → Option St) : Nat → St → Option St
  | 0, _ => none
  | n + 1, v0 => s_X6_readDigits_5 N k80 (g_X6_readDigits_5 N k80 n) v0
def f_X6_readDigits_136 (N : Nat) (S : St) (t1 : Int32) : Option St :=
  bnd (sI S 3 3 t1) fun S13 => some S13
def f_X6_readDigits_129 (N : Nat) (S : St) : Option St :=
  f_X6_readDigits_136 N S (10 : Int32)
def f_X6_readDigits_114 (N : Nat) (S : St) (t0 : Int32) : Option St :=
  if t0 = 0 then (if (gI S 3 4) ≤ (99 : Int32) then (f_X6_readDigits_136 N S (8 : Int32)) else (f_X6_readDigits_129 N S)) else (f_X6_readDigits_129 N S)
def f_X6_readDigits_113 (N : Nat) (S : St) : Option St :=
  f_X6_readDigits_114 N S (0 : Int32)
def f_X6_readDigits_80 (N : Nat) (S : St) : Option St :=
  (f_X8_byteAt S (gI S 3 2)).bind fun r10 => if r10 = (48 : Int32) then (if ((gI S 3 1) - (gI S 3 2)) ≤ (1 : Int32) then (f_X6_readDigits_113 N S) else (f_X6_readDigits_114 N S (1 : Int32))) else (f_X6_readDigits_113 N S)
def f_X6_readDigits (N : Nat) (S : St) : Option St :=
  bnd (sI S 3 4 (0 : Int32)) fun S1 => g_X6_readDigits_5 N (fun S9 => f_X6_readDigits_80 N S9) N S1
def f_X6_readToken_96 (N : Nat) (S : St) (t1 : Int32) : Option St :=
  bnd (sI S 3 3 t1) fun S11 => some S11
def f_X6_readToken (N : Nat) (S : St) : Option St :=
  (f_X6_skipBlanks N S).bind fun r1 => bnd (sI r1 3 2 (gI r1 3 1)) fun S2 => if (gI S2 3 1) < (gI S2 1 1) then ((f_X8_byteAt S2 (gI S2 3 1)).bind fun r4 => (f_X6_isLetter r4).bind fun r5 => if r5 = 0 then ((f_X6_isDigit r4).bind fun r7 => if r7 = 0 then (bnd (sI S2 3 1 ((gI S2 3 1) + (1 : Int32))) fun S9 => if r4 = (59 : Int32) then (f_X6_readToken_96 N S9 (9 : Int32)) else (f_X6_readToken_96 N S9 (10 : Int32))) else ((f_X6_readDigits N S2).bind fun r12 => some r12)) else ((f_X6_readWord N S2).bind fun r13 => some r13)) else (bnd (sI S2 3 3 (0 : Int32)) fun S14 => some S14)
def f_X6_mayBegin (S : St) (j1 : Nat) (a2 : Int32) : Option Int32 :=
  if (gI S 3 3) = (1 : Int32) then (if a2 = 0 then (some (1 : Int32)) else (some (0 : Int32))) else if (gI S 3 3) = (2 : Int32) then (some (1 : Int32)) else if (gI S 3 3) = (3 : Int32) then (some (1 : Int32)) else if (gI S 3 3) = (4 : Int32) then (if (3 : Int32) ≤ (gI S (33 + 5 * j1) 5) then (some (0 : Int32)) else (some (1 : Int32))) else if (gI S 3 3) = (5 : Int32) then (if ((gI S 3 5) &&& ((1 : Int32) <<< ((gI S 3 3) &&& 31))) = 0 then (some (1 : Int32)) else (some (0 : Int32))) else if (gI S 3 3) = (6 : Int32) then (if ((gI S 3 5) &&& ((1 : Int32) <<< ((gI S 3 3) &&& 31))) = 0 then (some (1 : Int32)) else (some (0 : Int32))) else if (gI S 3 3) = (7 : Int32) then (if ((gI S 3 5) &&& ((1 : Int32) <<< ((gI S 3 3) &&& 31))) = 0 then (some (1 : Int32)) else (some (0 : Int32))) else (some (0 : Int32))
def f_X6_leastFirst (a0 : Int32) : Option Int32 :=
  if a0 = (1 : Int32) then (some (4 : Int32)) else if a0 = (2 : Int32) then (some (0 : Int32)) else if a0 = (3 : Int32) then (some (0 : Int32)) else (some (1 : Int32))
def f_X6_mostFirst (S : St) (j1 : Nat) (a0 : Int32) : Option Int32 :=
  if a0 = (1 : Int32) then (some (24 : Int32)) else if a0 = (2 : Int32) then (some ((gI S (33 + 5 * j1) 4) - (1 : Int32))) else if a0 = (3 : Int32) then (some ((gI S (33 + 5 * j1) 4) - (1 : Int32))) else if a0 = (4 : Int32) then (some (4 : Int32)) else if a0 = (5 : Int32) then (some (3 : Int32)) else if a0 = (6 : Int32) then (some (4 : Int32)) else (some (9 : Int32))
def f_X6_readNumber (N : Nat) (S : St) (a1 : Int32) (a2 : Int32) : Option (Int32 × St) :=
  (f_X6_readToken N S).bind fun r1 => if (gI r1 3 3) = (8 : Int32) then (if (gI r1 3 4) < a1 then (some ((0 : Int32), r1)) else (if a2 < (gI r1 3 4) then (some ((0 : Int32), r1)) else (some ((1 : Int32), r1)))) else (some ((0 : Int32), r1))
def f_X6_tell (S : St) (j1 : Nat) (a2 : Int32) (a3 : Int32) (a4 : Int32) : Option St :=
  bnd (sI S 3 5 ((gI S 3 5) ||| ((1 : Int32) <<< (a2 &&& 31)))) fun S1 => if a2 = (1 : Int32) then (bnd (sI S1 (33 + 5 * j1) 4 a3) fun S3 => some S3) else if a2 = (2 : Int32) then ((f_X3_setWind S1 j1 a3 a4).bind fun r5 => some r5) else if a2 = (3 : Int32) then ((f_X3_setWet S1 j1 a3).bind fun r7 => some r7) else if a2 = (4 : Int32) then ((f_X3_addRunner S1 j1 a3 a4).bind fun r9 => some r9) else if a2 = (5 : Int32) then (bnd (sI S1 (33 + 5 * j1) 6 a3) fun S11 => some S11) else if a2 = (6 : Int32) then (bnd (sI S1 (33 + 5 * j1) 7 a3) fun S13 => some S13) else (bnd (sI S1 (33 + 5 * j1) 8 a3) fun S14 => some S14)
def f_X6_readInto_105 (N : Nat) (j1 : Nat) (rec : St → Int32 → Option (Int32 × St)) (S : St) (x2 : Int32) (x3 : Int32) (x4 : Int32) : Option (Int32 × St) :=
  (f_X6_tell S j1 x3 x4 (gI S 3 4)).bind fun r17 => (f_X6_readToken N r17).bind fun r18 => if (gI r18 3 3) = (9 : Int32) then (rec r18 (x2 + (1 : Int32))) else (some ((-1 : Int32), r18))
def f_X6_readInto_88 (N : Nat) (j1 : Nat) (rec : St → Int32 → Option (Int32 × St)) (S : St) (x2 : Int32) (x3 : Int32) (x4 : Int32) : Option (Int32 × St) :=
  if x3 = (4 : Int32) then ((f_X6_readNumber N S (0 : Int32) (9 : Int32)).bind fun r20 => if r20.1 = 0 then (some ((-1 : Int32), r20.2)) else (f_X6_readInto_105 N j1 rec r20.2 x2 x3 x4)) else (f_X6_readInto_105 N j1 rec S x2 x3 x4)
def s_X6_readInto_16 (N : Nat) (j1 : Nat) (rec : St → Int32 → Option (Int32 × St)) (S : St) (x2 : Int32) : Option (Int32 × St) :=
  if (300 : Int32) < x2 then (some ((-1 : Int32), S)) else ((f_X6_readToken N S).bind fun r5 => if (gI r5 3 3) = 0 then (some (x2, r5)) else (bnd (gI r5 3 3) fun b7 => (f_X6_mayBegin r5 j1 x2).bind fun r8 => if r8 = 0 then (some ((-1 : Int32), r5)) else ((f_X6_leastFirst b7).bind fun r10 => (f_X6_mostFirst r5 j1 b7).bind fun r11 => (f_X6_readNumber N r5 r10 r11).bind fun r12 => if r12.1 = 0 then (some ((-1 : Int32), r12.2)) else (bnd (gI r12.2 3 4) fun b14 => if b7 = (2 : Int32) then ((f_X6_readNumber N r12.2 (1 : Int32) (3 : Int32)).bind fun r22 => if r22.1 = 0 then (some ((-1 : Int32), r22.2)) else (f_X6_readInto_88 N j1 rec r22.2 x2 b7 b14)) else (f_X6_readInto_88 N j1 rec r12.2 x2 b7 b14)))))
def g_X6_readInto_16 (N : Nat) (j1 : Nat) : Nat → St → Int32 → Option (Int32 × St)
  | 0, _, _ => none
  | n + 1, v0, v1 => s_X6_readInto_16 N j1 (g_X6_readInto_16 N j1 n) v0 v1
def f_X6_readInto (N : Nat) (S : St) (j1 : Nat) : Option (Int32 × St) :=
  (f_X3_begin N S j1).bind fun r1 => bnd (sI r1 3 1 (0 : Int32)) fun S2 => bnd (sI S2 3 5 (0 : Int32)) fun S3 => g_X6_readInto_16 N j1 N S3 (0 : Int32)
def f_X6_fault (S : St) : Option Int32 :=
  some (gI S 3 2)
def s_X7_begin_2 (N : Nat) (i : Nat) (rec : St → Int32 → Option St) (S : St) (x1 : Int32) : Option St :=
  if (3 : Int32) ≤ x1 then (some S) else ((f_X7_put S i x1 (0 : Int32) (0 : Int32) (0 : Int32)).bind fun r2 => rec r2 (x1 + (1 : Int32)))
def g_X7_begin_2 (N : Nat) (i : Nat) : Nat → St → Int32 → Option St
  | 0, _, _ => none
  | n + 1, v0, v1 => s_X7_begin_2 N i (g_X7_begin_2 N i n) v0 v1
def f_X7_begin (N : Nat) (S : St) (i : Nat) : Option St :=
  g_X7_begin_2 N i N S (0 : Int32)
def s_X7_copyFrom_2 (N : Nat) (i : Nat) (j1 : Nat) (k33 : St → Option St) (rec : St → Int32 → Option St) (S : St) (x2 : Int32) : Option St :=
  if (3 : Int32) ≤ x2 then (k33 S) else ((f_X7_yardOf S j1 x2).bind fun r2 => (f_X7_beatsOf S j1 x2).bind fun r3 => (f_X7_goodOf S j1 x2).bind fun r4 => (f_X7_put S i x2 r2 r3 r4).bind fun r5 => rec r5 (x2 + (1 : Int32)))
def g_X7_copyFrom_2 (N : Nat) (i : Nat) (j1 : Nat) (k33 : St → Option St) : Nat → St → Int32 → Option St
  | 0, _, _ => none
  | n + 1, v0, v1 => s_X7_copyFrom_2 N i j1 k33 (g_X7_copyFrom_2 N i j1 k33 n) v0 v1
def f_X7_copyFrom (N : Nat) (S : St) (i : Nat) (j1 : Nat) : Option St :=
  g_X7_copyFrom_2 N i j1 (fun S6 => bnd (sI S6 (4 + 5 * i) 3 (gI S6 (4 + 5 * j1) 3)) fun S7 => some S7) N S (0 : Int32)
def f_X7_draw (S : St) (i : Nat) : Option (Int32 × St) :=
  bnd (sI S (4 + 5 * i) 3 (((gI S (4 + 5 * i) 3) * (1103515245 : Int32)) + (12345 : Int32))) fun S1 => some ((((gI S1 (4 + 5 * i) 3).toUInt32 >>> ((16 : Int32).toUInt32 &&& Int32.toUInt32 31)).toInt32) - (((gI S1 (4 + 5 * i) 3).toUInt32 >>> ((16 : Int32).toUInt32 &&& Int32.toUInt32 31)).toInt32) / (10 : Int32) * (10 : Int32), S1)
def f_X8_append (S : St) (a1 : Int32) : Option St :=
  if (gI S 1 1) < 0 then (some S) else (if (300 : Int32) ≤ (gI S 1 1) then (some S) else (if (gI S 1 1 < 0 ∨ 300 ≤ (gI S 1 1).toNatClampNeg) then none else bnd (sA S 2 (upd (gA S 2) (gI S 1 1).toNatClampNeg a1)) fun S4 => bnd (sI S4 1 1 ((gI S4 1 1) + (1 : Int32))) fun S5 => some S5))
def s_X9_type_36 (N : Nat) (a1 : Int64) (rec : St → Int32 → Option (Int32 × St)) (S : St) (x4 : Int32) : Option (Int32 × St) :=
  if x4 < 0 then (some (gI S 1 1, S)) else ((f_X8_append S ((((a1.toUInt64 >>> (((8 : Int32) * x4).toInt64.toUInt64 &&& 63)).toInt64).toInt32) &&& (255 : Int32))).bind fun r6 => rec r6 (x4 + (-1 : Int32)))
def g_X9_type_36 (N : Nat) (a1 : Int64) : Nat → St → Int32 → Option (Int32 × St)
  | 0, _, _ => none
  | n + 1, v0, v1 => s_X9_type_36 N a1 (g_X9_type_36 N a1 n) v0 v1
def f_X9_type (N : Nat) (S : St) (a1 : Int64) (a3 : Int32) : Option (Int32 × St) :=
  if a3 < (1 : Int32) then (some ((-1 : Int32), S)) else (if a3 ≤ (8 : Int32) then (if (gI S 1 1) ≤ ((300 : Int32) - a3) then (bnd (a3 - (1 : Int32)) fun b4 => g_X9_type_36 N a1 N S b4) else (some ((-3 : Int32), S))) else (some ((-1 : Int32), S)))
def f_X9_clear (S : St) : Option (Int32 × St) :=
  bnd (gI S 1 1) fun b1 => bnd (sI S 1 1 (0 : Int32)) fun S2 => some (b1, S2)
def f_X9_lane (N : Nat) (S : St) : Option (Int32 × St) :=
  (f_X6_readInto N S ((gSp S).toNat)).bind fun r1 => if r1.1 = (-1 : Int32) then ((f_X6_fault r1.2).bind fun r11 => some ((-10 : Int32) - r11, r1.2)) else (bnd (sCo r1.2 (gSp r1.2)) fun S3 => bnd (sSp S3 (gCo r1.2)) fun S4 => bnd (sI S4 1 1 (0 : Int32)) fun S5 => (f_X7_begin N S5 0).bind fun r6 => bnd (sI r6 18 4 (0 : Int32)) fun S7 => bnd (sI S7 23 2 (0 : Int32)) fun S8 => bnd (sI S8 (8 + 5 * 0) 1 (0 : Int32)) fun S9 => bnd (sI S9 (8 + 5 * 1) 1 (0 : Int32)) fun S10 => some (r1.1, S10))
def f_X9_yard (S : St) (a1 : Int32) (a2 : Int32) : Option Int32 :=
  (f_X3_isYard S ((gCo S).toNat) a1).bind fun r1 => if r1 = 0 then (some (-1 : Int32)) else (if a2 < 0 then (some (-1 : Int32)) else (if a2 ≤ (1 : Int32) then (if a2 = 0 then ((f_X3_windAt S ((gCo S).toNat) a1).bind fun r8 => some r8) else ((f_X3_isWet S ((gCo S).toNat) a1).bind fun r6 => if r6 = 0 then (some (0 : Int32)) else (some (1 : Int32)))) else (some (-1 : Int32))))
def f_X9_told (S : St) (a1 : Int32) : Option Int32 :=
  if a1 = (0 : Int32) then (some (gI S (33 + 5 * (gCo S).toNat) 4)) else if a1 = (1 : Int32) then (some (gI S (33 + 5 * (gCo S).toNat) 6)) else if a1 = (2 : Int32) then (some (gI S (33 + 5 * (gCo S).toNat) 7)) else if a1 = (3 : Int32) then (some (gI S (33 + 5 * (gCo S).toNat) 8)) else (some (-1 : Int32))
def f_X9_isAtEnd (S : St) (a1 : Int32) : Option Int32 :=
  (f_X7_yardOf S 0 a1).bind fun r1 => if r1 < (gI S (33 + 5 * (gCo S).toNat) 4) then (some (0 : Int32)) else (some (1 : Int32))
def f_X9_isHome (S : St) (a1 : Int32) : Option Int32 :=
  (f_X9_isAtEnd S a1).bind fun r1 => if r1 = 0 then (some (0 : Int32)) else ((f_X7_goodOf S 0 a1).bind fun r3 => if r3 < (gI S (33 + 5 * (gCo S).toNat) 7) then (some (0 : Int32)) else (some (1 : Int32)))
def f_X9_runner (S : St) (a1 : Int32) (a2 : Int32) : Option Int32 :=
  (f_X3_isRunner S ((gCo S).toNat) a1).bind fun r1 => if r1 = 0 then (some (-1 : Int32)) else (if a2 = (0 : Int32) then ((f_X3_paceOf S ((gCo S).toNat) a1).bind fun r4 => some r4) else if a2 = (1 : Int32) then ((f_X3_panOf S ((gCo S).toNat) a1).bind fun r6 => some r6) else if a2 = (2 : Int32) then ((f_X7_yardOf S 0 a1).bind fun r8 => some r8) else if a2 = (3 : Int32) then ((f_X7_beatsOf S 0 a1).bind fun r10 => some r10) else if a2 = (4 : Int32) then ((f_X7_goodOf S 0 a1).bind fun r12 => some r12) else if a2 = (5 : Int32) then ((f_X9_isHome S a1).bind fun r14 => if r14 = 0 then (some (0 : Int32)) else (some (1 : Int32))) else (some (-1 : Int32)))
def f_X9_isBit (a0 : Int32) : Option Int32 :=
  if a0 = 0 then (some (1 : Int32)) else (if a0 = (1 : Int32) then (some (1 : Int32)) else (some (0 : Int32)))
def f_X9_isToss (a0 : Int32) (a1 : Int32) (a2 : Int32) (a3 : Int32) : Option Int32 :=
  if a0 < (1 : Int32) then (some (0 : Int32)) else (if (4 : Int32) < a0 then (some (0 : Int32)) else (if a1 < 0 then (some (0 : Int32)) else (if (9 : Int32) < a1 then (some (0 : Int32)) else (if a2 < 0 then (some (0 : Int32)) else (if (7 : Int32) < a2 then (some (0 : Int32)) else ((f_X9_isBit a3).bind fun r7 => if r7 = 0 then (some (0 : Int32)) else (some (1 : Int32))))))))
def f_X9_comes (S : St) (a1 : Int32) (a2 : Int32) (a3 : Int32) (a4 : Int32) (a5 : Int32) (a6 : Int32) (a7 : Int32) : Option Int32 :=
  (f_X3_isRunner S ((gCo S).toNat) a1).bind fun r1 => if r1 = 0 then (some (-1000000 : Int32)) else ((f_X3_isYard S ((gCo S).toNat) a2).bind fun r3 => if r3 = 0 then (some (-1000000 : Int32)) else ((f_X9_isToss a3 a4 a5 a6).bind fun r5 => if r5 = 0 then (some (-1000000 : Int32)) else (if a7 = (0 : Int32) then ((f_X3_comesDown S ((gCo S).toNat) a2 a3 a4).bind fun r8 => some r8) else if a7 = (1 : Int32) then ((f_X3_yardAfter S ((gCo S).toNat) a1 a2 a3 a6).bind fun r10 => some r10) else if a7 = (2 : Int32) then ((f_X9_quarters a3 a5).bind fun r12 => some r12) else if a7 = (3 : Int32) then ((f_X9_isTurned a3 a5).bind fun r14 => if r14 = 0 then (some (0 : Int32)) else (some (1 : Int32))) else if a7 = (4 : Int32) then ((f_X3_catchOf S ((gCo S).toNat) a1 a2 a3 a4 a5 a6).bind fun r17 => some r17) else (some (-1000000 : Int32)))))
def f_X9_best (N : Nat) (S : St) (a1 : Int32) (a2 : Int32) (a3 : Int32) (a4 : Int32) : Option (Int32 × St) :=
  (f_X3_isRunner S ((gCo S).toNat) a1).bind fun r1 => if r1 = 0 then (some ((-1 : Int32), S)) else ((f_X3_isYard S ((gCo S).toNat) a2).bind fun r3 => if r3 = 0 then (some ((-1 : Int32), S)) else ((f_X9_isBit a3).bind fun r5 => if r5 = 0 then (some ((-1 : Int32), S)) else ((f_X9_isBit a4).bind fun r7 => if r7 = 0 then (some ((-1 : Int32), S)) else ((f_X1_find N S ((gCo S).toNat) a1 a2 a3).bind fun r9 => if a4 = 0 then (some (gI r9 26 0, r9)) else ((f_X1_number r9).bind fun r11 => some (r11, r9))))))
def f_X9_runs (N : Nat) (S : St) (a1 : Int32) (a2 : Int32) : Option (Int32 × St) :=
  (f_X3_isRunner S ((gCo S).toNat) a1).bind fun r1 => if r1 = 0 then (some ((-1 : Int32), S)) else (if a2 < (1 : Int32) then (some ((-1 : Int32), S)) else (if a2 ≤ (9 : Int32) then ((f_X9_isAtEnd S a1).bind fun r5 => if r5 = 0 then ((f_X0_remember N S 0 a1).bind fun r7 => (f_X7_yardOf r7 0 a1).bind fun r8 => (f_X3_yardOnRun r7 ((gCo r7).toNat) a1 r8 a2).bind fun r9 => (f_X7_beatsOf r7 0 a1).bind fun r10 => (f_X7_goodOf r7 0 a1).bind fun r11 => (f_X7_put r7 0 a1 r9 (r10 + a2) r11).bind fun r12 => some (r9, r12)) else (some ((-2 : Int32), S))) else (some ((-1 : Int32), S))))
def f_X9_toss_193 (N : Nat) (S : St) (x7 : Int32) (x8 : Int32) (t1 : Int32) (t2 : Int32) (t3 : Int32) (t4 : Int32) (t5 : Int32) : Option (Int32 × St) :=
  (f_X7_put S 0 t1 t2 t3 (t4 + t5)).bind fun r20 => if x8 = 0 then (if x7 = 0 then (some ((0 : Int32), r20)) else (some ((1 : Int32), r20))) else (some ((2 : Int32), r20))
def f_X9_toss_152 (N : Nat) (a1 : Int32) (a2 : Int32) (a5 : Int32) (S : St) (x6 : Int32) (x7 : Int32) (x8 : Int32) (t0 : Int32) (t1 : Int32) : Option (Int32 × St) :=
  bnd (t0 + t1) fun b16 => (f_X3_yardAfter S ((gCo S).toNat) a1 x6 a2 a5).bind fun r17 => (f_X7_goodOf S 0 a1).bind fun r18 => if x8 = 0 then (f_X9_toss_193 N S x7 x8 a1 r17 b16 r18 (0 : Int32)) else (f_X9_toss_193 N S x7 x8 a1 r17 b16 r18 (1 : Int32))
def f_X9_toss_121 (N : Nat) (a1 : Int32) (a2 : Int32) (a5 : Int32) (S : St) (x6 : Int32) (x7 : Int32) (t0 : Int32) : Option (Int32 × St) :=
  (f_X7_beatsOf S 0 a1).bind fun r13 => (f_X9_beatsInAir a2).bind fun r14 => if x7 = 0 then (f_X9_toss_152 N a1 a2 a5 S x6 x7 t0 (r13 + r14) (gI S (33 + 5 * (gCo S).toNat) 8)) else (f_X9_toss_152 N a1 a2 a5 S x6 x7 t0 (r13 + r14) (0 : Int32))
def f_X9_toss_120 (N : Nat) (a1 : Int32) (a2 : Int32) (a5 : Int32) (S : St) (x6 : Int32) (x7 : Int32) : Option (Int32 × St) :=
  f_X9_toss_121 N a1 a2 a5 S x6 x7 (0 : Int32)
def f_X9_toss_89 (N : Nat) (a1 : Int32) (a2 : Int32) (a4 : Int32) (a5 : Int32) (S : St) (x6 : Int32) (t0 : Int32) : Option (Int32 × St) :=
  if t0 = 0 then (f_X9_toss_120 N a1 a2 a5 S x6 t0) else ((f_X9_isTurned a2 a4).bind fun r23 => if r23 = 0 then (f_X9_toss_120 N a1 a2 a5 S x6 t0) else (if a2 < (gI S (33 + 5 * (gCo S).toNat) 6) then (f_X9_toss_120 N a1 a2 a5 S x6 t0) else (f_X9_toss_121 N a1 a2 a5 S x6 t0 (1 : Int32))))
def f_X9_toss (N : Nat) (S : St) (a1 : Int32) (a2 : Int32) (a3 : Int32) (a4 : Int32) (a5 : Int32) : Option (Int32 × St) :=
  (f_X3_isRunner S ((gCo S).toNat) a1).bind fun r1 => if r1 = 0 then (some ((-1 : Int32), S)) else ((f_X9_isToss a2 a3 a4 a5).bind fun r3 => if r3 = 0 then (some ((-1 : Int32), S)) else ((f_X9_isAtEnd S a1).bind fun r5 => if r5 = 0 then ((f_X0_remember N S 0 a1).bind fun r7 => (f_X7_yardOf r7 0 a1).bind fun r8 => (f_X7_draw r7 0).bind fun r9 => (f_X3_catchOf r9.2 ((gCo r9.2).toNat) a1 r8 a2 a3 a4 a5).bind fun r10 => if r10 ≤ r9.1 then (f_X9_toss_89 N a1 a2 a4 a5 r9.2 r8 (0 : Int32)) else (f_X9_toss_89 N a1 a2 a4 a5 r9.2 r8 (1 : Int32))) else (some ((-2 : Int32), S))))
def f_X9_undo (S : St) : Option (Int32 × St) :=
  if (gI S 18 4) = 0 then (some ((-2 : Int32), S)) else ((f_X0_takeBackLast S 0).bind fun r2 => some (gI r2 18 4, r2))
def f_X9_lot (S : St) (a1 : Int32) : Option (Int32 × St) :=
  bnd (gI S (4 + 5 * 0) 3) fun b1 => bnd (sI S (4 + 5 * 0) 3 a1) fun S2 => some (b1, S2)
def s_X9_homeBits_4 (N : Nat) (S : St) (rec : Int32 → Int32 → Option Int32) (x1 : Int32) (x2 : Int32) : Option Int32 :=
  if (gI S (33 + 5 * (gCo S).toNat) 5) ≤ x2 then (some x1) else ((f_X9_isHome S x2).bind fun r2 => if r2 = 0 then (rec x1 (x2 + (1 : Int32))) else (bnd (x1 ||| ((1 : Int32) <<< (x2 &&& 31))) fun b4 => rec b4 (x2 + (1 : Int32))))
def g_X9_homeBits_4 (N : Nat) (S : St) : Nat → Int32 → Int32 → Option Int32
  | 0, _, _ => none
  | n + 1, v0, v1 => s_X9_homeBits_4 N S (g_X9_homeBits_4 N S n) v0 v1
def f_X9_homeBits (N : Nat) (S : St) : Option Int32 :=
  g_X9_homeBits_4 N S N (0 : Int32) (0 : Int32)
def f_X9_firstHome_44 (N : Nat) (S : St) (rec : Int32 → Int32 → Int32 → Option Int32) (x3 : Int32) : Option Int32 :=
  (f_X7_beatsOf S 0 x3).bind fun r5 => rec x3 r5 (x3 + (1 : Int32))
def s_X9_firstHome_7 (N : Nat) (S : St) (rec : Int32 → Int32 → Int32 → Option Int32) (x1 : Int32) (x2 : Int32) (x3 : Int32) : Option Int32 :=
  if (gI S (33 + 5 * (gCo S).toNat) 5) ≤ x3 then (some x1) else ((f_X9_isHome S x3).bind fun r2 => if r2 = 0 then (rec x1 x2 (x3 + (1 : Int32))) else (if x1 = (-9 : Int32) then (f_X9_firstHome_44 N S rec x3) else ((f_X7_beatsOf S 0 x3).bind fun r6 => if x2 ≤ r6 then (rec x1 x2 (x3 + (1 : Int32))) else (f_X9_firstHome_44 N S rec x3))))
def g_X9_firstHome_7 (N : Nat) (S : St) : Nat → Int32 → Int32 → Int32 → Option Int32
  | 0, _, _, _ => none
  | n + 1, v0, v1, v2 => s_X9_firstHome_7 N S (g_X9_firstHome_7 N S n) v0 v1 v2
def f_X9_firstHome (N : Nat) (S : St) : Option Int32 :=
  g_X9_firstHome_7 N S N (-9 : Int32) (0 : Int32) (0 : Int32)
def f_X9_home (N : Nat) (S : St) (a1 : Int32) : Option Int32 :=
  (f_X9_isBit a1).bind fun r1 => if r1 = 0 then (some (-1 : Int32)) else (if a1 = 0 then ((f_X9_homeBits N S).bind fun r5 => some r5) else ((f_X9_firstHome N S).bind fun r4 => some r4))
def f_X9_oddsBy (S : St) (a1 : Int32) (a2 : Int32) : Option Int64 :=
  (f_X7_goodOf S 0 a1).bind fun r1 => bnd (if (0 : Int32) < ((gI S (33 + 5 * (gCo S).toNat) 7) - r1) then ((gI S (33 + 5 * (gCo S).toNat) 7) - r1) else (0 : Int32)) fun b2 => (f_X7_beatsOf S 0 a1).bind fun r3 => (f_X7_yardOf S 0 a1).bind fun r4 => (f_X4_chance S (a2 - r3) r4 b2).bind fun r5 => some r5
def s_X9_inLeastTerms_9 (N : Nat) (a0 : Int64) (a2 : Int64) (a4 : Int32) (k44 : Int64 → Option Int64) (rec : Int64 → Int64 → Int32 → Option Int64) (x5 : Int64) (x7 : Int64) (x9 : Int32) : Option Int64 :=
  if (100 : Int32) ≤ x9 then (k44 x5) else (if (lg_cmp x7 (0 : Int64)) = 0 then (k44 x5) else (if x7 = 0 then none else bnd (x5 - x5 / x7 * x7) fun b4 => rec x7 b4 (x9 + (1 : Int32))))
def g_X9_inLeastTerms_9 (N : Nat) (a0 : Int64) (a2 : Int64) (a4 : Int32) (k44 : Int64 → Option Int64) : Nat → Int64 → Int64 → Int32 → Option Int64
  | 0, _, _, _ => none
  | n + 1, v0, v1, v2 => s_X9_inLeastTerms_9 N a0 a2 a4 k44 (g_X9_inLeastTerms_9 N a0 a2 a4 k44 n) v0 v1 v2
def f_X9_inLeastTerms_44 (N : Nat) (a0 : Int64) (a2 : Int64) (a4 : Int32) (x5 : Int64) : Option Int64 :=
  if (lg_cmp x5 (0 : Int64)) = 0 then (some (0 : Int64)) else (if a4 = 0 then (if x5 = 0 then none else some (a0 / x5)) else (if x5 = 0 then none else some (a2 / x5)))
def f_X9_inLeastTerms (N : Nat) (a0 : Int64) (a2 : Int64) (a4 : Int32) : Option Int64 :=
  g_X9_inLeastTerms_9 N a0 a2 a4 (fun y5 => f_X9_inLeastTerms_44 N a0 a2 a4 y5) N a2 a0 (0 : Int32)
def f_X9_odds (N : Nat) (S : St) (a1 : Int32) (a2 : Int32) (a3 : Int32) : Option (Int64 × St) :=
  (f_X3_isRunner S ((gCo S).toNat) a1).bind fun r1 => if r1 = 0 then (some ((-1 : Int64), S)) else (if a2 < 0 then (some ((-1 : Int64), S)) else (if (24 : Int32) < a2 then (some ((-1 : Int64), S)) else ((f_X9_isBit a3).bind fun r5 => if r5 = 0 then (some ((-1 : Int64), S)) else ((f_X4_fill N S ((gCo S).toNat) a1).bind fun r7 => (f_X9_oddsBy r7 a1 a2).bind fun r8 => (f_X9_inLeastTerms N r8 (1000000000000 : Int64) a3).bind fun r9 => some (r9, r7)))))
def s_X9_enough_41 (N : Nat) (a1 : Int32) (a2 : Int32) (rec : St → Int32 → Option (Int32 × St)) (S : St) (x3 : Int32) : Option (Int32 × St) :=
  if (24 : Int32) < x3 then (some ((-9 : Int32), S)) else ((f_X9_oddsBy S a1 x3).bind fun r7 => if (lg_cmp (r7 * (10 : Int64)) ((a2.toInt64) * (1000000000000 : Int64))) < 0 then (rec S (x3 + (1 : Int32))) else (some (x3, S)))
def g_X9_enough_41 (N : Nat) (a1 : Int32) (a2 : Int32) : Nat → St → Int32 → Option (Int32 × St)
  | 0, _, _ => none
  | n + 1, v0, v1 => s_X9_enough_41 N a1 a2 (g_X9_enough_41 N a1 a2 n) v0 v1
def f_X9_enough (N : Nat) (S : St) (a1 : Int32) (a2 : Int32) : Option (Int32 × St) :=
  (f_X3_isRunner S ((gCo S).toNat) a1).bind fun r1 => if r1 = 0 then (some ((-1 : Int32), S)) else (if a2 < 0 then (some ((-1 : Int32), S)) else (if a2 ≤ (10 : Int32) then ((f_X4_fill N S ((gCo S).toNat) a1).bind fun r5 => g_X9_enough_41 N a1 a2 N r5 (0 : Int32)) else (some ((-1 : Int32), S))))
def f_X9_picture (S : St) (a1 : Int32) (a2 : Int32) : Option (Int32 × St) :=
  if a1 < (1 : Int32) then (some ((-1 : Int32), S)) else (if (8 : Int32) < a1 then (some ((-1 : Int32), S)) else (if a2 < 0 then (some ((-1 : Int32), S)) else (if a2 ≤ (3 : Int32) then (if (gI S 23 2) < (6 : Int32) then ((f_X5_append S a1 a2).bind fun r6 => some (gI r6 23 2, r6)) else (some ((-3 : Int32), S))) else (some ((-1 : Int32), S)))))
def f_X9_forget (S : St) : Option (Int32 × St) :=
  bnd (gI S 23 2) fun b1 => bnd (sI S 23 2 (0 : Int32)) fun S2 => some (b1, S2)
def s_X9_could_21 (N : Nat) (S : St) (a1 : Int32) (k63 : Int32 → Int32 → Option Int32) (rec : Int32 → Int32 → Int32 → Option Int32) (x2 : Int32) (x3 : Int32) (x4 : Int32) : Option Int32 :=
  if (7 : Int32) < x4 then (k63 x2 x3) else ((f_X5_allow N S x3 x4).bind fun r5 => if r5 = 0 then (rec x2 x3 (x4 + (1 : Int32))) else (if a1 = 0 then (rec (x2 + (1 : Int32)) x3 (x4 + (1 : Int32))) else ((f_X9_isTurned x3 x4).bind fun r8 => if r8 = 0 then (rec x2 x3 (x4 + (1 : Int32))) else (rec (x2 + (1 : Int32)) x3 (x4 + (1 : Int32))))))
def g_X9_could_21 (N : Nat) (S : St) (a1 : Int32) (k63 : Int32 → Int32 → Option Int32) : Nat → Int32 → Int32 → Int32 → Option Int32
  | 0, _, _, _ => none
  | n + 1, v0, v1, v2 => s_X9_could_21 N S a1 k63 (g_X9_could_21 N S a1 k63 n) v0 v1 v2
def s_X9_could_13 (N : Nat) (S : St) (a1 : Int32) (rec : Int32 → Int32 → Option Int32) (x2 : Int32) (x3 : Int32) : Option Int32 :=
  if (4 : Int32) < x3 then (some x2) else (g_X9_could_21 N S a1 (fun y10 y11 => rec y10 (y11 + (1 : Int32))) N x2 x3 (0 : Int32))
def g_X9_could_13 (N : Nat) (S : St) (a1 : Int32) : Nat → Int32 → Int32 → Option Int32
  | 0, _, _ => none
  | n + 1, v0, v1 => s_X9_could_13 N S a1 (g_X9_could_13 N S a1 n) v0 v1
def f_X9_could (N : Nat) (S : St) (a1 : Int32) : Option Int32 :=
  (f_X9_isBit a1).bind fun r1 => if r1 = 0 then (some (-1 : Int32)) else (g_X9_could_13 N S a1 N (0 : Int32) (1 : Int32))
def f_X9_isClock (a0 : Int32) (a1 : Int32) : Option Int32 :=
  if a0 < 0 then (some (0 : Int32)) else (if (999 : Int32) < a0 then (some (0 : Int32)) else (if a1 < 0 then (some (0 : Int32)) else (if (99 : Int32) < a1 then (some (0 : Int32)) else (some (1 : Int32)))))
def s_X9_towns_43 (N : Nat) (a1 : Int32) (a2 : Int32) (a3 : Int32) (a4 : Int32) (a5 : Int32) (k78 : Int32 → Int32 → Option Int32) (rec : Int32 → Int32 → Int32 → Option Int32) (x6 : Int32) (x7 : Int32) (x8 : Int32) : Option Int32 :=
  if (a1 + a2) < x8 then (k78 x6 x7) else (bnd (x7 + (if (0 : Int32) < (if ((a3 + a4) - x8) < x6 then ((a3 + a4) - x8) else x6) then (if ((a3 + a4) - x8) < x6 then ((a3 + a4) - x8) else x6) else (0 : Int32))) fun b10 => rec x6 b10 (x8 + (1 : Int32)))
def g_X9_towns_43 (N : Nat) (a1 : Int32) (a2 : Int32) (a3 : Int32) (a4 : Int32) (a5 : Int32) (k78 : Int32 → Int32 → Option Int32) : Nat → Int32 → Int32 → Int32 → Option Int32
  | 0, _, _, _ => none
  | n + 1, v0, v1, v2 => s_X9_towns_43 N a1 a2 a3 a4 a5 k78 (g_X9_towns_43 N a1 a2 a3 a4 a5 k78 n) v0 v1 v2
def f_X9_towns (N : Nat) (a1 : Int32) (a2 : Int32) (a3 : Int32) (a4 : Int32) (a5 : Int32) : Option Int32 :=
  (f_X9_isClock a1 a2).bind fun r1 => if r1 = 0 then (some (-1 : Int32)) else ((f_X9_isClock a3 a4).bind fun r3 => if r3 = 0 then (some (-1 : Int32)) else ((f_X9_isBit a5).bind fun r5 => if r5 = 0 then (some (-1 : Int32)) else (bnd (((2 : Int32) * a4) + (1 : Int32)) fun b7 => bnd (a1 - a2) fun b8 => g_X9_towns_43 N a1 a2 a3 a4 a5 (fun y11 y12 => (f_X9_inLeastTerms N (y12.toInt64) (((((2 : Int32) * a2) + (1 : Int32)) * y11).toInt64) a5).bind fun r13 => some (r13.toInt32)) N b7 (0 : Int32) b8)))
def f_X9_rateToss (S : St) (a1 : Int32) : Option (Int32 × St) :=
  bnd (sJ S 0 11 ((gJ S 0 11) + (1 : Int64))) fun S1 => (f_X9_beatsInAir a1).bind fun r2 => some (r2, S1)
def f_X9_rateStanding (S : St) (a1 : Int32) (a2 : Int32) : Option (Int32 × St) :=
  bnd (sJ S 0 11 ((gJ S 0 11) + (10 : Int64))) fun S1 => (f_X9_rateToss S1 a1).bind fun r2 => (f_X9_quarters a1 a2).bind fun r3 => some (r2.1 + r3, r2.2)
def f_X9_rateRunning (S : St) (a1 : Int32) (a2 : Int32) : Option (Int32 × St) :=
  bnd (sJ S 0 11 ((gJ S 0 11) + (100 : Int64))) fun S1 => (f_X9_rateToss S1 a1).bind fun r2 => some (r2.1 - a2, r2.2)
def f_X9_rateFolded (S : St) (a1 : Int32) (a2 : Int32) : Option (Int32 × St) :=
  bnd (sJ S 0 11 ((gJ S 0 11) + (1000 : Int64))) fun S1 => (f_X9_rateStanding S1 a1 a2).bind fun r2 => some ((2 : Int32) * r2.1, r2.2)
def f_X9_rateDropped (S : St) (a1 : Int32) (a2 : Int32) : Option (Int32 × St) :=
  bnd (sJ S 0 11 ((gJ S 0 11) + (10000 : Int64))) fun S1 => (f_X9_rateRunning S1 a1 a2).bind fun r2 => some (r2.1 + (gI r2.2 (33 + 5 * (gCo r2.2).toNat) 8), r2.2)
def f_X9_rateLow (S : St) (a1 : Int32) : Option (Int32 × St) :=
  bnd (sJ S 0 11 ((gJ S 0 11) + (100000 : Int64))) fun S1 => (f_X9_rateToss S1 a1).bind fun r2 => some (r2.1 - (gI r2.2 (33 + 5 * (gCo r2.2).toNat) 6), r2.2)
def f_X9_rate (S : St) (a1 : Int32) (a2 : Int32) (a3 : Int32) : Option (Int32 × St) :=
  if a2 < (1 : Int32) then (some ((-1000000 : Int32), S)) else (if (4 : Int32) < a2 then (some ((-1000000 : Int32), S)) else (if a3 < 0 then (some ((-1000000 : Int32), S)) else (if a3 ≤ (7 : Int32) then (if a1 = (0 : Int32) then ((f_X9_rateToss S a2).bind fun r6 => some (r6.1, r6.2)) else if a1 = (1 : Int32) then ((f_X9_rateStanding S a2 a3).bind fun r8 => some (r8.1, r8.2)) else if a1 = (2 : Int32) then ((f_X9_rateRunning S a2 a3).bind fun r10 => some (r10.1, r10.2)) else if a1 = (3 : Int32) then ((f_X9_rateFolded S a2 a3).bind fun r12 => some (r12.1, r12.2)) else if a1 = (4 : Int32) then ((f_X9_rateDropped S a2 a3).bind fun r14 => some (r14.1, r14.2)) else if a1 = (5 : Int32) then ((f_X9_rateLow S a2).bind fun r16 => some (r16.1, r16.2)) else (some ((-1000000 : Int32), S))) else (some ((-1000000 : Int32), S)))))
def f_X9_imageOf (S : St) (a1 : Int32) : Option Nat :=
  if a1 = 0 then (some (0)) else (some (1))
def f_J6_bitCount_0f7a4 (a0 : Int32) : Option Int32 :=
  bnd (a0 - (((a0.toUInt32 >>> ((1 : Int32).toUInt32 &&& Int32.toUInt32 31)).toInt32) &&& (1431655765 : Int32))) fun b1 => bnd ((b1 &&& (858993459 : Int32)) + (((b1.toUInt32 >>> ((2 : Int32).toUInt32 &&& Int32.toUInt32 31)).toInt32) &&& (858993459 : Int32))) fun b2 => bnd ((b2 + ((b2.toUInt32 >>> ((4 : Int32).toUInt32 &&& Int32.toUInt32 31)).toInt32)) &&& (252645135 : Int32)) fun b3 => bnd (b3 + ((b3.toUInt32 >>> ((8 : Int32).toUInt32 &&& Int32.toUInt32 31)).toInt32)) fun b4 => bnd (b4 + ((b4.toUInt32 >>> ((16 : Int32).toUInt32 &&& Int32.toUInt32 31)).toInt32)) fun b5 => some (b5 &&& (63 : Int32))
def f_X9_keep (N : Nat) (S : St) (a1 : Int32) : Option (Int32 × St) :=
  (f_X9_isBit a1).bind fun r1 => if r1 = 0 then (some ((-1 : Int32), S)) else ((f_X9_imageOf S a1).bind fun r3 => if 2 ≤ r3 then none else (f_X7_copyFrom N S (r3 + 1) 0).bind fun r5 => bnd (sI r5 (8 + 5 * r3) 1 (1 : Int32)) fun S6 => (f_X9_homeBits N S6).bind fun r7 => (f_J6_bitCount_0f7a4 r7).bind fun r8 => some (r8, S6))
def f_X9_back (N : Nat) (S : St) (a1 : Int32) : Option (Int32 × St) :=
  (f_X9_isBit a1).bind fun r1 => if r1 = 0 then (some ((-1 : Int32), S)) else ((f_X9_imageOf S a1).bind fun r3 => if 2 ≤ r3 then none else if (gI S (8 + 5 * r3) 1) = 0 then (some ((-2 : Int32), S)) else ((f_X7_copyFrom N S 0 (r3 + 1)).bind fun r6 => bnd (sI r6 18 4 (0 : Int32)) fun S7 => (f_X9_homeBits N S7).bind fun r8 => (f_J6_bitCount_0f7a4 r8).bind fun r9 => some (r9, S7)))
def f_X9_count (S : St) (a1 : Int32) : Option Int32 :=
  if a1 = (0 : Int32) then (some (gI S (33 + 5 * (gCo S).toNat) 5)) else if a1 = (1 : Int32) then (some (gI S 23 2)) else if a1 = (2 : Int32) then (some (gI S 18 4)) else if a1 = (3 : Int32) then (some (gI S 1 1)) else (some (-1 : Int32))
def f_X9_trace (S : St) : Option Int64 :=
  some (gJ S 0 11)
def f_X10_in (a0 : Int32) (a1 : Int32) (a2 : Int32) : Option Int32 :=
  if a0 < a1 then (some (0 : Int32)) else (if a2 < a0 then (some (0 : Int32)) else (some (1 : Int32)))
def s_X10_type_37 (N : Nat) (a1 : Int64) (rec : St → Int32 → Option (Int32 × St)) (S : St) (x4 : Int32) : Option (Int32 × St) :=
  if x4 < 0 then (some (gI S 0 3, S)) else (if (gI S 0 3 < 0 ∨ 300 ≤ (gI S 0 3).toNatClampNeg) then none else bnd (sA S 1 (upd (gA S 1) (gI S 0 3).toNatClampNeg (((a1 >>> (((8 : Int32) * x4).toInt64 &&& 63)) &&& (255 : Int64)).toInt32))) fun S8 => bnd (sI S8 0 3 ((gI S8 0 3) + (1 : Int32))) fun S9 => rec S9 (x4 + (-1 : Int32)))
def g_X10_type_37 (N : Nat) (a1 : Int64) : Nat → St → Int32 → Option (Int32 × St)
  | 0, _, _ => none
  | n + 1, v0, v1 => s_X10_type_37 N a1 (g_X10_type_37 N a1 n) v0 v1
def f_X10_type (N : Nat) (S : St) (a1 : Int64) (a3 : Int32) : Option (Int32 × St) :=
  bnd (sI S 0 0 (0 : Int32)) fun S1 => (f_X10_in a3 (1 : Int32) (8 : Int32)).bind fun r2 => if r2 = 0 then (some ((-1 : Int32), S1)) else (if ((gI S1 0 3) + a3) ≤ (300 : Int32) then (bnd (a3 - (1 : Int32)) fun b5 => g_X10_type_37 N a1 N S1 b5) else (some ((-3 : Int32), S1)))
def f_X10_clear (S : St) : Option (Int32 × St) :=
  bnd (sI S 0 0 (0 : Int32)) fun S1 => bnd (gI S1 0 3) fun b2 => bnd (sI S1 0 3 (0 : Int32)) fun S3 => some (b2, S3)
def f_X10_byteAt (S : St) (a1 : Int32) : Option Int32 :=
  if (gI S 0 3) ≤ a1 then (some (-1 : Int32)) else (if (a1 < 0 ∨ 300 ≤ a1.toNatClampNeg) then none else some (gA S 1 a1.toNatClampNeg))
def f_X10_add (a0 : Int64) (a2 : Int32) : Option Int64 :=
  if a2 = 0 then (some a0) else (some (((256 : Int64) * a0) + (a2.toInt64)))
def f_X10_named (a0 : Int32) (a1 : Int32) (a2 : Int32) (a3 : Int32) (a4 : Int32) (a5 : Int32) : Option Int64 :=
  (f_X10_add (0 : Int64) a0).bind fun r1 => (f_X10_add r1 a1).bind fun r2 => (f_X10_add r2 a2).bind fun r3 => (f_X10_add r3 a3).bind fun r4 => (f_X10_add r4 a4).bind fun r5 => (f_X10_add r5 a5).bind fun r6 => some r6
def f_X10_wordOf_115 (a0 : Int64) (t0 : Int32) : Option Int32 :=
  (f_X10_named (110 : Int32) (101 : Int32) (101 : Int32) (100 : Int32) (0 : Int32) (0 : Int32)).bind fun r11 => if (lg_cmp a0 r11) = 0 then (some (5 : Int32)) else ((f_X10_named (100 : Int32) (114 : Int32) (111 : Int32) (112 : Int32) (0 : Int32) (0 : Int32)).bind fun r13 => if (lg_cmp a0 r13) = 0 then (some (6 : Int32)) else (some t0))
def f_X10_wordOf_67 (a0 : Int64) (t0 : Int32) : Option Int32 :=
  (f_X10_named (114 : Int32) (117 : Int32) (110 : Int32) (110 : Int32) (101 : Int32) (114 : Int32)).bind fun r7 => if (lg_cmp a0 r7) = 0 then (f_X10_wordOf_115 a0 (3 : Int32)) else ((f_X10_named (114 : Int32) (111 : Int32) (112 : Int32) (101 : Int32) (0 : Int32) (0 : Int32)).bind fun r9 => if (lg_cmp a0 r9) = 0 then (f_X10_wordOf_115 a0 (4 : Int32)) else (f_X10_wordOf_115 a0 t0))
def f_X10_wordOf (a0 : Int64) : Option Int32 :=
  (f_X10_named (108 : Int32) (97 : Int32) (110 : Int32) (101 : Int32) (0 : Int32) (0 : Int32)).bind fun r1 => if (lg_cmp a0 r1) = 0 then (f_X10_wordOf_67 a0 (0 : Int32)) else ((f_X10_named (119 : Int32) (105 : Int32) (110 : Int32) (100 : Int32) (0 : Int32) (0 : Int32)).bind fun r3 => if (lg_cmp a0 r3) = 0 then (f_X10_wordOf_67 a0 (1 : Int32)) else ((f_X10_named (119 : Int32) (101 : Int32) (116 : Int32) (0 : Int32) (0 : Int32) (0 : Int32)).bind fun r5 => if (lg_cmp a0 r5) = 0 then (f_X10_wordOf_67 a0 (2 : Int32)) else (f_X10_wordOf_67 a0 (-9 : Int32))))
def s_X10_advances_0 (N : Nat) (k26 : St → Option St) (rec : St → Option St) (S : St) : Option St :=
  (f_X10_byteAt S (gI S 0 4)).bind fun r1 => if r1 = (32 : Int32) then (bnd (sI S 0 4 ((gI S 0 4) + (1 : Int32))) fun S3 => rec S3) else (k26 S)
def g_X10_advances_0 (N : Nat) (k26 : St → Option St) : Nat → St → Option St
  | 0, _ => none
  | n + 1, v0 => s_X10_advances_0 N k26 (g_X10_advances_0 N k26 n) v0
def f_X10_advances_307 (N : Nat) (S : St) (t1 : Int32) : Option St :=
  bnd (sI S 0 5 t1) fun S14 => some S14
def f_X10_advances_229 (N : Nat) (k245 : St → Int32 → Option St) (rec : St → Int32 → Option St) (S : St) (x1 : Int32) (t1 : Int32) : Option St :=
  bnd (sI S 0 7 t1) fun S21 => bnd (sI S21 0 4 ((gI S21 0 4) + (1 : Int32))) fun S22 => rec S22 x1
def s_X10_advances_175 (N : Nat) (k245 : St → Int32 → Option St) (rec : St → Int32 → Option St) (S : St) (x1 : Int32) : Option St :=
  (f_X10_byteAt S (gI S 0 4)).bind fun r16 => (f_X10_in r16 (48 : Int32) (57 : Int32)).bind fun r17 => if r17 = 0 then (k245 S x1) else (if (gI S 0 7) ≤ (99 : Int32) then ((f_X10_byteAt S (gI S 0 4)).bind fun r20 => f_X10_advances_229 N k245 rec S x1 ((((10 : Int32) * (gI S 0 7)) + r20) - (48 : Int32))) else (f_X10_advances_229 N k245 rec S x1 (gI S 0 7)))
def g_X10_advances_175 (N : Nat) (k245 : St → Int32 → Option St) : Nat → St → Int32 → Option St
  | 0, _, _ => none
  | n + 1, v0, v1 => s_X10_advances_175 N k245 (g_X10_advances_175 N k245 n) v0 v1
def f_X10_advances_279 (N : Nat) (S : St) (t1 : Int32) : Option St :=
  bnd (sI S 0 5 t1) fun S26 => some S26
def f_X10_advances_274 (N : Nat) (S : St) : Option St :=
  f_X10_advances_279 N S (4 : Int32)
def f_X10_advances_278 (N : Nat) (S : St) : Option St :=
  f_X10_advances_279 N S (2 : Int32)
def f_X10_advances_116 (N : Nat) (k130 : St → Int64 → Option St) (rec : St → Int64 → Option St) (S : St) (t0 : Int64) : Option St :=
  bnd (sI S 0 4 ((gI S 0 4) + (1 : Int32))) fun S33 => rec S33 t0
def s_X10_advances_68 (N : Nat) (k130 : St → Int64 → Option St) (rec : St → Int64 → Option St) (S : St) (x2 : Int64) : Option St :=
  (f_X10_byteAt S (gI S 0 4)).bind fun r29 => (f_X10_in r29 (97 : Int32) (122 : Int32)).bind fun r30 => if r30 = 0 then (k130 S x2) else (if (7 : Int32) ≤ ((gI S 0 4) - (gI S 0 6)) then (f_X10_advances_116 N k130 rec S x2) else ((f_X10_byteAt S (gI S 0 4)).bind fun r34 => (f_X10_add x2 r34).bind fun r35 => f_X10_advances_116 N k130 rec S r35))
def g_X10_advances_68 (N : Nat) (k130 : St → Int64 → Option St) : Nat → St → Int64 → Option St
  | 0, _, _ => none
  | n + 1, v0, v1 => s_X10_advances_68 N k130 (g_X10_advances_68 N k130 n) v0 v1
def f_X10_advances_153 (N : Nat) (S : St) (t1 : Int32) : Option St :=
  bnd (sI S 0 5 t1) fun S41 => some S41
def f_X10_advances (N : Nat) (S : St) : Option St :=
  g_X10_advances_0 N (fun S4 => bnd (sI S4 0 6 (gI S4 0 4)) fun S5 => (f_X10_byteAt S5 (gI S5 0 4)).bind fun r6 => if 0 ≤ r6 then ((f_X10_in r6 (97 : Int32) (122 : Int32)).bind fun r8 => if r8 = 0 then ((f_X10_in r6 (48 : Int32) (57 : Int32)).bind fun r10 => if r10 = 0 then (bnd (sI S5 0 4 ((gI S5 0 4) + (1 : Int32))) fun S12 => if r6 = (59 : Int32) then (f_X10_advances_307 N S12 (3 : Int32)) else (f_X10_advances_307 N S12 (4 : Int32))) else (bnd (sI S5 0 7 (0 : Int32)) fun S15 => g_X10_advances_175 N (fun S24 y23 => if (99 : Int32) < (gI S24 0 7) then (f_X10_advances_274 N S24) else (if y23 = (48 : Int32) then (if ((gI S24 0 4) - (gI S24 0 6)) ≤ (1 : Int32) then (f_X10_advances_278 N S24) else (f_X10_advances_274 N S24)) else (f_X10_advances_278 N S24))) N S15 r6)) else (g_X10_advances_68 N (fun S37 y36 => (f_X10_wordOf y36).bind fun r38 => bnd (sI S37 0 7 r38) fun S39 => if (gI S39 0 7) = (-9 : Int32) then (f_X10_advances_153 N S39 (4 : Int32)) else (f_X10_advances_153 N S39 (1 : Int32))) N S5 (0 : Int64))) else (bnd (sI S5 0 5 (0 : Int32)) fun S42 => some S42)) N S
def f_X10_isWell (S : St) : Option Int32 :=
  if 0 ≤ (gI S 0 8) then (some (0 : Int32)) else (some (1 : Int32))
def f_X10_takes (N : Nat) (S : St) (a1 : Int32) : Option (Int32 × St) :=
  (f_X10_isWell S).bind fun r1 => if r1 = 0 then (some ((0 : Int32), S)) else (if a1 = 0 then (bnd (sI S 0 8 (gI S 0 6)) fun S6 => some ((0 : Int32), S6)) else (bnd (gI S 0 7) fun b4 => (f_X10_advances N S).bind fun r5 => some (b4, r5)))
def f_X10_number_26 (N : Nat) (S : St) (t1 : Int32) : Option (Int32 × St) :=
  (f_X10_takes N S t1).bind fun r2 => some (r2.1, r2.2)
def f_X10_number_25 (N : Nat) (S : St) : Option (Int32 × St) :=
  f_X10_number_26 N S (0 : Int32)
def f_X10_number (N : Nat) (S : St) (a1 : Int32) (a2 : Int32) : Option (Int32 × St) :=
  if (gI S 0 5) = (2 : Int32) then ((f_X10_in (gI S 0 7) a1 a2).bind fun r3 => if r3 = 0 then (f_X10_number_25 N S) else (f_X10_number_26 N S (1 : Int32))) else (f_X10_number_25 N S)
def f_X10_mayBegin (S : St) (a1 : Int32) : Option Int32 :=
  if (gI S 0 7) = 0 then (if a1 = 0 then (some (1 : Int32)) else (some (0 : Int32))) else (if (gI S 0 7) = (3 : Int32) then (if (3 : Int32) ≤ (gI S 0 17) then (some (0 : Int32)) else (some (1 : Int32))) else (if (gI S 0 7) < (3 : Int32) then (some (1 : Int32)) else (if ((7 : Int32) + (gI S 0 7) < 0 ∨ 14 ≤ ((7 : Int32) + (gI S 0 7)).toNatClampNeg) then none else if (gA S 6 ((7 : Int32) + (gI S 0 7)).toNatClampNeg) = (-9 : Int32) then (some (1 : Int32)) else (some (0 : Int32)))))
def f_X10_readsItem_222 (N : Nat) (S : St) (t1 : Int32) (t3 : Int32) (t4 : Int32) : Option St :=
  (f_X10_number N S t3 t4).bind fun r7 => if (t1 < 0 ∨ 14 ≤ t1.toNatClampNeg) then none else bnd (sA r7.2 6 (upd (gA r7.2 6) t1.toNatClampNeg r7.1)) fun S9 => some S9
def f_X10_readsItem_135 (N : Nat) (S : St) (t1 : Int32) (t2 : Int32) : Option St :=
  if (t1 < 0 ∨ 48 ≤ t1.toNatClampNeg) then none else bnd (sA S 3 (upd (gA S 3) t1.toNatClampNeg t2)) fun S22 => some S22
def f_X10_readsItem_86 (N : Nat) (S : St) (t1 : Int32) (t2 : Int32) : Option St :=
  if (t1 < 0 ∨ 48 ≤ t1.toNatClampNeg) then none else bnd (sA S 2 (upd (gA S 2) t1.toNatClampNeg t2)) fun S29 => some S29
def f_X10_readsItem_28 (N : Nat) (S : St) (t1 : Int32) : Option St :=
  bnd (sI S 0 16 t1) fun S33 => some S33
def f_X10_readsItem (N : Nat) (S : St) (a1 : Int32) : Option St :=
  if a1 = 0 then ((f_X10_number N S (4 : Int32) (24 : Int32)).bind fun r30 => (f_X10_isWell r30.2).bind fun r31 => if r31 = 0 then (f_X10_readsItem_28 N r30.2 (gI r30.2 0 16)) else (f_X10_readsItem_28 N r30.2 r30.1)) else (if a1 = (1 : Int32) then ((f_X10_number N S (0 : Int32) ((gI S 0 16) - (1 : Int32))).bind fun r23 => (f_X10_number N r23.2 (1 : Int32) (3 : Int32)).bind fun r24 => (f_X10_isWell r24.2).bind fun r25 => if r25 = 0 then (if ((24 : Int32) + r23.1 < 0 ∨ 48 ≤ ((24 : Int32) + r23.1).toNatClampNeg) then none else f_X10_readsItem_86 N r24.2 ((24 : Int32) + r23.1) (gA r24.2 2 ((24 : Int32) + r23.1).toNatClampNeg)) else (f_X10_readsItem_86 N r24.2 ((24 : Int32) + r23.1) r24.1)) else (if a1 = (2 : Int32) then ((f_X10_number N S (0 : Int32) ((gI S 0 16) - (1 : Int32))).bind fun r17 => (f_X10_isWell r17.2).bind fun r18 => if r18 = 0 then (if ((24 : Int32) + r17.1 < 0 ∨ 48 ≤ ((24 : Int32) + r17.1).toNatClampNeg) then none else f_X10_readsItem_135 N r17.2 ((24 : Int32) + r17.1) (gA r17.2 3 ((24 : Int32) + r17.1).toNatClampNeg)) else (f_X10_readsItem_135 N r17.2 ((24 : Int32) + r17.1) (1 : Int32))) else (if a1 = (3 : Int32) then ((f_X10_number N S (1 : Int32) (4 : Int32)).bind fun r10 => if ((3 : Int32) + (gI S 0 17) < 0 ∨ 6 ≤ ((3 : Int32) + (gI S 0 17)).toNatClampNeg) then none else bnd (sA r10.2 4 (upd (gA r10.2 4) ((3 : Int32) + (gI S 0 17)).toNatClampNeg r10.1)) fun S12 => (f_X10_number N S12 (0 : Int32) (9 : Int32)).bind fun r13 => if ((3 : Int32) + (gI S12 0 17) < 0 ∨ 6 ≤ ((3 : Int32) + (gI S12 0 17)).toNatClampNeg) then none else bnd (sA r13.2 5 (upd (gA r13.2 5) ((3 : Int32) + (gI S12 0 17)).toNatClampNeg r13.1)) fun S15 => bnd (sI S15 0 17 ((gI S15 0 17) + (1 : Int32))) fun S16 => some S16) else (if a1 = (4 : Int32) then (f_X10_readsItem_222 N S ((7 : Int32) + a1) (1 : Int32) (3 : Int32)) else (if a1 = (5 : Int32) then (f_X10_readsItem_222 N S ((7 : Int32) + a1) (1 : Int32) (4 : Int32)) else (f_X10_readsItem_222 N S ((7 : Int32) + a1) (1 : Int32) (9 : Int32)))))))
def s_X10_settles_18 (N : Nat) (k60 : St → Option St) (rec : St → Int32 → Option St) (S : St) (x1 : Int32) : Option St :=
  if (24 : Int32) ≤ x1 then (k60 S) else (if ((24 : Int32) + x1 < 0 ∨ 48 ≤ ((24 : Int32) + x1).toNatClampNeg) then none else if (x1 < 0 ∨ 48 ≤ x1.toNatClampNeg) then none else bnd (sA S 2 (upd (gA S 2) x1.toNatClampNeg (gA S 2 ((24 : Int32) + x1).toNatClampNeg))) fun S6 => if ((24 : Int32) + x1 < 0 ∨ 48 ≤ ((24 : Int32) + x1).toNatClampNeg) then none else if (x1 < 0 ∨ 48 ≤ x1.toNatClampNeg) then none else bnd (sA S6 3 (upd (gA S6 3) x1.toNatClampNeg (gA S6 3 ((24 : Int32) + x1).toNatClampNeg))) fun S9 => rec S9 (x1 + (1 : Int32)))
def g_X10_settles_18 (N : Nat) (k60 : St → Option St) : Nat → St → Int32 → Option St
  | 0, _, _ => none
  | n + 1, v0, v1 => s_X10_settles_18 N k60 (g_X10_settles_18 N k60 n) v0 v1
def s_X10_settles_62 (N : Nat) (k101 : St → Option St) (rec : St → Int32 → Option St) (S : St) (x1 : Int32) : Option St :=
  if (3 : Int32) ≤ x1 then (k101 S) else (if ((3 : Int32) + x1 < 0 ∨ 6 ≤ ((3 : Int32) + x1).toNatClampNeg) then none else if (x1 < 0 ∨ 6 ≤ x1.toNatClampNeg) then none else bnd (sA S 4 (upd (gA S 4) x1.toNatClampNeg (gA S 4 ((3 : Int32) + x1).toNatClampNeg))) fun S14 => if ((3 : Int32) + x1 < 0 ∨ 6 ≤ ((3 : Int32) + x1).toNatClampNeg) then none else if (x1 < 0 ∨ 6 ≤ x1.toNatClampNeg) then none else bnd (sA S14 5 (upd (gA S14 5) x1.toNatClampNeg (gA S14 5 ((3 : Int32) + x1).toNatClampNeg))) fun S17 => rec S17 (x1 + (1 : Int32)))
def g_X10_settles_62 (N : Nat) (k101 : St → Option St) : Nat → St → Int32 → Option St
  | 0, _, _ => none
  | n + 1, v0, v1 => s_X10_settles_62 N k101 (g_X10_settles_62 N k101 n) v0 v1
def s_X10_settles_191 (N : Nat) (k210 : St → Option St) (rec : St → Int32 → Option St) (S : St) (x1 : Int32) : Option St :=
  if (9 : Int32) ≤ x1 then (k210 S) else (if (x1 < 0 ∨ 10 ≤ x1.toNatClampNeg) then none else bnd (sA S 7 (upd (gA S 7) x1.toNatClampNeg (0 : Int32))) fun S36 => rec S36 (x1 + (1 : Int32)))
def g_X10_settles_191 (N : Nat) (k210 : St → Option St) : Nat → St → Int32 → Option St
  | 0, _, _ => none
  | n + 1, v0, v1 => s_X10_settles_191 N k210 (g_X10_settles_191 N k210 n) v0 v1
def f_X10_settles_188 (N : Nat) (S : St) (t1 : Int32) (t2 : Int32) : Option St :=
  if (t1 < 0 ∨ 14 ≤ t1.toNatClampNeg) then none else bnd (sA S 6 (upd (gA S 6) t1.toNatClampNeg t2)) fun S33 => g_X10_settles_191 N (fun S37 => bnd (sI S37 0 3 (0 : Int32)) fun S38 => bnd (sI S38 0 22 (0 : Int32)) fun S39 => bnd (sI S39 0 24 (0 : Int32)) fun S40 => if ((0 : Int32) < 0 ∨ 2 ≤ (0 : Int32).toNatClampNeg) then none else bnd (sA S40 9 (upd (gA S40 9) (0 : Int32).toNatClampNeg (0 : Int32))) fun S42 => if ((1 : Int32) < 0 ∨ 2 ≤ (1 : Int32).toNatClampNeg) then none else bnd (sA S42 9 (upd (gA S42 9) (1 : Int32).toNatClampNeg (0 : Int32))) fun S44 => some S44) N S33 (0 : Int32)
def f_X10_settles_158 (N : Nat) (S : St) (t1 : Int32) (t2 : Int32) : Option St :=
  if (t1 < 0 ∨ 14 ≤ t1.toNatClampNeg) then none else bnd (sA S 6 (upd (gA S 6) t1.toNatClampNeg t2)) fun S28 => if ((13 : Int32) < 0 ∨ 14 ≤ (13 : Int32).toNatClampNeg) then none else if (gA S28 6 (13 : Int32).toNatClampNeg) = (-9 : Int32) then (f_X10_settles_188 N S28 (6 : Int32) (3 : Int32)) else (if ((13 : Int32) < 0 ∨ 14 ≤ (13 : Int32).toNatClampNeg) then none else f_X10_settles_188 N S28 (6 : Int32) (gA S28 6 (13 : Int32).toNatClampNeg))
def f_X10_settles_129 (N : Nat) (S : St) (t1 : Int32) (t2 : Int32) : Option St :=
  if (t1 < 0 ∨ 14 ≤ t1.toNatClampNeg) then none else bnd (sA S 6 (upd (gA S 6) t1.toNatClampNeg t2)) fun S23 => if ((12 : Int32) < 0 ∨ 14 ≤ (12 : Int32).toNatClampNeg) then none else if (gA S23 6 (12 : Int32).toNatClampNeg) = (-9 : Int32) then (f_X10_settles_158 N S23 (5 : Int32) (3 : Int32)) else (if ((12 : Int32) < 0 ∨ 14 ≤ (12 : Int32).toNatClampNeg) then none else f_X10_settles_158 N S23 (5 : Int32) (gA S23 6 (12 : Int32).toNatClampNeg))
def f_X10_settles (N : Nat) (S : St) : Option St :=
  bnd (sI S 0 14 (gI S 0 16)) fun S1 => bnd (sI S1 0 15 (gI S1 0 17)) fun S2 => g_X10_settles_18 N (fun S10 => g_X10_settles_62 N (fun S18 => if ((11 : Int32) < 0 ∨ 14 ≤ (11 : Int32).toNatClampNeg) then none else if (gA S18 6 (11 : Int32).toNatClampNeg) = (-9 : Int32) then (f_X10_settles_129 N S18 (4 : Int32) (2 : Int32)) else (if ((11 : Int32) < 0 ∨ 14 ≤ (11 : Int32).toNatClampNeg) then none else f_X10_settles_129 N S18 (4 : Int32) (gA S18 6 (11 : Int32).toNatClampNeg))) N S10 (0 : Int32)) N S2 (0 : Int32)
def s_X10_lane_31 (N : Nat) (k57 : St → Int32 → Option (Int32 × St)) (rec : St → Int32 → Int32 → Option (Int32 × St)) (S : St) (x1 : Int32) (x2 : Int32) : Option (Int32 × St) :=
  if (48 : Int32) ≤ x2 then (k57 S x1) else (if (x2 < 0 ∨ 48 ≤ x2.toNatClampNeg) then none else bnd (sA S 2 (upd (gA S 2) x2.toNatClampNeg (0 : Int32))) fun S8 => if (x2 < 0 ∨ 48 ≤ x2.toNatClampNeg) then none else bnd (sA S8 3 (upd (gA S8 3) x2.toNatClampNeg (0 : Int32))) fun S10 => rec S10 x1 (x2 + (1 : Int32)))
def g_X10_lane_31 (N : Nat) (k57 : St → Int32 → Option (Int32 × St)) : Nat → St → Int32 → Int32 → Option (Int32 × St)
  | 0, _, _, _ => none
  | n + 1, v0, v1, v2 => s_X10_lane_31 N k57 (g_X10_lane_31 N k57 n) v0 v1 v2
def s_X10_lane_60 (N : Nat) (k80 : St → Int32 → Option (Int32 × St)) (rec : St → Int32 → Int32 → Option (Int32 × St)) (S : St) (x1 : Int32) (x2 : Int32) : Option (Int32 × St) :=
  if (14 : Int32) ≤ x2 then (k80 S x1) else (if (x2 < 0 ∨ 14 ≤ x2.toNatClampNeg) then none else bnd (sA S 6 (upd (gA S 6) x2.toNatClampNeg (-9 : Int32))) fun S15 => rec S15 x1 (x2 + (1 : Int32)))
def g_X10_lane_60 (N : Nat) (k80 : St → Int32 → Option (Int32 × St)) : Nat → St → Int32 → Int32 → Option (Int32 × St)
  | 0, _, _, _ => none
  | n + 1, v0, v1, v2 => s_X10_lane_60 N k80 (g_X10_lane_60 N k80 n) v0 v1 v2
def f_X10_lane_150 (N : Nat) (k160 : St → Int32 → Option (Int32 × St)) (rec : St → Int32 → Option (Int32 × St)) (S : St) (x1 : Int32) (t1 : Int32) : Option (Int32 × St) :=
  (f_X10_takes N S t1).bind fun r27 => rec r27.2 (x1 + (1 : Int32))
def f_X10_lane_136 (N : Nat) (k160 : St → Int32 → Option (Int32 × St)) (rec : St → Int32 → Option (Int32 × St)) (S : St) (x1 : Int32) : Option (Int32 × St) :=
  if (gI S 0 5) = (3 : Int32) then (f_X10_lane_150 N k160 rec S x1 (1 : Int32)) else (f_X10_lane_150 N k160 rec S x1 (0 : Int32))
def f_X10_lane_120 (N : Nat) (k160 : St → Int32 → Option (Int32 × St)) (rec : St → Int32 → Option (Int32 × St)) (S : St) (x1 : Int32) (t1 : Int32) : Option (Int32 × St) :=
  (f_X10_takes N S t1).bind fun r23 => (f_X10_isWell r23.2).bind fun r24 => if r24 = 0 then (f_X10_lane_136 N k160 rec r23.2 x1) else ((f_X10_readsItem N r23.2 r23.1).bind fun r28 => f_X10_lane_136 N k160 rec r28 x1)
def f_X10_lane_119 (N : Nat) (k160 : St → Int32 → Option (Int32 × St)) (rec : St → Int32 → Option (Int32 × St)) (S : St) (x1 : Int32) : Option (Int32 × St) :=
  f_X10_lane_120 N k160 rec S x1 (0 : Int32)
def s_X10_lane_84 (N : Nat) (k160 : St → Int32 → Option (Int32 × St)) (rec : St → Int32 → Option (Int32 × St)) (S : St) (x1 : Int32) : Option (Int32 × St) :=
  (f_X10_isWell S).bind fun r19 => if r19 = 0 then (k160 S x1) else (if (gI S 0 5) = 0 then (k160 S x1) else (if (gI S 0 5) = (1 : Int32) then ((f_X10_mayBegin S x1).bind fun r29 => if r29 = 0 then (f_X10_lane_119 N k160 rec S x1) else (f_X10_lane_120 N k160 rec S x1 (1 : Int32))) else (f_X10_lane_119 N k160 rec S x1)))
def g_X10_lane_84 (N : Nat) (k160 : St → Int32 → Option (Int32 × St)) : Nat → St → Int32 → Option (Int32 × St)
  | 0, _, _ => none
  | n + 1, v0, v1 => s_X10_lane_84 N k160 (g_X10_lane_84 N k160 n) v0 v1
def f_X10_lane_160 (N : Nat) (S : St) (x1 : Int32) : Option (Int32 × St) :=
  (f_X10_isWell S).bind fun r33 => if r33 = 0 then (some ((-10 : Int32) - (gI S 0 8), S)) else ((f_X10_settles N S).bind fun r35 => some (x1, r35))
def f_X10_lane (N : Nat) (S : St) : Option (Int32 × St) :=
  bnd (sI S 0 0 (0 : Int32)) fun S1 => bnd (sI S1 0 8 (-1 : Int32)) fun S2 => bnd (sI S2 0 4 (0 : Int32)) fun S3 => bnd (sI S3 0 16 (12 : Int32)) fun S4 => bnd (sI S4 0 17 (0 : Int32)) fun S5 => g_X10_lane_31 N (fun S12 y11 => g_X10_lane_60 N (fun S17 y16 => (f_X10_advances N S17).bind fun r18 => g_X10_lane_84 N (fun S32 y31 => f_X10_lane_160 N S32 y31) N r18 y16) N S12 y11 (7 : Int32)) N S5 (0 : Int32) (24 : Int32)
def f_X10_isYard (S : St) (a1 : Int32) : Option Int32 :=
  (f_X10_in a1 (0 : Int32) ((gI S 0 14) - (1 : Int32))).bind fun r1 => if ¬ (r1 &&& 1 = r1) then none else some r1
def f_X10_isRunner (S : St) (a1 : Int32) : Option Int32 :=
  (f_X10_in a1 (0 : Int32) ((gI S 0 15) - (1 : Int32))).bind fun r1 => if ¬ (r1 &&& 1 = r1) then none else some r1
def f_X10_isToss (a0 : Int32) (a1 : Int32) (a2 : Int32) (a3 : Int32) : Option Int32 :=
  (f_X10_in a0 (1 : Int32) (4 : Int32)).bind fun r1 => if r1 = 0 then (some (0 : Int32)) else ((f_X10_in a1 (0 : Int32) (9 : Int32)).bind fun r3 => if r3 = 0 then (some (0 : Int32)) else ((f_X10_in a2 (0 : Int32) (7 : Int32)).bind fun r5 => if r5 = 0 then (some (0 : Int32)) else ((f_X10_in a3 (0 : Int32) (1 : Int32)).bind fun r7 => if r7 = 0 then (some (0 : Int32)) else (some (1 : Int32)))))
def f_X10_yard (S : St) (a1 : Int32) (a2 : Int32) : Option (Int32 × St) :=
  bnd (sI S 0 0 (0 : Int32)) fun S1 => (f_X10_isYard S1 a1).bind fun r2 => if r2 = 0 then (some ((-1 : Int32), S1)) else ((f_X10_in a2 (0 : Int32) (1 : Int32)).bind fun r4 => if r4 = 0 then (some ((-1 : Int32), S1)) else (if a2 = 0 then (if (a1 < 0 ∨ 48 ≤ a1.toNatClampNeg) then none else some (gA S1 2 a1.toNatClampNeg, S1)) else (if (a1 < 0 ∨ 48 ≤ a1.toNatClampNeg) then none else some (gA S1 3 a1.toNatClampNeg, S1))))
def f_X10_told (S : St) (a1 : Int32) : Option (Int32 × St) :=
  bnd (sI S 0 0 (0 : Int32)) fun S1 => if a1 = 0 then (some (gI S1 0 14, S1)) else ((f_X10_in a1 (1 : Int32) (3 : Int32)).bind fun r3 => if r3 = 0 then (some ((-1 : Int32), S1)) else (if (((4 : Int32) + a1) - (1 : Int32) < 0 ∨ 14 ≤ (((4 : Int32) + a1) - (1 : Int32)).toNatClampNeg) then none else some (gA S1 6 (((4 : Int32) + a1) - (1 : Int32)).toNatClampNeg, S1)))
def f_X10_isHome (S : St) (a1 : Int32) : Option Int32 :=
  if ((3 : Int32) * a1 < 0 ∨ 10 ≤ ((3 : Int32) * a1).toNatClampNeg) then none else if (gA S 7 ((3 : Int32) * a1).toNatClampNeg) = (gI S 0 14) then (if (((3 : Int32) * a1) + (2 : Int32) < 0 ∨ 10 ≤ (((3 : Int32) * a1) + (2 : Int32)).toNatClampNeg) then none else if ((5 : Int32) < 0 ∨ 14 ≤ (5 : Int32).toNatClampNeg) then none else if (gA S 7 (((3 : Int32) * a1) + (2 : Int32)).toNatClampNeg) < (gA S 6 (5 : Int32).toNatClampNeg) then (some (0 : Int32)) else (some (1 : Int32))) else (some (0 : Int32))
def f_X10_runner (S : St) (a1 : Int32) (a2 : Int32) : Option (Int32 × St) :=
  bnd (sI S 0 0 (0 : Int32)) fun S1 => (f_X10_isRunner S1 a1).bind fun r2 => if r2 = 0 then (some ((-1 : Int32), S1)) else ((f_X10_in a2 (0 : Int32) (5 : Int32)).bind fun r4 => if r4 = 0 then (some ((-1 : Int32), S1)) else (if (2 : Int32) ≤ a2 then (if (5 : Int32) ≤ a2 then ((f_X10_isHome S1 a1).bind fun r8 => if r8 = 0 then (some ((0 : Int32), S1)) else (some ((1 : Int32), S1))) else (if ((((3 : Int32) * a1) + a2) - (2 : Int32) < 0 ∨ 10 ≤ ((((3 : Int32) * a1) + a2) - (2 : Int32)).toNatClampNeg) then none else some (gA S1 7 ((((3 : Int32) * a1) + a2) - (2 : Int32)).toNatClampNeg, S1))) else (if a2 = 0 then (if (a1 < 0 ∨ 6 ≤ a1.toNatClampNeg) then none else some (gA S1 4 a1.toNatClampNeg, S1)) else (if (a1 < 0 ∨ 6 ≤ a1.toNatClampNeg) then none else some (gA S1 5 a1.toNatClampNeg, S1)))))
def f_X10_reckons_161 (S : St) (t0 : Int32) (t1 : Int32) : Option (Int32 × St) :=
  bnd (t0 - t1) fun b12 => if 0 ≤ b12 then (if b12 ≤ (10 : Int32) then (some (b12, S)) else (some ((10 : Int32), S))) else (some ((0 : Int32), S))
def f_X10_reckons_160 (S : St) (t0 : Int32) : Option (Int32 × St) :=
  f_X10_reckons_161 S t0 (0 : Int32)
def f_X10_reckons_131 (S : St) (t0 : Int32) (t1 : Int32) : Option (Int32 × St) :=
  if (gI S 0 14) ≤ (gI S 0 26) then (f_X10_reckons_160 S (t0 - t1)) else (if (gI S 0 26 < 0 ∨ 48 ≤ (gI S 0 26).toNatClampNeg) then none else if (gA S 3 (gI S 0 26).toNatClampNeg) = (1 : Int32) then (f_X10_reckons_161 S (t0 - t1) (2 : Int32)) else (f_X10_reckons_160 S (t0 - t1)))
def f_X10_reckons_102 (a1 : Int32) (S : St) (t0 : Int32) : Option (Int32 × St) :=
  if (a1 < 0 ∨ 6 ≤ a1.toNatClampNeg) then none else if ((gI S 0 27) - (gI S 0 27) / (2 : Int32) * (2 : Int32)) = 0 then (f_X10_reckons_131 S (((gA S 5 a1.toNatClampNeg) + (3 : Int32)) - ((3 : Int32) * t0)) (0 : Int32)) else (f_X10_reckons_131 S (((gA S 5 a1.toNatClampNeg) + (3 : Int32)) - ((3 : Int32) * t0)) (2 : Int32))
def f_X10_reckons_59 (a1 : Int32) (a3 : Int32) (a5 : Int32) (S : St) (t1 : Int32) : Option (Int32 × St) :=
  bnd (sI S 0 26 t1) fun S6 => bnd (sI S6 0 27 (a5 * a3)) fun S7 => if (gI S7 0 26) ≤ (gI S7 0 25) then (f_X10_reckons_102 a1 S7 ((gI S7 0 25) - (gI S7 0 26))) else (f_X10_reckons_102 a1 S7 ((gI S7 0 26) - (gI S7 0 25)))
def f_X10_reckons_38 (a1 : Int32) (a3 : Int32) (a5 : Int32) (S : St) (t0 : Int32) : Option (Int32 × St) :=
  if t0 ≤ (gI S 0 14) then (f_X10_reckons_59 a1 a3 a5 S t0) else (f_X10_reckons_59 a1 a3 a5 S (gI S 0 14))
def f_X10_reckons (S : St) (a1 : Int32) (a2 : Int32) (a3 : Int32) (a4 : Int32) (a5 : Int32) (a6 : Int32) : Option (Int32 × St) :=
  if (a2 < 0 ∨ 48 ≤ a2.toNatClampNeg) then none else bnd (sI S 0 25 ((a2 + a4) - (a3 * (gA S 2 a2.toNatClampNeg)))) fun S2 => if a6 = 0 then (f_X10_reckons_38 a1 a3 a5 S2 a2) else (if (a1 < 0 ∨ 6 ≤ a1.toNatClampNeg) then none else f_X10_reckons_38 a1 a3 a5 S2 (a2 + (((gA S2 4 a1.toNatClampNeg) * (2 : Int32)) * a3)))
def f_X10_comes (S : St) (a1 : Int32) (a2 : Int32) (a3 : Int32) (a4 : Int32) (a5 : Int32) (a6 : Int32) (a7 : Int32) : Option (Int32 × St) :=
  bnd (sI S 0 0 (0 : Int32)) fun S1 => (f_X10_isRunner S1 a1).bind fun r2 => if r2 = 0 then (some ((-1000000 : Int32), S1)) else ((f_X10_isYard S1 a2).bind fun r4 => if r4 = 0 then (some ((-1000000 : Int32), S1)) else ((f_X10_isToss a3 a4 a5 a6).bind fun r6 => if r6 = 0 then (some ((-1000000 : Int32), S1)) else ((f_X10_in a7 (0 : Int32) (4 : Int32)).bind fun r8 => if r8 = 0 then (some ((-1000000 : Int32), S1)) else ((f_X10_reckons S1 a1 a2 a3 a4 a5 a6).bind fun r10 => if (3 : Int32) ≤ a7 then (if a7 = (4 : Int32) then (some (r10.1, r10.2)) else (if ((gI r10.2 0 27) - (gI r10.2 0 27) / (4 : Int32) * (4 : Int32)) = (2 : Int32) then (some ((1 : Int32), r10.2)) else (some ((0 : Int32), r10.2)))) else (if a7 = 0 then (some (gI r10.2 0 25, r10.2)) else (if a7 = (1 : Int32) then (some (gI r10.2 0 26, r10.2)) else (some (gI r10.2 0 27, r10.2))))))))
def s_X10_bestOf_35 (N : Nat) (a1 : Int32) (a2 : Int32) (a3 : Int32) (k100 : St → Int32 → Int32 → Int32 → Int32 → Option (Int32 × St)) (rec : St → Int32 → Int32 → Int32 → Int32 → Int32 → Option (Int32 × St)) (S : St) (x4 : Int32) (x5 : Int32) (x6 : Int32) (x7 : Int32) (x8 : Int32) : Option (Int32 × St) :=
  if (8 : Int32) ≤ x8 then (k100 S x4 x5 x6 x7) else ((f_X10_reckons S a1 a2 x6 x7 x8 a3).bind fun r6 => if ((gI r6.2 0 27) - (gI r6.2 0 27) / (4 : Int32) * (4 : Int32)) = (2 : Int32) then (if r6.1 ≤ x5 then (rec r6.2 x4 x5 x6 x7 (x8 + (1 : Int32))) else (bnd ((((100 : Int32) * x6) + ((10 : Int32) * x7)) + x8) fun b9 => rec r6.2 b9 r6.1 x6 x7 (x8 + (1 : Int32)))) else (rec r6.2 x4 x5 x6 x7 (x8 + (1 : Int32))))
def g_X10_bestOf_35 (N : Nat) (a1 : Int32) (a2 : Int32) (a3 : Int32) (k100 : St → Int32 → Int32 → Int32 → Int32 → Option (Int32 × St)) : Nat → St → Int32 → Int32 → Int32 → Int32 → Int32 → Option (Int32 × St)
  | 0, _, _, _, _, _, _ => none
  | n + 1, v0, v1, v2, v3, v4, v5 => s_X10_bestOf_35 N a1 a2 a3 k100 (g_X10_bestOf_35 N a1 a2 a3 k100 n) v0 v1 v2 v3 v4 v5
def s_X10_bestOf_25 (N : Nat) (a1 : Int32) (a2 : Int32) (a3 : Int32) (k106 : St → Int32 → Int32 → Int32 → Option (Int32 × St)) (rec : St → Int32 → Int32 → Int32 → Int32 → Option (Int32 × St)) (S : St) (x4 : Int32) (x5 : Int32) (x6 : Int32) (x7 : Int32) : Option (Int32 × St) :=
  if (10 : Int32) ≤ x7 then (k106 S x4 x5 x6) else (g_X10_bestOf_35 N a1 a2 a3 (fun S14 y10 y11 y12 y13 => rec S14 y10 y11 y12 (y13 + (1 : Int32))) N S x4 x5 x6 x7 (0 : Int32))
def g_X10_bestOf_25 (N : Nat) (a1 : Int32) (a2 : Int32) (a3 : Int32) (k106 : St → Int32 → Int32 → Int32 → Option (Int32 × St)) : Nat → St → Int32 → Int32 → Int32 → Int32 → Option (Int32 × St)
  | 0, _, _, _, _, _ => none
  | n + 1, v0, v1, v2, v3, v4 => s_X10_bestOf_25 N a1 a2 a3 k106 (g_X10_bestOf_25 N a1 a2 a3 k106 n) v0 v1 v2 v3 v4
def s_X10_bestOf_16 (N : Nat) (a1 : Int32) (a2 : Int32) (a3 : Int32) (rec : St → Int32 → Int32 → Int32 → Option (Int32 × St)) (S : St) (x4 : Int32) (x5 : Int32) (x6 : Int32) : Option (Int32 × St) :=
  if (5 : Int32) ≤ x6 then (some (x4, S)) else (g_X10_bestOf_25 N a1 a2 a3 (fun S18 y15 y16 y17 => rec S18 y15 y16 (y17 + (1 : Int32))) N S x4 x5 x6 (0 : Int32))
def g_X10_bestOf_16 (N : Nat) (a1 : Int32) (a2 : Int32) (a3 : Int32) : Nat → St → Int32 → Int32 → Int32 → Option (Int32 × St)
  | 0, _, _, _, _ => none
  | n + 1, v0, v1, v2, v3 => s_X10_bestOf_16 N a1 a2 a3 (g_X10_bestOf_16 N a1 a2 a3 n) v0 v1 v2 v3
def f_X10_bestOf (N : Nat) (S : St) (a1 : Int32) (a2 : Int32) (a3 : Int32) : Option (Int32 × St) :=
  if ((4 : Int32) < 0 ∨ 14 ≤ (4 : Int32).toNatClampNeg) then none else bnd (gA S 6 (4 : Int32).toNatClampNeg) fun b2 => g_X10_bestOf_16 N a1 a2 a3 N S (-9 : Int32) (-9 : Int32) b2
def f_X10_sureOf (S : St) (a1 : Int32) (a2 : Int32) (a3 : Int32) (a4 : Int32) : Option (Int32 × St) :=
  (f_X10_reckons S a1 a2 (a4 / (100 : Int32)) ((a4 / (10 : Int32)) - (a4 / (10 : Int32)) / (10 : Int32) * (10 : Int32)) (a4 - a4 / (10 : Int32) * (10 : Int32)) a3).bind fun r1 => some (r1.1, r1.2)
def f_X10_best (N : Nat) (S : St) (a1 : Int32) (a2 : Int32) (a3 : Int32) (a4 : Int32) : Option (Int32 × St) :=
  bnd (sI S 0 0 (0 : Int32)) fun S1 => (f_X10_isRunner S1 a1).bind fun r2 => if r2 = 0 then (some ((-1 : Int32), S1)) else ((f_X10_isYard S1 a2).bind fun r4 => if r4 = 0 then (some ((-1 : Int32), S1)) else ((f_X10_in a3 (0 : Int32) (1 : Int32)).bind fun r6 => if r6 = 0 then (some ((-1 : Int32), S1)) else ((f_X10_in a4 (0 : Int32) (1 : Int32)).bind fun r8 => if r8 = 0 then (some ((-1 : Int32), S1)) else ((f_X10_bestOf N S1 a1 a2 a3).bind fun r10 => if a4 = (1 : Int32) then (some (r10.1, r10.2)) else ((f_X10_sureOf r10.2 a1 a2 a3 r10.1).bind fun r12 => some (r12.1, r12.2))))))
def s_X10_notes_59 (N : Nat) (a1 : Int32) (k90 : St → Option St) (rec : St → Int32 → Int32 → Option St) (S : St) (x2 : Int32) (x3 : Int32) : Option St :=
  if (3 : Int32) ≤ x3 then (k90 S) else (if (((3 : Int32) * a1) + x3 < 0 ∨ 10 ≤ (((3 : Int32) * a1) + x3).toNatClampNeg) then none else if ((x2 + (1 : Int32)) + x3 < 0 ∨ 40 ≤ ((x2 + (1 : Int32)) + x3).toNatClampNeg) then none else bnd (sA S 10 (upd (gA S 10) ((x2 + (1 : Int32)) + x3).toNatClampNeg (gA S 7 (((3 : Int32) * a1) + x3).toNatClampNeg))) fun S8 => rec S8 x2 (x3 + (1 : Int32)))
def g_X10_notes_59 (N : Nat) (a1 : Int32) (k90 : St → Option St) : Nat → St → Int32 → Int32 → Option St
  | 0, _, _, _ => none
  | n + 1, v0, v1, v2 => s_X10_notes_59 N a1 k90 (g_X10_notes_59 N a1 k90 n) v0 v1 v2
def f_X10_notes_43 (N : Nat) (a1 : Int32) (S : St) : Option St :=
  bnd ((4 : Int32) * (gI S 0 22)) fun b2 => if (b2 < 0 ∨ 40 ≤ b2.toNatClampNeg) then none else bnd (sA S 10 (upd (gA S 10) b2.toNatClampNeg a1)) fun S4 => g_X10_notes_59 N a1 (fun S9 => bnd (sI S9 0 22 ((gI S9 0 22) + (1 : Int32))) fun S10 => some S10) N S4 b2 (0 : Int32)
def s_X10_notes_11 (N : Nat) (a1 : Int32) (k37 : St → Option St) (rec : St → Int32 → Option St) (S : St) (x2 : Int32) : Option St :=
  if (36 : Int32) ≤ x2 then (k37 S) else (if (x2 + (4 : Int32) < 0 ∨ 40 ≤ (x2 + (4 : Int32)).toNatClampNeg) then none else if (x2 < 0 ∨ 40 ≤ x2.toNatClampNeg) then none else bnd (sA S 10 (upd (gA S 10) x2.toNatClampNeg (gA S 10 (x2 + (4 : Int32)).toNatClampNeg))) fun S14 => rec S14 (x2 + (1 : Int32)))
def g_X10_notes_11 (N : Nat) (a1 : Int32) (k37 : St → Option St) : Nat → St → Int32 → Option St
  | 0, _, _ => none
  | n + 1, v0, v1 => s_X10_notes_11 N a1 k37 (g_X10_notes_11 N a1 k37 n) v0 v1
def f_X10_notes (N : Nat) (S : St) (a1 : Int32) : Option St :=
  if (gI S 0 22) = (10 : Int32) then (g_X10_notes_11 N a1 (fun S15 => bnd (sI S15 0 22 (9 : Int32)) fun S16 => f_X10_notes_43 N a1 S16) N S (0 : Int32)) else (f_X10_notes_43 N a1 S)
def f_X10_runs_89 (N : Nat) (a1 : Int32) (a2 : Int32) (S : St) (t1 : Int32) (t2 : Int32) : Option (Int32 × St) :=
  if (t1 < 0 ∨ 10 ≤ t1.toNatClampNeg) then none else bnd (sA S 7 (upd (gA S 7) t1.toNatClampNeg t2)) fun S14 => if (((3 : Int32) * a1) + (1 : Int32) < 0 ∨ 10 ≤ (((3 : Int32) * a1) + (1 : Int32)).toNatClampNeg) then none else if (((3 : Int32) * a1) + (1 : Int32) < 0 ∨ 10 ≤ (((3 : Int32) * a1) + (1 : Int32)).toNatClampNeg) then none else bnd (sA S14 7 (upd (gA S14 7) (((3 : Int32) * a1) + (1 : Int32)).toNatClampNeg ((gA S14 7 (((3 : Int32) * a1) + (1 : Int32)).toNatClampNeg) + a2))) fun S17 => if ((3 : Int32) * a1 < 0 ∨ 10 ≤ ((3 : Int32) * a1).toNatClampNeg) then none else some (gA S17 7 ((3 : Int32) * a1).toNatClampNeg, S17)
def f_X10_runs (N : Nat) (S : St) (a1 : Int32) (a2 : Int32) : Option (Int32 × St) :=
  bnd (sI S 0 0 (0 : Int32)) fun S1 => (f_X10_isRunner S1 a1).bind fun r2 => if r2 = 0 then (some ((-1 : Int32), S1)) else ((f_X10_in a2 (1 : Int32) (9 : Int32)).bind fun r4 => if r4 = 0 then (some ((-1 : Int32), S1)) else (if ((3 : Int32) * a1 < 0 ∨ 10 ≤ ((3 : Int32) * a1).toNatClampNeg) then none else if (gA S1 7 ((3 : Int32) * a1).toNatClampNeg) = (gI S1 0 14) then (some ((-2 : Int32), S1)) else ((f_X10_notes N S1 a1).bind fun r8 => if ((3 : Int32) * a1 < 0 ∨ 10 ≤ ((3 : Int32) * a1).toNatClampNeg) then none else if (a1 < 0 ∨ 6 ≤ a1.toNatClampNeg) then none else bnd ((gA r8 7 ((3 : Int32) * a1).toNatClampNeg) + ((gA r8 4 a1.toNatClampNeg) * a2)) fun b11 => if b11 ≤ (gI r8 0 14) then (f_X10_runs_89 N a1 a2 r8 ((3 : Int32) * a1) b11) else (f_X10_runs_89 N a1 a2 r8 ((3 : Int32) * a1) (gI r8 0 14)))))
def f_X10_toss_218 (N : Nat) (S : St) (x7 : Int32) (x8 : Int32) (t1 : Int32) (t2 : Int32) (t3 : Int32) : Option (Int32 × St) :=
  if (t1 < 0 ∨ 10 ≤ t1.toNatClampNeg) then none else bnd (sA S 7 (upd (gA S 7) t1.toNatClampNeg (t2 + t3))) fun S27 => if x8 = 0 then (if x7 = 0 then (some ((0 : Int32), S27)) else (some ((1 : Int32), S27))) else (some ((2 : Int32), S27))
def f_X10_toss_194 (N : Nat) (a1 : Int32) (S : St) (x7 : Int32) (x8 : Int32) (t1 : Int32) (t2 : Int32) (t3 : Int32) (t4 : Int32) : Option (Int32 × St) :=
  if (t1 < 0 ∨ 10 ≤ t1.toNatClampNeg) then none else bnd (sA S 7 (upd (gA S 7) t1.toNatClampNeg (t2 + (t3 + t4)))) fun S23 => if (((3 : Int32) * a1) + (2 : Int32) < 0 ∨ 10 ≤ (((3 : Int32) * a1) + (2 : Int32)).toNatClampNeg) then none else if x8 = 0 then (f_X10_toss_218 N S23 x7 x8 (((3 : Int32) * a1) + (2 : Int32)) (gA S23 7 (((3 : Int32) * a1) + (2 : Int32)).toNatClampNeg) (0 : Int32)) else (f_X10_toss_218 N S23 x7 x8 (((3 : Int32) * a1) + (2 : Int32)) (gA S23 7 (((3 : Int32) * a1) + (2 : Int32)).toNatClampNeg) (1 : Int32))
def f_X10_toss_150 (N : Nat) (a1 : Int32) (a2 : Int32) (S : St) (x7 : Int32) (t0 : Int32) : Option (Int32 × St) :=
  if ((3 : Int32) * a1 < 0 ∨ 10 ≤ ((3 : Int32) * a1).toNatClampNeg) then none else bnd (sA S 7 (upd (gA S 7) ((3 : Int32) * a1).toNatClampNeg (gI S 0 26))) fun S18 => if (((3 : Int32) * a1) + (1 : Int32) < 0 ∨ 10 ≤ (((3 : Int32) * a1) + (1 : Int32)).toNatClampNeg) then none else if x7 = 0 then (if ((6 : Int32) < 0 ∨ 14 ≤ (6 : Int32).toNatClampNeg) then none else f_X10_toss_194 N a1 S18 x7 t0 (((3 : Int32) * a1) + (1 : Int32)) (gA S18 7 (((3 : Int32) * a1) + (1 : Int32)).toNatClampNeg) ((2 : Int32) * a2) (gA S18 6 (6 : Int32).toNatClampNeg)) else (f_X10_toss_194 N a1 S18 x7 t0 (((3 : Int32) * a1) + (1 : Int32)) (gA S18 7 (((3 : Int32) * a1) + (1 : Int32)).toNatClampNeg) ((2 : Int32) * a2) (0 : Int32))
def f_X10_toss_149 (N : Nat) (a1 : Int32) (a2 : Int32) (S : St) (x7 : Int32) : Option (Int32 × St) :=
  f_X10_toss_150 N a1 a2 S x7 (0 : Int32)
def f_X10_toss_118 (N : Nat) (a1 : Int32) (a2 : Int32) (S : St) (t0 : Int32) : Option (Int32 × St) :=
  if t0 = 0 then (f_X10_toss_149 N a1 a2 S t0) else (if ((gI S 0 27) - (gI S 0 27) / (4 : Int32) * (4 : Int32)) = (2 : Int32) then (if ((4 : Int32) < 0 ∨ 14 ≤ (4 : Int32).toNatClampNeg) then none else if a2 < (gA S 6 (4 : Int32).toNatClampNeg) then (f_X10_toss_149 N a1 a2 S t0) else (f_X10_toss_150 N a1 a2 S t0 (1 : Int32))) else (f_X10_toss_149 N a1 a2 S t0))
def f_X10_toss (N : Nat) (S : St) (a1 : Int32) (a2 : Int32) (a3 : Int32) (a4 : Int32) (a5 : Int32) : Option (Int32 × St) :=
  bnd (sI S 0 0 (0 : Int32)) fun S1 => (f_X10_isRunner S1 a1).bind fun r2 => if r2 = 0 then (some ((-1 : Int32), S1)) else ((f_X10_isToss a2 a3 a4 a5).bind fun r4 => if r4 = 0 then (some ((-1 : Int32), S1)) else (if ((3 : Int32) * a1 < 0 ∨ 10 ≤ ((3 : Int32) * a1).toNatClampNeg) then none else if (gA S1 7 ((3 : Int32) * a1).toNatClampNeg) = (gI S1 0 14) then (some ((-2 : Int32), S1)) else ((f_X10_notes N S1 a1).bind fun r8 => if ((3 : Int32) * a1 < 0 ∨ 10 ≤ ((3 : Int32) * a1).toNatClampNeg) then none else (f_X10_reckons r8 a1 (gA r8 7 ((3 : Int32) * a1).toNatClampNeg) a2 a3 a4 a5).bind fun r10 => if ((9 : Int32) < 0 ∨ 10 ≤ (9 : Int32).toNatClampNeg) then none else if ((9 : Int32) < 0 ∨ 10 ≤ (9 : Int32).toNatClampNeg) then none else bnd (sA r10.2 7 (upd (gA r10.2 7) (9 : Int32).toNatClampNeg (((gA r10.2 7 (9 : Int32).toNatClampNeg) * (1103515245 : Int32)) + (12345 : Int32)))) fun S13 => if ((9 : Int32) < 0 ∨ 10 ≤ (9 : Int32).toNatClampNeg) then none else if r10.1 ≤ ((((gA S13 7 (9 : Int32).toNatClampNeg) >>> ((16 : Int32) &&& 31)) &&& (65535 : Int32)) - (((gA S13 7 (9 : Int32).toNatClampNeg) >>> ((16 : Int32) &&& 31)) &&& (65535 : Int32)) / (10 : Int32) * (10 : Int32)) then (f_X10_toss_118 N a1 a2 S13 (0 : Int32)) else (f_X10_toss_118 N a1 a2 S13 (1 : Int32)))))
def s_X10_undo_34 (N : Nat) (rec : St → Int32 → Int32 → Option (Int32 × St)) (S : St) (x1 : Int32) (x2 : Int32) : Option (Int32 × St) :=
  if (3 : Int32) ≤ x2 then (some (gI S 0 22, S)) else (if (x1 < 0 ∨ 40 ≤ x1.toNatClampNeg) then none else if ((x1 + (1 : Int32)) + x2 < 0 ∨ 40 ≤ ((x1 + (1 : Int32)) + x2).toNatClampNeg) then none else if (((3 : Int32) * (gA S 10 x1.toNatClampNeg)) + x2 < 0 ∨ 10 ≤ (((3 : Int32) * (gA S 10 x1.toNatClampNeg)) + x2).toNatClampNeg) then none else bnd (sA S 7 (upd (gA S 7) (((3 : Int32) * (gA S 10 x1.toNatClampNeg)) + x2).toNatClampNeg (gA S 10 ((x1 + (1 : Int32)) + x2).toNatClampNeg))) fun S9 => rec S9 x1 (x2 + (1 : Int32)))
def g_X10_undo_34 (N : Nat) : Nat → St → Int32 → Int32 → Option (Int32 × St)
  | 0, _, _, _ => none
  | n + 1, v0, v1, v2 => s_X10_undo_34 N (g_X10_undo_34 N n) v0 v1 v2
def f_X10_undo (N : Nat) (S : St) : Option (Int32 × St) :=
  bnd (sI S 0 0 (0 : Int32)) fun S1 => if (gI S1 0 22) = 0 then (some ((-2 : Int32), S1)) else (bnd (sI S1 0 22 ((gI S1 0 22) - (1 : Int32))) fun S3 => bnd ((4 : Int32) * (gI S3 0 22)) fun b4 => g_X10_undo_34 N N S3 b4 (0 : Int32))
def f_X10_lot (S : St) (a1 : Int32) : Option (Int32 × St) :=
  bnd (sI S 0 0 (0 : Int32)) fun S1 => if ((9 : Int32) < 0 ∨ 10 ≤ (9 : Int32).toNatClampNeg) then none else bnd (gA S1 7 (9 : Int32).toNatClampNeg) fun b3 => if ((9 : Int32) < 0 ∨ 10 ≤ (9 : Int32).toNatClampNeg) then none else bnd (sA S1 7 (upd (gA S1 7) (9 : Int32).toNatClampNeg a1)) fun S5 => some (b3, S5)
def s_X10_home_13 (N : Nat) (a1 : Int32) (k81 : St → Int32 → Int32 → Option (Int32 × St)) (rec : St → Int32 → Int32 → Int32 → Option (Int32 × St)) (S : St) (x2 : Int32) (x3 : Int32) (x4 : Int32) : Option (Int32 × St) :=
  if (gI S 0 15) ≤ x4 then (k81 S x2 x3) else ((f_X10_isHome S x4).bind fun r3 => if r3 = 0 then (rec S x2 x3 (x4 + (1 : Int32))) else (bnd (x2 ||| ((1 : Int32) <<< (x4 &&& 31))) fun b5 => if x3 = (-9 : Int32) then (rec S b5 x4 (x4 + (1 : Int32))) else (if (((3 : Int32) * x4) + (1 : Int32) < 0 ∨ 10 ≤ (((3 : Int32) * x4) + (1 : Int32)).toNatClampNeg) then none else if (((3 : Int32) * x3) + (1 : Int32) < 0 ∨ 10 ≤ (((3 : Int32) * x3) + (1 : Int32)).toNatClampNeg) then none else if (gA S 7 (((3 : Int32) * x3) + (1 : Int32)).toNatClampNeg) ≤ (gA S 7 (((3 : Int32) * x4) + (1 : Int32)).toNatClampNeg) then (rec S b5 x3 (x4 + (1 : Int32))) else (rec S b5 x4 (x4 + (1 : Int32))))))
def g_X10_home_13 (N : Nat) (a1 : Int32) (k81 : St → Int32 → Int32 → Option (Int32 × St)) : Nat → St → Int32 → Int32 → Int32 → Option (Int32 × St)
  | 0, _, _, _, _ => none
  | n + 1, v0, v1, v2, v3 => s_X10_home_13 N a1 k81 (g_X10_home_13 N a1 k81 n) v0 v1 v2 v3
def f_X10_home (N : Nat) (S : St) (a1 : Int32) : Option (Int32 × St) :=
  bnd (sI S 0 0 (0 : Int32)) fun S1 => g_X10_home_13 N a1 (fun S12 y10 y11 => if a1 = 0 then (some (y10, S12)) else (if a1 = (1 : Int32) then (some (y11, S12)) else (some ((-1 : Int32), S12)))) N S1 (0 : Int32) (-9 : Int32) (0 : Int32)
def f_X10_at (a0 : Int32) (a1 : Int32) (a2 : Int32) : Option Int32 :=
  some ((((125 : Int32) * a0) + ((5 : Int32) * a1)) + a2)
def f_X10_greater (a1 : Int64) (a3 : Int64) : Option Int64 :=
  if (lg_cmp a1 a3) ≤ 0 then (some a3) else (some a1)
def f_X10_byToss_113 (S : St) (x8 : Int32) (x12 : Int64) (t0 : Int64) : Option (Int64 × St) :=
  some ((((x8.toInt64) * x12) + ((((10 : Int32) - x8).toInt64) * t0)) / (10 : Int64), S)
def f_X10_byToss_84 (a4 : Int32) (a5 : Int32) (S : St) (x8 : Int32) (x10 : Int32) (t0 : Int64) : Option (Int64 × St) :=
  if x10 ≤ a5 then ((f_X10_at (gI S 0 26) x10 a4).bind fun r11 => if (r11 < 0 ∨ 3125 ≤ r11.toNatClampNeg) then none else f_X10_byToss_113 S x8 t0 (gB S 12 r11.toNatClampNeg)) else (f_X10_byToss_113 S x8 t0 (0 : Int64))
def f_X10_byToss_55 (a4 : Int32) (a5 : Int32) (S : St) (x8 : Int32) (x9 : Int32) (x10 : Int32) (t0 : Int32) : Option (Int64 × St) :=
  if x9 ≤ a5 then ((f_X10_at (gI S 0 26) x9 t0).bind fun r8 => if (r8 < 0 ∨ 3125 ≤ r8.toNatClampNeg) then none else f_X10_byToss_84 a4 a5 S x8 x10 (gB S 12 r8.toNatClampNeg)) else (f_X10_byToss_84 a4 a5 S x8 x10 (0 : Int64))
def f_X10_byToss (S : St) (a1 : Int32) (a2 : Int32) (a3 : Int32) (a4 : Int32) (a5 : Int32) (a6 : Int32) (a7 : Int32) : Option (Int64 × St) :=
  (f_X10_sureOf S a1 a2 a6 a7).bind fun r1 => bnd (a3 + ((a7 / (100 : Int32)) * (2 : Int32))) fun b2 => if ((6 : Int32) < 0 ∨ 14 ≤ (6 : Int32).toNatClampNeg) then none else bnd (b2 + (gA r1.2 6 (6 : Int32).toNatClampNeg)) fun b4 => if ((5 : Int32) < 0 ∨ 14 ≤ (5 : Int32).toNatClampNeg) then none else if (gA r1.2 6 (5 : Int32).toNatClampNeg) ≤ a4 then (f_X10_byToss_55 a4 a5 r1.2 r1.1 b2 b4 a4) else (f_X10_byToss_55 a4 a5 r1.2 r1.1 b2 b4 (a4 + (1 : Int32)))
def s_X10_spreads_2 (N : Nat) (a1 : Int32) (a2 : Int32) (k42 : St → Option St) (rec : St → Int32 → Option St) (S : St) (x3 : Int32) : Option St :=
  if (gI S 0 14) ≤ x3 then (k42 S) else ((f_X10_bestOf N S a1 x3 (0 : Int32)).bind fun r2 => if (x3 < 0 ∨ 24 ≤ x3.toNatClampNeg) then none else bnd (sA r2.2 13 (upd (gA r2.2 13) x3.toNatClampNeg r2.1)) fun S4 => (f_X10_bestOf N S4 a1 x3 (1 : Int32)).bind fun r5 => if (x3 < 0 ∨ 24 ≤ x3.toNatClampNeg) then none else bnd (sA r5.2 14 (upd (gA r5.2 14) x3.toNatClampNeg r5.1)) fun S7 => rec S7 (x3 + (1 : Int32)))
def g_X10_spreads_2 (N : Nat) (a1 : Int32) (a2 : Int32) (k42 : St → Option St) : Nat → St → Int32 → Option St
  | 0, _, _ => none
  | n + 1, v0, v1 => s_X10_spreads_2 N a1 a2 k42 (g_X10_spreads_2 N a1 a2 k42 n) v0 v1
def f_X10_spreads_93 (N : Nat) (a1 : Int32) (a2 : Int32) (k100 : St → Int32 → Option St) (rec : St → Int32 → Int32 → Option St) (S : St) (x3 : Int32) (x4 : Int32) (t1 : Int32) (t2 : Int64) : Option St :=
  if (t1 < 0 ∨ 3125 ≤ t1.toNatClampNeg) then none else bnd (sB S 12 (vp_updL (gB S 12) t1.toNatClampNeg t2)) fun S17 => rec S17 x3 (x4 + (-1 : Int32))
def s_X10_spreads_56 (N : Nat) (a1 : Int32) (a2 : Int32) (k100 : St → Int32 → Option St) (rec : St → Int32 → Int32 → Option St) (S : St) (x3 : Int32) (x4 : Int32) : Option St :=
  if x4 < 0 then (k100 S x3) else ((f_X10_at (gI S 0 14) x3 x4).bind fun r13 => if ((5 : Int32) < 0 ∨ 14 ≤ (5 : Int32).toNatClampNeg) then none else if x4 = (gA S 6 (5 : Int32).toNatClampNeg) then (f_X10_spreads_93 N a1 a2 k100 rec S x3 x4 r13 (1000000000000 : Int64)) else (f_X10_spreads_93 N a1 a2 k100 rec S x3 x4 r13 (0 : Int64)))
def g_X10_spreads_56 (N : Nat) (a1 : Int32) (a2 : Int32) (k100 : St → Int32 → Option St) : Nat → St → Int32 → Int32 → Option St
  | 0, _, _, _ => none
  | n + 1, v0, v1, v2 => s_X10_spreads_56 N a1 a2 k100 (g_X10_spreads_56 N a1 a2 k100 n) v0 v1 v2
def f_X10_spreads_184 (N : Nat) (a1 : Int32) (a2 : Int32) (k261 : St → Int32 → Int32 → Option St) (rec : St → Int32 → Int32 → Int32 → Int32 → Option St) (S : St) (x3 : Int32) (x4 : Int32) (x5 : Int32) (x6 : Int32) (t0 : Int64) : Option St :=
  if (x4 < 0 ∨ 24 ≤ x4.toNatClampNeg) then none else (f_X10_byToss S a1 x4 x3 x6 a2 (0 : Int32) (gA S 13 x4.toNatClampNeg)).bind fun r32 => if (x4 < 0 ∨ 24 ≤ x4.toNatClampNeg) then none else (f_X10_byToss r32.2 a1 x4 x3 x6 a2 (1 : Int32) (gA r32.2 14 x4.toNatClampNeg)).bind fun r34 => (f_X10_at x4 x3 x6).bind fun r35 => (f_X10_greater r32.1 r34.1).bind fun r36 => (f_X10_greater t0 r36).bind fun r37 => if (r35 < 0 ∨ 3125 ≤ r35.toNatClampNeg) then none else bnd (sB r34.2 12 (vp_updL (gB r34.2 12) r35.toNatClampNeg r37)) fun S39 => rec S39 x3 x4 x5 (x6 + (-1 : Int32))
def s_X10_spreads_155 (N : Nat) (a1 : Int32) (a2 : Int32) (k261 : St → Int32 → Int32 → Option St) (rec : St → Int32 → Int32 → Int32 → Int32 → Option St) (S : St) (x3 : Int32) (x4 : Int32) (x5 : Int32) (x6 : Int32) : Option St :=
  if x6 < 0 then (k261 S x3 x4) else (if x3 = a2 then (f_X10_spreads_184 N a1 a2 k261 rec S x3 x4 x5 x6 (0 : Int64)) else ((f_X10_at x5 (x3 + (1 : Int32)) x6).bind fun r29 => if (r29 < 0 ∨ 3125 ≤ r29.toNatClampNeg) then none else f_X10_spreads_184 N a1 a2 k261 rec S x3 x4 x5 x6 (gB S 12 r29.toNatClampNeg)))
def g_X10_spreads_155 (N : Nat) (a1 : Int32) (a2 : Int32) (k261 : St → Int32 → Int32 → Option St) : Nat → St → Int32 → Int32 → Int32 → Int32 → Option St
  | 0, _, _, _, _, _ => none
  | n + 1, v0, v1, v2, v3, v4 => s_X10_spreads_155 N a1 a2 k261 (g_X10_spreads_155 N a1 a2 k261 n) v0 v1 v2 v3 v4
def f_X10_spreads_145 (N : Nat) (a1 : Int32) (a2 : Int32) (k267 : St → Int32 → Option St) (rec : St → Int32 → Int32 → Option St) (S : St) (x3 : Int32) (x4 : Int32) (t0 : Int32) : Option St :=
  if ((5 : Int32) < 0 ∨ 14 ≤ (5 : Int32).toNatClampNeg) then none else bnd (gA S 6 (5 : Int32).toNatClampNeg) fun b26 => g_X10_spreads_155 N a1 a2 (fun S42 y40 y41 => rec S42 y40 (y41 + (-1 : Int32))) N S x3 x4 t0 b26
def s_X10_spreads_108 (N : Nat) (a1 : Int32) (a2 : Int32) (k267 : St → Int32 → Option St) (rec : St → Int32 → Int32 → Option St) (S : St) (x3 : Int32) (x4 : Int32) : Option St :=
  if x4 < 0 then (k267 S x3) else (if (a1 < 0 ∨ 6 ≤ a1.toNatClampNeg) then none else if (x4 + (gA S 4 a1.toNatClampNeg)) ≤ (gI S 0 14) then (if (a1 < 0 ∨ 6 ≤ a1.toNatClampNeg) then none else f_X10_spreads_145 N a1 a2 k267 rec S x3 x4 (x4 + (gA S 4 a1.toNatClampNeg))) else (f_X10_spreads_145 N a1 a2 k267 rec S x3 x4 (gI S 0 14)))
def g_X10_spreads_108 (N : Nat) (a1 : Int32) (a2 : Int32) (k267 : St → Int32 → Option St) : Nat → St → Int32 → Int32 → Option St
  | 0, _, _, _ => none
  | n + 1, v0, v1, v2 => s_X10_spreads_108 N a1 a2 k267 (g_X10_spreads_108 N a1 a2 k267 n) v0 v1 v2
def s_X10_spreads_44 (N : Nat) (a1 : Int32) (a2 : Int32) (rec : St → Int32 → Option St) (S : St) (x3 : Int32) : Option St :=
  if x3 < 0 then (some S) else (if ((5 : Int32) < 0 ∨ 14 ≤ (5 : Int32).toNatClampNeg) then none else bnd (gA S 6 (5 : Int32).toNatClampNeg) fun b11 => g_X10_spreads_56 N a1 a2 (fun S19 y18 => bnd ((gI S19 0 14) - (1 : Int32)) fun b20 => g_X10_spreads_108 N a1 a2 (fun S44 y43 => rec S44 (y43 + (-1 : Int32))) N S19 y18 b20) N S x3 b11)
def g_X10_spreads_44 (N : Nat) (a1 : Int32) (a2 : Int32) : Nat → St → Int32 → Option St
  | 0, _, _ => none
  | n + 1, v0, v1 => s_X10_spreads_44 N a1 a2 (g_X10_spreads_44 N a1 a2 n) v0 v1
def f_X10_spreads (N : Nat) (S : St) (a1 : Int32) (a2 : Int32) : Option St :=
  g_X10_spreads_2 N a1 a2 (fun S8 => g_X10_spreads_44 N a1 a2 N S8 a2) N S (0 : Int32)
def f_X10_oddsBy_60 (N : Nat) (a1 : Int32) (S : St) (t0 : Int32) : Option (Int64 × St) :=
  if ((3 : Int32) * a1 < 0 ∨ 10 ≤ ((3 : Int32) * a1).toNatClampNeg) then none else if (((3 : Int32) * a1) + (1 : Int32) < 0 ∨ 10 ≤ (((3 : Int32) * a1) + (1 : Int32)).toNatClampNeg) then none else (f_X10_at (gA S 7 ((3 : Int32) * a1).toNatClampNeg) (gA S 7 (((3 : Int32) * a1) + (1 : Int32)).toNatClampNeg) t0).bind fun r10 => if (r10 < 0 ∨ 3125 ≤ r10.toNatClampNeg) then none else some (gB S 12 r10.toNatClampNeg, S)
def f_X10_oddsBy (N : Nat) (S : St) (a1 : Int32) (a2 : Int32) : Option (Int64 × St) :=
  if (((3 : Int32) * a1) + (1 : Int32) < 0 ∨ 10 ≤ (((3 : Int32) * a1) + (1 : Int32)).toNatClampNeg) then none else if (gA S 7 (((3 : Int32) * a1) + (1 : Int32)).toNatClampNeg) ≤ a2 then ((f_X10_spreads N S a1 a2).bind fun r3 => if (((3 : Int32) * a1) + (2 : Int32) < 0 ∨ 10 ≤ (((3 : Int32) * a1) + (2 : Int32)).toNatClampNeg) then none else if ((5 : Int32) < 0 ∨ 14 ≤ (5 : Int32).toNatClampNeg) then none else if (gA r3 7 (((3 : Int32) * a1) + (2 : Int32)).toNatClampNeg) ≤ (gA r3 6 (5 : Int32).toNatClampNeg) then (if (((3 : Int32) * a1) + (2 : Int32) < 0 ∨ 10 ≤ (((3 : Int32) * a1) + (2 : Int32)).toNatClampNeg) then none else f_X10_oddsBy_60 N a1 r3 (gA r3 7 (((3 : Int32) * a1) + (2 : Int32)).toNatClampNeg)) else (if ((5 : Int32) < 0 ∨ 14 ≤ (5 : Int32).toNatClampNeg) then none else f_X10_oddsBy_60 N a1 r3 (gA r3 6 (5 : Int32).toNatClampNeg))) else (some ((0 : Int64), S))
def s_X10_gcd_6 (N : Nat) (rec : Int64 → Int64 → Option Int64) (x4 : Int64) (x6 : Int64) : Option Int64 :=
  if (lg_cmp x6 (0 : Int64)) = 0 then (some x4) else (if x6 = 0 then none else bnd (x4 - x4 / x6 * x6) fun b3 => rec x6 b3)
def g_X10_gcd_6 (N : Nat) : Nat → Int64 → Int64 → Option Int64
  | 0, _, _ => none
  | n + 1, v0, v1 => s_X10_gcd_6 N (g_X10_gcd_6 N n) v0 v1
def f_X10_gcd (N : Nat) (a0 : Int64) (a2 : Int64) : Option Int64 :=
  g_X10_gcd_6 N N a0 a2
def f_X10_odds (N : Nat) (S : St) (a1 : Int32) (a2 : Int32) (a3 : Int32) : Option (Int64 × St) :=
  bnd (sI S 0 0 (0 : Int32)) fun S1 => (f_X10_isRunner S1 a1).bind fun r2 => if r2 = 0 then (some ((-1 : Int64), S1)) else ((f_X10_in a2 (0 : Int32) (24 : Int32)).bind fun r4 => if r4 = 0 then (some ((-1 : Int64), S1)) else ((f_X10_in a3 (0 : Int32) (1 : Int32)).bind fun r6 => if r6 = 0 then (some ((-1 : Int64), S1)) else ((f_X10_oddsBy N S1 a1 a2).bind fun r8 => (f_X10_gcd N r8.1 (1000000000000 : Int64)).bind fun r9 => if a3 = 0 then (if r9 = 0 then none else some (r8.1 / r9, r8.2)) else (if r9 = 0 then none else some ((1000000000000 : Int64) / r9, r8.2)))))
def s_X10_enough_27 (N : Nat) (a1 : Int32) (a2 : Int32) (rec : St → Int32 → Option (Int32 × St)) (S : St) (x3 : Int32) : Option (Int32 × St) :=
  if (25 : Int32) ≤ x3 then (some ((-9 : Int32), S)) else ((f_X10_oddsBy N S a1 x3).bind fun r7 => if (lg_cmp r7.1 ((100000000000 : Int64) * (a2.toInt64))) < 0 then (rec r7.2 (x3 + (1 : Int32))) else (some (x3, r7.2)))
def g_X10_enough_27 (N : Nat) (a1 : Int32) (a2 : Int32) : Nat → St → Int32 → Option (Int32 × St)
  | 0, _, _ => none
  | n + 1, v0, v1 => s_X10_enough_27 N a1 a2 (g_X10_enough_27 N a1 a2 n) v0 v1
def f_X10_enough (N : Nat) (S : St) (a1 : Int32) (a2 : Int32) : Option (Int32 × St) :=
  bnd (sI S 0 0 (0 : Int32)) fun S1 => (f_X10_isRunner S1 a1).bind fun r2 => if r2 = 0 then (some ((-1 : Int32), S1)) else ((f_X10_in a2 (0 : Int32) (10 : Int32)).bind fun r4 => if r4 = 0 then (some ((-1 : Int32), S1)) else (g_X10_enough_27 N a1 a2 N S1 (0 : Int32)))
def f_X10_picture (S : St) (a1 : Int32) (a2 : Int32) : Option (Int32 × St) :=
  bnd (sI S 0 0 (0 : Int32)) fun S1 => (f_X10_in a1 (1 : Int32) (8 : Int32)).bind fun r2 => if r2 = 0 then (some ((-1 : Int32), S1)) else ((f_X10_in a2 (0 : Int32) (3 : Int32)).bind fun r4 => if r4 = 0 then (some ((-1 : Int32), S1)) else (if (gI S1 0 24) = (6 : Int32) then (some ((-3 : Int32), S1)) else (if ((2 : Int32) * (gI S1 0 24) < 0 ∨ 12 ≤ ((2 : Int32) * (gI S1 0 24)).toNatClampNeg) then none else bnd (sA S1 11 (upd (gA S1 11) ((2 : Int32) * (gI S1 0 24)).toNatClampNeg a1)) fun S8 => if (((2 : Int32) * (gI S8 0 24)) + (1 : Int32) < 0 ∨ 12 ≤ (((2 : Int32) * (gI S8 0 24)) + (1 : Int32)).toNatClampNeg) then none else bnd (sA S8 11 (upd (gA S8 11) (((2 : Int32) * (gI S8 0 24)) + (1 : Int32)).toNatClampNeg a2)) fun S10 => bnd (sI S10 0 24 ((gI S10 0 24) + (1 : Int32))) fun S11 => some (gI S11 0 24, S11))))
def f_X10_forget (S : St) : Option (Int32 × St) :=
  bnd (sI S 0 0 (0 : Int32)) fun S1 => bnd (gI S1 0 24) fun b2 => bnd (sI S1 0 24 (0 : Int32)) fun S3 => some (b2, S3)
def s_X10_isAsPictured_5 (N : Nat) (S : St) (a1 : Int32) (a2 : Int32) (rec : Int32 → Int32 → Option Int32) (x3 : Int32) (x4 : Int32) : Option Int32 :=
  if (gI S 0 24) ≤ x4 then (if ¬ (x3 &&& 1 = x3) then none else some x3) else (if ((2 : Int32) * x4 < 0 ∨ 12 ≤ ((2 : Int32) * x4).toNatClampNeg) then none else bnd (gA S 11 ((2 : Int32) * x4).toNatClampNeg) fun b4 => if x3 = 0 then (rec (0 : Int32) (x4 + (1 : Int32))) else (if ((2 : Int32) * a1) ≤ b4 then (rec (0 : Int32) (x4 + (1 : Int32))) else (if (((2 : Int32) * x4) + (1 : Int32) < 0 ∨ 12 ≤ (((2 : Int32) * x4) + (1 : Int32)).toNatClampNeg) then none else if (((a2 * b4) / (2 : Int32)) - ((a2 * b4) / (2 : Int32)) / (4 : Int32) * (4 : Int32)) = (gA S 11 (((2 : Int32) * x4) + (1 : Int32)).toNatClampNeg) then (rec (1 : Int32) (x4 + (1 : Int32))) else (rec (0 : Int32) (x4 + (1 : Int32))))))
def g_X10_isAsPictured_5 (N : Nat) (S : St) (a1 : Int32) (a2 : Int32) : Nat → Int32 → Int32 → Option Int32
  | 0, _, _ => none
  | n + 1, v0, v1 => s_X10_isAsPictured_5 N S a1 a2 (g_X10_isAsPictured_5 N S a1 a2 n) v0 v1
def f_X10_isAsPictured (N : Nat) (S : St) (a1 : Int32) (a2 : Int32) : Option Int32 :=
  g_X10_isAsPictured_5 N S a1 a2 N (1 : Int32) (0 : Int32)
def s_X10_could_28 (N : Nat) (a1 : Int32) (k73 : St → Int32 → Int32 → Option (Int32 × St)) (rec : St → Int32 → Int32 → Int32 → Option (Int32 × St)) (S : St) (x2 : Int32) (x3 : Int32) (x4 : Int32) : Option (Int32 × St) :=
  if (8 : Int32) ≤ x4 then (k73 S x2 x3) else ((f_X10_isAsPictured N S x3 x4).bind fun r6 => if r6 = 0 then (bnd (x2 + (0 : Int32)) fun b8 => rec S b8 x3 (x4 + (1 : Int32))) else (if a1 = 0 then (bnd (x2 + (1 : Int32)) fun b10 => rec S b10 x3 (x4 + (1 : Int32))) else (if ((x4 * x3) - (x4 * x3) / (4 : Int32) * (4 : Int32)) = (2 : Int32) then (bnd (x2 + (1 : Int32)) fun b13 => rec S b13 x3 (x4 + (1 : Int32))) else (bnd (x2 + (0 : Int32)) fun b12 => rec S b12 x3 (x4 + (1 : Int32))))))
def g_X10_could_28 (N : Nat) (a1 : Int32) (k73 : St → Int32 → Int32 → Option (Int32 × St)) : Nat → St → Int32 → Int32 → Int32 → Option (Int32 × St)
  | 0, _, _, _, _ => none
  | n + 1, v0, v1, v2, v3 => s_X10_could_28 N a1 k73 (g_X10_could_28 N a1 k73 n) v0 v1 v2 v3
def s_X10_could_20 (N : Nat) (a1 : Int32) (rec : St → Int32 → Int32 → Option (Int32 × St)) (S : St) (x2 : Int32) (x3 : Int32) : Option (Int32 × St) :=
  if (5 : Int32) ≤ x3 then (some (x2, S)) else (g_X10_could_28 N a1 (fun S16 y14 y15 => rec S16 y14 (y15 + (1 : Int32))) N S x2 x3 (0 : Int32))
def g_X10_could_20 (N : Nat) (a1 : Int32) : Nat → St → Int32 → Int32 → Option (Int32 × St)
  | 0, _, _, _ => none
  | n + 1, v0, v1, v2 => s_X10_could_20 N a1 (g_X10_could_20 N a1 n) v0 v1 v2
def f_X10_could (N : Nat) (S : St) (a1 : Int32) : Option (Int32 × St) :=
  bnd (sI S 0 0 (0 : Int32)) fun S1 => (f_X10_in a1 (0 : Int32) (1 : Int32)).bind fun r2 => if r2 = 0 then (some ((-1 : Int32), S1)) else (g_X10_could_20 N a1 N S1 (0 : Int32) (1 : Int32))
def s_X10_towns_82 (N : Nat) (a1 : Int32) (a2 : Int32) (a3 : Int32) (a4 : Int32) (a5 : Int32) (k114 : St → Int32 → Int32 → Option (Int32 × St)) (rec : St → Int32 → Int32 → Int32 → Option (Int32 × St)) (S : St) (x6 : Int32) (x7 : Int32) (x8 : Int32) : Option (Int32 × St) :=
  if (a3 + a4) < x8 then (k114 S x6 x7) else (if x8 ≤ x7 then (bnd (x6 + (0 : Int32)) fun b17 => rec S b17 x7 (x8 + (1 : Int32))) else (bnd (x6 + (1 : Int32)) fun b18 => rec S b18 x7 (x8 + (1 : Int32))))
def g_X10_towns_82 (N : Nat) (a1 : Int32) (a2 : Int32) (a3 : Int32) (a4 : Int32) (a5 : Int32) (k114 : St → Int32 → Int32 → Option (Int32 × St)) : Nat → St → Int32 → Int32 → Int32 → Option (Int32 × St)
  | 0, _, _, _, _ => none
  | n + 1, v0, v1, v2, v3 => s_X10_towns_82 N a1 a2 a3 a4 a5 k114 (g_X10_towns_82 N a1 a2 a3 a4 a5 k114 n) v0 v1 v2 v3
def s_X10_towns_68 (N : Nat) (a1 : Int32) (a2 : Int32) (a3 : Int32) (a4 : Int32) (a5 : Int32) (k120 : St → Int32 → Option (Int32 × St)) (rec : St → Int32 → Int32 → Option (Int32 × St)) (S : St) (x6 : Int32) (x7 : Int32) : Option (Int32 × St) :=
  if (a1 + a2) < x7 then (k120 S x6) else (bnd (a3 - a4) fun b14 => g_X10_towns_82 N a1 a2 a3 a4 a5 (fun S21 y19 y20 => rec S21 y19 (y20 + (1 : Int32))) N S x6 x7 b14)
def g_X10_towns_68 (N : Nat) (a1 : Int32) (a2 : Int32) (a3 : Int32) (a4 : Int32) (a5 : Int32) (k120 : St → Int32 → Option (Int32 × St)) : Nat → St → Int32 → Int32 → Option (Int32 × St)
  | 0, _, _, _ => none
  | n + 1, v0, v1, v2 => s_X10_towns_68 N a1 a2 a3 a4 a5 k120 (g_X10_towns_68 N a1 a2 a3 a4 a5 k120 n) v0 v1 v2
def f_X10_towns (N : Nat) (S : St) (a1 : Int32) (a2 : Int32) (a3 : Int32) (a4 : Int32) (a5 : Int32) : Option (Int32 × St) :=
  bnd (sI S 0 0 (0 : Int32)) fun S1 => (f_X10_in a1 (0 : Int32) (999 : Int32)).bind fun r2 => if r2 = 0 then (some ((-1 : Int32), S1)) else ((f_X10_in a2 (0 : Int32) (99 : Int32)).bind fun r4 => if r4 = 0 then (some ((-1 : Int32), S1)) else ((f_X10_in a3 (0 : Int32) (999 : Int32)).bind fun r6 => if r6 = 0 then (some ((-1 : Int32), S1)) else ((f_X10_in a4 (0 : Int32) (99 : Int32)).bind fun r8 => if r8 = 0 then (some ((-1 : Int32), S1)) else ((f_X10_in a5 (0 : Int32) (1 : Int32)).bind fun r10 => if r10 = 0 then (some ((-1 : Int32), S1)) else (bnd (a1 - a2) fun b12 => g_X10_towns_68 N a1 a2 a3 a4 a5 (fun S23 y22 => bnd ((((2 : Int32) * a2) + (1 : Int32)) * (((2 : Int32) * a4) + (1 : Int32))) fun b24 => (f_X10_gcd N (y22.toInt64) (b24.toInt64)).bind fun r25 => bnd (r25.toInt32) fun b26 => if a5 = 0 then (if b26 = 0 then none else some (y22 / b26, S23)) else (if b26 = 0 then none else some (b24 / b26, S23))) N S1 (0 : Int32) b12)))))
def f_X10_rate_101 (a1 : Int32) (a2 : Int32) (a3 : Int32) (S : St) (x4 : Int32) (t1 : Int64) (t2 : Int64) : Option (Int32 × St) :=
  bnd (sJ S 0 1 (t1 + t2)) fun S14 => if a1 = 0 then (some (x4, S14)) else (if a1 = (1 : Int32) then (some (x4 + (a3 * a2), S14)) else (if a1 = (2 : Int32) then (some (x4 - a3, S14)) else (if a1 = (3 : Int32) then (some ((2 : Int32) * (x4 + (a3 * a2)), S14)) else (if a1 = (4 : Int32) then (if ((6 : Int32) < 0 ∨ 14 ≤ (6 : Int32).toNatClampNeg) then none else some ((x4 - a3) + (gA S14 6 (6 : Int32).toNatClampNeg), S14)) else (if ((4 : Int32) < 0 ∨ 14 ≤ (4 : Int32).toNatClampNeg) then none else some (x4 - (gA S14 6 (4 : Int32).toNatClampNeg), S14))))))
def f_X10_rate (S : St) (a1 : Int32) (a2 : Int32) (a3 : Int32) : Option (Int32 × St) :=
  bnd (sI S 0 0 (0 : Int32)) fun S1 => (f_X10_in a1 (0 : Int32) (5 : Int32)).bind fun r2 => if r2 = 0 then (some ((-1000000 : Int32), S1)) else ((f_X10_in a2 (1 : Int32) (4 : Int32)).bind fun r4 => if r4 = 0 then (some ((-1000000 : Int32), S1)) else ((f_X10_in a3 (0 : Int32) (7 : Int32)).bind fun r6 => if r6 = 0 then (some ((-1000000 : Int32), S1)) else (bnd ((2 : Int32) * a2) fun b8 => if a1 = 0 then (f_X10_rate_101 a1 a2 a3 S1 b8 (gJ S1 0 1) (1 : Int64)) else (if a1 = (1 : Int32) then (f_X10_rate_101 a1 a2 a3 S1 b8 (gJ S1 0 1) (11 : Int64)) else (if a1 = (2 : Int32) then (f_X10_rate_101 a1 a2 a3 S1 b8 (gJ S1 0 1) (101 : Int64)) else (if a1 = (3 : Int32) then (f_X10_rate_101 a1 a2 a3 S1 b8 (gJ S1 0 1) (1011 : Int64)) else (if a1 = (4 : Int32) then (f_X10_rate_101 a1 a2 a3 S1 b8 (gJ S1 0 1) (10101 : Int64)) else (f_X10_rate_101 a1 a2 a3 S1 b8 (gJ S1 0 1) (100001 : Int64)))))))))
def s_X10_manyHome_4 (N : Nat) (S : St) (rec : Int32 → Int32 → Option Int32) (x1 : Int32) (x2 : Int32) : Option Int32 :=
  if (gI S 0 15) ≤ x2 then (some x1) else ((f_X10_isHome S x2).bind fun r2 => if r2 = 0 then (bnd (x1 + (0 : Int32)) fun b4 => rec b4 (x2 + (1 : Int32))) else (bnd (x1 + (1 : Int32)) fun b5 => rec b5 (x2 + (1 : Int32))))
def g_X10_manyHome_4 (N : Nat) (S : St) : Nat → Int32 → Int32 → Option Int32
  | 0, _, _ => none
  | n + 1, v0, v1 => s_X10_manyHome_4 N S (g_X10_manyHome_4 N S n) v0 v1
def f_X10_manyHome (N : Nat) (S : St) : Option Int32 :=
  g_X10_manyHome_4 N S N (0 : Int32) (0 : Int32)
def s_X10_keep_18 (N : Nat) (a1 : Int32) (k47 : St → Option (Int32 × St)) (rec : St → Int32 → Option (Int32 × St)) (S : St) (x2 : Int32) : Option (Int32 × St) :=
  if (10 : Int32) ≤ x2 then (k47 S) else (if (x2 < 0 ∨ 10 ≤ x2.toNatClampNeg) then none else if (((10 : Int32) * a1) + x2 < 0 ∨ 20 ≤ (((10 : Int32) * a1) + x2).toNatClampNeg) then none else bnd (sA S 8 (upd (gA S 8) (((10 : Int32) * a1) + x2).toNatClampNeg (gA S 7 x2.toNatClampNeg))) fun S7 => rec S7 (x2 + (1 : Int32)))
def g_X10_keep_18 (N : Nat) (a1 : Int32) (k47 : St → Option (Int32 × St)) : Nat → St → Int32 → Option (Int32 × St)
  | 0, _, _ => none
  | n + 1, v0, v1 => s_X10_keep_18 N a1 k47 (g_X10_keep_18 N a1 k47 n) v0 v1
def f_X10_keep (N : Nat) (S : St) (a1 : Int32) : Option (Int32 × St) :=
  bnd (sI S 0 0 (0 : Int32)) fun S1 => (f_X10_in a1 (0 : Int32) (1 : Int32)).bind fun r2 => if r2 = 0 then (some ((-1 : Int32), S1)) else (g_X10_keep_18 N a1 (fun S8 => if (a1 < 0 ∨ 2 ≤ a1.toNatClampNeg) then none else bnd (sA S8 9 (upd (gA S8 9) a1.toNatClampNeg (1 : Int32))) fun S10 => (f_X10_manyHome N S10).bind fun r11 => some (r11, S10)) N S1 (0 : Int32))
def s_X10_back_30 (N : Nat) (a1 : Int32) (k59 : St → Option (Int32 × St)) (rec : St → Int32 → Option (Int32 × St)) (S : St) (x2 : Int32) : Option (Int32 × St) :=
  if (10 : Int32) ≤ x2 then (k59 S) else (if (((10 : Int32) * a1) + x2 < 0 ∨ 20 ≤ (((10 : Int32) * a1) + x2).toNatClampNeg) then none else if (x2 < 0 ∨ 10 ≤ x2.toNatClampNeg) then none else bnd (sA S 7 (upd (gA S 7) x2.toNatClampNeg (gA S 8 (((10 : Int32) * a1) + x2).toNatClampNeg))) fun S9 => rec S9 (x2 + (1 : Int32)))
def g_X10_back_30 (N : Nat) (a1 : Int32) (k59 : St → Option (Int32 × St)) : Nat → St → Int32 → Option (Int32 × St)
  | 0, _, _ => none
  | n + 1, v0, v1 => s_X10_back_30 N a1 k59 (g_X10_back_30 N a1 k59 n) v0 v1
def f_X10_back (N : Nat) (S : St) (a1 : Int32) : Option (Int32 × St) :=
  bnd (sI S 0 0 (0 : Int32)) fun S1 => (f_X10_in a1 (0 : Int32) (1 : Int32)).bind fun r2 => if r2 = 0 then (some ((-1 : Int32), S1)) else (if (a1 < 0 ∨ 2 ≤ a1.toNatClampNeg) then none else if (gA S1 9 a1.toNatClampNeg) = 0 then (some ((-2 : Int32), S1)) else (g_X10_back_30 N a1 (fun S10 => bnd (sI S10 0 22 (0 : Int32)) fun S11 => (f_X10_manyHome N S11).bind fun r12 => some (r12, S11)) N S1 (0 : Int32)))
def f_X10_count (S : St) (a1 : Int32) : Option (Int32 × St) :=
  bnd (sI S 0 0 (0 : Int32)) fun S1 => if a1 = 0 then (some (gI S1 0 15, S1)) else (if a1 = (1 : Int32) then (some (gI S1 0 24, S1)) else (if a1 = (2 : Int32) then (some (gI S1 0 22, S1)) else (if a1 = (3 : Int32) then (some (gI S1 0 3, S1)) else (some ((-1 : Int32), S1)))))
def f_X10_trace (S : St) : Option (Int64 × St) :=
  bnd (sI S 0 0 (0 : Int32)) fun S1 => some (gJ S1 0 1, S1)
