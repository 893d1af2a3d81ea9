/-- J6_bitCount_0f7a4 -/
def fJ6_bitCount_0f7a4 (i0 : Int32) (M : MM) : Option Int32 := some ((((((((i0 - ((mx_ushr i0 (1 : Int32)) &&& (1431655765 : Int32))) &&& (858993459 : Int32)) + ((mx_ushr (i0 - ((mx_ushr i0 (1 : Int32)) &&& (1431655765 : Int32))) (2 : Int32)) &&& (858993459 : Int32))) + (mx_ushr (((i0 - ((mx_ushr i0 (1 : Int32)) &&& (1431655765 : Int32))) &&& (858993459 : Int32)) + ((mx_ushr (i0 - ((mx_ushr i0 (1 : Int32)) &&& (1431655765 : Int32))) (2 : Int32)) &&& (858993459 : Int32))) (4 : Int32))) &&& (252645135 : Int32)) + (mx_ushr (((((i0 - ((mx_ushr i0 (1 : Int32)) &&& (1431655765 : Int32))) &&& (858993459 : Int32)) + ((mx_ushr (i0 - ((mx_ushr i0 (1 : Int32)) &&& (1431655765 : Int32))) (2 : Int32)) &&& (858993459 : Int32))) + (mx_ushr (((i0 - ((mx_ushr i0 (1 : Int32)) &&& (1431655765 : Int32))) &&& (858993459 : Int32)) + ((mx_ushr (i0 - ((mx_ushr i0 (1 : Int32)) &&& (1431655765 : Int32))) (2 : Int32)) &&& (858993459 : Int32))) (4 : Int32))) &&& (252645135 : Int32)) (8 : Int32))) + (mx_ushr ((((((i0 - ((mx_ushr i0 (1 : Int32)) &&& (1431655765 : Int32))) &&& (858993459 : Int32)) + ((mx_ushr (i0 - ((mx_ushr i0 (1 : Int32)) &&& (1431655765 : Int32))) (2 : Int32)) &&& (858993459 : Int32))) + (mx_ushr (((i0 - ((mx_ushr i0 (1 : Int32)) &&& (1431655765 : Int32))) &&& (858993459 : Int32)) + ((mx_ushr (i0 - ((mx_ushr i0 (1 : Int32)) &&& (1431655765 : Int32))) (2 : Int32)) &&& (858993459 : Int32))) (4 : Int32))) &&& (252645135 : Int32)) + (mx_ushr (((((i0 - ((mx_ushr i0 (1 : Int32)) &&& (1431655765 : Int32))) &&& (858993459 : Int32)) + ((mx_ushr (i0 - ((mx_ushr i0 (1 : Int32)) &&& (1431655765 : Int32))) (2 : Int32)) &&& (858993459 : Int32))) + (mx_ushr (((i0 - ((mx_ushr i0 (1 : Int32)) &&& (1431655765 : Int32))) &&& (858993459 : Int32)) + ((mx_ushr (i0 - ((mx_ushr i0 (1 : Int32)) &&& (1431655765 : Int32))) (2 : Int32)) &&& (858993459 : Int32))) (4 : Int32))) &&& (252645135 : Int32)) (8 : Int32))) (16 : Int32))) &&& (63 : Int32))
/-- X7_isAt -/
def fX7_isAt (i1 : Int32) (M : MM) : Option Bool := if mx_in (M.1 3 7) 941 then if (M.1 4 (M.1 3 7).toNatClampNeg) = i1 then some true else some false else none
/-- X7_key -/
def fX7_key  (M : MM) : Option Nat := if mx_in (M.1 3 7) 941 then some (M.2.2 8 (M.1 3 7).toNatClampNeg) else none
/-- X7_name -/
def fX7_name  (M : MM) : Option Int64 := if mx_in (M.1 3 7) 941 then some (M.2.1 7 (M.1 3 7).toNatClampNeg) else none
/-- X3_personNamed -/
def fX3_personNamed_2 (o : Nat) (l1 : Int64) (M : MM)   : Nat → Int32 → Option Int32
  | 0, _ => none
  | n + 1, i3 => if (M.1 o 0) ≤ i3 then some (-1 : Int32) else if mx_in i3 7 then if (lg_cmp (M.2.1 (o + 1) i3.toNatClampNeg) l1) = 0 then some i3 else fX3_personNamed_2 o l1 M n (i3 + (1 : Int32)) else none
def fX3_personNamed (o : Nat) (l1 : Int64) (M : MM) : Option Int32 := fX3_personNamed_2 o l1 M mx_fu (0 : Int32)
/-- X7_fail -/
def fX7_fail (i1 : Int32) (M : MM) : Option (Bool × MM) := if mx_in ((mx_si M 3 10 i1).1 3 7) 941 then some (false, (mx_si (mx_si M 3 10 i1) 3 11 ((mx_si M 3 10 i1).1 5 ((mx_si M 3 10 i1).1 3 7).toNatClampNeg))) else none
/-- X7_advance -/
def fX7_advance  (M : MM) : Option MM := if (M.1 3 6) ≤ ((M.1 3 7) + (1 : Int32)) then some M else some (mx_si M 3 7 ((M.1 3 7) + (1 : Int32)))
/-- X7_takeNamed -/
def fX7_takeNamed (i1 : Int32) (M : MM) : Option (Bool × MM) := if mx_in (M.1 3 7) 941 then if (M.1 4 (M.1 3 7).toNatClampNeg) = (2 : Int32) then if i1 = (-1 : Int32) then (fX7_fail (3 : Int32) M).bind fun q26 => some (q26.1, q26.2) else (fX7_advance (mx_si M 3 9 i1)).bind fun q36 => some (true, q36) else (fX7_fail (1 : Int32) M).bind fun q15 => some (q15.1, q15.2) else none
/-- X1_takeWho -/
def fX1_takeWho  (M : MM) : Option (Bool × MM) := if mx_in (M.1 138 4) 40 then (fX7_key (mx_si M 140 (M.1 138 4).toNatClampNeg (-1 : Int32))).bind fun q11 => if q11 < 24 then if q11 = 11 then some (true, (mx_si M 140 (M.1 138 4).toNatClampNeg (-1 : Int32))) else (fX7_name (mx_si M 140 (M.1 138 4).toNatClampNeg (-1 : Int32))).bind fun q25 => (fX3_personNamed 9 q25 (mx_si M 140 (M.1 138 4).toNatClampNeg (-1 : Int32))).bind fun q28 => (fX7_takeNamed q28 (mx_si M 140 (M.1 138 4).toNatClampNeg (-1 : Int32))).bind fun q31 => if (mx_b q31.1) = 0 then some (false, q31.2) else if mx_in (q31.2.1 138 4) 40 then some (true, (mx_si q31.2 140 (q31.2.1 138 4).toNatClampNeg (q31.2.1 3 9))) else none else none else none
/-- X1_readBare -/
def fX1_readBare (i2 : Int32) (M : MM) : Option (Bool × MM) := if mx_in (M.1 138 4) 40 then (fX7_advance (mx_si M 139 (M.1 138 4).toNatClampNeg i2)).bind fun q11 => some (true, q11) else none
/-- X7_takeNumber -/
def fX7_takeNumber_45 (i1 : Int32) (i2 : Int32)   (M : MM) : Option (Bool × MM) := (fX7_fail (2 : Int32) M).bind fun q47 => some (q47.1, q47.2)
def fX7_takeNumber (i1 : Int32) (i2 : Int32) (M : MM) : Option (Bool × MM) := if mx_in (M.1 3 7) 941 then if (M.1 4 (M.1 3 7).toNatClampNeg) = (4 : Int32) then if mx_in (M.1 3 7) 941 then if (M.1 6 (M.1 3 7).toNatClampNeg) < i1 then fX7_takeNumber_45 i1 i2 M else if mx_in (M.1 3 7) 941 then if (M.1 6 (M.1 3 7).toNatClampNeg) ≤ i2 then if mx_in (M.1 3 7) 941 then (fX7_advance (mx_si M 3 9 (M.1 6 (M.1 3 7).toNatClampNeg))).bind fun q65 => some (true, q65) else none else fX7_takeNumber_45 i1 i2 M else none else none else (fX7_fail (1 : Int32) M).bind fun q15 => some (q15.1, q15.2) else none
/-- X1_readNumbers -/
def fX1_readNumbers (i2 : Int32) (i3 : Int32) (i4 : Int32) (M : MM) : Option (Bool × MM) := (fX1_readBare i2 M).bind fun q3 => (fX7_takeNumber i3 i4 q3.2).bind fun q11 => if (mx_b q11.1) = 0 then some (false, q11.2) else if mx_in (q11.2.1 138 4) 40 then if i2 = 0 then (fX7_takeNumber i3 i4 (mx_si q11.2 141 (q11.2.1 138 4).toNatClampNeg (q11.2.1 3 9))).bind fun q42 => if (mx_b q42.1) = 0 then some (false, q42.2) else if mx_in (q42.2.1 138 4) 40 then some (true, (mx_si q42.2 142 (q42.2.1 138 4).toNatClampNeg (q42.2.1 3 9))) else none else some (true, (mx_si q11.2 141 (q11.2.1 138 4).toNatClampNeg (q11.2.1 3 9))) else none
/-- X3_ringNamed -/
def fX3_ringNamed_2 (o : Nat) (l1 : Int64) (M : MM)   : Nat → Int32 → Option Int32
  | 0, _ => none
  | n + 1, i3 => if (M.1 o 1) ≤ i3 then some (-1 : Int32) else if mx_in i3 7 then if (lg_cmp (M.2.1 (o + 5) i3.toNatClampNeg) l1) = 0 then some i3 else fX3_ringNamed_2 o l1 M n (i3 + (1 : Int32)) else none
def fX3_ringNamed (o : Nat) (l1 : Int64) (M : MM) : Option Int32 := fX3_ringNamed_2 o l1 M mx_fu (0 : Int32)
/-- X1_readRingAct -/
def fX1_readRingAct (i2 : Int32) (M : MM) : Option (Bool × MM) := (fX1_readBare i2 M).bind fun q3 => (fX7_name q3.2).bind fun q10 => (fX3_ringNamed 9 q10 q3.2).bind fun q13 => (fX7_takeNamed q13 q3.2).bind fun q16 => if (mx_b q16.1) = 0 then some (false, q16.2) else if mx_in (q16.2.1 138 4) 40 then if i2 = (10 : Int32) then (fX7_name (mx_si q16.2 141 (q16.2.1 138 4).toNatClampNeg (q16.2.1 3 9))).bind fun q48 => (fX3_personNamed 9 q48 (mx_si q16.2 141 (q16.2.1 138 4).toNatClampNeg (q16.2.1 3 9))).bind fun q51 => (fX7_takeNamed q51 (mx_si q16.2 141 (q16.2.1 138 4).toNatClampNeg (q16.2.1 3 9))).bind fun q54 => if (mx_b q54.1) = 0 then some (false, q54.2) else if mx_in (q54.2.1 138 4) 40 then some (true, (mx_si q54.2 142 (q54.2.1 138 4).toNatClampNeg (q54.2.1 3 9))) else none else some (true, (mx_si q16.2 141 (q16.2.1 138 4).toNatClampNeg (q16.2.1 3 9))) else none
/-- X1_readAct -/
def fX1_readAct_48    (w4 : Nat) (M : MM) : Option (Bool × MM) := if w4 < 24 then if (xsw w4) = 6 then (fX1_readNumbers (0 : Int32) (0 : Int32) (20 : Int32) M).bind fun q98 => some (q98.1, q98.2) else if (xsw w4) = 7 then (fX1_readRingAct (10 : Int32) M).bind fun q107 => some (q107.1, q107.2) else if (xsw w4) = 8 then (fX1_readRingAct (20 : Int32) M).bind fun q116 => some (q116.1, q116.2) else if (xsw w4) = 9 then (fX1_readBare (30 : Int32) M).bind fun q124 => some (q124.1, q124.2) else if (xsw w4) = 10 then (fX1_readRingAct (40 : Int32) M).bind fun q133 => some (q133.1, q133.2) else (fX7_fail (1 : Int32) M).bind fun q139 => some (q139.1, q139.2) else none
def fX1_readAct_18    (bs0 : Bool) (M : MM) : Option (Bool × MM) := (fX7_key M).bind fun q20 => if q20 < 24 then if q20 = 11 then if (mx_b bs0) = 0 then (fX1_readNumbers (50 : Int32) (1 : Int32) (60 : Int32) M).bind fun q44 => some (q44.1, q44.2) else fX1_readAct_48 q20 M else fX1_readAct_48 q20 M else none
def fX1_readAct  (M : MM) : Option (Bool × MM) := if mx_in (M.1 138 4) 40 then if (M.1 140 (M.1 138 4).toNatClampNeg) = (-1 : Int32) then fX1_readAct_18 false M else fX1_readAct_18 true M else none
/-- X7_isAtSign -/
def fX7_isAtSign (i1 : Int32) (M : MM) : Option Bool := if mx_in (M.1 3 7) 941 then if (M.1 4 (M.1 3 7).toNatClampNeg) = (5 : Int32) then if mx_in (M.1 3 7) 941 then if (M.1 6 (M.1 3 7).toNatClampNeg) = i1 then some true else some false else none else some false else none
/-- X7_takeSign -/
def fX7_takeSign (i1 : Int32) (M : MM) : Option (Bool × MM) := (fX7_isAtSign i1 M).bind fun q2 => if (mx_b q2) = 0 then (fX7_fail (1 : Int32) M).bind fun q10 => some (q10.1, q10.2) else (fX7_advance M).bind fun q15 => some (true, q15)
/-- X1_failBehindAll -/
def fX1_failBehindAll_60    (is1 : Int32) (M : MM) : Option (Bool × MM) := (fX7_fail is1 M).bind fun q60 => some (q60.1, q60.2)
def fX1_failBehindAll_40    (M : MM) : Option (Bool × MM) := (fX7_fail (4 : Int32) M).bind fun q42 => some (q42.1, q42.2)
def fX1_failBehindAll_25    (bs0 : Bool) (M : MM) : Option (Bool × MM) := if (mx_b bs0) = 0 then (fX7_key M).bind fun q31 => if q31 < 24 then if q31 = 11 then fX1_failBehindAll_40 M else (fX7_isAt (2 : Int32) M).bind fun q49 => if (mx_b q49) = 0 then fX1_failBehindAll_60 (1 : Int32) M else fX1_failBehindAll_60 (3 : Int32) M else none else fX1_failBehindAll_40 M
def fX1_failBehindAll_24   (k25 : Bool → MM → Option (Bool × MM)) (M : MM) : Option (Bool × MM) := k25 false M
def fX1_failBehindAll  (M : MM) : Option (Bool × MM) := (fX7_isAt (2 : Int32) M).bind fun q2 => if (mx_b q2) = 0 then fX1_failBehindAll_24 (fun bs0' M' => fX1_failBehindAll_25 bs0' M') M else (fX7_name M).bind fun q10 => (fX3_personNamed 9 q10 M).bind fun q13 => if q13 = (-1 : Int32) then fX1_failBehindAll_24 (fun bs0' M' => fX1_failBehindAll_25 bs0' M') M else fX1_failBehindAll_25 true M
/-- X1_readFrom -/
def fX1_readFrom_5    : Nat → MM → Option (Bool × MM)
  | 0, _ => none
  | n + 1, M => if (40 : Int32) ≤ (M.1 138 4) then (fX7_isAt (1 : Int32) M).bind fun q68 => if (mx_b q68) = 0 then (fX1_failBehindAll M).bind fun q77 => if (mx_b q77.1) = 0 then some (false, q77.2) else some (true, q77.2) else some (true, M) else (fX7_isAt (1 : Int32) M).bind fun q16 => if (mx_b q16) = 0 then (fX1_takeWho M).bind fun q27 => if (mx_b q27.1) = 0 then some (false, q27.2) else (fX1_readAct q27.2).bind fun q36 => if (mx_b q36.1) = 0 then some (false, q36.2) else (fX7_takeSign (59 : Int32) q36.2).bind fun q45 => if (mx_b q45.1) = 0 then some (false, q45.2) else fX1_readFrom_5 n (mx_si q45.2 138 4 ((q45.2.1 138 4) + (1 : Int32))) else some (true, M)
def fX1_readFrom  (M : MM) : Option (Bool × MM) := fX1_readFrom_5 mx_fu (mx_si M 138 4 (0 : Int32))
/-- X9_farTo -/
def fX9_farTo (o : Nat) (i1 : Int32) (i2 : Int32) (i3 : Int32) (M : MM) : Option Int32 := if mx_in i1 7 then if mx_in i1 7 then some ((if 0 ≤ ((M.1 (o + 1) i1.toNatClampNeg) - i2) then ((M.1 (o + 1) i1.toNatClampNeg) - i2) else 0 - ((M.1 (o + 1) i1.toNatClampNeg) - i2)) + (if 0 ≤ ((M.1 (o + 2) i1.toNatClampNeg) - i3) then ((M.1 (o + 2) i1.toNatClampNeg) - i3) else 0 - ((M.1 (o + 2) i1.toNatClampNeg) - i3))) else none else none
/-- X9_walkTo -/
def fX9_walkTo (o : Nat) (i1 : Int32) (i2 : Int32) (i3 : Int32) (M : MM) : Option (Int32 × MM) := (fX9_farTo o i1 i2 i3 M).bind fun q4 => if q4 = 0 then some ((1 : Int32), M) else if mx_in i1 7 then if q4 ≤ (M.1 (o + 3) i1.toNatClampNeg) then if mx_in i1 7 then if mx_in i1 7 then if mx_in i1 7 then if mx_in i1 7 then some ((0 : Int32), (mx_si (mx_si (mx_si (mx_si M (o + 1) i1.toNatClampNeg i2) (o + 2) i1.toNatClampNeg i3) (o + 3) i1.toNatClampNeg (((mx_si (mx_si M (o + 1) i1.toNatClampNeg i2) (o + 2) i1.toNatClampNeg i3).1 (o + 3) i1.toNatClampNeg) - q4)) o 11 (((mx_si (mx_si (mx_si M (o + 1) i1.toNatClampNeg i2) (o + 2) i1.toNatClampNeg i3) (o + 3) i1.toNatClampNeg (((mx_si (mx_si M (o + 1) i1.toNatClampNeg i2) (o + 2) i1.toNatClampNeg i3).1 (o + 3) i1.toNatClampNeg) - q4)).1 o 11) + q4))) else none else none else none else none else some ((2 : Int32), M) else none
/-- X9_isKeptBy -/
def fX9_isKeptBy (o : Nat) (i1 : Int32) (i2 : Int32) (M : MM) : Option Bool := if mx_in i1 7 then if (M.1 (o + 5) i1.toNatClampNeg) = 0 then if mx_in i1 7 then if (M.1 (o + 4) i1.toNatClampNeg) = i2 then some true else some false else none else some false else none
/-- X3_isPerson -/
def fX3_isPerson (i1 : Int32) (M : MM) : Option Bool := if i1 < 0 then some false else if (M.1 9 0) ≤ i1 then some false else some true
/-- X9_isBy -/
def fX9_isBy (o : Nat) (i1 : Int32) (i2 : Int32) (M : MM) : Option Bool := (fX3_isPerson i2 M).bind fun q5 => if (mx_b q5) = 0 then some false else if mx_in i1 7 then if mx_in i2 7 then if (M.1 (o + 1) i1.toNatClampNeg) = (M.1 (o + 1) i2.toNatClampNeg) then if mx_in i1 7 then if mx_in i2 7 then if (M.1 (o + 2) i1.toNatClampNeg) = (M.1 (o + 2) i2.toNatClampNeg) then some true else some false else none else none else some false else none else none
/-- X9_passOn -/
def fX9_passOn (o : Nat) (i1 : Int32) (i2 : Int32) (i3 : Int32) (M : MM) : Option (Int32 × MM) := if i1 = i3 then some ((1 : Int32), M) else (fX9_isKeptBy o i2 i1 M).bind fun q10 => if (mx_b q10) = 0 then some ((2 : Int32), M) else (fX9_isBy o i1 i3 M).bind fun q21 => if (mx_b q21) = 0 then some ((3 : Int32), M) else if mx_in i2 7 then some ((0 : Int32), (mx_si (mx_si M (o + 4) i2.toNatClampNeg i3) o 10 (((mx_si M (o + 4) i2.toNatClampNeg i3).1 o 10) + (1 : Int32)))) else none
/-- X9_wornBy -/
def fX9_wornBy_2 (o : Nat) (i1 : Int32) (M : MM)   : Nat → Int32 → Option Int32
  | 0, _ => none
  | n + 1, i2 => if (M.1 9 1) ≤ i2 then some (-1 : Int32) else if mx_in i2 7 then if (M.1 (o + 5) i2.toNatClampNeg) = (1 : Int32) then if mx_in i2 7 then if (M.1 (o + 4) i2.toNatClampNeg) = i1 then some i2 else fX9_wornBy_2 o i1 M n (i2 + (1 : Int32)) else none else fX9_wornBy_2 o i1 M n (i2 + (1 : Int32)) else none
def fX9_wornBy (o : Nat) (i1 : Int32) (M : MM) : Option Int32 := fX9_wornBy_2 o i1 M mx_fu (0 : Int32)
/-- X3_feel -/
def fX3_feel (i1 : Int32) (i2 : Int32) (M : MM) : Option Int32 := if mx_in i2 7 then if (-(M.1 9 11)) ≤ (i1 - (M.1 13 i2.toNatClampNeg)) then if (i1 - (M.1 13 i2.toNatClampNeg)) ≤ (M.1 9 11) then some (1 : Int32) else some (2 : Int32) else some (0 : Int32) else none
/-- X9_putOn -/
def fX9_putOn (o : Nat) (i1 : Int32) (i2 : Int32) (M : MM) : Option (Int32 × MM) := (fX9_isKeptBy o i2 i1 M).bind fun q3 => if (mx_b q3) = 0 then some ((1 : Int32), M) else (fX9_wornBy o i1 M).bind fun q13 => if q13 = (-1 : Int32) then if mx_in i2 7 then (fX3_feel (M.1 15 i2.toNatClampNeg) i1 M).bind fun q36 => if q36 = (1 : Int32) then if mx_in i2 7 then some ((0 : Int32), (mx_si M (o + 5) i2.toNatClampNeg (1 : Int32))) else none else some ((3 : Int32), M) else none else some ((2 : Int32), M)
/-- X9_takeOff -/
def fX9_takeOff (o : Nat) (i1 : Int32) (M : MM) : Option (Int32 × MM) := (fX9_wornBy o i1 M).bind fun q2 => if q2 = (-1 : Int32) then some ((1 : Int32), M) else if mx_in q2 7 then some ((0 : Int32), (mx_si M (o + 5) q2.toNatClampNeg (0 : Int32))) else none
/-- X9_pickUp -/
def fX9_pickUp (o : Nat) (i1 : Int32) (i2 : Int32) (M : MM) : Option (Int32 × MM) := if mx_in i2 7 then if (M.1 (o + 5) i2.toNatClampNeg) = (2 : Int32) then if mx_in i2 7 then if mx_in i2 7 then (fX9_farTo o i1 (M.1 (o + 6) i2.toNatClampNeg) (M.1 (o + 7) i2.toNatClampNeg) M).bind fun q26 => if q26 = 0 then if mx_in i2 7 then if mx_in i2 7 then some ((0 : Int32), (mx_si (mx_si M (o + 5) i2.toNatClampNeg (0 : Int32)) (o + 4) i2.toNatClampNeg i1)) else none else none else some ((2 : Int32), M) else none else none else some ((1 : Int32), M) else none
/-- X9_isWithOwner -/
def fX9_isWithOwner (o : Nat) (i1 : Int32) (M : MM) : Option Bool := if mx_in i1 7 then if mx_in i1 7 then if (M.1 (o + 4) i1.toNatClampNeg) = (M.1 16 i1.toNatClampNeg) then some true else some false else none else none
/-- X9_keptBy -/
def fX9_keptBy_4 (o : Nat) (i1 : Int32) (M : MM)   : Nat → Int32 → Int32 → Option Int32
  | 0, _, _ => none
  | n + 1, i2, i3 => if (M.1 9 1) ≤ i3 then some i2 else (fX9_isKeptBy o i3 i1 M).bind fun q18 => if (mx_b q18) = 0 then fX9_keptBy_4 o i1 M n i2 (i3 + (1 : Int32)) else fX9_keptBy_4 o i1 M n (i2 ||| ((1 : Int32) <<< (i3 &&& 31))) (i3 + (1 : Int32))
def fX9_keptBy (o : Nat) (i1 : Int32) (M : MM) : Option Int32 := fX9_keptBy_4 o i1 M mx_fu (0 : Int32) (0 : Int32)
/-- X9_loseGreatest -/
def fX9_loseGreatest_10 (o : Nat) (i1 : Int32) (i2 : Int32)   : Nat → Int32 → MM → Option MM
  | 0, _, _ => none
  | n + 1, i3, M => if i3 < 0 then some M else if ((i2 >>> (i3 &&& 31)) &&& (1 : Int32)) = (1 : Int32) then if mx_in i3 7 then if mx_in i3 7 then if mx_in i1 7 then if mx_in i3 7 then if mx_in i1 7 then if mx_in i3 7 then some (mx_si (mx_si (mx_si (mx_si M (o + 5) i3.toNatClampNeg (2 : Int32)) (o + 4) i3.toNatClampNeg (-1 : Int32)) (o + 6) i3.toNatClampNeg ((mx_si (mx_si M (o + 5) i3.toNatClampNeg (2 : Int32)) (o + 4) i3.toNatClampNeg (-1 : Int32)).1 (o + 1) i1.toNatClampNeg)) (o + 7) i3.toNatClampNeg ((mx_si (mx_si (mx_si M (o + 5) i3.toNatClampNeg (2 : Int32)) (o + 4) i3.toNatClampNeg (-1 : Int32)) (o + 6) i3.toNatClampNeg ((mx_si (mx_si M (o + 5) i3.toNatClampNeg (2 : Int32)) (o + 4) i3.toNatClampNeg (-1 : Int32)).1 (o + 1) i1.toNatClampNeg)).1 (o + 2) i1.toNatClampNeg)) else none else none else none else none else none else none else fX9_loseGreatest_10 o i1 i2 n (i3 + (-1 : Int32)) M
def fX9_loseGreatest (o : Nat) (i1 : Int32) (i2 : Int32) (M : MM) : Option MM := fX9_loseGreatest_10 o i1 i2 mx_fu ((M.1 9 1) - (1 : Int32)) M
/-- X9_rest -/
def fX9_rest_2 (o : Nat)   : Nat → Int32 → MM → Option MM
  | 0, _, _ => none
  | n + 1, i1, M => if (M.1 9 0) ≤ i1 then some M else if mx_in i1 7 then fX9_rest_2 o n (i1 + (1 : Int32)) (mx_si M (o + 3) i1.toNatClampNeg (M.1 9 12)) else none
def fX9_rest (o : Nat) (M : MM) : Option MM := fX9_rest_2 o mx_fu (0 : Int32) M
/-- X9_passDay -/
def fX9_passDay_56 (o : Nat)   : Nat → Int32 → MM → Option MM
  | 0, _, _ => none
  | n + 1, i1, M => if (M.1 9 0) ≤ i1 then (fX9_rest o (mx_si M o 9 ((M.1 o 9) + (1 : Int32)))).bind fun q110 => some q110 else (fX9_keptBy o i1 M).bind fun q69 => (fJ6_bitCount_0f7a4 q69 M).bind fun q74 => if q74 < (M.1 9 13) then fX9_passDay_56 o n (i1 + (1 : Int32)) M else (fX9_loseGreatest o i1 q69 M).bind fun q90 => fX9_passDay_56 o n (i1 + (1 : Int32)) q90
def fX9_passDay_47 (o : Nat)  (k2 : Int32 → MM → Option MM) (i1 : Int32) (is1 : Int32) (is2 : Int32) (M : MM) : Option MM := if mx_in is1 7 then k2 (i1 + (1 : Int32)) (mx_si M (o + 8) is1.toNatClampNeg is2) else none
def fX9_passDay_2 (o : Nat)   : Nat → Int32 → MM → Option MM
  | 0, _, _ => none
  | n + 1, i1, M => if (M.1 9 1) ≤ i1 then fX9_passDay_56 o mx_fu (0 : Int32) M else if mx_in i1 7 then if (M.1 18 i1.toNatClampNeg) = (M.1 o 9) then (fX9_isWithOwner o i1 M).bind fun q36 => if (mx_b q36) = 0 then fX9_passDay_47 o (fX9_passDay_2 o n) i1 i1 (2 : Int32) M else fX9_passDay_47 o (fX9_passDay_2 o n) i1 i1 (1 : Int32) M else fX9_passDay_2 o n (i1 + (1 : Int32)) M else none
def fX9_passDay (o : Nat) (M : MM) : Option MM := fX9_passDay_2 o mx_fu (0 : Int32) M
/-- X9_passDays -/
def fX9_passDays_2 (o : Nat) (i1 : Int32)   : Nat → Int32 → MM → Option (Int32 × MM)
  | 0, _, _ => none
  | n + 1, i2, M => if i1 ≤ i2 then some (i2, M) else if (400 : Int32) ≤ (M.1 o 9) then some (i2, M) else (fX9_passDay o M).bind fun q18 => fX9_passDays_2 o i1 n (i2 + (1 : Int32)) q18
def fX9_passDays (o : Nat) (i1 : Int32) (M : MM) : Option (Int32 × MM) := fX9_passDays_2 o i1 mx_fu (0 : Int32) M
/-- X1_liveDays -/
def fX1_liveDays (i1 : Int32) (M : MM) : Option (Int32 × MM) := if i1 ≤ ((400 : Int32) - (M.1 47 9)) then (fX9_passDays 47 i1 M).bind fun q16 => some ((0 : Int32), q16.2) else some ((1 : Int32), M)
/-- X1_live -/
def fX1_live (i2 : Int32) (M : MM) : Option (Int32 × MM) := if mx_in i2 40 then if mx_in i2 40 then if (M.1 139 i2.toNatClampNeg) = 0 then if mx_in i2 40 then if mx_in i2 40 then (fX9_walkTo 47 (M.1 140 i2.toNatClampNeg) (M.1 141 i2.toNatClampNeg) (M.1 142 i2.toNatClampNeg) M).bind fun q78 => some (q78.1, q78.2) else none else none else if (M.1 139 i2.toNatClampNeg) = 10 then if mx_in i2 40 then if mx_in i2 40 then (fX9_passOn 47 (M.1 140 i2.toNatClampNeg) (M.1 141 i2.toNatClampNeg) (M.1 142 i2.toNatClampNeg) M).bind fun q96 => some (q96.1, q96.2) else none else none else if (M.1 139 i2.toNatClampNeg) = 20 then if mx_in i2 40 then (fX9_putOn 47 (M.1 140 i2.toNatClampNeg) (M.1 141 i2.toNatClampNeg) M).bind fun q108 => some (q108.1, q108.2) else none else if (M.1 139 i2.toNatClampNeg) = 30 then (fX9_takeOff 47 (M.1 140 i2.toNatClampNeg) M).bind fun q114 => some (q114.1, q114.2) else if (M.1 139 i2.toNatClampNeg) = 40 then if mx_in i2 40 then (fX9_pickUp 47 (M.1 140 i2.toNatClampNeg) (M.1 141 i2.toNatClampNeg) M).bind fun q126 => some (q126.1, q126.2) else none else if mx_in i2 40 then (fX1_liveDays (M.1 141 i2.toNatClampNeg) M).bind fun q137 => some (q137.1, q137.2) else none else none else none
/-- X9_ringsWith -/
def fX9_ringsWith_5 (o : Nat) (a1 : Nat) (i2 : Int32) (M : MM)   : Nat → Int32 → Int32 → Option Int32
  | 0, _, _ => none
  | n + 1, i3, i4 => if (M.1 9 1) ≤ i4 then some i3 else if mx_in i4 7 then if (M.1 a1 i4.toNatClampNeg) = i2 then fX9_ringsWith_5 o a1 i2 M n (i3 ||| ((1 : Int32) <<< (i4 &&& 31))) (i4 + (1 : Int32)) else fX9_ringsWith_5 o a1 i2 M n i3 (i4 + (1 : Int32)) else none
def fX9_ringsWith (o : Nat) (a1 : Nat) (i2 : Int32) (M : MM) : Option Int32 := fX9_ringsWith_5 o a1 i2 M mx_fu (0 : Int32) (0 : Int32)
/-- X9_ringsThatAre -/
def fX9_ringsThatAre (o : Nat) (i1 : Int32) (M : MM) : Option Int32 := (fX9_ringsWith o (o + 5) i1 M).bind fun q6 => some q6
/-- X1_judge -/
def fX1_judge_69    (M : MM) : Option (Int32 × MM) := (fX9_ringsThatAre 47 (2 : Int32) (mx_si M 138 8 (M.1 47 9))).bind fun q80 => if ((mx_si (mx_si (mx_si M 138 8 (M.1 47 9)) 138 9 q80) 138 5 (1 : Int32)).1 138 6) = 0 then some ((-1 : Int32), (mx_si (mx_si (mx_si M 138 8 (M.1 47 9)) 138 9 q80) 138 5 (1 : Int32))) else some (((mx_si (mx_si (mx_si M 138 8 (M.1 47 9)) 138 9 q80) 138 5 (1 : Int32)).1 138 7), (mx_si (mx_si (mx_si M 138 8 (M.1 47 9)) 138 9 q80) 138 5 (1 : Int32)))
def fX1_judge_12    : Nat → Int32 → MM → Option (Int32 × MM)
  | 0, _, _ => none
  | n + 1, i2, M => if (M.1 138 4) ≤ i2 then fX1_judge_69 M else if (M.1 138 6) = 0 then (fX1_live i2 M).bind fun q30 => if q30.1 = 0 then fX1_judge_12 n (i2 + (1 : Int32)) (mx_si q30.2 138 7 ((q30.2.1 138 7) + (1 : Int32))) else if mx_in i2 40 then fX1_judge_12 n (i2 + (1 : Int32)) (mx_si q30.2 138 6 ((q30.2.1 139 i2.toNatClampNeg) + q30.1)) else none else fX1_judge_69 M
def fX1_judge  (M : MM) : Option (Int32 × MM) := fX1_judge_12 mx_fu (0 : Int32) (mx_si (mx_si M 138 6 (0 : Int32)) 138 7 (0 : Int32))
/-- X10_at -/
def fX10_at (i1 : Int32) (M : MM) : Option Int32 := if i1 < 0 then some (-1 : Int32) else if i1 < (M.1 1 1) then if mx_in i1 940 then some ((M.1 2 i1.toNatClampNeg) &&& (255 : Int32)) else none else some (-1 : Int32)
/-- X2_areTries -/
def fX2_areTries_26 (M : MM) (i2 : Int32)  : Nat → Int32 → Option Bool
  | 0, _ => none
  | n + 1, i3 => if i2 ≤ i3 then some true else (fX10_at i3 M).bind fun q34 => (fX3_isPerson q34 M).bind fun q37 => if (mx_b q37) = 0 then some false else (fX10_at (i3 + (1 : Int32)) M).bind fun q47 => if q47 ≤ (2 : Int32) then fX2_areTries_26 M i2 n (i3 + (2 : Int32)) else some false
def fX2_areTries  (M : MM) : Option Bool := if (M.1 1 1) < (2 : Int32) then some false else if (16 : Int32) < (M.1 1 1) then some false else if ((M.1 1 1) - (M.1 1 1) / (2 : Int32) * (2 : Int32)) = 0 then fX2_areTries_26 M (M.1 1 1) mx_fu (0 : Int32) else some false
/-- X2_isJustSo -/
def fX2_isJustSo_2 (i2 : Int32) (M : MM)   : Nat → Int32 → Option Bool
  | 0, _ => none
  | n + 1, i3 => if (M.1 1 1) ≤ i3 then some true else (fX10_at i3 M).bind fun q14 => (fX3_feel i2 q14 M).bind fun q17 => (fX10_at (i3 + (1 : Int32)) M).bind fun q24 => if q17 = q24 then fX2_isJustSo_2 i2 M n (i3 + (2 : Int32)) else some false
def fX2_isJustSo (i2 : Int32) (M : MM) : Option Bool := fX2_isJustSo_2 i2 M mx_fu (0 : Int32)
/-- X2_mostLeftBy -/
def fX2_mostLeftBy_63 (i1 : Int32) (i2 : Int32) (M : MM)  (k11 : Int32 → Int32 → Int32 → Int32 → Option Int32) (i3 : Int32) (i5 : Int32) (i6 : Int32) (i7 : Int32) (is0 : Int32) (bs1 : Bool) : Option Int32 := if i7 = (2 : Int32) then k11 i3 (is0 + (mx_b bs1)) (i5 + (1 : Int32)) (i6 + (1 : Int32)) else k11 i3 (is0 + (mx_b bs1)) (i5 + (0 : Int32)) (i6 + (1 : Int32))
def fX2_mostLeftBy_48 (i1 : Int32) (i2 : Int32) (M : MM)  (k11 : Int32 → Int32 → Int32 → Int32 → Option Int32) (i4 : Int32) (i5 : Int32) (i6 : Int32) (i7 : Int32) (is0 : Int32) (bs1 : Bool) : Option Int32 := if i7 = (1 : Int32) then fX2_mostLeftBy_63 i1 i2 M k11 (is0 + (mx_b bs1)) i5 i6 i7 i4 true else fX2_mostLeftBy_63 i1 i2 M k11 (is0 + (mx_b bs1)) i5 i6 i7 i4 false
def fX2_mostLeftBy_11 (i1 : Int32) (i2 : Int32) (M : MM)   : Nat → Int32 → Int32 → Int32 → Int32 → Option Int32
  | 0, _, _, _, _ => none
  | n + 1, i3, i4, i5, i6 => if (20 : Int32) < i6 then some (if i3 < (if i4 < i5 then i5 else i4) then (if i4 < i5 then i5 else i4) else i3) else if ((i1 >>> (i6 &&& 31)) &&& (1 : Int32)) = (1 : Int32) then (fX3_feel i6 i2 M).bind fun q32 => if q32 = 0 then fX2_mostLeftBy_48 i1 i2 M (fX2_mostLeftBy_11 i1 i2 M n) i4 i5 i6 q32 i3 true else fX2_mostLeftBy_48 i1 i2 M (fX2_mostLeftBy_11 i1 i2 M n) i4 i5 i6 q32 i3 false else fX2_mostLeftBy_11 i1 i2 M n i3 i4 i5 (i6 + (1 : Int32))
def fX2_mostLeftBy (i1 : Int32) (i2 : Int32) (M : MM) : Option Int32 := fX2_mostLeftBy_11 i1 i2 M mx_fu (0 : Int32) (0 : Int32) (0 : Int32) (1 : Int32)
/-- X2_bestToTry -/
def fX2_bestToTry_8 (i1 : Int32) (M : MM)   : Nat → Int32 → Int32 → Int32 → Option Int32
  | 0, _, _, _ => none
  | n + 1, i2, i3, i4 => if (M.1 9 0) ≤ i4 then some i2 else (fX2_mostLeftBy i1 i4 M).bind fun q21 => if i3 ≤ q21 then fX2_bestToTry_8 i1 M n i2 i3 (i4 + (1 : Int32)) else fX2_bestToTry_8 i1 M n i4 q21 (i4 + (1 : Int32))
def fX2_bestToTry (i1 : Int32) (M : MM) : Option Int32 := fX2_bestToTry_8 i1 M mx_fu (-1 : Int32) (21 : Int32) (0 : Int32)
/-- X2_readTries -/
def fX2_readTries_64    (i3 : Int32) (M : MM) : Option (Int32 × MM) := (fJ6_bitCount_0f7a4 i3 M).bind fun q65 => some (q65, M)
def fX2_readTries_16    : Nat → Int32 → Int32 → MM → Option (Int32 × MM)
  | 0, _, _, _ => none
  | n + 1, i3, i4, M => if i4 < (1 : Int32) then if i3 = 0 then fX2_readTries_64 i3 M else (fX2_bestToTry i3 M).bind fun q58 => fX2_readTries_64 i3 (mx_si M 149 1 q58) else (fX2_isJustSo i4 M).bind fun q26 => if (mx_b q26) = 0 then fX2_readTries_16 n i3 (i4 + (-1 : Int32)) M else fX2_readTries_16 n (i3 ||| ((1 : Int32) <<< (i4 &&& 31))) (i4 + (-1 : Int32)) (mx_si M 149 0 i4)
def fX2_readTries  (M : MM) : Option (Int32 × MM) := (fX2_areTries M).bind fun q2 => if (mx_b q2) = 0 then some ((-1 : Int32), M) else fX2_readTries_16 mx_fu (0 : Int32) (20 : Int32) M
/-- X2_mayHave -/
def fX2_mayHave (i1 : Int32) (i2 : Int32) (i3 : Int32) (M : MM) : Option Bool := if ((i1 >>> (i2 &&& 31)) &&& (1 : Int32)) = 0 then if mx_in i3 7 then (fX3_feel (M.1 15 i3.toNatClampNeg) i2 M).bind fun q16 => if q16 = (1 : Int32) then some true else some false else none else some false
/-- X2_giveOne -/
def fX2_giveOne_33 (i2 : Int32) (i3 : Int32)  (k3 : Int32 → MM → Option MM) : Nat → Int32 → Int32 → MM → Option MM
  | 0, _, _, _ => none
  | n + 1, i4, i5, M => if (M.1 9 0) ≤ i5 then k3 (i4 + (1 : Int32)) M else (fX2_mayHave i4 i5 i2 M).bind fun q48 => if (mx_b q48) = 0 then fX2_giveOne_33 i2 i3 k3 n i4 (i5 + (1 : Int32)) M else if mx_in (i4 ||| ((1 : Int32) <<< (i5 &&& 31))) 128 then if mx_in i4 128 then if mx_in (i4 ||| ((1 : Int32) <<< (i5 &&& 31))) 128 then fX2_giveOne_33 i2 i3 k3 n i4 (i5 + (1 : Int32)) (mx_si M 150 (i4 ||| ((1 : Int32) <<< (i5 &&& 31))).toNatClampNeg ((M.1 150 (i4 ||| ((1 : Int32) <<< (i5 &&& 31))).toNatClampNeg) + (M.1 150 i4.toNatClampNeg))) else none else none else none
def fX2_giveOne_3 (i2 : Int32) (i3 : Int32)   : Nat → Int32 → MM → Option MM
  | 0, _, _ => none
  | n + 1, i4, M => if (128 : Int32) ≤ i4 then some M else if mx_in i4 128 then if (M.1 150 i4.toNatClampNeg) = 0 then fX2_giveOne_3 i2 i3 n (i4 + (1 : Int32)) M else (fJ6_bitCount_0f7a4 i4 M).bind fun q23 => if q23 = i3 then fX2_giveOne_33 i2 i3 (fX2_giveOne_3 i2 i3 n) mx_fu i4 (0 : Int32) M else fX2_giveOne_3 i2 i3 n (i4 + (1 : Int32)) M else none
def fX2_giveOne (i2 : Int32) (i3 : Int32) (M : MM) : Option MM := fX2_giveOne_3 i2 i3 mx_fu (0 : Int32) M
/-- X2_giveAllBut -/
def fX2_giveAllBut_35 (i2 : Int32)   : Nat → Int32 → Int32 → MM → Option (Int32 × MM)
  | 0, _, _, _ => none
  | n + 1, i3, i4, M => if (M.1 9 1) ≤ i4 then some (i3, M) else if i4 = i2 then fX2_giveAllBut_35 i2 n i3 (i4 + (1 : Int32)) M else (fX2_giveOne i4 i3 M).bind fun q55 => fX2_giveAllBut_35 i2 n (i3 + (1 : Int32)) (i4 + (1 : Int32)) q55
def fX2_giveAllBut_23 (i2 : Int32)  (k2 : Int32 → MM → Option (Int32 × MM)) (i3 : Int32) (is1 : Int32) (bs2 : Bool) (M : MM) : Option (Int32 × MM) := if mx_in is1 128 then k2 (i3 + (1 : Int32)) (mx_si M 150 is1.toNatClampNeg (mx_b bs2)) else none
def fX2_giveAllBut_2 (i2 : Int32)   : Nat → Int32 → MM → Option (Int32 × MM)
  | 0, _, _ => none
  | n + 1, i3, M => if (128 : Int32) ≤ i3 then fX2_giveAllBut_35 i2 mx_fu (0 : Int32) (0 : Int32) M else if i3 = 0 then fX2_giveAllBut_23 i2 (fX2_giveAllBut_2 i2 n) i3 i3 true M else fX2_giveAllBut_23 i2 (fX2_giveAllBut_2 i2 n) i3 i3 false M
def fX2_giveAllBut (i2 : Int32) (M : MM) : Option (Int32 × MM) := fX2_giveAllBut_2 i2 mx_fu (0 : Int32) M
/-- X2_waysToGive -/
def fX2_waysToGive_12  (i2 : Int32)  : Nat → Int32 → Int32 → MM → Option (Int32 × MM)
  | 0, _, _, _ => none
  | n + 1, i3, i4, M => if (128 : Int32) ≤ i4 then some (i3, M) else (fJ6_bitCount_0f7a4 i4 M).bind fun q22 => if q22 = i2 then if mx_in i4 128 then fX2_waysToGive_12 i2 n (i3 + (M.1 150 i4.toNatClampNeg)) (i4 + (1 : Int32)) M else none else fX2_waysToGive_12 i2 n i3 (i4 + (1 : Int32)) M
def fX2_waysToGive  (M : MM) : Option (Int32 × MM) := (fX2_giveAllBut (-1 : Int32) M).bind fun q3 => fX2_waysToGive_12 q3.1 mx_fu (0 : Int32) (0 : Int32) q3.2
/-- X2_countVotes -/
def fX2_countVotes_30 (i2 : Int32) (i3 : Int32) (k10 : Int32 → MM → Option MM) : Nat → Int32 → Int32 → MM → Option MM
  | 0, _, _, _ => none
  | n + 1, i4, i5, M => if (128 : Int32) ≤ i5 then k10 (i4 + (1 : Int32)) M else (fJ6_bitCount_0f7a4 i5 M).bind fun q40 => if q40 = i3 then (fX2_mayHave i5 i4 i2 M).bind fun q53 => if (mx_b q53) = 0 then fX2_countVotes_30 i2 i3 k10 n i4 (i5 + (1 : Int32)) M else if mx_in i4 7 then if mx_in i5 128 then if mx_in i4 7 then fX2_countVotes_30 i2 i3 k10 n i4 (i5 + (1 : Int32)) (mx_si M 151 i4.toNatClampNeg ((M.1 151 i4.toNatClampNeg) + (M.1 150 i5.toNatClampNeg))) else none else none else none else fX2_countVotes_30 i2 i3 k10 n i4 (i5 + (1 : Int32)) M
def fX2_countVotes_10 (i2 : Int32) (i3 : Int32)  : Nat → Int32 → MM → Option MM
  | 0, _, _ => none
  | n + 1, i4, M => if (M.1 9 0) ≤ i4 then some M else if mx_in i4 7 then fX2_countVotes_30 i2 i3 (fX2_countVotes_10 i2 i3 n) mx_fu i4 (0 : Int32) (mx_si M 151 i4.toNatClampNeg (0 : Int32)) else none
def fX2_countVotes (i2 : Int32) (M : MM) : Option MM := (fX2_giveAllBut i2 M).bind fun q3 => fX2_countVotes_10 i2 q3.1 mx_fu (0 : Int32) q3.2
/-- X2_likeliest -/
def fX2_likeliest_14 (i2 : Int32)   : Nat → Int32 → Int32 → Int32 → MM → Option (Int32 × MM)
  | 0, _, _, _, _ => none
  | n + 1, i3, i4, i5, M => if (M.1 9 0) ≤ i5 then some (i3, M) else if mx_in i5 7 then if (M.1 151 i5.toNatClampNeg) ≤ i4 then fX2_likeliest_14 i2 n i3 i4 (i5 + (1 : Int32)) M else if mx_in i5 7 then fX2_likeliest_14 i2 n i5 (M.1 151 i5.toNatClampNeg) (i5 + (1 : Int32)) M else none else none
def fX2_likeliest (i2 : Int32) (M : MM) : Option (Int32 × MM) := (fX2_countVotes i2 M).bind fun q3 => fX2_likeliest_14 i2 mx_fu (-1 : Int32) (0 : Int32) (0 : Int32) q3
/-- X3_isRing -/
def fX3_isRing (i1 : Int32) (M : MM) : Option Bool := if i1 < 0 then some false else if (M.1 9 1) ≤ i1 then some false else some true
/-- X3_ownedBy -/
def fX3_ownedBy_4 (i1 : Int32) (M : MM)   : Nat → Int32 → Int32 → Option Int32
  | 0, _, _ => none
  | n + 1, i2, i3 => if (M.1 9 1) ≤ i3 then some i2 else if mx_in i3 7 then if (M.1 16 i3.toNatClampNeg) = i1 then fX3_ownedBy_4 i1 M n (i2 ||| ((1 : Int32) <<< (i3 &&& 31))) (i3 + (1 : Int32)) else fX3_ownedBy_4 i1 M n i2 (i3 + (1 : Int32)) else none
def fX3_ownedBy (i1 : Int32) (M : MM) : Option Int32 := fX3_ownedBy_4 i1 M mx_fu (0 : Int32) (0 : Int32)
/-- X3_copyFrom -/
def fX3_copyFrom (o : Nat) (o1 : Nat) (M : MM) : Option MM := some (mx_cpi (mx_cpi (mx_cpi (mx_cpi (mx_cpl (mx_cpi (mx_cpi (mx_cpi (mx_cpl (mx_si (mx_si (mx_si (mx_si (mx_si (mx_si M o 0 (M.1 o1 0)) o 1 ((mx_si M o 0 (M.1 o1 0)).1 o1 1)) o 11 ((mx_si (mx_si M o 0 (M.1 o1 0)) o 1 ((mx_si M o 0 (M.1 o1 0)).1 o1 1)).1 o1 11)) o 12 ((mx_si (mx_si (mx_si M o 0 (M.1 o1 0)) o 1 ((mx_si M o 0 (M.1 o1 0)).1 o1 1)) o 11 ((mx_si (mx_si M o 0 (M.1 o1 0)) o 1 ((mx_si M o 0 (M.1 o1 0)).1 o1 1)).1 o1 11)).1 o1 12)) o 13 ((mx_si (mx_si (mx_si (mx_si M o 0 (M.1 o1 0)) o 1 ((mx_si M o 0 (M.1 o1 0)).1 o1 1)) o 11 ((mx_si (mx_si M o 0 (M.1 o1 0)) o 1 ((mx_si M o 0 (M.1 o1 0)).1 o1 1)).1 o1 11)) o 12 ((mx_si (mx_si (mx_si M o 0 (M.1 o1 0)) o 1 ((mx_si M o 0 (M.1 o1 0)).1 o1 1)) o 11 ((mx_si (mx_si M o 0 (M.1 o1 0)) o 1 ((mx_si M o 0 (M.1 o1 0)).1 o1 1)).1 o1 11)).1 o1 12)).1 o1 13)) o 14 ((mx_si (mx_si (mx_si (mx_si (mx_si M o 0 (M.1 o1 0)) o 1 ((mx_si M o 0 (M.1 o1 0)).1 o1 1)) o 11 ((mx_si (mx_si M o 0 (M.1 o1 0)) o 1 ((mx_si M o 0 (M.1 o1 0)).1 o1 1)).1 o1 11)) o 12 ((mx_si (mx_si (mx_si M o 0 (M.1 o1 0)) o 1 ((mx_si M o 0 (M.1 o1 0)).1 o1 1)) o 11 ((mx_si (mx_si M o 0 (M.1 o1 0)) o 1 ((mx_si M o 0 (M.1 o1 0)).1 o1 1)).1 o1 11)).1 o1 12)) o 13 ((mx_si (mx_si (mx_si (mx_si M o 0 (M.1 o1 0)) o 1 ((mx_si M o 0 (M.1 o1 0)).1 o1 1)) o 11 ((mx_si (mx_si M o 0 (M.1 o1 0)) o 1 ((mx_si M o 0 (M.1 o1 0)).1 o1 1)).1 o1 11)) o 12 ((mx_si (mx_si (mx_si M o 0 (M.1 o1 0)) o 1 ((mx_si M o 0 (M.1 o1 0)).1 o1 1)) o 11 ((mx_si (mx_si M o 0 (M.1 o1 0)) o 1 ((mx_si M o 0 (M.1 o1 0)).1 o1 1)).1 o1 11)).1 o1 12)).1 o1 13)).1 o1 14)) (o1 + 1) (o + 1) 7) (o1 + 2) (o + 2) 7) (o1 + 3) (o + 3) 7) (o1 + 4) (o + 4) 7) (o1 + 5) (o + 5) 7) (o1 + 6) (o + 6) 7) (o1 + 7) (o + 7) 7) (o1 + 8) (o + 8) 7) (o1 + 9) (o + 9) 7)
/-- X3_clear -/
def fX3_clear  (M : MM) : Option MM := some (mx_si (mx_si (mx_si (mx_si (mx_si (mx_si (mx_si (mx_si (mx_si M 19 0 (0 : Int32)) 19 1 (0 : Int32)) 19 11 (1 : Int32)) 19 12 (5 : Int32)) 19 13 (4 : Int32)) 19 14 (0 : Int32)) 19 15 (0 : Int32)) 19 16 (0 : Int32)) 19 17 (0 : Int32))
/-- X3_takeNewName -/
def fX3_takeNewName_38    (M : MM) : Option (Bool × MM) := (fX7_fail (3 : Int32) M).bind fun q40 => some (q40.1, q40.2)
def fX3_takeNewName  (M : MM) : Option (Bool × MM) := (fX7_isAt (2 : Int32) M).bind fun q2 => if (mx_b q2) = 0 then (fX7_fail (1 : Int32) M).bind fun q10 => some (q10.1, q10.2) else (fX7_name M).bind fun q16 => (fX3_personNamed 19 q16 M).bind fun q19 => if q19 = (-1 : Int32) then (fX7_name M).bind fun q28 => (fX3_ringNamed 19 q28 M).bind fun q31 => if q31 = (-1 : Int32) then (fX7_advance M).bind fun q45 => some (true, q45) else fX3_takeNewName_38 M else fX3_takeNewName_38 M
/-- X3_readPerson -/
def fX3_readPerson  (M : MM) : Option (Bool × MM) := if (M.1 19 0) < (7 : Int32) then (fX7_advance M).bind fun q18 => (fX7_name q18).bind fun q27 => if mx_in (M.1 19 0) 7 then (fX3_takeNewName (mx_sl q18 20 (M.1 19 0).toNatClampNeg q27)).bind fun q33 => if (mx_b q33.1) = 0 then some (false, q33.2) else (fX7_takeNumber (0 : Int32) (20 : Int32) q33.2).bind fun q43 => if (mx_b q43.1) = 0 then some (false, q43.2) else if mx_in (M.1 19 0) 7 then (fX7_takeNumber (0 : Int32) (20 : Int32) (mx_si q43.2 21 (M.1 19 0).toNatClampNeg (q43.2.1 3 9))).bind fun q65 => if (mx_b q65.1) = 0 then some (false, q65.2) else if mx_in (M.1 19 0) 7 then (fX7_takeNumber (1 : Int32) (20 : Int32) (mx_si q65.2 22 (M.1 19 0).toNatClampNeg (q65.2.1 3 9))).bind fun q87 => if (mx_b q87.1) = 0 then some (false, q87.2) else if mx_in (M.1 19 0) 7 then some (true, (mx_si (mx_si q87.2 23 (M.1 19 0).toNatClampNeg (q87.2.1 3 9)) 19 0 (((mx_si q87.2 23 (M.1 19 0).toNatClampNeg (q87.2.1 3 9)).1 19 0) + (1 : Int32)))) else none else none else none else none else (fX7_fail (4 : Int32) M).bind fun q13 => some (q13.1, q13.2)
/-- X3_readRing -/
def fX3_readRing  (M : MM) : Option (Bool × MM) := if (M.1 19 1) < (7 : Int32) then (fX7_advance M).bind fun q18 => (fX7_name q18).bind fun q27 => if mx_in (M.1 19 1) 7 then (fX3_takeNewName (mx_sl q18 24 (M.1 19 1).toNatClampNeg q27)).bind fun q33 => if (mx_b q33.1) = 0 then some (false, q33.2) else (fX7_takeNumber (1 : Int32) (20 : Int32) q33.2).bind fun q43 => if (mx_b q43.1) = 0 then some (false, q43.2) else if mx_in (M.1 19 1) 7 then (fX7_name (mx_si q43.2 25 (M.1 19 1).toNatClampNeg (q43.2.1 3 9))).bind fun q64 => (fX3_personNamed 19 q64 (mx_si q43.2 25 (M.1 19 1).toNatClampNeg (q43.2.1 3 9))).bind fun q67 => (fX7_takeNamed q67 (mx_si q43.2 25 (M.1 19 1).toNatClampNeg (q43.2.1 3 9))).bind fun q70 => if (mx_b q70.1) = 0 then some (false, q70.2) else if mx_in (M.1 19 1) 7 then (fX7_name (mx_si q70.2 26 (M.1 19 1).toNatClampNeg (q70.2.1 3 9))).bind fun q91 => (fX3_personNamed 19 q91 (mx_si q70.2 26 (M.1 19 1).toNatClampNeg (q70.2.1 3 9))).bind fun q94 => (fX7_takeNamed q94 (mx_si q70.2 26 (M.1 19 1).toNatClampNeg (q70.2.1 3 9))).bind fun q97 => if (mx_b q97.1) = 0 then some (false, q97.2) else if mx_in (M.1 19 1) 7 then (fX7_takeNumber (0 : Int32) (300 : Int32) (mx_si q97.2 27 (M.1 19 1).toNatClampNeg (q97.2.1 3 9))).bind fun q120 => if (mx_b q120.1) = 0 then some (false, q120.2) else if mx_in (M.1 19 1) 7 then some (true, (mx_si (mx_si q120.2 28 (M.1 19 1).toNatClampNeg (q120.2.1 3 9)) 19 1 (((mx_si q120.2 28 (M.1 19 1).toNatClampNeg (q120.2.1 3 9)).1 19 1) + (1 : Int32)))) else none else none else none else none else none else (fX7_fail (4 : Int32) M).bind fun q13 => some (q13.1, q13.2)
/-- X3_takeOnce -/
def fX3_takeOnce (i1 : Int32) (i2 : Int32) (i3 : Int32) (M : MM) : Option (Bool × MM) := if i1 = 0 then (fX7_advance M).bind fun q11 => (fX7_takeNumber i2 i3 q11).bind fun q17 => some (q17.1, q17.2) else (fX7_fail (3 : Int32) M).bind fun q6 => some (q6.1, q6.2)
/-- X3_readFit -/
def fX3_readFit  (M : MM) : Option (Bool × MM) := (fX3_takeOnce (M.1 19 15) (0 : Int32) (5 : Int32) M).bind fun q7 => if (mx_b q7.1) = 0 then some (false, q7.2) else some (true, (mx_si (mx_si q7.2 19 15 (1 : Int32)) 19 11 ((mx_si q7.2 19 15 (1 : Int32)).1 3 9)))
/-- X3_readWalk -/
def fX3_readWalk  (M : MM) : Option (Bool × MM) := (fX3_takeOnce (M.1 19 16) (1 : Int32) (20 : Int32) M).bind fun q8 => if (mx_b q8.1) = 0 then some (false, q8.2) else some (true, (mx_si (mx_si q8.2 19 16 (1 : Int32)) 19 12 ((mx_si q8.2 19 16 (1 : Int32)).1 3 9)))
/-- X3_readJingle -/
def fX3_readJingle  (M : MM) : Option (Bool × MM) := (fX3_takeOnce (M.1 19 17) (2 : Int32) (9 : Int32) M).bind fun q8 => if (mx_b q8.1) = 0 then some (false, q8.2) else some (true, (mx_si (mx_si q8.2 19 17 (1 : Int32)) 19 13 ((mx_si q8.2 19 17 (1 : Int32)).1 3 9)))
/-- X3_readLine -/
def fX3_readLine  (M : MM) : Option (Bool × MM) := (fX7_key M).bind fun q4 => if q4 < 24 then if (xsw q4) = 1 then (fX3_readPerson M).bind fun q46 => some (q46.1, q46.2) else if (xsw q4) = 2 then (fX3_readRing M).bind fun q52 => some (q52.1, q52.2) else if (xsw q4) = 3 then (fX3_readFit M).bind fun q58 => some (q58.1, q58.2) else if (xsw q4) = 4 then (fX3_readWalk M).bind fun q64 => some (q64.1, q64.2) else if (xsw q4) = 5 then (fX3_readJingle M).bind fun q70 => some (q70.1, q70.2) else (fX7_fail (1 : Int32) M).bind fun q76 => some (q76.1, q76.2) else none
/-- X3_readFrom -/
def fX3_readFrom_4    : Nat → MM → Option (Bool × MM)
  | 0, _ => none
  | n + 1, M => if (17 : Int32) < (M.1 19 14) then (fX7_fail (4 : Int32) M).bind fun q57 => some (q57.1, q57.2) else (fX7_isAt (1 : Int32) M).bind fun q15 => if (mx_b q15) = 0 then (fX3_readLine M).bind fun q25 => if (mx_b q25.1) = 0 then some (false, q25.2) else (fX7_takeSign (59 : Int32) q25.2).bind fun q34 => if (mx_b q34.1) = 0 then some (false, q34.2) else fX3_readFrom_4 n (mx_si q34.2 19 14 ((q34.2.1 19 14) + (1 : Int32))) else some (true, M)
def fX3_readFrom  (M : MM) : Option (Bool × MM) := (fX3_clear M).bind fun q1 => fX3_readFrom_4 mx_fu q1
/-- X4_add -/
def fX4_add (i1 : Int32) (M : MM) : Option MM := if (128 : Int32) ≤ (M.1 152 1) then some M else if mx_in (M.1 152 1) 128 then some (mx_si (mx_si M 153 (M.1 152 1).toNatClampNeg i1.toInt8.toInt32.toInt8.toInt32) 152 1 (((mx_si M 153 (M.1 152 1).toNatClampNeg i1.toInt8.toInt32.toInt8.toInt32).1 152 1) + (1 : Int32))) else none
/-- X4_addName -/
def fX4_addName_3 (l1 : Int64)   : Nat → Int32 → MM → Option MM
  | 0, _, _ => none
  | n + 1, i3, M => if i3 < 0 then some M else if (((mx_lushr l1 i3).toInt32) &&& (31 : Int32)) = 0 then fX4_addName_3 l1 n (i3 + (-5 : Int32)) M else (fX4_add (((97 : Int32) + (((mx_lushr l1 i3).toInt32) &&& (31 : Int32))) - (1 : Int32)) M).bind fun q29 => fX4_addName_3 l1 n (i3 + (-5 : Int32)) q29
def fX4_addName (l1 : Int64) (M : MM) : Option MM := fX4_addName_3 l1 mx_fu (30 : Int32) M
/-- X4_addText -/
def fX4_addText_2 (w1 : Nat)   : Nat → Int32 → MM → Option MM
  | 0, _, _ => none
  | n + 1, i2, M => if (xsl w1) ≤ i2 then some M else if mx_in i2 (xsn w1) then (fX4_add (xsb w1 i2.toNatClampNeg) M).bind fun q16 => fX4_addText_2 w1 n (i2 + (1 : Int32)) q16 else none
def fX4_addText (w1 : Nat) (M : MM) : Option MM := fX4_addText_2 w1 mx_fu (0 : Int32) M
/-- X4_write -/
def fX4_write_66 (i2 : Int32) (i4 : Int32) (i5 : Int32)  : Nat → Int32 → MM → Option MM
  | 0, _, _ => none
  | n + 1, i6, M => if (M.1 9 1) ≤ i6 then if i5 = (-1 : Int32) then some M else (fX4_addText 2 M).bind fun q123 => if mx_in i5 7 then (fX4_addName (q123.2.1 14 i5.toNatClampNeg) q123).bind fun q134 => some q134 else none else if ((i4 >>> (i6 &&& 31)) &&& (1 : Int32)) = (1 : Int32) then (fX4_add (32 : Int32) M).bind fun q89 => if mx_in i6 7 then if mx_in (q89.1 16 i6.toNatClampNeg) 7 then (fX4_addName (q89.2.1 10 (q89.1 16 i6.toNatClampNeg).toNatClampNeg) q89).bind fun q105 => fX4_write_66 i2 i4 i5 n (i6 + (1 : Int32)) q105 else none else none else fX4_write_66 i2 i4 i5 n (i6 + (1 : Int32)) M
def fX4_write (i2 : Int32) (M : MM) : Option MM := (fX9_keptBy 29 i2 M).bind fun q7 => (fX9_wornBy 29 i2 M).bind fun q14 => if mx_in i2 7 then (fX4_addName ((mx_si M 152 1 (0 : Int32)).2.1 10 i2.toNatClampNeg) (mx_si M 152 1 (0 : Int32))).bind fun q31 => (fX4_addText 0 q31).bind fun q37 => (fJ6_bitCount_0f7a4 q7 q37).bind fun q45 => (fX4_add ((48 : Int32) + q45) q37).bind fun q49 => if q7 = 0 then fX4_write_66 i2 q7 q14 mx_fu (0 : Int32) q49 else (fX4_addText 1 q49).bind fun q60 => fX4_write_66 i2 q7 q14 mx_fu (0 : Int32) q60 else none
/-- X5_clear -/
def fX5_clear  (M : MM) : Option MM := some (mx_si M 56 1 (0 : Int32))
/-- X5_dropOldest -/
def fX5_dropOldest_9  (c1 : Nat)  : Nat → Int32 → MM → Option MM
  | 0, _, _ => none
  | n + 1, i2, M => if (8 : Int32) ≤ i2 then if xt_isS c1 then some (mx_si (mx_sr M 57 7 c1) 56 1 (7 : Int32)) else none else if mx_in i2 8 then if mx_in (i2 - (1 : Int32)) 8 then if xt_isS (M.2.2 57 i2.toNatClampNeg) then fX5_dropOldest_9 c1 n (i2 + (1 : Int32)) (mx_sr M 57 ((i2 - (1 : Int32)).toNatClampNeg) (M.2.2 57 i2.toNatClampNeg)) else none else none else none
def fX5_dropOldest  (M : MM) : Option MM := fX5_dropOldest_9 (M.2.2 57 0) mx_fu (1 : Int32) M
/-- X9_copyFrom -/
def fX9_copyFrom (o : Nat) (o1 : Nat) (M : MM) : Option MM := some (mx_si (mx_si (mx_si (mx_cpi (mx_cpi (mx_cpi (mx_cpi (mx_cpi (mx_cpi (mx_cpi (mx_cpi M (o1 + 1) (o + 1) 7) (o1 + 2) (o + 2) 7) (o1 + 3) (o + 3) 7) (o1 + 4) (o + 4) 7) (o1 + 5) (o + 5) 7) (o1 + 6) (o + 6) 7) (o1 + 7) (o + 7) 7) (o1 + 8) (o + 8) 7) o 9 ((mx_cpi (mx_cpi (mx_cpi (mx_cpi (mx_cpi (mx_cpi (mx_cpi (mx_cpi M (o1 + 1) (o + 1) 7) (o1 + 2) (o + 2) 7) (o1 + 3) (o + 3) 7) (o1 + 4) (o + 4) 7) (o1 + 5) (o + 5) 7) (o1 + 6) (o + 6) 7) (o1 + 7) (o + 7) 7) (o1 + 8) (o + 8) 7).1 o1 9)) o 10 ((mx_si (mx_cpi (mx_cpi (mx_cpi (mx_cpi (mx_cpi (mx_cpi (mx_cpi (mx_cpi M (o1 + 1) (o + 1) 7) (o1 + 2) (o + 2) 7) (o1 + 3) (o + 3) 7) (o1 + 4) (o + 4) 7) (o1 + 5) (o + 5) 7) (o1 + 6) (o + 6) 7) (o1 + 7) (o + 7) 7) (o1 + 8) (o + 8) 7) o 9 ((mx_cpi (mx_cpi (mx_cpi (mx_cpi (mx_cpi (mx_cpi (mx_cpi (mx_cpi M (o1 + 1) (o + 1) 7) (o1 + 2) (o + 2) 7) (o1 + 3) (o + 3) 7) (o1 + 4) (o + 4) 7) (o1 + 5) (o + 5) 7) (o1 + 6) (o + 6) 7) (o1 + 7) (o + 7) 7) (o1 + 8) (o + 8) 7).1 o1 9)).1 o1 10)) o 11 ((mx_si (mx_si (mx_cpi (mx_cpi (mx_cpi (mx_cpi (mx_cpi (mx_cpi (mx_cpi (mx_cpi M (o1 + 1) (o + 1) 7) (o1 + 2) (o + 2) 7) (o1 + 3) (o + 3) 7) (o1 + 4) (o + 4) 7) (o1 + 5) (o + 5) 7) (o1 + 6) (o + 6) 7) (o1 + 7) (o + 7) 7) (o1 + 8) (o + 8) 7) o 9 ((mx_cpi (mx_cpi (mx_cpi (mx_cpi (mx_cpi (mx_cpi (mx_cpi (mx_cpi M (o1 + 1) (o + 1) 7) (o1 + 2) (o + 2) 7) (o1 + 3) (o + 3) 7) (o1 + 4) (o + 4) 7) (o1 + 5) (o + 5) 7) (o1 + 6) (o + 6) 7) (o1 + 7) (o + 7) 7) (o1 + 8) (o + 8) 7).1 o1 9)) o 10 ((mx_si (mx_cpi (mx_cpi (mx_cpi (mx_cpi (mx_cpi (mx_cpi (mx_cpi (mx_cpi M (o1 + 1) (o + 1) 7) (o1 + 2) (o + 2) 7) (o1 + 3) (o + 3) 7) (o1 + 4) (o + 4) 7) (o1 + 5) (o + 5) 7) (o1 + 6) (o + 6) 7) (o1 + 7) (o + 7) 7) (o1 + 8) (o + 8) 7) o 9 ((mx_cpi (mx_cpi (mx_cpi (mx_cpi (mx_cpi (mx_cpi (mx_cpi (mx_cpi M (o1 + 1) (o + 1) 7) (o1 + 2) (o + 2) 7) (o1 + 3) (o + 3) 7) (o1 + 4) (o + 4) 7) (o1 + 5) (o + 5) 7) (o1 + 6) (o + 6) 7) (o1 + 7) (o + 7) 7) (o1 + 8) (o + 8) 7).1 o1 9)).1 o1 10)).1 o1 11))
/-- X5_push -/
def fX5_push_13 (o1 : Nat)   (M : MM) : Option MM := if mx_in (M.1 56 1) 8 then if xt_isS (M.2.2 57 (M.1 56 1).toNatClampNeg) then (fX9_copyFrom (M.2.2 57 (M.1 56 1).toNatClampNeg) o1 M).bind fun q23 => some (mx_si q23 56 1 ((q23.1 56 1) + (1 : Int32))) else none else none
def fX5_push (o1 : Nat) (M : MM) : Option MM := if (M.1 56 1) < (8 : Int32) then fX5_push_13 o1 M else (fX5_dropOldest M).bind fun q10 => fX5_push_13 o1 q10
/-- X5_takeBack -/
def fX5_takeBack  (M : MM) : Option MM := if (M.1 56 1) ≤ 0 then some M else if mx_in ((mx_si M 56 1 ((M.1 56 1) - (1 : Int32))).1 56 1) 8 then if xt_isS ((mx_si M 56 1 ((M.1 56 1) - (1 : Int32))).2.2 57 ((mx_si M 56 1 ((M.1 56 1) - (1 : Int32))).1 56 1).toNatClampNeg) then (fX9_copyFrom 29 ((mx_si M 56 1 ((M.1 56 1) - (1 : Int32))).2.2 57 ((mx_si M 56 1 ((M.1 56 1) - (1 : Int32))).1 56 1).toNatClampNeg) (mx_si M 56 1 ((M.1 56 1) - (1 : Int32)))).bind fun q27 => some q27 else none else none
/-- X6_ownersOfKept -/
def fX6_ownersOfKept_4 (i1 : Int32) (M : MM)   : Nat → Int32 → Int32 → Option Int32
  | 0, _, _ => none
  | n + 1, i2, i3 => if (M.1 9 1) ≤ i3 then some i2 else (fX9_isKeptBy 29 i3 i1 M).bind fun q18 => if (mx_b q18) = 0 then fX6_ownersOfKept_4 i1 M n i2 (i3 + (1 : Int32)) else if mx_in i3 7 then if (M.1 16 i3.toNatClampNeg) = i1 then fX6_ownersOfKept_4 i1 M n i2 (i3 + (1 : Int32)) else if mx_in i3 7 then fX6_ownersOfKept_4 i1 M n (i2 ||| ((1 : Int32) <<< ((M.1 16 i3.toNatClampNeg) &&& 31))) (i3 + (1 : Int32)) else none else none
def fX6_ownersOfKept (i1 : Int32) (M : MM) : Option Int32 := fX6_ownersOfKept_4 i1 M mx_fu (0 : Int32) (0 : Int32)
/-- X9_farBetween -/
def fX9_farBetween (o : Nat) (i1 : Int32) (i2 : Int32) (M : MM) : Option Int32 := if mx_in i2 7 then if mx_in i2 7 then (fX9_farTo o i1 (M.1 (o + 1) i2.toNatClampNeg) (M.1 (o + 2) i2.toNatClampNeg) M).bind fun q14 => some q14 else none else none
/-- X6_tourBy -/
def fX6_tourBy (i2 : Int32) (i3 : Int32) (i4 : Int32) (M : MM) : Option Int32 := (fX9_farBetween 29 i3 i4 M).bind fun q4 => if mx_in (((i2 &&& (((1 : Int32) <<< (i4 &&& 31)) ^^^ (-1 : Int32))) * (7 : Int32)) + i4) 896 then some (q4 + (M.1 146 (((i2 &&& (((1 : Int32) <<< (i4 &&& 31)) ^^^ (-1 : Int32))) * (7 : Int32)) + i4).toNatClampNeg)) else none
/-- X6_leastTour -/
def fX6_leastTour_15 (i2 : Int32) (i3 : Int32) (M : MM)   : Nat → Int32 → Int32 → Option Int32
  | 0, _, _ => none
  | n + 1, i4, i5 => if (M.1 9 0) ≤ i5 then some i4 else if ((i2 >>> (i5 &&& 31)) &&& (1 : Int32)) = (1 : Int32) then (fX6_tourBy i2 i3 i5 M).bind fun q45 => fX6_leastTour_15 i2 i3 M n (if q45 < i4 then q45 else i4) (i5 + (1 : Int32)) else fX6_leastTour_15 i2 i3 M n i4 (i5 + (1 : Int32))
def fX6_leastTour (i2 : Int32) (i3 : Int32) (M : MM) : Option Int32 := if i2 = 0 then fX6_leastTour_15 i2 i3 M mx_fu (0 : Int32) (0 : Int32) else fX6_leastTour_15 i2 i3 M mx_fu (1000000 : Int32) (0 : Int32)
/-- X6_firstOfTour -/
def fX6_firstOfTour_3 (i2 : Int32) (i3 : Int32) (M : MM)   : Nat → Int32 → Option Int32
  | 0, _ => none
  | n + 1, i4 => if (M.1 9 0) ≤ i4 then some i3 else if ((i2 >>> (i4 &&& 31)) &&& (1 : Int32)) = (1 : Int32) then (fX6_tourBy i2 i3 i4 M).bind fun q31 => if mx_in ((i2 * (7 : Int32)) + i3) 896 then if q31 = (M.1 146 ((i2 * (7 : Int32)) + i3).toNatClampNeg) then some i4 else fX6_firstOfTour_3 i2 i3 M n (i4 + (1 : Int32)) else none else fX6_firstOfTour_3 i2 i3 M n (i4 + (1 : Int32))
def fX6_firstOfTour (i2 : Int32) (i3 : Int32) (M : MM) : Option Int32 := fX6_firstOfTour_3 i2 i3 M mx_fu (0 : Int32)
/-- X6_followTour -/
def fX6_followTour_14 (i2 : Int32) (i3 : Int32)   : Nat → Int32 → Int32 → Int32 → MM → Option MM
  | 0, _, _, _, _ => none
  | n + 1, i4, i5, i6, M => if (7 : Int32) ≤ i6 then some M else if i4 = 0 then some M else (fX6_firstOfTour i4 i5 M).bind fun q32 => if mx_in i6 7 then fX6_followTour_14 i2 i3 n (i4 &&& (((1 : Int32) <<< (q32 &&& 31)) ^^^ (-1 : Int32))) q32 (i6 + (1 : Int32)) (mx_si (mx_si M 144 i6.toNatClampNeg q32) 143 1 (((mx_si M 144 i6.toNatClampNeg q32).1 143 1) + (1 : Int32))) else none
def fX6_followTour (i2 : Int32) (i3 : Int32) (M : MM) : Option MM := fX6_followTour_14 i2 i3 mx_fu i2 i3 (0 : Int32) (mx_si M 143 1 (0 : Int32))
/-- X6_planTour -/
def fX6_planTour_29 (i2 : Int32) (i3 : Int32) (k9 : Int32 → MM → Option (Int32 × MM)) : Nat → Int32 → Int32 → MM → Option (Int32 × MM)
  | 0, _, _, _ => none
  | n + 1, i4, i5, M => if (M.1 9 0) ≤ i5 then k9 (i4 + (1 : Int32)) M else (fX6_leastTour i4 i5 M).bind fun q59 => if mx_in ((i4 * (7 : Int32)) + i5) 896 then fX6_planTour_29 i2 i3 k9 n i4 (i5 + (1 : Int32)) (mx_si M 146 ((i4 * (7 : Int32)) + i5).toNatClampNeg q59) else none
def fX6_planTour_9 (i2 : Int32) (i3 : Int32)  : Nat → Int32 → MM → Option (Int32 × MM)
  | 0, _, _ => none
  | n + 1, i4, M => if (128 : Int32) ≤ i4 then (fX6_followTour i3 i2 M).bind fun q79 => if mx_in ((i3 * (7 : Int32)) + i2) 896 then some ((q79.1 146 ((i3 * (7 : Int32)) + i2).toNatClampNeg), q79) else none else if (i4 &&& (i3 ^^^ (-1 : Int32))) = 0 then fX6_planTour_29 i2 i3 (fX6_planTour_9 i2 i3 n) mx_fu i4 (0 : Int32) M else fX6_planTour_9 i2 i3 n (i4 + (1 : Int32)) M
def fX6_planTour (i2 : Int32) (M : MM) : Option (Int32 × MM) := (fX6_ownersOfKept i2 M).bind fun q2 => fX6_planTour_9 i2 q2 mx_fu (0 : Int32) M
/-- X6_mayKeep -/
def fX6_mayKeep (i1 : Int32) (i2 : Int32) (i3 : Int32) (M : MM) : Option Bool := if ((i1 >>> (i2 &&& 31)) &&& (1 : Int32)) = 0 then if mx_in i3 7 then if (M.1 16 i3.toNatClampNeg) = i2 then some false else some true else none else some false
/-- X6_keepersBy -/
def fX6_keepersBy (i2 : Int32) (i3 : Int32) (i4 : Int32) (M : MM) : Option Int32 := if mx_in i4 7 then (fX9_farBetween 29 i3 (M.1 16 i4.toNatClampNeg) M).bind fun q12 => if mx_in (i2 ||| ((1 : Int32) <<< (i3 &&& 31))) 128 then some (q12 + (M.1 147 (i2 ||| ((1 : Int32) <<< (i3 &&& 31))).toNatClampNeg)) else none else none
/-- X6_leastKeepers -/
def fX6_leastKeepers_21 (i2 : Int32) (i3 : Int32) (M : MM) (i4 : Int32)  : Nat → Int32 → Int32 → Option Int32
  | 0, _, _ => none
  | n + 1, i5, i6 => if (M.1 9 0) ≤ i6 then some i5 else if mx_in i4 7 then (fX6_mayKeep i2 i6 (M.1 148 i4.toNatClampNeg) M).bind fun q44 => if (mx_b q44) = 0 then fX6_leastKeepers_21 i2 i3 M i4 n i5 (i6 + (1 : Int32)) else if mx_in i4 7 then (fX6_keepersBy i2 i6 (M.1 148 i4.toNatClampNeg) M).bind fun q64 => fX6_leastKeepers_21 i2 i3 M i4 n (if q64 < i5 then q64 else i5) (i6 + (1 : Int32)) else none else none
def fX6_leastKeepers (i2 : Int32) (i3 : Int32) (M : MM) : Option Int32 := (fJ6_bitCount_0f7a4 i2 M).bind fun q1 => if q1 < i3 then fX6_leastKeepers_21 i2 i3 M q1 mx_fu (1000000 : Int32) (0 : Int32) else some (0 : Int32)
/-- X6_firstKeeper -/
def fX6_firstKeeper_3 (i2 : Int32) (i3 : Int32) (M : MM)   : Nat → Int32 → Option Int32
  | 0, _ => none
  | n + 1, i4 => if (M.1 9 0) ≤ i4 then some (0 : Int32) else (fX6_mayKeep i2 i4 i3 M).bind fun q20 => if (mx_b q20) = 0 then fX6_firstKeeper_3 i2 i3 M n (i4 + (1 : Int32)) else (fX6_keepersBy i2 i4 i3 M).bind fun q32 => if mx_in i2 128 then if q32 = (M.1 147 i2.toNatClampNeg) then some i4 else fX6_firstKeeper_3 i2 i3 M n (i4 + (1 : Int32)) else none
def fX6_firstKeeper (i2 : Int32) (i3 : Int32) (M : MM) : Option Int32 := fX6_firstKeeper_3 i2 i3 M mx_fu (0 : Int32)
/-- X6_followKeepers -/
def fX6_followKeepers_26 (i2 : Int32)   : Nat → Int32 → Int32 → MM → Option MM
  | 0, _, _, _ => none
  | n + 1, i3, i4, M => if i2 ≤ i4 then some M else if mx_in i4 7 then (fX6_firstKeeper i3 (M.1 148 i4.toNatClampNeg) M).bind fun q52 => if mx_in (M.1 148 i4.toNatClampNeg) 7 then if mx_in (M.1 148 i4.toNatClampNeg) 7 then fX6_followKeepers_26 i2 n (i3 ||| ((1 : Int32) <<< (((mx_si M 145 (M.1 148 i4.toNatClampNeg).toNatClampNeg q52).1 145 (M.1 148 i4.toNatClampNeg).toNatClampNeg) &&& 31))) (i4 + (1 : Int32)) (mx_si M 145 (M.1 148 i4.toNatClampNeg).toNatClampNeg q52) else none else none else none
def fX6_followKeepers_2 (i2 : Int32)   : Nat → Int32 → MM → Option MM
  | 0, _, _ => none
  | n + 1, i3, M => if (7 : Int32) ≤ i3 then fX6_followKeepers_26 i2 mx_fu (0 : Int32) (0 : Int32) M else if mx_in i3 7 then fX6_followKeepers_2 i2 n (i3 + (1 : Int32)) (mx_si M 145 i3.toNatClampNeg (-1 : Int32)) else none
def fX6_followKeepers (i2 : Int32) (M : MM) : Option MM := fX6_followKeepers_2 i2 mx_fu (0 : Int32) M
/-- X6_planKeepers -/
def fX6_planKeepers_53  (i2 : Int32)  : Nat → Int32 → MM → Option (Int32 × MM)
  | 0, _, _ => none
  | n + 1, i3, M => if i3 < 0 then if (M.1 147 0) < (1000000 : Int32) then (fX6_followKeepers i2 M).bind fun q92 => some ((q92.1 147 0), q92) else some ((-1 : Int32), M) else (fX6_leastKeepers i3 i2 M).bind fun q66 => if mx_in i3 128 then fX6_planKeepers_53 i2 n (i3 + (-1 : Int32)) (mx_si M 147 i3.toNatClampNeg q66) else none
def fX6_planKeepers_4    : Nat → Int32 → Int32 → MM → Option (Int32 × MM)
  | 0, _, _, _ => none
  | n + 1, i2, i3, M => if (M.1 9 1) ≤ i3 then fX6_planKeepers_53 i2 mx_fu (((1 : Int32) <<< ((M.1 9 0) &&& 31)) - (1 : Int32)) M else if mx_in i3 7 then if (M.1 34 i3.toNatClampNeg) = (2 : Int32) then fX6_planKeepers_4 n i2 (i3 + (1 : Int32)) M else if mx_in i2 7 then fX6_planKeepers_4 n (i2 + (1 : Int32)) (i3 + (1 : Int32)) (mx_si M 148 i2.toNatClampNeg i3) else none else none
def fX6_planKeepers  (M : MM) : Option (Int32 × MM) := fX6_planKeepers_4 mx_fu (0 : Int32) (0 : Int32) M
/-- X6_keeperOfFirst -/
def fX6_keeperOfFirst_2 (i1 : Int32) (M : MM)   : Nat → Int32 → Option Int32
  | 0, _ => none
  | n + 1, i2 => if (M.1 9 1) ≤ i2 then some (-1 : Int32) else if mx_in i2 7 then if (M.1 16 i2.toNatClampNeg) = i1 then if mx_in i2 7 then if (M.1 34 i2.toNatClampNeg) = (2 : Int32) then fX6_keeperOfFirst_2 i1 M n (i2 + (1 : Int32)) else if mx_in i2 7 then some (M.1 33 i2.toNatClampNeg) else none else none else fX6_keeperOfFirst_2 i1 M n (i2 + (1 : Int32)) else none
def fX6_keeperOfFirst (i1 : Int32) (M : MM) : Option Int32 := fX6_keeperOfFirst_2 i1 M mx_fu (0 : Int32)
/-- X6_chainFrom -/
def fX6_chainFrom_16 (i2 : Int32)   : Nat → Int32 → Int32 → MM → Option (Int32 × MM)
  | 0, _, _, _ => none
  | n + 1, i3, i4, M => if (7 : Int32) ≤ i4 then some (i3, M) else if (M.1 143 3) = (-1 : Int32) then some (i3, M) else if ((i3 >>> ((M.1 143 3) &&& 31)) &&& (1 : Int32)) = 0 then (fX6_keeperOfFirst (M.1 143 3) M).bind fun q57 => fX6_chainFrom_16 i2 n (i3 ||| ((1 : Int32) <<< ((M.1 143 3) &&& 31))) (i4 + (1 : Int32)) (mx_si M 143 3 q57) else some (i3, M)
def fX6_chainFrom (i2 : Int32) (M : MM) : Option (Int32 × MM) := (fX6_keeperOfFirst i2 M).bind fun q7 => fX6_chainFrom_16 i2 mx_fu ((1 : Int32) <<< (i2 &&& 31)) (0 : Int32) (mx_si M 143 3 q7)
/-- X7_isBlank -/
def fX7_isBlank (i0 : Int32) (M : MM) : Option Bool := if i0 = (32 : Int32) then some true else if i0 = (10 : Int32) then some true else some false
/-- X7_isLetter -/
def fX7_isLetter (i0 : Int32) (M : MM) : Option Bool := if i0 < (97 : Int32) then some false else if (122 : Int32) < i0 then some false else some true
/-- X7_isDigit -/
def fX7_isDigit (i0 : Int32) (M : MM) : Option Bool := if i0 < (48 : Int32) then some false else if (57 : Int32) < i0 then some false else some true
/-- X11_coded -/
def fX11_coded_2 (l0 : Int64) (M : MM)   : Nat → Int32 → Option Nat
  | 0, _ => none
  | n + 1, i2 => if (24 : Int32) ≤ i2 then some 0 else if mx_in i2 24 then if i2.toNatClampNeg < 24 then if (lg_cmp (xwc i2.toNatClampNeg) l0) = 0 then if mx_in i2 24 then some i2.toNatClampNeg else none else fX11_coded_2 l0 M n (i2 + (1 : Int32)) else none else none
def fX11_coded (l0 : Int64) (M : MM) : Option Nat := fX11_coded_2 l0 M mx_fu (0 : Int32)
/-- X7_scanRun -/
def fX7_scanRun_198 (i1 : Int32)   (i2 : Int32) (i3 : Int32) (M : MM) : Option (Int32 × MM) := some (((i1 + i2) + i3), M)
def fX7_scanRun_197 (i1 : Int32)  (k198 : Int32 → Int32 → MM → Option (Int32 × MM)) (i2 : Int32) (i3 : Int32) (is1 : Int32) (is2 : Int32) (M : MM) : Option (Int32 × MM) := if mx_in is1 941 then k198 i2 i3 (mx_si M 4 is1.toNatClampNeg is2) else none
def fX7_scanRun_196 (i1 : Int32)  (k197 : Int32 → Int32 → Int32 → Int32 → MM → Option (Int32 × MM)) (i2 : Int32) (i3 : Int32) (is1 : Int32) (M : MM) : Option (Int32 × MM) := k197 i2 i3 is1 (0 : Int32) M
def fX7_scanRun_175 (i1 : Int32)  (k198 : Int32 → Int32 → MM → Option (Int32 × MM)) (i2 : Int32) (i3 : Int32) (M : MM) : Option (Int32 × MM) := if i2 = 0 then if (3 : Int32) < i3 then fX7_scanRun_196 i1 (fun i2' i3' is1' is2' M' => fX7_scanRun_197 i1 k198 i2' i3' is1' is2' M') i2 i3 (M.1 3 6) M else fX7_scanRun_197 i1 k198 i2 i3 (M.1 3 6) (4 : Int32) M else fX7_scanRun_196 i1 (fun i2' i3' is1' is2' M' => fX7_scanRun_197 i1 k198 i2' i3' is1' is2' M') i2 i3 (M.1 3 6) M
def fX7_scanRun_171 (i1 : Int32)  (k198 : Int32 → Int32 → MM → Option (Int32 × MM)) (i2 : Int32) (i3 : Int32) (is1 : Int32) (is2 : Int32) (M : MM) : Option (Int32 × MM) := if mx_in is1 941 then k198 i2 i3 (mx_si M 4 is1.toNatClampNeg is2) else none
def fX7_scanRun_97 (i1 : Int32)   (i2 : Int32) (i3 : Int32) (l4 : Int64) (i6 : Int32) (M : MM) : Option (Int32 × MM) := if mx_in (M.1 3 6) 941 then if mx_in ((mx_sl M 7 (M.1 3 6).toNatClampNeg l4).1 3 6) 941 then if i3 = 0 then if (7 : Int32) < i2 then fX7_scanRun_175 i1 (fun i2' i3' M' => fX7_scanRun_198 i1 i2' i3' M') i2 i3 (mx_si (mx_sl M 7 (M.1 3 6).toNatClampNeg l4) 6 ((mx_sl M 7 (M.1 3 6).toNatClampNeg l4).1 3 6).toNatClampNeg i6) else (fX11_coded l4 (mx_si (mx_sl M 7 (M.1 3 6).toNatClampNeg l4) 6 ((mx_sl M 7 (M.1 3 6).toNatClampNeg l4).1 3 6).toNatClampNeg i6)).bind fun q139 => if mx_in ((mx_si (mx_sl M 7 (M.1 3 6).toNatClampNeg l4) 6 ((mx_sl M 7 (M.1 3 6).toNatClampNeg l4).1 3 6).toNatClampNeg i6).1 3 6) 941 then if q139 < 24 then if mx_in ((mx_sr (mx_si (mx_sl M 7 (M.1 3 6).toNatClampNeg l4) 6 ((mx_sl M 7 (M.1 3 6).toNatClampNeg l4).1 3 6).toNatClampNeg i6) 8 (((mx_si (mx_sl M 7 (M.1 3 6).toNatClampNeg l4) 6 ((mx_sl M 7 (M.1 3 6).toNatClampNeg l4).1 3 6).toNatClampNeg i6).1 3 6).toNatClampNeg) q139).1 3 6) 941 then if ((mx_sr (mx_si (mx_sl M 7 (M.1 3 6).toNatClampNeg l4) 6 ((mx_sl M 7 (M.1 3 6).toNatClampNeg l4).1 3 6).toNatClampNeg i6) 8 (((mx_si (mx_sl M 7 (M.1 3 6).toNatClampNeg l4) 6 ((mx_sl M 7 (M.1 3 6).toNatClampNeg l4).1 3 6).toNatClampNeg i6).1 3 6).toNatClampNeg) q139).2.2 8 ((mx_sr (mx_si (mx_sl M 7 (M.1 3 6).toNatClampNeg l4) 6 ((mx_sl M 7 (M.1 3 6).toNatClampNeg l4).1 3 6).toNatClampNeg i6) 8 (((mx_si (mx_sl M 7 (M.1 3 6).toNatClampNeg l4) 6 ((mx_sl M 7 (M.1 3 6).toNatClampNeg l4).1 3 6).toNatClampNeg i6).1 3 6).toNatClampNeg) q139).1 3 6).toNatClampNeg) < 24 then if ((mx_sr (mx_si (mx_sl M 7 (M.1 3 6).toNatClampNeg l4) 6 ((mx_sl M 7 (M.1 3 6).toNatClampNeg l4).1 3 6).toNatClampNeg i6) 8 (((mx_si (mx_sl M 7 (M.1 3 6).toNatClampNeg l4) 6 ((mx_sl M 7 (M.1 3 6).toNatClampNeg l4).1 3 6).toNatClampNeg i6).1 3 6).toNatClampNeg) q139).2.2 8 ((mx_sr (mx_si (mx_sl M 7 (M.1 3 6).toNatClampNeg l4) 6 ((mx_sl M 7 (M.1 3 6).toNatClampNeg l4).1 3 6).toNatClampNeg i6) 8 (((mx_si (mx_sl M 7 (M.1 3 6).toNatClampNeg l4) 6 ((mx_sl M 7 (M.1 3 6).toNatClampNeg l4).1 3 6).toNatClampNeg i6).1 3 6).toNatClampNeg) q139).1 3 6).toNatClampNeg) = 0 then fX7_scanRun_171 i1 (fun i2' i3' M' => fX7_scanRun_198 i1 i2' i3' M') i2 i3 ((mx_sr (mx_si (mx_sl M 7 (M.1 3 6).toNatClampNeg l4) 6 ((mx_sl M 7 (M.1 3 6).toNatClampNeg l4).1 3 6).toNatClampNeg i6) 8 (((mx_si (mx_sl M 7 (M.1 3 6).toNatClampNeg l4) 6 ((mx_sl M 7 (M.1 3 6).toNatClampNeg l4).1 3 6).toNatClampNeg i6).1 3 6).toNatClampNeg) q139).1 3 6) (2 : Int32) (mx_sr (mx_si (mx_sl M 7 (M.1 3 6).toNatClampNeg l4) 6 ((mx_sl M 7 (M.1 3 6).toNatClampNeg l4).1 3 6).toNatClampNeg i6) 8 (((mx_si (mx_sl M 7 (M.1 3 6).toNatClampNeg l4) 6 ((mx_sl M 7 (M.1 3 6).toNatClampNeg l4).1 3 6).toNatClampNeg i6).1 3 6).toNatClampNeg) q139) else fX7_scanRun_171 i1 (fun i2' i3' M' => fX7_scanRun_198 i1 i2' i3' M') i2 i3 ((mx_sr (mx_si (mx_sl M 7 (M.1 3 6).toNatClampNeg l4) 6 ((mx_sl M 7 (M.1 3 6).toNatClampNeg l4).1 3 6).toNatClampNeg i6) 8 (((mx_si (mx_sl M 7 (M.1 3 6).toNatClampNeg l4) 6 ((mx_sl M 7 (M.1 3 6).toNatClampNeg l4).1 3 6).toNatClampNeg i6).1 3 6).toNatClampNeg) q139).1 3 6) (3 : Int32) (mx_sr (mx_si (mx_sl M 7 (M.1 3 6).toNatClampNeg l4) 6 ((mx_sl M 7 (M.1 3 6).toNatClampNeg l4).1 3 6).toNatClampNeg i6) 8 (((mx_si (mx_sl M 7 (M.1 3 6).toNatClampNeg l4) 6 ((mx_sl M 7 (M.1 3 6).toNatClampNeg l4).1 3 6).toNatClampNeg i6).1 3 6).toNatClampNeg) q139) else none else none else none else none else fX7_scanRun_175 i1 (fun i2' i3' M' => fX7_scanRun_198 i1 i2' i3' M') i2 i3 (mx_si (mx_sl M 7 (M.1 3 6).toNatClampNeg l4) 6 ((mx_sl M 7 (M.1 3 6).toNatClampNeg l4).1 3 6).toNatClampNeg i6) else none else none
def fX7_scanRun_13 (i1 : Int32)   : Nat → Int32 → Int32 → Int64 → Int32 → Int32 → MM → Option (Int32 × MM)
  | 0, _, _, _, _, _, _ => none
  | n + 1, i2, i3, l4, i6, i7, M => if (M.1 1 1) ≤ i7 then fX7_scanRun_97 i1 i2 i3 l4 i6 M else (fX10_at i7 M).bind fun q31 => (fX7_isLetter q31 M).bind fun q38 => if (mx_b q38) = 0 then (fX7_isDigit q31 M).bind fun q69 => if (mx_b q69) = 0 then fX7_scanRun_97 i1 i2 i3 l4 i6 M else fX7_scanRun_13 i1 n i2 (i3 + (1 : Int32)) l4 ((i6 * (10 : Int32)) + (q31 - (48 : Int32))) (i7 + (1 : Int32)) M else fX7_scanRun_13 i1 n (i2 + (1 : Int32)) i3 ((l4 * (32 : Int64)) + (((q31 - (97 : Int32)) + (1 : Int32)).toInt64)) i6 (i7 + (1 : Int32)) M
def fX7_scanRun (i1 : Int32) (M : MM) : Option (Int32 × MM) := fX7_scanRun_13 i1 mx_fu (0 : Int32) (0 : Int32) (0 : Int64) (0 : Int32) i1 M
/-- X7_scan -/
def fX7_scan_155 (i1 : Int32)   (i2 : Int32) (M : MM) : Option (Int32 × MM) := (fX7_scanRun i2 M).bind fun q157 => some (q157.1, q157.2)
def fX7_scan_103 (i1 : Int32)   (i2 : Int32) (M : MM) : Option (Int32 × MM) := if i2 < (M.1 1 1) then (fX10_at i2 M).bind fun q132 => (fX7_isLetter q132 M).bind fun q135 => if (mx_b q135) = 0 then (fX10_at i2 M).bind fun q146 => (fX7_isDigit q146 M).bind fun q149 => if (mx_b q149) = 0 then (fX10_at i2 M).bind fun q177 => if mx_in (M.1 3 6) 941 then if mx_in ((mx_si M 6 (M.1 3 6).toNatClampNeg q177).1 3 6) 941 then some ((i2 + (1 : Int32)), (mx_si (mx_si M 6 (M.1 3 6).toNatClampNeg q177) 4 ((mx_si M 6 (M.1 3 6).toNatClampNeg q177).1 3 6).toNatClampNeg (5 : Int32))) else none else none else fX7_scan_155 i1 i2 M else fX7_scan_155 i1 i2 M else if mx_in (M.1 3 6) 941 then some (i2, (mx_si M 4 (M.1 3 6).toNatClampNeg (1 : Int32))) else none
def fX7_scan_33 (i1 : Int32)   (i2 : Int32) (M : MM) : Option (Int32 × MM) := if mx_in (M.1 3 6) 941 then if mx_in ((mx_si M 5 (M.1 3 6).toNatClampNeg i2).1 3 6) 941 then if ((mx_sr (mx_si M 5 (M.1 3 6).toNatClampNeg i2) 8 (((mx_si M 5 (M.1 3 6).toNatClampNeg i2).1 3 6).toNatClampNeg) 0).1 1 1) ≤ ((mx_sr (mx_si M 5 (M.1 3 6).toNatClampNeg i2) 8 (((mx_si M 5 (M.1 3 6).toNatClampNeg i2).1 3 6).toNatClampNeg) 0).1 3 8) then fX7_scan_103 i1 i2 (mx_sr (mx_si M 5 (M.1 3 6).toNatClampNeg i2) 8 (((mx_si M 5 (M.1 3 6).toNatClampNeg i2).1 3 6).toNatClampNeg) 0) else if i2 < ((mx_sr (mx_si M 5 (M.1 3 6).toNatClampNeg i2) 8 (((mx_si M 5 (M.1 3 6).toNatClampNeg i2).1 3 6).toNatClampNeg) 0).1 3 8) then fX7_scan_103 i1 i2 (mx_sr (mx_si M 5 (M.1 3 6).toNatClampNeg i2) 8 (((mx_si M 5 (M.1 3 6).toNatClampNeg i2).1 3 6).toNatClampNeg) 0) else if mx_in ((mx_sr (mx_si M 5 (M.1 3 6).toNatClampNeg i2) 8 (((mx_si M 5 (M.1 3 6).toNatClampNeg i2).1 3 6).toNatClampNeg) 0).1 3 6) 941 then if mx_in ((mx_si (mx_sr (mx_si M 5 (M.1 3 6).toNatClampNeg i2) 8 (((mx_si M 5 (M.1 3 6).toNatClampNeg i2).1 3 6).toNatClampNeg) 0) 5 ((mx_sr (mx_si M 5 (M.1 3 6).toNatClampNeg i2) 8 (((mx_si M 5 (M.1 3 6).toNatClampNeg i2).1 3 6).toNatClampNeg) 0).1 3 6).toNatClampNeg ((mx_sr (mx_si M 5 (M.1 3 6).toNatClampNeg i2) 8 (((mx_si M 5 (M.1 3 6).toNatClampNeg i2).1 3 6).toNatClampNeg) 0).1 3 8)).1 3 6) 941 then some (i2, (mx_si (mx_si (mx_sr (mx_si M 5 (M.1 3 6).toNatClampNeg i2) 8 (((mx_si M 5 (M.1 3 6).toNatClampNeg i2).1 3 6).toNatClampNeg) 0) 5 ((mx_sr (mx_si M 5 (M.1 3 6).toNatClampNeg i2) 8 (((mx_si M 5 (M.1 3 6).toNatClampNeg i2).1 3 6).toNatClampNeg) 0).1 3 6).toNatClampNeg ((mx_sr (mx_si M 5 (M.1 3 6).toNatClampNeg i2) 8 (((mx_si M 5 (M.1 3 6).toNatClampNeg i2).1 3 6).toNatClampNeg) 0).1 3 8)) 4 ((mx_si (mx_sr (mx_si M 5 (M.1 3 6).toNatClampNeg i2) 8 (((mx_si M 5 (M.1 3 6).toNatClampNeg i2).1 3 6).toNatClampNeg) 0) 5 ((mx_sr (mx_si M 5 (M.1 3 6).toNatClampNeg i2) 8 (((mx_si M 5 (M.1 3 6).toNatClampNeg i2).1 3 6).toNatClampNeg) 0).1 3 6).toNatClampNeg ((mx_sr (mx_si M 5 (M.1 3 6).toNatClampNeg i2) 8 (((mx_si M 5 (M.1 3 6).toNatClampNeg i2).1 3 6).toNatClampNeg) 0).1 3 8)).1 3 6).toNatClampNeg (0 : Int32))) else none else none else none else none
def fX7_scan_2 (i1 : Int32)   : Nat → Int32 → MM → Option (Int32 × MM)
  | 0, _, _ => none
  | n + 1, i2, M => if (M.1 1 1) ≤ i2 then fX7_scan_33 i1 i2 M else (fX10_at i2 M).bind fun q18 => (fX7_isBlank q18 M).bind fun q21 => if (mx_b q21) = 0 then fX7_scan_33 i1 i2 M else fX7_scan_2 i1 n (i2 + (1 : Int32)) M
def fX7_scan (i1 : Int32) (M : MM) : Option (Int32 × MM) := fX7_scan_2 i1 mx_fu i1 M
/-- X7_open -/
def fX7_open_79 (i1 : Int32)  (k29 : Int32 → Bool → MM → Option MM) (i2 : Int32) (bs0 : Bool) (M : MM) : Option MM := k29 i2 bs0 (mx_si M 3 6 ((M.1 3 6) + (1 : Int32)))
def fX7_open_78 (i1 : Int32)  (k79 : Int32 → Bool → MM → Option MM) (i2 : Int32) (M : MM) : Option MM := k79 i2 false M
def fX7_open_29 (i1 : Int32)   : Nat → Int32 → Bool → MM → Option MM
  | 0, _, _, _ => none
  | n + 1, i2, b3, M => if (mx_b b3) = 0 then some M else if (941 : Int32) ≤ (M.1 3 6) then some M else (fX7_scan i2 M).bind fun q45 => if mx_in (q45.2.1 3 6) 941 then if (q45.2.1 4 (q45.2.1 3 6).toNatClampNeg) = 0 then fX7_open_78 i1 (fun i2' bs0' M' => fX7_open_79 i1 (fX7_open_29 i1 n) i2' bs0' M') q45.1 q45.2 else if mx_in (q45.2.1 3 6) 941 then if (q45.2.1 4 (q45.2.1 3 6).toNatClampNeg) = (1 : Int32) then fX7_open_78 i1 (fun i2' bs0' M' => fX7_open_79 i1 (fX7_open_29 i1 n) i2' bs0' M') q45.1 q45.2 else fX7_open_79 i1 (fX7_open_29 i1 n) q45.1 true q45.2 else none else none
def fX7_open (i1 : Int32) (M : MM) : Option MM := fX7_open_29 i1 mx_fu (0 : Int32) true (mx_si (mx_si (mx_si (mx_si (mx_si M 3 8 i1) 3 7 (0 : Int32)) 3 6 (0 : Int32)) 3 10 (0 : Int32)) 3 11 (0 : Int32))
/-- X8_clear -/
def fX8_clear (o : Nat) (M : MM) : Option MM := some (mx_si (mx_si M o 3 (0 : Int32)) o 4 (0 : Int32))
/-- X8_copyFrom -/
def fX8_copyFrom_18 (o : Nat) (o1 : Nat)   : Nat → Int32 → MM → Option MM
  | 0, _, _ => none
  | n + 1, i2, M => if (40 : Int32) ≤ i2 then some (mx_cpi (mx_cpi M (o1 + 2) (o + 2) 40) (o1 + 3) (o + 3) 40) else if mx_in i2 40 then if mx_in i2 40 then if (M.2.2 (o1 + 1) i2.toNatClampNeg) < 24 then fX8_copyFrom_18 o o1 n (i2 + (1 : Int32)) (mx_sr M (o + 1) i2.toNatClampNeg (M.2.2 (o1 + 1) i2.toNatClampNeg)) else none else none else none
def fX8_copyFrom (o : Nat) (o1 : Nat) (M : MM) : Option MM := fX8_copyFrom_18 o o1 mx_fu (0 : Int32) (mx_si (mx_si M o 3 (M.1 o1 3)) o 4 ((mx_si M o 3 (M.1 o1 3)).1 o1 4))
/-- X8_put -/
def fX8_put (w1 : Nat) (i2 : Int32) (i3 : Int32) (M : MM) : Option MM := if (40 : Int32) ≤ (M.1 134 3) then some M else if mx_in (M.1 134 3) 40 then if w1 < 24 then if mx_in ((mx_sr M 135 ((M.1 134 3).toNatClampNeg) w1).1 134 3) 40 then if mx_in ((mx_si (mx_sr M 135 ((M.1 134 3).toNatClampNeg) w1) 136 ((mx_sr M 135 ((M.1 134 3).toNatClampNeg) w1).1 134 3).toNatClampNeg i2).1 134 3) 40 then some (mx_si (mx_si (mx_si (mx_sr M 135 ((M.1 134 3).toNatClampNeg) w1) 136 ((mx_sr M 135 ((M.1 134 3).toNatClampNeg) w1).1 134 3).toNatClampNeg i2) 137 ((mx_si (mx_sr M 135 ((M.1 134 3).toNatClampNeg) w1) 136 ((mx_sr M 135 ((M.1 134 3).toNatClampNeg) w1).1 134 3).toNatClampNeg i2).1 134 3).toNatClampNeg i3) 134 3 (((mx_si (mx_si (mx_sr M 135 ((M.1 134 3).toNatClampNeg) w1) 136 ((mx_sr M 135 ((M.1 134 3).toNatClampNeg) w1).1 134 3).toNatClampNeg i2) 137 ((mx_si (mx_sr M 135 ((M.1 134 3).toNatClampNeg) w1) 136 ((mx_sr M 135 ((M.1 134 3).toNatClampNeg) w1).1 134 3).toNatClampNeg i2).1 134 3).toNatClampNeg i3).1 134 3) + (1 : Int32))) else none else none else none else none
/-- X8_beginsOne -/
def fX8_beginsOne (w0 : Nat) (M : MM) : Option Bool := if w0 < 24 then if (xsw w0) = 11 then some true else if (xsw w0) = 12 then some true else if (xsw w0) = 13 then some true else if (xsw w0) = 14 then some true else if (xsw w0) = 15 then some true else if (xsw w0) = 16 then some true else if (xsw w0) = 17 then some true else if (xsw w0) = 18 then some true else if (xsw w0) = 19 then some true else if (xsw w0) = 20 then some true else some false else none
/-- X8_putTaken -/
def fX8_putTaken (w2 : Nat) (i3 : Int32) (M : MM) : Option (Bool × MM) := (fX8_put w2 i3 (M.1 3 9) M).bind fun q7 => some (true, q7)
/-- X8_signAt -/
def fX8_signAt  (M : MM) : Option Int32 := (fX7_isAtSign (60 : Int32) M).bind fun q3 => if (mx_b q3) = 0 then (fX7_isAtSign (61 : Int32) M).bind fun q15 => if (mx_b q15) = 0 then some (62 : Int32) else some (61 : Int32) else some (60 : Int32)
/-- X8_readPlain -/
def fX8_readPlain (w3 : Nat) (M : MM) : Option (Bool × MM) := if w3 < 24 then if (xsw w3) = 12 then (fX8_put w3 (0 : Int32) (0 : Int32) M).bind fun q48 => some (true, q48) else if (xsw w3) = 13 then (fX8_put w3 (0 : Int32) (0 : Int32) M).bind fun q48 => some (true, q48) else if (xsw w3) = 14 then (fX8_put w3 (0 : Int32) (0 : Int32) M).bind fun q48 => some (true, q48) else if (xsw w3) = 15 then (fX7_name M).bind fun q56 => (fX3_ringNamed 9 q56 M).bind fun q59 => (fX7_takeNamed q59 M).bind fun q62 => if (mx_b q62.1) = 0 then some (false, q62.2) else (fX8_putTaken w3 (0 : Int32) q62.2).bind fun q72 => if (mx_b q72.1) = 0 then some (false, q72.2) else some (true, q72.2) else if (xsw w3) = 16 then (fX7_name M).bind fun q87 => (fX3_personNamed 9 q87 M).bind fun q90 => (fX7_takeNamed q90 M).bind fun q93 => if (mx_b q93.1) = 0 then some (false, q93.2) else (fX8_putTaken w3 (0 : Int32) q93.2).bind fun q103 => if (mx_b q103.1) = 0 then some (false, q103.2) else some (true, q103.2) else (fX8_signAt M).bind fun q116 => (fX7_takeSign q116 M).bind fun q124 => if (mx_b q124.1) = 0 then some (false, q124.2) else (fX7_takeNumber (0 : Int32) (999 : Int32) q124.2).bind fun q135 => if (mx_b q135.1) = 0 then some (false, q135.2) else (fX8_putTaken w3 q116 q135.2).bind fun q146 => if (mx_b q146.1) = 0 then some (false, q146.2) else some (true, q146.2) else none
/-- X8_readOne -/
def fX8_readOne_44 (rc : Int32 → MM → Option (Bool × MM)) (ro : Int32 → MM → Option (Bool × MM)) (i3 : Int32)   (M : MM) : Option (Bool × MM) := (fX7_fail (4 : Int32) M).bind fun q46 => some (q46.1, q46.2)
def fX8_readOne_29 (rc : Int32 → MM → Option (Bool × MM)) (ro : Int32 → MM → Option (Bool × MM)) (i3 : Int32)   (b4 : Bool) (M : MM) : Option (Bool × MM) := if (20 : Int32) ≤ (M.1 134 4) then fX8_readOne_44 rc ro i3 M else if i3 ≤ (8 : Int32) then (fX7_key (mx_si M 134 4 ((M.1 134 4) + (1 : Int32)))).bind fun q61 => (fX7_advance (mx_si M 134 4 ((M.1 134 4) + (1 : Int32)))).bind fun q67 => if (mx_b b4) = 0 then if q61 < 24 then if q61 = 14 then (ro (i3 + (1 : Int32)) q67).bind fun q116 => if (mx_b q116.1) = 0 then some (false, q116.2) else (fX8_put 14 (0 : Int32) (0 : Int32) q116.2).bind fun q130 => some (true, q130) else (fX8_readPlain q61 q67).bind fun q140 => some (q140.1, q140.2) else none else (rc (i3 + (1 : Int32)) q67).bind fun q81 => if (mx_b q81.1) = 0 then some (false, q81.2) else (fX7_takeSign (41 : Int32) q81.2).bind fun q90 => if (mx_b q90.1) = 0 then some (false, q90.2) else some (true, q90.2) else fX8_readOne_44 rc ro i3 M
def fX8_readOne (rc : Int32 → MM → Option (Bool × MM)) (ro : Int32 → MM → Option (Bool × MM)) (i3 : Int32) (M : MM) : Option (Bool × MM) := (fX7_isAtSign (40 : Int32) M).bind fun q3 => if (mx_b q3) = 0 then (fX7_key M).bind fun q14 => (fX8_beginsOne q14 M).bind fun q17 => if (mx_b q17) = 0 then (fX7_fail (1 : Int32) M).bind fun q25 => some (q25.1, q25.2) else fX8_readOne_29 rc ro i3 q3 M else fX8_readOne_29 rc ro i3 q3 M
/-- X8_readAll -/
def fX8_readAll_15 (ro : Int32 → MM → Option (Bool × MM)) (i3 : Int32)   : Nat → Int32 → MM → Option (Bool × MM)
  | 0, _, _ => none
  | n + 1, i4, M => if (20 : Int32) < i4 then some (true, M) else (fX7_key M).bind fun q23 => if q23 < 24 then if q23 = 13 then (fX7_advance M).bind fun q33 => (ro i3 q33).bind fun q40 => if (mx_b q40.1) = 0 then some (false, q40.2) else (fX8_put 13 (0 : Int32) (0 : Int32) q40.2).bind fun q54 => fX8_readAll_15 ro i3 n (i4 + (1 : Int32)) q54 else some (true, M) else none
def fX8_readAll (ro : Int32 → MM → Option (Bool × MM)) (i3 : Int32) (M : MM) : Option (Bool × MM) := (ro i3 M).bind fun q4 => if (mx_b q4.1) = 0 then some (false, q4.2) else fX8_readAll_15 ro i3 mx_fu (0 : Int32) q4.2
/-- X8_readCond -/
def fX8_readCond_15 (ra : Int32 → MM → Option (Bool × MM)) (i3 : Int32)   : Nat → Int32 → MM → Option (Bool × MM)
  | 0, _, _ => none
  | n + 1, i4, M => if (20 : Int32) < i4 then some (true, M) else (fX7_key M).bind fun q23 => if q23 < 24 then if q23 = 12 then (fX7_advance M).bind fun q33 => (ra i3 q33).bind fun q40 => if (mx_b q40.1) = 0 then some (false, q40.2) else (fX8_put 12 (0 : Int32) (0 : Int32) q40.2).bind fun q54 => fX8_readCond_15 ra i3 n (i4 + (1 : Int32)) q54 else some (true, M) else none
def fX8_readCond (ra : Int32 → MM → Option (Bool × MM)) (i3 : Int32) (M : MM) : Option (Bool × MM) := (ra i3 M).bind fun q4 => if (mx_b q4.1) = 0 then some (false, q4.2) else fX8_readCond_15 ra i3 mx_fu (0 : Int32) q4.2
def xR1 : Nat → Int32 → MM → Option (Bool × MM)
  | 0 => fun _ _ => none
  | n + 1 => fX8_readOne (fX8_readCond (fX8_readAll (xR1 n))) (xR1 n)
def fX8_readCondT (i3 : Int32) (M : MM) : Option (Bool × MM) := fX8_readCond (fX8_readAll (xR1 18)) i3 M
/-- X8_readFrom -/
def fX8_readFrom  (M : MM) : Option (Bool × MM) := (fX8_clear 134 M).bind fun q1 => (fX8_readCondT (1 : Int32) q1).bind fun q8 => if (mx_b q8.1) = 0 then some (false, q8.2) else (fX7_isAt (1 : Int32) q8.2).bind fun q18 => if (mx_b q18) = 0 then (fX7_fail (1 : Int32) q8.2).bind fun q26 => if (mx_b q26.1) = 0 then some (false, q26.2) else some (true, q26.2) else some (true, q8.2)
/-- X9_ringsThatWere -/
def fX9_ringsThatWere (o : Nat) (i1 : Int32) (M : MM) : Option Int32 := (fX9_ringsWith o (o + 8) i1 M).bind fun q6 => some q6
/-- X8_isHappy -/
def fX8_isHappy_24 (i1 : Int32) (M : MM)   (i2 : Int32) (bs0 : Bool) : Option Bool := if (mx_b bs0) = 0 then some false else (fX9_ringsThatWere 29 (2 : Int32) M).bind fun q32 => if (i2 &&& q32) = 0 then some true else some false
def fX8_isHappy (i1 : Int32) (M : MM) : Option Bool := (fX3_ownedBy i1 M).bind fun q5 => (fX9_ringsThatWere 29 (1 : Int32) M).bind fun q12 => if (q5 &&& q12) = 0 then fX8_isHappy_24 i1 M q5 false else fX8_isHappy_24 i1 M q5 true
/-- X9_hasRing -/
def fX9_hasRing (o : Nat) (i1 : Int32) (i2 : Int32) (M : MM) : Option Bool := (fX3_isRing i2 M).bind fun q5 => if (mx_b q5) = 0 then some false else if mx_in i2 7 then if (M.1 (o + 4) i2.toNatClampNeg) = i1 then some true else some false else none
/-- X8_compares -/
def fX8_compares (i1 : Int32) (i2 : Int32) (M : MM) : Option Bool := if mx_in i2 40 then if (M.1 132 i2.toNatClampNeg) = 60 then if mx_in i2 40 then if (M.1 133 i2.toNatClampNeg) ≤ i1 then some false else some true else none else if (M.1 132 i2.toNatClampNeg) = 61 then if mx_in i2 40 then if i1 = (M.1 133 i2.toNatClampNeg) then some true else some false else none else if mx_in i2 40 then if i1 ≤ (M.1 133 i2.toNatClampNeg) then some false else some true else none else none
/-- X8_isSo -/
def fX8_isSo (i2 : Int32) (i3 : Int32) (M : MM) : Option Bool := if mx_in i3 40 then if (M.2.2 131 i3.toNatClampNeg) < 24 then if (xsw (M.2.2 131 i3.toNatClampNeg)) = 12 then (fX9_wornBy 29 i2 M).bind fun q66 => if q66 = (-1 : Int32) then some false else some true else if (xsw (M.2.2 131 i3.toNatClampNeg)) = 13 then (fX8_isHappy i2 M).bind fun q81 => some q81 else if (xsw (M.2.2 131 i3.toNatClampNeg)) = 14 then (fX3_ownedBy i2 M).bind fun q90 => if q90 = 0 then some true else some false else if (xsw (M.2.2 131 i3.toNatClampNeg)) = 15 then if mx_in i3 40 then (fX9_hasRing 29 i2 (M.1 133 i3.toNatClampNeg) M).bind fun q110 => some q110 else none else if (xsw (M.2.2 131 i3.toNatClampNeg)) = 16 then if mx_in i3 40 then (fX9_isBy 29 i2 (M.1 133 i3.toNatClampNeg) M).bind fun q122 => some q122 else none else if (xsw (M.2.2 131 i3.toNatClampNeg)) = 17 then (fX9_keptBy 29 i2 M).bind fun q129 => (fJ6_bitCount_0f7a4 q129 M).bind fun q132 => (fX8_compares q132 i3 M).bind fun q136 => some q136 else if (xsw (M.2.2 131 i3.toNatClampNeg)) = 18 then if mx_in i2 7 then (fX8_compares (M.1 32 i2.toNatClampNeg) i3 M).bind fun q148 => some q148 else none else if (xsw (M.2.2 131 i3.toNatClampNeg)) = 19 then if mx_in i2 7 then (fX8_compares (M.1 13 i2.toNatClampNeg) i3 M).bind fun q163 => some q163 else none else if (xsw (M.2.2 131 i3.toNatClampNeg)) = 20 then (fX8_compares i2 i3 M).bind fun q170 => some q170 else some false else none else none
/-- X8_holdsOf -/
def fX8_holdsOf_5 (i2 : Int32) (M : MM)   : Nat → Int64 → Int32 → Option Bool
  | 0, _, _ => none
  | n + 1, l3, i5 => if (M.1 130 3) ≤ i5 then if (lg_cmp (l3 &&& (1 : Int64)) (1 : Int64)) = 0 then some true else some false else if mx_in i5 40 then if (M.2.2 131 i5.toNatClampNeg) < 24 then if (xsw (M.2.2 131 i5.toNatClampNeg)) = 11 then fX8_holdsOf_5 i2 M n (l3 ^^^ (1 : Int64)) (i5 + (1 : Int32)) else if (xsw (M.2.2 131 i5.toNatClampNeg)) = 21 then fX8_holdsOf_5 i2 M n (((mx_lushr l3 (2 : Int32)) <<< ((1 : Int32).toInt64 &&& 63)) ||| ((l3 &&& (1 : Int64)) &&& ((mx_lushr l3 (1 : Int32)) &&& (1 : Int64)))) (i5 + (1 : Int32)) else if (xsw (M.2.2 131 i5.toNatClampNeg)) = 22 then fX8_holdsOf_5 i2 M n ((((mx_lushr l3 (2 : Int32)) <<< ((1 : Int32).toInt64 &&& 63)) ||| (l3 &&& (1 : Int64))) ||| ((mx_lushr l3 (1 : Int32)) &&& (1 : Int64))) (i5 + (1 : Int32)) else (fX8_isSo i2 i5 M).bind fun q121 => if (mx_b q121) = 0 then fX8_holdsOf_5 i2 M n ((l3 <<< ((1 : Int32).toInt64 &&& 63)) ||| ((0 : Int32).toInt64)) (i5 + (1 : Int32)) else fX8_holdsOf_5 i2 M n ((l3 <<< ((1 : Int32).toInt64 &&& 63)) ||| ((1 : Int32).toInt64)) (i5 + (1 : Int32)) else none else none
def fX8_holdsOf (i2 : Int32) (M : MM) : Option Bool := fX8_holdsOf_5 i2 M mx_fu (0 : Int64) (0 : Int32)
/-- X9_begin -/
def fX9_begin_51    : Nat → Int32 → MM → Option MM
  | 0, _, _ => none
  | n + 1, i1, M => if (M.1 9 1) ≤ i1 then (fX9_rest 29 (mx_si (mx_si (mx_si M 29 9 (0 : Int32)) 29 10 (0 : Int32)) 29 11 (0 : Int32))).bind fun q113 => some q113 else if mx_in i1 7 then if mx_in i1 7 then if mx_in i1 7 then if mx_in i1 7 then fX9_begin_51 n (i1 + (1 : Int32)) (mx_si (mx_si (mx_si M 33 i1.toNatClampNeg (M.1 17 i1.toNatClampNeg)) 34 i1.toNatClampNeg (0 : Int32)) 37 i1.toNatClampNeg (0 : Int32)) else none else none else none else none
def fX9_begin_2    : Nat → Int32 → MM → Option MM
  | 0, _, _ => none
  | n + 1, i1, M => if (M.1 9 0) ≤ i1 then fX9_begin_51 mx_fu (0 : Int32) M else if mx_in i1 7 then if mx_in i1 7 then if mx_in i1 7 then if mx_in i1 7 then fX9_begin_2 n (i1 + (1 : Int32)) (mx_si (mx_si M 30 i1.toNatClampNeg (M.1 11 i1.toNatClampNeg)) 31 i1.toNatClampNeg ((mx_si M 30 i1.toNatClampNeg (M.1 11 i1.toNatClampNeg)).1 12 i1.toNatClampNeg)) else none else none else none else none
def fX9_begin  (M : MM) : Option MM := fX9_begin_2 mx_fu (0 : Int32) M
/-- X9_ringX -/
def fX9_ringX (i1 : Int32) (M : MM) : Option Int32 := if mx_in i1 7 then (fX3_isPerson (M.1 33 i1.toNatClampNeg) M).bind fun q12 => if (mx_b q12) = 0 then if mx_in i1 7 then some (M.1 35 i1.toNatClampNeg) else none else if mx_in (M.1 33 i1.toNatClampNeg) 7 then some (M.1 30 (M.1 33 i1.toNatClampNeg).toNatClampNeg) else none else none
/-- X9_ringY -/
def fX9_ringY (i1 : Int32) (M : MM) : Option Int32 := if mx_in i1 7 then (fX3_isPerson (M.1 33 i1.toNatClampNeg) M).bind fun q12 => if (mx_b q12) = 0 then if mx_in i1 7 then some (M.1 36 i1.toNatClampNeg) else none else if mx_in (M.1 33 i1.toNatClampNeg) 7 then some (M.1 31 (M.1 33 i1.toNatClampNeg).toNatClampNeg) else none else none
/-- X9_draw -/
def fX9_draw (o : Nat) (i1 : Int32) (M : MM) : Option (Int32 × MM) := if (1 : Int32) ≤ i1 then if i1 = 0 then none else some (((mx_ushr ((mx_si M o 12 (((M.1 o 12) * (1103515245 : Int32)) + (12345 : Int32))).1 o 12) (8 : Int32)) - (mx_ushr ((mx_si M o 12 (((M.1 o 12) * (1103515245 : Int32)) + (12345 : Int32))).1 o 12) (8 : Int32)) / i1 * i1), (mx_si M o 12 (((M.1 o 12) * (1103515245 : Int32)) + (12345 : Int32)))) else some ((0 : Int32), (mx_si M o 12 (((M.1 o 12) * (1103515245 : Int32)) + (12345 : Int32))))
/-- X9_drawAct -/
def fX9_drawAct (o : Nat) (i1 : Int32) (M : MM) : Option MM := (fX9_draw o (6 : Int32) M).bind fun q3 => if q3.1 = 0 then (fX9_draw o (21 : Int32) q3.2).bind fun q43 => (fX9_draw o (21 : Int32) q43.2).bind fun q50 => (fX9_walkTo o i1 q43.1 q50.1 q50.2).bind fun q58 => some q58.2 else if q3.1 = 1 then (fX9_draw o (21 : Int32) q3.2).bind fun q43 => (fX9_draw o (21 : Int32) q43.2).bind fun q50 => (fX9_walkTo o i1 q43.1 q50.1 q50.2).bind fun q58 => some q58.2 else if q3.1 = 2 then if (q3.2.1 9 1) ≤ 0 then some q3.2 else (fX9_draw o (q3.2.1 9 1) q3.2).bind fun q83 => (fX9_draw o (q83.2.1 9 0) q83.2).bind fun q100 => (fX9_passOn o i1 q83.1 q100.1 q100.2).bind fun q103 => some q103.2 else if q3.1 = 3 then if (q3.2.1 9 1) ≤ 0 then some q3.2 else (fX9_draw o (q3.2.1 9 1) q3.2).bind fun q130 => (fX9_putOn o i1 q130.1 q130.2).bind fun q133 => some q133.2 else if q3.1 = 4 then (fX9_takeOff o i1 q3.2).bind fun q142 => some q142.2 else some q3.2
/-- X9_drawDays -/
def fX9_drawDays_25 (o : Nat) (i1 : Int32) (i2 : Int32)  (k7 : Int32 → MM → Option (Int32 × MM)) : Nat → Int32 → Int32 → MM → Option (Int32 × MM)
  | 0, _, _, _ => none
  | n + 1, i3, i4, M => if (M.1 9 0) ≤ i4 then (fX9_passDay o M).bind fun q50 => k7 (i3 + (1 : Int32)) q50 else (fX9_drawAct o i4 M).bind fun q40 => fX9_drawDays_25 o i1 i2 k7 n i3 (i4 + (1 : Int32)) q40
def fX9_drawDays_7 (o : Nat) (i1 : Int32) (i2 : Int32)   : Nat → Int32 → MM → Option (Int32 × MM)
  | 0, _, _ => none
  | n + 1, i3, M => if i1 ≤ i3 then some (i3, M) else if (400 : Int32) ≤ (M.1 o 9) then some (i3, M) else fX9_drawDays_25 o i1 i2 (fX9_drawDays_7 o i1 i2 n) mx_fu i3 (0 : Int32) M
def fX9_drawDays (o : Nat) (i1 : Int32) (i2 : Int32) (M : MM) : Option (Int32 × MM) := fX9_drawDays_7 o i1 i2 mx_fu (0 : Int32) (mx_si M o 12 i2)
/-- X9_daysTillMet -/
def fX9_daysTillMet_55 (i1 : Int32) (M : MM)   (i3 : Int32) (is0 : Int32) : Option Int32 := if i3 = 0 then some (0 : Int32) else if (1 : Int32) ≤ is0 then if is0 = 0 then none else some ((i3 - (1 : Int32)) / is0) else some (0 : Int32)
def fX9_daysTillMet (i1 : Int32) (M : MM) : Option Int32 := if mx_in i1 7 then (fX9_ringX i1 M).bind fun q14 => (fX9_ringY i1 M).bind fun q19 => (fX9_farTo 29 (M.1 16 i1.toNatClampNeg) q14 q19 M).bind fun q22 => if mx_in i1 7 then if (M.1 34 i1.toNatClampNeg) = (2 : Int32) then fX9_daysTillMet_55 i1 M q22 (M.1 9 12) else fX9_daysTillMet_55 i1 M q22 ((2 : Int32) * (M.1 9 12)) else none else none
/-- X10_hasRoom -/
def fX10_hasRoom  (M : MM) : Option Bool := if (940 : Int32) < ((M.1 1 1) + (20 : Int32)) then some false else some true
/-- X10_add -/
def fX10_add_3 (i1 : Int32)   : Nat → Int32 → MM → Option MM
  | 0, _, _ => none
  | n + 1, i2, M => if i2 < 0 then some M else if (940 : Int32) ≤ (M.1 1 1) then some M else if mx_in (M.1 1 1) 940 then fX10_add_3 i1 n (i2 + (-8 : Int32)) (mx_si (mx_si M 2 (M.1 1 1).toNatClampNeg (((mx_ushr i1 i2).toInt8.toInt32).toInt8.toInt32)) 1 1 (((mx_si M 2 (M.1 1 1).toNatClampNeg (((mx_ushr i1 i2).toInt8.toInt32).toInt8.toInt32)).1 1 1) + (1 : Int32))) else none
def fX10_add (i1 : Int32) (M : MM) : Option MM := fX10_add_3 i1 mx_fu (24 : Int32) M
/-- X10_cut -/
def fX10_cut (i1 : Int32) (M : MM) : Option (Bool × MM) := if i1 < 0 then some (false, M) else if i1 ≤ (M.1 1 1) then some (true, (mx_si M 1 1 i1)) else some (false, M)
/-- X10_clear -/
def fX10_clear  (M : MM) : Option MM := some (mx_si M 1 1 (0 : Int32))
/-- X12_feed -/
def fX12_feed (i1 : Int32) (i2 : Int32) (i3 : Int32) (i4 : Int32) (i5 : Int32) (M : MM) : Option (Int32 × MM) := (fX10_hasRoom M).bind fun q4 => if (mx_b q4) = 0 then some ((-1 : Int32), M) else (fX10_add i1 M).bind fun q17 => (fX10_add i2 q17).bind fun q25 => (fX10_add i3 q25).bind fun q33 => (fX10_add i4 q33).bind fun q42 => (fX10_add i5 q42).bind fun q51 => some ((q51.1 1 1), q51)
/-- X12_end -/
def fX12_end (i1 : Int32) (M : MM) : Option (Bool × MM) := (fX10_cut i1 M).bind fun q5 => some (q5.1, q5.2)
/-- X12_island -/
def fX12_island  (M : MM) : Option (Int32 × MM) := (fX7_open (900 : Int32) M).bind fun q7 => (fX3_readFrom q7).bind fun q18 => (fX10_clear q18.2).bind fun q26 => if (mx_b q18.1) = 0 then some (((-1 : Int32) - ((mx_si q26 0 18 (q26.1 3 10)).1 3 11)), (mx_si q26 0 18 (q26.1 3 10))) else (fX3_copyFrom 9 19 (mx_si q26 0 18 (q26.1 3 10))).bind fun q62 => (fX9_begin q62).bind fun q69 => (fX8_clear 130 q69).bind fun q76 => (fX5_clear q76).bind fun q83 => some ((q83.1 9 14), q83)
/-- X12_fault -/
def fX12_fault  (M : MM) : Option Int32 := some (M.1 0 18)
/-- X12_fits -/
def fX12_fits (i1 : Int32) (i2 : Int32) (M : MM) : Option Int32 := (fX3_isRing i1 M).bind fun q5 => if (mx_b q5) = 0 then some (-1 : Int32) else (fX3_isPerson i2 M).bind fun q16 => if (mx_b q16) = 0 then some (-1 : Int32) else if mx_in i1 7 then (fX3_feel (M.1 15 i1.toNatClampNeg) i2 M).bind fun q38 => some q38 else none
/-- X12_now -/
def fX12_now (i1 : Int32) (M : MM) : Option Int32 := if i1 = 0 then some (M.1 29 9) else if i1 = 1 then (fX9_ringsThatAre 29 (1 : Int32) M).bind fun q57 => some q57 else if i1 = 2 then (fX9_ringsThatAre 29 (2 : Int32) M).bind fun q66 => some q66 else if i1 = 3 then (fX9_ringsThatWere 29 (1 : Int32) M).bind fun q75 => some q75 else if i1 = 4 then (fX9_ringsThatWere 29 (2 : Int32) M).bind fun q84 => some q84 else if i1 = 5 then some (M.1 29 10) else if i1 = 6 then some (M.1 29 11) else some (-1 : Int32)
/-- X12_isPlace -/
def fX12_isPlace (i0 : Int32) (i1 : Int32) (M : MM) : Option Bool := if i0 < 0 then some false else if (20 : Int32) < i0 then some false else if i1 < 0 then some false else if (20 : Int32) < i1 then some false else some true
/-- X12_keptIfDone -/
def fX12_keptIfDone (i1 : Int32) (M : MM) : Option (Int32 × MM) := if i1 = 0 then (fX5_push 38 M).bind fun q12 => some (i1, q12) else some (i1, M)
/-- X12_go -/
def fX12_go (i1 : Int32) (i2 : Int32) (i3 : Int32) (M : MM) : Option (Int32 × MM) := (fX3_isPerson i1 M).bind fun q5 => if (mx_b q5) = 0 then some ((-1 : Int32), M) else (fX12_isPlace i2 i3 M).bind fun q13 => if (mx_b q13) = 0 then some ((-1 : Int32), M) else (fX9_copyFrom 38 29 M).bind fun q29 => (fX9_walkTo 29 i1 i2 i3 q29).bind fun q40 => (fX12_keptIfDone q40.1 q40.2).bind fun q43 => some (q43.1, q43.2)
/-- X12_hand -/
def fX12_hand (i1 : Int32) (i2 : Int32) (i3 : Int32) (M : MM) : Option (Int32 × MM) := (fX3_isPerson i1 M).bind fun q5 => if (mx_b q5) = 0 then some ((-1 : Int32), M) else (fX3_isRing i2 M).bind fun q16 => if (mx_b q16) = 0 then some ((-1 : Int32), M) else (fX3_isPerson i3 M).bind fun q27 => if (mx_b q27) = 0 then some ((-1 : Int32), M) else (fX9_copyFrom 38 29 M).bind fun q43 => (fX9_passOn 29 i1 i2 i3 q43).bind fun q54 => (fX12_keptIfDone q54.1 q54.2).bind fun q57 => some (q57.1, q57.2)
/-- X12_wear -/
def fX12_wear (i1 : Int32) (i2 : Int32) (M : MM) : Option (Int32 × MM) := (fX3_isPerson i1 M).bind fun q5 => if (mx_b q5) = 0 then some ((-1 : Int32), M) else (fX3_isRing i2 M).bind fun q16 => if (mx_b q16) = 0 then some ((-1 : Int32), M) else (fX9_copyFrom 38 29 M).bind fun q32 => (fX9_putOn 29 i1 i2 q32).bind fun q42 => (fX12_keptIfDone q42.1 q42.2).bind fun q45 => some (q45.1, q45.2)
/-- X12_doff -/
def fX12_doff (i1 : Int32) (M : MM) : Option (Int32 × MM) := (fX3_isPerson i1 M).bind fun q5 => if (mx_b q5) = 0 then some ((-1 : Int32), M) else (fX9_copyFrom 38 29 M).bind fun q21 => (fX9_takeOff 29 i1 q21).bind fun q30 => (fX12_keptIfDone q30.1 q30.2).bind fun q33 => some (q33.1, q33.2)
/-- X12_find -/
def fX12_find (i1 : Int32) (i2 : Int32) (M : MM) : Option (Int32 × MM) := (fX3_isPerson i1 M).bind fun q5 => if (mx_b q5) = 0 then some ((-1 : Int32), M) else (fX3_isRing i2 M).bind fun q16 => if (mx_b q16) = 0 then some ((-1 : Int32), M) else (fX9_copyFrom 38 29 M).bind fun q32 => (fX9_pickUp 29 i1 i2 q32).bind fun q42 => (fX12_keptIfDone q42.1 q42.2).bind fun q45 => some (q45.1, q45.2)
/-- X12_keptIfSome -/
def fX12_keptIfSome (i1 : Int32) (M : MM) : Option (Int32 × MM) := if i1 ≤ 0 then some (i1, M) else (fX5_push 38 M).bind fun q12 => some (i1, q12)
/-- X12_days -/
def fX12_days (i1 : Int32) (M : MM) : Option (Int32 × MM) := if i1 < (1 : Int32) then some ((-1 : Int32), M) else if i1 ≤ (60 : Int32) then (fX9_copyFrom 38 29 M).bind fun q21 => (fX9_passDays 29 i1 q21).bind fun q30 => (fX12_keptIfSome q30.1 q30.2).bind fun q33 => some (q33.1, q33.2) else some ((-1 : Int32), M)
/-- X12_undo -/
def fX12_undo  (M : MM) : Option (Int32 × MM) := if (M.1 56 1) = 0 then some ((-1 : Int32), M) else (fX5_takeBack M).bind fun q20 => some ((q20.1 56 1), q20)
/-- X12_reach -/
def fX12_reach (i1 : Int32) (M : MM) : Option Int32 := (fX3_isRing i1 M).bind fun q5 => if (mx_b q5) = 0 then some (-1 : Int32) else (fX9_daysTillMet i1 M).bind fun q16 => some q16
/-- X12_inTime -/
def fX12_inTime_4 (M : MM)   : Nat → Int32 → Int32 → Option Int32
  | 0, _, _ => none
  | n + 1, i1, i2 => if (M.1 9 1) ≤ i2 then some i1 else if mx_in i2 7 then if (M.1 37 i2.toNatClampNeg) = 0 then (fX9_daysTillMet i2 M).bind fun q39 => if mx_in i2 7 then if (M.1 18 i2.toNatClampNeg) < ((M.1 29 9) + q39) then fX12_inTime_4 M n i1 (i2 + (1 : Int32)) else fX12_inTime_4 M n (i1 ||| ((1 : Int32) <<< (i2 &&& 31))) (i2 + (1 : Int32)) else none else fX12_inTime_4 M n i1 (i2 + (1 : Int32)) else none
def fX12_inTime  (M : MM) : Option Int32 := fX12_inTime_4 M mx_fu (0 : Int32) (0 : Int32)
/-- X12_tour -/
def fX12_tour (i1 : Int32) (M : MM) : Option (Int32 × MM) := (fX3_isPerson i1 M).bind fun q5 => if (mx_b q5) = 0 then some ((-1 : Int32), M) else (fX6_planTour i1 M).bind fun q20 => some (q20.1, q20.2)
/-- X12_tourAt -/
def fX12_tourAt (i1 : Int32) (M : MM) : Option Int32 := if i1 < 0 then some (-1 : Int32) else if i1 < (M.1 143 1) then if mx_in i1 7 then some (M.1 144 i1.toNatClampNeg) else none else some (-1 : Int32)
/-- X12_keepers -/
def fX12_keepers  (M : MM) : Option (Int32 × MM) := (fX6_planKeepers M).bind fun q8 => some (q8.1, q8.2)
/-- X12_keeperOf -/
def fX12_keeperOf (i1 : Int32) (M : MM) : Option Int32 := if i1 < 0 then some (-1 : Int32) else if i1 < (7 : Int32) then if mx_in i1 7 then some (M.1 145 i1.toNatClampNeg) else none else some (-1 : Int32)
/-- X12_sizes -/
def fX12_sizes  (M : MM) : Option (Int32 × MM) := (fX2_readTries M).bind fun q12 => (fX10_clear q12.2).bind fun q20 => some (q12.1, q20)
/-- X12_sizeLeast -/
def fX12_sizeLeast  (M : MM) : Option Int32 := some (M.1 149 0)
/-- X12_knuckle -/
def fX12_knuckle  (M : MM) : Option Int32 := some (M.1 149 1)
/-- X12_ways -/
def fX12_ways  (M : MM) : Option (Int32 × MM) := (fX2_waysToGive M).bind fun q8 => some (q8.1, q8.2)
/-- X12_likely -/
def fX12_likely (i1 : Int32) (M : MM) : Option (Int32 × MM) := (fX3_isRing i1 M).bind fun q5 => if (mx_b q5) = 0 then some ((-1 : Int32), M) else (fX2_likeliest i1 M).bind fun q20 => some (q20.1, q20.2)
/-- X12_chain -/
def fX12_chain (i1 : Int32) (M : MM) : Option (Int32 × MM) := (fX3_isPerson i1 M).bind fun q5 => if (mx_b q5) = 0 then some ((-1 : Int32), M) else (fX6_chainFrom i1 M).bind fun q20 => (fJ6_bitCount_0f7a4 q20.1 q20.2).bind fun q23 => some (q23, q20.2)
/-- X12_closed -/
def fX12_closed (i1 : Int32) (M : MM) : Option (Int32 × MM) := (fX3_isPerson i1 M).bind fun q5 => if (mx_b q5) = 0 then some ((-1 : Int32), M) else (fX6_chainFrom i1 M).bind fun q22 => if (q22.2.1 143 3) = i1 then some ((1 : Int32), q22.2) else some ((0 : Int32), q22.2)
/-- X12_note -/
def fX12_note (i1 : Int32) (M : MM) : Option (Int32 × MM) := (fX3_isPerson i1 M).bind fun q5 => if (mx_b q5) = 0 then some ((-1 : Int32), M) else (fX4_write i1 M).bind fun q22 => some ((q22.1 152 1), q22)
/-- X12_byteAt -/
def fX12_byteAt (i1 : Int32) (M : MM) : Option Int32 := if i1 < 0 then some (-1 : Int32) else if i1 < (M.1 152 1) then if mx_in i1 128 then some (M.1 153 i1.toNatClampNeg) else none else some (-1 : Int32)
/-- X12_drawn -/
def fX12_drawn (i1 : Int32) (i2 : Int32) (M : MM) : Option (Int32 × MM) := if i1 < (1 : Int32) then some ((-1 : Int32), M) else if i1 ≤ (60 : Int32) then (fX9_copyFrom 38 29 M).bind fun q21 => (fX9_drawDays 29 i1 i2 q21).bind fun q31 => (fX12_keptIfSome q31.1 q31.2).bind fun q34 => some (q34.1, q34.2) else some ((-1 : Int32), M)
/-- X12_odds -/
def fX12_odds_30 (i1 : Int32) (i2 : Int32) (i3 : Int32)   : Nat → Int32 → Int32 → MM → Option (Int32 × MM)
  | 0, _, _, _ => none
  | n + 1, i4, i5, M => if i2 ≤ i5 then some (i4, M) else (fX9_copyFrom 47 29 M).bind fun q44 => (fX9_drawDays 47 (20 : Int32) (i3 + i5) q44).bind fun q57 => (fX9_isWithOwner 47 i1 q57.2).bind fun q66 => if (mx_b q66) = 0 then fX12_odds_30 i1 i2 i3 n i4 (i5 + (1 : Int32)) q57.2 else fX12_odds_30 i1 i2 i3 n (i4 + (1 : Int32)) (i5 + (1 : Int32)) q57.2
def fX12_odds (i1 : Int32) (i2 : Int32) (i3 : Int32) (M : MM) : Option (Int32 × MM) := (fX3_isRing i1 M).bind fun q5 => if (mx_b q5) = 0 then some ((-1 : Int32), M) else if i2 < (1 : Int32) then some ((-1 : Int32), M) else if i2 ≤ (30 : Int32) then fX12_odds_30 i1 i2 i3 mx_fu (0 : Int32) (0 : Int32) M else some ((-1 : Int32), M)
/-- X12_book -/
def fX12_book_13 (i1 : Int32)   (M : MM) : Option (Int32 × MM) := (fX7_open (400 : Int32) M).bind fun q20 => (fX1_readFrom q20).bind fun q35 => (fX10_clear q35.2).bind fun q43 => if (mx_b q35.1) = 0 then some (((-2 : Int32) - ((mx_si q43 0 18 (q43.1 3 10)).1 3 11)), (mx_si q43 0 18 (q43.1 3 10))) else (fX9_copyFrom 47 29 (mx_si q43 0 18 (q43.1 3 10))).bind fun q80 => (fX1_judge q80).bind fun q91 => if i1 = (1 : Int32) then if (q91.2.1 138 7) ≤ 0 then some (q91.1, q91.2) else (fX5_push 29 q91.2).bind fun q118 => (fX9_copyFrom 29 47 q118).bind fun q129 => some (q91.1, q129) else some (q91.1, q91.2)
def fX12_book (i1 : Int32) (M : MM) : Option (Int32 × MM) := if i1 = 0 then fX12_book_13 i1 M else if i1 = (1 : Int32) then fX12_book_13 i1 M else some ((-1000 : Int32), M)
/-- X12_told -/
def fX12_told (i1 : Int32) (M : MM) : Option Int32 := if (M.1 138 5) = 0 then some (-1 : Int32) else if i1 = 0 then some (M.1 138 6) else if i1 = 1 then some (M.1 138 7) else if i1 = 2 then some (M.1 138 8) else if i1 = 3 then some (M.1 138 9) else some (-1 : Int32)
/-- X12_sentence -/
def fX12_sentence  (M : MM) : Option (Int32 × MM) := (fX7_open (200 : Int32) M).bind fun q7 => (fX8_readFrom q7).bind fun q22 => (fX10_clear q22.2).bind fun q30 => if (mx_b q22.1) = 0 then some (((-1 : Int32) - ((mx_si q30 0 18 (q30.1 3 10)).1 3 11)), (mx_si q30 0 18 (q30.1 3 10))) else (fX8_copyFrom 130 134 (mx_si q30 0 18 (q30.1 3 10))).bind fun q66 => some ((q66.1 130 4), q66)
/-- X12_said -/
def fX12_said_21 (i1 : Int32) (M : MM)   : Nat → Int32 → Int32 → Option Int32
  | 0, _, _ => none
  | n + 1, i2, i3 => if (M.1 9 0) ≤ i3 then if i1 = (-1 : Int32) then some i2 else some (-1 : Int32) else (fX8_holdsOf i3 M).bind fun q41 => if (mx_b q41) = 0 then fX12_said_21 i1 M n i2 (i3 + (1 : Int32)) else if i2 = i1 then some i3 else fX12_said_21 i1 M n (i2 + (1 : Int32)) (i3 + (1 : Int32))
def fX12_said (i1 : Int32) (M : MM) : Option Int32 := if (M.1 130 4) = 0 then some (-1 : Int32) else if (-1 : Int32) ≤ i1 then fX12_said_21 i1 M mx_fu (0 : Int32) (0 : Int32) else some (-1 : Int32)
/-- X12_image -/
def fX12_image (i1 : Int32) (M : MM) : Option (Bool × MM) := if i1 < 0 then some (false, M) else if i1 < (2 : Int32) then if mx_in i1 2 then if xt_isI (M.2.2 154 i1.toNatClampNeg) then (fX3_copyFrom (M.2.2 154 i1.toNatClampNeg) 9 M).bind fun q21 => if mx_in i1 2 then if xt_isS (q21.2.2 155 i1.toNatClampNeg) then (fX9_copyFrom (q21.2.2 155 i1.toNatClampNeg) 29 q21).bind fun q34 => if mx_in i1 2 then if xt_isN (q34.2.2 156 i1.toNatClampNeg) then (fX8_copyFrom (q34.2.2 156 i1.toNatClampNeg) 130 q34).bind fun q47 => if mx_in i1 2 then some (true, (mx_si q47 157 i1.toNatClampNeg (vp_nar .boolean (1 : Int32)))) else none else none else none else none else none else none else none else some (false, M)
/-- X12_restore -/
def fX12_restore (i1 : Int32) (M : MM) : Option (Bool × MM) := if i1 < 0 then some (false, M) else if (2 : Int32) ≤ i1 then some (false, M) else if mx_in i1 2 then if (M.1 157 i1.toNatClampNeg) = 0 then some (false, M) else if mx_in i1 2 then if xt_isI (M.2.2 154 i1.toNatClampNeg) then (fX3_copyFrom 9 (M.2.2 154 i1.toNatClampNeg) M).bind fun q30 => if mx_in i1 2 then if xt_isS (q30.2.2 155 i1.toNatClampNeg) then (fX9_copyFrom 29 (q30.2.2 155 i1.toNatClampNeg) q30).bind fun q43 => if mx_in i1 2 then if xt_isN (q43.2.2 156 i1.toNatClampNeg) then (fX8_copyFrom 130 (q43.2.2 156 i1.toNatClampNeg) q43).bind fun q56 => (fX5_clear q56).bind fun q63 => some (true, q63) else none else none else none else none else none else none else none
/-- X12_count -/
def fX12_count (i1 : Int32) (M : MM) : Option Int32 := if i1 = 0 then some (M.1 9 0) else if i1 = 1 then some (M.1 9 1) else if i1 = 2 then some (M.1 9 11) else if i1 = 3 then some (M.1 9 12) else if i1 = 4 then some (M.1 9 13) else if i1 = 5 then some (M.1 1 1) else some (-1 : Int32)
