/-- X13_thrown -/
def fX13_thrown  (M : MM) : Option Int32 := some (M.1 0 0)
/-- X13_throwsIf -/
def fX13_throwsIf_10 (i1 : Int32)   (bs1 : Bool) (M : MM) : Option (Bool × MM) := if mx_isb i1 then some (decide (i1 = 1), (mx_si M 0 0 (mx_b bs1))) else none
def fX13_throwsIf (i1 : Int32) (M : MM) : Option (Bool × MM) := if i1 = 0 then fX13_throwsIf_10 i1 false M else fX13_throwsIf_10 i1 true M
/-- X13_four -/
def fX13_four_3 (i1 : Int32)   : Nat → Int32 → MM → Option MM
  | 0, _, _ => none
  | n + 1, i2, M => if i2 < 0 then some M else if mx_in (M.1 0 2) 940 then fX13_four_3 i1 n (i2 + (-8 : Int32)) (mx_si (mx_si M 1 (M.1 0 2).toNatClampNeg (((i1 >>> (i2 &&& 31)).toInt8.toInt32).toInt8.toInt32)) 0 2 (((mx_si M 1 (M.1 0 2).toNatClampNeg (((i1 >>> (i2 &&& 31)).toInt8.toInt32).toInt8.toInt32)).1 0 2) + (1 : Int32))) else none
def fX13_four (i1 : Int32) (M : MM) : Option MM := fX13_four_3 i1 mx_fu (24 : Int32) M
/-- X13_feed -/
def fX13_feed (i1 : Int32) (i2 : Int32) (i3 : Int32) (i4 : Int32) (i5 : Int32) (M : MM) : Option (Int32 × MM) := if (((mx_si M 0 0 (0 : Int32)).1 0 2) + (20 : Int32)) ≤ (940 : Int32) then (fX13_four i1 (mx_si M 0 0 (0 : Int32))).bind fun q22 => (fX13_four i2 q22).bind fun q27 => (fX13_four i3 q27).bind fun q32 => (fX13_four i4 q32).bind fun q38 => (fX13_four i5 q38).bind fun q44 => some ((q44.1 0 2), q44) else some ((-1 : Int32), (mx_si M 0 0 (0 : Int32)))
/-- X13_end -/
def fX13_end (i1 : Int32) (M : MM) : Option (Bool × MM) := if i1 < 0 then some (false, (mx_si M 0 0 (0 : Int32))) else if i1 ≤ ((mx_si M 0 0 (0 : Int32)).1 0 2) then some (true, (mx_si (mx_si M 0 0 (0 : Int32)) 0 2 i1)) else some (false, (mx_si M 0 0 (0 : Int32)))
/-- X13_taken -/
def fX13_taken (i1 : Int32) (M : MM) : Option MM := some (mx_si (mx_si (mx_si (mx_si M 0 3 (M.1 0 2)) 0 2 (0 : Int32)) 0 4 (0 : Int32)) 0 5 i1)
/-- X13_isIn -/
def fX13_isIn (i0 : Int32) (i1 : Int32) (i2 : Int32) (M : MM) : Option Bool := if i0 < i1 then some false else if i2 < i0 then some false else some true
/-- X13_bitOf -/
def fX13_bitOf (i0 : Int32) (i1 : Int32) (M : MM) : Option Bool := if ((i0 >>> (i1 &&& 31)) &&& (1 : Int32)) = (1 : Int32) then some true else some false
/-- X13_lesser -/
def fX13_lesser (i0 : Int32) (i1 : Int32) (M : MM) : Option Int32 := if i1 ≤ i0 then some i1 else some i0
/-- X13_greater -/
def fX13_greater (i0 : Int32) (i1 : Int32) (M : MM) : Option Int32 := if i0 ≤ i1 then some i1 else some i0
/-- X13_absolute -/
def fX13_absolute (i0 : Int32) (M : MM) : Option Int32 := if 0 ≤ i0 then some i0 else some (-i0)
/-- X13_bits -/
def fX13_bits_4 (i0 : Int32) (M : MM)   : Nat → Int32 → Int32 → Option Int32
  | 0, _, _ => none
  | n + 1, i1, i2 => if i2 = 0 then some i1 else fX13_bits_4 i0 M n (i1 + (1 : Int32)) (i2 &&& (i2 - (1 : Int32)))
def fX13_bits (i0 : Int32) (M : MM) : Option Int32 := fX13_bits_4 i0 M mx_fu (0 : Int32) i0
/-- X13_octet -/
def fX13_octet (i1 : Int32) (M : MM) : Option Int32 := if mx_in i1 940 then some ((M.1 1 i1.toNatClampNeg) &&& (255 : Int32)) else none
/-- X13_clears -/
def fX13_clears_2    : Nat → Int32 → MM → Option MM
  | 0, _, _ => none
  | n + 1, i1, M => if (54 : Int32) ≤ i1 then some (mx_si (mx_si (mx_si M 3 2 (1 : Int32)) 3 3 (5 : Int32)) 3 4 (4 : Int32)) else if mx_in i1 54 then fX13_clears_2 n (i1 + (1 : Int32)) (mx_si M 3 i1.toNatClampNeg (0 : Int32)) else none
def fX13_clears  (M : MM) : Option MM := fX13_clears_2 mx_fu (0 : Int32) M
/-- X13_peek -/
def fX13_peek  (M : MM) : Option Int32 := if (M.1 0 3) ≤ (M.1 0 4) then some (-1 : Int32) else if mx_in (M.1 0 4) 940 then some ((M.1 1 (M.1 0 4).toNatClampNeg) &&& (255 : Int32)) else none
/-- X13_isSmall -/
def fX13_isSmall (i0 : Int32) (M : MM) : Option Bool := if i0 < (97 : Int32) then some false else if (122 : Int32) < i0 then some false else some true
/-- X13_isDigit -/
def fX13_isDigit (i0 : Int32) (M : MM) : Option Bool := if i0 < (48 : Int32) then some false else if (57 : Int32) < i0 then some false else some true
/-- X13_next -/
def fX13_next_333    (is1 : Int32) (M : MM) : Option MM := some (mx_si M 0 11 is1)
def fX13_next_320   (k333 : Int32 → MM → Option MM) (M : MM) : Option MM := k333 (4 : Int32) M
def fX13_next_317  (b2 : Bool) (k320 : MM → Option MM) (k333 : Int32 → MM → Option MM) (is1 : Int32) (is2 : Int32) (M : MM) : Option MM := if is1 ≤ is2 then if (mx_b b2) = 0 then k333 (2 : Int32) M else k333 (1 : Int32) M else k320 M
def fX13_next_275  (b2 : Bool) (k181 : Bool → MM → Option MM) (b3 : Bool) (M : MM) : Option MM := k181 b3 (mx_si (mx_si M 0 13 ((M.1 0 13) + (1 : Int32))) 0 4 (((mx_si M 0 13 ((M.1 0 13) + (1 : Int32))).1 0 4) + (1 : Int32)))
def fX13_next_248  (b2 : Bool) (k181 : Bool → MM → Option MM) (b3 : Bool) (M : MM) : Option MM := if (3 : Int32) ≤ (M.1 0 13) then fX13_next_275 b2 k181 b3 M else (fX13_peek M).bind fun q265 => fX13_next_275 b2 k181 b3 (mx_si M 0 14 ((((10 : Int32) * (M.1 0 14)) + q265) - (48 : Int32)))
def fX13_next_221  (b2 : Bool) (k181 : Bool → MM → Option MM) (bs0 : Bool) (M : MM) : Option MM := if (7 : Int32) ≤ (M.1 0 13) then fX13_next_248 b2 k181 bs0 M else (fX13_peek M).bind fun q240 => fX13_next_248 b2 k181 bs0 (mx_sl M 0 17 (((M.2.1 0 17) <<< ((8 : Int32).toInt64 &&& 63)) ||| q240.toInt64))
def fX13_next_220  (b2 : Bool) (k221 : Bool → MM → Option MM) (M : MM) : Option MM := k221 false M
def fX13_next_201  (b2 : Bool) (k181 : Bool → MM → Option MM) (b3 : Bool) (M : MM) : Option MM := if (mx_b b3) = 0 then fX13_next_220 b2 (fun bs0' M' => fX13_next_221 b2 k181 bs0' M') M else (fX13_peek M).bind fun q206 => (fX13_isSmall q206 M).bind fun q209 => if (mx_b q209) = (mx_b b2) then fX13_next_221 b2 k181 true M else fX13_next_220 b2 (fun bs0' M' => fX13_next_221 b2 k181 bs0' M') M
def fX13_next_181  (b2 : Bool)  : Nat → Bool → MM → Option MM
  | 0, _, _ => none
  | n + 1, b3, M => (fX13_peek M).bind fun q182 => (fX13_isSmall q182 M).bind fun q185 => if (mx_b q185) = 0 then (fX13_peek M).bind fun q192 => (fX13_isDigit q192 M).bind fun q195 => if (mx_b q195) = 0 then if (mx_b b3) = 0 then fX13_next_320 (fun is1' M' => fX13_next_333 is1' M') M else if (mx_b b2) = 0 then fX13_next_317 b2 (fun M' => fX13_next_320 (fun is1' M' => fX13_next_333 is1' M') M') (fun is1' M' => fX13_next_333 is1' M') (M.1 0 13) (3 : Int32) M else fX13_next_317 b2 (fun M' => fX13_next_320 (fun is1' M' => fX13_next_333 is1' M') M') (fun is1' M' => fX13_next_333 is1' M') (M.1 0 13) (7 : Int32) M else fX13_next_201 b2 (fX13_next_181 b2 n) b3 M else fX13_next_201 b2 (fX13_next_181 b2 n) b3 M
def fX13_next_164    (i1 : Int32) (M : MM) : Option MM := (fX13_isSmall i1 M).bind fun q165 => fX13_next_181 q165 mx_fu true (mx_si (mx_sl M 0 17 (0 : Int64)) 0 14 (0 : Int32))
def fX13_next_145    (i1 : Int32) (is1 : Int32) (M : MM) : Option MM := some (mx_si (mx_si (mx_si M 0 11 is1) 0 14 i1) 0 4 (((mx_si (mx_si M 0 11 is1) 0 14 i1).1 0 4) + (1 : Int32)))
def fX13_next_144   (k145 : Int32 → Int32 → MM → Option MM) (i1 : Int32) (M : MM) : Option MM := k145 i1 (4 : Int32) M
def fX13_next_140   (k145 : Int32 → Int32 → MM → Option MM) (i1 : Int32) (M : MM) : Option MM := k145 i1 (3 : Int32) M
def fX13_next_80    (M : MM) : Option MM := (fX13_peek M).bind fun q81 => if 0 ≤ q81 then (fX13_isSmall q81 M).bind fun q96 => if (mx_b q96) = 0 then (fX13_isDigit q81 M).bind fun q103 => if (mx_b q103) = 0 then if q81 = (59 : Int32) then fX13_next_140 (fun i1' is1' M' => fX13_next_145 i1' is1' M') q81 M else if q81 = (40 : Int32) then fX13_next_140 (fun i1' is1' M' => fX13_next_145 i1' is1' M') q81 M else if q81 = (41 : Int32) then fX13_next_140 (fun i1' is1' M' => fX13_next_145 i1' is1' M') q81 M else if q81 < (60 : Int32) then fX13_next_144 (fun i1' is1' M' => fX13_next_145 i1' is1' M') q81 M else if (62 : Int32) < q81 then fX13_next_144 (fun i1' is1' M' => fX13_next_145 i1' is1' M') q81 M else fX13_next_140 (fun i1' is1' M' => fX13_next_145 i1' is1' M') q81 M else fX13_next_164 q81 M else fX13_next_164 q81 M else some (mx_si M 0 11 (0 : Int32))
def fX13_next_18   (k0 : MM → Option MM) (M : MM) : Option MM := k0 (mx_si M 0 4 ((M.1 0 4) + (1 : Int32)))
def fX13_next_0    : Nat → MM → Option MM
  | 0, _ => none
  | n + 1, M => (fX13_peek M).bind fun q1 => if q1 = (32 : Int32) then fX13_next_18 (fX13_next_0 n) M else (fX13_peek M).bind fun q10 => if q10 = (10 : Int32) then fX13_next_18 (fX13_next_0 n) M else if ((mx_si (mx_si M 0 12 (M.1 0 4)) 0 13 (0 : Int32)).1 0 3) ≤ ((mx_si (mx_si M 0 12 (M.1 0 4)) 0 13 (0 : Int32)).1 0 5) then fX13_next_80 (mx_si (mx_si M 0 12 (M.1 0 4)) 0 13 (0 : Int32)) else if ((mx_si (mx_si M 0 12 (M.1 0 4)) 0 13 (0 : Int32)).1 0 4) < ((mx_si (mx_si M 0 12 (M.1 0 4)) 0 13 (0 : Int32)).1 0 5) then fX13_next_80 (mx_si (mx_si M 0 12 (M.1 0 4)) 0 13 (0 : Int32)) else some (mx_si (mx_si (mx_si (mx_si M 0 12 (M.1 0 4)) 0 13 (0 : Int32)) 0 12 ((mx_si (mx_si M 0 12 (M.1 0 4)) 0 13 (0 : Int32)).1 0 5)) 0 11 (4 : Int32))
def fX13_next  (M : MM) : Option MM := fX13_next_0 mx_fu M
/-- X13_bad -/
def fX13_bad (i1 : Int32) (M : MM) : Option (Bool × MM) := some (false, (mx_si (mx_si M 0 15 i1) 0 16 ((mx_si M 0 15 i1).1 0 12)))
/-- X13_isWord -/
def fX13_isWord (l1 : Int64) (M : MM) : Option Bool := if (M.1 0 11) = (1 : Int32) then if (lg_cmp (M.2.1 0 17) l1) = 0 then some true else some false else some false
/-- X13_isSign -/
def fX13_isSign (i1 : Int32) (M : MM) : Option Bool := if (M.1 0 11) = (3 : Int32) then if (M.1 0 14) = i1 then some true else some false else some false
/-- X13_sign -/
def fX13_sign (i1 : Int32) (M : MM) : Option (Bool × MM) := (fX13_isSign i1 M).bind fun q2 => if (mx_b q2) = 0 then (fX13_bad (1 : Int32) M).bind fun q10 => some (q10.1, q10.2) else (fX13_next M).bind fun q15 => some (true, q15)
/-- X13_isName -/
def fX13_isName_16 (M : MM)   : Nat → Bool → Int32 → Option Bool
  | 0, _, _ => none
  | n + 1, b1, i2 => if (23 : Int32) ≤ i2 then some b1 else if (mx_b b1) = 0 then fX13_isName_16 M n false (i2 + (1 : Int32)) else if mx_in i2 23 then if (lg_cmp (M.2.1 0 17) (M.2.1 6 i2.toNatClampNeg)) = 0 then fX13_isName_16 M n false (i2 + (1 : Int32)) else fX13_isName_16 M n true (i2 + (1 : Int32)) else none
def fX13_isName  (M : MM) : Option Bool := if (M.1 0 11) = (1 : Int32) then fX13_isName_16 M mx_fu true (0 : Int32) else fX13_isName_16 M mx_fu false (0 : Int32)
/-- X13_takes -/
def fX13_takes (i1 : Int32) (i2 : Int32) (M : MM) : Option (Bool × MM) := if (M.1 0 11) = (2 : Int32) then (fX13_isIn (M.1 0 14) i1 i2 M).bind fun q20 => if (mx_b q20) = 0 then (fX13_bad (2 : Int32) M).bind fun q28 => some (q28.1, q28.2) else (fX13_next (mx_si M 0 18 (M.1 0 14))).bind fun q41 => some (true, q41) else (fX13_bad (1 : Int32) M).bind fun q10 => some (q10.1, q10.2)
/-- X13_puts -/
def fX13_puts (i1 : Int32) (i2 : Int32) (i3 : Int32) (M : MM) : Option (Bool × MM) := (fX13_takes i2 i3 M).bind fun q3 => if (mx_b q3.1) = 0 then some (false, q3.2) else if mx_in i1 54 then some (true, (mx_si q3.2 3 i1.toNatClampNeg (q3.2.1 0 18))) else none
/-- X13_seek -/
def fX13_seek_2 (i1 : Int32) (i2 : Int32) (M : MM)   : Nat → Int32 → Option Int32
  | 0, _ => none
  | n + 1, i3 => if i2 ≤ i3 then some (-1 : Int32) else if mx_in (i1 + i3) 28 then if (lg_cmp (M.2.1 5 (i1 + i3).toNatClampNeg) (M.2.1 0 17)) = 0 then some i3 else fX13_seek_2 i1 i2 M n (i3 + (1 : Int32)) else none
def fX13_seek (i1 : Int32) (i2 : Int32) (M : MM) : Option Int32 := fX13_seek_2 i1 i2 M mx_fu (0 : Int32)
/-- X13_fresh -/
def fX13_fresh_43 (i1 : Int32)   (M : MM) : Option (Bool × MM) := (fX13_bad (3 : Int32) M).bind fun q45 => some (q45.1, q45.2)
def fX13_fresh (i1 : Int32) (M : MM) : Option (Bool × MM) := (fX13_isName M).bind fun q1 => if (mx_b q1) = 0 then (fX13_bad (1 : Int32) M).bind fun q9 => some (q9.1, q9.2) else (fX13_seek (14 : Int32) (M.1 3 0) M).bind fun q22 => if 0 ≤ q22 then fX13_fresh_43 i1 M else (fX13_seek (21 : Int32) (M.1 3 1) M).bind fun q37 => if q37 < 0 then if mx_in i1 28 then (fX13_next (mx_sl M 5 i1.toNatClampNeg (M.2.1 0 17))).bind fun q60 => some (true, q60) else none else fX13_fresh_43 i1 M
/-- X13_looksAt -/
def fX13_looksAt (i1 : Int32) (i2 : Int32) (M : MM) : Option (Bool × MM) := (fX13_isName M).bind fun q1 => if (mx_b q1) = 0 then (fX13_bad (1 : Int32) M).bind fun q9 => some (q9.1, q9.2) else (fX13_seek i1 i2 M).bind fun q17 => if 0 ≤ ((mx_si M 0 18 q17).1 0 18) then some (true, (mx_si M 0 18 q17)) else (fX13_bad (3 : Int32) (mx_si M 0 18 q17)).bind fun q32 => if (mx_b q32.1) = 0 then some (false, q32.2) else some (true, q32.2)
/-- X13_takesName -/
def fX13_takesName (i1 : Int32) (i2 : Int32) (M : MM) : Option (Bool × MM) := (fX13_looksAt i1 i2 M).bind fun q3 => if (mx_b q3.1) = 0 then some (false, q3.2) else (fX13_next q3.2).bind fun q12 => some (true, q12)
/-- X13_once -/
def fX13_once (i1 : Int32) (i2 : Int32) (i3 : Int32) (i4 : Int32) (M : MM) : Option (Bool × MM) := (fX13_bitOf (M.1 0 20) i1 M).bind fun q5 => if (mx_b q5) = 0 then (fX13_next (mx_si M 0 20 ((M.1 0 20) ||| ((1 : Int32) <<< (i1 &&& 31))))).bind fun q30 => (fX13_puts i2 i3 i4 q30).bind fun q38 => some (q38.1, q38.2) else (fX13_bad (3 : Int32) M).bind fun q13 => some (q13.1, q13.2)
/-- X13_readPerson -/
def fX13_readPerson  (M : MM) : Option (Bool × MM) := if (M.1 3 0) = (7 : Int32) then (fX13_bad (4 : Int32) M).bind fun q15 => some (q15.1, q15.2) else (fX13_next M).bind fun q20 => (fX13_fresh ((14 : Int32) + (M.1 3 0)) q20).bind fun q28 => if (mx_b q28.1) = 0 then some (false, q28.2) else (fX13_puts ((5 : Int32) + (M.1 3 0)) (0 : Int32) (20 : Int32) q28.2).bind fun q41 => if (mx_b q41.1) = 0 then some (false, q41.2) else (fX13_puts ((12 : Int32) + (M.1 3 0)) (0 : Int32) (20 : Int32) q41.2).bind fun q55 => if (mx_b q55.1) = 0 then some (false, q55.2) else (fX13_puts ((19 : Int32) + (M.1 3 0)) (1 : Int32) (20 : Int32) q55.2).bind fun q69 => if (mx_b q69.1) = 0 then some (false, q69.2) else some (true, (mx_si q69.2 3 0 ((q69.2.1 3 0) + (1 : Int32))))
/-- X13_readRing -/
def fX13_readRing  (M : MM) : Option (Bool × MM) := if (M.1 3 1) = (7 : Int32) then (fX13_bad (4 : Int32) M).bind fun q15 => some (q15.1, q15.2) else (fX13_next M).bind fun q20 => (fX13_fresh ((21 : Int32) + (M.1 3 1)) q20).bind fun q28 => if (mx_b q28.1) = 0 then some (false, q28.2) else (fX13_puts ((26 : Int32) + (M.1 3 1)) (1 : Int32) (20 : Int32) q28.2).bind fun q42 => if (mx_b q42.1) = 0 then some (false, q42.2) else (fX13_takesName (14 : Int32) (q42.2.1 3 0) q42.2).bind fun q57 => if (mx_b q57.1) = 0 then some (false, q57.2) else if mx_in ((33 : Int32) + (M.1 3 1)) 54 then (fX13_takesName (14 : Int32) ((mx_si q57.2 3 ((33 : Int32) + (M.1 3 1)).toNatClampNeg (q57.2.1 0 18)).1 3 0) (mx_si q57.2 3 ((33 : Int32) + (M.1 3 1)).toNatClampNeg (q57.2.1 0 18))).bind fun q87 => if (mx_b q87.1) = 0 then some (false, q87.2) else if mx_in ((40 : Int32) + (M.1 3 1)) 54 then (fX13_puts ((47 : Int32) + (M.1 3 1)) (0 : Int32) (300 : Int32) (mx_si q87.2 3 ((40 : Int32) + (M.1 3 1)).toNatClampNeg (q87.2.1 0 18))).bind fun q117 => if (mx_b q117.1) = 0 then some (false, q117.2) else some (true, (mx_si q117.2 3 1 ((q117.2.1 3 1) + (1 : Int32)))) else none else none
/-- X13_line -/
def fX13_line  (M : MM) : Option (Bool × MM) := (fX13_isWord (123581014175598 : Int64) M).bind fun q4 => if (mx_b q4) = 0 then (fX13_isWord (1919512167 : Int64) M).bind fun q19 => if (mx_b q19) = 0 then (fX13_isWord (6711668 : Int64) M).bind fun q34 => if (mx_b q34) = 0 then (fX13_isWord (2002873451 : Int64) M).bind fun q53 => if (mx_b q53) = 0 then (fX13_isWord (117001056382053 : Int64) M).bind fun q73 => if (mx_b q73) = 0 then (fX13_bad (1 : Int32) M).bind fun q93 => some (q93.1, q93.2) else (fX13_once (2 : Int32) (4 : Int32) (2 : Int32) (9 : Int32) M).bind fun q85 => some (q85.1, q85.2) else (fX13_once (1 : Int32) (3 : Int32) (1 : Int32) (20 : Int32) M).bind fun q65 => some (q65.1, q65.2) else (fX13_once (0 : Int32) (2 : Int32) (0 : Int32) (5 : Int32) M).bind fun q45 => some (q45.1, q45.2) else (fX13_readRing M).bind fun q26 => some (q26.1, q26.2) else (fX13_readPerson M).bind fun q11 => some (q11.1, q11.2)
/-- X13_island -/
def fX13_island_146    : Nat → Int32 → MM → Option (Int32 × MM)
  | 0, _, _ => none
  | n + 1, i1, M => if (7 : Int32) ≤ i1 then some (((mx_si M 0 23 (0 : Int32)).1 0 19), (mx_si M 0 23 (0 : Int32))) else if mx_in ((5 : Int32) + i1) 294 then if mx_in ((57 : Int32) + i1) 294 then if mx_in ((12 : Int32) + i1) 294 then if mx_in ((64 : Int32) + i1) 294 then if mx_in ((71 : Int32) + i1) 294 then if mx_in ((40 : Int32) + i1) 294 then if mx_in ((78 : Int32) + i1) 294 then fX13_island_146 n (i1 + (1 : Int32)) (mx_si (mx_si (mx_si (mx_si M 2 ((57 : Int32) + i1).toNatClampNeg (M.1 2 ((5 : Int32) + i1).toNatClampNeg)) 2 ((64 : Int32) + i1).toNatClampNeg ((mx_si M 2 ((57 : Int32) + i1).toNatClampNeg (M.1 2 ((5 : Int32) + i1).toNatClampNeg)).1 2 ((12 : Int32) + i1).toNatClampNeg)) 2 ((71 : Int32) + i1).toNatClampNeg ((mx_si (mx_si M 2 ((57 : Int32) + i1).toNatClampNeg (M.1 2 ((5 : Int32) + i1).toNatClampNeg)) 2 ((64 : Int32) + i1).toNatClampNeg ((mx_si M 2 ((57 : Int32) + i1).toNatClampNeg (M.1 2 ((5 : Int32) + i1).toNatClampNeg)).1 2 ((12 : Int32) + i1).toNatClampNeg)).1 2 3)) 2 ((78 : Int32) + i1).toNatClampNeg ((mx_si (mx_si (mx_si M 2 ((57 : Int32) + i1).toNatClampNeg (M.1 2 ((5 : Int32) + i1).toNatClampNeg)) 2 ((64 : Int32) + i1).toNatClampNeg ((mx_si M 2 ((57 : Int32) + i1).toNatClampNeg (M.1 2 ((5 : Int32) + i1).toNatClampNeg)).1 2 ((12 : Int32) + i1).toNatClampNeg)) 2 ((71 : Int32) + i1).toNatClampNeg ((mx_si (mx_si M 2 ((57 : Int32) + i1).toNatClampNeg (M.1 2 ((5 : Int32) + i1).toNatClampNeg)) 2 ((64 : Int32) + i1).toNatClampNeg ((mx_si M 2 ((57 : Int32) + i1).toNatClampNeg (M.1 2 ((5 : Int32) + i1).toNatClampNeg)).1 2 ((12 : Int32) + i1).toNatClampNeg)).1 2 3)).1 2 ((40 : Int32) + i1).toNatClampNeg)) else none else none else none else none else none else none else none
def fX13_island_117    : Nat → Int32 → MM → Option (Int32 × MM)
  | 0, _, _ => none
  | n + 1, i1, M => if (14 : Int32) ≤ i1 then fX13_island_146 mx_fu (0 : Int32) M else if mx_in ((14 : Int32) + i1) 28 then if mx_in i1 28 then fX13_island_117 n (i1 + (1 : Int32)) (mx_sl M 5 i1.toNatClampNeg (M.2.1 5 ((14 : Int32) + i1).toNatClampNeg)) else none else none
def fX13_island_108   (k80 : Int32 → MM → Option (Int32 × MM)) (i1 : Int32) (is1 : Int32) (is2 : Int32) (M : MM) : Option (Int32 × MM) := if mx_in is1 294 then k80 (i1 + (1 : Int32)) (mx_si M 2 is1.toNatClampNeg is2) else none
def fX13_island_80    : Nat → Int32 → MM → Option (Int32 × MM)
  | 0, _, _ => none
  | n + 1, i1, M => if (294 : Int32) ≤ i1 then fX13_island_117 mx_fu (0 : Int32) M else if (54 : Int32) ≤ i1 then fX13_island_108 (fX13_island_80 n) i1 i1 (0 : Int32) M else if mx_in i1 54 then fX13_island_108 (fX13_island_80 n) i1 i1 (M.1 3 i1.toNatClampNeg) M else none
def fX13_island_35    : Nat → MM → Option (Int32 × MM)
  | 0, _ => none
  | n + 1, M => if (M.1 0 11) = 0 then fX13_island_80 mx_fu (0 : Int32) M else (fX13_line M).bind fun q43 => if (mx_b q43.1) = 0 then some (((-1 : Int32) - (q43.2.1 0 16)), q43.2) else (fX13_sign (59 : Int32) q43.2).bind fun q52 => if (mx_b q52.1) = 0 then some (((-1 : Int32) - (q52.2.1 0 16)), q52.2) else fX13_island_35 n (mx_si q52.2 0 19 ((q52.2.1 0 19) + (1 : Int32)))
def fX13_island  (M : MM) : Option (Int32 × MM) := (fX13_taken (900 : Int32) (mx_si M 0 0 (0 : Int32))).bind fun q9 => (fX13_clears (mx_si (mx_si (mx_si q9 0 15 (0 : Int32)) 0 19 (0 : Int32)) 0 20 (0 : Int32))).bind fun q28 => (fX13_next q28).bind fun q32 => fX13_island_35 mx_fu q32
/-- X13_fault -/
def fX13_fault  (M : MM) : Option (Int32 × MM) := some (((mx_si M 0 0 (0 : Int32)).1 0 15), (mx_si M 0 0 (0 : Int32)))
/-- X13_isPerson -/
def fX13_isPerson (i1 : Int32) (M : MM) : Option Bool := (fX13_isIn i1 (0 : Int32) ((M.1 2 0) - (1 : Int32)) M).bind fun q10 => some q10
/-- X13_isRing -/
def fX13_isRing (i1 : Int32) (M : MM) : Option Bool := (fX13_isIn i1 (0 : Int32) ((M.1 2 1) - (1 : Int32)) M).bind fun q10 => some q10
/-- X13_keeps -/
def fX13_keeps (i1 : Int32) (i2 : Int32) (M : MM) : Option Bool := if mx_in ((85 : Int32) + i2) 294 then if (M.1 2 ((85 : Int32) + i2).toNatClampNeg) = 0 then if mx_in ((78 : Int32) + i2) 294 then if (M.1 2 ((78 : Int32) + i2).toNatClampNeg) = i1 then some true else some false else none else some false else none
/-- X13_has -/
def fX13_has (i1 : Int32) (i2 : Int32) (M : MM) : Option Bool := if mx_in ((85 : Int32) + i2) 294 then if (M.1 2 ((85 : Int32) + i2).toNatClampNeg) = (2 : Int32) then some false else if mx_in ((78 : Int32) + i2) 294 then if (M.1 2 ((78 : Int32) + i2).toNatClampNeg) = i1 then some true else some false else none else none
/-- X13_keptBy -/
def fX13_keptBy_4 (i1 : Int32) (M : MM)   : Nat → Int32 → Int32 → Option Int32
  | 0, _, _ => none
  | n + 1, i2, i3 => if (M.1 2 1) ≤ i3 then some i2 else (fX13_keeps i1 i3 M).bind fun q18 => if (mx_b q18) = 0 then fX13_keptBy_4 i1 M n (i2 ||| (0 : Int32)) (i3 + (1 : Int32)) else fX13_keptBy_4 i1 M n (i2 ||| ((1 : Int32) <<< (i3 &&& 31))) (i3 + (1 : Int32))
def fX13_keptBy (i1 : Int32) (M : MM) : Option Int32 := fX13_keptBy_4 i1 M mx_fu (0 : Int32) (0 : Int32)
/-- X13_wornBy -/
def fX13_wornBy_2 (i1 : Int32) (M : MM)   : Nat → Int32 → Option Int32
  | 0, _ => none
  | n + 1, i2 => if (M.1 2 1) ≤ i2 then some (-1 : Int32) else if mx_in ((85 : Int32) + i2) 294 then if (M.1 2 ((85 : Int32) + i2).toNatClampNeg) = (1 : Int32) then if mx_in ((78 : Int32) + i2) 294 then if (M.1 2 ((78 : Int32) + i2).toNatClampNeg) = i1 then some i2 else fX13_wornBy_2 i1 M n (i2 + (1 : Int32)) else none else fX13_wornBy_2 i1 M n (i2 + (1 : Int32)) else none
def fX13_wornBy (i1 : Int32) (M : MM) : Option Int32 := fX13_wornBy_2 i1 M mx_fu (0 : Int32)
/-- X13_ownedBy -/
def fX13_ownedBy_4 (i1 : Int32) (M : MM)   : Nat → Int32 → Int32 → Option Int32
  | 0, _, _ => none
  | n + 1, i2, i3 => if (M.1 2 1) ≤ i3 then some i2 else if mx_in ((33 : Int32) + i3) 294 then if (M.1 2 ((33 : Int32) + i3).toNatClampNeg) = i1 then fX13_ownedBy_4 i1 M n (i2 ||| ((1 : Int32) <<< (i3 &&& 31))) (i3 + (1 : Int32)) else fX13_ownedBy_4 i1 M n (i2 ||| (0 : Int32)) (i3 + (1 : Int32)) else none
def fX13_ownedBy (i1 : Int32) (M : MM) : Option Int32 := fX13_ownedBy_4 i1 M mx_fu (0 : Int32) (0 : Int32)
/-- X13_farBy -/
def fX13_farBy (i1 : Int32) (i2 : Int32) (i3 : Int32) (M : MM) : Option Int32 := if mx_in ((57 : Int32) + i1) 294 then (fX13_absolute ((M.1 2 ((57 : Int32) + i1).toNatClampNeg) - i2) M).bind fun q11 => if mx_in ((64 : Int32) + i1) 294 then (fX13_absolute ((M.1 2 ((64 : Int32) + i1).toNatClampNeg) - i3) M).bind fun q25 => some (q11 + q25) else none else none
/-- X13_farOf -/
def fX13_farOf (i1 : Int32) (i2 : Int32) (M : MM) : Option Int32 := if mx_in ((57 : Int32) + i2) 294 then if mx_in ((64 : Int32) + i2) 294 then (fX13_farBy i1 (M.1 2 ((57 : Int32) + i2).toNatClampNeg) (M.1 2 ((64 : Int32) + i2).toNatClampNeg) M).bind fun q20 => some q20 else none else none
/-- X13_feels -/
def fX13_feels (i1 : Int32) (i2 : Int32) (M : MM) : Option Int32 := if mx_in ((19 : Int32) + i2) 294 then if ((M.1 2 ((19 : Int32) + i2).toNatClampNeg) - (M.1 2 2)) ≤ i1 then if mx_in ((19 : Int32) + i2) 294 then if i1 ≤ ((M.1 2 ((19 : Int32) + i2).toNatClampNeg) + (M.1 2 2)) then some (1 : Int32) else some (2 : Int32) else none else some (0 : Int32) else none
/-- X13_isFit -/
def fX13_isFit (i1 : Int32) (i2 : Int32) (M : MM) : Option Bool := if mx_in ((26 : Int32) + i1) 294 then (fX13_feels (M.1 2 ((26 : Int32) + i1).toNatClampNeg) i2 M).bind fun q11 => if q11 = (1 : Int32) then some true else some false else none
/-- X13_ringsBy -/
def fX13_ringsBy_5 (i1 : Int32) (i2 : Int32) (M : MM)   : Nat → Int32 → Int32 → Option Int32
  | 0, _, _ => none
  | n + 1, i3, i4 => if (M.1 2 1) ≤ i4 then some i3 else if mx_in (i1 + i4) 294 then if (M.1 2 (i1 + i4).toNatClampNeg) = i2 then fX13_ringsBy_5 i1 i2 M n (i3 ||| ((1 : Int32) <<< (i4 &&& 31))) (i4 + (1 : Int32)) else fX13_ringsBy_5 i1 i2 M n (i3 ||| (0 : Int32)) (i4 + (1 : Int32)) else none
def fX13_ringsBy (i1 : Int32) (i2 : Int32) (M : MM) : Option Int32 := fX13_ringsBy_5 i1 i2 M mx_fu (0 : Int32) (0 : Int32)
/-- X13_person -/
def fX13_person_24 (i1 : Int32) (i2 : Int32)   (bs1 : Bool) (M : MM) : Option (Int32 × MM) := (fX13_throwsIf (mx_b bs1) M).bind fun q24 => if (mx_b q24.1) = 0 then if i2 = 0 then if mx_in ((57 : Int32) + i1) 294 then some ((q24.2.1 2 ((57 : Int32) + i1).toNatClampNeg), q24.2) else none else if i2 = 1 then if mx_in ((64 : Int32) + i1) 294 then some ((q24.2.1 2 ((64 : Int32) + i1).toNatClampNeg), q24.2) else none else if i2 = 2 then if mx_in ((19 : Int32) + i1) 294 then some ((q24.2.1 2 ((19 : Int32) + i1).toNatClampNeg), q24.2) else none else if i2 = 3 then if mx_in ((71 : Int32) + i1) 294 then some ((q24.2.1 2 ((71 : Int32) + i1).toNatClampNeg), q24.2) else none else if i2 = 4 then (fX13_keptBy i1 q24.2).bind fun q114 => some (q114, q24.2) else if i2 = 5 then (fX13_wornBy i1 q24.2).bind fun q120 => some (q120, q24.2) else (fX13_ownedBy i1 q24.2).bind fun q126 => some (q126, q24.2) else some ((0 : Int32), q24.2)
def fX13_person_19 (i1 : Int32) (i2 : Int32)  (k24 : Bool → MM → Option (Int32 × MM)) (M : MM) : Option (Int32 × MM) := k24 true M
def fX13_person (i1 : Int32) (i2 : Int32) (M : MM) : Option (Int32 × MM) := (fX13_isPerson i1 M).bind fun q3 => if (mx_b q3) = 0 then fX13_person_19 i1 i2 (fun bs1' M' => fX13_person_24 i1 i2 bs1' M') M else (fX13_isIn i2 (0 : Int32) (6 : Int32) M).bind fun q13 => if (mx_b q13) = 0 then fX13_person_19 i1 i2 (fun bs1' M' => fX13_person_24 i1 i2 bs1' M') M else fX13_person_24 i1 i2 false M
/-- X13_ring -/
def fX13_ring_50 (i1 : Int32) (i2 : Int32)   (bs0 : Bool) (M : MM) : Option (Int32 × MM) := if i2 = 0 then if mx_in ((26 : Int32) + i1) 294 then some ((M.1 2 ((26 : Int32) + i1).toNatClampNeg), M) else none else if i2 = 1 then if mx_in ((33 : Int32) + i1) 294 then some ((M.1 2 ((33 : Int32) + i1).toNatClampNeg), M) else none else if i2 = 2 then if (mx_b bs0) = 0 then if mx_in ((78 : Int32) + i1) 294 then some ((M.1 2 ((78 : Int32) + i1).toNatClampNeg), M) else none else some ((-1 : Int32), M) else if i2 = 3 then if mx_in ((47 : Int32) + i1) 294 then some ((M.1 2 ((47 : Int32) + i1).toNatClampNeg), M) else none else if i2 = 4 then if mx_in ((85 : Int32) + i1) 294 then some ((M.1 2 ((85 : Int32) + i1).toNatClampNeg), M) else none else if i2 = 5 then if mx_in ((92 : Int32) + i1) 294 then some ((M.1 2 ((92 : Int32) + i1).toNatClampNeg), M) else none else if i2 = 6 then if (mx_b bs0) = 0 then if mx_in ((78 : Int32) + i1) 294 then if mx_in ((57 : Int32) + (M.1 2 ((78 : Int32) + i1).toNatClampNeg)) 294 then some ((M.1 2 ((57 : Int32) + (M.1 2 ((78 : Int32) + i1).toNatClampNeg)).toNatClampNeg), M) else none else none else if mx_in ((99 : Int32) + i1) 294 then some ((M.1 2 ((99 : Int32) + i1).toNatClampNeg), M) else none else if (mx_b bs0) = 0 then if mx_in ((78 : Int32) + i1) 294 then if mx_in ((64 : Int32) + (M.1 2 ((78 : Int32) + i1).toNatClampNeg)) 294 then some ((M.1 2 ((64 : Int32) + (M.1 2 ((78 : Int32) + i1).toNatClampNeg)).toNatClampNeg), M) else none else none else if mx_in ((106 : Int32) + i1) 294 then some ((M.1 2 ((106 : Int32) + i1).toNatClampNeg), M) else none
def fX13_ring_24 (i1 : Int32) (i2 : Int32)   (bs1 : Bool) (M : MM) : Option (Int32 × MM) := (fX13_throwsIf (mx_b bs1) M).bind fun q24 => if (mx_b q24.1) = 0 then if mx_in ((85 : Int32) + i1) 294 then if (q24.2.1 2 ((85 : Int32) + i1).toNatClampNeg) = (2 : Int32) then fX13_ring_50 i1 i2 true q24.2 else fX13_ring_50 i1 i2 false q24.2 else none else some ((0 : Int32), q24.2)
def fX13_ring_19 (i1 : Int32) (i2 : Int32)  (k24 : Bool → MM → Option (Int32 × MM)) (M : MM) : Option (Int32 × MM) := k24 true M
def fX13_ring (i1 : Int32) (i2 : Int32) (M : MM) : Option (Int32 × MM) := (fX13_isRing i1 M).bind fun q3 => if (mx_b q3) = 0 then fX13_ring_19 i1 i2 (fun bs1' M' => fX13_ring_24 i1 i2 bs1' M') M else (fX13_isIn i2 (0 : Int32) (7 : Int32) M).bind fun q13 => if (mx_b q13) = 0 then fX13_ring_19 i1 i2 (fun bs1' M' => fX13_ring_24 i1 i2 bs1' M') M else fX13_ring_24 i1 i2 false M
/-- X13_fits -/
def fX13_fits (i1 : Int32) (i2 : Int32) (M : MM) : Option (Int32 × MM) := (fX13_isRing i1 (mx_si M 0 0 (0 : Int32))).bind fun q7 => if (mx_b q7) = 0 then some ((-1 : Int32), (mx_si M 0 0 (0 : Int32))) else (fX13_isPerson i2 (mx_si M 0 0 (0 : Int32))).bind fun q15 => if (mx_b q15) = 0 then some ((-1 : Int32), (mx_si M 0 0 (0 : Int32))) else if mx_in ((26 : Int32) + i1) 294 then (fX13_feels ((mx_si M 0 0 (0 : Int32)).1 2 ((26 : Int32) + i1).toNatClampNeg) i2 (mx_si M 0 0 (0 : Int32))).bind fun q32 => some (q32, (mx_si M 0 0 (0 : Int32))) else none
/-- X13_now -/
def fX13_now (i1 : Int32) (M : MM) : Option (Int32 × MM) := if i1 = 0 then some (((mx_si M 0 0 (0 : Int32)).1 2 54), (mx_si M 0 0 (0 : Int32))) else if i1 = 1 then (fX13_ringsBy (85 : Int32) (1 : Int32) (mx_si M 0 0 (0 : Int32))).bind fun q60 => some (q60, (mx_si M 0 0 (0 : Int32))) else if i1 = 2 then (fX13_ringsBy (85 : Int32) (2 : Int32) (mx_si M 0 0 (0 : Int32))).bind fun q68 => some (q68, (mx_si M 0 0 (0 : Int32))) else if i1 = 3 then (fX13_ringsBy (92 : Int32) (1 : Int32) (mx_si M 0 0 (0 : Int32))).bind fun q76 => some (q76, (mx_si M 0 0 (0 : Int32))) else if i1 = 4 then (fX13_ringsBy (92 : Int32) (2 : Int32) (mx_si M 0 0 (0 : Int32))).bind fun q84 => some (q84, (mx_si M 0 0 (0 : Int32))) else if i1 = 5 then some (((mx_si M 0 0 (0 : Int32)).1 2 55), (mx_si M 0 0 (0 : Int32))) else if i1 = 6 then some (((mx_si M 0 0 (0 : Int32)).1 2 56), (mx_si M 0 0 (0 : Int32))) else some ((-1 : Int32), (mx_si M 0 0 (0 : Int32)))
/-- X13_whyGo -/
def fX13_whyGo (i1 : Int32) (i2 : Int32) (i3 : Int32) (M : MM) : Option Int32 := (fX13_farBy i1 i2 i3 M).bind fun q4 => if q4 = 0 then some (1 : Int32) else if mx_in ((71 : Int32) + i1) 294 then if q4 ≤ (M.1 2 ((71 : Int32) + i1).toNatClampNeg) then some (0 : Int32) else some (2 : Int32) else none
/-- X13_goes -/
def fX13_goes (i1 : Int32) (i2 : Int32) (i3 : Int32) (M : MM) : Option MM := (fX13_farBy i1 i2 i3 M).bind fun q4 => if mx_in ((71 : Int32) + i1) 294 then if mx_in ((71 : Int32) + i1) 294 then if mx_in ((57 : Int32) + i1) 294 then if mx_in ((64 : Int32) + i1) 294 then some (mx_si (mx_si (mx_si (mx_si M 2 ((71 : Int32) + i1).toNatClampNeg ((M.1 2 ((71 : Int32) + i1).toNatClampNeg) - q4)) 2 56 (((mx_si M 2 ((71 : Int32) + i1).toNatClampNeg ((M.1 2 ((71 : Int32) + i1).toNatClampNeg) - q4)).1 2 56) + q4)) 2 ((57 : Int32) + i1).toNatClampNeg i2) 2 ((64 : Int32) + i1).toNatClampNeg i3) else none else none else none else none
/-- X13_whyHand -/
def fX13_whyHand (i1 : Int32) (i2 : Int32) (i3 : Int32) (M : MM) : Option Int32 := if i1 = i3 then some (1 : Int32) else (fX13_keeps i1 i2 M).bind fun q12 => if (mx_b q12) = 0 then some (2 : Int32) else (fX13_farOf i1 i3 M).bind fun q25 => if q25 ≤ 0 then some (0 : Int32) else some (3 : Int32)
/-- X13_hands -/
def fX13_hands (i1 : Int32) (i2 : Int32) (M : MM) : Option MM := if mx_in ((78 : Int32) + i1) 294 then some (mx_si (mx_si M 2 ((78 : Int32) + i1).toNatClampNeg i2) 2 55 (((mx_si M 2 ((78 : Int32) + i1).toNatClampNeg i2).1 2 55) + (1 : Int32))) else none
/-- X13_whyWear -/
def fX13_whyWear (i1 : Int32) (i2 : Int32) (M : MM) : Option Int32 := (fX13_keeps i1 i2 M).bind fun q3 => if (mx_b q3) = 0 then some (1 : Int32) else (fX13_wornBy i1 M).bind fun q15 => if q15 < 0 then (fX13_isFit i2 i1 M).bind fun q28 => if (mx_b q28) = 0 then some (3 : Int32) else some (0 : Int32) else some (2 : Int32)
/-- X13_whyFind -/
def fX13_whyFind (i1 : Int32) (i2 : Int32) (M : MM) : Option Int32 := if mx_in ((85 : Int32) + i2) 294 then if (M.1 2 ((85 : Int32) + i2).toNatClampNeg) = (2 : Int32) then if mx_in ((99 : Int32) + i2) 294 then if mx_in ((106 : Int32) + i2) 294 then (fX13_farBy i1 (M.1 2 ((99 : Int32) + i2).toNatClampNeg) (M.1 2 ((106 : Int32) + i2).toNatClampNeg) M).bind fun q37 => if q37 ≤ 0 then some (0 : Int32) else some (2 : Int32) else none else none else some (1 : Int32) else none
/-- X13_finds -/
def fX13_finds (i1 : Int32) (i2 : Int32) (M : MM) : Option MM := if mx_in ((85 : Int32) + i2) 294 then if mx_in ((78 : Int32) + i2) 294 then if mx_in ((99 : Int32) + i2) 294 then if mx_in ((106 : Int32) + i2) 294 then some (mx_si (mx_si (mx_si (mx_si M 2 ((85 : Int32) + i2).toNatClampNeg (0 : Int32)) 2 ((78 : Int32) + i2).toNatClampNeg i1) 2 ((99 : Int32) + i2).toNatClampNeg (0 : Int32)) 2 ((106 : Int32) + i2).toNatClampNeg (0 : Int32)) else none else none else none else none
/-- X13_day -/
def fX13_day_126  (i2 : Int32) (k70 : Int32 → MM → Option MM) : Nat → Int32 → Int32 → MM → Option MM
  | 0, _, _, _ => none
  | n + 1, i1, i3, M => (fX13_bitOf i2 i3 M).bind fun q128 => if (mx_b q128) = 0 then fX13_day_126 i2 k70 n i1 (i3 + (-1 : Int32)) M else if mx_in ((85 : Int32) + i3) 294 then if mx_in ((78 : Int32) + i3) 294 then if mx_in ((57 : Int32) + i1) 294 then if mx_in ((99 : Int32) + i3) 294 then if mx_in ((64 : Int32) + i1) 294 then if mx_in ((106 : Int32) + i3) 294 then k70 (i1 + (1 : Int32)) (mx_si (mx_si (mx_si (mx_si M 2 ((85 : Int32) + i3).toNatClampNeg (2 : Int32)) 2 ((78 : Int32) + i3).toNatClampNeg (0 : Int32)) 2 ((99 : Int32) + i3).toNatClampNeg ((mx_si (mx_si M 2 ((85 : Int32) + i3).toNatClampNeg (2 : Int32)) 2 ((78 : Int32) + i3).toNatClampNeg (0 : Int32)).1 2 ((57 : Int32) + i1).toNatClampNeg)) 2 ((106 : Int32) + i3).toNatClampNeg ((mx_si (mx_si (mx_si M 2 ((85 : Int32) + i3).toNatClampNeg (2 : Int32)) 2 ((78 : Int32) + i3).toNatClampNeg (0 : Int32)) 2 ((99 : Int32) + i3).toNatClampNeg ((mx_si (mx_si M 2 ((85 : Int32) + i3).toNatClampNeg (2 : Int32)) 2 ((78 : Int32) + i3).toNatClampNeg (0 : Int32)).1 2 ((57 : Int32) + i1).toNatClampNeg)).1 2 ((64 : Int32) + i1).toNatClampNeg)) else none else none else none else none else none else none
def fX13_day_70    : Nat → Int32 → MM → Option MM
  | 0, _, _ => none
  | n + 1, i1, M => if (M.1 2 0) ≤ i1 then some (mx_si M 2 54 ((M.1 2 54) + (1 : Int32))) else if mx_in ((71 : Int32) + i1) 294 then (fX13_keptBy i1 (mx_si M 2 ((71 : Int32) + i1).toNatClampNeg (M.1 2 3))).bind fun q97 => (fX13_bits q97 (mx_si M 2 ((71 : Int32) + i1).toNatClampNeg (M.1 2 3))).bind fun q102 => if ((mx_si M 2 ((71 : Int32) + i1).toNatClampNeg (M.1 2 3)).1 2 4) ≤ q102 then fX13_day_126 q97 (fX13_day_70 n) mx_fu i1 (((mx_si M 2 ((71 : Int32) + i1).toNatClampNeg (M.1 2 3)).1 2 1) - (1 : Int32)) (mx_si M 2 ((71 : Int32) + i1).toNatClampNeg (M.1 2 3)) else fX13_day_70 n (i1 + (1 : Int32)) (mx_si M 2 ((71 : Int32) + i1).toNatClampNeg (M.1 2 3)) else none
def fX13_day_61   (k2 : Int32 → MM → Option MM) (i1 : Int32) (is1 : Int32) (is2 : Int32) (M : MM) : Option MM := if mx_in is1 294 then k2 (i1 + (1 : Int32)) (mx_si M 2 is1.toNatClampNeg is2) else none
def fX13_day_2    : Nat → Int32 → MM → Option MM
  | 0, _, _ => none
  | n + 1, i1, M => if (M.1 2 1) ≤ i1 then fX13_day_70 mx_fu (0 : Int32) M else if mx_in ((47 : Int32) + i1) 294 then if (M.1 2 ((47 : Int32) + i1).toNatClampNeg) = (M.1 2 54) then if mx_in ((33 : Int32) + i1) 294 then (fX13_has (M.1 2 ((33 : Int32) + i1).toNatClampNeg) i1 M).bind fun q50 => if (mx_b q50) = 0 then fX13_day_61 (fX13_day_2 n) i1 ((92 : Int32) + i1) (2 : Int32) M else fX13_day_61 (fX13_day_2 n) i1 ((92 : Int32) + i1) (1 : Int32) M else none else fX13_day_2 n (i1 + (1 : Int32)) M else none
def fX13_day  (M : MM) : Option MM := fX13_day_2 mx_fu (0 : Int32) M
/-- X13_goesOn -/
def fX13_goesOn_2 (i1 : Int32)   : Nat → Int32 → MM → Option (Int32 × MM)
  | 0, _, _ => none
  | n + 1, i2, M => if i1 ≤ i2 then some (i2, M) else if (400 : Int32) ≤ (M.1 2 54) then some (i2, M) else (fX13_day M).bind fun q21 => fX13_goesOn_2 i1 n (i2 + (1 : Int32)) q21
def fX13_goesOn (i1 : Int32) (M : MM) : Option (Int32 × MM) := fX13_goesOn_2 i1 mx_fu (0 : Int32) M
/-- X13_keep -/
def fX13_keep_47    : Nat → Int32 → MM → Option MM
  | 0, _, _ => none
  | n + 1, i1, M => if (59 : Int32) ≤ i1 then some (mx_si M 0 23 ((M.1 0 23) + (1 : Int32))) else if mx_in ((54 : Int32) + i1) 294 then if mx_in (((59 : Int32) * (M.1 0 23)) + i1) 472 then fX13_keep_47 n (i1 + (1 : Int32)) (mx_si M 7 (((59 : Int32) * (M.1 0 23)) + i1).toNatClampNeg (M.1 2 ((54 : Int32) + i1).toNatClampNeg)) else none else none
def fX13_keep_11   (k47 : Int32 → MM → Option MM) : Nat → Int32 → MM → Option MM
  | 0, _, _ => none
  | n + 1, i1, M => if (413 : Int32) ≤ i1 then k47 (0 : Int32) (mx_si M 0 23 (7 : Int32)) else if mx_in (i1 + (59 : Int32)) 472 then if mx_in i1 472 then fX13_keep_11 k47 n (i1 + (1 : Int32)) (mx_si M 7 i1.toNatClampNeg (M.1 7 (i1 + (59 : Int32)).toNatClampNeg)) else none else none
def fX13_keep  (M : MM) : Option MM := if (M.1 0 23) = (8 : Int32) then fX13_keep_11 (fun i1' M' => fX13_keep_47 mx_fu i1' M') mx_fu (0 : Int32) M else fX13_keep_47 mx_fu (0 : Int32) M
/-- X13_go -/
def fX13_go (i1 : Int32) (i2 : Int32) (i3 : Int32) (M : MM) : Option (Int32 × MM) := (fX13_isPerson i1 (mx_si M 0 0 (0 : Int32))).bind fun q7 => if (mx_b q7) = 0 then some ((-1 : Int32), (mx_si M 0 0 (0 : Int32))) else (fX13_isIn i2 (0 : Int32) (20 : Int32) (mx_si M 0 0 (0 : Int32))).bind fun q17 => if (mx_b q17) = 0 then some ((-1 : Int32), (mx_si M 0 0 (0 : Int32))) else (fX13_isIn i3 (0 : Int32) (20 : Int32) (mx_si M 0 0 (0 : Int32))).bind fun q27 => if (mx_b q27) = 0 then some ((-1 : Int32), (mx_si M 0 0 (0 : Int32))) else (fX13_whyGo i1 i2 i3 (mx_si M 0 0 (0 : Int32))).bind fun q39 => if q39 ≤ 0 then (fX13_keep (mx_si M 0 0 (0 : Int32))).bind fun q53 => (fX13_goes i1 i2 i3 q53).bind fun q60 => some ((0 : Int32), q60) else some (q39, (mx_si M 0 0 (0 : Int32)))
/-- X13_hand -/
def fX13_hand (i1 : Int32) (i2 : Int32) (i3 : Int32) (M : MM) : Option (Int32 × MM) := (fX13_isPerson i1 (mx_si M 0 0 (0 : Int32))).bind fun q7 => if (mx_b q7) = 0 then some ((-1 : Int32), (mx_si M 0 0 (0 : Int32))) else (fX13_isRing i2 (mx_si M 0 0 (0 : Int32))).bind fun q15 => if (mx_b q15) = 0 then some ((-1 : Int32), (mx_si M 0 0 (0 : Int32))) else (fX13_isPerson i3 (mx_si M 0 0 (0 : Int32))).bind fun q23 => if (mx_b q23) = 0 then some ((-1 : Int32), (mx_si M 0 0 (0 : Int32))) else (fX13_whyHand i1 i2 i3 (mx_si M 0 0 (0 : Int32))).bind fun q35 => if q35 ≤ 0 then (fX13_keep (mx_si M 0 0 (0 : Int32))).bind fun q49 => (fX13_hands i2 i3 q49).bind fun q55 => some ((0 : Int32), q55) else some (q35, (mx_si M 0 0 (0 : Int32)))
/-- X13_wear -/
def fX13_wear (i1 : Int32) (i2 : Int32) (M : MM) : Option (Int32 × MM) := (fX13_isPerson i1 (mx_si M 0 0 (0 : Int32))).bind fun q7 => if (mx_b q7) = 0 then some ((-1 : Int32), (mx_si M 0 0 (0 : Int32))) else (fX13_isRing i2 (mx_si M 0 0 (0 : Int32))).bind fun q15 => if (mx_b q15) = 0 then some ((-1 : Int32), (mx_si M 0 0 (0 : Int32))) else (fX13_whyWear i1 i2 (mx_si M 0 0 (0 : Int32))).bind fun q26 => if q26 ≤ 0 then (fX13_keep (mx_si M 0 0 (0 : Int32))).bind fun q37 => if mx_in ((85 : Int32) + i2) 294 then some ((0 : Int32), (mx_si q37 2 ((85 : Int32) + i2).toNatClampNeg (1 : Int32))) else none else some (q26, (mx_si M 0 0 (0 : Int32)))
/-- X13_doff -/
def fX13_doff (i1 : Int32) (M : MM) : Option (Int32 × MM) := (fX13_isPerson i1 (mx_si M 0 0 (0 : Int32))).bind fun q7 => if (mx_b q7) = 0 then some ((-1 : Int32), (mx_si M 0 0 (0 : Int32))) else (fX13_wornBy i1 (mx_si M 0 0 (0 : Int32))).bind fun q17 => if 0 ≤ q17 then (fX13_keep (mx_si M 0 0 (0 : Int32))).bind fun q26 => (fX13_wornBy i1 q26).bind fun q37 => if mx_in ((85 : Int32) + q37) 294 then some ((0 : Int32), (mx_si q26 2 ((85 : Int32) + q37).toNatClampNeg (0 : Int32))) else none else some ((1 : Int32), (mx_si M 0 0 (0 : Int32)))
/-- X13_find -/
def fX13_find (i1 : Int32) (i2 : Int32) (M : MM) : Option (Int32 × MM) := (fX13_isPerson i1 (mx_si M 0 0 (0 : Int32))).bind fun q7 => if (mx_b q7) = 0 then some ((-1 : Int32), (mx_si M 0 0 (0 : Int32))) else (fX13_isRing i2 (mx_si M 0 0 (0 : Int32))).bind fun q15 => if (mx_b q15) = 0 then some ((-1 : Int32), (mx_si M 0 0 (0 : Int32))) else (fX13_whyFind i1 i2 (mx_si M 0 0 (0 : Int32))).bind fun q26 => if q26 ≤ 0 then (fX13_keep (mx_si M 0 0 (0 : Int32))).bind fun q37 => (fX13_finds i1 i2 q37).bind fun q43 => some ((0 : Int32), q43) else some (q26, (mx_si M 0 0 (0 : Int32)))
/-- X13_days -/
def fX13_days (i1 : Int32) (M : MM) : Option (Int32 × MM) := (fX13_isIn i1 (1 : Int32) (60 : Int32) (mx_si M 0 0 (0 : Int32))).bind fun q9 => if (mx_b q9) = 0 then some ((-1 : Int32), (mx_si M 0 0 (0 : Int32))) else if ((mx_si M 0 0 (0 : Int32)).1 2 54) = (400 : Int32) then some ((0 : Int32), (mx_si M 0 0 (0 : Int32))) else (fX13_keep (mx_si M 0 0 (0 : Int32))).bind fun q33 => (fX13_goesOn i1 q33).bind fun q38 => some (q38.1, q38.2)
/-- X13_undo -/
def fX13_undo_26    : Nat → Int32 → MM → Option (Int32 × MM)
  | 0, _, _ => none
  | n + 1, i1, M => if (59 : Int32) ≤ i1 then some ((M.1 0 23), M) else if mx_in (((59 : Int32) * (M.1 0 23)) + i1) 472 then if mx_in ((54 : Int32) + i1) 294 then fX13_undo_26 n (i1 + (1 : Int32)) (mx_si M 2 ((54 : Int32) + i1).toNatClampNeg (M.1 7 (((59 : Int32) * (M.1 0 23)) + i1).toNatClampNeg)) else none else none
def fX13_undo  (M : MM) : Option (Int32 × MM) := if ((mx_si M 0 0 (0 : Int32)).1 0 23) = 0 then some ((-1 : Int32), (mx_si M 0 0 (0 : Int32))) else fX13_undo_26 mx_fu (0 : Int32) (mx_si (mx_si M 0 0 (0 : Int32)) 0 23 (((mx_si M 0 0 (0 : Int32)).1 0 23) - (1 : Int32)))
/-- X13_tries -/
def fX13_tries_2    : Nat → Int32 → MM → Option MM
  | 0, _, _ => none
  | n + 1, i1, M => if (59 : Int32) ≤ i1 then some M else if mx_in ((54 : Int32) + i1) 294 then if mx_in i1 59 then fX13_tries_2 n (i1 + (1 : Int32)) (mx_si M 8 i1.toNatClampNeg (M.1 2 ((54 : Int32) + i1).toNatClampNeg)) else none else none
def fX13_tries  (M : MM) : Option MM := fX13_tries_2 mx_fu (0 : Int32) M
/-- X13_back -/
def fX13_back_2    : Nat → Int32 → MM → Option MM
  | 0, _, _ => none
  | n + 1, i1, M => if (59 : Int32) ≤ i1 then some M else if mx_in i1 59 then if mx_in ((54 : Int32) + i1) 294 then fX13_back_2 n (i1 + (1 : Int32)) (mx_si M 2 ((54 : Int32) + i1).toNatClampNeg (M.1 8 i1.toNatClampNeg)) else none else none
def fX13_back  (M : MM) : Option MM := fX13_back_2 mx_fu (0 : Int32) M
/-- X13_daysFor -/
def fX13_daysFor (i1 : Int32) (i2 : Int32) (M : MM) : Option Int32 := if i2 = 0 then none else (fX13_greater (0 : Int32) ((((i1 + i2) - (1 : Int32)) / i2) - (1 : Int32)) M).bind fun q10 => some q10
/-- X13_reachOf -/
def fX13_reachOf (i1 : Int32) (M : MM) : Option Int32 := if mx_in ((33 : Int32) + i1) 294 then if mx_in ((85 : Int32) + i1) 294 then if (M.1 2 ((85 : Int32) + i1).toNatClampNeg) = (2 : Int32) then if mx_in ((99 : Int32) + i1) 294 then if mx_in ((106 : Int32) + i1) 294 then (fX13_farBy (M.1 2 ((33 : Int32) + i1).toNatClampNeg) (M.1 2 ((99 : Int32) + i1).toNatClampNeg) (M.1 2 ((106 : Int32) + i1).toNatClampNeg) M).bind fun q44 => (fX13_daysFor q44 (M.1 2 3) M).bind fun q53 => some q53 else none else none else if mx_in ((78 : Int32) + i1) 294 then (fX13_farOf (M.1 2 ((33 : Int32) + i1).toNatClampNeg) (M.1 2 ((78 : Int32) + i1).toNatClampNeg) M).bind fun q71 => (fX13_daysFor q71 ((2 : Int32) * (M.1 2 3)) M).bind fun q82 => some q82 else none else none else none
/-- X13_reach -/
def fX13_reach (i1 : Int32) (M : MM) : Option (Int32 × MM) := (fX13_isRing i1 (mx_si M 0 0 (0 : Int32))).bind fun q7 => if (mx_b q7) = 0 then some ((-1 : Int32), (mx_si M 0 0 (0 : Int32))) else (fX13_reachOf i1 (mx_si M 0 0 (0 : Int32))).bind fun q15 => some (q15, (mx_si M 0 0 (0 : Int32)))
/-- X13_inTime -/
def fX13_inTime_9    : Nat → Int32 → Int32 → MM → Option (Int32 × MM)
  | 0, _, _, _ => none
  | n + 1, i1, i2, M => if (M.1 2 1) ≤ i2 then some (i1, M) else if mx_in ((92 : Int32) + i2) 294 then if (M.1 2 ((92 : Int32) + i2).toNatClampNeg) = 0 then (fX13_reachOf i2 M).bind fun q41 => if mx_in ((47 : Int32) + i2) 294 then if (M.1 2 ((47 : Int32) + i2).toNatClampNeg) < ((M.1 2 54) + q41) then fX13_inTime_9 n (i1 ||| (0 : Int32)) (i2 + (1 : Int32)) M else fX13_inTime_9 n (i1 ||| ((1 : Int32) <<< (i2 &&& 31))) (i2 + (1 : Int32)) M else none else fX13_inTime_9 n (i1 ||| (0 : Int32)) (i2 + (1 : Int32)) M else none
def fX13_inTime  (M : MM) : Option (Int32 × MM) := fX13_inTime_9 mx_fu (0 : Int32) (0 : Int32) (mx_si M 0 0 (0 : Int32))
/-- X13_reorders -/
def fX13_reorders_100 (i1 : Int32)   : Nat → Int32 → Int32 → MM → Option (Bool × MM)
  | 0, _, _, _ => none
  | n + 1, i5, i6, M => if i6 ≤ i5 then some (true, M) else if mx_in i5 7 then if mx_in i6 7 then if mx_in i5 7 then if mx_in i6 7 then fX13_reorders_100 i1 n (i5 + (1 : Int32)) (i6 + (-1 : Int32)) (mx_si (mx_si M 9 i5.toNatClampNeg (M.1 9 i6.toNatClampNeg)) 9 i6.toNatClampNeg (M.1 9 i5.toNatClampNeg)) else none else none else none else none
def fX13_reorders_41 (i1 : Int32) (i2 : Int32)  : Nat → Int32 → MM → Option (Bool × MM)
  | 0, _, _ => none
  | n + 1, i3, M => if mx_in i3 7 then if mx_in i2 7 then if (M.1 9 i2.toNatClampNeg) ≤ (M.1 9 i3.toNatClampNeg) then if mx_in i2 7 then if mx_in i3 7 then if mx_in i2 7 then if mx_in i3 7 then fX13_reorders_100 i1 mx_fu (i2 + (1 : Int32)) (i1 - (1 : Int32)) (mx_si (mx_si M 9 i2.toNatClampNeg (M.1 9 i3.toNatClampNeg)) 9 i3.toNatClampNeg (M.1 9 i2.toNatClampNeg)) else none else none else none else none else fX13_reorders_41 i1 i2 n (i3 + (-1 : Int32)) M else none else none
def fX13_reorders_31 (i1 : Int32)   (i2 : Int32) (M : MM) : Option (Bool × MM) := if 0 ≤ i2 then fX13_reorders_41 i1 i2 mx_fu (i1 - (1 : Int32)) M else some (false, M)
def fX13_reorders_4 (i1 : Int32)   : Nat → Int32 → MM → Option (Bool × MM)
  | 0, _, _ => none
  | n + 1, i2, M => if i2 < 0 then fX13_reorders_31 i1 i2 M else if mx_in i2 7 then if mx_in (i2 + (1 : Int32)) 7 then if (M.1 9 i2.toNatClampNeg) ≤ (M.1 9 (i2 + (1 : Int32)).toNatClampNeg) then fX13_reorders_31 i1 i2 M else fX13_reorders_4 i1 n (i2 + (-1 : Int32)) M else none else none
def fX13_reorders (i1 : Int32) (M : MM) : Option (Bool × MM) := fX13_reorders_4 i1 mx_fu (i1 - (2 : Int32)) M
/-- X13_tour -/
def fX13_tour_225 (i1 : Int32) (i3 : Int32) (k128 : Int32 → Bool → MM → Option (Int32 × MM)) (i4 : Int32) (M : MM) : Option (Int32 × MM) := (fX13_reorders i3 M).bind fun q227 => k128 i4 q227.1 q227.2
def fX13_tour_199 (i1 : Int32) (i3 : Int32) (i4 : Int32) (k225 : Int32 → MM → Option (Int32 × MM)) : Nat → Int32 → MM → Option (Int32 × MM)
  | 0, _, _ => none
  | n + 1, i7, M => if i3 ≤ i7 then k225 i4 M else if mx_in i7 7 then if mx_in i7 7 then fX13_tour_199 i1 i3 i4 k225 n (i7 + (1 : Int32)) (mx_si M 10 i7.toNatClampNeg (M.1 9 i7.toNatClampNeg)) else none else none
def fX13_tour_166 (i1 : Int32) (i3 : Int32) (k139 : Int32 → Int32 → Int32 → MM → Option (Int32 × MM)) (i4 : Int32) (i7 : Int32) (is0 : Int32) (is2 : Int32) (M : MM) : Option (Int32 × MM) := if mx_in i7 7 then (fX13_farOf is2 (M.1 9 i7.toNatClampNeg) M).bind fun q173 => k139 i4 (is0 + q173) (i7 + (1 : Int32)) M else none
def fX13_tour_139 (i1 : Int32) (i3 : Int32) (k128 : Int32 → Bool → MM → Option (Int32 × MM)) : Nat → Int32 → Int32 → Int32 → MM → Option (Int32 × MM)
  | 0, _, _, _, _ => none
  | n + 1, i4, i6, i7, M => if i3 ≤ i7 then if i4 ≤ i6 then fX13_tour_225 i1 i3 k128 i4 M else fX13_tour_199 i1 i3 i6 (fun i4' M' => fX13_tour_225 i1 i3 k128 i4' M') mx_fu (0 : Int32) M else if i7 = 0 then fX13_tour_166 i1 i3 (fX13_tour_139 i1 i3 k128 n) i4 i7 i6 i1 M else if mx_in (i7 - (1 : Int32)) 7 then fX13_tour_166 i1 i3 (fX13_tour_139 i1 i3 k128 n) i4 i7 i6 (M.1 9 (i7 - (1 : Int32)).toNatClampNeg) M else none
def fX13_tour_128 (i1 : Int32) (i3 : Int32)  : Nat → Int32 → Bool → MM → Option (Int32 × MM)
  | 0, _, _, _ => none
  | n + 1, i4, b5, M => if (mx_b b5) = 0 then some (i4, (mx_si M 0 26 i3)) else fX13_tour_139 i1 i3 (fX13_tour_128 i1 i3 n) mx_fu i4 (0 : Int32) (0 : Int32) M
def fX13_tour_80 (i1 : Int32) (i2 : Int32)  : Nat → Int32 → Int32 → MM → Option (Int32 × MM)
  | 0, _, _, _ => none
  | n + 1, i3, i4, M => if (M.1 2 0) ≤ i4 then fX13_tour_128 i1 i3 mx_fu (1000000 : Int32) true M else (fX13_bitOf i2 i4 M).bind fun q94 => if (mx_b q94) = 0 then fX13_tour_80 i1 i2 n i3 (i4 + (1 : Int32)) M else if mx_in i3 7 then fX13_tour_80 i1 i2 n (i3 + (1 : Int32)) (i4 + (1 : Int32)) (mx_si M 9 i3.toNatClampNeg i4) else none
def fX13_tour_19 (i1 : Int32)   : Nat → Int32 → Int32 → MM → Option (Int32 × MM)
  | 0, _, _, _ => none
  | n + 1, i2, i3, M => if (M.1 2 1) ≤ i3 then fX13_tour_80 i1 i2 mx_fu (0 : Int32) (0 : Int32) M else (fX13_keeps i1 i3 M).bind fun q33 => if (mx_b q33) = 0 then fX13_tour_19 i1 n (i2 ||| (0 : Int32)) (i3 + (1 : Int32)) M else if mx_in ((33 : Int32) + i3) 294 then if (M.1 2 ((33 : Int32) + i3).toNatClampNeg) = i1 then fX13_tour_19 i1 n (i2 ||| (0 : Int32)) (i3 + (1 : Int32)) M else if mx_in ((33 : Int32) + i3) 294 then fX13_tour_19 i1 n (i2 ||| ((1 : Int32) <<< ((M.1 2 ((33 : Int32) + i3).toNatClampNeg) &&& 31))) (i3 + (1 : Int32)) M else none else none
def fX13_tour (i1 : Int32) (M : MM) : Option (Int32 × MM) := (fX13_isPerson i1 (mx_si M 0 0 (0 : Int32))).bind fun q7 => if (mx_b q7) = 0 then some ((-1 : Int32), (mx_si M 0 0 (0 : Int32))) else fX13_tour_19 i1 mx_fu (0 : Int32) (0 : Int32) (mx_si M 0 0 (0 : Int32))
/-- X13_tourAt -/
def fX13_tourAt (i1 : Int32) (M : MM) : Option (Int32 × MM) := (fX13_isIn i1 (0 : Int32) (((mx_si M 0 0 (0 : Int32)).1 0 26) - (1 : Int32)) (mx_si M 0 0 (0 : Int32))).bind fun q13 => if (mx_b q13) = 0 then some ((-1 : Int32), (mx_si M 0 0 (0 : Int32))) else if mx_in i1 7 then some (((mx_si M 0 0 (0 : Int32)).1 10 i1.toNatClampNeg), (mx_si M 0 0 (0 : Int32))) else none
/-- X13_restBy -/
def fX13_restBy (i1 : Int32) (i2 : Int32) (i3 : Int32) (M : MM) : Option Int32 := if mx_in ((33 : Int32) + i1) 294 then (fX13_farOf i3 (M.1 2 ((33 : Int32) + i1).toNatClampNeg) M).bind fun q11 => if mx_in (((128 : Int32) * (i1 + (1 : Int32))) + (i2 ||| ((1 : Int32) <<< (i3 &&& 31)))) 1024 then some (q11 + (M.1 11 (((128 : Int32) * (i1 + (1 : Int32))) + (i2 ||| ((1 : Int32) <<< (i3 &&& 31)))).toNatClampNeg)) else none else none
/-- X13_canKeep -/
def fX13_canKeep (i1 : Int32) (i2 : Int32) (i3 : Int32) (M : MM) : Option Bool := (fX13_bitOf i2 i3 M).bind fun q2 => if (mx_b q2) = 0 then if mx_in ((33 : Int32) + i1) 294 then if (M.1 2 ((33 : Int32) + i1).toNatClampNeg) = i3 then some false else some true else none else some false
/-- X13_keepers -/
def fX13_keepers_231  (i1 : Int32) (k200 : Int32 → Int32 → MM → Option (Int32 × MM)) : Nat → Int32 → Int32 → Int32 → MM → Option (Int32 × MM)
  | 0, _, _, _, _ => none
  | n + 1, i2, i3, i4, M => (fX13_canKeep i3 i2 i4 M).bind fun q236 => if (mx_b q236) = 0 then fX13_keepers_231 i1 k200 n i2 i3 (i4 + (1 : Int32)) M else (fX13_restBy i3 i2 i4 M).bind fun q247 => if mx_in (((128 : Int32) * i3) + i2) 1024 then if q247 = (M.1 11 (((128 : Int32) * i3) + i2).toNatClampNeg) then if mx_in i3 7 then k200 (i2 ||| ((1 : Int32) <<< (i4 &&& 31))) (i3 + (1 : Int32)) (mx_si M 12 i3.toNatClampNeg i4) else none else fX13_keepers_231 i1 k200 n i2 i3 (i4 + (1 : Int32)) M else none
def fX13_keepers_200  (i1 : Int32)  : Nat → Int32 → Int32 → MM → Option (Int32 × MM)
  | 0, _, _, _ => none
  | n + 1, i2, i3, M => if i1 ≤ i3 then some ((M.1 11 0), M) else if mx_in i3 7 then if mx_in ((85 : Int32) + i3) 294 then if ((mx_si M 12 i3.toNatClampNeg (-1 : Int32)).1 2 ((85 : Int32) + i3).toNatClampNeg) = (2 : Int32) then fX13_keepers_200 i1 n i2 (i3 + (1 : Int32)) (mx_si M 12 i3.toNatClampNeg (-1 : Int32)) else fX13_keepers_231 i1 (fX13_keepers_200 i1 n) mx_fu i2 i3 (0 : Int32) (mx_si M 12 i3.toNatClampNeg (-1 : Int32)) else none else none
def fX13_keepers_95  (i1 : Int32) (i2 : Int32) (k50 : Int32 → Int32 → MM → Option (Int32 × MM)) : Nat → Int32 → Int32 → Int32 → MM → Option (Int32 × MM)
  | 0, _, _, _, _ => none
  | n + 1, i3, i4, i5, M => if (M.1 2 0) ≤ i5 then if mx_in (((128 : Int32) * i2) + i3) 1024 then k50 i2 (i3 + (1 : Int32)) (mx_si M 11 (((128 : Int32) * i2) + i3).toNatClampNeg i4) else none else if mx_in ((85 : Int32) + i2) 294 then if (M.1 2 ((85 : Int32) + i2).toNatClampNeg) = (2 : Int32) then fX13_keepers_95 i1 i2 k50 n i3 i4 (i5 + (1 : Int32)) M else (fX13_canKeep i2 i3 i5 M).bind fun q124 => if (mx_b q124) = 0 then fX13_keepers_95 i1 i2 k50 n i3 i4 (i5 + (1 : Int32)) M else (fX13_restBy i2 i3 i5 M).bind fun q137 => (fX13_lesser i4 q137 M).bind fun q140 => fX13_keepers_95 i1 i2 k50 n i3 q140 (i5 + (1 : Int32)) M else none
def fX13_keepers_50  (i1 : Int32) (k44 : Int32 → MM → Option (Int32 × MM)) : Nat → Int32 → Int32 → MM → Option (Int32 × MM)
  | 0, _, _, _ => none
  | n + 1, i2, i3, M => if (128 : Int32) ≤ i3 then k44 (i2 + (-1 : Int32)) M else if mx_in ((85 : Int32) + i2) 294 then if (M.1 2 ((85 : Int32) + i2).toNatClampNeg) = (2 : Int32) then if mx_in (((128 : Int32) * (i2 + (1 : Int32))) + i3) 1024 then fX13_keepers_95 i1 i2 (fX13_keepers_50 i1 k44 n) mx_fu i3 (M.1 11 (((128 : Int32) * (i2 + (1 : Int32))) + i3).toNatClampNeg) (0 : Int32) M else none else fX13_keepers_95 i1 i2 (fX13_keepers_50 i1 k44 n) mx_fu i3 (1000000 : Int32) (0 : Int32) M else none
def fX13_keepers_44  (i1 : Int32)  : Nat → Int32 → MM → Option (Int32 × MM)
  | 0, _, _ => none
  | n + 1, i2, M => if i2 < 0 then if (M.1 11 0) < (1000000 : Int32) then fX13_keepers_200 i1 mx_fu (0 : Int32) (0 : Int32) (mx_si M 0 29 i1) else some ((-1 : Int32), M) else fX13_keepers_50 i1 (fX13_keepers_44 i1 n) mx_fu i2 (0 : Int32) M
def fX13_keepers_14  (i1 : Int32)  : Nat → Int32 → MM → Option (Int32 × MM)
  | 0, _, _ => none
  | n + 1, i2, M => if (128 : Int32) ≤ i2 then fX13_keepers_44 i1 mx_fu (i1 - (1 : Int32)) M else if mx_in (((128 : Int32) * i1) + i2) 1024 then fX13_keepers_14 i1 n (i2 + (1 : Int32)) (mx_si M 11 (((128 : Int32) * i1) + i2).toNatClampNeg (0 : Int32)) else none
def fX13_keepers  (M : MM) : Option (Int32 × MM) := fX13_keepers_14 ((mx_si M 0 0 (0 : Int32)).1 2 1) mx_fu (0 : Int32) (mx_si M 0 0 (0 : Int32))
/-- X13_keeperOf -/
def fX13_keeperOf (i1 : Int32) (M : MM) : Option (Int32 × MM) := (fX13_isIn i1 (0 : Int32) (((mx_si M 0 0 (0 : Int32)).1 0 29) - (1 : Int32)) (mx_si M 0 0 (0 : Int32))).bind fun q13 => if (mx_b q13) = 0 then some ((-1 : Int32), (mx_si M 0 0 (0 : Int32))) else if mx_in i1 7 then some (((mx_si M 0 0 (0 : Int32)).1 12 i1.toNatClampNeg), (mx_si M 0 0 (0 : Int32))) else none
/-- X13_isSize -/
def fX13_isSize_4 (i1 : Int32) (M : MM)   : Nat → Bool → Int32 → Option Bool
  | 0, _, _ => none
  | n + 1, b2, i3 => if (M.1 0 3) ≤ i3 then some b2 else if (mx_b b2) = 0 then fX13_isSize_4 i1 M n false (i3 + (2 : Int32)) else (fX13_octet i3 M).bind fun q20 => (fX13_feels i1 q20 M).bind fun q23 => (fX13_octet (i3 + (1 : Int32)) M).bind fun q30 => if q23 = q30 then fX13_isSize_4 i1 M n true (i3 + (2 : Int32)) else fX13_isSize_4 i1 M n false (i3 + (2 : Int32))
def fX13_isSize (i1 : Int32) (M : MM) : Option Bool := fX13_isSize_4 i1 M mx_fu true (0 : Int32)
/-- X13_leftBy -/
def fX13_leftBy_15 (i1 : Int32) (M : MM)  (k4 : Int32 → Int32 → Option Int32) : Nat → Int32 → Int32 → Int32 → Int32 → Option Int32
  | 0, _, _, _, _ => none
  | n + 1, i2, i3, i4, i5 => if (20 : Int32) < i5 then (fX13_greater i2 i4 M).bind fun q61 => k4 q61 (i3 + (1 : Int32)) else (fX13_isSize i5 M).bind fun q27 => if (mx_b q27) = 0 then fX13_leftBy_15 i1 M k4 n i2 i3 (i4 + (0 : Int32)) (i5 + (1 : Int32)) else (fX13_feels i5 i1 M).bind fun q37 => if q37 = i3 then fX13_leftBy_15 i1 M k4 n i2 i3 (i4 + (1 : Int32)) (i5 + (1 : Int32)) else fX13_leftBy_15 i1 M k4 n i2 i3 (i4 + (0 : Int32)) (i5 + (1 : Int32))
def fX13_leftBy_4 (i1 : Int32) (M : MM)   : Nat → Int32 → Int32 → Option Int32
  | 0, _, _ => none
  | n + 1, i2, i3 => if (3 : Int32) ≤ i3 then some i2 else fX13_leftBy_15 i1 M (fX13_leftBy_4 i1 M n) mx_fu i2 i3 (0 : Int32) (1 : Int32)
def fX13_leftBy (i1 : Int32) (M : MM) : Option Int32 := fX13_leftBy_4 i1 M mx_fu (0 : Int32) (0 : Int32)
/-- X13_sizes -/
def fX13_sizes_134  (i1 : Int32)  : Nat → Int32 → MM → Option (Int32 × MM)
  | 0, _, _ => none
  | n + 1, i3, M => if (M.1 2 0) ≤ i3 then some (i1, M) else (fX13_leftBy i3 M).bind fun q146 => (fX13_leftBy (M.1 0 31) M).bind fun q154 => if q154 ≤ q146 then fX13_sizes_134 i1 n (i3 + (1 : Int32)) M else fX13_sizes_134 i1 n (i3 + (1 : Int32)) (mx_si M 0 31 i3)
def fX13_sizes_85    : Nat → Int32 → Int32 → Int32 → MM → Option (Int32 × MM)
  | 0, _, _, _, _ => none
  | n + 1, i1, i2, i3, M => if i3 ≤ 0 then if i1 = 0 then some ((0 : Int32), M) else fX13_sizes_134 i1 mx_fu (1 : Int32) (mx_si (mx_si (mx_si M 0 32 (1 : Int32)) 0 30 i2) 0 31 (0 : Int32)) else (fX13_isSize i3 M).bind fun q91 => if (mx_b q91) = 0 then fX13_sizes_85 n i1 i2 (i3 + (-1 : Int32)) M else fX13_sizes_85 n (i1 + (1 : Int32)) i3 (i3 + (-1 : Int32)) M
def fX13_sizes_39    : Nat → Int32 → MM → Option (Int32 × MM)
  | 0, _, _ => none
  | n + 1, i1, M => if (M.1 0 3) ≤ i1 then fX13_sizes_85 mx_fu (0 : Int32) (0 : Int32) (20 : Int32) M else (fX13_octet i1 M).bind fun q50 => (fX13_isPerson q50 M).bind fun q53 => if (mx_b q53) = 0 then some ((-1 : Int32), M) else (fX13_octet (i1 + (1 : Int32)) M).bind fun q63 => if q63 ≤ (2 : Int32) then fX13_sizes_39 n (i1 + (2 : Int32)) M else some ((-1 : Int32), M)
def fX13_sizes  (M : MM) : Option (Int32 × MM) := (fX13_taken (940 : Int32) (mx_si M 0 0 (0 : Int32))).bind fun q9 => (fX13_isIn (q9.1 0 3) (2 : Int32) (16 : Int32) q9).bind fun q19 => if (mx_b q19) = 0 then some ((-1 : Int32), q9) else if ((q9.1 0 3) - (q9.1 0 3) / (2 : Int32) * (2 : Int32)) = (1 : Int32) then some ((-1 : Int32), q9) else fX13_sizes_39 mx_fu (0 : Int32) q9
/-- X13_sizeLeast -/
def fX13_sizeLeast  (M : MM) : Option (Int32 × MM) := if ((mx_si M 0 0 (0 : Int32)).1 0 32) = 0 then some ((-1 : Int32), (mx_si M 0 0 (0 : Int32))) else some (((mx_si M 0 0 (0 : Int32)).1 0 30), (mx_si M 0 0 (0 : Int32)))
/-- X13_knuckle -/
def fX13_knuckle  (M : MM) : Option (Int32 × MM) := if ((mx_si M 0 0 (0 : Int32)).1 0 32) = 0 then some ((-1 : Int32), (mx_si M 0 0 (0 : Int32))) else some (((mx_si M 0 0 (0 : Int32)).1 0 31), (mx_si M 0 0 (0 : Int32)))
/-- X13_laysWays -/
def fX13_laysWays_178  (i2 : Int32) (k168 : Int32 → Int32 → MM → Option MM) : Nat → Int32 → Int32 → MM → Option MM
  | 0, _, _, _ => none
  | n + 1, i3, i4, M => if (M.1 2 0) ≤ i4 then k168 i2 (i3 + (1 : Int32)) M else (fX13_bitOf i3 i4 M).bind fun q192 => if (mx_b q192) = 0 then (fX13_isFit i2 i4 M).bind fun q202 => if (mx_b q202) = 0 then fX13_laysWays_178 i2 k168 n i3 (i4 + (1 : Int32)) M else if mx_in (((128 : Int32) * i2) + i3) 1024 then if mx_in (((128 : Int32) * (i2 + (1 : Int32))) + (i3 ||| ((1 : Int32) <<< (i4 &&& 31)))) 1024 then if mx_in (((128 : Int32) * i2) + i3) 1024 then fX13_laysWays_178 i2 k168 n i3 (i4 + (1 : Int32)) (mx_si M 14 (((128 : Int32) * i2) + i3).toNatClampNeg ((M.1 14 (((128 : Int32) * i2) + i3).toNatClampNeg) + (M.1 14 (((128 : Int32) * (i2 + (1 : Int32))) + (i3 ||| ((1 : Int32) <<< (i4 &&& 31)))).toNatClampNeg))) else none else none else none else fX13_laysWays_178 i2 k168 n i3 (i4 + (1 : Int32)) M
def fX13_laysWays_168   (k162 : Int32 → MM → Option MM) : Nat → Int32 → Int32 → MM → Option MM
  | 0, _, _, _ => none
  | n + 1, i2, i3, M => if (128 : Int32) ≤ i3 then k162 (i2 + (-1 : Int32)) M else fX13_laysWays_178 i2 (fX13_laysWays_168 k162 n) mx_fu i3 (0 : Int32) M
def fX13_laysWays_162    : Nat → Int32 → MM → Option MM
  | 0, _, _ => none
  | n + 1, i2, M => if i2 < 0 then some M else fX13_laysWays_168 (fX13_laysWays_162 n) mx_fu i2 (0 : Int32) M
def fX13_laysWays_76  (i1 : Int32) (i2 : Int32) (k66 : Int32 → Int32 → MM → Option MM) : Nat → Int32 → Int32 → MM → Option MM
  | 0, _, _, _ => none
  | n + 1, i3, i4, M => if (M.1 2 0) ≤ i4 then k66 i2 (i3 + (1 : Int32)) M else (fX13_bitOf i3 i4 M).bind fun q90 => if (mx_b q90) = 0 then (fX13_isFit i2 i4 M).bind fun q100 => if (mx_b q100) = 0 then fX13_laysWays_76 i1 i2 k66 n i3 (i4 + (1 : Int32)) M else if mx_in (((128 : Int32) * (i2 + (1 : Int32))) + (i3 ||| ((1 : Int32) <<< (i4 &&& 31)))) 1024 then if mx_in (((128 : Int32) * i2) + i3) 1024 then if mx_in (((128 : Int32) * (i2 + (1 : Int32))) + (i3 ||| ((1 : Int32) <<< (i4 &&& 31)))) 1024 then fX13_laysWays_76 i1 i2 k66 n i3 (i4 + (1 : Int32)) (mx_si M 13 (((128 : Int32) * (i2 + (1 : Int32))) + (i3 ||| ((1 : Int32) <<< (i4 &&& 31)))).toNatClampNeg ((M.1 13 (((128 : Int32) * (i2 + (1 : Int32))) + (i3 ||| ((1 : Int32) <<< (i4 &&& 31)))).toNatClampNeg) + (M.1 13 (((128 : Int32) * i2) + i3).toNatClampNeg))) else none else none else none else fX13_laysWays_76 i1 i2 k66 n i3 (i4 + (1 : Int32)) M
def fX13_laysWays_66  (i1 : Int32) (k59 : Int32 → MM → Option MM) : Nat → Int32 → Int32 → MM → Option MM
  | 0, _, _, _ => none
  | n + 1, i2, i3, M => if (128 : Int32) ≤ i3 then k59 (i2 + (1 : Int32)) M else fX13_laysWays_76 i1 i2 (fX13_laysWays_66 i1 k59 n) mx_fu i3 (0 : Int32) M
def fX13_laysWays_59  (i1 : Int32)  : Nat → Int32 → MM → Option MM
  | 0, _, _ => none
  | n + 1, i2, M => if i1 ≤ i2 then fX13_laysWays_162 mx_fu (i1 - (1 : Int32)) M else fX13_laysWays_66 i1 (fX13_laysWays_59 i1 n) mx_fu i2 (0 : Int32) M
def fX13_laysWays_50  (i1 : Int32) (k9 : Int32 → MM → Option MM) (i2 : Int32) (is1 : Int32) (bs2 : Bool) (M : MM) : Option MM := if mx_in is1 1024 then k9 (i2 + (1 : Int32)) (mx_si M 14 is1.toNatClampNeg (mx_b bs2)) else none
def fX13_laysWays_30  (i1 : Int32) (k9 : Int32 → MM → Option MM) (i2 : Int32) (is1 : Int32) (bs2 : Bool) (M : MM) : Option MM := if mx_in is1 1024 then if (i2 / (128 : Int32)) = i1 then fX13_laysWays_50 i1 k9 i2 i2 true (mx_si M 13 is1.toNatClampNeg (mx_b bs2)) else fX13_laysWays_50 i1 k9 i2 i2 false (mx_si M 13 is1.toNatClampNeg (mx_b bs2)) else none
def fX13_laysWays_9  (i1 : Int32)  : Nat → Int32 → MM → Option MM
  | 0, _, _ => none
  | n + 1, i2, M => if (1024 : Int32) ≤ i2 then fX13_laysWays_59 i1 mx_fu (0 : Int32) M else if i2 = 0 then fX13_laysWays_30 i1 (fX13_laysWays_9 i1 n) i2 i2 true M else fX13_laysWays_30 i1 (fX13_laysWays_9 i1 n) i2 i2 false M
def fX13_laysWays  (M : MM) : Option MM := fX13_laysWays_9 (M.1 2 1) mx_fu (0 : Int32) M
/-- X13_ways -/
def fX13_ways  (M : MM) : Option (Int32 × MM) := (fX13_laysWays (mx_si M 0 0 (0 : Int32))).bind fun q6 => some ((q6.1 14 0), q6)
/-- X13_waysBy -/
def fX13_waysBy_5 (i1 : Int32) (i2 : Int32) (M : MM)   : Nat → Int32 → Int32 → Option Int32
  | 0, _, _ => none
  | n + 1, i3, i4 => if (128 : Int32) ≤ i4 then some i3 else (fX13_bitOf i4 i2 M).bind fun q16 => if (mx_b q16) = 0 then (fX13_isFit i1 i2 M).bind fun q25 => if (mx_b q25) = 0 then fX13_waysBy_5 i1 i2 M n i3 (i4 + (1 : Int32)) else if mx_in (((128 : Int32) * i1) + i4) 1024 then if mx_in (((128 : Int32) * (i1 + (1 : Int32))) + (i4 ||| ((1 : Int32) <<< (i2 &&& 31)))) 1024 then fX13_waysBy_5 i1 i2 M n (i3 + ((M.1 13 (((128 : Int32) * i1) + i4).toNatClampNeg) * (M.1 14 (((128 : Int32) * (i1 + (1 : Int32))) + (i4 ||| ((1 : Int32) <<< (i2 &&& 31)))).toNatClampNeg))) (i4 + (1 : Int32)) else none else none else fX13_waysBy_5 i1 i2 M n i3 (i4 + (1 : Int32))
def fX13_waysBy (i1 : Int32) (i2 : Int32) (M : MM) : Option Int32 := fX13_waysBy_5 i1 i2 M mx_fu (0 : Int32) (0 : Int32)
/-- X13_likely -/
def fX13_likely_26 (i1 : Int32)   : Nat → Int32 → Int32 → Int32 → MM → Option (Int32 × MM)
  | 0, _, _, _, _ => none
  | n + 1, i2, i3, i4, M => if (M.1 2 0) ≤ i4 then some (i2, M) else (fX13_waysBy i1 i4 M).bind fun q41 => if i3 < q41 then fX13_likely_26 i1 n i4 q41 (i4 + (1 : Int32)) M else fX13_likely_26 i1 n i2 i3 (i4 + (1 : Int32)) M
def fX13_likely (i1 : Int32) (M : MM) : Option (Int32 × MM) := (fX13_isRing i1 (mx_si M 0 0 (0 : Int32))).bind fun q7 => if (mx_b q7) = 0 then some ((-1 : Int32), (mx_si M 0 0 (0 : Int32))) else (fX13_laysWays (mx_si M 0 0 (0 : Int32))).bind fun q16 => fX13_likely_26 i1 mx_fu (-1 : Int32) (0 : Int32) (0 : Int32) q16
/-- X13_keeperBy -/
def fX13_keeperBy_2 (i1 : Int32) (M : MM)   : Nat → Int32 → Option Int32
  | 0, _ => none
  | n + 1, i2 => if (M.1 2 1) ≤ i2 then some (-1 : Int32) else if mx_in ((33 : Int32) + i2) 294 then if (M.1 2 ((33 : Int32) + i2).toNatClampNeg) = i1 then if mx_in ((85 : Int32) + i2) 294 then if (M.1 2 ((85 : Int32) + i2).toNatClampNeg) = (2 : Int32) then fX13_keeperBy_2 i1 M n (i2 + (1 : Int32)) else if mx_in ((78 : Int32) + i2) 294 then some (M.1 2 ((78 : Int32) + i2).toNatClampNeg) else none else none else fX13_keeperBy_2 i1 M n (i2 + (1 : Int32)) else none
def fX13_keeperBy (i1 : Int32) (M : MM) : Option Int32 := fX13_keeperBy_2 i1 M mx_fu (0 : Int32)
/-- X13_chainOf -/
def fX13_chainOf_31 (i1 : Int32)   (i2 : Int32) (i3 : Int32) (M : MM) : Option (Int32 × MM) := (fX13_bits i2 (mx_si M 0 35 i3)).bind fun q37 => some (q37, (mx_si M 0 35 i3))
def fX13_chainOf_4 (i1 : Int32)   : Nat → Int32 → Int32 → MM → Option (Int32 × MM)
  | 0, _, _, _ => none
  | n + 1, i2, i3, M => if i3 < 0 then fX13_chainOf_31 i1 i2 i3 M else (fX13_bitOf i2 i3 M).bind fun q10 => if (mx_b q10) = 0 then (fX13_keeperBy i3 M).bind fun q24 => fX13_chainOf_4 i1 n (i2 ||| ((1 : Int32) <<< (i3 &&& 31))) q24 M else fX13_chainOf_31 i1 i2 i3 M
def fX13_chainOf (i1 : Int32) (M : MM) : Option (Int32 × MM) := fX13_chainOf_4 i1 mx_fu (0 : Int32) i1 M
/-- X13_chain -/
def fX13_chain (i1 : Int32) (M : MM) : Option (Int32 × MM) := (fX13_isPerson i1 (mx_si M 0 0 (0 : Int32))).bind fun q7 => if (mx_b q7) = 0 then some ((-1 : Int32), (mx_si M 0 0 (0 : Int32))) else (fX13_chainOf i1 (mx_si M 0 0 (0 : Int32))).bind fun q15 => some (q15.1, q15.2)
/-- X13_closed -/
def fX13_closed (i1 : Int32) (M : MM) : Option (Int32 × MM) := (fX13_isPerson i1 (mx_si M 0 0 (0 : Int32))).bind fun q7 => if (mx_b q7) = 0 then some ((-1 : Int32), (mx_si M 0 0 (0 : Int32))) else (fX13_chainOf i1 (mx_si M 0 0 (0 : Int32))).bind fun q17 => if (q17.2.1 0 35) = i1 then some ((1 : Int32), q17.2) else some ((0 : Int32), q17.2)
/-- X13_lays -/
def fX13_lays (i1 : Int32) (M : MM) : Option MM := if mx_in (M.1 0 37) 104 then some (mx_si (mx_si M 15 (M.1 0 37).toNatClampNeg i1.toInt8.toInt32.toInt8.toInt32) 0 37 (((mx_si M 15 (M.1 0 37).toNatClampNeg i1.toInt8.toInt32.toInt8.toInt32).1 0 37) + (1 : Int32))) else none
/-- X13_spells -/
def fX13_spells_3 (l1 : Int64)   : Nat → Int32 → MM → Option MM
  | 0, _, _ => none
  | n + 1, i3, M => if i3 < 0 then some M else if (lg_cmp ((l1 >>> (i3.toInt64 &&& 63)) &&& (255 : Int64)) (0 : Int64)) = 0 then fX13_spells_3 l1 n (i3 + (-8 : Int32)) M else (fX13_lays (((l1 >>> (i3.toInt64 &&& 63)) &&& (255 : Int64)).toInt32) M).bind fun q28 => fX13_spells_3 l1 n (i3 + (-8 : Int32)) q28
def fX13_spells (l1 : Int64) (M : MM) : Option MM := fX13_spells_3 l1 mx_fu (56 : Int32) M
/-- X13_says -/
def fX13_says (l1 : Int64) (M : MM) : Option MM := (fX13_lays (32 : Int32) M).bind fun q3 => (fX13_spells l1 q3).bind fun q8 => some q8
/-- X13_note -/
def fX13_note_73 (i1 : Int32) (i2 : Int32)  : Nat → Int32 → MM → Option (Int32 × MM)
  | 0, _, _ => none
  | n + 1, i3, M => if (M.1 2 1) ≤ i3 then (fX13_wornBy i1 M).bind fun q117 => if q117 < 0 then some ((M.1 0 37), M) else (fX13_says (512801993331 : Int64) M).bind fun q127 => (fX13_wornBy i1 q127).bind fun q139 => if mx_in ((7 : Int32) + q139) 28 then (fX13_says (q127.2.1 5 ((7 : Int32) + q139).toNatClampNeg) q127).bind fun q144 => some ((q144.1 0 37), q144) else none else (fX13_bitOf i2 i3 M).bind fun q85 => if (mx_b q85) = 0 then fX13_note_73 i1 i2 n (i3 + (1 : Int32)) M else if mx_in ((33 : Int32) + i3) 294 then if mx_in (M.1 2 ((33 : Int32) + i3).toNatClampNeg) 28 then (fX13_says (M.2.1 5 (M.1 2 ((33 : Int32) + i3).toNatClampNeg).toNatClampNeg) M).bind fun q106 => fX13_note_73 i1 i2 n (i3 + (1 : Int32)) q106 else none else none
def fX13_note (i1 : Int32) (M : MM) : Option (Int32 × MM) := (fX13_isPerson i1 (mx_si M 0 0 (0 : Int32))).bind fun q7 => if (mx_b q7) = 0 then some ((-1 : Int32), (mx_si M 0 0 (0 : Int32))) else (fX13_keptBy i1 (mx_si (mx_si M 0 0 (0 : Int32)) 0 37 (0 : Int32))).bind fun q22 => if mx_in i1 28 then (fX13_spells ((mx_si (mx_si M 0 0 (0 : Int32)) 0 37 (0 : Int32)).2.1 5 i1.toNatClampNeg) (mx_si (mx_si M 0 0 (0 : Int32)) 0 37 (0 : Int32))).bind fun q33 => (fX13_says (461262647411 : Int64) q33).bind fun q40 => (fX13_lays (32 : Int32) q40).bind fun q46 => (fX13_bits q22 q46).bind fun q53 => (fX13_lays ((48 : Int32) + q53) q46).bind fun q57 => if q22 = 0 then fX13_note_73 i1 q22 mx_fu (0 : Int32) q57 else (fX13_says (6713202 : Int64) q57).bind fun q68 => fX13_note_73 i1 q22 mx_fu (0 : Int32) q68 else none
/-- X13_byteAt -/
def fX13_byteAt (i1 : Int32) (M : MM) : Option (Int32 × MM) := (fX13_isIn i1 (0 : Int32) (((mx_si M 0 0 (0 : Int32)).1 0 37) - (1 : Int32)) (mx_si M 0 0 (0 : Int32))).bind fun q13 => if (mx_b q13) = 0 then some ((-1 : Int32), (mx_si M 0 0 (0 : Int32))) else if mx_in i1 104 then some (((mx_si M 0 0 (0 : Int32)).1 15 i1.toNatClampNeg), (mx_si M 0 0 (0 : Int32))) else none
/-- X13_draw -/
def fX13_draw (i1 : Int32) (M : MM) : Option (Int32 × MM) := if i1 = 0 then none else some (((mx_ushr ((mx_si M 0 38 (((M.1 0 38) * (1103515245 : Int32)) + (12345 : Int32))).1 0 38) (8 : Int32)) - (mx_ushr ((mx_si M 0 38 (((M.1 0 38) * (1103515245 : Int32)) + (12345 : Int32))).1 0 38) (8 : Int32)) / i1 * i1), (mx_si M 0 38 (((M.1 0 38) * (1103515245 : Int32)) + (12345 : Int32))))
/-- X13_drawPerson -/
def fX13_drawPerson_73 (i1 : Int32)   (i2 : Int32) (M : MM) : Option MM := (fX13_isIn i2 (2 : Int32) (3 : Int32) M).bind fun q76 => if (mx_b q76) = 0 then some M else if (M.1 2 1) = 0 then some M else (fX13_draw (M.1 2 1) M).bind fun q99 => if i2 = (3 : Int32) then (fX13_whyWear i1 q99.1 q99.2).bind fun q111 => if q111 = 0 then if mx_in ((85 : Int32) + q99.1) 294 then some (mx_si q99.2 2 ((85 : Int32) + q99.1).toNatClampNeg (1 : Int32)) else none else some q99.2 else (fX13_draw (q99.2.1 2 0) q99.2).bind fun q135 => (fX13_whyHand i1 q99.1 q135.1 q135.2).bind fun q145 => if q145 = 0 then (fX13_hands q99.1 q135.1 q135.2).bind fun q155 => some q155 else some q135.2
def fX13_drawPerson_46 (i1 : Int32)   (i2 : Int32) (M : MM) : Option MM := if i2 = (4 : Int32) then (fX13_wornBy i1 M).bind fun q53 => if q53 < 0 then fX13_drawPerson_73 i1 i2 M else (fX13_wornBy i1 M).bind fun q67 => if mx_in ((85 : Int32) + q67) 294 then fX13_drawPerson_73 i1 i2 (mx_si M 2 ((85 : Int32) + q67).toNatClampNeg (0 : Int32)) else none else fX13_drawPerson_73 i1 i2 M
def fX13_drawPerson (i1 : Int32) (M : MM) : Option MM := (fX13_draw (6 : Int32) M).bind fun q3 => if (2 : Int32) ≤ q3.1 then fX13_drawPerson_46 i1 q3.1 q3.2 else (fX13_draw (21 : Int32) q3.2).bind fun q15 => (fX13_draw (21 : Int32) q15.2).bind fun q22 => (fX13_whyGo i1 q15.1 q22.1 q22.2).bind fun q32 => if q32 = 0 then (fX13_goes i1 q15.1 q22.1 q22.2).bind fun q43 => fX13_drawPerson_46 i1 q3.1 q43 else fX13_drawPerson_46 i1 q3.1 q22.2
/-- X13_draws -/
def fX13_draws_28 (i1 : Int32) (i2 : Int32)  (k7 : Int32 → MM → Option (Int32 × MM)) : Nat → Int32 → Int32 → MM → Option (Int32 × MM)
  | 0, _, _, _ => none
  | n + 1, i3, i4, M => if (M.1 2 0) ≤ i4 then (fX13_day M).bind fun q52 => k7 (i3 + (1 : Int32)) q52 else (fX13_drawPerson i4 M).bind fun q42 => fX13_draws_28 i1 i2 k7 n i3 (i4 + (1 : Int32)) q42
def fX13_draws_7 (i1 : Int32) (i2 : Int32)   : Nat → Int32 → MM → Option (Int32 × MM)
  | 0, _, _ => none
  | n + 1, i3, M => if i1 ≤ i3 then some (i3, M) else if (400 : Int32) ≤ (M.1 2 54) then some (i3, M) else fX13_draws_28 i1 i2 (fX13_draws_7 i1 i2 n) mx_fu i3 (0 : Int32) M
def fX13_draws (i1 : Int32) (i2 : Int32) (M : MM) : Option (Int32 × MM) := fX13_draws_7 i1 i2 mx_fu (0 : Int32) (mx_si M 0 38 i2)
/-- X13_drawn -/
def fX13_drawn_34 (i1 : Int32) (i2 : Int32)   (M : MM) : Option (Int32 × MM) := (fX13_draws i1 i2 M).bind fun q37 => some (q37.1, q37.2)
def fX13_drawn (i1 : Int32) (i2 : Int32) (M : MM) : Option (Int32 × MM) := (fX13_isIn i1 (1 : Int32) (60 : Int32) (mx_si M 0 0 (0 : Int32))).bind fun q9 => if (mx_b q9) = 0 then some ((-1 : Int32), (mx_si M 0 0 (0 : Int32))) else if (400 : Int32) ≤ ((mx_si M 0 0 (0 : Int32)).1 2 54) then fX13_drawn_34 i1 i2 (mx_si M 0 0 (0 : Int32)) else (fX13_keep (mx_si M 0 0 (0 : Int32))).bind fun q31 => fX13_drawn_34 i1 i2 q31
/-- X13_odds -/
def fX13_odds_76 (i1 : Int32) (i2 : Int32) (i3 : Int32)  (k35 : Int32 → Int32 → MM → Option (Int32 × MM)) (i5 : Int32) (is0 : Int32) (bs1 : Bool) (M : MM) : Option (Int32 × MM) := (fX13_back M).bind fun q80 => k35 (is0 + (mx_b bs1)) (i5 + (1 : Int32)) q80
def fX13_odds_35 (i1 : Int32) (i2 : Int32) (i3 : Int32)   : Nat → Int32 → Int32 → MM → Option (Int32 × MM)
  | 0, _, _, _ => none
  | n + 1, i4, i5, M => if i2 ≤ i5 then some (i4, M) else (fX13_draws (20 : Int32) (i3 + i5) M).bind fun q48 => if mx_in ((33 : Int32) + i1) 294 then (fX13_has (q48.2.1 2 ((33 : Int32) + i1).toNatClampNeg) i1 q48.2).bind fun q65 => if (mx_b q65) = 0 then fX13_odds_76 i1 i2 i3 (fX13_odds_35 i1 i2 i3 n) i5 i4 false q48.2 else fX13_odds_76 i1 i2 i3 (fX13_odds_35 i1 i2 i3 n) i5 i4 true q48.2 else none
def fX13_odds (i1 : Int32) (i2 : Int32) (i3 : Int32) (M : MM) : Option (Int32 × MM) := (fX13_isRing i1 (mx_si M 0 0 (0 : Int32))).bind fun q7 => if (mx_b q7) = 0 then some ((-1 : Int32), (mx_si M 0 0 (0 : Int32))) else (fX13_isIn i2 (1 : Int32) (30 : Int32) (mx_si M 0 0 (0 : Int32))).bind fun q17 => if (mx_b q17) = 0 then some ((-1 : Int32), (mx_si M 0 0 (0 : Int32))) else (fX13_tries (mx_si M 0 0 (0 : Int32))).bind fun q26 => fX13_odds_35 i1 i2 i3 mx_fu (0 : Int32) (0 : Int32) q26
/-- X13_bookLine -/
def fX13_bookLine_291    (i1 : Int32) (bs0 : Bool) (M : MM) : Option (Bool × MM) := if mx_in (i1 + (3 : Int32)) 160 then some (bs0, (mx_si M 4 (i1 + (3 : Int32)).toNatClampNeg (M.1 0 18))) else none
def fX13_bookLine_236    (i1 : Int32) (i4 : Int32) (bs0 : Bool) (M : MM) : Option (Bool × MM) := if (mx_b bs0) = 0 then some (false, M) else if mx_in (i1 + (2 : Int32)) 160 then if i4 ≤ (1 : Int32) then if i4 = 0 then (fX13_takes (0 : Int32) (20 : Int32) (mx_si M 4 (i1 + (2 : Int32)).toNatClampNeg (M.1 0 18))).bind fun q274 => fX13_bookLine_291 i1 q274.1 q274.2 else (fX13_takesName (0 : Int32) ((mx_si M 4 (i1 + (2 : Int32)).toNatClampNeg (M.1 0 18)).1 2 0) (mx_si M 4 (i1 + (2 : Int32)).toNatClampNeg (M.1 0 18))).bind fun q288 => fX13_bookLine_291 i1 q288.1 q288.2 else some (true, (mx_si M 4 (i1 + (2 : Int32)).toNatClampNeg (M.1 0 18))) else none
def fX13_bookLine_167    (i1 : Int32) (i3 : Int32) (is0 : Int32) (M : MM) : Option (Bool × MM) := if 0 ≤ is0 then (fX13_next M).bind fun q181 => if mx_in i1 160 then if mx_in (i1 + (1 : Int32)) 160 then if is0 = (3 : Int32) then some (true, (mx_si (mx_si q181 4 i1.toNatClampNeg is0) 4 (i1 + (1 : Int32)).toNatClampNeg i3)) else if is0 = 0 then (fX13_takes (0 : Int32) (20 : Int32) (mx_si (mx_si q181 4 i1.toNatClampNeg is0) 4 (i1 + (1 : Int32)).toNatClampNeg i3)).bind fun q218 => fX13_bookLine_236 i1 is0 q218.1 q218.2 else (fX13_takesName (7 : Int32) ((mx_si (mx_si q181 4 i1.toNatClampNeg is0) 4 (i1 + (1 : Int32)).toNatClampNeg i3).1 2 1) (mx_si (mx_si q181 4 i1.toNatClampNeg is0) 4 (i1 + (1 : Int32)).toNatClampNeg i3)).bind fun q233 => fX13_bookLine_236 i1 is0 q233.1 q233.2 else none else none else (fX13_bad (1 : Int32) M).bind fun q176 => some (q176.1, q176.2)
def fX13_bookLine_35    (i1 : Int32) (b2 : Bool) (M : MM) : Option (Bool × MM) := if (M.1 0 39) = (40 : Int32) then (fX13_bad (4 : Int32) M).bind fun q46 => some (q46.1, q46.2) else (fX13_next M).bind fun q56 => if mx_in i1 160 then if (mx_b b2) = 0 then (fX13_isWord (1735353715 : Int64) (mx_si q56 4 i1.toNatClampNeg (5 : Int32))).bind fun q100 => if (mx_b q100) = 0 then (fX13_isWord (448311223411 : Int64) (mx_si q56 4 i1.toNatClampNeg (5 : Int32))).bind fun q114 => if (mx_b q114) = 0 then (fX13_isWord (512801993331 : Int64) (mx_si q56 4 i1.toNatClampNeg (5 : Int32))).bind fun q128 => if (mx_b q128) = 0 then (fX13_isWord (431365711475 : Int64) (mx_si q56 4 i1.toNatClampNeg (5 : Int32))).bind fun q142 => if (mx_b q142) = 0 then (fX13_isWord (439855506547 : Int64) (mx_si q56 4 i1.toNatClampNeg (5 : Int32))).bind fun q156 => if (mx_b q156) = 0 then fX13_bookLine_167 i1 (M.1 0 18) (-1 : Int32) (mx_si q56 4 i1.toNatClampNeg (5 : Int32)) else fX13_bookLine_167 i1 (M.1 0 18) (4 : Int32) (mx_si q56 4 i1.toNatClampNeg (5 : Int32)) else fX13_bookLine_167 i1 (M.1 0 18) (3 : Int32) (mx_si q56 4 i1.toNatClampNeg (5 : Int32)) else fX13_bookLine_167 i1 (M.1 0 18) (2 : Int32) (mx_si q56 4 i1.toNatClampNeg (5 : Int32)) else fX13_bookLine_167 i1 (M.1 0 18) (1 : Int32) (mx_si q56 4 i1.toNatClampNeg (5 : Int32)) else fX13_bookLine_167 i1 (M.1 0 18) (0 : Int32) (mx_si q56 4 i1.toNatClampNeg (5 : Int32)) else (fX13_takes (1 : Int32) (60 : Int32) (mx_si q56 4 i1.toNatClampNeg (5 : Int32))).bind fun q74 => if (mx_b q74.1) = 0 then some (false, q74.2) else if mx_in (i1 + (1 : Int32)) 160 then some (true, (mx_si q74.2 4 (i1 + (1 : Int32)).toNatClampNeg (q74.2.1 0 18))) else none else none
def fX13_bookLine  (M : MM) : Option (Bool × MM) := (fX13_isWord (6578553 : Int64) M).bind fun q11 => if (mx_b q11) = 0 then (fX13_looksAt (0 : Int32) (M.1 2 0) M).bind fun q27 => if (mx_b q27.1) = 0 then some (false, q27.2) else fX13_bookLine_35 ((4 : Int32) * (M.1 0 39)) q11 q27.2 else fX13_bookLine_35 ((4 : Int32) * (M.1 0 39)) q11 M
/-- X13_does -/
def fX13_does_200 (i1 : Int32) (i2 : Int32) (i3 : Int32) (i4 : Int32)   (i5 : Int32) (M : MM) : Option (Int32 × MM) := if i5 ≤ 0 then some ((0 : Int32), M) else some ((((10 : Int32) * i1) + i5), M)
def fX13_does_130 (i1 : Int32) (i2 : Int32) (i3 : Int32) (i4 : Int32)  (k200 : Int32 → MM → Option (Int32 × MM)) (bs0 : Bool) (M : MM) : Option (Int32 × MM) := if (mx_b bs0) = 0 then (fX13_wornBy i2 M).bind fun q145 => if mx_in ((85 : Int32) + q145) 294 then k200 (mx_b bs0) (mx_si M 2 ((85 : Int32) + q145).toNatClampNeg (0 : Int32)) else none else k200 (mx_b bs0) M
def fX13_does (i1 : Int32) (i2 : Int32) (i3 : Int32) (i4 : Int32) (M : MM) : Option (Int32 × MM) := if i1 = 0 then (fX13_whyGo i2 i3 i4 M).bind fun q45 => if q45 = 0 then (fX13_goes i2 i3 i4 M).bind fun q60 => fX13_does_200 i1 i2 i3 i4 q45 q60 else fX13_does_200 i1 i2 i3 i4 q45 M else if i1 = 1 then (fX13_whyHand i2 i3 i4 M).bind fun q71 => if q71 = 0 then (fX13_hands i3 i4 M).bind fun q85 => fX13_does_200 i1 i2 i3 i4 q71 q85 else fX13_does_200 i1 i2 i3 i4 q71 M else if i1 = 2 then (fX13_whyWear i2 i3 M).bind fun q94 => if q94 = 0 then if mx_in ((85 : Int32) + i3) 294 then fX13_does_200 i1 i2 i3 i4 q94 (mx_si M 2 ((85 : Int32) + i3).toNatClampNeg (1 : Int32)) else none else fX13_does_200 i1 i2 i3 i4 q94 M else if i1 = 3 then (fX13_wornBy i2 M).bind fun q119 => if 0 ≤ q119 then fX13_does_130 i1 i2 i3 i4 (fun i5' M' => fX13_does_200 i1 i2 i3 i4 i5' M') false M else fX13_does_130 i1 i2 i3 i4 (fun i5' M' => fX13_does_200 i1 i2 i3 i4 i5' M') true M else if i1 = 4 then (fX13_whyFind i2 i3 M).bind fun q157 => if q157 = 0 then (fX13_finds i2 i3 M).bind fun q170 => fX13_does_200 i1 i2 i3 i4 q157 q170 else fX13_does_200 i1 i2 i3 i4 q157 M else if ((M.1 2 54) + i2) ≤ (400 : Int32) then (fX13_goesOn i2 M).bind fun q196 => fX13_does_200 i1 i2 i3 i4 (0 : Int32) q196.2 else some ((51 : Int32), M)
/-- X13_book -/
def fX13_book_286 (i1 : Int32)   (i2 : Int32) (M : MM) : Option (Int32 × MM) := if i1 = 0 then (fX13_back M).bind fun q291 => some (i2, q291) else some (i2, M)
def fX13_book_252 (i1 : Int32) (i2 : Int32) (k286 : Int32 → MM → Option (Int32 × MM)) : Nat → Int32 → MM → Option (Int32 × MM)
  | 0, _, _ => none
  | n + 1, i3, M => if (59 : Int32) ≤ i3 then k286 i2 M else if mx_in i3 59 then if mx_in (((59 : Int32) * ((M.1 0 23) - (1 : Int32))) + i3) 472 then fX13_book_252 i1 i2 k286 n (i3 + (1 : Int32)) (mx_si M 7 (((59 : Int32) * ((M.1 0 23) - (1 : Int32))) + i3).toNatClampNeg (M.1 8 i3.toNatClampNeg)) else none else none
def fX13_book_201 (i1 : Int32)   (i2 : Int32) (M : MM) : Option (Int32 × MM) := (fX13_ringsBy (85 : Int32) (2 : Int32) (mx_si M 16 2 (M.1 2 54))).bind fun q223 => if i1 = (1 : Int32) then if ((mx_si (mx_si (mx_si M 16 2 (M.1 2 54)) 16 3 q223) 0 41 (1 : Int32)).1 16 1) ≤ 0 then fX13_book_286 i1 i2 (mx_si (mx_si (mx_si M 16 2 (M.1 2 54)) 16 3 q223) 0 41 (1 : Int32)) else (fX13_keep (mx_si (mx_si (mx_si M 16 2 (M.1 2 54)) 16 3 q223) 0 41 (1 : Int32))).bind fun q247 => fX13_book_252 i1 i2 (fun i2' M' => fX13_book_286 i1 i2' M') mx_fu (0 : Int32) q247 else fX13_book_286 i1 i2 (mx_si (mx_si (mx_si M 16 2 (M.1 2 54)) 16 3 q223) 0 41 (1 : Int32))
def fX13_book_111 (i1 : Int32)   : Nat → Int32 → Int32 → MM → Option (Int32 × MM)
  | 0, _, _, _ => none
  | n + 1, i2, i3, M => if (M.1 0 39) ≤ i3 then fX13_book_201 i1 i2 M else if 0 ≤ i2 then fX13_book_201 i1 i2 M else if mx_in ((4 : Int32) * i3) 160 then if mx_in (((4 : Int32) * i3) + (1 : Int32)) 160 then if mx_in (((4 : Int32) * i3) + (2 : Int32)) 160 then if mx_in (((4 : Int32) * i3) + (3 : Int32)) 160 then (fX13_does (M.1 4 ((4 : Int32) * i3).toNatClampNeg) (M.1 4 (((4 : Int32) * i3) + (1 : Int32)).toNatClampNeg) (M.1 4 (((4 : Int32) * i3) + (2 : Int32)).toNatClampNeg) (M.1 4 (((4 : Int32) * i3) + (3 : Int32)).toNatClampNeg) M).bind fun q167 => if ((mx_si q167.2 16 0 q167.1).1 16 0) ≤ 0 then fX13_book_111 i1 n i2 (i3 + (1 : Int32)) (mx_si (mx_si q167.2 16 0 q167.1) 16 1 (((mx_si q167.2 16 0 q167.1).1 16 1) + (1 : Int32))) else fX13_book_111 i1 n i3 (i3 + (1 : Int32)) (mx_si q167.2 16 0 q167.1) else none else none else none else none
def fX13_book_89 (i1 : Int32)   : Nat → Int32 → MM → Option (Int32 × MM)
  | 0, _, _ => none
  | n + 1, i2, M => if (4 : Int32) ≤ i2 then fX13_book_111 i1 mx_fu (-1 : Int32) (0 : Int32) M else if mx_in i2 4 then fX13_book_89 i1 n (i2 + (1 : Int32)) (mx_si M 16 i2.toNatClampNeg (0 : Int32)) else none
def fX13_book_39 (i1 : Int32)   : Nat → MM → Option (Int32 × MM)
  | 0, _ => none
  | n + 1, M => if (M.1 0 11) = 0 then (fX13_tries M).bind fun q84 => fX13_book_89 i1 mx_fu (0 : Int32) q84 else (fX13_bookLine M).bind fun q47 => if (mx_b q47.1) = 0 then some (((-2 : Int32) - (q47.2.1 0 16)), q47.2) else (fX13_sign (59 : Int32) q47.2).bind fun q56 => if (mx_b q56.1) = 0 then some (((-2 : Int32) - (q56.2.1 0 16)), q56.2) else fX13_book_39 i1 n (mx_si q56.2 0 39 ((q56.2.1 0 39) + (1 : Int32)))
def fX13_book (i1 : Int32) (M : MM) : Option (Int32 × MM) := (fX13_isIn i1 (0 : Int32) (1 : Int32) (mx_si M 0 0 (0 : Int32))).bind fun q8 => if (mx_b q8) = 0 then some ((-1000 : Int32), (mx_si M 0 0 (0 : Int32))) else (fX13_taken (400 : Int32) (mx_si M 0 0 (0 : Int32))).bind fun q22 => (fX13_next (mx_si (mx_si q22 0 15 (0 : Int32)) 0 39 (0 : Int32))).bind fun q36 => fX13_book_39 i1 mx_fu q36
/-- X13_told -/
def fX13_told (i1 : Int32) (M : MM) : Option (Int32 × MM) := if ((mx_si M 0 0 (0 : Int32)).1 0 41) = 0 then some ((-1 : Int32), (mx_si M 0 0 (0 : Int32))) else (fX13_isIn i1 (0 : Int32) (3 : Int32) (mx_si M 0 0 (0 : Int32))).bind fun q15 => if (mx_b q15) = 0 then some ((-1 : Int32), (mx_si M 0 0 (0 : Int32))) else if mx_in i1 4 then some (((mx_si M 0 0 (0 : Int32)).1 16 i1.toNatClampNeg), (mx_si M 0 0 (0 : Int32))) else none
/-- X13_code -/
def fX13_code (i1 : Int32) (i2 : Int32) (i3 : Int32) (M : MM) : Option MM := if mx_in ((3 : Int32) * (M.1 0 43)) 160 then if mx_in (((3 : Int32) * ((mx_si M 4 ((3 : Int32) * (M.1 0 43)).toNatClampNeg i1).1 0 43)) + (1 : Int32)) 160 then if mx_in (((3 : Int32) * ((mx_si (mx_si M 4 ((3 : Int32) * (M.1 0 43)).toNatClampNeg i1) 4 (((3 : Int32) * ((mx_si M 4 ((3 : Int32) * (M.1 0 43)).toNatClampNeg i1).1 0 43)) + (1 : Int32)).toNatClampNeg i2).1 0 43)) + (2 : Int32)) 160 then some (mx_si (mx_si (mx_si (mx_si M 4 ((3 : Int32) * (M.1 0 43)).toNatClampNeg i1) 4 (((3 : Int32) * ((mx_si M 4 ((3 : Int32) * (M.1 0 43)).toNatClampNeg i1).1 0 43)) + (1 : Int32)).toNatClampNeg i2) 4 (((3 : Int32) * ((mx_si (mx_si M 4 ((3 : Int32) * (M.1 0 43)).toNatClampNeg i1) 4 (((3 : Int32) * ((mx_si M 4 ((3 : Int32) * (M.1 0 43)).toNatClampNeg i1).1 0 43)) + (1 : Int32)).toNatClampNeg i2).1 0 43)) + (2 : Int32)).toNatClampNeg i3) 0 43 (((mx_si (mx_si (mx_si M 4 ((3 : Int32) * (M.1 0 43)).toNatClampNeg i1) 4 (((3 : Int32) * ((mx_si M 4 ((3 : Int32) * (M.1 0 43)).toNatClampNeg i1).1 0 43)) + (1 : Int32)).toNatClampNeg i2) 4 (((3 : Int32) * ((mx_si (mx_si M 4 ((3 : Int32) * (M.1 0 43)).toNatClampNeg i1) 4 (((3 : Int32) * ((mx_si M 4 ((3 : Int32) * (M.1 0 43)).toNatClampNeg i1).1 0 43)) + (1 : Int32)).toNatClampNeg i2).1 0 43)) + (2 : Int32)).toNatClampNeg i3).1 0 43) + (1 : Int32))) else none else none else none
/-- X13_joins -/
def fX13_joins_45 (i1 : Int32)  (k0 : MM → Option MM) (M : MM) : Option MM := if mx_in ((mx_si M 0 45 ((M.1 0 45) - (1 : Int32))).1 0 45) 45 then (fX13_code ((mx_si M 0 45 ((M.1 0 45) - (1 : Int32))).1 17 ((mx_si M 0 45 ((M.1 0 45) - (1 : Int32))).1 0 45).toNatClampNeg) (0 : Int32) (0 : Int32) (mx_si M 0 45 ((M.1 0 45) - (1 : Int32)))).bind fun q67 => k0 q67 else none
def fX13_joins_0 (i1 : Int32)   : Nat → MM → Option MM
  | 0, _ => none
  | n + 1, M => if (M.1 0 45) ≤ 0 then some M else if mx_in ((M.1 0 45) - (1 : Int32)) 45 then if (M.1 17 ((M.1 0 45) - (1 : Int32)).toNatClampNeg) = (21 : Int32) then fX13_joins_45 i1 (fX13_joins_0 i1 n) M else if mx_in ((M.1 0 45) - (1 : Int32)) 45 then if (M.1 17 ((M.1 0 45) - (1 : Int32)).toNatClampNeg) = (22 : Int32) then if i1 = (22 : Int32) then fX13_joins_45 i1 (fX13_joins_0 i1 n) M else some M else some M else none else none
def fX13_joins (i1 : Int32) (M : MM) : Option MM := fX13_joins_0 i1 mx_fu M
/-- X13_nots -/
def fX13_nots_0    : Nat → MM → Option MM
  | 0, _ => none
  | n + 1, M => if (M.1 0 45) ≤ 0 then some M else if mx_in ((M.1 0 45) - (1 : Int32)) 45 then if (M.1 17 ((M.1 0 45) - (1 : Int32)).toNatClampNeg) = (20 : Int32) then (fX13_code (20 : Int32) (0 : Int32) (0 : Int32) (mx_si (mx_si M 0 45 ((M.1 0 45) - (1 : Int32))) 0 46 (((mx_si M 0 45 ((M.1 0 45) - (1 : Int32))).1 0 46) - (1 : Int32)))).bind fun q48 => fX13_nots_0 n q48 else some M else none
def fX13_nots  (M : MM) : Option MM := fX13_nots_0 mx_fu M
/-- X13_leafOf -/
def fX13_leafOf  (M : MM) : Option Int32 := (fX13_isWord (125797149402468 : Int64) M).bind fun q4 => if (mx_b q4) = 0 then (fX13_isWord (448311357561 : Int64) M).bind fun q18 => if (mx_b q18) = 0 then (fX13_isWord (1650553445 : Int64) M).bind fun q32 => if (mx_b q32) = 0 then (fX13_isWord (6840691 : Int64) M).bind fun q46 => if (mx_b q46) = 0 then (fX13_isWord (25209 : Int64) M).bind fun q60 => if (mx_b q60) = 0 then (fX13_isWord (461262647411 : Int64) M).bind fun q74 => if (mx_b q74) = 0 then (fX13_isWord (495874044019 : Int64) M).bind fun q88 => if (mx_b q88) = 0 then (fX13_isWord (112603009869170 : Int64) M).bind fun q103 => if (mx_b q103) = 0 then (fX13_isWord (121450625394034 : Int64) M).bind fun q118 => if (mx_b q118) = 0 then some (-1 : Int32) else some (8 : Int32) else some (7 : Int32) else some (6 : Int32) else some (5 : Int32) else some (4 : Int32) else some (3 : Int32) else some (2 : Int32) else some (1 : Int32) else some (0 : Int32)
/-- X13_operand -/
def fX13_operand_232    (M : MM) : Option (Bool × MM) := (fX13_bad (1 : Int32) M).bind fun q234 => some (q234.1, q234.2)
def fX13_operand_181    (i3 : Int32) (bs0 : Bool) (M : MM) : Option (Bool × MM) := if (mx_b bs0) = 0 then some (false, M) else (fX13_code i3 (0 : Int32) (M.1 0 18) M).bind fun q197 => (fX13_next q197).bind fun q201 => some (true, q201)
def fX13_operand_103    (is1 : Int32) (is2 : Int32) (M : MM) : Option (Bool × MM) := if mx_in is1 45 then some (true, (mx_si (mx_si (mx_si M 17 is1.toNatClampNeg is2) 0 45 (((mx_si M 17 is1.toNatClampNeg is2).1 0 45) + (1 : Int32))) 0 46 (((mx_si (mx_si M 17 is1.toNatClampNeg is2) 0 45 (((mx_si M 17 is1.toNatClampNeg is2).1 0 45) + (1 : Int32))).1 0 46) + (1 : Int32)))) else none
def fX13_operand_84    (b1 : Bool) (M : MM) : Option (Bool × MM) := if (mx_b b1) = 0 then fX13_operand_103 (M.1 0 45) (23 : Int32) M else fX13_operand_103 (M.1 0 45) (20 : Int32) M
def fX13_operand_56    (M : MM) : Option (Bool × MM) := (fX13_bad (4 : Int32) M).bind fun q58 => some (q58.1, q58.2)
def fX13_operand_38    (b1 : Bool) (b2 : Bool) (i3 : Int32) (M : MM) : Option (Bool × MM) := if (M.1 0 44) = (20 : Int32) then fX13_operand_56 M else if (M.1 0 46) ≤ (8 : Int32) then (fX13_next (mx_si M 0 44 ((M.1 0 44) + (1 : Int32)))).bind fun q73 => if (mx_b b1) = 0 then if (mx_b b2) = 0 then if (3 : Int32) ≤ i3 then if (5 : Int32) ≤ i3 then if ((mx_si q73 0 47 (1 : Int32)).1 0 11) = (3 : Int32) then if ((mx_si q73 0 47 (1 : Int32)).1 0 14) < (60 : Int32) then fX13_operand_232 (mx_si q73 0 47 (1 : Int32)) else if ((mx_si q73 0 47 (1 : Int32)).1 0 14) ≤ (62 : Int32) then (fX13_next (mx_si q73 0 47 (1 : Int32))).bind fun q245 => if (q245.1 0 11) = (2 : Int32) then (fX13_code i3 ((mx_si q73 0 47 (1 : Int32)).1 0 14) (q245.1 0 14) q245).bind fun q270 => (fX13_next q270).bind fun q274 => some (true, q274) else (fX13_bad (1 : Int32) q245).bind fun q258 => some (q258.1, q258.2) else fX13_operand_232 (mx_si q73 0 47 (1 : Int32)) else fX13_operand_232 (mx_si q73 0 47 (1 : Int32)) else if i3 = (3 : Int32) then (fX13_looksAt (7 : Int32) ((mx_si q73 0 47 (1 : Int32)).1 2 1) (mx_si q73 0 47 (1 : Int32))).bind fun q164 => fX13_operand_181 i3 q164.1 q164.2 else (fX13_looksAt (0 : Int32) ((mx_si q73 0 47 (1 : Int32)).1 2 0) (mx_si q73 0 47 (1 : Int32))).bind fun q178 => fX13_operand_181 i3 q178.1 q178.2 else (fX13_code i3 (0 : Int32) (0 : Int32) (mx_si q73 0 47 (1 : Int32))).bind fun q140 => some (true, q140) else fX13_operand_84 b1 q73 else fX13_operand_84 b1 q73 else fX13_operand_56 M
def fX13_operand  (M : MM) : Option (Bool × MM) := (fX13_isWord (7237492 : Int64) M).bind fun q4 => (fX13_isSign (40 : Int32) M).bind fun q11 => (fX13_leafOf M).bind fun q16 => if (mx_b q4) = 0 then if (mx_b q11) = 0 then if 0 ≤ q16 then fX13_operand_38 q4 q11 q16 M else (fX13_bad (1 : Int32) M).bind fun q34 => some (q34.1, q34.2) else fX13_operand_38 q4 q11 q16 M else fX13_operand_38 q4 q11 q16 M
/-- X13_behind -/
def fX13_behind_114    (M : MM) : Option (Bool × MM) := (fX13_bad (1 : Int32) M).bind fun q116 => some (q116.1, q116.2)
def fX13_behind_70    (is1 : Int32) (is2 : Int32) (M : MM) : Option (Bool × MM) := if mx_in is1 45 then (fX13_next (mx_si (mx_si (mx_si M 17 is1.toNatClampNeg is2) 0 45 (((mx_si M 17 is1.toNatClampNeg is2).1 0 45) + (1 : Int32))) 0 47 (0 : Int32))).bind fun q87 => some (true, q87) else none
def fX13_behind_42    (is1 : Int32) (M : MM) : Option (Bool × MM) := (fX13_joins is1 M).bind fun q42 => (fX13_isWord (6385252 : Int64) q42).bind fun q57 => if (mx_b q57) = 0 then fX13_behind_70 (q42.1 0 45) (22 : Int32) q42 else fX13_behind_70 (q42.1 0 45) (21 : Int32) q42
def fX13_behind_24    (M : MM) : Option (Bool × MM) := (fX13_isWord (6385252 : Int64) M).bind fun q29 => if (mx_b q29) = 0 then fX13_behind_42 (22 : Int32) M else fX13_behind_42 (21 : Int32) M
def fX13_behind  (M : MM) : Option (Bool × MM) := (fX13_nots M).bind fun q1 => (fX13_isWord (6385252 : Int64) q1).bind fun q8 => if (mx_b q8) = 0 then (fX13_isWord (28530 : Int64) q1).bind fun q18 => if (mx_b q18) = 0 then (fX13_joins (22 : Int32) q1).bind fun q95 => (fX13_isSign (41 : Int32) q95).bind fun q101 => if (mx_b q101) = 0 then fX13_behind_114 q95 else if (q95.1 0 45) = 0 then fX13_behind_114 q95 else (fX13_next (mx_si (mx_si q95 0 45 ((q95.1 0 45) - (1 : Int32))) 0 46 (((mx_si q95 0 45 ((q95.1 0 45) - (1 : Int32))).1 0 46) - (1 : Int32)))).bind fun q141 => some (true, q141) else fX13_behind_24 q1 else fX13_behind_24 q1
/-- X13_sentence -/
def fX13_sentence_145    : Nat → Int32 → MM → Option (Int32 × MM)
  | 0, _, _ => none
  | n + 1, i2, M => if ((3 : Int32) * (M.1 0 43)) ≤ i2 then some ((M.1 0 44), M) else if mx_in i2 160 then if mx_in ((114 : Int32) + i2) 294 then fX13_sentence_145 n (i2 + (1 : Int32)) (mx_si M 2 ((114 : Int32) + i2).toNatClampNeg (M.1 4 i2.toNatClampNeg)) else none else none
def fX13_sentence_101   (k48 : Bool → MM → Option (Int32 × MM)) (b1 : Bool) (M : MM) : Option (Int32 × MM) := if (M.1 0 47) = 0 then (fX13_operand M).bind fun q119 => if (mx_b q119.1) = 0 then some (((-1 : Int32) - (q119.2.1 0 16)), q119.2) else k48 b1 q119.2 else (fX13_behind M).bind fun q109 => if (mx_b q109.1) = 0 then some (((-1 : Int32) - (q109.2.1 0 16)), q109.2) else k48 b1 q109.2
def fX13_sentence_48    : Nat → Bool → MM → Option (Int32 × MM)
  | 0, _, _ => none
  | n + 1, b1, M => if (mx_b b1) = 0 then fX13_sentence_145 mx_fu (0 : Int32) (mx_si M 2 113 (M.1 0 43)) else if (M.1 0 47) = 0 then fX13_sentence_101 (fX13_sentence_48 n) b1 M else if (M.1 0 11) = 0 then (fX13_nots M).bind fun q67 => (fX13_joins (22 : Int32) q67).bind fun q73 => if (q73.1 0 45) ≤ 0 then fX13_sentence_48 n false q73 else (fX13_bad (1 : Int32) q73).bind fun q85 => some (((-1 : Int32) - (q85.2.1 0 16)), q85.2) else fX13_sentence_101 (fX13_sentence_48 n) b1 M
def fX13_sentence  (M : MM) : Option (Int32 × MM) := (fX13_taken (200 : Int32) (mx_si M 0 0 (0 : Int32))).bind fun q9 => (fX13_next (mx_si (mx_si (mx_si (mx_si (mx_si (mx_si q9 0 15 (0 : Int32)) 0 43 (0 : Int32)) 0 44 (0 : Int32)) 0 45 (0 : Int32)) 0 46 (1 : Int32)) 0 47 (0 : Int32))).bind fun q43 => fX13_sentence_48 mx_fu true q43
/-- X13_isHappy -/
def fX13_isHappy (i1 : Int32) (M : MM) : Option Bool := (fX13_ownedBy i1 M).bind fun q2 => (fX13_ringsBy (92 : Int32) (1 : Int32) M).bind fun q9 => if (q2 &&& q9) = 0 then some false else (fX13_ownedBy i1 M).bind fun q18 => (fX13_ringsBy (92 : Int32) (2 : Int32) M).bind fun q25 => if (q18 &&& q25) = 0 then some true else some false
/-- X13_isLeaf -/
def fX13_isLeaf_147 (i1 : Int32) (i2 : Int32) (i3 : Int32) (i4 : Int32) (M : MM)   (is0 : Int32) : Option Bool := if i3 = (60 : Int32) then if i4 ≤ is0 then some false else some true else if i3 = (61 : Int32) then if is0 = i4 then some true else some false else if is0 ≤ i4 then some false else some true
def fX13_isLeaf (i1 : Int32) (i2 : Int32) (i3 : Int32) (i4 : Int32) (M : MM) : Option Bool := if i2 = 0 then (fX13_wornBy i1 M).bind fun q38 => if q38 < 0 then some false else some true else if i2 = 1 then (fX13_isHappy i1 M).bind fun q52 => some q52 else if i2 = 2 then (fX13_ownedBy i1 M).bind fun q58 => if q58 = 0 then some true else some false else if i2 = 3 then (fX13_has i1 i4 M).bind fun q74 => some q74 else if i2 = 4 then (fX13_farOf i1 i4 M).bind fun q82 => if q82 = 0 then some true else some false else if i2 = (5 : Int32) then (fX13_keptBy i1 M).bind fun q101 => (fX13_bits q101 M).bind fun q104 => fX13_isLeaf_147 i1 i2 i3 i4 M q104 else if i2 = (6 : Int32) then if mx_in ((71 : Int32) + i1) 294 then fX13_isLeaf_147 i1 i2 i3 i4 M (M.1 2 ((71 : Int32) + i1).toNatClampNeg) else none else if i2 = (7 : Int32) then if mx_in ((19 : Int32) + i1) 294 then fX13_isLeaf_147 i1 i2 i3 i4 M (M.1 2 ((19 : Int32) + i1).toNatClampNeg) else none else fX13_isLeaf_147 i1 i2 i3 i4 M i1
/-- X13_isSaid -/
def fX13_isSaid_161 (i1 : Int32)  (k4 : Int32 → Int32 → MM → Option (Bool × MM)) (i2 : Int32) (i3 : Int32) (is1 : Int32) (bs2 : Bool) (M : MM) : Option (Bool × MM) := if mx_in is1 45 then k4 i2 (i3 + (1 : Int32)) (mx_si M 18 is1.toNatClampNeg (vp_nar .boolean (mx_b bs2))) else none
def fX13_isSaid_156 (i1 : Int32)  (k161 : Int32 → Int32 → Int32 → Bool → MM → Option (Bool × MM)) (i2 : Int32) (i3 : Int32) (is1 : Int32) (M : MM) : Option (Bool × MM) := k161 i2 i3 is1 true M
def fX13_isSaid_132 (i1 : Int32)  (k161 : Int32 → Int32 → Int32 → Bool → MM → Option (Bool × MM)) (i2 : Int32) (i3 : Int32) (is1 : Int32) (M : MM) : Option (Bool × MM) := k161 i2 i3 is1 false M
def fX13_isSaid_86 (i1 : Int32)  (k4 : Int32 → Int32 → MM → Option (Bool × MM)) (i2 : Int32) (i3 : Int32) (i4 : Int32) (M : MM) : Option (Bool × MM) := if mx_in i4 294 then if (M.1 2 i4.toNatClampNeg) = (21 : Int32) then if mx_in ((i2 + (-1 : Int32)) - (1 : Int32)) 45 then if (M.1 18 ((i2 + (-1 : Int32)) - (1 : Int32)).toNatClampNeg) = 0 then fX13_isSaid_132 i1 (fun i2' i3' is1' bs2' M' => fX13_isSaid_161 i1 k4 i2' i3' is1' bs2' M') (i2 + (-1 : Int32)) i3 ((i2 + (-1 : Int32)) - (1 : Int32)) M else if mx_in (i2 + (-1 : Int32)) 45 then if (M.1 18 (i2 + (-1 : Int32)).toNatClampNeg) = 0 then fX13_isSaid_132 i1 (fun i2' i3' is1' bs2' M' => fX13_isSaid_161 i1 k4 i2' i3' is1' bs2' M') (i2 + (-1 : Int32)) i3 ((i2 + (-1 : Int32)) - (1 : Int32)) M else fX13_isSaid_161 i1 k4 (i2 + (-1 : Int32)) i3 ((i2 + (-1 : Int32)) - (1 : Int32)) true M else none else none else if mx_in ((i2 + (-1 : Int32)) - (1 : Int32)) 45 then if (M.1 18 ((i2 + (-1 : Int32)) - (1 : Int32)).toNatClampNeg) = 0 then if mx_in (i2 + (-1 : Int32)) 45 then if (M.1 18 (i2 + (-1 : Int32)).toNatClampNeg) = 0 then fX13_isSaid_161 i1 k4 (i2 + (-1 : Int32)) i3 ((i2 + (-1 : Int32)) - (1 : Int32)) false M else fX13_isSaid_156 i1 (fun i2' i3' is1' bs2' M' => fX13_isSaid_161 i1 k4 i2' i3' is1' bs2' M') (i2 + (-1 : Int32)) i3 ((i2 + (-1 : Int32)) - (1 : Int32)) M else none else fX13_isSaid_156 i1 (fun i2' i3' is1' bs2' M' => fX13_isSaid_161 i1 k4 i2' i3' is1' bs2' M') (i2 + (-1 : Int32)) i3 ((i2 + (-1 : Int32)) - (1 : Int32)) M else none else none
def fX13_isSaid_58 (i1 : Int32)  (k4 : Int32 → Int32 → MM → Option (Bool × MM)) (i2 : Int32) (i3 : Int32) (is1 : Int32) (bs2 : Bool) (M : MM) : Option (Bool × MM) := if mx_in is1 45 then k4 i2 (i3 + (1 : Int32)) (mx_si M 18 is1.toNatClampNeg (vp_nar .boolean (mx_b bs2))) else none
def fX13_isSaid_4 (i1 : Int32)   : Nat → Int32 → Int32 → MM → Option (Bool × MM)
  | 0, _, _, _ => none
  | n + 1, i2, i3, M => if (M.1 2 113) ≤ i3 then if mx_isb (M.1 18 0) then some (decide ((M.1 18 0) = 1), M) else none else if mx_in ((114 : Int32) + ((3 : Int32) * i3)) 294 then if (M.1 2 ((114 : Int32) + ((3 : Int32) * i3)).toNatClampNeg) = (20 : Int32) then if mx_in (i2 - (1 : Int32)) 45 then if (M.1 18 (i2 - (1 : Int32)).toNatClampNeg) = 0 then fX13_isSaid_58 i1 (fX13_isSaid_4 i1 n) i2 i3 (i2 - (1 : Int32)) true M else fX13_isSaid_58 i1 (fX13_isSaid_4 i1 n) i2 i3 (i2 - (1 : Int32)) false M else none else if mx_in ((114 : Int32) + ((3 : Int32) * i3)) 294 then if (M.1 2 ((114 : Int32) + ((3 : Int32) * i3)).toNatClampNeg) = (21 : Int32) then fX13_isSaid_86 i1 (fX13_isSaid_4 i1 n) i2 i3 ((114 : Int32) + ((3 : Int32) * i3)) M else if mx_in ((114 : Int32) + ((3 : Int32) * i3)) 294 then if (M.1 2 ((114 : Int32) + ((3 : Int32) * i3)).toNatClampNeg) = (22 : Int32) then fX13_isSaid_86 i1 (fX13_isSaid_4 i1 n) i2 i3 ((114 : Int32) + ((3 : Int32) * i3)) M else if mx_in ((114 : Int32) + ((3 : Int32) * i3)) 294 then if mx_in (((114 : Int32) + ((3 : Int32) * i3)) + (1 : Int32)) 294 then if mx_in (((114 : Int32) + ((3 : Int32) * i3)) + (2 : Int32)) 294 then (fX13_isLeaf i1 (M.1 2 ((114 : Int32) + ((3 : Int32) * i3)).toNatClampNeg) (M.1 2 (((114 : Int32) + ((3 : Int32) * i3)) + (1 : Int32)).toNatClampNeg) (M.1 2 (((114 : Int32) + ((3 : Int32) * i3)) + (2 : Int32)).toNatClampNeg) M).bind fun q197 => if mx_in i2 45 then fX13_isSaid_4 i1 n (i2 + (1 : Int32)) (i3 + (1 : Int32)) (mx_si M 18 i2.toNatClampNeg (vp_nar .boolean (mx_b q197))) else none else none else none else none else none else none else none
def fX13_isSaid (i1 : Int32) (M : MM) : Option (Bool × MM) := fX13_isSaid_4 i1 mx_fu (0 : Int32) (0 : Int32) M
/-- X13_said -/
def fX13_said_26 (i1 : Int32)   : Nat → Int32 → Int32 → MM → Option (Int32 × MM)
  | 0, _, _, _ => none
  | n + 1, i2, i3, M => if (M.1 2 0) ≤ i3 then if i1 = (-1 : Int32) then some (i2, M) else some ((-1 : Int32), M) else (fX13_isSaid i3 M).bind fun q38 => if (mx_b q38.1) = 0 then fX13_said_26 i1 n i2 (i3 + (1 : Int32)) q38.2 else if i2 = i1 then some (i3, q38.2) else fX13_said_26 i1 n (i2 + (1 : Int32)) (i3 + (1 : Int32)) q38.2
def fX13_said (i1 : Int32) (M : MM) : Option (Int32 × MM) := if ((mx_si M 0 0 (0 : Int32)).1 2 113) = 0 then some ((-1 : Int32), (mx_si M 0 0 (0 : Int32))) else if (-1 : Int32) ≤ i1 then fX13_said_26 i1 mx_fu (0 : Int32) (0 : Int32) (mx_si M 0 0 (0 : Int32)) else some ((-1 : Int32), (mx_si M 0 0 (0 : Int32)))
/-- X13_image -/
def fX13_image_51 (i1 : Int32)   : Nat → Int32 → MM → Option (Bool × MM)
  | 0, _, _ => none
  | n + 1, i2, M => if (14 : Int32) ≤ i2 then if mx_in i1 2 then some (true, (mx_si M 21 i1.toNatClampNeg (vp_nar .boolean (1 : Int32)))) else none else if mx_in i2 28 then if mx_in (((14 : Int32) * i1) + i2) 28 then fX13_image_51 i1 n (i2 + (1 : Int32)) (mx_sl M 20 (((14 : Int32) * i1) + i2).toNatClampNeg (M.2.1 5 i2.toNatClampNeg)) else none else none
def fX13_image_18 (i1 : Int32)   : Nat → Int32 → MM → Option (Bool × MM)
  | 0, _, _ => none
  | n + 1, i2, M => if (294 : Int32) ≤ i2 then fX13_image_51 i1 mx_fu (0 : Int32) M else if mx_in i2 294 then if mx_in (((294 : Int32) * i1) + i2) 588 then fX13_image_18 i1 n (i2 + (1 : Int32)) (mx_si M 19 (((294 : Int32) * i1) + i2).toNatClampNeg (M.1 2 i2.toNatClampNeg)) else none else none
def fX13_image (i1 : Int32) (M : MM) : Option (Bool × MM) := (fX13_isIn i1 (0 : Int32) (1 : Int32) (mx_si M 0 0 (0 : Int32))).bind fun q8 => if (mx_b q8) = 0 then some (false, (mx_si M 0 0 (0 : Int32))) else fX13_image_18 i1 mx_fu (0 : Int32) (mx_si M 0 0 (0 : Int32))
/-- X13_restore -/
def fX13_restore_60 (i1 : Int32)   : Nat → Int32 → MM → Option (Bool × MM)
  | 0, _, _ => none
  | n + 1, i2, M => if (14 : Int32) ≤ i2 then some (true, (mx_si M 0 23 (0 : Int32))) else if mx_in (((14 : Int32) * i1) + i2) 28 then if mx_in i2 28 then fX13_restore_60 i1 n (i2 + (1 : Int32)) (mx_sl M 5 i2.toNatClampNeg (M.2.1 20 (((14 : Int32) * i1) + i2).toNatClampNeg)) else none else none
def fX13_restore_27 (i1 : Int32)   : Nat → Int32 → MM → Option (Bool × MM)
  | 0, _, _ => none
  | n + 1, i2, M => if (294 : Int32) ≤ i2 then fX13_restore_60 i1 mx_fu (0 : Int32) M else if mx_in (((294 : Int32) * i1) + i2) 588 then if mx_in i2 294 then fX13_restore_27 i1 n (i2 + (1 : Int32)) (mx_si M 2 i2.toNatClampNeg (M.1 19 (((294 : Int32) * i1) + i2).toNatClampNeg)) else none else none
def fX13_restore (i1 : Int32) (M : MM) : Option (Bool × MM) := (fX13_isIn i1 (0 : Int32) (1 : Int32) (mx_si M 0 0 (0 : Int32))).bind fun q8 => if (mx_b q8) = 0 then some (false, (mx_si M 0 0 (0 : Int32))) else if mx_in i1 2 then if ((mx_si M 0 0 (0 : Int32)).1 21 i1.toNatClampNeg) = 0 then some (false, (mx_si M 0 0 (0 : Int32))) else fX13_restore_27 i1 mx_fu (0 : Int32) (mx_si M 0 0 (0 : Int32)) else none
/-- X13_count -/
def fX13_count (i1 : Int32) (M : MM) : Option (Int32 × MM) := if i1 = (5 : Int32) then some (((mx_si M 0 0 (0 : Int32)).1 0 2), (mx_si M 0 0 (0 : Int32))) else (fX13_isIn i1 (0 : Int32) (4 : Int32) (mx_si M 0 0 (0 : Int32))).bind fun q20 => if (mx_b q20) = 0 then some ((-1 : Int32), (mx_si M 0 0 (0 : Int32))) else if mx_in i1 294 then some (((mx_si M 0 0 (0 : Int32)).1 2 i1.toNatClampNeg), (mx_si M 0 0 (0 : Int32))) else none
