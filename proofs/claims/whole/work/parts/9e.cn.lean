/-! words and rows of the constructors -/
theorem qw_32 : (Jvm.Cond.methodLink "RingKeepers" (1 : Nat) ({ cls := "java/lang/Object", name := "<init>", desc := "()V" } : Jvm.MethodName)) ∈ mx_wall := mx_w 216 (by decide +kernel) (by decide +kernel)
theorem qw_33 : (Jvm.Cond.instanceMethod ({ cls := "java/lang/Object", name := "<init>", desc := "()V" } : Jvm.MethodName)) ∈ mx_wall := mx_w 217 (by decide +kernel) (by decide +kernel)
theorem qw_35 : (Jvm.Cond.classLink "RingKeepers" (7 : Nat) "RingKeepers$Tape") ∈ mx_wall := mx_w 219 (by decide +kernel) (by decide +kernel)
theorem qw_36 : (Jvm.Cond.instantiable "RingKeepers$Tape" (2 : Nat)) ∈ mx_wall := mx_w 220 (by decide +kernel) (by decide +kernel)
theorem qw_38 : (Jvm.Cond.instanceMethod ({ cls := "RingKeepers$Tape", name := "<init>", desc := "()V" } : Jvm.MethodName)) ∈ mx_wall := mx_w 222 (by decide +kernel) (by decide +kernel)
theorem qw_39 : (Jvm.Cond.code ({ cls := "RingKeepers$Tape", name := "<init>", desc := "()V" } : Jvm.MethodName) prog_12_method_1_code (1 : Nat) (Option.none : Option Jvm.ClassFile.FieldType)) ∈ mx_wall := mx_w 223 (by decide +kernel) (by decide +kernel)
theorem qw_40 : (Jvm.Cond.methodLink "RingKeepers$Tape" (3 : Nat) ({ cls := "java/lang/Object", name := "<init>", desc := "()V" } : Jvm.MethodName)) ∈ mx_wall := mx_w 224 (by decide +kernel) (by decide +kernel)
theorem qw_51 : (Jvm.Cond.arrayClass Jvm.ClassFile.FieldType.byte) ∈ mx_wall := mx_w 235 (by decide +kernel) (by decide +kernel)
theorem qw_52 : (Jvm.Cond.classLink "RingKeepers" (16 : Nat) "RingKeepers$Reader") ∈ mx_wall := mx_w 236 (by decide +kernel) (by decide +kernel)
theorem qw_53 : (Jvm.Cond.instantiable "RingKeepers$Reader" (12 : Nat)) ∈ mx_wall := mx_w 237 (by decide +kernel) (by decide +kernel)
theorem qw_55 : (Jvm.Cond.instanceMethod ({ cls := "RingKeepers$Reader", name := "<init>", desc := "(LRingKeepers$Tape;)V" } : Jvm.MethodName)) ∈ mx_wall := mx_w 239 (by decide +kernel) (by decide +kernel)
theorem qw_56 : (Jvm.Cond.code ({ cls := "RingKeepers$Reader", name := "<init>", desc := "(LRingKeepers$Tape;)V" } : Jvm.MethodName) prog_9_method_1_code (3 : Nat) (Option.none : Option Jvm.ClassFile.FieldType)) ∈ mx_wall := mx_w 240 (by decide +kernel) (by decide +kernel)
theorem qw_57 : (Jvm.Cond.methodLink "RingKeepers$Reader" (5 : Nat) ({ cls := "java/lang/Object", name := "<init>", desc := "()V" } : Jvm.MethodName)) ∈ mx_wall := mx_w 241 (by decide +kernel) (by decide +kernel)
theorem qw_58 : (Jvm.Cond.classLink "RingKeepers$Reader" (27 : Nat) "RingKeepers$Word") ∈ mx_wall := mx_w 242 (by decide +kernel) (by decide +kernel)
theorem qw_104 : (Jvm.Cond.arrayClass Jvm.ClassFile.FieldType.int) ∈ mx_wall := mx_w 288 (by decide +kernel) (by decide +kernel)
theorem qw_105 : (Jvm.Cond.arrayClass Jvm.ClassFile.FieldType.long) ∈ mx_wall := mx_w 289 (by decide +kernel) (by decide +kernel)
theorem qw_106 : (Jvm.Cond.classLink "RingKeepers" (25 : Nat) "RingKeepers$Island") ∈ mx_wall := mx_w 290 (by decide +kernel) (by decide +kernel)
theorem qw_107 : (Jvm.Cond.instantiable "RingKeepers$Island" (18 : Nat)) ∈ mx_wall := mx_w 291 (by decide +kernel) (by decide +kernel)
theorem qw_109 : (Jvm.Cond.instanceMethod ({ cls := "RingKeepers$Island", name := "<init>", desc := "()V" } : Jvm.MethodName)) ∈ mx_wall := mx_w 293 (by decide +kernel) (by decide +kernel)
theorem qw_110 : (Jvm.Cond.code ({ cls := "RingKeepers$Island", name := "<init>", desc := "()V" } : Jvm.MethodName) prog_5_method_1_code (1 : Nat) (Option.none : Option Jvm.ClassFile.FieldType)) ∈ mx_wall := mx_w 294 (by decide +kernel) (by decide +kernel)
theorem qw_111 : (Jvm.Cond.methodLink "RingKeepers$Island" (3 : Nat) ({ cls := "java/lang/Object", name := "<init>", desc := "()V" } : Jvm.MethodName)) ∈ mx_wall := mx_w 295 (by decide +kernel) (by decide +kernel)
theorem qw_198 : (Jvm.Cond.classLink "RingKeepers" (35 : Nat) "RingKeepers$State") ∈ mx_wall := mx_w 382 (by decide +kernel) (by decide +kernel)
theorem qw_199 : (Jvm.Cond.instantiable "RingKeepers$State" (13 : Nat)) ∈ mx_wall := mx_w 383 (by decide +kernel) (by decide +kernel)
theorem qw_201 : (Jvm.Cond.instanceMethod ({ cls := "RingKeepers$State", name := "<init>", desc := "(LRingKeepers$Island;)V" } : Jvm.MethodName)) ∈ mx_wall := mx_w 385 (by decide +kernel) (by decide +kernel)
theorem qw_202 : (Jvm.Cond.code ({ cls := "RingKeepers$State", name := "<init>", desc := "(LRingKeepers$Island;)V" } : Jvm.MethodName) prog_11_method_1_code (2 : Nat) (Option.none : Option Jvm.ClassFile.FieldType)) ∈ mx_wall := mx_w 386 (by decide +kernel) (by decide +kernel)
theorem qw_203 : (Jvm.Cond.methodLink "RingKeepers$State" (3 : Nat) ({ cls := "java/lang/Object", name := "<init>", desc := "()V" } : Jvm.MethodName)) ∈ mx_wall := mx_w 387 (by decide +kernel) (by decide +kernel)
theorem qw_260 : (Jvm.Cond.classLink "RingKeepers" (50 : Nat) "RingKeepers$Past") ∈ mx_wall := mx_w 444 (by decide +kernel) (by decide +kernel)
theorem qw_261 : (Jvm.Cond.instantiable "RingKeepers$Past" (2 : Nat)) ∈ mx_wall := mx_w 445 (by decide +kernel) (by decide +kernel)
theorem qw_263 : (Jvm.Cond.instanceMethod ({ cls := "RingKeepers$Past", name := "<init>", desc := "(LRingKeepers$Island;)V" } : Jvm.MethodName)) ∈ mx_wall := mx_w 447 (by decide +kernel) (by decide +kernel)
theorem qw_264 : (Jvm.Cond.code ({ cls := "RingKeepers$Past", name := "<init>", desc := "(LRingKeepers$Island;)V" } : Jvm.MethodName) prog_7_method_1_code (3 : Nat) (Option.none : Option Jvm.ClassFile.FieldType)) ∈ mx_wall := mx_w 448 (by decide +kernel) (by decide +kernel)
theorem qw_265 : (Jvm.Cond.methodLink "RingKeepers$Past" (1 : Nat) ({ cls := "java/lang/Object", name := "<init>", desc := "()V" } : Jvm.MethodName)) ∈ mx_wall := mx_w 449 (by decide +kernel) (by decide +kernel)
theorem qw_266 : (Jvm.Cond.classLink "RingKeepers$Past" (9 : Nat) "RingKeepers$State") ∈ mx_wall := mx_w 450 (by decide +kernel) (by decide +kernel)
theorem qw_277 : (Jvm.Cond.classLink "RingKeepers" (57 : Nat) "RingKeepers$Sentence") ∈ mx_wall := mx_w 461 (by decide +kernel) (by decide +kernel)
theorem qw_278 : (Jvm.Cond.instantiable "RingKeepers$Sentence" (5 : Nat)) ∈ mx_wall := mx_w 462 (by decide +kernel) (by decide +kernel)
theorem qw_280 : (Jvm.Cond.instanceMethod ({ cls := "RingKeepers$Sentence", name := "<init>", desc := "()V" } : Jvm.MethodName)) ∈ mx_wall := mx_w 464 (by decide +kernel) (by decide +kernel)
theorem qw_281 : (Jvm.Cond.code ({ cls := "RingKeepers$Sentence", name := "<init>", desc := "()V" } : Jvm.MethodName) prog_10_method_1_code (2 : Nat) (Option.none : Option Jvm.ClassFile.FieldType)) ∈ mx_wall := mx_w 465 (by decide +kernel) (by decide +kernel)
theorem qw_282 : (Jvm.Cond.methodLink "RingKeepers$Sentence" (5 : Nat) ({ cls := "java/lang/Object", name := "<init>", desc := "()V" } : Jvm.MethodName)) ∈ mx_wall := mx_w 466 (by decide +kernel) (by decide +kernel)
theorem qw_283 : (Jvm.Cond.classLink "RingKeepers$Sentence" (11 : Nat) "RingKeepers$Word") ∈ mx_wall := mx_w 467 (by decide +kernel) (by decide +kernel)
theorem qw_284 : (Jvm.Cond.fieldLink "RingKeepers$Sentence" (24 : Nat) "RingKeepers$Word" "OTHER" "LRingKeepers$Word;") ∈ mx_wall := mx_w 468 (by decide +kernel) (by decide +kernel)
theorem qw_302 : (Jvm.Cond.classLink "RingKeepers" (67 : Nat) "RingKeepers$Book") ∈ mx_wall := mx_w 486 (by decide +kernel) (by decide +kernel)
theorem qw_303 : (Jvm.Cond.instantiable "RingKeepers$Book" (10 : Nat)) ∈ mx_wall := mx_w 487 (by decide +kernel) (by decide +kernel)
theorem qw_305 : (Jvm.Cond.instanceMethod ({ cls := "RingKeepers$Book", name := "<init>", desc := "()V" } : Jvm.MethodName)) ∈ mx_wall := mx_w 489 (by decide +kernel) (by decide +kernel)
theorem qw_306 : (Jvm.Cond.code ({ cls := "RingKeepers$Book", name := "<init>", desc := "()V" } : Jvm.MethodName) prog_3_method_1_code (1 : Nat) (Option.none : Option Jvm.ClassFile.FieldType)) ∈ mx_wall := mx_w 490 (by decide +kernel) (by decide +kernel)
theorem qw_307 : (Jvm.Cond.methodLink "RingKeepers$Book" (3 : Nat) ({ cls := "java/lang/Object", name := "<init>", desc := "()V" } : Jvm.MethodName)) ∈ mx_wall := mx_w 491 (by decide +kernel) (by decide +kernel)
theorem qw_344 : (Jvm.Cond.classLink "RingKeepers" (74 : Nat) "RingKeepers$Plans") ∈ mx_wall := mx_w 528 (by decide +kernel) (by decide +kernel)
theorem qw_345 : (Jvm.Cond.instantiable "RingKeepers$Plans" (7 : Nat)) ∈ mx_wall := mx_w 529 (by decide +kernel) (by decide +kernel)
theorem qw_347 : (Jvm.Cond.instanceMethod ({ cls := "RingKeepers$Plans", name := "<init>", desc := "()V" } : Jvm.MethodName)) ∈ mx_wall := mx_w 531 (by decide +kernel) (by decide +kernel)
theorem qw_348 : (Jvm.Cond.code ({ cls := "RingKeepers$Plans", name := "<init>", desc := "()V" } : Jvm.MethodName) prog_8_method_1_code (2 : Nat) (Option.none : Option Jvm.ClassFile.FieldType)) ∈ mx_wall := mx_w 532 (by decide +kernel) (by decide +kernel)
theorem qw_349 : (Jvm.Cond.methodLink "RingKeepers$Plans" (3 : Nat) ({ cls := "java/lang/Object", name := "<init>", desc := "()V" } : Jvm.MethodName)) ∈ mx_wall := mx_w 533 (by decide +kernel) (by decide +kernel)
theorem qw_376 : (Jvm.Cond.classLink "RingKeepers" (81 : Nat) "RingKeepers$Fitting") ∈ mx_wall := mx_w 560 (by decide +kernel) (by decide +kernel)
theorem qw_377 : (Jvm.Cond.instantiable "RingKeepers$Fitting" (4 : Nat)) ∈ mx_wall := mx_w 561 (by decide +kernel) (by decide +kernel)
theorem qw_379 : (Jvm.Cond.instanceMethod ({ cls := "RingKeepers$Fitting", name := "<init>", desc := "()V" } : Jvm.MethodName)) ∈ mx_wall := mx_w 563 (by decide +kernel) (by decide +kernel)
theorem qw_380 : (Jvm.Cond.code ({ cls := "RingKeepers$Fitting", name := "<init>", desc := "()V" } : Jvm.MethodName) prog_4_method_1_code (1 : Nat) (Option.none : Option Jvm.ClassFile.FieldType)) ∈ mx_wall := mx_w 564 (by decide +kernel) (by decide +kernel)
theorem qw_381 : (Jvm.Cond.methodLink "RingKeepers$Fitting" (3 : Nat) ({ cls := "java/lang/Object", name := "<init>", desc := "()V" } : Jvm.MethodName)) ∈ mx_wall := mx_w 565 (by decide +kernel) (by decide +kernel)
theorem qw_397 : (Jvm.Cond.classLink "RingKeepers" (88 : Nat) "RingKeepers$Note") ∈ mx_wall := mx_w 581 (by decide +kernel) (by decide +kernel)
theorem qw_398 : (Jvm.Cond.instantiable "RingKeepers$Note" (2 : Nat)) ∈ mx_wall := mx_w 582 (by decide +kernel) (by decide +kernel)
theorem qw_400 : (Jvm.Cond.instanceMethod ({ cls := "RingKeepers$Note", name := "<init>", desc := "()V" } : Jvm.MethodName)) ∈ mx_wall := mx_w 584 (by decide +kernel) (by decide +kernel)
theorem qw_401 : (Jvm.Cond.code ({ cls := "RingKeepers$Note", name := "<init>", desc := "()V" } : Jvm.MethodName) prog_6_method_1_code (1 : Nat) (Option.none : Option Jvm.ClassFile.FieldType)) ∈ mx_wall := mx_w 585 (by decide +kernel) (by decide +kernel)
theorem qw_402 : (Jvm.Cond.methodLink "RingKeepers$Note" (3 : Nat) ({ cls := "java/lang/Object", name := "<init>", desc := "()V" } : Jvm.MethodName)) ∈ mx_wall := mx_w 586 (by decide +kernel) (by decide +kernel)
theorem qw_472 : (Jvm.Cond.arrayClass Jvm.ClassFile.FieldType.boolean) ∈ mx_wall := mx_w 656 (by decide +kernel) (by decide +kernel)
theorem qw_1365 : (Jvm.Cond.methodLink "RingKeepersModel" (27 : Nat) ({ cls := "java/lang/Object", name := "<init>", desc := "()V" } : Jvm.MethodName)) ∈ mx_wall := mx_w 1549 (by decide +kernel) (by decide +kernel)
theorem qoi_1 : Cond.instanceMethod Lib.objectInit ∈ mx_wall := qw_33
theorem qoi_2 : Cond.code Lib.objectInit ⟨#[0xb1]⟩ 1 none ∈ mx_wall := mx_w 218 (by decide +kernel) (by decide +kernel)
theorem cw_start {T : List CN} {a : Nat} {d : CN} (h : T[a]? = some d) : T = T.set a d ++ [] := by
  rw [List.append_nil]
  apply List.ext_getElem?
  intro i
  rw [List.getElem?_set]
  by_cases hi : a = i
  · subst hi
    have hl : a < T.length := (List.getElem?_eq_some_iff.mp h).1
    rw [if_pos rfl, if_pos hl, h]
  · rw [if_neg hi]
theorem cw_at0 {T L : List CN} {a : Nat} {d : CN} (ha : a < T.length) : (T.set a d ++ L)[a]? = some d := by
  rw [List.getElem?_append_left (by rw [List.length_set]; exact ha), List.getElem?_set, if_pos rfl, if_pos ha]
theorem cw_atL {T L : List CN} {a i : Nat} {d : CN} : (T.set a d ++ L)[T.length + i]? = L[i]? := by
  rw [List.getElem?_append_right (by rw [List.length_set]; omega), List.length_set, Nat.add_sub_cancel_left]
theorem cw_set0 {T L : List CN} {a : Nat} {d d' : CN} (ha : a < T.length) : (T.set a d ++ L).set a d' = T.set a d' ++ L := by
  rw [List.set_append_left _ _ (by rw [List.length_set]; exact ha), List.set_set]
theorem cw_setL {T L : List CN} {a i : Nat} {d x : CN} : (T.set a d ++ L).set (T.length + i) x = T.set a d ++ L.set i x := by
  rw [List.set_append_right _ _ (by rw [List.length_set]; omega), List.length_set, Nat.add_sub_cancel_left]
theorem cw_lenN {T L : List CN} {a : Nat} {d : CN} : (T.set a d ++ L).length = T.length + L.length := by
  rw [List.length_append, List.length_set]
section CNR
variable {p : Program} {l : Launch} {e : Env} {R : Room} {s : State} {m : MethodId} {args : Array Value} {below : List Frame} {meth : Method} {c : Code} {H : Heap} {locs : List Loc} {cells slots : Nat} {Q : State → Prop}
variable {cc : ByteArray} {nL pc pc2 : Nat} {ls : Array Slot} {rest : List Value} {X : XE} {G : State → Prop} {T L L' : List CN} {own : String} {o : Nat} {d : CN}
theorem cn_newI (C : cw_C X G p m c cc nL s args own meth) (hM : cw_H X s (T.set o d ++ L) H locs cells) {N : Nat} {v n : Int32} {a1 : Nat} (hn : ¬ n < 0) (hN : n.toNatClampNeg = N) (hbytes : N * 4 ≤ 536870912) (hcells : cells + 1 ≤ R.cells) (hslots : slots + N ≤ R.slots) (hL : L ++ [.inr (0, N, 0, 0, 0, v)] = L') (ha1 : T.length + L.length = a1) (hdg : decode cc pc = .ok (.newarray .int, 2)) (hpc : pc + 2 = pc2)
    (kk : ∀ H : Heap, cw_H X s (T.set o d ++ L') H locs (cells + 1) → W p l e R s m args below meth c H locs (cells + 1) (slots + N) Q (F0 m pc2 ls (.ref (X.2.1 a1) :: rest))) : W p l e R s m args below meth c H locs cells slots Q (F0 m pc ls (.int n :: rest)) := by
  subst hL
  refine cw_newa C hM (atype := .int) (t := 0) (N := N) (a := 0) (b := 0) (v := v) qw_104 rfl (fun h => h) (by simp [vp_cell, cw_a, defaultValue, newarray.typeOf]) hn hN hbytes hcells hslots (cw_lenN.trans ha1) hdg hpc (fun H hM => kk H (by rw [← List.append_assoc]; exact hM))
theorem cn_newB (C : cw_C X G p m c cc nL s args own meth) (hM : cw_H X s (T.set o d ++ L) H locs cells) {N : Nat} {v n : Int32} {a1 : Nat} (hn : ¬ n < 0) (hN : n.toNatClampNeg = N) (hbytes : N * 1 ≤ 536870912) (hcells : cells + 1 ≤ R.cells) (hslots : slots + N ≤ R.slots) (hL : L ++ [.inr (1, N, 0, 0, 0, v)] = L') (ha1 : T.length + L.length = a1) (hdg : decode cc pc = .ok (.newarray .byte, 2)) (hpc : pc + 2 = pc2)
    (kk : ∀ H : Heap, cw_H X s (T.set o d ++ L') H locs (cells + 1) → W p l e R s m args below meth c H locs (cells + 1) (slots + N) Q (F0 m pc2 ls (.ref (X.2.1 a1) :: rest))) : W p l e R s m args below meth c H locs cells slots Q (F0 m pc ls (.int n :: rest)) := by
  subst hL
  refine cw_newa C hM (atype := .byte) (t := 1) (N := N) (a := 0) (b := 0) (v := v) qw_51 rfl (fun h => h) (by simp [vp_cell, cw_a, defaultValue, newarray.typeOf]) hn hN hbytes hcells hslots (cw_lenN.trans ha1) hdg hpc (fun H hM => kk H (by rw [← List.append_assoc]; exact hM))
theorem cn_newJ (C : cw_C X G p m c cc nL s args own meth) (hM : cw_H X s (T.set o d ++ L) H locs cells) {N : Nat} {v n : Int32} {a1 : Nat} (hn : ¬ n < 0) (hN : n.toNatClampNeg = N) (hbytes : N * 8 ≤ 536870912) (hcells : cells + 1 ≤ R.cells) (hslots : slots + N ≤ R.slots) (hL : L ++ [.inr (2, N, 0, 0, 0, v)] = L') (ha1 : T.length + L.length = a1) (hdg : decode cc pc = .ok (.newarray .long, 2)) (hpc : pc + 2 = pc2)
    (kk : ∀ H : Heap, cw_H X s (T.set o d ++ L') H locs (cells + 1) → W p l e R s m args below meth c H locs (cells + 1) (slots + N) Q (F0 m pc2 ls (.ref (X.2.1 a1) :: rest))) : W p l e R s m args below meth c H locs cells slots Q (F0 m pc ls (.int n :: rest)) := by
  subst hL
  refine cw_newa C hM (atype := .long) (t := 2) (N := N) (a := 0) (b := 0) (v := v) qw_105 rfl (fun h => h) (by simp [vp_cell, cw_a, defaultValue, newarray.typeOf]) hn hN hbytes hcells hslots (cw_lenN.trans ha1) hdg hpc (fun H hM => kk H (by rw [← List.append_assoc]; exact hM))
theorem cn_newZ (C : cw_C X G p m c cc nL s args own meth) (hM : cw_H X s (T.set o d ++ L) H locs cells) {N : Nat} {v n : Int32} {a1 : Nat} (hn : ¬ n < 0) (hN : n.toNatClampNeg = N) (hbytes : N * 1 ≤ 536870912) (hcells : cells + 1 ≤ R.cells) (hslots : slots + N ≤ R.slots) (hL : L ++ [.inr (3, N, 0, 0, 0, v)] = L') (ha1 : T.length + L.length = a1) (hdg : decode cc pc = .ok (.newarray .boolean, 2)) (hpc : pc + 2 = pc2)
    (kk : ∀ H : Heap, cw_H X s (T.set o d ++ L') H locs (cells + 1) → W p l e R s m args below meth c H locs (cells + 1) (slots + N) Q (F0 m pc2 ls (.ref (X.2.1 a1) :: rest))) : W p l e R s m args below meth c H locs cells slots Q (F0 m pc ls (.int n :: rest)) := by
  subst hL
  refine cw_newa C hM (atype := .boolean) (t := 3) (N := N) (a := 0) (b := 0) (v := v) qw_472 rfl (fun h => h) (by simp [vp_cell, cw_a, defaultValue, newarray.typeOf]) hn hN hbytes hcells hslots (cw_lenN.trans ha1) hdg hpc (fun H hM => kk H (by rw [← List.append_assoc]; exact hM))
theorem cn_newQ (C : cw_C X G p m c cc nL s args own meth) (hM : cw_H X s (T.set o d ++ L) H locs cells) {Cn : String} {index t N : Nat} {a b : Nat} {n : Int32} {a1 : Nat} (hcl : Cond.classLink own index Cn ∈ mx_wall) (hov : va_AO Cn s) (ht : (mx_tys X)[t]? = some (X.2.2.2 t, .object Cn)) (hc : cw_a X (t, N, 0, a, b, 0) = .inr (.inr (.inr (.inr (fun i => if i < 0 then some (mx_rad X t (a + b * i)) else none)))))
    (hn : ¬ n < 0) (hN : n.toNatClampNeg = N) (hbytes : N * 4 ≤ 536870912) (hcells : cells + 1 ≤ R.cells) (hslots : slots + N ≤ R.slots) (hL : L ++ [.inr (t, N, 0, a, b, 0)] = L') (ha1 : T.length + L.length = a1) (hdg : decode cc pc = .ok (.anewarray index, 3)) (hpc : pc + 3 = pc2)
    (kk : ∀ H : Heap, cw_H X s (T.set o d ++ L') H locs (cells + 1) → W p l e R s m args below meth c H locs (cells + 1) (slots + N) Q (F0 m pc2 ls (.ref (X.2.1 a1) :: rest))) : W p l e R s m args below meth c H locs cells slots Q (F0 m pc ls (.int n :: rest)) := by
  subst hL
  exact cw_newq C hM (t := t) (N := N) (a := a) (b := b) hcl hov ht (by rw [hc]; simp) hn hN hbytes hcells hslots (cw_lenN.trans ha1) hdg hpc (fun H hM => kk H (by rw [← List.append_assoc]; exact hM))
theorem cn_put (C : cw_C X G p m c cc nL s args own meth) (ho : o < T.length) {ci N j index : Nat} {fs fs' : List FD} (hM : cw_H X s (T.set o (.inl (ci, fs)) ++ L) H locs cells) {Cn : String} {TT : u_T} {ty : Nat → FieldType} (hc : mx_Cl ci Cn TT N ty) {f : FD} {v : Value} (hj : j < N) (hlink : Cond.fieldLink own index (TT j).1 (TT j).2.1 (TT j).2.2.1 ∈ mx_wall) (hdecl : (TT j).1 = own) (hv : cw_f X f = v) (hn : narrow (ty j) v = v) (hfit : fits (ty j) v = true) (hl : j < fs.length) (hfs : fs.set j f = fs') (hdg : decode cc pc = .ok (.putfield index, 3)) (hpc : pc + 3 = pc2)
    (kk : ∀ (H : Heap) (locs : List Loc), cw_H X s (T.set o (.inl (ci, fs')) ++ L) H locs cells → W p l e R s m args below meth c H locs cells slots Q (F0 m pc2 ls rest)) : W p l e R s m args below meth c H locs cells slots Q (F0 m pc ls (v :: .ref (X.2.1 o) :: rest)) := by
  subst hfs
  exact cw_put C hM hc (cw_at0 ho) hj hlink hdecl hv hn hfit hl hdg hpc (fun H locs hM => kk H locs (by rw [cw_set0 ho] at hM; exact hM))
theorem cn_get (C : cw_C X G p m c cc nL s args own meth) (ho : o < T.length) {ci N j index : Nat} {fs : List FD} (hM : cw_H X s (T.set o (.inl (ci, fs)) ++ L) H locs cells) {Cn : String} {TT : u_T} {ty : Nat → FieldType} (hc : mx_Cl ci Cn TT N ty) {f : FD} (hf : fs[j]? = some f) (hj : j < N) (hlink : Cond.fieldLink own index (TT j).1 (TT j).2.1 (TT j).2.2.1 ∈ mx_wall) {v : Value} (hv : cw_f X f = v) (hdg : decode cc pc = .ok (.getfield index, 3)) (hpc : pc + 3 = pc2)
    (kk : W p l e R s m args below meth c H locs cells slots Q (F0 m pc2 ls (v :: rest))) : W p l e R s m args below meth c H locs cells slots Q (F0 m pc ls (.ref (X.2.1 o) :: rest)) :=
  cw_get C hM hc (cw_at0 ho) hf hj hlink hv hdg hpc kk
theorem cn_wast (C : cw_C X G p m c cc nL s args own meth) (hg : cw_g X s) (hM : cw_H X s (T.set o d ++ L) H locs cells) {i n j : Nat} {x : Int32} (hT : L[i]? = some (.inr (7, n, j, 0, 0, 0))) (hi : x.toNatClampNeg = j) (hin : vp_in x n) (hL : L.set i (.inr (7, n, j + 1, 0, 0, 0)) = L') (hdg : decode cc pc = .ok (.aastore, 1)) (hpc : pc + 1 = pc2)
    (kk : ∀ (H : Heap) (locs : List Loc), cw_H X s (T.set o d ++ L') H locs cells → W p l e R s m args below meth c H locs cells slots Q (F0 m pc2 ls rest)) : W p l e R s m args below meth c H locs cells slots Q (F0 m pc ls (.ref (X.2.2.1 0) :: .int x :: .ref (X.2.1 (T.length + i)) :: rest)) := by
  subst hL
  exact cw_wast C hg hM (cw_atL.trans hT) hi hin hdg hpc (fun H locs hM => kk H locs (by rw [cw_setL] at hM; exact hM))
theorem cn_iast (C : cw_C X G p m c cc nL s args own meth) (hM : cw_H X s (T.set o d ++ L) H locs cells) {i n j : Nat} {v x : Int32} (hT : L[i]? = some (.inr (0, n, j, 0, 0, v))) (hi : x.toNatClampNeg = j) (hin : vp_in x n) (hL : L.set i (.inr (0, n, j + 1, 0, 0, v)) = L') (hdg : decode cc pc = .ok (.iastore, 1)) (hpc : pc + 1 = pc2)
    (kk : ∀ (H : Heap) (locs : List Loc), cw_H X s (T.set o d ++ L') H locs cells → W p l e R s m args below meth c H locs cells slots Q (F0 m pc2 ls rest)) : W p l e R s m args below meth c H locs cells slots Q (F0 m pc ls (.int v :: .int x :: .ref (X.2.1 (T.length + i)) :: rest)) := by
  subst hL
  exact cw_iast C hM (cw_atL.trans hT) hi hin hdg hpc (fun H locs hM => kk H locs (by rw [cw_setL] at hM; exact hM))
end CNR

theorem bl_1 {X : XE} : ∀ j, j < 10 → defaultValue (tyX1 j) = vp_V ((([(3, 0, 0), (3, 0, 0), (3, 0, 0), (3, 0, 0), (0, 0, 0), (0, 0, 0), (0, 0, 0), (0, 0, 0), (0, 0, 0), (0, 0, 0)] : List FD)).map (cw_f X)) j
  | 0, _ => rfl
  | 1, _ => rfl
  | 2, _ => rfl
  | 3, _ => rfl
  | 4, _ => rfl
  | 5, _ => rfl
  | 6, _ => rfl
  | 7, _ => rfl
  | 8, _ => rfl
  | 9, _ => rfl
  | n + 10, h => absurd h (by omega)
theorem bl_2 {X : XE} : ∀ j, j < 4 → defaultValue (tyX2 j) = vp_V ((([(0, 0, 0), (0, 0, 0), (3, 0, 0), (3, 0, 0)] : List FD)).map (cw_f X)) j
  | 0, _ => rfl
  | 1, _ => rfl
  | 2, _ => rfl
  | 3, _ => rfl
  | n + 4, h => absurd h (by omega)
theorem bl_3 {X : XE} : ∀ j, j < 18 → defaultValue (tyX3 j) = vp_V ((([(0, 0, 0), (0, 0, 0), (3, 0, 0), (3, 0, 0), (3, 0, 0), (3, 0, 0), (3, 0, 0), (3, 0, 0), (3, 0, 0), (3, 0, 0), (3, 0, 0), (0, 0, 0), (0, 0, 0), (0, 0, 0), (0, 0, 0), (0, 0, 0), (0, 0, 0), (0, 0, 0)] : List FD)).map (cw_f X)) j
  | 0, _ => rfl
  | 1, _ => rfl
  | 2, _ => rfl
  | 3, _ => rfl
  | 4, _ => rfl
  | 5, _ => rfl
  | 6, _ => rfl
  | 7, _ => rfl
  | 8, _ => rfl
  | 9, _ => rfl
  | 10, _ => rfl
  | 11, _ => rfl
  | 12, _ => rfl
  | 13, _ => rfl
  | 14, _ => rfl
  | 15, _ => rfl
  | 16, _ => rfl
  | 17, _ => rfl
  | n + 18, h => absurd h (by omega)
theorem bl_4 {X : XE} : ∀ j, j < 2 → defaultValue (tyX4 j) = vp_V ((([(3, 0, 0), (0, 0, 0)] : List FD)).map (cw_f X)) j
  | 0, _ => rfl
  | 1, _ => rfl
  | n + 2, h => absurd h (by omega)
theorem bl_5 {X : XE} : ∀ j, j < 2 → defaultValue (tyX5 j) = vp_V ((([(3, 0, 0), (0, 0, 0)] : List FD)).map (cw_f X)) j
  | 0, _ => rfl
  | 1, _ => rfl
  | n + 2, h => absurd h (by omega)
theorem bl_6 {X : XE} : ∀ j, j < 7 → defaultValue (tyX6 j) = vp_V ((([(3, 0, 0), (0, 0, 0), (3, 0, 0), (0, 0, 0), (3, 0, 0), (3, 0, 0), (3, 0, 0)] : List FD)).map (cw_f X)) j
  | 0, _ => rfl
  | 1, _ => rfl
  | 2, _ => rfl
  | 3, _ => rfl
  | 4, _ => rfl
  | 5, _ => rfl
  | 6, _ => rfl
  | n + 7, h => absurd h (by omega)
theorem bl_7 {X : XE} : ∀ j, j < 12 → defaultValue (tyX7 j) = vp_V ((([(3, 0, 0), (3, 0, 0), (3, 0, 0), (3, 0, 0), (3, 0, 0), (3, 0, 0), (0, 0, 0), (0, 0, 0), (0, 0, 0), (0, 0, 0), (0, 0, 0), (0, 0, 0)] : List FD)).map (cw_f X)) j
  | 0, _ => rfl
  | 1, _ => rfl
  | 2, _ => rfl
  | 3, _ => rfl
  | 4, _ => rfl
  | 5, _ => rfl
  | 6, _ => rfl
  | 7, _ => rfl
  | 8, _ => rfl
  | 9, _ => rfl
  | 10, _ => rfl
  | 11, _ => rfl
  | n + 12, h => absurd h (by omega)
theorem bl_8 {X : XE} : ∀ j, j < 5 → defaultValue (tyX8 j) = vp_V ((([(3, 0, 0), (3, 0, 0), (3, 0, 0), (0, 0, 0), (0, 0, 0)] : List FD)).map (cw_f X)) j
  | 0, _ => rfl
  | 1, _ => rfl
  | 2, _ => rfl
  | 3, _ => rfl
  | 4, _ => rfl
  | n + 5, h => absurd h (by omega)
theorem bl_9 {X : XE} : ∀ j, j < 13 → defaultValue (tyX9 j) = vp_V ((([(3, 0, 0), (3, 0, 0), (3, 0, 0), (3, 0, 0), (3, 0, 0), (3, 0, 0), (3, 0, 0), (3, 0, 0), (3, 0, 0), (0, 0, 0), (0, 0, 0), (0, 0, 0), (0, 0, 0)] : List FD)).map (cw_f X)) j
  | 0, _ => rfl
  | 1, _ => rfl
  | 2, _ => rfl
  | 3, _ => rfl
  | 4, _ => rfl
  | 5, _ => rfl
  | 6, _ => rfl
  | 7, _ => rfl
  | 8, _ => rfl
  | 9, _ => rfl
  | 10, _ => rfl
  | 11, _ => rfl
  | 12, _ => rfl
  | n + 13, h => absurd h (by omega)
theorem bl_10 {X : XE} : ∀ j, j < 2 → defaultValue (tyX10 j) = vp_V ((([(3, 0, 0), (0, 0, 0)] : List FD)).map (cw_f X)) j
  | 0, _ => rfl
  | 1, _ => rfl
  | n + 2, h => absurd h (by omega)
