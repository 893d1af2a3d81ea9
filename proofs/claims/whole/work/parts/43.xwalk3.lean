theorem dX4_add_0 : decode cX4_add 0 = .ok (.aload_n 0, 1) := by decide +kernel
theorem dX4_add_1 : decode cX4_add 1 = .ok (.getfield 28, 3) := by decide +kernel
theorem dX4_add_4 : decode cX4_add 4 = .ok (.sipush 128, 3) := by decide +kernel
theorem dX4_add_7 : decode cX4_add 7 = .ok (.if_icmp .ge 24, 3) := by decide +kernel
theorem dX4_add_10 : decode cX4_add 10 = .ok (.aload_n 0, 1) := by decide +kernel
theorem dX4_add_11 : decode cX4_add 11 = .ok (.getfield 11, 3) := by decide +kernel
theorem dX4_add_14 : decode cX4_add 14 = .ok (.aload_n 0, 1) := by decide +kernel
theorem dX4_add_15 : decode cX4_add 15 = .ok (.getfield 28, 3) := by decide +kernel
theorem dX4_add_18 : decode cX4_add 18 = .ok (.iload_n 1, 1) := by decide +kernel
theorem dX4_add_19 : decode cX4_add 19 = .ok (.i2b, 1) := by decide +kernel
theorem dX4_add_20 : decode cX4_add 20 = .ok (.bastore, 1) := by decide +kernel
theorem dX4_add_21 : decode cX4_add 21 = .ok (.aload_n 0, 1) := by decide +kernel
theorem dX4_add_22 : decode cX4_add 22 = .ok (.dup, 1) := by decide +kernel
theorem dX4_add_23 : decode cX4_add 23 = .ok (.getfield 28, 3) := by decide +kernel
theorem dX4_add_26 : decode cX4_add 26 = .ok (.iconst 1, 1) := by decide +kernel
theorem dX4_add_27 : decode cX4_add 27 = .ok (.iadd, 1) := by decide +kernel
theorem dX4_add_28 : decode cX4_add 28 = .ok (.putfield 28, 3) := by decide +kernel
theorem dX4_add_31 : decode cX4_add 31 = .ok (.return_, 1) := by decide +kernel
set_option maxRecDepth 100000 in
set_option maxHeartbeats 4000000 in
theorem kX4_add {E : KE} {l : Launch} (hE : mx_ok E) (i1 : Int32) (hT : xOK E) (M : MM) {q : MM} (hf : fX4_add i1 M = some q) : mx_Met E l yX4_add cX4_add 2 none 0 [.ref (E.2.1.2.1 152), .int i1] M none q := by
  refine mx_enter hE (by decide) (Nat.le_of_ble_eq_true rfl) ?_
  intro p e s m below meth c C hM hn ls hl
  have hx := C.1.1
  have hb := C.1.2.1
  have hown := C.1.2.2.2.1
  have hts := C.1.2.2.2.2
  have hl : lv_has ls 2 [(0, .ref (E.2.1.2.1 152)), (1, .int i1)] := hl
  rw [fX4_add] at hf
  refine lv_aload_n hx hb dX4_add_0 rfl (lv_at hl 0 rfl) ?_
  refine gX4_28 C hM (xt_152 hT) (f := (0, 0)) rfl (v := .int (M.1 152 1)) rfl dX4_add_1 ?_
  refine lv_sipush (v := (128 : Int32)) hx hb dX4_add_4 (by decide) ?_
  refine lv_icmp_ge (tgt := 31) hx hb dX4_add_7 (by decide) (fun hc7 => ?_) (fun hc7 => ?_)
  · replace hf := mx_ift hc7 hf
    exact mx_vret C hM hf dX4_add_31
  · replace hf := mx_iff hc7 hf
    refine lv_aload_n hx hb dX4_add_10 rfl (lv_at hl 0 rfl) ?_
    refine gX4_11 C hM (xt_152 hT) (f := (2, 153)) rfl (v := .ref (E.2.1.2.1 153)) rfl dX4_add_11 ?_
    refine lv_aload_n hx hb dX4_add_14 rfl (lv_at hl 0 rfl) ?_
    refine gX4_28 C hM (xt_152 hT) (f := (0, 0)) rfl (v := .int (M.1 152 1)) rfl dX4_add_15 ?_
    refine lv_iload_n hx hb dX4_add_18 rfl (lv_at hl 1 rfl) ?_
    refine lv_i2b (v := i1.toInt8.toInt32) hx hb dX4_add_19 rfl ?_
    obtain ⟨hg20, hf⟩ := mx_gd hf
    refine mx_bast C hM (xt_153 hT) (mx_in_vp hg20) dX4_add_20 (fun H locs hM => ?_)
    refine lv_aload_n hx hb dX4_add_21 rfl (lv_at hl 0 rfl) ?_
    refine lv_dup hx hb dX4_add_22 rfl ?_
    refine gX4_28 C hM (xt_152 hT) (f := (0, 0)) rfl (v := .int ((mx_si M 153 (M.1 152 1).toNatClampNeg i1.toInt8.toInt32.toInt8.toInt32).1 152 1)) rfl dX4_add_23 ?_
    refine lv_iconst (v := (1 : Int32)) hx hb dX4_add_26 (by decide) ?_
    refine lv_iadd hx hb dX4_add_27 ?_
    refine pX4_28 C hM (xt_152 hT) rfl rfl rfl dX4_add_28 (fun H locs hM => ?_)
    exact mx_vret C hM hf dX4_add_31
theorem dX4_addName_0 : decode cX4_addName 0 = .ok (.bipush 30, 2) := by decide +kernel
theorem dX4_addName_2 : decode cX4_addName 2 = .ok (.istore_n 3, 1) := by decide +kernel
theorem dX4_addName_3 : decode cX4_addName 3 = .ok (.iload_n 3, 1) := by decide +kernel
theorem dX4_addName_4 : decode cX4_addName 4 = .ok (.ifCond .lt 34, 3) := by decide +kernel
theorem dX4_addName_7 : decode cX4_addName 7 = .ok (.lload_n 1, 1) := by decide +kernel
theorem dX4_addName_8 : decode cX4_addName 8 = .ok (.iload_n 3, 1) := by decide +kernel
theorem dX4_addName_9 : decode cX4_addName 9 = .ok (.lushr, 1) := by decide +kernel
theorem dX4_addName_10 : decode cX4_addName 10 = .ok (.l2i, 1) := by decide +kernel
theorem dX4_addName_11 : decode cX4_addName 11 = .ok (.bipush 31, 2) := by decide +kernel
theorem dX4_addName_13 : decode cX4_addName 13 = .ok (.iand, 1) := by decide +kernel
theorem dX4_addName_14 : decode cX4_addName 14 = .ok (.istore 4, 2) := by decide +kernel
theorem dX4_addName_16 : decode cX4_addName 16 = .ok (.iload 4, 2) := by decide +kernel
theorem dX4_addName_18 : decode cX4_addName 18 = .ok (.ifCond .eq 14, 3) := by decide +kernel
theorem dX4_addName_21 : decode cX4_addName 21 = .ok (.aload_n 0, 1) := by decide +kernel
theorem dX4_addName_22 : decode cX4_addName 22 = .ok (.bipush 97, 2) := by decide +kernel
theorem dX4_addName_24 : decode cX4_addName 24 = .ok (.iload 4, 2) := by decide +kernel
theorem dX4_addName_26 : decode cX4_addName 26 = .ok (.iadd, 1) := by decide +kernel
theorem dX4_addName_27 : decode cX4_addName 27 = .ok (.iconst 1, 1) := by decide +kernel
theorem dX4_addName_28 : decode cX4_addName 28 = .ok (.isub, 1) := by decide +kernel
theorem dX4_addName_29 : decode cX4_addName 29 = .ok (.invokevirtual 53, 3) := by decide +kernel
theorem dX4_addName_32 : decode cX4_addName 32 = .ok (.iinc 3 (-5), 3) := by decide +kernel
theorem dX4_addName_35 : decode cX4_addName 35 = .ok (.goto (-32), 3) := by decide +kernel
theorem dX4_addName_38 : decode cX4_addName 38 = .ok (.return_, 1) := by decide +kernel
set_option maxRecDepth 100000 in
set_option maxHeartbeats 4000000 in
theorem wfX4_addName_3 {E : KE} {p : Program} {l : Launch} {e : Env} {s : State} {m : MethodId} {args : Array Value} {below : List Frame} {meth : Method} {c : Code} {q : MM} (C : mx_C E p m c cX4_addName 5 s args RX4 meth none) (l1 : Int64) (hT : xOK E)   : ∀ (n : Nat) (i3 : Int32) (M : MM) (H : Heap) (locs : List Loc) (ls : Array Slot), fX4_addName_3 l1 n i3 M = some q → mx_H E s M H locs → lv_has ls 5 [(0, .ref (E.2.1.2.1 152)), (1, .long l1), (3, .int i3)] → W p l e (mx_rm 1) s m args below meth c H locs 0 0 (mx_Z E below args s none q) (F0 m 3 ls []) := by
  have hx := C.1.1
  have hb := C.1.2.1
  have hown := C.1.2.2.2.1
  have hts := C.1.2.2.2.2
  intro n
  induction n with
  | zero =>
    intro i3 M H locs ls hf hM hl
    rw [fX4_addName_3] at hf
    cases hf
  | succ n ih =>
    intro i3 M H locs ls hf hM hl
    rw [fX4_addName_3] at hf
    refine lv_iload_n hx hb dX4_addName_3 rfl (lv_at hl 2 rfl) ?_
    refine lv_if_lt (tgt := 38) hx hb dX4_addName_4 (by decide) (fun hc4 => ?_) (fun hc4 => ?_)
    · replace hf := mx_ift hc4 hf
      exact mx_vret C hM hf dX4_addName_38
    · replace hf := mx_iff hc4 hf
      refine lv_lload_n hx hb dX4_addName_7 rfl (lv_at hl 1 rfl) ?_
      refine lv_iload_n hx hb dX4_addName_8 rfl (lv_at hl 2 rfl) ?_
      refine lv_lushr (v := (mx_lushr l1 i3)) hx hb dX4_addName_9 rfl ?_
      refine lv_l2i (v := ((mx_lushr l1 i3).toInt32)) hx hb dX4_addName_10 rfl ?_
      refine lv_bipush (v := (31 : Int32)) hx hb dX4_addName_11 (by decide) ?_
      refine lv_iand hx hb dX4_addName_13 ?_
      refine lv_istore (lv' := [(4, .int (((mx_lushr l1 i3).toInt32) &&& (31 : Int32))), (0, .ref (E.2.1.2.1 152)), (1, .long l1), (3, .int i3)]) hx hb dX4_addName_14 hl (by decide) rfl (fun ls hl => ?_)
      refine lv_iload hx hb dX4_addName_16 (lv_at hl 0 rfl) ?_
      refine lv_if_eq (tgt := 32) hx hb dX4_addName_18 (by decide) (fun hc18 => ?_) (fun hc18 => ?_)
      · replace hf := mx_ift hc18 hf
        refine lv_iinc (v := (i3 + (-5 : Int32))) (lv' := [(3, .int (i3 + (-5 : Int32))), (4, .int (((mx_lushr l1 i3).toInt32) &&& (31 : Int32))), (0, .ref (E.2.1.2.1 152)), (1, .long l1)]) hx hb dX4_addName_32 hl (k := 3) rfl rfl (by decide) rfl (fun ls hl => ?_)
        refine lv_goto (tgt := 3) hx hb dX4_addName_35 (by decide) ?_
        exact ih (i3 + (-5 : Int32)) M _ _ _ hf hM (lv_sub hl [2, 3, 0] rfl)
      · replace hf := mx_iff hc18 hf
        refine lv_aload_n hx hb dX4_addName_21 rfl (lv_at hl 1 rfl) ?_
        refine lv_bipush (v := (97 : Int32)) hx hb dX4_addName_22 (by decide) ?_
        refine lv_iload hx hb dX4_addName_24 (lv_at hl 0 rfl) ?_
        refine lv_iadd hx hb dX4_addName_26 ?_
        refine lv_iconst (v := (1 : Int32)) hx hb dX4_addName_27 (by decide) ?_
        refine lv_isub hx hb dX4_addName_28 ?_
        obtain ⟨q29, hq29, hf⟩ := mx_bd hf
        refine mx_callV C hM hl.1 yo_X4_add (h' := 0) (by decide) qw_997 qw_999 qs_82 (ci := 4) (q := (RX4, TX4, 2)) rfl (xt_152 hT) (As := [.int (((97 : Int32) + (((mx_lushr l1 i3).toInt32) &&& (31 : Int32))) - (1 : Int32))]) (rest := []) (st1 := []) (kX4_add C.2.2.2.1 (((97 : Int32) + (((mx_lushr l1 i3).toInt32) &&& (31 : Int32))) - (1 : Int32)) hT M hq29) rfl rfl rfl (Nat.le_of_ble_eq_true rfl) dX4_addName_29 (fun H locs hM => ?_)
        refine lv_iinc (v := (i3 + (-5 : Int32))) (lv' := [(3, .int (i3 + (-5 : Int32))), (4, .int (((mx_lushr l1 i3).toInt32) &&& (31 : Int32))), (0, .ref (E.2.1.2.1 152)), (1, .long l1)]) hx hb dX4_addName_32 hl (k := 3) rfl rfl (by decide) rfl (fun ls hl => ?_)
        refine lv_goto (tgt := 3) hx hb dX4_addName_35 (by decide) ?_
        exact ih (i3 + (-5 : Int32)) q29 _ _ _ hf hM (lv_sub hl [2, 3, 0] rfl)
set_option maxRecDepth 100000 in
set_option maxHeartbeats 4000000 in
theorem kX4_addName {E : KE} {l : Launch} (hE : mx_ok E) (l1 : Int64) (hT : xOK E) (M : MM) {q : MM} (hf : fX4_addName l1 M = some q) : mx_Met E l yX4_addName cX4_addName 5 none 1 [.ref (E.2.1.2.1 152), .long l1] M none q := by
  refine mx_enter hE (by decide) (Nat.le_of_ble_eq_true rfl) ?_
  intro p e s m below meth c C hM hn ls hl
  have hx := C.1.1
  have hb := C.1.2.1
  have hown := C.1.2.2.2.1
  have hts := C.1.2.2.2.2
  have hl : lv_has ls 5 [(0, .ref (E.2.1.2.1 152)), (1, .long l1)] := hl
  rw [fX4_addName] at hf
  refine lv_bipush (v := (30 : Int32)) hx hb dX4_addName_0 (by decide) ?_
  refine lv_istore_n (lv' := [(3, .int (30 : Int32)), (0, .ref (E.2.1.2.1 152)), (1, .long l1)]) hx hb dX4_addName_2 rfl hl (by decide) rfl (fun ls hl => ?_)
  exact wfX4_addName_3 C l1 hT mx_fu (30 : Int32) M _ _ _ hf hM (lv_sub hl [1, 2, 0] rfl)
theorem dX4_addText_0 : decode cX4_addText 0 = .ok (.iconst 0, 1) := by decide +kernel
theorem dX4_addText_1 : decode cX4_addText 1 = .ok (.istore_n 2, 1) := by decide +kernel
theorem dX4_addText_2 : decode cX4_addText 2 = .ok (.iload_n 2, 1) := by decide +kernel
theorem dX4_addText_3 : decode cX4_addText 3 = .ok (.aload_n 1, 1) := by decide +kernel
theorem dX4_addText_4 : decode cX4_addText 4 = .ok (.invokevirtual 71, 3) := by decide +kernel
theorem dX4_addText_7 : decode cX4_addText 7 = .ok (.if_icmp .ge 18, 3) := by decide +kernel
theorem dX4_addText_10 : decode cX4_addText 10 = .ok (.aload_n 0, 1) := by decide +kernel
theorem dX4_addText_11 : decode cX4_addText 11 = .ok (.aload_n 1, 1) := by decide +kernel
theorem dX4_addText_12 : decode cX4_addText 12 = .ok (.iload_n 2, 1) := by decide +kernel
theorem dX4_addText_13 : decode cX4_addText 13 = .ok (.invokevirtual 76, 3) := by decide +kernel
theorem dX4_addText_16 : decode cX4_addText 16 = .ok (.invokevirtual 53, 3) := by decide +kernel
theorem dX4_addText_19 : decode cX4_addText 19 = .ok (.iinc 2 1, 3) := by decide +kernel
theorem dX4_addText_22 : decode cX4_addText 22 = .ok (.goto (-20), 3) := by decide +kernel
theorem dX4_addText_25 : decode cX4_addText 25 = .ok (.return_, 1) := by decide +kernel
set_option maxRecDepth 100000 in
set_option maxHeartbeats 4000000 in
theorem wfX4_addText_2 {E : KE} {p : Program} {l : Launch} {e : Env} {s : State} {m : MethodId} {args : Array Value} {below : List Frame} {meth : Method} {c : Code} {q : MM} (C : mx_C E p m c cX4_addText 3 s args RX4 meth none) (w1 : Nat) (hT : xOK E) (hw1 : w1 < 3)   : ∀ (n : Nat) (i2 : Int32) (M : MM) (H : Heap) (locs : List Loc) (ls : Array Slot), fX4_addText_2 w1 n i2 M = some q → mx_H E s M H locs → lv_has ls 3 [(0, .ref (E.2.1.2.1 152)), (1, .ref (E.2.1.2.2.1 (30 + w1))), (2, .int i2)] → W p l e (mx_rm 10) s m args below meth c H locs 0 0 (mx_Z E below args s none q) (F0 m 2 ls []) := by
  have hx := C.1.1
  have hb := C.1.2.1
  have hown := C.1.2.2.2.1
  have hts := C.1.2.2.2.2
  intro n
  induction n with
  | zero =>
    intro i2 M H locs ls hf hM hl
    rw [fX4_addText_2] at hf
    cases hf
  | succ n ih =>
    intro i2 M H locs ls hf hM hl
    rw [fX4_addText_2] at hf
    refine lv_iload_n hx hb dX4_addText_2 rfl (lv_at hl 2 rfl) ?_
    refine lv_aload_n hx hb dX4_addText_3 rfl (lv_at hl 1 rfl) ?_
    refine xs_length C hT hw1 hM hl.1 (by decide) qw_1006 (rest := [.int i2]) (st1 := [.int (xsl w1), .int i2]) rfl rfl (Nat.le_of_ble_eq_true rfl) dX4_addText_4 (fun H locs hM => ?_)
    refine lv_icmp_ge (tgt := 25) hx hb dX4_addText_7 (by decide) (fun hc7 => ?_) (fun hc7 => ?_)
    · replace hf := mx_ift hc7 hf
      exact mx_vret C hM hf dX4_addText_25
    · replace hf := mx_iff hc7 hf
      refine lv_aload_n hx hb dX4_addText_10 rfl (lv_at hl 0 rfl) ?_
      refine lv_aload_n hx hb dX4_addText_11 rfl (lv_at hl 1 rfl) ?_
      refine lv_iload_n hx hb dX4_addText_12 rfl (lv_at hl 2 rfl) ?_
      obtain ⟨hg13, hf⟩ := mx_gd hf
      refine xs_charAt C hT hw1 hg13 hM hl.1 (by decide) qw_1016 (rest := [.ref (E.2.1.2.1 152)]) (st1 := [.int (xsb w1 i2.toNatClampNeg), .ref (E.2.1.2.1 152)]) rfl rfl (Nat.le_of_ble_eq_true rfl) dX4_addText_13 (fun H locs hM => ?_)
      obtain ⟨q16, hq16, hf⟩ := mx_bd hf
      refine mx_callV C hM hl.1 yo_X4_add (h' := 0) (by decide) qw_997 qw_999 qs_82 (ci := 4) (q := (RX4, TX4, 2)) rfl (xt_152 hT) (As := [.int (xsb w1 i2.toNatClampNeg)]) (rest := []) (st1 := []) (kX4_add C.2.2.2.1 (xsb w1 i2.toNatClampNeg) hT M hq16) rfl rfl rfl (Nat.le_of_ble_eq_true rfl) dX4_addText_16 (fun H locs hM => ?_)
      refine lv_iinc (v := (i2 + (1 : Int32))) (lv' := [(2, .int (i2 + (1 : Int32))), (0, .ref (E.2.1.2.1 152)), (1, .ref (E.2.1.2.2.1 (30 + w1)))]) hx hb dX4_addText_19 hl (k := 2) rfl rfl (by decide) rfl (fun ls hl => ?_)
      refine lv_goto (tgt := 2) hx hb dX4_addText_22 (by decide) ?_
      exact ih (i2 + (1 : Int32)) q16 _ _ _ hf hM (lv_sub hl [1, 2, 0] rfl)
set_option maxRecDepth 100000 in
set_option maxHeartbeats 4000000 in
theorem kX4_addText {E : KE} {l : Launch} (hE : mx_ok E) (w1 : Nat) (hT : xOK E) (hw1 : w1 < 3) (M : MM) {q : MM} (hf : fX4_addText w1 M = some q) : mx_Met E l yX4_addText cX4_addText 3 none 10 [.ref (E.2.1.2.1 152), .ref (E.2.1.2.2.1 (30 + w1))] M none q := by
  refine mx_enter hE (by decide) (Nat.le_of_ble_eq_true rfl) ?_
  intro p e s m below meth c C hM hn ls hl
  have hx := C.1.1
  have hb := C.1.2.1
  have hown := C.1.2.2.2.1
  have hts := C.1.2.2.2.2
  have hl : lv_has ls 3 [(0, .ref (E.2.1.2.1 152)), (1, .ref (E.2.1.2.2.1 (30 + w1)))] := hl
  rw [fX4_addText] at hf
  refine lv_iconst (v := (0 : Int32)) hx hb dX4_addText_0 (by decide) ?_
  refine lv_istore_n (lv' := [(2, .int (0 : Int32)), (0, .ref (E.2.1.2.1 152)), (1, .ref (E.2.1.2.2.1 (30 + w1)))]) hx hb dX4_addText_1 rfl hl (by decide) rfl (fun ls hl => ?_)
  exact wfX4_addText_2 C w1 hT hw1 mx_fu (0 : Int32) M _ _ _ hf hM (lv_sub hl [1, 2, 0] rfl)
theorem dX4_write_0 : decode cX4_write 0 = .ok (.aload_n 1, 1) := by decide +kernel
theorem dX4_write_1 : decode cX4_write 1 = .ok (.getfield 15, 3) := by decide +kernel
theorem dX4_write_4 : decode cX4_write 4 = .ok (.astore_n 3, 1) := by decide +kernel
theorem dX4_write_5 : decode cX4_write 5 = .ok (.aload_n 1, 1) := by decide +kernel
theorem dX4_write_6 : decode cX4_write 6 = .ok (.iload_n 2, 1) := by decide +kernel
theorem dX4_write_7 : decode cX4_write 7 = .ok (.invokevirtual 21, 3) := by decide +kernel
theorem dX4_write_10 : decode cX4_write 10 = .ok (.istore 4, 2) := by decide +kernel
theorem dX4_write_12 : decode cX4_write 12 = .ok (.aload_n 1, 1) := by decide +kernel
theorem dX4_write_13 : decode cX4_write 13 = .ok (.iload_n 2, 1) := by decide +kernel
theorem dX4_write_14 : decode cX4_write 14 = .ok (.invokevirtual 25, 3) := by decide +kernel
theorem dX4_write_17 : decode cX4_write 17 = .ok (.istore 5, 2) := by decide +kernel
theorem dX4_write_19 : decode cX4_write 19 = .ok (.aload_n 0, 1) := by decide +kernel
theorem dX4_write_20 : decode cX4_write 20 = .ok (.iconst 0, 1) := by decide +kernel
theorem dX4_write_21 : decode cX4_write 21 = .ok (.putfield 28, 3) := by decide +kernel
theorem dX4_write_24 : decode cX4_write 24 = .ok (.aload_n 0, 1) := by decide +kernel
theorem dX4_write_25 : decode cX4_write 25 = .ok (.aload_n 3, 1) := by decide +kernel
theorem dX4_write_26 : decode cX4_write 26 = .ok (.getfield 32, 3) := by decide +kernel
theorem dX4_write_29 : decode cX4_write 29 = .ok (.iload_n 2, 1) := by decide +kernel
theorem dX4_write_30 : decode cX4_write 30 = .ok (.laload, 1) := by decide +kernel
theorem dX4_write_31 : decode cX4_write 31 = .ok (.invokevirtual 38, 3) := by decide +kernel
theorem dX4_write_34 : decode cX4_write 34 = .ok (.aload_n 0, 1) := by decide +kernel
theorem dX4_write_35 : decode cX4_write 35 = .ok (.ldc 42, 2) := by decide +kernel
theorem dX4_write_37 : decode cX4_write 37 = .ok (.invokevirtual 44, 3) := by decide +kernel
theorem dX4_write_40 : decode cX4_write 40 = .ok (.aload_n 0, 1) := by decide +kernel
theorem dX4_write_41 : decode cX4_write 41 = .ok (.bipush 48, 2) := by decide +kernel
theorem dX4_write_43 : decode cX4_write 43 = .ok (.iload 4, 2) := by decide +kernel
theorem dX4_write_45 : decode cX4_write 45 = .ok (.invokestatic 48, 3) := by decide +kernel
theorem dX4_write_48 : decode cX4_write 48 = .ok (.iadd, 1) := by decide +kernel
theorem dX4_write_49 : decode cX4_write 49 = .ok (.invokevirtual 53, 3) := by decide +kernel
theorem dX4_write_52 : decode cX4_write 52 = .ok (.iload 4, 2) := by decide +kernel
theorem dX4_write_54 : decode cX4_write 54 = .ok (.ifCond .eq 9, 3) := by decide +kernel
theorem dX4_write_57 : decode cX4_write 57 = .ok (.aload_n 0, 1) := by decide +kernel
theorem dX4_write_58 : decode cX4_write 58 = .ok (.ldc 57, 2) := by decide +kernel
theorem dX4_write_60 : decode cX4_write 60 = .ok (.invokevirtual 44, 3) := by decide +kernel
theorem dX4_write_63 : decode cX4_write 63 = .ok (.iconst 0, 1) := by decide +kernel
theorem dX4_write_64 : decode cX4_write 64 = .ok (.istore 6, 2) := by decide +kernel
theorem dX4_write_66 : decode cX4_write 66 = .ok (.iload 6, 2) := by decide +kernel
theorem dX4_write_68 : decode cX4_write 68 = .ok (.aload_n 3, 1) := by decide +kernel
theorem dX4_write_69 : decode cX4_write 69 = .ok (.getfield 59, 3) := by decide +kernel
theorem dX4_write_72 : decode cX4_write 72 = .ok (.if_icmp .ge 42, 3) := by decide +kernel
theorem dX4_write_75 : decode cX4_write 75 = .ok (.iload 4, 2) := by decide +kernel
theorem dX4_write_77 : decode cX4_write 77 = .ok (.iload 6, 2) := by decide +kernel
theorem dX4_write_79 : decode cX4_write 79 = .ok (.ishr, 1) := by decide +kernel
theorem dX4_write_80 : decode cX4_write 80 = .ok (.iconst 1, 1) := by decide +kernel
theorem dX4_write_81 : decode cX4_write 81 = .ok (.iand, 1) := by decide +kernel
theorem dX4_write_82 : decode cX4_write 82 = .ok (.iconst 1, 1) := by decide +kernel
theorem dX4_write_83 : decode cX4_write 83 = .ok (.if_icmp .ne 25, 3) := by decide +kernel
theorem dX4_write_86 : decode cX4_write 86 = .ok (.aload_n 0, 1) := by decide +kernel
theorem dX4_write_87 : decode cX4_write 87 = .ok (.bipush 32, 2) := by decide +kernel
theorem dX4_write_89 : decode cX4_write 89 = .ok (.invokevirtual 53, 3) := by decide +kernel
theorem dX4_write_92 : decode cX4_write 92 = .ok (.aload_n 0, 1) := by decide +kernel
theorem dX4_write_93 : decode cX4_write 93 = .ok (.aload_n 3, 1) := by decide +kernel
theorem dX4_write_94 : decode cX4_write 94 = .ok (.getfield 32, 3) := by decide +kernel
theorem dX4_write_97 : decode cX4_write 97 = .ok (.aload_n 3, 1) := by decide +kernel
theorem dX4_write_98 : decode cX4_write 98 = .ok (.getfield 62, 3) := by decide +kernel
theorem dX4_write_101 : decode cX4_write 101 = .ok (.iload 6, 2) := by decide +kernel
theorem dX4_write_103 : decode cX4_write 103 = .ok (.iaload, 1) := by decide +kernel
theorem dX4_write_104 : decode cX4_write 104 = .ok (.laload, 1) := by decide +kernel
theorem dX4_write_105 : decode cX4_write 105 = .ok (.invokevirtual 38, 3) := by decide +kernel
theorem dX4_write_108 : decode cX4_write 108 = .ok (.iinc 6 1, 3) := by decide +kernel
theorem dX4_write_111 : decode cX4_write 111 = .ok (.goto (-45), 3) := by decide +kernel
theorem dX4_write_114 : decode cX4_write 114 = .ok (.iload 5, 2) := by decide +kernel
theorem dX4_write_116 : decode cX4_write 116 = .ok (.iconst (-1), 1) := by decide +kernel
theorem dX4_write_117 : decode cX4_write 117 = .ok (.if_icmp .eq 20, 3) := by decide +kernel
theorem dX4_write_120 : decode cX4_write 120 = .ok (.aload_n 0, 1) := by decide +kernel
theorem dX4_write_121 : decode cX4_write 121 = .ok (.ldc 66, 2) := by decide +kernel
theorem dX4_write_123 : decode cX4_write 123 = .ok (.invokevirtual 44, 3) := by decide +kernel
theorem dX4_write_126 : decode cX4_write 126 = .ok (.aload_n 0, 1) := by decide +kernel
theorem dX4_write_127 : decode cX4_write 127 = .ok (.aload_n 3, 1) := by decide +kernel
theorem dX4_write_128 : decode cX4_write 128 = .ok (.getfield 68, 3) := by decide +kernel
theorem dX4_write_131 : decode cX4_write 131 = .ok (.iload 5, 2) := by decide +kernel
theorem dX4_write_133 : decode cX4_write 133 = .ok (.laload, 1) := by decide +kernel
theorem dX4_write_134 : decode cX4_write 134 = .ok (.invokevirtual 38, 3) := by decide +kernel
theorem dX4_write_137 : decode cX4_write 137 = .ok (.return_, 1) := by decide +kernel
set_option maxRecDepth 100000 in
set_option maxHeartbeats 4000000 in
theorem wfX4_write_66 {E : KE} {p : Program} {l : Launch} {e : Env} {s : State} {m : MethodId} {args : Array Value} {below : List Frame} {meth : Method} {c : Code} {q : MM} (C : mx_C E p m c cX4_write 7 s args RX4 meth none) (i2 : Int32) (hT : xOK E) (i4 : Int32) (i5 : Int32)  : ∀ (n : Nat) (i6 : Int32) (M : MM) (H : Heap) (locs : List Loc) (ls : Array Slot), fX4_write_66 i2 i4 i5 n i6 M = some q → mx_H E s M H locs → lv_has ls 7 [(0, .ref (E.2.1.2.1 152)), (3, .ref (E.2.1.2.1 9)), (4, .int i4), (5, .int i5), (6, .int i6)] → W p l e (mx_rm 11) s m args below meth c H locs 0 0 (mx_Z E below args s none q) (F0 m 66 ls []) := by
  have hx := C.1.1
  have hb := C.1.2.1
  have hown := C.1.2.2.2.1
  have hts := C.1.2.2.2.2
  intro n
  induction n with
  | zero =>
    intro i6 M H locs ls hf hM hl
    rw [fX4_write_66] at hf
    cases hf
  | succ n ih =>
    intro i6 M H locs ls hf hM hl
    rw [fX4_write_66] at hf
    refine lv_iload hx hb dX4_write_66 (lv_at hl 4 rfl) ?_
    refine lv_aload_n hx hb dX4_write_68 rfl (lv_at hl 1 rfl) ?_
    refine gX4_59 C hT hM (xt_9 hT) (f := (0, 0)) rfl (v := .int (M.1 9 1)) rfl dX4_write_69 ?_
    refine lv_icmp_ge (tgt := 114) hx hb dX4_write_72 (by decide) (fun hc72 => ?_) (fun hc72 => ?_)
    · replace hf := mx_ift hc72 hf
      refine lv_iload hx hb dX4_write_114 (lv_at hl 3 rfl) ?_
      refine lv_iconst (v := (-1 : Int32)) hx hb dX4_write_116 (by decide) ?_
      refine lv_icmp_eq (tgt := 137) hx hb dX4_write_117 (by decide) (fun hc117 => ?_) (fun hc117 => ?_)
      · replace hf := mx_ift hc117 hf
        exact mx_vret C hM hf dX4_write_137
      · replace hf := mx_iff hc117 hf
        refine lv_aload_n hx hb dX4_write_120 rfl (lv_at hl 0 rfl) ?_
        refine va_ldcS hx hb hown (hT.2 s C.2.2.1).2.2.2.2.2.2.2.2.1 dX4_write_121 ?_
        obtain ⟨q123, hq123, hf⟩ := mx_bd hf
        refine mx_callV C hM hl.1 yo_X4_addText (h' := 10) (by decide) qw_1002 qw_1004 qs_83 (ci := 4) (q := (RX4, TX4, 2)) rfl (xt_152 hT) (As := [.ref (E.2.1.2.2.1 (30 + 2))]) (rest := []) (st1 := []) (kX4_addText C.2.2.2.1 2 hT (by decide) M hq123) rfl rfl rfl (Nat.le_of_ble_eq_true rfl) dX4_write_123 (fun H locs hM => ?_)
        refine lv_aload_n hx hb dX4_write_126 rfl (lv_at hl 0 rfl) ?_
        refine lv_aload_n hx hb dX4_write_127 rfl (lv_at hl 1 rfl) ?_
        refine gX4_68 C hT hM (xt_9 hT) (f := (2, 14)) rfl (v := .ref (E.2.1.2.1 14)) rfl dX4_write_128 ?_
        refine lv_iload hx hb dX4_write_131 (lv_at hl 3 rfl) ?_
        obtain ⟨hg133, hf⟩ := mx_gd hf
        refine mx_lald C hM (xt_14 hT) (mx_in_vp hg133) dX4_write_133 ?_
        obtain ⟨q134, hq134, hf⟩ := mx_bd hf
        refine mx_callV C hM hl.1 yo_X4_addName (h' := 1) (by decide) qw_993 qw_995 qs_81 (ci := 4) (q := (RX4, TX4, 2)) rfl (xt_152 hT) (As := [.long (q123.2.1 14 i5.toNatClampNeg)]) (rest := []) (st1 := []) (kX4_addName C.2.2.2.1 (q123.2.1 14 i5.toNatClampNeg) hT q123 hq134) rfl rfl rfl (Nat.le_of_ble_eq_true rfl) dX4_write_134 (fun H locs hM => ?_)
        exact mx_vret C hM hf dX4_write_137
    · replace hf := mx_iff hc72 hf
      refine lv_iload hx hb dX4_write_75 (lv_at hl 2 rfl) ?_
      refine lv_iload hx hb dX4_write_77 (lv_at hl 4 rfl) ?_
      refine lv_ishr hx hb dX4_write_79 ?_
      refine lv_iconst (v := (1 : Int32)) hx hb dX4_write_80 (by decide) ?_
      refine lv_iand hx hb dX4_write_81 ?_
      refine lv_iconst (v := (1 : Int32)) hx hb dX4_write_82 (by decide) ?_
      refine lv_icmp_ne (tgt := 108) hx hb dX4_write_83 (by decide) (fun hc83 => ?_) (fun hc83 => ?_)
      · replace hf := mx_iff hc83 hf
        refine lv_iinc (v := (i6 + (1 : Int32))) (lv' := [(6, .int (i6 + (1 : Int32))), (0, .ref (E.2.1.2.1 152)), (3, .ref (E.2.1.2.1 9)), (4, .int i4), (5, .int i5)]) hx hb dX4_write_108 hl (k := 4) rfl rfl (by decide) rfl (fun ls hl => ?_)
        refine lv_goto (tgt := 66) hx hb dX4_write_111 (by decide) ?_
        exact ih (i6 + (1 : Int32)) M _ _ _ hf hM (lv_sub hl [1, 2, 3, 4, 0] rfl)
      · replace hf := mx_ift hc83 hf
        refine lv_aload_n hx hb dX4_write_86 rfl (lv_at hl 0 rfl) ?_
        refine lv_bipush (v := (32 : Int32)) hx hb dX4_write_87 (by decide) ?_
        obtain ⟨q89, hq89, hf⟩ := mx_bd hf
        refine mx_callV C hM hl.1 yo_X4_add (h' := 0) (by decide) qw_997 qw_999 qs_82 (ci := 4) (q := (RX4, TX4, 2)) rfl (xt_152 hT) (As := [.int (32 : Int32)]) (rest := []) (st1 := []) (kX4_add C.2.2.2.1 (32 : Int32) hT M hq89) rfl rfl rfl (Nat.le_of_ble_eq_true rfl) dX4_write_89 (fun H locs hM => ?_)
        refine lv_aload_n hx hb dX4_write_92 rfl (lv_at hl 0 rfl) ?_
        refine lv_aload_n hx hb dX4_write_93 rfl (lv_at hl 1 rfl) ?_
        refine gX4_32 C hT hM (xt_9 hT) (f := (2, 10)) rfl (v := .ref (E.2.1.2.1 10)) rfl dX4_write_94 ?_
        refine lv_aload_n hx hb dX4_write_97 rfl (lv_at hl 1 rfl) ?_
        refine gX4_62 C hT hM (xt_9 hT) (f := (2, 16)) rfl (v := .ref (E.2.1.2.1 16)) rfl dX4_write_98 ?_
        refine lv_iload hx hb dX4_write_101 (lv_at hl 4 rfl) ?_
        obtain ⟨hg103, hf⟩ := mx_gd hf
        refine mx_iald C hM (xt_16 hT) (mx_in_vp hg103) dX4_write_103 ?_
        obtain ⟨hg104, hf⟩ := mx_gd hf
        refine mx_lald C hM (xt_10 hT) (mx_in_vp hg104) dX4_write_104 ?_
        obtain ⟨q105, hq105, hf⟩ := mx_bd hf
        refine mx_callV C hM hl.1 yo_X4_addName (h' := 1) (by decide) qw_993 qw_995 qs_81 (ci := 4) (q := (RX4, TX4, 2)) rfl (xt_152 hT) (As := [.long (q89.2.1 10 (q89.1 16 i6.toNatClampNeg).toNatClampNeg)]) (rest := []) (st1 := []) (kX4_addName C.2.2.2.1 (q89.2.1 10 (q89.1 16 i6.toNatClampNeg).toNatClampNeg) hT q89 hq105) rfl rfl rfl (Nat.le_of_ble_eq_true rfl) dX4_write_105 (fun H locs hM => ?_)
        refine lv_iinc (v := (i6 + (1 : Int32))) (lv' := [(6, .int (i6 + (1 : Int32))), (0, .ref (E.2.1.2.1 152)), (3, .ref (E.2.1.2.1 9)), (4, .int i4), (5, .int i5)]) hx hb dX4_write_108 hl (k := 4) rfl rfl (by decide) rfl (fun ls hl => ?_)
        refine lv_goto (tgt := 66) hx hb dX4_write_111 (by decide) ?_
        exact ih (i6 + (1 : Int32)) q105 _ _ _ hf hM (lv_sub hl [1, 2, 3, 4, 0] rfl)
set_option maxRecDepth 100000 in
set_option maxHeartbeats 4000000 in
theorem kX4_write {E : KE} {l : Launch} (hE : mx_ok E) (i2 : Int32) (hT : xOK E) (M : MM) {q : MM} (hf : fX4_write i2 M = some q) : mx_Met E l yX4_write cX4_write 7 none 11 [.ref (E.2.1.2.1 152), .ref (E.2.1.2.1 29), .int i2] M none q := by
  refine mx_enter hE (by decide) (Nat.le_of_ble_eq_true rfl) ?_
  intro p e s m below meth c C hM hn ls hl
  have hx := C.1.1
  have hb := C.1.2.1
  have hown := C.1.2.2.2.1
  have hts := C.1.2.2.2.2
  have hl : lv_has ls 7 [(0, .ref (E.2.1.2.1 152)), (1, .ref (E.2.1.2.1 29)), (2, .int i2)] := hl
  rw [fX4_write] at hf
  refine lv_aload_n hx hb dX4_write_0 rfl (lv_at hl 1 rfl) ?_
  refine gX4_15 C hT hM (xt_29 hT) (f := (2, 9)) rfl (v := .ref (E.2.1.2.1 9)) rfl dX4_write_1 ?_
  refine lv_astore_n (lv' := [(3, .ref (E.2.1.2.1 9)), (0, .ref (E.2.1.2.1 152)), (1, .ref (E.2.1.2.1 29)), (2, .int i2)]) hx hb dX4_write_4 rfl hl (by decide) rfl (fun ls hl => ?_)
  refine lv_aload_n hx hb dX4_write_5 rfl (lv_at hl 2 rfl) ?_
  refine lv_iload_n hx hb dX4_write_6 rfl (lv_at hl 3 rfl) ?_
  obtain ⟨q7, hq7, hf⟩ := mx_bd hf
  refine mx_callVN C hM hl.1 yo_X9_keptBy (h' := 1) (by decide) (nw_991 hT C) qw_785 qs_55 (ci := 9) (q := (RX9, TX9, 13)) rfl (xt_29 hT) (As := [.int i2]) (rest := []) (st1 := [.int q7]) (kX9_keptBy C.2.2.2.1 29 i2 hT xiS_29 M hq7) rfl rfl rfl (Nat.le_of_ble_eq_true rfl) dX4_write_7 (fun H locs hM => ?_)
  refine lv_istore (lv' := [(4, .int q7), (3, .ref (E.2.1.2.1 9)), (0, .ref (E.2.1.2.1 152)), (1, .ref (E.2.1.2.1 29)), (2, .int i2)]) hx hb dX4_write_10 hl (by decide) rfl (fun ls hl => ?_)
  refine lv_aload_n hx hb dX4_write_12 rfl (lv_at hl 3 rfl) ?_
  refine lv_iload_n hx hb dX4_write_13 rfl (lv_at hl 4 rfl) ?_
  obtain ⟨q14, hq14, hf⟩ := mx_bd hf
  refine mx_callVN C hM hl.1 yo_X9_wornBy (h' := 0) (by decide) (nw_992 hT C) qw_748 qs_49 (ci := 9) (q := (RX9, TX9, 13)) rfl (xt_29 hT) (As := [.int i2]) (rest := []) (st1 := [.int q14]) (kX9_wornBy C.2.2.2.1 29 i2 hT xiS_29 M hq14) rfl rfl rfl (Nat.le_of_ble_eq_true rfl) dX4_write_14 (fun H locs hM => ?_)
  refine lv_istore (lv' := [(5, .int q14), (4, .int q7), (3, .ref (E.2.1.2.1 9)), (0, .ref (E.2.1.2.1 152)), (1, .ref (E.2.1.2.1 29)), (2, .int i2)]) hx hb dX4_write_17 hl (by decide) rfl (fun ls hl => ?_)
  refine lv_aload_n hx hb dX4_write_19 rfl (lv_at hl 3 rfl) ?_
  refine lv_iconst (v := (0 : Int32)) hx hb dX4_write_20 (by decide) ?_
  refine pX4_28 C hM (xt_152 hT) rfl rfl rfl dX4_write_21 (fun H locs hM => ?_)
  refine lv_aload_n hx hb dX4_write_24 rfl (lv_at hl 3 rfl) ?_
  refine lv_aload_n hx hb dX4_write_25 rfl (lv_at hl 2 rfl) ?_
  refine gX4_32 C hT hM (xt_9 hT) (f := (2, 10)) rfl (v := .ref (E.2.1.2.1 10)) rfl dX4_write_26 ?_
  refine lv_iload_n hx hb dX4_write_29 rfl (lv_at hl 5 rfl) ?_
  obtain ⟨hg30, hf⟩ := mx_gd hf
  refine mx_lald C hM (xt_10 hT) (mx_in_vp hg30) dX4_write_30 ?_
  obtain ⟨q31, hq31, hf⟩ := mx_bd hf
  refine mx_callV C hM hl.1 yo_X4_addName (h' := 1) (by decide) qw_993 qw_995 qs_81 (ci := 4) (q := (RX4, TX4, 2)) rfl (xt_152 hT) (As := [.long ((mx_si M 152 1 (0 : Int32)).2.1 10 i2.toNatClampNeg)]) (rest := []) (st1 := []) (kX4_addName C.2.2.2.1 ((mx_si M 152 1 (0 : Int32)).2.1 10 i2.toNatClampNeg) hT (mx_si M 152 1 (0 : Int32)) hq31) rfl rfl rfl (Nat.le_of_ble_eq_true rfl) dX4_write_31 (fun H locs hM => ?_)
  refine lv_aload_n hx hb dX4_write_34 rfl (lv_at hl 3 rfl) ?_
  refine va_ldcS hx hb hown (hT.2 s C.2.2.1).2.2.2.2.2.2.1 dX4_write_35 ?_
  obtain ⟨q37, hq37, hf⟩ := mx_bd hf
  refine mx_callV C hM hl.1 yo_X4_addText (h' := 10) (by decide) qw_1002 qw_1004 qs_83 (ci := 4) (q := (RX4, TX4, 2)) rfl (xt_152 hT) (As := [.ref (E.2.1.2.2.1 (30 + 0))]) (rest := []) (st1 := []) (kX4_addText C.2.2.2.1 0 hT (by decide) q31 hq37) rfl rfl rfl (Nat.le_of_ble_eq_true rfl) dX4_write_37 (fun H locs hM => ?_)
  refine lv_aload_n hx hb dX4_write_40 rfl (lv_at hl 3 rfl) ?_
  refine lv_bipush (v := (48 : Int32)) hx hb dX4_write_41 (by decide) ?_
  refine lv_iload hx hb dX4_write_43 (lv_at hl 1 rfl) ?_
  obtain ⟨q45, hq45, hf⟩ := mx_bd hf
  refine mx_callS C hM hl.1 yo_J6_bitCount_0f7a4 (h' := 0) (by decide) qw_1054 qw_788 (As := [.int q7]) (rest := [.int (48 : Int32), .ref (E.2.1.2.1 152)]) (st1 := [.int q45, .int (48 : Int32), .ref (E.2.1.2.1 152)]) (kJ6_bitCount_0f7a4 C.2.2.2.1 q7 q37 hq45) rfl rfl rfl (Nat.le_of_ble_eq_true rfl) dX4_write_45 (fun H locs hM => ?_)
  refine lv_iadd hx hb dX4_write_48 ?_
  obtain ⟨q49, hq49, hf⟩ := mx_bd hf
  refine mx_callV C hM hl.1 yo_X4_add (h' := 0) (by decide) qw_997 qw_999 qs_82 (ci := 4) (q := (RX4, TX4, 2)) rfl (xt_152 hT) (As := [.int ((48 : Int32) + q45)]) (rest := []) (st1 := []) (kX4_add C.2.2.2.1 ((48 : Int32) + q45) hT q37 hq49) rfl rfl rfl (Nat.le_of_ble_eq_true rfl) dX4_write_49 (fun H locs hM => ?_)
  refine lv_iload hx hb dX4_write_52 (lv_at hl 1 rfl) ?_
  refine lv_if_eq (tgt := 63) hx hb dX4_write_54 (by decide) (fun hc54 => ?_) (fun hc54 => ?_)
  · replace hf := mx_ift hc54 hf
    refine lv_iconst (v := (0 : Int32)) hx hb dX4_write_63 (by decide) ?_
    refine lv_istore (lv' := [(6, .int (0 : Int32)), (5, .int q14), (4, .int q7), (3, .ref (E.2.1.2.1 9)), (0, .ref (E.2.1.2.1 152)), (1, .ref (E.2.1.2.1 29)), (2, .int i2)]) hx hb dX4_write_64 hl (by decide) rfl (fun ls hl => ?_)
    exact wfX4_write_66 C i2 hT q7 q14 mx_fu (0 : Int32) q49 _ _ _ hf hM (lv_sub hl [4, 3, 2, 1, 0] rfl)
  · replace hf := mx_iff hc54 hf
    refine lv_aload_n hx hb dX4_write_57 rfl (lv_at hl 3 rfl) ?_
    refine va_ldcS hx hb hown (hT.2 s C.2.2.1).2.2.2.2.2.2.2.1 dX4_write_58 ?_
    obtain ⟨q60, hq60, hf⟩ := mx_bd hf
    refine mx_callV C hM hl.1 yo_X4_addText (h' := 10) (by decide) qw_1002 qw_1004 qs_83 (ci := 4) (q := (RX4, TX4, 2)) rfl (xt_152 hT) (As := [.ref (E.2.1.2.2.1 (30 + 1))]) (rest := []) (st1 := []) (kX4_addText C.2.2.2.1 1 hT (by decide) q49 hq60) rfl rfl rfl (Nat.le_of_ble_eq_true rfl) dX4_write_60 (fun H locs hM => ?_)
    refine lv_iconst (v := (0 : Int32)) hx hb dX4_write_63 (by decide) ?_
    refine lv_istore (lv' := [(6, .int (0 : Int32)), (5, .int q14), (4, .int q7), (3, .ref (E.2.1.2.1 9)), (0, .ref (E.2.1.2.1 152)), (1, .ref (E.2.1.2.1 29)), (2, .int i2)]) hx hb dX4_write_64 hl (by decide) rfl (fun ls hl => ?_)
    exact wfX4_write_66 C i2 hT q7 q14 mx_fu (0 : Int32) q60 _ _ _ hf hM (lv_sub hl [4, 3, 2, 1, 0] rfl)
theorem dX5_clear_0 : decode cX5_clear 0 = .ok (.aload_n 0, 1) := by decide +kernel
theorem dX5_clear_1 : decode cX5_clear 1 = .ok (.iconst 0, 1) := by decide +kernel
theorem dX5_clear_2 : decode cX5_clear 2 = .ok (.putfield 18, 3) := by decide +kernel
theorem dX5_clear_5 : decode cX5_clear 5 = .ok (.return_, 1) := by decide +kernel
set_option maxRecDepth 100000 in
set_option maxHeartbeats 4000000 in
theorem kX5_clear {E : KE} {l : Launch} (hE : mx_ok E)  (hT : xOK E) (M : MM) {q : MM} (hf : fX5_clear M = some q) : mx_Met E l yX5_clear cX5_clear 1 none 0 [.ref (E.2.1.2.1 56)] M none q := by
  refine mx_enter hE (by decide) (Nat.le_of_ble_eq_true rfl) ?_
  intro p e s m below meth c C hM hn ls hl
  have hx := C.1.1
  have hb := C.1.2.1
  have hown := C.1.2.2.2.1
  have hts := C.1.2.2.2.2
  have hl : lv_has ls 1 [(0, .ref (E.2.1.2.1 56))] := hl
  rw [fX5_clear] at hf
  refine lv_aload_n hx hb dX5_clear_0 rfl (lv_at hl 0 rfl) ?_
  refine lv_iconst (v := (0 : Int32)) hx hb dX5_clear_1 (by decide) ?_
  refine pX5_18 C hM (xt_56 hT) rfl rfl rfl dX5_clear_2 (fun H locs hM => ?_)
  exact mx_vret C hM hf dX5_clear_5
theorem dX5_dropOldest_0 : decode cX5_dropOldest 0 = .ok (.aload_n 0, 1) := by decide +kernel
theorem dX5_dropOldest_1 : decode cX5_dropOldest 1 = .ok (.getfield 11, 3) := by decide +kernel
theorem dX5_dropOldest_4 : decode cX5_dropOldest 4 = .ok (.iconst 0, 1) := by decide +kernel
theorem dX5_dropOldest_5 : decode cX5_dropOldest 5 = .ok (.aaload, 1) := by decide +kernel
theorem dX5_dropOldest_6 : decode cX5_dropOldest 6 = .ok (.astore_n 1, 1) := by decide +kernel
theorem dX5_dropOldest_7 : decode cX5_dropOldest 7 = .ok (.iconst 1, 1) := by decide +kernel
theorem dX5_dropOldest_8 : decode cX5_dropOldest 8 = .ok (.istore_n 2, 1) := by decide +kernel
theorem dX5_dropOldest_9 : decode cX5_dropOldest 9 = .ok (.iload_n 2, 1) := by decide +kernel
theorem dX5_dropOldest_10 : decode cX5_dropOldest 10 = .ok (.bipush 8, 2) := by decide +kernel
theorem dX5_dropOldest_12 : decode cX5_dropOldest 12 = .ok (.if_icmp .ge 23, 3) := by decide +kernel
theorem dX5_dropOldest_15 : decode cX5_dropOldest 15 = .ok (.aload_n 0, 1) := by decide +kernel
theorem dX5_dropOldest_16 : decode cX5_dropOldest 16 = .ok (.getfield 11, 3) := by decide +kernel
theorem dX5_dropOldest_19 : decode cX5_dropOldest 19 = .ok (.iload_n 2, 1) := by decide +kernel
theorem dX5_dropOldest_20 : decode cX5_dropOldest 20 = .ok (.iconst 1, 1) := by decide +kernel
theorem dX5_dropOldest_21 : decode cX5_dropOldest 21 = .ok (.isub, 1) := by decide +kernel
theorem dX5_dropOldest_22 : decode cX5_dropOldest 22 = .ok (.aload_n 0, 1) := by decide +kernel
theorem dX5_dropOldest_23 : decode cX5_dropOldest 23 = .ok (.getfield 11, 3) := by decide +kernel
theorem dX5_dropOldest_26 : decode cX5_dropOldest 26 = .ok (.iload_n 2, 1) := by decide +kernel
theorem dX5_dropOldest_27 : decode cX5_dropOldest 27 = .ok (.aaload, 1) := by decide +kernel
theorem dX5_dropOldest_28 : decode cX5_dropOldest 28 = .ok (.aastore, 1) := by decide +kernel
theorem dX5_dropOldest_29 : decode cX5_dropOldest 29 = .ok (.iinc 2 1, 3) := by decide +kernel
theorem dX5_dropOldest_32 : decode cX5_dropOldest 32 = .ok (.goto (-23), 3) := by decide +kernel
theorem dX5_dropOldest_35 : decode cX5_dropOldest 35 = .ok (.aload_n 0, 1) := by decide +kernel
theorem dX5_dropOldest_36 : decode cX5_dropOldest 36 = .ok (.getfield 11, 3) := by decide +kernel
theorem dX5_dropOldest_39 : decode cX5_dropOldest 39 = .ok (.bipush 7, 2) := by decide +kernel
theorem dX5_dropOldest_41 : decode cX5_dropOldest 41 = .ok (.aload_n 1, 1) := by decide +kernel
theorem dX5_dropOldest_42 : decode cX5_dropOldest 42 = .ok (.aastore, 1) := by decide +kernel
theorem dX5_dropOldest_43 : decode cX5_dropOldest 43 = .ok (.aload_n 0, 1) := by decide +kernel
theorem dX5_dropOldest_44 : decode cX5_dropOldest 44 = .ok (.bipush 7, 2) := by decide +kernel
theorem dX5_dropOldest_46 : decode cX5_dropOldest 46 = .ok (.putfield 18, 3) := by decide +kernel
theorem dX5_dropOldest_49 : decode cX5_dropOldest 49 = .ok (.return_, 1) := by decide +kernel
set_option maxRecDepth 100000 in
set_option maxHeartbeats 4000000 in
theorem wfX5_dropOldest_9 {E : KE} {p : Program} {l : Launch} {e : Env} {s : State} {m : MethodId} {args : Array Value} {below : List Frame} {meth : Method} {c : Code} {q : MM} (C : mx_C E p m c cX5_dropOldest 3 s args RX5 meth none)  (hT : xOK E) (c1 : Nat)  : ∀ (n : Nat) (i2 : Int32) (M : MM) (H : Heap) (locs : List Loc) (ls : Array Slot), fX5_dropOldest_9 c1 n i2 M = some q → mx_H E s M H locs → lv_has ls 3 [(0, .ref (E.2.1.2.1 56)), (1, .ref (E.2.1.2.1 c1)), (2, .int i2)] → W p l e (mx_rm 0) s m args below meth c H locs 0 0 (mx_Z E below args s none q) (F0 m 9 ls []) := by
  have hx := C.1.1
  have hb := C.1.2.1
  have hown := C.1.2.2.2.1
  have hts := C.1.2.2.2.2
  intro n
  induction n with
  | zero =>
    intro i2 M H locs ls hf hM hl
    rw [fX5_dropOldest_9] at hf
    cases hf
  | succ n ih =>
    intro i2 M H locs ls hf hM hl
    rw [fX5_dropOldest_9] at hf
    refine lv_iload_n hx hb dX5_dropOldest_9 rfl (lv_at hl 2 rfl) ?_
    refine lv_bipush (v := (8 : Int32)) hx hb dX5_dropOldest_10 (by decide) ?_
    refine lv_icmp_ge (tgt := 35) hx hb dX5_dropOldest_12 (by decide) (fun hc12 => ?_) (fun hc12 => ?_)
    · replace hf := mx_ift hc12 hf
      refine lv_aload_n hx hb dX5_dropOldest_35 rfl (lv_at hl 0 rfl) ?_
      refine gX5_11 C hM (xt_56 hT) (f := (2, 57)) rfl (v := .ref (E.2.1.2.1 57)) rfl dX5_dropOldest_36 ?_
      refine lv_bipush (v := (7 : Int32)) hx hb dX5_dropOldest_39 (by decide) ?_
      refine lv_aload_n hx hb dX5_dropOldest_41 rfl (lv_at hl 1 rfl) ?_
      obtain ⟨hi42, hf⟩ := mx_gd hf
      refine mx_aast4 C hM (xt_57 hT) (xoS hT hi42) (j := 7) (by decide) (mx_in_vp (by decide)) dX5_dropOldest_42 (fun H locs hM => ?_)
      refine lv_aload_n hx hb dX5_dropOldest_43 rfl (lv_at hl 0 rfl) ?_
      refine lv_bipush (v := (7 : Int32)) hx hb dX5_dropOldest_44 (by decide) ?_
      refine pX5_18 C hM (xt_56 hT) rfl rfl rfl dX5_dropOldest_46 (fun H locs hM => ?_)
      exact mx_vret C hM hf dX5_dropOldest_49
    · replace hf := mx_iff hc12 hf
      refine lv_aload_n hx hb dX5_dropOldest_15 rfl (lv_at hl 0 rfl) ?_
      refine gX5_11 C hM (xt_56 hT) (f := (2, 57)) rfl (v := .ref (E.2.1.2.1 57)) rfl dX5_dropOldest_16 ?_
      refine lv_iload_n hx hb dX5_dropOldest_19 rfl (lv_at hl 2 rfl) ?_
      refine lv_iconst (v := (1 : Int32)) hx hb dX5_dropOldest_20 (by decide) ?_
      refine lv_isub hx hb dX5_dropOldest_21 ?_
      refine lv_aload_n hx hb dX5_dropOldest_22 rfl (lv_at hl 0 rfl) ?_
      refine gX5_11 C hM (xt_56 hT) (f := (2, 57)) rfl (v := .ref (E.2.1.2.1 57)) rfl dX5_dropOldest_23 ?_
      refine lv_iload_n hx hb dX5_dropOldest_26 rfl (lv_at hl 2 rfl) ?_
      obtain ⟨hg27, hf⟩ := mx_gd hf
      refine mx_aald4 C hM (xt_57 hT) (mx_in_vp hg27) dX5_dropOldest_27 ?_
      obtain ⟨hg28, hf⟩ := mx_gd hf
      obtain ⟨hi28, hf⟩ := mx_gd hf
      refine mx_aast4 C hM (xt_57 hT) (xoS hT hi28) (j := (i2 - (1 : Int32)).toNatClampNeg) rfl (mx_in_vp hg28) dX5_dropOldest_28 (fun H locs hM => ?_)
      refine lv_iinc (v := (i2 + (1 : Int32))) (lv' := [(2, .int (i2 + (1 : Int32))), (0, .ref (E.2.1.2.1 56)), (1, .ref (E.2.1.2.1 c1))]) hx hb dX5_dropOldest_29 hl (k := 2) rfl rfl (by decide) rfl (fun ls hl => ?_)
      refine lv_goto (tgt := 9) hx hb dX5_dropOldest_32 (by decide) ?_
      exact ih (i2 + (1 : Int32)) (mx_sr M 57 ((i2 - (1 : Int32)).toNatClampNeg) (M.2.2 57 i2.toNatClampNeg)) _ _ _ hf hM (lv_sub hl [1, 2, 0] rfl)
set_option maxRecDepth 100000 in
set_option maxHeartbeats 4000000 in
theorem kX5_dropOldest {E : KE} {l : Launch} (hE : mx_ok E)  (hT : xOK E) (M : MM) {q : MM} (hf : fX5_dropOldest M = some q) : mx_Met E l yX5_dropOldest cX5_dropOldest 3 none 0 [.ref (E.2.1.2.1 56)] M none q := by
  refine mx_enter hE (by decide) (Nat.le_of_ble_eq_true rfl) ?_
  intro p e s m below meth c C hM hn ls hl
  have hx := C.1.1
  have hb := C.1.2.1
  have hown := C.1.2.2.2.1
  have hts := C.1.2.2.2.2
  have hl : lv_has ls 3 [(0, .ref (E.2.1.2.1 56))] := hl
  rw [fX5_dropOldest] at hf
  refine lv_aload_n hx hb dX5_dropOldest_0 rfl (lv_at hl 0 rfl) ?_
  refine gX5_11 C hM (xt_56 hT) (f := (2, 57)) rfl (v := .ref (E.2.1.2.1 57)) rfl dX5_dropOldest_1 ?_
  refine lv_iconst (v := (0 : Int32)) hx hb dX5_dropOldest_4 (by decide) ?_
  refine mx_aald4L C hM (xt_57 hT) (j := 0) (by decide) (mx_in_vp (by decide)) dX5_dropOldest_5 ?_
  refine lv_astore_n (lv' := [(1, .ref (E.2.1.2.1 (M.2.2 57 0))), (0, .ref (E.2.1.2.1 56))]) hx hb dX5_dropOldest_6 rfl hl (by decide) rfl (fun ls hl => ?_)
  refine lv_iconst (v := (1 : Int32)) hx hb dX5_dropOldest_7 (by decide) ?_
  refine lv_istore_n (lv' := [(2, .int (1 : Int32)), (1, .ref (E.2.1.2.1 (M.2.2 57 0))), (0, .ref (E.2.1.2.1 56))]) hx hb dX5_dropOldest_8 rfl hl (by decide) rfl (fun ls hl => ?_)
  exact wfX5_dropOldest_9 C hT (M.2.2 57 0) mx_fu (1 : Int32) M _ _ _ hf hM (lv_sub hl [2, 1, 0] rfl)
theorem dX9_copyFrom_0 : decode cX9_copyFrom 0 = .ok (.aload_n 1, 1) := by decide +kernel
theorem dX9_copyFrom_1 : decode cX9_copyFrom 1 = .ok (.getfield 9, 3) := by decide +kernel
theorem dX9_copyFrom_4 : decode cX9_copyFrom 4 = .ok (.iconst 0, 1) := by decide +kernel
theorem dX9_copyFrom_5 : decode cX9_copyFrom 5 = .ok (.aload_n 0, 1) := by decide +kernel
theorem dX9_copyFrom_6 : decode cX9_copyFrom 6 = .ok (.getfield 9, 3) := by decide +kernel
theorem dX9_copyFrom_9 : decode cX9_copyFrom 9 = .ok (.iconst 0, 1) := by decide +kernel
theorem dX9_copyFrom_10 : decode cX9_copyFrom 10 = .ok (.bipush 7, 2) := by decide +kernel
theorem dX9_copyFrom_12 : decode cX9_copyFrom 12 = .ok (.invokestatic 70, 3) := by decide +kernel
theorem dX9_copyFrom_15 : decode cX9_copyFrom 15 = .ok (.aload_n 1, 1) := by decide +kernel
theorem dX9_copyFrom_16 : decode cX9_copyFrom 16 = .ok (.getfield 15, 3) := by decide +kernel
theorem dX9_copyFrom_19 : decode cX9_copyFrom 19 = .ok (.iconst 0, 1) := by decide +kernel
theorem dX9_copyFrom_20 : decode cX9_copyFrom 20 = .ok (.aload_n 0, 1) := by decide +kernel
theorem dX9_copyFrom_21 : decode cX9_copyFrom 21 = .ok (.getfield 15, 3) := by decide +kernel
theorem dX9_copyFrom_24 : decode cX9_copyFrom 24 = .ok (.iconst 0, 1) := by decide +kernel
theorem dX9_copyFrom_25 : decode cX9_copyFrom 25 = .ok (.bipush 7, 2) := by decide +kernel
theorem dX9_copyFrom_27 : decode cX9_copyFrom 27 = .ok (.invokestatic 70, 3) := by decide +kernel
theorem dX9_copyFrom_30 : decode cX9_copyFrom 30 = .ok (.aload_n 1, 1) := by decide +kernel
theorem dX9_copyFrom_31 : decode cX9_copyFrom 31 = .ok (.getfield 18, 3) := by decide +kernel
theorem dX9_copyFrom_34 : decode cX9_copyFrom 34 = .ok (.iconst 0, 1) := by decide +kernel
theorem dX9_copyFrom_35 : decode cX9_copyFrom 35 = .ok (.aload_n 0, 1) := by decide +kernel
theorem dX9_copyFrom_36 : decode cX9_copyFrom 36 = .ok (.getfield 18, 3) := by decide +kernel
theorem dX9_copyFrom_39 : decode cX9_copyFrom 39 = .ok (.iconst 0, 1) := by decide +kernel
theorem dX9_copyFrom_40 : decode cX9_copyFrom 40 = .ok (.bipush 7, 2) := by decide +kernel
theorem dX9_copyFrom_42 : decode cX9_copyFrom 42 = .ok (.invokestatic 70, 3) := by decide +kernel
theorem dX9_copyFrom_45 : decode cX9_copyFrom 45 = .ok (.aload_n 1, 1) := by decide +kernel
theorem dX9_copyFrom_46 : decode cX9_copyFrom 46 = .ok (.getfield 21, 3) := by decide +kernel
theorem dX9_copyFrom_49 : decode cX9_copyFrom 49 = .ok (.iconst 0, 1) := by decide +kernel
theorem dX9_copyFrom_50 : decode cX9_copyFrom 50 = .ok (.aload_n 0, 1) := by decide +kernel
theorem dX9_copyFrom_51 : decode cX9_copyFrom 51 = .ok (.getfield 21, 3) := by decide +kernel
theorem dX9_copyFrom_54 : decode cX9_copyFrom 54 = .ok (.iconst 0, 1) := by decide +kernel
theorem dX9_copyFrom_55 : decode cX9_copyFrom 55 = .ok (.bipush 7, 2) := by decide +kernel
theorem dX9_copyFrom_57 : decode cX9_copyFrom 57 = .ok (.invokestatic 70, 3) := by decide +kernel
theorem dX9_copyFrom_60 : decode cX9_copyFrom 60 = .ok (.aload_n 1, 1) := by decide +kernel
theorem dX9_copyFrom_61 : decode cX9_copyFrom 61 = .ok (.getfield 24, 3) := by decide +kernel
theorem dX9_copyFrom_64 : decode cX9_copyFrom 64 = .ok (.iconst 0, 1) := by decide +kernel
theorem dX9_copyFrom_65 : decode cX9_copyFrom 65 = .ok (.aload_n 0, 1) := by decide +kernel
theorem dX9_copyFrom_66 : decode cX9_copyFrom 66 = .ok (.getfield 24, 3) := by decide +kernel
theorem dX9_copyFrom_69 : decode cX9_copyFrom 69 = .ok (.iconst 0, 1) := by decide +kernel
theorem dX9_copyFrom_70 : decode cX9_copyFrom 70 = .ok (.bipush 7, 2) := by decide +kernel
theorem dX9_copyFrom_72 : decode cX9_copyFrom 72 = .ok (.invokestatic 70, 3) := by decide +kernel
theorem dX9_copyFrom_75 : decode cX9_copyFrom 75 = .ok (.aload_n 1, 1) := by decide +kernel
theorem dX9_copyFrom_76 : decode cX9_copyFrom 76 = .ok (.getfield 27, 3) := by decide +kernel
theorem dX9_copyFrom_79 : decode cX9_copyFrom 79 = .ok (.iconst 0, 1) := by decide +kernel
theorem dX9_copyFrom_80 : decode cX9_copyFrom 80 = .ok (.aload_n 0, 1) := by decide +kernel
theorem dX9_copyFrom_81 : decode cX9_copyFrom 81 = .ok (.getfield 27, 3) := by decide +kernel
theorem dX9_copyFrom_84 : decode cX9_copyFrom 84 = .ok (.iconst 0, 1) := by decide +kernel
theorem dX9_copyFrom_85 : decode cX9_copyFrom 85 = .ok (.bipush 7, 2) := by decide +kernel
theorem dX9_copyFrom_87 : decode cX9_copyFrom 87 = .ok (.invokestatic 70, 3) := by decide +kernel
theorem dX9_copyFrom_90 : decode cX9_copyFrom 90 = .ok (.aload_n 1, 1) := by decide +kernel
theorem dX9_copyFrom_91 : decode cX9_copyFrom 91 = .ok (.getfield 30, 3) := by decide +kernel
theorem dX9_copyFrom_94 : decode cX9_copyFrom 94 = .ok (.iconst 0, 1) := by decide +kernel
theorem dX9_copyFrom_95 : decode cX9_copyFrom 95 = .ok (.aload_n 0, 1) := by decide +kernel
theorem dX9_copyFrom_96 : decode cX9_copyFrom 96 = .ok (.getfield 30, 3) := by decide +kernel
theorem dX9_copyFrom_99 : decode cX9_copyFrom 99 = .ok (.iconst 0, 1) := by decide +kernel
theorem dX9_copyFrom_100 : decode cX9_copyFrom 100 = .ok (.bipush 7, 2) := by decide +kernel
theorem dX9_copyFrom_102 : decode cX9_copyFrom 102 = .ok (.invokestatic 70, 3) := by decide +kernel
theorem dX9_copyFrom_105 : decode cX9_copyFrom 105 = .ok (.aload_n 1, 1) := by decide +kernel
theorem dX9_copyFrom_106 : decode cX9_copyFrom 106 = .ok (.getfield 33, 3) := by decide +kernel
theorem dX9_copyFrom_109 : decode cX9_copyFrom 109 = .ok (.iconst 0, 1) := by decide +kernel
theorem dX9_copyFrom_110 : decode cX9_copyFrom 110 = .ok (.aload_n 0, 1) := by decide +kernel
theorem dX9_copyFrom_111 : decode cX9_copyFrom 111 = .ok (.getfield 33, 3) := by decide +kernel
theorem dX9_copyFrom_114 : decode cX9_copyFrom 114 = .ok (.iconst 0, 1) := by decide +kernel
theorem dX9_copyFrom_115 : decode cX9_copyFrom 115 = .ok (.bipush 7, 2) := by decide +kernel
theorem dX9_copyFrom_117 : decode cX9_copyFrom 117 = .ok (.invokestatic 70, 3) := by decide +kernel
theorem dX9_copyFrom_120 : decode cX9_copyFrom 120 = .ok (.aload_n 0, 1) := by decide +kernel
theorem dX9_copyFrom_121 : decode cX9_copyFrom 121 = .ok (.aload_n 1, 1) := by decide +kernel
theorem dX9_copyFrom_122 : decode cX9_copyFrom 122 = .ok (.getfield 58, 3) := by decide +kernel
theorem dX9_copyFrom_125 : decode cX9_copyFrom 125 = .ok (.putfield 58, 3) := by decide +kernel
theorem dX9_copyFrom_128 : decode cX9_copyFrom 128 = .ok (.aload_n 0, 1) := by decide +kernel
theorem dX9_copyFrom_129 : decode cX9_copyFrom 129 = .ok (.aload_n 1, 1) := by decide +kernel
theorem dX9_copyFrom_130 : decode cX9_copyFrom 130 = .ok (.getfield 61, 3) := by decide +kernel
theorem dX9_copyFrom_133 : decode cX9_copyFrom 133 = .ok (.putfield 61, 3) := by decide +kernel
theorem dX9_copyFrom_136 : decode cX9_copyFrom 136 = .ok (.aload_n 0, 1) := by decide +kernel
theorem dX9_copyFrom_137 : decode cX9_copyFrom 137 = .ok (.aload_n 1, 1) := by decide +kernel
theorem dX9_copyFrom_138 : decode cX9_copyFrom 138 = .ok (.getfield 64, 3) := by decide +kernel
theorem dX9_copyFrom_141 : decode cX9_copyFrom 141 = .ok (.putfield 64, 3) := by decide +kernel
theorem dX9_copyFrom_144 : decode cX9_copyFrom 144 = .ok (.return_, 1) := by decide +kernel
set_option maxRecDepth 100000 in
set_option maxHeartbeats 4000000 in
theorem kX9_copyFrom {E : KE} {l : Launch} (hE : mx_ok E) (o : Nat) (o1 : Nat) (hT : xOK E) (ho : xt_isS o = true) (ho1 : xt_isS o1 = true) (M : MM) {q : MM} (hf : fX9_copyFrom o o1 M = some q) : mx_Met E l yX9_copyFrom cX9_copyFrom 2 none 1 [.ref (E.2.1.2.1 o), .ref (E.2.1.2.1 o1)] M none q := by
  refine mx_enter hE (by decide) (Nat.le_of_ble_eq_true rfl) ?_
  intro p e s m below meth c C hM hn ls hl
  have hx := C.1.1
  have hb := C.1.2.1
  have hown := C.1.2.2.2.1
  have hts := C.1.2.2.2.2
  have hl : lv_has ls 2 [(0, .ref (E.2.1.2.1 o)), (1, .ref (E.2.1.2.1 o1))] := hl
  rw [fX9_copyFrom] at hf
  refine lv_aload_n hx hb dX9_copyFrom_0 rfl (lv_at hl 1 rfl) ?_
  refine gX9_9 C hM (xoS hT ho1) (f := (2, o1 + 1)) rfl (v := .ref (E.2.1.2.1 (o1 + 1))) rfl dX9_copyFrom_1 ?_
  refine lv_iconst (v := (0 : Int32)) hx hb dX9_copyFrom_4 (by decide) ?_
  refine lv_aload_n hx hb dX9_copyFrom_5 rfl (lv_at hl 0 rfl) ?_
  refine gX9_9 C hM (xoS hT ho) (f := (2, o + 1)) rfl (v := .ref (E.2.1.2.1 (o + 1))) rfl dX9_copyFrom_6 ?_
  refine lv_iconst (v := (0 : Int32)) hx hb dX9_copyFrom_9 (by decide) ?_
  refine lv_bipush (v := (7 : Int32)) hx hb dX9_copyFrom_10 (by decide) ?_
  refine mx_cpiR C hM hl.1 qw_696 (xaS_1 hT ho1) (xaS_1 hT ho) (n := (7 : Int32)) (by decide) (by decide) (by decide) dX9_copyFrom_12 (fun H locs hM => ?_)
  refine lv_aload_n hx hb dX9_copyFrom_15 rfl (lv_at hl 1 rfl) ?_
  refine gX9_15 C hM (xoS hT ho1) (f := (2, o1 + 2)) rfl (v := .ref (E.2.1.2.1 (o1 + 2))) rfl dX9_copyFrom_16 ?_
  refine lv_iconst (v := (0 : Int32)) hx hb dX9_copyFrom_19 (by decide) ?_
  refine lv_aload_n hx hb dX9_copyFrom_20 rfl (lv_at hl 0 rfl) ?_
  refine gX9_15 C hM (xoS hT ho) (f := (2, o + 2)) rfl (v := .ref (E.2.1.2.1 (o + 2))) rfl dX9_copyFrom_21 ?_
  refine lv_iconst (v := (0 : Int32)) hx hb dX9_copyFrom_24 (by decide) ?_
  refine lv_bipush (v := (7 : Int32)) hx hb dX9_copyFrom_25 (by decide) ?_
  refine mx_cpiR C hM hl.1 qw_696 (xaS_2 hT ho1) (xaS_2 hT ho) (n := (7 : Int32)) (by decide) (by decide) (by decide) dX9_copyFrom_27 (fun H locs hM => ?_)
  refine lv_aload_n hx hb dX9_copyFrom_30 rfl (lv_at hl 1 rfl) ?_
  refine gX9_18 C hM (xoS hT ho1) (f := (2, o1 + 3)) rfl (v := .ref (E.2.1.2.1 (o1 + 3))) rfl dX9_copyFrom_31 ?_
  refine lv_iconst (v := (0 : Int32)) hx hb dX9_copyFrom_34 (by decide) ?_
  refine lv_aload_n hx hb dX9_copyFrom_35 rfl (lv_at hl 0 rfl) ?_
  refine gX9_18 C hM (xoS hT ho) (f := (2, o + 3)) rfl (v := .ref (E.2.1.2.1 (o + 3))) rfl dX9_copyFrom_36 ?_
  refine lv_iconst (v := (0 : Int32)) hx hb dX9_copyFrom_39 (by decide) ?_
  refine lv_bipush (v := (7 : Int32)) hx hb dX9_copyFrom_40 (by decide) ?_
  refine mx_cpiR C hM hl.1 qw_696 (xaS_3 hT ho1) (xaS_3 hT ho) (n := (7 : Int32)) (by decide) (by decide) (by decide) dX9_copyFrom_42 (fun H locs hM => ?_)
  refine lv_aload_n hx hb dX9_copyFrom_45 rfl (lv_at hl 1 rfl) ?_
  refine gX9_21 C hM (xoS hT ho1) (f := (2, o1 + 4)) rfl (v := .ref (E.2.1.2.1 (o1 + 4))) rfl dX9_copyFrom_46 ?_
  refine lv_iconst (v := (0 : Int32)) hx hb dX9_copyFrom_49 (by decide) ?_
  refine lv_aload_n hx hb dX9_copyFrom_50 rfl (lv_at hl 0 rfl) ?_
  refine gX9_21 C hM (xoS hT ho) (f := (2, o + 4)) rfl (v := .ref (E.2.1.2.1 (o + 4))) rfl dX9_copyFrom_51 ?_
  refine lv_iconst (v := (0 : Int32)) hx hb dX9_copyFrom_54 (by decide) ?_
  refine lv_bipush (v := (7 : Int32)) hx hb dX9_copyFrom_55 (by decide) ?_
  refine mx_cpiR C hM hl.1 qw_696 (xaS_4 hT ho1) (xaS_4 hT ho) (n := (7 : Int32)) (by decide) (by decide) (by decide) dX9_copyFrom_57 (fun H locs hM => ?_)
  refine lv_aload_n hx hb dX9_copyFrom_60 rfl (lv_at hl 1 rfl) ?_
  refine gX9_24 C hM (xoS hT ho1) (f := (2, o1 + 5)) rfl (v := .ref (E.2.1.2.1 (o1 + 5))) rfl dX9_copyFrom_61 ?_
  refine lv_iconst (v := (0 : Int32)) hx hb dX9_copyFrom_64 (by decide) ?_
  refine lv_aload_n hx hb dX9_copyFrom_65 rfl (lv_at hl 0 rfl) ?_
  refine gX9_24 C hM (xoS hT ho) (f := (2, o + 5)) rfl (v := .ref (E.2.1.2.1 (o + 5))) rfl dX9_copyFrom_66 ?_
  refine lv_iconst (v := (0 : Int32)) hx hb dX9_copyFrom_69 (by decide) ?_
  refine lv_bipush (v := (7 : Int32)) hx hb dX9_copyFrom_70 (by decide) ?_
  refine mx_cpiR C hM hl.1 qw_696 (xaS_5 hT ho1) (xaS_5 hT ho) (n := (7 : Int32)) (by decide) (by decide) (by decide) dX9_copyFrom_72 (fun H locs hM => ?_)
  refine lv_aload_n hx hb dX9_copyFrom_75 rfl (lv_at hl 1 rfl) ?_
  refine gX9_27 C hM (xoS hT ho1) (f := (2, o1 + 6)) rfl (v := .ref (E.2.1.2.1 (o1 + 6))) rfl dX9_copyFrom_76 ?_
  refine lv_iconst (v := (0 : Int32)) hx hb dX9_copyFrom_79 (by decide) ?_
  refine lv_aload_n hx hb dX9_copyFrom_80 rfl (lv_at hl 0 rfl) ?_
  refine gX9_27 C hM (xoS hT ho) (f := (2, o + 6)) rfl (v := .ref (E.2.1.2.1 (o + 6))) rfl dX9_copyFrom_81 ?_
  refine lv_iconst (v := (0 : Int32)) hx hb dX9_copyFrom_84 (by decide) ?_
  refine lv_bipush (v := (7 : Int32)) hx hb dX9_copyFrom_85 (by decide) ?_
  refine mx_cpiR C hM hl.1 qw_696 (xaS_6 hT ho1) (xaS_6 hT ho) (n := (7 : Int32)) (by decide) (by decide) (by decide) dX9_copyFrom_87 (fun H locs hM => ?_)
  refine lv_aload_n hx hb dX9_copyFrom_90 rfl (lv_at hl 1 rfl) ?_
  refine gX9_30 C hM (xoS hT ho1) (f := (2, o1 + 7)) rfl (v := .ref (E.2.1.2.1 (o1 + 7))) rfl dX9_copyFrom_91 ?_
  refine lv_iconst (v := (0 : Int32)) hx hb dX9_copyFrom_94 (by decide) ?_
  refine lv_aload_n hx hb dX9_copyFrom_95 rfl (lv_at hl 0 rfl) ?_
  refine gX9_30 C hM (xoS hT ho) (f := (2, o + 7)) rfl (v := .ref (E.2.1.2.1 (o + 7))) rfl dX9_copyFrom_96 ?_
  refine lv_iconst (v := (0 : Int32)) hx hb dX9_copyFrom_99 (by decide) ?_
  refine lv_bipush (v := (7 : Int32)) hx hb dX9_copyFrom_100 (by decide) ?_
  refine mx_cpiR C hM hl.1 qw_696 (xaS_7 hT ho1) (xaS_7 hT ho) (n := (7 : Int32)) (by decide) (by decide) (by decide) dX9_copyFrom_102 (fun H locs hM => ?_)
  refine lv_aload_n hx hb dX9_copyFrom_105 rfl (lv_at hl 1 rfl) ?_
  refine gX9_33 C hM (xoS hT ho1) (f := (2, o1 + 8)) rfl (v := .ref (E.2.1.2.1 (o1 + 8))) rfl dX9_copyFrom_106 ?_
  refine lv_iconst (v := (0 : Int32)) hx hb dX9_copyFrom_109 (by decide) ?_
  refine lv_aload_n hx hb dX9_copyFrom_110 rfl (lv_at hl 0 rfl) ?_
  refine gX9_33 C hM (xoS hT ho) (f := (2, o + 8)) rfl (v := .ref (E.2.1.2.1 (o + 8))) rfl dX9_copyFrom_111 ?_
  refine lv_iconst (v := (0 : Int32)) hx hb dX9_copyFrom_114 (by decide) ?_
  refine lv_bipush (v := (7 : Int32)) hx hb dX9_copyFrom_115 (by decide) ?_
  refine mx_cpiR C hM hl.1 qw_696 (xaS_8 hT ho1) (xaS_8 hT ho) (n := (7 : Int32)) (by decide) (by decide) (by decide) dX9_copyFrom_117 (fun H locs hM => ?_)
  refine lv_aload_n hx hb dX9_copyFrom_120 rfl (lv_at hl 0 rfl) ?_
  refine lv_aload_n hx hb dX9_copyFrom_121 rfl (lv_at hl 1 rfl) ?_
  refine gX9_58 C hM (xoS hT ho1) (f := (0, 0)) rfl (v := .int ((mx_cpi (mx_cpi (mx_cpi (mx_cpi (mx_cpi (mx_cpi (mx_cpi (mx_cpi M (o1 + 1) (o + 1) 7) (o1 + 2) (o + 2) 7) (o1 + 3) (o + 3) 7) (o1 + 4) (o + 4) 7) (o1 + 5) (o + 5) 7) (o1 + 6) (o + 6) 7) (o1 + 7) (o + 7) 7) (o1 + 8) (o + 8) 7).1 o1 9)) rfl dX9_copyFrom_122 ?_
  refine pX9_58 C hM (xoS hT ho) rfl rfl rfl dX9_copyFrom_125 (fun H locs hM => ?_)
  refine lv_aload_n hx hb dX9_copyFrom_128 rfl (lv_at hl 0 rfl) ?_
  refine lv_aload_n hx hb dX9_copyFrom_129 rfl (lv_at hl 1 rfl) ?_
  refine gX9_61 C hM (xoS hT ho1) (f := (0, 0)) rfl (v := .int ((mx_si (mx_cpi (mx_cpi (mx_cpi (mx_cpi (mx_cpi (mx_cpi (mx_cpi (mx_cpi M (o1 + 1) (o + 1) 7) (o1 + 2) (o + 2) 7) (o1 + 3) (o + 3) 7) (o1 + 4) (o + 4) 7) (o1 + 5) (o + 5) 7) (o1 + 6) (o + 6) 7) (o1 + 7) (o + 7) 7) (o1 + 8) (o + 8) 7) o 9 ((mx_cpi (mx_cpi (mx_cpi (mx_cpi (mx_cpi (mx_cpi (mx_cpi (mx_cpi M (o1 + 1) (o + 1) 7) (o1 + 2) (o + 2) 7) (o1 + 3) (o + 3) 7) (o1 + 4) (o + 4) 7) (o1 + 5) (o + 5) 7) (o1 + 6) (o + 6) 7) (o1 + 7) (o + 7) 7) (o1 + 8) (o + 8) 7).1 o1 9)).1 o1 10)) rfl dX9_copyFrom_130 ?_
  refine pX9_61 C hM (xoS hT ho) rfl rfl rfl dX9_copyFrom_133 (fun H locs hM => ?_)
  refine lv_aload_n hx hb dX9_copyFrom_136 rfl (lv_at hl 0 rfl) ?_
  refine lv_aload_n hx hb dX9_copyFrom_137 rfl (lv_at hl 1 rfl) ?_
  refine gX9_64 C hM (xoS hT ho1) (f := (0, 0)) rfl (v := .int ((mx_si (mx_si (mx_cpi (mx_cpi (mx_cpi (mx_cpi (mx_cpi (mx_cpi (mx_cpi (mx_cpi M (o1 + 1) (o + 1) 7) (o1 + 2) (o + 2) 7) (o1 + 3) (o + 3) 7) (o1 + 4) (o + 4) 7) (o1 + 5) (o + 5) 7) (o1 + 6) (o + 6) 7) (o1 + 7) (o + 7) 7) (o1 + 8) (o + 8) 7) o 9 ((mx_cpi (mx_cpi (mx_cpi (mx_cpi (mx_cpi (mx_cpi (mx_cpi (mx_cpi M (o1 + 1) (o + 1) 7) (o1 + 2) (o + 2) 7) (o1 + 3) (o + 3) 7) (o1 + 4) (o + 4) 7) (o1 + 5) (o + 5) 7) (o1 + 6) (o + 6) 7) (o1 + 7) (o + 7) 7) (o1 + 8) (o + 8) 7).1 o1 9)) o 10 ((mx_si (mx_cpi (mx_cpi (mx_cpi (mx_cpi (mx_cpi (mx_cpi (mx_cpi (mx_cpi M (o1 + 1) (o + 1) 7) (o1 + 2) (o + 2) 7) (o1 + 3) (o + 3) 7) (o1 + 4) (o + 4) 7) (o1 + 5) (o + 5) 7) (o1 + 6) (o + 6) 7) (o1 + 7) (o + 7) 7) (o1 + 8) (o + 8) 7) o 9 ((mx_cpi (mx_cpi (mx_cpi (mx_cpi (mx_cpi (mx_cpi (mx_cpi (mx_cpi M (o1 + 1) (o + 1) 7) (o1 + 2) (o + 2) 7) (o1 + 3) (o + 3) 7) (o1 + 4) (o + 4) 7) (o1 + 5) (o + 5) 7) (o1 + 6) (o + 6) 7) (o1 + 7) (o + 7) 7) (o1 + 8) (o + 8) 7).1 o1 9)).1 o1 10)).1 o1 11)) rfl dX9_copyFrom_138 ?_
  refine pX9_64 C hM (xoS hT ho) rfl rfl rfl dX9_copyFrom_141 (fun H locs hM => ?_)
  exact mx_vret C hM hf dX9_copyFrom_144
theorem dX5_push_0 : decode cX5_push 0 = .ok (.aload_n 0, 1) := by decide +kernel
theorem dX5_push_1 : decode cX5_push 1 = .ok (.getfield 18, 3) := by decide +kernel
theorem dX5_push_4 : decode cX5_push 4 = .ok (.bipush 8, 2) := by decide +kernel
theorem dX5_push_6 : decode cX5_push 6 = .ok (.if_icmp .lt 7, 3) := by decide +kernel
theorem dX5_push_9 : decode cX5_push 9 = .ok (.aload_n 0, 1) := by decide +kernel
theorem dX5_push_10 : decode cX5_push 10 = .ok (.invokevirtual 22, 3) := by decide +kernel
theorem dX5_push_13 : decode cX5_push 13 = .ok (.aload_n 0, 1) := by decide +kernel
theorem dX5_push_14 : decode cX5_push 14 = .ok (.getfield 11, 3) := by decide +kernel
theorem dX5_push_17 : decode cX5_push 17 = .ok (.aload_n 0, 1) := by decide +kernel
theorem dX5_push_18 : decode cX5_push 18 = .ok (.getfield 18, 3) := by decide +kernel
theorem dX5_push_21 : decode cX5_push 21 = .ok (.aaload, 1) := by decide +kernel
theorem dX5_push_22 : decode cX5_push 22 = .ok (.aload_n 1, 1) := by decide +kernel
theorem dX5_push_23 : decode cX5_push 23 = .ok (.invokevirtual 25, 3) := by decide +kernel
theorem dX5_push_26 : decode cX5_push 26 = .ok (.aload_n 0, 1) := by decide +kernel
theorem dX5_push_27 : decode cX5_push 27 = .ok (.dup, 1) := by decide +kernel
theorem dX5_push_28 : decode cX5_push 28 = .ok (.getfield 18, 3) := by decide +kernel
theorem dX5_push_31 : decode cX5_push 31 = .ok (.iconst 1, 1) := by decide +kernel
theorem dX5_push_32 : decode cX5_push 32 = .ok (.iadd, 1) := by decide +kernel
theorem dX5_push_33 : decode cX5_push 33 = .ok (.putfield 18, 3) := by decide +kernel
theorem dX5_push_36 : decode cX5_push 36 = .ok (.return_, 1) := by decide +kernel
set_option maxRecDepth 100000 in
set_option maxHeartbeats 4000000 in
theorem wfX5_push_13 {E : KE} {p : Program} {l : Launch} {e : Env} {s : State} {m : MethodId} {args : Array Value} {below : List Frame} {meth : Method} {c : Code} {q : MM} (C : mx_C E p m c cX5_push 2 s args RX5 meth none) (o1 : Nat) (hT : xOK E) (ho1 : xt_isS o1 = true)   : ∀ (M : MM) (H : Heap) (locs : List Loc) (ls : Array Slot), fX5_push_13 o1 M = some q → mx_H E s M H locs → lv_has ls 2 [(0, .ref (E.2.1.2.1 56)), (1, .ref (E.2.1.2.1 o1))] → W p l e (mx_rm 2) s m args below meth c H locs 0 0 (mx_Z E below args s none q) (F0 m 13 ls []) := by
  have hx := C.1.1
  have hb := C.1.2.1
  have hown := C.1.2.2.2.1
  have hts := C.1.2.2.2.2
  intro M H locs ls hf hM hl
  rw [fX5_push_13] at hf
  refine lv_aload_n hx hb dX5_push_13 rfl (lv_at hl 0 rfl) ?_
  refine gX5_11 C hM (xt_56 hT) (f := (2, 57)) rfl (v := .ref (E.2.1.2.1 57)) rfl dX5_push_14 ?_
  refine lv_aload_n hx hb dX5_push_17 rfl (lv_at hl 0 rfl) ?_
  refine gX5_18 C hM (xt_56 hT) (f := (0, 0)) rfl (v := .int (M.1 56 1)) rfl dX5_push_18 ?_
  obtain ⟨hg21, hf⟩ := mx_gd hf
  refine mx_aald4 C hM (xt_57 hT) (mx_in_vp hg21) dX5_push_21 ?_
  refine lv_aload_n hx hb dX5_push_22 rfl (lv_at hl 1 rfl) ?_
  obtain ⟨hr23, hf⟩ := mx_gd hf
  obtain ⟨q23, hq23, hf⟩ := mx_bd hf
  refine mx_callVN C hM hl.1 yo_X9_copyFrom (h' := 1) (by decide) (nw_720 hT C) qw_694 qs_39 (ci := 9) (q := (RX9, TX9, 13)) rfl (xoS hT hr23) (As := [.ref (E.2.1.2.1 o1)]) (rest := []) (st1 := []) (kX9_copyFrom C.2.2.2.1 (M.2.2 57 (M.1 56 1).toNatClampNeg) o1 hT hr23 ho1 M hq23) rfl rfl rfl (Nat.le_of_ble_eq_true rfl) dX5_push_23 (fun H locs hM => ?_)
  refine lv_aload_n hx hb dX5_push_26 rfl (lv_at hl 0 rfl) ?_
  refine lv_dup hx hb dX5_push_27 rfl ?_
  refine gX5_18 C hM (xt_56 hT) (f := (0, 0)) rfl (v := .int (q23.1 56 1)) rfl dX5_push_28 ?_
  refine lv_iconst (v := (1 : Int32)) hx hb dX5_push_31 (by decide) ?_
  refine lv_iadd hx hb dX5_push_32 ?_
  refine pX5_18 C hM (xt_56 hT) rfl rfl rfl dX5_push_33 (fun H locs hM => ?_)
  exact mx_vret C hM hf dX5_push_36
set_option maxRecDepth 100000 in
set_option maxHeartbeats 4000000 in
theorem kX5_push {E : KE} {l : Launch} (hE : mx_ok E) (o1 : Nat) (hT : xOK E) (ho1 : xt_isS o1 = true) (M : MM) {q : MM} (hf : fX5_push o1 M = some q) : mx_Met E l yX5_push cX5_push 2 none 2 [.ref (E.2.1.2.1 56), .ref (E.2.1.2.1 o1)] M none q := by
  refine mx_enter hE (by decide) (Nat.le_of_ble_eq_true rfl) ?_
  intro p e s m below meth c C hM hn ls hl
  have hx := C.1.1
  have hb := C.1.2.1
  have hown := C.1.2.2.2.1
  have hts := C.1.2.2.2.2
  have hl : lv_has ls 2 [(0, .ref (E.2.1.2.1 56)), (1, .ref (E.2.1.2.1 o1))] := hl
  rw [fX5_push] at hf
  refine lv_aload_n hx hb dX5_push_0 rfl (lv_at hl 0 rfl) ?_
  refine gX5_18 C hM (xt_56 hT) (f := (0, 0)) rfl (v := .int (M.1 56 1)) rfl dX5_push_1 ?_
  refine lv_bipush (v := (8 : Int32)) hx hb dX5_push_4 (by decide) ?_
  refine lv_icmp_lt (tgt := 13) hx hb dX5_push_6 (by decide) (fun hc6 => ?_) (fun hc6 => ?_)
  · replace hf := mx_ift hc6 hf
    exact wfX5_push_13 C o1 hT ho1 M _ _ _ hf hM (lv_sub hl [0, 1] rfl)
  · replace hf := mx_iff hc6 hf
    refine lv_aload_n hx hb dX5_push_9 rfl (lv_at hl 0 rfl) ?_
    obtain ⟨q10, hq10, hf⟩ := mx_bd hf
    refine mx_callV C hM hl.1 yo_X5_dropOldest (h' := 0) (by decide) qw_716 qw_718 qs_44 (ci := 5) (q := (RX5, TX5, 2)) rfl (xt_56 hT) (As := []) (rest := []) (st1 := []) (kX5_dropOldest C.2.2.2.1 hT M hq10) rfl rfl rfl (Nat.le_of_ble_eq_true rfl) dX5_push_10 (fun H locs hM => ?_)
    exact wfX5_push_13 C o1 hT ho1 q10 _ _ _ hf hM (lv_sub hl [0, 1] rfl)
theorem dX5_takeBack_0 : decode cX5_takeBack 0 = .ok (.aload_n 0, 1) := by decide +kernel
theorem dX5_takeBack_1 : decode cX5_takeBack 1 = .ok (.getfield 18, 3) := by decide +kernel
theorem dX5_takeBack_4 : decode cX5_takeBack 4 = .ok (.ifCond .le 26, 3) := by decide +kernel
theorem dX5_takeBack_7 : decode cX5_takeBack 7 = .ok (.aload_n 0, 1) := by decide +kernel
theorem dX5_takeBack_8 : decode cX5_takeBack 8 = .ok (.dup, 1) := by decide +kernel
theorem dX5_takeBack_9 : decode cX5_takeBack 9 = .ok (.getfield 18, 3) := by decide +kernel
theorem dX5_takeBack_12 : decode cX5_takeBack 12 = .ok (.iconst 1, 1) := by decide +kernel
theorem dX5_takeBack_13 : decode cX5_takeBack 13 = .ok (.isub, 1) := by decide +kernel
theorem dX5_takeBack_14 : decode cX5_takeBack 14 = .ok (.putfield 18, 3) := by decide +kernel
theorem dX5_takeBack_17 : decode cX5_takeBack 17 = .ok (.aload_n 1, 1) := by decide +kernel
theorem dX5_takeBack_18 : decode cX5_takeBack 18 = .ok (.aload_n 0, 1) := by decide +kernel
theorem dX5_takeBack_19 : decode cX5_takeBack 19 = .ok (.getfield 11, 3) := by decide +kernel
theorem dX5_takeBack_22 : decode cX5_takeBack 22 = .ok (.aload_n 0, 1) := by decide +kernel
theorem dX5_takeBack_23 : decode cX5_takeBack 23 = .ok (.getfield 18, 3) := by decide +kernel
theorem dX5_takeBack_26 : decode cX5_takeBack 26 = .ok (.aaload, 1) := by decide +kernel
theorem dX5_takeBack_27 : decode cX5_takeBack 27 = .ok (.invokevirtual 25, 3) := by decide +kernel
theorem dX5_takeBack_30 : decode cX5_takeBack 30 = .ok (.return_, 1) := by decide +kernel
set_option maxRecDepth 100000 in
set_option maxHeartbeats 4000000 in
theorem kX5_takeBack {E : KE} {l : Launch} (hE : mx_ok E)  (hT : xOK E) (M : MM) {q : MM} (hf : fX5_takeBack M = some q) : mx_Met E l yX5_takeBack cX5_takeBack 2 none 2 [.ref (E.2.1.2.1 56), .ref (E.2.1.2.1 29)] M none q := by
  refine mx_enter hE (by decide) (Nat.le_of_ble_eq_true rfl) ?_
  intro p e s m below meth c C hM hn ls hl
  have hx := C.1.1
  have hb := C.1.2.1
  have hown := C.1.2.2.2.1
  have hts := C.1.2.2.2.2
  have hl : lv_has ls 2 [(0, .ref (E.2.1.2.1 56)), (1, .ref (E.2.1.2.1 29))] := hl
  rw [fX5_takeBack] at hf
  refine lv_aload_n hx hb dX5_takeBack_0 rfl (lv_at hl 0 rfl) ?_
  refine gX5_18 C hM (xt_56 hT) (f := (0, 0)) rfl (v := .int (M.1 56 1)) rfl dX5_takeBack_1 ?_
  refine lv_if_le (tgt := 30) hx hb dX5_takeBack_4 (by decide) (fun hc4 => ?_) (fun hc4 => ?_)
  · replace hf := mx_ift hc4 hf
    exact mx_vret C hM hf dX5_takeBack_30
  · replace hf := mx_iff hc4 hf
    refine lv_aload_n hx hb dX5_takeBack_7 rfl (lv_at hl 0 rfl) ?_
    refine lv_dup hx hb dX5_takeBack_8 rfl ?_
    refine gX5_18 C hM (xt_56 hT) (f := (0, 0)) rfl (v := .int (M.1 56 1)) rfl dX5_takeBack_9 ?_
    refine lv_iconst (v := (1 : Int32)) hx hb dX5_takeBack_12 (by decide) ?_
    refine lv_isub hx hb dX5_takeBack_13 ?_
    refine pX5_18 C hM (xt_56 hT) rfl rfl rfl dX5_takeBack_14 (fun H locs hM => ?_)
    refine lv_aload_n hx hb dX5_takeBack_17 rfl (lv_at hl 1 rfl) ?_
    refine lv_aload_n hx hb dX5_takeBack_18 rfl (lv_at hl 0 rfl) ?_
    refine gX5_11 C hM (xt_56 hT) (f := (2, 57)) rfl (v := .ref (E.2.1.2.1 57)) rfl dX5_takeBack_19 ?_
    refine lv_aload_n hx hb dX5_takeBack_22 rfl (lv_at hl 0 rfl) ?_
    refine gX5_18 C hM (xt_56 hT) (f := (0, 0)) rfl (v := .int ((mx_si M 56 1 ((M.1 56 1) - (1 : Int32))).1 56 1)) rfl dX5_takeBack_23 ?_
    obtain ⟨hg26, hf⟩ := mx_gd hf
    refine mx_aald4 C hM (xt_57 hT) (mx_in_vp hg26) dX5_takeBack_26 ?_
    obtain ⟨hr27_0, hf⟩ := mx_gd hf
    obtain ⟨q27, hq27, hf⟩ := mx_bd hf
    refine mx_callVN C hM hl.1 yo_X9_copyFrom (h' := 1) (by decide) (nw_720 hT C) qw_694 qs_39 (ci := 9) (q := (RX9, TX9, 13)) rfl (xt_29 hT) (As := [.ref (E.2.1.2.1 ((mx_si M 56 1 ((M.1 56 1) - (1 : Int32))).2.2 57 ((mx_si M 56 1 ((M.1 56 1) - (1 : Int32))).1 56 1).toNatClampNeg))]) (rest := []) (st1 := []) (kX9_copyFrom C.2.2.2.1 29 ((mx_si M 56 1 ((M.1 56 1) - (1 : Int32))).2.2 57 ((mx_si M 56 1 ((M.1 56 1) - (1 : Int32))).1 56 1).toNatClampNeg) hT xiS_29 hr27_0 (mx_si M 56 1 ((M.1 56 1) - (1 : Int32))) hq27) rfl rfl rfl (Nat.le_of_ble_eq_true rfl) dX5_takeBack_27 (fun H locs hM => ?_)
    exact mx_vret C hM hf dX5_takeBack_30
theorem dX6_ownersOfKept_0 : decode cX6_ownersOfKept 0 = .ok (.iconst 0, 1) := by decide +kernel
theorem dX6_ownersOfKept_1 : decode cX6_ownersOfKept 1 = .ok (.istore_n 2, 1) := by decide +kernel
theorem dX6_ownersOfKept_2 : decode cX6_ownersOfKept 2 = .ok (.iconst 0, 1) := by decide +kernel
theorem dX6_ownersOfKept_3 : decode cX6_ownersOfKept 3 = .ok (.istore_n 3, 1) := by decide +kernel
theorem dX6_ownersOfKept_4 : decode cX6_ownersOfKept 4 = .ok (.iload_n 3, 1) := by decide +kernel
theorem dX6_ownersOfKept_5 : decode cX6_ownersOfKept 5 = .ok (.aload_n 0, 1) := by decide +kernel
theorem dX6_ownersOfKept_6 : decode cX6_ownersOfKept 6 = .ok (.getfield 35, 3) := by decide +kernel
theorem dX6_ownersOfKept_9 : decode cX6_ownersOfKept 9 = .ok (.getfield 54, 3) := by decide +kernel
theorem dX6_ownersOfKept_12 : decode cX6_ownersOfKept 12 = .ok (.if_icmp .ge 45, 3) := by decide +kernel
theorem dX6_ownersOfKept_15 : decode cX6_ownersOfKept 15 = .ok (.aload_n 0, 1) := by decide +kernel
theorem dX6_ownersOfKept_16 : decode cX6_ownersOfKept 16 = .ok (.iload_n 3, 1) := by decide +kernel
theorem dX6_ownersOfKept_17 : decode cX6_ownersOfKept 17 = .ok (.iload_n 1, 1) := by decide +kernel
theorem dX6_ownersOfKept_18 : decode cX6_ownersOfKept 18 = .ok (.invokevirtual 57, 3) := by decide +kernel
theorem dX6_ownersOfKept_21 : decode cX6_ownersOfKept 21 = .ok (.ifCond .eq 30, 3) := by decide +kernel
theorem dX6_ownersOfKept_24 : decode cX6_ownersOfKept 24 = .ok (.aload_n 0, 1) := by decide +kernel
theorem dX6_ownersOfKept_25 : decode cX6_ownersOfKept 25 = .ok (.getfield 35, 3) := by decide +kernel
theorem dX6_ownersOfKept_28 : decode cX6_ownersOfKept 28 = .ok (.getfield 61, 3) := by decide +kernel
theorem dX6_ownersOfKept_31 : decode cX6_ownersOfKept 31 = .ok (.iload_n 3, 1) := by decide +kernel
theorem dX6_ownersOfKept_32 : decode cX6_ownersOfKept 32 = .ok (.iaload, 1) := by decide +kernel
theorem dX6_ownersOfKept_33 : decode cX6_ownersOfKept 33 = .ok (.iload_n 1, 1) := by decide +kernel
theorem dX6_ownersOfKept_34 : decode cX6_ownersOfKept 34 = .ok (.if_icmp .eq 17, 3) := by decide +kernel
theorem dX6_ownersOfKept_37 : decode cX6_ownersOfKept 37 = .ok (.iload_n 2, 1) := by decide +kernel
theorem dX6_ownersOfKept_38 : decode cX6_ownersOfKept 38 = .ok (.iconst 1, 1) := by decide +kernel
theorem dX6_ownersOfKept_39 : decode cX6_ownersOfKept 39 = .ok (.aload_n 0, 1) := by decide +kernel
theorem dX6_ownersOfKept_40 : decode cX6_ownersOfKept 40 = .ok (.getfield 35, 3) := by decide +kernel
theorem dX6_ownersOfKept_43 : decode cX6_ownersOfKept 43 = .ok (.getfield 61, 3) := by decide +kernel
theorem dX6_ownersOfKept_46 : decode cX6_ownersOfKept 46 = .ok (.iload_n 3, 1) := by decide +kernel
theorem dX6_ownersOfKept_47 : decode cX6_ownersOfKept 47 = .ok (.iaload, 1) := by decide +kernel
theorem dX6_ownersOfKept_48 : decode cX6_ownersOfKept 48 = .ok (.ishl, 1) := by decide +kernel
theorem dX6_ownersOfKept_49 : decode cX6_ownersOfKept 49 = .ok (.ior, 1) := by decide +kernel
theorem dX6_ownersOfKept_50 : decode cX6_ownersOfKept 50 = .ok (.istore_n 2, 1) := by decide +kernel
theorem dX6_ownersOfKept_51 : decode cX6_ownersOfKept 51 = .ok (.iinc 3 1, 3) := by decide +kernel
theorem dX6_ownersOfKept_54 : decode cX6_ownersOfKept 54 = .ok (.goto (-50), 3) := by decide +kernel
theorem dX6_ownersOfKept_57 : decode cX6_ownersOfKept 57 = .ok (.iload_n 2, 1) := by decide +kernel
theorem dX6_ownersOfKept_58 : decode cX6_ownersOfKept 58 = .ok (.ireturn, 1) := by decide +kernel
set_option maxRecDepth 100000 in
set_option maxHeartbeats 4000000 in
theorem wfX6_ownersOfKept_4 {E : KE} {p : Program} {l : Launch} {e : Env} {s : State} {m : MethodId} {args : Array Value} {below : List Frame} {meth : Method} {c : Code} {q : Int32} (C : mx_C E p m c cX6_ownersOfKept 4 s args RX6 meth (some .int)) (i1 : Int32) (M : MM) (hT : xOK E)   : ∀ (n : Nat) (i2 : Int32) (i3 : Int32) (H : Heap) (locs : List Loc) (ls : Array Slot), fX6_ownersOfKept_4 i1 M n i2 i3 = some q → mx_H E s M H locs → lv_has ls 4 [(0, .ref (E.2.1.2.1 29)), (1, .int i1), (2, .int i2), (3, .int i3)] → W p l e (mx_rm 1) s m args below meth c H locs 0 0 (mx_Z E below args s (some (.int q)) M) (F0 m 4 ls []) := by
  have hx := C.1.1
  have hb := C.1.2.1
  have hown := C.1.2.2.2.1
  have hts := C.1.2.2.2.2
  intro n
  induction n with
  | zero =>
    intro i2 i3 H locs ls hf hM hl
    rw [fX6_ownersOfKept_4] at hf
    cases hf
  | succ n ih =>
    intro i2 i3 H locs ls hf hM hl
    rw [fX6_ownersOfKept_4] at hf
    refine lv_iload_n hx hb dX6_ownersOfKept_4 rfl (lv_at hl 3 rfl) ?_
    refine lv_aload_n hx hb dX6_ownersOfKept_5 rfl (lv_at hl 0 rfl) ?_
    refine gX6_35 C hT hM (xt_29 hT) (f := (2, 9)) rfl (v := .ref (E.2.1.2.1 9)) rfl dX6_ownersOfKept_6 ?_
    refine gX6_54 C hT hM (xt_9 hT) (f := (0, 0)) rfl (v := .int (M.1 9 1)) rfl dX6_ownersOfKept_9 ?_
    refine lv_icmp_ge (tgt := 57) hx hb dX6_ownersOfKept_12 (by decide) (fun hc12 => ?_) (fun hc12 => ?_)
    · replace hf := mx_ift hc12 hf
      refine lv_iload_n hx hb dX6_ownersOfKept_57 rfl (lv_at hl 2 rfl) ?_
      exact mx_iretR C hM hf dX6_ownersOfKept_58
    · replace hf := mx_iff hc12 hf
      refine lv_aload_n hx hb dX6_ownersOfKept_15 rfl (lv_at hl 0 rfl) ?_
      refine lv_iload_n hx hb dX6_ownersOfKept_16 rfl (lv_at hl 3 rfl) ?_
      refine lv_iload_n hx hb dX6_ownersOfKept_17 rfl (lv_at hl 1 rfl) ?_
      obtain ⟨q18, hq18, hf⟩ := mx_bd hf
      refine mx_callVN C hM hl.1 yo_X9_isKeptBy (h' := 0) (by decide) (nw_840 hT C) qw_731 qs_46 (ci := 9) (q := (RX9, TX9, 13)) rfl (xt_29 hT) (As := [.int i3, .int i1]) (rest := []) (st1 := [.int (mx_b q18)]) (kX9_isKeptBy C.2.2.2.1 29 i3 i1 hT xiS_29 M hq18) rfl rfl rfl (Nat.le_of_ble_eq_true rfl) dX6_ownersOfKept_18 (fun H locs hM => ?_)
      refine lv_if_eq (tgt := 51) hx hb dX6_ownersOfKept_21 (by decide) (fun hc21 => ?_) (fun hc21 => ?_)
      · replace hf := mx_ift hc21 hf
        refine lv_iinc (v := (i3 + (1 : Int32))) (lv' := [(3, .int (i3 + (1 : Int32))), (0, .ref (E.2.1.2.1 29)), (1, .int i1), (2, .int i2)]) hx hb dX6_ownersOfKept_51 hl (k := 3) rfl rfl (by decide) rfl (fun ls hl => ?_)
        refine lv_goto (tgt := 4) hx hb dX6_ownersOfKept_54 (by decide) ?_
        exact ih i2 (i3 + (1 : Int32)) _ _ _ hf hM (lv_sub hl [1, 2, 3, 0] rfl)
      · replace hf := mx_iff hc21 hf
        refine lv_aload_n hx hb dX6_ownersOfKept_24 rfl (lv_at hl 0 rfl) ?_
        refine gX6_35 C hT hM (xt_29 hT) (f := (2, 9)) rfl (v := .ref (E.2.1.2.1 9)) rfl dX6_ownersOfKept_25 ?_
        refine gX6_61 C hT hM (xt_9 hT) (f := (2, 16)) rfl (v := .ref (E.2.1.2.1 16)) rfl dX6_ownersOfKept_28 ?_
        refine lv_iload_n hx hb dX6_ownersOfKept_31 rfl (lv_at hl 3 rfl) ?_
        obtain ⟨hg32, hf⟩ := mx_gd hf
        refine mx_iald C hM (xt_16 hT) (mx_in_vp hg32) dX6_ownersOfKept_32 ?_
        refine lv_iload_n hx hb dX6_ownersOfKept_33 rfl (lv_at hl 1 rfl) ?_
        refine lv_icmp_eq (tgt := 51) hx hb dX6_ownersOfKept_34 (by decide) (fun hc34 => ?_) (fun hc34 => ?_)
        · replace hf := mx_ift hc34 hf
          refine lv_iinc (v := (i3 + (1 : Int32))) (lv' := [(3, .int (i3 + (1 : Int32))), (0, .ref (E.2.1.2.1 29)), (1, .int i1), (2, .int i2)]) hx hb dX6_ownersOfKept_51 hl (k := 3) rfl rfl (by decide) rfl (fun ls hl => ?_)
          refine lv_goto (tgt := 4) hx hb dX6_ownersOfKept_54 (by decide) ?_
          exact ih i2 (i3 + (1 : Int32)) _ _ _ hf hM (lv_sub hl [1, 2, 3, 0] rfl)
        · replace hf := mx_iff hc34 hf
          refine lv_iload_n hx hb dX6_ownersOfKept_37 rfl (lv_at hl 2 rfl) ?_
          refine lv_iconst (v := (1 : Int32)) hx hb dX6_ownersOfKept_38 (by decide) ?_
          refine lv_aload_n hx hb dX6_ownersOfKept_39 rfl (lv_at hl 0 rfl) ?_
          refine gX6_35 C hT hM (xt_29 hT) (f := (2, 9)) rfl (v := .ref (E.2.1.2.1 9)) rfl dX6_ownersOfKept_40 ?_
          refine gX6_61 C hT hM (xt_9 hT) (f := (2, 16)) rfl (v := .ref (E.2.1.2.1 16)) rfl dX6_ownersOfKept_43 ?_
          refine lv_iload_n hx hb dX6_ownersOfKept_46 rfl (lv_at hl 3 rfl) ?_
          obtain ⟨hg47, hf⟩ := mx_gd hf
          refine mx_iald C hM (xt_16 hT) (mx_in_vp hg47) dX6_ownersOfKept_47 ?_
          refine lv_ishl hx hb dX6_ownersOfKept_48 ?_
          refine lv_ior hx hb dX6_ownersOfKept_49 ?_
          refine lv_istore_n (lv' := [(2, .int (i2 ||| ((1 : Int32) <<< ((M.1 16 i3.toNatClampNeg) &&& 31)))), (0, .ref (E.2.1.2.1 29)), (1, .int i1), (3, .int i3)]) hx hb dX6_ownersOfKept_50 rfl hl (by decide) rfl (fun ls hl => ?_)
          refine lv_iinc (v := (i3 + (1 : Int32))) (lv' := [(3, .int (i3 + (1 : Int32))), (2, .int (i2 ||| ((1 : Int32) <<< ((M.1 16 i3.toNatClampNeg) &&& 31)))), (0, .ref (E.2.1.2.1 29)), (1, .int i1)]) hx hb dX6_ownersOfKept_51 hl (k := 3) rfl rfl (by decide) rfl (fun ls hl => ?_)
          refine lv_goto (tgt := 4) hx hb dX6_ownersOfKept_54 (by decide) ?_
          exact ih (i2 ||| ((1 : Int32) <<< ((M.1 16 i3.toNatClampNeg) &&& 31))) (i3 + (1 : Int32)) _ _ _ hf hM (lv_sub hl [2, 3, 1, 0] rfl)
set_option maxRecDepth 100000 in
set_option maxHeartbeats 4000000 in
theorem kX6_ownersOfKept {E : KE} {l : Launch} (hE : mx_ok E) (i1 : Int32) (hT : xOK E) (M : MM) {q : Int32} (hf : fX6_ownersOfKept i1 M = some q) : mx_Met E l yX6_ownersOfKept cX6_ownersOfKept 4 (some .int) 1 [.ref (E.2.1.2.1 29), .int i1] M (some (.int q)) M := by
  refine mx_enter hE (by decide) (Nat.le_of_ble_eq_true rfl) ?_
  intro p e s m below meth c C hM hn ls hl
  have hx := C.1.1
  have hb := C.1.2.1
  have hown := C.1.2.2.2.1
  have hts := C.1.2.2.2.2
  have hl : lv_has ls 4 [(0, .ref (E.2.1.2.1 29)), (1, .int i1)] := hl
  rw [fX6_ownersOfKept] at hf
  refine lv_iconst (v := (0 : Int32)) hx hb dX6_ownersOfKept_0 (by decide) ?_
  refine lv_istore_n (lv' := [(2, .int (0 : Int32)), (0, .ref (E.2.1.2.1 29)), (1, .int i1)]) hx hb dX6_ownersOfKept_1 rfl hl (by decide) rfl (fun ls hl => ?_)
  refine lv_iconst (v := (0 : Int32)) hx hb dX6_ownersOfKept_2 (by decide) ?_
  refine lv_istore_n (lv' := [(3, .int (0 : Int32)), (2, .int (0 : Int32)), (0, .ref (E.2.1.2.1 29)), (1, .int i1)]) hx hb dX6_ownersOfKept_3 rfl hl (by decide) rfl (fun ls hl => ?_)
  exact wfX6_ownersOfKept_4 C i1 M hT mx_fu (0 : Int32) (0 : Int32) _ _ _ hf hM (lv_sub hl [2, 3, 1, 0] rfl)
theorem dX9_farBetween_0 : decode cX9_farBetween 0 = .ok (.aload_n 0, 1) := by decide +kernel
theorem dX9_farBetween_1 : decode cX9_farBetween 1 = .ok (.iload_n 1, 1) := by decide +kernel
theorem dX9_farBetween_2 : decode cX9_farBetween 2 = .ok (.aload_n 0, 1) := by decide +kernel
theorem dX9_farBetween_3 : decode cX9_farBetween 3 = .ok (.getfield 9, 3) := by decide +kernel
theorem dX9_farBetween_6 : decode cX9_farBetween 6 = .ok (.iload_n 2, 1) := by decide +kernel
theorem dX9_farBetween_7 : decode cX9_farBetween 7 = .ok (.iaload, 1) := by decide +kernel
theorem dX9_farBetween_8 : decode cX9_farBetween 8 = .ok (.aload_n 0, 1) := by decide +kernel
theorem dX9_farBetween_9 : decode cX9_farBetween 9 = .ok (.getfield 15, 3) := by decide +kernel
theorem dX9_farBetween_12 : decode cX9_farBetween 12 = .ok (.iload_n 2, 1) := by decide +kernel
theorem dX9_farBetween_13 : decode cX9_farBetween 13 = .ok (.iaload, 1) := by decide +kernel
theorem dX9_farBetween_14 : decode cX9_farBetween 14 = .ok (.invokevirtual 103, 3) := by decide +kernel
theorem dX9_farBetween_17 : decode cX9_farBetween 17 = .ok (.ireturn, 1) := by decide +kernel
set_option maxRecDepth 100000 in
set_option maxHeartbeats 4000000 in
theorem kX9_farBetween {E : KE} {l : Launch} (hE : mx_ok E) (o : Nat) (i1 : Int32) (i2 : Int32) (hT : xOK E) (ho : xt_isS o = true) (M : MM) {q : Int32} (hf : fX9_farBetween o i1 i2 M = some q) : mx_Met E l yX9_farBetween cX9_farBetween 3 (some .int) 2 [.ref (E.2.1.2.1 o), .int i1, .int i2] M (some (.int q)) M := by
  refine mx_enter hE (by decide) (Nat.le_of_ble_eq_true rfl) ?_
  intro p e s m below meth c C hM hn ls hl
  have hx := C.1.1
  have hb := C.1.2.1
  have hown := C.1.2.2.2.1
  have hts := C.1.2.2.2.2
  have hl : lv_has ls 3 [(0, .ref (E.2.1.2.1 o)), (1, .int i1), (2, .int i2)] := hl
  rw [fX9_farBetween] at hf
  refine lv_aload_n hx hb dX9_farBetween_0 rfl (lv_at hl 0 rfl) ?_
  refine lv_iload_n hx hb dX9_farBetween_1 rfl (lv_at hl 1 rfl) ?_
  refine lv_aload_n hx hb dX9_farBetween_2 rfl (lv_at hl 0 rfl) ?_
  refine gX9_9 C hM (xoS hT ho) (f := (2, o + 1)) rfl (v := .ref (E.2.1.2.1 (o + 1))) rfl dX9_farBetween_3 ?_
  refine lv_iload_n hx hb dX9_farBetween_6 rfl (lv_at hl 2 rfl) ?_
  obtain ⟨hg7, hf⟩ := mx_gd hf
  refine mx_iald C hM (xaS_1 hT ho) (mx_in_vp hg7) dX9_farBetween_7 ?_
  refine lv_aload_n hx hb dX9_farBetween_8 rfl (lv_at hl 0 rfl) ?_
  refine gX9_15 C hM (xoS hT ho) (f := (2, o + 2)) rfl (v := .ref (E.2.1.2.1 (o + 2))) rfl dX9_farBetween_9 ?_
  refine lv_iload_n hx hb dX9_farBetween_12 rfl (lv_at hl 2 rfl) ?_
  obtain ⟨hg13, hf⟩ := mx_gd hf
  refine mx_iald C hM (xaS_2 hT ho) (mx_in_vp hg13) dX9_farBetween_13 ?_
  obtain ⟨q14, hq14, hf⟩ := mx_bd hf
  refine mx_callV C hM hl.1 yo_X9_farTo (h' := 1) (by decide) qw_701 qw_703 qs_41 (ci := 9) (q := (RX9, TX9, 13)) rfl (xoS hT ho) (As := [.int i1, .int (M.1 (o + 1) i2.toNatClampNeg), .int (M.1 (o + 2) i2.toNatClampNeg)]) (rest := []) (st1 := [.int q14]) (kX9_farTo C.2.2.2.1 o i1 (M.1 (o + 1) i2.toNatClampNeg) (M.1 (o + 2) i2.toNatClampNeg) hT ho M hq14) rfl rfl rfl (Nat.le_of_ble_eq_true rfl) dX9_farBetween_14 (fun H locs hM => ?_)
  exact mx_iretR C hM hf dX9_farBetween_17
theorem dX6_tourBy_0 : decode cX6_tourBy 0 = .ok (.aload_n 1, 1) := by decide +kernel
theorem dX6_tourBy_1 : decode cX6_tourBy 1 = .ok (.iload_n 3, 1) := by decide +kernel
theorem dX6_tourBy_2 : decode cX6_tourBy 2 = .ok (.iload 4, 2) := by decide +kernel
theorem dX6_tourBy_4 : decode cX6_tourBy 4 = .ok (.invokevirtual 75, 3) := by decide +kernel
theorem dX6_tourBy_7 : decode cX6_tourBy 7 = .ok (.aload_n 0, 1) := by decide +kernel
theorem dX6_tourBy_8 : decode cX6_tourBy 8 = .ok (.getfield 22, 3) := by decide +kernel
theorem dX6_tourBy_11 : decode cX6_tourBy 11 = .ok (.iload_n 2, 1) := by decide +kernel
theorem dX6_tourBy_12 : decode cX6_tourBy 12 = .ok (.iconst 1, 1) := by decide +kernel
theorem dX6_tourBy_13 : decode cX6_tourBy 13 = .ok (.iload 4, 2) := by decide +kernel
theorem dX6_tourBy_15 : decode cX6_tourBy 15 = .ok (.ishl, 1) := by decide +kernel
theorem dX6_tourBy_16 : decode cX6_tourBy 16 = .ok (.iconst (-1), 1) := by decide +kernel
theorem dX6_tourBy_17 : decode cX6_tourBy 17 = .ok (.ixor, 1) := by decide +kernel
theorem dX6_tourBy_18 : decode cX6_tourBy 18 = .ok (.iand, 1) := by decide +kernel
theorem dX6_tourBy_19 : decode cX6_tourBy 19 = .ok (.bipush 7, 2) := by decide +kernel
theorem dX6_tourBy_21 : decode cX6_tourBy 21 = .ok (.imul, 1) := by decide +kernel
theorem dX6_tourBy_22 : decode cX6_tourBy 22 = .ok (.iload 4, 2) := by decide +kernel
theorem dX6_tourBy_24 : decode cX6_tourBy 24 = .ok (.iadd, 1) := by decide +kernel
theorem dX6_tourBy_25 : decode cX6_tourBy 25 = .ok (.iaload, 1) := by decide +kernel
theorem dX6_tourBy_26 : decode cX6_tourBy 26 = .ok (.iadd, 1) := by decide +kernel
theorem dX6_tourBy_27 : decode cX6_tourBy 27 = .ok (.ireturn, 1) := by decide +kernel
set_option maxRecDepth 100000 in
set_option maxHeartbeats 4000000 in
theorem kX6_tourBy {E : KE} {l : Launch} (hE : mx_ok E) (i2 : Int32) (i3 : Int32) (i4 : Int32) (hT : xOK E) (M : MM) {q : Int32} (hf : fX6_tourBy i2 i3 i4 M = some q) : mx_Met E l yX6_tourBy cX6_tourBy 5 (some .int) 3 [.ref (E.2.1.2.1 143), .ref (E.2.1.2.1 29), .int i2, .int i3, .int i4] M (some (.int q)) M := by
  refine mx_enter hE (by decide) (Nat.le_of_ble_eq_true rfl) ?_
  intro p e s m below meth c C hM hn ls hl
  have hx := C.1.1
  have hb := C.1.2.1
  have hown := C.1.2.2.2.1
  have hts := C.1.2.2.2.2
  have hl : lv_has ls 5 [(0, .ref (E.2.1.2.1 143)), (1, .ref (E.2.1.2.1 29)), (2, .int i2), (3, .int i3), (4, .int i4)] := hl
  rw [fX6_tourBy] at hf
  refine lv_aload_n hx hb dX6_tourBy_0 rfl (lv_at hl 1 rfl) ?_
  refine lv_iload_n hx hb dX6_tourBy_1 rfl (lv_at hl 3 rfl) ?_
  refine lv_iload hx hb dX6_tourBy_2 (lv_at hl 4 rfl) ?_
  obtain ⟨q4, hq4, hf⟩ := mx_bd hf
  refine mx_callVN C hM hl.1 yo_X9_farBetween (h' := 2) (by decide) (nw_850 hT C) qw_852 qs_65 (ci := 9) (q := (RX9, TX9, 13)) rfl (xt_29 hT) (As := [.int i3, .int i4]) (rest := []) (st1 := [.int q4]) (kX9_farBetween C.2.2.2.1 29 i3 i4 hT xiS_29 M hq4) rfl rfl rfl (Nat.le_of_ble_eq_true rfl) dX6_tourBy_4 (fun H locs hM => ?_)
  refine lv_aload_n hx hb dX6_tourBy_7 rfl (lv_at hl 0 rfl) ?_
  refine gX6_22 C hM (xt_143 hT) (f := (2, 146)) rfl (v := .ref (E.2.1.2.1 146)) rfl dX6_tourBy_8 ?_
  refine lv_iload_n hx hb dX6_tourBy_11 rfl (lv_at hl 2 rfl) ?_
  refine lv_iconst (v := (1 : Int32)) hx hb dX6_tourBy_12 (by decide) ?_
  refine lv_iload hx hb dX6_tourBy_13 (lv_at hl 4 rfl) ?_
  refine lv_ishl hx hb dX6_tourBy_15 ?_
  refine lv_iconst (v := (-1 : Int32)) hx hb dX6_tourBy_16 (by decide) ?_
  refine lv_ixor hx hb dX6_tourBy_17 ?_
  refine lv_iand hx hb dX6_tourBy_18 ?_
  refine lv_bipush (v := (7 : Int32)) hx hb dX6_tourBy_19 (by decide) ?_
  refine lv_imul hx hb dX6_tourBy_21 ?_
  refine lv_iload hx hb dX6_tourBy_22 (lv_at hl 4 rfl) ?_
  refine lv_iadd hx hb dX6_tourBy_24 ?_
  obtain ⟨hg25, hf⟩ := mx_gd hf
  refine mx_iald C hM (xt_146 hT) (mx_in_vp hg25) dX6_tourBy_25 ?_
  refine lv_iadd hx hb dX6_tourBy_26 ?_
  exact mx_iretR C hM hf dX6_tourBy_27
theorem dX6_leastTour_0 : decode cX6_leastTour 0 = .ok (.iload_n 2, 1) := by decide +kernel
theorem dX6_leastTour_1 : decode cX6_leastTour 1 = .ok (.ifCond .ne 7, 3) := by decide +kernel
theorem dX6_leastTour_4 : decode cX6_leastTour 4 = .ok (.iconst 0, 1) := by decide +kernel
theorem dX6_leastTour_5 : decode cX6_leastTour 5 = .ok (.goto 5, 3) := by decide +kernel
theorem dX6_leastTour_8 : decode cX6_leastTour 8 = .ok (.ldc 64, 2) := by decide +kernel
theorem dX6_leastTour_10 : decode cX6_leastTour 10 = .ok (.istore 4, 2) := by decide +kernel
theorem dX6_leastTour_12 : decode cX6_leastTour 12 = .ok (.iconst 0, 1) := by decide +kernel
theorem dX6_leastTour_13 : decode cX6_leastTour 13 = .ok (.istore 5, 2) := by decide +kernel
theorem dX6_leastTour_15 : decode cX6_leastTour 15 = .ok (.iload 5, 2) := by decide +kernel
theorem dX6_leastTour_17 : decode cX6_leastTour 17 = .ok (.aload_n 1, 1) := by decide +kernel
theorem dX6_leastTour_18 : decode cX6_leastTour 18 = .ok (.getfield 35, 3) := by decide +kernel
theorem dX6_leastTour_21 : decode cX6_leastTour 21 = .ok (.getfield 41, 3) := by decide +kernel
theorem dX6_leastTour_24 : decode cX6_leastTour 24 = .ok (.if_icmp .ge 35, 3) := by decide +kernel
theorem dX6_leastTour_27 : decode cX6_leastTour 27 = .ok (.iload_n 2, 1) := by decide +kernel
theorem dX6_leastTour_28 : decode cX6_leastTour 28 = .ok (.iload 5, 2) := by decide +kernel
theorem dX6_leastTour_30 : decode cX6_leastTour 30 = .ok (.ishr, 1) := by decide +kernel
theorem dX6_leastTour_31 : decode cX6_leastTour 31 = .ok (.iconst 1, 1) := by decide +kernel
theorem dX6_leastTour_32 : decode cX6_leastTour 32 = .ok (.iand, 1) := by decide +kernel
theorem dX6_leastTour_33 : decode cX6_leastTour 33 = .ok (.iconst 1, 1) := by decide +kernel
theorem dX6_leastTour_34 : decode cX6_leastTour 34 = .ok (.if_icmp .ne 19, 3) := by decide +kernel
theorem dX6_leastTour_37 : decode cX6_leastTour 37 = .ok (.iload 4, 2) := by decide +kernel
theorem dX6_leastTour_39 : decode cX6_leastTour 39 = .ok (.aload_n 0, 1) := by decide +kernel
theorem dX6_leastTour_40 : decode cX6_leastTour 40 = .ok (.aload_n 1, 1) := by decide +kernel
theorem dX6_leastTour_41 : decode cX6_leastTour 41 = .ok (.iload_n 2, 1) := by decide +kernel
theorem dX6_leastTour_42 : decode cX6_leastTour 42 = .ok (.iload_n 3, 1) := by decide +kernel
theorem dX6_leastTour_43 : decode cX6_leastTour 43 = .ok (.iload 5, 2) := by decide +kernel
theorem dX6_leastTour_45 : decode cX6_leastTour 45 = .ok (.invokevirtual 65, 3) := by decide +kernel
theorem dX6_leastTour_48 : decode cX6_leastTour 48 = .ok (.invokestatic 69, 3) := by decide +kernel
theorem dX6_leastTour_51 : decode cX6_leastTour 51 = .ok (.istore 4, 2) := by decide +kernel
theorem dX6_leastTour_53 : decode cX6_leastTour 53 = .ok (.iinc 5 1, 3) := by decide +kernel
theorem dX6_leastTour_56 : decode cX6_leastTour 56 = .ok (.goto (-41), 3) := by decide +kernel
theorem dX6_leastTour_59 : decode cX6_leastTour 59 = .ok (.iload 4, 2) := by decide +kernel
theorem dX6_leastTour_61 : decode cX6_leastTour 61 = .ok (.ireturn, 1) := by decide +kernel
set_option maxRecDepth 100000 in
set_option maxHeartbeats 4000000 in
theorem wfX6_leastTour_15 {E : KE} {p : Program} {l : Launch} {e : Env} {s : State} {m : MethodId} {args : Array Value} {below : List Frame} {meth : Method} {c : Code} {q : Int32} (C : mx_C E p m c cX6_leastTour 6 s args RX6 meth (some .int)) (i2 : Int32) (i3 : Int32) (M : MM) (hT : xOK E)   : ∀ (n : Nat) (i4 : Int32) (i5 : Int32) (H : Heap) (locs : List Loc) (ls : Array Slot), fX6_leastTour_15 i2 i3 M n i4 i5 = some q → mx_H E s M H locs → lv_has ls 6 [(0, .ref (E.2.1.2.1 143)), (1, .ref (E.2.1.2.1 29)), (2, .int i2), (3, .int i3), (4, .int i4), (5, .int i5)] → W p l e (mx_rm 4) s m args below meth c H locs 0 0 (mx_Z E below args s (some (.int q)) M) (F0 m 15 ls []) := by
  have hx := C.1.1
  have hb := C.1.2.1
  have hown := C.1.2.2.2.1
  have hts := C.1.2.2.2.2
  intro n
  induction n with
  | zero =>
    intro i4 i5 H locs ls hf hM hl
    rw [fX6_leastTour_15] at hf
    cases hf
  | succ n ih =>
    intro i4 i5 H locs ls hf hM hl
    rw [fX6_leastTour_15] at hf
    refine lv_iload hx hb dX6_leastTour_15 (lv_at hl 5 rfl) ?_
    refine lv_aload_n hx hb dX6_leastTour_17 rfl (lv_at hl 1 rfl) ?_
    refine gX6_35 C hT hM (xt_29 hT) (f := (2, 9)) rfl (v := .ref (E.2.1.2.1 9)) rfl dX6_leastTour_18 ?_
    refine gX6_41 C hT hM (xt_9 hT) (f := (0, 0)) rfl (v := .int (M.1 9 0)) rfl dX6_leastTour_21 ?_
    refine lv_icmp_ge (tgt := 59) hx hb dX6_leastTour_24 (by decide) (fun hc24 => ?_) (fun hc24 => ?_)
    · replace hf := mx_ift hc24 hf
      refine lv_iload hx hb dX6_leastTour_59 (lv_at hl 4 rfl) ?_
      exact mx_iretR C hM hf dX6_leastTour_61
    · replace hf := mx_iff hc24 hf
      refine lv_iload_n hx hb dX6_leastTour_27 rfl (lv_at hl 2 rfl) ?_
      refine lv_iload hx hb dX6_leastTour_28 (lv_at hl 5 rfl) ?_
      refine lv_ishr hx hb dX6_leastTour_30 ?_
      refine lv_iconst (v := (1 : Int32)) hx hb dX6_leastTour_31 (by decide) ?_
      refine lv_iand hx hb dX6_leastTour_32 ?_
      refine lv_iconst (v := (1 : Int32)) hx hb dX6_leastTour_33 (by decide) ?_
      refine lv_icmp_ne (tgt := 53) hx hb dX6_leastTour_34 (by decide) (fun hc34 => ?_) (fun hc34 => ?_)
      · replace hf := mx_iff hc34 hf
        refine lv_iinc (v := (i5 + (1 : Int32))) (lv' := [(5, .int (i5 + (1 : Int32))), (0, .ref (E.2.1.2.1 143)), (1, .ref (E.2.1.2.1 29)), (2, .int i2), (3, .int i3), (4, .int i4)]) hx hb dX6_leastTour_53 hl (k := 5) rfl rfl (by decide) rfl (fun ls hl => ?_)
        refine lv_goto (tgt := 15) hx hb dX6_leastTour_56 (by decide) ?_
        exact ih i4 (i5 + (1 : Int32)) _ _ _ hf hM (lv_sub hl [1, 2, 3, 4, 5, 0] rfl)
      · replace hf := mx_ift hc34 hf
        refine lv_iload hx hb dX6_leastTour_37 (lv_at hl 4 rfl) ?_
        refine lv_aload_n hx hb dX6_leastTour_39 rfl (lv_at hl 0 rfl) ?_
        refine lv_aload_n hx hb dX6_leastTour_40 rfl (lv_at hl 1 rfl) ?_
        refine lv_iload_n hx hb dX6_leastTour_41 rfl (lv_at hl 2 rfl) ?_
        refine lv_iload_n hx hb dX6_leastTour_42 rfl (lv_at hl 3 rfl) ?_
        refine lv_iload hx hb dX6_leastTour_43 (lv_at hl 5 rfl) ?_
        obtain ⟨q45, hq45, hf⟩ := mx_bd hf
        refine mx_callV C hM hl.1 yo_X6_tourBy (h' := 3) (by decide) qw_846 qw_848 qs_64 (ci := 6) (q := (RX6, TX6, 7)) rfl (xt_143 hT) (As := [.ref (E.2.1.2.1 29), .int i2, .int i3, .int i5]) (rest := [.int i4]) (st1 := [.int q45, .int i4]) (kX6_tourBy C.2.2.2.1 i2 i3 i5 hT M hq45) rfl rfl rfl (Nat.le_of_ble_eq_true rfl) dX6_leastTour_45 (fun H locs hM => ?_)
        refine va_mmin hx hb (C.1.2.2.1.trans hl.1.symm) hown (hts _ qw_854) (hts _ qw_855) (hts _ qw_21) (hts _ qw_856) (by decide) (Nat.le_of_ble_eq_true rfl) (Nat.le_refl 0) (Nat.le_refl 0) dX6_leastTour_48 ?_
        refine lv_istore (lv' := [(4, .int (if q45 < i4 then q45 else i4)), (0, .ref (E.2.1.2.1 143)), (1, .ref (E.2.1.2.1 29)), (2, .int i2), (3, .int i3), (5, .int i5)]) hx hb dX6_leastTour_51 hl (by decide) rfl (fun ls hl => ?_)
        refine lv_iinc (v := (i5 + (1 : Int32))) (lv' := [(5, .int (i5 + (1 : Int32))), (4, .int (if q45 < i4 then q45 else i4)), (0, .ref (E.2.1.2.1 143)), (1, .ref (E.2.1.2.1 29)), (2, .int i2), (3, .int i3)]) hx hb dX6_leastTour_53 hl (k := 5) rfl rfl (by decide) rfl (fun ls hl => ?_)
        refine lv_goto (tgt := 15) hx hb dX6_leastTour_56 (by decide) ?_
        exact ih (if q45 < i4 then q45 else i4) (i5 + (1 : Int32)) _ _ _ hf hM (lv_sub hl [2, 3, 4, 5, 1, 0] rfl)
set_option maxRecDepth 100000 in
set_option maxHeartbeats 4000000 in
theorem kX6_leastTour {E : KE} {l : Launch} (hE : mx_ok E) (i2 : Int32) (i3 : Int32) (hT : xOK E) (M : MM) {q : Int32} (hf : fX6_leastTour i2 i3 M = some q) : mx_Met E l yX6_leastTour cX6_leastTour 6 (some .int) 4 [.ref (E.2.1.2.1 143), .ref (E.2.1.2.1 29), .int i2, .int i3] M (some (.int q)) M := by
  refine mx_enter hE (by decide) (Nat.le_of_ble_eq_true rfl) ?_
  intro p e s m below meth c C hM hn ls hl
  have hx := C.1.1
  have hb := C.1.2.1
  have hown := C.1.2.2.2.1
  have hts := C.1.2.2.2.2
  have hl : lv_has ls 6 [(0, .ref (E.2.1.2.1 143)), (1, .ref (E.2.1.2.1 29)), (2, .int i2), (3, .int i3)] := hl
  rw [fX6_leastTour] at hf
  refine lv_iload_n hx hb dX6_leastTour_0 rfl (lv_at hl 2 rfl) ?_
  refine lv_if_ne (tgt := 8) hx hb dX6_leastTour_1 (by decide) (fun hc1 => ?_) (fun hc1 => ?_)
  · replace hf := mx_iff hc1 hf
    refine lv_ldc (v := (1000000)) hx hb hown (hts _ qw_845) dX6_leastTour_8 ?_
    refine lv_istore (lv' := [(4, .int (1000000 : Int32)), (0, .ref (E.2.1.2.1 143)), (1, .ref (E.2.1.2.1 29)), (2, .int i2), (3, .int i3)]) hx hb dX6_leastTour_10 hl (by decide) rfl (fun ls hl => ?_)
    refine lv_iconst (v := (0 : Int32)) hx hb dX6_leastTour_12 (by decide) ?_
    refine lv_istore (lv' := [(5, .int (0 : Int32)), (4, .int (1000000 : Int32)), (0, .ref (E.2.1.2.1 143)), (1, .ref (E.2.1.2.1 29)), (2, .int i2), (3, .int i3)]) hx hb dX6_leastTour_13 hl (by decide) rfl (fun ls hl => ?_)
    exact wfX6_leastTour_15 C i2 i3 M hT mx_fu (1000000 : Int32) (0 : Int32) _ _ _ hf hM (lv_sub hl [2, 3, 4, 5, 1, 0] rfl)
  · replace hf := mx_ift hc1 hf
    refine lv_iconst (v := (0 : Int32)) hx hb dX6_leastTour_4 (by decide) ?_
    refine lv_goto (tgt := 10) hx hb dX6_leastTour_5 (by decide) ?_
    refine lv_istore (lv' := [(4, .int (0 : Int32)), (0, .ref (E.2.1.2.1 143)), (1, .ref (E.2.1.2.1 29)), (2, .int i2), (3, .int i3)]) hx hb dX6_leastTour_10 hl (by decide) rfl (fun ls hl => ?_)
    refine lv_iconst (v := (0 : Int32)) hx hb dX6_leastTour_12 (by decide) ?_
    refine lv_istore (lv' := [(5, .int (0 : Int32)), (4, .int (0 : Int32)), (0, .ref (E.2.1.2.1 143)), (1, .ref (E.2.1.2.1 29)), (2, .int i2), (3, .int i3)]) hx hb dX6_leastTour_13 hl (by decide) rfl (fun ls hl => ?_)
    exact wfX6_leastTour_15 C i2 i3 M hT mx_fu (0 : Int32) (0 : Int32) _ _ _ hf hM (lv_sub hl [2, 3, 4, 5, 1, 0] rfl)
theorem dX6_firstOfTour_0 : decode cX6_firstOfTour 0 = .ok (.iconst 0, 1) := by decide +kernel
theorem dX6_firstOfTour_1 : decode cX6_firstOfTour 1 = .ok (.istore 4, 2) := by decide +kernel
theorem dX6_firstOfTour_3 : decode cX6_firstOfTour 3 = .ok (.iload 4, 2) := by decide +kernel
theorem dX6_firstOfTour_5 : decode cX6_firstOfTour 5 = .ok (.aload_n 1, 1) := by decide +kernel
theorem dX6_firstOfTour_6 : decode cX6_firstOfTour 6 = .ok (.getfield 35, 3) := by decide +kernel
theorem dX6_firstOfTour_9 : decode cX6_firstOfTour 9 = .ok (.getfield 41, 3) := by decide +kernel
theorem dX6_firstOfTour_12 : decode cX6_firstOfTour 12 = .ok (.if_icmp .ge 45, 3) := by decide +kernel
theorem dX6_firstOfTour_15 : decode cX6_firstOfTour 15 = .ok (.iload_n 2, 1) := by decide +kernel
theorem dX6_firstOfTour_16 : decode cX6_firstOfTour 16 = .ok (.iload 4, 2) := by decide +kernel
theorem dX6_firstOfTour_18 : decode cX6_firstOfTour 18 = .ok (.ishr, 1) := by decide +kernel
theorem dX6_firstOfTour_19 : decode cX6_firstOfTour 19 = .ok (.iconst 1, 1) := by decide +kernel
theorem dX6_firstOfTour_20 : decode cX6_firstOfTour 20 = .ok (.iand, 1) := by decide +kernel
theorem dX6_firstOfTour_21 : decode cX6_firstOfTour 21 = .ok (.iconst 1, 1) := by decide +kernel
theorem dX6_firstOfTour_22 : decode cX6_firstOfTour 22 = .ok (.if_icmp .ne 29, 3) := by decide +kernel
theorem dX6_firstOfTour_25 : decode cX6_firstOfTour 25 = .ok (.aload_n 0, 1) := by decide +kernel
theorem dX6_firstOfTour_26 : decode cX6_firstOfTour 26 = .ok (.aload_n 1, 1) := by decide +kernel
theorem dX6_firstOfTour_27 : decode cX6_firstOfTour 27 = .ok (.iload_n 2, 1) := by decide +kernel
theorem dX6_firstOfTour_28 : decode cX6_firstOfTour 28 = .ok (.iload_n 3, 1) := by decide +kernel
theorem dX6_firstOfTour_29 : decode cX6_firstOfTour 29 = .ok (.iload 4, 2) := by decide +kernel
theorem dX6_firstOfTour_31 : decode cX6_firstOfTour 31 = .ok (.invokevirtual 65, 3) := by decide +kernel
theorem dX6_firstOfTour_34 : decode cX6_firstOfTour 34 = .ok (.aload_n 0, 1) := by decide +kernel
theorem dX6_firstOfTour_35 : decode cX6_firstOfTour 35 = .ok (.getfield 22, 3) := by decide +kernel
theorem dX6_firstOfTour_38 : decode cX6_firstOfTour 38 = .ok (.iload_n 2, 1) := by decide +kernel
theorem dX6_firstOfTour_39 : decode cX6_firstOfTour 39 = .ok (.bipush 7, 2) := by decide +kernel
theorem dX6_firstOfTour_41 : decode cX6_firstOfTour 41 = .ok (.imul, 1) := by decide +kernel
theorem dX6_firstOfTour_42 : decode cX6_firstOfTour 42 = .ok (.iload_n 3, 1) := by decide +kernel
theorem dX6_firstOfTour_43 : decode cX6_firstOfTour 43 = .ok (.iadd, 1) := by decide +kernel
theorem dX6_firstOfTour_44 : decode cX6_firstOfTour 44 = .ok (.iaload, 1) := by decide +kernel
theorem dX6_firstOfTour_45 : decode cX6_firstOfTour 45 = .ok (.if_icmp .ne 6, 3) := by decide +kernel
theorem dX6_firstOfTour_48 : decode cX6_firstOfTour 48 = .ok (.iload 4, 2) := by decide +kernel
theorem dX6_firstOfTour_50 : decode cX6_firstOfTour 50 = .ok (.ireturn, 1) := by decide +kernel
theorem dX6_firstOfTour_51 : decode cX6_firstOfTour 51 = .ok (.iinc 4 1, 3) := by decide +kernel
theorem dX6_firstOfTour_54 : decode cX6_firstOfTour 54 = .ok (.goto (-51), 3) := by decide +kernel
theorem dX6_firstOfTour_57 : decode cX6_firstOfTour 57 = .ok (.iload_n 3, 1) := by decide +kernel
theorem dX6_firstOfTour_58 : decode cX6_firstOfTour 58 = .ok (.ireturn, 1) := by decide +kernel
set_option maxRecDepth 100000 in
set_option maxHeartbeats 4000000 in
theorem wfX6_firstOfTour_3 {E : KE} {p : Program} {l : Launch} {e : Env} {s : State} {m : MethodId} {args : Array Value} {below : List Frame} {meth : Method} {c : Code} {q : Int32} (C : mx_C E p m c cX6_firstOfTour 5 s args RX6 meth (some .int)) (i2 : Int32) (i3 : Int32) (M : MM) (hT : xOK E)   : ∀ (n : Nat) (i4 : Int32) (H : Heap) (locs : List Loc) (ls : Array Slot), fX6_firstOfTour_3 i2 i3 M n i4 = some q → mx_H E s M H locs → lv_has ls 5 [(0, .ref (E.2.1.2.1 143)), (1, .ref (E.2.1.2.1 29)), (2, .int i2), (3, .int i3), (4, .int i4)] → W p l e (mx_rm 4) s m args below meth c H locs 0 0 (mx_Z E below args s (some (.int q)) M) (F0 m 3 ls []) := by
  have hx := C.1.1
  have hb := C.1.2.1
  have hown := C.1.2.2.2.1
  have hts := C.1.2.2.2.2
  intro n
  induction n with
  | zero =>
    intro i4 H locs ls hf hM hl
    rw [fX6_firstOfTour_3] at hf
    cases hf
  | succ n ih =>
    intro i4 H locs ls hf hM hl
    rw [fX6_firstOfTour_3] at hf
    refine lv_iload hx hb dX6_firstOfTour_3 (lv_at hl 4 rfl) ?_
    refine lv_aload_n hx hb dX6_firstOfTour_5 rfl (lv_at hl 1 rfl) ?_
    refine gX6_35 C hT hM (xt_29 hT) (f := (2, 9)) rfl (v := .ref (E.2.1.2.1 9)) rfl dX6_firstOfTour_6 ?_
    refine gX6_41 C hT hM (xt_9 hT) (f := (0, 0)) rfl (v := .int (M.1 9 0)) rfl dX6_firstOfTour_9 ?_
    refine lv_icmp_ge (tgt := 57) hx hb dX6_firstOfTour_12 (by decide) (fun hc12 => ?_) (fun hc12 => ?_)
    · replace hf := mx_ift hc12 hf
      refine lv_iload_n hx hb dX6_firstOfTour_57 rfl (lv_at hl 3 rfl) ?_
      exact mx_iretR C hM hf dX6_firstOfTour_58
    · replace hf := mx_iff hc12 hf
      refine lv_iload_n hx hb dX6_firstOfTour_15 rfl (lv_at hl 2 rfl) ?_
      refine lv_iload hx hb dX6_firstOfTour_16 (lv_at hl 4 rfl) ?_
      refine lv_ishr hx hb dX6_firstOfTour_18 ?_
      refine lv_iconst (v := (1 : Int32)) hx hb dX6_firstOfTour_19 (by decide) ?_
      refine lv_iand hx hb dX6_firstOfTour_20 ?_
      refine lv_iconst (v := (1 : Int32)) hx hb dX6_firstOfTour_21 (by decide) ?_
      refine lv_icmp_ne (tgt := 51) hx hb dX6_firstOfTour_22 (by decide) (fun hc22 => ?_) (fun hc22 => ?_)
      · replace hf := mx_iff hc22 hf
        refine lv_iinc (v := (i4 + (1 : Int32))) (lv' := [(4, .int (i4 + (1 : Int32))), (0, .ref (E.2.1.2.1 143)), (1, .ref (E.2.1.2.1 29)), (2, .int i2), (3, .int i3)]) hx hb dX6_firstOfTour_51 hl (k := 4) rfl rfl (by decide) rfl (fun ls hl => ?_)
        refine lv_goto (tgt := 3) hx hb dX6_firstOfTour_54 (by decide) ?_
        exact ih (i4 + (1 : Int32)) _ _ _ hf hM (lv_sub hl [1, 2, 3, 4, 0] rfl)
      · replace hf := mx_ift hc22 hf
        refine lv_aload_n hx hb dX6_firstOfTour_25 rfl (lv_at hl 0 rfl) ?_
        refine lv_aload_n hx hb dX6_firstOfTour_26 rfl (lv_at hl 1 rfl) ?_
        refine lv_iload_n hx hb dX6_firstOfTour_27 rfl (lv_at hl 2 rfl) ?_
        refine lv_iload_n hx hb dX6_firstOfTour_28 rfl (lv_at hl 3 rfl) ?_
        refine lv_iload hx hb dX6_firstOfTour_29 (lv_at hl 4 rfl) ?_
        obtain ⟨q31, hq31, hf⟩ := mx_bd hf
        refine mx_callV C hM hl.1 yo_X6_tourBy (h' := 3) (by decide) qw_846 qw_848 qs_64 (ci := 6) (q := (RX6, TX6, 7)) rfl (xt_143 hT) (As := [.ref (E.2.1.2.1 29), .int i2, .int i3, .int i4]) (rest := []) (st1 := [.int q31]) (kX6_tourBy C.2.2.2.1 i2 i3 i4 hT M hq31) rfl rfl rfl (Nat.le_of_ble_eq_true rfl) dX6_firstOfTour_31 (fun H locs hM => ?_)
        refine lv_aload_n hx hb dX6_firstOfTour_34 rfl (lv_at hl 0 rfl) ?_
        refine gX6_22 C hM (xt_143 hT) (f := (2, 146)) rfl (v := .ref (E.2.1.2.1 146)) rfl dX6_firstOfTour_35 ?_
        refine lv_iload_n hx hb dX6_firstOfTour_38 rfl (lv_at hl 2 rfl) ?_
        refine lv_bipush (v := (7 : Int32)) hx hb dX6_firstOfTour_39 (by decide) ?_
        refine lv_imul hx hb dX6_firstOfTour_41 ?_
        refine lv_iload_n hx hb dX6_firstOfTour_42 rfl (lv_at hl 3 rfl) ?_
        refine lv_iadd hx hb dX6_firstOfTour_43 ?_
        obtain ⟨hg44, hf⟩ := mx_gd hf
        refine mx_iald C hM (xt_146 hT) (mx_in_vp hg44) dX6_firstOfTour_44 ?_
        refine lv_icmp_ne (tgt := 51) hx hb dX6_firstOfTour_45 (by decide) (fun hc45 => ?_) (fun hc45 => ?_)
        · replace hf := mx_iff hc45 hf
          refine lv_iinc (v := (i4 + (1 : Int32))) (lv' := [(4, .int (i4 + (1 : Int32))), (0, .ref (E.2.1.2.1 143)), (1, .ref (E.2.1.2.1 29)), (2, .int i2), (3, .int i3)]) hx hb dX6_firstOfTour_51 hl (k := 4) rfl rfl (by decide) rfl (fun ls hl => ?_)
          refine lv_goto (tgt := 3) hx hb dX6_firstOfTour_54 (by decide) ?_
          exact ih (i4 + (1 : Int32)) _ _ _ hf hM (lv_sub hl [1, 2, 3, 4, 0] rfl)
        · replace hf := mx_ift hc45 hf
          refine lv_iload hx hb dX6_firstOfTour_48 (lv_at hl 4 rfl) ?_
          exact mx_iretR C hM hf dX6_firstOfTour_50
set_option maxRecDepth 100000 in
set_option maxHeartbeats 4000000 in
theorem kX6_firstOfTour {E : KE} {l : Launch} (hE : mx_ok E) (i2 : Int32) (i3 : Int32) (hT : xOK E) (M : MM) {q : Int32} (hf : fX6_firstOfTour i2 i3 M = some q) : mx_Met E l yX6_firstOfTour cX6_firstOfTour 5 (some .int) 4 [.ref (E.2.1.2.1 143), .ref (E.2.1.2.1 29), .int i2, .int i3] M (some (.int q)) M := by
  refine mx_enter hE (by decide) (Nat.le_of_ble_eq_true rfl) ?_
  intro p e s m below meth c C hM hn ls hl
  have hx := C.1.1
  have hb := C.1.2.1
  have hown := C.1.2.2.2.1
  have hts := C.1.2.2.2.2
  have hl : lv_has ls 5 [(0, .ref (E.2.1.2.1 143)), (1, .ref (E.2.1.2.1 29)), (2, .int i2), (3, .int i3)] := hl
  rw [fX6_firstOfTour] at hf
  refine lv_iconst (v := (0 : Int32)) hx hb dX6_firstOfTour_0 (by decide) ?_
  refine lv_istore (lv' := [(4, .int (0 : Int32)), (0, .ref (E.2.1.2.1 143)), (1, .ref (E.2.1.2.1 29)), (2, .int i2), (3, .int i3)]) hx hb dX6_firstOfTour_1 hl (by decide) rfl (fun ls hl => ?_)
  exact wfX6_firstOfTour_3 C i2 i3 M hT mx_fu (0 : Int32) _ _ _ hf hM (lv_sub hl [1, 2, 3, 4, 0] rfl)
theorem dX6_followTour_0 : decode cX6_followTour 0 = .ok (.iload_n 2, 1) := by decide +kernel
theorem dX6_followTour_1 : decode cX6_followTour 1 = .ok (.istore 4, 2) := by decide +kernel
theorem dX6_followTour_3 : decode cX6_followTour 3 = .ok (.iload_n 3, 1) := by decide +kernel
theorem dX6_followTour_4 : decode cX6_followTour 4 = .ok (.istore 5, 2) := by decide +kernel
theorem dX6_followTour_6 : decode cX6_followTour 6 = .ok (.aload_n 0, 1) := by decide +kernel
theorem dX6_followTour_7 : decode cX6_followTour 7 = .ok (.iconst 0, 1) := by decide +kernel
theorem dX6_followTour_8 : decode cX6_followTour 8 = .ok (.putfield 78, 3) := by decide +kernel
theorem dX6_followTour_11 : decode cX6_followTour 11 = .ok (.iconst 0, 1) := by decide +kernel
theorem dX6_followTour_12 : decode cX6_followTour 12 = .ok (.istore 6, 2) := by decide +kernel
theorem dX6_followTour_14 : decode cX6_followTour 14 = .ok (.iload 6, 2) := by decide +kernel
theorem dX6_followTour_16 : decode cX6_followTour 16 = .ok (.bipush 7, 2) := by decide +kernel
theorem dX6_followTour_18 : decode cX6_followTour 18 = .ok (.if_icmp .ge 59, 3) := by decide +kernel
theorem dX6_followTour_21 : decode cX6_followTour 21 = .ok (.iload 4, 2) := by decide +kernel
theorem dX6_followTour_23 : decode cX6_followTour 23 = .ok (.ifCond .eq 54, 3) := by decide +kernel
theorem dX6_followTour_26 : decode cX6_followTour 26 = .ok (.aload_n 0, 1) := by decide +kernel
theorem dX6_followTour_27 : decode cX6_followTour 27 = .ok (.aload_n 1, 1) := by decide +kernel
theorem dX6_followTour_28 : decode cX6_followTour 28 = .ok (.iload 4, 2) := by decide +kernel
theorem dX6_followTour_30 : decode cX6_followTour 30 = .ok (.iload 5, 2) := by decide +kernel
theorem dX6_followTour_32 : decode cX6_followTour 32 = .ok (.invokevirtual 81, 3) := by decide +kernel
theorem dX6_followTour_35 : decode cX6_followTour 35 = .ok (.istore 7, 2) := by decide +kernel
theorem dX6_followTour_37 : decode cX6_followTour 37 = .ok (.aload_n 0, 1) := by decide +kernel
theorem dX6_followTour_38 : decode cX6_followTour 38 = .ok (.getfield 9, 3) := by decide +kernel
theorem dX6_followTour_41 : decode cX6_followTour 41 = .ok (.iload 6, 2) := by decide +kernel
theorem dX6_followTour_43 : decode cX6_followTour 43 = .ok (.iload 7, 2) := by decide +kernel
theorem dX6_followTour_45 : decode cX6_followTour 45 = .ok (.iastore, 1) := by decide +kernel
theorem dX6_followTour_46 : decode cX6_followTour 46 = .ok (.aload_n 0, 1) := by decide +kernel
theorem dX6_followTour_47 : decode cX6_followTour 47 = .ok (.dup, 1) := by decide +kernel
theorem dX6_followTour_48 : decode cX6_followTour 48 = .ok (.getfield 78, 3) := by decide +kernel
theorem dX6_followTour_51 : decode cX6_followTour 51 = .ok (.iconst 1, 1) := by decide +kernel
theorem dX6_followTour_52 : decode cX6_followTour 52 = .ok (.iadd, 1) := by decide +kernel
theorem dX6_followTour_53 : decode cX6_followTour 53 = .ok (.putfield 78, 3) := by decide +kernel
theorem dX6_followTour_56 : decode cX6_followTour 56 = .ok (.iload 4, 2) := by decide +kernel
theorem dX6_followTour_58 : decode cX6_followTour 58 = .ok (.iconst 1, 1) := by decide +kernel
theorem dX6_followTour_59 : decode cX6_followTour 59 = .ok (.iload 7, 2) := by decide +kernel
theorem dX6_followTour_61 : decode cX6_followTour 61 = .ok (.ishl, 1) := by decide +kernel
theorem dX6_followTour_62 : decode cX6_followTour 62 = .ok (.iconst (-1), 1) := by decide +kernel
theorem dX6_followTour_63 : decode cX6_followTour 63 = .ok (.ixor, 1) := by decide +kernel
theorem dX6_followTour_64 : decode cX6_followTour 64 = .ok (.iand, 1) := by decide +kernel
theorem dX6_followTour_65 : decode cX6_followTour 65 = .ok (.istore 4, 2) := by decide +kernel
theorem dX6_followTour_67 : decode cX6_followTour 67 = .ok (.iload 7, 2) := by decide +kernel
theorem dX6_followTour_69 : decode cX6_followTour 69 = .ok (.istore 5, 2) := by decide +kernel
theorem dX6_followTour_71 : decode cX6_followTour 71 = .ok (.iinc 6 1, 3) := by decide +kernel
theorem dX6_followTour_74 : decode cX6_followTour 74 = .ok (.goto (-60), 3) := by decide +kernel
theorem dX6_followTour_77 : decode cX6_followTour 77 = .ok (.return_, 1) := by decide +kernel
set_option maxRecDepth 100000 in
set_option maxHeartbeats 4000000 in
theorem wfX6_followTour_14 {E : KE} {p : Program} {l : Launch} {e : Env} {s : State} {m : MethodId} {args : Array Value} {below : List Frame} {meth : Method} {c : Code} {q : MM} (C : mx_C E p m c cX6_followTour 8 s args RX6 meth none) (i2 : Int32) (i3 : Int32) (hT : xOK E)   : ∀ (n : Nat) (i4 : Int32) (i5 : Int32) (i6 : Int32) (M : MM) (H : Heap) (locs : List Loc) (ls : Array Slot), fX6_followTour_14 i2 i3 n i4 i5 i6 M = some q → mx_H E s M H locs → lv_has ls 8 [(0, .ref (E.2.1.2.1 143)), (1, .ref (E.2.1.2.1 29)), (4, .int i4), (5, .int i5), (6, .int i6)] → W p l e (mx_rm 5) s m args below meth c H locs 0 0 (mx_Z E below args s none q) (F0 m 14 ls []) := by
  have hx := C.1.1
  have hb := C.1.2.1
  have hown := C.1.2.2.2.1
  have hts := C.1.2.2.2.2
  intro n
  induction n with
  | zero =>
    intro i4 i5 i6 M H locs ls hf hM hl
    rw [fX6_followTour_14] at hf
    cases hf
  | succ n ih =>
    intro i4 i5 i6 M H locs ls hf hM hl
    rw [fX6_followTour_14] at hf
    refine lv_iload hx hb dX6_followTour_14 (lv_at hl 4 rfl) ?_
    refine lv_bipush (v := (7 : Int32)) hx hb dX6_followTour_16 (by decide) ?_
    refine lv_icmp_ge (tgt := 77) hx hb dX6_followTour_18 (by decide) (fun hc18 => ?_) (fun hc18 => ?_)
    · replace hf := mx_ift hc18 hf
      exact mx_vret C hM hf dX6_followTour_77
    · replace hf := mx_iff hc18 hf
      refine lv_iload hx hb dX6_followTour_21 (lv_at hl 2 rfl) ?_
      refine lv_if_eq (tgt := 77) hx hb dX6_followTour_23 (by decide) (fun hc23 => ?_) (fun hc23 => ?_)
      · replace hf := mx_ift hc23 hf
        exact mx_vret C hM hf dX6_followTour_77
      · replace hf := mx_iff hc23 hf
        refine lv_aload_n hx hb dX6_followTour_26 rfl (lv_at hl 0 rfl) ?_
        refine lv_aload_n hx hb dX6_followTour_27 rfl (lv_at hl 1 rfl) ?_
        refine lv_iload hx hb dX6_followTour_28 (lv_at hl 2 rfl) ?_
        refine lv_iload hx hb dX6_followTour_30 (lv_at hl 3 rfl) ?_
        obtain ⟨q32, hq32, hf⟩ := mx_bd hf
        refine mx_callV C hM hl.1 yo_X6_firstOfTour (h' := 4) (by decide) qw_861 qw_863 qs_67 (ci := 6) (q := (RX6, TX6, 7)) rfl (xt_143 hT) (As := [.ref (E.2.1.2.1 29), .int i4, .int i5]) (rest := []) (st1 := [.int q32]) (kX6_firstOfTour C.2.2.2.1 i4 i5 hT M hq32) rfl rfl rfl (Nat.le_of_ble_eq_true rfl) dX6_followTour_32 (fun H locs hM => ?_)
        refine lv_istore (lv' := [(7, .int q32), (0, .ref (E.2.1.2.1 143)), (1, .ref (E.2.1.2.1 29)), (4, .int i4), (5, .int i5), (6, .int i6)]) hx hb dX6_followTour_35 hl (by decide) rfl (fun ls hl => ?_)
        refine lv_aload_n hx hb dX6_followTour_37 rfl (lv_at hl 1 rfl) ?_
        refine gX6_9 C hM (xt_143 hT) (f := (2, 144)) rfl (v := .ref (E.2.1.2.1 144)) rfl dX6_followTour_38 ?_
        refine lv_iload hx hb dX6_followTour_41 (lv_at hl 5 rfl) ?_
        refine lv_iload hx hb dX6_followTour_43 (lv_at hl 0 rfl) ?_
        obtain ⟨hg45, hf⟩ := mx_gd hf
        refine mx_iast C hM (xt_144 hT) (mx_in_vp hg45) dX6_followTour_45 (fun H locs hM => ?_)
        refine lv_aload_n hx hb dX6_followTour_46 rfl (lv_at hl 1 rfl) ?_
        refine lv_dup hx hb dX6_followTour_47 rfl ?_
        refine gX6_78 C hM (xt_143 hT) (f := (0, 0)) rfl (v := .int ((mx_si M 144 i6.toNatClampNeg q32).1 143 1)) rfl dX6_followTour_48 ?_
        refine lv_iconst (v := (1 : Int32)) hx hb dX6_followTour_51 (by decide) ?_
        refine lv_iadd hx hb dX6_followTour_52 ?_
        refine pX6_78 C hM (xt_143 hT) rfl rfl rfl dX6_followTour_53 (fun H locs hM => ?_)
        refine lv_iload hx hb dX6_followTour_56 (lv_at hl 3 rfl) ?_
        refine lv_iconst (v := (1 : Int32)) hx hb dX6_followTour_58 (by decide) ?_
        refine lv_iload hx hb dX6_followTour_59 (lv_at hl 0 rfl) ?_
        refine lv_ishl hx hb dX6_followTour_61 ?_
        refine lv_iconst (v := (-1 : Int32)) hx hb dX6_followTour_62 (by decide) ?_
        refine lv_ixor hx hb dX6_followTour_63 ?_
        refine lv_iand hx hb dX6_followTour_64 ?_
        refine lv_istore (lv' := [(4, .int (i4 &&& (((1 : Int32) <<< (q32 &&& 31)) ^^^ (-1 : Int32)))), (7, .int q32), (0, .ref (E.2.1.2.1 143)), (1, .ref (E.2.1.2.1 29)), (5, .int i5), (6, .int i6)]) hx hb dX6_followTour_65 hl (by decide) rfl (fun ls hl => ?_)
        refine lv_iload hx hb dX6_followTour_67 (lv_at hl 1 rfl) ?_
        refine lv_istore (lv' := [(5, .int q32), (4, .int (i4 &&& (((1 : Int32) <<< (q32 &&& 31)) ^^^ (-1 : Int32)))), (7, .int q32), (0, .ref (E.2.1.2.1 143)), (1, .ref (E.2.1.2.1 29)), (6, .int i6)]) hx hb dX6_followTour_69 hl (by decide) rfl (fun ls hl => ?_)
        refine lv_iinc (v := (i6 + (1 : Int32))) (lv' := [(6, .int (i6 + (1 : Int32))), (5, .int q32), (4, .int (i4 &&& (((1 : Int32) <<< (q32 &&& 31)) ^^^ (-1 : Int32)))), (7, .int q32), (0, .ref (E.2.1.2.1 143)), (1, .ref (E.2.1.2.1 29))]) hx hb dX6_followTour_71 hl (k := 5) rfl rfl (by decide) rfl (fun ls hl => ?_)
        refine lv_goto (tgt := 14) hx hb dX6_followTour_74 (by decide) ?_
        exact ih (i4 &&& (((1 : Int32) <<< (q32 &&& 31)) ^^^ (-1 : Int32))) q32 (i6 + (1 : Int32)) (mx_si (mx_si M 144 i6.toNatClampNeg q32) 143 1 (((mx_si M 144 i6.toNatClampNeg q32).1 143 1) + (1 : Int32))) _ _ _ hf hM (lv_sub hl [4, 5, 2, 1, 0] rfl)
set_option maxRecDepth 100000 in
set_option maxHeartbeats 4000000 in
theorem kX6_followTour {E : KE} {l : Launch} (hE : mx_ok E) (i2 : Int32) (i3 : Int32) (hT : xOK E) (M : MM) {q : MM} (hf : fX6_followTour i2 i3 M = some q) : mx_Met E l yX6_followTour cX6_followTour 8 none 5 [.ref (E.2.1.2.1 143), .ref (E.2.1.2.1 29), .int i2, .int i3] M none q := by
  refine mx_enter hE (by decide) (Nat.le_of_ble_eq_true rfl) ?_
  intro p e s m below meth c C hM hn ls hl
  have hx := C.1.1
  have hb := C.1.2.1
  have hown := C.1.2.2.2.1
  have hts := C.1.2.2.2.2
  have hl : lv_has ls 8 [(0, .ref (E.2.1.2.1 143)), (1, .ref (E.2.1.2.1 29)), (2, .int i2), (3, .int i3)] := hl
  rw [fX6_followTour] at hf
  refine lv_iload_n hx hb dX6_followTour_0 rfl (lv_at hl 2 rfl) ?_
  refine lv_istore (lv' := [(4, .int i2), (0, .ref (E.2.1.2.1 143)), (1, .ref (E.2.1.2.1 29)), (2, .int i2), (3, .int i3)]) hx hb dX6_followTour_1 hl (by decide) rfl (fun ls hl => ?_)
  refine lv_iload_n hx hb dX6_followTour_3 rfl (lv_at hl 4 rfl) ?_
  refine lv_istore (lv' := [(5, .int i3), (4, .int i2), (0, .ref (E.2.1.2.1 143)), (1, .ref (E.2.1.2.1 29)), (2, .int i2), (3, .int i3)]) hx hb dX6_followTour_4 hl (by decide) rfl (fun ls hl => ?_)
  refine lv_aload_n hx hb dX6_followTour_6 rfl (lv_at hl 2 rfl) ?_
  refine lv_iconst (v := (0 : Int32)) hx hb dX6_followTour_7 (by decide) ?_
  refine pX6_78 C hM (xt_143 hT) rfl rfl rfl dX6_followTour_8 (fun H locs hM => ?_)
  refine lv_iconst (v := (0 : Int32)) hx hb dX6_followTour_11 (by decide) ?_
  refine lv_istore (lv' := [(6, .int (0 : Int32)), (5, .int i3), (4, .int i2), (0, .ref (E.2.1.2.1 143)), (1, .ref (E.2.1.2.1 29)), (2, .int i2), (3, .int i3)]) hx hb dX6_followTour_12 hl (by decide) rfl (fun ls hl => ?_)
  exact wfX6_followTour_14 C i2 i3 hT mx_fu i2 i3 (0 : Int32) (mx_si M 143 1 (0 : Int32)) _ _ _ hf hM (lv_sub hl [3, 4, 2, 1, 0] rfl)
theorem dX6_planTour_0 : decode cX6_planTour 0 = .ok (.aload_n 1, 1) := by decide +kernel
theorem dX6_planTour_1 : decode cX6_planTour 1 = .ok (.iload_n 2, 1) := by decide +kernel
theorem dX6_planTour_2 : decode cX6_planTour 2 = .ok (.invokestatic 31, 3) := by decide +kernel
theorem dX6_planTour_5 : decode cX6_planTour 5 = .ok (.istore_n 3, 1) := by decide +kernel
theorem dX6_planTour_6 : decode cX6_planTour 6 = .ok (.iconst 0, 1) := by decide +kernel
theorem dX6_planTour_7 : decode cX6_planTour 7 = .ok (.istore 4, 2) := by decide +kernel
theorem dX6_planTour_9 : decode cX6_planTour 9 = .ok (.iload 4, 2) := by decide +kernel
theorem dX6_planTour_11 : decode cX6_planTour 11 = .ok (.sipush 128, 3) := by decide +kernel
theorem dX6_planTour_14 : decode cX6_planTour 14 = .ok (.if_icmp .ge 61, 3) := by decide +kernel
theorem dX6_planTour_17 : decode cX6_planTour 17 = .ok (.iload 4, 2) := by decide +kernel
theorem dX6_planTour_19 : decode cX6_planTour 19 = .ok (.iload_n 3, 1) := by decide +kernel
theorem dX6_planTour_20 : decode cX6_planTour 20 = .ok (.iconst (-1), 1) := by decide +kernel
theorem dX6_planTour_21 : decode cX6_planTour 21 = .ok (.ixor, 1) := by decide +kernel
theorem dX6_planTour_22 : decode cX6_planTour 22 = .ok (.iand, 1) := by decide +kernel
theorem dX6_planTour_23 : decode cX6_planTour 23 = .ok (.ifCond .ne 46, 3) := by decide +kernel
theorem dX6_planTour_26 : decode cX6_planTour 26 = .ok (.iconst 0, 1) := by decide +kernel
theorem dX6_planTour_27 : decode cX6_planTour 27 = .ok (.istore 5, 2) := by decide +kernel
theorem dX6_planTour_29 : decode cX6_planTour 29 = .ok (.iload 5, 2) := by decide +kernel
theorem dX6_planTour_31 : decode cX6_planTour 31 = .ok (.aload_n 1, 1) := by decide +kernel
theorem dX6_planTour_32 : decode cX6_planTour 32 = .ok (.getfield 35, 3) := by decide +kernel
theorem dX6_planTour_35 : decode cX6_planTour 35 = .ok (.getfield 41, 3) := by decide +kernel
theorem dX6_planTour_38 : decode cX6_planTour 38 = .ok (.if_icmp .ge 31, 3) := by decide +kernel
theorem dX6_planTour_41 : decode cX6_planTour 41 = .ok (.aload_n 0, 1) := by decide +kernel
theorem dX6_planTour_42 : decode cX6_planTour 42 = .ok (.getfield 22, 3) := by decide +kernel
theorem dX6_planTour_45 : decode cX6_planTour 45 = .ok (.iload 4, 2) := by decide +kernel
theorem dX6_planTour_47 : decode cX6_planTour 47 = .ok (.bipush 7, 2) := by decide +kernel
theorem dX6_planTour_49 : decode cX6_planTour 49 = .ok (.imul, 1) := by decide +kernel
theorem dX6_planTour_50 : decode cX6_planTour 50 = .ok (.iload 5, 2) := by decide +kernel
theorem dX6_planTour_52 : decode cX6_planTour 52 = .ok (.iadd, 1) := by decide +kernel
theorem dX6_planTour_53 : decode cX6_planTour 53 = .ok (.aload_n 0, 1) := by decide +kernel
theorem dX6_planTour_54 : decode cX6_planTour 54 = .ok (.aload_n 1, 1) := by decide +kernel
theorem dX6_planTour_55 : decode cX6_planTour 55 = .ok (.iload 4, 2) := by decide +kernel
theorem dX6_planTour_57 : decode cX6_planTour 57 = .ok (.iload 5, 2) := by decide +kernel
theorem dX6_planTour_59 : decode cX6_planTour 59 = .ok (.invokevirtual 46, 3) := by decide +kernel
theorem dX6_planTour_62 : decode cX6_planTour 62 = .ok (.iastore, 1) := by decide +kernel
theorem dX6_planTour_63 : decode cX6_planTour 63 = .ok (.iinc 5 1, 3) := by decide +kernel
theorem dX6_planTour_66 : decode cX6_planTour 66 = .ok (.goto (-37), 3) := by decide +kernel
theorem dX6_planTour_69 : decode cX6_planTour 69 = .ok (.iinc 4 1, 3) := by decide +kernel
theorem dX6_planTour_72 : decode cX6_planTour 72 = .ok (.goto (-63), 3) := by decide +kernel
theorem dX6_planTour_75 : decode cX6_planTour 75 = .ok (.aload_n 0, 1) := by decide +kernel
theorem dX6_planTour_76 : decode cX6_planTour 76 = .ok (.aload_n 1, 1) := by decide +kernel
theorem dX6_planTour_77 : decode cX6_planTour 77 = .ok (.iload_n 3, 1) := by decide +kernel
theorem dX6_planTour_78 : decode cX6_planTour 78 = .ok (.iload_n 2, 1) := by decide +kernel
theorem dX6_planTour_79 : decode cX6_planTour 79 = .ok (.invokevirtual 50, 3) := by decide +kernel
theorem dX6_planTour_82 : decode cX6_planTour 82 = .ok (.aload_n 0, 1) := by decide +kernel
theorem dX6_planTour_83 : decode cX6_planTour 83 = .ok (.getfield 22, 3) := by decide +kernel
theorem dX6_planTour_86 : decode cX6_planTour 86 = .ok (.iload_n 3, 1) := by decide +kernel
theorem dX6_planTour_87 : decode cX6_planTour 87 = .ok (.bipush 7, 2) := by decide +kernel
theorem dX6_planTour_89 : decode cX6_planTour 89 = .ok (.imul, 1) := by decide +kernel
theorem dX6_planTour_90 : decode cX6_planTour 90 = .ok (.iload_n 2, 1) := by decide +kernel
theorem dX6_planTour_91 : decode cX6_planTour 91 = .ok (.iadd, 1) := by decide +kernel
theorem dX6_planTour_92 : decode cX6_planTour 92 = .ok (.iaload, 1) := by decide +kernel
theorem dX6_planTour_93 : decode cX6_planTour 93 = .ok (.ireturn, 1) := by decide +kernel
set_option maxRecDepth 100000 in
set_option maxHeartbeats 4000000 in
theorem wfX6_planTour_29 {E : KE} {p : Program} {l : Launch} {e : Env} {s : State} {m : MethodId} {args : Array Value} {below : List Frame} {meth : Method} {c : Code} {q : (Int32 × MM)} (C : mx_C E p m c cX6_planTour 6 s args RX6 meth (some .int)) (i2 : Int32) (hT : xOK E) (i3 : Int32) (k9 : Int32 → MM → Option (Int32 × MM)) (hk9 : ∀ (i4 : Int32) (M : MM) (H : Heap) (locs : List Loc) (ls : Array Slot), k9 i4 M = some q → mx_H E s M H locs → lv_has ls 6 [(0, .ref (E.2.1.2.1 143)), (1, .ref (E.2.1.2.1 29)), (2, .int i2), (3, .int i3), (4, .int i4)] → W p l e (mx_rm 6) s m args below meth c H locs 0 0 (mx_Z E below args s (some (.int q.1)) q.2) (F0 m 9 ls [])) : ∀ (n : Nat) (i4 : Int32) (i5 : Int32) (M : MM) (H : Heap) (locs : List Loc) (ls : Array Slot), fX6_planTour_29 i2 i3 k9 n i4 i5 M = some q → mx_H E s M H locs → lv_has ls 6 [(0, .ref (E.2.1.2.1 143)), (1, .ref (E.2.1.2.1 29)), (2, .int i2), (3, .int i3), (4, .int i4), (5, .int i5)] → W p l e (mx_rm 6) s m args below meth c H locs 0 0 (mx_Z E below args s (some (.int q.1)) q.2) (F0 m 29 ls []) := by
  have hx := C.1.1
  have hb := C.1.2.1
  have hown := C.1.2.2.2.1
  have hts := C.1.2.2.2.2
  intro n
  induction n with
  | zero =>
    intro i4 i5 M H locs ls hf hM hl
    rw [fX6_planTour_29] at hf
    cases hf
  | succ n ih =>
    intro i4 i5 M H locs ls hf hM hl
    rw [fX6_planTour_29] at hf
    refine lv_iload hx hb dX6_planTour_29 (lv_at hl 5 rfl) ?_
    refine lv_aload_n hx hb dX6_planTour_31 rfl (lv_at hl 1 rfl) ?_
    refine gX6_35 C hT hM (xt_29 hT) (f := (2, 9)) rfl (v := .ref (E.2.1.2.1 9)) rfl dX6_planTour_32 ?_
    refine gX6_41 C hT hM (xt_9 hT) (f := (0, 0)) rfl (v := .int (M.1 9 0)) rfl dX6_planTour_35 ?_
    refine lv_icmp_ge (tgt := 69) hx hb dX6_planTour_38 (by decide) (fun hc38 => ?_) (fun hc38 => ?_)
    · replace hf := mx_ift hc38 hf
      refine lv_iinc (v := (i4 + (1 : Int32))) (lv' := [(4, .int (i4 + (1 : Int32))), (0, .ref (E.2.1.2.1 143)), (1, .ref (E.2.1.2.1 29)), (2, .int i2), (3, .int i3), (5, .int i5)]) hx hb dX6_planTour_69 hl (k := 4) rfl rfl (by decide) rfl (fun ls hl => ?_)
      refine lv_goto (tgt := 9) hx hb dX6_planTour_72 (by decide) ?_
      exact hk9 (i4 + (1 : Int32)) M _ _ _ hf hM (lv_sub hl [1, 2, 3, 4, 0] rfl)
    · replace hf := mx_iff hc38 hf
      refine lv_aload_n hx hb dX6_planTour_41 rfl (lv_at hl 0 rfl) ?_
      refine gX6_22 C hM (xt_143 hT) (f := (2, 146)) rfl (v := .ref (E.2.1.2.1 146)) rfl dX6_planTour_42 ?_
      refine lv_iload hx hb dX6_planTour_45 (lv_at hl 4 rfl) ?_
      refine lv_bipush (v := (7 : Int32)) hx hb dX6_planTour_47 (by decide) ?_
      refine lv_imul hx hb dX6_planTour_49 ?_
      refine lv_iload hx hb dX6_planTour_50 (lv_at hl 5 rfl) ?_
      refine lv_iadd hx hb dX6_planTour_52 ?_
      refine lv_aload_n hx hb dX6_planTour_53 rfl (lv_at hl 0 rfl) ?_
      refine lv_aload_n hx hb dX6_planTour_54 rfl (lv_at hl 1 rfl) ?_
      refine lv_iload hx hb dX6_planTour_55 (lv_at hl 4 rfl) ?_
      refine lv_iload hx hb dX6_planTour_57 (lv_at hl 5 rfl) ?_
      obtain ⟨q59, hq59, hf⟩ := mx_bd hf
      refine mx_callV C hM hl.1 yo_X6_leastTour (h' := 4) (by decide) qw_841 qw_843 qs_63 (ci := 6) (q := (RX6, TX6, 7)) rfl (xt_143 hT) (As := [.ref (E.2.1.2.1 29), .int i4, .int i5]) (rest := [.int ((i4 * (7 : Int32)) + i5), .ref (E.2.1.2.1 146)]) (st1 := [.int q59, .int ((i4 * (7 : Int32)) + i5), .ref (E.2.1.2.1 146)]) (kX6_leastTour C.2.2.2.1 i4 i5 hT M hq59) rfl rfl rfl (Nat.le_of_ble_eq_true rfl) dX6_planTour_59 (fun H locs hM => ?_)
      obtain ⟨hg62, hf⟩ := mx_gd hf
      refine mx_iast C hM (xt_146 hT) (mx_in_vp hg62) dX6_planTour_62 (fun H locs hM => ?_)
      refine lv_iinc (v := (i5 + (1 : Int32))) (lv' := [(5, .int (i5 + (1 : Int32))), (0, .ref (E.2.1.2.1 143)), (1, .ref (E.2.1.2.1 29)), (2, .int i2), (3, .int i3), (4, .int i4)]) hx hb dX6_planTour_63 hl (k := 5) rfl rfl (by decide) rfl (fun ls hl => ?_)
      refine lv_goto (tgt := 29) hx hb dX6_planTour_66 (by decide) ?_
      exact ih i4 (i5 + (1 : Int32)) (mx_si M 146 ((i4 * (7 : Int32)) + i5).toNatClampNeg q59) _ _ _ hf hM (lv_sub hl [1, 2, 3, 4, 5, 0] rfl)
set_option maxRecDepth 100000 in
set_option maxHeartbeats 4000000 in
theorem wfX6_planTour_9 {E : KE} {p : Program} {l : Launch} {e : Env} {s : State} {m : MethodId} {args : Array Value} {below : List Frame} {meth : Method} {c : Code} {q : (Int32 × MM)} (C : mx_C E p m c cX6_planTour 6 s args RX6 meth (some .int)) (i2 : Int32) (hT : xOK E) (i3 : Int32)  : ∀ (n : Nat) (i4 : Int32) (M : MM) (H : Heap) (locs : List Loc) (ls : Array Slot), fX6_planTour_9 i2 i3 n i4 M = some q → mx_H E s M H locs → lv_has ls 6 [(0, .ref (E.2.1.2.1 143)), (1, .ref (E.2.1.2.1 29)), (2, .int i2), (3, .int i3), (4, .int i4)] → W p l e (mx_rm 6) s m args below meth c H locs 0 0 (mx_Z E below args s (some (.int q.1)) q.2) (F0 m 9 ls []) := by
  have hx := C.1.1
  have hb := C.1.2.1
  have hown := C.1.2.2.2.1
  have hts := C.1.2.2.2.2
  intro n
  induction n with
  | zero =>
    intro i4 M H locs ls hf hM hl
    rw [fX6_planTour_9] at hf
    cases hf
  | succ n ih =>
    intro i4 M H locs ls hf hM hl
    rw [fX6_planTour_9] at hf
    refine lv_iload hx hb dX6_planTour_9 (lv_at hl 4 rfl) ?_
    refine lv_sipush (v := (128 : Int32)) hx hb dX6_planTour_11 (by decide) ?_
    refine lv_icmp_ge (tgt := 75) hx hb dX6_planTour_14 (by decide) (fun hc14 => ?_) (fun hc14 => ?_)
    · replace hf := mx_ift hc14 hf
      refine lv_aload_n hx hb dX6_planTour_75 rfl (lv_at hl 0 rfl) ?_
      refine lv_aload_n hx hb dX6_planTour_76 rfl (lv_at hl 1 rfl) ?_
      refine lv_iload_n hx hb dX6_planTour_77 rfl (lv_at hl 3 rfl) ?_
      refine lv_iload_n hx hb dX6_planTour_78 rfl (lv_at hl 2 rfl) ?_
      obtain ⟨q79, hq79, hf⟩ := mx_bd hf
      refine mx_callV C hM hl.1 yo_X6_followTour (h' := 5) (by decide) qw_857 qw_859 qs_66 (ci := 6) (q := (RX6, TX6, 7)) rfl (xt_143 hT) (As := [.ref (E.2.1.2.1 29), .int i3, .int i2]) (rest := []) (st1 := []) (kX6_followTour C.2.2.2.1 i3 i2 hT M hq79) rfl rfl rfl (Nat.le_of_ble_eq_true rfl) dX6_planTour_79 (fun H locs hM => ?_)
      refine lv_aload_n hx hb dX6_planTour_82 rfl (lv_at hl 0 rfl) ?_
      refine gX6_22 C hM (xt_143 hT) (f := (2, 146)) rfl (v := .ref (E.2.1.2.1 146)) rfl dX6_planTour_83 ?_
      refine lv_iload_n hx hb dX6_planTour_86 rfl (lv_at hl 3 rfl) ?_
      refine lv_bipush (v := (7 : Int32)) hx hb dX6_planTour_87 (by decide) ?_
      refine lv_imul hx hb dX6_planTour_89 ?_
      refine lv_iload_n hx hb dX6_planTour_90 rfl (lv_at hl 2 rfl) ?_
      refine lv_iadd hx hb dX6_planTour_91 ?_
      obtain ⟨hg92, hf⟩ := mx_gd hf
      refine mx_iald C hM (xt_146 hT) (mx_in_vp hg92) dX6_planTour_92 ?_
      exact mx_iret C hM hf dX6_planTour_93
    · replace hf := mx_iff hc14 hf
      refine lv_iload hx hb dX6_planTour_17 (lv_at hl 4 rfl) ?_
      refine lv_iload_n hx hb dX6_planTour_19 rfl (lv_at hl 3 rfl) ?_
      refine lv_iconst (v := (-1 : Int32)) hx hb dX6_planTour_20 (by decide) ?_
      refine lv_ixor hx hb dX6_planTour_21 ?_
      refine lv_iand hx hb dX6_planTour_22 ?_
      refine lv_if_ne (tgt := 69) hx hb dX6_planTour_23 (by decide) (fun hc23 => ?_) (fun hc23 => ?_)
      · replace hf := mx_iff hc23 hf
        refine lv_iinc (v := (i4 + (1 : Int32))) (lv' := [(4, .int (i4 + (1 : Int32))), (0, .ref (E.2.1.2.1 143)), (1, .ref (E.2.1.2.1 29)), (2, .int i2), (3, .int i3)]) hx hb dX6_planTour_69 hl (k := 4) rfl rfl (by decide) rfl (fun ls hl => ?_)
        refine lv_goto (tgt := 9) hx hb dX6_planTour_72 (by decide) ?_
        exact ih (i4 + (1 : Int32)) M _ _ _ hf hM (lv_sub hl [1, 2, 3, 4, 0] rfl)
      · replace hf := mx_ift hc23 hf
        refine lv_iconst (v := (0 : Int32)) hx hb dX6_planTour_26 (by decide) ?_
        refine lv_istore (lv' := [(5, .int (0 : Int32)), (0, .ref (E.2.1.2.1 143)), (1, .ref (E.2.1.2.1 29)), (2, .int i2), (3, .int i3), (4, .int i4)]) hx hb dX6_planTour_27 hl (by decide) rfl (fun ls hl => ?_)
        exact wfX6_planTour_29 C i2 hT i3 (fX6_planTour_9 i2 i3 n) ih mx_fu i4 (0 : Int32) M _ _ _ hf hM (lv_sub hl [1, 2, 3, 4, 5, 0] rfl)
set_option maxRecDepth 100000 in
set_option maxHeartbeats 4000000 in
theorem kX6_planTour {E : KE} {l : Launch} (hE : mx_ok E) (i2 : Int32) (hT : xOK E) (M : MM) {q : (Int32 × MM)} (hf : fX6_planTour i2 M = some q) : mx_Met E l yX6_planTour cX6_planTour 6 (some .int) 6 [.ref (E.2.1.2.1 143), .ref (E.2.1.2.1 29), .int i2] M (some (.int q.1)) q.2 := by
  refine mx_enter hE (by decide) (Nat.le_of_ble_eq_true rfl) ?_
  intro p e s m below meth c C hM hn ls hl
  have hx := C.1.1
  have hb := C.1.2.1
  have hown := C.1.2.2.2.1
  have hts := C.1.2.2.2.2
  have hl : lv_has ls 6 [(0, .ref (E.2.1.2.1 143)), (1, .ref (E.2.1.2.1 29)), (2, .int i2)] := hl
  rw [fX6_planTour] at hf
  refine lv_aload_n hx hb dX6_planTour_0 rfl (lv_at hl 1 rfl) ?_
  refine lv_iload_n hx hb dX6_planTour_1 rfl (lv_at hl 2 rfl) ?_
  obtain ⟨q2, hq2, hf⟩ := mx_bd hf
  refine mx_callS C hM hl.1 yo_X6_ownersOfKept (h' := 1) (by decide) qw_837 qw_838 (As := [.ref (E.2.1.2.1 29), .int i2]) (rest := []) (st1 := [.int q2]) (kX6_ownersOfKept C.2.2.2.1 i2 hT M hq2) rfl rfl rfl (Nat.le_of_ble_eq_true rfl) dX6_planTour_2 (fun H locs hM => ?_)
  refine lv_istore_n (lv' := [(3, .int q2), (0, .ref (E.2.1.2.1 143)), (1, .ref (E.2.1.2.1 29)), (2, .int i2)]) hx hb dX6_planTour_5 rfl hl (by decide) rfl (fun ls hl => ?_)
  refine lv_iconst (v := (0 : Int32)) hx hb dX6_planTour_6 (by decide) ?_
  refine lv_istore (lv' := [(4, .int (0 : Int32)), (3, .int q2), (0, .ref (E.2.1.2.1 143)), (1, .ref (E.2.1.2.1 29)), (2, .int i2)]) hx hb dX6_planTour_7 hl (by decide) rfl (fun ls hl => ?_)
  exact wfX6_planTour_9 C i2 hT q2 mx_fu (0 : Int32) M _ _ _ hf hM (lv_sub hl [2, 3, 4, 1, 0] rfl)
theorem dX6_mayKeep_0 : decode cX6_mayKeep 0 = .ok (.iload_n 1, 1) := by decide +kernel
theorem dX6_mayKeep_1 : decode cX6_mayKeep 1 = .ok (.iload_n 2, 1) := by decide +kernel
theorem dX6_mayKeep_2 : decode cX6_mayKeep 2 = .ok (.ishr, 1) := by decide +kernel
theorem dX6_mayKeep_3 : decode cX6_mayKeep 3 = .ok (.iconst 1, 1) := by decide +kernel
theorem dX6_mayKeep_4 : decode cX6_mayKeep 4 = .ok (.iand, 1) := by decide +kernel
theorem dX6_mayKeep_5 : decode cX6_mayKeep 5 = .ok (.ifCond .ne 20, 3) := by decide +kernel
theorem dX6_mayKeep_8 : decode cX6_mayKeep 8 = .ok (.aload_n 0, 1) := by decide +kernel
theorem dX6_mayKeep_9 : decode cX6_mayKeep 9 = .ok (.getfield 35, 3) := by decide +kernel
theorem dX6_mayKeep_12 : decode cX6_mayKeep 12 = .ok (.getfield 61, 3) := by decide +kernel
theorem dX6_mayKeep_15 : decode cX6_mayKeep 15 = .ok (.iload_n 3, 1) := by decide +kernel
theorem dX6_mayKeep_16 : decode cX6_mayKeep 16 = .ok (.iaload, 1) := by decide +kernel
theorem dX6_mayKeep_17 : decode cX6_mayKeep 17 = .ok (.iload_n 2, 1) := by decide +kernel
theorem dX6_mayKeep_18 : decode cX6_mayKeep 18 = .ok (.if_icmp .eq 7, 3) := by decide +kernel
theorem dX6_mayKeep_21 : decode cX6_mayKeep 21 = .ok (.iconst 1, 1) := by decide +kernel
theorem dX6_mayKeep_22 : decode cX6_mayKeep 22 = .ok (.goto 4, 3) := by decide +kernel
theorem dX6_mayKeep_25 : decode cX6_mayKeep 25 = .ok (.iconst 0, 1) := by decide +kernel
theorem dX6_mayKeep_26 : decode cX6_mayKeep 26 = .ok (.ireturn, 1) := by decide +kernel
set_option maxRecDepth 100000 in
set_option maxHeartbeats 4000000 in
theorem kX6_mayKeep {E : KE} {l : Launch} (hE : mx_ok E) (i1 : Int32) (i2 : Int32) (i3 : Int32) (hT : xOK E) (M : MM) {q : Bool} (hf : fX6_mayKeep i1 i2 i3 M = some q) : mx_Met E l yX6_mayKeep cX6_mayKeep 4 (some .boolean) 0 [.ref (E.2.1.2.1 29), .int i1, .int i2, .int i3] M (some (.int (mx_b q))) M := by
  refine mx_enter hE (by decide) (Nat.le_of_ble_eq_true rfl) ?_
  intro p e s m below meth c C hM hn ls hl
  have hx := C.1.1
  have hb := C.1.2.1
  have hown := C.1.2.2.2.1
  have hts := C.1.2.2.2.2
  have hl : lv_has ls 4 [(0, .ref (E.2.1.2.1 29)), (1, .int i1), (2, .int i2), (3, .int i3)] := hl
  rw [fX6_mayKeep] at hf
  refine lv_iload_n hx hb dX6_mayKeep_0 rfl (lv_at hl 1 rfl) ?_
  refine lv_iload_n hx hb dX6_mayKeep_1 rfl (lv_at hl 2 rfl) ?_
  refine lv_ishr hx hb dX6_mayKeep_2 ?_
  refine lv_iconst (v := (1 : Int32)) hx hb dX6_mayKeep_3 (by decide) ?_
  refine lv_iand hx hb dX6_mayKeep_4 ?_
  refine lv_if_ne (tgt := 25) hx hb dX6_mayKeep_5 (by decide) (fun hc5 => ?_) (fun hc5 => ?_)
  · replace hf := mx_iff hc5 hf
    refine lv_iconst (v := (0 : Int32)) hx hb dX6_mayKeep_25 (by decide) ?_
    exact mx_zretR C hM (b := false) rfl hf dX6_mayKeep_26
  · replace hf := mx_ift hc5 hf
    refine lv_aload_n hx hb dX6_mayKeep_8 rfl (lv_at hl 0 rfl) ?_
    refine gX6_35 C hT hM (xt_29 hT) (f := (2, 9)) rfl (v := .ref (E.2.1.2.1 9)) rfl dX6_mayKeep_9 ?_
    refine gX6_61 C hT hM (xt_9 hT) (f := (2, 16)) rfl (v := .ref (E.2.1.2.1 16)) rfl dX6_mayKeep_12 ?_
    refine lv_iload_n hx hb dX6_mayKeep_15 rfl (lv_at hl 3 rfl) ?_
    obtain ⟨hg16, hf⟩ := mx_gd hf
    refine mx_iald C hM (xt_16 hT) (mx_in_vp hg16) dX6_mayKeep_16 ?_
    refine lv_iload_n hx hb dX6_mayKeep_17 rfl (lv_at hl 2 rfl) ?_
    refine lv_icmp_eq (tgt := 25) hx hb dX6_mayKeep_18 (by decide) (fun hc18 => ?_) (fun hc18 => ?_)
    · replace hf := mx_ift hc18 hf
      refine lv_iconst (v := (0 : Int32)) hx hb dX6_mayKeep_25 (by decide) ?_
      exact mx_zretR C hM (b := false) rfl hf dX6_mayKeep_26
    · replace hf := mx_iff hc18 hf
      refine lv_iconst (v := (1 : Int32)) hx hb dX6_mayKeep_21 (by decide) ?_
      refine lv_goto (tgt := 26) hx hb dX6_mayKeep_22 (by decide) ?_
      exact mx_zretR C hM (b := true) rfl hf dX6_mayKeep_26
theorem dX6_keepersBy_0 : decode cX6_keepersBy 0 = .ok (.aload_n 1, 1) := by decide +kernel
theorem dX6_keepersBy_1 : decode cX6_keepersBy 1 = .ok (.iload_n 3, 1) := by decide +kernel
theorem dX6_keepersBy_2 : decode cX6_keepersBy 2 = .ok (.aload_n 1, 1) := by decide +kernel
theorem dX6_keepersBy_3 : decode cX6_keepersBy 3 = .ok (.getfield 35, 3) := by decide +kernel
theorem dX6_keepersBy_6 : decode cX6_keepersBy 6 = .ok (.getfield 61, 3) := by decide +kernel
theorem dX6_keepersBy_9 : decode cX6_keepersBy 9 = .ok (.iload 4, 2) := by decide +kernel
theorem dX6_keepersBy_11 : decode cX6_keepersBy 11 = .ok (.iaload, 1) := by decide +kernel
theorem dX6_keepersBy_12 : decode cX6_keepersBy 12 = .ok (.invokevirtual 75, 3) := by decide +kernel
theorem dX6_keepersBy_15 : decode cX6_keepersBy 15 = .ok (.aload_n 0, 1) := by decide +kernel
theorem dX6_keepersBy_16 : decode cX6_keepersBy 16 = .ok (.getfield 25, 3) := by decide +kernel
theorem dX6_keepersBy_19 : decode cX6_keepersBy 19 = .ok (.iload_n 2, 1) := by decide +kernel
theorem dX6_keepersBy_20 : decode cX6_keepersBy 20 = .ok (.iconst 1, 1) := by decide +kernel
theorem dX6_keepersBy_21 : decode cX6_keepersBy 21 = .ok (.iload_n 3, 1) := by decide +kernel
theorem dX6_keepersBy_22 : decode cX6_keepersBy 22 = .ok (.ishl, 1) := by decide +kernel
theorem dX6_keepersBy_23 : decode cX6_keepersBy 23 = .ok (.ior, 1) := by decide +kernel
theorem dX6_keepersBy_24 : decode cX6_keepersBy 24 = .ok (.iaload, 1) := by decide +kernel
theorem dX6_keepersBy_25 : decode cX6_keepersBy 25 = .ok (.iadd, 1) := by decide +kernel
theorem dX6_keepersBy_26 : decode cX6_keepersBy 26 = .ok (.ireturn, 1) := by decide +kernel
set_option maxRecDepth 100000 in
set_option maxHeartbeats 4000000 in
theorem kX6_keepersBy {E : KE} {l : Launch} (hE : mx_ok E) (i2 : Int32) (i3 : Int32) (i4 : Int32) (hT : xOK E) (M : MM) {q : Int32} (hf : fX6_keepersBy i2 i3 i4 M = some q) : mx_Met E l yX6_keepersBy cX6_keepersBy 5 (some .int) 3 [.ref (E.2.1.2.1 143), .ref (E.2.1.2.1 29), .int i2, .int i3, .int i4] M (some (.int q)) M := by
  refine mx_enter hE (by decide) (Nat.le_of_ble_eq_true rfl) ?_
  intro p e s m below meth c C hM hn ls hl
  have hx := C.1.1
  have hb := C.1.2.1
  have hown := C.1.2.2.2.1
  have hts := C.1.2.2.2.2
  have hl : lv_has ls 5 [(0, .ref (E.2.1.2.1 143)), (1, .ref (E.2.1.2.1 29)), (2, .int i2), (3, .int i3), (4, .int i4)] := hl
  rw [fX6_keepersBy] at hf
  refine lv_aload_n hx hb dX6_keepersBy_0 rfl (lv_at hl 1 rfl) ?_
  refine lv_iload_n hx hb dX6_keepersBy_1 rfl (lv_at hl 3 rfl) ?_
  refine lv_aload_n hx hb dX6_keepersBy_2 rfl (lv_at hl 1 rfl) ?_
  refine gX6_35 C hT hM (xt_29 hT) (f := (2, 9)) rfl (v := .ref (E.2.1.2.1 9)) rfl dX6_keepersBy_3 ?_
  refine gX6_61 C hT hM (xt_9 hT) (f := (2, 16)) rfl (v := .ref (E.2.1.2.1 16)) rfl dX6_keepersBy_6 ?_
  refine lv_iload hx hb dX6_keepersBy_9 (lv_at hl 4 rfl) ?_
  obtain ⟨hg11, hf⟩ := mx_gd hf
  refine mx_iald C hM (xt_16 hT) (mx_in_vp hg11) dX6_keepersBy_11 ?_
  obtain ⟨q12, hq12, hf⟩ := mx_bd hf
  refine mx_callVN C hM hl.1 yo_X9_farBetween (h' := 2) (by decide) (nw_850 hT C) qw_852 qs_65 (ci := 9) (q := (RX9, TX9, 13)) rfl (xt_29 hT) (As := [.int i3, .int (M.1 16 i4.toNatClampNeg)]) (rest := []) (st1 := [.int q12]) (kX9_farBetween C.2.2.2.1 29 i3 (M.1 16 i4.toNatClampNeg) hT xiS_29 M hq12) rfl rfl rfl (Nat.le_of_ble_eq_true rfl) dX6_keepersBy_12 (fun H locs hM => ?_)
  refine lv_aload_n hx hb dX6_keepersBy_15 rfl (lv_at hl 0 rfl) ?_
  refine gX6_25 C hM (xt_143 hT) (f := (2, 147)) rfl (v := .ref (E.2.1.2.1 147)) rfl dX6_keepersBy_16 ?_
  refine lv_iload_n hx hb dX6_keepersBy_19 rfl (lv_at hl 2 rfl) ?_
  refine lv_iconst (v := (1 : Int32)) hx hb dX6_keepersBy_20 (by decide) ?_
  refine lv_iload_n hx hb dX6_keepersBy_21 rfl (lv_at hl 3 rfl) ?_
  refine lv_ishl hx hb dX6_keepersBy_22 ?_
  refine lv_ior hx hb dX6_keepersBy_23 ?_
  obtain ⟨hg24, hf⟩ := mx_gd hf
  refine mx_iald C hM (xt_147 hT) (mx_in_vp hg24) dX6_keepersBy_24 ?_
  refine lv_iadd hx hb dX6_keepersBy_25 ?_
  exact mx_iretR C hM hf dX6_keepersBy_26
theorem dX6_leastKeepers_0 : decode cX6_leastKeepers 0 = .ok (.iload_n 2, 1) := by decide +kernel
theorem dX6_leastKeepers_1 : decode cX6_leastKeepers 1 = .ok (.invokestatic 94, 3) := by decide +kernel
theorem dX6_leastKeepers_4 : decode cX6_leastKeepers 4 = .ok (.istore 4, 2) := by decide +kernel
theorem dX6_leastKeepers_6 : decode cX6_leastKeepers 6 = .ok (.iload 4, 2) := by decide +kernel
theorem dX6_leastKeepers_8 : decode cX6_leastKeepers 8 = .ok (.iload_n 3, 1) := by decide +kernel
theorem dX6_leastKeepers_9 : decode cX6_leastKeepers 9 = .ok (.if_icmp .lt 5, 3) := by decide +kernel
theorem dX6_leastKeepers_12 : decode cX6_leastKeepers 12 = .ok (.iconst 0, 1) := by decide +kernel
theorem dX6_leastKeepers_13 : decode cX6_leastKeepers 13 = .ok (.ireturn, 1) := by decide +kernel
theorem dX6_leastKeepers_14 : decode cX6_leastKeepers 14 = .ok (.ldc 64, 2) := by decide +kernel
theorem dX6_leastKeepers_16 : decode cX6_leastKeepers 16 = .ok (.istore 5, 2) := by decide +kernel
theorem dX6_leastKeepers_18 : decode cX6_leastKeepers 18 = .ok (.iconst 0, 1) := by decide +kernel
theorem dX6_leastKeepers_19 : decode cX6_leastKeepers 19 = .ok (.istore 6, 2) := by decide +kernel
theorem dX6_leastKeepers_21 : decode cX6_leastKeepers 21 = .ok (.iload 6, 2) := by decide +kernel
theorem dX6_leastKeepers_23 : decode cX6_leastKeepers 23 = .ok (.aload_n 1, 1) := by decide +kernel
theorem dX6_leastKeepers_24 : decode cX6_leastKeepers 24 = .ok (.getfield 35, 3) := by decide +kernel
theorem dX6_leastKeepers_27 : decode cX6_leastKeepers 27 = .ok (.getfield 41, 3) := by decide +kernel
theorem dX6_leastKeepers_30 : decode cX6_leastKeepers 30 = .ok (.if_icmp .ge 48, 3) := by decide +kernel
theorem dX6_leastKeepers_33 : decode cX6_leastKeepers 33 = .ok (.aload_n 1, 1) := by decide +kernel
theorem dX6_leastKeepers_34 : decode cX6_leastKeepers 34 = .ok (.iload_n 2, 1) := by decide +kernel
theorem dX6_leastKeepers_35 : decode cX6_leastKeepers 35 = .ok (.iload 6, 2) := by decide +kernel
theorem dX6_leastKeepers_37 : decode cX6_leastKeepers 37 = .ok (.aload_n 0, 1) := by decide +kernel
theorem dX6_leastKeepers_38 : decode cX6_leastKeepers 38 = .ok (.getfield 28, 3) := by decide +kernel
theorem dX6_leastKeepers_41 : decode cX6_leastKeepers 41 = .ok (.iload 4, 2) := by decide +kernel
theorem dX6_leastKeepers_43 : decode cX6_leastKeepers 43 = .ok (.iaload, 1) := by decide +kernel
theorem dX6_leastKeepers_44 : decode cX6_leastKeepers 44 = .ok (.invokestatic 100, 3) := by decide +kernel
theorem dX6_leastKeepers_47 : decode cX6_leastKeepers 47 = .ok (.ifCond .eq 25, 3) := by decide +kernel
theorem dX6_leastKeepers_50 : decode cX6_leastKeepers 50 = .ok (.iload 5, 2) := by decide +kernel
theorem dX6_leastKeepers_52 : decode cX6_leastKeepers 52 = .ok (.aload_n 0, 1) := by decide +kernel
theorem dX6_leastKeepers_53 : decode cX6_leastKeepers 53 = .ok (.aload_n 1, 1) := by decide +kernel
theorem dX6_leastKeepers_54 : decode cX6_leastKeepers 54 = .ok (.iload_n 2, 1) := by decide +kernel
theorem dX6_leastKeepers_55 : decode cX6_leastKeepers 55 = .ok (.iload 6, 2) := by decide +kernel
theorem dX6_leastKeepers_57 : decode cX6_leastKeepers 57 = .ok (.aload_n 0, 1) := by decide +kernel
theorem dX6_leastKeepers_58 : decode cX6_leastKeepers 58 = .ok (.getfield 28, 3) := by decide +kernel
theorem dX6_leastKeepers_61 : decode cX6_leastKeepers 61 = .ok (.iload 4, 2) := by decide +kernel
theorem dX6_leastKeepers_63 : decode cX6_leastKeepers 63 = .ok (.iaload, 1) := by decide +kernel
theorem dX6_leastKeepers_64 : decode cX6_leastKeepers 64 = .ok (.invokevirtual 104, 3) := by decide +kernel
theorem dX6_leastKeepers_67 : decode cX6_leastKeepers 67 = .ok (.invokestatic 69, 3) := by decide +kernel
theorem dX6_leastKeepers_70 : decode cX6_leastKeepers 70 = .ok (.istore 5, 2) := by decide +kernel
theorem dX6_leastKeepers_72 : decode cX6_leastKeepers 72 = .ok (.iinc 6 1, 3) := by decide +kernel
theorem dX6_leastKeepers_75 : decode cX6_leastKeepers 75 = .ok (.goto (-54), 3) := by decide +kernel
theorem dX6_leastKeepers_78 : decode cX6_leastKeepers 78 = .ok (.iload 5, 2) := by decide +kernel
theorem dX6_leastKeepers_80 : decode cX6_leastKeepers 80 = .ok (.ireturn, 1) := by decide +kernel
set_option maxRecDepth 100000 in
set_option maxHeartbeats 4000000 in
theorem wfX6_leastKeepers_21 {E : KE} {p : Program} {l : Launch} {e : Env} {s : State} {m : MethodId} {args : Array Value} {below : List Frame} {meth : Method} {c : Code} {q : Int32} (C : mx_C E p m c cX6_leastKeepers 7 s args RX6 meth (some .int)) (i2 : Int32) (i3 : Int32) (M : MM) (hT : xOK E) (i4 : Int32)  : ∀ (n : Nat) (i5 : Int32) (i6 : Int32) (H : Heap) (locs : List Loc) (ls : Array Slot), fX6_leastKeepers_21 i2 i3 M i4 n i5 i6 = some q → mx_H E s M H locs → lv_has ls 7 [(0, .ref (E.2.1.2.1 143)), (1, .ref (E.2.1.2.1 29)), (2, .int i2), (4, .int i4), (5, .int i5), (6, .int i6)] → W p l e (mx_rm 4) s m args below meth c H locs 0 0 (mx_Z E below args s (some (.int q)) M) (F0 m 21 ls []) := by
  have hx := C.1.1
  have hb := C.1.2.1
  have hown := C.1.2.2.2.1
  have hts := C.1.2.2.2.2
  intro n
  induction n with
  | zero =>
    intro i5 i6 H locs ls hf hM hl
    rw [fX6_leastKeepers_21] at hf
    cases hf
  | succ n ih =>
    intro i5 i6 H locs ls hf hM hl
    rw [fX6_leastKeepers_21] at hf
    refine lv_iload hx hb dX6_leastKeepers_21 (lv_at hl 5 rfl) ?_
    refine lv_aload_n hx hb dX6_leastKeepers_23 rfl (lv_at hl 1 rfl) ?_
    refine gX6_35 C hT hM (xt_29 hT) (f := (2, 9)) rfl (v := .ref (E.2.1.2.1 9)) rfl dX6_leastKeepers_24 ?_
    refine gX6_41 C hT hM (xt_9 hT) (f := (0, 0)) rfl (v := .int (M.1 9 0)) rfl dX6_leastKeepers_27 ?_
    refine lv_icmp_ge (tgt := 78) hx hb dX6_leastKeepers_30 (by decide) (fun hc30 => ?_) (fun hc30 => ?_)
    · replace hf := mx_ift hc30 hf
      refine lv_iload hx hb dX6_leastKeepers_78 (lv_at hl 4 rfl) ?_
      exact mx_iretR C hM hf dX6_leastKeepers_80
    · replace hf := mx_iff hc30 hf
      refine lv_aload_n hx hb dX6_leastKeepers_33 rfl (lv_at hl 1 rfl) ?_
      refine lv_iload_n hx hb dX6_leastKeepers_34 rfl (lv_at hl 2 rfl) ?_
      refine lv_iload hx hb dX6_leastKeepers_35 (lv_at hl 5 rfl) ?_
      refine lv_aload_n hx hb dX6_leastKeepers_37 rfl (lv_at hl 0 rfl) ?_
      refine gX6_28 C hM (xt_143 hT) (f := (2, 148)) rfl (v := .ref (E.2.1.2.1 148)) rfl dX6_leastKeepers_38 ?_
      refine lv_iload hx hb dX6_leastKeepers_41 (lv_at hl 3 rfl) ?_
      obtain ⟨hg43, hf⟩ := mx_gd hf
      refine mx_iald C hM (xt_148 hT) (mx_in_vp hg43) dX6_leastKeepers_43 ?_
      obtain ⟨q44, hq44, hf⟩ := mx_bd hf
      refine mx_callS C hM hl.1 yo_X6_mayKeep (h' := 0) (by decide) qw_882 qw_883 (As := [.ref (E.2.1.2.1 29), .int i2, .int i6, .int (M.1 148 i4.toNatClampNeg)]) (rest := []) (st1 := [.int (mx_b q44)]) (kX6_mayKeep C.2.2.2.1 i2 i6 (M.1 148 i4.toNatClampNeg) hT M hq44) rfl rfl rfl (Nat.le_of_ble_eq_true rfl) dX6_leastKeepers_44 (fun H locs hM => ?_)
      refine lv_if_eq (tgt := 72) hx hb dX6_leastKeepers_47 (by decide) (fun hc47 => ?_) (fun hc47 => ?_)
      · replace hf := mx_ift hc47 hf
        refine lv_iinc (v := (i6 + (1 : Int32))) (lv' := [(6, .int (i6 + (1 : Int32))), (0, .ref (E.2.1.2.1 143)), (1, .ref (E.2.1.2.1 29)), (2, .int i2), (4, .int i4), (5, .int i5)]) hx hb dX6_leastKeepers_72 hl (k := 5) rfl rfl (by decide) rfl (fun ls hl => ?_)
        refine lv_goto (tgt := 21) hx hb dX6_leastKeepers_75 (by decide) ?_
        exact ih i5 (i6 + (1 : Int32)) _ _ _ hf hM (lv_sub hl [1, 2, 3, 4, 5, 0] rfl)
      · replace hf := mx_iff hc47 hf
        refine lv_iload hx hb dX6_leastKeepers_50 (lv_at hl 4 rfl) ?_
        refine lv_aload_n hx hb dX6_leastKeepers_52 rfl (lv_at hl 0 rfl) ?_
        refine lv_aload_n hx hb dX6_leastKeepers_53 rfl (lv_at hl 1 rfl) ?_
        refine lv_iload_n hx hb dX6_leastKeepers_54 rfl (lv_at hl 2 rfl) ?_
        refine lv_iload hx hb dX6_leastKeepers_55 (lv_at hl 5 rfl) ?_
        refine lv_aload_n hx hb dX6_leastKeepers_57 rfl (lv_at hl 0 rfl) ?_
        refine gX6_28 C hM (xt_143 hT) (f := (2, 148)) rfl (v := .ref (E.2.1.2.1 148)) rfl dX6_leastKeepers_58 ?_
        refine lv_iload hx hb dX6_leastKeepers_61 (lv_at hl 3 rfl) ?_
        obtain ⟨hg63, hf⟩ := mx_gd hf
        refine mx_iald C hM (xt_148 hT) (mx_in_vp hg63) dX6_leastKeepers_63 ?_
        obtain ⟨q64, hq64, hf⟩ := mx_bd hf
        refine mx_callV C hM hl.1 yo_X6_keepersBy (h' := 3) (by decide) qw_885 qw_887 qs_70 (ci := 6) (q := (RX6, TX6, 7)) rfl (xt_143 hT) (As := [.ref (E.2.1.2.1 29), .int i2, .int i6, .int (M.1 148 i4.toNatClampNeg)]) (rest := [.int i5]) (st1 := [.int q64, .int i5]) (kX6_keepersBy C.2.2.2.1 i2 i6 (M.1 148 i4.toNatClampNeg) hT M hq64) rfl rfl rfl (Nat.le_of_ble_eq_true rfl) dX6_leastKeepers_64 (fun H locs hM => ?_)
        refine va_mmin hx hb (C.1.2.2.1.trans hl.1.symm) hown (hts _ qw_854) (hts _ qw_855) (hts _ qw_21) (hts _ qw_856) (by decide) (Nat.le_of_ble_eq_true rfl) (Nat.le_refl 0) (Nat.le_refl 0) dX6_leastKeepers_67 ?_
        refine lv_istore (lv' := [(5, .int (if q64 < i5 then q64 else i5)), (0, .ref (E.2.1.2.1 143)), (1, .ref (E.2.1.2.1 29)), (2, .int i2), (4, .int i4), (6, .int i6)]) hx hb dX6_leastKeepers_70 hl (by decide) rfl (fun ls hl => ?_)
        refine lv_iinc (v := (i6 + (1 : Int32))) (lv' := [(6, .int (i6 + (1 : Int32))), (5, .int (if q64 < i5 then q64 else i5)), (0, .ref (E.2.1.2.1 143)), (1, .ref (E.2.1.2.1 29)), (2, .int i2), (4, .int i4)]) hx hb dX6_leastKeepers_72 hl (k := 5) rfl rfl (by decide) rfl (fun ls hl => ?_)
        refine lv_goto (tgt := 21) hx hb dX6_leastKeepers_75 (by decide) ?_
        exact ih (if q64 < i5 then q64 else i5) (i6 + (1 : Int32)) _ _ _ hf hM (lv_sub hl [2, 3, 4, 5, 1, 0] rfl)
set_option maxRecDepth 100000 in
set_option maxHeartbeats 4000000 in
theorem kX6_leastKeepers {E : KE} {l : Launch} (hE : mx_ok E) (i2 : Int32) (i3 : Int32) (hT : xOK E) (M : MM) {q : Int32} (hf : fX6_leastKeepers i2 i3 M = some q) : mx_Met E l yX6_leastKeepers cX6_leastKeepers 7 (some .int) 4 [.ref (E.2.1.2.1 143), .ref (E.2.1.2.1 29), .int i2, .int i3] M (some (.int q)) M := by
  refine mx_enter hE (by decide) (Nat.le_of_ble_eq_true rfl) ?_
  intro p e s m below meth c C hM hn ls hl
  have hx := C.1.1
  have hb := C.1.2.1
  have hown := C.1.2.2.2.1
  have hts := C.1.2.2.2.2
  have hl : lv_has ls 7 [(0, .ref (E.2.1.2.1 143)), (1, .ref (E.2.1.2.1 29)), (2, .int i2), (3, .int i3)] := hl
  rw [fX6_leastKeepers] at hf
  refine lv_iload_n hx hb dX6_leastKeepers_0 rfl (lv_at hl 2 rfl) ?_
  obtain ⟨q1, hq1, hf⟩ := mx_bd hf
  refine mx_callS C hM hl.1 yo_J6_bitCount_0f7a4 (h' := 0) (by decide) qw_881 qw_788 (As := [.int i2]) (rest := []) (st1 := [.int q1]) (kJ6_bitCount_0f7a4 C.2.2.2.1 i2 M hq1) rfl rfl rfl (Nat.le_of_ble_eq_true rfl) dX6_leastKeepers_1 (fun H locs hM => ?_)
  refine lv_istore (lv' := [(4, .int q1), (0, .ref (E.2.1.2.1 143)), (1, .ref (E.2.1.2.1 29)), (2, .int i2), (3, .int i3)]) hx hb dX6_leastKeepers_4 hl (by decide) rfl (fun ls hl => ?_)
  refine lv_iload hx hb dX6_leastKeepers_6 (lv_at hl 0 rfl) ?_
  refine lv_iload_n hx hb dX6_leastKeepers_8 rfl (lv_at hl 4 rfl) ?_
  refine lv_icmp_lt (tgt := 14) hx hb dX6_leastKeepers_9 (by decide) (fun hc9 => ?_) (fun hc9 => ?_)
  · replace hf := mx_ift hc9 hf
    refine lv_ldc (v := (1000000)) hx hb hown (hts _ qw_845) dX6_leastKeepers_14 ?_
    refine lv_istore (lv' := [(5, .int (1000000 : Int32)), (4, .int q1), (0, .ref (E.2.1.2.1 143)), (1, .ref (E.2.1.2.1 29)), (2, .int i2), (3, .int i3)]) hx hb dX6_leastKeepers_16 hl (by decide) rfl (fun ls hl => ?_)
    refine lv_iconst (v := (0 : Int32)) hx hb dX6_leastKeepers_18 (by decide) ?_
    refine lv_istore (lv' := [(6, .int (0 : Int32)), (5, .int (1000000 : Int32)), (4, .int q1), (0, .ref (E.2.1.2.1 143)), (1, .ref (E.2.1.2.1 29)), (2, .int i2), (3, .int i3)]) hx hb dX6_leastKeepers_19 hl (by decide) rfl (fun ls hl => ?_)
    exact wfX6_leastKeepers_21 C i2 i3 M hT q1 mx_fu (1000000 : Int32) (0 : Int32) _ _ _ hf hM (lv_sub hl [3, 4, 5, 2, 1, 0] rfl)
  · replace hf := mx_iff hc9 hf
    refine lv_iconst (v := (0 : Int32)) hx hb dX6_leastKeepers_12 (by decide) ?_
    exact mx_iretR C hM hf dX6_leastKeepers_13
theorem dX6_firstKeeper_0 : decode cX6_firstKeeper 0 = .ok (.iconst 0, 1) := by decide +kernel
theorem dX6_firstKeeper_1 : decode cX6_firstKeeper 1 = .ok (.istore 4, 2) := by decide +kernel
theorem dX6_firstKeeper_3 : decode cX6_firstKeeper 3 = .ok (.iload 4, 2) := by decide +kernel
theorem dX6_firstKeeper_5 : decode cX6_firstKeeper 5 = .ok (.aload_n 1, 1) := by decide +kernel
theorem dX6_firstKeeper_6 : decode cX6_firstKeeper 6 = .ok (.getfield 35, 3) := by decide +kernel
theorem dX6_firstKeeper_9 : decode cX6_firstKeeper 9 = .ok (.getfield 41, 3) := by decide +kernel
theorem dX6_firstKeeper_12 : decode cX6_firstKeeper 12 = .ok (.if_icmp .ge 41, 3) := by decide +kernel
theorem dX6_firstKeeper_15 : decode cX6_firstKeeper 15 = .ok (.aload_n 1, 1) := by decide +kernel
theorem dX6_firstKeeper_16 : decode cX6_firstKeeper 16 = .ok (.iload_n 2, 1) := by decide +kernel
theorem dX6_firstKeeper_17 : decode cX6_firstKeeper 17 = .ok (.iload 4, 2) := by decide +kernel
theorem dX6_firstKeeper_19 : decode cX6_firstKeeper 19 = .ok (.iload_n 3, 1) := by decide +kernel
theorem dX6_firstKeeper_20 : decode cX6_firstKeeper 20 = .ok (.invokestatic 100, 3) := by decide +kernel
theorem dX6_firstKeeper_23 : decode cX6_firstKeeper 23 = .ok (.ifCond .eq 24, 3) := by decide +kernel
theorem dX6_firstKeeper_26 : decode cX6_firstKeeper 26 = .ok (.aload_n 0, 1) := by decide +kernel
theorem dX6_firstKeeper_27 : decode cX6_firstKeeper 27 = .ok (.aload_n 1, 1) := by decide +kernel
theorem dX6_firstKeeper_28 : decode cX6_firstKeeper 28 = .ok (.iload_n 2, 1) := by decide +kernel
theorem dX6_firstKeeper_29 : decode cX6_firstKeeper 29 = .ok (.iload 4, 2) := by decide +kernel
theorem dX6_firstKeeper_31 : decode cX6_firstKeeper 31 = .ok (.iload_n 3, 1) := by decide +kernel
theorem dX6_firstKeeper_32 : decode cX6_firstKeeper 32 = .ok (.invokevirtual 104, 3) := by decide +kernel
theorem dX6_firstKeeper_35 : decode cX6_firstKeeper 35 = .ok (.aload_n 0, 1) := by decide +kernel
theorem dX6_firstKeeper_36 : decode cX6_firstKeeper 36 = .ok (.getfield 25, 3) := by decide +kernel
theorem dX6_firstKeeper_39 : decode cX6_firstKeeper 39 = .ok (.iload_n 2, 1) := by decide +kernel
theorem dX6_firstKeeper_40 : decode cX6_firstKeeper 40 = .ok (.iaload, 1) := by decide +kernel
theorem dX6_firstKeeper_41 : decode cX6_firstKeeper 41 = .ok (.if_icmp .ne 6, 3) := by decide +kernel
theorem dX6_firstKeeper_44 : decode cX6_firstKeeper 44 = .ok (.iload 4, 2) := by decide +kernel
theorem dX6_firstKeeper_46 : decode cX6_firstKeeper 46 = .ok (.ireturn, 1) := by decide +kernel
theorem dX6_firstKeeper_47 : decode cX6_firstKeeper 47 = .ok (.iinc 4 1, 3) := by decide +kernel
theorem dX6_firstKeeper_50 : decode cX6_firstKeeper 50 = .ok (.goto (-47), 3) := by decide +kernel
theorem dX6_firstKeeper_53 : decode cX6_firstKeeper 53 = .ok (.iconst 0, 1) := by decide +kernel
theorem dX6_firstKeeper_54 : decode cX6_firstKeeper 54 = .ok (.ireturn, 1) := by decide +kernel
set_option maxRecDepth 100000 in
set_option maxHeartbeats 4000000 in
theorem wfX6_firstKeeper_3 {E : KE} {p : Program} {l : Launch} {e : Env} {s : State} {m : MethodId} {args : Array Value} {below : List Frame} {meth : Method} {c : Code} {q : Int32} (C : mx_C E p m c cX6_firstKeeper 5 s args RX6 meth (some .int)) (i2 : Int32) (i3 : Int32) (M : MM) (hT : xOK E)   : ∀ (n : Nat) (i4 : Int32) (H : Heap) (locs : List Loc) (ls : Array Slot), fX6_firstKeeper_3 i2 i3 M n i4 = some q → mx_H E s M H locs → lv_has ls 5 [(0, .ref (E.2.1.2.1 143)), (1, .ref (E.2.1.2.1 29)), (2, .int i2), (3, .int i3), (4, .int i4)] → W p l e (mx_rm 4) s m args below meth c H locs 0 0 (mx_Z E below args s (some (.int q)) M) (F0 m 3 ls []) := by
  have hx := C.1.1
  have hb := C.1.2.1
  have hown := C.1.2.2.2.1
  have hts := C.1.2.2.2.2
  intro n
  induction n with
  | zero =>
    intro i4 H locs ls hf hM hl
    rw [fX6_firstKeeper_3] at hf
    cases hf
  | succ n ih =>
    intro i4 H locs ls hf hM hl
    rw [fX6_firstKeeper_3] at hf
    refine lv_iload hx hb dX6_firstKeeper_3 (lv_at hl 4 rfl) ?_
    refine lv_aload_n hx hb dX6_firstKeeper_5 rfl (lv_at hl 1 rfl) ?_
    refine gX6_35 C hT hM (xt_29 hT) (f := (2, 9)) rfl (v := .ref (E.2.1.2.1 9)) rfl dX6_firstKeeper_6 ?_
    refine gX6_41 C hT hM (xt_9 hT) (f := (0, 0)) rfl (v := .int (M.1 9 0)) rfl dX6_firstKeeper_9 ?_
    refine lv_icmp_ge (tgt := 53) hx hb dX6_firstKeeper_12 (by decide) (fun hc12 => ?_) (fun hc12 => ?_)
    · replace hf := mx_ift hc12 hf
      refine lv_iconst (v := (0 : Int32)) hx hb dX6_firstKeeper_53 (by decide) ?_
      exact mx_iretR C hM hf dX6_firstKeeper_54
    · replace hf := mx_iff hc12 hf
      refine lv_aload_n hx hb dX6_firstKeeper_15 rfl (lv_at hl 1 rfl) ?_
      refine lv_iload_n hx hb dX6_firstKeeper_16 rfl (lv_at hl 2 rfl) ?_
      refine lv_iload hx hb dX6_firstKeeper_17 (lv_at hl 4 rfl) ?_
      refine lv_iload_n hx hb dX6_firstKeeper_19 rfl (lv_at hl 3 rfl) ?_
      obtain ⟨q20, hq20, hf⟩ := mx_bd hf
      refine mx_callS C hM hl.1 yo_X6_mayKeep (h' := 0) (by decide) qw_882 qw_883 (As := [.ref (E.2.1.2.1 29), .int i2, .int i4, .int i3]) (rest := []) (st1 := [.int (mx_b q20)]) (kX6_mayKeep C.2.2.2.1 i2 i4 i3 hT M hq20) rfl rfl rfl (Nat.le_of_ble_eq_true rfl) dX6_firstKeeper_20 (fun H locs hM => ?_)
      refine lv_if_eq (tgt := 47) hx hb dX6_firstKeeper_23 (by decide) (fun hc23 => ?_) (fun hc23 => ?_)
      · replace hf := mx_ift hc23 hf
        refine lv_iinc (v := (i4 + (1 : Int32))) (lv' := [(4, .int (i4 + (1 : Int32))), (0, .ref (E.2.1.2.1 143)), (1, .ref (E.2.1.2.1 29)), (2, .int i2), (3, .int i3)]) hx hb dX6_firstKeeper_47 hl (k := 4) rfl rfl (by decide) rfl (fun ls hl => ?_)
        refine lv_goto (tgt := 3) hx hb dX6_firstKeeper_50 (by decide) ?_
        exact ih (i4 + (1 : Int32)) _ _ _ hf hM (lv_sub hl [1, 2, 3, 4, 0] rfl)
      · replace hf := mx_iff hc23 hf
        refine lv_aload_n hx hb dX6_firstKeeper_26 rfl (lv_at hl 0 rfl) ?_
        refine lv_aload_n hx hb dX6_firstKeeper_27 rfl (lv_at hl 1 rfl) ?_
        refine lv_iload_n hx hb dX6_firstKeeper_28 rfl (lv_at hl 2 rfl) ?_
        refine lv_iload hx hb dX6_firstKeeper_29 (lv_at hl 4 rfl) ?_
        refine lv_iload_n hx hb dX6_firstKeeper_31 rfl (lv_at hl 3 rfl) ?_
        obtain ⟨q32, hq32, hf⟩ := mx_bd hf
        refine mx_callV C hM hl.1 yo_X6_keepersBy (h' := 3) (by decide) qw_885 qw_887 qs_70 (ci := 6) (q := (RX6, TX6, 7)) rfl (xt_143 hT) (As := [.ref (E.2.1.2.1 29), .int i2, .int i4, .int i3]) (rest := []) (st1 := [.int q32]) (kX6_keepersBy C.2.2.2.1 i2 i4 i3 hT M hq32) rfl rfl rfl (Nat.le_of_ble_eq_true rfl) dX6_firstKeeper_32 (fun H locs hM => ?_)
        refine lv_aload_n hx hb dX6_firstKeeper_35 rfl (lv_at hl 0 rfl) ?_
        refine gX6_25 C hM (xt_143 hT) (f := (2, 147)) rfl (v := .ref (E.2.1.2.1 147)) rfl dX6_firstKeeper_36 ?_
        refine lv_iload_n hx hb dX6_firstKeeper_39 rfl (lv_at hl 2 rfl) ?_
        obtain ⟨hg40, hf⟩ := mx_gd hf
        refine mx_iald C hM (xt_147 hT) (mx_in_vp hg40) dX6_firstKeeper_40 ?_
        refine lv_icmp_ne (tgt := 47) hx hb dX6_firstKeeper_41 (by decide) (fun hc41 => ?_) (fun hc41 => ?_)
        · replace hf := mx_iff hc41 hf
          refine lv_iinc (v := (i4 + (1 : Int32))) (lv' := [(4, .int (i4 + (1 : Int32))), (0, .ref (E.2.1.2.1 143)), (1, .ref (E.2.1.2.1 29)), (2, .int i2), (3, .int i3)]) hx hb dX6_firstKeeper_47 hl (k := 4) rfl rfl (by decide) rfl (fun ls hl => ?_)
          refine lv_goto (tgt := 3) hx hb dX6_firstKeeper_50 (by decide) ?_
          exact ih (i4 + (1 : Int32)) _ _ _ hf hM (lv_sub hl [1, 2, 3, 4, 0] rfl)
        · replace hf := mx_ift hc41 hf
          refine lv_iload hx hb dX6_firstKeeper_44 (lv_at hl 4 rfl) ?_
          exact mx_iretR C hM hf dX6_firstKeeper_46
set_option maxRecDepth 100000 in
set_option maxHeartbeats 4000000 in
theorem kX6_firstKeeper {E : KE} {l : Launch} (hE : mx_ok E) (i2 : Int32) (i3 : Int32) (hT : xOK E) (M : MM) {q : Int32} (hf : fX6_firstKeeper i2 i3 M = some q) : mx_Met E l yX6_firstKeeper cX6_firstKeeper 5 (some .int) 4 [.ref (E.2.1.2.1 143), .ref (E.2.1.2.1 29), .int i2, .int i3] M (some (.int q)) M := by
  refine mx_enter hE (by decide) (Nat.le_of_ble_eq_true rfl) ?_
  intro p e s m below meth c C hM hn ls hl
  have hx := C.1.1
  have hb := C.1.2.1
  have hown := C.1.2.2.2.1
  have hts := C.1.2.2.2.2
  have hl : lv_has ls 5 [(0, .ref (E.2.1.2.1 143)), (1, .ref (E.2.1.2.1 29)), (2, .int i2), (3, .int i3)] := hl
  rw [fX6_firstKeeper] at hf
  refine lv_iconst (v := (0 : Int32)) hx hb dX6_firstKeeper_0 (by decide) ?_
  refine lv_istore (lv' := [(4, .int (0 : Int32)), (0, .ref (E.2.1.2.1 143)), (1, .ref (E.2.1.2.1 29)), (2, .int i2), (3, .int i3)]) hx hb dX6_firstKeeper_1 hl (by decide) rfl (fun ls hl => ?_)
  exact wfX6_firstKeeper_3 C i2 i3 M hT mx_fu (0 : Int32) _ _ _ hf hM (lv_sub hl [1, 2, 3, 4, 0] rfl)
theorem dX6_followKeepers_0 : decode cX6_followKeepers 0 = .ok (.iconst 0, 1) := by decide +kernel
theorem dX6_followKeepers_1 : decode cX6_followKeepers 1 = .ok (.istore_n 3, 1) := by decide +kernel
theorem dX6_followKeepers_2 : decode cX6_followKeepers 2 = .ok (.iload_n 3, 1) := by decide +kernel
theorem dX6_followKeepers_3 : decode cX6_followKeepers 3 = .ok (.bipush 7, 2) := by decide +kernel
theorem dX6_followKeepers_5 : decode cX6_followKeepers 5 = .ok (.if_icmp .ge 16, 3) := by decide +kernel
theorem dX6_followKeepers_8 : decode cX6_followKeepers 8 = .ok (.aload_n 0, 1) := by decide +kernel
theorem dX6_followKeepers_9 : decode cX6_followKeepers 9 = .ok (.getfield 15, 3) := by decide +kernel
theorem dX6_followKeepers_12 : decode cX6_followKeepers 12 = .ok (.iload_n 3, 1) := by decide +kernel
theorem dX6_followKeepers_13 : decode cX6_followKeepers 13 = .ok (.iconst (-1), 1) := by decide +kernel
theorem dX6_followKeepers_14 : decode cX6_followKeepers 14 = .ok (.iastore, 1) := by decide +kernel
theorem dX6_followKeepers_15 : decode cX6_followKeepers 15 = .ok (.iinc 3 1, 3) := by decide +kernel
theorem dX6_followKeepers_18 : decode cX6_followKeepers 18 = .ok (.goto (-16), 3) := by decide +kernel
theorem dX6_followKeepers_21 : decode cX6_followKeepers 21 = .ok (.iconst 0, 1) := by decide +kernel
theorem dX6_followKeepers_22 : decode cX6_followKeepers 22 = .ok (.istore_n 3, 1) := by decide +kernel
theorem dX6_followKeepers_23 : decode cX6_followKeepers 23 = .ok (.iconst 0, 1) := by decide +kernel
theorem dX6_followKeepers_24 : decode cX6_followKeepers 24 = .ok (.istore 4, 2) := by decide +kernel
theorem dX6_followKeepers_26 : decode cX6_followKeepers 26 = .ok (.iload 4, 2) := by decide +kernel
theorem dX6_followKeepers_28 : decode cX6_followKeepers 28 = .ok (.iload_n 2, 1) := by decide +kernel
theorem dX6_followKeepers_29 : decode cX6_followKeepers 29 = .ok (.if_icmp .ge 45, 3) := by decide +kernel
theorem dX6_followKeepers_32 : decode cX6_followKeepers 32 = .ok (.aload_n 0, 1) := by decide +kernel
theorem dX6_followKeepers_33 : decode cX6_followKeepers 33 = .ok (.getfield 28, 3) := by decide +kernel
theorem dX6_followKeepers_36 : decode cX6_followKeepers 36 = .ok (.iload 4, 2) := by decide +kernel
theorem dX6_followKeepers_38 : decode cX6_followKeepers 38 = .ok (.iaload, 1) := by decide +kernel
theorem dX6_followKeepers_39 : decode cX6_followKeepers 39 = .ok (.istore 5, 2) := by decide +kernel
theorem dX6_followKeepers_41 : decode cX6_followKeepers 41 = .ok (.aload_n 0, 1) := by decide +kernel
theorem dX6_followKeepers_42 : decode cX6_followKeepers 42 = .ok (.getfield 15, 3) := by decide +kernel
theorem dX6_followKeepers_45 : decode cX6_followKeepers 45 = .ok (.iload 5, 2) := by decide +kernel
theorem dX6_followKeepers_47 : decode cX6_followKeepers 47 = .ok (.aload_n 0, 1) := by decide +kernel
theorem dX6_followKeepers_48 : decode cX6_followKeepers 48 = .ok (.aload_n 1, 1) := by decide +kernel
theorem dX6_followKeepers_49 : decode cX6_followKeepers 49 = .ok (.iload_n 3, 1) := by decide +kernel
theorem dX6_followKeepers_50 : decode cX6_followKeepers 50 = .ok (.iload 5, 2) := by decide +kernel
theorem dX6_followKeepers_52 : decode cX6_followKeepers 52 = .ok (.invokevirtual 107, 3) := by decide +kernel
theorem dX6_followKeepers_55 : decode cX6_followKeepers 55 = .ok (.iastore, 1) := by decide +kernel
theorem dX6_followKeepers_56 : decode cX6_followKeepers 56 = .ok (.iload_n 3, 1) := by decide +kernel
theorem dX6_followKeepers_57 : decode cX6_followKeepers 57 = .ok (.iconst 1, 1) := by decide +kernel
theorem dX6_followKeepers_58 : decode cX6_followKeepers 58 = .ok (.aload_n 0, 1) := by decide +kernel
theorem dX6_followKeepers_59 : decode cX6_followKeepers 59 = .ok (.getfield 15, 3) := by decide +kernel
theorem dX6_followKeepers_62 : decode cX6_followKeepers 62 = .ok (.iload 5, 2) := by decide +kernel
theorem dX6_followKeepers_64 : decode cX6_followKeepers 64 = .ok (.iaload, 1) := by decide +kernel
theorem dX6_followKeepers_65 : decode cX6_followKeepers 65 = .ok (.ishl, 1) := by decide +kernel
theorem dX6_followKeepers_66 : decode cX6_followKeepers 66 = .ok (.ior, 1) := by decide +kernel
theorem dX6_followKeepers_67 : decode cX6_followKeepers 67 = .ok (.istore_n 3, 1) := by decide +kernel
theorem dX6_followKeepers_68 : decode cX6_followKeepers 68 = .ok (.iinc 4 1, 3) := by decide +kernel
theorem dX6_followKeepers_71 : decode cX6_followKeepers 71 = .ok (.goto (-45), 3) := by decide +kernel
theorem dX6_followKeepers_74 : decode cX6_followKeepers 74 = .ok (.return_, 1) := by decide +kernel
set_option maxRecDepth 100000 in
set_option maxHeartbeats 4000000 in
theorem wfX6_followKeepers_26 {E : KE} {p : Program} {l : Launch} {e : Env} {s : State} {m : MethodId} {args : Array Value} {below : List Frame} {meth : Method} {c : Code} {q : MM} (C : mx_C E p m c cX6_followKeepers 6 s args RX6 meth none) (i2 : Int32) (hT : xOK E)   : ∀ (n : Nat) (i3 : Int32) (i4 : Int32) (M : MM) (H : Heap) (locs : List Loc) (ls : Array Slot), fX6_followKeepers_26 i2 n i3 i4 M = some q → mx_H E s M H locs → lv_has ls 6 [(0, .ref (E.2.1.2.1 143)), (1, .ref (E.2.1.2.1 29)), (2, .int i2), (3, .int i3), (4, .int i4)] → W p l e (mx_rm 5) s m args below meth c H locs 0 0 (mx_Z E below args s none q) (F0 m 26 ls []) := by
  have hx := C.1.1
  have hb := C.1.2.1
  have hown := C.1.2.2.2.1
  have hts := C.1.2.2.2.2
  intro n
  induction n with
  | zero =>
    intro i3 i4 M H locs ls hf hM hl
    rw [fX6_followKeepers_26] at hf
    cases hf
  | succ n ih =>
    intro i3 i4 M H locs ls hf hM hl
    rw [fX6_followKeepers_26] at hf
    refine lv_iload hx hb dX6_followKeepers_26 (lv_at hl 4 rfl) ?_
    refine lv_iload_n hx hb dX6_followKeepers_28 rfl (lv_at hl 2 rfl) ?_
    refine lv_icmp_ge (tgt := 74) hx hb dX6_followKeepers_29 (by decide) (fun hc29 => ?_) (fun hc29 => ?_)
    · replace hf := mx_ift hc29 hf
      exact mx_vret C hM hf dX6_followKeepers_74
    · replace hf := mx_iff hc29 hf
      refine lv_aload_n hx hb dX6_followKeepers_32 rfl (lv_at hl 0 rfl) ?_
      refine gX6_28 C hM (xt_143 hT) (f := (2, 148)) rfl (v := .ref (E.2.1.2.1 148)) rfl dX6_followKeepers_33 ?_
      refine lv_iload hx hb dX6_followKeepers_36 (lv_at hl 4 rfl) ?_
      obtain ⟨hg38, hf⟩ := mx_gd hf
      refine mx_iald C hM (xt_148 hT) (mx_in_vp hg38) dX6_followKeepers_38 ?_
      refine lv_istore (lv' := [(5, .int (M.1 148 i4.toNatClampNeg)), (0, .ref (E.2.1.2.1 143)), (1, .ref (E.2.1.2.1 29)), (2, .int i2), (3, .int i3), (4, .int i4)]) hx hb dX6_followKeepers_39 hl (by decide) rfl (fun ls hl => ?_)
      refine lv_aload_n hx hb dX6_followKeepers_41 rfl (lv_at hl 1 rfl) ?_
      refine gX6_15 C hM (xt_143 hT) (f := (2, 145)) rfl (v := .ref (E.2.1.2.1 145)) rfl dX6_followKeepers_42 ?_
      refine lv_iload hx hb dX6_followKeepers_45 (lv_at hl 0 rfl) ?_
      refine lv_aload_n hx hb dX6_followKeepers_47 rfl (lv_at hl 1 rfl) ?_
      refine lv_aload_n hx hb dX6_followKeepers_48 rfl (lv_at hl 2 rfl) ?_
      refine lv_iload_n hx hb dX6_followKeepers_49 rfl (lv_at hl 4 rfl) ?_
      refine lv_iload hx hb dX6_followKeepers_50 (lv_at hl 0 rfl) ?_
      obtain ⟨q52, hq52, hf⟩ := mx_bd hf
      refine mx_callV C hM hl.1 yo_X6_firstKeeper (h' := 4) (by decide) qw_893 qw_895 qs_72 (ci := 6) (q := (RX6, TX6, 7)) rfl (xt_143 hT) (As := [.ref (E.2.1.2.1 29), .int i3, .int (M.1 148 i4.toNatClampNeg)]) (rest := [.int (M.1 148 i4.toNatClampNeg), .ref (E.2.1.2.1 145)]) (st1 := [.int q52, .int (M.1 148 i4.toNatClampNeg), .ref (E.2.1.2.1 145)]) (kX6_firstKeeper C.2.2.2.1 i3 (M.1 148 i4.toNatClampNeg) hT M hq52) rfl rfl rfl (Nat.le_of_ble_eq_true rfl) dX6_followKeepers_52 (fun H locs hM => ?_)
      obtain ⟨hg55, hf⟩ := mx_gd hf
      refine mx_iast C hM (xt_145 hT) (mx_in_vp hg55) dX6_followKeepers_55 (fun H locs hM => ?_)
      refine lv_iload_n hx hb dX6_followKeepers_56 rfl (lv_at hl 4 rfl) ?_
      refine lv_iconst (v := (1 : Int32)) hx hb dX6_followKeepers_57 (by decide) ?_
      refine lv_aload_n hx hb dX6_followKeepers_58 rfl (lv_at hl 1 rfl) ?_
      refine gX6_15 C hM (xt_143 hT) (f := (2, 145)) rfl (v := .ref (E.2.1.2.1 145)) rfl dX6_followKeepers_59 ?_
      refine lv_iload hx hb dX6_followKeepers_62 (lv_at hl 0 rfl) ?_
      obtain ⟨hg64, hf⟩ := mx_gd hf
      refine mx_iald C hM (xt_145 hT) (mx_in_vp hg64) dX6_followKeepers_64 ?_
      refine lv_ishl hx hb dX6_followKeepers_65 ?_
      refine lv_ior hx hb dX6_followKeepers_66 ?_
      refine lv_istore_n (lv' := [(3, .int (i3 ||| ((1 : Int32) <<< (((mx_si M 145 (M.1 148 i4.toNatClampNeg).toNatClampNeg q52).1 145 (M.1 148 i4.toNatClampNeg).toNatClampNeg) &&& 31)))), (5, .int (M.1 148 i4.toNatClampNeg)), (0, .ref (E.2.1.2.1 143)), (1, .ref (E.2.1.2.1 29)), (2, .int i2), (4, .int i4)]) hx hb dX6_followKeepers_67 rfl hl (by decide) rfl (fun ls hl => ?_)
      refine lv_iinc (v := (i4 + (1 : Int32))) (lv' := [(4, .int (i4 + (1 : Int32))), (3, .int (i3 ||| ((1 : Int32) <<< (((mx_si M 145 (M.1 148 i4.toNatClampNeg).toNatClampNeg q52).1 145 (M.1 148 i4.toNatClampNeg).toNatClampNeg) &&& 31)))), (5, .int (M.1 148 i4.toNatClampNeg)), (0, .ref (E.2.1.2.1 143)), (1, .ref (E.2.1.2.1 29)), (2, .int i2)]) hx hb dX6_followKeepers_68 hl (k := 5) rfl rfl (by decide) rfl (fun ls hl => ?_)
      refine lv_goto (tgt := 26) hx hb dX6_followKeepers_71 (by decide) ?_
      exact ih (i3 ||| ((1 : Int32) <<< (((mx_si M 145 (M.1 148 i4.toNatClampNeg).toNatClampNeg q52).1 145 (M.1 148 i4.toNatClampNeg).toNatClampNeg) &&& 31))) (i4 + (1 : Int32)) (mx_si M 145 (M.1 148 i4.toNatClampNeg).toNatClampNeg q52) _ _ _ hf hM (lv_sub hl [3, 4, 5, 1, 0] rfl)
set_option maxRecDepth 100000 in
set_option maxHeartbeats 4000000 in
theorem wfX6_followKeepers_2 {E : KE} {p : Program} {l : Launch} {e : Env} {s : State} {m : MethodId} {args : Array Value} {below : List Frame} {meth : Method} {c : Code} {q : MM} (C : mx_C E p m c cX6_followKeepers 6 s args RX6 meth none) (i2 : Int32) (hT : xOK E)   : ∀ (n : Nat) (i3 : Int32) (M : MM) (H : Heap) (locs : List Loc) (ls : Array Slot), fX6_followKeepers_2 i2 n i3 M = some q → mx_H E s M H locs → lv_has ls 6 [(0, .ref (E.2.1.2.1 143)), (1, .ref (E.2.1.2.1 29)), (2, .int i2), (3, .int i3)] → W p l e (mx_rm 5) s m args below meth c H locs 0 0 (mx_Z E below args s none q) (F0 m 2 ls []) := by
  have hx := C.1.1
  have hb := C.1.2.1
  have hown := C.1.2.2.2.1
  have hts := C.1.2.2.2.2
  intro n
  induction n with
  | zero =>
    intro i3 M H locs ls hf hM hl
    rw [fX6_followKeepers_2] at hf
    cases hf
  | succ n ih =>
    intro i3 M H locs ls hf hM hl
    rw [fX6_followKeepers_2] at hf
    refine lv_iload_n hx hb dX6_followKeepers_2 rfl (lv_at hl 3 rfl) ?_
    refine lv_bipush (v := (7 : Int32)) hx hb dX6_followKeepers_3 (by decide) ?_
    refine lv_icmp_ge (tgt := 21) hx hb dX6_followKeepers_5 (by decide) (fun hc5 => ?_) (fun hc5 => ?_)
    · replace hf := mx_ift hc5 hf
      refine lv_iconst (v := (0 : Int32)) hx hb dX6_followKeepers_21 (by decide) ?_
      refine lv_istore_n (lv' := [(3, .int (0 : Int32)), (0, .ref (E.2.1.2.1 143)), (1, .ref (E.2.1.2.1 29)), (2, .int i2)]) hx hb dX6_followKeepers_22 rfl hl (by decide) rfl (fun ls hl => ?_)
      refine lv_iconst (v := (0 : Int32)) hx hb dX6_followKeepers_23 (by decide) ?_
      refine lv_istore (lv' := [(4, .int (0 : Int32)), (3, .int (0 : Int32)), (0, .ref (E.2.1.2.1 143)), (1, .ref (E.2.1.2.1 29)), (2, .int i2)]) hx hb dX6_followKeepers_24 hl (by decide) rfl (fun ls hl => ?_)
      exact wfX6_followKeepers_26 C i2 hT mx_fu (0 : Int32) (0 : Int32) M _ _ _ hf hM (lv_sub hl [2, 3, 4, 1, 0] rfl)
    · replace hf := mx_iff hc5 hf
      refine lv_aload_n hx hb dX6_followKeepers_8 rfl (lv_at hl 0 rfl) ?_
      refine gX6_15 C hM (xt_143 hT) (f := (2, 145)) rfl (v := .ref (E.2.1.2.1 145)) rfl dX6_followKeepers_9 ?_
      refine lv_iload_n hx hb dX6_followKeepers_12 rfl (lv_at hl 3 rfl) ?_
      refine lv_iconst (v := (-1 : Int32)) hx hb dX6_followKeepers_13 (by decide) ?_
      obtain ⟨hg14, hf⟩ := mx_gd hf
      refine mx_iast C hM (xt_145 hT) (mx_in_vp hg14) dX6_followKeepers_14 (fun H locs hM => ?_)
      refine lv_iinc (v := (i3 + (1 : Int32))) (lv' := [(3, .int (i3 + (1 : Int32))), (0, .ref (E.2.1.2.1 143)), (1, .ref (E.2.1.2.1 29)), (2, .int i2)]) hx hb dX6_followKeepers_15 hl (k := 3) rfl rfl (by decide) rfl (fun ls hl => ?_)
      refine lv_goto (tgt := 2) hx hb dX6_followKeepers_18 (by decide) ?_
      exact ih (i3 + (1 : Int32)) (mx_si M 145 i3.toNatClampNeg (-1 : Int32)) _ _ _ hf hM (lv_sub hl [1, 2, 3, 0] rfl)
set_option maxRecDepth 100000 in
set_option maxHeartbeats 4000000 in
theorem kX6_followKeepers {E : KE} {l : Launch} (hE : mx_ok E) (i2 : Int32) (hT : xOK E) (M : MM) {q : MM} (hf : fX6_followKeepers i2 M = some q) : mx_Met E l yX6_followKeepers cX6_followKeepers 6 none 5 [.ref (E.2.1.2.1 143), .ref (E.2.1.2.1 29), .int i2] M none q := by
  refine mx_enter hE (by decide) (Nat.le_of_ble_eq_true rfl) ?_
  intro p e s m below meth c C hM hn ls hl
  have hx := C.1.1
  have hb := C.1.2.1
  have hown := C.1.2.2.2.1
  have hts := C.1.2.2.2.2
  have hl : lv_has ls 6 [(0, .ref (E.2.1.2.1 143)), (1, .ref (E.2.1.2.1 29)), (2, .int i2)] := hl
  rw [fX6_followKeepers] at hf
  refine lv_iconst (v := (0 : Int32)) hx hb dX6_followKeepers_0 (by decide) ?_
  refine lv_istore_n (lv' := [(3, .int (0 : Int32)), (0, .ref (E.2.1.2.1 143)), (1, .ref (E.2.1.2.1 29)), (2, .int i2)]) hx hb dX6_followKeepers_1 rfl hl (by decide) rfl (fun ls hl => ?_)
  exact wfX6_followKeepers_2 C i2 hT mx_fu (0 : Int32) M _ _ _ hf hM (lv_sub hl [1, 2, 3, 0] rfl)
