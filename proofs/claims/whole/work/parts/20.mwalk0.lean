theorem dX13_thrown_0 : decode cX13_thrown 0 = .ok (.aload_n 0, 1) := by decide +kernel
theorem dX13_thrown_1 : decode cX13_thrown 1 = .ok (.getfield 1, 3) := by decide +kernel
theorem dX13_thrown_4 : decode cX13_thrown 4 = .ok (.ireturn, 1) := by decide +kernel
set_option maxRecDepth 100000 in
set_option maxHeartbeats 4000000 in
theorem kX13_thrown {E : KE} {l : Launch} (hE : mx_ok E)  (hT : E.1 = mt) (M : MM) {q : Int32} (hf : fX13_thrown M = some q) : mx_Met E l yX13_thrown cX13_thrown 1 (some .int) 0 [.ref (E.2.1.2.1 0)] M (some (.int q)) M := by
  refine mx_enter hE (by decide) (Nat.le_of_ble_eq_true rfl) ?_
  intro p e s m below meth c C hM hn ls hl
  have hx := C.1.1
  have hb := C.1.2.1
  have hown := C.1.2.2.2.1
  have hts := C.1.2.2.2.2
  have hl : lv_has ls 1 [(0, .ref (E.2.1.2.1 0))] := hl
  rw [fX13_thrown] at hf
  refine lv_aload_n hx hb dX13_thrown_0 rfl (lv_at hl 0 rfl) ?_
  refine g13_1 C hT hM dX13_thrown_1 ?_
  exact mx_iretR C hM hf dX13_thrown_4
theorem dX13_throwsIf_0 : decode cX13_throwsIf 0 = .ok (.aload_n 0, 1) := by decide +kernel
theorem dX13_throwsIf_1 : decode cX13_throwsIf 1 = .ok (.iload_n 1, 1) := by decide +kernel
theorem dX13_throwsIf_2 : decode cX13_throwsIf 2 = .ok (.ifCond .eq 7, 3) := by decide +kernel
theorem dX13_throwsIf_5 : decode cX13_throwsIf 5 = .ok (.iconst 1, 1) := by decide +kernel
theorem dX13_throwsIf_6 : decode cX13_throwsIf 6 = .ok (.goto 4, 3) := by decide +kernel
theorem dX13_throwsIf_9 : decode cX13_throwsIf 9 = .ok (.iconst 0, 1) := by decide +kernel
theorem dX13_throwsIf_10 : decode cX13_throwsIf 10 = .ok (.putfield 1, 3) := by decide +kernel
theorem dX13_throwsIf_13 : decode cX13_throwsIf 13 = .ok (.iload_n 1, 1) := by decide +kernel
theorem dX13_throwsIf_14 : decode cX13_throwsIf 14 = .ok (.ireturn, 1) := by decide +kernel
set_option maxRecDepth 100000 in
set_option maxHeartbeats 4000000 in
theorem wfX13_throwsIf_10 {E : KE} {p : Program} {l : Launch} {e : Env} {s : State} {m : MethodId} {args : Array Value} {below : List Frame} {meth : Method} {c : Code} {q : (Bool × MM)} (C : mx_C E p m c cX13_throwsIf 2 s args RX13 meth (some .boolean)) (i1 : Int32) (hT : E.1 = mt)   : ∀ (bs1 : Bool) (M : MM) (H : Heap) (locs : List Loc) (ls : Array Slot), fX13_throwsIf_10 i1 bs1 M = some q → mx_H E s M H locs → lv_has ls 2 [(1, .int i1)] → W p l e (mx_rm 0) s m args below meth c H locs 0 0 (mx_Z E below args s (some (.int (mx_b q.1))) q.2) (F0 m 10 ls [.int (mx_b bs1), .ref (E.2.1.2.1 0)]) := by
  have hx := C.1.1
  have hb := C.1.2.1
  have hown := C.1.2.2.2.1
  have hts := C.1.2.2.2.2
  intro bs1 M H locs ls hf hM hl
  rw [fX13_throwsIf_10] at hf
  refine p13_1 C hT hM dX13_throwsIf_10 (fun H locs hM => ?_)
  refine lv_iload_n hx hb dX13_throwsIf_13 rfl (lv_at hl 0 rfl) ?_
  obtain ⟨hg14, hf⟩ := mx_gd hf
  exact mx_zret C hM (b := decide (i1 = 1)) (mx_isb_b hg14) hf dX13_throwsIf_14
set_option maxRecDepth 100000 in
set_option maxHeartbeats 4000000 in
theorem kX13_throwsIf {E : KE} {l : Launch} (hE : mx_ok E) (i1 : Int32) (hT : E.1 = mt) (M : MM) {q : (Bool × MM)} (hf : fX13_throwsIf i1 M = some q) : mx_Met E l yX13_throwsIf cX13_throwsIf 2 (some .boolean) 0 [.ref (E.2.1.2.1 0), .int i1] M (some (.int (mx_b q.1))) q.2 := by
  refine mx_enter hE (by decide) (Nat.le_of_ble_eq_true rfl) ?_
  intro p e s m below meth c C hM hn ls hl
  have hx := C.1.1
  have hb := C.1.2.1
  have hown := C.1.2.2.2.1
  have hts := C.1.2.2.2.2
  have hl : lv_has ls 2 [(0, .ref (E.2.1.2.1 0)), (1, .int i1)] := hl
  rw [fX13_throwsIf] at hf
  refine lv_aload_n hx hb dX13_throwsIf_0 rfl (lv_at hl 0 rfl) ?_
  refine lv_iload_n hx hb dX13_throwsIf_1 rfl (lv_at hl 1 rfl) ?_
  refine lv_if_eq (tgt := 9) hx hb dX13_throwsIf_2 (by decide) (fun hc2 => ?_) (fun hc2 => ?_)
  · replace hf := mx_ift hc2 hf
    refine lv_iconst (v := (0 : Int32)) hx hb dX13_throwsIf_9 (by decide) ?_
    exact wfX13_throwsIf_10 C i1 hT false M _ _ _ hf hM (lv_sub hl [1] rfl)
  · replace hf := mx_iff hc2 hf
    refine lv_iconst (v := (1 : Int32)) hx hb dX13_throwsIf_5 (by decide) ?_
    refine lv_goto (tgt := 10) hx hb dX13_throwsIf_6 (by decide) ?_
    exact wfX13_throwsIf_10 C i1 hT true M _ _ _ hf hM (lv_sub hl [1] rfl)
theorem dX13_four_0 : decode cX13_four 0 = .ok (.bipush 24, 2) := by decide +kernel
theorem dX13_four_2 : decode cX13_four 2 = .ok (.istore_n 2, 1) := by decide +kernel
theorem dX13_four_3 : decode cX13_four 3 = .ok (.iload_n 2, 1) := by decide +kernel
theorem dX13_four_4 : decode cX13_four 4 = .ok (.ifCond .lt 32, 3) := by decide +kernel
theorem dX13_four_7 : decode cX13_four 7 = .ok (.aload_n 0, 1) := by decide +kernel
theorem dX13_four_8 : decode cX13_four 8 = .ok (.getfield 14, 3) := by decide +kernel
theorem dX13_four_11 : decode cX13_four 11 = .ok (.aload_n 0, 1) := by decide +kernel
theorem dX13_four_12 : decode cX13_four 12 = .ok (.getfield 7, 3) := by decide +kernel
theorem dX13_four_15 : decode cX13_four 15 = .ok (.iload_n 1, 1) := by decide +kernel
theorem dX13_four_16 : decode cX13_four 16 = .ok (.iload_n 2, 1) := by decide +kernel
theorem dX13_four_17 : decode cX13_four 17 = .ok (.ishr, 1) := by decide +kernel
theorem dX13_four_18 : decode cX13_four 18 = .ok (.i2b, 1) := by decide +kernel
theorem dX13_four_19 : decode cX13_four 19 = .ok (.bastore, 1) := by decide +kernel
theorem dX13_four_20 : decode cX13_four 20 = .ok (.aload_n 0, 1) := by decide +kernel
theorem dX13_four_21 : decode cX13_four 21 = .ok (.dup, 1) := by decide +kernel
theorem dX13_four_22 : decode cX13_four 22 = .ok (.getfield 7, 3) := by decide +kernel
theorem dX13_four_25 : decode cX13_four 25 = .ok (.iconst 1, 1) := by decide +kernel
theorem dX13_four_26 : decode cX13_four 26 = .ok (.iadd, 1) := by decide +kernel
theorem dX13_four_27 : decode cX13_four 27 = .ok (.putfield 7, 3) := by decide +kernel
theorem dX13_four_30 : decode cX13_four 30 = .ok (.iinc 2 (-8), 3) := by decide +kernel
theorem dX13_four_33 : decode cX13_four 33 = .ok (.goto (-30), 3) := by decide +kernel
theorem dX13_four_36 : decode cX13_four 36 = .ok (.return_, 1) := by decide +kernel
set_option maxRecDepth 100000 in
set_option maxHeartbeats 4000000 in
theorem wfX13_four_3 {E : KE} {p : Program} {l : Launch} {e : Env} {s : State} {m : MethodId} {args : Array Value} {below : List Frame} {meth : Method} {c : Code} {q : MM} (C : mx_C E p m c cX13_four 3 s args RX13 meth none) (i1 : Int32) (hT : E.1 = mt)   : ∀ (n : Nat) (i2 : Int32) (M : MM) (H : Heap) (locs : List Loc) (ls : Array Slot), fX13_four_3 i1 n i2 M = some q → mx_H E s M H locs → lv_has ls 3 [(0, .ref (E.2.1.2.1 0)), (1, .int i1), (2, .int i2)] → W p l e (mx_rm 0) s m args below meth c H locs 0 0 (mx_Z E below args s none q) (F0 m 3 ls []) := by
  have hx := C.1.1
  have hb := C.1.2.1
  have hown := C.1.2.2.2.1
  have hts := C.1.2.2.2.2
  intro n
  induction n with
  | zero =>
    intro i2 M H locs ls hf hM hl
    rw [fX13_four_3] at hf
    cases hf
  | succ n ih =>
    intro i2 M H locs ls hf hM hl
    rw [fX13_four_3] at hf
    refine lv_iload_n hx hb dX13_four_3 rfl (lv_at hl 2 rfl) ?_
    refine lv_if_lt (tgt := 36) hx hb dX13_four_4 (by decide) (fun hc4 => ?_) (fun hc4 => ?_)
    · replace hf := mx_ift hc4 hf
      exact mx_vret C hM hf dX13_four_36
    · replace hf := mx_iff hc4 hf
      refine lv_aload_n hx hb dX13_four_7 rfl (lv_at hl 0 rfl) ?_
      refine g13_14 C hT hM dX13_four_8 ?_
      refine lv_aload_n hx hb dX13_four_11 rfl (lv_at hl 0 rfl) ?_
      refine g13_7 C hT hM dX13_four_12 ?_
      refine lv_iload_n hx hb dX13_four_15 rfl (lv_at hl 1 rfl) ?_
      refine lv_iload_n hx hb dX13_four_16 rfl (lv_at hl 2 rfl) ?_
      refine lv_ishr hx hb dX13_four_17 ?_
      refine lv_i2b (v := ((i1 >>> (i2 &&& 31)).toInt8.toInt32)) hx hb dX13_four_18 rfl ?_
      obtain ⟨hg19, hf⟩ := mx_gd hf
      refine mx_bast C hM (mt_1 hT) (mx_in_vp hg19) dX13_four_19 (fun H locs hM => ?_)
      refine lv_aload_n hx hb dX13_four_20 rfl (lv_at hl 0 rfl) ?_
      refine lv_dup hx hb dX13_four_21 rfl ?_
      refine g13_7 C hT hM dX13_four_22 ?_
      refine lv_iconst (v := (1 : Int32)) hx hb dX13_four_25 (by decide) ?_
      refine lv_iadd hx hb dX13_four_26 ?_
      refine p13_7 C hT hM dX13_four_27 (fun H locs hM => ?_)
      refine lv_iinc (v := (i2 + (-8 : Int32))) (lv' := [(2, .int (i2 + (-8 : Int32))), (0, .ref (E.2.1.2.1 0)), (1, .int i1)]) hx hb dX13_four_30 hl (k := 2) rfl rfl (by decide) rfl (fun ls hl => ?_)
      refine lv_goto (tgt := 3) hx hb dX13_four_33 (by decide) ?_
      exact ih (i2 + (-8 : Int32)) (mx_si (mx_si M 1 (M.1 0 2).toNatClampNeg (((i1 >>> (i2 &&& 31)).toInt8.toInt32).toInt8.toInt32)) 0 2 (((mx_si M 1 (M.1 0 2).toNatClampNeg (((i1 >>> (i2 &&& 31)).toInt8.toInt32).toInt8.toInt32)).1 0 2) + (1 : Int32))) _ _ _ hf hM (lv_sub hl [1, 2, 0] rfl)
set_option maxRecDepth 100000 in
set_option maxHeartbeats 4000000 in
theorem kX13_four {E : KE} {l : Launch} (hE : mx_ok E) (i1 : Int32) (hT : E.1 = mt) (M : MM) {q : MM} (hf : fX13_four i1 M = some q) : mx_Met E l yX13_four cX13_four 3 none 0 [.ref (E.2.1.2.1 0), .int i1] M none q := by
  refine mx_enter hE (by decide) (Nat.le_of_ble_eq_true rfl) ?_
  intro p e s m below meth c C hM hn ls hl
  have hx := C.1.1
  have hb := C.1.2.1
  have hown := C.1.2.2.2.1
  have hts := C.1.2.2.2.2
  have hl : lv_has ls 3 [(0, .ref (E.2.1.2.1 0)), (1, .int i1)] := hl
  rw [fX13_four] at hf
  refine lv_bipush (v := (24 : Int32)) hx hb dX13_four_0 (by decide) ?_
  refine lv_istore_n (lv' := [(2, .int (24 : Int32)), (0, .ref (E.2.1.2.1 0)), (1, .int i1)]) hx hb dX13_four_2 rfl hl (by decide) rfl (fun ls hl => ?_)
  exact wfX13_four_3 C i1 hT mx_fu (24 : Int32) M _ _ _ hf hM (lv_sub hl [1, 2, 0] rfl)
theorem dX13_feed_0 : decode cX13_feed 0 = .ok (.aload_n 0, 1) := by decide +kernel
theorem dX13_feed_1 : decode cX13_feed 1 = .ok (.iconst 0, 1) := by decide +kernel
theorem dX13_feed_2 : decode cX13_feed 2 = .ok (.putfield 1, 3) := by decide +kernel
theorem dX13_feed_5 : decode cX13_feed 5 = .ok (.aload_n 0, 1) := by decide +kernel
theorem dX13_feed_6 : decode cX13_feed 6 = .ok (.getfield 7, 3) := by decide +kernel
theorem dX13_feed_9 : decode cX13_feed 9 = .ok (.bipush 20, 2) := by decide +kernel
theorem dX13_feed_11 : decode cX13_feed 11 = .ok (.iadd, 1) := by decide +kernel
theorem dX13_feed_12 : decode cX13_feed 12 = .ok (.sipush 940, 3) := by decide +kernel
theorem dX13_feed_15 : decode cX13_feed 15 = .ok (.if_icmp .le 5, 3) := by decide +kernel
theorem dX13_feed_18 : decode cX13_feed 18 = .ok (.iconst (-1), 1) := by decide +kernel
theorem dX13_feed_19 : decode cX13_feed 19 = .ok (.ireturn, 1) := by decide +kernel
theorem dX13_feed_20 : decode cX13_feed 20 = .ok (.aload_n 0, 1) := by decide +kernel
theorem dX13_feed_21 : decode cX13_feed 21 = .ok (.iload_n 1, 1) := by decide +kernel
theorem dX13_feed_22 : decode cX13_feed 22 = .ok (.invokevirtual 10, 3) := by decide +kernel
theorem dX13_feed_25 : decode cX13_feed 25 = .ok (.aload_n 0, 1) := by decide +kernel
theorem dX13_feed_26 : decode cX13_feed 26 = .ok (.iload_n 2, 1) := by decide +kernel
theorem dX13_feed_27 : decode cX13_feed 27 = .ok (.invokevirtual 10, 3) := by decide +kernel
theorem dX13_feed_30 : decode cX13_feed 30 = .ok (.aload_n 0, 1) := by decide +kernel
theorem dX13_feed_31 : decode cX13_feed 31 = .ok (.iload_n 3, 1) := by decide +kernel
theorem dX13_feed_32 : decode cX13_feed 32 = .ok (.invokevirtual 10, 3) := by decide +kernel
theorem dX13_feed_35 : decode cX13_feed 35 = .ok (.aload_n 0, 1) := by decide +kernel
theorem dX13_feed_36 : decode cX13_feed 36 = .ok (.iload 4, 2) := by decide +kernel
theorem dX13_feed_38 : decode cX13_feed 38 = .ok (.invokevirtual 10, 3) := by decide +kernel
theorem dX13_feed_41 : decode cX13_feed 41 = .ok (.aload_n 0, 1) := by decide +kernel
theorem dX13_feed_42 : decode cX13_feed 42 = .ok (.iload 5, 2) := by decide +kernel
theorem dX13_feed_44 : decode cX13_feed 44 = .ok (.invokevirtual 10, 3) := by decide +kernel
theorem dX13_feed_47 : decode cX13_feed 47 = .ok (.aload_n 0, 1) := by decide +kernel
theorem dX13_feed_48 : decode cX13_feed 48 = .ok (.getfield 7, 3) := by decide +kernel
theorem dX13_feed_51 : decode cX13_feed 51 = .ok (.ireturn, 1) := by decide +kernel
set_option maxRecDepth 100000 in
set_option maxHeartbeats 4000000 in
theorem kX13_feed {E : KE} {l : Launch} (hE : mx_ok E) (i1 : Int32) (i2 : Int32) (i3 : Int32) (i4 : Int32) (i5 : Int32) (hT : E.1 = mt) (M : MM) {q : (Int32 × MM)} (hf : fX13_feed i1 i2 i3 i4 i5 M = some q) : mx_Met E l yX13_feed cX13_feed 6 (some .int) 1 [.ref (E.2.1.2.1 0), .int i1, .int i2, .int i3, .int i4, .int i5] M (some (.int q.1)) q.2 := by
  refine mx_enter hE (by decide) (Nat.le_of_ble_eq_true rfl) ?_
  intro p e s m below meth c C hM hn ls hl
  have hx := C.1.1
  have hb := C.1.2.1
  have hown := C.1.2.2.2.1
  have hts := C.1.2.2.2.2
  have hl : lv_has ls 6 [(0, .ref (E.2.1.2.1 0)), (1, .int i1), (2, .int i2), (3, .int i3), (4, .int i4), (5, .int i5)] := hl
  rw [fX13_feed] at hf
  refine lv_aload_n hx hb dX13_feed_0 rfl (lv_at hl 0 rfl) ?_
  refine lv_iconst (v := (0 : Int32)) hx hb dX13_feed_1 (by decide) ?_
  refine p13_1 C hT hM dX13_feed_2 (fun H locs hM => ?_)
  refine lv_aload_n hx hb dX13_feed_5 rfl (lv_at hl 0 rfl) ?_
  refine g13_7 C hT hM dX13_feed_6 ?_
  refine lv_bipush (v := (20 : Int32)) hx hb dX13_feed_9 (by decide) ?_
  refine lv_iadd hx hb dX13_feed_11 ?_
  refine lv_sipush (v := (940 : Int32)) hx hb dX13_feed_12 (by decide) ?_
  refine lv_icmp_le (tgt := 20) hx hb dX13_feed_15 (by decide) (fun hc15 => ?_) (fun hc15 => ?_)
  · replace hf := mx_ift hc15 hf
    refine lv_aload_n hx hb dX13_feed_20 rfl (lv_at hl 0 rfl) ?_
    refine lv_iload_n hx hb dX13_feed_21 rfl (lv_at hl 1 rfl) ?_
    obtain ⟨q22, hq22, hf⟩ := mx_bd hf
    refine mx_callV C hM hl.1 yo_X13_four (h' := 0) (by decide) qw_1352 qw_1354 qs_110 (ci := 13) (q := (RX13, TX13, 52)) rfl (mt_0 hT) (As := [.int i1]) (rest := []) (st1 := []) (kX13_four C.2.2.2.1 i1 hT (mx_si M 0 0 (0 : Int32)) hq22) rfl rfl rfl (Nat.le_of_ble_eq_true rfl) dX13_feed_22 (fun H locs hM => ?_)
    refine lv_aload_n hx hb dX13_feed_25 rfl (lv_at hl 0 rfl) ?_
    refine lv_iload_n hx hb dX13_feed_26 rfl (lv_at hl 2 rfl) ?_
    obtain ⟨q27, hq27, hf⟩ := mx_bd hf
    refine mx_callV C hM hl.1 yo_X13_four (h' := 0) (by decide) qw_1352 qw_1354 qs_110 (ci := 13) (q := (RX13, TX13, 52)) rfl (mt_0 hT) (As := [.int i2]) (rest := []) (st1 := []) (kX13_four C.2.2.2.1 i2 hT q22 hq27) rfl rfl rfl (Nat.le_of_ble_eq_true rfl) dX13_feed_27 (fun H locs hM => ?_)
    refine lv_aload_n hx hb dX13_feed_30 rfl (lv_at hl 0 rfl) ?_
    refine lv_iload_n hx hb dX13_feed_31 rfl (lv_at hl 3 rfl) ?_
    obtain ⟨q32, hq32, hf⟩ := mx_bd hf
    refine mx_callV C hM hl.1 yo_X13_four (h' := 0) (by decide) qw_1352 qw_1354 qs_110 (ci := 13) (q := (RX13, TX13, 52)) rfl (mt_0 hT) (As := [.int i3]) (rest := []) (st1 := []) (kX13_four C.2.2.2.1 i3 hT q27 hq32) rfl rfl rfl (Nat.le_of_ble_eq_true rfl) dX13_feed_32 (fun H locs hM => ?_)
    refine lv_aload_n hx hb dX13_feed_35 rfl (lv_at hl 0 rfl) ?_
    refine lv_iload hx hb dX13_feed_36 (lv_at hl 4 rfl) ?_
    obtain ⟨q38, hq38, hf⟩ := mx_bd hf
    refine mx_callV C hM hl.1 yo_X13_four (h' := 0) (by decide) qw_1352 qw_1354 qs_110 (ci := 13) (q := (RX13, TX13, 52)) rfl (mt_0 hT) (As := [.int i4]) (rest := []) (st1 := []) (kX13_four C.2.2.2.1 i4 hT q32 hq38) rfl rfl rfl (Nat.le_of_ble_eq_true rfl) dX13_feed_38 (fun H locs hM => ?_)
    refine lv_aload_n hx hb dX13_feed_41 rfl (lv_at hl 0 rfl) ?_
    refine lv_iload hx hb dX13_feed_42 (lv_at hl 5 rfl) ?_
    obtain ⟨q44, hq44, hf⟩ := mx_bd hf
    refine mx_callV C hM hl.1 yo_X13_four (h' := 0) (by decide) qw_1352 qw_1354 qs_110 (ci := 13) (q := (RX13, TX13, 52)) rfl (mt_0 hT) (As := [.int i5]) (rest := []) (st1 := []) (kX13_four C.2.2.2.1 i5 hT q38 hq44) rfl rfl rfl (Nat.le_of_ble_eq_true rfl) dX13_feed_44 (fun H locs hM => ?_)
    refine lv_aload_n hx hb dX13_feed_47 rfl (lv_at hl 0 rfl) ?_
    refine g13_7 C hT hM dX13_feed_48 ?_
    exact mx_iret C hM hf dX13_feed_51
  · replace hf := mx_iff hc15 hf
    refine lv_iconst (v := (-1 : Int32)) hx hb dX13_feed_18 (by decide) ?_
    exact mx_iret C hM hf dX13_feed_19
theorem dX13_end_0 : decode cX13_end 0 = .ok (.aload_n 0, 1) := by decide +kernel
theorem dX13_end_1 : decode cX13_end 1 = .ok (.iconst 0, 1) := by decide +kernel
theorem dX13_end_2 : decode cX13_end 2 = .ok (.putfield 1, 3) := by decide +kernel
theorem dX13_end_5 : decode cX13_end 5 = .ok (.iload_n 1, 1) := by decide +kernel
theorem dX13_end_6 : decode cX13_end 6 = .ok (.ifCond .lt 11, 3) := by decide +kernel
theorem dX13_end_9 : decode cX13_end 9 = .ok (.iload_n 1, 1) := by decide +kernel
theorem dX13_end_10 : decode cX13_end 10 = .ok (.aload_n 0, 1) := by decide +kernel
theorem dX13_end_11 : decode cX13_end 11 = .ok (.getfield 7, 3) := by decide +kernel
theorem dX13_end_14 : decode cX13_end 14 = .ok (.if_icmp .le 5, 3) := by decide +kernel
theorem dX13_end_17 : decode cX13_end 17 = .ok (.iconst 0, 1) := by decide +kernel
theorem dX13_end_18 : decode cX13_end 18 = .ok (.ireturn, 1) := by decide +kernel
theorem dX13_end_19 : decode cX13_end 19 = .ok (.aload_n 0, 1) := by decide +kernel
theorem dX13_end_20 : decode cX13_end 20 = .ok (.iload_n 1, 1) := by decide +kernel
theorem dX13_end_21 : decode cX13_end 21 = .ok (.putfield 7, 3) := by decide +kernel
theorem dX13_end_24 : decode cX13_end 24 = .ok (.iconst 1, 1) := by decide +kernel
theorem dX13_end_25 : decode cX13_end 25 = .ok (.ireturn, 1) := by decide +kernel
set_option maxRecDepth 100000 in
set_option maxHeartbeats 4000000 in
theorem kX13_end {E : KE} {l : Launch} (hE : mx_ok E) (i1 : Int32) (hT : E.1 = mt) (M : MM) {q : (Bool × MM)} (hf : fX13_end i1 M = some q) : mx_Met E l yX13_end cX13_end 2 (some .boolean) 0 [.ref (E.2.1.2.1 0), .int i1] M (some (.int (mx_b q.1))) q.2 := by
  refine mx_enter hE (by decide) (Nat.le_of_ble_eq_true rfl) ?_
  intro p e s m below meth c C hM hn ls hl
  have hx := C.1.1
  have hb := C.1.2.1
  have hown := C.1.2.2.2.1
  have hts := C.1.2.2.2.2
  have hl : lv_has ls 2 [(0, .ref (E.2.1.2.1 0)), (1, .int i1)] := hl
  rw [fX13_end] at hf
  refine lv_aload_n hx hb dX13_end_0 rfl (lv_at hl 0 rfl) ?_
  refine lv_iconst (v := (0 : Int32)) hx hb dX13_end_1 (by decide) ?_
  refine p13_1 C hT hM dX13_end_2 (fun H locs hM => ?_)
  refine lv_iload_n hx hb dX13_end_5 rfl (lv_at hl 1 rfl) ?_
  refine lv_if_lt (tgt := 17) hx hb dX13_end_6 (by decide) (fun hc6 => ?_) (fun hc6 => ?_)
  · replace hf := mx_ift hc6 hf
    refine lv_iconst (v := (0 : Int32)) hx hb dX13_end_17 (by decide) ?_
    exact mx_zret C hM (b := false) rfl hf dX13_end_18
  · replace hf := mx_iff hc6 hf
    refine lv_iload_n hx hb dX13_end_9 rfl (lv_at hl 1 rfl) ?_
    refine lv_aload_n hx hb dX13_end_10 rfl (lv_at hl 0 rfl) ?_
    refine g13_7 C hT hM dX13_end_11 ?_
    refine lv_icmp_le (tgt := 19) hx hb dX13_end_14 (by decide) (fun hc14 => ?_) (fun hc14 => ?_)
    · replace hf := mx_ift hc14 hf
      refine lv_aload_n hx hb dX13_end_19 rfl (lv_at hl 0 rfl) ?_
      refine lv_iload_n hx hb dX13_end_20 rfl (lv_at hl 1 rfl) ?_
      refine p13_7 C hT hM dX13_end_21 (fun H locs hM => ?_)
      refine lv_iconst (v := (1 : Int32)) hx hb dX13_end_24 (by decide) ?_
      exact mx_zret C hM (b := true) rfl hf dX13_end_25
    · replace hf := mx_iff hc14 hf
      refine lv_iconst (v := (0 : Int32)) hx hb dX13_end_17 (by decide) ?_
      exact mx_zret C hM (b := false) rfl hf dX13_end_18
theorem dX13_taken_0 : decode cX13_taken 0 = .ok (.aload_n 0, 1) := by decide +kernel
theorem dX13_taken_1 : decode cX13_taken 1 = .ok (.aload_n 0, 1) := by decide +kernel
theorem dX13_taken_2 : decode cX13_taken 2 = .ok (.getfield 7, 3) := by decide +kernel
theorem dX13_taken_5 : decode cX13_taken 5 = .ok (.putfield 18, 3) := by decide +kernel
theorem dX13_taken_8 : decode cX13_taken 8 = .ok (.aload_n 0, 1) := by decide +kernel
theorem dX13_taken_9 : decode cX13_taken 9 = .ok (.iconst 0, 1) := by decide +kernel
theorem dX13_taken_10 : decode cX13_taken 10 = .ok (.putfield 7, 3) := by decide +kernel
theorem dX13_taken_13 : decode cX13_taken 13 = .ok (.aload_n 0, 1) := by decide +kernel
theorem dX13_taken_14 : decode cX13_taken 14 = .ok (.iconst 0, 1) := by decide +kernel
theorem dX13_taken_15 : decode cX13_taken 15 = .ok (.putfield 21, 3) := by decide +kernel
theorem dX13_taken_18 : decode cX13_taken 18 = .ok (.aload_n 0, 1) := by decide +kernel
theorem dX13_taken_19 : decode cX13_taken 19 = .ok (.iload_n 1, 1) := by decide +kernel
theorem dX13_taken_20 : decode cX13_taken 20 = .ok (.putfield 24, 3) := by decide +kernel
theorem dX13_taken_23 : decode cX13_taken 23 = .ok (.return_, 1) := by decide +kernel
set_option maxRecDepth 100000 in
set_option maxHeartbeats 4000000 in
theorem kX13_taken {E : KE} {l : Launch} (hE : mx_ok E) (i1 : Int32) (hT : E.1 = mt) (M : MM) {q : MM} (hf : fX13_taken i1 M = some q) : mx_Met E l yX13_taken cX13_taken 2 none 0 [.ref (E.2.1.2.1 0), .int i1] M none q := by
  refine mx_enter hE (by decide) (Nat.le_of_ble_eq_true rfl) ?_
  intro p e s m below meth c C hM hn ls hl
  have hx := C.1.1
  have hb := C.1.2.1
  have hown := C.1.2.2.2.1
  have hts := C.1.2.2.2.2
  have hl : lv_has ls 2 [(0, .ref (E.2.1.2.1 0)), (1, .int i1)] := hl
  rw [fX13_taken] at hf
  refine lv_aload_n hx hb dX13_taken_0 rfl (lv_at hl 0 rfl) ?_
  refine lv_aload_n hx hb dX13_taken_1 rfl (lv_at hl 0 rfl) ?_
  refine g13_7 C hT hM dX13_taken_2 ?_
  refine p13_18 C hT hM dX13_taken_5 (fun H locs hM => ?_)
  refine lv_aload_n hx hb dX13_taken_8 rfl (lv_at hl 0 rfl) ?_
  refine lv_iconst (v := (0 : Int32)) hx hb dX13_taken_9 (by decide) ?_
  refine p13_7 C hT hM dX13_taken_10 (fun H locs hM => ?_)
  refine lv_aload_n hx hb dX13_taken_13 rfl (lv_at hl 0 rfl) ?_
  refine lv_iconst (v := (0 : Int32)) hx hb dX13_taken_14 (by decide) ?_
  refine p13_21 C hT hM dX13_taken_15 (fun H locs hM => ?_)
  refine lv_aload_n hx hb dX13_taken_18 rfl (lv_at hl 0 rfl) ?_
  refine lv_iload_n hx hb dX13_taken_19 rfl (lv_at hl 1 rfl) ?_
  refine p13_24 C hT hM dX13_taken_20 (fun H locs hM => ?_)
  exact mx_vret C hM hf dX13_taken_23
theorem dX13_isIn_0 : decode cX13_isIn 0 = .ok (.iload_n 0, 1) := by decide +kernel
theorem dX13_isIn_1 : decode cX13_isIn 1 = .ok (.iload_n 1, 1) := by decide +kernel
theorem dX13_isIn_2 : decode cX13_isIn 2 = .ok (.if_icmp .lt 12, 3) := by decide +kernel
theorem dX13_isIn_5 : decode cX13_isIn 5 = .ok (.iload_n 0, 1) := by decide +kernel
theorem dX13_isIn_6 : decode cX13_isIn 6 = .ok (.iload_n 2, 1) := by decide +kernel
theorem dX13_isIn_7 : decode cX13_isIn 7 = .ok (.if_icmp .gt 7, 3) := by decide +kernel
theorem dX13_isIn_10 : decode cX13_isIn 10 = .ok (.iconst 1, 1) := by decide +kernel
theorem dX13_isIn_11 : decode cX13_isIn 11 = .ok (.goto 4, 3) := by decide +kernel
theorem dX13_isIn_14 : decode cX13_isIn 14 = .ok (.iconst 0, 1) := by decide +kernel
theorem dX13_isIn_15 : decode cX13_isIn 15 = .ok (.ireturn, 1) := by decide +kernel
set_option maxRecDepth 100000 in
set_option maxHeartbeats 4000000 in
theorem kX13_isIn {E : KE} {l : Launch} (hE : mx_ok E) (i0 : Int32) (i1 : Int32) (i2 : Int32) (hT : E.1 = mt) (M : MM) {q : Bool} (hf : fX13_isIn i0 i1 i2 M = some q) : mx_Met E l yX13_isIn cX13_isIn 3 (some .boolean) 0 [.int i0, .int i1, .int i2] M (some (.int (mx_b q))) M := by
  refine mx_enter hE (by decide) (Nat.le_of_ble_eq_true rfl) ?_
  intro p e s m below meth c C hM hn ls hl
  have hx := C.1.1
  have hb := C.1.2.1
  have hown := C.1.2.2.2.1
  have hts := C.1.2.2.2.2
  have hl : lv_has ls 3 [(0, .int i0), (1, .int i1), (2, .int i2)] := hl
  rw [fX13_isIn] at hf
  refine lv_iload_n hx hb dX13_isIn_0 rfl (lv_at hl 0 rfl) ?_
  refine lv_iload_n hx hb dX13_isIn_1 rfl (lv_at hl 1 rfl) ?_
  refine lv_icmp_lt (tgt := 14) hx hb dX13_isIn_2 (by decide) (fun hc2 => ?_) (fun hc2 => ?_)
  · replace hf := mx_ift hc2 hf
    refine lv_iconst (v := (0 : Int32)) hx hb dX13_isIn_14 (by decide) ?_
    exact mx_zretR C hM (b := false) rfl hf dX13_isIn_15
  · replace hf := mx_iff hc2 hf
    refine lv_iload_n hx hb dX13_isIn_5 rfl (lv_at hl 0 rfl) ?_
    refine lv_iload_n hx hb dX13_isIn_6 rfl (lv_at hl 2 rfl) ?_
    refine lv_icmp_gt (tgt := 14) hx hb dX13_isIn_7 (by decide) (fun hc7 => ?_) (fun hc7 => ?_)
    · replace hf := mx_ift hc7 hf
      refine lv_iconst (v := (0 : Int32)) hx hb dX13_isIn_14 (by decide) ?_
      exact mx_zretR C hM (b := false) rfl hf dX13_isIn_15
    · replace hf := mx_iff hc7 hf
      refine lv_iconst (v := (1 : Int32)) hx hb dX13_isIn_10 (by decide) ?_
      refine lv_goto (tgt := 15) hx hb dX13_isIn_11 (by decide) ?_
      exact mx_zretR C hM (b := true) rfl hf dX13_isIn_15
theorem dX13_bitOf_0 : decode cX13_bitOf 0 = .ok (.iload_n 0, 1) := by decide +kernel
theorem dX13_bitOf_1 : decode cX13_bitOf 1 = .ok (.iload_n 1, 1) := by decide +kernel
theorem dX13_bitOf_2 : decode cX13_bitOf 2 = .ok (.ishr, 1) := by decide +kernel
theorem dX13_bitOf_3 : decode cX13_bitOf 3 = .ok (.iconst 1, 1) := by decide +kernel
theorem dX13_bitOf_4 : decode cX13_bitOf 4 = .ok (.iand, 1) := by decide +kernel
theorem dX13_bitOf_5 : decode cX13_bitOf 5 = .ok (.iconst 1, 1) := by decide +kernel
theorem dX13_bitOf_6 : decode cX13_bitOf 6 = .ok (.if_icmp .ne 7, 3) := by decide +kernel
theorem dX13_bitOf_9 : decode cX13_bitOf 9 = .ok (.iconst 1, 1) := by decide +kernel
theorem dX13_bitOf_10 : decode cX13_bitOf 10 = .ok (.goto 4, 3) := by decide +kernel
theorem dX13_bitOf_13 : decode cX13_bitOf 13 = .ok (.iconst 0, 1) := by decide +kernel
theorem dX13_bitOf_14 : decode cX13_bitOf 14 = .ok (.ireturn, 1) := by decide +kernel
set_option maxRecDepth 100000 in
set_option maxHeartbeats 4000000 in
theorem kX13_bitOf {E : KE} {l : Launch} (hE : mx_ok E) (i0 : Int32) (i1 : Int32) (hT : E.1 = mt) (M : MM) {q : Bool} (hf : fX13_bitOf i0 i1 M = some q) : mx_Met E l yX13_bitOf cX13_bitOf 2 (some .boolean) 0 [.int i0, .int i1] M (some (.int (mx_b q))) M := by
  refine mx_enter hE (by decide) (Nat.le_of_ble_eq_true rfl) ?_
  intro p e s m below meth c C hM hn ls hl
  have hx := C.1.1
  have hb := C.1.2.1
  have hown := C.1.2.2.2.1
  have hts := C.1.2.2.2.2
  have hl : lv_has ls 2 [(0, .int i0), (1, .int i1)] := hl
  rw [fX13_bitOf] at hf
  refine lv_iload_n hx hb dX13_bitOf_0 rfl (lv_at hl 0 rfl) ?_
  refine lv_iload_n hx hb dX13_bitOf_1 rfl (lv_at hl 1 rfl) ?_
  refine lv_ishr hx hb dX13_bitOf_2 ?_
  refine lv_iconst (v := (1 : Int32)) hx hb dX13_bitOf_3 (by decide) ?_
  refine lv_iand hx hb dX13_bitOf_4 ?_
  refine lv_iconst (v := (1 : Int32)) hx hb dX13_bitOf_5 (by decide) ?_
  refine lv_icmp_ne (tgt := 13) hx hb dX13_bitOf_6 (by decide) (fun hc6 => ?_) (fun hc6 => ?_)
  · replace hf := mx_iff hc6 hf
    refine lv_iconst (v := (0 : Int32)) hx hb dX13_bitOf_13 (by decide) ?_
    exact mx_zretR C hM (b := false) rfl hf dX13_bitOf_14
  · replace hf := mx_ift hc6 hf
    refine lv_iconst (v := (1 : Int32)) hx hb dX13_bitOf_9 (by decide) ?_
    refine lv_goto (tgt := 14) hx hb dX13_bitOf_10 (by decide) ?_
    exact mx_zretR C hM (b := true) rfl hf dX13_bitOf_14
theorem dX13_lesser_0 : decode cX13_lesser 0 = .ok (.iload_n 0, 1) := by decide +kernel
theorem dX13_lesser_1 : decode cX13_lesser 1 = .ok (.iload_n 1, 1) := by decide +kernel
theorem dX13_lesser_2 : decode cX13_lesser 2 = .ok (.if_icmp .ge 7, 3) := by decide +kernel
theorem dX13_lesser_5 : decode cX13_lesser 5 = .ok (.iload_n 0, 1) := by decide +kernel
theorem dX13_lesser_6 : decode cX13_lesser 6 = .ok (.goto 4, 3) := by decide +kernel
theorem dX13_lesser_9 : decode cX13_lesser 9 = .ok (.iload_n 1, 1) := by decide +kernel
theorem dX13_lesser_10 : decode cX13_lesser 10 = .ok (.ireturn, 1) := by decide +kernel
set_option maxRecDepth 100000 in
set_option maxHeartbeats 4000000 in
theorem kX13_lesser {E : KE} {l : Launch} (hE : mx_ok E) (i0 : Int32) (i1 : Int32) (hT : E.1 = mt) (M : MM) {q : Int32} (hf : fX13_lesser i0 i1 M = some q) : mx_Met E l yX13_lesser cX13_lesser 2 (some .int) 0 [.int i0, .int i1] M (some (.int q)) M := by
  refine mx_enter hE (by decide) (Nat.le_of_ble_eq_true rfl) ?_
  intro p e s m below meth c C hM hn ls hl
  have hx := C.1.1
  have hb := C.1.2.1
  have hown := C.1.2.2.2.1
  have hts := C.1.2.2.2.2
  have hl : lv_has ls 2 [(0, .int i0), (1, .int i1)] := hl
  rw [fX13_lesser] at hf
  refine lv_iload_n hx hb dX13_lesser_0 rfl (lv_at hl 0 rfl) ?_
  refine lv_iload_n hx hb dX13_lesser_1 rfl (lv_at hl 1 rfl) ?_
  refine lv_icmp_ge (tgt := 9) hx hb dX13_lesser_2 (by decide) (fun hc2 => ?_) (fun hc2 => ?_)
  · replace hf := mx_ift hc2 hf
    refine lv_iload_n hx hb dX13_lesser_9 rfl (lv_at hl 1 rfl) ?_
    exact mx_iretR C hM hf dX13_lesser_10
  · replace hf := mx_iff hc2 hf
    refine lv_iload_n hx hb dX13_lesser_5 rfl (lv_at hl 0 rfl) ?_
    refine lv_goto (tgt := 10) hx hb dX13_lesser_6 (by decide) ?_
    exact mx_iretR C hM hf dX13_lesser_10
theorem dX13_greater_0 : decode cX13_greater 0 = .ok (.iload_n 0, 1) := by decide +kernel
theorem dX13_greater_1 : decode cX13_greater 1 = .ok (.iload_n 1, 1) := by decide +kernel
theorem dX13_greater_2 : decode cX13_greater 2 = .ok (.if_icmp .le 7, 3) := by decide +kernel
theorem dX13_greater_5 : decode cX13_greater 5 = .ok (.iload_n 0, 1) := by decide +kernel
theorem dX13_greater_6 : decode cX13_greater 6 = .ok (.goto 4, 3) := by decide +kernel
theorem dX13_greater_9 : decode cX13_greater 9 = .ok (.iload_n 1, 1) := by decide +kernel
theorem dX13_greater_10 : decode cX13_greater 10 = .ok (.ireturn, 1) := by decide +kernel
set_option maxRecDepth 100000 in
set_option maxHeartbeats 4000000 in
theorem kX13_greater {E : KE} {l : Launch} (hE : mx_ok E) (i0 : Int32) (i1 : Int32) (hT : E.1 = mt) (M : MM) {q : Int32} (hf : fX13_greater i0 i1 M = some q) : mx_Met E l yX13_greater cX13_greater 2 (some .int) 0 [.int i0, .int i1] M (some (.int q)) M := by
  refine mx_enter hE (by decide) (Nat.le_of_ble_eq_true rfl) ?_
  intro p e s m below meth c C hM hn ls hl
  have hx := C.1.1
  have hb := C.1.2.1
  have hown := C.1.2.2.2.1
  have hts := C.1.2.2.2.2
  have hl : lv_has ls 2 [(0, .int i0), (1, .int i1)] := hl
  rw [fX13_greater] at hf
  refine lv_iload_n hx hb dX13_greater_0 rfl (lv_at hl 0 rfl) ?_
  refine lv_iload_n hx hb dX13_greater_1 rfl (lv_at hl 1 rfl) ?_
  refine lv_icmp_le (tgt := 9) hx hb dX13_greater_2 (by decide) (fun hc2 => ?_) (fun hc2 => ?_)
  · replace hf := mx_ift hc2 hf
    refine lv_iload_n hx hb dX13_greater_9 rfl (lv_at hl 1 rfl) ?_
    exact mx_iretR C hM hf dX13_greater_10
  · replace hf := mx_iff hc2 hf
    refine lv_iload_n hx hb dX13_greater_5 rfl (lv_at hl 0 rfl) ?_
    refine lv_goto (tgt := 10) hx hb dX13_greater_6 (by decide) ?_
    exact mx_iretR C hM hf dX13_greater_10
theorem dX13_absolute_0 : decode cX13_absolute 0 = .ok (.iload_n 0, 1) := by decide +kernel
theorem dX13_absolute_1 : decode cX13_absolute 1 = .ok (.ifCond .ge 8, 3) := by decide +kernel
theorem dX13_absolute_4 : decode cX13_absolute 4 = .ok (.iload_n 0, 1) := by decide +kernel
theorem dX13_absolute_5 : decode cX13_absolute 5 = .ok (.ineg, 1) := by decide +kernel
theorem dX13_absolute_6 : decode cX13_absolute 6 = .ok (.goto 4, 3) := by decide +kernel
theorem dX13_absolute_9 : decode cX13_absolute 9 = .ok (.iload_n 0, 1) := by decide +kernel
theorem dX13_absolute_10 : decode cX13_absolute 10 = .ok (.ireturn, 1) := by decide +kernel
set_option maxRecDepth 100000 in
set_option maxHeartbeats 4000000 in
theorem kX13_absolute {E : KE} {l : Launch} (hE : mx_ok E) (i0 : Int32) (hT : E.1 = mt) (M : MM) {q : Int32} (hf : fX13_absolute i0 M = some q) : mx_Met E l yX13_absolute cX13_absolute 1 (some .int) 0 [.int i0] M (some (.int q)) M := by
  refine mx_enter hE (by decide) (Nat.le_of_ble_eq_true rfl) ?_
  intro p e s m below meth c C hM hn ls hl
  have hx := C.1.1
  have hb := C.1.2.1
  have hown := C.1.2.2.2.1
  have hts := C.1.2.2.2.2
  have hl : lv_has ls 1 [(0, .int i0)] := hl
  rw [fX13_absolute] at hf
  refine lv_iload_n hx hb dX13_absolute_0 rfl (lv_at hl 0 rfl) ?_
  refine lv_if_ge (tgt := 9) hx hb dX13_absolute_1 (by decide) (fun hc1 => ?_) (fun hc1 => ?_)
  · replace hf := mx_ift hc1 hf
    refine lv_iload_n hx hb dX13_absolute_9 rfl (lv_at hl 0 rfl) ?_
    exact mx_iretR C hM hf dX13_absolute_10
  · replace hf := mx_iff hc1 hf
    refine lv_iload_n hx hb dX13_absolute_4 rfl (lv_at hl 0 rfl) ?_
    refine lv_ineg hx hb dX13_absolute_5 ?_
    refine lv_goto (tgt := 10) hx hb dX13_absolute_6 (by decide) ?_
    exact mx_iretR C hM hf dX13_absolute_10
theorem dX13_bits_0 : decode cX13_bits 0 = .ok (.iconst 0, 1) := by decide +kernel
theorem dX13_bits_1 : decode cX13_bits 1 = .ok (.istore_n 1, 1) := by decide +kernel
theorem dX13_bits_2 : decode cX13_bits 2 = .ok (.iload_n 0, 1) := by decide +kernel
theorem dX13_bits_3 : decode cX13_bits 3 = .ok (.istore_n 2, 1) := by decide +kernel
theorem dX13_bits_4 : decode cX13_bits 4 = .ok (.iload_n 2, 1) := by decide +kernel
theorem dX13_bits_5 : decode cX13_bits 5 = .ok (.ifCond .eq 15, 3) := by decide +kernel
theorem dX13_bits_8 : decode cX13_bits 8 = .ok (.iinc 1 1, 3) := by decide +kernel
theorem dX13_bits_11 : decode cX13_bits 11 = .ok (.iload_n 2, 1) := by decide +kernel
theorem dX13_bits_12 : decode cX13_bits 12 = .ok (.iload_n 2, 1) := by decide +kernel
theorem dX13_bits_13 : decode cX13_bits 13 = .ok (.iconst 1, 1) := by decide +kernel
theorem dX13_bits_14 : decode cX13_bits 14 = .ok (.isub, 1) := by decide +kernel
theorem dX13_bits_15 : decode cX13_bits 15 = .ok (.iand, 1) := by decide +kernel
theorem dX13_bits_16 : decode cX13_bits 16 = .ok (.istore_n 2, 1) := by decide +kernel
theorem dX13_bits_17 : decode cX13_bits 17 = .ok (.goto (-13), 3) := by decide +kernel
theorem dX13_bits_20 : decode cX13_bits 20 = .ok (.iload_n 1, 1) := by decide +kernel
theorem dX13_bits_21 : decode cX13_bits 21 = .ok (.ireturn, 1) := by decide +kernel
set_option maxRecDepth 100000 in
set_option maxHeartbeats 4000000 in
theorem wfX13_bits_4 {E : KE} {p : Program} {l : Launch} {e : Env} {s : State} {m : MethodId} {args : Array Value} {below : List Frame} {meth : Method} {c : Code} {q : Int32} (C : mx_C E p m c cX13_bits 3 s args RX13 meth (some .int)) (i0 : Int32) (M : MM) (hT : E.1 = mt)   : ∀ (n : Nat) (i1 : Int32) (i2 : Int32) (H : Heap) (locs : List Loc) (ls : Array Slot), fX13_bits_4 i0 M n i1 i2 = some q → mx_H E s M H locs → lv_has ls 3 [(1, .int i1), (2, .int i2)] → W p l e (mx_rm 0) s m args below meth c H locs 0 0 (mx_Z E below args s (some (.int q)) M) (F0 m 4 ls []) := by
  have hx := C.1.1
  have hb := C.1.2.1
  have hown := C.1.2.2.2.1
  have hts := C.1.2.2.2.2
  intro n
  induction n with
  | zero =>
    intro i1 i2 H locs ls hf hM hl
    rw [fX13_bits_4] at hf
    cases hf
  | succ n ih =>
    intro i1 i2 H locs ls hf hM hl
    rw [fX13_bits_4] at hf
    refine lv_iload_n hx hb dX13_bits_4 rfl (lv_at hl 1 rfl) ?_
    refine lv_if_eq (tgt := 20) hx hb dX13_bits_5 (by decide) (fun hc5 => ?_) (fun hc5 => ?_)
    · replace hf := mx_ift hc5 hf
      refine lv_iload_n hx hb dX13_bits_20 rfl (lv_at hl 0 rfl) ?_
      exact mx_iretR C hM hf dX13_bits_21
    · replace hf := mx_iff hc5 hf
      refine lv_iinc (v := (i1 + (1 : Int32))) (lv' := [(1, .int (i1 + (1 : Int32))), (2, .int i2)]) hx hb dX13_bits_8 hl (k := 0) rfl rfl (by decide) rfl (fun ls hl => ?_)
      refine lv_iload_n hx hb dX13_bits_11 rfl (lv_at hl 1 rfl) ?_
      refine lv_iload_n hx hb dX13_bits_12 rfl (lv_at hl 1 rfl) ?_
      refine lv_iconst (v := (1 : Int32)) hx hb dX13_bits_13 (by decide) ?_
      refine lv_isub hx hb dX13_bits_14 ?_
      refine lv_iand hx hb dX13_bits_15 ?_
      refine lv_istore_n (lv' := [(2, .int (i2 &&& (i2 - (1 : Int32)))), (1, .int (i1 + (1 : Int32)))]) hx hb dX13_bits_16 rfl hl (by decide) rfl (fun ls hl => ?_)
      refine lv_goto (tgt := 4) hx hb dX13_bits_17 (by decide) ?_
      exact ih (i1 + (1 : Int32)) (i2 &&& (i2 - (1 : Int32))) _ _ _ hf hM (lv_sub hl [1, 0] rfl)
set_option maxRecDepth 100000 in
set_option maxHeartbeats 4000000 in
theorem kX13_bits {E : KE} {l : Launch} (hE : mx_ok E) (i0 : Int32) (hT : E.1 = mt) (M : MM) {q : Int32} (hf : fX13_bits i0 M = some q) : mx_Met E l yX13_bits cX13_bits 3 (some .int) 0 [.int i0] M (some (.int q)) M := by
  refine mx_enter hE (by decide) (Nat.le_of_ble_eq_true rfl) ?_
  intro p e s m below meth c C hM hn ls hl
  have hx := C.1.1
  have hb := C.1.2.1
  have hown := C.1.2.2.2.1
  have hts := C.1.2.2.2.2
  have hl : lv_has ls 3 [(0, .int i0)] := hl
  rw [fX13_bits] at hf
  refine lv_iconst (v := (0 : Int32)) hx hb dX13_bits_0 (by decide) ?_
  refine lv_istore_n (lv' := [(1, .int (0 : Int32)), (0, .int i0)]) hx hb dX13_bits_1 rfl hl (by decide) rfl (fun ls hl => ?_)
  refine lv_iload_n hx hb dX13_bits_2 rfl (lv_at hl 1 rfl) ?_
  refine lv_istore_n (lv' := [(2, .int i0), (1, .int (0 : Int32)), (0, .int i0)]) hx hb dX13_bits_3 rfl hl (by decide) rfl (fun ls hl => ?_)
  exact wfX13_bits_4 C i0 M hT mx_fu (0 : Int32) i0 _ _ _ hf hM (lv_sub hl [1, 0] rfl)
theorem dX13_octet_0 : decode cX13_octet 0 = .ok (.aload_n 0, 1) := by decide +kernel
theorem dX13_octet_1 : decode cX13_octet 1 = .ok (.getfield 14, 3) := by decide +kernel
theorem dX13_octet_4 : decode cX13_octet 4 = .ok (.iload_n 1, 1) := by decide +kernel
theorem dX13_octet_5 : decode cX13_octet 5 = .ok (.baload, 1) := by decide +kernel
theorem dX13_octet_6 : decode cX13_octet 6 = .ok (.sipush 255, 3) := by decide +kernel
theorem dX13_octet_9 : decode cX13_octet 9 = .ok (.iand, 1) := by decide +kernel
theorem dX13_octet_10 : decode cX13_octet 10 = .ok (.ireturn, 1) := by decide +kernel
set_option maxRecDepth 100000 in
set_option maxHeartbeats 4000000 in
theorem kX13_octet {E : KE} {l : Launch} (hE : mx_ok E) (i1 : Int32) (hT : E.1 = mt) (M : MM) {q : Int32} (hf : fX13_octet i1 M = some q) : mx_Met E l yX13_octet cX13_octet 2 (some .int) 0 [.ref (E.2.1.2.1 0), .int i1] M (some (.int q)) M := by
  refine mx_enter hE (by decide) (Nat.le_of_ble_eq_true rfl) ?_
  intro p e s m below meth c C hM hn ls hl
  have hx := C.1.1
  have hb := C.1.2.1
  have hown := C.1.2.2.2.1
  have hts := C.1.2.2.2.2
  have hl : lv_has ls 2 [(0, .ref (E.2.1.2.1 0)), (1, .int i1)] := hl
  rw [fX13_octet] at hf
  refine lv_aload_n hx hb dX13_octet_0 rfl (lv_at hl 0 rfl) ?_
  refine g13_14 C hT hM dX13_octet_1 ?_
  refine lv_iload_n hx hb dX13_octet_4 rfl (lv_at hl 1 rfl) ?_
  obtain ⟨hg5, hf⟩ := mx_gd hf
  refine mx_bald C hM (mt_1 hT) (mx_in_vp hg5) dX13_octet_5 ?_
  refine lv_sipush (v := (255 : Int32)) hx hb dX13_octet_6 (by decide) ?_
  refine lv_iand hx hb dX13_octet_9 ?_
  exact mx_iretR C hM hf dX13_octet_10
theorem dX13_clears_0 : decode cX13_clears 0 = .ok (.iconst 0, 1) := by decide +kernel
theorem dX13_clears_1 : decode cX13_clears 1 = .ok (.istore_n 1, 1) := by decide +kernel
theorem dX13_clears_2 : decode cX13_clears 2 = .ok (.iload_n 1, 1) := by decide +kernel
theorem dX13_clears_3 : decode cX13_clears 3 = .ok (.bipush 54, 2) := by decide +kernel
theorem dX13_clears_5 : decode cX13_clears 5 = .ok (.if_icmp .ge 16, 3) := by decide +kernel
theorem dX13_clears_8 : decode cX13_clears 8 = .ok (.aload_n 0, 1) := by decide +kernel
theorem dX13_clears_9 : decode cX13_clears 9 = .ok (.getfield 37, 3) := by decide +kernel
theorem dX13_clears_12 : decode cX13_clears 12 = .ok (.iload_n 1, 1) := by decide +kernel
theorem dX13_clears_13 : decode cX13_clears 13 = .ok (.iconst 0, 1) := by decide +kernel
theorem dX13_clears_14 : decode cX13_clears 14 = .ok (.iastore, 1) := by decide +kernel
theorem dX13_clears_15 : decode cX13_clears 15 = .ok (.iinc 1 1, 3) := by decide +kernel
theorem dX13_clears_18 : decode cX13_clears 18 = .ok (.goto (-16), 3) := by decide +kernel
theorem dX13_clears_21 : decode cX13_clears 21 = .ok (.aload_n 0, 1) := by decide +kernel
theorem dX13_clears_22 : decode cX13_clears 22 = .ok (.getfield 37, 3) := by decide +kernel
theorem dX13_clears_25 : decode cX13_clears 25 = .ok (.iconst 2, 1) := by decide +kernel
theorem dX13_clears_26 : decode cX13_clears 26 = .ok (.iconst 1, 1) := by decide +kernel
theorem dX13_clears_27 : decode cX13_clears 27 = .ok (.iastore, 1) := by decide +kernel
theorem dX13_clears_28 : decode cX13_clears 28 = .ok (.aload_n 0, 1) := by decide +kernel
theorem dX13_clears_29 : decode cX13_clears 29 = .ok (.getfield 37, 3) := by decide +kernel
theorem dX13_clears_32 : decode cX13_clears 32 = .ok (.iconst 3, 1) := by decide +kernel
theorem dX13_clears_33 : decode cX13_clears 33 = .ok (.iconst 5, 1) := by decide +kernel
theorem dX13_clears_34 : decode cX13_clears 34 = .ok (.iastore, 1) := by decide +kernel
theorem dX13_clears_35 : decode cX13_clears 35 = .ok (.aload_n 0, 1) := by decide +kernel
theorem dX13_clears_36 : decode cX13_clears 36 = .ok (.getfield 37, 3) := by decide +kernel
theorem dX13_clears_39 : decode cX13_clears 39 = .ok (.iconst 4, 1) := by decide +kernel
theorem dX13_clears_40 : decode cX13_clears 40 = .ok (.iconst 4, 1) := by decide +kernel
theorem dX13_clears_41 : decode cX13_clears 41 = .ok (.iastore, 1) := by decide +kernel
theorem dX13_clears_42 : decode cX13_clears 42 = .ok (.return_, 1) := by decide +kernel
set_option maxRecDepth 100000 in
set_option maxHeartbeats 4000000 in
theorem wfX13_clears_2 {E : KE} {p : Program} {l : Launch} {e : Env} {s : State} {m : MethodId} {args : Array Value} {below : List Frame} {meth : Method} {c : Code} {q : MM} (C : mx_C E p m c cX13_clears 2 s args RX13 meth none)  (hT : E.1 = mt)   : ∀ (n : Nat) (i1 : Int32) (M : MM) (H : Heap) (locs : List Loc) (ls : Array Slot), fX13_clears_2 n i1 M = some q → mx_H E s M H locs → lv_has ls 2 [(0, .ref (E.2.1.2.1 0)), (1, .int i1)] → W p l e (mx_rm 0) s m args below meth c H locs 0 0 (mx_Z E below args s none q) (F0 m 2 ls []) := by
  have hx := C.1.1
  have hb := C.1.2.1
  have hown := C.1.2.2.2.1
  have hts := C.1.2.2.2.2
  intro n
  induction n with
  | zero =>
    intro i1 M H locs ls hf hM hl
    rw [fX13_clears_2] at hf
    cases hf
  | succ n ih =>
    intro i1 M H locs ls hf hM hl
    rw [fX13_clears_2] at hf
    refine lv_iload_n hx hb dX13_clears_2 rfl (lv_at hl 1 rfl) ?_
    refine lv_bipush (v := (54 : Int32)) hx hb dX13_clears_3 (by decide) ?_
    refine lv_icmp_ge (tgt := 21) hx hb dX13_clears_5 (by decide) (fun hc5 => ?_) (fun hc5 => ?_)
    · replace hf := mx_ift hc5 hf
      refine lv_aload_n hx hb dX13_clears_21 rfl (lv_at hl 0 rfl) ?_
      refine g13_37 C hT hM dX13_clears_22 ?_
      refine lv_iconst (v := (2 : Int32)) hx hb dX13_clears_25 (by decide) ?_
      refine lv_iconst (v := (1 : Int32)) hx hb dX13_clears_26 (by decide) ?_
      refine mx_iastL C hM (mt_3 hT) (j := 2) (by decide) (mx_in_vp (by decide)) dX13_clears_27 (fun H locs hM => ?_)
      refine lv_aload_n hx hb dX13_clears_28 rfl (lv_at hl 0 rfl) ?_
      refine g13_37 C hT hM dX13_clears_29 ?_
      refine lv_iconst (v := (3 : Int32)) hx hb dX13_clears_32 (by decide) ?_
      refine lv_iconst (v := (5 : Int32)) hx hb dX13_clears_33 (by decide) ?_
      refine mx_iastL C hM (mt_3 hT) (j := 3) (by decide) (mx_in_vp (by decide)) dX13_clears_34 (fun H locs hM => ?_)
      refine lv_aload_n hx hb dX13_clears_35 rfl (lv_at hl 0 rfl) ?_
      refine g13_37 C hT hM dX13_clears_36 ?_
      refine lv_iconst (v := (4 : Int32)) hx hb dX13_clears_39 (by decide) ?_
      refine lv_iconst (v := (4 : Int32)) hx hb dX13_clears_40 (by decide) ?_
      refine mx_iastL C hM (mt_3 hT) (j := 4) (by decide) (mx_in_vp (by decide)) dX13_clears_41 (fun H locs hM => ?_)
      exact mx_vret C hM hf dX13_clears_42
    · replace hf := mx_iff hc5 hf
      refine lv_aload_n hx hb dX13_clears_8 rfl (lv_at hl 0 rfl) ?_
      refine g13_37 C hT hM dX13_clears_9 ?_
      refine lv_iload_n hx hb dX13_clears_12 rfl (lv_at hl 1 rfl) ?_
      refine lv_iconst (v := (0 : Int32)) hx hb dX13_clears_13 (by decide) ?_
      obtain ⟨hg14, hf⟩ := mx_gd hf
      refine mx_iast C hM (mt_3 hT) (mx_in_vp hg14) dX13_clears_14 (fun H locs hM => ?_)
      refine lv_iinc (v := (i1 + (1 : Int32))) (lv' := [(1, .int (i1 + (1 : Int32))), (0, .ref (E.2.1.2.1 0))]) hx hb dX13_clears_15 hl (k := 1) rfl rfl (by decide) rfl (fun ls hl => ?_)
      refine lv_goto (tgt := 2) hx hb dX13_clears_18 (by decide) ?_
      exact ih (i1 + (1 : Int32)) (mx_si M 3 i1.toNatClampNeg (0 : Int32)) _ _ _ hf hM (lv_sub hl [1, 0] rfl)
set_option maxRecDepth 100000 in
set_option maxHeartbeats 4000000 in
theorem kX13_clears {E : KE} {l : Launch} (hE : mx_ok E)  (hT : E.1 = mt) (M : MM) {q : MM} (hf : fX13_clears M = some q) : mx_Met E l yX13_clears cX13_clears 2 none 0 [.ref (E.2.1.2.1 0)] M none q := by
  refine mx_enter hE (by decide) (Nat.le_of_ble_eq_true rfl) ?_
  intro p e s m below meth c C hM hn ls hl
  have hx := C.1.1
  have hb := C.1.2.1
  have hown := C.1.2.2.2.1
  have hts := C.1.2.2.2.2
  have hl : lv_has ls 2 [(0, .ref (E.2.1.2.1 0))] := hl
  rw [fX13_clears] at hf
  refine lv_iconst (v := (0 : Int32)) hx hb dX13_clears_0 (by decide) ?_
  refine lv_istore_n (lv' := [(1, .int (0 : Int32)), (0, .ref (E.2.1.2.1 0))]) hx hb dX13_clears_1 rfl hl (by decide) rfl (fun ls hl => ?_)
  exact wfX13_clears_2 C hT mx_fu (0 : Int32) M _ _ _ hf hM (lv_sub hl [1, 0] rfl)
theorem dX13_peek_0 : decode cX13_peek 0 = .ok (.aload_n 0, 1) := by decide +kernel
theorem dX13_peek_1 : decode cX13_peek 1 = .ok (.getfield 21, 3) := by decide +kernel
theorem dX13_peek_4 : decode cX13_peek 4 = .ok (.aload_n 0, 1) := by decide +kernel
theorem dX13_peek_5 : decode cX13_peek 5 = .ok (.getfield 18, 3) := by decide +kernel
theorem dX13_peek_8 : decode cX13_peek 8 = .ok (.if_icmp .ge 19, 3) := by decide +kernel
theorem dX13_peek_11 : decode cX13_peek 11 = .ok (.aload_n 0, 1) := by decide +kernel
theorem dX13_peek_12 : decode cX13_peek 12 = .ok (.getfield 14, 3) := by decide +kernel
theorem dX13_peek_15 : decode cX13_peek 15 = .ok (.aload_n 0, 1) := by decide +kernel
theorem dX13_peek_16 : decode cX13_peek 16 = .ok (.getfield 21, 3) := by decide +kernel
theorem dX13_peek_19 : decode cX13_peek 19 = .ok (.baload, 1) := by decide +kernel
theorem dX13_peek_20 : decode cX13_peek 20 = .ok (.sipush 255, 3) := by decide +kernel
theorem dX13_peek_23 : decode cX13_peek 23 = .ok (.iand, 1) := by decide +kernel
theorem dX13_peek_24 : decode cX13_peek 24 = .ok (.goto 4, 3) := by decide +kernel
theorem dX13_peek_27 : decode cX13_peek 27 = .ok (.iconst (-1), 1) := by decide +kernel
theorem dX13_peek_28 : decode cX13_peek 28 = .ok (.ireturn, 1) := by decide +kernel
set_option maxRecDepth 100000 in
set_option maxHeartbeats 4000000 in
theorem kX13_peek {E : KE} {l : Launch} (hE : mx_ok E)  (hT : E.1 = mt) (M : MM) {q : Int32} (hf : fX13_peek M = some q) : mx_Met E l yX13_peek cX13_peek 1 (some .int) 0 [.ref (E.2.1.2.1 0)] M (some (.int q)) M := by
  refine mx_enter hE (by decide) (Nat.le_of_ble_eq_true rfl) ?_
  intro p e s m below meth c C hM hn ls hl
  have hx := C.1.1
  have hb := C.1.2.1
  have hown := C.1.2.2.2.1
  have hts := C.1.2.2.2.2
  have hl : lv_has ls 1 [(0, .ref (E.2.1.2.1 0))] := hl
  rw [fX13_peek] at hf
  refine lv_aload_n hx hb dX13_peek_0 rfl (lv_at hl 0 rfl) ?_
  refine g13_21 C hT hM dX13_peek_1 ?_
  refine lv_aload_n hx hb dX13_peek_4 rfl (lv_at hl 0 rfl) ?_
  refine g13_18 C hT hM dX13_peek_5 ?_
  refine lv_icmp_ge (tgt := 27) hx hb dX13_peek_8 (by decide) (fun hc8 => ?_) (fun hc8 => ?_)
  · replace hf := mx_ift hc8 hf
    refine lv_iconst (v := (-1 : Int32)) hx hb dX13_peek_27 (by decide) ?_
    exact mx_iretR C hM hf dX13_peek_28
  · replace hf := mx_iff hc8 hf
    refine lv_aload_n hx hb dX13_peek_11 rfl (lv_at hl 0 rfl) ?_
    refine g13_14 C hT hM dX13_peek_12 ?_
    refine lv_aload_n hx hb dX13_peek_15 rfl (lv_at hl 0 rfl) ?_
    refine g13_21 C hT hM dX13_peek_16 ?_
    obtain ⟨hg19, hf⟩ := mx_gd hf
    refine mx_bald C hM (mt_1 hT) (mx_in_vp hg19) dX13_peek_19 ?_
    refine lv_sipush (v := (255 : Int32)) hx hb dX13_peek_20 (by decide) ?_
    refine lv_iand hx hb dX13_peek_23 ?_
    refine lv_goto (tgt := 28) hx hb dX13_peek_24 (by decide) ?_
    exact mx_iretR C hM hf dX13_peek_28
theorem dX13_isSmall_0 : decode cX13_isSmall 0 = .ok (.iload_n 0, 1) := by decide +kernel
theorem dX13_isSmall_1 : decode cX13_isSmall 1 = .ok (.bipush 97, 2) := by decide +kernel
theorem dX13_isSmall_3 : decode cX13_isSmall 3 = .ok (.if_icmp .lt 13, 3) := by decide +kernel
theorem dX13_isSmall_6 : decode cX13_isSmall 6 = .ok (.iload_n 0, 1) := by decide +kernel
theorem dX13_isSmall_7 : decode cX13_isSmall 7 = .ok (.bipush 122, 2) := by decide +kernel
theorem dX13_isSmall_9 : decode cX13_isSmall 9 = .ok (.if_icmp .gt 7, 3) := by decide +kernel
theorem dX13_isSmall_12 : decode cX13_isSmall 12 = .ok (.iconst 1, 1) := by decide +kernel
theorem dX13_isSmall_13 : decode cX13_isSmall 13 = .ok (.goto 4, 3) := by decide +kernel
theorem dX13_isSmall_16 : decode cX13_isSmall 16 = .ok (.iconst 0, 1) := by decide +kernel
theorem dX13_isSmall_17 : decode cX13_isSmall 17 = .ok (.ireturn, 1) := by decide +kernel
set_option maxRecDepth 100000 in
set_option maxHeartbeats 4000000 in
theorem kX13_isSmall {E : KE} {l : Launch} (hE : mx_ok E) (i0 : Int32) (hT : E.1 = mt) (M : MM) {q : Bool} (hf : fX13_isSmall i0 M = some q) : mx_Met E l yX13_isSmall cX13_isSmall 1 (some .boolean) 0 [.int i0] M (some (.int (mx_b q))) M := by
  refine mx_enter hE (by decide) (Nat.le_of_ble_eq_true rfl) ?_
  intro p e s m below meth c C hM hn ls hl
  have hx := C.1.1
  have hb := C.1.2.1
  have hown := C.1.2.2.2.1
  have hts := C.1.2.2.2.2
  have hl : lv_has ls 1 [(0, .int i0)] := hl
  rw [fX13_isSmall] at hf
  refine lv_iload_n hx hb dX13_isSmall_0 rfl (lv_at hl 0 rfl) ?_
  refine lv_bipush (v := (97 : Int32)) hx hb dX13_isSmall_1 (by decide) ?_
  refine lv_icmp_lt (tgt := 16) hx hb dX13_isSmall_3 (by decide) (fun hc3 => ?_) (fun hc3 => ?_)
  · replace hf := mx_ift hc3 hf
    refine lv_iconst (v := (0 : Int32)) hx hb dX13_isSmall_16 (by decide) ?_
    exact mx_zretR C hM (b := false) rfl hf dX13_isSmall_17
  · replace hf := mx_iff hc3 hf
    refine lv_iload_n hx hb dX13_isSmall_6 rfl (lv_at hl 0 rfl) ?_
    refine lv_bipush (v := (122 : Int32)) hx hb dX13_isSmall_7 (by decide) ?_
    refine lv_icmp_gt (tgt := 16) hx hb dX13_isSmall_9 (by decide) (fun hc9 => ?_) (fun hc9 => ?_)
    · replace hf := mx_ift hc9 hf
      refine lv_iconst (v := (0 : Int32)) hx hb dX13_isSmall_16 (by decide) ?_
      exact mx_zretR C hM (b := false) rfl hf dX13_isSmall_17
    · replace hf := mx_iff hc9 hf
      refine lv_iconst (v := (1 : Int32)) hx hb dX13_isSmall_12 (by decide) ?_
      refine lv_goto (tgt := 17) hx hb dX13_isSmall_13 (by decide) ?_
      exact mx_zretR C hM (b := true) rfl hf dX13_isSmall_17
theorem dX13_isDigit_0 : decode cX13_isDigit 0 = .ok (.iload_n 0, 1) := by decide +kernel
theorem dX13_isDigit_1 : decode cX13_isDigit 1 = .ok (.bipush 48, 2) := by decide +kernel
theorem dX13_isDigit_3 : decode cX13_isDigit 3 = .ok (.if_icmp .lt 13, 3) := by decide +kernel
theorem dX13_isDigit_6 : decode cX13_isDigit 6 = .ok (.iload_n 0, 1) := by decide +kernel
theorem dX13_isDigit_7 : decode cX13_isDigit 7 = .ok (.bipush 57, 2) := by decide +kernel
theorem dX13_isDigit_9 : decode cX13_isDigit 9 = .ok (.if_icmp .gt 7, 3) := by decide +kernel
theorem dX13_isDigit_12 : decode cX13_isDigit 12 = .ok (.iconst 1, 1) := by decide +kernel
theorem dX13_isDigit_13 : decode cX13_isDigit 13 = .ok (.goto 4, 3) := by decide +kernel
theorem dX13_isDigit_16 : decode cX13_isDigit 16 = .ok (.iconst 0, 1) := by decide +kernel
theorem dX13_isDigit_17 : decode cX13_isDigit 17 = .ok (.ireturn, 1) := by decide +kernel
set_option maxRecDepth 100000 in
set_option maxHeartbeats 4000000 in
theorem kX13_isDigit {E : KE} {l : Launch} (hE : mx_ok E) (i0 : Int32) (hT : E.1 = mt) (M : MM) {q : Bool} (hf : fX13_isDigit i0 M = some q) : mx_Met E l yX13_isDigit cX13_isDigit 1 (some .boolean) 0 [.int i0] M (some (.int (mx_b q))) M := by
  refine mx_enter hE (by decide) (Nat.le_of_ble_eq_true rfl) ?_
  intro p e s m below meth c C hM hn ls hl
  have hx := C.1.1
  have hb := C.1.2.1
  have hown := C.1.2.2.2.1
  have hts := C.1.2.2.2.2
  have hl : lv_has ls 1 [(0, .int i0)] := hl
  rw [fX13_isDigit] at hf
  refine lv_iload_n hx hb dX13_isDigit_0 rfl (lv_at hl 0 rfl) ?_
  refine lv_bipush (v := (48 : Int32)) hx hb dX13_isDigit_1 (by decide) ?_
  refine lv_icmp_lt (tgt := 16) hx hb dX13_isDigit_3 (by decide) (fun hc3 => ?_) (fun hc3 => ?_)
  · replace hf := mx_ift hc3 hf
    refine lv_iconst (v := (0 : Int32)) hx hb dX13_isDigit_16 (by decide) ?_
    exact mx_zretR C hM (b := false) rfl hf dX13_isDigit_17
  · replace hf := mx_iff hc3 hf
    refine lv_iload_n hx hb dX13_isDigit_6 rfl (lv_at hl 0 rfl) ?_
    refine lv_bipush (v := (57 : Int32)) hx hb dX13_isDigit_7 (by decide) ?_
    refine lv_icmp_gt (tgt := 16) hx hb dX13_isDigit_9 (by decide) (fun hc9 => ?_) (fun hc9 => ?_)
    · replace hf := mx_ift hc9 hf
      refine lv_iconst (v := (0 : Int32)) hx hb dX13_isDigit_16 (by decide) ?_
      exact mx_zretR C hM (b := false) rfl hf dX13_isDigit_17
    · replace hf := mx_iff hc9 hf
      refine lv_iconst (v := (1 : Int32)) hx hb dX13_isDigit_12 (by decide) ?_
      refine lv_goto (tgt := 17) hx hb dX13_isDigit_13 (by decide) ?_
      exact mx_zretR C hM (b := true) rfl hf dX13_isDigit_17
theorem dX13_next_0 : decode cX13_next 0 = .ok (.aload_n 0, 1) := by decide +kernel
theorem dX13_next_1 : decode cX13_next 1 = .ok (.invokevirtual 151, 3) := by decide +kernel
theorem dX13_next_4 : decode cX13_next 4 = .ok (.bipush 32, 2) := by decide +kernel
theorem dX13_next_6 : decode cX13_next 6 = .ok (.if_icmp .eq 12, 3) := by decide +kernel
theorem dX13_next_9 : decode cX13_next 9 = .ok (.aload_n 0, 1) := by decide +kernel
theorem dX13_next_10 : decode cX13_next 10 = .ok (.invokevirtual 151, 3) := by decide +kernel
theorem dX13_next_13 : decode cX13_next 13 = .ok (.bipush 10, 2) := by decide +kernel
theorem dX13_next_15 : decode cX13_next 15 = .ok (.if_icmp .ne 16, 3) := by decide +kernel
theorem dX13_next_18 : decode cX13_next 18 = .ok (.aload_n 0, 1) := by decide +kernel
theorem dX13_next_19 : decode cX13_next 19 = .ok (.dup, 1) := by decide +kernel
theorem dX13_next_20 : decode cX13_next 20 = .ok (.getfield 21, 3) := by decide +kernel
theorem dX13_next_23 : decode cX13_next 23 = .ok (.iconst 1, 1) := by decide +kernel
theorem dX13_next_24 : decode cX13_next 24 = .ok (.iadd, 1) := by decide +kernel
theorem dX13_next_25 : decode cX13_next 25 = .ok (.putfield 21, 3) := by decide +kernel
theorem dX13_next_28 : decode cX13_next 28 = .ok (.goto (-28), 3) := by decide +kernel
theorem dX13_next_31 : decode cX13_next 31 = .ok (.aload_n 0, 1) := by decide +kernel
theorem dX13_next_32 : decode cX13_next 32 = .ok (.aload_n 0, 1) := by decide +kernel
theorem dX13_next_33 : decode cX13_next 33 = .ok (.getfield 21, 3) := by decide +kernel
theorem dX13_next_36 : decode cX13_next 36 = .ok (.putfield 155, 3) := by decide +kernel
theorem dX13_next_39 : decode cX13_next 39 = .ok (.aload_n 0, 1) := by decide +kernel
theorem dX13_next_40 : decode cX13_next 40 = .ok (.iconst 0, 1) := by decide +kernel
theorem dX13_next_41 : decode cX13_next 41 = .ok (.putfield 158, 3) := by decide +kernel
theorem dX13_next_44 : decode cX13_next 44 = .ok (.aload_n 0, 1) := by decide +kernel
theorem dX13_next_45 : decode cX13_next 45 = .ok (.getfield 18, 3) := by decide +kernel
theorem dX13_next_48 : decode cX13_next 48 = .ok (.aload_n 0, 1) := by decide +kernel
theorem dX13_next_49 : decode cX13_next 49 = .ok (.getfield 24, 3) := by decide +kernel
theorem dX13_next_52 : decode cX13_next 52 = .ok (.if_icmp .le 28, 3) := by decide +kernel
theorem dX13_next_55 : decode cX13_next 55 = .ok (.aload_n 0, 1) := by decide +kernel
theorem dX13_next_56 : decode cX13_next 56 = .ok (.getfield 21, 3) := by decide +kernel
theorem dX13_next_59 : decode cX13_next 59 = .ok (.aload_n 0, 1) := by decide +kernel
theorem dX13_next_60 : decode cX13_next 60 = .ok (.getfield 24, 3) := by decide +kernel
theorem dX13_next_63 : decode cX13_next 63 = .ok (.if_icmp .lt 17, 3) := by decide +kernel
theorem dX13_next_66 : decode cX13_next 66 = .ok (.aload_n 0, 1) := by decide +kernel
theorem dX13_next_67 : decode cX13_next 67 = .ok (.aload_n 0, 1) := by decide +kernel
theorem dX13_next_68 : decode cX13_next 68 = .ok (.getfield 24, 3) := by decide +kernel
theorem dX13_next_71 : decode cX13_next 71 = .ok (.putfield 155, 3) := by decide +kernel
theorem dX13_next_74 : decode cX13_next 74 = .ok (.aload_n 0, 1) := by decide +kernel
theorem dX13_next_75 : decode cX13_next 75 = .ok (.iconst 4, 1) := by decide +kernel
theorem dX13_next_76 : decode cX13_next 76 = .ok (.putfield 161, 3) := by decide +kernel
theorem dX13_next_79 : decode cX13_next 79 = .ok (.return_, 1) := by decide +kernel
theorem dX13_next_80 : decode cX13_next 80 = .ok (.aload_n 0, 1) := by decide +kernel
theorem dX13_next_81 : decode cX13_next 81 = .ok (.invokevirtual 151, 3) := by decide +kernel
theorem dX13_next_84 : decode cX13_next 84 = .ok (.istore_n 1, 1) := by decide +kernel
theorem dX13_next_85 : decode cX13_next 85 = .ok (.iload_n 1, 1) := by decide +kernel
theorem dX13_next_86 : decode cX13_next 86 = .ok (.ifCond .ge 9, 3) := by decide +kernel
theorem dX13_next_89 : decode cX13_next 89 = .ok (.aload_n 0, 1) := by decide +kernel
theorem dX13_next_90 : decode cX13_next 90 = .ok (.iconst 0, 1) := by decide +kernel
theorem dX13_next_91 : decode cX13_next 91 = .ok (.putfield 161, 3) := by decide +kernel
theorem dX13_next_94 : decode cX13_next 94 = .ok (.return_, 1) := by decide +kernel
theorem dX13_next_95 : decode cX13_next 95 = .ok (.iload_n 1, 1) := by decide +kernel
theorem dX13_next_96 : decode cX13_next 96 = .ok (.invokestatic 164, 3) := by decide +kernel
theorem dX13_next_99 : decode cX13_next 99 = .ok (.ifCond .ne 65, 3) := by decide +kernel
theorem dX13_next_102 : decode cX13_next 102 = .ok (.iload_n 1, 1) := by decide +kernel
theorem dX13_next_103 : decode cX13_next 103 = .ok (.invokestatic 168, 3) := by decide +kernel
theorem dX13_next_106 : decode cX13_next 106 = .ok (.ifCond .ne 58, 3) := by decide +kernel
theorem dX13_next_109 : decode cX13_next 109 = .ok (.aload_n 0, 1) := by decide +kernel
theorem dX13_next_110 : decode cX13_next 110 = .ok (.iload_n 1, 1) := by decide +kernel
theorem dX13_next_111 : decode cX13_next 111 = .ok (.bipush 59, 2) := by decide +kernel
theorem dX13_next_113 : decode cX13_next 113 = .ok (.if_icmp .eq 27, 3) := by decide +kernel
theorem dX13_next_116 : decode cX13_next 116 = .ok (.iload_n 1, 1) := by decide +kernel
theorem dX13_next_117 : decode cX13_next 117 = .ok (.bipush 40, 2) := by decide +kernel
theorem dX13_next_119 : decode cX13_next 119 = .ok (.if_icmp .eq 21, 3) := by decide +kernel
theorem dX13_next_122 : decode cX13_next 122 = .ok (.iload_n 1, 1) := by decide +kernel
theorem dX13_next_123 : decode cX13_next 123 = .ok (.bipush 41, 2) := by decide +kernel
theorem dX13_next_125 : decode cX13_next 125 = .ok (.if_icmp .eq 15, 3) := by decide +kernel
theorem dX13_next_128 : decode cX13_next 128 = .ok (.iload_n 1, 1) := by decide +kernel
theorem dX13_next_129 : decode cX13_next 129 = .ok (.bipush 60, 2) := by decide +kernel
theorem dX13_next_131 : decode cX13_next 131 = .ok (.if_icmp .lt 13, 3) := by decide +kernel
theorem dX13_next_134 : decode cX13_next 134 = .ok (.iload_n 1, 1) := by decide +kernel
theorem dX13_next_135 : decode cX13_next 135 = .ok (.bipush 62, 2) := by decide +kernel
theorem dX13_next_137 : decode cX13_next 137 = .ok (.if_icmp .gt 7, 3) := by decide +kernel
theorem dX13_next_140 : decode cX13_next 140 = .ok (.iconst 3, 1) := by decide +kernel
theorem dX13_next_141 : decode cX13_next 141 = .ok (.goto 4, 3) := by decide +kernel
theorem dX13_next_144 : decode cX13_next 144 = .ok (.iconst 4, 1) := by decide +kernel
theorem dX13_next_145 : decode cX13_next 145 = .ok (.putfield 161, 3) := by decide +kernel
theorem dX13_next_148 : decode cX13_next 148 = .ok (.aload_n 0, 1) := by decide +kernel
theorem dX13_next_149 : decode cX13_next 149 = .ok (.iload_n 1, 1) := by decide +kernel
theorem dX13_next_150 : decode cX13_next 150 = .ok (.putfield 171, 3) := by decide +kernel
theorem dX13_next_153 : decode cX13_next 153 = .ok (.aload_n 0, 1) := by decide +kernel
theorem dX13_next_154 : decode cX13_next 154 = .ok (.dup, 1) := by decide +kernel
theorem dX13_next_155 : decode cX13_next 155 = .ok (.getfield 21, 3) := by decide +kernel
theorem dX13_next_158 : decode cX13_next 158 = .ok (.iconst 1, 1) := by decide +kernel
theorem dX13_next_159 : decode cX13_next 159 = .ok (.iadd, 1) := by decide +kernel
theorem dX13_next_160 : decode cX13_next 160 = .ok (.putfield 21, 3) := by decide +kernel
theorem dX13_next_163 : decode cX13_next 163 = .ok (.return_, 1) := by decide +kernel
theorem dX13_next_164 : decode cX13_next 164 = .ok (.iload_n 1, 1) := by decide +kernel
theorem dX13_next_165 : decode cX13_next 165 = .ok (.invokestatic 164, 3) := by decide +kernel
theorem dX13_next_168 : decode cX13_next 168 = .ok (.istore_n 2, 1) := by decide +kernel
theorem dX13_next_169 : decode cX13_next 169 = .ok (.iconst 1, 1) := by decide +kernel
theorem dX13_next_170 : decode cX13_next 170 = .ok (.istore_n 3, 1) := by decide +kernel
theorem dX13_next_171 : decode cX13_next 171 = .ok (.aload_n 0, 1) := by decide +kernel
theorem dX13_next_172 : decode cX13_next 172 = .ok (.lconst 0, 1) := by decide +kernel
theorem dX13_next_173 : decode cX13_next 173 = .ok (.putfield 174, 3) := by decide +kernel
theorem dX13_next_176 : decode cX13_next 176 = .ok (.aload_n 0, 1) := by decide +kernel
theorem dX13_next_177 : decode cX13_next 177 = .ok (.iconst 0, 1) := by decide +kernel
theorem dX13_next_178 : decode cX13_next 178 = .ok (.putfield 171, 3) := by decide +kernel
theorem dX13_next_181 : decode cX13_next 181 = .ok (.aload_n 0, 1) := by decide +kernel
theorem dX13_next_182 : decode cX13_next 182 = .ok (.invokevirtual 151, 3) := by decide +kernel
theorem dX13_next_185 : decode cX13_next 185 = .ok (.invokestatic 164, 3) := by decide +kernel
theorem dX13_next_188 : decode cX13_next 188 = .ok (.ifCond .ne 13, 3) := by decide +kernel
theorem dX13_next_191 : decode cX13_next 191 = .ok (.aload_n 0, 1) := by decide +kernel
theorem dX13_next_192 : decode cX13_next 192 = .ok (.invokevirtual 151, 3) := by decide +kernel
theorem dX13_next_195 : decode cX13_next 195 = .ok (.invokestatic 168, 3) := by decide +kernel
theorem dX13_next_198 : decode cX13_next 198 = .ok (.ifCond .eq 100, 3) := by decide +kernel
theorem dX13_next_201 : decode cX13_next 201 = .ok (.iload_n 3, 1) := by decide +kernel
theorem dX13_next_202 : decode cX13_next 202 = .ok (.ifCond .eq 18, 3) := by decide +kernel
theorem dX13_next_205 : decode cX13_next 205 = .ok (.aload_n 0, 1) := by decide +kernel
theorem dX13_next_206 : decode cX13_next 206 = .ok (.invokevirtual 151, 3) := by decide +kernel
theorem dX13_next_209 : decode cX13_next 209 = .ok (.invokestatic 164, 3) := by decide +kernel
theorem dX13_next_212 : decode cX13_next 212 = .ok (.iload_n 2, 1) := by decide +kernel
theorem dX13_next_213 : decode cX13_next 213 = .ok (.if_icmp .ne 7, 3) := by decide +kernel
theorem dX13_next_216 : decode cX13_next 216 = .ok (.iconst 1, 1) := by decide +kernel
theorem dX13_next_217 : decode cX13_next 217 = .ok (.goto 4, 3) := by decide +kernel
theorem dX13_next_220 : decode cX13_next 220 = .ok (.iconst 0, 1) := by decide +kernel
theorem dX13_next_221 : decode cX13_next 221 = .ok (.istore_n 3, 1) := by decide +kernel
theorem dX13_next_222 : decode cX13_next 222 = .ok (.aload_n 0, 1) := by decide +kernel
theorem dX13_next_223 : decode cX13_next 223 = .ok (.getfield 158, 3) := by decide +kernel
theorem dX13_next_226 : decode cX13_next 226 = .ok (.bipush 7, 2) := by decide +kernel
theorem dX13_next_228 : decode cX13_next 228 = .ok (.if_icmp .ge 20, 3) := by decide +kernel
theorem dX13_next_231 : decode cX13_next 231 = .ok (.aload_n 0, 1) := by decide +kernel
theorem dX13_next_232 : decode cX13_next 232 = .ok (.aload_n 0, 1) := by decide +kernel
theorem dX13_next_233 : decode cX13_next 233 = .ok (.getfield 174, 3) := by decide +kernel
theorem dX13_next_236 : decode cX13_next 236 = .ok (.bipush 8, 2) := by decide +kernel
theorem dX13_next_238 : decode cX13_next 238 = .ok (.lshl, 1) := by decide +kernel
theorem dX13_next_239 : decode cX13_next 239 = .ok (.aload_n 0, 1) := by decide +kernel
theorem dX13_next_240 : decode cX13_next 240 = .ok (.invokevirtual 151, 3) := by decide +kernel
theorem dX13_next_243 : decode cX13_next 243 = .ok (.i2l, 1) := by decide +kernel
theorem dX13_next_244 : decode cX13_next 244 = .ok (.lor, 1) := by decide +kernel
theorem dX13_next_245 : decode cX13_next 245 = .ok (.putfield 174, 3) := by decide +kernel
theorem dX13_next_248 : decode cX13_next 248 = .ok (.aload_n 0, 1) := by decide +kernel
theorem dX13_next_249 : decode cX13_next 249 = .ok (.getfield 158, 3) := by decide +kernel
theorem dX13_next_252 : decode cX13_next 252 = .ok (.iconst 3, 1) := by decide +kernel
theorem dX13_next_253 : decode cX13_next 253 = .ok (.if_icmp .ge 22, 3) := by decide +kernel
theorem dX13_next_256 : decode cX13_next 256 = .ok (.aload_n 0, 1) := by decide +kernel
theorem dX13_next_257 : decode cX13_next 257 = .ok (.bipush 10, 2) := by decide +kernel
theorem dX13_next_259 : decode cX13_next 259 = .ok (.aload_n 0, 1) := by decide +kernel
theorem dX13_next_260 : decode cX13_next 260 = .ok (.getfield 171, 3) := by decide +kernel
theorem dX13_next_263 : decode cX13_next 263 = .ok (.imul, 1) := by decide +kernel
theorem dX13_next_264 : decode cX13_next 264 = .ok (.aload_n 0, 1) := by decide +kernel
theorem dX13_next_265 : decode cX13_next 265 = .ok (.invokevirtual 151, 3) := by decide +kernel
theorem dX13_next_268 : decode cX13_next 268 = .ok (.iadd, 1) := by decide +kernel
theorem dX13_next_269 : decode cX13_next 269 = .ok (.bipush 48, 2) := by decide +kernel
theorem dX13_next_271 : decode cX13_next 271 = .ok (.isub, 1) := by decide +kernel
theorem dX13_next_272 : decode cX13_next 272 = .ok (.putfield 171, 3) := by decide +kernel
theorem dX13_next_275 : decode cX13_next 275 = .ok (.aload_n 0, 1) := by decide +kernel
theorem dX13_next_276 : decode cX13_next 276 = .ok (.dup, 1) := by decide +kernel
theorem dX13_next_277 : decode cX13_next 277 = .ok (.getfield 158, 3) := by decide +kernel
theorem dX13_next_280 : decode cX13_next 280 = .ok (.iconst 1, 1) := by decide +kernel
theorem dX13_next_281 : decode cX13_next 281 = .ok (.iadd, 1) := by decide +kernel
theorem dX13_next_282 : decode cX13_next 282 = .ok (.putfield 158, 3) := by decide +kernel
theorem dX13_next_285 : decode cX13_next 285 = .ok (.aload_n 0, 1) := by decide +kernel
theorem dX13_next_286 : decode cX13_next 286 = .ok (.dup, 1) := by decide +kernel
theorem dX13_next_287 : decode cX13_next 287 = .ok (.getfield 21, 3) := by decide +kernel
theorem dX13_next_290 : decode cX13_next 290 = .ok (.iconst 1, 1) := by decide +kernel
theorem dX13_next_291 : decode cX13_next 291 = .ok (.iadd, 1) := by decide +kernel
theorem dX13_next_292 : decode cX13_next 292 = .ok (.putfield 21, 3) := by decide +kernel
theorem dX13_next_295 : decode cX13_next 295 = .ok (.goto (-114), 3) := by decide +kernel
theorem dX13_next_298 : decode cX13_next 298 = .ok (.aload_n 0, 1) := by decide +kernel
theorem dX13_next_299 : decode cX13_next 299 = .ok (.iload_n 3, 1) := by decide +kernel
theorem dX13_next_300 : decode cX13_next 300 = .ok (.ifCond .eq 20, 3) := by decide +kernel
theorem dX13_next_303 : decode cX13_next 303 = .ok (.aload_n 0, 1) := by decide +kernel
theorem dX13_next_304 : decode cX13_next 304 = .ok (.getfield 158, 3) := by decide +kernel
theorem dX13_next_307 : decode cX13_next 307 = .ok (.iload_n 2, 1) := by decide +kernel
theorem dX13_next_308 : decode cX13_next 308 = .ok (.ifCond .eq 8, 3) := by decide +kernel
theorem dX13_next_311 : decode cX13_next 311 = .ok (.bipush 7, 2) := by decide +kernel
theorem dX13_next_313 : decode cX13_next 313 = .ok (.goto 4, 3) := by decide +kernel
theorem dX13_next_316 : decode cX13_next 316 = .ok (.iconst 3, 1) := by decide +kernel
theorem dX13_next_317 : decode cX13_next 317 = .ok (.if_icmp .le 7, 3) := by decide +kernel
theorem dX13_next_320 : decode cX13_next 320 = .ok (.iconst 4, 1) := by decide +kernel
theorem dX13_next_321 : decode cX13_next 321 = .ok (.goto 12, 3) := by decide +kernel
theorem dX13_next_324 : decode cX13_next 324 = .ok (.iload_n 2, 1) := by decide +kernel
theorem dX13_next_325 : decode cX13_next 325 = .ok (.ifCond .eq 7, 3) := by decide +kernel
theorem dX13_next_328 : decode cX13_next 328 = .ok (.iconst 1, 1) := by decide +kernel
theorem dX13_next_329 : decode cX13_next 329 = .ok (.goto 4, 3) := by decide +kernel
theorem dX13_next_332 : decode cX13_next 332 = .ok (.iconst 2, 1) := by decide +kernel
theorem dX13_next_333 : decode cX13_next 333 = .ok (.putfield 161, 3) := by decide +kernel
theorem dX13_next_336 : decode cX13_next 336 = .ok (.return_, 1) := by decide +kernel
set_option maxRecDepth 100000 in
set_option maxHeartbeats 4000000 in
theorem wfX13_next_333 {E : KE} {p : Program} {l : Launch} {e : Env} {s : State} {m : MethodId} {args : Array Value} {below : List Frame} {meth : Method} {c : Code} {q : MM} (C : mx_C E p m c cX13_next 4 s args RX13 meth none)  (hT : E.1 = mt)   : ∀ (is1 : Int32) (M : MM) (H : Heap) (locs : List Loc) (ls : Array Slot), fX13_next_333 is1 M = some q → mx_H E s M H locs → lv_has ls 4 [] → W p l e (mx_rm 1) s m args below meth c H locs 0 0 (mx_Z E below args s none q) (F0 m 333 ls [.int is1, .ref (E.2.1.2.1 0)]) := by
  have hx := C.1.1
  have hb := C.1.2.1
  have hown := C.1.2.2.2.1
  have hts := C.1.2.2.2.2
  intro is1 M H locs ls hf hM hl
  rw [fX13_next_333] at hf
  refine p13_161 C hT hM dX13_next_333 (fun H locs hM => ?_)
  exact mx_vret C hM hf dX13_next_336
set_option maxRecDepth 100000 in
set_option maxHeartbeats 4000000 in
theorem wfX13_next_320 {E : KE} {p : Program} {l : Launch} {e : Env} {s : State} {m : MethodId} {args : Array Value} {below : List Frame} {meth : Method} {c : Code} {q : MM} (C : mx_C E p m c cX13_next 4 s args RX13 meth none)  (hT : E.1 = mt)  (k333 : Int32 → MM → Option MM) (hk333 : ∀ (is1 : Int32) (M : MM) (H : Heap) (locs : List Loc) (ls : Array Slot), k333 is1 M = some q → mx_H E s M H locs → lv_has ls 4 [] → W p l e (mx_rm 1) s m args below meth c H locs 0 0 (mx_Z E below args s none q) (F0 m 333 ls [.int is1, .ref (E.2.1.2.1 0)])) : ∀ (M : MM) (H : Heap) (locs : List Loc) (ls : Array Slot), fX13_next_320 k333 M = some q → mx_H E s M H locs → lv_has ls 4 [] → W p l e (mx_rm 1) s m args below meth c H locs 0 0 (mx_Z E below args s none q) (F0 m 320 ls [.ref (E.2.1.2.1 0)]) := by
  have hx := C.1.1
  have hb := C.1.2.1
  have hown := C.1.2.2.2.1
  have hts := C.1.2.2.2.2
  intro M H locs ls hf hM hl
  rw [fX13_next_320] at hf
  refine lv_iconst (v := (4 : Int32)) hx hb dX13_next_320 (by decide) ?_
  refine lv_goto (tgt := 333) hx hb dX13_next_321 (by decide) ?_
  exact hk333 (4 : Int32) M _ _ _ hf hM (lv_sub hl [] rfl)
set_option maxRecDepth 100000 in
set_option maxHeartbeats 4000000 in
theorem wfX13_next_317 {E : KE} {p : Program} {l : Launch} {e : Env} {s : State} {m : MethodId} {args : Array Value} {below : List Frame} {meth : Method} {c : Code} {q : MM} (C : mx_C E p m c cX13_next 4 s args RX13 meth none)  (hT : E.1 = mt) (b2 : Bool) (k320 : MM → Option MM) (hk320 : ∀  (M : MM) (H : Heap) (locs : List Loc) (ls : Array Slot), k320 M = some q → mx_H E s M H locs → lv_has ls 4 [] → W p l e (mx_rm 1) s m args below meth c H locs 0 0 (mx_Z E below args s none q) (F0 m 320 ls [.ref (E.2.1.2.1 0)])) (k333 : Int32 → MM → Option MM) (hk333 : ∀ (is1 : Int32) (M : MM) (H : Heap) (locs : List Loc) (ls : Array Slot), k333 is1 M = some q → mx_H E s M H locs → lv_has ls 4 [] → W p l e (mx_rm 1) s m args below meth c H locs 0 0 (mx_Z E below args s none q) (F0 m 333 ls [.int is1, .ref (E.2.1.2.1 0)])) : ∀ (is1 : Int32) (is2 : Int32) (M : MM) (H : Heap) (locs : List Loc) (ls : Array Slot), fX13_next_317 b2 k320 k333 is1 is2 M = some q → mx_H E s M H locs → lv_has ls 4 [(2, .int (mx_b b2))] → W p l e (mx_rm 1) s m args below meth c H locs 0 0 (mx_Z E below args s none q) (F0 m 317 ls [.int is2, .int is1, .ref (E.2.1.2.1 0)]) := by
  have hx := C.1.1
  have hb := C.1.2.1
  have hown := C.1.2.2.2.1
  have hts := C.1.2.2.2.2
  intro is1 is2 M H locs ls hf hM hl
  rw [fX13_next_317] at hf
  refine lv_icmp_le (tgt := 324) hx hb dX13_next_317 (by decide) (fun hc317 => ?_) (fun hc317 => ?_)
  · replace hf := mx_ift hc317 hf
    refine lv_iload_n hx hb dX13_next_324 rfl (lv_at hl 0 rfl) ?_
    refine lv_if_eq (tgt := 332) hx hb dX13_next_325 (by decide) (fun hc325 => ?_) (fun hc325 => ?_)
    · replace hf := mx_ift hc325 hf
      refine lv_iconst (v := (2 : Int32)) hx hb dX13_next_332 (by decide) ?_
      exact hk333 (2 : Int32) M _ _ _ hf hM (lv_sub hl [] rfl)
    · replace hf := mx_iff hc325 hf
      refine lv_iconst (v := (1 : Int32)) hx hb dX13_next_328 (by decide) ?_
      refine lv_goto (tgt := 333) hx hb dX13_next_329 (by decide) ?_
      exact hk333 (1 : Int32) M _ _ _ hf hM (lv_sub hl [] rfl)
  · replace hf := mx_iff hc317 hf
    exact hk320 M _ _ _ hf hM (lv_sub hl [] rfl)
set_option maxRecDepth 100000 in
set_option maxHeartbeats 4000000 in
theorem wfX13_next_275 {E : KE} {p : Program} {l : Launch} {e : Env} {s : State} {m : MethodId} {args : Array Value} {below : List Frame} {meth : Method} {c : Code} {q : MM} (C : mx_C E p m c cX13_next 4 s args RX13 meth none)  (hT : E.1 = mt) (b2 : Bool) (k181 : Bool → MM → Option MM) (hk181 : ∀ (b3 : Bool) (M : MM) (H : Heap) (locs : List Loc) (ls : Array Slot), k181 b3 M = some q → mx_H E s M H locs → lv_has ls 4 [(0, .ref (E.2.1.2.1 0)), (2, .int (mx_b b2)), (3, .int (mx_b b3))] → W p l e (mx_rm 1) s m args below meth c H locs 0 0 (mx_Z E below args s none q) (F0 m 181 ls [])) : ∀ (b3 : Bool) (M : MM) (H : Heap) (locs : List Loc) (ls : Array Slot), fX13_next_275 b2 k181 b3 M = some q → mx_H E s M H locs → lv_has ls 4 [(0, .ref (E.2.1.2.1 0)), (2, .int (mx_b b2)), (3, .int (mx_b b3))] → W p l e (mx_rm 1) s m args below meth c H locs 0 0 (mx_Z E below args s none q) (F0 m 275 ls []) := by
  have hx := C.1.1
  have hb := C.1.2.1
  have hown := C.1.2.2.2.1
  have hts := C.1.2.2.2.2
  intro b3 M H locs ls hf hM hl
  rw [fX13_next_275] at hf
  refine lv_aload_n hx hb dX13_next_275 rfl (lv_at hl 0 rfl) ?_
  refine lv_dup hx hb dX13_next_276 rfl ?_
  refine g13_158 C hT hM dX13_next_277 ?_
  refine lv_iconst (v := (1 : Int32)) hx hb dX13_next_280 (by decide) ?_
  refine lv_iadd hx hb dX13_next_281 ?_
  refine p13_158 C hT hM dX13_next_282 (fun H locs hM => ?_)
  refine lv_aload_n hx hb dX13_next_285 rfl (lv_at hl 0 rfl) ?_
  refine lv_dup hx hb dX13_next_286 rfl ?_
  refine g13_21 C hT hM dX13_next_287 ?_
  refine lv_iconst (v := (1 : Int32)) hx hb dX13_next_290 (by decide) ?_
  refine lv_iadd hx hb dX13_next_291 ?_
  refine p13_21 C hT hM dX13_next_292 (fun H locs hM => ?_)
  refine lv_goto (tgt := 181) hx hb dX13_next_295 (by decide) ?_
  exact hk181 b3 (mx_si (mx_si M 0 13 ((M.1 0 13) + (1 : Int32))) 0 4 (((mx_si M 0 13 ((M.1 0 13) + (1 : Int32))).1 0 4) + (1 : Int32))) _ _ _ hf hM (lv_sub hl [0, 1, 2] rfl)
set_option maxRecDepth 100000 in
set_option maxHeartbeats 4000000 in
theorem wfX13_next_248 {E : KE} {p : Program} {l : Launch} {e : Env} {s : State} {m : MethodId} {args : Array Value} {below : List Frame} {meth : Method} {c : Code} {q : MM} (C : mx_C E p m c cX13_next 4 s args RX13 meth none)  (hT : E.1 = mt) (b2 : Bool) (k181 : Bool → MM → Option MM) (hk181 : ∀ (b3 : Bool) (M : MM) (H : Heap) (locs : List Loc) (ls : Array Slot), k181 b3 M = some q → mx_H E s M H locs → lv_has ls 4 [(0, .ref (E.2.1.2.1 0)), (2, .int (mx_b b2)), (3, .int (mx_b b3))] → W p l e (mx_rm 1) s m args below meth c H locs 0 0 (mx_Z E below args s none q) (F0 m 181 ls [])) : ∀ (b3 : Bool) (M : MM) (H : Heap) (locs : List Loc) (ls : Array Slot), fX13_next_248 b2 k181 b3 M = some q → mx_H E s M H locs → lv_has ls 4 [(0, .ref (E.2.1.2.1 0)), (2, .int (mx_b b2)), (3, .int (mx_b b3))] → W p l e (mx_rm 1) s m args below meth c H locs 0 0 (mx_Z E below args s none q) (F0 m 248 ls []) := by
  have hx := C.1.1
  have hb := C.1.2.1
  have hown := C.1.2.2.2.1
  have hts := C.1.2.2.2.2
  intro b3 M H locs ls hf hM hl
  rw [fX13_next_248] at hf
  refine lv_aload_n hx hb dX13_next_248 rfl (lv_at hl 0 rfl) ?_
  refine g13_158 C hT hM dX13_next_249 ?_
  refine lv_iconst (v := (3 : Int32)) hx hb dX13_next_252 (by decide) ?_
  refine lv_icmp_ge (tgt := 275) hx hb dX13_next_253 (by decide) (fun hc253 => ?_) (fun hc253 => ?_)
  · replace hf := mx_ift hc253 hf
    exact wfX13_next_275 C hT b2 k181 hk181 b3 M _ _ _ hf hM (lv_sub hl [0, 1, 2] rfl)
  · replace hf := mx_iff hc253 hf
    refine lv_aload_n hx hb dX13_next_256 rfl (lv_at hl 0 rfl) ?_
    refine lv_bipush (v := (10 : Int32)) hx hb dX13_next_257 (by decide) ?_
    refine lv_aload_n hx hb dX13_next_259 rfl (lv_at hl 0 rfl) ?_
    refine g13_171 C hT hM dX13_next_260 ?_
    refine lv_imul hx hb dX13_next_263 ?_
    refine lv_aload_n hx hb dX13_next_264 rfl (lv_at hl 0 rfl) ?_
    obtain ⟨q265, hq265, hf⟩ := mx_bd hf
    refine mx_callV C hM hl.1 yo_X13_peek (h' := 0) (by decide) qw_1562 qw_1564 qs_114 (ci := 13) (q := (RX13, TX13, 52)) rfl (mt_0 hT) (As := []) (rest := [.int ((10 : Int32) * (M.1 0 14)), .ref (E.2.1.2.1 0)]) (st1 := [.int q265, .int ((10 : Int32) * (M.1 0 14)), .ref (E.2.1.2.1 0)]) (kX13_peek C.2.2.2.1  hT M hq265) rfl rfl rfl (Nat.le_of_ble_eq_true rfl) dX13_next_265 (fun H locs hM => ?_)
    refine lv_iadd hx hb dX13_next_268 ?_
    refine lv_bipush (v := (48 : Int32)) hx hb dX13_next_269 (by decide) ?_
    refine lv_isub hx hb dX13_next_271 ?_
    refine p13_171 C hT hM dX13_next_272 (fun H locs hM => ?_)
    exact wfX13_next_275 C hT b2 k181 hk181 b3 (mx_si M 0 14 ((((10 : Int32) * (M.1 0 14)) + q265) - (48 : Int32))) _ _ _ hf hM (lv_sub hl [0, 1, 2] rfl)
set_option maxRecDepth 100000 in
set_option maxHeartbeats 4000000 in
theorem wfX13_next_221 {E : KE} {p : Program} {l : Launch} {e : Env} {s : State} {m : MethodId} {args : Array Value} {below : List Frame} {meth : Method} {c : Code} {q : MM} (C : mx_C E p m c cX13_next 4 s args RX13 meth none)  (hT : E.1 = mt) (b2 : Bool) (k181 : Bool → MM → Option MM) (hk181 : ∀ (b3 : Bool) (M : MM) (H : Heap) (locs : List Loc) (ls : Array Slot), k181 b3 M = some q → mx_H E s M H locs → lv_has ls 4 [(0, .ref (E.2.1.2.1 0)), (2, .int (mx_b b2)), (3, .int (mx_b b3))] → W p l e (mx_rm 1) s m args below meth c H locs 0 0 (mx_Z E below args s none q) (F0 m 181 ls [])) : ∀ (bs0 : Bool) (M : MM) (H : Heap) (locs : List Loc) (ls : Array Slot), fX13_next_221 b2 k181 bs0 M = some q → mx_H E s M H locs → lv_has ls 4 [(0, .ref (E.2.1.2.1 0)), (2, .int (mx_b b2))] → W p l e (mx_rm 1) s m args below meth c H locs 0 0 (mx_Z E below args s none q) (F0 m 221 ls [.int (mx_b bs0)]) := by
  have hx := C.1.1
  have hb := C.1.2.1
  have hown := C.1.2.2.2.1
  have hts := C.1.2.2.2.2
  intro bs0 M H locs ls hf hM hl
  rw [fX13_next_221] at hf
  refine lv_istore_n (lv' := [(3, .int (mx_b bs0)), (0, .ref (E.2.1.2.1 0)), (2, .int (mx_b b2))]) hx hb dX13_next_221 rfl hl (by decide) rfl (fun ls hl => ?_)
  refine lv_aload_n hx hb dX13_next_222 rfl (lv_at hl 1 rfl) ?_
  refine g13_158 C hT hM dX13_next_223 ?_
  refine lv_bipush (v := (7 : Int32)) hx hb dX13_next_226 (by decide) ?_
  refine lv_icmp_ge (tgt := 248) hx hb dX13_next_228 (by decide) (fun hc228 => ?_) (fun hc228 => ?_)
  · replace hf := mx_ift hc228 hf
    exact wfX13_next_248 C hT b2 k181 hk181 bs0 M _ _ _ hf hM (lv_sub hl [1, 2, 0] rfl)
  · replace hf := mx_iff hc228 hf
    refine lv_aload_n hx hb dX13_next_231 rfl (lv_at hl 1 rfl) ?_
    refine lv_aload_n hx hb dX13_next_232 rfl (lv_at hl 1 rfl) ?_
    refine g13_174 C hT hM dX13_next_233 ?_
    refine lv_bipush (v := (8 : Int32)) hx hb dX13_next_236 (by decide) ?_
    refine lv_lshl (v := ((M.2.1 0 17) <<< ((8 : Int32).toInt64 &&& 63))) hx hb dX13_next_238 rfl ?_
    refine lv_aload_n hx hb dX13_next_239 rfl (lv_at hl 1 rfl) ?_
    obtain ⟨q240, hq240, hf⟩ := mx_bd hf
    refine mx_callV C hM hl.1 yo_X13_peek (h' := 0) (by decide) qw_1562 qw_1564 qs_114 (ci := 13) (q := (RX13, TX13, 52)) rfl (mt_0 hT) (As := []) (rest := [.long ((M.2.1 0 17) <<< ((8 : Int32).toInt64 &&& 63)), .ref (E.2.1.2.1 0)]) (st1 := [.int q240, .long ((M.2.1 0 17) <<< ((8 : Int32).toInt64 &&& 63)), .ref (E.2.1.2.1 0)]) (kX13_peek C.2.2.2.1  hT M hq240) rfl rfl rfl (Nat.le_of_ble_eq_true rfl) dX13_next_240 (fun H locs hM => ?_)
    refine lv_i2l (v := q240.toInt64) hx hb dX13_next_243 rfl ?_
    refine lv_lor hx hb dX13_next_244 ?_
    refine p13_174 C hT hM dX13_next_245 (fun H locs hM => ?_)
    exact wfX13_next_248 C hT b2 k181 hk181 bs0 (mx_sl M 0 17 (((M.2.1 0 17) <<< ((8 : Int32).toInt64 &&& 63)) ||| q240.toInt64)) _ _ _ hf hM (lv_sub hl [1, 2, 0] rfl)
set_option maxRecDepth 100000 in
set_option maxHeartbeats 4000000 in
theorem wfX13_next_220 {E : KE} {p : Program} {l : Launch} {e : Env} {s : State} {m : MethodId} {args : Array Value} {below : List Frame} {meth : Method} {c : Code} {q : MM} (C : mx_C E p m c cX13_next 4 s args RX13 meth none)  (hT : E.1 = mt) (b2 : Bool) (k221 : Bool → MM → Option MM) (hk221 : ∀ (bs0 : Bool) (M : MM) (H : Heap) (locs : List Loc) (ls : Array Slot), k221 bs0 M = some q → mx_H E s M H locs → lv_has ls 4 [(0, .ref (E.2.1.2.1 0)), (2, .int (mx_b b2))] → W p l e (mx_rm 1) s m args below meth c H locs 0 0 (mx_Z E below args s none q) (F0 m 221 ls [.int (mx_b bs0)])) : ∀ (M : MM) (H : Heap) (locs : List Loc) (ls : Array Slot), fX13_next_220 b2 k221 M = some q → mx_H E s M H locs → lv_has ls 4 [(0, .ref (E.2.1.2.1 0)), (2, .int (mx_b b2))] → W p l e (mx_rm 1) s m args below meth c H locs 0 0 (mx_Z E below args s none q) (F0 m 220 ls []) := by
  have hx := C.1.1
  have hb := C.1.2.1
  have hown := C.1.2.2.2.1
  have hts := C.1.2.2.2.2
  intro M H locs ls hf hM hl
  rw [fX13_next_220] at hf
  refine lv_iconst (v := (0 : Int32)) hx hb dX13_next_220 (by decide) ?_
  exact hk221 false M _ _ _ hf hM (lv_sub hl [0, 1] rfl)
set_option maxRecDepth 100000 in
set_option maxHeartbeats 4000000 in
theorem wfX13_next_201 {E : KE} {p : Program} {l : Launch} {e : Env} {s : State} {m : MethodId} {args : Array Value} {below : List Frame} {meth : Method} {c : Code} {q : MM} (C : mx_C E p m c cX13_next 4 s args RX13 meth none)  (hT : E.1 = mt) (b2 : Bool) (k181 : Bool → MM → Option MM) (hk181 : ∀ (b3 : Bool) (M : MM) (H : Heap) (locs : List Loc) (ls : Array Slot), k181 b3 M = some q → mx_H E s M H locs → lv_has ls 4 [(0, .ref (E.2.1.2.1 0)), (2, .int (mx_b b2)), (3, .int (mx_b b3))] → W p l e (mx_rm 1) s m args below meth c H locs 0 0 (mx_Z E below args s none q) (F0 m 181 ls [])) : ∀ (b3 : Bool) (M : MM) (H : Heap) (locs : List Loc) (ls : Array Slot), fX13_next_201 b2 k181 b3 M = some q → mx_H E s M H locs → lv_has ls 4 [(0, .ref (E.2.1.2.1 0)), (2, .int (mx_b b2)), (3, .int (mx_b b3))] → W p l e (mx_rm 1) s m args below meth c H locs 0 0 (mx_Z E below args s none q) (F0 m 201 ls []) := by
  have hx := C.1.1
  have hb := C.1.2.1
  have hown := C.1.2.2.2.1
  have hts := C.1.2.2.2.2
  intro b3 M H locs ls hf hM hl
  rw [fX13_next_201] at hf
  refine lv_iload_n hx hb dX13_next_201 rfl (lv_at hl 2 rfl) ?_
  refine lv_if_eq (tgt := 220) hx hb dX13_next_202 (by decide) (fun hc202 => ?_) (fun hc202 => ?_)
  · replace hf := mx_ift hc202 hf
    exact wfX13_next_220 C hT b2 (fun bs0' M' => fX13_next_221 b2 k181 bs0' M') (fun bs0' M' H locs ls hf hM hl => wfX13_next_221 C hT b2 k181 hk181 bs0' M' H locs ls hf hM hl) M _ _ _ hf hM (lv_sub hl [0, 1] rfl)
  · replace hf := mx_iff hc202 hf
    refine lv_aload_n hx hb dX13_next_205 rfl (lv_at hl 0 rfl) ?_
    obtain ⟨q206, hq206, hf⟩ := mx_bd hf
    refine mx_callV C hM hl.1 yo_X13_peek (h' := 0) (by decide) qw_1562 qw_1564 qs_114 (ci := 13) (q := (RX13, TX13, 52)) rfl (mt_0 hT) (As := []) (rest := []) (st1 := [.int q206]) (kX13_peek C.2.2.2.1  hT M hq206) rfl rfl rfl (Nat.le_of_ble_eq_true rfl) dX13_next_206 (fun H locs hM => ?_)
    obtain ⟨q209, hq209, hf⟩ := mx_bd hf
    refine mx_callS C hM hl.1 yo_X13_isSmall (h' := 0) (by decide) qw_1566 qw_1567 (As := [.int q206]) (rest := []) (st1 := [.int (mx_b q209)]) (kX13_isSmall C.2.2.2.1 q206 hT M hq209) rfl rfl rfl (Nat.le_of_ble_eq_true rfl) dX13_next_209 (fun H locs hM => ?_)
    refine lv_iload_n hx hb dX13_next_212 rfl (lv_at hl 1 rfl) ?_
    refine lv_icmp_ne (tgt := 220) hx hb dX13_next_213 (by decide) (fun hc213 => ?_) (fun hc213 => ?_)
    · replace hf := mx_iff hc213 hf
      exact wfX13_next_220 C hT b2 (fun bs0' M' => fX13_next_221 b2 k181 bs0' M') (fun bs0' M' H locs ls hf hM hl => wfX13_next_221 C hT b2 k181 hk181 bs0' M' H locs ls hf hM hl) M _ _ _ hf hM (lv_sub hl [0, 1] rfl)
    · replace hf := mx_ift hc213 hf
      refine lv_iconst (v := (1 : Int32)) hx hb dX13_next_216 (by decide) ?_
      refine lv_goto (tgt := 221) hx hb dX13_next_217 (by decide) ?_
      exact wfX13_next_221 C hT b2 k181 hk181 true M _ _ _ hf hM (lv_sub hl [0, 1] rfl)
set_option maxRecDepth 100000 in
set_option maxHeartbeats 4000000 in
theorem wfX13_next_181 {E : KE} {p : Program} {l : Launch} {e : Env} {s : State} {m : MethodId} {args : Array Value} {below : List Frame} {meth : Method} {c : Code} {q : MM} (C : mx_C E p m c cX13_next 4 s args RX13 meth none)  (hT : E.1 = mt) (b2 : Bool)  : ∀ (n : Nat) (b3 : Bool) (M : MM) (H : Heap) (locs : List Loc) (ls : Array Slot), fX13_next_181 b2 n b3 M = some q → mx_H E s M H locs → lv_has ls 4 [(0, .ref (E.2.1.2.1 0)), (2, .int (mx_b b2)), (3, .int (mx_b b3))] → W p l e (mx_rm 1) s m args below meth c H locs 0 0 (mx_Z E below args s none q) (F0 m 181 ls []) := by
  have hx := C.1.1
  have hb := C.1.2.1
  have hown := C.1.2.2.2.1
  have hts := C.1.2.2.2.2
  intro n
  induction n with
  | zero =>
    intro b3 M H locs ls hf hM hl
    rw [fX13_next_181] at hf
    cases hf
  | succ n ih =>
    intro b3 M H locs ls hf hM hl
    rw [fX13_next_181] at hf
    refine lv_aload_n hx hb dX13_next_181 rfl (lv_at hl 0 rfl) ?_
    obtain ⟨q182, hq182, hf⟩ := mx_bd hf
    refine mx_callV C hM hl.1 yo_X13_peek (h' := 0) (by decide) qw_1562 qw_1564 qs_114 (ci := 13) (q := (RX13, TX13, 52)) rfl (mt_0 hT) (As := []) (rest := []) (st1 := [.int q182]) (kX13_peek C.2.2.2.1  hT M hq182) rfl rfl rfl (Nat.le_of_ble_eq_true rfl) dX13_next_182 (fun H locs hM => ?_)
    obtain ⟨q185, hq185, hf⟩ := mx_bd hf
    refine mx_callS C hM hl.1 yo_X13_isSmall (h' := 0) (by decide) qw_1566 qw_1567 (As := [.int q182]) (rest := []) (st1 := [.int (mx_b q185)]) (kX13_isSmall C.2.2.2.1 q182 hT M hq185) rfl rfl rfl (Nat.le_of_ble_eq_true rfl) dX13_next_185 (fun H locs hM => ?_)
    refine lv_if_ne (tgt := 201) hx hb dX13_next_188 (by decide) (fun hc188 => ?_) (fun hc188 => ?_)
    · replace hf := mx_iff hc188 hf
      exact wfX13_next_201 C hT b2 (fX13_next_181 b2 n) ih b3 M _ _ _ hf hM (lv_sub hl [0, 1, 2] rfl)
    · replace hf := mx_ift hc188 hf
      refine lv_aload_n hx hb dX13_next_191 rfl (lv_at hl 0 rfl) ?_
      obtain ⟨q192, hq192, hf⟩ := mx_bd hf
      refine mx_callV C hM hl.1 yo_X13_peek (h' := 0) (by decide) qw_1562 qw_1564 qs_114 (ci := 13) (q := (RX13, TX13, 52)) rfl (mt_0 hT) (As := []) (rest := []) (st1 := [.int q192]) (kX13_peek C.2.2.2.1  hT M hq192) rfl rfl rfl (Nat.le_of_ble_eq_true rfl) dX13_next_192 (fun H locs hM => ?_)
      obtain ⟨q195, hq195, hf⟩ := mx_bd hf
      refine mx_callS C hM hl.1 yo_X13_isDigit (h' := 0) (by decide) qw_1569 qw_1570 (As := [.int q192]) (rest := []) (st1 := [.int (mx_b q195)]) (kX13_isDigit C.2.2.2.1 q192 hT M hq195) rfl rfl rfl (Nat.le_of_ble_eq_true rfl) dX13_next_195 (fun H locs hM => ?_)
      refine lv_if_eq (tgt := 298) hx hb dX13_next_198 (by decide) (fun hc198 => ?_) (fun hc198 => ?_)
      · replace hf := mx_ift hc198 hf
        refine lv_aload_n hx hb dX13_next_298 rfl (lv_at hl 0 rfl) ?_
        refine lv_iload_n hx hb dX13_next_299 rfl (lv_at hl 2 rfl) ?_
        refine lv_if_eq (tgt := 320) hx hb dX13_next_300 (by decide) (fun hc300 => ?_) (fun hc300 => ?_)
        · replace hf := mx_ift hc300 hf
          exact wfX13_next_320 C hT (fun is1' M' => fX13_next_333 is1' M') (fun is1' M' H locs ls hf hM hl => wfX13_next_333 C hT is1' M' H locs ls hf hM hl) M _ _ _ hf hM (lv_sub hl [] rfl)
        · replace hf := mx_iff hc300 hf
          refine lv_aload_n hx hb dX13_next_303 rfl (lv_at hl 0 rfl) ?_
          refine g13_158 C hT hM dX13_next_304 ?_
          refine lv_iload_n hx hb dX13_next_307 rfl (lv_at hl 1 rfl) ?_
          refine lv_if_eq (tgt := 316) hx hb dX13_next_308 (by decide) (fun hc308 => ?_) (fun hc308 => ?_)
          · replace hf := mx_ift hc308 hf
            refine lv_iconst (v := (3 : Int32)) hx hb dX13_next_316 (by decide) ?_
            exact wfX13_next_317 C hT b2 (fun M' => fX13_next_320 (fun is1' M' => fX13_next_333 is1' M') M') (fun M' H locs ls hf hM hl => wfX13_next_320 C hT (fun is1' M' => fX13_next_333 is1' M') (fun is1' M' H locs ls hf hM hl => wfX13_next_333 C hT is1' M' H locs ls hf hM hl) M' H locs ls hf hM hl) (fun is1' M' => fX13_next_333 is1' M') (fun is1' M' H locs ls hf hM hl => wfX13_next_333 C hT is1' M' H locs ls hf hM hl) (M.1 0 13) (3 : Int32) M _ _ _ hf hM (lv_sub hl [1] rfl)
          · replace hf := mx_iff hc308 hf
            refine lv_bipush (v := (7 : Int32)) hx hb dX13_next_311 (by decide) ?_
            refine lv_goto (tgt := 317) hx hb dX13_next_313 (by decide) ?_
            exact wfX13_next_317 C hT b2 (fun M' => fX13_next_320 (fun is1' M' => fX13_next_333 is1' M') M') (fun M' H locs ls hf hM hl => wfX13_next_320 C hT (fun is1' M' => fX13_next_333 is1' M') (fun is1' M' H locs ls hf hM hl => wfX13_next_333 C hT is1' M' H locs ls hf hM hl) M' H locs ls hf hM hl) (fun is1' M' => fX13_next_333 is1' M') (fun is1' M' H locs ls hf hM hl => wfX13_next_333 C hT is1' M' H locs ls hf hM hl) (M.1 0 13) (7 : Int32) M _ _ _ hf hM (lv_sub hl [1] rfl)
      · replace hf := mx_iff hc198 hf
        exact wfX13_next_201 C hT b2 (fX13_next_181 b2 n) ih b3 M _ _ _ hf hM (lv_sub hl [0, 1, 2] rfl)
set_option maxRecDepth 100000 in
set_option maxHeartbeats 4000000 in
theorem wfX13_next_164 {E : KE} {p : Program} {l : Launch} {e : Env} {s : State} {m : MethodId} {args : Array Value} {below : List Frame} {meth : Method} {c : Code} {q : MM} (C : mx_C E p m c cX13_next 4 s args RX13 meth none)  (hT : E.1 = mt)   : ∀ (i1 : Int32) (M : MM) (H : Heap) (locs : List Loc) (ls : Array Slot), fX13_next_164 i1 M = some q → mx_H E s M H locs → lv_has ls 4 [(0, .ref (E.2.1.2.1 0)), (1, .int i1)] → W p l e (mx_rm 1) s m args below meth c H locs 0 0 (mx_Z E below args s none q) (F0 m 164 ls []) := by
  have hx := C.1.1
  have hb := C.1.2.1
  have hown := C.1.2.2.2.1
  have hts := C.1.2.2.2.2
  intro i1 M H locs ls hf hM hl
  rw [fX13_next_164] at hf
  refine lv_iload_n hx hb dX13_next_164 rfl (lv_at hl 1 rfl) ?_
  obtain ⟨q165, hq165, hf⟩ := mx_bd hf
  refine mx_callS C hM hl.1 yo_X13_isSmall (h' := 0) (by decide) qw_1566 qw_1567 (As := [.int i1]) (rest := []) (st1 := [.int (mx_b q165)]) (kX13_isSmall C.2.2.2.1 i1 hT M hq165) rfl rfl rfl (Nat.le_of_ble_eq_true rfl) dX13_next_165 (fun H locs hM => ?_)
  refine lv_istore_n (lv' := [(2, .int (mx_b q165)), (0, .ref (E.2.1.2.1 0)), (1, .int i1)]) hx hb dX13_next_168 rfl hl (by decide) rfl (fun ls hl => ?_)
  refine lv_iconst (v := (1 : Int32)) hx hb dX13_next_169 (by decide) ?_
  refine lv_istore_n (lv' := [(3, .int (1 : Int32)), (2, .int (mx_b q165)), (0, .ref (E.2.1.2.1 0)), (1, .int i1)]) hx hb dX13_next_170 rfl hl (by decide) rfl (fun ls hl => ?_)
  refine lv_aload_n hx hb dX13_next_171 rfl (lv_at hl 2 rfl) ?_
  refine lv_lconst (v := 0) hx hb dX13_next_172 (by decide) ?_
  refine p13_174 C hT hM dX13_next_173 (fun H locs hM => ?_)
  refine lv_aload_n hx hb dX13_next_176 rfl (lv_at hl 2 rfl) ?_
  refine lv_iconst (v := (0 : Int32)) hx hb dX13_next_177 (by decide) ?_
  refine p13_171 C hT hM dX13_next_178 (fun H locs hM => ?_)
  exact wfX13_next_181 C hT q165 mx_fu true (mx_si (mx_sl M 0 17 (0 : Int64)) 0 14 (0 : Int32)) _ _ _ hf hM (lv_sub hl [2, 1, 0] rfl)
set_option maxRecDepth 100000 in
set_option maxHeartbeats 4000000 in
theorem wfX13_next_145 {E : KE} {p : Program} {l : Launch} {e : Env} {s : State} {m : MethodId} {args : Array Value} {below : List Frame} {meth : Method} {c : Code} {q : MM} (C : mx_C E p m c cX13_next 4 s args RX13 meth none)  (hT : E.1 = mt)   : ∀ (i1 : Int32) (is1 : Int32) (M : MM) (H : Heap) (locs : List Loc) (ls : Array Slot), fX13_next_145 i1 is1 M = some q → mx_H E s M H locs → lv_has ls 4 [(0, .ref (E.2.1.2.1 0)), (1, .int i1)] → W p l e (mx_rm 1) s m args below meth c H locs 0 0 (mx_Z E below args s none q) (F0 m 145 ls [.int is1, .ref (E.2.1.2.1 0)]) := by
  have hx := C.1.1
  have hb := C.1.2.1
  have hown := C.1.2.2.2.1
  have hts := C.1.2.2.2.2
  intro i1 is1 M H locs ls hf hM hl
  rw [fX13_next_145] at hf
  refine p13_161 C hT hM dX13_next_145 (fun H locs hM => ?_)
  refine lv_aload_n hx hb dX13_next_148 rfl (lv_at hl 0 rfl) ?_
  refine lv_iload_n hx hb dX13_next_149 rfl (lv_at hl 1 rfl) ?_
  refine p13_171 C hT hM dX13_next_150 (fun H locs hM => ?_)
  refine lv_aload_n hx hb dX13_next_153 rfl (lv_at hl 0 rfl) ?_
  refine lv_dup hx hb dX13_next_154 rfl ?_
  refine g13_21 C hT hM dX13_next_155 ?_
  refine lv_iconst (v := (1 : Int32)) hx hb dX13_next_158 (by decide) ?_
  refine lv_iadd hx hb dX13_next_159 ?_
  refine p13_21 C hT hM dX13_next_160 (fun H locs hM => ?_)
  exact mx_vret C hM hf dX13_next_163
set_option maxRecDepth 100000 in
set_option maxHeartbeats 4000000 in
theorem wfX13_next_144 {E : KE} {p : Program} {l : Launch} {e : Env} {s : State} {m : MethodId} {args : Array Value} {below : List Frame} {meth : Method} {c : Code} {q : MM} (C : mx_C E p m c cX13_next 4 s args RX13 meth none)  (hT : E.1 = mt)  (k145 : Int32 → Int32 → MM → Option MM) (hk145 : ∀ (i1 : Int32) (is1 : Int32) (M : MM) (H : Heap) (locs : List Loc) (ls : Array Slot), k145 i1 is1 M = some q → mx_H E s M H locs → lv_has ls 4 [(0, .ref (E.2.1.2.1 0)), (1, .int i1)] → W p l e (mx_rm 1) s m args below meth c H locs 0 0 (mx_Z E below args s none q) (F0 m 145 ls [.int is1, .ref (E.2.1.2.1 0)])) : ∀ (i1 : Int32) (M : MM) (H : Heap) (locs : List Loc) (ls : Array Slot), fX13_next_144 k145 i1 M = some q → mx_H E s M H locs → lv_has ls 4 [(0, .ref (E.2.1.2.1 0)), (1, .int i1)] → W p l e (mx_rm 1) s m args below meth c H locs 0 0 (mx_Z E below args s none q) (F0 m 144 ls [.ref (E.2.1.2.1 0)]) := by
  have hx := C.1.1
  have hb := C.1.2.1
  have hown := C.1.2.2.2.1
  have hts := C.1.2.2.2.2
  intro i1 M H locs ls hf hM hl
  rw [fX13_next_144] at hf
  refine lv_iconst (v := (4 : Int32)) hx hb dX13_next_144 (by decide) ?_
  exact hk145 i1 (4 : Int32) M _ _ _ hf hM (lv_sub hl [0, 1] rfl)
set_option maxRecDepth 100000 in
set_option maxHeartbeats 4000000 in
theorem wfX13_next_140 {E : KE} {p : Program} {l : Launch} {e : Env} {s : State} {m : MethodId} {args : Array Value} {below : List Frame} {meth : Method} {c : Code} {q : MM} (C : mx_C E p m c cX13_next 4 s args RX13 meth none)  (hT : E.1 = mt)  (k145 : Int32 → Int32 → MM → Option MM) (hk145 : ∀ (i1 : Int32) (is1 : Int32) (M : MM) (H : Heap) (locs : List Loc) (ls : Array Slot), k145 i1 is1 M = some q → mx_H E s M H locs → lv_has ls 4 [(0, .ref (E.2.1.2.1 0)), (1, .int i1)] → W p l e (mx_rm 1) s m args below meth c H locs 0 0 (mx_Z E below args s none q) (F0 m 145 ls [.int is1, .ref (E.2.1.2.1 0)])) : ∀ (i1 : Int32) (M : MM) (H : Heap) (locs : List Loc) (ls : Array Slot), fX13_next_140 k145 i1 M = some q → mx_H E s M H locs → lv_has ls 4 [(0, .ref (E.2.1.2.1 0)), (1, .int i1)] → W p l e (mx_rm 1) s m args below meth c H locs 0 0 (mx_Z E below args s none q) (F0 m 140 ls [.ref (E.2.1.2.1 0)]) := by
  have hx := C.1.1
  have hb := C.1.2.1
  have hown := C.1.2.2.2.1
  have hts := C.1.2.2.2.2
  intro i1 M H locs ls hf hM hl
  rw [fX13_next_140] at hf
  refine lv_iconst (v := (3 : Int32)) hx hb dX13_next_140 (by decide) ?_
  refine lv_goto (tgt := 145) hx hb dX13_next_141 (by decide) ?_
  exact hk145 i1 (3 : Int32) M _ _ _ hf hM (lv_sub hl [0, 1] rfl)
set_option maxRecDepth 100000 in
set_option maxHeartbeats 4000000 in
theorem wfX13_next_80 {E : KE} {p : Program} {l : Launch} {e : Env} {s : State} {m : MethodId} {args : Array Value} {below : List Frame} {meth : Method} {c : Code} {q : MM} (C : mx_C E p m c cX13_next 4 s args RX13 meth none)  (hT : E.1 = mt)   : ∀ (M : MM) (H : Heap) (locs : List Loc) (ls : Array Slot), fX13_next_80 M = some q → mx_H E s M H locs → lv_has ls 4 [(0, .ref (E.2.1.2.1 0))] → W p l e (mx_rm 1) s m args below meth c H locs 0 0 (mx_Z E below args s none q) (F0 m 80 ls []) := by
  have hx := C.1.1
  have hb := C.1.2.1
  have hown := C.1.2.2.2.1
  have hts := C.1.2.2.2.2
  intro M H locs ls hf hM hl
  rw [fX13_next_80] at hf
  refine lv_aload_n hx hb dX13_next_80 rfl (lv_at hl 0 rfl) ?_
  obtain ⟨q81, hq81, hf⟩ := mx_bd hf
  refine mx_callV C hM hl.1 yo_X13_peek (h' := 0) (by decide) qw_1562 qw_1564 qs_114 (ci := 13) (q := (RX13, TX13, 52)) rfl (mt_0 hT) (As := []) (rest := []) (st1 := [.int q81]) (kX13_peek C.2.2.2.1  hT M hq81) rfl rfl rfl (Nat.le_of_ble_eq_true rfl) dX13_next_81 (fun H locs hM => ?_)
  refine lv_istore_n (lv' := [(1, .int q81), (0, .ref (E.2.1.2.1 0))]) hx hb dX13_next_84 rfl hl (by decide) rfl (fun ls hl => ?_)
  refine lv_iload_n hx hb dX13_next_85 rfl (lv_at hl 0 rfl) ?_
  refine lv_if_ge (tgt := 95) hx hb dX13_next_86 (by decide) (fun hc86 => ?_) (fun hc86 => ?_)
  · replace hf := mx_ift hc86 hf
    refine lv_iload_n hx hb dX13_next_95 rfl (lv_at hl 0 rfl) ?_
    obtain ⟨q96, hq96, hf⟩ := mx_bd hf
    refine mx_callS C hM hl.1 yo_X13_isSmall (h' := 0) (by decide) qw_1566 qw_1567 (As := [.int q81]) (rest := []) (st1 := [.int (mx_b q96)]) (kX13_isSmall C.2.2.2.1 q81 hT M hq96) rfl rfl rfl (Nat.le_of_ble_eq_true rfl) dX13_next_96 (fun H locs hM => ?_)
    refine lv_if_ne (tgt := 164) hx hb dX13_next_99 (by decide) (fun hc99 => ?_) (fun hc99 => ?_)
    · replace hf := mx_iff hc99 hf
      exact wfX13_next_164 C hT q81 M _ _ _ hf hM (lv_sub hl [1, 0] rfl)
    · replace hf := mx_ift hc99 hf
      refine lv_iload_n hx hb dX13_next_102 rfl (lv_at hl 0 rfl) ?_
      obtain ⟨q103, hq103, hf⟩ := mx_bd hf
      refine mx_callS C hM hl.1 yo_X13_isDigit (h' := 0) (by decide) qw_1569 qw_1570 (As := [.int q81]) (rest := []) (st1 := [.int (mx_b q103)]) (kX13_isDigit C.2.2.2.1 q81 hT M hq103) rfl rfl rfl (Nat.le_of_ble_eq_true rfl) dX13_next_103 (fun H locs hM => ?_)
      refine lv_if_ne (tgt := 164) hx hb dX13_next_106 (by decide) (fun hc106 => ?_) (fun hc106 => ?_)
      · replace hf := mx_iff hc106 hf
        exact wfX13_next_164 C hT q81 M _ _ _ hf hM (lv_sub hl [1, 0] rfl)
      · replace hf := mx_ift hc106 hf
        refine lv_aload_n hx hb dX13_next_109 rfl (lv_at hl 1 rfl) ?_
        refine lv_iload_n hx hb dX13_next_110 rfl (lv_at hl 0 rfl) ?_
        refine lv_bipush (v := (59 : Int32)) hx hb dX13_next_111 (by decide) ?_
        refine lv_icmp_eq (tgt := 140) hx hb dX13_next_113 (by decide) (fun hc113 => ?_) (fun hc113 => ?_)
        · replace hf := mx_ift hc113 hf
          exact wfX13_next_140 C hT (fun i1' is1' M' => fX13_next_145 i1' is1' M') (fun i1' is1' M' H locs ls hf hM hl => wfX13_next_145 C hT i1' is1' M' H locs ls hf hM hl) q81 M _ _ _ hf hM (lv_sub hl [1, 0] rfl)
        · replace hf := mx_iff hc113 hf
          refine lv_iload_n hx hb dX13_next_116 rfl (lv_at hl 0 rfl) ?_
          refine lv_bipush (v := (40 : Int32)) hx hb dX13_next_117 (by decide) ?_
          refine lv_icmp_eq (tgt := 140) hx hb dX13_next_119 (by decide) (fun hc119 => ?_) (fun hc119 => ?_)
          · replace hf := mx_ift hc119 hf
            exact wfX13_next_140 C hT (fun i1' is1' M' => fX13_next_145 i1' is1' M') (fun i1' is1' M' H locs ls hf hM hl => wfX13_next_145 C hT i1' is1' M' H locs ls hf hM hl) q81 M _ _ _ hf hM (lv_sub hl [1, 0] rfl)
          · replace hf := mx_iff hc119 hf
            refine lv_iload_n hx hb dX13_next_122 rfl (lv_at hl 0 rfl) ?_
            refine lv_bipush (v := (41 : Int32)) hx hb dX13_next_123 (by decide) ?_
            refine lv_icmp_eq (tgt := 140) hx hb dX13_next_125 (by decide) (fun hc125 => ?_) (fun hc125 => ?_)
            · replace hf := mx_ift hc125 hf
              exact wfX13_next_140 C hT (fun i1' is1' M' => fX13_next_145 i1' is1' M') (fun i1' is1' M' H locs ls hf hM hl => wfX13_next_145 C hT i1' is1' M' H locs ls hf hM hl) q81 M _ _ _ hf hM (lv_sub hl [1, 0] rfl)
            · replace hf := mx_iff hc125 hf
              refine lv_iload_n hx hb dX13_next_128 rfl (lv_at hl 0 rfl) ?_
              refine lv_bipush (v := (60 : Int32)) hx hb dX13_next_129 (by decide) ?_
              refine lv_icmp_lt (tgt := 144) hx hb dX13_next_131 (by decide) (fun hc131 => ?_) (fun hc131 => ?_)
              · replace hf := mx_ift hc131 hf
                exact wfX13_next_144 C hT (fun i1' is1' M' => fX13_next_145 i1' is1' M') (fun i1' is1' M' H locs ls hf hM hl => wfX13_next_145 C hT i1' is1' M' H locs ls hf hM hl) q81 M _ _ _ hf hM (lv_sub hl [1, 0] rfl)
              · replace hf := mx_iff hc131 hf
                refine lv_iload_n hx hb dX13_next_134 rfl (lv_at hl 0 rfl) ?_
                refine lv_bipush (v := (62 : Int32)) hx hb dX13_next_135 (by decide) ?_
                refine lv_icmp_gt (tgt := 144) hx hb dX13_next_137 (by decide) (fun hc137 => ?_) (fun hc137 => ?_)
                · replace hf := mx_ift hc137 hf
                  exact wfX13_next_144 C hT (fun i1' is1' M' => fX13_next_145 i1' is1' M') (fun i1' is1' M' H locs ls hf hM hl => wfX13_next_145 C hT i1' is1' M' H locs ls hf hM hl) q81 M _ _ _ hf hM (lv_sub hl [1, 0] rfl)
                · replace hf := mx_iff hc137 hf
                  exact wfX13_next_140 C hT (fun i1' is1' M' => fX13_next_145 i1' is1' M') (fun i1' is1' M' H locs ls hf hM hl => wfX13_next_145 C hT i1' is1' M' H locs ls hf hM hl) q81 M _ _ _ hf hM (lv_sub hl [1, 0] rfl)
  · replace hf := mx_iff hc86 hf
    refine lv_aload_n hx hb dX13_next_89 rfl (lv_at hl 1 rfl) ?_
    refine lv_iconst (v := (0 : Int32)) hx hb dX13_next_90 (by decide) ?_
    refine p13_161 C hT hM dX13_next_91 (fun H locs hM => ?_)
    exact mx_vret C hM hf dX13_next_94
set_option maxRecDepth 100000 in
set_option maxHeartbeats 4000000 in
theorem wfX13_next_18 {E : KE} {p : Program} {l : Launch} {e : Env} {s : State} {m : MethodId} {args : Array Value} {below : List Frame} {meth : Method} {c : Code} {q : MM} (C : mx_C E p m c cX13_next 4 s args RX13 meth none)  (hT : E.1 = mt)  (k0 : MM → Option MM) (hk0 : ∀  (M : MM) (H : Heap) (locs : List Loc) (ls : Array Slot), k0 M = some q → mx_H E s M H locs → lv_has ls 4 [(0, .ref (E.2.1.2.1 0))] → W p l e (mx_rm 1) s m args below meth c H locs 0 0 (mx_Z E below args s none q) (F0 m 0 ls [])) : ∀ (M : MM) (H : Heap) (locs : List Loc) (ls : Array Slot), fX13_next_18 k0 M = some q → mx_H E s M H locs → lv_has ls 4 [(0, .ref (E.2.1.2.1 0))] → W p l e (mx_rm 1) s m args below meth c H locs 0 0 (mx_Z E below args s none q) (F0 m 18 ls []) := by
  have hx := C.1.1
  have hb := C.1.2.1
  have hown := C.1.2.2.2.1
  have hts := C.1.2.2.2.2
  intro M H locs ls hf hM hl
  rw [fX13_next_18] at hf
  refine lv_aload_n hx hb dX13_next_18 rfl (lv_at hl 0 rfl) ?_
  refine lv_dup hx hb dX13_next_19 rfl ?_
  refine g13_21 C hT hM dX13_next_20 ?_
  refine lv_iconst (v := (1 : Int32)) hx hb dX13_next_23 (by decide) ?_
  refine lv_iadd hx hb dX13_next_24 ?_
  refine p13_21 C hT hM dX13_next_25 (fun H locs hM => ?_)
  refine lv_goto (tgt := 0) hx hb dX13_next_28 (by decide) ?_
  exact hk0 (mx_si M 0 4 ((M.1 0 4) + (1 : Int32))) _ _ _ hf hM (lv_sub hl [0] rfl)
set_option maxRecDepth 100000 in
set_option maxHeartbeats 4000000 in
theorem wfX13_next_0 {E : KE} {p : Program} {l : Launch} {e : Env} {s : State} {m : MethodId} {args : Array Value} {below : List Frame} {meth : Method} {c : Code} {q : MM} (C : mx_C E p m c cX13_next 4 s args RX13 meth none)  (hT : E.1 = mt)   : ∀ (n : Nat) (M : MM) (H : Heap) (locs : List Loc) (ls : Array Slot), fX13_next_0 n M = some q → mx_H E s M H locs → lv_has ls 4 [(0, .ref (E.2.1.2.1 0))] → W p l e (mx_rm 1) s m args below meth c H locs 0 0 (mx_Z E below args s none q) (F0 m 0 ls []) := by
  have hx := C.1.1
  have hb := C.1.2.1
  have hown := C.1.2.2.2.1
  have hts := C.1.2.2.2.2
  intro n
  induction n with
  | zero =>
    intro M H locs ls hf hM hl
    rw [fX13_next_0] at hf
    cases hf
  | succ n ih =>
    intro M H locs ls hf hM hl
    rw [fX13_next_0] at hf
    refine lv_aload_n hx hb dX13_next_0 rfl (lv_at hl 0 rfl) ?_
    obtain ⟨q1, hq1, hf⟩ := mx_bd hf
    refine mx_callV C hM hl.1 yo_X13_peek (h' := 0) (by decide) qw_1562 qw_1564 qs_114 (ci := 13) (q := (RX13, TX13, 52)) rfl (mt_0 hT) (As := []) (rest := []) (st1 := [.int q1]) (kX13_peek C.2.2.2.1  hT M hq1) rfl rfl rfl (Nat.le_of_ble_eq_true rfl) dX13_next_1 (fun H locs hM => ?_)
    refine lv_bipush (v := (32 : Int32)) hx hb dX13_next_4 (by decide) ?_
    refine lv_icmp_eq (tgt := 18) hx hb dX13_next_6 (by decide) (fun hc6 => ?_) (fun hc6 => ?_)
    · replace hf := mx_ift hc6 hf
      exact wfX13_next_18 C hT (fX13_next_0 n) ih M _ _ _ hf hM (lv_sub hl [0] rfl)
    · replace hf := mx_iff hc6 hf
      refine lv_aload_n hx hb dX13_next_9 rfl (lv_at hl 0 rfl) ?_
      obtain ⟨q10, hq10, hf⟩ := mx_bd hf
      refine mx_callV C hM hl.1 yo_X13_peek (h' := 0) (by decide) qw_1562 qw_1564 qs_114 (ci := 13) (q := (RX13, TX13, 52)) rfl (mt_0 hT) (As := []) (rest := []) (st1 := [.int q10]) (kX13_peek C.2.2.2.1  hT M hq10) rfl rfl rfl (Nat.le_of_ble_eq_true rfl) dX13_next_10 (fun H locs hM => ?_)
      refine lv_bipush (v := (10 : Int32)) hx hb dX13_next_13 (by decide) ?_
      refine lv_icmp_ne (tgt := 31) hx hb dX13_next_15 (by decide) (fun hc15 => ?_) (fun hc15 => ?_)
      · replace hf := mx_iff hc15 hf
        refine lv_aload_n hx hb dX13_next_31 rfl (lv_at hl 0 rfl) ?_
        refine lv_aload_n hx hb dX13_next_32 rfl (lv_at hl 0 rfl) ?_
        refine g13_21 C hT hM dX13_next_33 ?_
        refine p13_155 C hT hM dX13_next_36 (fun H locs hM => ?_)
        refine lv_aload_n hx hb dX13_next_39 rfl (lv_at hl 0 rfl) ?_
        refine lv_iconst (v := (0 : Int32)) hx hb dX13_next_40 (by decide) ?_
        refine p13_158 C hT hM dX13_next_41 (fun H locs hM => ?_)
        refine lv_aload_n hx hb dX13_next_44 rfl (lv_at hl 0 rfl) ?_
        refine g13_18 C hT hM dX13_next_45 ?_
        refine lv_aload_n hx hb dX13_next_48 rfl (lv_at hl 0 rfl) ?_
        refine g13_24 C hT hM dX13_next_49 ?_
        refine lv_icmp_le (tgt := 80) hx hb dX13_next_52 (by decide) (fun hc52 => ?_) (fun hc52 => ?_)
        · replace hf := mx_ift hc52 hf
          exact wfX13_next_80 C hT (mx_si (mx_si M 0 12 (M.1 0 4)) 0 13 (0 : Int32)) _ _ _ hf hM (lv_sub hl [0] rfl)
        · replace hf := mx_iff hc52 hf
          refine lv_aload_n hx hb dX13_next_55 rfl (lv_at hl 0 rfl) ?_
          refine g13_21 C hT hM dX13_next_56 ?_
          refine lv_aload_n hx hb dX13_next_59 rfl (lv_at hl 0 rfl) ?_
          refine g13_24 C hT hM dX13_next_60 ?_
          refine lv_icmp_lt (tgt := 80) hx hb dX13_next_63 (by decide) (fun hc63 => ?_) (fun hc63 => ?_)
          · replace hf := mx_ift hc63 hf
            exact wfX13_next_80 C hT (mx_si (mx_si M 0 12 (M.1 0 4)) 0 13 (0 : Int32)) _ _ _ hf hM (lv_sub hl [0] rfl)
          · replace hf := mx_iff hc63 hf
            refine lv_aload_n hx hb dX13_next_66 rfl (lv_at hl 0 rfl) ?_
            refine lv_aload_n hx hb dX13_next_67 rfl (lv_at hl 0 rfl) ?_
            refine g13_24 C hT hM dX13_next_68 ?_
            refine p13_155 C hT hM dX13_next_71 (fun H locs hM => ?_)
            refine lv_aload_n hx hb dX13_next_74 rfl (lv_at hl 0 rfl) ?_
            refine lv_iconst (v := (4 : Int32)) hx hb dX13_next_75 (by decide) ?_
            refine p13_161 C hT hM dX13_next_76 (fun H locs hM => ?_)
            exact mx_vret C hM hf dX13_next_79
      · replace hf := mx_ift hc15 hf
        exact wfX13_next_18 C hT (fX13_next_0 n) ih M _ _ _ hf hM (lv_sub hl [0] rfl)
set_option maxRecDepth 100000 in
set_option maxHeartbeats 4000000 in
theorem kX13_next {E : KE} {l : Launch} (hE : mx_ok E)  (hT : E.1 = mt) (M : MM) {q : MM} (hf : fX13_next M = some q) : mx_Met E l yX13_next cX13_next 4 none 1 [.ref (E.2.1.2.1 0)] M none q := by
  refine mx_enter hE (by decide) (Nat.le_of_ble_eq_true rfl) ?_
  intro p e s m below meth c C hM hn ls hl
  have hx := C.1.1
  have hb := C.1.2.1
  have hown := C.1.2.2.2.1
  have hts := C.1.2.2.2.2
  have hl : lv_has ls 4 [(0, .ref (E.2.1.2.1 0))] := hl
  rw [fX13_next] at hf
  exact wfX13_next_0 C hT mx_fu M _ _ _ hf hM (lv_sub hl [0] rfl)
theorem dX13_bad_0 : decode cX13_bad 0 = .ok (.aload_n 0, 1) := by decide +kernel
theorem dX13_bad_1 : decode cX13_bad 1 = .ok (.iload_n 1, 1) := by decide +kernel
theorem dX13_bad_2 : decode cX13_bad 2 = .ok (.putfield 178, 3) := by decide +kernel
theorem dX13_bad_5 : decode cX13_bad 5 = .ok (.aload_n 0, 1) := by decide +kernel
theorem dX13_bad_6 : decode cX13_bad 6 = .ok (.aload_n 0, 1) := by decide +kernel
theorem dX13_bad_7 : decode cX13_bad 7 = .ok (.getfield 155, 3) := by decide +kernel
theorem dX13_bad_10 : decode cX13_bad 10 = .ok (.putfield 181, 3) := by decide +kernel
theorem dX13_bad_13 : decode cX13_bad 13 = .ok (.iconst 0, 1) := by decide +kernel
theorem dX13_bad_14 : decode cX13_bad 14 = .ok (.ireturn, 1) := by decide +kernel
set_option maxRecDepth 100000 in
set_option maxHeartbeats 4000000 in
theorem kX13_bad {E : KE} {l : Launch} (hE : mx_ok E) (i1 : Int32) (hT : E.1 = mt) (M : MM) {q : (Bool × MM)} (hf : fX13_bad i1 M = some q) : mx_Met E l yX13_bad cX13_bad 2 (some .boolean) 0 [.ref (E.2.1.2.1 0), .int i1] M (some (.int (mx_b q.1))) q.2 := by
  refine mx_enter hE (by decide) (Nat.le_of_ble_eq_true rfl) ?_
  intro p e s m below meth c C hM hn ls hl
  have hx := C.1.1
  have hb := C.1.2.1
  have hown := C.1.2.2.2.1
  have hts := C.1.2.2.2.2
  have hl : lv_has ls 2 [(0, .ref (E.2.1.2.1 0)), (1, .int i1)] := hl
  rw [fX13_bad] at hf
  refine lv_aload_n hx hb dX13_bad_0 rfl (lv_at hl 0 rfl) ?_
  refine lv_iload_n hx hb dX13_bad_1 rfl (lv_at hl 1 rfl) ?_
  refine p13_178 C hT hM dX13_bad_2 (fun H locs hM => ?_)
  refine lv_aload_n hx hb dX13_bad_5 rfl (lv_at hl 0 rfl) ?_
  refine lv_aload_n hx hb dX13_bad_6 rfl (lv_at hl 0 rfl) ?_
  refine g13_155 C hT hM dX13_bad_7 ?_
  refine p13_181 C hT hM dX13_bad_10 (fun H locs hM => ?_)
  refine lv_iconst (v := (0 : Int32)) hx hb dX13_bad_13 (by decide) ?_
  exact mx_zret C hM (b := false) rfl hf dX13_bad_14
theorem dX13_isWord_0 : decode cX13_isWord 0 = .ok (.aload_n 0, 1) := by decide +kernel
theorem dX13_isWord_1 : decode cX13_isWord 1 = .ok (.getfield 161, 3) := by decide +kernel
theorem dX13_isWord_4 : decode cX13_isWord 4 = .ok (.iconst 1, 1) := by decide +kernel
theorem dX13_isWord_5 : decode cX13_isWord 5 = .ok (.if_icmp .ne 16, 3) := by decide +kernel
theorem dX13_isWord_8 : decode cX13_isWord 8 = .ok (.aload_n 0, 1) := by decide +kernel
theorem dX13_isWord_9 : decode cX13_isWord 9 = .ok (.getfield 174, 3) := by decide +kernel
theorem dX13_isWord_12 : decode cX13_isWord 12 = .ok (.lload_n 1, 1) := by decide +kernel
theorem dX13_isWord_13 : decode cX13_isWord 13 = .ok (.lcmp, 1) := by decide +kernel
theorem dX13_isWord_14 : decode cX13_isWord 14 = .ok (.ifCond .ne 7, 3) := by decide +kernel
theorem dX13_isWord_17 : decode cX13_isWord 17 = .ok (.iconst 1, 1) := by decide +kernel
theorem dX13_isWord_18 : decode cX13_isWord 18 = .ok (.goto 4, 3) := by decide +kernel
theorem dX13_isWord_21 : decode cX13_isWord 21 = .ok (.iconst 0, 1) := by decide +kernel
theorem dX13_isWord_22 : decode cX13_isWord 22 = .ok (.ireturn, 1) := by decide +kernel
set_option maxRecDepth 100000 in
set_option maxHeartbeats 4000000 in
theorem kX13_isWord {E : KE} {l : Launch} (hE : mx_ok E) (l1 : Int64) (hT : E.1 = mt) (M : MM) {q : Bool} (hf : fX13_isWord l1 M = some q) : mx_Met E l yX13_isWord cX13_isWord 3 (some .boolean) 0 [.ref (E.2.1.2.1 0), .long l1] M (some (.int (mx_b q))) M := by
  refine mx_enter hE (by decide) (Nat.le_of_ble_eq_true rfl) ?_
  intro p e s m below meth c C hM hn ls hl
  have hx := C.1.1
  have hb := C.1.2.1
  have hown := C.1.2.2.2.1
  have hts := C.1.2.2.2.2
  have hl : lv_has ls 3 [(0, .ref (E.2.1.2.1 0)), (1, .long l1)] := hl
  rw [fX13_isWord] at hf
  refine lv_aload_n hx hb dX13_isWord_0 rfl (lv_at hl 0 rfl) ?_
  refine g13_161 C hT hM dX13_isWord_1 ?_
  refine lv_iconst (v := (1 : Int32)) hx hb dX13_isWord_4 (by decide) ?_
  refine lv_icmp_ne (tgt := 21) hx hb dX13_isWord_5 (by decide) (fun hc5 => ?_) (fun hc5 => ?_)
  · replace hf := mx_iff hc5 hf
    refine lv_iconst (v := (0 : Int32)) hx hb dX13_isWord_21 (by decide) ?_
    exact mx_zretR C hM (b := false) rfl hf dX13_isWord_22
  · replace hf := mx_ift hc5 hf
    refine lv_aload_n hx hb dX13_isWord_8 rfl (lv_at hl 0 rfl) ?_
    refine g13_174 C hT hM dX13_isWord_9 ?_
    refine lv_lload_n hx hb dX13_isWord_12 rfl (lv_at hl 1 rfl) ?_
    refine W.lcmp hx hb dX13_isWord_13 ?_
    refine lv_if_ne (tgt := 21) hx hb dX13_isWord_14 (by decide) (fun hc14 => ?_) (fun hc14 => ?_)
    · replace hf := mx_iff hc14 hf
      refine lv_iconst (v := (0 : Int32)) hx hb dX13_isWord_21 (by decide) ?_
      exact mx_zretR C hM (b := false) rfl hf dX13_isWord_22
    · replace hf := mx_ift hc14 hf
      refine lv_iconst (v := (1 : Int32)) hx hb dX13_isWord_17 (by decide) ?_
      refine lv_goto (tgt := 22) hx hb dX13_isWord_18 (by decide) ?_
      exact mx_zretR C hM (b := true) rfl hf dX13_isWord_22
theorem dX13_isSign_0 : decode cX13_isSign 0 = .ok (.aload_n 0, 1) := by decide +kernel
theorem dX13_isSign_1 : decode cX13_isSign 1 = .ok (.getfield 161, 3) := by decide +kernel
theorem dX13_isSign_4 : decode cX13_isSign 4 = .ok (.iconst 3, 1) := by decide +kernel
theorem dX13_isSign_5 : decode cX13_isSign 5 = .ok (.if_icmp .ne 15, 3) := by decide +kernel
theorem dX13_isSign_8 : decode cX13_isSign 8 = .ok (.aload_n 0, 1) := by decide +kernel
theorem dX13_isSign_9 : decode cX13_isSign 9 = .ok (.getfield 171, 3) := by decide +kernel
theorem dX13_isSign_12 : decode cX13_isSign 12 = .ok (.iload_n 1, 1) := by decide +kernel
theorem dX13_isSign_13 : decode cX13_isSign 13 = .ok (.if_icmp .ne 7, 3) := by decide +kernel
theorem dX13_isSign_16 : decode cX13_isSign 16 = .ok (.iconst 1, 1) := by decide +kernel
theorem dX13_isSign_17 : decode cX13_isSign 17 = .ok (.goto 4, 3) := by decide +kernel
theorem dX13_isSign_20 : decode cX13_isSign 20 = .ok (.iconst 0, 1) := by decide +kernel
theorem dX13_isSign_21 : decode cX13_isSign 21 = .ok (.ireturn, 1) := by decide +kernel
set_option maxRecDepth 100000 in
set_option maxHeartbeats 4000000 in
theorem kX13_isSign {E : KE} {l : Launch} (hE : mx_ok E) (i1 : Int32) (hT : E.1 = mt) (M : MM) {q : Bool} (hf : fX13_isSign i1 M = some q) : mx_Met E l yX13_isSign cX13_isSign 2 (some .boolean) 0 [.ref (E.2.1.2.1 0), .int i1] M (some (.int (mx_b q))) M := by
  refine mx_enter hE (by decide) (Nat.le_of_ble_eq_true rfl) ?_
  intro p e s m below meth c C hM hn ls hl
  have hx := C.1.1
  have hb := C.1.2.1
  have hown := C.1.2.2.2.1
  have hts := C.1.2.2.2.2
  have hl : lv_has ls 2 [(0, .ref (E.2.1.2.1 0)), (1, .int i1)] := hl
  rw [fX13_isSign] at hf
  refine lv_aload_n hx hb dX13_isSign_0 rfl (lv_at hl 0 rfl) ?_
  refine g13_161 C hT hM dX13_isSign_1 ?_
  refine lv_iconst (v := (3 : Int32)) hx hb dX13_isSign_4 (by decide) ?_
  refine lv_icmp_ne (tgt := 20) hx hb dX13_isSign_5 (by decide) (fun hc5 => ?_) (fun hc5 => ?_)
  · replace hf := mx_iff hc5 hf
    refine lv_iconst (v := (0 : Int32)) hx hb dX13_isSign_20 (by decide) ?_
    exact mx_zretR C hM (b := false) rfl hf dX13_isSign_21
  · replace hf := mx_ift hc5 hf
    refine lv_aload_n hx hb dX13_isSign_8 rfl (lv_at hl 0 rfl) ?_
    refine g13_171 C hT hM dX13_isSign_9 ?_
    refine lv_iload_n hx hb dX13_isSign_12 rfl (lv_at hl 1 rfl) ?_
    refine lv_icmp_ne (tgt := 20) hx hb dX13_isSign_13 (by decide) (fun hc13 => ?_) (fun hc13 => ?_)
    · replace hf := mx_iff hc13 hf
      refine lv_iconst (v := (0 : Int32)) hx hb dX13_isSign_20 (by decide) ?_
      exact mx_zretR C hM (b := false) rfl hf dX13_isSign_21
    · replace hf := mx_ift hc13 hf
      refine lv_iconst (v := (1 : Int32)) hx hb dX13_isSign_16 (by decide) ?_
      refine lv_goto (tgt := 21) hx hb dX13_isSign_17 (by decide) ?_
      exact mx_zretR C hM (b := true) rfl hf dX13_isSign_21
theorem dX13_sign_0 : decode cX13_sign 0 = .ok (.aload_n 0, 1) := by decide +kernel
theorem dX13_sign_1 : decode cX13_sign 1 = .ok (.iload_n 1, 1) := by decide +kernel
theorem dX13_sign_2 : decode cX13_sign 2 = .ok (.invokevirtual 184, 3) := by decide +kernel
theorem dX13_sign_5 : decode cX13_sign 5 = .ok (.ifCond .ne 9, 3) := by decide +kernel
theorem dX13_sign_8 : decode cX13_sign 8 = .ok (.aload_n 0, 1) := by decide +kernel
theorem dX13_sign_9 : decode cX13_sign 9 = .ok (.iconst 1, 1) := by decide +kernel
theorem dX13_sign_10 : decode cX13_sign 10 = .ok (.invokevirtual 187, 3) := by decide +kernel
theorem dX13_sign_13 : decode cX13_sign 13 = .ok (.ireturn, 1) := by decide +kernel
theorem dX13_sign_14 : decode cX13_sign 14 = .ok (.aload_n 0, 1) := by decide +kernel
theorem dX13_sign_15 : decode cX13_sign 15 = .ok (.invokevirtual 190, 3) := by decide +kernel
theorem dX13_sign_18 : decode cX13_sign 18 = .ok (.iconst 1, 1) := by decide +kernel
theorem dX13_sign_19 : decode cX13_sign 19 = .ok (.ireturn, 1) := by decide +kernel
set_option maxRecDepth 100000 in
set_option maxHeartbeats 4000000 in
theorem kX13_sign {E : KE} {l : Launch} (hE : mx_ok E) (i1 : Int32) (hT : E.1 = mt) (M : MM) {q : (Bool × MM)} (hf : fX13_sign i1 M = some q) : mx_Met E l yX13_sign cX13_sign 2 (some .boolean) 2 [.ref (E.2.1.2.1 0), .int i1] M (some (.int (mx_b q.1))) q.2 := by
  refine mx_enter hE (by decide) (Nat.le_of_ble_eq_true rfl) ?_
  intro p e s m below meth c C hM hn ls hl
  have hx := C.1.1
  have hb := C.1.2.1
  have hown := C.1.2.2.2.1
  have hts := C.1.2.2.2.2
  have hl : lv_has ls 2 [(0, .ref (E.2.1.2.1 0)), (1, .int i1)] := hl
  rw [fX13_sign] at hf
  refine lv_aload_n hx hb dX13_sign_0 rfl (lv_at hl 0 rfl) ?_
  refine lv_iload_n hx hb dX13_sign_1 rfl (lv_at hl 1 rfl) ?_
  obtain ⟨q2, hq2, hf⟩ := mx_bd hf
  refine mx_callV C hM hl.1 yo_X13_isSign (h' := 0) (by decide) qw_1634 qw_1636 qs_129 (ci := 13) (q := (RX13, TX13, 52)) rfl (mt_0 hT) (As := [.int i1]) (rest := []) (st1 := [.int (mx_b q2)]) (kX13_isSign C.2.2.2.1 i1 hT M hq2) rfl rfl rfl (Nat.le_of_ble_eq_true rfl) dX13_sign_2 (fun H locs hM => ?_)
  refine lv_if_ne (tgt := 14) hx hb dX13_sign_5 (by decide) (fun hc5 => ?_) (fun hc5 => ?_)
  · replace hf := mx_iff hc5 hf
    refine lv_aload_n hx hb dX13_sign_14 rfl (lv_at hl 0 rfl) ?_
    obtain ⟨q15, hq15, hf⟩ := mx_bd hf
    refine mx_callV C hM hl.1 yo_X13_next (h' := 1) (by decide) qw_1558 qw_1560 qs_113 (ci := 13) (q := (RX13, TX13, 52)) rfl (mt_0 hT) (As := []) (rest := []) (st1 := []) (kX13_next C.2.2.2.1  hT M hq15) rfl rfl rfl (Nat.le_of_ble_eq_true rfl) dX13_sign_15 (fun H locs hM => ?_)
    refine lv_iconst (v := (1 : Int32)) hx hb dX13_sign_18 (by decide) ?_
    exact mx_zret C hM (b := true) rfl hf dX13_sign_19
  · replace hf := mx_ift hc5 hf
    refine lv_aload_n hx hb dX13_sign_8 rfl (lv_at hl 0 rfl) ?_
    refine lv_iconst (v := (1 : Int32)) hx hb dX13_sign_9 (by decide) ?_
    obtain ⟨q10, hq10, hf⟩ := mx_bd hf
    refine mx_callV C hM hl.1 yo_X13_bad (h' := 0) (by decide) qw_1584 qw_1586 qs_118 (ci := 13) (q := (RX13, TX13, 52)) rfl (mt_0 hT) (As := [.int (1 : Int32)]) (rest := []) (st1 := [.int (mx_b q10.1)]) (kX13_bad C.2.2.2.1 (1 : Int32) hT M hq10) rfl rfl rfl (Nat.le_of_ble_eq_true rfl) dX13_sign_10 (fun H locs hM => ?_)
    exact mx_zret C hM (b := q10.1) rfl hf dX13_sign_13
theorem dX13_isName_0 : decode cX13_isName 0 = .ok (.aload_n 0, 1) := by decide +kernel
theorem dX13_isName_1 : decode cX13_isName 1 = .ok (.getfield 161, 3) := by decide +kernel
theorem dX13_isName_4 : decode cX13_isName 4 = .ok (.iconst 1, 1) := by decide +kernel
theorem dX13_isName_5 : decode cX13_isName 5 = .ok (.if_icmp .ne 7, 3) := by decide +kernel
theorem dX13_isName_8 : decode cX13_isName 8 = .ok (.iconst 1, 1) := by decide +kernel
theorem dX13_isName_9 : decode cX13_isName 9 = .ok (.goto 4, 3) := by decide +kernel
theorem dX13_isName_12 : decode cX13_isName 12 = .ok (.iconst 0, 1) := by decide +kernel
theorem dX13_isName_13 : decode cX13_isName 13 = .ok (.istore_n 1, 1) := by decide +kernel
theorem dX13_isName_14 : decode cX13_isName 14 = .ok (.iconst 0, 1) := by decide +kernel
theorem dX13_isName_15 : decode cX13_isName 15 = .ok (.istore_n 2, 1) := by decide +kernel
theorem dX13_isName_16 : decode cX13_isName 16 = .ok (.iload_n 2, 1) := by decide +kernel
theorem dX13_isName_17 : decode cX13_isName 17 = .ok (.bipush 23, 2) := by decide +kernel
theorem dX13_isName_19 : decode cX13_isName 19 = .ok (.if_icmp .ge 33, 3) := by decide +kernel
theorem dX13_isName_22 : decode cX13_isName 22 = .ok (.iload_n 1, 1) := by decide +kernel
theorem dX13_isName_23 : decode cX13_isName 23 = .ok (.ifCond .eq 21, 3) := by decide +kernel
theorem dX13_isName_26 : decode cX13_isName 26 = .ok (.aload_n 0, 1) := by decide +kernel
theorem dX13_isName_27 : decode cX13_isName 27 = .ok (.getfield 174, 3) := by decide +kernel
theorem dX13_isName_30 : decode cX13_isName 30 = .ok (.aload_n 0, 1) := by decide +kernel
theorem dX13_isName_31 : decode cX13_isName 31 = .ok (.getfield 47, 3) := by decide +kernel
theorem dX13_isName_34 : decode cX13_isName 34 = .ok (.iload_n 2, 1) := by decide +kernel
theorem dX13_isName_35 : decode cX13_isName 35 = .ok (.laload, 1) := by decide +kernel
theorem dX13_isName_36 : decode cX13_isName 36 = .ok (.lcmp, 1) := by decide +kernel
theorem dX13_isName_37 : decode cX13_isName 37 = .ok (.ifCond .eq 7, 3) := by decide +kernel
theorem dX13_isName_40 : decode cX13_isName 40 = .ok (.iconst 1, 1) := by decide +kernel
theorem dX13_isName_41 : decode cX13_isName 41 = .ok (.goto 4, 3) := by decide +kernel
theorem dX13_isName_44 : decode cX13_isName 44 = .ok (.iconst 0, 1) := by decide +kernel
theorem dX13_isName_45 : decode cX13_isName 45 = .ok (.istore_n 1, 1) := by decide +kernel
theorem dX13_isName_46 : decode cX13_isName 46 = .ok (.iinc 2 1, 3) := by decide +kernel
theorem dX13_isName_49 : decode cX13_isName 49 = .ok (.goto (-33), 3) := by decide +kernel
theorem dX13_isName_52 : decode cX13_isName 52 = .ok (.iload_n 1, 1) := by decide +kernel
theorem dX13_isName_53 : decode cX13_isName 53 = .ok (.ireturn, 1) := by decide +kernel
set_option maxRecDepth 100000 in
set_option maxHeartbeats 4000000 in
theorem wfX13_isName_16 {E : KE} {p : Program} {l : Launch} {e : Env} {s : State} {m : MethodId} {args : Array Value} {below : List Frame} {meth : Method} {c : Code} {q : Bool} (C : mx_C E p m c cX13_isName 3 s args RX13 meth (some .boolean)) (M : MM) (hT : E.1 = mt)   : ∀ (n : Nat) (b1 : Bool) (i2 : Int32) (H : Heap) (locs : List Loc) (ls : Array Slot), fX13_isName_16 M n b1 i2 = some q → mx_H E s M H locs → lv_has ls 3 [(0, .ref (E.2.1.2.1 0)), (1, .int (mx_b b1)), (2, .int i2)] → W p l e (mx_rm 0) s m args below meth c H locs 0 0 (mx_Z E below args s (some (.int (mx_b q))) M) (F0 m 16 ls []) := by
  have hx := C.1.1
  have hb := C.1.2.1
  have hown := C.1.2.2.2.1
  have hts := C.1.2.2.2.2
  intro n
  induction n with
  | zero =>
    intro b1 i2 H locs ls hf hM hl
    rw [fX13_isName_16] at hf
    cases hf
  | succ n ih =>
    intro b1 i2 H locs ls hf hM hl
    rw [fX13_isName_16] at hf
    refine lv_iload_n hx hb dX13_isName_16 rfl (lv_at hl 2 rfl) ?_
    refine lv_bipush (v := (23 : Int32)) hx hb dX13_isName_17 (by decide) ?_
    refine lv_icmp_ge (tgt := 52) hx hb dX13_isName_19 (by decide) (fun hc19 => ?_) (fun hc19 => ?_)
    · replace hf := mx_ift hc19 hf
      refine lv_iload_n hx hb dX13_isName_52 rfl (lv_at hl 1 rfl) ?_
      exact mx_zretR C hM (b := b1) rfl hf dX13_isName_53
    · replace hf := mx_iff hc19 hf
      refine lv_iload_n hx hb dX13_isName_22 rfl (lv_at hl 1 rfl) ?_
      refine lv_if_eq (tgt := 44) hx hb dX13_isName_23 (by decide) (fun hc23 => ?_) (fun hc23 => ?_)
      · replace hf := mx_ift hc23 hf
        refine lv_iconst (v := (0 : Int32)) hx hb dX13_isName_44 (by decide) ?_
        refine lv_istore_n (lv' := [(1, .int (0 : Int32)), (0, .ref (E.2.1.2.1 0)), (2, .int i2)]) hx hb dX13_isName_45 rfl hl (by decide) rfl (fun ls hl => ?_)
        refine lv_iinc (v := (i2 + (1 : Int32))) (lv' := [(2, .int (i2 + (1 : Int32))), (1, .int (0 : Int32)), (0, .ref (E.2.1.2.1 0))]) hx hb dX13_isName_46 hl (k := 2) rfl rfl (by decide) rfl (fun ls hl => ?_)
        refine lv_goto (tgt := 16) hx hb dX13_isName_49 (by decide) ?_
        exact ih false (i2 + (1 : Int32)) _ _ _ hf hM (lv_sub hl [2, 1, 0] rfl)
      · replace hf := mx_iff hc23 hf
        refine lv_aload_n hx hb dX13_isName_26 rfl (lv_at hl 0 rfl) ?_
        refine g13_174 C hT hM dX13_isName_27 ?_
        refine lv_aload_n hx hb dX13_isName_30 rfl (lv_at hl 0 rfl) ?_
        refine g13_47 C hT hM dX13_isName_31 ?_
        refine lv_iload_n hx hb dX13_isName_34 rfl (lv_at hl 2 rfl) ?_
        obtain ⟨hg35, hf⟩ := mx_gd hf
        refine mx_lald C hM (mt_6 hT) (mx_in_vp hg35) dX13_isName_35 ?_
        refine W.lcmp hx hb dX13_isName_36 ?_
        refine lv_if_eq (tgt := 44) hx hb dX13_isName_37 (by decide) (fun hc37 => ?_) (fun hc37 => ?_)
        · replace hf := mx_ift hc37 hf
          refine lv_iconst (v := (0 : Int32)) hx hb dX13_isName_44 (by decide) ?_
          refine lv_istore_n (lv' := [(1, .int (0 : Int32)), (0, .ref (E.2.1.2.1 0)), (2, .int i2)]) hx hb dX13_isName_45 rfl hl (by decide) rfl (fun ls hl => ?_)
          refine lv_iinc (v := (i2 + (1 : Int32))) (lv' := [(2, .int (i2 + (1 : Int32))), (1, .int (0 : Int32)), (0, .ref (E.2.1.2.1 0))]) hx hb dX13_isName_46 hl (k := 2) rfl rfl (by decide) rfl (fun ls hl => ?_)
          refine lv_goto (tgt := 16) hx hb dX13_isName_49 (by decide) ?_
          exact ih false (i2 + (1 : Int32)) _ _ _ hf hM (lv_sub hl [2, 1, 0] rfl)
        · replace hf := mx_iff hc37 hf
          refine lv_iconst (v := (1 : Int32)) hx hb dX13_isName_40 (by decide) ?_
          refine lv_goto (tgt := 45) hx hb dX13_isName_41 (by decide) ?_
          refine lv_istore_n (lv' := [(1, .int (1 : Int32)), (0, .ref (E.2.1.2.1 0)), (2, .int i2)]) hx hb dX13_isName_45 rfl hl (by decide) rfl (fun ls hl => ?_)
          refine lv_iinc (v := (i2 + (1 : Int32))) (lv' := [(2, .int (i2 + (1 : Int32))), (1, .int (1 : Int32)), (0, .ref (E.2.1.2.1 0))]) hx hb dX13_isName_46 hl (k := 2) rfl rfl (by decide) rfl (fun ls hl => ?_)
          refine lv_goto (tgt := 16) hx hb dX13_isName_49 (by decide) ?_
          exact ih true (i2 + (1 : Int32)) _ _ _ hf hM (lv_sub hl [2, 1, 0] rfl)
set_option maxRecDepth 100000 in
set_option maxHeartbeats 4000000 in
theorem kX13_isName {E : KE} {l : Launch} (hE : mx_ok E)  (hT : E.1 = mt) (M : MM) {q : Bool} (hf : fX13_isName M = some q) : mx_Met E l yX13_isName cX13_isName 3 (some .boolean) 0 [.ref (E.2.1.2.1 0)] M (some (.int (mx_b q))) M := by
  refine mx_enter hE (by decide) (Nat.le_of_ble_eq_true rfl) ?_
  intro p e s m below meth c C hM hn ls hl
  have hx := C.1.1
  have hb := C.1.2.1
  have hown := C.1.2.2.2.1
  have hts := C.1.2.2.2.2
  have hl : lv_has ls 3 [(0, .ref (E.2.1.2.1 0))] := hl
  rw [fX13_isName] at hf
  refine lv_aload_n hx hb dX13_isName_0 rfl (lv_at hl 0 rfl) ?_
  refine g13_161 C hT hM dX13_isName_1 ?_
  refine lv_iconst (v := (1 : Int32)) hx hb dX13_isName_4 (by decide) ?_
  refine lv_icmp_ne (tgt := 12) hx hb dX13_isName_5 (by decide) (fun hc5 => ?_) (fun hc5 => ?_)
  · replace hf := mx_iff hc5 hf
    refine lv_iconst (v := (0 : Int32)) hx hb dX13_isName_12 (by decide) ?_
    refine lv_istore_n (lv' := [(1, .int (0 : Int32)), (0, .ref (E.2.1.2.1 0))]) hx hb dX13_isName_13 rfl hl (by decide) rfl (fun ls hl => ?_)
    refine lv_iconst (v := (0 : Int32)) hx hb dX13_isName_14 (by decide) ?_
    refine lv_istore_n (lv' := [(2, .int (0 : Int32)), (1, .int (0 : Int32)), (0, .ref (E.2.1.2.1 0))]) hx hb dX13_isName_15 rfl hl (by decide) rfl (fun ls hl => ?_)
    exact wfX13_isName_16 C M hT mx_fu false (0 : Int32) _ _ _ hf hM (lv_sub hl [2, 1, 0] rfl)
  · replace hf := mx_ift hc5 hf
    refine lv_iconst (v := (1 : Int32)) hx hb dX13_isName_8 (by decide) ?_
    refine lv_goto (tgt := 13) hx hb dX13_isName_9 (by decide) ?_
    refine lv_istore_n (lv' := [(1, .int (1 : Int32)), (0, .ref (E.2.1.2.1 0))]) hx hb dX13_isName_13 rfl hl (by decide) rfl (fun ls hl => ?_)
    refine lv_iconst (v := (0 : Int32)) hx hb dX13_isName_14 (by decide) ?_
    refine lv_istore_n (lv' := [(2, .int (0 : Int32)), (1, .int (1 : Int32)), (0, .ref (E.2.1.2.1 0))]) hx hb dX13_isName_15 rfl hl (by decide) rfl (fun ls hl => ?_)
    exact wfX13_isName_16 C M hT mx_fu true (0 : Int32) _ _ _ hf hM (lv_sub hl [2, 1, 0] rfl)
theorem dX13_takes_0 : decode cX13_takes 0 = .ok (.aload_n 0, 1) := by decide +kernel
theorem dX13_takes_1 : decode cX13_takes 1 = .ok (.getfield 161, 3) := by decide +kernel
theorem dX13_takes_4 : decode cX13_takes 4 = .ok (.iconst 2, 1) := by decide +kernel
theorem dX13_takes_5 : decode cX13_takes 5 = .ok (.if_icmp .eq 9, 3) := by decide +kernel
theorem dX13_takes_8 : decode cX13_takes 8 = .ok (.aload_n 0, 1) := by decide +kernel
theorem dX13_takes_9 : decode cX13_takes 9 = .ok (.iconst 1, 1) := by decide +kernel
theorem dX13_takes_10 : decode cX13_takes 10 = .ok (.invokevirtual 187, 3) := by decide +kernel
theorem dX13_takes_13 : decode cX13_takes 13 = .ok (.ireturn, 1) := by decide +kernel
theorem dX13_takes_14 : decode cX13_takes 14 = .ok (.aload_n 0, 1) := by decide +kernel
theorem dX13_takes_15 : decode cX13_takes 15 = .ok (.getfield 171, 3) := by decide +kernel
theorem dX13_takes_18 : decode cX13_takes 18 = .ok (.iload_n 1, 1) := by decide +kernel
theorem dX13_takes_19 : decode cX13_takes 19 = .ok (.iload_n 2, 1) := by decide +kernel
theorem dX13_takes_20 : decode cX13_takes 20 = .ok (.invokestatic 193, 3) := by decide +kernel
theorem dX13_takes_23 : decode cX13_takes 23 = .ok (.ifCond .ne 9, 3) := by decide +kernel
theorem dX13_takes_26 : decode cX13_takes 26 = .ok (.aload_n 0, 1) := by decide +kernel
theorem dX13_takes_27 : decode cX13_takes 27 = .ok (.iconst 2, 1) := by decide +kernel
theorem dX13_takes_28 : decode cX13_takes 28 = .ok (.invokevirtual 187, 3) := by decide +kernel
theorem dX13_takes_31 : decode cX13_takes 31 = .ok (.ireturn, 1) := by decide +kernel
theorem dX13_takes_32 : decode cX13_takes 32 = .ok (.aload_n 0, 1) := by decide +kernel
theorem dX13_takes_33 : decode cX13_takes 33 = .ok (.aload_n 0, 1) := by decide +kernel
theorem dX13_takes_34 : decode cX13_takes 34 = .ok (.getfield 171, 3) := by decide +kernel
theorem dX13_takes_37 : decode cX13_takes 37 = .ok (.putfield 197, 3) := by decide +kernel
theorem dX13_takes_40 : decode cX13_takes 40 = .ok (.aload_n 0, 1) := by decide +kernel
theorem dX13_takes_41 : decode cX13_takes 41 = .ok (.invokevirtual 190, 3) := by decide +kernel
theorem dX13_takes_44 : decode cX13_takes 44 = .ok (.iconst 1, 1) := by decide +kernel
theorem dX13_takes_45 : decode cX13_takes 45 = .ok (.ireturn, 1) := by decide +kernel
set_option maxRecDepth 100000 in
set_option maxHeartbeats 4000000 in
theorem kX13_takes {E : KE} {l : Launch} (hE : mx_ok E) (i1 : Int32) (i2 : Int32) (hT : E.1 = mt) (M : MM) {q : (Bool × MM)} (hf : fX13_takes i1 i2 M = some q) : mx_Met E l yX13_takes cX13_takes 3 (some .boolean) 2 [.ref (E.2.1.2.1 0), .int i1, .int i2] M (some (.int (mx_b q.1))) q.2 := by
  refine mx_enter hE (by decide) (Nat.le_of_ble_eq_true rfl) ?_
  intro p e s m below meth c C hM hn ls hl
  have hx := C.1.1
  have hb := C.1.2.1
  have hown := C.1.2.2.2.1
  have hts := C.1.2.2.2.2
  have hl : lv_has ls 3 [(0, .ref (E.2.1.2.1 0)), (1, .int i1), (2, .int i2)] := hl
  rw [fX13_takes] at hf
  refine lv_aload_n hx hb dX13_takes_0 rfl (lv_at hl 0 rfl) ?_
  refine g13_161 C hT hM dX13_takes_1 ?_
  refine lv_iconst (v := (2 : Int32)) hx hb dX13_takes_4 (by decide) ?_
  refine lv_icmp_eq (tgt := 14) hx hb dX13_takes_5 (by decide) (fun hc5 => ?_) (fun hc5 => ?_)
  · replace hf := mx_ift hc5 hf
    refine lv_aload_n hx hb dX13_takes_14 rfl (lv_at hl 0 rfl) ?_
    refine g13_171 C hT hM dX13_takes_15 ?_
    refine lv_iload_n hx hb dX13_takes_18 rfl (lv_at hl 1 rfl) ?_
    refine lv_iload_n hx hb dX13_takes_19 rfl (lv_at hl 2 rfl) ?_
    obtain ⟨q20, hq20, hf⟩ := mx_bd hf
    refine mx_callS C hM hl.1 yo_X13_isIn (h' := 0) (by decide) qw_1608 qw_1609 (As := [.int (M.1 0 14), .int i1, .int i2]) (rest := []) (st1 := [.int (mx_b q20)]) (kX13_isIn C.2.2.2.1 (M.1 0 14) i1 i2 hT M hq20) rfl rfl rfl (Nat.le_of_ble_eq_true rfl) dX13_takes_20 (fun H locs hM => ?_)
    refine lv_if_ne (tgt := 32) hx hb dX13_takes_23 (by decide) (fun hc23 => ?_) (fun hc23 => ?_)
    · replace hf := mx_iff hc23 hf
      refine lv_aload_n hx hb dX13_takes_32 rfl (lv_at hl 0 rfl) ?_
      refine lv_aload_n hx hb dX13_takes_33 rfl (lv_at hl 0 rfl) ?_
      refine g13_171 C hT hM dX13_takes_34 ?_
      refine p13_197 C hT hM dX13_takes_37 (fun H locs hM => ?_)
      refine lv_aload_n hx hb dX13_takes_40 rfl (lv_at hl 0 rfl) ?_
      obtain ⟨q41, hq41, hf⟩ := mx_bd hf
      refine mx_callV C hM hl.1 yo_X13_next (h' := 1) (by decide) qw_1558 qw_1560 qs_113 (ci := 13) (q := (RX13, TX13, 52)) rfl (mt_0 hT) (As := []) (rest := []) (st1 := []) (kX13_next C.2.2.2.1  hT (mx_si M 0 18 (M.1 0 14)) hq41) rfl rfl rfl (Nat.le_of_ble_eq_true rfl) dX13_takes_41 (fun H locs hM => ?_)
      refine lv_iconst (v := (1 : Int32)) hx hb dX13_takes_44 (by decide) ?_
      exact mx_zret C hM (b := true) rfl hf dX13_takes_45
    · replace hf := mx_ift hc23 hf
      refine lv_aload_n hx hb dX13_takes_26 rfl (lv_at hl 0 rfl) ?_
      refine lv_iconst (v := (2 : Int32)) hx hb dX13_takes_27 (by decide) ?_
      obtain ⟨q28, hq28, hf⟩ := mx_bd hf
      refine mx_callV C hM hl.1 yo_X13_bad (h' := 0) (by decide) qw_1584 qw_1586 qs_118 (ci := 13) (q := (RX13, TX13, 52)) rfl (mt_0 hT) (As := [.int (2 : Int32)]) (rest := []) (st1 := [.int (mx_b q28.1)]) (kX13_bad C.2.2.2.1 (2 : Int32) hT M hq28) rfl rfl rfl (Nat.le_of_ble_eq_true rfl) dX13_takes_28 (fun H locs hM => ?_)
      exact mx_zret C hM (b := q28.1) rfl hf dX13_takes_31
  · replace hf := mx_iff hc5 hf
    refine lv_aload_n hx hb dX13_takes_8 rfl (lv_at hl 0 rfl) ?_
    refine lv_iconst (v := (1 : Int32)) hx hb dX13_takes_9 (by decide) ?_
    obtain ⟨q10, hq10, hf⟩ := mx_bd hf
    refine mx_callV C hM hl.1 yo_X13_bad (h' := 0) (by decide) qw_1584 qw_1586 qs_118 (ci := 13) (q := (RX13, TX13, 52)) rfl (mt_0 hT) (As := [.int (1 : Int32)]) (rest := []) (st1 := [.int (mx_b q10.1)]) (kX13_bad C.2.2.2.1 (1 : Int32) hT M hq10) rfl rfl rfl (Nat.le_of_ble_eq_true rfl) dX13_takes_10 (fun H locs hM => ?_)
    exact mx_zret C hM (b := q10.1) rfl hf dX13_takes_13
theorem dX13_puts_0 : decode cX13_puts 0 = .ok (.aload_n 0, 1) := by decide +kernel
theorem dX13_puts_1 : decode cX13_puts 1 = .ok (.iload_n 2, 1) := by decide +kernel
theorem dX13_puts_2 : decode cX13_puts 2 = .ok (.iload_n 3, 1) := by decide +kernel
theorem dX13_puts_3 : decode cX13_puts 3 = .ok (.invokevirtual 200, 3) := by decide +kernel
theorem dX13_puts_6 : decode cX13_puts 6 = .ok (.ifCond .ne 5, 3) := by decide +kernel
theorem dX13_puts_9 : decode cX13_puts 9 = .ok (.iconst 0, 1) := by decide +kernel
theorem dX13_puts_10 : decode cX13_puts 10 = .ok (.ireturn, 1) := by decide +kernel
theorem dX13_puts_11 : decode cX13_puts 11 = .ok (.aload_n 0, 1) := by decide +kernel
theorem dX13_puts_12 : decode cX13_puts 12 = .ok (.getfield 37, 3) := by decide +kernel
theorem dX13_puts_15 : decode cX13_puts 15 = .ok (.iload_n 1, 1) := by decide +kernel
theorem dX13_puts_16 : decode cX13_puts 16 = .ok (.aload_n 0, 1) := by decide +kernel
theorem dX13_puts_17 : decode cX13_puts 17 = .ok (.getfield 197, 3) := by decide +kernel
theorem dX13_puts_20 : decode cX13_puts 20 = .ok (.iastore, 1) := by decide +kernel
theorem dX13_puts_21 : decode cX13_puts 21 = .ok (.iconst 1, 1) := by decide +kernel
theorem dX13_puts_22 : decode cX13_puts 22 = .ok (.ireturn, 1) := by decide +kernel
set_option maxRecDepth 100000 in
set_option maxHeartbeats 4000000 in
theorem kX13_puts {E : KE} {l : Launch} (hE : mx_ok E) (i1 : Int32) (i2 : Int32) (i3 : Int32) (hT : E.1 = mt) (M : MM) {q : (Bool × MM)} (hf : fX13_puts i1 i2 i3 M = some q) : mx_Met E l yX13_puts cX13_puts 4 (some .boolean) 3 [.ref (E.2.1.2.1 0), .int i1, .int i2, .int i3] M (some (.int (mx_b q.1))) q.2 := by
  refine mx_enter hE (by decide) (Nat.le_of_ble_eq_true rfl) ?_
  intro p e s m below meth c C hM hn ls hl
  have hx := C.1.1
  have hb := C.1.2.1
  have hown := C.1.2.2.2.1
  have hts := C.1.2.2.2.2
  have hl : lv_has ls 4 [(0, .ref (E.2.1.2.1 0)), (1, .int i1), (2, .int i2), (3, .int i3)] := hl
  rw [fX13_puts] at hf
  refine lv_aload_n hx hb dX13_puts_0 rfl (lv_at hl 0 rfl) ?_
  refine lv_iload_n hx hb dX13_puts_1 rfl (lv_at hl 2 rfl) ?_
  refine lv_iload_n hx hb dX13_puts_2 rfl (lv_at hl 3 rfl) ?_
  obtain ⟨q3, hq3, hf⟩ := mx_bd hf
  refine mx_callV C hM hl.1 yo_X13_takes (h' := 2) (by decide) qw_1604 qw_1606 qs_123 (ci := 13) (q := (RX13, TX13, 52)) rfl (mt_0 hT) (As := [.int i2, .int i3]) (rest := []) (st1 := [.int (mx_b q3.1)]) (kX13_takes C.2.2.2.1 i2 i3 hT M hq3) rfl rfl rfl (Nat.le_of_ble_eq_true rfl) dX13_puts_3 (fun H locs hM => ?_)
  refine lv_if_ne (tgt := 11) hx hb dX13_puts_6 (by decide) (fun hc6 => ?_) (fun hc6 => ?_)
  · replace hf := mx_iff hc6 hf
    refine lv_aload_n hx hb dX13_puts_11 rfl (lv_at hl 0 rfl) ?_
    refine g13_37 C hT hM dX13_puts_12 ?_
    refine lv_iload_n hx hb dX13_puts_15 rfl (lv_at hl 1 rfl) ?_
    refine lv_aload_n hx hb dX13_puts_16 rfl (lv_at hl 0 rfl) ?_
    refine g13_197 C hT hM dX13_puts_17 ?_
    obtain ⟨hg20, hf⟩ := mx_gd hf
    refine mx_iast C hM (mt_3 hT) (mx_in_vp hg20) dX13_puts_20 (fun H locs hM => ?_)
    refine lv_iconst (v := (1 : Int32)) hx hb dX13_puts_21 (by decide) ?_
    exact mx_zret C hM (b := true) rfl hf dX13_puts_22
  · replace hf := mx_ift hc6 hf
    refine lv_iconst (v := (0 : Int32)) hx hb dX13_puts_9 (by decide) ?_
    exact mx_zret C hM (b := false) rfl hf dX13_puts_10
theorem dX13_seek_0 : decode cX13_seek 0 = .ok (.iconst 0, 1) := by decide +kernel
theorem dX13_seek_1 : decode cX13_seek 1 = .ok (.istore_n 3, 1) := by decide +kernel
theorem dX13_seek_2 : decode cX13_seek 2 = .ok (.iload_n 3, 1) := by decide +kernel
theorem dX13_seek_3 : decode cX13_seek 3 = .ok (.iload_n 2, 1) := by decide +kernel
theorem dX13_seek_4 : decode cX13_seek 4 = .ok (.if_icmp .ge 27, 3) := by decide +kernel
theorem dX13_seek_7 : decode cX13_seek 7 = .ok (.aload_n 0, 1) := by decide +kernel
theorem dX13_seek_8 : decode cX13_seek 8 = .ok (.getfield 43, 3) := by decide +kernel
theorem dX13_seek_11 : decode cX13_seek 11 = .ok (.iload_n 1, 1) := by decide +kernel
theorem dX13_seek_12 : decode cX13_seek 12 = .ok (.iload_n 3, 1) := by decide +kernel
theorem dX13_seek_13 : decode cX13_seek 13 = .ok (.iadd, 1) := by decide +kernel
theorem dX13_seek_14 : decode cX13_seek 14 = .ok (.laload, 1) := by decide +kernel
theorem dX13_seek_15 : decode cX13_seek 15 = .ok (.aload_n 0, 1) := by decide +kernel
theorem dX13_seek_16 : decode cX13_seek 16 = .ok (.getfield 174, 3) := by decide +kernel
theorem dX13_seek_19 : decode cX13_seek 19 = .ok (.lcmp, 1) := by decide +kernel
theorem dX13_seek_20 : decode cX13_seek 20 = .ok (.ifCond .ne 5, 3) := by decide +kernel
theorem dX13_seek_23 : decode cX13_seek 23 = .ok (.iload_n 3, 1) := by decide +kernel
theorem dX13_seek_24 : decode cX13_seek 24 = .ok (.ireturn, 1) := by decide +kernel
theorem dX13_seek_25 : decode cX13_seek 25 = .ok (.iinc 3 1, 3) := by decide +kernel
theorem dX13_seek_28 : decode cX13_seek 28 = .ok (.goto (-26), 3) := by decide +kernel
theorem dX13_seek_31 : decode cX13_seek 31 = .ok (.iconst (-1), 1) := by decide +kernel
theorem dX13_seek_32 : decode cX13_seek 32 = .ok (.ireturn, 1) := by decide +kernel
set_option maxRecDepth 100000 in
set_option maxHeartbeats 4000000 in
theorem wfX13_seek_2 {E : KE} {p : Program} {l : Launch} {e : Env} {s : State} {m : MethodId} {args : Array Value} {below : List Frame} {meth : Method} {c : Code} {q : Int32} (C : mx_C E p m c cX13_seek 4 s args RX13 meth (some .int)) (i1 : Int32) (i2 : Int32) (M : MM) (hT : E.1 = mt)   : ∀ (n : Nat) (i3 : Int32) (H : Heap) (locs : List Loc) (ls : Array Slot), fX13_seek_2 i1 i2 M n i3 = some q → mx_H E s M H locs → lv_has ls 4 [(0, .ref (E.2.1.2.1 0)), (1, .int i1), (2, .int i2), (3, .int i3)] → W p l e (mx_rm 0) s m args below meth c H locs 0 0 (mx_Z E below args s (some (.int q)) M) (F0 m 2 ls []) := by
  have hx := C.1.1
  have hb := C.1.2.1
  have hown := C.1.2.2.2.1
  have hts := C.1.2.2.2.2
  intro n
  induction n with
  | zero =>
    intro i3 H locs ls hf hM hl
    rw [fX13_seek_2] at hf
    cases hf
  | succ n ih =>
    intro i3 H locs ls hf hM hl
    rw [fX13_seek_2] at hf
    refine lv_iload_n hx hb dX13_seek_2 rfl (lv_at hl 3 rfl) ?_
    refine lv_iload_n hx hb dX13_seek_3 rfl (lv_at hl 2 rfl) ?_
    refine lv_icmp_ge (tgt := 31) hx hb dX13_seek_4 (by decide) (fun hc4 => ?_) (fun hc4 => ?_)
    · replace hf := mx_ift hc4 hf
      refine lv_iconst (v := (-1 : Int32)) hx hb dX13_seek_31 (by decide) ?_
      exact mx_iretR C hM hf dX13_seek_32
    · replace hf := mx_iff hc4 hf
      refine lv_aload_n hx hb dX13_seek_7 rfl (lv_at hl 0 rfl) ?_
      refine g13_43 C hT hM dX13_seek_8 ?_
      refine lv_iload_n hx hb dX13_seek_11 rfl (lv_at hl 1 rfl) ?_
      refine lv_iload_n hx hb dX13_seek_12 rfl (lv_at hl 3 rfl) ?_
      refine lv_iadd hx hb dX13_seek_13 ?_
      obtain ⟨hg14, hf⟩ := mx_gd hf
      refine mx_lald C hM (mt_5 hT) (mx_in_vp hg14) dX13_seek_14 ?_
      refine lv_aload_n hx hb dX13_seek_15 rfl (lv_at hl 0 rfl) ?_
      refine g13_174 C hT hM dX13_seek_16 ?_
      refine W.lcmp hx hb dX13_seek_19 ?_
      refine lv_if_ne (tgt := 25) hx hb dX13_seek_20 (by decide) (fun hc20 => ?_) (fun hc20 => ?_)
      · replace hf := mx_iff hc20 hf
        refine lv_iinc (v := (i3 + (1 : Int32))) (lv' := [(3, .int (i3 + (1 : Int32))), (0, .ref (E.2.1.2.1 0)), (1, .int i1), (2, .int i2)]) hx hb dX13_seek_25 hl (k := 3) rfl rfl (by decide) rfl (fun ls hl => ?_)
        refine lv_goto (tgt := 2) hx hb dX13_seek_28 (by decide) ?_
        exact ih (i3 + (1 : Int32)) _ _ _ hf hM (lv_sub hl [1, 2, 3, 0] rfl)
      · replace hf := mx_ift hc20 hf
        refine lv_iload_n hx hb dX13_seek_23 rfl (lv_at hl 3 rfl) ?_
        exact mx_iretR C hM hf dX13_seek_24
set_option maxRecDepth 100000 in
set_option maxHeartbeats 4000000 in
theorem kX13_seek {E : KE} {l : Launch} (hE : mx_ok E) (i1 : Int32) (i2 : Int32) (hT : E.1 = mt) (M : MM) {q : Int32} (hf : fX13_seek i1 i2 M = some q) : mx_Met E l yX13_seek cX13_seek 4 (some .int) 0 [.ref (E.2.1.2.1 0), .int i1, .int i2] M (some (.int q)) M := by
  refine mx_enter hE (by decide) (Nat.le_of_ble_eq_true rfl) ?_
  intro p e s m below meth c C hM hn ls hl
  have hx := C.1.1
  have hb := C.1.2.1
  have hown := C.1.2.2.2.1
  have hts := C.1.2.2.2.2
  have hl : lv_has ls 4 [(0, .ref (E.2.1.2.1 0)), (1, .int i1), (2, .int i2)] := hl
  rw [fX13_seek] at hf
  refine lv_iconst (v := (0 : Int32)) hx hb dX13_seek_0 (by decide) ?_
  refine lv_istore_n (lv' := [(3, .int (0 : Int32)), (0, .ref (E.2.1.2.1 0)), (1, .int i1), (2, .int i2)]) hx hb dX13_seek_1 rfl hl (by decide) rfl (fun ls hl => ?_)
  exact wfX13_seek_2 C i1 i2 M hT mx_fu (0 : Int32) _ _ _ hf hM (lv_sub hl [1, 2, 3, 0] rfl)
theorem dX13_fresh_0 : decode cX13_fresh 0 = .ok (.aload_n 0, 1) := by decide +kernel
theorem dX13_fresh_1 : decode cX13_fresh 1 = .ok (.invokevirtual 204, 3) := by decide +kernel
theorem dX13_fresh_4 : decode cX13_fresh 4 = .ok (.ifCond .ne 9, 3) := by decide +kernel
theorem dX13_fresh_7 : decode cX13_fresh 7 = .ok (.aload_n 0, 1) := by decide +kernel
theorem dX13_fresh_8 : decode cX13_fresh 8 = .ok (.iconst 1, 1) := by decide +kernel
theorem dX13_fresh_9 : decode cX13_fresh 9 = .ok (.invokevirtual 187, 3) := by decide +kernel
theorem dX13_fresh_12 : decode cX13_fresh 12 = .ok (.ireturn, 1) := by decide +kernel
theorem dX13_fresh_13 : decode cX13_fresh 13 = .ok (.aload_n 0, 1) := by decide +kernel
theorem dX13_fresh_14 : decode cX13_fresh 14 = .ok (.bipush 14, 2) := by decide +kernel
theorem dX13_fresh_16 : decode cX13_fresh 16 = .ok (.aload_n 0, 1) := by decide +kernel
theorem dX13_fresh_17 : decode cX13_fresh 17 = .ok (.getfield 37, 3) := by decide +kernel
theorem dX13_fresh_20 : decode cX13_fresh 20 = .ok (.iconst 0, 1) := by decide +kernel
theorem dX13_fresh_21 : decode cX13_fresh 21 = .ok (.iaload, 1) := by decide +kernel
theorem dX13_fresh_22 : decode cX13_fresh 22 = .ok (.invokevirtual 208, 3) := by decide +kernel
theorem dX13_fresh_25 : decode cX13_fresh 25 = .ok (.ifCond .ge 18, 3) := by decide +kernel
theorem dX13_fresh_28 : decode cX13_fresh 28 = .ok (.aload_n 0, 1) := by decide +kernel
theorem dX13_fresh_29 : decode cX13_fresh 29 = .ok (.bipush 21, 2) := by decide +kernel
theorem dX13_fresh_31 : decode cX13_fresh 31 = .ok (.aload_n 0, 1) := by decide +kernel
theorem dX13_fresh_32 : decode cX13_fresh 32 = .ok (.getfield 37, 3) := by decide +kernel
theorem dX13_fresh_35 : decode cX13_fresh 35 = .ok (.iconst 1, 1) := by decide +kernel
theorem dX13_fresh_36 : decode cX13_fresh 36 = .ok (.iaload, 1) := by decide +kernel
theorem dX13_fresh_37 : decode cX13_fresh 37 = .ok (.invokevirtual 208, 3) := by decide +kernel
theorem dX13_fresh_40 : decode cX13_fresh 40 = .ok (.ifCond .lt 9, 3) := by decide +kernel
theorem dX13_fresh_43 : decode cX13_fresh 43 = .ok (.aload_n 0, 1) := by decide +kernel
theorem dX13_fresh_44 : decode cX13_fresh 44 = .ok (.iconst 3, 1) := by decide +kernel
theorem dX13_fresh_45 : decode cX13_fresh 45 = .ok (.invokevirtual 187, 3) := by decide +kernel
theorem dX13_fresh_48 : decode cX13_fresh 48 = .ok (.ireturn, 1) := by decide +kernel
theorem dX13_fresh_49 : decode cX13_fresh 49 = .ok (.aload_n 0, 1) := by decide +kernel
theorem dX13_fresh_50 : decode cX13_fresh 50 = .ok (.getfield 43, 3) := by decide +kernel
theorem dX13_fresh_53 : decode cX13_fresh 53 = .ok (.iload_n 1, 1) := by decide +kernel
theorem dX13_fresh_54 : decode cX13_fresh 54 = .ok (.aload_n 0, 1) := by decide +kernel
theorem dX13_fresh_55 : decode cX13_fresh 55 = .ok (.getfield 174, 3) := by decide +kernel
theorem dX13_fresh_58 : decode cX13_fresh 58 = .ok (.lastore, 1) := by decide +kernel
theorem dX13_fresh_59 : decode cX13_fresh 59 = .ok (.aload_n 0, 1) := by decide +kernel
theorem dX13_fresh_60 : decode cX13_fresh 60 = .ok (.invokevirtual 190, 3) := by decide +kernel
theorem dX13_fresh_63 : decode cX13_fresh 63 = .ok (.iconst 1, 1) := by decide +kernel
theorem dX13_fresh_64 : decode cX13_fresh 64 = .ok (.ireturn, 1) := by decide +kernel
set_option maxRecDepth 100000 in
set_option maxHeartbeats 4000000 in
theorem wfX13_fresh_43 {E : KE} {p : Program} {l : Launch} {e : Env} {s : State} {m : MethodId} {args : Array Value} {below : List Frame} {meth : Method} {c : Code} {q : (Bool × MM)} (C : mx_C E p m c cX13_fresh 2 s args RX13 meth (some .boolean)) (i1 : Int32) (hT : E.1 = mt)   : ∀ (M : MM) (H : Heap) (locs : List Loc) (ls : Array Slot), fX13_fresh_43 i1 M = some q → mx_H E s M H locs → lv_has ls 2 [(0, .ref (E.2.1.2.1 0))] → W p l e (mx_rm 2) s m args below meth c H locs 0 0 (mx_Z E below args s (some (.int (mx_b q.1))) q.2) (F0 m 43 ls []) := by
  have hx := C.1.1
  have hb := C.1.2.1
  have hown := C.1.2.2.2.1
  have hts := C.1.2.2.2.2
  intro M H locs ls hf hM hl
  rw [fX13_fresh_43] at hf
  refine lv_aload_n hx hb dX13_fresh_43 rfl (lv_at hl 0 rfl) ?_
  refine lv_iconst (v := (3 : Int32)) hx hb dX13_fresh_44 (by decide) ?_
  obtain ⟨q45, hq45, hf⟩ := mx_bd hf
  refine mx_callV C hM hl.1 yo_X13_bad (h' := 0) (by decide) qw_1584 qw_1586 qs_118 (ci := 13) (q := (RX13, TX13, 52)) rfl (mt_0 hT) (As := [.int (3 : Int32)]) (rest := []) (st1 := [.int (mx_b q45.1)]) (kX13_bad C.2.2.2.1 (3 : Int32) hT M hq45) rfl rfl rfl (Nat.le_of_ble_eq_true rfl) dX13_fresh_45 (fun H locs hM => ?_)
  exact mx_zret C hM (b := q45.1) rfl hf dX13_fresh_48
set_option maxRecDepth 100000 in
set_option maxHeartbeats 4000000 in
theorem kX13_fresh {E : KE} {l : Launch} (hE : mx_ok E) (i1 : Int32) (hT : E.1 = mt) (M : MM) {q : (Bool × MM)} (hf : fX13_fresh i1 M = some q) : mx_Met E l yX13_fresh cX13_fresh 2 (some .boolean) 2 [.ref (E.2.1.2.1 0), .int i1] M (some (.int (mx_b q.1))) q.2 := by
  refine mx_enter hE (by decide) (Nat.le_of_ble_eq_true rfl) ?_
  intro p e s m below meth c C hM hn ls hl
  have hx := C.1.1
  have hb := C.1.2.1
  have hown := C.1.2.2.2.1
  have hts := C.1.2.2.2.2
  have hl : lv_has ls 2 [(0, .ref (E.2.1.2.1 0)), (1, .int i1)] := hl
  rw [fX13_fresh] at hf
  refine lv_aload_n hx hb dX13_fresh_0 rfl (lv_at hl 0 rfl) ?_
  obtain ⟨q1, hq1, hf⟩ := mx_bd hf
  refine mx_callV C hM hl.1 yo_X13_isName (h' := 0) (by decide) qw_1592 qw_1594 qs_120 (ci := 13) (q := (RX13, TX13, 52)) rfl (mt_0 hT) (As := []) (rest := []) (st1 := [.int (mx_b q1)]) (kX13_isName C.2.2.2.1  hT M hq1) rfl rfl rfl (Nat.le_of_ble_eq_true rfl) dX13_fresh_1 (fun H locs hM => ?_)
  refine lv_if_ne (tgt := 13) hx hb dX13_fresh_4 (by decide) (fun hc4 => ?_) (fun hc4 => ?_)
  · replace hf := mx_iff hc4 hf
    refine lv_aload_n hx hb dX13_fresh_13 rfl (lv_at hl 0 rfl) ?_
    refine lv_bipush (v := (14 : Int32)) hx hb dX13_fresh_14 (by decide) ?_
    refine lv_aload_n hx hb dX13_fresh_16 rfl (lv_at hl 0 rfl) ?_
    refine g13_37 C hT hM dX13_fresh_17 ?_
    refine lv_iconst (v := (0 : Int32)) hx hb dX13_fresh_20 (by decide) ?_
    refine mx_ialdL C hM (mt_3 hT) (j := 0) (by decide) (mx_in_vp (by decide)) dX13_fresh_21 ?_
    obtain ⟨q22, hq22, hf⟩ := mx_bd hf
    refine mx_callV C hM hl.1 yo_X13_seek (h' := 0) (by decide) qw_1596 qw_1598 qs_121 (ci := 13) (q := (RX13, TX13, 52)) rfl (mt_0 hT) (As := [.int (14 : Int32), .int (M.1 3 0)]) (rest := []) (st1 := [.int q22]) (kX13_seek C.2.2.2.1 (14 : Int32) (M.1 3 0) hT M hq22) rfl rfl rfl (Nat.le_of_ble_eq_true rfl) dX13_fresh_22 (fun H locs hM => ?_)
    refine lv_if_ge (tgt := 43) hx hb dX13_fresh_25 (by decide) (fun hc25 => ?_) (fun hc25 => ?_)
    · replace hf := mx_ift hc25 hf
      exact wfX13_fresh_43 C i1 hT M _ _ _ hf hM (lv_sub hl [0] rfl)
    · replace hf := mx_iff hc25 hf
      refine lv_aload_n hx hb dX13_fresh_28 rfl (lv_at hl 0 rfl) ?_
      refine lv_bipush (v := (21 : Int32)) hx hb dX13_fresh_29 (by decide) ?_
      refine lv_aload_n hx hb dX13_fresh_31 rfl (lv_at hl 0 rfl) ?_
      refine g13_37 C hT hM dX13_fresh_32 ?_
      refine lv_iconst (v := (1 : Int32)) hx hb dX13_fresh_35 (by decide) ?_
      refine mx_ialdL C hM (mt_3 hT) (j := 1) (by decide) (mx_in_vp (by decide)) dX13_fresh_36 ?_
      obtain ⟨q37, hq37, hf⟩ := mx_bd hf
      refine mx_callV C hM hl.1 yo_X13_seek (h' := 0) (by decide) qw_1596 qw_1598 qs_121 (ci := 13) (q := (RX13, TX13, 52)) rfl (mt_0 hT) (As := [.int (21 : Int32), .int (M.1 3 1)]) (rest := []) (st1 := [.int q37]) (kX13_seek C.2.2.2.1 (21 : Int32) (M.1 3 1) hT M hq37) rfl rfl rfl (Nat.le_of_ble_eq_true rfl) dX13_fresh_37 (fun H locs hM => ?_)
      refine lv_if_lt (tgt := 49) hx hb dX13_fresh_40 (by decide) (fun hc40 => ?_) (fun hc40 => ?_)
      · replace hf := mx_ift hc40 hf
        refine lv_aload_n hx hb dX13_fresh_49 rfl (lv_at hl 0 rfl) ?_
        refine g13_43 C hT hM dX13_fresh_50 ?_
        refine lv_iload_n hx hb dX13_fresh_53 rfl (lv_at hl 1 rfl) ?_
        refine lv_aload_n hx hb dX13_fresh_54 rfl (lv_at hl 0 rfl) ?_
        refine g13_174 C hT hM dX13_fresh_55 ?_
        obtain ⟨hg58, hf⟩ := mx_gd hf
        refine mx_last C hM (mt_5 hT) (mx_in_vp hg58) dX13_fresh_58 (fun H locs hM => ?_)
        refine lv_aload_n hx hb dX13_fresh_59 rfl (lv_at hl 0 rfl) ?_
        obtain ⟨q60, hq60, hf⟩ := mx_bd hf
        refine mx_callV C hM hl.1 yo_X13_next (h' := 1) (by decide) qw_1558 qw_1560 qs_113 (ci := 13) (q := (RX13, TX13, 52)) rfl (mt_0 hT) (As := []) (rest := []) (st1 := []) (kX13_next C.2.2.2.1  hT (mx_sl M 5 i1.toNatClampNeg (M.2.1 0 17)) hq60) rfl rfl rfl (Nat.le_of_ble_eq_true rfl) dX13_fresh_60 (fun H locs hM => ?_)
        refine lv_iconst (v := (1 : Int32)) hx hb dX13_fresh_63 (by decide) ?_
        exact mx_zret C hM (b := true) rfl hf dX13_fresh_64
      · replace hf := mx_iff hc40 hf
        exact wfX13_fresh_43 C i1 hT M _ _ _ hf hM (lv_sub hl [0] rfl)
  · replace hf := mx_ift hc4 hf
    refine lv_aload_n hx hb dX13_fresh_7 rfl (lv_at hl 0 rfl) ?_
    refine lv_iconst (v := (1 : Int32)) hx hb dX13_fresh_8 (by decide) ?_
    obtain ⟨q9, hq9, hf⟩ := mx_bd hf
    refine mx_callV C hM hl.1 yo_X13_bad (h' := 0) (by decide) qw_1584 qw_1586 qs_118 (ci := 13) (q := (RX13, TX13, 52)) rfl (mt_0 hT) (As := [.int (1 : Int32)]) (rest := []) (st1 := [.int (mx_b q9.1)]) (kX13_bad C.2.2.2.1 (1 : Int32) hT M hq9) rfl rfl rfl (Nat.le_of_ble_eq_true rfl) dX13_fresh_9 (fun H locs hM => ?_)
    exact mx_zret C hM (b := q9.1) rfl hf dX13_fresh_12
theorem dX13_looksAt_0 : decode cX13_looksAt 0 = .ok (.aload_n 0, 1) := by decide +kernel
theorem dX13_looksAt_1 : decode cX13_looksAt 1 = .ok (.invokevirtual 204, 3) := by decide +kernel
theorem dX13_looksAt_4 : decode cX13_looksAt 4 = .ok (.ifCond .ne 9, 3) := by decide +kernel
theorem dX13_looksAt_7 : decode cX13_looksAt 7 = .ok (.aload_n 0, 1) := by decide +kernel
theorem dX13_looksAt_8 : decode cX13_looksAt 8 = .ok (.iconst 1, 1) := by decide +kernel
theorem dX13_looksAt_9 : decode cX13_looksAt 9 = .ok (.invokevirtual 187, 3) := by decide +kernel
theorem dX13_looksAt_12 : decode cX13_looksAt 12 = .ok (.ireturn, 1) := by decide +kernel
theorem dX13_looksAt_13 : decode cX13_looksAt 13 = .ok (.aload_n 0, 1) := by decide +kernel
theorem dX13_looksAt_14 : decode cX13_looksAt 14 = .ok (.aload_n 0, 1) := by decide +kernel
theorem dX13_looksAt_15 : decode cX13_looksAt 15 = .ok (.iload_n 1, 1) := by decide +kernel
theorem dX13_looksAt_16 : decode cX13_looksAt 16 = .ok (.iload_n 2, 1) := by decide +kernel
theorem dX13_looksAt_17 : decode cX13_looksAt 17 = .ok (.invokevirtual 208, 3) := by decide +kernel
theorem dX13_looksAt_20 : decode cX13_looksAt 20 = .ok (.putfield 197, 3) := by decide +kernel
theorem dX13_looksAt_23 : decode cX13_looksAt 23 = .ok (.aload_n 0, 1) := by decide +kernel
theorem dX13_looksAt_24 : decode cX13_looksAt 24 = .ok (.getfield 197, 3) := by decide +kernel
theorem dX13_looksAt_27 : decode cX13_looksAt 27 = .ok (.ifCond .ge 11, 3) := by decide +kernel
theorem dX13_looksAt_30 : decode cX13_looksAt 30 = .ok (.aload_n 0, 1) := by decide +kernel
theorem dX13_looksAt_31 : decode cX13_looksAt 31 = .ok (.iconst 3, 1) := by decide +kernel
theorem dX13_looksAt_32 : decode cX13_looksAt 32 = .ok (.invokevirtual 187, 3) := by decide +kernel
theorem dX13_looksAt_35 : decode cX13_looksAt 35 = .ok (.ifCond .eq 7, 3) := by decide +kernel
theorem dX13_looksAt_38 : decode cX13_looksAt 38 = .ok (.iconst 1, 1) := by decide +kernel
theorem dX13_looksAt_39 : decode cX13_looksAt 39 = .ok (.goto 4, 3) := by decide +kernel
theorem dX13_looksAt_42 : decode cX13_looksAt 42 = .ok (.iconst 0, 1) := by decide +kernel
theorem dX13_looksAt_43 : decode cX13_looksAt 43 = .ok (.ireturn, 1) := by decide +kernel
set_option maxRecDepth 100000 in
set_option maxHeartbeats 4000000 in
theorem kX13_looksAt {E : KE} {l : Launch} (hE : mx_ok E) (i1 : Int32) (i2 : Int32) (hT : E.1 = mt) (M : MM) {q : (Bool × MM)} (hf : fX13_looksAt i1 i2 M = some q) : mx_Met E l yX13_looksAt cX13_looksAt 3 (some .boolean) 1 [.ref (E.2.1.2.1 0), .int i1, .int i2] M (some (.int (mx_b q.1))) q.2 := by
  refine mx_enter hE (by decide) (Nat.le_of_ble_eq_true rfl) ?_
  intro p e s m below meth c C hM hn ls hl
  have hx := C.1.1
  have hb := C.1.2.1
  have hown := C.1.2.2.2.1
  have hts := C.1.2.2.2.2
  have hl : lv_has ls 3 [(0, .ref (E.2.1.2.1 0)), (1, .int i1), (2, .int i2)] := hl
  rw [fX13_looksAt] at hf
  refine lv_aload_n hx hb dX13_looksAt_0 rfl (lv_at hl 0 rfl) ?_
  obtain ⟨q1, hq1, hf⟩ := mx_bd hf
  refine mx_callV C hM hl.1 yo_X13_isName (h' := 0) (by decide) qw_1592 qw_1594 qs_120 (ci := 13) (q := (RX13, TX13, 52)) rfl (mt_0 hT) (As := []) (rest := []) (st1 := [.int (mx_b q1)]) (kX13_isName C.2.2.2.1  hT M hq1) rfl rfl rfl (Nat.le_of_ble_eq_true rfl) dX13_looksAt_1 (fun H locs hM => ?_)
  refine lv_if_ne (tgt := 13) hx hb dX13_looksAt_4 (by decide) (fun hc4 => ?_) (fun hc4 => ?_)
  · replace hf := mx_iff hc4 hf
    refine lv_aload_n hx hb dX13_looksAt_13 rfl (lv_at hl 0 rfl) ?_
    refine lv_aload_n hx hb dX13_looksAt_14 rfl (lv_at hl 0 rfl) ?_
    refine lv_iload_n hx hb dX13_looksAt_15 rfl (lv_at hl 1 rfl) ?_
    refine lv_iload_n hx hb dX13_looksAt_16 rfl (lv_at hl 2 rfl) ?_
    obtain ⟨q17, hq17, hf⟩ := mx_bd hf
    refine mx_callV C hM hl.1 yo_X13_seek (h' := 0) (by decide) qw_1596 qw_1598 qs_121 (ci := 13) (q := (RX13, TX13, 52)) rfl (mt_0 hT) (As := [.int i1, .int i2]) (rest := [.ref (E.2.1.2.1 0)]) (st1 := [.int q17, .ref (E.2.1.2.1 0)]) (kX13_seek C.2.2.2.1 i1 i2 hT M hq17) rfl rfl rfl (Nat.le_of_ble_eq_true rfl) dX13_looksAt_17 (fun H locs hM => ?_)
    refine p13_197 C hT hM dX13_looksAt_20 (fun H locs hM => ?_)
    refine lv_aload_n hx hb dX13_looksAt_23 rfl (lv_at hl 0 rfl) ?_
    refine g13_197 C hT hM dX13_looksAt_24 ?_
    refine lv_if_ge (tgt := 38) hx hb dX13_looksAt_27 (by decide) (fun hc27 => ?_) (fun hc27 => ?_)
    · replace hf := mx_ift hc27 hf
      refine lv_iconst (v := (1 : Int32)) hx hb dX13_looksAt_38 (by decide) ?_
      refine lv_goto (tgt := 43) hx hb dX13_looksAt_39 (by decide) ?_
      exact mx_zret C hM (b := true) rfl hf dX13_looksAt_43
    · replace hf := mx_iff hc27 hf
      refine lv_aload_n hx hb dX13_looksAt_30 rfl (lv_at hl 0 rfl) ?_
      refine lv_iconst (v := (3 : Int32)) hx hb dX13_looksAt_31 (by decide) ?_
      obtain ⟨q32, hq32, hf⟩ := mx_bd hf
      refine mx_callV C hM hl.1 yo_X13_bad (h' := 0) (by decide) qw_1584 qw_1586 qs_118 (ci := 13) (q := (RX13, TX13, 52)) rfl (mt_0 hT) (As := [.int (3 : Int32)]) (rest := []) (st1 := [.int (mx_b q32.1)]) (kX13_bad C.2.2.2.1 (3 : Int32) hT (mx_si M 0 18 q17) hq32) rfl rfl rfl (Nat.le_of_ble_eq_true rfl) dX13_looksAt_32 (fun H locs hM => ?_)
      refine lv_if_eq (tgt := 42) hx hb dX13_looksAt_35 (by decide) (fun hc35 => ?_) (fun hc35 => ?_)
      · replace hf := mx_ift hc35 hf
        refine lv_iconst (v := (0 : Int32)) hx hb dX13_looksAt_42 (by decide) ?_
        exact mx_zret C hM (b := false) rfl hf dX13_looksAt_43
      · replace hf := mx_iff hc35 hf
        refine lv_iconst (v := (1 : Int32)) hx hb dX13_looksAt_38 (by decide) ?_
        refine lv_goto (tgt := 43) hx hb dX13_looksAt_39 (by decide) ?_
        exact mx_zret C hM (b := true) rfl hf dX13_looksAt_43
  · replace hf := mx_ift hc4 hf
    refine lv_aload_n hx hb dX13_looksAt_7 rfl (lv_at hl 0 rfl) ?_
    refine lv_iconst (v := (1 : Int32)) hx hb dX13_looksAt_8 (by decide) ?_
    obtain ⟨q9, hq9, hf⟩ := mx_bd hf
    refine mx_callV C hM hl.1 yo_X13_bad (h' := 0) (by decide) qw_1584 qw_1586 qs_118 (ci := 13) (q := (RX13, TX13, 52)) rfl (mt_0 hT) (As := [.int (1 : Int32)]) (rest := []) (st1 := [.int (mx_b q9.1)]) (kX13_bad C.2.2.2.1 (1 : Int32) hT M hq9) rfl rfl rfl (Nat.le_of_ble_eq_true rfl) dX13_looksAt_9 (fun H locs hM => ?_)
    exact mx_zret C hM (b := q9.1) rfl hf dX13_looksAt_12
theorem dX13_takesName_0 : decode cX13_takesName 0 = .ok (.aload_n 0, 1) := by decide +kernel
theorem dX13_takesName_1 : decode cX13_takesName 1 = .ok (.iload_n 1, 1) := by decide +kernel
theorem dX13_takesName_2 : decode cX13_takesName 2 = .ok (.iload_n 2, 1) := by decide +kernel
theorem dX13_takesName_3 : decode cX13_takesName 3 = .ok (.invokevirtual 212, 3) := by decide +kernel
theorem dX13_takesName_6 : decode cX13_takesName 6 = .ok (.ifCond .ne 5, 3) := by decide +kernel
theorem dX13_takesName_9 : decode cX13_takesName 9 = .ok (.iconst 0, 1) := by decide +kernel
theorem dX13_takesName_10 : decode cX13_takesName 10 = .ok (.ireturn, 1) := by decide +kernel
theorem dX13_takesName_11 : decode cX13_takesName 11 = .ok (.aload_n 0, 1) := by decide +kernel
theorem dX13_takesName_12 : decode cX13_takesName 12 = .ok (.invokevirtual 190, 3) := by decide +kernel
theorem dX13_takesName_15 : decode cX13_takesName 15 = .ok (.iconst 1, 1) := by decide +kernel
theorem dX13_takesName_16 : decode cX13_takesName 16 = .ok (.ireturn, 1) := by decide +kernel
set_option maxRecDepth 100000 in
set_option maxHeartbeats 4000000 in
theorem kX13_takesName {E : KE} {l : Launch} (hE : mx_ok E) (i1 : Int32) (i2 : Int32) (hT : E.1 = mt) (M : MM) {q : (Bool × MM)} (hf : fX13_takesName i1 i2 M = some q) : mx_Met E l yX13_takesName cX13_takesName 3 (some .boolean) 2 [.ref (E.2.1.2.1 0), .int i1, .int i2] M (some (.int (mx_b q.1))) q.2 := by
  refine mx_enter hE (by decide) (Nat.le_of_ble_eq_true rfl) ?_
  intro p e s m below meth c C hM hn ls hl
  have hx := C.1.1
  have hb := C.1.2.1
  have hown := C.1.2.2.2.1
  have hts := C.1.2.2.2.2
  have hl : lv_has ls 3 [(0, .ref (E.2.1.2.1 0)), (1, .int i1), (2, .int i2)] := hl
  rw [fX13_takesName] at hf
  refine lv_aload_n hx hb dX13_takesName_0 rfl (lv_at hl 0 rfl) ?_
  refine lv_iload_n hx hb dX13_takesName_1 rfl (lv_at hl 1 rfl) ?_
  refine lv_iload_n hx hb dX13_takesName_2 rfl (lv_at hl 2 rfl) ?_
  obtain ⟨q3, hq3, hf⟩ := mx_bd hf
  refine mx_callV C hM hl.1 yo_X13_looksAt (h' := 1) (by decide) qw_1619 qw_1621 qs_126 (ci := 13) (q := (RX13, TX13, 52)) rfl (mt_0 hT) (As := [.int i1, .int i2]) (rest := []) (st1 := [.int (mx_b q3.1)]) (kX13_looksAt C.2.2.2.1 i1 i2 hT M hq3) rfl rfl rfl (Nat.le_of_ble_eq_true rfl) dX13_takesName_3 (fun H locs hM => ?_)
  refine lv_if_ne (tgt := 11) hx hb dX13_takesName_6 (by decide) (fun hc6 => ?_) (fun hc6 => ?_)
  · replace hf := mx_iff hc6 hf
    refine lv_aload_n hx hb dX13_takesName_11 rfl (lv_at hl 0 rfl) ?_
    obtain ⟨q12, hq12, hf⟩ := mx_bd hf
    refine mx_callV C hM hl.1 yo_X13_next (h' := 1) (by decide) qw_1558 qw_1560 qs_113 (ci := 13) (q := (RX13, TX13, 52)) rfl (mt_0 hT) (As := []) (rest := []) (st1 := []) (kX13_next C.2.2.2.1  hT q3.2 hq12) rfl rfl rfl (Nat.le_of_ble_eq_true rfl) dX13_takesName_12 (fun H locs hM => ?_)
    refine lv_iconst (v := (1 : Int32)) hx hb dX13_takesName_15 (by decide) ?_
    exact mx_zret C hM (b := true) rfl hf dX13_takesName_16
  · replace hf := mx_ift hc6 hf
    refine lv_iconst (v := (0 : Int32)) hx hb dX13_takesName_9 (by decide) ?_
    exact mx_zret C hM (b := false) rfl hf dX13_takesName_10
theorem dX13_once_0 : decode cX13_once 0 = .ok (.aload_n 0, 1) := by decide +kernel
theorem dX13_once_1 : decode cX13_once 1 = .ok (.getfield 215, 3) := by decide +kernel
theorem dX13_once_4 : decode cX13_once 4 = .ok (.iload_n 1, 1) := by decide +kernel
theorem dX13_once_5 : decode cX13_once 5 = .ok (.invokestatic 218, 3) := by decide +kernel
theorem dX13_once_8 : decode cX13_once 8 = .ok (.ifCond .eq 9, 3) := by decide +kernel
theorem dX13_once_11 : decode cX13_once 11 = .ok (.aload_n 0, 1) := by decide +kernel
theorem dX13_once_12 : decode cX13_once 12 = .ok (.iconst 3, 1) := by decide +kernel
theorem dX13_once_13 : decode cX13_once 13 = .ok (.invokevirtual 187, 3) := by decide +kernel
theorem dX13_once_16 : decode cX13_once 16 = .ok (.ireturn, 1) := by decide +kernel
theorem dX13_once_17 : decode cX13_once 17 = .ok (.aload_n 0, 1) := by decide +kernel
theorem dX13_once_18 : decode cX13_once 18 = .ok (.dup, 1) := by decide +kernel
theorem dX13_once_19 : decode cX13_once 19 = .ok (.getfield 215, 3) := by decide +kernel
theorem dX13_once_22 : decode cX13_once 22 = .ok (.iconst 1, 1) := by decide +kernel
theorem dX13_once_23 : decode cX13_once 23 = .ok (.iload_n 1, 1) := by decide +kernel
theorem dX13_once_24 : decode cX13_once 24 = .ok (.ishl, 1) := by decide +kernel
theorem dX13_once_25 : decode cX13_once 25 = .ok (.ior, 1) := by decide +kernel
theorem dX13_once_26 : decode cX13_once 26 = .ok (.putfield 215, 3) := by decide +kernel
theorem dX13_once_29 : decode cX13_once 29 = .ok (.aload_n 0, 1) := by decide +kernel
theorem dX13_once_30 : decode cX13_once 30 = .ok (.invokevirtual 190, 3) := by decide +kernel
theorem dX13_once_33 : decode cX13_once 33 = .ok (.aload_n 0, 1) := by decide +kernel
theorem dX13_once_34 : decode cX13_once 34 = .ok (.iload_n 2, 1) := by decide +kernel
theorem dX13_once_35 : decode cX13_once 35 = .ok (.iload_n 3, 1) := by decide +kernel
theorem dX13_once_36 : decode cX13_once 36 = .ok (.iload 4, 2) := by decide +kernel
theorem dX13_once_38 : decode cX13_once 38 = .ok (.invokevirtual 221, 3) := by decide +kernel
theorem dX13_once_41 : decode cX13_once 41 = .ok (.ireturn, 1) := by decide +kernel
set_option maxRecDepth 100000 in
set_option maxHeartbeats 4000000 in
theorem kX13_once {E : KE} {l : Launch} (hE : mx_ok E) (i1 : Int32) (i2 : Int32) (i3 : Int32) (i4 : Int32) (hT : E.1 = mt) (M : MM) {q : (Bool × MM)} (hf : fX13_once i1 i2 i3 i4 M = some q) : mx_Met E l yX13_once cX13_once 5 (some .boolean) 4 [.ref (E.2.1.2.1 0), .int i1, .int i2, .int i3, .int i4] M (some (.int (mx_b q.1))) q.2 := by
  refine mx_enter hE (by decide) (Nat.le_of_ble_eq_true rfl) ?_
  intro p e s m below meth c C hM hn ls hl
  have hx := C.1.1
  have hb := C.1.2.1
  have hown := C.1.2.2.2.1
  have hts := C.1.2.2.2.2
  have hl : lv_has ls 5 [(0, .ref (E.2.1.2.1 0)), (1, .int i1), (2, .int i2), (3, .int i3), (4, .int i4)] := hl
  rw [fX13_once] at hf
  refine lv_aload_n hx hb dX13_once_0 rfl (lv_at hl 0 rfl) ?_
  refine g13_215 C hT hM dX13_once_1 ?_
  refine lv_iload_n hx hb dX13_once_4 rfl (lv_at hl 1 rfl) ?_
  obtain ⟨q5, hq5, hf⟩ := mx_bd hf
  refine mx_callS C hM hl.1 yo_X13_bitOf (h' := 0) (by decide) qw_1627 qw_1628 (As := [.int (M.1 0 20), .int i1]) (rest := []) (st1 := [.int (mx_b q5)]) (kX13_bitOf C.2.2.2.1 (M.1 0 20) i1 hT M hq5) rfl rfl rfl (Nat.le_of_ble_eq_true rfl) dX13_once_5 (fun H locs hM => ?_)
  refine lv_if_eq (tgt := 17) hx hb dX13_once_8 (by decide) (fun hc8 => ?_) (fun hc8 => ?_)
  · replace hf := mx_ift hc8 hf
    refine lv_aload_n hx hb dX13_once_17 rfl (lv_at hl 0 rfl) ?_
    refine lv_dup hx hb dX13_once_18 rfl ?_
    refine g13_215 C hT hM dX13_once_19 ?_
    refine lv_iconst (v := (1 : Int32)) hx hb dX13_once_22 (by decide) ?_
    refine lv_iload_n hx hb dX13_once_23 rfl (lv_at hl 1 rfl) ?_
    refine lv_ishl hx hb dX13_once_24 ?_
    refine lv_ior hx hb dX13_once_25 ?_
    refine p13_215 C hT hM dX13_once_26 (fun H locs hM => ?_)
    refine lv_aload_n hx hb dX13_once_29 rfl (lv_at hl 0 rfl) ?_
    obtain ⟨q30, hq30, hf⟩ := mx_bd hf
    refine mx_callV C hM hl.1 yo_X13_next (h' := 1) (by decide) qw_1558 qw_1560 qs_113 (ci := 13) (q := (RX13, TX13, 52)) rfl (mt_0 hT) (As := []) (rest := []) (st1 := []) (kX13_next C.2.2.2.1  hT (mx_si M 0 20 ((M.1 0 20) ||| ((1 : Int32) <<< (i1 &&& 31)))) hq30) rfl rfl rfl (Nat.le_of_ble_eq_true rfl) dX13_once_30 (fun H locs hM => ?_)
    refine lv_aload_n hx hb dX13_once_33 rfl (lv_at hl 0 rfl) ?_
    refine lv_iload_n hx hb dX13_once_34 rfl (lv_at hl 2 rfl) ?_
    refine lv_iload_n hx hb dX13_once_35 rfl (lv_at hl 3 rfl) ?_
    refine lv_iload hx hb dX13_once_36 (lv_at hl 4 rfl) ?_
    obtain ⟨q38, hq38, hf⟩ := mx_bd hf
    refine mx_callV C hM hl.1 yo_X13_puts (h' := 3) (by decide) qw_1600 qw_1602 qs_122 (ci := 13) (q := (RX13, TX13, 52)) rfl (mt_0 hT) (As := [.int i2, .int i3, .int i4]) (rest := []) (st1 := [.int (mx_b q38.1)]) (kX13_puts C.2.2.2.1 i2 i3 i4 hT q30 hq38) rfl rfl rfl (Nat.le_of_ble_eq_true rfl) dX13_once_38 (fun H locs hM => ?_)
    exact mx_zret C hM (b := q38.1) rfl hf dX13_once_41
  · replace hf := mx_iff hc8 hf
    refine lv_aload_n hx hb dX13_once_11 rfl (lv_at hl 0 rfl) ?_
    refine lv_iconst (v := (3 : Int32)) hx hb dX13_once_12 (by decide) ?_
    obtain ⟨q13, hq13, hf⟩ := mx_bd hf
    refine mx_callV C hM hl.1 yo_X13_bad (h' := 0) (by decide) qw_1584 qw_1586 qs_118 (ci := 13) (q := (RX13, TX13, 52)) rfl (mt_0 hT) (As := [.int (3 : Int32)]) (rest := []) (st1 := [.int (mx_b q13.1)]) (kX13_bad C.2.2.2.1 (3 : Int32) hT M hq13) rfl rfl rfl (Nat.le_of_ble_eq_true rfl) dX13_once_13 (fun H locs hM => ?_)
    exact mx_zret C hM (b := q13.1) rfl hf dX13_once_16
theorem dX13_readPerson_0 : decode cX13_readPerson 0 = .ok (.aload_n 0, 1) := by decide +kernel
theorem dX13_readPerson_1 : decode cX13_readPerson 1 = .ok (.getfield 37, 3) := by decide +kernel
theorem dX13_readPerson_4 : decode cX13_readPerson 4 = .ok (.iconst 0, 1) := by decide +kernel
theorem dX13_readPerson_5 : decode cX13_readPerson 5 = .ok (.iaload, 1) := by decide +kernel
theorem dX13_readPerson_6 : decode cX13_readPerson 6 = .ok (.istore_n 1, 1) := by decide +kernel
theorem dX13_readPerson_7 : decode cX13_readPerson 7 = .ok (.iload_n 1, 1) := by decide +kernel
theorem dX13_readPerson_8 : decode cX13_readPerson 8 = .ok (.bipush 7, 2) := by decide +kernel
theorem dX13_readPerson_10 : decode cX13_readPerson 10 = .ok (.if_icmp .ne 9, 3) := by decide +kernel
theorem dX13_readPerson_13 : decode cX13_readPerson 13 = .ok (.aload_n 0, 1) := by decide +kernel
theorem dX13_readPerson_14 : decode cX13_readPerson 14 = .ok (.iconst 4, 1) := by decide +kernel
theorem dX13_readPerson_15 : decode cX13_readPerson 15 = .ok (.invokevirtual 187, 3) := by decide +kernel
theorem dX13_readPerson_18 : decode cX13_readPerson 18 = .ok (.ireturn, 1) := by decide +kernel
theorem dX13_readPerson_19 : decode cX13_readPerson 19 = .ok (.aload_n 0, 1) := by decide +kernel
theorem dX13_readPerson_20 : decode cX13_readPerson 20 = .ok (.invokevirtual 190, 3) := by decide +kernel
theorem dX13_readPerson_23 : decode cX13_readPerson 23 = .ok (.aload_n 0, 1) := by decide +kernel
theorem dX13_readPerson_24 : decode cX13_readPerson 24 = .ok (.bipush 14, 2) := by decide +kernel
theorem dX13_readPerson_26 : decode cX13_readPerson 26 = .ok (.iload_n 1, 1) := by decide +kernel
theorem dX13_readPerson_27 : decode cX13_readPerson 27 = .ok (.iadd, 1) := by decide +kernel
theorem dX13_readPerson_28 : decode cX13_readPerson 28 = .ok (.invokevirtual 238, 3) := by decide +kernel
theorem dX13_readPerson_31 : decode cX13_readPerson 31 = .ok (.ifCond .eq 44, 3) := by decide +kernel
theorem dX13_readPerson_34 : decode cX13_readPerson 34 = .ok (.aload_n 0, 1) := by decide +kernel
theorem dX13_readPerson_35 : decode cX13_readPerson 35 = .ok (.iconst 5, 1) := by decide +kernel
theorem dX13_readPerson_36 : decode cX13_readPerson 36 = .ok (.iload_n 1, 1) := by decide +kernel
theorem dX13_readPerson_37 : decode cX13_readPerson 37 = .ok (.iadd, 1) := by decide +kernel
theorem dX13_readPerson_38 : decode cX13_readPerson 38 = .ok (.iconst 0, 1) := by decide +kernel
theorem dX13_readPerson_39 : decode cX13_readPerson 39 = .ok (.bipush 20, 2) := by decide +kernel
theorem dX13_readPerson_41 : decode cX13_readPerson 41 = .ok (.invokevirtual 221, 3) := by decide +kernel
theorem dX13_readPerson_44 : decode cX13_readPerson 44 = .ok (.ifCond .eq 31, 3) := by decide +kernel
theorem dX13_readPerson_47 : decode cX13_readPerson 47 = .ok (.aload_n 0, 1) := by decide +kernel
theorem dX13_readPerson_48 : decode cX13_readPerson 48 = .ok (.bipush 12, 2) := by decide +kernel
theorem dX13_readPerson_50 : decode cX13_readPerson 50 = .ok (.iload_n 1, 1) := by decide +kernel
theorem dX13_readPerson_51 : decode cX13_readPerson 51 = .ok (.iadd, 1) := by decide +kernel
theorem dX13_readPerson_52 : decode cX13_readPerson 52 = .ok (.iconst 0, 1) := by decide +kernel
theorem dX13_readPerson_53 : decode cX13_readPerson 53 = .ok (.bipush 20, 2) := by decide +kernel
theorem dX13_readPerson_55 : decode cX13_readPerson 55 = .ok (.invokevirtual 221, 3) := by decide +kernel
theorem dX13_readPerson_58 : decode cX13_readPerson 58 = .ok (.ifCond .eq 17, 3) := by decide +kernel
theorem dX13_readPerson_61 : decode cX13_readPerson 61 = .ok (.aload_n 0, 1) := by decide +kernel
theorem dX13_readPerson_62 : decode cX13_readPerson 62 = .ok (.bipush 19, 2) := by decide +kernel
theorem dX13_readPerson_64 : decode cX13_readPerson 64 = .ok (.iload_n 1, 1) := by decide +kernel
theorem dX13_readPerson_65 : decode cX13_readPerson 65 = .ok (.iadd, 1) := by decide +kernel
theorem dX13_readPerson_66 : decode cX13_readPerson 66 = .ok (.iconst 1, 1) := by decide +kernel
theorem dX13_readPerson_67 : decode cX13_readPerson 67 = .ok (.bipush 20, 2) := by decide +kernel
theorem dX13_readPerson_69 : decode cX13_readPerson 69 = .ok (.invokevirtual 221, 3) := by decide +kernel
theorem dX13_readPerson_72 : decode cX13_readPerson 72 = .ok (.ifCond .ne 5, 3) := by decide +kernel
theorem dX13_readPerson_75 : decode cX13_readPerson 75 = .ok (.iconst 0, 1) := by decide +kernel
theorem dX13_readPerson_76 : decode cX13_readPerson 76 = .ok (.ireturn, 1) := by decide +kernel
theorem dX13_readPerson_77 : decode cX13_readPerson 77 = .ok (.aload_n 0, 1) := by decide +kernel
theorem dX13_readPerson_78 : decode cX13_readPerson 78 = .ok (.getfield 37, 3) := by decide +kernel
theorem dX13_readPerson_81 : decode cX13_readPerson 81 = .ok (.iconst 0, 1) := by decide +kernel
theorem dX13_readPerson_82 : decode cX13_readPerson 82 = .ok (.dup2, 1) := by decide +kernel
theorem dX13_readPerson_83 : decode cX13_readPerson 83 = .ok (.iaload, 1) := by decide +kernel
theorem dX13_readPerson_84 : decode cX13_readPerson 84 = .ok (.iconst 1, 1) := by decide +kernel
theorem dX13_readPerson_85 : decode cX13_readPerson 85 = .ok (.iadd, 1) := by decide +kernel
theorem dX13_readPerson_86 : decode cX13_readPerson 86 = .ok (.iastore, 1) := by decide +kernel
theorem dX13_readPerson_87 : decode cX13_readPerson 87 = .ok (.iconst 1, 1) := by decide +kernel
theorem dX13_readPerson_88 : decode cX13_readPerson 88 = .ok (.ireturn, 1) := by decide +kernel
set_option maxRecDepth 100000 in
set_option maxHeartbeats 4000000 in
theorem kX13_readPerson {E : KE} {l : Launch} (hE : mx_ok E)  (hT : E.1 = mt) (M : MM) {q : (Bool × MM)} (hf : fX13_readPerson M = some q) : mx_Met E l yX13_readPerson cX13_readPerson 2 (some .boolean) 4 [.ref (E.2.1.2.1 0)] M (some (.int (mx_b q.1))) q.2 := by
  refine mx_enter hE (by decide) (Nat.le_of_ble_eq_true rfl) ?_
  intro p e s m below meth c C hM hn ls hl
  have hx := C.1.1
  have hb := C.1.2.1
  have hown := C.1.2.2.2.1
  have hts := C.1.2.2.2.2
  have hl : lv_has ls 2 [(0, .ref (E.2.1.2.1 0))] := hl
  rw [fX13_readPerson] at hf
  refine lv_aload_n hx hb dX13_readPerson_0 rfl (lv_at hl 0 rfl) ?_
  refine g13_37 C hT hM dX13_readPerson_1 ?_
  refine lv_iconst (v := (0 : Int32)) hx hb dX13_readPerson_4 (by decide) ?_
  refine mx_ialdL C hM (mt_3 hT) (j := 0) (by decide) (mx_in_vp (by decide)) dX13_readPerson_5 ?_
  refine lv_istore_n (lv' := [(1, .int (M.1 3 0)), (0, .ref (E.2.1.2.1 0))]) hx hb dX13_readPerson_6 rfl hl (by decide) rfl (fun ls hl => ?_)
  refine lv_iload_n hx hb dX13_readPerson_7 rfl (lv_at hl 0 rfl) ?_
  refine lv_bipush (v := (7 : Int32)) hx hb dX13_readPerson_8 (by decide) ?_
  refine lv_icmp_ne (tgt := 19) hx hb dX13_readPerson_10 (by decide) (fun hc10 => ?_) (fun hc10 => ?_)
  · replace hf := mx_iff hc10 hf
    refine lv_aload_n hx hb dX13_readPerson_19 rfl (lv_at hl 1 rfl) ?_
    obtain ⟨q20, hq20, hf⟩ := mx_bd hf
    refine mx_callV C hM hl.1 yo_X13_next (h' := 1) (by decide) qw_1558 qw_1560 qs_113 (ci := 13) (q := (RX13, TX13, 52)) rfl (mt_0 hT) (As := []) (rest := []) (st1 := []) (kX13_next C.2.2.2.1  hT M hq20) rfl rfl rfl (Nat.le_of_ble_eq_true rfl) dX13_readPerson_20 (fun H locs hM => ?_)
    refine lv_aload_n hx hb dX13_readPerson_23 rfl (lv_at hl 1 rfl) ?_
    refine lv_bipush (v := (14 : Int32)) hx hb dX13_readPerson_24 (by decide) ?_
    refine lv_iload_n hx hb dX13_readPerson_26 rfl (lv_at hl 0 rfl) ?_
    refine lv_iadd hx hb dX13_readPerson_27 ?_
    obtain ⟨q28, hq28, hf⟩ := mx_bd hf
    refine mx_callV C hM hl.1 yo_X13_fresh (h' := 2) (by decide) qw_1588 qw_1590 qs_119 (ci := 13) (q := (RX13, TX13, 52)) rfl (mt_0 hT) (As := [.int ((14 : Int32) + (M.1 3 0))]) (rest := []) (st1 := [.int (mx_b q28.1)]) (kX13_fresh C.2.2.2.1 ((14 : Int32) + (M.1 3 0)) hT q20 hq28) rfl rfl rfl (Nat.le_of_ble_eq_true rfl) dX13_readPerson_28 (fun H locs hM => ?_)
    refine lv_if_eq (tgt := 75) hx hb dX13_readPerson_31 (by decide) (fun hc31 => ?_) (fun hc31 => ?_)
    · replace hf := mx_ift hc31 hf
      refine lv_iconst (v := (0 : Int32)) hx hb dX13_readPerson_75 (by decide) ?_
      exact mx_zret C hM (b := false) rfl hf dX13_readPerson_76
    · replace hf := mx_iff hc31 hf
      refine lv_aload_n hx hb dX13_readPerson_34 rfl (lv_at hl 1 rfl) ?_
      refine lv_iconst (v := (5 : Int32)) hx hb dX13_readPerson_35 (by decide) ?_
      refine lv_iload_n hx hb dX13_readPerson_36 rfl (lv_at hl 0 rfl) ?_
      refine lv_iadd hx hb dX13_readPerson_37 ?_
      refine lv_iconst (v := (0 : Int32)) hx hb dX13_readPerson_38 (by decide) ?_
      refine lv_bipush (v := (20 : Int32)) hx hb dX13_readPerson_39 (by decide) ?_
      obtain ⟨q41, hq41, hf⟩ := mx_bd hf
      refine mx_callV C hM hl.1 yo_X13_puts (h' := 3) (by decide) qw_1600 qw_1602 qs_122 (ci := 13) (q := (RX13, TX13, 52)) rfl (mt_0 hT) (As := [.int ((5 : Int32) + (M.1 3 0)), .int (0 : Int32), .int (20 : Int32)]) (rest := []) (st1 := [.int (mx_b q41.1)]) (kX13_puts C.2.2.2.1 ((5 : Int32) + (M.1 3 0)) (0 : Int32) (20 : Int32) hT q28.2 hq41) rfl rfl rfl (Nat.le_of_ble_eq_true rfl) dX13_readPerson_41 (fun H locs hM => ?_)
      refine lv_if_eq (tgt := 75) hx hb dX13_readPerson_44 (by decide) (fun hc44 => ?_) (fun hc44 => ?_)
      · replace hf := mx_ift hc44 hf
        refine lv_iconst (v := (0 : Int32)) hx hb dX13_readPerson_75 (by decide) ?_
        exact mx_zret C hM (b := false) rfl hf dX13_readPerson_76
      · replace hf := mx_iff hc44 hf
        refine lv_aload_n hx hb dX13_readPerson_47 rfl (lv_at hl 1 rfl) ?_
        refine lv_bipush (v := (12 : Int32)) hx hb dX13_readPerson_48 (by decide) ?_
        refine lv_iload_n hx hb dX13_readPerson_50 rfl (lv_at hl 0 rfl) ?_
        refine lv_iadd hx hb dX13_readPerson_51 ?_
        refine lv_iconst (v := (0 : Int32)) hx hb dX13_readPerson_52 (by decide) ?_
        refine lv_bipush (v := (20 : Int32)) hx hb dX13_readPerson_53 (by decide) ?_
        obtain ⟨q55, hq55, hf⟩ := mx_bd hf
        refine mx_callV C hM hl.1 yo_X13_puts (h' := 3) (by decide) qw_1600 qw_1602 qs_122 (ci := 13) (q := (RX13, TX13, 52)) rfl (mt_0 hT) (As := [.int ((12 : Int32) + (M.1 3 0)), .int (0 : Int32), .int (20 : Int32)]) (rest := []) (st1 := [.int (mx_b q55.1)]) (kX13_puts C.2.2.2.1 ((12 : Int32) + (M.1 3 0)) (0 : Int32) (20 : Int32) hT q41.2 hq55) rfl rfl rfl (Nat.le_of_ble_eq_true rfl) dX13_readPerson_55 (fun H locs hM => ?_)
        refine lv_if_eq (tgt := 75) hx hb dX13_readPerson_58 (by decide) (fun hc58 => ?_) (fun hc58 => ?_)
        · replace hf := mx_ift hc58 hf
          refine lv_iconst (v := (0 : Int32)) hx hb dX13_readPerson_75 (by decide) ?_
          exact mx_zret C hM (b := false) rfl hf dX13_readPerson_76
        · replace hf := mx_iff hc58 hf
          refine lv_aload_n hx hb dX13_readPerson_61 rfl (lv_at hl 1 rfl) ?_
          refine lv_bipush (v := (19 : Int32)) hx hb dX13_readPerson_62 (by decide) ?_
          refine lv_iload_n hx hb dX13_readPerson_64 rfl (lv_at hl 0 rfl) ?_
          refine lv_iadd hx hb dX13_readPerson_65 ?_
          refine lv_iconst (v := (1 : Int32)) hx hb dX13_readPerson_66 (by decide) ?_
          refine lv_bipush (v := (20 : Int32)) hx hb dX13_readPerson_67 (by decide) ?_
          obtain ⟨q69, hq69, hf⟩ := mx_bd hf
          refine mx_callV C hM hl.1 yo_X13_puts (h' := 3) (by decide) qw_1600 qw_1602 qs_122 (ci := 13) (q := (RX13, TX13, 52)) rfl (mt_0 hT) (As := [.int ((19 : Int32) + (M.1 3 0)), .int (1 : Int32), .int (20 : Int32)]) (rest := []) (st1 := [.int (mx_b q69.1)]) (kX13_puts C.2.2.2.1 ((19 : Int32) + (M.1 3 0)) (1 : Int32) (20 : Int32) hT q55.2 hq69) rfl rfl rfl (Nat.le_of_ble_eq_true rfl) dX13_readPerson_69 (fun H locs hM => ?_)
          refine lv_if_ne (tgt := 77) hx hb dX13_readPerson_72 (by decide) (fun hc72 => ?_) (fun hc72 => ?_)
          · replace hf := mx_iff hc72 hf
            refine lv_aload_n hx hb dX13_readPerson_77 rfl (lv_at hl 1 rfl) ?_
            refine g13_37 C hT hM dX13_readPerson_78 ?_
            refine lv_iconst (v := (0 : Int32)) hx hb dX13_readPerson_81 (by decide) ?_
            refine lv_dup2_11 hx hb dX13_readPerson_82 rfl rfl ?_
            refine mx_ialdL C hM (mt_3 hT) (j := 0) (by decide) (mx_in_vp (by decide)) dX13_readPerson_83 ?_
            refine lv_iconst (v := (1 : Int32)) hx hb dX13_readPerson_84 (by decide) ?_
            refine lv_iadd hx hb dX13_readPerson_85 ?_
            refine mx_iastL C hM (mt_3 hT) (j := 0) (by decide) (mx_in_vp (by decide)) dX13_readPerson_86 (fun H locs hM => ?_)
            refine lv_iconst (v := (1 : Int32)) hx hb dX13_readPerson_87 (by decide) ?_
            exact mx_zret C hM (b := true) rfl hf dX13_readPerson_88
          · replace hf := mx_ift hc72 hf
            refine lv_iconst (v := (0 : Int32)) hx hb dX13_readPerson_75 (by decide) ?_
            exact mx_zret C hM (b := false) rfl hf dX13_readPerson_76
  · replace hf := mx_ift hc10 hf
    refine lv_aload_n hx hb dX13_readPerson_13 rfl (lv_at hl 1 rfl) ?_
    refine lv_iconst (v := (4 : Int32)) hx hb dX13_readPerson_14 (by decide) ?_
    obtain ⟨q15, hq15, hf⟩ := mx_bd hf
    refine mx_callV C hM hl.1 yo_X13_bad (h' := 0) (by decide) qw_1584 qw_1586 qs_118 (ci := 13) (q := (RX13, TX13, 52)) rfl (mt_0 hT) (As := [.int (4 : Int32)]) (rest := []) (st1 := [.int (mx_b q15.1)]) (kX13_bad C.2.2.2.1 (4 : Int32) hT M hq15) rfl rfl rfl (Nat.le_of_ble_eq_true rfl) dX13_readPerson_15 (fun H locs hM => ?_)
    exact mx_zret C hM (b := q15.1) rfl hf dX13_readPerson_18
