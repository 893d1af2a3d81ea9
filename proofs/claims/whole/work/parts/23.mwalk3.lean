theorem dX13_tries_0 : decode cX13_tries 0 = .ok (.iconst 0, 1) := by decide +kernel
theorem dX13_tries_1 : decode cX13_tries 1 = .ok (.istore_n 1, 1) := by decide +kernel
theorem dX13_tries_2 : decode cX13_tries 2 = .ok (.iload_n 1, 1) := by decide +kernel
theorem dX13_tries_3 : decode cX13_tries 3 = .ok (.bipush 59, 2) := by decide +kernel
theorem dX13_tries_5 : decode cX13_tries 5 = .ok (.if_icmp .ge 24, 3) := by decide +kernel
theorem dX13_tries_8 : decode cX13_tries 8 = .ok (.aload_n 0, 1) := by decide +kernel
theorem dX13_tries_9 : decode cX13_tries 9 = .ok (.getfield 53, 3) := by decide +kernel
theorem dX13_tries_12 : decode cX13_tries 12 = .ok (.iload_n 1, 1) := by decide +kernel
theorem dX13_tries_13 : decode cX13_tries 13 = .ok (.aload_n 0, 1) := by decide +kernel
theorem dX13_tries_14 : decode cX13_tries 14 = .ok (.getfield 33, 3) := by decide +kernel
theorem dX13_tries_17 : decode cX13_tries 17 = .ok (.bipush 54, 2) := by decide +kernel
theorem dX13_tries_19 : decode cX13_tries 19 = .ok (.iload_n 1, 1) := by decide +kernel
theorem dX13_tries_20 : decode cX13_tries 20 = .ok (.iadd, 1) := by decide +kernel
theorem dX13_tries_21 : decode cX13_tries 21 = .ok (.iaload, 1) := by decide +kernel
theorem dX13_tries_22 : decode cX13_tries 22 = .ok (.iastore, 1) := by decide +kernel
theorem dX13_tries_23 : decode cX13_tries 23 = .ok (.iinc 1 1, 3) := by decide +kernel
theorem dX13_tries_26 : decode cX13_tries 26 = .ok (.goto (-24), 3) := by decide +kernel
theorem dX13_tries_29 : decode cX13_tries 29 = .ok (.return_, 1) := by decide +kernel
set_option maxRecDepth 100000 in
set_option maxHeartbeats 4000000 in
theorem wfX13_tries_2 {E : KE} {p : Program} {l : Launch} {e : Env} {s : State} {m : MethodId} {args : Array Value} {below : List Frame} {meth : Method} {c : Code} {q : MM} (C : mx_C E p m c cX13_tries 2 s args RX13 meth none)  (hT : E.1 = mt)   : ∀ (n : Nat) (i1 : Int32) (M : MM) (H : Heap) (locs : List Loc) (ls : Array Slot), fX13_tries_2 n i1 M = some q → mx_H E s M H locs → lv_has ls 2 [(0, .ref (E.2.1.2.1 0)), (1, .int i1)] → W p l e (mx_rm 0) s m args below meth c H locs 0 0 (mx_Z E below args s none q) (F0 m 2 ls []) := by
  have hx := C.1.1
  have hb := C.1.2.1
  have hown := C.1.2.2.2.1
  have hts := C.1.2.2.2.2
  intro n
  induction n with
  | zero =>
    intro i1 M H locs ls hf hM hl
    rw [fX13_tries_2] at hf
    cases hf
  | succ n ih =>
    intro i1 M H locs ls hf hM hl
    rw [fX13_tries_2] at hf
    refine lv_iload_n hx hb dX13_tries_2 rfl (lv_at hl 1 rfl) ?_
    refine lv_bipush (v := (59 : Int32)) hx hb dX13_tries_3 (by decide) ?_
    refine lv_icmp_ge (tgt := 29) hx hb dX13_tries_5 (by decide) (fun hc5 => ?_) (fun hc5 => ?_)
    · replace hf := mx_ift hc5 hf
      exact mx_vret C hM hf dX13_tries_29
    · replace hf := mx_iff hc5 hf
      refine lv_aload_n hx hb dX13_tries_8 rfl (lv_at hl 0 rfl) ?_
      refine g13_53 C hT hM dX13_tries_9 ?_
      refine lv_iload_n hx hb dX13_tries_12 rfl (lv_at hl 1 rfl) ?_
      refine lv_aload_n hx hb dX13_tries_13 rfl (lv_at hl 0 rfl) ?_
      refine g13_33 C hT hM dX13_tries_14 ?_
      refine lv_bipush (v := (54 : Int32)) hx hb dX13_tries_17 (by decide) ?_
      refine lv_iload_n hx hb dX13_tries_19 rfl (lv_at hl 1 rfl) ?_
      refine lv_iadd hx hb dX13_tries_20 ?_
      obtain ⟨hg21, hf⟩ := mx_gd hf
      refine mx_iald C hM (mt_2 hT) (mx_in_vp hg21) dX13_tries_21 ?_
      obtain ⟨hg22, hf⟩ := mx_gd hf
      refine mx_iast C hM (mt_8 hT) (mx_in_vp hg22) dX13_tries_22 (fun H locs hM => ?_)
      refine lv_iinc (v := (i1 + (1 : Int32))) (lv' := [(1, .int (i1 + (1 : Int32))), (0, .ref (E.2.1.2.1 0))]) hx hb dX13_tries_23 hl (k := 1) rfl rfl (by decide) rfl (fun ls hl => ?_)
      refine lv_goto (tgt := 2) hx hb dX13_tries_26 (by decide) ?_
      exact ih (i1 + (1 : Int32)) (mx_si M 8 i1.toNatClampNeg (M.1 2 ((54 : Int32) + i1).toNatClampNeg)) _ _ _ hf hM (lv_sub hl [1, 0] rfl)
set_option maxRecDepth 100000 in
set_option maxHeartbeats 4000000 in
theorem kX13_tries {E : KE} {l : Launch} (hE : mx_ok E)  (hT : E.1 = mt) (M : MM) {q : MM} (hf : fX13_tries M = some q) : mx_Met E l yX13_tries cX13_tries 2 none 0 [.ref (E.2.1.2.1 0)] M none q := by
  refine mx_enter hE (by decide) (Nat.le_of_ble_eq_true rfl) ?_
  intro p e s m below meth c C hM hn ls hl
  have hx := C.1.1
  have hb := C.1.2.1
  have hown := C.1.2.2.2.1
  have hts := C.1.2.2.2.2
  have hl : lv_has ls 2 [(0, .ref (E.2.1.2.1 0))] := hl
  rw [fX13_tries] at hf
  refine lv_iconst (v := (0 : Int32)) hx hb dX13_tries_0 (by decide) ?_
  refine lv_istore_n (lv' := [(1, .int (0 : Int32)), (0, .ref (E.2.1.2.1 0))]) hx hb dX13_tries_1 rfl hl (by decide) rfl (fun ls hl => ?_)
  exact wfX13_tries_2 C hT mx_fu (0 : Int32) M _ _ _ hf hM (lv_sub hl [1, 0] rfl)
theorem dX13_back_0 : decode cX13_back 0 = .ok (.iconst 0, 1) := by decide +kernel
theorem dX13_back_1 : decode cX13_back 1 = .ok (.istore_n 1, 1) := by decide +kernel
theorem dX13_back_2 : decode cX13_back 2 = .ok (.iload_n 1, 1) := by decide +kernel
theorem dX13_back_3 : decode cX13_back 3 = .ok (.bipush 59, 2) := by decide +kernel
theorem dX13_back_5 : decode cX13_back 5 = .ok (.if_icmp .ge 24, 3) := by decide +kernel
theorem dX13_back_8 : decode cX13_back 8 = .ok (.aload_n 0, 1) := by decide +kernel
theorem dX13_back_9 : decode cX13_back 9 = .ok (.getfield 33, 3) := by decide +kernel
theorem dX13_back_12 : decode cX13_back 12 = .ok (.bipush 54, 2) := by decide +kernel
theorem dX13_back_14 : decode cX13_back 14 = .ok (.iload_n 1, 1) := by decide +kernel
theorem dX13_back_15 : decode cX13_back 15 = .ok (.iadd, 1) := by decide +kernel
theorem dX13_back_16 : decode cX13_back 16 = .ok (.aload_n 0, 1) := by decide +kernel
theorem dX13_back_17 : decode cX13_back 17 = .ok (.getfield 53, 3) := by decide +kernel
theorem dX13_back_20 : decode cX13_back 20 = .ok (.iload_n 1, 1) := by decide +kernel
theorem dX13_back_21 : decode cX13_back 21 = .ok (.iaload, 1) := by decide +kernel
theorem dX13_back_22 : decode cX13_back 22 = .ok (.iastore, 1) := by decide +kernel
theorem dX13_back_23 : decode cX13_back 23 = .ok (.iinc 1 1, 3) := by decide +kernel
theorem dX13_back_26 : decode cX13_back 26 = .ok (.goto (-24), 3) := by decide +kernel
theorem dX13_back_29 : decode cX13_back 29 = .ok (.return_, 1) := by decide +kernel
set_option maxRecDepth 100000 in
set_option maxHeartbeats 4000000 in
theorem wfX13_back_2 {E : KE} {p : Program} {l : Launch} {e : Env} {s : State} {m : MethodId} {args : Array Value} {below : List Frame} {meth : Method} {c : Code} {q : MM} (C : mx_C E p m c cX13_back 2 s args RX13 meth none)  (hT : E.1 = mt)   : ∀ (n : Nat) (i1 : Int32) (M : MM) (H : Heap) (locs : List Loc) (ls : Array Slot), fX13_back_2 n i1 M = some q → mx_H E s M H locs → lv_has ls 2 [(0, .ref (E.2.1.2.1 0)), (1, .int i1)] → W p l e (mx_rm 0) s m args below meth c H locs 0 0 (mx_Z E below args s none q) (F0 m 2 ls []) := by
  have hx := C.1.1
  have hb := C.1.2.1
  have hown := C.1.2.2.2.1
  have hts := C.1.2.2.2.2
  intro n
  induction n with
  | zero =>
    intro i1 M H locs ls hf hM hl
    rw [fX13_back_2] at hf
    cases hf
  | succ n ih =>
    intro i1 M H locs ls hf hM hl
    rw [fX13_back_2] at hf
    refine lv_iload_n hx hb dX13_back_2 rfl (lv_at hl 1 rfl) ?_
    refine lv_bipush (v := (59 : Int32)) hx hb dX13_back_3 (by decide) ?_
    refine lv_icmp_ge (tgt := 29) hx hb dX13_back_5 (by decide) (fun hc5 => ?_) (fun hc5 => ?_)
    · replace hf := mx_ift hc5 hf
      exact mx_vret C hM hf dX13_back_29
    · replace hf := mx_iff hc5 hf
      refine lv_aload_n hx hb dX13_back_8 rfl (lv_at hl 0 rfl) ?_
      refine g13_33 C hT hM dX13_back_9 ?_
      refine lv_bipush (v := (54 : Int32)) hx hb dX13_back_12 (by decide) ?_
      refine lv_iload_n hx hb dX13_back_14 rfl (lv_at hl 1 rfl) ?_
      refine lv_iadd hx hb dX13_back_15 ?_
      refine lv_aload_n hx hb dX13_back_16 rfl (lv_at hl 0 rfl) ?_
      refine g13_53 C hT hM dX13_back_17 ?_
      refine lv_iload_n hx hb dX13_back_20 rfl (lv_at hl 1 rfl) ?_
      obtain ⟨hg21, hf⟩ := mx_gd hf
      refine mx_iald C hM (mt_8 hT) (mx_in_vp hg21) dX13_back_21 ?_
      obtain ⟨hg22, hf⟩ := mx_gd hf
      refine mx_iast C hM (mt_2 hT) (mx_in_vp hg22) dX13_back_22 (fun H locs hM => ?_)
      refine lv_iinc (v := (i1 + (1 : Int32))) (lv' := [(1, .int (i1 + (1 : Int32))), (0, .ref (E.2.1.2.1 0))]) hx hb dX13_back_23 hl (k := 1) rfl rfl (by decide) rfl (fun ls hl => ?_)
      refine lv_goto (tgt := 2) hx hb dX13_back_26 (by decide) ?_
      exact ih (i1 + (1 : Int32)) (mx_si M 2 ((54 : Int32) + i1).toNatClampNeg (M.1 8 i1.toNatClampNeg)) _ _ _ hf hM (lv_sub hl [1, 0] rfl)
set_option maxRecDepth 100000 in
set_option maxHeartbeats 4000000 in
theorem kX13_back {E : KE} {l : Launch} (hE : mx_ok E)  (hT : E.1 = mt) (M : MM) {q : MM} (hf : fX13_back M = some q) : mx_Met E l yX13_back cX13_back 2 none 0 [.ref (E.2.1.2.1 0)] M none q := by
  refine mx_enter hE (by decide) (Nat.le_of_ble_eq_true rfl) ?_
  intro p e s m below meth c C hM hn ls hl
  have hx := C.1.1
  have hb := C.1.2.1
  have hown := C.1.2.2.2.1
  have hts := C.1.2.2.2.2
  have hl : lv_has ls 2 [(0, .ref (E.2.1.2.1 0))] := hl
  rw [fX13_back] at hf
  refine lv_iconst (v := (0 : Int32)) hx hb dX13_back_0 (by decide) ?_
  refine lv_istore_n (lv' := [(1, .int (0 : Int32)), (0, .ref (E.2.1.2.1 0))]) hx hb dX13_back_1 rfl hl (by decide) rfl (fun ls hl => ?_)
  exact wfX13_back_2 C hT mx_fu (0 : Int32) M _ _ _ hf hM (lv_sub hl [1, 0] rfl)
theorem dX13_daysFor_0 : decode cX13_daysFor 0 = .ok (.iconst 0, 1) := by decide +kernel
theorem dX13_daysFor_1 : decode cX13_daysFor 1 = .ok (.iload_n 1, 1) := by decide +kernel
theorem dX13_daysFor_2 : decode cX13_daysFor 2 = .ok (.iload_n 2, 1) := by decide +kernel
theorem dX13_daysFor_3 : decode cX13_daysFor 3 = .ok (.iadd, 1) := by decide +kernel
theorem dX13_daysFor_4 : decode cX13_daysFor 4 = .ok (.iconst 1, 1) := by decide +kernel
theorem dX13_daysFor_5 : decode cX13_daysFor 5 = .ok (.isub, 1) := by decide +kernel
theorem dX13_daysFor_6 : decode cX13_daysFor 6 = .ok (.iload_n 2, 1) := by decide +kernel
theorem dX13_daysFor_7 : decode cX13_daysFor 7 = .ok (.idiv, 1) := by decide +kernel
theorem dX13_daysFor_8 : decode cX13_daysFor 8 = .ok (.iconst 1, 1) := by decide +kernel
theorem dX13_daysFor_9 : decode cX13_daysFor 9 = .ok (.isub, 1) := by decide +kernel
theorem dX13_daysFor_10 : decode cX13_daysFor 10 = .ok (.invokestatic 339, 3) := by decide +kernel
theorem dX13_daysFor_13 : decode cX13_daysFor 13 = .ok (.ireturn, 1) := by decide +kernel
set_option maxRecDepth 100000 in
set_option maxHeartbeats 4000000 in
theorem kX13_daysFor {E : KE} {l : Launch} (hE : mx_ok E) (i1 : Int32) (i2 : Int32) (hT : E.1 = mt) (M : MM) {q : Int32} (hf : fX13_daysFor i1 i2 M = some q) : mx_Met E l yX13_daysFor cX13_daysFor 3 (some .int) 1 [.ref (E.2.1.2.1 0), .int i1, .int i2] M (some (.int q)) M := by
  refine mx_enter hE (by decide) (Nat.le_of_ble_eq_true rfl) ?_
  intro p e s m below meth c C hM hn ls hl
  have hx := C.1.1
  have hb := C.1.2.1
  have hown := C.1.2.2.2.1
  have hts := C.1.2.2.2.2
  have hl : lv_has ls 3 [(0, .ref (E.2.1.2.1 0)), (1, .int i1), (2, .int i2)] := hl
  rw [fX13_daysFor] at hf
  refine lv_iconst (v := (0 : Int32)) hx hb dX13_daysFor_0 (by decide) ?_
  refine lv_iload_n hx hb dX13_daysFor_1 rfl (lv_at hl 1 rfl) ?_
  refine lv_iload_n hx hb dX13_daysFor_2 rfl (lv_at hl 2 rfl) ?_
  refine lv_iadd hx hb dX13_daysFor_3 ?_
  refine lv_iconst (v := (1 : Int32)) hx hb dX13_daysFor_4 (by decide) ?_
  refine lv_isub hx hb dX13_daysFor_5 ?_
  refine lv_iload_n hx hb dX13_daysFor_6 rfl (lv_at hl 2 rfl) ?_
  obtain ⟨hz7, hf⟩ := mx_gn hf
  refine lv_idiv hx hb dX13_daysFor_7 hz7 ?_
  refine lv_iconst (v := (1 : Int32)) hx hb dX13_daysFor_8 (by decide) ?_
  refine lv_isub hx hb dX13_daysFor_9 ?_
  obtain ⟨q10, hq10, hf⟩ := mx_bd hf
  refine mx_callS C hM hl.1 yo_X13_greater (h' := 0) (by decide) qw_1796 qw_1797 (As := [.int (0 : Int32), .int ((((i1 + i2) - (1 : Int32)) / i2) - (1 : Int32))]) (rest := []) (st1 := [.int q10]) (kX13_greater C.2.2.2.1 (0 : Int32) ((((i1 + i2) - (1 : Int32)) / i2) - (1 : Int32)) hT M hq10) rfl rfl rfl (Nat.le_of_ble_eq_true rfl) dX13_daysFor_10 (fun H locs hM => ?_)
  exact mx_iretR C hM hf dX13_daysFor_13
theorem dX13_reachOf_0 : decode cX13_reachOf 0 = .ok (.aload_n 0, 1) := by decide +kernel
theorem dX13_reachOf_1 : decode cX13_reachOf 1 = .ok (.getfield 33, 3) := by decide +kernel
theorem dX13_reachOf_4 : decode cX13_reachOf 4 = .ok (.bipush 33, 2) := by decide +kernel
theorem dX13_reachOf_6 : decode cX13_reachOf 6 = .ok (.iload_n 1, 1) := by decide +kernel
theorem dX13_reachOf_7 : decode cX13_reachOf 7 = .ok (.iadd, 1) := by decide +kernel
theorem dX13_reachOf_8 : decode cX13_reachOf 8 = .ok (.iaload, 1) := by decide +kernel
theorem dX13_reachOf_9 : decode cX13_reachOf 9 = .ok (.istore_n 2, 1) := by decide +kernel
theorem dX13_reachOf_10 : decode cX13_reachOf 10 = .ok (.aload_n 0, 1) := by decide +kernel
theorem dX13_reachOf_11 : decode cX13_reachOf 11 = .ok (.getfield 33, 3) := by decide +kernel
theorem dX13_reachOf_14 : decode cX13_reachOf 14 = .ok (.bipush 85, 2) := by decide +kernel
theorem dX13_reachOf_16 : decode cX13_reachOf 16 = .ok (.iload_n 1, 1) := by decide +kernel
theorem dX13_reachOf_17 : decode cX13_reachOf 17 = .ok (.iadd, 1) := by decide +kernel
theorem dX13_reachOf_18 : decode cX13_reachOf 18 = .ok (.iaload, 1) := by decide +kernel
theorem dX13_reachOf_19 : decode cX13_reachOf 19 = .ok (.iconst 2, 1) := by decide +kernel
theorem dX13_reachOf_20 : decode cX13_reachOf 20 = .ok (.if_icmp .ne 39, 3) := by decide +kernel
theorem dX13_reachOf_23 : decode cX13_reachOf 23 = .ok (.aload_n 0, 1) := by decide +kernel
theorem dX13_reachOf_24 : decode cX13_reachOf 24 = .ok (.aload_n 0, 1) := by decide +kernel
theorem dX13_reachOf_25 : decode cX13_reachOf 25 = .ok (.iload_n 2, 1) := by decide +kernel
theorem dX13_reachOf_26 : decode cX13_reachOf 26 = .ok (.aload_n 0, 1) := by decide +kernel
theorem dX13_reachOf_27 : decode cX13_reachOf 27 = .ok (.getfield 33, 3) := by decide +kernel
theorem dX13_reachOf_30 : decode cX13_reachOf 30 = .ok (.bipush 99, 2) := by decide +kernel
theorem dX13_reachOf_32 : decode cX13_reachOf 32 = .ok (.iload_n 1, 1) := by decide +kernel
theorem dX13_reachOf_33 : decode cX13_reachOf 33 = .ok (.iadd, 1) := by decide +kernel
theorem dX13_reachOf_34 : decode cX13_reachOf 34 = .ok (.iaload, 1) := by decide +kernel
theorem dX13_reachOf_35 : decode cX13_reachOf 35 = .ok (.aload_n 0, 1) := by decide +kernel
theorem dX13_reachOf_36 : decode cX13_reachOf 36 = .ok (.getfield 33, 3) := by decide +kernel
theorem dX13_reachOf_39 : decode cX13_reachOf 39 = .ok (.bipush 106, 2) := by decide +kernel
theorem dX13_reachOf_41 : decode cX13_reachOf 41 = .ok (.iload_n 1, 1) := by decide +kernel
theorem dX13_reachOf_42 : decode cX13_reachOf 42 = .ok (.iadd, 1) := by decide +kernel
theorem dX13_reachOf_43 : decode cX13_reachOf 43 = .ok (.iaload, 1) := by decide +kernel
theorem dX13_reachOf_44 : decode cX13_reachOf 44 = .ok (.invokevirtual 266, 3) := by decide +kernel
theorem dX13_reachOf_47 : decode cX13_reachOf 47 = .ok (.aload_n 0, 1) := by decide +kernel
theorem dX13_reachOf_48 : decode cX13_reachOf 48 = .ok (.getfield 33, 3) := by decide +kernel
theorem dX13_reachOf_51 : decode cX13_reachOf 51 = .ok (.iconst 3, 1) := by decide +kernel
theorem dX13_reachOf_52 : decode cX13_reachOf 52 = .ok (.iaload, 1) := by decide +kernel
theorem dX13_reachOf_53 : decode cX13_reachOf 53 = .ok (.invokevirtual 342, 3) := by decide +kernel
theorem dX13_reachOf_56 : decode cX13_reachOf 56 = .ok (.goto 29, 3) := by decide +kernel
theorem dX13_reachOf_59 : decode cX13_reachOf 59 = .ok (.aload_n 0, 1) := by decide +kernel
theorem dX13_reachOf_60 : decode cX13_reachOf 60 = .ok (.aload_n 0, 1) := by decide +kernel
theorem dX13_reachOf_61 : decode cX13_reachOf 61 = .ok (.iload_n 2, 1) := by decide +kernel
theorem dX13_reachOf_62 : decode cX13_reachOf 62 = .ok (.aload_n 0, 1) := by decide +kernel
theorem dX13_reachOf_63 : decode cX13_reachOf 63 = .ok (.getfield 33, 3) := by decide +kernel
theorem dX13_reachOf_66 : decode cX13_reachOf 66 = .ok (.bipush 78, 2) := by decide +kernel
theorem dX13_reachOf_68 : decode cX13_reachOf 68 = .ok (.iload_n 1, 1) := by decide +kernel
theorem dX13_reachOf_69 : decode cX13_reachOf 69 = .ok (.iadd, 1) := by decide +kernel
theorem dX13_reachOf_70 : decode cX13_reachOf 70 = .ok (.iaload, 1) := by decide +kernel
theorem dX13_reachOf_71 : decode cX13_reachOf 71 = .ok (.invokevirtual 295, 3) := by decide +kernel
theorem dX13_reachOf_74 : decode cX13_reachOf 74 = .ok (.iconst 2, 1) := by decide +kernel
theorem dX13_reachOf_75 : decode cX13_reachOf 75 = .ok (.aload_n 0, 1) := by decide +kernel
theorem dX13_reachOf_76 : decode cX13_reachOf 76 = .ok (.getfield 33, 3) := by decide +kernel
theorem dX13_reachOf_79 : decode cX13_reachOf 79 = .ok (.iconst 3, 1) := by decide +kernel
theorem dX13_reachOf_80 : decode cX13_reachOf 80 = .ok (.iaload, 1) := by decide +kernel
theorem dX13_reachOf_81 : decode cX13_reachOf 81 = .ok (.imul, 1) := by decide +kernel
theorem dX13_reachOf_82 : decode cX13_reachOf 82 = .ok (.invokevirtual 342, 3) := by decide +kernel
theorem dX13_reachOf_85 : decode cX13_reachOf 85 = .ok (.ireturn, 1) := by decide +kernel
set_option maxRecDepth 100000 in
set_option maxHeartbeats 4000000 in
theorem kX13_reachOf {E : KE} {l : Launch} (hE : mx_ok E) (i1 : Int32) (hT : E.1 = mt) (M : MM) {q : Int32} (hf : fX13_reachOf i1 M = some q) : mx_Met E l yX13_reachOf cX13_reachOf 3 (some .int) 3 [.ref (E.2.1.2.1 0), .int i1] M (some (.int q)) M := by
  refine mx_enter hE (by decide) (Nat.le_of_ble_eq_true rfl) ?_
  intro p e s m below meth c C hM hn ls hl
  have hx := C.1.1
  have hb := C.1.2.1
  have hown := C.1.2.2.2.1
  have hts := C.1.2.2.2.2
  have hl : lv_has ls 3 [(0, .ref (E.2.1.2.1 0)), (1, .int i1)] := hl
  rw [fX13_reachOf] at hf
  refine lv_aload_n hx hb dX13_reachOf_0 rfl (lv_at hl 0 rfl) ?_
  refine g13_33 C hT hM dX13_reachOf_1 ?_
  refine lv_bipush (v := (33 : Int32)) hx hb dX13_reachOf_4 (by decide) ?_
  refine lv_iload_n hx hb dX13_reachOf_6 rfl (lv_at hl 1 rfl) ?_
  refine lv_iadd hx hb dX13_reachOf_7 ?_
  obtain ⟨hg8, hf⟩ := mx_gd hf
  refine mx_iald C hM (mt_2 hT) (mx_in_vp hg8) dX13_reachOf_8 ?_
  refine lv_istore_n (lv' := [(2, .int (M.1 2 ((33 : Int32) + i1).toNatClampNeg)), (0, .ref (E.2.1.2.1 0)), (1, .int i1)]) hx hb dX13_reachOf_9 rfl hl (by decide) rfl (fun ls hl => ?_)
  refine lv_aload_n hx hb dX13_reachOf_10 rfl (lv_at hl 1 rfl) ?_
  refine g13_33 C hT hM dX13_reachOf_11 ?_
  refine lv_bipush (v := (85 : Int32)) hx hb dX13_reachOf_14 (by decide) ?_
  refine lv_iload_n hx hb dX13_reachOf_16 rfl (lv_at hl 2 rfl) ?_
  refine lv_iadd hx hb dX13_reachOf_17 ?_
  obtain ⟨hg18, hf⟩ := mx_gd hf
  refine mx_iald C hM (mt_2 hT) (mx_in_vp hg18) dX13_reachOf_18 ?_
  refine lv_iconst (v := (2 : Int32)) hx hb dX13_reachOf_19 (by decide) ?_
  refine lv_icmp_ne (tgt := 59) hx hb dX13_reachOf_20 (by decide) (fun hc20 => ?_) (fun hc20 => ?_)
  · replace hf := mx_iff hc20 hf
    refine lv_aload_n hx hb dX13_reachOf_59 rfl (lv_at hl 1 rfl) ?_
    refine lv_aload_n hx hb dX13_reachOf_60 rfl (lv_at hl 1 rfl) ?_
    refine lv_iload_n hx hb dX13_reachOf_61 rfl (lv_at hl 0 rfl) ?_
    refine lv_aload_n hx hb dX13_reachOf_62 rfl (lv_at hl 1 rfl) ?_
    refine g13_33 C hT hM dX13_reachOf_63 ?_
    refine lv_bipush (v := (78 : Int32)) hx hb dX13_reachOf_66 (by decide) ?_
    refine lv_iload_n hx hb dX13_reachOf_68 rfl (lv_at hl 2 rfl) ?_
    refine lv_iadd hx hb dX13_reachOf_69 ?_
    obtain ⟨hg70, hf⟩ := mx_gd hf
    refine mx_iald C hM (mt_2 hT) (mx_in_vp hg70) dX13_reachOf_70 ?_
    obtain ⟨q71, hq71, hf⟩ := mx_bd hf
    refine mx_callV C hM hl.1 yo_X13_farOf (h' := 2) (by decide) qw_1725 qw_1727 qs_144 (ci := 13) (q := (RX13, TX13, 52)) rfl (mt_0 hT) (As := [.int (M.1 2 ((33 : Int32) + i1).toNatClampNeg), .int (M.1 2 ((78 : Int32) + i1).toNatClampNeg)]) (rest := [.ref (E.2.1.2.1 0)]) (st1 := [.int q71, .ref (E.2.1.2.1 0)]) (kX13_farOf C.2.2.2.1 (M.1 2 ((33 : Int32) + i1).toNatClampNeg) (M.1 2 ((78 : Int32) + i1).toNatClampNeg) hT M hq71) rfl rfl rfl (Nat.le_of_ble_eq_true rfl) dX13_reachOf_71 (fun H locs hM => ?_)
    refine lv_iconst (v := (2 : Int32)) hx hb dX13_reachOf_74 (by decide) ?_
    refine lv_aload_n hx hb dX13_reachOf_75 rfl (lv_at hl 1 rfl) ?_
    refine g13_33 C hT hM dX13_reachOf_76 ?_
    refine lv_iconst (v := (3 : Int32)) hx hb dX13_reachOf_79 (by decide) ?_
    refine mx_ialdL C hM (mt_2 hT) (j := 3) (by decide) (mx_in_vp (by decide)) dX13_reachOf_80 ?_
    refine lv_imul hx hb dX13_reachOf_81 ?_
    obtain ⟨q82, hq82, hf⟩ := mx_bd hf
    refine mx_callV C hM hl.1 yo_X13_daysFor (h' := 1) (by decide) qw_1792 qw_1794 qs_154 (ci := 13) (q := (RX13, TX13, 52)) rfl (mt_0 hT) (As := [.int q71, .int ((2 : Int32) * (M.1 2 3))]) (rest := []) (st1 := [.int q82]) (kX13_daysFor C.2.2.2.1 q71 ((2 : Int32) * (M.1 2 3)) hT M hq82) rfl rfl rfl (Nat.le_of_ble_eq_true rfl) dX13_reachOf_82 (fun H locs hM => ?_)
    exact mx_iretR C hM hf dX13_reachOf_85
  · replace hf := mx_ift hc20 hf
    refine lv_aload_n hx hb dX13_reachOf_23 rfl (lv_at hl 1 rfl) ?_
    refine lv_aload_n hx hb dX13_reachOf_24 rfl (lv_at hl 1 rfl) ?_
    refine lv_iload_n hx hb dX13_reachOf_25 rfl (lv_at hl 0 rfl) ?_
    refine lv_aload_n hx hb dX13_reachOf_26 rfl (lv_at hl 1 rfl) ?_
    refine g13_33 C hT hM dX13_reachOf_27 ?_
    refine lv_bipush (v := (99 : Int32)) hx hb dX13_reachOf_30 (by decide) ?_
    refine lv_iload_n hx hb dX13_reachOf_32 rfl (lv_at hl 2 rfl) ?_
    refine lv_iadd hx hb dX13_reachOf_33 ?_
    obtain ⟨hg34, hf⟩ := mx_gd hf
    refine mx_iald C hM (mt_2 hT) (mx_in_vp hg34) dX13_reachOf_34 ?_
    refine lv_aload_n hx hb dX13_reachOf_35 rfl (lv_at hl 1 rfl) ?_
    refine g13_33 C hT hM dX13_reachOf_36 ?_
    refine lv_bipush (v := (106 : Int32)) hx hb dX13_reachOf_39 (by decide) ?_
    refine lv_iload_n hx hb dX13_reachOf_41 rfl (lv_at hl 2 rfl) ?_
    refine lv_iadd hx hb dX13_reachOf_42 ?_
    obtain ⟨hg43, hf⟩ := mx_gd hf
    refine mx_iald C hM (mt_2 hT) (mx_in_vp hg43) dX13_reachOf_43 ?_
    obtain ⟨q44, hq44, hf⟩ := mx_bd hf
    refine mx_callV C hM hl.1 yo_X13_farBy (h' := 1) (by decide) qw_1702 qw_1704 qs_140 (ci := 13) (q := (RX13, TX13, 52)) rfl (mt_0 hT) (As := [.int (M.1 2 ((33 : Int32) + i1).toNatClampNeg), .int (M.1 2 ((99 : Int32) + i1).toNatClampNeg), .int (M.1 2 ((106 : Int32) + i1).toNatClampNeg)]) (rest := [.ref (E.2.1.2.1 0)]) (st1 := [.int q44, .ref (E.2.1.2.1 0)]) (kX13_farBy C.2.2.2.1 (M.1 2 ((33 : Int32) + i1).toNatClampNeg) (M.1 2 ((99 : Int32) + i1).toNatClampNeg) (M.1 2 ((106 : Int32) + i1).toNatClampNeg) hT M hq44) rfl rfl rfl (Nat.le_of_ble_eq_true rfl) dX13_reachOf_44 (fun H locs hM => ?_)
    refine lv_aload_n hx hb dX13_reachOf_47 rfl (lv_at hl 1 rfl) ?_
    refine g13_33 C hT hM dX13_reachOf_48 ?_
    refine lv_iconst (v := (3 : Int32)) hx hb dX13_reachOf_51 (by decide) ?_
    refine mx_ialdL C hM (mt_2 hT) (j := 3) (by decide) (mx_in_vp (by decide)) dX13_reachOf_52 ?_
    obtain ⟨q53, hq53, hf⟩ := mx_bd hf
    refine mx_callV C hM hl.1 yo_X13_daysFor (h' := 1) (by decide) qw_1792 qw_1794 qs_154 (ci := 13) (q := (RX13, TX13, 52)) rfl (mt_0 hT) (As := [.int q44, .int (M.1 2 3)]) (rest := []) (st1 := [.int q53]) (kX13_daysFor C.2.2.2.1 q44 (M.1 2 3) hT M hq53) rfl rfl rfl (Nat.le_of_ble_eq_true rfl) dX13_reachOf_53 (fun H locs hM => ?_)
    refine lv_goto (tgt := 85) hx hb dX13_reachOf_56 (by decide) ?_
    exact mx_iretR C hM hf dX13_reachOf_85
theorem dX13_reach_0 : decode cX13_reach 0 = .ok (.aload_n 0, 1) := by decide +kernel
theorem dX13_reach_1 : decode cX13_reach 1 = .ok (.iconst 0, 1) := by decide +kernel
theorem dX13_reach_2 : decode cX13_reach 2 = .ok (.putfield 1, 3) := by decide +kernel
theorem dX13_reach_5 : decode cX13_reach 5 = .ok (.aload_n 0, 1) := by decide +kernel
theorem dX13_reach_6 : decode cX13_reach 6 = .ok (.iload_n 1, 1) := by decide +kernel
theorem dX13_reach_7 : decode cX13_reach 7 = .ok (.invokevirtual 289, 3) := by decide +kernel
theorem dX13_reach_10 : decode cX13_reach 10 = .ok (.ifCond .eq 11, 3) := by decide +kernel
theorem dX13_reach_13 : decode cX13_reach 13 = .ok (.aload_n 0, 1) := by decide +kernel
theorem dX13_reach_14 : decode cX13_reach 14 = .ok (.iload_n 1, 1) := by decide +kernel
theorem dX13_reach_15 : decode cX13_reach 15 = .ok (.invokevirtual 345, 3) := by decide +kernel
theorem dX13_reach_18 : decode cX13_reach 18 = .ok (.goto 4, 3) := by decide +kernel
theorem dX13_reach_21 : decode cX13_reach 21 = .ok (.iconst (-1), 1) := by decide +kernel
theorem dX13_reach_22 : decode cX13_reach 22 = .ok (.ireturn, 1) := by decide +kernel
set_option maxRecDepth 100000 in
set_option maxHeartbeats 4000000 in
theorem kX13_reach {E : KE} {l : Launch} (hE : mx_ok E) (i1 : Int32) (hT : E.1 = mt) (M : MM) {q : (Int32 × MM)} (hf : fX13_reach i1 M = some q) : mx_Met E l yX13_reach cX13_reach 2 (some .int) 4 [.ref (E.2.1.2.1 0), .int i1] M (some (.int q.1)) q.2 := by
  refine mx_enter hE (by decide) (Nat.le_of_ble_eq_true rfl) ?_
  intro p e s m below meth c C hM hn ls hl
  have hx := C.1.1
  have hb := C.1.2.1
  have hown := C.1.2.2.2.1
  have hts := C.1.2.2.2.2
  have hl : lv_has ls 2 [(0, .ref (E.2.1.2.1 0)), (1, .int i1)] := hl
  rw [fX13_reach] at hf
  refine lv_aload_n hx hb dX13_reach_0 rfl (lv_at hl 0 rfl) ?_
  refine lv_iconst (v := (0 : Int32)) hx hb dX13_reach_1 (by decide) ?_
  refine p13_1 C hT hM dX13_reach_2 (fun H locs hM => ?_)
  refine lv_aload_n hx hb dX13_reach_5 rfl (lv_at hl 0 rfl) ?_
  refine lv_iload_n hx hb dX13_reach_6 rfl (lv_at hl 1 rfl) ?_
  obtain ⟨q7, hq7, hf⟩ := mx_bd hf
  refine mx_callV C hM hl.1 yo_X13_isRing (h' := 1) (by decide) qw_1674 qw_1676 qs_136 (ci := 13) (q := (RX13, TX13, 52)) rfl (mt_0 hT) (As := [.int i1]) (rest := []) (st1 := [.int (mx_b q7)]) (kX13_isRing C.2.2.2.1 i1 hT (mx_si M 0 0 (0 : Int32)) hq7) rfl rfl rfl (Nat.le_of_ble_eq_true rfl) dX13_reach_7 (fun H locs hM => ?_)
  refine lv_if_eq (tgt := 21) hx hb dX13_reach_10 (by decide) (fun hc10 => ?_) (fun hc10 => ?_)
  · replace hf := mx_ift hc10 hf
    refine lv_iconst (v := (-1 : Int32)) hx hb dX13_reach_21 (by decide) ?_
    exact mx_iret C hM hf dX13_reach_22
  · replace hf := mx_iff hc10 hf
    refine lv_aload_n hx hb dX13_reach_13 rfl (lv_at hl 0 rfl) ?_
    refine lv_iload_n hx hb dX13_reach_14 rfl (lv_at hl 1 rfl) ?_
    obtain ⟨q15, hq15, hf⟩ := mx_bd hf
    refine mx_callV C hM hl.1 yo_X13_reachOf (h' := 3) (by decide) qw_1788 qw_1790 qs_153 (ci := 13) (q := (RX13, TX13, 52)) rfl (mt_0 hT) (As := [.int i1]) (rest := []) (st1 := [.int q15]) (kX13_reachOf C.2.2.2.1 i1 hT (mx_si M 0 0 (0 : Int32)) hq15) rfl rfl rfl (Nat.le_of_ble_eq_true rfl) dX13_reach_15 (fun H locs hM => ?_)
    refine lv_goto (tgt := 22) hx hb dX13_reach_18 (by decide) ?_
    exact mx_iret C hM hf dX13_reach_22
theorem dX13_inTime_0 : decode cX13_inTime 0 = .ok (.aload_n 0, 1) := by decide +kernel
theorem dX13_inTime_1 : decode cX13_inTime 1 = .ok (.iconst 0, 1) := by decide +kernel
theorem dX13_inTime_2 : decode cX13_inTime 2 = .ok (.putfield 1, 3) := by decide +kernel
theorem dX13_inTime_5 : decode cX13_inTime 5 = .ok (.iconst 0, 1) := by decide +kernel
theorem dX13_inTime_6 : decode cX13_inTime 6 = .ok (.istore_n 1, 1) := by decide +kernel
theorem dX13_inTime_7 : decode cX13_inTime 7 = .ok (.iconst 0, 1) := by decide +kernel
theorem dX13_inTime_8 : decode cX13_inTime 8 = .ok (.istore_n 2, 1) := by decide +kernel
theorem dX13_inTime_9 : decode cX13_inTime 9 = .ok (.iload_n 2, 1) := by decide +kernel
theorem dX13_inTime_10 : decode cX13_inTime 10 = .ok (.aload_n 0, 1) := by decide +kernel
theorem dX13_inTime_11 : decode cX13_inTime 11 = .ok (.getfield 33, 3) := by decide +kernel
theorem dX13_inTime_14 : decode cX13_inTime 14 = .ok (.iconst 1, 1) := by decide +kernel
theorem dX13_inTime_15 : decode cX13_inTime 15 = .ok (.iaload, 1) := by decide +kernel
theorem dX13_inTime_16 : decode cX13_inTime 16 = .ok (.if_icmp .ge 56, 3) := by decide +kernel
theorem dX13_inTime_19 : decode cX13_inTime 19 = .ok (.iload_n 1, 1) := by decide +kernel
theorem dX13_inTime_20 : decode cX13_inTime 20 = .ok (.aload_n 0, 1) := by decide +kernel
theorem dX13_inTime_21 : decode cX13_inTime 21 = .ok (.getfield 33, 3) := by decide +kernel
theorem dX13_inTime_24 : decode cX13_inTime 24 = .ok (.bipush 92, 2) := by decide +kernel
theorem dX13_inTime_26 : decode cX13_inTime 26 = .ok (.iload_n 2, 1) := by decide +kernel
theorem dX13_inTime_27 : decode cX13_inTime 27 = .ok (.iadd, 1) := by decide +kernel
theorem dX13_inTime_28 : decode cX13_inTime 28 = .ok (.iaload, 1) := by decide +kernel
theorem dX13_inTime_29 : decode cX13_inTime 29 = .ok (.ifCond .ne 34, 3) := by decide +kernel
theorem dX13_inTime_32 : decode cX13_inTime 32 = .ok (.aload_n 0, 1) := by decide +kernel
theorem dX13_inTime_33 : decode cX13_inTime 33 = .ok (.getfield 33, 3) := by decide +kernel
theorem dX13_inTime_36 : decode cX13_inTime 36 = .ok (.bipush 54, 2) := by decide +kernel
theorem dX13_inTime_38 : decode cX13_inTime 38 = .ok (.iaload, 1) := by decide +kernel
theorem dX13_inTime_39 : decode cX13_inTime 39 = .ok (.aload_n 0, 1) := by decide +kernel
theorem dX13_inTime_40 : decode cX13_inTime 40 = .ok (.iload_n 2, 1) := by decide +kernel
theorem dX13_inTime_41 : decode cX13_inTime 41 = .ok (.invokevirtual 345, 3) := by decide +kernel
theorem dX13_inTime_44 : decode cX13_inTime 44 = .ok (.iadd, 1) := by decide +kernel
theorem dX13_inTime_45 : decode cX13_inTime 45 = .ok (.aload_n 0, 1) := by decide +kernel
theorem dX13_inTime_46 : decode cX13_inTime 46 = .ok (.getfield 33, 3) := by decide +kernel
theorem dX13_inTime_49 : decode cX13_inTime 49 = .ok (.bipush 47, 2) := by decide +kernel
theorem dX13_inTime_51 : decode cX13_inTime 51 = .ok (.iload_n 2, 1) := by decide +kernel
theorem dX13_inTime_52 : decode cX13_inTime 52 = .ok (.iadd, 1) := by decide +kernel
theorem dX13_inTime_53 : decode cX13_inTime 53 = .ok (.iaload, 1) := by decide +kernel
theorem dX13_inTime_54 : decode cX13_inTime 54 = .ok (.if_icmp .gt 9, 3) := by decide +kernel
theorem dX13_inTime_57 : decode cX13_inTime 57 = .ok (.iconst 1, 1) := by decide +kernel
theorem dX13_inTime_58 : decode cX13_inTime 58 = .ok (.iload_n 2, 1) := by decide +kernel
theorem dX13_inTime_59 : decode cX13_inTime 59 = .ok (.ishl, 1) := by decide +kernel
theorem dX13_inTime_60 : decode cX13_inTime 60 = .ok (.goto 4, 3) := by decide +kernel
theorem dX13_inTime_63 : decode cX13_inTime 63 = .ok (.iconst 0, 1) := by decide +kernel
theorem dX13_inTime_64 : decode cX13_inTime 64 = .ok (.ior, 1) := by decide +kernel
theorem dX13_inTime_65 : decode cX13_inTime 65 = .ok (.istore_n 1, 1) := by decide +kernel
theorem dX13_inTime_66 : decode cX13_inTime 66 = .ok (.iinc 2 1, 3) := by decide +kernel
theorem dX13_inTime_69 : decode cX13_inTime 69 = .ok (.goto (-60), 3) := by decide +kernel
theorem dX13_inTime_72 : decode cX13_inTime 72 = .ok (.iload_n 1, 1) := by decide +kernel
theorem dX13_inTime_73 : decode cX13_inTime 73 = .ok (.ireturn, 1) := by decide +kernel
set_option maxRecDepth 100000 in
set_option maxHeartbeats 4000000 in
theorem wfX13_inTime_9 {E : KE} {p : Program} {l : Launch} {e : Env} {s : State} {m : MethodId} {args : Array Value} {below : List Frame} {meth : Method} {c : Code} {q : (Int32 × MM)} (C : mx_C E p m c cX13_inTime 3 s args RX13 meth (some .int))  (hT : E.1 = mt)   : ∀ (n : Nat) (i1 : Int32) (i2 : Int32) (M : MM) (H : Heap) (locs : List Loc) (ls : Array Slot), fX13_inTime_9 n i1 i2 M = some q → mx_H E s M H locs → lv_has ls 3 [(0, .ref (E.2.1.2.1 0)), (1, .int i1), (2, .int i2)] → W p l e (mx_rm 4) s m args below meth c H locs 0 0 (mx_Z E below args s (some (.int q.1)) q.2) (F0 m 9 ls []) := by
  have hx := C.1.1
  have hb := C.1.2.1
  have hown := C.1.2.2.2.1
  have hts := C.1.2.2.2.2
  intro n
  induction n with
  | zero =>
    intro i1 i2 M H locs ls hf hM hl
    rw [fX13_inTime_9] at hf
    cases hf
  | succ n ih =>
    intro i1 i2 M H locs ls hf hM hl
    rw [fX13_inTime_9] at hf
    refine lv_iload_n hx hb dX13_inTime_9 rfl (lv_at hl 2 rfl) ?_
    refine lv_aload_n hx hb dX13_inTime_10 rfl (lv_at hl 0 rfl) ?_
    refine g13_33 C hT hM dX13_inTime_11 ?_
    refine lv_iconst (v := (1 : Int32)) hx hb dX13_inTime_14 (by decide) ?_
    refine mx_ialdL C hM (mt_2 hT) (j := 1) (by decide) (mx_in_vp (by decide)) dX13_inTime_15 ?_
    refine lv_icmp_ge (tgt := 72) hx hb dX13_inTime_16 (by decide) (fun hc16 => ?_) (fun hc16 => ?_)
    · replace hf := mx_ift hc16 hf
      refine lv_iload_n hx hb dX13_inTime_72 rfl (lv_at hl 1 rfl) ?_
      exact mx_iret C hM hf dX13_inTime_73
    · replace hf := mx_iff hc16 hf
      refine lv_iload_n hx hb dX13_inTime_19 rfl (lv_at hl 1 rfl) ?_
      refine lv_aload_n hx hb dX13_inTime_20 rfl (lv_at hl 0 rfl) ?_
      refine g13_33 C hT hM dX13_inTime_21 ?_
      refine lv_bipush (v := (92 : Int32)) hx hb dX13_inTime_24 (by decide) ?_
      refine lv_iload_n hx hb dX13_inTime_26 rfl (lv_at hl 2 rfl) ?_
      refine lv_iadd hx hb dX13_inTime_27 ?_
      obtain ⟨hg28, hf⟩ := mx_gd hf
      refine mx_iald C hM (mt_2 hT) (mx_in_vp hg28) dX13_inTime_28 ?_
      refine lv_if_ne (tgt := 63) hx hb dX13_inTime_29 (by decide) (fun hc29 => ?_) (fun hc29 => ?_)
      · replace hf := mx_iff hc29 hf
        refine lv_iconst (v := (0 : Int32)) hx hb dX13_inTime_63 (by decide) ?_
        refine lv_ior hx hb dX13_inTime_64 ?_
        refine lv_istore_n (lv' := [(1, .int (i1 ||| (0 : Int32))), (0, .ref (E.2.1.2.1 0)), (2, .int i2)]) hx hb dX13_inTime_65 rfl hl (by decide) rfl (fun ls hl => ?_)
        refine lv_iinc (v := (i2 + (1 : Int32))) (lv' := [(2, .int (i2 + (1 : Int32))), (1, .int (i1 ||| (0 : Int32))), (0, .ref (E.2.1.2.1 0))]) hx hb dX13_inTime_66 hl (k := 2) rfl rfl (by decide) rfl (fun ls hl => ?_)
        refine lv_goto (tgt := 9) hx hb dX13_inTime_69 (by decide) ?_
        exact ih (i1 ||| (0 : Int32)) (i2 + (1 : Int32)) M _ _ _ hf hM (lv_sub hl [2, 1, 0] rfl)
      · replace hf := mx_ift hc29 hf
        refine lv_aload_n hx hb dX13_inTime_32 rfl (lv_at hl 0 rfl) ?_
        refine g13_33 C hT hM dX13_inTime_33 ?_
        refine lv_bipush (v := (54 : Int32)) hx hb dX13_inTime_36 (by decide) ?_
        refine mx_ialdL C hM (mt_2 hT) (j := 54) (by decide) (mx_in_vp (by decide)) dX13_inTime_38 ?_
        refine lv_aload_n hx hb dX13_inTime_39 rfl (lv_at hl 0 rfl) ?_
        refine lv_iload_n hx hb dX13_inTime_40 rfl (lv_at hl 2 rfl) ?_
        obtain ⟨q41, hq41, hf⟩ := mx_bd hf
        refine mx_callV C hM hl.1 yo_X13_reachOf (h' := 3) (by decide) qw_1788 qw_1790 qs_153 (ci := 13) (q := (RX13, TX13, 52)) rfl (mt_0 hT) (As := [.int i2]) (rest := [.int (M.1 2 54), .int i1]) (st1 := [.int q41, .int (M.1 2 54), .int i1]) (kX13_reachOf C.2.2.2.1 i2 hT M hq41) rfl rfl rfl (Nat.le_of_ble_eq_true rfl) dX13_inTime_41 (fun H locs hM => ?_)
        refine lv_iadd hx hb dX13_inTime_44 ?_
        refine lv_aload_n hx hb dX13_inTime_45 rfl (lv_at hl 0 rfl) ?_
        refine g13_33 C hT hM dX13_inTime_46 ?_
        refine lv_bipush (v := (47 : Int32)) hx hb dX13_inTime_49 (by decide) ?_
        refine lv_iload_n hx hb dX13_inTime_51 rfl (lv_at hl 2 rfl) ?_
        refine lv_iadd hx hb dX13_inTime_52 ?_
        obtain ⟨hg53, hf⟩ := mx_gd hf
        refine mx_iald C hM (mt_2 hT) (mx_in_vp hg53) dX13_inTime_53 ?_
        refine lv_icmp_gt (tgt := 63) hx hb dX13_inTime_54 (by decide) (fun hc54 => ?_) (fun hc54 => ?_)
        · replace hf := mx_ift hc54 hf
          refine lv_iconst (v := (0 : Int32)) hx hb dX13_inTime_63 (by decide) ?_
          refine lv_ior hx hb dX13_inTime_64 ?_
          refine lv_istore_n (lv' := [(1, .int (i1 ||| (0 : Int32))), (0, .ref (E.2.1.2.1 0)), (2, .int i2)]) hx hb dX13_inTime_65 rfl hl (by decide) rfl (fun ls hl => ?_)
          refine lv_iinc (v := (i2 + (1 : Int32))) (lv' := [(2, .int (i2 + (1 : Int32))), (1, .int (i1 ||| (0 : Int32))), (0, .ref (E.2.1.2.1 0))]) hx hb dX13_inTime_66 hl (k := 2) rfl rfl (by decide) rfl (fun ls hl => ?_)
          refine lv_goto (tgt := 9) hx hb dX13_inTime_69 (by decide) ?_
          exact ih (i1 ||| (0 : Int32)) (i2 + (1 : Int32)) M _ _ _ hf hM (lv_sub hl [2, 1, 0] rfl)
        · replace hf := mx_iff hc54 hf
          refine lv_iconst (v := (1 : Int32)) hx hb dX13_inTime_57 (by decide) ?_
          refine lv_iload_n hx hb dX13_inTime_58 rfl (lv_at hl 2 rfl) ?_
          refine lv_ishl hx hb dX13_inTime_59 ?_
          refine lv_goto (tgt := 64) hx hb dX13_inTime_60 (by decide) ?_
          refine lv_ior hx hb dX13_inTime_64 ?_
          refine lv_istore_n (lv' := [(1, .int (i1 ||| ((1 : Int32) <<< (i2 &&& 31)))), (0, .ref (E.2.1.2.1 0)), (2, .int i2)]) hx hb dX13_inTime_65 rfl hl (by decide) rfl (fun ls hl => ?_)
          refine lv_iinc (v := (i2 + (1 : Int32))) (lv' := [(2, .int (i2 + (1 : Int32))), (1, .int (i1 ||| ((1 : Int32) <<< (i2 &&& 31)))), (0, .ref (E.2.1.2.1 0))]) hx hb dX13_inTime_66 hl (k := 2) rfl rfl (by decide) rfl (fun ls hl => ?_)
          refine lv_goto (tgt := 9) hx hb dX13_inTime_69 (by decide) ?_
          exact ih (i1 ||| ((1 : Int32) <<< (i2 &&& 31))) (i2 + (1 : Int32)) M _ _ _ hf hM (lv_sub hl [2, 1, 0] rfl)
set_option maxRecDepth 100000 in
set_option maxHeartbeats 4000000 in
theorem kX13_inTime {E : KE} {l : Launch} (hE : mx_ok E)  (hT : E.1 = mt) (M : MM) {q : (Int32 × MM)} (hf : fX13_inTime M = some q) : mx_Met E l yX13_inTime cX13_inTime 3 (some .int) 4 [.ref (E.2.1.2.1 0)] M (some (.int q.1)) q.2 := by
  refine mx_enter hE (by decide) (Nat.le_of_ble_eq_true rfl) ?_
  intro p e s m below meth c C hM hn ls hl
  have hx := C.1.1
  have hb := C.1.2.1
  have hown := C.1.2.2.2.1
  have hts := C.1.2.2.2.2
  have hl : lv_has ls 3 [(0, .ref (E.2.1.2.1 0))] := hl
  rw [fX13_inTime] at hf
  refine lv_aload_n hx hb dX13_inTime_0 rfl (lv_at hl 0 rfl) ?_
  refine lv_iconst (v := (0 : Int32)) hx hb dX13_inTime_1 (by decide) ?_
  refine p13_1 C hT hM dX13_inTime_2 (fun H locs hM => ?_)
  refine lv_iconst (v := (0 : Int32)) hx hb dX13_inTime_5 (by decide) ?_
  refine lv_istore_n (lv' := [(1, .int (0 : Int32)), (0, .ref (E.2.1.2.1 0))]) hx hb dX13_inTime_6 rfl hl (by decide) rfl (fun ls hl => ?_)
  refine lv_iconst (v := (0 : Int32)) hx hb dX13_inTime_7 (by decide) ?_
  refine lv_istore_n (lv' := [(2, .int (0 : Int32)), (1, .int (0 : Int32)), (0, .ref (E.2.1.2.1 0))]) hx hb dX13_inTime_8 rfl hl (by decide) rfl (fun ls hl => ?_)
  exact wfX13_inTime_9 C hT mx_fu (0 : Int32) (0 : Int32) (mx_si M 0 0 (0 : Int32)) _ _ _ hf hM (lv_sub hl [2, 1, 0] rfl)
theorem dX13_reorders_0 : decode cX13_reorders 0 = .ok (.iload_n 1, 1) := by decide +kernel
theorem dX13_reorders_1 : decode cX13_reorders 1 = .ok (.iconst 2, 1) := by decide +kernel
theorem dX13_reorders_2 : decode cX13_reorders 2 = .ok (.isub, 1) := by decide +kernel
theorem dX13_reorders_3 : decode cX13_reorders 3 = .ok (.istore_n 2, 1) := by decide +kernel
theorem dX13_reorders_4 : decode cX13_reorders 4 = .ok (.iload_n 2, 1) := by decide +kernel
theorem dX13_reorders_5 : decode cX13_reorders 5 = .ok (.ifCond .lt 26, 3) := by decide +kernel
theorem dX13_reorders_8 : decode cX13_reorders 8 = .ok (.aload_n 0, 1) := by decide +kernel
theorem dX13_reorders_9 : decode cX13_reorders 9 = .ok (.getfield 56, 3) := by decide +kernel
theorem dX13_reorders_12 : decode cX13_reorders 12 = .ok (.iload_n 2, 1) := by decide +kernel
theorem dX13_reorders_13 : decode cX13_reorders 13 = .ok (.iaload, 1) := by decide +kernel
theorem dX13_reorders_14 : decode cX13_reorders 14 = .ok (.aload_n 0, 1) := by decide +kernel
theorem dX13_reorders_15 : decode cX13_reorders 15 = .ok (.getfield 56, 3) := by decide +kernel
theorem dX13_reorders_18 : decode cX13_reorders 18 = .ok (.iload_n 2, 1) := by decide +kernel
theorem dX13_reorders_19 : decode cX13_reorders 19 = .ok (.iconst 1, 1) := by decide +kernel
theorem dX13_reorders_20 : decode cX13_reorders 20 = .ok (.iadd, 1) := by decide +kernel
theorem dX13_reorders_21 : decode cX13_reorders 21 = .ok (.iaload, 1) := by decide +kernel
theorem dX13_reorders_22 : decode cX13_reorders 22 = .ok (.if_icmp .le 9, 3) := by decide +kernel
theorem dX13_reorders_25 : decode cX13_reorders 25 = .ok (.iinc 2 (-1), 3) := by decide +kernel
theorem dX13_reorders_28 : decode cX13_reorders 28 = .ok (.goto (-24), 3) := by decide +kernel
theorem dX13_reorders_31 : decode cX13_reorders 31 = .ok (.iload_n 2, 1) := by decide +kernel
theorem dX13_reorders_32 : decode cX13_reorders 32 = .ok (.ifCond .ge 5, 3) := by decide +kernel
theorem dX13_reorders_35 : decode cX13_reorders 35 = .ok (.iconst 0, 1) := by decide +kernel
theorem dX13_reorders_36 : decode cX13_reorders 36 = .ok (.ireturn, 1) := by decide +kernel
theorem dX13_reorders_37 : decode cX13_reorders 37 = .ok (.iload_n 1, 1) := by decide +kernel
theorem dX13_reorders_38 : decode cX13_reorders 38 = .ok (.iconst 1, 1) := by decide +kernel
theorem dX13_reorders_39 : decode cX13_reorders 39 = .ok (.isub, 1) := by decide +kernel
theorem dX13_reorders_40 : decode cX13_reorders 40 = .ok (.istore_n 3, 1) := by decide +kernel
theorem dX13_reorders_41 : decode cX13_reorders 41 = .ok (.aload_n 0, 1) := by decide +kernel
theorem dX13_reorders_42 : decode cX13_reorders 42 = .ok (.getfield 56, 3) := by decide +kernel
theorem dX13_reorders_45 : decode cX13_reorders 45 = .ok (.iload_n 3, 1) := by decide +kernel
theorem dX13_reorders_46 : decode cX13_reorders 46 = .ok (.iaload, 1) := by decide +kernel
theorem dX13_reorders_47 : decode cX13_reorders 47 = .ok (.aload_n 0, 1) := by decide +kernel
theorem dX13_reorders_48 : decode cX13_reorders 48 = .ok (.getfield 56, 3) := by decide +kernel
theorem dX13_reorders_51 : decode cX13_reorders 51 = .ok (.iload_n 2, 1) := by decide +kernel
theorem dX13_reorders_52 : decode cX13_reorders 52 = .ok (.iaload, 1) := by decide +kernel
theorem dX13_reorders_53 : decode cX13_reorders 53 = .ok (.if_icmp .ge 9, 3) := by decide +kernel
theorem dX13_reorders_56 : decode cX13_reorders 56 = .ok (.iinc 3 (-1), 3) := by decide +kernel
theorem dX13_reorders_59 : decode cX13_reorders 59 = .ok (.goto (-18), 3) := by decide +kernel
theorem dX13_reorders_62 : decode cX13_reorders 62 = .ok (.aload_n 0, 1) := by decide +kernel
theorem dX13_reorders_63 : decode cX13_reorders 63 = .ok (.getfield 56, 3) := by decide +kernel
theorem dX13_reorders_66 : decode cX13_reorders 66 = .ok (.iload_n 2, 1) := by decide +kernel
theorem dX13_reorders_67 : decode cX13_reorders 67 = .ok (.iaload, 1) := by decide +kernel
theorem dX13_reorders_68 : decode cX13_reorders 68 = .ok (.istore 4, 2) := by decide +kernel
theorem dX13_reorders_70 : decode cX13_reorders 70 = .ok (.aload_n 0, 1) := by decide +kernel
theorem dX13_reorders_71 : decode cX13_reorders 71 = .ok (.getfield 56, 3) := by decide +kernel
theorem dX13_reorders_74 : decode cX13_reorders 74 = .ok (.iload_n 2, 1) := by decide +kernel
theorem dX13_reorders_75 : decode cX13_reorders 75 = .ok (.aload_n 0, 1) := by decide +kernel
theorem dX13_reorders_76 : decode cX13_reorders 76 = .ok (.getfield 56, 3) := by decide +kernel
theorem dX13_reorders_79 : decode cX13_reorders 79 = .ok (.iload_n 3, 1) := by decide +kernel
theorem dX13_reorders_80 : decode cX13_reorders 80 = .ok (.iaload, 1) := by decide +kernel
theorem dX13_reorders_81 : decode cX13_reorders 81 = .ok (.iastore, 1) := by decide +kernel
theorem dX13_reorders_82 : decode cX13_reorders 82 = .ok (.aload_n 0, 1) := by decide +kernel
theorem dX13_reorders_83 : decode cX13_reorders 83 = .ok (.getfield 56, 3) := by decide +kernel
theorem dX13_reorders_86 : decode cX13_reorders 86 = .ok (.iload_n 3, 1) := by decide +kernel
theorem dX13_reorders_87 : decode cX13_reorders 87 = .ok (.iload 4, 2) := by decide +kernel
theorem dX13_reorders_89 : decode cX13_reorders 89 = .ok (.iastore, 1) := by decide +kernel
theorem dX13_reorders_90 : decode cX13_reorders 90 = .ok (.iload_n 2, 1) := by decide +kernel
theorem dX13_reorders_91 : decode cX13_reorders 91 = .ok (.iconst 1, 1) := by decide +kernel
theorem dX13_reorders_92 : decode cX13_reorders 92 = .ok (.iadd, 1) := by decide +kernel
theorem dX13_reorders_93 : decode cX13_reorders 93 = .ok (.istore 5, 2) := by decide +kernel
theorem dX13_reorders_95 : decode cX13_reorders 95 = .ok (.iload_n 1, 1) := by decide +kernel
theorem dX13_reorders_96 : decode cX13_reorders 96 = .ok (.iconst 1, 1) := by decide +kernel
theorem dX13_reorders_97 : decode cX13_reorders 97 = .ok (.isub, 1) := by decide +kernel
theorem dX13_reorders_98 : decode cX13_reorders 98 = .ok (.istore 6, 2) := by decide +kernel
theorem dX13_reorders_100 : decode cX13_reorders 100 = .ok (.iload 5, 2) := by decide +kernel
theorem dX13_reorders_102 : decode cX13_reorders 102 = .ok (.iload 6, 2) := by decide +kernel
theorem dX13_reorders_104 : decode cX13_reorders 104 = .ok (.if_icmp .ge 44, 3) := by decide +kernel
theorem dX13_reorders_107 : decode cX13_reorders 107 = .ok (.aload_n 0, 1) := by decide +kernel
theorem dX13_reorders_108 : decode cX13_reorders 108 = .ok (.getfield 56, 3) := by decide +kernel
theorem dX13_reorders_111 : decode cX13_reorders 111 = .ok (.iload 5, 2) := by decide +kernel
theorem dX13_reorders_113 : decode cX13_reorders 113 = .ok (.iaload, 1) := by decide +kernel
theorem dX13_reorders_114 : decode cX13_reorders 114 = .ok (.istore 4, 2) := by decide +kernel
theorem dX13_reorders_116 : decode cX13_reorders 116 = .ok (.aload_n 0, 1) := by decide +kernel
theorem dX13_reorders_117 : decode cX13_reorders 117 = .ok (.getfield 56, 3) := by decide +kernel
theorem dX13_reorders_120 : decode cX13_reorders 120 = .ok (.iload 5, 2) := by decide +kernel
theorem dX13_reorders_122 : decode cX13_reorders 122 = .ok (.aload_n 0, 1) := by decide +kernel
theorem dX13_reorders_123 : decode cX13_reorders 123 = .ok (.getfield 56, 3) := by decide +kernel
theorem dX13_reorders_126 : decode cX13_reorders 126 = .ok (.iload 6, 2) := by decide +kernel
theorem dX13_reorders_128 : decode cX13_reorders 128 = .ok (.iaload, 1) := by decide +kernel
theorem dX13_reorders_129 : decode cX13_reorders 129 = .ok (.iastore, 1) := by decide +kernel
theorem dX13_reorders_130 : decode cX13_reorders 130 = .ok (.aload_n 0, 1) := by decide +kernel
theorem dX13_reorders_131 : decode cX13_reorders 131 = .ok (.getfield 56, 3) := by decide +kernel
theorem dX13_reorders_134 : decode cX13_reorders 134 = .ok (.iload 6, 2) := by decide +kernel
theorem dX13_reorders_136 : decode cX13_reorders 136 = .ok (.iload 4, 2) := by decide +kernel
theorem dX13_reorders_138 : decode cX13_reorders 138 = .ok (.iastore, 1) := by decide +kernel
theorem dX13_reorders_139 : decode cX13_reorders 139 = .ok (.iinc 5 1, 3) := by decide +kernel
theorem dX13_reorders_142 : decode cX13_reorders 142 = .ok (.iinc 6 (-1), 3) := by decide +kernel
theorem dX13_reorders_145 : decode cX13_reorders 145 = .ok (.goto (-45), 3) := by decide +kernel
theorem dX13_reorders_148 : decode cX13_reorders 148 = .ok (.iconst 1, 1) := by decide +kernel
theorem dX13_reorders_149 : decode cX13_reorders 149 = .ok (.ireturn, 1) := by decide +kernel
set_option maxRecDepth 100000 in
set_option maxHeartbeats 4000000 in
theorem wfX13_reorders_100 {E : KE} {p : Program} {l : Launch} {e : Env} {s : State} {m : MethodId} {args : Array Value} {below : List Frame} {meth : Method} {c : Code} {q : (Bool × MM)} (C : mx_C E p m c cX13_reorders 7 s args RX13 meth (some .boolean)) (i1 : Int32) (hT : E.1 = mt)   : ∀ (n : Nat) (i5 : Int32) (i6 : Int32) (M : MM) (H : Heap) (locs : List Loc) (ls : Array Slot), fX13_reorders_100 i1 n i5 i6 M = some q → mx_H E s M H locs → lv_has ls 7 [(0, .ref (E.2.1.2.1 0)), (5, .int i5), (6, .int i6)] → W p l e (mx_rm 0) s m args below meth c H locs 0 0 (mx_Z E below args s (some (.int (mx_b q.1))) q.2) (F0 m 100 ls []) := by
  have hx := C.1.1
  have hb := C.1.2.1
  have hown := C.1.2.2.2.1
  have hts := C.1.2.2.2.2
  intro n
  induction n with
  | zero =>
    intro i5 i6 M H locs ls hf hM hl
    rw [fX13_reorders_100] at hf
    cases hf
  | succ n ih =>
    intro i5 i6 M H locs ls hf hM hl
    rw [fX13_reorders_100] at hf
    refine lv_iload hx hb dX13_reorders_100 (lv_at hl 1 rfl) ?_
    refine lv_iload hx hb dX13_reorders_102 (lv_at hl 2 rfl) ?_
    refine lv_icmp_ge (tgt := 148) hx hb dX13_reorders_104 (by decide) (fun hc104 => ?_) (fun hc104 => ?_)
    · replace hf := mx_ift hc104 hf
      refine lv_iconst (v := (1 : Int32)) hx hb dX13_reorders_148 (by decide) ?_
      exact mx_zret C hM (b := true) rfl hf dX13_reorders_149
    · replace hf := mx_iff hc104 hf
      refine lv_aload_n hx hb dX13_reorders_107 rfl (lv_at hl 0 rfl) ?_
      refine g13_56 C hT hM dX13_reorders_108 ?_
      refine lv_iload hx hb dX13_reorders_111 (lv_at hl 1 rfl) ?_
      obtain ⟨hg113, hf⟩ := mx_gd hf
      refine mx_iald C hM (mt_9 hT) (mx_in_vp hg113) dX13_reorders_113 ?_
      refine lv_istore (lv' := [(4, .int (M.1 9 i5.toNatClampNeg)), (0, .ref (E.2.1.2.1 0)), (5, .int i5), (6, .int i6)]) hx hb dX13_reorders_114 hl (by decide) rfl (fun ls hl => ?_)
      refine lv_aload_n hx hb dX13_reorders_116 rfl (lv_at hl 1 rfl) ?_
      refine g13_56 C hT hM dX13_reorders_117 ?_
      refine lv_iload hx hb dX13_reorders_120 (lv_at hl 2 rfl) ?_
      refine lv_aload_n hx hb dX13_reorders_122 rfl (lv_at hl 1 rfl) ?_
      refine g13_56 C hT hM dX13_reorders_123 ?_
      refine lv_iload hx hb dX13_reorders_126 (lv_at hl 3 rfl) ?_
      obtain ⟨hg128, hf⟩ := mx_gd hf
      refine mx_iald C hM (mt_9 hT) (mx_in_vp hg128) dX13_reorders_128 ?_
      obtain ⟨hg129, hf⟩ := mx_gd hf
      refine mx_iast C hM (mt_9 hT) (mx_in_vp hg129) dX13_reorders_129 (fun H locs hM => ?_)
      refine lv_aload_n hx hb dX13_reorders_130 rfl (lv_at hl 1 rfl) ?_
      refine g13_56 C hT hM dX13_reorders_131 ?_
      refine lv_iload hx hb dX13_reorders_134 (lv_at hl 3 rfl) ?_
      refine lv_iload hx hb dX13_reorders_136 (lv_at hl 0 rfl) ?_
      obtain ⟨hg138, hf⟩ := mx_gd hf
      refine mx_iast C hM (mt_9 hT) (mx_in_vp hg138) dX13_reorders_138 (fun H locs hM => ?_)
      refine lv_iinc (v := (i5 + (1 : Int32))) (lv' := [(5, .int (i5 + (1 : Int32))), (4, .int (M.1 9 i5.toNatClampNeg)), (0, .ref (E.2.1.2.1 0)), (6, .int i6)]) hx hb dX13_reorders_139 hl (k := 2) rfl rfl (by decide) rfl (fun ls hl => ?_)
      refine lv_iinc (v := (i6 + (-1 : Int32))) (lv' := [(6, .int (i6 + (-1 : Int32))), (5, .int (i5 + (1 : Int32))), (4, .int (M.1 9 i5.toNatClampNeg)), (0, .ref (E.2.1.2.1 0))]) hx hb dX13_reorders_142 hl (k := 3) rfl rfl (by decide) rfl (fun ls hl => ?_)
      refine lv_goto (tgt := 100) hx hb dX13_reorders_145 (by decide) ?_
      exact ih (i5 + (1 : Int32)) (i6 + (-1 : Int32)) (mx_si (mx_si M 9 i5.toNatClampNeg (M.1 9 i6.toNatClampNeg)) 9 i6.toNatClampNeg (M.1 9 i5.toNatClampNeg)) _ _ _ hf hM (lv_sub hl [3, 1, 0] rfl)
set_option maxRecDepth 100000 in
set_option maxHeartbeats 4000000 in
theorem wfX13_reorders_41 {E : KE} {p : Program} {l : Launch} {e : Env} {s : State} {m : MethodId} {args : Array Value} {below : List Frame} {meth : Method} {c : Code} {q : (Bool × MM)} (C : mx_C E p m c cX13_reorders 7 s args RX13 meth (some .boolean)) (i1 : Int32) (hT : E.1 = mt) (i2 : Int32)  : ∀ (n : Nat) (i3 : Int32) (M : MM) (H : Heap) (locs : List Loc) (ls : Array Slot), fX13_reorders_41 i1 i2 n i3 M = some q → mx_H E s M H locs → lv_has ls 7 [(0, .ref (E.2.1.2.1 0)), (1, .int i1), (2, .int i2), (3, .int i3)] → W p l e (mx_rm 0) s m args below meth c H locs 0 0 (mx_Z E below args s (some (.int (mx_b q.1))) q.2) (F0 m 41 ls []) := by
  have hx := C.1.1
  have hb := C.1.2.1
  have hown := C.1.2.2.2.1
  have hts := C.1.2.2.2.2
  intro n
  induction n with
  | zero =>
    intro i3 M H locs ls hf hM hl
    rw [fX13_reorders_41] at hf
    cases hf
  | succ n ih =>
    intro i3 M H locs ls hf hM hl
    rw [fX13_reorders_41] at hf
    refine lv_aload_n hx hb dX13_reorders_41 rfl (lv_at hl 0 rfl) ?_
    refine g13_56 C hT hM dX13_reorders_42 ?_
    refine lv_iload_n hx hb dX13_reorders_45 rfl (lv_at hl 3 rfl) ?_
    obtain ⟨hg46, hf⟩ := mx_gd hf
    refine mx_iald C hM (mt_9 hT) (mx_in_vp hg46) dX13_reorders_46 ?_
    refine lv_aload_n hx hb dX13_reorders_47 rfl (lv_at hl 0 rfl) ?_
    refine g13_56 C hT hM dX13_reorders_48 ?_
    refine lv_iload_n hx hb dX13_reorders_51 rfl (lv_at hl 2 rfl) ?_
    obtain ⟨hg52, hf⟩ := mx_gd hf
    refine mx_iald C hM (mt_9 hT) (mx_in_vp hg52) dX13_reorders_52 ?_
    refine lv_icmp_ge (tgt := 62) hx hb dX13_reorders_53 (by decide) (fun hc53 => ?_) (fun hc53 => ?_)
    · replace hf := mx_ift hc53 hf
      refine lv_aload_n hx hb dX13_reorders_62 rfl (lv_at hl 0 rfl) ?_
      refine g13_56 C hT hM dX13_reorders_63 ?_
      refine lv_iload_n hx hb dX13_reorders_66 rfl (lv_at hl 2 rfl) ?_
      obtain ⟨hg67, hf⟩ := mx_gd hf
      refine mx_iald C hM (mt_9 hT) (mx_in_vp hg67) dX13_reorders_67 ?_
      refine lv_istore (lv' := [(4, .int (M.1 9 i2.toNatClampNeg)), (0, .ref (E.2.1.2.1 0)), (1, .int i1), (2, .int i2), (3, .int i3)]) hx hb dX13_reorders_68 hl (by decide) rfl (fun ls hl => ?_)
      refine lv_aload_n hx hb dX13_reorders_70 rfl (lv_at hl 1 rfl) ?_
      refine g13_56 C hT hM dX13_reorders_71 ?_
      refine lv_iload_n hx hb dX13_reorders_74 rfl (lv_at hl 3 rfl) ?_
      refine lv_aload_n hx hb dX13_reorders_75 rfl (lv_at hl 1 rfl) ?_
      refine g13_56 C hT hM dX13_reorders_76 ?_
      refine lv_iload_n hx hb dX13_reorders_79 rfl (lv_at hl 4 rfl) ?_
      obtain ⟨hg80, hf⟩ := mx_gd hf
      refine mx_iald C hM (mt_9 hT) (mx_in_vp hg80) dX13_reorders_80 ?_
      obtain ⟨hg81, hf⟩ := mx_gd hf
      refine mx_iast C hM (mt_9 hT) (mx_in_vp hg81) dX13_reorders_81 (fun H locs hM => ?_)
      refine lv_aload_n hx hb dX13_reorders_82 rfl (lv_at hl 1 rfl) ?_
      refine g13_56 C hT hM dX13_reorders_83 ?_
      refine lv_iload_n hx hb dX13_reorders_86 rfl (lv_at hl 4 rfl) ?_
      refine lv_iload hx hb dX13_reorders_87 (lv_at hl 0 rfl) ?_
      obtain ⟨hg89, hf⟩ := mx_gd hf
      refine mx_iast C hM (mt_9 hT) (mx_in_vp hg89) dX13_reorders_89 (fun H locs hM => ?_)
      refine lv_iload_n hx hb dX13_reorders_90 rfl (lv_at hl 3 rfl) ?_
      refine lv_iconst (v := (1 : Int32)) hx hb dX13_reorders_91 (by decide) ?_
      refine lv_iadd hx hb dX13_reorders_92 ?_
      refine lv_istore (lv' := [(5, .int (i2 + (1 : Int32))), (4, .int (M.1 9 i2.toNatClampNeg)), (0, .ref (E.2.1.2.1 0)), (1, .int i1), (2, .int i2), (3, .int i3)]) hx hb dX13_reorders_93 hl (by decide) rfl (fun ls hl => ?_)
      refine lv_iload_n hx hb dX13_reorders_95 rfl (lv_at hl 3 rfl) ?_
      refine lv_iconst (v := (1 : Int32)) hx hb dX13_reorders_96 (by decide) ?_
      refine lv_isub hx hb dX13_reorders_97 ?_
      refine lv_istore (lv' := [(6, .int (i1 - (1 : Int32))), (5, .int (i2 + (1 : Int32))), (4, .int (M.1 9 i2.toNatClampNeg)), (0, .ref (E.2.1.2.1 0)), (1, .int i1), (2, .int i2), (3, .int i3)]) hx hb dX13_reorders_98 hl (by decide) rfl (fun ls hl => ?_)
      exact wfX13_reorders_100 C i1 hT mx_fu (i2 + (1 : Int32)) (i1 - (1 : Int32)) (mx_si (mx_si M 9 i2.toNatClampNeg (M.1 9 i3.toNatClampNeg)) 9 i3.toNatClampNeg (M.1 9 i2.toNatClampNeg)) _ _ _ hf hM (lv_sub hl [3, 1, 0] rfl)
    · replace hf := mx_iff hc53 hf
      refine lv_iinc (v := (i3 + (-1 : Int32))) (lv' := [(3, .int (i3 + (-1 : Int32))), (0, .ref (E.2.1.2.1 0)), (1, .int i1), (2, .int i2)]) hx hb dX13_reorders_56 hl (k := 3) rfl rfl (by decide) rfl (fun ls hl => ?_)
      refine lv_goto (tgt := 41) hx hb dX13_reorders_59 (by decide) ?_
      exact ih (i3 + (-1 : Int32)) M _ _ _ hf hM (lv_sub hl [1, 2, 3, 0] rfl)
set_option maxRecDepth 100000 in
set_option maxHeartbeats 4000000 in
theorem wfX13_reorders_31 {E : KE} {p : Program} {l : Launch} {e : Env} {s : State} {m : MethodId} {args : Array Value} {below : List Frame} {meth : Method} {c : Code} {q : (Bool × MM)} (C : mx_C E p m c cX13_reorders 7 s args RX13 meth (some .boolean)) (i1 : Int32) (hT : E.1 = mt)   : ∀ (i2 : Int32) (M : MM) (H : Heap) (locs : List Loc) (ls : Array Slot), fX13_reorders_31 i1 i2 M = some q → mx_H E s M H locs → lv_has ls 7 [(0, .ref (E.2.1.2.1 0)), (1, .int i1), (2, .int i2)] → W p l e (mx_rm 0) s m args below meth c H locs 0 0 (mx_Z E below args s (some (.int (mx_b q.1))) q.2) (F0 m 31 ls []) := by
  have hx := C.1.1
  have hb := C.1.2.1
  have hown := C.1.2.2.2.1
  have hts := C.1.2.2.2.2
  intro i2 M H locs ls hf hM hl
  rw [fX13_reorders_31] at hf
  refine lv_iload_n hx hb dX13_reorders_31 rfl (lv_at hl 2 rfl) ?_
  refine lv_if_ge (tgt := 37) hx hb dX13_reorders_32 (by decide) (fun hc32 => ?_) (fun hc32 => ?_)
  · replace hf := mx_ift hc32 hf
    refine lv_iload_n hx hb dX13_reorders_37 rfl (lv_at hl 1 rfl) ?_
    refine lv_iconst (v := (1 : Int32)) hx hb dX13_reorders_38 (by decide) ?_
    refine lv_isub hx hb dX13_reorders_39 ?_
    refine lv_istore_n (lv' := [(3, .int (i1 - (1 : Int32))), (0, .ref (E.2.1.2.1 0)), (1, .int i1), (2, .int i2)]) hx hb dX13_reorders_40 rfl hl (by decide) rfl (fun ls hl => ?_)
    exact wfX13_reorders_41 C i1 hT i2 mx_fu (i1 - (1 : Int32)) M _ _ _ hf hM (lv_sub hl [1, 2, 3, 0] rfl)
  · replace hf := mx_iff hc32 hf
    refine lv_iconst (v := (0 : Int32)) hx hb dX13_reorders_35 (by decide) ?_
    exact mx_zret C hM (b := false) rfl hf dX13_reorders_36
set_option maxRecDepth 100000 in
set_option maxHeartbeats 4000000 in
theorem wfX13_reorders_4 {E : KE} {p : Program} {l : Launch} {e : Env} {s : State} {m : MethodId} {args : Array Value} {below : List Frame} {meth : Method} {c : Code} {q : (Bool × MM)} (C : mx_C E p m c cX13_reorders 7 s args RX13 meth (some .boolean)) (i1 : Int32) (hT : E.1 = mt)   : ∀ (n : Nat) (i2 : Int32) (M : MM) (H : Heap) (locs : List Loc) (ls : Array Slot), fX13_reorders_4 i1 n i2 M = some q → mx_H E s M H locs → lv_has ls 7 [(0, .ref (E.2.1.2.1 0)), (1, .int i1), (2, .int i2)] → W p l e (mx_rm 0) s m args below meth c H locs 0 0 (mx_Z E below args s (some (.int (mx_b q.1))) q.2) (F0 m 4 ls []) := by
  have hx := C.1.1
  have hb := C.1.2.1
  have hown := C.1.2.2.2.1
  have hts := C.1.2.2.2.2
  intro n
  induction n with
  | zero =>
    intro i2 M H locs ls hf hM hl
    rw [fX13_reorders_4] at hf
    cases hf
  | succ n ih =>
    intro i2 M H locs ls hf hM hl
    rw [fX13_reorders_4] at hf
    refine lv_iload_n hx hb dX13_reorders_4 rfl (lv_at hl 2 rfl) ?_
    refine lv_if_lt (tgt := 31) hx hb dX13_reorders_5 (by decide) (fun hc5 => ?_) (fun hc5 => ?_)
    · replace hf := mx_ift hc5 hf
      exact wfX13_reorders_31 C i1 hT i2 M _ _ _ hf hM (lv_sub hl [0, 1, 2] rfl)
    · replace hf := mx_iff hc5 hf
      refine lv_aload_n hx hb dX13_reorders_8 rfl (lv_at hl 0 rfl) ?_
      refine g13_56 C hT hM dX13_reorders_9 ?_
      refine lv_iload_n hx hb dX13_reorders_12 rfl (lv_at hl 2 rfl) ?_
      obtain ⟨hg13, hf⟩ := mx_gd hf
      refine mx_iald C hM (mt_9 hT) (mx_in_vp hg13) dX13_reorders_13 ?_
      refine lv_aload_n hx hb dX13_reorders_14 rfl (lv_at hl 0 rfl) ?_
      refine g13_56 C hT hM dX13_reorders_15 ?_
      refine lv_iload_n hx hb dX13_reorders_18 rfl (lv_at hl 2 rfl) ?_
      refine lv_iconst (v := (1 : Int32)) hx hb dX13_reorders_19 (by decide) ?_
      refine lv_iadd hx hb dX13_reorders_20 ?_
      obtain ⟨hg21, hf⟩ := mx_gd hf
      refine mx_iald C hM (mt_9 hT) (mx_in_vp hg21) dX13_reorders_21 ?_
      refine lv_icmp_le (tgt := 31) hx hb dX13_reorders_22 (by decide) (fun hc22 => ?_) (fun hc22 => ?_)
      · replace hf := mx_ift hc22 hf
        exact wfX13_reorders_31 C i1 hT i2 M _ _ _ hf hM (lv_sub hl [0, 1, 2] rfl)
      · replace hf := mx_iff hc22 hf
        refine lv_iinc (v := (i2 + (-1 : Int32))) (lv' := [(2, .int (i2 + (-1 : Int32))), (0, .ref (E.2.1.2.1 0)), (1, .int i1)]) hx hb dX13_reorders_25 hl (k := 2) rfl rfl (by decide) rfl (fun ls hl => ?_)
        refine lv_goto (tgt := 4) hx hb dX13_reorders_28 (by decide) ?_
        exact ih (i2 + (-1 : Int32)) M _ _ _ hf hM (lv_sub hl [1, 2, 0] rfl)
set_option maxRecDepth 100000 in
set_option maxHeartbeats 4000000 in
theorem kX13_reorders {E : KE} {l : Launch} (hE : mx_ok E) (i1 : Int32) (hT : E.1 = mt) (M : MM) {q : (Bool × MM)} (hf : fX13_reorders i1 M = some q) : mx_Met E l yX13_reorders cX13_reorders 7 (some .boolean) 0 [.ref (E.2.1.2.1 0), .int i1] M (some (.int (mx_b q.1))) q.2 := by
  refine mx_enter hE (by decide) (Nat.le_of_ble_eq_true rfl) ?_
  intro p e s m below meth c C hM hn ls hl
  have hx := C.1.1
  have hb := C.1.2.1
  have hown := C.1.2.2.2.1
  have hts := C.1.2.2.2.2
  have hl : lv_has ls 7 [(0, .ref (E.2.1.2.1 0)), (1, .int i1)] := hl
  rw [fX13_reorders] at hf
  refine lv_iload_n hx hb dX13_reorders_0 rfl (lv_at hl 1 rfl) ?_
  refine lv_iconst (v := (2 : Int32)) hx hb dX13_reorders_1 (by decide) ?_
  refine lv_isub hx hb dX13_reorders_2 ?_
  refine lv_istore_n (lv' := [(2, .int (i1 - (2 : Int32))), (0, .ref (E.2.1.2.1 0)), (1, .int i1)]) hx hb dX13_reorders_3 rfl hl (by decide) rfl (fun ls hl => ?_)
  exact wfX13_reorders_4 C i1 hT mx_fu (i1 - (2 : Int32)) M _ _ _ hf hM (lv_sub hl [1, 2, 0] rfl)
theorem dX13_tour_0 : decode cX13_tour 0 = .ok (.aload_n 0, 1) := by decide +kernel
theorem dX13_tour_1 : decode cX13_tour 1 = .ok (.iconst 0, 1) := by decide +kernel
theorem dX13_tour_2 : decode cX13_tour 2 = .ok (.putfield 1, 3) := by decide +kernel
theorem dX13_tour_5 : decode cX13_tour 5 = .ok (.aload_n 0, 1) := by decide +kernel
theorem dX13_tour_6 : decode cX13_tour 6 = .ok (.iload_n 1, 1) := by decide +kernel
theorem dX13_tour_7 : decode cX13_tour 7 = .ok (.invokevirtual 273, 3) := by decide +kernel
theorem dX13_tour_10 : decode cX13_tour 10 = .ok (.ifCond .ne 5, 3) := by decide +kernel
theorem dX13_tour_13 : decode cX13_tour 13 = .ok (.iconst (-1), 1) := by decide +kernel
theorem dX13_tour_14 : decode cX13_tour 14 = .ok (.ireturn, 1) := by decide +kernel
theorem dX13_tour_15 : decode cX13_tour 15 = .ok (.iconst 0, 1) := by decide +kernel
theorem dX13_tour_16 : decode cX13_tour 16 = .ok (.istore_n 2, 1) := by decide +kernel
theorem dX13_tour_17 : decode cX13_tour 17 = .ok (.iconst 0, 1) := by decide +kernel
theorem dX13_tour_18 : decode cX13_tour 18 = .ok (.istore_n 3, 1) := by decide +kernel
theorem dX13_tour_19 : decode cX13_tour 19 = .ok (.iload_n 3, 1) := by decide +kernel
theorem dX13_tour_20 : decode cX13_tour 20 = .ok (.aload_n 0, 1) := by decide +kernel
theorem dX13_tour_21 : decode cX13_tour 21 = .ok (.getfield 33, 3) := by decide +kernel
theorem dX13_tour_24 : decode cX13_tour 24 = .ok (.iconst 1, 1) := by decide +kernel
theorem dX13_tour_25 : decode cX13_tour 25 = .ok (.iaload, 1) := by decide +kernel
theorem dX13_tour_26 : decode cX13_tour 26 = .ok (.if_icmp .ge 49, 3) := by decide +kernel
theorem dX13_tour_29 : decode cX13_tour 29 = .ok (.iload_n 2, 1) := by decide +kernel
theorem dX13_tour_30 : decode cX13_tour 30 = .ok (.aload_n 0, 1) := by decide +kernel
theorem dX13_tour_31 : decode cX13_tour 31 = .ok (.iload_n 1, 1) := by decide +kernel
theorem dX13_tour_32 : decode cX13_tour 32 = .ok (.iload_n 3, 1) := by decide +kernel
theorem dX13_tour_33 : decode cX13_tour 33 = .ok (.invokevirtual 259, 3) := by decide +kernel
theorem dX13_tour_36 : decode cX13_tour 36 = .ok (.ifCond .eq 30, 3) := by decide +kernel
theorem dX13_tour_39 : decode cX13_tour 39 = .ok (.aload_n 0, 1) := by decide +kernel
theorem dX13_tour_40 : decode cX13_tour 40 = .ok (.getfield 33, 3) := by decide +kernel
theorem dX13_tour_43 : decode cX13_tour 43 = .ok (.bipush 33, 2) := by decide +kernel
theorem dX13_tour_45 : decode cX13_tour 45 = .ok (.iload_n 3, 1) := by decide +kernel
theorem dX13_tour_46 : decode cX13_tour 46 = .ok (.iadd, 1) := by decide +kernel
theorem dX13_tour_47 : decode cX13_tour 47 = .ok (.iaload, 1) := by decide +kernel
theorem dX13_tour_48 : decode cX13_tour 48 = .ok (.iload_n 1, 1) := by decide +kernel
theorem dX13_tour_49 : decode cX13_tour 49 = .ok (.if_icmp .eq 17, 3) := by decide +kernel
theorem dX13_tour_52 : decode cX13_tour 52 = .ok (.iconst 1, 1) := by decide +kernel
theorem dX13_tour_53 : decode cX13_tour 53 = .ok (.aload_n 0, 1) := by decide +kernel
theorem dX13_tour_54 : decode cX13_tour 54 = .ok (.getfield 33, 3) := by decide +kernel
theorem dX13_tour_57 : decode cX13_tour 57 = .ok (.bipush 33, 2) := by decide +kernel
theorem dX13_tour_59 : decode cX13_tour 59 = .ok (.iload_n 3, 1) := by decide +kernel
theorem dX13_tour_60 : decode cX13_tour 60 = .ok (.iadd, 1) := by decide +kernel
theorem dX13_tour_61 : decode cX13_tour 61 = .ok (.iaload, 1) := by decide +kernel
theorem dX13_tour_62 : decode cX13_tour 62 = .ok (.ishl, 1) := by decide +kernel
theorem dX13_tour_63 : decode cX13_tour 63 = .ok (.goto 4, 3) := by decide +kernel
theorem dX13_tour_66 : decode cX13_tour 66 = .ok (.iconst 0, 1) := by decide +kernel
theorem dX13_tour_67 : decode cX13_tour 67 = .ok (.ior, 1) := by decide +kernel
theorem dX13_tour_68 : decode cX13_tour 68 = .ok (.istore_n 2, 1) := by decide +kernel
theorem dX13_tour_69 : decode cX13_tour 69 = .ok (.iinc 3 1, 3) := by decide +kernel
theorem dX13_tour_72 : decode cX13_tour 72 = .ok (.goto (-53), 3) := by decide +kernel
theorem dX13_tour_75 : decode cX13_tour 75 = .ok (.iconst 0, 1) := by decide +kernel
theorem dX13_tour_76 : decode cX13_tour 76 = .ok (.istore_n 3, 1) := by decide +kernel
theorem dX13_tour_77 : decode cX13_tour 77 = .ok (.iconst 0, 1) := by decide +kernel
theorem dX13_tour_78 : decode cX13_tour 78 = .ok (.istore 4, 2) := by decide +kernel
theorem dX13_tour_80 : decode cX13_tour 80 = .ok (.iload 4, 2) := by decide +kernel
theorem dX13_tour_82 : decode cX13_tour 82 = .ok (.aload_n 0, 1) := by decide +kernel
theorem dX13_tour_83 : decode cX13_tour 83 = .ok (.getfield 33, 3) := by decide +kernel
theorem dX13_tour_86 : decode cX13_tour 86 = .ok (.iconst 0, 1) := by decide +kernel
theorem dX13_tour_87 : decode cX13_tour 87 = .ok (.iaload, 1) := by decide +kernel
theorem dX13_tour_88 : decode cX13_tour 88 = .ok (.if_icmp .ge 32, 3) := by decide +kernel
theorem dX13_tour_91 : decode cX13_tour 91 = .ok (.iload_n 2, 1) := by decide +kernel
theorem dX13_tour_92 : decode cX13_tour 92 = .ok (.iload 4, 2) := by decide +kernel
theorem dX13_tour_94 : decode cX13_tour 94 = .ok (.invokestatic 218, 3) := by decide +kernel
theorem dX13_tour_97 : decode cX13_tour 97 = .ok (.ifCond .ne 6, 3) := by decide +kernel
theorem dX13_tour_100 : decode cX13_tour 100 = .ok (.goto 14, 3) := by decide +kernel
theorem dX13_tour_103 : decode cX13_tour 103 = .ok (.aload_n 0, 1) := by decide +kernel
theorem dX13_tour_104 : decode cX13_tour 104 = .ok (.getfield 56, 3) := by decide +kernel
theorem dX13_tour_107 : decode cX13_tour 107 = .ok (.iload_n 3, 1) := by decide +kernel
theorem dX13_tour_108 : decode cX13_tour 108 = .ok (.iload 4, 2) := by decide +kernel
theorem dX13_tour_110 : decode cX13_tour 110 = .ok (.iastore, 1) := by decide +kernel
theorem dX13_tour_111 : decode cX13_tour 111 = .ok (.iinc 3 1, 3) := by decide +kernel
theorem dX13_tour_114 : decode cX13_tour 114 = .ok (.iinc 4 1, 3) := by decide +kernel
theorem dX13_tour_117 : decode cX13_tour 117 = .ok (.goto (-37), 3) := by decide +kernel
theorem dX13_tour_120 : decode cX13_tour 120 = .ok (.ldc_w 348, 3) := by decide +kernel
theorem dX13_tour_123 : decode cX13_tour 123 = .ok (.istore 4, 2) := by decide +kernel
theorem dX13_tour_125 : decode cX13_tour 125 = .ok (.iconst 1, 1) := by decide +kernel
theorem dX13_tour_126 : decode cX13_tour 126 = .ok (.istore 5, 2) := by decide +kernel
theorem dX13_tour_128 : decode cX13_tour 128 = .ok (.iload 5, 2) := by decide +kernel
theorem dX13_tour_130 : decode cX13_tour 130 = .ok (.ifCond .eq 105, 3) := by decide +kernel
theorem dX13_tour_133 : decode cX13_tour 133 = .ok (.iconst 0, 1) := by decide +kernel
theorem dX13_tour_134 : decode cX13_tour 134 = .ok (.istore 6, 2) := by decide +kernel
theorem dX13_tour_136 : decode cX13_tour 136 = .ok (.iconst 0, 1) := by decide +kernel
theorem dX13_tour_137 : decode cX13_tour 137 = .ok (.istore 7, 2) := by decide +kernel
theorem dX13_tour_139 : decode cX13_tour 139 = .ok (.iload 7, 2) := by decide +kernel
theorem dX13_tour_141 : decode cX13_tour 141 = .ok (.iload_n 3, 1) := by decide +kernel
theorem dX13_tour_142 : decode cX13_tour 142 = .ok (.if_icmp .ge 43, 3) := by decide +kernel
theorem dX13_tour_145 : decode cX13_tour 145 = .ok (.iload 6, 2) := by decide +kernel
theorem dX13_tour_147 : decode cX13_tour 147 = .ok (.aload_n 0, 1) := by decide +kernel
theorem dX13_tour_148 : decode cX13_tour 148 = .ok (.iload 7, 2) := by decide +kernel
theorem dX13_tour_150 : decode cX13_tour 150 = .ok (.ifCond .ne 7, 3) := by decide +kernel
theorem dX13_tour_153 : decode cX13_tour 153 = .ok (.iload_n 1, 1) := by decide +kernel
theorem dX13_tour_154 : decode cX13_tour 154 = .ok (.goto 12, 3) := by decide +kernel
theorem dX13_tour_157 : decode cX13_tour 157 = .ok (.aload_n 0, 1) := by decide +kernel
theorem dX13_tour_158 : decode cX13_tour 158 = .ok (.getfield 56, 3) := by decide +kernel
theorem dX13_tour_161 : decode cX13_tour 161 = .ok (.iload 7, 2) := by decide +kernel
theorem dX13_tour_163 : decode cX13_tour 163 = .ok (.iconst 1, 1) := by decide +kernel
theorem dX13_tour_164 : decode cX13_tour 164 = .ok (.isub, 1) := by decide +kernel
theorem dX13_tour_165 : decode cX13_tour 165 = .ok (.iaload, 1) := by decide +kernel
theorem dX13_tour_166 : decode cX13_tour 166 = .ok (.aload_n 0, 1) := by decide +kernel
theorem dX13_tour_167 : decode cX13_tour 167 = .ok (.getfield 56, 3) := by decide +kernel
theorem dX13_tour_170 : decode cX13_tour 170 = .ok (.iload 7, 2) := by decide +kernel
theorem dX13_tour_172 : decode cX13_tour 172 = .ok (.iaload, 1) := by decide +kernel
theorem dX13_tour_173 : decode cX13_tour 173 = .ok (.invokevirtual 295, 3) := by decide +kernel
theorem dX13_tour_176 : decode cX13_tour 176 = .ok (.iadd, 1) := by decide +kernel
theorem dX13_tour_177 : decode cX13_tour 177 = .ok (.istore 6, 2) := by decide +kernel
theorem dX13_tour_179 : decode cX13_tour 179 = .ok (.iinc 7 1, 3) := by decide +kernel
theorem dX13_tour_182 : decode cX13_tour 182 = .ok (.goto (-43), 3) := by decide +kernel
theorem dX13_tour_185 : decode cX13_tour 185 = .ok (.iload 6, 2) := by decide +kernel
theorem dX13_tour_187 : decode cX13_tour 187 = .ok (.iload 4, 2) := by decide +kernel
theorem dX13_tour_189 : decode cX13_tour 189 = .ok (.if_icmp .ge 36, 3) := by decide +kernel
theorem dX13_tour_192 : decode cX13_tour 192 = .ok (.iload 6, 2) := by decide +kernel
theorem dX13_tour_194 : decode cX13_tour 194 = .ok (.istore 4, 2) := by decide +kernel
theorem dX13_tour_196 : decode cX13_tour 196 = .ok (.iconst 0, 1) := by decide +kernel
theorem dX13_tour_197 : decode cX13_tour 197 = .ok (.istore 7, 2) := by decide +kernel
theorem dX13_tour_199 : decode cX13_tour 199 = .ok (.iload 7, 2) := by decide +kernel
theorem dX13_tour_201 : decode cX13_tour 201 = .ok (.iload_n 3, 1) := by decide +kernel
theorem dX13_tour_202 : decode cX13_tour 202 = .ok (.if_icmp .ge 23, 3) := by decide +kernel
theorem dX13_tour_205 : decode cX13_tour 205 = .ok (.aload_n 0, 1) := by decide +kernel
theorem dX13_tour_206 : decode cX13_tour 206 = .ok (.getfield 59, 3) := by decide +kernel
theorem dX13_tour_209 : decode cX13_tour 209 = .ok (.iload 7, 2) := by decide +kernel
theorem dX13_tour_211 : decode cX13_tour 211 = .ok (.aload_n 0, 1) := by decide +kernel
theorem dX13_tour_212 : decode cX13_tour 212 = .ok (.getfield 56, 3) := by decide +kernel
theorem dX13_tour_215 : decode cX13_tour 215 = .ok (.iload 7, 2) := by decide +kernel
theorem dX13_tour_217 : decode cX13_tour 217 = .ok (.iaload, 1) := by decide +kernel
theorem dX13_tour_218 : decode cX13_tour 218 = .ok (.iastore, 1) := by decide +kernel
theorem dX13_tour_219 : decode cX13_tour 219 = .ok (.iinc 7 1, 3) := by decide +kernel
theorem dX13_tour_222 : decode cX13_tour 222 = .ok (.goto (-23), 3) := by decide +kernel
theorem dX13_tour_225 : decode cX13_tour 225 = .ok (.aload_n 0, 1) := by decide +kernel
theorem dX13_tour_226 : decode cX13_tour 226 = .ok (.iload_n 3, 1) := by decide +kernel
theorem dX13_tour_227 : decode cX13_tour 227 = .ok (.invokevirtual 349, 3) := by decide +kernel
theorem dX13_tour_230 : decode cX13_tour 230 = .ok (.istore 5, 2) := by decide +kernel
theorem dX13_tour_232 : decode cX13_tour 232 = .ok (.goto (-104), 3) := by decide +kernel
theorem dX13_tour_235 : decode cX13_tour 235 = .ok (.aload_n 0, 1) := by decide +kernel
theorem dX13_tour_236 : decode cX13_tour 236 = .ok (.iload_n 3, 1) := by decide +kernel
theorem dX13_tour_237 : decode cX13_tour 237 = .ok (.putfield 62, 3) := by decide +kernel
theorem dX13_tour_240 : decode cX13_tour 240 = .ok (.iload 4, 2) := by decide +kernel
theorem dX13_tour_242 : decode cX13_tour 242 = .ok (.ireturn, 1) := by decide +kernel
set_option maxRecDepth 100000 in
set_option maxHeartbeats 4000000 in
theorem wfX13_tour_225 {E : KE} {p : Program} {l : Launch} {e : Env} {s : State} {m : MethodId} {args : Array Value} {below : List Frame} {meth : Method} {c : Code} {q : (Int32 × MM)} (C : mx_C E p m c cX13_tour 8 s args RX13 meth (some .int)) (i1 : Int32) (hT : E.1 = mt) (i3 : Int32) (k128 : Int32 → Bool → MM → Option (Int32 × MM)) (hk128 : ∀ (i4 : Int32) (b5 : Bool) (M : MM) (H : Heap) (locs : List Loc) (ls : Array Slot), k128 i4 b5 M = some q → mx_H E s M H locs → lv_has ls 8 [(0, .ref (E.2.1.2.1 0)), (1, .int i1), (3, .int i3), (4, .int i4), (5, .int (mx_b b5))] → W p l e (mx_rm 3) s m args below meth c H locs 0 0 (mx_Z E below args s (some (.int q.1)) q.2) (F0 m 128 ls [])) : ∀ (i4 : Int32) (M : MM) (H : Heap) (locs : List Loc) (ls : Array Slot), fX13_tour_225 i1 i3 k128 i4 M = some q → mx_H E s M H locs → lv_has ls 8 [(0, .ref (E.2.1.2.1 0)), (1, .int i1), (3, .int i3), (4, .int i4)] → W p l e (mx_rm 3) s m args below meth c H locs 0 0 (mx_Z E below args s (some (.int q.1)) q.2) (F0 m 225 ls []) := by
  have hx := C.1.1
  have hb := C.1.2.1
  have hown := C.1.2.2.2.1
  have hts := C.1.2.2.2.2
  intro i4 M H locs ls hf hM hl
  rw [fX13_tour_225] at hf
  refine lv_aload_n hx hb dX13_tour_225 rfl (lv_at hl 0 rfl) ?_
  refine lv_iload_n hx hb dX13_tour_226 rfl (lv_at hl 2 rfl) ?_
  obtain ⟨q227, hq227, hf⟩ := mx_bd hf
  refine mx_callV C hM hl.1 yo_X13_reorders (h' := 0) (by decide) qw_1808 qw_1810 qs_155 (ci := 13) (q := (RX13, TX13, 52)) rfl (mt_0 hT) (As := [.int i3]) (rest := []) (st1 := [.int (mx_b q227.1)]) (kX13_reorders C.2.2.2.1 i3 hT M hq227) rfl rfl rfl (Nat.le_of_ble_eq_true rfl) dX13_tour_227 (fun H locs hM => ?_)
  refine lv_istore (lv' := [(5, .int (mx_b q227.1)), (0, .ref (E.2.1.2.1 0)), (1, .int i1), (3, .int i3), (4, .int i4)]) hx hb dX13_tour_230 hl (by decide) rfl (fun ls hl => ?_)
  refine lv_goto (tgt := 128) hx hb dX13_tour_232 (by decide) ?_
  exact hk128 i4 q227.1 q227.2 _ _ _ hf hM (lv_sub hl [1, 2, 3, 4, 0] rfl)
set_option maxRecDepth 100000 in
set_option maxHeartbeats 4000000 in
theorem wfX13_tour_199 {E : KE} {p : Program} {l : Launch} {e : Env} {s : State} {m : MethodId} {args : Array Value} {below : List Frame} {meth : Method} {c : Code} {q : (Int32 × MM)} (C : mx_C E p m c cX13_tour 8 s args RX13 meth (some .int)) (i1 : Int32) (hT : E.1 = mt) (i3 : Int32) (i4 : Int32) (k225 : Int32 → MM → Option (Int32 × MM)) (hk225 : ∀ (i4 : Int32) (M : MM) (H : Heap) (locs : List Loc) (ls : Array Slot), k225 i4 M = some q → mx_H E s M H locs → lv_has ls 8 [(0, .ref (E.2.1.2.1 0)), (1, .int i1), (3, .int i3), (4, .int i4)] → W p l e (mx_rm 3) s m args below meth c H locs 0 0 (mx_Z E below args s (some (.int q.1)) q.2) (F0 m 225 ls [])) : ∀ (n : Nat) (i7 : Int32) (M : MM) (H : Heap) (locs : List Loc) (ls : Array Slot), fX13_tour_199 i1 i3 i4 k225 n i7 M = some q → mx_H E s M H locs → lv_has ls 8 [(0, .ref (E.2.1.2.1 0)), (1, .int i1), (3, .int i3), (4, .int i4), (7, .int i7)] → W p l e (mx_rm 3) s m args below meth c H locs 0 0 (mx_Z E below args s (some (.int q.1)) q.2) (F0 m 199 ls []) := by
  have hx := C.1.1
  have hb := C.1.2.1
  have hown := C.1.2.2.2.1
  have hts := C.1.2.2.2.2
  intro n
  induction n with
  | zero =>
    intro i7 M H locs ls hf hM hl
    rw [fX13_tour_199] at hf
    cases hf
  | succ n ih =>
    intro i7 M H locs ls hf hM hl
    rw [fX13_tour_199] at hf
    refine lv_iload hx hb dX13_tour_199 (lv_at hl 4 rfl) ?_
    refine lv_iload_n hx hb dX13_tour_201 rfl (lv_at hl 2 rfl) ?_
    refine lv_icmp_ge (tgt := 225) hx hb dX13_tour_202 (by decide) (fun hc202 => ?_) (fun hc202 => ?_)
    · replace hf := mx_ift hc202 hf
      exact hk225 i4 M _ _ _ hf hM (lv_sub hl [0, 1, 2, 3] rfl)
    · replace hf := mx_iff hc202 hf
      refine lv_aload_n hx hb dX13_tour_205 rfl (lv_at hl 0 rfl) ?_
      refine g13_59 C hT hM dX13_tour_206 ?_
      refine lv_iload hx hb dX13_tour_209 (lv_at hl 4 rfl) ?_
      refine lv_aload_n hx hb dX13_tour_211 rfl (lv_at hl 0 rfl) ?_
      refine g13_56 C hT hM dX13_tour_212 ?_
      refine lv_iload hx hb dX13_tour_215 (lv_at hl 4 rfl) ?_
      obtain ⟨hg217, hf⟩ := mx_gd hf
      refine mx_iald C hM (mt_9 hT) (mx_in_vp hg217) dX13_tour_217 ?_
      obtain ⟨hg218, hf⟩ := mx_gd hf
      refine mx_iast C hM (mt_10 hT) (mx_in_vp hg218) dX13_tour_218 (fun H locs hM => ?_)
      refine lv_iinc (v := (i7 + (1 : Int32))) (lv' := [(7, .int (i7 + (1 : Int32))), (0, .ref (E.2.1.2.1 0)), (1, .int i1), (3, .int i3), (4, .int i4)]) hx hb dX13_tour_219 hl (k := 4) rfl rfl (by decide) rfl (fun ls hl => ?_)
      refine lv_goto (tgt := 199) hx hb dX13_tour_222 (by decide) ?_
      exact ih (i7 + (1 : Int32)) (mx_si M 10 i7.toNatClampNeg (M.1 9 i7.toNatClampNeg)) _ _ _ hf hM (lv_sub hl [1, 2, 3, 4, 0] rfl)
set_option maxRecDepth 100000 in
set_option maxHeartbeats 4000000 in
theorem wfX13_tour_166 {E : KE} {p : Program} {l : Launch} {e : Env} {s : State} {m : MethodId} {args : Array Value} {below : List Frame} {meth : Method} {c : Code} {q : (Int32 × MM)} (C : mx_C E p m c cX13_tour 8 s args RX13 meth (some .int)) (i1 : Int32) (hT : E.1 = mt) (i3 : Int32) (k139 : Int32 → Int32 → Int32 → MM → Option (Int32 × MM)) (hk139 : ∀ (i4 : Int32) (i6 : Int32) (i7 : Int32) (M : MM) (H : Heap) (locs : List Loc) (ls : Array Slot), k139 i4 i6 i7 M = some q → mx_H E s M H locs → lv_has ls 8 [(0, .ref (E.2.1.2.1 0)), (1, .int i1), (3, .int i3), (4, .int i4), (6, .int i6), (7, .int i7)] → W p l e (mx_rm 3) s m args below meth c H locs 0 0 (mx_Z E below args s (some (.int q.1)) q.2) (F0 m 139 ls [])) : ∀ (i4 : Int32) (i7 : Int32) (is0 : Int32) (is2 : Int32) (M : MM) (H : Heap) (locs : List Loc) (ls : Array Slot), fX13_tour_166 i1 i3 k139 i4 i7 is0 is2 M = some q → mx_H E s M H locs → lv_has ls 8 [(0, .ref (E.2.1.2.1 0)), (1, .int i1), (3, .int i3), (4, .int i4), (7, .int i7)] → W p l e (mx_rm 3) s m args below meth c H locs 0 0 (mx_Z E below args s (some (.int q.1)) q.2) (F0 m 166 ls [.int is2, .ref (E.2.1.2.1 0), .int is0]) := by
  have hx := C.1.1
  have hb := C.1.2.1
  have hown := C.1.2.2.2.1
  have hts := C.1.2.2.2.2
  intro i4 i7 is0 is2 M H locs ls hf hM hl
  rw [fX13_tour_166] at hf
  refine lv_aload_n hx hb dX13_tour_166 rfl (lv_at hl 0 rfl) ?_
  refine g13_56 C hT hM dX13_tour_167 ?_
  refine lv_iload hx hb dX13_tour_170 (lv_at hl 4 rfl) ?_
  obtain ⟨hg172, hf⟩ := mx_gd hf
  refine mx_iald C hM (mt_9 hT) (mx_in_vp hg172) dX13_tour_172 ?_
  obtain ⟨q173, hq173, hf⟩ := mx_bd hf
  refine mx_callV C hM hl.1 yo_X13_farOf (h' := 2) (by decide) qw_1725 qw_1727 qs_144 (ci := 13) (q := (RX13, TX13, 52)) rfl (mt_0 hT) (As := [.int is2, .int (M.1 9 i7.toNatClampNeg)]) (rest := [.int is0]) (st1 := [.int q173, .int is0]) (kX13_farOf C.2.2.2.1 is2 (M.1 9 i7.toNatClampNeg) hT M hq173) rfl rfl rfl (Nat.le_of_ble_eq_true rfl) dX13_tour_173 (fun H locs hM => ?_)
  refine lv_iadd hx hb dX13_tour_176 ?_
  refine lv_istore (lv' := [(6, .int (is0 + q173)), (0, .ref (E.2.1.2.1 0)), (1, .int i1), (3, .int i3), (4, .int i4), (7, .int i7)]) hx hb dX13_tour_177 hl (by decide) rfl (fun ls hl => ?_)
  refine lv_iinc (v := (i7 + (1 : Int32))) (lv' := [(7, .int (i7 + (1 : Int32))), (6, .int (is0 + q173)), (0, .ref (E.2.1.2.1 0)), (1, .int i1), (3, .int i3), (4, .int i4)]) hx hb dX13_tour_179 hl (k := 5) rfl rfl (by decide) rfl (fun ls hl => ?_)
  refine lv_goto (tgt := 139) hx hb dX13_tour_182 (by decide) ?_
  exact hk139 i4 (is0 + q173) (i7 + (1 : Int32)) M _ _ _ hf hM (lv_sub hl [2, 3, 4, 5, 1, 0] rfl)
set_option maxRecDepth 100000 in
set_option maxHeartbeats 4000000 in
theorem wfX13_tour_139 {E : KE} {p : Program} {l : Launch} {e : Env} {s : State} {m : MethodId} {args : Array Value} {below : List Frame} {meth : Method} {c : Code} {q : (Int32 × MM)} (C : mx_C E p m c cX13_tour 8 s args RX13 meth (some .int)) (i1 : Int32) (hT : E.1 = mt) (i3 : Int32) (k128 : Int32 → Bool → MM → Option (Int32 × MM)) (hk128 : ∀ (i4 : Int32) (b5 : Bool) (M : MM) (H : Heap) (locs : List Loc) (ls : Array Slot), k128 i4 b5 M = some q → mx_H E s M H locs → lv_has ls 8 [(0, .ref (E.2.1.2.1 0)), (1, .int i1), (3, .int i3), (4, .int i4), (5, .int (mx_b b5))] → W p l e (mx_rm 3) s m args below meth c H locs 0 0 (mx_Z E below args s (some (.int q.1)) q.2) (F0 m 128 ls [])) : ∀ (n : Nat) (i4 : Int32) (i6 : Int32) (i7 : Int32) (M : MM) (H : Heap) (locs : List Loc) (ls : Array Slot), fX13_tour_139 i1 i3 k128 n i4 i6 i7 M = some q → mx_H E s M H locs → lv_has ls 8 [(0, .ref (E.2.1.2.1 0)), (1, .int i1), (3, .int i3), (4, .int i4), (6, .int i6), (7, .int i7)] → W p l e (mx_rm 3) s m args below meth c H locs 0 0 (mx_Z E below args s (some (.int q.1)) q.2) (F0 m 139 ls []) := by
  have hx := C.1.1
  have hb := C.1.2.1
  have hown := C.1.2.2.2.1
  have hts := C.1.2.2.2.2
  intro n
  induction n with
  | zero =>
    intro i4 i6 i7 M H locs ls hf hM hl
    rw [fX13_tour_139] at hf
    cases hf
  | succ n ih =>
    intro i4 i6 i7 M H locs ls hf hM hl
    rw [fX13_tour_139] at hf
    refine lv_iload hx hb dX13_tour_139 (lv_at hl 5 rfl) ?_
    refine lv_iload_n hx hb dX13_tour_141 rfl (lv_at hl 2 rfl) ?_
    refine lv_icmp_ge (tgt := 185) hx hb dX13_tour_142 (by decide) (fun hc142 => ?_) (fun hc142 => ?_)
    · replace hf := mx_ift hc142 hf
      refine lv_iload hx hb dX13_tour_185 (lv_at hl 4 rfl) ?_
      refine lv_iload hx hb dX13_tour_187 (lv_at hl 3 rfl) ?_
      refine lv_icmp_ge (tgt := 225) hx hb dX13_tour_189 (by decide) (fun hc189 => ?_) (fun hc189 => ?_)
      · replace hf := mx_ift hc189 hf
        exact wfX13_tour_225 C i1 hT i3 k128 hk128 i4 M _ _ _ hf hM (lv_sub hl [0, 1, 2, 3] rfl)
      · replace hf := mx_iff hc189 hf
        refine lv_iload hx hb dX13_tour_192 (lv_at hl 4 rfl) ?_
        refine lv_istore (lv' := [(4, .int i6), (0, .ref (E.2.1.2.1 0)), (1, .int i1), (3, .int i3), (6, .int i6), (7, .int i7)]) hx hb dX13_tour_194 hl (by decide) rfl (fun ls hl => ?_)
        refine lv_iconst (v := (0 : Int32)) hx hb dX13_tour_196 (by decide) ?_
        refine lv_istore (lv' := [(7, .int (0 : Int32)), (4, .int i6), (0, .ref (E.2.1.2.1 0)), (1, .int i1), (3, .int i3), (6, .int i6)]) hx hb dX13_tour_197 hl (by decide) rfl (fun ls hl => ?_)
        exact wfX13_tour_199 C i1 hT i3 i6 (fun i4' M' => fX13_tour_225 i1 i3 k128 i4' M') (fun i4' M' H locs ls hf hM hl => wfX13_tour_225 C i1 hT i3 k128 hk128 i4' M' H locs ls hf hM hl) mx_fu (0 : Int32) M _ _ _ hf hM (lv_sub hl [2, 3, 4, 1, 0] rfl)
    · replace hf := mx_iff hc142 hf
      refine lv_iload hx hb dX13_tour_145 (lv_at hl 4 rfl) ?_
      refine lv_aload_n hx hb dX13_tour_147 rfl (lv_at hl 0 rfl) ?_
      refine lv_iload hx hb dX13_tour_148 (lv_at hl 5 rfl) ?_
      refine lv_if_ne (tgt := 157) hx hb dX13_tour_150 (by decide) (fun hc150 => ?_) (fun hc150 => ?_)
      · replace hf := mx_iff hc150 hf
        refine lv_aload_n hx hb dX13_tour_157 rfl (lv_at hl 0 rfl) ?_
        refine g13_56 C hT hM dX13_tour_158 ?_
        refine lv_iload hx hb dX13_tour_161 (lv_at hl 5 rfl) ?_
        refine lv_iconst (v := (1 : Int32)) hx hb dX13_tour_163 (by decide) ?_
        refine lv_isub hx hb dX13_tour_164 ?_
        obtain ⟨hg165, hf⟩ := mx_gd hf
        refine mx_iald C hM (mt_9 hT) (mx_in_vp hg165) dX13_tour_165 ?_
        exact wfX13_tour_166 C i1 hT i3 (fX13_tour_139 i1 i3 k128 n) ih i4 i7 i6 (M.1 9 (i7 - (1 : Int32)).toNatClampNeg) M _ _ _ hf hM (lv_sub hl [0, 1, 2, 3, 5] rfl)
      · replace hf := mx_ift hc150 hf
        refine lv_iload_n hx hb dX13_tour_153 rfl (lv_at hl 1 rfl) ?_
        refine lv_goto (tgt := 166) hx hb dX13_tour_154 (by decide) ?_
        exact wfX13_tour_166 C i1 hT i3 (fX13_tour_139 i1 i3 k128 n) ih i4 i7 i6 i1 M _ _ _ hf hM (lv_sub hl [0, 1, 2, 3, 5] rfl)
set_option maxRecDepth 100000 in
set_option maxHeartbeats 4000000 in
theorem wfX13_tour_128 {E : KE} {p : Program} {l : Launch} {e : Env} {s : State} {m : MethodId} {args : Array Value} {below : List Frame} {meth : Method} {c : Code} {q : (Int32 × MM)} (C : mx_C E p m c cX13_tour 8 s args RX13 meth (some .int)) (i1 : Int32) (hT : E.1 = mt) (i3 : Int32)  : ∀ (n : Nat) (i4 : Int32) (b5 : Bool) (M : MM) (H : Heap) (locs : List Loc) (ls : Array Slot), fX13_tour_128 i1 i3 n i4 b5 M = some q → mx_H E s M H locs → lv_has ls 8 [(0, .ref (E.2.1.2.1 0)), (1, .int i1), (3, .int i3), (4, .int i4), (5, .int (mx_b b5))] → W p l e (mx_rm 3) s m args below meth c H locs 0 0 (mx_Z E below args s (some (.int q.1)) q.2) (F0 m 128 ls []) := by
  have hx := C.1.1
  have hb := C.1.2.1
  have hown := C.1.2.2.2.1
  have hts := C.1.2.2.2.2
  intro n
  induction n with
  | zero =>
    intro i4 b5 M H locs ls hf hM hl
    rw [fX13_tour_128] at hf
    cases hf
  | succ n ih =>
    intro i4 b5 M H locs ls hf hM hl
    rw [fX13_tour_128] at hf
    refine lv_iload hx hb dX13_tour_128 (lv_at hl 4 rfl) ?_
    refine lv_if_eq (tgt := 235) hx hb dX13_tour_130 (by decide) (fun hc130 => ?_) (fun hc130 => ?_)
    · replace hf := mx_ift hc130 hf
      refine lv_aload_n hx hb dX13_tour_235 rfl (lv_at hl 0 rfl) ?_
      refine lv_iload_n hx hb dX13_tour_236 rfl (lv_at hl 2 rfl) ?_
      refine p13_62 C hT hM dX13_tour_237 (fun H locs hM => ?_)
      refine lv_iload hx hb dX13_tour_240 (lv_at hl 3 rfl) ?_
      exact mx_iret C hM hf dX13_tour_242
    · replace hf := mx_iff hc130 hf
      refine lv_iconst (v := (0 : Int32)) hx hb dX13_tour_133 (by decide) ?_
      refine lv_istore (lv' := [(6, .int (0 : Int32)), (0, .ref (E.2.1.2.1 0)), (1, .int i1), (3, .int i3), (4, .int i4), (5, .int (mx_b b5))]) hx hb dX13_tour_134 hl (by decide) rfl (fun ls hl => ?_)
      refine lv_iconst (v := (0 : Int32)) hx hb dX13_tour_136 (by decide) ?_
      refine lv_istore (lv' := [(7, .int (0 : Int32)), (6, .int (0 : Int32)), (0, .ref (E.2.1.2.1 0)), (1, .int i1), (3, .int i3), (4, .int i4), (5, .int (mx_b b5))]) hx hb dX13_tour_137 hl (by decide) rfl (fun ls hl => ?_)
      exact wfX13_tour_139 C i1 hT i3 (fX13_tour_128 i1 i3 n) ih mx_fu i4 (0 : Int32) (0 : Int32) M _ _ _ hf hM (lv_sub hl [2, 3, 4, 5, 1, 0] rfl)
set_option maxRecDepth 100000 in
set_option maxHeartbeats 4000000 in
theorem wfX13_tour_80 {E : KE} {p : Program} {l : Launch} {e : Env} {s : State} {m : MethodId} {args : Array Value} {below : List Frame} {meth : Method} {c : Code} {q : (Int32 × MM)} (C : mx_C E p m c cX13_tour 8 s args RX13 meth (some .int)) (i1 : Int32) (hT : E.1 = mt) (i2 : Int32)  : ∀ (n : Nat) (i3 : Int32) (i4 : Int32) (M : MM) (H : Heap) (locs : List Loc) (ls : Array Slot), fX13_tour_80 i1 i2 n i3 i4 M = some q → mx_H E s M H locs → lv_has ls 8 [(0, .ref (E.2.1.2.1 0)), (1, .int i1), (2, .int i2), (3, .int i3), (4, .int i4)] → W p l e (mx_rm 3) s m args below meth c H locs 0 0 (mx_Z E below args s (some (.int q.1)) q.2) (F0 m 80 ls []) := by
  have hx := C.1.1
  have hb := C.1.2.1
  have hown := C.1.2.2.2.1
  have hts := C.1.2.2.2.2
  intro n
  induction n with
  | zero =>
    intro i3 i4 M H locs ls hf hM hl
    rw [fX13_tour_80] at hf
    cases hf
  | succ n ih =>
    intro i3 i4 M H locs ls hf hM hl
    rw [fX13_tour_80] at hf
    refine lv_iload hx hb dX13_tour_80 (lv_at hl 4 rfl) ?_
    refine lv_aload_n hx hb dX13_tour_82 rfl (lv_at hl 0 rfl) ?_
    refine g13_33 C hT hM dX13_tour_83 ?_
    refine lv_iconst (v := (0 : Int32)) hx hb dX13_tour_86 (by decide) ?_
    refine mx_ialdL C hM (mt_2 hT) (j := 0) (by decide) (mx_in_vp (by decide)) dX13_tour_87 ?_
    refine lv_icmp_ge (tgt := 120) hx hb dX13_tour_88 (by decide) (fun hc88 => ?_) (fun hc88 => ?_)
    · replace hf := mx_ift hc88 hf
      refine lv_ldcw (v := (1000000)) hx hb hown (hts _ qw_1807) dX13_tour_120 ?_
      refine lv_istore (lv' := [(4, .int (1000000 : Int32)), (0, .ref (E.2.1.2.1 0)), (1, .int i1), (2, .int i2), (3, .int i3)]) hx hb dX13_tour_123 hl (by decide) rfl (fun ls hl => ?_)
      refine lv_iconst (v := (1 : Int32)) hx hb dX13_tour_125 (by decide) ?_
      refine lv_istore (lv' := [(5, .int (1 : Int32)), (4, .int (1000000 : Int32)), (0, .ref (E.2.1.2.1 0)), (1, .int i1), (2, .int i2), (3, .int i3)]) hx hb dX13_tour_126 hl (by decide) rfl (fun ls hl => ?_)
      exact wfX13_tour_128 C i1 hT i3 mx_fu (1000000 : Int32) true M _ _ _ hf hM (lv_sub hl [2, 3, 5, 1, 0] rfl)
    · replace hf := mx_iff hc88 hf
      refine lv_iload_n hx hb dX13_tour_91 rfl (lv_at hl 2 rfl) ?_
      refine lv_iload hx hb dX13_tour_92 (lv_at hl 4 rfl) ?_
      obtain ⟨q94, hq94, hf⟩ := mx_bd hf
      refine mx_callS C hM hl.1 yo_X13_bitOf (h' := 0) (by decide) qw_1627 qw_1628 (As := [.int i2, .int i4]) (rest := []) (st1 := [.int (mx_b q94)]) (kX13_bitOf C.2.2.2.1 i2 i4 hT M hq94) rfl rfl rfl (Nat.le_of_ble_eq_true rfl) dX13_tour_94 (fun H locs hM => ?_)
      refine lv_if_ne (tgt := 103) hx hb dX13_tour_97 (by decide) (fun hc97 => ?_) (fun hc97 => ?_)
      · replace hf := mx_iff hc97 hf
        refine lv_aload_n hx hb dX13_tour_103 rfl (lv_at hl 0 rfl) ?_
        refine g13_56 C hT hM dX13_tour_104 ?_
        refine lv_iload_n hx hb dX13_tour_107 rfl (lv_at hl 3 rfl) ?_
        refine lv_iload hx hb dX13_tour_108 (lv_at hl 4 rfl) ?_
        obtain ⟨hg110, hf⟩ := mx_gd hf
        refine mx_iast C hM (mt_9 hT) (mx_in_vp hg110) dX13_tour_110 (fun H locs hM => ?_)
        refine lv_iinc (v := (i3 + (1 : Int32))) (lv' := [(3, .int (i3 + (1 : Int32))), (0, .ref (E.2.1.2.1 0)), (1, .int i1), (2, .int i2), (4, .int i4)]) hx hb dX13_tour_111 hl (k := 3) rfl rfl (by decide) rfl (fun ls hl => ?_)
        refine lv_iinc (v := (i4 + (1 : Int32))) (lv' := [(4, .int (i4 + (1 : Int32))), (3, .int (i3 + (1 : Int32))), (0, .ref (E.2.1.2.1 0)), (1, .int i1), (2, .int i2)]) hx hb dX13_tour_114 hl (k := 4) rfl rfl (by decide) rfl (fun ls hl => ?_)
        refine lv_goto (tgt := 80) hx hb dX13_tour_117 (by decide) ?_
        exact ih (i3 + (1 : Int32)) (i4 + (1 : Int32)) (mx_si M 9 i3.toNatClampNeg i4) _ _ _ hf hM (lv_sub hl [2, 3, 4, 1, 0] rfl)
      · replace hf := mx_ift hc97 hf
        refine lv_goto (tgt := 114) hx hb dX13_tour_100 (by decide) ?_
        refine lv_iinc (v := (i4 + (1 : Int32))) (lv' := [(4, .int (i4 + (1 : Int32))), (0, .ref (E.2.1.2.1 0)), (1, .int i1), (2, .int i2), (3, .int i3)]) hx hb dX13_tour_114 hl (k := 4) rfl rfl (by decide) rfl (fun ls hl => ?_)
        refine lv_goto (tgt := 80) hx hb dX13_tour_117 (by decide) ?_
        exact ih i3 (i4 + (1 : Int32)) M _ _ _ hf hM (lv_sub hl [1, 2, 3, 4, 0] rfl)
set_option maxRecDepth 100000 in
set_option maxHeartbeats 4000000 in
theorem wfX13_tour_19 {E : KE} {p : Program} {l : Launch} {e : Env} {s : State} {m : MethodId} {args : Array Value} {below : List Frame} {meth : Method} {c : Code} {q : (Int32 × MM)} (C : mx_C E p m c cX13_tour 8 s args RX13 meth (some .int)) (i1 : Int32) (hT : E.1 = mt)   : ∀ (n : Nat) (i2 : Int32) (i3 : Int32) (M : MM) (H : Heap) (locs : List Loc) (ls : Array Slot), fX13_tour_19 i1 n i2 i3 M = some q → mx_H E s M H locs → lv_has ls 8 [(0, .ref (E.2.1.2.1 0)), (1, .int i1), (2, .int i2), (3, .int i3)] → W p l e (mx_rm 3) s m args below meth c H locs 0 0 (mx_Z E below args s (some (.int q.1)) q.2) (F0 m 19 ls []) := by
  have hx := C.1.1
  have hb := C.1.2.1
  have hown := C.1.2.2.2.1
  have hts := C.1.2.2.2.2
  intro n
  induction n with
  | zero =>
    intro i2 i3 M H locs ls hf hM hl
    rw [fX13_tour_19] at hf
    cases hf
  | succ n ih =>
    intro i2 i3 M H locs ls hf hM hl
    rw [fX13_tour_19] at hf
    refine lv_iload_n hx hb dX13_tour_19 rfl (lv_at hl 3 rfl) ?_
    refine lv_aload_n hx hb dX13_tour_20 rfl (lv_at hl 0 rfl) ?_
    refine g13_33 C hT hM dX13_tour_21 ?_
    refine lv_iconst (v := (1 : Int32)) hx hb dX13_tour_24 (by decide) ?_
    refine mx_ialdL C hM (mt_2 hT) (j := 1) (by decide) (mx_in_vp (by decide)) dX13_tour_25 ?_
    refine lv_icmp_ge (tgt := 75) hx hb dX13_tour_26 (by decide) (fun hc26 => ?_) (fun hc26 => ?_)
    · replace hf := mx_ift hc26 hf
      refine lv_iconst (v := (0 : Int32)) hx hb dX13_tour_75 (by decide) ?_
      refine lv_istore_n (lv' := [(3, .int (0 : Int32)), (0, .ref (E.2.1.2.1 0)), (1, .int i1), (2, .int i2)]) hx hb dX13_tour_76 rfl hl (by decide) rfl (fun ls hl => ?_)
      refine lv_iconst (v := (0 : Int32)) hx hb dX13_tour_77 (by decide) ?_
      refine lv_istore (lv' := [(4, .int (0 : Int32)), (3, .int (0 : Int32)), (0, .ref (E.2.1.2.1 0)), (1, .int i1), (2, .int i2)]) hx hb dX13_tour_78 hl (by decide) rfl (fun ls hl => ?_)
      exact wfX13_tour_80 C i1 hT i2 mx_fu (0 : Int32) (0 : Int32) M _ _ _ hf hM (lv_sub hl [2, 3, 4, 1, 0] rfl)
    · replace hf := mx_iff hc26 hf
      refine lv_iload_n hx hb dX13_tour_29 rfl (lv_at hl 2 rfl) ?_
      refine lv_aload_n hx hb dX13_tour_30 rfl (lv_at hl 0 rfl) ?_
      refine lv_iload_n hx hb dX13_tour_31 rfl (lv_at hl 1 rfl) ?_
      refine lv_iload_n hx hb dX13_tour_32 rfl (lv_at hl 3 rfl) ?_
      obtain ⟨q33, hq33, hf⟩ := mx_bd hf
      refine mx_callV C hM hl.1 yo_X13_keeps (h' := 0) (by decide) qw_1658 qw_1660 qs_133 (ci := 13) (q := (RX13, TX13, 52)) rfl (mt_0 hT) (As := [.int i1, .int i3]) (rest := [.int i2]) (st1 := [.int (mx_b q33), .int i2]) (kX13_keeps C.2.2.2.1 i1 i3 hT M hq33) rfl rfl rfl (Nat.le_of_ble_eq_true rfl) dX13_tour_33 (fun H locs hM => ?_)
      refine lv_if_eq (tgt := 66) hx hb dX13_tour_36 (by decide) (fun hc36 => ?_) (fun hc36 => ?_)
      · replace hf := mx_ift hc36 hf
        refine lv_iconst (v := (0 : Int32)) hx hb dX13_tour_66 (by decide) ?_
        refine lv_ior hx hb dX13_tour_67 ?_
        refine lv_istore_n (lv' := [(2, .int (i2 ||| (0 : Int32))), (0, .ref (E.2.1.2.1 0)), (1, .int i1), (3, .int i3)]) hx hb dX13_tour_68 rfl hl (by decide) rfl (fun ls hl => ?_)
        refine lv_iinc (v := (i3 + (1 : Int32))) (lv' := [(3, .int (i3 + (1 : Int32))), (2, .int (i2 ||| (0 : Int32))), (0, .ref (E.2.1.2.1 0)), (1, .int i1)]) hx hb dX13_tour_69 hl (k := 3) rfl rfl (by decide) rfl (fun ls hl => ?_)
        refine lv_goto (tgt := 19) hx hb dX13_tour_72 (by decide) ?_
        exact ih (i2 ||| (0 : Int32)) (i3 + (1 : Int32)) M _ _ _ hf hM (lv_sub hl [2, 3, 1, 0] rfl)
      · replace hf := mx_iff hc36 hf
        refine lv_aload_n hx hb dX13_tour_39 rfl (lv_at hl 0 rfl) ?_
        refine g13_33 C hT hM dX13_tour_40 ?_
        refine lv_bipush (v := (33 : Int32)) hx hb dX13_tour_43 (by decide) ?_
        refine lv_iload_n hx hb dX13_tour_45 rfl (lv_at hl 3 rfl) ?_
        refine lv_iadd hx hb dX13_tour_46 ?_
        obtain ⟨hg47, hf⟩ := mx_gd hf
        refine mx_iald C hM (mt_2 hT) (mx_in_vp hg47) dX13_tour_47 ?_
        refine lv_iload_n hx hb dX13_tour_48 rfl (lv_at hl 1 rfl) ?_
        refine lv_icmp_eq (tgt := 66) hx hb dX13_tour_49 (by decide) (fun hc49 => ?_) (fun hc49 => ?_)
        · replace hf := mx_ift hc49 hf
          refine lv_iconst (v := (0 : Int32)) hx hb dX13_tour_66 (by decide) ?_
          refine lv_ior hx hb dX13_tour_67 ?_
          refine lv_istore_n (lv' := [(2, .int (i2 ||| (0 : Int32))), (0, .ref (E.2.1.2.1 0)), (1, .int i1), (3, .int i3)]) hx hb dX13_tour_68 rfl hl (by decide) rfl (fun ls hl => ?_)
          refine lv_iinc (v := (i3 + (1 : Int32))) (lv' := [(3, .int (i3 + (1 : Int32))), (2, .int (i2 ||| (0 : Int32))), (0, .ref (E.2.1.2.1 0)), (1, .int i1)]) hx hb dX13_tour_69 hl (k := 3) rfl rfl (by decide) rfl (fun ls hl => ?_)
          refine lv_goto (tgt := 19) hx hb dX13_tour_72 (by decide) ?_
          exact ih (i2 ||| (0 : Int32)) (i3 + (1 : Int32)) M _ _ _ hf hM (lv_sub hl [2, 3, 1, 0] rfl)
        · replace hf := mx_iff hc49 hf
          refine lv_iconst (v := (1 : Int32)) hx hb dX13_tour_52 (by decide) ?_
          refine lv_aload_n hx hb dX13_tour_53 rfl (lv_at hl 0 rfl) ?_
          refine g13_33 C hT hM dX13_tour_54 ?_
          refine lv_bipush (v := (33 : Int32)) hx hb dX13_tour_57 (by decide) ?_
          refine lv_iload_n hx hb dX13_tour_59 rfl (lv_at hl 3 rfl) ?_
          refine lv_iadd hx hb dX13_tour_60 ?_
          obtain ⟨hg61, hf⟩ := mx_gd hf
          refine mx_iald C hM (mt_2 hT) (mx_in_vp hg61) dX13_tour_61 ?_
          refine lv_ishl hx hb dX13_tour_62 ?_
          refine lv_goto (tgt := 67) hx hb dX13_tour_63 (by decide) ?_
          refine lv_ior hx hb dX13_tour_67 ?_
          refine lv_istore_n (lv' := [(2, .int (i2 ||| ((1 : Int32) <<< ((M.1 2 ((33 : Int32) + i3).toNatClampNeg) &&& 31)))), (0, .ref (E.2.1.2.1 0)), (1, .int i1), (3, .int i3)]) hx hb dX13_tour_68 rfl hl (by decide) rfl (fun ls hl => ?_)
          refine lv_iinc (v := (i3 + (1 : Int32))) (lv' := [(3, .int (i3 + (1 : Int32))), (2, .int (i2 ||| ((1 : Int32) <<< ((M.1 2 ((33 : Int32) + i3).toNatClampNeg) &&& 31)))), (0, .ref (E.2.1.2.1 0)), (1, .int i1)]) hx hb dX13_tour_69 hl (k := 3) rfl rfl (by decide) rfl (fun ls hl => ?_)
          refine lv_goto (tgt := 19) hx hb dX13_tour_72 (by decide) ?_
          exact ih (i2 ||| ((1 : Int32) <<< ((M.1 2 ((33 : Int32) + i3).toNatClampNeg) &&& 31))) (i3 + (1 : Int32)) M _ _ _ hf hM (lv_sub hl [2, 3, 1, 0] rfl)
set_option maxRecDepth 100000 in
set_option maxHeartbeats 4000000 in
theorem kX13_tour {E : KE} {l : Launch} (hE : mx_ok E) (i1 : Int32) (hT : E.1 = mt) (M : MM) {q : (Int32 × MM)} (hf : fX13_tour i1 M = some q) : mx_Met E l yX13_tour cX13_tour 8 (some .int) 3 [.ref (E.2.1.2.1 0), .int i1] M (some (.int q.1)) q.2 := by
  refine mx_enter hE (by decide) (Nat.le_of_ble_eq_true rfl) ?_
  intro p e s m below meth c C hM hn ls hl
  have hx := C.1.1
  have hb := C.1.2.1
  have hown := C.1.2.2.2.1
  have hts := C.1.2.2.2.2
  have hl : lv_has ls 8 [(0, .ref (E.2.1.2.1 0)), (1, .int i1)] := hl
  rw [fX13_tour] at hf
  refine lv_aload_n hx hb dX13_tour_0 rfl (lv_at hl 0 rfl) ?_
  refine lv_iconst (v := (0 : Int32)) hx hb dX13_tour_1 (by decide) ?_
  refine p13_1 C hT hM dX13_tour_2 (fun H locs hM => ?_)
  refine lv_aload_n hx hb dX13_tour_5 rfl (lv_at hl 0 rfl) ?_
  refine lv_iload_n hx hb dX13_tour_6 rfl (lv_at hl 1 rfl) ?_
  obtain ⟨q7, hq7, hf⟩ := mx_bd hf
  refine mx_callV C hM hl.1 yo_X13_isPerson (h' := 1) (by decide) qw_1646 qw_1648 qs_130 (ci := 13) (q := (RX13, TX13, 52)) rfl (mt_0 hT) (As := [.int i1]) (rest := []) (st1 := [.int (mx_b q7)]) (kX13_isPerson C.2.2.2.1 i1 hT (mx_si M 0 0 (0 : Int32)) hq7) rfl rfl rfl (Nat.le_of_ble_eq_true rfl) dX13_tour_7 (fun H locs hM => ?_)
  refine lv_if_ne (tgt := 15) hx hb dX13_tour_10 (by decide) (fun hc10 => ?_) (fun hc10 => ?_)
  · replace hf := mx_iff hc10 hf
    refine lv_iconst (v := (0 : Int32)) hx hb dX13_tour_15 (by decide) ?_
    refine lv_istore_n (lv' := [(2, .int (0 : Int32)), (0, .ref (E.2.1.2.1 0)), (1, .int i1)]) hx hb dX13_tour_16 rfl hl (by decide) rfl (fun ls hl => ?_)
    refine lv_iconst (v := (0 : Int32)) hx hb dX13_tour_17 (by decide) ?_
    refine lv_istore_n (lv' := [(3, .int (0 : Int32)), (2, .int (0 : Int32)), (0, .ref (E.2.1.2.1 0)), (1, .int i1)]) hx hb dX13_tour_18 rfl hl (by decide) rfl (fun ls hl => ?_)
    exact wfX13_tour_19 C i1 hT mx_fu (0 : Int32) (0 : Int32) (mx_si M 0 0 (0 : Int32)) _ _ _ hf hM (lv_sub hl [2, 3, 1, 0] rfl)
  · replace hf := mx_ift hc10 hf
    refine lv_iconst (v := (-1 : Int32)) hx hb dX13_tour_13 (by decide) ?_
    exact mx_iret C hM hf dX13_tour_14
theorem dX13_tourAt_0 : decode cX13_tourAt 0 = .ok (.aload_n 0, 1) := by decide +kernel
theorem dX13_tourAt_1 : decode cX13_tourAt 1 = .ok (.iconst 0, 1) := by decide +kernel
theorem dX13_tourAt_2 : decode cX13_tourAt 2 = .ok (.putfield 1, 3) := by decide +kernel
theorem dX13_tourAt_5 : decode cX13_tourAt 5 = .ok (.iload_n 1, 1) := by decide +kernel
theorem dX13_tourAt_6 : decode cX13_tourAt 6 = .ok (.iconst 0, 1) := by decide +kernel
theorem dX13_tourAt_7 : decode cX13_tourAt 7 = .ok (.aload_n 0, 1) := by decide +kernel
theorem dX13_tourAt_8 : decode cX13_tourAt 8 = .ok (.getfield 62, 3) := by decide +kernel
theorem dX13_tourAt_11 : decode cX13_tourAt 11 = .ok (.iconst 1, 1) := by decide +kernel
theorem dX13_tourAt_12 : decode cX13_tourAt 12 = .ok (.isub, 1) := by decide +kernel
theorem dX13_tourAt_13 : decode cX13_tourAt 13 = .ok (.invokestatic 193, 3) := by decide +kernel
theorem dX13_tourAt_16 : decode cX13_tourAt 16 = .ok (.ifCond .eq 12, 3) := by decide +kernel
theorem dX13_tourAt_19 : decode cX13_tourAt 19 = .ok (.aload_n 0, 1) := by decide +kernel
theorem dX13_tourAt_20 : decode cX13_tourAt 20 = .ok (.getfield 59, 3) := by decide +kernel
theorem dX13_tourAt_23 : decode cX13_tourAt 23 = .ok (.iload_n 1, 1) := by decide +kernel
theorem dX13_tourAt_24 : decode cX13_tourAt 24 = .ok (.iaload, 1) := by decide +kernel
theorem dX13_tourAt_25 : decode cX13_tourAt 25 = .ok (.goto 4, 3) := by decide +kernel
theorem dX13_tourAt_28 : decode cX13_tourAt 28 = .ok (.iconst (-1), 1) := by decide +kernel
theorem dX13_tourAt_29 : decode cX13_tourAt 29 = .ok (.ireturn, 1) := by decide +kernel
set_option maxRecDepth 100000 in
set_option maxHeartbeats 4000000 in
theorem kX13_tourAt {E : KE} {l : Launch} (hE : mx_ok E) (i1 : Int32) (hT : E.1 = mt) (M : MM) {q : (Int32 × MM)} (hf : fX13_tourAt i1 M = some q) : mx_Met E l yX13_tourAt cX13_tourAt 2 (some .int) 1 [.ref (E.2.1.2.1 0), .int i1] M (some (.int q.1)) q.2 := by
  refine mx_enter hE (by decide) (Nat.le_of_ble_eq_true rfl) ?_
  intro p e s m below meth c C hM hn ls hl
  have hx := C.1.1
  have hb := C.1.2.1
  have hown := C.1.2.2.2.1
  have hts := C.1.2.2.2.2
  have hl : lv_has ls 2 [(0, .ref (E.2.1.2.1 0)), (1, .int i1)] := hl
  rw [fX13_tourAt] at hf
  refine lv_aload_n hx hb dX13_tourAt_0 rfl (lv_at hl 0 rfl) ?_
  refine lv_iconst (v := (0 : Int32)) hx hb dX13_tourAt_1 (by decide) ?_
  refine p13_1 C hT hM dX13_tourAt_2 (fun H locs hM => ?_)
  refine lv_iload_n hx hb dX13_tourAt_5 rfl (lv_at hl 1 rfl) ?_
  refine lv_iconst (v := (0 : Int32)) hx hb dX13_tourAt_6 (by decide) ?_
  refine lv_aload_n hx hb dX13_tourAt_7 rfl (lv_at hl 0 rfl) ?_
  refine g13_62 C hT hM dX13_tourAt_8 ?_
  refine lv_iconst (v := (1 : Int32)) hx hb dX13_tourAt_11 (by decide) ?_
  refine lv_isub hx hb dX13_tourAt_12 ?_
  obtain ⟨q13, hq13, hf⟩ := mx_bd hf
  refine mx_callS C hM hl.1 yo_X13_isIn (h' := 0) (by decide) qw_1608 qw_1609 (As := [.int i1, .int (0 : Int32), .int (((mx_si M 0 0 (0 : Int32)).1 0 26) - (1 : Int32))]) (rest := []) (st1 := [.int (mx_b q13)]) (kX13_isIn C.2.2.2.1 i1 (0 : Int32) (((mx_si M 0 0 (0 : Int32)).1 0 26) - (1 : Int32)) hT (mx_si M 0 0 (0 : Int32)) hq13) rfl rfl rfl (Nat.le_of_ble_eq_true rfl) dX13_tourAt_13 (fun H locs hM => ?_)
  refine lv_if_eq (tgt := 28) hx hb dX13_tourAt_16 (by decide) (fun hc16 => ?_) (fun hc16 => ?_)
  · replace hf := mx_ift hc16 hf
    refine lv_iconst (v := (-1 : Int32)) hx hb dX13_tourAt_28 (by decide) ?_
    exact mx_iret C hM hf dX13_tourAt_29
  · replace hf := mx_iff hc16 hf
    refine lv_aload_n hx hb dX13_tourAt_19 rfl (lv_at hl 0 rfl) ?_
    refine g13_59 C hT hM dX13_tourAt_20 ?_
    refine lv_iload_n hx hb dX13_tourAt_23 rfl (lv_at hl 1 rfl) ?_
    obtain ⟨hg24, hf⟩ := mx_gd hf
    refine mx_iald C hM (mt_10 hT) (mx_in_vp hg24) dX13_tourAt_24 ?_
    refine lv_goto (tgt := 29) hx hb dX13_tourAt_25 (by decide) ?_
    exact mx_iret C hM hf dX13_tourAt_29
theorem dX13_restBy_0 : decode cX13_restBy 0 = .ok (.aload_n 0, 1) := by decide +kernel
theorem dX13_restBy_1 : decode cX13_restBy 1 = .ok (.iload_n 3, 1) := by decide +kernel
theorem dX13_restBy_2 : decode cX13_restBy 2 = .ok (.aload_n 0, 1) := by decide +kernel
theorem dX13_restBy_3 : decode cX13_restBy 3 = .ok (.getfield 33, 3) := by decide +kernel
theorem dX13_restBy_6 : decode cX13_restBy 6 = .ok (.bipush 33, 2) := by decide +kernel
theorem dX13_restBy_8 : decode cX13_restBy 8 = .ok (.iload_n 1, 1) := by decide +kernel
theorem dX13_restBy_9 : decode cX13_restBy 9 = .ok (.iadd, 1) := by decide +kernel
theorem dX13_restBy_10 : decode cX13_restBy 10 = .ok (.iaload, 1) := by decide +kernel
theorem dX13_restBy_11 : decode cX13_restBy 11 = .ok (.invokevirtual 295, 3) := by decide +kernel
theorem dX13_restBy_14 : decode cX13_restBy 14 = .ok (.aload_n 0, 1) := by decide +kernel
theorem dX13_restBy_15 : decode cX13_restBy 15 = .ok (.getfield 65, 3) := by decide +kernel
theorem dX13_restBy_18 : decode cX13_restBy 18 = .ok (.sipush 128, 3) := by decide +kernel
theorem dX13_restBy_21 : decode cX13_restBy 21 = .ok (.iload_n 1, 1) := by decide +kernel
theorem dX13_restBy_22 : decode cX13_restBy 22 = .ok (.iconst 1, 1) := by decide +kernel
theorem dX13_restBy_23 : decode cX13_restBy 23 = .ok (.iadd, 1) := by decide +kernel
theorem dX13_restBy_24 : decode cX13_restBy 24 = .ok (.imul, 1) := by decide +kernel
theorem dX13_restBy_25 : decode cX13_restBy 25 = .ok (.iload_n 2, 1) := by decide +kernel
theorem dX13_restBy_26 : decode cX13_restBy 26 = .ok (.iconst 1, 1) := by decide +kernel
theorem dX13_restBy_27 : decode cX13_restBy 27 = .ok (.iload_n 3, 1) := by decide +kernel
theorem dX13_restBy_28 : decode cX13_restBy 28 = .ok (.ishl, 1) := by decide +kernel
theorem dX13_restBy_29 : decode cX13_restBy 29 = .ok (.ior, 1) := by decide +kernel
theorem dX13_restBy_30 : decode cX13_restBy 30 = .ok (.iadd, 1) := by decide +kernel
theorem dX13_restBy_31 : decode cX13_restBy 31 = .ok (.iaload, 1) := by decide +kernel
theorem dX13_restBy_32 : decode cX13_restBy 32 = .ok (.iadd, 1) := by decide +kernel
theorem dX13_restBy_33 : decode cX13_restBy 33 = .ok (.ireturn, 1) := by decide +kernel
set_option maxRecDepth 100000 in
set_option maxHeartbeats 4000000 in
theorem kX13_restBy {E : KE} {l : Launch} (hE : mx_ok E) (i1 : Int32) (i2 : Int32) (i3 : Int32) (hT : E.1 = mt) (M : MM) {q : Int32} (hf : fX13_restBy i1 i2 i3 M = some q) : mx_Met E l yX13_restBy cX13_restBy 4 (some .int) 3 [.ref (E.2.1.2.1 0), .int i1, .int i2, .int i3] M (some (.int q)) M := by
  refine mx_enter hE (by decide) (Nat.le_of_ble_eq_true rfl) ?_
  intro p e s m below meth c C hM hn ls hl
  have hx := C.1.1
  have hb := C.1.2.1
  have hown := C.1.2.2.2.1
  have hts := C.1.2.2.2.2
  have hl : lv_has ls 4 [(0, .ref (E.2.1.2.1 0)), (1, .int i1), (2, .int i2), (3, .int i3)] := hl
  rw [fX13_restBy] at hf
  refine lv_aload_n hx hb dX13_restBy_0 rfl (lv_at hl 0 rfl) ?_
  refine lv_iload_n hx hb dX13_restBy_1 rfl (lv_at hl 3 rfl) ?_
  refine lv_aload_n hx hb dX13_restBy_2 rfl (lv_at hl 0 rfl) ?_
  refine g13_33 C hT hM dX13_restBy_3 ?_
  refine lv_bipush (v := (33 : Int32)) hx hb dX13_restBy_6 (by decide) ?_
  refine lv_iload_n hx hb dX13_restBy_8 rfl (lv_at hl 1 rfl) ?_
  refine lv_iadd hx hb dX13_restBy_9 ?_
  obtain ⟨hg10, hf⟩ := mx_gd hf
  refine mx_iald C hM (mt_2 hT) (mx_in_vp hg10) dX13_restBy_10 ?_
  obtain ⟨q11, hq11, hf⟩ := mx_bd hf
  refine mx_callV C hM hl.1 yo_X13_farOf (h' := 2) (by decide) qw_1725 qw_1727 qs_144 (ci := 13) (q := (RX13, TX13, 52)) rfl (mt_0 hT) (As := [.int i3, .int (M.1 2 ((33 : Int32) + i1).toNatClampNeg)]) (rest := []) (st1 := [.int q11]) (kX13_farOf C.2.2.2.1 i3 (M.1 2 ((33 : Int32) + i1).toNatClampNeg) hT M hq11) rfl rfl rfl (Nat.le_of_ble_eq_true rfl) dX13_restBy_11 (fun H locs hM => ?_)
  refine lv_aload_n hx hb dX13_restBy_14 rfl (lv_at hl 0 rfl) ?_
  refine g13_65 C hT hM dX13_restBy_15 ?_
  refine lv_sipush (v := (128 : Int32)) hx hb dX13_restBy_18 (by decide) ?_
  refine lv_iload_n hx hb dX13_restBy_21 rfl (lv_at hl 1 rfl) ?_
  refine lv_iconst (v := (1 : Int32)) hx hb dX13_restBy_22 (by decide) ?_
  refine lv_iadd hx hb dX13_restBy_23 ?_
  refine lv_imul hx hb dX13_restBy_24 ?_
  refine lv_iload_n hx hb dX13_restBy_25 rfl (lv_at hl 2 rfl) ?_
  refine lv_iconst (v := (1 : Int32)) hx hb dX13_restBy_26 (by decide) ?_
  refine lv_iload_n hx hb dX13_restBy_27 rfl (lv_at hl 3 rfl) ?_
  refine lv_ishl hx hb dX13_restBy_28 ?_
  refine lv_ior hx hb dX13_restBy_29 ?_
  refine lv_iadd hx hb dX13_restBy_30 ?_
  obtain ⟨hg31, hf⟩ := mx_gd hf
  refine mx_iald C hM (mt_11 hT) (mx_in_vp hg31) dX13_restBy_31 ?_
  refine lv_iadd hx hb dX13_restBy_32 ?_
  exact mx_iretR C hM hf dX13_restBy_33
theorem dX13_canKeep_0 : decode cX13_canKeep 0 = .ok (.iload_n 2, 1) := by decide +kernel
theorem dX13_canKeep_1 : decode cX13_canKeep 1 = .ok (.iload_n 3, 1) := by decide +kernel
theorem dX13_canKeep_2 : decode cX13_canKeep 2 = .ok (.invokestatic 218, 3) := by decide +kernel
theorem dX13_canKeep_5 : decode cX13_canKeep 5 = .ok (.ifCond .ne 20, 3) := by decide +kernel
theorem dX13_canKeep_8 : decode cX13_canKeep 8 = .ok (.aload_n 0, 1) := by decide +kernel
theorem dX13_canKeep_9 : decode cX13_canKeep 9 = .ok (.getfield 33, 3) := by decide +kernel
theorem dX13_canKeep_12 : decode cX13_canKeep 12 = .ok (.bipush 33, 2) := by decide +kernel
theorem dX13_canKeep_14 : decode cX13_canKeep 14 = .ok (.iload_n 1, 1) := by decide +kernel
theorem dX13_canKeep_15 : decode cX13_canKeep 15 = .ok (.iadd, 1) := by decide +kernel
theorem dX13_canKeep_16 : decode cX13_canKeep 16 = .ok (.iaload, 1) := by decide +kernel
theorem dX13_canKeep_17 : decode cX13_canKeep 17 = .ok (.iload_n 3, 1) := by decide +kernel
theorem dX13_canKeep_18 : decode cX13_canKeep 18 = .ok (.if_icmp .eq 7, 3) := by decide +kernel
theorem dX13_canKeep_21 : decode cX13_canKeep 21 = .ok (.iconst 1, 1) := by decide +kernel
theorem dX13_canKeep_22 : decode cX13_canKeep 22 = .ok (.goto 4, 3) := by decide +kernel
theorem dX13_canKeep_25 : decode cX13_canKeep 25 = .ok (.iconst 0, 1) := by decide +kernel
theorem dX13_canKeep_26 : decode cX13_canKeep 26 = .ok (.ireturn, 1) := by decide +kernel
set_option maxRecDepth 100000 in
set_option maxHeartbeats 4000000 in
theorem kX13_canKeep {E : KE} {l : Launch} (hE : mx_ok E) (i1 : Int32) (i2 : Int32) (i3 : Int32) (hT : E.1 = mt) (M : MM) {q : Bool} (hf : fX13_canKeep i1 i2 i3 M = some q) : mx_Met E l yX13_canKeep cX13_canKeep 4 (some .boolean) 1 [.ref (E.2.1.2.1 0), .int i1, .int i2, .int i3] M (some (.int (mx_b q))) M := by
  refine mx_enter hE (by decide) (Nat.le_of_ble_eq_true rfl) ?_
  intro p e s m below meth c C hM hn ls hl
  have hx := C.1.1
  have hb := C.1.2.1
  have hown := C.1.2.2.2.1
  have hts := C.1.2.2.2.2
  have hl : lv_has ls 4 [(0, .ref (E.2.1.2.1 0)), (1, .int i1), (2, .int i2), (3, .int i3)] := hl
  rw [fX13_canKeep] at hf
  refine lv_iload_n hx hb dX13_canKeep_0 rfl (lv_at hl 2 rfl) ?_
  refine lv_iload_n hx hb dX13_canKeep_1 rfl (lv_at hl 3 rfl) ?_
  obtain ⟨q2, hq2, hf⟩ := mx_bd hf
  refine mx_callS C hM hl.1 yo_X13_bitOf (h' := 0) (by decide) qw_1627 qw_1628 (As := [.int i2, .int i3]) (rest := []) (st1 := [.int (mx_b q2)]) (kX13_bitOf C.2.2.2.1 i2 i3 hT M hq2) rfl rfl rfl (Nat.le_of_ble_eq_true rfl) dX13_canKeep_2 (fun H locs hM => ?_)
  refine lv_if_ne (tgt := 25) hx hb dX13_canKeep_5 (by decide) (fun hc5 => ?_) (fun hc5 => ?_)
  · replace hf := mx_iff hc5 hf
    refine lv_iconst (v := (0 : Int32)) hx hb dX13_canKeep_25 (by decide) ?_
    exact mx_zretR C hM (b := false) rfl hf dX13_canKeep_26
  · replace hf := mx_ift hc5 hf
    refine lv_aload_n hx hb dX13_canKeep_8 rfl (lv_at hl 0 rfl) ?_
    refine g13_33 C hT hM dX13_canKeep_9 ?_
    refine lv_bipush (v := (33 : Int32)) hx hb dX13_canKeep_12 (by decide) ?_
    refine lv_iload_n hx hb dX13_canKeep_14 rfl (lv_at hl 1 rfl) ?_
    refine lv_iadd hx hb dX13_canKeep_15 ?_
    obtain ⟨hg16, hf⟩ := mx_gd hf
    refine mx_iald C hM (mt_2 hT) (mx_in_vp hg16) dX13_canKeep_16 ?_
    refine lv_iload_n hx hb dX13_canKeep_17 rfl (lv_at hl 3 rfl) ?_
    refine lv_icmp_eq (tgt := 25) hx hb dX13_canKeep_18 (by decide) (fun hc18 => ?_) (fun hc18 => ?_)
    · replace hf := mx_ift hc18 hf
      refine lv_iconst (v := (0 : Int32)) hx hb dX13_canKeep_25 (by decide) ?_
      exact mx_zretR C hM (b := false) rfl hf dX13_canKeep_26
    · replace hf := mx_iff hc18 hf
      refine lv_iconst (v := (1 : Int32)) hx hb dX13_canKeep_21 (by decide) ?_
      refine lv_goto (tgt := 26) hx hb dX13_canKeep_22 (by decide) ?_
      exact mx_zretR C hM (b := true) rfl hf dX13_canKeep_26
theorem dX13_keepers_0 : decode cX13_keepers 0 = .ok (.aload_n 0, 1) := by decide +kernel
theorem dX13_keepers_1 : decode cX13_keepers 1 = .ok (.iconst 0, 1) := by decide +kernel
theorem dX13_keepers_2 : decode cX13_keepers 2 = .ok (.putfield 1, 3) := by decide +kernel
theorem dX13_keepers_5 : decode cX13_keepers 5 = .ok (.aload_n 0, 1) := by decide +kernel
theorem dX13_keepers_6 : decode cX13_keepers 6 = .ok (.getfield 33, 3) := by decide +kernel
theorem dX13_keepers_9 : decode cX13_keepers 9 = .ok (.iconst 1, 1) := by decide +kernel
theorem dX13_keepers_10 : decode cX13_keepers 10 = .ok (.iaload, 1) := by decide +kernel
theorem dX13_keepers_11 : decode cX13_keepers 11 = .ok (.istore_n 1, 1) := by decide +kernel
theorem dX13_keepers_12 : decode cX13_keepers 12 = .ok (.iconst 0, 1) := by decide +kernel
theorem dX13_keepers_13 : decode cX13_keepers 13 = .ok (.istore_n 2, 1) := by decide +kernel
theorem dX13_keepers_14 : decode cX13_keepers 14 = .ok (.iload_n 2, 1) := by decide +kernel
theorem dX13_keepers_15 : decode cX13_keepers 15 = .ok (.sipush 128, 3) := by decide +kernel
theorem dX13_keepers_18 : decode cX13_keepers 18 = .ok (.if_icmp .ge 22, 3) := by decide +kernel
theorem dX13_keepers_21 : decode cX13_keepers 21 = .ok (.aload_n 0, 1) := by decide +kernel
theorem dX13_keepers_22 : decode cX13_keepers 22 = .ok (.getfield 65, 3) := by decide +kernel
theorem dX13_keepers_25 : decode cX13_keepers 25 = .ok (.sipush 128, 3) := by decide +kernel
theorem dX13_keepers_28 : decode cX13_keepers 28 = .ok (.iload_n 1, 1) := by decide +kernel
theorem dX13_keepers_29 : decode cX13_keepers 29 = .ok (.imul, 1) := by decide +kernel
theorem dX13_keepers_30 : decode cX13_keepers 30 = .ok (.iload_n 2, 1) := by decide +kernel
theorem dX13_keepers_31 : decode cX13_keepers 31 = .ok (.iadd, 1) := by decide +kernel
theorem dX13_keepers_32 : decode cX13_keepers 32 = .ok (.iconst 0, 1) := by decide +kernel
theorem dX13_keepers_33 : decode cX13_keepers 33 = .ok (.iastore, 1) := by decide +kernel
theorem dX13_keepers_34 : decode cX13_keepers 34 = .ok (.iinc 2 1, 3) := by decide +kernel
theorem dX13_keepers_37 : decode cX13_keepers 37 = .ok (.goto (-23), 3) := by decide +kernel
theorem dX13_keepers_40 : decode cX13_keepers 40 = .ok (.iload_n 1, 1) := by decide +kernel
theorem dX13_keepers_41 : decode cX13_keepers 41 = .ok (.iconst 1, 1) := by decide +kernel
theorem dX13_keepers_42 : decode cX13_keepers 42 = .ok (.isub, 1) := by decide +kernel
theorem dX13_keepers_43 : decode cX13_keepers 43 = .ok (.istore_n 2, 1) := by decide +kernel
theorem dX13_keepers_44 : decode cX13_keepers 44 = .ok (.iload_n 2, 1) := by decide +kernel
theorem dX13_keepers_45 : decode cX13_keepers 45 = .ok (.ifCond .lt 132, 3) := by decide +kernel
theorem dX13_keepers_48 : decode cX13_keepers 48 = .ok (.iconst 0, 1) := by decide +kernel
theorem dX13_keepers_49 : decode cX13_keepers 49 = .ok (.istore_n 3, 1) := by decide +kernel
theorem dX13_keepers_50 : decode cX13_keepers 50 = .ok (.iload_n 3, 1) := by decide +kernel
theorem dX13_keepers_51 : decode cX13_keepers 51 = .ok (.sipush 128, 3) := by decide +kernel
theorem dX13_keepers_54 : decode cX13_keepers 54 = .ok (.if_icmp .ge 117, 3) := by decide +kernel
theorem dX13_keepers_57 : decode cX13_keepers 57 = .ok (.aload_n 0, 1) := by decide +kernel
theorem dX13_keepers_58 : decode cX13_keepers 58 = .ok (.getfield 33, 3) := by decide +kernel
theorem dX13_keepers_61 : decode cX13_keepers 61 = .ok (.bipush 85, 2) := by decide +kernel
theorem dX13_keepers_63 : decode cX13_keepers 63 = .ok (.iload_n 2, 1) := by decide +kernel
theorem dX13_keepers_64 : decode cX13_keepers 64 = .ok (.iadd, 1) := by decide +kernel
theorem dX13_keepers_65 : decode cX13_keepers 65 = .ok (.iaload, 1) := by decide +kernel
theorem dX13_keepers_66 : decode cX13_keepers 66 = .ok (.iconst 2, 1) := by decide +kernel
theorem dX13_keepers_67 : decode cX13_keepers 67 = .ok (.if_icmp .ne 20, 3) := by decide +kernel
theorem dX13_keepers_70 : decode cX13_keepers 70 = .ok (.aload_n 0, 1) := by decide +kernel
theorem dX13_keepers_71 : decode cX13_keepers 71 = .ok (.getfield 65, 3) := by decide +kernel
theorem dX13_keepers_74 : decode cX13_keepers 74 = .ok (.sipush 128, 3) := by decide +kernel
theorem dX13_keepers_77 : decode cX13_keepers 77 = .ok (.iload_n 2, 1) := by decide +kernel
theorem dX13_keepers_78 : decode cX13_keepers 78 = .ok (.iconst 1, 1) := by decide +kernel
theorem dX13_keepers_79 : decode cX13_keepers 79 = .ok (.iadd, 1) := by decide +kernel
theorem dX13_keepers_80 : decode cX13_keepers 80 = .ok (.imul, 1) := by decide +kernel
theorem dX13_keepers_81 : decode cX13_keepers 81 = .ok (.iload_n 3, 1) := by decide +kernel
theorem dX13_keepers_82 : decode cX13_keepers 82 = .ok (.iadd, 1) := by decide +kernel
theorem dX13_keepers_83 : decode cX13_keepers 83 = .ok (.iaload, 1) := by decide +kernel
theorem dX13_keepers_84 : decode cX13_keepers 84 = .ok (.goto 6, 3) := by decide +kernel
theorem dX13_keepers_87 : decode cX13_keepers 87 = .ok (.ldc_w 348, 3) := by decide +kernel
theorem dX13_keepers_90 : decode cX13_keepers 90 = .ok (.istore 4, 2) := by decide +kernel
theorem dX13_keepers_92 : decode cX13_keepers 92 = .ok (.iconst 0, 1) := by decide +kernel
theorem dX13_keepers_93 : decode cX13_keepers 93 = .ok (.istore 5, 2) := by decide +kernel
theorem dX13_keepers_95 : decode cX13_keepers 95 = .ok (.iload 5, 2) := by decide +kernel
theorem dX13_keepers_97 : decode cX13_keepers 97 = .ok (.aload_n 0, 1) := by decide +kernel
theorem dX13_keepers_98 : decode cX13_keepers 98 = .ok (.getfield 33, 3) := by decide +kernel
theorem dX13_keepers_101 : decode cX13_keepers 101 = .ok (.iconst 0, 1) := by decide +kernel
theorem dX13_keepers_102 : decode cX13_keepers 102 = .ok (.iaload, 1) := by decide +kernel
theorem dX13_keepers_103 : decode cX13_keepers 103 = .ok (.if_icmp .ge 48, 3) := by decide +kernel
theorem dX13_keepers_106 : decode cX13_keepers 106 = .ok (.aload_n 0, 1) := by decide +kernel
theorem dX13_keepers_107 : decode cX13_keepers 107 = .ok (.getfield 33, 3) := by decide +kernel
theorem dX13_keepers_110 : decode cX13_keepers 110 = .ok (.bipush 85, 2) := by decide +kernel
theorem dX13_keepers_112 : decode cX13_keepers 112 = .ok (.iload_n 2, 1) := by decide +kernel
theorem dX13_keepers_113 : decode cX13_keepers 113 = .ok (.iadd, 1) := by decide +kernel
theorem dX13_keepers_114 : decode cX13_keepers 114 = .ok (.iaload, 1) := by decide +kernel
theorem dX13_keepers_115 : decode cX13_keepers 115 = .ok (.iconst 2, 1) := by decide +kernel
theorem dX13_keepers_116 : decode cX13_keepers 116 = .ok (.if_icmp .eq 29, 3) := by decide +kernel
theorem dX13_keepers_119 : decode cX13_keepers 119 = .ok (.aload_n 0, 1) := by decide +kernel
theorem dX13_keepers_120 : decode cX13_keepers 120 = .ok (.iload_n 2, 1) := by decide +kernel
theorem dX13_keepers_121 : decode cX13_keepers 121 = .ok (.iload_n 3, 1) := by decide +kernel
theorem dX13_keepers_122 : decode cX13_keepers 122 = .ok (.iload 5, 2) := by decide +kernel
theorem dX13_keepers_124 : decode cX13_keepers 124 = .ok (.invokevirtual 352, 3) := by decide +kernel
theorem dX13_keepers_127 : decode cX13_keepers 127 = .ok (.ifCond .eq 18, 3) := by decide +kernel
theorem dX13_keepers_130 : decode cX13_keepers 130 = .ok (.iload 4, 2) := by decide +kernel
theorem dX13_keepers_132 : decode cX13_keepers 132 = .ok (.aload_n 0, 1) := by decide +kernel
theorem dX13_keepers_133 : decode cX13_keepers 133 = .ok (.iload_n 2, 1) := by decide +kernel
theorem dX13_keepers_134 : decode cX13_keepers 134 = .ok (.iload_n 3, 1) := by decide +kernel
theorem dX13_keepers_135 : decode cX13_keepers 135 = .ok (.iload 5, 2) := by decide +kernel
theorem dX13_keepers_137 : decode cX13_keepers 137 = .ok (.invokevirtual 355, 3) := by decide +kernel
theorem dX13_keepers_140 : decode cX13_keepers 140 = .ok (.invokestatic 358, 3) := by decide +kernel
theorem dX13_keepers_143 : decode cX13_keepers 143 = .ok (.istore 4, 2) := by decide +kernel
theorem dX13_keepers_145 : decode cX13_keepers 145 = .ok (.iinc 5 1, 3) := by decide +kernel
theorem dX13_keepers_148 : decode cX13_keepers 148 = .ok (.goto (-53), 3) := by decide +kernel
theorem dX13_keepers_151 : decode cX13_keepers 151 = .ok (.aload_n 0, 1) := by decide +kernel
theorem dX13_keepers_152 : decode cX13_keepers 152 = .ok (.getfield 65, 3) := by decide +kernel
theorem dX13_keepers_155 : decode cX13_keepers 155 = .ok (.sipush 128, 3) := by decide +kernel
theorem dX13_keepers_158 : decode cX13_keepers 158 = .ok (.iload_n 2, 1) := by decide +kernel
theorem dX13_keepers_159 : decode cX13_keepers 159 = .ok (.imul, 1) := by decide +kernel
theorem dX13_keepers_160 : decode cX13_keepers 160 = .ok (.iload_n 3, 1) := by decide +kernel
theorem dX13_keepers_161 : decode cX13_keepers 161 = .ok (.iadd, 1) := by decide +kernel
theorem dX13_keepers_162 : decode cX13_keepers 162 = .ok (.iload 4, 2) := by decide +kernel
theorem dX13_keepers_164 : decode cX13_keepers 164 = .ok (.iastore, 1) := by decide +kernel
theorem dX13_keepers_165 : decode cX13_keepers 165 = .ok (.iinc 3 1, 3) := by decide +kernel
theorem dX13_keepers_168 : decode cX13_keepers 168 = .ok (.goto (-118), 3) := by decide +kernel
theorem dX13_keepers_171 : decode cX13_keepers 171 = .ok (.iinc 2 (-1), 3) := by decide +kernel
theorem dX13_keepers_174 : decode cX13_keepers 174 = .ok (.goto (-130), 3) := by decide +kernel
theorem dX13_keepers_177 : decode cX13_keepers 177 = .ok (.aload_n 0, 1) := by decide +kernel
theorem dX13_keepers_178 : decode cX13_keepers 178 = .ok (.getfield 65, 3) := by decide +kernel
theorem dX13_keepers_181 : decode cX13_keepers 181 = .ok (.iconst 0, 1) := by decide +kernel
theorem dX13_keepers_182 : decode cX13_keepers 182 = .ok (.iaload, 1) := by decide +kernel
theorem dX13_keepers_183 : decode cX13_keepers 183 = .ok (.ldc_w 348, 3) := by decide +kernel
theorem dX13_keepers_186 : decode cX13_keepers 186 = .ok (.if_icmp .lt 5, 3) := by decide +kernel
theorem dX13_keepers_189 : decode cX13_keepers 189 = .ok (.iconst (-1), 1) := by decide +kernel
theorem dX13_keepers_190 : decode cX13_keepers 190 = .ok (.ireturn, 1) := by decide +kernel
theorem dX13_keepers_191 : decode cX13_keepers 191 = .ok (.aload_n 0, 1) := by decide +kernel
theorem dX13_keepers_192 : decode cX13_keepers 192 = .ok (.iload_n 1, 1) := by decide +kernel
theorem dX13_keepers_193 : decode cX13_keepers 193 = .ok (.putfield 71, 3) := by decide +kernel
theorem dX13_keepers_196 : decode cX13_keepers 196 = .ok (.iconst 0, 1) := by decide +kernel
theorem dX13_keepers_197 : decode cX13_keepers 197 = .ok (.istore_n 2, 1) := by decide +kernel
theorem dX13_keepers_198 : decode cX13_keepers 198 = .ok (.iconst 0, 1) := by decide +kernel
theorem dX13_keepers_199 : decode cX13_keepers 199 = .ok (.istore_n 3, 1) := by decide +kernel
theorem dX13_keepers_200 : decode cX13_keepers 200 = .ok (.iload_n 3, 1) := by decide +kernel
theorem dX13_keepers_201 : decode cX13_keepers 201 = .ok (.iload_n 1, 1) := by decide +kernel
theorem dX13_keepers_202 : decode cX13_keepers 202 = .ok (.if_icmp .ge 90, 3) := by decide +kernel
theorem dX13_keepers_205 : decode cX13_keepers 205 = .ok (.aload_n 0, 1) := by decide +kernel
theorem dX13_keepers_206 : decode cX13_keepers 206 = .ok (.getfield 68, 3) := by decide +kernel
theorem dX13_keepers_209 : decode cX13_keepers 209 = .ok (.iload_n 3, 1) := by decide +kernel
theorem dX13_keepers_210 : decode cX13_keepers 210 = .ok (.iconst (-1), 1) := by decide +kernel
theorem dX13_keepers_211 : decode cX13_keepers 211 = .ok (.iastore, 1) := by decide +kernel
theorem dX13_keepers_212 : decode cX13_keepers 212 = .ok (.aload_n 0, 1) := by decide +kernel
theorem dX13_keepers_213 : decode cX13_keepers 213 = .ok (.getfield 33, 3) := by decide +kernel
theorem dX13_keepers_216 : decode cX13_keepers 216 = .ok (.bipush 85, 2) := by decide +kernel
theorem dX13_keepers_218 : decode cX13_keepers 218 = .ok (.iload_n 3, 1) := by decide +kernel
theorem dX13_keepers_219 : decode cX13_keepers 219 = .ok (.iadd, 1) := by decide +kernel
theorem dX13_keepers_220 : decode cX13_keepers 220 = .ok (.iaload, 1) := by decide +kernel
theorem dX13_keepers_221 : decode cX13_keepers 221 = .ok (.iconst 2, 1) := by decide +kernel
theorem dX13_keepers_222 : decode cX13_keepers 222 = .ok (.if_icmp .ne 6, 3) := by decide +kernel
theorem dX13_keepers_225 : decode cX13_keepers 225 = .ok (.goto 61, 3) := by decide +kernel
theorem dX13_keepers_228 : decode cX13_keepers 228 = .ok (.iconst 0, 1) := by decide +kernel
theorem dX13_keepers_229 : decode cX13_keepers 229 = .ok (.istore 4, 2) := by decide +kernel
theorem dX13_keepers_231 : decode cX13_keepers 231 = .ok (.aload_n 0, 1) := by decide +kernel
theorem dX13_keepers_232 : decode cX13_keepers 232 = .ok (.iload_n 3, 1) := by decide +kernel
theorem dX13_keepers_233 : decode cX13_keepers 233 = .ok (.iload_n 2, 1) := by decide +kernel
theorem dX13_keepers_234 : decode cX13_keepers 234 = .ok (.iload 4, 2) := by decide +kernel
theorem dX13_keepers_236 : decode cX13_keepers 236 = .ok (.invokevirtual 352, 3) := by decide +kernel
theorem dX13_keepers_239 : decode cX13_keepers 239 = .ok (.ifCond .eq 26, 3) := by decide +kernel
theorem dX13_keepers_242 : decode cX13_keepers 242 = .ok (.aload_n 0, 1) := by decide +kernel
theorem dX13_keepers_243 : decode cX13_keepers 243 = .ok (.iload_n 3, 1) := by decide +kernel
theorem dX13_keepers_244 : decode cX13_keepers 244 = .ok (.iload_n 2, 1) := by decide +kernel
theorem dX13_keepers_245 : decode cX13_keepers 245 = .ok (.iload 4, 2) := by decide +kernel
theorem dX13_keepers_247 : decode cX13_keepers 247 = .ok (.invokevirtual 355, 3) := by decide +kernel
theorem dX13_keepers_250 : decode cX13_keepers 250 = .ok (.aload_n 0, 1) := by decide +kernel
theorem dX13_keepers_251 : decode cX13_keepers 251 = .ok (.getfield 65, 3) := by decide +kernel
theorem dX13_keepers_254 : decode cX13_keepers 254 = .ok (.sipush 128, 3) := by decide +kernel
theorem dX13_keepers_257 : decode cX13_keepers 257 = .ok (.iload_n 3, 1) := by decide +kernel
theorem dX13_keepers_258 : decode cX13_keepers 258 = .ok (.imul, 1) := by decide +kernel
theorem dX13_keepers_259 : decode cX13_keepers 259 = .ok (.iload_n 2, 1) := by decide +kernel
theorem dX13_keepers_260 : decode cX13_keepers 260 = .ok (.iadd, 1) := by decide +kernel
theorem dX13_keepers_261 : decode cX13_keepers 261 = .ok (.iaload, 1) := by decide +kernel
theorem dX13_keepers_262 : decode cX13_keepers 262 = .ok (.if_icmp .eq 9, 3) := by decide +kernel
theorem dX13_keepers_265 : decode cX13_keepers 265 = .ok (.iinc 4 1, 3) := by decide +kernel
theorem dX13_keepers_268 : decode cX13_keepers 268 = .ok (.goto (-37), 3) := by decide +kernel
theorem dX13_keepers_271 : decode cX13_keepers 271 = .ok (.aload_n 0, 1) := by decide +kernel
theorem dX13_keepers_272 : decode cX13_keepers 272 = .ok (.getfield 68, 3) := by decide +kernel
theorem dX13_keepers_275 : decode cX13_keepers 275 = .ok (.iload_n 3, 1) := by decide +kernel
theorem dX13_keepers_276 : decode cX13_keepers 276 = .ok (.iload 4, 2) := by decide +kernel
theorem dX13_keepers_278 : decode cX13_keepers 278 = .ok (.iastore, 1) := by decide +kernel
theorem dX13_keepers_279 : decode cX13_keepers 279 = .ok (.iload_n 2, 1) := by decide +kernel
theorem dX13_keepers_280 : decode cX13_keepers 280 = .ok (.iconst 1, 1) := by decide +kernel
theorem dX13_keepers_281 : decode cX13_keepers 281 = .ok (.iload 4, 2) := by decide +kernel
theorem dX13_keepers_283 : decode cX13_keepers 283 = .ok (.ishl, 1) := by decide +kernel
theorem dX13_keepers_284 : decode cX13_keepers 284 = .ok (.ior, 1) := by decide +kernel
theorem dX13_keepers_285 : decode cX13_keepers 285 = .ok (.istore_n 2, 1) := by decide +kernel
theorem dX13_keepers_286 : decode cX13_keepers 286 = .ok (.iinc 3 1, 3) := by decide +kernel
theorem dX13_keepers_289 : decode cX13_keepers 289 = .ok (.goto (-89), 3) := by decide +kernel
theorem dX13_keepers_292 : decode cX13_keepers 292 = .ok (.aload_n 0, 1) := by decide +kernel
theorem dX13_keepers_293 : decode cX13_keepers 293 = .ok (.getfield 65, 3) := by decide +kernel
theorem dX13_keepers_296 : decode cX13_keepers 296 = .ok (.iconst 0, 1) := by decide +kernel
theorem dX13_keepers_297 : decode cX13_keepers 297 = .ok (.iaload, 1) := by decide +kernel
theorem dX13_keepers_298 : decode cX13_keepers 298 = .ok (.ireturn, 1) := by decide +kernel
set_option maxRecDepth 100000 in
set_option maxHeartbeats 4000000 in
theorem wfX13_keepers_231 {E : KE} {p : Program} {l : Launch} {e : Env} {s : State} {m : MethodId} {args : Array Value} {below : List Frame} {meth : Method} {c : Code} {q : (Int32 × MM)} (C : mx_C E p m c cX13_keepers 6 s args RX13 meth (some .int))  (hT : E.1 = mt) (i1 : Int32) (k200 : Int32 → Int32 → MM → Option (Int32 × MM)) (hk200 : ∀ (i2 : Int32) (i3 : Int32) (M : MM) (H : Heap) (locs : List Loc) (ls : Array Slot), k200 i2 i3 M = some q → mx_H E s M H locs → lv_has ls 6 [(0, .ref (E.2.1.2.1 0)), (1, .int i1), (2, .int i2), (3, .int i3)] → W p l e (mx_rm 4) s m args below meth c H locs 0 0 (mx_Z E below args s (some (.int q.1)) q.2) (F0 m 200 ls [])) : ∀ (n : Nat) (i2 : Int32) (i3 : Int32) (i4 : Int32) (M : MM) (H : Heap) (locs : List Loc) (ls : Array Slot), fX13_keepers_231 i1 k200 n i2 i3 i4 M = some q → mx_H E s M H locs → lv_has ls 6 [(0, .ref (E.2.1.2.1 0)), (1, .int i1), (2, .int i2), (3, .int i3), (4, .int i4)] → W p l e (mx_rm 4) s m args below meth c H locs 0 0 (mx_Z E below args s (some (.int q.1)) q.2) (F0 m 231 ls []) := by
  have hx := C.1.1
  have hb := C.1.2.1
  have hown := C.1.2.2.2.1
  have hts := C.1.2.2.2.2
  intro n
  induction n with
  | zero =>
    intro i2 i3 i4 M H locs ls hf hM hl
    rw [fX13_keepers_231] at hf
    cases hf
  | succ n ih =>
    intro i2 i3 i4 M H locs ls hf hM hl
    rw [fX13_keepers_231] at hf
    refine lv_aload_n hx hb dX13_keepers_231 rfl (lv_at hl 0 rfl) ?_
    refine lv_iload_n hx hb dX13_keepers_232 rfl (lv_at hl 3 rfl) ?_
    refine lv_iload_n hx hb dX13_keepers_233 rfl (lv_at hl 2 rfl) ?_
    refine lv_iload hx hb dX13_keepers_234 (lv_at hl 4 rfl) ?_
    obtain ⟨q236, hq236, hf⟩ := mx_bd hf
    refine mx_callV C hM hl.1 yo_X13_canKeep (h' := 1) (by decide) qw_1820 qw_1822 qs_156 (ci := 13) (q := (RX13, TX13, 52)) rfl (mt_0 hT) (As := [.int i3, .int i2, .int i4]) (rest := []) (st1 := [.int (mx_b q236)]) (kX13_canKeep C.2.2.2.1 i3 i2 i4 hT M hq236) rfl rfl rfl (Nat.le_of_ble_eq_true rfl) dX13_keepers_236 (fun H locs hM => ?_)
    refine lv_if_eq (tgt := 265) hx hb dX13_keepers_239 (by decide) (fun hc239 => ?_) (fun hc239 => ?_)
    · replace hf := mx_ift hc239 hf
      refine lv_iinc (v := (i4 + (1 : Int32))) (lv' := [(4, .int (i4 + (1 : Int32))), (0, .ref (E.2.1.2.1 0)), (1, .int i1), (2, .int i2), (3, .int i3)]) hx hb dX13_keepers_265 hl (k := 4) rfl rfl (by decide) rfl (fun ls hl => ?_)
      refine lv_goto (tgt := 231) hx hb dX13_keepers_268 (by decide) ?_
      exact ih i2 i3 (i4 + (1 : Int32)) M _ _ _ hf hM (lv_sub hl [1, 2, 3, 4, 0] rfl)
    · replace hf := mx_iff hc239 hf
      refine lv_aload_n hx hb dX13_keepers_242 rfl (lv_at hl 0 rfl) ?_
      refine lv_iload_n hx hb dX13_keepers_243 rfl (lv_at hl 3 rfl) ?_
      refine lv_iload_n hx hb dX13_keepers_244 rfl (lv_at hl 2 rfl) ?_
      refine lv_iload hx hb dX13_keepers_245 (lv_at hl 4 rfl) ?_
      obtain ⟨q247, hq247, hf⟩ := mx_bd hf
      refine mx_callV C hM hl.1 yo_X13_restBy (h' := 3) (by decide) qw_1824 qw_1826 qs_157 (ci := 13) (q := (RX13, TX13, 52)) rfl (mt_0 hT) (As := [.int i3, .int i2, .int i4]) (rest := []) (st1 := [.int q247]) (kX13_restBy C.2.2.2.1 i3 i2 i4 hT M hq247) rfl rfl rfl (Nat.le_of_ble_eq_true rfl) dX13_keepers_247 (fun H locs hM => ?_)
      refine lv_aload_n hx hb dX13_keepers_250 rfl (lv_at hl 0 rfl) ?_
      refine g13_65 C hT hM dX13_keepers_251 ?_
      refine lv_sipush (v := (128 : Int32)) hx hb dX13_keepers_254 (by decide) ?_
      refine lv_iload_n hx hb dX13_keepers_257 rfl (lv_at hl 3 rfl) ?_
      refine lv_imul hx hb dX13_keepers_258 ?_
      refine lv_iload_n hx hb dX13_keepers_259 rfl (lv_at hl 2 rfl) ?_
      refine lv_iadd hx hb dX13_keepers_260 ?_
      obtain ⟨hg261, hf⟩ := mx_gd hf
      refine mx_iald C hM (mt_11 hT) (mx_in_vp hg261) dX13_keepers_261 ?_
      refine lv_icmp_eq (tgt := 271) hx hb dX13_keepers_262 (by decide) (fun hc262 => ?_) (fun hc262 => ?_)
      · replace hf := mx_ift hc262 hf
        refine lv_aload_n hx hb dX13_keepers_271 rfl (lv_at hl 0 rfl) ?_
        refine g13_68 C hT hM dX13_keepers_272 ?_
        refine lv_iload_n hx hb dX13_keepers_275 rfl (lv_at hl 3 rfl) ?_
        refine lv_iload hx hb dX13_keepers_276 (lv_at hl 4 rfl) ?_
        obtain ⟨hg278, hf⟩ := mx_gd hf
        refine mx_iast C hM (mt_12 hT) (mx_in_vp hg278) dX13_keepers_278 (fun H locs hM => ?_)
        refine lv_iload_n hx hb dX13_keepers_279 rfl (lv_at hl 2 rfl) ?_
        refine lv_iconst (v := (1 : Int32)) hx hb dX13_keepers_280 (by decide) ?_
        refine lv_iload hx hb dX13_keepers_281 (lv_at hl 4 rfl) ?_
        refine lv_ishl hx hb dX13_keepers_283 ?_
        refine lv_ior hx hb dX13_keepers_284 ?_
        refine lv_istore_n (lv' := [(2, .int (i2 ||| ((1 : Int32) <<< (i4 &&& 31)))), (0, .ref (E.2.1.2.1 0)), (1, .int i1), (3, .int i3), (4, .int i4)]) hx hb dX13_keepers_285 rfl hl (by decide) rfl (fun ls hl => ?_)
        refine lv_iinc (v := (i3 + (1 : Int32))) (lv' := [(3, .int (i3 + (1 : Int32))), (2, .int (i2 ||| ((1 : Int32) <<< (i4 &&& 31)))), (0, .ref (E.2.1.2.1 0)), (1, .int i1), (4, .int i4)]) hx hb dX13_keepers_286 hl (k := 3) rfl rfl (by decide) rfl (fun ls hl => ?_)
        refine lv_goto (tgt := 200) hx hb dX13_keepers_289 (by decide) ?_
        exact hk200 (i2 ||| ((1 : Int32) <<< (i4 &&& 31))) (i3 + (1 : Int32)) (mx_si M 12 i3.toNatClampNeg i4) _ _ _ hf hM (lv_sub hl [2, 3, 1, 0] rfl)
      · replace hf := mx_iff hc262 hf
        refine lv_iinc (v := (i4 + (1 : Int32))) (lv' := [(4, .int (i4 + (1 : Int32))), (0, .ref (E.2.1.2.1 0)), (1, .int i1), (2, .int i2), (3, .int i3)]) hx hb dX13_keepers_265 hl (k := 4) rfl rfl (by decide) rfl (fun ls hl => ?_)
        refine lv_goto (tgt := 231) hx hb dX13_keepers_268 (by decide) ?_
        exact ih i2 i3 (i4 + (1 : Int32)) M _ _ _ hf hM (lv_sub hl [1, 2, 3, 4, 0] rfl)
set_option maxRecDepth 100000 in
set_option maxHeartbeats 4000000 in
theorem wfX13_keepers_200 {E : KE} {p : Program} {l : Launch} {e : Env} {s : State} {m : MethodId} {args : Array Value} {below : List Frame} {meth : Method} {c : Code} {q : (Int32 × MM)} (C : mx_C E p m c cX13_keepers 6 s args RX13 meth (some .int))  (hT : E.1 = mt) (i1 : Int32)  : ∀ (n : Nat) (i2 : Int32) (i3 : Int32) (M : MM) (H : Heap) (locs : List Loc) (ls : Array Slot), fX13_keepers_200 i1 n i2 i3 M = some q → mx_H E s M H locs → lv_has ls 6 [(0, .ref (E.2.1.2.1 0)), (1, .int i1), (2, .int i2), (3, .int i3)] → W p l e (mx_rm 4) s m args below meth c H locs 0 0 (mx_Z E below args s (some (.int q.1)) q.2) (F0 m 200 ls []) := by
  have hx := C.1.1
  have hb := C.1.2.1
  have hown := C.1.2.2.2.1
  have hts := C.1.2.2.2.2
  intro n
  induction n with
  | zero =>
    intro i2 i3 M H locs ls hf hM hl
    rw [fX13_keepers_200] at hf
    cases hf
  | succ n ih =>
    intro i2 i3 M H locs ls hf hM hl
    rw [fX13_keepers_200] at hf
    refine lv_iload_n hx hb dX13_keepers_200 rfl (lv_at hl 3 rfl) ?_
    refine lv_iload_n hx hb dX13_keepers_201 rfl (lv_at hl 1 rfl) ?_
    refine lv_icmp_ge (tgt := 292) hx hb dX13_keepers_202 (by decide) (fun hc202 => ?_) (fun hc202 => ?_)
    · replace hf := mx_ift hc202 hf
      refine lv_aload_n hx hb dX13_keepers_292 rfl (lv_at hl 0 rfl) ?_
      refine g13_65 C hT hM dX13_keepers_293 ?_
      refine lv_iconst (v := (0 : Int32)) hx hb dX13_keepers_296 (by decide) ?_
      refine mx_ialdL C hM (mt_11 hT) (j := 0) (by decide) (mx_in_vp (by decide)) dX13_keepers_297 ?_
      exact mx_iret C hM hf dX13_keepers_298
    · replace hf := mx_iff hc202 hf
      refine lv_aload_n hx hb dX13_keepers_205 rfl (lv_at hl 0 rfl) ?_
      refine g13_68 C hT hM dX13_keepers_206 ?_
      refine lv_iload_n hx hb dX13_keepers_209 rfl (lv_at hl 3 rfl) ?_
      refine lv_iconst (v := (-1 : Int32)) hx hb dX13_keepers_210 (by decide) ?_
      obtain ⟨hg211, hf⟩ := mx_gd hf
      refine mx_iast C hM (mt_12 hT) (mx_in_vp hg211) dX13_keepers_211 (fun H locs hM => ?_)
      refine lv_aload_n hx hb dX13_keepers_212 rfl (lv_at hl 0 rfl) ?_
      refine g13_33 C hT hM dX13_keepers_213 ?_
      refine lv_bipush (v := (85 : Int32)) hx hb dX13_keepers_216 (by decide) ?_
      refine lv_iload_n hx hb dX13_keepers_218 rfl (lv_at hl 3 rfl) ?_
      refine lv_iadd hx hb dX13_keepers_219 ?_
      obtain ⟨hg220, hf⟩ := mx_gd hf
      refine mx_iald C hM (mt_2 hT) (mx_in_vp hg220) dX13_keepers_220 ?_
      refine lv_iconst (v := (2 : Int32)) hx hb dX13_keepers_221 (by decide) ?_
      refine lv_icmp_ne (tgt := 228) hx hb dX13_keepers_222 (by decide) (fun hc222 => ?_) (fun hc222 => ?_)
      · replace hf := mx_iff hc222 hf
        refine lv_iconst (v := (0 : Int32)) hx hb dX13_keepers_228 (by decide) ?_
        refine lv_istore (lv' := [(4, .int (0 : Int32)), (0, .ref (E.2.1.2.1 0)), (1, .int i1), (2, .int i2), (3, .int i3)]) hx hb dX13_keepers_229 hl (by decide) rfl (fun ls hl => ?_)
        exact wfX13_keepers_231 C hT i1 (fX13_keepers_200 i1 n) ih mx_fu i2 i3 (0 : Int32) (mx_si M 12 i3.toNatClampNeg (-1 : Int32)) _ _ _ hf hM (lv_sub hl [1, 2, 3, 4, 0] rfl)
      · replace hf := mx_ift hc222 hf
        refine lv_goto (tgt := 286) hx hb dX13_keepers_225 (by decide) ?_
        refine lv_iinc (v := (i3 + (1 : Int32))) (lv' := [(3, .int (i3 + (1 : Int32))), (0, .ref (E.2.1.2.1 0)), (1, .int i1), (2, .int i2)]) hx hb dX13_keepers_286 hl (k := 3) rfl rfl (by decide) rfl (fun ls hl => ?_)
        refine lv_goto (tgt := 200) hx hb dX13_keepers_289 (by decide) ?_
        exact ih i2 (i3 + (1 : Int32)) (mx_si M 12 i3.toNatClampNeg (-1 : Int32)) _ _ _ hf hM (lv_sub hl [1, 2, 3, 0] rfl)
set_option maxRecDepth 100000 in
set_option maxHeartbeats 4000000 in
theorem wfX13_keepers_95 {E : KE} {p : Program} {l : Launch} {e : Env} {s : State} {m : MethodId} {args : Array Value} {below : List Frame} {meth : Method} {c : Code} {q : (Int32 × MM)} (C : mx_C E p m c cX13_keepers 6 s args RX13 meth (some .int))  (hT : E.1 = mt) (i1 : Int32) (i2 : Int32) (k50 : Int32 → Int32 → MM → Option (Int32 × MM)) (hk50 : ∀ (i2 : Int32) (i3 : Int32) (M : MM) (H : Heap) (locs : List Loc) (ls : Array Slot), k50 i2 i3 M = some q → mx_H E s M H locs → lv_has ls 6 [(0, .ref (E.2.1.2.1 0)), (1, .int i1), (2, .int i2), (3, .int i3)] → W p l e (mx_rm 4) s m args below meth c H locs 0 0 (mx_Z E below args s (some (.int q.1)) q.2) (F0 m 50 ls [])) : ∀ (n : Nat) (i3 : Int32) (i4 : Int32) (i5 : Int32) (M : MM) (H : Heap) (locs : List Loc) (ls : Array Slot), fX13_keepers_95 i1 i2 k50 n i3 i4 i5 M = some q → mx_H E s M H locs → lv_has ls 6 [(0, .ref (E.2.1.2.1 0)), (1, .int i1), (2, .int i2), (3, .int i3), (4, .int i4), (5, .int i5)] → W p l e (mx_rm 4) s m args below meth c H locs 0 0 (mx_Z E below args s (some (.int q.1)) q.2) (F0 m 95 ls []) := by
  have hx := C.1.1
  have hb := C.1.2.1
  have hown := C.1.2.2.2.1
  have hts := C.1.2.2.2.2
  intro n
  induction n with
  | zero =>
    intro i3 i4 i5 M H locs ls hf hM hl
    rw [fX13_keepers_95] at hf
    cases hf
  | succ n ih =>
    intro i3 i4 i5 M H locs ls hf hM hl
    rw [fX13_keepers_95] at hf
    refine lv_iload hx hb dX13_keepers_95 (lv_at hl 5 rfl) ?_
    refine lv_aload_n hx hb dX13_keepers_97 rfl (lv_at hl 0 rfl) ?_
    refine g13_33 C hT hM dX13_keepers_98 ?_
    refine lv_iconst (v := (0 : Int32)) hx hb dX13_keepers_101 (by decide) ?_
    refine mx_ialdL C hM (mt_2 hT) (j := 0) (by decide) (mx_in_vp (by decide)) dX13_keepers_102 ?_
    refine lv_icmp_ge (tgt := 151) hx hb dX13_keepers_103 (by decide) (fun hc103 => ?_) (fun hc103 => ?_)
    · replace hf := mx_ift hc103 hf
      refine lv_aload_n hx hb dX13_keepers_151 rfl (lv_at hl 0 rfl) ?_
      refine g13_65 C hT hM dX13_keepers_152 ?_
      refine lv_sipush (v := (128 : Int32)) hx hb dX13_keepers_155 (by decide) ?_
      refine lv_iload_n hx hb dX13_keepers_158 rfl (lv_at hl 2 rfl) ?_
      refine lv_imul hx hb dX13_keepers_159 ?_
      refine lv_iload_n hx hb dX13_keepers_160 rfl (lv_at hl 3 rfl) ?_
      refine lv_iadd hx hb dX13_keepers_161 ?_
      refine lv_iload hx hb dX13_keepers_162 (lv_at hl 4 rfl) ?_
      obtain ⟨hg164, hf⟩ := mx_gd hf
      refine mx_iast C hM (mt_11 hT) (mx_in_vp hg164) dX13_keepers_164 (fun H locs hM => ?_)
      refine lv_iinc (v := (i3 + (1 : Int32))) (lv' := [(3, .int (i3 + (1 : Int32))), (0, .ref (E.2.1.2.1 0)), (1, .int i1), (2, .int i2), (4, .int i4), (5, .int i5)]) hx hb dX13_keepers_165 hl (k := 3) rfl rfl (by decide) rfl (fun ls hl => ?_)
      refine lv_goto (tgt := 50) hx hb dX13_keepers_168 (by decide) ?_
      exact hk50 i2 (i3 + (1 : Int32)) (mx_si M 11 (((128 : Int32) * i2) + i3).toNatClampNeg i4) _ _ _ hf hM (lv_sub hl [1, 2, 3, 0] rfl)
    · replace hf := mx_iff hc103 hf
      refine lv_aload_n hx hb dX13_keepers_106 rfl (lv_at hl 0 rfl) ?_
      refine g13_33 C hT hM dX13_keepers_107 ?_
      refine lv_bipush (v := (85 : Int32)) hx hb dX13_keepers_110 (by decide) ?_
      refine lv_iload_n hx hb dX13_keepers_112 rfl (lv_at hl 2 rfl) ?_
      refine lv_iadd hx hb dX13_keepers_113 ?_
      obtain ⟨hg114, hf⟩ := mx_gd hf
      refine mx_iald C hM (mt_2 hT) (mx_in_vp hg114) dX13_keepers_114 ?_
      refine lv_iconst (v := (2 : Int32)) hx hb dX13_keepers_115 (by decide) ?_
      refine lv_icmp_eq (tgt := 145) hx hb dX13_keepers_116 (by decide) (fun hc116 => ?_) (fun hc116 => ?_)
      · replace hf := mx_ift hc116 hf
        refine lv_iinc (v := (i5 + (1 : Int32))) (lv' := [(5, .int (i5 + (1 : Int32))), (0, .ref (E.2.1.2.1 0)), (1, .int i1), (2, .int i2), (3, .int i3), (4, .int i4)]) hx hb dX13_keepers_145 hl (k := 5) rfl rfl (by decide) rfl (fun ls hl => ?_)
        refine lv_goto (tgt := 95) hx hb dX13_keepers_148 (by decide) ?_
        exact ih i3 i4 (i5 + (1 : Int32)) M _ _ _ hf hM (lv_sub hl [1, 2, 3, 4, 5, 0] rfl)
      · replace hf := mx_iff hc116 hf
        refine lv_aload_n hx hb dX13_keepers_119 rfl (lv_at hl 0 rfl) ?_
        refine lv_iload_n hx hb dX13_keepers_120 rfl (lv_at hl 2 rfl) ?_
        refine lv_iload_n hx hb dX13_keepers_121 rfl (lv_at hl 3 rfl) ?_
        refine lv_iload hx hb dX13_keepers_122 (lv_at hl 5 rfl) ?_
        obtain ⟨q124, hq124, hf⟩ := mx_bd hf
        refine mx_callV C hM hl.1 yo_X13_canKeep (h' := 1) (by decide) qw_1820 qw_1822 qs_156 (ci := 13) (q := (RX13, TX13, 52)) rfl (mt_0 hT) (As := [.int i2, .int i3, .int i5]) (rest := []) (st1 := [.int (mx_b q124)]) (kX13_canKeep C.2.2.2.1 i2 i3 i5 hT M hq124) rfl rfl rfl (Nat.le_of_ble_eq_true rfl) dX13_keepers_124 (fun H locs hM => ?_)
        refine lv_if_eq (tgt := 145) hx hb dX13_keepers_127 (by decide) (fun hc127 => ?_) (fun hc127 => ?_)
        · replace hf := mx_ift hc127 hf
          refine lv_iinc (v := (i5 + (1 : Int32))) (lv' := [(5, .int (i5 + (1 : Int32))), (0, .ref (E.2.1.2.1 0)), (1, .int i1), (2, .int i2), (3, .int i3), (4, .int i4)]) hx hb dX13_keepers_145 hl (k := 5) rfl rfl (by decide) rfl (fun ls hl => ?_)
          refine lv_goto (tgt := 95) hx hb dX13_keepers_148 (by decide) ?_
          exact ih i3 i4 (i5 + (1 : Int32)) M _ _ _ hf hM (lv_sub hl [1, 2, 3, 4, 5, 0] rfl)
        · replace hf := mx_iff hc127 hf
          refine lv_iload hx hb dX13_keepers_130 (lv_at hl 4 rfl) ?_
          refine lv_aload_n hx hb dX13_keepers_132 rfl (lv_at hl 0 rfl) ?_
          refine lv_iload_n hx hb dX13_keepers_133 rfl (lv_at hl 2 rfl) ?_
          refine lv_iload_n hx hb dX13_keepers_134 rfl (lv_at hl 3 rfl) ?_
          refine lv_iload hx hb dX13_keepers_135 (lv_at hl 5 rfl) ?_
          obtain ⟨q137, hq137, hf⟩ := mx_bd hf
          refine mx_callV C hM hl.1 yo_X13_restBy (h' := 3) (by decide) qw_1824 qw_1826 qs_157 (ci := 13) (q := (RX13, TX13, 52)) rfl (mt_0 hT) (As := [.int i2, .int i3, .int i5]) (rest := [.int i4]) (st1 := [.int q137, .int i4]) (kX13_restBy C.2.2.2.1 i2 i3 i5 hT M hq137) rfl rfl rfl (Nat.le_of_ble_eq_true rfl) dX13_keepers_137 (fun H locs hM => ?_)
          obtain ⟨q140, hq140, hf⟩ := mx_bd hf
          refine mx_callS C hM hl.1 yo_X13_lesser (h' := 0) (by decide) qw_1828 qw_1829 (As := [.int i4, .int q137]) (rest := []) (st1 := [.int q140]) (kX13_lesser C.2.2.2.1 i4 q137 hT M hq140) rfl rfl rfl (Nat.le_of_ble_eq_true rfl) dX13_keepers_140 (fun H locs hM => ?_)
          refine lv_istore (lv' := [(4, .int q140), (0, .ref (E.2.1.2.1 0)), (1, .int i1), (2, .int i2), (3, .int i3), (5, .int i5)]) hx hb dX13_keepers_143 hl (by decide) rfl (fun ls hl => ?_)
          refine lv_iinc (v := (i5 + (1 : Int32))) (lv' := [(5, .int (i5 + (1 : Int32))), (4, .int q140), (0, .ref (E.2.1.2.1 0)), (1, .int i1), (2, .int i2), (3, .int i3)]) hx hb dX13_keepers_145 hl (k := 5) rfl rfl (by decide) rfl (fun ls hl => ?_)
          refine lv_goto (tgt := 95) hx hb dX13_keepers_148 (by decide) ?_
          exact ih i3 q140 (i5 + (1 : Int32)) M _ _ _ hf hM (lv_sub hl [2, 3, 4, 5, 1, 0] rfl)
set_option maxRecDepth 100000 in
set_option maxHeartbeats 4000000 in
theorem wfX13_keepers_50 {E : KE} {p : Program} {l : Launch} {e : Env} {s : State} {m : MethodId} {args : Array Value} {below : List Frame} {meth : Method} {c : Code} {q : (Int32 × MM)} (C : mx_C E p m c cX13_keepers 6 s args RX13 meth (some .int))  (hT : E.1 = mt) (i1 : Int32) (k44 : Int32 → MM → Option (Int32 × MM)) (hk44 : ∀ (i2 : Int32) (M : MM) (H : Heap) (locs : List Loc) (ls : Array Slot), k44 i2 M = some q → mx_H E s M H locs → lv_has ls 6 [(0, .ref (E.2.1.2.1 0)), (1, .int i1), (2, .int i2)] → W p l e (mx_rm 4) s m args below meth c H locs 0 0 (mx_Z E below args s (some (.int q.1)) q.2) (F0 m 44 ls [])) : ∀ (n : Nat) (i2 : Int32) (i3 : Int32) (M : MM) (H : Heap) (locs : List Loc) (ls : Array Slot), fX13_keepers_50 i1 k44 n i2 i3 M = some q → mx_H E s M H locs → lv_has ls 6 [(0, .ref (E.2.1.2.1 0)), (1, .int i1), (2, .int i2), (3, .int i3)] → W p l e (mx_rm 4) s m args below meth c H locs 0 0 (mx_Z E below args s (some (.int q.1)) q.2) (F0 m 50 ls []) := by
  have hx := C.1.1
  have hb := C.1.2.1
  have hown := C.1.2.2.2.1
  have hts := C.1.2.2.2.2
  intro n
  induction n with
  | zero =>
    intro i2 i3 M H locs ls hf hM hl
    rw [fX13_keepers_50] at hf
    cases hf
  | succ n ih =>
    intro i2 i3 M H locs ls hf hM hl
    rw [fX13_keepers_50] at hf
    refine lv_iload_n hx hb dX13_keepers_50 rfl (lv_at hl 3 rfl) ?_
    refine lv_sipush (v := (128 : Int32)) hx hb dX13_keepers_51 (by decide) ?_
    refine lv_icmp_ge (tgt := 171) hx hb dX13_keepers_54 (by decide) (fun hc54 => ?_) (fun hc54 => ?_)
    · replace hf := mx_ift hc54 hf
      refine lv_iinc (v := (i2 + (-1 : Int32))) (lv' := [(2, .int (i2 + (-1 : Int32))), (0, .ref (E.2.1.2.1 0)), (1, .int i1), (3, .int i3)]) hx hb dX13_keepers_171 hl (k := 2) rfl rfl (by decide) rfl (fun ls hl => ?_)
      refine lv_goto (tgt := 44) hx hb dX13_keepers_174 (by decide) ?_
      exact hk44 (i2 + (-1 : Int32)) M _ _ _ hf hM (lv_sub hl [1, 2, 0] rfl)
    · replace hf := mx_iff hc54 hf
      refine lv_aload_n hx hb dX13_keepers_57 rfl (lv_at hl 0 rfl) ?_
      refine g13_33 C hT hM dX13_keepers_58 ?_
      refine lv_bipush (v := (85 : Int32)) hx hb dX13_keepers_61 (by decide) ?_
      refine lv_iload_n hx hb dX13_keepers_63 rfl (lv_at hl 2 rfl) ?_
      refine lv_iadd hx hb dX13_keepers_64 ?_
      obtain ⟨hg65, hf⟩ := mx_gd hf
      refine mx_iald C hM (mt_2 hT) (mx_in_vp hg65) dX13_keepers_65 ?_
      refine lv_iconst (v := (2 : Int32)) hx hb dX13_keepers_66 (by decide) ?_
      refine lv_icmp_ne (tgt := 87) hx hb dX13_keepers_67 (by decide) (fun hc67 => ?_) (fun hc67 => ?_)
      · replace hf := mx_iff hc67 hf
        refine lv_ldcw (v := (1000000)) hx hb hown (hts _ qw_1807) dX13_keepers_87 ?_
        refine lv_istore (lv' := [(4, .int (1000000 : Int32)), (0, .ref (E.2.1.2.1 0)), (1, .int i1), (2, .int i2), (3, .int i3)]) hx hb dX13_keepers_90 hl (by decide) rfl (fun ls hl => ?_)
        refine lv_iconst (v := (0 : Int32)) hx hb dX13_keepers_92 (by decide) ?_
        refine lv_istore (lv' := [(5, .int (0 : Int32)), (4, .int (1000000 : Int32)), (0, .ref (E.2.1.2.1 0)), (1, .int i1), (2, .int i2), (3, .int i3)]) hx hb dX13_keepers_93 hl (by decide) rfl (fun ls hl => ?_)
        exact wfX13_keepers_95 C hT i1 i2 (fX13_keepers_50 i1 k44 n) ih mx_fu i3 (1000000 : Int32) (0 : Int32) M _ _ _ hf hM (lv_sub hl [2, 3, 4, 5, 1, 0] rfl)
      · replace hf := mx_ift hc67 hf
        refine lv_aload_n hx hb dX13_keepers_70 rfl (lv_at hl 0 rfl) ?_
        refine g13_65 C hT hM dX13_keepers_71 ?_
        refine lv_sipush (v := (128 : Int32)) hx hb dX13_keepers_74 (by decide) ?_
        refine lv_iload_n hx hb dX13_keepers_77 rfl (lv_at hl 2 rfl) ?_
        refine lv_iconst (v := (1 : Int32)) hx hb dX13_keepers_78 (by decide) ?_
        refine lv_iadd hx hb dX13_keepers_79 ?_
        refine lv_imul hx hb dX13_keepers_80 ?_
        refine lv_iload_n hx hb dX13_keepers_81 rfl (lv_at hl 3 rfl) ?_
        refine lv_iadd hx hb dX13_keepers_82 ?_
        obtain ⟨hg83, hf⟩ := mx_gd hf
        refine mx_iald C hM (mt_11 hT) (mx_in_vp hg83) dX13_keepers_83 ?_
        refine lv_goto (tgt := 90) hx hb dX13_keepers_84 (by decide) ?_
        refine lv_istore (lv' := [(4, .int (M.1 11 (((128 : Int32) * (i2 + (1 : Int32))) + i3).toNatClampNeg)), (0, .ref (E.2.1.2.1 0)), (1, .int i1), (2, .int i2), (3, .int i3)]) hx hb dX13_keepers_90 hl (by decide) rfl (fun ls hl => ?_)
        refine lv_iconst (v := (0 : Int32)) hx hb dX13_keepers_92 (by decide) ?_
        refine lv_istore (lv' := [(5, .int (0 : Int32)), (4, .int (M.1 11 (((128 : Int32) * (i2 + (1 : Int32))) + i3).toNatClampNeg)), (0, .ref (E.2.1.2.1 0)), (1, .int i1), (2, .int i2), (3, .int i3)]) hx hb dX13_keepers_93 hl (by decide) rfl (fun ls hl => ?_)
        exact wfX13_keepers_95 C hT i1 i2 (fX13_keepers_50 i1 k44 n) ih mx_fu i3 (M.1 11 (((128 : Int32) * (i2 + (1 : Int32))) + i3).toNatClampNeg) (0 : Int32) M _ _ _ hf hM (lv_sub hl [2, 3, 4, 5, 1, 0] rfl)
set_option maxRecDepth 100000 in
set_option maxHeartbeats 4000000 in
theorem wfX13_keepers_44 {E : KE} {p : Program} {l : Launch} {e : Env} {s : State} {m : MethodId} {args : Array Value} {below : List Frame} {meth : Method} {c : Code} {q : (Int32 × MM)} (C : mx_C E p m c cX13_keepers 6 s args RX13 meth (some .int))  (hT : E.1 = mt) (i1 : Int32)  : ∀ (n : Nat) (i2 : Int32) (M : MM) (H : Heap) (locs : List Loc) (ls : Array Slot), fX13_keepers_44 i1 n i2 M = some q → mx_H E s M H locs → lv_has ls 6 [(0, .ref (E.2.1.2.1 0)), (1, .int i1), (2, .int i2)] → W p l e (mx_rm 4) s m args below meth c H locs 0 0 (mx_Z E below args s (some (.int q.1)) q.2) (F0 m 44 ls []) := by
  have hx := C.1.1
  have hb := C.1.2.1
  have hown := C.1.2.2.2.1
  have hts := C.1.2.2.2.2
  intro n
  induction n with
  | zero =>
    intro i2 M H locs ls hf hM hl
    rw [fX13_keepers_44] at hf
    cases hf
  | succ n ih =>
    intro i2 M H locs ls hf hM hl
    rw [fX13_keepers_44] at hf
    refine lv_iload_n hx hb dX13_keepers_44 rfl (lv_at hl 2 rfl) ?_
    refine lv_if_lt (tgt := 177) hx hb dX13_keepers_45 (by decide) (fun hc45 => ?_) (fun hc45 => ?_)
    · replace hf := mx_ift hc45 hf
      refine lv_aload_n hx hb dX13_keepers_177 rfl (lv_at hl 0 rfl) ?_
      refine g13_65 C hT hM dX13_keepers_178 ?_
      refine lv_iconst (v := (0 : Int32)) hx hb dX13_keepers_181 (by decide) ?_
      refine mx_ialdL C hM (mt_11 hT) (j := 0) (by decide) (mx_in_vp (by decide)) dX13_keepers_182 ?_
      refine lv_ldcw (v := (1000000)) hx hb hown (hts _ qw_1807) dX13_keepers_183 ?_
      refine lv_icmp_lt (tgt := 191) hx hb dX13_keepers_186 (by decide) (fun hc186 => ?_) (fun hc186 => ?_)
      · replace hf := mx_ift hc186 hf
        refine lv_aload_n hx hb dX13_keepers_191 rfl (lv_at hl 0 rfl) ?_
        refine lv_iload_n hx hb dX13_keepers_192 rfl (lv_at hl 1 rfl) ?_
        refine p13_71 C hT hM dX13_keepers_193 (fun H locs hM => ?_)
        refine lv_iconst (v := (0 : Int32)) hx hb dX13_keepers_196 (by decide) ?_
        refine lv_istore_n (lv' := [(2, .int (0 : Int32)), (0, .ref (E.2.1.2.1 0)), (1, .int i1)]) hx hb dX13_keepers_197 rfl hl (by decide) rfl (fun ls hl => ?_)
        refine lv_iconst (v := (0 : Int32)) hx hb dX13_keepers_198 (by decide) ?_
        refine lv_istore_n (lv' := [(3, .int (0 : Int32)), (2, .int (0 : Int32)), (0, .ref (E.2.1.2.1 0)), (1, .int i1)]) hx hb dX13_keepers_199 rfl hl (by decide) rfl (fun ls hl => ?_)
        exact wfX13_keepers_200 C hT i1 mx_fu (0 : Int32) (0 : Int32) (mx_si M 0 29 i1) _ _ _ hf hM (lv_sub hl [2, 3, 1, 0] rfl)
      · replace hf := mx_iff hc186 hf
        refine lv_iconst (v := (-1 : Int32)) hx hb dX13_keepers_189 (by decide) ?_
        exact mx_iret C hM hf dX13_keepers_190
    · replace hf := mx_iff hc45 hf
      refine lv_iconst (v := (0 : Int32)) hx hb dX13_keepers_48 (by decide) ?_
      refine lv_istore_n (lv' := [(3, .int (0 : Int32)), (0, .ref (E.2.1.2.1 0)), (1, .int i1), (2, .int i2)]) hx hb dX13_keepers_49 rfl hl (by decide) rfl (fun ls hl => ?_)
      exact wfX13_keepers_50 C hT i1 (fX13_keepers_44 i1 n) ih mx_fu i2 (0 : Int32) M _ _ _ hf hM (lv_sub hl [1, 2, 3, 0] rfl)
set_option maxRecDepth 100000 in
set_option maxHeartbeats 4000000 in
theorem wfX13_keepers_14 {E : KE} {p : Program} {l : Launch} {e : Env} {s : State} {m : MethodId} {args : Array Value} {below : List Frame} {meth : Method} {c : Code} {q : (Int32 × MM)} (C : mx_C E p m c cX13_keepers 6 s args RX13 meth (some .int))  (hT : E.1 = mt) (i1 : Int32)  : ∀ (n : Nat) (i2 : Int32) (M : MM) (H : Heap) (locs : List Loc) (ls : Array Slot), fX13_keepers_14 i1 n i2 M = some q → mx_H E s M H locs → lv_has ls 6 [(0, .ref (E.2.1.2.1 0)), (1, .int i1), (2, .int i2)] → W p l e (mx_rm 4) s m args below meth c H locs 0 0 (mx_Z E below args s (some (.int q.1)) q.2) (F0 m 14 ls []) := by
  have hx := C.1.1
  have hb := C.1.2.1
  have hown := C.1.2.2.2.1
  have hts := C.1.2.2.2.2
  intro n
  induction n with
  | zero =>
    intro i2 M H locs ls hf hM hl
    rw [fX13_keepers_14] at hf
    cases hf
  | succ n ih =>
    intro i2 M H locs ls hf hM hl
    rw [fX13_keepers_14] at hf
    refine lv_iload_n hx hb dX13_keepers_14 rfl (lv_at hl 2 rfl) ?_
    refine lv_sipush (v := (128 : Int32)) hx hb dX13_keepers_15 (by decide) ?_
    refine lv_icmp_ge (tgt := 40) hx hb dX13_keepers_18 (by decide) (fun hc18 => ?_) (fun hc18 => ?_)
    · replace hf := mx_ift hc18 hf
      refine lv_iload_n hx hb dX13_keepers_40 rfl (lv_at hl 1 rfl) ?_
      refine lv_iconst (v := (1 : Int32)) hx hb dX13_keepers_41 (by decide) ?_
      refine lv_isub hx hb dX13_keepers_42 ?_
      refine lv_istore_n (lv' := [(2, .int (i1 - (1 : Int32))), (0, .ref (E.2.1.2.1 0)), (1, .int i1)]) hx hb dX13_keepers_43 rfl hl (by decide) rfl (fun ls hl => ?_)
      exact wfX13_keepers_44 C hT i1 mx_fu (i1 - (1 : Int32)) M _ _ _ hf hM (lv_sub hl [1, 2, 0] rfl)
    · replace hf := mx_iff hc18 hf
      refine lv_aload_n hx hb dX13_keepers_21 rfl (lv_at hl 0 rfl) ?_
      refine g13_65 C hT hM dX13_keepers_22 ?_
      refine lv_sipush (v := (128 : Int32)) hx hb dX13_keepers_25 (by decide) ?_
      refine lv_iload_n hx hb dX13_keepers_28 rfl (lv_at hl 1 rfl) ?_
      refine lv_imul hx hb dX13_keepers_29 ?_
      refine lv_iload_n hx hb dX13_keepers_30 rfl (lv_at hl 2 rfl) ?_
      refine lv_iadd hx hb dX13_keepers_31 ?_
      refine lv_iconst (v := (0 : Int32)) hx hb dX13_keepers_32 (by decide) ?_
      obtain ⟨hg33, hf⟩ := mx_gd hf
      refine mx_iast C hM (mt_11 hT) (mx_in_vp hg33) dX13_keepers_33 (fun H locs hM => ?_)
      refine lv_iinc (v := (i2 + (1 : Int32))) (lv' := [(2, .int (i2 + (1 : Int32))), (0, .ref (E.2.1.2.1 0)), (1, .int i1)]) hx hb dX13_keepers_34 hl (k := 2) rfl rfl (by decide) rfl (fun ls hl => ?_)
      refine lv_goto (tgt := 14) hx hb dX13_keepers_37 (by decide) ?_
      exact ih (i2 + (1 : Int32)) (mx_si M 11 (((128 : Int32) * i1) + i2).toNatClampNeg (0 : Int32)) _ _ _ hf hM (lv_sub hl [1, 2, 0] rfl)
set_option maxRecDepth 100000 in
set_option maxHeartbeats 4000000 in
theorem kX13_keepers {E : KE} {l : Launch} (hE : mx_ok E)  (hT : E.1 = mt) (M : MM) {q : (Int32 × MM)} (hf : fX13_keepers M = some q) : mx_Met E l yX13_keepers cX13_keepers 6 (some .int) 4 [.ref (E.2.1.2.1 0)] M (some (.int q.1)) q.2 := by
  refine mx_enter hE (by decide) (Nat.le_of_ble_eq_true rfl) ?_
  intro p e s m below meth c C hM hn ls hl
  have hx := C.1.1
  have hb := C.1.2.1
  have hown := C.1.2.2.2.1
  have hts := C.1.2.2.2.2
  have hl : lv_has ls 6 [(0, .ref (E.2.1.2.1 0))] := hl
  rw [fX13_keepers] at hf
  refine lv_aload_n hx hb dX13_keepers_0 rfl (lv_at hl 0 rfl) ?_
  refine lv_iconst (v := (0 : Int32)) hx hb dX13_keepers_1 (by decide) ?_
  refine p13_1 C hT hM dX13_keepers_2 (fun H locs hM => ?_)
  refine lv_aload_n hx hb dX13_keepers_5 rfl (lv_at hl 0 rfl) ?_
  refine g13_33 C hT hM dX13_keepers_6 ?_
  refine lv_iconst (v := (1 : Int32)) hx hb dX13_keepers_9 (by decide) ?_
  refine mx_ialdL C hM (mt_2 hT) (j := 1) (by decide) (mx_in_vp (by decide)) dX13_keepers_10 ?_
  refine lv_istore_n (lv' := [(1, .int ((mx_si M 0 0 (0 : Int32)).1 2 1)), (0, .ref (E.2.1.2.1 0))]) hx hb dX13_keepers_11 rfl hl (by decide) rfl (fun ls hl => ?_)
  refine lv_iconst (v := (0 : Int32)) hx hb dX13_keepers_12 (by decide) ?_
  refine lv_istore_n (lv' := [(2, .int (0 : Int32)), (1, .int ((mx_si M 0 0 (0 : Int32)).1 2 1)), (0, .ref (E.2.1.2.1 0))]) hx hb dX13_keepers_13 rfl hl (by decide) rfl (fun ls hl => ?_)
  exact wfX13_keepers_14 C hT ((mx_si M 0 0 (0 : Int32)).1 2 1) mx_fu (0 : Int32) (mx_si M 0 0 (0 : Int32)) _ _ _ hf hM (lv_sub hl [2, 1, 0] rfl)
theorem dX13_keeperOf_0 : decode cX13_keeperOf 0 = .ok (.aload_n 0, 1) := by decide +kernel
theorem dX13_keeperOf_1 : decode cX13_keeperOf 1 = .ok (.iconst 0, 1) := by decide +kernel
theorem dX13_keeperOf_2 : decode cX13_keeperOf 2 = .ok (.putfield 1, 3) := by decide +kernel
theorem dX13_keeperOf_5 : decode cX13_keeperOf 5 = .ok (.iload_n 1, 1) := by decide +kernel
theorem dX13_keeperOf_6 : decode cX13_keeperOf 6 = .ok (.iconst 0, 1) := by decide +kernel
theorem dX13_keeperOf_7 : decode cX13_keeperOf 7 = .ok (.aload_n 0, 1) := by decide +kernel
theorem dX13_keeperOf_8 : decode cX13_keeperOf 8 = .ok (.getfield 71, 3) := by decide +kernel
theorem dX13_keeperOf_11 : decode cX13_keeperOf 11 = .ok (.iconst 1, 1) := by decide +kernel
theorem dX13_keeperOf_12 : decode cX13_keeperOf 12 = .ok (.isub, 1) := by decide +kernel
theorem dX13_keeperOf_13 : decode cX13_keeperOf 13 = .ok (.invokestatic 193, 3) := by decide +kernel
theorem dX13_keeperOf_16 : decode cX13_keeperOf 16 = .ok (.ifCond .eq 12, 3) := by decide +kernel
theorem dX13_keeperOf_19 : decode cX13_keeperOf 19 = .ok (.aload_n 0, 1) := by decide +kernel
theorem dX13_keeperOf_20 : decode cX13_keeperOf 20 = .ok (.getfield 68, 3) := by decide +kernel
theorem dX13_keeperOf_23 : decode cX13_keeperOf 23 = .ok (.iload_n 1, 1) := by decide +kernel
theorem dX13_keeperOf_24 : decode cX13_keeperOf 24 = .ok (.iaload, 1) := by decide +kernel
theorem dX13_keeperOf_25 : decode cX13_keeperOf 25 = .ok (.goto 4, 3) := by decide +kernel
theorem dX13_keeperOf_28 : decode cX13_keeperOf 28 = .ok (.iconst (-1), 1) := by decide +kernel
theorem dX13_keeperOf_29 : decode cX13_keeperOf 29 = .ok (.ireturn, 1) := by decide +kernel
set_option maxRecDepth 100000 in
set_option maxHeartbeats 4000000 in
theorem kX13_keeperOf {E : KE} {l : Launch} (hE : mx_ok E) (i1 : Int32) (hT : E.1 = mt) (M : MM) {q : (Int32 × MM)} (hf : fX13_keeperOf i1 M = some q) : mx_Met E l yX13_keeperOf cX13_keeperOf 2 (some .int) 1 [.ref (E.2.1.2.1 0), .int i1] M (some (.int q.1)) q.2 := by
  refine mx_enter hE (by decide) (Nat.le_of_ble_eq_true rfl) ?_
  intro p e s m below meth c C hM hn ls hl
  have hx := C.1.1
  have hb := C.1.2.1
  have hown := C.1.2.2.2.1
  have hts := C.1.2.2.2.2
  have hl : lv_has ls 2 [(0, .ref (E.2.1.2.1 0)), (1, .int i1)] := hl
  rw [fX13_keeperOf] at hf
  refine lv_aload_n hx hb dX13_keeperOf_0 rfl (lv_at hl 0 rfl) ?_
  refine lv_iconst (v := (0 : Int32)) hx hb dX13_keeperOf_1 (by decide) ?_
  refine p13_1 C hT hM dX13_keeperOf_2 (fun H locs hM => ?_)
  refine lv_iload_n hx hb dX13_keeperOf_5 rfl (lv_at hl 1 rfl) ?_
  refine lv_iconst (v := (0 : Int32)) hx hb dX13_keeperOf_6 (by decide) ?_
  refine lv_aload_n hx hb dX13_keeperOf_7 rfl (lv_at hl 0 rfl) ?_
  refine g13_71 C hT hM dX13_keeperOf_8 ?_
  refine lv_iconst (v := (1 : Int32)) hx hb dX13_keeperOf_11 (by decide) ?_
  refine lv_isub hx hb dX13_keeperOf_12 ?_
  obtain ⟨q13, hq13, hf⟩ := mx_bd hf
  refine mx_callS C hM hl.1 yo_X13_isIn (h' := 0) (by decide) qw_1608 qw_1609 (As := [.int i1, .int (0 : Int32), .int (((mx_si M 0 0 (0 : Int32)).1 0 29) - (1 : Int32))]) (rest := []) (st1 := [.int (mx_b q13)]) (kX13_isIn C.2.2.2.1 i1 (0 : Int32) (((mx_si M 0 0 (0 : Int32)).1 0 29) - (1 : Int32)) hT (mx_si M 0 0 (0 : Int32)) hq13) rfl rfl rfl (Nat.le_of_ble_eq_true rfl) dX13_keeperOf_13 (fun H locs hM => ?_)
  refine lv_if_eq (tgt := 28) hx hb dX13_keeperOf_16 (by decide) (fun hc16 => ?_) (fun hc16 => ?_)
  · replace hf := mx_ift hc16 hf
    refine lv_iconst (v := (-1 : Int32)) hx hb dX13_keeperOf_28 (by decide) ?_
    exact mx_iret C hM hf dX13_keeperOf_29
  · replace hf := mx_iff hc16 hf
    refine lv_aload_n hx hb dX13_keeperOf_19 rfl (lv_at hl 0 rfl) ?_
    refine g13_68 C hT hM dX13_keeperOf_20 ?_
    refine lv_iload_n hx hb dX13_keeperOf_23 rfl (lv_at hl 1 rfl) ?_
    obtain ⟨hg24, hf⟩ := mx_gd hf
    refine mx_iald C hM (mt_12 hT) (mx_in_vp hg24) dX13_keeperOf_24 ?_
    refine lv_goto (tgt := 29) hx hb dX13_keeperOf_25 (by decide) ?_
    exact mx_iret C hM hf dX13_keeperOf_29
theorem dX13_isSize_0 : decode cX13_isSize 0 = .ok (.iconst 1, 1) := by decide +kernel
theorem dX13_isSize_1 : decode cX13_isSize 1 = .ok (.istore_n 2, 1) := by decide +kernel
theorem dX13_isSize_2 : decode cX13_isSize 2 = .ok (.iconst 0, 1) := by decide +kernel
theorem dX13_isSize_3 : decode cX13_isSize 3 = .ok (.istore_n 3, 1) := by decide +kernel
theorem dX13_isSize_4 : decode cX13_isSize 4 = .ok (.iload_n 3, 1) := by decide +kernel
theorem dX13_isSize_5 : decode cX13_isSize 5 = .ok (.aload_n 0, 1) := by decide +kernel
theorem dX13_isSize_6 : decode cX13_isSize 6 = .ok (.getfield 18, 3) := by decide +kernel
theorem dX13_isSize_9 : decode cX13_isSize 9 = .ok (.if_icmp .ge 39, 3) := by decide +kernel
theorem dX13_isSize_12 : decode cX13_isSize 12 = .ok (.iload_n 2, 1) := by decide +kernel
theorem dX13_isSize_13 : decode cX13_isSize 13 = .ok (.ifCond .eq 27, 3) := by decide +kernel
theorem dX13_isSize_16 : decode cX13_isSize 16 = .ok (.aload_n 0, 1) := by decide +kernel
theorem dX13_isSize_17 : decode cX13_isSize 17 = .ok (.iload_n 1, 1) := by decide +kernel
theorem dX13_isSize_18 : decode cX13_isSize 18 = .ok (.aload_n 0, 1) := by decide +kernel
theorem dX13_isSize_19 : decode cX13_isSize 19 = .ok (.iload_n 3, 1) := by decide +kernel
theorem dX13_isSize_20 : decode cX13_isSize 20 = .ok (.invokevirtual 361, 3) := by decide +kernel
theorem dX13_isSize_23 : decode cX13_isSize 23 = .ok (.invokevirtual 270, 3) := by decide +kernel
theorem dX13_isSize_26 : decode cX13_isSize 26 = .ok (.aload_n 0, 1) := by decide +kernel
theorem dX13_isSize_27 : decode cX13_isSize 27 = .ok (.iload_n 3, 1) := by decide +kernel
theorem dX13_isSize_28 : decode cX13_isSize 28 = .ok (.iconst 1, 1) := by decide +kernel
theorem dX13_isSize_29 : decode cX13_isSize 29 = .ok (.iadd, 1) := by decide +kernel
theorem dX13_isSize_30 : decode cX13_isSize 30 = .ok (.invokevirtual 361, 3) := by decide +kernel
theorem dX13_isSize_33 : decode cX13_isSize 33 = .ok (.if_icmp .ne 7, 3) := by decide +kernel
theorem dX13_isSize_36 : decode cX13_isSize 36 = .ok (.iconst 1, 1) := by decide +kernel
theorem dX13_isSize_37 : decode cX13_isSize 37 = .ok (.goto 4, 3) := by decide +kernel
theorem dX13_isSize_40 : decode cX13_isSize 40 = .ok (.iconst 0, 1) := by decide +kernel
theorem dX13_isSize_41 : decode cX13_isSize 41 = .ok (.istore_n 2, 1) := by decide +kernel
theorem dX13_isSize_42 : decode cX13_isSize 42 = .ok (.iinc 3 2, 3) := by decide +kernel
theorem dX13_isSize_45 : decode cX13_isSize 45 = .ok (.goto (-41), 3) := by decide +kernel
theorem dX13_isSize_48 : decode cX13_isSize 48 = .ok (.iload_n 2, 1) := by decide +kernel
theorem dX13_isSize_49 : decode cX13_isSize 49 = .ok (.ireturn, 1) := by decide +kernel
set_option maxRecDepth 100000 in
set_option maxHeartbeats 4000000 in
theorem wfX13_isSize_4 {E : KE} {p : Program} {l : Launch} {e : Env} {s : State} {m : MethodId} {args : Array Value} {below : List Frame} {meth : Method} {c : Code} {q : Bool} (C : mx_C E p m c cX13_isSize 4 s args RX13 meth (some .boolean)) (i1 : Int32) (M : MM) (hT : E.1 = mt)   : ∀ (n : Nat) (b2 : Bool) (i3 : Int32) (H : Heap) (locs : List Loc) (ls : Array Slot), fX13_isSize_4 i1 M n b2 i3 = some q → mx_H E s M H locs → lv_has ls 4 [(0, .ref (E.2.1.2.1 0)), (1, .int i1), (2, .int (mx_b b2)), (3, .int i3)] → W p l e (mx_rm 1) s m args below meth c H locs 0 0 (mx_Z E below args s (some (.int (mx_b q))) M) (F0 m 4 ls []) := by
  have hx := C.1.1
  have hb := C.1.2.1
  have hown := C.1.2.2.2.1
  have hts := C.1.2.2.2.2
  intro n
  induction n with
  | zero =>
    intro b2 i3 H locs ls hf hM hl
    rw [fX13_isSize_4] at hf
    cases hf
  | succ n ih =>
    intro b2 i3 H locs ls hf hM hl
    rw [fX13_isSize_4] at hf
    refine lv_iload_n hx hb dX13_isSize_4 rfl (lv_at hl 3 rfl) ?_
    refine lv_aload_n hx hb dX13_isSize_5 rfl (lv_at hl 0 rfl) ?_
    refine g13_18 C hT hM dX13_isSize_6 ?_
    refine lv_icmp_ge (tgt := 48) hx hb dX13_isSize_9 (by decide) (fun hc9 => ?_) (fun hc9 => ?_)
    · replace hf := mx_ift hc9 hf
      refine lv_iload_n hx hb dX13_isSize_48 rfl (lv_at hl 2 rfl) ?_
      exact mx_zretR C hM (b := b2) rfl hf dX13_isSize_49
    · replace hf := mx_iff hc9 hf
      refine lv_iload_n hx hb dX13_isSize_12 rfl (lv_at hl 2 rfl) ?_
      refine lv_if_eq (tgt := 40) hx hb dX13_isSize_13 (by decide) (fun hc13 => ?_) (fun hc13 => ?_)
      · replace hf := mx_ift hc13 hf
        refine lv_iconst (v := (0 : Int32)) hx hb dX13_isSize_40 (by decide) ?_
        refine lv_istore_n (lv' := [(2, .int (0 : Int32)), (0, .ref (E.2.1.2.1 0)), (1, .int i1), (3, .int i3)]) hx hb dX13_isSize_41 rfl hl (by decide) rfl (fun ls hl => ?_)
        refine lv_iinc (v := (i3 + (2 : Int32))) (lv' := [(3, .int (i3 + (2 : Int32))), (2, .int (0 : Int32)), (0, .ref (E.2.1.2.1 0)), (1, .int i1)]) hx hb dX13_isSize_42 hl (k := 3) rfl rfl (by decide) rfl (fun ls hl => ?_)
        refine lv_goto (tgt := 4) hx hb dX13_isSize_45 (by decide) ?_
        exact ih false (i3 + (2 : Int32)) _ _ _ hf hM (lv_sub hl [2, 3, 1, 0] rfl)
      · replace hf := mx_iff hc13 hf
        refine lv_aload_n hx hb dX13_isSize_16 rfl (lv_at hl 0 rfl) ?_
        refine lv_iload_n hx hb dX13_isSize_17 rfl (lv_at hl 1 rfl) ?_
        refine lv_aload_n hx hb dX13_isSize_18 rfl (lv_at hl 0 rfl) ?_
        refine lv_iload_n hx hb dX13_isSize_19 rfl (lv_at hl 3 rfl) ?_
        obtain ⟨q20, hq20, hf⟩ := mx_bd hf
        refine mx_callV C hM hl.1 yo_X13_octet (h' := 0) (by decide) qw_1839 qw_1841 qs_158 (ci := 13) (q := (RX13, TX13, 52)) rfl (mt_0 hT) (As := [.int i3]) (rest := [.int i1, .ref (E.2.1.2.1 0)]) (st1 := [.int q20, .int i1, .ref (E.2.1.2.1 0)]) (kX13_octet C.2.2.2.1 i3 hT M hq20) rfl rfl rfl (Nat.le_of_ble_eq_true rfl) dX13_isSize_20 (fun H locs hM => ?_)
        obtain ⟨q23, hq23, hf⟩ := mx_bd hf
        refine mx_callV C hM hl.1 yo_X13_feels (h' := 0) (by decide) qw_1682 qw_1684 qs_137 (ci := 13) (q := (RX13, TX13, 52)) rfl (mt_0 hT) (As := [.int i1, .int q20]) (rest := []) (st1 := [.int q23]) (kX13_feels C.2.2.2.1 i1 q20 hT M hq23) rfl rfl rfl (Nat.le_of_ble_eq_true rfl) dX13_isSize_23 (fun H locs hM => ?_)
        refine lv_aload_n hx hb dX13_isSize_26 rfl (lv_at hl 0 rfl) ?_
        refine lv_iload_n hx hb dX13_isSize_27 rfl (lv_at hl 3 rfl) ?_
        refine lv_iconst (v := (1 : Int32)) hx hb dX13_isSize_28 (by decide) ?_
        refine lv_iadd hx hb dX13_isSize_29 ?_
        obtain ⟨q30, hq30, hf⟩ := mx_bd hf
        refine mx_callV C hM hl.1 yo_X13_octet (h' := 0) (by decide) qw_1839 qw_1841 qs_158 (ci := 13) (q := (RX13, TX13, 52)) rfl (mt_0 hT) (As := [.int (i3 + (1 : Int32))]) (rest := [.int q23]) (st1 := [.int q30, .int q23]) (kX13_octet C.2.2.2.1 (i3 + (1 : Int32)) hT M hq30) rfl rfl rfl (Nat.le_of_ble_eq_true rfl) dX13_isSize_30 (fun H locs hM => ?_)
        refine lv_icmp_ne (tgt := 40) hx hb dX13_isSize_33 (by decide) (fun hc33 => ?_) (fun hc33 => ?_)
        · replace hf := mx_iff hc33 hf
          refine lv_iconst (v := (0 : Int32)) hx hb dX13_isSize_40 (by decide) ?_
          refine lv_istore_n (lv' := [(2, .int (0 : Int32)), (0, .ref (E.2.1.2.1 0)), (1, .int i1), (3, .int i3)]) hx hb dX13_isSize_41 rfl hl (by decide) rfl (fun ls hl => ?_)
          refine lv_iinc (v := (i3 + (2 : Int32))) (lv' := [(3, .int (i3 + (2 : Int32))), (2, .int (0 : Int32)), (0, .ref (E.2.1.2.1 0)), (1, .int i1)]) hx hb dX13_isSize_42 hl (k := 3) rfl rfl (by decide) rfl (fun ls hl => ?_)
          refine lv_goto (tgt := 4) hx hb dX13_isSize_45 (by decide) ?_
          exact ih false (i3 + (2 : Int32)) _ _ _ hf hM (lv_sub hl [2, 3, 1, 0] rfl)
        · replace hf := mx_ift hc33 hf
          refine lv_iconst (v := (1 : Int32)) hx hb dX13_isSize_36 (by decide) ?_
          refine lv_goto (tgt := 41) hx hb dX13_isSize_37 (by decide) ?_
          refine lv_istore_n (lv' := [(2, .int (1 : Int32)), (0, .ref (E.2.1.2.1 0)), (1, .int i1), (3, .int i3)]) hx hb dX13_isSize_41 rfl hl (by decide) rfl (fun ls hl => ?_)
          refine lv_iinc (v := (i3 + (2 : Int32))) (lv' := [(3, .int (i3 + (2 : Int32))), (2, .int (1 : Int32)), (0, .ref (E.2.1.2.1 0)), (1, .int i1)]) hx hb dX13_isSize_42 hl (k := 3) rfl rfl (by decide) rfl (fun ls hl => ?_)
          refine lv_goto (tgt := 4) hx hb dX13_isSize_45 (by decide) ?_
          exact ih true (i3 + (2 : Int32)) _ _ _ hf hM (lv_sub hl [2, 3, 1, 0] rfl)
set_option maxRecDepth 100000 in
set_option maxHeartbeats 4000000 in
theorem kX13_isSize {E : KE} {l : Launch} (hE : mx_ok E) (i1 : Int32) (hT : E.1 = mt) (M : MM) {q : Bool} (hf : fX13_isSize i1 M = some q) : mx_Met E l yX13_isSize cX13_isSize 4 (some .boolean) 1 [.ref (E.2.1.2.1 0), .int i1] M (some (.int (mx_b q))) M := by
  refine mx_enter hE (by decide) (Nat.le_of_ble_eq_true rfl) ?_
  intro p e s m below meth c C hM hn ls hl
  have hx := C.1.1
  have hb := C.1.2.1
  have hown := C.1.2.2.2.1
  have hts := C.1.2.2.2.2
  have hl : lv_has ls 4 [(0, .ref (E.2.1.2.1 0)), (1, .int i1)] := hl
  rw [fX13_isSize] at hf
  refine lv_iconst (v := (1 : Int32)) hx hb dX13_isSize_0 (by decide) ?_
  refine lv_istore_n (lv' := [(2, .int (1 : Int32)), (0, .ref (E.2.1.2.1 0)), (1, .int i1)]) hx hb dX13_isSize_1 rfl hl (by decide) rfl (fun ls hl => ?_)
  refine lv_iconst (v := (0 : Int32)) hx hb dX13_isSize_2 (by decide) ?_
  refine lv_istore_n (lv' := [(3, .int (0 : Int32)), (2, .int (1 : Int32)), (0, .ref (E.2.1.2.1 0)), (1, .int i1)]) hx hb dX13_isSize_3 rfl hl (by decide) rfl (fun ls hl => ?_)
  exact wfX13_isSize_4 C i1 M hT mx_fu true (0 : Int32) _ _ _ hf hM (lv_sub hl [2, 3, 1, 0] rfl)
