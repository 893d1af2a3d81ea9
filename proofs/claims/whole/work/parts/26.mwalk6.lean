theorem dX13_told_0 : decode cX13_told 0 = .ok (.aload_n 0, 1) := by decide +kernel
theorem dX13_told_1 : decode cX13_told 1 = .ok (.iconst 0, 1) := by decide +kernel
theorem dX13_told_2 : decode cX13_told 2 = .ok (.putfield 1, 3) := by decide +kernel
theorem dX13_told_5 : decode cX13_told 5 = .ok (.aload_n 0, 1) := by decide +kernel
theorem dX13_told_6 : decode cX13_told 6 = .ok (.getfield 441, 3) := by decide +kernel
theorem dX13_told_9 : decode cX13_told 9 = .ok (.ifCond .eq 21, 3) := by decide +kernel
theorem dX13_told_12 : decode cX13_told 12 = .ok (.iload_n 1, 1) := by decide +kernel
theorem dX13_told_13 : decode cX13_told 13 = .ok (.iconst 0, 1) := by decide +kernel
theorem dX13_told_14 : decode cX13_told 14 = .ok (.iconst 3, 1) := by decide +kernel
theorem dX13_told_15 : decode cX13_told 15 = .ok (.invokestatic 193, 3) := by decide +kernel
theorem dX13_told_18 : decode cX13_told 18 = .ok (.ifCond .eq 12, 3) := by decide +kernel
theorem dX13_told_21 : decode cX13_told 21 = .ok (.aload_n 0, 1) := by decide +kernel
theorem dX13_told_22 : decode cX13_told 22 = .ok (.getfield 83, 3) := by decide +kernel
theorem dX13_told_25 : decode cX13_told 25 = .ok (.iload_n 1, 1) := by decide +kernel
theorem dX13_told_26 : decode cX13_told 26 = .ok (.iaload, 1) := by decide +kernel
theorem dX13_told_27 : decode cX13_told 27 = .ok (.goto 4, 3) := by decide +kernel
theorem dX13_told_30 : decode cX13_told 30 = .ok (.iconst (-1), 1) := by decide +kernel
theorem dX13_told_31 : decode cX13_told 31 = .ok (.ireturn, 1) := by decide +kernel
set_option maxRecDepth 100000 in
set_option maxHeartbeats 4000000 in
theorem kX13_told {E : KE} {l : Launch} (hE : mx_ok E) (i1 : Int32) (hT : E.1 = mt) (M : MM) {q : (Int32 × MM)} (hf : fX13_told i1 M = some q) : mx_Met E l yX13_told cX13_told 2 (some .int) 1 [.ref (E.2.1.2.1 0), .int i1] M (some (.int q.1)) q.2 := by
  refine mx_enter hE (by decide) (Nat.le_of_ble_eq_true rfl) ?_
  intro p e s m below meth c C hM hn ls hl
  have hx := C.1.1
  have hb := C.1.2.1
  have hown := C.1.2.2.2.1
  have hts := C.1.2.2.2.2
  have hl : lv_has ls 2 [(0, .ref (E.2.1.2.1 0)), (1, .int i1)] := hl
  rw [fX13_told] at hf
  refine lv_aload_n hx hb dX13_told_0 rfl (lv_at hl 0 rfl) ?_
  refine lv_iconst (v := (0 : Int32)) hx hb dX13_told_1 (by decide) ?_
  refine p13_1 C hT hM dX13_told_2 (fun H locs hM => ?_)
  refine lv_aload_n hx hb dX13_told_5 rfl (lv_at hl 0 rfl) ?_
  refine g13_441 C hT hM dX13_told_6 ?_
  refine lv_if_eq (tgt := 30) hx hb dX13_told_9 (by decide) (fun hc9 => ?_) (fun hc9 => ?_)
  · replace hf := mx_ift hc9 hf
    refine lv_iconst (v := (-1 : Int32)) hx hb dX13_told_30 (by decide) ?_
    exact mx_iret C hM hf dX13_told_31
  · replace hf := mx_iff hc9 hf
    refine lv_iload_n hx hb dX13_told_12 rfl (lv_at hl 1 rfl) ?_
    refine lv_iconst (v := (0 : Int32)) hx hb dX13_told_13 (by decide) ?_
    refine lv_iconst (v := (3 : Int32)) hx hb dX13_told_14 (by decide) ?_
    obtain ⟨q15, hq15, hf⟩ := mx_bd hf
    refine mx_callS C hM hl.1 yo_X13_isIn (h' := 0) (by decide) qw_1608 qw_1609 (As := [.int i1, .int (0 : Int32), .int (3 : Int32)]) (rest := []) (st1 := [.int (mx_b q15)]) (kX13_isIn C.2.2.2.1 i1 (0 : Int32) (3 : Int32) hT (mx_si M 0 0 (0 : Int32)) hq15) rfl rfl rfl (Nat.le_of_ble_eq_true rfl) dX13_told_15 (fun H locs hM => ?_)
    refine lv_if_eq (tgt := 30) hx hb dX13_told_18 (by decide) (fun hc18 => ?_) (fun hc18 => ?_)
    · replace hf := mx_ift hc18 hf
      refine lv_iconst (v := (-1 : Int32)) hx hb dX13_told_30 (by decide) ?_
      exact mx_iret C hM hf dX13_told_31
    · replace hf := mx_iff hc18 hf
      refine lv_aload_n hx hb dX13_told_21 rfl (lv_at hl 0 rfl) ?_
      refine g13_83 C hT hM dX13_told_22 ?_
      refine lv_iload_n hx hb dX13_told_25 rfl (lv_at hl 1 rfl) ?_
      obtain ⟨hg26, hf⟩ := mx_gd hf
      refine mx_iald C hM (mt_16 hT) (mx_in_vp hg26) dX13_told_26 ?_
      refine lv_goto (tgt := 31) hx hb dX13_told_27 (by decide) ?_
      exact mx_iret C hM hf dX13_told_31
theorem dX13_code_0 : decode cX13_code 0 = .ok (.aload_n 0, 1) := by decide +kernel
theorem dX13_code_1 : decode cX13_code 1 = .ok (.getfield 40, 3) := by decide +kernel
theorem dX13_code_4 : decode cX13_code 4 = .ok (.iconst 3, 1) := by decide +kernel
theorem dX13_code_5 : decode cX13_code 5 = .ok (.aload_n 0, 1) := by decide +kernel
theorem dX13_code_6 : decode cX13_code 6 = .ok (.getfield 444, 3) := by decide +kernel
theorem dX13_code_9 : decode cX13_code 9 = .ok (.imul, 1) := by decide +kernel
theorem dX13_code_10 : decode cX13_code 10 = .ok (.iload_n 1, 1) := by decide +kernel
theorem dX13_code_11 : decode cX13_code 11 = .ok (.iastore, 1) := by decide +kernel
theorem dX13_code_12 : decode cX13_code 12 = .ok (.aload_n 0, 1) := by decide +kernel
theorem dX13_code_13 : decode cX13_code 13 = .ok (.getfield 40, 3) := by decide +kernel
theorem dX13_code_16 : decode cX13_code 16 = .ok (.iconst 3, 1) := by decide +kernel
theorem dX13_code_17 : decode cX13_code 17 = .ok (.aload_n 0, 1) := by decide +kernel
theorem dX13_code_18 : decode cX13_code 18 = .ok (.getfield 444, 3) := by decide +kernel
theorem dX13_code_21 : decode cX13_code 21 = .ok (.imul, 1) := by decide +kernel
theorem dX13_code_22 : decode cX13_code 22 = .ok (.iconst 1, 1) := by decide +kernel
theorem dX13_code_23 : decode cX13_code 23 = .ok (.iadd, 1) := by decide +kernel
theorem dX13_code_24 : decode cX13_code 24 = .ok (.iload_n 2, 1) := by decide +kernel
theorem dX13_code_25 : decode cX13_code 25 = .ok (.iastore, 1) := by decide +kernel
theorem dX13_code_26 : decode cX13_code 26 = .ok (.aload_n 0, 1) := by decide +kernel
theorem dX13_code_27 : decode cX13_code 27 = .ok (.getfield 40, 3) := by decide +kernel
theorem dX13_code_30 : decode cX13_code 30 = .ok (.iconst 3, 1) := by decide +kernel
theorem dX13_code_31 : decode cX13_code 31 = .ok (.aload_n 0, 1) := by decide +kernel
theorem dX13_code_32 : decode cX13_code 32 = .ok (.getfield 444, 3) := by decide +kernel
theorem dX13_code_35 : decode cX13_code 35 = .ok (.imul, 1) := by decide +kernel
theorem dX13_code_36 : decode cX13_code 36 = .ok (.iconst 2, 1) := by decide +kernel
theorem dX13_code_37 : decode cX13_code 37 = .ok (.iadd, 1) := by decide +kernel
theorem dX13_code_38 : decode cX13_code 38 = .ok (.iload_n 3, 1) := by decide +kernel
theorem dX13_code_39 : decode cX13_code 39 = .ok (.iastore, 1) := by decide +kernel
theorem dX13_code_40 : decode cX13_code 40 = .ok (.aload_n 0, 1) := by decide +kernel
theorem dX13_code_41 : decode cX13_code 41 = .ok (.dup, 1) := by decide +kernel
theorem dX13_code_42 : decode cX13_code 42 = .ok (.getfield 444, 3) := by decide +kernel
theorem dX13_code_45 : decode cX13_code 45 = .ok (.iconst 1, 1) := by decide +kernel
theorem dX13_code_46 : decode cX13_code 46 = .ok (.iadd, 1) := by decide +kernel
theorem dX13_code_47 : decode cX13_code 47 = .ok (.putfield 444, 3) := by decide +kernel
theorem dX13_code_50 : decode cX13_code 50 = .ok (.return_, 1) := by decide +kernel
set_option maxRecDepth 100000 in
set_option maxHeartbeats 4000000 in
theorem kX13_code {E : KE} {l : Launch} (hE : mx_ok E) (i1 : Int32) (i2 : Int32) (i3 : Int32) (hT : E.1 = mt) (M : MM) {q : MM} (hf : fX13_code i1 i2 i3 M = some q) : mx_Met E l yX13_code cX13_code 4 none 0 [.ref (E.2.1.2.1 0), .int i1, .int i2, .int i3] M none q := by
  refine mx_enter hE (by decide) (Nat.le_of_ble_eq_true rfl) ?_
  intro p e s m below meth c C hM hn ls hl
  have hx := C.1.1
  have hb := C.1.2.1
  have hown := C.1.2.2.2.1
  have hts := C.1.2.2.2.2
  have hl : lv_has ls 4 [(0, .ref (E.2.1.2.1 0)), (1, .int i1), (2, .int i2), (3, .int i3)] := hl
  rw [fX13_code] at hf
  refine lv_aload_n hx hb dX13_code_0 rfl (lv_at hl 0 rfl) ?_
  refine g13_40 C hT hM dX13_code_1 ?_
  refine lv_iconst (v := (3 : Int32)) hx hb dX13_code_4 (by decide) ?_
  refine lv_aload_n hx hb dX13_code_5 rfl (lv_at hl 0 rfl) ?_
  refine g13_444 C hT hM dX13_code_6 ?_
  refine lv_imul hx hb dX13_code_9 ?_
  refine lv_iload_n hx hb dX13_code_10 rfl (lv_at hl 1 rfl) ?_
  obtain ⟨hg11, hf⟩ := mx_gd hf
  refine mx_iast C hM (mt_4 hT) (mx_in_vp hg11) dX13_code_11 (fun H locs hM => ?_)
  refine lv_aload_n hx hb dX13_code_12 rfl (lv_at hl 0 rfl) ?_
  refine g13_40 C hT hM dX13_code_13 ?_
  refine lv_iconst (v := (3 : Int32)) hx hb dX13_code_16 (by decide) ?_
  refine lv_aload_n hx hb dX13_code_17 rfl (lv_at hl 0 rfl) ?_
  refine g13_444 C hT hM dX13_code_18 ?_
  refine lv_imul hx hb dX13_code_21 ?_
  refine lv_iconst (v := (1 : Int32)) hx hb dX13_code_22 (by decide) ?_
  refine lv_iadd hx hb dX13_code_23 ?_
  refine lv_iload_n hx hb dX13_code_24 rfl (lv_at hl 2 rfl) ?_
  obtain ⟨hg25, hf⟩ := mx_gd hf
  refine mx_iast C hM (mt_4 hT) (mx_in_vp hg25) dX13_code_25 (fun H locs hM => ?_)
  refine lv_aload_n hx hb dX13_code_26 rfl (lv_at hl 0 rfl) ?_
  refine g13_40 C hT hM dX13_code_27 ?_
  refine lv_iconst (v := (3 : Int32)) hx hb dX13_code_30 (by decide) ?_
  refine lv_aload_n hx hb dX13_code_31 rfl (lv_at hl 0 rfl) ?_
  refine g13_444 C hT hM dX13_code_32 ?_
  refine lv_imul hx hb dX13_code_35 ?_
  refine lv_iconst (v := (2 : Int32)) hx hb dX13_code_36 (by decide) ?_
  refine lv_iadd hx hb dX13_code_37 ?_
  refine lv_iload_n hx hb dX13_code_38 rfl (lv_at hl 3 rfl) ?_
  obtain ⟨hg39, hf⟩ := mx_gd hf
  refine mx_iast C hM (mt_4 hT) (mx_in_vp hg39) dX13_code_39 (fun H locs hM => ?_)
  refine lv_aload_n hx hb dX13_code_40 rfl (lv_at hl 0 rfl) ?_
  refine lv_dup hx hb dX13_code_41 rfl ?_
  refine g13_444 C hT hM dX13_code_42 ?_
  refine lv_iconst (v := (1 : Int32)) hx hb dX13_code_45 (by decide) ?_
  refine lv_iadd hx hb dX13_code_46 ?_
  refine p13_444 C hT hM dX13_code_47 (fun H locs hM => ?_)
  exact mx_vret C hM hf dX13_code_50
theorem dX13_joins_0 : decode cX13_joins 0 = .ok (.aload_n 0, 1) := by decide +kernel
theorem dX13_joins_1 : decode cX13_joins 1 = .ok (.getfield 447, 3) := by decide +kernel
theorem dX13_joins_4 : decode cX13_joins 4 = .ok (.ifCond .le 69, 3) := by decide +kernel
theorem dX13_joins_7 : decode cX13_joins 7 = .ok (.aload_n 0, 1) := by decide +kernel
theorem dX13_joins_8 : decode cX13_joins 8 = .ok (.getfield 86, 3) := by decide +kernel
theorem dX13_joins_11 : decode cX13_joins 11 = .ok (.aload_n 0, 1) := by decide +kernel
theorem dX13_joins_12 : decode cX13_joins 12 = .ok (.getfield 447, 3) := by decide +kernel
theorem dX13_joins_15 : decode cX13_joins 15 = .ok (.iconst 1, 1) := by decide +kernel
theorem dX13_joins_16 : decode cX13_joins 16 = .ok (.isub, 1) := by decide +kernel
theorem dX13_joins_17 : decode cX13_joins 17 = .ok (.iaload, 1) := by decide +kernel
theorem dX13_joins_18 : decode cX13_joins 18 = .ok (.bipush 21, 2) := by decide +kernel
theorem dX13_joins_20 : decode cX13_joins 20 = .ok (.if_icmp .eq 25, 3) := by decide +kernel
theorem dX13_joins_23 : decode cX13_joins 23 = .ok (.aload_n 0, 1) := by decide +kernel
theorem dX13_joins_24 : decode cX13_joins 24 = .ok (.getfield 86, 3) := by decide +kernel
theorem dX13_joins_27 : decode cX13_joins 27 = .ok (.aload_n 0, 1) := by decide +kernel
theorem dX13_joins_28 : decode cX13_joins 28 = .ok (.getfield 447, 3) := by decide +kernel
theorem dX13_joins_31 : decode cX13_joins 31 = .ok (.iconst 1, 1) := by decide +kernel
theorem dX13_joins_32 : decode cX13_joins 32 = .ok (.isub, 1) := by decide +kernel
theorem dX13_joins_33 : decode cX13_joins 33 = .ok (.iaload, 1) := by decide +kernel
theorem dX13_joins_34 : decode cX13_joins 34 = .ok (.bipush 22, 2) := by decide +kernel
theorem dX13_joins_36 : decode cX13_joins 36 = .ok (.if_icmp .ne 37, 3) := by decide +kernel
theorem dX13_joins_39 : decode cX13_joins 39 = .ok (.iload_n 1, 1) := by decide +kernel
theorem dX13_joins_40 : decode cX13_joins 40 = .ok (.bipush 22, 2) := by decide +kernel
theorem dX13_joins_42 : decode cX13_joins 42 = .ok (.if_icmp .ne 31, 3) := by decide +kernel
theorem dX13_joins_45 : decode cX13_joins 45 = .ok (.aload_n 0, 1) := by decide +kernel
theorem dX13_joins_46 : decode cX13_joins 46 = .ok (.dup, 1) := by decide +kernel
theorem dX13_joins_47 : decode cX13_joins 47 = .ok (.getfield 447, 3) := by decide +kernel
theorem dX13_joins_50 : decode cX13_joins 50 = .ok (.iconst 1, 1) := by decide +kernel
theorem dX13_joins_51 : decode cX13_joins 51 = .ok (.isub, 1) := by decide +kernel
theorem dX13_joins_52 : decode cX13_joins 52 = .ok (.putfield 447, 3) := by decide +kernel
theorem dX13_joins_55 : decode cX13_joins 55 = .ok (.aload_n 0, 1) := by decide +kernel
theorem dX13_joins_56 : decode cX13_joins 56 = .ok (.aload_n 0, 1) := by decide +kernel
theorem dX13_joins_57 : decode cX13_joins 57 = .ok (.getfield 86, 3) := by decide +kernel
theorem dX13_joins_60 : decode cX13_joins 60 = .ok (.aload_n 0, 1) := by decide +kernel
theorem dX13_joins_61 : decode cX13_joins 61 = .ok (.getfield 447, 3) := by decide +kernel
theorem dX13_joins_64 : decode cX13_joins 64 = .ok (.iaload, 1) := by decide +kernel
theorem dX13_joins_65 : decode cX13_joins 65 = .ok (.iconst 0, 1) := by decide +kernel
theorem dX13_joins_66 : decode cX13_joins 66 = .ok (.iconst 0, 1) := by decide +kernel
theorem dX13_joins_67 : decode cX13_joins 67 = .ok (.invokevirtual 450, 3) := by decide +kernel
theorem dX13_joins_70 : decode cX13_joins 70 = .ok (.goto (-70), 3) := by decide +kernel
theorem dX13_joins_73 : decode cX13_joins 73 = .ok (.return_, 1) := by decide +kernel
set_option maxRecDepth 100000 in
set_option maxHeartbeats 4000000 in
theorem wfX13_joins_45 {E : KE} {p : Program} {l : Launch} {e : Env} {s : State} {m : MethodId} {args : Array Value} {below : List Frame} {meth : Method} {c : Code} {q : MM} (C : mx_C E p m c cX13_joins 2 s args RX13 meth none) (i1 : Int32) (hT : E.1 = mt)  (k0 : MM → Option MM) (hk0 : ∀  (M : MM) (H : Heap) (locs : List Loc) (ls : Array Slot), k0 M = some q → mx_H E s M H locs → lv_has ls 2 [(0, .ref (E.2.1.2.1 0)), (1, .int i1)] → W p l e (mx_rm 1) s m args below meth c H locs 0 0 (mx_Z E below args s none q) (F0 m 0 ls [])) : ∀ (M : MM) (H : Heap) (locs : List Loc) (ls : Array Slot), fX13_joins_45 i1 k0 M = some q → mx_H E s M H locs → lv_has ls 2 [(0, .ref (E.2.1.2.1 0)), (1, .int i1)] → W p l e (mx_rm 1) s m args below meth c H locs 0 0 (mx_Z E below args s none q) (F0 m 45 ls []) := by
  have hx := C.1.1
  have hb := C.1.2.1
  have hown := C.1.2.2.2.1
  have hts := C.1.2.2.2.2
  intro M H locs ls hf hM hl
  rw [fX13_joins_45] at hf
  refine lv_aload_n hx hb dX13_joins_45 rfl (lv_at hl 0 rfl) ?_
  refine lv_dup hx hb dX13_joins_46 rfl ?_
  refine g13_447 C hT hM dX13_joins_47 ?_
  refine lv_iconst (v := (1 : Int32)) hx hb dX13_joins_50 (by decide) ?_
  refine lv_isub hx hb dX13_joins_51 ?_
  refine p13_447 C hT hM dX13_joins_52 (fun H locs hM => ?_)
  refine lv_aload_n hx hb dX13_joins_55 rfl (lv_at hl 0 rfl) ?_
  refine lv_aload_n hx hb dX13_joins_56 rfl (lv_at hl 0 rfl) ?_
  refine g13_86 C hT hM dX13_joins_57 ?_
  refine lv_aload_n hx hb dX13_joins_60 rfl (lv_at hl 0 rfl) ?_
  refine g13_447 C hT hM dX13_joins_61 ?_
  obtain ⟨hg64, hf⟩ := mx_gd hf
  refine mx_iald C hM (mt_17 hT) (mx_in_vp hg64) dX13_joins_64 ?_
  refine lv_iconst (v := (0 : Int32)) hx hb dX13_joins_65 (by decide) ?_
  refine lv_iconst (v := (0 : Int32)) hx hb dX13_joins_66 (by decide) ?_
  obtain ⟨q67, hq67, hf⟩ := mx_bd hf
  refine mx_callV C hM hl.1 yo_X13_code (h' := 0) (by decide) qw_1966 qw_1968 qs_176 (ci := 13) (q := (RX13, TX13, 52)) rfl (mt_0 hT) (As := [.int ((mx_si M 0 45 ((M.1 0 45) - (1 : Int32))).1 17 ((mx_si M 0 45 ((M.1 0 45) - (1 : Int32))).1 0 45).toNatClampNeg), .int (0 : Int32), .int (0 : Int32)]) (rest := []) (st1 := []) (kX13_code C.2.2.2.1 ((mx_si M 0 45 ((M.1 0 45) - (1 : Int32))).1 17 ((mx_si M 0 45 ((M.1 0 45) - (1 : Int32))).1 0 45).toNatClampNeg) (0 : Int32) (0 : Int32) hT (mx_si M 0 45 ((M.1 0 45) - (1 : Int32))) hq67) rfl rfl rfl (Nat.le_of_ble_eq_true rfl) dX13_joins_67 (fun H locs hM => ?_)
  refine lv_goto (tgt := 0) hx hb dX13_joins_70 (by decide) ?_
  exact hk0 q67 _ _ _ hf hM (lv_sub hl [0, 1] rfl)
set_option maxRecDepth 100000 in
set_option maxHeartbeats 4000000 in
theorem wfX13_joins_0 {E : KE} {p : Program} {l : Launch} {e : Env} {s : State} {m : MethodId} {args : Array Value} {below : List Frame} {meth : Method} {c : Code} {q : MM} (C : mx_C E p m c cX13_joins 2 s args RX13 meth none) (i1 : Int32) (hT : E.1 = mt)   : ∀ (n : Nat) (M : MM) (H : Heap) (locs : List Loc) (ls : Array Slot), fX13_joins_0 i1 n M = some q → mx_H E s M H locs → lv_has ls 2 [(0, .ref (E.2.1.2.1 0)), (1, .int i1)] → W p l e (mx_rm 1) s m args below meth c H locs 0 0 (mx_Z E below args s none q) (F0 m 0 ls []) := by
  have hx := C.1.1
  have hb := C.1.2.1
  have hown := C.1.2.2.2.1
  have hts := C.1.2.2.2.2
  intro n
  induction n with
  | zero =>
    intro M H locs ls hf hM hl
    rw [fX13_joins_0] at hf
    cases hf
  | succ n ih =>
    intro M H locs ls hf hM hl
    rw [fX13_joins_0] at hf
    refine lv_aload_n hx hb dX13_joins_0 rfl (lv_at hl 0 rfl) ?_
    refine g13_447 C hT hM dX13_joins_1 ?_
    refine lv_if_le (tgt := 73) hx hb dX13_joins_4 (by decide) (fun hc4 => ?_) (fun hc4 => ?_)
    · replace hf := mx_ift hc4 hf
      exact mx_vret C hM hf dX13_joins_73
    · replace hf := mx_iff hc4 hf
      refine lv_aload_n hx hb dX13_joins_7 rfl (lv_at hl 0 rfl) ?_
      refine g13_86 C hT hM dX13_joins_8 ?_
      refine lv_aload_n hx hb dX13_joins_11 rfl (lv_at hl 0 rfl) ?_
      refine g13_447 C hT hM dX13_joins_12 ?_
      refine lv_iconst (v := (1 : Int32)) hx hb dX13_joins_15 (by decide) ?_
      refine lv_isub hx hb dX13_joins_16 ?_
      obtain ⟨hg17, hf⟩ := mx_gd hf
      refine mx_iald C hM (mt_17 hT) (mx_in_vp hg17) dX13_joins_17 ?_
      refine lv_bipush (v := (21 : Int32)) hx hb dX13_joins_18 (by decide) ?_
      refine lv_icmp_eq (tgt := 45) hx hb dX13_joins_20 (by decide) (fun hc20 => ?_) (fun hc20 => ?_)
      · replace hf := mx_ift hc20 hf
        exact wfX13_joins_45 C i1 hT (fX13_joins_0 i1 n) ih M _ _ _ hf hM (lv_sub hl [0, 1] rfl)
      · replace hf := mx_iff hc20 hf
        refine lv_aload_n hx hb dX13_joins_23 rfl (lv_at hl 0 rfl) ?_
        refine g13_86 C hT hM dX13_joins_24 ?_
        refine lv_aload_n hx hb dX13_joins_27 rfl (lv_at hl 0 rfl) ?_
        refine g13_447 C hT hM dX13_joins_28 ?_
        refine lv_iconst (v := (1 : Int32)) hx hb dX13_joins_31 (by decide) ?_
        refine lv_isub hx hb dX13_joins_32 ?_
        obtain ⟨hg33, hf⟩ := mx_gd hf
        refine mx_iald C hM (mt_17 hT) (mx_in_vp hg33) dX13_joins_33 ?_
        refine lv_bipush (v := (22 : Int32)) hx hb dX13_joins_34 (by decide) ?_
        refine lv_icmp_ne (tgt := 73) hx hb dX13_joins_36 (by decide) (fun hc36 => ?_) (fun hc36 => ?_)
        · replace hf := mx_iff hc36 hf
          exact mx_vret C hM hf dX13_joins_73
        · replace hf := mx_ift hc36 hf
          refine lv_iload_n hx hb dX13_joins_39 rfl (lv_at hl 1 rfl) ?_
          refine lv_bipush (v := (22 : Int32)) hx hb dX13_joins_40 (by decide) ?_
          refine lv_icmp_ne (tgt := 73) hx hb dX13_joins_42 (by decide) (fun hc42 => ?_) (fun hc42 => ?_)
          · replace hf := mx_iff hc42 hf
            exact mx_vret C hM hf dX13_joins_73
          · replace hf := mx_ift hc42 hf
            exact wfX13_joins_45 C i1 hT (fX13_joins_0 i1 n) ih M _ _ _ hf hM (lv_sub hl [0, 1] rfl)
set_option maxRecDepth 100000 in
set_option maxHeartbeats 4000000 in
theorem kX13_joins {E : KE} {l : Launch} (hE : mx_ok E) (i1 : Int32) (hT : E.1 = mt) (M : MM) {q : MM} (hf : fX13_joins i1 M = some q) : mx_Met E l yX13_joins cX13_joins 2 none 1 [.ref (E.2.1.2.1 0), .int i1] M none q := by
  refine mx_enter hE (by decide) (Nat.le_of_ble_eq_true rfl) ?_
  intro p e s m below meth c C hM hn ls hl
  have hx := C.1.1
  have hb := C.1.2.1
  have hown := C.1.2.2.2.1
  have hts := C.1.2.2.2.2
  have hl : lv_has ls 2 [(0, .ref (E.2.1.2.1 0)), (1, .int i1)] := hl
  rw [fX13_joins] at hf
  exact wfX13_joins_0 C i1 hT mx_fu M _ _ _ hf hM (lv_sub hl [0, 1] rfl)
theorem dX13_nots_0 : decode cX13_nots 0 = .ok (.aload_n 0, 1) := by decide +kernel
theorem dX13_nots_1 : decode cX13_nots 1 = .ok (.getfield 447, 3) := by decide +kernel
theorem dX13_nots_4 : decode cX13_nots 4 = .ok (.ifCond .le 50, 3) := by decide +kernel
theorem dX13_nots_7 : decode cX13_nots 7 = .ok (.aload_n 0, 1) := by decide +kernel
theorem dX13_nots_8 : decode cX13_nots 8 = .ok (.getfield 86, 3) := by decide +kernel
theorem dX13_nots_11 : decode cX13_nots 11 = .ok (.aload_n 0, 1) := by decide +kernel
theorem dX13_nots_12 : decode cX13_nots 12 = .ok (.getfield 447, 3) := by decide +kernel
theorem dX13_nots_15 : decode cX13_nots 15 = .ok (.iconst 1, 1) := by decide +kernel
theorem dX13_nots_16 : decode cX13_nots 16 = .ok (.isub, 1) := by decide +kernel
theorem dX13_nots_17 : decode cX13_nots 17 = .ok (.iaload, 1) := by decide +kernel
theorem dX13_nots_18 : decode cX13_nots 18 = .ok (.bipush 20, 2) := by decide +kernel
theorem dX13_nots_20 : decode cX13_nots 20 = .ok (.if_icmp .ne 34, 3) := by decide +kernel
theorem dX13_nots_23 : decode cX13_nots 23 = .ok (.aload_n 0, 1) := by decide +kernel
theorem dX13_nots_24 : decode cX13_nots 24 = .ok (.dup, 1) := by decide +kernel
theorem dX13_nots_25 : decode cX13_nots 25 = .ok (.getfield 447, 3) := by decide +kernel
theorem dX13_nots_28 : decode cX13_nots 28 = .ok (.iconst 1, 1) := by decide +kernel
theorem dX13_nots_29 : decode cX13_nots 29 = .ok (.isub, 1) := by decide +kernel
theorem dX13_nots_30 : decode cX13_nots 30 = .ok (.putfield 447, 3) := by decide +kernel
theorem dX13_nots_33 : decode cX13_nots 33 = .ok (.aload_n 0, 1) := by decide +kernel
theorem dX13_nots_34 : decode cX13_nots 34 = .ok (.dup, 1) := by decide +kernel
theorem dX13_nots_35 : decode cX13_nots 35 = .ok (.getfield 453, 3) := by decide +kernel
theorem dX13_nots_38 : decode cX13_nots 38 = .ok (.iconst 1, 1) := by decide +kernel
theorem dX13_nots_39 : decode cX13_nots 39 = .ok (.isub, 1) := by decide +kernel
theorem dX13_nots_40 : decode cX13_nots 40 = .ok (.putfield 453, 3) := by decide +kernel
theorem dX13_nots_43 : decode cX13_nots 43 = .ok (.aload_n 0, 1) := by decide +kernel
theorem dX13_nots_44 : decode cX13_nots 44 = .ok (.bipush 20, 2) := by decide +kernel
theorem dX13_nots_46 : decode cX13_nots 46 = .ok (.iconst 0, 1) := by decide +kernel
theorem dX13_nots_47 : decode cX13_nots 47 = .ok (.iconst 0, 1) := by decide +kernel
theorem dX13_nots_48 : decode cX13_nots 48 = .ok (.invokevirtual 450, 3) := by decide +kernel
theorem dX13_nots_51 : decode cX13_nots 51 = .ok (.goto (-51), 3) := by decide +kernel
theorem dX13_nots_54 : decode cX13_nots 54 = .ok (.return_, 1) := by decide +kernel
set_option maxRecDepth 100000 in
set_option maxHeartbeats 4000000 in
theorem wfX13_nots_0 {E : KE} {p : Program} {l : Launch} {e : Env} {s : State} {m : MethodId} {args : Array Value} {below : List Frame} {meth : Method} {c : Code} {q : MM} (C : mx_C E p m c cX13_nots 1 s args RX13 meth none)  (hT : E.1 = mt)   : ∀ (n : Nat) (M : MM) (H : Heap) (locs : List Loc) (ls : Array Slot), fX13_nots_0 n M = some q → mx_H E s M H locs → lv_has ls 1 [(0, .ref (E.2.1.2.1 0))] → W p l e (mx_rm 1) s m args below meth c H locs 0 0 (mx_Z E below args s none q) (F0 m 0 ls []) := by
  have hx := C.1.1
  have hb := C.1.2.1
  have hown := C.1.2.2.2.1
  have hts := C.1.2.2.2.2
  intro n
  induction n with
  | zero =>
    intro M H locs ls hf hM hl
    rw [fX13_nots_0] at hf
    cases hf
  | succ n ih =>
    intro M H locs ls hf hM hl
    rw [fX13_nots_0] at hf
    refine lv_aload_n hx hb dX13_nots_0 rfl (lv_at hl 0 rfl) ?_
    refine g13_447 C hT hM dX13_nots_1 ?_
    refine lv_if_le (tgt := 54) hx hb dX13_nots_4 (by decide) (fun hc4 => ?_) (fun hc4 => ?_)
    · replace hf := mx_ift hc4 hf
      exact mx_vret C hM hf dX13_nots_54
    · replace hf := mx_iff hc4 hf
      refine lv_aload_n hx hb dX13_nots_7 rfl (lv_at hl 0 rfl) ?_
      refine g13_86 C hT hM dX13_nots_8 ?_
      refine lv_aload_n hx hb dX13_nots_11 rfl (lv_at hl 0 rfl) ?_
      refine g13_447 C hT hM dX13_nots_12 ?_
      refine lv_iconst (v := (1 : Int32)) hx hb dX13_nots_15 (by decide) ?_
      refine lv_isub hx hb dX13_nots_16 ?_
      obtain ⟨hg17, hf⟩ := mx_gd hf
      refine mx_iald C hM (mt_17 hT) (mx_in_vp hg17) dX13_nots_17 ?_
      refine lv_bipush (v := (20 : Int32)) hx hb dX13_nots_18 (by decide) ?_
      refine lv_icmp_ne (tgt := 54) hx hb dX13_nots_20 (by decide) (fun hc20 => ?_) (fun hc20 => ?_)
      · replace hf := mx_iff hc20 hf
        exact mx_vret C hM hf dX13_nots_54
      · replace hf := mx_ift hc20 hf
        refine lv_aload_n hx hb dX13_nots_23 rfl (lv_at hl 0 rfl) ?_
        refine lv_dup hx hb dX13_nots_24 rfl ?_
        refine g13_447 C hT hM dX13_nots_25 ?_
        refine lv_iconst (v := (1 : Int32)) hx hb dX13_nots_28 (by decide) ?_
        refine lv_isub hx hb dX13_nots_29 ?_
        refine p13_447 C hT hM dX13_nots_30 (fun H locs hM => ?_)
        refine lv_aload_n hx hb dX13_nots_33 rfl (lv_at hl 0 rfl) ?_
        refine lv_dup hx hb dX13_nots_34 rfl ?_
        refine g13_453 C hT hM dX13_nots_35 ?_
        refine lv_iconst (v := (1 : Int32)) hx hb dX13_nots_38 (by decide) ?_
        refine lv_isub hx hb dX13_nots_39 ?_
        refine p13_453 C hT hM dX13_nots_40 (fun H locs hM => ?_)
        refine lv_aload_n hx hb dX13_nots_43 rfl (lv_at hl 0 rfl) ?_
        refine lv_bipush (v := (20 : Int32)) hx hb dX13_nots_44 (by decide) ?_
        refine lv_iconst (v := (0 : Int32)) hx hb dX13_nots_46 (by decide) ?_
        refine lv_iconst (v := (0 : Int32)) hx hb dX13_nots_47 (by decide) ?_
        obtain ⟨q48, hq48, hf⟩ := mx_bd hf
        refine mx_callV C hM hl.1 yo_X13_code (h' := 0) (by decide) qw_1966 qw_1968 qs_176 (ci := 13) (q := (RX13, TX13, 52)) rfl (mt_0 hT) (As := [.int (20 : Int32), .int (0 : Int32), .int (0 : Int32)]) (rest := []) (st1 := []) (kX13_code C.2.2.2.1 (20 : Int32) (0 : Int32) (0 : Int32) hT (mx_si (mx_si M 0 45 ((M.1 0 45) - (1 : Int32))) 0 46 (((mx_si M 0 45 ((M.1 0 45) - (1 : Int32))).1 0 46) - (1 : Int32))) hq48) rfl rfl rfl (Nat.le_of_ble_eq_true rfl) dX13_nots_48 (fun H locs hM => ?_)
        refine lv_goto (tgt := 0) hx hb dX13_nots_51 (by decide) ?_
        exact ih q48 _ _ _ hf hM (lv_sub hl [0] rfl)
set_option maxRecDepth 100000 in
set_option maxHeartbeats 4000000 in
theorem kX13_nots {E : KE} {l : Launch} (hE : mx_ok E)  (hT : E.1 = mt) (M : MM) {q : MM} (hf : fX13_nots M = some q) : mx_Met E l yX13_nots cX13_nots 1 none 1 [.ref (E.2.1.2.1 0)] M none q := by
  refine mx_enter hE (by decide) (Nat.le_of_ble_eq_true rfl) ?_
  intro p e s m below meth c C hM hn ls hl
  have hx := C.1.1
  have hb := C.1.2.1
  have hown := C.1.2.2.2.1
  have hts := C.1.2.2.2.2
  have hl : lv_has ls 1 [(0, .ref (E.2.1.2.1 0))] := hl
  rw [fX13_nots] at hf
  exact wfX13_nots_0 C hT mx_fu M _ _ _ hf hM (lv_sub hl [0] rfl)
theorem dX13_leafOf_0 : decode cX13_leafOf 0 = .ok (.aload_n 0, 1) := by decide +kernel
theorem dX13_leafOf_1 : decode cX13_leafOf 1 = .ok (.ldc2_w 130, 3) := by decide +kernel
theorem dX13_leafOf_4 : decode cX13_leafOf 4 = .ok (.invokevirtual 224, 3) := by decide +kernel
theorem dX13_leafOf_7 : decode cX13_leafOf 7 = .ok (.ifCond .eq 7, 3) := by decide +kernel
theorem dX13_leafOf_10 : decode cX13_leafOf 10 = .ok (.iconst 0, 1) := by decide +kernel
theorem dX13_leafOf_11 : decode cX13_leafOf 11 = .ok (.goto 119, 3) := by decide +kernel
theorem dX13_leafOf_14 : decode cX13_leafOf 14 = .ok (.aload_n 0, 1) := by decide +kernel
theorem dX13_leafOf_15 : decode cX13_leafOf 15 = .ok (.ldc2_w 132, 3) := by decide +kernel
theorem dX13_leafOf_18 : decode cX13_leafOf 18 = .ok (.invokevirtual 224, 3) := by decide +kernel
theorem dX13_leafOf_21 : decode cX13_leafOf 21 = .ok (.ifCond .eq 7, 3) := by decide +kernel
theorem dX13_leafOf_24 : decode cX13_leafOf 24 = .ok (.iconst 1, 1) := by decide +kernel
theorem dX13_leafOf_25 : decode cX13_leafOf 25 = .ok (.goto 105, 3) := by decide +kernel
theorem dX13_leafOf_28 : decode cX13_leafOf 28 = .ok (.aload_n 0, 1) := by decide +kernel
theorem dX13_leafOf_29 : decode cX13_leafOf 29 = .ok (.ldc2_w 134, 3) := by decide +kernel
theorem dX13_leafOf_32 : decode cX13_leafOf 32 = .ok (.invokevirtual 224, 3) := by decide +kernel
theorem dX13_leafOf_35 : decode cX13_leafOf 35 = .ok (.ifCond .eq 7, 3) := by decide +kernel
theorem dX13_leafOf_38 : decode cX13_leafOf 38 = .ok (.iconst 2, 1) := by decide +kernel
theorem dX13_leafOf_39 : decode cX13_leafOf 39 = .ok (.goto 91, 3) := by decide +kernel
theorem dX13_leafOf_42 : decode cX13_leafOf 42 = .ok (.aload_n 0, 1) := by decide +kernel
theorem dX13_leafOf_43 : decode cX13_leafOf 43 = .ok (.ldc2_w 136, 3) := by decide +kernel
theorem dX13_leafOf_46 : decode cX13_leafOf 46 = .ok (.invokevirtual 224, 3) := by decide +kernel
theorem dX13_leafOf_49 : decode cX13_leafOf 49 = .ok (.ifCond .eq 7, 3) := by decide +kernel
theorem dX13_leafOf_52 : decode cX13_leafOf 52 = .ok (.iconst 3, 1) := by decide +kernel
theorem dX13_leafOf_53 : decode cX13_leafOf 53 = .ok (.goto 77, 3) := by decide +kernel
theorem dX13_leafOf_56 : decode cX13_leafOf 56 = .ok (.aload_n 0, 1) := by decide +kernel
theorem dX13_leafOf_57 : decode cX13_leafOf 57 = .ok (.ldc2_w 138, 3) := by decide +kernel
theorem dX13_leafOf_60 : decode cX13_leafOf 60 = .ok (.invokevirtual 224, 3) := by decide +kernel
theorem dX13_leafOf_63 : decode cX13_leafOf 63 = .ok (.ifCond .eq 7, 3) := by decide +kernel
theorem dX13_leafOf_66 : decode cX13_leafOf 66 = .ok (.iconst 4, 1) := by decide +kernel
theorem dX13_leafOf_67 : decode cX13_leafOf 67 = .ok (.goto 63, 3) := by decide +kernel
theorem dX13_leafOf_70 : decode cX13_leafOf 70 = .ok (.aload_n 0, 1) := by decide +kernel
theorem dX13_leafOf_71 : decode cX13_leafOf 71 = .ok (.ldc2_w 140, 3) := by decide +kernel
theorem dX13_leafOf_74 : decode cX13_leafOf 74 = .ok (.invokevirtual 224, 3) := by decide +kernel
theorem dX13_leafOf_77 : decode cX13_leafOf 77 = .ok (.ifCond .eq 7, 3) := by decide +kernel
theorem dX13_leafOf_80 : decode cX13_leafOf 80 = .ok (.iconst 5, 1) := by decide +kernel
theorem dX13_leafOf_81 : decode cX13_leafOf 81 = .ok (.goto 49, 3) := by decide +kernel
theorem dX13_leafOf_84 : decode cX13_leafOf 84 = .ok (.aload_n 0, 1) := by decide +kernel
theorem dX13_leafOf_85 : decode cX13_leafOf 85 = .ok (.ldc2_w 142, 3) := by decide +kernel
theorem dX13_leafOf_88 : decode cX13_leafOf 88 = .ok (.invokevirtual 224, 3) := by decide +kernel
theorem dX13_leafOf_91 : decode cX13_leafOf 91 = .ok (.ifCond .eq 8, 3) := by decide +kernel
theorem dX13_leafOf_94 : decode cX13_leafOf 94 = .ok (.bipush 6, 2) := by decide +kernel
theorem dX13_leafOf_96 : decode cX13_leafOf 96 = .ok (.goto 34, 3) := by decide +kernel
theorem dX13_leafOf_99 : decode cX13_leafOf 99 = .ok (.aload_n 0, 1) := by decide +kernel
theorem dX13_leafOf_100 : decode cX13_leafOf 100 = .ok (.ldc2_w 144, 3) := by decide +kernel
theorem dX13_leafOf_103 : decode cX13_leafOf 103 = .ok (.invokevirtual 224, 3) := by decide +kernel
theorem dX13_leafOf_106 : decode cX13_leafOf 106 = .ok (.ifCond .eq 8, 3) := by decide +kernel
theorem dX13_leafOf_109 : decode cX13_leafOf 109 = .ok (.bipush 7, 2) := by decide +kernel
theorem dX13_leafOf_111 : decode cX13_leafOf 111 = .ok (.goto 19, 3) := by decide +kernel
theorem dX13_leafOf_114 : decode cX13_leafOf 114 = .ok (.aload_n 0, 1) := by decide +kernel
theorem dX13_leafOf_115 : decode cX13_leafOf 115 = .ok (.ldc2_w 146, 3) := by decide +kernel
theorem dX13_leafOf_118 : decode cX13_leafOf 118 = .ok (.invokevirtual 224, 3) := by decide +kernel
theorem dX13_leafOf_121 : decode cX13_leafOf 121 = .ok (.ifCond .eq 8, 3) := by decide +kernel
theorem dX13_leafOf_124 : decode cX13_leafOf 124 = .ok (.bipush 8, 2) := by decide +kernel
theorem dX13_leafOf_126 : decode cX13_leafOf 126 = .ok (.goto 4, 3) := by decide +kernel
theorem dX13_leafOf_129 : decode cX13_leafOf 129 = .ok (.iconst (-1), 1) := by decide +kernel
theorem dX13_leafOf_130 : decode cX13_leafOf 130 = .ok (.ireturn, 1) := by decide +kernel
set_option maxRecDepth 100000 in
set_option maxHeartbeats 4000000 in
theorem kX13_leafOf {E : KE} {l : Launch} (hE : mx_ok E)  (hT : E.1 = mt) (M : MM) {q : Int32} (hf : fX13_leafOf M = some q) : mx_Met E l yX13_leafOf cX13_leafOf 1 (some .int) 1 [.ref (E.2.1.2.1 0)] M (some (.int q)) M := by
  refine mx_enter hE (by decide) (Nat.le_of_ble_eq_true rfl) ?_
  intro p e s m below meth c C hM hn ls hl
  have hx := C.1.1
  have hb := C.1.2.1
  have hown := C.1.2.2.2.1
  have hts := C.1.2.2.2.2
  have hl : lv_has ls 1 [(0, .ref (E.2.1.2.1 0))] := hl
  rw [fX13_leafOf] at hf
  refine lv_aload_n hx hb dX13_leafOf_0 rfl (lv_at hl 0 rfl) ?_
  refine lv_ldc2 (v := (125797149402468)) hx hb hown (hts _ qw_1380) dX13_leafOf_1 ?_
  obtain ⟨q4, hq4, hf⟩ := mx_bd hf
  refine mx_callV C hM hl.1 yo_X13_isWord (h' := 0) (by decide) qw_1576 qw_1578 qs_116 (ci := 13) (q := (RX13, TX13, 52)) rfl (mt_0 hT) (As := [.long (125797149402468 : Int64)]) (rest := []) (st1 := [.int (mx_b q4)]) (kX13_isWord C.2.2.2.1 (125797149402468 : Int64) hT M hq4) rfl rfl rfl (Nat.le_of_ble_eq_true rfl) dX13_leafOf_4 (fun H locs hM => ?_)
  refine lv_if_eq (tgt := 14) hx hb dX13_leafOf_7 (by decide) (fun hc7 => ?_) (fun hc7 => ?_)
  · replace hf := mx_ift hc7 hf
    refine lv_aload_n hx hb dX13_leafOf_14 rfl (lv_at hl 0 rfl) ?_
    refine lv_ldc2 (v := (448311357561)) hx hb hown (hts _ qw_1381) dX13_leafOf_15 ?_
    obtain ⟨q18, hq18, hf⟩ := mx_bd hf
    refine mx_callV C hM hl.1 yo_X13_isWord (h' := 0) (by decide) qw_1576 qw_1578 qs_116 (ci := 13) (q := (RX13, TX13, 52)) rfl (mt_0 hT) (As := [.long (448311357561 : Int64)]) (rest := []) (st1 := [.int (mx_b q18)]) (kX13_isWord C.2.2.2.1 (448311357561 : Int64) hT M hq18) rfl rfl rfl (Nat.le_of_ble_eq_true rfl) dX13_leafOf_18 (fun H locs hM => ?_)
    refine lv_if_eq (tgt := 28) hx hb dX13_leafOf_21 (by decide) (fun hc21 => ?_) (fun hc21 => ?_)
    · replace hf := mx_ift hc21 hf
      refine lv_aload_n hx hb dX13_leafOf_28 rfl (lv_at hl 0 rfl) ?_
      refine lv_ldc2 (v := (1650553445)) hx hb hown (hts _ qw_1382) dX13_leafOf_29 ?_
      obtain ⟨q32, hq32, hf⟩ := mx_bd hf
      refine mx_callV C hM hl.1 yo_X13_isWord (h' := 0) (by decide) qw_1576 qw_1578 qs_116 (ci := 13) (q := (RX13, TX13, 52)) rfl (mt_0 hT) (As := [.long (1650553445 : Int64)]) (rest := []) (st1 := [.int (mx_b q32)]) (kX13_isWord C.2.2.2.1 (1650553445 : Int64) hT M hq32) rfl rfl rfl (Nat.le_of_ble_eq_true rfl) dX13_leafOf_32 (fun H locs hM => ?_)
      refine lv_if_eq (tgt := 42) hx hb dX13_leafOf_35 (by decide) (fun hc35 => ?_) (fun hc35 => ?_)
      · replace hf := mx_ift hc35 hf
        refine lv_aload_n hx hb dX13_leafOf_42 rfl (lv_at hl 0 rfl) ?_
        refine lv_ldc2 (v := (6840691)) hx hb hown (hts _ qw_1383) dX13_leafOf_43 ?_
        obtain ⟨q46, hq46, hf⟩ := mx_bd hf
        refine mx_callV C hM hl.1 yo_X13_isWord (h' := 0) (by decide) qw_1576 qw_1578 qs_116 (ci := 13) (q := (RX13, TX13, 52)) rfl (mt_0 hT) (As := [.long (6840691 : Int64)]) (rest := []) (st1 := [.int (mx_b q46)]) (kX13_isWord C.2.2.2.1 (6840691 : Int64) hT M hq46) rfl rfl rfl (Nat.le_of_ble_eq_true rfl) dX13_leafOf_46 (fun H locs hM => ?_)
        refine lv_if_eq (tgt := 56) hx hb dX13_leafOf_49 (by decide) (fun hc49 => ?_) (fun hc49 => ?_)
        · replace hf := mx_ift hc49 hf
          refine lv_aload_n hx hb dX13_leafOf_56 rfl (lv_at hl 0 rfl) ?_
          refine lv_ldc2 (v := (25209)) hx hb hown (hts _ qw_1384) dX13_leafOf_57 ?_
          obtain ⟨q60, hq60, hf⟩ := mx_bd hf
          refine mx_callV C hM hl.1 yo_X13_isWord (h' := 0) (by decide) qw_1576 qw_1578 qs_116 (ci := 13) (q := (RX13, TX13, 52)) rfl (mt_0 hT) (As := [.long (25209 : Int64)]) (rest := []) (st1 := [.int (mx_b q60)]) (kX13_isWord C.2.2.2.1 (25209 : Int64) hT M hq60) rfl rfl rfl (Nat.le_of_ble_eq_true rfl) dX13_leafOf_60 (fun H locs hM => ?_)
          refine lv_if_eq (tgt := 70) hx hb dX13_leafOf_63 (by decide) (fun hc63 => ?_) (fun hc63 => ?_)
          · replace hf := mx_ift hc63 hf
            refine lv_aload_n hx hb dX13_leafOf_70 rfl (lv_at hl 0 rfl) ?_
            refine lv_ldc2 (v := (461262647411)) hx hb hown (hts _ qw_1385) dX13_leafOf_71 ?_
            obtain ⟨q74, hq74, hf⟩ := mx_bd hf
            refine mx_callV C hM hl.1 yo_X13_isWord (h' := 0) (by decide) qw_1576 qw_1578 qs_116 (ci := 13) (q := (RX13, TX13, 52)) rfl (mt_0 hT) (As := [.long (461262647411 : Int64)]) (rest := []) (st1 := [.int (mx_b q74)]) (kX13_isWord C.2.2.2.1 (461262647411 : Int64) hT M hq74) rfl rfl rfl (Nat.le_of_ble_eq_true rfl) dX13_leafOf_74 (fun H locs hM => ?_)
            refine lv_if_eq (tgt := 84) hx hb dX13_leafOf_77 (by decide) (fun hc77 => ?_) (fun hc77 => ?_)
            · replace hf := mx_ift hc77 hf
              refine lv_aload_n hx hb dX13_leafOf_84 rfl (lv_at hl 0 rfl) ?_
              refine lv_ldc2 (v := (495874044019)) hx hb hown (hts _ qw_1386) dX13_leafOf_85 ?_
              obtain ⟨q88, hq88, hf⟩ := mx_bd hf
              refine mx_callV C hM hl.1 yo_X13_isWord (h' := 0) (by decide) qw_1576 qw_1578 qs_116 (ci := 13) (q := (RX13, TX13, 52)) rfl (mt_0 hT) (As := [.long (495874044019 : Int64)]) (rest := []) (st1 := [.int (mx_b q88)]) (kX13_isWord C.2.2.2.1 (495874044019 : Int64) hT M hq88) rfl rfl rfl (Nat.le_of_ble_eq_true rfl) dX13_leafOf_88 (fun H locs hM => ?_)
              refine lv_if_eq (tgt := 99) hx hb dX13_leafOf_91 (by decide) (fun hc91 => ?_) (fun hc91 => ?_)
              · replace hf := mx_ift hc91 hf
                refine lv_aload_n hx hb dX13_leafOf_99 rfl (lv_at hl 0 rfl) ?_
                refine lv_ldc2 (v := (112603009869170)) hx hb hown (hts _ qw_1387) dX13_leafOf_100 ?_
                obtain ⟨q103, hq103, hf⟩ := mx_bd hf
                refine mx_callV C hM hl.1 yo_X13_isWord (h' := 0) (by decide) qw_1576 qw_1578 qs_116 (ci := 13) (q := (RX13, TX13, 52)) rfl (mt_0 hT) (As := [.long (112603009869170 : Int64)]) (rest := []) (st1 := [.int (mx_b q103)]) (kX13_isWord C.2.2.2.1 (112603009869170 : Int64) hT M hq103) rfl rfl rfl (Nat.le_of_ble_eq_true rfl) dX13_leafOf_103 (fun H locs hM => ?_)
                refine lv_if_eq (tgt := 114) hx hb dX13_leafOf_106 (by decide) (fun hc106 => ?_) (fun hc106 => ?_)
                · replace hf := mx_ift hc106 hf
                  refine lv_aload_n hx hb dX13_leafOf_114 rfl (lv_at hl 0 rfl) ?_
                  refine lv_ldc2 (v := (121450625394034)) hx hb hown (hts _ qw_1388) dX13_leafOf_115 ?_
                  obtain ⟨q118, hq118, hf⟩ := mx_bd hf
                  refine mx_callV C hM hl.1 yo_X13_isWord (h' := 0) (by decide) qw_1576 qw_1578 qs_116 (ci := 13) (q := (RX13, TX13, 52)) rfl (mt_0 hT) (As := [.long (121450625394034 : Int64)]) (rest := []) (st1 := [.int (mx_b q118)]) (kX13_isWord C.2.2.2.1 (121450625394034 : Int64) hT M hq118) rfl rfl rfl (Nat.le_of_ble_eq_true rfl) dX13_leafOf_118 (fun H locs hM => ?_)
                  refine lv_if_eq (tgt := 129) hx hb dX13_leafOf_121 (by decide) (fun hc121 => ?_) (fun hc121 => ?_)
                  · replace hf := mx_ift hc121 hf
                    refine lv_iconst (v := (-1 : Int32)) hx hb dX13_leafOf_129 (by decide) ?_
                    exact mx_iretR C hM hf dX13_leafOf_130
                  · replace hf := mx_iff hc121 hf
                    refine lv_bipush (v := (8 : Int32)) hx hb dX13_leafOf_124 (by decide) ?_
                    refine lv_goto (tgt := 130) hx hb dX13_leafOf_126 (by decide) ?_
                    exact mx_iretR C hM hf dX13_leafOf_130
                · replace hf := mx_iff hc106 hf
                  refine lv_bipush (v := (7 : Int32)) hx hb dX13_leafOf_109 (by decide) ?_
                  refine lv_goto (tgt := 130) hx hb dX13_leafOf_111 (by decide) ?_
                  exact mx_iretR C hM hf dX13_leafOf_130
              · replace hf := mx_iff hc91 hf
                refine lv_bipush (v := (6 : Int32)) hx hb dX13_leafOf_94 (by decide) ?_
                refine lv_goto (tgt := 130) hx hb dX13_leafOf_96 (by decide) ?_
                exact mx_iretR C hM hf dX13_leafOf_130
            · replace hf := mx_iff hc77 hf
              refine lv_iconst (v := (5 : Int32)) hx hb dX13_leafOf_80 (by decide) ?_
              refine lv_goto (tgt := 130) hx hb dX13_leafOf_81 (by decide) ?_
              exact mx_iretR C hM hf dX13_leafOf_130
          · replace hf := mx_iff hc63 hf
            refine lv_iconst (v := (4 : Int32)) hx hb dX13_leafOf_66 (by decide) ?_
            refine lv_goto (tgt := 130) hx hb dX13_leafOf_67 (by decide) ?_
            exact mx_iretR C hM hf dX13_leafOf_130
        · replace hf := mx_iff hc49 hf
          refine lv_iconst (v := (3 : Int32)) hx hb dX13_leafOf_52 (by decide) ?_
          refine lv_goto (tgt := 130) hx hb dX13_leafOf_53 (by decide) ?_
          exact mx_iretR C hM hf dX13_leafOf_130
      · replace hf := mx_iff hc35 hf
        refine lv_iconst (v := (2 : Int32)) hx hb dX13_leafOf_38 (by decide) ?_
        refine lv_goto (tgt := 130) hx hb dX13_leafOf_39 (by decide) ?_
        exact mx_iretR C hM hf dX13_leafOf_130
    · replace hf := mx_iff hc21 hf
      refine lv_iconst (v := (1 : Int32)) hx hb dX13_leafOf_24 (by decide) ?_
      refine lv_goto (tgt := 130) hx hb dX13_leafOf_25 (by decide) ?_
      exact mx_iretR C hM hf dX13_leafOf_130
  · replace hf := mx_iff hc7 hf
    refine lv_iconst (v := (0 : Int32)) hx hb dX13_leafOf_10 (by decide) ?_
    refine lv_goto (tgt := 130) hx hb dX13_leafOf_11 (by decide) ?_
    exact mx_iretR C hM hf dX13_leafOf_130
theorem dX13_operand_0 : decode cX13_operand 0 = .ok (.aload_n 0, 1) := by decide +kernel
theorem dX13_operand_1 : decode cX13_operand 1 = .ok (.ldc2_w 128, 3) := by decide +kernel
theorem dX13_operand_4 : decode cX13_operand 4 = .ok (.invokevirtual 224, 3) := by decide +kernel
theorem dX13_operand_7 : decode cX13_operand 7 = .ok (.istore_n 1, 1) := by decide +kernel
theorem dX13_operand_8 : decode cX13_operand 8 = .ok (.aload_n 0, 1) := by decide +kernel
theorem dX13_operand_9 : decode cX13_operand 9 = .ok (.bipush 40, 2) := by decide +kernel
theorem dX13_operand_11 : decode cX13_operand 11 = .ok (.invokevirtual 184, 3) := by decide +kernel
theorem dX13_operand_14 : decode cX13_operand 14 = .ok (.istore_n 2, 1) := by decide +kernel
theorem dX13_operand_15 : decode cX13_operand 15 = .ok (.aload_n 0, 1) := by decide +kernel
theorem dX13_operand_16 : decode cX13_operand 16 = .ok (.invokevirtual 456, 3) := by decide +kernel
theorem dX13_operand_19 : decode cX13_operand 19 = .ok (.istore_n 3, 1) := by decide +kernel
theorem dX13_operand_20 : decode cX13_operand 20 = .ok (.iload_n 1, 1) := by decide +kernel
theorem dX13_operand_21 : decode cX13_operand 21 = .ok (.ifCond .ne 17, 3) := by decide +kernel
theorem dX13_operand_24 : decode cX13_operand 24 = .ok (.iload_n 2, 1) := by decide +kernel
theorem dX13_operand_25 : decode cX13_operand 25 = .ok (.ifCond .ne 13, 3) := by decide +kernel
theorem dX13_operand_28 : decode cX13_operand 28 = .ok (.iload_n 3, 1) := by decide +kernel
theorem dX13_operand_29 : decode cX13_operand 29 = .ok (.ifCond .ge 9, 3) := by decide +kernel
theorem dX13_operand_32 : decode cX13_operand 32 = .ok (.aload_n 0, 1) := by decide +kernel
theorem dX13_operand_33 : decode cX13_operand 33 = .ok (.iconst 1, 1) := by decide +kernel
theorem dX13_operand_34 : decode cX13_operand 34 = .ok (.invokevirtual 187, 3) := by decide +kernel
theorem dX13_operand_37 : decode cX13_operand 37 = .ok (.ireturn, 1) := by decide +kernel
theorem dX13_operand_38 : decode cX13_operand 38 = .ok (.aload_n 0, 1) := by decide +kernel
theorem dX13_operand_39 : decode cX13_operand 39 = .ok (.getfield 459, 3) := by decide +kernel
theorem dX13_operand_42 : decode cX13_operand 42 = .ok (.bipush 20, 2) := by decide +kernel
theorem dX13_operand_44 : decode cX13_operand 44 = .ok (.if_icmp .eq 12, 3) := by decide +kernel
theorem dX13_operand_47 : decode cX13_operand 47 = .ok (.aload_n 0, 1) := by decide +kernel
theorem dX13_operand_48 : decode cX13_operand 48 = .ok (.getfield 453, 3) := by decide +kernel
theorem dX13_operand_51 : decode cX13_operand 51 = .ok (.bipush 8, 2) := by decide +kernel
theorem dX13_operand_53 : decode cX13_operand 53 = .ok (.if_icmp .le 9, 3) := by decide +kernel
theorem dX13_operand_56 : decode cX13_operand 56 = .ok (.aload_n 0, 1) := by decide +kernel
theorem dX13_operand_57 : decode cX13_operand 57 = .ok (.iconst 4, 1) := by decide +kernel
theorem dX13_operand_58 : decode cX13_operand 58 = .ok (.invokevirtual 187, 3) := by decide +kernel
theorem dX13_operand_61 : decode cX13_operand 61 = .ok (.ireturn, 1) := by decide +kernel
theorem dX13_operand_62 : decode cX13_operand 62 = .ok (.aload_n 0, 1) := by decide +kernel
theorem dX13_operand_63 : decode cX13_operand 63 = .ok (.dup, 1) := by decide +kernel
theorem dX13_operand_64 : decode cX13_operand 64 = .ok (.getfield 459, 3) := by decide +kernel
theorem dX13_operand_67 : decode cX13_operand 67 = .ok (.iconst 1, 1) := by decide +kernel
theorem dX13_operand_68 : decode cX13_operand 68 = .ok (.iadd, 1) := by decide +kernel
theorem dX13_operand_69 : decode cX13_operand 69 = .ok (.putfield 459, 3) := by decide +kernel
theorem dX13_operand_72 : decode cX13_operand 72 = .ok (.aload_n 0, 1) := by decide +kernel
theorem dX13_operand_73 : decode cX13_operand 73 = .ok (.invokevirtual 190, 3) := by decide +kernel
theorem dX13_operand_76 : decode cX13_operand 76 = .ok (.iload_n 1, 1) := by decide +kernel
theorem dX13_operand_77 : decode cX13_operand 77 = .ok (.ifCond .ne 7, 3) := by decide +kernel
theorem dX13_operand_80 : decode cX13_operand 80 = .ok (.iload_n 2, 1) := by decide +kernel
theorem dX13_operand_81 : decode cX13_operand 81 = .ok (.ifCond .eq 45, 3) := by decide +kernel
theorem dX13_operand_84 : decode cX13_operand 84 = .ok (.aload_n 0, 1) := by decide +kernel
theorem dX13_operand_85 : decode cX13_operand 85 = .ok (.getfield 86, 3) := by decide +kernel
theorem dX13_operand_88 : decode cX13_operand 88 = .ok (.aload_n 0, 1) := by decide +kernel
theorem dX13_operand_89 : decode cX13_operand 89 = .ok (.getfield 447, 3) := by decide +kernel
theorem dX13_operand_92 : decode cX13_operand 92 = .ok (.iload_n 1, 1) := by decide +kernel
theorem dX13_operand_93 : decode cX13_operand 93 = .ok (.ifCond .eq 8, 3) := by decide +kernel
theorem dX13_operand_96 : decode cX13_operand 96 = .ok (.bipush 20, 2) := by decide +kernel
theorem dX13_operand_98 : decode cX13_operand 98 = .ok (.goto 5, 3) := by decide +kernel
theorem dX13_operand_101 : decode cX13_operand 101 = .ok (.bipush 23, 2) := by decide +kernel
theorem dX13_operand_103 : decode cX13_operand 103 = .ok (.iastore, 1) := by decide +kernel
theorem dX13_operand_104 : decode cX13_operand 104 = .ok (.aload_n 0, 1) := by decide +kernel
theorem dX13_operand_105 : decode cX13_operand 105 = .ok (.dup, 1) := by decide +kernel
theorem dX13_operand_106 : decode cX13_operand 106 = .ok (.getfield 447, 3) := by decide +kernel
theorem dX13_operand_109 : decode cX13_operand 109 = .ok (.iconst 1, 1) := by decide +kernel
theorem dX13_operand_110 : decode cX13_operand 110 = .ok (.iadd, 1) := by decide +kernel
theorem dX13_operand_111 : decode cX13_operand 111 = .ok (.putfield 447, 3) := by decide +kernel
theorem dX13_operand_114 : decode cX13_operand 114 = .ok (.aload_n 0, 1) := by decide +kernel
theorem dX13_operand_115 : decode cX13_operand 115 = .ok (.dup, 1) := by decide +kernel
theorem dX13_operand_116 : decode cX13_operand 116 = .ok (.getfield 453, 3) := by decide +kernel
theorem dX13_operand_119 : decode cX13_operand 119 = .ok (.iconst 1, 1) := by decide +kernel
theorem dX13_operand_120 : decode cX13_operand 120 = .ok (.iadd, 1) := by decide +kernel
theorem dX13_operand_121 : decode cX13_operand 121 = .ok (.putfield 453, 3) := by decide +kernel
theorem dX13_operand_124 : decode cX13_operand 124 = .ok (.iconst 1, 1) := by decide +kernel
theorem dX13_operand_125 : decode cX13_operand 125 = .ok (.ireturn, 1) := by decide +kernel
theorem dX13_operand_126 : decode cX13_operand 126 = .ok (.aload_n 0, 1) := by decide +kernel
theorem dX13_operand_127 : decode cX13_operand 127 = .ok (.iconst 1, 1) := by decide +kernel
theorem dX13_operand_128 : decode cX13_operand 128 = .ok (.putfield 462, 3) := by decide +kernel
theorem dX13_operand_131 : decode cX13_operand 131 = .ok (.iload_n 3, 1) := by decide +kernel
theorem dX13_operand_132 : decode cX13_operand 132 = .ok (.iconst 3, 1) := by decide +kernel
theorem dX13_operand_133 : decode cX13_operand 133 = .ok (.if_icmp .ge 12, 3) := by decide +kernel
theorem dX13_operand_136 : decode cX13_operand 136 = .ok (.aload_n 0, 1) := by decide +kernel
theorem dX13_operand_137 : decode cX13_operand 137 = .ok (.iload_n 3, 1) := by decide +kernel
theorem dX13_operand_138 : decode cX13_operand 138 = .ok (.iconst 0, 1) := by decide +kernel
theorem dX13_operand_139 : decode cX13_operand 139 = .ok (.iconst 0, 1) := by decide +kernel
theorem dX13_operand_140 : decode cX13_operand 140 = .ok (.invokevirtual 450, 3) := by decide +kernel
theorem dX13_operand_143 : decode cX13_operand 143 = .ok (.iconst 1, 1) := by decide +kernel
theorem dX13_operand_144 : decode cX13_operand 144 = .ok (.ireturn, 1) := by decide +kernel
theorem dX13_operand_145 : decode cX13_operand 145 = .ok (.iload_n 3, 1) := by decide +kernel
theorem dX13_operand_146 : decode cX13_operand 146 = .ok (.iconst 5, 1) := by decide +kernel
theorem dX13_operand_147 : decode cX13_operand 147 = .ok (.if_icmp .ge 59, 3) := by decide +kernel
theorem dX13_operand_150 : decode cX13_operand 150 = .ok (.iload_n 3, 1) := by decide +kernel
theorem dX13_operand_151 : decode cX13_operand 151 = .ok (.iconst 3, 1) := by decide +kernel
theorem dX13_operand_152 : decode cX13_operand 152 = .ok (.if_icmp .ne 18, 3) := by decide +kernel
theorem dX13_operand_155 : decode cX13_operand 155 = .ok (.aload_n 0, 1) := by decide +kernel
theorem dX13_operand_156 : decode cX13_operand 156 = .ok (.bipush 7, 2) := by decide +kernel
theorem dX13_operand_158 : decode cX13_operand 158 = .ok (.aload_n 0, 1) := by decide +kernel
theorem dX13_operand_159 : decode cX13_operand 159 = .ok (.getfield 33, 3) := by decide +kernel
theorem dX13_operand_162 : decode cX13_operand 162 = .ok (.iconst 1, 1) := by decide +kernel
theorem dX13_operand_163 : decode cX13_operand 163 = .ok (.iaload, 1) := by decide +kernel
theorem dX13_operand_164 : decode cX13_operand 164 = .ok (.invokevirtual 212, 3) := by decide +kernel
theorem dX13_operand_167 : decode cX13_operand 167 = .ok (.goto 14, 3) := by decide +kernel
theorem dX13_operand_170 : decode cX13_operand 170 = .ok (.aload_n 0, 1) := by decide +kernel
theorem dX13_operand_171 : decode cX13_operand 171 = .ok (.iconst 0, 1) := by decide +kernel
theorem dX13_operand_172 : decode cX13_operand 172 = .ok (.aload_n 0, 1) := by decide +kernel
theorem dX13_operand_173 : decode cX13_operand 173 = .ok (.getfield 33, 3) := by decide +kernel
theorem dX13_operand_176 : decode cX13_operand 176 = .ok (.iconst 0, 1) := by decide +kernel
theorem dX13_operand_177 : decode cX13_operand 177 = .ok (.iaload, 1) := by decide +kernel
theorem dX13_operand_178 : decode cX13_operand 178 = .ok (.invokevirtual 212, 3) := by decide +kernel
theorem dX13_operand_181 : decode cX13_operand 181 = .ok (.istore 4, 2) := by decide +kernel
theorem dX13_operand_183 : decode cX13_operand 183 = .ok (.iload 4, 2) := by decide +kernel
theorem dX13_operand_185 : decode cX13_operand 185 = .ok (.ifCond .ne 5, 3) := by decide +kernel
theorem dX13_operand_188 : decode cX13_operand 188 = .ok (.iconst 0, 1) := by decide +kernel
theorem dX13_operand_189 : decode cX13_operand 189 = .ok (.ireturn, 1) := by decide +kernel
theorem dX13_operand_190 : decode cX13_operand 190 = .ok (.aload_n 0, 1) := by decide +kernel
theorem dX13_operand_191 : decode cX13_operand 191 = .ok (.iload_n 3, 1) := by decide +kernel
theorem dX13_operand_192 : decode cX13_operand 192 = .ok (.iconst 0, 1) := by decide +kernel
theorem dX13_operand_193 : decode cX13_operand 193 = .ok (.aload_n 0, 1) := by decide +kernel
theorem dX13_operand_194 : decode cX13_operand 194 = .ok (.getfield 197, 3) := by decide +kernel
theorem dX13_operand_197 : decode cX13_operand 197 = .ok (.invokevirtual 450, 3) := by decide +kernel
theorem dX13_operand_200 : decode cX13_operand 200 = .ok (.aload_n 0, 1) := by decide +kernel
theorem dX13_operand_201 : decode cX13_operand 201 = .ok (.invokevirtual 190, 3) := by decide +kernel
theorem dX13_operand_204 : decode cX13_operand 204 = .ok (.iconst 1, 1) := by decide +kernel
theorem dX13_operand_205 : decode cX13_operand 205 = .ok (.ireturn, 1) := by decide +kernel
theorem dX13_operand_206 : decode cX13_operand 206 = .ok (.aload_n 0, 1) := by decide +kernel
theorem dX13_operand_207 : decode cX13_operand 207 = .ok (.getfield 161, 3) := by decide +kernel
theorem dX13_operand_210 : decode cX13_operand 210 = .ok (.iconst 3, 1) := by decide +kernel
theorem dX13_operand_211 : decode cX13_operand 211 = .ok (.if_icmp .ne 21, 3) := by decide +kernel
theorem dX13_operand_214 : decode cX13_operand 214 = .ok (.aload_n 0, 1) := by decide +kernel
theorem dX13_operand_215 : decode cX13_operand 215 = .ok (.getfield 171, 3) := by decide +kernel
theorem dX13_operand_218 : decode cX13_operand 218 = .ok (.bipush 60, 2) := by decide +kernel
theorem dX13_operand_220 : decode cX13_operand 220 = .ok (.if_icmp .lt 12, 3) := by decide +kernel
theorem dX13_operand_223 : decode cX13_operand 223 = .ok (.aload_n 0, 1) := by decide +kernel
theorem dX13_operand_224 : decode cX13_operand 224 = .ok (.getfield 171, 3) := by decide +kernel
theorem dX13_operand_227 : decode cX13_operand 227 = .ok (.bipush 62, 2) := by decide +kernel
theorem dX13_operand_229 : decode cX13_operand 229 = .ok (.if_icmp .le 9, 3) := by decide +kernel
theorem dX13_operand_232 : decode cX13_operand 232 = .ok (.aload_n 0, 1) := by decide +kernel
theorem dX13_operand_233 : decode cX13_operand 233 = .ok (.iconst 1, 1) := by decide +kernel
theorem dX13_operand_234 : decode cX13_operand 234 = .ok (.invokevirtual 187, 3) := by decide +kernel
theorem dX13_operand_237 : decode cX13_operand 237 = .ok (.ireturn, 1) := by decide +kernel
theorem dX13_operand_238 : decode cX13_operand 238 = .ok (.aload_n 0, 1) := by decide +kernel
theorem dX13_operand_239 : decode cX13_operand 239 = .ok (.getfield 171, 3) := by decide +kernel
theorem dX13_operand_242 : decode cX13_operand 242 = .ok (.istore 4, 2) := by decide +kernel
theorem dX13_operand_244 : decode cX13_operand 244 = .ok (.aload_n 0, 1) := by decide +kernel
theorem dX13_operand_245 : decode cX13_operand 245 = .ok (.invokevirtual 190, 3) := by decide +kernel
theorem dX13_operand_248 : decode cX13_operand 248 = .ok (.aload_n 0, 1) := by decide +kernel
theorem dX13_operand_249 : decode cX13_operand 249 = .ok (.getfield 161, 3) := by decide +kernel
theorem dX13_operand_252 : decode cX13_operand 252 = .ok (.iconst 2, 1) := by decide +kernel
theorem dX13_operand_253 : decode cX13_operand 253 = .ok (.if_icmp .eq 9, 3) := by decide +kernel
theorem dX13_operand_256 : decode cX13_operand 256 = .ok (.aload_n 0, 1) := by decide +kernel
theorem dX13_operand_257 : decode cX13_operand 257 = .ok (.iconst 1, 1) := by decide +kernel
theorem dX13_operand_258 : decode cX13_operand 258 = .ok (.invokevirtual 187, 3) := by decide +kernel
theorem dX13_operand_261 : decode cX13_operand 261 = .ok (.ireturn, 1) := by decide +kernel
theorem dX13_operand_262 : decode cX13_operand 262 = .ok (.aload_n 0, 1) := by decide +kernel
theorem dX13_operand_263 : decode cX13_operand 263 = .ok (.iload_n 3, 1) := by decide +kernel
theorem dX13_operand_264 : decode cX13_operand 264 = .ok (.iload 4, 2) := by decide +kernel
theorem dX13_operand_266 : decode cX13_operand 266 = .ok (.aload_n 0, 1) := by decide +kernel
theorem dX13_operand_267 : decode cX13_operand 267 = .ok (.getfield 171, 3) := by decide +kernel
theorem dX13_operand_270 : decode cX13_operand 270 = .ok (.invokevirtual 450, 3) := by decide +kernel
theorem dX13_operand_273 : decode cX13_operand 273 = .ok (.aload_n 0, 1) := by decide +kernel
theorem dX13_operand_274 : decode cX13_operand 274 = .ok (.invokevirtual 190, 3) := by decide +kernel
theorem dX13_operand_277 : decode cX13_operand 277 = .ok (.iconst 1, 1) := by decide +kernel
theorem dX13_operand_278 : decode cX13_operand 278 = .ok (.ireturn, 1) := by decide +kernel
set_option maxRecDepth 100000 in
set_option maxHeartbeats 4000000 in
theorem wfX13_operand_232 {E : KE} {p : Program} {l : Launch} {e : Env} {s : State} {m : MethodId} {args : Array Value} {below : List Frame} {meth : Method} {c : Code} {q : (Bool × MM)} (C : mx_C E p m c cX13_operand 5 s args RX13 meth (some .boolean))  (hT : E.1 = mt)   : ∀ (M : MM) (H : Heap) (locs : List Loc) (ls : Array Slot), fX13_operand_232 M = some q → mx_H E s M H locs → lv_has ls 5 [(0, .ref (E.2.1.2.1 0))] → W p l e (mx_rm 2) s m args below meth c H locs 0 0 (mx_Z E below args s (some (.int (mx_b q.1))) q.2) (F0 m 232 ls []) := by
  have hx := C.1.1
  have hb := C.1.2.1
  have hown := C.1.2.2.2.1
  have hts := C.1.2.2.2.2
  intro M H locs ls hf hM hl
  rw [fX13_operand_232] at hf
  refine lv_aload_n hx hb dX13_operand_232 rfl (lv_at hl 0 rfl) ?_
  refine lv_iconst (v := (1 : Int32)) hx hb dX13_operand_233 (by decide) ?_
  obtain ⟨q234, hq234, hf⟩ := mx_bd hf
  refine mx_callV C hM hl.1 yo_X13_bad (h' := 0) (by decide) qw_1584 qw_1586 qs_118 (ci := 13) (q := (RX13, TX13, 52)) rfl (mt_0 hT) (As := [.int (1 : Int32)]) (rest := []) (st1 := [.int (mx_b q234.1)]) (kX13_bad C.2.2.2.1 (1 : Int32) hT M hq234) rfl rfl rfl (Nat.le_of_ble_eq_true rfl) dX13_operand_234 (fun H locs hM => ?_)
  exact mx_zret C hM (b := q234.1) rfl hf dX13_operand_237
set_option maxRecDepth 100000 in
set_option maxHeartbeats 4000000 in
theorem wfX13_operand_181 {E : KE} {p : Program} {l : Launch} {e : Env} {s : State} {m : MethodId} {args : Array Value} {below : List Frame} {meth : Method} {c : Code} {q : (Bool × MM)} (C : mx_C E p m c cX13_operand 5 s args RX13 meth (some .boolean))  (hT : E.1 = mt)   : ∀ (i3 : Int32) (bs0 : Bool) (M : MM) (H : Heap) (locs : List Loc) (ls : Array Slot), fX13_operand_181 i3 bs0 M = some q → mx_H E s M H locs → lv_has ls 5 [(0, .ref (E.2.1.2.1 0)), (3, .int i3)] → W p l e (mx_rm 2) s m args below meth c H locs 0 0 (mx_Z E below args s (some (.int (mx_b q.1))) q.2) (F0 m 181 ls [.int (mx_b bs0)]) := by
  have hx := C.1.1
  have hb := C.1.2.1
  have hown := C.1.2.2.2.1
  have hts := C.1.2.2.2.2
  intro i3 bs0 M H locs ls hf hM hl
  rw [fX13_operand_181] at hf
  refine lv_istore (lv' := [(4, .int (mx_b bs0)), (0, .ref (E.2.1.2.1 0)), (3, .int i3)]) hx hb dX13_operand_181 hl (by decide) rfl (fun ls hl => ?_)
  refine lv_iload hx hb dX13_operand_183 (lv_at hl 0 rfl) ?_
  refine lv_if_ne (tgt := 190) hx hb dX13_operand_185 (by decide) (fun hc185 => ?_) (fun hc185 => ?_)
  · replace hf := mx_iff hc185 hf
    refine lv_aload_n hx hb dX13_operand_190 rfl (lv_at hl 1 rfl) ?_
    refine lv_iload_n hx hb dX13_operand_191 rfl (lv_at hl 2 rfl) ?_
    refine lv_iconst (v := (0 : Int32)) hx hb dX13_operand_192 (by decide) ?_
    refine lv_aload_n hx hb dX13_operand_193 rfl (lv_at hl 1 rfl) ?_
    refine g13_197 C hT hM dX13_operand_194 ?_
    obtain ⟨q197, hq197, hf⟩ := mx_bd hf
    refine mx_callV C hM hl.1 yo_X13_code (h' := 0) (by decide) qw_1966 qw_1968 qs_176 (ci := 13) (q := (RX13, TX13, 52)) rfl (mt_0 hT) (As := [.int i3, .int (0 : Int32), .int (M.1 0 18)]) (rest := []) (st1 := []) (kX13_code C.2.2.2.1 i3 (0 : Int32) (M.1 0 18) hT M hq197) rfl rfl rfl (Nat.le_of_ble_eq_true rfl) dX13_operand_197 (fun H locs hM => ?_)
    refine lv_aload_n hx hb dX13_operand_200 rfl (lv_at hl 1 rfl) ?_
    obtain ⟨q201, hq201, hf⟩ := mx_bd hf
    refine mx_callV C hM hl.1 yo_X13_next (h' := 1) (by decide) qw_1558 qw_1560 qs_113 (ci := 13) (q := (RX13, TX13, 52)) rfl (mt_0 hT) (As := []) (rest := []) (st1 := []) (kX13_next C.2.2.2.1  hT q197 hq201) rfl rfl rfl (Nat.le_of_ble_eq_true rfl) dX13_operand_201 (fun H locs hM => ?_)
    refine lv_iconst (v := (1 : Int32)) hx hb dX13_operand_204 (by decide) ?_
    exact mx_zret C hM (b := true) rfl hf dX13_operand_205
  · replace hf := mx_ift hc185 hf
    refine lv_iconst (v := (0 : Int32)) hx hb dX13_operand_188 (by decide) ?_
    exact mx_zret C hM (b := false) rfl hf dX13_operand_189
set_option maxRecDepth 100000 in
set_option maxHeartbeats 4000000 in
theorem wfX13_operand_103 {E : KE} {p : Program} {l : Launch} {e : Env} {s : State} {m : MethodId} {args : Array Value} {below : List Frame} {meth : Method} {c : Code} {q : (Bool × MM)} (C : mx_C E p m c cX13_operand 5 s args RX13 meth (some .boolean))  (hT : E.1 = mt)   : ∀ (is1 : Int32) (is2 : Int32) (M : MM) (H : Heap) (locs : List Loc) (ls : Array Slot), fX13_operand_103 is1 is2 M = some q → mx_H E s M H locs → lv_has ls 5 [(0, .ref (E.2.1.2.1 0))] → W p l e (mx_rm 2) s m args below meth c H locs 0 0 (mx_Z E below args s (some (.int (mx_b q.1))) q.2) (F0 m 103 ls [.int is2, .int is1, .ref (E.2.1.2.1 17)]) := by
  have hx := C.1.1
  have hb := C.1.2.1
  have hown := C.1.2.2.2.1
  have hts := C.1.2.2.2.2
  intro is1 is2 M H locs ls hf hM hl
  rw [fX13_operand_103] at hf
  obtain ⟨hg103, hf⟩ := mx_gd hf
  refine mx_iast C hM (mt_17 hT) (mx_in_vp hg103) dX13_operand_103 (fun H locs hM => ?_)
  refine lv_aload_n hx hb dX13_operand_104 rfl (lv_at hl 0 rfl) ?_
  refine lv_dup hx hb dX13_operand_105 rfl ?_
  refine g13_447 C hT hM dX13_operand_106 ?_
  refine lv_iconst (v := (1 : Int32)) hx hb dX13_operand_109 (by decide) ?_
  refine lv_iadd hx hb dX13_operand_110 ?_
  refine p13_447 C hT hM dX13_operand_111 (fun H locs hM => ?_)
  refine lv_aload_n hx hb dX13_operand_114 rfl (lv_at hl 0 rfl) ?_
  refine lv_dup hx hb dX13_operand_115 rfl ?_
  refine g13_453 C hT hM dX13_operand_116 ?_
  refine lv_iconst (v := (1 : Int32)) hx hb dX13_operand_119 (by decide) ?_
  refine lv_iadd hx hb dX13_operand_120 ?_
  refine p13_453 C hT hM dX13_operand_121 (fun H locs hM => ?_)
  refine lv_iconst (v := (1 : Int32)) hx hb dX13_operand_124 (by decide) ?_
  exact mx_zret C hM (b := true) rfl hf dX13_operand_125
set_option maxRecDepth 100000 in
set_option maxHeartbeats 4000000 in
theorem wfX13_operand_84 {E : KE} {p : Program} {l : Launch} {e : Env} {s : State} {m : MethodId} {args : Array Value} {below : List Frame} {meth : Method} {c : Code} {q : (Bool × MM)} (C : mx_C E p m c cX13_operand 5 s args RX13 meth (some .boolean))  (hT : E.1 = mt)   : ∀ (b1 : Bool) (M : MM) (H : Heap) (locs : List Loc) (ls : Array Slot), fX13_operand_84 b1 M = some q → mx_H E s M H locs → lv_has ls 5 [(0, .ref (E.2.1.2.1 0)), (1, .int (mx_b b1))] → W p l e (mx_rm 2) s m args below meth c H locs 0 0 (mx_Z E below args s (some (.int (mx_b q.1))) q.2) (F0 m 84 ls []) := by
  have hx := C.1.1
  have hb := C.1.2.1
  have hown := C.1.2.2.2.1
  have hts := C.1.2.2.2.2
  intro b1 M H locs ls hf hM hl
  rw [fX13_operand_84] at hf
  refine lv_aload_n hx hb dX13_operand_84 rfl (lv_at hl 0 rfl) ?_
  refine g13_86 C hT hM dX13_operand_85 ?_
  refine lv_aload_n hx hb dX13_operand_88 rfl (lv_at hl 0 rfl) ?_
  refine g13_447 C hT hM dX13_operand_89 ?_
  refine lv_iload_n hx hb dX13_operand_92 rfl (lv_at hl 1 rfl) ?_
  refine lv_if_eq (tgt := 101) hx hb dX13_operand_93 (by decide) (fun hc93 => ?_) (fun hc93 => ?_)
  · replace hf := mx_ift hc93 hf
    refine lv_bipush (v := (23 : Int32)) hx hb dX13_operand_101 (by decide) ?_
    exact wfX13_operand_103 C hT (M.1 0 45) (23 : Int32) M _ _ _ hf hM (lv_sub hl [0] rfl)
  · replace hf := mx_iff hc93 hf
    refine lv_bipush (v := (20 : Int32)) hx hb dX13_operand_96 (by decide) ?_
    refine lv_goto (tgt := 103) hx hb dX13_operand_98 (by decide) ?_
    exact wfX13_operand_103 C hT (M.1 0 45) (20 : Int32) M _ _ _ hf hM (lv_sub hl [0] rfl)
set_option maxRecDepth 100000 in
set_option maxHeartbeats 4000000 in
theorem wfX13_operand_56 {E : KE} {p : Program} {l : Launch} {e : Env} {s : State} {m : MethodId} {args : Array Value} {below : List Frame} {meth : Method} {c : Code} {q : (Bool × MM)} (C : mx_C E p m c cX13_operand 5 s args RX13 meth (some .boolean))  (hT : E.1 = mt)   : ∀ (M : MM) (H : Heap) (locs : List Loc) (ls : Array Slot), fX13_operand_56 M = some q → mx_H E s M H locs → lv_has ls 5 [(0, .ref (E.2.1.2.1 0))] → W p l e (mx_rm 2) s m args below meth c H locs 0 0 (mx_Z E below args s (some (.int (mx_b q.1))) q.2) (F0 m 56 ls []) := by
  have hx := C.1.1
  have hb := C.1.2.1
  have hown := C.1.2.2.2.1
  have hts := C.1.2.2.2.2
  intro M H locs ls hf hM hl
  rw [fX13_operand_56] at hf
  refine lv_aload_n hx hb dX13_operand_56 rfl (lv_at hl 0 rfl) ?_
  refine lv_iconst (v := (4 : Int32)) hx hb dX13_operand_57 (by decide) ?_
  obtain ⟨q58, hq58, hf⟩ := mx_bd hf
  refine mx_callV C hM hl.1 yo_X13_bad (h' := 0) (by decide) qw_1584 qw_1586 qs_118 (ci := 13) (q := (RX13, TX13, 52)) rfl (mt_0 hT) (As := [.int (4 : Int32)]) (rest := []) (st1 := [.int (mx_b q58.1)]) (kX13_bad C.2.2.2.1 (4 : Int32) hT M hq58) rfl rfl rfl (Nat.le_of_ble_eq_true rfl) dX13_operand_58 (fun H locs hM => ?_)
  exact mx_zret C hM (b := q58.1) rfl hf dX13_operand_61
set_option maxRecDepth 100000 in
set_option maxHeartbeats 4000000 in
theorem wfX13_operand_38 {E : KE} {p : Program} {l : Launch} {e : Env} {s : State} {m : MethodId} {args : Array Value} {below : List Frame} {meth : Method} {c : Code} {q : (Bool × MM)} (C : mx_C E p m c cX13_operand 5 s args RX13 meth (some .boolean))  (hT : E.1 = mt)   : ∀ (b1 : Bool) (b2 : Bool) (i3 : Int32) (M : MM) (H : Heap) (locs : List Loc) (ls : Array Slot), fX13_operand_38 b1 b2 i3 M = some q → mx_H E s M H locs → lv_has ls 5 [(0, .ref (E.2.1.2.1 0)), (1, .int (mx_b b1)), (2, .int (mx_b b2)), (3, .int i3)] → W p l e (mx_rm 2) s m args below meth c H locs 0 0 (mx_Z E below args s (some (.int (mx_b q.1))) q.2) (F0 m 38 ls []) := by
  have hx := C.1.1
  have hb := C.1.2.1
  have hown := C.1.2.2.2.1
  have hts := C.1.2.2.2.2
  intro b1 b2 i3 M H locs ls hf hM hl
  rw [fX13_operand_38] at hf
  refine lv_aload_n hx hb dX13_operand_38 rfl (lv_at hl 0 rfl) ?_
  refine g13_459 C hT hM dX13_operand_39 ?_
  refine lv_bipush (v := (20 : Int32)) hx hb dX13_operand_42 (by decide) ?_
  refine lv_icmp_eq (tgt := 56) hx hb dX13_operand_44 (by decide) (fun hc44 => ?_) (fun hc44 => ?_)
  · replace hf := mx_ift hc44 hf
    exact wfX13_operand_56 C hT M _ _ _ hf hM (lv_sub hl [0] rfl)
  · replace hf := mx_iff hc44 hf
    refine lv_aload_n hx hb dX13_operand_47 rfl (lv_at hl 0 rfl) ?_
    refine g13_453 C hT hM dX13_operand_48 ?_
    refine lv_bipush (v := (8 : Int32)) hx hb dX13_operand_51 (by decide) ?_
    refine lv_icmp_le (tgt := 62) hx hb dX13_operand_53 (by decide) (fun hc53 => ?_) (fun hc53 => ?_)
    · replace hf := mx_ift hc53 hf
      refine lv_aload_n hx hb dX13_operand_62 rfl (lv_at hl 0 rfl) ?_
      refine lv_dup hx hb dX13_operand_63 rfl ?_
      refine g13_459 C hT hM dX13_operand_64 ?_
      refine lv_iconst (v := (1 : Int32)) hx hb dX13_operand_67 (by decide) ?_
      refine lv_iadd hx hb dX13_operand_68 ?_
      refine p13_459 C hT hM dX13_operand_69 (fun H locs hM => ?_)
      refine lv_aload_n hx hb dX13_operand_72 rfl (lv_at hl 0 rfl) ?_
      obtain ⟨q73, hq73, hf⟩ := mx_bd hf
      refine mx_callV C hM hl.1 yo_X13_next (h' := 1) (by decide) qw_1558 qw_1560 qs_113 (ci := 13) (q := (RX13, TX13, 52)) rfl (mt_0 hT) (As := []) (rest := []) (st1 := []) (kX13_next C.2.2.2.1  hT (mx_si M 0 44 ((M.1 0 44) + (1 : Int32))) hq73) rfl rfl rfl (Nat.le_of_ble_eq_true rfl) dX13_operand_73 (fun H locs hM => ?_)
      refine lv_iload_n hx hb dX13_operand_76 rfl (lv_at hl 1 rfl) ?_
      refine lv_if_ne (tgt := 84) hx hb dX13_operand_77 (by decide) (fun hc77 => ?_) (fun hc77 => ?_)
      · replace hf := mx_iff hc77 hf
        exact wfX13_operand_84 C hT b1 q73 _ _ _ hf hM (lv_sub hl [0, 1] rfl)
      · replace hf := mx_ift hc77 hf
        refine lv_iload_n hx hb dX13_operand_80 rfl (lv_at hl 2 rfl) ?_
        refine lv_if_eq (tgt := 126) hx hb dX13_operand_81 (by decide) (fun hc81 => ?_) (fun hc81 => ?_)
        · replace hf := mx_ift hc81 hf
          refine lv_aload_n hx hb dX13_operand_126 rfl (lv_at hl 0 rfl) ?_
          refine lv_iconst (v := (1 : Int32)) hx hb dX13_operand_127 (by decide) ?_
          refine p13_462 C hT hM (by decide) (by decide) dX13_operand_128 (fun H locs hM => ?_)
          refine lv_iload_n hx hb dX13_operand_131 rfl (lv_at hl 3 rfl) ?_
          refine lv_iconst (v := (3 : Int32)) hx hb dX13_operand_132 (by decide) ?_
          refine lv_icmp_ge (tgt := 145) hx hb dX13_operand_133 (by decide) (fun hc133 => ?_) (fun hc133 => ?_)
          · replace hf := mx_ift hc133 hf
            refine lv_iload_n hx hb dX13_operand_145 rfl (lv_at hl 3 rfl) ?_
            refine lv_iconst (v := (5 : Int32)) hx hb dX13_operand_146 (by decide) ?_
            refine lv_icmp_ge (tgt := 206) hx hb dX13_operand_147 (by decide) (fun hc147 => ?_) (fun hc147 => ?_)
            · replace hf := mx_ift hc147 hf
              refine lv_aload_n hx hb dX13_operand_206 rfl (lv_at hl 0 rfl) ?_
              refine g13_161 C hT hM dX13_operand_207 ?_
              refine lv_iconst (v := (3 : Int32)) hx hb dX13_operand_210 (by decide) ?_
              refine lv_icmp_ne (tgt := 232) hx hb dX13_operand_211 (by decide) (fun hc211 => ?_) (fun hc211 => ?_)
              · replace hf := mx_iff hc211 hf
                exact wfX13_operand_232 C hT (mx_si q73 0 47 (1 : Int32)) _ _ _ hf hM (lv_sub hl [0] rfl)
              · replace hf := mx_ift hc211 hf
                refine lv_aload_n hx hb dX13_operand_214 rfl (lv_at hl 0 rfl) ?_
                refine g13_171 C hT hM dX13_operand_215 ?_
                refine lv_bipush (v := (60 : Int32)) hx hb dX13_operand_218 (by decide) ?_
                refine lv_icmp_lt (tgt := 232) hx hb dX13_operand_220 (by decide) (fun hc220 => ?_) (fun hc220 => ?_)
                · replace hf := mx_ift hc220 hf
                  exact wfX13_operand_232 C hT (mx_si q73 0 47 (1 : Int32)) _ _ _ hf hM (lv_sub hl [0] rfl)
                · replace hf := mx_iff hc220 hf
                  refine lv_aload_n hx hb dX13_operand_223 rfl (lv_at hl 0 rfl) ?_
                  refine g13_171 C hT hM dX13_operand_224 ?_
                  refine lv_bipush (v := (62 : Int32)) hx hb dX13_operand_227 (by decide) ?_
                  refine lv_icmp_le (tgt := 238) hx hb dX13_operand_229 (by decide) (fun hc229 => ?_) (fun hc229 => ?_)
                  · replace hf := mx_ift hc229 hf
                    refine lv_aload_n hx hb dX13_operand_238 rfl (lv_at hl 0 rfl) ?_
                    refine g13_171 C hT hM dX13_operand_239 ?_
                    refine lv_istore (lv' := [(4, .int ((mx_si q73 0 47 (1 : Int32)).1 0 14)), (0, .ref (E.2.1.2.1 0)), (1, .int (mx_b b1)), (2, .int (mx_b b2)), (3, .int i3)]) hx hb dX13_operand_242 hl (by decide) rfl (fun ls hl => ?_)
                    refine lv_aload_n hx hb dX13_operand_244 rfl (lv_at hl 1 rfl) ?_
                    obtain ⟨q245, hq245, hf⟩ := mx_bd hf
                    refine mx_callV C hM hl.1 yo_X13_next (h' := 1) (by decide) qw_1558 qw_1560 qs_113 (ci := 13) (q := (RX13, TX13, 52)) rfl (mt_0 hT) (As := []) (rest := []) (st1 := []) (kX13_next C.2.2.2.1  hT (mx_si q73 0 47 (1 : Int32)) hq245) rfl rfl rfl (Nat.le_of_ble_eq_true rfl) dX13_operand_245 (fun H locs hM => ?_)
                    refine lv_aload_n hx hb dX13_operand_248 rfl (lv_at hl 1 rfl) ?_
                    refine g13_161 C hT hM dX13_operand_249 ?_
                    refine lv_iconst (v := (2 : Int32)) hx hb dX13_operand_252 (by decide) ?_
                    refine lv_icmp_eq (tgt := 262) hx hb dX13_operand_253 (by decide) (fun hc253 => ?_) (fun hc253 => ?_)
                    · replace hf := mx_ift hc253 hf
                      refine lv_aload_n hx hb dX13_operand_262 rfl (lv_at hl 1 rfl) ?_
                      refine lv_iload_n hx hb dX13_operand_263 rfl (lv_at hl 4 rfl) ?_
                      refine lv_iload hx hb dX13_operand_264 (lv_at hl 0 rfl) ?_
                      refine lv_aload_n hx hb dX13_operand_266 rfl (lv_at hl 1 rfl) ?_
                      refine g13_171 C hT hM dX13_operand_267 ?_
                      obtain ⟨q270, hq270, hf⟩ := mx_bd hf
                      refine mx_callV C hM hl.1 yo_X13_code (h' := 0) (by decide) qw_1966 qw_1968 qs_176 (ci := 13) (q := (RX13, TX13, 52)) rfl (mt_0 hT) (As := [.int i3, .int ((mx_si q73 0 47 (1 : Int32)).1 0 14), .int (q245.1 0 14)]) (rest := []) (st1 := []) (kX13_code C.2.2.2.1 i3 ((mx_si q73 0 47 (1 : Int32)).1 0 14) (q245.1 0 14) hT q245 hq270) rfl rfl rfl (Nat.le_of_ble_eq_true rfl) dX13_operand_270 (fun H locs hM => ?_)
                      refine lv_aload_n hx hb dX13_operand_273 rfl (lv_at hl 1 rfl) ?_
                      obtain ⟨q274, hq274, hf⟩ := mx_bd hf
                      refine mx_callV C hM hl.1 yo_X13_next (h' := 1) (by decide) qw_1558 qw_1560 qs_113 (ci := 13) (q := (RX13, TX13, 52)) rfl (mt_0 hT) (As := []) (rest := []) (st1 := []) (kX13_next C.2.2.2.1  hT q270 hq274) rfl rfl rfl (Nat.le_of_ble_eq_true rfl) dX13_operand_274 (fun H locs hM => ?_)
                      refine lv_iconst (v := (1 : Int32)) hx hb dX13_operand_277 (by decide) ?_
                      exact mx_zret C hM (b := true) rfl hf dX13_operand_278
                    · replace hf := mx_iff hc253 hf
                      refine lv_aload_n hx hb dX13_operand_256 rfl (lv_at hl 1 rfl) ?_
                      refine lv_iconst (v := (1 : Int32)) hx hb dX13_operand_257 (by decide) ?_
                      obtain ⟨q258, hq258, hf⟩ := mx_bd hf
                      refine mx_callV C hM hl.1 yo_X13_bad (h' := 0) (by decide) qw_1584 qw_1586 qs_118 (ci := 13) (q := (RX13, TX13, 52)) rfl (mt_0 hT) (As := [.int (1 : Int32)]) (rest := []) (st1 := [.int (mx_b q258.1)]) (kX13_bad C.2.2.2.1 (1 : Int32) hT q245 hq258) rfl rfl rfl (Nat.le_of_ble_eq_true rfl) dX13_operand_258 (fun H locs hM => ?_)
                      exact mx_zret C hM (b := q258.1) rfl hf dX13_operand_261
                  · replace hf := mx_iff hc229 hf
                    exact wfX13_operand_232 C hT (mx_si q73 0 47 (1 : Int32)) _ _ _ hf hM (lv_sub hl [0] rfl)
            · replace hf := mx_iff hc147 hf
              refine lv_iload_n hx hb dX13_operand_150 rfl (lv_at hl 3 rfl) ?_
              refine lv_iconst (v := (3 : Int32)) hx hb dX13_operand_151 (by decide) ?_
              refine lv_icmp_ne (tgt := 170) hx hb dX13_operand_152 (by decide) (fun hc152 => ?_) (fun hc152 => ?_)
              · replace hf := mx_iff hc152 hf
                refine lv_aload_n hx hb dX13_operand_170 rfl (lv_at hl 0 rfl) ?_
                refine lv_iconst (v := (0 : Int32)) hx hb dX13_operand_171 (by decide) ?_
                refine lv_aload_n hx hb dX13_operand_172 rfl (lv_at hl 0 rfl) ?_
                refine g13_33 C hT hM dX13_operand_173 ?_
                refine lv_iconst (v := (0 : Int32)) hx hb dX13_operand_176 (by decide) ?_
                refine mx_ialdL C hM (mt_2 hT) (j := 0) (by decide) (mx_in_vp (by decide)) dX13_operand_177 ?_
                obtain ⟨q178, hq178, hf⟩ := mx_bd hf
                refine mx_callV C hM hl.1 yo_X13_looksAt (h' := 1) (by decide) qw_1619 qw_1621 qs_126 (ci := 13) (q := (RX13, TX13, 52)) rfl (mt_0 hT) (As := [.int (0 : Int32), .int ((mx_si q73 0 47 (1 : Int32)).1 2 0)]) (rest := []) (st1 := [.int (mx_b q178.1)]) (kX13_looksAt C.2.2.2.1 (0 : Int32) ((mx_si q73 0 47 (1 : Int32)).1 2 0) hT (mx_si q73 0 47 (1 : Int32)) hq178) rfl rfl rfl (Nat.le_of_ble_eq_true rfl) dX13_operand_178 (fun H locs hM => ?_)
                exact wfX13_operand_181 C hT i3 q178.1 q178.2 _ _ _ hf hM (lv_sub hl [0, 3] rfl)
              · replace hf := mx_ift hc152 hf
                refine lv_aload_n hx hb dX13_operand_155 rfl (lv_at hl 0 rfl) ?_
                refine lv_bipush (v := (7 : Int32)) hx hb dX13_operand_156 (by decide) ?_
                refine lv_aload_n hx hb dX13_operand_158 rfl (lv_at hl 0 rfl) ?_
                refine g13_33 C hT hM dX13_operand_159 ?_
                refine lv_iconst (v := (1 : Int32)) hx hb dX13_operand_162 (by decide) ?_
                refine mx_ialdL C hM (mt_2 hT) (j := 1) (by decide) (mx_in_vp (by decide)) dX13_operand_163 ?_
                obtain ⟨q164, hq164, hf⟩ := mx_bd hf
                refine mx_callV C hM hl.1 yo_X13_looksAt (h' := 1) (by decide) qw_1619 qw_1621 qs_126 (ci := 13) (q := (RX13, TX13, 52)) rfl (mt_0 hT) (As := [.int (7 : Int32), .int ((mx_si q73 0 47 (1 : Int32)).1 2 1)]) (rest := []) (st1 := [.int (mx_b q164.1)]) (kX13_looksAt C.2.2.2.1 (7 : Int32) ((mx_si q73 0 47 (1 : Int32)).1 2 1) hT (mx_si q73 0 47 (1 : Int32)) hq164) rfl rfl rfl (Nat.le_of_ble_eq_true rfl) dX13_operand_164 (fun H locs hM => ?_)
                refine lv_goto (tgt := 181) hx hb dX13_operand_167 (by decide) ?_
                exact wfX13_operand_181 C hT i3 q164.1 q164.2 _ _ _ hf hM (lv_sub hl [0, 3] rfl)
          · replace hf := mx_iff hc133 hf
            refine lv_aload_n hx hb dX13_operand_136 rfl (lv_at hl 0 rfl) ?_
            refine lv_iload_n hx hb dX13_operand_137 rfl (lv_at hl 3 rfl) ?_
            refine lv_iconst (v := (0 : Int32)) hx hb dX13_operand_138 (by decide) ?_
            refine lv_iconst (v := (0 : Int32)) hx hb dX13_operand_139 (by decide) ?_
            obtain ⟨q140, hq140, hf⟩ := mx_bd hf
            refine mx_callV C hM hl.1 yo_X13_code (h' := 0) (by decide) qw_1966 qw_1968 qs_176 (ci := 13) (q := (RX13, TX13, 52)) rfl (mt_0 hT) (As := [.int i3, .int (0 : Int32), .int (0 : Int32)]) (rest := []) (st1 := []) (kX13_code C.2.2.2.1 i3 (0 : Int32) (0 : Int32) hT (mx_si q73 0 47 (1 : Int32)) hq140) rfl rfl rfl (Nat.le_of_ble_eq_true rfl) dX13_operand_140 (fun H locs hM => ?_)
            refine lv_iconst (v := (1 : Int32)) hx hb dX13_operand_143 (by decide) ?_
            exact mx_zret C hM (b := true) rfl hf dX13_operand_144
        · replace hf := mx_iff hc81 hf
          exact wfX13_operand_84 C hT b1 q73 _ _ _ hf hM (lv_sub hl [0, 1] rfl)
    · replace hf := mx_iff hc53 hf
      exact wfX13_operand_56 C hT M _ _ _ hf hM (lv_sub hl [0] rfl)
set_option maxRecDepth 100000 in
set_option maxHeartbeats 4000000 in
theorem kX13_operand {E : KE} {l : Launch} (hE : mx_ok E)  (hT : E.1 = mt) (M : MM) {q : (Bool × MM)} (hf : fX13_operand M = some q) : mx_Met E l yX13_operand cX13_operand 5 (some .boolean) 2 [.ref (E.2.1.2.1 0)] M (some (.int (mx_b q.1))) q.2 := by
  refine mx_enter hE (by decide) (Nat.le_of_ble_eq_true rfl) ?_
  intro p e s m below meth c C hM hn ls hl
  have hx := C.1.1
  have hb := C.1.2.1
  have hown := C.1.2.2.2.1
  have hts := C.1.2.2.2.2
  have hl : lv_has ls 5 [(0, .ref (E.2.1.2.1 0))] := hl
  rw [fX13_operand] at hf
  refine lv_aload_n hx hb dX13_operand_0 rfl (lv_at hl 0 rfl) ?_
  refine lv_ldc2 (v := (7237492)) hx hb hown (hts _ qw_1379) dX13_operand_1 ?_
  obtain ⟨q4, hq4, hf⟩ := mx_bd hf
  refine mx_callV C hM hl.1 yo_X13_isWord (h' := 0) (by decide) qw_1576 qw_1578 qs_116 (ci := 13) (q := (RX13, TX13, 52)) rfl (mt_0 hT) (As := [.long (7237492 : Int64)]) (rest := []) (st1 := [.int (mx_b q4)]) (kX13_isWord C.2.2.2.1 (7237492 : Int64) hT M hq4) rfl rfl rfl (Nat.le_of_ble_eq_true rfl) dX13_operand_4 (fun H locs hM => ?_)
  refine lv_istore_n (lv' := [(1, .int (mx_b q4)), (0, .ref (E.2.1.2.1 0))]) hx hb dX13_operand_7 rfl hl (by decide) rfl (fun ls hl => ?_)
  refine lv_aload_n hx hb dX13_operand_8 rfl (lv_at hl 1 rfl) ?_
  refine lv_bipush (v := (40 : Int32)) hx hb dX13_operand_9 (by decide) ?_
  obtain ⟨q11, hq11, hf⟩ := mx_bd hf
  refine mx_callV C hM hl.1 yo_X13_isSign (h' := 0) (by decide) qw_1634 qw_1636 qs_129 (ci := 13) (q := (RX13, TX13, 52)) rfl (mt_0 hT) (As := [.int (40 : Int32)]) (rest := []) (st1 := [.int (mx_b q11)]) (kX13_isSign C.2.2.2.1 (40 : Int32) hT M hq11) rfl rfl rfl (Nat.le_of_ble_eq_true rfl) dX13_operand_11 (fun H locs hM => ?_)
  refine lv_istore_n (lv' := [(2, .int (mx_b q11)), (1, .int (mx_b q4)), (0, .ref (E.2.1.2.1 0))]) hx hb dX13_operand_14 rfl hl (by decide) rfl (fun ls hl => ?_)
  refine lv_aload_n hx hb dX13_operand_15 rfl (lv_at hl 2 rfl) ?_
  obtain ⟨q16, hq16, hf⟩ := mx_bd hf
  refine mx_callV C hM hl.1 yo_X13_leafOf (h' := 1) (by decide) qw_1982 qw_1984 qs_180 (ci := 13) (q := (RX13, TX13, 52)) rfl (mt_0 hT) (As := []) (rest := []) (st1 := [.int q16]) (kX13_leafOf C.2.2.2.1  hT M hq16) rfl rfl rfl (Nat.le_of_ble_eq_true rfl) dX13_operand_16 (fun H locs hM => ?_)
  refine lv_istore_n (lv' := [(3, .int q16), (2, .int (mx_b q11)), (1, .int (mx_b q4)), (0, .ref (E.2.1.2.1 0))]) hx hb dX13_operand_19 rfl hl (by decide) rfl (fun ls hl => ?_)
  refine lv_iload_n hx hb dX13_operand_20 rfl (lv_at hl 2 rfl) ?_
  refine lv_if_ne (tgt := 38) hx hb dX13_operand_21 (by decide) (fun hc21 => ?_) (fun hc21 => ?_)
  · replace hf := mx_iff hc21 hf
    exact wfX13_operand_38 C hT q4 q11 q16 M _ _ _ hf hM (lv_sub hl [3, 2, 1, 0] rfl)
  · replace hf := mx_ift hc21 hf
    refine lv_iload_n hx hb dX13_operand_24 rfl (lv_at hl 1 rfl) ?_
    refine lv_if_ne (tgt := 38) hx hb dX13_operand_25 (by decide) (fun hc25 => ?_) (fun hc25 => ?_)
    · replace hf := mx_iff hc25 hf
      exact wfX13_operand_38 C hT q4 q11 q16 M _ _ _ hf hM (lv_sub hl [3, 2, 1, 0] rfl)
    · replace hf := mx_ift hc25 hf
      refine lv_iload_n hx hb dX13_operand_28 rfl (lv_at hl 0 rfl) ?_
      refine lv_if_ge (tgt := 38) hx hb dX13_operand_29 (by decide) (fun hc29 => ?_) (fun hc29 => ?_)
      · replace hf := mx_ift hc29 hf
        exact wfX13_operand_38 C hT q4 q11 q16 M _ _ _ hf hM (lv_sub hl [3, 2, 1, 0] rfl)
      · replace hf := mx_iff hc29 hf
        refine lv_aload_n hx hb dX13_operand_32 rfl (lv_at hl 3 rfl) ?_
        refine lv_iconst (v := (1 : Int32)) hx hb dX13_operand_33 (by decide) ?_
        obtain ⟨q34, hq34, hf⟩ := mx_bd hf
        refine mx_callV C hM hl.1 yo_X13_bad (h' := 0) (by decide) qw_1584 qw_1586 qs_118 (ci := 13) (q := (RX13, TX13, 52)) rfl (mt_0 hT) (As := [.int (1 : Int32)]) (rest := []) (st1 := [.int (mx_b q34.1)]) (kX13_bad C.2.2.2.1 (1 : Int32) hT M hq34) rfl rfl rfl (Nat.le_of_ble_eq_true rfl) dX13_operand_34 (fun H locs hM => ?_)
        exact mx_zret C hM (b := q34.1) rfl hf dX13_operand_37
theorem dX13_behind_0 : decode cX13_behind 0 = .ok (.aload_n 0, 1) := by decide +kernel
theorem dX13_behind_1 : decode cX13_behind 1 = .ok (.invokevirtual 465, 3) := by decide +kernel
theorem dX13_behind_4 : decode cX13_behind 4 = .ok (.aload_n 0, 1) := by decide +kernel
theorem dX13_behind_5 : decode cX13_behind 5 = .ok (.ldc2_w 126, 3) := by decide +kernel
theorem dX13_behind_8 : decode cX13_behind 8 = .ok (.invokevirtual 224, 3) := by decide +kernel
theorem dX13_behind_11 : decode cX13_behind 11 = .ok (.ifCond .ne 13, 3) := by decide +kernel
theorem dX13_behind_14 : decode cX13_behind 14 = .ok (.aload_n 0, 1) := by decide +kernel
theorem dX13_behind_15 : decode cX13_behind 15 = .ok (.ldc2_w 124, 3) := by decide +kernel
theorem dX13_behind_18 : decode cX13_behind 18 = .ok (.invokevirtual 224, 3) := by decide +kernel
theorem dX13_behind_21 : decode cX13_behind 21 = .ok (.ifCond .eq 71, 3) := by decide +kernel
theorem dX13_behind_24 : decode cX13_behind 24 = .ok (.aload_n 0, 1) := by decide +kernel
theorem dX13_behind_25 : decode cX13_behind 25 = .ok (.aload_n 0, 1) := by decide +kernel
theorem dX13_behind_26 : decode cX13_behind 26 = .ok (.ldc2_w 126, 3) := by decide +kernel
theorem dX13_behind_29 : decode cX13_behind 29 = .ok (.invokevirtual 224, 3) := by decide +kernel
theorem dX13_behind_32 : decode cX13_behind 32 = .ok (.ifCond .eq 8, 3) := by decide +kernel
theorem dX13_behind_35 : decode cX13_behind 35 = .ok (.bipush 21, 2) := by decide +kernel
theorem dX13_behind_37 : decode cX13_behind 37 = .ok (.goto 5, 3) := by decide +kernel
theorem dX13_behind_40 : decode cX13_behind 40 = .ok (.bipush 22, 2) := by decide +kernel
theorem dX13_behind_42 : decode cX13_behind 42 = .ok (.invokevirtual 468, 3) := by decide +kernel
theorem dX13_behind_45 : decode cX13_behind 45 = .ok (.aload_n 0, 1) := by decide +kernel
theorem dX13_behind_46 : decode cX13_behind 46 = .ok (.getfield 86, 3) := by decide +kernel
theorem dX13_behind_49 : decode cX13_behind 49 = .ok (.aload_n 0, 1) := by decide +kernel
theorem dX13_behind_50 : decode cX13_behind 50 = .ok (.getfield 447, 3) := by decide +kernel
theorem dX13_behind_53 : decode cX13_behind 53 = .ok (.aload_n 0, 1) := by decide +kernel
theorem dX13_behind_54 : decode cX13_behind 54 = .ok (.ldc2_w 126, 3) := by decide +kernel
theorem dX13_behind_57 : decode cX13_behind 57 = .ok (.invokevirtual 224, 3) := by decide +kernel
theorem dX13_behind_60 : decode cX13_behind 60 = .ok (.ifCond .eq 8, 3) := by decide +kernel
theorem dX13_behind_63 : decode cX13_behind 63 = .ok (.bipush 21, 2) := by decide +kernel
theorem dX13_behind_65 : decode cX13_behind 65 = .ok (.goto 5, 3) := by decide +kernel
theorem dX13_behind_68 : decode cX13_behind 68 = .ok (.bipush 22, 2) := by decide +kernel
theorem dX13_behind_70 : decode cX13_behind 70 = .ok (.iastore, 1) := by decide +kernel
theorem dX13_behind_71 : decode cX13_behind 71 = .ok (.aload_n 0, 1) := by decide +kernel
theorem dX13_behind_72 : decode cX13_behind 72 = .ok (.dup, 1) := by decide +kernel
theorem dX13_behind_73 : decode cX13_behind 73 = .ok (.getfield 447, 3) := by decide +kernel
theorem dX13_behind_76 : decode cX13_behind 76 = .ok (.iconst 1, 1) := by decide +kernel
theorem dX13_behind_77 : decode cX13_behind 77 = .ok (.iadd, 1) := by decide +kernel
theorem dX13_behind_78 : decode cX13_behind 78 = .ok (.putfield 447, 3) := by decide +kernel
theorem dX13_behind_81 : decode cX13_behind 81 = .ok (.aload_n 0, 1) := by decide +kernel
theorem dX13_behind_82 : decode cX13_behind 82 = .ok (.iconst 0, 1) := by decide +kernel
theorem dX13_behind_83 : decode cX13_behind 83 = .ok (.putfield 462, 3) := by decide +kernel
theorem dX13_behind_86 : decode cX13_behind 86 = .ok (.aload_n 0, 1) := by decide +kernel
theorem dX13_behind_87 : decode cX13_behind 87 = .ok (.invokevirtual 190, 3) := by decide +kernel
theorem dX13_behind_90 : decode cX13_behind 90 = .ok (.iconst 1, 1) := by decide +kernel
theorem dX13_behind_91 : decode cX13_behind 91 = .ok (.ireturn, 1) := by decide +kernel
theorem dX13_behind_92 : decode cX13_behind 92 = .ok (.aload_n 0, 1) := by decide +kernel
theorem dX13_behind_93 : decode cX13_behind 93 = .ok (.bipush 22, 2) := by decide +kernel
theorem dX13_behind_95 : decode cX13_behind 95 = .ok (.invokevirtual 468, 3) := by decide +kernel
theorem dX13_behind_98 : decode cX13_behind 98 = .ok (.aload_n 0, 1) := by decide +kernel
theorem dX13_behind_99 : decode cX13_behind 99 = .ok (.bipush 41, 2) := by decide +kernel
theorem dX13_behind_101 : decode cX13_behind 101 = .ok (.invokevirtual 184, 3) := by decide +kernel
theorem dX13_behind_104 : decode cX13_behind 104 = .ok (.ifCond .eq 10, 3) := by decide +kernel
theorem dX13_behind_107 : decode cX13_behind 107 = .ok (.aload_n 0, 1) := by decide +kernel
theorem dX13_behind_108 : decode cX13_behind 108 = .ok (.getfield 447, 3) := by decide +kernel
theorem dX13_behind_111 : decode cX13_behind 111 = .ok (.ifCond .ne 9, 3) := by decide +kernel
theorem dX13_behind_114 : decode cX13_behind 114 = .ok (.aload_n 0, 1) := by decide +kernel
theorem dX13_behind_115 : decode cX13_behind 115 = .ok (.iconst 1, 1) := by decide +kernel
theorem dX13_behind_116 : decode cX13_behind 116 = .ok (.invokevirtual 187, 3) := by decide +kernel
theorem dX13_behind_119 : decode cX13_behind 119 = .ok (.ireturn, 1) := by decide +kernel
theorem dX13_behind_120 : decode cX13_behind 120 = .ok (.aload_n 0, 1) := by decide +kernel
theorem dX13_behind_121 : decode cX13_behind 121 = .ok (.dup, 1) := by decide +kernel
theorem dX13_behind_122 : decode cX13_behind 122 = .ok (.getfield 447, 3) := by decide +kernel
theorem dX13_behind_125 : decode cX13_behind 125 = .ok (.iconst 1, 1) := by decide +kernel
theorem dX13_behind_126 : decode cX13_behind 126 = .ok (.isub, 1) := by decide +kernel
theorem dX13_behind_127 : decode cX13_behind 127 = .ok (.putfield 447, 3) := by decide +kernel
theorem dX13_behind_130 : decode cX13_behind 130 = .ok (.aload_n 0, 1) := by decide +kernel
theorem dX13_behind_131 : decode cX13_behind 131 = .ok (.dup, 1) := by decide +kernel
theorem dX13_behind_132 : decode cX13_behind 132 = .ok (.getfield 453, 3) := by decide +kernel
theorem dX13_behind_135 : decode cX13_behind 135 = .ok (.iconst 1, 1) := by decide +kernel
theorem dX13_behind_136 : decode cX13_behind 136 = .ok (.isub, 1) := by decide +kernel
theorem dX13_behind_137 : decode cX13_behind 137 = .ok (.putfield 453, 3) := by decide +kernel
theorem dX13_behind_140 : decode cX13_behind 140 = .ok (.aload_n 0, 1) := by decide +kernel
theorem dX13_behind_141 : decode cX13_behind 141 = .ok (.invokevirtual 190, 3) := by decide +kernel
theorem dX13_behind_144 : decode cX13_behind 144 = .ok (.iconst 1, 1) := by decide +kernel
theorem dX13_behind_145 : decode cX13_behind 145 = .ok (.ireturn, 1) := by decide +kernel
set_option maxRecDepth 100000 in
set_option maxHeartbeats 4000000 in
theorem wfX13_behind_114 {E : KE} {p : Program} {l : Launch} {e : Env} {s : State} {m : MethodId} {args : Array Value} {below : List Frame} {meth : Method} {c : Code} {q : (Bool × MM)} (C : mx_C E p m c cX13_behind 1 s args RX13 meth (some .boolean))  (hT : E.1 = mt)   : ∀ (M : MM) (H : Heap) (locs : List Loc) (ls : Array Slot), fX13_behind_114 M = some q → mx_H E s M H locs → lv_has ls 1 [(0, .ref (E.2.1.2.1 0))] → W p l e (mx_rm 2) s m args below meth c H locs 0 0 (mx_Z E below args s (some (.int (mx_b q.1))) q.2) (F0 m 114 ls []) := by
  have hx := C.1.1
  have hb := C.1.2.1
  have hown := C.1.2.2.2.1
  have hts := C.1.2.2.2.2
  intro M H locs ls hf hM hl
  rw [fX13_behind_114] at hf
  refine lv_aload_n hx hb dX13_behind_114 rfl (lv_at hl 0 rfl) ?_
  refine lv_iconst (v := (1 : Int32)) hx hb dX13_behind_115 (by decide) ?_
  obtain ⟨q116, hq116, hf⟩ := mx_bd hf
  refine mx_callV C hM hl.1 yo_X13_bad (h' := 0) (by decide) qw_1584 qw_1586 qs_118 (ci := 13) (q := (RX13, TX13, 52)) rfl (mt_0 hT) (As := [.int (1 : Int32)]) (rest := []) (st1 := [.int (mx_b q116.1)]) (kX13_bad C.2.2.2.1 (1 : Int32) hT M hq116) rfl rfl rfl (Nat.le_of_ble_eq_true rfl) dX13_behind_116 (fun H locs hM => ?_)
  exact mx_zret C hM (b := q116.1) rfl hf dX13_behind_119
set_option maxRecDepth 100000 in
set_option maxHeartbeats 4000000 in
theorem wfX13_behind_70 {E : KE} {p : Program} {l : Launch} {e : Env} {s : State} {m : MethodId} {args : Array Value} {below : List Frame} {meth : Method} {c : Code} {q : (Bool × MM)} (C : mx_C E p m c cX13_behind 1 s args RX13 meth (some .boolean))  (hT : E.1 = mt)   : ∀ (is1 : Int32) (is2 : Int32) (M : MM) (H : Heap) (locs : List Loc) (ls : Array Slot), fX13_behind_70 is1 is2 M = some q → mx_H E s M H locs → lv_has ls 1 [(0, .ref (E.2.1.2.1 0))] → W p l e (mx_rm 2) s m args below meth c H locs 0 0 (mx_Z E below args s (some (.int (mx_b q.1))) q.2) (F0 m 70 ls [.int is2, .int is1, .ref (E.2.1.2.1 17)]) := by
  have hx := C.1.1
  have hb := C.1.2.1
  have hown := C.1.2.2.2.1
  have hts := C.1.2.2.2.2
  intro is1 is2 M H locs ls hf hM hl
  rw [fX13_behind_70] at hf
  obtain ⟨hg70, hf⟩ := mx_gd hf
  refine mx_iast C hM (mt_17 hT) (mx_in_vp hg70) dX13_behind_70 (fun H locs hM => ?_)
  refine lv_aload_n hx hb dX13_behind_71 rfl (lv_at hl 0 rfl) ?_
  refine lv_dup hx hb dX13_behind_72 rfl ?_
  refine g13_447 C hT hM dX13_behind_73 ?_
  refine lv_iconst (v := (1 : Int32)) hx hb dX13_behind_76 (by decide) ?_
  refine lv_iadd hx hb dX13_behind_77 ?_
  refine p13_447 C hT hM dX13_behind_78 (fun H locs hM => ?_)
  refine lv_aload_n hx hb dX13_behind_81 rfl (lv_at hl 0 rfl) ?_
  refine lv_iconst (v := (0 : Int32)) hx hb dX13_behind_82 (by decide) ?_
  refine p13_462 C hT hM (by decide) (by decide) dX13_behind_83 (fun H locs hM => ?_)
  refine lv_aload_n hx hb dX13_behind_86 rfl (lv_at hl 0 rfl) ?_
  obtain ⟨q87, hq87, hf⟩ := mx_bd hf
  refine mx_callV C hM hl.1 yo_X13_next (h' := 1) (by decide) qw_1558 qw_1560 qs_113 (ci := 13) (q := (RX13, TX13, 52)) rfl (mt_0 hT) (As := []) (rest := []) (st1 := []) (kX13_next C.2.2.2.1  hT (mx_si (mx_si (mx_si M 17 is1.toNatClampNeg is2) 0 45 (((mx_si M 17 is1.toNatClampNeg is2).1 0 45) + (1 : Int32))) 0 47 (0 : Int32)) hq87) rfl rfl rfl (Nat.le_of_ble_eq_true rfl) dX13_behind_87 (fun H locs hM => ?_)
  refine lv_iconst (v := (1 : Int32)) hx hb dX13_behind_90 (by decide) ?_
  exact mx_zret C hM (b := true) rfl hf dX13_behind_91
set_option maxRecDepth 100000 in
set_option maxHeartbeats 4000000 in
theorem wfX13_behind_42 {E : KE} {p : Program} {l : Launch} {e : Env} {s : State} {m : MethodId} {args : Array Value} {below : List Frame} {meth : Method} {c : Code} {q : (Bool × MM)} (C : mx_C E p m c cX13_behind 1 s args RX13 meth (some .boolean))  (hT : E.1 = mt)   : ∀ (is1 : Int32) (M : MM) (H : Heap) (locs : List Loc) (ls : Array Slot), fX13_behind_42 is1 M = some q → mx_H E s M H locs → lv_has ls 1 [(0, .ref (E.2.1.2.1 0))] → W p l e (mx_rm 2) s m args below meth c H locs 0 0 (mx_Z E below args s (some (.int (mx_b q.1))) q.2) (F0 m 42 ls [.int is1, .ref (E.2.1.2.1 0)]) := by
  have hx := C.1.1
  have hb := C.1.2.1
  have hown := C.1.2.2.2.1
  have hts := C.1.2.2.2.2
  intro is1 M H locs ls hf hM hl
  rw [fX13_behind_42] at hf
  obtain ⟨q42, hq42, hf⟩ := mx_bd hf
  refine mx_callV C hM hl.1 yo_X13_joins (h' := 1) (by decide) qw_1970 qw_1972 qs_177 (ci := 13) (q := (RX13, TX13, 52)) rfl (mt_0 hT) (As := [.int is1]) (rest := []) (st1 := []) (kX13_joins C.2.2.2.1 is1 hT M hq42) rfl rfl rfl (Nat.le_of_ble_eq_true rfl) dX13_behind_42 (fun H locs hM => ?_)
  refine lv_aload_n hx hb dX13_behind_45 rfl (lv_at hl 0 rfl) ?_
  refine g13_86 C hT hM dX13_behind_46 ?_
  refine lv_aload_n hx hb dX13_behind_49 rfl (lv_at hl 0 rfl) ?_
  refine g13_447 C hT hM dX13_behind_50 ?_
  refine lv_aload_n hx hb dX13_behind_53 rfl (lv_at hl 0 rfl) ?_
  refine lv_ldc2 (v := (6385252)) hx hb hown (hts _ qw_1378) dX13_behind_54 ?_
  obtain ⟨q57, hq57, hf⟩ := mx_bd hf
  refine mx_callV C hM hl.1 yo_X13_isWord (h' := 0) (by decide) qw_1576 qw_1578 qs_116 (ci := 13) (q := (RX13, TX13, 52)) rfl (mt_0 hT) (As := [.long (6385252 : Int64)]) (rest := [.int (q42.1 0 45), .ref (E.2.1.2.1 17)]) (st1 := [.int (mx_b q57), .int (q42.1 0 45), .ref (E.2.1.2.1 17)]) (kX13_isWord C.2.2.2.1 (6385252 : Int64) hT q42 hq57) rfl rfl rfl (Nat.le_of_ble_eq_true rfl) dX13_behind_57 (fun H locs hM => ?_)
  refine lv_if_eq (tgt := 68) hx hb dX13_behind_60 (by decide) (fun hc60 => ?_) (fun hc60 => ?_)
  · replace hf := mx_ift hc60 hf
    refine lv_bipush (v := (22 : Int32)) hx hb dX13_behind_68 (by decide) ?_
    exact wfX13_behind_70 C hT (q42.1 0 45) (22 : Int32) q42 _ _ _ hf hM (lv_sub hl [0] rfl)
  · replace hf := mx_iff hc60 hf
    refine lv_bipush (v := (21 : Int32)) hx hb dX13_behind_63 (by decide) ?_
    refine lv_goto (tgt := 70) hx hb dX13_behind_65 (by decide) ?_
    exact wfX13_behind_70 C hT (q42.1 0 45) (21 : Int32) q42 _ _ _ hf hM (lv_sub hl [0] rfl)
set_option maxRecDepth 100000 in
set_option maxHeartbeats 4000000 in
theorem wfX13_behind_24 {E : KE} {p : Program} {l : Launch} {e : Env} {s : State} {m : MethodId} {args : Array Value} {below : List Frame} {meth : Method} {c : Code} {q : (Bool × MM)} (C : mx_C E p m c cX13_behind 1 s args RX13 meth (some .boolean))  (hT : E.1 = mt)   : ∀ (M : MM) (H : Heap) (locs : List Loc) (ls : Array Slot), fX13_behind_24 M = some q → mx_H E s M H locs → lv_has ls 1 [(0, .ref (E.2.1.2.1 0))] → W p l e (mx_rm 2) s m args below meth c H locs 0 0 (mx_Z E below args s (some (.int (mx_b q.1))) q.2) (F0 m 24 ls []) := by
  have hx := C.1.1
  have hb := C.1.2.1
  have hown := C.1.2.2.2.1
  have hts := C.1.2.2.2.2
  intro M H locs ls hf hM hl
  rw [fX13_behind_24] at hf
  refine lv_aload_n hx hb dX13_behind_24 rfl (lv_at hl 0 rfl) ?_
  refine lv_aload_n hx hb dX13_behind_25 rfl (lv_at hl 0 rfl) ?_
  refine lv_ldc2 (v := (6385252)) hx hb hown (hts _ qw_1378) dX13_behind_26 ?_
  obtain ⟨q29, hq29, hf⟩ := mx_bd hf
  refine mx_callV C hM hl.1 yo_X13_isWord (h' := 0) (by decide) qw_1576 qw_1578 qs_116 (ci := 13) (q := (RX13, TX13, 52)) rfl (mt_0 hT) (As := [.long (6385252 : Int64)]) (rest := [.ref (E.2.1.2.1 0)]) (st1 := [.int (mx_b q29), .ref (E.2.1.2.1 0)]) (kX13_isWord C.2.2.2.1 (6385252 : Int64) hT M hq29) rfl rfl rfl (Nat.le_of_ble_eq_true rfl) dX13_behind_29 (fun H locs hM => ?_)
  refine lv_if_eq (tgt := 40) hx hb dX13_behind_32 (by decide) (fun hc32 => ?_) (fun hc32 => ?_)
  · replace hf := mx_ift hc32 hf
    refine lv_bipush (v := (22 : Int32)) hx hb dX13_behind_40 (by decide) ?_
    exact wfX13_behind_42 C hT (22 : Int32) M _ _ _ hf hM (lv_sub hl [0] rfl)
  · replace hf := mx_iff hc32 hf
    refine lv_bipush (v := (21 : Int32)) hx hb dX13_behind_35 (by decide) ?_
    refine lv_goto (tgt := 42) hx hb dX13_behind_37 (by decide) ?_
    exact wfX13_behind_42 C hT (21 : Int32) M _ _ _ hf hM (lv_sub hl [0] rfl)
set_option maxRecDepth 100000 in
set_option maxHeartbeats 4000000 in
theorem kX13_behind {E : KE} {l : Launch} (hE : mx_ok E)  (hT : E.1 = mt) (M : MM) {q : (Bool × MM)} (hf : fX13_behind M = some q) : mx_Met E l yX13_behind cX13_behind 1 (some .boolean) 2 [.ref (E.2.1.2.1 0)] M (some (.int (mx_b q.1))) q.2 := by
  refine mx_enter hE (by decide) (Nat.le_of_ble_eq_true rfl) ?_
  intro p e s m below meth c C hM hn ls hl
  have hx := C.1.1
  have hb := C.1.2.1
  have hown := C.1.2.2.2.1
  have hts := C.1.2.2.2.2
  have hl : lv_has ls 1 [(0, .ref (E.2.1.2.1 0))] := hl
  rw [fX13_behind] at hf
  refine lv_aload_n hx hb dX13_behind_0 rfl (lv_at hl 0 rfl) ?_
  obtain ⟨q1, hq1, hf⟩ := mx_bd hf
  refine mx_callV C hM hl.1 yo_X13_nots (h' := 1) (by decide) qw_1962 qw_1964 qs_175 (ci := 13) (q := (RX13, TX13, 52)) rfl (mt_0 hT) (As := []) (rest := []) (st1 := []) (kX13_nots C.2.2.2.1  hT M hq1) rfl rfl rfl (Nat.le_of_ble_eq_true rfl) dX13_behind_1 (fun H locs hM => ?_)
  refine lv_aload_n hx hb dX13_behind_4 rfl (lv_at hl 0 rfl) ?_
  refine lv_ldc2 (v := (6385252)) hx hb hown (hts _ qw_1378) dX13_behind_5 ?_
  obtain ⟨q8, hq8, hf⟩ := mx_bd hf
  refine mx_callV C hM hl.1 yo_X13_isWord (h' := 0) (by decide) qw_1576 qw_1578 qs_116 (ci := 13) (q := (RX13, TX13, 52)) rfl (mt_0 hT) (As := [.long (6385252 : Int64)]) (rest := []) (st1 := [.int (mx_b q8)]) (kX13_isWord C.2.2.2.1 (6385252 : Int64) hT q1 hq8) rfl rfl rfl (Nat.le_of_ble_eq_true rfl) dX13_behind_8 (fun H locs hM => ?_)
  refine lv_if_ne (tgt := 24) hx hb dX13_behind_11 (by decide) (fun hc11 => ?_) (fun hc11 => ?_)
  · replace hf := mx_iff hc11 hf
    exact wfX13_behind_24 C hT q1 _ _ _ hf hM (lv_sub hl [0] rfl)
  · replace hf := mx_ift hc11 hf
    refine lv_aload_n hx hb dX13_behind_14 rfl (lv_at hl 0 rfl) ?_
    refine lv_ldc2 (v := (28530)) hx hb hown (hts _ qw_1377) dX13_behind_15 ?_
    obtain ⟨q18, hq18, hf⟩ := mx_bd hf
    refine mx_callV C hM hl.1 yo_X13_isWord (h' := 0) (by decide) qw_1576 qw_1578 qs_116 (ci := 13) (q := (RX13, TX13, 52)) rfl (mt_0 hT) (As := [.long (28530 : Int64)]) (rest := []) (st1 := [.int (mx_b q18)]) (kX13_isWord C.2.2.2.1 (28530 : Int64) hT q1 hq18) rfl rfl rfl (Nat.le_of_ble_eq_true rfl) dX13_behind_18 (fun H locs hM => ?_)
    refine lv_if_eq (tgt := 92) hx hb dX13_behind_21 (by decide) (fun hc21 => ?_) (fun hc21 => ?_)
    · replace hf := mx_ift hc21 hf
      refine lv_aload_n hx hb dX13_behind_92 rfl (lv_at hl 0 rfl) ?_
      refine lv_bipush (v := (22 : Int32)) hx hb dX13_behind_93 (by decide) ?_
      obtain ⟨q95, hq95, hf⟩ := mx_bd hf
      refine mx_callV C hM hl.1 yo_X13_joins (h' := 1) (by decide) qw_1970 qw_1972 qs_177 (ci := 13) (q := (RX13, TX13, 52)) rfl (mt_0 hT) (As := [.int (22 : Int32)]) (rest := []) (st1 := []) (kX13_joins C.2.2.2.1 (22 : Int32) hT q1 hq95) rfl rfl rfl (Nat.le_of_ble_eq_true rfl) dX13_behind_95 (fun H locs hM => ?_)
      refine lv_aload_n hx hb dX13_behind_98 rfl (lv_at hl 0 rfl) ?_
      refine lv_bipush (v := (41 : Int32)) hx hb dX13_behind_99 (by decide) ?_
      obtain ⟨q101, hq101, hf⟩ := mx_bd hf
      refine mx_callV C hM hl.1 yo_X13_isSign (h' := 0) (by decide) qw_1634 qw_1636 qs_129 (ci := 13) (q := (RX13, TX13, 52)) rfl (mt_0 hT) (As := [.int (41 : Int32)]) (rest := []) (st1 := [.int (mx_b q101)]) (kX13_isSign C.2.2.2.1 (41 : Int32) hT q95 hq101) rfl rfl rfl (Nat.le_of_ble_eq_true rfl) dX13_behind_101 (fun H locs hM => ?_)
      refine lv_if_eq (tgt := 114) hx hb dX13_behind_104 (by decide) (fun hc104 => ?_) (fun hc104 => ?_)
      · replace hf := mx_ift hc104 hf
        exact wfX13_behind_114 C hT q95 _ _ _ hf hM (lv_sub hl [0] rfl)
      · replace hf := mx_iff hc104 hf
        refine lv_aload_n hx hb dX13_behind_107 rfl (lv_at hl 0 rfl) ?_
        refine g13_447 C hT hM dX13_behind_108 ?_
        refine lv_if_ne (tgt := 120) hx hb dX13_behind_111 (by decide) (fun hc111 => ?_) (fun hc111 => ?_)
        · replace hf := mx_iff hc111 hf
          refine lv_aload_n hx hb dX13_behind_120 rfl (lv_at hl 0 rfl) ?_
          refine lv_dup hx hb dX13_behind_121 rfl ?_
          refine g13_447 C hT hM dX13_behind_122 ?_
          refine lv_iconst (v := (1 : Int32)) hx hb dX13_behind_125 (by decide) ?_
          refine lv_isub hx hb dX13_behind_126 ?_
          refine p13_447 C hT hM dX13_behind_127 (fun H locs hM => ?_)
          refine lv_aload_n hx hb dX13_behind_130 rfl (lv_at hl 0 rfl) ?_
          refine lv_dup hx hb dX13_behind_131 rfl ?_
          refine g13_453 C hT hM dX13_behind_132 ?_
          refine lv_iconst (v := (1 : Int32)) hx hb dX13_behind_135 (by decide) ?_
          refine lv_isub hx hb dX13_behind_136 ?_
          refine p13_453 C hT hM dX13_behind_137 (fun H locs hM => ?_)
          refine lv_aload_n hx hb dX13_behind_140 rfl (lv_at hl 0 rfl) ?_
          obtain ⟨q141, hq141, hf⟩ := mx_bd hf
          refine mx_callV C hM hl.1 yo_X13_next (h' := 1) (by decide) qw_1558 qw_1560 qs_113 (ci := 13) (q := (RX13, TX13, 52)) rfl (mt_0 hT) (As := []) (rest := []) (st1 := []) (kX13_next C.2.2.2.1  hT (mx_si (mx_si q95 0 45 ((q95.1 0 45) - (1 : Int32))) 0 46 (((mx_si q95 0 45 ((q95.1 0 45) - (1 : Int32))).1 0 46) - (1 : Int32))) hq141) rfl rfl rfl (Nat.le_of_ble_eq_true rfl) dX13_behind_141 (fun H locs hM => ?_)
          refine lv_iconst (v := (1 : Int32)) hx hb dX13_behind_144 (by decide) ?_
          exact mx_zret C hM (b := true) rfl hf dX13_behind_145
        · replace hf := mx_ift hc111 hf
          exact wfX13_behind_114 C hT q95 _ _ _ hf hM (lv_sub hl [0] rfl)
    · replace hf := mx_iff hc21 hf
      exact wfX13_behind_24 C hT q1 _ _ _ hf hM (lv_sub hl [0] rfl)
theorem dX13_sentence_0 : decode cX13_sentence 0 = .ok (.aload_n 0, 1) := by decide +kernel
theorem dX13_sentence_1 : decode cX13_sentence 1 = .ok (.iconst 0, 1) := by decide +kernel
theorem dX13_sentence_2 : decode cX13_sentence 2 = .ok (.putfield 1, 3) := by decide +kernel
theorem dX13_sentence_5 : decode cX13_sentence 5 = .ok (.aload_n 0, 1) := by decide +kernel
theorem dX13_sentence_6 : decode cX13_sentence 6 = .ok (.sipush 200, 3) := by decide +kernel
theorem dX13_sentence_9 : decode cX13_sentence 9 = .ok (.invokevirtual 244, 3) := by decide +kernel
theorem dX13_sentence_12 : decode cX13_sentence 12 = .ok (.aload_n 0, 1) := by decide +kernel
theorem dX13_sentence_13 : decode cX13_sentence 13 = .ok (.iconst 0, 1) := by decide +kernel
theorem dX13_sentence_14 : decode cX13_sentence 14 = .ok (.putfield 178, 3) := by decide +kernel
theorem dX13_sentence_17 : decode cX13_sentence 17 = .ok (.aload_n 0, 1) := by decide +kernel
theorem dX13_sentence_18 : decode cX13_sentence 18 = .ok (.iconst 0, 1) := by decide +kernel
theorem dX13_sentence_19 : decode cX13_sentence 19 = .ok (.putfield 444, 3) := by decide +kernel
theorem dX13_sentence_22 : decode cX13_sentence 22 = .ok (.aload_n 0, 1) := by decide +kernel
theorem dX13_sentence_23 : decode cX13_sentence 23 = .ok (.iconst 0, 1) := by decide +kernel
theorem dX13_sentence_24 : decode cX13_sentence 24 = .ok (.putfield 459, 3) := by decide +kernel
theorem dX13_sentence_27 : decode cX13_sentence 27 = .ok (.aload_n 0, 1) := by decide +kernel
theorem dX13_sentence_28 : decode cX13_sentence 28 = .ok (.iconst 0, 1) := by decide +kernel
theorem dX13_sentence_29 : decode cX13_sentence 29 = .ok (.putfield 447, 3) := by decide +kernel
theorem dX13_sentence_32 : decode cX13_sentence 32 = .ok (.aload_n 0, 1) := by decide +kernel
theorem dX13_sentence_33 : decode cX13_sentence 33 = .ok (.iconst 1, 1) := by decide +kernel
theorem dX13_sentence_34 : decode cX13_sentence 34 = .ok (.putfield 453, 3) := by decide +kernel
theorem dX13_sentence_37 : decode cX13_sentence 37 = .ok (.aload_n 0, 1) := by decide +kernel
theorem dX13_sentence_38 : decode cX13_sentence 38 = .ok (.iconst 0, 1) := by decide +kernel
theorem dX13_sentence_39 : decode cX13_sentence 39 = .ok (.putfield 462, 3) := by decide +kernel
theorem dX13_sentence_42 : decode cX13_sentence 42 = .ok (.aload_n 0, 1) := by decide +kernel
theorem dX13_sentence_43 : decode cX13_sentence 43 = .ok (.invokevirtual 190, 3) := by decide +kernel
theorem dX13_sentence_46 : decode cX13_sentence 46 = .ok (.iconst 1, 1) := by decide +kernel
theorem dX13_sentence_47 : decode cX13_sentence 47 = .ok (.istore_n 1, 1) := by decide +kernel
theorem dX13_sentence_48 : decode cX13_sentence 48 = .ok (.iload_n 1, 1) := by decide +kernel
theorem dX13_sentence_49 : decode cX13_sentence 49 = .ok (.ifCond .eq 83, 3) := by decide +kernel
theorem dX13_sentence_52 : decode cX13_sentence 52 = .ok (.aload_n 0, 1) := by decide +kernel
theorem dX13_sentence_53 : decode cX13_sentence 53 = .ok (.getfield 462, 3) := by decide +kernel
theorem dX13_sentence_56 : decode cX13_sentence 56 = .ok (.ifCond .eq 45, 3) := by decide +kernel
theorem dX13_sentence_59 : decode cX13_sentence 59 = .ok (.aload_n 0, 1) := by decide +kernel
theorem dX13_sentence_60 : decode cX13_sentence 60 = .ok (.getfield 161, 3) := by decide +kernel
theorem dX13_sentence_63 : decode cX13_sentence 63 = .ok (.ifCond .ne 38, 3) := by decide +kernel
theorem dX13_sentence_66 : decode cX13_sentence 66 = .ok (.aload_n 0, 1) := by decide +kernel
theorem dX13_sentence_67 : decode cX13_sentence 67 = .ok (.invokevirtual 465, 3) := by decide +kernel
theorem dX13_sentence_70 : decode cX13_sentence 70 = .ok (.aload_n 0, 1) := by decide +kernel
theorem dX13_sentence_71 : decode cX13_sentence 71 = .ok (.bipush 22, 2) := by decide +kernel
theorem dX13_sentence_73 : decode cX13_sentence 73 = .ok (.invokevirtual 468, 3) := by decide +kernel
theorem dX13_sentence_76 : decode cX13_sentence 76 = .ok (.aload_n 0, 1) := by decide +kernel
theorem dX13_sentence_77 : decode cX13_sentence 77 = .ok (.getfield 447, 3) := by decide +kernel
theorem dX13_sentence_80 : decode cX13_sentence 80 = .ok (.ifCond .le 16, 3) := by decide +kernel
theorem dX13_sentence_83 : decode cX13_sentence 83 = .ok (.aload_n 0, 1) := by decide +kernel
theorem dX13_sentence_84 : decode cX13_sentence 84 = .ok (.iconst 1, 1) := by decide +kernel
theorem dX13_sentence_85 : decode cX13_sentence 85 = .ok (.invokevirtual 187, 3) := by decide +kernel
theorem dX13_sentence_88 : decode cX13_sentence 88 = .ok (.pop, 1) := by decide +kernel
theorem dX13_sentence_89 : decode cX13_sentence 89 = .ok (.iconst (-1), 1) := by decide +kernel
theorem dX13_sentence_90 : decode cX13_sentence 90 = .ok (.aload_n 0, 1) := by decide +kernel
theorem dX13_sentence_91 : decode cX13_sentence 91 = .ok (.getfield 181, 3) := by decide +kernel
theorem dX13_sentence_94 : decode cX13_sentence 94 = .ok (.isub, 1) := by decide +kernel
theorem dX13_sentence_95 : decode cX13_sentence 95 = .ok (.ireturn, 1) := by decide +kernel
theorem dX13_sentence_96 : decode cX13_sentence 96 = .ok (.iconst 0, 1) := by decide +kernel
theorem dX13_sentence_97 : decode cX13_sentence 97 = .ok (.istore_n 1, 1) := by decide +kernel
theorem dX13_sentence_98 : decode cX13_sentence 98 = .ok (.goto (-50), 3) := by decide +kernel
theorem dX13_sentence_101 : decode cX13_sentence 101 = .ok (.aload_n 0, 1) := by decide +kernel
theorem dX13_sentence_102 : decode cX13_sentence 102 = .ok (.getfield 462, 3) := by decide +kernel
theorem dX13_sentence_105 : decode cX13_sentence 105 = .ok (.ifCond .eq 13, 3) := by decide +kernel
theorem dX13_sentence_108 : decode cX13_sentence 108 = .ok (.aload_n 0, 1) := by decide +kernel
theorem dX13_sentence_109 : decode cX13_sentence 109 = .ok (.invokevirtual 471, 3) := by decide +kernel
theorem dX13_sentence_112 : decode cX13_sentence 112 = .ok (.ifCond .ne (-64), 3) := by decide +kernel
theorem dX13_sentence_115 : decode cX13_sentence 115 = .ok (.goto 10, 3) := by decide +kernel
theorem dX13_sentence_118 : decode cX13_sentence 118 = .ok (.aload_n 0, 1) := by decide +kernel
theorem dX13_sentence_119 : decode cX13_sentence 119 = .ok (.invokevirtual 474, 3) := by decide +kernel
theorem dX13_sentence_122 : decode cX13_sentence 122 = .ok (.ifCond .ne (-74), 3) := by decide +kernel
theorem dX13_sentence_125 : decode cX13_sentence 125 = .ok (.iconst (-1), 1) := by decide +kernel
theorem dX13_sentence_126 : decode cX13_sentence 126 = .ok (.aload_n 0, 1) := by decide +kernel
theorem dX13_sentence_127 : decode cX13_sentence 127 = .ok (.getfield 181, 3) := by decide +kernel
theorem dX13_sentence_130 : decode cX13_sentence 130 = .ok (.isub, 1) := by decide +kernel
theorem dX13_sentence_131 : decode cX13_sentence 131 = .ok (.ireturn, 1) := by decide +kernel
theorem dX13_sentence_132 : decode cX13_sentence 132 = .ok (.aload_n 0, 1) := by decide +kernel
theorem dX13_sentence_133 : decode cX13_sentence 133 = .ok (.getfield 33, 3) := by decide +kernel
theorem dX13_sentence_136 : decode cX13_sentence 136 = .ok (.bipush 113, 2) := by decide +kernel
theorem dX13_sentence_138 : decode cX13_sentence 138 = .ok (.aload_n 0, 1) := by decide +kernel
theorem dX13_sentence_139 : decode cX13_sentence 139 = .ok (.getfield 444, 3) := by decide +kernel
theorem dX13_sentence_142 : decode cX13_sentence 142 = .ok (.iastore, 1) := by decide +kernel
theorem dX13_sentence_143 : decode cX13_sentence 143 = .ok (.iconst 0, 1) := by decide +kernel
theorem dX13_sentence_144 : decode cX13_sentence 144 = .ok (.istore_n 2, 1) := by decide +kernel
theorem dX13_sentence_145 : decode cX13_sentence 145 = .ok (.iload_n 2, 1) := by decide +kernel
theorem dX13_sentence_146 : decode cX13_sentence 146 = .ok (.iconst 3, 1) := by decide +kernel
theorem dX13_sentence_147 : decode cX13_sentence 147 = .ok (.aload_n 0, 1) := by decide +kernel
theorem dX13_sentence_148 : decode cX13_sentence 148 = .ok (.getfield 444, 3) := by decide +kernel
theorem dX13_sentence_151 : decode cX13_sentence 151 = .ok (.imul, 1) := by decide +kernel
theorem dX13_sentence_152 : decode cX13_sentence 152 = .ok (.if_icmp .ge 24, 3) := by decide +kernel
theorem dX13_sentence_155 : decode cX13_sentence 155 = .ok (.aload_n 0, 1) := by decide +kernel
theorem dX13_sentence_156 : decode cX13_sentence 156 = .ok (.getfield 33, 3) := by decide +kernel
theorem dX13_sentence_159 : decode cX13_sentence 159 = .ok (.bipush 114, 2) := by decide +kernel
theorem dX13_sentence_161 : decode cX13_sentence 161 = .ok (.iload_n 2, 1) := by decide +kernel
theorem dX13_sentence_162 : decode cX13_sentence 162 = .ok (.iadd, 1) := by decide +kernel
theorem dX13_sentence_163 : decode cX13_sentence 163 = .ok (.aload_n 0, 1) := by decide +kernel
theorem dX13_sentence_164 : decode cX13_sentence 164 = .ok (.getfield 40, 3) := by decide +kernel
theorem dX13_sentence_167 : decode cX13_sentence 167 = .ok (.iload_n 2, 1) := by decide +kernel
theorem dX13_sentence_168 : decode cX13_sentence 168 = .ok (.iaload, 1) := by decide +kernel
theorem dX13_sentence_169 : decode cX13_sentence 169 = .ok (.iastore, 1) := by decide +kernel
theorem dX13_sentence_170 : decode cX13_sentence 170 = .ok (.iinc 2 1, 3) := by decide +kernel
theorem dX13_sentence_173 : decode cX13_sentence 173 = .ok (.goto (-28), 3) := by decide +kernel
theorem dX13_sentence_176 : decode cX13_sentence 176 = .ok (.aload_n 0, 1) := by decide +kernel
theorem dX13_sentence_177 : decode cX13_sentence 177 = .ok (.getfield 459, 3) := by decide +kernel
theorem dX13_sentence_180 : decode cX13_sentence 180 = .ok (.ireturn, 1) := by decide +kernel
set_option maxRecDepth 100000 in
set_option maxHeartbeats 4000000 in
theorem wfX13_sentence_145 {E : KE} {p : Program} {l : Launch} {e : Env} {s : State} {m : MethodId} {args : Array Value} {below : List Frame} {meth : Method} {c : Code} {q : (Int32 × MM)} (C : mx_C E p m c cX13_sentence 3 s args RX13 meth (some .int))  (hT : E.1 = mt)   : ∀ (n : Nat) (i2 : Int32) (M : MM) (H : Heap) (locs : List Loc) (ls : Array Slot), fX13_sentence_145 n i2 M = some q → mx_H E s M H locs → lv_has ls 3 [(0, .ref (E.2.1.2.1 0)), (2, .int i2)] → W p l e (mx_rm 3) s m args below meth c H locs 0 0 (mx_Z E below args s (some (.int q.1)) q.2) (F0 m 145 ls []) := by
  have hx := C.1.1
  have hb := C.1.2.1
  have hown := C.1.2.2.2.1
  have hts := C.1.2.2.2.2
  intro n
  induction n with
  | zero =>
    intro i2 M H locs ls hf hM hl
    rw [fX13_sentence_145] at hf
    cases hf
  | succ n ih =>
    intro i2 M H locs ls hf hM hl
    rw [fX13_sentence_145] at hf
    refine lv_iload_n hx hb dX13_sentence_145 rfl (lv_at hl 1 rfl) ?_
    refine lv_iconst (v := (3 : Int32)) hx hb dX13_sentence_146 (by decide) ?_
    refine lv_aload_n hx hb dX13_sentence_147 rfl (lv_at hl 0 rfl) ?_
    refine g13_444 C hT hM dX13_sentence_148 ?_
    refine lv_imul hx hb dX13_sentence_151 ?_
    refine lv_icmp_ge (tgt := 176) hx hb dX13_sentence_152 (by decide) (fun hc152 => ?_) (fun hc152 => ?_)
    · replace hf := mx_ift hc152 hf
      refine lv_aload_n hx hb dX13_sentence_176 rfl (lv_at hl 0 rfl) ?_
      refine g13_459 C hT hM dX13_sentence_177 ?_
      exact mx_iret C hM hf dX13_sentence_180
    · replace hf := mx_iff hc152 hf
      refine lv_aload_n hx hb dX13_sentence_155 rfl (lv_at hl 0 rfl) ?_
      refine g13_33 C hT hM dX13_sentence_156 ?_
      refine lv_bipush (v := (114 : Int32)) hx hb dX13_sentence_159 (by decide) ?_
      refine lv_iload_n hx hb dX13_sentence_161 rfl (lv_at hl 1 rfl) ?_
      refine lv_iadd hx hb dX13_sentence_162 ?_
      refine lv_aload_n hx hb dX13_sentence_163 rfl (lv_at hl 0 rfl) ?_
      refine g13_40 C hT hM dX13_sentence_164 ?_
      refine lv_iload_n hx hb dX13_sentence_167 rfl (lv_at hl 1 rfl) ?_
      obtain ⟨hg168, hf⟩ := mx_gd hf
      refine mx_iald C hM (mt_4 hT) (mx_in_vp hg168) dX13_sentence_168 ?_
      obtain ⟨hg169, hf⟩ := mx_gd hf
      refine mx_iast C hM (mt_2 hT) (mx_in_vp hg169) dX13_sentence_169 (fun H locs hM => ?_)
      refine lv_iinc (v := (i2 + (1 : Int32))) (lv' := [(2, .int (i2 + (1 : Int32))), (0, .ref (E.2.1.2.1 0))]) hx hb dX13_sentence_170 hl (k := 1) rfl rfl (by decide) rfl (fun ls hl => ?_)
      refine lv_goto (tgt := 145) hx hb dX13_sentence_173 (by decide) ?_
      exact ih (i2 + (1 : Int32)) (mx_si M 2 ((114 : Int32) + i2).toNatClampNeg (M.1 4 i2.toNatClampNeg)) _ _ _ hf hM (lv_sub hl [1, 0] rfl)
set_option maxRecDepth 100000 in
set_option maxHeartbeats 4000000 in
theorem wfX13_sentence_101 {E : KE} {p : Program} {l : Launch} {e : Env} {s : State} {m : MethodId} {args : Array Value} {below : List Frame} {meth : Method} {c : Code} {q : (Int32 × MM)} (C : mx_C E p m c cX13_sentence 3 s args RX13 meth (some .int))  (hT : E.1 = mt)  (k48 : Bool → MM → Option (Int32 × MM)) (hk48 : ∀ (b1 : Bool) (M : MM) (H : Heap) (locs : List Loc) (ls : Array Slot), k48 b1 M = some q → mx_H E s M H locs → lv_has ls 3 [(0, .ref (E.2.1.2.1 0)), (1, .int (mx_b b1))] → W p l e (mx_rm 3) s m args below meth c H locs 0 0 (mx_Z E below args s (some (.int q.1)) q.2) (F0 m 48 ls [])) : ∀ (b1 : Bool) (M : MM) (H : Heap) (locs : List Loc) (ls : Array Slot), fX13_sentence_101 k48 b1 M = some q → mx_H E s M H locs → lv_has ls 3 [(0, .ref (E.2.1.2.1 0)), (1, .int (mx_b b1))] → W p l e (mx_rm 3) s m args below meth c H locs 0 0 (mx_Z E below args s (some (.int q.1)) q.2) (F0 m 101 ls []) := by
  have hx := C.1.1
  have hb := C.1.2.1
  have hown := C.1.2.2.2.1
  have hts := C.1.2.2.2.2
  intro b1 M H locs ls hf hM hl
  rw [fX13_sentence_101] at hf
  refine lv_aload_n hx hb dX13_sentence_101 rfl (lv_at hl 0 rfl) ?_
  refine g13_462 C hT hM dX13_sentence_102 ?_
  refine lv_if_eq (tgt := 118) hx hb dX13_sentence_105 (by decide) (fun hc105 => ?_) (fun hc105 => ?_)
  · replace hf := mx_ift hc105 hf
    refine lv_aload_n hx hb dX13_sentence_118 rfl (lv_at hl 0 rfl) ?_
    obtain ⟨q119, hq119, hf⟩ := mx_bd hf
    refine mx_callV C hM hl.1 yo_X13_operand (h' := 2) (by decide) qw_1978 qw_1980 qs_179 (ci := 13) (q := (RX13, TX13, 52)) rfl (mt_0 hT) (As := []) (rest := []) (st1 := [.int (mx_b q119.1)]) (kX13_operand C.2.2.2.1  hT M hq119) rfl rfl rfl (Nat.le_of_ble_eq_true rfl) dX13_sentence_119 (fun H locs hM => ?_)
    refine lv_if_ne (tgt := 48) hx hb dX13_sentence_122 (by decide) (fun hc122 => ?_) (fun hc122 => ?_)
    · replace hf := mx_iff hc122 hf
      exact hk48 b1 q119.2 _ _ _ hf hM (lv_sub hl [0, 1] rfl)
    · replace hf := mx_ift hc122 hf
      refine lv_iconst (v := (-1 : Int32)) hx hb dX13_sentence_125 (by decide) ?_
      refine lv_aload_n hx hb dX13_sentence_126 rfl (lv_at hl 0 rfl) ?_
      refine g13_181 C hT hM dX13_sentence_127 ?_
      refine lv_isub hx hb dX13_sentence_130 ?_
      exact mx_iret C hM hf dX13_sentence_131
  · replace hf := mx_iff hc105 hf
    refine lv_aload_n hx hb dX13_sentence_108 rfl (lv_at hl 0 rfl) ?_
    obtain ⟨q109, hq109, hf⟩ := mx_bd hf
    refine mx_callV C hM hl.1 yo_X13_behind (h' := 2) (by decide) qw_1974 qw_1976 qs_178 (ci := 13) (q := (RX13, TX13, 52)) rfl (mt_0 hT) (As := []) (rest := []) (st1 := [.int (mx_b q109.1)]) (kX13_behind C.2.2.2.1  hT M hq109) rfl rfl rfl (Nat.le_of_ble_eq_true rfl) dX13_sentence_109 (fun H locs hM => ?_)
    refine lv_if_ne (tgt := 48) hx hb dX13_sentence_112 (by decide) (fun hc112 => ?_) (fun hc112 => ?_)
    · replace hf := mx_iff hc112 hf
      exact hk48 b1 q109.2 _ _ _ hf hM (lv_sub hl [0, 1] rfl)
    · replace hf := mx_ift hc112 hf
      refine lv_goto (tgt := 125) hx hb dX13_sentence_115 (by decide) ?_
      refine lv_iconst (v := (-1 : Int32)) hx hb dX13_sentence_125 (by decide) ?_
      refine lv_aload_n hx hb dX13_sentence_126 rfl (lv_at hl 0 rfl) ?_
      refine g13_181 C hT hM dX13_sentence_127 ?_
      refine lv_isub hx hb dX13_sentence_130 ?_
      exact mx_iret C hM hf dX13_sentence_131
set_option maxRecDepth 100000 in
set_option maxHeartbeats 4000000 in
theorem wfX13_sentence_48 {E : KE} {p : Program} {l : Launch} {e : Env} {s : State} {m : MethodId} {args : Array Value} {below : List Frame} {meth : Method} {c : Code} {q : (Int32 × MM)} (C : mx_C E p m c cX13_sentence 3 s args RX13 meth (some .int))  (hT : E.1 = mt)   : ∀ (n : Nat) (b1 : Bool) (M : MM) (H : Heap) (locs : List Loc) (ls : Array Slot), fX13_sentence_48 n b1 M = some q → mx_H E s M H locs → lv_has ls 3 [(0, .ref (E.2.1.2.1 0)), (1, .int (mx_b b1))] → W p l e (mx_rm 3) s m args below meth c H locs 0 0 (mx_Z E below args s (some (.int q.1)) q.2) (F0 m 48 ls []) := by
  have hx := C.1.1
  have hb := C.1.2.1
  have hown := C.1.2.2.2.1
  have hts := C.1.2.2.2.2
  intro n
  induction n with
  | zero =>
    intro b1 M H locs ls hf hM hl
    rw [fX13_sentence_48] at hf
    cases hf
  | succ n ih =>
    intro b1 M H locs ls hf hM hl
    rw [fX13_sentence_48] at hf
    refine lv_iload_n hx hb dX13_sentence_48 rfl (lv_at hl 1 rfl) ?_
    refine lv_if_eq (tgt := 132) hx hb dX13_sentence_49 (by decide) (fun hc49 => ?_) (fun hc49 => ?_)
    · replace hf := mx_ift hc49 hf
      refine lv_aload_n hx hb dX13_sentence_132 rfl (lv_at hl 0 rfl) ?_
      refine g13_33 C hT hM dX13_sentence_133 ?_
      refine lv_bipush (v := (113 : Int32)) hx hb dX13_sentence_136 (by decide) ?_
      refine lv_aload_n hx hb dX13_sentence_138 rfl (lv_at hl 0 rfl) ?_
      refine g13_444 C hT hM dX13_sentence_139 ?_
      refine mx_iastL C hM (mt_2 hT) (j := 113) (by decide) (mx_in_vp (by decide)) dX13_sentence_142 (fun H locs hM => ?_)
      refine lv_iconst (v := (0 : Int32)) hx hb dX13_sentence_143 (by decide) ?_
      refine lv_istore_n (lv' := [(2, .int (0 : Int32)), (0, .ref (E.2.1.2.1 0)), (1, .int (mx_b b1))]) hx hb dX13_sentence_144 rfl hl (by decide) rfl (fun ls hl => ?_)
      exact wfX13_sentence_145 C hT mx_fu (0 : Int32) (mx_si M 2 113 (M.1 0 43)) _ _ _ hf hM (lv_sub hl [1, 0] rfl)
    · replace hf := mx_iff hc49 hf
      refine lv_aload_n hx hb dX13_sentence_52 rfl (lv_at hl 0 rfl) ?_
      refine g13_462 C hT hM dX13_sentence_53 ?_
      refine lv_if_eq (tgt := 101) hx hb dX13_sentence_56 (by decide) (fun hc56 => ?_) (fun hc56 => ?_)
      · replace hf := mx_ift hc56 hf
        exact wfX13_sentence_101 C hT (fX13_sentence_48 n) ih b1 M _ _ _ hf hM (lv_sub hl [0, 1] rfl)
      · replace hf := mx_iff hc56 hf
        refine lv_aload_n hx hb dX13_sentence_59 rfl (lv_at hl 0 rfl) ?_
        refine g13_161 C hT hM dX13_sentence_60 ?_
        refine lv_if_ne (tgt := 101) hx hb dX13_sentence_63 (by decide) (fun hc63 => ?_) (fun hc63 => ?_)
        · replace hf := mx_iff hc63 hf
          exact wfX13_sentence_101 C hT (fX13_sentence_48 n) ih b1 M _ _ _ hf hM (lv_sub hl [0, 1] rfl)
        · replace hf := mx_ift hc63 hf
          refine lv_aload_n hx hb dX13_sentence_66 rfl (lv_at hl 0 rfl) ?_
          obtain ⟨q67, hq67, hf⟩ := mx_bd hf
          refine mx_callV C hM hl.1 yo_X13_nots (h' := 1) (by decide) qw_1962 qw_1964 qs_175 (ci := 13) (q := (RX13, TX13, 52)) rfl (mt_0 hT) (As := []) (rest := []) (st1 := []) (kX13_nots C.2.2.2.1  hT M hq67) rfl rfl rfl (Nat.le_of_ble_eq_true rfl) dX13_sentence_67 (fun H locs hM => ?_)
          refine lv_aload_n hx hb dX13_sentence_70 rfl (lv_at hl 0 rfl) ?_
          refine lv_bipush (v := (22 : Int32)) hx hb dX13_sentence_71 (by decide) ?_
          obtain ⟨q73, hq73, hf⟩ := mx_bd hf
          refine mx_callV C hM hl.1 yo_X13_joins (h' := 1) (by decide) qw_1970 qw_1972 qs_177 (ci := 13) (q := (RX13, TX13, 52)) rfl (mt_0 hT) (As := [.int (22 : Int32)]) (rest := []) (st1 := []) (kX13_joins C.2.2.2.1 (22 : Int32) hT q67 hq73) rfl rfl rfl (Nat.le_of_ble_eq_true rfl) dX13_sentence_73 (fun H locs hM => ?_)
          refine lv_aload_n hx hb dX13_sentence_76 rfl (lv_at hl 0 rfl) ?_
          refine g13_447 C hT hM dX13_sentence_77 ?_
          refine lv_if_le (tgt := 96) hx hb dX13_sentence_80 (by decide) (fun hc80 => ?_) (fun hc80 => ?_)
          · replace hf := mx_ift hc80 hf
            refine lv_iconst (v := (0 : Int32)) hx hb dX13_sentence_96 (by decide) ?_
            refine lv_istore_n (lv' := [(1, .int (0 : Int32)), (0, .ref (E.2.1.2.1 0))]) hx hb dX13_sentence_97 rfl hl (by decide) rfl (fun ls hl => ?_)
            refine lv_goto (tgt := 48) hx hb dX13_sentence_98 (by decide) ?_
            exact ih false q73 _ _ _ hf hM (lv_sub hl [1, 0] rfl)
          · replace hf := mx_iff hc80 hf
            refine lv_aload_n hx hb dX13_sentence_83 rfl (lv_at hl 0 rfl) ?_
            refine lv_iconst (v := (1 : Int32)) hx hb dX13_sentence_84 (by decide) ?_
            obtain ⟨q85, hq85, hf⟩ := mx_bd hf
            refine mx_callV C hM hl.1 yo_X13_bad (h' := 0) (by decide) qw_1584 qw_1586 qs_118 (ci := 13) (q := (RX13, TX13, 52)) rfl (mt_0 hT) (As := [.int (1 : Int32)]) (rest := []) (st1 := [.int (mx_b q85.1)]) (kX13_bad C.2.2.2.1 (1 : Int32) hT q73 hq85) rfl rfl rfl (Nat.le_of_ble_eq_true rfl) dX13_sentence_85 (fun H locs hM => ?_)
            refine lv_pop hx hb dX13_sentence_88 rfl ?_
            refine lv_iconst (v := (-1 : Int32)) hx hb dX13_sentence_89 (by decide) ?_
            refine lv_aload_n hx hb dX13_sentence_90 rfl (lv_at hl 0 rfl) ?_
            refine g13_181 C hT hM dX13_sentence_91 ?_
            refine lv_isub hx hb dX13_sentence_94 ?_
            exact mx_iret C hM hf dX13_sentence_95
set_option maxRecDepth 100000 in
set_option maxHeartbeats 4000000 in
theorem kX13_sentence {E : KE} {l : Launch} (hE : mx_ok E)  (hT : E.1 = mt) (M : MM) {q : (Int32 × MM)} (hf : fX13_sentence M = some q) : mx_Met E l yX13_sentence cX13_sentence 3 (some .int) 3 [.ref (E.2.1.2.1 0)] M (some (.int q.1)) q.2 := by
  refine mx_enter hE (by decide) (Nat.le_of_ble_eq_true rfl) ?_
  intro p e s m below meth c C hM hn ls hl
  have hx := C.1.1
  have hb := C.1.2.1
  have hown := C.1.2.2.2.1
  have hts := C.1.2.2.2.2
  have hl : lv_has ls 3 [(0, .ref (E.2.1.2.1 0))] := hl
  rw [fX13_sentence] at hf
  refine lv_aload_n hx hb dX13_sentence_0 rfl (lv_at hl 0 rfl) ?_
  refine lv_iconst (v := (0 : Int32)) hx hb dX13_sentence_1 (by decide) ?_
  refine p13_1 C hT hM dX13_sentence_2 (fun H locs hM => ?_)
  refine lv_aload_n hx hb dX13_sentence_5 rfl (lv_at hl 0 rfl) ?_
  refine lv_sipush (v := (200 : Int32)) hx hb dX13_sentence_6 (by decide) ?_
  obtain ⟨q9, hq9, hf⟩ := mx_bd hf
  refine mx_callV C hM hl.1 yo_X13_taken (h' := 0) (by decide) qw_1554 qw_1556 qs_112 (ci := 13) (q := (RX13, TX13, 52)) rfl (mt_0 hT) (As := [.int (200 : Int32)]) (rest := []) (st1 := []) (kX13_taken C.2.2.2.1 (200 : Int32) hT (mx_si M 0 0 (0 : Int32)) hq9) rfl rfl rfl (Nat.le_of_ble_eq_true rfl) dX13_sentence_9 (fun H locs hM => ?_)
  refine lv_aload_n hx hb dX13_sentence_12 rfl (lv_at hl 0 rfl) ?_
  refine lv_iconst (v := (0 : Int32)) hx hb dX13_sentence_13 (by decide) ?_
  refine p13_178 C hT hM dX13_sentence_14 (fun H locs hM => ?_)
  refine lv_aload_n hx hb dX13_sentence_17 rfl (lv_at hl 0 rfl) ?_
  refine lv_iconst (v := (0 : Int32)) hx hb dX13_sentence_18 (by decide) ?_
  refine p13_444 C hT hM dX13_sentence_19 (fun H locs hM => ?_)
  refine lv_aload_n hx hb dX13_sentence_22 rfl (lv_at hl 0 rfl) ?_
  refine lv_iconst (v := (0 : Int32)) hx hb dX13_sentence_23 (by decide) ?_
  refine p13_459 C hT hM dX13_sentence_24 (fun H locs hM => ?_)
  refine lv_aload_n hx hb dX13_sentence_27 rfl (lv_at hl 0 rfl) ?_
  refine lv_iconst (v := (0 : Int32)) hx hb dX13_sentence_28 (by decide) ?_
  refine p13_447 C hT hM dX13_sentence_29 (fun H locs hM => ?_)
  refine lv_aload_n hx hb dX13_sentence_32 rfl (lv_at hl 0 rfl) ?_
  refine lv_iconst (v := (1 : Int32)) hx hb dX13_sentence_33 (by decide) ?_
  refine p13_453 C hT hM dX13_sentence_34 (fun H locs hM => ?_)
  refine lv_aload_n hx hb dX13_sentence_37 rfl (lv_at hl 0 rfl) ?_
  refine lv_iconst (v := (0 : Int32)) hx hb dX13_sentence_38 (by decide) ?_
  refine p13_462 C hT hM (by decide) (by decide) dX13_sentence_39 (fun H locs hM => ?_)
  refine lv_aload_n hx hb dX13_sentence_42 rfl (lv_at hl 0 rfl) ?_
  obtain ⟨q43, hq43, hf⟩ := mx_bd hf
  refine mx_callV C hM hl.1 yo_X13_next (h' := 1) (by decide) qw_1558 qw_1560 qs_113 (ci := 13) (q := (RX13, TX13, 52)) rfl (mt_0 hT) (As := []) (rest := []) (st1 := []) (kX13_next C.2.2.2.1  hT (mx_si (mx_si (mx_si (mx_si (mx_si (mx_si q9 0 15 (0 : Int32)) 0 43 (0 : Int32)) 0 44 (0 : Int32)) 0 45 (0 : Int32)) 0 46 (1 : Int32)) 0 47 (0 : Int32)) hq43) rfl rfl rfl (Nat.le_of_ble_eq_true rfl) dX13_sentence_43 (fun H locs hM => ?_)
  refine lv_iconst (v := (1 : Int32)) hx hb dX13_sentence_46 (by decide) ?_
  refine lv_istore_n (lv' := [(1, .int (1 : Int32)), (0, .ref (E.2.1.2.1 0))]) hx hb dX13_sentence_47 rfl hl (by decide) rfl (fun ls hl => ?_)
  exact wfX13_sentence_48 C hT mx_fu true q43 _ _ _ hf hM (lv_sub hl [1, 0] rfl)
theorem dX13_isHappy_0 : decode cX13_isHappy 0 = .ok (.aload_n 0, 1) := by decide +kernel
theorem dX13_isHappy_1 : decode cX13_isHappy 1 = .ok (.iload_n 1, 1) := by decide +kernel
theorem dX13_isHappy_2 : decode cX13_isHappy 2 = .ok (.invokevirtual 286, 3) := by decide +kernel
theorem dX13_isHappy_5 : decode cX13_isHappy 5 = .ok (.aload_n 0, 1) := by decide +kernel
theorem dX13_isHappy_6 : decode cX13_isHappy 6 = .ok (.bipush 92, 2) := by decide +kernel
theorem dX13_isHappy_8 : decode cX13_isHappy 8 = .ok (.iconst 1, 1) := by decide +kernel
theorem dX13_isHappy_9 : decode cX13_isHappy 9 = .ok (.invokevirtual 292, 3) := by decide +kernel
theorem dX13_isHappy_12 : decode cX13_isHappy 12 = .ok (.iand, 1) := by decide +kernel
theorem dX13_isHappy_13 : decode cX13_isHappy 13 = .ok (.ifCond .eq 23, 3) := by decide +kernel
theorem dX13_isHappy_16 : decode cX13_isHappy 16 = .ok (.aload_n 0, 1) := by decide +kernel
theorem dX13_isHappy_17 : decode cX13_isHappy 17 = .ok (.iload_n 1, 1) := by decide +kernel
theorem dX13_isHappy_18 : decode cX13_isHappy 18 = .ok (.invokevirtual 286, 3) := by decide +kernel
theorem dX13_isHappy_21 : decode cX13_isHappy 21 = .ok (.aload_n 0, 1) := by decide +kernel
theorem dX13_isHappy_22 : decode cX13_isHappy 22 = .ok (.bipush 92, 2) := by decide +kernel
theorem dX13_isHappy_24 : decode cX13_isHappy 24 = .ok (.iconst 2, 1) := by decide +kernel
theorem dX13_isHappy_25 : decode cX13_isHappy 25 = .ok (.invokevirtual 292, 3) := by decide +kernel
theorem dX13_isHappy_28 : decode cX13_isHappy 28 = .ok (.iand, 1) := by decide +kernel
theorem dX13_isHappy_29 : decode cX13_isHappy 29 = .ok (.ifCond .ne 7, 3) := by decide +kernel
theorem dX13_isHappy_32 : decode cX13_isHappy 32 = .ok (.iconst 1, 1) := by decide +kernel
theorem dX13_isHappy_33 : decode cX13_isHappy 33 = .ok (.goto 4, 3) := by decide +kernel
theorem dX13_isHappy_36 : decode cX13_isHappy 36 = .ok (.iconst 0, 1) := by decide +kernel
theorem dX13_isHappy_37 : decode cX13_isHappy 37 = .ok (.ireturn, 1) := by decide +kernel
set_option maxRecDepth 100000 in
set_option maxHeartbeats 4000000 in
theorem kX13_isHappy {E : KE} {l : Launch} (hE : mx_ok E) (i1 : Int32) (hT : E.1 = mt) (M : MM) {q : Bool} (hf : fX13_isHappy i1 M = some q) : mx_Met E l yX13_isHappy cX13_isHappy 2 (some .boolean) 1 [.ref (E.2.1.2.1 0), .int i1] M (some (.int (mx_b q))) M := by
  refine mx_enter hE (by decide) (Nat.le_of_ble_eq_true rfl) ?_
  intro p e s m below meth c C hM hn ls hl
  have hx := C.1.1
  have hb := C.1.2.1
  have hown := C.1.2.2.2.1
  have hts := C.1.2.2.2.2
  have hl : lv_has ls 2 [(0, .ref (E.2.1.2.1 0)), (1, .int i1)] := hl
  rw [fX13_isHappy] at hf
  refine lv_aload_n hx hb dX13_isHappy_0 rfl (lv_at hl 0 rfl) ?_
  refine lv_iload_n hx hb dX13_isHappy_1 rfl (lv_at hl 1 rfl) ?_
  obtain ⟨q2, hq2, hf⟩ := mx_bd hf
  refine mx_callV C hM hl.1 yo_X13_ownedBy (h' := 0) (by decide) qw_1666 qw_1668 qs_135 (ci := 13) (q := (RX13, TX13, 52)) rfl (mt_0 hT) (As := [.int i1]) (rest := []) (st1 := [.int q2]) (kX13_ownedBy C.2.2.2.1 i1 hT M hq2) rfl rfl rfl (Nat.le_of_ble_eq_true rfl) dX13_isHappy_2 (fun H locs hM => ?_)
  refine lv_aload_n hx hb dX13_isHappy_5 rfl (lv_at hl 0 rfl) ?_
  refine lv_bipush (v := (92 : Int32)) hx hb dX13_isHappy_6 (by decide) ?_
  refine lv_iconst (v := (1 : Int32)) hx hb dX13_isHappy_8 (by decide) ?_
  obtain ⟨q9, hq9, hf⟩ := mx_bd hf
  refine mx_callV C hM hl.1 yo_X13_ringsBy (h' := 0) (by decide) qw_1690 qw_1692 qs_138 (ci := 13) (q := (RX13, TX13, 52)) rfl (mt_0 hT) (As := [.int (92 : Int32), .int (1 : Int32)]) (rest := [.int q2]) (st1 := [.int q9, .int q2]) (kX13_ringsBy C.2.2.2.1 (92 : Int32) (1 : Int32) hT M hq9) rfl rfl rfl (Nat.le_of_ble_eq_true rfl) dX13_isHappy_9 (fun H locs hM => ?_)
  refine lv_iand hx hb dX13_isHappy_12 ?_
  refine lv_if_eq (tgt := 36) hx hb dX13_isHappy_13 (by decide) (fun hc13 => ?_) (fun hc13 => ?_)
  · replace hf := mx_ift hc13 hf
    refine lv_iconst (v := (0 : Int32)) hx hb dX13_isHappy_36 (by decide) ?_
    exact mx_zretR C hM (b := false) rfl hf dX13_isHappy_37
  · replace hf := mx_iff hc13 hf
    refine lv_aload_n hx hb dX13_isHappy_16 rfl (lv_at hl 0 rfl) ?_
    refine lv_iload_n hx hb dX13_isHappy_17 rfl (lv_at hl 1 rfl) ?_
    obtain ⟨q18, hq18, hf⟩ := mx_bd hf
    refine mx_callV C hM hl.1 yo_X13_ownedBy (h' := 0) (by decide) qw_1666 qw_1668 qs_135 (ci := 13) (q := (RX13, TX13, 52)) rfl (mt_0 hT) (As := [.int i1]) (rest := []) (st1 := [.int q18]) (kX13_ownedBy C.2.2.2.1 i1 hT M hq18) rfl rfl rfl (Nat.le_of_ble_eq_true rfl) dX13_isHappy_18 (fun H locs hM => ?_)
    refine lv_aload_n hx hb dX13_isHappy_21 rfl (lv_at hl 0 rfl) ?_
    refine lv_bipush (v := (92 : Int32)) hx hb dX13_isHappy_22 (by decide) ?_
    refine lv_iconst (v := (2 : Int32)) hx hb dX13_isHappy_24 (by decide) ?_
    obtain ⟨q25, hq25, hf⟩ := mx_bd hf
    refine mx_callV C hM hl.1 yo_X13_ringsBy (h' := 0) (by decide) qw_1690 qw_1692 qs_138 (ci := 13) (q := (RX13, TX13, 52)) rfl (mt_0 hT) (As := [.int (92 : Int32), .int (2 : Int32)]) (rest := [.int q18]) (st1 := [.int q25, .int q18]) (kX13_ringsBy C.2.2.2.1 (92 : Int32) (2 : Int32) hT M hq25) rfl rfl rfl (Nat.le_of_ble_eq_true rfl) dX13_isHappy_25 (fun H locs hM => ?_)
    refine lv_iand hx hb dX13_isHappy_28 ?_
    refine lv_if_ne (tgt := 36) hx hb dX13_isHappy_29 (by decide) (fun hc29 => ?_) (fun hc29 => ?_)
    · replace hf := mx_iff hc29 hf
      refine lv_iconst (v := (0 : Int32)) hx hb dX13_isHappy_36 (by decide) ?_
      exact mx_zretR C hM (b := false) rfl hf dX13_isHappy_37
    · replace hf := mx_ift hc29 hf
      refine lv_iconst (v := (1 : Int32)) hx hb dX13_isHappy_32 (by decide) ?_
      refine lv_goto (tgt := 37) hx hb dX13_isHappy_33 (by decide) ?_
      exact mx_zretR C hM (b := true) rfl hf dX13_isHappy_37
theorem dX13_isLeaf_0 : decode cX13_isLeaf 0 = .ok (.iload_n 2, 1) := by decide +kernel
theorem dX13_isLeaf_1 : decode cX13_isLeaf 1 = .ok (.tableswitch 93 0 4 #[35, 49, 55, 69, 77], 35) := by decide +kernel
theorem dX13_isLeaf_36 : decode cX13_isLeaf 36 = .ok (.aload_n 0, 1) := by decide +kernel
theorem dX13_isLeaf_37 : decode cX13_isLeaf 37 = .ok (.iload_n 1, 1) := by decide +kernel
theorem dX13_isLeaf_38 : decode cX13_isLeaf 38 = .ok (.invokevirtual 283, 3) := by decide +kernel
theorem dX13_isLeaf_41 : decode cX13_isLeaf 41 = .ok (.ifCond .lt 7, 3) := by decide +kernel
theorem dX13_isLeaf_44 : decode cX13_isLeaf 44 = .ok (.iconst 1, 1) := by decide +kernel
theorem dX13_isLeaf_45 : decode cX13_isLeaf 45 = .ok (.goto 4, 3) := by decide +kernel
theorem dX13_isLeaf_48 : decode cX13_isLeaf 48 = .ok (.iconst 0, 1) := by decide +kernel
theorem dX13_isLeaf_49 : decode cX13_isLeaf 49 = .ok (.ireturn, 1) := by decide +kernel
theorem dX13_isLeaf_50 : decode cX13_isLeaf 50 = .ok (.aload_n 0, 1) := by decide +kernel
theorem dX13_isLeaf_51 : decode cX13_isLeaf 51 = .ok (.iload_n 1, 1) := by decide +kernel
theorem dX13_isLeaf_52 : decode cX13_isLeaf 52 = .ok (.invokevirtual 477, 3) := by decide +kernel
theorem dX13_isLeaf_55 : decode cX13_isLeaf 55 = .ok (.ireturn, 1) := by decide +kernel
theorem dX13_isLeaf_56 : decode cX13_isLeaf 56 = .ok (.aload_n 0, 1) := by decide +kernel
theorem dX13_isLeaf_57 : decode cX13_isLeaf 57 = .ok (.iload_n 1, 1) := by decide +kernel
theorem dX13_isLeaf_58 : decode cX13_isLeaf 58 = .ok (.invokevirtual 286, 3) := by decide +kernel
theorem dX13_isLeaf_61 : decode cX13_isLeaf 61 = .ok (.ifCond .ne 7, 3) := by decide +kernel
theorem dX13_isLeaf_64 : decode cX13_isLeaf 64 = .ok (.iconst 1, 1) := by decide +kernel
theorem dX13_isLeaf_65 : decode cX13_isLeaf 65 = .ok (.goto 4, 3) := by decide +kernel
theorem dX13_isLeaf_68 : decode cX13_isLeaf 68 = .ok (.iconst 0, 1) := by decide +kernel
theorem dX13_isLeaf_69 : decode cX13_isLeaf 69 = .ok (.ireturn, 1) := by decide +kernel
theorem dX13_isLeaf_70 : decode cX13_isLeaf 70 = .ok (.aload_n 0, 1) := by decide +kernel
theorem dX13_isLeaf_71 : decode cX13_isLeaf 71 = .ok (.iload_n 1, 1) := by decide +kernel
theorem dX13_isLeaf_72 : decode cX13_isLeaf 72 = .ok (.iload 4, 2) := by decide +kernel
theorem dX13_isLeaf_74 : decode cX13_isLeaf 74 = .ok (.invokevirtual 301, 3) := by decide +kernel
theorem dX13_isLeaf_77 : decode cX13_isLeaf 77 = .ok (.ireturn, 1) := by decide +kernel
theorem dX13_isLeaf_78 : decode cX13_isLeaf 78 = .ok (.aload_n 0, 1) := by decide +kernel
theorem dX13_isLeaf_79 : decode cX13_isLeaf 79 = .ok (.iload_n 1, 1) := by decide +kernel
theorem dX13_isLeaf_80 : decode cX13_isLeaf 80 = .ok (.iload 4, 2) := by decide +kernel
theorem dX13_isLeaf_82 : decode cX13_isLeaf 82 = .ok (.invokevirtual 295, 3) := by decide +kernel
theorem dX13_isLeaf_85 : decode cX13_isLeaf 85 = .ok (.ifCond .ne 7, 3) := by decide +kernel
theorem dX13_isLeaf_88 : decode cX13_isLeaf 88 = .ok (.iconst 1, 1) := by decide +kernel
theorem dX13_isLeaf_89 : decode cX13_isLeaf 89 = .ok (.goto 4, 3) := by decide +kernel
theorem dX13_isLeaf_92 : decode cX13_isLeaf 92 = .ok (.iconst 0, 1) := by decide +kernel
theorem dX13_isLeaf_93 : decode cX13_isLeaf 93 = .ok (.ireturn, 1) := by decide +kernel
theorem dX13_isLeaf_94 : decode cX13_isLeaf 94 = .ok (.iload_n 2, 1) := by decide +kernel
theorem dX13_isLeaf_95 : decode cX13_isLeaf 95 = .ok (.iconst 5, 1) := by decide +kernel
theorem dX13_isLeaf_96 : decode cX13_isLeaf 96 = .ok (.if_icmp .ne 14, 3) := by decide +kernel
theorem dX13_isLeaf_99 : decode cX13_isLeaf 99 = .ok (.aload_n 0, 1) := by decide +kernel
theorem dX13_isLeaf_100 : decode cX13_isLeaf 100 = .ok (.iload_n 1, 1) := by decide +kernel
theorem dX13_isLeaf_101 : decode cX13_isLeaf 101 = .ok (.invokevirtual 280, 3) := by decide +kernel
theorem dX13_isLeaf_104 : decode cX13_isLeaf 104 = .ok (.invokestatic 304, 3) := by decide +kernel
theorem dX13_isLeaf_107 : decode cX13_isLeaf 107 = .ok (.goto 40, 3) := by decide +kernel
theorem dX13_isLeaf_110 : decode cX13_isLeaf 110 = .ok (.iload_n 2, 1) := by decide +kernel
theorem dX13_isLeaf_111 : decode cX13_isLeaf 111 = .ok (.bipush 6, 2) := by decide +kernel
theorem dX13_isLeaf_113 : decode cX13_isLeaf 113 = .ok (.if_icmp .ne 15, 3) := by decide +kernel
theorem dX13_isLeaf_116 : decode cX13_isLeaf 116 = .ok (.aload_n 0, 1) := by decide +kernel
theorem dX13_isLeaf_117 : decode cX13_isLeaf 117 = .ok (.getfield 33, 3) := by decide +kernel
theorem dX13_isLeaf_120 : decode cX13_isLeaf 120 = .ok (.bipush 71, 2) := by decide +kernel
theorem dX13_isLeaf_122 : decode cX13_isLeaf 122 = .ok (.iload_n 1, 1) := by decide +kernel
theorem dX13_isLeaf_123 : decode cX13_isLeaf 123 = .ok (.iadd, 1) := by decide +kernel
theorem dX13_isLeaf_124 : decode cX13_isLeaf 124 = .ok (.iaload, 1) := by decide +kernel
theorem dX13_isLeaf_125 : decode cX13_isLeaf 125 = .ok (.goto 22, 3) := by decide +kernel
theorem dX13_isLeaf_128 : decode cX13_isLeaf 128 = .ok (.iload_n 2, 1) := by decide +kernel
theorem dX13_isLeaf_129 : decode cX13_isLeaf 129 = .ok (.bipush 7, 2) := by decide +kernel
theorem dX13_isLeaf_131 : decode cX13_isLeaf 131 = .ok (.if_icmp .ne 15, 3) := by decide +kernel
theorem dX13_isLeaf_134 : decode cX13_isLeaf 134 = .ok (.aload_n 0, 1) := by decide +kernel
theorem dX13_isLeaf_135 : decode cX13_isLeaf 135 = .ok (.getfield 33, 3) := by decide +kernel
theorem dX13_isLeaf_138 : decode cX13_isLeaf 138 = .ok (.bipush 19, 2) := by decide +kernel
theorem dX13_isLeaf_140 : decode cX13_isLeaf 140 = .ok (.iload_n 1, 1) := by decide +kernel
theorem dX13_isLeaf_141 : decode cX13_isLeaf 141 = .ok (.iadd, 1) := by decide +kernel
theorem dX13_isLeaf_142 : decode cX13_isLeaf 142 = .ok (.iaload, 1) := by decide +kernel
theorem dX13_isLeaf_143 : decode cX13_isLeaf 143 = .ok (.goto 4, 3) := by decide +kernel
theorem dX13_isLeaf_146 : decode cX13_isLeaf 146 = .ok (.iload_n 1, 1) := by decide +kernel
theorem dX13_isLeaf_147 : decode cX13_isLeaf 147 = .ok (.istore 5, 2) := by decide +kernel
theorem dX13_isLeaf_149 : decode cX13_isLeaf 149 = .ok (.iload_n 3, 1) := by decide +kernel
theorem dX13_isLeaf_150 : decode cX13_isLeaf 150 = .ok (.bipush 60, 2) := by decide +kernel
theorem dX13_isLeaf_152 : decode cX13_isLeaf 152 = .ok (.if_icmp .ne 18, 3) := by decide +kernel
theorem dX13_isLeaf_155 : decode cX13_isLeaf 155 = .ok (.iload 5, 2) := by decide +kernel
theorem dX13_isLeaf_157 : decode cX13_isLeaf 157 = .ok (.iload 4, 2) := by decide +kernel
theorem dX13_isLeaf_159 : decode cX13_isLeaf 159 = .ok (.if_icmp .ge 7, 3) := by decide +kernel
theorem dX13_isLeaf_162 : decode cX13_isLeaf 162 = .ok (.iconst 1, 1) := by decide +kernel
theorem dX13_isLeaf_163 : decode cX13_isLeaf 163 = .ok (.goto 40, 3) := by decide +kernel
theorem dX13_isLeaf_166 : decode cX13_isLeaf 166 = .ok (.iconst 0, 1) := by decide +kernel
theorem dX13_isLeaf_167 : decode cX13_isLeaf 167 = .ok (.goto 36, 3) := by decide +kernel
theorem dX13_isLeaf_170 : decode cX13_isLeaf 170 = .ok (.iload_n 3, 1) := by decide +kernel
theorem dX13_isLeaf_171 : decode cX13_isLeaf 171 = .ok (.bipush 61, 2) := by decide +kernel
theorem dX13_isLeaf_173 : decode cX13_isLeaf 173 = .ok (.if_icmp .ne 18, 3) := by decide +kernel
theorem dX13_isLeaf_176 : decode cX13_isLeaf 176 = .ok (.iload 5, 2) := by decide +kernel
theorem dX13_isLeaf_178 : decode cX13_isLeaf 178 = .ok (.iload 4, 2) := by decide +kernel
theorem dX13_isLeaf_180 : decode cX13_isLeaf 180 = .ok (.if_icmp .ne 7, 3) := by decide +kernel
theorem dX13_isLeaf_183 : decode cX13_isLeaf 183 = .ok (.iconst 1, 1) := by decide +kernel
theorem dX13_isLeaf_184 : decode cX13_isLeaf 184 = .ok (.goto 19, 3) := by decide +kernel
theorem dX13_isLeaf_187 : decode cX13_isLeaf 187 = .ok (.iconst 0, 1) := by decide +kernel
theorem dX13_isLeaf_188 : decode cX13_isLeaf 188 = .ok (.goto 15, 3) := by decide +kernel
theorem dX13_isLeaf_191 : decode cX13_isLeaf 191 = .ok (.iload 5, 2) := by decide +kernel
theorem dX13_isLeaf_193 : decode cX13_isLeaf 193 = .ok (.iload 4, 2) := by decide +kernel
theorem dX13_isLeaf_195 : decode cX13_isLeaf 195 = .ok (.if_icmp .le 7, 3) := by decide +kernel
theorem dX13_isLeaf_198 : decode cX13_isLeaf 198 = .ok (.iconst 1, 1) := by decide +kernel
theorem dX13_isLeaf_199 : decode cX13_isLeaf 199 = .ok (.goto 4, 3) := by decide +kernel
theorem dX13_isLeaf_202 : decode cX13_isLeaf 202 = .ok (.iconst 0, 1) := by decide +kernel
theorem dX13_isLeaf_203 : decode cX13_isLeaf 203 = .ok (.ireturn, 1) := by decide +kernel
set_option maxRecDepth 100000 in
set_option maxHeartbeats 4000000 in
theorem wfX13_isLeaf_147 {E : KE} {p : Program} {l : Launch} {e : Env} {s : State} {m : MethodId} {args : Array Value} {below : List Frame} {meth : Method} {c : Code} {q : Bool} (C : mx_C E p m c cX13_isLeaf 6 s args RX13 meth (some .boolean)) (i1 : Int32) (i2 : Int32) (i3 : Int32) (i4 : Int32) (M : MM) (hT : E.1 = mt)   : ∀ (is0 : Int32) (H : Heap) (locs : List Loc) (ls : Array Slot), fX13_isLeaf_147 i1 i2 i3 i4 M is0 = some q → mx_H E s M H locs → lv_has ls 6 [(3, .int i3), (4, .int i4)] → W p l e (mx_rm 3) s m args below meth c H locs 0 0 (mx_Z E below args s (some (.int (mx_b q))) M) (F0 m 147 ls [.int is0]) := by
  have hx := C.1.1
  have hb := C.1.2.1
  have hown := C.1.2.2.2.1
  have hts := C.1.2.2.2.2
  intro is0 H locs ls hf hM hl
  rw [fX13_isLeaf_147] at hf
  refine lv_istore (lv' := [(5, .int is0), (3, .int i3), (4, .int i4)]) hx hb dX13_isLeaf_147 hl (by decide) rfl (fun ls hl => ?_)
  refine lv_iload_n hx hb dX13_isLeaf_149 rfl (lv_at hl 1 rfl) ?_
  refine lv_bipush (v := (60 : Int32)) hx hb dX13_isLeaf_150 (by decide) ?_
  refine lv_icmp_ne (tgt := 170) hx hb dX13_isLeaf_152 (by decide) (fun hc152 => ?_) (fun hc152 => ?_)
  · replace hf := mx_iff hc152 hf
    refine lv_iload_n hx hb dX13_isLeaf_170 rfl (lv_at hl 1 rfl) ?_
    refine lv_bipush (v := (61 : Int32)) hx hb dX13_isLeaf_171 (by decide) ?_
    refine lv_icmp_ne (tgt := 191) hx hb dX13_isLeaf_173 (by decide) (fun hc173 => ?_) (fun hc173 => ?_)
    · replace hf := mx_iff hc173 hf
      refine lv_iload hx hb dX13_isLeaf_191 (lv_at hl 0 rfl) ?_
      refine lv_iload hx hb dX13_isLeaf_193 (lv_at hl 2 rfl) ?_
      refine lv_icmp_le (tgt := 202) hx hb dX13_isLeaf_195 (by decide) (fun hc195 => ?_) (fun hc195 => ?_)
      · replace hf := mx_ift hc195 hf
        refine lv_iconst (v := (0 : Int32)) hx hb dX13_isLeaf_202 (by decide) ?_
        exact mx_zretR C hM (b := false) rfl hf dX13_isLeaf_203
      · replace hf := mx_iff hc195 hf
        refine lv_iconst (v := (1 : Int32)) hx hb dX13_isLeaf_198 (by decide) ?_
        refine lv_goto (tgt := 203) hx hb dX13_isLeaf_199 (by decide) ?_
        exact mx_zretR C hM (b := true) rfl hf dX13_isLeaf_203
    · replace hf := mx_ift hc173 hf
      refine lv_iload hx hb dX13_isLeaf_176 (lv_at hl 0 rfl) ?_
      refine lv_iload hx hb dX13_isLeaf_178 (lv_at hl 2 rfl) ?_
      refine lv_icmp_ne (tgt := 187) hx hb dX13_isLeaf_180 (by decide) (fun hc180 => ?_) (fun hc180 => ?_)
      · replace hf := mx_iff hc180 hf
        refine lv_iconst (v := (0 : Int32)) hx hb dX13_isLeaf_187 (by decide) ?_
        refine lv_goto (tgt := 203) hx hb dX13_isLeaf_188 (by decide) ?_
        exact mx_zretR C hM (b := false) rfl hf dX13_isLeaf_203
      · replace hf := mx_ift hc180 hf
        refine lv_iconst (v := (1 : Int32)) hx hb dX13_isLeaf_183 (by decide) ?_
        refine lv_goto (tgt := 203) hx hb dX13_isLeaf_184 (by decide) ?_
        exact mx_zretR C hM (b := true) rfl hf dX13_isLeaf_203
  · replace hf := mx_ift hc152 hf
    refine lv_iload hx hb dX13_isLeaf_155 (lv_at hl 0 rfl) ?_
    refine lv_iload hx hb dX13_isLeaf_157 (lv_at hl 2 rfl) ?_
    refine lv_icmp_ge (tgt := 166) hx hb dX13_isLeaf_159 (by decide) (fun hc159 => ?_) (fun hc159 => ?_)
    · replace hf := mx_ift hc159 hf
      refine lv_iconst (v := (0 : Int32)) hx hb dX13_isLeaf_166 (by decide) ?_
      refine lv_goto (tgt := 203) hx hb dX13_isLeaf_167 (by decide) ?_
      exact mx_zretR C hM (b := false) rfl hf dX13_isLeaf_203
    · replace hf := mx_iff hc159 hf
      refine lv_iconst (v := (1 : Int32)) hx hb dX13_isLeaf_162 (by decide) ?_
      refine lv_goto (tgt := 203) hx hb dX13_isLeaf_163 (by decide) ?_
      exact mx_zretR C hM (b := true) rfl hf dX13_isLeaf_203
set_option maxRecDepth 100000 in
set_option maxHeartbeats 4000000 in
theorem kX13_isLeaf {E : KE} {l : Launch} (hE : mx_ok E) (i1 : Int32) (i2 : Int32) (i3 : Int32) (i4 : Int32) (hT : E.1 = mt) (M : MM) {q : Bool} (hf : fX13_isLeaf i1 i2 i3 i4 M = some q) : mx_Met E l yX13_isLeaf cX13_isLeaf 6 (some .boolean) 3 [.ref (E.2.1.2.1 0), .int i1, .int i2, .int i3, .int i4] M (some (.int (mx_b q))) M := by
  refine mx_enter hE (by decide) (Nat.le_of_ble_eq_true rfl) ?_
  intro p e s m below meth c C hM hn ls hl
  have hx := C.1.1
  have hb := C.1.2.1
  have hown := C.1.2.2.2.1
  have hts := C.1.2.2.2.2
  have hl : lv_has ls 6 [(0, .ref (E.2.1.2.1 0)), (1, .int i1), (2, .int i2), (3, .int i3), (4, .int i4)] := hl
  rw [fX13_isLeaf] at hf
  refine lv_iload_n hx hb dX13_isLeaf_0 rfl (lv_at hl 2 rfl) ?_
  by_cases hs0 : i2 = 0
  · replace hf := mx_ift hs0 hf
    refine lv_tableIn (tgt := 36) hx hb dX13_isLeaf_1 (by rw [hs0]; decide) (by rw [hs0]; decide) (by rw [hs0]; rfl) (by decide) ?_
    refine lv_aload_n hx hb dX13_isLeaf_36 rfl (lv_at hl 0 rfl) ?_
    refine lv_iload_n hx hb dX13_isLeaf_37 rfl (lv_at hl 1 rfl) ?_
    obtain ⟨q38, hq38, hf⟩ := mx_bd hf
    refine mx_callV C hM hl.1 yo_X13_wornBy (h' := 0) (by decide) qw_1662 qw_1664 qs_134 (ci := 13) (q := (RX13, TX13, 52)) rfl (mt_0 hT) (As := [.int i1]) (rest := []) (st1 := [.int q38]) (kX13_wornBy C.2.2.2.1 i1 hT M hq38) rfl rfl rfl (Nat.le_of_ble_eq_true rfl) dX13_isLeaf_38 (fun H locs hM => ?_)
    refine lv_if_lt (tgt := 48) hx hb dX13_isLeaf_41 (by decide) (fun hc41 => ?_) (fun hc41 => ?_)
    · replace hf := mx_ift hc41 hf
      refine lv_iconst (v := (0 : Int32)) hx hb dX13_isLeaf_48 (by decide) ?_
      exact mx_zretR C hM (b := false) rfl hf dX13_isLeaf_49
    · replace hf := mx_iff hc41 hf
      refine lv_iconst (v := (1 : Int32)) hx hb dX13_isLeaf_44 (by decide) ?_
      refine lv_goto (tgt := 49) hx hb dX13_isLeaf_45 (by decide) ?_
      exact mx_zretR C hM (b := true) rfl hf dX13_isLeaf_49
  replace hf := mx_iff hs0 hf
  by_cases hs1 : i2 = 1
  · replace hf := mx_ift hs1 hf
    refine lv_tableIn (tgt := 50) hx hb dX13_isLeaf_1 (by rw [hs1]; decide) (by rw [hs1]; decide) (by rw [hs1]; rfl) (by decide) ?_
    refine lv_aload_n hx hb dX13_isLeaf_50 rfl (lv_at hl 0 rfl) ?_
    refine lv_iload_n hx hb dX13_isLeaf_51 rfl (lv_at hl 1 rfl) ?_
    obtain ⟨q52, hq52, hf⟩ := mx_bd hf
    refine mx_callV C hM hl.1 yo_X13_isHappy (h' := 1) (by decide) qw_1998 qw_2000 qs_183 (ci := 13) (q := (RX13, TX13, 52)) rfl (mt_0 hT) (As := [.int i1]) (rest := []) (st1 := [.int (mx_b q52)]) (kX13_isHappy C.2.2.2.1 i1 hT M hq52) rfl rfl rfl (Nat.le_of_ble_eq_true rfl) dX13_isLeaf_52 (fun H locs hM => ?_)
    exact mx_zretR C hM (b := q52) rfl hf dX13_isLeaf_55
  replace hf := mx_iff hs1 hf
  by_cases hs2 : i2 = 2
  · replace hf := mx_ift hs2 hf
    refine lv_tableIn (tgt := 56) hx hb dX13_isLeaf_1 (by rw [hs2]; decide) (by rw [hs2]; decide) (by rw [hs2]; rfl) (by decide) ?_
    refine lv_aload_n hx hb dX13_isLeaf_56 rfl (lv_at hl 0 rfl) ?_
    refine lv_iload_n hx hb dX13_isLeaf_57 rfl (lv_at hl 1 rfl) ?_
    obtain ⟨q58, hq58, hf⟩ := mx_bd hf
    refine mx_callV C hM hl.1 yo_X13_ownedBy (h' := 0) (by decide) qw_1666 qw_1668 qs_135 (ci := 13) (q := (RX13, TX13, 52)) rfl (mt_0 hT) (As := [.int i1]) (rest := []) (st1 := [.int q58]) (kX13_ownedBy C.2.2.2.1 i1 hT M hq58) rfl rfl rfl (Nat.le_of_ble_eq_true rfl) dX13_isLeaf_58 (fun H locs hM => ?_)
    refine lv_if_ne (tgt := 68) hx hb dX13_isLeaf_61 (by decide) (fun hc61 => ?_) (fun hc61 => ?_)
    · replace hf := mx_iff hc61 hf
      refine lv_iconst (v := (0 : Int32)) hx hb dX13_isLeaf_68 (by decide) ?_
      exact mx_zretR C hM (b := false) rfl hf dX13_isLeaf_69
    · replace hf := mx_ift hc61 hf
      refine lv_iconst (v := (1 : Int32)) hx hb dX13_isLeaf_64 (by decide) ?_
      refine lv_goto (tgt := 69) hx hb dX13_isLeaf_65 (by decide) ?_
      exact mx_zretR C hM (b := true) rfl hf dX13_isLeaf_69
  replace hf := mx_iff hs2 hf
  by_cases hs3 : i2 = 3
  · replace hf := mx_ift hs3 hf
    refine lv_tableIn (tgt := 70) hx hb dX13_isLeaf_1 (by rw [hs3]; decide) (by rw [hs3]; decide) (by rw [hs3]; rfl) (by decide) ?_
    refine lv_aload_n hx hb dX13_isLeaf_70 rfl (lv_at hl 0 rfl) ?_
    refine lv_iload_n hx hb dX13_isLeaf_71 rfl (lv_at hl 1 rfl) ?_
    refine lv_iload hx hb dX13_isLeaf_72 (lv_at hl 4 rfl) ?_
    obtain ⟨q74, hq74, hf⟩ := mx_bd hf
    refine mx_callV C hM hl.1 yo_X13_has (h' := 0) (by decide) qw_1773 qw_1775 qs_152 (ci := 13) (q := (RX13, TX13, 52)) rfl (mt_0 hT) (As := [.int i1, .int i4]) (rest := []) (st1 := [.int (mx_b q74)]) (kX13_has C.2.2.2.1 i1 i4 hT M hq74) rfl rfl rfl (Nat.le_of_ble_eq_true rfl) dX13_isLeaf_74 (fun H locs hM => ?_)
    exact mx_zretR C hM (b := q74) rfl hf dX13_isLeaf_77
  replace hf := mx_iff hs3 hf
  by_cases hs4 : i2 = 4
  · replace hf := mx_ift hs4 hf
    refine lv_tableIn (tgt := 78) hx hb dX13_isLeaf_1 (by rw [hs4]; decide) (by rw [hs4]; decide) (by rw [hs4]; rfl) (by decide) ?_
    refine lv_aload_n hx hb dX13_isLeaf_78 rfl (lv_at hl 0 rfl) ?_
    refine lv_iload_n hx hb dX13_isLeaf_79 rfl (lv_at hl 1 rfl) ?_
    refine lv_iload hx hb dX13_isLeaf_80 (lv_at hl 4 rfl) ?_
    obtain ⟨q82, hq82, hf⟩ := mx_bd hf
    refine mx_callV C hM hl.1 yo_X13_farOf (h' := 2) (by decide) qw_1725 qw_1727 qs_144 (ci := 13) (q := (RX13, TX13, 52)) rfl (mt_0 hT) (As := [.int i1, .int i4]) (rest := []) (st1 := [.int q82]) (kX13_farOf C.2.2.2.1 i1 i4 hT M hq82) rfl rfl rfl (Nat.le_of_ble_eq_true rfl) dX13_isLeaf_82 (fun H locs hM => ?_)
    refine lv_if_ne (tgt := 92) hx hb dX13_isLeaf_85 (by decide) (fun hc85 => ?_) (fun hc85 => ?_)
    · replace hf := mx_iff hc85 hf
      refine lv_iconst (v := (0 : Int32)) hx hb dX13_isLeaf_92 (by decide) ?_
      exact mx_zretR C hM (b := false) rfl hf dX13_isLeaf_93
    · replace hf := mx_ift hc85 hf
      refine lv_iconst (v := (1 : Int32)) hx hb dX13_isLeaf_88 (by decide) ?_
      refine lv_goto (tgt := 93) hx hb dX13_isLeaf_89 (by decide) ?_
      exact mx_zretR C hM (b := true) rfl hf dX13_isLeaf_93
  replace hf := mx_iff hs4 hf
  refine lv_tableOut (tgt := 94) hx hb dX13_isLeaf_1 (by have hh := And.intro trivial trivial; have hh0 := lv_neT hs0 (by decide : (0 : Int32).toInt = 0); have hh1 := lv_neT hs1 (by decide : (1 : Int32).toInt = 1); have hh2 := lv_neT hs2 (by decide : (2 : Int32).toInt = 2); have hh3 := lv_neT hs3 (by decide : (3 : Int32).toInt = 3); have hh4 := lv_neT hs4 (by decide : (4 : Int32).toInt = 4); omega) (by decide) ?_
  refine lv_iload_n hx hb dX13_isLeaf_94 rfl (lv_at hl 2 rfl) ?_
  refine lv_iconst (v := (5 : Int32)) hx hb dX13_isLeaf_95 (by decide) ?_
  refine lv_icmp_ne (tgt := 110) hx hb dX13_isLeaf_96 (by decide) (fun hc96 => ?_) (fun hc96 => ?_)
  · replace hf := mx_iff hc96 hf
    refine lv_iload_n hx hb dX13_isLeaf_110 rfl (lv_at hl 2 rfl) ?_
    refine lv_bipush (v := (6 : Int32)) hx hb dX13_isLeaf_111 (by decide) ?_
    refine lv_icmp_ne (tgt := 128) hx hb dX13_isLeaf_113 (by decide) (fun hc113 => ?_) (fun hc113 => ?_)
    · replace hf := mx_iff hc113 hf
      refine lv_iload_n hx hb dX13_isLeaf_128 rfl (lv_at hl 2 rfl) ?_
      refine lv_bipush (v := (7 : Int32)) hx hb dX13_isLeaf_129 (by decide) ?_
      refine lv_icmp_ne (tgt := 146) hx hb dX13_isLeaf_131 (by decide) (fun hc131 => ?_) (fun hc131 => ?_)
      · replace hf := mx_iff hc131 hf
        refine lv_iload_n hx hb dX13_isLeaf_146 rfl (lv_at hl 1 rfl) ?_
        exact wfX13_isLeaf_147 C i1 i2 i3 i4 M hT i1 _ _ _ hf hM (lv_sub hl [3, 4] rfl)
      · replace hf := mx_ift hc131 hf
        refine lv_aload_n hx hb dX13_isLeaf_134 rfl (lv_at hl 0 rfl) ?_
        refine g13_33 C hT hM dX13_isLeaf_135 ?_
        refine lv_bipush (v := (19 : Int32)) hx hb dX13_isLeaf_138 (by decide) ?_
        refine lv_iload_n hx hb dX13_isLeaf_140 rfl (lv_at hl 1 rfl) ?_
        refine lv_iadd hx hb dX13_isLeaf_141 ?_
        obtain ⟨hg142, hf⟩ := mx_gd hf
        refine mx_iald C hM (mt_2 hT) (mx_in_vp hg142) dX13_isLeaf_142 ?_
        refine lv_goto (tgt := 147) hx hb dX13_isLeaf_143 (by decide) ?_
        exact wfX13_isLeaf_147 C i1 i2 i3 i4 M hT (M.1 2 ((19 : Int32) + i1).toNatClampNeg) _ _ _ hf hM (lv_sub hl [3, 4] rfl)
    · replace hf := mx_ift hc113 hf
      refine lv_aload_n hx hb dX13_isLeaf_116 rfl (lv_at hl 0 rfl) ?_
      refine g13_33 C hT hM dX13_isLeaf_117 ?_
      refine lv_bipush (v := (71 : Int32)) hx hb dX13_isLeaf_120 (by decide) ?_
      refine lv_iload_n hx hb dX13_isLeaf_122 rfl (lv_at hl 1 rfl) ?_
      refine lv_iadd hx hb dX13_isLeaf_123 ?_
      obtain ⟨hg124, hf⟩ := mx_gd hf
      refine mx_iald C hM (mt_2 hT) (mx_in_vp hg124) dX13_isLeaf_124 ?_
      refine lv_goto (tgt := 147) hx hb dX13_isLeaf_125 (by decide) ?_
      exact wfX13_isLeaf_147 C i1 i2 i3 i4 M hT (M.1 2 ((71 : Int32) + i1).toNatClampNeg) _ _ _ hf hM (lv_sub hl [3, 4] rfl)
  · replace hf := mx_ift hc96 hf
    refine lv_aload_n hx hb dX13_isLeaf_99 rfl (lv_at hl 0 rfl) ?_
    refine lv_iload_n hx hb dX13_isLeaf_100 rfl (lv_at hl 1 rfl) ?_
    obtain ⟨q101, hq101, hf⟩ := mx_bd hf
    refine mx_callV C hM hl.1 yo_X13_keptBy (h' := 1) (by decide) qw_1654 qw_1656 qs_132 (ci := 13) (q := (RX13, TX13, 52)) rfl (mt_0 hT) (As := [.int i1]) (rest := []) (st1 := [.int q101]) (kX13_keptBy C.2.2.2.1 i1 hT M hq101) rfl rfl rfl (Nat.le_of_ble_eq_true rfl) dX13_isLeaf_101 (fun H locs hM => ?_)
    obtain ⟨q104, hq104, hf⟩ := mx_bd hf
    refine mx_callS C hM hl.1 yo_X13_bits (h' := 0) (by decide) qw_1777 qw_1778 (As := [.int q101]) (rest := []) (st1 := [.int q104]) (kX13_bits C.2.2.2.1 q101 hT M hq104) rfl rfl rfl (Nat.le_of_ble_eq_true rfl) dX13_isLeaf_104 (fun H locs hM => ?_)
    refine lv_goto (tgt := 147) hx hb dX13_isLeaf_107 (by decide) ?_
    exact wfX13_isLeaf_147 C i1 i2 i3 i4 M hT q104 _ _ _ hf hM (lv_sub hl [3, 4] rfl)
theorem dX13_isSaid_0 : decode cX13_isSaid 0 = .ok (.iconst 0, 1) := by decide +kernel
theorem dX13_isSaid_1 : decode cX13_isSaid 1 = .ok (.istore_n 2, 1) := by decide +kernel
theorem dX13_isSaid_2 : decode cX13_isSaid 2 = .ok (.iconst 0, 1) := by decide +kernel
theorem dX13_isSaid_3 : decode cX13_isSaid 3 = .ok (.istore_n 3, 1) := by decide +kernel
theorem dX13_isSaid_4 : decode cX13_isSaid 4 = .ok (.iload_n 3, 1) := by decide +kernel
theorem dX13_isSaid_5 : decode cX13_isSaid 5 = .ok (.aload_n 0, 1) := by decide +kernel
theorem dX13_isSaid_6 : decode cX13_isSaid 6 = .ok (.getfield 33, 3) := by decide +kernel
theorem dX13_isSaid_9 : decode cX13_isSaid 9 = .ok (.bipush 113, 2) := by decide +kernel
theorem dX13_isSaid_11 : decode cX13_isSaid 11 = .ok (.iaload, 1) := by decide +kernel
theorem dX13_isSaid_12 : decode cX13_isSaid 12 = .ok (.if_icmp .ge 198, 3) := by decide +kernel
theorem dX13_isSaid_15 : decode cX13_isSaid 15 = .ok (.bipush 114, 2) := by decide +kernel
theorem dX13_isSaid_17 : decode cX13_isSaid 17 = .ok (.iconst 3, 1) := by decide +kernel
theorem dX13_isSaid_18 : decode cX13_isSaid 18 = .ok (.iload_n 3, 1) := by decide +kernel
theorem dX13_isSaid_19 : decode cX13_isSaid 19 = .ok (.imul, 1) := by decide +kernel
theorem dX13_isSaid_20 : decode cX13_isSaid 20 = .ok (.iadd, 1) := by decide +kernel
theorem dX13_isSaid_21 : decode cX13_isSaid 21 = .ok (.istore 4, 2) := by decide +kernel
theorem dX13_isSaid_23 : decode cX13_isSaid 23 = .ok (.aload_n 0, 1) := by decide +kernel
theorem dX13_isSaid_24 : decode cX13_isSaid 24 = .ok (.getfield 33, 3) := by decide +kernel
theorem dX13_isSaid_27 : decode cX13_isSaid 27 = .ok (.iload 4, 2) := by decide +kernel
theorem dX13_isSaid_29 : decode cX13_isSaid 29 = .ok (.iaload, 1) := by decide +kernel
theorem dX13_isSaid_30 : decode cX13_isSaid 30 = .ok (.bipush 20, 2) := by decide +kernel
theorem dX13_isSaid_32 : decode cX13_isSaid 32 = .ok (.if_icmp .ne 30, 3) := by decide +kernel
theorem dX13_isSaid_35 : decode cX13_isSaid 35 = .ok (.aload_n 0, 1) := by decide +kernel
theorem dX13_isSaid_36 : decode cX13_isSaid 36 = .ok (.getfield 89, 3) := by decide +kernel
theorem dX13_isSaid_39 : decode cX13_isSaid 39 = .ok (.iload_n 2, 1) := by decide +kernel
theorem dX13_isSaid_40 : decode cX13_isSaid 40 = .ok (.iconst 1, 1) := by decide +kernel
theorem dX13_isSaid_41 : decode cX13_isSaid 41 = .ok (.isub, 1) := by decide +kernel
theorem dX13_isSaid_42 : decode cX13_isSaid 42 = .ok (.aload_n 0, 1) := by decide +kernel
theorem dX13_isSaid_43 : decode cX13_isSaid 43 = .ok (.getfield 89, 3) := by decide +kernel
theorem dX13_isSaid_46 : decode cX13_isSaid 46 = .ok (.iload_n 2, 1) := by decide +kernel
theorem dX13_isSaid_47 : decode cX13_isSaid 47 = .ok (.iconst 1, 1) := by decide +kernel
theorem dX13_isSaid_48 : decode cX13_isSaid 48 = .ok (.isub, 1) := by decide +kernel
theorem dX13_isSaid_49 : decode cX13_isSaid 49 = .ok (.baload, 1) := by decide +kernel
theorem dX13_isSaid_50 : decode cX13_isSaid 50 = .ok (.ifCond .ne 7, 3) := by decide +kernel
theorem dX13_isSaid_53 : decode cX13_isSaid 53 = .ok (.iconst 1, 1) := by decide +kernel
theorem dX13_isSaid_54 : decode cX13_isSaid 54 = .ok (.goto 4, 3) := by decide +kernel
theorem dX13_isSaid_57 : decode cX13_isSaid 57 = .ok (.iconst 0, 1) := by decide +kernel
theorem dX13_isSaid_58 : decode cX13_isSaid 58 = .ok (.bastore, 1) := by decide +kernel
theorem dX13_isSaid_59 : decode cX13_isSaid 59 = .ok (.goto 145, 3) := by decide +kernel
theorem dX13_isSaid_62 : decode cX13_isSaid 62 = .ok (.aload_n 0, 1) := by decide +kernel
theorem dX13_isSaid_63 : decode cX13_isSaid 63 = .ok (.getfield 33, 3) := by decide +kernel
theorem dX13_isSaid_66 : decode cX13_isSaid 66 = .ok (.iload 4, 2) := by decide +kernel
theorem dX13_isSaid_68 : decode cX13_isSaid 68 = .ok (.iaload, 1) := by decide +kernel
theorem dX13_isSaid_69 : decode cX13_isSaid 69 = .ok (.bipush 21, 2) := by decide +kernel
theorem dX13_isSaid_71 : decode cX13_isSaid 71 = .ok (.if_icmp .eq 15, 3) := by decide +kernel
theorem dX13_isSaid_74 : decode cX13_isSaid 74 = .ok (.aload_n 0, 1) := by decide +kernel
theorem dX13_isSaid_75 : decode cX13_isSaid 75 = .ok (.getfield 33, 3) := by decide +kernel
theorem dX13_isSaid_78 : decode cX13_isSaid 78 = .ok (.iload 4, 2) := by decide +kernel
theorem dX13_isSaid_80 : decode cX13_isSaid 80 = .ok (.iaload, 1) := by decide +kernel
theorem dX13_isSaid_81 : decode cX13_isSaid 81 = .ok (.bipush 22, 2) := by decide +kernel
theorem dX13_isSaid_83 : decode cX13_isSaid 83 = .ok (.if_icmp .ne 82, 3) := by decide +kernel
theorem dX13_isSaid_86 : decode cX13_isSaid 86 = .ok (.iinc 2 (-1), 3) := by decide +kernel
theorem dX13_isSaid_89 : decode cX13_isSaid 89 = .ok (.aload_n 0, 1) := by decide +kernel
theorem dX13_isSaid_90 : decode cX13_isSaid 90 = .ok (.getfield 89, 3) := by decide +kernel
theorem dX13_isSaid_93 : decode cX13_isSaid 93 = .ok (.iload_n 2, 1) := by decide +kernel
theorem dX13_isSaid_94 : decode cX13_isSaid 94 = .ok (.iconst 1, 1) := by decide +kernel
theorem dX13_isSaid_95 : decode cX13_isSaid 95 = .ok (.isub, 1) := by decide +kernel
theorem dX13_isSaid_96 : decode cX13_isSaid 96 = .ok (.aload_n 0, 1) := by decide +kernel
theorem dX13_isSaid_97 : decode cX13_isSaid 97 = .ok (.getfield 33, 3) := by decide +kernel
theorem dX13_isSaid_100 : decode cX13_isSaid 100 = .ok (.iload 4, 2) := by decide +kernel
theorem dX13_isSaid_102 : decode cX13_isSaid 102 = .ok (.iaload, 1) := by decide +kernel
theorem dX13_isSaid_103 : decode cX13_isSaid 103 = .ok (.bipush 21, 2) := by decide +kernel
theorem dX13_isSaid_105 : decode cX13_isSaid 105 = .ok (.if_icmp .ne 31, 3) := by decide +kernel
theorem dX13_isSaid_108 : decode cX13_isSaid 108 = .ok (.aload_n 0, 1) := by decide +kernel
theorem dX13_isSaid_109 : decode cX13_isSaid 109 = .ok (.getfield 89, 3) := by decide +kernel
theorem dX13_isSaid_112 : decode cX13_isSaid 112 = .ok (.iload_n 2, 1) := by decide +kernel
theorem dX13_isSaid_113 : decode cX13_isSaid 113 = .ok (.iconst 1, 1) := by decide +kernel
theorem dX13_isSaid_114 : decode cX13_isSaid 114 = .ok (.isub, 1) := by decide +kernel
theorem dX13_isSaid_115 : decode cX13_isSaid 115 = .ok (.baload, 1) := by decide +kernel
theorem dX13_isSaid_116 : decode cX13_isSaid 116 = .ok (.ifCond .eq 16, 3) := by decide +kernel
theorem dX13_isSaid_119 : decode cX13_isSaid 119 = .ok (.aload_n 0, 1) := by decide +kernel
theorem dX13_isSaid_120 : decode cX13_isSaid 120 = .ok (.getfield 89, 3) := by decide +kernel
theorem dX13_isSaid_123 : decode cX13_isSaid 123 = .ok (.iload_n 2, 1) := by decide +kernel
theorem dX13_isSaid_124 : decode cX13_isSaid 124 = .ok (.baload, 1) := by decide +kernel
theorem dX13_isSaid_125 : decode cX13_isSaid 125 = .ok (.ifCond .eq 7, 3) := by decide +kernel
theorem dX13_isSaid_128 : decode cX13_isSaid 128 = .ok (.iconst 1, 1) := by decide +kernel
theorem dX13_isSaid_129 : decode cX13_isSaid 129 = .ok (.goto 32, 3) := by decide +kernel
theorem dX13_isSaid_132 : decode cX13_isSaid 132 = .ok (.iconst 0, 1) := by decide +kernel
theorem dX13_isSaid_133 : decode cX13_isSaid 133 = .ok (.goto 28, 3) := by decide +kernel
theorem dX13_isSaid_136 : decode cX13_isSaid 136 = .ok (.aload_n 0, 1) := by decide +kernel
theorem dX13_isSaid_137 : decode cX13_isSaid 137 = .ok (.getfield 89, 3) := by decide +kernel
theorem dX13_isSaid_140 : decode cX13_isSaid 140 = .ok (.iload_n 2, 1) := by decide +kernel
theorem dX13_isSaid_141 : decode cX13_isSaid 141 = .ok (.iconst 1, 1) := by decide +kernel
theorem dX13_isSaid_142 : decode cX13_isSaid 142 = .ok (.isub, 1) := by decide +kernel
theorem dX13_isSaid_143 : decode cX13_isSaid 143 = .ok (.baload, 1) := by decide +kernel
theorem dX13_isSaid_144 : decode cX13_isSaid 144 = .ok (.ifCond .ne 12, 3) := by decide +kernel
theorem dX13_isSaid_147 : decode cX13_isSaid 147 = .ok (.aload_n 0, 1) := by decide +kernel
theorem dX13_isSaid_148 : decode cX13_isSaid 148 = .ok (.getfield 89, 3) := by decide +kernel
theorem dX13_isSaid_151 : decode cX13_isSaid 151 = .ok (.iload_n 2, 1) := by decide +kernel
theorem dX13_isSaid_152 : decode cX13_isSaid 152 = .ok (.baload, 1) := by decide +kernel
theorem dX13_isSaid_153 : decode cX13_isSaid 153 = .ok (.ifCond .eq 7, 3) := by decide +kernel
theorem dX13_isSaid_156 : decode cX13_isSaid 156 = .ok (.iconst 1, 1) := by decide +kernel
theorem dX13_isSaid_157 : decode cX13_isSaid 157 = .ok (.goto 4, 3) := by decide +kernel
theorem dX13_isSaid_160 : decode cX13_isSaid 160 = .ok (.iconst 0, 1) := by decide +kernel
theorem dX13_isSaid_161 : decode cX13_isSaid 161 = .ok (.bastore, 1) := by decide +kernel
theorem dX13_isSaid_162 : decode cX13_isSaid 162 = .ok (.goto 42, 3) := by decide +kernel
theorem dX13_isSaid_165 : decode cX13_isSaid 165 = .ok (.aload_n 0, 1) := by decide +kernel
theorem dX13_isSaid_166 : decode cX13_isSaid 166 = .ok (.getfield 89, 3) := by decide +kernel
theorem dX13_isSaid_169 : decode cX13_isSaid 169 = .ok (.iload_n 2, 1) := by decide +kernel
theorem dX13_isSaid_170 : decode cX13_isSaid 170 = .ok (.aload_n 0, 1) := by decide +kernel
theorem dX13_isSaid_171 : decode cX13_isSaid 171 = .ok (.iload_n 1, 1) := by decide +kernel
theorem dX13_isSaid_172 : decode cX13_isSaid 172 = .ok (.aload_n 0, 1) := by decide +kernel
theorem dX13_isSaid_173 : decode cX13_isSaid 173 = .ok (.getfield 33, 3) := by decide +kernel
theorem dX13_isSaid_176 : decode cX13_isSaid 176 = .ok (.iload 4, 2) := by decide +kernel
theorem dX13_isSaid_178 : decode cX13_isSaid 178 = .ok (.iaload, 1) := by decide +kernel
theorem dX13_isSaid_179 : decode cX13_isSaid 179 = .ok (.aload_n 0, 1) := by decide +kernel
theorem dX13_isSaid_180 : decode cX13_isSaid 180 = .ok (.getfield 33, 3) := by decide +kernel
theorem dX13_isSaid_183 : decode cX13_isSaid 183 = .ok (.iload 4, 2) := by decide +kernel
theorem dX13_isSaid_185 : decode cX13_isSaid 185 = .ok (.iconst 1, 1) := by decide +kernel
theorem dX13_isSaid_186 : decode cX13_isSaid 186 = .ok (.iadd, 1) := by decide +kernel
theorem dX13_isSaid_187 : decode cX13_isSaid 187 = .ok (.iaload, 1) := by decide +kernel
theorem dX13_isSaid_188 : decode cX13_isSaid 188 = .ok (.aload_n 0, 1) := by decide +kernel
theorem dX13_isSaid_189 : decode cX13_isSaid 189 = .ok (.getfield 33, 3) := by decide +kernel
theorem dX13_isSaid_192 : decode cX13_isSaid 192 = .ok (.iload 4, 2) := by decide +kernel
theorem dX13_isSaid_194 : decode cX13_isSaid 194 = .ok (.iconst 2, 1) := by decide +kernel
theorem dX13_isSaid_195 : decode cX13_isSaid 195 = .ok (.iadd, 1) := by decide +kernel
theorem dX13_isSaid_196 : decode cX13_isSaid 196 = .ok (.iaload, 1) := by decide +kernel
theorem dX13_isSaid_197 : decode cX13_isSaid 197 = .ok (.invokevirtual 480, 3) := by decide +kernel
theorem dX13_isSaid_200 : decode cX13_isSaid 200 = .ok (.bastore, 1) := by decide +kernel
theorem dX13_isSaid_201 : decode cX13_isSaid 201 = .ok (.iinc 2 1, 3) := by decide +kernel
theorem dX13_isSaid_204 : decode cX13_isSaid 204 = .ok (.iinc 3 1, 3) := by decide +kernel
theorem dX13_isSaid_207 : decode cX13_isSaid 207 = .ok (.goto (-203), 3) := by decide +kernel
theorem dX13_isSaid_210 : decode cX13_isSaid 210 = .ok (.aload_n 0, 1) := by decide +kernel
theorem dX13_isSaid_211 : decode cX13_isSaid 211 = .ok (.getfield 89, 3) := by decide +kernel
theorem dX13_isSaid_214 : decode cX13_isSaid 214 = .ok (.iconst 0, 1) := by decide +kernel
theorem dX13_isSaid_215 : decode cX13_isSaid 215 = .ok (.baload, 1) := by decide +kernel
theorem dX13_isSaid_216 : decode cX13_isSaid 216 = .ok (.ireturn, 1) := by decide +kernel
set_option maxRecDepth 100000 in
set_option maxHeartbeats 4000000 in
theorem wfX13_isSaid_161 {E : KE} {p : Program} {l : Launch} {e : Env} {s : State} {m : MethodId} {args : Array Value} {below : List Frame} {meth : Method} {c : Code} {q : (Bool × MM)} (C : mx_C E p m c cX13_isSaid 5 s args RX13 meth (some .boolean)) (i1 : Int32) (hT : E.1 = mt)  (k4 : Int32 → Int32 → MM → Option (Bool × MM)) (hk4 : ∀ (i2 : Int32) (i3 : Int32) (M : MM) (H : Heap) (locs : List Loc) (ls : Array Slot), k4 i2 i3 M = some q → mx_H E s M H locs → lv_has ls 5 [(0, .ref (E.2.1.2.1 0)), (1, .int i1), (2, .int i2), (3, .int i3)] → W p l e (mx_rm 4) s m args below meth c H locs 0 0 (mx_Z E below args s (some (.int (mx_b q.1))) q.2) (F0 m 4 ls [])) : ∀ (i2 : Int32) (i3 : Int32) (is1 : Int32) (bs2 : Bool) (M : MM) (H : Heap) (locs : List Loc) (ls : Array Slot), fX13_isSaid_161 i1 k4 i2 i3 is1 bs2 M = some q → mx_H E s M H locs → lv_has ls 5 [(0, .ref (E.2.1.2.1 0)), (1, .int i1), (2, .int i2), (3, .int i3)] → W p l e (mx_rm 4) s m args below meth c H locs 0 0 (mx_Z E below args s (some (.int (mx_b q.1))) q.2) (F0 m 161 ls [.int (mx_b bs2), .int is1, .ref (E.2.1.2.1 18)]) := by
  have hx := C.1.1
  have hb := C.1.2.1
  have hown := C.1.2.2.2.1
  have hts := C.1.2.2.2.2
  intro i2 i3 is1 bs2 M H locs ls hf hM hl
  rw [fX13_isSaid_161] at hf
  obtain ⟨hg161, hf⟩ := mx_gd hf
  refine mx_zast C hM (mt_18 hT) (mx_in_vp hg161) dX13_isSaid_161 (fun H locs hM => ?_)
  refine lv_goto (tgt := 204) hx hb dX13_isSaid_162 (by decide) ?_
  refine lv_iinc (v := (i3 + (1 : Int32))) (lv' := [(3, .int (i3 + (1 : Int32))), (0, .ref (E.2.1.2.1 0)), (1, .int i1), (2, .int i2)]) hx hb dX13_isSaid_204 hl (k := 3) rfl rfl (by decide) rfl (fun ls hl => ?_)
  refine lv_goto (tgt := 4) hx hb dX13_isSaid_207 (by decide) ?_
  exact hk4 i2 (i3 + (1 : Int32)) (mx_si M 18 is1.toNatClampNeg (vp_nar .boolean (mx_b bs2))) _ _ _ hf hM (lv_sub hl [1, 2, 3, 0] rfl)
set_option maxRecDepth 100000 in
set_option maxHeartbeats 4000000 in
theorem wfX13_isSaid_156 {E : KE} {p : Program} {l : Launch} {e : Env} {s : State} {m : MethodId} {args : Array Value} {below : List Frame} {meth : Method} {c : Code} {q : (Bool × MM)} (C : mx_C E p m c cX13_isSaid 5 s args RX13 meth (some .boolean)) (i1 : Int32) (hT : E.1 = mt)  (k161 : Int32 → Int32 → Int32 → Bool → MM → Option (Bool × MM)) (hk161 : ∀ (i2 : Int32) (i3 : Int32) (is1 : Int32) (bs2 : Bool) (M : MM) (H : Heap) (locs : List Loc) (ls : Array Slot), k161 i2 i3 is1 bs2 M = some q → mx_H E s M H locs → lv_has ls 5 [(0, .ref (E.2.1.2.1 0)), (1, .int i1), (2, .int i2), (3, .int i3)] → W p l e (mx_rm 4) s m args below meth c H locs 0 0 (mx_Z E below args s (some (.int (mx_b q.1))) q.2) (F0 m 161 ls [.int (mx_b bs2), .int is1, .ref (E.2.1.2.1 18)])) : ∀ (i2 : Int32) (i3 : Int32) (is1 : Int32) (M : MM) (H : Heap) (locs : List Loc) (ls : Array Slot), fX13_isSaid_156 i1 k161 i2 i3 is1 M = some q → mx_H E s M H locs → lv_has ls 5 [(0, .ref (E.2.1.2.1 0)), (1, .int i1), (2, .int i2), (3, .int i3)] → W p l e (mx_rm 4) s m args below meth c H locs 0 0 (mx_Z E below args s (some (.int (mx_b q.1))) q.2) (F0 m 156 ls [.int is1, .ref (E.2.1.2.1 18)]) := by
  have hx := C.1.1
  have hb := C.1.2.1
  have hown := C.1.2.2.2.1
  have hts := C.1.2.2.2.2
  intro i2 i3 is1 M H locs ls hf hM hl
  rw [fX13_isSaid_156] at hf
  refine lv_iconst (v := (1 : Int32)) hx hb dX13_isSaid_156 (by decide) ?_
  refine lv_goto (tgt := 161) hx hb dX13_isSaid_157 (by decide) ?_
  exact hk161 i2 i3 is1 true M _ _ _ hf hM (lv_sub hl [0, 1, 2, 3] rfl)
set_option maxRecDepth 100000 in
set_option maxHeartbeats 4000000 in
theorem wfX13_isSaid_132 {E : KE} {p : Program} {l : Launch} {e : Env} {s : State} {m : MethodId} {args : Array Value} {below : List Frame} {meth : Method} {c : Code} {q : (Bool × MM)} (C : mx_C E p m c cX13_isSaid 5 s args RX13 meth (some .boolean)) (i1 : Int32) (hT : E.1 = mt)  (k161 : Int32 → Int32 → Int32 → Bool → MM → Option (Bool × MM)) (hk161 : ∀ (i2 : Int32) (i3 : Int32) (is1 : Int32) (bs2 : Bool) (M : MM) (H : Heap) (locs : List Loc) (ls : Array Slot), k161 i2 i3 is1 bs2 M = some q → mx_H E s M H locs → lv_has ls 5 [(0, .ref (E.2.1.2.1 0)), (1, .int i1), (2, .int i2), (3, .int i3)] → W p l e (mx_rm 4) s m args below meth c H locs 0 0 (mx_Z E below args s (some (.int (mx_b q.1))) q.2) (F0 m 161 ls [.int (mx_b bs2), .int is1, .ref (E.2.1.2.1 18)])) : ∀ (i2 : Int32) (i3 : Int32) (is1 : Int32) (M : MM) (H : Heap) (locs : List Loc) (ls : Array Slot), fX13_isSaid_132 i1 k161 i2 i3 is1 M = some q → mx_H E s M H locs → lv_has ls 5 [(0, .ref (E.2.1.2.1 0)), (1, .int i1), (2, .int i2), (3, .int i3)] → W p l e (mx_rm 4) s m args below meth c H locs 0 0 (mx_Z E below args s (some (.int (mx_b q.1))) q.2) (F0 m 132 ls [.int is1, .ref (E.2.1.2.1 18)]) := by
  have hx := C.1.1
  have hb := C.1.2.1
  have hown := C.1.2.2.2.1
  have hts := C.1.2.2.2.2
  intro i2 i3 is1 M H locs ls hf hM hl
  rw [fX13_isSaid_132] at hf
  refine lv_iconst (v := (0 : Int32)) hx hb dX13_isSaid_132 (by decide) ?_
  refine lv_goto (tgt := 161) hx hb dX13_isSaid_133 (by decide) ?_
  exact hk161 i2 i3 is1 false M _ _ _ hf hM (lv_sub hl [0, 1, 2, 3] rfl)
set_option maxRecDepth 100000 in
set_option maxHeartbeats 4000000 in
theorem wfX13_isSaid_86 {E : KE} {p : Program} {l : Launch} {e : Env} {s : State} {m : MethodId} {args : Array Value} {below : List Frame} {meth : Method} {c : Code} {q : (Bool × MM)} (C : mx_C E p m c cX13_isSaid 5 s args RX13 meth (some .boolean)) (i1 : Int32) (hT : E.1 = mt)  (k4 : Int32 → Int32 → MM → Option (Bool × MM)) (hk4 : ∀ (i2 : Int32) (i3 : Int32) (M : MM) (H : Heap) (locs : List Loc) (ls : Array Slot), k4 i2 i3 M = some q → mx_H E s M H locs → lv_has ls 5 [(0, .ref (E.2.1.2.1 0)), (1, .int i1), (2, .int i2), (3, .int i3)] → W p l e (mx_rm 4) s m args below meth c H locs 0 0 (mx_Z E below args s (some (.int (mx_b q.1))) q.2) (F0 m 4 ls [])) : ∀ (i2 : Int32) (i3 : Int32) (i4 : Int32) (M : MM) (H : Heap) (locs : List Loc) (ls : Array Slot), fX13_isSaid_86 i1 k4 i2 i3 i4 M = some q → mx_H E s M H locs → lv_has ls 5 [(0, .ref (E.2.1.2.1 0)), (1, .int i1), (2, .int i2), (3, .int i3), (4, .int i4)] → W p l e (mx_rm 4) s m args below meth c H locs 0 0 (mx_Z E below args s (some (.int (mx_b q.1))) q.2) (F0 m 86 ls []) := by
  have hx := C.1.1
  have hb := C.1.2.1
  have hown := C.1.2.2.2.1
  have hts := C.1.2.2.2.2
  intro i2 i3 i4 M H locs ls hf hM hl
  rw [fX13_isSaid_86] at hf
  refine lv_iinc (v := (i2 + (-1 : Int32))) (lv' := [(2, .int (i2 + (-1 : Int32))), (0, .ref (E.2.1.2.1 0)), (1, .int i1), (3, .int i3), (4, .int i4)]) hx hb dX13_isSaid_86 hl (k := 2) rfl rfl (by decide) rfl (fun ls hl => ?_)
  refine lv_aload_n hx hb dX13_isSaid_89 rfl (lv_at hl 1 rfl) ?_
  refine g13_89 C hT hM dX13_isSaid_90 ?_
  refine lv_iload_n hx hb dX13_isSaid_93 rfl (lv_at hl 0 rfl) ?_
  refine lv_iconst (v := (1 : Int32)) hx hb dX13_isSaid_94 (by decide) ?_
  refine lv_isub hx hb dX13_isSaid_95 ?_
  refine lv_aload_n hx hb dX13_isSaid_96 rfl (lv_at hl 1 rfl) ?_
  refine g13_33 C hT hM dX13_isSaid_97 ?_
  refine lv_iload hx hb dX13_isSaid_100 (lv_at hl 4 rfl) ?_
  obtain ⟨hg102, hf⟩ := mx_gd hf
  refine mx_iald C hM (mt_2 hT) (mx_in_vp hg102) dX13_isSaid_102 ?_
  refine lv_bipush (v := (21 : Int32)) hx hb dX13_isSaid_103 (by decide) ?_
  refine lv_icmp_ne (tgt := 136) hx hb dX13_isSaid_105 (by decide) (fun hc105 => ?_) (fun hc105 => ?_)
  · replace hf := mx_iff hc105 hf
    refine lv_aload_n hx hb dX13_isSaid_136 rfl (lv_at hl 1 rfl) ?_
    refine g13_89 C hT hM dX13_isSaid_137 ?_
    refine lv_iload_n hx hb dX13_isSaid_140 rfl (lv_at hl 0 rfl) ?_
    refine lv_iconst (v := (1 : Int32)) hx hb dX13_isSaid_141 (by decide) ?_
    refine lv_isub hx hb dX13_isSaid_142 ?_
    obtain ⟨hg143, hf⟩ := mx_gd hf
    refine mx_zald C hM (mt_18 hT) (mx_in_vp hg143) dX13_isSaid_143 ?_
    refine lv_if_ne (tgt := 156) hx hb dX13_isSaid_144 (by decide) (fun hc144 => ?_) (fun hc144 => ?_)
    · replace hf := mx_iff hc144 hf
      exact wfX13_isSaid_156 C i1 hT (fun i2' i3' is1' bs2' M' => fX13_isSaid_161 i1 k4 i2' i3' is1' bs2' M') (fun i2' i3' is1' bs2' M' H locs ls hf hM hl => wfX13_isSaid_161 C i1 hT k4 hk4 i2' i3' is1' bs2' M' H locs ls hf hM hl) (i2 + (-1 : Int32)) i3 ((i2 + (-1 : Int32)) - (1 : Int32)) M _ _ _ hf hM (lv_sub hl [1, 2, 0, 3] rfl)
    · replace hf := mx_ift hc144 hf
      refine lv_aload_n hx hb dX13_isSaid_147 rfl (lv_at hl 1 rfl) ?_
      refine g13_89 C hT hM dX13_isSaid_148 ?_
      refine lv_iload_n hx hb dX13_isSaid_151 rfl (lv_at hl 0 rfl) ?_
      obtain ⟨hg152, hf⟩ := mx_gd hf
      refine mx_zald C hM (mt_18 hT) (mx_in_vp hg152) dX13_isSaid_152 ?_
      refine lv_if_eq (tgt := 160) hx hb dX13_isSaid_153 (by decide) (fun hc153 => ?_) (fun hc153 => ?_)
      · replace hf := mx_ift hc153 hf
        refine lv_iconst (v := (0 : Int32)) hx hb dX13_isSaid_160 (by decide) ?_
        exact wfX13_isSaid_161 C i1 hT k4 hk4 (i2 + (-1 : Int32)) i3 ((i2 + (-1 : Int32)) - (1 : Int32)) false M _ _ _ hf hM (lv_sub hl [1, 2, 0, 3] rfl)
      · replace hf := mx_iff hc153 hf
        exact wfX13_isSaid_156 C i1 hT (fun i2' i3' is1' bs2' M' => fX13_isSaid_161 i1 k4 i2' i3' is1' bs2' M') (fun i2' i3' is1' bs2' M' H locs ls hf hM hl => wfX13_isSaid_161 C i1 hT k4 hk4 i2' i3' is1' bs2' M' H locs ls hf hM hl) (i2 + (-1 : Int32)) i3 ((i2 + (-1 : Int32)) - (1 : Int32)) M _ _ _ hf hM (lv_sub hl [1, 2, 0, 3] rfl)
  · replace hf := mx_ift hc105 hf
    refine lv_aload_n hx hb dX13_isSaid_108 rfl (lv_at hl 1 rfl) ?_
    refine g13_89 C hT hM dX13_isSaid_109 ?_
    refine lv_iload_n hx hb dX13_isSaid_112 rfl (lv_at hl 0 rfl) ?_
    refine lv_iconst (v := (1 : Int32)) hx hb dX13_isSaid_113 (by decide) ?_
    refine lv_isub hx hb dX13_isSaid_114 ?_
    obtain ⟨hg115, hf⟩ := mx_gd hf
    refine mx_zald C hM (mt_18 hT) (mx_in_vp hg115) dX13_isSaid_115 ?_
    refine lv_if_eq (tgt := 132) hx hb dX13_isSaid_116 (by decide) (fun hc116 => ?_) (fun hc116 => ?_)
    · replace hf := mx_ift hc116 hf
      exact wfX13_isSaid_132 C i1 hT (fun i2' i3' is1' bs2' M' => fX13_isSaid_161 i1 k4 i2' i3' is1' bs2' M') (fun i2' i3' is1' bs2' M' H locs ls hf hM hl => wfX13_isSaid_161 C i1 hT k4 hk4 i2' i3' is1' bs2' M' H locs ls hf hM hl) (i2 + (-1 : Int32)) i3 ((i2 + (-1 : Int32)) - (1 : Int32)) M _ _ _ hf hM (lv_sub hl [1, 2, 0, 3] rfl)
    · replace hf := mx_iff hc116 hf
      refine lv_aload_n hx hb dX13_isSaid_119 rfl (lv_at hl 1 rfl) ?_
      refine g13_89 C hT hM dX13_isSaid_120 ?_
      refine lv_iload_n hx hb dX13_isSaid_123 rfl (lv_at hl 0 rfl) ?_
      obtain ⟨hg124, hf⟩ := mx_gd hf
      refine mx_zald C hM (mt_18 hT) (mx_in_vp hg124) dX13_isSaid_124 ?_
      refine lv_if_eq (tgt := 132) hx hb dX13_isSaid_125 (by decide) (fun hc125 => ?_) (fun hc125 => ?_)
      · replace hf := mx_ift hc125 hf
        exact wfX13_isSaid_132 C i1 hT (fun i2' i3' is1' bs2' M' => fX13_isSaid_161 i1 k4 i2' i3' is1' bs2' M') (fun i2' i3' is1' bs2' M' H locs ls hf hM hl => wfX13_isSaid_161 C i1 hT k4 hk4 i2' i3' is1' bs2' M' H locs ls hf hM hl) (i2 + (-1 : Int32)) i3 ((i2 + (-1 : Int32)) - (1 : Int32)) M _ _ _ hf hM (lv_sub hl [1, 2, 0, 3] rfl)
      · replace hf := mx_iff hc125 hf
        refine lv_iconst (v := (1 : Int32)) hx hb dX13_isSaid_128 (by decide) ?_
        refine lv_goto (tgt := 161) hx hb dX13_isSaid_129 (by decide) ?_
        exact wfX13_isSaid_161 C i1 hT k4 hk4 (i2 + (-1 : Int32)) i3 ((i2 + (-1 : Int32)) - (1 : Int32)) true M _ _ _ hf hM (lv_sub hl [1, 2, 0, 3] rfl)
set_option maxRecDepth 100000 in
set_option maxHeartbeats 4000000 in
theorem wfX13_isSaid_58 {E : KE} {p : Program} {l : Launch} {e : Env} {s : State} {m : MethodId} {args : Array Value} {below : List Frame} {meth : Method} {c : Code} {q : (Bool × MM)} (C : mx_C E p m c cX13_isSaid 5 s args RX13 meth (some .boolean)) (i1 : Int32) (hT : E.1 = mt)  (k4 : Int32 → Int32 → MM → Option (Bool × MM)) (hk4 : ∀ (i2 : Int32) (i3 : Int32) (M : MM) (H : Heap) (locs : List Loc) (ls : Array Slot), k4 i2 i3 M = some q → mx_H E s M H locs → lv_has ls 5 [(0, .ref (E.2.1.2.1 0)), (1, .int i1), (2, .int i2), (3, .int i3)] → W p l e (mx_rm 4) s m args below meth c H locs 0 0 (mx_Z E below args s (some (.int (mx_b q.1))) q.2) (F0 m 4 ls [])) : ∀ (i2 : Int32) (i3 : Int32) (is1 : Int32) (bs2 : Bool) (M : MM) (H : Heap) (locs : List Loc) (ls : Array Slot), fX13_isSaid_58 i1 k4 i2 i3 is1 bs2 M = some q → mx_H E s M H locs → lv_has ls 5 [(0, .ref (E.2.1.2.1 0)), (1, .int i1), (2, .int i2), (3, .int i3)] → W p l e (mx_rm 4) s m args below meth c H locs 0 0 (mx_Z E below args s (some (.int (mx_b q.1))) q.2) (F0 m 58 ls [.int (mx_b bs2), .int is1, .ref (E.2.1.2.1 18)]) := by
  have hx := C.1.1
  have hb := C.1.2.1
  have hown := C.1.2.2.2.1
  have hts := C.1.2.2.2.2
  intro i2 i3 is1 bs2 M H locs ls hf hM hl
  rw [fX13_isSaid_58] at hf
  obtain ⟨hg58, hf⟩ := mx_gd hf
  refine mx_zast C hM (mt_18 hT) (mx_in_vp hg58) dX13_isSaid_58 (fun H locs hM => ?_)
  refine lv_goto (tgt := 204) hx hb dX13_isSaid_59 (by decide) ?_
  refine lv_iinc (v := (i3 + (1 : Int32))) (lv' := [(3, .int (i3 + (1 : Int32))), (0, .ref (E.2.1.2.1 0)), (1, .int i1), (2, .int i2)]) hx hb dX13_isSaid_204 hl (k := 3) rfl rfl (by decide) rfl (fun ls hl => ?_)
  refine lv_goto (tgt := 4) hx hb dX13_isSaid_207 (by decide) ?_
  exact hk4 i2 (i3 + (1 : Int32)) (mx_si M 18 is1.toNatClampNeg (vp_nar .boolean (mx_b bs2))) _ _ _ hf hM (lv_sub hl [1, 2, 3, 0] rfl)
set_option maxRecDepth 100000 in
set_option maxHeartbeats 4000000 in
theorem wfX13_isSaid_4 {E : KE} {p : Program} {l : Launch} {e : Env} {s : State} {m : MethodId} {args : Array Value} {below : List Frame} {meth : Method} {c : Code} {q : (Bool × MM)} (C : mx_C E p m c cX13_isSaid 5 s args RX13 meth (some .boolean)) (i1 : Int32) (hT : E.1 = mt)   : ∀ (n : Nat) (i2 : Int32) (i3 : Int32) (M : MM) (H : Heap) (locs : List Loc) (ls : Array Slot), fX13_isSaid_4 i1 n i2 i3 M = some q → mx_H E s M H locs → lv_has ls 5 [(0, .ref (E.2.1.2.1 0)), (1, .int i1), (2, .int i2), (3, .int i3)] → W p l e (mx_rm 4) s m args below meth c H locs 0 0 (mx_Z E below args s (some (.int (mx_b q.1))) q.2) (F0 m 4 ls []) := by
  have hx := C.1.1
  have hb := C.1.2.1
  have hown := C.1.2.2.2.1
  have hts := C.1.2.2.2.2
  intro n
  induction n with
  | zero =>
    intro i2 i3 M H locs ls hf hM hl
    rw [fX13_isSaid_4] at hf
    cases hf
  | succ n ih =>
    intro i2 i3 M H locs ls hf hM hl
    rw [fX13_isSaid_4] at hf
    refine lv_iload_n hx hb dX13_isSaid_4 rfl (lv_at hl 3 rfl) ?_
    refine lv_aload_n hx hb dX13_isSaid_5 rfl (lv_at hl 0 rfl) ?_
    refine g13_33 C hT hM dX13_isSaid_6 ?_
    refine lv_bipush (v := (113 : Int32)) hx hb dX13_isSaid_9 (by decide) ?_
    refine mx_ialdL C hM (mt_2 hT) (j := 113) (by decide) (mx_in_vp (by decide)) dX13_isSaid_11 ?_
    refine lv_icmp_ge (tgt := 210) hx hb dX13_isSaid_12 (by decide) (fun hc12 => ?_) (fun hc12 => ?_)
    · replace hf := mx_ift hc12 hf
      refine lv_aload_n hx hb dX13_isSaid_210 rfl (lv_at hl 0 rfl) ?_
      refine g13_89 C hT hM dX13_isSaid_211 ?_
      refine lv_iconst (v := (0 : Int32)) hx hb dX13_isSaid_214 (by decide) ?_
      refine mx_zaldL C hM (mt_18 hT) (j := 0) (by decide) (mx_in_vp (by decide)) dX13_isSaid_215 ?_
      obtain ⟨hg216, hf⟩ := mx_gd hf
      exact mx_zret C hM (b := decide ((M.1 18 0) = 1)) (mx_isb_b hg216) hf dX13_isSaid_216
    · replace hf := mx_iff hc12 hf
      refine lv_bipush (v := (114 : Int32)) hx hb dX13_isSaid_15 (by decide) ?_
      refine lv_iconst (v := (3 : Int32)) hx hb dX13_isSaid_17 (by decide) ?_
      refine lv_iload_n hx hb dX13_isSaid_18 rfl (lv_at hl 3 rfl) ?_
      refine lv_imul hx hb dX13_isSaid_19 ?_
      refine lv_iadd hx hb dX13_isSaid_20 ?_
      refine lv_istore (lv' := [(4, .int ((114 : Int32) + ((3 : Int32) * i3))), (0, .ref (E.2.1.2.1 0)), (1, .int i1), (2, .int i2), (3, .int i3)]) hx hb dX13_isSaid_21 hl (by decide) rfl (fun ls hl => ?_)
      refine lv_aload_n hx hb dX13_isSaid_23 rfl (lv_at hl 1 rfl) ?_
      refine g13_33 C hT hM dX13_isSaid_24 ?_
      refine lv_iload hx hb dX13_isSaid_27 (lv_at hl 0 rfl) ?_
      obtain ⟨hg29, hf⟩ := mx_gd hf
      refine mx_iald C hM (mt_2 hT) (mx_in_vp hg29) dX13_isSaid_29 ?_
      refine lv_bipush (v := (20 : Int32)) hx hb dX13_isSaid_30 (by decide) ?_
      refine lv_icmp_ne (tgt := 62) hx hb dX13_isSaid_32 (by decide) (fun hc32 => ?_) (fun hc32 => ?_)
      · replace hf := mx_iff hc32 hf
        refine lv_aload_n hx hb dX13_isSaid_62 rfl (lv_at hl 1 rfl) ?_
        refine g13_33 C hT hM dX13_isSaid_63 ?_
        refine lv_iload hx hb dX13_isSaid_66 (lv_at hl 0 rfl) ?_
        obtain ⟨hg68, hf⟩ := mx_gd hf
        refine mx_iald C hM (mt_2 hT) (mx_in_vp hg68) dX13_isSaid_68 ?_
        refine lv_bipush (v := (21 : Int32)) hx hb dX13_isSaid_69 (by decide) ?_
        refine lv_icmp_eq (tgt := 86) hx hb dX13_isSaid_71 (by decide) (fun hc71 => ?_) (fun hc71 => ?_)
        · replace hf := mx_ift hc71 hf
          exact wfX13_isSaid_86 C i1 hT (fX13_isSaid_4 i1 n) ih i2 i3 ((114 : Int32) + ((3 : Int32) * i3)) M _ _ _ hf hM (lv_sub hl [1, 2, 3, 4, 0] rfl)
        · replace hf := mx_iff hc71 hf
          refine lv_aload_n hx hb dX13_isSaid_74 rfl (lv_at hl 1 rfl) ?_
          refine g13_33 C hT hM dX13_isSaid_75 ?_
          refine lv_iload hx hb dX13_isSaid_78 (lv_at hl 0 rfl) ?_
          obtain ⟨hg80, hf⟩ := mx_gd hf
          refine mx_iald C hM (mt_2 hT) (mx_in_vp hg80) dX13_isSaid_80 ?_
          refine lv_bipush (v := (22 : Int32)) hx hb dX13_isSaid_81 (by decide) ?_
          refine lv_icmp_ne (tgt := 165) hx hb dX13_isSaid_83 (by decide) (fun hc83 => ?_) (fun hc83 => ?_)
          · replace hf := mx_iff hc83 hf
            refine lv_aload_n hx hb dX13_isSaid_165 rfl (lv_at hl 1 rfl) ?_
            refine g13_89 C hT hM dX13_isSaid_166 ?_
            refine lv_iload_n hx hb dX13_isSaid_169 rfl (lv_at hl 3 rfl) ?_
            refine lv_aload_n hx hb dX13_isSaid_170 rfl (lv_at hl 1 rfl) ?_
            refine lv_iload_n hx hb dX13_isSaid_171 rfl (lv_at hl 2 rfl) ?_
            refine lv_aload_n hx hb dX13_isSaid_172 rfl (lv_at hl 1 rfl) ?_
            refine g13_33 C hT hM dX13_isSaid_173 ?_
            refine lv_iload hx hb dX13_isSaid_176 (lv_at hl 0 rfl) ?_
            obtain ⟨hg178, hf⟩ := mx_gd hf
            refine mx_iald C hM (mt_2 hT) (mx_in_vp hg178) dX13_isSaid_178 ?_
            refine lv_aload_n hx hb dX13_isSaid_179 rfl (lv_at hl 1 rfl) ?_
            refine g13_33 C hT hM dX13_isSaid_180 ?_
            refine lv_iload hx hb dX13_isSaid_183 (lv_at hl 0 rfl) ?_
            refine lv_iconst (v := (1 : Int32)) hx hb dX13_isSaid_185 (by decide) ?_
            refine lv_iadd hx hb dX13_isSaid_186 ?_
            obtain ⟨hg187, hf⟩ := mx_gd hf
            refine mx_iald C hM (mt_2 hT) (mx_in_vp hg187) dX13_isSaid_187 ?_
            refine lv_aload_n hx hb dX13_isSaid_188 rfl (lv_at hl 1 rfl) ?_
            refine g13_33 C hT hM dX13_isSaid_189 ?_
            refine lv_iload hx hb dX13_isSaid_192 (lv_at hl 0 rfl) ?_
            refine lv_iconst (v := (2 : Int32)) hx hb dX13_isSaid_194 (by decide) ?_
            refine lv_iadd hx hb dX13_isSaid_195 ?_
            obtain ⟨hg196, hf⟩ := mx_gd hf
            refine mx_iald C hM (mt_2 hT) (mx_in_vp hg196) dX13_isSaid_196 ?_
            obtain ⟨q197, hq197, hf⟩ := mx_bd hf
            refine mx_callV C hM hl.1 yo_X13_isLeaf (h' := 3) (by decide) qw_1994 qw_1996 qs_182 (ci := 13) (q := (RX13, TX13, 52)) rfl (mt_0 hT) (As := [.int i1, .int (M.1 2 ((114 : Int32) + ((3 : Int32) * i3)).toNatClampNeg), .int (M.1 2 (((114 : Int32) + ((3 : Int32) * i3)) + (1 : Int32)).toNatClampNeg), .int (M.1 2 (((114 : Int32) + ((3 : Int32) * i3)) + (2 : Int32)).toNatClampNeg)]) (rest := [.int i2, .ref (E.2.1.2.1 18)]) (st1 := [.int (mx_b q197), .int i2, .ref (E.2.1.2.1 18)]) (kX13_isLeaf C.2.2.2.1 i1 (M.1 2 ((114 : Int32) + ((3 : Int32) * i3)).toNatClampNeg) (M.1 2 (((114 : Int32) + ((3 : Int32) * i3)) + (1 : Int32)).toNatClampNeg) (M.1 2 (((114 : Int32) + ((3 : Int32) * i3)) + (2 : Int32)).toNatClampNeg) hT M hq197) rfl rfl rfl (Nat.le_of_ble_eq_true rfl) dX13_isSaid_197 (fun H locs hM => ?_)
            obtain ⟨hg200, hf⟩ := mx_gd hf
            refine mx_zast C hM (mt_18 hT) (mx_in_vp hg200) dX13_isSaid_200 (fun H locs hM => ?_)
            refine lv_iinc (v := (i2 + (1 : Int32))) (lv' := [(2, .int (i2 + (1 : Int32))), (4, .int ((114 : Int32) + ((3 : Int32) * i3))), (0, .ref (E.2.1.2.1 0)), (1, .int i1), (3, .int i3)]) hx hb dX13_isSaid_201 hl (k := 3) rfl rfl (by decide) rfl (fun ls hl => ?_)
            refine lv_iinc (v := (i3 + (1 : Int32))) (lv' := [(3, .int (i3 + (1 : Int32))), (2, .int (i2 + (1 : Int32))), (4, .int ((114 : Int32) + ((3 : Int32) * i3))), (0, .ref (E.2.1.2.1 0)), (1, .int i1)]) hx hb dX13_isSaid_204 hl (k := 4) rfl rfl (by decide) rfl (fun ls hl => ?_)
            refine lv_goto (tgt := 4) hx hb dX13_isSaid_207 (by decide) ?_
            exact ih (i2 + (1 : Int32)) (i3 + (1 : Int32)) (mx_si M 18 i2.toNatClampNeg (vp_nar .boolean (mx_b q197))) _ _ _ hf hM (lv_sub hl [3, 4, 1, 0] rfl)
          · replace hf := mx_ift hc83 hf
            exact wfX13_isSaid_86 C i1 hT (fX13_isSaid_4 i1 n) ih i2 i3 ((114 : Int32) + ((3 : Int32) * i3)) M _ _ _ hf hM (lv_sub hl [1, 2, 3, 4, 0] rfl)
      · replace hf := mx_ift hc32 hf
        refine lv_aload_n hx hb dX13_isSaid_35 rfl (lv_at hl 1 rfl) ?_
        refine g13_89 C hT hM dX13_isSaid_36 ?_
        refine lv_iload_n hx hb dX13_isSaid_39 rfl (lv_at hl 3 rfl) ?_
        refine lv_iconst (v := (1 : Int32)) hx hb dX13_isSaid_40 (by decide) ?_
        refine lv_isub hx hb dX13_isSaid_41 ?_
        refine lv_aload_n hx hb dX13_isSaid_42 rfl (lv_at hl 1 rfl) ?_
        refine g13_89 C hT hM dX13_isSaid_43 ?_
        refine lv_iload_n hx hb dX13_isSaid_46 rfl (lv_at hl 3 rfl) ?_
        refine lv_iconst (v := (1 : Int32)) hx hb dX13_isSaid_47 (by decide) ?_
        refine lv_isub hx hb dX13_isSaid_48 ?_
        obtain ⟨hg49, hf⟩ := mx_gd hf
        refine mx_zald C hM (mt_18 hT) (mx_in_vp hg49) dX13_isSaid_49 ?_
        refine lv_if_ne (tgt := 57) hx hb dX13_isSaid_50 (by decide) (fun hc50 => ?_) (fun hc50 => ?_)
        · replace hf := mx_iff hc50 hf
          refine lv_iconst (v := (0 : Int32)) hx hb dX13_isSaid_57 (by decide) ?_
          exact wfX13_isSaid_58 C i1 hT (fX13_isSaid_4 i1 n) ih i2 i3 (i2 - (1 : Int32)) false M _ _ _ hf hM (lv_sub hl [1, 2, 3, 4] rfl)
        · replace hf := mx_ift hc50 hf
          refine lv_iconst (v := (1 : Int32)) hx hb dX13_isSaid_53 (by decide) ?_
          refine lv_goto (tgt := 58) hx hb dX13_isSaid_54 (by decide) ?_
          exact wfX13_isSaid_58 C i1 hT (fX13_isSaid_4 i1 n) ih i2 i3 (i2 - (1 : Int32)) true M _ _ _ hf hM (lv_sub hl [1, 2, 3, 4] rfl)
set_option maxRecDepth 100000 in
set_option maxHeartbeats 4000000 in
theorem kX13_isSaid {E : KE} {l : Launch} (hE : mx_ok E) (i1 : Int32) (hT : E.1 = mt) (M : MM) {q : (Bool × MM)} (hf : fX13_isSaid i1 M = some q) : mx_Met E l yX13_isSaid cX13_isSaid 5 (some .boolean) 4 [.ref (E.2.1.2.1 0), .int i1] M (some (.int (mx_b q.1))) q.2 := by
  refine mx_enter hE (by decide) (Nat.le_of_ble_eq_true rfl) ?_
  intro p e s m below meth c C hM hn ls hl
  have hx := C.1.1
  have hb := C.1.2.1
  have hown := C.1.2.2.2.1
  have hts := C.1.2.2.2.2
  have hl : lv_has ls 5 [(0, .ref (E.2.1.2.1 0)), (1, .int i1)] := hl
  rw [fX13_isSaid] at hf
  refine lv_iconst (v := (0 : Int32)) hx hb dX13_isSaid_0 (by decide) ?_
  refine lv_istore_n (lv' := [(2, .int (0 : Int32)), (0, .ref (E.2.1.2.1 0)), (1, .int i1)]) hx hb dX13_isSaid_1 rfl hl (by decide) rfl (fun ls hl => ?_)
  refine lv_iconst (v := (0 : Int32)) hx hb dX13_isSaid_2 (by decide) ?_
  refine lv_istore_n (lv' := [(3, .int (0 : Int32)), (2, .int (0 : Int32)), (0, .ref (E.2.1.2.1 0)), (1, .int i1)]) hx hb dX13_isSaid_3 rfl hl (by decide) rfl (fun ls hl => ?_)
  exact wfX13_isSaid_4 C i1 hT mx_fu (0 : Int32) (0 : Int32) M _ _ _ hf hM (lv_sub hl [2, 3, 1, 0] rfl)
