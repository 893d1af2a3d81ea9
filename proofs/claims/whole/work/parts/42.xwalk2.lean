theorem dX2_giveOne_0 : decode cX2_giveOne 0 = .ok (.iconst 0, 1) := by decide +kernel
theorem dX2_giveOne_1 : decode cX2_giveOne 1 = .ok (.istore 4, 2) := by decide +kernel
theorem dX2_giveOne_3 : decode cX2_giveOne 3 = .ok (.iload 4, 2) := by decide +kernel
theorem dX2_giveOne_5 : decode cX2_giveOne 5 = .ok (.sipush 128, 3) := by decide +kernel
theorem dX2_giveOne_8 : decode cX2_giveOne 8 = .ok (.if_icmp .ge 80, 3) := by decide +kernel
theorem dX2_giveOne_11 : decode cX2_giveOne 11 = .ok (.aload_n 0, 1) := by decide +kernel
theorem dX2_giveOne_12 : decode cX2_giveOne 12 = .ok (.getfield 18, 3) := by decide +kernel
theorem dX2_giveOne_15 : decode cX2_giveOne 15 = .ok (.iload 4, 2) := by decide +kernel
theorem dX2_giveOne_17 : decode cX2_giveOne 17 = .ok (.iaload, 1) := by decide +kernel
theorem dX2_giveOne_18 : decode cX2_giveOne 18 = .ok (.ifCond .eq 64, 3) := by decide +kernel
theorem dX2_giveOne_21 : decode cX2_giveOne 21 = .ok (.iload 4, 2) := by decide +kernel
theorem dX2_giveOne_23 : decode cX2_giveOne 23 = .ok (.invokestatic 37, 3) := by decide +kernel
theorem dX2_giveOne_26 : decode cX2_giveOne 26 = .ok (.iload_n 3, 1) := by decide +kernel
theorem dX2_giveOne_27 : decode cX2_giveOne 27 = .ok (.if_icmp .ne 55, 3) := by decide +kernel
theorem dX2_giveOne_30 : decode cX2_giveOne 30 = .ok (.iconst 0, 1) := by decide +kernel
theorem dX2_giveOne_31 : decode cX2_giveOne 31 = .ok (.istore 5, 2) := by decide +kernel
theorem dX2_giveOne_33 : decode cX2_giveOne 33 = .ok (.iload 5, 2) := by decide +kernel
theorem dX2_giveOne_35 : decode cX2_giveOne 35 = .ok (.aload_n 1, 1) := by decide +kernel
theorem dX2_giveOne_36 : decode cX2_giveOne 36 = .ok (.getfield 61, 3) := by decide +kernel
theorem dX2_giveOne_39 : decode cX2_giveOne 39 = .ok (.if_icmp .ge 43, 3) := by decide +kernel
theorem dX2_giveOne_42 : decode cX2_giveOne 42 = .ok (.aload_n 1, 1) := by decide +kernel
theorem dX2_giveOne_43 : decode cX2_giveOne 43 = .ok (.iload 4, 2) := by decide +kernel
theorem dX2_giveOne_45 : decode cX2_giveOne 45 = .ok (.iload 5, 2) := by decide +kernel
theorem dX2_giveOne_47 : decode cX2_giveOne 47 = .ok (.iload_n 2, 1) := by decide +kernel
theorem dX2_giveOne_48 : decode cX2_giveOne 48 = .ok (.invokestatic 83, 3) := by decide +kernel
theorem dX2_giveOne_51 : decode cX2_giveOne 51 = .ok (.ifCond .eq 25, 3) := by decide +kernel
theorem dX2_giveOne_54 : decode cX2_giveOne 54 = .ok (.aload_n 0, 1) := by decide +kernel
theorem dX2_giveOne_55 : decode cX2_giveOne 55 = .ok (.getfield 18, 3) := by decide +kernel
theorem dX2_giveOne_58 : decode cX2_giveOne 58 = .ok (.iload 4, 2) := by decide +kernel
theorem dX2_giveOne_60 : decode cX2_giveOne 60 = .ok (.iconst 1, 1) := by decide +kernel
theorem dX2_giveOne_61 : decode cX2_giveOne 61 = .ok (.iload 5, 2) := by decide +kernel
theorem dX2_giveOne_63 : decode cX2_giveOne 63 = .ok (.ishl, 1) := by decide +kernel
theorem dX2_giveOne_64 : decode cX2_giveOne 64 = .ok (.ior, 1) := by decide +kernel
theorem dX2_giveOne_65 : decode cX2_giveOne 65 = .ok (.dup2, 1) := by decide +kernel
theorem dX2_giveOne_66 : decode cX2_giveOne 66 = .ok (.iaload, 1) := by decide +kernel
theorem dX2_giveOne_67 : decode cX2_giveOne 67 = .ok (.aload_n 0, 1) := by decide +kernel
theorem dX2_giveOne_68 : decode cX2_giveOne 68 = .ok (.getfield 18, 3) := by decide +kernel
theorem dX2_giveOne_71 : decode cX2_giveOne 71 = .ok (.iload 4, 2) := by decide +kernel
theorem dX2_giveOne_73 : decode cX2_giveOne 73 = .ok (.iaload, 1) := by decide +kernel
theorem dX2_giveOne_74 : decode cX2_giveOne 74 = .ok (.iadd, 1) := by decide +kernel
theorem dX2_giveOne_75 : decode cX2_giveOne 75 = .ok (.iastore, 1) := by decide +kernel
theorem dX2_giveOne_76 : decode cX2_giveOne 76 = .ok (.iinc 5 1, 3) := by decide +kernel
theorem dX2_giveOne_79 : decode cX2_giveOne 79 = .ok (.goto (-46), 3) := by decide +kernel
theorem dX2_giveOne_82 : decode cX2_giveOne 82 = .ok (.iinc 4 1, 3) := by decide +kernel
theorem dX2_giveOne_85 : decode cX2_giveOne 85 = .ok (.goto (-82), 3) := by decide +kernel
theorem dX2_giveOne_88 : decode cX2_giveOne 88 = .ok (.return_, 1) := by decide +kernel
set_option maxRecDepth 100000 in
set_option maxHeartbeats 4000000 in
theorem wfX2_giveOne_33 {E : KE} {p : Program} {l : Launch} {e : Env} {s : State} {m : MethodId} {args : Array Value} {below : List Frame} {meth : Method} {c : Code} {q : MM} (C : mx_C E p m c cX2_giveOne 6 s args RX2 meth none) (i2 : Int32) (i3 : Int32) (hT : xOK E)  (k3 : Int32 → MM → Option MM) (hk3 : ∀ (i4 : Int32) (M : MM) (H : Heap) (locs : List Loc) (ls : Array Slot), k3 i4 M = some q → mx_H E s M H locs → lv_has ls 6 [(0, .ref (E.2.1.2.1 149)), (1, .ref (E.2.1.2.1 9)), (2, .int i2), (3, .int i3), (4, .int i4)] → W p l e (mx_rm 2) s m args below meth c H locs 0 0 (mx_Z E below args s none q) (F0 m 3 ls [])) : ∀ (n : Nat) (i4 : Int32) (i5 : Int32) (M : MM) (H : Heap) (locs : List Loc) (ls : Array Slot), fX2_giveOne_33 i2 i3 k3 n i4 i5 M = some q → mx_H E s M H locs → lv_has ls 6 [(0, .ref (E.2.1.2.1 149)), (1, .ref (E.2.1.2.1 9)), (2, .int i2), (3, .int i3), (4, .int i4), (5, .int i5)] → W p l e (mx_rm 2) s m args below meth c H locs 0 0 (mx_Z E below args s none q) (F0 m 33 ls []) := by
  have hx := C.1.1
  have hb := C.1.2.1
  have hown := C.1.2.2.2.1
  have hts := C.1.2.2.2.2
  intro n
  induction n with
  | zero =>
    intro i4 i5 M H locs ls hf hM hl
    rw [fX2_giveOne_33] at hf
    cases hf
  | succ n ih =>
    intro i4 i5 M H locs ls hf hM hl
    rw [fX2_giveOne_33] at hf
    refine lv_iload hx hb dX2_giveOne_33 (lv_at hl 5 rfl) ?_
    refine lv_aload_n hx hb dX2_giveOne_35 rfl (lv_at hl 1 rfl) ?_
    refine gX2_61 C hT hM (xt_9 hT) (f := (0, 0)) rfl (v := .int (M.1 9 0)) rfl dX2_giveOne_36 ?_
    refine lv_icmp_ge (tgt := 82) hx hb dX2_giveOne_39 (by decide) (fun hc39 => ?_) (fun hc39 => ?_)
    · replace hf := mx_ift hc39 hf
      refine lv_iinc (v := (i4 + (1 : Int32))) (lv' := [(4, .int (i4 + (1 : Int32))), (0, .ref (E.2.1.2.1 149)), (1, .ref (E.2.1.2.1 9)), (2, .int i2), (3, .int i3), (5, .int i5)]) hx hb dX2_giveOne_82 hl (k := 4) rfl rfl (by decide) rfl (fun ls hl => ?_)
      refine lv_goto (tgt := 3) hx hb dX2_giveOne_85 (by decide) ?_
      exact hk3 (i4 + (1 : Int32)) M _ _ _ hf hM (lv_sub hl [1, 2, 3, 4, 0] rfl)
    · replace hf := mx_iff hc39 hf
      refine lv_aload_n hx hb dX2_giveOne_42 rfl (lv_at hl 1 rfl) ?_
      refine lv_iload hx hb dX2_giveOne_43 (lv_at hl 4 rfl) ?_
      refine lv_iload hx hb dX2_giveOne_45 (lv_at hl 5 rfl) ?_
      refine lv_iload_n hx hb dX2_giveOne_47 rfl (lv_at hl 2 rfl) ?_
      obtain ⟨q48, hq48, hf⟩ := mx_bd hf
      refine mx_callS C hM hl.1 yo_X2_mayHave (h' := 1) (by decide) qw_952 qw_953 (As := [.ref (E.2.1.2.1 9), .int i4, .int i5, .int i2]) (rest := []) (st1 := [.int (mx_b q48)]) (kX2_mayHave C.2.2.2.1 i4 i5 i2 hT M hq48) rfl rfl rfl (Nat.le_of_ble_eq_true rfl) dX2_giveOne_48 (fun H locs hM => ?_)
      refine lv_if_eq (tgt := 76) hx hb dX2_giveOne_51 (by decide) (fun hc51 => ?_) (fun hc51 => ?_)
      · replace hf := mx_ift hc51 hf
        refine lv_iinc (v := (i5 + (1 : Int32))) (lv' := [(5, .int (i5 + (1 : Int32))), (0, .ref (E.2.1.2.1 149)), (1, .ref (E.2.1.2.1 9)), (2, .int i2), (3, .int i3), (4, .int i4)]) hx hb dX2_giveOne_76 hl (k := 5) rfl rfl (by decide) rfl (fun ls hl => ?_)
        refine lv_goto (tgt := 33) hx hb dX2_giveOne_79 (by decide) ?_
        exact ih i4 (i5 + (1 : Int32)) M _ _ _ hf hM (lv_sub hl [1, 2, 3, 4, 5, 0] rfl)
      · replace hf := mx_iff hc51 hf
        refine lv_aload_n hx hb dX2_giveOne_54 rfl (lv_at hl 0 rfl) ?_
        refine gX2_18 C hM (xt_149 hT) (f := (2, 150)) rfl (v := .ref (E.2.1.2.1 150)) rfl dX2_giveOne_55 ?_
        refine lv_iload hx hb dX2_giveOne_58 (lv_at hl 4 rfl) ?_
        refine lv_iconst (v := (1 : Int32)) hx hb dX2_giveOne_60 (by decide) ?_
        refine lv_iload hx hb dX2_giveOne_61 (lv_at hl 5 rfl) ?_
        refine lv_ishl hx hb dX2_giveOne_63 ?_
        refine lv_ior hx hb dX2_giveOne_64 ?_
        refine lv_dup2_11 hx hb dX2_giveOne_65 rfl rfl ?_
        obtain ⟨hg66, hf⟩ := mx_gd hf
        refine mx_iald C hM (xt_150 hT) (mx_in_vp hg66) dX2_giveOne_66 ?_
        refine lv_aload_n hx hb dX2_giveOne_67 rfl (lv_at hl 0 rfl) ?_
        refine gX2_18 C hM (xt_149 hT) (f := (2, 150)) rfl (v := .ref (E.2.1.2.1 150)) rfl dX2_giveOne_68 ?_
        refine lv_iload hx hb dX2_giveOne_71 (lv_at hl 4 rfl) ?_
        obtain ⟨hg73, hf⟩ := mx_gd hf
        refine mx_iald C hM (xt_150 hT) (mx_in_vp hg73) dX2_giveOne_73 ?_
        refine lv_iadd hx hb dX2_giveOne_74 ?_
        obtain ⟨hg75, hf⟩ := mx_gd hf
        refine mx_iast C hM (xt_150 hT) (mx_in_vp hg75) dX2_giveOne_75 (fun H locs hM => ?_)
        refine lv_iinc (v := (i5 + (1 : Int32))) (lv' := [(5, .int (i5 + (1 : Int32))), (0, .ref (E.2.1.2.1 149)), (1, .ref (E.2.1.2.1 9)), (2, .int i2), (3, .int i3), (4, .int i4)]) hx hb dX2_giveOne_76 hl (k := 5) rfl rfl (by decide) rfl (fun ls hl => ?_)
        refine lv_goto (tgt := 33) hx hb dX2_giveOne_79 (by decide) ?_
        exact ih i4 (i5 + (1 : Int32)) (mx_si M 150 (i4 ||| ((1 : Int32) <<< (i5 &&& 31))).toNatClampNeg ((M.1 150 (i4 ||| ((1 : Int32) <<< (i5 &&& 31))).toNatClampNeg) + (M.1 150 i4.toNatClampNeg))) _ _ _ hf hM (lv_sub hl [1, 2, 3, 4, 5, 0] rfl)
set_option maxRecDepth 100000 in
set_option maxHeartbeats 4000000 in
theorem wfX2_giveOne_3 {E : KE} {p : Program} {l : Launch} {e : Env} {s : State} {m : MethodId} {args : Array Value} {below : List Frame} {meth : Method} {c : Code} {q : MM} (C : mx_C E p m c cX2_giveOne 6 s args RX2 meth none) (i2 : Int32) (i3 : Int32) (hT : xOK E)   : ∀ (n : Nat) (i4 : Int32) (M : MM) (H : Heap) (locs : List Loc) (ls : Array Slot), fX2_giveOne_3 i2 i3 n i4 M = some q → mx_H E s M H locs → lv_has ls 6 [(0, .ref (E.2.1.2.1 149)), (1, .ref (E.2.1.2.1 9)), (2, .int i2), (3, .int i3), (4, .int i4)] → W p l e (mx_rm 2) s m args below meth c H locs 0 0 (mx_Z E below args s none q) (F0 m 3 ls []) := by
  have hx := C.1.1
  have hb := C.1.2.1
  have hown := C.1.2.2.2.1
  have hts := C.1.2.2.2.2
  intro n
  induction n with
  | zero =>
    intro i4 M H locs ls hf hM hl
    rw [fX2_giveOne_3] at hf
    cases hf
  | succ n ih =>
    intro i4 M H locs ls hf hM hl
    rw [fX2_giveOne_3] at hf
    refine lv_iload hx hb dX2_giveOne_3 (lv_at hl 4 rfl) ?_
    refine lv_sipush (v := (128 : Int32)) hx hb dX2_giveOne_5 (by decide) ?_
    refine lv_icmp_ge (tgt := 88) hx hb dX2_giveOne_8 (by decide) (fun hc8 => ?_) (fun hc8 => ?_)
    · replace hf := mx_ift hc8 hf
      exact mx_vret C hM hf dX2_giveOne_88
    · replace hf := mx_iff hc8 hf
      refine lv_aload_n hx hb dX2_giveOne_11 rfl (lv_at hl 0 rfl) ?_
      refine gX2_18 C hM (xt_149 hT) (f := (2, 150)) rfl (v := .ref (E.2.1.2.1 150)) rfl dX2_giveOne_12 ?_
      refine lv_iload hx hb dX2_giveOne_15 (lv_at hl 4 rfl) ?_
      obtain ⟨hg17, hf⟩ := mx_gd hf
      refine mx_iald C hM (xt_150 hT) (mx_in_vp hg17) dX2_giveOne_17 ?_
      refine lv_if_eq (tgt := 82) hx hb dX2_giveOne_18 (by decide) (fun hc18 => ?_) (fun hc18 => ?_)
      · replace hf := mx_ift hc18 hf
        refine lv_iinc (v := (i4 + (1 : Int32))) (lv' := [(4, .int (i4 + (1 : Int32))), (0, .ref (E.2.1.2.1 149)), (1, .ref (E.2.1.2.1 9)), (2, .int i2), (3, .int i3)]) hx hb dX2_giveOne_82 hl (k := 4) rfl rfl (by decide) rfl (fun ls hl => ?_)
        refine lv_goto (tgt := 3) hx hb dX2_giveOne_85 (by decide) ?_
        exact ih (i4 + (1 : Int32)) M _ _ _ hf hM (lv_sub hl [1, 2, 3, 4, 0] rfl)
      · replace hf := mx_iff hc18 hf
        refine lv_iload hx hb dX2_giveOne_21 (lv_at hl 4 rfl) ?_
        obtain ⟨q23, hq23, hf⟩ := mx_bd hf
        refine mx_callS C hM hl.1 yo_J6_bitCount_0f7a4 (h' := 0) (by decide) qw_927 qw_788 (As := [.int i4]) (rest := []) (st1 := [.int q23]) (kJ6_bitCount_0f7a4 C.2.2.2.1 i4 M hq23) rfl rfl rfl (Nat.le_of_ble_eq_true rfl) dX2_giveOne_23 (fun H locs hM => ?_)
        refine lv_iload_n hx hb dX2_giveOne_26 rfl (lv_at hl 3 rfl) ?_
        refine lv_icmp_ne (tgt := 82) hx hb dX2_giveOne_27 (by decide) (fun hc27 => ?_) (fun hc27 => ?_)
        · replace hf := mx_iff hc27 hf
          refine lv_iinc (v := (i4 + (1 : Int32))) (lv' := [(4, .int (i4 + (1 : Int32))), (0, .ref (E.2.1.2.1 149)), (1, .ref (E.2.1.2.1 9)), (2, .int i2), (3, .int i3)]) hx hb dX2_giveOne_82 hl (k := 4) rfl rfl (by decide) rfl (fun ls hl => ?_)
          refine lv_goto (tgt := 3) hx hb dX2_giveOne_85 (by decide) ?_
          exact ih (i4 + (1 : Int32)) M _ _ _ hf hM (lv_sub hl [1, 2, 3, 4, 0] rfl)
        · replace hf := mx_ift hc27 hf
          refine lv_iconst (v := (0 : Int32)) hx hb dX2_giveOne_30 (by decide) ?_
          refine lv_istore (lv' := [(5, .int (0 : Int32)), (0, .ref (E.2.1.2.1 149)), (1, .ref (E.2.1.2.1 9)), (2, .int i2), (3, .int i3), (4, .int i4)]) hx hb dX2_giveOne_31 hl (by decide) rfl (fun ls hl => ?_)
          exact wfX2_giveOne_33 C i2 i3 hT (fX2_giveOne_3 i2 i3 n) ih mx_fu i4 (0 : Int32) M _ _ _ hf hM (lv_sub hl [1, 2, 3, 4, 5, 0] rfl)
set_option maxRecDepth 100000 in
set_option maxHeartbeats 4000000 in
theorem kX2_giveOne {E : KE} {l : Launch} (hE : mx_ok E) (i2 : Int32) (i3 : Int32) (hT : xOK E) (M : MM) {q : MM} (hf : fX2_giveOne i2 i3 M = some q) : mx_Met E l yX2_giveOne cX2_giveOne 6 none 2 [.ref (E.2.1.2.1 149), .ref (E.2.1.2.1 9), .int i2, .int i3] M none q := by
  refine mx_enter hE (by decide) (Nat.le_of_ble_eq_true rfl) ?_
  intro p e s m below meth c C hM hn ls hl
  have hx := C.1.1
  have hb := C.1.2.1
  have hown := C.1.2.2.2.1
  have hts := C.1.2.2.2.2
  have hl : lv_has ls 6 [(0, .ref (E.2.1.2.1 149)), (1, .ref (E.2.1.2.1 9)), (2, .int i2), (3, .int i3)] := hl
  rw [fX2_giveOne] at hf
  refine lv_iconst (v := (0 : Int32)) hx hb dX2_giveOne_0 (by decide) ?_
  refine lv_istore (lv' := [(4, .int (0 : Int32)), (0, .ref (E.2.1.2.1 149)), (1, .ref (E.2.1.2.1 9)), (2, .int i2), (3, .int i3)]) hx hb dX2_giveOne_1 hl (by decide) rfl (fun ls hl => ?_)
  exact wfX2_giveOne_3 C i2 i3 hT mx_fu (0 : Int32) M _ _ _ hf hM (lv_sub hl [1, 2, 3, 4, 0] rfl)
theorem dX2_giveAllBut_0 : decode cX2_giveAllBut 0 = .ok (.iconst 0, 1) := by decide +kernel
theorem dX2_giveAllBut_1 : decode cX2_giveAllBut 1 = .ok (.istore_n 3, 1) := by decide +kernel
theorem dX2_giveAllBut_2 : decode cX2_giveAllBut 2 = .ok (.iload_n 3, 1) := by decide +kernel
theorem dX2_giveAllBut_3 : decode cX2_giveAllBut 3 = .ok (.sipush 128, 3) := by decide +kernel
theorem dX2_giveAllBut_6 : decode cX2_giveAllBut 6 = .ok (.if_icmp .ge 24, 3) := by decide +kernel
theorem dX2_giveAllBut_9 : decode cX2_giveAllBut 9 = .ok (.aload_n 0, 1) := by decide +kernel
theorem dX2_giveAllBut_10 : decode cX2_giveAllBut 10 = .ok (.getfield 18, 3) := by decide +kernel
theorem dX2_giveAllBut_13 : decode cX2_giveAllBut 13 = .ok (.iload_n 3, 1) := by decide +kernel
theorem dX2_giveAllBut_14 : decode cX2_giveAllBut 14 = .ok (.iload_n 3, 1) := by decide +kernel
theorem dX2_giveAllBut_15 : decode cX2_giveAllBut 15 = .ok (.ifCond .ne 7, 3) := by decide +kernel
theorem dX2_giveAllBut_18 : decode cX2_giveAllBut 18 = .ok (.iconst 1, 1) := by decide +kernel
theorem dX2_giveAllBut_19 : decode cX2_giveAllBut 19 = .ok (.goto 4, 3) := by decide +kernel
theorem dX2_giveAllBut_22 : decode cX2_giveAllBut 22 = .ok (.iconst 0, 1) := by decide +kernel
theorem dX2_giveAllBut_23 : decode cX2_giveAllBut 23 = .ok (.iastore, 1) := by decide +kernel
theorem dX2_giveAllBut_24 : decode cX2_giveAllBut 24 = .ok (.iinc 3 1, 3) := by decide +kernel
theorem dX2_giveAllBut_27 : decode cX2_giveAllBut 27 = .ok (.goto (-25), 3) := by decide +kernel
theorem dX2_giveAllBut_30 : decode cX2_giveAllBut 30 = .ok (.iconst 0, 1) := by decide +kernel
theorem dX2_giveAllBut_31 : decode cX2_giveAllBut 31 = .ok (.istore_n 3, 1) := by decide +kernel
theorem dX2_giveAllBut_32 : decode cX2_giveAllBut 32 = .ok (.iconst 0, 1) := by decide +kernel
theorem dX2_giveAllBut_33 : decode cX2_giveAllBut 33 = .ok (.istore 4, 2) := by decide +kernel
theorem dX2_giveAllBut_35 : decode cX2_giveAllBut 35 = .ok (.iload 4, 2) := by decide +kernel
theorem dX2_giveAllBut_37 : decode cX2_giveAllBut 37 = .ok (.aload_n 1, 1) := by decide +kernel
theorem dX2_giveAllBut_38 : decode cX2_giveAllBut 38 = .ok (.getfield 76, 3) := by decide +kernel
theorem dX2_giveAllBut_41 : decode cX2_giveAllBut 41 = .ok (.if_icmp .ge 26, 3) := by decide +kernel
theorem dX2_giveAllBut_44 : decode cX2_giveAllBut 44 = .ok (.iload 4, 2) := by decide +kernel
theorem dX2_giveAllBut_46 : decode cX2_giveAllBut 46 = .ok (.iload_n 2, 1) := by decide +kernel
theorem dX2_giveAllBut_47 : decode cX2_giveAllBut 47 = .ok (.if_icmp .eq 14, 3) := by decide +kernel
theorem dX2_giveAllBut_50 : decode cX2_giveAllBut 50 = .ok (.aload_n 0, 1) := by decide +kernel
theorem dX2_giveAllBut_51 : decode cX2_giveAllBut 51 = .ok (.aload_n 1, 1) := by decide +kernel
theorem dX2_giveAllBut_52 : decode cX2_giveAllBut 52 = .ok (.iload 4, 2) := by decide +kernel
theorem dX2_giveAllBut_54 : decode cX2_giveAllBut 54 = .ok (.iload_n 3, 1) := by decide +kernel
theorem dX2_giveAllBut_55 : decode cX2_giveAllBut 55 = .ok (.invokevirtual 79, 3) := by decide +kernel
theorem dX2_giveAllBut_58 : decode cX2_giveAllBut 58 = .ok (.iinc 3 1, 3) := by decide +kernel
theorem dX2_giveAllBut_61 : decode cX2_giveAllBut 61 = .ok (.iinc 4 1, 3) := by decide +kernel
theorem dX2_giveAllBut_64 : decode cX2_giveAllBut 64 = .ok (.goto (-29), 3) := by decide +kernel
theorem dX2_giveAllBut_67 : decode cX2_giveAllBut 67 = .ok (.iload_n 3, 1) := by decide +kernel
theorem dX2_giveAllBut_68 : decode cX2_giveAllBut 68 = .ok (.ireturn, 1) := by decide +kernel
set_option maxRecDepth 100000 in
set_option maxHeartbeats 4000000 in
theorem wfX2_giveAllBut_35 {E : KE} {p : Program} {l : Launch} {e : Env} {s : State} {m : MethodId} {args : Array Value} {below : List Frame} {meth : Method} {c : Code} {q : (Int32 × MM)} (C : mx_C E p m c cX2_giveAllBut 5 s args RX2 meth (some .int)) (i2 : Int32) (hT : xOK E)   : ∀ (n : Nat) (i3 : Int32) (i4 : Int32) (M : MM) (H : Heap) (locs : List Loc) (ls : Array Slot), fX2_giveAllBut_35 i2 n i3 i4 M = some q → mx_H E s M H locs → lv_has ls 5 [(0, .ref (E.2.1.2.1 149)), (1, .ref (E.2.1.2.1 9)), (2, .int i2), (3, .int i3), (4, .int i4)] → W p l e (mx_rm 3) s m args below meth c H locs 0 0 (mx_Z E below args s (some (.int q.1)) q.2) (F0 m 35 ls []) := by
  have hx := C.1.1
  have hb := C.1.2.1
  have hown := C.1.2.2.2.1
  have hts := C.1.2.2.2.2
  intro n
  induction n with
  | zero =>
    intro i3 i4 M H locs ls hf hM hl
    rw [fX2_giveAllBut_35] at hf
    cases hf
  | succ n ih =>
    intro i3 i4 M H locs ls hf hM hl
    rw [fX2_giveAllBut_35] at hf
    refine lv_iload hx hb dX2_giveAllBut_35 (lv_at hl 4 rfl) ?_
    refine lv_aload_n hx hb dX2_giveAllBut_37 rfl (lv_at hl 1 rfl) ?_
    refine gX2_76 C hT hM (xt_9 hT) (f := (0, 0)) rfl (v := .int (M.1 9 1)) rfl dX2_giveAllBut_38 ?_
    refine lv_icmp_ge (tgt := 67) hx hb dX2_giveAllBut_41 (by decide) (fun hc41 => ?_) (fun hc41 => ?_)
    · replace hf := mx_ift hc41 hf
      refine lv_iload_n hx hb dX2_giveAllBut_67 rfl (lv_at hl 3 rfl) ?_
      exact mx_iret C hM hf dX2_giveAllBut_68
    · replace hf := mx_iff hc41 hf
      refine lv_iload hx hb dX2_giveAllBut_44 (lv_at hl 4 rfl) ?_
      refine lv_iload_n hx hb dX2_giveAllBut_46 rfl (lv_at hl 2 rfl) ?_
      refine lv_icmp_eq (tgt := 61) hx hb dX2_giveAllBut_47 (by decide) (fun hc47 => ?_) (fun hc47 => ?_)
      · replace hf := mx_ift hc47 hf
        refine lv_iinc (v := (i4 + (1 : Int32))) (lv' := [(4, .int (i4 + (1 : Int32))), (0, .ref (E.2.1.2.1 149)), (1, .ref (E.2.1.2.1 9)), (2, .int i2), (3, .int i3)]) hx hb dX2_giveAllBut_61 hl (k := 4) rfl rfl (by decide) rfl (fun ls hl => ?_)
        refine lv_goto (tgt := 35) hx hb dX2_giveAllBut_64 (by decide) ?_
        exact ih i3 (i4 + (1 : Int32)) M _ _ _ hf hM (lv_sub hl [1, 2, 3, 4, 0] rfl)
      · replace hf := mx_iff hc47 hf
        refine lv_aload_n hx hb dX2_giveAllBut_50 rfl (lv_at hl 0 rfl) ?_
        refine lv_aload_n hx hb dX2_giveAllBut_51 rfl (lv_at hl 1 rfl) ?_
        refine lv_iload hx hb dX2_giveAllBut_52 (lv_at hl 4 rfl) ?_
        refine lv_iload_n hx hb dX2_giveAllBut_54 rfl (lv_at hl 3 rfl) ?_
        obtain ⟨q55, hq55, hf⟩ := mx_bd hf
        refine mx_callV C hM hl.1 yo_X2_giveOne (h' := 2) (by decide) qw_948 qw_950 qs_76 (ci := 2) (q := (RX2, TX2, 4)) rfl (xt_149 hT) (As := [.ref (E.2.1.2.1 9), .int i4, .int i3]) (rest := []) (st1 := []) (kX2_giveOne C.2.2.2.1 i4 i3 hT M hq55) rfl rfl rfl (Nat.le_of_ble_eq_true rfl) dX2_giveAllBut_55 (fun H locs hM => ?_)
        refine lv_iinc (v := (i3 + (1 : Int32))) (lv' := [(3, .int (i3 + (1 : Int32))), (0, .ref (E.2.1.2.1 149)), (1, .ref (E.2.1.2.1 9)), (2, .int i2), (4, .int i4)]) hx hb dX2_giveAllBut_58 hl (k := 3) rfl rfl (by decide) rfl (fun ls hl => ?_)
        refine lv_iinc (v := (i4 + (1 : Int32))) (lv' := [(4, .int (i4 + (1 : Int32))), (3, .int (i3 + (1 : Int32))), (0, .ref (E.2.1.2.1 149)), (1, .ref (E.2.1.2.1 9)), (2, .int i2)]) hx hb dX2_giveAllBut_61 hl (k := 4) rfl rfl (by decide) rfl (fun ls hl => ?_)
        refine lv_goto (tgt := 35) hx hb dX2_giveAllBut_64 (by decide) ?_
        exact ih (i3 + (1 : Int32)) (i4 + (1 : Int32)) q55 _ _ _ hf hM (lv_sub hl [2, 3, 4, 1, 0] rfl)
set_option maxRecDepth 100000 in
set_option maxHeartbeats 4000000 in
theorem wfX2_giveAllBut_23 {E : KE} {p : Program} {l : Launch} {e : Env} {s : State} {m : MethodId} {args : Array Value} {below : List Frame} {meth : Method} {c : Code} {q : (Int32 × MM)} (C : mx_C E p m c cX2_giveAllBut 5 s args RX2 meth (some .int)) (i2 : Int32) (hT : xOK E)  (k2 : Int32 → MM → Option (Int32 × MM)) (hk2 : ∀ (i3 : Int32) (M : MM) (H : Heap) (locs : List Loc) (ls : Array Slot), k2 i3 M = some q → mx_H E s M H locs → lv_has ls 5 [(0, .ref (E.2.1.2.1 149)), (1, .ref (E.2.1.2.1 9)), (2, .int i2), (3, .int i3)] → W p l e (mx_rm 3) s m args below meth c H locs 0 0 (mx_Z E below args s (some (.int q.1)) q.2) (F0 m 2 ls [])) : ∀ (i3 : Int32) (is1 : Int32) (bs2 : Bool) (M : MM) (H : Heap) (locs : List Loc) (ls : Array Slot), fX2_giveAllBut_23 i2 k2 i3 is1 bs2 M = some q → mx_H E s M H locs → lv_has ls 5 [(0, .ref (E.2.1.2.1 149)), (1, .ref (E.2.1.2.1 9)), (2, .int i2), (3, .int i3)] → W p l e (mx_rm 3) s m args below meth c H locs 0 0 (mx_Z E below args s (some (.int q.1)) q.2) (F0 m 23 ls [.int (mx_b bs2), .int is1, .ref (E.2.1.2.1 150)]) := by
  have hx := C.1.1
  have hb := C.1.2.1
  have hown := C.1.2.2.2.1
  have hts := C.1.2.2.2.2
  intro i3 is1 bs2 M H locs ls hf hM hl
  rw [fX2_giveAllBut_23] at hf
  obtain ⟨hg23, hf⟩ := mx_gd hf
  refine mx_iast C hM (xt_150 hT) (mx_in_vp hg23) dX2_giveAllBut_23 (fun H locs hM => ?_)
  refine lv_iinc (v := (i3 + (1 : Int32))) (lv' := [(3, .int (i3 + (1 : Int32))), (0, .ref (E.2.1.2.1 149)), (1, .ref (E.2.1.2.1 9)), (2, .int i2)]) hx hb dX2_giveAllBut_24 hl (k := 3) rfl rfl (by decide) rfl (fun ls hl => ?_)
  refine lv_goto (tgt := 2) hx hb dX2_giveAllBut_27 (by decide) ?_
  exact hk2 (i3 + (1 : Int32)) (mx_si M 150 is1.toNatClampNeg (mx_b bs2)) _ _ _ hf hM (lv_sub hl [1, 2, 3, 0] rfl)
set_option maxRecDepth 100000 in
set_option maxHeartbeats 4000000 in
theorem wfX2_giveAllBut_2 {E : KE} {p : Program} {l : Launch} {e : Env} {s : State} {m : MethodId} {args : Array Value} {below : List Frame} {meth : Method} {c : Code} {q : (Int32 × MM)} (C : mx_C E p m c cX2_giveAllBut 5 s args RX2 meth (some .int)) (i2 : Int32) (hT : xOK E)   : ∀ (n : Nat) (i3 : Int32) (M : MM) (H : Heap) (locs : List Loc) (ls : Array Slot), fX2_giveAllBut_2 i2 n i3 M = some q → mx_H E s M H locs → lv_has ls 5 [(0, .ref (E.2.1.2.1 149)), (1, .ref (E.2.1.2.1 9)), (2, .int i2), (3, .int i3)] → W p l e (mx_rm 3) s m args below meth c H locs 0 0 (mx_Z E below args s (some (.int q.1)) q.2) (F0 m 2 ls []) := by
  have hx := C.1.1
  have hb := C.1.2.1
  have hown := C.1.2.2.2.1
  have hts := C.1.2.2.2.2
  intro n
  induction n with
  | zero =>
    intro i3 M H locs ls hf hM hl
    rw [fX2_giveAllBut_2] at hf
    cases hf
  | succ n ih =>
    intro i3 M H locs ls hf hM hl
    rw [fX2_giveAllBut_2] at hf
    refine lv_iload_n hx hb dX2_giveAllBut_2 rfl (lv_at hl 3 rfl) ?_
    refine lv_sipush (v := (128 : Int32)) hx hb dX2_giveAllBut_3 (by decide) ?_
    refine lv_icmp_ge (tgt := 30) hx hb dX2_giveAllBut_6 (by decide) (fun hc6 => ?_) (fun hc6 => ?_)
    · replace hf := mx_ift hc6 hf
      refine lv_iconst (v := (0 : Int32)) hx hb dX2_giveAllBut_30 (by decide) ?_
      refine lv_istore_n (lv' := [(3, .int (0 : Int32)), (0, .ref (E.2.1.2.1 149)), (1, .ref (E.2.1.2.1 9)), (2, .int i2)]) hx hb dX2_giveAllBut_31 rfl hl (by decide) rfl (fun ls hl => ?_)
      refine lv_iconst (v := (0 : Int32)) hx hb dX2_giveAllBut_32 (by decide) ?_
      refine lv_istore (lv' := [(4, .int (0 : Int32)), (3, .int (0 : Int32)), (0, .ref (E.2.1.2.1 149)), (1, .ref (E.2.1.2.1 9)), (2, .int i2)]) hx hb dX2_giveAllBut_33 hl (by decide) rfl (fun ls hl => ?_)
      exact wfX2_giveAllBut_35 C i2 hT mx_fu (0 : Int32) (0 : Int32) M _ _ _ hf hM (lv_sub hl [2, 3, 4, 1, 0] rfl)
    · replace hf := mx_iff hc6 hf
      refine lv_aload_n hx hb dX2_giveAllBut_9 rfl (lv_at hl 0 rfl) ?_
      refine gX2_18 C hM (xt_149 hT) (f := (2, 150)) rfl (v := .ref (E.2.1.2.1 150)) rfl dX2_giveAllBut_10 ?_
      refine lv_iload_n hx hb dX2_giveAllBut_13 rfl (lv_at hl 3 rfl) ?_
      refine lv_iload_n hx hb dX2_giveAllBut_14 rfl (lv_at hl 3 rfl) ?_
      refine lv_if_ne (tgt := 22) hx hb dX2_giveAllBut_15 (by decide) (fun hc15 => ?_) (fun hc15 => ?_)
      · replace hf := mx_iff hc15 hf
        refine lv_iconst (v := (0 : Int32)) hx hb dX2_giveAllBut_22 (by decide) ?_
        exact wfX2_giveAllBut_23 C i2 hT (fX2_giveAllBut_2 i2 n) ih i3 i3 false M _ _ _ hf hM (lv_sub hl [0, 1, 2, 3] rfl)
      · replace hf := mx_ift hc15 hf
        refine lv_iconst (v := (1 : Int32)) hx hb dX2_giveAllBut_18 (by decide) ?_
        refine lv_goto (tgt := 23) hx hb dX2_giveAllBut_19 (by decide) ?_
        exact wfX2_giveAllBut_23 C i2 hT (fX2_giveAllBut_2 i2 n) ih i3 i3 true M _ _ _ hf hM (lv_sub hl [0, 1, 2, 3] rfl)
set_option maxRecDepth 100000 in
set_option maxHeartbeats 4000000 in
theorem kX2_giveAllBut {E : KE} {l : Launch} (hE : mx_ok E) (i2 : Int32) (hT : xOK E) (M : MM) {q : (Int32 × MM)} (hf : fX2_giveAllBut i2 M = some q) : mx_Met E l yX2_giveAllBut cX2_giveAllBut 5 (some .int) 3 [.ref (E.2.1.2.1 149), .ref (E.2.1.2.1 9), .int i2] M (some (.int q.1)) q.2 := by
  refine mx_enter hE (by decide) (Nat.le_of_ble_eq_true rfl) ?_
  intro p e s m below meth c C hM hn ls hl
  have hx := C.1.1
  have hb := C.1.2.1
  have hown := C.1.2.2.2.1
  have hts := C.1.2.2.2.2
  have hl : lv_has ls 5 [(0, .ref (E.2.1.2.1 149)), (1, .ref (E.2.1.2.1 9)), (2, .int i2)] := hl
  rw [fX2_giveAllBut] at hf
  refine lv_iconst (v := (0 : Int32)) hx hb dX2_giveAllBut_0 (by decide) ?_
  refine lv_istore_n (lv' := [(3, .int (0 : Int32)), (0, .ref (E.2.1.2.1 149)), (1, .ref (E.2.1.2.1 9)), (2, .int i2)]) hx hb dX2_giveAllBut_1 rfl hl (by decide) rfl (fun ls hl => ?_)
  exact wfX2_giveAllBut_2 C i2 hT mx_fu (0 : Int32) M _ _ _ hf hM (lv_sub hl [1, 2, 3, 0] rfl)
theorem dX2_waysToGive_0 : decode cX2_waysToGive 0 = .ok (.aload_n 0, 1) := by decide +kernel
theorem dX2_waysToGive_1 : decode cX2_waysToGive 1 = .ok (.aload_n 1, 1) := by decide +kernel
theorem dX2_waysToGive_2 : decode cX2_waysToGive 2 = .ok (.iconst (-1), 1) := by decide +kernel
theorem dX2_waysToGive_3 : decode cX2_waysToGive 3 = .ok (.invokevirtual 73, 3) := by decide +kernel
theorem dX2_waysToGive_6 : decode cX2_waysToGive 6 = .ok (.istore_n 2, 1) := by decide +kernel
theorem dX2_waysToGive_7 : decode cX2_waysToGive 7 = .ok (.iconst 0, 1) := by decide +kernel
theorem dX2_waysToGive_8 : decode cX2_waysToGive 8 = .ok (.istore_n 3, 1) := by decide +kernel
theorem dX2_waysToGive_9 : decode cX2_waysToGive 9 = .ok (.iconst 0, 1) := by decide +kernel
theorem dX2_waysToGive_10 : decode cX2_waysToGive 10 = .ok (.istore 4, 2) := by decide +kernel
theorem dX2_waysToGive_12 : decode cX2_waysToGive 12 = .ok (.iload 4, 2) := by decide +kernel
theorem dX2_waysToGive_14 : decode cX2_waysToGive 14 = .ok (.sipush 128, 3) := by decide +kernel
theorem dX2_waysToGive_17 : decode cX2_waysToGive 17 = .ok (.if_icmp .ge 28, 3) := by decide +kernel
theorem dX2_waysToGive_20 : decode cX2_waysToGive 20 = .ok (.iload 4, 2) := by decide +kernel
theorem dX2_waysToGive_22 : decode cX2_waysToGive 22 = .ok (.invokestatic 37, 3) := by decide +kernel
theorem dX2_waysToGive_25 : decode cX2_waysToGive 25 = .ok (.iload_n 2, 1) := by decide +kernel
theorem dX2_waysToGive_26 : decode cX2_waysToGive 26 = .ok (.if_icmp .ne 13, 3) := by decide +kernel
theorem dX2_waysToGive_29 : decode cX2_waysToGive 29 = .ok (.iload_n 3, 1) := by decide +kernel
theorem dX2_waysToGive_30 : decode cX2_waysToGive 30 = .ok (.aload_n 0, 1) := by decide +kernel
theorem dX2_waysToGive_31 : decode cX2_waysToGive 31 = .ok (.getfield 18, 3) := by decide +kernel
theorem dX2_waysToGive_34 : decode cX2_waysToGive 34 = .ok (.iload 4, 2) := by decide +kernel
theorem dX2_waysToGive_36 : decode cX2_waysToGive 36 = .ok (.iaload, 1) := by decide +kernel
theorem dX2_waysToGive_37 : decode cX2_waysToGive 37 = .ok (.iadd, 1) := by decide +kernel
theorem dX2_waysToGive_38 : decode cX2_waysToGive 38 = .ok (.istore_n 3, 1) := by decide +kernel
theorem dX2_waysToGive_39 : decode cX2_waysToGive 39 = .ok (.iinc 4 1, 3) := by decide +kernel
theorem dX2_waysToGive_42 : decode cX2_waysToGive 42 = .ok (.goto (-30), 3) := by decide +kernel
theorem dX2_waysToGive_45 : decode cX2_waysToGive 45 = .ok (.iload_n 3, 1) := by decide +kernel
theorem dX2_waysToGive_46 : decode cX2_waysToGive 46 = .ok (.ireturn, 1) := by decide +kernel
set_option maxRecDepth 100000 in
set_option maxHeartbeats 4000000 in
theorem wfX2_waysToGive_12 {E : KE} {p : Program} {l : Launch} {e : Env} {s : State} {m : MethodId} {args : Array Value} {below : List Frame} {meth : Method} {c : Code} {q : (Int32 × MM)} (C : mx_C E p m c cX2_waysToGive 5 s args RX2 meth (some .int))  (hT : xOK E) (i2 : Int32)  : ∀ (n : Nat) (i3 : Int32) (i4 : Int32) (M : MM) (H : Heap) (locs : List Loc) (ls : Array Slot), fX2_waysToGive_12 i2 n i3 i4 M = some q → mx_H E s M H locs → lv_has ls 5 [(0, .ref (E.2.1.2.1 149)), (2, .int i2), (3, .int i3), (4, .int i4)] → W p l e (mx_rm 4) s m args below meth c H locs 0 0 (mx_Z E below args s (some (.int q.1)) q.2) (F0 m 12 ls []) := by
  have hx := C.1.1
  have hb := C.1.2.1
  have hown := C.1.2.2.2.1
  have hts := C.1.2.2.2.2
  intro n
  induction n with
  | zero =>
    intro i3 i4 M H locs ls hf hM hl
    rw [fX2_waysToGive_12] at hf
    cases hf
  | succ n ih =>
    intro i3 i4 M H locs ls hf hM hl
    rw [fX2_waysToGive_12] at hf
    refine lv_iload hx hb dX2_waysToGive_12 (lv_at hl 3 rfl) ?_
    refine lv_sipush (v := (128 : Int32)) hx hb dX2_waysToGive_14 (by decide) ?_
    refine lv_icmp_ge (tgt := 45) hx hb dX2_waysToGive_17 (by decide) (fun hc17 => ?_) (fun hc17 => ?_)
    · replace hf := mx_ift hc17 hf
      refine lv_iload_n hx hb dX2_waysToGive_45 rfl (lv_at hl 2 rfl) ?_
      exact mx_iret C hM hf dX2_waysToGive_46
    · replace hf := mx_iff hc17 hf
      refine lv_iload hx hb dX2_waysToGive_20 (lv_at hl 3 rfl) ?_
      obtain ⟨q22, hq22, hf⟩ := mx_bd hf
      refine mx_callS C hM hl.1 yo_J6_bitCount_0f7a4 (h' := 0) (by decide) qw_927 qw_788 (As := [.int i4]) (rest := []) (st1 := [.int q22]) (kJ6_bitCount_0f7a4 C.2.2.2.1 i4 M hq22) rfl rfl rfl (Nat.le_of_ble_eq_true rfl) dX2_waysToGive_22 (fun H locs hM => ?_)
      refine lv_iload_n hx hb dX2_waysToGive_25 rfl (lv_at hl 1 rfl) ?_
      refine lv_icmp_ne (tgt := 39) hx hb dX2_waysToGive_26 (by decide) (fun hc26 => ?_) (fun hc26 => ?_)
      · replace hf := mx_iff hc26 hf
        refine lv_iinc (v := (i4 + (1 : Int32))) (lv' := [(4, .int (i4 + (1 : Int32))), (0, .ref (E.2.1.2.1 149)), (2, .int i2), (3, .int i3)]) hx hb dX2_waysToGive_39 hl (k := 3) rfl rfl (by decide) rfl (fun ls hl => ?_)
        refine lv_goto (tgt := 12) hx hb dX2_waysToGive_42 (by decide) ?_
        exact ih i3 (i4 + (1 : Int32)) M _ _ _ hf hM (lv_sub hl [1, 2, 3, 0] rfl)
      · replace hf := mx_ift hc26 hf
        refine lv_iload_n hx hb dX2_waysToGive_29 rfl (lv_at hl 2 rfl) ?_
        refine lv_aload_n hx hb dX2_waysToGive_30 rfl (lv_at hl 0 rfl) ?_
        refine gX2_18 C hM (xt_149 hT) (f := (2, 150)) rfl (v := .ref (E.2.1.2.1 150)) rfl dX2_waysToGive_31 ?_
        refine lv_iload hx hb dX2_waysToGive_34 (lv_at hl 3 rfl) ?_
        obtain ⟨hg36, hf⟩ := mx_gd hf
        refine mx_iald C hM (xt_150 hT) (mx_in_vp hg36) dX2_waysToGive_36 ?_
        refine lv_iadd hx hb dX2_waysToGive_37 ?_
        refine lv_istore_n (lv' := [(3, .int (i3 + (M.1 150 i4.toNatClampNeg))), (0, .ref (E.2.1.2.1 149)), (2, .int i2), (4, .int i4)]) hx hb dX2_waysToGive_38 rfl hl (by decide) rfl (fun ls hl => ?_)
        refine lv_iinc (v := (i4 + (1 : Int32))) (lv' := [(4, .int (i4 + (1 : Int32))), (3, .int (i3 + (M.1 150 i4.toNatClampNeg))), (0, .ref (E.2.1.2.1 149)), (2, .int i2)]) hx hb dX2_waysToGive_39 hl (k := 3) rfl rfl (by decide) rfl (fun ls hl => ?_)
        refine lv_goto (tgt := 12) hx hb dX2_waysToGive_42 (by decide) ?_
        exact ih (i3 + (M.1 150 i4.toNatClampNeg)) (i4 + (1 : Int32)) M _ _ _ hf hM (lv_sub hl [2, 3, 1, 0] rfl)
set_option maxRecDepth 100000 in
set_option maxHeartbeats 4000000 in
theorem kX2_waysToGive {E : KE} {l : Launch} (hE : mx_ok E)  (hT : xOK E) (M : MM) {q : (Int32 × MM)} (hf : fX2_waysToGive M = some q) : mx_Met E l yX2_waysToGive cX2_waysToGive 5 (some .int) 4 [.ref (E.2.1.2.1 149), .ref (E.2.1.2.1 9)] M (some (.int q.1)) q.2 := by
  refine mx_enter hE (by decide) (Nat.le_of_ble_eq_true rfl) ?_
  intro p e s m below meth c C hM hn ls hl
  have hx := C.1.1
  have hb := C.1.2.1
  have hown := C.1.2.2.2.1
  have hts := C.1.2.2.2.2
  have hl : lv_has ls 5 [(0, .ref (E.2.1.2.1 149)), (1, .ref (E.2.1.2.1 9))] := hl
  rw [fX2_waysToGive] at hf
  refine lv_aload_n hx hb dX2_waysToGive_0 rfl (lv_at hl 0 rfl) ?_
  refine lv_aload_n hx hb dX2_waysToGive_1 rfl (lv_at hl 1 rfl) ?_
  refine lv_iconst (v := (-1 : Int32)) hx hb dX2_waysToGive_2 (by decide) ?_
  obtain ⟨q3, hq3, hf⟩ := mx_bd hf
  refine mx_callV C hM hl.1 yo_X2_giveAllBut (h' := 3) (by decide) qw_944 qw_946 qs_75 (ci := 2) (q := (RX2, TX2, 4)) rfl (xt_149 hT) (As := [.ref (E.2.1.2.1 9), .int (-1 : Int32)]) (rest := []) (st1 := [.int q3.1]) (kX2_giveAllBut C.2.2.2.1 (-1 : Int32) hT M hq3) rfl rfl rfl (Nat.le_of_ble_eq_true rfl) dX2_waysToGive_3 (fun H locs hM => ?_)
  refine lv_istore_n (lv' := [(2, .int q3.1), (0, .ref (E.2.1.2.1 149)), (1, .ref (E.2.1.2.1 9))]) hx hb dX2_waysToGive_6 rfl hl (by decide) rfl (fun ls hl => ?_)
  refine lv_iconst (v := (0 : Int32)) hx hb dX2_waysToGive_7 (by decide) ?_
  refine lv_istore_n (lv' := [(3, .int (0 : Int32)), (2, .int q3.1), (0, .ref (E.2.1.2.1 149)), (1, .ref (E.2.1.2.1 9))]) hx hb dX2_waysToGive_8 rfl hl (by decide) rfl (fun ls hl => ?_)
  refine lv_iconst (v := (0 : Int32)) hx hb dX2_waysToGive_9 (by decide) ?_
  refine lv_istore (lv' := [(4, .int (0 : Int32)), (3, .int (0 : Int32)), (2, .int q3.1), (0, .ref (E.2.1.2.1 149)), (1, .ref (E.2.1.2.1 9))]) hx hb dX2_waysToGive_10 hl (by decide) rfl (fun ls hl => ?_)
  exact wfX2_waysToGive_12 C hT q3.1 mx_fu (0 : Int32) (0 : Int32) q3.2 _ _ _ hf hM (lv_sub hl [3, 2, 1, 0] rfl)
theorem dX2_countVotes_0 : decode cX2_countVotes 0 = .ok (.aload_n 0, 1) := by decide +kernel
theorem dX2_countVotes_1 : decode cX2_countVotes 1 = .ok (.aload_n 1, 1) := by decide +kernel
theorem dX2_countVotes_2 : decode cX2_countVotes 2 = .ok (.iload_n 2, 1) := by decide +kernel
theorem dX2_countVotes_3 : decode cX2_countVotes 3 = .ok (.invokevirtual 73, 3) := by decide +kernel
theorem dX2_countVotes_6 : decode cX2_countVotes 6 = .ok (.istore_n 3, 1) := by decide +kernel
theorem dX2_countVotes_7 : decode cX2_countVotes 7 = .ok (.iconst 0, 1) := by decide +kernel
theorem dX2_countVotes_8 : decode cX2_countVotes 8 = .ok (.istore 4, 2) := by decide +kernel
theorem dX2_countVotes_10 : decode cX2_countVotes 10 = .ok (.iload 4, 2) := by decide +kernel
theorem dX2_countVotes_12 : decode cX2_countVotes 12 = .ok (.aload_n 1, 1) := by decide +kernel
theorem dX2_countVotes_13 : decode cX2_countVotes 13 = .ok (.getfield 61, 3) := by decide +kernel
theorem dX2_countVotes_16 : decode cX2_countVotes 16 = .ok (.if_icmp .ge 72, 3) := by decide +kernel
theorem dX2_countVotes_19 : decode cX2_countVotes 19 = .ok (.aload_n 0, 1) := by decide +kernel
theorem dX2_countVotes_20 : decode cX2_countVotes 20 = .ok (.getfield 22, 3) := by decide +kernel
theorem dX2_countVotes_23 : decode cX2_countVotes 23 = .ok (.iload 4, 2) := by decide +kernel
theorem dX2_countVotes_25 : decode cX2_countVotes 25 = .ok (.iconst 0, 1) := by decide +kernel
theorem dX2_countVotes_26 : decode cX2_countVotes 26 = .ok (.iastore, 1) := by decide +kernel
theorem dX2_countVotes_27 : decode cX2_countVotes 27 = .ok (.iconst 0, 1) := by decide +kernel
theorem dX2_countVotes_28 : decode cX2_countVotes 28 = .ok (.istore 5, 2) := by decide +kernel
theorem dX2_countVotes_30 : decode cX2_countVotes 30 = .ok (.iload 5, 2) := by decide +kernel
theorem dX2_countVotes_32 : decode cX2_countVotes 32 = .ok (.sipush 128, 3) := by decide +kernel
theorem dX2_countVotes_35 : decode cX2_countVotes 35 = .ok (.if_icmp .ge 47, 3) := by decide +kernel
theorem dX2_countVotes_38 : decode cX2_countVotes 38 = .ok (.iload 5, 2) := by decide +kernel
theorem dX2_countVotes_40 : decode cX2_countVotes 40 = .ok (.invokestatic 37, 3) := by decide +kernel
theorem dX2_countVotes_43 : decode cX2_countVotes 43 = .ok (.iload_n 3, 1) := by decide +kernel
theorem dX2_countVotes_44 : decode cX2_countVotes 44 = .ok (.if_icmp .ne 32, 3) := by decide +kernel
theorem dX2_countVotes_47 : decode cX2_countVotes 47 = .ok (.aload_n 1, 1) := by decide +kernel
theorem dX2_countVotes_48 : decode cX2_countVotes 48 = .ok (.iload 5, 2) := by decide +kernel
theorem dX2_countVotes_50 : decode cX2_countVotes 50 = .ok (.iload 4, 2) := by decide +kernel
theorem dX2_countVotes_52 : decode cX2_countVotes 52 = .ok (.iload_n 2, 1) := by decide +kernel
theorem dX2_countVotes_53 : decode cX2_countVotes 53 = .ok (.invokestatic 83, 3) := by decide +kernel
theorem dX2_countVotes_56 : decode cX2_countVotes 56 = .ok (.ifCond .eq 20, 3) := by decide +kernel
theorem dX2_countVotes_59 : decode cX2_countVotes 59 = .ok (.aload_n 0, 1) := by decide +kernel
theorem dX2_countVotes_60 : decode cX2_countVotes 60 = .ok (.getfield 22, 3) := by decide +kernel
theorem dX2_countVotes_63 : decode cX2_countVotes 63 = .ok (.iload 4, 2) := by decide +kernel
theorem dX2_countVotes_65 : decode cX2_countVotes 65 = .ok (.dup2, 1) := by decide +kernel
theorem dX2_countVotes_66 : decode cX2_countVotes 66 = .ok (.iaload, 1) := by decide +kernel
theorem dX2_countVotes_67 : decode cX2_countVotes 67 = .ok (.aload_n 0, 1) := by decide +kernel
theorem dX2_countVotes_68 : decode cX2_countVotes 68 = .ok (.getfield 18, 3) := by decide +kernel
theorem dX2_countVotes_71 : decode cX2_countVotes 71 = .ok (.iload 5, 2) := by decide +kernel
theorem dX2_countVotes_73 : decode cX2_countVotes 73 = .ok (.iaload, 1) := by decide +kernel
theorem dX2_countVotes_74 : decode cX2_countVotes 74 = .ok (.iadd, 1) := by decide +kernel
theorem dX2_countVotes_75 : decode cX2_countVotes 75 = .ok (.iastore, 1) := by decide +kernel
theorem dX2_countVotes_76 : decode cX2_countVotes 76 = .ok (.iinc 5 1, 3) := by decide +kernel
theorem dX2_countVotes_79 : decode cX2_countVotes 79 = .ok (.goto (-49), 3) := by decide +kernel
theorem dX2_countVotes_82 : decode cX2_countVotes 82 = .ok (.iinc 4 1, 3) := by decide +kernel
theorem dX2_countVotes_85 : decode cX2_countVotes 85 = .ok (.goto (-75), 3) := by decide +kernel
theorem dX2_countVotes_88 : decode cX2_countVotes 88 = .ok (.return_, 1) := by decide +kernel
set_option maxRecDepth 100000 in
set_option maxHeartbeats 4000000 in
theorem wfX2_countVotes_30 {E : KE} {p : Program} {l : Launch} {e : Env} {s : State} {m : MethodId} {args : Array Value} {below : List Frame} {meth : Method} {c : Code} {q : MM} (C : mx_C E p m c cX2_countVotes 6 s args RX2 meth none) (i2 : Int32) (hT : xOK E) (i3 : Int32) (k10 : Int32 → MM → Option MM) (hk10 : ∀ (i4 : Int32) (M : MM) (H : Heap) (locs : List Loc) (ls : Array Slot), k10 i4 M = some q → mx_H E s M H locs → lv_has ls 6 [(0, .ref (E.2.1.2.1 149)), (1, .ref (E.2.1.2.1 9)), (2, .int i2), (3, .int i3), (4, .int i4)] → W p l e (mx_rm 4) s m args below meth c H locs 0 0 (mx_Z E below args s none q) (F0 m 10 ls [])) : ∀ (n : Nat) (i4 : Int32) (i5 : Int32) (M : MM) (H : Heap) (locs : List Loc) (ls : Array Slot), fX2_countVotes_30 i2 i3 k10 n i4 i5 M = some q → mx_H E s M H locs → lv_has ls 6 [(0, .ref (E.2.1.2.1 149)), (1, .ref (E.2.1.2.1 9)), (2, .int i2), (3, .int i3), (4, .int i4), (5, .int i5)] → W p l e (mx_rm 4) s m args below meth c H locs 0 0 (mx_Z E below args s none q) (F0 m 30 ls []) := by
  have hx := C.1.1
  have hb := C.1.2.1
  have hown := C.1.2.2.2.1
  have hts := C.1.2.2.2.2
  intro n
  induction n with
  | zero =>
    intro i4 i5 M H locs ls hf hM hl
    rw [fX2_countVotes_30] at hf
    cases hf
  | succ n ih =>
    intro i4 i5 M H locs ls hf hM hl
    rw [fX2_countVotes_30] at hf
    refine lv_iload hx hb dX2_countVotes_30 (lv_at hl 5 rfl) ?_
    refine lv_sipush (v := (128 : Int32)) hx hb dX2_countVotes_32 (by decide) ?_
    refine lv_icmp_ge (tgt := 82) hx hb dX2_countVotes_35 (by decide) (fun hc35 => ?_) (fun hc35 => ?_)
    · replace hf := mx_ift hc35 hf
      refine lv_iinc (v := (i4 + (1 : Int32))) (lv' := [(4, .int (i4 + (1 : Int32))), (0, .ref (E.2.1.2.1 149)), (1, .ref (E.2.1.2.1 9)), (2, .int i2), (3, .int i3), (5, .int i5)]) hx hb dX2_countVotes_82 hl (k := 4) rfl rfl (by decide) rfl (fun ls hl => ?_)
      refine lv_goto (tgt := 10) hx hb dX2_countVotes_85 (by decide) ?_
      exact hk10 (i4 + (1 : Int32)) M _ _ _ hf hM (lv_sub hl [1, 2, 3, 4, 0] rfl)
    · replace hf := mx_iff hc35 hf
      refine lv_iload hx hb dX2_countVotes_38 (lv_at hl 5 rfl) ?_
      obtain ⟨q40, hq40, hf⟩ := mx_bd hf
      refine mx_callS C hM hl.1 yo_J6_bitCount_0f7a4 (h' := 0) (by decide) qw_927 qw_788 (As := [.int i5]) (rest := []) (st1 := [.int q40]) (kJ6_bitCount_0f7a4 C.2.2.2.1 i5 M hq40) rfl rfl rfl (Nat.le_of_ble_eq_true rfl) dX2_countVotes_40 (fun H locs hM => ?_)
      refine lv_iload_n hx hb dX2_countVotes_43 rfl (lv_at hl 3 rfl) ?_
      refine lv_icmp_ne (tgt := 76) hx hb dX2_countVotes_44 (by decide) (fun hc44 => ?_) (fun hc44 => ?_)
      · replace hf := mx_iff hc44 hf
        refine lv_iinc (v := (i5 + (1 : Int32))) (lv' := [(5, .int (i5 + (1 : Int32))), (0, .ref (E.2.1.2.1 149)), (1, .ref (E.2.1.2.1 9)), (2, .int i2), (3, .int i3), (4, .int i4)]) hx hb dX2_countVotes_76 hl (k := 5) rfl rfl (by decide) rfl (fun ls hl => ?_)
        refine lv_goto (tgt := 30) hx hb dX2_countVotes_79 (by decide) ?_
        exact ih i4 (i5 + (1 : Int32)) M _ _ _ hf hM (lv_sub hl [1, 2, 3, 4, 5, 0] rfl)
      · replace hf := mx_ift hc44 hf
        refine lv_aload_n hx hb dX2_countVotes_47 rfl (lv_at hl 1 rfl) ?_
        refine lv_iload hx hb dX2_countVotes_48 (lv_at hl 5 rfl) ?_
        refine lv_iload hx hb dX2_countVotes_50 (lv_at hl 4 rfl) ?_
        refine lv_iload_n hx hb dX2_countVotes_52 rfl (lv_at hl 2 rfl) ?_
        obtain ⟨q53, hq53, hf⟩ := mx_bd hf
        refine mx_callS C hM hl.1 yo_X2_mayHave (h' := 1) (by decide) qw_952 qw_953 (As := [.ref (E.2.1.2.1 9), .int i5, .int i4, .int i2]) (rest := []) (st1 := [.int (mx_b q53)]) (kX2_mayHave C.2.2.2.1 i5 i4 i2 hT M hq53) rfl rfl rfl (Nat.le_of_ble_eq_true rfl) dX2_countVotes_53 (fun H locs hM => ?_)
        refine lv_if_eq (tgt := 76) hx hb dX2_countVotes_56 (by decide) (fun hc56 => ?_) (fun hc56 => ?_)
        · replace hf := mx_ift hc56 hf
          refine lv_iinc (v := (i5 + (1 : Int32))) (lv' := [(5, .int (i5 + (1 : Int32))), (0, .ref (E.2.1.2.1 149)), (1, .ref (E.2.1.2.1 9)), (2, .int i2), (3, .int i3), (4, .int i4)]) hx hb dX2_countVotes_76 hl (k := 5) rfl rfl (by decide) rfl (fun ls hl => ?_)
          refine lv_goto (tgt := 30) hx hb dX2_countVotes_79 (by decide) ?_
          exact ih i4 (i5 + (1 : Int32)) M _ _ _ hf hM (lv_sub hl [1, 2, 3, 4, 5, 0] rfl)
        · replace hf := mx_iff hc56 hf
          refine lv_aload_n hx hb dX2_countVotes_59 rfl (lv_at hl 0 rfl) ?_
          refine gX2_22 C hM (xt_149 hT) (f := (2, 151)) rfl (v := .ref (E.2.1.2.1 151)) rfl dX2_countVotes_60 ?_
          refine lv_iload hx hb dX2_countVotes_63 (lv_at hl 4 rfl) ?_
          refine lv_dup2_11 hx hb dX2_countVotes_65 rfl rfl ?_
          obtain ⟨hg66, hf⟩ := mx_gd hf
          refine mx_iald C hM (xt_151 hT) (mx_in_vp hg66) dX2_countVotes_66 ?_
          refine lv_aload_n hx hb dX2_countVotes_67 rfl (lv_at hl 0 rfl) ?_
          refine gX2_18 C hM (xt_149 hT) (f := (2, 150)) rfl (v := .ref (E.2.1.2.1 150)) rfl dX2_countVotes_68 ?_
          refine lv_iload hx hb dX2_countVotes_71 (lv_at hl 5 rfl) ?_
          obtain ⟨hg73, hf⟩ := mx_gd hf
          refine mx_iald C hM (xt_150 hT) (mx_in_vp hg73) dX2_countVotes_73 ?_
          refine lv_iadd hx hb dX2_countVotes_74 ?_
          obtain ⟨hg75, hf⟩ := mx_gd hf
          refine mx_iast C hM (xt_151 hT) (mx_in_vp hg75) dX2_countVotes_75 (fun H locs hM => ?_)
          refine lv_iinc (v := (i5 + (1 : Int32))) (lv' := [(5, .int (i5 + (1 : Int32))), (0, .ref (E.2.1.2.1 149)), (1, .ref (E.2.1.2.1 9)), (2, .int i2), (3, .int i3), (4, .int i4)]) hx hb dX2_countVotes_76 hl (k := 5) rfl rfl (by decide) rfl (fun ls hl => ?_)
          refine lv_goto (tgt := 30) hx hb dX2_countVotes_79 (by decide) ?_
          exact ih i4 (i5 + (1 : Int32)) (mx_si M 151 i4.toNatClampNeg ((M.1 151 i4.toNatClampNeg) + (M.1 150 i5.toNatClampNeg))) _ _ _ hf hM (lv_sub hl [1, 2, 3, 4, 5, 0] rfl)
set_option maxRecDepth 100000 in
set_option maxHeartbeats 4000000 in
theorem wfX2_countVotes_10 {E : KE} {p : Program} {l : Launch} {e : Env} {s : State} {m : MethodId} {args : Array Value} {below : List Frame} {meth : Method} {c : Code} {q : MM} (C : mx_C E p m c cX2_countVotes 6 s args RX2 meth none) (i2 : Int32) (hT : xOK E) (i3 : Int32)  : ∀ (n : Nat) (i4 : Int32) (M : MM) (H : Heap) (locs : List Loc) (ls : Array Slot), fX2_countVotes_10 i2 i3 n i4 M = some q → mx_H E s M H locs → lv_has ls 6 [(0, .ref (E.2.1.2.1 149)), (1, .ref (E.2.1.2.1 9)), (2, .int i2), (3, .int i3), (4, .int i4)] → W p l e (mx_rm 4) s m args below meth c H locs 0 0 (mx_Z E below args s none q) (F0 m 10 ls []) := by
  have hx := C.1.1
  have hb := C.1.2.1
  have hown := C.1.2.2.2.1
  have hts := C.1.2.2.2.2
  intro n
  induction n with
  | zero =>
    intro i4 M H locs ls hf hM hl
    rw [fX2_countVotes_10] at hf
    cases hf
  | succ n ih =>
    intro i4 M H locs ls hf hM hl
    rw [fX2_countVotes_10] at hf
    refine lv_iload hx hb dX2_countVotes_10 (lv_at hl 4 rfl) ?_
    refine lv_aload_n hx hb dX2_countVotes_12 rfl (lv_at hl 1 rfl) ?_
    refine gX2_61 C hT hM (xt_9 hT) (f := (0, 0)) rfl (v := .int (M.1 9 0)) rfl dX2_countVotes_13 ?_
    refine lv_icmp_ge (tgt := 88) hx hb dX2_countVotes_16 (by decide) (fun hc16 => ?_) (fun hc16 => ?_)
    · replace hf := mx_ift hc16 hf
      exact mx_vret C hM hf dX2_countVotes_88
    · replace hf := mx_iff hc16 hf
      refine lv_aload_n hx hb dX2_countVotes_19 rfl (lv_at hl 0 rfl) ?_
      refine gX2_22 C hM (xt_149 hT) (f := (2, 151)) rfl (v := .ref (E.2.1.2.1 151)) rfl dX2_countVotes_20 ?_
      refine lv_iload hx hb dX2_countVotes_23 (lv_at hl 4 rfl) ?_
      refine lv_iconst (v := (0 : Int32)) hx hb dX2_countVotes_25 (by decide) ?_
      obtain ⟨hg26, hf⟩ := mx_gd hf
      refine mx_iast C hM (xt_151 hT) (mx_in_vp hg26) dX2_countVotes_26 (fun H locs hM => ?_)
      refine lv_iconst (v := (0 : Int32)) hx hb dX2_countVotes_27 (by decide) ?_
      refine lv_istore (lv' := [(5, .int (0 : Int32)), (0, .ref (E.2.1.2.1 149)), (1, .ref (E.2.1.2.1 9)), (2, .int i2), (3, .int i3), (4, .int i4)]) hx hb dX2_countVotes_28 hl (by decide) rfl (fun ls hl => ?_)
      exact wfX2_countVotes_30 C i2 hT i3 (fX2_countVotes_10 i2 i3 n) ih mx_fu i4 (0 : Int32) (mx_si M 151 i4.toNatClampNeg (0 : Int32)) _ _ _ hf hM (lv_sub hl [1, 2, 3, 4, 5, 0] rfl)
set_option maxRecDepth 100000 in
set_option maxHeartbeats 4000000 in
theorem kX2_countVotes {E : KE} {l : Launch} (hE : mx_ok E) (i2 : Int32) (hT : xOK E) (M : MM) {q : MM} (hf : fX2_countVotes i2 M = some q) : mx_Met E l yX2_countVotes cX2_countVotes 6 none 4 [.ref (E.2.1.2.1 149), .ref (E.2.1.2.1 9), .int i2] M none q := by
  refine mx_enter hE (by decide) (Nat.le_of_ble_eq_true rfl) ?_
  intro p e s m below meth c C hM hn ls hl
  have hx := C.1.1
  have hb := C.1.2.1
  have hown := C.1.2.2.2.1
  have hts := C.1.2.2.2.2
  have hl : lv_has ls 6 [(0, .ref (E.2.1.2.1 149)), (1, .ref (E.2.1.2.1 9)), (2, .int i2)] := hl
  rw [fX2_countVotes] at hf
  refine lv_aload_n hx hb dX2_countVotes_0 rfl (lv_at hl 0 rfl) ?_
  refine lv_aload_n hx hb dX2_countVotes_1 rfl (lv_at hl 1 rfl) ?_
  refine lv_iload_n hx hb dX2_countVotes_2 rfl (lv_at hl 2 rfl) ?_
  obtain ⟨q3, hq3, hf⟩ := mx_bd hf
  refine mx_callV C hM hl.1 yo_X2_giveAllBut (h' := 3) (by decide) qw_944 qw_946 qs_75 (ci := 2) (q := (RX2, TX2, 4)) rfl (xt_149 hT) (As := [.ref (E.2.1.2.1 9), .int i2]) (rest := []) (st1 := [.int q3.1]) (kX2_giveAllBut C.2.2.2.1 i2 hT M hq3) rfl rfl rfl (Nat.le_of_ble_eq_true rfl) dX2_countVotes_3 (fun H locs hM => ?_)
  refine lv_istore_n (lv' := [(3, .int q3.1), (0, .ref (E.2.1.2.1 149)), (1, .ref (E.2.1.2.1 9)), (2, .int i2)]) hx hb dX2_countVotes_6 rfl hl (by decide) rfl (fun ls hl => ?_)
  refine lv_iconst (v := (0 : Int32)) hx hb dX2_countVotes_7 (by decide) ?_
  refine lv_istore (lv' := [(4, .int (0 : Int32)), (3, .int q3.1), (0, .ref (E.2.1.2.1 149)), (1, .ref (E.2.1.2.1 9)), (2, .int i2)]) hx hb dX2_countVotes_8 hl (by decide) rfl (fun ls hl => ?_)
  exact wfX2_countVotes_10 C i2 hT q3.1 mx_fu (0 : Int32) q3.2 _ _ _ hf hM (lv_sub hl [2, 3, 4, 1, 0] rfl)
theorem dX2_likeliest_0 : decode cX2_likeliest 0 = .ok (.aload_n 0, 1) := by decide +kernel
theorem dX2_likeliest_1 : decode cX2_likeliest 1 = .ok (.aload_n 1, 1) := by decide +kernel
theorem dX2_likeliest_2 : decode cX2_likeliest 2 = .ok (.iload_n 2, 1) := by decide +kernel
theorem dX2_likeliest_3 : decode cX2_likeliest 3 = .ok (.invokevirtual 90, 3) := by decide +kernel
theorem dX2_likeliest_6 : decode cX2_likeliest 6 = .ok (.iconst (-1), 1) := by decide +kernel
theorem dX2_likeliest_7 : decode cX2_likeliest 7 = .ok (.istore_n 3, 1) := by decide +kernel
theorem dX2_likeliest_8 : decode cX2_likeliest 8 = .ok (.iconst 0, 1) := by decide +kernel
theorem dX2_likeliest_9 : decode cX2_likeliest 9 = .ok (.istore 4, 2) := by decide +kernel
theorem dX2_likeliest_11 : decode cX2_likeliest 11 = .ok (.iconst 0, 1) := by decide +kernel
theorem dX2_likeliest_12 : decode cX2_likeliest 12 = .ok (.istore 5, 2) := by decide +kernel
theorem dX2_likeliest_14 : decode cX2_likeliest 14 = .ok (.iload 5, 2) := by decide +kernel
theorem dX2_likeliest_16 : decode cX2_likeliest 16 = .ok (.aload_n 1, 1) := by decide +kernel
theorem dX2_likeliest_17 : decode cX2_likeliest 17 = .ok (.getfield 61, 3) := by decide +kernel
theorem dX2_likeliest_20 : decode cX2_likeliest 20 = .ok (.if_icmp .ge 33, 3) := by decide +kernel
theorem dX2_likeliest_23 : decode cX2_likeliest 23 = .ok (.aload_n 0, 1) := by decide +kernel
theorem dX2_likeliest_24 : decode cX2_likeliest 24 = .ok (.getfield 22, 3) := by decide +kernel
theorem dX2_likeliest_27 : decode cX2_likeliest 27 = .ok (.iload 5, 2) := by decide +kernel
theorem dX2_likeliest_29 : decode cX2_likeliest 29 = .ok (.iaload, 1) := by decide +kernel
theorem dX2_likeliest_30 : decode cX2_likeliest 30 = .ok (.iload 4, 2) := by decide +kernel
theorem dX2_likeliest_32 : decode cX2_likeliest 32 = .ok (.if_icmp .le 15, 3) := by decide +kernel
theorem dX2_likeliest_35 : decode cX2_likeliest 35 = .ok (.aload_n 0, 1) := by decide +kernel
theorem dX2_likeliest_36 : decode cX2_likeliest 36 = .ok (.getfield 22, 3) := by decide +kernel
theorem dX2_likeliest_39 : decode cX2_likeliest 39 = .ok (.iload 5, 2) := by decide +kernel
theorem dX2_likeliest_41 : decode cX2_likeliest 41 = .ok (.iaload, 1) := by decide +kernel
theorem dX2_likeliest_42 : decode cX2_likeliest 42 = .ok (.istore 4, 2) := by decide +kernel
theorem dX2_likeliest_44 : decode cX2_likeliest 44 = .ok (.iload 5, 2) := by decide +kernel
theorem dX2_likeliest_46 : decode cX2_likeliest 46 = .ok (.istore_n 3, 1) := by decide +kernel
theorem dX2_likeliest_47 : decode cX2_likeliest 47 = .ok (.iinc 5 1, 3) := by decide +kernel
theorem dX2_likeliest_50 : decode cX2_likeliest 50 = .ok (.goto (-36), 3) := by decide +kernel
theorem dX2_likeliest_53 : decode cX2_likeliest 53 = .ok (.iload_n 3, 1) := by decide +kernel
theorem dX2_likeliest_54 : decode cX2_likeliest 54 = .ok (.ireturn, 1) := by decide +kernel
set_option maxRecDepth 100000 in
set_option maxHeartbeats 4000000 in
theorem wfX2_likeliest_14 {E : KE} {p : Program} {l : Launch} {e : Env} {s : State} {m : MethodId} {args : Array Value} {below : List Frame} {meth : Method} {c : Code} {q : (Int32 × MM)} (C : mx_C E p m c cX2_likeliest 6 s args RX2 meth (some .int)) (i2 : Int32) (hT : xOK E)   : ∀ (n : Nat) (i3 : Int32) (i4 : Int32) (i5 : Int32) (M : MM) (H : Heap) (locs : List Loc) (ls : Array Slot), fX2_likeliest_14 i2 n i3 i4 i5 M = some q → mx_H E s M H locs → lv_has ls 6 [(0, .ref (E.2.1.2.1 149)), (1, .ref (E.2.1.2.1 9)), (3, .int i3), (4, .int i4), (5, .int i5)] → W p l e (mx_rm 5) s m args below meth c H locs 0 0 (mx_Z E below args s (some (.int q.1)) q.2) (F0 m 14 ls []) := by
  have hx := C.1.1
  have hb := C.1.2.1
  have hown := C.1.2.2.2.1
  have hts := C.1.2.2.2.2
  intro n
  induction n with
  | zero =>
    intro i3 i4 i5 M H locs ls hf hM hl
    rw [fX2_likeliest_14] at hf
    cases hf
  | succ n ih =>
    intro i3 i4 i5 M H locs ls hf hM hl
    rw [fX2_likeliest_14] at hf
    refine lv_iload hx hb dX2_likeliest_14 (lv_at hl 4 rfl) ?_
    refine lv_aload_n hx hb dX2_likeliest_16 rfl (lv_at hl 1 rfl) ?_
    refine gX2_61 C hT hM (xt_9 hT) (f := (0, 0)) rfl (v := .int (M.1 9 0)) rfl dX2_likeliest_17 ?_
    refine lv_icmp_ge (tgt := 53) hx hb dX2_likeliest_20 (by decide) (fun hc20 => ?_) (fun hc20 => ?_)
    · replace hf := mx_ift hc20 hf
      refine lv_iload_n hx hb dX2_likeliest_53 rfl (lv_at hl 2 rfl) ?_
      exact mx_iret C hM hf dX2_likeliest_54
    · replace hf := mx_iff hc20 hf
      refine lv_aload_n hx hb dX2_likeliest_23 rfl (lv_at hl 0 rfl) ?_
      refine gX2_22 C hM (xt_149 hT) (f := (2, 151)) rfl (v := .ref (E.2.1.2.1 151)) rfl dX2_likeliest_24 ?_
      refine lv_iload hx hb dX2_likeliest_27 (lv_at hl 4 rfl) ?_
      obtain ⟨hg29, hf⟩ := mx_gd hf
      refine mx_iald C hM (xt_151 hT) (mx_in_vp hg29) dX2_likeliest_29 ?_
      refine lv_iload hx hb dX2_likeliest_30 (lv_at hl 3 rfl) ?_
      refine lv_icmp_le (tgt := 47) hx hb dX2_likeliest_32 (by decide) (fun hc32 => ?_) (fun hc32 => ?_)
      · replace hf := mx_ift hc32 hf
        refine lv_iinc (v := (i5 + (1 : Int32))) (lv' := [(5, .int (i5 + (1 : Int32))), (0, .ref (E.2.1.2.1 149)), (1, .ref (E.2.1.2.1 9)), (3, .int i3), (4, .int i4)]) hx hb dX2_likeliest_47 hl (k := 4) rfl rfl (by decide) rfl (fun ls hl => ?_)
        refine lv_goto (tgt := 14) hx hb dX2_likeliest_50 (by decide) ?_
        exact ih i3 i4 (i5 + (1 : Int32)) M _ _ _ hf hM (lv_sub hl [1, 2, 3, 4, 0] rfl)
      · replace hf := mx_iff hc32 hf
        refine lv_aload_n hx hb dX2_likeliest_35 rfl (lv_at hl 0 rfl) ?_
        refine gX2_22 C hM (xt_149 hT) (f := (2, 151)) rfl (v := .ref (E.2.1.2.1 151)) rfl dX2_likeliest_36 ?_
        refine lv_iload hx hb dX2_likeliest_39 (lv_at hl 4 rfl) ?_
        obtain ⟨hg41, hf⟩ := mx_gd hf
        refine mx_iald C hM (xt_151 hT) (mx_in_vp hg41) dX2_likeliest_41 ?_
        refine lv_istore (lv' := [(4, .int (M.1 151 i5.toNatClampNeg)), (0, .ref (E.2.1.2.1 149)), (1, .ref (E.2.1.2.1 9)), (3, .int i3), (5, .int i5)]) hx hb dX2_likeliest_42 hl (by decide) rfl (fun ls hl => ?_)
        refine lv_iload hx hb dX2_likeliest_44 (lv_at hl 4 rfl) ?_
        refine lv_istore_n (lv' := [(3, .int i5), (4, .int (M.1 151 i5.toNatClampNeg)), (0, .ref (E.2.1.2.1 149)), (1, .ref (E.2.1.2.1 9)), (5, .int i5)]) hx hb dX2_likeliest_46 rfl hl (by decide) rfl (fun ls hl => ?_)
        refine lv_iinc (v := (i5 + (1 : Int32))) (lv' := [(5, .int (i5 + (1 : Int32))), (3, .int i5), (4, .int (M.1 151 i5.toNatClampNeg)), (0, .ref (E.2.1.2.1 149)), (1, .ref (E.2.1.2.1 9))]) hx hb dX2_likeliest_47 hl (k := 4) rfl rfl (by decide) rfl (fun ls hl => ?_)
        refine lv_goto (tgt := 14) hx hb dX2_likeliest_50 (by decide) ?_
        exact ih i5 (M.1 151 i5.toNatClampNeg) (i5 + (1 : Int32)) M _ _ _ hf hM (lv_sub hl [3, 4, 1, 2, 0] rfl)
set_option maxRecDepth 100000 in
set_option maxHeartbeats 4000000 in
theorem kX2_likeliest {E : KE} {l : Launch} (hE : mx_ok E) (i2 : Int32) (hT : xOK E) (M : MM) {q : (Int32 × MM)} (hf : fX2_likeliest i2 M = some q) : mx_Met E l yX2_likeliest cX2_likeliest 6 (some .int) 5 [.ref (E.2.1.2.1 149), .ref (E.2.1.2.1 9), .int i2] M (some (.int q.1)) q.2 := by
  refine mx_enter hE (by decide) (Nat.le_of_ble_eq_true rfl) ?_
  intro p e s m below meth c C hM hn ls hl
  have hx := C.1.1
  have hb := C.1.2.1
  have hown := C.1.2.2.2.1
  have hts := C.1.2.2.2.2
  have hl : lv_has ls 6 [(0, .ref (E.2.1.2.1 149)), (1, .ref (E.2.1.2.1 9)), (2, .int i2)] := hl
  rw [fX2_likeliest] at hf
  refine lv_aload_n hx hb dX2_likeliest_0 rfl (lv_at hl 0 rfl) ?_
  refine lv_aload_n hx hb dX2_likeliest_1 rfl (lv_at hl 1 rfl) ?_
  refine lv_iload_n hx hb dX2_likeliest_2 rfl (lv_at hl 2 rfl) ?_
  obtain ⟨q3, hq3, hf⟩ := mx_bd hf
  refine mx_callV C hM hl.1 yo_X2_countVotes (h' := 4) (by decide) qw_963 qw_965 qs_78 (ci := 2) (q := (RX2, TX2, 4)) rfl (xt_149 hT) (As := [.ref (E.2.1.2.1 9), .int i2]) (rest := []) (st1 := []) (kX2_countVotes C.2.2.2.1 i2 hT M hq3) rfl rfl rfl (Nat.le_of_ble_eq_true rfl) dX2_likeliest_3 (fun H locs hM => ?_)
  refine lv_iconst (v := (-1 : Int32)) hx hb dX2_likeliest_6 (by decide) ?_
  refine lv_istore_n (lv' := [(3, .int (-1 : Int32)), (0, .ref (E.2.1.2.1 149)), (1, .ref (E.2.1.2.1 9)), (2, .int i2)]) hx hb dX2_likeliest_7 rfl hl (by decide) rfl (fun ls hl => ?_)
  refine lv_iconst (v := (0 : Int32)) hx hb dX2_likeliest_8 (by decide) ?_
  refine lv_istore (lv' := [(4, .int (0 : Int32)), (3, .int (-1 : Int32)), (0, .ref (E.2.1.2.1 149)), (1, .ref (E.2.1.2.1 9)), (2, .int i2)]) hx hb dX2_likeliest_9 hl (by decide) rfl (fun ls hl => ?_)
  refine lv_iconst (v := (0 : Int32)) hx hb dX2_likeliest_11 (by decide) ?_
  refine lv_istore (lv' := [(5, .int (0 : Int32)), (4, .int (0 : Int32)), (3, .int (-1 : Int32)), (0, .ref (E.2.1.2.1 149)), (1, .ref (E.2.1.2.1 9)), (2, .int i2)]) hx hb dX2_likeliest_12 hl (by decide) rfl (fun ls hl => ?_)
  exact wfX2_likeliest_14 C i2 hT mx_fu (-1 : Int32) (0 : Int32) (0 : Int32) q3 _ _ _ hf hM (lv_sub hl [3, 4, 2, 1, 0] rfl)
theorem dX3_isRing_0 : decode cX3_isRing 0 = .ok (.iload_n 1, 1) := by decide +kernel
theorem dX3_isRing_1 : decode cX3_isRing 1 = .ok (.ifCond .lt 15, 3) := by decide +kernel
theorem dX3_isRing_4 : decode cX3_isRing 4 = .ok (.iload_n 1, 1) := by decide +kernel
theorem dX3_isRing_5 : decode cX3_isRing 5 = .ok (.aload_n 0, 1) := by decide +kernel
theorem dX3_isRing_6 : decode cX3_isRing 6 = .ok (.getfield 53, 3) := by decide +kernel
theorem dX3_isRing_9 : decode cX3_isRing 9 = .ok (.if_icmp .ge 7, 3) := by decide +kernel
theorem dX3_isRing_12 : decode cX3_isRing 12 = .ok (.iconst 1, 1) := by decide +kernel
theorem dX3_isRing_13 : decode cX3_isRing 13 = .ok (.goto 4, 3) := by decide +kernel
theorem dX3_isRing_16 : decode cX3_isRing 16 = .ok (.iconst 0, 1) := by decide +kernel
theorem dX3_isRing_17 : decode cX3_isRing 17 = .ok (.ireturn, 1) := by decide +kernel
set_option maxRecDepth 100000 in
set_option maxHeartbeats 4000000 in
theorem kX3_isRing {E : KE} {l : Launch} (hE : mx_ok E) (i1 : Int32) (hT : xOK E) (M : MM) {q : Bool} (hf : fX3_isRing i1 M = some q) : mx_Met E l yX3_isRing cX3_isRing 2 (some .boolean) 0 [.ref (E.2.1.2.1 9), .int i1] M (some (.int (mx_b q))) M := by
  refine mx_enter hE (by decide) (Nat.le_of_ble_eq_true rfl) ?_
  intro p e s m below meth c C hM hn ls hl
  have hx := C.1.1
  have hb := C.1.2.1
  have hown := C.1.2.2.2.1
  have hts := C.1.2.2.2.2
  have hl : lv_has ls 2 [(0, .ref (E.2.1.2.1 9)), (1, .int i1)] := hl
  rw [fX3_isRing] at hf
  refine lv_iload_n hx hb dX3_isRing_0 rfl (lv_at hl 1 rfl) ?_
  refine lv_if_lt (tgt := 16) hx hb dX3_isRing_1 (by decide) (fun hc1 => ?_) (fun hc1 => ?_)
  · replace hf := mx_ift hc1 hf
    refine lv_iconst (v := (0 : Int32)) hx hb dX3_isRing_16 (by decide) ?_
    exact mx_zretR C hM (b := false) rfl hf dX3_isRing_17
  · replace hf := mx_iff hc1 hf
    refine lv_iload_n hx hb dX3_isRing_4 rfl (lv_at hl 1 rfl) ?_
    refine lv_aload_n hx hb dX3_isRing_5 rfl (lv_at hl 0 rfl) ?_
    refine gX3_53 C hM (xt_9 hT) (f := (0, 0)) rfl (v := .int (M.1 9 1)) rfl dX3_isRing_6 ?_
    refine lv_icmp_ge (tgt := 16) hx hb dX3_isRing_9 (by decide) (fun hc9 => ?_) (fun hc9 => ?_)
    · replace hf := mx_ift hc9 hf
      refine lv_iconst (v := (0 : Int32)) hx hb dX3_isRing_16 (by decide) ?_
      exact mx_zretR C hM (b := false) rfl hf dX3_isRing_17
    · replace hf := mx_iff hc9 hf
      refine lv_iconst (v := (1 : Int32)) hx hb dX3_isRing_12 (by decide) ?_
      refine lv_goto (tgt := 17) hx hb dX3_isRing_13 (by decide) ?_
      exact mx_zretR C hM (b := true) rfl hf dX3_isRing_17
theorem dX3_ownedBy_0 : decode cX3_ownedBy 0 = .ok (.iconst 0, 1) := by decide +kernel
theorem dX3_ownedBy_1 : decode cX3_ownedBy 1 = .ok (.istore_n 2, 1) := by decide +kernel
theorem dX3_ownedBy_2 : decode cX3_ownedBy 2 = .ok (.iconst 0, 1) := by decide +kernel
theorem dX3_ownedBy_3 : decode cX3_ownedBy 3 = .ok (.istore_n 3, 1) := by decide +kernel
theorem dX3_ownedBy_4 : decode cX3_ownedBy 4 = .ok (.iload_n 3, 1) := by decide +kernel
theorem dX3_ownedBy_5 : decode cX3_ownedBy 5 = .ok (.aload_n 0, 1) := by decide +kernel
theorem dX3_ownedBy_6 : decode cX3_ownedBy 6 = .ok (.getfield 53, 3) := by decide +kernel
theorem dX3_ownedBy_9 : decode cX3_ownedBy 9 = .ok (.if_icmp .ge 25, 3) := by decide +kernel
theorem dX3_ownedBy_12 : decode cX3_ownedBy 12 = .ok (.aload_n 0, 1) := by decide +kernel
theorem dX3_ownedBy_13 : decode cX3_ownedBy 13 = .ok (.getfield 31, 3) := by decide +kernel
theorem dX3_ownedBy_16 : decode cX3_ownedBy 16 = .ok (.iload_n 3, 1) := by decide +kernel
theorem dX3_ownedBy_17 : decode cX3_ownedBy 17 = .ok (.iaload, 1) := by decide +kernel
theorem dX3_ownedBy_18 : decode cX3_ownedBy 18 = .ok (.iload_n 1, 1) := by decide +kernel
theorem dX3_ownedBy_19 : decode cX3_ownedBy 19 = .ok (.if_icmp .ne 9, 3) := by decide +kernel
theorem dX3_ownedBy_22 : decode cX3_ownedBy 22 = .ok (.iload_n 2, 1) := by decide +kernel
theorem dX3_ownedBy_23 : decode cX3_ownedBy 23 = .ok (.iconst 1, 1) := by decide +kernel
theorem dX3_ownedBy_24 : decode cX3_ownedBy 24 = .ok (.iload_n 3, 1) := by decide +kernel
theorem dX3_ownedBy_25 : decode cX3_ownedBy 25 = .ok (.ishl, 1) := by decide +kernel
theorem dX3_ownedBy_26 : decode cX3_ownedBy 26 = .ok (.ior, 1) := by decide +kernel
theorem dX3_ownedBy_27 : decode cX3_ownedBy 27 = .ok (.istore_n 2, 1) := by decide +kernel
theorem dX3_ownedBy_28 : decode cX3_ownedBy 28 = .ok (.iinc 3 1, 3) := by decide +kernel
theorem dX3_ownedBy_31 : decode cX3_ownedBy 31 = .ok (.goto (-27), 3) := by decide +kernel
theorem dX3_ownedBy_34 : decode cX3_ownedBy 34 = .ok (.iload_n 2, 1) := by decide +kernel
theorem dX3_ownedBy_35 : decode cX3_ownedBy 35 = .ok (.ireturn, 1) := by decide +kernel
set_option maxRecDepth 100000 in
set_option maxHeartbeats 4000000 in
theorem wfX3_ownedBy_4 {E : KE} {p : Program} {l : Launch} {e : Env} {s : State} {m : MethodId} {args : Array Value} {below : List Frame} {meth : Method} {c : Code} {q : Int32} (C : mx_C E p m c cX3_ownedBy 4 s args RX3 meth (some .int)) (i1 : Int32) (M : MM) (hT : xOK E)   : ∀ (n : Nat) (i2 : Int32) (i3 : Int32) (H : Heap) (locs : List Loc) (ls : Array Slot), fX3_ownedBy_4 i1 M n i2 i3 = some q → mx_H E s M H locs → lv_has ls 4 [(0, .ref (E.2.1.2.1 9)), (1, .int i1), (2, .int i2), (3, .int i3)] → W p l e (mx_rm 0) s m args below meth c H locs 0 0 (mx_Z E below args s (some (.int q)) M) (F0 m 4 ls []) := by
  have hx := C.1.1
  have hb := C.1.2.1
  have hown := C.1.2.2.2.1
  have hts := C.1.2.2.2.2
  intro n
  induction n with
  | zero =>
    intro i2 i3 H locs ls hf hM hl
    rw [fX3_ownedBy_4] at hf
    cases hf
  | succ n ih =>
    intro i2 i3 H locs ls hf hM hl
    rw [fX3_ownedBy_4] at hf
    refine lv_iload_n hx hb dX3_ownedBy_4 rfl (lv_at hl 3 rfl) ?_
    refine lv_aload_n hx hb dX3_ownedBy_5 rfl (lv_at hl 0 rfl) ?_
    refine gX3_53 C hM (xt_9 hT) (f := (0, 0)) rfl (v := .int (M.1 9 1)) rfl dX3_ownedBy_6 ?_
    refine lv_icmp_ge (tgt := 34) hx hb dX3_ownedBy_9 (by decide) (fun hc9 => ?_) (fun hc9 => ?_)
    · replace hf := mx_ift hc9 hf
      refine lv_iload_n hx hb dX3_ownedBy_34 rfl (lv_at hl 2 rfl) ?_
      exact mx_iretR C hM hf dX3_ownedBy_35
    · replace hf := mx_iff hc9 hf
      refine lv_aload_n hx hb dX3_ownedBy_12 rfl (lv_at hl 0 rfl) ?_
      refine gX3_31 C hM (xt_9 hT) (f := (2, 16)) rfl (v := .ref (E.2.1.2.1 16)) rfl dX3_ownedBy_13 ?_
      refine lv_iload_n hx hb dX3_ownedBy_16 rfl (lv_at hl 3 rfl) ?_
      obtain ⟨hg17, hf⟩ := mx_gd hf
      refine mx_iald C hM (xt_16 hT) (mx_in_vp hg17) dX3_ownedBy_17 ?_
      refine lv_iload_n hx hb dX3_ownedBy_18 rfl (lv_at hl 1 rfl) ?_
      refine lv_icmp_ne (tgt := 28) hx hb dX3_ownedBy_19 (by decide) (fun hc19 => ?_) (fun hc19 => ?_)
      · replace hf := mx_iff hc19 hf
        refine lv_iinc (v := (i3 + (1 : Int32))) (lv' := [(3, .int (i3 + (1 : Int32))), (0, .ref (E.2.1.2.1 9)), (1, .int i1), (2, .int i2)]) hx hb dX3_ownedBy_28 hl (k := 3) rfl rfl (by decide) rfl (fun ls hl => ?_)
        refine lv_goto (tgt := 4) hx hb dX3_ownedBy_31 (by decide) ?_
        exact ih i2 (i3 + (1 : Int32)) _ _ _ hf hM (lv_sub hl [1, 2, 3, 0] rfl)
      · replace hf := mx_ift hc19 hf
        refine lv_iload_n hx hb dX3_ownedBy_22 rfl (lv_at hl 2 rfl) ?_
        refine lv_iconst (v := (1 : Int32)) hx hb dX3_ownedBy_23 (by decide) ?_
        refine lv_iload_n hx hb dX3_ownedBy_24 rfl (lv_at hl 3 rfl) ?_
        refine lv_ishl hx hb dX3_ownedBy_25 ?_
        refine lv_ior hx hb dX3_ownedBy_26 ?_
        refine lv_istore_n (lv' := [(2, .int (i2 ||| ((1 : Int32) <<< (i3 &&& 31)))), (0, .ref (E.2.1.2.1 9)), (1, .int i1), (3, .int i3)]) hx hb dX3_ownedBy_27 rfl hl (by decide) rfl (fun ls hl => ?_)
        refine lv_iinc (v := (i3 + (1 : Int32))) (lv' := [(3, .int (i3 + (1 : Int32))), (2, .int (i2 ||| ((1 : Int32) <<< (i3 &&& 31)))), (0, .ref (E.2.1.2.1 9)), (1, .int i1)]) hx hb dX3_ownedBy_28 hl (k := 3) rfl rfl (by decide) rfl (fun ls hl => ?_)
        refine lv_goto (tgt := 4) hx hb dX3_ownedBy_31 (by decide) ?_
        exact ih (i2 ||| ((1 : Int32) <<< (i3 &&& 31))) (i3 + (1 : Int32)) _ _ _ hf hM (lv_sub hl [2, 3, 1, 0] rfl)
set_option maxRecDepth 100000 in
set_option maxHeartbeats 4000000 in
theorem kX3_ownedBy {E : KE} {l : Launch} (hE : mx_ok E) (i1 : Int32) (hT : xOK E) (M : MM) {q : Int32} (hf : fX3_ownedBy i1 M = some q) : mx_Met E l yX3_ownedBy cX3_ownedBy 4 (some .int) 0 [.ref (E.2.1.2.1 9), .int i1] M (some (.int q)) M := by
  refine mx_enter hE (by decide) (Nat.le_of_ble_eq_true rfl) ?_
  intro p e s m below meth c C hM hn ls hl
  have hx := C.1.1
  have hb := C.1.2.1
  have hown := C.1.2.2.2.1
  have hts := C.1.2.2.2.2
  have hl : lv_has ls 4 [(0, .ref (E.2.1.2.1 9)), (1, .int i1)] := hl
  rw [fX3_ownedBy] at hf
  refine lv_iconst (v := (0 : Int32)) hx hb dX3_ownedBy_0 (by decide) ?_
  refine lv_istore_n (lv' := [(2, .int (0 : Int32)), (0, .ref (E.2.1.2.1 9)), (1, .int i1)]) hx hb dX3_ownedBy_1 rfl hl (by decide) rfl (fun ls hl => ?_)
  refine lv_iconst (v := (0 : Int32)) hx hb dX3_ownedBy_2 (by decide) ?_
  refine lv_istore_n (lv' := [(3, .int (0 : Int32)), (2, .int (0 : Int32)), (0, .ref (E.2.1.2.1 9)), (1, .int i1)]) hx hb dX3_ownedBy_3 rfl hl (by decide) rfl (fun ls hl => ?_)
  exact wfX3_ownedBy_4 C i1 M hT mx_fu (0 : Int32) (0 : Int32) _ _ _ hf hM (lv_sub hl [2, 3, 1, 0] rfl)
theorem dX3_copyFrom_0 : decode cX3_copyFrom 0 = .ok (.aload_n 0, 1) := by decide +kernel
theorem dX3_copyFrom_1 : decode cX3_copyFrom 1 = .ok (.aload_n 1, 1) := by decide +kernel
theorem dX3_copyFrom_2 : decode cX3_copyFrom 2 = .ok (.getfield 50, 3) := by decide +kernel
theorem dX3_copyFrom_5 : decode cX3_copyFrom 5 = .ok (.putfield 50, 3) := by decide +kernel
theorem dX3_copyFrom_8 : decode cX3_copyFrom 8 = .ok (.aload_n 0, 1) := by decide +kernel
theorem dX3_copyFrom_9 : decode cX3_copyFrom 9 = .ok (.aload_n 1, 1) := by decide +kernel
theorem dX3_copyFrom_10 : decode cX3_copyFrom 10 = .ok (.getfield 53, 3) := by decide +kernel
theorem dX3_copyFrom_13 : decode cX3_copyFrom 13 = .ok (.putfield 53, 3) := by decide +kernel
theorem dX3_copyFrom_16 : decode cX3_copyFrom 16 = .ok (.aload_n 0, 1) := by decide +kernel
theorem dX3_copyFrom_17 : decode cX3_copyFrom 17 = .ok (.aload_n 1, 1) := by decide +kernel
theorem dX3_copyFrom_18 : decode cX3_copyFrom 18 = .ok (.getfield 40, 3) := by decide +kernel
theorem dX3_copyFrom_21 : decode cX3_copyFrom 21 = .ok (.putfield 40, 3) := by decide +kernel
theorem dX3_copyFrom_24 : decode cX3_copyFrom 24 = .ok (.aload_n 0, 1) := by decide +kernel
theorem dX3_copyFrom_25 : decode cX3_copyFrom 25 = .ok (.aload_n 1, 1) := by decide +kernel
theorem dX3_copyFrom_26 : decode cX3_copyFrom 26 = .ok (.getfield 44, 3) := by decide +kernel
theorem dX3_copyFrom_29 : decode cX3_copyFrom 29 = .ok (.putfield 44, 3) := by decide +kernel
theorem dX3_copyFrom_32 : decode cX3_copyFrom 32 = .ok (.aload_n 0, 1) := by decide +kernel
theorem dX3_copyFrom_33 : decode cX3_copyFrom 33 = .ok (.aload_n 1, 1) := by decide +kernel
theorem dX3_copyFrom_34 : decode cX3_copyFrom 34 = .ok (.getfield 47, 3) := by decide +kernel
theorem dX3_copyFrom_37 : decode cX3_copyFrom 37 = .ok (.putfield 47, 3) := by decide +kernel
theorem dX3_copyFrom_40 : decode cX3_copyFrom 40 = .ok (.aload_n 0, 1) := by decide +kernel
theorem dX3_copyFrom_41 : decode cX3_copyFrom 41 = .ok (.aload_n 1, 1) := by decide +kernel
theorem dX3_copyFrom_42 : decode cX3_copyFrom 42 = .ok (.getfield 56, 3) := by decide +kernel
theorem dX3_copyFrom_45 : decode cX3_copyFrom 45 = .ok (.putfield 56, 3) := by decide +kernel
theorem dX3_copyFrom_48 : decode cX3_copyFrom 48 = .ok (.aload_n 1, 1) := by decide +kernel
theorem dX3_copyFrom_49 : decode cX3_copyFrom 49 = .ok (.getfield 9, 3) := by decide +kernel
theorem dX3_copyFrom_52 : decode cX3_copyFrom 52 = .ok (.iconst 0, 1) := by decide +kernel
theorem dX3_copyFrom_53 : decode cX3_copyFrom 53 = .ok (.aload_n 0, 1) := by decide +kernel
theorem dX3_copyFrom_54 : decode cX3_copyFrom 54 = .ok (.getfield 9, 3) := by decide +kernel
theorem dX3_copyFrom_57 : decode cX3_copyFrom 57 = .ok (.iconst 0, 1) := by decide +kernel
theorem dX3_copyFrom_58 : decode cX3_copyFrom 58 = .ok (.bipush 7, 2) := by decide +kernel
theorem dX3_copyFrom_60 : decode cX3_copyFrom 60 = .ok (.invokestatic 59, 3) := by decide +kernel
theorem dX3_copyFrom_63 : decode cX3_copyFrom 63 = .ok (.aload_n 1, 1) := by decide +kernel
theorem dX3_copyFrom_64 : decode cX3_copyFrom 64 = .ok (.getfield 15, 3) := by decide +kernel
theorem dX3_copyFrom_67 : decode cX3_copyFrom 67 = .ok (.iconst 0, 1) := by decide +kernel
theorem dX3_copyFrom_68 : decode cX3_copyFrom 68 = .ok (.aload_n 0, 1) := by decide +kernel
theorem dX3_copyFrom_69 : decode cX3_copyFrom 69 = .ok (.getfield 15, 3) := by decide +kernel
theorem dX3_copyFrom_72 : decode cX3_copyFrom 72 = .ok (.iconst 0, 1) := by decide +kernel
theorem dX3_copyFrom_73 : decode cX3_copyFrom 73 = .ok (.bipush 7, 2) := by decide +kernel
theorem dX3_copyFrom_75 : decode cX3_copyFrom 75 = .ok (.invokestatic 59, 3) := by decide +kernel
theorem dX3_copyFrom_78 : decode cX3_copyFrom 78 = .ok (.aload_n 1, 1) := by decide +kernel
theorem dX3_copyFrom_79 : decode cX3_copyFrom 79 = .ok (.getfield 19, 3) := by decide +kernel
theorem dX3_copyFrom_82 : decode cX3_copyFrom 82 = .ok (.iconst 0, 1) := by decide +kernel
theorem dX3_copyFrom_83 : decode cX3_copyFrom 83 = .ok (.aload_n 0, 1) := by decide +kernel
theorem dX3_copyFrom_84 : decode cX3_copyFrom 84 = .ok (.getfield 19, 3) := by decide +kernel
theorem dX3_copyFrom_87 : decode cX3_copyFrom 87 = .ok (.iconst 0, 1) := by decide +kernel
theorem dX3_copyFrom_88 : decode cX3_copyFrom 88 = .ok (.bipush 7, 2) := by decide +kernel
theorem dX3_copyFrom_90 : decode cX3_copyFrom 90 = .ok (.invokestatic 59, 3) := by decide +kernel
theorem dX3_copyFrom_93 : decode cX3_copyFrom 93 = .ok (.aload_n 1, 1) := by decide +kernel
theorem dX3_copyFrom_94 : decode cX3_copyFrom 94 = .ok (.getfield 22, 3) := by decide +kernel
theorem dX3_copyFrom_97 : decode cX3_copyFrom 97 = .ok (.iconst 0, 1) := by decide +kernel
theorem dX3_copyFrom_98 : decode cX3_copyFrom 98 = .ok (.aload_n 0, 1) := by decide +kernel
theorem dX3_copyFrom_99 : decode cX3_copyFrom 99 = .ok (.getfield 22, 3) := by decide +kernel
theorem dX3_copyFrom_102 : decode cX3_copyFrom 102 = .ok (.iconst 0, 1) := by decide +kernel
theorem dX3_copyFrom_103 : decode cX3_copyFrom 103 = .ok (.bipush 7, 2) := by decide +kernel
theorem dX3_copyFrom_105 : decode cX3_copyFrom 105 = .ok (.invokestatic 59, 3) := by decide +kernel
theorem dX3_copyFrom_108 : decode cX3_copyFrom 108 = .ok (.aload_n 1, 1) := by decide +kernel
theorem dX3_copyFrom_109 : decode cX3_copyFrom 109 = .ok (.getfield 25, 3) := by decide +kernel
theorem dX3_copyFrom_112 : decode cX3_copyFrom 112 = .ok (.iconst 0, 1) := by decide +kernel
theorem dX3_copyFrom_113 : decode cX3_copyFrom 113 = .ok (.aload_n 0, 1) := by decide +kernel
theorem dX3_copyFrom_114 : decode cX3_copyFrom 114 = .ok (.getfield 25, 3) := by decide +kernel
theorem dX3_copyFrom_117 : decode cX3_copyFrom 117 = .ok (.iconst 0, 1) := by decide +kernel
theorem dX3_copyFrom_118 : decode cX3_copyFrom 118 = .ok (.bipush 7, 2) := by decide +kernel
theorem dX3_copyFrom_120 : decode cX3_copyFrom 120 = .ok (.invokestatic 59, 3) := by decide +kernel
theorem dX3_copyFrom_123 : decode cX3_copyFrom 123 = .ok (.aload_n 1, 1) := by decide +kernel
theorem dX3_copyFrom_124 : decode cX3_copyFrom 124 = .ok (.getfield 28, 3) := by decide +kernel
theorem dX3_copyFrom_127 : decode cX3_copyFrom 127 = .ok (.iconst 0, 1) := by decide +kernel
theorem dX3_copyFrom_128 : decode cX3_copyFrom 128 = .ok (.aload_n 0, 1) := by decide +kernel
theorem dX3_copyFrom_129 : decode cX3_copyFrom 129 = .ok (.getfield 28, 3) := by decide +kernel
theorem dX3_copyFrom_132 : decode cX3_copyFrom 132 = .ok (.iconst 0, 1) := by decide +kernel
theorem dX3_copyFrom_133 : decode cX3_copyFrom 133 = .ok (.bipush 7, 2) := by decide +kernel
theorem dX3_copyFrom_135 : decode cX3_copyFrom 135 = .ok (.invokestatic 59, 3) := by decide +kernel
theorem dX3_copyFrom_138 : decode cX3_copyFrom 138 = .ok (.aload_n 1, 1) := by decide +kernel
theorem dX3_copyFrom_139 : decode cX3_copyFrom 139 = .ok (.getfield 31, 3) := by decide +kernel
theorem dX3_copyFrom_142 : decode cX3_copyFrom 142 = .ok (.iconst 0, 1) := by decide +kernel
theorem dX3_copyFrom_143 : decode cX3_copyFrom 143 = .ok (.aload_n 0, 1) := by decide +kernel
theorem dX3_copyFrom_144 : decode cX3_copyFrom 144 = .ok (.getfield 31, 3) := by decide +kernel
theorem dX3_copyFrom_147 : decode cX3_copyFrom 147 = .ok (.iconst 0, 1) := by decide +kernel
theorem dX3_copyFrom_148 : decode cX3_copyFrom 148 = .ok (.bipush 7, 2) := by decide +kernel
theorem dX3_copyFrom_150 : decode cX3_copyFrom 150 = .ok (.invokestatic 59, 3) := by decide +kernel
theorem dX3_copyFrom_153 : decode cX3_copyFrom 153 = .ok (.aload_n 1, 1) := by decide +kernel
theorem dX3_copyFrom_154 : decode cX3_copyFrom 154 = .ok (.getfield 34, 3) := by decide +kernel
theorem dX3_copyFrom_157 : decode cX3_copyFrom 157 = .ok (.iconst 0, 1) := by decide +kernel
theorem dX3_copyFrom_158 : decode cX3_copyFrom 158 = .ok (.aload_n 0, 1) := by decide +kernel
theorem dX3_copyFrom_159 : decode cX3_copyFrom 159 = .ok (.getfield 34, 3) := by decide +kernel
theorem dX3_copyFrom_162 : decode cX3_copyFrom 162 = .ok (.iconst 0, 1) := by decide +kernel
theorem dX3_copyFrom_163 : decode cX3_copyFrom 163 = .ok (.bipush 7, 2) := by decide +kernel
theorem dX3_copyFrom_165 : decode cX3_copyFrom 165 = .ok (.invokestatic 59, 3) := by decide +kernel
theorem dX3_copyFrom_168 : decode cX3_copyFrom 168 = .ok (.aload_n 1, 1) := by decide +kernel
theorem dX3_copyFrom_169 : decode cX3_copyFrom 169 = .ok (.getfield 37, 3) := by decide +kernel
theorem dX3_copyFrom_172 : decode cX3_copyFrom 172 = .ok (.iconst 0, 1) := by decide +kernel
theorem dX3_copyFrom_173 : decode cX3_copyFrom 173 = .ok (.aload_n 0, 1) := by decide +kernel
theorem dX3_copyFrom_174 : decode cX3_copyFrom 174 = .ok (.getfield 37, 3) := by decide +kernel
theorem dX3_copyFrom_177 : decode cX3_copyFrom 177 = .ok (.iconst 0, 1) := by decide +kernel
theorem dX3_copyFrom_178 : decode cX3_copyFrom 178 = .ok (.bipush 7, 2) := by decide +kernel
theorem dX3_copyFrom_180 : decode cX3_copyFrom 180 = .ok (.invokestatic 59, 3) := by decide +kernel
theorem dX3_copyFrom_183 : decode cX3_copyFrom 183 = .ok (.return_, 1) := by decide +kernel
set_option maxRecDepth 100000 in
set_option maxHeartbeats 4000000 in
theorem kX3_copyFrom {E : KE} {l : Launch} (hE : mx_ok E) (o : Nat) (o1 : Nat) (hT : xOK E) (ho : xt_isI o = true) (ho1 : xt_isI o1 = true) (M : MM) {q : MM} (hf : fX3_copyFrom o o1 M = some q) : mx_Met E l yX3_copyFrom cX3_copyFrom 2 none 1 [.ref (E.2.1.2.1 o), .ref (E.2.1.2.1 o1)] M none q := by
  refine mx_enter hE (by decide) (Nat.le_of_ble_eq_true rfl) ?_
  intro p e s m below meth c C hM hn ls hl
  have hx := C.1.1
  have hb := C.1.2.1
  have hown := C.1.2.2.2.1
  have hts := C.1.2.2.2.2
  have hl : lv_has ls 2 [(0, .ref (E.2.1.2.1 o)), (1, .ref (E.2.1.2.1 o1))] := hl
  rw [fX3_copyFrom] at hf
  refine lv_aload_n hx hb dX3_copyFrom_0 rfl (lv_at hl 0 rfl) ?_
  refine lv_aload_n hx hb dX3_copyFrom_1 rfl (lv_at hl 1 rfl) ?_
  refine gX3_50 C hM (xoI hT ho1) (f := (0, 0)) rfl (v := .int (M.1 o1 0)) rfl dX3_copyFrom_2 ?_
  refine pX3_50 C hM (xoI hT ho) rfl rfl rfl dX3_copyFrom_5 (fun H locs hM => ?_)
  refine lv_aload_n hx hb dX3_copyFrom_8 rfl (lv_at hl 0 rfl) ?_
  refine lv_aload_n hx hb dX3_copyFrom_9 rfl (lv_at hl 1 rfl) ?_
  refine gX3_53 C hM (xoI hT ho1) (f := (0, 0)) rfl (v := .int ((mx_si M o 0 (M.1 o1 0)).1 o1 1)) rfl dX3_copyFrom_10 ?_
  refine pX3_53 C hM (xoI hT ho) rfl rfl rfl dX3_copyFrom_13 (fun H locs hM => ?_)
  refine lv_aload_n hx hb dX3_copyFrom_16 rfl (lv_at hl 0 rfl) ?_
  refine lv_aload_n hx hb dX3_copyFrom_17 rfl (lv_at hl 1 rfl) ?_
  refine gX3_40 C hM (xoI hT ho1) (f := (0, 0)) rfl (v := .int ((mx_si (mx_si M o 0 (M.1 o1 0)) o 1 ((mx_si M o 0 (M.1 o1 0)).1 o1 1)).1 o1 11)) rfl dX3_copyFrom_18 ?_
  refine pX3_40 C hM (xoI hT ho) rfl rfl rfl dX3_copyFrom_21 (fun H locs hM => ?_)
  refine lv_aload_n hx hb dX3_copyFrom_24 rfl (lv_at hl 0 rfl) ?_
  refine lv_aload_n hx hb dX3_copyFrom_25 rfl (lv_at hl 1 rfl) ?_
  refine gX3_44 C hM (xoI hT ho1) (f := (0, 0)) rfl (v := .int ((mx_si (mx_si (mx_si M o 0 (M.1 o1 0)) o 1 ((mx_si M o 0 (M.1 o1 0)).1 o1 1)) o 11 ((mx_si (mx_si M o 0 (M.1 o1 0)) o 1 ((mx_si M o 0 (M.1 o1 0)).1 o1 1)).1 o1 11)).1 o1 12)) rfl dX3_copyFrom_26 ?_
  refine pX3_44 C hM (xoI hT ho) rfl rfl rfl dX3_copyFrom_29 (fun H locs hM => ?_)
  refine lv_aload_n hx hb dX3_copyFrom_32 rfl (lv_at hl 0 rfl) ?_
  refine lv_aload_n hx hb dX3_copyFrom_33 rfl (lv_at hl 1 rfl) ?_
  refine gX3_47 C hM (xoI hT ho1) (f := (0, 0)) rfl (v := .int ((mx_si (mx_si (mx_si (mx_si M o 0 (M.1 o1 0)) o 1 ((mx_si M o 0 (M.1 o1 0)).1 o1 1)) o 11 ((mx_si (mx_si M o 0 (M.1 o1 0)) o 1 ((mx_si M o 0 (M.1 o1 0)).1 o1 1)).1 o1 11)) o 12 ((mx_si (mx_si (mx_si M o 0 (M.1 o1 0)) o 1 ((mx_si M o 0 (M.1 o1 0)).1 o1 1)) o 11 ((mx_si (mx_si M o 0 (M.1 o1 0)) o 1 ((mx_si M o 0 (M.1 o1 0)).1 o1 1)).1 o1 11)).1 o1 12)).1 o1 13)) rfl dX3_copyFrom_34 ?_
  refine pX3_47 C hM (xoI hT ho) rfl rfl rfl dX3_copyFrom_37 (fun H locs hM => ?_)
  refine lv_aload_n hx hb dX3_copyFrom_40 rfl (lv_at hl 0 rfl) ?_
  refine lv_aload_n hx hb dX3_copyFrom_41 rfl (lv_at hl 1 rfl) ?_
  refine gX3_56 C hM (xoI hT ho1) (f := (0, 0)) rfl (v := .int ((mx_si (mx_si (mx_si (mx_si (mx_si M o 0 (M.1 o1 0)) o 1 ((mx_si M o 0 (M.1 o1 0)).1 o1 1)) o 11 ((mx_si (mx_si M o 0 (M.1 o1 0)) o 1 ((mx_si M o 0 (M.1 o1 0)).1 o1 1)).1 o1 11)) o 12 ((mx_si (mx_si (mx_si M o 0 (M.1 o1 0)) o 1 ((mx_si M o 0 (M.1 o1 0)).1 o1 1)) o 11 ((mx_si (mx_si M o 0 (M.1 o1 0)) o 1 ((mx_si M o 0 (M.1 o1 0)).1 o1 1)).1 o1 11)).1 o1 12)) o 13 ((mx_si (mx_si (mx_si (mx_si M o 0 (M.1 o1 0)) o 1 ((mx_si M o 0 (M.1 o1 0)).1 o1 1)) o 11 ((mx_si (mx_si M o 0 (M.1 o1 0)) o 1 ((mx_si M o 0 (M.1 o1 0)).1 o1 1)).1 o1 11)) o 12 ((mx_si (mx_si (mx_si M o 0 (M.1 o1 0)) o 1 ((mx_si M o 0 (M.1 o1 0)).1 o1 1)) o 11 ((mx_si (mx_si M o 0 (M.1 o1 0)) o 1 ((mx_si M o 0 (M.1 o1 0)).1 o1 1)).1 o1 11)).1 o1 12)).1 o1 13)).1 o1 14)) rfl dX3_copyFrom_42 ?_
  refine pX3_56 C hM (xoI hT ho) rfl rfl rfl dX3_copyFrom_45 (fun H locs hM => ?_)
  refine lv_aload_n hx hb dX3_copyFrom_48 rfl (lv_at hl 1 rfl) ?_
  refine gX3_9 C hM (xoI hT ho1) (f := (2, o1 + 1)) rfl (v := .ref (E.2.1.2.1 (o1 + 1))) rfl dX3_copyFrom_49 ?_
  refine lv_iconst (v := (0 : Int32)) hx hb dX3_copyFrom_52 (by decide) ?_
  refine lv_aload_n hx hb dX3_copyFrom_53 rfl (lv_at hl 0 rfl) ?_
  refine gX3_9 C hM (xoI hT ho) (f := (2, o + 1)) rfl (v := .ref (E.2.1.2.1 (o + 1))) rfl dX3_copyFrom_54 ?_
  refine lv_iconst (v := (0 : Int32)) hx hb dX3_copyFrom_57 (by decide) ?_
  refine lv_bipush (v := (7 : Int32)) hx hb dX3_copyFrom_58 (by decide) ?_
  refine mx_cplR C hM hl.1 qw_630 (xaI_1 hT ho1) (xaI_1 hT ho) (n := (7 : Int32)) (by decide) (by decide) (by decide) dX3_copyFrom_60 (fun H locs hM => ?_)
  refine lv_aload_n hx hb dX3_copyFrom_63 rfl (lv_at hl 1 rfl) ?_
  refine gX3_15 C hM (xoI hT ho1) (f := (2, o1 + 2)) rfl (v := .ref (E.2.1.2.1 (o1 + 2))) rfl dX3_copyFrom_64 ?_
  refine lv_iconst (v := (0 : Int32)) hx hb dX3_copyFrom_67 (by decide) ?_
  refine lv_aload_n hx hb dX3_copyFrom_68 rfl (lv_at hl 0 rfl) ?_
  refine gX3_15 C hM (xoI hT ho) (f := (2, o + 2)) rfl (v := .ref (E.2.1.2.1 (o + 2))) rfl dX3_copyFrom_69 ?_
  refine lv_iconst (v := (0 : Int32)) hx hb dX3_copyFrom_72 (by decide) ?_
  refine lv_bipush (v := (7 : Int32)) hx hb dX3_copyFrom_73 (by decide) ?_
  refine mx_cpiR C hM hl.1 qw_630 (xaI_2 hT ho1) (xaI_2 hT ho) (n := (7 : Int32)) (by decide) (by decide) (by decide) dX3_copyFrom_75 (fun H locs hM => ?_)
  refine lv_aload_n hx hb dX3_copyFrom_78 rfl (lv_at hl 1 rfl) ?_
  refine gX3_19 C hM (xoI hT ho1) (f := (2, o1 + 3)) rfl (v := .ref (E.2.1.2.1 (o1 + 3))) rfl dX3_copyFrom_79 ?_
  refine lv_iconst (v := (0 : Int32)) hx hb dX3_copyFrom_82 (by decide) ?_
  refine lv_aload_n hx hb dX3_copyFrom_83 rfl (lv_at hl 0 rfl) ?_
  refine gX3_19 C hM (xoI hT ho) (f := (2, o + 3)) rfl (v := .ref (E.2.1.2.1 (o + 3))) rfl dX3_copyFrom_84 ?_
  refine lv_iconst (v := (0 : Int32)) hx hb dX3_copyFrom_87 (by decide) ?_
  refine lv_bipush (v := (7 : Int32)) hx hb dX3_copyFrom_88 (by decide) ?_
  refine mx_cpiR C hM hl.1 qw_630 (xaI_3 hT ho1) (xaI_3 hT ho) (n := (7 : Int32)) (by decide) (by decide) (by decide) dX3_copyFrom_90 (fun H locs hM => ?_)
  refine lv_aload_n hx hb dX3_copyFrom_93 rfl (lv_at hl 1 rfl) ?_
  refine gX3_22 C hM (xoI hT ho1) (f := (2, o1 + 4)) rfl (v := .ref (E.2.1.2.1 (o1 + 4))) rfl dX3_copyFrom_94 ?_
  refine lv_iconst (v := (0 : Int32)) hx hb dX3_copyFrom_97 (by decide) ?_
  refine lv_aload_n hx hb dX3_copyFrom_98 rfl (lv_at hl 0 rfl) ?_
  refine gX3_22 C hM (xoI hT ho) (f := (2, o + 4)) rfl (v := .ref (E.2.1.2.1 (o + 4))) rfl dX3_copyFrom_99 ?_
  refine lv_iconst (v := (0 : Int32)) hx hb dX3_copyFrom_102 (by decide) ?_
  refine lv_bipush (v := (7 : Int32)) hx hb dX3_copyFrom_103 (by decide) ?_
  refine mx_cpiR C hM hl.1 qw_630 (xaI_4 hT ho1) (xaI_4 hT ho) (n := (7 : Int32)) (by decide) (by decide) (by decide) dX3_copyFrom_105 (fun H locs hM => ?_)
  refine lv_aload_n hx hb dX3_copyFrom_108 rfl (lv_at hl 1 rfl) ?_
  refine gX3_25 C hM (xoI hT ho1) (f := (2, o1 + 5)) rfl (v := .ref (E.2.1.2.1 (o1 + 5))) rfl dX3_copyFrom_109 ?_
  refine lv_iconst (v := (0 : Int32)) hx hb dX3_copyFrom_112 (by decide) ?_
  refine lv_aload_n hx hb dX3_copyFrom_113 rfl (lv_at hl 0 rfl) ?_
  refine gX3_25 C hM (xoI hT ho) (f := (2, o + 5)) rfl (v := .ref (E.2.1.2.1 (o + 5))) rfl dX3_copyFrom_114 ?_
  refine lv_iconst (v := (0 : Int32)) hx hb dX3_copyFrom_117 (by decide) ?_
  refine lv_bipush (v := (7 : Int32)) hx hb dX3_copyFrom_118 (by decide) ?_
  refine mx_cplR C hM hl.1 qw_630 (xaI_5 hT ho1) (xaI_5 hT ho) (n := (7 : Int32)) (by decide) (by decide) (by decide) dX3_copyFrom_120 (fun H locs hM => ?_)
  refine lv_aload_n hx hb dX3_copyFrom_123 rfl (lv_at hl 1 rfl) ?_
  refine gX3_28 C hM (xoI hT ho1) (f := (2, o1 + 6)) rfl (v := .ref (E.2.1.2.1 (o1 + 6))) rfl dX3_copyFrom_124 ?_
  refine lv_iconst (v := (0 : Int32)) hx hb dX3_copyFrom_127 (by decide) ?_
  refine lv_aload_n hx hb dX3_copyFrom_128 rfl (lv_at hl 0 rfl) ?_
  refine gX3_28 C hM (xoI hT ho) (f := (2, o + 6)) rfl (v := .ref (E.2.1.2.1 (o + 6))) rfl dX3_copyFrom_129 ?_
  refine lv_iconst (v := (0 : Int32)) hx hb dX3_copyFrom_132 (by decide) ?_
  refine lv_bipush (v := (7 : Int32)) hx hb dX3_copyFrom_133 (by decide) ?_
  refine mx_cpiR C hM hl.1 qw_630 (xaI_6 hT ho1) (xaI_6 hT ho) (n := (7 : Int32)) (by decide) (by decide) (by decide) dX3_copyFrom_135 (fun H locs hM => ?_)
  refine lv_aload_n hx hb dX3_copyFrom_138 rfl (lv_at hl 1 rfl) ?_
  refine gX3_31 C hM (xoI hT ho1) (f := (2, o1 + 7)) rfl (v := .ref (E.2.1.2.1 (o1 + 7))) rfl dX3_copyFrom_139 ?_
  refine lv_iconst (v := (0 : Int32)) hx hb dX3_copyFrom_142 (by decide) ?_
  refine lv_aload_n hx hb dX3_copyFrom_143 rfl (lv_at hl 0 rfl) ?_
  refine gX3_31 C hM (xoI hT ho) (f := (2, o + 7)) rfl (v := .ref (E.2.1.2.1 (o + 7))) rfl dX3_copyFrom_144 ?_
  refine lv_iconst (v := (0 : Int32)) hx hb dX3_copyFrom_147 (by decide) ?_
  refine lv_bipush (v := (7 : Int32)) hx hb dX3_copyFrom_148 (by decide) ?_
  refine mx_cpiR C hM hl.1 qw_630 (xaI_7 hT ho1) (xaI_7 hT ho) (n := (7 : Int32)) (by decide) (by decide) (by decide) dX3_copyFrom_150 (fun H locs hM => ?_)
  refine lv_aload_n hx hb dX3_copyFrom_153 rfl (lv_at hl 1 rfl) ?_
  refine gX3_34 C hM (xoI hT ho1) (f := (2, o1 + 8)) rfl (v := .ref (E.2.1.2.1 (o1 + 8))) rfl dX3_copyFrom_154 ?_
  refine lv_iconst (v := (0 : Int32)) hx hb dX3_copyFrom_157 (by decide) ?_
  refine lv_aload_n hx hb dX3_copyFrom_158 rfl (lv_at hl 0 rfl) ?_
  refine gX3_34 C hM (xoI hT ho) (f := (2, o + 8)) rfl (v := .ref (E.2.1.2.1 (o + 8))) rfl dX3_copyFrom_159 ?_
  refine lv_iconst (v := (0 : Int32)) hx hb dX3_copyFrom_162 (by decide) ?_
  refine lv_bipush (v := (7 : Int32)) hx hb dX3_copyFrom_163 (by decide) ?_
  refine mx_cpiR C hM hl.1 qw_630 (xaI_8 hT ho1) (xaI_8 hT ho) (n := (7 : Int32)) (by decide) (by decide) (by decide) dX3_copyFrom_165 (fun H locs hM => ?_)
  refine lv_aload_n hx hb dX3_copyFrom_168 rfl (lv_at hl 1 rfl) ?_
  refine gX3_37 C hM (xoI hT ho1) (f := (2, o1 + 9)) rfl (v := .ref (E.2.1.2.1 (o1 + 9))) rfl dX3_copyFrom_169 ?_
  refine lv_iconst (v := (0 : Int32)) hx hb dX3_copyFrom_172 (by decide) ?_
  refine lv_aload_n hx hb dX3_copyFrom_173 rfl (lv_at hl 0 rfl) ?_
  refine gX3_37 C hM (xoI hT ho) (f := (2, o + 9)) rfl (v := .ref (E.2.1.2.1 (o + 9))) rfl dX3_copyFrom_174 ?_
  refine lv_iconst (v := (0 : Int32)) hx hb dX3_copyFrom_177 (by decide) ?_
  refine lv_bipush (v := (7 : Int32)) hx hb dX3_copyFrom_178 (by decide) ?_
  refine mx_cpiR C hM hl.1 qw_630 (xaI_9 hT ho1) (xaI_9 hT ho) (n := (7 : Int32)) (by decide) (by decide) (by decide) dX3_copyFrom_180 (fun H locs hM => ?_)
  exact mx_vret C hM hf dX3_copyFrom_183
theorem dX3_clear_0 : decode cX3_clear 0 = .ok (.aload_n 0, 1) := by decide +kernel
theorem dX3_clear_1 : decode cX3_clear 1 = .ok (.iconst 0, 1) := by decide +kernel
theorem dX3_clear_2 : decode cX3_clear 2 = .ok (.putfield 50, 3) := by decide +kernel
theorem dX3_clear_5 : decode cX3_clear 5 = .ok (.aload_n 0, 1) := by decide +kernel
theorem dX3_clear_6 : decode cX3_clear 6 = .ok (.iconst 0, 1) := by decide +kernel
theorem dX3_clear_7 : decode cX3_clear 7 = .ok (.putfield 53, 3) := by decide +kernel
theorem dX3_clear_10 : decode cX3_clear 10 = .ok (.aload_n 0, 1) := by decide +kernel
theorem dX3_clear_11 : decode cX3_clear 11 = .ok (.iconst 1, 1) := by decide +kernel
theorem dX3_clear_12 : decode cX3_clear 12 = .ok (.putfield 40, 3) := by decide +kernel
theorem dX3_clear_15 : decode cX3_clear 15 = .ok (.aload_n 0, 1) := by decide +kernel
theorem dX3_clear_16 : decode cX3_clear 16 = .ok (.iconst 5, 1) := by decide +kernel
theorem dX3_clear_17 : decode cX3_clear 17 = .ok (.putfield 44, 3) := by decide +kernel
theorem dX3_clear_20 : decode cX3_clear 20 = .ok (.aload_n 0, 1) := by decide +kernel
theorem dX3_clear_21 : decode cX3_clear 21 = .ok (.iconst 4, 1) := by decide +kernel
theorem dX3_clear_22 : decode cX3_clear 22 = .ok (.putfield 47, 3) := by decide +kernel
theorem dX3_clear_25 : decode cX3_clear 25 = .ok (.aload_n 0, 1) := by decide +kernel
theorem dX3_clear_26 : decode cX3_clear 26 = .ok (.iconst 0, 1) := by decide +kernel
theorem dX3_clear_27 : decode cX3_clear 27 = .ok (.putfield 56, 3) := by decide +kernel
theorem dX3_clear_30 : decode cX3_clear 30 = .ok (.aload_n 0, 1) := by decide +kernel
theorem dX3_clear_31 : decode cX3_clear 31 = .ok (.iconst 0, 1) := by decide +kernel
theorem dX3_clear_32 : decode cX3_clear 32 = .ok (.putfield 65, 3) := by decide +kernel
theorem dX3_clear_35 : decode cX3_clear 35 = .ok (.aload_n 0, 1) := by decide +kernel
theorem dX3_clear_36 : decode cX3_clear 36 = .ok (.iconst 0, 1) := by decide +kernel
theorem dX3_clear_37 : decode cX3_clear 37 = .ok (.putfield 69, 3) := by decide +kernel
theorem dX3_clear_40 : decode cX3_clear 40 = .ok (.aload_n 0, 1) := by decide +kernel
theorem dX3_clear_41 : decode cX3_clear 41 = .ok (.iconst 0, 1) := by decide +kernel
theorem dX3_clear_42 : decode cX3_clear 42 = .ok (.putfield 72, 3) := by decide +kernel
theorem dX3_clear_45 : decode cX3_clear 45 = .ok (.return_, 1) := by decide +kernel
set_option maxRecDepth 100000 in
set_option maxHeartbeats 4000000 in
theorem kX3_clear {E : KE} {l : Launch} (hE : mx_ok E)  (hT : xOK E) (M : MM) {q : MM} (hf : fX3_clear M = some q) : mx_Met E l yX3_clear cX3_clear 1 none 0 [.ref (E.2.1.2.1 19)] M none q := by
  refine mx_enter hE (by decide) (Nat.le_of_ble_eq_true rfl) ?_
  intro p e s m below meth c C hM hn ls hl
  have hx := C.1.1
  have hb := C.1.2.1
  have hown := C.1.2.2.2.1
  have hts := C.1.2.2.2.2
  have hl : lv_has ls 1 [(0, .ref (E.2.1.2.1 19))] := hl
  rw [fX3_clear] at hf
  refine lv_aload_n hx hb dX3_clear_0 rfl (lv_at hl 0 rfl) ?_
  refine lv_iconst (v := (0 : Int32)) hx hb dX3_clear_1 (by decide) ?_
  refine pX3_50 C hM (xt_19 hT) rfl rfl rfl dX3_clear_2 (fun H locs hM => ?_)
  refine lv_aload_n hx hb dX3_clear_5 rfl (lv_at hl 0 rfl) ?_
  refine lv_iconst (v := (0 : Int32)) hx hb dX3_clear_6 (by decide) ?_
  refine pX3_53 C hM (xt_19 hT) rfl rfl rfl dX3_clear_7 (fun H locs hM => ?_)
  refine lv_aload_n hx hb dX3_clear_10 rfl (lv_at hl 0 rfl) ?_
  refine lv_iconst (v := (1 : Int32)) hx hb dX3_clear_11 (by decide) ?_
  refine pX3_40 C hM (xt_19 hT) rfl rfl rfl dX3_clear_12 (fun H locs hM => ?_)
  refine lv_aload_n hx hb dX3_clear_15 rfl (lv_at hl 0 rfl) ?_
  refine lv_iconst (v := (5 : Int32)) hx hb dX3_clear_16 (by decide) ?_
  refine pX3_44 C hM (xt_19 hT) rfl rfl rfl dX3_clear_17 (fun H locs hM => ?_)
  refine lv_aload_n hx hb dX3_clear_20 rfl (lv_at hl 0 rfl) ?_
  refine lv_iconst (v := (4 : Int32)) hx hb dX3_clear_21 (by decide) ?_
  refine pX3_47 C hM (xt_19 hT) rfl rfl rfl dX3_clear_22 (fun H locs hM => ?_)
  refine lv_aload_n hx hb dX3_clear_25 rfl (lv_at hl 0 rfl) ?_
  refine lv_iconst (v := (0 : Int32)) hx hb dX3_clear_26 (by decide) ?_
  refine pX3_56 C hM (xt_19 hT) rfl rfl rfl dX3_clear_27 (fun H locs hM => ?_)
  refine lv_aload_n hx hb dX3_clear_30 rfl (lv_at hl 0 rfl) ?_
  refine lv_iconst (v := (0 : Int32)) hx hb dX3_clear_31 (by decide) ?_
  refine pX3_65 C hM (xt_19 hT) rfl (by decide) (by decide) dX3_clear_32 (fun H locs hM => ?_)
  refine lv_aload_n hx hb dX3_clear_35 rfl (lv_at hl 0 rfl) ?_
  refine lv_iconst (v := (0 : Int32)) hx hb dX3_clear_36 (by decide) ?_
  refine pX3_69 C hM (xt_19 hT) rfl (by decide) (by decide) dX3_clear_37 (fun H locs hM => ?_)
  refine lv_aload_n hx hb dX3_clear_40 rfl (lv_at hl 0 rfl) ?_
  refine lv_iconst (v := (0 : Int32)) hx hb dX3_clear_41 (by decide) ?_
  refine pX3_72 C hM (xt_19 hT) rfl (by decide) (by decide) dX3_clear_42 (fun H locs hM => ?_)
  exact mx_vret C hM hf dX3_clear_45
theorem dX3_takeNewName_0 : decode cX3_takeNewName 0 = .ok (.aload_n 1, 1) := by decide +kernel
theorem dX3_takeNewName_1 : decode cX3_takeNewName 1 = .ok (.iconst 2, 1) := by decide +kernel
theorem dX3_takeNewName_2 : decode cX3_takeNewName 2 = .ok (.invokevirtual 80, 3) := by decide +kernel
theorem dX3_takeNewName_5 : decode cX3_takeNewName 5 = .ok (.ifCond .ne 9, 3) := by decide +kernel
theorem dX3_takeNewName_8 : decode cX3_takeNewName 8 = .ok (.aload_n 1, 1) := by decide +kernel
theorem dX3_takeNewName_9 : decode cX3_takeNewName 9 = .ok (.iconst 1, 1) := by decide +kernel
theorem dX3_takeNewName_10 : decode cX3_takeNewName 10 = .ok (.invokevirtual 92, 3) := by decide +kernel
theorem dX3_takeNewName_13 : decode cX3_takeNewName 13 = .ok (.ireturn, 1) := by decide +kernel
theorem dX3_takeNewName_14 : decode cX3_takeNewName 14 = .ok (.aload_n 0, 1) := by decide +kernel
theorem dX3_takeNewName_15 : decode cX3_takeNewName 15 = .ok (.aload_n 1, 1) := by decide +kernel
theorem dX3_takeNewName_16 : decode cX3_takeNewName 16 = .ok (.invokevirtual 128, 3) := by decide +kernel
theorem dX3_takeNewName_19 : decode cX3_takeNewName 19 = .ok (.invokevirtual 142, 3) := by decide +kernel
theorem dX3_takeNewName_22 : decode cX3_takeNewName 22 = .ok (.iconst (-1), 1) := by decide +kernel
theorem dX3_takeNewName_23 : decode cX3_takeNewName 23 = .ok (.if_icmp .ne 15, 3) := by decide +kernel
theorem dX3_takeNewName_26 : decode cX3_takeNewName 26 = .ok (.aload_n 0, 1) := by decide +kernel
theorem dX3_takeNewName_27 : decode cX3_takeNewName 27 = .ok (.aload_n 1, 1) := by decide +kernel
theorem dX3_takeNewName_28 : decode cX3_takeNewName 28 = .ok (.invokevirtual 128, 3) := by decide +kernel
theorem dX3_takeNewName_31 : decode cX3_takeNewName 31 = .ok (.invokevirtual 149, 3) := by decide +kernel
theorem dX3_takeNewName_34 : decode cX3_takeNewName 34 = .ok (.iconst (-1), 1) := by decide +kernel
theorem dX3_takeNewName_35 : decode cX3_takeNewName 35 = .ok (.if_icmp .eq 9, 3) := by decide +kernel
theorem dX3_takeNewName_38 : decode cX3_takeNewName 38 = .ok (.aload_n 1, 1) := by decide +kernel
theorem dX3_takeNewName_39 : decode cX3_takeNewName 39 = .ok (.iconst 3, 1) := by decide +kernel
theorem dX3_takeNewName_40 : decode cX3_takeNewName 40 = .ok (.invokevirtual 92, 3) := by decide +kernel
theorem dX3_takeNewName_43 : decode cX3_takeNewName 43 = .ok (.ireturn, 1) := by decide +kernel
theorem dX3_takeNewName_44 : decode cX3_takeNewName 44 = .ok (.aload_n 1, 1) := by decide +kernel
theorem dX3_takeNewName_45 : decode cX3_takeNewName 45 = .ok (.invokevirtual 125, 3) := by decide +kernel
theorem dX3_takeNewName_48 : decode cX3_takeNewName 48 = .ok (.iconst 1, 1) := by decide +kernel
theorem dX3_takeNewName_49 : decode cX3_takeNewName 49 = .ok (.ireturn, 1) := by decide +kernel
set_option maxRecDepth 100000 in
set_option maxHeartbeats 4000000 in
theorem wfX3_takeNewName_38 {E : KE} {p : Program} {l : Launch} {e : Env} {s : State} {m : MethodId} {args : Array Value} {below : List Frame} {meth : Method} {c : Code} {q : (Bool × MM)} (C : mx_C E p m c cX3_takeNewName 2 s args RX3 meth (some .boolean))  (hT : xOK E)   : ∀ (M : MM) (H : Heap) (locs : List Loc) (ls : Array Slot), fX3_takeNewName_38 M = some q → mx_H E s M H locs → lv_has ls 2 [(1, .ref (E.2.1.2.1 3))] → W p l e (mx_rm 1) s m args below meth c H locs 0 0 (mx_Z E below args s (some (.int (mx_b q.1))) q.2) (F0 m 38 ls []) := by
  have hx := C.1.1
  have hb := C.1.2.1
  have hown := C.1.2.2.2.1
  have hts := C.1.2.2.2.2
  intro M H locs ls hf hM hl
  rw [fX3_takeNewName_38] at hf
  refine lv_aload_n hx hb dX3_takeNewName_38 rfl (lv_at hl 0 rfl) ?_
  refine lv_iconst (v := (3 : Int32)) hx hb dX3_takeNewName_39 (by decide) ?_
  obtain ⟨q40, hq40, hf⟩ := mx_bd hf
  refine mx_callVN C hM hl.1 yo_X7_fail (h' := 0) (by decide) (nw_561 hT C) qw_563 qs_13 (ci := 7) (q := (RX7, TX7, 12)) rfl (xt_3 hT) (As := [.int (3 : Int32)]) (rest := []) (st1 := [.int (mx_b q40.1)]) (kX7_fail C.2.2.2.1 (3 : Int32) hT M hq40) rfl rfl rfl (Nat.le_of_ble_eq_true rfl) dX3_takeNewName_40 (fun H locs hM => ?_)
  exact mx_zret C hM (b := q40.1) rfl hf dX3_takeNewName_43
set_option maxRecDepth 100000 in
set_option maxHeartbeats 4000000 in
theorem kX3_takeNewName {E : KE} {l : Launch} (hE : mx_ok E)  (hT : xOK E) (M : MM) {q : (Bool × MM)} (hf : fX3_takeNewName M = some q) : mx_Met E l yX3_takeNewName cX3_takeNewName 2 (some .boolean) 1 [.ref (E.2.1.2.1 19), .ref (E.2.1.2.1 3)] M (some (.int (mx_b q.1))) q.2 := by
  refine mx_enter hE (by decide) (Nat.le_of_ble_eq_true rfl) ?_
  intro p e s m below meth c C hM hn ls hl
  have hx := C.1.1
  have hb := C.1.2.1
  have hown := C.1.2.2.2.1
  have hts := C.1.2.2.2.2
  have hl : lv_has ls 2 [(0, .ref (E.2.1.2.1 19)), (1, .ref (E.2.1.2.1 3))] := hl
  rw [fX3_takeNewName] at hf
  refine lv_aload_n hx hb dX3_takeNewName_0 rfl (lv_at hl 1 rfl) ?_
  refine lv_iconst (v := (2 : Int32)) hx hb dX3_takeNewName_1 (by decide) ?_
  obtain ⟨q2, hq2, hf⟩ := mx_bd hf
  refine mx_callVN C hM hl.1 yo_X7_isAt (h' := 0) (by decide) (nw_537 hT C) qw_539 qs_9 (ci := 7) (q := (RX7, TX7, 12)) rfl (xt_3 hT) (As := [.int (2 : Int32)]) (rest := []) (st1 := [.int (mx_b q2)]) (kX7_isAt C.2.2.2.1 (2 : Int32) hT M hq2) rfl rfl rfl (Nat.le_of_ble_eq_true rfl) dX3_takeNewName_2 (fun H locs hM => ?_)
  refine lv_if_ne (tgt := 14) hx hb dX3_takeNewName_5 (by decide) (fun hc5 => ?_) (fun hc5 => ?_)
  · replace hf := mx_iff hc5 hf
    refine lv_aload_n hx hb dX3_takeNewName_14 rfl (lv_at hl 0 rfl) ?_
    refine lv_aload_n hx hb dX3_takeNewName_15 rfl (lv_at hl 1 rfl) ?_
    obtain ⟨q16, hq16, hf⟩ := mx_bd hf
    refine mx_callVN C hM hl.1 yo_X7_name (h' := 0) (by decide) (nw_569 hT C) qw_571 qs_15 (ci := 7) (q := (RX7, TX7, 12)) rfl (xt_3 hT) (As := []) (rest := [.ref (E.2.1.2.1 19)]) (st1 := [.long q16, .ref (E.2.1.2.1 19)]) (kX7_name C.2.2.2.1 hT M hq16) rfl rfl rfl (Nat.le_of_ble_eq_true rfl) dX3_takeNewName_16 (fun H locs hM => ?_)
    obtain ⟨q19, hq19, hf⟩ := mx_bd hf
    refine mx_callV C hM hl.1 yo_X3_personNamed (h' := 0) (by decide) qw_577 qw_579 qs_17 (ci := 3) (q := (RX3, TX3, 18)) rfl (xt_19 hT) (As := [.long q16]) (rest := []) (st1 := [.int q19]) (kX3_personNamed C.2.2.2.1 19 q16 hT xiI_19 M hq19) rfl rfl rfl (Nat.le_of_ble_eq_true rfl) dX3_takeNewName_19 (fun H locs hM => ?_)
    refine lv_iconst (v := (-1 : Int32)) hx hb dX3_takeNewName_22 (by decide) ?_
    refine lv_icmp_ne (tgt := 38) hx hb dX3_takeNewName_23 (by decide) (fun hc23 => ?_) (fun hc23 => ?_)
    · replace hf := mx_iff hc23 hf
      exact wfX3_takeNewName_38 C hT M _ _ _ hf hM (lv_sub hl [1] rfl)
    · replace hf := mx_ift hc23 hf
      refine lv_aload_n hx hb dX3_takeNewName_26 rfl (lv_at hl 0 rfl) ?_
      refine lv_aload_n hx hb dX3_takeNewName_27 rfl (lv_at hl 1 rfl) ?_
      obtain ⟨q28, hq28, hf⟩ := mx_bd hf
      refine mx_callVN C hM hl.1 yo_X7_name (h' := 0) (by decide) (nw_569 hT C) qw_571 qs_15 (ci := 7) (q := (RX7, TX7, 12)) rfl (xt_3 hT) (As := []) (rest := [.ref (E.2.1.2.1 19)]) (st1 := [.long q28, .ref (E.2.1.2.1 19)]) (kX7_name C.2.2.2.1 hT M hq28) rfl rfl rfl (Nat.le_of_ble_eq_true rfl) dX3_takeNewName_28 (fun H locs hM => ?_)
      obtain ⟨q31, hq31, hf⟩ := mx_bd hf
      refine mx_callV C hM hl.1 yo_X3_ringNamed (h' := 0) (by decide) qw_581 qw_583 qs_18 (ci := 3) (q := (RX3, TX3, 18)) rfl (xt_19 hT) (As := [.long q28]) (rest := []) (st1 := [.int q31]) (kX3_ringNamed C.2.2.2.1 19 q28 hT xiI_19 M hq31) rfl rfl rfl (Nat.le_of_ble_eq_true rfl) dX3_takeNewName_31 (fun H locs hM => ?_)
      refine lv_iconst (v := (-1 : Int32)) hx hb dX3_takeNewName_34 (by decide) ?_
      refine lv_icmp_eq (tgt := 44) hx hb dX3_takeNewName_35 (by decide) (fun hc35 => ?_) (fun hc35 => ?_)
      · replace hf := mx_ift hc35 hf
        refine lv_aload_n hx hb dX3_takeNewName_44 rfl (lv_at hl 1 rfl) ?_
        obtain ⟨q45, hq45, hf⟩ := mx_bd hf
        refine mx_callVN C hM hl.1 yo_X7_advance (h' := 0) (by decide) (nw_565 hT C) qw_567 qs_14 (ci := 7) (q := (RX7, TX7, 12)) rfl (xt_3 hT) (As := []) (rest := []) (st1 := []) (kX7_advance C.2.2.2.1 hT M hq45) rfl rfl rfl (Nat.le_of_ble_eq_true rfl) dX3_takeNewName_45 (fun H locs hM => ?_)
        refine lv_iconst (v := (1 : Int32)) hx hb dX3_takeNewName_48 (by decide) ?_
        exact mx_zret C hM (b := true) rfl hf dX3_takeNewName_49
      · replace hf := mx_iff hc35 hf
        exact wfX3_takeNewName_38 C hT M _ _ _ hf hM (lv_sub hl [1] rfl)
  · replace hf := mx_ift hc5 hf
    refine lv_aload_n hx hb dX3_takeNewName_8 rfl (lv_at hl 1 rfl) ?_
    refine lv_iconst (v := (1 : Int32)) hx hb dX3_takeNewName_9 (by decide) ?_
    obtain ⟨q10, hq10, hf⟩ := mx_bd hf
    refine mx_callVN C hM hl.1 yo_X7_fail (h' := 0) (by decide) (nw_561 hT C) qw_563 qs_13 (ci := 7) (q := (RX7, TX7, 12)) rfl (xt_3 hT) (As := [.int (1 : Int32)]) (rest := []) (st1 := [.int (mx_b q10.1)]) (kX7_fail C.2.2.2.1 (1 : Int32) hT M hq10) rfl rfl rfl (Nat.le_of_ble_eq_true rfl) dX3_takeNewName_10 (fun H locs hM => ?_)
    exact mx_zret C hM (b := q10.1) rfl hf dX3_takeNewName_13
theorem dX3_readPerson_0 : decode cX3_readPerson 0 = .ok (.aload_n 0, 1) := by decide +kernel
theorem dX3_readPerson_1 : decode cX3_readPerson 1 = .ok (.getfield 50, 3) := by decide +kernel
theorem dX3_readPerson_4 : decode cX3_readPerson 4 = .ok (.istore_n 2, 1) := by decide +kernel
theorem dX3_readPerson_5 : decode cX3_readPerson 5 = .ok (.iload_n 2, 1) := by decide +kernel
theorem dX3_readPerson_6 : decode cX3_readPerson 6 = .ok (.bipush 7, 2) := by decide +kernel
theorem dX3_readPerson_8 : decode cX3_readPerson 8 = .ok (.if_icmp .lt 9, 3) := by decide +kernel
theorem dX3_readPerson_11 : decode cX3_readPerson 11 = .ok (.aload_n 1, 1) := by decide +kernel
theorem dX3_readPerson_12 : decode cX3_readPerson 12 = .ok (.iconst 4, 1) := by decide +kernel
theorem dX3_readPerson_13 : decode cX3_readPerson 13 = .ok (.invokevirtual 92, 3) := by decide +kernel
theorem dX3_readPerson_16 : decode cX3_readPerson 16 = .ok (.ireturn, 1) := by decide +kernel
theorem dX3_readPerson_17 : decode cX3_readPerson 17 = .ok (.aload_n 1, 1) := by decide +kernel
theorem dX3_readPerson_18 : decode cX3_readPerson 18 = .ok (.invokevirtual 125, 3) := by decide +kernel
theorem dX3_readPerson_21 : decode cX3_readPerson 21 = .ok (.aload_n 0, 1) := by decide +kernel
theorem dX3_readPerson_22 : decode cX3_readPerson 22 = .ok (.getfield 9, 3) := by decide +kernel
theorem dX3_readPerson_25 : decode cX3_readPerson 25 = .ok (.iload_n 2, 1) := by decide +kernel
theorem dX3_readPerson_26 : decode cX3_readPerson 26 = .ok (.aload_n 1, 1) := by decide +kernel
theorem dX3_readPerson_27 : decode cX3_readPerson 27 = .ok (.invokevirtual 128, 3) := by decide +kernel
theorem dX3_readPerson_30 : decode cX3_readPerson 30 = .ok (.lastore, 1) := by decide +kernel
theorem dX3_readPerson_31 : decode cX3_readPerson 31 = .ok (.aload_n 0, 1) := by decide +kernel
theorem dX3_readPerson_32 : decode cX3_readPerson 32 = .ok (.aload_n 1, 1) := by decide +kernel
theorem dX3_readPerson_33 : decode cX3_readPerson 33 = .ok (.invokevirtual 132, 3) := by decide +kernel
theorem dX3_readPerson_36 : decode cX3_readPerson 36 = .ok (.ifCond .eq 13, 3) := by decide +kernel
theorem dX3_readPerson_39 : decode cX3_readPerson 39 = .ok (.aload_n 1, 1) := by decide +kernel
theorem dX3_readPerson_40 : decode cX3_readPerson 40 = .ok (.iconst 0, 1) := by decide +kernel
theorem dX3_readPerson_41 : decode cX3_readPerson 41 = .ok (.bipush 20, 2) := by decide +kernel
theorem dX3_readPerson_43 : decode cX3_readPerson 43 = .ok (.invokevirtual 135, 3) := by decide +kernel
theorem dX3_readPerson_46 : decode cX3_readPerson 46 = .ok (.ifCond .ne 5, 3) := by decide +kernel
theorem dX3_readPerson_49 : decode cX3_readPerson 49 = .ok (.iconst 0, 1) := by decide +kernel
theorem dX3_readPerson_50 : decode cX3_readPerson 50 = .ok (.ireturn, 1) := by decide +kernel
theorem dX3_readPerson_51 : decode cX3_readPerson 51 = .ok (.aload_n 0, 1) := by decide +kernel
theorem dX3_readPerson_52 : decode cX3_readPerson 52 = .ok (.getfield 15, 3) := by decide +kernel
theorem dX3_readPerson_55 : decode cX3_readPerson 55 = .ok (.iload_n 2, 1) := by decide +kernel
theorem dX3_readPerson_56 : decode cX3_readPerson 56 = .ok (.aload_n 1, 1) := by decide +kernel
theorem dX3_readPerson_57 : decode cX3_readPerson 57 = .ok (.getfield 139, 3) := by decide +kernel
theorem dX3_readPerson_60 : decode cX3_readPerson 60 = .ok (.iastore, 1) := by decide +kernel
theorem dX3_readPerson_61 : decode cX3_readPerson 61 = .ok (.aload_n 1, 1) := by decide +kernel
theorem dX3_readPerson_62 : decode cX3_readPerson 62 = .ok (.iconst 0, 1) := by decide +kernel
theorem dX3_readPerson_63 : decode cX3_readPerson 63 = .ok (.bipush 20, 2) := by decide +kernel
theorem dX3_readPerson_65 : decode cX3_readPerson 65 = .ok (.invokevirtual 135, 3) := by decide +kernel
theorem dX3_readPerson_68 : decode cX3_readPerson 68 = .ok (.ifCond .ne 5, 3) := by decide +kernel
theorem dX3_readPerson_71 : decode cX3_readPerson 71 = .ok (.iconst 0, 1) := by decide +kernel
theorem dX3_readPerson_72 : decode cX3_readPerson 72 = .ok (.ireturn, 1) := by decide +kernel
theorem dX3_readPerson_73 : decode cX3_readPerson 73 = .ok (.aload_n 0, 1) := by decide +kernel
theorem dX3_readPerson_74 : decode cX3_readPerson 74 = .ok (.getfield 19, 3) := by decide +kernel
theorem dX3_readPerson_77 : decode cX3_readPerson 77 = .ok (.iload_n 2, 1) := by decide +kernel
theorem dX3_readPerson_78 : decode cX3_readPerson 78 = .ok (.aload_n 1, 1) := by decide +kernel
theorem dX3_readPerson_79 : decode cX3_readPerson 79 = .ok (.getfield 139, 3) := by decide +kernel
theorem dX3_readPerson_82 : decode cX3_readPerson 82 = .ok (.iastore, 1) := by decide +kernel
theorem dX3_readPerson_83 : decode cX3_readPerson 83 = .ok (.aload_n 1, 1) := by decide +kernel
theorem dX3_readPerson_84 : decode cX3_readPerson 84 = .ok (.iconst 1, 1) := by decide +kernel
theorem dX3_readPerson_85 : decode cX3_readPerson 85 = .ok (.bipush 20, 2) := by decide +kernel
theorem dX3_readPerson_87 : decode cX3_readPerson 87 = .ok (.invokevirtual 135, 3) := by decide +kernel
theorem dX3_readPerson_90 : decode cX3_readPerson 90 = .ok (.ifCond .ne 5, 3) := by decide +kernel
theorem dX3_readPerson_93 : decode cX3_readPerson 93 = .ok (.iconst 0, 1) := by decide +kernel
theorem dX3_readPerson_94 : decode cX3_readPerson 94 = .ok (.ireturn, 1) := by decide +kernel
theorem dX3_readPerson_95 : decode cX3_readPerson 95 = .ok (.aload_n 0, 1) := by decide +kernel
theorem dX3_readPerson_96 : decode cX3_readPerson 96 = .ok (.getfield 22, 3) := by decide +kernel
theorem dX3_readPerson_99 : decode cX3_readPerson 99 = .ok (.iload_n 2, 1) := by decide +kernel
theorem dX3_readPerson_100 : decode cX3_readPerson 100 = .ok (.aload_n 1, 1) := by decide +kernel
theorem dX3_readPerson_101 : decode cX3_readPerson 101 = .ok (.getfield 139, 3) := by decide +kernel
theorem dX3_readPerson_104 : decode cX3_readPerson 104 = .ok (.iastore, 1) := by decide +kernel
theorem dX3_readPerson_105 : decode cX3_readPerson 105 = .ok (.aload_n 0, 1) := by decide +kernel
theorem dX3_readPerson_106 : decode cX3_readPerson 106 = .ok (.dup, 1) := by decide +kernel
theorem dX3_readPerson_107 : decode cX3_readPerson 107 = .ok (.getfield 50, 3) := by decide +kernel
theorem dX3_readPerson_110 : decode cX3_readPerson 110 = .ok (.iconst 1, 1) := by decide +kernel
theorem dX3_readPerson_111 : decode cX3_readPerson 111 = .ok (.iadd, 1) := by decide +kernel
theorem dX3_readPerson_112 : decode cX3_readPerson 112 = .ok (.putfield 50, 3) := by decide +kernel
theorem dX3_readPerson_115 : decode cX3_readPerson 115 = .ok (.iconst 1, 1) := by decide +kernel
theorem dX3_readPerson_116 : decode cX3_readPerson 116 = .ok (.ireturn, 1) := by decide +kernel
set_option maxRecDepth 100000 in
set_option maxHeartbeats 4000000 in
theorem kX3_readPerson {E : KE} {l : Launch} (hE : mx_ok E)  (hT : xOK E) (M : MM) {q : (Bool × MM)} (hf : fX3_readPerson M = some q) : mx_Met E l yX3_readPerson cX3_readPerson 3 (some .boolean) 2 [.ref (E.2.1.2.1 19), .ref (E.2.1.2.1 3)] M (some (.int (mx_b q.1))) q.2 := by
  refine mx_enter hE (by decide) (Nat.le_of_ble_eq_true rfl) ?_
  intro p e s m below meth c C hM hn ls hl
  have hx := C.1.1
  have hb := C.1.2.1
  have hown := C.1.2.2.2.1
  have hts := C.1.2.2.2.2
  have hl : lv_has ls 3 [(0, .ref (E.2.1.2.1 19)), (1, .ref (E.2.1.2.1 3))] := hl
  rw [fX3_readPerson] at hf
  refine lv_aload_n hx hb dX3_readPerson_0 rfl (lv_at hl 0 rfl) ?_
  refine gX3_50 C hM (xt_19 hT) (f := (0, 0)) rfl (v := .int (M.1 19 0)) rfl dX3_readPerson_1 ?_
  refine lv_istore_n (lv' := [(2, .int (M.1 19 0)), (0, .ref (E.2.1.2.1 19)), (1, .ref (E.2.1.2.1 3))]) hx hb dX3_readPerson_4 rfl hl (by decide) rfl (fun ls hl => ?_)
  refine lv_iload_n hx hb dX3_readPerson_5 rfl (lv_at hl 0 rfl) ?_
  refine lv_bipush (v := (7 : Int32)) hx hb dX3_readPerson_6 (by decide) ?_
  refine lv_icmp_lt (tgt := 17) hx hb dX3_readPerson_8 (by decide) (fun hc8 => ?_) (fun hc8 => ?_)
  · replace hf := mx_ift hc8 hf
    refine lv_aload_n hx hb dX3_readPerson_17 rfl (lv_at hl 2 rfl) ?_
    obtain ⟨q18, hq18, hf⟩ := mx_bd hf
    refine mx_callVN C hM hl.1 yo_X7_advance (h' := 0) (by decide) (nw_565 hT C) qw_567 qs_14 (ci := 7) (q := (RX7, TX7, 12)) rfl (xt_3 hT) (As := []) (rest := []) (st1 := []) (kX7_advance C.2.2.2.1 hT M hq18) rfl rfl rfl (Nat.le_of_ble_eq_true rfl) dX3_readPerson_18 (fun H locs hM => ?_)
    refine lv_aload_n hx hb dX3_readPerson_21 rfl (lv_at hl 1 rfl) ?_
    refine gX3_9 C hM (xt_19 hT) (f := (2, 20)) rfl (v := .ref (E.2.1.2.1 20)) rfl dX3_readPerson_22 ?_
    refine lv_iload_n hx hb dX3_readPerson_25 rfl (lv_at hl 0 rfl) ?_
    refine lv_aload_n hx hb dX3_readPerson_26 rfl (lv_at hl 2 rfl) ?_
    obtain ⟨q27, hq27, hf⟩ := mx_bd hf
    refine mx_callVN C hM hl.1 yo_X7_name (h' := 0) (by decide) (nw_569 hT C) qw_571 qs_15 (ci := 7) (q := (RX7, TX7, 12)) rfl (xt_3 hT) (As := []) (rest := [.int (M.1 19 0), .ref (E.2.1.2.1 20)]) (st1 := [.long q27, .int (M.1 19 0), .ref (E.2.1.2.1 20)]) (kX7_name C.2.2.2.1 hT q18 hq27) rfl rfl rfl (Nat.le_of_ble_eq_true rfl) dX3_readPerson_27 (fun H locs hM => ?_)
    obtain ⟨hg30, hf⟩ := mx_gd hf
    refine mx_last C hM (xt_20 hT) (mx_in_vp hg30) dX3_readPerson_30 (fun H locs hM => ?_)
    refine lv_aload_n hx hb dX3_readPerson_31 rfl (lv_at hl 1 rfl) ?_
    refine lv_aload_n hx hb dX3_readPerson_32 rfl (lv_at hl 2 rfl) ?_
    obtain ⟨q33, hq33, hf⟩ := mx_bd hf
    refine mx_callV C hM hl.1 yo_X3_takeNewName (h' := 1) (by decide) qw_573 qw_575 qs_16 (ci := 3) (q := (RX3, TX3, 18)) rfl (xt_19 hT) (As := [.ref (E.2.1.2.1 3)]) (rest := []) (st1 := [.int (mx_b q33.1)]) (kX3_takeNewName C.2.2.2.1 hT (mx_sl q18 20 (M.1 19 0).toNatClampNeg q27) hq33) rfl rfl rfl (Nat.le_of_ble_eq_true rfl) dX3_readPerson_33 (fun H locs hM => ?_)
    refine lv_if_eq (tgt := 49) hx hb dX3_readPerson_36 (by decide) (fun hc36 => ?_) (fun hc36 => ?_)
    · replace hf := mx_ift hc36 hf
      refine lv_iconst (v := (0 : Int32)) hx hb dX3_readPerson_49 (by decide) ?_
      exact mx_zret C hM (b := false) rfl hf dX3_readPerson_50
    · replace hf := mx_iff hc36 hf
      refine lv_aload_n hx hb dX3_readPerson_39 rfl (lv_at hl 2 rfl) ?_
      refine lv_iconst (v := (0 : Int32)) hx hb dX3_readPerson_40 (by decide) ?_
      refine lv_bipush (v := (20 : Int32)) hx hb dX3_readPerson_41 (by decide) ?_
      obtain ⟨q43, hq43, hf⟩ := mx_bd hf
      refine mx_callVN C hM hl.1 yo_X7_takeNumber (h' := 1) (by decide) (nw_585 hT C) qw_587 qs_19 (ci := 7) (q := (RX7, TX7, 12)) rfl (xt_3 hT) (As := [.int (0 : Int32), .int (20 : Int32)]) (rest := []) (st1 := [.int (mx_b q43.1)]) (kX7_takeNumber C.2.2.2.1 (0 : Int32) (20 : Int32) hT q33.2 hq43) rfl rfl rfl (Nat.le_of_ble_eq_true rfl) dX3_readPerson_43 (fun H locs hM => ?_)
      refine lv_if_ne (tgt := 51) hx hb dX3_readPerson_46 (by decide) (fun hc46 => ?_) (fun hc46 => ?_)
      · replace hf := mx_iff hc46 hf
        refine lv_aload_n hx hb dX3_readPerson_51 rfl (lv_at hl 1 rfl) ?_
        refine gX3_15 C hM (xt_19 hT) (f := (2, 21)) rfl (v := .ref (E.2.1.2.1 21)) rfl dX3_readPerson_52 ?_
        refine lv_iload_n hx hb dX3_readPerson_55 rfl (lv_at hl 0 rfl) ?_
        refine lv_aload_n hx hb dX3_readPerson_56 rfl (lv_at hl 2 rfl) ?_
        refine gX3_139 C hT hM (xt_3 hT) (f := (0, 0)) rfl (v := .int (q43.2.1 3 9)) rfl dX3_readPerson_57 ?_
        obtain ⟨hg60, hf⟩ := mx_gd hf
        refine mx_iast C hM (xt_21 hT) (mx_in_vp hg60) dX3_readPerson_60 (fun H locs hM => ?_)
        refine lv_aload_n hx hb dX3_readPerson_61 rfl (lv_at hl 2 rfl) ?_
        refine lv_iconst (v := (0 : Int32)) hx hb dX3_readPerson_62 (by decide) ?_
        refine lv_bipush (v := (20 : Int32)) hx hb dX3_readPerson_63 (by decide) ?_
        obtain ⟨q65, hq65, hf⟩ := mx_bd hf
        refine mx_callVN C hM hl.1 yo_X7_takeNumber (h' := 1) (by decide) (nw_585 hT C) qw_587 qs_19 (ci := 7) (q := (RX7, TX7, 12)) rfl (xt_3 hT) (As := [.int (0 : Int32), .int (20 : Int32)]) (rest := []) (st1 := [.int (mx_b q65.1)]) (kX7_takeNumber C.2.2.2.1 (0 : Int32) (20 : Int32) hT (mx_si q43.2 21 (M.1 19 0).toNatClampNeg (q43.2.1 3 9)) hq65) rfl rfl rfl (Nat.le_of_ble_eq_true rfl) dX3_readPerson_65 (fun H locs hM => ?_)
        refine lv_if_ne (tgt := 73) hx hb dX3_readPerson_68 (by decide) (fun hc68 => ?_) (fun hc68 => ?_)
        · replace hf := mx_iff hc68 hf
          refine lv_aload_n hx hb dX3_readPerson_73 rfl (lv_at hl 1 rfl) ?_
          refine gX3_19 C hM (xt_19 hT) (f := (2, 22)) rfl (v := .ref (E.2.1.2.1 22)) rfl dX3_readPerson_74 ?_
          refine lv_iload_n hx hb dX3_readPerson_77 rfl (lv_at hl 0 rfl) ?_
          refine lv_aload_n hx hb dX3_readPerson_78 rfl (lv_at hl 2 rfl) ?_
          refine gX3_139 C hT hM (xt_3 hT) (f := (0, 0)) rfl (v := .int (q65.2.1 3 9)) rfl dX3_readPerson_79 ?_
          obtain ⟨hg82, hf⟩ := mx_gd hf
          refine mx_iast C hM (xt_22 hT) (mx_in_vp hg82) dX3_readPerson_82 (fun H locs hM => ?_)
          refine lv_aload_n hx hb dX3_readPerson_83 rfl (lv_at hl 2 rfl) ?_
          refine lv_iconst (v := (1 : Int32)) hx hb dX3_readPerson_84 (by decide) ?_
          refine lv_bipush (v := (20 : Int32)) hx hb dX3_readPerson_85 (by decide) ?_
          obtain ⟨q87, hq87, hf⟩ := mx_bd hf
          refine mx_callVN C hM hl.1 yo_X7_takeNumber (h' := 1) (by decide) (nw_585 hT C) qw_587 qs_19 (ci := 7) (q := (RX7, TX7, 12)) rfl (xt_3 hT) (As := [.int (1 : Int32), .int (20 : Int32)]) (rest := []) (st1 := [.int (mx_b q87.1)]) (kX7_takeNumber C.2.2.2.1 (1 : Int32) (20 : Int32) hT (mx_si q65.2 22 (M.1 19 0).toNatClampNeg (q65.2.1 3 9)) hq87) rfl rfl rfl (Nat.le_of_ble_eq_true rfl) dX3_readPerson_87 (fun H locs hM => ?_)
          refine lv_if_ne (tgt := 95) hx hb dX3_readPerson_90 (by decide) (fun hc90 => ?_) (fun hc90 => ?_)
          · replace hf := mx_iff hc90 hf
            refine lv_aload_n hx hb dX3_readPerson_95 rfl (lv_at hl 1 rfl) ?_
            refine gX3_22 C hM (xt_19 hT) (f := (2, 23)) rfl (v := .ref (E.2.1.2.1 23)) rfl dX3_readPerson_96 ?_
            refine lv_iload_n hx hb dX3_readPerson_99 rfl (lv_at hl 0 rfl) ?_
            refine lv_aload_n hx hb dX3_readPerson_100 rfl (lv_at hl 2 rfl) ?_
            refine gX3_139 C hT hM (xt_3 hT) (f := (0, 0)) rfl (v := .int (q87.2.1 3 9)) rfl dX3_readPerson_101 ?_
            obtain ⟨hg104, hf⟩ := mx_gd hf
            refine mx_iast C hM (xt_23 hT) (mx_in_vp hg104) dX3_readPerson_104 (fun H locs hM => ?_)
            refine lv_aload_n hx hb dX3_readPerson_105 rfl (lv_at hl 1 rfl) ?_
            refine lv_dup hx hb dX3_readPerson_106 rfl ?_
            refine gX3_50 C hM (xt_19 hT) (f := (0, 0)) rfl (v := .int ((mx_si q87.2 23 (M.1 19 0).toNatClampNeg (q87.2.1 3 9)).1 19 0)) rfl dX3_readPerson_107 ?_
            refine lv_iconst (v := (1 : Int32)) hx hb dX3_readPerson_110 (by decide) ?_
            refine lv_iadd hx hb dX3_readPerson_111 ?_
            refine pX3_50 C hM (xt_19 hT) rfl rfl rfl dX3_readPerson_112 (fun H locs hM => ?_)
            refine lv_iconst (v := (1 : Int32)) hx hb dX3_readPerson_115 (by decide) ?_
            exact mx_zret C hM (b := true) rfl hf dX3_readPerson_116
          · replace hf := mx_ift hc90 hf
            refine lv_iconst (v := (0 : Int32)) hx hb dX3_readPerson_93 (by decide) ?_
            exact mx_zret C hM (b := false) rfl hf dX3_readPerson_94
        · replace hf := mx_ift hc68 hf
          refine lv_iconst (v := (0 : Int32)) hx hb dX3_readPerson_71 (by decide) ?_
          exact mx_zret C hM (b := false) rfl hf dX3_readPerson_72
      · replace hf := mx_ift hc46 hf
        refine lv_iconst (v := (0 : Int32)) hx hb dX3_readPerson_49 (by decide) ?_
        exact mx_zret C hM (b := false) rfl hf dX3_readPerson_50
  · replace hf := mx_iff hc8 hf
    refine lv_aload_n hx hb dX3_readPerson_11 rfl (lv_at hl 2 rfl) ?_
    refine lv_iconst (v := (4 : Int32)) hx hb dX3_readPerson_12 (by decide) ?_
    obtain ⟨q13, hq13, hf⟩ := mx_bd hf
    refine mx_callVN C hM hl.1 yo_X7_fail (h' := 0) (by decide) (nw_561 hT C) qw_563 qs_13 (ci := 7) (q := (RX7, TX7, 12)) rfl (xt_3 hT) (As := [.int (4 : Int32)]) (rest := []) (st1 := [.int (mx_b q13.1)]) (kX7_fail C.2.2.2.1 (4 : Int32) hT M hq13) rfl rfl rfl (Nat.le_of_ble_eq_true rfl) dX3_readPerson_13 (fun H locs hM => ?_)
    exact mx_zret C hM (b := q13.1) rfl hf dX3_readPerson_16
theorem dX3_readRing_0 : decode cX3_readRing 0 = .ok (.aload_n 0, 1) := by decide +kernel
theorem dX3_readRing_1 : decode cX3_readRing 1 = .ok (.getfield 53, 3) := by decide +kernel
theorem dX3_readRing_4 : decode cX3_readRing 4 = .ok (.istore_n 2, 1) := by decide +kernel
theorem dX3_readRing_5 : decode cX3_readRing 5 = .ok (.iload_n 2, 1) := by decide +kernel
theorem dX3_readRing_6 : decode cX3_readRing 6 = .ok (.bipush 7, 2) := by decide +kernel
theorem dX3_readRing_8 : decode cX3_readRing 8 = .ok (.if_icmp .lt 9, 3) := by decide +kernel
theorem dX3_readRing_11 : decode cX3_readRing 11 = .ok (.aload_n 1, 1) := by decide +kernel
theorem dX3_readRing_12 : decode cX3_readRing 12 = .ok (.iconst 4, 1) := by decide +kernel
theorem dX3_readRing_13 : decode cX3_readRing 13 = .ok (.invokevirtual 92, 3) := by decide +kernel
theorem dX3_readRing_16 : decode cX3_readRing 16 = .ok (.ireturn, 1) := by decide +kernel
theorem dX3_readRing_17 : decode cX3_readRing 17 = .ok (.aload_n 1, 1) := by decide +kernel
theorem dX3_readRing_18 : decode cX3_readRing 18 = .ok (.invokevirtual 125, 3) := by decide +kernel
theorem dX3_readRing_21 : decode cX3_readRing 21 = .ok (.aload_n 0, 1) := by decide +kernel
theorem dX3_readRing_22 : decode cX3_readRing 22 = .ok (.getfield 25, 3) := by decide +kernel
theorem dX3_readRing_25 : decode cX3_readRing 25 = .ok (.iload_n 2, 1) := by decide +kernel
theorem dX3_readRing_26 : decode cX3_readRing 26 = .ok (.aload_n 1, 1) := by decide +kernel
theorem dX3_readRing_27 : decode cX3_readRing 27 = .ok (.invokevirtual 128, 3) := by decide +kernel
theorem dX3_readRing_30 : decode cX3_readRing 30 = .ok (.lastore, 1) := by decide +kernel
theorem dX3_readRing_31 : decode cX3_readRing 31 = .ok (.aload_n 0, 1) := by decide +kernel
theorem dX3_readRing_32 : decode cX3_readRing 32 = .ok (.aload_n 1, 1) := by decide +kernel
theorem dX3_readRing_33 : decode cX3_readRing 33 = .ok (.invokevirtual 132, 3) := by decide +kernel
theorem dX3_readRing_36 : decode cX3_readRing 36 = .ok (.ifCond .eq 13, 3) := by decide +kernel
theorem dX3_readRing_39 : decode cX3_readRing 39 = .ok (.aload_n 1, 1) := by decide +kernel
theorem dX3_readRing_40 : decode cX3_readRing 40 = .ok (.iconst 1, 1) := by decide +kernel
theorem dX3_readRing_41 : decode cX3_readRing 41 = .ok (.bipush 20, 2) := by decide +kernel
theorem dX3_readRing_43 : decode cX3_readRing 43 = .ok (.invokevirtual 135, 3) := by decide +kernel
theorem dX3_readRing_46 : decode cX3_readRing 46 = .ok (.ifCond .ne 5, 3) := by decide +kernel
theorem dX3_readRing_49 : decode cX3_readRing 49 = .ok (.iconst 0, 1) := by decide +kernel
theorem dX3_readRing_50 : decode cX3_readRing 50 = .ok (.ireturn, 1) := by decide +kernel
theorem dX3_readRing_51 : decode cX3_readRing 51 = .ok (.aload_n 0, 1) := by decide +kernel
theorem dX3_readRing_52 : decode cX3_readRing 52 = .ok (.getfield 28, 3) := by decide +kernel
theorem dX3_readRing_55 : decode cX3_readRing 55 = .ok (.iload_n 2, 1) := by decide +kernel
theorem dX3_readRing_56 : decode cX3_readRing 56 = .ok (.aload_n 1, 1) := by decide +kernel
theorem dX3_readRing_57 : decode cX3_readRing 57 = .ok (.getfield 139, 3) := by decide +kernel
theorem dX3_readRing_60 : decode cX3_readRing 60 = .ok (.iastore, 1) := by decide +kernel
theorem dX3_readRing_61 : decode cX3_readRing 61 = .ok (.aload_n 1, 1) := by decide +kernel
theorem dX3_readRing_62 : decode cX3_readRing 62 = .ok (.aload_n 0, 1) := by decide +kernel
theorem dX3_readRing_63 : decode cX3_readRing 63 = .ok (.aload_n 1, 1) := by decide +kernel
theorem dX3_readRing_64 : decode cX3_readRing 64 = .ok (.invokevirtual 128, 3) := by decide +kernel
theorem dX3_readRing_67 : decode cX3_readRing 67 = .ok (.invokevirtual 142, 3) := by decide +kernel
theorem dX3_readRing_70 : decode cX3_readRing 70 = .ok (.invokevirtual 146, 3) := by decide +kernel
theorem dX3_readRing_73 : decode cX3_readRing 73 = .ok (.ifCond .ne 5, 3) := by decide +kernel
theorem dX3_readRing_76 : decode cX3_readRing 76 = .ok (.iconst 0, 1) := by decide +kernel
theorem dX3_readRing_77 : decode cX3_readRing 77 = .ok (.ireturn, 1) := by decide +kernel
theorem dX3_readRing_78 : decode cX3_readRing 78 = .ok (.aload_n 0, 1) := by decide +kernel
theorem dX3_readRing_79 : decode cX3_readRing 79 = .ok (.getfield 31, 3) := by decide +kernel
theorem dX3_readRing_82 : decode cX3_readRing 82 = .ok (.iload_n 2, 1) := by decide +kernel
theorem dX3_readRing_83 : decode cX3_readRing 83 = .ok (.aload_n 1, 1) := by decide +kernel
theorem dX3_readRing_84 : decode cX3_readRing 84 = .ok (.getfield 139, 3) := by decide +kernel
theorem dX3_readRing_87 : decode cX3_readRing 87 = .ok (.iastore, 1) := by decide +kernel
theorem dX3_readRing_88 : decode cX3_readRing 88 = .ok (.aload_n 1, 1) := by decide +kernel
theorem dX3_readRing_89 : decode cX3_readRing 89 = .ok (.aload_n 0, 1) := by decide +kernel
theorem dX3_readRing_90 : decode cX3_readRing 90 = .ok (.aload_n 1, 1) := by decide +kernel
theorem dX3_readRing_91 : decode cX3_readRing 91 = .ok (.invokevirtual 128, 3) := by decide +kernel
theorem dX3_readRing_94 : decode cX3_readRing 94 = .ok (.invokevirtual 142, 3) := by decide +kernel
theorem dX3_readRing_97 : decode cX3_readRing 97 = .ok (.invokevirtual 146, 3) := by decide +kernel
theorem dX3_readRing_100 : decode cX3_readRing 100 = .ok (.ifCond .ne 5, 3) := by decide +kernel
theorem dX3_readRing_103 : decode cX3_readRing 103 = .ok (.iconst 0, 1) := by decide +kernel
theorem dX3_readRing_104 : decode cX3_readRing 104 = .ok (.ireturn, 1) := by decide +kernel
theorem dX3_readRing_105 : decode cX3_readRing 105 = .ok (.aload_n 0, 1) := by decide +kernel
theorem dX3_readRing_106 : decode cX3_readRing 106 = .ok (.getfield 34, 3) := by decide +kernel
theorem dX3_readRing_109 : decode cX3_readRing 109 = .ok (.iload_n 2, 1) := by decide +kernel
theorem dX3_readRing_110 : decode cX3_readRing 110 = .ok (.aload_n 1, 1) := by decide +kernel
theorem dX3_readRing_111 : decode cX3_readRing 111 = .ok (.getfield 139, 3) := by decide +kernel
theorem dX3_readRing_114 : decode cX3_readRing 114 = .ok (.iastore, 1) := by decide +kernel
theorem dX3_readRing_115 : decode cX3_readRing 115 = .ok (.aload_n 1, 1) := by decide +kernel
theorem dX3_readRing_116 : decode cX3_readRing 116 = .ok (.iconst 0, 1) := by decide +kernel
theorem dX3_readRing_117 : decode cX3_readRing 117 = .ok (.sipush 300, 3) := by decide +kernel
theorem dX3_readRing_120 : decode cX3_readRing 120 = .ok (.invokevirtual 135, 3) := by decide +kernel
theorem dX3_readRing_123 : decode cX3_readRing 123 = .ok (.ifCond .ne 5, 3) := by decide +kernel
theorem dX3_readRing_126 : decode cX3_readRing 126 = .ok (.iconst 0, 1) := by decide +kernel
theorem dX3_readRing_127 : decode cX3_readRing 127 = .ok (.ireturn, 1) := by decide +kernel
theorem dX3_readRing_128 : decode cX3_readRing 128 = .ok (.aload_n 0, 1) := by decide +kernel
theorem dX3_readRing_129 : decode cX3_readRing 129 = .ok (.getfield 37, 3) := by decide +kernel
theorem dX3_readRing_132 : decode cX3_readRing 132 = .ok (.iload_n 2, 1) := by decide +kernel
theorem dX3_readRing_133 : decode cX3_readRing 133 = .ok (.aload_n 1, 1) := by decide +kernel
theorem dX3_readRing_134 : decode cX3_readRing 134 = .ok (.getfield 139, 3) := by decide +kernel
theorem dX3_readRing_137 : decode cX3_readRing 137 = .ok (.iastore, 1) := by decide +kernel
theorem dX3_readRing_138 : decode cX3_readRing 138 = .ok (.aload_n 0, 1) := by decide +kernel
theorem dX3_readRing_139 : decode cX3_readRing 139 = .ok (.dup, 1) := by decide +kernel
theorem dX3_readRing_140 : decode cX3_readRing 140 = .ok (.getfield 53, 3) := by decide +kernel
theorem dX3_readRing_143 : decode cX3_readRing 143 = .ok (.iconst 1, 1) := by decide +kernel
theorem dX3_readRing_144 : decode cX3_readRing 144 = .ok (.iadd, 1) := by decide +kernel
theorem dX3_readRing_145 : decode cX3_readRing 145 = .ok (.putfield 53, 3) := by decide +kernel
theorem dX3_readRing_148 : decode cX3_readRing 148 = .ok (.iconst 1, 1) := by decide +kernel
theorem dX3_readRing_149 : decode cX3_readRing 149 = .ok (.ireturn, 1) := by decide +kernel
set_option maxRecDepth 100000 in
set_option maxHeartbeats 4000000 in
theorem kX3_readRing {E : KE} {l : Launch} (hE : mx_ok E)  (hT : xOK E) (M : MM) {q : (Bool × MM)} (hf : fX3_readRing M = some q) : mx_Met E l yX3_readRing cX3_readRing 3 (some .boolean) 2 [.ref (E.2.1.2.1 19), .ref (E.2.1.2.1 3)] M (some (.int (mx_b q.1))) q.2 := by
  refine mx_enter hE (by decide) (Nat.le_of_ble_eq_true rfl) ?_
  intro p e s m below meth c C hM hn ls hl
  have hx := C.1.1
  have hb := C.1.2.1
  have hown := C.1.2.2.2.1
  have hts := C.1.2.2.2.2
  have hl : lv_has ls 3 [(0, .ref (E.2.1.2.1 19)), (1, .ref (E.2.1.2.1 3))] := hl
  rw [fX3_readRing] at hf
  refine lv_aload_n hx hb dX3_readRing_0 rfl (lv_at hl 0 rfl) ?_
  refine gX3_53 C hM (xt_19 hT) (f := (0, 0)) rfl (v := .int (M.1 19 1)) rfl dX3_readRing_1 ?_
  refine lv_istore_n (lv' := [(2, .int (M.1 19 1)), (0, .ref (E.2.1.2.1 19)), (1, .ref (E.2.1.2.1 3))]) hx hb dX3_readRing_4 rfl hl (by decide) rfl (fun ls hl => ?_)
  refine lv_iload_n hx hb dX3_readRing_5 rfl (lv_at hl 0 rfl) ?_
  refine lv_bipush (v := (7 : Int32)) hx hb dX3_readRing_6 (by decide) ?_
  refine lv_icmp_lt (tgt := 17) hx hb dX3_readRing_8 (by decide) (fun hc8 => ?_) (fun hc8 => ?_)
  · replace hf := mx_ift hc8 hf
    refine lv_aload_n hx hb dX3_readRing_17 rfl (lv_at hl 2 rfl) ?_
    obtain ⟨q18, hq18, hf⟩ := mx_bd hf
    refine mx_callVN C hM hl.1 yo_X7_advance (h' := 0) (by decide) (nw_565 hT C) qw_567 qs_14 (ci := 7) (q := (RX7, TX7, 12)) rfl (xt_3 hT) (As := []) (rest := []) (st1 := []) (kX7_advance C.2.2.2.1 hT M hq18) rfl rfl rfl (Nat.le_of_ble_eq_true rfl) dX3_readRing_18 (fun H locs hM => ?_)
    refine lv_aload_n hx hb dX3_readRing_21 rfl (lv_at hl 1 rfl) ?_
    refine gX3_25 C hM (xt_19 hT) (f := (2, 24)) rfl (v := .ref (E.2.1.2.1 24)) rfl dX3_readRing_22 ?_
    refine lv_iload_n hx hb dX3_readRing_25 rfl (lv_at hl 0 rfl) ?_
    refine lv_aload_n hx hb dX3_readRing_26 rfl (lv_at hl 2 rfl) ?_
    obtain ⟨q27, hq27, hf⟩ := mx_bd hf
    refine mx_callVN C hM hl.1 yo_X7_name (h' := 0) (by decide) (nw_569 hT C) qw_571 qs_15 (ci := 7) (q := (RX7, TX7, 12)) rfl (xt_3 hT) (As := []) (rest := [.int (M.1 19 1), .ref (E.2.1.2.1 24)]) (st1 := [.long q27, .int (M.1 19 1), .ref (E.2.1.2.1 24)]) (kX7_name C.2.2.2.1 hT q18 hq27) rfl rfl rfl (Nat.le_of_ble_eq_true rfl) dX3_readRing_27 (fun H locs hM => ?_)
    obtain ⟨hg30, hf⟩ := mx_gd hf
    refine mx_last C hM (xt_24 hT) (mx_in_vp hg30) dX3_readRing_30 (fun H locs hM => ?_)
    refine lv_aload_n hx hb dX3_readRing_31 rfl (lv_at hl 1 rfl) ?_
    refine lv_aload_n hx hb dX3_readRing_32 rfl (lv_at hl 2 rfl) ?_
    obtain ⟨q33, hq33, hf⟩ := mx_bd hf
    refine mx_callV C hM hl.1 yo_X3_takeNewName (h' := 1) (by decide) qw_573 qw_575 qs_16 (ci := 3) (q := (RX3, TX3, 18)) rfl (xt_19 hT) (As := [.ref (E.2.1.2.1 3)]) (rest := []) (st1 := [.int (mx_b q33.1)]) (kX3_takeNewName C.2.2.2.1 hT (mx_sl q18 24 (M.1 19 1).toNatClampNeg q27) hq33) rfl rfl rfl (Nat.le_of_ble_eq_true rfl) dX3_readRing_33 (fun H locs hM => ?_)
    refine lv_if_eq (tgt := 49) hx hb dX3_readRing_36 (by decide) (fun hc36 => ?_) (fun hc36 => ?_)
    · replace hf := mx_ift hc36 hf
      refine lv_iconst (v := (0 : Int32)) hx hb dX3_readRing_49 (by decide) ?_
      exact mx_zret C hM (b := false) rfl hf dX3_readRing_50
    · replace hf := mx_iff hc36 hf
      refine lv_aload_n hx hb dX3_readRing_39 rfl (lv_at hl 2 rfl) ?_
      refine lv_iconst (v := (1 : Int32)) hx hb dX3_readRing_40 (by decide) ?_
      refine lv_bipush (v := (20 : Int32)) hx hb dX3_readRing_41 (by decide) ?_
      obtain ⟨q43, hq43, hf⟩ := mx_bd hf
      refine mx_callVN C hM hl.1 yo_X7_takeNumber (h' := 1) (by decide) (nw_585 hT C) qw_587 qs_19 (ci := 7) (q := (RX7, TX7, 12)) rfl (xt_3 hT) (As := [.int (1 : Int32), .int (20 : Int32)]) (rest := []) (st1 := [.int (mx_b q43.1)]) (kX7_takeNumber C.2.2.2.1 (1 : Int32) (20 : Int32) hT q33.2 hq43) rfl rfl rfl (Nat.le_of_ble_eq_true rfl) dX3_readRing_43 (fun H locs hM => ?_)
      refine lv_if_ne (tgt := 51) hx hb dX3_readRing_46 (by decide) (fun hc46 => ?_) (fun hc46 => ?_)
      · replace hf := mx_iff hc46 hf
        refine lv_aload_n hx hb dX3_readRing_51 rfl (lv_at hl 1 rfl) ?_
        refine gX3_28 C hM (xt_19 hT) (f := (2, 25)) rfl (v := .ref (E.2.1.2.1 25)) rfl dX3_readRing_52 ?_
        refine lv_iload_n hx hb dX3_readRing_55 rfl (lv_at hl 0 rfl) ?_
        refine lv_aload_n hx hb dX3_readRing_56 rfl (lv_at hl 2 rfl) ?_
        refine gX3_139 C hT hM (xt_3 hT) (f := (0, 0)) rfl (v := .int (q43.2.1 3 9)) rfl dX3_readRing_57 ?_
        obtain ⟨hg60, hf⟩ := mx_gd hf
        refine mx_iast C hM (xt_25 hT) (mx_in_vp hg60) dX3_readRing_60 (fun H locs hM => ?_)
        refine lv_aload_n hx hb dX3_readRing_61 rfl (lv_at hl 2 rfl) ?_
        refine lv_aload_n hx hb dX3_readRing_62 rfl (lv_at hl 1 rfl) ?_
        refine lv_aload_n hx hb dX3_readRing_63 rfl (lv_at hl 2 rfl) ?_
        obtain ⟨q64, hq64, hf⟩ := mx_bd hf
        refine mx_callVN C hM hl.1 yo_X7_name (h' := 0) (by decide) (nw_569 hT C) qw_571 qs_15 (ci := 7) (q := (RX7, TX7, 12)) rfl (xt_3 hT) (As := []) (rest := [.ref (E.2.1.2.1 19), .ref (E.2.1.2.1 3)]) (st1 := [.long q64, .ref (E.2.1.2.1 19), .ref (E.2.1.2.1 3)]) (kX7_name C.2.2.2.1 hT (mx_si q43.2 25 (M.1 19 1).toNatClampNeg (q43.2.1 3 9)) hq64) rfl rfl rfl (Nat.le_of_ble_eq_true rfl) dX3_readRing_64 (fun H locs hM => ?_)
        obtain ⟨q67, hq67, hf⟩ := mx_bd hf
        refine mx_callV C hM hl.1 yo_X3_personNamed (h' := 0) (by decide) qw_577 qw_579 qs_17 (ci := 3) (q := (RX3, TX3, 18)) rfl (xt_19 hT) (As := [.long q64]) (rest := [.ref (E.2.1.2.1 3)]) (st1 := [.int q67, .ref (E.2.1.2.1 3)]) (kX3_personNamed C.2.2.2.1 19 q64 hT xiI_19 (mx_si q43.2 25 (M.1 19 1).toNatClampNeg (q43.2.1 3 9)) hq67) rfl rfl rfl (Nat.le_of_ble_eq_true rfl) dX3_readRing_67 (fun H locs hM => ?_)
        obtain ⟨q70, hq70, hf⟩ := mx_bd hf
        refine mx_callVN C hM hl.1 yo_X7_takeNamed (h' := 1) (by decide) (nw_595 hT C) qw_597 qs_21 (ci := 7) (q := (RX7, TX7, 12)) rfl (xt_3 hT) (As := [.int q67]) (rest := []) (st1 := [.int (mx_b q70.1)]) (kX7_takeNamed C.2.2.2.1 q67 hT (mx_si q43.2 25 (M.1 19 1).toNatClampNeg (q43.2.1 3 9)) hq70) rfl rfl rfl (Nat.le_of_ble_eq_true rfl) dX3_readRing_70 (fun H locs hM => ?_)
        refine lv_if_ne (tgt := 78) hx hb dX3_readRing_73 (by decide) (fun hc73 => ?_) (fun hc73 => ?_)
        · replace hf := mx_iff hc73 hf
          refine lv_aload_n hx hb dX3_readRing_78 rfl (lv_at hl 1 rfl) ?_
          refine gX3_31 C hM (xt_19 hT) (f := (2, 26)) rfl (v := .ref (E.2.1.2.1 26)) rfl dX3_readRing_79 ?_
          refine lv_iload_n hx hb dX3_readRing_82 rfl (lv_at hl 0 rfl) ?_
          refine lv_aload_n hx hb dX3_readRing_83 rfl (lv_at hl 2 rfl) ?_
          refine gX3_139 C hT hM (xt_3 hT) (f := (0, 0)) rfl (v := .int (q70.2.1 3 9)) rfl dX3_readRing_84 ?_
          obtain ⟨hg87, hf⟩ := mx_gd hf
          refine mx_iast C hM (xt_26 hT) (mx_in_vp hg87) dX3_readRing_87 (fun H locs hM => ?_)
          refine lv_aload_n hx hb dX3_readRing_88 rfl (lv_at hl 2 rfl) ?_
          refine lv_aload_n hx hb dX3_readRing_89 rfl (lv_at hl 1 rfl) ?_
          refine lv_aload_n hx hb dX3_readRing_90 rfl (lv_at hl 2 rfl) ?_
          obtain ⟨q91, hq91, hf⟩ := mx_bd hf
          refine mx_callVN C hM hl.1 yo_X7_name (h' := 0) (by decide) (nw_569 hT C) qw_571 qs_15 (ci := 7) (q := (RX7, TX7, 12)) rfl (xt_3 hT) (As := []) (rest := [.ref (E.2.1.2.1 19), .ref (E.2.1.2.1 3)]) (st1 := [.long q91, .ref (E.2.1.2.1 19), .ref (E.2.1.2.1 3)]) (kX7_name C.2.2.2.1 hT (mx_si q70.2 26 (M.1 19 1).toNatClampNeg (q70.2.1 3 9)) hq91) rfl rfl rfl (Nat.le_of_ble_eq_true rfl) dX3_readRing_91 (fun H locs hM => ?_)
          obtain ⟨q94, hq94, hf⟩ := mx_bd hf
          refine mx_callV C hM hl.1 yo_X3_personNamed (h' := 0) (by decide) qw_577 qw_579 qs_17 (ci := 3) (q := (RX3, TX3, 18)) rfl (xt_19 hT) (As := [.long q91]) (rest := [.ref (E.2.1.2.1 3)]) (st1 := [.int q94, .ref (E.2.1.2.1 3)]) (kX3_personNamed C.2.2.2.1 19 q91 hT xiI_19 (mx_si q70.2 26 (M.1 19 1).toNatClampNeg (q70.2.1 3 9)) hq94) rfl rfl rfl (Nat.le_of_ble_eq_true rfl) dX3_readRing_94 (fun H locs hM => ?_)
          obtain ⟨q97, hq97, hf⟩ := mx_bd hf
          refine mx_callVN C hM hl.1 yo_X7_takeNamed (h' := 1) (by decide) (nw_595 hT C) qw_597 qs_21 (ci := 7) (q := (RX7, TX7, 12)) rfl (xt_3 hT) (As := [.int q94]) (rest := []) (st1 := [.int (mx_b q97.1)]) (kX7_takeNamed C.2.2.2.1 q94 hT (mx_si q70.2 26 (M.1 19 1).toNatClampNeg (q70.2.1 3 9)) hq97) rfl rfl rfl (Nat.le_of_ble_eq_true rfl) dX3_readRing_97 (fun H locs hM => ?_)
          refine lv_if_ne (tgt := 105) hx hb dX3_readRing_100 (by decide) (fun hc100 => ?_) (fun hc100 => ?_)
          · replace hf := mx_iff hc100 hf
            refine lv_aload_n hx hb dX3_readRing_105 rfl (lv_at hl 1 rfl) ?_
            refine gX3_34 C hM (xt_19 hT) (f := (2, 27)) rfl (v := .ref (E.2.1.2.1 27)) rfl dX3_readRing_106 ?_
            refine lv_iload_n hx hb dX3_readRing_109 rfl (lv_at hl 0 rfl) ?_
            refine lv_aload_n hx hb dX3_readRing_110 rfl (lv_at hl 2 rfl) ?_
            refine gX3_139 C hT hM (xt_3 hT) (f := (0, 0)) rfl (v := .int (q97.2.1 3 9)) rfl dX3_readRing_111 ?_
            obtain ⟨hg114, hf⟩ := mx_gd hf
            refine mx_iast C hM (xt_27 hT) (mx_in_vp hg114) dX3_readRing_114 (fun H locs hM => ?_)
            refine lv_aload_n hx hb dX3_readRing_115 rfl (lv_at hl 2 rfl) ?_
            refine lv_iconst (v := (0 : Int32)) hx hb dX3_readRing_116 (by decide) ?_
            refine lv_sipush (v := (300 : Int32)) hx hb dX3_readRing_117 (by decide) ?_
            obtain ⟨q120, hq120, hf⟩ := mx_bd hf
            refine mx_callVN C hM hl.1 yo_X7_takeNumber (h' := 1) (by decide) (nw_585 hT C) qw_587 qs_19 (ci := 7) (q := (RX7, TX7, 12)) rfl (xt_3 hT) (As := [.int (0 : Int32), .int (300 : Int32)]) (rest := []) (st1 := [.int (mx_b q120.1)]) (kX7_takeNumber C.2.2.2.1 (0 : Int32) (300 : Int32) hT (mx_si q97.2 27 (M.1 19 1).toNatClampNeg (q97.2.1 3 9)) hq120) rfl rfl rfl (Nat.le_of_ble_eq_true rfl) dX3_readRing_120 (fun H locs hM => ?_)
            refine lv_if_ne (tgt := 128) hx hb dX3_readRing_123 (by decide) (fun hc123 => ?_) (fun hc123 => ?_)
            · replace hf := mx_iff hc123 hf
              refine lv_aload_n hx hb dX3_readRing_128 rfl (lv_at hl 1 rfl) ?_
              refine gX3_37 C hM (xt_19 hT) (f := (2, 28)) rfl (v := .ref (E.2.1.2.1 28)) rfl dX3_readRing_129 ?_
              refine lv_iload_n hx hb dX3_readRing_132 rfl (lv_at hl 0 rfl) ?_
              refine lv_aload_n hx hb dX3_readRing_133 rfl (lv_at hl 2 rfl) ?_
              refine gX3_139 C hT hM (xt_3 hT) (f := (0, 0)) rfl (v := .int (q120.2.1 3 9)) rfl dX3_readRing_134 ?_
              obtain ⟨hg137, hf⟩ := mx_gd hf
              refine mx_iast C hM (xt_28 hT) (mx_in_vp hg137) dX3_readRing_137 (fun H locs hM => ?_)
              refine lv_aload_n hx hb dX3_readRing_138 rfl (lv_at hl 1 rfl) ?_
              refine lv_dup hx hb dX3_readRing_139 rfl ?_
              refine gX3_53 C hM (xt_19 hT) (f := (0, 0)) rfl (v := .int ((mx_si q120.2 28 (M.1 19 1).toNatClampNeg (q120.2.1 3 9)).1 19 1)) rfl dX3_readRing_140 ?_
              refine lv_iconst (v := (1 : Int32)) hx hb dX3_readRing_143 (by decide) ?_
              refine lv_iadd hx hb dX3_readRing_144 ?_
              refine pX3_53 C hM (xt_19 hT) rfl rfl rfl dX3_readRing_145 (fun H locs hM => ?_)
              refine lv_iconst (v := (1 : Int32)) hx hb dX3_readRing_148 (by decide) ?_
              exact mx_zret C hM (b := true) rfl hf dX3_readRing_149
            · replace hf := mx_ift hc123 hf
              refine lv_iconst (v := (0 : Int32)) hx hb dX3_readRing_126 (by decide) ?_
              exact mx_zret C hM (b := false) rfl hf dX3_readRing_127
          · replace hf := mx_ift hc100 hf
            refine lv_iconst (v := (0 : Int32)) hx hb dX3_readRing_103 (by decide) ?_
            exact mx_zret C hM (b := false) rfl hf dX3_readRing_104
        · replace hf := mx_ift hc73 hf
          refine lv_iconst (v := (0 : Int32)) hx hb dX3_readRing_76 (by decide) ?_
          exact mx_zret C hM (b := false) rfl hf dX3_readRing_77
      · replace hf := mx_ift hc46 hf
        refine lv_iconst (v := (0 : Int32)) hx hb dX3_readRing_49 (by decide) ?_
        exact mx_zret C hM (b := false) rfl hf dX3_readRing_50
  · replace hf := mx_iff hc8 hf
    refine lv_aload_n hx hb dX3_readRing_11 rfl (lv_at hl 2 rfl) ?_
    refine lv_iconst (v := (4 : Int32)) hx hb dX3_readRing_12 (by decide) ?_
    obtain ⟨q13, hq13, hf⟩ := mx_bd hf
    refine mx_callVN C hM hl.1 yo_X7_fail (h' := 0) (by decide) (nw_561 hT C) qw_563 qs_13 (ci := 7) (q := (RX7, TX7, 12)) rfl (xt_3 hT) (As := [.int (4 : Int32)]) (rest := []) (st1 := [.int (mx_b q13.1)]) (kX7_fail C.2.2.2.1 (4 : Int32) hT M hq13) rfl rfl rfl (Nat.le_of_ble_eq_true rfl) dX3_readRing_13 (fun H locs hM => ?_)
    exact mx_zret C hM (b := q13.1) rfl hf dX3_readRing_16
theorem dX3_takeOnce_0 : decode cX3_takeOnce 0 = .ok (.iload_n 1, 1) := by decide +kernel
theorem dX3_takeOnce_1 : decode cX3_takeOnce 1 = .ok (.ifCond .eq 9, 3) := by decide +kernel
theorem dX3_takeOnce_4 : decode cX3_takeOnce 4 = .ok (.aload_n 0, 1) := by decide +kernel
theorem dX3_takeOnce_5 : decode cX3_takeOnce 5 = .ok (.iconst 3, 1) := by decide +kernel
theorem dX3_takeOnce_6 : decode cX3_takeOnce 6 = .ok (.invokevirtual 92, 3) := by decide +kernel
theorem dX3_takeOnce_9 : decode cX3_takeOnce 9 = .ok (.ireturn, 1) := by decide +kernel
theorem dX3_takeOnce_10 : decode cX3_takeOnce 10 = .ok (.aload_n 0, 1) := by decide +kernel
theorem dX3_takeOnce_11 : decode cX3_takeOnce 11 = .ok (.invokevirtual 125, 3) := by decide +kernel
theorem dX3_takeOnce_14 : decode cX3_takeOnce 14 = .ok (.aload_n 0, 1) := by decide +kernel
theorem dX3_takeOnce_15 : decode cX3_takeOnce 15 = .ok (.iload_n 2, 1) := by decide +kernel
theorem dX3_takeOnce_16 : decode cX3_takeOnce 16 = .ok (.iload_n 3, 1) := by decide +kernel
theorem dX3_takeOnce_17 : decode cX3_takeOnce 17 = .ok (.invokevirtual 135, 3) := by decide +kernel
theorem dX3_takeOnce_20 : decode cX3_takeOnce 20 = .ok (.ireturn, 1) := by decide +kernel
set_option maxRecDepth 100000 in
set_option maxHeartbeats 4000000 in
theorem kX3_takeOnce {E : KE} {l : Launch} (hE : mx_ok E) (i1 : Int32) (i2 : Int32) (i3 : Int32) (hT : xOK E) (M : MM) {q : (Bool × MM)} (hf : fX3_takeOnce i1 i2 i3 M = some q) : mx_Met E l yX3_takeOnce cX3_takeOnce 4 (some .boolean) 2 [.ref (E.2.1.2.1 3), .int i1, .int i2, .int i3] M (some (.int (mx_b q.1))) q.2 := by
  refine mx_enter hE (by decide) (Nat.le_of_ble_eq_true rfl) ?_
  intro p e s m below meth c C hM hn ls hl
  have hx := C.1.1
  have hb := C.1.2.1
  have hown := C.1.2.2.2.1
  have hts := C.1.2.2.2.2
  have hl : lv_has ls 4 [(0, .ref (E.2.1.2.1 3)), (1, .int i1), (2, .int i2), (3, .int i3)] := hl
  rw [fX3_takeOnce] at hf
  refine lv_iload_n hx hb dX3_takeOnce_0 rfl (lv_at hl 1 rfl) ?_
  refine lv_if_eq (tgt := 10) hx hb dX3_takeOnce_1 (by decide) (fun hc1 => ?_) (fun hc1 => ?_)
  · replace hf := mx_ift hc1 hf
    refine lv_aload_n hx hb dX3_takeOnce_10 rfl (lv_at hl 0 rfl) ?_
    obtain ⟨q11, hq11, hf⟩ := mx_bd hf
    refine mx_callVN C hM hl.1 yo_X7_advance (h' := 0) (by decide) (nw_565 hT C) qw_567 qs_14 (ci := 7) (q := (RX7, TX7, 12)) rfl (xt_3 hT) (As := []) (rest := []) (st1 := []) (kX7_advance C.2.2.2.1 hT M hq11) rfl rfl rfl (Nat.le_of_ble_eq_true rfl) dX3_takeOnce_11 (fun H locs hM => ?_)
    refine lv_aload_n hx hb dX3_takeOnce_14 rfl (lv_at hl 0 rfl) ?_
    refine lv_iload_n hx hb dX3_takeOnce_15 rfl (lv_at hl 2 rfl) ?_
    refine lv_iload_n hx hb dX3_takeOnce_16 rfl (lv_at hl 3 rfl) ?_
    obtain ⟨q17, hq17, hf⟩ := mx_bd hf
    refine mx_callVN C hM hl.1 yo_X7_takeNumber (h' := 1) (by decide) (nw_585 hT C) qw_587 qs_19 (ci := 7) (q := (RX7, TX7, 12)) rfl (xt_3 hT) (As := [.int i2, .int i3]) (rest := []) (st1 := [.int (mx_b q17.1)]) (kX7_takeNumber C.2.2.2.1 i2 i3 hT q11 hq17) rfl rfl rfl (Nat.le_of_ble_eq_true rfl) dX3_takeOnce_17 (fun H locs hM => ?_)
    exact mx_zret C hM (b := q17.1) rfl hf dX3_takeOnce_20
  · replace hf := mx_iff hc1 hf
    refine lv_aload_n hx hb dX3_takeOnce_4 rfl (lv_at hl 0 rfl) ?_
    refine lv_iconst (v := (3 : Int32)) hx hb dX3_takeOnce_5 (by decide) ?_
    obtain ⟨q6, hq6, hf⟩ := mx_bd hf
    refine mx_callVN C hM hl.1 yo_X7_fail (h' := 0) (by decide) (nw_561 hT C) qw_563 qs_13 (ci := 7) (q := (RX7, TX7, 12)) rfl (xt_3 hT) (As := [.int (3 : Int32)]) (rest := []) (st1 := [.int (mx_b q6.1)]) (kX7_fail C.2.2.2.1 (3 : Int32) hT M hq6) rfl rfl rfl (Nat.le_of_ble_eq_true rfl) dX3_takeOnce_6 (fun H locs hM => ?_)
    exact mx_zret C hM (b := q6.1) rfl hf dX3_takeOnce_9
theorem dX3_readFit_0 : decode cX3_readFit 0 = .ok (.aload_n 1, 1) := by decide +kernel
theorem dX3_readFit_1 : decode cX3_readFit 1 = .ok (.aload_n 0, 1) := by decide +kernel
theorem dX3_readFit_2 : decode cX3_readFit 2 = .ok (.getfield 65, 3) := by decide +kernel
theorem dX3_readFit_5 : decode cX3_readFit 5 = .ok (.iconst 0, 1) := by decide +kernel
theorem dX3_readFit_6 : decode cX3_readFit 6 = .ok (.iconst 5, 1) := by decide +kernel
theorem dX3_readFit_7 : decode cX3_readFit 7 = .ok (.invokestatic 152, 3) := by decide +kernel
theorem dX3_readFit_10 : decode cX3_readFit 10 = .ok (.ifCond .ne 5, 3) := by decide +kernel
theorem dX3_readFit_13 : decode cX3_readFit 13 = .ok (.iconst 0, 1) := by decide +kernel
theorem dX3_readFit_14 : decode cX3_readFit 14 = .ok (.ireturn, 1) := by decide +kernel
theorem dX3_readFit_15 : decode cX3_readFit 15 = .ok (.aload_n 0, 1) := by decide +kernel
theorem dX3_readFit_16 : decode cX3_readFit 16 = .ok (.iconst 1, 1) := by decide +kernel
theorem dX3_readFit_17 : decode cX3_readFit 17 = .ok (.putfield 65, 3) := by decide +kernel
theorem dX3_readFit_20 : decode cX3_readFit 20 = .ok (.aload_n 0, 1) := by decide +kernel
theorem dX3_readFit_21 : decode cX3_readFit 21 = .ok (.aload_n 1, 1) := by decide +kernel
theorem dX3_readFit_22 : decode cX3_readFit 22 = .ok (.getfield 139, 3) := by decide +kernel
theorem dX3_readFit_25 : decode cX3_readFit 25 = .ok (.putfield 40, 3) := by decide +kernel
theorem dX3_readFit_28 : decode cX3_readFit 28 = .ok (.iconst 1, 1) := by decide +kernel
theorem dX3_readFit_29 : decode cX3_readFit 29 = .ok (.ireturn, 1) := by decide +kernel
set_option maxRecDepth 100000 in
set_option maxHeartbeats 4000000 in
theorem kX3_readFit {E : KE} {l : Launch} (hE : mx_ok E)  (hT : xOK E) (M : MM) {q : (Bool × MM)} (hf : fX3_readFit M = some q) : mx_Met E l yX3_readFit cX3_readFit 2 (some .boolean) 3 [.ref (E.2.1.2.1 19), .ref (E.2.1.2.1 3)] M (some (.int (mx_b q.1))) q.2 := by
  refine mx_enter hE (by decide) (Nat.le_of_ble_eq_true rfl) ?_
  intro p e s m below meth c C hM hn ls hl
  have hx := C.1.1
  have hb := C.1.2.1
  have hown := C.1.2.2.2.1
  have hts := C.1.2.2.2.2
  have hl : lv_has ls 2 [(0, .ref (E.2.1.2.1 19)), (1, .ref (E.2.1.2.1 3))] := hl
  rw [fX3_readFit] at hf
  refine lv_aload_n hx hb dX3_readFit_0 rfl (lv_at hl 1 rfl) ?_
  refine lv_aload_n hx hb dX3_readFit_1 rfl (lv_at hl 0 rfl) ?_
  refine gX3_65 C hM (xt_19 hT) (f := (0, 0)) rfl (v := .int (M.1 19 15)) rfl dX3_readFit_2 ?_
  refine lv_iconst (v := (0 : Int32)) hx hb dX3_readFit_5 (by decide) ?_
  refine lv_iconst (v := (5 : Int32)) hx hb dX3_readFit_6 (by decide) ?_
  obtain ⟨q7, hq7, hf⟩ := mx_bd hf
  refine mx_callS C hM hl.1 yo_X3_takeOnce (h' := 2) (by decide) qw_603 qw_604 (As := [.ref (E.2.1.2.1 3), .int (M.1 19 15), .int (0 : Int32), .int (5 : Int32)]) (rest := []) (st1 := [.int (mx_b q7.1)]) (kX3_takeOnce C.2.2.2.1 (M.1 19 15) (0 : Int32) (5 : Int32) hT M hq7) rfl rfl rfl (Nat.le_of_ble_eq_true rfl) dX3_readFit_7 (fun H locs hM => ?_)
  refine lv_if_ne (tgt := 15) hx hb dX3_readFit_10 (by decide) (fun hc10 => ?_) (fun hc10 => ?_)
  · replace hf := mx_iff hc10 hf
    refine lv_aload_n hx hb dX3_readFit_15 rfl (lv_at hl 0 rfl) ?_
    refine lv_iconst (v := (1 : Int32)) hx hb dX3_readFit_16 (by decide) ?_
    refine pX3_65 C hM (xt_19 hT) rfl (by decide) (by decide) dX3_readFit_17 (fun H locs hM => ?_)
    refine lv_aload_n hx hb dX3_readFit_20 rfl (lv_at hl 0 rfl) ?_
    refine lv_aload_n hx hb dX3_readFit_21 rfl (lv_at hl 1 rfl) ?_
    refine gX3_139 C hT hM (xt_3 hT) (f := (0, 0)) rfl (v := .int ((mx_si q7.2 19 15 (1 : Int32)).1 3 9)) rfl dX3_readFit_22 ?_
    refine pX3_40 C hM (xt_19 hT) rfl rfl rfl dX3_readFit_25 (fun H locs hM => ?_)
    refine lv_iconst (v := (1 : Int32)) hx hb dX3_readFit_28 (by decide) ?_
    exact mx_zret C hM (b := true) rfl hf dX3_readFit_29
  · replace hf := mx_ift hc10 hf
    refine lv_iconst (v := (0 : Int32)) hx hb dX3_readFit_13 (by decide) ?_
    exact mx_zret C hM (b := false) rfl hf dX3_readFit_14
theorem dX3_readWalk_0 : decode cX3_readWalk 0 = .ok (.aload_n 1, 1) := by decide +kernel
theorem dX3_readWalk_1 : decode cX3_readWalk 1 = .ok (.aload_n 0, 1) := by decide +kernel
theorem dX3_readWalk_2 : decode cX3_readWalk 2 = .ok (.getfield 69, 3) := by decide +kernel
theorem dX3_readWalk_5 : decode cX3_readWalk 5 = .ok (.iconst 1, 1) := by decide +kernel
theorem dX3_readWalk_6 : decode cX3_readWalk 6 = .ok (.bipush 20, 2) := by decide +kernel
theorem dX3_readWalk_8 : decode cX3_readWalk 8 = .ok (.invokestatic 152, 3) := by decide +kernel
theorem dX3_readWalk_11 : decode cX3_readWalk 11 = .ok (.ifCond .ne 5, 3) := by decide +kernel
theorem dX3_readWalk_14 : decode cX3_readWalk 14 = .ok (.iconst 0, 1) := by decide +kernel
theorem dX3_readWalk_15 : decode cX3_readWalk 15 = .ok (.ireturn, 1) := by decide +kernel
theorem dX3_readWalk_16 : decode cX3_readWalk 16 = .ok (.aload_n 0, 1) := by decide +kernel
theorem dX3_readWalk_17 : decode cX3_readWalk 17 = .ok (.iconst 1, 1) := by decide +kernel
theorem dX3_readWalk_18 : decode cX3_readWalk 18 = .ok (.putfield 69, 3) := by decide +kernel
theorem dX3_readWalk_21 : decode cX3_readWalk 21 = .ok (.aload_n 0, 1) := by decide +kernel
theorem dX3_readWalk_22 : decode cX3_readWalk 22 = .ok (.aload_n 1, 1) := by decide +kernel
theorem dX3_readWalk_23 : decode cX3_readWalk 23 = .ok (.getfield 139, 3) := by decide +kernel
theorem dX3_readWalk_26 : decode cX3_readWalk 26 = .ok (.putfield 44, 3) := by decide +kernel
theorem dX3_readWalk_29 : decode cX3_readWalk 29 = .ok (.iconst 1, 1) := by decide +kernel
theorem dX3_readWalk_30 : decode cX3_readWalk 30 = .ok (.ireturn, 1) := by decide +kernel
set_option maxRecDepth 100000 in
set_option maxHeartbeats 4000000 in
theorem kX3_readWalk {E : KE} {l : Launch} (hE : mx_ok E)  (hT : xOK E) (M : MM) {q : (Bool × MM)} (hf : fX3_readWalk M = some q) : mx_Met E l yX3_readWalk cX3_readWalk 2 (some .boolean) 3 [.ref (E.2.1.2.1 19), .ref (E.2.1.2.1 3)] M (some (.int (mx_b q.1))) q.2 := by
  refine mx_enter hE (by decide) (Nat.le_of_ble_eq_true rfl) ?_
  intro p e s m below meth c C hM hn ls hl
  have hx := C.1.1
  have hb := C.1.2.1
  have hown := C.1.2.2.2.1
  have hts := C.1.2.2.2.2
  have hl : lv_has ls 2 [(0, .ref (E.2.1.2.1 19)), (1, .ref (E.2.1.2.1 3))] := hl
  rw [fX3_readWalk] at hf
  refine lv_aload_n hx hb dX3_readWalk_0 rfl (lv_at hl 1 rfl) ?_
  refine lv_aload_n hx hb dX3_readWalk_1 rfl (lv_at hl 0 rfl) ?_
  refine gX3_69 C hM (xt_19 hT) (f := (0, 0)) rfl (v := .int (M.1 19 16)) rfl dX3_readWalk_2 ?_
  refine lv_iconst (v := (1 : Int32)) hx hb dX3_readWalk_5 (by decide) ?_
  refine lv_bipush (v := (20 : Int32)) hx hb dX3_readWalk_6 (by decide) ?_
  obtain ⟨q8, hq8, hf⟩ := mx_bd hf
  refine mx_callS C hM hl.1 yo_X3_takeOnce (h' := 2) (by decide) qw_603 qw_604 (As := [.ref (E.2.1.2.1 3), .int (M.1 19 16), .int (1 : Int32), .int (20 : Int32)]) (rest := []) (st1 := [.int (mx_b q8.1)]) (kX3_takeOnce C.2.2.2.1 (M.1 19 16) (1 : Int32) (20 : Int32) hT M hq8) rfl rfl rfl (Nat.le_of_ble_eq_true rfl) dX3_readWalk_8 (fun H locs hM => ?_)
  refine lv_if_ne (tgt := 16) hx hb dX3_readWalk_11 (by decide) (fun hc11 => ?_) (fun hc11 => ?_)
  · replace hf := mx_iff hc11 hf
    refine lv_aload_n hx hb dX3_readWalk_16 rfl (lv_at hl 0 rfl) ?_
    refine lv_iconst (v := (1 : Int32)) hx hb dX3_readWalk_17 (by decide) ?_
    refine pX3_69 C hM (xt_19 hT) rfl (by decide) (by decide) dX3_readWalk_18 (fun H locs hM => ?_)
    refine lv_aload_n hx hb dX3_readWalk_21 rfl (lv_at hl 0 rfl) ?_
    refine lv_aload_n hx hb dX3_readWalk_22 rfl (lv_at hl 1 rfl) ?_
    refine gX3_139 C hT hM (xt_3 hT) (f := (0, 0)) rfl (v := .int ((mx_si q8.2 19 16 (1 : Int32)).1 3 9)) rfl dX3_readWalk_23 ?_
    refine pX3_44 C hM (xt_19 hT) rfl rfl rfl dX3_readWalk_26 (fun H locs hM => ?_)
    refine lv_iconst (v := (1 : Int32)) hx hb dX3_readWalk_29 (by decide) ?_
    exact mx_zret C hM (b := true) rfl hf dX3_readWalk_30
  · replace hf := mx_ift hc11 hf
    refine lv_iconst (v := (0 : Int32)) hx hb dX3_readWalk_14 (by decide) ?_
    exact mx_zret C hM (b := false) rfl hf dX3_readWalk_15
theorem dX3_readJingle_0 : decode cX3_readJingle 0 = .ok (.aload_n 1, 1) := by decide +kernel
theorem dX3_readJingle_1 : decode cX3_readJingle 1 = .ok (.aload_n 0, 1) := by decide +kernel
theorem dX3_readJingle_2 : decode cX3_readJingle 2 = .ok (.getfield 72, 3) := by decide +kernel
theorem dX3_readJingle_5 : decode cX3_readJingle 5 = .ok (.iconst 2, 1) := by decide +kernel
theorem dX3_readJingle_6 : decode cX3_readJingle 6 = .ok (.bipush 9, 2) := by decide +kernel
theorem dX3_readJingle_8 : decode cX3_readJingle 8 = .ok (.invokestatic 152, 3) := by decide +kernel
theorem dX3_readJingle_11 : decode cX3_readJingle 11 = .ok (.ifCond .ne 5, 3) := by decide +kernel
theorem dX3_readJingle_14 : decode cX3_readJingle 14 = .ok (.iconst 0, 1) := by decide +kernel
theorem dX3_readJingle_15 : decode cX3_readJingle 15 = .ok (.ireturn, 1) := by decide +kernel
theorem dX3_readJingle_16 : decode cX3_readJingle 16 = .ok (.aload_n 0, 1) := by decide +kernel
theorem dX3_readJingle_17 : decode cX3_readJingle 17 = .ok (.iconst 1, 1) := by decide +kernel
theorem dX3_readJingle_18 : decode cX3_readJingle 18 = .ok (.putfield 72, 3) := by decide +kernel
theorem dX3_readJingle_21 : decode cX3_readJingle 21 = .ok (.aload_n 0, 1) := by decide +kernel
theorem dX3_readJingle_22 : decode cX3_readJingle 22 = .ok (.aload_n 1, 1) := by decide +kernel
theorem dX3_readJingle_23 : decode cX3_readJingle 23 = .ok (.getfield 139, 3) := by decide +kernel
theorem dX3_readJingle_26 : decode cX3_readJingle 26 = .ok (.putfield 47, 3) := by decide +kernel
theorem dX3_readJingle_29 : decode cX3_readJingle 29 = .ok (.iconst 1, 1) := by decide +kernel
theorem dX3_readJingle_30 : decode cX3_readJingle 30 = .ok (.ireturn, 1) := by decide +kernel
set_option maxRecDepth 100000 in
set_option maxHeartbeats 4000000 in
theorem kX3_readJingle {E : KE} {l : Launch} (hE : mx_ok E)  (hT : xOK E) (M : MM) {q : (Bool × MM)} (hf : fX3_readJingle M = some q) : mx_Met E l yX3_readJingle cX3_readJingle 2 (some .boolean) 3 [.ref (E.2.1.2.1 19), .ref (E.2.1.2.1 3)] M (some (.int (mx_b q.1))) q.2 := by
  refine mx_enter hE (by decide) (Nat.le_of_ble_eq_true rfl) ?_
  intro p e s m below meth c C hM hn ls hl
  have hx := C.1.1
  have hb := C.1.2.1
  have hown := C.1.2.2.2.1
  have hts := C.1.2.2.2.2
  have hl : lv_has ls 2 [(0, .ref (E.2.1.2.1 19)), (1, .ref (E.2.1.2.1 3))] := hl
  rw [fX3_readJingle] at hf
  refine lv_aload_n hx hb dX3_readJingle_0 rfl (lv_at hl 1 rfl) ?_
  refine lv_aload_n hx hb dX3_readJingle_1 rfl (lv_at hl 0 rfl) ?_
  refine gX3_72 C hM (xt_19 hT) (f := (0, 0)) rfl (v := .int (M.1 19 17)) rfl dX3_readJingle_2 ?_
  refine lv_iconst (v := (2 : Int32)) hx hb dX3_readJingle_5 (by decide) ?_
  refine lv_bipush (v := (9 : Int32)) hx hb dX3_readJingle_6 (by decide) ?_
  obtain ⟨q8, hq8, hf⟩ := mx_bd hf
  refine mx_callS C hM hl.1 yo_X3_takeOnce (h' := 2) (by decide) qw_603 qw_604 (As := [.ref (E.2.1.2.1 3), .int (M.1 19 17), .int (2 : Int32), .int (9 : Int32)]) (rest := []) (st1 := [.int (mx_b q8.1)]) (kX3_takeOnce C.2.2.2.1 (M.1 19 17) (2 : Int32) (9 : Int32) hT M hq8) rfl rfl rfl (Nat.le_of_ble_eq_true rfl) dX3_readJingle_8 (fun H locs hM => ?_)
  refine lv_if_ne (tgt := 16) hx hb dX3_readJingle_11 (by decide) (fun hc11 => ?_) (fun hc11 => ?_)
  · replace hf := mx_iff hc11 hf
    refine lv_aload_n hx hb dX3_readJingle_16 rfl (lv_at hl 0 rfl) ?_
    refine lv_iconst (v := (1 : Int32)) hx hb dX3_readJingle_17 (by decide) ?_
    refine pX3_72 C hM (xt_19 hT) rfl (by decide) (by decide) dX3_readJingle_18 (fun H locs hM => ?_)
    refine lv_aload_n hx hb dX3_readJingle_21 rfl (lv_at hl 0 rfl) ?_
    refine lv_aload_n hx hb dX3_readJingle_22 rfl (lv_at hl 1 rfl) ?_
    refine gX3_139 C hT hM (xt_3 hT) (f := (0, 0)) rfl (v := .int ((mx_si q8.2 19 17 (1 : Int32)).1 3 9)) rfl dX3_readJingle_23 ?_
    refine pX3_47 C hM (xt_19 hT) rfl rfl rfl dX3_readJingle_26 (fun H locs hM => ?_)
    refine lv_iconst (v := (1 : Int32)) hx hb dX3_readJingle_29 (by decide) ?_
    exact mx_zret C hM (b := true) rfl hf dX3_readJingle_30
  · replace hf := mx_ift hc11 hf
    refine lv_iconst (v := (0 : Int32)) hx hb dX3_readJingle_14 (by decide) ?_
    exact mx_zret C hM (b := false) rfl hf dX3_readJingle_15
theorem dX3_readLine_0 : decode cX3_readLine 0 = .ok (.getstatic 95, 3) := by decide +kernel
theorem dX3_readLine_3 : decode cX3_readLine 3 = .ok (.aload_n 1, 1) := by decide +kernel
theorem dX3_readLine_4 : decode cX3_readLine 4 = .ok (.invokevirtual 100, 3) := by decide +kernel
theorem dX3_readLine_7 : decode cX3_readLine 7 = .ok (.invokevirtual 104, 3) := by decide +kernel
theorem dX3_readLine_10 : decode cX3_readLine 10 = .ok (.iaload, 1) := by decide +kernel
theorem dX3_readLine_11 : decode cX3_readLine 11 = .ok (.tableswitch 63 1 5 #[33, 39, 45, 51, 57], 33) := by decide +kernel
theorem dX3_readLine_44 : decode cX3_readLine 44 = .ok (.aload_n 0, 1) := by decide +kernel
theorem dX3_readLine_45 : decode cX3_readLine 45 = .ok (.aload_n 1, 1) := by decide +kernel
theorem dX3_readLine_46 : decode cX3_readLine 46 = .ok (.invokevirtual 110, 3) := by decide +kernel
theorem dX3_readLine_49 : decode cX3_readLine 49 = .ok (.ireturn, 1) := by decide +kernel
theorem dX3_readLine_50 : decode cX3_readLine 50 = .ok (.aload_n 0, 1) := by decide +kernel
theorem dX3_readLine_51 : decode cX3_readLine 51 = .ok (.aload_n 1, 1) := by decide +kernel
theorem dX3_readLine_52 : decode cX3_readLine 52 = .ok (.invokevirtual 113, 3) := by decide +kernel
theorem dX3_readLine_55 : decode cX3_readLine 55 = .ok (.ireturn, 1) := by decide +kernel
theorem dX3_readLine_56 : decode cX3_readLine 56 = .ok (.aload_n 0, 1) := by decide +kernel
theorem dX3_readLine_57 : decode cX3_readLine 57 = .ok (.aload_n 1, 1) := by decide +kernel
theorem dX3_readLine_58 : decode cX3_readLine 58 = .ok (.invokevirtual 116, 3) := by decide +kernel
theorem dX3_readLine_61 : decode cX3_readLine 61 = .ok (.ireturn, 1) := by decide +kernel
theorem dX3_readLine_62 : decode cX3_readLine 62 = .ok (.aload_n 0, 1) := by decide +kernel
theorem dX3_readLine_63 : decode cX3_readLine 63 = .ok (.aload_n 1, 1) := by decide +kernel
theorem dX3_readLine_64 : decode cX3_readLine 64 = .ok (.invokevirtual 119, 3) := by decide +kernel
theorem dX3_readLine_67 : decode cX3_readLine 67 = .ok (.ireturn, 1) := by decide +kernel
theorem dX3_readLine_68 : decode cX3_readLine 68 = .ok (.aload_n 0, 1) := by decide +kernel
theorem dX3_readLine_69 : decode cX3_readLine 69 = .ok (.aload_n 1, 1) := by decide +kernel
theorem dX3_readLine_70 : decode cX3_readLine 70 = .ok (.invokevirtual 122, 3) := by decide +kernel
theorem dX3_readLine_73 : decode cX3_readLine 73 = .ok (.ireturn, 1) := by decide +kernel
theorem dX3_readLine_74 : decode cX3_readLine 74 = .ok (.aload_n 1, 1) := by decide +kernel
theorem dX3_readLine_75 : decode cX3_readLine 75 = .ok (.iconst 1, 1) := by decide +kernel
theorem dX3_readLine_76 : decode cX3_readLine 76 = .ok (.invokevirtual 92, 3) := by decide +kernel
theorem dX3_readLine_79 : decode cX3_readLine 79 = .ok (.ireturn, 1) := by decide +kernel
set_option maxRecDepth 100000 in
set_option maxHeartbeats 4000000 in
theorem kX3_readLine {E : KE} {l : Launch} (hE : mx_ok E)  (hT : xOK E) (M : MM) {q : (Bool × MM)} (hf : fX3_readLine M = some q) : mx_Met E l yX3_readLine cX3_readLine 2 (some .boolean) 4 [.ref (E.2.1.2.1 19), .ref (E.2.1.2.1 3)] M (some (.int (mx_b q.1))) q.2 := by
  refine mx_enter hE (by decide) (Nat.le_of_ble_eq_true rfl) ?_
  intro p e s m below meth c C hM hn ls hl
  have hx := C.1.1
  have hb := C.1.2.1
  have hown := C.1.2.2.2.1
  have hts := C.1.2.2.2.2
  have hl : lv_has ls 2 [(0, .ref (E.2.1.2.1 19)), (1, .ref (E.2.1.2.1 3))] := hl
  rw [fX3_readLine] at hf
  refine xw_sw C hT hM (hts _ qw_545) dX3_readLine_0 ?_
  refine lv_aload_n hx hb dX3_readLine_3 rfl (lv_at hl 1 rfl) ?_
  obtain ⟨q4, hq4, hf⟩ := mx_bd hf
  refine mx_callVN C hM hl.1 yo_X7_key (h' := 0) (by decide) (nw_547 hT C) qw_549 qs_11 (ci := 7) (q := (RX7, TX7, 12)) rfl (xt_3 hT) (As := []) (rest := [.ref (E.2.1.2.2.1 25)]) (st1 := [.ref (E.2.1.2.2.1 q4), .ref (E.2.1.2.2.1 25)]) (kX7_key C.2.2.2.1 hT M hq4) rfl rfl rfl (Nat.le_of_ble_eq_true rfl) dX3_readLine_4 (fun H locs hM => ?_)
  obtain ⟨hw7, hf⟩ := mx_gd hf
  refine xw_ord C hT hw7 hM hl.1 (by decide) qw_551 (st1 := [.int (nI q4), .ref (E.2.1.2.2.1 25)]) (rest := [.ref (E.2.1.2.2.1 25)]) rfl rfl (Nat.le_of_ble_eq_true rfl) dX3_readLine_7 (fun H locs hM => ?_)
  refine xw_swa C hT hM hw7 dX3_readLine_10 ?_
  by_cases hs0 : (xsw q4) = 1
  · replace hf := mx_ift hs0 hf
    refine lv_tableIn (tgt := 44) hx hb dX3_readLine_11 (by rw [hs0]; decide) (by rw [hs0]; decide) (by rw [hs0]; rfl) (by decide) ?_
    refine lv_aload_n hx hb dX3_readLine_44 rfl (lv_at hl 0 rfl) ?_
    refine lv_aload_n hx hb dX3_readLine_45 rfl (lv_at hl 1 rfl) ?_
    obtain ⟨q46, hq46, hf⟩ := mx_bd hf
    refine mx_callV C hM hl.1 yo_X3_readPerson (h' := 2) (by decide) qw_557 qw_559 qs_12 (ci := 3) (q := (RX3, TX3, 18)) rfl (xt_19 hT) (As := [.ref (E.2.1.2.1 3)]) (rest := []) (st1 := [.int (mx_b q46.1)]) (kX3_readPerson C.2.2.2.1 hT M hq46) rfl rfl rfl (Nat.le_of_ble_eq_true rfl) dX3_readLine_46 (fun H locs hM => ?_)
    exact mx_zret C hM (b := q46.1) rfl hf dX3_readLine_49
  replace hf := mx_iff hs0 hf
  by_cases hs1 : (xsw q4) = 2
  · replace hf := mx_ift hs1 hf
    refine lv_tableIn (tgt := 50) hx hb dX3_readLine_11 (by rw [hs1]; decide) (by rw [hs1]; decide) (by rw [hs1]; rfl) (by decide) ?_
    refine lv_aload_n hx hb dX3_readLine_50 rfl (lv_at hl 0 rfl) ?_
    refine lv_aload_n hx hb dX3_readLine_51 rfl (lv_at hl 1 rfl) ?_
    obtain ⟨q52, hq52, hf⟩ := mx_bd hf
    refine mx_callV C hM hl.1 yo_X3_readRing (h' := 2) (by decide) qw_591 qw_593 qs_20 (ci := 3) (q := (RX3, TX3, 18)) rfl (xt_19 hT) (As := [.ref (E.2.1.2.1 3)]) (rest := []) (st1 := [.int (mx_b q52.1)]) (kX3_readRing C.2.2.2.1 hT M hq52) rfl rfl rfl (Nat.le_of_ble_eq_true rfl) dX3_readLine_52 (fun H locs hM => ?_)
    exact mx_zret C hM (b := q52.1) rfl hf dX3_readLine_55
  replace hf := mx_iff hs1 hf
  by_cases hs2 : (xsw q4) = 3
  · replace hf := mx_ift hs2 hf
    refine lv_tableIn (tgt := 56) hx hb dX3_readLine_11 (by rw [hs2]; decide) (by rw [hs2]; decide) (by rw [hs2]; rfl) (by decide) ?_
    refine lv_aload_n hx hb dX3_readLine_56 rfl (lv_at hl 0 rfl) ?_
    refine lv_aload_n hx hb dX3_readLine_57 rfl (lv_at hl 1 rfl) ?_
    obtain ⟨q58, hq58, hf⟩ := mx_bd hf
    refine mx_callV C hM hl.1 yo_X3_readFit (h' := 3) (by decide) qw_599 qw_601 qs_22 (ci := 3) (q := (RX3, TX3, 18)) rfl (xt_19 hT) (As := [.ref (E.2.1.2.1 3)]) (rest := []) (st1 := [.int (mx_b q58.1)]) (kX3_readFit C.2.2.2.1 hT M hq58) rfl rfl rfl (Nat.le_of_ble_eq_true rfl) dX3_readLine_58 (fun H locs hM => ?_)
    exact mx_zret C hM (b := q58.1) rfl hf dX3_readLine_61
  replace hf := mx_iff hs2 hf
  by_cases hs3 : (xsw q4) = 4
  · replace hf := mx_ift hs3 hf
    refine lv_tableIn (tgt := 62) hx hb dX3_readLine_11 (by rw [hs3]; decide) (by rw [hs3]; decide) (by rw [hs3]; rfl) (by decide) ?_
    refine lv_aload_n hx hb dX3_readLine_62 rfl (lv_at hl 0 rfl) ?_
    refine lv_aload_n hx hb dX3_readLine_63 rfl (lv_at hl 1 rfl) ?_
    obtain ⟨q64, hq64, hf⟩ := mx_bd hf
    refine mx_callV C hM hl.1 yo_X3_readWalk (h' := 3) (by decide) qw_606 qw_608 qs_23 (ci := 3) (q := (RX3, TX3, 18)) rfl (xt_19 hT) (As := [.ref (E.2.1.2.1 3)]) (rest := []) (st1 := [.int (mx_b q64.1)]) (kX3_readWalk C.2.2.2.1 hT M hq64) rfl rfl rfl (Nat.le_of_ble_eq_true rfl) dX3_readLine_64 (fun H locs hM => ?_)
    exact mx_zret C hM (b := q64.1) rfl hf dX3_readLine_67
  replace hf := mx_iff hs3 hf
  by_cases hs4 : (xsw q4) = 5
  · replace hf := mx_ift hs4 hf
    refine lv_tableIn (tgt := 68) hx hb dX3_readLine_11 (by rw [hs4]; decide) (by rw [hs4]; decide) (by rw [hs4]; rfl) (by decide) ?_
    refine lv_aload_n hx hb dX3_readLine_68 rfl (lv_at hl 0 rfl) ?_
    refine lv_aload_n hx hb dX3_readLine_69 rfl (lv_at hl 1 rfl) ?_
    obtain ⟨q70, hq70, hf⟩ := mx_bd hf
    refine mx_callV C hM hl.1 yo_X3_readJingle (h' := 3) (by decide) qw_610 qw_612 qs_24 (ci := 3) (q := (RX3, TX3, 18)) rfl (xt_19 hT) (As := [.ref (E.2.1.2.1 3)]) (rest := []) (st1 := [.int (mx_b q70.1)]) (kX3_readJingle C.2.2.2.1 hT M hq70) rfl rfl rfl (Nat.le_of_ble_eq_true rfl) dX3_readLine_70 (fun H locs hM => ?_)
    exact mx_zret C hM (b := q70.1) rfl hf dX3_readLine_73
  replace hf := mx_iff hs4 hf
  refine lv_tableOut (tgt := 74) hx hb dX3_readLine_11 (by have hh := And.intro trivial trivial; have hh0 := lv_neT hs0 (by decide : (1 : Int32).toInt = 1); have hh1 := lv_neT hs1 (by decide : (2 : Int32).toInt = 2); have hh2 := lv_neT hs2 (by decide : (3 : Int32).toInt = 3); have hh3 := lv_neT hs3 (by decide : (4 : Int32).toInt = 4); have hh4 := lv_neT hs4 (by decide : (5 : Int32).toInt = 5); omega) (by decide) ?_
  refine lv_aload_n hx hb dX3_readLine_74 rfl (lv_at hl 1 rfl) ?_
  refine lv_iconst (v := (1 : Int32)) hx hb dX3_readLine_75 (by decide) ?_
  obtain ⟨q76, hq76, hf⟩ := mx_bd hf
  refine mx_callVN C hM hl.1 yo_X7_fail (h' := 0) (by decide) (nw_561 hT C) qw_563 qs_13 (ci := 7) (q := (RX7, TX7, 12)) rfl (xt_3 hT) (As := [.int (1 : Int32)]) (rest := []) (st1 := [.int (mx_b q76.1)]) (kX7_fail C.2.2.2.1 (1 : Int32) hT M hq76) rfl rfl rfl (Nat.le_of_ble_eq_true rfl) dX3_readLine_76 (fun H locs hM => ?_)
  exact mx_zret C hM (b := q76.1) rfl hf dX3_readLine_79
theorem dX3_readFrom_0 : decode cX3_readFrom 0 = .ok (.aload_n 0, 1) := by decide +kernel
theorem dX3_readFrom_1 : decode cX3_readFrom 1 = .ok (.invokevirtual 75, 3) := by decide +kernel
theorem dX3_readFrom_4 : decode cX3_readFrom 4 = .ok (.aload_n 0, 1) := by decide +kernel
theorem dX3_readFrom_5 : decode cX3_readFrom 5 = .ok (.getfield 56, 3) := by decide +kernel
theorem dX3_readFrom_8 : decode cX3_readFrom 8 = .ok (.bipush 17, 2) := by decide +kernel
theorem dX3_readFrom_10 : decode cX3_readFrom 10 = .ok (.if_icmp .gt 45, 3) := by decide +kernel
theorem dX3_readFrom_13 : decode cX3_readFrom 13 = .ok (.aload_n 1, 1) := by decide +kernel
theorem dX3_readFrom_14 : decode cX3_readFrom 14 = .ok (.iconst 1, 1) := by decide +kernel
theorem dX3_readFrom_15 : decode cX3_readFrom 15 = .ok (.invokevirtual 80, 3) := by decide +kernel
theorem dX3_readFrom_18 : decode cX3_readFrom 18 = .ok (.ifCond .eq 5, 3) := by decide +kernel
theorem dX3_readFrom_21 : decode cX3_readFrom 21 = .ok (.iconst 1, 1) := by decide +kernel
theorem dX3_readFrom_22 : decode cX3_readFrom 22 = .ok (.ireturn, 1) := by decide +kernel
theorem dX3_readFrom_23 : decode cX3_readFrom 23 = .ok (.aload_n 0, 1) := by decide +kernel
theorem dX3_readFrom_24 : decode cX3_readFrom 24 = .ok (.aload_n 1, 1) := by decide +kernel
theorem dX3_readFrom_25 : decode cX3_readFrom 25 = .ok (.invokevirtual 84, 3) := by decide +kernel
theorem dX3_readFrom_28 : decode cX3_readFrom 28 = .ok (.ifCond .eq 12, 3) := by decide +kernel
theorem dX3_readFrom_31 : decode cX3_readFrom 31 = .ok (.aload_n 1, 1) := by decide +kernel
theorem dX3_readFrom_32 : decode cX3_readFrom 32 = .ok (.bipush 59, 2) := by decide +kernel
theorem dX3_readFrom_34 : decode cX3_readFrom 34 = .ok (.invokevirtual 88, 3) := by decide +kernel
theorem dX3_readFrom_37 : decode cX3_readFrom 37 = .ok (.ifCond .ne 5, 3) := by decide +kernel
theorem dX3_readFrom_40 : decode cX3_readFrom 40 = .ok (.iconst 0, 1) := by decide +kernel
theorem dX3_readFrom_41 : decode cX3_readFrom 41 = .ok (.ireturn, 1) := by decide +kernel
theorem dX3_readFrom_42 : decode cX3_readFrom 42 = .ok (.aload_n 0, 1) := by decide +kernel
theorem dX3_readFrom_43 : decode cX3_readFrom 43 = .ok (.dup, 1) := by decide +kernel
theorem dX3_readFrom_44 : decode cX3_readFrom 44 = .ok (.getfield 56, 3) := by decide +kernel
theorem dX3_readFrom_47 : decode cX3_readFrom 47 = .ok (.iconst 1, 1) := by decide +kernel
theorem dX3_readFrom_48 : decode cX3_readFrom 48 = .ok (.iadd, 1) := by decide +kernel
theorem dX3_readFrom_49 : decode cX3_readFrom 49 = .ok (.putfield 56, 3) := by decide +kernel
theorem dX3_readFrom_52 : decode cX3_readFrom 52 = .ok (.goto (-48), 3) := by decide +kernel
theorem dX3_readFrom_55 : decode cX3_readFrom 55 = .ok (.aload_n 1, 1) := by decide +kernel
theorem dX3_readFrom_56 : decode cX3_readFrom 56 = .ok (.iconst 4, 1) := by decide +kernel
theorem dX3_readFrom_57 : decode cX3_readFrom 57 = .ok (.invokevirtual 92, 3) := by decide +kernel
theorem dX3_readFrom_60 : decode cX3_readFrom 60 = .ok (.ireturn, 1) := by decide +kernel
set_option maxRecDepth 100000 in
set_option maxHeartbeats 4000000 in
theorem wfX3_readFrom_4 {E : KE} {p : Program} {l : Launch} {e : Env} {s : State} {m : MethodId} {args : Array Value} {below : List Frame} {meth : Method} {c : Code} {q : (Bool × MM)} (C : mx_C E p m c cX3_readFrom 2 s args RX3 meth (some .boolean))  (hT : xOK E)   : ∀ (n : Nat) (M : MM) (H : Heap) (locs : List Loc) (ls : Array Slot), fX3_readFrom_4 n M = some q → mx_H E s M H locs → lv_has ls 2 [(0, .ref (E.2.1.2.1 19)), (1, .ref (E.2.1.2.1 3))] → W p l e (mx_rm 5) s m args below meth c H locs 0 0 (mx_Z E below args s (some (.int (mx_b q.1))) q.2) (F0 m 4 ls []) := by
  have hx := C.1.1
  have hb := C.1.2.1
  have hown := C.1.2.2.2.1
  have hts := C.1.2.2.2.2
  intro n
  induction n with
  | zero =>
    intro M H locs ls hf hM hl
    rw [fX3_readFrom_4] at hf
    cases hf
  | succ n ih =>
    intro M H locs ls hf hM hl
    rw [fX3_readFrom_4] at hf
    refine lv_aload_n hx hb dX3_readFrom_4 rfl (lv_at hl 0 rfl) ?_
    refine gX3_56 C hM (xt_19 hT) (f := (0, 0)) rfl (v := .int (M.1 19 14)) rfl dX3_readFrom_5 ?_
    refine lv_bipush (v := (17 : Int32)) hx hb dX3_readFrom_8 (by decide) ?_
    refine lv_icmp_gt (tgt := 55) hx hb dX3_readFrom_10 (by decide) (fun hc10 => ?_) (fun hc10 => ?_)
    · replace hf := mx_ift hc10 hf
      refine lv_aload_n hx hb dX3_readFrom_55 rfl (lv_at hl 1 rfl) ?_
      refine lv_iconst (v := (4 : Int32)) hx hb dX3_readFrom_56 (by decide) ?_
      obtain ⟨q57, hq57, hf⟩ := mx_bd hf
      refine mx_callVN C hM hl.1 yo_X7_fail (h' := 0) (by decide) (nw_561 hT C) qw_563 qs_13 (ci := 7) (q := (RX7, TX7, 12)) rfl (xt_3 hT) (As := [.int (4 : Int32)]) (rest := []) (st1 := [.int (mx_b q57.1)]) (kX7_fail C.2.2.2.1 (4 : Int32) hT M hq57) rfl rfl rfl (Nat.le_of_ble_eq_true rfl) dX3_readFrom_57 (fun H locs hM => ?_)
      exact mx_zret C hM (b := q57.1) rfl hf dX3_readFrom_60
    · replace hf := mx_iff hc10 hf
      refine lv_aload_n hx hb dX3_readFrom_13 rfl (lv_at hl 1 rfl) ?_
      refine lv_iconst (v := (1 : Int32)) hx hb dX3_readFrom_14 (by decide) ?_
      obtain ⟨q15, hq15, hf⟩ := mx_bd hf
      refine mx_callVN C hM hl.1 yo_X7_isAt (h' := 0) (by decide) (nw_537 hT C) qw_539 qs_9 (ci := 7) (q := (RX7, TX7, 12)) rfl (xt_3 hT) (As := [.int (1 : Int32)]) (rest := []) (st1 := [.int (mx_b q15)]) (kX7_isAt C.2.2.2.1 (1 : Int32) hT M hq15) rfl rfl rfl (Nat.le_of_ble_eq_true rfl) dX3_readFrom_15 (fun H locs hM => ?_)
      refine lv_if_eq (tgt := 23) hx hb dX3_readFrom_18 (by decide) (fun hc18 => ?_) (fun hc18 => ?_)
      · replace hf := mx_ift hc18 hf
        refine lv_aload_n hx hb dX3_readFrom_23 rfl (lv_at hl 0 rfl) ?_
        refine lv_aload_n hx hb dX3_readFrom_24 rfl (lv_at hl 1 rfl) ?_
        obtain ⟨q25, hq25, hf⟩ := mx_bd hf
        refine mx_callV C hM hl.1 yo_X3_readLine (h' := 4) (by decide) qw_541 qw_543 qs_10 (ci := 3) (q := (RX3, TX3, 18)) rfl (xt_19 hT) (As := [.ref (E.2.1.2.1 3)]) (rest := []) (st1 := [.int (mx_b q25.1)]) (kX3_readLine C.2.2.2.1 hT M hq25) rfl rfl rfl (Nat.le_of_ble_eq_true rfl) dX3_readFrom_25 (fun H locs hM => ?_)
        refine lv_if_eq (tgt := 40) hx hb dX3_readFrom_28 (by decide) (fun hc28 => ?_) (fun hc28 => ?_)
        · replace hf := mx_ift hc28 hf
          refine lv_iconst (v := (0 : Int32)) hx hb dX3_readFrom_40 (by decide) ?_
          exact mx_zret C hM (b := false) rfl hf dX3_readFrom_41
        · replace hf := mx_iff hc28 hf
          refine lv_aload_n hx hb dX3_readFrom_31 rfl (lv_at hl 1 rfl) ?_
          refine lv_bipush (v := (59 : Int32)) hx hb dX3_readFrom_32 (by decide) ?_
          obtain ⟨q34, hq34, hf⟩ := mx_bd hf
          refine mx_callVN C hM hl.1 yo_X7_takeSign (h' := 1) (by decide) (nw_614 hT C) qw_616 qs_25 (ci := 7) (q := (RX7, TX7, 12)) rfl (xt_3 hT) (As := [.int (59 : Int32)]) (rest := []) (st1 := [.int (mx_b q34.1)]) (kX7_takeSign C.2.2.2.1 (59 : Int32) hT q25.2 hq34) rfl rfl rfl (Nat.le_of_ble_eq_true rfl) dX3_readFrom_34 (fun H locs hM => ?_)
          refine lv_if_ne (tgt := 42) hx hb dX3_readFrom_37 (by decide) (fun hc37 => ?_) (fun hc37 => ?_)
          · replace hf := mx_iff hc37 hf
            refine lv_aload_n hx hb dX3_readFrom_42 rfl (lv_at hl 0 rfl) ?_
            refine lv_dup hx hb dX3_readFrom_43 rfl ?_
            refine gX3_56 C hM (xt_19 hT) (f := (0, 0)) rfl (v := .int (q34.2.1 19 14)) rfl dX3_readFrom_44 ?_
            refine lv_iconst (v := (1 : Int32)) hx hb dX3_readFrom_47 (by decide) ?_
            refine lv_iadd hx hb dX3_readFrom_48 ?_
            refine pX3_56 C hM (xt_19 hT) rfl rfl rfl dX3_readFrom_49 (fun H locs hM => ?_)
            refine lv_goto (tgt := 4) hx hb dX3_readFrom_52 (by decide) ?_
            exact ih (mx_si q34.2 19 14 ((q34.2.1 19 14) + (1 : Int32))) _ _ _ hf hM (lv_sub hl [0, 1] rfl)
          · replace hf := mx_ift hc37 hf
            refine lv_iconst (v := (0 : Int32)) hx hb dX3_readFrom_40 (by decide) ?_
            exact mx_zret C hM (b := false) rfl hf dX3_readFrom_41
      · replace hf := mx_iff hc18 hf
        refine lv_iconst (v := (1 : Int32)) hx hb dX3_readFrom_21 (by decide) ?_
        exact mx_zret C hM (b := true) rfl hf dX3_readFrom_22
set_option maxRecDepth 100000 in
set_option maxHeartbeats 4000000 in
theorem kX3_readFrom {E : KE} {l : Launch} (hE : mx_ok E)  (hT : xOK E) (M : MM) {q : (Bool × MM)} (hf : fX3_readFrom M = some q) : mx_Met E l yX3_readFrom cX3_readFrom 2 (some .boolean) 5 [.ref (E.2.1.2.1 19), .ref (E.2.1.2.1 3)] M (some (.int (mx_b q.1))) q.2 := by
  refine mx_enter hE (by decide) (Nat.le_of_ble_eq_true rfl) ?_
  intro p e s m below meth c C hM hn ls hl
  have hx := C.1.1
  have hb := C.1.2.1
  have hown := C.1.2.2.2.1
  have hts := C.1.2.2.2.2
  have hl : lv_has ls 2 [(0, .ref (E.2.1.2.1 19)), (1, .ref (E.2.1.2.1 3))] := hl
  rw [fX3_readFrom] at hf
  refine lv_aload_n hx hb dX3_readFrom_0 rfl (lv_at hl 0 rfl) ?_
  obtain ⟨q1, hq1, hf⟩ := mx_bd hf
  refine mx_callV C hM hl.1 yo_X3_clear (h' := 0) (by decide) qw_533 qw_535 qs_8 (ci := 3) (q := (RX3, TX3, 18)) rfl (xt_19 hT) (As := []) (rest := []) (st1 := []) (kX3_clear C.2.2.2.1 hT M hq1) rfl rfl rfl (Nat.le_of_ble_eq_true rfl) dX3_readFrom_1 (fun H locs hM => ?_)
  exact wfX3_readFrom_4 C hT mx_fu q1 _ _ _ hf hM (lv_sub hl [0, 1] rfl)
