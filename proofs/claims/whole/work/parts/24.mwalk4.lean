theorem dX13_leftBy_0 : decode cX13_leftBy 0 = .ok (.iconst 0, 1) := by decide +kernel
theorem dX13_leftBy_1 : decode cX13_leftBy 1 = .ok (.istore_n 2, 1) := by decide +kernel
theorem dX13_leftBy_2 : decode cX13_leftBy 2 = .ok (.iconst 0, 1) := by decide +kernel
theorem dX13_leftBy_3 : decode cX13_leftBy 3 = .ok (.istore_n 3, 1) := by decide +kernel
theorem dX13_leftBy_4 : decode cX13_leftBy 4 = .ok (.iload_n 3, 1) := by decide +kernel
theorem dX13_leftBy_5 : decode cX13_leftBy 5 = .ok (.iconst 3, 1) := by decide +kernel
theorem dX13_leftBy_6 : decode cX13_leftBy 6 = .ok (.if_icmp .ge 65, 3) := by decide +kernel
theorem dX13_leftBy_9 : decode cX13_leftBy 9 = .ok (.iconst 0, 1) := by decide +kernel
theorem dX13_leftBy_10 : decode cX13_leftBy 10 = .ok (.istore 4, 2) := by decide +kernel
theorem dX13_leftBy_12 : decode cX13_leftBy 12 = .ok (.iconst 1, 1) := by decide +kernel
theorem dX13_leftBy_13 : decode cX13_leftBy 13 = .ok (.istore 5, 2) := by decide +kernel
theorem dX13_leftBy_15 : decode cX13_leftBy 15 = .ok (.iload 5, 2) := by decide +kernel
theorem dX13_leftBy_17 : decode cX13_leftBy 17 = .ok (.bipush 20, 2) := by decide +kernel
theorem dX13_leftBy_19 : decode cX13_leftBy 19 = .ok (.if_icmp .gt 39, 3) := by decide +kernel
theorem dX13_leftBy_22 : decode cX13_leftBy 22 = .ok (.iload 4, 2) := by decide +kernel
theorem dX13_leftBy_24 : decode cX13_leftBy 24 = .ok (.aload_n 0, 1) := by decide +kernel
theorem dX13_leftBy_25 : decode cX13_leftBy 25 = .ok (.iload 5, 2) := by decide +kernel
theorem dX13_leftBy_27 : decode cX13_leftBy 27 = .ok (.invokevirtual 364, 3) := by decide +kernel
theorem dX13_leftBy_30 : decode cX13_leftBy 30 = .ok (.ifCond .eq 18, 3) := by decide +kernel
theorem dX13_leftBy_33 : decode cX13_leftBy 33 = .ok (.aload_n 0, 1) := by decide +kernel
theorem dX13_leftBy_34 : decode cX13_leftBy 34 = .ok (.iload 5, 2) := by decide +kernel
theorem dX13_leftBy_36 : decode cX13_leftBy 36 = .ok (.iload_n 1, 1) := by decide +kernel
theorem dX13_leftBy_37 : decode cX13_leftBy 37 = .ok (.invokevirtual 270, 3) := by decide +kernel
theorem dX13_leftBy_40 : decode cX13_leftBy 40 = .ok (.iload_n 3, 1) := by decide +kernel
theorem dX13_leftBy_41 : decode cX13_leftBy 41 = .ok (.if_icmp .ne 7, 3) := by decide +kernel
theorem dX13_leftBy_44 : decode cX13_leftBy 44 = .ok (.iconst 1, 1) := by decide +kernel
theorem dX13_leftBy_45 : decode cX13_leftBy 45 = .ok (.goto 4, 3) := by decide +kernel
theorem dX13_leftBy_48 : decode cX13_leftBy 48 = .ok (.iconst 0, 1) := by decide +kernel
theorem dX13_leftBy_49 : decode cX13_leftBy 49 = .ok (.iadd, 1) := by decide +kernel
theorem dX13_leftBy_50 : decode cX13_leftBy 50 = .ok (.istore 4, 2) := by decide +kernel
theorem dX13_leftBy_52 : decode cX13_leftBy 52 = .ok (.iinc 5 1, 3) := by decide +kernel
theorem dX13_leftBy_55 : decode cX13_leftBy 55 = .ok (.goto (-40), 3) := by decide +kernel
theorem dX13_leftBy_58 : decode cX13_leftBy 58 = .ok (.iload_n 2, 1) := by decide +kernel
theorem dX13_leftBy_59 : decode cX13_leftBy 59 = .ok (.iload 4, 2) := by decide +kernel
theorem dX13_leftBy_61 : decode cX13_leftBy 61 = .ok (.invokestatic 339, 3) := by decide +kernel
theorem dX13_leftBy_64 : decode cX13_leftBy 64 = .ok (.istore_n 2, 1) := by decide +kernel
theorem dX13_leftBy_65 : decode cX13_leftBy 65 = .ok (.iinc 3 1, 3) := by decide +kernel
theorem dX13_leftBy_68 : decode cX13_leftBy 68 = .ok (.goto (-64), 3) := by decide +kernel
theorem dX13_leftBy_71 : decode cX13_leftBy 71 = .ok (.iload_n 2, 1) := by decide +kernel
theorem dX13_leftBy_72 : decode cX13_leftBy 72 = .ok (.ireturn, 1) := by decide +kernel
set_option maxRecDepth 100000 in
set_option maxHeartbeats 4000000 in
theorem wfX13_leftBy_15 {E : KE} {p : Program} {l : Launch} {e : Env} {s : State} {m : MethodId} {args : Array Value} {below : List Frame} {meth : Method} {c : Code} {q : Int32} (C : mx_C E p m c cX13_leftBy 6 s args RX13 meth (some .int)) (i1 : Int32) (M : MM) (hT : E.1 = mt)  (k4 : Int32 → Int32 → Option Int32) (hk4 : ∀ (i2 : Int32) (i3 : Int32) (H : Heap) (locs : List Loc) (ls : Array Slot), k4 i2 i3 = some q → mx_H E s M H locs → lv_has ls 6 [(0, .ref (E.2.1.2.1 0)), (1, .int i1), (2, .int i2), (3, .int i3)] → W p l e (mx_rm 2) s m args below meth c H locs 0 0 (mx_Z E below args s (some (.int q)) M) (F0 m 4 ls [])) : ∀ (n : Nat) (i2 : Int32) (i3 : Int32) (i4 : Int32) (i5 : Int32) (H : Heap) (locs : List Loc) (ls : Array Slot), fX13_leftBy_15 i1 M k4 n i2 i3 i4 i5 = some q → mx_H E s M H locs → lv_has ls 6 [(0, .ref (E.2.1.2.1 0)), (1, .int i1), (2, .int i2), (3, .int i3), (4, .int i4), (5, .int i5)] → W p l e (mx_rm 2) s m args below meth c H locs 0 0 (mx_Z E below args s (some (.int q)) M) (F0 m 15 ls []) := by
  have hx := C.1.1
  have hb := C.1.2.1
  have hown := C.1.2.2.2.1
  have hts := C.1.2.2.2.2
  intro n
  induction n with
  | zero =>
    intro i2 i3 i4 i5 H locs ls hf hM hl
    rw [fX13_leftBy_15] at hf
    cases hf
  | succ n ih =>
    intro i2 i3 i4 i5 H locs ls hf hM hl
    rw [fX13_leftBy_15] at hf
    refine lv_iload hx hb dX13_leftBy_15 (lv_at hl 5 rfl) ?_
    refine lv_bipush (v := (20 : Int32)) hx hb dX13_leftBy_17 (by decide) ?_
    refine lv_icmp_gt (tgt := 58) hx hb dX13_leftBy_19 (by decide) (fun hc19 => ?_) (fun hc19 => ?_)
    · replace hf := mx_ift hc19 hf
      refine lv_iload_n hx hb dX13_leftBy_58 rfl (lv_at hl 2 rfl) ?_
      refine lv_iload hx hb dX13_leftBy_59 (lv_at hl 4 rfl) ?_
      obtain ⟨q61, hq61, hf⟩ := mx_bd hf
      refine mx_callS C hM hl.1 yo_X13_greater (h' := 0) (by decide) qw_1796 qw_1797 (As := [.int i2, .int i4]) (rest := []) (st1 := [.int q61]) (kX13_greater C.2.2.2.1 i2 i4 hT M hq61) rfl rfl rfl (Nat.le_of_ble_eq_true rfl) dX13_leftBy_61 (fun H locs hM => ?_)
      refine lv_istore_n (lv' := [(2, .int q61), (0, .ref (E.2.1.2.1 0)), (1, .int i1), (3, .int i3), (4, .int i4), (5, .int i5)]) hx hb dX13_leftBy_64 rfl hl (by decide) rfl (fun ls hl => ?_)
      refine lv_iinc (v := (i3 + (1 : Int32))) (lv' := [(3, .int (i3 + (1 : Int32))), (2, .int q61), (0, .ref (E.2.1.2.1 0)), (1, .int i1), (4, .int i4), (5, .int i5)]) hx hb dX13_leftBy_65 hl (k := 3) rfl rfl (by decide) rfl (fun ls hl => ?_)
      refine lv_goto (tgt := 4) hx hb dX13_leftBy_68 (by decide) ?_
      exact hk4 q61 (i3 + (1 : Int32)) _ _ _ hf hM (lv_sub hl [2, 3, 1, 0] rfl)
    · replace hf := mx_iff hc19 hf
      refine lv_iload hx hb dX13_leftBy_22 (lv_at hl 4 rfl) ?_
      refine lv_aload_n hx hb dX13_leftBy_24 rfl (lv_at hl 0 rfl) ?_
      refine lv_iload hx hb dX13_leftBy_25 (lv_at hl 5 rfl) ?_
      obtain ⟨q27, hq27, hf⟩ := mx_bd hf
      refine mx_callV C hM hl.1 yo_X13_isSize (h' := 1) (by decide) qw_1843 qw_1845 qs_159 (ci := 13) (q := (RX13, TX13, 52)) rfl (mt_0 hT) (As := [.int i5]) (rest := [.int i4]) (st1 := [.int (mx_b q27), .int i4]) (kX13_isSize C.2.2.2.1 i5 hT M hq27) rfl rfl rfl (Nat.le_of_ble_eq_true rfl) dX13_leftBy_27 (fun H locs hM => ?_)
      refine lv_if_eq (tgt := 48) hx hb dX13_leftBy_30 (by decide) (fun hc30 => ?_) (fun hc30 => ?_)
      · replace hf := mx_ift hc30 hf
        refine lv_iconst (v := (0 : Int32)) hx hb dX13_leftBy_48 (by decide) ?_
        refine lv_iadd hx hb dX13_leftBy_49 ?_
        refine lv_istore (lv' := [(4, .int (i4 + (0 : Int32))), (0, .ref (E.2.1.2.1 0)), (1, .int i1), (2, .int i2), (3, .int i3), (5, .int i5)]) hx hb dX13_leftBy_50 hl (by decide) rfl (fun ls hl => ?_)
        refine lv_iinc (v := (i5 + (1 : Int32))) (lv' := [(5, .int (i5 + (1 : Int32))), (4, .int (i4 + (0 : Int32))), (0, .ref (E.2.1.2.1 0)), (1, .int i1), (2, .int i2), (3, .int i3)]) hx hb dX13_leftBy_52 hl (k := 5) rfl rfl (by decide) rfl (fun ls hl => ?_)
        refine lv_goto (tgt := 15) hx hb dX13_leftBy_55 (by decide) ?_
        exact ih i2 i3 (i4 + (0 : Int32)) (i5 + (1 : Int32)) _ _ _ hf hM (lv_sub hl [2, 3, 4, 5, 1, 0] rfl)
      · replace hf := mx_iff hc30 hf
        refine lv_aload_n hx hb dX13_leftBy_33 rfl (lv_at hl 0 rfl) ?_
        refine lv_iload hx hb dX13_leftBy_34 (lv_at hl 5 rfl) ?_
        refine lv_iload_n hx hb dX13_leftBy_36 rfl (lv_at hl 1 rfl) ?_
        obtain ⟨q37, hq37, hf⟩ := mx_bd hf
        refine mx_callV C hM hl.1 yo_X13_feels (h' := 0) (by decide) qw_1682 qw_1684 qs_137 (ci := 13) (q := (RX13, TX13, 52)) rfl (mt_0 hT) (As := [.int i5, .int i1]) (rest := [.int i4]) (st1 := [.int q37, .int i4]) (kX13_feels C.2.2.2.1 i5 i1 hT M hq37) rfl rfl rfl (Nat.le_of_ble_eq_true rfl) dX13_leftBy_37 (fun H locs hM => ?_)
        refine lv_iload_n hx hb dX13_leftBy_40 rfl (lv_at hl 3 rfl) ?_
        refine lv_icmp_ne (tgt := 48) hx hb dX13_leftBy_41 (by decide) (fun hc41 => ?_) (fun hc41 => ?_)
        · replace hf := mx_iff hc41 hf
          refine lv_iconst (v := (0 : Int32)) hx hb dX13_leftBy_48 (by decide) ?_
          refine lv_iadd hx hb dX13_leftBy_49 ?_
          refine lv_istore (lv' := [(4, .int (i4 + (0 : Int32))), (0, .ref (E.2.1.2.1 0)), (1, .int i1), (2, .int i2), (3, .int i3), (5, .int i5)]) hx hb dX13_leftBy_50 hl (by decide) rfl (fun ls hl => ?_)
          refine lv_iinc (v := (i5 + (1 : Int32))) (lv' := [(5, .int (i5 + (1 : Int32))), (4, .int (i4 + (0 : Int32))), (0, .ref (E.2.1.2.1 0)), (1, .int i1), (2, .int i2), (3, .int i3)]) hx hb dX13_leftBy_52 hl (k := 5) rfl rfl (by decide) rfl (fun ls hl => ?_)
          refine lv_goto (tgt := 15) hx hb dX13_leftBy_55 (by decide) ?_
          exact ih i2 i3 (i4 + (0 : Int32)) (i5 + (1 : Int32)) _ _ _ hf hM (lv_sub hl [2, 3, 4, 5, 1, 0] rfl)
        · replace hf := mx_ift hc41 hf
          refine lv_iconst (v := (1 : Int32)) hx hb dX13_leftBy_44 (by decide) ?_
          refine lv_goto (tgt := 49) hx hb dX13_leftBy_45 (by decide) ?_
          refine lv_iadd hx hb dX13_leftBy_49 ?_
          refine lv_istore (lv' := [(4, .int (i4 + (1 : Int32))), (0, .ref (E.2.1.2.1 0)), (1, .int i1), (2, .int i2), (3, .int i3), (5, .int i5)]) hx hb dX13_leftBy_50 hl (by decide) rfl (fun ls hl => ?_)
          refine lv_iinc (v := (i5 + (1 : Int32))) (lv' := [(5, .int (i5 + (1 : Int32))), (4, .int (i4 + (1 : Int32))), (0, .ref (E.2.1.2.1 0)), (1, .int i1), (2, .int i2), (3, .int i3)]) hx hb dX13_leftBy_52 hl (k := 5) rfl rfl (by decide) rfl (fun ls hl => ?_)
          refine lv_goto (tgt := 15) hx hb dX13_leftBy_55 (by decide) ?_
          exact ih i2 i3 (i4 + (1 : Int32)) (i5 + (1 : Int32)) _ _ _ hf hM (lv_sub hl [2, 3, 4, 5, 1, 0] rfl)
set_option maxRecDepth 100000 in
set_option maxHeartbeats 4000000 in
theorem wfX13_leftBy_4 {E : KE} {p : Program} {l : Launch} {e : Env} {s : State} {m : MethodId} {args : Array Value} {below : List Frame} {meth : Method} {c : Code} {q : Int32} (C : mx_C E p m c cX13_leftBy 6 s args RX13 meth (some .int)) (i1 : Int32) (M : MM) (hT : E.1 = mt)   : ∀ (n : Nat) (i2 : Int32) (i3 : Int32) (H : Heap) (locs : List Loc) (ls : Array Slot), fX13_leftBy_4 i1 M n i2 i3 = some q → mx_H E s M H locs → lv_has ls 6 [(0, .ref (E.2.1.2.1 0)), (1, .int i1), (2, .int i2), (3, .int i3)] → W p l e (mx_rm 2) s m args below meth c H locs 0 0 (mx_Z E below args s (some (.int q)) M) (F0 m 4 ls []) := by
  have hx := C.1.1
  have hb := C.1.2.1
  have hown := C.1.2.2.2.1
  have hts := C.1.2.2.2.2
  intro n
  induction n with
  | zero =>
    intro i2 i3 H locs ls hf hM hl
    rw [fX13_leftBy_4] at hf
    cases hf
  | succ n ih =>
    intro i2 i3 H locs ls hf hM hl
    rw [fX13_leftBy_4] at hf
    refine lv_iload_n hx hb dX13_leftBy_4 rfl (lv_at hl 3 rfl) ?_
    refine lv_iconst (v := (3 : Int32)) hx hb dX13_leftBy_5 (by decide) ?_
    refine lv_icmp_ge (tgt := 71) hx hb dX13_leftBy_6 (by decide) (fun hc6 => ?_) (fun hc6 => ?_)
    · replace hf := mx_ift hc6 hf
      refine lv_iload_n hx hb dX13_leftBy_71 rfl (lv_at hl 2 rfl) ?_
      exact mx_iretR C hM hf dX13_leftBy_72
    · replace hf := mx_iff hc6 hf
      refine lv_iconst (v := (0 : Int32)) hx hb dX13_leftBy_9 (by decide) ?_
      refine lv_istore (lv' := [(4, .int (0 : Int32)), (0, .ref (E.2.1.2.1 0)), (1, .int i1), (2, .int i2), (3, .int i3)]) hx hb dX13_leftBy_10 hl (by decide) rfl (fun ls hl => ?_)
      refine lv_iconst (v := (1 : Int32)) hx hb dX13_leftBy_12 (by decide) ?_
      refine lv_istore (lv' := [(5, .int (1 : Int32)), (4, .int (0 : Int32)), (0, .ref (E.2.1.2.1 0)), (1, .int i1), (2, .int i2), (3, .int i3)]) hx hb dX13_leftBy_13 hl (by decide) rfl (fun ls hl => ?_)
      exact wfX13_leftBy_15 C i1 M hT (fX13_leftBy_4 i1 M n) ih mx_fu i2 i3 (0 : Int32) (1 : Int32) _ _ _ hf hM (lv_sub hl [2, 3, 4, 5, 1, 0] rfl)
set_option maxRecDepth 100000 in
set_option maxHeartbeats 4000000 in
theorem kX13_leftBy {E : KE} {l : Launch} (hE : mx_ok E) (i1 : Int32) (hT : E.1 = mt) (M : MM) {q : Int32} (hf : fX13_leftBy i1 M = some q) : mx_Met E l yX13_leftBy cX13_leftBy 6 (some .int) 2 [.ref (E.2.1.2.1 0), .int i1] M (some (.int q)) M := by
  refine mx_enter hE (by decide) (Nat.le_of_ble_eq_true rfl) ?_
  intro p e s m below meth c C hM hn ls hl
  have hx := C.1.1
  have hb := C.1.2.1
  have hown := C.1.2.2.2.1
  have hts := C.1.2.2.2.2
  have hl : lv_has ls 6 [(0, .ref (E.2.1.2.1 0)), (1, .int i1)] := hl
  rw [fX13_leftBy] at hf
  refine lv_iconst (v := (0 : Int32)) hx hb dX13_leftBy_0 (by decide) ?_
  refine lv_istore_n (lv' := [(2, .int (0 : Int32)), (0, .ref (E.2.1.2.1 0)), (1, .int i1)]) hx hb dX13_leftBy_1 rfl hl (by decide) rfl (fun ls hl => ?_)
  refine lv_iconst (v := (0 : Int32)) hx hb dX13_leftBy_2 (by decide) ?_
  refine lv_istore_n (lv' := [(3, .int (0 : Int32)), (2, .int (0 : Int32)), (0, .ref (E.2.1.2.1 0)), (1, .int i1)]) hx hb dX13_leftBy_3 rfl hl (by decide) rfl (fun ls hl => ?_)
  exact wfX13_leftBy_4 C i1 M hT mx_fu (0 : Int32) (0 : Int32) _ _ _ hf hM (lv_sub hl [2, 3, 1, 0] rfl)
theorem dX13_sizes_0 : decode cX13_sizes 0 = .ok (.aload_n 0, 1) := by decide +kernel
theorem dX13_sizes_1 : decode cX13_sizes 1 = .ok (.iconst 0, 1) := by decide +kernel
theorem dX13_sizes_2 : decode cX13_sizes 2 = .ok (.putfield 1, 3) := by decide +kernel
theorem dX13_sizes_5 : decode cX13_sizes 5 = .ok (.aload_n 0, 1) := by decide +kernel
theorem dX13_sizes_6 : decode cX13_sizes 6 = .ok (.sipush 940, 3) := by decide +kernel
theorem dX13_sizes_9 : decode cX13_sizes 9 = .ok (.invokevirtual 244, 3) := by decide +kernel
theorem dX13_sizes_12 : decode cX13_sizes 12 = .ok (.aload_n 0, 1) := by decide +kernel
theorem dX13_sizes_13 : decode cX13_sizes 13 = .ok (.getfield 18, 3) := by decide +kernel
theorem dX13_sizes_16 : decode cX13_sizes 16 = .ok (.iconst 2, 1) := by decide +kernel
theorem dX13_sizes_17 : decode cX13_sizes 17 = .ok (.bipush 16, 2) := by decide +kernel
theorem dX13_sizes_19 : decode cX13_sizes 19 = .ok (.invokestatic 193, 3) := by decide +kernel
theorem dX13_sizes_22 : decode cX13_sizes 22 = .ok (.ifCond .eq 13, 3) := by decide +kernel
theorem dX13_sizes_25 : decode cX13_sizes 25 = .ok (.aload_n 0, 1) := by decide +kernel
theorem dX13_sizes_26 : decode cX13_sizes 26 = .ok (.getfield 18, 3) := by decide +kernel
theorem dX13_sizes_29 : decode cX13_sizes 29 = .ok (.iconst 2, 1) := by decide +kernel
theorem dX13_sizes_30 : decode cX13_sizes 30 = .ok (.irem, 1) := by decide +kernel
theorem dX13_sizes_31 : decode cX13_sizes 31 = .ok (.iconst 1, 1) := by decide +kernel
theorem dX13_sizes_32 : decode cX13_sizes 32 = .ok (.if_icmp .ne 5, 3) := by decide +kernel
theorem dX13_sizes_35 : decode cX13_sizes 35 = .ok (.iconst (-1), 1) := by decide +kernel
theorem dX13_sizes_36 : decode cX13_sizes 36 = .ok (.ireturn, 1) := by decide +kernel
theorem dX13_sizes_37 : decode cX13_sizes 37 = .ok (.iconst 0, 1) := by decide +kernel
theorem dX13_sizes_38 : decode cX13_sizes 38 = .ok (.istore_n 1, 1) := by decide +kernel
theorem dX13_sizes_39 : decode cX13_sizes 39 = .ok (.iload_n 1, 1) := by decide +kernel
theorem dX13_sizes_40 : decode cX13_sizes 40 = .ok (.aload_n 0, 1) := by decide +kernel
theorem dX13_sizes_41 : decode cX13_sizes 41 = .ok (.getfield 18, 3) := by decide +kernel
theorem dX13_sizes_44 : decode cX13_sizes 44 = .ok (.if_icmp .ge 34, 3) := by decide +kernel
theorem dX13_sizes_47 : decode cX13_sizes 47 = .ok (.aload_n 0, 1) := by decide +kernel
theorem dX13_sizes_48 : decode cX13_sizes 48 = .ok (.aload_n 0, 1) := by decide +kernel
theorem dX13_sizes_49 : decode cX13_sizes 49 = .ok (.iload_n 1, 1) := by decide +kernel
theorem dX13_sizes_50 : decode cX13_sizes 50 = .ok (.invokevirtual 361, 3) := by decide +kernel
theorem dX13_sizes_53 : decode cX13_sizes 53 = .ok (.invokevirtual 273, 3) := by decide +kernel
theorem dX13_sizes_56 : decode cX13_sizes 56 = .ok (.ifCond .eq 14, 3) := by decide +kernel
theorem dX13_sizes_59 : decode cX13_sizes 59 = .ok (.aload_n 0, 1) := by decide +kernel
theorem dX13_sizes_60 : decode cX13_sizes 60 = .ok (.iload_n 1, 1) := by decide +kernel
theorem dX13_sizes_61 : decode cX13_sizes 61 = .ok (.iconst 1, 1) := by decide +kernel
theorem dX13_sizes_62 : decode cX13_sizes 62 = .ok (.iadd, 1) := by decide +kernel
theorem dX13_sizes_63 : decode cX13_sizes 63 = .ok (.invokevirtual 361, 3) := by decide +kernel
theorem dX13_sizes_66 : decode cX13_sizes 66 = .ok (.iconst 2, 1) := by decide +kernel
theorem dX13_sizes_67 : decode cX13_sizes 67 = .ok (.if_icmp .le 5, 3) := by decide +kernel
theorem dX13_sizes_70 : decode cX13_sizes 70 = .ok (.iconst (-1), 1) := by decide +kernel
theorem dX13_sizes_71 : decode cX13_sizes 71 = .ok (.ireturn, 1) := by decide +kernel
theorem dX13_sizes_72 : decode cX13_sizes 72 = .ok (.iinc 1 2, 3) := by decide +kernel
theorem dX13_sizes_75 : decode cX13_sizes 75 = .ok (.goto (-36), 3) := by decide +kernel
theorem dX13_sizes_78 : decode cX13_sizes 78 = .ok (.iconst 0, 1) := by decide +kernel
theorem dX13_sizes_79 : decode cX13_sizes 79 = .ok (.istore_n 1, 1) := by decide +kernel
theorem dX13_sizes_80 : decode cX13_sizes 80 = .ok (.iconst 0, 1) := by decide +kernel
theorem dX13_sizes_81 : decode cX13_sizes 81 = .ok (.istore_n 2, 1) := by decide +kernel
theorem dX13_sizes_82 : decode cX13_sizes 82 = .ok (.bipush 20, 2) := by decide +kernel
theorem dX13_sizes_84 : decode cX13_sizes 84 = .ok (.istore_n 3, 1) := by decide +kernel
theorem dX13_sizes_85 : decode cX13_sizes 85 = .ok (.iload_n 3, 1) := by decide +kernel
theorem dX13_sizes_86 : decode cX13_sizes 86 = .ok (.ifCond .le 25, 3) := by decide +kernel
theorem dX13_sizes_89 : decode cX13_sizes 89 = .ok (.aload_n 0, 1) := by decide +kernel
theorem dX13_sizes_90 : decode cX13_sizes 90 = .ok (.iload_n 3, 1) := by decide +kernel
theorem dX13_sizes_91 : decode cX13_sizes 91 = .ok (.invokevirtual 364, 3) := by decide +kernel
theorem dX13_sizes_94 : decode cX13_sizes 94 = .ok (.ifCond .ne 6, 3) := by decide +kernel
theorem dX13_sizes_97 : decode cX13_sizes 97 = .ok (.goto 8, 3) := by decide +kernel
theorem dX13_sizes_100 : decode cX13_sizes 100 = .ok (.iinc 1 1, 3) := by decide +kernel
theorem dX13_sizes_103 : decode cX13_sizes 103 = .ok (.iload_n 3, 1) := by decide +kernel
theorem dX13_sizes_104 : decode cX13_sizes 104 = .ok (.istore_n 2, 1) := by decide +kernel
theorem dX13_sizes_105 : decode cX13_sizes 105 = .ok (.iinc 3 (-1), 3) := by decide +kernel
theorem dX13_sizes_108 : decode cX13_sizes 108 = .ok (.goto (-23), 3) := by decide +kernel
theorem dX13_sizes_111 : decode cX13_sizes 111 = .ok (.iload_n 1, 1) := by decide +kernel
theorem dX13_sizes_112 : decode cX13_sizes 112 = .ok (.ifCond .ne 5, 3) := by decide +kernel
theorem dX13_sizes_115 : decode cX13_sizes 115 = .ok (.iconst 0, 1) := by decide +kernel
theorem dX13_sizes_116 : decode cX13_sizes 116 = .ok (.ireturn, 1) := by decide +kernel
theorem dX13_sizes_117 : decode cX13_sizes 117 = .ok (.aload_n 0, 1) := by decide +kernel
theorem dX13_sizes_118 : decode cX13_sizes 118 = .ok (.iconst 1, 1) := by decide +kernel
theorem dX13_sizes_119 : decode cX13_sizes 119 = .ok (.putfield 367, 3) := by decide +kernel
theorem dX13_sizes_122 : decode cX13_sizes 122 = .ok (.aload_n 0, 1) := by decide +kernel
theorem dX13_sizes_123 : decode cX13_sizes 123 = .ok (.iload_n 2, 1) := by decide +kernel
theorem dX13_sizes_124 : decode cX13_sizes 124 = .ok (.putfield 371, 3) := by decide +kernel
theorem dX13_sizes_127 : decode cX13_sizes 127 = .ok (.aload_n 0, 1) := by decide +kernel
theorem dX13_sizes_128 : decode cX13_sizes 128 = .ok (.iconst 0, 1) := by decide +kernel
theorem dX13_sizes_129 : decode cX13_sizes 129 = .ok (.putfield 374, 3) := by decide +kernel
theorem dX13_sizes_132 : decode cX13_sizes 132 = .ok (.iconst 1, 1) := by decide +kernel
theorem dX13_sizes_133 : decode cX13_sizes 133 = .ok (.istore_n 3, 1) := by decide +kernel
theorem dX13_sizes_134 : decode cX13_sizes 134 = .ok (.iload_n 3, 1) := by decide +kernel
theorem dX13_sizes_135 : decode cX13_sizes 135 = .ok (.aload_n 0, 1) := by decide +kernel
theorem dX13_sizes_136 : decode cX13_sizes 136 = .ok (.getfield 33, 3) := by decide +kernel
theorem dX13_sizes_139 : decode cX13_sizes 139 = .ok (.iconst 0, 1) := by decide +kernel
theorem dX13_sizes_140 : decode cX13_sizes 140 = .ok (.iaload, 1) := by decide +kernel
theorem dX13_sizes_141 : decode cX13_sizes 141 = .ok (.if_icmp .ge 30, 3) := by decide +kernel
theorem dX13_sizes_144 : decode cX13_sizes 144 = .ok (.aload_n 0, 1) := by decide +kernel
theorem dX13_sizes_145 : decode cX13_sizes 145 = .ok (.iload_n 3, 1) := by decide +kernel
theorem dX13_sizes_146 : decode cX13_sizes 146 = .ok (.invokevirtual 377, 3) := by decide +kernel
theorem dX13_sizes_149 : decode cX13_sizes 149 = .ok (.aload_n 0, 1) := by decide +kernel
theorem dX13_sizes_150 : decode cX13_sizes 150 = .ok (.aload_n 0, 1) := by decide +kernel
theorem dX13_sizes_151 : decode cX13_sizes 151 = .ok (.getfield 374, 3) := by decide +kernel
theorem dX13_sizes_154 : decode cX13_sizes 154 = .ok (.invokevirtual 377, 3) := by decide +kernel
theorem dX13_sizes_157 : decode cX13_sizes 157 = .ok (.if_icmp .ge 8, 3) := by decide +kernel
theorem dX13_sizes_160 : decode cX13_sizes 160 = .ok (.aload_n 0, 1) := by decide +kernel
theorem dX13_sizes_161 : decode cX13_sizes 161 = .ok (.iload_n 3, 1) := by decide +kernel
theorem dX13_sizes_162 : decode cX13_sizes 162 = .ok (.putfield 374, 3) := by decide +kernel
theorem dX13_sizes_165 : decode cX13_sizes 165 = .ok (.iinc 3 1, 3) := by decide +kernel
theorem dX13_sizes_168 : decode cX13_sizes 168 = .ok (.goto (-34), 3) := by decide +kernel
theorem dX13_sizes_171 : decode cX13_sizes 171 = .ok (.iload_n 1, 1) := by decide +kernel
theorem dX13_sizes_172 : decode cX13_sizes 172 = .ok (.ireturn, 1) := by decide +kernel
set_option maxRecDepth 100000 in
set_option maxHeartbeats 4000000 in
theorem wfX13_sizes_134 {E : KE} {p : Program} {l : Launch} {e : Env} {s : State} {m : MethodId} {args : Array Value} {below : List Frame} {meth : Method} {c : Code} {q : (Int32 × MM)} (C : mx_C E p m c cX13_sizes 4 s args RX13 meth (some .int))  (hT : E.1 = mt) (i1 : Int32)  : ∀ (n : Nat) (i3 : Int32) (M : MM) (H : Heap) (locs : List Loc) (ls : Array Slot), fX13_sizes_134 i1 n i3 M = some q → mx_H E s M H locs → lv_has ls 4 [(0, .ref (E.2.1.2.1 0)), (1, .int i1), (3, .int i3)] → W p l e (mx_rm 3) s m args below meth c H locs 0 0 (mx_Z E below args s (some (.int q.1)) q.2) (F0 m 134 ls []) := by
  have hx := C.1.1
  have hb := C.1.2.1
  have hown := C.1.2.2.2.1
  have hts := C.1.2.2.2.2
  intro n
  induction n with
  | zero =>
    intro i3 M H locs ls hf hM hl
    rw [fX13_sizes_134] at hf
    cases hf
  | succ n ih =>
    intro i3 M H locs ls hf hM hl
    rw [fX13_sizes_134] at hf
    refine lv_iload_n hx hb dX13_sizes_134 rfl (lv_at hl 2 rfl) ?_
    refine lv_aload_n hx hb dX13_sizes_135 rfl (lv_at hl 0 rfl) ?_
    refine g13_33 C hT hM dX13_sizes_136 ?_
    refine lv_iconst (v := (0 : Int32)) hx hb dX13_sizes_139 (by decide) ?_
    refine mx_ialdL C hM (mt_2 hT) (j := 0) (by decide) (mx_in_vp (by decide)) dX13_sizes_140 ?_
    refine lv_icmp_ge (tgt := 171) hx hb dX13_sizes_141 (by decide) (fun hc141 => ?_) (fun hc141 => ?_)
    · replace hf := mx_ift hc141 hf
      refine lv_iload_n hx hb dX13_sizes_171 rfl (lv_at hl 1 rfl) ?_
      exact mx_iret C hM hf dX13_sizes_172
    · replace hf := mx_iff hc141 hf
      refine lv_aload_n hx hb dX13_sizes_144 rfl (lv_at hl 0 rfl) ?_
      refine lv_iload_n hx hb dX13_sizes_145 rfl (lv_at hl 2 rfl) ?_
      obtain ⟨q146, hq146, hf⟩ := mx_bd hf
      refine mx_callV C hM hl.1 yo_X13_leftBy (h' := 2) (by decide) qw_1847 qw_1849 qs_160 (ci := 13) (q := (RX13, TX13, 52)) rfl (mt_0 hT) (As := [.int i3]) (rest := []) (st1 := [.int q146]) (kX13_leftBy C.2.2.2.1 i3 hT M hq146) rfl rfl rfl (Nat.le_of_ble_eq_true rfl) dX13_sizes_146 (fun H locs hM => ?_)
      refine lv_aload_n hx hb dX13_sizes_149 rfl (lv_at hl 0 rfl) ?_
      refine lv_aload_n hx hb dX13_sizes_150 rfl (lv_at hl 0 rfl) ?_
      refine g13_374 C hT hM dX13_sizes_151 ?_
      obtain ⟨q154, hq154, hf⟩ := mx_bd hf
      refine mx_callV C hM hl.1 yo_X13_leftBy (h' := 2) (by decide) qw_1847 qw_1849 qs_160 (ci := 13) (q := (RX13, TX13, 52)) rfl (mt_0 hT) (As := [.int (M.1 0 31)]) (rest := [.int q146]) (st1 := [.int q154, .int q146]) (kX13_leftBy C.2.2.2.1 (M.1 0 31) hT M hq154) rfl rfl rfl (Nat.le_of_ble_eq_true rfl) dX13_sizes_154 (fun H locs hM => ?_)
      refine lv_icmp_ge (tgt := 165) hx hb dX13_sizes_157 (by decide) (fun hc157 => ?_) (fun hc157 => ?_)
      · replace hf := mx_ift hc157 hf
        refine lv_iinc (v := (i3 + (1 : Int32))) (lv' := [(3, .int (i3 + (1 : Int32))), (0, .ref (E.2.1.2.1 0)), (1, .int i1)]) hx hb dX13_sizes_165 hl (k := 2) rfl rfl (by decide) rfl (fun ls hl => ?_)
        refine lv_goto (tgt := 134) hx hb dX13_sizes_168 (by decide) ?_
        exact ih (i3 + (1 : Int32)) M _ _ _ hf hM (lv_sub hl [1, 2, 0] rfl)
      · replace hf := mx_iff hc157 hf
        refine lv_aload_n hx hb dX13_sizes_160 rfl (lv_at hl 0 rfl) ?_
        refine lv_iload_n hx hb dX13_sizes_161 rfl (lv_at hl 2 rfl) ?_
        refine p13_374 C hT hM dX13_sizes_162 (fun H locs hM => ?_)
        refine lv_iinc (v := (i3 + (1 : Int32))) (lv' := [(3, .int (i3 + (1 : Int32))), (0, .ref (E.2.1.2.1 0)), (1, .int i1)]) hx hb dX13_sizes_165 hl (k := 2) rfl rfl (by decide) rfl (fun ls hl => ?_)
        refine lv_goto (tgt := 134) hx hb dX13_sizes_168 (by decide) ?_
        exact ih (i3 + (1 : Int32)) (mx_si M 0 31 i3) _ _ _ hf hM (lv_sub hl [1, 2, 0] rfl)
set_option maxRecDepth 100000 in
set_option maxHeartbeats 4000000 in
theorem wfX13_sizes_85 {E : KE} {p : Program} {l : Launch} {e : Env} {s : State} {m : MethodId} {args : Array Value} {below : List Frame} {meth : Method} {c : Code} {q : (Int32 × MM)} (C : mx_C E p m c cX13_sizes 4 s args RX13 meth (some .int))  (hT : E.1 = mt)   : ∀ (n : Nat) (i1 : Int32) (i2 : Int32) (i3 : Int32) (M : MM) (H : Heap) (locs : List Loc) (ls : Array Slot), fX13_sizes_85 n i1 i2 i3 M = some q → mx_H E s M H locs → lv_has ls 4 [(0, .ref (E.2.1.2.1 0)), (1, .int i1), (2, .int i2), (3, .int i3)] → W p l e (mx_rm 3) s m args below meth c H locs 0 0 (mx_Z E below args s (some (.int q.1)) q.2) (F0 m 85 ls []) := by
  have hx := C.1.1
  have hb := C.1.2.1
  have hown := C.1.2.2.2.1
  have hts := C.1.2.2.2.2
  intro n
  induction n with
  | zero =>
    intro i1 i2 i3 M H locs ls hf hM hl
    rw [fX13_sizes_85] at hf
    cases hf
  | succ n ih =>
    intro i1 i2 i3 M H locs ls hf hM hl
    rw [fX13_sizes_85] at hf
    refine lv_iload_n hx hb dX13_sizes_85 rfl (lv_at hl 3 rfl) ?_
    refine lv_if_le (tgt := 111) hx hb dX13_sizes_86 (by decide) (fun hc86 => ?_) (fun hc86 => ?_)
    · replace hf := mx_ift hc86 hf
      refine lv_iload_n hx hb dX13_sizes_111 rfl (lv_at hl 1 rfl) ?_
      refine lv_if_ne (tgt := 117) hx hb dX13_sizes_112 (by decide) (fun hc112 => ?_) (fun hc112 => ?_)
      · replace hf := mx_iff hc112 hf
        refine lv_aload_n hx hb dX13_sizes_117 rfl (lv_at hl 0 rfl) ?_
        refine lv_iconst (v := (1 : Int32)) hx hb dX13_sizes_118 (by decide) ?_
        refine p13_367 C hT hM (by decide) (by decide) dX13_sizes_119 (fun H locs hM => ?_)
        refine lv_aload_n hx hb dX13_sizes_122 rfl (lv_at hl 0 rfl) ?_
        refine lv_iload_n hx hb dX13_sizes_123 rfl (lv_at hl 2 rfl) ?_
        refine p13_371 C hT hM dX13_sizes_124 (fun H locs hM => ?_)
        refine lv_aload_n hx hb dX13_sizes_127 rfl (lv_at hl 0 rfl) ?_
        refine lv_iconst (v := (0 : Int32)) hx hb dX13_sizes_128 (by decide) ?_
        refine p13_374 C hT hM dX13_sizes_129 (fun H locs hM => ?_)
        refine lv_iconst (v := (1 : Int32)) hx hb dX13_sizes_132 (by decide) ?_
        refine lv_istore_n (lv' := [(3, .int (1 : Int32)), (0, .ref (E.2.1.2.1 0)), (1, .int i1), (2, .int i2)]) hx hb dX13_sizes_133 rfl hl (by decide) rfl (fun ls hl => ?_)
        exact wfX13_sizes_134 C hT i1 mx_fu (1 : Int32) (mx_si (mx_si (mx_si M 0 32 (1 : Int32)) 0 30 i2) 0 31 (0 : Int32)) _ _ _ hf hM (lv_sub hl [1, 2, 0] rfl)
      · replace hf := mx_ift hc112 hf
        refine lv_iconst (v := (0 : Int32)) hx hb dX13_sizes_115 (by decide) ?_
        exact mx_iret C hM hf dX13_sizes_116
    · replace hf := mx_iff hc86 hf
      refine lv_aload_n hx hb dX13_sizes_89 rfl (lv_at hl 0 rfl) ?_
      refine lv_iload_n hx hb dX13_sizes_90 rfl (lv_at hl 3 rfl) ?_
      obtain ⟨q91, hq91, hf⟩ := mx_bd hf
      refine mx_callV C hM hl.1 yo_X13_isSize (h' := 1) (by decide) qw_1843 qw_1845 qs_159 (ci := 13) (q := (RX13, TX13, 52)) rfl (mt_0 hT) (As := [.int i3]) (rest := []) (st1 := [.int (mx_b q91)]) (kX13_isSize C.2.2.2.1 i3 hT M hq91) rfl rfl rfl (Nat.le_of_ble_eq_true rfl) dX13_sizes_91 (fun H locs hM => ?_)
      refine lv_if_ne (tgt := 100) hx hb dX13_sizes_94 (by decide) (fun hc94 => ?_) (fun hc94 => ?_)
      · replace hf := mx_iff hc94 hf
        refine lv_iinc (v := (i1 + (1 : Int32))) (lv' := [(1, .int (i1 + (1 : Int32))), (0, .ref (E.2.1.2.1 0)), (2, .int i2), (3, .int i3)]) hx hb dX13_sizes_100 hl (k := 1) rfl rfl (by decide) rfl (fun ls hl => ?_)
        refine lv_iload_n hx hb dX13_sizes_103 rfl (lv_at hl 3 rfl) ?_
        refine lv_istore_n (lv' := [(2, .int i3), (1, .int (i1 + (1 : Int32))), (0, .ref (E.2.1.2.1 0)), (3, .int i3)]) hx hb dX13_sizes_104 rfl hl (by decide) rfl (fun ls hl => ?_)
        refine lv_iinc (v := (i3 + (-1 : Int32))) (lv' := [(3, .int (i3 + (-1 : Int32))), (2, .int i3), (1, .int (i1 + (1 : Int32))), (0, .ref (E.2.1.2.1 0))]) hx hb dX13_sizes_105 hl (k := 3) rfl rfl (by decide) rfl (fun ls hl => ?_)
        refine lv_goto (tgt := 85) hx hb dX13_sizes_108 (by decide) ?_
        exact ih (i1 + (1 : Int32)) i3 (i3 + (-1 : Int32)) M _ _ _ hf hM (lv_sub hl [3, 2, 1, 0] rfl)
      · replace hf := mx_ift hc94 hf
        refine lv_goto (tgt := 105) hx hb dX13_sizes_97 (by decide) ?_
        refine lv_iinc (v := (i3 + (-1 : Int32))) (lv' := [(3, .int (i3 + (-1 : Int32))), (0, .ref (E.2.1.2.1 0)), (1, .int i1), (2, .int i2)]) hx hb dX13_sizes_105 hl (k := 3) rfl rfl (by decide) rfl (fun ls hl => ?_)
        refine lv_goto (tgt := 85) hx hb dX13_sizes_108 (by decide) ?_
        exact ih i1 i2 (i3 + (-1 : Int32)) M _ _ _ hf hM (lv_sub hl [1, 2, 3, 0] rfl)
set_option maxRecDepth 100000 in
set_option maxHeartbeats 4000000 in
theorem wfX13_sizes_39 {E : KE} {p : Program} {l : Launch} {e : Env} {s : State} {m : MethodId} {args : Array Value} {below : List Frame} {meth : Method} {c : Code} {q : (Int32 × MM)} (C : mx_C E p m c cX13_sizes 4 s args RX13 meth (some .int))  (hT : E.1 = mt)   : ∀ (n : Nat) (i1 : Int32) (M : MM) (H : Heap) (locs : List Loc) (ls : Array Slot), fX13_sizes_39 n i1 M = some q → mx_H E s M H locs → lv_has ls 4 [(0, .ref (E.2.1.2.1 0)), (1, .int i1)] → W p l e (mx_rm 3) s m args below meth c H locs 0 0 (mx_Z E below args s (some (.int q.1)) q.2) (F0 m 39 ls []) := by
  have hx := C.1.1
  have hb := C.1.2.1
  have hown := C.1.2.2.2.1
  have hts := C.1.2.2.2.2
  intro n
  induction n with
  | zero =>
    intro i1 M H locs ls hf hM hl
    rw [fX13_sizes_39] at hf
    cases hf
  | succ n ih =>
    intro i1 M H locs ls hf hM hl
    rw [fX13_sizes_39] at hf
    refine lv_iload_n hx hb dX13_sizes_39 rfl (lv_at hl 1 rfl) ?_
    refine lv_aload_n hx hb dX13_sizes_40 rfl (lv_at hl 0 rfl) ?_
    refine g13_18 C hT hM dX13_sizes_41 ?_
    refine lv_icmp_ge (tgt := 78) hx hb dX13_sizes_44 (by decide) (fun hc44 => ?_) (fun hc44 => ?_)
    · replace hf := mx_ift hc44 hf
      refine lv_iconst (v := (0 : Int32)) hx hb dX13_sizes_78 (by decide) ?_
      refine lv_istore_n (lv' := [(1, .int (0 : Int32)), (0, .ref (E.2.1.2.1 0))]) hx hb dX13_sizes_79 rfl hl (by decide) rfl (fun ls hl => ?_)
      refine lv_iconst (v := (0 : Int32)) hx hb dX13_sizes_80 (by decide) ?_
      refine lv_istore_n (lv' := [(2, .int (0 : Int32)), (1, .int (0 : Int32)), (0, .ref (E.2.1.2.1 0))]) hx hb dX13_sizes_81 rfl hl (by decide) rfl (fun ls hl => ?_)
      refine lv_bipush (v := (20 : Int32)) hx hb dX13_sizes_82 (by decide) ?_
      refine lv_istore_n (lv' := [(3, .int (20 : Int32)), (2, .int (0 : Int32)), (1, .int (0 : Int32)), (0, .ref (E.2.1.2.1 0))]) hx hb dX13_sizes_84 rfl hl (by decide) rfl (fun ls hl => ?_)
      exact wfX13_sizes_85 C hT mx_fu (0 : Int32) (0 : Int32) (20 : Int32) M _ _ _ hf hM (lv_sub hl [3, 2, 1, 0] rfl)
    · replace hf := mx_iff hc44 hf
      refine lv_aload_n hx hb dX13_sizes_47 rfl (lv_at hl 0 rfl) ?_
      refine lv_aload_n hx hb dX13_sizes_48 rfl (lv_at hl 0 rfl) ?_
      refine lv_iload_n hx hb dX13_sizes_49 rfl (lv_at hl 1 rfl) ?_
      obtain ⟨q50, hq50, hf⟩ := mx_bd hf
      refine mx_callV C hM hl.1 yo_X13_octet (h' := 0) (by decide) qw_1839 qw_1841 qs_158 (ci := 13) (q := (RX13, TX13, 52)) rfl (mt_0 hT) (As := [.int i1]) (rest := [.ref (E.2.1.2.1 0)]) (st1 := [.int q50, .ref (E.2.1.2.1 0)]) (kX13_octet C.2.2.2.1 i1 hT M hq50) rfl rfl rfl (Nat.le_of_ble_eq_true rfl) dX13_sizes_50 (fun H locs hM => ?_)
      obtain ⟨q53, hq53, hf⟩ := mx_bd hf
      refine mx_callV C hM hl.1 yo_X13_isPerson (h' := 1) (by decide) qw_1646 qw_1648 qs_130 (ci := 13) (q := (RX13, TX13, 52)) rfl (mt_0 hT) (As := [.int q50]) (rest := []) (st1 := [.int (mx_b q53)]) (kX13_isPerson C.2.2.2.1 q50 hT M hq53) rfl rfl rfl (Nat.le_of_ble_eq_true rfl) dX13_sizes_53 (fun H locs hM => ?_)
      refine lv_if_eq (tgt := 70) hx hb dX13_sizes_56 (by decide) (fun hc56 => ?_) (fun hc56 => ?_)
      · replace hf := mx_ift hc56 hf
        refine lv_iconst (v := (-1 : Int32)) hx hb dX13_sizes_70 (by decide) ?_
        exact mx_iret C hM hf dX13_sizes_71
      · replace hf := mx_iff hc56 hf
        refine lv_aload_n hx hb dX13_sizes_59 rfl (lv_at hl 0 rfl) ?_
        refine lv_iload_n hx hb dX13_sizes_60 rfl (lv_at hl 1 rfl) ?_
        refine lv_iconst (v := (1 : Int32)) hx hb dX13_sizes_61 (by decide) ?_
        refine lv_iadd hx hb dX13_sizes_62 ?_
        obtain ⟨q63, hq63, hf⟩ := mx_bd hf
        refine mx_callV C hM hl.1 yo_X13_octet (h' := 0) (by decide) qw_1839 qw_1841 qs_158 (ci := 13) (q := (RX13, TX13, 52)) rfl (mt_0 hT) (As := [.int (i1 + (1 : Int32))]) (rest := []) (st1 := [.int q63]) (kX13_octet C.2.2.2.1 (i1 + (1 : Int32)) hT M hq63) rfl rfl rfl (Nat.le_of_ble_eq_true rfl) dX13_sizes_63 (fun H locs hM => ?_)
        refine lv_iconst (v := (2 : Int32)) hx hb dX13_sizes_66 (by decide) ?_
        refine lv_icmp_le (tgt := 72) hx hb dX13_sizes_67 (by decide) (fun hc67 => ?_) (fun hc67 => ?_)
        · replace hf := mx_ift hc67 hf
          refine lv_iinc (v := (i1 + (2 : Int32))) (lv' := [(1, .int (i1 + (2 : Int32))), (0, .ref (E.2.1.2.1 0))]) hx hb dX13_sizes_72 hl (k := 1) rfl rfl (by decide) rfl (fun ls hl => ?_)
          refine lv_goto (tgt := 39) hx hb dX13_sizes_75 (by decide) ?_
          exact ih (i1 + (2 : Int32)) M _ _ _ hf hM (lv_sub hl [1, 0] rfl)
        · replace hf := mx_iff hc67 hf
          refine lv_iconst (v := (-1 : Int32)) hx hb dX13_sizes_70 (by decide) ?_
          exact mx_iret C hM hf dX13_sizes_71
set_option maxRecDepth 100000 in
set_option maxHeartbeats 4000000 in
theorem kX13_sizes {E : KE} {l : Launch} (hE : mx_ok E)  (hT : E.1 = mt) (M : MM) {q : (Int32 × MM)} (hf : fX13_sizes M = some q) : mx_Met E l yX13_sizes cX13_sizes 4 (some .int) 3 [.ref (E.2.1.2.1 0)] M (some (.int q.1)) q.2 := by
  refine mx_enter hE (by decide) (Nat.le_of_ble_eq_true rfl) ?_
  intro p e s m below meth c C hM hn ls hl
  have hx := C.1.1
  have hb := C.1.2.1
  have hown := C.1.2.2.2.1
  have hts := C.1.2.2.2.2
  have hl : lv_has ls 4 [(0, .ref (E.2.1.2.1 0))] := hl
  rw [fX13_sizes] at hf
  refine lv_aload_n hx hb dX13_sizes_0 rfl (lv_at hl 0 rfl) ?_
  refine lv_iconst (v := (0 : Int32)) hx hb dX13_sizes_1 (by decide) ?_
  refine p13_1 C hT hM dX13_sizes_2 (fun H locs hM => ?_)
  refine lv_aload_n hx hb dX13_sizes_5 rfl (lv_at hl 0 rfl) ?_
  refine lv_sipush (v := (940 : Int32)) hx hb dX13_sizes_6 (by decide) ?_
  obtain ⟨q9, hq9, hf⟩ := mx_bd hf
  refine mx_callV C hM hl.1 yo_X13_taken (h' := 0) (by decide) qw_1554 qw_1556 qs_112 (ci := 13) (q := (RX13, TX13, 52)) rfl (mt_0 hT) (As := [.int (940 : Int32)]) (rest := []) (st1 := []) (kX13_taken C.2.2.2.1 (940 : Int32) hT (mx_si M 0 0 (0 : Int32)) hq9) rfl rfl rfl (Nat.le_of_ble_eq_true rfl) dX13_sizes_9 (fun H locs hM => ?_)
  refine lv_aload_n hx hb dX13_sizes_12 rfl (lv_at hl 0 rfl) ?_
  refine g13_18 C hT hM dX13_sizes_13 ?_
  refine lv_iconst (v := (2 : Int32)) hx hb dX13_sizes_16 (by decide) ?_
  refine lv_bipush (v := (16 : Int32)) hx hb dX13_sizes_17 (by decide) ?_
  obtain ⟨q19, hq19, hf⟩ := mx_bd hf
  refine mx_callS C hM hl.1 yo_X13_isIn (h' := 0) (by decide) qw_1608 qw_1609 (As := [.int (q9.1 0 3), .int (2 : Int32), .int (16 : Int32)]) (rest := []) (st1 := [.int (mx_b q19)]) (kX13_isIn C.2.2.2.1 (q9.1 0 3) (2 : Int32) (16 : Int32) hT q9 hq19) rfl rfl rfl (Nat.le_of_ble_eq_true rfl) dX13_sizes_19 (fun H locs hM => ?_)
  refine lv_if_eq (tgt := 35) hx hb dX13_sizes_22 (by decide) (fun hc22 => ?_) (fun hc22 => ?_)
  · replace hf := mx_ift hc22 hf
    refine lv_iconst (v := (-1 : Int32)) hx hb dX13_sizes_35 (by decide) ?_
    exact mx_iret C hM hf dX13_sizes_36
  · replace hf := mx_iff hc22 hf
    refine lv_aload_n hx hb dX13_sizes_25 rfl (lv_at hl 0 rfl) ?_
    refine g13_18 C hT hM dX13_sizes_26 ?_
    refine lv_iconst (v := (2 : Int32)) hx hb dX13_sizes_29 (by decide) ?_
    refine lv_irem hx hb dX13_sizes_30 (by decide) ?_
    refine lv_iconst (v := (1 : Int32)) hx hb dX13_sizes_31 (by decide) ?_
    refine lv_icmp_ne (tgt := 37) hx hb dX13_sizes_32 (by decide) (fun hc32 => ?_) (fun hc32 => ?_)
    · replace hf := mx_iff hc32 hf
      refine lv_iconst (v := (0 : Int32)) hx hb dX13_sizes_37 (by decide) ?_
      refine lv_istore_n (lv' := [(1, .int (0 : Int32)), (0, .ref (E.2.1.2.1 0))]) hx hb dX13_sizes_38 rfl hl (by decide) rfl (fun ls hl => ?_)
      exact wfX13_sizes_39 C hT mx_fu (0 : Int32) q9 _ _ _ hf hM (lv_sub hl [1, 0] rfl)
    · replace hf := mx_ift hc32 hf
      refine lv_iconst (v := (-1 : Int32)) hx hb dX13_sizes_35 (by decide) ?_
      exact mx_iret C hM hf dX13_sizes_36
theorem dX13_sizeLeast_0 : decode cX13_sizeLeast 0 = .ok (.aload_n 0, 1) := by decide +kernel
theorem dX13_sizeLeast_1 : decode cX13_sizeLeast 1 = .ok (.iconst 0, 1) := by decide +kernel
theorem dX13_sizeLeast_2 : decode cX13_sizeLeast 2 = .ok (.putfield 1, 3) := by decide +kernel
theorem dX13_sizeLeast_5 : decode cX13_sizeLeast 5 = .ok (.aload_n 0, 1) := by decide +kernel
theorem dX13_sizeLeast_6 : decode cX13_sizeLeast 6 = .ok (.getfield 367, 3) := by decide +kernel
theorem dX13_sizeLeast_9 : decode cX13_sizeLeast 9 = .ok (.ifCond .eq 10, 3) := by decide +kernel
theorem dX13_sizeLeast_12 : decode cX13_sizeLeast 12 = .ok (.aload_n 0, 1) := by decide +kernel
theorem dX13_sizeLeast_13 : decode cX13_sizeLeast 13 = .ok (.getfield 371, 3) := by decide +kernel
theorem dX13_sizeLeast_16 : decode cX13_sizeLeast 16 = .ok (.goto 4, 3) := by decide +kernel
theorem dX13_sizeLeast_19 : decode cX13_sizeLeast 19 = .ok (.iconst (-1), 1) := by decide +kernel
theorem dX13_sizeLeast_20 : decode cX13_sizeLeast 20 = .ok (.ireturn, 1) := by decide +kernel
set_option maxRecDepth 100000 in
set_option maxHeartbeats 4000000 in
theorem kX13_sizeLeast {E : KE} {l : Launch} (hE : mx_ok E)  (hT : E.1 = mt) (M : MM) {q : (Int32 × MM)} (hf : fX13_sizeLeast M = some q) : mx_Met E l yX13_sizeLeast cX13_sizeLeast 1 (some .int) 0 [.ref (E.2.1.2.1 0)] M (some (.int q.1)) q.2 := by
  refine mx_enter hE (by decide) (Nat.le_of_ble_eq_true rfl) ?_
  intro p e s m below meth c C hM hn ls hl
  have hx := C.1.1
  have hb := C.1.2.1
  have hown := C.1.2.2.2.1
  have hts := C.1.2.2.2.2
  have hl : lv_has ls 1 [(0, .ref (E.2.1.2.1 0))] := hl
  rw [fX13_sizeLeast] at hf
  refine lv_aload_n hx hb dX13_sizeLeast_0 rfl (lv_at hl 0 rfl) ?_
  refine lv_iconst (v := (0 : Int32)) hx hb dX13_sizeLeast_1 (by decide) ?_
  refine p13_1 C hT hM dX13_sizeLeast_2 (fun H locs hM => ?_)
  refine lv_aload_n hx hb dX13_sizeLeast_5 rfl (lv_at hl 0 rfl) ?_
  refine g13_367 C hT hM dX13_sizeLeast_6 ?_
  refine lv_if_eq (tgt := 19) hx hb dX13_sizeLeast_9 (by decide) (fun hc9 => ?_) (fun hc9 => ?_)
  · replace hf := mx_ift hc9 hf
    refine lv_iconst (v := (-1 : Int32)) hx hb dX13_sizeLeast_19 (by decide) ?_
    exact mx_iret C hM hf dX13_sizeLeast_20
  · replace hf := mx_iff hc9 hf
    refine lv_aload_n hx hb dX13_sizeLeast_12 rfl (lv_at hl 0 rfl) ?_
    refine g13_371 C hT hM dX13_sizeLeast_13 ?_
    refine lv_goto (tgt := 20) hx hb dX13_sizeLeast_16 (by decide) ?_
    exact mx_iret C hM hf dX13_sizeLeast_20
theorem dX13_knuckle_0 : decode cX13_knuckle 0 = .ok (.aload_n 0, 1) := by decide +kernel
theorem dX13_knuckle_1 : decode cX13_knuckle 1 = .ok (.iconst 0, 1) := by decide +kernel
theorem dX13_knuckle_2 : decode cX13_knuckle 2 = .ok (.putfield 1, 3) := by decide +kernel
theorem dX13_knuckle_5 : decode cX13_knuckle 5 = .ok (.aload_n 0, 1) := by decide +kernel
theorem dX13_knuckle_6 : decode cX13_knuckle 6 = .ok (.getfield 367, 3) := by decide +kernel
theorem dX13_knuckle_9 : decode cX13_knuckle 9 = .ok (.ifCond .eq 10, 3) := by decide +kernel
theorem dX13_knuckle_12 : decode cX13_knuckle 12 = .ok (.aload_n 0, 1) := by decide +kernel
theorem dX13_knuckle_13 : decode cX13_knuckle 13 = .ok (.getfield 374, 3) := by decide +kernel
theorem dX13_knuckle_16 : decode cX13_knuckle 16 = .ok (.goto 4, 3) := by decide +kernel
theorem dX13_knuckle_19 : decode cX13_knuckle 19 = .ok (.iconst (-1), 1) := by decide +kernel
theorem dX13_knuckle_20 : decode cX13_knuckle 20 = .ok (.ireturn, 1) := by decide +kernel
set_option maxRecDepth 100000 in
set_option maxHeartbeats 4000000 in
theorem kX13_knuckle {E : KE} {l : Launch} (hE : mx_ok E)  (hT : E.1 = mt) (M : MM) {q : (Int32 × MM)} (hf : fX13_knuckle M = some q) : mx_Met E l yX13_knuckle cX13_knuckle 1 (some .int) 0 [.ref (E.2.1.2.1 0)] M (some (.int q.1)) q.2 := by
  refine mx_enter hE (by decide) (Nat.le_of_ble_eq_true rfl) ?_
  intro p e s m below meth c C hM hn ls hl
  have hx := C.1.1
  have hb := C.1.2.1
  have hown := C.1.2.2.2.1
  have hts := C.1.2.2.2.2
  have hl : lv_has ls 1 [(0, .ref (E.2.1.2.1 0))] := hl
  rw [fX13_knuckle] at hf
  refine lv_aload_n hx hb dX13_knuckle_0 rfl (lv_at hl 0 rfl) ?_
  refine lv_iconst (v := (0 : Int32)) hx hb dX13_knuckle_1 (by decide) ?_
  refine p13_1 C hT hM dX13_knuckle_2 (fun H locs hM => ?_)
  refine lv_aload_n hx hb dX13_knuckle_5 rfl (lv_at hl 0 rfl) ?_
  refine g13_367 C hT hM dX13_knuckle_6 ?_
  refine lv_if_eq (tgt := 19) hx hb dX13_knuckle_9 (by decide) (fun hc9 => ?_) (fun hc9 => ?_)
  · replace hf := mx_ift hc9 hf
    refine lv_iconst (v := (-1 : Int32)) hx hb dX13_knuckle_19 (by decide) ?_
    exact mx_iret C hM hf dX13_knuckle_20
  · replace hf := mx_iff hc9 hf
    refine lv_aload_n hx hb dX13_knuckle_12 rfl (lv_at hl 0 rfl) ?_
    refine g13_374 C hT hM dX13_knuckle_13 ?_
    refine lv_goto (tgt := 20) hx hb dX13_knuckle_16 (by decide) ?_
    exact mx_iret C hM hf dX13_knuckle_20
theorem dX13_laysWays_0 : decode cX13_laysWays 0 = .ok (.aload_n 0, 1) := by decide +kernel
theorem dX13_laysWays_1 : decode cX13_laysWays 1 = .ok (.getfield 33, 3) := by decide +kernel
theorem dX13_laysWays_4 : decode cX13_laysWays 4 = .ok (.iconst 1, 1) := by decide +kernel
theorem dX13_laysWays_5 : decode cX13_laysWays 5 = .ok (.iaload, 1) := by decide +kernel
theorem dX13_laysWays_6 : decode cX13_laysWays 6 = .ok (.istore_n 1, 1) := by decide +kernel
theorem dX13_laysWays_7 : decode cX13_laysWays 7 = .ok (.iconst 0, 1) := by decide +kernel
theorem dX13_laysWays_8 : decode cX13_laysWays 8 = .ok (.istore_n 2, 1) := by decide +kernel
theorem dX13_laysWays_9 : decode cX13_laysWays 9 = .ok (.iload_n 2, 1) := by decide +kernel
theorem dX13_laysWays_10 : decode cX13_laysWays 10 = .ok (.sipush 1024, 3) := by decide +kernel
theorem dX13_laysWays_13 : decode cX13_laysWays 13 = .ok (.if_icmp .ge 44, 3) := by decide +kernel
theorem dX13_laysWays_16 : decode cX13_laysWays 16 = .ok (.aload_n 0, 1) := by decide +kernel
theorem dX13_laysWays_17 : decode cX13_laysWays 17 = .ok (.getfield 74, 3) := by decide +kernel
theorem dX13_laysWays_20 : decode cX13_laysWays 20 = .ok (.iload_n 2, 1) := by decide +kernel
theorem dX13_laysWays_21 : decode cX13_laysWays 21 = .ok (.iload_n 2, 1) := by decide +kernel
theorem dX13_laysWays_22 : decode cX13_laysWays 22 = .ok (.ifCond .ne 7, 3) := by decide +kernel
theorem dX13_laysWays_25 : decode cX13_laysWays 25 = .ok (.iconst 1, 1) := by decide +kernel
theorem dX13_laysWays_26 : decode cX13_laysWays 26 = .ok (.goto 4, 3) := by decide +kernel
theorem dX13_laysWays_29 : decode cX13_laysWays 29 = .ok (.iconst 0, 1) := by decide +kernel
theorem dX13_laysWays_30 : decode cX13_laysWays 30 = .ok (.iastore, 1) := by decide +kernel
theorem dX13_laysWays_31 : decode cX13_laysWays 31 = .ok (.aload_n 0, 1) := by decide +kernel
theorem dX13_laysWays_32 : decode cX13_laysWays 32 = .ok (.getfield 77, 3) := by decide +kernel
theorem dX13_laysWays_35 : decode cX13_laysWays 35 = .ok (.iload_n 2, 1) := by decide +kernel
theorem dX13_laysWays_36 : decode cX13_laysWays 36 = .ok (.iload_n 2, 1) := by decide +kernel
theorem dX13_laysWays_37 : decode cX13_laysWays 37 = .ok (.sipush 128, 3) := by decide +kernel
theorem dX13_laysWays_40 : decode cX13_laysWays 40 = .ok (.idiv, 1) := by decide +kernel
theorem dX13_laysWays_41 : decode cX13_laysWays 41 = .ok (.iload_n 1, 1) := by decide +kernel
theorem dX13_laysWays_42 : decode cX13_laysWays 42 = .ok (.if_icmp .ne 7, 3) := by decide +kernel
theorem dX13_laysWays_45 : decode cX13_laysWays 45 = .ok (.iconst 1, 1) := by decide +kernel
theorem dX13_laysWays_46 : decode cX13_laysWays 46 = .ok (.goto 4, 3) := by decide +kernel
theorem dX13_laysWays_49 : decode cX13_laysWays 49 = .ok (.iconst 0, 1) := by decide +kernel
theorem dX13_laysWays_50 : decode cX13_laysWays 50 = .ok (.iastore, 1) := by decide +kernel
theorem dX13_laysWays_51 : decode cX13_laysWays 51 = .ok (.iinc 2 1, 3) := by decide +kernel
theorem dX13_laysWays_54 : decode cX13_laysWays 54 = .ok (.goto (-45), 3) := by decide +kernel
theorem dX13_laysWays_57 : decode cX13_laysWays 57 = .ok (.iconst 0, 1) := by decide +kernel
theorem dX13_laysWays_58 : decode cX13_laysWays 58 = .ok (.istore_n 2, 1) := by decide +kernel
theorem dX13_laysWays_59 : decode cX13_laysWays 59 = .ok (.iload_n 2, 1) := by decide +kernel
theorem dX13_laysWays_60 : decode cX13_laysWays 60 = .ok (.iload_n 1, 1) := by decide +kernel
theorem dX13_laysWays_61 : decode cX13_laysWays 61 = .ok (.if_icmp .ge 97, 3) := by decide +kernel
theorem dX13_laysWays_64 : decode cX13_laysWays 64 = .ok (.iconst 0, 1) := by decide +kernel
theorem dX13_laysWays_65 : decode cX13_laysWays 65 = .ok (.istore_n 3, 1) := by decide +kernel
theorem dX13_laysWays_66 : decode cX13_laysWays 66 = .ok (.iload_n 3, 1) := by decide +kernel
theorem dX13_laysWays_67 : decode cX13_laysWays 67 = .ok (.sipush 128, 3) := by decide +kernel
theorem dX13_laysWays_70 : decode cX13_laysWays 70 = .ok (.if_icmp .ge 82, 3) := by decide +kernel
theorem dX13_laysWays_73 : decode cX13_laysWays 73 = .ok (.iconst 0, 1) := by decide +kernel
theorem dX13_laysWays_74 : decode cX13_laysWays 74 = .ok (.istore 4, 2) := by decide +kernel
theorem dX13_laysWays_76 : decode cX13_laysWays 76 = .ok (.iload 4, 2) := by decide +kernel
theorem dX13_laysWays_78 : decode cX13_laysWays 78 = .ok (.aload_n 0, 1) := by decide +kernel
theorem dX13_laysWays_79 : decode cX13_laysWays 79 = .ok (.getfield 33, 3) := by decide +kernel
theorem dX13_laysWays_82 : decode cX13_laysWays 82 = .ok (.iconst 0, 1) := by decide +kernel
theorem dX13_laysWays_83 : decode cX13_laysWays 83 = .ok (.iaload, 1) := by decide +kernel
theorem dX13_laysWays_84 : decode cX13_laysWays 84 = .ok (.if_icmp .ge 62, 3) := by decide +kernel
theorem dX13_laysWays_87 : decode cX13_laysWays 87 = .ok (.iload_n 3, 1) := by decide +kernel
theorem dX13_laysWays_88 : decode cX13_laysWays 88 = .ok (.iload 4, 2) := by decide +kernel
theorem dX13_laysWays_90 : decode cX13_laysWays 90 = .ok (.invokestatic 218, 3) := by decide +kernel
theorem dX13_laysWays_93 : decode cX13_laysWays 93 = .ok (.ifCond .ne 47, 3) := by decide +kernel
theorem dX13_laysWays_96 : decode cX13_laysWays 96 = .ok (.aload_n 0, 1) := by decide +kernel
theorem dX13_laysWays_97 : decode cX13_laysWays 97 = .ok (.iload_n 2, 1) := by decide +kernel
theorem dX13_laysWays_98 : decode cX13_laysWays 98 = .ok (.iload 4, 2) := by decide +kernel
theorem dX13_laysWays_100 : decode cX13_laysWays 100 = .ok (.invokevirtual 298, 3) := by decide +kernel
theorem dX13_laysWays_103 : decode cX13_laysWays 103 = .ok (.ifCond .eq 37, 3) := by decide +kernel
theorem dX13_laysWays_106 : decode cX13_laysWays 106 = .ok (.aload_n 0, 1) := by decide +kernel
theorem dX13_laysWays_107 : decode cX13_laysWays 107 = .ok (.getfield 74, 3) := by decide +kernel
theorem dX13_laysWays_110 : decode cX13_laysWays 110 = .ok (.sipush 128, 3) := by decide +kernel
theorem dX13_laysWays_113 : decode cX13_laysWays 113 = .ok (.iload_n 2, 1) := by decide +kernel
theorem dX13_laysWays_114 : decode cX13_laysWays 114 = .ok (.iconst 1, 1) := by decide +kernel
theorem dX13_laysWays_115 : decode cX13_laysWays 115 = .ok (.iadd, 1) := by decide +kernel
theorem dX13_laysWays_116 : decode cX13_laysWays 116 = .ok (.imul, 1) := by decide +kernel
theorem dX13_laysWays_117 : decode cX13_laysWays 117 = .ok (.iload_n 3, 1) := by decide +kernel
theorem dX13_laysWays_118 : decode cX13_laysWays 118 = .ok (.iconst 1, 1) := by decide +kernel
theorem dX13_laysWays_119 : decode cX13_laysWays 119 = .ok (.iload 4, 2) := by decide +kernel
theorem dX13_laysWays_121 : decode cX13_laysWays 121 = .ok (.ishl, 1) := by decide +kernel
theorem dX13_laysWays_122 : decode cX13_laysWays 122 = .ok (.ior, 1) := by decide +kernel
theorem dX13_laysWays_123 : decode cX13_laysWays 123 = .ok (.iadd, 1) := by decide +kernel
theorem dX13_laysWays_124 : decode cX13_laysWays 124 = .ok (.dup2, 1) := by decide +kernel
theorem dX13_laysWays_125 : decode cX13_laysWays 125 = .ok (.iaload, 1) := by decide +kernel
theorem dX13_laysWays_126 : decode cX13_laysWays 126 = .ok (.aload_n 0, 1) := by decide +kernel
theorem dX13_laysWays_127 : decode cX13_laysWays 127 = .ok (.getfield 74, 3) := by decide +kernel
theorem dX13_laysWays_130 : decode cX13_laysWays 130 = .ok (.sipush 128, 3) := by decide +kernel
theorem dX13_laysWays_133 : decode cX13_laysWays 133 = .ok (.iload_n 2, 1) := by decide +kernel
theorem dX13_laysWays_134 : decode cX13_laysWays 134 = .ok (.imul, 1) := by decide +kernel
theorem dX13_laysWays_135 : decode cX13_laysWays 135 = .ok (.iload_n 3, 1) := by decide +kernel
theorem dX13_laysWays_136 : decode cX13_laysWays 136 = .ok (.iadd, 1) := by decide +kernel
theorem dX13_laysWays_137 : decode cX13_laysWays 137 = .ok (.iaload, 1) := by decide +kernel
theorem dX13_laysWays_138 : decode cX13_laysWays 138 = .ok (.iadd, 1) := by decide +kernel
theorem dX13_laysWays_139 : decode cX13_laysWays 139 = .ok (.iastore, 1) := by decide +kernel
theorem dX13_laysWays_140 : decode cX13_laysWays 140 = .ok (.iinc 4 1, 3) := by decide +kernel
theorem dX13_laysWays_143 : decode cX13_laysWays 143 = .ok (.goto (-67), 3) := by decide +kernel
theorem dX13_laysWays_146 : decode cX13_laysWays 146 = .ok (.iinc 3 1, 3) := by decide +kernel
theorem dX13_laysWays_149 : decode cX13_laysWays 149 = .ok (.goto (-83), 3) := by decide +kernel
theorem dX13_laysWays_152 : decode cX13_laysWays 152 = .ok (.iinc 2 1, 3) := by decide +kernel
theorem dX13_laysWays_155 : decode cX13_laysWays 155 = .ok (.goto (-96), 3) := by decide +kernel
theorem dX13_laysWays_158 : decode cX13_laysWays 158 = .ok (.iload_n 1, 1) := by decide +kernel
theorem dX13_laysWays_159 : decode cX13_laysWays 159 = .ok (.iconst 1, 1) := by decide +kernel
theorem dX13_laysWays_160 : decode cX13_laysWays 160 = .ok (.isub, 1) := by decide +kernel
theorem dX13_laysWays_161 : decode cX13_laysWays 161 = .ok (.istore_n 2, 1) := by decide +kernel
theorem dX13_laysWays_162 : decode cX13_laysWays 162 = .ok (.iload_n 2, 1) := by decide +kernel
theorem dX13_laysWays_163 : decode cX13_laysWays 163 = .ok (.ifCond .lt 97, 3) := by decide +kernel
theorem dX13_laysWays_166 : decode cX13_laysWays 166 = .ok (.iconst 0, 1) := by decide +kernel
theorem dX13_laysWays_167 : decode cX13_laysWays 167 = .ok (.istore_n 3, 1) := by decide +kernel
theorem dX13_laysWays_168 : decode cX13_laysWays 168 = .ok (.iload_n 3, 1) := by decide +kernel
theorem dX13_laysWays_169 : decode cX13_laysWays 169 = .ok (.sipush 128, 3) := by decide +kernel
theorem dX13_laysWays_172 : decode cX13_laysWays 172 = .ok (.if_icmp .ge 82, 3) := by decide +kernel
theorem dX13_laysWays_175 : decode cX13_laysWays 175 = .ok (.iconst 0, 1) := by decide +kernel
theorem dX13_laysWays_176 : decode cX13_laysWays 176 = .ok (.istore 4, 2) := by decide +kernel
theorem dX13_laysWays_178 : decode cX13_laysWays 178 = .ok (.iload 4, 2) := by decide +kernel
theorem dX13_laysWays_180 : decode cX13_laysWays 180 = .ok (.aload_n 0, 1) := by decide +kernel
theorem dX13_laysWays_181 : decode cX13_laysWays 181 = .ok (.getfield 33, 3) := by decide +kernel
theorem dX13_laysWays_184 : decode cX13_laysWays 184 = .ok (.iconst 0, 1) := by decide +kernel
theorem dX13_laysWays_185 : decode cX13_laysWays 185 = .ok (.iaload, 1) := by decide +kernel
theorem dX13_laysWays_186 : decode cX13_laysWays 186 = .ok (.if_icmp .ge 62, 3) := by decide +kernel
theorem dX13_laysWays_189 : decode cX13_laysWays 189 = .ok (.iload_n 3, 1) := by decide +kernel
theorem dX13_laysWays_190 : decode cX13_laysWays 190 = .ok (.iload 4, 2) := by decide +kernel
theorem dX13_laysWays_192 : decode cX13_laysWays 192 = .ok (.invokestatic 218, 3) := by decide +kernel
theorem dX13_laysWays_195 : decode cX13_laysWays 195 = .ok (.ifCond .ne 47, 3) := by decide +kernel
theorem dX13_laysWays_198 : decode cX13_laysWays 198 = .ok (.aload_n 0, 1) := by decide +kernel
theorem dX13_laysWays_199 : decode cX13_laysWays 199 = .ok (.iload_n 2, 1) := by decide +kernel
theorem dX13_laysWays_200 : decode cX13_laysWays 200 = .ok (.iload 4, 2) := by decide +kernel
theorem dX13_laysWays_202 : decode cX13_laysWays 202 = .ok (.invokevirtual 298, 3) := by decide +kernel
theorem dX13_laysWays_205 : decode cX13_laysWays 205 = .ok (.ifCond .eq 37, 3) := by decide +kernel
theorem dX13_laysWays_208 : decode cX13_laysWays 208 = .ok (.aload_n 0, 1) := by decide +kernel
theorem dX13_laysWays_209 : decode cX13_laysWays 209 = .ok (.getfield 77, 3) := by decide +kernel
theorem dX13_laysWays_212 : decode cX13_laysWays 212 = .ok (.sipush 128, 3) := by decide +kernel
theorem dX13_laysWays_215 : decode cX13_laysWays 215 = .ok (.iload_n 2, 1) := by decide +kernel
theorem dX13_laysWays_216 : decode cX13_laysWays 216 = .ok (.imul, 1) := by decide +kernel
theorem dX13_laysWays_217 : decode cX13_laysWays 217 = .ok (.iload_n 3, 1) := by decide +kernel
theorem dX13_laysWays_218 : decode cX13_laysWays 218 = .ok (.iadd, 1) := by decide +kernel
theorem dX13_laysWays_219 : decode cX13_laysWays 219 = .ok (.dup2, 1) := by decide +kernel
theorem dX13_laysWays_220 : decode cX13_laysWays 220 = .ok (.iaload, 1) := by decide +kernel
theorem dX13_laysWays_221 : decode cX13_laysWays 221 = .ok (.aload_n 0, 1) := by decide +kernel
theorem dX13_laysWays_222 : decode cX13_laysWays 222 = .ok (.getfield 77, 3) := by decide +kernel
theorem dX13_laysWays_225 : decode cX13_laysWays 225 = .ok (.sipush 128, 3) := by decide +kernel
theorem dX13_laysWays_228 : decode cX13_laysWays 228 = .ok (.iload_n 2, 1) := by decide +kernel
theorem dX13_laysWays_229 : decode cX13_laysWays 229 = .ok (.iconst 1, 1) := by decide +kernel
theorem dX13_laysWays_230 : decode cX13_laysWays 230 = .ok (.iadd, 1) := by decide +kernel
theorem dX13_laysWays_231 : decode cX13_laysWays 231 = .ok (.imul, 1) := by decide +kernel
theorem dX13_laysWays_232 : decode cX13_laysWays 232 = .ok (.iload_n 3, 1) := by decide +kernel
theorem dX13_laysWays_233 : decode cX13_laysWays 233 = .ok (.iconst 1, 1) := by decide +kernel
theorem dX13_laysWays_234 : decode cX13_laysWays 234 = .ok (.iload 4, 2) := by decide +kernel
theorem dX13_laysWays_236 : decode cX13_laysWays 236 = .ok (.ishl, 1) := by decide +kernel
theorem dX13_laysWays_237 : decode cX13_laysWays 237 = .ok (.ior, 1) := by decide +kernel
theorem dX13_laysWays_238 : decode cX13_laysWays 238 = .ok (.iadd, 1) := by decide +kernel
theorem dX13_laysWays_239 : decode cX13_laysWays 239 = .ok (.iaload, 1) := by decide +kernel
theorem dX13_laysWays_240 : decode cX13_laysWays 240 = .ok (.iadd, 1) := by decide +kernel
theorem dX13_laysWays_241 : decode cX13_laysWays 241 = .ok (.iastore, 1) := by decide +kernel
theorem dX13_laysWays_242 : decode cX13_laysWays 242 = .ok (.iinc 4 1, 3) := by decide +kernel
theorem dX13_laysWays_245 : decode cX13_laysWays 245 = .ok (.goto (-67), 3) := by decide +kernel
theorem dX13_laysWays_248 : decode cX13_laysWays 248 = .ok (.iinc 3 1, 3) := by decide +kernel
theorem dX13_laysWays_251 : decode cX13_laysWays 251 = .ok (.goto (-83), 3) := by decide +kernel
theorem dX13_laysWays_254 : decode cX13_laysWays 254 = .ok (.iinc 2 (-1), 3) := by decide +kernel
theorem dX13_laysWays_257 : decode cX13_laysWays 257 = .ok (.goto (-95), 3) := by decide +kernel
theorem dX13_laysWays_260 : decode cX13_laysWays 260 = .ok (.return_, 1) := by decide +kernel
set_option maxRecDepth 100000 in
set_option maxHeartbeats 4000000 in
theorem wfX13_laysWays_178 {E : KE} {p : Program} {l : Launch} {e : Env} {s : State} {m : MethodId} {args : Array Value} {below : List Frame} {meth : Method} {c : Code} {q : MM} (C : mx_C E p m c cX13_laysWays 5 s args RX13 meth none)  (hT : E.1 = mt) (i2 : Int32) (k168 : Int32 → Int32 → MM → Option MM) (hk168 : ∀ (i2 : Int32) (i3 : Int32) (M : MM) (H : Heap) (locs : List Loc) (ls : Array Slot), k168 i2 i3 M = some q → mx_H E s M H locs → lv_has ls 5 [(0, .ref (E.2.1.2.1 0)), (2, .int i2), (3, .int i3)] → W p l e (mx_rm 2) s m args below meth c H locs 0 0 (mx_Z E below args s none q) (F0 m 168 ls [])) : ∀ (n : Nat) (i3 : Int32) (i4 : Int32) (M : MM) (H : Heap) (locs : List Loc) (ls : Array Slot), fX13_laysWays_178 i2 k168 n i3 i4 M = some q → mx_H E s M H locs → lv_has ls 5 [(0, .ref (E.2.1.2.1 0)), (2, .int i2), (3, .int i3), (4, .int i4)] → W p l e (mx_rm 2) s m args below meth c H locs 0 0 (mx_Z E below args s none q) (F0 m 178 ls []) := by
  have hx := C.1.1
  have hb := C.1.2.1
  have hown := C.1.2.2.2.1
  have hts := C.1.2.2.2.2
  intro n
  induction n with
  | zero =>
    intro i3 i4 M H locs ls hf hM hl
    rw [fX13_laysWays_178] at hf
    cases hf
  | succ n ih =>
    intro i3 i4 M H locs ls hf hM hl
    rw [fX13_laysWays_178] at hf
    refine lv_iload hx hb dX13_laysWays_178 (lv_at hl 3 rfl) ?_
    refine lv_aload_n hx hb dX13_laysWays_180 rfl (lv_at hl 0 rfl) ?_
    refine g13_33 C hT hM dX13_laysWays_181 ?_
    refine lv_iconst (v := (0 : Int32)) hx hb dX13_laysWays_184 (by decide) ?_
    refine mx_ialdL C hM (mt_2 hT) (j := 0) (by decide) (mx_in_vp (by decide)) dX13_laysWays_185 ?_
    refine lv_icmp_ge (tgt := 248) hx hb dX13_laysWays_186 (by decide) (fun hc186 => ?_) (fun hc186 => ?_)
    · replace hf := mx_ift hc186 hf
      refine lv_iinc (v := (i3 + (1 : Int32))) (lv' := [(3, .int (i3 + (1 : Int32))), (0, .ref (E.2.1.2.1 0)), (2, .int i2), (4, .int i4)]) hx hb dX13_laysWays_248 hl (k := 2) rfl rfl (by decide) rfl (fun ls hl => ?_)
      refine lv_goto (tgt := 168) hx hb dX13_laysWays_251 (by decide) ?_
      exact hk168 i2 (i3 + (1 : Int32)) M _ _ _ hf hM (lv_sub hl [1, 2, 0] rfl)
    · replace hf := mx_iff hc186 hf
      refine lv_iload_n hx hb dX13_laysWays_189 rfl (lv_at hl 2 rfl) ?_
      refine lv_iload hx hb dX13_laysWays_190 (lv_at hl 3 rfl) ?_
      obtain ⟨q192, hq192, hf⟩ := mx_bd hf
      refine mx_callS C hM hl.1 yo_X13_bitOf (h' := 0) (by decide) qw_1627 qw_1628 (As := [.int i3, .int i4]) (rest := []) (st1 := [.int (mx_b q192)]) (kX13_bitOf C.2.2.2.1 i3 i4 hT M hq192) rfl rfl rfl (Nat.le_of_ble_eq_true rfl) dX13_laysWays_192 (fun H locs hM => ?_)
      refine lv_if_ne (tgt := 242) hx hb dX13_laysWays_195 (by decide) (fun hc195 => ?_) (fun hc195 => ?_)
      · replace hf := mx_iff hc195 hf
        refine lv_iinc (v := (i4 + (1 : Int32))) (lv' := [(4, .int (i4 + (1 : Int32))), (0, .ref (E.2.1.2.1 0)), (2, .int i2), (3, .int i3)]) hx hb dX13_laysWays_242 hl (k := 3) rfl rfl (by decide) rfl (fun ls hl => ?_)
        refine lv_goto (tgt := 178) hx hb dX13_laysWays_245 (by decide) ?_
        exact ih i3 (i4 + (1 : Int32)) M _ _ _ hf hM (lv_sub hl [1, 2, 3, 0] rfl)
      · replace hf := mx_ift hc195 hf
        refine lv_aload_n hx hb dX13_laysWays_198 rfl (lv_at hl 0 rfl) ?_
        refine lv_iload_n hx hb dX13_laysWays_199 rfl (lv_at hl 1 rfl) ?_
        refine lv_iload hx hb dX13_laysWays_200 (lv_at hl 3 rfl) ?_
        obtain ⟨q202, hq202, hf⟩ := mx_bd hf
        refine mx_callV C hM hl.1 yo_X13_isFit (h' := 1) (by decide) qw_1741 qw_1743 qs_147 (ci := 13) (q := (RX13, TX13, 52)) rfl (mt_0 hT) (As := [.int i2, .int i4]) (rest := []) (st1 := [.int (mx_b q202)]) (kX13_isFit C.2.2.2.1 i2 i4 hT M hq202) rfl rfl rfl (Nat.le_of_ble_eq_true rfl) dX13_laysWays_202 (fun H locs hM => ?_)
        refine lv_if_eq (tgt := 242) hx hb dX13_laysWays_205 (by decide) (fun hc205 => ?_) (fun hc205 => ?_)
        · replace hf := mx_ift hc205 hf
          refine lv_iinc (v := (i4 + (1 : Int32))) (lv' := [(4, .int (i4 + (1 : Int32))), (0, .ref (E.2.1.2.1 0)), (2, .int i2), (3, .int i3)]) hx hb dX13_laysWays_242 hl (k := 3) rfl rfl (by decide) rfl (fun ls hl => ?_)
          refine lv_goto (tgt := 178) hx hb dX13_laysWays_245 (by decide) ?_
          exact ih i3 (i4 + (1 : Int32)) M _ _ _ hf hM (lv_sub hl [1, 2, 3, 0] rfl)
        · replace hf := mx_iff hc205 hf
          refine lv_aload_n hx hb dX13_laysWays_208 rfl (lv_at hl 0 rfl) ?_
          refine g13_77 C hT hM dX13_laysWays_209 ?_
          refine lv_sipush (v := (128 : Int32)) hx hb dX13_laysWays_212 (by decide) ?_
          refine lv_iload_n hx hb dX13_laysWays_215 rfl (lv_at hl 1 rfl) ?_
          refine lv_imul hx hb dX13_laysWays_216 ?_
          refine lv_iload_n hx hb dX13_laysWays_217 rfl (lv_at hl 2 rfl) ?_
          refine lv_iadd hx hb dX13_laysWays_218 ?_
          refine lv_dup2_11 hx hb dX13_laysWays_219 rfl rfl ?_
          obtain ⟨hg220, hf⟩ := mx_gd hf
          refine mx_iald C hM (mt_14 hT) (mx_in_vp hg220) dX13_laysWays_220 ?_
          refine lv_aload_n hx hb dX13_laysWays_221 rfl (lv_at hl 0 rfl) ?_
          refine g13_77 C hT hM dX13_laysWays_222 ?_
          refine lv_sipush (v := (128 : Int32)) hx hb dX13_laysWays_225 (by decide) ?_
          refine lv_iload_n hx hb dX13_laysWays_228 rfl (lv_at hl 1 rfl) ?_
          refine lv_iconst (v := (1 : Int32)) hx hb dX13_laysWays_229 (by decide) ?_
          refine lv_iadd hx hb dX13_laysWays_230 ?_
          refine lv_imul hx hb dX13_laysWays_231 ?_
          refine lv_iload_n hx hb dX13_laysWays_232 rfl (lv_at hl 2 rfl) ?_
          refine lv_iconst (v := (1 : Int32)) hx hb dX13_laysWays_233 (by decide) ?_
          refine lv_iload hx hb dX13_laysWays_234 (lv_at hl 3 rfl) ?_
          refine lv_ishl hx hb dX13_laysWays_236 ?_
          refine lv_ior hx hb dX13_laysWays_237 ?_
          refine lv_iadd hx hb dX13_laysWays_238 ?_
          obtain ⟨hg239, hf⟩ := mx_gd hf
          refine mx_iald C hM (mt_14 hT) (mx_in_vp hg239) dX13_laysWays_239 ?_
          refine lv_iadd hx hb dX13_laysWays_240 ?_
          obtain ⟨hg241, hf⟩ := mx_gd hf
          refine mx_iast C hM (mt_14 hT) (mx_in_vp hg241) dX13_laysWays_241 (fun H locs hM => ?_)
          refine lv_iinc (v := (i4 + (1 : Int32))) (lv' := [(4, .int (i4 + (1 : Int32))), (0, .ref (E.2.1.2.1 0)), (2, .int i2), (3, .int i3)]) hx hb dX13_laysWays_242 hl (k := 3) rfl rfl (by decide) rfl (fun ls hl => ?_)
          refine lv_goto (tgt := 178) hx hb dX13_laysWays_245 (by decide) ?_
          exact ih i3 (i4 + (1 : Int32)) (mx_si M 14 (((128 : Int32) * i2) + i3).toNatClampNeg ((M.1 14 (((128 : Int32) * i2) + i3).toNatClampNeg) + (M.1 14 (((128 : Int32) * (i2 + (1 : Int32))) + (i3 ||| ((1 : Int32) <<< (i4 &&& 31)))).toNatClampNeg))) _ _ _ hf hM (lv_sub hl [1, 2, 3, 0] rfl)
set_option maxRecDepth 100000 in
set_option maxHeartbeats 4000000 in
theorem wfX13_laysWays_168 {E : KE} {p : Program} {l : Launch} {e : Env} {s : State} {m : MethodId} {args : Array Value} {below : List Frame} {meth : Method} {c : Code} {q : MM} (C : mx_C E p m c cX13_laysWays 5 s args RX13 meth none)  (hT : E.1 = mt)  (k162 : Int32 → MM → Option MM) (hk162 : ∀ (i2 : Int32) (M : MM) (H : Heap) (locs : List Loc) (ls : Array Slot), k162 i2 M = some q → mx_H E s M H locs → lv_has ls 5 [(0, .ref (E.2.1.2.1 0)), (2, .int i2)] → W p l e (mx_rm 2) s m args below meth c H locs 0 0 (mx_Z E below args s none q) (F0 m 162 ls [])) : ∀ (n : Nat) (i2 : Int32) (i3 : Int32) (M : MM) (H : Heap) (locs : List Loc) (ls : Array Slot), fX13_laysWays_168 k162 n i2 i3 M = some q → mx_H E s M H locs → lv_has ls 5 [(0, .ref (E.2.1.2.1 0)), (2, .int i2), (3, .int i3)] → W p l e (mx_rm 2) s m args below meth c H locs 0 0 (mx_Z E below args s none q) (F0 m 168 ls []) := by
  have hx := C.1.1
  have hb := C.1.2.1
  have hown := C.1.2.2.2.1
  have hts := C.1.2.2.2.2
  intro n
  induction n with
  | zero =>
    intro i2 i3 M H locs ls hf hM hl
    rw [fX13_laysWays_168] at hf
    cases hf
  | succ n ih =>
    intro i2 i3 M H locs ls hf hM hl
    rw [fX13_laysWays_168] at hf
    refine lv_iload_n hx hb dX13_laysWays_168 rfl (lv_at hl 2 rfl) ?_
    refine lv_sipush (v := (128 : Int32)) hx hb dX13_laysWays_169 (by decide) ?_
    refine lv_icmp_ge (tgt := 254) hx hb dX13_laysWays_172 (by decide) (fun hc172 => ?_) (fun hc172 => ?_)
    · replace hf := mx_ift hc172 hf
      refine lv_iinc (v := (i2 + (-1 : Int32))) (lv' := [(2, .int (i2 + (-1 : Int32))), (0, .ref (E.2.1.2.1 0)), (3, .int i3)]) hx hb dX13_laysWays_254 hl (k := 1) rfl rfl (by decide) rfl (fun ls hl => ?_)
      refine lv_goto (tgt := 162) hx hb dX13_laysWays_257 (by decide) ?_
      exact hk162 (i2 + (-1 : Int32)) M _ _ _ hf hM (lv_sub hl [1, 0] rfl)
    · replace hf := mx_iff hc172 hf
      refine lv_iconst (v := (0 : Int32)) hx hb dX13_laysWays_175 (by decide) ?_
      refine lv_istore (lv' := [(4, .int (0 : Int32)), (0, .ref (E.2.1.2.1 0)), (2, .int i2), (3, .int i3)]) hx hb dX13_laysWays_176 hl (by decide) rfl (fun ls hl => ?_)
      exact wfX13_laysWays_178 C hT i2 (fX13_laysWays_168 k162 n) ih mx_fu i3 (0 : Int32) M _ _ _ hf hM (lv_sub hl [1, 2, 3, 0] rfl)
set_option maxRecDepth 100000 in
set_option maxHeartbeats 4000000 in
theorem wfX13_laysWays_162 {E : KE} {p : Program} {l : Launch} {e : Env} {s : State} {m : MethodId} {args : Array Value} {below : List Frame} {meth : Method} {c : Code} {q : MM} (C : mx_C E p m c cX13_laysWays 5 s args RX13 meth none)  (hT : E.1 = mt)   : ∀ (n : Nat) (i2 : Int32) (M : MM) (H : Heap) (locs : List Loc) (ls : Array Slot), fX13_laysWays_162 n i2 M = some q → mx_H E s M H locs → lv_has ls 5 [(0, .ref (E.2.1.2.1 0)), (2, .int i2)] → W p l e (mx_rm 2) s m args below meth c H locs 0 0 (mx_Z E below args s none q) (F0 m 162 ls []) := by
  have hx := C.1.1
  have hb := C.1.2.1
  have hown := C.1.2.2.2.1
  have hts := C.1.2.2.2.2
  intro n
  induction n with
  | zero =>
    intro i2 M H locs ls hf hM hl
    rw [fX13_laysWays_162] at hf
    cases hf
  | succ n ih =>
    intro i2 M H locs ls hf hM hl
    rw [fX13_laysWays_162] at hf
    refine lv_iload_n hx hb dX13_laysWays_162 rfl (lv_at hl 1 rfl) ?_
    refine lv_if_lt (tgt := 260) hx hb dX13_laysWays_163 (by decide) (fun hc163 => ?_) (fun hc163 => ?_)
    · replace hf := mx_ift hc163 hf
      exact mx_vret C hM hf dX13_laysWays_260
    · replace hf := mx_iff hc163 hf
      refine lv_iconst (v := (0 : Int32)) hx hb dX13_laysWays_166 (by decide) ?_
      refine lv_istore_n (lv' := [(3, .int (0 : Int32)), (0, .ref (E.2.1.2.1 0)), (2, .int i2)]) hx hb dX13_laysWays_167 rfl hl (by decide) rfl (fun ls hl => ?_)
      exact wfX13_laysWays_168 C hT (fX13_laysWays_162 n) ih mx_fu i2 (0 : Int32) M _ _ _ hf hM (lv_sub hl [1, 2, 0] rfl)
set_option maxRecDepth 100000 in
set_option maxHeartbeats 4000000 in
theorem wfX13_laysWays_76 {E : KE} {p : Program} {l : Launch} {e : Env} {s : State} {m : MethodId} {args : Array Value} {below : List Frame} {meth : Method} {c : Code} {q : MM} (C : mx_C E p m c cX13_laysWays 5 s args RX13 meth none)  (hT : E.1 = mt) (i1 : Int32) (i2 : Int32) (k66 : Int32 → Int32 → MM → Option MM) (hk66 : ∀ (i2 : Int32) (i3 : Int32) (M : MM) (H : Heap) (locs : List Loc) (ls : Array Slot), k66 i2 i3 M = some q → mx_H E s M H locs → lv_has ls 5 [(0, .ref (E.2.1.2.1 0)), (1, .int i1), (2, .int i2), (3, .int i3)] → W p l e (mx_rm 2) s m args below meth c H locs 0 0 (mx_Z E below args s none q) (F0 m 66 ls [])) : ∀ (n : Nat) (i3 : Int32) (i4 : Int32) (M : MM) (H : Heap) (locs : List Loc) (ls : Array Slot), fX13_laysWays_76 i1 i2 k66 n i3 i4 M = some q → mx_H E s M H locs → lv_has ls 5 [(0, .ref (E.2.1.2.1 0)), (1, .int i1), (2, .int i2), (3, .int i3), (4, .int i4)] → W p l e (mx_rm 2) s m args below meth c H locs 0 0 (mx_Z E below args s none q) (F0 m 76 ls []) := by
  have hx := C.1.1
  have hb := C.1.2.1
  have hown := C.1.2.2.2.1
  have hts := C.1.2.2.2.2
  intro n
  induction n with
  | zero =>
    intro i3 i4 M H locs ls hf hM hl
    rw [fX13_laysWays_76] at hf
    cases hf
  | succ n ih =>
    intro i3 i4 M H locs ls hf hM hl
    rw [fX13_laysWays_76] at hf
    refine lv_iload hx hb dX13_laysWays_76 (lv_at hl 4 rfl) ?_
    refine lv_aload_n hx hb dX13_laysWays_78 rfl (lv_at hl 0 rfl) ?_
    refine g13_33 C hT hM dX13_laysWays_79 ?_
    refine lv_iconst (v := (0 : Int32)) hx hb dX13_laysWays_82 (by decide) ?_
    refine mx_ialdL C hM (mt_2 hT) (j := 0) (by decide) (mx_in_vp (by decide)) dX13_laysWays_83 ?_
    refine lv_icmp_ge (tgt := 146) hx hb dX13_laysWays_84 (by decide) (fun hc84 => ?_) (fun hc84 => ?_)
    · replace hf := mx_ift hc84 hf
      refine lv_iinc (v := (i3 + (1 : Int32))) (lv' := [(3, .int (i3 + (1 : Int32))), (0, .ref (E.2.1.2.1 0)), (1, .int i1), (2, .int i2), (4, .int i4)]) hx hb dX13_laysWays_146 hl (k := 3) rfl rfl (by decide) rfl (fun ls hl => ?_)
      refine lv_goto (tgt := 66) hx hb dX13_laysWays_149 (by decide) ?_
      exact hk66 i2 (i3 + (1 : Int32)) M _ _ _ hf hM (lv_sub hl [1, 2, 3, 0] rfl)
    · replace hf := mx_iff hc84 hf
      refine lv_iload_n hx hb dX13_laysWays_87 rfl (lv_at hl 3 rfl) ?_
      refine lv_iload hx hb dX13_laysWays_88 (lv_at hl 4 rfl) ?_
      obtain ⟨q90, hq90, hf⟩ := mx_bd hf
      refine mx_callS C hM hl.1 yo_X13_bitOf (h' := 0) (by decide) qw_1627 qw_1628 (As := [.int i3, .int i4]) (rest := []) (st1 := [.int (mx_b q90)]) (kX13_bitOf C.2.2.2.1 i3 i4 hT M hq90) rfl rfl rfl (Nat.le_of_ble_eq_true rfl) dX13_laysWays_90 (fun H locs hM => ?_)
      refine lv_if_ne (tgt := 140) hx hb dX13_laysWays_93 (by decide) (fun hc93 => ?_) (fun hc93 => ?_)
      · replace hf := mx_iff hc93 hf
        refine lv_iinc (v := (i4 + (1 : Int32))) (lv' := [(4, .int (i4 + (1 : Int32))), (0, .ref (E.2.1.2.1 0)), (1, .int i1), (2, .int i2), (3, .int i3)]) hx hb dX13_laysWays_140 hl (k := 4) rfl rfl (by decide) rfl (fun ls hl => ?_)
        refine lv_goto (tgt := 76) hx hb dX13_laysWays_143 (by decide) ?_
        exact ih i3 (i4 + (1 : Int32)) M _ _ _ hf hM (lv_sub hl [1, 2, 3, 4, 0] rfl)
      · replace hf := mx_ift hc93 hf
        refine lv_aload_n hx hb dX13_laysWays_96 rfl (lv_at hl 0 rfl) ?_
        refine lv_iload_n hx hb dX13_laysWays_97 rfl (lv_at hl 2 rfl) ?_
        refine lv_iload hx hb dX13_laysWays_98 (lv_at hl 4 rfl) ?_
        obtain ⟨q100, hq100, hf⟩ := mx_bd hf
        refine mx_callV C hM hl.1 yo_X13_isFit (h' := 1) (by decide) qw_1741 qw_1743 qs_147 (ci := 13) (q := (RX13, TX13, 52)) rfl (mt_0 hT) (As := [.int i2, .int i4]) (rest := []) (st1 := [.int (mx_b q100)]) (kX13_isFit C.2.2.2.1 i2 i4 hT M hq100) rfl rfl rfl (Nat.le_of_ble_eq_true rfl) dX13_laysWays_100 (fun H locs hM => ?_)
        refine lv_if_eq (tgt := 140) hx hb dX13_laysWays_103 (by decide) (fun hc103 => ?_) (fun hc103 => ?_)
        · replace hf := mx_ift hc103 hf
          refine lv_iinc (v := (i4 + (1 : Int32))) (lv' := [(4, .int (i4 + (1 : Int32))), (0, .ref (E.2.1.2.1 0)), (1, .int i1), (2, .int i2), (3, .int i3)]) hx hb dX13_laysWays_140 hl (k := 4) rfl rfl (by decide) rfl (fun ls hl => ?_)
          refine lv_goto (tgt := 76) hx hb dX13_laysWays_143 (by decide) ?_
          exact ih i3 (i4 + (1 : Int32)) M _ _ _ hf hM (lv_sub hl [1, 2, 3, 4, 0] rfl)
        · replace hf := mx_iff hc103 hf
          refine lv_aload_n hx hb dX13_laysWays_106 rfl (lv_at hl 0 rfl) ?_
          refine g13_74 C hT hM dX13_laysWays_107 ?_
          refine lv_sipush (v := (128 : Int32)) hx hb dX13_laysWays_110 (by decide) ?_
          refine lv_iload_n hx hb dX13_laysWays_113 rfl (lv_at hl 2 rfl) ?_
          refine lv_iconst (v := (1 : Int32)) hx hb dX13_laysWays_114 (by decide) ?_
          refine lv_iadd hx hb dX13_laysWays_115 ?_
          refine lv_imul hx hb dX13_laysWays_116 ?_
          refine lv_iload_n hx hb dX13_laysWays_117 rfl (lv_at hl 3 rfl) ?_
          refine lv_iconst (v := (1 : Int32)) hx hb dX13_laysWays_118 (by decide) ?_
          refine lv_iload hx hb dX13_laysWays_119 (lv_at hl 4 rfl) ?_
          refine lv_ishl hx hb dX13_laysWays_121 ?_
          refine lv_ior hx hb dX13_laysWays_122 ?_
          refine lv_iadd hx hb dX13_laysWays_123 ?_
          refine lv_dup2_11 hx hb dX13_laysWays_124 rfl rfl ?_
          obtain ⟨hg125, hf⟩ := mx_gd hf
          refine mx_iald C hM (mt_13 hT) (mx_in_vp hg125) dX13_laysWays_125 ?_
          refine lv_aload_n hx hb dX13_laysWays_126 rfl (lv_at hl 0 rfl) ?_
          refine g13_74 C hT hM dX13_laysWays_127 ?_
          refine lv_sipush (v := (128 : Int32)) hx hb dX13_laysWays_130 (by decide) ?_
          refine lv_iload_n hx hb dX13_laysWays_133 rfl (lv_at hl 2 rfl) ?_
          refine lv_imul hx hb dX13_laysWays_134 ?_
          refine lv_iload_n hx hb dX13_laysWays_135 rfl (lv_at hl 3 rfl) ?_
          refine lv_iadd hx hb dX13_laysWays_136 ?_
          obtain ⟨hg137, hf⟩ := mx_gd hf
          refine mx_iald C hM (mt_13 hT) (mx_in_vp hg137) dX13_laysWays_137 ?_
          refine lv_iadd hx hb dX13_laysWays_138 ?_
          obtain ⟨hg139, hf⟩ := mx_gd hf
          refine mx_iast C hM (mt_13 hT) (mx_in_vp hg139) dX13_laysWays_139 (fun H locs hM => ?_)
          refine lv_iinc (v := (i4 + (1 : Int32))) (lv' := [(4, .int (i4 + (1 : Int32))), (0, .ref (E.2.1.2.1 0)), (1, .int i1), (2, .int i2), (3, .int i3)]) hx hb dX13_laysWays_140 hl (k := 4) rfl rfl (by decide) rfl (fun ls hl => ?_)
          refine lv_goto (tgt := 76) hx hb dX13_laysWays_143 (by decide) ?_
          exact ih i3 (i4 + (1 : Int32)) (mx_si M 13 (((128 : Int32) * (i2 + (1 : Int32))) + (i3 ||| ((1 : Int32) <<< (i4 &&& 31)))).toNatClampNeg ((M.1 13 (((128 : Int32) * (i2 + (1 : Int32))) + (i3 ||| ((1 : Int32) <<< (i4 &&& 31)))).toNatClampNeg) + (M.1 13 (((128 : Int32) * i2) + i3).toNatClampNeg))) _ _ _ hf hM (lv_sub hl [1, 2, 3, 4, 0] rfl)
set_option maxRecDepth 100000 in
set_option maxHeartbeats 4000000 in
theorem wfX13_laysWays_66 {E : KE} {p : Program} {l : Launch} {e : Env} {s : State} {m : MethodId} {args : Array Value} {below : List Frame} {meth : Method} {c : Code} {q : MM} (C : mx_C E p m c cX13_laysWays 5 s args RX13 meth none)  (hT : E.1 = mt) (i1 : Int32) (k59 : Int32 → MM → Option MM) (hk59 : ∀ (i2 : Int32) (M : MM) (H : Heap) (locs : List Loc) (ls : Array Slot), k59 i2 M = some q → mx_H E s M H locs → lv_has ls 5 [(0, .ref (E.2.1.2.1 0)), (1, .int i1), (2, .int i2)] → W p l e (mx_rm 2) s m args below meth c H locs 0 0 (mx_Z E below args s none q) (F0 m 59 ls [])) : ∀ (n : Nat) (i2 : Int32) (i3 : Int32) (M : MM) (H : Heap) (locs : List Loc) (ls : Array Slot), fX13_laysWays_66 i1 k59 n i2 i3 M = some q → mx_H E s M H locs → lv_has ls 5 [(0, .ref (E.2.1.2.1 0)), (1, .int i1), (2, .int i2), (3, .int i3)] → W p l e (mx_rm 2) s m args below meth c H locs 0 0 (mx_Z E below args s none q) (F0 m 66 ls []) := by
  have hx := C.1.1
  have hb := C.1.2.1
  have hown := C.1.2.2.2.1
  have hts := C.1.2.2.2.2
  intro n
  induction n with
  | zero =>
    intro i2 i3 M H locs ls hf hM hl
    rw [fX13_laysWays_66] at hf
    cases hf
  | succ n ih =>
    intro i2 i3 M H locs ls hf hM hl
    rw [fX13_laysWays_66] at hf
    refine lv_iload_n hx hb dX13_laysWays_66 rfl (lv_at hl 3 rfl) ?_
    refine lv_sipush (v := (128 : Int32)) hx hb dX13_laysWays_67 (by decide) ?_
    refine lv_icmp_ge (tgt := 152) hx hb dX13_laysWays_70 (by decide) (fun hc70 => ?_) (fun hc70 => ?_)
    · replace hf := mx_ift hc70 hf
      refine lv_iinc (v := (i2 + (1 : Int32))) (lv' := [(2, .int (i2 + (1 : Int32))), (0, .ref (E.2.1.2.1 0)), (1, .int i1), (3, .int i3)]) hx hb dX13_laysWays_152 hl (k := 2) rfl rfl (by decide) rfl (fun ls hl => ?_)
      refine lv_goto (tgt := 59) hx hb dX13_laysWays_155 (by decide) ?_
      exact hk59 (i2 + (1 : Int32)) M _ _ _ hf hM (lv_sub hl [1, 2, 0] rfl)
    · replace hf := mx_iff hc70 hf
      refine lv_iconst (v := (0 : Int32)) hx hb dX13_laysWays_73 (by decide) ?_
      refine lv_istore (lv' := [(4, .int (0 : Int32)), (0, .ref (E.2.1.2.1 0)), (1, .int i1), (2, .int i2), (3, .int i3)]) hx hb dX13_laysWays_74 hl (by decide) rfl (fun ls hl => ?_)
      exact wfX13_laysWays_76 C hT i1 i2 (fX13_laysWays_66 i1 k59 n) ih mx_fu i3 (0 : Int32) M _ _ _ hf hM (lv_sub hl [1, 2, 3, 4, 0] rfl)
set_option maxRecDepth 100000 in
set_option maxHeartbeats 4000000 in
theorem wfX13_laysWays_59 {E : KE} {p : Program} {l : Launch} {e : Env} {s : State} {m : MethodId} {args : Array Value} {below : List Frame} {meth : Method} {c : Code} {q : MM} (C : mx_C E p m c cX13_laysWays 5 s args RX13 meth none)  (hT : E.1 = mt) (i1 : Int32)  : ∀ (n : Nat) (i2 : Int32) (M : MM) (H : Heap) (locs : List Loc) (ls : Array Slot), fX13_laysWays_59 i1 n i2 M = some q → mx_H E s M H locs → lv_has ls 5 [(0, .ref (E.2.1.2.1 0)), (1, .int i1), (2, .int i2)] → W p l e (mx_rm 2) s m args below meth c H locs 0 0 (mx_Z E below args s none q) (F0 m 59 ls []) := by
  have hx := C.1.1
  have hb := C.1.2.1
  have hown := C.1.2.2.2.1
  have hts := C.1.2.2.2.2
  intro n
  induction n with
  | zero =>
    intro i2 M H locs ls hf hM hl
    rw [fX13_laysWays_59] at hf
    cases hf
  | succ n ih =>
    intro i2 M H locs ls hf hM hl
    rw [fX13_laysWays_59] at hf
    refine lv_iload_n hx hb dX13_laysWays_59 rfl (lv_at hl 2 rfl) ?_
    refine lv_iload_n hx hb dX13_laysWays_60 rfl (lv_at hl 1 rfl) ?_
    refine lv_icmp_ge (tgt := 158) hx hb dX13_laysWays_61 (by decide) (fun hc61 => ?_) (fun hc61 => ?_)
    · replace hf := mx_ift hc61 hf
      refine lv_iload_n hx hb dX13_laysWays_158 rfl (lv_at hl 1 rfl) ?_
      refine lv_iconst (v := (1 : Int32)) hx hb dX13_laysWays_159 (by decide) ?_
      refine lv_isub hx hb dX13_laysWays_160 ?_
      refine lv_istore_n (lv' := [(2, .int (i1 - (1 : Int32))), (0, .ref (E.2.1.2.1 0)), (1, .int i1)]) hx hb dX13_laysWays_161 rfl hl (by decide) rfl (fun ls hl => ?_)
      exact wfX13_laysWays_162 C hT mx_fu (i1 - (1 : Int32)) M _ _ _ hf hM (lv_sub hl [1, 0] rfl)
    · replace hf := mx_iff hc61 hf
      refine lv_iconst (v := (0 : Int32)) hx hb dX13_laysWays_64 (by decide) ?_
      refine lv_istore_n (lv' := [(3, .int (0 : Int32)), (0, .ref (E.2.1.2.1 0)), (1, .int i1), (2, .int i2)]) hx hb dX13_laysWays_65 rfl hl (by decide) rfl (fun ls hl => ?_)
      exact wfX13_laysWays_66 C hT i1 (fX13_laysWays_59 i1 n) ih mx_fu i2 (0 : Int32) M _ _ _ hf hM (lv_sub hl [1, 2, 3, 0] rfl)
set_option maxRecDepth 100000 in
set_option maxHeartbeats 4000000 in
theorem wfX13_laysWays_50 {E : KE} {p : Program} {l : Launch} {e : Env} {s : State} {m : MethodId} {args : Array Value} {below : List Frame} {meth : Method} {c : Code} {q : MM} (C : mx_C E p m c cX13_laysWays 5 s args RX13 meth none)  (hT : E.1 = mt) (i1 : Int32) (k9 : Int32 → MM → Option MM) (hk9 : ∀ (i2 : Int32) (M : MM) (H : Heap) (locs : List Loc) (ls : Array Slot), k9 i2 M = some q → mx_H E s M H locs → lv_has ls 5 [(0, .ref (E.2.1.2.1 0)), (1, .int i1), (2, .int i2)] → W p l e (mx_rm 2) s m args below meth c H locs 0 0 (mx_Z E below args s none q) (F0 m 9 ls [])) : ∀ (i2 : Int32) (is1 : Int32) (bs2 : Bool) (M : MM) (H : Heap) (locs : List Loc) (ls : Array Slot), fX13_laysWays_50 i1 k9 i2 is1 bs2 M = some q → mx_H E s M H locs → lv_has ls 5 [(0, .ref (E.2.1.2.1 0)), (1, .int i1), (2, .int i2)] → W p l e (mx_rm 2) s m args below meth c H locs 0 0 (mx_Z E below args s none q) (F0 m 50 ls [.int (mx_b bs2), .int is1, .ref (E.2.1.2.1 14)]) := by
  have hx := C.1.1
  have hb := C.1.2.1
  have hown := C.1.2.2.2.1
  have hts := C.1.2.2.2.2
  intro i2 is1 bs2 M H locs ls hf hM hl
  rw [fX13_laysWays_50] at hf
  obtain ⟨hg50, hf⟩ := mx_gd hf
  refine mx_iast C hM (mt_14 hT) (mx_in_vp hg50) dX13_laysWays_50 (fun H locs hM => ?_)
  refine lv_iinc (v := (i2 + (1 : Int32))) (lv' := [(2, .int (i2 + (1 : Int32))), (0, .ref (E.2.1.2.1 0)), (1, .int i1)]) hx hb dX13_laysWays_51 hl (k := 2) rfl rfl (by decide) rfl (fun ls hl => ?_)
  refine lv_goto (tgt := 9) hx hb dX13_laysWays_54 (by decide) ?_
  exact hk9 (i2 + (1 : Int32)) (mx_si M 14 is1.toNatClampNeg (mx_b bs2)) _ _ _ hf hM (lv_sub hl [1, 2, 0] rfl)
set_option maxRecDepth 100000 in
set_option maxHeartbeats 4000000 in
theorem wfX13_laysWays_30 {E : KE} {p : Program} {l : Launch} {e : Env} {s : State} {m : MethodId} {args : Array Value} {below : List Frame} {meth : Method} {c : Code} {q : MM} (C : mx_C E p m c cX13_laysWays 5 s args RX13 meth none)  (hT : E.1 = mt) (i1 : Int32) (k9 : Int32 → MM → Option MM) (hk9 : ∀ (i2 : Int32) (M : MM) (H : Heap) (locs : List Loc) (ls : Array Slot), k9 i2 M = some q → mx_H E s M H locs → lv_has ls 5 [(0, .ref (E.2.1.2.1 0)), (1, .int i1), (2, .int i2)] → W p l e (mx_rm 2) s m args below meth c H locs 0 0 (mx_Z E below args s none q) (F0 m 9 ls [])) : ∀ (i2 : Int32) (is1 : Int32) (bs2 : Bool) (M : MM) (H : Heap) (locs : List Loc) (ls : Array Slot), fX13_laysWays_30 i1 k9 i2 is1 bs2 M = some q → mx_H E s M H locs → lv_has ls 5 [(0, .ref (E.2.1.2.1 0)), (1, .int i1), (2, .int i2)] → W p l e (mx_rm 2) s m args below meth c H locs 0 0 (mx_Z E below args s none q) (F0 m 30 ls [.int (mx_b bs2), .int is1, .ref (E.2.1.2.1 13)]) := by
  have hx := C.1.1
  have hb := C.1.2.1
  have hown := C.1.2.2.2.1
  have hts := C.1.2.2.2.2
  intro i2 is1 bs2 M H locs ls hf hM hl
  rw [fX13_laysWays_30] at hf
  obtain ⟨hg30, hf⟩ := mx_gd hf
  refine mx_iast C hM (mt_13 hT) (mx_in_vp hg30) dX13_laysWays_30 (fun H locs hM => ?_)
  refine lv_aload_n hx hb dX13_laysWays_31 rfl (lv_at hl 0 rfl) ?_
  refine g13_77 C hT hM dX13_laysWays_32 ?_
  refine lv_iload_n hx hb dX13_laysWays_35 rfl (lv_at hl 2 rfl) ?_
  refine lv_iload_n hx hb dX13_laysWays_36 rfl (lv_at hl 2 rfl) ?_
  refine lv_sipush (v := (128 : Int32)) hx hb dX13_laysWays_37 (by decide) ?_
  refine lv_idiv hx hb dX13_laysWays_40 (by decide) ?_
  refine lv_iload_n hx hb dX13_laysWays_41 rfl (lv_at hl 1 rfl) ?_
  refine lv_icmp_ne (tgt := 49) hx hb dX13_laysWays_42 (by decide) (fun hc42 => ?_) (fun hc42 => ?_)
  · replace hf := mx_iff hc42 hf
    refine lv_iconst (v := (0 : Int32)) hx hb dX13_laysWays_49 (by decide) ?_
    exact wfX13_laysWays_50 C hT i1 k9 hk9 i2 i2 false (mx_si M 13 is1.toNatClampNeg (mx_b bs2)) _ _ _ hf hM (lv_sub hl [0, 1, 2] rfl)
  · replace hf := mx_ift hc42 hf
    refine lv_iconst (v := (1 : Int32)) hx hb dX13_laysWays_45 (by decide) ?_
    refine lv_goto (tgt := 50) hx hb dX13_laysWays_46 (by decide) ?_
    exact wfX13_laysWays_50 C hT i1 k9 hk9 i2 i2 true (mx_si M 13 is1.toNatClampNeg (mx_b bs2)) _ _ _ hf hM (lv_sub hl [0, 1, 2] rfl)
set_option maxRecDepth 100000 in
set_option maxHeartbeats 4000000 in
theorem wfX13_laysWays_9 {E : KE} {p : Program} {l : Launch} {e : Env} {s : State} {m : MethodId} {args : Array Value} {below : List Frame} {meth : Method} {c : Code} {q : MM} (C : mx_C E p m c cX13_laysWays 5 s args RX13 meth none)  (hT : E.1 = mt) (i1 : Int32)  : ∀ (n : Nat) (i2 : Int32) (M : MM) (H : Heap) (locs : List Loc) (ls : Array Slot), fX13_laysWays_9 i1 n i2 M = some q → mx_H E s M H locs → lv_has ls 5 [(0, .ref (E.2.1.2.1 0)), (1, .int i1), (2, .int i2)] → W p l e (mx_rm 2) s m args below meth c H locs 0 0 (mx_Z E below args s none q) (F0 m 9 ls []) := by
  have hx := C.1.1
  have hb := C.1.2.1
  have hown := C.1.2.2.2.1
  have hts := C.1.2.2.2.2
  intro n
  induction n with
  | zero =>
    intro i2 M H locs ls hf hM hl
    rw [fX13_laysWays_9] at hf
    cases hf
  | succ n ih =>
    intro i2 M H locs ls hf hM hl
    rw [fX13_laysWays_9] at hf
    refine lv_iload_n hx hb dX13_laysWays_9 rfl (lv_at hl 2 rfl) ?_
    refine lv_sipush (v := (1024 : Int32)) hx hb dX13_laysWays_10 (by decide) ?_
    refine lv_icmp_ge (tgt := 57) hx hb dX13_laysWays_13 (by decide) (fun hc13 => ?_) (fun hc13 => ?_)
    · replace hf := mx_ift hc13 hf
      refine lv_iconst (v := (0 : Int32)) hx hb dX13_laysWays_57 (by decide) ?_
      refine lv_istore_n (lv' := [(2, .int (0 : Int32)), (0, .ref (E.2.1.2.1 0)), (1, .int i1)]) hx hb dX13_laysWays_58 rfl hl (by decide) rfl (fun ls hl => ?_)
      exact wfX13_laysWays_59 C hT i1 mx_fu (0 : Int32) M _ _ _ hf hM (lv_sub hl [1, 2, 0] rfl)
    · replace hf := mx_iff hc13 hf
      refine lv_aload_n hx hb dX13_laysWays_16 rfl (lv_at hl 0 rfl) ?_
      refine g13_74 C hT hM dX13_laysWays_17 ?_
      refine lv_iload_n hx hb dX13_laysWays_20 rfl (lv_at hl 2 rfl) ?_
      refine lv_iload_n hx hb dX13_laysWays_21 rfl (lv_at hl 2 rfl) ?_
      refine lv_if_ne (tgt := 29) hx hb dX13_laysWays_22 (by decide) (fun hc22 => ?_) (fun hc22 => ?_)
      · replace hf := mx_iff hc22 hf
        refine lv_iconst (v := (0 : Int32)) hx hb dX13_laysWays_29 (by decide) ?_
        exact wfX13_laysWays_30 C hT i1 (fX13_laysWays_9 i1 n) ih i2 i2 false M _ _ _ hf hM (lv_sub hl [0, 1, 2] rfl)
      · replace hf := mx_ift hc22 hf
        refine lv_iconst (v := (1 : Int32)) hx hb dX13_laysWays_25 (by decide) ?_
        refine lv_goto (tgt := 30) hx hb dX13_laysWays_26 (by decide) ?_
        exact wfX13_laysWays_30 C hT i1 (fX13_laysWays_9 i1 n) ih i2 i2 true M _ _ _ hf hM (lv_sub hl [0, 1, 2] rfl)
set_option maxRecDepth 100000 in
set_option maxHeartbeats 4000000 in
theorem kX13_laysWays {E : KE} {l : Launch} (hE : mx_ok E)  (hT : E.1 = mt) (M : MM) {q : MM} (hf : fX13_laysWays M = some q) : mx_Met E l yX13_laysWays cX13_laysWays 5 none 2 [.ref (E.2.1.2.1 0)] M none q := by
  refine mx_enter hE (by decide) (Nat.le_of_ble_eq_true rfl) ?_
  intro p e s m below meth c C hM hn ls hl
  have hx := C.1.1
  have hb := C.1.2.1
  have hown := C.1.2.2.2.1
  have hts := C.1.2.2.2.2
  have hl : lv_has ls 5 [(0, .ref (E.2.1.2.1 0))] := hl
  rw [fX13_laysWays] at hf
  refine lv_aload_n hx hb dX13_laysWays_0 rfl (lv_at hl 0 rfl) ?_
  refine g13_33 C hT hM dX13_laysWays_1 ?_
  refine lv_iconst (v := (1 : Int32)) hx hb dX13_laysWays_4 (by decide) ?_
  refine mx_ialdL C hM (mt_2 hT) (j := 1) (by decide) (mx_in_vp (by decide)) dX13_laysWays_5 ?_
  refine lv_istore_n (lv' := [(1, .int (M.1 2 1)), (0, .ref (E.2.1.2.1 0))]) hx hb dX13_laysWays_6 rfl hl (by decide) rfl (fun ls hl => ?_)
  refine lv_iconst (v := (0 : Int32)) hx hb dX13_laysWays_7 (by decide) ?_
  refine lv_istore_n (lv' := [(2, .int (0 : Int32)), (1, .int (M.1 2 1)), (0, .ref (E.2.1.2.1 0))]) hx hb dX13_laysWays_8 rfl hl (by decide) rfl (fun ls hl => ?_)
  exact wfX13_laysWays_9 C hT (M.1 2 1) mx_fu (0 : Int32) M _ _ _ hf hM (lv_sub hl [2, 1, 0] rfl)
theorem dX13_ways_0 : decode cX13_ways 0 = .ok (.aload_n 0, 1) := by decide +kernel
theorem dX13_ways_1 : decode cX13_ways 1 = .ok (.iconst 0, 1) := by decide +kernel
theorem dX13_ways_2 : decode cX13_ways 2 = .ok (.putfield 1, 3) := by decide +kernel
theorem dX13_ways_5 : decode cX13_ways 5 = .ok (.aload_n 0, 1) := by decide +kernel
theorem dX13_ways_6 : decode cX13_ways 6 = .ok (.invokevirtual 380, 3) := by decide +kernel
theorem dX13_ways_9 : decode cX13_ways 9 = .ok (.aload_n 0, 1) := by decide +kernel
theorem dX13_ways_10 : decode cX13_ways 10 = .ok (.getfield 77, 3) := by decide +kernel
theorem dX13_ways_13 : decode cX13_ways 13 = .ok (.iconst 0, 1) := by decide +kernel
theorem dX13_ways_14 : decode cX13_ways 14 = .ok (.iaload, 1) := by decide +kernel
theorem dX13_ways_15 : decode cX13_ways 15 = .ok (.ireturn, 1) := by decide +kernel
set_option maxRecDepth 100000 in
set_option maxHeartbeats 4000000 in
theorem kX13_ways {E : KE} {l : Launch} (hE : mx_ok E)  (hT : E.1 = mt) (M : MM) {q : (Int32 × MM)} (hf : fX13_ways M = some q) : mx_Met E l yX13_ways cX13_ways 1 (some .int) 3 [.ref (E.2.1.2.1 0)] M (some (.int q.1)) q.2 := by
  refine mx_enter hE (by decide) (Nat.le_of_ble_eq_true rfl) ?_
  intro p e s m below meth c C hM hn ls hl
  have hx := C.1.1
  have hb := C.1.2.1
  have hown := C.1.2.2.2.1
  have hts := C.1.2.2.2.2
  have hl : lv_has ls 1 [(0, .ref (E.2.1.2.1 0))] := hl
  rw [fX13_ways] at hf
  refine lv_aload_n hx hb dX13_ways_0 rfl (lv_at hl 0 rfl) ?_
  refine lv_iconst (v := (0 : Int32)) hx hb dX13_ways_1 (by decide) ?_
  refine p13_1 C hT hM dX13_ways_2 (fun H locs hM => ?_)
  refine lv_aload_n hx hb dX13_ways_5 rfl (lv_at hl 0 rfl) ?_
  obtain ⟨q6, hq6, hf⟩ := mx_bd hf
  refine mx_callV C hM hl.1 yo_X13_laysWays (h' := 2) (by decide) qw_1863 qw_1865 qs_161 (ci := 13) (q := (RX13, TX13, 52)) rfl (mt_0 hT) (As := []) (rest := []) (st1 := []) (kX13_laysWays C.2.2.2.1  hT (mx_si M 0 0 (0 : Int32)) hq6) rfl rfl rfl (Nat.le_of_ble_eq_true rfl) dX13_ways_6 (fun H locs hM => ?_)
  refine lv_aload_n hx hb dX13_ways_9 rfl (lv_at hl 0 rfl) ?_
  refine g13_77 C hT hM dX13_ways_10 ?_
  refine lv_iconst (v := (0 : Int32)) hx hb dX13_ways_13 (by decide) ?_
  refine mx_ialdL C hM (mt_14 hT) (j := 0) (by decide) (mx_in_vp (by decide)) dX13_ways_14 ?_
  exact mx_iret C hM hf dX13_ways_15
theorem dX13_waysBy_0 : decode cX13_waysBy 0 = .ok (.iconst 0, 1) := by decide +kernel
theorem dX13_waysBy_1 : decode cX13_waysBy 1 = .ok (.istore_n 3, 1) := by decide +kernel
theorem dX13_waysBy_2 : decode cX13_waysBy 2 = .ok (.iconst 0, 1) := by decide +kernel
theorem dX13_waysBy_3 : decode cX13_waysBy 3 = .ok (.istore 4, 2) := by decide +kernel
theorem dX13_waysBy_5 : decode cX13_waysBy 5 = .ok (.iload 4, 2) := by decide +kernel
theorem dX13_waysBy_7 : decode cX13_waysBy 7 = .ok (.sipush 128, 3) := by decide +kernel
theorem dX13_waysBy_10 : decode cX13_waysBy 10 = .ok (.if_icmp .ge 63, 3) := by decide +kernel
theorem dX13_waysBy_13 : decode cX13_waysBy 13 = .ok (.iload 4, 2) := by decide +kernel
theorem dX13_waysBy_15 : decode cX13_waysBy 15 = .ok (.iload_n 2, 1) := by decide +kernel
theorem dX13_waysBy_16 : decode cX13_waysBy 16 = .ok (.invokestatic 218, 3) := by decide +kernel
theorem dX13_waysBy_19 : decode cX13_waysBy 19 = .ok (.ifCond .ne 48, 3) := by decide +kernel
theorem dX13_waysBy_22 : decode cX13_waysBy 22 = .ok (.aload_n 0, 1) := by decide +kernel
theorem dX13_waysBy_23 : decode cX13_waysBy 23 = .ok (.iload_n 1, 1) := by decide +kernel
theorem dX13_waysBy_24 : decode cX13_waysBy 24 = .ok (.iload_n 2, 1) := by decide +kernel
theorem dX13_waysBy_25 : decode cX13_waysBy 25 = .ok (.invokevirtual 298, 3) := by decide +kernel
theorem dX13_waysBy_28 : decode cX13_waysBy 28 = .ok (.ifCond .eq 39, 3) := by decide +kernel
theorem dX13_waysBy_31 : decode cX13_waysBy 31 = .ok (.iload_n 3, 1) := by decide +kernel
theorem dX13_waysBy_32 : decode cX13_waysBy 32 = .ok (.aload_n 0, 1) := by decide +kernel
theorem dX13_waysBy_33 : decode cX13_waysBy 33 = .ok (.getfield 74, 3) := by decide +kernel
theorem dX13_waysBy_36 : decode cX13_waysBy 36 = .ok (.sipush 128, 3) := by decide +kernel
theorem dX13_waysBy_39 : decode cX13_waysBy 39 = .ok (.iload_n 1, 1) := by decide +kernel
theorem dX13_waysBy_40 : decode cX13_waysBy 40 = .ok (.imul, 1) := by decide +kernel
theorem dX13_waysBy_41 : decode cX13_waysBy 41 = .ok (.iload 4, 2) := by decide +kernel
theorem dX13_waysBy_43 : decode cX13_waysBy 43 = .ok (.iadd, 1) := by decide +kernel
theorem dX13_waysBy_44 : decode cX13_waysBy 44 = .ok (.iaload, 1) := by decide +kernel
theorem dX13_waysBy_45 : decode cX13_waysBy 45 = .ok (.aload_n 0, 1) := by decide +kernel
theorem dX13_waysBy_46 : decode cX13_waysBy 46 = .ok (.getfield 77, 3) := by decide +kernel
theorem dX13_waysBy_49 : decode cX13_waysBy 49 = .ok (.sipush 128, 3) := by decide +kernel
theorem dX13_waysBy_52 : decode cX13_waysBy 52 = .ok (.iload_n 1, 1) := by decide +kernel
theorem dX13_waysBy_53 : decode cX13_waysBy 53 = .ok (.iconst 1, 1) := by decide +kernel
theorem dX13_waysBy_54 : decode cX13_waysBy 54 = .ok (.iadd, 1) := by decide +kernel
theorem dX13_waysBy_55 : decode cX13_waysBy 55 = .ok (.imul, 1) := by decide +kernel
theorem dX13_waysBy_56 : decode cX13_waysBy 56 = .ok (.iload 4, 2) := by decide +kernel
theorem dX13_waysBy_58 : decode cX13_waysBy 58 = .ok (.iconst 1, 1) := by decide +kernel
theorem dX13_waysBy_59 : decode cX13_waysBy 59 = .ok (.iload_n 2, 1) := by decide +kernel
theorem dX13_waysBy_60 : decode cX13_waysBy 60 = .ok (.ishl, 1) := by decide +kernel
theorem dX13_waysBy_61 : decode cX13_waysBy 61 = .ok (.ior, 1) := by decide +kernel
theorem dX13_waysBy_62 : decode cX13_waysBy 62 = .ok (.iadd, 1) := by decide +kernel
theorem dX13_waysBy_63 : decode cX13_waysBy 63 = .ok (.iaload, 1) := by decide +kernel
theorem dX13_waysBy_64 : decode cX13_waysBy 64 = .ok (.imul, 1) := by decide +kernel
theorem dX13_waysBy_65 : decode cX13_waysBy 65 = .ok (.iadd, 1) := by decide +kernel
theorem dX13_waysBy_66 : decode cX13_waysBy 66 = .ok (.istore_n 3, 1) := by decide +kernel
theorem dX13_waysBy_67 : decode cX13_waysBy 67 = .ok (.iinc 4 1, 3) := by decide +kernel
theorem dX13_waysBy_70 : decode cX13_waysBy 70 = .ok (.goto (-65), 3) := by decide +kernel
theorem dX13_waysBy_73 : decode cX13_waysBy 73 = .ok (.iload_n 3, 1) := by decide +kernel
theorem dX13_waysBy_74 : decode cX13_waysBy 74 = .ok (.ireturn, 1) := by decide +kernel
set_option maxRecDepth 100000 in
set_option maxHeartbeats 4000000 in
theorem wfX13_waysBy_5 {E : KE} {p : Program} {l : Launch} {e : Env} {s : State} {m : MethodId} {args : Array Value} {below : List Frame} {meth : Method} {c : Code} {q : Int32} (C : mx_C E p m c cX13_waysBy 5 s args RX13 meth (some .int)) (i1 : Int32) (i2 : Int32) (M : MM) (hT : E.1 = mt)   : ∀ (n : Nat) (i3 : Int32) (i4 : Int32) (H : Heap) (locs : List Loc) (ls : Array Slot), fX13_waysBy_5 i1 i2 M n i3 i4 = some q → mx_H E s M H locs → lv_has ls 5 [(0, .ref (E.2.1.2.1 0)), (1, .int i1), (2, .int i2), (3, .int i3), (4, .int i4)] → W p l e (mx_rm 2) s m args below meth c H locs 0 0 (mx_Z E below args s (some (.int q)) M) (F0 m 5 ls []) := by
  have hx := C.1.1
  have hb := C.1.2.1
  have hown := C.1.2.2.2.1
  have hts := C.1.2.2.2.2
  intro n
  induction n with
  | zero =>
    intro i3 i4 H locs ls hf hM hl
    rw [fX13_waysBy_5] at hf
    cases hf
  | succ n ih =>
    intro i3 i4 H locs ls hf hM hl
    rw [fX13_waysBy_5] at hf
    refine lv_iload hx hb dX13_waysBy_5 (lv_at hl 4 rfl) ?_
    refine lv_sipush (v := (128 : Int32)) hx hb dX13_waysBy_7 (by decide) ?_
    refine lv_icmp_ge (tgt := 73) hx hb dX13_waysBy_10 (by decide) (fun hc10 => ?_) (fun hc10 => ?_)
    · replace hf := mx_ift hc10 hf
      refine lv_iload_n hx hb dX13_waysBy_73 rfl (lv_at hl 3 rfl) ?_
      exact mx_iretR C hM hf dX13_waysBy_74
    · replace hf := mx_iff hc10 hf
      refine lv_iload hx hb dX13_waysBy_13 (lv_at hl 4 rfl) ?_
      refine lv_iload_n hx hb dX13_waysBy_15 rfl (lv_at hl 2 rfl) ?_
      obtain ⟨q16, hq16, hf⟩ := mx_bd hf
      refine mx_callS C hM hl.1 yo_X13_bitOf (h' := 0) (by decide) qw_1627 qw_1628 (As := [.int i4, .int i2]) (rest := []) (st1 := [.int (mx_b q16)]) (kX13_bitOf C.2.2.2.1 i4 i2 hT M hq16) rfl rfl rfl (Nat.le_of_ble_eq_true rfl) dX13_waysBy_16 (fun H locs hM => ?_)
      refine lv_if_ne (tgt := 67) hx hb dX13_waysBy_19 (by decide) (fun hc19 => ?_) (fun hc19 => ?_)
      · replace hf := mx_iff hc19 hf
        refine lv_iinc (v := (i4 + (1 : Int32))) (lv' := [(4, .int (i4 + (1 : Int32))), (0, .ref (E.2.1.2.1 0)), (1, .int i1), (2, .int i2), (3, .int i3)]) hx hb dX13_waysBy_67 hl (k := 4) rfl rfl (by decide) rfl (fun ls hl => ?_)
        refine lv_goto (tgt := 5) hx hb dX13_waysBy_70 (by decide) ?_
        exact ih i3 (i4 + (1 : Int32)) _ _ _ hf hM (lv_sub hl [1, 2, 3, 4, 0] rfl)
      · replace hf := mx_ift hc19 hf
        refine lv_aload_n hx hb dX13_waysBy_22 rfl (lv_at hl 0 rfl) ?_
        refine lv_iload_n hx hb dX13_waysBy_23 rfl (lv_at hl 1 rfl) ?_
        refine lv_iload_n hx hb dX13_waysBy_24 rfl (lv_at hl 2 rfl) ?_
        obtain ⟨q25, hq25, hf⟩ := mx_bd hf
        refine mx_callV C hM hl.1 yo_X13_isFit (h' := 1) (by decide) qw_1741 qw_1743 qs_147 (ci := 13) (q := (RX13, TX13, 52)) rfl (mt_0 hT) (As := [.int i1, .int i2]) (rest := []) (st1 := [.int (mx_b q25)]) (kX13_isFit C.2.2.2.1 i1 i2 hT M hq25) rfl rfl rfl (Nat.le_of_ble_eq_true rfl) dX13_waysBy_25 (fun H locs hM => ?_)
        refine lv_if_eq (tgt := 67) hx hb dX13_waysBy_28 (by decide) (fun hc28 => ?_) (fun hc28 => ?_)
        · replace hf := mx_ift hc28 hf
          refine lv_iinc (v := (i4 + (1 : Int32))) (lv' := [(4, .int (i4 + (1 : Int32))), (0, .ref (E.2.1.2.1 0)), (1, .int i1), (2, .int i2), (3, .int i3)]) hx hb dX13_waysBy_67 hl (k := 4) rfl rfl (by decide) rfl (fun ls hl => ?_)
          refine lv_goto (tgt := 5) hx hb dX13_waysBy_70 (by decide) ?_
          exact ih i3 (i4 + (1 : Int32)) _ _ _ hf hM (lv_sub hl [1, 2, 3, 4, 0] rfl)
        · replace hf := mx_iff hc28 hf
          refine lv_iload_n hx hb dX13_waysBy_31 rfl (lv_at hl 3 rfl) ?_
          refine lv_aload_n hx hb dX13_waysBy_32 rfl (lv_at hl 0 rfl) ?_
          refine g13_74 C hT hM dX13_waysBy_33 ?_
          refine lv_sipush (v := (128 : Int32)) hx hb dX13_waysBy_36 (by decide) ?_
          refine lv_iload_n hx hb dX13_waysBy_39 rfl (lv_at hl 1 rfl) ?_
          refine lv_imul hx hb dX13_waysBy_40 ?_
          refine lv_iload hx hb dX13_waysBy_41 (lv_at hl 4 rfl) ?_
          refine lv_iadd hx hb dX13_waysBy_43 ?_
          obtain ⟨hg44, hf⟩ := mx_gd hf
          refine mx_iald C hM (mt_13 hT) (mx_in_vp hg44) dX13_waysBy_44 ?_
          refine lv_aload_n hx hb dX13_waysBy_45 rfl (lv_at hl 0 rfl) ?_
          refine g13_77 C hT hM dX13_waysBy_46 ?_
          refine lv_sipush (v := (128 : Int32)) hx hb dX13_waysBy_49 (by decide) ?_
          refine lv_iload_n hx hb dX13_waysBy_52 rfl (lv_at hl 1 rfl) ?_
          refine lv_iconst (v := (1 : Int32)) hx hb dX13_waysBy_53 (by decide) ?_
          refine lv_iadd hx hb dX13_waysBy_54 ?_
          refine lv_imul hx hb dX13_waysBy_55 ?_
          refine lv_iload hx hb dX13_waysBy_56 (lv_at hl 4 rfl) ?_
          refine lv_iconst (v := (1 : Int32)) hx hb dX13_waysBy_58 (by decide) ?_
          refine lv_iload_n hx hb dX13_waysBy_59 rfl (lv_at hl 2 rfl) ?_
          refine lv_ishl hx hb dX13_waysBy_60 ?_
          refine lv_ior hx hb dX13_waysBy_61 ?_
          refine lv_iadd hx hb dX13_waysBy_62 ?_
          obtain ⟨hg63, hf⟩ := mx_gd hf
          refine mx_iald C hM (mt_14 hT) (mx_in_vp hg63) dX13_waysBy_63 ?_
          refine lv_imul hx hb dX13_waysBy_64 ?_
          refine lv_iadd hx hb dX13_waysBy_65 ?_
          refine lv_istore_n (lv' := [(3, .int (i3 + ((M.1 13 (((128 : Int32) * i1) + i4).toNatClampNeg) * (M.1 14 (((128 : Int32) * (i1 + (1 : Int32))) + (i4 ||| ((1 : Int32) <<< (i2 &&& 31)))).toNatClampNeg)))), (0, .ref (E.2.1.2.1 0)), (1, .int i1), (2, .int i2), (4, .int i4)]) hx hb dX13_waysBy_66 rfl hl (by decide) rfl (fun ls hl => ?_)
          refine lv_iinc (v := (i4 + (1 : Int32))) (lv' := [(4, .int (i4 + (1 : Int32))), (3, .int (i3 + ((M.1 13 (((128 : Int32) * i1) + i4).toNatClampNeg) * (M.1 14 (((128 : Int32) * (i1 + (1 : Int32))) + (i4 ||| ((1 : Int32) <<< (i2 &&& 31)))).toNatClampNeg)))), (0, .ref (E.2.1.2.1 0)), (1, .int i1), (2, .int i2)]) hx hb dX13_waysBy_67 hl (k := 4) rfl rfl (by decide) rfl (fun ls hl => ?_)
          refine lv_goto (tgt := 5) hx hb dX13_waysBy_70 (by decide) ?_
          exact ih (i3 + ((M.1 13 (((128 : Int32) * i1) + i4).toNatClampNeg) * (M.1 14 (((128 : Int32) * (i1 + (1 : Int32))) + (i4 ||| ((1 : Int32) <<< (i2 &&& 31)))).toNatClampNeg))) (i4 + (1 : Int32)) _ _ _ hf hM (lv_sub hl [2, 3, 4, 1, 0] rfl)
set_option maxRecDepth 100000 in
set_option maxHeartbeats 4000000 in
theorem kX13_waysBy {E : KE} {l : Launch} (hE : mx_ok E) (i1 : Int32) (i2 : Int32) (hT : E.1 = mt) (M : MM) {q : Int32} (hf : fX13_waysBy i1 i2 M = some q) : mx_Met E l yX13_waysBy cX13_waysBy 5 (some .int) 2 [.ref (E.2.1.2.1 0), .int i1, .int i2] M (some (.int q)) M := by
  refine mx_enter hE (by decide) (Nat.le_of_ble_eq_true rfl) ?_
  intro p e s m below meth c C hM hn ls hl
  have hx := C.1.1
  have hb := C.1.2.1
  have hown := C.1.2.2.2.1
  have hts := C.1.2.2.2.2
  have hl : lv_has ls 5 [(0, .ref (E.2.1.2.1 0)), (1, .int i1), (2, .int i2)] := hl
  rw [fX13_waysBy] at hf
  refine lv_iconst (v := (0 : Int32)) hx hb dX13_waysBy_0 (by decide) ?_
  refine lv_istore_n (lv' := [(3, .int (0 : Int32)), (0, .ref (E.2.1.2.1 0)), (1, .int i1), (2, .int i2)]) hx hb dX13_waysBy_1 rfl hl (by decide) rfl (fun ls hl => ?_)
  refine lv_iconst (v := (0 : Int32)) hx hb dX13_waysBy_2 (by decide) ?_
  refine lv_istore (lv' := [(4, .int (0 : Int32)), (3, .int (0 : Int32)), (0, .ref (E.2.1.2.1 0)), (1, .int i1), (2, .int i2)]) hx hb dX13_waysBy_3 hl (by decide) rfl (fun ls hl => ?_)
  exact wfX13_waysBy_5 C i1 i2 M hT mx_fu (0 : Int32) (0 : Int32) _ _ _ hf hM (lv_sub hl [2, 3, 4, 1, 0] rfl)
theorem dX13_likely_0 : decode cX13_likely 0 = .ok (.aload_n 0, 1) := by decide +kernel
theorem dX13_likely_1 : decode cX13_likely 1 = .ok (.iconst 0, 1) := by decide +kernel
theorem dX13_likely_2 : decode cX13_likely 2 = .ok (.putfield 1, 3) := by decide +kernel
theorem dX13_likely_5 : decode cX13_likely 5 = .ok (.aload_n 0, 1) := by decide +kernel
theorem dX13_likely_6 : decode cX13_likely 6 = .ok (.iload_n 1, 1) := by decide +kernel
theorem dX13_likely_7 : decode cX13_likely 7 = .ok (.invokevirtual 289, 3) := by decide +kernel
theorem dX13_likely_10 : decode cX13_likely 10 = .ok (.ifCond .ne 5, 3) := by decide +kernel
theorem dX13_likely_13 : decode cX13_likely 13 = .ok (.iconst (-1), 1) := by decide +kernel
theorem dX13_likely_14 : decode cX13_likely 14 = .ok (.ireturn, 1) := by decide +kernel
theorem dX13_likely_15 : decode cX13_likely 15 = .ok (.aload_n 0, 1) := by decide +kernel
theorem dX13_likely_16 : decode cX13_likely 16 = .ok (.invokevirtual 380, 3) := by decide +kernel
theorem dX13_likely_19 : decode cX13_likely 19 = .ok (.iconst (-1), 1) := by decide +kernel
theorem dX13_likely_20 : decode cX13_likely 20 = .ok (.istore_n 2, 1) := by decide +kernel
theorem dX13_likely_21 : decode cX13_likely 21 = .ok (.iconst 0, 1) := by decide +kernel
theorem dX13_likely_22 : decode cX13_likely 22 = .ok (.istore_n 3, 1) := by decide +kernel
theorem dX13_likely_23 : decode cX13_likely 23 = .ok (.iconst 0, 1) := by decide +kernel
theorem dX13_likely_24 : decode cX13_likely 24 = .ok (.istore 4, 2) := by decide +kernel
theorem dX13_likely_26 : decode cX13_likely 26 = .ok (.iload 4, 2) := by decide +kernel
theorem dX13_likely_28 : decode cX13_likely 28 = .ok (.aload_n 0, 1) := by decide +kernel
theorem dX13_likely_29 : decode cX13_likely 29 = .ok (.getfield 33, 3) := by decide +kernel
theorem dX13_likely_32 : decode cX13_likely 32 = .ok (.iconst 0, 1) := by decide +kernel
theorem dX13_likely_33 : decode cX13_likely 33 = .ok (.iaload, 1) := by decide +kernel
theorem dX13_likely_34 : decode cX13_likely 34 = .ok (.if_icmp .ge 33, 3) := by decide +kernel
theorem dX13_likely_37 : decode cX13_likely 37 = .ok (.aload_n 0, 1) := by decide +kernel
theorem dX13_likely_38 : decode cX13_likely 38 = .ok (.iload_n 1, 1) := by decide +kernel
theorem dX13_likely_39 : decode cX13_likely 39 = .ok (.iload 4, 2) := by decide +kernel
theorem dX13_likely_41 : decode cX13_likely 41 = .ok (.invokevirtual 383, 3) := by decide +kernel
theorem dX13_likely_44 : decode cX13_likely 44 = .ok (.istore 5, 2) := by decide +kernel
theorem dX13_likely_46 : decode cX13_likely 46 = .ok (.iload 5, 2) := by decide +kernel
theorem dX13_likely_48 : decode cX13_likely 48 = .ok (.iload_n 3, 1) := by decide +kernel
theorem dX13_likely_49 : decode cX13_likely 49 = .ok (.if_icmp .gt 6, 3) := by decide +kernel
theorem dX13_likely_52 : decode cX13_likely 52 = .ok (.goto 9, 3) := by decide +kernel
theorem dX13_likely_55 : decode cX13_likely 55 = .ok (.iload 5, 2) := by decide +kernel
theorem dX13_likely_57 : decode cX13_likely 57 = .ok (.istore_n 3, 1) := by decide +kernel
theorem dX13_likely_58 : decode cX13_likely 58 = .ok (.iload 4, 2) := by decide +kernel
theorem dX13_likely_60 : decode cX13_likely 60 = .ok (.istore_n 2, 1) := by decide +kernel
theorem dX13_likely_61 : decode cX13_likely 61 = .ok (.iinc 4 1, 3) := by decide +kernel
theorem dX13_likely_64 : decode cX13_likely 64 = .ok (.goto (-38), 3) := by decide +kernel
theorem dX13_likely_67 : decode cX13_likely 67 = .ok (.iload_n 2, 1) := by decide +kernel
theorem dX13_likely_68 : decode cX13_likely 68 = .ok (.ireturn, 1) := by decide +kernel
set_option maxRecDepth 100000 in
set_option maxHeartbeats 4000000 in
theorem wfX13_likely_26 {E : KE} {p : Program} {l : Launch} {e : Env} {s : State} {m : MethodId} {args : Array Value} {below : List Frame} {meth : Method} {c : Code} {q : (Int32 × MM)} (C : mx_C E p m c cX13_likely 6 s args RX13 meth (some .int)) (i1 : Int32) (hT : E.1 = mt)   : ∀ (n : Nat) (i2 : Int32) (i3 : Int32) (i4 : Int32) (M : MM) (H : Heap) (locs : List Loc) (ls : Array Slot), fX13_likely_26 i1 n i2 i3 i4 M = some q → mx_H E s M H locs → lv_has ls 6 [(0, .ref (E.2.1.2.1 0)), (1, .int i1), (2, .int i2), (3, .int i3), (4, .int i4)] → W p l e (mx_rm 3) s m args below meth c H locs 0 0 (mx_Z E below args s (some (.int q.1)) q.2) (F0 m 26 ls []) := by
  have hx := C.1.1
  have hb := C.1.2.1
  have hown := C.1.2.2.2.1
  have hts := C.1.2.2.2.2
  intro n
  induction n with
  | zero =>
    intro i2 i3 i4 M H locs ls hf hM hl
    rw [fX13_likely_26] at hf
    cases hf
  | succ n ih =>
    intro i2 i3 i4 M H locs ls hf hM hl
    rw [fX13_likely_26] at hf
    refine lv_iload hx hb dX13_likely_26 (lv_at hl 4 rfl) ?_
    refine lv_aload_n hx hb dX13_likely_28 rfl (lv_at hl 0 rfl) ?_
    refine g13_33 C hT hM dX13_likely_29 ?_
    refine lv_iconst (v := (0 : Int32)) hx hb dX13_likely_32 (by decide) ?_
    refine mx_ialdL C hM (mt_2 hT) (j := 0) (by decide) (mx_in_vp (by decide)) dX13_likely_33 ?_
    refine lv_icmp_ge (tgt := 67) hx hb dX13_likely_34 (by decide) (fun hc34 => ?_) (fun hc34 => ?_)
    · replace hf := mx_ift hc34 hf
      refine lv_iload_n hx hb dX13_likely_67 rfl (lv_at hl 2 rfl) ?_
      exact mx_iret C hM hf dX13_likely_68
    · replace hf := mx_iff hc34 hf
      refine lv_aload_n hx hb dX13_likely_37 rfl (lv_at hl 0 rfl) ?_
      refine lv_iload_n hx hb dX13_likely_38 rfl (lv_at hl 1 rfl) ?_
      refine lv_iload hx hb dX13_likely_39 (lv_at hl 4 rfl) ?_
      obtain ⟨q41, hq41, hf⟩ := mx_bd hf
      refine mx_callV C hM hl.1 yo_X13_waysBy (h' := 2) (by decide) qw_1871 qw_1873 qs_162 (ci := 13) (q := (RX13, TX13, 52)) rfl (mt_0 hT) (As := [.int i1, .int i4]) (rest := []) (st1 := [.int q41]) (kX13_waysBy C.2.2.2.1 i1 i4 hT M hq41) rfl rfl rfl (Nat.le_of_ble_eq_true rfl) dX13_likely_41 (fun H locs hM => ?_)
      refine lv_istore (lv' := [(5, .int q41), (0, .ref (E.2.1.2.1 0)), (1, .int i1), (2, .int i2), (3, .int i3), (4, .int i4)]) hx hb dX13_likely_44 hl (by decide) rfl (fun ls hl => ?_)
      refine lv_iload hx hb dX13_likely_46 (lv_at hl 0 rfl) ?_
      refine lv_iload_n hx hb dX13_likely_48 rfl (lv_at hl 4 rfl) ?_
      refine lv_icmp_gt (tgt := 55) hx hb dX13_likely_49 (by decide) (fun hc49 => ?_) (fun hc49 => ?_)
      · replace hf := mx_ift hc49 hf
        refine lv_iload hx hb dX13_likely_55 (lv_at hl 0 rfl) ?_
        refine lv_istore_n (lv' := [(3, .int q41), (5, .int q41), (0, .ref (E.2.1.2.1 0)), (1, .int i1), (2, .int i2), (4, .int i4)]) hx hb dX13_likely_57 rfl hl (by decide) rfl (fun ls hl => ?_)
        refine lv_iload hx hb dX13_likely_58 (lv_at hl 5 rfl) ?_
        refine lv_istore_n (lv' := [(2, .int i4), (3, .int q41), (5, .int q41), (0, .ref (E.2.1.2.1 0)), (1, .int i1), (4, .int i4)]) hx hb dX13_likely_60 rfl hl (by decide) rfl (fun ls hl => ?_)
        refine lv_iinc (v := (i4 + (1 : Int32))) (lv' := [(4, .int (i4 + (1 : Int32))), (2, .int i4), (3, .int q41), (5, .int q41), (0, .ref (E.2.1.2.1 0)), (1, .int i1)]) hx hb dX13_likely_61 hl (k := 5) rfl rfl (by decide) rfl (fun ls hl => ?_)
        refine lv_goto (tgt := 26) hx hb dX13_likely_64 (by decide) ?_
        exact ih i4 q41 (i4 + (1 : Int32)) M _ _ _ hf hM (lv_sub hl [4, 5, 1, 2, 0] rfl)
      · replace hf := mx_iff hc49 hf
        refine lv_goto (tgt := 61) hx hb dX13_likely_52 (by decide) ?_
        refine lv_iinc (v := (i4 + (1 : Int32))) (lv' := [(4, .int (i4 + (1 : Int32))), (5, .int q41), (0, .ref (E.2.1.2.1 0)), (1, .int i1), (2, .int i2), (3, .int i3)]) hx hb dX13_likely_61 hl (k := 5) rfl rfl (by decide) rfl (fun ls hl => ?_)
        refine lv_goto (tgt := 26) hx hb dX13_likely_64 (by decide) ?_
        exact ih i2 i3 (i4 + (1 : Int32)) M _ _ _ hf hM (lv_sub hl [2, 3, 4, 5, 0] rfl)
set_option maxRecDepth 100000 in
set_option maxHeartbeats 4000000 in
theorem kX13_likely {E : KE} {l : Launch} (hE : mx_ok E) (i1 : Int32) (hT : E.1 = mt) (M : MM) {q : (Int32 × MM)} (hf : fX13_likely i1 M = some q) : mx_Met E l yX13_likely cX13_likely 6 (some .int) 3 [.ref (E.2.1.2.1 0), .int i1] M (some (.int q.1)) q.2 := by
  refine mx_enter hE (by decide) (Nat.le_of_ble_eq_true rfl) ?_
  intro p e s m below meth c C hM hn ls hl
  have hx := C.1.1
  have hb := C.1.2.1
  have hown := C.1.2.2.2.1
  have hts := C.1.2.2.2.2
  have hl : lv_has ls 6 [(0, .ref (E.2.1.2.1 0)), (1, .int i1)] := hl
  rw [fX13_likely] at hf
  refine lv_aload_n hx hb dX13_likely_0 rfl (lv_at hl 0 rfl) ?_
  refine lv_iconst (v := (0 : Int32)) hx hb dX13_likely_1 (by decide) ?_
  refine p13_1 C hT hM dX13_likely_2 (fun H locs hM => ?_)
  refine lv_aload_n hx hb dX13_likely_5 rfl (lv_at hl 0 rfl) ?_
  refine lv_iload_n hx hb dX13_likely_6 rfl (lv_at hl 1 rfl) ?_
  obtain ⟨q7, hq7, hf⟩ := mx_bd hf
  refine mx_callV C hM hl.1 yo_X13_isRing (h' := 1) (by decide) qw_1674 qw_1676 qs_136 (ci := 13) (q := (RX13, TX13, 52)) rfl (mt_0 hT) (As := [.int i1]) (rest := []) (st1 := [.int (mx_b q7)]) (kX13_isRing C.2.2.2.1 i1 hT (mx_si M 0 0 (0 : Int32)) hq7) rfl rfl rfl (Nat.le_of_ble_eq_true rfl) dX13_likely_7 (fun H locs hM => ?_)
  refine lv_if_ne (tgt := 15) hx hb dX13_likely_10 (by decide) (fun hc10 => ?_) (fun hc10 => ?_)
  · replace hf := mx_iff hc10 hf
    refine lv_aload_n hx hb dX13_likely_15 rfl (lv_at hl 0 rfl) ?_
    obtain ⟨q16, hq16, hf⟩ := mx_bd hf
    refine mx_callV C hM hl.1 yo_X13_laysWays (h' := 2) (by decide) qw_1863 qw_1865 qs_161 (ci := 13) (q := (RX13, TX13, 52)) rfl (mt_0 hT) (As := []) (rest := []) (st1 := []) (kX13_laysWays C.2.2.2.1  hT (mx_si M 0 0 (0 : Int32)) hq16) rfl rfl rfl (Nat.le_of_ble_eq_true rfl) dX13_likely_16 (fun H locs hM => ?_)
    refine lv_iconst (v := (-1 : Int32)) hx hb dX13_likely_19 (by decide) ?_
    refine lv_istore_n (lv' := [(2, .int (-1 : Int32)), (0, .ref (E.2.1.2.1 0)), (1, .int i1)]) hx hb dX13_likely_20 rfl hl (by decide) rfl (fun ls hl => ?_)
    refine lv_iconst (v := (0 : Int32)) hx hb dX13_likely_21 (by decide) ?_
    refine lv_istore_n (lv' := [(3, .int (0 : Int32)), (2, .int (-1 : Int32)), (0, .ref (E.2.1.2.1 0)), (1, .int i1)]) hx hb dX13_likely_22 rfl hl (by decide) rfl (fun ls hl => ?_)
    refine lv_iconst (v := (0 : Int32)) hx hb dX13_likely_23 (by decide) ?_
    refine lv_istore (lv' := [(4, .int (0 : Int32)), (3, .int (0 : Int32)), (2, .int (-1 : Int32)), (0, .ref (E.2.1.2.1 0)), (1, .int i1)]) hx hb dX13_likely_24 hl (by decide) rfl (fun ls hl => ?_)
    exact wfX13_likely_26 C i1 hT mx_fu (-1 : Int32) (0 : Int32) (0 : Int32) q16 _ _ _ hf hM (lv_sub hl [3, 4, 2, 1, 0] rfl)
  · replace hf := mx_ift hc10 hf
    refine lv_iconst (v := (-1 : Int32)) hx hb dX13_likely_13 (by decide) ?_
    exact mx_iret C hM hf dX13_likely_14
theorem dX13_keeperBy_0 : decode cX13_keeperBy 0 = .ok (.iconst 0, 1) := by decide +kernel
theorem dX13_keeperBy_1 : decode cX13_keeperBy 1 = .ok (.istore_n 2, 1) := by decide +kernel
theorem dX13_keeperBy_2 : decode cX13_keeperBy 2 = .ok (.iload_n 2, 1) := by decide +kernel
theorem dX13_keeperBy_3 : decode cX13_keeperBy 3 = .ok (.aload_n 0, 1) := by decide +kernel
theorem dX13_keeperBy_4 : decode cX13_keeperBy 4 = .ok (.getfield 33, 3) := by decide +kernel
theorem dX13_keeperBy_7 : decode cX13_keeperBy 7 = .ok (.iconst 1, 1) := by decide +kernel
theorem dX13_keeperBy_8 : decode cX13_keeperBy 8 = .ok (.iaload, 1) := by decide +kernel
theorem dX13_keeperBy_9 : decode cX13_keeperBy 9 = .ok (.if_icmp .ge 45, 3) := by decide +kernel
theorem dX13_keeperBy_12 : decode cX13_keeperBy 12 = .ok (.aload_n 0, 1) := by decide +kernel
theorem dX13_keeperBy_13 : decode cX13_keeperBy 13 = .ok (.getfield 33, 3) := by decide +kernel
theorem dX13_keeperBy_16 : decode cX13_keeperBy 16 = .ok (.bipush 33, 2) := by decide +kernel
theorem dX13_keeperBy_18 : decode cX13_keeperBy 18 = .ok (.iload_n 2, 1) := by decide +kernel
theorem dX13_keeperBy_19 : decode cX13_keeperBy 19 = .ok (.iadd, 1) := by decide +kernel
theorem dX13_keeperBy_20 : decode cX13_keeperBy 20 = .ok (.iaload, 1) := by decide +kernel
theorem dX13_keeperBy_21 : decode cX13_keeperBy 21 = .ok (.iload_n 1, 1) := by decide +kernel
theorem dX13_keeperBy_22 : decode cX13_keeperBy 22 = .ok (.if_icmp .ne 26, 3) := by decide +kernel
theorem dX13_keeperBy_25 : decode cX13_keeperBy 25 = .ok (.aload_n 0, 1) := by decide +kernel
theorem dX13_keeperBy_26 : decode cX13_keeperBy 26 = .ok (.getfield 33, 3) := by decide +kernel
theorem dX13_keeperBy_29 : decode cX13_keeperBy 29 = .ok (.bipush 85, 2) := by decide +kernel
theorem dX13_keeperBy_31 : decode cX13_keeperBy 31 = .ok (.iload_n 2, 1) := by decide +kernel
theorem dX13_keeperBy_32 : decode cX13_keeperBy 32 = .ok (.iadd, 1) := by decide +kernel
theorem dX13_keeperBy_33 : decode cX13_keeperBy 33 = .ok (.iaload, 1) := by decide +kernel
theorem dX13_keeperBy_34 : decode cX13_keeperBy 34 = .ok (.iconst 2, 1) := by decide +kernel
theorem dX13_keeperBy_35 : decode cX13_keeperBy 35 = .ok (.if_icmp .eq 13, 3) := by decide +kernel
theorem dX13_keeperBy_38 : decode cX13_keeperBy 38 = .ok (.aload_n 0, 1) := by decide +kernel
theorem dX13_keeperBy_39 : decode cX13_keeperBy 39 = .ok (.getfield 33, 3) := by decide +kernel
theorem dX13_keeperBy_42 : decode cX13_keeperBy 42 = .ok (.bipush 78, 2) := by decide +kernel
theorem dX13_keeperBy_44 : decode cX13_keeperBy 44 = .ok (.iload_n 2, 1) := by decide +kernel
theorem dX13_keeperBy_45 : decode cX13_keeperBy 45 = .ok (.iadd, 1) := by decide +kernel
theorem dX13_keeperBy_46 : decode cX13_keeperBy 46 = .ok (.iaload, 1) := by decide +kernel
theorem dX13_keeperBy_47 : decode cX13_keeperBy 47 = .ok (.ireturn, 1) := by decide +kernel
theorem dX13_keeperBy_48 : decode cX13_keeperBy 48 = .ok (.iinc 2 1, 3) := by decide +kernel
theorem dX13_keeperBy_51 : decode cX13_keeperBy 51 = .ok (.goto (-49), 3) := by decide +kernel
theorem dX13_keeperBy_54 : decode cX13_keeperBy 54 = .ok (.iconst (-1), 1) := by decide +kernel
theorem dX13_keeperBy_55 : decode cX13_keeperBy 55 = .ok (.ireturn, 1) := by decide +kernel
set_option maxRecDepth 100000 in
set_option maxHeartbeats 4000000 in
theorem wfX13_keeperBy_2 {E : KE} {p : Program} {l : Launch} {e : Env} {s : State} {m : MethodId} {args : Array Value} {below : List Frame} {meth : Method} {c : Code} {q : Int32} (C : mx_C E p m c cX13_keeperBy 3 s args RX13 meth (some .int)) (i1 : Int32) (M : MM) (hT : E.1 = mt)   : ∀ (n : Nat) (i2 : Int32) (H : Heap) (locs : List Loc) (ls : Array Slot), fX13_keeperBy_2 i1 M n i2 = some q → mx_H E s M H locs → lv_has ls 3 [(0, .ref (E.2.1.2.1 0)), (1, .int i1), (2, .int i2)] → W p l e (mx_rm 0) s m args below meth c H locs 0 0 (mx_Z E below args s (some (.int q)) M) (F0 m 2 ls []) := by
  have hx := C.1.1
  have hb := C.1.2.1
  have hown := C.1.2.2.2.1
  have hts := C.1.2.2.2.2
  intro n
  induction n with
  | zero =>
    intro i2 H locs ls hf hM hl
    rw [fX13_keeperBy_2] at hf
    cases hf
  | succ n ih =>
    intro i2 H locs ls hf hM hl
    rw [fX13_keeperBy_2] at hf
    refine lv_iload_n hx hb dX13_keeperBy_2 rfl (lv_at hl 2 rfl) ?_
    refine lv_aload_n hx hb dX13_keeperBy_3 rfl (lv_at hl 0 rfl) ?_
    refine g13_33 C hT hM dX13_keeperBy_4 ?_
    refine lv_iconst (v := (1 : Int32)) hx hb dX13_keeperBy_7 (by decide) ?_
    refine mx_ialdL C hM (mt_2 hT) (j := 1) (by decide) (mx_in_vp (by decide)) dX13_keeperBy_8 ?_
    refine lv_icmp_ge (tgt := 54) hx hb dX13_keeperBy_9 (by decide) (fun hc9 => ?_) (fun hc9 => ?_)
    · replace hf := mx_ift hc9 hf
      refine lv_iconst (v := (-1 : Int32)) hx hb dX13_keeperBy_54 (by decide) ?_
      exact mx_iretR C hM hf dX13_keeperBy_55
    · replace hf := mx_iff hc9 hf
      refine lv_aload_n hx hb dX13_keeperBy_12 rfl (lv_at hl 0 rfl) ?_
      refine g13_33 C hT hM dX13_keeperBy_13 ?_
      refine lv_bipush (v := (33 : Int32)) hx hb dX13_keeperBy_16 (by decide) ?_
      refine lv_iload_n hx hb dX13_keeperBy_18 rfl (lv_at hl 2 rfl) ?_
      refine lv_iadd hx hb dX13_keeperBy_19 ?_
      obtain ⟨hg20, hf⟩ := mx_gd hf
      refine mx_iald C hM (mt_2 hT) (mx_in_vp hg20) dX13_keeperBy_20 ?_
      refine lv_iload_n hx hb dX13_keeperBy_21 rfl (lv_at hl 1 rfl) ?_
      refine lv_icmp_ne (tgt := 48) hx hb dX13_keeperBy_22 (by decide) (fun hc22 => ?_) (fun hc22 => ?_)
      · replace hf := mx_iff hc22 hf
        refine lv_iinc (v := (i2 + (1 : Int32))) (lv' := [(2, .int (i2 + (1 : Int32))), (0, .ref (E.2.1.2.1 0)), (1, .int i1)]) hx hb dX13_keeperBy_48 hl (k := 2) rfl rfl (by decide) rfl (fun ls hl => ?_)
        refine lv_goto (tgt := 2) hx hb dX13_keeperBy_51 (by decide) ?_
        exact ih (i2 + (1 : Int32)) _ _ _ hf hM (lv_sub hl [1, 2, 0] rfl)
      · replace hf := mx_ift hc22 hf
        refine lv_aload_n hx hb dX13_keeperBy_25 rfl (lv_at hl 0 rfl) ?_
        refine g13_33 C hT hM dX13_keeperBy_26 ?_
        refine lv_bipush (v := (85 : Int32)) hx hb dX13_keeperBy_29 (by decide) ?_
        refine lv_iload_n hx hb dX13_keeperBy_31 rfl (lv_at hl 2 rfl) ?_
        refine lv_iadd hx hb dX13_keeperBy_32 ?_
        obtain ⟨hg33, hf⟩ := mx_gd hf
        refine mx_iald C hM (mt_2 hT) (mx_in_vp hg33) dX13_keeperBy_33 ?_
        refine lv_iconst (v := (2 : Int32)) hx hb dX13_keeperBy_34 (by decide) ?_
        refine lv_icmp_eq (tgt := 48) hx hb dX13_keeperBy_35 (by decide) (fun hc35 => ?_) (fun hc35 => ?_)
        · replace hf := mx_ift hc35 hf
          refine lv_iinc (v := (i2 + (1 : Int32))) (lv' := [(2, .int (i2 + (1 : Int32))), (0, .ref (E.2.1.2.1 0)), (1, .int i1)]) hx hb dX13_keeperBy_48 hl (k := 2) rfl rfl (by decide) rfl (fun ls hl => ?_)
          refine lv_goto (tgt := 2) hx hb dX13_keeperBy_51 (by decide) ?_
          exact ih (i2 + (1 : Int32)) _ _ _ hf hM (lv_sub hl [1, 2, 0] rfl)
        · replace hf := mx_iff hc35 hf
          refine lv_aload_n hx hb dX13_keeperBy_38 rfl (lv_at hl 0 rfl) ?_
          refine g13_33 C hT hM dX13_keeperBy_39 ?_
          refine lv_bipush (v := (78 : Int32)) hx hb dX13_keeperBy_42 (by decide) ?_
          refine lv_iload_n hx hb dX13_keeperBy_44 rfl (lv_at hl 2 rfl) ?_
          refine lv_iadd hx hb dX13_keeperBy_45 ?_
          obtain ⟨hg46, hf⟩ := mx_gd hf
          refine mx_iald C hM (mt_2 hT) (mx_in_vp hg46) dX13_keeperBy_46 ?_
          exact mx_iretR C hM hf dX13_keeperBy_47
set_option maxRecDepth 100000 in
set_option maxHeartbeats 4000000 in
theorem kX13_keeperBy {E : KE} {l : Launch} (hE : mx_ok E) (i1 : Int32) (hT : E.1 = mt) (M : MM) {q : Int32} (hf : fX13_keeperBy i1 M = some q) : mx_Met E l yX13_keeperBy cX13_keeperBy 3 (some .int) 0 [.ref (E.2.1.2.1 0), .int i1] M (some (.int q)) M := by
  refine mx_enter hE (by decide) (Nat.le_of_ble_eq_true rfl) ?_
  intro p e s m below meth c C hM hn ls hl
  have hx := C.1.1
  have hb := C.1.2.1
  have hown := C.1.2.2.2.1
  have hts := C.1.2.2.2.2
  have hl : lv_has ls 3 [(0, .ref (E.2.1.2.1 0)), (1, .int i1)] := hl
  rw [fX13_keeperBy] at hf
  refine lv_iconst (v := (0 : Int32)) hx hb dX13_keeperBy_0 (by decide) ?_
  refine lv_istore_n (lv' := [(2, .int (0 : Int32)), (0, .ref (E.2.1.2.1 0)), (1, .int i1)]) hx hb dX13_keeperBy_1 rfl hl (by decide) rfl (fun ls hl => ?_)
  exact wfX13_keeperBy_2 C i1 M hT mx_fu (0 : Int32) _ _ _ hf hM (lv_sub hl [1, 2, 0] rfl)
theorem dX13_chainOf_0 : decode cX13_chainOf 0 = .ok (.iconst 0, 1) := by decide +kernel
theorem dX13_chainOf_1 : decode cX13_chainOf 1 = .ok (.istore_n 2, 1) := by decide +kernel
theorem dX13_chainOf_2 : decode cX13_chainOf 2 = .ok (.iload_n 1, 1) := by decide +kernel
theorem dX13_chainOf_3 : decode cX13_chainOf 3 = .ok (.istore_n 3, 1) := by decide +kernel
theorem dX13_chainOf_4 : decode cX13_chainOf 4 = .ok (.iload_n 3, 1) := by decide +kernel
theorem dX13_chainOf_5 : decode cX13_chainOf 5 = .ok (.ifCond .lt 26, 3) := by decide +kernel
theorem dX13_chainOf_8 : decode cX13_chainOf 8 = .ok (.iload_n 2, 1) := by decide +kernel
theorem dX13_chainOf_9 : decode cX13_chainOf 9 = .ok (.iload_n 3, 1) := by decide +kernel
theorem dX13_chainOf_10 : decode cX13_chainOf 10 = .ok (.invokestatic 218, 3) := by decide +kernel
theorem dX13_chainOf_13 : decode cX13_chainOf 13 = .ok (.ifCond .ne 18, 3) := by decide +kernel
theorem dX13_chainOf_16 : decode cX13_chainOf 16 = .ok (.iload_n 2, 1) := by decide +kernel
theorem dX13_chainOf_17 : decode cX13_chainOf 17 = .ok (.iconst 1, 1) := by decide +kernel
theorem dX13_chainOf_18 : decode cX13_chainOf 18 = .ok (.iload_n 3, 1) := by decide +kernel
theorem dX13_chainOf_19 : decode cX13_chainOf 19 = .ok (.ishl, 1) := by decide +kernel
theorem dX13_chainOf_20 : decode cX13_chainOf 20 = .ok (.ior, 1) := by decide +kernel
theorem dX13_chainOf_21 : decode cX13_chainOf 21 = .ok (.istore_n 2, 1) := by decide +kernel
theorem dX13_chainOf_22 : decode cX13_chainOf 22 = .ok (.aload_n 0, 1) := by decide +kernel
theorem dX13_chainOf_23 : decode cX13_chainOf 23 = .ok (.iload_n 3, 1) := by decide +kernel
theorem dX13_chainOf_24 : decode cX13_chainOf 24 = .ok (.invokevirtual 386, 3) := by decide +kernel
theorem dX13_chainOf_27 : decode cX13_chainOf 27 = .ok (.istore_n 3, 1) := by decide +kernel
theorem dX13_chainOf_28 : decode cX13_chainOf 28 = .ok (.goto (-24), 3) := by decide +kernel
theorem dX13_chainOf_31 : decode cX13_chainOf 31 = .ok (.aload_n 0, 1) := by decide +kernel
theorem dX13_chainOf_32 : decode cX13_chainOf 32 = .ok (.iload_n 3, 1) := by decide +kernel
theorem dX13_chainOf_33 : decode cX13_chainOf 33 = .ok (.putfield 389, 3) := by decide +kernel
theorem dX13_chainOf_36 : decode cX13_chainOf 36 = .ok (.iload_n 2, 1) := by decide +kernel
theorem dX13_chainOf_37 : decode cX13_chainOf 37 = .ok (.invokestatic 304, 3) := by decide +kernel
theorem dX13_chainOf_40 : decode cX13_chainOf 40 = .ok (.ireturn, 1) := by decide +kernel
set_option maxRecDepth 100000 in
set_option maxHeartbeats 4000000 in
theorem wfX13_chainOf_31 {E : KE} {p : Program} {l : Launch} {e : Env} {s : State} {m : MethodId} {args : Array Value} {below : List Frame} {meth : Method} {c : Code} {q : (Int32 × MM)} (C : mx_C E p m c cX13_chainOf 4 s args RX13 meth (some .int)) (i1 : Int32) (hT : E.1 = mt)   : ∀ (i2 : Int32) (i3 : Int32) (M : MM) (H : Heap) (locs : List Loc) (ls : Array Slot), fX13_chainOf_31 i1 i2 i3 M = some q → mx_H E s M H locs → lv_has ls 4 [(0, .ref (E.2.1.2.1 0)), (2, .int i2), (3, .int i3)] → W p l e (mx_rm 1) s m args below meth c H locs 0 0 (mx_Z E below args s (some (.int q.1)) q.2) (F0 m 31 ls []) := by
  have hx := C.1.1
  have hb := C.1.2.1
  have hown := C.1.2.2.2.1
  have hts := C.1.2.2.2.2
  intro i2 i3 M H locs ls hf hM hl
  rw [fX13_chainOf_31] at hf
  refine lv_aload_n hx hb dX13_chainOf_31 rfl (lv_at hl 0 rfl) ?_
  refine lv_iload_n hx hb dX13_chainOf_32 rfl (lv_at hl 2 rfl) ?_
  refine p13_389 C hT hM dX13_chainOf_33 (fun H locs hM => ?_)
  refine lv_iload_n hx hb dX13_chainOf_36 rfl (lv_at hl 1 rfl) ?_
  obtain ⟨q37, hq37, hf⟩ := mx_bd hf
  refine mx_callS C hM hl.1 yo_X13_bits (h' := 0) (by decide) qw_1777 qw_1778 (As := [.int i2]) (rest := []) (st1 := [.int q37]) (kX13_bits C.2.2.2.1 i2 hT (mx_si M 0 35 i3) hq37) rfl rfl rfl (Nat.le_of_ble_eq_true rfl) dX13_chainOf_37 (fun H locs hM => ?_)
  exact mx_iret C hM hf dX13_chainOf_40
set_option maxRecDepth 100000 in
set_option maxHeartbeats 4000000 in
theorem wfX13_chainOf_4 {E : KE} {p : Program} {l : Launch} {e : Env} {s : State} {m : MethodId} {args : Array Value} {below : List Frame} {meth : Method} {c : Code} {q : (Int32 × MM)} (C : mx_C E p m c cX13_chainOf 4 s args RX13 meth (some .int)) (i1 : Int32) (hT : E.1 = mt)   : ∀ (n : Nat) (i2 : Int32) (i3 : Int32) (M : MM) (H : Heap) (locs : List Loc) (ls : Array Slot), fX13_chainOf_4 i1 n i2 i3 M = some q → mx_H E s M H locs → lv_has ls 4 [(0, .ref (E.2.1.2.1 0)), (2, .int i2), (3, .int i3)] → W p l e (mx_rm 1) s m args below meth c H locs 0 0 (mx_Z E below args s (some (.int q.1)) q.2) (F0 m 4 ls []) := by
  have hx := C.1.1
  have hb := C.1.2.1
  have hown := C.1.2.2.2.1
  have hts := C.1.2.2.2.2
  intro n
  induction n with
  | zero =>
    intro i2 i3 M H locs ls hf hM hl
    rw [fX13_chainOf_4] at hf
    cases hf
  | succ n ih =>
    intro i2 i3 M H locs ls hf hM hl
    rw [fX13_chainOf_4] at hf
    refine lv_iload_n hx hb dX13_chainOf_4 rfl (lv_at hl 2 rfl) ?_
    refine lv_if_lt (tgt := 31) hx hb dX13_chainOf_5 (by decide) (fun hc5 => ?_) (fun hc5 => ?_)
    · replace hf := mx_ift hc5 hf
      exact wfX13_chainOf_31 C i1 hT i2 i3 M _ _ _ hf hM (lv_sub hl [0, 1, 2] rfl)
    · replace hf := mx_iff hc5 hf
      refine lv_iload_n hx hb dX13_chainOf_8 rfl (lv_at hl 1 rfl) ?_
      refine lv_iload_n hx hb dX13_chainOf_9 rfl (lv_at hl 2 rfl) ?_
      obtain ⟨q10, hq10, hf⟩ := mx_bd hf
      refine mx_callS C hM hl.1 yo_X13_bitOf (h' := 0) (by decide) qw_1627 qw_1628 (As := [.int i2, .int i3]) (rest := []) (st1 := [.int (mx_b q10)]) (kX13_bitOf C.2.2.2.1 i2 i3 hT M hq10) rfl rfl rfl (Nat.le_of_ble_eq_true rfl) dX13_chainOf_10 (fun H locs hM => ?_)
      refine lv_if_ne (tgt := 31) hx hb dX13_chainOf_13 (by decide) (fun hc13 => ?_) (fun hc13 => ?_)
      · replace hf := mx_iff hc13 hf
        exact wfX13_chainOf_31 C i1 hT i2 i3 M _ _ _ hf hM (lv_sub hl [0, 1, 2] rfl)
      · replace hf := mx_ift hc13 hf
        refine lv_iload_n hx hb dX13_chainOf_16 rfl (lv_at hl 1 rfl) ?_
        refine lv_iconst (v := (1 : Int32)) hx hb dX13_chainOf_17 (by decide) ?_
        refine lv_iload_n hx hb dX13_chainOf_18 rfl (lv_at hl 2 rfl) ?_
        refine lv_ishl hx hb dX13_chainOf_19 ?_
        refine lv_ior hx hb dX13_chainOf_20 ?_
        refine lv_istore_n (lv' := [(2, .int (i2 ||| ((1 : Int32) <<< (i3 &&& 31)))), (0, .ref (E.2.1.2.1 0)), (3, .int i3)]) hx hb dX13_chainOf_21 rfl hl (by decide) rfl (fun ls hl => ?_)
        refine lv_aload_n hx hb dX13_chainOf_22 rfl (lv_at hl 1 rfl) ?_
        refine lv_iload_n hx hb dX13_chainOf_23 rfl (lv_at hl 2 rfl) ?_
        obtain ⟨q24, hq24, hf⟩ := mx_bd hf
        refine mx_callV C hM hl.1 yo_X13_keeperBy (h' := 0) (by decide) qw_1883 qw_1885 qs_164 (ci := 13) (q := (RX13, TX13, 52)) rfl (mt_0 hT) (As := [.int i3]) (rest := []) (st1 := [.int q24]) (kX13_keeperBy C.2.2.2.1 i3 hT M hq24) rfl rfl rfl (Nat.le_of_ble_eq_true rfl) dX13_chainOf_24 (fun H locs hM => ?_)
        refine lv_istore_n (lv' := [(3, .int q24), (2, .int (i2 ||| ((1 : Int32) <<< (i3 &&& 31)))), (0, .ref (E.2.1.2.1 0))]) hx hb dX13_chainOf_27 rfl hl (by decide) rfl (fun ls hl => ?_)
        refine lv_goto (tgt := 4) hx hb dX13_chainOf_28 (by decide) ?_
        exact ih (i2 ||| ((1 : Int32) <<< (i3 &&& 31))) q24 M _ _ _ hf hM (lv_sub hl [2, 1, 0] rfl)
set_option maxRecDepth 100000 in
set_option maxHeartbeats 4000000 in
theorem kX13_chainOf {E : KE} {l : Launch} (hE : mx_ok E) (i1 : Int32) (hT : E.1 = mt) (M : MM) {q : (Int32 × MM)} (hf : fX13_chainOf i1 M = some q) : mx_Met E l yX13_chainOf cX13_chainOf 4 (some .int) 1 [.ref (E.2.1.2.1 0), .int i1] M (some (.int q.1)) q.2 := by
  refine mx_enter hE (by decide) (Nat.le_of_ble_eq_true rfl) ?_
  intro p e s m below meth c C hM hn ls hl
  have hx := C.1.1
  have hb := C.1.2.1
  have hown := C.1.2.2.2.1
  have hts := C.1.2.2.2.2
  have hl : lv_has ls 4 [(0, .ref (E.2.1.2.1 0)), (1, .int i1)] := hl
  rw [fX13_chainOf] at hf
  refine lv_iconst (v := (0 : Int32)) hx hb dX13_chainOf_0 (by decide) ?_
  refine lv_istore_n (lv' := [(2, .int (0 : Int32)), (0, .ref (E.2.1.2.1 0)), (1, .int i1)]) hx hb dX13_chainOf_1 rfl hl (by decide) rfl (fun ls hl => ?_)
  refine lv_iload_n hx hb dX13_chainOf_2 rfl (lv_at hl 2 rfl) ?_
  refine lv_istore_n (lv' := [(3, .int i1), (2, .int (0 : Int32)), (0, .ref (E.2.1.2.1 0)), (1, .int i1)]) hx hb dX13_chainOf_3 rfl hl (by decide) rfl (fun ls hl => ?_)
  exact wfX13_chainOf_4 C i1 hT mx_fu (0 : Int32) i1 M _ _ _ hf hM (lv_sub hl [2, 1, 0] rfl)
theorem dX13_chain_0 : decode cX13_chain 0 = .ok (.aload_n 0, 1) := by decide +kernel
theorem dX13_chain_1 : decode cX13_chain 1 = .ok (.iconst 0, 1) := by decide +kernel
theorem dX13_chain_2 : decode cX13_chain 2 = .ok (.putfield 1, 3) := by decide +kernel
theorem dX13_chain_5 : decode cX13_chain 5 = .ok (.aload_n 0, 1) := by decide +kernel
theorem dX13_chain_6 : decode cX13_chain 6 = .ok (.iload_n 1, 1) := by decide +kernel
theorem dX13_chain_7 : decode cX13_chain 7 = .ok (.invokevirtual 273, 3) := by decide +kernel
theorem dX13_chain_10 : decode cX13_chain 10 = .ok (.ifCond .eq 11, 3) := by decide +kernel
theorem dX13_chain_13 : decode cX13_chain 13 = .ok (.aload_n 0, 1) := by decide +kernel
theorem dX13_chain_14 : decode cX13_chain 14 = .ok (.iload_n 1, 1) := by decide +kernel
theorem dX13_chain_15 : decode cX13_chain 15 = .ok (.invokevirtual 392, 3) := by decide +kernel
theorem dX13_chain_18 : decode cX13_chain 18 = .ok (.goto 4, 3) := by decide +kernel
theorem dX13_chain_21 : decode cX13_chain 21 = .ok (.iconst (-1), 1) := by decide +kernel
theorem dX13_chain_22 : decode cX13_chain 22 = .ok (.ireturn, 1) := by decide +kernel
set_option maxRecDepth 100000 in
set_option maxHeartbeats 4000000 in
theorem kX13_chain {E : KE} {l : Launch} (hE : mx_ok E) (i1 : Int32) (hT : E.1 = mt) (M : MM) {q : (Int32 × MM)} (hf : fX13_chain i1 M = some q) : mx_Met E l yX13_chain cX13_chain 2 (some .int) 2 [.ref (E.2.1.2.1 0), .int i1] M (some (.int q.1)) q.2 := by
  refine mx_enter hE (by decide) (Nat.le_of_ble_eq_true rfl) ?_
  intro p e s m below meth c C hM hn ls hl
  have hx := C.1.1
  have hb := C.1.2.1
  have hown := C.1.2.2.2.1
  have hts := C.1.2.2.2.2
  have hl : lv_has ls 2 [(0, .ref (E.2.1.2.1 0)), (1, .int i1)] := hl
  rw [fX13_chain] at hf
  refine lv_aload_n hx hb dX13_chain_0 rfl (lv_at hl 0 rfl) ?_
  refine lv_iconst (v := (0 : Int32)) hx hb dX13_chain_1 (by decide) ?_
  refine p13_1 C hT hM dX13_chain_2 (fun H locs hM => ?_)
  refine lv_aload_n hx hb dX13_chain_5 rfl (lv_at hl 0 rfl) ?_
  refine lv_iload_n hx hb dX13_chain_6 rfl (lv_at hl 1 rfl) ?_
  obtain ⟨q7, hq7, hf⟩ := mx_bd hf
  refine mx_callV C hM hl.1 yo_X13_isPerson (h' := 1) (by decide) qw_1646 qw_1648 qs_130 (ci := 13) (q := (RX13, TX13, 52)) rfl (mt_0 hT) (As := [.int i1]) (rest := []) (st1 := [.int (mx_b q7)]) (kX13_isPerson C.2.2.2.1 i1 hT (mx_si M 0 0 (0 : Int32)) hq7) rfl rfl rfl (Nat.le_of_ble_eq_true rfl) dX13_chain_7 (fun H locs hM => ?_)
  refine lv_if_eq (tgt := 21) hx hb dX13_chain_10 (by decide) (fun hc10 => ?_) (fun hc10 => ?_)
  · replace hf := mx_ift hc10 hf
    refine lv_iconst (v := (-1 : Int32)) hx hb dX13_chain_21 (by decide) ?_
    exact mx_iret C hM hf dX13_chain_22
  · replace hf := mx_iff hc10 hf
    refine lv_aload_n hx hb dX13_chain_13 rfl (lv_at hl 0 rfl) ?_
    refine lv_iload_n hx hb dX13_chain_14 rfl (lv_at hl 1 rfl) ?_
    obtain ⟨q15, hq15, hf⟩ := mx_bd hf
    refine mx_callV C hM hl.1 yo_X13_chainOf (h' := 1) (by decide) qw_1879 qw_1881 qs_163 (ci := 13) (q := (RX13, TX13, 52)) rfl (mt_0 hT) (As := [.int i1]) (rest := []) (st1 := [.int q15.1]) (kX13_chainOf C.2.2.2.1 i1 hT (mx_si M 0 0 (0 : Int32)) hq15) rfl rfl rfl (Nat.le_of_ble_eq_true rfl) dX13_chain_15 (fun H locs hM => ?_)
    refine lv_goto (tgt := 22) hx hb dX13_chain_18 (by decide) ?_
    exact mx_iret C hM hf dX13_chain_22
theorem dX13_closed_0 : decode cX13_closed 0 = .ok (.aload_n 0, 1) := by decide +kernel
theorem dX13_closed_1 : decode cX13_closed 1 = .ok (.iconst 0, 1) := by decide +kernel
theorem dX13_closed_2 : decode cX13_closed 2 = .ok (.putfield 1, 3) := by decide +kernel
theorem dX13_closed_5 : decode cX13_closed 5 = .ok (.aload_n 0, 1) := by decide +kernel
theorem dX13_closed_6 : decode cX13_closed 6 = .ok (.iload_n 1, 1) := by decide +kernel
theorem dX13_closed_7 : decode cX13_closed 7 = .ok (.invokevirtual 273, 3) := by decide +kernel
theorem dX13_closed_10 : decode cX13_closed 10 = .ok (.ifCond .ne 5, 3) := by decide +kernel
theorem dX13_closed_13 : decode cX13_closed 13 = .ok (.iconst (-1), 1) := by decide +kernel
theorem dX13_closed_14 : decode cX13_closed 14 = .ok (.ireturn, 1) := by decide +kernel
theorem dX13_closed_15 : decode cX13_closed 15 = .ok (.aload_n 0, 1) := by decide +kernel
theorem dX13_closed_16 : decode cX13_closed 16 = .ok (.iload_n 1, 1) := by decide +kernel
theorem dX13_closed_17 : decode cX13_closed 17 = .ok (.invokevirtual 392, 3) := by decide +kernel
theorem dX13_closed_20 : decode cX13_closed 20 = .ok (.pop, 1) := by decide +kernel
theorem dX13_closed_21 : decode cX13_closed 21 = .ok (.aload_n 0, 1) := by decide +kernel
theorem dX13_closed_22 : decode cX13_closed 22 = .ok (.getfield 389, 3) := by decide +kernel
theorem dX13_closed_25 : decode cX13_closed 25 = .ok (.iload_n 1, 1) := by decide +kernel
theorem dX13_closed_26 : decode cX13_closed 26 = .ok (.if_icmp .ne 7, 3) := by decide +kernel
theorem dX13_closed_29 : decode cX13_closed 29 = .ok (.iconst 1, 1) := by decide +kernel
theorem dX13_closed_30 : decode cX13_closed 30 = .ok (.goto 4, 3) := by decide +kernel
theorem dX13_closed_33 : decode cX13_closed 33 = .ok (.iconst 0, 1) := by decide +kernel
theorem dX13_closed_34 : decode cX13_closed 34 = .ok (.ireturn, 1) := by decide +kernel
set_option maxRecDepth 100000 in
set_option maxHeartbeats 4000000 in
theorem kX13_closed {E : KE} {l : Launch} (hE : mx_ok E) (i1 : Int32) (hT : E.1 = mt) (M : MM) {q : (Int32 × MM)} (hf : fX13_closed i1 M = some q) : mx_Met E l yX13_closed cX13_closed 2 (some .int) 2 [.ref (E.2.1.2.1 0), .int i1] M (some (.int q.1)) q.2 := by
  refine mx_enter hE (by decide) (Nat.le_of_ble_eq_true rfl) ?_
  intro p e s m below meth c C hM hn ls hl
  have hx := C.1.1
  have hb := C.1.2.1
  have hown := C.1.2.2.2.1
  have hts := C.1.2.2.2.2
  have hl : lv_has ls 2 [(0, .ref (E.2.1.2.1 0)), (1, .int i1)] := hl
  rw [fX13_closed] at hf
  refine lv_aload_n hx hb dX13_closed_0 rfl (lv_at hl 0 rfl) ?_
  refine lv_iconst (v := (0 : Int32)) hx hb dX13_closed_1 (by decide) ?_
  refine p13_1 C hT hM dX13_closed_2 (fun H locs hM => ?_)
  refine lv_aload_n hx hb dX13_closed_5 rfl (lv_at hl 0 rfl) ?_
  refine lv_iload_n hx hb dX13_closed_6 rfl (lv_at hl 1 rfl) ?_
  obtain ⟨q7, hq7, hf⟩ := mx_bd hf
  refine mx_callV C hM hl.1 yo_X13_isPerson (h' := 1) (by decide) qw_1646 qw_1648 qs_130 (ci := 13) (q := (RX13, TX13, 52)) rfl (mt_0 hT) (As := [.int i1]) (rest := []) (st1 := [.int (mx_b q7)]) (kX13_isPerson C.2.2.2.1 i1 hT (mx_si M 0 0 (0 : Int32)) hq7) rfl rfl rfl (Nat.le_of_ble_eq_true rfl) dX13_closed_7 (fun H locs hM => ?_)
  refine lv_if_ne (tgt := 15) hx hb dX13_closed_10 (by decide) (fun hc10 => ?_) (fun hc10 => ?_)
  · replace hf := mx_iff hc10 hf
    refine lv_aload_n hx hb dX13_closed_15 rfl (lv_at hl 0 rfl) ?_
    refine lv_iload_n hx hb dX13_closed_16 rfl (lv_at hl 1 rfl) ?_
    obtain ⟨q17, hq17, hf⟩ := mx_bd hf
    refine mx_callV C hM hl.1 yo_X13_chainOf (h' := 1) (by decide) qw_1879 qw_1881 qs_163 (ci := 13) (q := (RX13, TX13, 52)) rfl (mt_0 hT) (As := [.int i1]) (rest := []) (st1 := [.int q17.1]) (kX13_chainOf C.2.2.2.1 i1 hT (mx_si M 0 0 (0 : Int32)) hq17) rfl rfl rfl (Nat.le_of_ble_eq_true rfl) dX13_closed_17 (fun H locs hM => ?_)
    refine lv_pop hx hb dX13_closed_20 rfl ?_
    refine lv_aload_n hx hb dX13_closed_21 rfl (lv_at hl 0 rfl) ?_
    refine g13_389 C hT hM dX13_closed_22 ?_
    refine lv_iload_n hx hb dX13_closed_25 rfl (lv_at hl 1 rfl) ?_
    refine lv_icmp_ne (tgt := 33) hx hb dX13_closed_26 (by decide) (fun hc26 => ?_) (fun hc26 => ?_)
    · replace hf := mx_iff hc26 hf
      refine lv_iconst (v := (0 : Int32)) hx hb dX13_closed_33 (by decide) ?_
      exact mx_iret C hM hf dX13_closed_34
    · replace hf := mx_ift hc26 hf
      refine lv_iconst (v := (1 : Int32)) hx hb dX13_closed_29 (by decide) ?_
      refine lv_goto (tgt := 34) hx hb dX13_closed_30 (by decide) ?_
      exact mx_iret C hM hf dX13_closed_34
  · replace hf := mx_ift hc10 hf
    refine lv_iconst (v := (-1 : Int32)) hx hb dX13_closed_13 (by decide) ?_
    exact mx_iret C hM hf dX13_closed_14
theorem dX13_lays_0 : decode cX13_lays 0 = .ok (.aload_n 0, 1) := by decide +kernel
theorem dX13_lays_1 : decode cX13_lays 1 = .ok (.getfield 80, 3) := by decide +kernel
theorem dX13_lays_4 : decode cX13_lays 4 = .ok (.aload_n 0, 1) := by decide +kernel
theorem dX13_lays_5 : decode cX13_lays 5 = .ok (.getfield 395, 3) := by decide +kernel
theorem dX13_lays_8 : decode cX13_lays 8 = .ok (.iload_n 1, 1) := by decide +kernel
theorem dX13_lays_9 : decode cX13_lays 9 = .ok (.i2b, 1) := by decide +kernel
theorem dX13_lays_10 : decode cX13_lays 10 = .ok (.bastore, 1) := by decide +kernel
theorem dX13_lays_11 : decode cX13_lays 11 = .ok (.aload_n 0, 1) := by decide +kernel
theorem dX13_lays_12 : decode cX13_lays 12 = .ok (.dup, 1) := by decide +kernel
theorem dX13_lays_13 : decode cX13_lays 13 = .ok (.getfield 395, 3) := by decide +kernel
theorem dX13_lays_16 : decode cX13_lays 16 = .ok (.iconst 1, 1) := by decide +kernel
theorem dX13_lays_17 : decode cX13_lays 17 = .ok (.iadd, 1) := by decide +kernel
theorem dX13_lays_18 : decode cX13_lays 18 = .ok (.putfield 395, 3) := by decide +kernel
theorem dX13_lays_21 : decode cX13_lays 21 = .ok (.return_, 1) := by decide +kernel
set_option maxRecDepth 100000 in
set_option maxHeartbeats 4000000 in
theorem kX13_lays {E : KE} {l : Launch} (hE : mx_ok E) (i1 : Int32) (hT : E.1 = mt) (M : MM) {q : MM} (hf : fX13_lays i1 M = some q) : mx_Met E l yX13_lays cX13_lays 2 none 0 [.ref (E.2.1.2.1 0), .int i1] M none q := by
  refine mx_enter hE (by decide) (Nat.le_of_ble_eq_true rfl) ?_
  intro p e s m below meth c C hM hn ls hl
  have hx := C.1.1
  have hb := C.1.2.1
  have hown := C.1.2.2.2.1
  have hts := C.1.2.2.2.2
  have hl : lv_has ls 2 [(0, .ref (E.2.1.2.1 0)), (1, .int i1)] := hl
  rw [fX13_lays] at hf
  refine lv_aload_n hx hb dX13_lays_0 rfl (lv_at hl 0 rfl) ?_
  refine g13_80 C hT hM dX13_lays_1 ?_
  refine lv_aload_n hx hb dX13_lays_4 rfl (lv_at hl 0 rfl) ?_
  refine g13_395 C hT hM dX13_lays_5 ?_
  refine lv_iload_n hx hb dX13_lays_8 rfl (lv_at hl 1 rfl) ?_
  refine lv_i2b (v := i1.toInt8.toInt32) hx hb dX13_lays_9 rfl ?_
  obtain ⟨hg10, hf⟩ := mx_gd hf
  refine mx_bast C hM (mt_15 hT) (mx_in_vp hg10) dX13_lays_10 (fun H locs hM => ?_)
  refine lv_aload_n hx hb dX13_lays_11 rfl (lv_at hl 0 rfl) ?_
  refine lv_dup hx hb dX13_lays_12 rfl ?_
  refine g13_395 C hT hM dX13_lays_13 ?_
  refine lv_iconst (v := (1 : Int32)) hx hb dX13_lays_16 (by decide) ?_
  refine lv_iadd hx hb dX13_lays_17 ?_
  refine p13_395 C hT hM dX13_lays_18 (fun H locs hM => ?_)
  exact mx_vret C hM hf dX13_lays_21
theorem dX13_spells_0 : decode cX13_spells 0 = .ok (.bipush 56, 2) := by decide +kernel
theorem dX13_spells_2 : decode cX13_spells 2 = .ok (.istore_n 3, 1) := by decide +kernel
theorem dX13_spells_3 : decode cX13_spells 3 = .ok (.iload_n 3, 1) := by decide +kernel
theorem dX13_spells_4 : decode cX13_spells 4 = .ok (.ifCond .lt 33, 3) := by decide +kernel
theorem dX13_spells_7 : decode cX13_spells 7 = .ok (.lload_n 1, 1) := by decide +kernel
theorem dX13_spells_8 : decode cX13_spells 8 = .ok (.iload_n 3, 1) := by decide +kernel
theorem dX13_spells_9 : decode cX13_spells 9 = .ok (.lshr, 1) := by decide +kernel
theorem dX13_spells_10 : decode cX13_spells 10 = .ok (.ldc2_w 398, 3) := by decide +kernel
theorem dX13_spells_13 : decode cX13_spells 13 = .ok (.land, 1) := by decide +kernel
theorem dX13_spells_14 : decode cX13_spells 14 = .ok (.lconst 0, 1) := by decide +kernel
theorem dX13_spells_15 : decode cX13_spells 15 = .ok (.lcmp, 1) := by decide +kernel
theorem dX13_spells_16 : decode cX13_spells 16 = .ok (.ifCond .eq 15, 3) := by decide +kernel
theorem dX13_spells_19 : decode cX13_spells 19 = .ok (.aload_n 0, 1) := by decide +kernel
theorem dX13_spells_20 : decode cX13_spells 20 = .ok (.lload_n 1, 1) := by decide +kernel
theorem dX13_spells_21 : decode cX13_spells 21 = .ok (.iload_n 3, 1) := by decide +kernel
theorem dX13_spells_22 : decode cX13_spells 22 = .ok (.lshr, 1) := by decide +kernel
theorem dX13_spells_23 : decode cX13_spells 23 = .ok (.ldc2_w 398, 3) := by decide +kernel
theorem dX13_spells_26 : decode cX13_spells 26 = .ok (.land, 1) := by decide +kernel
theorem dX13_spells_27 : decode cX13_spells 27 = .ok (.l2i, 1) := by decide +kernel
theorem dX13_spells_28 : decode cX13_spells 28 = .ok (.invokevirtual 400, 3) := by decide +kernel
theorem dX13_spells_31 : decode cX13_spells 31 = .ok (.iinc 3 (-8), 3) := by decide +kernel
theorem dX13_spells_34 : decode cX13_spells 34 = .ok (.goto (-31), 3) := by decide +kernel
theorem dX13_spells_37 : decode cX13_spells 37 = .ok (.return_, 1) := by decide +kernel
set_option maxRecDepth 100000 in
set_option maxHeartbeats 4000000 in
theorem wfX13_spells_3 {E : KE} {p : Program} {l : Launch} {e : Env} {s : State} {m : MethodId} {args : Array Value} {below : List Frame} {meth : Method} {c : Code} {q : MM} (C : mx_C E p m c cX13_spells 4 s args RX13 meth none) (l1 : Int64) (hT : E.1 = mt)   : ∀ (n : Nat) (i3 : Int32) (M : MM) (H : Heap) (locs : List Loc) (ls : Array Slot), fX13_spells_3 l1 n i3 M = some q → mx_H E s M H locs → lv_has ls 4 [(0, .ref (E.2.1.2.1 0)), (1, .long l1), (3, .int i3)] → W p l e (mx_rm 1) s m args below meth c H locs 0 0 (mx_Z E below args s none q) (F0 m 3 ls []) := by
  have hx := C.1.1
  have hb := C.1.2.1
  have hown := C.1.2.2.2.1
  have hts := C.1.2.2.2.2
  intro n
  induction n with
  | zero =>
    intro i3 M H locs ls hf hM hl
    rw [fX13_spells_3] at hf
    cases hf
  | succ n ih =>
    intro i3 M H locs ls hf hM hl
    rw [fX13_spells_3] at hf
    refine lv_iload_n hx hb dX13_spells_3 rfl (lv_at hl 2 rfl) ?_
    refine lv_if_lt (tgt := 37) hx hb dX13_spells_4 (by decide) (fun hc4 => ?_) (fun hc4 => ?_)
    · replace hf := mx_ift hc4 hf
      exact mx_vret C hM hf dX13_spells_37
    · replace hf := mx_iff hc4 hf
      refine lv_lload_n hx hb dX13_spells_7 rfl (lv_at hl 1 rfl) ?_
      refine lv_iload_n hx hb dX13_spells_8 rfl (lv_at hl 2 rfl) ?_
      refine lv_lshr (v := (l1 >>> (i3.toInt64 &&& 63))) hx hb dX13_spells_9 rfl ?_
      refine lv_ldc2 (v := (255)) hx hb hown (hts _ qw_1899) dX13_spells_10 ?_
      refine lv_land hx hb dX13_spells_13 ?_
      refine lv_lconst (v := 0) hx hb dX13_spells_14 (by decide) ?_
      refine W.lcmp hx hb dX13_spells_15 ?_
      refine lv_if_eq (tgt := 31) hx hb dX13_spells_16 (by decide) (fun hc16 => ?_) (fun hc16 => ?_)
      · replace hf := mx_ift hc16 hf
        refine lv_iinc (v := (i3 + (-8 : Int32))) (lv' := [(3, .int (i3 + (-8 : Int32))), (0, .ref (E.2.1.2.1 0)), (1, .long l1)]) hx hb dX13_spells_31 hl (k := 2) rfl rfl (by decide) rfl (fun ls hl => ?_)
        refine lv_goto (tgt := 3) hx hb dX13_spells_34 (by decide) ?_
        exact ih (i3 + (-8 : Int32)) M _ _ _ hf hM (lv_sub hl [1, 2, 0] rfl)
      · replace hf := mx_iff hc16 hf
        refine lv_aload_n hx hb dX13_spells_19 rfl (lv_at hl 0 rfl) ?_
        refine lv_lload_n hx hb dX13_spells_20 rfl (lv_at hl 1 rfl) ?_
        refine lv_iload_n hx hb dX13_spells_21 rfl (lv_at hl 2 rfl) ?_
        refine lv_lshr (v := (l1 >>> (i3.toInt64 &&& 63))) hx hb dX13_spells_22 rfl ?_
        refine lv_ldc2 (v := (255)) hx hb hown (hts _ qw_1899) dX13_spells_23 ?_
        refine lv_land hx hb dX13_spells_26 ?_
        refine lv_l2i (v := (((l1 >>> (i3.toInt64 &&& 63)) &&& (255 : Int64)).toInt32)) hx hb dX13_spells_27 rfl ?_
        obtain ⟨q28, hq28, hf⟩ := mx_bd hf
        refine mx_callV C hM hl.1 yo_X13_lays (h' := 0) (by decide) qw_1900 qw_1902 qs_166 (ci := 13) (q := (RX13, TX13, 52)) rfl (mt_0 hT) (As := [.int (((l1 >>> (i3.toInt64 &&& 63)) &&& (255 : Int64)).toInt32)]) (rest := []) (st1 := []) (kX13_lays C.2.2.2.1 (((l1 >>> (i3.toInt64 &&& 63)) &&& (255 : Int64)).toInt32) hT M hq28) rfl rfl rfl (Nat.le_of_ble_eq_true rfl) dX13_spells_28 (fun H locs hM => ?_)
        refine lv_iinc (v := (i3 + (-8 : Int32))) (lv' := [(3, .int (i3 + (-8 : Int32))), (0, .ref (E.2.1.2.1 0)), (1, .long l1)]) hx hb dX13_spells_31 hl (k := 2) rfl rfl (by decide) rfl (fun ls hl => ?_)
        refine lv_goto (tgt := 3) hx hb dX13_spells_34 (by decide) ?_
        exact ih (i3 + (-8 : Int32)) q28 _ _ _ hf hM (lv_sub hl [1, 2, 0] rfl)
set_option maxRecDepth 100000 in
set_option maxHeartbeats 4000000 in
theorem kX13_spells {E : KE} {l : Launch} (hE : mx_ok E) (l1 : Int64) (hT : E.1 = mt) (M : MM) {q : MM} (hf : fX13_spells l1 M = some q) : mx_Met E l yX13_spells cX13_spells 4 none 1 [.ref (E.2.1.2.1 0), .long l1] M none q := by
  refine mx_enter hE (by decide) (Nat.le_of_ble_eq_true rfl) ?_
  intro p e s m below meth c C hM hn ls hl
  have hx := C.1.1
  have hb := C.1.2.1
  have hown := C.1.2.2.2.1
  have hts := C.1.2.2.2.2
  have hl : lv_has ls 4 [(0, .ref (E.2.1.2.1 0)), (1, .long l1)] := hl
  rw [fX13_spells] at hf
  refine lv_bipush (v := (56 : Int32)) hx hb dX13_spells_0 (by decide) ?_
  refine lv_istore_n (lv' := [(3, .int (56 : Int32)), (0, .ref (E.2.1.2.1 0)), (1, .long l1)]) hx hb dX13_spells_2 rfl hl (by decide) rfl (fun ls hl => ?_)
  exact wfX13_spells_3 C l1 hT mx_fu (56 : Int32) M _ _ _ hf hM (lv_sub hl [1, 2, 0] rfl)
theorem dX13_says_0 : decode cX13_says 0 = .ok (.aload_n 0, 1) := by decide +kernel
theorem dX13_says_1 : decode cX13_says 1 = .ok (.bipush 32, 2) := by decide +kernel
theorem dX13_says_3 : decode cX13_says 3 = .ok (.invokevirtual 400, 3) := by decide +kernel
theorem dX13_says_6 : decode cX13_says 6 = .ok (.aload_n 0, 1) := by decide +kernel
theorem dX13_says_7 : decode cX13_says 7 = .ok (.lload_n 1, 1) := by decide +kernel
theorem dX13_says_8 : decode cX13_says 8 = .ok (.invokevirtual 403, 3) := by decide +kernel
theorem dX13_says_11 : decode cX13_says 11 = .ok (.return_, 1) := by decide +kernel
set_option maxRecDepth 100000 in
set_option maxHeartbeats 4000000 in
theorem kX13_says {E : KE} {l : Launch} (hE : mx_ok E) (l1 : Int64) (hT : E.1 = mt) (M : MM) {q : MM} (hf : fX13_says l1 M = some q) : mx_Met E l yX13_says cX13_says 3 none 2 [.ref (E.2.1.2.1 0), .long l1] M none q := by
  refine mx_enter hE (by decide) (Nat.le_of_ble_eq_true rfl) ?_
  intro p e s m below meth c C hM hn ls hl
  have hx := C.1.1
  have hb := C.1.2.1
  have hown := C.1.2.2.2.1
  have hts := C.1.2.2.2.2
  have hl : lv_has ls 3 [(0, .ref (E.2.1.2.1 0)), (1, .long l1)] := hl
  rw [fX13_says] at hf
  refine lv_aload_n hx hb dX13_says_0 rfl (lv_at hl 0 rfl) ?_
  refine lv_bipush (v := (32 : Int32)) hx hb dX13_says_1 (by decide) ?_
  obtain ⟨q3, hq3, hf⟩ := mx_bd hf
  refine mx_callV C hM hl.1 yo_X13_lays (h' := 0) (by decide) qw_1900 qw_1902 qs_166 (ci := 13) (q := (RX13, TX13, 52)) rfl (mt_0 hT) (As := [.int (32 : Int32)]) (rest := []) (st1 := []) (kX13_lays C.2.2.2.1 (32 : Int32) hT M hq3) rfl rfl rfl (Nat.le_of_ble_eq_true rfl) dX13_says_3 (fun H locs hM => ?_)
  refine lv_aload_n hx hb dX13_says_6 rfl (lv_at hl 0 rfl) ?_
  refine lv_lload_n hx hb dX13_says_7 rfl (lv_at hl 1 rfl) ?_
  obtain ⟨q8, hq8, hf⟩ := mx_bd hf
  refine mx_callV C hM hl.1 yo_X13_spells (h' := 1) (by decide) qw_1895 qw_1897 qs_165 (ci := 13) (q := (RX13, TX13, 52)) rfl (mt_0 hT) (As := [.long l1]) (rest := []) (st1 := []) (kX13_spells C.2.2.2.1 l1 hT q3 hq8) rfl rfl rfl (Nat.le_of_ble_eq_true rfl) dX13_says_8 (fun H locs hM => ?_)
  exact mx_vret C hM hf dX13_says_11
theorem dX13_note_0 : decode cX13_note 0 = .ok (.aload_n 0, 1) := by decide +kernel
theorem dX13_note_1 : decode cX13_note 1 = .ok (.iconst 0, 1) := by decide +kernel
theorem dX13_note_2 : decode cX13_note 2 = .ok (.putfield 1, 3) := by decide +kernel
theorem dX13_note_5 : decode cX13_note 5 = .ok (.aload_n 0, 1) := by decide +kernel
theorem dX13_note_6 : decode cX13_note 6 = .ok (.iload_n 1, 1) := by decide +kernel
theorem dX13_note_7 : decode cX13_note 7 = .ok (.invokevirtual 273, 3) := by decide +kernel
theorem dX13_note_10 : decode cX13_note 10 = .ok (.ifCond .ne 5, 3) := by decide +kernel
theorem dX13_note_13 : decode cX13_note 13 = .ok (.iconst (-1), 1) := by decide +kernel
theorem dX13_note_14 : decode cX13_note 14 = .ok (.ireturn, 1) := by decide +kernel
theorem dX13_note_15 : decode cX13_note 15 = .ok (.aload_n 0, 1) := by decide +kernel
theorem dX13_note_16 : decode cX13_note 16 = .ok (.iconst 0, 1) := by decide +kernel
theorem dX13_note_17 : decode cX13_note 17 = .ok (.putfield 395, 3) := by decide +kernel
theorem dX13_note_20 : decode cX13_note 20 = .ok (.aload_n 0, 1) := by decide +kernel
theorem dX13_note_21 : decode cX13_note 21 = .ok (.iload_n 1, 1) := by decide +kernel
theorem dX13_note_22 : decode cX13_note 22 = .ok (.invokevirtual 280, 3) := by decide +kernel
theorem dX13_note_25 : decode cX13_note 25 = .ok (.istore_n 2, 1) := by decide +kernel
theorem dX13_note_26 : decode cX13_note 26 = .ok (.aload_n 0, 1) := by decide +kernel
theorem dX13_note_27 : decode cX13_note 27 = .ok (.aload_n 0, 1) := by decide +kernel
theorem dX13_note_28 : decode cX13_note 28 = .ok (.getfield 43, 3) := by decide +kernel
theorem dX13_note_31 : decode cX13_note 31 = .ok (.iload_n 1, 1) := by decide +kernel
theorem dX13_note_32 : decode cX13_note 32 = .ok (.laload, 1) := by decide +kernel
theorem dX13_note_33 : decode cX13_note 33 = .ok (.invokevirtual 403, 3) := by decide +kernel
theorem dX13_note_36 : decode cX13_note 36 = .ok (.aload_n 0, 1) := by decide +kernel
theorem dX13_note_37 : decode cX13_note 37 = .ok (.ldc2_w 140, 3) := by decide +kernel
theorem dX13_note_40 : decode cX13_note 40 = .ok (.invokevirtual 407, 3) := by decide +kernel
theorem dX13_note_43 : decode cX13_note 43 = .ok (.aload_n 0, 1) := by decide +kernel
theorem dX13_note_44 : decode cX13_note 44 = .ok (.bipush 32, 2) := by decide +kernel
theorem dX13_note_46 : decode cX13_note 46 = .ok (.invokevirtual 400, 3) := by decide +kernel
theorem dX13_note_49 : decode cX13_note 49 = .ok (.aload_n 0, 1) := by decide +kernel
theorem dX13_note_50 : decode cX13_note 50 = .ok (.bipush 48, 2) := by decide +kernel
theorem dX13_note_52 : decode cX13_note 52 = .ok (.iload_n 2, 1) := by decide +kernel
theorem dX13_note_53 : decode cX13_note 53 = .ok (.invokestatic 304, 3) := by decide +kernel
theorem dX13_note_56 : decode cX13_note 56 = .ok (.iadd, 1) := by decide +kernel
theorem dX13_note_57 : decode cX13_note 57 = .ok (.invokevirtual 400, 3) := by decide +kernel
theorem dX13_note_60 : decode cX13_note 60 = .ok (.iload_n 2, 1) := by decide +kernel
theorem dX13_note_61 : decode cX13_note 61 = .ok (.ifCond .eq 10, 3) := by decide +kernel
theorem dX13_note_64 : decode cX13_note 64 = .ok (.aload_n 0, 1) := by decide +kernel
theorem dX13_note_65 : decode cX13_note 65 = .ok (.ldc2_w 410, 3) := by decide +kernel
theorem dX13_note_68 : decode cX13_note 68 = .ok (.invokevirtual 407, 3) := by decide +kernel
theorem dX13_note_71 : decode cX13_note 71 = .ok (.iconst 0, 1) := by decide +kernel
theorem dX13_note_72 : decode cX13_note 72 = .ok (.istore_n 3, 1) := by decide +kernel
theorem dX13_note_73 : decode cX13_note 73 = .ok (.iload_n 3, 1) := by decide +kernel
theorem dX13_note_74 : decode cX13_note 74 = .ok (.aload_n 0, 1) := by decide +kernel
theorem dX13_note_75 : decode cX13_note 75 = .ok (.getfield 33, 3) := by decide +kernel
theorem dX13_note_78 : decode cX13_note 78 = .ok (.iconst 1, 1) := by decide +kernel
theorem dX13_note_79 : decode cX13_note 79 = .ok (.iaload, 1) := by decide +kernel
theorem dX13_note_80 : decode cX13_note 80 = .ok (.if_icmp .ge 35, 3) := by decide +kernel
theorem dX13_note_83 : decode cX13_note 83 = .ok (.iload_n 2, 1) := by decide +kernel
theorem dX13_note_84 : decode cX13_note 84 = .ok (.iload_n 3, 1) := by decide +kernel
theorem dX13_note_85 : decode cX13_note 85 = .ok (.invokestatic 218, 3) := by decide +kernel
theorem dX13_note_88 : decode cX13_note 88 = .ok (.ifCond .eq 21, 3) := by decide +kernel
theorem dX13_note_91 : decode cX13_note 91 = .ok (.aload_n 0, 1) := by decide +kernel
theorem dX13_note_92 : decode cX13_note 92 = .ok (.aload_n 0, 1) := by decide +kernel
theorem dX13_note_93 : decode cX13_note 93 = .ok (.getfield 43, 3) := by decide +kernel
theorem dX13_note_96 : decode cX13_note 96 = .ok (.aload_n 0, 1) := by decide +kernel
theorem dX13_note_97 : decode cX13_note 97 = .ok (.getfield 33, 3) := by decide +kernel
theorem dX13_note_100 : decode cX13_note 100 = .ok (.bipush 33, 2) := by decide +kernel
theorem dX13_note_102 : decode cX13_note 102 = .ok (.iload_n 3, 1) := by decide +kernel
theorem dX13_note_103 : decode cX13_note 103 = .ok (.iadd, 1) := by decide +kernel
theorem dX13_note_104 : decode cX13_note 104 = .ok (.iaload, 1) := by decide +kernel
theorem dX13_note_105 : decode cX13_note 105 = .ok (.laload, 1) := by decide +kernel
theorem dX13_note_106 : decode cX13_note 106 = .ok (.invokevirtual 407, 3) := by decide +kernel
theorem dX13_note_109 : decode cX13_note 109 = .ok (.iinc 3 1, 3) := by decide +kernel
theorem dX13_note_112 : decode cX13_note 112 = .ok (.goto (-39), 3) := by decide +kernel
theorem dX13_note_115 : decode cX13_note 115 = .ok (.aload_n 0, 1) := by decide +kernel
theorem dX13_note_116 : decode cX13_note 116 = .ok (.iload_n 1, 1) := by decide +kernel
theorem dX13_note_117 : decode cX13_note 117 = .ok (.invokevirtual 283, 3) := by decide +kernel
theorem dX13_note_120 : decode cX13_note 120 = .ok (.ifCond .lt 27, 3) := by decide +kernel
theorem dX13_note_123 : decode cX13_note 123 = .ok (.aload_n 0, 1) := by decide +kernel
theorem dX13_note_124 : decode cX13_note 124 = .ok (.ldc2_w 116, 3) := by decide +kernel
theorem dX13_note_127 : decode cX13_note 127 = .ok (.invokevirtual 407, 3) := by decide +kernel
theorem dX13_note_130 : decode cX13_note 130 = .ok (.aload_n 0, 1) := by decide +kernel
theorem dX13_note_131 : decode cX13_note 131 = .ok (.aload_n 0, 1) := by decide +kernel
theorem dX13_note_132 : decode cX13_note 132 = .ok (.getfield 43, 3) := by decide +kernel
theorem dX13_note_135 : decode cX13_note 135 = .ok (.bipush 7, 2) := by decide +kernel
theorem dX13_note_137 : decode cX13_note 137 = .ok (.aload_n 0, 1) := by decide +kernel
theorem dX13_note_138 : decode cX13_note 138 = .ok (.iload_n 1, 1) := by decide +kernel
theorem dX13_note_139 : decode cX13_note 139 = .ok (.invokevirtual 283, 3) := by decide +kernel
theorem dX13_note_142 : decode cX13_note 142 = .ok (.iadd, 1) := by decide +kernel
theorem dX13_note_143 : decode cX13_note 143 = .ok (.laload, 1) := by decide +kernel
theorem dX13_note_144 : decode cX13_note 144 = .ok (.invokevirtual 407, 3) := by decide +kernel
theorem dX13_note_147 : decode cX13_note 147 = .ok (.aload_n 0, 1) := by decide +kernel
theorem dX13_note_148 : decode cX13_note 148 = .ok (.getfield 395, 3) := by decide +kernel
theorem dX13_note_151 : decode cX13_note 151 = .ok (.ireturn, 1) := by decide +kernel
set_option maxRecDepth 100000 in
set_option maxHeartbeats 4000000 in
theorem wfX13_note_73 {E : KE} {p : Program} {l : Launch} {e : Env} {s : State} {m : MethodId} {args : Array Value} {below : List Frame} {meth : Method} {c : Code} {q : (Int32 × MM)} (C : mx_C E p m c cX13_note 4 s args RX13 meth (some .int)) (i1 : Int32) (hT : E.1 = mt) (i2 : Int32)  : ∀ (n : Nat) (i3 : Int32) (M : MM) (H : Heap) (locs : List Loc) (ls : Array Slot), fX13_note_73 i1 i2 n i3 M = some q → mx_H E s M H locs → lv_has ls 4 [(0, .ref (E.2.1.2.1 0)), (1, .int i1), (2, .int i2), (3, .int i3)] → W p l e (mx_rm 3) s m args below meth c H locs 0 0 (mx_Z E below args s (some (.int q.1)) q.2) (F0 m 73 ls []) := by
  have hx := C.1.1
  have hb := C.1.2.1
  have hown := C.1.2.2.2.1
  have hts := C.1.2.2.2.2
  intro n
  induction n with
  | zero =>
    intro i3 M H locs ls hf hM hl
    rw [fX13_note_73] at hf
    cases hf
  | succ n ih =>
    intro i3 M H locs ls hf hM hl
    rw [fX13_note_73] at hf
    refine lv_iload_n hx hb dX13_note_73 rfl (lv_at hl 3 rfl) ?_
    refine lv_aload_n hx hb dX13_note_74 rfl (lv_at hl 0 rfl) ?_
    refine g13_33 C hT hM dX13_note_75 ?_
    refine lv_iconst (v := (1 : Int32)) hx hb dX13_note_78 (by decide) ?_
    refine mx_ialdL C hM (mt_2 hT) (j := 1) (by decide) (mx_in_vp (by decide)) dX13_note_79 ?_
    refine lv_icmp_ge (tgt := 115) hx hb dX13_note_80 (by decide) (fun hc80 => ?_) (fun hc80 => ?_)
    · replace hf := mx_ift hc80 hf
      refine lv_aload_n hx hb dX13_note_115 rfl (lv_at hl 0 rfl) ?_
      refine lv_iload_n hx hb dX13_note_116 rfl (lv_at hl 1 rfl) ?_
      obtain ⟨q117, hq117, hf⟩ := mx_bd hf
      refine mx_callV C hM hl.1 yo_X13_wornBy (h' := 0) (by decide) qw_1662 qw_1664 qs_134 (ci := 13) (q := (RX13, TX13, 52)) rfl (mt_0 hT) (As := [.int i1]) (rest := []) (st1 := [.int q117]) (kX13_wornBy C.2.2.2.1 i1 hT M hq117) rfl rfl rfl (Nat.le_of_ble_eq_true rfl) dX13_note_117 (fun H locs hM => ?_)
      refine lv_if_lt (tgt := 147) hx hb dX13_note_120 (by decide) (fun hc120 => ?_) (fun hc120 => ?_)
      · replace hf := mx_ift hc120 hf
        refine lv_aload_n hx hb dX13_note_147 rfl (lv_at hl 0 rfl) ?_
        refine g13_395 C hT hM dX13_note_148 ?_
        exact mx_iret C hM hf dX13_note_151
      · replace hf := mx_iff hc120 hf
        refine lv_aload_n hx hb dX13_note_123 rfl (lv_at hl 0 rfl) ?_
        refine lv_ldc2 (v := (512801993331)) hx hb hown (hts _ qw_1373) dX13_note_124 ?_
        obtain ⟨q127, hq127, hf⟩ := mx_bd hf
        refine mx_callV C hM hl.1 yo_X13_says (h' := 2) (by decide) qw_1904 qw_1906 qs_167 (ci := 13) (q := (RX13, TX13, 52)) rfl (mt_0 hT) (As := [.long (512801993331 : Int64)]) (rest := []) (st1 := []) (kX13_says C.2.2.2.1 (512801993331 : Int64) hT M hq127) rfl rfl rfl (Nat.le_of_ble_eq_true rfl) dX13_note_127 (fun H locs hM => ?_)
        refine lv_aload_n hx hb dX13_note_130 rfl (lv_at hl 0 rfl) ?_
        refine lv_aload_n hx hb dX13_note_131 rfl (lv_at hl 0 rfl) ?_
        refine g13_43 C hT hM dX13_note_132 ?_
        refine lv_bipush (v := (7 : Int32)) hx hb dX13_note_135 (by decide) ?_
        refine lv_aload_n hx hb dX13_note_137 rfl (lv_at hl 0 rfl) ?_
        refine lv_iload_n hx hb dX13_note_138 rfl (lv_at hl 1 rfl) ?_
        obtain ⟨q139, hq139, hf⟩ := mx_bd hf
        refine mx_callV C hM hl.1 yo_X13_wornBy (h' := 0) (by decide) qw_1662 qw_1664 qs_134 (ci := 13) (q := (RX13, TX13, 52)) rfl (mt_0 hT) (As := [.int i1]) (rest := [.int (7 : Int32), .ref (E.2.1.2.1 5), .ref (E.2.1.2.1 0)]) (st1 := [.int q139, .int (7 : Int32), .ref (E.2.1.2.1 5), .ref (E.2.1.2.1 0)]) (kX13_wornBy C.2.2.2.1 i1 hT q127 hq139) rfl rfl rfl (Nat.le_of_ble_eq_true rfl) dX13_note_139 (fun H locs hM => ?_)
        refine lv_iadd hx hb dX13_note_142 ?_
        obtain ⟨hg143, hf⟩ := mx_gd hf
        refine mx_lald C hM (mt_5 hT) (mx_in_vp hg143) dX13_note_143 ?_
        obtain ⟨q144, hq144, hf⟩ := mx_bd hf
        refine mx_callV C hM hl.1 yo_X13_says (h' := 2) (by decide) qw_1904 qw_1906 qs_167 (ci := 13) (q := (RX13, TX13, 52)) rfl (mt_0 hT) (As := [.long (q127.2.1 5 ((7 : Int32) + q139).toNatClampNeg)]) (rest := []) (st1 := []) (kX13_says C.2.2.2.1 (q127.2.1 5 ((7 : Int32) + q139).toNatClampNeg) hT q127 hq144) rfl rfl rfl (Nat.le_of_ble_eq_true rfl) dX13_note_144 (fun H locs hM => ?_)
        refine lv_aload_n hx hb dX13_note_147 rfl (lv_at hl 0 rfl) ?_
        refine g13_395 C hT hM dX13_note_148 ?_
        exact mx_iret C hM hf dX13_note_151
    · replace hf := mx_iff hc80 hf
      refine lv_iload_n hx hb dX13_note_83 rfl (lv_at hl 2 rfl) ?_
      refine lv_iload_n hx hb dX13_note_84 rfl (lv_at hl 3 rfl) ?_
      obtain ⟨q85, hq85, hf⟩ := mx_bd hf
      refine mx_callS C hM hl.1 yo_X13_bitOf (h' := 0) (by decide) qw_1627 qw_1628 (As := [.int i2, .int i3]) (rest := []) (st1 := [.int (mx_b q85)]) (kX13_bitOf C.2.2.2.1 i2 i3 hT M hq85) rfl rfl rfl (Nat.le_of_ble_eq_true rfl) dX13_note_85 (fun H locs hM => ?_)
      refine lv_if_eq (tgt := 109) hx hb dX13_note_88 (by decide) (fun hc88 => ?_) (fun hc88 => ?_)
      · replace hf := mx_ift hc88 hf
        refine lv_iinc (v := (i3 + (1 : Int32))) (lv' := [(3, .int (i3 + (1 : Int32))), (0, .ref (E.2.1.2.1 0)), (1, .int i1), (2, .int i2)]) hx hb dX13_note_109 hl (k := 3) rfl rfl (by decide) rfl (fun ls hl => ?_)
        refine lv_goto (tgt := 73) hx hb dX13_note_112 (by decide) ?_
        exact ih (i3 + (1 : Int32)) M _ _ _ hf hM (lv_sub hl [1, 2, 3, 0] rfl)
      · replace hf := mx_iff hc88 hf
        refine lv_aload_n hx hb dX13_note_91 rfl (lv_at hl 0 rfl) ?_
        refine lv_aload_n hx hb dX13_note_92 rfl (lv_at hl 0 rfl) ?_
        refine g13_43 C hT hM dX13_note_93 ?_
        refine lv_aload_n hx hb dX13_note_96 rfl (lv_at hl 0 rfl) ?_
        refine g13_33 C hT hM dX13_note_97 ?_
        refine lv_bipush (v := (33 : Int32)) hx hb dX13_note_100 (by decide) ?_
        refine lv_iload_n hx hb dX13_note_102 rfl (lv_at hl 3 rfl) ?_
        refine lv_iadd hx hb dX13_note_103 ?_
        obtain ⟨hg104, hf⟩ := mx_gd hf
        refine mx_iald C hM (mt_2 hT) (mx_in_vp hg104) dX13_note_104 ?_
        obtain ⟨hg105, hf⟩ := mx_gd hf
        refine mx_lald C hM (mt_5 hT) (mx_in_vp hg105) dX13_note_105 ?_
        obtain ⟨q106, hq106, hf⟩ := mx_bd hf
        refine mx_callV C hM hl.1 yo_X13_says (h' := 2) (by decide) qw_1904 qw_1906 qs_167 (ci := 13) (q := (RX13, TX13, 52)) rfl (mt_0 hT) (As := [.long (M.2.1 5 (M.1 2 ((33 : Int32) + i3).toNatClampNeg).toNatClampNeg)]) (rest := []) (st1 := []) (kX13_says C.2.2.2.1 (M.2.1 5 (M.1 2 ((33 : Int32) + i3).toNatClampNeg).toNatClampNeg) hT M hq106) rfl rfl rfl (Nat.le_of_ble_eq_true rfl) dX13_note_106 (fun H locs hM => ?_)
        refine lv_iinc (v := (i3 + (1 : Int32))) (lv' := [(3, .int (i3 + (1 : Int32))), (0, .ref (E.2.1.2.1 0)), (1, .int i1), (2, .int i2)]) hx hb dX13_note_109 hl (k := 3) rfl rfl (by decide) rfl (fun ls hl => ?_)
        refine lv_goto (tgt := 73) hx hb dX13_note_112 (by decide) ?_
        exact ih (i3 + (1 : Int32)) q106 _ _ _ hf hM (lv_sub hl [1, 2, 3, 0] rfl)
set_option maxRecDepth 100000 in
set_option maxHeartbeats 4000000 in
theorem kX13_note {E : KE} {l : Launch} (hE : mx_ok E) (i1 : Int32) (hT : E.1 = mt) (M : MM) {q : (Int32 × MM)} (hf : fX13_note i1 M = some q) : mx_Met E l yX13_note cX13_note 4 (some .int) 3 [.ref (E.2.1.2.1 0), .int i1] M (some (.int q.1)) q.2 := by
  refine mx_enter hE (by decide) (Nat.le_of_ble_eq_true rfl) ?_
  intro p e s m below meth c C hM hn ls hl
  have hx := C.1.1
  have hb := C.1.2.1
  have hown := C.1.2.2.2.1
  have hts := C.1.2.2.2.2
  have hl : lv_has ls 4 [(0, .ref (E.2.1.2.1 0)), (1, .int i1)] := hl
  rw [fX13_note] at hf
  refine lv_aload_n hx hb dX13_note_0 rfl (lv_at hl 0 rfl) ?_
  refine lv_iconst (v := (0 : Int32)) hx hb dX13_note_1 (by decide) ?_
  refine p13_1 C hT hM dX13_note_2 (fun H locs hM => ?_)
  refine lv_aload_n hx hb dX13_note_5 rfl (lv_at hl 0 rfl) ?_
  refine lv_iload_n hx hb dX13_note_6 rfl (lv_at hl 1 rfl) ?_
  obtain ⟨q7, hq7, hf⟩ := mx_bd hf
  refine mx_callV C hM hl.1 yo_X13_isPerson (h' := 1) (by decide) qw_1646 qw_1648 qs_130 (ci := 13) (q := (RX13, TX13, 52)) rfl (mt_0 hT) (As := [.int i1]) (rest := []) (st1 := [.int (mx_b q7)]) (kX13_isPerson C.2.2.2.1 i1 hT (mx_si M 0 0 (0 : Int32)) hq7) rfl rfl rfl (Nat.le_of_ble_eq_true rfl) dX13_note_7 (fun H locs hM => ?_)
  refine lv_if_ne (tgt := 15) hx hb dX13_note_10 (by decide) (fun hc10 => ?_) (fun hc10 => ?_)
  · replace hf := mx_iff hc10 hf
    refine lv_aload_n hx hb dX13_note_15 rfl (lv_at hl 0 rfl) ?_
    refine lv_iconst (v := (0 : Int32)) hx hb dX13_note_16 (by decide) ?_
    refine p13_395 C hT hM dX13_note_17 (fun H locs hM => ?_)
    refine lv_aload_n hx hb dX13_note_20 rfl (lv_at hl 0 rfl) ?_
    refine lv_iload_n hx hb dX13_note_21 rfl (lv_at hl 1 rfl) ?_
    obtain ⟨q22, hq22, hf⟩ := mx_bd hf
    refine mx_callV C hM hl.1 yo_X13_keptBy (h' := 1) (by decide) qw_1654 qw_1656 qs_132 (ci := 13) (q := (RX13, TX13, 52)) rfl (mt_0 hT) (As := [.int i1]) (rest := []) (st1 := [.int q22]) (kX13_keptBy C.2.2.2.1 i1 hT (mx_si (mx_si M 0 0 (0 : Int32)) 0 37 (0 : Int32)) hq22) rfl rfl rfl (Nat.le_of_ble_eq_true rfl) dX13_note_22 (fun H locs hM => ?_)
    refine lv_istore_n (lv' := [(2, .int q22), (0, .ref (E.2.1.2.1 0)), (1, .int i1)]) hx hb dX13_note_25 rfl hl (by decide) rfl (fun ls hl => ?_)
    refine lv_aload_n hx hb dX13_note_26 rfl (lv_at hl 1 rfl) ?_
    refine lv_aload_n hx hb dX13_note_27 rfl (lv_at hl 1 rfl) ?_
    refine g13_43 C hT hM dX13_note_28 ?_
    refine lv_iload_n hx hb dX13_note_31 rfl (lv_at hl 2 rfl) ?_
    obtain ⟨hg32, hf⟩ := mx_gd hf
    refine mx_lald C hM (mt_5 hT) (mx_in_vp hg32) dX13_note_32 ?_
    obtain ⟨q33, hq33, hf⟩ := mx_bd hf
    refine mx_callV C hM hl.1 yo_X13_spells (h' := 1) (by decide) qw_1895 qw_1897 qs_165 (ci := 13) (q := (RX13, TX13, 52)) rfl (mt_0 hT) (As := [.long ((mx_si (mx_si M 0 0 (0 : Int32)) 0 37 (0 : Int32)).2.1 5 i1.toNatClampNeg)]) (rest := []) (st1 := []) (kX13_spells C.2.2.2.1 ((mx_si (mx_si M 0 0 (0 : Int32)) 0 37 (0 : Int32)).2.1 5 i1.toNatClampNeg) hT (mx_si (mx_si M 0 0 (0 : Int32)) 0 37 (0 : Int32)) hq33) rfl rfl rfl (Nat.le_of_ble_eq_true rfl) dX13_note_33 (fun H locs hM => ?_)
    refine lv_aload_n hx hb dX13_note_36 rfl (lv_at hl 1 rfl) ?_
    refine lv_ldc2 (v := (461262647411)) hx hb hown (hts _ qw_1385) dX13_note_37 ?_
    obtain ⟨q40, hq40, hf⟩ := mx_bd hf
    refine mx_callV C hM hl.1 yo_X13_says (h' := 2) (by decide) qw_1904 qw_1906 qs_167 (ci := 13) (q := (RX13, TX13, 52)) rfl (mt_0 hT) (As := [.long (461262647411 : Int64)]) (rest := []) (st1 := []) (kX13_says C.2.2.2.1 (461262647411 : Int64) hT q33 hq40) rfl rfl rfl (Nat.le_of_ble_eq_true rfl) dX13_note_40 (fun H locs hM => ?_)
    refine lv_aload_n hx hb dX13_note_43 rfl (lv_at hl 1 rfl) ?_
    refine lv_bipush (v := (32 : Int32)) hx hb dX13_note_44 (by decide) ?_
    obtain ⟨q46, hq46, hf⟩ := mx_bd hf
    refine mx_callV C hM hl.1 yo_X13_lays (h' := 0) (by decide) qw_1900 qw_1902 qs_166 (ci := 13) (q := (RX13, TX13, 52)) rfl (mt_0 hT) (As := [.int (32 : Int32)]) (rest := []) (st1 := []) (kX13_lays C.2.2.2.1 (32 : Int32) hT q40 hq46) rfl rfl rfl (Nat.le_of_ble_eq_true rfl) dX13_note_46 (fun H locs hM => ?_)
    refine lv_aload_n hx hb dX13_note_49 rfl (lv_at hl 1 rfl) ?_
    refine lv_bipush (v := (48 : Int32)) hx hb dX13_note_50 (by decide) ?_
    refine lv_iload_n hx hb dX13_note_52 rfl (lv_at hl 0 rfl) ?_
    obtain ⟨q53, hq53, hf⟩ := mx_bd hf
    refine mx_callS C hM hl.1 yo_X13_bits (h' := 0) (by decide) qw_1777 qw_1778 (As := [.int q22]) (rest := [.int (48 : Int32), .ref (E.2.1.2.1 0)]) (st1 := [.int q53, .int (48 : Int32), .ref (E.2.1.2.1 0)]) (kX13_bits C.2.2.2.1 q22 hT q46 hq53) rfl rfl rfl (Nat.le_of_ble_eq_true rfl) dX13_note_53 (fun H locs hM => ?_)
    refine lv_iadd hx hb dX13_note_56 ?_
    obtain ⟨q57, hq57, hf⟩ := mx_bd hf
    refine mx_callV C hM hl.1 yo_X13_lays (h' := 0) (by decide) qw_1900 qw_1902 qs_166 (ci := 13) (q := (RX13, TX13, 52)) rfl (mt_0 hT) (As := [.int ((48 : Int32) + q53)]) (rest := []) (st1 := []) (kX13_lays C.2.2.2.1 ((48 : Int32) + q53) hT q46 hq57) rfl rfl rfl (Nat.le_of_ble_eq_true rfl) dX13_note_57 (fun H locs hM => ?_)
    refine lv_iload_n hx hb dX13_note_60 rfl (lv_at hl 0 rfl) ?_
    refine lv_if_eq (tgt := 71) hx hb dX13_note_61 (by decide) (fun hc61 => ?_) (fun hc61 => ?_)
    · replace hf := mx_ift hc61 hf
      refine lv_iconst (v := (0 : Int32)) hx hb dX13_note_71 (by decide) ?_
      refine lv_istore_n (lv' := [(3, .int (0 : Int32)), (2, .int q22), (0, .ref (E.2.1.2.1 0)), (1, .int i1)]) hx hb dX13_note_72 rfl hl (by decide) rfl (fun ls hl => ?_)
      exact wfX13_note_73 C i1 hT q22 mx_fu (0 : Int32) q57 _ _ _ hf hM (lv_sub hl [2, 3, 1, 0] rfl)
    · replace hf := mx_iff hc61 hf
      refine lv_aload_n hx hb dX13_note_64 rfl (lv_at hl 1 rfl) ?_
      refine lv_ldc2 (v := (6713202)) hx hb hown (hts _ qw_1908) dX13_note_65 ?_
      obtain ⟨q68, hq68, hf⟩ := mx_bd hf
      refine mx_callV C hM hl.1 yo_X13_says (h' := 2) (by decide) qw_1904 qw_1906 qs_167 (ci := 13) (q := (RX13, TX13, 52)) rfl (mt_0 hT) (As := [.long (6713202 : Int64)]) (rest := []) (st1 := []) (kX13_says C.2.2.2.1 (6713202 : Int64) hT q57 hq68) rfl rfl rfl (Nat.le_of_ble_eq_true rfl) dX13_note_68 (fun H locs hM => ?_)
      refine lv_iconst (v := (0 : Int32)) hx hb dX13_note_71 (by decide) ?_
      refine lv_istore_n (lv' := [(3, .int (0 : Int32)), (2, .int q22), (0, .ref (E.2.1.2.1 0)), (1, .int i1)]) hx hb dX13_note_72 rfl hl (by decide) rfl (fun ls hl => ?_)
      exact wfX13_note_73 C i1 hT q22 mx_fu (0 : Int32) q68 _ _ _ hf hM (lv_sub hl [2, 3, 1, 0] rfl)
  · replace hf := mx_ift hc10 hf
    refine lv_iconst (v := (-1 : Int32)) hx hb dX13_note_13 (by decide) ?_
    exact mx_iret C hM hf dX13_note_14
theorem dX13_byteAt_0 : decode cX13_byteAt 0 = .ok (.aload_n 0, 1) := by decide +kernel
theorem dX13_byteAt_1 : decode cX13_byteAt 1 = .ok (.iconst 0, 1) := by decide +kernel
theorem dX13_byteAt_2 : decode cX13_byteAt 2 = .ok (.putfield 1, 3) := by decide +kernel
theorem dX13_byteAt_5 : decode cX13_byteAt 5 = .ok (.iload_n 1, 1) := by decide +kernel
theorem dX13_byteAt_6 : decode cX13_byteAt 6 = .ok (.iconst 0, 1) := by decide +kernel
theorem dX13_byteAt_7 : decode cX13_byteAt 7 = .ok (.aload_n 0, 1) := by decide +kernel
theorem dX13_byteAt_8 : decode cX13_byteAt 8 = .ok (.getfield 395, 3) := by decide +kernel
theorem dX13_byteAt_11 : decode cX13_byteAt 11 = .ok (.iconst 1, 1) := by decide +kernel
theorem dX13_byteAt_12 : decode cX13_byteAt 12 = .ok (.isub, 1) := by decide +kernel
theorem dX13_byteAt_13 : decode cX13_byteAt 13 = .ok (.invokestatic 193, 3) := by decide +kernel
theorem dX13_byteAt_16 : decode cX13_byteAt 16 = .ok (.ifCond .eq 12, 3) := by decide +kernel
theorem dX13_byteAt_19 : decode cX13_byteAt 19 = .ok (.aload_n 0, 1) := by decide +kernel
theorem dX13_byteAt_20 : decode cX13_byteAt 20 = .ok (.getfield 80, 3) := by decide +kernel
theorem dX13_byteAt_23 : decode cX13_byteAt 23 = .ok (.iload_n 1, 1) := by decide +kernel
theorem dX13_byteAt_24 : decode cX13_byteAt 24 = .ok (.baload, 1) := by decide +kernel
theorem dX13_byteAt_25 : decode cX13_byteAt 25 = .ok (.goto 4, 3) := by decide +kernel
theorem dX13_byteAt_28 : decode cX13_byteAt 28 = .ok (.iconst (-1), 1) := by decide +kernel
theorem dX13_byteAt_29 : decode cX13_byteAt 29 = .ok (.ireturn, 1) := by decide +kernel
set_option maxRecDepth 100000 in
set_option maxHeartbeats 4000000 in
theorem kX13_byteAt {E : KE} {l : Launch} (hE : mx_ok E) (i1 : Int32) (hT : E.1 = mt) (M : MM) {q : (Int32 × MM)} (hf : fX13_byteAt i1 M = some q) : mx_Met E l yX13_byteAt cX13_byteAt 2 (some .int) 1 [.ref (E.2.1.2.1 0), .int i1] M (some (.int q.1)) q.2 := by
  refine mx_enter hE (by decide) (Nat.le_of_ble_eq_true rfl) ?_
  intro p e s m below meth c C hM hn ls hl
  have hx := C.1.1
  have hb := C.1.2.1
  have hown := C.1.2.2.2.1
  have hts := C.1.2.2.2.2
  have hl : lv_has ls 2 [(0, .ref (E.2.1.2.1 0)), (1, .int i1)] := hl
  rw [fX13_byteAt] at hf
  refine lv_aload_n hx hb dX13_byteAt_0 rfl (lv_at hl 0 rfl) ?_
  refine lv_iconst (v := (0 : Int32)) hx hb dX13_byteAt_1 (by decide) ?_
  refine p13_1 C hT hM dX13_byteAt_2 (fun H locs hM => ?_)
  refine lv_iload_n hx hb dX13_byteAt_5 rfl (lv_at hl 1 rfl) ?_
  refine lv_iconst (v := (0 : Int32)) hx hb dX13_byteAt_6 (by decide) ?_
  refine lv_aload_n hx hb dX13_byteAt_7 rfl (lv_at hl 0 rfl) ?_
  refine g13_395 C hT hM dX13_byteAt_8 ?_
  refine lv_iconst (v := (1 : Int32)) hx hb dX13_byteAt_11 (by decide) ?_
  refine lv_isub hx hb dX13_byteAt_12 ?_
  obtain ⟨q13, hq13, hf⟩ := mx_bd hf
  refine mx_callS C hM hl.1 yo_X13_isIn (h' := 0) (by decide) qw_1608 qw_1609 (As := [.int i1, .int (0 : Int32), .int (((mx_si M 0 0 (0 : Int32)).1 0 37) - (1 : Int32))]) (rest := []) (st1 := [.int (mx_b q13)]) (kX13_isIn C.2.2.2.1 i1 (0 : Int32) (((mx_si M 0 0 (0 : Int32)).1 0 37) - (1 : Int32)) hT (mx_si M 0 0 (0 : Int32)) hq13) rfl rfl rfl (Nat.le_of_ble_eq_true rfl) dX13_byteAt_13 (fun H locs hM => ?_)
  refine lv_if_eq (tgt := 28) hx hb dX13_byteAt_16 (by decide) (fun hc16 => ?_) (fun hc16 => ?_)
  · replace hf := mx_ift hc16 hf
    refine lv_iconst (v := (-1 : Int32)) hx hb dX13_byteAt_28 (by decide) ?_
    exact mx_iret C hM hf dX13_byteAt_29
  · replace hf := mx_iff hc16 hf
    refine lv_aload_n hx hb dX13_byteAt_19 rfl (lv_at hl 0 rfl) ?_
    refine g13_80 C hT hM dX13_byteAt_20 ?_
    refine lv_iload_n hx hb dX13_byteAt_23 rfl (lv_at hl 1 rfl) ?_
    obtain ⟨hg24, hf⟩ := mx_gd hf
    refine mx_bald C hM (mt_15 hT) (mx_in_vp hg24) dX13_byteAt_24 ?_
    refine lv_goto (tgt := 29) hx hb dX13_byteAt_25 (by decide) ?_
    exact mx_iret C hM hf dX13_byteAt_29
theorem dX13_draw_0 : decode cX13_draw 0 = .ok (.aload_n 0, 1) := by decide +kernel
theorem dX13_draw_1 : decode cX13_draw 1 = .ok (.aload_n 0, 1) := by decide +kernel
theorem dX13_draw_2 : decode cX13_draw 2 = .ok (.getfield 412, 3) := by decide +kernel
theorem dX13_draw_5 : decode cX13_draw 5 = .ok (.ldc_w 415, 3) := by decide +kernel
theorem dX13_draw_8 : decode cX13_draw 8 = .ok (.imul, 1) := by decide +kernel
theorem dX13_draw_9 : decode cX13_draw 9 = .ok (.sipush 12345, 3) := by decide +kernel
theorem dX13_draw_12 : decode cX13_draw 12 = .ok (.iadd, 1) := by decide +kernel
theorem dX13_draw_13 : decode cX13_draw 13 = .ok (.putfield 412, 3) := by decide +kernel
theorem dX13_draw_16 : decode cX13_draw 16 = .ok (.aload_n 0, 1) := by decide +kernel
theorem dX13_draw_17 : decode cX13_draw 17 = .ok (.getfield 412, 3) := by decide +kernel
theorem dX13_draw_20 : decode cX13_draw 20 = .ok (.bipush 8, 2) := by decide +kernel
theorem dX13_draw_22 : decode cX13_draw 22 = .ok (.iushr, 1) := by decide +kernel
theorem dX13_draw_23 : decode cX13_draw 23 = .ok (.iload_n 1, 1) := by decide +kernel
theorem dX13_draw_24 : decode cX13_draw 24 = .ok (.irem, 1) := by decide +kernel
theorem dX13_draw_25 : decode cX13_draw 25 = .ok (.ireturn, 1) := by decide +kernel
set_option maxRecDepth 100000 in
set_option maxHeartbeats 4000000 in
theorem kX13_draw {E : KE} {l : Launch} (hE : mx_ok E) (i1 : Int32) (hT : E.1 = mt) (M : MM) {q : (Int32 × MM)} (hf : fX13_draw i1 M = some q) : mx_Met E l yX13_draw cX13_draw 2 (some .int) 0 [.ref (E.2.1.2.1 0), .int i1] M (some (.int q.1)) q.2 := by
  refine mx_enter hE (by decide) (Nat.le_of_ble_eq_true rfl) ?_
  intro p e s m below meth c C hM hn ls hl
  have hx := C.1.1
  have hb := C.1.2.1
  have hown := C.1.2.2.2.1
  have hts := C.1.2.2.2.2
  have hl : lv_has ls 2 [(0, .ref (E.2.1.2.1 0)), (1, .int i1)] := hl
  rw [fX13_draw] at hf
  refine lv_aload_n hx hb dX13_draw_0 rfl (lv_at hl 0 rfl) ?_
  refine lv_aload_n hx hb dX13_draw_1 rfl (lv_at hl 0 rfl) ?_
  refine g13_412 C hT hM dX13_draw_2 ?_
  refine lv_ldcw (v := (1103515245)) hx hb hown (hts _ qw_1929) dX13_draw_5 ?_
  refine lv_imul hx hb dX13_draw_8 ?_
  refine lv_sipush (v := (12345 : Int32)) hx hb dX13_draw_9 (by decide) ?_
  refine lv_iadd hx hb dX13_draw_12 ?_
  refine p13_412 C hT hM dX13_draw_13 (fun H locs hM => ?_)
  refine lv_aload_n hx hb dX13_draw_16 rfl (lv_at hl 0 rfl) ?_
  refine g13_412 C hT hM dX13_draw_17 ?_
  refine lv_bipush (v := (8 : Int32)) hx hb dX13_draw_20 (by decide) ?_
  refine lv_iushr (v := (mx_ushr ((mx_si M 0 38 (((M.1 0 38) * (1103515245 : Int32)) + (12345 : Int32))).1 0 38) (8 : Int32))) hx hb dX13_draw_22 rfl ?_
  refine lv_iload_n hx hb dX13_draw_23 rfl (lv_at hl 1 rfl) ?_
  obtain ⟨hz24, hf⟩ := mx_gn hf
  refine lv_irem hx hb dX13_draw_24 hz24 ?_
  exact mx_iret C hM hf dX13_draw_25
