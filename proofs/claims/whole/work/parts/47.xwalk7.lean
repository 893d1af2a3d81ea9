theorem dX12_sentence_0 : decode cX12_sentence 0 = .ok (.aload_n 0, 1) := by decide +kernel
theorem dX12_sentence_1 : decode cX12_sentence 1 = .ok (.getfield 21, 3) := by decide +kernel
theorem dX12_sentence_4 : decode cX12_sentence 4 = .ok (.sipush 200, 3) := by decide +kernel
theorem dX12_sentence_7 : decode cX12_sentence 7 = .ok (.invokevirtual 127, 3) := by decide +kernel
theorem dX12_sentence_10 : decode cX12_sentence 10 = .ok (.aload_n 0, 1) := by decide +kernel
theorem dX12_sentence_11 : decode cX12_sentence 11 = .ok (.getfield 64, 3) := by decide +kernel
theorem dX12_sentence_14 : decode cX12_sentence 14 = .ok (.aload_n 0, 1) := by decide +kernel
theorem dX12_sentence_15 : decode cX12_sentence 15 = .ok (.getfield 21, 3) := by decide +kernel
theorem dX12_sentence_18 : decode cX12_sentence 18 = .ok (.aload_n 0, 1) := by decide +kernel
theorem dX12_sentence_19 : decode cX12_sentence 19 = .ok (.getfield 28, 3) := by decide +kernel
theorem dX12_sentence_22 : decode cX12_sentence 22 = .ok (.invokevirtual 358, 3) := by decide +kernel
theorem dX12_sentence_25 : decode cX12_sentence 25 = .ok (.istore_n 1, 1) := by decide +kernel
theorem dX12_sentence_26 : decode cX12_sentence 26 = .ok (.aload_n 0, 1) := by decide +kernel
theorem dX12_sentence_27 : decode cX12_sentence 27 = .ok (.getfield 10, 3) := by decide +kernel
theorem dX12_sentence_30 : decode cX12_sentence 30 = .ok (.invokevirtual 134, 3) := by decide +kernel
theorem dX12_sentence_33 : decode cX12_sentence 33 = .ok (.aload_n 0, 1) := by decide +kernel
theorem dX12_sentence_34 : decode cX12_sentence 34 = .ok (.aload_n 0, 1) := by decide +kernel
theorem dX12_sentence_35 : decode cX12_sentence 35 = .ok (.getfield 21, 3) := by decide +kernel
theorem dX12_sentence_38 : decode cX12_sentence 38 = .ok (.getfield 137, 3) := by decide +kernel
theorem dX12_sentence_41 : decode cX12_sentence 41 = .ok (.putfield 140, 3) := by decide +kernel
theorem dX12_sentence_44 : decode cX12_sentence 44 = .ok (.iload_n 1, 1) := by decide +kernel
theorem dX12_sentence_45 : decode cX12_sentence 45 = .ok (.ifCond .ne 13, 3) := by decide +kernel
theorem dX12_sentence_48 : decode cX12_sentence 48 = .ok (.iconst (-1), 1) := by decide +kernel
theorem dX12_sentence_49 : decode cX12_sentence 49 = .ok (.aload_n 0, 1) := by decide +kernel
theorem dX12_sentence_50 : decode cX12_sentence 50 = .ok (.getfield 21, 3) := by decide +kernel
theorem dX12_sentence_53 : decode cX12_sentence 53 = .ok (.getfield 141, 3) := by decide +kernel
theorem dX12_sentence_56 : decode cX12_sentence 56 = .ok (.isub, 1) := by decide +kernel
theorem dX12_sentence_57 : decode cX12_sentence 57 = .ok (.ireturn, 1) := by decide +kernel
theorem dX12_sentence_58 : decode cX12_sentence 58 = .ok (.aload_n 0, 1) := by decide +kernel
theorem dX12_sentence_59 : decode cX12_sentence 59 = .ok (.getfield 60, 3) := by decide +kernel
theorem dX12_sentence_62 : decode cX12_sentence 62 = .ok (.aload_n 0, 1) := by decide +kernel
theorem dX12_sentence_63 : decode cX12_sentence 63 = .ok (.getfield 64, 3) := by decide +kernel
theorem dX12_sentence_66 : decode cX12_sentence 66 = .ok (.invokevirtual 359, 3) := by decide +kernel
theorem dX12_sentence_69 : decode cX12_sentence 69 = .ok (.aload_n 0, 1) := by decide +kernel
theorem dX12_sentence_70 : decode cX12_sentence 70 = .ok (.getfield 60, 3) := by decide +kernel
theorem dX12_sentence_73 : decode cX12_sentence 73 = .ok (.getfield 362, 3) := by decide +kernel
theorem dX12_sentence_76 : decode cX12_sentence 76 = .ok (.ireturn, 1) := by decide +kernel
set_option maxRecDepth 100000 in
set_option maxHeartbeats 4000000 in
theorem kX12_sentence {E : KE} {l : Launch} (hE : mx_ok E)  (hT : xOK E) (M : MM) {q : (Int32 × MM)} (hf : fX12_sentence M = some q) : mx_Met E l yX12_sentence cX12_sentence 2 (some .int) 77 [.ref (E.2.1.2.1 0)] M (some (.int q.1)) q.2 := by
  refine mx_enter hE (by decide) (Nat.le_of_ble_eq_true rfl) ?_
  intro p e s m below meth c C hM hn ls hl
  have hx := C.1.1
  have hb := C.1.2.1
  have hown := C.1.2.2.2.1
  have hts := C.1.2.2.2.2
  have hl : lv_has ls 2 [(0, .ref (E.2.1.2.1 0))] := hl
  rw [fX12_sentence] at hf
  refine lv_aload_n hx hb dX12_sentence_0 rfl (lv_at hl 0 rfl) ?_
  refine gX12_21 C hM (xt_0 hT) (f := (2, 3)) rfl (v := .ref (E.2.1.2.1 3)) rfl dX12_sentence_1 ?_
  refine lv_sipush (v := (200 : Int32)) hx hb dX12_sentence_4 (by decide) ?_
  obtain ⟨q7, hq7, hf⟩ := mx_bd hf
  refine mx_callVN C hM hl.1 yo_X7_open (h' := 3) (by decide) (nw_497 hT C) qw_499 qs_3 (ci := 7) (q := (RX7, TX7, 12)) rfl (xt_3 hT) (As := [.int (200 : Int32)]) (rest := []) (st1 := []) (kX7_open C.2.2.2.1 (200 : Int32) hT M hq7) rfl rfl rfl (Nat.le_of_ble_eq_true rfl) dX12_sentence_7 (fun H locs hM => ?_)
  refine lv_aload_n hx hb dX12_sentence_10 rfl (lv_at hl 0 rfl) ?_
  refine gX12_64 C hM (xt_0 hT) (f := (2, 134)) rfl (v := .ref (E.2.1.2.1 134)) rfl dX12_sentence_11 ?_
  refine lv_aload_n hx hb dX12_sentence_14 rfl (lv_at hl 0 rfl) ?_
  refine gX12_21 C hM (xt_0 hT) (f := (2, 3)) rfl (v := .ref (E.2.1.2.1 3)) rfl dX12_sentence_15 ?_
  refine lv_aload_n hx hb dX12_sentence_18 rfl (lv_at hl 0 rfl) ?_
  refine gX12_28 C hM (xt_0 hT) (f := (2, 9)) rfl (v := .ref (E.2.1.2.1 9)) rfl dX12_sentence_19 ?_
  obtain ⟨q22, hq22, hf⟩ := mx_bd hf
  refine mx_callVN C hM hl.1 yo_X8_readFrom (h' := 76) (by decide) (nw_1159 hT C) qw_1161 qs_96 (ci := 8) (q := (RX8, TX8, 5)) rfl (xt_134 hT) (As := [.ref (E.2.1.2.1 3), .ref (E.2.1.2.1 9)]) (rest := []) (st1 := [.int (mx_b q22.1)]) (kX8_readFrom C.2.2.2.1 hT q7 hq22) rfl rfl rfl (Nat.le_of_ble_eq_true rfl) dX12_sentence_22 (fun H locs hM => ?_)
  refine lv_istore_n (lv' := [(1, .int (mx_b q22.1)), (0, .ref (E.2.1.2.1 0))]) hx hb dX12_sentence_25 rfl hl (by decide) rfl (fun ls hl => ?_)
  refine lv_aload_n hx hb dX12_sentence_26 rfl (lv_at hl 1 rfl) ?_
  refine gX12_10 C hM (xt_0 hT) (f := (2, 1)) rfl (v := .ref (E.2.1.2.1 1)) rfl dX12_sentence_27 ?_
  obtain ⟨q30, hq30, hf⟩ := mx_bd hf
  refine mx_callVN C hM hl.1 yo_X10_clear (h' := 0) (by decide) (nw_622 hT C) qw_624 qs_27 (ci := 10) (q := (RX10, TX10, 2)) rfl (xt_1 hT) (As := []) (rest := []) (st1 := []) (kX10_clear C.2.2.2.1 hT q22.2 hq30) rfl rfl rfl (Nat.le_of_ble_eq_true rfl) dX12_sentence_30 (fun H locs hM => ?_)
  refine lv_aload_n hx hb dX12_sentence_33 rfl (lv_at hl 1 rfl) ?_
  refine lv_aload_n hx hb dX12_sentence_34 rfl (lv_at hl 1 rfl) ?_
  refine gX12_21 C hM (xt_0 hT) (f := (2, 3)) rfl (v := .ref (E.2.1.2.1 3)) rfl dX12_sentence_35 ?_
  refine gX12_137 C hT hM (xt_3 hT) (f := (0, 0)) rfl (v := .int (q30.1 3 10)) rfl dX12_sentence_38 ?_
  refine pX12_140 C hM (xt_0 hT) rfl rfl rfl dX12_sentence_41 (fun H locs hM => ?_)
  refine lv_iload_n hx hb dX12_sentence_44 rfl (lv_at hl 0 rfl) ?_
  refine lv_if_ne (tgt := 58) hx hb dX12_sentence_45 (by decide) (fun hc45 => ?_) (fun hc45 => ?_)
  · replace hf := mx_iff hc45 hf
    refine lv_aload_n hx hb dX12_sentence_58 rfl (lv_at hl 1 rfl) ?_
    refine gX12_60 C hM (xt_0 hT) (f := (2, 130)) rfl (v := .ref (E.2.1.2.1 130)) rfl dX12_sentence_59 ?_
    refine lv_aload_n hx hb dX12_sentence_62 rfl (lv_at hl 1 rfl) ?_
    refine gX12_64 C hM (xt_0 hT) (f := (2, 134)) rfl (v := .ref (E.2.1.2.1 134)) rfl dX12_sentence_63 ?_
    obtain ⟨q66, hq66, hf⟩ := mx_bd hf
    refine mx_callVN C hM hl.1 yo_X8_copyFrom (h' := 1) (by decide) (nw_1213 hT C) qw_1215 qs_103 (ci := 8) (q := (RX8, TX8, 5)) rfl (xt_130 hT) (As := [.ref (E.2.1.2.1 134)]) (rest := []) (st1 := []) (kX8_copyFrom C.2.2.2.1 130 134 hT xiN_130 xiN_134 (mx_si q30 0 18 (q30.1 3 10)) hq66) rfl rfl rfl (Nat.le_of_ble_eq_true rfl) dX12_sentence_66 (fun H locs hM => ?_)
    refine lv_aload_n hx hb dX12_sentence_69 rfl (lv_at hl 1 rfl) ?_
    refine gX12_60 C hM (xt_0 hT) (f := (2, 130)) rfl (v := .ref (E.2.1.2.1 130)) rfl dX12_sentence_70 ?_
    refine gX12_362 C hT hM (xt_130 hT) (f := (0, 0)) rfl (v := .int (q66.1 130 4)) rfl dX12_sentence_73 ?_
    exact mx_iret C hM hf dX12_sentence_76
  · replace hf := mx_ift hc45 hf
    refine lv_iconst (v := (-1 : Int32)) hx hb dX12_sentence_48 (by decide) ?_
    refine lv_aload_n hx hb dX12_sentence_49 rfl (lv_at hl 1 rfl) ?_
    refine gX12_21 C hM (xt_0 hT) (f := (2, 3)) rfl (v := .ref (E.2.1.2.1 3)) rfl dX12_sentence_50 ?_
    refine gX12_141 C hT hM (xt_3 hT) (f := (0, 0)) rfl (v := .int ((mx_si q30 0 18 (q30.1 3 10)).1 3 11)) rfl dX12_sentence_53 ?_
    refine lv_isub hx hb dX12_sentence_56 ?_
    exact mx_iret C hM hf dX12_sentence_57
theorem dX12_said_0 : decode cX12_said 0 = .ok (.aload_n 0, 1) := by decide +kernel
theorem dX12_said_1 : decode cX12_said 1 = .ok (.getfield 60, 3) := by decide +kernel
theorem dX12_said_4 : decode cX12_said 4 = .ok (.getfield 362, 3) := by decide +kernel
theorem dX12_said_7 : decode cX12_said 7 = .ok (.ifCond .eq 8, 3) := by decide +kernel
theorem dX12_said_10 : decode cX12_said 10 = .ok (.iload_n 1, 1) := by decide +kernel
theorem dX12_said_11 : decode cX12_said 11 = .ok (.iconst (-1), 1) := by decide +kernel
theorem dX12_said_12 : decode cX12_said 12 = .ok (.if_icmp .ge 5, 3) := by decide +kernel
theorem dX12_said_15 : decode cX12_said 15 = .ok (.iconst (-1), 1) := by decide +kernel
theorem dX12_said_16 : decode cX12_said 16 = .ok (.ireturn, 1) := by decide +kernel
theorem dX12_said_17 : decode cX12_said 17 = .ok (.iconst 0, 1) := by decide +kernel
theorem dX12_said_18 : decode cX12_said 18 = .ok (.istore_n 2, 1) := by decide +kernel
theorem dX12_said_19 : decode cX12_said 19 = .ok (.iconst 0, 1) := by decide +kernel
theorem dX12_said_20 : decode cX12_said 20 = .ok (.istore_n 3, 1) := by decide +kernel
theorem dX12_said_21 : decode cX12_said 21 = .ok (.iload_n 3, 1) := by decide +kernel
theorem dX12_said_22 : decode cX12_said 22 = .ok (.aload_n 0, 1) := by decide +kernel
theorem dX12_said_23 : decode cX12_said 23 = .ok (.getfield 28, 3) := by decide +kernel
theorem dX12_said_26 : decode cX12_said 26 = .ok (.getfield 365, 3) := by decide +kernel
theorem dX12_said_29 : decode cX12_said 29 = .ok (.if_icmp .ge 34, 3) := by decide +kernel
theorem dX12_said_32 : decode cX12_said 32 = .ok (.aload_n 0, 1) := by decide +kernel
theorem dX12_said_33 : decode cX12_said 33 = .ok (.getfield 60, 3) := by decide +kernel
theorem dX12_said_36 : decode cX12_said 36 = .ok (.aload_n 0, 1) := by decide +kernel
theorem dX12_said_37 : decode cX12_said 37 = .ok (.getfield 40, 3) := by decide +kernel
theorem dX12_said_40 : decode cX12_said 40 = .ok (.iload_n 3, 1) := by decide +kernel
theorem dX12_said_41 : decode cX12_said 41 = .ok (.invokevirtual 368, 3) := by decide +kernel
theorem dX12_said_44 : decode cX12_said 44 = .ok (.ifCond .eq 13, 3) := by decide +kernel
theorem dX12_said_47 : decode cX12_said 47 = .ok (.iload_n 2, 1) := by decide +kernel
theorem dX12_said_48 : decode cX12_said 48 = .ok (.iload_n 1, 1) := by decide +kernel
theorem dX12_said_49 : decode cX12_said 49 = .ok (.if_icmp .ne 5, 3) := by decide +kernel
theorem dX12_said_52 : decode cX12_said 52 = .ok (.iload_n 3, 1) := by decide +kernel
theorem dX12_said_53 : decode cX12_said 53 = .ok (.ireturn, 1) := by decide +kernel
theorem dX12_said_54 : decode cX12_said 54 = .ok (.iinc 2 1, 3) := by decide +kernel
theorem dX12_said_57 : decode cX12_said 57 = .ok (.iinc 3 1, 3) := by decide +kernel
theorem dX12_said_60 : decode cX12_said 60 = .ok (.goto (-39), 3) := by decide +kernel
theorem dX12_said_63 : decode cX12_said 63 = .ok (.iload_n 1, 1) := by decide +kernel
theorem dX12_said_64 : decode cX12_said 64 = .ok (.iconst (-1), 1) := by decide +kernel
theorem dX12_said_65 : decode cX12_said 65 = .ok (.if_icmp .ne 7, 3) := by decide +kernel
theorem dX12_said_68 : decode cX12_said 68 = .ok (.iload_n 2, 1) := by decide +kernel
theorem dX12_said_69 : decode cX12_said 69 = .ok (.goto 4, 3) := by decide +kernel
theorem dX12_said_72 : decode cX12_said 72 = .ok (.iconst (-1), 1) := by decide +kernel
theorem dX12_said_73 : decode cX12_said 73 = .ok (.ireturn, 1) := by decide +kernel
set_option maxRecDepth 100000 in
set_option maxHeartbeats 4000000 in
theorem wfX12_said_21 {E : KE} {p : Program} {l : Launch} {e : Env} {s : State} {m : MethodId} {args : Array Value} {below : List Frame} {meth : Method} {c : Code} {q : Int32} (C : mx_C E p m c cX12_said 4 s args RX12 meth (some .int)) (i1 : Int32) (M : MM) (hT : xOK E)   : ∀ (n : Nat) (i2 : Int32) (i3 : Int32) (H : Heap) (locs : List Loc) (ls : Array Slot), fX12_said_21 i1 M n i2 i3 = some q → mx_H E s M H locs → lv_has ls 4 [(0, .ref (E.2.1.2.1 0)), (1, .int i1), (2, .int i2), (3, .int i3)] → W p l e (mx_rm 5) s m args below meth c H locs 0 0 (mx_Z E below args s (some (.int q)) M) (F0 m 21 ls []) := by
  have hx := C.1.1
  have hb := C.1.2.1
  have hown := C.1.2.2.2.1
  have hts := C.1.2.2.2.2
  intro n
  induction n with
  | zero =>
    intro i2 i3 H locs ls hf hM hl
    rw [fX12_said_21] at hf
    cases hf
  | succ n ih =>
    intro i2 i3 H locs ls hf hM hl
    rw [fX12_said_21] at hf
    refine lv_iload_n hx hb dX12_said_21 rfl (lv_at hl 3 rfl) ?_
    refine lv_aload_n hx hb dX12_said_22 rfl (lv_at hl 0 rfl) ?_
    refine gX12_28 C hM (xt_0 hT) (f := (2, 9)) rfl (v := .ref (E.2.1.2.1 9)) rfl dX12_said_23 ?_
    refine gX12_365 C hT hM (xt_9 hT) (f := (0, 0)) rfl (v := .int (M.1 9 0)) rfl dX12_said_26 ?_
    refine lv_icmp_ge (tgt := 63) hx hb dX12_said_29 (by decide) (fun hc29 => ?_) (fun hc29 => ?_)
    · replace hf := mx_ift hc29 hf
      refine lv_iload_n hx hb dX12_said_63 rfl (lv_at hl 1 rfl) ?_
      refine lv_iconst (v := (-1 : Int32)) hx hb dX12_said_64 (by decide) ?_
      refine lv_icmp_ne (tgt := 72) hx hb dX12_said_65 (by decide) (fun hc65 => ?_) (fun hc65 => ?_)
      · replace hf := mx_iff hc65 hf
        refine lv_iconst (v := (-1 : Int32)) hx hb dX12_said_72 (by decide) ?_
        exact mx_iretR C hM hf dX12_said_73
      · replace hf := mx_ift hc65 hf
        refine lv_iload_n hx hb dX12_said_68 rfl (lv_at hl 2 rfl) ?_
        refine lv_goto (tgt := 73) hx hb dX12_said_69 (by decide) ?_
        exact mx_iretR C hM hf dX12_said_73
    · replace hf := mx_iff hc29 hf
      refine lv_aload_n hx hb dX12_said_32 rfl (lv_at hl 0 rfl) ?_
      refine gX12_60 C hM (xt_0 hT) (f := (2, 130)) rfl (v := .ref (E.2.1.2.1 130)) rfl dX12_said_33 ?_
      refine lv_aload_n hx hb dX12_said_36 rfl (lv_at hl 0 rfl) ?_
      refine gX12_40 C hM (xt_0 hT) (f := (2, 29)) rfl (v := .ref (E.2.1.2.1 29)) rfl dX12_said_37 ?_
      refine lv_iload_n hx hb dX12_said_40 rfl (lv_at hl 3 rfl) ?_
      obtain ⟨q41, hq41, hf⟩ := mx_bd hf
      refine mx_callVN C hM hl.1 yo_X8_holdsOf (h' := 4) (by decide) (nw_1222 hT C) qw_1224 qs_104 (ci := 8) (q := (RX8, TX8, 5)) rfl (xt_130 hT) (As := [.ref (E.2.1.2.1 29), .int i3]) (rest := []) (st1 := [.int (mx_b q41)]) (kX8_holdsOf C.2.2.2.1 i3 hT M hq41) rfl rfl rfl (Nat.le_of_ble_eq_true rfl) dX12_said_41 (fun H locs hM => ?_)
      refine lv_if_eq (tgt := 57) hx hb dX12_said_44 (by decide) (fun hc44 => ?_) (fun hc44 => ?_)
      · replace hf := mx_ift hc44 hf
        refine lv_iinc (v := (i3 + (1 : Int32))) (lv' := [(3, .int (i3 + (1 : Int32))), (0, .ref (E.2.1.2.1 0)), (1, .int i1), (2, .int i2)]) hx hb dX12_said_57 hl (k := 3) rfl rfl (by decide) rfl (fun ls hl => ?_)
        refine lv_goto (tgt := 21) hx hb dX12_said_60 (by decide) ?_
        exact ih i2 (i3 + (1 : Int32)) _ _ _ hf hM (lv_sub hl [1, 2, 3, 0] rfl)
      · replace hf := mx_iff hc44 hf
        refine lv_iload_n hx hb dX12_said_47 rfl (lv_at hl 2 rfl) ?_
        refine lv_iload_n hx hb dX12_said_48 rfl (lv_at hl 1 rfl) ?_
        refine lv_icmp_ne (tgt := 54) hx hb dX12_said_49 (by decide) (fun hc49 => ?_) (fun hc49 => ?_)
        · replace hf := mx_iff hc49 hf
          refine lv_iinc (v := (i2 + (1 : Int32))) (lv' := [(2, .int (i2 + (1 : Int32))), (0, .ref (E.2.1.2.1 0)), (1, .int i1), (3, .int i3)]) hx hb dX12_said_54 hl (k := 2) rfl rfl (by decide) rfl (fun ls hl => ?_)
          refine lv_iinc (v := (i3 + (1 : Int32))) (lv' := [(3, .int (i3 + (1 : Int32))), (2, .int (i2 + (1 : Int32))), (0, .ref (E.2.1.2.1 0)), (1, .int i1)]) hx hb dX12_said_57 hl (k := 3) rfl rfl (by decide) rfl (fun ls hl => ?_)
          refine lv_goto (tgt := 21) hx hb dX12_said_60 (by decide) ?_
          exact ih (i2 + (1 : Int32)) (i3 + (1 : Int32)) _ _ _ hf hM (lv_sub hl [2, 3, 1, 0] rfl)
        · replace hf := mx_ift hc49 hf
          refine lv_iload_n hx hb dX12_said_52 rfl (lv_at hl 3 rfl) ?_
          exact mx_iretR C hM hf dX12_said_53
set_option maxRecDepth 100000 in
set_option maxHeartbeats 4000000 in
theorem kX12_said {E : KE} {l : Launch} (hE : mx_ok E) (i1 : Int32) (hT : xOK E) (M : MM) {q : Int32} (hf : fX12_said i1 M = some q) : mx_Met E l yX12_said cX12_said 4 (some .int) 5 [.ref (E.2.1.2.1 0), .int i1] M (some (.int q)) M := by
  refine mx_enter hE (by decide) (Nat.le_of_ble_eq_true rfl) ?_
  intro p e s m below meth c C hM hn ls hl
  have hx := C.1.1
  have hb := C.1.2.1
  have hown := C.1.2.2.2.1
  have hts := C.1.2.2.2.2
  have hl : lv_has ls 4 [(0, .ref (E.2.1.2.1 0)), (1, .int i1)] := hl
  rw [fX12_said] at hf
  refine lv_aload_n hx hb dX12_said_0 rfl (lv_at hl 0 rfl) ?_
  refine gX12_60 C hM (xt_0 hT) (f := (2, 130)) rfl (v := .ref (E.2.1.2.1 130)) rfl dX12_said_1 ?_
  refine gX12_362 C hT hM (xt_130 hT) (f := (0, 0)) rfl (v := .int (M.1 130 4)) rfl dX12_said_4 ?_
  refine lv_if_eq (tgt := 15) hx hb dX12_said_7 (by decide) (fun hc7 => ?_) (fun hc7 => ?_)
  · replace hf := mx_ift hc7 hf
    refine lv_iconst (v := (-1 : Int32)) hx hb dX12_said_15 (by decide) ?_
    exact mx_iretR C hM hf dX12_said_16
  · replace hf := mx_iff hc7 hf
    refine lv_iload_n hx hb dX12_said_10 rfl (lv_at hl 1 rfl) ?_
    refine lv_iconst (v := (-1 : Int32)) hx hb dX12_said_11 (by decide) ?_
    refine lv_icmp_ge (tgt := 17) hx hb dX12_said_12 (by decide) (fun hc12 => ?_) (fun hc12 => ?_)
    · replace hf := mx_ift hc12 hf
      refine lv_iconst (v := (0 : Int32)) hx hb dX12_said_17 (by decide) ?_
      refine lv_istore_n (lv' := [(2, .int (0 : Int32)), (0, .ref (E.2.1.2.1 0)), (1, .int i1)]) hx hb dX12_said_18 rfl hl (by decide) rfl (fun ls hl => ?_)
      refine lv_iconst (v := (0 : Int32)) hx hb dX12_said_19 (by decide) ?_
      refine lv_istore_n (lv' := [(3, .int (0 : Int32)), (2, .int (0 : Int32)), (0, .ref (E.2.1.2.1 0)), (1, .int i1)]) hx hb dX12_said_20 rfl hl (by decide) rfl (fun ls hl => ?_)
      exact wfX12_said_21 C i1 M hT mx_fu (0 : Int32) (0 : Int32) _ _ _ hf hM (lv_sub hl [2, 3, 1, 0] rfl)
    · replace hf := mx_iff hc12 hf
      refine lv_iconst (v := (-1 : Int32)) hx hb dX12_said_15 (by decide) ?_
      exact mx_iretR C hM hf dX12_said_16
theorem dX12_image_0 : decode cX12_image 0 = .ok (.iload_n 1, 1) := by decide +kernel
theorem dX12_image_1 : decode cX12_image 1 = .ok (.ifCond .lt 8, 3) := by decide +kernel
theorem dX12_image_4 : decode cX12_image 4 = .ok (.iload_n 1, 1) := by decide +kernel
theorem dX12_image_5 : decode cX12_image 5 = .ok (.iconst 2, 1) := by decide +kernel
theorem dX12_image_6 : decode cX12_image 6 = .ok (.if_icmp .lt 5, 3) := by decide +kernel
theorem dX12_image_9 : decode cX12_image 9 = .ok (.iconst 0, 1) := by decide +kernel
theorem dX12_image_10 : decode cX12_image 10 = .ok (.ireturn, 1) := by decide +kernel
theorem dX12_image_11 : decode cX12_image 11 = .ok (.aload_n 0, 1) := by decide +kernel
theorem dX12_image_12 : decode cX12_image 12 = .ok (.getfield 95, 3) := by decide +kernel
theorem dX12_image_15 : decode cX12_image 15 = .ok (.iload_n 1, 1) := by decide +kernel
theorem dX12_image_16 : decode cX12_image 16 = .ok (.aaload, 1) := by decide +kernel
theorem dX12_image_17 : decode cX12_image 17 = .ok (.aload_n 0, 1) := by decide +kernel
theorem dX12_image_18 : decode cX12_image 18 = .ok (.getfield 28, 3) := by decide +kernel
theorem dX12_image_21 : decode cX12_image 21 = .ok (.invokevirtual 144, 3) := by decide +kernel
theorem dX12_image_24 : decode cX12_image 24 = .ok (.aload_n 0, 1) := by decide +kernel
theorem dX12_image_25 : decode cX12_image 25 = .ok (.getfield 99, 3) := by decide +kernel
theorem dX12_image_28 : decode cX12_image 28 = .ok (.iload_n 1, 1) := by decide +kernel
theorem dX12_image_29 : decode cX12_image 29 = .ok (.aaload, 1) := by decide +kernel
theorem dX12_image_30 : decode cX12_image 30 = .ok (.aload_n 0, 1) := by decide +kernel
theorem dX12_image_31 : decode cX12_image 31 = .ok (.getfield 40, 3) := by decide +kernel
theorem dX12_image_34 : decode cX12_image 34 = .ok (.invokevirtual 233, 3) := by decide +kernel
theorem dX12_image_37 : decode cX12_image 37 = .ok (.aload_n 0, 1) := by decide +kernel
theorem dX12_image_38 : decode cX12_image 38 = .ok (.getfield 103, 3) := by decide +kernel
theorem dX12_image_41 : decode cX12_image 41 = .ok (.iload_n 1, 1) := by decide +kernel
theorem dX12_image_42 : decode cX12_image 42 = .ok (.aaload, 1) := by decide +kernel
theorem dX12_image_43 : decode cX12_image 43 = .ok (.aload_n 0, 1) := by decide +kernel
theorem dX12_image_44 : decode cX12_image 44 = .ok (.getfield 60, 3) := by decide +kernel
theorem dX12_image_47 : decode cX12_image 47 = .ok (.invokevirtual 359, 3) := by decide +kernel
theorem dX12_image_50 : decode cX12_image 50 = .ok (.aload_n 0, 1) := by decide +kernel
theorem dX12_image_51 : decode cX12_image 51 = .ok (.getfield 107, 3) := by decide +kernel
theorem dX12_image_54 : decode cX12_image 54 = .ok (.iload_n 1, 1) := by decide +kernel
theorem dX12_image_55 : decode cX12_image 55 = .ok (.iconst 1, 1) := by decide +kernel
theorem dX12_image_56 : decode cX12_image 56 = .ok (.bastore, 1) := by decide +kernel
theorem dX12_image_57 : decode cX12_image 57 = .ok (.iconst 1, 1) := by decide +kernel
theorem dX12_image_58 : decode cX12_image 58 = .ok (.ireturn, 1) := by decide +kernel
set_option maxRecDepth 100000 in
set_option maxHeartbeats 4000000 in
theorem kX12_image {E : KE} {l : Launch} (hE : mx_ok E) (i1 : Int32) (hT : xOK E) (M : MM) {q : (Bool × MM)} (hf : fX12_image i1 M = some q) : mx_Met E l yX12_image cX12_image 2 (some .boolean) 2 [.ref (E.2.1.2.1 0), .int i1] M (some (.int (mx_b q.1))) q.2 := by
  refine mx_enter hE (by decide) (Nat.le_of_ble_eq_true rfl) ?_
  intro p e s m below meth c C hM hn ls hl
  have hx := C.1.1
  have hb := C.1.2.1
  have hown := C.1.2.2.2.1
  have hts := C.1.2.2.2.2
  have hl : lv_has ls 2 [(0, .ref (E.2.1.2.1 0)), (1, .int i1)] := hl
  rw [fX12_image] at hf
  refine lv_iload_n hx hb dX12_image_0 rfl (lv_at hl 1 rfl) ?_
  refine lv_if_lt (tgt := 9) hx hb dX12_image_1 (by decide) (fun hc1 => ?_) (fun hc1 => ?_)
  · replace hf := mx_ift hc1 hf
    refine lv_iconst (v := (0 : Int32)) hx hb dX12_image_9 (by decide) ?_
    exact mx_zret C hM (b := false) rfl hf dX12_image_10
  · replace hf := mx_iff hc1 hf
    refine lv_iload_n hx hb dX12_image_4 rfl (lv_at hl 1 rfl) ?_
    refine lv_iconst (v := (2 : Int32)) hx hb dX12_image_5 (by decide) ?_
    refine lv_icmp_lt (tgt := 11) hx hb dX12_image_6 (by decide) (fun hc6 => ?_) (fun hc6 => ?_)
    · replace hf := mx_ift hc6 hf
      refine lv_aload_n hx hb dX12_image_11 rfl (lv_at hl 0 rfl) ?_
      refine gX12_95 C hM (xt_0 hT) (f := (2, 154)) rfl (v := .ref (E.2.1.2.1 154)) rfl dX12_image_12 ?_
      refine lv_iload_n hx hb dX12_image_15 rfl (lv_at hl 1 rfl) ?_
      obtain ⟨hg16, hf⟩ := mx_gd hf
      refine mx_aald5 C hM (xt_154 hT) (mx_in_vp hg16) dX12_image_16 ?_
      refine lv_aload_n hx hb dX12_image_17 rfl (lv_at hl 0 rfl) ?_
      refine gX12_28 C hM (xt_0 hT) (f := (2, 9)) rfl (v := .ref (E.2.1.2.1 9)) rfl dX12_image_18 ?_
      obtain ⟨hr21, hf⟩ := mx_gd hf
      obtain ⟨q21, hq21, hf⟩ := mx_bd hf
      refine mx_callVN C hM hl.1 yo_X3_copyFrom (h' := 1) (by decide) (nw_626 hT C) qw_628 qs_28 (ci := 3) (q := (RX3, TX3, 18)) rfl (xoI hT hr21) (As := [.ref (E.2.1.2.1 9)]) (rest := []) (st1 := []) (kX3_copyFrom C.2.2.2.1 (M.2.2 154 i1.toNatClampNeg) 9 hT hr21 xiI_9 M hq21) rfl rfl rfl (Nat.le_of_ble_eq_true rfl) dX12_image_21 (fun H locs hM => ?_)
      refine lv_aload_n hx hb dX12_image_24 rfl (lv_at hl 0 rfl) ?_
      refine gX12_99 C hM (xt_0 hT) (f := (2, 155)) rfl (v := .ref (E.2.1.2.1 155)) rfl dX12_image_25 ?_
      refine lv_iload_n hx hb dX12_image_28 rfl (lv_at hl 1 rfl) ?_
      obtain ⟨hg29, hf⟩ := mx_gd hf
      refine mx_aald4 C hM (xt_155 hT) (mx_in_vp hg29) dX12_image_29 ?_
      refine lv_aload_n hx hb dX12_image_30 rfl (lv_at hl 0 rfl) ?_
      refine gX12_40 C hM (xt_0 hT) (f := (2, 29)) rfl (v := .ref (E.2.1.2.1 29)) rfl dX12_image_31 ?_
      obtain ⟨hr34, hf⟩ := mx_gd hf
      obtain ⟨q34, hq34, hf⟩ := mx_bd hf
      refine mx_callVN C hM hl.1 yo_X9_copyFrom (h' := 1) (by decide) (nw_692 hT C) qw_694 qs_39 (ci := 9) (q := (RX9, TX9, 13)) rfl (xoS hT hr34) (As := [.ref (E.2.1.2.1 29)]) (rest := []) (st1 := []) (kX9_copyFrom C.2.2.2.1 (q21.2.2 155 i1.toNatClampNeg) 29 hT hr34 xiS_29 q21 hq34) rfl rfl rfl (Nat.le_of_ble_eq_true rfl) dX12_image_34 (fun H locs hM => ?_)
      refine lv_aload_n hx hb dX12_image_37 rfl (lv_at hl 0 rfl) ?_
      refine gX12_103 C hM (xt_0 hT) (f := (2, 156)) rfl (v := .ref (E.2.1.2.1 156)) rfl dX12_image_38 ?_
      refine lv_iload_n hx hb dX12_image_41 rfl (lv_at hl 1 rfl) ?_
      obtain ⟨hg42, hf⟩ := mx_gd hf
      refine mx_aald6 C hM (xt_156 hT) (mx_in_vp hg42) dX12_image_42 ?_
      refine lv_aload_n hx hb dX12_image_43 rfl (lv_at hl 0 rfl) ?_
      refine gX12_60 C hM (xt_0 hT) (f := (2, 130)) rfl (v := .ref (E.2.1.2.1 130)) rfl dX12_image_44 ?_
      obtain ⟨hr47, hf⟩ := mx_gd hf
      obtain ⟨q47, hq47, hf⟩ := mx_bd hf
      refine mx_callVN C hM hl.1 yo_X8_copyFrom (h' := 1) (by decide) (nw_1213 hT C) qw_1215 qs_103 (ci := 8) (q := (RX8, TX8, 5)) rfl (xoN hT hr47) (As := [.ref (E.2.1.2.1 130)]) (rest := []) (st1 := []) (kX8_copyFrom C.2.2.2.1 (q34.2.2 156 i1.toNatClampNeg) 130 hT hr47 xiN_130 q34 hq47) rfl rfl rfl (Nat.le_of_ble_eq_true rfl) dX12_image_47 (fun H locs hM => ?_)
      refine lv_aload_n hx hb dX12_image_50 rfl (lv_at hl 0 rfl) ?_
      refine gX12_107 C hM (xt_0 hT) (f := (2, 157)) rfl (v := .ref (E.2.1.2.1 157)) rfl dX12_image_51 ?_
      refine lv_iload_n hx hb dX12_image_54 rfl (lv_at hl 1 rfl) ?_
      refine lv_iconst (v := (1 : Int32)) hx hb dX12_image_55 (by decide) ?_
      obtain ⟨hg56, hf⟩ := mx_gd hf
      refine mx_zast C hM (xt_157 hT) (mx_in_vp hg56) dX12_image_56 (fun H locs hM => ?_)
      refine lv_iconst (v := (1 : Int32)) hx hb dX12_image_57 (by decide) ?_
      exact mx_zret C hM (b := true) rfl hf dX12_image_58
    · replace hf := mx_iff hc6 hf
      refine lv_iconst (v := (0 : Int32)) hx hb dX12_image_9 (by decide) ?_
      exact mx_zret C hM (b := false) rfl hf dX12_image_10
theorem dX12_restore_0 : decode cX12_restore 0 = .ok (.iload_n 1, 1) := by decide +kernel
theorem dX12_restore_1 : decode cX12_restore 1 = .ok (.ifCond .lt 17, 3) := by decide +kernel
theorem dX12_restore_4 : decode cX12_restore 4 = .ok (.iload_n 1, 1) := by decide +kernel
theorem dX12_restore_5 : decode cX12_restore 5 = .ok (.iconst 2, 1) := by decide +kernel
theorem dX12_restore_6 : decode cX12_restore 6 = .ok (.if_icmp .ge 12, 3) := by decide +kernel
theorem dX12_restore_9 : decode cX12_restore 9 = .ok (.aload_n 0, 1) := by decide +kernel
theorem dX12_restore_10 : decode cX12_restore 10 = .ok (.getfield 107, 3) := by decide +kernel
theorem dX12_restore_13 : decode cX12_restore 13 = .ok (.iload_n 1, 1) := by decide +kernel
theorem dX12_restore_14 : decode cX12_restore 14 = .ok (.baload, 1) := by decide +kernel
theorem dX12_restore_15 : decode cX12_restore 15 = .ok (.ifCond .ne 5, 3) := by decide +kernel
theorem dX12_restore_18 : decode cX12_restore 18 = .ok (.iconst 0, 1) := by decide +kernel
theorem dX12_restore_19 : decode cX12_restore 19 = .ok (.ireturn, 1) := by decide +kernel
theorem dX12_restore_20 : decode cX12_restore 20 = .ok (.aload_n 0, 1) := by decide +kernel
theorem dX12_restore_21 : decode cX12_restore 21 = .ok (.getfield 28, 3) := by decide +kernel
theorem dX12_restore_24 : decode cX12_restore 24 = .ok (.aload_n 0, 1) := by decide +kernel
theorem dX12_restore_25 : decode cX12_restore 25 = .ok (.getfield 95, 3) := by decide +kernel
theorem dX12_restore_28 : decode cX12_restore 28 = .ok (.iload_n 1, 1) := by decide +kernel
theorem dX12_restore_29 : decode cX12_restore 29 = .ok (.aaload, 1) := by decide +kernel
theorem dX12_restore_30 : decode cX12_restore 30 = .ok (.invokevirtual 144, 3) := by decide +kernel
theorem dX12_restore_33 : decode cX12_restore 33 = .ok (.aload_n 0, 1) := by decide +kernel
theorem dX12_restore_34 : decode cX12_restore 34 = .ok (.getfield 40, 3) := by decide +kernel
theorem dX12_restore_37 : decode cX12_restore 37 = .ok (.aload_n 0, 1) := by decide +kernel
theorem dX12_restore_38 : decode cX12_restore 38 = .ok (.getfield 99, 3) := by decide +kernel
theorem dX12_restore_41 : decode cX12_restore 41 = .ok (.iload_n 1, 1) := by decide +kernel
theorem dX12_restore_42 : decode cX12_restore 42 = .ok (.aaload, 1) := by decide +kernel
theorem dX12_restore_43 : decode cX12_restore 43 = .ok (.invokevirtual 233, 3) := by decide +kernel
theorem dX12_restore_46 : decode cX12_restore 46 = .ok (.aload_n 0, 1) := by decide +kernel
theorem dX12_restore_47 : decode cX12_restore 47 = .ok (.getfield 60, 3) := by decide +kernel
theorem dX12_restore_50 : decode cX12_restore 50 = .ok (.aload_n 0, 1) := by decide +kernel
theorem dX12_restore_51 : decode cX12_restore 51 = .ok (.getfield 103, 3) := by decide +kernel
theorem dX12_restore_54 : decode cX12_restore 54 = .ok (.iload_n 1, 1) := by decide +kernel
theorem dX12_restore_55 : decode cX12_restore 55 = .ok (.aaload, 1) := by decide +kernel
theorem dX12_restore_56 : decode cX12_restore 56 = .ok (.invokevirtual 359, 3) := by decide +kernel
theorem dX12_restore_59 : decode cX12_restore 59 = .ok (.aload_n 0, 1) := by decide +kernel
theorem dX12_restore_60 : decode cX12_restore 60 = .ok (.getfield 53, 3) := by decide +kernel
theorem dX12_restore_63 : decode cX12_restore 63 = .ok (.invokevirtual 151, 3) := by decide +kernel
theorem dX12_restore_66 : decode cX12_restore 66 = .ok (.iconst 1, 1) := by decide +kernel
theorem dX12_restore_67 : decode cX12_restore 67 = .ok (.ireturn, 1) := by decide +kernel
set_option maxRecDepth 100000 in
set_option maxHeartbeats 4000000 in
theorem kX12_restore {E : KE} {l : Launch} (hE : mx_ok E) (i1 : Int32) (hT : xOK E) (M : MM) {q : (Bool × MM)} (hf : fX12_restore i1 M = some q) : mx_Met E l yX12_restore cX12_restore 2 (some .boolean) 2 [.ref (E.2.1.2.1 0), .int i1] M (some (.int (mx_b q.1))) q.2 := by
  refine mx_enter hE (by decide) (Nat.le_of_ble_eq_true rfl) ?_
  intro p e s m below meth c C hM hn ls hl
  have hx := C.1.1
  have hb := C.1.2.1
  have hown := C.1.2.2.2.1
  have hts := C.1.2.2.2.2
  have hl : lv_has ls 2 [(0, .ref (E.2.1.2.1 0)), (1, .int i1)] := hl
  rw [fX12_restore] at hf
  refine lv_iload_n hx hb dX12_restore_0 rfl (lv_at hl 1 rfl) ?_
  refine lv_if_lt (tgt := 18) hx hb dX12_restore_1 (by decide) (fun hc1 => ?_) (fun hc1 => ?_)
  · replace hf := mx_ift hc1 hf
    refine lv_iconst (v := (0 : Int32)) hx hb dX12_restore_18 (by decide) ?_
    exact mx_zret C hM (b := false) rfl hf dX12_restore_19
  · replace hf := mx_iff hc1 hf
    refine lv_iload_n hx hb dX12_restore_4 rfl (lv_at hl 1 rfl) ?_
    refine lv_iconst (v := (2 : Int32)) hx hb dX12_restore_5 (by decide) ?_
    refine lv_icmp_ge (tgt := 18) hx hb dX12_restore_6 (by decide) (fun hc6 => ?_) (fun hc6 => ?_)
    · replace hf := mx_ift hc6 hf
      refine lv_iconst (v := (0 : Int32)) hx hb dX12_restore_18 (by decide) ?_
      exact mx_zret C hM (b := false) rfl hf dX12_restore_19
    · replace hf := mx_iff hc6 hf
      refine lv_aload_n hx hb dX12_restore_9 rfl (lv_at hl 0 rfl) ?_
      refine gX12_107 C hM (xt_0 hT) (f := (2, 157)) rfl (v := .ref (E.2.1.2.1 157)) rfl dX12_restore_10 ?_
      refine lv_iload_n hx hb dX12_restore_13 rfl (lv_at hl 1 rfl) ?_
      obtain ⟨hg14, hf⟩ := mx_gd hf
      refine mx_zald C hM (xt_157 hT) (mx_in_vp hg14) dX12_restore_14 ?_
      refine lv_if_ne (tgt := 20) hx hb dX12_restore_15 (by decide) (fun hc15 => ?_) (fun hc15 => ?_)
      · replace hf := mx_iff hc15 hf
        refine lv_aload_n hx hb dX12_restore_20 rfl (lv_at hl 0 rfl) ?_
        refine gX12_28 C hM (xt_0 hT) (f := (2, 9)) rfl (v := .ref (E.2.1.2.1 9)) rfl dX12_restore_21 ?_
        refine lv_aload_n hx hb dX12_restore_24 rfl (lv_at hl 0 rfl) ?_
        refine gX12_95 C hM (xt_0 hT) (f := (2, 154)) rfl (v := .ref (E.2.1.2.1 154)) rfl dX12_restore_25 ?_
        refine lv_iload_n hx hb dX12_restore_28 rfl (lv_at hl 1 rfl) ?_
        obtain ⟨hg29, hf⟩ := mx_gd hf
        refine mx_aald5 C hM (xt_154 hT) (mx_in_vp hg29) dX12_restore_29 ?_
        obtain ⟨hr30_0, hf⟩ := mx_gd hf
        obtain ⟨q30, hq30, hf⟩ := mx_bd hf
        refine mx_callVN C hM hl.1 yo_X3_copyFrom (h' := 1) (by decide) (nw_626 hT C) qw_628 qs_28 (ci := 3) (q := (RX3, TX3, 18)) rfl (xt_9 hT) (As := [.ref (E.2.1.2.1 (M.2.2 154 i1.toNatClampNeg))]) (rest := []) (st1 := []) (kX3_copyFrom C.2.2.2.1 9 (M.2.2 154 i1.toNatClampNeg) hT xiI_9 hr30_0 M hq30) rfl rfl rfl (Nat.le_of_ble_eq_true rfl) dX12_restore_30 (fun H locs hM => ?_)
        refine lv_aload_n hx hb dX12_restore_33 rfl (lv_at hl 0 rfl) ?_
        refine gX12_40 C hM (xt_0 hT) (f := (2, 29)) rfl (v := .ref (E.2.1.2.1 29)) rfl dX12_restore_34 ?_
        refine lv_aload_n hx hb dX12_restore_37 rfl (lv_at hl 0 rfl) ?_
        refine gX12_99 C hM (xt_0 hT) (f := (2, 155)) rfl (v := .ref (E.2.1.2.1 155)) rfl dX12_restore_38 ?_
        refine lv_iload_n hx hb dX12_restore_41 rfl (lv_at hl 1 rfl) ?_
        obtain ⟨hg42, hf⟩ := mx_gd hf
        refine mx_aald4 C hM (xt_155 hT) (mx_in_vp hg42) dX12_restore_42 ?_
        obtain ⟨hr43_0, hf⟩ := mx_gd hf
        obtain ⟨q43, hq43, hf⟩ := mx_bd hf
        refine mx_callVN C hM hl.1 yo_X9_copyFrom (h' := 1) (by decide) (nw_692 hT C) qw_694 qs_39 (ci := 9) (q := (RX9, TX9, 13)) rfl (xt_29 hT) (As := [.ref (E.2.1.2.1 (q30.2.2 155 i1.toNatClampNeg))]) (rest := []) (st1 := []) (kX9_copyFrom C.2.2.2.1 29 (q30.2.2 155 i1.toNatClampNeg) hT xiS_29 hr43_0 q30 hq43) rfl rfl rfl (Nat.le_of_ble_eq_true rfl) dX12_restore_43 (fun H locs hM => ?_)
        refine lv_aload_n hx hb dX12_restore_46 rfl (lv_at hl 0 rfl) ?_
        refine gX12_60 C hM (xt_0 hT) (f := (2, 130)) rfl (v := .ref (E.2.1.2.1 130)) rfl dX12_restore_47 ?_
        refine lv_aload_n hx hb dX12_restore_50 rfl (lv_at hl 0 rfl) ?_
        refine gX12_103 C hM (xt_0 hT) (f := (2, 156)) rfl (v := .ref (E.2.1.2.1 156)) rfl dX12_restore_51 ?_
        refine lv_iload_n hx hb dX12_restore_54 rfl (lv_at hl 1 rfl) ?_
        obtain ⟨hg55, hf⟩ := mx_gd hf
        refine mx_aald6 C hM (xt_156 hT) (mx_in_vp hg55) dX12_restore_55 ?_
        obtain ⟨hr56_0, hf⟩ := mx_gd hf
        obtain ⟨q56, hq56, hf⟩ := mx_bd hf
        refine mx_callVN C hM hl.1 yo_X8_copyFrom (h' := 1) (by decide) (nw_1213 hT C) qw_1215 qs_103 (ci := 8) (q := (RX8, TX8, 5)) rfl (xt_130 hT) (As := [.ref (E.2.1.2.1 (q43.2.2 156 i1.toNatClampNeg))]) (rest := []) (st1 := []) (kX8_copyFrom C.2.2.2.1 130 (q43.2.2 156 i1.toNatClampNeg) hT xiN_130 hr56_0 q43 hq56) rfl rfl rfl (Nat.le_of_ble_eq_true rfl) dX12_restore_56 (fun H locs hM => ?_)
        refine lv_aload_n hx hb dX12_restore_59 rfl (lv_at hl 0 rfl) ?_
        refine gX12_53 C hM (xt_0 hT) (f := (2, 56)) rfl (v := .ref (E.2.1.2.1 56)) rfl dX12_restore_60 ?_
        obtain ⟨q63, hq63, hf⟩ := mx_bd hf
        refine mx_callVN C hM hl.1 yo_X5_clear (h' := 0) (by decide) (nw_645 hT C) qw_647 qs_32 (ci := 5) (q := (RX5, TX5, 2)) rfl (xt_56 hT) (As := []) (rest := []) (st1 := []) (kX5_clear C.2.2.2.1 hT q56 hq63) rfl rfl rfl (Nat.le_of_ble_eq_true rfl) dX12_restore_63 (fun H locs hM => ?_)
        refine lv_iconst (v := (1 : Int32)) hx hb dX12_restore_66 (by decide) ?_
        exact mx_zret C hM (b := true) rfl hf dX12_restore_67
      · replace hf := mx_ift hc15 hf
        refine lv_iconst (v := (0 : Int32)) hx hb dX12_restore_18 (by decide) ?_
        exact mx_zret C hM (b := false) rfl hf dX12_restore_19
theorem dX12_count_0 : decode cX12_count 0 = .ok (.iload_n 1, 1) := by decide +kernel
theorem dX12_count_1 : decode cX12_count 1 = .ok (.tableswitch 87 0 5 #[39, 47, 55, 63, 71, 79], 39) := by decide +kernel
theorem dX12_count_40 : decode cX12_count 40 = .ok (.aload_n 0, 1) := by decide +kernel
theorem dX12_count_41 : decode cX12_count 41 = .ok (.getfield 28, 3) := by decide +kernel
theorem dX12_count_44 : decode cX12_count 44 = .ok (.getfield 365, 3) := by decide +kernel
theorem dX12_count_47 : decode cX12_count 47 = .ok (.ireturn, 1) := by decide +kernel
theorem dX12_count_48 : decode cX12_count 48 = .ok (.aload_n 0, 1) := by decide +kernel
theorem dX12_count_49 : decode cX12_count 49 = .ok (.getfield 28, 3) := by decide +kernel
theorem dX12_count_52 : decode cX12_count 52 = .ok (.getfield 269, 3) := by decide +kernel
theorem dX12_count_55 : decode cX12_count 55 = .ok (.ireturn, 1) := by decide +kernel
theorem dX12_count_56 : decode cX12_count 56 = .ok (.aload_n 0, 1) := by decide +kernel
theorem dX12_count_57 : decode cX12_count 57 = .ok (.getfield 28, 3) := by decide +kernel
theorem dX12_count_60 : decode cX12_count 60 = .ok (.getfield 372, 3) := by decide +kernel
theorem dX12_count_63 : decode cX12_count 63 = .ok (.ireturn, 1) := by decide +kernel
theorem dX12_count_64 : decode cX12_count 64 = .ok (.aload_n 0, 1) := by decide +kernel
theorem dX12_count_65 : decode cX12_count 65 = .ok (.getfield 28, 3) := by decide +kernel
theorem dX12_count_68 : decode cX12_count 68 = .ok (.getfield 375, 3) := by decide +kernel
theorem dX12_count_71 : decode cX12_count 71 = .ok (.ireturn, 1) := by decide +kernel
theorem dX12_count_72 : decode cX12_count 72 = .ok (.aload_n 0, 1) := by decide +kernel
theorem dX12_count_73 : decode cX12_count 73 = .ok (.getfield 28, 3) := by decide +kernel
theorem dX12_count_76 : decode cX12_count 76 = .ok (.getfield 378, 3) := by decide +kernel
theorem dX12_count_79 : decode cX12_count 79 = .ok (.ireturn, 1) := by decide +kernel
theorem dX12_count_80 : decode cX12_count 80 = .ok (.aload_n 0, 1) := by decide +kernel
theorem dX12_count_81 : decode cX12_count 81 = .ok (.getfield 10, 3) := by decide +kernel
theorem dX12_count_84 : decode cX12_count 84 = .ok (.getfield 119, 3) := by decide +kernel
theorem dX12_count_87 : decode cX12_count 87 = .ok (.ireturn, 1) := by decide +kernel
theorem dX12_count_88 : decode cX12_count 88 = .ok (.iconst (-1), 1) := by decide +kernel
theorem dX12_count_89 : decode cX12_count 89 = .ok (.ireturn, 1) := by decide +kernel
set_option maxRecDepth 100000 in
set_option maxHeartbeats 4000000 in
theorem kX12_count {E : KE} {l : Launch} (hE : mx_ok E) (i1 : Int32) (hT : xOK E) (M : MM) {q : Int32} (hf : fX12_count i1 M = some q) : mx_Met E l yX12_count cX12_count 2 (some .int) 0 [.ref (E.2.1.2.1 0), .int i1] M (some (.int q)) M := by
  refine mx_enter hE (by decide) (Nat.le_of_ble_eq_true rfl) ?_
  intro p e s m below meth c C hM hn ls hl
  have hx := C.1.1
  have hb := C.1.2.1
  have hown := C.1.2.2.2.1
  have hts := C.1.2.2.2.2
  have hl : lv_has ls 2 [(0, .ref (E.2.1.2.1 0)), (1, .int i1)] := hl
  rw [fX12_count] at hf
  refine lv_iload_n hx hb dX12_count_0 rfl (lv_at hl 1 rfl) ?_
  by_cases hs0 : i1 = 0
  · replace hf := mx_ift hs0 hf
    refine lv_tableIn (tgt := 40) hx hb dX12_count_1 (by rw [hs0]; decide) (by rw [hs0]; decide) (by rw [hs0]; rfl) (by decide) ?_
    refine lv_aload_n hx hb dX12_count_40 rfl (lv_at hl 0 rfl) ?_
    refine gX12_28 C hM (xt_0 hT) (f := (2, 9)) rfl (v := .ref (E.2.1.2.1 9)) rfl dX12_count_41 ?_
    refine gX12_365 C hT hM (xt_9 hT) (f := (0, 0)) rfl (v := .int (M.1 9 0)) rfl dX12_count_44 ?_
    exact mx_iretR C hM hf dX12_count_47
  replace hf := mx_iff hs0 hf
  by_cases hs1 : i1 = 1
  · replace hf := mx_ift hs1 hf
    refine lv_tableIn (tgt := 48) hx hb dX12_count_1 (by rw [hs1]; decide) (by rw [hs1]; decide) (by rw [hs1]; rfl) (by decide) ?_
    refine lv_aload_n hx hb dX12_count_48 rfl (lv_at hl 0 rfl) ?_
    refine gX12_28 C hM (xt_0 hT) (f := (2, 9)) rfl (v := .ref (E.2.1.2.1 9)) rfl dX12_count_49 ?_
    refine gX12_269 C hT hM (xt_9 hT) (f := (0, 0)) rfl (v := .int (M.1 9 1)) rfl dX12_count_52 ?_
    exact mx_iretR C hM hf dX12_count_55
  replace hf := mx_iff hs1 hf
  by_cases hs2 : i1 = 2
  · replace hf := mx_ift hs2 hf
    refine lv_tableIn (tgt := 56) hx hb dX12_count_1 (by rw [hs2]; decide) (by rw [hs2]; decide) (by rw [hs2]; rfl) (by decide) ?_
    refine lv_aload_n hx hb dX12_count_56 rfl (lv_at hl 0 rfl) ?_
    refine gX12_28 C hM (xt_0 hT) (f := (2, 9)) rfl (v := .ref (E.2.1.2.1 9)) rfl dX12_count_57 ?_
    refine gX12_372 C hT hM (xt_9 hT) (f := (0, 0)) rfl (v := .int (M.1 9 11)) rfl dX12_count_60 ?_
    exact mx_iretR C hM hf dX12_count_63
  replace hf := mx_iff hs2 hf
  by_cases hs3 : i1 = 3
  · replace hf := mx_ift hs3 hf
    refine lv_tableIn (tgt := 64) hx hb dX12_count_1 (by rw [hs3]; decide) (by rw [hs3]; decide) (by rw [hs3]; rfl) (by decide) ?_
    refine lv_aload_n hx hb dX12_count_64 rfl (lv_at hl 0 rfl) ?_
    refine gX12_28 C hM (xt_0 hT) (f := (2, 9)) rfl (v := .ref (E.2.1.2.1 9)) rfl dX12_count_65 ?_
    refine gX12_375 C hT hM (xt_9 hT) (f := (0, 0)) rfl (v := .int (M.1 9 12)) rfl dX12_count_68 ?_
    exact mx_iretR C hM hf dX12_count_71
  replace hf := mx_iff hs3 hf
  by_cases hs4 : i1 = 4
  · replace hf := mx_ift hs4 hf
    refine lv_tableIn (tgt := 72) hx hb dX12_count_1 (by rw [hs4]; decide) (by rw [hs4]; decide) (by rw [hs4]; rfl) (by decide) ?_
    refine lv_aload_n hx hb dX12_count_72 rfl (lv_at hl 0 rfl) ?_
    refine gX12_28 C hM (xt_0 hT) (f := (2, 9)) rfl (v := .ref (E.2.1.2.1 9)) rfl dX12_count_73 ?_
    refine gX12_378 C hT hM (xt_9 hT) (f := (0, 0)) rfl (v := .int (M.1 9 13)) rfl dX12_count_76 ?_
    exact mx_iretR C hM hf dX12_count_79
  replace hf := mx_iff hs4 hf
  by_cases hs5 : i1 = 5
  · replace hf := mx_ift hs5 hf
    refine lv_tableIn (tgt := 80) hx hb dX12_count_1 (by rw [hs5]; decide) (by rw [hs5]; decide) (by rw [hs5]; rfl) (by decide) ?_
    refine lv_aload_n hx hb dX12_count_80 rfl (lv_at hl 0 rfl) ?_
    refine gX12_10 C hM (xt_0 hT) (f := (2, 1)) rfl (v := .ref (E.2.1.2.1 1)) rfl dX12_count_81 ?_
    refine gX12_119 C hT hM (xt_1 hT) (f := (0, 0)) rfl (v := .int (M.1 1 1)) rfl dX12_count_84 ?_
    exact mx_iretR C hM hf dX12_count_87
  replace hf := mx_iff hs5 hf
  refine lv_tableOut (tgt := 88) hx hb dX12_count_1 (by have hh := And.intro trivial trivial; have hh0 := lv_neT hs0 (by decide : (0 : Int32).toInt = 0); have hh1 := lv_neT hs1 (by decide : (1 : Int32).toInt = 1); have hh2 := lv_neT hs2 (by decide : (2 : Int32).toInt = 2); have hh3 := lv_neT hs3 (by decide : (3 : Int32).toInt = 3); have hh4 := lv_neT hs4 (by decide : (4 : Int32).toInt = 4); have hh5 := lv_neT hs5 (by decide : (5 : Int32).toInt = 5); omega) (by decide) ?_
  refine lv_iconst (v := (-1 : Int32)) hx hb dX12_count_88 (by decide) ?_
  exact mx_iretR C hM hf dX12_count_89
