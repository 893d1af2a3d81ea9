theorem dX13_said_0 : decode cX13_said 0 = .ok (.aload_n 0, 1) := by decide +kernel
theorem dX13_said_1 : decode cX13_said 1 = .ok (.iconst 0, 1) := by decide +kernel
theorem dX13_said_2 : decode cX13_said 2 = .ok (.putfield 1, 3) := by decide +kernel
theorem dX13_said_5 : decode cX13_said 5 = .ok (.aload_n 0, 1) := by decide +kernel
theorem dX13_said_6 : decode cX13_said 6 = .ok (.getfield 33, 3) := by decide +kernel
theorem dX13_said_9 : decode cX13_said 9 = .ok (.bipush 113, 2) := by decide +kernel
theorem dX13_said_11 : decode cX13_said 11 = .ok (.iaload, 1) := by decide +kernel
theorem dX13_said_12 : decode cX13_said 12 = .ok (.ifCond .eq 8, 3) := by decide +kernel
theorem dX13_said_15 : decode cX13_said 15 = .ok (.iload_n 1, 1) := by decide +kernel
theorem dX13_said_16 : decode cX13_said 16 = .ok (.iconst (-1), 1) := by decide +kernel
theorem dX13_said_17 : decode cX13_said 17 = .ok (.if_icmp .ge 5, 3) := by decide +kernel
theorem dX13_said_20 : decode cX13_said 20 = .ok (.iconst (-1), 1) := by decide +kernel
theorem dX13_said_21 : decode cX13_said 21 = .ok (.ireturn, 1) := by decide +kernel
theorem dX13_said_22 : decode cX13_said 22 = .ok (.iconst 0, 1) := by decide +kernel
theorem dX13_said_23 : decode cX13_said 23 = .ok (.istore_n 2, 1) := by decide +kernel
theorem dX13_said_24 : decode cX13_said 24 = .ok (.iconst 0, 1) := by decide +kernel
theorem dX13_said_25 : decode cX13_said 25 = .ok (.istore_n 3, 1) := by decide +kernel
theorem dX13_said_26 : decode cX13_said 26 = .ok (.iload_n 3, 1) := by decide +kernel
theorem dX13_said_27 : decode cX13_said 27 = .ok (.aload_n 0, 1) := by decide +kernel
theorem dX13_said_28 : decode cX13_said 28 = .ok (.getfield 33, 3) := by decide +kernel
theorem dX13_said_31 : decode cX13_said 31 = .ok (.iconst 0, 1) := by decide +kernel
theorem dX13_said_32 : decode cX13_said 32 = .ok (.iaload, 1) := by decide +kernel
theorem dX13_said_33 : decode cX13_said 33 = .ok (.if_icmp .ge 30, 3) := by decide +kernel
theorem dX13_said_36 : decode cX13_said 36 = .ok (.aload_n 0, 1) := by decide +kernel
theorem dX13_said_37 : decode cX13_said 37 = .ok (.iload_n 3, 1) := by decide +kernel
theorem dX13_said_38 : decode cX13_said 38 = .ok (.invokevirtual 483, 3) := by decide +kernel
theorem dX13_said_41 : decode cX13_said 41 = .ok (.ifCond .ne 6, 3) := by decide +kernel
theorem dX13_said_44 : decode cX13_said 44 = .ok (.goto 13, 3) := by decide +kernel
theorem dX13_said_47 : decode cX13_said 47 = .ok (.iload_n 2, 1) := by decide +kernel
theorem dX13_said_48 : decode cX13_said 48 = .ok (.iload_n 1, 1) := by decide +kernel
theorem dX13_said_49 : decode cX13_said 49 = .ok (.if_icmp .ne 5, 3) := by decide +kernel
theorem dX13_said_52 : decode cX13_said 52 = .ok (.iload_n 3, 1) := by decide +kernel
theorem dX13_said_53 : decode cX13_said 53 = .ok (.ireturn, 1) := by decide +kernel
theorem dX13_said_54 : decode cX13_said 54 = .ok (.iinc 2 1, 3) := by decide +kernel
theorem dX13_said_57 : decode cX13_said 57 = .ok (.iinc 3 1, 3) := by decide +kernel
theorem dX13_said_60 : decode cX13_said 60 = .ok (.goto (-34), 3) := by decide +kernel
theorem dX13_said_63 : decode cX13_said 63 = .ok (.iload_n 1, 1) := by decide +kernel
theorem dX13_said_64 : decode cX13_said 64 = .ok (.iconst (-1), 1) := by decide +kernel
theorem dX13_said_65 : decode cX13_said 65 = .ok (.if_icmp .ne 7, 3) := by decide +kernel
theorem dX13_said_68 : decode cX13_said 68 = .ok (.iload_n 2, 1) := by decide +kernel
theorem dX13_said_69 : decode cX13_said 69 = .ok (.goto 4, 3) := by decide +kernel
theorem dX13_said_72 : decode cX13_said 72 = .ok (.iconst (-1), 1) := by decide +kernel
theorem dX13_said_73 : decode cX13_said 73 = .ok (.ireturn, 1) := by decide +kernel
set_option maxRecDepth 100000 in
set_option maxHeartbeats 4000000 in
theorem wfX13_said_26 {E : KE} {p : Program} {l : Launch} {e : Env} {s : State} {m : MethodId} {args : Array Value} {below : List Frame} {meth : Method} {c : Code} {q : (Int32 × MM)} (C : mx_C E p m c cX13_said 4 s args RX13 meth (some .int)) (i1 : Int32) (hT : E.1 = mt)   : ∀ (n : Nat) (i2 : Int32) (i3 : Int32) (M : MM) (H : Heap) (locs : List Loc) (ls : Array Slot), fX13_said_26 i1 n i2 i3 M = some q → mx_H E s M H locs → lv_has ls 4 [(0, .ref (E.2.1.2.1 0)), (1, .int i1), (2, .int i2), (3, .int i3)] → W p l e (mx_rm 5) s m args below meth c H locs 0 0 (mx_Z E below args s (some (.int q.1)) q.2) (F0 m 26 ls []) := by
  have hx := C.1.1
  have hb := C.1.2.1
  have hown := C.1.2.2.2.1
  have hts := C.1.2.2.2.2
  intro n
  induction n with
  | zero =>
    intro i2 i3 M H locs ls hf hM hl
    rw [fX13_said_26] at hf
    cases hf
  | succ n ih =>
    intro i2 i3 M H locs ls hf hM hl
    rw [fX13_said_26] at hf
    refine lv_iload_n hx hb dX13_said_26 rfl (lv_at hl 3 rfl) ?_
    refine lv_aload_n hx hb dX13_said_27 rfl (lv_at hl 0 rfl) ?_
    refine g13_33 C hT hM dX13_said_28 ?_
    refine lv_iconst (v := (0 : Int32)) hx hb dX13_said_31 (by decide) ?_
    refine mx_ialdL C hM (mt_2 hT) (j := 0) (by decide) (mx_in_vp (by decide)) dX13_said_32 ?_
    refine lv_icmp_ge (tgt := 63) hx hb dX13_said_33 (by decide) (fun hc33 => ?_) (fun hc33 => ?_)
    · replace hf := mx_ift hc33 hf
      refine lv_iload_n hx hb dX13_said_63 rfl (lv_at hl 1 rfl) ?_
      refine lv_iconst (v := (-1 : Int32)) hx hb dX13_said_64 (by decide) ?_
      refine lv_icmp_ne (tgt := 72) hx hb dX13_said_65 (by decide) (fun hc65 => ?_) (fun hc65 => ?_)
      · replace hf := mx_iff hc65 hf
        refine lv_iconst (v := (-1 : Int32)) hx hb dX13_said_72 (by decide) ?_
        exact mx_iret C hM hf dX13_said_73
      · replace hf := mx_ift hc65 hf
        refine lv_iload_n hx hb dX13_said_68 rfl (lv_at hl 2 rfl) ?_
        refine lv_goto (tgt := 73) hx hb dX13_said_69 (by decide) ?_
        exact mx_iret C hM hf dX13_said_73
    · replace hf := mx_iff hc33 hf
      refine lv_aload_n hx hb dX13_said_36 rfl (lv_at hl 0 rfl) ?_
      refine lv_iload_n hx hb dX13_said_37 rfl (lv_at hl 3 rfl) ?_
      obtain ⟨q38, hq38, hf⟩ := mx_bd hf
      refine mx_callV C hM hl.1 yo_X13_isSaid (h' := 4) (by decide) qw_1990 qw_1992 qs_181 (ci := 13) (q := (RX13, TX13, 52)) rfl (mt_0 hT) (As := [.int i3]) (rest := []) (st1 := [.int (mx_b q38.1)]) (kX13_isSaid C.2.2.2.1 i3 hT M hq38) rfl rfl rfl (Nat.le_of_ble_eq_true rfl) dX13_said_38 (fun H locs hM => ?_)
      refine lv_if_ne (tgt := 47) hx hb dX13_said_41 (by decide) (fun hc41 => ?_) (fun hc41 => ?_)
      · replace hf := mx_iff hc41 hf
        refine lv_iload_n hx hb dX13_said_47 rfl (lv_at hl 2 rfl) ?_
        refine lv_iload_n hx hb dX13_said_48 rfl (lv_at hl 1 rfl) ?_
        refine lv_icmp_ne (tgt := 54) hx hb dX13_said_49 (by decide) (fun hc49 => ?_) (fun hc49 => ?_)
        · replace hf := mx_iff hc49 hf
          refine lv_iinc (v := (i2 + (1 : Int32))) (lv' := [(2, .int (i2 + (1 : Int32))), (0, .ref (E.2.1.2.1 0)), (1, .int i1), (3, .int i3)]) hx hb dX13_said_54 hl (k := 2) rfl rfl (by decide) rfl (fun ls hl => ?_)
          refine lv_iinc (v := (i3 + (1 : Int32))) (lv' := [(3, .int (i3 + (1 : Int32))), (2, .int (i2 + (1 : Int32))), (0, .ref (E.2.1.2.1 0)), (1, .int i1)]) hx hb dX13_said_57 hl (k := 3) rfl rfl (by decide) rfl (fun ls hl => ?_)
          refine lv_goto (tgt := 26) hx hb dX13_said_60 (by decide) ?_
          exact ih (i2 + (1 : Int32)) (i3 + (1 : Int32)) q38.2 _ _ _ hf hM (lv_sub hl [2, 3, 1, 0] rfl)
        · replace hf := mx_ift hc49 hf
          refine lv_iload_n hx hb dX13_said_52 rfl (lv_at hl 3 rfl) ?_
          exact mx_iret C hM hf dX13_said_53
      · replace hf := mx_ift hc41 hf
        refine lv_goto (tgt := 57) hx hb dX13_said_44 (by decide) ?_
        refine lv_iinc (v := (i3 + (1 : Int32))) (lv' := [(3, .int (i3 + (1 : Int32))), (0, .ref (E.2.1.2.1 0)), (1, .int i1), (2, .int i2)]) hx hb dX13_said_57 hl (k := 3) rfl rfl (by decide) rfl (fun ls hl => ?_)
        refine lv_goto (tgt := 26) hx hb dX13_said_60 (by decide) ?_
        exact ih i2 (i3 + (1 : Int32)) q38.2 _ _ _ hf hM (lv_sub hl [1, 2, 3, 0] rfl)
set_option maxRecDepth 100000 in
set_option maxHeartbeats 4000000 in
theorem kX13_said {E : KE} {l : Launch} (hE : mx_ok E) (i1 : Int32) (hT : E.1 = mt) (M : MM) {q : (Int32 × MM)} (hf : fX13_said i1 M = some q) : mx_Met E l yX13_said cX13_said 4 (some .int) 5 [.ref (E.2.1.2.1 0), .int i1] M (some (.int q.1)) q.2 := by
  refine mx_enter hE (by decide) (Nat.le_of_ble_eq_true rfl) ?_
  intro p e s m below meth c C hM hn ls hl
  have hx := C.1.1
  have hb := C.1.2.1
  have hown := C.1.2.2.2.1
  have hts := C.1.2.2.2.2
  have hl : lv_has ls 4 [(0, .ref (E.2.1.2.1 0)), (1, .int i1)] := hl
  rw [fX13_said] at hf
  refine lv_aload_n hx hb dX13_said_0 rfl (lv_at hl 0 rfl) ?_
  refine lv_iconst (v := (0 : Int32)) hx hb dX13_said_1 (by decide) ?_
  refine p13_1 C hT hM dX13_said_2 (fun H locs hM => ?_)
  refine lv_aload_n hx hb dX13_said_5 rfl (lv_at hl 0 rfl) ?_
  refine g13_33 C hT hM dX13_said_6 ?_
  refine lv_bipush (v := (113 : Int32)) hx hb dX13_said_9 (by decide) ?_
  refine mx_ialdL C hM (mt_2 hT) (j := 113) (by decide) (mx_in_vp (by decide)) dX13_said_11 ?_
  refine lv_if_eq (tgt := 20) hx hb dX13_said_12 (by decide) (fun hc12 => ?_) (fun hc12 => ?_)
  · replace hf := mx_ift hc12 hf
    refine lv_iconst (v := (-1 : Int32)) hx hb dX13_said_20 (by decide) ?_
    exact mx_iret C hM hf dX13_said_21
  · replace hf := mx_iff hc12 hf
    refine lv_iload_n hx hb dX13_said_15 rfl (lv_at hl 1 rfl) ?_
    refine lv_iconst (v := (-1 : Int32)) hx hb dX13_said_16 (by decide) ?_
    refine lv_icmp_ge (tgt := 22) hx hb dX13_said_17 (by decide) (fun hc17 => ?_) (fun hc17 => ?_)
    · replace hf := mx_ift hc17 hf
      refine lv_iconst (v := (0 : Int32)) hx hb dX13_said_22 (by decide) ?_
      refine lv_istore_n (lv' := [(2, .int (0 : Int32)), (0, .ref (E.2.1.2.1 0)), (1, .int i1)]) hx hb dX13_said_23 rfl hl (by decide) rfl (fun ls hl => ?_)
      refine lv_iconst (v := (0 : Int32)) hx hb dX13_said_24 (by decide) ?_
      refine lv_istore_n (lv' := [(3, .int (0 : Int32)), (2, .int (0 : Int32)), (0, .ref (E.2.1.2.1 0)), (1, .int i1)]) hx hb dX13_said_25 rfl hl (by decide) rfl (fun ls hl => ?_)
      exact wfX13_said_26 C i1 hT mx_fu (0 : Int32) (0 : Int32) (mx_si M 0 0 (0 : Int32)) _ _ _ hf hM (lv_sub hl [2, 3, 1, 0] rfl)
    · replace hf := mx_iff hc17 hf
      refine lv_iconst (v := (-1 : Int32)) hx hb dX13_said_20 (by decide) ?_
      exact mx_iret C hM hf dX13_said_21
theorem dX13_image_0 : decode cX13_image 0 = .ok (.aload_n 0, 1) := by decide +kernel
theorem dX13_image_1 : decode cX13_image 1 = .ok (.iconst 0, 1) := by decide +kernel
theorem dX13_image_2 : decode cX13_image 2 = .ok (.putfield 1, 3) := by decide +kernel
theorem dX13_image_5 : decode cX13_image 5 = .ok (.iload_n 1, 1) := by decide +kernel
theorem dX13_image_6 : decode cX13_image 6 = .ok (.iconst 0, 1) := by decide +kernel
theorem dX13_image_7 : decode cX13_image 7 = .ok (.iconst 1, 1) := by decide +kernel
theorem dX13_image_8 : decode cX13_image 8 = .ok (.invokestatic 193, 3) := by decide +kernel
theorem dX13_image_11 : decode cX13_image 11 = .ok (.ifCond .ne 5, 3) := by decide +kernel
theorem dX13_image_14 : decode cX13_image 14 = .ok (.iconst 0, 1) := by decide +kernel
theorem dX13_image_15 : decode cX13_image 15 = .ok (.ireturn, 1) := by decide +kernel
theorem dX13_image_16 : decode cX13_image 16 = .ok (.iconst 0, 1) := by decide +kernel
theorem dX13_image_17 : decode cX13_image 17 = .ok (.istore_n 2, 1) := by decide +kernel
theorem dX13_image_18 : decode cX13_image 18 = .ok (.iload_n 2, 1) := by decide +kernel
theorem dX13_image_19 : decode cX13_image 19 = .ok (.sipush 294, 3) := by decide +kernel
theorem dX13_image_22 : decode cX13_image 22 = .ok (.if_icmp .ge 27, 3) := by decide +kernel
theorem dX13_image_25 : decode cX13_image 25 = .ok (.aload_n 0, 1) := by decide +kernel
theorem dX13_image_26 : decode cX13_image 26 = .ok (.getfield 93, 3) := by decide +kernel
theorem dX13_image_29 : decode cX13_image 29 = .ok (.sipush 294, 3) := by decide +kernel
theorem dX13_image_32 : decode cX13_image 32 = .ok (.iload_n 1, 1) := by decide +kernel
theorem dX13_image_33 : decode cX13_image 33 = .ok (.imul, 1) := by decide +kernel
theorem dX13_image_34 : decode cX13_image 34 = .ok (.iload_n 2, 1) := by decide +kernel
theorem dX13_image_35 : decode cX13_image 35 = .ok (.iadd, 1) := by decide +kernel
theorem dX13_image_36 : decode cX13_image 36 = .ok (.aload_n 0, 1) := by decide +kernel
theorem dX13_image_37 : decode cX13_image 37 = .ok (.getfield 33, 3) := by decide +kernel
theorem dX13_image_40 : decode cX13_image 40 = .ok (.iload_n 2, 1) := by decide +kernel
theorem dX13_image_41 : decode cX13_image 41 = .ok (.iaload, 1) := by decide +kernel
theorem dX13_image_42 : decode cX13_image 42 = .ok (.iastore, 1) := by decide +kernel
theorem dX13_image_43 : decode cX13_image 43 = .ok (.iinc 2 1, 3) := by decide +kernel
theorem dX13_image_46 : decode cX13_image 46 = .ok (.goto (-28), 3) := by decide +kernel
theorem dX13_image_49 : decode cX13_image 49 = .ok (.iconst 0, 1) := by decide +kernel
theorem dX13_image_50 : decode cX13_image 50 = .ok (.istore_n 2, 1) := by decide +kernel
theorem dX13_image_51 : decode cX13_image 51 = .ok (.iload_n 2, 1) := by decide +kernel
theorem dX13_image_52 : decode cX13_image 52 = .ok (.bipush 14, 2) := by decide +kernel
theorem dX13_image_54 : decode cX13_image 54 = .ok (.if_icmp .ge 26, 3) := by decide +kernel
theorem dX13_image_57 : decode cX13_image 57 = .ok (.aload_n 0, 1) := by decide +kernel
theorem dX13_image_58 : decode cX13_image 58 = .ok (.getfield 96, 3) := by decide +kernel
theorem dX13_image_61 : decode cX13_image 61 = .ok (.bipush 14, 2) := by decide +kernel
theorem dX13_image_63 : decode cX13_image 63 = .ok (.iload_n 1, 1) := by decide +kernel
theorem dX13_image_64 : decode cX13_image 64 = .ok (.imul, 1) := by decide +kernel
theorem dX13_image_65 : decode cX13_image 65 = .ok (.iload_n 2, 1) := by decide +kernel
theorem dX13_image_66 : decode cX13_image 66 = .ok (.iadd, 1) := by decide +kernel
theorem dX13_image_67 : decode cX13_image 67 = .ok (.aload_n 0, 1) := by decide +kernel
theorem dX13_image_68 : decode cX13_image 68 = .ok (.getfield 43, 3) := by decide +kernel
theorem dX13_image_71 : decode cX13_image 71 = .ok (.iload_n 2, 1) := by decide +kernel
theorem dX13_image_72 : decode cX13_image 72 = .ok (.laload, 1) := by decide +kernel
theorem dX13_image_73 : decode cX13_image 73 = .ok (.lastore, 1) := by decide +kernel
theorem dX13_image_74 : decode cX13_image 74 = .ok (.iinc 2 1, 3) := by decide +kernel
theorem dX13_image_77 : decode cX13_image 77 = .ok (.goto (-26), 3) := by decide +kernel
theorem dX13_image_80 : decode cX13_image 80 = .ok (.aload_n 0, 1) := by decide +kernel
theorem dX13_image_81 : decode cX13_image 81 = .ok (.getfield 99, 3) := by decide +kernel
theorem dX13_image_84 : decode cX13_image 84 = .ok (.iload_n 1, 1) := by decide +kernel
theorem dX13_image_85 : decode cX13_image 85 = .ok (.iconst 1, 1) := by decide +kernel
theorem dX13_image_86 : decode cX13_image 86 = .ok (.bastore, 1) := by decide +kernel
theorem dX13_image_87 : decode cX13_image 87 = .ok (.iconst 1, 1) := by decide +kernel
theorem dX13_image_88 : decode cX13_image 88 = .ok (.ireturn, 1) := by decide +kernel
set_option maxRecDepth 100000 in
set_option maxHeartbeats 4000000 in
theorem wfX13_image_51 {E : KE} {p : Program} {l : Launch} {e : Env} {s : State} {m : MethodId} {args : Array Value} {below : List Frame} {meth : Method} {c : Code} {q : (Bool × MM)} (C : mx_C E p m c cX13_image 3 s args RX13 meth (some .boolean)) (i1 : Int32) (hT : E.1 = mt)   : ∀ (n : Nat) (i2 : Int32) (M : MM) (H : Heap) (locs : List Loc) (ls : Array Slot), fX13_image_51 i1 n i2 M = some q → mx_H E s M H locs → lv_has ls 3 [(0, .ref (E.2.1.2.1 0)), (1, .int i1), (2, .int i2)] → W p l e (mx_rm 1) s m args below meth c H locs 0 0 (mx_Z E below args s (some (.int (mx_b q.1))) q.2) (F0 m 51 ls []) := by
  have hx := C.1.1
  have hb := C.1.2.1
  have hown := C.1.2.2.2.1
  have hts := C.1.2.2.2.2
  intro n
  induction n with
  | zero =>
    intro i2 M H locs ls hf hM hl
    rw [fX13_image_51] at hf
    cases hf
  | succ n ih =>
    intro i2 M H locs ls hf hM hl
    rw [fX13_image_51] at hf
    refine lv_iload_n hx hb dX13_image_51 rfl (lv_at hl 2 rfl) ?_
    refine lv_bipush (v := (14 : Int32)) hx hb dX13_image_52 (by decide) ?_
    refine lv_icmp_ge (tgt := 80) hx hb dX13_image_54 (by decide) (fun hc54 => ?_) (fun hc54 => ?_)
    · replace hf := mx_ift hc54 hf
      refine lv_aload_n hx hb dX13_image_80 rfl (lv_at hl 0 rfl) ?_
      refine g13_99 C hT hM dX13_image_81 ?_
      refine lv_iload_n hx hb dX13_image_84 rfl (lv_at hl 1 rfl) ?_
      refine lv_iconst (v := (1 : Int32)) hx hb dX13_image_85 (by decide) ?_
      obtain ⟨hg86, hf⟩ := mx_gd hf
      refine mx_zast C hM (mt_21 hT) (mx_in_vp hg86) dX13_image_86 (fun H locs hM => ?_)
      refine lv_iconst (v := (1 : Int32)) hx hb dX13_image_87 (by decide) ?_
      exact mx_zret C hM (b := true) rfl hf dX13_image_88
    · replace hf := mx_iff hc54 hf
      refine lv_aload_n hx hb dX13_image_57 rfl (lv_at hl 0 rfl) ?_
      refine g13_96 C hT hM dX13_image_58 ?_
      refine lv_bipush (v := (14 : Int32)) hx hb dX13_image_61 (by decide) ?_
      refine lv_iload_n hx hb dX13_image_63 rfl (lv_at hl 1 rfl) ?_
      refine lv_imul hx hb dX13_image_64 ?_
      refine lv_iload_n hx hb dX13_image_65 rfl (lv_at hl 2 rfl) ?_
      refine lv_iadd hx hb dX13_image_66 ?_
      refine lv_aload_n hx hb dX13_image_67 rfl (lv_at hl 0 rfl) ?_
      refine g13_43 C hT hM dX13_image_68 ?_
      refine lv_iload_n hx hb dX13_image_71 rfl (lv_at hl 2 rfl) ?_
      obtain ⟨hg72, hf⟩ := mx_gd hf
      refine mx_lald C hM (mt_5 hT) (mx_in_vp hg72) dX13_image_72 ?_
      obtain ⟨hg73, hf⟩ := mx_gd hf
      refine mx_last C hM (mt_20 hT) (mx_in_vp hg73) dX13_image_73 (fun H locs hM => ?_)
      refine lv_iinc (v := (i2 + (1 : Int32))) (lv' := [(2, .int (i2 + (1 : Int32))), (0, .ref (E.2.1.2.1 0)), (1, .int i1)]) hx hb dX13_image_74 hl (k := 2) rfl rfl (by decide) rfl (fun ls hl => ?_)
      refine lv_goto (tgt := 51) hx hb dX13_image_77 (by decide) ?_
      exact ih (i2 + (1 : Int32)) (mx_sl M 20 (((14 : Int32) * i1) + i2).toNatClampNeg (M.2.1 5 i2.toNatClampNeg)) _ _ _ hf hM (lv_sub hl [1, 2, 0] rfl)
set_option maxRecDepth 100000 in
set_option maxHeartbeats 4000000 in
theorem wfX13_image_18 {E : KE} {p : Program} {l : Launch} {e : Env} {s : State} {m : MethodId} {args : Array Value} {below : List Frame} {meth : Method} {c : Code} {q : (Bool × MM)} (C : mx_C E p m c cX13_image 3 s args RX13 meth (some .boolean)) (i1 : Int32) (hT : E.1 = mt)   : ∀ (n : Nat) (i2 : Int32) (M : MM) (H : Heap) (locs : List Loc) (ls : Array Slot), fX13_image_18 i1 n i2 M = some q → mx_H E s M H locs → lv_has ls 3 [(0, .ref (E.2.1.2.1 0)), (1, .int i1), (2, .int i2)] → W p l e (mx_rm 1) s m args below meth c H locs 0 0 (mx_Z E below args s (some (.int (mx_b q.1))) q.2) (F0 m 18 ls []) := by
  have hx := C.1.1
  have hb := C.1.2.1
  have hown := C.1.2.2.2.1
  have hts := C.1.2.2.2.2
  intro n
  induction n with
  | zero =>
    intro i2 M H locs ls hf hM hl
    rw [fX13_image_18] at hf
    cases hf
  | succ n ih =>
    intro i2 M H locs ls hf hM hl
    rw [fX13_image_18] at hf
    refine lv_iload_n hx hb dX13_image_18 rfl (lv_at hl 2 rfl) ?_
    refine lv_sipush (v := (294 : Int32)) hx hb dX13_image_19 (by decide) ?_
    refine lv_icmp_ge (tgt := 49) hx hb dX13_image_22 (by decide) (fun hc22 => ?_) (fun hc22 => ?_)
    · replace hf := mx_ift hc22 hf
      refine lv_iconst (v := (0 : Int32)) hx hb dX13_image_49 (by decide) ?_
      refine lv_istore_n (lv' := [(2, .int (0 : Int32)), (0, .ref (E.2.1.2.1 0)), (1, .int i1)]) hx hb dX13_image_50 rfl hl (by decide) rfl (fun ls hl => ?_)
      exact wfX13_image_51 C i1 hT mx_fu (0 : Int32) M _ _ _ hf hM (lv_sub hl [1, 2, 0] rfl)
    · replace hf := mx_iff hc22 hf
      refine lv_aload_n hx hb dX13_image_25 rfl (lv_at hl 0 rfl) ?_
      refine g13_93 C hT hM dX13_image_26 ?_
      refine lv_sipush (v := (294 : Int32)) hx hb dX13_image_29 (by decide) ?_
      refine lv_iload_n hx hb dX13_image_32 rfl (lv_at hl 1 rfl) ?_
      refine lv_imul hx hb dX13_image_33 ?_
      refine lv_iload_n hx hb dX13_image_34 rfl (lv_at hl 2 rfl) ?_
      refine lv_iadd hx hb dX13_image_35 ?_
      refine lv_aload_n hx hb dX13_image_36 rfl (lv_at hl 0 rfl) ?_
      refine g13_33 C hT hM dX13_image_37 ?_
      refine lv_iload_n hx hb dX13_image_40 rfl (lv_at hl 2 rfl) ?_
      obtain ⟨hg41, hf⟩ := mx_gd hf
      refine mx_iald C hM (mt_2 hT) (mx_in_vp hg41) dX13_image_41 ?_
      obtain ⟨hg42, hf⟩ := mx_gd hf
      refine mx_iast C hM (mt_19 hT) (mx_in_vp hg42) dX13_image_42 (fun H locs hM => ?_)
      refine lv_iinc (v := (i2 + (1 : Int32))) (lv' := [(2, .int (i2 + (1 : Int32))), (0, .ref (E.2.1.2.1 0)), (1, .int i1)]) hx hb dX13_image_43 hl (k := 2) rfl rfl (by decide) rfl (fun ls hl => ?_)
      refine lv_goto (tgt := 18) hx hb dX13_image_46 (by decide) ?_
      exact ih (i2 + (1 : Int32)) (mx_si M 19 (((294 : Int32) * i1) + i2).toNatClampNeg (M.1 2 i2.toNatClampNeg)) _ _ _ hf hM (lv_sub hl [1, 2, 0] rfl)
set_option maxRecDepth 100000 in
set_option maxHeartbeats 4000000 in
theorem kX13_image {E : KE} {l : Launch} (hE : mx_ok E) (i1 : Int32) (hT : E.1 = mt) (M : MM) {q : (Bool × MM)} (hf : fX13_image i1 M = some q) : mx_Met E l yX13_image cX13_image 3 (some .boolean) 1 [.ref (E.2.1.2.1 0), .int i1] M (some (.int (mx_b q.1))) q.2 := by
  refine mx_enter hE (by decide) (Nat.le_of_ble_eq_true rfl) ?_
  intro p e s m below meth c C hM hn ls hl
  have hx := C.1.1
  have hb := C.1.2.1
  have hown := C.1.2.2.2.1
  have hts := C.1.2.2.2.2
  have hl : lv_has ls 3 [(0, .ref (E.2.1.2.1 0)), (1, .int i1)] := hl
  rw [fX13_image] at hf
  refine lv_aload_n hx hb dX13_image_0 rfl (lv_at hl 0 rfl) ?_
  refine lv_iconst (v := (0 : Int32)) hx hb dX13_image_1 (by decide) ?_
  refine p13_1 C hT hM dX13_image_2 (fun H locs hM => ?_)
  refine lv_iload_n hx hb dX13_image_5 rfl (lv_at hl 1 rfl) ?_
  refine lv_iconst (v := (0 : Int32)) hx hb dX13_image_6 (by decide) ?_
  refine lv_iconst (v := (1 : Int32)) hx hb dX13_image_7 (by decide) ?_
  obtain ⟨q8, hq8, hf⟩ := mx_bd hf
  refine mx_callS C hM hl.1 yo_X13_isIn (h' := 0) (by decide) qw_1608 qw_1609 (As := [.int i1, .int (0 : Int32), .int (1 : Int32)]) (rest := []) (st1 := [.int (mx_b q8)]) (kX13_isIn C.2.2.2.1 i1 (0 : Int32) (1 : Int32) hT (mx_si M 0 0 (0 : Int32)) hq8) rfl rfl rfl (Nat.le_of_ble_eq_true rfl) dX13_image_8 (fun H locs hM => ?_)
  refine lv_if_ne (tgt := 16) hx hb dX13_image_11 (by decide) (fun hc11 => ?_) (fun hc11 => ?_)
  · replace hf := mx_iff hc11 hf
    refine lv_iconst (v := (0 : Int32)) hx hb dX13_image_16 (by decide) ?_
    refine lv_istore_n (lv' := [(2, .int (0 : Int32)), (0, .ref (E.2.1.2.1 0)), (1, .int i1)]) hx hb dX13_image_17 rfl hl (by decide) rfl (fun ls hl => ?_)
    exact wfX13_image_18 C i1 hT mx_fu (0 : Int32) (mx_si M 0 0 (0 : Int32)) _ _ _ hf hM (lv_sub hl [1, 2, 0] rfl)
  · replace hf := mx_ift hc11 hf
    refine lv_iconst (v := (0 : Int32)) hx hb dX13_image_14 (by decide) ?_
    exact mx_zret C hM (b := false) rfl hf dX13_image_15
theorem dX13_restore_0 : decode cX13_restore 0 = .ok (.aload_n 0, 1) := by decide +kernel
theorem dX13_restore_1 : decode cX13_restore 1 = .ok (.iconst 0, 1) := by decide +kernel
theorem dX13_restore_2 : decode cX13_restore 2 = .ok (.putfield 1, 3) := by decide +kernel
theorem dX13_restore_5 : decode cX13_restore 5 = .ok (.iload_n 1, 1) := by decide +kernel
theorem dX13_restore_6 : decode cX13_restore 6 = .ok (.iconst 0, 1) := by decide +kernel
theorem dX13_restore_7 : decode cX13_restore 7 = .ok (.iconst 1, 1) := by decide +kernel
theorem dX13_restore_8 : decode cX13_restore 8 = .ok (.invokestatic 193, 3) := by decide +kernel
theorem dX13_restore_11 : decode cX13_restore 11 = .ok (.ifCond .eq 12, 3) := by decide +kernel
theorem dX13_restore_14 : decode cX13_restore 14 = .ok (.aload_n 0, 1) := by decide +kernel
theorem dX13_restore_15 : decode cX13_restore 15 = .ok (.getfield 99, 3) := by decide +kernel
theorem dX13_restore_18 : decode cX13_restore 18 = .ok (.iload_n 1, 1) := by decide +kernel
theorem dX13_restore_19 : decode cX13_restore 19 = .ok (.baload, 1) := by decide +kernel
theorem dX13_restore_20 : decode cX13_restore 20 = .ok (.ifCond .ne 5, 3) := by decide +kernel
theorem dX13_restore_23 : decode cX13_restore 23 = .ok (.iconst 0, 1) := by decide +kernel
theorem dX13_restore_24 : decode cX13_restore 24 = .ok (.ireturn, 1) := by decide +kernel
theorem dX13_restore_25 : decode cX13_restore 25 = .ok (.iconst 0, 1) := by decide +kernel
theorem dX13_restore_26 : decode cX13_restore 26 = .ok (.istore_n 2, 1) := by decide +kernel
theorem dX13_restore_27 : decode cX13_restore 27 = .ok (.iload_n 2, 1) := by decide +kernel
theorem dX13_restore_28 : decode cX13_restore 28 = .ok (.sipush 294, 3) := by decide +kernel
theorem dX13_restore_31 : decode cX13_restore 31 = .ok (.if_icmp .ge 27, 3) := by decide +kernel
theorem dX13_restore_34 : decode cX13_restore 34 = .ok (.aload_n 0, 1) := by decide +kernel
theorem dX13_restore_35 : decode cX13_restore 35 = .ok (.getfield 33, 3) := by decide +kernel
theorem dX13_restore_38 : decode cX13_restore 38 = .ok (.iload_n 2, 1) := by decide +kernel
theorem dX13_restore_39 : decode cX13_restore 39 = .ok (.aload_n 0, 1) := by decide +kernel
theorem dX13_restore_40 : decode cX13_restore 40 = .ok (.getfield 93, 3) := by decide +kernel
theorem dX13_restore_43 : decode cX13_restore 43 = .ok (.sipush 294, 3) := by decide +kernel
theorem dX13_restore_46 : decode cX13_restore 46 = .ok (.iload_n 1, 1) := by decide +kernel
theorem dX13_restore_47 : decode cX13_restore 47 = .ok (.imul, 1) := by decide +kernel
theorem dX13_restore_48 : decode cX13_restore 48 = .ok (.iload_n 2, 1) := by decide +kernel
theorem dX13_restore_49 : decode cX13_restore 49 = .ok (.iadd, 1) := by decide +kernel
theorem dX13_restore_50 : decode cX13_restore 50 = .ok (.iaload, 1) := by decide +kernel
theorem dX13_restore_51 : decode cX13_restore 51 = .ok (.iastore, 1) := by decide +kernel
theorem dX13_restore_52 : decode cX13_restore 52 = .ok (.iinc 2 1, 3) := by decide +kernel
theorem dX13_restore_55 : decode cX13_restore 55 = .ok (.goto (-28), 3) := by decide +kernel
theorem dX13_restore_58 : decode cX13_restore 58 = .ok (.iconst 0, 1) := by decide +kernel
theorem dX13_restore_59 : decode cX13_restore 59 = .ok (.istore_n 2, 1) := by decide +kernel
theorem dX13_restore_60 : decode cX13_restore 60 = .ok (.iload_n 2, 1) := by decide +kernel
theorem dX13_restore_61 : decode cX13_restore 61 = .ok (.bipush 14, 2) := by decide +kernel
theorem dX13_restore_63 : decode cX13_restore 63 = .ok (.if_icmp .ge 26, 3) := by decide +kernel
theorem dX13_restore_66 : decode cX13_restore 66 = .ok (.aload_n 0, 1) := by decide +kernel
theorem dX13_restore_67 : decode cX13_restore 67 = .ok (.getfield 43, 3) := by decide +kernel
theorem dX13_restore_70 : decode cX13_restore 70 = .ok (.iload_n 2, 1) := by decide +kernel
theorem dX13_restore_71 : decode cX13_restore 71 = .ok (.aload_n 0, 1) := by decide +kernel
theorem dX13_restore_72 : decode cX13_restore 72 = .ok (.getfield 96, 3) := by decide +kernel
theorem dX13_restore_75 : decode cX13_restore 75 = .ok (.bipush 14, 2) := by decide +kernel
theorem dX13_restore_77 : decode cX13_restore 77 = .ok (.iload_n 1, 1) := by decide +kernel
theorem dX13_restore_78 : decode cX13_restore 78 = .ok (.imul, 1) := by decide +kernel
theorem dX13_restore_79 : decode cX13_restore 79 = .ok (.iload_n 2, 1) := by decide +kernel
theorem dX13_restore_80 : decode cX13_restore 80 = .ok (.iadd, 1) := by decide +kernel
theorem dX13_restore_81 : decode cX13_restore 81 = .ok (.laload, 1) := by decide +kernel
theorem dX13_restore_82 : decode cX13_restore 82 = .ok (.lastore, 1) := by decide +kernel
theorem dX13_restore_83 : decode cX13_restore 83 = .ok (.iinc 2 1, 3) := by decide +kernel
theorem dX13_restore_86 : decode cX13_restore 86 = .ok (.goto (-26), 3) := by decide +kernel
theorem dX13_restore_89 : decode cX13_restore 89 = .ok (.aload_n 0, 1) := by decide +kernel
theorem dX13_restore_90 : decode cX13_restore 90 = .ok (.iconst 0, 1) := by decide +kernel
theorem dX13_restore_91 : decode cX13_restore 91 = .ok (.putfield 256, 3) := by decide +kernel
theorem dX13_restore_94 : decode cX13_restore 94 = .ok (.iconst 1, 1) := by decide +kernel
theorem dX13_restore_95 : decode cX13_restore 95 = .ok (.ireturn, 1) := by decide +kernel
set_option maxRecDepth 100000 in
set_option maxHeartbeats 4000000 in
theorem wfX13_restore_60 {E : KE} {p : Program} {l : Launch} {e : Env} {s : State} {m : MethodId} {args : Array Value} {below : List Frame} {meth : Method} {c : Code} {q : (Bool × MM)} (C : mx_C E p m c cX13_restore 3 s args RX13 meth (some .boolean)) (i1 : Int32) (hT : E.1 = mt)   : ∀ (n : Nat) (i2 : Int32) (M : MM) (H : Heap) (locs : List Loc) (ls : Array Slot), fX13_restore_60 i1 n i2 M = some q → mx_H E s M H locs → lv_has ls 3 [(0, .ref (E.2.1.2.1 0)), (1, .int i1), (2, .int i2)] → W p l e (mx_rm 1) s m args below meth c H locs 0 0 (mx_Z E below args s (some (.int (mx_b q.1))) q.2) (F0 m 60 ls []) := by
  have hx := C.1.1
  have hb := C.1.2.1
  have hown := C.1.2.2.2.1
  have hts := C.1.2.2.2.2
  intro n
  induction n with
  | zero =>
    intro i2 M H locs ls hf hM hl
    rw [fX13_restore_60] at hf
    cases hf
  | succ n ih =>
    intro i2 M H locs ls hf hM hl
    rw [fX13_restore_60] at hf
    refine lv_iload_n hx hb dX13_restore_60 rfl (lv_at hl 2 rfl) ?_
    refine lv_bipush (v := (14 : Int32)) hx hb dX13_restore_61 (by decide) ?_
    refine lv_icmp_ge (tgt := 89) hx hb dX13_restore_63 (by decide) (fun hc63 => ?_) (fun hc63 => ?_)
    · replace hf := mx_ift hc63 hf
      refine lv_aload_n hx hb dX13_restore_89 rfl (lv_at hl 0 rfl) ?_
      refine lv_iconst (v := (0 : Int32)) hx hb dX13_restore_90 (by decide) ?_
      refine p13_256 C hT hM dX13_restore_91 (fun H locs hM => ?_)
      refine lv_iconst (v := (1 : Int32)) hx hb dX13_restore_94 (by decide) ?_
      exact mx_zret C hM (b := true) rfl hf dX13_restore_95
    · replace hf := mx_iff hc63 hf
      refine lv_aload_n hx hb dX13_restore_66 rfl (lv_at hl 0 rfl) ?_
      refine g13_43 C hT hM dX13_restore_67 ?_
      refine lv_iload_n hx hb dX13_restore_70 rfl (lv_at hl 2 rfl) ?_
      refine lv_aload_n hx hb dX13_restore_71 rfl (lv_at hl 0 rfl) ?_
      refine g13_96 C hT hM dX13_restore_72 ?_
      refine lv_bipush (v := (14 : Int32)) hx hb dX13_restore_75 (by decide) ?_
      refine lv_iload_n hx hb dX13_restore_77 rfl (lv_at hl 1 rfl) ?_
      refine lv_imul hx hb dX13_restore_78 ?_
      refine lv_iload_n hx hb dX13_restore_79 rfl (lv_at hl 2 rfl) ?_
      refine lv_iadd hx hb dX13_restore_80 ?_
      obtain ⟨hg81, hf⟩ := mx_gd hf
      refine mx_lald C hM (mt_20 hT) (mx_in_vp hg81) dX13_restore_81 ?_
      obtain ⟨hg82, hf⟩ := mx_gd hf
      refine mx_last C hM (mt_5 hT) (mx_in_vp hg82) dX13_restore_82 (fun H locs hM => ?_)
      refine lv_iinc (v := (i2 + (1 : Int32))) (lv' := [(2, .int (i2 + (1 : Int32))), (0, .ref (E.2.1.2.1 0)), (1, .int i1)]) hx hb dX13_restore_83 hl (k := 2) rfl rfl (by decide) rfl (fun ls hl => ?_)
      refine lv_goto (tgt := 60) hx hb dX13_restore_86 (by decide) ?_
      exact ih (i2 + (1 : Int32)) (mx_sl M 5 i2.toNatClampNeg (M.2.1 20 (((14 : Int32) * i1) + i2).toNatClampNeg)) _ _ _ hf hM (lv_sub hl [1, 2, 0] rfl)
set_option maxRecDepth 100000 in
set_option maxHeartbeats 4000000 in
theorem wfX13_restore_27 {E : KE} {p : Program} {l : Launch} {e : Env} {s : State} {m : MethodId} {args : Array Value} {below : List Frame} {meth : Method} {c : Code} {q : (Bool × MM)} (C : mx_C E p m c cX13_restore 3 s args RX13 meth (some .boolean)) (i1 : Int32) (hT : E.1 = mt)   : ∀ (n : Nat) (i2 : Int32) (M : MM) (H : Heap) (locs : List Loc) (ls : Array Slot), fX13_restore_27 i1 n i2 M = some q → mx_H E s M H locs → lv_has ls 3 [(0, .ref (E.2.1.2.1 0)), (1, .int i1), (2, .int i2)] → W p l e (mx_rm 1) s m args below meth c H locs 0 0 (mx_Z E below args s (some (.int (mx_b q.1))) q.2) (F0 m 27 ls []) := by
  have hx := C.1.1
  have hb := C.1.2.1
  have hown := C.1.2.2.2.1
  have hts := C.1.2.2.2.2
  intro n
  induction n with
  | zero =>
    intro i2 M H locs ls hf hM hl
    rw [fX13_restore_27] at hf
    cases hf
  | succ n ih =>
    intro i2 M H locs ls hf hM hl
    rw [fX13_restore_27] at hf
    refine lv_iload_n hx hb dX13_restore_27 rfl (lv_at hl 2 rfl) ?_
    refine lv_sipush (v := (294 : Int32)) hx hb dX13_restore_28 (by decide) ?_
    refine lv_icmp_ge (tgt := 58) hx hb dX13_restore_31 (by decide) (fun hc31 => ?_) (fun hc31 => ?_)
    · replace hf := mx_ift hc31 hf
      refine lv_iconst (v := (0 : Int32)) hx hb dX13_restore_58 (by decide) ?_
      refine lv_istore_n (lv' := [(2, .int (0 : Int32)), (0, .ref (E.2.1.2.1 0)), (1, .int i1)]) hx hb dX13_restore_59 rfl hl (by decide) rfl (fun ls hl => ?_)
      exact wfX13_restore_60 C i1 hT mx_fu (0 : Int32) M _ _ _ hf hM (lv_sub hl [1, 2, 0] rfl)
    · replace hf := mx_iff hc31 hf
      refine lv_aload_n hx hb dX13_restore_34 rfl (lv_at hl 0 rfl) ?_
      refine g13_33 C hT hM dX13_restore_35 ?_
      refine lv_iload_n hx hb dX13_restore_38 rfl (lv_at hl 2 rfl) ?_
      refine lv_aload_n hx hb dX13_restore_39 rfl (lv_at hl 0 rfl) ?_
      refine g13_93 C hT hM dX13_restore_40 ?_
      refine lv_sipush (v := (294 : Int32)) hx hb dX13_restore_43 (by decide) ?_
      refine lv_iload_n hx hb dX13_restore_46 rfl (lv_at hl 1 rfl) ?_
      refine lv_imul hx hb dX13_restore_47 ?_
      refine lv_iload_n hx hb dX13_restore_48 rfl (lv_at hl 2 rfl) ?_
      refine lv_iadd hx hb dX13_restore_49 ?_
      obtain ⟨hg50, hf⟩ := mx_gd hf
      refine mx_iald C hM (mt_19 hT) (mx_in_vp hg50) dX13_restore_50 ?_
      obtain ⟨hg51, hf⟩ := mx_gd hf
      refine mx_iast C hM (mt_2 hT) (mx_in_vp hg51) dX13_restore_51 (fun H locs hM => ?_)
      refine lv_iinc (v := (i2 + (1 : Int32))) (lv' := [(2, .int (i2 + (1 : Int32))), (0, .ref (E.2.1.2.1 0)), (1, .int i1)]) hx hb dX13_restore_52 hl (k := 2) rfl rfl (by decide) rfl (fun ls hl => ?_)
      refine lv_goto (tgt := 27) hx hb dX13_restore_55 (by decide) ?_
      exact ih (i2 + (1 : Int32)) (mx_si M 2 i2.toNatClampNeg (M.1 19 (((294 : Int32) * i1) + i2).toNatClampNeg)) _ _ _ hf hM (lv_sub hl [1, 2, 0] rfl)
set_option maxRecDepth 100000 in
set_option maxHeartbeats 4000000 in
theorem kX13_restore {E : KE} {l : Launch} (hE : mx_ok E) (i1 : Int32) (hT : E.1 = mt) (M : MM) {q : (Bool × MM)} (hf : fX13_restore i1 M = some q) : mx_Met E l yX13_restore cX13_restore 3 (some .boolean) 1 [.ref (E.2.1.2.1 0), .int i1] M (some (.int (mx_b q.1))) q.2 := by
  refine mx_enter hE (by decide) (Nat.le_of_ble_eq_true rfl) ?_
  intro p e s m below meth c C hM hn ls hl
  have hx := C.1.1
  have hb := C.1.2.1
  have hown := C.1.2.2.2.1
  have hts := C.1.2.2.2.2
  have hl : lv_has ls 3 [(0, .ref (E.2.1.2.1 0)), (1, .int i1)] := hl
  rw [fX13_restore] at hf
  refine lv_aload_n hx hb dX13_restore_0 rfl (lv_at hl 0 rfl) ?_
  refine lv_iconst (v := (0 : Int32)) hx hb dX13_restore_1 (by decide) ?_
  refine p13_1 C hT hM dX13_restore_2 (fun H locs hM => ?_)
  refine lv_iload_n hx hb dX13_restore_5 rfl (lv_at hl 1 rfl) ?_
  refine lv_iconst (v := (0 : Int32)) hx hb dX13_restore_6 (by decide) ?_
  refine lv_iconst (v := (1 : Int32)) hx hb dX13_restore_7 (by decide) ?_
  obtain ⟨q8, hq8, hf⟩ := mx_bd hf
  refine mx_callS C hM hl.1 yo_X13_isIn (h' := 0) (by decide) qw_1608 qw_1609 (As := [.int i1, .int (0 : Int32), .int (1 : Int32)]) (rest := []) (st1 := [.int (mx_b q8)]) (kX13_isIn C.2.2.2.1 i1 (0 : Int32) (1 : Int32) hT (mx_si M 0 0 (0 : Int32)) hq8) rfl rfl rfl (Nat.le_of_ble_eq_true rfl) dX13_restore_8 (fun H locs hM => ?_)
  refine lv_if_eq (tgt := 23) hx hb dX13_restore_11 (by decide) (fun hc11 => ?_) (fun hc11 => ?_)
  · replace hf := mx_ift hc11 hf
    refine lv_iconst (v := (0 : Int32)) hx hb dX13_restore_23 (by decide) ?_
    exact mx_zret C hM (b := false) rfl hf dX13_restore_24
  · replace hf := mx_iff hc11 hf
    refine lv_aload_n hx hb dX13_restore_14 rfl (lv_at hl 0 rfl) ?_
    refine g13_99 C hT hM dX13_restore_15 ?_
    refine lv_iload_n hx hb dX13_restore_18 rfl (lv_at hl 1 rfl) ?_
    obtain ⟨hg19, hf⟩ := mx_gd hf
    refine mx_zald C hM (mt_21 hT) (mx_in_vp hg19) dX13_restore_19 ?_
    refine lv_if_ne (tgt := 25) hx hb dX13_restore_20 (by decide) (fun hc20 => ?_) (fun hc20 => ?_)
    · replace hf := mx_iff hc20 hf
      refine lv_iconst (v := (0 : Int32)) hx hb dX13_restore_25 (by decide) ?_
      refine lv_istore_n (lv' := [(2, .int (0 : Int32)), (0, .ref (E.2.1.2.1 0)), (1, .int i1)]) hx hb dX13_restore_26 rfl hl (by decide) rfl (fun ls hl => ?_)
      exact wfX13_restore_27 C i1 hT mx_fu (0 : Int32) (mx_si M 0 0 (0 : Int32)) _ _ _ hf hM (lv_sub hl [1, 2, 0] rfl)
    · replace hf := mx_ift hc20 hf
      refine lv_iconst (v := (0 : Int32)) hx hb dX13_restore_23 (by decide) ?_
      exact mx_zret C hM (b := false) rfl hf dX13_restore_24
theorem dX13_count_0 : decode cX13_count 0 = .ok (.aload_n 0, 1) := by decide +kernel
theorem dX13_count_1 : decode cX13_count 1 = .ok (.iconst 0, 1) := by decide +kernel
theorem dX13_count_2 : decode cX13_count 2 = .ok (.putfield 1, 3) := by decide +kernel
theorem dX13_count_5 : decode cX13_count 5 = .ok (.iload_n 1, 1) := by decide +kernel
theorem dX13_count_6 : decode cX13_count 6 = .ok (.iconst 5, 1) := by decide +kernel
theorem dX13_count_7 : decode cX13_count 7 = .ok (.if_icmp .ne 10, 3) := by decide +kernel
theorem dX13_count_10 : decode cX13_count 10 = .ok (.aload_n 0, 1) := by decide +kernel
theorem dX13_count_11 : decode cX13_count 11 = .ok (.getfield 7, 3) := by decide +kernel
theorem dX13_count_14 : decode cX13_count 14 = .ok (.goto 22, 3) := by decide +kernel
theorem dX13_count_17 : decode cX13_count 17 = .ok (.iload_n 1, 1) := by decide +kernel
theorem dX13_count_18 : decode cX13_count 18 = .ok (.iconst 0, 1) := by decide +kernel
theorem dX13_count_19 : decode cX13_count 19 = .ok (.iconst 4, 1) := by decide +kernel
theorem dX13_count_20 : decode cX13_count 20 = .ok (.invokestatic 193, 3) := by decide +kernel
theorem dX13_count_23 : decode cX13_count 23 = .ok (.ifCond .eq 12, 3) := by decide +kernel
theorem dX13_count_26 : decode cX13_count 26 = .ok (.aload_n 0, 1) := by decide +kernel
theorem dX13_count_27 : decode cX13_count 27 = .ok (.getfield 33, 3) := by decide +kernel
theorem dX13_count_30 : decode cX13_count 30 = .ok (.iload_n 1, 1) := by decide +kernel
theorem dX13_count_31 : decode cX13_count 31 = .ok (.iaload, 1) := by decide +kernel
theorem dX13_count_32 : decode cX13_count 32 = .ok (.goto 4, 3) := by decide +kernel
theorem dX13_count_35 : decode cX13_count 35 = .ok (.iconst (-1), 1) := by decide +kernel
theorem dX13_count_36 : decode cX13_count 36 = .ok (.ireturn, 1) := by decide +kernel
set_option maxRecDepth 100000 in
set_option maxHeartbeats 4000000 in
theorem kX13_count {E : KE} {l : Launch} (hE : mx_ok E) (i1 : Int32) (hT : E.1 = mt) (M : MM) {q : (Int32 × MM)} (hf : fX13_count i1 M = some q) : mx_Met E l yX13_count cX13_count 2 (some .int) 1 [.ref (E.2.1.2.1 0), .int i1] M (some (.int q.1)) q.2 := by
  refine mx_enter hE (by decide) (Nat.le_of_ble_eq_true rfl) ?_
  intro p e s m below meth c C hM hn ls hl
  have hx := C.1.1
  have hb := C.1.2.1
  have hown := C.1.2.2.2.1
  have hts := C.1.2.2.2.2
  have hl : lv_has ls 2 [(0, .ref (E.2.1.2.1 0)), (1, .int i1)] := hl
  rw [fX13_count] at hf
  refine lv_aload_n hx hb dX13_count_0 rfl (lv_at hl 0 rfl) ?_
  refine lv_iconst (v := (0 : Int32)) hx hb dX13_count_1 (by decide) ?_
  refine p13_1 C hT hM dX13_count_2 (fun H locs hM => ?_)
  refine lv_iload_n hx hb dX13_count_5 rfl (lv_at hl 1 rfl) ?_
  refine lv_iconst (v := (5 : Int32)) hx hb dX13_count_6 (by decide) ?_
  refine lv_icmp_ne (tgt := 17) hx hb dX13_count_7 (by decide) (fun hc7 => ?_) (fun hc7 => ?_)
  · replace hf := mx_iff hc7 hf
    refine lv_iload_n hx hb dX13_count_17 rfl (lv_at hl 1 rfl) ?_
    refine lv_iconst (v := (0 : Int32)) hx hb dX13_count_18 (by decide) ?_
    refine lv_iconst (v := (4 : Int32)) hx hb dX13_count_19 (by decide) ?_
    obtain ⟨q20, hq20, hf⟩ := mx_bd hf
    refine mx_callS C hM hl.1 yo_X13_isIn (h' := 0) (by decide) qw_1608 qw_1609 (As := [.int i1, .int (0 : Int32), .int (4 : Int32)]) (rest := []) (st1 := [.int (mx_b q20)]) (kX13_isIn C.2.2.2.1 i1 (0 : Int32) (4 : Int32) hT (mx_si M 0 0 (0 : Int32)) hq20) rfl rfl rfl (Nat.le_of_ble_eq_true rfl) dX13_count_20 (fun H locs hM => ?_)
    refine lv_if_eq (tgt := 35) hx hb dX13_count_23 (by decide) (fun hc23 => ?_) (fun hc23 => ?_)
    · replace hf := mx_ift hc23 hf
      refine lv_iconst (v := (-1 : Int32)) hx hb dX13_count_35 (by decide) ?_
      exact mx_iret C hM hf dX13_count_36
    · replace hf := mx_iff hc23 hf
      refine lv_aload_n hx hb dX13_count_26 rfl (lv_at hl 0 rfl) ?_
      refine g13_33 C hT hM dX13_count_27 ?_
      refine lv_iload_n hx hb dX13_count_30 rfl (lv_at hl 1 rfl) ?_
      obtain ⟨hg31, hf⟩ := mx_gd hf
      refine mx_iald C hM (mt_2 hT) (mx_in_vp hg31) dX13_count_31 ?_
      refine lv_goto (tgt := 36) hx hb dX13_count_32 (by decide) ?_
      exact mx_iret C hM hf dX13_count_36
  · replace hf := mx_ift hc7 hf
    refine lv_aload_n hx hb dX13_count_10 rfl (lv_at hl 0 rfl) ?_
    refine g13_7 C hT hM dX13_count_11 ?_
    refine lv_goto (tgt := 36) hx hb dX13_count_14 (by decide) ?_
    exact mx_iret C hM hf dX13_count_36
