theorem dX13_drawPerson_0 : decode cX13_drawPerson 0 = .ok (.aload_n 0, 1) := by decide +kernel
theorem dX13_drawPerson_1 : decode cX13_drawPerson 1 = .ok (.bipush 6, 2) := by decide +kernel
theorem dX13_drawPerson_3 : decode cX13_drawPerson 3 = .ok (.invokevirtual 416, 3) := by decide +kernel
theorem dX13_drawPerson_6 : decode cX13_drawPerson 6 = .ok (.istore_n 2, 1) := by decide +kernel
theorem dX13_drawPerson_7 : decode cX13_drawPerson 7 = .ok (.iload_n 2, 1) := by decide +kernel
theorem dX13_drawPerson_8 : decode cX13_drawPerson 8 = .ok (.iconst 2, 1) := by decide +kernel
theorem dX13_drawPerson_9 : decode cX13_drawPerson 9 = .ok (.if_icmp .ge 37, 3) := by decide +kernel
theorem dX13_drawPerson_12 : decode cX13_drawPerson 12 = .ok (.aload_n 0, 1) := by decide +kernel
theorem dX13_drawPerson_13 : decode cX13_drawPerson 13 = .ok (.bipush 21, 2) := by decide +kernel
theorem dX13_drawPerson_15 : decode cX13_drawPerson 15 = .ok (.invokevirtual 416, 3) := by decide +kernel
theorem dX13_drawPerson_18 : decode cX13_drawPerson 18 = .ok (.istore_n 3, 1) := by decide +kernel
theorem dX13_drawPerson_19 : decode cX13_drawPerson 19 = .ok (.aload_n 0, 1) := by decide +kernel
theorem dX13_drawPerson_20 : decode cX13_drawPerson 20 = .ok (.bipush 21, 2) := by decide +kernel
theorem dX13_drawPerson_22 : decode cX13_drawPerson 22 = .ok (.invokevirtual 416, 3) := by decide +kernel
theorem dX13_drawPerson_25 : decode cX13_drawPerson 25 = .ok (.istore 4, 2) := by decide +kernel
theorem dX13_drawPerson_27 : decode cX13_drawPerson 27 = .ok (.aload_n 0, 1) := by decide +kernel
theorem dX13_drawPerson_28 : decode cX13_drawPerson 28 = .ok (.iload_n 1, 1) := by decide +kernel
theorem dX13_drawPerson_29 : decode cX13_drawPerson 29 = .ok (.iload_n 3, 1) := by decide +kernel
theorem dX13_drawPerson_30 : decode cX13_drawPerson 30 = .ok (.iload 4, 2) := by decide +kernel
theorem dX13_drawPerson_32 : decode cX13_drawPerson 32 = .ok (.invokevirtual 310, 3) := by decide +kernel
theorem dX13_drawPerson_35 : decode cX13_drawPerson 35 = .ok (.ifCond .ne 11, 3) := by decide +kernel
theorem dX13_drawPerson_38 : decode cX13_drawPerson 38 = .ok (.aload_n 0, 1) := by decide +kernel
theorem dX13_drawPerson_39 : decode cX13_drawPerson 39 = .ok (.iload_n 1, 1) := by decide +kernel
theorem dX13_drawPerson_40 : decode cX13_drawPerson 40 = .ok (.iload_n 3, 1) := by decide +kernel
theorem dX13_drawPerson_41 : decode cX13_drawPerson 41 = .ok (.iload 4, 2) := by decide +kernel
theorem dX13_drawPerson_43 : decode cX13_drawPerson 43 = .ok (.invokevirtual 316, 3) := by decide +kernel
theorem dX13_drawPerson_46 : decode cX13_drawPerson 46 = .ok (.iload_n 2, 1) := by decide +kernel
theorem dX13_drawPerson_47 : decode cX13_drawPerson 47 = .ok (.iconst 4, 1) := by decide +kernel
theorem dX13_drawPerson_48 : decode cX13_drawPerson 48 = .ok (.if_icmp .ne 25, 3) := by decide +kernel
theorem dX13_drawPerson_51 : decode cX13_drawPerson 51 = .ok (.aload_n 0, 1) := by decide +kernel
theorem dX13_drawPerson_52 : decode cX13_drawPerson 52 = .ok (.iload_n 1, 1) := by decide +kernel
theorem dX13_drawPerson_53 : decode cX13_drawPerson 53 = .ok (.invokevirtual 283, 3) := by decide +kernel
theorem dX13_drawPerson_56 : decode cX13_drawPerson 56 = .ok (.ifCond .lt 17, 3) := by decide +kernel
theorem dX13_drawPerson_59 : decode cX13_drawPerson 59 = .ok (.aload_n 0, 1) := by decide +kernel
theorem dX13_drawPerson_60 : decode cX13_drawPerson 60 = .ok (.getfield 33, 3) := by decide +kernel
theorem dX13_drawPerson_63 : decode cX13_drawPerson 63 = .ok (.bipush 85, 2) := by decide +kernel
theorem dX13_drawPerson_65 : decode cX13_drawPerson 65 = .ok (.aload_n 0, 1) := by decide +kernel
theorem dX13_drawPerson_66 : decode cX13_drawPerson 66 = .ok (.iload_n 1, 1) := by decide +kernel
theorem dX13_drawPerson_67 : decode cX13_drawPerson 67 = .ok (.invokevirtual 283, 3) := by decide +kernel
theorem dX13_drawPerson_70 : decode cX13_drawPerson 70 = .ok (.iadd, 1) := by decide +kernel
theorem dX13_drawPerson_71 : decode cX13_drawPerson 71 = .ok (.iconst 0, 1) := by decide +kernel
theorem dX13_drawPerson_72 : decode cX13_drawPerson 72 = .ok (.iastore, 1) := by decide +kernel
theorem dX13_drawPerson_73 : decode cX13_drawPerson 73 = .ok (.iload_n 2, 1) := by decide +kernel
theorem dX13_drawPerson_74 : decode cX13_drawPerson 74 = .ok (.iconst 2, 1) := by decide +kernel
theorem dX13_drawPerson_75 : decode cX13_drawPerson 75 = .ok (.iconst 3, 1) := by decide +kernel
theorem dX13_drawPerson_76 : decode cX13_drawPerson 76 = .ok (.invokestatic 193, 3) := by decide +kernel
theorem dX13_drawPerson_79 : decode cX13_drawPerson 79 = .ok (.ifCond .eq 12, 3) := by decide +kernel
theorem dX13_drawPerson_82 : decode cX13_drawPerson 82 = .ok (.aload_n 0, 1) := by decide +kernel
theorem dX13_drawPerson_83 : decode cX13_drawPerson 83 = .ok (.getfield 33, 3) := by decide +kernel
theorem dX13_drawPerson_86 : decode cX13_drawPerson 86 = .ok (.iconst 1, 1) := by decide +kernel
theorem dX13_drawPerson_87 : decode cX13_drawPerson 87 = .ok (.iaload, 1) := by decide +kernel
theorem dX13_drawPerson_88 : decode cX13_drawPerson 88 = .ok (.ifCond .ne 4, 3) := by decide +kernel
theorem dX13_drawPerson_91 : decode cX13_drawPerson 91 = .ok (.return_, 1) := by decide +kernel
theorem dX13_drawPerson_92 : decode cX13_drawPerson 92 = .ok (.aload_n 0, 1) := by decide +kernel
theorem dX13_drawPerson_93 : decode cX13_drawPerson 93 = .ok (.aload_n 0, 1) := by decide +kernel
theorem dX13_drawPerson_94 : decode cX13_drawPerson 94 = .ok (.getfield 33, 3) := by decide +kernel
theorem dX13_drawPerson_97 : decode cX13_drawPerson 97 = .ok (.iconst 1, 1) := by decide +kernel
theorem dX13_drawPerson_98 : decode cX13_drawPerson 98 = .ok (.iaload, 1) := by decide +kernel
theorem dX13_drawPerson_99 : decode cX13_drawPerson 99 = .ok (.invokevirtual 416, 3) := by decide +kernel
theorem dX13_drawPerson_102 : decode cX13_drawPerson 102 = .ok (.istore_n 3, 1) := by decide +kernel
theorem dX13_drawPerson_103 : decode cX13_drawPerson 103 = .ok (.iload_n 2, 1) := by decide +kernel
theorem dX13_drawPerson_104 : decode cX13_drawPerson 104 = .ok (.iconst 3, 1) := by decide +kernel
theorem dX13_drawPerson_105 : decode cX13_drawPerson 105 = .ok (.if_icmp .ne 23, 3) := by decide +kernel
theorem dX13_drawPerson_108 : decode cX13_drawPerson 108 = .ok (.aload_n 0, 1) := by decide +kernel
theorem dX13_drawPerson_109 : decode cX13_drawPerson 109 = .ok (.iload_n 1, 1) := by decide +kernel
theorem dX13_drawPerson_110 : decode cX13_drawPerson 110 = .ok (.iload_n 3, 1) := by decide +kernel
theorem dX13_drawPerson_111 : decode cX13_drawPerson 111 = .ok (.invokevirtual 327, 3) := by decide +kernel
theorem dX13_drawPerson_114 : decode cX13_drawPerson 114 = .ok (.ifCond .ne 13, 3) := by decide +kernel
theorem dX13_drawPerson_117 : decode cX13_drawPerson 117 = .ok (.aload_n 0, 1) := by decide +kernel
theorem dX13_drawPerson_118 : decode cX13_drawPerson 118 = .ok (.getfield 33, 3) := by decide +kernel
theorem dX13_drawPerson_121 : decode cX13_drawPerson 121 = .ok (.bipush 85, 2) := by decide +kernel
theorem dX13_drawPerson_123 : decode cX13_drawPerson 123 = .ok (.iload_n 3, 1) := by decide +kernel
theorem dX13_drawPerson_124 : decode cX13_drawPerson 124 = .ok (.iadd, 1) := by decide +kernel
theorem dX13_drawPerson_125 : decode cX13_drawPerson 125 = .ok (.iconst 1, 1) := by decide +kernel
theorem dX13_drawPerson_126 : decode cX13_drawPerson 126 = .ok (.iastore, 1) := by decide +kernel
theorem dX13_drawPerson_127 : decode cX13_drawPerson 127 = .ok (.return_, 1) := by decide +kernel
theorem dX13_drawPerson_128 : decode cX13_drawPerson 128 = .ok (.aload_n 0, 1) := by decide +kernel
theorem dX13_drawPerson_129 : decode cX13_drawPerson 129 = .ok (.aload_n 0, 1) := by decide +kernel
theorem dX13_drawPerson_130 : decode cX13_drawPerson 130 = .ok (.getfield 33, 3) := by decide +kernel
theorem dX13_drawPerson_133 : decode cX13_drawPerson 133 = .ok (.iconst 0, 1) := by decide +kernel
theorem dX13_drawPerson_134 : decode cX13_drawPerson 134 = .ok (.iaload, 1) := by decide +kernel
theorem dX13_drawPerson_135 : decode cX13_drawPerson 135 = .ok (.invokevirtual 416, 3) := by decide +kernel
theorem dX13_drawPerson_138 : decode cX13_drawPerson 138 = .ok (.istore 4, 2) := by decide +kernel
theorem dX13_drawPerson_140 : decode cX13_drawPerson 140 = .ok (.aload_n 0, 1) := by decide +kernel
theorem dX13_drawPerson_141 : decode cX13_drawPerson 141 = .ok (.iload_n 1, 1) := by decide +kernel
theorem dX13_drawPerson_142 : decode cX13_drawPerson 142 = .ok (.iload_n 3, 1) := by decide +kernel
theorem dX13_drawPerson_143 : decode cX13_drawPerson 143 = .ok (.iload 4, 2) := by decide +kernel
theorem dX13_drawPerson_145 : decode cX13_drawPerson 145 = .ok (.invokevirtual 320, 3) := by decide +kernel
theorem dX13_drawPerson_148 : decode cX13_drawPerson 148 = .ok (.ifCond .ne 10, 3) := by decide +kernel
theorem dX13_drawPerson_151 : decode cX13_drawPerson 151 = .ok (.aload_n 0, 1) := by decide +kernel
theorem dX13_drawPerson_152 : decode cX13_drawPerson 152 = .ok (.iload_n 3, 1) := by decide +kernel
theorem dX13_drawPerson_153 : decode cX13_drawPerson 153 = .ok (.iload 4, 2) := by decide +kernel
theorem dX13_drawPerson_155 : decode cX13_drawPerson 155 = .ok (.invokevirtual 323, 3) := by decide +kernel
theorem dX13_drawPerson_158 : decode cX13_drawPerson 158 = .ok (.return_, 1) := by decide +kernel
set_option maxRecDepth 100000 in
set_option maxHeartbeats 4000000 in
theorem wfX13_drawPerson_73 {E : KE} {p : Program} {l : Launch} {e : Env} {s : State} {m : MethodId} {args : Array Value} {below : List Frame} {meth : Method} {c : Code} {q : MM} (C : mx_C E p m c cX13_drawPerson 5 s args RX13 meth none) (i1 : Int32) (hT : E.1 = mt)   : ∀ (i2 : Int32) (M : MM) (H : Heap) (locs : List Loc) (ls : Array Slot), fX13_drawPerson_73 i1 i2 M = some q → mx_H E s M H locs → lv_has ls 5 [(0, .ref (E.2.1.2.1 0)), (1, .int i1), (2, .int i2)] → W p l e (mx_rm 4) s m args below meth c H locs 0 0 (mx_Z E below args s none q) (F0 m 73 ls []) := by
  have hx := C.1.1
  have hb := C.1.2.1
  have hown := C.1.2.2.2.1
  have hts := C.1.2.2.2.2
  intro i2 M H locs ls hf hM hl
  rw [fX13_drawPerson_73] at hf
  refine lv_iload_n hx hb dX13_drawPerson_73 rfl (lv_at hl 2 rfl) ?_
  refine lv_iconst (v := (2 : Int32)) hx hb dX13_drawPerson_74 (by decide) ?_
  refine lv_iconst (v := (3 : Int32)) hx hb dX13_drawPerson_75 (by decide) ?_
  obtain ⟨q76, hq76, hf⟩ := mx_bd hf
  refine mx_callS C hM hl.1 yo_X13_isIn (h' := 0) (by decide) qw_1608 qw_1609 (As := [.int i2, .int (2 : Int32), .int (3 : Int32)]) (rest := []) (st1 := [.int (mx_b q76)]) (kX13_isIn C.2.2.2.1 i2 (2 : Int32) (3 : Int32) hT M hq76) rfl rfl rfl (Nat.le_of_ble_eq_true rfl) dX13_drawPerson_76 (fun H locs hM => ?_)
  refine lv_if_eq (tgt := 91) hx hb dX13_drawPerson_79 (by decide) (fun hc79 => ?_) (fun hc79 => ?_)
  · replace hf := mx_ift hc79 hf
    exact mx_vret C hM hf dX13_drawPerson_91
  · replace hf := mx_iff hc79 hf
    refine lv_aload_n hx hb dX13_drawPerson_82 rfl (lv_at hl 0 rfl) ?_
    refine g13_33 C hT hM dX13_drawPerson_83 ?_
    refine lv_iconst (v := (1 : Int32)) hx hb dX13_drawPerson_86 (by decide) ?_
    refine mx_ialdL C hM (mt_2 hT) (j := 1) (by decide) (mx_in_vp (by decide)) dX13_drawPerson_87 ?_
    refine lv_if_ne (tgt := 92) hx hb dX13_drawPerson_88 (by decide) (fun hc88 => ?_) (fun hc88 => ?_)
    · replace hf := mx_iff hc88 hf
      refine lv_aload_n hx hb dX13_drawPerson_92 rfl (lv_at hl 0 rfl) ?_
      refine lv_aload_n hx hb dX13_drawPerson_93 rfl (lv_at hl 0 rfl) ?_
      refine g13_33 C hT hM dX13_drawPerson_94 ?_
      refine lv_iconst (v := (1 : Int32)) hx hb dX13_drawPerson_97 (by decide) ?_
      refine mx_ialdL C hM (mt_2 hT) (j := 1) (by decide) (mx_in_vp (by decide)) dX13_drawPerson_98 ?_
      obtain ⟨q99, hq99, hf⟩ := mx_bd hf
      refine mx_callV C hM hl.1 yo_X13_draw (h' := 0) (by decide) qw_1925 qw_1927 qs_170 (ci := 13) (q := (RX13, TX13, 52)) rfl (mt_0 hT) (As := [.int (M.1 2 1)]) (rest := []) (st1 := [.int q99.1]) (kX13_draw C.2.2.2.1 (M.1 2 1) hT M hq99) rfl rfl rfl (Nat.le_of_ble_eq_true rfl) dX13_drawPerson_99 (fun H locs hM => ?_)
      refine lv_istore_n (lv' := [(3, .int q99.1), (0, .ref (E.2.1.2.1 0)), (1, .int i1), (2, .int i2)]) hx hb dX13_drawPerson_102 rfl hl (by decide) rfl (fun ls hl => ?_)
      refine lv_iload_n hx hb dX13_drawPerson_103 rfl (lv_at hl 3 rfl) ?_
      refine lv_iconst (v := (3 : Int32)) hx hb dX13_drawPerson_104 (by decide) ?_
      refine lv_icmp_ne (tgt := 128) hx hb dX13_drawPerson_105 (by decide) (fun hc105 => ?_) (fun hc105 => ?_)
      · replace hf := mx_iff hc105 hf
        refine lv_aload_n hx hb dX13_drawPerson_128 rfl (lv_at hl 1 rfl) ?_
        refine lv_aload_n hx hb dX13_drawPerson_129 rfl (lv_at hl 1 rfl) ?_
        refine g13_33 C hT hM dX13_drawPerson_130 ?_
        refine lv_iconst (v := (0 : Int32)) hx hb dX13_drawPerson_133 (by decide) ?_
        refine mx_ialdL C hM (mt_2 hT) (j := 0) (by decide) (mx_in_vp (by decide)) dX13_drawPerson_134 ?_
        obtain ⟨q135, hq135, hf⟩ := mx_bd hf
        refine mx_callV C hM hl.1 yo_X13_draw (h' := 0) (by decide) qw_1925 qw_1927 qs_170 (ci := 13) (q := (RX13, TX13, 52)) rfl (mt_0 hT) (As := [.int (q99.2.1 2 0)]) (rest := []) (st1 := [.int q135.1]) (kX13_draw C.2.2.2.1 (q99.2.1 2 0) hT q99.2 hq135) rfl rfl rfl (Nat.le_of_ble_eq_true rfl) dX13_drawPerson_135 (fun H locs hM => ?_)
        refine lv_istore (lv' := [(4, .int q135.1), (3, .int q99.1), (0, .ref (E.2.1.2.1 0)), (1, .int i1), (2, .int i2)]) hx hb dX13_drawPerson_138 hl (by decide) rfl (fun ls hl => ?_)
        refine lv_aload_n hx hb dX13_drawPerson_140 rfl (lv_at hl 2 rfl) ?_
        refine lv_iload_n hx hb dX13_drawPerson_141 rfl (lv_at hl 3 rfl) ?_
        refine lv_iload_n hx hb dX13_drawPerson_142 rfl (lv_at hl 1 rfl) ?_
        refine lv_iload hx hb dX13_drawPerson_143 (lv_at hl 0 rfl) ?_
        obtain ⟨q145, hq145, hf⟩ := mx_bd hf
        refine mx_callV C hM hl.1 yo_X13_whyHand (h' := 3) (by decide) qw_1721 qw_1723 qs_143 (ci := 13) (q := (RX13, TX13, 52)) rfl (mt_0 hT) (As := [.int i1, .int q99.1, .int q135.1]) (rest := []) (st1 := [.int q145]) (kX13_whyHand C.2.2.2.1 i1 q99.1 q135.1 hT q135.2 hq145) rfl rfl rfl (Nat.le_of_ble_eq_true rfl) dX13_drawPerson_145 (fun H locs hM => ?_)
        refine lv_if_ne (tgt := 158) hx hb dX13_drawPerson_148 (by decide) (fun hc148 => ?_) (fun hc148 => ?_)
        · replace hf := mx_iff hc148 hf
          exact mx_vret C hM hf dX13_drawPerson_158
        · replace hf := mx_ift hc148 hf
          refine lv_aload_n hx hb dX13_drawPerson_151 rfl (lv_at hl 2 rfl) ?_
          refine lv_iload_n hx hb dX13_drawPerson_152 rfl (lv_at hl 1 rfl) ?_
          refine lv_iload hx hb dX13_drawPerson_153 (lv_at hl 0 rfl) ?_
          obtain ⟨q155, hq155, hf⟩ := mx_bd hf
          refine mx_callV C hM hl.1 yo_X13_hands (h' := 0) (by decide) qw_1729 qw_1731 qs_145 (ci := 13) (q := (RX13, TX13, 52)) rfl (mt_0 hT) (As := [.int q99.1, .int q135.1]) (rest := []) (st1 := []) (kX13_hands C.2.2.2.1 q99.1 q135.1 hT q135.2 hq155) rfl rfl rfl (Nat.le_of_ble_eq_true rfl) dX13_drawPerson_155 (fun H locs hM => ?_)
          exact mx_vret C hM hf dX13_drawPerson_158
      · replace hf := mx_ift hc105 hf
        refine lv_aload_n hx hb dX13_drawPerson_108 rfl (lv_at hl 1 rfl) ?_
        refine lv_iload_n hx hb dX13_drawPerson_109 rfl (lv_at hl 2 rfl) ?_
        refine lv_iload_n hx hb dX13_drawPerson_110 rfl (lv_at hl 0 rfl) ?_
        obtain ⟨q111, hq111, hf⟩ := mx_bd hf
        refine mx_callV C hM hl.1 yo_X13_whyWear (h' := 2) (by decide) qw_1737 qw_1739 qs_146 (ci := 13) (q := (RX13, TX13, 52)) rfl (mt_0 hT) (As := [.int i1, .int q99.1]) (rest := []) (st1 := [.int q111]) (kX13_whyWear C.2.2.2.1 i1 q99.1 hT q99.2 hq111) rfl rfl rfl (Nat.le_of_ble_eq_true rfl) dX13_drawPerson_111 (fun H locs hM => ?_)
        refine lv_if_ne (tgt := 127) hx hb dX13_drawPerson_114 (by decide) (fun hc114 => ?_) (fun hc114 => ?_)
        · replace hf := mx_iff hc114 hf
          exact mx_vret C hM hf dX13_drawPerson_127
        · replace hf := mx_ift hc114 hf
          refine lv_aload_n hx hb dX13_drawPerson_117 rfl (lv_at hl 1 rfl) ?_
          refine g13_33 C hT hM dX13_drawPerson_118 ?_
          refine lv_bipush (v := (85 : Int32)) hx hb dX13_drawPerson_121 (by decide) ?_
          refine lv_iload_n hx hb dX13_drawPerson_123 rfl (lv_at hl 0 rfl) ?_
          refine lv_iadd hx hb dX13_drawPerson_124 ?_
          refine lv_iconst (v := (1 : Int32)) hx hb dX13_drawPerson_125 (by decide) ?_
          obtain ⟨hg126, hf⟩ := mx_gd hf
          refine mx_iast C hM (mt_2 hT) (mx_in_vp hg126) dX13_drawPerson_126 (fun H locs hM => ?_)
          exact mx_vret C hM hf dX13_drawPerson_127
    · replace hf := mx_ift hc88 hf
      exact mx_vret C hM hf dX13_drawPerson_91
set_option maxRecDepth 100000 in
set_option maxHeartbeats 4000000 in
theorem wfX13_drawPerson_46 {E : KE} {p : Program} {l : Launch} {e : Env} {s : State} {m : MethodId} {args : Array Value} {below : List Frame} {meth : Method} {c : Code} {q : MM} (C : mx_C E p m c cX13_drawPerson 5 s args RX13 meth none) (i1 : Int32) (hT : E.1 = mt)   : ∀ (i2 : Int32) (M : MM) (H : Heap) (locs : List Loc) (ls : Array Slot), fX13_drawPerson_46 i1 i2 M = some q → mx_H E s M H locs → lv_has ls 5 [(0, .ref (E.2.1.2.1 0)), (1, .int i1), (2, .int i2)] → W p l e (mx_rm 4) s m args below meth c H locs 0 0 (mx_Z E below args s none q) (F0 m 46 ls []) := by
  have hx := C.1.1
  have hb := C.1.2.1
  have hown := C.1.2.2.2.1
  have hts := C.1.2.2.2.2
  intro i2 M H locs ls hf hM hl
  rw [fX13_drawPerson_46] at hf
  refine lv_iload_n hx hb dX13_drawPerson_46 rfl (lv_at hl 2 rfl) ?_
  refine lv_iconst (v := (4 : Int32)) hx hb dX13_drawPerson_47 (by decide) ?_
  refine lv_icmp_ne (tgt := 73) hx hb dX13_drawPerson_48 (by decide) (fun hc48 => ?_) (fun hc48 => ?_)
  · replace hf := mx_iff hc48 hf
    exact wfX13_drawPerson_73 C i1 hT i2 M _ _ _ hf hM (lv_sub hl [0, 1, 2] rfl)
  · replace hf := mx_ift hc48 hf
    refine lv_aload_n hx hb dX13_drawPerson_51 rfl (lv_at hl 0 rfl) ?_
    refine lv_iload_n hx hb dX13_drawPerson_52 rfl (lv_at hl 1 rfl) ?_
    obtain ⟨q53, hq53, hf⟩ := mx_bd hf
    refine mx_callV C hM hl.1 yo_X13_wornBy (h' := 0) (by decide) qw_1662 qw_1664 qs_134 (ci := 13) (q := (RX13, TX13, 52)) rfl (mt_0 hT) (As := [.int i1]) (rest := []) (st1 := [.int q53]) (kX13_wornBy C.2.2.2.1 i1 hT M hq53) rfl rfl rfl (Nat.le_of_ble_eq_true rfl) dX13_drawPerson_53 (fun H locs hM => ?_)
    refine lv_if_lt (tgt := 73) hx hb dX13_drawPerson_56 (by decide) (fun hc56 => ?_) (fun hc56 => ?_)
    · replace hf := mx_ift hc56 hf
      exact wfX13_drawPerson_73 C i1 hT i2 M _ _ _ hf hM (lv_sub hl [0, 1, 2] rfl)
    · replace hf := mx_iff hc56 hf
      refine lv_aload_n hx hb dX13_drawPerson_59 rfl (lv_at hl 0 rfl) ?_
      refine g13_33 C hT hM dX13_drawPerson_60 ?_
      refine lv_bipush (v := (85 : Int32)) hx hb dX13_drawPerson_63 (by decide) ?_
      refine lv_aload_n hx hb dX13_drawPerson_65 rfl (lv_at hl 0 rfl) ?_
      refine lv_iload_n hx hb dX13_drawPerson_66 rfl (lv_at hl 1 rfl) ?_
      obtain ⟨q67, hq67, hf⟩ := mx_bd hf
      refine mx_callV C hM hl.1 yo_X13_wornBy (h' := 0) (by decide) qw_1662 qw_1664 qs_134 (ci := 13) (q := (RX13, TX13, 52)) rfl (mt_0 hT) (As := [.int i1]) (rest := [.int (85 : Int32), .ref (E.2.1.2.1 2)]) (st1 := [.int q67, .int (85 : Int32), .ref (E.2.1.2.1 2)]) (kX13_wornBy C.2.2.2.1 i1 hT M hq67) rfl rfl rfl (Nat.le_of_ble_eq_true rfl) dX13_drawPerson_67 (fun H locs hM => ?_)
      refine lv_iadd hx hb dX13_drawPerson_70 ?_
      refine lv_iconst (v := (0 : Int32)) hx hb dX13_drawPerson_71 (by decide) ?_
      obtain ⟨hg72, hf⟩ := mx_gd hf
      refine mx_iast C hM (mt_2 hT) (mx_in_vp hg72) dX13_drawPerson_72 (fun H locs hM => ?_)
      exact wfX13_drawPerson_73 C i1 hT i2 (mx_si M 2 ((85 : Int32) + q67).toNatClampNeg (0 : Int32)) _ _ _ hf hM (lv_sub hl [0, 1, 2] rfl)
set_option maxRecDepth 100000 in
set_option maxHeartbeats 4000000 in
theorem kX13_drawPerson {E : KE} {l : Launch} (hE : mx_ok E) (i1 : Int32) (hT : E.1 = mt) (M : MM) {q : MM} (hf : fX13_drawPerson i1 M = some q) : mx_Met E l yX13_drawPerson cX13_drawPerson 5 none 4 [.ref (E.2.1.2.1 0), .int i1] M none q := by
  refine mx_enter hE (by decide) (Nat.le_of_ble_eq_true rfl) ?_
  intro p e s m below meth c C hM hn ls hl
  have hx := C.1.1
  have hb := C.1.2.1
  have hown := C.1.2.2.2.1
  have hts := C.1.2.2.2.2
  have hl : lv_has ls 5 [(0, .ref (E.2.1.2.1 0)), (1, .int i1)] := hl
  rw [fX13_drawPerson] at hf
  refine lv_aload_n hx hb dX13_drawPerson_0 rfl (lv_at hl 0 rfl) ?_
  refine lv_bipush (v := (6 : Int32)) hx hb dX13_drawPerson_1 (by decide) ?_
  obtain ⟨q3, hq3, hf⟩ := mx_bd hf
  refine mx_callV C hM hl.1 yo_X13_draw (h' := 0) (by decide) qw_1925 qw_1927 qs_170 (ci := 13) (q := (RX13, TX13, 52)) rfl (mt_0 hT) (As := [.int (6 : Int32)]) (rest := []) (st1 := [.int q3.1]) (kX13_draw C.2.2.2.1 (6 : Int32) hT M hq3) rfl rfl rfl (Nat.le_of_ble_eq_true rfl) dX13_drawPerson_3 (fun H locs hM => ?_)
  refine lv_istore_n (lv' := [(2, .int q3.1), (0, .ref (E.2.1.2.1 0)), (1, .int i1)]) hx hb dX13_drawPerson_6 rfl hl (by decide) rfl (fun ls hl => ?_)
  refine lv_iload_n hx hb dX13_drawPerson_7 rfl (lv_at hl 0 rfl) ?_
  refine lv_iconst (v := (2 : Int32)) hx hb dX13_drawPerson_8 (by decide) ?_
  refine lv_icmp_ge (tgt := 46) hx hb dX13_drawPerson_9 (by decide) (fun hc9 => ?_) (fun hc9 => ?_)
  · replace hf := mx_ift hc9 hf
    exact wfX13_drawPerson_46 C i1 hT q3.1 q3.2 _ _ _ hf hM (lv_sub hl [1, 2, 0] rfl)
  · replace hf := mx_iff hc9 hf
    refine lv_aload_n hx hb dX13_drawPerson_12 rfl (lv_at hl 1 rfl) ?_
    refine lv_bipush (v := (21 : Int32)) hx hb dX13_drawPerson_13 (by decide) ?_
    obtain ⟨q15, hq15, hf⟩ := mx_bd hf
    refine mx_callV C hM hl.1 yo_X13_draw (h' := 0) (by decide) qw_1925 qw_1927 qs_170 (ci := 13) (q := (RX13, TX13, 52)) rfl (mt_0 hT) (As := [.int (21 : Int32)]) (rest := []) (st1 := [.int q15.1]) (kX13_draw C.2.2.2.1 (21 : Int32) hT q3.2 hq15) rfl rfl rfl (Nat.le_of_ble_eq_true rfl) dX13_drawPerson_15 (fun H locs hM => ?_)
    refine lv_istore_n (lv' := [(3, .int q15.1), (2, .int q3.1), (0, .ref (E.2.1.2.1 0)), (1, .int i1)]) hx hb dX13_drawPerson_18 rfl hl (by decide) rfl (fun ls hl => ?_)
    refine lv_aload_n hx hb dX13_drawPerson_19 rfl (lv_at hl 2 rfl) ?_
    refine lv_bipush (v := (21 : Int32)) hx hb dX13_drawPerson_20 (by decide) ?_
    obtain ⟨q22, hq22, hf⟩ := mx_bd hf
    refine mx_callV C hM hl.1 yo_X13_draw (h' := 0) (by decide) qw_1925 qw_1927 qs_170 (ci := 13) (q := (RX13, TX13, 52)) rfl (mt_0 hT) (As := [.int (21 : Int32)]) (rest := []) (st1 := [.int q22.1]) (kX13_draw C.2.2.2.1 (21 : Int32) hT q15.2 hq22) rfl rfl rfl (Nat.le_of_ble_eq_true rfl) dX13_drawPerson_22 (fun H locs hM => ?_)
    refine lv_istore (lv' := [(4, .int q22.1), (3, .int q15.1), (2, .int q3.1), (0, .ref (E.2.1.2.1 0)), (1, .int i1)]) hx hb dX13_drawPerson_25 hl (by decide) rfl (fun ls hl => ?_)
    refine lv_aload_n hx hb dX13_drawPerson_27 rfl (lv_at hl 3 rfl) ?_
    refine lv_iload_n hx hb dX13_drawPerson_28 rfl (lv_at hl 4 rfl) ?_
    refine lv_iload_n hx hb dX13_drawPerson_29 rfl (lv_at hl 1 rfl) ?_
    refine lv_iload hx hb dX13_drawPerson_30 (lv_at hl 0 rfl) ?_
    obtain ⟨q32, hq32, hf⟩ := mx_bd hf
    refine mx_callV C hM hl.1 yo_X13_whyGo (h' := 2) (by decide) qw_1698 qw_1700 qs_139 (ci := 13) (q := (RX13, TX13, 52)) rfl (mt_0 hT) (As := [.int i1, .int q15.1, .int q22.1]) (rest := []) (st1 := [.int q32]) (kX13_whyGo C.2.2.2.1 i1 q15.1 q22.1 hT q22.2 hq32) rfl rfl rfl (Nat.le_of_ble_eq_true rfl) dX13_drawPerson_32 (fun H locs hM => ?_)
    refine lv_if_ne (tgt := 46) hx hb dX13_drawPerson_35 (by decide) (fun hc35 => ?_) (fun hc35 => ?_)
    · replace hf := mx_iff hc35 hf
      exact wfX13_drawPerson_46 C i1 hT q3.1 q22.2 _ _ _ hf hM (lv_sub hl [3, 4, 2] rfl)
    · replace hf := mx_ift hc35 hf
      refine lv_aload_n hx hb dX13_drawPerson_38 rfl (lv_at hl 3 rfl) ?_
      refine lv_iload_n hx hb dX13_drawPerson_39 rfl (lv_at hl 4 rfl) ?_
      refine lv_iload_n hx hb dX13_drawPerson_40 rfl (lv_at hl 1 rfl) ?_
      refine lv_iload hx hb dX13_drawPerson_41 (lv_at hl 0 rfl) ?_
      obtain ⟨q43, hq43, hf⟩ := mx_bd hf
      refine mx_callV C hM hl.1 yo_X13_goes (h' := 2) (by decide) qw_1713 qw_1715 qs_142 (ci := 13) (q := (RX13, TX13, 52)) rfl (mt_0 hT) (As := [.int i1, .int q15.1, .int q22.1]) (rest := []) (st1 := []) (kX13_goes C.2.2.2.1 i1 q15.1 q22.1 hT q22.2 hq43) rfl rfl rfl (Nat.le_of_ble_eq_true rfl) dX13_drawPerson_43 (fun H locs hM => ?_)
      exact wfX13_drawPerson_46 C i1 hT q3.1 q43 _ _ _ hf hM (lv_sub hl [3, 4, 2] rfl)
theorem dX13_draws_0 : decode cX13_draws 0 = .ok (.aload_n 0, 1) := by decide +kernel
theorem dX13_draws_1 : decode cX13_draws 1 = .ok (.iload_n 2, 1) := by decide +kernel
theorem dX13_draws_2 : decode cX13_draws 2 = .ok (.putfield 412, 3) := by decide +kernel
theorem dX13_draws_5 : decode cX13_draws 5 = .ok (.iconst 0, 1) := by decide +kernel
theorem dX13_draws_6 : decode cX13_draws 6 = .ok (.istore_n 3, 1) := by decide +kernel
theorem dX13_draws_7 : decode cX13_draws 7 = .ok (.iload_n 3, 1) := by decide +kernel
theorem dX13_draws_8 : decode cX13_draws 8 = .ok (.iload_n 1, 1) := by decide +kernel
theorem dX13_draws_9 : decode cX13_draws 9 = .ok (.if_icmp .ge 52, 3) := by decide +kernel
theorem dX13_draws_12 : decode cX13_draws 12 = .ok (.aload_n 0, 1) := by decide +kernel
theorem dX13_draws_13 : decode cX13_draws 13 = .ok (.getfield 33, 3) := by decide +kernel
theorem dX13_draws_16 : decode cX13_draws 16 = .ok (.bipush 54, 2) := by decide +kernel
theorem dX13_draws_18 : decode cX13_draws 18 = .ok (.iaload, 1) := by decide +kernel
theorem dX13_draws_19 : decode cX13_draws 19 = .ok (.sipush 400, 3) := by decide +kernel
theorem dX13_draws_22 : decode cX13_draws 22 = .ok (.if_icmp .ge 39, 3) := by decide +kernel
theorem dX13_draws_25 : decode cX13_draws 25 = .ok (.iconst 0, 1) := by decide +kernel
theorem dX13_draws_26 : decode cX13_draws 26 = .ok (.istore 4, 2) := by decide +kernel
theorem dX13_draws_28 : decode cX13_draws 28 = .ok (.iload 4, 2) := by decide +kernel
theorem dX13_draws_30 : decode cX13_draws 30 = .ok (.aload_n 0, 1) := by decide +kernel
theorem dX13_draws_31 : decode cX13_draws 31 = .ok (.getfield 33, 3) := by decide +kernel
theorem dX13_draws_34 : decode cX13_draws 34 = .ok (.iconst 0, 1) := by decide +kernel
theorem dX13_draws_35 : decode cX13_draws 35 = .ok (.iaload, 1) := by decide +kernel
theorem dX13_draws_36 : decode cX13_draws 36 = .ok (.if_icmp .ge 15, 3) := by decide +kernel
theorem dX13_draws_39 : decode cX13_draws 39 = .ok (.aload_n 0, 1) := by decide +kernel
theorem dX13_draws_40 : decode cX13_draws 40 = .ok (.iload 4, 2) := by decide +kernel
theorem dX13_draws_42 : decode cX13_draws 42 = .ok (.invokevirtual 419, 3) := by decide +kernel
theorem dX13_draws_45 : decode cX13_draws 45 = .ok (.iinc 4 1, 3) := by decide +kernel
theorem dX13_draws_48 : decode cX13_draws 48 = .ok (.goto (-20), 3) := by decide +kernel
theorem dX13_draws_51 : decode cX13_draws 51 = .ok (.aload_n 0, 1) := by decide +kernel
theorem dX13_draws_52 : decode cX13_draws 52 = .ok (.invokevirtual 307, 3) := by decide +kernel
theorem dX13_draws_55 : decode cX13_draws 55 = .ok (.iinc 3 1, 3) := by decide +kernel
theorem dX13_draws_58 : decode cX13_draws 58 = .ok (.goto (-51), 3) := by decide +kernel
theorem dX13_draws_61 : decode cX13_draws 61 = .ok (.iload_n 3, 1) := by decide +kernel
theorem dX13_draws_62 : decode cX13_draws 62 = .ok (.ireturn, 1) := by decide +kernel
set_option maxRecDepth 100000 in
set_option maxHeartbeats 4000000 in
theorem wfX13_draws_28 {E : KE} {p : Program} {l : Launch} {e : Env} {s : State} {m : MethodId} {args : Array Value} {below : List Frame} {meth : Method} {c : Code} {q : (Int32 × MM)} (C : mx_C E p m c cX13_draws 5 s args RX13 meth (some .int)) (i1 : Int32) (i2 : Int32) (hT : E.1 = mt)  (k7 : Int32 → MM → Option (Int32 × MM)) (hk7 : ∀ (i3 : Int32) (M : MM) (H : Heap) (locs : List Loc) (ls : Array Slot), k7 i3 M = some q → mx_H E s M H locs → lv_has ls 5 [(0, .ref (E.2.1.2.1 0)), (1, .int i1), (3, .int i3)] → W p l e (mx_rm 5) s m args below meth c H locs 0 0 (mx_Z E below args s (some (.int q.1)) q.2) (F0 m 7 ls [])) : ∀ (n : Nat) (i3 : Int32) (i4 : Int32) (M : MM) (H : Heap) (locs : List Loc) (ls : Array Slot), fX13_draws_28 i1 i2 k7 n i3 i4 M = some q → mx_H E s M H locs → lv_has ls 5 [(0, .ref (E.2.1.2.1 0)), (1, .int i1), (3, .int i3), (4, .int i4)] → W p l e (mx_rm 5) s m args below meth c H locs 0 0 (mx_Z E below args s (some (.int q.1)) q.2) (F0 m 28 ls []) := by
  have hx := C.1.1
  have hb := C.1.2.1
  have hown := C.1.2.2.2.1
  have hts := C.1.2.2.2.2
  intro n
  induction n with
  | zero =>
    intro i3 i4 M H locs ls hf hM hl
    rw [fX13_draws_28] at hf
    cases hf
  | succ n ih =>
    intro i3 i4 M H locs ls hf hM hl
    rw [fX13_draws_28] at hf
    refine lv_iload hx hb dX13_draws_28 (lv_at hl 3 rfl) ?_
    refine lv_aload_n hx hb dX13_draws_30 rfl (lv_at hl 0 rfl) ?_
    refine g13_33 C hT hM dX13_draws_31 ?_
    refine lv_iconst (v := (0 : Int32)) hx hb dX13_draws_34 (by decide) ?_
    refine mx_ialdL C hM (mt_2 hT) (j := 0) (by decide) (mx_in_vp (by decide)) dX13_draws_35 ?_
    refine lv_icmp_ge (tgt := 51) hx hb dX13_draws_36 (by decide) (fun hc36 => ?_) (fun hc36 => ?_)
    · replace hf := mx_ift hc36 hf
      refine lv_aload_n hx hb dX13_draws_51 rfl (lv_at hl 0 rfl) ?_
      obtain ⟨q52, hq52, hf⟩ := mx_bd hf
      refine mx_callV C hM hl.1 yo_X13_day (h' := 2) (by decide) qw_1769 qw_1771 qs_151 (ci := 13) (q := (RX13, TX13, 52)) rfl (mt_0 hT) (As := []) (rest := []) (st1 := []) (kX13_day C.2.2.2.1  hT M hq52) rfl rfl rfl (Nat.le_of_ble_eq_true rfl) dX13_draws_52 (fun H locs hM => ?_)
      refine lv_iinc (v := (i3 + (1 : Int32))) (lv' := [(3, .int (i3 + (1 : Int32))), (0, .ref (E.2.1.2.1 0)), (1, .int i1), (4, .int i4)]) hx hb dX13_draws_55 hl (k := 2) rfl rfl (by decide) rfl (fun ls hl => ?_)
      refine lv_goto (tgt := 7) hx hb dX13_draws_58 (by decide) ?_
      exact hk7 (i3 + (1 : Int32)) q52 _ _ _ hf hM (lv_sub hl [1, 2, 0] rfl)
    · replace hf := mx_iff hc36 hf
      refine lv_aload_n hx hb dX13_draws_39 rfl (lv_at hl 0 rfl) ?_
      refine lv_iload hx hb dX13_draws_40 (lv_at hl 3 rfl) ?_
      obtain ⟨q42, hq42, hf⟩ := mx_bd hf
      refine mx_callV C hM hl.1 yo_X13_drawPerson (h' := 4) (by decide) qw_1921 qw_1923 qs_169 (ci := 13) (q := (RX13, TX13, 52)) rfl (mt_0 hT) (As := [.int i4]) (rest := []) (st1 := []) (kX13_drawPerson C.2.2.2.1 i4 hT M hq42) rfl rfl rfl (Nat.le_of_ble_eq_true rfl) dX13_draws_42 (fun H locs hM => ?_)
      refine lv_iinc (v := (i4 + (1 : Int32))) (lv' := [(4, .int (i4 + (1 : Int32))), (0, .ref (E.2.1.2.1 0)), (1, .int i1), (3, .int i3)]) hx hb dX13_draws_45 hl (k := 3) rfl rfl (by decide) rfl (fun ls hl => ?_)
      refine lv_goto (tgt := 28) hx hb dX13_draws_48 (by decide) ?_
      exact ih i3 (i4 + (1 : Int32)) q42 _ _ _ hf hM (lv_sub hl [1, 2, 3, 0] rfl)
set_option maxRecDepth 100000 in
set_option maxHeartbeats 4000000 in
theorem wfX13_draws_7 {E : KE} {p : Program} {l : Launch} {e : Env} {s : State} {m : MethodId} {args : Array Value} {below : List Frame} {meth : Method} {c : Code} {q : (Int32 × MM)} (C : mx_C E p m c cX13_draws 5 s args RX13 meth (some .int)) (i1 : Int32) (i2 : Int32) (hT : E.1 = mt)   : ∀ (n : Nat) (i3 : Int32) (M : MM) (H : Heap) (locs : List Loc) (ls : Array Slot), fX13_draws_7 i1 i2 n i3 M = some q → mx_H E s M H locs → lv_has ls 5 [(0, .ref (E.2.1.2.1 0)), (1, .int i1), (3, .int i3)] → W p l e (mx_rm 5) s m args below meth c H locs 0 0 (mx_Z E below args s (some (.int q.1)) q.2) (F0 m 7 ls []) := by
  have hx := C.1.1
  have hb := C.1.2.1
  have hown := C.1.2.2.2.1
  have hts := C.1.2.2.2.2
  intro n
  induction n with
  | zero =>
    intro i3 M H locs ls hf hM hl
    rw [fX13_draws_7] at hf
    cases hf
  | succ n ih =>
    intro i3 M H locs ls hf hM hl
    rw [fX13_draws_7] at hf
    refine lv_iload_n hx hb dX13_draws_7 rfl (lv_at hl 2 rfl) ?_
    refine lv_iload_n hx hb dX13_draws_8 rfl (lv_at hl 1 rfl) ?_
    refine lv_icmp_ge (tgt := 61) hx hb dX13_draws_9 (by decide) (fun hc9 => ?_) (fun hc9 => ?_)
    · replace hf := mx_ift hc9 hf
      refine lv_iload_n hx hb dX13_draws_61 rfl (lv_at hl 2 rfl) ?_
      exact mx_iret C hM hf dX13_draws_62
    · replace hf := mx_iff hc9 hf
      refine lv_aload_n hx hb dX13_draws_12 rfl (lv_at hl 0 rfl) ?_
      refine g13_33 C hT hM dX13_draws_13 ?_
      refine lv_bipush (v := (54 : Int32)) hx hb dX13_draws_16 (by decide) ?_
      refine mx_ialdL C hM (mt_2 hT) (j := 54) (by decide) (mx_in_vp (by decide)) dX13_draws_18 ?_
      refine lv_sipush (v := (400 : Int32)) hx hb dX13_draws_19 (by decide) ?_
      refine lv_icmp_ge (tgt := 61) hx hb dX13_draws_22 (by decide) (fun hc22 => ?_) (fun hc22 => ?_)
      · replace hf := mx_ift hc22 hf
        refine lv_iload_n hx hb dX13_draws_61 rfl (lv_at hl 2 rfl) ?_
        exact mx_iret C hM hf dX13_draws_62
      · replace hf := mx_iff hc22 hf
        refine lv_iconst (v := (0 : Int32)) hx hb dX13_draws_25 (by decide) ?_
        refine lv_istore (lv' := [(4, .int (0 : Int32)), (0, .ref (E.2.1.2.1 0)), (1, .int i1), (3, .int i3)]) hx hb dX13_draws_26 hl (by decide) rfl (fun ls hl => ?_)
        exact wfX13_draws_28 C i1 i2 hT (fX13_draws_7 i1 i2 n) ih mx_fu i3 (0 : Int32) M _ _ _ hf hM (lv_sub hl [1, 2, 3, 0] rfl)
set_option maxRecDepth 100000 in
set_option maxHeartbeats 4000000 in
theorem kX13_draws {E : KE} {l : Launch} (hE : mx_ok E) (i1 : Int32) (i2 : Int32) (hT : E.1 = mt) (M : MM) {q : (Int32 × MM)} (hf : fX13_draws i1 i2 M = some q) : mx_Met E l yX13_draws cX13_draws 5 (some .int) 5 [.ref (E.2.1.2.1 0), .int i1, .int i2] M (some (.int q.1)) q.2 := by
  refine mx_enter hE (by decide) (Nat.le_of_ble_eq_true rfl) ?_
  intro p e s m below meth c C hM hn ls hl
  have hx := C.1.1
  have hb := C.1.2.1
  have hown := C.1.2.2.2.1
  have hts := C.1.2.2.2.2
  have hl : lv_has ls 5 [(0, .ref (E.2.1.2.1 0)), (1, .int i1), (2, .int i2)] := hl
  rw [fX13_draws] at hf
  refine lv_aload_n hx hb dX13_draws_0 rfl (lv_at hl 0 rfl) ?_
  refine lv_iload_n hx hb dX13_draws_1 rfl (lv_at hl 2 rfl) ?_
  refine p13_412 C hT hM dX13_draws_2 (fun H locs hM => ?_)
  refine lv_iconst (v := (0 : Int32)) hx hb dX13_draws_5 (by decide) ?_
  refine lv_istore_n (lv' := [(3, .int (0 : Int32)), (0, .ref (E.2.1.2.1 0)), (1, .int i1), (2, .int i2)]) hx hb dX13_draws_6 rfl hl (by decide) rfl (fun ls hl => ?_)
  exact wfX13_draws_7 C i1 i2 hT mx_fu (0 : Int32) (mx_si M 0 38 i2) _ _ _ hf hM (lv_sub hl [1, 2, 0] rfl)
theorem dX13_drawn_0 : decode cX13_drawn 0 = .ok (.aload_n 0, 1) := by decide +kernel
theorem dX13_drawn_1 : decode cX13_drawn 1 = .ok (.iconst 0, 1) := by decide +kernel
theorem dX13_drawn_2 : decode cX13_drawn 2 = .ok (.putfield 1, 3) := by decide +kernel
theorem dX13_drawn_5 : decode cX13_drawn 5 = .ok (.iload_n 1, 1) := by decide +kernel
theorem dX13_drawn_6 : decode cX13_drawn 6 = .ok (.iconst 1, 1) := by decide +kernel
theorem dX13_drawn_7 : decode cX13_drawn 7 = .ok (.bipush 60, 2) := by decide +kernel
theorem dX13_drawn_9 : decode cX13_drawn 9 = .ok (.invokestatic 193, 3) := by decide +kernel
theorem dX13_drawn_12 : decode cX13_drawn 12 = .ok (.ifCond .ne 5, 3) := by decide +kernel
theorem dX13_drawn_15 : decode cX13_drawn 15 = .ok (.iconst (-1), 1) := by decide +kernel
theorem dX13_drawn_16 : decode cX13_drawn 16 = .ok (.ireturn, 1) := by decide +kernel
theorem dX13_drawn_17 : decode cX13_drawn 17 = .ok (.aload_n 0, 1) := by decide +kernel
theorem dX13_drawn_18 : decode cX13_drawn 18 = .ok (.getfield 33, 3) := by decide +kernel
theorem dX13_drawn_21 : decode cX13_drawn 21 = .ok (.bipush 54, 2) := by decide +kernel
theorem dX13_drawn_23 : decode cX13_drawn 23 = .ok (.iaload, 1) := by decide +kernel
theorem dX13_drawn_24 : decode cX13_drawn 24 = .ok (.sipush 400, 3) := by decide +kernel
theorem dX13_drawn_27 : decode cX13_drawn 27 = .ok (.if_icmp .ge 7, 3) := by decide +kernel
theorem dX13_drawn_30 : decode cX13_drawn 30 = .ok (.aload_n 0, 1) := by decide +kernel
theorem dX13_drawn_31 : decode cX13_drawn 31 = .ok (.invokevirtual 313, 3) := by decide +kernel
theorem dX13_drawn_34 : decode cX13_drawn 34 = .ok (.aload_n 0, 1) := by decide +kernel
theorem dX13_drawn_35 : decode cX13_drawn 35 = .ok (.iload_n 1, 1) := by decide +kernel
theorem dX13_drawn_36 : decode cX13_drawn 36 = .ok (.iload_n 2, 1) := by decide +kernel
theorem dX13_drawn_37 : decode cX13_drawn 37 = .ok (.invokevirtual 422, 3) := by decide +kernel
theorem dX13_drawn_40 : decode cX13_drawn 40 = .ok (.ireturn, 1) := by decide +kernel
set_option maxRecDepth 100000 in
set_option maxHeartbeats 4000000 in
theorem wfX13_drawn_34 {E : KE} {p : Program} {l : Launch} {e : Env} {s : State} {m : MethodId} {args : Array Value} {below : List Frame} {meth : Method} {c : Code} {q : (Int32 × MM)} (C : mx_C E p m c cX13_drawn 3 s args RX13 meth (some .int)) (i1 : Int32) (i2 : Int32) (hT : E.1 = mt)   : ∀ (M : MM) (H : Heap) (locs : List Loc) (ls : Array Slot), fX13_drawn_34 i1 i2 M = some q → mx_H E s M H locs → lv_has ls 3 [(0, .ref (E.2.1.2.1 0)), (1, .int i1), (2, .int i2)] → W p l e (mx_rm 6) s m args below meth c H locs 0 0 (mx_Z E below args s (some (.int q.1)) q.2) (F0 m 34 ls []) := by
  have hx := C.1.1
  have hb := C.1.2.1
  have hown := C.1.2.2.2.1
  have hts := C.1.2.2.2.2
  intro M H locs ls hf hM hl
  rw [fX13_drawn_34] at hf
  refine lv_aload_n hx hb dX13_drawn_34 rfl (lv_at hl 0 rfl) ?_
  refine lv_iload_n hx hb dX13_drawn_35 rfl (lv_at hl 1 rfl) ?_
  refine lv_iload_n hx hb dX13_drawn_36 rfl (lv_at hl 2 rfl) ?_
  obtain ⟨q37, hq37, hf⟩ := mx_bd hf
  refine mx_callV C hM hl.1 yo_X13_draws (h' := 5) (by decide) qw_1917 qw_1919 qs_168 (ci := 13) (q := (RX13, TX13, 52)) rfl (mt_0 hT) (As := [.int i1, .int i2]) (rest := []) (st1 := [.int q37.1]) (kX13_draws C.2.2.2.1 i1 i2 hT M hq37) rfl rfl rfl (Nat.le_of_ble_eq_true rfl) dX13_drawn_37 (fun H locs hM => ?_)
  exact mx_iret C hM hf dX13_drawn_40
set_option maxRecDepth 100000 in
set_option maxHeartbeats 4000000 in
theorem kX13_drawn {E : KE} {l : Launch} (hE : mx_ok E) (i1 : Int32) (i2 : Int32) (hT : E.1 = mt) (M : MM) {q : (Int32 × MM)} (hf : fX13_drawn i1 i2 M = some q) : mx_Met E l yX13_drawn cX13_drawn 3 (some .int) 6 [.ref (E.2.1.2.1 0), .int i1, .int i2] M (some (.int q.1)) q.2 := by
  refine mx_enter hE (by decide) (Nat.le_of_ble_eq_true rfl) ?_
  intro p e s m below meth c C hM hn ls hl
  have hx := C.1.1
  have hb := C.1.2.1
  have hown := C.1.2.2.2.1
  have hts := C.1.2.2.2.2
  have hl : lv_has ls 3 [(0, .ref (E.2.1.2.1 0)), (1, .int i1), (2, .int i2)] := hl
  rw [fX13_drawn] at hf
  refine lv_aload_n hx hb dX13_drawn_0 rfl (lv_at hl 0 rfl) ?_
  refine lv_iconst (v := (0 : Int32)) hx hb dX13_drawn_1 (by decide) ?_
  refine p13_1 C hT hM dX13_drawn_2 (fun H locs hM => ?_)
  refine lv_iload_n hx hb dX13_drawn_5 rfl (lv_at hl 1 rfl) ?_
  refine lv_iconst (v := (1 : Int32)) hx hb dX13_drawn_6 (by decide) ?_
  refine lv_bipush (v := (60 : Int32)) hx hb dX13_drawn_7 (by decide) ?_
  obtain ⟨q9, hq9, hf⟩ := mx_bd hf
  refine mx_callS C hM hl.1 yo_X13_isIn (h' := 0) (by decide) qw_1608 qw_1609 (As := [.int i1, .int (1 : Int32), .int (60 : Int32)]) (rest := []) (st1 := [.int (mx_b q9)]) (kX13_isIn C.2.2.2.1 i1 (1 : Int32) (60 : Int32) hT (mx_si M 0 0 (0 : Int32)) hq9) rfl rfl rfl (Nat.le_of_ble_eq_true rfl) dX13_drawn_9 (fun H locs hM => ?_)
  refine lv_if_ne (tgt := 17) hx hb dX13_drawn_12 (by decide) (fun hc12 => ?_) (fun hc12 => ?_)
  · replace hf := mx_iff hc12 hf
    refine lv_aload_n hx hb dX13_drawn_17 rfl (lv_at hl 0 rfl) ?_
    refine g13_33 C hT hM dX13_drawn_18 ?_
    refine lv_bipush (v := (54 : Int32)) hx hb dX13_drawn_21 (by decide) ?_
    refine mx_ialdL C hM (mt_2 hT) (j := 54) (by decide) (mx_in_vp (by decide)) dX13_drawn_23 ?_
    refine lv_sipush (v := (400 : Int32)) hx hb dX13_drawn_24 (by decide) ?_
    refine lv_icmp_ge (tgt := 34) hx hb dX13_drawn_27 (by decide) (fun hc27 => ?_) (fun hc27 => ?_)
    · replace hf := mx_ift hc27 hf
      exact wfX13_drawn_34 C i1 i2 hT (mx_si M 0 0 (0 : Int32)) _ _ _ hf hM (lv_sub hl [0, 1, 2] rfl)
    · replace hf := mx_iff hc27 hf
      refine lv_aload_n hx hb dX13_drawn_30 rfl (lv_at hl 0 rfl) ?_
      obtain ⟨q31, hq31, hf⟩ := mx_bd hf
      refine mx_callV C hM hl.1 yo_X13_keep (h' := 0) (by decide) qw_1709 qw_1711 qs_141 (ci := 13) (q := (RX13, TX13, 52)) rfl (mt_0 hT) (As := []) (rest := []) (st1 := []) (kX13_keep C.2.2.2.1  hT (mx_si M 0 0 (0 : Int32)) hq31) rfl rfl rfl (Nat.le_of_ble_eq_true rfl) dX13_drawn_31 (fun H locs hM => ?_)
      exact wfX13_drawn_34 C i1 i2 hT q31 _ _ _ hf hM (lv_sub hl [0, 1, 2] rfl)
  · replace hf := mx_ift hc12 hf
    refine lv_iconst (v := (-1 : Int32)) hx hb dX13_drawn_15 (by decide) ?_
    exact mx_iret C hM hf dX13_drawn_16
theorem dX13_odds_0 : decode cX13_odds 0 = .ok (.aload_n 0, 1) := by decide +kernel
theorem dX13_odds_1 : decode cX13_odds 1 = .ok (.iconst 0, 1) := by decide +kernel
theorem dX13_odds_2 : decode cX13_odds 2 = .ok (.putfield 1, 3) := by decide +kernel
theorem dX13_odds_5 : decode cX13_odds 5 = .ok (.aload_n 0, 1) := by decide +kernel
theorem dX13_odds_6 : decode cX13_odds 6 = .ok (.iload_n 1, 1) := by decide +kernel
theorem dX13_odds_7 : decode cX13_odds 7 = .ok (.invokevirtual 289, 3) := by decide +kernel
theorem dX13_odds_10 : decode cX13_odds 10 = .ok (.ifCond .eq 13, 3) := by decide +kernel
theorem dX13_odds_13 : decode cX13_odds 13 = .ok (.iload_n 2, 1) := by decide +kernel
theorem dX13_odds_14 : decode cX13_odds 14 = .ok (.iconst 1, 1) := by decide +kernel
theorem dX13_odds_15 : decode cX13_odds 15 = .ok (.bipush 30, 2) := by decide +kernel
theorem dX13_odds_17 : decode cX13_odds 17 = .ok (.invokestatic 193, 3) := by decide +kernel
theorem dX13_odds_20 : decode cX13_odds 20 = .ok (.ifCond .ne 5, 3) := by decide +kernel
theorem dX13_odds_23 : decode cX13_odds 23 = .ok (.iconst (-1), 1) := by decide +kernel
theorem dX13_odds_24 : decode cX13_odds 24 = .ok (.ireturn, 1) := by decide +kernel
theorem dX13_odds_25 : decode cX13_odds 25 = .ok (.aload_n 0, 1) := by decide +kernel
theorem dX13_odds_26 : decode cX13_odds 26 = .ok (.invokevirtual 425, 3) := by decide +kernel
theorem dX13_odds_29 : decode cX13_odds 29 = .ok (.iconst 0, 1) := by decide +kernel
theorem dX13_odds_30 : decode cX13_odds 30 = .ok (.istore 4, 2) := by decide +kernel
theorem dX13_odds_32 : decode cX13_odds 32 = .ok (.iconst 0, 1) := by decide +kernel
theorem dX13_odds_33 : decode cX13_odds 33 = .ok (.istore 5, 2) := by decide +kernel
theorem dX13_odds_35 : decode cX13_odds 35 = .ok (.iload 5, 2) := by decide +kernel
theorem dX13_odds_37 : decode cX13_odds 37 = .ok (.iload_n 2, 1) := by decide +kernel
theorem dX13_odds_38 : decode cX13_odds 38 = .ok (.if_icmp .ge 51, 3) := by decide +kernel
theorem dX13_odds_41 : decode cX13_odds 41 = .ok (.aload_n 0, 1) := by decide +kernel
theorem dX13_odds_42 : decode cX13_odds 42 = .ok (.bipush 20, 2) := by decide +kernel
theorem dX13_odds_44 : decode cX13_odds 44 = .ok (.iload_n 3, 1) := by decide +kernel
theorem dX13_odds_45 : decode cX13_odds 45 = .ok (.iload 5, 2) := by decide +kernel
theorem dX13_odds_47 : decode cX13_odds 47 = .ok (.iadd, 1) := by decide +kernel
theorem dX13_odds_48 : decode cX13_odds 48 = .ok (.invokevirtual 422, 3) := by decide +kernel
theorem dX13_odds_51 : decode cX13_odds 51 = .ok (.pop, 1) := by decide +kernel
theorem dX13_odds_52 : decode cX13_odds 52 = .ok (.iload 4, 2) := by decide +kernel
theorem dX13_odds_54 : decode cX13_odds 54 = .ok (.aload_n 0, 1) := by decide +kernel
theorem dX13_odds_55 : decode cX13_odds 55 = .ok (.aload_n 0, 1) := by decide +kernel
theorem dX13_odds_56 : decode cX13_odds 56 = .ok (.getfield 33, 3) := by decide +kernel
theorem dX13_odds_59 : decode cX13_odds 59 = .ok (.bipush 33, 2) := by decide +kernel
theorem dX13_odds_61 : decode cX13_odds 61 = .ok (.iload_n 1, 1) := by decide +kernel
theorem dX13_odds_62 : decode cX13_odds 62 = .ok (.iadd, 1) := by decide +kernel
theorem dX13_odds_63 : decode cX13_odds 63 = .ok (.iaload, 1) := by decide +kernel
theorem dX13_odds_64 : decode cX13_odds 64 = .ok (.iload_n 1, 1) := by decide +kernel
theorem dX13_odds_65 : decode cX13_odds 65 = .ok (.invokevirtual 301, 3) := by decide +kernel
theorem dX13_odds_68 : decode cX13_odds 68 = .ok (.ifCond .eq 7, 3) := by decide +kernel
theorem dX13_odds_71 : decode cX13_odds 71 = .ok (.iconst 1, 1) := by decide +kernel
theorem dX13_odds_72 : decode cX13_odds 72 = .ok (.goto 4, 3) := by decide +kernel
theorem dX13_odds_75 : decode cX13_odds 75 = .ok (.iconst 0, 1) := by decide +kernel
theorem dX13_odds_76 : decode cX13_odds 76 = .ok (.iadd, 1) := by decide +kernel
theorem dX13_odds_77 : decode cX13_odds 77 = .ok (.istore 4, 2) := by decide +kernel
theorem dX13_odds_79 : decode cX13_odds 79 = .ok (.aload_n 0, 1) := by decide +kernel
theorem dX13_odds_80 : decode cX13_odds 80 = .ok (.invokevirtual 428, 3) := by decide +kernel
theorem dX13_odds_83 : decode cX13_odds 83 = .ok (.iinc 5 1, 3) := by decide +kernel
theorem dX13_odds_86 : decode cX13_odds 86 = .ok (.goto (-51), 3) := by decide +kernel
theorem dX13_odds_89 : decode cX13_odds 89 = .ok (.iload 4, 2) := by decide +kernel
theorem dX13_odds_91 : decode cX13_odds 91 = .ok (.ireturn, 1) := by decide +kernel
set_option maxRecDepth 100000 in
set_option maxHeartbeats 4000000 in
theorem wfX13_odds_76 {E : KE} {p : Program} {l : Launch} {e : Env} {s : State} {m : MethodId} {args : Array Value} {below : List Frame} {meth : Method} {c : Code} {q : (Int32 × MM)} (C : mx_C E p m c cX13_odds 6 s args RX13 meth (some .int)) (i1 : Int32) (i2 : Int32) (i3 : Int32) (hT : E.1 = mt)  (k35 : Int32 → Int32 → MM → Option (Int32 × MM)) (hk35 : ∀ (i4 : Int32) (i5 : Int32) (M : MM) (H : Heap) (locs : List Loc) (ls : Array Slot), k35 i4 i5 M = some q → mx_H E s M H locs → lv_has ls 6 [(0, .ref (E.2.1.2.1 0)), (1, .int i1), (2, .int i2), (3, .int i3), (4, .int i4), (5, .int i5)] → W p l e (mx_rm 6) s m args below meth c H locs 0 0 (mx_Z E below args s (some (.int q.1)) q.2) (F0 m 35 ls [])) : ∀ (i5 : Int32) (is0 : Int32) (bs1 : Bool) (M : MM) (H : Heap) (locs : List Loc) (ls : Array Slot), fX13_odds_76 i1 i2 i3 k35 i5 is0 bs1 M = some q → mx_H E s M H locs → lv_has ls 6 [(0, .ref (E.2.1.2.1 0)), (1, .int i1), (2, .int i2), (3, .int i3), (5, .int i5)] → W p l e (mx_rm 6) s m args below meth c H locs 0 0 (mx_Z E below args s (some (.int q.1)) q.2) (F0 m 76 ls [.int (mx_b bs1), .int is0]) := by
  have hx := C.1.1
  have hb := C.1.2.1
  have hown := C.1.2.2.2.1
  have hts := C.1.2.2.2.2
  intro i5 is0 bs1 M H locs ls hf hM hl
  rw [fX13_odds_76] at hf
  refine lv_iadd hx hb dX13_odds_76 ?_
  refine lv_istore (lv' := [(4, .int (is0 + (mx_b bs1))), (0, .ref (E.2.1.2.1 0)), (1, .int i1), (2, .int i2), (3, .int i3), (5, .int i5)]) hx hb dX13_odds_77 hl (by decide) rfl (fun ls hl => ?_)
  refine lv_aload_n hx hb dX13_odds_79 rfl (lv_at hl 1 rfl) ?_
  obtain ⟨q80, hq80, hf⟩ := mx_bd hf
  refine mx_callV C hM hl.1 yo_X13_back (h' := 0) (by decide) qw_1938 qw_1940 qs_172 (ci := 13) (q := (RX13, TX13, 52)) rfl (mt_0 hT) (As := []) (rest := []) (st1 := []) (kX13_back C.2.2.2.1  hT M hq80) rfl rfl rfl (Nat.le_of_ble_eq_true rfl) dX13_odds_80 (fun H locs hM => ?_)
  refine lv_iinc (v := (i5 + (1 : Int32))) (lv' := [(5, .int (i5 + (1 : Int32))), (4, .int (is0 + (mx_b bs1))), (0, .ref (E.2.1.2.1 0)), (1, .int i1), (2, .int i2), (3, .int i3)]) hx hb dX13_odds_83 hl (k := 5) rfl rfl (by decide) rfl (fun ls hl => ?_)
  refine lv_goto (tgt := 35) hx hb dX13_odds_86 (by decide) ?_
  exact hk35 (is0 + (mx_b bs1)) (i5 + (1 : Int32)) q80 _ _ _ hf hM (lv_sub hl [2, 3, 4, 5, 1, 0] rfl)
set_option maxRecDepth 100000 in
set_option maxHeartbeats 4000000 in
theorem wfX13_odds_35 {E : KE} {p : Program} {l : Launch} {e : Env} {s : State} {m : MethodId} {args : Array Value} {below : List Frame} {meth : Method} {c : Code} {q : (Int32 × MM)} (C : mx_C E p m c cX13_odds 6 s args RX13 meth (some .int)) (i1 : Int32) (i2 : Int32) (i3 : Int32) (hT : E.1 = mt)   : ∀ (n : Nat) (i4 : Int32) (i5 : Int32) (M : MM) (H : Heap) (locs : List Loc) (ls : Array Slot), fX13_odds_35 i1 i2 i3 n i4 i5 M = some q → mx_H E s M H locs → lv_has ls 6 [(0, .ref (E.2.1.2.1 0)), (1, .int i1), (2, .int i2), (3, .int i3), (4, .int i4), (5, .int i5)] → W p l e (mx_rm 6) s m args below meth c H locs 0 0 (mx_Z E below args s (some (.int q.1)) q.2) (F0 m 35 ls []) := by
  have hx := C.1.1
  have hb := C.1.2.1
  have hown := C.1.2.2.2.1
  have hts := C.1.2.2.2.2
  intro n
  induction n with
  | zero =>
    intro i4 i5 M H locs ls hf hM hl
    rw [fX13_odds_35] at hf
    cases hf
  | succ n ih =>
    intro i4 i5 M H locs ls hf hM hl
    rw [fX13_odds_35] at hf
    refine lv_iload hx hb dX13_odds_35 (lv_at hl 5 rfl) ?_
    refine lv_iload_n hx hb dX13_odds_37 rfl (lv_at hl 2 rfl) ?_
    refine lv_icmp_ge (tgt := 89) hx hb dX13_odds_38 (by decide) (fun hc38 => ?_) (fun hc38 => ?_)
    · replace hf := mx_ift hc38 hf
      refine lv_iload hx hb dX13_odds_89 (lv_at hl 4 rfl) ?_
      exact mx_iret C hM hf dX13_odds_91
    · replace hf := mx_iff hc38 hf
      refine lv_aload_n hx hb dX13_odds_41 rfl (lv_at hl 0 rfl) ?_
      refine lv_bipush (v := (20 : Int32)) hx hb dX13_odds_42 (by decide) ?_
      refine lv_iload_n hx hb dX13_odds_44 rfl (lv_at hl 3 rfl) ?_
      refine lv_iload hx hb dX13_odds_45 (lv_at hl 5 rfl) ?_
      refine lv_iadd hx hb dX13_odds_47 ?_
      obtain ⟨q48, hq48, hf⟩ := mx_bd hf
      refine mx_callV C hM hl.1 yo_X13_draws (h' := 5) (by decide) qw_1917 qw_1919 qs_168 (ci := 13) (q := (RX13, TX13, 52)) rfl (mt_0 hT) (As := [.int (20 : Int32), .int (i3 + i5)]) (rest := []) (st1 := [.int q48.1]) (kX13_draws C.2.2.2.1 (20 : Int32) (i3 + i5) hT M hq48) rfl rfl rfl (Nat.le_of_ble_eq_true rfl) dX13_odds_48 (fun H locs hM => ?_)
      refine lv_pop hx hb dX13_odds_51 rfl ?_
      refine lv_iload hx hb dX13_odds_52 (lv_at hl 4 rfl) ?_
      refine lv_aload_n hx hb dX13_odds_54 rfl (lv_at hl 0 rfl) ?_
      refine lv_aload_n hx hb dX13_odds_55 rfl (lv_at hl 0 rfl) ?_
      refine g13_33 C hT hM dX13_odds_56 ?_
      refine lv_bipush (v := (33 : Int32)) hx hb dX13_odds_59 (by decide) ?_
      refine lv_iload_n hx hb dX13_odds_61 rfl (lv_at hl 1 rfl) ?_
      refine lv_iadd hx hb dX13_odds_62 ?_
      obtain ⟨hg63, hf⟩ := mx_gd hf
      refine mx_iald C hM (mt_2 hT) (mx_in_vp hg63) dX13_odds_63 ?_
      refine lv_iload_n hx hb dX13_odds_64 rfl (lv_at hl 1 rfl) ?_
      obtain ⟨q65, hq65, hf⟩ := mx_bd hf
      refine mx_callV C hM hl.1 yo_X13_has (h' := 0) (by decide) qw_1773 qw_1775 qs_152 (ci := 13) (q := (RX13, TX13, 52)) rfl (mt_0 hT) (As := [.int (q48.2.1 2 ((33 : Int32) + i1).toNatClampNeg), .int i1]) (rest := [.int i4]) (st1 := [.int (mx_b q65), .int i4]) (kX13_has C.2.2.2.1 (q48.2.1 2 ((33 : Int32) + i1).toNatClampNeg) i1 hT q48.2 hq65) rfl rfl rfl (Nat.le_of_ble_eq_true rfl) dX13_odds_65 (fun H locs hM => ?_)
      refine lv_if_eq (tgt := 75) hx hb dX13_odds_68 (by decide) (fun hc68 => ?_) (fun hc68 => ?_)
      · replace hf := mx_ift hc68 hf
        refine lv_iconst (v := (0 : Int32)) hx hb dX13_odds_75 (by decide) ?_
        exact wfX13_odds_76 C i1 i2 i3 hT (fX13_odds_35 i1 i2 i3 n) ih i5 i4 false q48.2 _ _ _ hf hM (lv_sub hl [0, 1, 2, 3, 5] rfl)
      · replace hf := mx_iff hc68 hf
        refine lv_iconst (v := (1 : Int32)) hx hb dX13_odds_71 (by decide) ?_
        refine lv_goto (tgt := 76) hx hb dX13_odds_72 (by decide) ?_
        exact wfX13_odds_76 C i1 i2 i3 hT (fX13_odds_35 i1 i2 i3 n) ih i5 i4 true q48.2 _ _ _ hf hM (lv_sub hl [0, 1, 2, 3, 5] rfl)
set_option maxRecDepth 100000 in
set_option maxHeartbeats 4000000 in
theorem kX13_odds {E : KE} {l : Launch} (hE : mx_ok E) (i1 : Int32) (i2 : Int32) (i3 : Int32) (hT : E.1 = mt) (M : MM) {q : (Int32 × MM)} (hf : fX13_odds i1 i2 i3 M = some q) : mx_Met E l yX13_odds cX13_odds 6 (some .int) 6 [.ref (E.2.1.2.1 0), .int i1, .int i2, .int i3] M (some (.int q.1)) q.2 := by
  refine mx_enter hE (by decide) (Nat.le_of_ble_eq_true rfl) ?_
  intro p e s m below meth c C hM hn ls hl
  have hx := C.1.1
  have hb := C.1.2.1
  have hown := C.1.2.2.2.1
  have hts := C.1.2.2.2.2
  have hl : lv_has ls 6 [(0, .ref (E.2.1.2.1 0)), (1, .int i1), (2, .int i2), (3, .int i3)] := hl
  rw [fX13_odds] at hf
  refine lv_aload_n hx hb dX13_odds_0 rfl (lv_at hl 0 rfl) ?_
  refine lv_iconst (v := (0 : Int32)) hx hb dX13_odds_1 (by decide) ?_
  refine p13_1 C hT hM dX13_odds_2 (fun H locs hM => ?_)
  refine lv_aload_n hx hb dX13_odds_5 rfl (lv_at hl 0 rfl) ?_
  refine lv_iload_n hx hb dX13_odds_6 rfl (lv_at hl 1 rfl) ?_
  obtain ⟨q7, hq7, hf⟩ := mx_bd hf
  refine mx_callV C hM hl.1 yo_X13_isRing (h' := 1) (by decide) qw_1674 qw_1676 qs_136 (ci := 13) (q := (RX13, TX13, 52)) rfl (mt_0 hT) (As := [.int i1]) (rest := []) (st1 := [.int (mx_b q7)]) (kX13_isRing C.2.2.2.1 i1 hT (mx_si M 0 0 (0 : Int32)) hq7) rfl rfl rfl (Nat.le_of_ble_eq_true rfl) dX13_odds_7 (fun H locs hM => ?_)
  refine lv_if_eq (tgt := 23) hx hb dX13_odds_10 (by decide) (fun hc10 => ?_) (fun hc10 => ?_)
  · replace hf := mx_ift hc10 hf
    refine lv_iconst (v := (-1 : Int32)) hx hb dX13_odds_23 (by decide) ?_
    exact mx_iret C hM hf dX13_odds_24
  · replace hf := mx_iff hc10 hf
    refine lv_iload_n hx hb dX13_odds_13 rfl (lv_at hl 2 rfl) ?_
    refine lv_iconst (v := (1 : Int32)) hx hb dX13_odds_14 (by decide) ?_
    refine lv_bipush (v := (30 : Int32)) hx hb dX13_odds_15 (by decide) ?_
    obtain ⟨q17, hq17, hf⟩ := mx_bd hf
    refine mx_callS C hM hl.1 yo_X13_isIn (h' := 0) (by decide) qw_1608 qw_1609 (As := [.int i2, .int (1 : Int32), .int (30 : Int32)]) (rest := []) (st1 := [.int (mx_b q17)]) (kX13_isIn C.2.2.2.1 i2 (1 : Int32) (30 : Int32) hT (mx_si M 0 0 (0 : Int32)) hq17) rfl rfl rfl (Nat.le_of_ble_eq_true rfl) dX13_odds_17 (fun H locs hM => ?_)
    refine lv_if_ne (tgt := 25) hx hb dX13_odds_20 (by decide) (fun hc20 => ?_) (fun hc20 => ?_)
    · replace hf := mx_iff hc20 hf
      refine lv_aload_n hx hb dX13_odds_25 rfl (lv_at hl 0 rfl) ?_
      obtain ⟨q26, hq26, hf⟩ := mx_bd hf
      refine mx_callV C hM hl.1 yo_X13_tries (h' := 0) (by decide) qw_1934 qw_1936 qs_171 (ci := 13) (q := (RX13, TX13, 52)) rfl (mt_0 hT) (As := []) (rest := []) (st1 := []) (kX13_tries C.2.2.2.1  hT (mx_si M 0 0 (0 : Int32)) hq26) rfl rfl rfl (Nat.le_of_ble_eq_true rfl) dX13_odds_26 (fun H locs hM => ?_)
      refine lv_iconst (v := (0 : Int32)) hx hb dX13_odds_29 (by decide) ?_
      refine lv_istore (lv' := [(4, .int (0 : Int32)), (0, .ref (E.2.1.2.1 0)), (1, .int i1), (2, .int i2), (3, .int i3)]) hx hb dX13_odds_30 hl (by decide) rfl (fun ls hl => ?_)
      refine lv_iconst (v := (0 : Int32)) hx hb dX13_odds_32 (by decide) ?_
      refine lv_istore (lv' := [(5, .int (0 : Int32)), (4, .int (0 : Int32)), (0, .ref (E.2.1.2.1 0)), (1, .int i1), (2, .int i2), (3, .int i3)]) hx hb dX13_odds_33 hl (by decide) rfl (fun ls hl => ?_)
      exact wfX13_odds_35 C i1 i2 i3 hT mx_fu (0 : Int32) (0 : Int32) q26 _ _ _ hf hM (lv_sub hl [2, 3, 4, 5, 1, 0] rfl)
    · replace hf := mx_ift hc20 hf
      refine lv_iconst (v := (-1 : Int32)) hx hb dX13_odds_23 (by decide) ?_
      exact mx_iret C hM hf dX13_odds_24
theorem dX13_bookLine_0 : decode cX13_bookLine 0 = .ok (.iconst 4, 1) := by decide +kernel
theorem dX13_bookLine_1 : decode cX13_bookLine 1 = .ok (.aload_n 0, 1) := by decide +kernel
theorem dX13_bookLine_2 : decode cX13_bookLine 2 = .ok (.getfield 431, 3) := by decide +kernel
theorem dX13_bookLine_5 : decode cX13_bookLine 5 = .ok (.imul, 1) := by decide +kernel
theorem dX13_bookLine_6 : decode cX13_bookLine 6 = .ok (.istore_n 1, 1) := by decide +kernel
theorem dX13_bookLine_7 : decode cX13_bookLine 7 = .ok (.aload_n 0, 1) := by decide +kernel
theorem dX13_bookLine_8 : decode cX13_bookLine 8 = .ok (.ldc2_w 122, 3) := by decide +kernel
theorem dX13_bookLine_11 : decode cX13_bookLine 11 = .ok (.invokevirtual 224, 3) := by decide +kernel
theorem dX13_bookLine_14 : decode cX13_bookLine 14 = .ok (.istore_n 2, 1) := by decide +kernel
theorem dX13_bookLine_15 : decode cX13_bookLine 15 = .ok (.iload_n 2, 1) := by decide +kernel
theorem dX13_bookLine_16 : decode cX13_bookLine 16 = .ok (.ifCond .ne 19, 3) := by decide +kernel
theorem dX13_bookLine_19 : decode cX13_bookLine 19 = .ok (.aload_n 0, 1) := by decide +kernel
theorem dX13_bookLine_20 : decode cX13_bookLine 20 = .ok (.iconst 0, 1) := by decide +kernel
theorem dX13_bookLine_21 : decode cX13_bookLine 21 = .ok (.aload_n 0, 1) := by decide +kernel
theorem dX13_bookLine_22 : decode cX13_bookLine 22 = .ok (.getfield 33, 3) := by decide +kernel
theorem dX13_bookLine_25 : decode cX13_bookLine 25 = .ok (.iconst 0, 1) := by decide +kernel
theorem dX13_bookLine_26 : decode cX13_bookLine 26 = .ok (.iaload, 1) := by decide +kernel
theorem dX13_bookLine_27 : decode cX13_bookLine 27 = .ok (.invokevirtual 212, 3) := by decide +kernel
theorem dX13_bookLine_30 : decode cX13_bookLine 30 = .ok (.ifCond .ne 5, 3) := by decide +kernel
theorem dX13_bookLine_33 : decode cX13_bookLine 33 = .ok (.iconst 0, 1) := by decide +kernel
theorem dX13_bookLine_34 : decode cX13_bookLine 34 = .ok (.ireturn, 1) := by decide +kernel
theorem dX13_bookLine_35 : decode cX13_bookLine 35 = .ok (.aload_n 0, 1) := by decide +kernel
theorem dX13_bookLine_36 : decode cX13_bookLine 36 = .ok (.getfield 431, 3) := by decide +kernel
theorem dX13_bookLine_39 : decode cX13_bookLine 39 = .ok (.bipush 40, 2) := by decide +kernel
theorem dX13_bookLine_41 : decode cX13_bookLine 41 = .ok (.if_icmp .ne 9, 3) := by decide +kernel
theorem dX13_bookLine_44 : decode cX13_bookLine 44 = .ok (.aload_n 0, 1) := by decide +kernel
theorem dX13_bookLine_45 : decode cX13_bookLine 45 = .ok (.iconst 4, 1) := by decide +kernel
theorem dX13_bookLine_46 : decode cX13_bookLine 46 = .ok (.invokevirtual 187, 3) := by decide +kernel
theorem dX13_bookLine_49 : decode cX13_bookLine 49 = .ok (.ireturn, 1) := by decide +kernel
theorem dX13_bookLine_50 : decode cX13_bookLine 50 = .ok (.aload_n 0, 1) := by decide +kernel
theorem dX13_bookLine_51 : decode cX13_bookLine 51 = .ok (.getfield 197, 3) := by decide +kernel
theorem dX13_bookLine_54 : decode cX13_bookLine 54 = .ok (.istore_n 3, 1) := by decide +kernel
theorem dX13_bookLine_55 : decode cX13_bookLine 55 = .ok (.aload_n 0, 1) := by decide +kernel
theorem dX13_bookLine_56 : decode cX13_bookLine 56 = .ok (.invokevirtual 190, 3) := by decide +kernel
theorem dX13_bookLine_59 : decode cX13_bookLine 59 = .ok (.aload_n 0, 1) := by decide +kernel
theorem dX13_bookLine_60 : decode cX13_bookLine 60 = .ok (.getfield 40, 3) := by decide +kernel
theorem dX13_bookLine_63 : decode cX13_bookLine 63 = .ok (.iload_n 1, 1) := by decide +kernel
theorem dX13_bookLine_64 : decode cX13_bookLine 64 = .ok (.iconst 5, 1) := by decide +kernel
theorem dX13_bookLine_65 : decode cX13_bookLine 65 = .ok (.iastore, 1) := by decide +kernel
theorem dX13_bookLine_66 : decode cX13_bookLine 66 = .ok (.iload_n 2, 1) := by decide +kernel
theorem dX13_bookLine_67 : decode cX13_bookLine 67 = .ok (.ifCond .eq 29, 3) := by decide +kernel
theorem dX13_bookLine_70 : decode cX13_bookLine 70 = .ok (.aload_n 0, 1) := by decide +kernel
theorem dX13_bookLine_71 : decode cX13_bookLine 71 = .ok (.iconst 1, 1) := by decide +kernel
theorem dX13_bookLine_72 : decode cX13_bookLine 72 = .ok (.bipush 60, 2) := by decide +kernel
theorem dX13_bookLine_74 : decode cX13_bookLine 74 = .ok (.invokevirtual 200, 3) := by decide +kernel
theorem dX13_bookLine_77 : decode cX13_bookLine 77 = .ok (.ifCond .ne 5, 3) := by decide +kernel
theorem dX13_bookLine_80 : decode cX13_bookLine 80 = .ok (.iconst 0, 1) := by decide +kernel
theorem dX13_bookLine_81 : decode cX13_bookLine 81 = .ok (.ireturn, 1) := by decide +kernel
theorem dX13_bookLine_82 : decode cX13_bookLine 82 = .ok (.aload_n 0, 1) := by decide +kernel
theorem dX13_bookLine_83 : decode cX13_bookLine 83 = .ok (.getfield 40, 3) := by decide +kernel
theorem dX13_bookLine_86 : decode cX13_bookLine 86 = .ok (.iload_n 1, 1) := by decide +kernel
theorem dX13_bookLine_87 : decode cX13_bookLine 87 = .ok (.iconst 1, 1) := by decide +kernel
theorem dX13_bookLine_88 : decode cX13_bookLine 88 = .ok (.iadd, 1) := by decide +kernel
theorem dX13_bookLine_89 : decode cX13_bookLine 89 = .ok (.aload_n 0, 1) := by decide +kernel
theorem dX13_bookLine_90 : decode cX13_bookLine 90 = .ok (.getfield 197, 3) := by decide +kernel
theorem dX13_bookLine_93 : decode cX13_bookLine 93 = .ok (.iastore, 1) := by decide +kernel
theorem dX13_bookLine_94 : decode cX13_bookLine 94 = .ok (.iconst 1, 1) := by decide +kernel
theorem dX13_bookLine_95 : decode cX13_bookLine 95 = .ok (.ireturn, 1) := by decide +kernel
theorem dX13_bookLine_96 : decode cX13_bookLine 96 = .ok (.aload_n 0, 1) := by decide +kernel
theorem dX13_bookLine_97 : decode cX13_bookLine 97 = .ok (.ldc2_w 112, 3) := by decide +kernel
theorem dX13_bookLine_100 : decode cX13_bookLine 100 = .ok (.invokevirtual 224, 3) := by decide +kernel
theorem dX13_bookLine_103 : decode cX13_bookLine 103 = .ok (.ifCond .eq 7, 3) := by decide +kernel
theorem dX13_bookLine_106 : decode cX13_bookLine 106 = .ok (.iconst 0, 1) := by decide +kernel
theorem dX13_bookLine_107 : decode cX13_bookLine 107 = .ok (.goto 60, 3) := by decide +kernel
theorem dX13_bookLine_110 : decode cX13_bookLine 110 = .ok (.aload_n 0, 1) := by decide +kernel
theorem dX13_bookLine_111 : decode cX13_bookLine 111 = .ok (.ldc2_w 114, 3) := by decide +kernel
theorem dX13_bookLine_114 : decode cX13_bookLine 114 = .ok (.invokevirtual 224, 3) := by decide +kernel
theorem dX13_bookLine_117 : decode cX13_bookLine 117 = .ok (.ifCond .eq 7, 3) := by decide +kernel
theorem dX13_bookLine_120 : decode cX13_bookLine 120 = .ok (.iconst 1, 1) := by decide +kernel
theorem dX13_bookLine_121 : decode cX13_bookLine 121 = .ok (.goto 46, 3) := by decide +kernel
theorem dX13_bookLine_124 : decode cX13_bookLine 124 = .ok (.aload_n 0, 1) := by decide +kernel
theorem dX13_bookLine_125 : decode cX13_bookLine 125 = .ok (.ldc2_w 116, 3) := by decide +kernel
theorem dX13_bookLine_128 : decode cX13_bookLine 128 = .ok (.invokevirtual 224, 3) := by decide +kernel
theorem dX13_bookLine_131 : decode cX13_bookLine 131 = .ok (.ifCond .eq 7, 3) := by decide +kernel
theorem dX13_bookLine_134 : decode cX13_bookLine 134 = .ok (.iconst 2, 1) := by decide +kernel
theorem dX13_bookLine_135 : decode cX13_bookLine 135 = .ok (.goto 32, 3) := by decide +kernel
theorem dX13_bookLine_138 : decode cX13_bookLine 138 = .ok (.aload_n 0, 1) := by decide +kernel
theorem dX13_bookLine_139 : decode cX13_bookLine 139 = .ok (.ldc2_w 118, 3) := by decide +kernel
theorem dX13_bookLine_142 : decode cX13_bookLine 142 = .ok (.invokevirtual 224, 3) := by decide +kernel
theorem dX13_bookLine_145 : decode cX13_bookLine 145 = .ok (.ifCond .eq 7, 3) := by decide +kernel
theorem dX13_bookLine_148 : decode cX13_bookLine 148 = .ok (.iconst 3, 1) := by decide +kernel
theorem dX13_bookLine_149 : decode cX13_bookLine 149 = .ok (.goto 18, 3) := by decide +kernel
theorem dX13_bookLine_152 : decode cX13_bookLine 152 = .ok (.aload_n 0, 1) := by decide +kernel
theorem dX13_bookLine_153 : decode cX13_bookLine 153 = .ok (.ldc2_w 120, 3) := by decide +kernel
theorem dX13_bookLine_156 : decode cX13_bookLine 156 = .ok (.invokevirtual 224, 3) := by decide +kernel
theorem dX13_bookLine_159 : decode cX13_bookLine 159 = .ok (.ifCond .eq 7, 3) := by decide +kernel
theorem dX13_bookLine_162 : decode cX13_bookLine 162 = .ok (.iconst 4, 1) := by decide +kernel
theorem dX13_bookLine_163 : decode cX13_bookLine 163 = .ok (.goto 4, 3) := by decide +kernel
theorem dX13_bookLine_166 : decode cX13_bookLine 166 = .ok (.iconst (-1), 1) := by decide +kernel
theorem dX13_bookLine_167 : decode cX13_bookLine 167 = .ok (.istore 4, 2) := by decide +kernel
theorem dX13_bookLine_169 : decode cX13_bookLine 169 = .ok (.iload 4, 2) := by decide +kernel
theorem dX13_bookLine_171 : decode cX13_bookLine 171 = .ok (.ifCond .ge 9, 3) := by decide +kernel
theorem dX13_bookLine_174 : decode cX13_bookLine 174 = .ok (.aload_n 0, 1) := by decide +kernel
theorem dX13_bookLine_175 : decode cX13_bookLine 175 = .ok (.iconst 1, 1) := by decide +kernel
theorem dX13_bookLine_176 : decode cX13_bookLine 176 = .ok (.invokevirtual 187, 3) := by decide +kernel
theorem dX13_bookLine_179 : decode cX13_bookLine 179 = .ok (.ireturn, 1) := by decide +kernel
theorem dX13_bookLine_180 : decode cX13_bookLine 180 = .ok (.aload_n 0, 1) := by decide +kernel
theorem dX13_bookLine_181 : decode cX13_bookLine 181 = .ok (.invokevirtual 190, 3) := by decide +kernel
theorem dX13_bookLine_184 : decode cX13_bookLine 184 = .ok (.aload_n 0, 1) := by decide +kernel
theorem dX13_bookLine_185 : decode cX13_bookLine 185 = .ok (.getfield 40, 3) := by decide +kernel
theorem dX13_bookLine_188 : decode cX13_bookLine 188 = .ok (.iload_n 1, 1) := by decide +kernel
theorem dX13_bookLine_189 : decode cX13_bookLine 189 = .ok (.iload 4, 2) := by decide +kernel
theorem dX13_bookLine_191 : decode cX13_bookLine 191 = .ok (.iastore, 1) := by decide +kernel
theorem dX13_bookLine_192 : decode cX13_bookLine 192 = .ok (.aload_n 0, 1) := by decide +kernel
theorem dX13_bookLine_193 : decode cX13_bookLine 193 = .ok (.getfield 40, 3) := by decide +kernel
theorem dX13_bookLine_196 : decode cX13_bookLine 196 = .ok (.iload_n 1, 1) := by decide +kernel
theorem dX13_bookLine_197 : decode cX13_bookLine 197 = .ok (.iconst 1, 1) := by decide +kernel
theorem dX13_bookLine_198 : decode cX13_bookLine 198 = .ok (.iadd, 1) := by decide +kernel
theorem dX13_bookLine_199 : decode cX13_bookLine 199 = .ok (.iload_n 3, 1) := by decide +kernel
theorem dX13_bookLine_200 : decode cX13_bookLine 200 = .ok (.iastore, 1) := by decide +kernel
theorem dX13_bookLine_201 : decode cX13_bookLine 201 = .ok (.iload 4, 2) := by decide +kernel
theorem dX13_bookLine_203 : decode cX13_bookLine 203 = .ok (.iconst 3, 1) := by decide +kernel
theorem dX13_bookLine_204 : decode cX13_bookLine 204 = .ok (.if_icmp .ne 5, 3) := by decide +kernel
theorem dX13_bookLine_207 : decode cX13_bookLine 207 = .ok (.iconst 1, 1) := by decide +kernel
theorem dX13_bookLine_208 : decode cX13_bookLine 208 = .ok (.ireturn, 1) := by decide +kernel
theorem dX13_bookLine_209 : decode cX13_bookLine 209 = .ok (.iload 4, 2) := by decide +kernel
theorem dX13_bookLine_211 : decode cX13_bookLine 211 = .ok (.ifCond .ne 13, 3) := by decide +kernel
theorem dX13_bookLine_214 : decode cX13_bookLine 214 = .ok (.aload_n 0, 1) := by decide +kernel
theorem dX13_bookLine_215 : decode cX13_bookLine 215 = .ok (.iconst 0, 1) := by decide +kernel
theorem dX13_bookLine_216 : decode cX13_bookLine 216 = .ok (.bipush 20, 2) := by decide +kernel
theorem dX13_bookLine_218 : decode cX13_bookLine 218 = .ok (.invokevirtual 200, 3) := by decide +kernel
theorem dX13_bookLine_221 : decode cX13_bookLine 221 = .ok (.goto 15, 3) := by decide +kernel
theorem dX13_bookLine_224 : decode cX13_bookLine 224 = .ok (.aload_n 0, 1) := by decide +kernel
theorem dX13_bookLine_225 : decode cX13_bookLine 225 = .ok (.bipush 7, 2) := by decide +kernel
theorem dX13_bookLine_227 : decode cX13_bookLine 227 = .ok (.aload_n 0, 1) := by decide +kernel
theorem dX13_bookLine_228 : decode cX13_bookLine 228 = .ok (.getfield 33, 3) := by decide +kernel
theorem dX13_bookLine_231 : decode cX13_bookLine 231 = .ok (.iconst 1, 1) := by decide +kernel
theorem dX13_bookLine_232 : decode cX13_bookLine 232 = .ok (.iaload, 1) := by decide +kernel
theorem dX13_bookLine_233 : decode cX13_bookLine 233 = .ok (.invokevirtual 241, 3) := by decide +kernel
theorem dX13_bookLine_236 : decode cX13_bookLine 236 = .ok (.istore 5, 2) := by decide +kernel
theorem dX13_bookLine_238 : decode cX13_bookLine 238 = .ok (.iload 5, 2) := by decide +kernel
theorem dX13_bookLine_240 : decode cX13_bookLine 240 = .ok (.ifCond .ne 5, 3) := by decide +kernel
theorem dX13_bookLine_243 : decode cX13_bookLine 243 = .ok (.iconst 0, 1) := by decide +kernel
theorem dX13_bookLine_244 : decode cX13_bookLine 244 = .ok (.ireturn, 1) := by decide +kernel
theorem dX13_bookLine_245 : decode cX13_bookLine 245 = .ok (.aload_n 0, 1) := by decide +kernel
theorem dX13_bookLine_246 : decode cX13_bookLine 246 = .ok (.getfield 40, 3) := by decide +kernel
theorem dX13_bookLine_249 : decode cX13_bookLine 249 = .ok (.iload_n 1, 1) := by decide +kernel
theorem dX13_bookLine_250 : decode cX13_bookLine 250 = .ok (.iconst 2, 1) := by decide +kernel
theorem dX13_bookLine_251 : decode cX13_bookLine 251 = .ok (.iadd, 1) := by decide +kernel
theorem dX13_bookLine_252 : decode cX13_bookLine 252 = .ok (.aload_n 0, 1) := by decide +kernel
theorem dX13_bookLine_253 : decode cX13_bookLine 253 = .ok (.getfield 197, 3) := by decide +kernel
theorem dX13_bookLine_256 : decode cX13_bookLine 256 = .ok (.iastore, 1) := by decide +kernel
theorem dX13_bookLine_257 : decode cX13_bookLine 257 = .ok (.iload 4, 2) := by decide +kernel
theorem dX13_bookLine_259 : decode cX13_bookLine 259 = .ok (.iconst 1, 1) := by decide +kernel
theorem dX13_bookLine_260 : decode cX13_bookLine 260 = .ok (.if_icmp .le 5, 3) := by decide +kernel
theorem dX13_bookLine_263 : decode cX13_bookLine 263 = .ok (.iconst 1, 1) := by decide +kernel
theorem dX13_bookLine_264 : decode cX13_bookLine 264 = .ok (.ireturn, 1) := by decide +kernel
theorem dX13_bookLine_265 : decode cX13_bookLine 265 = .ok (.iload 4, 2) := by decide +kernel
theorem dX13_bookLine_267 : decode cX13_bookLine 267 = .ok (.ifCond .ne 13, 3) := by decide +kernel
theorem dX13_bookLine_270 : decode cX13_bookLine 270 = .ok (.aload_n 0, 1) := by decide +kernel
theorem dX13_bookLine_271 : decode cX13_bookLine 271 = .ok (.iconst 0, 1) := by decide +kernel
theorem dX13_bookLine_272 : decode cX13_bookLine 272 = .ok (.bipush 20, 2) := by decide +kernel
theorem dX13_bookLine_274 : decode cX13_bookLine 274 = .ok (.invokevirtual 200, 3) := by decide +kernel
theorem dX13_bookLine_277 : decode cX13_bookLine 277 = .ok (.goto 14, 3) := by decide +kernel
theorem dX13_bookLine_280 : decode cX13_bookLine 280 = .ok (.aload_n 0, 1) := by decide +kernel
theorem dX13_bookLine_281 : decode cX13_bookLine 281 = .ok (.iconst 0, 1) := by decide +kernel
theorem dX13_bookLine_282 : decode cX13_bookLine 282 = .ok (.aload_n 0, 1) := by decide +kernel
theorem dX13_bookLine_283 : decode cX13_bookLine 283 = .ok (.getfield 33, 3) := by decide +kernel
theorem dX13_bookLine_286 : decode cX13_bookLine 286 = .ok (.iconst 0, 1) := by decide +kernel
theorem dX13_bookLine_287 : decode cX13_bookLine 287 = .ok (.iaload, 1) := by decide +kernel
theorem dX13_bookLine_288 : decode cX13_bookLine 288 = .ok (.invokevirtual 241, 3) := by decide +kernel
theorem dX13_bookLine_291 : decode cX13_bookLine 291 = .ok (.istore 5, 2) := by decide +kernel
theorem dX13_bookLine_293 : decode cX13_bookLine 293 = .ok (.aload_n 0, 1) := by decide +kernel
theorem dX13_bookLine_294 : decode cX13_bookLine 294 = .ok (.getfield 40, 3) := by decide +kernel
theorem dX13_bookLine_297 : decode cX13_bookLine 297 = .ok (.iload_n 1, 1) := by decide +kernel
theorem dX13_bookLine_298 : decode cX13_bookLine 298 = .ok (.iconst 3, 1) := by decide +kernel
theorem dX13_bookLine_299 : decode cX13_bookLine 299 = .ok (.iadd, 1) := by decide +kernel
theorem dX13_bookLine_300 : decode cX13_bookLine 300 = .ok (.aload_n 0, 1) := by decide +kernel
theorem dX13_bookLine_301 : decode cX13_bookLine 301 = .ok (.getfield 197, 3) := by decide +kernel
theorem dX13_bookLine_304 : decode cX13_bookLine 304 = .ok (.iastore, 1) := by decide +kernel
theorem dX13_bookLine_305 : decode cX13_bookLine 305 = .ok (.iload 5, 2) := by decide +kernel
theorem dX13_bookLine_307 : decode cX13_bookLine 307 = .ok (.ireturn, 1) := by decide +kernel
set_option maxRecDepth 100000 in
set_option maxHeartbeats 4000000 in
theorem wfX13_bookLine_291 {E : KE} {p : Program} {l : Launch} {e : Env} {s : State} {m : MethodId} {args : Array Value} {below : List Frame} {meth : Method} {c : Code} {q : (Bool × MM)} (C : mx_C E p m c cX13_bookLine 6 s args RX13 meth (some .boolean))  (hT : E.1 = mt)   : ∀ (i1 : Int32) (bs0 : Bool) (M : MM) (H : Heap) (locs : List Loc) (ls : Array Slot), fX13_bookLine_291 i1 bs0 M = some q → mx_H E s M H locs → lv_has ls 6 [(0, .ref (E.2.1.2.1 0)), (1, .int i1)] → W p l e (mx_rm 3) s m args below meth c H locs 0 0 (mx_Z E below args s (some (.int (mx_b q.1))) q.2) (F0 m 291 ls [.int (mx_b bs0)]) := by
  have hx := C.1.1
  have hb := C.1.2.1
  have hown := C.1.2.2.2.1
  have hts := C.1.2.2.2.2
  intro i1 bs0 M H locs ls hf hM hl
  rw [fX13_bookLine_291] at hf
  refine lv_istore (lv' := [(5, .int (mx_b bs0)), (0, .ref (E.2.1.2.1 0)), (1, .int i1)]) hx hb dX13_bookLine_291 hl (by decide) rfl (fun ls hl => ?_)
  refine lv_aload_n hx hb dX13_bookLine_293 rfl (lv_at hl 1 rfl) ?_
  refine g13_40 C hT hM dX13_bookLine_294 ?_
  refine lv_iload_n hx hb dX13_bookLine_297 rfl (lv_at hl 2 rfl) ?_
  refine lv_iconst (v := (3 : Int32)) hx hb dX13_bookLine_298 (by decide) ?_
  refine lv_iadd hx hb dX13_bookLine_299 ?_
  refine lv_aload_n hx hb dX13_bookLine_300 rfl (lv_at hl 1 rfl) ?_
  refine g13_197 C hT hM dX13_bookLine_301 ?_
  obtain ⟨hg304, hf⟩ := mx_gd hf
  refine mx_iast C hM (mt_4 hT) (mx_in_vp hg304) dX13_bookLine_304 (fun H locs hM => ?_)
  refine lv_iload hx hb dX13_bookLine_305 (lv_at hl 0 rfl) ?_
  exact mx_zret C hM (b := bs0) rfl hf dX13_bookLine_307
set_option maxRecDepth 100000 in
set_option maxHeartbeats 4000000 in
theorem wfX13_bookLine_236 {E : KE} {p : Program} {l : Launch} {e : Env} {s : State} {m : MethodId} {args : Array Value} {below : List Frame} {meth : Method} {c : Code} {q : (Bool × MM)} (C : mx_C E p m c cX13_bookLine 6 s args RX13 meth (some .boolean))  (hT : E.1 = mt)   : ∀ (i1 : Int32) (i4 : Int32) (bs0 : Bool) (M : MM) (H : Heap) (locs : List Loc) (ls : Array Slot), fX13_bookLine_236 i1 i4 bs0 M = some q → mx_H E s M H locs → lv_has ls 6 [(0, .ref (E.2.1.2.1 0)), (1, .int i1), (4, .int i4)] → W p l e (mx_rm 3) s m args below meth c H locs 0 0 (mx_Z E below args s (some (.int (mx_b q.1))) q.2) (F0 m 236 ls [.int (mx_b bs0)]) := by
  have hx := C.1.1
  have hb := C.1.2.1
  have hown := C.1.2.2.2.1
  have hts := C.1.2.2.2.2
  intro i1 i4 bs0 M H locs ls hf hM hl
  rw [fX13_bookLine_236] at hf
  refine lv_istore (lv' := [(5, .int (mx_b bs0)), (0, .ref (E.2.1.2.1 0)), (1, .int i1), (4, .int i4)]) hx hb dX13_bookLine_236 hl (by decide) rfl (fun ls hl => ?_)
  refine lv_iload hx hb dX13_bookLine_238 (lv_at hl 0 rfl) ?_
  refine lv_if_ne (tgt := 245) hx hb dX13_bookLine_240 (by decide) (fun hc240 => ?_) (fun hc240 => ?_)
  · replace hf := mx_iff hc240 hf
    refine lv_aload_n hx hb dX13_bookLine_245 rfl (lv_at hl 1 rfl) ?_
    refine g13_40 C hT hM dX13_bookLine_246 ?_
    refine lv_iload_n hx hb dX13_bookLine_249 rfl (lv_at hl 2 rfl) ?_
    refine lv_iconst (v := (2 : Int32)) hx hb dX13_bookLine_250 (by decide) ?_
    refine lv_iadd hx hb dX13_bookLine_251 ?_
    refine lv_aload_n hx hb dX13_bookLine_252 rfl (lv_at hl 1 rfl) ?_
    refine g13_197 C hT hM dX13_bookLine_253 ?_
    obtain ⟨hg256, hf⟩ := mx_gd hf
    refine mx_iast C hM (mt_4 hT) (mx_in_vp hg256) dX13_bookLine_256 (fun H locs hM => ?_)
    refine lv_iload hx hb dX13_bookLine_257 (lv_at hl 3 rfl) ?_
    refine lv_iconst (v := (1 : Int32)) hx hb dX13_bookLine_259 (by decide) ?_
    refine lv_icmp_le (tgt := 265) hx hb dX13_bookLine_260 (by decide) (fun hc260 => ?_) (fun hc260 => ?_)
    · replace hf := mx_ift hc260 hf
      refine lv_iload hx hb dX13_bookLine_265 (lv_at hl 3 rfl) ?_
      refine lv_if_ne (tgt := 280) hx hb dX13_bookLine_267 (by decide) (fun hc267 => ?_) (fun hc267 => ?_)
      · replace hf := mx_iff hc267 hf
        refine lv_aload_n hx hb dX13_bookLine_280 rfl (lv_at hl 1 rfl) ?_
        refine lv_iconst (v := (0 : Int32)) hx hb dX13_bookLine_281 (by decide) ?_
        refine lv_aload_n hx hb dX13_bookLine_282 rfl (lv_at hl 1 rfl) ?_
        refine g13_33 C hT hM dX13_bookLine_283 ?_
        refine lv_iconst (v := (0 : Int32)) hx hb dX13_bookLine_286 (by decide) ?_
        refine mx_ialdL C hM (mt_2 hT) (j := 0) (by decide) (mx_in_vp (by decide)) dX13_bookLine_287 ?_
        obtain ⟨q288, hq288, hf⟩ := mx_bd hf
        refine mx_callV C hM hl.1 yo_X13_takesName (h' := 2) (by decide) qw_1615 qw_1617 qs_125 (ci := 13) (q := (RX13, TX13, 52)) rfl (mt_0 hT) (As := [.int (0 : Int32), .int ((mx_si M 4 (i1 + (2 : Int32)).toNatClampNeg (M.1 0 18)).1 2 0)]) (rest := []) (st1 := [.int (mx_b q288.1)]) (kX13_takesName C.2.2.2.1 (0 : Int32) ((mx_si M 4 (i1 + (2 : Int32)).toNatClampNeg (M.1 0 18)).1 2 0) hT (mx_si M 4 (i1 + (2 : Int32)).toNatClampNeg (M.1 0 18)) hq288) rfl rfl rfl (Nat.le_of_ble_eq_true rfl) dX13_bookLine_288 (fun H locs hM => ?_)
        exact wfX13_bookLine_291 C hT i1 q288.1 q288.2 _ _ _ hf hM (lv_sub hl [1, 2] rfl)
      · replace hf := mx_ift hc267 hf
        refine lv_aload_n hx hb dX13_bookLine_270 rfl (lv_at hl 1 rfl) ?_
        refine lv_iconst (v := (0 : Int32)) hx hb dX13_bookLine_271 (by decide) ?_
        refine lv_bipush (v := (20 : Int32)) hx hb dX13_bookLine_272 (by decide) ?_
        obtain ⟨q274, hq274, hf⟩ := mx_bd hf
        refine mx_callV C hM hl.1 yo_X13_takes (h' := 2) (by decide) qw_1604 qw_1606 qs_123 (ci := 13) (q := (RX13, TX13, 52)) rfl (mt_0 hT) (As := [.int (0 : Int32), .int (20 : Int32)]) (rest := []) (st1 := [.int (mx_b q274.1)]) (kX13_takes C.2.2.2.1 (0 : Int32) (20 : Int32) hT (mx_si M 4 (i1 + (2 : Int32)).toNatClampNeg (M.1 0 18)) hq274) rfl rfl rfl (Nat.le_of_ble_eq_true rfl) dX13_bookLine_274 (fun H locs hM => ?_)
        refine lv_goto (tgt := 291) hx hb dX13_bookLine_277 (by decide) ?_
        exact wfX13_bookLine_291 C hT i1 q274.1 q274.2 _ _ _ hf hM (lv_sub hl [1, 2] rfl)
    · replace hf := mx_iff hc260 hf
      refine lv_iconst (v := (1 : Int32)) hx hb dX13_bookLine_263 (by decide) ?_
      exact mx_zret C hM (b := true) rfl hf dX13_bookLine_264
  · replace hf := mx_ift hc240 hf
    refine lv_iconst (v := (0 : Int32)) hx hb dX13_bookLine_243 (by decide) ?_
    exact mx_zret C hM (b := false) rfl hf dX13_bookLine_244
set_option maxRecDepth 100000 in
set_option maxHeartbeats 4000000 in
theorem wfX13_bookLine_167 {E : KE} {p : Program} {l : Launch} {e : Env} {s : State} {m : MethodId} {args : Array Value} {below : List Frame} {meth : Method} {c : Code} {q : (Bool × MM)} (C : mx_C E p m c cX13_bookLine 6 s args RX13 meth (some .boolean))  (hT : E.1 = mt)   : ∀ (i1 : Int32) (i3 : Int32) (is0 : Int32) (M : MM) (H : Heap) (locs : List Loc) (ls : Array Slot), fX13_bookLine_167 i1 i3 is0 M = some q → mx_H E s M H locs → lv_has ls 6 [(0, .ref (E.2.1.2.1 0)), (1, .int i1), (3, .int i3)] → W p l e (mx_rm 3) s m args below meth c H locs 0 0 (mx_Z E below args s (some (.int (mx_b q.1))) q.2) (F0 m 167 ls [.int is0]) := by
  have hx := C.1.1
  have hb := C.1.2.1
  have hown := C.1.2.2.2.1
  have hts := C.1.2.2.2.2
  intro i1 i3 is0 M H locs ls hf hM hl
  rw [fX13_bookLine_167] at hf
  refine lv_istore (lv' := [(4, .int is0), (0, .ref (E.2.1.2.1 0)), (1, .int i1), (3, .int i3)]) hx hb dX13_bookLine_167 hl (by decide) rfl (fun ls hl => ?_)
  refine lv_iload hx hb dX13_bookLine_169 (lv_at hl 0 rfl) ?_
  refine lv_if_ge (tgt := 180) hx hb dX13_bookLine_171 (by decide) (fun hc171 => ?_) (fun hc171 => ?_)
  · replace hf := mx_ift hc171 hf
    refine lv_aload_n hx hb dX13_bookLine_180 rfl (lv_at hl 1 rfl) ?_
    obtain ⟨q181, hq181, hf⟩ := mx_bd hf
    refine mx_callV C hM hl.1 yo_X13_next (h' := 1) (by decide) qw_1558 qw_1560 qs_113 (ci := 13) (q := (RX13, TX13, 52)) rfl (mt_0 hT) (As := []) (rest := []) (st1 := []) (kX13_next C.2.2.2.1  hT M hq181) rfl rfl rfl (Nat.le_of_ble_eq_true rfl) dX13_bookLine_181 (fun H locs hM => ?_)
    refine lv_aload_n hx hb dX13_bookLine_184 rfl (lv_at hl 1 rfl) ?_
    refine g13_40 C hT hM dX13_bookLine_185 ?_
    refine lv_iload_n hx hb dX13_bookLine_188 rfl (lv_at hl 2 rfl) ?_
    refine lv_iload hx hb dX13_bookLine_189 (lv_at hl 0 rfl) ?_
    obtain ⟨hg191, hf⟩ := mx_gd hf
    refine mx_iast C hM (mt_4 hT) (mx_in_vp hg191) dX13_bookLine_191 (fun H locs hM => ?_)
    refine lv_aload_n hx hb dX13_bookLine_192 rfl (lv_at hl 1 rfl) ?_
    refine g13_40 C hT hM dX13_bookLine_193 ?_
    refine lv_iload_n hx hb dX13_bookLine_196 rfl (lv_at hl 2 rfl) ?_
    refine lv_iconst (v := (1 : Int32)) hx hb dX13_bookLine_197 (by decide) ?_
    refine lv_iadd hx hb dX13_bookLine_198 ?_
    refine lv_iload_n hx hb dX13_bookLine_199 rfl (lv_at hl 3 rfl) ?_
    obtain ⟨hg200, hf⟩ := mx_gd hf
    refine mx_iast C hM (mt_4 hT) (mx_in_vp hg200) dX13_bookLine_200 (fun H locs hM => ?_)
    refine lv_iload hx hb dX13_bookLine_201 (lv_at hl 0 rfl) ?_
    refine lv_iconst (v := (3 : Int32)) hx hb dX13_bookLine_203 (by decide) ?_
    refine lv_icmp_ne (tgt := 209) hx hb dX13_bookLine_204 (by decide) (fun hc204 => ?_) (fun hc204 => ?_)
    · replace hf := mx_iff hc204 hf
      refine lv_iload hx hb dX13_bookLine_209 (lv_at hl 0 rfl) ?_
      refine lv_if_ne (tgt := 224) hx hb dX13_bookLine_211 (by decide) (fun hc211 => ?_) (fun hc211 => ?_)
      · replace hf := mx_iff hc211 hf
        refine lv_aload_n hx hb dX13_bookLine_224 rfl (lv_at hl 1 rfl) ?_
        refine lv_bipush (v := (7 : Int32)) hx hb dX13_bookLine_225 (by decide) ?_
        refine lv_aload_n hx hb dX13_bookLine_227 rfl (lv_at hl 1 rfl) ?_
        refine g13_33 C hT hM dX13_bookLine_228 ?_
        refine lv_iconst (v := (1 : Int32)) hx hb dX13_bookLine_231 (by decide) ?_
        refine mx_ialdL C hM (mt_2 hT) (j := 1) (by decide) (mx_in_vp (by decide)) dX13_bookLine_232 ?_
        obtain ⟨q233, hq233, hf⟩ := mx_bd hf
        refine mx_callV C hM hl.1 yo_X13_takesName (h' := 2) (by decide) qw_1615 qw_1617 qs_125 (ci := 13) (q := (RX13, TX13, 52)) rfl (mt_0 hT) (As := [.int (7 : Int32), .int ((mx_si (mx_si q181 4 i1.toNatClampNeg is0) 4 (i1 + (1 : Int32)).toNatClampNeg i3).1 2 1)]) (rest := []) (st1 := [.int (mx_b q233.1)]) (kX13_takesName C.2.2.2.1 (7 : Int32) ((mx_si (mx_si q181 4 i1.toNatClampNeg is0) 4 (i1 + (1 : Int32)).toNatClampNeg i3).1 2 1) hT (mx_si (mx_si q181 4 i1.toNatClampNeg is0) 4 (i1 + (1 : Int32)).toNatClampNeg i3) hq233) rfl rfl rfl (Nat.le_of_ble_eq_true rfl) dX13_bookLine_233 (fun H locs hM => ?_)
        exact wfX13_bookLine_236 C hT i1 is0 q233.1 q233.2 _ _ _ hf hM (lv_sub hl [1, 2, 0] rfl)
      · replace hf := mx_ift hc211 hf
        refine lv_aload_n hx hb dX13_bookLine_214 rfl (lv_at hl 1 rfl) ?_
        refine lv_iconst (v := (0 : Int32)) hx hb dX13_bookLine_215 (by decide) ?_
        refine lv_bipush (v := (20 : Int32)) hx hb dX13_bookLine_216 (by decide) ?_
        obtain ⟨q218, hq218, hf⟩ := mx_bd hf
        refine mx_callV C hM hl.1 yo_X13_takes (h' := 2) (by decide) qw_1604 qw_1606 qs_123 (ci := 13) (q := (RX13, TX13, 52)) rfl (mt_0 hT) (As := [.int (0 : Int32), .int (20 : Int32)]) (rest := []) (st1 := [.int (mx_b q218.1)]) (kX13_takes C.2.2.2.1 (0 : Int32) (20 : Int32) hT (mx_si (mx_si q181 4 i1.toNatClampNeg is0) 4 (i1 + (1 : Int32)).toNatClampNeg i3) hq218) rfl rfl rfl (Nat.le_of_ble_eq_true rfl) dX13_bookLine_218 (fun H locs hM => ?_)
        refine lv_goto (tgt := 236) hx hb dX13_bookLine_221 (by decide) ?_
        exact wfX13_bookLine_236 C hT i1 is0 q218.1 q218.2 _ _ _ hf hM (lv_sub hl [1, 2, 0] rfl)
    · replace hf := mx_ift hc204 hf
      refine lv_iconst (v := (1 : Int32)) hx hb dX13_bookLine_207 (by decide) ?_
      exact mx_zret C hM (b := true) rfl hf dX13_bookLine_208
  · replace hf := mx_iff hc171 hf
    refine lv_aload_n hx hb dX13_bookLine_174 rfl (lv_at hl 1 rfl) ?_
    refine lv_iconst (v := (1 : Int32)) hx hb dX13_bookLine_175 (by decide) ?_
    obtain ⟨q176, hq176, hf⟩ := mx_bd hf
    refine mx_callV C hM hl.1 yo_X13_bad (h' := 0) (by decide) qw_1584 qw_1586 qs_118 (ci := 13) (q := (RX13, TX13, 52)) rfl (mt_0 hT) (As := [.int (1 : Int32)]) (rest := []) (st1 := [.int (mx_b q176.1)]) (kX13_bad C.2.2.2.1 (1 : Int32) hT M hq176) rfl rfl rfl (Nat.le_of_ble_eq_true rfl) dX13_bookLine_176 (fun H locs hM => ?_)
    exact mx_zret C hM (b := q176.1) rfl hf dX13_bookLine_179
set_option maxRecDepth 100000 in
set_option maxHeartbeats 4000000 in
theorem wfX13_bookLine_35 {E : KE} {p : Program} {l : Launch} {e : Env} {s : State} {m : MethodId} {args : Array Value} {below : List Frame} {meth : Method} {c : Code} {q : (Bool × MM)} (C : mx_C E p m c cX13_bookLine 6 s args RX13 meth (some .boolean))  (hT : E.1 = mt)   : ∀ (i1 : Int32) (b2 : Bool) (M : MM) (H : Heap) (locs : List Loc) (ls : Array Slot), fX13_bookLine_35 i1 b2 M = some q → mx_H E s M H locs → lv_has ls 6 [(0, .ref (E.2.1.2.1 0)), (1, .int i1), (2, .int (mx_b b2))] → W p l e (mx_rm 3) s m args below meth c H locs 0 0 (mx_Z E below args s (some (.int (mx_b q.1))) q.2) (F0 m 35 ls []) := by
  have hx := C.1.1
  have hb := C.1.2.1
  have hown := C.1.2.2.2.1
  have hts := C.1.2.2.2.2
  intro i1 b2 M H locs ls hf hM hl
  rw [fX13_bookLine_35] at hf
  refine lv_aload_n hx hb dX13_bookLine_35 rfl (lv_at hl 0 rfl) ?_
  refine g13_431 C hT hM dX13_bookLine_36 ?_
  refine lv_bipush (v := (40 : Int32)) hx hb dX13_bookLine_39 (by decide) ?_
  refine lv_icmp_ne (tgt := 50) hx hb dX13_bookLine_41 (by decide) (fun hc41 => ?_) (fun hc41 => ?_)
  · replace hf := mx_iff hc41 hf
    refine lv_aload_n hx hb dX13_bookLine_50 rfl (lv_at hl 0 rfl) ?_
    refine g13_197 C hT hM dX13_bookLine_51 ?_
    refine lv_istore_n (lv' := [(3, .int (M.1 0 18)), (0, .ref (E.2.1.2.1 0)), (1, .int i1), (2, .int (mx_b b2))]) hx hb dX13_bookLine_54 rfl hl (by decide) rfl (fun ls hl => ?_)
    refine lv_aload_n hx hb dX13_bookLine_55 rfl (lv_at hl 1 rfl) ?_
    obtain ⟨q56, hq56, hf⟩ := mx_bd hf
    refine mx_callV C hM hl.1 yo_X13_next (h' := 1) (by decide) qw_1558 qw_1560 qs_113 (ci := 13) (q := (RX13, TX13, 52)) rfl (mt_0 hT) (As := []) (rest := []) (st1 := []) (kX13_next C.2.2.2.1  hT M hq56) rfl rfl rfl (Nat.le_of_ble_eq_true rfl) dX13_bookLine_56 (fun H locs hM => ?_)
    refine lv_aload_n hx hb dX13_bookLine_59 rfl (lv_at hl 1 rfl) ?_
    refine g13_40 C hT hM dX13_bookLine_60 ?_
    refine lv_iload_n hx hb dX13_bookLine_63 rfl (lv_at hl 2 rfl) ?_
    refine lv_iconst (v := (5 : Int32)) hx hb dX13_bookLine_64 (by decide) ?_
    obtain ⟨hg65, hf⟩ := mx_gd hf
    refine mx_iast C hM (mt_4 hT) (mx_in_vp hg65) dX13_bookLine_65 (fun H locs hM => ?_)
    refine lv_iload_n hx hb dX13_bookLine_66 rfl (lv_at hl 3 rfl) ?_
    refine lv_if_eq (tgt := 96) hx hb dX13_bookLine_67 (by decide) (fun hc67 => ?_) (fun hc67 => ?_)
    · replace hf := mx_ift hc67 hf
      refine lv_aload_n hx hb dX13_bookLine_96 rfl (lv_at hl 1 rfl) ?_
      refine lv_ldc2 (v := (1735353715)) hx hb hown (hts _ qw_1371) dX13_bookLine_97 ?_
      obtain ⟨q100, hq100, hf⟩ := mx_bd hf
      refine mx_callV C hM hl.1 yo_X13_isWord (h' := 0) (by decide) qw_1576 qw_1578 qs_116 (ci := 13) (q := (RX13, TX13, 52)) rfl (mt_0 hT) (As := [.long (1735353715 : Int64)]) (rest := []) (st1 := [.int (mx_b q100)]) (kX13_isWord C.2.2.2.1 (1735353715 : Int64) hT (mx_si q56 4 i1.toNatClampNeg (5 : Int32)) hq100) rfl rfl rfl (Nat.le_of_ble_eq_true rfl) dX13_bookLine_100 (fun H locs hM => ?_)
      refine lv_if_eq (tgt := 110) hx hb dX13_bookLine_103 (by decide) (fun hc103 => ?_) (fun hc103 => ?_)
      · replace hf := mx_ift hc103 hf
        refine lv_aload_n hx hb dX13_bookLine_110 rfl (lv_at hl 1 rfl) ?_
        refine lv_ldc2 (v := (448311223411)) hx hb hown (hts _ qw_1372) dX13_bookLine_111 ?_
        obtain ⟨q114, hq114, hf⟩ := mx_bd hf
        refine mx_callV C hM hl.1 yo_X13_isWord (h' := 0) (by decide) qw_1576 qw_1578 qs_116 (ci := 13) (q := (RX13, TX13, 52)) rfl (mt_0 hT) (As := [.long (448311223411 : Int64)]) (rest := []) (st1 := [.int (mx_b q114)]) (kX13_isWord C.2.2.2.1 (448311223411 : Int64) hT (mx_si q56 4 i1.toNatClampNeg (5 : Int32)) hq114) rfl rfl rfl (Nat.le_of_ble_eq_true rfl) dX13_bookLine_114 (fun H locs hM => ?_)
        refine lv_if_eq (tgt := 124) hx hb dX13_bookLine_117 (by decide) (fun hc117 => ?_) (fun hc117 => ?_)
        · replace hf := mx_ift hc117 hf
          refine lv_aload_n hx hb dX13_bookLine_124 rfl (lv_at hl 1 rfl) ?_
          refine lv_ldc2 (v := (512801993331)) hx hb hown (hts _ qw_1373) dX13_bookLine_125 ?_
          obtain ⟨q128, hq128, hf⟩ := mx_bd hf
          refine mx_callV C hM hl.1 yo_X13_isWord (h' := 0) (by decide) qw_1576 qw_1578 qs_116 (ci := 13) (q := (RX13, TX13, 52)) rfl (mt_0 hT) (As := [.long (512801993331 : Int64)]) (rest := []) (st1 := [.int (mx_b q128)]) (kX13_isWord C.2.2.2.1 (512801993331 : Int64) hT (mx_si q56 4 i1.toNatClampNeg (5 : Int32)) hq128) rfl rfl rfl (Nat.le_of_ble_eq_true rfl) dX13_bookLine_128 (fun H locs hM => ?_)
          refine lv_if_eq (tgt := 138) hx hb dX13_bookLine_131 (by decide) (fun hc131 => ?_) (fun hc131 => ?_)
          · replace hf := mx_ift hc131 hf
            refine lv_aload_n hx hb dX13_bookLine_138 rfl (lv_at hl 1 rfl) ?_
            refine lv_ldc2 (v := (431365711475)) hx hb hown (hts _ qw_1374) dX13_bookLine_139 ?_
            obtain ⟨q142, hq142, hf⟩ := mx_bd hf
            refine mx_callV C hM hl.1 yo_X13_isWord (h' := 0) (by decide) qw_1576 qw_1578 qs_116 (ci := 13) (q := (RX13, TX13, 52)) rfl (mt_0 hT) (As := [.long (431365711475 : Int64)]) (rest := []) (st1 := [.int (mx_b q142)]) (kX13_isWord C.2.2.2.1 (431365711475 : Int64) hT (mx_si q56 4 i1.toNatClampNeg (5 : Int32)) hq142) rfl rfl rfl (Nat.le_of_ble_eq_true rfl) dX13_bookLine_142 (fun H locs hM => ?_)
            refine lv_if_eq (tgt := 152) hx hb dX13_bookLine_145 (by decide) (fun hc145 => ?_) (fun hc145 => ?_)
            · replace hf := mx_ift hc145 hf
              refine lv_aload_n hx hb dX13_bookLine_152 rfl (lv_at hl 1 rfl) ?_
              refine lv_ldc2 (v := (439855506547)) hx hb hown (hts _ qw_1375) dX13_bookLine_153 ?_
              obtain ⟨q156, hq156, hf⟩ := mx_bd hf
              refine mx_callV C hM hl.1 yo_X13_isWord (h' := 0) (by decide) qw_1576 qw_1578 qs_116 (ci := 13) (q := (RX13, TX13, 52)) rfl (mt_0 hT) (As := [.long (439855506547 : Int64)]) (rest := []) (st1 := [.int (mx_b q156)]) (kX13_isWord C.2.2.2.1 (439855506547 : Int64) hT (mx_si q56 4 i1.toNatClampNeg (5 : Int32)) hq156) rfl rfl rfl (Nat.le_of_ble_eq_true rfl) dX13_bookLine_156 (fun H locs hM => ?_)
              refine lv_if_eq (tgt := 166) hx hb dX13_bookLine_159 (by decide) (fun hc159 => ?_) (fun hc159 => ?_)
              · replace hf := mx_ift hc159 hf
                refine lv_iconst (v := (-1 : Int32)) hx hb dX13_bookLine_166 (by decide) ?_
                exact wfX13_bookLine_167 C hT i1 (M.1 0 18) (-1 : Int32) (mx_si q56 4 i1.toNatClampNeg (5 : Int32)) _ _ _ hf hM (lv_sub hl [1, 2, 0] rfl)
              · replace hf := mx_iff hc159 hf
                refine lv_iconst (v := (4 : Int32)) hx hb dX13_bookLine_162 (by decide) ?_
                refine lv_goto (tgt := 167) hx hb dX13_bookLine_163 (by decide) ?_
                exact wfX13_bookLine_167 C hT i1 (M.1 0 18) (4 : Int32) (mx_si q56 4 i1.toNatClampNeg (5 : Int32)) _ _ _ hf hM (lv_sub hl [1, 2, 0] rfl)
            · replace hf := mx_iff hc145 hf
              refine lv_iconst (v := (3 : Int32)) hx hb dX13_bookLine_148 (by decide) ?_
              refine lv_goto (tgt := 167) hx hb dX13_bookLine_149 (by decide) ?_
              exact wfX13_bookLine_167 C hT i1 (M.1 0 18) (3 : Int32) (mx_si q56 4 i1.toNatClampNeg (5 : Int32)) _ _ _ hf hM (lv_sub hl [1, 2, 0] rfl)
          · replace hf := mx_iff hc131 hf
            refine lv_iconst (v := (2 : Int32)) hx hb dX13_bookLine_134 (by decide) ?_
            refine lv_goto (tgt := 167) hx hb dX13_bookLine_135 (by decide) ?_
            exact wfX13_bookLine_167 C hT i1 (M.1 0 18) (2 : Int32) (mx_si q56 4 i1.toNatClampNeg (5 : Int32)) _ _ _ hf hM (lv_sub hl [1, 2, 0] rfl)
        · replace hf := mx_iff hc117 hf
          refine lv_iconst (v := (1 : Int32)) hx hb dX13_bookLine_120 (by decide) ?_
          refine lv_goto (tgt := 167) hx hb dX13_bookLine_121 (by decide) ?_
          exact wfX13_bookLine_167 C hT i1 (M.1 0 18) (1 : Int32) (mx_si q56 4 i1.toNatClampNeg (5 : Int32)) _ _ _ hf hM (lv_sub hl [1, 2, 0] rfl)
      · replace hf := mx_iff hc103 hf
        refine lv_iconst (v := (0 : Int32)) hx hb dX13_bookLine_106 (by decide) ?_
        refine lv_goto (tgt := 167) hx hb dX13_bookLine_107 (by decide) ?_
        exact wfX13_bookLine_167 C hT i1 (M.1 0 18) (0 : Int32) (mx_si q56 4 i1.toNatClampNeg (5 : Int32)) _ _ _ hf hM (lv_sub hl [1, 2, 0] rfl)
    · replace hf := mx_iff hc67 hf
      refine lv_aload_n hx hb dX13_bookLine_70 rfl (lv_at hl 1 rfl) ?_
      refine lv_iconst (v := (1 : Int32)) hx hb dX13_bookLine_71 (by decide) ?_
      refine lv_bipush (v := (60 : Int32)) hx hb dX13_bookLine_72 (by decide) ?_
      obtain ⟨q74, hq74, hf⟩ := mx_bd hf
      refine mx_callV C hM hl.1 yo_X13_takes (h' := 2) (by decide) qw_1604 qw_1606 qs_123 (ci := 13) (q := (RX13, TX13, 52)) rfl (mt_0 hT) (As := [.int (1 : Int32), .int (60 : Int32)]) (rest := []) (st1 := [.int (mx_b q74.1)]) (kX13_takes C.2.2.2.1 (1 : Int32) (60 : Int32) hT (mx_si q56 4 i1.toNatClampNeg (5 : Int32)) hq74) rfl rfl rfl (Nat.le_of_ble_eq_true rfl) dX13_bookLine_74 (fun H locs hM => ?_)
      refine lv_if_ne (tgt := 82) hx hb dX13_bookLine_77 (by decide) (fun hc77 => ?_) (fun hc77 => ?_)
      · replace hf := mx_iff hc77 hf
        refine lv_aload_n hx hb dX13_bookLine_82 rfl (lv_at hl 1 rfl) ?_
        refine g13_40 C hT hM dX13_bookLine_83 ?_
        refine lv_iload_n hx hb dX13_bookLine_86 rfl (lv_at hl 2 rfl) ?_
        refine lv_iconst (v := (1 : Int32)) hx hb dX13_bookLine_87 (by decide) ?_
        refine lv_iadd hx hb dX13_bookLine_88 ?_
        refine lv_aload_n hx hb dX13_bookLine_89 rfl (lv_at hl 1 rfl) ?_
        refine g13_197 C hT hM dX13_bookLine_90 ?_
        obtain ⟨hg93, hf⟩ := mx_gd hf
        refine mx_iast C hM (mt_4 hT) (mx_in_vp hg93) dX13_bookLine_93 (fun H locs hM => ?_)
        refine lv_iconst (v := (1 : Int32)) hx hb dX13_bookLine_94 (by decide) ?_
        exact mx_zret C hM (b := true) rfl hf dX13_bookLine_95
      · replace hf := mx_ift hc77 hf
        refine lv_iconst (v := (0 : Int32)) hx hb dX13_bookLine_80 (by decide) ?_
        exact mx_zret C hM (b := false) rfl hf dX13_bookLine_81
  · replace hf := mx_ift hc41 hf
    refine lv_aload_n hx hb dX13_bookLine_44 rfl (lv_at hl 0 rfl) ?_
    refine lv_iconst (v := (4 : Int32)) hx hb dX13_bookLine_45 (by decide) ?_
    obtain ⟨q46, hq46, hf⟩ := mx_bd hf
    refine mx_callV C hM hl.1 yo_X13_bad (h' := 0) (by decide) qw_1584 qw_1586 qs_118 (ci := 13) (q := (RX13, TX13, 52)) rfl (mt_0 hT) (As := [.int (4 : Int32)]) (rest := []) (st1 := [.int (mx_b q46.1)]) (kX13_bad C.2.2.2.1 (4 : Int32) hT M hq46) rfl rfl rfl (Nat.le_of_ble_eq_true rfl) dX13_bookLine_46 (fun H locs hM => ?_)
    exact mx_zret C hM (b := q46.1) rfl hf dX13_bookLine_49
set_option maxRecDepth 100000 in
set_option maxHeartbeats 4000000 in
theorem kX13_bookLine {E : KE} {l : Launch} (hE : mx_ok E)  (hT : E.1 = mt) (M : MM) {q : (Bool × MM)} (hf : fX13_bookLine M = some q) : mx_Met E l yX13_bookLine cX13_bookLine 6 (some .boolean) 3 [.ref (E.2.1.2.1 0)] M (some (.int (mx_b q.1))) q.2 := by
  refine mx_enter hE (by decide) (Nat.le_of_ble_eq_true rfl) ?_
  intro p e s m below meth c C hM hn ls hl
  have hx := C.1.1
  have hb := C.1.2.1
  have hown := C.1.2.2.2.1
  have hts := C.1.2.2.2.2
  have hl : lv_has ls 6 [(0, .ref (E.2.1.2.1 0))] := hl
  rw [fX13_bookLine] at hf
  refine lv_iconst (v := (4 : Int32)) hx hb dX13_bookLine_0 (by decide) ?_
  refine lv_aload_n hx hb dX13_bookLine_1 rfl (lv_at hl 0 rfl) ?_
  refine g13_431 C hT hM dX13_bookLine_2 ?_
  refine lv_imul hx hb dX13_bookLine_5 ?_
  refine lv_istore_n (lv' := [(1, .int ((4 : Int32) * (M.1 0 39))), (0, .ref (E.2.1.2.1 0))]) hx hb dX13_bookLine_6 rfl hl (by decide) rfl (fun ls hl => ?_)
  refine lv_aload_n hx hb dX13_bookLine_7 rfl (lv_at hl 1 rfl) ?_
  refine lv_ldc2 (v := (6578553)) hx hb hown (hts _ qw_1376) dX13_bookLine_8 ?_
  obtain ⟨q11, hq11, hf⟩ := mx_bd hf
  refine mx_callV C hM hl.1 yo_X13_isWord (h' := 0) (by decide) qw_1576 qw_1578 qs_116 (ci := 13) (q := (RX13, TX13, 52)) rfl (mt_0 hT) (As := [.long (6578553 : Int64)]) (rest := []) (st1 := [.int (mx_b q11)]) (kX13_isWord C.2.2.2.1 (6578553 : Int64) hT M hq11) rfl rfl rfl (Nat.le_of_ble_eq_true rfl) dX13_bookLine_11 (fun H locs hM => ?_)
  refine lv_istore_n (lv' := [(2, .int (mx_b q11)), (1, .int ((4 : Int32) * (M.1 0 39))), (0, .ref (E.2.1.2.1 0))]) hx hb dX13_bookLine_14 rfl hl (by decide) rfl (fun ls hl => ?_)
  refine lv_iload_n hx hb dX13_bookLine_15 rfl (lv_at hl 0 rfl) ?_
  refine lv_if_ne (tgt := 35) hx hb dX13_bookLine_16 (by decide) (fun hc16 => ?_) (fun hc16 => ?_)
  · replace hf := mx_iff hc16 hf
    exact wfX13_bookLine_35 C hT ((4 : Int32) * (M.1 0 39)) q11 M _ _ _ hf hM (lv_sub hl [2, 1, 0] rfl)
  · replace hf := mx_ift hc16 hf
    refine lv_aload_n hx hb dX13_bookLine_19 rfl (lv_at hl 2 rfl) ?_
    refine lv_iconst (v := (0 : Int32)) hx hb dX13_bookLine_20 (by decide) ?_
    refine lv_aload_n hx hb dX13_bookLine_21 rfl (lv_at hl 2 rfl) ?_
    refine g13_33 C hT hM dX13_bookLine_22 ?_
    refine lv_iconst (v := (0 : Int32)) hx hb dX13_bookLine_25 (by decide) ?_
    refine mx_ialdL C hM (mt_2 hT) (j := 0) (by decide) (mx_in_vp (by decide)) dX13_bookLine_26 ?_
    obtain ⟨q27, hq27, hf⟩ := mx_bd hf
    refine mx_callV C hM hl.1 yo_X13_looksAt (h' := 1) (by decide) qw_1619 qw_1621 qs_126 (ci := 13) (q := (RX13, TX13, 52)) rfl (mt_0 hT) (As := [.int (0 : Int32), .int (M.1 2 0)]) (rest := []) (st1 := [.int (mx_b q27.1)]) (kX13_looksAt C.2.2.2.1 (0 : Int32) (M.1 2 0) hT M hq27) rfl rfl rfl (Nat.le_of_ble_eq_true rfl) dX13_bookLine_27 (fun H locs hM => ?_)
    refine lv_if_ne (tgt := 35) hx hb dX13_bookLine_30 (by decide) (fun hc30 => ?_) (fun hc30 => ?_)
    · replace hf := mx_iff hc30 hf
      exact wfX13_bookLine_35 C hT ((4 : Int32) * (M.1 0 39)) q11 q27.2 _ _ _ hf hM (lv_sub hl [2, 1, 0] rfl)
    · replace hf := mx_ift hc30 hf
      refine lv_iconst (v := (0 : Int32)) hx hb dX13_bookLine_33 (by decide) ?_
      exact mx_zret C hM (b := false) rfl hf dX13_bookLine_34
theorem dX13_does_0 : decode cX13_does 0 = .ok (.iconst 0, 1) := by decide +kernel
theorem dX13_does_1 : decode cX13_does 1 = .ok (.istore 5, 2) := by decide +kernel
theorem dX13_does_3 : decode cX13_does 3 = .ok (.iload_n 1, 1) := by decide +kernel
theorem dX13_does_4 : decode cX13_does 4 = .ok (.tableswitch 172 0 4 #[36, 62, 87, 113, 150], 36) := by decide +kernel
theorem dX13_does_40 : decode cX13_does 40 = .ok (.aload_n 0, 1) := by decide +kernel
theorem dX13_does_41 : decode cX13_does 41 = .ok (.iload_n 2, 1) := by decide +kernel
theorem dX13_does_42 : decode cX13_does 42 = .ok (.iload_n 3, 1) := by decide +kernel
theorem dX13_does_43 : decode cX13_does 43 = .ok (.iload 4, 2) := by decide +kernel
theorem dX13_does_45 : decode cX13_does 45 = .ok (.invokevirtual 310, 3) := by decide +kernel
theorem dX13_does_48 : decode cX13_does 48 = .ok (.istore 5, 2) := by decide +kernel
theorem dX13_does_50 : decode cX13_does 50 = .ok (.iload 5, 2) := by decide +kernel
theorem dX13_does_52 : decode cX13_does 52 = .ok (.ifCond .ne 148, 3) := by decide +kernel
theorem dX13_does_55 : decode cX13_does 55 = .ok (.aload_n 0, 1) := by decide +kernel
theorem dX13_does_56 : decode cX13_does 56 = .ok (.iload_n 2, 1) := by decide +kernel
theorem dX13_does_57 : decode cX13_does 57 = .ok (.iload_n 3, 1) := by decide +kernel
theorem dX13_does_58 : decode cX13_does 58 = .ok (.iload 4, 2) := by decide +kernel
theorem dX13_does_60 : decode cX13_does 60 = .ok (.invokevirtual 316, 3) := by decide +kernel
theorem dX13_does_63 : decode cX13_does 63 = .ok (.goto 137, 3) := by decide +kernel
theorem dX13_does_66 : decode cX13_does 66 = .ok (.aload_n 0, 1) := by decide +kernel
theorem dX13_does_67 : decode cX13_does 67 = .ok (.iload_n 2, 1) := by decide +kernel
theorem dX13_does_68 : decode cX13_does 68 = .ok (.iload_n 3, 1) := by decide +kernel
theorem dX13_does_69 : decode cX13_does 69 = .ok (.iload 4, 2) := by decide +kernel
theorem dX13_does_71 : decode cX13_does 71 = .ok (.invokevirtual 320, 3) := by decide +kernel
theorem dX13_does_74 : decode cX13_does 74 = .ok (.istore 5, 2) := by decide +kernel
theorem dX13_does_76 : decode cX13_does 76 = .ok (.iload 5, 2) := by decide +kernel
theorem dX13_does_78 : decode cX13_does 78 = .ok (.ifCond .ne 122, 3) := by decide +kernel
theorem dX13_does_81 : decode cX13_does 81 = .ok (.aload_n 0, 1) := by decide +kernel
theorem dX13_does_82 : decode cX13_does 82 = .ok (.iload_n 3, 1) := by decide +kernel
theorem dX13_does_83 : decode cX13_does 83 = .ok (.iload 4, 2) := by decide +kernel
theorem dX13_does_85 : decode cX13_does 85 = .ok (.invokevirtual 323, 3) := by decide +kernel
theorem dX13_does_88 : decode cX13_does 88 = .ok (.goto 112, 3) := by decide +kernel
theorem dX13_does_91 : decode cX13_does 91 = .ok (.aload_n 0, 1) := by decide +kernel
theorem dX13_does_92 : decode cX13_does 92 = .ok (.iload_n 2, 1) := by decide +kernel
theorem dX13_does_93 : decode cX13_does 93 = .ok (.iload_n 3, 1) := by decide +kernel
theorem dX13_does_94 : decode cX13_does 94 = .ok (.invokevirtual 327, 3) := by decide +kernel
theorem dX13_does_97 : decode cX13_does 97 = .ok (.istore 5, 2) := by decide +kernel
theorem dX13_does_99 : decode cX13_does 99 = .ok (.iload 5, 2) := by decide +kernel
theorem dX13_does_101 : decode cX13_does 101 = .ok (.ifCond .ne 99, 3) := by decide +kernel
theorem dX13_does_104 : decode cX13_does 104 = .ok (.aload_n 0, 1) := by decide +kernel
theorem dX13_does_105 : decode cX13_does 105 = .ok (.getfield 33, 3) := by decide +kernel
theorem dX13_does_108 : decode cX13_does 108 = .ok (.bipush 85, 2) := by decide +kernel
theorem dX13_does_110 : decode cX13_does 110 = .ok (.iload_n 3, 1) := by decide +kernel
theorem dX13_does_111 : decode cX13_does 111 = .ok (.iadd, 1) := by decide +kernel
theorem dX13_does_112 : decode cX13_does 112 = .ok (.iconst 1, 1) := by decide +kernel
theorem dX13_does_113 : decode cX13_does 113 = .ok (.iastore, 1) := by decide +kernel
theorem dX13_does_114 : decode cX13_does 114 = .ok (.goto 86, 3) := by decide +kernel
theorem dX13_does_117 : decode cX13_does 117 = .ok (.aload_n 0, 1) := by decide +kernel
theorem dX13_does_118 : decode cX13_does 118 = .ok (.iload_n 2, 1) := by decide +kernel
theorem dX13_does_119 : decode cX13_does 119 = .ok (.invokevirtual 283, 3) := by decide +kernel
theorem dX13_does_122 : decode cX13_does 122 = .ok (.ifCond .ge 7, 3) := by decide +kernel
theorem dX13_does_125 : decode cX13_does 125 = .ok (.iconst 1, 1) := by decide +kernel
theorem dX13_does_126 : decode cX13_does 126 = .ok (.goto 4, 3) := by decide +kernel
theorem dX13_does_129 : decode cX13_does 129 = .ok (.iconst 0, 1) := by decide +kernel
theorem dX13_does_130 : decode cX13_does 130 = .ok (.istore 5, 2) := by decide +kernel
theorem dX13_does_132 : decode cX13_does 132 = .ok (.iload 5, 2) := by decide +kernel
theorem dX13_does_134 : decode cX13_does 134 = .ok (.ifCond .ne 66, 3) := by decide +kernel
theorem dX13_does_137 : decode cX13_does 137 = .ok (.aload_n 0, 1) := by decide +kernel
theorem dX13_does_138 : decode cX13_does 138 = .ok (.getfield 33, 3) := by decide +kernel
theorem dX13_does_141 : decode cX13_does 141 = .ok (.bipush 85, 2) := by decide +kernel
theorem dX13_does_143 : decode cX13_does 143 = .ok (.aload_n 0, 1) := by decide +kernel
theorem dX13_does_144 : decode cX13_does 144 = .ok (.iload_n 2, 1) := by decide +kernel
theorem dX13_does_145 : decode cX13_does 145 = .ok (.invokevirtual 283, 3) := by decide +kernel
theorem dX13_does_148 : decode cX13_does 148 = .ok (.iadd, 1) := by decide +kernel
theorem dX13_does_149 : decode cX13_does 149 = .ok (.iconst 0, 1) := by decide +kernel
theorem dX13_does_150 : decode cX13_does 150 = .ok (.iastore, 1) := by decide +kernel
theorem dX13_does_151 : decode cX13_does 151 = .ok (.goto 49, 3) := by decide +kernel
theorem dX13_does_154 : decode cX13_does 154 = .ok (.aload_n 0, 1) := by decide +kernel
theorem dX13_does_155 : decode cX13_does 155 = .ok (.iload_n 2, 1) := by decide +kernel
theorem dX13_does_156 : decode cX13_does 156 = .ok (.iload_n 3, 1) := by decide +kernel
theorem dX13_does_157 : decode cX13_does 157 = .ok (.invokevirtual 330, 3) := by decide +kernel
theorem dX13_does_160 : decode cX13_does 160 = .ok (.istore 5, 2) := by decide +kernel
theorem dX13_does_162 : decode cX13_does 162 = .ok (.iload 5, 2) := by decide +kernel
theorem dX13_does_164 : decode cX13_does 164 = .ok (.ifCond .ne 36, 3) := by decide +kernel
theorem dX13_does_167 : decode cX13_does 167 = .ok (.aload_n 0, 1) := by decide +kernel
theorem dX13_does_168 : decode cX13_does 168 = .ok (.iload_n 2, 1) := by decide +kernel
theorem dX13_does_169 : decode cX13_does 169 = .ok (.iload_n 3, 1) := by decide +kernel
theorem dX13_does_170 : decode cX13_does 170 = .ok (.invokevirtual 333, 3) := by decide +kernel
theorem dX13_does_173 : decode cX13_does 173 = .ok (.goto 27, 3) := by decide +kernel
theorem dX13_does_176 : decode cX13_does 176 = .ok (.aload_n 0, 1) := by decide +kernel
theorem dX13_does_177 : decode cX13_does 177 = .ok (.getfield 33, 3) := by decide +kernel
theorem dX13_does_180 : decode cX13_does 180 = .ok (.bipush 54, 2) := by decide +kernel
theorem dX13_does_182 : decode cX13_does 182 = .ok (.iaload, 1) := by decide +kernel
theorem dX13_does_183 : decode cX13_does 183 = .ok (.iload_n 2, 1) := by decide +kernel
theorem dX13_does_184 : decode cX13_does 184 = .ok (.iadd, 1) := by decide +kernel
theorem dX13_does_185 : decode cX13_does 185 = .ok (.sipush 400, 3) := by decide +kernel
theorem dX13_does_188 : decode cX13_does 188 = .ok (.if_icmp .le 6, 3) := by decide +kernel
theorem dX13_does_191 : decode cX13_does 191 = .ok (.bipush 51, 2) := by decide +kernel
theorem dX13_does_193 : decode cX13_does 193 = .ok (.ireturn, 1) := by decide +kernel
theorem dX13_does_194 : decode cX13_does 194 = .ok (.aload_n 0, 1) := by decide +kernel
theorem dX13_does_195 : decode cX13_does 195 = .ok (.iload_n 2, 1) := by decide +kernel
theorem dX13_does_196 : decode cX13_does 196 = .ok (.invokevirtual 336, 3) := by decide +kernel
theorem dX13_does_199 : decode cX13_does 199 = .ok (.pop, 1) := by decide +kernel
theorem dX13_does_200 : decode cX13_does 200 = .ok (.iload 5, 2) := by decide +kernel
theorem dX13_does_202 : decode cX13_does 202 = .ok (.ifCond .le 13, 3) := by decide +kernel
theorem dX13_does_205 : decode cX13_does 205 = .ok (.bipush 10, 2) := by decide +kernel
theorem dX13_does_207 : decode cX13_does 207 = .ok (.iload_n 1, 1) := by decide +kernel
theorem dX13_does_208 : decode cX13_does 208 = .ok (.imul, 1) := by decide +kernel
theorem dX13_does_209 : decode cX13_does 209 = .ok (.iload 5, 2) := by decide +kernel
theorem dX13_does_211 : decode cX13_does 211 = .ok (.iadd, 1) := by decide +kernel
theorem dX13_does_212 : decode cX13_does 212 = .ok (.goto 4, 3) := by decide +kernel
theorem dX13_does_215 : decode cX13_does 215 = .ok (.iconst 0, 1) := by decide +kernel
theorem dX13_does_216 : decode cX13_does 216 = .ok (.ireturn, 1) := by decide +kernel
set_option maxRecDepth 100000 in
set_option maxHeartbeats 4000000 in
theorem wfX13_does_200 {E : KE} {p : Program} {l : Launch} {e : Env} {s : State} {m : MethodId} {args : Array Value} {below : List Frame} {meth : Method} {c : Code} {q : (Int32 × MM)} (C : mx_C E p m c cX13_does 6 s args RX13 meth (some .int)) (i1 : Int32) (i2 : Int32) (i3 : Int32) (i4 : Int32) (hT : E.1 = mt)   : ∀ (i5 : Int32) (M : MM) (H : Heap) (locs : List Loc) (ls : Array Slot), fX13_does_200 i1 i2 i3 i4 i5 M = some q → mx_H E s M H locs → lv_has ls 6 [(1, .int i1), (5, .int i5)] → W p l e (mx_rm 4) s m args below meth c H locs 0 0 (mx_Z E below args s (some (.int q.1)) q.2) (F0 m 200 ls []) := by
  have hx := C.1.1
  have hb := C.1.2.1
  have hown := C.1.2.2.2.1
  have hts := C.1.2.2.2.2
  intro i5 M H locs ls hf hM hl
  rw [fX13_does_200] at hf
  refine lv_iload hx hb dX13_does_200 (lv_at hl 1 rfl) ?_
  refine lv_if_le (tgt := 215) hx hb dX13_does_202 (by decide) (fun hc202 => ?_) (fun hc202 => ?_)
  · replace hf := mx_ift hc202 hf
    refine lv_iconst (v := (0 : Int32)) hx hb dX13_does_215 (by decide) ?_
    exact mx_iret C hM hf dX13_does_216
  · replace hf := mx_iff hc202 hf
    refine lv_bipush (v := (10 : Int32)) hx hb dX13_does_205 (by decide) ?_
    refine lv_iload_n hx hb dX13_does_207 rfl (lv_at hl 0 rfl) ?_
    refine lv_imul hx hb dX13_does_208 ?_
    refine lv_iload hx hb dX13_does_209 (lv_at hl 1 rfl) ?_
    refine lv_iadd hx hb dX13_does_211 ?_
    refine lv_goto (tgt := 216) hx hb dX13_does_212 (by decide) ?_
    exact mx_iret C hM hf dX13_does_216
set_option maxRecDepth 100000 in
set_option maxHeartbeats 4000000 in
theorem wfX13_does_130 {E : KE} {p : Program} {l : Launch} {e : Env} {s : State} {m : MethodId} {args : Array Value} {below : List Frame} {meth : Method} {c : Code} {q : (Int32 × MM)} (C : mx_C E p m c cX13_does 6 s args RX13 meth (some .int)) (i1 : Int32) (i2 : Int32) (i3 : Int32) (i4 : Int32) (hT : E.1 = mt)  (k200 : Int32 → MM → Option (Int32 × MM)) (hk200 : ∀ (i5 : Int32) (M : MM) (H : Heap) (locs : List Loc) (ls : Array Slot), k200 i5 M = some q → mx_H E s M H locs → lv_has ls 6 [(1, .int i1), (5, .int i5)] → W p l e (mx_rm 4) s m args below meth c H locs 0 0 (mx_Z E below args s (some (.int q.1)) q.2) (F0 m 200 ls [])) : ∀ (bs0 : Bool) (M : MM) (H : Heap) (locs : List Loc) (ls : Array Slot), fX13_does_130 i1 i2 i3 i4 k200 bs0 M = some q → mx_H E s M H locs → lv_has ls 6 [(0, .ref (E.2.1.2.1 0)), (1, .int i1), (2, .int i2)] → W p l e (mx_rm 4) s m args below meth c H locs 0 0 (mx_Z E below args s (some (.int q.1)) q.2) (F0 m 130 ls [.int (mx_b bs0)]) := by
  have hx := C.1.1
  have hb := C.1.2.1
  have hown := C.1.2.2.2.1
  have hts := C.1.2.2.2.2
  intro bs0 M H locs ls hf hM hl
  rw [fX13_does_130] at hf
  refine lv_istore (lv' := [(5, .int (mx_b bs0)), (0, .ref (E.2.1.2.1 0)), (1, .int i1), (2, .int i2)]) hx hb dX13_does_130 hl (by decide) rfl (fun ls hl => ?_)
  refine lv_iload hx hb dX13_does_132 (lv_at hl 0 rfl) ?_
  refine lv_if_ne (tgt := 200) hx hb dX13_does_134 (by decide) (fun hc134 => ?_) (fun hc134 => ?_)
  · replace hf := mx_iff hc134 hf
    exact hk200 (mx_b bs0) M _ _ _ hf hM (lv_sub hl [2, 0] rfl)
  · replace hf := mx_ift hc134 hf
    refine lv_aload_n hx hb dX13_does_137 rfl (lv_at hl 1 rfl) ?_
    refine g13_33 C hT hM dX13_does_138 ?_
    refine lv_bipush (v := (85 : Int32)) hx hb dX13_does_141 (by decide) ?_
    refine lv_aload_n hx hb dX13_does_143 rfl (lv_at hl 1 rfl) ?_
    refine lv_iload_n hx hb dX13_does_144 rfl (lv_at hl 3 rfl) ?_
    obtain ⟨q145, hq145, hf⟩ := mx_bd hf
    refine mx_callV C hM hl.1 yo_X13_wornBy (h' := 0) (by decide) qw_1662 qw_1664 qs_134 (ci := 13) (q := (RX13, TX13, 52)) rfl (mt_0 hT) (As := [.int i2]) (rest := [.int (85 : Int32), .ref (E.2.1.2.1 2)]) (st1 := [.int q145, .int (85 : Int32), .ref (E.2.1.2.1 2)]) (kX13_wornBy C.2.2.2.1 i2 hT M hq145) rfl rfl rfl (Nat.le_of_ble_eq_true rfl) dX13_does_145 (fun H locs hM => ?_)
    refine lv_iadd hx hb dX13_does_148 ?_
    refine lv_iconst (v := (0 : Int32)) hx hb dX13_does_149 (by decide) ?_
    obtain ⟨hg150, hf⟩ := mx_gd hf
    refine mx_iast C hM (mt_2 hT) (mx_in_vp hg150) dX13_does_150 (fun H locs hM => ?_)
    refine lv_goto (tgt := 200) hx hb dX13_does_151 (by decide) ?_
    exact hk200 (mx_b bs0) (mx_si M 2 ((85 : Int32) + q145).toNatClampNeg (0 : Int32)) _ _ _ hf hM (lv_sub hl [2, 0] rfl)
set_option maxRecDepth 100000 in
set_option maxHeartbeats 4000000 in
theorem kX13_does {E : KE} {l : Launch} (hE : mx_ok E) (i1 : Int32) (i2 : Int32) (i3 : Int32) (i4 : Int32) (hT : E.1 = mt) (M : MM) {q : (Int32 × MM)} (hf : fX13_does i1 i2 i3 i4 M = some q) : mx_Met E l yX13_does cX13_does 6 (some .int) 4 [.ref (E.2.1.2.1 0), .int i1, .int i2, .int i3, .int i4] M (some (.int q.1)) q.2 := by
  refine mx_enter hE (by decide) (Nat.le_of_ble_eq_true rfl) ?_
  intro p e s m below meth c C hM hn ls hl
  have hx := C.1.1
  have hb := C.1.2.1
  have hown := C.1.2.2.2.1
  have hts := C.1.2.2.2.2
  have hl : lv_has ls 6 [(0, .ref (E.2.1.2.1 0)), (1, .int i1), (2, .int i2), (3, .int i3), (4, .int i4)] := hl
  rw [fX13_does] at hf
  refine lv_iconst (v := (0 : Int32)) hx hb dX13_does_0 (by decide) ?_
  refine lv_istore (lv' := [(5, .int (0 : Int32)), (0, .ref (E.2.1.2.1 0)), (1, .int i1), (2, .int i2), (3, .int i3), (4, .int i4)]) hx hb dX13_does_1 hl (by decide) rfl (fun ls hl => ?_)
  refine lv_iload_n hx hb dX13_does_3 rfl (lv_at hl 2 rfl) ?_
  by_cases hs0 : i1 = 0
  · replace hf := mx_ift hs0 hf
    refine lv_tableIn (tgt := 40) hx hb dX13_does_4 (by rw [hs0]; decide) (by rw [hs0]; decide) (by rw [hs0]; rfl) (by decide) ?_
    refine lv_aload_n hx hb dX13_does_40 rfl (lv_at hl 1 rfl) ?_
    refine lv_iload_n hx hb dX13_does_41 rfl (lv_at hl 3 rfl) ?_
    refine lv_iload_n hx hb dX13_does_42 rfl (lv_at hl 4 rfl) ?_
    refine lv_iload hx hb dX13_does_43 (lv_at hl 5 rfl) ?_
    obtain ⟨q45, hq45, hf⟩ := mx_bd hf
    refine mx_callV C hM hl.1 yo_X13_whyGo (h' := 2) (by decide) qw_1698 qw_1700 qs_139 (ci := 13) (q := (RX13, TX13, 52)) rfl (mt_0 hT) (As := [.int i2, .int i3, .int i4]) (rest := []) (st1 := [.int q45]) (kX13_whyGo C.2.2.2.1 i2 i3 i4 hT M hq45) rfl rfl rfl (Nat.le_of_ble_eq_true rfl) dX13_does_45 (fun H locs hM => ?_)
    refine lv_istore (lv' := [(5, .int q45), (0, .ref (E.2.1.2.1 0)), (1, .int i1), (2, .int i2), (3, .int i3), (4, .int i4)]) hx hb dX13_does_48 hl (by decide) rfl (fun ls hl => ?_)
    refine lv_iload hx hb dX13_does_50 (lv_at hl 0 rfl) ?_
    refine lv_if_ne (tgt := 200) hx hb dX13_does_52 (by decide) (fun hc52 => ?_) (fun hc52 => ?_)
    · replace hf := mx_iff hc52 hf
      exact wfX13_does_200 C i1 i2 i3 i4 hT q45 M _ _ _ hf hM (lv_sub hl [2, 0] rfl)
    · replace hf := mx_ift hc52 hf
      refine lv_aload_n hx hb dX13_does_55 rfl (lv_at hl 1 rfl) ?_
      refine lv_iload_n hx hb dX13_does_56 rfl (lv_at hl 3 rfl) ?_
      refine lv_iload_n hx hb dX13_does_57 rfl (lv_at hl 4 rfl) ?_
      refine lv_iload hx hb dX13_does_58 (lv_at hl 5 rfl) ?_
      obtain ⟨q60, hq60, hf⟩ := mx_bd hf
      refine mx_callV C hM hl.1 yo_X13_goes (h' := 2) (by decide) qw_1713 qw_1715 qs_142 (ci := 13) (q := (RX13, TX13, 52)) rfl (mt_0 hT) (As := [.int i2, .int i3, .int i4]) (rest := []) (st1 := []) (kX13_goes C.2.2.2.1 i2 i3 i4 hT M hq60) rfl rfl rfl (Nat.le_of_ble_eq_true rfl) dX13_does_60 (fun H locs hM => ?_)
      refine lv_goto (tgt := 200) hx hb dX13_does_63 (by decide) ?_
      exact wfX13_does_200 C i1 i2 i3 i4 hT q45 q60 _ _ _ hf hM (lv_sub hl [2, 0] rfl)
  replace hf := mx_iff hs0 hf
  by_cases hs1 : i1 = 1
  · replace hf := mx_ift hs1 hf
    refine lv_tableIn (tgt := 66) hx hb dX13_does_4 (by rw [hs1]; decide) (by rw [hs1]; decide) (by rw [hs1]; rfl) (by decide) ?_
    refine lv_aload_n hx hb dX13_does_66 rfl (lv_at hl 1 rfl) ?_
    refine lv_iload_n hx hb dX13_does_67 rfl (lv_at hl 3 rfl) ?_
    refine lv_iload_n hx hb dX13_does_68 rfl (lv_at hl 4 rfl) ?_
    refine lv_iload hx hb dX13_does_69 (lv_at hl 5 rfl) ?_
    obtain ⟨q71, hq71, hf⟩ := mx_bd hf
    refine mx_callV C hM hl.1 yo_X13_whyHand (h' := 3) (by decide) qw_1721 qw_1723 qs_143 (ci := 13) (q := (RX13, TX13, 52)) rfl (mt_0 hT) (As := [.int i2, .int i3, .int i4]) (rest := []) (st1 := [.int q71]) (kX13_whyHand C.2.2.2.1 i2 i3 i4 hT M hq71) rfl rfl rfl (Nat.le_of_ble_eq_true rfl) dX13_does_71 (fun H locs hM => ?_)
    refine lv_istore (lv' := [(5, .int q71), (0, .ref (E.2.1.2.1 0)), (1, .int i1), (2, .int i2), (3, .int i3), (4, .int i4)]) hx hb dX13_does_74 hl (by decide) rfl (fun ls hl => ?_)
    refine lv_iload hx hb dX13_does_76 (lv_at hl 0 rfl) ?_
    refine lv_if_ne (tgt := 200) hx hb dX13_does_78 (by decide) (fun hc78 => ?_) (fun hc78 => ?_)
    · replace hf := mx_iff hc78 hf
      exact wfX13_does_200 C i1 i2 i3 i4 hT q71 M _ _ _ hf hM (lv_sub hl [2, 0] rfl)
    · replace hf := mx_ift hc78 hf
      refine lv_aload_n hx hb dX13_does_81 rfl (lv_at hl 1 rfl) ?_
      refine lv_iload_n hx hb dX13_does_82 rfl (lv_at hl 4 rfl) ?_
      refine lv_iload hx hb dX13_does_83 (lv_at hl 5 rfl) ?_
      obtain ⟨q85, hq85, hf⟩ := mx_bd hf
      refine mx_callV C hM hl.1 yo_X13_hands (h' := 0) (by decide) qw_1729 qw_1731 qs_145 (ci := 13) (q := (RX13, TX13, 52)) rfl (mt_0 hT) (As := [.int i3, .int i4]) (rest := []) (st1 := []) (kX13_hands C.2.2.2.1 i3 i4 hT M hq85) rfl rfl rfl (Nat.le_of_ble_eq_true rfl) dX13_does_85 (fun H locs hM => ?_)
      refine lv_goto (tgt := 200) hx hb dX13_does_88 (by decide) ?_
      exact wfX13_does_200 C i1 i2 i3 i4 hT q71 q85 _ _ _ hf hM (lv_sub hl [2, 0] rfl)
  replace hf := mx_iff hs1 hf
  by_cases hs2 : i1 = 2
  · replace hf := mx_ift hs2 hf
    refine lv_tableIn (tgt := 91) hx hb dX13_does_4 (by rw [hs2]; decide) (by rw [hs2]; decide) (by rw [hs2]; rfl) (by decide) ?_
    refine lv_aload_n hx hb dX13_does_91 rfl (lv_at hl 1 rfl) ?_
    refine lv_iload_n hx hb dX13_does_92 rfl (lv_at hl 3 rfl) ?_
    refine lv_iload_n hx hb dX13_does_93 rfl (lv_at hl 4 rfl) ?_
    obtain ⟨q94, hq94, hf⟩ := mx_bd hf
    refine mx_callV C hM hl.1 yo_X13_whyWear (h' := 2) (by decide) qw_1737 qw_1739 qs_146 (ci := 13) (q := (RX13, TX13, 52)) rfl (mt_0 hT) (As := [.int i2, .int i3]) (rest := []) (st1 := [.int q94]) (kX13_whyWear C.2.2.2.1 i2 i3 hT M hq94) rfl rfl rfl (Nat.le_of_ble_eq_true rfl) dX13_does_94 (fun H locs hM => ?_)
    refine lv_istore (lv' := [(5, .int q94), (0, .ref (E.2.1.2.1 0)), (1, .int i1), (2, .int i2), (3, .int i3), (4, .int i4)]) hx hb dX13_does_97 hl (by decide) rfl (fun ls hl => ?_)
    refine lv_iload hx hb dX13_does_99 (lv_at hl 0 rfl) ?_
    refine lv_if_ne (tgt := 200) hx hb dX13_does_101 (by decide) (fun hc101 => ?_) (fun hc101 => ?_)
    · replace hf := mx_iff hc101 hf
      exact wfX13_does_200 C i1 i2 i3 i4 hT q94 M _ _ _ hf hM (lv_sub hl [2, 0] rfl)
    · replace hf := mx_ift hc101 hf
      refine lv_aload_n hx hb dX13_does_104 rfl (lv_at hl 1 rfl) ?_
      refine g13_33 C hT hM dX13_does_105 ?_
      refine lv_bipush (v := (85 : Int32)) hx hb dX13_does_108 (by decide) ?_
      refine lv_iload_n hx hb dX13_does_110 rfl (lv_at hl 4 rfl) ?_
      refine lv_iadd hx hb dX13_does_111 ?_
      refine lv_iconst (v := (1 : Int32)) hx hb dX13_does_112 (by decide) ?_
      obtain ⟨hg113, hf⟩ := mx_gd hf
      refine mx_iast C hM (mt_2 hT) (mx_in_vp hg113) dX13_does_113 (fun H locs hM => ?_)
      refine lv_goto (tgt := 200) hx hb dX13_does_114 (by decide) ?_
      exact wfX13_does_200 C i1 i2 i3 i4 hT q94 (mx_si M 2 ((85 : Int32) + i3).toNatClampNeg (1 : Int32)) _ _ _ hf hM (lv_sub hl [2, 0] rfl)
  replace hf := mx_iff hs2 hf
  by_cases hs3 : i1 = 3
  · replace hf := mx_ift hs3 hf
    refine lv_tableIn (tgt := 117) hx hb dX13_does_4 (by rw [hs3]; decide) (by rw [hs3]; decide) (by rw [hs3]; rfl) (by decide) ?_
    refine lv_aload_n hx hb dX13_does_117 rfl (lv_at hl 1 rfl) ?_
    refine lv_iload_n hx hb dX13_does_118 rfl (lv_at hl 3 rfl) ?_
    obtain ⟨q119, hq119, hf⟩ := mx_bd hf
    refine mx_callV C hM hl.1 yo_X13_wornBy (h' := 0) (by decide) qw_1662 qw_1664 qs_134 (ci := 13) (q := (RX13, TX13, 52)) rfl (mt_0 hT) (As := [.int i2]) (rest := []) (st1 := [.int q119]) (kX13_wornBy C.2.2.2.1 i2 hT M hq119) rfl rfl rfl (Nat.le_of_ble_eq_true rfl) dX13_does_119 (fun H locs hM => ?_)
    refine lv_if_ge (tgt := 129) hx hb dX13_does_122 (by decide) (fun hc122 => ?_) (fun hc122 => ?_)
    · replace hf := mx_ift hc122 hf
      refine lv_iconst (v := (0 : Int32)) hx hb dX13_does_129 (by decide) ?_
      exact wfX13_does_130 C i1 i2 i3 i4 hT (fun i5' M' => fX13_does_200 i1 i2 i3 i4 i5' M') (fun i5' M' H locs ls hf hM hl => wfX13_does_200 C i1 i2 i3 i4 hT i5' M' H locs ls hf hM hl) false M _ _ _ hf hM (lv_sub hl [1, 2, 3] rfl)
    · replace hf := mx_iff hc122 hf
      refine lv_iconst (v := (1 : Int32)) hx hb dX13_does_125 (by decide) ?_
      refine lv_goto (tgt := 130) hx hb dX13_does_126 (by decide) ?_
      exact wfX13_does_130 C i1 i2 i3 i4 hT (fun i5' M' => fX13_does_200 i1 i2 i3 i4 i5' M') (fun i5' M' H locs ls hf hM hl => wfX13_does_200 C i1 i2 i3 i4 hT i5' M' H locs ls hf hM hl) true M _ _ _ hf hM (lv_sub hl [1, 2, 3] rfl)
  replace hf := mx_iff hs3 hf
  by_cases hs4 : i1 = 4
  · replace hf := mx_ift hs4 hf
    refine lv_tableIn (tgt := 154) hx hb dX13_does_4 (by rw [hs4]; decide) (by rw [hs4]; decide) (by rw [hs4]; rfl) (by decide) ?_
    refine lv_aload_n hx hb dX13_does_154 rfl (lv_at hl 1 rfl) ?_
    refine lv_iload_n hx hb dX13_does_155 rfl (lv_at hl 3 rfl) ?_
    refine lv_iload_n hx hb dX13_does_156 rfl (lv_at hl 4 rfl) ?_
    obtain ⟨q157, hq157, hf⟩ := mx_bd hf
    refine mx_callV C hM hl.1 yo_X13_whyFind (h' := 2) (by decide) qw_1753 qw_1755 qs_148 (ci := 13) (q := (RX13, TX13, 52)) rfl (mt_0 hT) (As := [.int i2, .int i3]) (rest := []) (st1 := [.int q157]) (kX13_whyFind C.2.2.2.1 i2 i3 hT M hq157) rfl rfl rfl (Nat.le_of_ble_eq_true rfl) dX13_does_157 (fun H locs hM => ?_)
    refine lv_istore (lv' := [(5, .int q157), (0, .ref (E.2.1.2.1 0)), (1, .int i1), (2, .int i2), (3, .int i3), (4, .int i4)]) hx hb dX13_does_160 hl (by decide) rfl (fun ls hl => ?_)
    refine lv_iload hx hb dX13_does_162 (lv_at hl 0 rfl) ?_
    refine lv_if_ne (tgt := 200) hx hb dX13_does_164 (by decide) (fun hc164 => ?_) (fun hc164 => ?_)
    · replace hf := mx_iff hc164 hf
      exact wfX13_does_200 C i1 i2 i3 i4 hT q157 M _ _ _ hf hM (lv_sub hl [2, 0] rfl)
    · replace hf := mx_ift hc164 hf
      refine lv_aload_n hx hb dX13_does_167 rfl (lv_at hl 1 rfl) ?_
      refine lv_iload_n hx hb dX13_does_168 rfl (lv_at hl 3 rfl) ?_
      refine lv_iload_n hx hb dX13_does_169 rfl (lv_at hl 4 rfl) ?_
      obtain ⟨q170, hq170, hf⟩ := mx_bd hf
      refine mx_callV C hM hl.1 yo_X13_finds (h' := 0) (by decide) qw_1757 qw_1759 qs_149 (ci := 13) (q := (RX13, TX13, 52)) rfl (mt_0 hT) (As := [.int i2, .int i3]) (rest := []) (st1 := []) (kX13_finds C.2.2.2.1 i2 i3 hT M hq170) rfl rfl rfl (Nat.le_of_ble_eq_true rfl) dX13_does_170 (fun H locs hM => ?_)
      refine lv_goto (tgt := 200) hx hb dX13_does_173 (by decide) ?_
      exact wfX13_does_200 C i1 i2 i3 i4 hT q157 q170 _ _ _ hf hM (lv_sub hl [2, 0] rfl)
  replace hf := mx_iff hs4 hf
  refine lv_tableOut (tgt := 176) hx hb dX13_does_4 (by have hh := And.intro trivial trivial; have hh0 := lv_neT hs0 (by decide : (0 : Int32).toInt = 0); have hh1 := lv_neT hs1 (by decide : (1 : Int32).toInt = 1); have hh2 := lv_neT hs2 (by decide : (2 : Int32).toInt = 2); have hh3 := lv_neT hs3 (by decide : (3 : Int32).toInt = 3); have hh4 := lv_neT hs4 (by decide : (4 : Int32).toInt = 4); omega) (by decide) ?_
  refine lv_aload_n hx hb dX13_does_176 rfl (lv_at hl 1 rfl) ?_
  refine g13_33 C hT hM dX13_does_177 ?_
  refine lv_bipush (v := (54 : Int32)) hx hb dX13_does_180 (by decide) ?_
  refine mx_ialdL C hM (mt_2 hT) (j := 54) (by decide) (mx_in_vp (by decide)) dX13_does_182 ?_
  refine lv_iload_n hx hb dX13_does_183 rfl (lv_at hl 3 rfl) ?_
  refine lv_iadd hx hb dX13_does_184 ?_
  refine lv_sipush (v := (400 : Int32)) hx hb dX13_does_185 (by decide) ?_
  refine lv_icmp_le (tgt := 194) hx hb dX13_does_188 (by decide) (fun hc188 => ?_) (fun hc188 => ?_)
  · replace hf := mx_ift hc188 hf
    refine lv_aload_n hx hb dX13_does_194 rfl (lv_at hl 1 rfl) ?_
    refine lv_iload_n hx hb dX13_does_195 rfl (lv_at hl 3 rfl) ?_
    obtain ⟨q196, hq196, hf⟩ := mx_bd hf
    refine mx_callV C hM hl.1 yo_X13_goesOn (h' := 3) (by decide) qw_1765 qw_1767 qs_150 (ci := 13) (q := (RX13, TX13, 52)) rfl (mt_0 hT) (As := [.int i2]) (rest := []) (st1 := [.int q196.1]) (kX13_goesOn C.2.2.2.1 i2 hT M hq196) rfl rfl rfl (Nat.le_of_ble_eq_true rfl) dX13_does_196 (fun H locs hM => ?_)
    refine lv_pop hx hb dX13_does_199 rfl ?_
    exact wfX13_does_200 C i1 i2 i3 i4 hT (0 : Int32) q196.2 _ _ _ hf hM (lv_sub hl [2, 0] rfl)
  · replace hf := mx_iff hc188 hf
    refine lv_bipush (v := (51 : Int32)) hx hb dX13_does_191 (by decide) ?_
    exact mx_iret C hM hf dX13_does_193
theorem dX13_book_0 : decode cX13_book 0 = .ok (.aload_n 0, 1) := by decide +kernel
theorem dX13_book_1 : decode cX13_book 1 = .ok (.iconst 0, 1) := by decide +kernel
theorem dX13_book_2 : decode cX13_book 2 = .ok (.putfield 1, 3) := by decide +kernel
theorem dX13_book_5 : decode cX13_book 5 = .ok (.iload_n 1, 1) := by decide +kernel
theorem dX13_book_6 : decode cX13_book 6 = .ok (.iconst 0, 1) := by decide +kernel
theorem dX13_book_7 : decode cX13_book 7 = .ok (.iconst 1, 1) := by decide +kernel
theorem dX13_book_8 : decode cX13_book 8 = .ok (.invokestatic 193, 3) := by decide +kernel
theorem dX13_book_11 : decode cX13_book 11 = .ok (.ifCond .ne 7, 3) := by decide +kernel
theorem dX13_book_14 : decode cX13_book 14 = .ok (.sipush (-1000), 3) := by decide +kernel
theorem dX13_book_17 : decode cX13_book 17 = .ok (.ireturn, 1) := by decide +kernel
theorem dX13_book_18 : decode cX13_book 18 = .ok (.aload_n 0, 1) := by decide +kernel
theorem dX13_book_19 : decode cX13_book 19 = .ok (.sipush 400, 3) := by decide +kernel
theorem dX13_book_22 : decode cX13_book 22 = .ok (.invokevirtual 244, 3) := by decide +kernel
theorem dX13_book_25 : decode cX13_book 25 = .ok (.aload_n 0, 1) := by decide +kernel
theorem dX13_book_26 : decode cX13_book 26 = .ok (.iconst 0, 1) := by decide +kernel
theorem dX13_book_27 : decode cX13_book 27 = .ok (.putfield 178, 3) := by decide +kernel
theorem dX13_book_30 : decode cX13_book 30 = .ok (.aload_n 0, 1) := by decide +kernel
theorem dX13_book_31 : decode cX13_book 31 = .ok (.iconst 0, 1) := by decide +kernel
theorem dX13_book_32 : decode cX13_book 32 = .ok (.putfield 431, 3) := by decide +kernel
theorem dX13_book_35 : decode cX13_book 35 = .ok (.aload_n 0, 1) := by decide +kernel
theorem dX13_book_36 : decode cX13_book 36 = .ok (.invokevirtual 190, 3) := by decide +kernel
theorem dX13_book_39 : decode cX13_book 39 = .ok (.aload_n 0, 1) := by decide +kernel
theorem dX13_book_40 : decode cX13_book 40 = .ok (.getfield 161, 3) := by decide +kernel
theorem dX13_book_43 : decode cX13_book 43 = .ok (.ifCond .eq 40, 3) := by decide +kernel
theorem dX13_book_46 : decode cX13_book 46 = .ok (.aload_n 0, 1) := by decide +kernel
theorem dX13_book_47 : decode cX13_book 47 = .ok (.invokevirtual 434, 3) := by decide +kernel
theorem dX13_book_50 : decode cX13_book 50 = .ok (.ifCond .eq 12, 3) := by decide +kernel
theorem dX13_book_53 : decode cX13_book 53 = .ok (.aload_n 0, 1) := by decide +kernel
theorem dX13_book_54 : decode cX13_book 54 = .ok (.bipush 59, 2) := by decide +kernel
theorem dX13_book_56 : decode cX13_book 56 = .ok (.invokevirtual 253, 3) := by decide +kernel
theorem dX13_book_59 : decode cX13_book 59 = .ok (.ifCond .ne 11, 3) := by decide +kernel
theorem dX13_book_62 : decode cX13_book 62 = .ok (.bipush (-2), 2) := by decide +kernel
theorem dX13_book_64 : decode cX13_book 64 = .ok (.aload_n 0, 1) := by decide +kernel
theorem dX13_book_65 : decode cX13_book 65 = .ok (.getfield 181, 3) := by decide +kernel
theorem dX13_book_68 : decode cX13_book 68 = .ok (.isub, 1) := by decide +kernel
theorem dX13_book_69 : decode cX13_book 69 = .ok (.ireturn, 1) := by decide +kernel
theorem dX13_book_70 : decode cX13_book 70 = .ok (.aload_n 0, 1) := by decide +kernel
theorem dX13_book_71 : decode cX13_book 71 = .ok (.dup, 1) := by decide +kernel
theorem dX13_book_72 : decode cX13_book 72 = .ok (.getfield 431, 3) := by decide +kernel
theorem dX13_book_75 : decode cX13_book 75 = .ok (.iconst 1, 1) := by decide +kernel
theorem dX13_book_76 : decode cX13_book 76 = .ok (.iadd, 1) := by decide +kernel
theorem dX13_book_77 : decode cX13_book 77 = .ok (.putfield 431, 3) := by decide +kernel
theorem dX13_book_80 : decode cX13_book 80 = .ok (.goto (-41), 3) := by decide +kernel
theorem dX13_book_83 : decode cX13_book 83 = .ok (.aload_n 0, 1) := by decide +kernel
theorem dX13_book_84 : decode cX13_book 84 = .ok (.invokevirtual 425, 3) := by decide +kernel
theorem dX13_book_87 : decode cX13_book 87 = .ok (.iconst 0, 1) := by decide +kernel
theorem dX13_book_88 : decode cX13_book 88 = .ok (.istore_n 2, 1) := by decide +kernel
theorem dX13_book_89 : decode cX13_book 89 = .ok (.iload_n 2, 1) := by decide +kernel
theorem dX13_book_90 : decode cX13_book 90 = .ok (.iconst 4, 1) := by decide +kernel
theorem dX13_book_91 : decode cX13_book 91 = .ok (.if_icmp .ge 16, 3) := by decide +kernel
theorem dX13_book_94 : decode cX13_book 94 = .ok (.aload_n 0, 1) := by decide +kernel
theorem dX13_book_95 : decode cX13_book 95 = .ok (.getfield 83, 3) := by decide +kernel
theorem dX13_book_98 : decode cX13_book 98 = .ok (.iload_n 2, 1) := by decide +kernel
theorem dX13_book_99 : decode cX13_book 99 = .ok (.iconst 0, 1) := by decide +kernel
theorem dX13_book_100 : decode cX13_book 100 = .ok (.iastore, 1) := by decide +kernel
theorem dX13_book_101 : decode cX13_book 101 = .ok (.iinc 2 1, 3) := by decide +kernel
theorem dX13_book_104 : decode cX13_book 104 = .ok (.goto (-15), 3) := by decide +kernel
theorem dX13_book_107 : decode cX13_book 107 = .ok (.iconst (-1), 1) := by decide +kernel
theorem dX13_book_108 : decode cX13_book 108 = .ok (.istore_n 2, 1) := by decide +kernel
theorem dX13_book_109 : decode cX13_book 109 = .ok (.iconst 0, 1) := by decide +kernel
theorem dX13_book_110 : decode cX13_book 110 = .ok (.istore_n 3, 1) := by decide +kernel
theorem dX13_book_111 : decode cX13_book 111 = .ok (.iload_n 3, 1) := by decide +kernel
theorem dX13_book_112 : decode cX13_book 112 = .ok (.aload_n 0, 1) := by decide +kernel
theorem dX13_book_113 : decode cX13_book 113 = .ok (.getfield 431, 3) := by decide +kernel
theorem dX13_book_116 : decode cX13_book 116 = .ok (.if_icmp .ge 85, 3) := by decide +kernel
theorem dX13_book_119 : decode cX13_book 119 = .ok (.iload_n 2, 1) := by decide +kernel
theorem dX13_book_120 : decode cX13_book 120 = .ok (.ifCond .ge 81, 3) := by decide +kernel
theorem dX13_book_123 : decode cX13_book 123 = .ok (.aload_n 0, 1) := by decide +kernel
theorem dX13_book_124 : decode cX13_book 124 = .ok (.getfield 83, 3) := by decide +kernel
theorem dX13_book_127 : decode cX13_book 127 = .ok (.iconst 0, 1) := by decide +kernel
theorem dX13_book_128 : decode cX13_book 128 = .ok (.aload_n 0, 1) := by decide +kernel
theorem dX13_book_129 : decode cX13_book 129 = .ok (.aload_n 0, 1) := by decide +kernel
theorem dX13_book_130 : decode cX13_book 130 = .ok (.getfield 40, 3) := by decide +kernel
theorem dX13_book_133 : decode cX13_book 133 = .ok (.iconst 4, 1) := by decide +kernel
theorem dX13_book_134 : decode cX13_book 134 = .ok (.iload_n 3, 1) := by decide +kernel
theorem dX13_book_135 : decode cX13_book 135 = .ok (.imul, 1) := by decide +kernel
theorem dX13_book_136 : decode cX13_book 136 = .ok (.iaload, 1) := by decide +kernel
theorem dX13_book_137 : decode cX13_book 137 = .ok (.aload_n 0, 1) := by decide +kernel
theorem dX13_book_138 : decode cX13_book 138 = .ok (.getfield 40, 3) := by decide +kernel
theorem dX13_book_141 : decode cX13_book 141 = .ok (.iconst 4, 1) := by decide +kernel
theorem dX13_book_142 : decode cX13_book 142 = .ok (.iload_n 3, 1) := by decide +kernel
theorem dX13_book_143 : decode cX13_book 143 = .ok (.imul, 1) := by decide +kernel
theorem dX13_book_144 : decode cX13_book 144 = .ok (.iconst 1, 1) := by decide +kernel
theorem dX13_book_145 : decode cX13_book 145 = .ok (.iadd, 1) := by decide +kernel
theorem dX13_book_146 : decode cX13_book 146 = .ok (.iaload, 1) := by decide +kernel
theorem dX13_book_147 : decode cX13_book 147 = .ok (.aload_n 0, 1) := by decide +kernel
theorem dX13_book_148 : decode cX13_book 148 = .ok (.getfield 40, 3) := by decide +kernel
theorem dX13_book_151 : decode cX13_book 151 = .ok (.iconst 4, 1) := by decide +kernel
theorem dX13_book_152 : decode cX13_book 152 = .ok (.iload_n 3, 1) := by decide +kernel
theorem dX13_book_153 : decode cX13_book 153 = .ok (.imul, 1) := by decide +kernel
theorem dX13_book_154 : decode cX13_book 154 = .ok (.iconst 2, 1) := by decide +kernel
theorem dX13_book_155 : decode cX13_book 155 = .ok (.iadd, 1) := by decide +kernel
theorem dX13_book_156 : decode cX13_book 156 = .ok (.iaload, 1) := by decide +kernel
theorem dX13_book_157 : decode cX13_book 157 = .ok (.aload_n 0, 1) := by decide +kernel
theorem dX13_book_158 : decode cX13_book 158 = .ok (.getfield 40, 3) := by decide +kernel
theorem dX13_book_161 : decode cX13_book 161 = .ok (.iconst 4, 1) := by decide +kernel
theorem dX13_book_162 : decode cX13_book 162 = .ok (.iload_n 3, 1) := by decide +kernel
theorem dX13_book_163 : decode cX13_book 163 = .ok (.imul, 1) := by decide +kernel
theorem dX13_book_164 : decode cX13_book 164 = .ok (.iconst 3, 1) := by decide +kernel
theorem dX13_book_165 : decode cX13_book 165 = .ok (.iadd, 1) := by decide +kernel
theorem dX13_book_166 : decode cX13_book 166 = .ok (.iaload, 1) := by decide +kernel
theorem dX13_book_167 : decode cX13_book 167 = .ok (.invokevirtual 437, 3) := by decide +kernel
theorem dX13_book_170 : decode cX13_book 170 = .ok (.iastore, 1) := by decide +kernel
theorem dX13_book_171 : decode cX13_book 171 = .ok (.aload_n 0, 1) := by decide +kernel
theorem dX13_book_172 : decode cX13_book 172 = .ok (.getfield 83, 3) := by decide +kernel
theorem dX13_book_175 : decode cX13_book 175 = .ok (.iconst 0, 1) := by decide +kernel
theorem dX13_book_176 : decode cX13_book 176 = .ok (.iaload, 1) := by decide +kernel
theorem dX13_book_177 : decode cX13_book 177 = .ok (.ifCond .le 8, 3) := by decide +kernel
theorem dX13_book_180 : decode cX13_book 180 = .ok (.iload_n 3, 1) := by decide +kernel
theorem dX13_book_181 : decode cX13_book 181 = .ok (.istore_n 2, 1) := by decide +kernel
theorem dX13_book_182 : decode cX13_book 182 = .ok (.goto 13, 3) := by decide +kernel
theorem dX13_book_185 : decode cX13_book 185 = .ok (.aload_n 0, 1) := by decide +kernel
theorem dX13_book_186 : decode cX13_book 186 = .ok (.getfield 83, 3) := by decide +kernel
theorem dX13_book_189 : decode cX13_book 189 = .ok (.iconst 1, 1) := by decide +kernel
theorem dX13_book_190 : decode cX13_book 190 = .ok (.dup2, 1) := by decide +kernel
theorem dX13_book_191 : decode cX13_book 191 = .ok (.iaload, 1) := by decide +kernel
theorem dX13_book_192 : decode cX13_book 192 = .ok (.iconst 1, 1) := by decide +kernel
theorem dX13_book_193 : decode cX13_book 193 = .ok (.iadd, 1) := by decide +kernel
theorem dX13_book_194 : decode cX13_book 194 = .ok (.iastore, 1) := by decide +kernel
theorem dX13_book_195 : decode cX13_book 195 = .ok (.iinc 3 1, 3) := by decide +kernel
theorem dX13_book_198 : decode cX13_book 198 = .ok (.goto (-87), 3) := by decide +kernel
theorem dX13_book_201 : decode cX13_book 201 = .ok (.aload_n 0, 1) := by decide +kernel
theorem dX13_book_202 : decode cX13_book 202 = .ok (.getfield 83, 3) := by decide +kernel
theorem dX13_book_205 : decode cX13_book 205 = .ok (.iconst 2, 1) := by decide +kernel
theorem dX13_book_206 : decode cX13_book 206 = .ok (.aload_n 0, 1) := by decide +kernel
theorem dX13_book_207 : decode cX13_book 207 = .ok (.getfield 33, 3) := by decide +kernel
theorem dX13_book_210 : decode cX13_book 210 = .ok (.bipush 54, 2) := by decide +kernel
theorem dX13_book_212 : decode cX13_book 212 = .ok (.iaload, 1) := by decide +kernel
theorem dX13_book_213 : decode cX13_book 213 = .ok (.iastore, 1) := by decide +kernel
theorem dX13_book_214 : decode cX13_book 214 = .ok (.aload_n 0, 1) := by decide +kernel
theorem dX13_book_215 : decode cX13_book 215 = .ok (.getfield 83, 3) := by decide +kernel
theorem dX13_book_218 : decode cX13_book 218 = .ok (.iconst 3, 1) := by decide +kernel
theorem dX13_book_219 : decode cX13_book 219 = .ok (.aload_n 0, 1) := by decide +kernel
theorem dX13_book_220 : decode cX13_book 220 = .ok (.bipush 85, 2) := by decide +kernel
theorem dX13_book_222 : decode cX13_book 222 = .ok (.iconst 2, 1) := by decide +kernel
theorem dX13_book_223 : decode cX13_book 223 = .ok (.invokevirtual 292, 3) := by decide +kernel
theorem dX13_book_226 : decode cX13_book 226 = .ok (.iastore, 1) := by decide +kernel
theorem dX13_book_227 : decode cX13_book 227 = .ok (.aload_n 0, 1) := by decide +kernel
theorem dX13_book_228 : decode cX13_book 228 = .ok (.iconst 1, 1) := by decide +kernel
theorem dX13_book_229 : decode cX13_book 229 = .ok (.putfield 441, 3) := by decide +kernel
theorem dX13_book_232 : decode cX13_book 232 = .ok (.iload_n 1, 1) := by decide +kernel
theorem dX13_book_233 : decode cX13_book 233 = .ok (.iconst 1, 1) := by decide +kernel
theorem dX13_book_234 : decode cX13_book 234 = .ok (.if_icmp .ne 52, 3) := by decide +kernel
theorem dX13_book_237 : decode cX13_book 237 = .ok (.aload_n 0, 1) := by decide +kernel
theorem dX13_book_238 : decode cX13_book 238 = .ok (.getfield 83, 3) := by decide +kernel
theorem dX13_book_241 : decode cX13_book 241 = .ok (.iconst 1, 1) := by decide +kernel
theorem dX13_book_242 : decode cX13_book 242 = .ok (.iaload, 1) := by decide +kernel
theorem dX13_book_243 : decode cX13_book 243 = .ok (.ifCond .le 43, 3) := by decide +kernel
theorem dX13_book_246 : decode cX13_book 246 = .ok (.aload_n 0, 1) := by decide +kernel
theorem dX13_book_247 : decode cX13_book 247 = .ok (.invokevirtual 313, 3) := by decide +kernel
theorem dX13_book_250 : decode cX13_book 250 = .ok (.iconst 0, 1) := by decide +kernel
theorem dX13_book_251 : decode cX13_book 251 = .ok (.istore_n 3, 1) := by decide +kernel
theorem dX13_book_252 : decode cX13_book 252 = .ok (.iload_n 3, 1) := by decide +kernel
theorem dX13_book_253 : decode cX13_book 253 = .ok (.bipush 59, 2) := by decide +kernel
theorem dX13_book_255 : decode cX13_book 255 = .ok (.if_icmp .ge 31, 3) := by decide +kernel
theorem dX13_book_258 : decode cX13_book 258 = .ok (.aload_n 0, 1) := by decide +kernel
theorem dX13_book_259 : decode cX13_book 259 = .ok (.getfield 50, 3) := by decide +kernel
theorem dX13_book_262 : decode cX13_book 262 = .ok (.bipush 59, 2) := by decide +kernel
theorem dX13_book_264 : decode cX13_book 264 = .ok (.aload_n 0, 1) := by decide +kernel
theorem dX13_book_265 : decode cX13_book 265 = .ok (.getfield 256, 3) := by decide +kernel
theorem dX13_book_268 : decode cX13_book 268 = .ok (.iconst 1, 1) := by decide +kernel
theorem dX13_book_269 : decode cX13_book 269 = .ok (.isub, 1) := by decide +kernel
theorem dX13_book_270 : decode cX13_book 270 = .ok (.imul, 1) := by decide +kernel
theorem dX13_book_271 : decode cX13_book 271 = .ok (.iload_n 3, 1) := by decide +kernel
theorem dX13_book_272 : decode cX13_book 272 = .ok (.iadd, 1) := by decide +kernel
theorem dX13_book_273 : decode cX13_book 273 = .ok (.aload_n 0, 1) := by decide +kernel
theorem dX13_book_274 : decode cX13_book 274 = .ok (.getfield 53, 3) := by decide +kernel
theorem dX13_book_277 : decode cX13_book 277 = .ok (.iload_n 3, 1) := by decide +kernel
theorem dX13_book_278 : decode cX13_book 278 = .ok (.iaload, 1) := by decide +kernel
theorem dX13_book_279 : decode cX13_book 279 = .ok (.iastore, 1) := by decide +kernel
theorem dX13_book_280 : decode cX13_book 280 = .ok (.iinc 3 1, 3) := by decide +kernel
theorem dX13_book_283 : decode cX13_book 283 = .ok (.goto (-31), 3) := by decide +kernel
theorem dX13_book_286 : decode cX13_book 286 = .ok (.iload_n 1, 1) := by decide +kernel
theorem dX13_book_287 : decode cX13_book 287 = .ok (.ifCond .ne 7, 3) := by decide +kernel
theorem dX13_book_290 : decode cX13_book 290 = .ok (.aload_n 0, 1) := by decide +kernel
theorem dX13_book_291 : decode cX13_book 291 = .ok (.invokevirtual 428, 3) := by decide +kernel
theorem dX13_book_294 : decode cX13_book 294 = .ok (.iload_n 2, 1) := by decide +kernel
theorem dX13_book_295 : decode cX13_book 295 = .ok (.ireturn, 1) := by decide +kernel
set_option maxRecDepth 100000 in
set_option maxHeartbeats 4000000 in
theorem wfX13_book_286 {E : KE} {p : Program} {l : Launch} {e : Env} {s : State} {m : MethodId} {args : Array Value} {below : List Frame} {meth : Method} {c : Code} {q : (Int32 × MM)} (C : mx_C E p m c cX13_book 4 s args RX13 meth (some .int)) (i1 : Int32) (hT : E.1 = mt)   : ∀ (i2 : Int32) (M : MM) (H : Heap) (locs : List Loc) (ls : Array Slot), fX13_book_286 i1 i2 M = some q → mx_H E s M H locs → lv_has ls 4 [(0, .ref (E.2.1.2.1 0)), (1, .int i1), (2, .int i2)] → W p l e (mx_rm 5) s m args below meth c H locs 0 0 (mx_Z E below args s (some (.int q.1)) q.2) (F0 m 286 ls []) := by
  have hx := C.1.1
  have hb := C.1.2.1
  have hown := C.1.2.2.2.1
  have hts := C.1.2.2.2.2
  intro i2 M H locs ls hf hM hl
  rw [fX13_book_286] at hf
  refine lv_iload_n hx hb dX13_book_286 rfl (lv_at hl 1 rfl) ?_
  refine lv_if_ne (tgt := 294) hx hb dX13_book_287 (by decide) (fun hc287 => ?_) (fun hc287 => ?_)
  · replace hf := mx_iff hc287 hf
    refine lv_iload_n hx hb dX13_book_294 rfl (lv_at hl 2 rfl) ?_
    exact mx_iret C hM hf dX13_book_295
  · replace hf := mx_ift hc287 hf
    refine lv_aload_n hx hb dX13_book_290 rfl (lv_at hl 0 rfl) ?_
    obtain ⟨q291, hq291, hf⟩ := mx_bd hf
    refine mx_callV C hM hl.1 yo_X13_back (h' := 0) (by decide) qw_1938 qw_1940 qs_172 (ci := 13) (q := (RX13, TX13, 52)) rfl (mt_0 hT) (As := []) (rest := []) (st1 := []) (kX13_back C.2.2.2.1  hT M hq291) rfl rfl rfl (Nat.le_of_ble_eq_true rfl) dX13_book_291 (fun H locs hM => ?_)
    refine lv_iload_n hx hb dX13_book_294 rfl (lv_at hl 2 rfl) ?_
    exact mx_iret C hM hf dX13_book_295
set_option maxRecDepth 100000 in
set_option maxHeartbeats 4000000 in
theorem wfX13_book_252 {E : KE} {p : Program} {l : Launch} {e : Env} {s : State} {m : MethodId} {args : Array Value} {below : List Frame} {meth : Method} {c : Code} {q : (Int32 × MM)} (C : mx_C E p m c cX13_book 4 s args RX13 meth (some .int)) (i1 : Int32) (hT : E.1 = mt) (i2 : Int32) (k286 : Int32 → MM → Option (Int32 × MM)) (hk286 : ∀ (i2 : Int32) (M : MM) (H : Heap) (locs : List Loc) (ls : Array Slot), k286 i2 M = some q → mx_H E s M H locs → lv_has ls 4 [(0, .ref (E.2.1.2.1 0)), (1, .int i1), (2, .int i2)] → W p l e (mx_rm 5) s m args below meth c H locs 0 0 (mx_Z E below args s (some (.int q.1)) q.2) (F0 m 286 ls [])) : ∀ (n : Nat) (i3 : Int32) (M : MM) (H : Heap) (locs : List Loc) (ls : Array Slot), fX13_book_252 i1 i2 k286 n i3 M = some q → mx_H E s M H locs → lv_has ls 4 [(0, .ref (E.2.1.2.1 0)), (1, .int i1), (2, .int i2), (3, .int i3)] → W p l e (mx_rm 5) s m args below meth c H locs 0 0 (mx_Z E below args s (some (.int q.1)) q.2) (F0 m 252 ls []) := by
  have hx := C.1.1
  have hb := C.1.2.1
  have hown := C.1.2.2.2.1
  have hts := C.1.2.2.2.2
  intro n
  induction n with
  | zero =>
    intro i3 M H locs ls hf hM hl
    rw [fX13_book_252] at hf
    cases hf
  | succ n ih =>
    intro i3 M H locs ls hf hM hl
    rw [fX13_book_252] at hf
    refine lv_iload_n hx hb dX13_book_252 rfl (lv_at hl 3 rfl) ?_
    refine lv_bipush (v := (59 : Int32)) hx hb dX13_book_253 (by decide) ?_
    refine lv_icmp_ge (tgt := 286) hx hb dX13_book_255 (by decide) (fun hc255 => ?_) (fun hc255 => ?_)
    · replace hf := mx_ift hc255 hf
      exact hk286 i2 M _ _ _ hf hM (lv_sub hl [0, 1, 2] rfl)
    · replace hf := mx_iff hc255 hf
      refine lv_aload_n hx hb dX13_book_258 rfl (lv_at hl 0 rfl) ?_
      refine g13_50 C hT hM dX13_book_259 ?_
      refine lv_bipush (v := (59 : Int32)) hx hb dX13_book_262 (by decide) ?_
      refine lv_aload_n hx hb dX13_book_264 rfl (lv_at hl 0 rfl) ?_
      refine g13_256 C hT hM dX13_book_265 ?_
      refine lv_iconst (v := (1 : Int32)) hx hb dX13_book_268 (by decide) ?_
      refine lv_isub hx hb dX13_book_269 ?_
      refine lv_imul hx hb dX13_book_270 ?_
      refine lv_iload_n hx hb dX13_book_271 rfl (lv_at hl 3 rfl) ?_
      refine lv_iadd hx hb dX13_book_272 ?_
      refine lv_aload_n hx hb dX13_book_273 rfl (lv_at hl 0 rfl) ?_
      refine g13_53 C hT hM dX13_book_274 ?_
      refine lv_iload_n hx hb dX13_book_277 rfl (lv_at hl 3 rfl) ?_
      obtain ⟨hg278, hf⟩ := mx_gd hf
      refine mx_iald C hM (mt_8 hT) (mx_in_vp hg278) dX13_book_278 ?_
      obtain ⟨hg279, hf⟩ := mx_gd hf
      refine mx_iast C hM (mt_7 hT) (mx_in_vp hg279) dX13_book_279 (fun H locs hM => ?_)
      refine lv_iinc (v := (i3 + (1 : Int32))) (lv' := [(3, .int (i3 + (1 : Int32))), (0, .ref (E.2.1.2.1 0)), (1, .int i1), (2, .int i2)]) hx hb dX13_book_280 hl (k := 3) rfl rfl (by decide) rfl (fun ls hl => ?_)
      refine lv_goto (tgt := 252) hx hb dX13_book_283 (by decide) ?_
      exact ih (i3 + (1 : Int32)) (mx_si M 7 (((59 : Int32) * ((M.1 0 23) - (1 : Int32))) + i3).toNatClampNeg (M.1 8 i3.toNatClampNeg)) _ _ _ hf hM (lv_sub hl [1, 2, 3, 0] rfl)
set_option maxRecDepth 100000 in
set_option maxHeartbeats 4000000 in
theorem wfX13_book_201 {E : KE} {p : Program} {l : Launch} {e : Env} {s : State} {m : MethodId} {args : Array Value} {below : List Frame} {meth : Method} {c : Code} {q : (Int32 × MM)} (C : mx_C E p m c cX13_book 4 s args RX13 meth (some .int)) (i1 : Int32) (hT : E.1 = mt)   : ∀ (i2 : Int32) (M : MM) (H : Heap) (locs : List Loc) (ls : Array Slot), fX13_book_201 i1 i2 M = some q → mx_H E s M H locs → lv_has ls 4 [(0, .ref (E.2.1.2.1 0)), (1, .int i1), (2, .int i2)] → W p l e (mx_rm 5) s m args below meth c H locs 0 0 (mx_Z E below args s (some (.int q.1)) q.2) (F0 m 201 ls []) := by
  have hx := C.1.1
  have hb := C.1.2.1
  have hown := C.1.2.2.2.1
  have hts := C.1.2.2.2.2
  intro i2 M H locs ls hf hM hl
  rw [fX13_book_201] at hf
  refine lv_aload_n hx hb dX13_book_201 rfl (lv_at hl 0 rfl) ?_
  refine g13_83 C hT hM dX13_book_202 ?_
  refine lv_iconst (v := (2 : Int32)) hx hb dX13_book_205 (by decide) ?_
  refine lv_aload_n hx hb dX13_book_206 rfl (lv_at hl 0 rfl) ?_
  refine g13_33 C hT hM dX13_book_207 ?_
  refine lv_bipush (v := (54 : Int32)) hx hb dX13_book_210 (by decide) ?_
  refine mx_ialdL C hM (mt_2 hT) (j := 54) (by decide) (mx_in_vp (by decide)) dX13_book_212 ?_
  refine mx_iastL C hM (mt_16 hT) (j := 2) (by decide) (mx_in_vp (by decide)) dX13_book_213 (fun H locs hM => ?_)
  refine lv_aload_n hx hb dX13_book_214 rfl (lv_at hl 0 rfl) ?_
  refine g13_83 C hT hM dX13_book_215 ?_
  refine lv_iconst (v := (3 : Int32)) hx hb dX13_book_218 (by decide) ?_
  refine lv_aload_n hx hb dX13_book_219 rfl (lv_at hl 0 rfl) ?_
  refine lv_bipush (v := (85 : Int32)) hx hb dX13_book_220 (by decide) ?_
  refine lv_iconst (v := (2 : Int32)) hx hb dX13_book_222 (by decide) ?_
  obtain ⟨q223, hq223, hf⟩ := mx_bd hf
  refine mx_callV C hM hl.1 yo_X13_ringsBy (h' := 0) (by decide) qw_1690 qw_1692 qs_138 (ci := 13) (q := (RX13, TX13, 52)) rfl (mt_0 hT) (As := [.int (85 : Int32), .int (2 : Int32)]) (rest := [.int (3 : Int32), .ref (E.2.1.2.1 16)]) (st1 := [.int q223, .int (3 : Int32), .ref (E.2.1.2.1 16)]) (kX13_ringsBy C.2.2.2.1 (85 : Int32) (2 : Int32) hT (mx_si M 16 2 (M.1 2 54)) hq223) rfl rfl rfl (Nat.le_of_ble_eq_true rfl) dX13_book_223 (fun H locs hM => ?_)
  refine mx_iastL C hM (mt_16 hT) (j := 3) (by decide) (mx_in_vp (by decide)) dX13_book_226 (fun H locs hM => ?_)
  refine lv_aload_n hx hb dX13_book_227 rfl (lv_at hl 0 rfl) ?_
  refine lv_iconst (v := (1 : Int32)) hx hb dX13_book_228 (by decide) ?_
  refine p13_441 C hT hM (by decide) (by decide) dX13_book_229 (fun H locs hM => ?_)
  refine lv_iload_n hx hb dX13_book_232 rfl (lv_at hl 1 rfl) ?_
  refine lv_iconst (v := (1 : Int32)) hx hb dX13_book_233 (by decide) ?_
  refine lv_icmp_ne (tgt := 286) hx hb dX13_book_234 (by decide) (fun hc234 => ?_) (fun hc234 => ?_)
  · replace hf := mx_iff hc234 hf
    exact wfX13_book_286 C i1 hT i2 (mx_si (mx_si (mx_si M 16 2 (M.1 2 54)) 16 3 q223) 0 41 (1 : Int32)) _ _ _ hf hM (lv_sub hl [0, 1, 2] rfl)
  · replace hf := mx_ift hc234 hf
    refine lv_aload_n hx hb dX13_book_237 rfl (lv_at hl 0 rfl) ?_
    refine g13_83 C hT hM dX13_book_238 ?_
    refine lv_iconst (v := (1 : Int32)) hx hb dX13_book_241 (by decide) ?_
    refine mx_ialdL C hM (mt_16 hT) (j := 1) (by decide) (mx_in_vp (by decide)) dX13_book_242 ?_
    refine lv_if_le (tgt := 286) hx hb dX13_book_243 (by decide) (fun hc243 => ?_) (fun hc243 => ?_)
    · replace hf := mx_ift hc243 hf
      exact wfX13_book_286 C i1 hT i2 (mx_si (mx_si (mx_si M 16 2 (M.1 2 54)) 16 3 q223) 0 41 (1 : Int32)) _ _ _ hf hM (lv_sub hl [0, 1, 2] rfl)
    · replace hf := mx_iff hc243 hf
      refine lv_aload_n hx hb dX13_book_246 rfl (lv_at hl 0 rfl) ?_
      obtain ⟨q247, hq247, hf⟩ := mx_bd hf
      refine mx_callV C hM hl.1 yo_X13_keep (h' := 0) (by decide) qw_1709 qw_1711 qs_141 (ci := 13) (q := (RX13, TX13, 52)) rfl (mt_0 hT) (As := []) (rest := []) (st1 := []) (kX13_keep C.2.2.2.1  hT (mx_si (mx_si (mx_si M 16 2 (M.1 2 54)) 16 3 q223) 0 41 (1 : Int32)) hq247) rfl rfl rfl (Nat.le_of_ble_eq_true rfl) dX13_book_247 (fun H locs hM => ?_)
      refine lv_iconst (v := (0 : Int32)) hx hb dX13_book_250 (by decide) ?_
      refine lv_istore_n (lv' := [(3, .int (0 : Int32)), (0, .ref (E.2.1.2.1 0)), (1, .int i1), (2, .int i2)]) hx hb dX13_book_251 rfl hl (by decide) rfl (fun ls hl => ?_)
      exact wfX13_book_252 C i1 hT i2 (fun i2' M' => fX13_book_286 i1 i2' M') (fun i2' M' H locs ls hf hM hl => wfX13_book_286 C i1 hT i2' M' H locs ls hf hM hl) mx_fu (0 : Int32) q247 _ _ _ hf hM (lv_sub hl [1, 2, 3, 0] rfl)
set_option maxRecDepth 100000 in
set_option maxHeartbeats 4000000 in
theorem wfX13_book_111 {E : KE} {p : Program} {l : Launch} {e : Env} {s : State} {m : MethodId} {args : Array Value} {below : List Frame} {meth : Method} {c : Code} {q : (Int32 × MM)} (C : mx_C E p m c cX13_book 4 s args RX13 meth (some .int)) (i1 : Int32) (hT : E.1 = mt)   : ∀ (n : Nat) (i2 : Int32) (i3 : Int32) (M : MM) (H : Heap) (locs : List Loc) (ls : Array Slot), fX13_book_111 i1 n i2 i3 M = some q → mx_H E s M H locs → lv_has ls 4 [(0, .ref (E.2.1.2.1 0)), (1, .int i1), (2, .int i2), (3, .int i3)] → W p l e (mx_rm 5) s m args below meth c H locs 0 0 (mx_Z E below args s (some (.int q.1)) q.2) (F0 m 111 ls []) := by
  have hx := C.1.1
  have hb := C.1.2.1
  have hown := C.1.2.2.2.1
  have hts := C.1.2.2.2.2
  intro n
  induction n with
  | zero =>
    intro i2 i3 M H locs ls hf hM hl
    rw [fX13_book_111] at hf
    cases hf
  | succ n ih =>
    intro i2 i3 M H locs ls hf hM hl
    rw [fX13_book_111] at hf
    refine lv_iload_n hx hb dX13_book_111 rfl (lv_at hl 3 rfl) ?_
    refine lv_aload_n hx hb dX13_book_112 rfl (lv_at hl 0 rfl) ?_
    refine g13_431 C hT hM dX13_book_113 ?_
    refine lv_icmp_ge (tgt := 201) hx hb dX13_book_116 (by decide) (fun hc116 => ?_) (fun hc116 => ?_)
    · replace hf := mx_ift hc116 hf
      exact wfX13_book_201 C i1 hT i2 M _ _ _ hf hM (lv_sub hl [0, 1, 2] rfl)
    · replace hf := mx_iff hc116 hf
      refine lv_iload_n hx hb dX13_book_119 rfl (lv_at hl 2 rfl) ?_
      refine lv_if_ge (tgt := 201) hx hb dX13_book_120 (by decide) (fun hc120 => ?_) (fun hc120 => ?_)
      · replace hf := mx_ift hc120 hf
        exact wfX13_book_201 C i1 hT i2 M _ _ _ hf hM (lv_sub hl [0, 1, 2] rfl)
      · replace hf := mx_iff hc120 hf
        refine lv_aload_n hx hb dX13_book_123 rfl (lv_at hl 0 rfl) ?_
        refine g13_83 C hT hM dX13_book_124 ?_
        refine lv_iconst (v := (0 : Int32)) hx hb dX13_book_127 (by decide) ?_
        refine lv_aload_n hx hb dX13_book_128 rfl (lv_at hl 0 rfl) ?_
        refine lv_aload_n hx hb dX13_book_129 rfl (lv_at hl 0 rfl) ?_
        refine g13_40 C hT hM dX13_book_130 ?_
        refine lv_iconst (v := (4 : Int32)) hx hb dX13_book_133 (by decide) ?_
        refine lv_iload_n hx hb dX13_book_134 rfl (lv_at hl 3 rfl) ?_
        refine lv_imul hx hb dX13_book_135 ?_
        obtain ⟨hg136, hf⟩ := mx_gd hf
        refine mx_iald C hM (mt_4 hT) (mx_in_vp hg136) dX13_book_136 ?_
        refine lv_aload_n hx hb dX13_book_137 rfl (lv_at hl 0 rfl) ?_
        refine g13_40 C hT hM dX13_book_138 ?_
        refine lv_iconst (v := (4 : Int32)) hx hb dX13_book_141 (by decide) ?_
        refine lv_iload_n hx hb dX13_book_142 rfl (lv_at hl 3 rfl) ?_
        refine lv_imul hx hb dX13_book_143 ?_
        refine lv_iconst (v := (1 : Int32)) hx hb dX13_book_144 (by decide) ?_
        refine lv_iadd hx hb dX13_book_145 ?_
        obtain ⟨hg146, hf⟩ := mx_gd hf
        refine mx_iald C hM (mt_4 hT) (mx_in_vp hg146) dX13_book_146 ?_
        refine lv_aload_n hx hb dX13_book_147 rfl (lv_at hl 0 rfl) ?_
        refine g13_40 C hT hM dX13_book_148 ?_
        refine lv_iconst (v := (4 : Int32)) hx hb dX13_book_151 (by decide) ?_
        refine lv_iload_n hx hb dX13_book_152 rfl (lv_at hl 3 rfl) ?_
        refine lv_imul hx hb dX13_book_153 ?_
        refine lv_iconst (v := (2 : Int32)) hx hb dX13_book_154 (by decide) ?_
        refine lv_iadd hx hb dX13_book_155 ?_
        obtain ⟨hg156, hf⟩ := mx_gd hf
        refine mx_iald C hM (mt_4 hT) (mx_in_vp hg156) dX13_book_156 ?_
        refine lv_aload_n hx hb dX13_book_157 rfl (lv_at hl 0 rfl) ?_
        refine g13_40 C hT hM dX13_book_158 ?_
        refine lv_iconst (v := (4 : Int32)) hx hb dX13_book_161 (by decide) ?_
        refine lv_iload_n hx hb dX13_book_162 rfl (lv_at hl 3 rfl) ?_
        refine lv_imul hx hb dX13_book_163 ?_
        refine lv_iconst (v := (3 : Int32)) hx hb dX13_book_164 (by decide) ?_
        refine lv_iadd hx hb dX13_book_165 ?_
        obtain ⟨hg166, hf⟩ := mx_gd hf
        refine mx_iald C hM (mt_4 hT) (mx_in_vp hg166) dX13_book_166 ?_
        obtain ⟨q167, hq167, hf⟩ := mx_bd hf
        refine mx_callV C hM hl.1 yo_X13_does (h' := 4) (by decide) qw_1950 qw_1952 qs_174 (ci := 13) (q := (RX13, TX13, 52)) rfl (mt_0 hT) (As := [.int (M.1 4 ((4 : Int32) * i3).toNatClampNeg), .int (M.1 4 (((4 : Int32) * i3) + (1 : Int32)).toNatClampNeg), .int (M.1 4 (((4 : Int32) * i3) + (2 : Int32)).toNatClampNeg), .int (M.1 4 (((4 : Int32) * i3) + (3 : Int32)).toNatClampNeg)]) (rest := [.int (0 : Int32), .ref (E.2.1.2.1 16)]) (st1 := [.int q167.1, .int (0 : Int32), .ref (E.2.1.2.1 16)]) (kX13_does C.2.2.2.1 (M.1 4 ((4 : Int32) * i3).toNatClampNeg) (M.1 4 (((4 : Int32) * i3) + (1 : Int32)).toNatClampNeg) (M.1 4 (((4 : Int32) * i3) + (2 : Int32)).toNatClampNeg) (M.1 4 (((4 : Int32) * i3) + (3 : Int32)).toNatClampNeg) hT M hq167) rfl rfl rfl (Nat.le_of_ble_eq_true rfl) dX13_book_167 (fun H locs hM => ?_)
        refine mx_iastL C hM (mt_16 hT) (j := 0) (by decide) (mx_in_vp (by decide)) dX13_book_170 (fun H locs hM => ?_)
        refine lv_aload_n hx hb dX13_book_171 rfl (lv_at hl 0 rfl) ?_
        refine g13_83 C hT hM dX13_book_172 ?_
        refine lv_iconst (v := (0 : Int32)) hx hb dX13_book_175 (by decide) ?_
        refine mx_ialdL C hM (mt_16 hT) (j := 0) (by decide) (mx_in_vp (by decide)) dX13_book_176 ?_
        refine lv_if_le (tgt := 185) hx hb dX13_book_177 (by decide) (fun hc177 => ?_) (fun hc177 => ?_)
        · replace hf := mx_ift hc177 hf
          refine lv_aload_n hx hb dX13_book_185 rfl (lv_at hl 0 rfl) ?_
          refine g13_83 C hT hM dX13_book_186 ?_
          refine lv_iconst (v := (1 : Int32)) hx hb dX13_book_189 (by decide) ?_
          refine lv_dup2_11 hx hb dX13_book_190 rfl rfl ?_
          refine mx_ialdL C hM (mt_16 hT) (j := 1) (by decide) (mx_in_vp (by decide)) dX13_book_191 ?_
          refine lv_iconst (v := (1 : Int32)) hx hb dX13_book_192 (by decide) ?_
          refine lv_iadd hx hb dX13_book_193 ?_
          refine mx_iastL C hM (mt_16 hT) (j := 1) (by decide) (mx_in_vp (by decide)) dX13_book_194 (fun H locs hM => ?_)
          refine lv_iinc (v := (i3 + (1 : Int32))) (lv' := [(3, .int (i3 + (1 : Int32))), (0, .ref (E.2.1.2.1 0)), (1, .int i1), (2, .int i2)]) hx hb dX13_book_195 hl (k := 3) rfl rfl (by decide) rfl (fun ls hl => ?_)
          refine lv_goto (tgt := 111) hx hb dX13_book_198 (by decide) ?_
          exact ih i2 (i3 + (1 : Int32)) (mx_si (mx_si q167.2 16 0 q167.1) 16 1 (((mx_si q167.2 16 0 q167.1).1 16 1) + (1 : Int32))) _ _ _ hf hM (lv_sub hl [1, 2, 3, 0] rfl)
        · replace hf := mx_iff hc177 hf
          refine lv_iload_n hx hb dX13_book_180 rfl (lv_at hl 3 rfl) ?_
          refine lv_istore_n (lv' := [(2, .int i3), (0, .ref (E.2.1.2.1 0)), (1, .int i1), (3, .int i3)]) hx hb dX13_book_181 rfl hl (by decide) rfl (fun ls hl => ?_)
          refine lv_goto (tgt := 195) hx hb dX13_book_182 (by decide) ?_
          refine lv_iinc (v := (i3 + (1 : Int32))) (lv' := [(3, .int (i3 + (1 : Int32))), (2, .int i3), (0, .ref (E.2.1.2.1 0)), (1, .int i1)]) hx hb dX13_book_195 hl (k := 3) rfl rfl (by decide) rfl (fun ls hl => ?_)
          refine lv_goto (tgt := 111) hx hb dX13_book_198 (by decide) ?_
          exact ih i3 (i3 + (1 : Int32)) (mx_si q167.2 16 0 q167.1) _ _ _ hf hM (lv_sub hl [2, 3, 1, 0] rfl)
set_option maxRecDepth 100000 in
set_option maxHeartbeats 4000000 in
theorem wfX13_book_89 {E : KE} {p : Program} {l : Launch} {e : Env} {s : State} {m : MethodId} {args : Array Value} {below : List Frame} {meth : Method} {c : Code} {q : (Int32 × MM)} (C : mx_C E p m c cX13_book 4 s args RX13 meth (some .int)) (i1 : Int32) (hT : E.1 = mt)   : ∀ (n : Nat) (i2 : Int32) (M : MM) (H : Heap) (locs : List Loc) (ls : Array Slot), fX13_book_89 i1 n i2 M = some q → mx_H E s M H locs → lv_has ls 4 [(0, .ref (E.2.1.2.1 0)), (1, .int i1), (2, .int i2)] → W p l e (mx_rm 5) s m args below meth c H locs 0 0 (mx_Z E below args s (some (.int q.1)) q.2) (F0 m 89 ls []) := by
  have hx := C.1.1
  have hb := C.1.2.1
  have hown := C.1.2.2.2.1
  have hts := C.1.2.2.2.2
  intro n
  induction n with
  | zero =>
    intro i2 M H locs ls hf hM hl
    rw [fX13_book_89] at hf
    cases hf
  | succ n ih =>
    intro i2 M H locs ls hf hM hl
    rw [fX13_book_89] at hf
    refine lv_iload_n hx hb dX13_book_89 rfl (lv_at hl 2 rfl) ?_
    refine lv_iconst (v := (4 : Int32)) hx hb dX13_book_90 (by decide) ?_
    refine lv_icmp_ge (tgt := 107) hx hb dX13_book_91 (by decide) (fun hc91 => ?_) (fun hc91 => ?_)
    · replace hf := mx_ift hc91 hf
      refine lv_iconst (v := (-1 : Int32)) hx hb dX13_book_107 (by decide) ?_
      refine lv_istore_n (lv' := [(2, .int (-1 : Int32)), (0, .ref (E.2.1.2.1 0)), (1, .int i1)]) hx hb dX13_book_108 rfl hl (by decide) rfl (fun ls hl => ?_)
      refine lv_iconst (v := (0 : Int32)) hx hb dX13_book_109 (by decide) ?_
      refine lv_istore_n (lv' := [(3, .int (0 : Int32)), (2, .int (-1 : Int32)), (0, .ref (E.2.1.2.1 0)), (1, .int i1)]) hx hb dX13_book_110 rfl hl (by decide) rfl (fun ls hl => ?_)
      exact wfX13_book_111 C i1 hT mx_fu (-1 : Int32) (0 : Int32) M _ _ _ hf hM (lv_sub hl [2, 3, 1, 0] rfl)
    · replace hf := mx_iff hc91 hf
      refine lv_aload_n hx hb dX13_book_94 rfl (lv_at hl 0 rfl) ?_
      refine g13_83 C hT hM dX13_book_95 ?_
      refine lv_iload_n hx hb dX13_book_98 rfl (lv_at hl 2 rfl) ?_
      refine lv_iconst (v := (0 : Int32)) hx hb dX13_book_99 (by decide) ?_
      obtain ⟨hg100, hf⟩ := mx_gd hf
      refine mx_iast C hM (mt_16 hT) (mx_in_vp hg100) dX13_book_100 (fun H locs hM => ?_)
      refine lv_iinc (v := (i2 + (1 : Int32))) (lv' := [(2, .int (i2 + (1 : Int32))), (0, .ref (E.2.1.2.1 0)), (1, .int i1)]) hx hb dX13_book_101 hl (k := 2) rfl rfl (by decide) rfl (fun ls hl => ?_)
      refine lv_goto (tgt := 89) hx hb dX13_book_104 (by decide) ?_
      exact ih (i2 + (1 : Int32)) (mx_si M 16 i2.toNatClampNeg (0 : Int32)) _ _ _ hf hM (lv_sub hl [1, 2, 0] rfl)
set_option maxRecDepth 100000 in
set_option maxHeartbeats 4000000 in
theorem wfX13_book_39 {E : KE} {p : Program} {l : Launch} {e : Env} {s : State} {m : MethodId} {args : Array Value} {below : List Frame} {meth : Method} {c : Code} {q : (Int32 × MM)} (C : mx_C E p m c cX13_book 4 s args RX13 meth (some .int)) (i1 : Int32) (hT : E.1 = mt)   : ∀ (n : Nat) (M : MM) (H : Heap) (locs : List Loc) (ls : Array Slot), fX13_book_39 i1 n M = some q → mx_H E s M H locs → lv_has ls 4 [(0, .ref (E.2.1.2.1 0)), (1, .int i1)] → W p l e (mx_rm 5) s m args below meth c H locs 0 0 (mx_Z E below args s (some (.int q.1)) q.2) (F0 m 39 ls []) := by
  have hx := C.1.1
  have hb := C.1.2.1
  have hown := C.1.2.2.2.1
  have hts := C.1.2.2.2.2
  intro n
  induction n with
  | zero =>
    intro M H locs ls hf hM hl
    rw [fX13_book_39] at hf
    cases hf
  | succ n ih =>
    intro M H locs ls hf hM hl
    rw [fX13_book_39] at hf
    refine lv_aload_n hx hb dX13_book_39 rfl (lv_at hl 0 rfl) ?_
    refine g13_161 C hT hM dX13_book_40 ?_
    refine lv_if_eq (tgt := 83) hx hb dX13_book_43 (by decide) (fun hc43 => ?_) (fun hc43 => ?_)
    · replace hf := mx_ift hc43 hf
      refine lv_aload_n hx hb dX13_book_83 rfl (lv_at hl 0 rfl) ?_
      obtain ⟨q84, hq84, hf⟩ := mx_bd hf
      refine mx_callV C hM hl.1 yo_X13_tries (h' := 0) (by decide) qw_1934 qw_1936 qs_171 (ci := 13) (q := (RX13, TX13, 52)) rfl (mt_0 hT) (As := []) (rest := []) (st1 := []) (kX13_tries C.2.2.2.1  hT M hq84) rfl rfl rfl (Nat.le_of_ble_eq_true rfl) dX13_book_84 (fun H locs hM => ?_)
      refine lv_iconst (v := (0 : Int32)) hx hb dX13_book_87 (by decide) ?_
      refine lv_istore_n (lv' := [(2, .int (0 : Int32)), (0, .ref (E.2.1.2.1 0)), (1, .int i1)]) hx hb dX13_book_88 rfl hl (by decide) rfl (fun ls hl => ?_)
      exact wfX13_book_89 C i1 hT mx_fu (0 : Int32) q84 _ _ _ hf hM (lv_sub hl [1, 2, 0] rfl)
    · replace hf := mx_iff hc43 hf
      refine lv_aload_n hx hb dX13_book_46 rfl (lv_at hl 0 rfl) ?_
      obtain ⟨q47, hq47, hf⟩ := mx_bd hf
      refine mx_callV C hM hl.1 yo_X13_bookLine (h' := 3) (by decide) qw_1946 qw_1948 qs_173 (ci := 13) (q := (RX13, TX13, 52)) rfl (mt_0 hT) (As := []) (rest := []) (st1 := [.int (mx_b q47.1)]) (kX13_bookLine C.2.2.2.1  hT M hq47) rfl rfl rfl (Nat.le_of_ble_eq_true rfl) dX13_book_47 (fun H locs hM => ?_)
      refine lv_if_eq (tgt := 62) hx hb dX13_book_50 (by decide) (fun hc50 => ?_) (fun hc50 => ?_)
      · replace hf := mx_ift hc50 hf
        refine lv_bipush (v := (-2 : Int32)) hx hb dX13_book_62 (by decide) ?_
        refine lv_aload_n hx hb dX13_book_64 rfl (lv_at hl 0 rfl) ?_
        refine g13_181 C hT hM dX13_book_65 ?_
        refine lv_isub hx hb dX13_book_68 ?_
        exact mx_iret C hM hf dX13_book_69
      · replace hf := mx_iff hc50 hf
        refine lv_aload_n hx hb dX13_book_53 rfl (lv_at hl 0 rfl) ?_
        refine lv_bipush (v := (59 : Int32)) hx hb dX13_book_54 (by decide) ?_
        obtain ⟨q56, hq56, hf⟩ := mx_bd hf
        refine mx_callV C hM hl.1 yo_X13_sign (h' := 2) (by decide) qw_1630 qw_1632 qs_128 (ci := 13) (q := (RX13, TX13, 52)) rfl (mt_0 hT) (As := [.int (59 : Int32)]) (rest := []) (st1 := [.int (mx_b q56.1)]) (kX13_sign C.2.2.2.1 (59 : Int32) hT q47.2 hq56) rfl rfl rfl (Nat.le_of_ble_eq_true rfl) dX13_book_56 (fun H locs hM => ?_)
        refine lv_if_ne (tgt := 70) hx hb dX13_book_59 (by decide) (fun hc59 => ?_) (fun hc59 => ?_)
        · replace hf := mx_iff hc59 hf
          refine lv_aload_n hx hb dX13_book_70 rfl (lv_at hl 0 rfl) ?_
          refine lv_dup hx hb dX13_book_71 rfl ?_
          refine g13_431 C hT hM dX13_book_72 ?_
          refine lv_iconst (v := (1 : Int32)) hx hb dX13_book_75 (by decide) ?_
          refine lv_iadd hx hb dX13_book_76 ?_
          refine p13_431 C hT hM dX13_book_77 (fun H locs hM => ?_)
          refine lv_goto (tgt := 39) hx hb dX13_book_80 (by decide) ?_
          exact ih (mx_si q56.2 0 39 ((q56.2.1 0 39) + (1 : Int32))) _ _ _ hf hM (lv_sub hl [0, 1] rfl)
        · replace hf := mx_ift hc59 hf
          refine lv_bipush (v := (-2 : Int32)) hx hb dX13_book_62 (by decide) ?_
          refine lv_aload_n hx hb dX13_book_64 rfl (lv_at hl 0 rfl) ?_
          refine g13_181 C hT hM dX13_book_65 ?_
          refine lv_isub hx hb dX13_book_68 ?_
          exact mx_iret C hM hf dX13_book_69
set_option maxRecDepth 100000 in
set_option maxHeartbeats 4000000 in
theorem kX13_book {E : KE} {l : Launch} (hE : mx_ok E) (i1 : Int32) (hT : E.1 = mt) (M : MM) {q : (Int32 × MM)} (hf : fX13_book i1 M = some q) : mx_Met E l yX13_book cX13_book 4 (some .int) 5 [.ref (E.2.1.2.1 0), .int i1] M (some (.int q.1)) q.2 := by
  refine mx_enter hE (by decide) (Nat.le_of_ble_eq_true rfl) ?_
  intro p e s m below meth c C hM hn ls hl
  have hx := C.1.1
  have hb := C.1.2.1
  have hown := C.1.2.2.2.1
  have hts := C.1.2.2.2.2
  have hl : lv_has ls 4 [(0, .ref (E.2.1.2.1 0)), (1, .int i1)] := hl
  rw [fX13_book] at hf
  refine lv_aload_n hx hb dX13_book_0 rfl (lv_at hl 0 rfl) ?_
  refine lv_iconst (v := (0 : Int32)) hx hb dX13_book_1 (by decide) ?_
  refine p13_1 C hT hM dX13_book_2 (fun H locs hM => ?_)
  refine lv_iload_n hx hb dX13_book_5 rfl (lv_at hl 1 rfl) ?_
  refine lv_iconst (v := (0 : Int32)) hx hb dX13_book_6 (by decide) ?_
  refine lv_iconst (v := (1 : Int32)) hx hb dX13_book_7 (by decide) ?_
  obtain ⟨q8, hq8, hf⟩ := mx_bd hf
  refine mx_callS C hM hl.1 yo_X13_isIn (h' := 0) (by decide) qw_1608 qw_1609 (As := [.int i1, .int (0 : Int32), .int (1 : Int32)]) (rest := []) (st1 := [.int (mx_b q8)]) (kX13_isIn C.2.2.2.1 i1 (0 : Int32) (1 : Int32) hT (mx_si M 0 0 (0 : Int32)) hq8) rfl rfl rfl (Nat.le_of_ble_eq_true rfl) dX13_book_8 (fun H locs hM => ?_)
  refine lv_if_ne (tgt := 18) hx hb dX13_book_11 (by decide) (fun hc11 => ?_) (fun hc11 => ?_)
  · replace hf := mx_iff hc11 hf
    refine lv_aload_n hx hb dX13_book_18 rfl (lv_at hl 0 rfl) ?_
    refine lv_sipush (v := (400 : Int32)) hx hb dX13_book_19 (by decide) ?_
    obtain ⟨q22, hq22, hf⟩ := mx_bd hf
    refine mx_callV C hM hl.1 yo_X13_taken (h' := 0) (by decide) qw_1554 qw_1556 qs_112 (ci := 13) (q := (RX13, TX13, 52)) rfl (mt_0 hT) (As := [.int (400 : Int32)]) (rest := []) (st1 := []) (kX13_taken C.2.2.2.1 (400 : Int32) hT (mx_si M 0 0 (0 : Int32)) hq22) rfl rfl rfl (Nat.le_of_ble_eq_true rfl) dX13_book_22 (fun H locs hM => ?_)
    refine lv_aload_n hx hb dX13_book_25 rfl (lv_at hl 0 rfl) ?_
    refine lv_iconst (v := (0 : Int32)) hx hb dX13_book_26 (by decide) ?_
    refine p13_178 C hT hM dX13_book_27 (fun H locs hM => ?_)
    refine lv_aload_n hx hb dX13_book_30 rfl (lv_at hl 0 rfl) ?_
    refine lv_iconst (v := (0 : Int32)) hx hb dX13_book_31 (by decide) ?_
    refine p13_431 C hT hM dX13_book_32 (fun H locs hM => ?_)
    refine lv_aload_n hx hb dX13_book_35 rfl (lv_at hl 0 rfl) ?_
    obtain ⟨q36, hq36, hf⟩ := mx_bd hf
    refine mx_callV C hM hl.1 yo_X13_next (h' := 1) (by decide) qw_1558 qw_1560 qs_113 (ci := 13) (q := (RX13, TX13, 52)) rfl (mt_0 hT) (As := []) (rest := []) (st1 := []) (kX13_next C.2.2.2.1  hT (mx_si (mx_si q22 0 15 (0 : Int32)) 0 39 (0 : Int32)) hq36) rfl rfl rfl (Nat.le_of_ble_eq_true rfl) dX13_book_36 (fun H locs hM => ?_)
    exact wfX13_book_39 C i1 hT mx_fu q36 _ _ _ hf hM (lv_sub hl [0, 1] rfl)
  · replace hf := mx_ift hc11 hf
    refine lv_sipush (v := (-1000 : Int32)) hx hb dX13_book_14 (by decide) ?_
    exact mx_iret C hM hf dX13_book_17
