theorem dX8_holdsOf_0 : decode cX8_holdsOf 0 = .ok (.lconst 0, 1) := by decide +kernel
theorem dX8_holdsOf_1 : decode cX8_holdsOf 1 = .ok (.lstore_n 3, 1) := by decide +kernel
theorem dX8_holdsOf_2 : decode cX8_holdsOf 2 = .ok (.iconst 0, 1) := by decide +kernel
theorem dX8_holdsOf_3 : decode cX8_holdsOf 3 = .ok (.istore 5, 2) := by decide +kernel
theorem dX8_holdsOf_5 : decode cX8_holdsOf 5 = .ok (.iload 5, 2) := by decide +kernel
theorem dX8_holdsOf_7 : decode cX8_holdsOf 7 = .ok (.aload_n 0, 1) := by decide +kernel
theorem dX8_holdsOf_8 : decode cX8_holdsOf 8 = .ok (.getfield 28, 3) := by decide +kernel
theorem dX8_holdsOf_11 : decode cX8_holdsOf 11 = .ok (.if_icmp .ge 130, 3) := by decide +kernel
theorem dX8_holdsOf_14 : decode cX8_holdsOf 14 = .ok (.lload_n 3, 1) := by decide +kernel
theorem dX8_holdsOf_15 : decode cX8_holdsOf 15 = .ok (.lconst 1, 1) := by decide +kernel
theorem dX8_holdsOf_16 : decode cX8_holdsOf 16 = .ok (.land, 1) := by decide +kernel
theorem dX8_holdsOf_17 : decode cX8_holdsOf 17 = .ok (.lstore 6, 2) := by decide +kernel
theorem dX8_holdsOf_19 : decode cX8_holdsOf 19 = .ok (.lload_n 3, 1) := by decide +kernel
theorem dX8_holdsOf_20 : decode cX8_holdsOf 20 = .ok (.iconst 1, 1) := by decide +kernel
theorem dX8_holdsOf_21 : decode cX8_holdsOf 21 = .ok (.lushr, 1) := by decide +kernel
theorem dX8_holdsOf_22 : decode cX8_holdsOf 22 = .ok (.lconst 1, 1) := by decide +kernel
theorem dX8_holdsOf_23 : decode cX8_holdsOf 23 = .ok (.land, 1) := by decide +kernel
theorem dX8_holdsOf_24 : decode cX8_holdsOf 24 = .ok (.lstore 8, 2) := by decide +kernel
theorem dX8_holdsOf_26 : decode cX8_holdsOf 26 = .ok (.getstatic 98, 3) := by decide +kernel
theorem dX8_holdsOf_29 : decode cX8_holdsOf 29 = .ok (.aload_n 0, 1) := by decide +kernel
theorem dX8_holdsOf_30 : decode cX8_holdsOf 30 = .ok (.getfield 13, 3) := by decide +kernel
theorem dX8_holdsOf_33 : decode cX8_holdsOf 33 = .ok (.iload 5, 2) := by decide +kernel
theorem dX8_holdsOf_35 : decode cX8_holdsOf 35 = .ok (.aaload, 1) := by decide +kernel
theorem dX8_holdsOf_36 : decode cX8_holdsOf 36 = .ok (.invokevirtual 103, 3) := by decide +kernel
theorem dX8_holdsOf_39 : decode cX8_holdsOf 39 = .ok (.iaload, 1) := by decide +kernel
theorem dX8_holdsOf_40 : decode cX8_holdsOf 40 = .ok (.lookupswitch 73 #[(11, 36), (21, 43), (22, 58)], 36) := by decide +kernel
theorem dX8_holdsOf_76 : decode cX8_holdsOf 76 = .ok (.lload_n 3, 1) := by decide +kernel
theorem dX8_holdsOf_77 : decode cX8_holdsOf 77 = .ok (.lconst 1, 1) := by decide +kernel
theorem dX8_holdsOf_78 : decode cX8_holdsOf 78 = .ok (.lxor, 1) := by decide +kernel
theorem dX8_holdsOf_79 : decode cX8_holdsOf 79 = .ok (.lstore_n 3, 1) := by decide +kernel
theorem dX8_holdsOf_80 : decode cX8_holdsOf 80 = .ok (.goto 55, 3) := by decide +kernel
theorem dX8_holdsOf_83 : decode cX8_holdsOf 83 = .ok (.lload_n 3, 1) := by decide +kernel
theorem dX8_holdsOf_84 : decode cX8_holdsOf 84 = .ok (.iconst 2, 1) := by decide +kernel
theorem dX8_holdsOf_85 : decode cX8_holdsOf 85 = .ok (.lushr, 1) := by decide +kernel
theorem dX8_holdsOf_86 : decode cX8_holdsOf 86 = .ok (.iconst 1, 1) := by decide +kernel
theorem dX8_holdsOf_87 : decode cX8_holdsOf 87 = .ok (.lshl, 1) := by decide +kernel
theorem dX8_holdsOf_88 : decode cX8_holdsOf 88 = .ok (.lload 6, 2) := by decide +kernel
theorem dX8_holdsOf_90 : decode cX8_holdsOf 90 = .ok (.lload 8, 2) := by decide +kernel
theorem dX8_holdsOf_92 : decode cX8_holdsOf 92 = .ok (.land, 1) := by decide +kernel
theorem dX8_holdsOf_93 : decode cX8_holdsOf 93 = .ok (.lor, 1) := by decide +kernel
theorem dX8_holdsOf_94 : decode cX8_holdsOf 94 = .ok (.lstore_n 3, 1) := by decide +kernel
theorem dX8_holdsOf_95 : decode cX8_holdsOf 95 = .ok (.goto 40, 3) := by decide +kernel
theorem dX8_holdsOf_98 : decode cX8_holdsOf 98 = .ok (.lload_n 3, 1) := by decide +kernel
theorem dX8_holdsOf_99 : decode cX8_holdsOf 99 = .ok (.iconst 2, 1) := by decide +kernel
theorem dX8_holdsOf_100 : decode cX8_holdsOf 100 = .ok (.lushr, 1) := by decide +kernel
theorem dX8_holdsOf_101 : decode cX8_holdsOf 101 = .ok (.iconst 1, 1) := by decide +kernel
theorem dX8_holdsOf_102 : decode cX8_holdsOf 102 = .ok (.lshl, 1) := by decide +kernel
theorem dX8_holdsOf_103 : decode cX8_holdsOf 103 = .ok (.lload 6, 2) := by decide +kernel
theorem dX8_holdsOf_105 : decode cX8_holdsOf 105 = .ok (.lor, 1) := by decide +kernel
theorem dX8_holdsOf_106 : decode cX8_holdsOf 106 = .ok (.lload 8, 2) := by decide +kernel
theorem dX8_holdsOf_108 : decode cX8_holdsOf 108 = .ok (.lor, 1) := by decide +kernel
theorem dX8_holdsOf_109 : decode cX8_holdsOf 109 = .ok (.lstore_n 3, 1) := by decide +kernel
theorem dX8_holdsOf_110 : decode cX8_holdsOf 110 = .ok (.goto 25, 3) := by decide +kernel
theorem dX8_holdsOf_113 : decode cX8_holdsOf 113 = .ok (.lload_n 3, 1) := by decide +kernel
theorem dX8_holdsOf_114 : decode cX8_holdsOf 114 = .ok (.iconst 1, 1) := by decide +kernel
theorem dX8_holdsOf_115 : decode cX8_holdsOf 115 = .ok (.lshl, 1) := by decide +kernel
theorem dX8_holdsOf_116 : decode cX8_holdsOf 116 = .ok (.aload_n 0, 1) := by decide +kernel
theorem dX8_holdsOf_117 : decode cX8_holdsOf 117 = .ok (.aload_n 1, 1) := by decide +kernel
theorem dX8_holdsOf_118 : decode cX8_holdsOf 118 = .ok (.iload_n 2, 1) := by decide +kernel
theorem dX8_holdsOf_119 : decode cX8_holdsOf 119 = .ok (.iload 5, 2) := by decide +kernel
theorem dX8_holdsOf_121 : decode cX8_holdsOf 121 = .ok (.invokevirtual 138, 3) := by decide +kernel
theorem dX8_holdsOf_124 : decode cX8_holdsOf 124 = .ok (.ifCond .eq 7, 3) := by decide +kernel
theorem dX8_holdsOf_127 : decode cX8_holdsOf 127 = .ok (.iconst 1, 1) := by decide +kernel
theorem dX8_holdsOf_128 : decode cX8_holdsOf 128 = .ok (.goto 4, 3) := by decide +kernel
theorem dX8_holdsOf_131 : decode cX8_holdsOf 131 = .ok (.iconst 0, 1) := by decide +kernel
theorem dX8_holdsOf_132 : decode cX8_holdsOf 132 = .ok (.i2l, 1) := by decide +kernel
theorem dX8_holdsOf_133 : decode cX8_holdsOf 133 = .ok (.lor, 1) := by decide +kernel
theorem dX8_holdsOf_134 : decode cX8_holdsOf 134 = .ok (.lstore_n 3, 1) := by decide +kernel
theorem dX8_holdsOf_135 : decode cX8_holdsOf 135 = .ok (.iinc 5 1, 3) := by decide +kernel
theorem dX8_holdsOf_138 : decode cX8_holdsOf 138 = .ok (.goto (-133), 3) := by decide +kernel
theorem dX8_holdsOf_141 : decode cX8_holdsOf 141 = .ok (.lload_n 3, 1) := by decide +kernel
theorem dX8_holdsOf_142 : decode cX8_holdsOf 142 = .ok (.lconst 1, 1) := by decide +kernel
theorem dX8_holdsOf_143 : decode cX8_holdsOf 143 = .ok (.land, 1) := by decide +kernel
theorem dX8_holdsOf_144 : decode cX8_holdsOf 144 = .ok (.lconst 1, 1) := by decide +kernel
theorem dX8_holdsOf_145 : decode cX8_holdsOf 145 = .ok (.lcmp, 1) := by decide +kernel
theorem dX8_holdsOf_146 : decode cX8_holdsOf 146 = .ok (.ifCond .ne 7, 3) := by decide +kernel
theorem dX8_holdsOf_149 : decode cX8_holdsOf 149 = .ok (.iconst 1, 1) := by decide +kernel
theorem dX8_holdsOf_150 : decode cX8_holdsOf 150 = .ok (.goto 4, 3) := by decide +kernel
theorem dX8_holdsOf_153 : decode cX8_holdsOf 153 = .ok (.iconst 0, 1) := by decide +kernel
theorem dX8_holdsOf_154 : decode cX8_holdsOf 154 = .ok (.ireturn, 1) := by decide +kernel
set_option maxRecDepth 100000 in
set_option maxHeartbeats 4000000 in
theorem wfX8_holdsOf_5 {E : KE} {p : Program} {l : Launch} {e : Env} {s : State} {m : MethodId} {args : Array Value} {below : List Frame} {meth : Method} {c : Code} {q : Bool} (C : mx_C E p m c cX8_holdsOf 10 s args RX8 meth (some .boolean)) (i2 : Int32) (M : MM) (hT : xOK E)   : ∀ (n : Nat) (l3 : Int64) (i5 : Int32) (H : Heap) (locs : List Loc) (ls : Array Slot), fX8_holdsOf_5 i2 M n l3 i5 = some q → mx_H E s M H locs → lv_has ls 10 [(0, .ref (E.2.1.2.1 130)), (1, .ref (E.2.1.2.1 29)), (2, .int i2), (3, .long l3), (5, .int i5)] → W p l e (mx_rm 4) s m args below meth c H locs 0 0 (mx_Z E below args s (some (.int (mx_b q))) M) (F0 m 5 ls []) := by
  have hx := C.1.1
  have hb := C.1.2.1
  have hown := C.1.2.2.2.1
  have hts := C.1.2.2.2.2
  intro n
  induction n with
  | zero =>
    intro l3 i5 H locs ls hf hM hl
    rw [fX8_holdsOf_5] at hf
    cases hf
  | succ n ih =>
    intro l3 i5 H locs ls hf hM hl
    rw [fX8_holdsOf_5] at hf
    refine lv_iload hx hb dX8_holdsOf_5 (lv_at hl 4 rfl) ?_
    refine lv_aload_n hx hb dX8_holdsOf_7 rfl (lv_at hl 0 rfl) ?_
    refine gX8_28 C hM (xt_130 hT) (f := (0, 0)) rfl (v := .int (M.1 130 3)) rfl dX8_holdsOf_8 ?_
    refine lv_icmp_ge (tgt := 141) hx hb dX8_holdsOf_11 (by decide) (fun hc11 => ?_) (fun hc11 => ?_)
    · replace hf := mx_ift hc11 hf
      refine lv_lload_n hx hb dX8_holdsOf_141 rfl (lv_at hl 3 rfl) ?_
      refine lv_lconst (v := 1) hx hb dX8_holdsOf_142 (by decide) ?_
      refine lv_land hx hb dX8_holdsOf_143 ?_
      refine lv_lconst (v := 1) hx hb dX8_holdsOf_144 (by decide) ?_
      refine W.lcmp hx hb dX8_holdsOf_145 ?_
      refine lv_if_ne (tgt := 153) hx hb dX8_holdsOf_146 (by decide) (fun hc146 => ?_) (fun hc146 => ?_)
      · replace hf := mx_iff hc146 hf
        refine lv_iconst (v := (0 : Int32)) hx hb dX8_holdsOf_153 (by decide) ?_
        exact mx_zretR C hM (b := false) rfl hf dX8_holdsOf_154
      · replace hf := mx_ift hc146 hf
        refine lv_iconst (v := (1 : Int32)) hx hb dX8_holdsOf_149 (by decide) ?_
        refine lv_goto (tgt := 154) hx hb dX8_holdsOf_150 (by decide) ?_
        exact mx_zretR C hM (b := true) rfl hf dX8_holdsOf_154
    · replace hf := mx_iff hc11 hf
      refine lv_lload_n hx hb dX8_holdsOf_14 rfl (lv_at hl 3 rfl) ?_
      refine lv_lconst (v := 1) hx hb dX8_holdsOf_15 (by decide) ?_
      refine lv_land hx hb dX8_holdsOf_16 ?_
      refine lv_lstore (lv' := [(6, .long (l3 &&& (1 : Int64))), (0, .ref (E.2.1.2.1 130)), (1, .ref (E.2.1.2.1 29)), (2, .int i2), (3, .long l3), (5, .int i5)]) hx hb dX8_holdsOf_17 hl (by decide) rfl (fun ls hl => ?_)
      refine lv_lload_n hx hb dX8_holdsOf_19 rfl (lv_at hl 4 rfl) ?_
      refine lv_iconst (v := (1 : Int32)) hx hb dX8_holdsOf_20 (by decide) ?_
      refine lv_lushr (v := (mx_lushr l3 (1 : Int32))) hx hb dX8_holdsOf_21 rfl ?_
      refine lv_lconst (v := 1) hx hb dX8_holdsOf_22 (by decide) ?_
      refine lv_land hx hb dX8_holdsOf_23 ?_
      refine lv_lstore (lv' := [(8, .long ((mx_lushr l3 (1 : Int32)) &&& (1 : Int64))), (6, .long (l3 &&& (1 : Int64))), (0, .ref (E.2.1.2.1 130)), (1, .ref (E.2.1.2.1 29)), (2, .int i2), (3, .long l3), (5, .int i5)]) hx hb dX8_holdsOf_24 hl (by decide) rfl (fun ls hl => ?_)
      refine xw_sw C hT hM (hts _ qw_1178) dX8_holdsOf_26 ?_
      refine lv_aload_n hx hb dX8_holdsOf_29 rfl (lv_at hl 2 rfl) ?_
      refine gX8_13 C hM (xt_130 hT) (f := (2, 131)) rfl (v := .ref (E.2.1.2.1 131)) rfl dX8_holdsOf_30 ?_
      refine lv_iload hx hb dX8_holdsOf_33 (lv_at hl 6 rfl) ?_
      obtain ⟨hg35, hf⟩ := mx_gd hf
      refine mx_aaldW C hM (xt_131 hT) (mx_in_vp hg35) dX8_holdsOf_35 ?_
      obtain ⟨hw36, hf⟩ := mx_gd hf
      refine xw_ord C hT hw36 hM hl.1 (by decide) qw_1179 (st1 := [.int (nI (M.2.2 131 i5.toNatClampNeg)), .ref (E.2.1.2.2.1 25)]) (rest := [.ref (E.2.1.2.2.1 25)]) rfl rfl (Nat.le_of_ble_eq_true rfl) dX8_holdsOf_36 (fun H locs hM => ?_)
      refine xw_swa C hT hM hw36 dX8_holdsOf_39 ?_
      by_cases hs0 : (xsw (M.2.2 131 i5.toNatClampNeg)) = 11
      · replace hf := mx_ift hs0 hf
        refine lv_lookup (tgt := 76) hx hb dX8_holdsOf_40 (by decide) (by rw [hs0] <;> rfl) (by decide) ?_
        refine lv_lload_n hx hb dX8_holdsOf_76 rfl (lv_at hl 5 rfl) ?_
        refine lv_lconst (v := 1) hx hb dX8_holdsOf_77 (by decide) ?_
        refine lv_lxor hx hb dX8_holdsOf_78 ?_
        refine lv_lstore_n (lv' := [(3, .long (l3 ^^^ (1 : Int64))), (8, .long ((mx_lushr l3 (1 : Int32)) &&& (1 : Int64))), (6, .long (l3 &&& (1 : Int64))), (0, .ref (E.2.1.2.1 130)), (1, .ref (E.2.1.2.1 29)), (2, .int i2), (5, .int i5)]) hx hb dX8_holdsOf_79 rfl hl (by decide) rfl (fun ls hl => ?_)
        refine lv_goto (tgt := 135) hx hb dX8_holdsOf_80 (by decide) ?_
        refine lv_iinc (v := (i5 + (1 : Int32))) (lv' := [(5, .int (i5 + (1 : Int32))), (3, .long (l3 ^^^ (1 : Int64))), (8, .long ((mx_lushr l3 (1 : Int32)) &&& (1 : Int64))), (6, .long (l3 &&& (1 : Int64))), (0, .ref (E.2.1.2.1 130)), (1, .ref (E.2.1.2.1 29)), (2, .int i2)]) hx hb dX8_holdsOf_135 hl (k := 6) rfl rfl (by decide) rfl (fun ls hl => ?_)
        refine lv_goto (tgt := 5) hx hb dX8_holdsOf_138 (by decide) ?_
        exact ih (l3 ^^^ (1 : Int64)) (i5 + (1 : Int32)) _ _ _ hf hM (lv_sub hl [4, 5, 6, 1, 0] rfl)
      replace hf := mx_iff hs0 hf
      by_cases hs1 : (xsw (M.2.2 131 i5.toNatClampNeg)) = 21
      · replace hf := mx_ift hs1 hf
        refine lv_lookup (tgt := 83) hx hb dX8_holdsOf_40 (by decide) (by rw [hs1] <;> rfl) (by decide) ?_
        refine lv_lload_n hx hb dX8_holdsOf_83 rfl (lv_at hl 5 rfl) ?_
        refine lv_iconst (v := (2 : Int32)) hx hb dX8_holdsOf_84 (by decide) ?_
        refine lv_lushr (v := (mx_lushr l3 (2 : Int32))) hx hb dX8_holdsOf_85 rfl ?_
        refine lv_iconst (v := (1 : Int32)) hx hb dX8_holdsOf_86 (by decide) ?_
        refine lv_lshl (v := ((mx_lushr l3 (2 : Int32)) <<< ((1 : Int32).toInt64 &&& 63))) hx hb dX8_holdsOf_87 rfl ?_
        refine lv_lload hx hb dX8_holdsOf_88 (lv_at hl 1 rfl) ?_
        refine lv_lload hx hb dX8_holdsOf_90 (lv_at hl 0 rfl) ?_
        refine lv_land hx hb dX8_holdsOf_92 ?_
        refine lv_lor hx hb dX8_holdsOf_93 ?_
        refine lv_lstore_n (lv' := [(3, .long (((mx_lushr l3 (2 : Int32)) <<< ((1 : Int32).toInt64 &&& 63)) ||| ((l3 &&& (1 : Int64)) &&& ((mx_lushr l3 (1 : Int32)) &&& (1 : Int64))))), (8, .long ((mx_lushr l3 (1 : Int32)) &&& (1 : Int64))), (6, .long (l3 &&& (1 : Int64))), (0, .ref (E.2.1.2.1 130)), (1, .ref (E.2.1.2.1 29)), (2, .int i2), (5, .int i5)]) hx hb dX8_holdsOf_94 rfl hl (by decide) rfl (fun ls hl => ?_)
        refine lv_goto (tgt := 135) hx hb dX8_holdsOf_95 (by decide) ?_
        refine lv_iinc (v := (i5 + (1 : Int32))) (lv' := [(5, .int (i5 + (1 : Int32))), (3, .long (((mx_lushr l3 (2 : Int32)) <<< ((1 : Int32).toInt64 &&& 63)) ||| ((l3 &&& (1 : Int64)) &&& ((mx_lushr l3 (1 : Int32)) &&& (1 : Int64))))), (8, .long ((mx_lushr l3 (1 : Int32)) &&& (1 : Int64))), (6, .long (l3 &&& (1 : Int64))), (0, .ref (E.2.1.2.1 130)), (1, .ref (E.2.1.2.1 29)), (2, .int i2)]) hx hb dX8_holdsOf_135 hl (k := 6) rfl rfl (by decide) rfl (fun ls hl => ?_)
        refine lv_goto (tgt := 5) hx hb dX8_holdsOf_138 (by decide) ?_
        exact ih (((mx_lushr l3 (2 : Int32)) <<< ((1 : Int32).toInt64 &&& 63)) ||| ((l3 &&& (1 : Int64)) &&& ((mx_lushr l3 (1 : Int32)) &&& (1 : Int64)))) (i5 + (1 : Int32)) _ _ _ hf hM (lv_sub hl [4, 5, 6, 1, 0] rfl)
      replace hf := mx_iff hs1 hf
      by_cases hs2 : (xsw (M.2.2 131 i5.toNatClampNeg)) = 22
      · replace hf := mx_ift hs2 hf
        refine lv_lookup (tgt := 98) hx hb dX8_holdsOf_40 (by decide) (by rw [hs2] <;> rfl) (by decide) ?_
        refine lv_lload_n hx hb dX8_holdsOf_98 rfl (lv_at hl 5 rfl) ?_
        refine lv_iconst (v := (2 : Int32)) hx hb dX8_holdsOf_99 (by decide) ?_
        refine lv_lushr (v := (mx_lushr l3 (2 : Int32))) hx hb dX8_holdsOf_100 rfl ?_
        refine lv_iconst (v := (1 : Int32)) hx hb dX8_holdsOf_101 (by decide) ?_
        refine lv_lshl (v := ((mx_lushr l3 (2 : Int32)) <<< ((1 : Int32).toInt64 &&& 63))) hx hb dX8_holdsOf_102 rfl ?_
        refine lv_lload hx hb dX8_holdsOf_103 (lv_at hl 1 rfl) ?_
        refine lv_lor hx hb dX8_holdsOf_105 ?_
        refine lv_lload hx hb dX8_holdsOf_106 (lv_at hl 0 rfl) ?_
        refine lv_lor hx hb dX8_holdsOf_108 ?_
        refine lv_lstore_n (lv' := [(3, .long ((((mx_lushr l3 (2 : Int32)) <<< ((1 : Int32).toInt64 &&& 63)) ||| (l3 &&& (1 : Int64))) ||| ((mx_lushr l3 (1 : Int32)) &&& (1 : Int64)))), (8, .long ((mx_lushr l3 (1 : Int32)) &&& (1 : Int64))), (6, .long (l3 &&& (1 : Int64))), (0, .ref (E.2.1.2.1 130)), (1, .ref (E.2.1.2.1 29)), (2, .int i2), (5, .int i5)]) hx hb dX8_holdsOf_109 rfl hl (by decide) rfl (fun ls hl => ?_)
        refine lv_goto (tgt := 135) hx hb dX8_holdsOf_110 (by decide) ?_
        refine lv_iinc (v := (i5 + (1 : Int32))) (lv' := [(5, .int (i5 + (1 : Int32))), (3, .long ((((mx_lushr l3 (2 : Int32)) <<< ((1 : Int32).toInt64 &&& 63)) ||| (l3 &&& (1 : Int64))) ||| ((mx_lushr l3 (1 : Int32)) &&& (1 : Int64)))), (8, .long ((mx_lushr l3 (1 : Int32)) &&& (1 : Int64))), (6, .long (l3 &&& (1 : Int64))), (0, .ref (E.2.1.2.1 130)), (1, .ref (E.2.1.2.1 29)), (2, .int i2)]) hx hb dX8_holdsOf_135 hl (k := 6) rfl rfl (by decide) rfl (fun ls hl => ?_)
        refine lv_goto (tgt := 5) hx hb dX8_holdsOf_138 (by decide) ?_
        exact ih ((((mx_lushr l3 (2 : Int32)) <<< ((1 : Int32).toInt64 &&& 63)) ||| (l3 &&& (1 : Int64))) ||| ((mx_lushr l3 (1 : Int32)) &&& (1 : Int64))) (i5 + (1 : Int32)) _ _ _ hf hM (lv_sub hl [4, 5, 6, 1, 0] rfl)
      replace hf := mx_iff hs2 hf
      refine lv_lookup (tgt := 113) (off := 73) hx hb dX8_holdsOf_40 (by decide) (by rw [lv_osw hs0 (by decide), lv_osw hs1 (by decide), lv_osw hs2 (by decide)] <;> rfl) (by decide) ?_
      refine lv_lload_n hx hb dX8_holdsOf_113 rfl (lv_at hl 5 rfl) ?_
      refine lv_iconst (v := (1 : Int32)) hx hb dX8_holdsOf_114 (by decide) ?_
      refine lv_lshl (v := (l3 <<< ((1 : Int32).toInt64 &&& 63))) hx hb dX8_holdsOf_115 rfl ?_
      refine lv_aload_n hx hb dX8_holdsOf_116 rfl (lv_at hl 2 rfl) ?_
      refine lv_aload_n hx hb dX8_holdsOf_117 rfl (lv_at hl 3 rfl) ?_
      refine lv_iload_n hx hb dX8_holdsOf_118 rfl (lv_at hl 4 rfl) ?_
      refine lv_iload hx hb dX8_holdsOf_119 (lv_at hl 6 rfl) ?_
      obtain ⟨q121, hq121, hf⟩ := mx_bd hf
      refine mx_callV C hM hl.1 yo_X8_isSo (h' := 3) (by decide) qw_1223 qw_1225 qs_103 (ci := 8) (q := (RX8, TX8, 5)) rfl (xt_130 hT) (As := [.ref (E.2.1.2.1 29), .int i2, .int i5]) (rest := [.long (l3 <<< ((1 : Int32).toInt64 &&& 63))]) (st1 := [.int (mx_b q121), .long (l3 <<< ((1 : Int32).toInt64 &&& 63))]) (kX8_isSo C.2.2.2.1 i2 i5 hT M hq121) rfl rfl rfl (Nat.le_of_ble_eq_true rfl) dX8_holdsOf_121 (fun H locs hM => ?_)
      refine lv_if_eq (tgt := 131) hx hb dX8_holdsOf_124 (by decide) (fun hc124 => ?_) (fun hc124 => ?_)
      · replace hf := mx_ift hc124 hf
        refine lv_iconst (v := (0 : Int32)) hx hb dX8_holdsOf_131 (by decide) ?_
        refine lv_i2l (v := ((0 : Int32).toInt64)) hx hb dX8_holdsOf_132 rfl ?_
        refine lv_lor hx hb dX8_holdsOf_133 ?_
        refine lv_lstore_n (lv' := [(3, .long ((l3 <<< ((1 : Int32).toInt64 &&& 63)) ||| ((0 : Int32).toInt64))), (8, .long ((mx_lushr l3 (1 : Int32)) &&& (1 : Int64))), (6, .long (l3 &&& (1 : Int64))), (0, .ref (E.2.1.2.1 130)), (1, .ref (E.2.1.2.1 29)), (2, .int i2), (5, .int i5)]) hx hb dX8_holdsOf_134 rfl hl (by decide) rfl (fun ls hl => ?_)
        refine lv_iinc (v := (i5 + (1 : Int32))) (lv' := [(5, .int (i5 + (1 : Int32))), (3, .long ((l3 <<< ((1 : Int32).toInt64 &&& 63)) ||| ((0 : Int32).toInt64))), (8, .long ((mx_lushr l3 (1 : Int32)) &&& (1 : Int64))), (6, .long (l3 &&& (1 : Int64))), (0, .ref (E.2.1.2.1 130)), (1, .ref (E.2.1.2.1 29)), (2, .int i2)]) hx hb dX8_holdsOf_135 hl (k := 6) rfl rfl (by decide) rfl (fun ls hl => ?_)
        refine lv_goto (tgt := 5) hx hb dX8_holdsOf_138 (by decide) ?_
        exact ih ((l3 <<< ((1 : Int32).toInt64 &&& 63)) ||| ((0 : Int32).toInt64)) (i5 + (1 : Int32)) _ _ _ hf hM (lv_sub hl [4, 5, 6, 1, 0] rfl)
      · replace hf := mx_iff hc124 hf
        refine lv_iconst (v := (1 : Int32)) hx hb dX8_holdsOf_127 (by decide) ?_
        refine lv_goto (tgt := 132) hx hb dX8_holdsOf_128 (by decide) ?_
        refine lv_i2l (v := ((1 : Int32).toInt64)) hx hb dX8_holdsOf_132 rfl ?_
        refine lv_lor hx hb dX8_holdsOf_133 ?_
        refine lv_lstore_n (lv' := [(3, .long ((l3 <<< ((1 : Int32).toInt64 &&& 63)) ||| ((1 : Int32).toInt64))), (8, .long ((mx_lushr l3 (1 : Int32)) &&& (1 : Int64))), (6, .long (l3 &&& (1 : Int64))), (0, .ref (E.2.1.2.1 130)), (1, .ref (E.2.1.2.1 29)), (2, .int i2), (5, .int i5)]) hx hb dX8_holdsOf_134 rfl hl (by decide) rfl (fun ls hl => ?_)
        refine lv_iinc (v := (i5 + (1 : Int32))) (lv' := [(5, .int (i5 + (1 : Int32))), (3, .long ((l3 <<< ((1 : Int32).toInt64 &&& 63)) ||| ((1 : Int32).toInt64))), (8, .long ((mx_lushr l3 (1 : Int32)) &&& (1 : Int64))), (6, .long (l3 &&& (1 : Int64))), (0, .ref (E.2.1.2.1 130)), (1, .ref (E.2.1.2.1 29)), (2, .int i2)]) hx hb dX8_holdsOf_135 hl (k := 6) rfl rfl (by decide) rfl (fun ls hl => ?_)
        refine lv_goto (tgt := 5) hx hb dX8_holdsOf_138 (by decide) ?_
        exact ih ((l3 <<< ((1 : Int32).toInt64 &&& 63)) ||| ((1 : Int32).toInt64)) (i5 + (1 : Int32)) _ _ _ hf hM (lv_sub hl [4, 5, 6, 1, 0] rfl)
set_option maxRecDepth 100000 in
set_option maxHeartbeats 4000000 in
theorem kX8_holdsOf {E : KE} {l : Launch} (hE : mx_ok E) (i2 : Int32) (hT : xOK E) (M : MM) {q : Bool} (hf : fX8_holdsOf i2 M = some q) : mx_Met E l yX8_holdsOf cX8_holdsOf 10 (some .boolean) 4 [.ref (E.2.1.2.1 130), .ref (E.2.1.2.1 29), .int i2] M (some (.int (mx_b q))) M := by
  refine mx_enter hE (by decide) (Nat.le_of_ble_eq_true rfl) ?_
  intro p e s m below meth c C hM hn ls hl
  have hx := C.1.1
  have hb := C.1.2.1
  have hown := C.1.2.2.2.1
  have hts := C.1.2.2.2.2
  have hl : lv_has ls 10 [(0, .ref (E.2.1.2.1 130)), (1, .ref (E.2.1.2.1 29)), (2, .int i2)] := hl
  rw [fX8_holdsOf] at hf
  refine lv_lconst (v := 0) hx hb dX8_holdsOf_0 (by decide) ?_
  refine lv_lstore_n (lv' := [(3, .long (0 : Int64)), (0, .ref (E.2.1.2.1 130)), (1, .ref (E.2.1.2.1 29)), (2, .int i2)]) hx hb dX8_holdsOf_1 rfl hl (by decide) rfl (fun ls hl => ?_)
  refine lv_iconst (v := (0 : Int32)) hx hb dX8_holdsOf_2 (by decide) ?_
  refine lv_istore (lv' := [(5, .int (0 : Int32)), (3, .long (0 : Int64)), (0, .ref (E.2.1.2.1 130)), (1, .ref (E.2.1.2.1 29)), (2, .int i2)]) hx hb dX8_holdsOf_3 hl (by decide) rfl (fun ls hl => ?_)
  exact wfX8_holdsOf_5 C i2 M hT mx_fu (0 : Int64) (0 : Int32) _ _ _ hf hM (lv_sub hl [2, 3, 4, 1, 0] rfl)
theorem dX9_begin_0 : decode cX9_begin 0 = .ok (.iconst 0, 1) := by decide +kernel
theorem dX9_begin_1 : decode cX9_begin 1 = .ok (.istore_n 1, 1) := by decide +kernel
theorem dX9_begin_2 : decode cX9_begin 2 = .ok (.iload_n 1, 1) := by decide +kernel
theorem dX9_begin_3 : decode cX9_begin 3 = .ok (.aload_n 0, 1) := by decide +kernel
theorem dX9_begin_4 : decode cX9_begin 4 = .ok (.getfield 36, 3) := by decide +kernel
theorem dX9_begin_7 : decode cX9_begin 7 = .ok (.getfield 40, 3) := by decide +kernel
theorem dX9_begin_10 : decode cX9_begin 10 = .ok (.if_icmp .ge 39, 3) := by decide +kernel
theorem dX9_begin_13 : decode cX9_begin 13 = .ok (.aload_n 0, 1) := by decide +kernel
theorem dX9_begin_14 : decode cX9_begin 14 = .ok (.getfield 9, 3) := by decide +kernel
theorem dX9_begin_17 : decode cX9_begin 17 = .ok (.iload_n 1, 1) := by decide +kernel
theorem dX9_begin_18 : decode cX9_begin 18 = .ok (.aload_n 0, 1) := by decide +kernel
theorem dX9_begin_19 : decode cX9_begin 19 = .ok (.getfield 36, 3) := by decide +kernel
theorem dX9_begin_22 : decode cX9_begin 22 = .ok (.getfield 46, 3) := by decide +kernel
theorem dX9_begin_25 : decode cX9_begin 25 = .ok (.iload_n 1, 1) := by decide +kernel
theorem dX9_begin_26 : decode cX9_begin 26 = .ok (.iaload, 1) := by decide +kernel
theorem dX9_begin_27 : decode cX9_begin 27 = .ok (.iastore, 1) := by decide +kernel
theorem dX9_begin_28 : decode cX9_begin 28 = .ok (.aload_n 0, 1) := by decide +kernel
theorem dX9_begin_29 : decode cX9_begin 29 = .ok (.getfield 15, 3) := by decide +kernel
theorem dX9_begin_32 : decode cX9_begin 32 = .ok (.iload_n 1, 1) := by decide +kernel
theorem dX9_begin_33 : decode cX9_begin 33 = .ok (.aload_n 0, 1) := by decide +kernel
theorem dX9_begin_34 : decode cX9_begin 34 = .ok (.getfield 36, 3) := by decide +kernel
theorem dX9_begin_37 : decode cX9_begin 37 = .ok (.getfield 49, 3) := by decide +kernel
theorem dX9_begin_40 : decode cX9_begin 40 = .ok (.iload_n 1, 1) := by decide +kernel
theorem dX9_begin_41 : decode cX9_begin 41 = .ok (.iaload, 1) := by decide +kernel
theorem dX9_begin_42 : decode cX9_begin 42 = .ok (.iastore, 1) := by decide +kernel
theorem dX9_begin_43 : decode cX9_begin 43 = .ok (.iinc 1 1, 3) := by decide +kernel
theorem dX9_begin_46 : decode cX9_begin 46 = .ok (.goto (-44), 3) := by decide +kernel
theorem dX9_begin_49 : decode cX9_begin 49 = .ok (.iconst 0, 1) := by decide +kernel
theorem dX9_begin_50 : decode cX9_begin 50 = .ok (.istore_n 1, 1) := by decide +kernel
theorem dX9_begin_51 : decode cX9_begin 51 = .ok (.iload_n 1, 1) := by decide +kernel
theorem dX9_begin_52 : decode cX9_begin 52 = .ok (.aload_n 0, 1) := by decide +kernel
theorem dX9_begin_53 : decode cX9_begin 53 = .ok (.getfield 36, 3) := by decide +kernel
theorem dX9_begin_56 : decode cX9_begin 56 = .ok (.getfield 52, 3) := by decide +kernel
theorem dX9_begin_59 : decode cX9_begin 59 = .ok (.if_icmp .ge 38, 3) := by decide +kernel
theorem dX9_begin_62 : decode cX9_begin 62 = .ok (.aload_n 0, 1) := by decide +kernel
theorem dX9_begin_63 : decode cX9_begin 63 = .ok (.getfield 21, 3) := by decide +kernel
theorem dX9_begin_66 : decode cX9_begin 66 = .ok (.iload_n 1, 1) := by decide +kernel
theorem dX9_begin_67 : decode cX9_begin 67 = .ok (.aload_n 0, 1) := by decide +kernel
theorem dX9_begin_68 : decode cX9_begin 68 = .ok (.getfield 36, 3) := by decide +kernel
theorem dX9_begin_71 : decode cX9_begin 71 = .ok (.getfield 55, 3) := by decide +kernel
theorem dX9_begin_74 : decode cX9_begin 74 = .ok (.iload_n 1, 1) := by decide +kernel
theorem dX9_begin_75 : decode cX9_begin 75 = .ok (.iaload, 1) := by decide +kernel
theorem dX9_begin_76 : decode cX9_begin 76 = .ok (.iastore, 1) := by decide +kernel
theorem dX9_begin_77 : decode cX9_begin 77 = .ok (.aload_n 0, 1) := by decide +kernel
theorem dX9_begin_78 : decode cX9_begin 78 = .ok (.getfield 24, 3) := by decide +kernel
theorem dX9_begin_81 : decode cX9_begin 81 = .ok (.iload_n 1, 1) := by decide +kernel
theorem dX9_begin_82 : decode cX9_begin 82 = .ok (.iconst 0, 1) := by decide +kernel
theorem dX9_begin_83 : decode cX9_begin 83 = .ok (.iastore, 1) := by decide +kernel
theorem dX9_begin_84 : decode cX9_begin 84 = .ok (.aload_n 0, 1) := by decide +kernel
theorem dX9_begin_85 : decode cX9_begin 85 = .ok (.getfield 33, 3) := by decide +kernel
theorem dX9_begin_88 : decode cX9_begin 88 = .ok (.iload_n 1, 1) := by decide +kernel
theorem dX9_begin_89 : decode cX9_begin 89 = .ok (.iconst 0, 1) := by decide +kernel
theorem dX9_begin_90 : decode cX9_begin 90 = .ok (.iastore, 1) := by decide +kernel
theorem dX9_begin_91 : decode cX9_begin 91 = .ok (.iinc 1 1, 3) := by decide +kernel
theorem dX9_begin_94 : decode cX9_begin 94 = .ok (.goto (-43), 3) := by decide +kernel
theorem dX9_begin_97 : decode cX9_begin 97 = .ok (.aload_n 0, 1) := by decide +kernel
theorem dX9_begin_98 : decode cX9_begin 98 = .ok (.iconst 0, 1) := by decide +kernel
theorem dX9_begin_99 : decode cX9_begin 99 = .ok (.putfield 58, 3) := by decide +kernel
theorem dX9_begin_102 : decode cX9_begin 102 = .ok (.aload_n 0, 1) := by decide +kernel
theorem dX9_begin_103 : decode cX9_begin 103 = .ok (.iconst 0, 1) := by decide +kernel
theorem dX9_begin_104 : decode cX9_begin 104 = .ok (.putfield 61, 3) := by decide +kernel
theorem dX9_begin_107 : decode cX9_begin 107 = .ok (.aload_n 0, 1) := by decide +kernel
theorem dX9_begin_108 : decode cX9_begin 108 = .ok (.iconst 0, 1) := by decide +kernel
theorem dX9_begin_109 : decode cX9_begin 109 = .ok (.putfield 64, 3) := by decide +kernel
theorem dX9_begin_112 : decode cX9_begin 112 = .ok (.aload_n 0, 1) := by decide +kernel
theorem dX9_begin_113 : decode cX9_begin 113 = .ok (.invokevirtual 67, 3) := by decide +kernel
theorem dX9_begin_116 : decode cX9_begin 116 = .ok (.return_, 1) := by decide +kernel
set_option maxRecDepth 100000 in
set_option maxHeartbeats 4000000 in
theorem wfX9_begin_51 {E : KE} {p : Program} {l : Launch} {e : Env} {s : State} {m : MethodId} {args : Array Value} {below : List Frame} {meth : Method} {c : Code} {q : MM} (C : mx_C E p m c cX9_begin 2 s args RX9 meth none)  (hT : xOK E)   : ∀ (n : Nat) (i1 : Int32) (M : MM) (H : Heap) (locs : List Loc) (ls : Array Slot), fX9_begin_51 n i1 M = some q → mx_H E s M H locs → lv_has ls 2 [(0, .ref (E.2.1.2.1 29)), (1, .int i1)] → W p l e (mx_rm 1) s m args below meth c H locs 0 0 (mx_Z E below args s none q) (F0 m 51 ls []) := by
  have hx := C.1.1
  have hb := C.1.2.1
  have hown := C.1.2.2.2.1
  have hts := C.1.2.2.2.2
  intro n
  induction n with
  | zero =>
    intro i1 M H locs ls hf hM hl
    rw [fX9_begin_51] at hf
    cases hf
  | succ n ih =>
    intro i1 M H locs ls hf hM hl
    rw [fX9_begin_51] at hf
    refine lv_iload_n hx hb dX9_begin_51 rfl (lv_at hl 1 rfl) ?_
    refine lv_aload_n hx hb dX9_begin_52 rfl (lv_at hl 0 rfl) ?_
    refine gX9_36 C hM (xt_29 hT) (f := (2, 9)) rfl (v := .ref (E.2.1.2.1 9)) rfl dX9_begin_53 ?_
    refine gX9_52 C hT hM (xt_9 hT) (f := (0, 0)) rfl (v := .int (M.1 9 1)) rfl dX9_begin_56 ?_
    refine lv_icmp_ge (tgt := 97) hx hb dX9_begin_59 (by decide) (fun hc59 => ?_) (fun hc59 => ?_)
    · replace hf := mx_ift hc59 hf
      refine lv_aload_n hx hb dX9_begin_97 rfl (lv_at hl 0 rfl) ?_
      refine lv_iconst (v := (0 : Int32)) hx hb dX9_begin_98 (by decide) ?_
      refine pX9_58 C hM (xt_29 hT) rfl rfl rfl dX9_begin_99 (fun H locs hM => ?_)
      refine lv_aload_n hx hb dX9_begin_102 rfl (lv_at hl 0 rfl) ?_
      refine lv_iconst (v := (0 : Int32)) hx hb dX9_begin_103 (by decide) ?_
      refine pX9_61 C hM (xt_29 hT) rfl rfl rfl dX9_begin_104 (fun H locs hM => ?_)
      refine lv_aload_n hx hb dX9_begin_107 rfl (lv_at hl 0 rfl) ?_
      refine lv_iconst (v := (0 : Int32)) hx hb dX9_begin_108 (by decide) ?_
      refine pX9_64 C hM (xt_29 hT) rfl rfl rfl dX9_begin_109 (fun H locs hM => ?_)
      refine lv_aload_n hx hb dX9_begin_112 rfl (lv_at hl 0 rfl) ?_
      obtain ⟨q113, hq113, hf⟩ := mx_bd hf
      refine mx_callV C hM hl.1 yo_X9_rest (h' := 0) (by decide) qw_638 qw_640 qs_30 (ci := 9) (q := (RX9, TX9, 13)) rfl (xt_29 hT) (As := []) (rest := []) (st1 := []) (kX9_rest C.2.2.2.1 29 hT xiS_29 (mx_si (mx_si (mx_si M 29 9 (0 : Int32)) 29 10 (0 : Int32)) 29 11 (0 : Int32)) hq113) rfl rfl rfl (Nat.le_of_ble_eq_true rfl) dX9_begin_113 (fun H locs hM => ?_)
      exact mx_vret C hM hf dX9_begin_116
    · replace hf := mx_iff hc59 hf
      refine lv_aload_n hx hb dX9_begin_62 rfl (lv_at hl 0 rfl) ?_
      refine gX9_21 C hM (xt_29 hT) (f := (2, 33)) rfl (v := .ref (E.2.1.2.1 33)) rfl dX9_begin_63 ?_
      refine lv_iload_n hx hb dX9_begin_66 rfl (lv_at hl 1 rfl) ?_
      refine lv_aload_n hx hb dX9_begin_67 rfl (lv_at hl 0 rfl) ?_
      refine gX9_36 C hM (xt_29 hT) (f := (2, 9)) rfl (v := .ref (E.2.1.2.1 9)) rfl dX9_begin_68 ?_
      refine gX9_55 C hT hM (xt_9 hT) (f := (2, 17)) rfl (v := .ref (E.2.1.2.1 17)) rfl dX9_begin_71 ?_
      refine lv_iload_n hx hb dX9_begin_74 rfl (lv_at hl 1 rfl) ?_
      obtain ⟨hg75, hf⟩ := mx_gd hf
      refine mx_iald C hM (xt_17 hT) (mx_in_vp hg75) dX9_begin_75 ?_
      obtain ⟨hg76, hf⟩ := mx_gd hf
      refine mx_iast C hM (xt_33 hT) (mx_in_vp hg76) dX9_begin_76 (fun H locs hM => ?_)
      refine lv_aload_n hx hb dX9_begin_77 rfl (lv_at hl 0 rfl) ?_
      refine gX9_24 C hM (xt_29 hT) (f := (2, 34)) rfl (v := .ref (E.2.1.2.1 34)) rfl dX9_begin_78 ?_
      refine lv_iload_n hx hb dX9_begin_81 rfl (lv_at hl 1 rfl) ?_
      refine lv_iconst (v := (0 : Int32)) hx hb dX9_begin_82 (by decide) ?_
      obtain ⟨hg83, hf⟩ := mx_gd hf
      refine mx_iast C hM (xt_34 hT) (mx_in_vp hg83) dX9_begin_83 (fun H locs hM => ?_)
      refine lv_aload_n hx hb dX9_begin_84 rfl (lv_at hl 0 rfl) ?_
      refine gX9_33 C hM (xt_29 hT) (f := (2, 37)) rfl (v := .ref (E.2.1.2.1 37)) rfl dX9_begin_85 ?_
      refine lv_iload_n hx hb dX9_begin_88 rfl (lv_at hl 1 rfl) ?_
      refine lv_iconst (v := (0 : Int32)) hx hb dX9_begin_89 (by decide) ?_
      obtain ⟨hg90, hf⟩ := mx_gd hf
      refine mx_iast C hM (xt_37 hT) (mx_in_vp hg90) dX9_begin_90 (fun H locs hM => ?_)
      refine lv_iinc (v := (i1 + (1 : Int32))) (lv' := [(1, .int (i1 + (1 : Int32))), (0, .ref (E.2.1.2.1 29))]) hx hb dX9_begin_91 hl (k := 1) rfl rfl (by decide) rfl (fun ls hl => ?_)
      refine lv_goto (tgt := 51) hx hb dX9_begin_94 (by decide) ?_
      exact ih (i1 + (1 : Int32)) (mx_si (mx_si (mx_si M 33 i1.toNatClampNeg (M.1 17 i1.toNatClampNeg)) 34 i1.toNatClampNeg (0 : Int32)) 37 i1.toNatClampNeg (0 : Int32)) _ _ _ hf hM (lv_sub hl [1, 0] rfl)
set_option maxRecDepth 100000 in
set_option maxHeartbeats 4000000 in
theorem wfX9_begin_2 {E : KE} {p : Program} {l : Launch} {e : Env} {s : State} {m : MethodId} {args : Array Value} {below : List Frame} {meth : Method} {c : Code} {q : MM} (C : mx_C E p m c cX9_begin 2 s args RX9 meth none)  (hT : xOK E)   : ∀ (n : Nat) (i1 : Int32) (M : MM) (H : Heap) (locs : List Loc) (ls : Array Slot), fX9_begin_2 n i1 M = some q → mx_H E s M H locs → lv_has ls 2 [(0, .ref (E.2.1.2.1 29)), (1, .int i1)] → W p l e (mx_rm 1) s m args below meth c H locs 0 0 (mx_Z E below args s none q) (F0 m 2 ls []) := by
  have hx := C.1.1
  have hb := C.1.2.1
  have hown := C.1.2.2.2.1
  have hts := C.1.2.2.2.2
  intro n
  induction n with
  | zero =>
    intro i1 M H locs ls hf hM hl
    rw [fX9_begin_2] at hf
    cases hf
  | succ n ih =>
    intro i1 M H locs ls hf hM hl
    rw [fX9_begin_2] at hf
    refine lv_iload_n hx hb dX9_begin_2 rfl (lv_at hl 1 rfl) ?_
    refine lv_aload_n hx hb dX9_begin_3 rfl (lv_at hl 0 rfl) ?_
    refine gX9_36 C hM (xt_29 hT) (f := (2, 9)) rfl (v := .ref (E.2.1.2.1 9)) rfl dX9_begin_4 ?_
    refine gX9_40 C hT hM (xt_9 hT) (f := (0, 0)) rfl (v := .int (M.1 9 0)) rfl dX9_begin_7 ?_
    refine lv_icmp_ge (tgt := 49) hx hb dX9_begin_10 (by decide) (fun hc10 => ?_) (fun hc10 => ?_)
    · replace hf := mx_ift hc10 hf
      refine lv_iconst (v := (0 : Int32)) hx hb dX9_begin_49 (by decide) ?_
      refine lv_istore_n (lv' := [(1, .int (0 : Int32)), (0, .ref (E.2.1.2.1 29))]) hx hb dX9_begin_50 rfl hl (by decide) rfl (fun ls hl => ?_)
      exact wfX9_begin_51 C hT mx_fu (0 : Int32) M _ _ _ hf hM (lv_sub hl [1, 0] rfl)
    · replace hf := mx_iff hc10 hf
      refine lv_aload_n hx hb dX9_begin_13 rfl (lv_at hl 0 rfl) ?_
      refine gX9_9 C hM (xt_29 hT) (f := (2, 30)) rfl (v := .ref (E.2.1.2.1 30)) rfl dX9_begin_14 ?_
      refine lv_iload_n hx hb dX9_begin_17 rfl (lv_at hl 1 rfl) ?_
      refine lv_aload_n hx hb dX9_begin_18 rfl (lv_at hl 0 rfl) ?_
      refine gX9_36 C hM (xt_29 hT) (f := (2, 9)) rfl (v := .ref (E.2.1.2.1 9)) rfl dX9_begin_19 ?_
      refine gX9_46 C hT hM (xt_9 hT) (f := (2, 11)) rfl (v := .ref (E.2.1.2.1 11)) rfl dX9_begin_22 ?_
      refine lv_iload_n hx hb dX9_begin_25 rfl (lv_at hl 1 rfl) ?_
      obtain ⟨hg26, hf⟩ := mx_gd hf
      refine mx_iald C hM (xt_11 hT) (mx_in_vp hg26) dX9_begin_26 ?_
      obtain ⟨hg27, hf⟩ := mx_gd hf
      refine mx_iast C hM (xt_30 hT) (mx_in_vp hg27) dX9_begin_27 (fun H locs hM => ?_)
      refine lv_aload_n hx hb dX9_begin_28 rfl (lv_at hl 0 rfl) ?_
      refine gX9_15 C hM (xt_29 hT) (f := (2, 31)) rfl (v := .ref (E.2.1.2.1 31)) rfl dX9_begin_29 ?_
      refine lv_iload_n hx hb dX9_begin_32 rfl (lv_at hl 1 rfl) ?_
      refine lv_aload_n hx hb dX9_begin_33 rfl (lv_at hl 0 rfl) ?_
      refine gX9_36 C hM (xt_29 hT) (f := (2, 9)) rfl (v := .ref (E.2.1.2.1 9)) rfl dX9_begin_34 ?_
      refine gX9_49 C hT hM (xt_9 hT) (f := (2, 12)) rfl (v := .ref (E.2.1.2.1 12)) rfl dX9_begin_37 ?_
      refine lv_iload_n hx hb dX9_begin_40 rfl (lv_at hl 1 rfl) ?_
      obtain ⟨hg41, hf⟩ := mx_gd hf
      refine mx_iald C hM (xt_12 hT) (mx_in_vp hg41) dX9_begin_41 ?_
      obtain ⟨hg42, hf⟩ := mx_gd hf
      refine mx_iast C hM (xt_31 hT) (mx_in_vp hg42) dX9_begin_42 (fun H locs hM => ?_)
      refine lv_iinc (v := (i1 + (1 : Int32))) (lv' := [(1, .int (i1 + (1 : Int32))), (0, .ref (E.2.1.2.1 29))]) hx hb dX9_begin_43 hl (k := 1) rfl rfl (by decide) rfl (fun ls hl => ?_)
      refine lv_goto (tgt := 2) hx hb dX9_begin_46 (by decide) ?_
      exact ih (i1 + (1 : Int32)) (mx_si (mx_si M 30 i1.toNatClampNeg (M.1 11 i1.toNatClampNeg)) 31 i1.toNatClampNeg ((mx_si M 30 i1.toNatClampNeg (M.1 11 i1.toNatClampNeg)).1 12 i1.toNatClampNeg)) _ _ _ hf hM (lv_sub hl [1, 0] rfl)
set_option maxRecDepth 100000 in
set_option maxHeartbeats 4000000 in
theorem kX9_begin {E : KE} {l : Launch} (hE : mx_ok E)  (hT : xOK E) (M : MM) {q : MM} (hf : fX9_begin M = some q) : mx_Met E l yX9_begin cX9_begin 2 none 1 [.ref (E.2.1.2.1 29)] M none q := by
  refine mx_enter hE (by decide) (Nat.le_of_ble_eq_true rfl) ?_
  intro p e s m below meth c C hM hn ls hl
  have hx := C.1.1
  have hb := C.1.2.1
  have hown := C.1.2.2.2.1
  have hts := C.1.2.2.2.2
  have hl : lv_has ls 2 [(0, .ref (E.2.1.2.1 29))] := hl
  rw [fX9_begin] at hf
  refine lv_iconst (v := (0 : Int32)) hx hb dX9_begin_0 (by decide) ?_
  refine lv_istore_n (lv' := [(1, .int (0 : Int32)), (0, .ref (E.2.1.2.1 29))]) hx hb dX9_begin_1 rfl hl (by decide) rfl (fun ls hl => ?_)
  exact wfX9_begin_2 C hT mx_fu (0 : Int32) M _ _ _ hf hM (lv_sub hl [1, 0] rfl)
theorem dX9_ringX_0 : decode cX9_ringX 0 = .ok (.aload_n 0, 1) := by decide +kernel
theorem dX9_ringX_1 : decode cX9_ringX 1 = .ok (.getfield 21, 3) := by decide +kernel
theorem dX9_ringX_4 : decode cX9_ringX 4 = .ok (.iload_n 1, 1) := by decide +kernel
theorem dX9_ringX_5 : decode cX9_ringX 5 = .ok (.iaload, 1) := by decide +kernel
theorem dX9_ringX_6 : decode cX9_ringX 6 = .ok (.istore_n 2, 1) := by decide +kernel
theorem dX9_ringX_7 : decode cX9_ringX 7 = .ok (.aload_n 0, 1) := by decide +kernel
theorem dX9_ringX_8 : decode cX9_ringX 8 = .ok (.getfield 36, 3) := by decide +kernel
theorem dX9_ringX_11 : decode cX9_ringX 11 = .ok (.iload_n 2, 1) := by decide +kernel
theorem dX9_ringX_12 : decode cX9_ringX 12 = .ok (.invokevirtual 87, 3) := by decide +kernel
theorem dX9_ringX_15 : decode cX9_ringX 15 = .ok (.ifCond .eq 12, 3) := by decide +kernel
theorem dX9_ringX_18 : decode cX9_ringX 18 = .ok (.aload_n 0, 1) := by decide +kernel
theorem dX9_ringX_19 : decode cX9_ringX 19 = .ok (.getfield 9, 3) := by decide +kernel
theorem dX9_ringX_22 : decode cX9_ringX 22 = .ok (.iload_n 2, 1) := by decide +kernel
theorem dX9_ringX_23 : decode cX9_ringX 23 = .ok (.iaload, 1) := by decide +kernel
theorem dX9_ringX_24 : decode cX9_ringX 24 = .ok (.goto 9, 3) := by decide +kernel
theorem dX9_ringX_27 : decode cX9_ringX 27 = .ok (.aload_n 0, 1) := by decide +kernel
theorem dX9_ringX_28 : decode cX9_ringX 28 = .ok (.getfield 27, 3) := by decide +kernel
theorem dX9_ringX_31 : decode cX9_ringX 31 = .ok (.iload_n 1, 1) := by decide +kernel
theorem dX9_ringX_32 : decode cX9_ringX 32 = .ok (.iaload, 1) := by decide +kernel
theorem dX9_ringX_33 : decode cX9_ringX 33 = .ok (.ireturn, 1) := by decide +kernel
set_option maxRecDepth 100000 in
set_option maxHeartbeats 4000000 in
theorem kX9_ringX {E : KE} {l : Launch} (hE : mx_ok E) (i1 : Int32) (hT : xOK E) (M : MM) {q : Int32} (hf : fX9_ringX i1 M = some q) : mx_Met E l yX9_ringX cX9_ringX 3 (some .int) 1 [.ref (E.2.1.2.1 29), .int i1] M (some (.int q)) M := by
  refine mx_enter hE (by decide) (Nat.le_of_ble_eq_true rfl) ?_
  intro p e s m below meth c C hM hn ls hl
  have hx := C.1.1
  have hb := C.1.2.1
  have hown := C.1.2.2.2.1
  have hts := C.1.2.2.2.2
  have hl : lv_has ls 3 [(0, .ref (E.2.1.2.1 29)), (1, .int i1)] := hl
  rw [fX9_ringX] at hf
  refine lv_aload_n hx hb dX9_ringX_0 rfl (lv_at hl 0 rfl) ?_
  refine gX9_21 C hM (xt_29 hT) (f := (2, 33)) rfl (v := .ref (E.2.1.2.1 33)) rfl dX9_ringX_1 ?_
  refine lv_iload_n hx hb dX9_ringX_4 rfl (lv_at hl 1 rfl) ?_
  obtain ⟨hg5, hf⟩ := mx_gd hf
  refine mx_iald C hM (xt_33 hT) (mx_in_vp hg5) dX9_ringX_5 ?_
  refine lv_istore_n (lv' := [(2, .int (M.1 33 i1.toNatClampNeg)), (0, .ref (E.2.1.2.1 29)), (1, .int i1)]) hx hb dX9_ringX_6 rfl hl (by decide) rfl (fun ls hl => ?_)
  refine lv_aload_n hx hb dX9_ringX_7 rfl (lv_at hl 1 rfl) ?_
  refine gX9_36 C hM (xt_29 hT) (f := (2, 9)) rfl (v := .ref (E.2.1.2.1 9)) rfl dX9_ringX_8 ?_
  refine lv_iload_n hx hb dX9_ringX_11 rfl (lv_at hl 0 rfl) ?_
  obtain ⟨q12, hq12, hf⟩ := mx_bd hf
  refine mx_callVN C hM hl.1 yo_X3_isPerson (h' := 0) (by decide) (nw_817 hT C) qw_664 qs_34 (ci := 3) (q := (RX3, TX3, 18)) rfl (xt_9 hT) (As := [.int (M.1 33 i1.toNatClampNeg)]) (rest := []) (st1 := [.int (mx_b q12)]) (kX3_isPerson C.2.2.2.1 (M.1 33 i1.toNatClampNeg) hT M hq12) rfl rfl rfl (Nat.le_of_ble_eq_true rfl) dX9_ringX_12 (fun H locs hM => ?_)
  refine lv_if_eq (tgt := 27) hx hb dX9_ringX_15 (by decide) (fun hc15 => ?_) (fun hc15 => ?_)
  · replace hf := mx_ift hc15 hf
    refine lv_aload_n hx hb dX9_ringX_27 rfl (lv_at hl 1 rfl) ?_
    refine gX9_27 C hM (xt_29 hT) (f := (2, 35)) rfl (v := .ref (E.2.1.2.1 35)) rfl dX9_ringX_28 ?_
    refine lv_iload_n hx hb dX9_ringX_31 rfl (lv_at hl 2 rfl) ?_
    obtain ⟨hg32, hf⟩ := mx_gd hf
    refine mx_iald C hM (xt_35 hT) (mx_in_vp hg32) dX9_ringX_32 ?_
    exact mx_iretR C hM hf dX9_ringX_33
  · replace hf := mx_iff hc15 hf
    refine lv_aload_n hx hb dX9_ringX_18 rfl (lv_at hl 1 rfl) ?_
    refine gX9_9 C hM (xt_29 hT) (f := (2, 30)) rfl (v := .ref (E.2.1.2.1 30)) rfl dX9_ringX_19 ?_
    refine lv_iload_n hx hb dX9_ringX_22 rfl (lv_at hl 0 rfl) ?_
    obtain ⟨hg23, hf⟩ := mx_gd hf
    refine mx_iald C hM (xt_30 hT) (mx_in_vp hg23) dX9_ringX_23 ?_
    refine lv_goto (tgt := 33) hx hb dX9_ringX_24 (by decide) ?_
    exact mx_iretR C hM hf dX9_ringX_33
theorem dX9_ringY_0 : decode cX9_ringY 0 = .ok (.aload_n 0, 1) := by decide +kernel
theorem dX9_ringY_1 : decode cX9_ringY 1 = .ok (.getfield 21, 3) := by decide +kernel
theorem dX9_ringY_4 : decode cX9_ringY 4 = .ok (.iload_n 1, 1) := by decide +kernel
theorem dX9_ringY_5 : decode cX9_ringY 5 = .ok (.iaload, 1) := by decide +kernel
theorem dX9_ringY_6 : decode cX9_ringY 6 = .ok (.istore_n 2, 1) := by decide +kernel
theorem dX9_ringY_7 : decode cX9_ringY 7 = .ok (.aload_n 0, 1) := by decide +kernel
theorem dX9_ringY_8 : decode cX9_ringY 8 = .ok (.getfield 36, 3) := by decide +kernel
theorem dX9_ringY_11 : decode cX9_ringY 11 = .ok (.iload_n 2, 1) := by decide +kernel
theorem dX9_ringY_12 : decode cX9_ringY 12 = .ok (.invokevirtual 87, 3) := by decide +kernel
theorem dX9_ringY_15 : decode cX9_ringY 15 = .ok (.ifCond .eq 12, 3) := by decide +kernel
theorem dX9_ringY_18 : decode cX9_ringY 18 = .ok (.aload_n 0, 1) := by decide +kernel
theorem dX9_ringY_19 : decode cX9_ringY 19 = .ok (.getfield 15, 3) := by decide +kernel
theorem dX9_ringY_22 : decode cX9_ringY 22 = .ok (.iload_n 2, 1) := by decide +kernel
theorem dX9_ringY_23 : decode cX9_ringY 23 = .ok (.iaload, 1) := by decide +kernel
theorem dX9_ringY_24 : decode cX9_ringY 24 = .ok (.goto 9, 3) := by decide +kernel
theorem dX9_ringY_27 : decode cX9_ringY 27 = .ok (.aload_n 0, 1) := by decide +kernel
theorem dX9_ringY_28 : decode cX9_ringY 28 = .ok (.getfield 30, 3) := by decide +kernel
theorem dX9_ringY_31 : decode cX9_ringY 31 = .ok (.iload_n 1, 1) := by decide +kernel
theorem dX9_ringY_32 : decode cX9_ringY 32 = .ok (.iaload, 1) := by decide +kernel
theorem dX9_ringY_33 : decode cX9_ringY 33 = .ok (.ireturn, 1) := by decide +kernel
set_option maxRecDepth 100000 in
set_option maxHeartbeats 4000000 in
theorem kX9_ringY {E : KE} {l : Launch} (hE : mx_ok E) (i1 : Int32) (hT : xOK E) (M : MM) {q : Int32} (hf : fX9_ringY i1 M = some q) : mx_Met E l yX9_ringY cX9_ringY 3 (some .int) 1 [.ref (E.2.1.2.1 29), .int i1] M (some (.int q)) M := by
  refine mx_enter hE (by decide) (Nat.le_of_ble_eq_true rfl) ?_
  intro p e s m below meth c C hM hn ls hl
  have hx := C.1.1
  have hb := C.1.2.1
  have hown := C.1.2.2.2.1
  have hts := C.1.2.2.2.2
  have hl : lv_has ls 3 [(0, .ref (E.2.1.2.1 29)), (1, .int i1)] := hl
  rw [fX9_ringY] at hf
  refine lv_aload_n hx hb dX9_ringY_0 rfl (lv_at hl 0 rfl) ?_
  refine gX9_21 C hM (xt_29 hT) (f := (2, 33)) rfl (v := .ref (E.2.1.2.1 33)) rfl dX9_ringY_1 ?_
  refine lv_iload_n hx hb dX9_ringY_4 rfl (lv_at hl 1 rfl) ?_
  obtain ⟨hg5, hf⟩ := mx_gd hf
  refine mx_iald C hM (xt_33 hT) (mx_in_vp hg5) dX9_ringY_5 ?_
  refine lv_istore_n (lv' := [(2, .int (M.1 33 i1.toNatClampNeg)), (0, .ref (E.2.1.2.1 29)), (1, .int i1)]) hx hb dX9_ringY_6 rfl hl (by decide) rfl (fun ls hl => ?_)
  refine lv_aload_n hx hb dX9_ringY_7 rfl (lv_at hl 1 rfl) ?_
  refine gX9_36 C hM (xt_29 hT) (f := (2, 9)) rfl (v := .ref (E.2.1.2.1 9)) rfl dX9_ringY_8 ?_
  refine lv_iload_n hx hb dX9_ringY_11 rfl (lv_at hl 0 rfl) ?_
  obtain ⟨q12, hq12, hf⟩ := mx_bd hf
  refine mx_callVN C hM hl.1 yo_X3_isPerson (h' := 0) (by decide) (nw_817 hT C) qw_664 qs_34 (ci := 3) (q := (RX3, TX3, 18)) rfl (xt_9 hT) (As := [.int (M.1 33 i1.toNatClampNeg)]) (rest := []) (st1 := [.int (mx_b q12)]) (kX3_isPerson C.2.2.2.1 (M.1 33 i1.toNatClampNeg) hT M hq12) rfl rfl rfl (Nat.le_of_ble_eq_true rfl) dX9_ringY_12 (fun H locs hM => ?_)
  refine lv_if_eq (tgt := 27) hx hb dX9_ringY_15 (by decide) (fun hc15 => ?_) (fun hc15 => ?_)
  · replace hf := mx_ift hc15 hf
    refine lv_aload_n hx hb dX9_ringY_27 rfl (lv_at hl 1 rfl) ?_
    refine gX9_30 C hM (xt_29 hT) (f := (2, 36)) rfl (v := .ref (E.2.1.2.1 36)) rfl dX9_ringY_28 ?_
    refine lv_iload_n hx hb dX9_ringY_31 rfl (lv_at hl 2 rfl) ?_
    obtain ⟨hg32, hf⟩ := mx_gd hf
    refine mx_iald C hM (xt_36 hT) (mx_in_vp hg32) dX9_ringY_32 ?_
    exact mx_iretR C hM hf dX9_ringY_33
  · replace hf := mx_iff hc15 hf
    refine lv_aload_n hx hb dX9_ringY_18 rfl (lv_at hl 1 rfl) ?_
    refine gX9_15 C hM (xt_29 hT) (f := (2, 31)) rfl (v := .ref (E.2.1.2.1 31)) rfl dX9_ringY_19 ?_
    refine lv_iload_n hx hb dX9_ringY_22 rfl (lv_at hl 0 rfl) ?_
    obtain ⟨hg23, hf⟩ := mx_gd hf
    refine mx_iald C hM (xt_31 hT) (mx_in_vp hg23) dX9_ringY_23 ?_
    refine lv_goto (tgt := 33) hx hb dX9_ringY_24 (by decide) ?_
    exact mx_iretR C hM hf dX9_ringY_33
theorem dX9_draw_0 : decode cX9_draw 0 = .ok (.aload_n 0, 1) := by decide +kernel
theorem dX9_draw_1 : decode cX9_draw 1 = .ok (.aload_n 0, 1) := by decide +kernel
theorem dX9_draw_2 : decode cX9_draw 2 = .ok (.getfield 138, 3) := by decide +kernel
theorem dX9_draw_5 : decode cX9_draw 5 = .ok (.ldc 145, 2) := by decide +kernel
theorem dX9_draw_7 : decode cX9_draw 7 = .ok (.imul, 1) := by decide +kernel
theorem dX9_draw_8 : decode cX9_draw 8 = .ok (.sipush 12345, 3) := by decide +kernel
theorem dX9_draw_11 : decode cX9_draw 11 = .ok (.iadd, 1) := by decide +kernel
theorem dX9_draw_12 : decode cX9_draw 12 = .ok (.putfield 138, 3) := by decide +kernel
theorem dX9_draw_15 : decode cX9_draw 15 = .ok (.iload_n 1, 1) := by decide +kernel
theorem dX9_draw_16 : decode cX9_draw 16 = .ok (.iconst 1, 1) := by decide +kernel
theorem dX9_draw_17 : decode cX9_draw 17 = .ok (.if_icmp .ge 7, 3) := by decide +kernel
theorem dX9_draw_20 : decode cX9_draw 20 = .ok (.iconst 0, 1) := by decide +kernel
theorem dX9_draw_21 : decode cX9_draw 21 = .ok (.goto 12, 3) := by decide +kernel
theorem dX9_draw_24 : decode cX9_draw 24 = .ok (.aload_n 0, 1) := by decide +kernel
theorem dX9_draw_25 : decode cX9_draw 25 = .ok (.getfield 138, 3) := by decide +kernel
theorem dX9_draw_28 : decode cX9_draw 28 = .ok (.bipush 8, 2) := by decide +kernel
theorem dX9_draw_30 : decode cX9_draw 30 = .ok (.iushr, 1) := by decide +kernel
theorem dX9_draw_31 : decode cX9_draw 31 = .ok (.iload_n 1, 1) := by decide +kernel
theorem dX9_draw_32 : decode cX9_draw 32 = .ok (.irem, 1) := by decide +kernel
theorem dX9_draw_33 : decode cX9_draw 33 = .ok (.ireturn, 1) := by decide +kernel
set_option maxRecDepth 100000 in
set_option maxHeartbeats 4000000 in
theorem kX9_draw {E : KE} {l : Launch} (hE : mx_ok E) (o : Nat) (i1 : Int32) (hT : xOK E) (ho : xt_isS o = true) (M : MM) {q : (Int32 × MM)} (hf : fX9_draw o i1 M = some q) : mx_Met E l yX9_draw cX9_draw 2 (some .int) 0 [.ref (E.2.1.2.1 o), .int i1] M (some (.int q.1)) q.2 := by
  refine mx_enter hE (by decide) (Nat.le_of_ble_eq_true rfl) ?_
  intro p e s m below meth c C hM hn ls hl
  have hx := C.1.1
  have hb := C.1.2.1
  have hown := C.1.2.2.2.1
  have hts := C.1.2.2.2.2
  have hl : lv_has ls 2 [(0, .ref (E.2.1.2.1 o)), (1, .int i1)] := hl
  rw [fX9_draw] at hf
  refine lv_aload_n hx hb dX9_draw_0 rfl (lv_at hl 0 rfl) ?_
  refine lv_aload_n hx hb dX9_draw_1 rfl (lv_at hl 0 rfl) ?_
  refine gX9_138 C hM (xoS hT ho) (f := (0, 0)) rfl (v := .int (M.1 o 12)) rfl dX9_draw_2 ?_
  refine lv_ldc (v := (1103515245)) hx hb hown (hts _ qw_1075) dX9_draw_5 ?_
  refine lv_imul hx hb dX9_draw_7 ?_
  refine lv_sipush (v := (12345 : Int32)) hx hb dX9_draw_8 (by decide) ?_
  refine lv_iadd hx hb dX9_draw_11 ?_
  refine pX9_138 C hM (xoS hT ho) rfl rfl rfl dX9_draw_12 (fun H locs hM => ?_)
  refine lv_iload_n hx hb dX9_draw_15 rfl (lv_at hl 1 rfl) ?_
  refine lv_iconst (v := (1 : Int32)) hx hb dX9_draw_16 (by decide) ?_
  refine lv_icmp_ge (tgt := 24) hx hb dX9_draw_17 (by decide) (fun hc17 => ?_) (fun hc17 => ?_)
  · replace hf := mx_ift hc17 hf
    refine lv_aload_n hx hb dX9_draw_24 rfl (lv_at hl 0 rfl) ?_
    refine gX9_138 C hM (xoS hT ho) (f := (0, 0)) rfl (v := .int ((mx_si M o 12 (((M.1 o 12) * (1103515245 : Int32)) + (12345 : Int32))).1 o 12)) rfl dX9_draw_25 ?_
    refine lv_bipush (v := (8 : Int32)) hx hb dX9_draw_28 (by decide) ?_
    refine lv_iushr (v := (mx_ushr ((mx_si M o 12 (((M.1 o 12) * (1103515245 : Int32)) + (12345 : Int32))).1 o 12) (8 : Int32))) hx hb dX9_draw_30 rfl ?_
    refine lv_iload_n hx hb dX9_draw_31 rfl (lv_at hl 1 rfl) ?_
    obtain ⟨hz32, hf⟩ := mx_gn hf
    refine lv_irem hx hb dX9_draw_32 hz32 ?_
    exact mx_iret C hM hf dX9_draw_33
  · replace hf := mx_iff hc17 hf
    refine lv_iconst (v := (0 : Int32)) hx hb dX9_draw_20 (by decide) ?_
    refine lv_goto (tgt := 33) hx hb dX9_draw_21 (by decide) ?_
    exact mx_iret C hM hf dX9_draw_33
theorem dX9_drawAct_0 : decode cX9_drawAct 0 = .ok (.aload_n 0, 1) := by decide +kernel
theorem dX9_drawAct_1 : decode cX9_drawAct 1 = .ok (.bipush 6, 2) := by decide +kernel
theorem dX9_drawAct_3 : decode cX9_drawAct 3 = .ok (.invokevirtual 146, 3) := by decide +kernel
theorem dX9_drawAct_6 : decode cX9_drawAct 6 = .ok (.tableswitch 143 0 4 #[34, 34, 59, 104, 134], 34) := by decide +kernel
theorem dX9_drawAct_40 : decode cX9_drawAct 40 = .ok (.aload_n 0, 1) := by decide +kernel
theorem dX9_drawAct_41 : decode cX9_drawAct 41 = .ok (.bipush 21, 2) := by decide +kernel
theorem dX9_drawAct_43 : decode cX9_drawAct 43 = .ok (.invokevirtual 146, 3) := by decide +kernel
theorem dX9_drawAct_46 : decode cX9_drawAct 46 = .ok (.istore_n 2, 1) := by decide +kernel
theorem dX9_drawAct_47 : decode cX9_drawAct 47 = .ok (.aload_n 0, 1) := by decide +kernel
theorem dX9_drawAct_48 : decode cX9_drawAct 48 = .ok (.bipush 21, 2) := by decide +kernel
theorem dX9_drawAct_50 : decode cX9_drawAct 50 = .ok (.invokevirtual 146, 3) := by decide +kernel
theorem dX9_drawAct_53 : decode cX9_drawAct 53 = .ok (.istore_n 3, 1) := by decide +kernel
theorem dX9_drawAct_54 : decode cX9_drawAct 54 = .ok (.aload_n 0, 1) := by decide +kernel
theorem dX9_drawAct_55 : decode cX9_drawAct 55 = .ok (.iload_n 1, 1) := by decide +kernel
theorem dX9_drawAct_56 : decode cX9_drawAct 56 = .ok (.iload_n 2, 1) := by decide +kernel
theorem dX9_drawAct_57 : decode cX9_drawAct 57 = .ok (.iload_n 3, 1) := by decide +kernel
theorem dX9_drawAct_58 : decode cX9_drawAct 58 = .ok (.invokevirtual 149, 3) := by decide +kernel
theorem dX9_drawAct_61 : decode cX9_drawAct 61 = .ok (.pop, 1) := by decide +kernel
theorem dX9_drawAct_62 : decode cX9_drawAct 62 = .ok (.goto 87, 3) := by decide +kernel
theorem dX9_drawAct_65 : decode cX9_drawAct 65 = .ok (.aload_n 0, 1) := by decide +kernel
theorem dX9_drawAct_66 : decode cX9_drawAct 66 = .ok (.getfield 36, 3) := by decide +kernel
theorem dX9_drawAct_69 : decode cX9_drawAct 69 = .ok (.getfield 52, 3) := by decide +kernel
theorem dX9_drawAct_72 : decode cX9_drawAct 72 = .ok (.ifCond .le 77, 3) := by decide +kernel
theorem dX9_drawAct_75 : decode cX9_drawAct 75 = .ok (.aload_n 0, 1) := by decide +kernel
theorem dX9_drawAct_76 : decode cX9_drawAct 76 = .ok (.aload_n 0, 1) := by decide +kernel
theorem dX9_drawAct_77 : decode cX9_drawAct 77 = .ok (.getfield 36, 3) := by decide +kernel
theorem dX9_drawAct_80 : decode cX9_drawAct 80 = .ok (.getfield 52, 3) := by decide +kernel
theorem dX9_drawAct_83 : decode cX9_drawAct 83 = .ok (.invokevirtual 146, 3) := by decide +kernel
theorem dX9_drawAct_86 : decode cX9_drawAct 86 = .ok (.istore 4, 2) := by decide +kernel
theorem dX9_drawAct_88 : decode cX9_drawAct 88 = .ok (.aload_n 0, 1) := by decide +kernel
theorem dX9_drawAct_89 : decode cX9_drawAct 89 = .ok (.iload_n 1, 1) := by decide +kernel
theorem dX9_drawAct_90 : decode cX9_drawAct 90 = .ok (.iload 4, 2) := by decide +kernel
theorem dX9_drawAct_92 : decode cX9_drawAct 92 = .ok (.aload_n 0, 1) := by decide +kernel
theorem dX9_drawAct_93 : decode cX9_drawAct 93 = .ok (.aload_n 0, 1) := by decide +kernel
theorem dX9_drawAct_94 : decode cX9_drawAct 94 = .ok (.getfield 36, 3) := by decide +kernel
theorem dX9_drawAct_97 : decode cX9_drawAct 97 = .ok (.getfield 40, 3) := by decide +kernel
theorem dX9_drawAct_100 : decode cX9_drawAct 100 = .ok (.invokevirtual 146, 3) := by decide +kernel
theorem dX9_drawAct_103 : decode cX9_drawAct 103 = .ok (.invokevirtual 152, 3) := by decide +kernel
theorem dX9_drawAct_106 : decode cX9_drawAct 106 = .ok (.pop, 1) := by decide +kernel
theorem dX9_drawAct_107 : decode cX9_drawAct 107 = .ok (.goto 42, 3) := by decide +kernel
theorem dX9_drawAct_110 : decode cX9_drawAct 110 = .ok (.aload_n 0, 1) := by decide +kernel
theorem dX9_drawAct_111 : decode cX9_drawAct 111 = .ok (.getfield 36, 3) := by decide +kernel
theorem dX9_drawAct_114 : decode cX9_drawAct 114 = .ok (.getfield 52, 3) := by decide +kernel
theorem dX9_drawAct_117 : decode cX9_drawAct 117 = .ok (.ifCond .le 32, 3) := by decide +kernel
theorem dX9_drawAct_120 : decode cX9_drawAct 120 = .ok (.aload_n 0, 1) := by decide +kernel
theorem dX9_drawAct_121 : decode cX9_drawAct 121 = .ok (.iload_n 1, 1) := by decide +kernel
theorem dX9_drawAct_122 : decode cX9_drawAct 122 = .ok (.aload_n 0, 1) := by decide +kernel
theorem dX9_drawAct_123 : decode cX9_drawAct 123 = .ok (.aload_n 0, 1) := by decide +kernel
theorem dX9_drawAct_124 : decode cX9_drawAct 124 = .ok (.getfield 36, 3) := by decide +kernel
theorem dX9_drawAct_127 : decode cX9_drawAct 127 = .ok (.getfield 52, 3) := by decide +kernel
theorem dX9_drawAct_130 : decode cX9_drawAct 130 = .ok (.invokevirtual 146, 3) := by decide +kernel
theorem dX9_drawAct_133 : decode cX9_drawAct 133 = .ok (.invokevirtual 155, 3) := by decide +kernel
theorem dX9_drawAct_136 : decode cX9_drawAct 136 = .ok (.pop, 1) := by decide +kernel
theorem dX9_drawAct_137 : decode cX9_drawAct 137 = .ok (.goto 12, 3) := by decide +kernel
theorem dX9_drawAct_140 : decode cX9_drawAct 140 = .ok (.aload_n 0, 1) := by decide +kernel
theorem dX9_drawAct_141 : decode cX9_drawAct 141 = .ok (.iload_n 1, 1) := by decide +kernel
theorem dX9_drawAct_142 : decode cX9_drawAct 142 = .ok (.invokevirtual 158, 3) := by decide +kernel
theorem dX9_drawAct_145 : decode cX9_drawAct 145 = .ok (.pop, 1) := by decide +kernel
theorem dX9_drawAct_146 : decode cX9_drawAct 146 = .ok (.goto 3, 3) := by decide +kernel
theorem dX9_drawAct_149 : decode cX9_drawAct 149 = .ok (.return_, 1) := by decide +kernel
set_option maxRecDepth 100000 in
set_option maxHeartbeats 4000000 in
theorem kX9_drawAct {E : KE} {l : Launch} (hE : mx_ok E) (o : Nat) (i1 : Int32) (hT : xOK E) (ho : xt_isS o = true) (M : MM) {q : MM} (hf : fX9_drawAct o i1 M = some q) : mx_Met E l yX9_drawAct cX9_drawAct 5 none 4 [.ref (E.2.1.2.1 o), .int i1] M none q := by
  refine mx_enter hE (by decide) (Nat.le_of_ble_eq_true rfl) ?_
  intro p e s m below meth c C hM hn ls hl
  have hx := C.1.1
  have hb := C.1.2.1
  have hown := C.1.2.2.2.1
  have hts := C.1.2.2.2.2
  have hl : lv_has ls 5 [(0, .ref (E.2.1.2.1 o)), (1, .int i1)] := hl
  rw [fX9_drawAct] at hf
  refine lv_aload_n hx hb dX9_drawAct_0 rfl (lv_at hl 0 rfl) ?_
  refine lv_bipush (v := (6 : Int32)) hx hb dX9_drawAct_1 (by decide) ?_
  obtain ⟨q3, hq3, hf⟩ := mx_bd hf
  refine mx_callV C hM hl.1 yo_X9_draw (h' := 0) (by decide) qw_1071 qw_1073 qs_84 (ci := 9) (q := (RX9, TX9, 13)) rfl (xoS hT ho) (As := [.int (6 : Int32)]) (rest := []) (st1 := [.int q3.1]) (kX9_draw C.2.2.2.1 o (6 : Int32) hT ho M hq3) rfl rfl rfl (Nat.le_of_ble_eq_true rfl) dX9_drawAct_3 (fun H locs hM => ?_)
  by_cases hs0 : q3.1 = 0
  · replace hf := mx_ift hs0 hf
    refine lv_tableIn (tgt := 40) hx hb dX9_drawAct_6 (by rw [hs0]; decide) (by rw [hs0]; decide) (by rw [hs0]; rfl) (by decide) ?_
    refine lv_aload_n hx hb dX9_drawAct_40 rfl (lv_at hl 0 rfl) ?_
    refine lv_bipush (v := (21 : Int32)) hx hb dX9_drawAct_41 (by decide) ?_
    obtain ⟨q43, hq43, hf⟩ := mx_bd hf
    refine mx_callV C hM hl.1 yo_X9_draw (h' := 0) (by decide) qw_1071 qw_1073 qs_84 (ci := 9) (q := (RX9, TX9, 13)) rfl (xoS hT ho) (As := [.int (21 : Int32)]) (rest := []) (st1 := [.int q43.1]) (kX9_draw C.2.2.2.1 o (21 : Int32) hT ho q3.2 hq43) rfl rfl rfl (Nat.le_of_ble_eq_true rfl) dX9_drawAct_43 (fun H locs hM => ?_)
    refine lv_istore_n (lv' := [(2, .int q43.1), (0, .ref (E.2.1.2.1 o)), (1, .int i1)]) hx hb dX9_drawAct_46 rfl hl (by decide) rfl (fun ls hl => ?_)
    refine lv_aload_n hx hb dX9_drawAct_47 rfl (lv_at hl 1 rfl) ?_
    refine lv_bipush (v := (21 : Int32)) hx hb dX9_drawAct_48 (by decide) ?_
    obtain ⟨q50, hq50, hf⟩ := mx_bd hf
    refine mx_callV C hM hl.1 yo_X9_draw (h' := 0) (by decide) qw_1071 qw_1073 qs_84 (ci := 9) (q := (RX9, TX9, 13)) rfl (xoS hT ho) (As := [.int (21 : Int32)]) (rest := []) (st1 := [.int q50.1]) (kX9_draw C.2.2.2.1 o (21 : Int32) hT ho q43.2 hq50) rfl rfl rfl (Nat.le_of_ble_eq_true rfl) dX9_drawAct_50 (fun H locs hM => ?_)
    refine lv_istore_n (lv' := [(3, .int q50.1), (2, .int q43.1), (0, .ref (E.2.1.2.1 o)), (1, .int i1)]) hx hb dX9_drawAct_53 rfl hl (by decide) rfl (fun ls hl => ?_)
    refine lv_aload_n hx hb dX9_drawAct_54 rfl (lv_at hl 2 rfl) ?_
    refine lv_iload_n hx hb dX9_drawAct_55 rfl (lv_at hl 3 rfl) ?_
    refine lv_iload_n hx hb dX9_drawAct_56 rfl (lv_at hl 1 rfl) ?_
    refine lv_iload_n hx hb dX9_drawAct_57 rfl (lv_at hl 0 rfl) ?_
    obtain ⟨q58, hq58, hf⟩ := mx_bd hf
    refine mx_callV C hM hl.1 yo_X9_walkTo (h' := 2) (by decide) qw_1076 qw_700 qs_40 (ci := 9) (q := (RX9, TX9, 13)) rfl (xoS hT ho) (As := [.int i1, .int q43.1, .int q50.1]) (rest := []) (st1 := [.int q58.1]) (kX9_walkTo C.2.2.2.1 o i1 q43.1 q50.1 hT ho q50.2 hq58) rfl rfl rfl (Nat.le_of_ble_eq_true rfl) dX9_drawAct_58 (fun H locs hM => ?_)
    refine lv_pop hx hb dX9_drawAct_61 rfl ?_
    refine lv_goto (tgt := 149) hx hb dX9_drawAct_62 (by decide) ?_
    exact mx_vret C hM hf dX9_drawAct_149
  replace hf := mx_iff hs0 hf
  by_cases hs1 : q3.1 = 1
  · replace hf := mx_ift hs1 hf
    refine lv_tableIn (tgt := 40) hx hb dX9_drawAct_6 (by rw [hs1]; decide) (by rw [hs1]; decide) (by rw [hs1]; rfl) (by decide) ?_
    refine lv_aload_n hx hb dX9_drawAct_40 rfl (lv_at hl 0 rfl) ?_
    refine lv_bipush (v := (21 : Int32)) hx hb dX9_drawAct_41 (by decide) ?_
    obtain ⟨q43, hq43, hf⟩ := mx_bd hf
    refine mx_callV C hM hl.1 yo_X9_draw (h' := 0) (by decide) qw_1071 qw_1073 qs_84 (ci := 9) (q := (RX9, TX9, 13)) rfl (xoS hT ho) (As := [.int (21 : Int32)]) (rest := []) (st1 := [.int q43.1]) (kX9_draw C.2.2.2.1 o (21 : Int32) hT ho q3.2 hq43) rfl rfl rfl (Nat.le_of_ble_eq_true rfl) dX9_drawAct_43 (fun H locs hM => ?_)
    refine lv_istore_n (lv' := [(2, .int q43.1), (0, .ref (E.2.1.2.1 o)), (1, .int i1)]) hx hb dX9_drawAct_46 rfl hl (by decide) rfl (fun ls hl => ?_)
    refine lv_aload_n hx hb dX9_drawAct_47 rfl (lv_at hl 1 rfl) ?_
    refine lv_bipush (v := (21 : Int32)) hx hb dX9_drawAct_48 (by decide) ?_
    obtain ⟨q50, hq50, hf⟩ := mx_bd hf
    refine mx_callV C hM hl.1 yo_X9_draw (h' := 0) (by decide) qw_1071 qw_1073 qs_84 (ci := 9) (q := (RX9, TX9, 13)) rfl (xoS hT ho) (As := [.int (21 : Int32)]) (rest := []) (st1 := [.int q50.1]) (kX9_draw C.2.2.2.1 o (21 : Int32) hT ho q43.2 hq50) rfl rfl rfl (Nat.le_of_ble_eq_true rfl) dX9_drawAct_50 (fun H locs hM => ?_)
    refine lv_istore_n (lv' := [(3, .int q50.1), (2, .int q43.1), (0, .ref (E.2.1.2.1 o)), (1, .int i1)]) hx hb dX9_drawAct_53 rfl hl (by decide) rfl (fun ls hl => ?_)
    refine lv_aload_n hx hb dX9_drawAct_54 rfl (lv_at hl 2 rfl) ?_
    refine lv_iload_n hx hb dX9_drawAct_55 rfl (lv_at hl 3 rfl) ?_
    refine lv_iload_n hx hb dX9_drawAct_56 rfl (lv_at hl 1 rfl) ?_
    refine lv_iload_n hx hb dX9_drawAct_57 rfl (lv_at hl 0 rfl) ?_
    obtain ⟨q58, hq58, hf⟩ := mx_bd hf
    refine mx_callV C hM hl.1 yo_X9_walkTo (h' := 2) (by decide) qw_1076 qw_700 qs_40 (ci := 9) (q := (RX9, TX9, 13)) rfl (xoS hT ho) (As := [.int i1, .int q43.1, .int q50.1]) (rest := []) (st1 := [.int q58.1]) (kX9_walkTo C.2.2.2.1 o i1 q43.1 q50.1 hT ho q50.2 hq58) rfl rfl rfl (Nat.le_of_ble_eq_true rfl) dX9_drawAct_58 (fun H locs hM => ?_)
    refine lv_pop hx hb dX9_drawAct_61 rfl ?_
    refine lv_goto (tgt := 149) hx hb dX9_drawAct_62 (by decide) ?_
    exact mx_vret C hM hf dX9_drawAct_149
  replace hf := mx_iff hs1 hf
  by_cases hs2 : q3.1 = 2
  · replace hf := mx_ift hs2 hf
    refine lv_tableIn (tgt := 65) hx hb dX9_drawAct_6 (by rw [hs2]; decide) (by rw [hs2]; decide) (by rw [hs2]; rfl) (by decide) ?_
    refine lv_aload_n hx hb dX9_drawAct_65 rfl (lv_at hl 0 rfl) ?_
    refine gX9_36 C hM (xoS hT ho) (f := (2, 9)) rfl (v := .ref (E.2.1.2.1 9)) rfl dX9_drawAct_66 ?_
    refine gX9_52 C hT hM (xt_9 hT) (f := (0, 0)) rfl (v := .int (q3.2.1 9 1)) rfl dX9_drawAct_69 ?_
    refine lv_if_le (tgt := 149) hx hb dX9_drawAct_72 (by decide) (fun hc72 => ?_) (fun hc72 => ?_)
    · replace hf := mx_ift hc72 hf
      exact mx_vret C hM hf dX9_drawAct_149
    · replace hf := mx_iff hc72 hf
      refine lv_aload_n hx hb dX9_drawAct_75 rfl (lv_at hl 0 rfl) ?_
      refine lv_aload_n hx hb dX9_drawAct_76 rfl (lv_at hl 0 rfl) ?_
      refine gX9_36 C hM (xoS hT ho) (f := (2, 9)) rfl (v := .ref (E.2.1.2.1 9)) rfl dX9_drawAct_77 ?_
      refine gX9_52 C hT hM (xt_9 hT) (f := (0, 0)) rfl (v := .int (q3.2.1 9 1)) rfl dX9_drawAct_80 ?_
      obtain ⟨q83, hq83, hf⟩ := mx_bd hf
      refine mx_callV C hM hl.1 yo_X9_draw (h' := 0) (by decide) qw_1071 qw_1073 qs_84 (ci := 9) (q := (RX9, TX9, 13)) rfl (xoS hT ho) (As := [.int (q3.2.1 9 1)]) (rest := []) (st1 := [.int q83.1]) (kX9_draw C.2.2.2.1 o (q3.2.1 9 1) hT ho q3.2 hq83) rfl rfl rfl (Nat.le_of_ble_eq_true rfl) dX9_drawAct_83 (fun H locs hM => ?_)
      refine lv_istore (lv' := [(4, .int q83.1), (0, .ref (E.2.1.2.1 o)), (1, .int i1)]) hx hb dX9_drawAct_86 hl (by decide) rfl (fun ls hl => ?_)
      refine lv_aload_n hx hb dX9_drawAct_88 rfl (lv_at hl 1 rfl) ?_
      refine lv_iload_n hx hb dX9_drawAct_89 rfl (lv_at hl 2 rfl) ?_
      refine lv_iload hx hb dX9_drawAct_90 (lv_at hl 0 rfl) ?_
      refine lv_aload_n hx hb dX9_drawAct_92 rfl (lv_at hl 1 rfl) ?_
      refine lv_aload_n hx hb dX9_drawAct_93 rfl (lv_at hl 1 rfl) ?_
      refine gX9_36 C hM (xoS hT ho) (f := (2, 9)) rfl (v := .ref (E.2.1.2.1 9)) rfl dX9_drawAct_94 ?_
      refine gX9_40 C hT hM (xt_9 hT) (f := (0, 0)) rfl (v := .int (q83.2.1 9 0)) rfl dX9_drawAct_97 ?_
      obtain ⟨q100, hq100, hf⟩ := mx_bd hf
      refine mx_callV C hM hl.1 yo_X9_draw (h' := 0) (by decide) qw_1071 qw_1073 qs_84 (ci := 9) (q := (RX9, TX9, 13)) rfl (xoS hT ho) (As := [.int (q83.2.1 9 0)]) (rest := [.int q83.1, .int i1, .ref (E.2.1.2.1 o)]) (st1 := [.int q100.1, .int q83.1, .int i1, .ref (E.2.1.2.1 o)]) (kX9_draw C.2.2.2.1 o (q83.2.1 9 0) hT ho q83.2 hq100) rfl rfl rfl (Nat.le_of_ble_eq_true rfl) dX9_drawAct_100 (fun H locs hM => ?_)
      obtain ⟨q103, hq103, hf⟩ := mx_bd hf
      refine mx_callV C hM hl.1 yo_X9_passOn (h' := 3) (by decide) qw_1077 qw_728 qs_45 (ci := 9) (q := (RX9, TX9, 13)) rfl (xoS hT ho) (As := [.int i1, .int q83.1, .int q100.1]) (rest := []) (st1 := [.int q103.1]) (kX9_passOn C.2.2.2.1 o i1 q83.1 q100.1 hT ho q100.2 hq103) rfl rfl rfl (Nat.le_of_ble_eq_true rfl) dX9_drawAct_103 (fun H locs hM => ?_)
      refine lv_pop hx hb dX9_drawAct_106 rfl ?_
      refine lv_goto (tgt := 149) hx hb dX9_drawAct_107 (by decide) ?_
      exact mx_vret C hM hf dX9_drawAct_149
  replace hf := mx_iff hs2 hf
  by_cases hs3 : q3.1 = 3
  · replace hf := mx_ift hs3 hf
    refine lv_tableIn (tgt := 110) hx hb dX9_drawAct_6 (by rw [hs3]; decide) (by rw [hs3]; decide) (by rw [hs3]; rfl) (by decide) ?_
    refine lv_aload_n hx hb dX9_drawAct_110 rfl (lv_at hl 0 rfl) ?_
    refine gX9_36 C hM (xoS hT ho) (f := (2, 9)) rfl (v := .ref (E.2.1.2.1 9)) rfl dX9_drawAct_111 ?_
    refine gX9_52 C hT hM (xt_9 hT) (f := (0, 0)) rfl (v := .int (q3.2.1 9 1)) rfl dX9_drawAct_114 ?_
    refine lv_if_le (tgt := 149) hx hb dX9_drawAct_117 (by decide) (fun hc117 => ?_) (fun hc117 => ?_)
    · replace hf := mx_ift hc117 hf
      exact mx_vret C hM hf dX9_drawAct_149
    · replace hf := mx_iff hc117 hf
      refine lv_aload_n hx hb dX9_drawAct_120 rfl (lv_at hl 0 rfl) ?_
      refine lv_iload_n hx hb dX9_drawAct_121 rfl (lv_at hl 1 rfl) ?_
      refine lv_aload_n hx hb dX9_drawAct_122 rfl (lv_at hl 0 rfl) ?_
      refine lv_aload_n hx hb dX9_drawAct_123 rfl (lv_at hl 0 rfl) ?_
      refine gX9_36 C hM (xoS hT ho) (f := (2, 9)) rfl (v := .ref (E.2.1.2.1 9)) rfl dX9_drawAct_124 ?_
      refine gX9_52 C hT hM (xt_9 hT) (f := (0, 0)) rfl (v := .int (q3.2.1 9 1)) rfl dX9_drawAct_127 ?_
      obtain ⟨q130, hq130, hf⟩ := mx_bd hf
      refine mx_callV C hM hl.1 yo_X9_draw (h' := 0) (by decide) qw_1071 qw_1073 qs_84 (ci := 9) (q := (RX9, TX9, 13)) rfl (xoS hT ho) (As := [.int (q3.2.1 9 1)]) (rest := [.int i1, .ref (E.2.1.2.1 o)]) (st1 := [.int q130.1, .int i1, .ref (E.2.1.2.1 o)]) (kX9_draw C.2.2.2.1 o (q3.2.1 9 1) hT ho q3.2 hq130) rfl rfl rfl (Nat.le_of_ble_eq_true rfl) dX9_drawAct_130 (fun H locs hM => ?_)
      obtain ⟨q133, hq133, hf⟩ := mx_bd hf
      refine mx_callV C hM hl.1 yo_X9_putOn (h' := 1) (by decide) qw_1078 qw_744 qs_48 (ci := 9) (q := (RX9, TX9, 13)) rfl (xoS hT ho) (As := [.int i1, .int q130.1]) (rest := []) (st1 := [.int q133.1]) (kX9_putOn C.2.2.2.1 o i1 q130.1 hT ho q130.2 hq133) rfl rfl rfl (Nat.le_of_ble_eq_true rfl) dX9_drawAct_133 (fun H locs hM => ?_)
      refine lv_pop hx hb dX9_drawAct_136 rfl ?_
      refine lv_goto (tgt := 149) hx hb dX9_drawAct_137 (by decide) ?_
      exact mx_vret C hM hf dX9_drawAct_149
  replace hf := mx_iff hs3 hf
  by_cases hs4 : q3.1 = 4
  · replace hf := mx_ift hs4 hf
    refine lv_tableIn (tgt := 140) hx hb dX9_drawAct_6 (by rw [hs4]; decide) (by rw [hs4]; decide) (by rw [hs4]; rfl) (by decide) ?_
    refine lv_aload_n hx hb dX9_drawAct_140 rfl (lv_at hl 0 rfl) ?_
    refine lv_iload_n hx hb dX9_drawAct_141 rfl (lv_at hl 1 rfl) ?_
    obtain ⟨q142, hq142, hf⟩ := mx_bd hf
    refine mx_callV C hM hl.1 yo_X9_takeOff (h' := 1) (by decide) qw_1079 qw_757 qs_50 (ci := 9) (q := (RX9, TX9, 13)) rfl (xoS hT ho) (As := [.int i1]) (rest := []) (st1 := [.int q142.1]) (kX9_takeOff C.2.2.2.1 o i1 hT ho q3.2 hq142) rfl rfl rfl (Nat.le_of_ble_eq_true rfl) dX9_drawAct_142 (fun H locs hM => ?_)
    refine lv_pop hx hb dX9_drawAct_145 rfl ?_
    refine lv_goto (tgt := 149) hx hb dX9_drawAct_146 (by decide) ?_
    exact mx_vret C hM hf dX9_drawAct_149
  replace hf := mx_iff hs4 hf
  refine lv_tableOut (tgt := 149) hx hb dX9_drawAct_6 (by have hh := And.intro trivial trivial; have hh0 := lv_neT hs0 (by decide : (0 : Int32).toInt = 0); have hh1 := lv_neT hs1 (by decide : (1 : Int32).toInt = 1); have hh2 := lv_neT hs2 (by decide : (2 : Int32).toInt = 2); have hh3 := lv_neT hs3 (by decide : (3 : Int32).toInt = 3); have hh4 := lv_neT hs4 (by decide : (4 : Int32).toInt = 4); omega) (by decide) ?_
  exact mx_vret C hM hf dX9_drawAct_149
theorem dX9_drawDays_0 : decode cX9_drawDays 0 = .ok (.aload_n 0, 1) := by decide +kernel
theorem dX9_drawDays_1 : decode cX9_drawDays 1 = .ok (.iload_n 2, 1) := by decide +kernel
theorem dX9_drawDays_2 : decode cX9_drawDays 2 = .ok (.putfield 138, 3) := by decide +kernel
theorem dX9_drawDays_5 : decode cX9_drawDays 5 = .ok (.iconst 0, 1) := by decide +kernel
theorem dX9_drawDays_6 : decode cX9_drawDays 6 = .ok (.istore_n 3, 1) := by decide +kernel
theorem dX9_drawDays_7 : decode cX9_drawDays 7 = .ok (.iload_n 3, 1) := by decide +kernel
theorem dX9_drawDays_8 : decode cX9_drawDays 8 = .ok (.iload_n 1, 1) := by decide +kernel
theorem dX9_drawDays_9 : decode cX9_drawDays 9 = .ok (.if_icmp .ge 50, 3) := by decide +kernel
theorem dX9_drawDays_12 : decode cX9_drawDays 12 = .ok (.aload_n 0, 1) := by decide +kernel
theorem dX9_drawDays_13 : decode cX9_drawDays 13 = .ok (.getfield 58, 3) := by decide +kernel
theorem dX9_drawDays_16 : decode cX9_drawDays 16 = .ok (.sipush 400, 3) := by decide +kernel
theorem dX9_drawDays_19 : decode cX9_drawDays 19 = .ok (.if_icmp .ge 40, 3) := by decide +kernel
theorem dX9_drawDays_22 : decode cX9_drawDays 22 = .ok (.iconst 0, 1) := by decide +kernel
theorem dX9_drawDays_23 : decode cX9_drawDays 23 = .ok (.istore 4, 2) := by decide +kernel
theorem dX9_drawDays_25 : decode cX9_drawDays 25 = .ok (.iload 4, 2) := by decide +kernel
theorem dX9_drawDays_27 : decode cX9_drawDays 27 = .ok (.aload_n 0, 1) := by decide +kernel
theorem dX9_drawDays_28 : decode cX9_drawDays 28 = .ok (.getfield 36, 3) := by decide +kernel
theorem dX9_drawDays_31 : decode cX9_drawDays 31 = .ok (.getfield 40, 3) := by decide +kernel
theorem dX9_drawDays_34 : decode cX9_drawDays 34 = .ok (.if_icmp .ge 15, 3) := by decide +kernel
theorem dX9_drawDays_37 : decode cX9_drawDays 37 = .ok (.aload_n 0, 1) := by decide +kernel
theorem dX9_drawDays_38 : decode cX9_drawDays 38 = .ok (.iload 4, 2) := by decide +kernel
theorem dX9_drawDays_40 : decode cX9_drawDays 40 = .ok (.invokevirtual 141, 3) := by decide +kernel
theorem dX9_drawDays_43 : decode cX9_drawDays 43 = .ok (.iinc 4 1, 3) := by decide +kernel
theorem dX9_drawDays_46 : decode cX9_drawDays 46 = .ok (.goto (-21), 3) := by decide +kernel
theorem dX9_drawDays_49 : decode cX9_drawDays 49 = .ok (.aload_n 0, 1) := by decide +kernel
theorem dX9_drawDays_50 : decode cX9_drawDays 50 = .ok (.invokevirtual 114, 3) := by decide +kernel
theorem dX9_drawDays_53 : decode cX9_drawDays 53 = .ok (.iinc 3 1, 3) := by decide +kernel
theorem dX9_drawDays_56 : decode cX9_drawDays 56 = .ok (.goto (-49), 3) := by decide +kernel
theorem dX9_drawDays_59 : decode cX9_drawDays 59 = .ok (.iload_n 3, 1) := by decide +kernel
theorem dX9_drawDays_60 : decode cX9_drawDays 60 = .ok (.ireturn, 1) := by decide +kernel
set_option maxRecDepth 100000 in
set_option maxHeartbeats 4000000 in
theorem wfX9_drawDays_25 {E : KE} {p : Program} {l : Launch} {e : Env} {s : State} {m : MethodId} {args : Array Value} {below : List Frame} {meth : Method} {c : Code} {q : (Int32 × MM)} (C : mx_C E p m c cX9_drawDays 5 s args RX9 meth (some .int)) (o : Nat) (i1 : Int32) (i2 : Int32) (hT : xOK E) (ho : xt_isS o = true)  (k7 : Int32 → MM → Option (Int32 × MM)) (hk7 : ∀ (i3 : Int32) (M : MM) (H : Heap) (locs : List Loc) (ls : Array Slot), k7 i3 M = some q → mx_H E s M H locs → lv_has ls 5 [(0, .ref (E.2.1.2.1 o)), (1, .int i1), (3, .int i3)] → W p l e (mx_rm 5) s m args below meth c H locs 0 0 (mx_Z E below args s (some (.int q.1)) q.2) (F0 m 7 ls [])) : ∀ (n : Nat) (i3 : Int32) (i4 : Int32) (M : MM) (H : Heap) (locs : List Loc) (ls : Array Slot), fX9_drawDays_25 o i1 i2 k7 n i3 i4 M = some q → mx_H E s M H locs → lv_has ls 5 [(0, .ref (E.2.1.2.1 o)), (1, .int i1), (3, .int i3), (4, .int i4)] → W p l e (mx_rm 5) s m args below meth c H locs 0 0 (mx_Z E below args s (some (.int q.1)) q.2) (F0 m 25 ls []) := by
  have hx := C.1.1
  have hb := C.1.2.1
  have hown := C.1.2.2.2.1
  have hts := C.1.2.2.2.2
  intro n
  induction n with
  | zero =>
    intro i3 i4 M H locs ls hf hM hl
    rw [fX9_drawDays_25] at hf
    cases hf
  | succ n ih =>
    intro i3 i4 M H locs ls hf hM hl
    rw [fX9_drawDays_25] at hf
    refine lv_iload hx hb dX9_drawDays_25 (lv_at hl 3 rfl) ?_
    refine lv_aload_n hx hb dX9_drawDays_27 rfl (lv_at hl 0 rfl) ?_
    refine gX9_36 C hM (xoS hT ho) (f := (2, 9)) rfl (v := .ref (E.2.1.2.1 9)) rfl dX9_drawDays_28 ?_
    refine gX9_40 C hT hM (xt_9 hT) (f := (0, 0)) rfl (v := .int (M.1 9 0)) rfl dX9_drawDays_31 ?_
    refine lv_icmp_ge (tgt := 49) hx hb dX9_drawDays_34 (by decide) (fun hc34 => ?_) (fun hc34 => ?_)
    · replace hf := mx_ift hc34 hf
      refine lv_aload_n hx hb dX9_drawDays_49 rfl (lv_at hl 0 rfl) ?_
      obtain ⟨q50, hq50, hf⟩ := mx_bd hf
      refine mx_callV C hM hl.1 yo_X9_passDay (h' := 2) (by decide) qw_775 qw_777 qs_53 (ci := 9) (q := (RX9, TX9, 13)) rfl (xoS hT ho) (As := []) (rest := []) (st1 := []) (kX9_passDay C.2.2.2.1 o hT ho M hq50) rfl rfl rfl (Nat.le_of_ble_eq_true rfl) dX9_drawDays_50 (fun H locs hM => ?_)
      refine lv_iinc (v := (i3 + (1 : Int32))) (lv' := [(3, .int (i3 + (1 : Int32))), (0, .ref (E.2.1.2.1 o)), (1, .int i1), (4, .int i4)]) hx hb dX9_drawDays_53 hl (k := 2) rfl rfl (by decide) rfl (fun ls hl => ?_)
      refine lv_goto (tgt := 7) hx hb dX9_drawDays_56 (by decide) ?_
      exact hk7 (i3 + (1 : Int32)) q50 _ _ _ hf hM (lv_sub hl [1, 2, 0] rfl)
    · replace hf := mx_iff hc34 hf
      refine lv_aload_n hx hb dX9_drawDays_37 rfl (lv_at hl 0 rfl) ?_
      refine lv_iload hx hb dX9_drawDays_38 (lv_at hl 3 rfl) ?_
      obtain ⟨q40, hq40, hf⟩ := mx_bd hf
      refine mx_callV C hM hl.1 yo_X9_drawAct (h' := 4) (by decide) qw_1067 qw_1069 qs_83 (ci := 9) (q := (RX9, TX9, 13)) rfl (xoS hT ho) (As := [.int i4]) (rest := []) (st1 := []) (kX9_drawAct C.2.2.2.1 o i4 hT ho M hq40) rfl rfl rfl (Nat.le_of_ble_eq_true rfl) dX9_drawDays_40 (fun H locs hM => ?_)
      refine lv_iinc (v := (i4 + (1 : Int32))) (lv' := [(4, .int (i4 + (1 : Int32))), (0, .ref (E.2.1.2.1 o)), (1, .int i1), (3, .int i3)]) hx hb dX9_drawDays_43 hl (k := 3) rfl rfl (by decide) rfl (fun ls hl => ?_)
      refine lv_goto (tgt := 25) hx hb dX9_drawDays_46 (by decide) ?_
      exact ih i3 (i4 + (1 : Int32)) q40 _ _ _ hf hM (lv_sub hl [1, 2, 3, 0] rfl)
set_option maxRecDepth 100000 in
set_option maxHeartbeats 4000000 in
theorem wfX9_drawDays_7 {E : KE} {p : Program} {l : Launch} {e : Env} {s : State} {m : MethodId} {args : Array Value} {below : List Frame} {meth : Method} {c : Code} {q : (Int32 × MM)} (C : mx_C E p m c cX9_drawDays 5 s args RX9 meth (some .int)) (o : Nat) (i1 : Int32) (i2 : Int32) (hT : xOK E) (ho : xt_isS o = true)   : ∀ (n : Nat) (i3 : Int32) (M : MM) (H : Heap) (locs : List Loc) (ls : Array Slot), fX9_drawDays_7 o i1 i2 n i3 M = some q → mx_H E s M H locs → lv_has ls 5 [(0, .ref (E.2.1.2.1 o)), (1, .int i1), (3, .int i3)] → W p l e (mx_rm 5) s m args below meth c H locs 0 0 (mx_Z E below args s (some (.int q.1)) q.2) (F0 m 7 ls []) := by
  have hx := C.1.1
  have hb := C.1.2.1
  have hown := C.1.2.2.2.1
  have hts := C.1.2.2.2.2
  intro n
  induction n with
  | zero =>
    intro i3 M H locs ls hf hM hl
    rw [fX9_drawDays_7] at hf
    cases hf
  | succ n ih =>
    intro i3 M H locs ls hf hM hl
    rw [fX9_drawDays_7] at hf
    refine lv_iload_n hx hb dX9_drawDays_7 rfl (lv_at hl 2 rfl) ?_
    refine lv_iload_n hx hb dX9_drawDays_8 rfl (lv_at hl 1 rfl) ?_
    refine lv_icmp_ge (tgt := 59) hx hb dX9_drawDays_9 (by decide) (fun hc9 => ?_) (fun hc9 => ?_)
    · replace hf := mx_ift hc9 hf
      refine lv_iload_n hx hb dX9_drawDays_59 rfl (lv_at hl 2 rfl) ?_
      exact mx_iret C hM hf dX9_drawDays_60
    · replace hf := mx_iff hc9 hf
      refine lv_aload_n hx hb dX9_drawDays_12 rfl (lv_at hl 0 rfl) ?_
      refine gX9_58 C hM (xoS hT ho) (f := (0, 0)) rfl (v := .int (M.1 o 9)) rfl dX9_drawDays_13 ?_
      refine lv_sipush (v := (400 : Int32)) hx hb dX9_drawDays_16 (by decide) ?_
      refine lv_icmp_ge (tgt := 59) hx hb dX9_drawDays_19 (by decide) (fun hc19 => ?_) (fun hc19 => ?_)
      · replace hf := mx_ift hc19 hf
        refine lv_iload_n hx hb dX9_drawDays_59 rfl (lv_at hl 2 rfl) ?_
        exact mx_iret C hM hf dX9_drawDays_60
      · replace hf := mx_iff hc19 hf
        refine lv_iconst (v := (0 : Int32)) hx hb dX9_drawDays_22 (by decide) ?_
        refine lv_istore (lv' := [(4, .int (0 : Int32)), (0, .ref (E.2.1.2.1 o)), (1, .int i1), (3, .int i3)]) hx hb dX9_drawDays_23 hl (by decide) rfl (fun ls hl => ?_)
        exact wfX9_drawDays_25 C o i1 i2 hT ho (fX9_drawDays_7 o i1 i2 n) ih mx_fu i3 (0 : Int32) M _ _ _ hf hM (lv_sub hl [1, 2, 3, 0] rfl)
set_option maxRecDepth 100000 in
set_option maxHeartbeats 4000000 in
theorem kX9_drawDays {E : KE} {l : Launch} (hE : mx_ok E) (o : Nat) (i1 : Int32) (i2 : Int32) (hT : xOK E) (ho : xt_isS o = true) (M : MM) {q : (Int32 × MM)} (hf : fX9_drawDays o i1 i2 M = some q) : mx_Met E l yX9_drawDays cX9_drawDays 5 (some .int) 5 [.ref (E.2.1.2.1 o), .int i1, .int i2] M (some (.int q.1)) q.2 := by
  refine mx_enter hE (by decide) (Nat.le_of_ble_eq_true rfl) ?_
  intro p e s m below meth c C hM hn ls hl
  have hx := C.1.1
  have hb := C.1.2.1
  have hown := C.1.2.2.2.1
  have hts := C.1.2.2.2.2
  have hl : lv_has ls 5 [(0, .ref (E.2.1.2.1 o)), (1, .int i1), (2, .int i2)] := hl
  rw [fX9_drawDays] at hf
  refine lv_aload_n hx hb dX9_drawDays_0 rfl (lv_at hl 0 rfl) ?_
  refine lv_iload_n hx hb dX9_drawDays_1 rfl (lv_at hl 2 rfl) ?_
  refine pX9_138 C hM (xoS hT ho) rfl rfl rfl dX9_drawDays_2 (fun H locs hM => ?_)
  refine lv_iconst (v := (0 : Int32)) hx hb dX9_drawDays_5 (by decide) ?_
  refine lv_istore_n (lv' := [(3, .int (0 : Int32)), (0, .ref (E.2.1.2.1 o)), (1, .int i1), (2, .int i2)]) hx hb dX9_drawDays_6 rfl hl (by decide) rfl (fun ls hl => ?_)
  exact wfX9_drawDays_7 C o i1 i2 hT ho mx_fu (0 : Int32) (mx_si M o 12 i2) _ _ _ hf hM (lv_sub hl [1, 2, 0] rfl)
theorem dX9_daysTillMet_0 : decode cX9_daysTillMet 0 = .ok (.aload_n 0, 1) := by decide +kernel
theorem dX9_daysTillMet_1 : decode cX9_daysTillMet 1 = .ok (.getfield 36, 3) := by decide +kernel
theorem dX9_daysTillMet_4 : decode cX9_daysTillMet 4 = .ok (.getfield 120, 3) := by decide +kernel
theorem dX9_daysTillMet_7 : decode cX9_daysTillMet 7 = .ok (.iload_n 1, 1) := by decide +kernel
theorem dX9_daysTillMet_8 : decode cX9_daysTillMet 8 = .ok (.iaload, 1) := by decide +kernel
theorem dX9_daysTillMet_9 : decode cX9_daysTillMet 9 = .ok (.istore_n 2, 1) := by decide +kernel
theorem dX9_daysTillMet_10 : decode cX9_daysTillMet 10 = .ok (.aload_n 0, 1) := by decide +kernel
theorem dX9_daysTillMet_11 : decode cX9_daysTillMet 11 = .ok (.iload_n 2, 1) := by decide +kernel
theorem dX9_daysTillMet_12 : decode cX9_daysTillMet 12 = .ok (.aload_n 0, 1) := by decide +kernel
theorem dX9_daysTillMet_13 : decode cX9_daysTillMet 13 = .ok (.iload_n 1, 1) := by decide +kernel
theorem dX9_daysTillMet_14 : decode cX9_daysTillMet 14 = .ok (.invokevirtual 161, 3) := by decide +kernel
theorem dX9_daysTillMet_17 : decode cX9_daysTillMet 17 = .ok (.aload_n 0, 1) := by decide +kernel
theorem dX9_daysTillMet_18 : decode cX9_daysTillMet 18 = .ok (.iload_n 1, 1) := by decide +kernel
theorem dX9_daysTillMet_19 : decode cX9_daysTillMet 19 = .ok (.invokevirtual 164, 3) := by decide +kernel
theorem dX9_daysTillMet_22 : decode cX9_daysTillMet 22 = .ok (.invokevirtual 97, 3) := by decide +kernel
theorem dX9_daysTillMet_25 : decode cX9_daysTillMet 25 = .ok (.istore_n 3, 1) := by decide +kernel
theorem dX9_daysTillMet_26 : decode cX9_daysTillMet 26 = .ok (.aload_n 0, 1) := by decide +kernel
theorem dX9_daysTillMet_27 : decode cX9_daysTillMet 27 = .ok (.getfield 24, 3) := by decide +kernel
theorem dX9_daysTillMet_30 : decode cX9_daysTillMet 30 = .ok (.iload_n 1, 1) := by decide +kernel
theorem dX9_daysTillMet_31 : decode cX9_daysTillMet 31 = .ok (.iaload, 1) := by decide +kernel
theorem dX9_daysTillMet_32 : decode cX9_daysTillMet 32 = .ok (.iconst 2, 1) := by decide +kernel
theorem dX9_daysTillMet_33 : decode cX9_daysTillMet 33 = .ok (.if_icmp .ne 13, 3) := by decide +kernel
theorem dX9_daysTillMet_36 : decode cX9_daysTillMet 36 = .ok (.aload_n 0, 1) := by decide +kernel
theorem dX9_daysTillMet_37 : decode cX9_daysTillMet 37 = .ok (.getfield 36, 3) := by decide +kernel
theorem dX9_daysTillMet_40 : decode cX9_daysTillMet 40 = .ok (.getfield 76, 3) := by decide +kernel
theorem dX9_daysTillMet_43 : decode cX9_daysTillMet 43 = .ok (.goto 12, 3) := by decide +kernel
theorem dX9_daysTillMet_46 : decode cX9_daysTillMet 46 = .ok (.iconst 2, 1) := by decide +kernel
theorem dX9_daysTillMet_47 : decode cX9_daysTillMet 47 = .ok (.aload_n 0, 1) := by decide +kernel
theorem dX9_daysTillMet_48 : decode cX9_daysTillMet 48 = .ok (.getfield 36, 3) := by decide +kernel
theorem dX9_daysTillMet_51 : decode cX9_daysTillMet 51 = .ok (.getfield 76, 3) := by decide +kernel
theorem dX9_daysTillMet_54 : decode cX9_daysTillMet 54 = .ok (.imul, 1) := by decide +kernel
theorem dX9_daysTillMet_55 : decode cX9_daysTillMet 55 = .ok (.istore 4, 2) := by decide +kernel
theorem dX9_daysTillMet_57 : decode cX9_daysTillMet 57 = .ok (.iload_n 3, 1) := by decide +kernel
theorem dX9_daysTillMet_58 : decode cX9_daysTillMet 58 = .ok (.ifCond .eq 9, 3) := by decide +kernel
theorem dX9_daysTillMet_61 : decode cX9_daysTillMet 61 = .ok (.iload 4, 2) := by decide +kernel
theorem dX9_daysTillMet_63 : decode cX9_daysTillMet 63 = .ok (.iconst 1, 1) := by decide +kernel
theorem dX9_daysTillMet_64 : decode cX9_daysTillMet 64 = .ok (.if_icmp .ge 7, 3) := by decide +kernel
theorem dX9_daysTillMet_67 : decode cX9_daysTillMet 67 = .ok (.iconst 0, 1) := by decide +kernel
theorem dX9_daysTillMet_68 : decode cX9_daysTillMet 68 = .ok (.goto 9, 3) := by decide +kernel
theorem dX9_daysTillMet_71 : decode cX9_daysTillMet 71 = .ok (.iload_n 3, 1) := by decide +kernel
theorem dX9_daysTillMet_72 : decode cX9_daysTillMet 72 = .ok (.iconst 1, 1) := by decide +kernel
theorem dX9_daysTillMet_73 : decode cX9_daysTillMet 73 = .ok (.isub, 1) := by decide +kernel
theorem dX9_daysTillMet_74 : decode cX9_daysTillMet 74 = .ok (.iload 4, 2) := by decide +kernel
theorem dX9_daysTillMet_76 : decode cX9_daysTillMet 76 = .ok (.idiv, 1) := by decide +kernel
theorem dX9_daysTillMet_77 : decode cX9_daysTillMet 77 = .ok (.ireturn, 1) := by decide +kernel
set_option maxRecDepth 100000 in
set_option maxHeartbeats 4000000 in
theorem wfX9_daysTillMet_55 {E : KE} {p : Program} {l : Launch} {e : Env} {s : State} {m : MethodId} {args : Array Value} {below : List Frame} {meth : Method} {c : Code} {q : Int32} (C : mx_C E p m c cX9_daysTillMet 5 s args RX9 meth (some .int)) (i1 : Int32) (M : MM) (hT : xOK E)   : ∀ (i3 : Int32) (is0 : Int32) (H : Heap) (locs : List Loc) (ls : Array Slot), fX9_daysTillMet_55 i1 M i3 is0 = some q → mx_H E s M H locs → lv_has ls 5 [(3, .int i3)] → W p l e (mx_rm 2) s m args below meth c H locs 0 0 (mx_Z E below args s (some (.int q)) M) (F0 m 55 ls [.int is0]) := by
  have hx := C.1.1
  have hb := C.1.2.1
  have hown := C.1.2.2.2.1
  have hts := C.1.2.2.2.2
  intro i3 is0 H locs ls hf hM hl
  rw [fX9_daysTillMet_55] at hf
  refine lv_istore (lv' := [(4, .int is0), (3, .int i3)]) hx hb dX9_daysTillMet_55 hl (by decide) rfl (fun ls hl => ?_)
  refine lv_iload_n hx hb dX9_daysTillMet_57 rfl (lv_at hl 1 rfl) ?_
  refine lv_if_eq (tgt := 67) hx hb dX9_daysTillMet_58 (by decide) (fun hc58 => ?_) (fun hc58 => ?_)
  · replace hf := mx_ift hc58 hf
    refine lv_iconst (v := (0 : Int32)) hx hb dX9_daysTillMet_67 (by decide) ?_
    refine lv_goto (tgt := 77) hx hb dX9_daysTillMet_68 (by decide) ?_
    exact mx_iretR C hM hf dX9_daysTillMet_77
  · replace hf := mx_iff hc58 hf
    refine lv_iload hx hb dX9_daysTillMet_61 (lv_at hl 0 rfl) ?_
    refine lv_iconst (v := (1 : Int32)) hx hb dX9_daysTillMet_63 (by decide) ?_
    refine lv_icmp_ge (tgt := 71) hx hb dX9_daysTillMet_64 (by decide) (fun hc64 => ?_) (fun hc64 => ?_)
    · replace hf := mx_ift hc64 hf
      refine lv_iload_n hx hb dX9_daysTillMet_71 rfl (lv_at hl 1 rfl) ?_
      refine lv_iconst (v := (1 : Int32)) hx hb dX9_daysTillMet_72 (by decide) ?_
      refine lv_isub hx hb dX9_daysTillMet_73 ?_
      refine lv_iload hx hb dX9_daysTillMet_74 (lv_at hl 0 rfl) ?_
      obtain ⟨hz76, hf⟩ := mx_gn hf
      refine lv_idiv hx hb dX9_daysTillMet_76 hz76 ?_
      exact mx_iretR C hM hf dX9_daysTillMet_77
    · replace hf := mx_iff hc64 hf
      refine lv_iconst (v := (0 : Int32)) hx hb dX9_daysTillMet_67 (by decide) ?_
      refine lv_goto (tgt := 77) hx hb dX9_daysTillMet_68 (by decide) ?_
      exact mx_iretR C hM hf dX9_daysTillMet_77
set_option maxRecDepth 100000 in
set_option maxHeartbeats 4000000 in
theorem kX9_daysTillMet {E : KE} {l : Launch} (hE : mx_ok E) (i1 : Int32) (hT : xOK E) (M : MM) {q : Int32} (hf : fX9_daysTillMet i1 M = some q) : mx_Met E l yX9_daysTillMet cX9_daysTillMet 5 (some .int) 2 [.ref (E.2.1.2.1 29), .int i1] M (some (.int q)) M := by
  refine mx_enter hE (by decide) (Nat.le_of_ble_eq_true rfl) ?_
  intro p e s m below meth c C hM hn ls hl
  have hx := C.1.1
  have hb := C.1.2.1
  have hown := C.1.2.2.2.1
  have hts := C.1.2.2.2.2
  have hl : lv_has ls 5 [(0, .ref (E.2.1.2.1 29)), (1, .int i1)] := hl
  rw [fX9_daysTillMet] at hf
  refine lv_aload_n hx hb dX9_daysTillMet_0 rfl (lv_at hl 0 rfl) ?_
  refine gX9_36 C hM (xt_29 hT) (f := (2, 9)) rfl (v := .ref (E.2.1.2.1 9)) rfl dX9_daysTillMet_1 ?_
  refine gX9_120 C hT hM (xt_9 hT) (f := (2, 16)) rfl (v := .ref (E.2.1.2.1 16)) rfl dX9_daysTillMet_4 ?_
  refine lv_iload_n hx hb dX9_daysTillMet_7 rfl (lv_at hl 1 rfl) ?_
  obtain ⟨hg8, hf⟩ := mx_gd hf
  refine mx_iald C hM (xt_16 hT) (mx_in_vp hg8) dX9_daysTillMet_8 ?_
  refine lv_istore_n (lv' := [(2, .int (M.1 16 i1.toNatClampNeg)), (0, .ref (E.2.1.2.1 29)), (1, .int i1)]) hx hb dX9_daysTillMet_9 rfl hl (by decide) rfl (fun ls hl => ?_)
  refine lv_aload_n hx hb dX9_daysTillMet_10 rfl (lv_at hl 1 rfl) ?_
  refine lv_iload_n hx hb dX9_daysTillMet_11 rfl (lv_at hl 0 rfl) ?_
  refine lv_aload_n hx hb dX9_daysTillMet_12 rfl (lv_at hl 1 rfl) ?_
  refine lv_iload_n hx hb dX9_daysTillMet_13 rfl (lv_at hl 2 rfl) ?_
  obtain ⟨q14, hq14, hf⟩ := mx_bd hf
  refine mx_callV C hM hl.1 yo_X9_ringX (h' := 1) (by decide) qw_813 qw_815 qs_59 (ci := 9) (q := (RX9, TX9, 13)) rfl (xt_29 hT) (As := [.int i1]) (rest := [.int (M.1 16 i1.toNatClampNeg), .ref (E.2.1.2.1 29)]) (st1 := [.int q14, .int (M.1 16 i1.toNatClampNeg), .ref (E.2.1.2.1 29)]) (kX9_ringX C.2.2.2.1 i1 hT M hq14) rfl rfl rfl (Nat.le_of_ble_eq_true rfl) dX9_daysTillMet_14 (fun H locs hM => ?_)
  refine lv_aload_n hx hb dX9_daysTillMet_17 rfl (lv_at hl 1 rfl) ?_
  refine lv_iload_n hx hb dX9_daysTillMet_18 rfl (lv_at hl 2 rfl) ?_
  obtain ⟨q19, hq19, hf⟩ := mx_bd hf
  refine mx_callV C hM hl.1 yo_X9_ringY (h' := 1) (by decide) qw_818 qw_820 qs_60 (ci := 9) (q := (RX9, TX9, 13)) rfl (xt_29 hT) (As := [.int i1]) (rest := [.int q14, .int (M.1 16 i1.toNatClampNeg), .ref (E.2.1.2.1 29)]) (st1 := [.int q19, .int q14, .int (M.1 16 i1.toNatClampNeg), .ref (E.2.1.2.1 29)]) (kX9_ringY C.2.2.2.1 i1 hT M hq19) rfl rfl rfl (Nat.le_of_ble_eq_true rfl) dX9_daysTillMet_19 (fun H locs hM => ?_)
  obtain ⟨q22, hq22, hf⟩ := mx_bd hf
  refine mx_callV C hM hl.1 yo_X9_farTo (h' := 1) (by decide) qw_702 qw_704 qs_41 (ci := 9) (q := (RX9, TX9, 13)) rfl (xt_29 hT) (As := [.int (M.1 16 i1.toNatClampNeg), .int q14, .int q19]) (rest := []) (st1 := [.int q22]) (kX9_farTo C.2.2.2.1 29 (M.1 16 i1.toNatClampNeg) q14 q19 hT xiS_29 M hq22) rfl rfl rfl (Nat.le_of_ble_eq_true rfl) dX9_daysTillMet_22 (fun H locs hM => ?_)
  refine lv_istore_n (lv' := [(3, .int q22), (2, .int (M.1 16 i1.toNatClampNeg)), (0, .ref (E.2.1.2.1 29)), (1, .int i1)]) hx hb dX9_daysTillMet_25 rfl hl (by decide) rfl (fun ls hl => ?_)
  refine lv_aload_n hx hb dX9_daysTillMet_26 rfl (lv_at hl 2 rfl) ?_
  refine gX9_24 C hM (xt_29 hT) (f := (2, 34)) rfl (v := .ref (E.2.1.2.1 34)) rfl dX9_daysTillMet_27 ?_
  refine lv_iload_n hx hb dX9_daysTillMet_30 rfl (lv_at hl 3 rfl) ?_
  obtain ⟨hg31, hf⟩ := mx_gd hf
  refine mx_iald C hM (xt_34 hT) (mx_in_vp hg31) dX9_daysTillMet_31 ?_
  refine lv_iconst (v := (2 : Int32)) hx hb dX9_daysTillMet_32 (by decide) ?_
  refine lv_icmp_ne (tgt := 46) hx hb dX9_daysTillMet_33 (by decide) (fun hc33 => ?_) (fun hc33 => ?_)
  · replace hf := mx_iff hc33 hf
    refine lv_iconst (v := (2 : Int32)) hx hb dX9_daysTillMet_46 (by decide) ?_
    refine lv_aload_n hx hb dX9_daysTillMet_47 rfl (lv_at hl 2 rfl) ?_
    refine gX9_36 C hM (xt_29 hT) (f := (2, 9)) rfl (v := .ref (E.2.1.2.1 9)) rfl dX9_daysTillMet_48 ?_
    refine gX9_76 C hT hM (xt_9 hT) (f := (0, 0)) rfl (v := .int (M.1 9 12)) rfl dX9_daysTillMet_51 ?_
    refine lv_imul hx hb dX9_daysTillMet_54 ?_
    exact wfX9_daysTillMet_55 C i1 M hT q22 ((2 : Int32) * (M.1 9 12)) _ _ _ hf hM (lv_sub hl [0] rfl)
  · replace hf := mx_ift hc33 hf
    refine lv_aload_n hx hb dX9_daysTillMet_36 rfl (lv_at hl 2 rfl) ?_
    refine gX9_36 C hM (xt_29 hT) (f := (2, 9)) rfl (v := .ref (E.2.1.2.1 9)) rfl dX9_daysTillMet_37 ?_
    refine gX9_76 C hT hM (xt_9 hT) (f := (0, 0)) rfl (v := .int (M.1 9 12)) rfl dX9_daysTillMet_40 ?_
    refine lv_goto (tgt := 55) hx hb dX9_daysTillMet_43 (by decide) ?_
    exact wfX9_daysTillMet_55 C i1 M hT q22 (M.1 9 12) _ _ _ hf hM (lv_sub hl [0] rfl)
theorem dX10_hasRoom_0 : decode cX10_hasRoom 0 = .ok (.aload_n 0, 1) := by decide +kernel
theorem dX10_hasRoom_1 : decode cX10_hasRoom 1 = .ok (.getfield 15, 3) := by decide +kernel
theorem dX10_hasRoom_4 : decode cX10_hasRoom 4 = .ok (.bipush 20, 2) := by decide +kernel
theorem dX10_hasRoom_6 : decode cX10_hasRoom 6 = .ok (.iadd, 1) := by decide +kernel
theorem dX10_hasRoom_7 : decode cX10_hasRoom 7 = .ok (.sipush 940, 3) := by decide +kernel
theorem dX10_hasRoom_10 : decode cX10_hasRoom 10 = .ok (.if_icmp .gt 7, 3) := by decide +kernel
theorem dX10_hasRoom_13 : decode cX10_hasRoom 13 = .ok (.iconst 1, 1) := by decide +kernel
theorem dX10_hasRoom_14 : decode cX10_hasRoom 14 = .ok (.goto 4, 3) := by decide +kernel
theorem dX10_hasRoom_17 : decode cX10_hasRoom 17 = .ok (.iconst 0, 1) := by decide +kernel
theorem dX10_hasRoom_18 : decode cX10_hasRoom 18 = .ok (.ireturn, 1) := by decide +kernel
set_option maxRecDepth 100000 in
set_option maxHeartbeats 4000000 in
theorem kX10_hasRoom {E : KE} {l : Launch} (hE : mx_ok E)  (hT : xOK E) (M : MM) {q : Bool} (hf : fX10_hasRoom M = some q) : mx_Met E l yX10_hasRoom cX10_hasRoom 1 (some .boolean) 0 [.ref (E.2.1.2.1 1)] M (some (.int (mx_b q))) M := by
  refine mx_enter hE (by decide) (Nat.le_of_ble_eq_true rfl) ?_
  intro p e s m below meth c C hM hn ls hl
  have hx := C.1.1
  have hb := C.1.2.1
  have hown := C.1.2.2.2.1
  have hts := C.1.2.2.2.2
  have hl : lv_has ls 1 [(0, .ref (E.2.1.2.1 1))] := hl
  rw [fX10_hasRoom] at hf
  refine lv_aload_n hx hb dX10_hasRoom_0 rfl (lv_at hl 0 rfl) ?_
  refine gX10_15 C hM (xt_1 hT) (f := (0, 0)) rfl (v := .int (M.1 1 1)) rfl dX10_hasRoom_1 ?_
  refine lv_bipush (v := (20 : Int32)) hx hb dX10_hasRoom_4 (by decide) ?_
  refine lv_iadd hx hb dX10_hasRoom_6 ?_
  refine lv_sipush (v := (940 : Int32)) hx hb dX10_hasRoom_7 (by decide) ?_
  refine lv_icmp_gt (tgt := 17) hx hb dX10_hasRoom_10 (by decide) (fun hc10 => ?_) (fun hc10 => ?_)
  · replace hf := mx_ift hc10 hf
    refine lv_iconst (v := (0 : Int32)) hx hb dX10_hasRoom_17 (by decide) ?_
    exact mx_zretR C hM (b := false) rfl hf dX10_hasRoom_18
  · replace hf := mx_iff hc10 hf
    refine lv_iconst (v := (1 : Int32)) hx hb dX10_hasRoom_13 (by decide) ?_
    refine lv_goto (tgt := 18) hx hb dX10_hasRoom_14 (by decide) ?_
    exact mx_zretR C hM (b := true) rfl hf dX10_hasRoom_18
theorem dX10_add_0 : decode cX10_add 0 = .ok (.bipush 24, 2) := by decide +kernel
theorem dX10_add_2 : decode cX10_add 2 = .ok (.istore_n 2, 1) := by decide +kernel
theorem dX10_add_3 : decode cX10_add 3 = .ok (.iload_n 2, 1) := by decide +kernel
theorem dX10_add_4 : decode cX10_add 4 = .ok (.ifCond .lt 42, 3) := by decide +kernel
theorem dX10_add_7 : decode cX10_add 7 = .ok (.aload_n 0, 1) := by decide +kernel
theorem dX10_add_8 : decode cX10_add 8 = .ok (.getfield 15, 3) := by decide +kernel
theorem dX10_add_11 : decode cX10_add 11 = .ok (.sipush 940, 3) := by decide +kernel
theorem dX10_add_14 : decode cX10_add 14 = .ok (.if_icmp .ge 32, 3) := by decide +kernel
theorem dX10_add_17 : decode cX10_add 17 = .ok (.aload_n 0, 1) := by decide +kernel
theorem dX10_add_18 : decode cX10_add 18 = .ok (.getfield 11, 3) := by decide +kernel
theorem dX10_add_21 : decode cX10_add 21 = .ok (.aload_n 0, 1) := by decide +kernel
theorem dX10_add_22 : decode cX10_add 22 = .ok (.getfield 15, 3) := by decide +kernel
theorem dX10_add_25 : decode cX10_add 25 = .ok (.iload_n 1, 1) := by decide +kernel
theorem dX10_add_26 : decode cX10_add 26 = .ok (.iload_n 2, 1) := by decide +kernel
theorem dX10_add_27 : decode cX10_add 27 = .ok (.iushr, 1) := by decide +kernel
theorem dX10_add_28 : decode cX10_add 28 = .ok (.i2b, 1) := by decide +kernel
theorem dX10_add_29 : decode cX10_add 29 = .ok (.bastore, 1) := by decide +kernel
theorem dX10_add_30 : decode cX10_add 30 = .ok (.aload_n 0, 1) := by decide +kernel
theorem dX10_add_31 : decode cX10_add 31 = .ok (.dup, 1) := by decide +kernel
theorem dX10_add_32 : decode cX10_add 32 = .ok (.getfield 15, 3) := by decide +kernel
theorem dX10_add_35 : decode cX10_add 35 = .ok (.iconst 1, 1) := by decide +kernel
theorem dX10_add_36 : decode cX10_add 36 = .ok (.iadd, 1) := by decide +kernel
theorem dX10_add_37 : decode cX10_add 37 = .ok (.putfield 15, 3) := by decide +kernel
theorem dX10_add_40 : decode cX10_add 40 = .ok (.iinc 2 (-8), 3) := by decide +kernel
theorem dX10_add_43 : decode cX10_add 43 = .ok (.goto (-40), 3) := by decide +kernel
theorem dX10_add_46 : decode cX10_add 46 = .ok (.return_, 1) := by decide +kernel
set_option maxRecDepth 100000 in
set_option maxHeartbeats 4000000 in
theorem wfX10_add_3 {E : KE} {p : Program} {l : Launch} {e : Env} {s : State} {m : MethodId} {args : Array Value} {below : List Frame} {meth : Method} {c : Code} {q : MM} (C : mx_C E p m c cX10_add 3 s args RX10 meth none) (i1 : Int32) (hT : xOK E)   : ∀ (n : Nat) (i2 : Int32) (M : MM) (H : Heap) (locs : List Loc) (ls : Array Slot), fX10_add_3 i1 n i2 M = some q → mx_H E s M H locs → lv_has ls 3 [(0, .ref (E.2.1.2.1 1)), (1, .int i1), (2, .int i2)] → W p l e (mx_rm 0) s m args below meth c H locs 0 0 (mx_Z E below args s none q) (F0 m 3 ls []) := by
  have hx := C.1.1
  have hb := C.1.2.1
  have hown := C.1.2.2.2.1
  have hts := C.1.2.2.2.2
  intro n
  induction n with
  | zero =>
    intro i2 M H locs ls hf hM hl
    rw [fX10_add_3] at hf
    cases hf
  | succ n ih =>
    intro i2 M H locs ls hf hM hl
    rw [fX10_add_3] at hf
    refine lv_iload_n hx hb dX10_add_3 rfl (lv_at hl 2 rfl) ?_
    refine lv_if_lt (tgt := 46) hx hb dX10_add_4 (by decide) (fun hc4 => ?_) (fun hc4 => ?_)
    · replace hf := mx_ift hc4 hf
      exact mx_vret C hM hf dX10_add_46
    · replace hf := mx_iff hc4 hf
      refine lv_aload_n hx hb dX10_add_7 rfl (lv_at hl 0 rfl) ?_
      refine gX10_15 C hM (xt_1 hT) (f := (0, 0)) rfl (v := .int (M.1 1 1)) rfl dX10_add_8 ?_
      refine lv_sipush (v := (940 : Int32)) hx hb dX10_add_11 (by decide) ?_
      refine lv_icmp_ge (tgt := 46) hx hb dX10_add_14 (by decide) (fun hc14 => ?_) (fun hc14 => ?_)
      · replace hf := mx_ift hc14 hf
        exact mx_vret C hM hf dX10_add_46
      · replace hf := mx_iff hc14 hf
        refine lv_aload_n hx hb dX10_add_17 rfl (lv_at hl 0 rfl) ?_
        refine gX10_11 C hM (xt_1 hT) (f := (2, 2)) rfl (v := .ref (E.2.1.2.1 2)) rfl dX10_add_18 ?_
        refine lv_aload_n hx hb dX10_add_21 rfl (lv_at hl 0 rfl) ?_
        refine gX10_15 C hM (xt_1 hT) (f := (0, 0)) rfl (v := .int (M.1 1 1)) rfl dX10_add_22 ?_
        refine lv_iload_n hx hb dX10_add_25 rfl (lv_at hl 1 rfl) ?_
        refine lv_iload_n hx hb dX10_add_26 rfl (lv_at hl 2 rfl) ?_
        refine lv_iushr (v := (mx_ushr i1 i2)) hx hb dX10_add_27 rfl ?_
        refine lv_i2b (v := ((mx_ushr i1 i2).toInt8.toInt32)) hx hb dX10_add_28 rfl ?_
        obtain ⟨hg29, hf⟩ := mx_gd hf
        refine mx_bast C hM (xt_2 hT) (mx_in_vp hg29) dX10_add_29 (fun H locs hM => ?_)
        refine lv_aload_n hx hb dX10_add_30 rfl (lv_at hl 0 rfl) ?_
        refine lv_dup hx hb dX10_add_31 rfl ?_
        refine gX10_15 C hM (xt_1 hT) (f := (0, 0)) rfl (v := .int ((mx_si M 2 (M.1 1 1).toNatClampNeg (((mx_ushr i1 i2).toInt8.toInt32).toInt8.toInt32)).1 1 1)) rfl dX10_add_32 ?_
        refine lv_iconst (v := (1 : Int32)) hx hb dX10_add_35 (by decide) ?_
        refine lv_iadd hx hb dX10_add_36 ?_
        refine pX10_15 C hM (xt_1 hT) rfl rfl rfl dX10_add_37 (fun H locs hM => ?_)
        refine lv_iinc (v := (i2 + (-8 : Int32))) (lv' := [(2, .int (i2 + (-8 : Int32))), (0, .ref (E.2.1.2.1 1)), (1, .int i1)]) hx hb dX10_add_40 hl (k := 2) rfl rfl (by decide) rfl (fun ls hl => ?_)
        refine lv_goto (tgt := 3) hx hb dX10_add_43 (by decide) ?_
        exact ih (i2 + (-8 : Int32)) (mx_si (mx_si M 2 (M.1 1 1).toNatClampNeg (((mx_ushr i1 i2).toInt8.toInt32).toInt8.toInt32)) 1 1 (((mx_si M 2 (M.1 1 1).toNatClampNeg (((mx_ushr i1 i2).toInt8.toInt32).toInt8.toInt32)).1 1 1) + (1 : Int32))) _ _ _ hf hM (lv_sub hl [1, 2, 0] rfl)
set_option maxRecDepth 100000 in
set_option maxHeartbeats 4000000 in
theorem kX10_add {E : KE} {l : Launch} (hE : mx_ok E) (i1 : Int32) (hT : xOK E) (M : MM) {q : MM} (hf : fX10_add i1 M = some q) : mx_Met E l yX10_add cX10_add 3 none 0 [.ref (E.2.1.2.1 1), .int i1] M none q := by
  refine mx_enter hE (by decide) (Nat.le_of_ble_eq_true rfl) ?_
  intro p e s m below meth c C hM hn ls hl
  have hx := C.1.1
  have hb := C.1.2.1
  have hown := C.1.2.2.2.1
  have hts := C.1.2.2.2.2
  have hl : lv_has ls 3 [(0, .ref (E.2.1.2.1 1)), (1, .int i1)] := hl
  rw [fX10_add] at hf
  refine lv_bipush (v := (24 : Int32)) hx hb dX10_add_0 (by decide) ?_
  refine lv_istore_n (lv' := [(2, .int (24 : Int32)), (0, .ref (E.2.1.2.1 1)), (1, .int i1)]) hx hb dX10_add_2 rfl hl (by decide) rfl (fun ls hl => ?_)
  exact wfX10_add_3 C i1 hT mx_fu (24 : Int32) M _ _ _ hf hM (lv_sub hl [1, 2, 0] rfl)
theorem dX10_cut_0 : decode cX10_cut 0 = .ok (.iload_n 1, 1) := by decide +kernel
theorem dX10_cut_1 : decode cX10_cut 1 = .ok (.ifCond .lt 11, 3) := by decide +kernel
theorem dX10_cut_4 : decode cX10_cut 4 = .ok (.iload_n 1, 1) := by decide +kernel
theorem dX10_cut_5 : decode cX10_cut 5 = .ok (.aload_n 0, 1) := by decide +kernel
theorem dX10_cut_6 : decode cX10_cut 6 = .ok (.getfield 15, 3) := by decide +kernel
theorem dX10_cut_9 : decode cX10_cut 9 = .ok (.if_icmp .le 5, 3) := by decide +kernel
theorem dX10_cut_12 : decode cX10_cut 12 = .ok (.iconst 0, 1) := by decide +kernel
theorem dX10_cut_13 : decode cX10_cut 13 = .ok (.ireturn, 1) := by decide +kernel
theorem dX10_cut_14 : decode cX10_cut 14 = .ok (.aload_n 0, 1) := by decide +kernel
theorem dX10_cut_15 : decode cX10_cut 15 = .ok (.iload_n 1, 1) := by decide +kernel
theorem dX10_cut_16 : decode cX10_cut 16 = .ok (.putfield 15, 3) := by decide +kernel
theorem dX10_cut_19 : decode cX10_cut 19 = .ok (.iconst 1, 1) := by decide +kernel
theorem dX10_cut_20 : decode cX10_cut 20 = .ok (.ireturn, 1) := by decide +kernel
set_option maxRecDepth 100000 in
set_option maxHeartbeats 4000000 in
theorem kX10_cut {E : KE} {l : Launch} (hE : mx_ok E) (i1 : Int32) (hT : xOK E) (M : MM) {q : (Bool × MM)} (hf : fX10_cut i1 M = some q) : mx_Met E l yX10_cut cX10_cut 2 (some .boolean) 0 [.ref (E.2.1.2.1 1), .int i1] M (some (.int (mx_b q.1))) q.2 := by
  refine mx_enter hE (by decide) (Nat.le_of_ble_eq_true rfl) ?_
  intro p e s m below meth c C hM hn ls hl
  have hx := C.1.1
  have hb := C.1.2.1
  have hown := C.1.2.2.2.1
  have hts := C.1.2.2.2.2
  have hl : lv_has ls 2 [(0, .ref (E.2.1.2.1 1)), (1, .int i1)] := hl
  rw [fX10_cut] at hf
  refine lv_iload_n hx hb dX10_cut_0 rfl (lv_at hl 1 rfl) ?_
  refine lv_if_lt (tgt := 12) hx hb dX10_cut_1 (by decide) (fun hc1 => ?_) (fun hc1 => ?_)
  · replace hf := mx_ift hc1 hf
    refine lv_iconst (v := (0 : Int32)) hx hb dX10_cut_12 (by decide) ?_
    exact mx_zret C hM (b := false) rfl hf dX10_cut_13
  · replace hf := mx_iff hc1 hf
    refine lv_iload_n hx hb dX10_cut_4 rfl (lv_at hl 1 rfl) ?_
    refine lv_aload_n hx hb dX10_cut_5 rfl (lv_at hl 0 rfl) ?_
    refine gX10_15 C hM (xt_1 hT) (f := (0, 0)) rfl (v := .int (M.1 1 1)) rfl dX10_cut_6 ?_
    refine lv_icmp_le (tgt := 14) hx hb dX10_cut_9 (by decide) (fun hc9 => ?_) (fun hc9 => ?_)
    · replace hf := mx_ift hc9 hf
      refine lv_aload_n hx hb dX10_cut_14 rfl (lv_at hl 0 rfl) ?_
      refine lv_iload_n hx hb dX10_cut_15 rfl (lv_at hl 1 rfl) ?_
      refine pX10_15 C hM (xt_1 hT) rfl rfl rfl dX10_cut_16 (fun H locs hM => ?_)
      refine lv_iconst (v := (1 : Int32)) hx hb dX10_cut_19 (by decide) ?_
      exact mx_zret C hM (b := true) rfl hf dX10_cut_20
    · replace hf := mx_iff hc9 hf
      refine lv_iconst (v := (0 : Int32)) hx hb dX10_cut_12 (by decide) ?_
      exact mx_zret C hM (b := false) rfl hf dX10_cut_13
theorem dX10_clear_0 : decode cX10_clear 0 = .ok (.aload_n 0, 1) := by decide +kernel
theorem dX10_clear_1 : decode cX10_clear 1 = .ok (.iconst 0, 1) := by decide +kernel
theorem dX10_clear_2 : decode cX10_clear 2 = .ok (.putfield 15, 3) := by decide +kernel
theorem dX10_clear_5 : decode cX10_clear 5 = .ok (.return_, 1) := by decide +kernel
set_option maxRecDepth 100000 in
set_option maxHeartbeats 4000000 in
theorem kX10_clear {E : KE} {l : Launch} (hE : mx_ok E)  (hT : xOK E) (M : MM) {q : MM} (hf : fX10_clear M = some q) : mx_Met E l yX10_clear cX10_clear 1 none 0 [.ref (E.2.1.2.1 1)] M none q := by
  refine mx_enter hE (by decide) (Nat.le_of_ble_eq_true rfl) ?_
  intro p e s m below meth c C hM hn ls hl
  have hx := C.1.1
  have hb := C.1.2.1
  have hown := C.1.2.2.2.1
  have hts := C.1.2.2.2.2
  have hl : lv_has ls 1 [(0, .ref (E.2.1.2.1 1))] := hl
  rw [fX10_clear] at hf
  refine lv_aload_n hx hb dX10_clear_0 rfl (lv_at hl 0 rfl) ?_
  refine lv_iconst (v := (0 : Int32)) hx hb dX10_clear_1 (by decide) ?_
  refine pX10_15 C hM (xt_1 hT) rfl rfl rfl dX10_clear_2 (fun H locs hM => ?_)
  exact mx_vret C hM hf dX10_clear_5
theorem dX12_feed_0 : decode cX12_feed 0 = .ok (.aload_n 0, 1) := by decide +kernel
theorem dX12_feed_1 : decode cX12_feed 1 = .ok (.getfield 10, 3) := by decide +kernel
theorem dX12_feed_4 : decode cX12_feed 4 = .ok (.invokevirtual 111, 3) := by decide +kernel
theorem dX12_feed_7 : decode cX12_feed 7 = .ok (.ifCond .ne 5, 3) := by decide +kernel
theorem dX12_feed_10 : decode cX12_feed 10 = .ok (.iconst (-1), 1) := by decide +kernel
theorem dX12_feed_11 : decode cX12_feed 11 = .ok (.ireturn, 1) := by decide +kernel
theorem dX12_feed_12 : decode cX12_feed 12 = .ok (.aload_n 0, 1) := by decide +kernel
theorem dX12_feed_13 : decode cX12_feed 13 = .ok (.getfield 10, 3) := by decide +kernel
theorem dX12_feed_16 : decode cX12_feed 16 = .ok (.iload_n 1, 1) := by decide +kernel
theorem dX12_feed_17 : decode cX12_feed 17 = .ok (.invokevirtual 115, 3) := by decide +kernel
theorem dX12_feed_20 : decode cX12_feed 20 = .ok (.aload_n 0, 1) := by decide +kernel
theorem dX12_feed_21 : decode cX12_feed 21 = .ok (.getfield 10, 3) := by decide +kernel
theorem dX12_feed_24 : decode cX12_feed 24 = .ok (.iload_n 2, 1) := by decide +kernel
theorem dX12_feed_25 : decode cX12_feed 25 = .ok (.invokevirtual 115, 3) := by decide +kernel
theorem dX12_feed_28 : decode cX12_feed 28 = .ok (.aload_n 0, 1) := by decide +kernel
theorem dX12_feed_29 : decode cX12_feed 29 = .ok (.getfield 10, 3) := by decide +kernel
theorem dX12_feed_32 : decode cX12_feed 32 = .ok (.iload_n 3, 1) := by decide +kernel
theorem dX12_feed_33 : decode cX12_feed 33 = .ok (.invokevirtual 115, 3) := by decide +kernel
theorem dX12_feed_36 : decode cX12_feed 36 = .ok (.aload_n 0, 1) := by decide +kernel
theorem dX12_feed_37 : decode cX12_feed 37 = .ok (.getfield 10, 3) := by decide +kernel
theorem dX12_feed_40 : decode cX12_feed 40 = .ok (.iload 4, 2) := by decide +kernel
theorem dX12_feed_42 : decode cX12_feed 42 = .ok (.invokevirtual 115, 3) := by decide +kernel
theorem dX12_feed_45 : decode cX12_feed 45 = .ok (.aload_n 0, 1) := by decide +kernel
theorem dX12_feed_46 : decode cX12_feed 46 = .ok (.getfield 10, 3) := by decide +kernel
theorem dX12_feed_49 : decode cX12_feed 49 = .ok (.iload 5, 2) := by decide +kernel
theorem dX12_feed_51 : decode cX12_feed 51 = .ok (.invokevirtual 115, 3) := by decide +kernel
theorem dX12_feed_54 : decode cX12_feed 54 = .ok (.aload_n 0, 1) := by decide +kernel
theorem dX12_feed_55 : decode cX12_feed 55 = .ok (.getfield 10, 3) := by decide +kernel
theorem dX12_feed_58 : decode cX12_feed 58 = .ok (.getfield 119, 3) := by decide +kernel
theorem dX12_feed_61 : decode cX12_feed 61 = .ok (.ireturn, 1) := by decide +kernel
set_option maxRecDepth 100000 in
set_option maxHeartbeats 4000000 in
theorem kX12_feed {E : KE} {l : Launch} (hE : mx_ok E) (i1 : Int32) (i2 : Int32) (i3 : Int32) (i4 : Int32) (i5 : Int32) (hT : xOK E) (M : MM) {q : (Int32 × MM)} (hf : fX12_feed i1 i2 i3 i4 i5 M = some q) : mx_Met E l yX12_feed cX12_feed 6 (some .int) 1 [.ref (E.2.1.2.1 0), .int i1, .int i2, .int i3, .int i4, .int i5] M (some (.int q.1)) q.2 := by
  refine mx_enter hE (by decide) (Nat.le_of_ble_eq_true rfl) ?_
  intro p e s m below meth c C hM hn ls hl
  have hx := C.1.1
  have hb := C.1.2.1
  have hown := C.1.2.2.2.1
  have hts := C.1.2.2.2.2
  have hl : lv_has ls 6 [(0, .ref (E.2.1.2.1 0)), (1, .int i1), (2, .int i2), (3, .int i3), (4, .int i4), (5, .int i5)] := hl
  rw [fX12_feed] at hf
  refine lv_aload_n hx hb dX12_feed_0 rfl (lv_at hl 0 rfl) ?_
  refine gX12_10 C hM (xt_0 hT) (f := (2, 1)) rfl (v := .ref (E.2.1.2.1 1)) rfl dX12_feed_1 ?_
  obtain ⟨q4, hq4, hf⟩ := mx_bd hf
  refine mx_callVN C hM hl.1 yo_X10_hasRoom (h' := 0) (by decide) (nw_478 hT C) qw_480 qs_0 (ci := 10) (q := (RX10, TX10, 2)) rfl (xt_1 hT) (As := []) (rest := []) (st1 := [.int (mx_b q4)]) (kX10_hasRoom C.2.2.2.1 hT M hq4) rfl rfl rfl (Nat.le_of_ble_eq_true rfl) dX12_feed_4 (fun H locs hM => ?_)
  refine lv_if_ne (tgt := 12) hx hb dX12_feed_7 (by decide) (fun hc7 => ?_) (fun hc7 => ?_)
  · replace hf := mx_iff hc7 hf
    refine lv_aload_n hx hb dX12_feed_12 rfl (lv_at hl 0 rfl) ?_
    refine gX12_10 C hM (xt_0 hT) (f := (2, 1)) rfl (v := .ref (E.2.1.2.1 1)) rfl dX12_feed_13 ?_
    refine lv_iload_n hx hb dX12_feed_16 rfl (lv_at hl 1 rfl) ?_
    obtain ⟨q17, hq17, hf⟩ := mx_bd hf
    refine mx_callVN C hM hl.1 yo_X10_add (h' := 0) (by decide) (nw_482 hT C) qw_484 qs_1 (ci := 10) (q := (RX10, TX10, 2)) rfl (xt_1 hT) (As := [.int i1]) (rest := []) (st1 := []) (kX10_add C.2.2.2.1 i1 hT M hq17) rfl rfl rfl (Nat.le_of_ble_eq_true rfl) dX12_feed_17 (fun H locs hM => ?_)
    refine lv_aload_n hx hb dX12_feed_20 rfl (lv_at hl 0 rfl) ?_
    refine gX12_10 C hM (xt_0 hT) (f := (2, 1)) rfl (v := .ref (E.2.1.2.1 1)) rfl dX12_feed_21 ?_
    refine lv_iload_n hx hb dX12_feed_24 rfl (lv_at hl 2 rfl) ?_
    obtain ⟨q25, hq25, hf⟩ := mx_bd hf
    refine mx_callVN C hM hl.1 yo_X10_add (h' := 0) (by decide) (nw_482 hT C) qw_484 qs_1 (ci := 10) (q := (RX10, TX10, 2)) rfl (xt_1 hT) (As := [.int i2]) (rest := []) (st1 := []) (kX10_add C.2.2.2.1 i2 hT q17 hq25) rfl rfl rfl (Nat.le_of_ble_eq_true rfl) dX12_feed_25 (fun H locs hM => ?_)
    refine lv_aload_n hx hb dX12_feed_28 rfl (lv_at hl 0 rfl) ?_
    refine gX12_10 C hM (xt_0 hT) (f := (2, 1)) rfl (v := .ref (E.2.1.2.1 1)) rfl dX12_feed_29 ?_
    refine lv_iload_n hx hb dX12_feed_32 rfl (lv_at hl 3 rfl) ?_
    obtain ⟨q33, hq33, hf⟩ := mx_bd hf
    refine mx_callVN C hM hl.1 yo_X10_add (h' := 0) (by decide) (nw_482 hT C) qw_484 qs_1 (ci := 10) (q := (RX10, TX10, 2)) rfl (xt_1 hT) (As := [.int i3]) (rest := []) (st1 := []) (kX10_add C.2.2.2.1 i3 hT q25 hq33) rfl rfl rfl (Nat.le_of_ble_eq_true rfl) dX12_feed_33 (fun H locs hM => ?_)
    refine lv_aload_n hx hb dX12_feed_36 rfl (lv_at hl 0 rfl) ?_
    refine gX12_10 C hM (xt_0 hT) (f := (2, 1)) rfl (v := .ref (E.2.1.2.1 1)) rfl dX12_feed_37 ?_
    refine lv_iload hx hb dX12_feed_40 (lv_at hl 4 rfl) ?_
    obtain ⟨q42, hq42, hf⟩ := mx_bd hf
    refine mx_callVN C hM hl.1 yo_X10_add (h' := 0) (by decide) (nw_482 hT C) qw_484 qs_1 (ci := 10) (q := (RX10, TX10, 2)) rfl (xt_1 hT) (As := [.int i4]) (rest := []) (st1 := []) (kX10_add C.2.2.2.1 i4 hT q33 hq42) rfl rfl rfl (Nat.le_of_ble_eq_true rfl) dX12_feed_42 (fun H locs hM => ?_)
    refine lv_aload_n hx hb dX12_feed_45 rfl (lv_at hl 0 rfl) ?_
    refine gX12_10 C hM (xt_0 hT) (f := (2, 1)) rfl (v := .ref (E.2.1.2.1 1)) rfl dX12_feed_46 ?_
    refine lv_iload hx hb dX12_feed_49 (lv_at hl 5 rfl) ?_
    obtain ⟨q51, hq51, hf⟩ := mx_bd hf
    refine mx_callVN C hM hl.1 yo_X10_add (h' := 0) (by decide) (nw_482 hT C) qw_484 qs_1 (ci := 10) (q := (RX10, TX10, 2)) rfl (xt_1 hT) (As := [.int i5]) (rest := []) (st1 := []) (kX10_add C.2.2.2.1 i5 hT q42 hq51) rfl rfl rfl (Nat.le_of_ble_eq_true rfl) dX12_feed_51 (fun H locs hM => ?_)
    refine lv_aload_n hx hb dX12_feed_54 rfl (lv_at hl 0 rfl) ?_
    refine gX12_10 C hM (xt_0 hT) (f := (2, 1)) rfl (v := .ref (E.2.1.2.1 1)) rfl dX12_feed_55 ?_
    refine gX12_119 C hT hM (xt_1 hT) (f := (0, 0)) rfl (v := .int (q51.1 1 1)) rfl dX12_feed_58 ?_
    exact mx_iret C hM hf dX12_feed_61
  · replace hf := mx_ift hc7 hf
    refine lv_iconst (v := (-1 : Int32)) hx hb dX12_feed_10 (by decide) ?_
    exact mx_iret C hM hf dX12_feed_11
theorem dX12_end_0 : decode cX12_end 0 = .ok (.aload_n 0, 1) := by decide +kernel
theorem dX12_end_1 : decode cX12_end 1 = .ok (.getfield 10, 3) := by decide +kernel
theorem dX12_end_4 : decode cX12_end 4 = .ok (.iload_n 1, 1) := by decide +kernel
theorem dX12_end_5 : decode cX12_end 5 = .ok (.invokevirtual 123, 3) := by decide +kernel
theorem dX12_end_8 : decode cX12_end 8 = .ok (.ireturn, 1) := by decide +kernel
set_option maxRecDepth 100000 in
set_option maxHeartbeats 4000000 in
theorem kX12_end {E : KE} {l : Launch} (hE : mx_ok E) (i1 : Int32) (hT : xOK E) (M : MM) {q : (Bool × MM)} (hf : fX12_end i1 M = some q) : mx_Met E l yX12_end cX12_end 2 (some .boolean) 1 [.ref (E.2.1.2.1 0), .int i1] M (some (.int (mx_b q.1))) q.2 := by
  refine mx_enter hE (by decide) (Nat.le_of_ble_eq_true rfl) ?_
  intro p e s m below meth c C hM hn ls hl
  have hx := C.1.1
  have hb := C.1.2.1
  have hown := C.1.2.2.2.1
  have hts := C.1.2.2.2.2
  have hl : lv_has ls 2 [(0, .ref (E.2.1.2.1 0)), (1, .int i1)] := hl
  rw [fX12_end] at hf
  refine lv_aload_n hx hb dX12_end_0 rfl (lv_at hl 0 rfl) ?_
  refine gX12_10 C hM (xt_0 hT) (f := (2, 1)) rfl (v := .ref (E.2.1.2.1 1)) rfl dX12_end_1 ?_
  refine lv_iload_n hx hb dX12_end_4 rfl (lv_at hl 1 rfl) ?_
  obtain ⟨q5, hq5, hf⟩ := mx_bd hf
  refine mx_callVN C hM hl.1 yo_X10_cut (h' := 0) (by decide) (nw_490 hT C) qw_492 qs_2 (ci := 10) (q := (RX10, TX10, 2)) rfl (xt_1 hT) (As := [.int i1]) (rest := []) (st1 := [.int (mx_b q5.1)]) (kX10_cut C.2.2.2.1 i1 hT M hq5) rfl rfl rfl (Nat.le_of_ble_eq_true rfl) dX12_end_5 (fun H locs hM => ?_)
  exact mx_zret C hM (b := q5.1) rfl hf dX12_end_8
theorem dX12_island_0 : decode cX12_island 0 = .ok (.aload_n 0, 1) := by decide +kernel
theorem dX12_island_1 : decode cX12_island 1 = .ok (.getfield 21, 3) := by decide +kernel
theorem dX12_island_4 : decode cX12_island 4 = .ok (.sipush 900, 3) := by decide +kernel
theorem dX12_island_7 : decode cX12_island 7 = .ok (.invokevirtual 127, 3) := by decide +kernel
theorem dX12_island_10 : decode cX12_island 10 = .ok (.aload_n 0, 1) := by decide +kernel
theorem dX12_island_11 : decode cX12_island 11 = .ok (.getfield 32, 3) := by decide +kernel
theorem dX12_island_14 : decode cX12_island 14 = .ok (.aload_n 0, 1) := by decide +kernel
theorem dX12_island_15 : decode cX12_island 15 = .ok (.getfield 21, 3) := by decide +kernel
theorem dX12_island_18 : decode cX12_island 18 = .ok (.invokevirtual 130, 3) := by decide +kernel
theorem dX12_island_21 : decode cX12_island 21 = .ok (.istore_n 1, 1) := by decide +kernel
theorem dX12_island_22 : decode cX12_island 22 = .ok (.aload_n 0, 1) := by decide +kernel
theorem dX12_island_23 : decode cX12_island 23 = .ok (.getfield 10, 3) := by decide +kernel
theorem dX12_island_26 : decode cX12_island 26 = .ok (.invokevirtual 134, 3) := by decide +kernel
theorem dX12_island_29 : decode cX12_island 29 = .ok (.aload_n 0, 1) := by decide +kernel
theorem dX12_island_30 : decode cX12_island 30 = .ok (.aload_n 0, 1) := by decide +kernel
theorem dX12_island_31 : decode cX12_island 31 = .ok (.getfield 21, 3) := by decide +kernel
theorem dX12_island_34 : decode cX12_island 34 = .ok (.getfield 137, 3) := by decide +kernel
theorem dX12_island_37 : decode cX12_island 37 = .ok (.putfield 140, 3) := by decide +kernel
theorem dX12_island_40 : decode cX12_island 40 = .ok (.iload_n 1, 1) := by decide +kernel
theorem dX12_island_41 : decode cX12_island 41 = .ok (.ifCond .ne 13, 3) := by decide +kernel
theorem dX12_island_44 : decode cX12_island 44 = .ok (.iconst (-1), 1) := by decide +kernel
theorem dX12_island_45 : decode cX12_island 45 = .ok (.aload_n 0, 1) := by decide +kernel
theorem dX12_island_46 : decode cX12_island 46 = .ok (.getfield 21, 3) := by decide +kernel
theorem dX12_island_49 : decode cX12_island 49 = .ok (.getfield 141, 3) := by decide +kernel
theorem dX12_island_52 : decode cX12_island 52 = .ok (.isub, 1) := by decide +kernel
theorem dX12_island_53 : decode cX12_island 53 = .ok (.ireturn, 1) := by decide +kernel
theorem dX12_island_54 : decode cX12_island 54 = .ok (.aload_n 0, 1) := by decide +kernel
theorem dX12_island_55 : decode cX12_island 55 = .ok (.getfield 28, 3) := by decide +kernel
theorem dX12_island_58 : decode cX12_island 58 = .ok (.aload_n 0, 1) := by decide +kernel
theorem dX12_island_59 : decode cX12_island 59 = .ok (.getfield 32, 3) := by decide +kernel
theorem dX12_island_62 : decode cX12_island 62 = .ok (.invokevirtual 144, 3) := by decide +kernel
theorem dX12_island_65 : decode cX12_island 65 = .ok (.aload_n 0, 1) := by decide +kernel
theorem dX12_island_66 : decode cX12_island 66 = .ok (.getfield 40, 3) := by decide +kernel
theorem dX12_island_69 : decode cX12_island 69 = .ok (.invokevirtual 147, 3) := by decide +kernel
theorem dX12_island_72 : decode cX12_island 72 = .ok (.aload_n 0, 1) := by decide +kernel
theorem dX12_island_73 : decode cX12_island 73 = .ok (.getfield 60, 3) := by decide +kernel
theorem dX12_island_76 : decode cX12_island 76 = .ok (.invokevirtual 150, 3) := by decide +kernel
theorem dX12_island_79 : decode cX12_island 79 = .ok (.aload_n 0, 1) := by decide +kernel
theorem dX12_island_80 : decode cX12_island 80 = .ok (.getfield 53, 3) := by decide +kernel
theorem dX12_island_83 : decode cX12_island 83 = .ok (.invokevirtual 151, 3) := by decide +kernel
theorem dX12_island_86 : decode cX12_island 86 = .ok (.aload_n 0, 1) := by decide +kernel
theorem dX12_island_87 : decode cX12_island 87 = .ok (.getfield 28, 3) := by decide +kernel
theorem dX12_island_90 : decode cX12_island 90 = .ok (.getfield 152, 3) := by decide +kernel
theorem dX12_island_93 : decode cX12_island 93 = .ok (.ireturn, 1) := by decide +kernel
set_option maxRecDepth 100000 in
set_option maxHeartbeats 4000000 in
theorem kX12_island {E : KE} {l : Launch} (hE : mx_ok E)  (hT : xOK E) (M : MM) {q : (Int32 × MM)} (hf : fX12_island M = some q) : mx_Met E l yX12_island cX12_island 2 (some .int) 6 [.ref (E.2.1.2.1 0)] M (some (.int q.1)) q.2 := by
  refine mx_enter hE (by decide) (Nat.le_of_ble_eq_true rfl) ?_
  intro p e s m below meth c C hM hn ls hl
  have hx := C.1.1
  have hb := C.1.2.1
  have hown := C.1.2.2.2.1
  have hts := C.1.2.2.2.2
  have hl : lv_has ls 2 [(0, .ref (E.2.1.2.1 0))] := hl
  rw [fX12_island] at hf
  refine lv_aload_n hx hb dX12_island_0 rfl (lv_at hl 0 rfl) ?_
  refine gX12_21 C hM (xt_0 hT) (f := (2, 3)) rfl (v := .ref (E.2.1.2.1 3)) rfl dX12_island_1 ?_
  refine lv_sipush (v := (900 : Int32)) hx hb dX12_island_4 (by decide) ?_
  obtain ⟨q7, hq7, hf⟩ := mx_bd hf
  refine mx_callVN C hM hl.1 yo_X7_open (h' := 3) (by decide) (nw_498 hT C) qw_500 qs_3 (ci := 7) (q := (RX7, TX7, 12)) rfl (xt_3 hT) (As := [.int (900 : Int32)]) (rest := []) (st1 := []) (kX7_open C.2.2.2.1 (900 : Int32) hT M hq7) rfl rfl rfl (Nat.le_of_ble_eq_true rfl) dX12_island_7 (fun H locs hM => ?_)
  refine lv_aload_n hx hb dX12_island_10 rfl (lv_at hl 0 rfl) ?_
  refine gX12_32 C hM (xt_0 hT) (f := (2, 19)) rfl (v := .ref (E.2.1.2.1 19)) rfl dX12_island_11 ?_
  refine lv_aload_n hx hb dX12_island_14 rfl (lv_at hl 0 rfl) ?_
  refine gX12_21 C hM (xt_0 hT) (f := (2, 3)) rfl (v := .ref (E.2.1.2.1 3)) rfl dX12_island_15 ?_
  obtain ⟨q18, hq18, hf⟩ := mx_bd hf
  refine mx_callVN C hM hl.1 yo_X3_readFrom (h' := 5) (by decide) (nw_530 hT C) qw_532 qs_7 (ci := 3) (q := (RX3, TX3, 18)) rfl (xt_19 hT) (As := [.ref (E.2.1.2.1 3)]) (rest := []) (st1 := [.int (mx_b q18.1)]) (kX3_readFrom C.2.2.2.1 hT q7 hq18) rfl rfl rfl (Nat.le_of_ble_eq_true rfl) dX12_island_18 (fun H locs hM => ?_)
  refine lv_istore_n (lv' := [(1, .int (mx_b q18.1)), (0, .ref (E.2.1.2.1 0))]) hx hb dX12_island_21 rfl hl (by decide) rfl (fun ls hl => ?_)
  refine lv_aload_n hx hb dX12_island_22 rfl (lv_at hl 1 rfl) ?_
  refine gX12_10 C hM (xt_0 hT) (f := (2, 1)) rfl (v := .ref (E.2.1.2.1 1)) rfl dX12_island_23 ?_
  obtain ⟨q26, hq26, hf⟩ := mx_bd hf
  refine mx_callVN C hM hl.1 yo_X10_clear (h' := 0) (by decide) (nw_623 hT C) qw_625 qs_27 (ci := 10) (q := (RX10, TX10, 2)) rfl (xt_1 hT) (As := []) (rest := []) (st1 := []) (kX10_clear C.2.2.2.1 hT q18.2 hq26) rfl rfl rfl (Nat.le_of_ble_eq_true rfl) dX12_island_26 (fun H locs hM => ?_)
  refine lv_aload_n hx hb dX12_island_29 rfl (lv_at hl 1 rfl) ?_
  refine lv_aload_n hx hb dX12_island_30 rfl (lv_at hl 1 rfl) ?_
  refine gX12_21 C hM (xt_0 hT) (f := (2, 3)) rfl (v := .ref (E.2.1.2.1 3)) rfl dX12_island_31 ?_
  refine gX12_137 C hT hM (xt_3 hT) (f := (0, 0)) rfl (v := .int (q26.1 3 10)) rfl dX12_island_34 ?_
  refine pX12_140 C hM (xt_0 hT) rfl rfl rfl dX12_island_37 (fun H locs hM => ?_)
  refine lv_iload_n hx hb dX12_island_40 rfl (lv_at hl 0 rfl) ?_
  refine lv_if_ne (tgt := 54) hx hb dX12_island_41 (by decide) (fun hc41 => ?_) (fun hc41 => ?_)
  · replace hf := mx_iff hc41 hf
    refine lv_aload_n hx hb dX12_island_54 rfl (lv_at hl 1 rfl) ?_
    refine gX12_28 C hM (xt_0 hT) (f := (2, 9)) rfl (v := .ref (E.2.1.2.1 9)) rfl dX12_island_55 ?_
    refine lv_aload_n hx hb dX12_island_58 rfl (lv_at hl 1 rfl) ?_
    refine gX12_32 C hM (xt_0 hT) (f := (2, 19)) rfl (v := .ref (E.2.1.2.1 19)) rfl dX12_island_59 ?_
    obtain ⟨q62, hq62, hf⟩ := mx_bd hf
    refine mx_callVN C hM hl.1 yo_X3_copyFrom (h' := 1) (by decide) (nw_627 hT C) qw_629 qs_28 (ci := 3) (q := (RX3, TX3, 18)) rfl (xt_9 hT) (As := [.ref (E.2.1.2.1 19)]) (rest := []) (st1 := []) (kX3_copyFrom C.2.2.2.1 9 19 hT xiI_9 xiI_19 (mx_si q26 0 18 (q26.1 3 10)) hq62) rfl rfl rfl (Nat.le_of_ble_eq_true rfl) dX12_island_62 (fun H locs hM => ?_)
    refine lv_aload_n hx hb dX12_island_65 rfl (lv_at hl 1 rfl) ?_
    refine gX12_40 C hM (xt_0 hT) (f := (2, 29)) rfl (v := .ref (E.2.1.2.1 29)) rfl dX12_island_66 ?_
    obtain ⟨q69, hq69, hf⟩ := mx_bd hf
    refine mx_callVN C hM hl.1 yo_X9_begin (h' := 1) (by decide) (nw_634 hT C) qw_636 qs_29 (ci := 9) (q := (RX9, TX9, 13)) rfl (xt_29 hT) (As := []) (rest := []) (st1 := []) (kX9_begin C.2.2.2.1 hT q62 hq69) rfl rfl rfl (Nat.le_of_ble_eq_true rfl) dX12_island_69 (fun H locs hM => ?_)
    refine lv_aload_n hx hb dX12_island_72 rfl (lv_at hl 1 rfl) ?_
    refine gX12_60 C hM (xt_0 hT) (f := (2, 130)) rfl (v := .ref (E.2.1.2.1 130)) rfl dX12_island_73 ?_
    obtain ⟨q76, hq76, hf⟩ := mx_bd hf
    refine mx_callVN C hM hl.1 yo_X8_clear (h' := 0) (by decide) (nw_642 hT C) qw_644 qs_31 (ci := 8) (q := (RX8, TX8, 5)) rfl (xt_130 hT) (As := []) (rest := []) (st1 := []) (kX8_clear C.2.2.2.1 130 hT xiN_130 q69 hq76) rfl rfl rfl (Nat.le_of_ble_eq_true rfl) dX12_island_76 (fun H locs hM => ?_)
    refine lv_aload_n hx hb dX12_island_79 rfl (lv_at hl 1 rfl) ?_
    refine gX12_53 C hM (xt_0 hT) (f := (2, 56)) rfl (v := .ref (E.2.1.2.1 56)) rfl dX12_island_80 ?_
    obtain ⟨q83, hq83, hf⟩ := mx_bd hf
    refine mx_callVN C hM hl.1 yo_X5_clear (h' := 0) (by decide) (nw_646 hT C) qw_648 qs_32 (ci := 5) (q := (RX5, TX5, 2)) rfl (xt_56 hT) (As := []) (rest := []) (st1 := []) (kX5_clear C.2.2.2.1 hT q76 hq83) rfl rfl rfl (Nat.le_of_ble_eq_true rfl) dX12_island_83 (fun H locs hM => ?_)
    refine lv_aload_n hx hb dX12_island_86 rfl (lv_at hl 1 rfl) ?_
    refine gX12_28 C hM (xt_0 hT) (f := (2, 9)) rfl (v := .ref (E.2.1.2.1 9)) rfl dX12_island_87 ?_
    refine gX12_152 C hT hM (xt_9 hT) (f := (0, 0)) rfl (v := .int (q83.1 9 14)) rfl dX12_island_90 ?_
    exact mx_iret C hM hf dX12_island_93
  · replace hf := mx_ift hc41 hf
    refine lv_iconst (v := (-1 : Int32)) hx hb dX12_island_44 (by decide) ?_
    refine lv_aload_n hx hb dX12_island_45 rfl (lv_at hl 1 rfl) ?_
    refine gX12_21 C hM (xt_0 hT) (f := (2, 3)) rfl (v := .ref (E.2.1.2.1 3)) rfl dX12_island_46 ?_
    refine gX12_141 C hT hM (xt_3 hT) (f := (0, 0)) rfl (v := .int ((mx_si q26 0 18 (q26.1 3 10)).1 3 11)) rfl dX12_island_49 ?_
    refine lv_isub hx hb dX12_island_52 ?_
    exact mx_iret C hM hf dX12_island_53
theorem dX12_fault_0 : decode cX12_fault 0 = .ok (.aload_n 0, 1) := by decide +kernel
theorem dX12_fault_1 : decode cX12_fault 1 = .ok (.getfield 140, 3) := by decide +kernel
theorem dX12_fault_4 : decode cX12_fault 4 = .ok (.ireturn, 1) := by decide +kernel
set_option maxRecDepth 100000 in
set_option maxHeartbeats 4000000 in
theorem kX12_fault {E : KE} {l : Launch} (hE : mx_ok E)  (hT : xOK E) (M : MM) {q : Int32} (hf : fX12_fault M = some q) : mx_Met E l yX12_fault cX12_fault 1 (some .int) 0 [.ref (E.2.1.2.1 0)] M (some (.int q)) M := by
  refine mx_enter hE (by decide) (Nat.le_of_ble_eq_true rfl) ?_
  intro p e s m below meth c C hM hn ls hl
  have hx := C.1.1
  have hb := C.1.2.1
  have hown := C.1.2.2.2.1
  have hts := C.1.2.2.2.2
  have hl : lv_has ls 1 [(0, .ref (E.2.1.2.1 0))] := hl
  rw [fX12_fault] at hf
  refine lv_aload_n hx hb dX12_fault_0 rfl (lv_at hl 0 rfl) ?_
  refine gX12_140 C hM (xt_0 hT) (f := (0, 0)) rfl (v := .int (M.1 0 18)) rfl dX12_fault_1 ?_
  exact mx_iretR C hM hf dX12_fault_4
theorem dX12_fits_0 : decode cX12_fits 0 = .ok (.aload_n 0, 1) := by decide +kernel
theorem dX12_fits_1 : decode cX12_fits 1 = .ok (.getfield 28, 3) := by decide +kernel
theorem dX12_fits_4 : decode cX12_fits 4 = .ok (.iload_n 1, 1) := by decide +kernel
theorem dX12_fits_5 : decode cX12_fits 5 = .ok (.invokevirtual 183, 3) := by decide +kernel
theorem dX12_fits_8 : decode cX12_fits 8 = .ok (.ifCond .eq 14, 3) := by decide +kernel
theorem dX12_fits_11 : decode cX12_fits 11 = .ok (.aload_n 0, 1) := by decide +kernel
theorem dX12_fits_12 : decode cX12_fits 12 = .ok (.getfield 28, 3) := by decide +kernel
theorem dX12_fits_15 : decode cX12_fits 15 = .ok (.iload_n 2, 1) := by decide +kernel
theorem dX12_fits_16 : decode cX12_fits 16 = .ok (.invokevirtual 154, 3) := by decide +kernel
theorem dX12_fits_19 : decode cX12_fits 19 = .ok (.ifCond .ne 5, 3) := by decide +kernel
theorem dX12_fits_22 : decode cX12_fits 22 = .ok (.iconst (-1), 1) := by decide +kernel
theorem dX12_fits_23 : decode cX12_fits 23 = .ok (.ireturn, 1) := by decide +kernel
theorem dX12_fits_24 : decode cX12_fits 24 = .ok (.aload_n 0, 1) := by decide +kernel
theorem dX12_fits_25 : decode cX12_fits 25 = .ok (.getfield 28, 3) := by decide +kernel
theorem dX12_fits_28 : decode cX12_fits 28 = .ok (.aload_n 0, 1) := by decide +kernel
theorem dX12_fits_29 : decode cX12_fits 29 = .ok (.getfield 28, 3) := by decide +kernel
theorem dX12_fits_32 : decode cX12_fits 32 = .ok (.getfield 186, 3) := by decide +kernel
theorem dX12_fits_35 : decode cX12_fits 35 = .ok (.iload_n 1, 1) := by decide +kernel
theorem dX12_fits_36 : decode cX12_fits 36 = .ok (.iaload, 1) := by decide +kernel
theorem dX12_fits_37 : decode cX12_fits 37 = .ok (.iload_n 2, 1) := by decide +kernel
theorem dX12_fits_38 : decode cX12_fits 38 = .ok (.invokevirtual 210, 3) := by decide +kernel
theorem dX12_fits_41 : decode cX12_fits 41 = .ok (.ireturn, 1) := by decide +kernel
set_option maxRecDepth 100000 in
set_option maxHeartbeats 4000000 in
theorem kX12_fits {E : KE} {l : Launch} (hE : mx_ok E) (i1 : Int32) (i2 : Int32) (hT : xOK E) (M : MM) {q : Int32} (hf : fX12_fits i1 i2 M = some q) : mx_Met E l yX12_fits cX12_fits 3 (some .int) 1 [.ref (E.2.1.2.1 0), .int i1, .int i2] M (some (.int q)) M := by
  refine mx_enter hE (by decide) (Nat.le_of_ble_eq_true rfl) ?_
  intro p e s m below meth c C hM hn ls hl
  have hx := C.1.1
  have hb := C.1.2.1
  have hown := C.1.2.2.2.1
  have hts := C.1.2.2.2.2
  have hl : lv_has ls 3 [(0, .ref (E.2.1.2.1 0)), (1, .int i1), (2, .int i2)] := hl
  rw [fX12_fits] at hf
  refine lv_aload_n hx hb dX12_fits_0 rfl (lv_at hl 0 rfl) ?_
  refine gX12_28 C hM (xt_0 hT) (f := (2, 9)) rfl (v := .ref (E.2.1.2.1 9)) rfl dX12_fits_1 ?_
  refine lv_iload_n hx hb dX12_fits_4 rfl (lv_at hl 1 rfl) ?_
  obtain ⟨q5, hq5, hf⟩ := mx_bd hf
  refine mx_callVN C hM hl.1 yo_X3_isRing (h' := 0) (by decide) (nw_658 hT C) qw_660 qs_33 (ci := 3) (q := (RX3, TX3, 18)) rfl (xt_9 hT) (As := [.int i1]) (rest := []) (st1 := [.int (mx_b q5)]) (kX3_isRing C.2.2.2.1 i1 hT M hq5) rfl rfl rfl (Nat.le_of_ble_eq_true rfl) dX12_fits_5 (fun H locs hM => ?_)
  refine lv_if_eq (tgt := 22) hx hb dX12_fits_8 (by decide) (fun hc8 => ?_) (fun hc8 => ?_)
  · replace hf := mx_ift hc8 hf
    refine lv_iconst (v := (-1 : Int32)) hx hb dX12_fits_22 (by decide) ?_
    exact mx_iretR C hM hf dX12_fits_23
  · replace hf := mx_iff hc8 hf
    refine lv_aload_n hx hb dX12_fits_11 rfl (lv_at hl 0 rfl) ?_
    refine gX12_28 C hM (xt_0 hT) (f := (2, 9)) rfl (v := .ref (E.2.1.2.1 9)) rfl dX12_fits_12 ?_
    refine lv_iload_n hx hb dX12_fits_15 rfl (lv_at hl 2 rfl) ?_
    obtain ⟨q16, hq16, hf⟩ := mx_bd hf
    refine mx_callVN C hM hl.1 yo_X3_isPerson (h' := 0) (by decide) (nw_662 hT C) qw_664 qs_34 (ci := 3) (q := (RX3, TX3, 18)) rfl (xt_9 hT) (As := [.int i2]) (rest := []) (st1 := [.int (mx_b q16)]) (kX3_isPerson C.2.2.2.1 i2 hT M hq16) rfl rfl rfl (Nat.le_of_ble_eq_true rfl) dX12_fits_16 (fun H locs hM => ?_)
    refine lv_if_ne (tgt := 24) hx hb dX12_fits_19 (by decide) (fun hc19 => ?_) (fun hc19 => ?_)
    · replace hf := mx_iff hc19 hf
      refine lv_aload_n hx hb dX12_fits_24 rfl (lv_at hl 0 rfl) ?_
      refine gX12_28 C hM (xt_0 hT) (f := (2, 9)) rfl (v := .ref (E.2.1.2.1 9)) rfl dX12_fits_25 ?_
      refine lv_aload_n hx hb dX12_fits_28 rfl (lv_at hl 0 rfl) ?_
      refine gX12_28 C hM (xt_0 hT) (f := (2, 9)) rfl (v := .ref (E.2.1.2.1 9)) rfl dX12_fits_29 ?_
      refine gX12_186 C hT hM (xt_9 hT) (f := (2, 15)) rfl (v := .ref (E.2.1.2.1 15)) rfl dX12_fits_32 ?_
      refine lv_iload_n hx hb dX12_fits_35 rfl (lv_at hl 1 rfl) ?_
      obtain ⟨hg36, hf⟩ := mx_gd hf
      refine mx_iald C hM (xt_15 hT) (mx_in_vp hg36) dX12_fits_36 ?_
      refine lv_iload_n hx hb dX12_fits_37 rfl (lv_at hl 2 rfl) ?_
      obtain ⟨q38, hq38, hf⟩ := mx_bd hf
      refine mx_callVN C hM hl.1 yo_X3_feel (h' := 0) (by decide) (nw_666 hT C) qw_668 qs_35 (ci := 3) (q := (RX3, TX3, 18)) rfl (xt_9 hT) (As := [.int (M.1 15 i1.toNatClampNeg), .int i2]) (rest := []) (st1 := [.int q38]) (kX3_feel C.2.2.2.1 (M.1 15 i1.toNatClampNeg) i2 hT M hq38) rfl rfl rfl (Nat.le_of_ble_eq_true rfl) dX12_fits_38 (fun H locs hM => ?_)
      exact mx_iretR C hM hf dX12_fits_41
    · replace hf := mx_ift hc19 hf
      refine lv_iconst (v := (-1 : Int32)) hx hb dX12_fits_22 (by decide) ?_
      exact mx_iretR C hM hf dX12_fits_23
theorem dX12_now_0 : decode cX12_now 0 = .ok (.iload_n 1, 1) := by decide +kernel
theorem dX12_now_1 : decode cX12_now 1 = .ok (.tableswitch 103 0 6 #[43, 51, 60, 69, 78, 87, 95], 43) := by decide +kernel
theorem dX12_now_44 : decode cX12_now 44 = .ok (.aload_n 0, 1) := by decide +kernel
theorem dX12_now_45 : decode cX12_now 45 = .ok (.getfield 40, 3) := by decide +kernel
theorem dX12_now_48 : decode cX12_now 48 = .ok (.getfield 214, 3) := by decide +kernel
theorem dX12_now_51 : decode cX12_now 51 = .ok (.ireturn, 1) := by decide +kernel
theorem dX12_now_52 : decode cX12_now 52 = .ok (.aload_n 0, 1) := by decide +kernel
theorem dX12_now_53 : decode cX12_now 53 = .ok (.getfield 40, 3) := by decide +kernel
theorem dX12_now_56 : decode cX12_now 56 = .ok (.iconst 1, 1) := by decide +kernel
theorem dX12_now_57 : decode cX12_now 57 = .ok (.invokevirtual 217, 3) := by decide +kernel
theorem dX12_now_60 : decode cX12_now 60 = .ok (.ireturn, 1) := by decide +kernel
theorem dX12_now_61 : decode cX12_now 61 = .ok (.aload_n 0, 1) := by decide +kernel
theorem dX12_now_62 : decode cX12_now 62 = .ok (.getfield 40, 3) := by decide +kernel
theorem dX12_now_65 : decode cX12_now 65 = .ok (.iconst 2, 1) := by decide +kernel
theorem dX12_now_66 : decode cX12_now 66 = .ok (.invokevirtual 217, 3) := by decide +kernel
theorem dX12_now_69 : decode cX12_now 69 = .ok (.ireturn, 1) := by decide +kernel
theorem dX12_now_70 : decode cX12_now 70 = .ok (.aload_n 0, 1) := by decide +kernel
theorem dX12_now_71 : decode cX12_now 71 = .ok (.getfield 40, 3) := by decide +kernel
theorem dX12_now_74 : decode cX12_now 74 = .ok (.iconst 1, 1) := by decide +kernel
theorem dX12_now_75 : decode cX12_now 75 = .ok (.invokevirtual 220, 3) := by decide +kernel
theorem dX12_now_78 : decode cX12_now 78 = .ok (.ireturn, 1) := by decide +kernel
theorem dX12_now_79 : decode cX12_now 79 = .ok (.aload_n 0, 1) := by decide +kernel
theorem dX12_now_80 : decode cX12_now 80 = .ok (.getfield 40, 3) := by decide +kernel
theorem dX12_now_83 : decode cX12_now 83 = .ok (.iconst 2, 1) := by decide +kernel
theorem dX12_now_84 : decode cX12_now 84 = .ok (.invokevirtual 220, 3) := by decide +kernel
theorem dX12_now_87 : decode cX12_now 87 = .ok (.ireturn, 1) := by decide +kernel
theorem dX12_now_88 : decode cX12_now 88 = .ok (.aload_n 0, 1) := by decide +kernel
theorem dX12_now_89 : decode cX12_now 89 = .ok (.getfield 40, 3) := by decide +kernel
theorem dX12_now_92 : decode cX12_now 92 = .ok (.getfield 223, 3) := by decide +kernel
theorem dX12_now_95 : decode cX12_now 95 = .ok (.ireturn, 1) := by decide +kernel
theorem dX12_now_96 : decode cX12_now 96 = .ok (.aload_n 0, 1) := by decide +kernel
theorem dX12_now_97 : decode cX12_now 97 = .ok (.getfield 40, 3) := by decide +kernel
theorem dX12_now_100 : decode cX12_now 100 = .ok (.getfield 226, 3) := by decide +kernel
theorem dX12_now_103 : decode cX12_now 103 = .ok (.ireturn, 1) := by decide +kernel
theorem dX12_now_104 : decode cX12_now 104 = .ok (.iconst (-1), 1) := by decide +kernel
theorem dX12_now_105 : decode cX12_now 105 = .ok (.ireturn, 1) := by decide +kernel
set_option maxRecDepth 100000 in
set_option maxHeartbeats 4000000 in
theorem kX12_now {E : KE} {l : Launch} (hE : mx_ok E) (i1 : Int32) (hT : xOK E) (M : MM) {q : Int32} (hf : fX12_now i1 M = some q) : mx_Met E l yX12_now cX12_now 2 (some .int) 2 [.ref (E.2.1.2.1 0), .int i1] M (some (.int q)) M := by
  refine mx_enter hE (by decide) (Nat.le_of_ble_eq_true rfl) ?_
  intro p e s m below meth c C hM hn ls hl
  have hx := C.1.1
  have hb := C.1.2.1
  have hown := C.1.2.2.2.1
  have hts := C.1.2.2.2.2
  have hl : lv_has ls 2 [(0, .ref (E.2.1.2.1 0)), (1, .int i1)] := hl
  rw [fX12_now] at hf
  refine lv_iload_n hx hb dX12_now_0 rfl (lv_at hl 1 rfl) ?_
  by_cases hs0 : i1 = 0
  · replace hf := mx_ift hs0 hf
    refine lv_tableIn (tgt := 44) hx hb dX12_now_1 (by rw [hs0]; decide) (by rw [hs0]; decide) (by rw [hs0]; rfl) (by decide) ?_
    refine lv_aload_n hx hb dX12_now_44 rfl (lv_at hl 0 rfl) ?_
    refine gX12_40 C hM (xt_0 hT) (f := (2, 29)) rfl (v := .ref (E.2.1.2.1 29)) rfl dX12_now_45 ?_
    refine gX12_214 C hT hM (xt_29 hT) (f := (0, 0)) rfl (v := .int (M.1 29 9)) rfl dX12_now_48 ?_
    exact mx_iretR C hM hf dX12_now_51
  replace hf := mx_iff hs0 hf
  by_cases hs1 : i1 = 1
  · replace hf := mx_ift hs1 hf
    refine lv_tableIn (tgt := 52) hx hb dX12_now_1 (by rw [hs1]; decide) (by rw [hs1]; decide) (by rw [hs1]; rfl) (by decide) ?_
    refine lv_aload_n hx hb dX12_now_52 rfl (lv_at hl 0 rfl) ?_
    refine gX12_40 C hM (xt_0 hT) (f := (2, 29)) rfl (v := .ref (E.2.1.2.1 29)) rfl dX12_now_53 ?_
    refine lv_iconst (v := (1 : Int32)) hx hb dX12_now_56 (by decide) ?_
    obtain ⟨q57, hq57, hf⟩ := mx_bd hf
    refine mx_callVN C hM hl.1 yo_X9_ringsThatAre (h' := 1) (by decide) (nw_674 hT C) qw_676 qs_36 (ci := 9) (q := (RX9, TX9, 13)) rfl (xt_29 hT) (As := [.int (1 : Int32)]) (rest := []) (st1 := [.int q57]) (kX9_ringsThatAre C.2.2.2.1 29 (1 : Int32) hT xiS_29 M hq57) rfl rfl rfl (Nat.le_of_ble_eq_true rfl) dX12_now_57 (fun H locs hM => ?_)
    exact mx_iretR C hM hf dX12_now_60
  replace hf := mx_iff hs1 hf
  by_cases hs2 : i1 = 2
  · replace hf := mx_ift hs2 hf
    refine lv_tableIn (tgt := 61) hx hb dX12_now_1 (by rw [hs2]; decide) (by rw [hs2]; decide) (by rw [hs2]; rfl) (by decide) ?_
    refine lv_aload_n hx hb dX12_now_61 rfl (lv_at hl 0 rfl) ?_
    refine gX12_40 C hM (xt_0 hT) (f := (2, 29)) rfl (v := .ref (E.2.1.2.1 29)) rfl dX12_now_62 ?_
    refine lv_iconst (v := (2 : Int32)) hx hb dX12_now_65 (by decide) ?_
    obtain ⟨q66, hq66, hf⟩ := mx_bd hf
    refine mx_callVN C hM hl.1 yo_X9_ringsThatAre (h' := 1) (by decide) (nw_674 hT C) qw_676 qs_36 (ci := 9) (q := (RX9, TX9, 13)) rfl (xt_29 hT) (As := [.int (2 : Int32)]) (rest := []) (st1 := [.int q66]) (kX9_ringsThatAre C.2.2.2.1 29 (2 : Int32) hT xiS_29 M hq66) rfl rfl rfl (Nat.le_of_ble_eq_true rfl) dX12_now_66 (fun H locs hM => ?_)
    exact mx_iretR C hM hf dX12_now_69
  replace hf := mx_iff hs2 hf
  by_cases hs3 : i1 = 3
  · replace hf := mx_ift hs3 hf
    refine lv_tableIn (tgt := 70) hx hb dX12_now_1 (by rw [hs3]; decide) (by rw [hs3]; decide) (by rw [hs3]; rfl) (by decide) ?_
    refine lv_aload_n hx hb dX12_now_70 rfl (lv_at hl 0 rfl) ?_
    refine gX12_40 C hM (xt_0 hT) (f := (2, 29)) rfl (v := .ref (E.2.1.2.1 29)) rfl dX12_now_71 ?_
    refine lv_iconst (v := (1 : Int32)) hx hb dX12_now_74 (by decide) ?_
    obtain ⟨q75, hq75, hf⟩ := mx_bd hf
    refine mx_callVN C hM hl.1 yo_X9_ringsThatWere (h' := 1) (by decide) (nw_682 hT C) qw_684 qs_38 (ci := 9) (q := (RX9, TX9, 13)) rfl (xt_29 hT) (As := [.int (1 : Int32)]) (rest := []) (st1 := [.int q75]) (kX9_ringsThatWere C.2.2.2.1 29 (1 : Int32) hT xiS_29 M hq75) rfl rfl rfl (Nat.le_of_ble_eq_true rfl) dX12_now_75 (fun H locs hM => ?_)
    exact mx_iretR C hM hf dX12_now_78
  replace hf := mx_iff hs3 hf
  by_cases hs4 : i1 = 4
  · replace hf := mx_ift hs4 hf
    refine lv_tableIn (tgt := 79) hx hb dX12_now_1 (by rw [hs4]; decide) (by rw [hs4]; decide) (by rw [hs4]; rfl) (by decide) ?_
    refine lv_aload_n hx hb dX12_now_79 rfl (lv_at hl 0 rfl) ?_
    refine gX12_40 C hM (xt_0 hT) (f := (2, 29)) rfl (v := .ref (E.2.1.2.1 29)) rfl dX12_now_80 ?_
    refine lv_iconst (v := (2 : Int32)) hx hb dX12_now_83 (by decide) ?_
    obtain ⟨q84, hq84, hf⟩ := mx_bd hf
    refine mx_callVN C hM hl.1 yo_X9_ringsThatWere (h' := 1) (by decide) (nw_682 hT C) qw_684 qs_38 (ci := 9) (q := (RX9, TX9, 13)) rfl (xt_29 hT) (As := [.int (2 : Int32)]) (rest := []) (st1 := [.int q84]) (kX9_ringsThatWere C.2.2.2.1 29 (2 : Int32) hT xiS_29 M hq84) rfl rfl rfl (Nat.le_of_ble_eq_true rfl) dX12_now_84 (fun H locs hM => ?_)
    exact mx_iretR C hM hf dX12_now_87
  replace hf := mx_iff hs4 hf
  by_cases hs5 : i1 = 5
  · replace hf := mx_ift hs5 hf
    refine lv_tableIn (tgt := 88) hx hb dX12_now_1 (by rw [hs5]; decide) (by rw [hs5]; decide) (by rw [hs5]; rfl) (by decide) ?_
    refine lv_aload_n hx hb dX12_now_88 rfl (lv_at hl 0 rfl) ?_
    refine gX12_40 C hM (xt_0 hT) (f := (2, 29)) rfl (v := .ref (E.2.1.2.1 29)) rfl dX12_now_89 ?_
    refine gX12_223 C hT hM (xt_29 hT) (f := (0, 0)) rfl (v := .int (M.1 29 10)) rfl dX12_now_92 ?_
    exact mx_iretR C hM hf dX12_now_95
  replace hf := mx_iff hs5 hf
  by_cases hs6 : i1 = 6
  · replace hf := mx_ift hs6 hf
    refine lv_tableIn (tgt := 96) hx hb dX12_now_1 (by rw [hs6]; decide) (by rw [hs6]; decide) (by rw [hs6]; rfl) (by decide) ?_
    refine lv_aload_n hx hb dX12_now_96 rfl (lv_at hl 0 rfl) ?_
    refine gX12_40 C hM (xt_0 hT) (f := (2, 29)) rfl (v := .ref (E.2.1.2.1 29)) rfl dX12_now_97 ?_
    refine gX12_226 C hT hM (xt_29 hT) (f := (0, 0)) rfl (v := .int (M.1 29 11)) rfl dX12_now_100 ?_
    exact mx_iretR C hM hf dX12_now_103
  replace hf := mx_iff hs6 hf
  refine lv_tableOut (tgt := 104) hx hb dX12_now_1 (by have hh := And.intro trivial trivial; have hh0 := lv_neT hs0 (by decide : (0 : Int32).toInt = 0); have hh1 := lv_neT hs1 (by decide : (1 : Int32).toInt = 1); have hh2 := lv_neT hs2 (by decide : (2 : Int32).toInt = 2); have hh3 := lv_neT hs3 (by decide : (3 : Int32).toInt = 3); have hh4 := lv_neT hs4 (by decide : (4 : Int32).toInt = 4); have hh5 := lv_neT hs5 (by decide : (5 : Int32).toInt = 5); have hh6 := lv_neT hs6 (by decide : (6 : Int32).toInt = 6); omega) (by decide) ?_
  refine lv_iconst (v := (-1 : Int32)) hx hb dX12_now_104 (by decide) ?_
  exact mx_iretR C hM hf dX12_now_105
theorem dX12_isPlace_0 : decode cX12_isPlace 0 = .ok (.iload_n 0, 1) := by decide +kernel
theorem dX12_isPlace_1 : decode cX12_isPlace 1 = .ok (.ifCond .lt 23, 3) := by decide +kernel
theorem dX12_isPlace_4 : decode cX12_isPlace 4 = .ok (.iload_n 0, 1) := by decide +kernel
theorem dX12_isPlace_5 : decode cX12_isPlace 5 = .ok (.bipush 20, 2) := by decide +kernel
theorem dX12_isPlace_7 : decode cX12_isPlace 7 = .ok (.if_icmp .gt 17, 3) := by decide +kernel
theorem dX12_isPlace_10 : decode cX12_isPlace 10 = .ok (.iload_n 1, 1) := by decide +kernel
theorem dX12_isPlace_11 : decode cX12_isPlace 11 = .ok (.ifCond .lt 13, 3) := by decide +kernel
theorem dX12_isPlace_14 : decode cX12_isPlace 14 = .ok (.iload_n 1, 1) := by decide +kernel
theorem dX12_isPlace_15 : decode cX12_isPlace 15 = .ok (.bipush 20, 2) := by decide +kernel
theorem dX12_isPlace_17 : decode cX12_isPlace 17 = .ok (.if_icmp .gt 7, 3) := by decide +kernel
theorem dX12_isPlace_20 : decode cX12_isPlace 20 = .ok (.iconst 1, 1) := by decide +kernel
theorem dX12_isPlace_21 : decode cX12_isPlace 21 = .ok (.goto 4, 3) := by decide +kernel
theorem dX12_isPlace_24 : decode cX12_isPlace 24 = .ok (.iconst 0, 1) := by decide +kernel
theorem dX12_isPlace_25 : decode cX12_isPlace 25 = .ok (.ireturn, 1) := by decide +kernel
set_option maxRecDepth 100000 in
set_option maxHeartbeats 4000000 in
theorem kX12_isPlace {E : KE} {l : Launch} (hE : mx_ok E) (i0 : Int32) (i1 : Int32) (hT : xOK E) (M : MM) {q : Bool} (hf : fX12_isPlace i0 i1 M = some q) : mx_Met E l yX12_isPlace cX12_isPlace 2 (some .boolean) 0 [.int i0, .int i1] M (some (.int (mx_b q))) M := by
  refine mx_enter hE (by decide) (Nat.le_of_ble_eq_true rfl) ?_
  intro p e s m below meth c C hM hn ls hl
  have hx := C.1.1
  have hb := C.1.2.1
  have hown := C.1.2.2.2.1
  have hts := C.1.2.2.2.2
  have hl : lv_has ls 2 [(0, .int i0), (1, .int i1)] := hl
  rw [fX12_isPlace] at hf
  refine lv_iload_n hx hb dX12_isPlace_0 rfl (lv_at hl 0 rfl) ?_
  refine lv_if_lt (tgt := 24) hx hb dX12_isPlace_1 (by decide) (fun hc1 => ?_) (fun hc1 => ?_)
  · replace hf := mx_ift hc1 hf
    refine lv_iconst (v := (0 : Int32)) hx hb dX12_isPlace_24 (by decide) ?_
    exact mx_zretR C hM (b := false) rfl hf dX12_isPlace_25
  · replace hf := mx_iff hc1 hf
    refine lv_iload_n hx hb dX12_isPlace_4 rfl (lv_at hl 0 rfl) ?_
    refine lv_bipush (v := (20 : Int32)) hx hb dX12_isPlace_5 (by decide) ?_
    refine lv_icmp_gt (tgt := 24) hx hb dX12_isPlace_7 (by decide) (fun hc7 => ?_) (fun hc7 => ?_)
    · replace hf := mx_ift hc7 hf
      refine lv_iconst (v := (0 : Int32)) hx hb dX12_isPlace_24 (by decide) ?_
      exact mx_zretR C hM (b := false) rfl hf dX12_isPlace_25
    · replace hf := mx_iff hc7 hf
      refine lv_iload_n hx hb dX12_isPlace_10 rfl (lv_at hl 1 rfl) ?_
      refine lv_if_lt (tgt := 24) hx hb dX12_isPlace_11 (by decide) (fun hc11 => ?_) (fun hc11 => ?_)
      · replace hf := mx_ift hc11 hf
        refine lv_iconst (v := (0 : Int32)) hx hb dX12_isPlace_24 (by decide) ?_
        exact mx_zretR C hM (b := false) rfl hf dX12_isPlace_25
      · replace hf := mx_iff hc11 hf
        refine lv_iload_n hx hb dX12_isPlace_14 rfl (lv_at hl 1 rfl) ?_
        refine lv_bipush (v := (20 : Int32)) hx hb dX12_isPlace_15 (by decide) ?_
        refine lv_icmp_gt (tgt := 24) hx hb dX12_isPlace_17 (by decide) (fun hc17 => ?_) (fun hc17 => ?_)
        · replace hf := mx_ift hc17 hf
          refine lv_iconst (v := (0 : Int32)) hx hb dX12_isPlace_24 (by decide) ?_
          exact mx_zretR C hM (b := false) rfl hf dX12_isPlace_25
        · replace hf := mx_iff hc17 hf
          refine lv_iconst (v := (1 : Int32)) hx hb dX12_isPlace_20 (by decide) ?_
          refine lv_goto (tgt := 25) hx hb dX12_isPlace_21 (by decide) ?_
          exact mx_zretR C hM (b := true) rfl hf dX12_isPlace_25
theorem dX12_keptIfDone_0 : decode cX12_keptIfDone 0 = .ok (.iload_n 1, 1) := by decide +kernel
theorem dX12_keptIfDone_1 : decode cX12_keptIfDone 1 = .ok (.ifCond .ne 14, 3) := by decide +kernel
theorem dX12_keptIfDone_4 : decode cX12_keptIfDone 4 = .ok (.aload_n 0, 1) := by decide +kernel
theorem dX12_keptIfDone_5 : decode cX12_keptIfDone 5 = .ok (.getfield 53, 3) := by decide +kernel
theorem dX12_keptIfDone_8 : decode cX12_keptIfDone 8 = .ok (.aload_n 0, 1) := by decide +kernel
theorem dX12_keptIfDone_9 : decode cX12_keptIfDone 9 = .ok (.getfield 44, 3) := by decide +kernel
theorem dX12_keptIfDone_12 : decode cX12_keptIfDone 12 = .ok (.invokevirtual 339, 3) := by decide +kernel
theorem dX12_keptIfDone_15 : decode cX12_keptIfDone 15 = .ok (.iload_n 1, 1) := by decide +kernel
theorem dX12_keptIfDone_16 : decode cX12_keptIfDone 16 = .ok (.ireturn, 1) := by decide +kernel
set_option maxRecDepth 100000 in
set_option maxHeartbeats 4000000 in
theorem kX12_keptIfDone {E : KE} {l : Launch} (hE : mx_ok E) (i1 : Int32) (hT : xOK E) (M : MM) {q : (Int32 × MM)} (hf : fX12_keptIfDone i1 M = some q) : mx_Met E l yX12_keptIfDone cX12_keptIfDone 2 (some .int) 3 [.ref (E.2.1.2.1 0), .int i1] M (some (.int q.1)) q.2 := by
  refine mx_enter hE (by decide) (Nat.le_of_ble_eq_true rfl) ?_
  intro p e s m below meth c C hM hn ls hl
  have hx := C.1.1
  have hb := C.1.2.1
  have hown := C.1.2.2.2.1
  have hts := C.1.2.2.2.2
  have hl : lv_has ls 2 [(0, .ref (E.2.1.2.1 0)), (1, .int i1)] := hl
  rw [fX12_keptIfDone] at hf
  refine lv_iload_n hx hb dX12_keptIfDone_0 rfl (lv_at hl 1 rfl) ?_
  refine lv_if_ne (tgt := 15) hx hb dX12_keptIfDone_1 (by decide) (fun hc1 => ?_) (fun hc1 => ?_)
  · replace hf := mx_iff hc1 hf
    refine lv_iload_n hx hb dX12_keptIfDone_15 rfl (lv_at hl 1 rfl) ?_
    exact mx_iret C hM hf dX12_keptIfDone_16
  · replace hf := mx_ift hc1 hf
    refine lv_aload_n hx hb dX12_keptIfDone_4 rfl (lv_at hl 0 rfl) ?_
    refine gX12_53 C hM (xt_0 hT) (f := (2, 56)) rfl (v := .ref (E.2.1.2.1 56)) rfl dX12_keptIfDone_5 ?_
    refine lv_aload_n hx hb dX12_keptIfDone_8 rfl (lv_at hl 0 rfl) ?_
    refine gX12_44 C hM (xt_0 hT) (f := (2, 38)) rfl (v := .ref (E.2.1.2.1 38)) rfl dX12_keptIfDone_9 ?_
    obtain ⟨q12, hq12, hf⟩ := mx_bd hf
    refine mx_callVN C hM hl.1 yo_X5_push (h' := 2) (by decide) (nw_713 hT C) qw_715 qs_43 (ci := 5) (q := (RX5, TX5, 2)) rfl (xt_56 hT) (As := [.ref (E.2.1.2.1 38)]) (rest := []) (st1 := []) (kX5_push C.2.2.2.1 38 hT xiS_38 M hq12) rfl rfl rfl (Nat.le_of_ble_eq_true rfl) dX12_keptIfDone_12 (fun H locs hM => ?_)
    refine lv_iload_n hx hb dX12_keptIfDone_15 rfl (lv_at hl 1 rfl) ?_
    exact mx_iret C hM hf dX12_keptIfDone_16
theorem dX12_go_0 : decode cX12_go 0 = .ok (.aload_n 0, 1) := by decide +kernel
theorem dX12_go_1 : decode cX12_go 1 = .ok (.getfield 28, 3) := by decide +kernel
theorem dX12_go_4 : decode cX12_go 4 = .ok (.iload_n 1, 1) := by decide +kernel
theorem dX12_go_5 : decode cX12_go 5 = .ok (.invokevirtual 154, 3) := by decide +kernel
theorem dX12_go_8 : decode cX12_go 8 = .ok (.ifCond .eq 11, 3) := by decide +kernel
theorem dX12_go_11 : decode cX12_go 11 = .ok (.iload_n 2, 1) := by decide +kernel
theorem dX12_go_12 : decode cX12_go 12 = .ok (.iload_n 3, 1) := by decide +kernel
theorem dX12_go_13 : decode cX12_go 13 = .ok (.invokestatic 229, 3) := by decide +kernel
theorem dX12_go_16 : decode cX12_go 16 = .ok (.ifCond .ne 5, 3) := by decide +kernel
theorem dX12_go_19 : decode cX12_go 19 = .ok (.iconst (-1), 1) := by decide +kernel
theorem dX12_go_20 : decode cX12_go 20 = .ok (.ireturn, 1) := by decide +kernel
theorem dX12_go_21 : decode cX12_go 21 = .ok (.aload_n 0, 1) := by decide +kernel
theorem dX12_go_22 : decode cX12_go 22 = .ok (.getfield 44, 3) := by decide +kernel
theorem dX12_go_25 : decode cX12_go 25 = .ok (.aload_n 0, 1) := by decide +kernel
theorem dX12_go_26 : decode cX12_go 26 = .ok (.getfield 40, 3) := by decide +kernel
theorem dX12_go_29 : decode cX12_go 29 = .ok (.invokevirtual 233, 3) := by decide +kernel
theorem dX12_go_32 : decode cX12_go 32 = .ok (.aload_n 0, 1) := by decide +kernel
theorem dX12_go_33 : decode cX12_go 33 = .ok (.aload_n 0, 1) := by decide +kernel
theorem dX12_go_34 : decode cX12_go 34 = .ok (.getfield 40, 3) := by decide +kernel
theorem dX12_go_37 : decode cX12_go 37 = .ok (.iload_n 1, 1) := by decide +kernel
theorem dX12_go_38 : decode cX12_go 38 = .ok (.iload_n 2, 1) := by decide +kernel
theorem dX12_go_39 : decode cX12_go 39 = .ok (.iload_n 3, 1) := by decide +kernel
theorem dX12_go_40 : decode cX12_go 40 = .ok (.invokevirtual 236, 3) := by decide +kernel
theorem dX12_go_43 : decode cX12_go 43 = .ok (.invokevirtual 240, 3) := by decide +kernel
theorem dX12_go_46 : decode cX12_go 46 = .ok (.ireturn, 1) := by decide +kernel
set_option maxRecDepth 100000 in
set_option maxHeartbeats 4000000 in
theorem kX12_go {E : KE} {l : Launch} (hE : mx_ok E) (i1 : Int32) (i2 : Int32) (i3 : Int32) (hT : xOK E) (M : MM) {q : (Int32 × MM)} (hf : fX12_go i1 i2 i3 M = some q) : mx_Met E l yX12_go cX12_go 4 (some .int) 4 [.ref (E.2.1.2.1 0), .int i1, .int i2, .int i3] M (some (.int q.1)) q.2 := by
  refine mx_enter hE (by decide) (Nat.le_of_ble_eq_true rfl) ?_
  intro p e s m below meth c C hM hn ls hl
  have hx := C.1.1
  have hb := C.1.2.1
  have hown := C.1.2.2.2.1
  have hts := C.1.2.2.2.2
  have hl : lv_has ls 4 [(0, .ref (E.2.1.2.1 0)), (1, .int i1), (2, .int i2), (3, .int i3)] := hl
  rw [fX12_go] at hf
  refine lv_aload_n hx hb dX12_go_0 rfl (lv_at hl 0 rfl) ?_
  refine gX12_28 C hM (xt_0 hT) (f := (2, 9)) rfl (v := .ref (E.2.1.2.1 9)) rfl dX12_go_1 ?_
  refine lv_iload_n hx hb dX12_go_4 rfl (lv_at hl 1 rfl) ?_
  obtain ⟨q5, hq5, hf⟩ := mx_bd hf
  refine mx_callVN C hM hl.1 yo_X3_isPerson (h' := 0) (by decide) (nw_662 hT C) qw_664 qs_34 (ci := 3) (q := (RX3, TX3, 18)) rfl (xt_9 hT) (As := [.int i1]) (rest := []) (st1 := [.int (mx_b q5)]) (kX3_isPerson C.2.2.2.1 i1 hT M hq5) rfl rfl rfl (Nat.le_of_ble_eq_true rfl) dX12_go_5 (fun H locs hM => ?_)
  refine lv_if_eq (tgt := 19) hx hb dX12_go_8 (by decide) (fun hc8 => ?_) (fun hc8 => ?_)
  · replace hf := mx_ift hc8 hf
    refine lv_iconst (v := (-1 : Int32)) hx hb dX12_go_19 (by decide) ?_
    exact mx_iret C hM hf dX12_go_20
  · replace hf := mx_iff hc8 hf
    refine lv_iload_n hx hb dX12_go_11 rfl (lv_at hl 2 rfl) ?_
    refine lv_iload_n hx hb dX12_go_12 rfl (lv_at hl 3 rfl) ?_
    obtain ⟨q13, hq13, hf⟩ := mx_bd hf
    refine mx_callS C hM hl.1 yo_X12_isPlace (h' := 0) (by decide) qw_690 qw_691 (As := [.int i2, .int i3]) (rest := []) (st1 := [.int (mx_b q13)]) (kX12_isPlace C.2.2.2.1 i2 i3 hT M hq13) rfl rfl rfl (Nat.le_of_ble_eq_true rfl) dX12_go_13 (fun H locs hM => ?_)
    refine lv_if_ne (tgt := 21) hx hb dX12_go_16 (by decide) (fun hc16 => ?_) (fun hc16 => ?_)
    · replace hf := mx_iff hc16 hf
      refine lv_aload_n hx hb dX12_go_21 rfl (lv_at hl 0 rfl) ?_
      refine gX12_44 C hM (xt_0 hT) (f := (2, 38)) rfl (v := .ref (E.2.1.2.1 38)) rfl dX12_go_22 ?_
      refine lv_aload_n hx hb dX12_go_25 rfl (lv_at hl 0 rfl) ?_
      refine gX12_40 C hM (xt_0 hT) (f := (2, 29)) rfl (v := .ref (E.2.1.2.1 29)) rfl dX12_go_26 ?_
      obtain ⟨q29, hq29, hf⟩ := mx_bd hf
      refine mx_callVN C hM hl.1 yo_X9_copyFrom (h' := 1) (by decide) (nw_693 hT C) qw_695 qs_39 (ci := 9) (q := (RX9, TX9, 13)) rfl (xt_38 hT) (As := [.ref (E.2.1.2.1 29)]) (rest := []) (st1 := []) (kX9_copyFrom C.2.2.2.1 38 29 hT xiS_38 xiS_29 M hq29) rfl rfl rfl (Nat.le_of_ble_eq_true rfl) dX12_go_29 (fun H locs hM => ?_)
      refine lv_aload_n hx hb dX12_go_32 rfl (lv_at hl 0 rfl) ?_
      refine lv_aload_n hx hb dX12_go_33 rfl (lv_at hl 0 rfl) ?_
      refine gX12_40 C hM (xt_0 hT) (f := (2, 29)) rfl (v := .ref (E.2.1.2.1 29)) rfl dX12_go_34 ?_
      refine lv_iload_n hx hb dX12_go_37 rfl (lv_at hl 1 rfl) ?_
      refine lv_iload_n hx hb dX12_go_38 rfl (lv_at hl 2 rfl) ?_
      refine lv_iload_n hx hb dX12_go_39 rfl (lv_at hl 3 rfl) ?_
      obtain ⟨q40, hq40, hf⟩ := mx_bd hf
      refine mx_callVN C hM hl.1 yo_X9_walkTo (h' := 2) (by decide) (nw_698 hT C) qw_700 qs_40 (ci := 9) (q := (RX9, TX9, 13)) rfl (xt_29 hT) (As := [.int i1, .int i2, .int i3]) (rest := [.ref (E.2.1.2.1 0)]) (st1 := [.int q40.1, .ref (E.2.1.2.1 0)]) (kX9_walkTo C.2.2.2.1 29 i1 i2 i3 hT xiS_29 q29 hq40) rfl rfl rfl (Nat.le_of_ble_eq_true rfl) dX12_go_40 (fun H locs hM => ?_)
      obtain ⟨q43, hq43, hf⟩ := mx_bd hf
      refine mx_callV C hM hl.1 yo_X12_keptIfDone (h' := 3) (by decide) qw_709 qw_711 qs_42 (ci := 12) (q := (RX12, TX12, 19)) rfl (xt_0 hT) (As := [.int q40.1]) (rest := []) (st1 := [.int q43.1]) (kX12_keptIfDone C.2.2.2.1 q40.1 hT q40.2 hq43) rfl rfl rfl (Nat.le_of_ble_eq_true rfl) dX12_go_43 (fun H locs hM => ?_)
      exact mx_iret C hM hf dX12_go_46
    · replace hf := mx_ift hc16 hf
      refine lv_iconst (v := (-1 : Int32)) hx hb dX12_go_19 (by decide) ?_
      exact mx_iret C hM hf dX12_go_20
theorem dX12_hand_0 : decode cX12_hand 0 = .ok (.aload_n 0, 1) := by decide +kernel
theorem dX12_hand_1 : decode cX12_hand 1 = .ok (.getfield 28, 3) := by decide +kernel
theorem dX12_hand_4 : decode cX12_hand 4 = .ok (.iload_n 1, 1) := by decide +kernel
theorem dX12_hand_5 : decode cX12_hand 5 = .ok (.invokevirtual 154, 3) := by decide +kernel
theorem dX12_hand_8 : decode cX12_hand 8 = .ok (.ifCond .eq 25, 3) := by decide +kernel
theorem dX12_hand_11 : decode cX12_hand 11 = .ok (.aload_n 0, 1) := by decide +kernel
theorem dX12_hand_12 : decode cX12_hand 12 = .ok (.getfield 28, 3) := by decide +kernel
theorem dX12_hand_15 : decode cX12_hand 15 = .ok (.iload_n 2, 1) := by decide +kernel
theorem dX12_hand_16 : decode cX12_hand 16 = .ok (.invokevirtual 183, 3) := by decide +kernel
theorem dX12_hand_19 : decode cX12_hand 19 = .ok (.ifCond .eq 14, 3) := by decide +kernel
theorem dX12_hand_22 : decode cX12_hand 22 = .ok (.aload_n 0, 1) := by decide +kernel
theorem dX12_hand_23 : decode cX12_hand 23 = .ok (.getfield 28, 3) := by decide +kernel
theorem dX12_hand_26 : decode cX12_hand 26 = .ok (.iload_n 3, 1) := by decide +kernel
theorem dX12_hand_27 : decode cX12_hand 27 = .ok (.invokevirtual 154, 3) := by decide +kernel
theorem dX12_hand_30 : decode cX12_hand 30 = .ok (.ifCond .ne 5, 3) := by decide +kernel
theorem dX12_hand_33 : decode cX12_hand 33 = .ok (.iconst (-1), 1) := by decide +kernel
theorem dX12_hand_34 : decode cX12_hand 34 = .ok (.ireturn, 1) := by decide +kernel
theorem dX12_hand_35 : decode cX12_hand 35 = .ok (.aload_n 0, 1) := by decide +kernel
theorem dX12_hand_36 : decode cX12_hand 36 = .ok (.getfield 44, 3) := by decide +kernel
theorem dX12_hand_39 : decode cX12_hand 39 = .ok (.aload_n 0, 1) := by decide +kernel
theorem dX12_hand_40 : decode cX12_hand 40 = .ok (.getfield 40, 3) := by decide +kernel
theorem dX12_hand_43 : decode cX12_hand 43 = .ok (.invokevirtual 233, 3) := by decide +kernel
theorem dX12_hand_46 : decode cX12_hand 46 = .ok (.aload_n 0, 1) := by decide +kernel
theorem dX12_hand_47 : decode cX12_hand 47 = .ok (.aload_n 0, 1) := by decide +kernel
theorem dX12_hand_48 : decode cX12_hand 48 = .ok (.getfield 40, 3) := by decide +kernel
theorem dX12_hand_51 : decode cX12_hand 51 = .ok (.iload_n 1, 1) := by decide +kernel
theorem dX12_hand_52 : decode cX12_hand 52 = .ok (.iload_n 2, 1) := by decide +kernel
theorem dX12_hand_53 : decode cX12_hand 53 = .ok (.iload_n 3, 1) := by decide +kernel
theorem dX12_hand_54 : decode cX12_hand 54 = .ok (.invokevirtual 243, 3) := by decide +kernel
theorem dX12_hand_57 : decode cX12_hand 57 = .ok (.invokevirtual 240, 3) := by decide +kernel
theorem dX12_hand_60 : decode cX12_hand 60 = .ok (.ireturn, 1) := by decide +kernel
set_option maxRecDepth 100000 in
set_option maxHeartbeats 4000000 in
theorem kX12_hand {E : KE} {l : Launch} (hE : mx_ok E) (i1 : Int32) (i2 : Int32) (i3 : Int32) (hT : xOK E) (M : MM) {q : (Int32 × MM)} (hf : fX12_hand i1 i2 i3 M = some q) : mx_Met E l yX12_hand cX12_hand 4 (some .int) 4 [.ref (E.2.1.2.1 0), .int i1, .int i2, .int i3] M (some (.int q.1)) q.2 := by
  refine mx_enter hE (by decide) (Nat.le_of_ble_eq_true rfl) ?_
  intro p e s m below meth c C hM hn ls hl
  have hx := C.1.1
  have hb := C.1.2.1
  have hown := C.1.2.2.2.1
  have hts := C.1.2.2.2.2
  have hl : lv_has ls 4 [(0, .ref (E.2.1.2.1 0)), (1, .int i1), (2, .int i2), (3, .int i3)] := hl
  rw [fX12_hand] at hf
  refine lv_aload_n hx hb dX12_hand_0 rfl (lv_at hl 0 rfl) ?_
  refine gX12_28 C hM (xt_0 hT) (f := (2, 9)) rfl (v := .ref (E.2.1.2.1 9)) rfl dX12_hand_1 ?_
  refine lv_iload_n hx hb dX12_hand_4 rfl (lv_at hl 1 rfl) ?_
  obtain ⟨q5, hq5, hf⟩ := mx_bd hf
  refine mx_callVN C hM hl.1 yo_X3_isPerson (h' := 0) (by decide) (nw_662 hT C) qw_664 qs_34 (ci := 3) (q := (RX3, TX3, 18)) rfl (xt_9 hT) (As := [.int i1]) (rest := []) (st1 := [.int (mx_b q5)]) (kX3_isPerson C.2.2.2.1 i1 hT M hq5) rfl rfl rfl (Nat.le_of_ble_eq_true rfl) dX12_hand_5 (fun H locs hM => ?_)
  refine lv_if_eq (tgt := 33) hx hb dX12_hand_8 (by decide) (fun hc8 => ?_) (fun hc8 => ?_)
  · replace hf := mx_ift hc8 hf
    refine lv_iconst (v := (-1 : Int32)) hx hb dX12_hand_33 (by decide) ?_
    exact mx_iret C hM hf dX12_hand_34
  · replace hf := mx_iff hc8 hf
    refine lv_aload_n hx hb dX12_hand_11 rfl (lv_at hl 0 rfl) ?_
    refine gX12_28 C hM (xt_0 hT) (f := (2, 9)) rfl (v := .ref (E.2.1.2.1 9)) rfl dX12_hand_12 ?_
    refine lv_iload_n hx hb dX12_hand_15 rfl (lv_at hl 2 rfl) ?_
    obtain ⟨q16, hq16, hf⟩ := mx_bd hf
    refine mx_callVN C hM hl.1 yo_X3_isRing (h' := 0) (by decide) (nw_658 hT C) qw_660 qs_33 (ci := 3) (q := (RX3, TX3, 18)) rfl (xt_9 hT) (As := [.int i2]) (rest := []) (st1 := [.int (mx_b q16)]) (kX3_isRing C.2.2.2.1 i2 hT M hq16) rfl rfl rfl (Nat.le_of_ble_eq_true rfl) dX12_hand_16 (fun H locs hM => ?_)
    refine lv_if_eq (tgt := 33) hx hb dX12_hand_19 (by decide) (fun hc19 => ?_) (fun hc19 => ?_)
    · replace hf := mx_ift hc19 hf
      refine lv_iconst (v := (-1 : Int32)) hx hb dX12_hand_33 (by decide) ?_
      exact mx_iret C hM hf dX12_hand_34
    · replace hf := mx_iff hc19 hf
      refine lv_aload_n hx hb dX12_hand_22 rfl (lv_at hl 0 rfl) ?_
      refine gX12_28 C hM (xt_0 hT) (f := (2, 9)) rfl (v := .ref (E.2.1.2.1 9)) rfl dX12_hand_23 ?_
      refine lv_iload_n hx hb dX12_hand_26 rfl (lv_at hl 3 rfl) ?_
      obtain ⟨q27, hq27, hf⟩ := mx_bd hf
      refine mx_callVN C hM hl.1 yo_X3_isPerson (h' := 0) (by decide) (nw_662 hT C) qw_664 qs_34 (ci := 3) (q := (RX3, TX3, 18)) rfl (xt_9 hT) (As := [.int i3]) (rest := []) (st1 := [.int (mx_b q27)]) (kX3_isPerson C.2.2.2.1 i3 hT M hq27) rfl rfl rfl (Nat.le_of_ble_eq_true rfl) dX12_hand_27 (fun H locs hM => ?_)
      refine lv_if_ne (tgt := 35) hx hb dX12_hand_30 (by decide) (fun hc30 => ?_) (fun hc30 => ?_)
      · replace hf := mx_iff hc30 hf
        refine lv_aload_n hx hb dX12_hand_35 rfl (lv_at hl 0 rfl) ?_
        refine gX12_44 C hM (xt_0 hT) (f := (2, 38)) rfl (v := .ref (E.2.1.2.1 38)) rfl dX12_hand_36 ?_
        refine lv_aload_n hx hb dX12_hand_39 rfl (lv_at hl 0 rfl) ?_
        refine gX12_40 C hM (xt_0 hT) (f := (2, 29)) rfl (v := .ref (E.2.1.2.1 29)) rfl dX12_hand_40 ?_
        obtain ⟨q43, hq43, hf⟩ := mx_bd hf
        refine mx_callVN C hM hl.1 yo_X9_copyFrom (h' := 1) (by decide) (nw_693 hT C) qw_695 qs_39 (ci := 9) (q := (RX9, TX9, 13)) rfl (xt_38 hT) (As := [.ref (E.2.1.2.1 29)]) (rest := []) (st1 := []) (kX9_copyFrom C.2.2.2.1 38 29 hT xiS_38 xiS_29 M hq43) rfl rfl rfl (Nat.le_of_ble_eq_true rfl) dX12_hand_43 (fun H locs hM => ?_)
        refine lv_aload_n hx hb dX12_hand_46 rfl (lv_at hl 0 rfl) ?_
        refine lv_aload_n hx hb dX12_hand_47 rfl (lv_at hl 0 rfl) ?_
        refine gX12_40 C hM (xt_0 hT) (f := (2, 29)) rfl (v := .ref (E.2.1.2.1 29)) rfl dX12_hand_48 ?_
        refine lv_iload_n hx hb dX12_hand_51 rfl (lv_at hl 1 rfl) ?_
        refine lv_iload_n hx hb dX12_hand_52 rfl (lv_at hl 2 rfl) ?_
        refine lv_iload_n hx hb dX12_hand_53 rfl (lv_at hl 3 rfl) ?_
        obtain ⟨q54, hq54, hf⟩ := mx_bd hf
        refine mx_callVN C hM hl.1 yo_X9_passOn (h' := 3) (by decide) (nw_726 hT C) qw_728 qs_45 (ci := 9) (q := (RX9, TX9, 13)) rfl (xt_29 hT) (As := [.int i1, .int i2, .int i3]) (rest := [.ref (E.2.1.2.1 0)]) (st1 := [.int q54.1, .ref (E.2.1.2.1 0)]) (kX9_passOn C.2.2.2.1 29 i1 i2 i3 hT xiS_29 q43 hq54) rfl rfl rfl (Nat.le_of_ble_eq_true rfl) dX12_hand_54 (fun H locs hM => ?_)
        obtain ⟨q57, hq57, hf⟩ := mx_bd hf
        refine mx_callV C hM hl.1 yo_X12_keptIfDone (h' := 3) (by decide) qw_709 qw_711 qs_42 (ci := 12) (q := (RX12, TX12, 19)) rfl (xt_0 hT) (As := [.int q54.1]) (rest := []) (st1 := [.int q57.1]) (kX12_keptIfDone C.2.2.2.1 q54.1 hT q54.2 hq57) rfl rfl rfl (Nat.le_of_ble_eq_true rfl) dX12_hand_57 (fun H locs hM => ?_)
        exact mx_iret C hM hf dX12_hand_60
      · replace hf := mx_ift hc30 hf
        refine lv_iconst (v := (-1 : Int32)) hx hb dX12_hand_33 (by decide) ?_
        exact mx_iret C hM hf dX12_hand_34
theorem dX12_wear_0 : decode cX12_wear 0 = .ok (.aload_n 0, 1) := by decide +kernel
theorem dX12_wear_1 : decode cX12_wear 1 = .ok (.getfield 28, 3) := by decide +kernel
theorem dX12_wear_4 : decode cX12_wear 4 = .ok (.iload_n 1, 1) := by decide +kernel
theorem dX12_wear_5 : decode cX12_wear 5 = .ok (.invokevirtual 154, 3) := by decide +kernel
theorem dX12_wear_8 : decode cX12_wear 8 = .ok (.ifCond .eq 14, 3) := by decide +kernel
theorem dX12_wear_11 : decode cX12_wear 11 = .ok (.aload_n 0, 1) := by decide +kernel
theorem dX12_wear_12 : decode cX12_wear 12 = .ok (.getfield 28, 3) := by decide +kernel
theorem dX12_wear_15 : decode cX12_wear 15 = .ok (.iload_n 2, 1) := by decide +kernel
theorem dX12_wear_16 : decode cX12_wear 16 = .ok (.invokevirtual 183, 3) := by decide +kernel
theorem dX12_wear_19 : decode cX12_wear 19 = .ok (.ifCond .ne 5, 3) := by decide +kernel
theorem dX12_wear_22 : decode cX12_wear 22 = .ok (.iconst (-1), 1) := by decide +kernel
theorem dX12_wear_23 : decode cX12_wear 23 = .ok (.ireturn, 1) := by decide +kernel
theorem dX12_wear_24 : decode cX12_wear 24 = .ok (.aload_n 0, 1) := by decide +kernel
theorem dX12_wear_25 : decode cX12_wear 25 = .ok (.getfield 44, 3) := by decide +kernel
theorem dX12_wear_28 : decode cX12_wear 28 = .ok (.aload_n 0, 1) := by decide +kernel
theorem dX12_wear_29 : decode cX12_wear 29 = .ok (.getfield 40, 3) := by decide +kernel
theorem dX12_wear_32 : decode cX12_wear 32 = .ok (.invokevirtual 233, 3) := by decide +kernel
theorem dX12_wear_35 : decode cX12_wear 35 = .ok (.aload_n 0, 1) := by decide +kernel
theorem dX12_wear_36 : decode cX12_wear 36 = .ok (.aload_n 0, 1) := by decide +kernel
theorem dX12_wear_37 : decode cX12_wear 37 = .ok (.getfield 40, 3) := by decide +kernel
theorem dX12_wear_40 : decode cX12_wear 40 = .ok (.iload_n 1, 1) := by decide +kernel
theorem dX12_wear_41 : decode cX12_wear 41 = .ok (.iload_n 2, 1) := by decide +kernel
theorem dX12_wear_42 : decode cX12_wear 42 = .ok (.invokevirtual 246, 3) := by decide +kernel
theorem dX12_wear_45 : decode cX12_wear 45 = .ok (.invokevirtual 240, 3) := by decide +kernel
theorem dX12_wear_48 : decode cX12_wear 48 = .ok (.ireturn, 1) := by decide +kernel
set_option maxRecDepth 100000 in
set_option maxHeartbeats 4000000 in
theorem kX12_wear {E : KE} {l : Launch} (hE : mx_ok E) (i1 : Int32) (i2 : Int32) (hT : xOK E) (M : MM) {q : (Int32 × MM)} (hf : fX12_wear i1 i2 M = some q) : mx_Met E l yX12_wear cX12_wear 3 (some .int) 4 [.ref (E.2.1.2.1 0), .int i1, .int i2] M (some (.int q.1)) q.2 := by
  refine mx_enter hE (by decide) (Nat.le_of_ble_eq_true rfl) ?_
  intro p e s m below meth c C hM hn ls hl
  have hx := C.1.1
  have hb := C.1.2.1
  have hown := C.1.2.2.2.1
  have hts := C.1.2.2.2.2
  have hl : lv_has ls 3 [(0, .ref (E.2.1.2.1 0)), (1, .int i1), (2, .int i2)] := hl
  rw [fX12_wear] at hf
  refine lv_aload_n hx hb dX12_wear_0 rfl (lv_at hl 0 rfl) ?_
  refine gX12_28 C hM (xt_0 hT) (f := (2, 9)) rfl (v := .ref (E.2.1.2.1 9)) rfl dX12_wear_1 ?_
  refine lv_iload_n hx hb dX12_wear_4 rfl (lv_at hl 1 rfl) ?_
  obtain ⟨q5, hq5, hf⟩ := mx_bd hf
  refine mx_callVN C hM hl.1 yo_X3_isPerson (h' := 0) (by decide) (nw_662 hT C) qw_664 qs_34 (ci := 3) (q := (RX3, TX3, 18)) rfl (xt_9 hT) (As := [.int i1]) (rest := []) (st1 := [.int (mx_b q5)]) (kX3_isPerson C.2.2.2.1 i1 hT M hq5) rfl rfl rfl (Nat.le_of_ble_eq_true rfl) dX12_wear_5 (fun H locs hM => ?_)
  refine lv_if_eq (tgt := 22) hx hb dX12_wear_8 (by decide) (fun hc8 => ?_) (fun hc8 => ?_)
  · replace hf := mx_ift hc8 hf
    refine lv_iconst (v := (-1 : Int32)) hx hb dX12_wear_22 (by decide) ?_
    exact mx_iret C hM hf dX12_wear_23
  · replace hf := mx_iff hc8 hf
    refine lv_aload_n hx hb dX12_wear_11 rfl (lv_at hl 0 rfl) ?_
    refine gX12_28 C hM (xt_0 hT) (f := (2, 9)) rfl (v := .ref (E.2.1.2.1 9)) rfl dX12_wear_12 ?_
    refine lv_iload_n hx hb dX12_wear_15 rfl (lv_at hl 2 rfl) ?_
    obtain ⟨q16, hq16, hf⟩ := mx_bd hf
    refine mx_callVN C hM hl.1 yo_X3_isRing (h' := 0) (by decide) (nw_658 hT C) qw_660 qs_33 (ci := 3) (q := (RX3, TX3, 18)) rfl (xt_9 hT) (As := [.int i2]) (rest := []) (st1 := [.int (mx_b q16)]) (kX3_isRing C.2.2.2.1 i2 hT M hq16) rfl rfl rfl (Nat.le_of_ble_eq_true rfl) dX12_wear_16 (fun H locs hM => ?_)
    refine lv_if_ne (tgt := 24) hx hb dX12_wear_19 (by decide) (fun hc19 => ?_) (fun hc19 => ?_)
    · replace hf := mx_iff hc19 hf
      refine lv_aload_n hx hb dX12_wear_24 rfl (lv_at hl 0 rfl) ?_
      refine gX12_44 C hM (xt_0 hT) (f := (2, 38)) rfl (v := .ref (E.2.1.2.1 38)) rfl dX12_wear_25 ?_
      refine lv_aload_n hx hb dX12_wear_28 rfl (lv_at hl 0 rfl) ?_
      refine gX12_40 C hM (xt_0 hT) (f := (2, 29)) rfl (v := .ref (E.2.1.2.1 29)) rfl dX12_wear_29 ?_
      obtain ⟨q32, hq32, hf⟩ := mx_bd hf
      refine mx_callVN C hM hl.1 yo_X9_copyFrom (h' := 1) (by decide) (nw_693 hT C) qw_695 qs_39 (ci := 9) (q := (RX9, TX9, 13)) rfl (xt_38 hT) (As := [.ref (E.2.1.2.1 29)]) (rest := []) (st1 := []) (kX9_copyFrom C.2.2.2.1 38 29 hT xiS_38 xiS_29 M hq32) rfl rfl rfl (Nat.le_of_ble_eq_true rfl) dX12_wear_32 (fun H locs hM => ?_)
      refine lv_aload_n hx hb dX12_wear_35 rfl (lv_at hl 0 rfl) ?_
      refine lv_aload_n hx hb dX12_wear_36 rfl (lv_at hl 0 rfl) ?_
      refine gX12_40 C hM (xt_0 hT) (f := (2, 29)) rfl (v := .ref (E.2.1.2.1 29)) rfl dX12_wear_37 ?_
      refine lv_iload_n hx hb dX12_wear_40 rfl (lv_at hl 1 rfl) ?_
      refine lv_iload_n hx hb dX12_wear_41 rfl (lv_at hl 2 rfl) ?_
      obtain ⟨q42, hq42, hf⟩ := mx_bd hf
      refine mx_callVN C hM hl.1 yo_X9_putOn (h' := 1) (by decide) (nw_742 hT C) qw_744 qs_48 (ci := 9) (q := (RX9, TX9, 13)) rfl (xt_29 hT) (As := [.int i1, .int i2]) (rest := [.ref (E.2.1.2.1 0)]) (st1 := [.int q42.1, .ref (E.2.1.2.1 0)]) (kX9_putOn C.2.2.2.1 29 i1 i2 hT xiS_29 q32 hq42) rfl rfl rfl (Nat.le_of_ble_eq_true rfl) dX12_wear_42 (fun H locs hM => ?_)
      obtain ⟨q45, hq45, hf⟩ := mx_bd hf
      refine mx_callV C hM hl.1 yo_X12_keptIfDone (h' := 3) (by decide) qw_709 qw_711 qs_42 (ci := 12) (q := (RX12, TX12, 19)) rfl (xt_0 hT) (As := [.int q42.1]) (rest := []) (st1 := [.int q45.1]) (kX12_keptIfDone C.2.2.2.1 q42.1 hT q42.2 hq45) rfl rfl rfl (Nat.le_of_ble_eq_true rfl) dX12_wear_45 (fun H locs hM => ?_)
      exact mx_iret C hM hf dX12_wear_48
    · replace hf := mx_ift hc19 hf
      refine lv_iconst (v := (-1 : Int32)) hx hb dX12_wear_22 (by decide) ?_
      exact mx_iret C hM hf dX12_wear_23
theorem dX12_doff_0 : decode cX12_doff 0 = .ok (.aload_n 0, 1) := by decide +kernel
theorem dX12_doff_1 : decode cX12_doff 1 = .ok (.getfield 28, 3) := by decide +kernel
theorem dX12_doff_4 : decode cX12_doff 4 = .ok (.iload_n 1, 1) := by decide +kernel
theorem dX12_doff_5 : decode cX12_doff 5 = .ok (.invokevirtual 154, 3) := by decide +kernel
theorem dX12_doff_8 : decode cX12_doff 8 = .ok (.ifCond .ne 5, 3) := by decide +kernel
theorem dX12_doff_11 : decode cX12_doff 11 = .ok (.iconst (-1), 1) := by decide +kernel
theorem dX12_doff_12 : decode cX12_doff 12 = .ok (.ireturn, 1) := by decide +kernel
theorem dX12_doff_13 : decode cX12_doff 13 = .ok (.aload_n 0, 1) := by decide +kernel
theorem dX12_doff_14 : decode cX12_doff 14 = .ok (.getfield 44, 3) := by decide +kernel
theorem dX12_doff_17 : decode cX12_doff 17 = .ok (.aload_n 0, 1) := by decide +kernel
theorem dX12_doff_18 : decode cX12_doff 18 = .ok (.getfield 40, 3) := by decide +kernel
theorem dX12_doff_21 : decode cX12_doff 21 = .ok (.invokevirtual 233, 3) := by decide +kernel
theorem dX12_doff_24 : decode cX12_doff 24 = .ok (.aload_n 0, 1) := by decide +kernel
theorem dX12_doff_25 : decode cX12_doff 25 = .ok (.aload_n 0, 1) := by decide +kernel
theorem dX12_doff_26 : decode cX12_doff 26 = .ok (.getfield 40, 3) := by decide +kernel
theorem dX12_doff_29 : decode cX12_doff 29 = .ok (.iload_n 1, 1) := by decide +kernel
theorem dX12_doff_30 : decode cX12_doff 30 = .ok (.invokevirtual 249, 3) := by decide +kernel
theorem dX12_doff_33 : decode cX12_doff 33 = .ok (.invokevirtual 240, 3) := by decide +kernel
theorem dX12_doff_36 : decode cX12_doff 36 = .ok (.ireturn, 1) := by decide +kernel
set_option maxRecDepth 100000 in
set_option maxHeartbeats 4000000 in
theorem kX12_doff {E : KE} {l : Launch} (hE : mx_ok E) (i1 : Int32) (hT : xOK E) (M : MM) {q : (Int32 × MM)} (hf : fX12_doff i1 M = some q) : mx_Met E l yX12_doff cX12_doff 2 (some .int) 4 [.ref (E.2.1.2.1 0), .int i1] M (some (.int q.1)) q.2 := by
  refine mx_enter hE (by decide) (Nat.le_of_ble_eq_true rfl) ?_
  intro p e s m below meth c C hM hn ls hl
  have hx := C.1.1
  have hb := C.1.2.1
  have hown := C.1.2.2.2.1
  have hts := C.1.2.2.2.2
  have hl : lv_has ls 2 [(0, .ref (E.2.1.2.1 0)), (1, .int i1)] := hl
  rw [fX12_doff] at hf
  refine lv_aload_n hx hb dX12_doff_0 rfl (lv_at hl 0 rfl) ?_
  refine gX12_28 C hM (xt_0 hT) (f := (2, 9)) rfl (v := .ref (E.2.1.2.1 9)) rfl dX12_doff_1 ?_
  refine lv_iload_n hx hb dX12_doff_4 rfl (lv_at hl 1 rfl) ?_
  obtain ⟨q5, hq5, hf⟩ := mx_bd hf
  refine mx_callVN C hM hl.1 yo_X3_isPerson (h' := 0) (by decide) (nw_662 hT C) qw_664 qs_34 (ci := 3) (q := (RX3, TX3, 18)) rfl (xt_9 hT) (As := [.int i1]) (rest := []) (st1 := [.int (mx_b q5)]) (kX3_isPerson C.2.2.2.1 i1 hT M hq5) rfl rfl rfl (Nat.le_of_ble_eq_true rfl) dX12_doff_5 (fun H locs hM => ?_)
  refine lv_if_ne (tgt := 13) hx hb dX12_doff_8 (by decide) (fun hc8 => ?_) (fun hc8 => ?_)
  · replace hf := mx_iff hc8 hf
    refine lv_aload_n hx hb dX12_doff_13 rfl (lv_at hl 0 rfl) ?_
    refine gX12_44 C hM (xt_0 hT) (f := (2, 38)) rfl (v := .ref (E.2.1.2.1 38)) rfl dX12_doff_14 ?_
    refine lv_aload_n hx hb dX12_doff_17 rfl (lv_at hl 0 rfl) ?_
    refine gX12_40 C hM (xt_0 hT) (f := (2, 29)) rfl (v := .ref (E.2.1.2.1 29)) rfl dX12_doff_18 ?_
    obtain ⟨q21, hq21, hf⟩ := mx_bd hf
    refine mx_callVN C hM hl.1 yo_X9_copyFrom (h' := 1) (by decide) (nw_693 hT C) qw_695 qs_39 (ci := 9) (q := (RX9, TX9, 13)) rfl (xt_38 hT) (As := [.ref (E.2.1.2.1 29)]) (rest := []) (st1 := []) (kX9_copyFrom C.2.2.2.1 38 29 hT xiS_38 xiS_29 M hq21) rfl rfl rfl (Nat.le_of_ble_eq_true rfl) dX12_doff_21 (fun H locs hM => ?_)
    refine lv_aload_n hx hb dX12_doff_24 rfl (lv_at hl 0 rfl) ?_
    refine lv_aload_n hx hb dX12_doff_25 rfl (lv_at hl 0 rfl) ?_
    refine gX12_40 C hM (xt_0 hT) (f := (2, 29)) rfl (v := .ref (E.2.1.2.1 29)) rfl dX12_doff_26 ?_
    refine lv_iload_n hx hb dX12_doff_29 rfl (lv_at hl 1 rfl) ?_
    obtain ⟨q30, hq30, hf⟩ := mx_bd hf
    refine mx_callVN C hM hl.1 yo_X9_takeOff (h' := 1) (by decide) (nw_755 hT C) qw_757 qs_50 (ci := 9) (q := (RX9, TX9, 13)) rfl (xt_29 hT) (As := [.int i1]) (rest := [.ref (E.2.1.2.1 0)]) (st1 := [.int q30.1, .ref (E.2.1.2.1 0)]) (kX9_takeOff C.2.2.2.1 29 i1 hT xiS_29 q21 hq30) rfl rfl rfl (Nat.le_of_ble_eq_true rfl) dX12_doff_30 (fun H locs hM => ?_)
    obtain ⟨q33, hq33, hf⟩ := mx_bd hf
    refine mx_callV C hM hl.1 yo_X12_keptIfDone (h' := 3) (by decide) qw_709 qw_711 qs_42 (ci := 12) (q := (RX12, TX12, 19)) rfl (xt_0 hT) (As := [.int q30.1]) (rest := []) (st1 := [.int q33.1]) (kX12_keptIfDone C.2.2.2.1 q30.1 hT q30.2 hq33) rfl rfl rfl (Nat.le_of_ble_eq_true rfl) dX12_doff_33 (fun H locs hM => ?_)
    exact mx_iret C hM hf dX12_doff_36
  · replace hf := mx_ift hc8 hf
    refine lv_iconst (v := (-1 : Int32)) hx hb dX12_doff_11 (by decide) ?_
    exact mx_iret C hM hf dX12_doff_12
