theorem dJ6_bitCount_0f7a4_0 : decode cJ6_bitCount_0f7a4 0 = .ok (.iload_n 0, 1) := by decide +kernel
theorem dJ6_bitCount_0f7a4_1 : decode cJ6_bitCount_0f7a4 1 = .ok (.iload_n 0, 1) := by decide +kernel
theorem dJ6_bitCount_0f7a4_2 : decode cJ6_bitCount_0f7a4 2 = .ok (.iconst 1, 1) := by decide +kernel
theorem dJ6_bitCount_0f7a4_3 : decode cJ6_bitCount_0f7a4 3 = .ok (.iushr, 1) := by decide +kernel
theorem dJ6_bitCount_0f7a4_4 : decode cJ6_bitCount_0f7a4 4 = .ok (.ldc_w 265, 3) := by decide +kernel
theorem dJ6_bitCount_0f7a4_7 : decode cJ6_bitCount_0f7a4 7 = .ok (.iand, 1) := by decide +kernel
theorem dJ6_bitCount_0f7a4_8 : decode cJ6_bitCount_0f7a4 8 = .ok (.isub, 1) := by decide +kernel
theorem dJ6_bitCount_0f7a4_9 : decode cJ6_bitCount_0f7a4 9 = .ok (.istore_n 0, 1) := by decide +kernel
theorem dJ6_bitCount_0f7a4_10 : decode cJ6_bitCount_0f7a4 10 = .ok (.iload_n 0, 1) := by decide +kernel
theorem dJ6_bitCount_0f7a4_11 : decode cJ6_bitCount_0f7a4 11 = .ok (.ldc_w 266, 3) := by decide +kernel
theorem dJ6_bitCount_0f7a4_14 : decode cJ6_bitCount_0f7a4 14 = .ok (.iand, 1) := by decide +kernel
theorem dJ6_bitCount_0f7a4_15 : decode cJ6_bitCount_0f7a4 15 = .ok (.iload_n 0, 1) := by decide +kernel
theorem dJ6_bitCount_0f7a4_16 : decode cJ6_bitCount_0f7a4 16 = .ok (.iconst 2, 1) := by decide +kernel
theorem dJ6_bitCount_0f7a4_17 : decode cJ6_bitCount_0f7a4 17 = .ok (.iushr, 1) := by decide +kernel
theorem dJ6_bitCount_0f7a4_18 : decode cJ6_bitCount_0f7a4 18 = .ok (.ldc_w 266, 3) := by decide +kernel
theorem dJ6_bitCount_0f7a4_21 : decode cJ6_bitCount_0f7a4 21 = .ok (.iand, 1) := by decide +kernel
theorem dJ6_bitCount_0f7a4_22 : decode cJ6_bitCount_0f7a4 22 = .ok (.iadd, 1) := by decide +kernel
theorem dJ6_bitCount_0f7a4_23 : decode cJ6_bitCount_0f7a4 23 = .ok (.istore_n 0, 1) := by decide +kernel
theorem dJ6_bitCount_0f7a4_24 : decode cJ6_bitCount_0f7a4 24 = .ok (.iload_n 0, 1) := by decide +kernel
theorem dJ6_bitCount_0f7a4_25 : decode cJ6_bitCount_0f7a4 25 = .ok (.iload_n 0, 1) := by decide +kernel
theorem dJ6_bitCount_0f7a4_26 : decode cJ6_bitCount_0f7a4 26 = .ok (.iconst 4, 1) := by decide +kernel
theorem dJ6_bitCount_0f7a4_27 : decode cJ6_bitCount_0f7a4 27 = .ok (.iushr, 1) := by decide +kernel
theorem dJ6_bitCount_0f7a4_28 : decode cJ6_bitCount_0f7a4 28 = .ok (.iadd, 1) := by decide +kernel
theorem dJ6_bitCount_0f7a4_29 : decode cJ6_bitCount_0f7a4 29 = .ok (.ldc_w 267, 3) := by decide +kernel
theorem dJ6_bitCount_0f7a4_32 : decode cJ6_bitCount_0f7a4 32 = .ok (.iand, 1) := by decide +kernel
theorem dJ6_bitCount_0f7a4_33 : decode cJ6_bitCount_0f7a4 33 = .ok (.istore_n 0, 1) := by decide +kernel
theorem dJ6_bitCount_0f7a4_34 : decode cJ6_bitCount_0f7a4 34 = .ok (.iload_n 0, 1) := by decide +kernel
theorem dJ6_bitCount_0f7a4_35 : decode cJ6_bitCount_0f7a4 35 = .ok (.iload_n 0, 1) := by decide +kernel
theorem dJ6_bitCount_0f7a4_36 : decode cJ6_bitCount_0f7a4 36 = .ok (.bipush 8, 2) := by decide +kernel
theorem dJ6_bitCount_0f7a4_38 : decode cJ6_bitCount_0f7a4 38 = .ok (.iushr, 1) := by decide +kernel
theorem dJ6_bitCount_0f7a4_39 : decode cJ6_bitCount_0f7a4 39 = .ok (.iadd, 1) := by decide +kernel
theorem dJ6_bitCount_0f7a4_40 : decode cJ6_bitCount_0f7a4 40 = .ok (.istore_n 0, 1) := by decide +kernel
theorem dJ6_bitCount_0f7a4_41 : decode cJ6_bitCount_0f7a4 41 = .ok (.iload_n 0, 1) := by decide +kernel
theorem dJ6_bitCount_0f7a4_42 : decode cJ6_bitCount_0f7a4 42 = .ok (.iload_n 0, 1) := by decide +kernel
theorem dJ6_bitCount_0f7a4_43 : decode cJ6_bitCount_0f7a4 43 = .ok (.bipush 16, 2) := by decide +kernel
theorem dJ6_bitCount_0f7a4_45 : decode cJ6_bitCount_0f7a4 45 = .ok (.iushr, 1) := by decide +kernel
theorem dJ6_bitCount_0f7a4_46 : decode cJ6_bitCount_0f7a4 46 = .ok (.iadd, 1) := by decide +kernel
theorem dJ6_bitCount_0f7a4_47 : decode cJ6_bitCount_0f7a4 47 = .ok (.istore_n 0, 1) := by decide +kernel
theorem dJ6_bitCount_0f7a4_48 : decode cJ6_bitCount_0f7a4 48 = .ok (.iload_n 0, 1) := by decide +kernel
theorem dJ6_bitCount_0f7a4_49 : decode cJ6_bitCount_0f7a4 49 = .ok (.bipush 63, 2) := by decide +kernel
theorem dJ6_bitCount_0f7a4_51 : decode cJ6_bitCount_0f7a4 51 = .ok (.iand, 1) := by decide +kernel
theorem dJ6_bitCount_0f7a4_52 : decode cJ6_bitCount_0f7a4 52 = .ok (.ireturn, 1) := by decide +kernel
set_option maxRecDepth 100000 in
set_option maxHeartbeats 4000000 in
theorem kJ6_bitCount_0f7a4 {E : KE} {l : Launch} (hE : mx_ok E) (i0 : Int32)  (M : MM) {q : Int32} (hf : fJ6_bitCount_0f7a4 i0 M = some q) : mx_Met E l yJ6_bitCount_0f7a4 cJ6_bitCount_0f7a4 1 (some .int) 0 [.int i0] M (some (.int q)) M := by
  refine mx_enter hE (by decide) (Nat.le_of_ble_eq_true rfl) ?_
  intro p e s m below meth c C hM hn ls hl
  have hx := C.1.1
  have hb := C.1.2.1
  have hown := C.1.2.2.2.1
  have hts := C.1.2.2.2.2
  have hl : lv_has ls 1 [(0, .int i0)] := hl
  rw [fJ6_bitCount_0f7a4] at hf
  refine lv_iload_n hx hb dJ6_bitCount_0f7a4_0 rfl (lv_at hl 0 rfl) ?_
  refine lv_iload_n hx hb dJ6_bitCount_0f7a4_1 rfl (lv_at hl 0 rfl) ?_
  refine lv_iconst (v := (1 : Int32)) hx hb dJ6_bitCount_0f7a4_2 (by decide) ?_
  refine lv_iushr (v := (mx_ushr i0 (1 : Int32))) hx hb dJ6_bitCount_0f7a4_3 rfl ?_
  refine lv_ldcw (v := (1431655765)) hx hb hown (hts _ qw_790) dJ6_bitCount_0f7a4_4 ?_
  refine lv_iand hx hb dJ6_bitCount_0f7a4_7 ?_
  refine lv_isub hx hb dJ6_bitCount_0f7a4_8 ?_
  refine lv_istore_n (lv' := [(0, .int (i0 - ((mx_ushr i0 (1 : Int32)) &&& (1431655765 : Int32))))]) hx hb dJ6_bitCount_0f7a4_9 rfl hl (by decide) rfl (fun ls hl => ?_)
  refine lv_iload_n hx hb dJ6_bitCount_0f7a4_10 rfl (lv_at hl 0 rfl) ?_
  refine lv_ldcw (v := (858993459)) hx hb hown (hts _ qw_791) dJ6_bitCount_0f7a4_11 ?_
  refine lv_iand hx hb dJ6_bitCount_0f7a4_14 ?_
  refine lv_iload_n hx hb dJ6_bitCount_0f7a4_15 rfl (lv_at hl 0 rfl) ?_
  refine lv_iconst (v := (2 : Int32)) hx hb dJ6_bitCount_0f7a4_16 (by decide) ?_
  refine lv_iushr (v := (mx_ushr (i0 - ((mx_ushr i0 (1 : Int32)) &&& (1431655765 : Int32))) (2 : Int32))) hx hb dJ6_bitCount_0f7a4_17 rfl ?_
  refine lv_ldcw (v := (858993459)) hx hb hown (hts _ qw_791) dJ6_bitCount_0f7a4_18 ?_
  refine lv_iand hx hb dJ6_bitCount_0f7a4_21 ?_
  refine lv_iadd hx hb dJ6_bitCount_0f7a4_22 ?_
  refine lv_istore_n (lv' := [(0, .int (((i0 - ((mx_ushr i0 (1 : Int32)) &&& (1431655765 : Int32))) &&& (858993459 : Int32)) + ((mx_ushr (i0 - ((mx_ushr i0 (1 : Int32)) &&& (1431655765 : Int32))) (2 : Int32)) &&& (858993459 : Int32))))]) hx hb dJ6_bitCount_0f7a4_23 rfl hl (by decide) rfl (fun ls hl => ?_)
  refine lv_iload_n hx hb dJ6_bitCount_0f7a4_24 rfl (lv_at hl 0 rfl) ?_
  refine lv_iload_n hx hb dJ6_bitCount_0f7a4_25 rfl (lv_at hl 0 rfl) ?_
  refine lv_iconst (v := (4 : Int32)) hx hb dJ6_bitCount_0f7a4_26 (by decide) ?_
  refine lv_iushr (v := (mx_ushr (((i0 - ((mx_ushr i0 (1 : Int32)) &&& (1431655765 : Int32))) &&& (858993459 : Int32)) + ((mx_ushr (i0 - ((mx_ushr i0 (1 : Int32)) &&& (1431655765 : Int32))) (2 : Int32)) &&& (858993459 : Int32))) (4 : Int32))) hx hb dJ6_bitCount_0f7a4_27 rfl ?_
  refine lv_iadd hx hb dJ6_bitCount_0f7a4_28 ?_
  refine lv_ldcw (v := (252645135)) hx hb hown (hts _ qw_792) dJ6_bitCount_0f7a4_29 ?_
  refine lv_iand hx hb dJ6_bitCount_0f7a4_32 ?_
  refine lv_istore_n (lv' := [(0, .int (((((i0 - ((mx_ushr i0 (1 : Int32)) &&& (1431655765 : Int32))) &&& (858993459 : Int32)) + ((mx_ushr (i0 - ((mx_ushr i0 (1 : Int32)) &&& (1431655765 : Int32))) (2 : Int32)) &&& (858993459 : Int32))) + (mx_ushr (((i0 - ((mx_ushr i0 (1 : Int32)) &&& (1431655765 : Int32))) &&& (858993459 : Int32)) + ((mx_ushr (i0 - ((mx_ushr i0 (1 : Int32)) &&& (1431655765 : Int32))) (2 : Int32)) &&& (858993459 : Int32))) (4 : Int32))) &&& (252645135 : Int32)))]) hx hb dJ6_bitCount_0f7a4_33 rfl hl (by decide) rfl (fun ls hl => ?_)
  refine lv_iload_n hx hb dJ6_bitCount_0f7a4_34 rfl (lv_at hl 0 rfl) ?_
  refine lv_iload_n hx hb dJ6_bitCount_0f7a4_35 rfl (lv_at hl 0 rfl) ?_
  refine lv_bipush (v := (8 : Int32)) hx hb dJ6_bitCount_0f7a4_36 (by decide) ?_
  refine lv_iushr (v := (mx_ushr (((((i0 - ((mx_ushr i0 (1 : Int32)) &&& (1431655765 : Int32))) &&& (858993459 : Int32)) + ((mx_ushr (i0 - ((mx_ushr i0 (1 : Int32)) &&& (1431655765 : Int32))) (2 : Int32)) &&& (858993459 : Int32))) + (mx_ushr (((i0 - ((mx_ushr i0 (1 : Int32)) &&& (1431655765 : Int32))) &&& (858993459 : Int32)) + ((mx_ushr (i0 - ((mx_ushr i0 (1 : Int32)) &&& (1431655765 : Int32))) (2 : Int32)) &&& (858993459 : Int32))) (4 : Int32))) &&& (252645135 : Int32)) (8 : Int32))) hx hb dJ6_bitCount_0f7a4_38 rfl ?_
  refine lv_iadd hx hb dJ6_bitCount_0f7a4_39 ?_
  refine lv_istore_n (lv' := [(0, .int ((((((i0 - ((mx_ushr i0 (1 : Int32)) &&& (1431655765 : Int32))) &&& (858993459 : Int32)) + ((mx_ushr (i0 - ((mx_ushr i0 (1 : Int32)) &&& (1431655765 : Int32))) (2 : Int32)) &&& (858993459 : Int32))) + (mx_ushr (((i0 - ((mx_ushr i0 (1 : Int32)) &&& (1431655765 : Int32))) &&& (858993459 : Int32)) + ((mx_ushr (i0 - ((mx_ushr i0 (1 : Int32)) &&& (1431655765 : Int32))) (2 : Int32)) &&& (858993459 : Int32))) (4 : Int32))) &&& (252645135 : Int32)) + (mx_ushr (((((i0 - ((mx_ushr i0 (1 : Int32)) &&& (1431655765 : Int32))) &&& (858993459 : Int32)) + ((mx_ushr (i0 - ((mx_ushr i0 (1 : Int32)) &&& (1431655765 : Int32))) (2 : Int32)) &&& (858993459 : Int32))) + (mx_ushr (((i0 - ((mx_ushr i0 (1 : Int32)) &&& (1431655765 : Int32))) &&& (858993459 : Int32)) + ((mx_ushr (i0 - ((mx_ushr i0 (1 : Int32)) &&& (1431655765 : Int32))) (2 : Int32)) &&& (858993459 : Int32))) (4 : Int32))) &&& (252645135 : Int32)) (8 : Int32))))]) hx hb dJ6_bitCount_0f7a4_40 rfl hl (by decide) rfl (fun ls hl => ?_)
  refine lv_iload_n hx hb dJ6_bitCount_0f7a4_41 rfl (lv_at hl 0 rfl) ?_
  refine lv_iload_n hx hb dJ6_bitCount_0f7a4_42 rfl (lv_at hl 0 rfl) ?_
  refine lv_bipush (v := (16 : Int32)) hx hb dJ6_bitCount_0f7a4_43 (by decide) ?_
  refine lv_iushr (v := (mx_ushr ((((((i0 - ((mx_ushr i0 (1 : Int32)) &&& (1431655765 : Int32))) &&& (858993459 : Int32)) + ((mx_ushr (i0 - ((mx_ushr i0 (1 : Int32)) &&& (1431655765 : Int32))) (2 : Int32)) &&& (858993459 : Int32))) + (mx_ushr (((i0 - ((mx_ushr i0 (1 : Int32)) &&& (1431655765 : Int32))) &&& (858993459 : Int32)) + ((mx_ushr (i0 - ((mx_ushr i0 (1 : Int32)) &&& (1431655765 : Int32))) (2 : Int32)) &&& (858993459 : Int32))) (4 : Int32))) &&& (252645135 : Int32)) + (mx_ushr (((((i0 - ((mx_ushr i0 (1 : Int32)) &&& (1431655765 : Int32))) &&& (858993459 : Int32)) + ((mx_ushr (i0 - ((mx_ushr i0 (1 : Int32)) &&& (1431655765 : Int32))) (2 : Int32)) &&& (858993459 : Int32))) + (mx_ushr (((i0 - ((mx_ushr i0 (1 : Int32)) &&& (1431655765 : Int32))) &&& (858993459 : Int32)) + ((mx_ushr (i0 - ((mx_ushr i0 (1 : Int32)) &&& (1431655765 : Int32))) (2 : Int32)) &&& (858993459 : Int32))) (4 : Int32))) &&& (252645135 : Int32)) (8 : Int32))) (16 : Int32))) hx hb dJ6_bitCount_0f7a4_45 rfl ?_
  refine lv_iadd hx hb dJ6_bitCount_0f7a4_46 ?_
  refine lv_istore_n (lv' := [(0, .int (((((((i0 - ((mx_ushr i0 (1 : Int32)) &&& (1431655765 : Int32))) &&& (858993459 : Int32)) + ((mx_ushr (i0 - ((mx_ushr i0 (1 : Int32)) &&& (1431655765 : Int32))) (2 : Int32)) &&& (858993459 : Int32))) + (mx_ushr (((i0 - ((mx_ushr i0 (1 : Int32)) &&& (1431655765 : Int32))) &&& (858993459 : Int32)) + ((mx_ushr (i0 - ((mx_ushr i0 (1 : Int32)) &&& (1431655765 : Int32))) (2 : Int32)) &&& (858993459 : Int32))) (4 : Int32))) &&& (252645135 : Int32)) + (mx_ushr (((((i0 - ((mx_ushr i0 (1 : Int32)) &&& (1431655765 : Int32))) &&& (858993459 : Int32)) + ((mx_ushr (i0 - ((mx_ushr i0 (1 : Int32)) &&& (1431655765 : Int32))) (2 : Int32)) &&& (858993459 : Int32))) + (mx_ushr (((i0 - ((mx_ushr i0 (1 : Int32)) &&& (1431655765 : Int32))) &&& (858993459 : Int32)) + ((mx_ushr (i0 - ((mx_ushr i0 (1 : Int32)) &&& (1431655765 : Int32))) (2 : Int32)) &&& (858993459 : Int32))) (4 : Int32))) &&& (252645135 : Int32)) (8 : Int32))) + (mx_ushr ((((((i0 - ((mx_ushr i0 (1 : Int32)) &&& (1431655765 : Int32))) &&& (858993459 : Int32)) + ((mx_ushr (i0 - ((mx_ushr i0 (1 : Int32)) &&& (1431655765 : Int32))) (2 : Int32)) &&& (858993459 : Int32))) + (mx_ushr (((i0 - ((mx_ushr i0 (1 : Int32)) &&& (1431655765 : Int32))) &&& (858993459 : Int32)) + ((mx_ushr (i0 - ((mx_ushr i0 (1 : Int32)) &&& (1431655765 : Int32))) (2 : Int32)) &&& (858993459 : Int32))) (4 : Int32))) &&& (252645135 : Int32)) + (mx_ushr (((((i0 - ((mx_ushr i0 (1 : Int32)) &&& (1431655765 : Int32))) &&& (858993459 : Int32)) + ((mx_ushr (i0 - ((mx_ushr i0 (1 : Int32)) &&& (1431655765 : Int32))) (2 : Int32)) &&& (858993459 : Int32))) + (mx_ushr (((i0 - ((mx_ushr i0 (1 : Int32)) &&& (1431655765 : Int32))) &&& (858993459 : Int32)) + ((mx_ushr (i0 - ((mx_ushr i0 (1 : Int32)) &&& (1431655765 : Int32))) (2 : Int32)) &&& (858993459 : Int32))) (4 : Int32))) &&& (252645135 : Int32)) (8 : Int32))) (16 : Int32))))]) hx hb dJ6_bitCount_0f7a4_47 rfl hl (by decide) rfl (fun ls hl => ?_)
  refine lv_iload_n hx hb dJ6_bitCount_0f7a4_48 rfl (lv_at hl 0 rfl) ?_
  refine lv_bipush (v := (63 : Int32)) hx hb dJ6_bitCount_0f7a4_49 (by decide) ?_
  refine lv_iand hx hb dJ6_bitCount_0f7a4_51 ?_
  exact mx_iretR C hM hf dJ6_bitCount_0f7a4_52
theorem dX7_isAt_0 : decode cX7_isAt 0 = .ok (.aload_n 0, 1) := by decide +kernel
theorem dX7_isAt_1 : decode cX7_isAt 1 = .ok (.getfield 13, 3) := by decide +kernel
theorem dX7_isAt_4 : decode cX7_isAt 4 = .ok (.aload_n 0, 1) := by decide +kernel
theorem dX7_isAt_5 : decode cX7_isAt 5 = .ok (.getfield 45, 3) := by decide +kernel
theorem dX7_isAt_8 : decode cX7_isAt 8 = .ok (.iaload, 1) := by decide +kernel
theorem dX7_isAt_9 : decode cX7_isAt 9 = .ok (.iload_n 1, 1) := by decide +kernel
theorem dX7_isAt_10 : decode cX7_isAt 10 = .ok (.if_icmp .ne 7, 3) := by decide +kernel
theorem dX7_isAt_13 : decode cX7_isAt 13 = .ok (.iconst 1, 1) := by decide +kernel
theorem dX7_isAt_14 : decode cX7_isAt 14 = .ok (.goto 4, 3) := by decide +kernel
theorem dX7_isAt_17 : decode cX7_isAt 17 = .ok (.iconst 0, 1) := by decide +kernel
theorem dX7_isAt_18 : decode cX7_isAt 18 = .ok (.ireturn, 1) := by decide +kernel
set_option maxRecDepth 100000 in
set_option maxHeartbeats 4000000 in
theorem kX7_isAt {E : KE} {l : Launch} (hE : mx_ok E) (i1 : Int32) (hT : xOK E) (M : MM) {q : Bool} (hf : fX7_isAt i1 M = some q) : mx_Met E l yX7_isAt cX7_isAt 2 (some .boolean) 0 [.ref (E.2.1.2.1 3), .int i1] M (some (.int (mx_b q))) M := by
  refine mx_enter hE (by decide) (Nat.le_of_ble_eq_true rfl) ?_
  intro p e s m below meth c C hM hn ls hl
  have hx := C.1.1
  have hb := C.1.2.1
  have hown := C.1.2.2.2.1
  have hts := C.1.2.2.2.2
  have hl : lv_has ls 2 [(0, .ref (E.2.1.2.1 3)), (1, .int i1)] := hl
  rw [fX7_isAt] at hf
  refine lv_aload_n hx hb dX7_isAt_0 rfl (lv_at hl 0 rfl) ?_
  refine gX7_13 C hM (xt_3 hT) (f := (2, 4)) rfl (v := .ref (E.2.1.2.1 4)) rfl dX7_isAt_1 ?_
  refine lv_aload_n hx hb dX7_isAt_4 rfl (lv_at hl 0 rfl) ?_
  refine gX7_45 C hM (xt_3 hT) (f := (0, 0)) rfl (v := .int (M.1 3 7)) rfl dX7_isAt_5 ?_
  obtain ⟨hg8, hf⟩ := mx_gd hf
  refine mx_iald C hM (xt_4 hT) (mx_in_vp hg8) dX7_isAt_8 ?_
  refine lv_iload_n hx hb dX7_isAt_9 rfl (lv_at hl 1 rfl) ?_
  refine lv_icmp_ne (tgt := 17) hx hb dX7_isAt_10 (by decide) (fun hc10 => ?_) (fun hc10 => ?_)
  · replace hf := mx_iff hc10 hf
    refine lv_iconst (v := (0 : Int32)) hx hb dX7_isAt_17 (by decide) ?_
    exact mx_zretR C hM (b := false) rfl hf dX7_isAt_18
  · replace hf := mx_ift hc10 hf
    refine lv_iconst (v := (1 : Int32)) hx hb dX7_isAt_13 (by decide) ?_
    refine lv_goto (tgt := 18) hx hb dX7_isAt_14 (by decide) ?_
    exact mx_zretR C hM (b := true) rfl hf dX7_isAt_18
theorem dX7_key_0 : decode cX7_key 0 = .ok (.aload_n 0, 1) := by decide +kernel
theorem dX7_key_1 : decode cX7_key 1 = .ok (.getfield 29, 3) := by decide +kernel
theorem dX7_key_4 : decode cX7_key 4 = .ok (.aload_n 0, 1) := by decide +kernel
theorem dX7_key_5 : decode cX7_key 5 = .ok (.getfield 45, 3) := by decide +kernel
theorem dX7_key_8 : decode cX7_key 8 = .ok (.aaload, 1) := by decide +kernel
theorem dX7_key_9 : decode cX7_key 9 = .ok (.areturn, 1) := by decide +kernel
set_option maxRecDepth 100000 in
set_option maxHeartbeats 4000000 in
theorem kX7_key {E : KE} {l : Launch} (hE : mx_ok E)  (hT : xOK E) (M : MM) {q : Nat} (hf : fX7_key M = some q) : mx_Met E l yX7_key cX7_key 1 (some (.object "RingKeepers$Word")) 0 [.ref (E.2.1.2.1 3)] M (some (.ref (E.2.1.2.2.1 q))) M := by
  refine mx_enter hE (by decide) (Nat.le_of_ble_eq_true rfl) ?_
  intro p e s m below meth c C hM hn ls hl
  have hx := C.1.1
  have hb := C.1.2.1
  have hown := C.1.2.2.2.1
  have hts := C.1.2.2.2.2
  have hl : lv_has ls 1 [(0, .ref (E.2.1.2.1 3))] := hl
  rw [fX7_key] at hf
  refine lv_aload_n hx hb dX7_key_0 rfl (lv_at hl 0 rfl) ?_
  refine gX7_29 C hM (xt_3 hT) (f := (2, 8)) rfl (v := .ref (E.2.1.2.1 8)) rfl dX7_key_1 ?_
  refine lv_aload_n hx hb dX7_key_4 rfl (lv_at hl 0 rfl) ?_
  refine gX7_45 C hM (xt_3 hT) (f := (0, 0)) rfl (v := .int (M.1 3 7)) rfl dX7_key_5 ?_
  obtain ⟨hg8, hf⟩ := mx_gd hf
  refine mx_aaldW C hM (xt_8 hT) (mx_in_vp hg8) dX7_key_8 ?_
  exact mx_wretR C hM hf dX7_key_9
theorem dX7_name_0 : decode cX7_name 0 = .ok (.aload_n 0, 1) := by decide +kernel
theorem dX7_name_1 : decode cX7_name 1 = .ok (.getfield 23, 3) := by decide +kernel
theorem dX7_name_4 : decode cX7_name 4 = .ok (.aload_n 0, 1) := by decide +kernel
theorem dX7_name_5 : decode cX7_name 5 = .ok (.getfield 45, 3) := by decide +kernel
theorem dX7_name_8 : decode cX7_name 8 = .ok (.laload, 1) := by decide +kernel
theorem dX7_name_9 : decode cX7_name 9 = .ok (.lreturn, 1) := by decide +kernel
set_option maxRecDepth 100000 in
set_option maxHeartbeats 4000000 in
theorem kX7_name {E : KE} {l : Launch} (hE : mx_ok E)  (hT : xOK E) (M : MM) {q : Int64} (hf : fX7_name M = some q) : mx_Met E l yX7_name cX7_name 1 (some .long) 0 [.ref (E.2.1.2.1 3)] M (some (.long q)) M := by
  refine mx_enter hE (by decide) (Nat.le_of_ble_eq_true rfl) ?_
  intro p e s m below meth c C hM hn ls hl
  have hx := C.1.1
  have hb := C.1.2.1
  have hown := C.1.2.2.2.1
  have hts := C.1.2.2.2.2
  have hl : lv_has ls 1 [(0, .ref (E.2.1.2.1 3))] := hl
  rw [fX7_name] at hf
  refine lv_aload_n hx hb dX7_name_0 rfl (lv_at hl 0 rfl) ?_
  refine gX7_23 C hM (xt_3 hT) (f := (2, 7)) rfl (v := .ref (E.2.1.2.1 7)) rfl dX7_name_1 ?_
  refine lv_aload_n hx hb dX7_name_4 rfl (lv_at hl 0 rfl) ?_
  refine gX7_45 C hM (xt_3 hT) (f := (0, 0)) rfl (v := .int (M.1 3 7)) rfl dX7_name_5 ?_
  obtain ⟨hg8, hf⟩ := mx_gd hf
  refine mx_lald C hM (xt_7 hT) (mx_in_vp hg8) dX7_name_8 ?_
  exact mx_lretR C hM hf dX7_name_9
theorem dX3_personNamed_0 : decode cX3_personNamed 0 = .ok (.iconst 0, 1) := by decide +kernel
theorem dX3_personNamed_1 : decode cX3_personNamed 1 = .ok (.istore_n 3, 1) := by decide +kernel
theorem dX3_personNamed_2 : decode cX3_personNamed 2 = .ok (.iload_n 3, 1) := by decide +kernel
theorem dX3_personNamed_3 : decode cX3_personNamed 3 = .ok (.aload_n 0, 1) := by decide +kernel
theorem dX3_personNamed_4 : decode cX3_personNamed 4 = .ok (.getfield 50, 3) := by decide +kernel
theorem dX3_personNamed_7 : decode cX3_personNamed 7 = .ok (.if_icmp .ge 22, 3) := by decide +kernel
theorem dX3_personNamed_10 : decode cX3_personNamed 10 = .ok (.aload_n 0, 1) := by decide +kernel
theorem dX3_personNamed_11 : decode cX3_personNamed 11 = .ok (.getfield 9, 3) := by decide +kernel
theorem dX3_personNamed_14 : decode cX3_personNamed 14 = .ok (.iload_n 3, 1) := by decide +kernel
theorem dX3_personNamed_15 : decode cX3_personNamed 15 = .ok (.laload, 1) := by decide +kernel
theorem dX3_personNamed_16 : decode cX3_personNamed 16 = .ok (.lload_n 1, 1) := by decide +kernel
theorem dX3_personNamed_17 : decode cX3_personNamed 17 = .ok (.lcmp, 1) := by decide +kernel
theorem dX3_personNamed_18 : decode cX3_personNamed 18 = .ok (.ifCond .ne 5, 3) := by decide +kernel
theorem dX3_personNamed_21 : decode cX3_personNamed 21 = .ok (.iload_n 3, 1) := by decide +kernel
theorem dX3_personNamed_22 : decode cX3_personNamed 22 = .ok (.ireturn, 1) := by decide +kernel
theorem dX3_personNamed_23 : decode cX3_personNamed 23 = .ok (.iinc 3 1, 3) := by decide +kernel
theorem dX3_personNamed_26 : decode cX3_personNamed 26 = .ok (.goto (-24), 3) := by decide +kernel
theorem dX3_personNamed_29 : decode cX3_personNamed 29 = .ok (.iconst (-1), 1) := by decide +kernel
theorem dX3_personNamed_30 : decode cX3_personNamed 30 = .ok (.ireturn, 1) := by decide +kernel
set_option maxRecDepth 100000 in
set_option maxHeartbeats 4000000 in
theorem wfX3_personNamed_2 {E : KE} {p : Program} {l : Launch} {e : Env} {s : State} {m : MethodId} {args : Array Value} {below : List Frame} {meth : Method} {c : Code} {q : Int32} (C : mx_C E p m c cX3_personNamed 4 s args RX3 meth (some .int)) (o : Nat) (l1 : Int64) (M : MM) (hT : xOK E) (ho : xt_isI o = true)   : ∀ (n : Nat) (i3 : Int32) (H : Heap) (locs : List Loc) (ls : Array Slot), fX3_personNamed_2 o l1 M n i3 = some q → mx_H E s M H locs → lv_has ls 4 [(0, .ref (E.2.1.2.1 o)), (1, .long l1), (3, .int i3)] → W p l e (mx_rm 0) s m args below meth c H locs 0 0 (mx_Z E below args s (some (.int q)) M) (F0 m 2 ls []) := by
  have hx := C.1.1
  have hb := C.1.2.1
  have hown := C.1.2.2.2.1
  have hts := C.1.2.2.2.2
  intro n
  induction n with
  | zero =>
    intro i3 H locs ls hf hM hl
    rw [fX3_personNamed_2] at hf
    cases hf
  | succ n ih =>
    intro i3 H locs ls hf hM hl
    rw [fX3_personNamed_2] at hf
    refine lv_iload_n hx hb dX3_personNamed_2 rfl (lv_at hl 2 rfl) ?_
    refine lv_aload_n hx hb dX3_personNamed_3 rfl (lv_at hl 0 rfl) ?_
    refine gX3_50 C hM (xoI hT ho) (f := (0, 0)) rfl (v := .int (M.1 o 0)) rfl dX3_personNamed_4 ?_
    refine lv_icmp_ge (tgt := 29) hx hb dX3_personNamed_7 (by decide) (fun hc7 => ?_) (fun hc7 => ?_)
    · replace hf := mx_ift hc7 hf
      refine lv_iconst (v := (-1 : Int32)) hx hb dX3_personNamed_29 (by decide) ?_
      exact mx_iretR C hM hf dX3_personNamed_30
    · replace hf := mx_iff hc7 hf
      refine lv_aload_n hx hb dX3_personNamed_10 rfl (lv_at hl 0 rfl) ?_
      refine gX3_9 C hM (xoI hT ho) (f := (2, o + 1)) rfl (v := .ref (E.2.1.2.1 (o + 1))) rfl dX3_personNamed_11 ?_
      refine lv_iload_n hx hb dX3_personNamed_14 rfl (lv_at hl 2 rfl) ?_
      obtain ⟨hg15, hf⟩ := mx_gd hf
      refine mx_lald C hM (xaI_1 hT ho) (mx_in_vp hg15) dX3_personNamed_15 ?_
      refine lv_lload_n hx hb dX3_personNamed_16 rfl (lv_at hl 1 rfl) ?_
      refine W.lcmp hx hb dX3_personNamed_17 ?_
      refine lv_if_ne (tgt := 23) hx hb dX3_personNamed_18 (by decide) (fun hc18 => ?_) (fun hc18 => ?_)
      · replace hf := mx_iff hc18 hf
        refine lv_iinc (v := (i3 + (1 : Int32))) (lv' := [(3, .int (i3 + (1 : Int32))), (0, .ref (E.2.1.2.1 o)), (1, .long l1)]) hx hb dX3_personNamed_23 hl (k := 2) rfl rfl (by decide) rfl (fun ls hl => ?_)
        refine lv_goto (tgt := 2) hx hb dX3_personNamed_26 (by decide) ?_
        exact ih (i3 + (1 : Int32)) _ _ _ hf hM (lv_sub hl [1, 2, 0] rfl)
      · replace hf := mx_ift hc18 hf
        refine lv_iload_n hx hb dX3_personNamed_21 rfl (lv_at hl 2 rfl) ?_
        exact mx_iretR C hM hf dX3_personNamed_22
set_option maxRecDepth 100000 in
set_option maxHeartbeats 4000000 in
theorem kX3_personNamed {E : KE} {l : Launch} (hE : mx_ok E) (o : Nat) (l1 : Int64) (hT : xOK E) (ho : xt_isI o = true) (M : MM) {q : Int32} (hf : fX3_personNamed o l1 M = some q) : mx_Met E l yX3_personNamed cX3_personNamed 4 (some .int) 0 [.ref (E.2.1.2.1 o), .long l1] M (some (.int q)) M := by
  refine mx_enter hE (by decide) (Nat.le_of_ble_eq_true rfl) ?_
  intro p e s m below meth c C hM hn ls hl
  have hx := C.1.1
  have hb := C.1.2.1
  have hown := C.1.2.2.2.1
  have hts := C.1.2.2.2.2
  have hl : lv_has ls 4 [(0, .ref (E.2.1.2.1 o)), (1, .long l1)] := hl
  rw [fX3_personNamed] at hf
  refine lv_iconst (v := (0 : Int32)) hx hb dX3_personNamed_0 (by decide) ?_
  refine lv_istore_n (lv' := [(3, .int (0 : Int32)), (0, .ref (E.2.1.2.1 o)), (1, .long l1)]) hx hb dX3_personNamed_1 rfl hl (by decide) rfl (fun ls hl => ?_)
  exact wfX3_personNamed_2 C o l1 M hT ho mx_fu (0 : Int32) _ _ _ hf hM (lv_sub hl [1, 2, 0] rfl)
theorem dX7_fail_0 : decode cX7_fail 0 = .ok (.aload_n 0, 1) := by decide +kernel
theorem dX7_fail_1 : decode cX7_fail 1 = .ok (.iload_n 1, 1) := by decide +kernel
theorem dX7_fail_2 : decode cX7_fail 2 = .ok (.putfield 51, 3) := by decide +kernel
theorem dX7_fail_5 : decode cX7_fail 5 = .ok (.aload_n 0, 1) := by decide +kernel
theorem dX7_fail_6 : decode cX7_fail 6 = .ok (.aload_n 0, 1) := by decide +kernel
theorem dX7_fail_7 : decode cX7_fail 7 = .ok (.getfield 17, 3) := by decide +kernel
theorem dX7_fail_10 : decode cX7_fail 10 = .ok (.aload_n 0, 1) := by decide +kernel
theorem dX7_fail_11 : decode cX7_fail 11 = .ok (.getfield 45, 3) := by decide +kernel
theorem dX7_fail_14 : decode cX7_fail 14 = .ok (.iaload, 1) := by decide +kernel
theorem dX7_fail_15 : decode cX7_fail 15 = .ok (.putfield 54, 3) := by decide +kernel
theorem dX7_fail_18 : decode cX7_fail 18 = .ok (.iconst 0, 1) := by decide +kernel
theorem dX7_fail_19 : decode cX7_fail 19 = .ok (.ireturn, 1) := by decide +kernel
set_option maxRecDepth 100000 in
set_option maxHeartbeats 4000000 in
theorem kX7_fail {E : KE} {l : Launch} (hE : mx_ok E) (i1 : Int32) (hT : xOK E) (M : MM) {q : (Bool × MM)} (hf : fX7_fail i1 M = some q) : mx_Met E l yX7_fail cX7_fail 2 (some .boolean) 0 [.ref (E.2.1.2.1 3), .int i1] M (some (.int (mx_b q.1))) q.2 := by
  refine mx_enter hE (by decide) (Nat.le_of_ble_eq_true rfl) ?_
  intro p e s m below meth c C hM hn ls hl
  have hx := C.1.1
  have hb := C.1.2.1
  have hown := C.1.2.2.2.1
  have hts := C.1.2.2.2.2
  have hl : lv_has ls 2 [(0, .ref (E.2.1.2.1 3)), (1, .int i1)] := hl
  rw [fX7_fail] at hf
  refine lv_aload_n hx hb dX7_fail_0 rfl (lv_at hl 0 rfl) ?_
  refine lv_iload_n hx hb dX7_fail_1 rfl (lv_at hl 1 rfl) ?_
  refine pX7_51 C hM (xt_3 hT) rfl rfl rfl dX7_fail_2 (fun H locs hM => ?_)
  refine lv_aload_n hx hb dX7_fail_5 rfl (lv_at hl 0 rfl) ?_
  refine lv_aload_n hx hb dX7_fail_6 rfl (lv_at hl 0 rfl) ?_
  refine gX7_17 C hM (xt_3 hT) (f := (2, 5)) rfl (v := .ref (E.2.1.2.1 5)) rfl dX7_fail_7 ?_
  refine lv_aload_n hx hb dX7_fail_10 rfl (lv_at hl 0 rfl) ?_
  refine gX7_45 C hM (xt_3 hT) (f := (0, 0)) rfl (v := .int ((mx_si M 3 10 i1).1 3 7)) rfl dX7_fail_11 ?_
  obtain ⟨hg14, hf⟩ := mx_gd hf
  refine mx_iald C hM (xt_5 hT) (mx_in_vp hg14) dX7_fail_14 ?_
  refine pX7_54 C hM (xt_3 hT) rfl rfl rfl dX7_fail_15 (fun H locs hM => ?_)
  refine lv_iconst (v := (0 : Int32)) hx hb dX7_fail_18 (by decide) ?_
  exact mx_zret C hM (b := false) rfl hf dX7_fail_19
theorem dX7_advance_0 : decode cX7_advance 0 = .ok (.aload_n 0, 1) := by decide +kernel
theorem dX7_advance_1 : decode cX7_advance 1 = .ok (.getfield 45, 3) := by decide +kernel
theorem dX7_advance_4 : decode cX7_advance 4 = .ok (.iconst 1, 1) := by decide +kernel
theorem dX7_advance_5 : decode cX7_advance 5 = .ok (.iadd, 1) := by decide +kernel
theorem dX7_advance_6 : decode cX7_advance 6 = .ok (.aload_n 0, 1) := by decide +kernel
theorem dX7_advance_7 : decode cX7_advance 7 = .ok (.getfield 48, 3) := by decide +kernel
theorem dX7_advance_10 : decode cX7_advance 10 = .ok (.if_icmp .ge 13, 3) := by decide +kernel
theorem dX7_advance_13 : decode cX7_advance 13 = .ok (.aload_n 0, 1) := by decide +kernel
theorem dX7_advance_14 : decode cX7_advance 14 = .ok (.dup, 1) := by decide +kernel
theorem dX7_advance_15 : decode cX7_advance 15 = .ok (.getfield 45, 3) := by decide +kernel
theorem dX7_advance_18 : decode cX7_advance 18 = .ok (.iconst 1, 1) := by decide +kernel
theorem dX7_advance_19 : decode cX7_advance 19 = .ok (.iadd, 1) := by decide +kernel
theorem dX7_advance_20 : decode cX7_advance 20 = .ok (.putfield 45, 3) := by decide +kernel
theorem dX7_advance_23 : decode cX7_advance 23 = .ok (.return_, 1) := by decide +kernel
set_option maxRecDepth 100000 in
set_option maxHeartbeats 4000000 in
theorem kX7_advance {E : KE} {l : Launch} (hE : mx_ok E)  (hT : xOK E) (M : MM) {q : MM} (hf : fX7_advance M = some q) : mx_Met E l yX7_advance cX7_advance 1 none 0 [.ref (E.2.1.2.1 3)] M none q := by
  refine mx_enter hE (by decide) (Nat.le_of_ble_eq_true rfl) ?_
  intro p e s m below meth c C hM hn ls hl
  have hx := C.1.1
  have hb := C.1.2.1
  have hown := C.1.2.2.2.1
  have hts := C.1.2.2.2.2
  have hl : lv_has ls 1 [(0, .ref (E.2.1.2.1 3))] := hl
  rw [fX7_advance] at hf
  refine lv_aload_n hx hb dX7_advance_0 rfl (lv_at hl 0 rfl) ?_
  refine gX7_45 C hM (xt_3 hT) (f := (0, 0)) rfl (v := .int (M.1 3 7)) rfl dX7_advance_1 ?_
  refine lv_iconst (v := (1 : Int32)) hx hb dX7_advance_4 (by decide) ?_
  refine lv_iadd hx hb dX7_advance_5 ?_
  refine lv_aload_n hx hb dX7_advance_6 rfl (lv_at hl 0 rfl) ?_
  refine gX7_48 C hM (xt_3 hT) (f := (0, 0)) rfl (v := .int (M.1 3 6)) rfl dX7_advance_7 ?_
  refine lv_icmp_ge (tgt := 23) hx hb dX7_advance_10 (by decide) (fun hc10 => ?_) (fun hc10 => ?_)
  · replace hf := mx_ift hc10 hf
    exact mx_vret C hM hf dX7_advance_23
  · replace hf := mx_iff hc10 hf
    refine lv_aload_n hx hb dX7_advance_13 rfl (lv_at hl 0 rfl) ?_
    refine lv_dup hx hb dX7_advance_14 rfl ?_
    refine gX7_45 C hM (xt_3 hT) (f := (0, 0)) rfl (v := .int (M.1 3 7)) rfl dX7_advance_15 ?_
    refine lv_iconst (v := (1 : Int32)) hx hb dX7_advance_18 (by decide) ?_
    refine lv_iadd hx hb dX7_advance_19 ?_
    refine pX7_45 C hM (xt_3 hT) rfl rfl rfl dX7_advance_20 (fun H locs hM => ?_)
    exact mx_vret C hM hf dX7_advance_23
theorem dX7_takeNamed_0 : decode cX7_takeNamed 0 = .ok (.aload_n 0, 1) := by decide +kernel
theorem dX7_takeNamed_1 : decode cX7_takeNamed 1 = .ok (.getfield 13, 3) := by decide +kernel
theorem dX7_takeNamed_4 : decode cX7_takeNamed 4 = .ok (.aload_n 0, 1) := by decide +kernel
theorem dX7_takeNamed_5 : decode cX7_takeNamed 5 = .ok (.getfield 45, 3) := by decide +kernel
theorem dX7_takeNamed_8 : decode cX7_takeNamed 8 = .ok (.iaload, 1) := by decide +kernel
theorem dX7_takeNamed_9 : decode cX7_takeNamed 9 = .ok (.iconst 2, 1) := by decide +kernel
theorem dX7_takeNamed_10 : decode cX7_takeNamed 10 = .ok (.if_icmp .eq 9, 3) := by decide +kernel
theorem dX7_takeNamed_13 : decode cX7_takeNamed 13 = .ok (.aload_n 0, 1) := by decide +kernel
theorem dX7_takeNamed_14 : decode cX7_takeNamed 14 = .ok (.iconst 1, 1) := by decide +kernel
theorem dX7_takeNamed_15 : decode cX7_takeNamed 15 = .ok (.invokevirtual 89, 3) := by decide +kernel
theorem dX7_takeNamed_18 : decode cX7_takeNamed 18 = .ok (.ireturn, 1) := by decide +kernel
theorem dX7_takeNamed_19 : decode cX7_takeNamed 19 = .ok (.iload_n 1, 1) := by decide +kernel
theorem dX7_takeNamed_20 : decode cX7_takeNamed 20 = .ok (.iconst (-1), 1) := by decide +kernel
theorem dX7_takeNamed_21 : decode cX7_takeNamed 21 = .ok (.if_icmp .ne 9, 3) := by decide +kernel
theorem dX7_takeNamed_24 : decode cX7_takeNamed 24 = .ok (.aload_n 0, 1) := by decide +kernel
theorem dX7_takeNamed_25 : decode cX7_takeNamed 25 = .ok (.iconst 3, 1) := by decide +kernel
theorem dX7_takeNamed_26 : decode cX7_takeNamed 26 = .ok (.invokevirtual 89, 3) := by decide +kernel
theorem dX7_takeNamed_29 : decode cX7_takeNamed 29 = .ok (.ireturn, 1) := by decide +kernel
theorem dX7_takeNamed_30 : decode cX7_takeNamed 30 = .ok (.aload_n 0, 1) := by decide +kernel
theorem dX7_takeNamed_31 : decode cX7_takeNamed 31 = .ok (.iload_n 1, 1) := by decide +kernel
theorem dX7_takeNamed_32 : decode cX7_takeNamed 32 = .ok (.putfield 95, 3) := by decide +kernel
theorem dX7_takeNamed_35 : decode cX7_takeNamed 35 = .ok (.aload_n 0, 1) := by decide +kernel
theorem dX7_takeNamed_36 : decode cX7_takeNamed 36 = .ok (.invokevirtual 92, 3) := by decide +kernel
theorem dX7_takeNamed_39 : decode cX7_takeNamed 39 = .ok (.iconst 1, 1) := by decide +kernel
theorem dX7_takeNamed_40 : decode cX7_takeNamed 40 = .ok (.ireturn, 1) := by decide +kernel
set_option maxRecDepth 100000 in
set_option maxHeartbeats 4000000 in
theorem kX7_takeNamed {E : KE} {l : Launch} (hE : mx_ok E) (i1 : Int32) (hT : xOK E) (M : MM) {q : (Bool × MM)} (hf : fX7_takeNamed i1 M = some q) : mx_Met E l yX7_takeNamed cX7_takeNamed 2 (some .boolean) 1 [.ref (E.2.1.2.1 3), .int i1] M (some (.int (mx_b q.1))) q.2 := by
  refine mx_enter hE (by decide) (Nat.le_of_ble_eq_true rfl) ?_
  intro p e s m below meth c C hM hn ls hl
  have hx := C.1.1
  have hb := C.1.2.1
  have hown := C.1.2.2.2.1
  have hts := C.1.2.2.2.2
  have hl : lv_has ls 2 [(0, .ref (E.2.1.2.1 3)), (1, .int i1)] := hl
  rw [fX7_takeNamed] at hf
  refine lv_aload_n hx hb dX7_takeNamed_0 rfl (lv_at hl 0 rfl) ?_
  refine gX7_13 C hM (xt_3 hT) (f := (2, 4)) rfl (v := .ref (E.2.1.2.1 4)) rfl dX7_takeNamed_1 ?_
  refine lv_aload_n hx hb dX7_takeNamed_4 rfl (lv_at hl 0 rfl) ?_
  refine gX7_45 C hM (xt_3 hT) (f := (0, 0)) rfl (v := .int (M.1 3 7)) rfl dX7_takeNamed_5 ?_
  obtain ⟨hg8, hf⟩ := mx_gd hf
  refine mx_iald C hM (xt_4 hT) (mx_in_vp hg8) dX7_takeNamed_8 ?_
  refine lv_iconst (v := (2 : Int32)) hx hb dX7_takeNamed_9 (by decide) ?_
  refine lv_icmp_eq (tgt := 19) hx hb dX7_takeNamed_10 (by decide) (fun hc10 => ?_) (fun hc10 => ?_)
  · replace hf := mx_ift hc10 hf
    refine lv_iload_n hx hb dX7_takeNamed_19 rfl (lv_at hl 1 rfl) ?_
    refine lv_iconst (v := (-1 : Int32)) hx hb dX7_takeNamed_20 (by decide) ?_
    refine lv_icmp_ne (tgt := 30) hx hb dX7_takeNamed_21 (by decide) (fun hc21 => ?_) (fun hc21 => ?_)
    · replace hf := mx_iff hc21 hf
      refine lv_aload_n hx hb dX7_takeNamed_30 rfl (lv_at hl 0 rfl) ?_
      refine lv_iload_n hx hb dX7_takeNamed_31 rfl (lv_at hl 1 rfl) ?_
      refine pX7_95 C hM (xt_3 hT) rfl rfl rfl dX7_takeNamed_32 (fun H locs hM => ?_)
      refine lv_aload_n hx hb dX7_takeNamed_35 rfl (lv_at hl 0 rfl) ?_
      obtain ⟨q36, hq36, hf⟩ := mx_bd hf
      refine mx_callV C hM hl.1 yo_X7_advance (h' := 0) (by decide) qw_590 qw_567 qs_14 (ci := 7) (q := (RX7, TX7, 12)) rfl (xt_3 hT) (As := []) (rest := []) (st1 := []) (kX7_advance C.2.2.2.1 hT (mx_si M 3 9 i1) hq36) rfl rfl rfl (Nat.le_of_ble_eq_true rfl) dX7_takeNamed_36 (fun H locs hM => ?_)
      refine lv_iconst (v := (1 : Int32)) hx hb dX7_takeNamed_39 (by decide) ?_
      exact mx_zret C hM (b := true) rfl hf dX7_takeNamed_40
    · replace hf := mx_ift hc21 hf
      refine lv_aload_n hx hb dX7_takeNamed_24 rfl (lv_at hl 0 rfl) ?_
      refine lv_iconst (v := (3 : Int32)) hx hb dX7_takeNamed_25 (by decide) ?_
      obtain ⟨q26, hq26, hf⟩ := mx_bd hf
      refine mx_callV C hM hl.1 yo_X7_fail (h' := 0) (by decide) qw_589 qw_563 qs_13 (ci := 7) (q := (RX7, TX7, 12)) rfl (xt_3 hT) (As := [.int (3 : Int32)]) (rest := []) (st1 := [.int (mx_b q26.1)]) (kX7_fail C.2.2.2.1 (3 : Int32) hT M hq26) rfl rfl rfl (Nat.le_of_ble_eq_true rfl) dX7_takeNamed_26 (fun H locs hM => ?_)
      exact mx_zret C hM (b := q26.1) rfl hf dX7_takeNamed_29
  · replace hf := mx_iff hc10 hf
    refine lv_aload_n hx hb dX7_takeNamed_13 rfl (lv_at hl 0 rfl) ?_
    refine lv_iconst (v := (1 : Int32)) hx hb dX7_takeNamed_14 (by decide) ?_
    obtain ⟨q15, hq15, hf⟩ := mx_bd hf
    refine mx_callV C hM hl.1 yo_X7_fail (h' := 0) (by decide) qw_589 qw_563 qs_13 (ci := 7) (q := (RX7, TX7, 12)) rfl (xt_3 hT) (As := [.int (1 : Int32)]) (rest := []) (st1 := [.int (mx_b q15.1)]) (kX7_fail C.2.2.2.1 (1 : Int32) hT M hq15) rfl rfl rfl (Nat.le_of_ble_eq_true rfl) dX7_takeNamed_15 (fun H locs hM => ?_)
    exact mx_zret C hM (b := q15.1) rfl hf dX7_takeNamed_18
theorem dX1_takeWho_0 : decode cX1_takeWho 0 = .ok (.aload_n 0, 1) := by decide +kernel
theorem dX1_takeWho_1 : decode cX1_takeWho 1 = .ok (.getfield 15, 3) := by decide +kernel
theorem dX1_takeWho_4 : decode cX1_takeWho 4 = .ok (.aload_n 0, 1) := by decide +kernel
theorem dX1_takeWho_5 : decode cX1_takeWho 5 = .ok (.getfield 24, 3) := by decide +kernel
theorem dX1_takeWho_8 : decode cX1_takeWho 8 = .ok (.iconst (-1), 1) := by decide +kernel
theorem dX1_takeWho_9 : decode cX1_takeWho 9 = .ok (.iastore, 1) := by decide +kernel
theorem dX1_takeWho_10 : decode cX1_takeWho 10 = .ok (.aload_n 1, 1) := by decide +kernel
theorem dX1_takeWho_11 : decode cX1_takeWho 11 = .ok (.invokevirtual 58, 3) := by decide +kernel
theorem dX1_takeWho_14 : decode cX1_takeWho 14 = .ok (.getstatic 62, 3) := by decide +kernel
theorem dX1_takeWho_17 : decode cX1_takeWho 17 = .ok (.if_acmp .ne 5, 3) := by decide +kernel
theorem dX1_takeWho_20 : decode cX1_takeWho 20 = .ok (.iconst 1, 1) := by decide +kernel
theorem dX1_takeWho_21 : decode cX1_takeWho 21 = .ok (.ireturn, 1) := by decide +kernel
theorem dX1_takeWho_22 : decode cX1_takeWho 22 = .ok (.aload_n 1, 1) := by decide +kernel
theorem dX1_takeWho_23 : decode cX1_takeWho 23 = .ok (.aload_n 2, 1) := by decide +kernel
theorem dX1_takeWho_24 : decode cX1_takeWho 24 = .ok (.aload_n 1, 1) := by decide +kernel
theorem dX1_takeWho_25 : decode cX1_takeWho 25 = .ok (.invokevirtual 48, 3) := by decide +kernel
theorem dX1_takeWho_28 : decode cX1_takeWho 28 = .ok (.invokevirtual 52, 3) := by decide +kernel
theorem dX1_takeWho_31 : decode cX1_takeWho 31 = .ok (.invokevirtual 71, 3) := by decide +kernel
theorem dX1_takeWho_34 : decode cX1_takeWho 34 = .ok (.ifCond .ne 5, 3) := by decide +kernel
theorem dX1_takeWho_37 : decode cX1_takeWho 37 = .ok (.iconst 0, 1) := by decide +kernel
theorem dX1_takeWho_38 : decode cX1_takeWho 38 = .ok (.ireturn, 1) := by decide +kernel
theorem dX1_takeWho_39 : decode cX1_takeWho 39 = .ok (.aload_n 0, 1) := by decide +kernel
theorem dX1_takeWho_40 : decode cX1_takeWho 40 = .ok (.getfield 15, 3) := by decide +kernel
theorem dX1_takeWho_43 : decode cX1_takeWho 43 = .ok (.aload_n 0, 1) := by decide +kernel
theorem dX1_takeWho_44 : decode cX1_takeWho 44 = .ok (.getfield 24, 3) := by decide +kernel
theorem dX1_takeWho_47 : decode cX1_takeWho 47 = .ok (.aload_n 1, 1) := by decide +kernel
theorem dX1_takeWho_48 : decode cX1_takeWho 48 = .ok (.getfield 74, 3) := by decide +kernel
theorem dX1_takeWho_51 : decode cX1_takeWho 51 = .ok (.iastore, 1) := by decide +kernel
theorem dX1_takeWho_52 : decode cX1_takeWho 52 = .ok (.iconst 1, 1) := by decide +kernel
theorem dX1_takeWho_53 : decode cX1_takeWho 53 = .ok (.ireturn, 1) := by decide +kernel
set_option maxRecDepth 100000 in
set_option maxHeartbeats 4000000 in
theorem kX1_takeWho {E : KE} {l : Launch} (hE : mx_ok E)  (hT : xOK E) (M : MM) {q : (Bool × MM)} (hf : fX1_takeWho M = some q) : mx_Met E l yX1_takeWho cX1_takeWho 3 (some .boolean) 2 [.ref (E.2.1.2.1 138), .ref (E.2.1.2.1 3), .ref (E.2.1.2.1 9)] M (some (.int (mx_b q.1))) q.2 := by
  refine mx_enter hE (by decide) (Nat.le_of_ble_eq_true rfl) ?_
  intro p e s m below meth c C hM hn ls hl
  have hx := C.1.1
  have hb := C.1.2.1
  have hown := C.1.2.2.2.1
  have hts := C.1.2.2.2.2
  have hl : lv_has ls 3 [(0, .ref (E.2.1.2.1 138)), (1, .ref (E.2.1.2.1 3)), (2, .ref (E.2.1.2.1 9))] := hl
  rw [fX1_takeWho] at hf
  refine lv_aload_n hx hb dX1_takeWho_0 rfl (lv_at hl 0 rfl) ?_
  refine gX1_15 C hM (xt_138 hT) (f := (2, 140)) rfl (v := .ref (E.2.1.2.1 140)) rfl dX1_takeWho_1 ?_
  refine lv_aload_n hx hb dX1_takeWho_4 rfl (lv_at hl 0 rfl) ?_
  refine gX1_24 C hM (xt_138 hT) (f := (0, 0)) rfl (v := .int (M.1 138 4)) rfl dX1_takeWho_5 ?_
  refine lv_iconst (v := (-1 : Int32)) hx hb dX1_takeWho_8 (by decide) ?_
  obtain ⟨hg9, hf⟩ := mx_gd hf
  refine mx_iast C hM (xt_140 hT) (mx_in_vp hg9) dX1_takeWho_9 (fun H locs hM => ?_)
  refine lv_aload_n hx hb dX1_takeWho_10 rfl (lv_at hl 1 rfl) ?_
  obtain ⟨q11, hq11, hf⟩ := mx_bd hf
  refine mx_callVN C hM hl.1 yo_X7_key (h' := 0) (by decide) (nw_1100 hT C) qw_549 qs_11 (ci := 7) (q := (RX7, TX7, 12)) rfl (xt_3 hT) (As := []) (rest := []) (st1 := [.ref (E.2.1.2.2.1 q11)]) (kX7_key C.2.2.2.1 hT (mx_si M 140 (M.1 138 4).toNatClampNeg (-1 : Int32)) hq11) rfl rfl rfl (Nat.le_of_ble_eq_true rfl) dX1_takeWho_11 (fun H locs hM => ?_)
  refine xw_get C hT (w := 11) (by decide) hM (hts _ qw_1101) dX1_takeWho_14 ?_
  obtain ⟨hw17a, hf⟩ := mx_gd hf
  refine xw_ne (tgt := 22) C hT hw17a (by decide) dX1_takeWho_17 (by decide) (fun hc17 => ?_) (fun hc17 => ?_)
  · replace hf := mx_iff hc17 hf
    refine lv_aload_n hx hb dX1_takeWho_22 rfl (lv_at hl 1 rfl) ?_
    refine lv_aload_n hx hb dX1_takeWho_23 rfl (lv_at hl 2 rfl) ?_
    refine lv_aload_n hx hb dX1_takeWho_24 rfl (lv_at hl 1 rfl) ?_
    obtain ⟨q25, hq25, hf⟩ := mx_bd hf
    refine mx_callVN C hM hl.1 yo_X7_name (h' := 0) (by decide) (nw_1103 hT C) qw_571 qs_15 (ci := 7) (q := (RX7, TX7, 12)) rfl (xt_3 hT) (As := []) (rest := [.ref (E.2.1.2.1 9), .ref (E.2.1.2.1 3)]) (st1 := [.long q25, .ref (E.2.1.2.1 9), .ref (E.2.1.2.1 3)]) (kX7_name C.2.2.2.1 hT (mx_si M 140 (M.1 138 4).toNatClampNeg (-1 : Int32)) hq25) rfl rfl rfl (Nat.le_of_ble_eq_true rfl) dX1_takeWho_25 (fun H locs hM => ?_)
    obtain ⟨q28, hq28, hf⟩ := mx_bd hf
    refine mx_callVN C hM hl.1 yo_X3_personNamed (h' := 0) (by decide) (nw_1104 hT C) qw_579 qs_17 (ci := 3) (q := (RX3, TX3, 18)) rfl (xt_9 hT) (As := [.long q25]) (rest := [.ref (E.2.1.2.1 3)]) (st1 := [.int q28, .ref (E.2.1.2.1 3)]) (kX3_personNamed C.2.2.2.1 9 q25 hT xiI_9 (mx_si M 140 (M.1 138 4).toNatClampNeg (-1 : Int32)) hq28) rfl rfl rfl (Nat.le_of_ble_eq_true rfl) dX1_takeWho_28 (fun H locs hM => ?_)
    obtain ⟨q31, hq31, hf⟩ := mx_bd hf
    refine mx_callVN C hM hl.1 yo_X7_takeNamed (h' := 1) (by decide) (nw_1105 hT C) qw_597 qs_21 (ci := 7) (q := (RX7, TX7, 12)) rfl (xt_3 hT) (As := [.int q28]) (rest := []) (st1 := [.int (mx_b q31.1)]) (kX7_takeNamed C.2.2.2.1 q28 hT (mx_si M 140 (M.1 138 4).toNatClampNeg (-1 : Int32)) hq31) rfl rfl rfl (Nat.le_of_ble_eq_true rfl) dX1_takeWho_31 (fun H locs hM => ?_)
    refine lv_if_ne (tgt := 39) hx hb dX1_takeWho_34 (by decide) (fun hc34 => ?_) (fun hc34 => ?_)
    · replace hf := mx_iff hc34 hf
      refine lv_aload_n hx hb dX1_takeWho_39 rfl (lv_at hl 0 rfl) ?_
      refine gX1_15 C hM (xt_138 hT) (f := (2, 140)) rfl (v := .ref (E.2.1.2.1 140)) rfl dX1_takeWho_40 ?_
      refine lv_aload_n hx hb dX1_takeWho_43 rfl (lv_at hl 0 rfl) ?_
      refine gX1_24 C hM (xt_138 hT) (f := (0, 0)) rfl (v := .int (q31.2.1 138 4)) rfl dX1_takeWho_44 ?_
      refine lv_aload_n hx hb dX1_takeWho_47 rfl (lv_at hl 1 rfl) ?_
      refine gX1_74 C hT hM (xt_3 hT) (f := (0, 0)) rfl (v := .int (q31.2.1 3 9)) rfl dX1_takeWho_48 ?_
      obtain ⟨hg51, hf⟩ := mx_gd hf
      refine mx_iast C hM (xt_140 hT) (mx_in_vp hg51) dX1_takeWho_51 (fun H locs hM => ?_)
      refine lv_iconst (v := (1 : Int32)) hx hb dX1_takeWho_52 (by decide) ?_
      exact mx_zret C hM (b := true) rfl hf dX1_takeWho_53
    · replace hf := mx_ift hc34 hf
      refine lv_iconst (v := (0 : Int32)) hx hb dX1_takeWho_37 (by decide) ?_
      exact mx_zret C hM (b := false) rfl hf dX1_takeWho_38
  · replace hf := mx_ift hc17 hf
    refine lv_iconst (v := (1 : Int32)) hx hb dX1_takeWho_20 (by decide) ?_
    exact mx_zret C hM (b := true) rfl hf dX1_takeWho_21
theorem dX1_readBare_0 : decode cX1_readBare 0 = .ok (.aload_n 0, 1) := by decide +kernel
theorem dX1_readBare_1 : decode cX1_readBare 1 = .ok (.getfield 11, 3) := by decide +kernel
theorem dX1_readBare_4 : decode cX1_readBare 4 = .ok (.aload_n 0, 1) := by decide +kernel
theorem dX1_readBare_5 : decode cX1_readBare 5 = .ok (.getfield 24, 3) := by decide +kernel
theorem dX1_readBare_8 : decode cX1_readBare 8 = .ok (.iload_n 2, 1) := by decide +kernel
theorem dX1_readBare_9 : decode cX1_readBare 9 = .ok (.iastore, 1) := by decide +kernel
theorem dX1_readBare_10 : decode cX1_readBare 10 = .ok (.aload_n 1, 1) := by decide +kernel
theorem dX1_readBare_11 : decode cX1_readBare 11 = .ok (.invokevirtual 98, 3) := by decide +kernel
theorem dX1_readBare_14 : decode cX1_readBare 14 = .ok (.iconst 1, 1) := by decide +kernel
theorem dX1_readBare_15 : decode cX1_readBare 15 = .ok (.ireturn, 1) := by decide +kernel
set_option maxRecDepth 100000 in
set_option maxHeartbeats 4000000 in
theorem kX1_readBare {E : KE} {l : Launch} (hE : mx_ok E) (i2 : Int32) (hT : xOK E) (M : MM) {q : (Bool × MM)} (hf : fX1_readBare i2 M = some q) : mx_Met E l yX1_readBare cX1_readBare 3 (some .boolean) 1 [.ref (E.2.1.2.1 138), .ref (E.2.1.2.1 3), .int i2] M (some (.int (mx_b q.1))) q.2 := by
  refine mx_enter hE (by decide) (Nat.le_of_ble_eq_true rfl) ?_
  intro p e s m below meth c C hM hn ls hl
  have hx := C.1.1
  have hb := C.1.2.1
  have hown := C.1.2.2.2.1
  have hts := C.1.2.2.2.2
  have hl : lv_has ls 3 [(0, .ref (E.2.1.2.1 138)), (1, .ref (E.2.1.2.1 3)), (2, .int i2)] := hl
  rw [fX1_readBare] at hf
  refine lv_aload_n hx hb dX1_readBare_0 rfl (lv_at hl 0 rfl) ?_
  refine gX1_11 C hM (xt_138 hT) (f := (2, 139)) rfl (v := .ref (E.2.1.2.1 139)) rfl dX1_readBare_1 ?_
  refine lv_aload_n hx hb dX1_readBare_4 rfl (lv_at hl 0 rfl) ?_
  refine gX1_24 C hM (xt_138 hT) (f := (0, 0)) rfl (v := .int (M.1 138 4)) rfl dX1_readBare_5 ?_
  refine lv_iload_n hx hb dX1_readBare_8 rfl (lv_at hl 2 rfl) ?_
  obtain ⟨hg9, hf⟩ := mx_gd hf
  refine mx_iast C hM (xt_139 hT) (mx_in_vp hg9) dX1_readBare_9 (fun H locs hM => ?_)
  refine lv_aload_n hx hb dX1_readBare_10 rfl (lv_at hl 1 rfl) ?_
  obtain ⟨q11, hq11, hf⟩ := mx_bd hf
  refine mx_callVN C hM hl.1 yo_X7_advance (h' := 0) (by decide) (nw_1118 hT C) qw_567 qs_14 (ci := 7) (q := (RX7, TX7, 12)) rfl (xt_3 hT) (As := []) (rest := []) (st1 := []) (kX7_advance C.2.2.2.1 hT (mx_si M 139 (M.1 138 4).toNatClampNeg i2) hq11) rfl rfl rfl (Nat.le_of_ble_eq_true rfl) dX1_readBare_11 (fun H locs hM => ?_)
  refine lv_iconst (v := (1 : Int32)) hx hb dX1_readBare_14 (by decide) ?_
  exact mx_zret C hM (b := true) rfl hf dX1_readBare_15
theorem dX7_takeNumber_0 : decode cX7_takeNumber 0 = .ok (.aload_n 0, 1) := by decide +kernel
theorem dX7_takeNumber_1 : decode cX7_takeNumber 1 = .ok (.getfield 13, 3) := by decide +kernel
theorem dX7_takeNumber_4 : decode cX7_takeNumber 4 = .ok (.aload_n 0, 1) := by decide +kernel
theorem dX7_takeNumber_5 : decode cX7_takeNumber 5 = .ok (.getfield 45, 3) := by decide +kernel
theorem dX7_takeNumber_8 : decode cX7_takeNumber 8 = .ok (.iaload, 1) := by decide +kernel
theorem dX7_takeNumber_9 : decode cX7_takeNumber 9 = .ok (.iconst 4, 1) := by decide +kernel
theorem dX7_takeNumber_10 : decode cX7_takeNumber 10 = .ok (.if_icmp .eq 9, 3) := by decide +kernel
theorem dX7_takeNumber_13 : decode cX7_takeNumber 13 = .ok (.aload_n 0, 1) := by decide +kernel
theorem dX7_takeNumber_14 : decode cX7_takeNumber 14 = .ok (.iconst 1, 1) := by decide +kernel
theorem dX7_takeNumber_15 : decode cX7_takeNumber 15 = .ok (.invokevirtual 89, 3) := by decide +kernel
theorem dX7_takeNumber_18 : decode cX7_takeNumber 18 = .ok (.ireturn, 1) := by decide +kernel
theorem dX7_takeNumber_19 : decode cX7_takeNumber 19 = .ok (.aload_n 0, 1) := by decide +kernel
theorem dX7_takeNumber_20 : decode cX7_takeNumber 20 = .ok (.getfield 20, 3) := by decide +kernel
theorem dX7_takeNumber_23 : decode cX7_takeNumber 23 = .ok (.aload_n 0, 1) := by decide +kernel
theorem dX7_takeNumber_24 : decode cX7_takeNumber 24 = .ok (.getfield 45, 3) := by decide +kernel
theorem dX7_takeNumber_27 : decode cX7_takeNumber 27 = .ok (.iaload, 1) := by decide +kernel
theorem dX7_takeNumber_28 : decode cX7_takeNumber 28 = .ok (.iload_n 1, 1) := by decide +kernel
theorem dX7_takeNumber_29 : decode cX7_takeNumber 29 = .ok (.if_icmp .lt 16, 3) := by decide +kernel
theorem dX7_takeNumber_32 : decode cX7_takeNumber 32 = .ok (.aload_n 0, 1) := by decide +kernel
theorem dX7_takeNumber_33 : decode cX7_takeNumber 33 = .ok (.getfield 20, 3) := by decide +kernel
theorem dX7_takeNumber_36 : decode cX7_takeNumber 36 = .ok (.aload_n 0, 1) := by decide +kernel
theorem dX7_takeNumber_37 : decode cX7_takeNumber 37 = .ok (.getfield 45, 3) := by decide +kernel
theorem dX7_takeNumber_40 : decode cX7_takeNumber 40 = .ok (.iaload, 1) := by decide +kernel
theorem dX7_takeNumber_41 : decode cX7_takeNumber 41 = .ok (.iload_n 2, 1) := by decide +kernel
theorem dX7_takeNumber_42 : decode cX7_takeNumber 42 = .ok (.if_icmp .le 9, 3) := by decide +kernel
theorem dX7_takeNumber_45 : decode cX7_takeNumber 45 = .ok (.aload_n 0, 1) := by decide +kernel
theorem dX7_takeNumber_46 : decode cX7_takeNumber 46 = .ok (.iconst 2, 1) := by decide +kernel
theorem dX7_takeNumber_47 : decode cX7_takeNumber 47 = .ok (.invokevirtual 89, 3) := by decide +kernel
theorem dX7_takeNumber_50 : decode cX7_takeNumber 50 = .ok (.ireturn, 1) := by decide +kernel
theorem dX7_takeNumber_51 : decode cX7_takeNumber 51 = .ok (.aload_n 0, 1) := by decide +kernel
theorem dX7_takeNumber_52 : decode cX7_takeNumber 52 = .ok (.aload_n 0, 1) := by decide +kernel
theorem dX7_takeNumber_53 : decode cX7_takeNumber 53 = .ok (.getfield 20, 3) := by decide +kernel
theorem dX7_takeNumber_56 : decode cX7_takeNumber 56 = .ok (.aload_n 0, 1) := by decide +kernel
theorem dX7_takeNumber_57 : decode cX7_takeNumber 57 = .ok (.getfield 45, 3) := by decide +kernel
theorem dX7_takeNumber_60 : decode cX7_takeNumber 60 = .ok (.iaload, 1) := by decide +kernel
theorem dX7_takeNumber_61 : decode cX7_takeNumber 61 = .ok (.putfield 95, 3) := by decide +kernel
theorem dX7_takeNumber_64 : decode cX7_takeNumber 64 = .ok (.aload_n 0, 1) := by decide +kernel
theorem dX7_takeNumber_65 : decode cX7_takeNumber 65 = .ok (.invokevirtual 92, 3) := by decide +kernel
theorem dX7_takeNumber_68 : decode cX7_takeNumber 68 = .ok (.iconst 1, 1) := by decide +kernel
theorem dX7_takeNumber_69 : decode cX7_takeNumber 69 = .ok (.ireturn, 1) := by decide +kernel
set_option maxRecDepth 100000 in
set_option maxHeartbeats 4000000 in
theorem wfX7_takeNumber_45 {E : KE} {p : Program} {l : Launch} {e : Env} {s : State} {m : MethodId} {args : Array Value} {below : List Frame} {meth : Method} {c : Code} {q : (Bool × MM)} (C : mx_C E p m c cX7_takeNumber 3 s args RX7 meth (some .boolean)) (i1 : Int32) (i2 : Int32) (hT : xOK E)   : ∀ (M : MM) (H : Heap) (locs : List Loc) (ls : Array Slot), fX7_takeNumber_45 i1 i2 M = some q → mx_H E s M H locs → lv_has ls 3 [(0, .ref (E.2.1.2.1 3))] → W p l e (mx_rm 1) s m args below meth c H locs 0 0 (mx_Z E below args s (some (.int (mx_b q.1))) q.2) (F0 m 45 ls []) := by
  have hx := C.1.1
  have hb := C.1.2.1
  have hown := C.1.2.2.2.1
  have hts := C.1.2.2.2.2
  intro M H locs ls hf hM hl
  rw [fX7_takeNumber_45] at hf
  refine lv_aload_n hx hb dX7_takeNumber_45 rfl (lv_at hl 0 rfl) ?_
  refine lv_iconst (v := (2 : Int32)) hx hb dX7_takeNumber_46 (by decide) ?_
  obtain ⟨q47, hq47, hf⟩ := mx_bd hf
  refine mx_callV C hM hl.1 yo_X7_fail (h' := 0) (by decide) qw_589 qw_563 qs_13 (ci := 7) (q := (RX7, TX7, 12)) rfl (xt_3 hT) (As := [.int (2 : Int32)]) (rest := []) (st1 := [.int (mx_b q47.1)]) (kX7_fail C.2.2.2.1 (2 : Int32) hT M hq47) rfl rfl rfl (Nat.le_of_ble_eq_true rfl) dX7_takeNumber_47 (fun H locs hM => ?_)
  exact mx_zret C hM (b := q47.1) rfl hf dX7_takeNumber_50
set_option maxRecDepth 100000 in
set_option maxHeartbeats 4000000 in
theorem kX7_takeNumber {E : KE} {l : Launch} (hE : mx_ok E) (i1 : Int32) (i2 : Int32) (hT : xOK E) (M : MM) {q : (Bool × MM)} (hf : fX7_takeNumber i1 i2 M = some q) : mx_Met E l yX7_takeNumber cX7_takeNumber 3 (some .boolean) 1 [.ref (E.2.1.2.1 3), .int i1, .int i2] M (some (.int (mx_b q.1))) q.2 := by
  refine mx_enter hE (by decide) (Nat.le_of_ble_eq_true rfl) ?_
  intro p e s m below meth c C hM hn ls hl
  have hx := C.1.1
  have hb := C.1.2.1
  have hown := C.1.2.2.2.1
  have hts := C.1.2.2.2.2
  have hl : lv_has ls 3 [(0, .ref (E.2.1.2.1 3)), (1, .int i1), (2, .int i2)] := hl
  rw [fX7_takeNumber] at hf
  refine lv_aload_n hx hb dX7_takeNumber_0 rfl (lv_at hl 0 rfl) ?_
  refine gX7_13 C hM (xt_3 hT) (f := (2, 4)) rfl (v := .ref (E.2.1.2.1 4)) rfl dX7_takeNumber_1 ?_
  refine lv_aload_n hx hb dX7_takeNumber_4 rfl (lv_at hl 0 rfl) ?_
  refine gX7_45 C hM (xt_3 hT) (f := (0, 0)) rfl (v := .int (M.1 3 7)) rfl dX7_takeNumber_5 ?_
  obtain ⟨hg8, hf⟩ := mx_gd hf
  refine mx_iald C hM (xt_4 hT) (mx_in_vp hg8) dX7_takeNumber_8 ?_
  refine lv_iconst (v := (4 : Int32)) hx hb dX7_takeNumber_9 (by decide) ?_
  refine lv_icmp_eq (tgt := 19) hx hb dX7_takeNumber_10 (by decide) (fun hc10 => ?_) (fun hc10 => ?_)
  · replace hf := mx_ift hc10 hf
    refine lv_aload_n hx hb dX7_takeNumber_19 rfl (lv_at hl 0 rfl) ?_
    refine gX7_20 C hM (xt_3 hT) (f := (2, 6)) rfl (v := .ref (E.2.1.2.1 6)) rfl dX7_takeNumber_20 ?_
    refine lv_aload_n hx hb dX7_takeNumber_23 rfl (lv_at hl 0 rfl) ?_
    refine gX7_45 C hM (xt_3 hT) (f := (0, 0)) rfl (v := .int (M.1 3 7)) rfl dX7_takeNumber_24 ?_
    obtain ⟨hg27, hf⟩ := mx_gd hf
    refine mx_iald C hM (xt_6 hT) (mx_in_vp hg27) dX7_takeNumber_27 ?_
    refine lv_iload_n hx hb dX7_takeNumber_28 rfl (lv_at hl 1 rfl) ?_
    refine lv_icmp_lt (tgt := 45) hx hb dX7_takeNumber_29 (by decide) (fun hc29 => ?_) (fun hc29 => ?_)
    · replace hf := mx_ift hc29 hf
      exact wfX7_takeNumber_45 C i1 i2 hT M _ _ _ hf hM (lv_sub hl [0] rfl)
    · replace hf := mx_iff hc29 hf
      refine lv_aload_n hx hb dX7_takeNumber_32 rfl (lv_at hl 0 rfl) ?_
      refine gX7_20 C hM (xt_3 hT) (f := (2, 6)) rfl (v := .ref (E.2.1.2.1 6)) rfl dX7_takeNumber_33 ?_
      refine lv_aload_n hx hb dX7_takeNumber_36 rfl (lv_at hl 0 rfl) ?_
      refine gX7_45 C hM (xt_3 hT) (f := (0, 0)) rfl (v := .int (M.1 3 7)) rfl dX7_takeNumber_37 ?_
      obtain ⟨hg40, hf⟩ := mx_gd hf
      refine mx_iald C hM (xt_6 hT) (mx_in_vp hg40) dX7_takeNumber_40 ?_
      refine lv_iload_n hx hb dX7_takeNumber_41 rfl (lv_at hl 2 rfl) ?_
      refine lv_icmp_le (tgt := 51) hx hb dX7_takeNumber_42 (by decide) (fun hc42 => ?_) (fun hc42 => ?_)
      · replace hf := mx_ift hc42 hf
        refine lv_aload_n hx hb dX7_takeNumber_51 rfl (lv_at hl 0 rfl) ?_
        refine lv_aload_n hx hb dX7_takeNumber_52 rfl (lv_at hl 0 rfl) ?_
        refine gX7_20 C hM (xt_3 hT) (f := (2, 6)) rfl (v := .ref (E.2.1.2.1 6)) rfl dX7_takeNumber_53 ?_
        refine lv_aload_n hx hb dX7_takeNumber_56 rfl (lv_at hl 0 rfl) ?_
        refine gX7_45 C hM (xt_3 hT) (f := (0, 0)) rfl (v := .int (M.1 3 7)) rfl dX7_takeNumber_57 ?_
        obtain ⟨hg60, hf⟩ := mx_gd hf
        refine mx_iald C hM (xt_6 hT) (mx_in_vp hg60) dX7_takeNumber_60 ?_
        refine pX7_95 C hM (xt_3 hT) rfl rfl rfl dX7_takeNumber_61 (fun H locs hM => ?_)
        refine lv_aload_n hx hb dX7_takeNumber_64 rfl (lv_at hl 0 rfl) ?_
        obtain ⟨q65, hq65, hf⟩ := mx_bd hf
        refine mx_callV C hM hl.1 yo_X7_advance (h' := 0) (by decide) qw_590 qw_567 qs_14 (ci := 7) (q := (RX7, TX7, 12)) rfl (xt_3 hT) (As := []) (rest := []) (st1 := []) (kX7_advance C.2.2.2.1 hT (mx_si M 3 9 (M.1 6 (M.1 3 7).toNatClampNeg)) hq65) rfl rfl rfl (Nat.le_of_ble_eq_true rfl) dX7_takeNumber_65 (fun H locs hM => ?_)
        refine lv_iconst (v := (1 : Int32)) hx hb dX7_takeNumber_68 (by decide) ?_
        exact mx_zret C hM (b := true) rfl hf dX7_takeNumber_69
      · replace hf := mx_iff hc42 hf
        exact wfX7_takeNumber_45 C i1 i2 hT M _ _ _ hf hM (lv_sub hl [0] rfl)
  · replace hf := mx_iff hc10 hf
    refine lv_aload_n hx hb dX7_takeNumber_13 rfl (lv_at hl 0 rfl) ?_
    refine lv_iconst (v := (1 : Int32)) hx hb dX7_takeNumber_14 (by decide) ?_
    obtain ⟨q15, hq15, hf⟩ := mx_bd hf
    refine mx_callV C hM hl.1 yo_X7_fail (h' := 0) (by decide) qw_589 qw_563 qs_13 (ci := 7) (q := (RX7, TX7, 12)) rfl (xt_3 hT) (As := [.int (1 : Int32)]) (rest := []) (st1 := [.int (mx_b q15.1)]) (kX7_fail C.2.2.2.1 (1 : Int32) hT M hq15) rfl rfl rfl (Nat.le_of_ble_eq_true rfl) dX7_takeNumber_15 (fun H locs hM => ?_)
    exact mx_zret C hM (b := q15.1) rfl hf dX7_takeNumber_18
theorem dX1_readNumbers_0 : decode cX1_readNumbers 0 = .ok (.aload_n 0, 1) := by decide +kernel
theorem dX1_readNumbers_1 : decode cX1_readNumbers 1 = .ok (.aload_n 1, 1) := by decide +kernel
theorem dX1_readNumbers_2 : decode cX1_readNumbers 2 = .ok (.iload_n 2, 1) := by decide +kernel
theorem dX1_readNumbers_3 : decode cX1_readNumbers 3 = .ok (.invokevirtual 94, 3) := by decide +kernel
theorem dX1_readNumbers_6 : decode cX1_readNumbers 6 = .ok (.pop, 1) := by decide +kernel
theorem dX1_readNumbers_7 : decode cX1_readNumbers 7 = .ok (.aload_n 1, 1) := by decide +kernel
theorem dX1_readNumbers_8 : decode cX1_readNumbers 8 = .ok (.iload_n 3, 1) := by decide +kernel
theorem dX1_readNumbers_9 : decode cX1_readNumbers 9 = .ok (.iload 4, 2) := by decide +kernel
theorem dX1_readNumbers_11 : decode cX1_readNumbers 11 = .ok (.invokevirtual 101, 3) := by decide +kernel
theorem dX1_readNumbers_14 : decode cX1_readNumbers 14 = .ok (.ifCond .ne 5, 3) := by decide +kernel
theorem dX1_readNumbers_17 : decode cX1_readNumbers 17 = .ok (.iconst 0, 1) := by decide +kernel
theorem dX1_readNumbers_18 : decode cX1_readNumbers 18 = .ok (.ireturn, 1) := by decide +kernel
theorem dX1_readNumbers_19 : decode cX1_readNumbers 19 = .ok (.aload_n 0, 1) := by decide +kernel
theorem dX1_readNumbers_20 : decode cX1_readNumbers 20 = .ok (.getfield 18, 3) := by decide +kernel
theorem dX1_readNumbers_23 : decode cX1_readNumbers 23 = .ok (.aload_n 0, 1) := by decide +kernel
theorem dX1_readNumbers_24 : decode cX1_readNumbers 24 = .ok (.getfield 24, 3) := by decide +kernel
theorem dX1_readNumbers_27 : decode cX1_readNumbers 27 = .ok (.aload_n 1, 1) := by decide +kernel
theorem dX1_readNumbers_28 : decode cX1_readNumbers 28 = .ok (.getfield 74, 3) := by decide +kernel
theorem dX1_readNumbers_31 : decode cX1_readNumbers 31 = .ok (.iastore, 1) := by decide +kernel
theorem dX1_readNumbers_32 : decode cX1_readNumbers 32 = .ok (.iload_n 2, 1) := by decide +kernel
theorem dX1_readNumbers_33 : decode cX1_readNumbers 33 = .ok (.ifCond .eq 5, 3) := by decide +kernel
theorem dX1_readNumbers_36 : decode cX1_readNumbers 36 = .ok (.iconst 1, 1) := by decide +kernel
theorem dX1_readNumbers_37 : decode cX1_readNumbers 37 = .ok (.ireturn, 1) := by decide +kernel
theorem dX1_readNumbers_38 : decode cX1_readNumbers 38 = .ok (.aload_n 1, 1) := by decide +kernel
theorem dX1_readNumbers_39 : decode cX1_readNumbers 39 = .ok (.iload_n 3, 1) := by decide +kernel
theorem dX1_readNumbers_40 : decode cX1_readNumbers 40 = .ok (.iload 4, 2) := by decide +kernel
theorem dX1_readNumbers_42 : decode cX1_readNumbers 42 = .ok (.invokevirtual 101, 3) := by decide +kernel
theorem dX1_readNumbers_45 : decode cX1_readNumbers 45 = .ok (.ifCond .ne 5, 3) := by decide +kernel
theorem dX1_readNumbers_48 : decode cX1_readNumbers 48 = .ok (.iconst 0, 1) := by decide +kernel
theorem dX1_readNumbers_49 : decode cX1_readNumbers 49 = .ok (.ireturn, 1) := by decide +kernel
theorem dX1_readNumbers_50 : decode cX1_readNumbers 50 = .ok (.aload_n 0, 1) := by decide +kernel
theorem dX1_readNumbers_51 : decode cX1_readNumbers 51 = .ok (.getfield 21, 3) := by decide +kernel
theorem dX1_readNumbers_54 : decode cX1_readNumbers 54 = .ok (.aload_n 0, 1) := by decide +kernel
theorem dX1_readNumbers_55 : decode cX1_readNumbers 55 = .ok (.getfield 24, 3) := by decide +kernel
theorem dX1_readNumbers_58 : decode cX1_readNumbers 58 = .ok (.aload_n 1, 1) := by decide +kernel
theorem dX1_readNumbers_59 : decode cX1_readNumbers 59 = .ok (.getfield 74, 3) := by decide +kernel
theorem dX1_readNumbers_62 : decode cX1_readNumbers 62 = .ok (.iastore, 1) := by decide +kernel
theorem dX1_readNumbers_63 : decode cX1_readNumbers 63 = .ok (.iconst 1, 1) := by decide +kernel
theorem dX1_readNumbers_64 : decode cX1_readNumbers 64 = .ok (.ireturn, 1) := by decide +kernel
set_option maxRecDepth 100000 in
set_option maxHeartbeats 4000000 in
theorem kX1_readNumbers {E : KE} {l : Launch} (hE : mx_ok E) (i2 : Int32) (i3 : Int32) (i4 : Int32) (hT : xOK E) (M : MM) {q : (Bool × MM)} (hf : fX1_readNumbers i2 i3 i4 M = some q) : mx_Met E l yX1_readNumbers cX1_readNumbers 5 (some .boolean) 2 [.ref (E.2.1.2.1 138), .ref (E.2.1.2.1 3), .int i2, .int i3, .int i4] M (some (.int (mx_b q.1))) q.2 := by
  refine mx_enter hE (by decide) (Nat.le_of_ble_eq_true rfl) ?_
  intro p e s m below meth c C hM hn ls hl
  have hx := C.1.1
  have hb := C.1.2.1
  have hown := C.1.2.2.2.1
  have hts := C.1.2.2.2.2
  have hl : lv_has ls 5 [(0, .ref (E.2.1.2.1 138)), (1, .ref (E.2.1.2.1 3)), (2, .int i2), (3, .int i3), (4, .int i4)] := hl
  rw [fX1_readNumbers] at hf
  refine lv_aload_n hx hb dX1_readNumbers_0 rfl (lv_at hl 0 rfl) ?_
  refine lv_aload_n hx hb dX1_readNumbers_1 rfl (lv_at hl 1 rfl) ?_
  refine lv_iload_n hx hb dX1_readNumbers_2 rfl (lv_at hl 2 rfl) ?_
  obtain ⟨q3, hq3, hf⟩ := mx_bd hf
  refine mx_callV C hM hl.1 yo_X1_readBare (h' := 1) (by decide) qw_1114 qw_1116 qs_91 (ci := 1) (q := (RX1, TX1, 10)) rfl (xt_138 hT) (As := [.ref (E.2.1.2.1 3), .int i2]) (rest := []) (st1 := [.int (mx_b q3.1)]) (kX1_readBare C.2.2.2.1 i2 hT M hq3) rfl rfl rfl (Nat.le_of_ble_eq_true rfl) dX1_readNumbers_3 (fun H locs hM => ?_)
  refine lv_pop hx hb dX1_readNumbers_6 rfl ?_
  refine lv_aload_n hx hb dX1_readNumbers_7 rfl (lv_at hl 1 rfl) ?_
  refine lv_iload_n hx hb dX1_readNumbers_8 rfl (lv_at hl 3 rfl) ?_
  refine lv_iload hx hb dX1_readNumbers_9 (lv_at hl 4 rfl) ?_
  obtain ⟨q11, hq11, hf⟩ := mx_bd hf
  refine mx_callVN C hM hl.1 yo_X7_takeNumber (h' := 1) (by decide) (nw_1119 hT C) qw_587 qs_19 (ci := 7) (q := (RX7, TX7, 12)) rfl (xt_3 hT) (As := [.int i3, .int i4]) (rest := []) (st1 := [.int (mx_b q11.1)]) (kX7_takeNumber C.2.2.2.1 i3 i4 hT q3.2 hq11) rfl rfl rfl (Nat.le_of_ble_eq_true rfl) dX1_readNumbers_11 (fun H locs hM => ?_)
  refine lv_if_ne (tgt := 19) hx hb dX1_readNumbers_14 (by decide) (fun hc14 => ?_) (fun hc14 => ?_)
  · replace hf := mx_iff hc14 hf
    refine lv_aload_n hx hb dX1_readNumbers_19 rfl (lv_at hl 0 rfl) ?_
    refine gX1_18 C hM (xt_138 hT) (f := (2, 141)) rfl (v := .ref (E.2.1.2.1 141)) rfl dX1_readNumbers_20 ?_
    refine lv_aload_n hx hb dX1_readNumbers_23 rfl (lv_at hl 0 rfl) ?_
    refine gX1_24 C hM (xt_138 hT) (f := (0, 0)) rfl (v := .int (q11.2.1 138 4)) rfl dX1_readNumbers_24 ?_
    refine lv_aload_n hx hb dX1_readNumbers_27 rfl (lv_at hl 1 rfl) ?_
    refine gX1_74 C hT hM (xt_3 hT) (f := (0, 0)) rfl (v := .int (q11.2.1 3 9)) rfl dX1_readNumbers_28 ?_
    obtain ⟨hg31, hf⟩ := mx_gd hf
    refine mx_iast C hM (xt_141 hT) (mx_in_vp hg31) dX1_readNumbers_31 (fun H locs hM => ?_)
    refine lv_iload_n hx hb dX1_readNumbers_32 rfl (lv_at hl 2 rfl) ?_
    refine lv_if_eq (tgt := 38) hx hb dX1_readNumbers_33 (by decide) (fun hc33 => ?_) (fun hc33 => ?_)
    · replace hf := mx_ift hc33 hf
      refine lv_aload_n hx hb dX1_readNumbers_38 rfl (lv_at hl 1 rfl) ?_
      refine lv_iload_n hx hb dX1_readNumbers_39 rfl (lv_at hl 3 rfl) ?_
      refine lv_iload hx hb dX1_readNumbers_40 (lv_at hl 4 rfl) ?_
      obtain ⟨q42, hq42, hf⟩ := mx_bd hf
      refine mx_callVN C hM hl.1 yo_X7_takeNumber (h' := 1) (by decide) (nw_1119 hT C) qw_587 qs_19 (ci := 7) (q := (RX7, TX7, 12)) rfl (xt_3 hT) (As := [.int i3, .int i4]) (rest := []) (st1 := [.int (mx_b q42.1)]) (kX7_takeNumber C.2.2.2.1 i3 i4 hT (mx_si q11.2 141 (q11.2.1 138 4).toNatClampNeg (q11.2.1 3 9)) hq42) rfl rfl rfl (Nat.le_of_ble_eq_true rfl) dX1_readNumbers_42 (fun H locs hM => ?_)
      refine lv_if_ne (tgt := 50) hx hb dX1_readNumbers_45 (by decide) (fun hc45 => ?_) (fun hc45 => ?_)
      · replace hf := mx_iff hc45 hf
        refine lv_aload_n hx hb dX1_readNumbers_50 rfl (lv_at hl 0 rfl) ?_
        refine gX1_21 C hM (xt_138 hT) (f := (2, 142)) rfl (v := .ref (E.2.1.2.1 142)) rfl dX1_readNumbers_51 ?_
        refine lv_aload_n hx hb dX1_readNumbers_54 rfl (lv_at hl 0 rfl) ?_
        refine gX1_24 C hM (xt_138 hT) (f := (0, 0)) rfl (v := .int (q42.2.1 138 4)) rfl dX1_readNumbers_55 ?_
        refine lv_aload_n hx hb dX1_readNumbers_58 rfl (lv_at hl 1 rfl) ?_
        refine gX1_74 C hT hM (xt_3 hT) (f := (0, 0)) rfl (v := .int (q42.2.1 3 9)) rfl dX1_readNumbers_59 ?_
        obtain ⟨hg62, hf⟩ := mx_gd hf
        refine mx_iast C hM (xt_142 hT) (mx_in_vp hg62) dX1_readNumbers_62 (fun H locs hM => ?_)
        refine lv_iconst (v := (1 : Int32)) hx hb dX1_readNumbers_63 (by decide) ?_
        exact mx_zret C hM (b := true) rfl hf dX1_readNumbers_64
      · replace hf := mx_ift hc45 hf
        refine lv_iconst (v := (0 : Int32)) hx hb dX1_readNumbers_48 (by decide) ?_
        exact mx_zret C hM (b := false) rfl hf dX1_readNumbers_49
    · replace hf := mx_iff hc33 hf
      refine lv_iconst (v := (1 : Int32)) hx hb dX1_readNumbers_36 (by decide) ?_
      exact mx_zret C hM (b := true) rfl hf dX1_readNumbers_37
  · replace hf := mx_ift hc14 hf
    refine lv_iconst (v := (0 : Int32)) hx hb dX1_readNumbers_17 (by decide) ?_
    exact mx_zret C hM (b := false) rfl hf dX1_readNumbers_18
theorem dX3_ringNamed_0 : decode cX3_ringNamed 0 = .ok (.iconst 0, 1) := by decide +kernel
theorem dX3_ringNamed_1 : decode cX3_ringNamed 1 = .ok (.istore_n 3, 1) := by decide +kernel
theorem dX3_ringNamed_2 : decode cX3_ringNamed 2 = .ok (.iload_n 3, 1) := by decide +kernel
theorem dX3_ringNamed_3 : decode cX3_ringNamed 3 = .ok (.aload_n 0, 1) := by decide +kernel
theorem dX3_ringNamed_4 : decode cX3_ringNamed 4 = .ok (.getfield 53, 3) := by decide +kernel
theorem dX3_ringNamed_7 : decode cX3_ringNamed 7 = .ok (.if_icmp .ge 22, 3) := by decide +kernel
theorem dX3_ringNamed_10 : decode cX3_ringNamed 10 = .ok (.aload_n 0, 1) := by decide +kernel
theorem dX3_ringNamed_11 : decode cX3_ringNamed 11 = .ok (.getfield 25, 3) := by decide +kernel
theorem dX3_ringNamed_14 : decode cX3_ringNamed 14 = .ok (.iload_n 3, 1) := by decide +kernel
theorem dX3_ringNamed_15 : decode cX3_ringNamed 15 = .ok (.laload, 1) := by decide +kernel
theorem dX3_ringNamed_16 : decode cX3_ringNamed 16 = .ok (.lload_n 1, 1) := by decide +kernel
theorem dX3_ringNamed_17 : decode cX3_ringNamed 17 = .ok (.lcmp, 1) := by decide +kernel
theorem dX3_ringNamed_18 : decode cX3_ringNamed 18 = .ok (.ifCond .ne 5, 3) := by decide +kernel
theorem dX3_ringNamed_21 : decode cX3_ringNamed 21 = .ok (.iload_n 3, 1) := by decide +kernel
theorem dX3_ringNamed_22 : decode cX3_ringNamed 22 = .ok (.ireturn, 1) := by decide +kernel
theorem dX3_ringNamed_23 : decode cX3_ringNamed 23 = .ok (.iinc 3 1, 3) := by decide +kernel
theorem dX3_ringNamed_26 : decode cX3_ringNamed 26 = .ok (.goto (-24), 3) := by decide +kernel
theorem dX3_ringNamed_29 : decode cX3_ringNamed 29 = .ok (.iconst (-1), 1) := by decide +kernel
theorem dX3_ringNamed_30 : decode cX3_ringNamed 30 = .ok (.ireturn, 1) := by decide +kernel
set_option maxRecDepth 100000 in
set_option maxHeartbeats 4000000 in
theorem wfX3_ringNamed_2 {E : KE} {p : Program} {l : Launch} {e : Env} {s : State} {m : MethodId} {args : Array Value} {below : List Frame} {meth : Method} {c : Code} {q : Int32} (C : mx_C E p m c cX3_ringNamed 4 s args RX3 meth (some .int)) (o : Nat) (l1 : Int64) (M : MM) (hT : xOK E) (ho : xt_isI o = true)   : ∀ (n : Nat) (i3 : Int32) (H : Heap) (locs : List Loc) (ls : Array Slot), fX3_ringNamed_2 o l1 M n i3 = some q → mx_H E s M H locs → lv_has ls 4 [(0, .ref (E.2.1.2.1 o)), (1, .long l1), (3, .int i3)] → W p l e (mx_rm 0) s m args below meth c H locs 0 0 (mx_Z E below args s (some (.int q)) M) (F0 m 2 ls []) := by
  have hx := C.1.1
  have hb := C.1.2.1
  have hown := C.1.2.2.2.1
  have hts := C.1.2.2.2.2
  intro n
  induction n with
  | zero =>
    intro i3 H locs ls hf hM hl
    rw [fX3_ringNamed_2] at hf
    cases hf
  | succ n ih =>
    intro i3 H locs ls hf hM hl
    rw [fX3_ringNamed_2] at hf
    refine lv_iload_n hx hb dX3_ringNamed_2 rfl (lv_at hl 2 rfl) ?_
    refine lv_aload_n hx hb dX3_ringNamed_3 rfl (lv_at hl 0 rfl) ?_
    refine gX3_53 C hM (xoI hT ho) (f := (0, 0)) rfl (v := .int (M.1 o 1)) rfl dX3_ringNamed_4 ?_
    refine lv_icmp_ge (tgt := 29) hx hb dX3_ringNamed_7 (by decide) (fun hc7 => ?_) (fun hc7 => ?_)
    · replace hf := mx_ift hc7 hf
      refine lv_iconst (v := (-1 : Int32)) hx hb dX3_ringNamed_29 (by decide) ?_
      exact mx_iretR C hM hf dX3_ringNamed_30
    · replace hf := mx_iff hc7 hf
      refine lv_aload_n hx hb dX3_ringNamed_10 rfl (lv_at hl 0 rfl) ?_
      refine gX3_25 C hM (xoI hT ho) (f := (2, o + 5)) rfl (v := .ref (E.2.1.2.1 (o + 5))) rfl dX3_ringNamed_11 ?_
      refine lv_iload_n hx hb dX3_ringNamed_14 rfl (lv_at hl 2 rfl) ?_
      obtain ⟨hg15, hf⟩ := mx_gd hf
      refine mx_lald C hM (xaI_5 hT ho) (mx_in_vp hg15) dX3_ringNamed_15 ?_
      refine lv_lload_n hx hb dX3_ringNamed_16 rfl (lv_at hl 1 rfl) ?_
      refine W.lcmp hx hb dX3_ringNamed_17 ?_
      refine lv_if_ne (tgt := 23) hx hb dX3_ringNamed_18 (by decide) (fun hc18 => ?_) (fun hc18 => ?_)
      · replace hf := mx_iff hc18 hf
        refine lv_iinc (v := (i3 + (1 : Int32))) (lv' := [(3, .int (i3 + (1 : Int32))), (0, .ref (E.2.1.2.1 o)), (1, .long l1)]) hx hb dX3_ringNamed_23 hl (k := 2) rfl rfl (by decide) rfl (fun ls hl => ?_)
        refine lv_goto (tgt := 2) hx hb dX3_ringNamed_26 (by decide) ?_
        exact ih (i3 + (1 : Int32)) _ _ _ hf hM (lv_sub hl [1, 2, 0] rfl)
      · replace hf := mx_ift hc18 hf
        refine lv_iload_n hx hb dX3_ringNamed_21 rfl (lv_at hl 2 rfl) ?_
        exact mx_iretR C hM hf dX3_ringNamed_22
set_option maxRecDepth 100000 in
set_option maxHeartbeats 4000000 in
theorem kX3_ringNamed {E : KE} {l : Launch} (hE : mx_ok E) (o : Nat) (l1 : Int64) (hT : xOK E) (ho : xt_isI o = true) (M : MM) {q : Int32} (hf : fX3_ringNamed o l1 M = some q) : mx_Met E l yX3_ringNamed cX3_ringNamed 4 (some .int) 0 [.ref (E.2.1.2.1 o), .long l1] M (some (.int q)) M := by
  refine mx_enter hE (by decide) (Nat.le_of_ble_eq_true rfl) ?_
  intro p e s m below meth c C hM hn ls hl
  have hx := C.1.1
  have hb := C.1.2.1
  have hown := C.1.2.2.2.1
  have hts := C.1.2.2.2.2
  have hl : lv_has ls 4 [(0, .ref (E.2.1.2.1 o)), (1, .long l1)] := hl
  rw [fX3_ringNamed] at hf
  refine lv_iconst (v := (0 : Int32)) hx hb dX3_ringNamed_0 (by decide) ?_
  refine lv_istore_n (lv' := [(3, .int (0 : Int32)), (0, .ref (E.2.1.2.1 o)), (1, .long l1)]) hx hb dX3_ringNamed_1 rfl hl (by decide) rfl (fun ls hl => ?_)
  exact wfX3_ringNamed_2 C o l1 M hT ho mx_fu (0 : Int32) _ _ _ hf hM (lv_sub hl [1, 2, 0] rfl)
theorem dX1_readRingAct_0 : decode cX1_readRingAct 0 = .ok (.aload_n 0, 1) := by decide +kernel
theorem dX1_readRingAct_1 : decode cX1_readRingAct 1 = .ok (.aload_n 1, 1) := by decide +kernel
theorem dX1_readRingAct_2 : decode cX1_readRingAct 2 = .ok (.iload_n 2, 1) := by decide +kernel
theorem dX1_readRingAct_3 : decode cX1_readRingAct 3 = .ok (.invokevirtual 94, 3) := by decide +kernel
theorem dX1_readRingAct_6 : decode cX1_readRingAct 6 = .ok (.pop, 1) := by decide +kernel
theorem dX1_readRingAct_7 : decode cX1_readRingAct 7 = .ok (.aload_n 1, 1) := by decide +kernel
theorem dX1_readRingAct_8 : decode cX1_readRingAct 8 = .ok (.aload_n 3, 1) := by decide +kernel
theorem dX1_readRingAct_9 : decode cX1_readRingAct 9 = .ok (.aload_n 1, 1) := by decide +kernel
theorem dX1_readRingAct_10 : decode cX1_readRingAct 10 = .ok (.invokevirtual 48, 3) := by decide +kernel
theorem dX1_readRingAct_13 : decode cX1_readRingAct 13 = .ok (.invokevirtual 105, 3) := by decide +kernel
theorem dX1_readRingAct_16 : decode cX1_readRingAct 16 = .ok (.invokevirtual 71, 3) := by decide +kernel
theorem dX1_readRingAct_19 : decode cX1_readRingAct 19 = .ok (.ifCond .ne 5, 3) := by decide +kernel
theorem dX1_readRingAct_22 : decode cX1_readRingAct 22 = .ok (.iconst 0, 1) := by decide +kernel
theorem dX1_readRingAct_23 : decode cX1_readRingAct 23 = .ok (.ireturn, 1) := by decide +kernel
theorem dX1_readRingAct_24 : decode cX1_readRingAct 24 = .ok (.aload_n 0, 1) := by decide +kernel
theorem dX1_readRingAct_25 : decode cX1_readRingAct 25 = .ok (.getfield 18, 3) := by decide +kernel
theorem dX1_readRingAct_28 : decode cX1_readRingAct 28 = .ok (.aload_n 0, 1) := by decide +kernel
theorem dX1_readRingAct_29 : decode cX1_readRingAct 29 = .ok (.getfield 24, 3) := by decide +kernel
theorem dX1_readRingAct_32 : decode cX1_readRingAct 32 = .ok (.aload_n 1, 1) := by decide +kernel
theorem dX1_readRingAct_33 : decode cX1_readRingAct 33 = .ok (.getfield 74, 3) := by decide +kernel
theorem dX1_readRingAct_36 : decode cX1_readRingAct 36 = .ok (.iastore, 1) := by decide +kernel
theorem dX1_readRingAct_37 : decode cX1_readRingAct 37 = .ok (.iload_n 2, 1) := by decide +kernel
theorem dX1_readRingAct_38 : decode cX1_readRingAct 38 = .ok (.bipush 10, 2) := by decide +kernel
theorem dX1_readRingAct_40 : decode cX1_readRingAct 40 = .ok (.if_icmp .eq 5, 3) := by decide +kernel
theorem dX1_readRingAct_43 : decode cX1_readRingAct 43 = .ok (.iconst 1, 1) := by decide +kernel
theorem dX1_readRingAct_44 : decode cX1_readRingAct 44 = .ok (.ireturn, 1) := by decide +kernel
theorem dX1_readRingAct_45 : decode cX1_readRingAct 45 = .ok (.aload_n 1, 1) := by decide +kernel
theorem dX1_readRingAct_46 : decode cX1_readRingAct 46 = .ok (.aload_n 3, 1) := by decide +kernel
theorem dX1_readRingAct_47 : decode cX1_readRingAct 47 = .ok (.aload_n 1, 1) := by decide +kernel
theorem dX1_readRingAct_48 : decode cX1_readRingAct 48 = .ok (.invokevirtual 48, 3) := by decide +kernel
theorem dX1_readRingAct_51 : decode cX1_readRingAct 51 = .ok (.invokevirtual 52, 3) := by decide +kernel
theorem dX1_readRingAct_54 : decode cX1_readRingAct 54 = .ok (.invokevirtual 71, 3) := by decide +kernel
theorem dX1_readRingAct_57 : decode cX1_readRingAct 57 = .ok (.ifCond .ne 5, 3) := by decide +kernel
theorem dX1_readRingAct_60 : decode cX1_readRingAct 60 = .ok (.iconst 0, 1) := by decide +kernel
theorem dX1_readRingAct_61 : decode cX1_readRingAct 61 = .ok (.ireturn, 1) := by decide +kernel
theorem dX1_readRingAct_62 : decode cX1_readRingAct 62 = .ok (.aload_n 0, 1) := by decide +kernel
theorem dX1_readRingAct_63 : decode cX1_readRingAct 63 = .ok (.getfield 21, 3) := by decide +kernel
theorem dX1_readRingAct_66 : decode cX1_readRingAct 66 = .ok (.aload_n 0, 1) := by decide +kernel
theorem dX1_readRingAct_67 : decode cX1_readRingAct 67 = .ok (.getfield 24, 3) := by decide +kernel
theorem dX1_readRingAct_70 : decode cX1_readRingAct 70 = .ok (.aload_n 1, 1) := by decide +kernel
theorem dX1_readRingAct_71 : decode cX1_readRingAct 71 = .ok (.getfield 74, 3) := by decide +kernel
theorem dX1_readRingAct_74 : decode cX1_readRingAct 74 = .ok (.iastore, 1) := by decide +kernel
theorem dX1_readRingAct_75 : decode cX1_readRingAct 75 = .ok (.iconst 1, 1) := by decide +kernel
theorem dX1_readRingAct_76 : decode cX1_readRingAct 76 = .ok (.ireturn, 1) := by decide +kernel
set_option maxRecDepth 100000 in
set_option maxHeartbeats 4000000 in
theorem kX1_readRingAct {E : KE} {l : Launch} (hE : mx_ok E) (i2 : Int32) (hT : xOK E) (M : MM) {q : (Bool × MM)} (hf : fX1_readRingAct i2 M = some q) : mx_Met E l yX1_readRingAct cX1_readRingAct 4 (some .boolean) 2 [.ref (E.2.1.2.1 138), .ref (E.2.1.2.1 3), .int i2, .ref (E.2.1.2.1 9)] M (some (.int (mx_b q.1))) q.2 := by
  refine mx_enter hE (by decide) (Nat.le_of_ble_eq_true rfl) ?_
  intro p e s m below meth c C hM hn ls hl
  have hx := C.1.1
  have hb := C.1.2.1
  have hown := C.1.2.2.2.1
  have hts := C.1.2.2.2.2
  have hl : lv_has ls 4 [(0, .ref (E.2.1.2.1 138)), (1, .ref (E.2.1.2.1 3)), (2, .int i2), (3, .ref (E.2.1.2.1 9))] := hl
  rw [fX1_readRingAct] at hf
  refine lv_aload_n hx hb dX1_readRingAct_0 rfl (lv_at hl 0 rfl) ?_
  refine lv_aload_n hx hb dX1_readRingAct_1 rfl (lv_at hl 1 rfl) ?_
  refine lv_iload_n hx hb dX1_readRingAct_2 rfl (lv_at hl 2 rfl) ?_
  obtain ⟨q3, hq3, hf⟩ := mx_bd hf
  refine mx_callV C hM hl.1 yo_X1_readBare (h' := 1) (by decide) qw_1114 qw_1116 qs_91 (ci := 1) (q := (RX1, TX1, 10)) rfl (xt_138 hT) (As := [.ref (E.2.1.2.1 3), .int i2]) (rest := []) (st1 := [.int (mx_b q3.1)]) (kX1_readBare C.2.2.2.1 i2 hT M hq3) rfl rfl rfl (Nat.le_of_ble_eq_true rfl) dX1_readRingAct_3 (fun H locs hM => ?_)
  refine lv_pop hx hb dX1_readRingAct_6 rfl ?_
  refine lv_aload_n hx hb dX1_readRingAct_7 rfl (lv_at hl 1 rfl) ?_
  refine lv_aload_n hx hb dX1_readRingAct_8 rfl (lv_at hl 3 rfl) ?_
  refine lv_aload_n hx hb dX1_readRingAct_9 rfl (lv_at hl 1 rfl) ?_
  obtain ⟨q10, hq10, hf⟩ := mx_bd hf
  refine mx_callVN C hM hl.1 yo_X7_name (h' := 0) (by decide) (nw_1103 hT C) qw_571 qs_15 (ci := 7) (q := (RX7, TX7, 12)) rfl (xt_3 hT) (As := []) (rest := [.ref (E.2.1.2.1 9), .ref (E.2.1.2.1 3)]) (st1 := [.long q10, .ref (E.2.1.2.1 9), .ref (E.2.1.2.1 3)]) (kX7_name C.2.2.2.1 hT q3.2 hq10) rfl rfl rfl (Nat.le_of_ble_eq_true rfl) dX1_readRingAct_10 (fun H locs hM => ?_)
  obtain ⟨q13, hq13, hf⟩ := mx_bd hf
  refine mx_callVN C hM hl.1 yo_X3_ringNamed (h' := 0) (by decide) (nw_1126 hT C) qw_583 qs_18 (ci := 3) (q := (RX3, TX3, 18)) rfl (xt_9 hT) (As := [.long q10]) (rest := [.ref (E.2.1.2.1 3)]) (st1 := [.int q13, .ref (E.2.1.2.1 3)]) (kX3_ringNamed C.2.2.2.1 9 q10 hT xiI_9 q3.2 hq13) rfl rfl rfl (Nat.le_of_ble_eq_true rfl) dX1_readRingAct_13 (fun H locs hM => ?_)
  obtain ⟨q16, hq16, hf⟩ := mx_bd hf
  refine mx_callVN C hM hl.1 yo_X7_takeNamed (h' := 1) (by decide) (nw_1105 hT C) qw_597 qs_21 (ci := 7) (q := (RX7, TX7, 12)) rfl (xt_3 hT) (As := [.int q13]) (rest := []) (st1 := [.int (mx_b q16.1)]) (kX7_takeNamed C.2.2.2.1 q13 hT q3.2 hq16) rfl rfl rfl (Nat.le_of_ble_eq_true rfl) dX1_readRingAct_16 (fun H locs hM => ?_)
  refine lv_if_ne (tgt := 24) hx hb dX1_readRingAct_19 (by decide) (fun hc19 => ?_) (fun hc19 => ?_)
  · replace hf := mx_iff hc19 hf
    refine lv_aload_n hx hb dX1_readRingAct_24 rfl (lv_at hl 0 rfl) ?_
    refine gX1_18 C hM (xt_138 hT) (f := (2, 141)) rfl (v := .ref (E.2.1.2.1 141)) rfl dX1_readRingAct_25 ?_
    refine lv_aload_n hx hb dX1_readRingAct_28 rfl (lv_at hl 0 rfl) ?_
    refine gX1_24 C hM (xt_138 hT) (f := (0, 0)) rfl (v := .int (q16.2.1 138 4)) rfl dX1_readRingAct_29 ?_
    refine lv_aload_n hx hb dX1_readRingAct_32 rfl (lv_at hl 1 rfl) ?_
    refine gX1_74 C hT hM (xt_3 hT) (f := (0, 0)) rfl (v := .int (q16.2.1 3 9)) rfl dX1_readRingAct_33 ?_
    obtain ⟨hg36, hf⟩ := mx_gd hf
    refine mx_iast C hM (xt_141 hT) (mx_in_vp hg36) dX1_readRingAct_36 (fun H locs hM => ?_)
    refine lv_iload_n hx hb dX1_readRingAct_37 rfl (lv_at hl 2 rfl) ?_
    refine lv_bipush (v := (10 : Int32)) hx hb dX1_readRingAct_38 (by decide) ?_
    refine lv_icmp_eq (tgt := 45) hx hb dX1_readRingAct_40 (by decide) (fun hc40 => ?_) (fun hc40 => ?_)
    · replace hf := mx_ift hc40 hf
      refine lv_aload_n hx hb dX1_readRingAct_45 rfl (lv_at hl 1 rfl) ?_
      refine lv_aload_n hx hb dX1_readRingAct_46 rfl (lv_at hl 3 rfl) ?_
      refine lv_aload_n hx hb dX1_readRingAct_47 rfl (lv_at hl 1 rfl) ?_
      obtain ⟨q48, hq48, hf⟩ := mx_bd hf
      refine mx_callVN C hM hl.1 yo_X7_name (h' := 0) (by decide) (nw_1103 hT C) qw_571 qs_15 (ci := 7) (q := (RX7, TX7, 12)) rfl (xt_3 hT) (As := []) (rest := [.ref (E.2.1.2.1 9), .ref (E.2.1.2.1 3)]) (st1 := [.long q48, .ref (E.2.1.2.1 9), .ref (E.2.1.2.1 3)]) (kX7_name C.2.2.2.1 hT (mx_si q16.2 141 (q16.2.1 138 4).toNatClampNeg (q16.2.1 3 9)) hq48) rfl rfl rfl (Nat.le_of_ble_eq_true rfl) dX1_readRingAct_48 (fun H locs hM => ?_)
      obtain ⟨q51, hq51, hf⟩ := mx_bd hf
      refine mx_callVN C hM hl.1 yo_X3_personNamed (h' := 0) (by decide) (nw_1104 hT C) qw_579 qs_17 (ci := 3) (q := (RX3, TX3, 18)) rfl (xt_9 hT) (As := [.long q48]) (rest := [.ref (E.2.1.2.1 3)]) (st1 := [.int q51, .ref (E.2.1.2.1 3)]) (kX3_personNamed C.2.2.2.1 9 q48 hT xiI_9 (mx_si q16.2 141 (q16.2.1 138 4).toNatClampNeg (q16.2.1 3 9)) hq51) rfl rfl rfl (Nat.le_of_ble_eq_true rfl) dX1_readRingAct_51 (fun H locs hM => ?_)
      obtain ⟨q54, hq54, hf⟩ := mx_bd hf
      refine mx_callVN C hM hl.1 yo_X7_takeNamed (h' := 1) (by decide) (nw_1105 hT C) qw_597 qs_21 (ci := 7) (q := (RX7, TX7, 12)) rfl (xt_3 hT) (As := [.int q51]) (rest := []) (st1 := [.int (mx_b q54.1)]) (kX7_takeNamed C.2.2.2.1 q51 hT (mx_si q16.2 141 (q16.2.1 138 4).toNatClampNeg (q16.2.1 3 9)) hq54) rfl rfl rfl (Nat.le_of_ble_eq_true rfl) dX1_readRingAct_54 (fun H locs hM => ?_)
      refine lv_if_ne (tgt := 62) hx hb dX1_readRingAct_57 (by decide) (fun hc57 => ?_) (fun hc57 => ?_)
      · replace hf := mx_iff hc57 hf
        refine lv_aload_n hx hb dX1_readRingAct_62 rfl (lv_at hl 0 rfl) ?_
        refine gX1_21 C hM (xt_138 hT) (f := (2, 142)) rfl (v := .ref (E.2.1.2.1 142)) rfl dX1_readRingAct_63 ?_
        refine lv_aload_n hx hb dX1_readRingAct_66 rfl (lv_at hl 0 rfl) ?_
        refine gX1_24 C hM (xt_138 hT) (f := (0, 0)) rfl (v := .int (q54.2.1 138 4)) rfl dX1_readRingAct_67 ?_
        refine lv_aload_n hx hb dX1_readRingAct_70 rfl (lv_at hl 1 rfl) ?_
        refine gX1_74 C hT hM (xt_3 hT) (f := (0, 0)) rfl (v := .int (q54.2.1 3 9)) rfl dX1_readRingAct_71 ?_
        obtain ⟨hg74, hf⟩ := mx_gd hf
        refine mx_iast C hM (xt_142 hT) (mx_in_vp hg74) dX1_readRingAct_74 (fun H locs hM => ?_)
        refine lv_iconst (v := (1 : Int32)) hx hb dX1_readRingAct_75 (by decide) ?_
        exact mx_zret C hM (b := true) rfl hf dX1_readRingAct_76
      · replace hf := mx_ift hc57 hf
        refine lv_iconst (v := (0 : Int32)) hx hb dX1_readRingAct_60 (by decide) ?_
        exact mx_zret C hM (b := false) rfl hf dX1_readRingAct_61
    · replace hf := mx_iff hc40 hf
      refine lv_iconst (v := (1 : Int32)) hx hb dX1_readRingAct_43 (by decide) ?_
      exact mx_zret C hM (b := true) rfl hf dX1_readRingAct_44
  · replace hf := mx_ift hc19 hf
    refine lv_iconst (v := (0 : Int32)) hx hb dX1_readRingAct_22 (by decide) ?_
    exact mx_zret C hM (b := false) rfl hf dX1_readRingAct_23
theorem dX1_readAct_0 : decode cX1_readAct 0 = .ok (.aload_n 0, 1) := by decide +kernel
theorem dX1_readAct_1 : decode cX1_readAct 1 = .ok (.getfield 15, 3) := by decide +kernel
theorem dX1_readAct_4 : decode cX1_readAct 4 = .ok (.aload_n 0, 1) := by decide +kernel
theorem dX1_readAct_5 : decode cX1_readAct 5 = .ok (.getfield 24, 3) := by decide +kernel
theorem dX1_readAct_8 : decode cX1_readAct 8 = .ok (.iaload, 1) := by decide +kernel
theorem dX1_readAct_9 : decode cX1_readAct 9 = .ok (.iconst (-1), 1) := by decide +kernel
theorem dX1_readAct_10 : decode cX1_readAct 10 = .ok (.if_icmp .eq 7, 3) := by decide +kernel
theorem dX1_readAct_13 : decode cX1_readAct 13 = .ok (.iconst 1, 1) := by decide +kernel
theorem dX1_readAct_14 : decode cX1_readAct 14 = .ok (.goto 4, 3) := by decide +kernel
theorem dX1_readAct_17 : decode cX1_readAct 17 = .ok (.iconst 0, 1) := by decide +kernel
theorem dX1_readAct_18 : decode cX1_readAct 18 = .ok (.istore_n 3, 1) := by decide +kernel
theorem dX1_readAct_19 : decode cX1_readAct 19 = .ok (.aload_n 1, 1) := by decide +kernel
theorem dX1_readAct_20 : decode cX1_readAct 20 = .ok (.invokevirtual 58, 3) := by decide +kernel
theorem dX1_readAct_23 : decode cX1_readAct 23 = .ok (.astore 4, 2) := by decide +kernel
theorem dX1_readAct_25 : decode cX1_readAct 25 = .ok (.aload 4, 2) := by decide +kernel
theorem dX1_readAct_27 : decode cX1_readAct 27 = .ok (.getstatic 62, 3) := by decide +kernel
theorem dX1_readAct_30 : decode cX1_readAct 30 = .ok (.if_acmp .ne 18, 3) := by decide +kernel
theorem dX1_readAct_33 : decode cX1_readAct 33 = .ok (.iload_n 3, 1) := by decide +kernel
theorem dX1_readAct_34 : decode cX1_readAct 34 = .ok (.ifCond .ne 14, 3) := by decide +kernel
theorem dX1_readAct_37 : decode cX1_readAct 37 = .ok (.aload_n 0, 1) := by decide +kernel
theorem dX1_readAct_38 : decode cX1_readAct 38 = .ok (.aload_n 1, 1) := by decide +kernel
theorem dX1_readAct_39 : decode cX1_readAct 39 = .ok (.bipush 50, 2) := by decide +kernel
theorem dX1_readAct_41 : decode cX1_readAct 41 = .ok (.iconst 1, 1) := by decide +kernel
theorem dX1_readAct_42 : decode cX1_readAct 42 = .ok (.bipush 60, 2) := by decide +kernel
theorem dX1_readAct_44 : decode cX1_readAct 44 = .ok (.invokevirtual 77, 3) := by decide +kernel
theorem dX1_readAct_47 : decode cX1_readAct 47 = .ok (.ireturn, 1) := by decide +kernel
theorem dX1_readAct_48 : decode cX1_readAct 48 = .ok (.getstatic 81, 3) := by decide +kernel
theorem dX1_readAct_51 : decode cX1_readAct 51 = .ok (.aload 4, 2) := by decide +kernel
theorem dX1_readAct_53 : decode cX1_readAct 53 = .ok (.invokevirtual 86, 3) := by decide +kernel
theorem dX1_readAct_56 : decode cX1_readAct 56 = .ok (.iaload, 1) := by decide +kernel
theorem dX1_readAct_57 : decode cX1_readAct 57 = .ok (.tableswitch 80 6 10 #[35, 45, 54, 63, 71], 35) := by decide +kernel
theorem dX1_readAct_92 : decode cX1_readAct 92 = .ok (.aload_n 0, 1) := by decide +kernel
theorem dX1_readAct_93 : decode cX1_readAct 93 = .ok (.aload_n 1, 1) := by decide +kernel
theorem dX1_readAct_94 : decode cX1_readAct 94 = .ok (.iconst 0, 1) := by decide +kernel
theorem dX1_readAct_95 : decode cX1_readAct 95 = .ok (.iconst 0, 1) := by decide +kernel
theorem dX1_readAct_96 : decode cX1_readAct 96 = .ok (.bipush 20, 2) := by decide +kernel
theorem dX1_readAct_98 : decode cX1_readAct 98 = .ok (.invokevirtual 77, 3) := by decide +kernel
theorem dX1_readAct_101 : decode cX1_readAct 101 = .ok (.ireturn, 1) := by decide +kernel
theorem dX1_readAct_102 : decode cX1_readAct 102 = .ok (.aload_n 0, 1) := by decide +kernel
theorem dX1_readAct_103 : decode cX1_readAct 103 = .ok (.aload_n 1, 1) := by decide +kernel
theorem dX1_readAct_104 : decode cX1_readAct 104 = .ok (.bipush 10, 2) := by decide +kernel
theorem dX1_readAct_106 : decode cX1_readAct 106 = .ok (.aload_n 2, 1) := by decide +kernel
theorem dX1_readAct_107 : decode cX1_readAct 107 = .ok (.invokevirtual 90, 3) := by decide +kernel
theorem dX1_readAct_110 : decode cX1_readAct 110 = .ok (.ireturn, 1) := by decide +kernel
theorem dX1_readAct_111 : decode cX1_readAct 111 = .ok (.aload_n 0, 1) := by decide +kernel
theorem dX1_readAct_112 : decode cX1_readAct 112 = .ok (.aload_n 1, 1) := by decide +kernel
theorem dX1_readAct_113 : decode cX1_readAct 113 = .ok (.bipush 20, 2) := by decide +kernel
theorem dX1_readAct_115 : decode cX1_readAct 115 = .ok (.aload_n 2, 1) := by decide +kernel
theorem dX1_readAct_116 : decode cX1_readAct 116 = .ok (.invokevirtual 90, 3) := by decide +kernel
theorem dX1_readAct_119 : decode cX1_readAct 119 = .ok (.ireturn, 1) := by decide +kernel
theorem dX1_readAct_120 : decode cX1_readAct 120 = .ok (.aload_n 0, 1) := by decide +kernel
theorem dX1_readAct_121 : decode cX1_readAct 121 = .ok (.aload_n 1, 1) := by decide +kernel
theorem dX1_readAct_122 : decode cX1_readAct 122 = .ok (.bipush 30, 2) := by decide +kernel
theorem dX1_readAct_124 : decode cX1_readAct 124 = .ok (.invokevirtual 94, 3) := by decide +kernel
theorem dX1_readAct_127 : decode cX1_readAct 127 = .ok (.ireturn, 1) := by decide +kernel
theorem dX1_readAct_128 : decode cX1_readAct 128 = .ok (.aload_n 0, 1) := by decide +kernel
theorem dX1_readAct_129 : decode cX1_readAct 129 = .ok (.aload_n 1, 1) := by decide +kernel
theorem dX1_readAct_130 : decode cX1_readAct 130 = .ok (.bipush 40, 2) := by decide +kernel
theorem dX1_readAct_132 : decode cX1_readAct 132 = .ok (.aload_n 2, 1) := by decide +kernel
theorem dX1_readAct_133 : decode cX1_readAct 133 = .ok (.invokevirtual 90, 3) := by decide +kernel
theorem dX1_readAct_136 : decode cX1_readAct 136 = .ok (.ireturn, 1) := by decide +kernel
theorem dX1_readAct_137 : decode cX1_readAct 137 = .ok (.aload_n 1, 1) := by decide +kernel
theorem dX1_readAct_138 : decode cX1_readAct 138 = .ok (.iconst 1, 1) := by decide +kernel
theorem dX1_readAct_139 : decode cX1_readAct 139 = .ok (.invokevirtual 68, 3) := by decide +kernel
theorem dX1_readAct_142 : decode cX1_readAct 142 = .ok (.ireturn, 1) := by decide +kernel
set_option maxRecDepth 100000 in
set_option maxHeartbeats 4000000 in
theorem wfX1_readAct_48 {E : KE} {p : Program} {l : Launch} {e : Env} {s : State} {m : MethodId} {args : Array Value} {below : List Frame} {meth : Method} {c : Code} {q : (Bool × MM)} (C : mx_C E p m c cX1_readAct 5 s args RX1 meth (some .boolean))  (hT : xOK E)   : ∀ (w4 : Nat) (M : MM) (H : Heap) (locs : List Loc) (ls : Array Slot), fX1_readAct_48 w4 M = some q → mx_H E s M H locs → lv_has ls 5 [(0, .ref (E.2.1.2.1 138)), (1, .ref (E.2.1.2.1 3)), (2, .ref (E.2.1.2.1 9)), (4, .ref (E.2.1.2.2.1 w4))] → W p l e (mx_rm 3) s m args below meth c H locs 0 0 (mx_Z E below args s (some (.int (mx_b q.1))) q.2) (F0 m 48 ls []) := by
  have hx := C.1.1
  have hb := C.1.2.1
  have hown := C.1.2.2.2.1
  have hts := C.1.2.2.2.2
  intro w4 M H locs ls hf hM hl
  rw [fX1_readAct_48] at hf
  refine xw_sw C hT hM (hts _ qw_1120) dX1_readAct_48 ?_
  refine lv_aload hx hb dX1_readAct_51 (lv_at hl 3 rfl) ?_
  obtain ⟨hw53, hf⟩ := mx_gd hf
  refine xw_ord C hT hw53 hM hl.1 (by decide) qw_1121 (st1 := [.int (nI w4), .ref (E.2.1.2.2.1 25)]) (rest := [.ref (E.2.1.2.2.1 25)]) rfl rfl (Nat.le_of_ble_eq_true rfl) dX1_readAct_53 (fun H locs hM => ?_)
  refine xw_swa C hT hM hw53 dX1_readAct_56 ?_
  by_cases hs0 : (xsw w4) = 6
  · replace hf := mx_ift hs0 hf
    refine lv_tableIn (tgt := 92) hx hb dX1_readAct_57 (by rw [hs0]; decide) (by rw [hs0]; decide) (by rw [hs0]; rfl) (by decide) ?_
    refine lv_aload_n hx hb dX1_readAct_92 rfl (lv_at hl 0 rfl) ?_
    refine lv_aload_n hx hb dX1_readAct_93 rfl (lv_at hl 1 rfl) ?_
    refine lv_iconst (v := (0 : Int32)) hx hb dX1_readAct_94 (by decide) ?_
    refine lv_iconst (v := (0 : Int32)) hx hb dX1_readAct_95 (by decide) ?_
    refine lv_bipush (v := (20 : Int32)) hx hb dX1_readAct_96 (by decide) ?_
    obtain ⟨q98, hq98, hf⟩ := mx_bd hf
    refine mx_callV C hM hl.1 yo_X1_readNumbers (h' := 2) (by decide) qw_1110 qw_1112 qs_90 (ci := 1) (q := (RX1, TX1, 10)) rfl (xt_138 hT) (As := [.ref (E.2.1.2.1 3), .int (0 : Int32), .int (0 : Int32), .int (20 : Int32)]) (rest := []) (st1 := [.int (mx_b q98.1)]) (kX1_readNumbers C.2.2.2.1 (0 : Int32) (0 : Int32) (20 : Int32) hT M hq98) rfl rfl rfl (Nat.le_of_ble_eq_true rfl) dX1_readAct_98 (fun H locs hM => ?_)
    exact mx_zret C hM (b := q98.1) rfl hf dX1_readAct_101
  replace hf := mx_iff hs0 hf
  by_cases hs1 : (xsw w4) = 7
  · replace hf := mx_ift hs1 hf
    refine lv_tableIn (tgt := 102) hx hb dX1_readAct_57 (by rw [hs1]; decide) (by rw [hs1]; decide) (by rw [hs1]; rfl) (by decide) ?_
    refine lv_aload_n hx hb dX1_readAct_102 rfl (lv_at hl 0 rfl) ?_
    refine lv_aload_n hx hb dX1_readAct_103 rfl (lv_at hl 1 rfl) ?_
    refine lv_bipush (v := (10 : Int32)) hx hb dX1_readAct_104 (by decide) ?_
    refine lv_aload_n hx hb dX1_readAct_106 rfl (lv_at hl 2 rfl) ?_
    obtain ⟨q107, hq107, hf⟩ := mx_bd hf
    refine mx_callV C hM hl.1 yo_X1_readRingAct (h' := 2) (by decide) qw_1122 qw_1124 qs_92 (ci := 1) (q := (RX1, TX1, 10)) rfl (xt_138 hT) (As := [.ref (E.2.1.2.1 3), .int (10 : Int32), .ref (E.2.1.2.1 9)]) (rest := []) (st1 := [.int (mx_b q107.1)]) (kX1_readRingAct C.2.2.2.1 (10 : Int32) hT M hq107) rfl rfl rfl (Nat.le_of_ble_eq_true rfl) dX1_readAct_107 (fun H locs hM => ?_)
    exact mx_zret C hM (b := q107.1) rfl hf dX1_readAct_110
  replace hf := mx_iff hs1 hf
  by_cases hs2 : (xsw w4) = 8
  · replace hf := mx_ift hs2 hf
    refine lv_tableIn (tgt := 111) hx hb dX1_readAct_57 (by rw [hs2]; decide) (by rw [hs2]; decide) (by rw [hs2]; rfl) (by decide) ?_
    refine lv_aload_n hx hb dX1_readAct_111 rfl (lv_at hl 0 rfl) ?_
    refine lv_aload_n hx hb dX1_readAct_112 rfl (lv_at hl 1 rfl) ?_
    refine lv_bipush (v := (20 : Int32)) hx hb dX1_readAct_113 (by decide) ?_
    refine lv_aload_n hx hb dX1_readAct_115 rfl (lv_at hl 2 rfl) ?_
    obtain ⟨q116, hq116, hf⟩ := mx_bd hf
    refine mx_callV C hM hl.1 yo_X1_readRingAct (h' := 2) (by decide) qw_1122 qw_1124 qs_92 (ci := 1) (q := (RX1, TX1, 10)) rfl (xt_138 hT) (As := [.ref (E.2.1.2.1 3), .int (20 : Int32), .ref (E.2.1.2.1 9)]) (rest := []) (st1 := [.int (mx_b q116.1)]) (kX1_readRingAct C.2.2.2.1 (20 : Int32) hT M hq116) rfl rfl rfl (Nat.le_of_ble_eq_true rfl) dX1_readAct_116 (fun H locs hM => ?_)
    exact mx_zret C hM (b := q116.1) rfl hf dX1_readAct_119
  replace hf := mx_iff hs2 hf
  by_cases hs3 : (xsw w4) = 9
  · replace hf := mx_ift hs3 hf
    refine lv_tableIn (tgt := 120) hx hb dX1_readAct_57 (by rw [hs3]; decide) (by rw [hs3]; decide) (by rw [hs3]; rfl) (by decide) ?_
    refine lv_aload_n hx hb dX1_readAct_120 rfl (lv_at hl 0 rfl) ?_
    refine lv_aload_n hx hb dX1_readAct_121 rfl (lv_at hl 1 rfl) ?_
    refine lv_bipush (v := (30 : Int32)) hx hb dX1_readAct_122 (by decide) ?_
    obtain ⟨q124, hq124, hf⟩ := mx_bd hf
    refine mx_callV C hM hl.1 yo_X1_readBare (h' := 1) (by decide) qw_1114 qw_1116 qs_91 (ci := 1) (q := (RX1, TX1, 10)) rfl (xt_138 hT) (As := [.ref (E.2.1.2.1 3), .int (30 : Int32)]) (rest := []) (st1 := [.int (mx_b q124.1)]) (kX1_readBare C.2.2.2.1 (30 : Int32) hT M hq124) rfl rfl rfl (Nat.le_of_ble_eq_true rfl) dX1_readAct_124 (fun H locs hM => ?_)
    exact mx_zret C hM (b := q124.1) rfl hf dX1_readAct_127
  replace hf := mx_iff hs3 hf
  by_cases hs4 : (xsw w4) = 10
  · replace hf := mx_ift hs4 hf
    refine lv_tableIn (tgt := 128) hx hb dX1_readAct_57 (by rw [hs4]; decide) (by rw [hs4]; decide) (by rw [hs4]; rfl) (by decide) ?_
    refine lv_aload_n hx hb dX1_readAct_128 rfl (lv_at hl 0 rfl) ?_
    refine lv_aload_n hx hb dX1_readAct_129 rfl (lv_at hl 1 rfl) ?_
    refine lv_bipush (v := (40 : Int32)) hx hb dX1_readAct_130 (by decide) ?_
    refine lv_aload_n hx hb dX1_readAct_132 rfl (lv_at hl 2 rfl) ?_
    obtain ⟨q133, hq133, hf⟩ := mx_bd hf
    refine mx_callV C hM hl.1 yo_X1_readRingAct (h' := 2) (by decide) qw_1122 qw_1124 qs_92 (ci := 1) (q := (RX1, TX1, 10)) rfl (xt_138 hT) (As := [.ref (E.2.1.2.1 3), .int (40 : Int32), .ref (E.2.1.2.1 9)]) (rest := []) (st1 := [.int (mx_b q133.1)]) (kX1_readRingAct C.2.2.2.1 (40 : Int32) hT M hq133) rfl rfl rfl (Nat.le_of_ble_eq_true rfl) dX1_readAct_133 (fun H locs hM => ?_)
    exact mx_zret C hM (b := q133.1) rfl hf dX1_readAct_136
  replace hf := mx_iff hs4 hf
  refine lv_tableOut (tgt := 137) hx hb dX1_readAct_57 (by have hh := And.intro trivial trivial; have hh0 := lv_neT hs0 (by decide : (6 : Int32).toInt = 6); have hh1 := lv_neT hs1 (by decide : (7 : Int32).toInt = 7); have hh2 := lv_neT hs2 (by decide : (8 : Int32).toInt = 8); have hh3 := lv_neT hs3 (by decide : (9 : Int32).toInt = 9); have hh4 := lv_neT hs4 (by decide : (10 : Int32).toInt = 10); omega) (by decide) ?_
  refine lv_aload_n hx hb dX1_readAct_137 rfl (lv_at hl 1 rfl) ?_
  refine lv_iconst (v := (1 : Int32)) hx hb dX1_readAct_138 (by decide) ?_
  obtain ⟨q139, hq139, hf⟩ := mx_bd hf
  refine mx_callVN C hM hl.1 yo_X7_fail (h' := 0) (by decide) (nw_1127 hT C) qw_563 qs_13 (ci := 7) (q := (RX7, TX7, 12)) rfl (xt_3 hT) (As := [.int (1 : Int32)]) (rest := []) (st1 := [.int (mx_b q139.1)]) (kX7_fail C.2.2.2.1 (1 : Int32) hT M hq139) rfl rfl rfl (Nat.le_of_ble_eq_true rfl) dX1_readAct_139 (fun H locs hM => ?_)
  exact mx_zret C hM (b := q139.1) rfl hf dX1_readAct_142
set_option maxRecDepth 100000 in
set_option maxHeartbeats 4000000 in
theorem wfX1_readAct_18 {E : KE} {p : Program} {l : Launch} {e : Env} {s : State} {m : MethodId} {args : Array Value} {below : List Frame} {meth : Method} {c : Code} {q : (Bool × MM)} (C : mx_C E p m c cX1_readAct 5 s args RX1 meth (some .boolean))  (hT : xOK E)   : ∀ (bs0 : Bool) (M : MM) (H : Heap) (locs : List Loc) (ls : Array Slot), fX1_readAct_18 bs0 M = some q → mx_H E s M H locs → lv_has ls 5 [(0, .ref (E.2.1.2.1 138)), (1, .ref (E.2.1.2.1 3)), (2, .ref (E.2.1.2.1 9))] → W p l e (mx_rm 3) s m args below meth c H locs 0 0 (mx_Z E below args s (some (.int (mx_b q.1))) q.2) (F0 m 18 ls [.int (mx_b bs0)]) := by
  have hx := C.1.1
  have hb := C.1.2.1
  have hown := C.1.2.2.2.1
  have hts := C.1.2.2.2.2
  intro bs0 M H locs ls hf hM hl
  rw [fX1_readAct_18] at hf
  refine lv_istore_n (lv' := [(3, .int (mx_b bs0)), (0, .ref (E.2.1.2.1 138)), (1, .ref (E.2.1.2.1 3)), (2, .ref (E.2.1.2.1 9))]) hx hb dX1_readAct_18 rfl hl (by decide) rfl (fun ls hl => ?_)
  refine lv_aload_n hx hb dX1_readAct_19 rfl (lv_at hl 2 rfl) ?_
  obtain ⟨q20, hq20, hf⟩ := mx_bd hf
  refine mx_callVN C hM hl.1 yo_X7_key (h' := 0) (by decide) (nw_1100 hT C) qw_549 qs_11 (ci := 7) (q := (RX7, TX7, 12)) rfl (xt_3 hT) (As := []) (rest := []) (st1 := [.ref (E.2.1.2.2.1 q20)]) (kX7_key C.2.2.2.1 hT M hq20) rfl rfl rfl (Nat.le_of_ble_eq_true rfl) dX1_readAct_20 (fun H locs hM => ?_)
  refine lv_astore (lv' := [(4, .ref (E.2.1.2.2.1 q20)), (3, .int (mx_b bs0)), (0, .ref (E.2.1.2.1 138)), (1, .ref (E.2.1.2.1 3)), (2, .ref (E.2.1.2.1 9))]) hx hb dX1_readAct_23 hl (by decide) rfl (fun ls hl => ?_)
  refine lv_aload hx hb dX1_readAct_25 (lv_at hl 0 rfl) ?_
  refine xw_get C hT (w := 11) (by decide) hM (hts _ qw_1101) dX1_readAct_27 ?_
  obtain ⟨hw30a, hf⟩ := mx_gd hf
  refine xw_ne (tgt := 48) C hT hw30a (by decide) dX1_readAct_30 (by decide) (fun hc30 => ?_) (fun hc30 => ?_)
  · replace hf := mx_iff hc30 hf
    exact wfX1_readAct_48 C hT q20 M _ _ _ hf hM (lv_sub hl [2, 3, 4, 0] rfl)
  · replace hf := mx_ift hc30 hf
    refine lv_iload_n hx hb dX1_readAct_33 rfl (lv_at hl 1 rfl) ?_
    refine lv_if_ne (tgt := 48) hx hb dX1_readAct_34 (by decide) (fun hc34 => ?_) (fun hc34 => ?_)
    · replace hf := mx_iff hc34 hf
      exact wfX1_readAct_48 C hT q20 M _ _ _ hf hM (lv_sub hl [2, 3, 4, 0] rfl)
    · replace hf := mx_ift hc34 hf
      refine lv_aload_n hx hb dX1_readAct_37 rfl (lv_at hl 2 rfl) ?_
      refine lv_aload_n hx hb dX1_readAct_38 rfl (lv_at hl 3 rfl) ?_
      refine lv_bipush (v := (50 : Int32)) hx hb dX1_readAct_39 (by decide) ?_
      refine lv_iconst (v := (1 : Int32)) hx hb dX1_readAct_41 (by decide) ?_
      refine lv_bipush (v := (60 : Int32)) hx hb dX1_readAct_42 (by decide) ?_
      obtain ⟨q44, hq44, hf⟩ := mx_bd hf
      refine mx_callV C hM hl.1 yo_X1_readNumbers (h' := 2) (by decide) qw_1110 qw_1112 qs_90 (ci := 1) (q := (RX1, TX1, 10)) rfl (xt_138 hT) (As := [.ref (E.2.1.2.1 3), .int (50 : Int32), .int (1 : Int32), .int (60 : Int32)]) (rest := []) (st1 := [.int (mx_b q44.1)]) (kX1_readNumbers C.2.2.2.1 (50 : Int32) (1 : Int32) (60 : Int32) hT M hq44) rfl rfl rfl (Nat.le_of_ble_eq_true rfl) dX1_readAct_44 (fun H locs hM => ?_)
      exact mx_zret C hM (b := q44.1) rfl hf dX1_readAct_47
set_option maxRecDepth 100000 in
set_option maxHeartbeats 4000000 in
theorem kX1_readAct {E : KE} {l : Launch} (hE : mx_ok E)  (hT : xOK E) (M : MM) {q : (Bool × MM)} (hf : fX1_readAct M = some q) : mx_Met E l yX1_readAct cX1_readAct 5 (some .boolean) 3 [.ref (E.2.1.2.1 138), .ref (E.2.1.2.1 3), .ref (E.2.1.2.1 9)] M (some (.int (mx_b q.1))) q.2 := by
  refine mx_enter hE (by decide) (Nat.le_of_ble_eq_true rfl) ?_
  intro p e s m below meth c C hM hn ls hl
  have hx := C.1.1
  have hb := C.1.2.1
  have hown := C.1.2.2.2.1
  have hts := C.1.2.2.2.2
  have hl : lv_has ls 5 [(0, .ref (E.2.1.2.1 138)), (1, .ref (E.2.1.2.1 3)), (2, .ref (E.2.1.2.1 9))] := hl
  rw [fX1_readAct] at hf
  refine lv_aload_n hx hb dX1_readAct_0 rfl (lv_at hl 0 rfl) ?_
  refine gX1_15 C hM (xt_138 hT) (f := (2, 140)) rfl (v := .ref (E.2.1.2.1 140)) rfl dX1_readAct_1 ?_
  refine lv_aload_n hx hb dX1_readAct_4 rfl (lv_at hl 0 rfl) ?_
  refine gX1_24 C hM (xt_138 hT) (f := (0, 0)) rfl (v := .int (M.1 138 4)) rfl dX1_readAct_5 ?_
  obtain ⟨hg8, hf⟩ := mx_gd hf
  refine mx_iald C hM (xt_140 hT) (mx_in_vp hg8) dX1_readAct_8 ?_
  refine lv_iconst (v := (-1 : Int32)) hx hb dX1_readAct_9 (by decide) ?_
  refine lv_icmp_eq (tgt := 17) hx hb dX1_readAct_10 (by decide) (fun hc10 => ?_) (fun hc10 => ?_)
  · replace hf := mx_ift hc10 hf
    refine lv_iconst (v := (0 : Int32)) hx hb dX1_readAct_17 (by decide) ?_
    exact wfX1_readAct_18 C hT false M _ _ _ hf hM (lv_sub hl [0, 1, 2] rfl)
  · replace hf := mx_iff hc10 hf
    refine lv_iconst (v := (1 : Int32)) hx hb dX1_readAct_13 (by decide) ?_
    refine lv_goto (tgt := 18) hx hb dX1_readAct_14 (by decide) ?_
    exact wfX1_readAct_18 C hT true M _ _ _ hf hM (lv_sub hl [0, 1, 2] rfl)
theorem dX7_isAtSign_0 : decode cX7_isAtSign 0 = .ok (.aload_n 0, 1) := by decide +kernel
theorem dX7_isAtSign_1 : decode cX7_isAtSign 1 = .ok (.getfield 13, 3) := by decide +kernel
theorem dX7_isAtSign_4 : decode cX7_isAtSign 4 = .ok (.aload_n 0, 1) := by decide +kernel
theorem dX7_isAtSign_5 : decode cX7_isAtSign 5 = .ok (.getfield 45, 3) := by decide +kernel
theorem dX7_isAtSign_8 : decode cX7_isAtSign 8 = .ok (.iaload, 1) := by decide +kernel
theorem dX7_isAtSign_9 : decode cX7_isAtSign 9 = .ok (.iconst 5, 1) := by decide +kernel
theorem dX7_isAtSign_10 : decode cX7_isAtSign 10 = .ok (.if_icmp .ne 20, 3) := by decide +kernel
theorem dX7_isAtSign_13 : decode cX7_isAtSign 13 = .ok (.aload_n 0, 1) := by decide +kernel
theorem dX7_isAtSign_14 : decode cX7_isAtSign 14 = .ok (.getfield 20, 3) := by decide +kernel
theorem dX7_isAtSign_17 : decode cX7_isAtSign 17 = .ok (.aload_n 0, 1) := by decide +kernel
theorem dX7_isAtSign_18 : decode cX7_isAtSign 18 = .ok (.getfield 45, 3) := by decide +kernel
theorem dX7_isAtSign_21 : decode cX7_isAtSign 21 = .ok (.iaload, 1) := by decide +kernel
theorem dX7_isAtSign_22 : decode cX7_isAtSign 22 = .ok (.iload_n 1, 1) := by decide +kernel
theorem dX7_isAtSign_23 : decode cX7_isAtSign 23 = .ok (.if_icmp .ne 7, 3) := by decide +kernel
theorem dX7_isAtSign_26 : decode cX7_isAtSign 26 = .ok (.iconst 1, 1) := by decide +kernel
theorem dX7_isAtSign_27 : decode cX7_isAtSign 27 = .ok (.goto 4, 3) := by decide +kernel
theorem dX7_isAtSign_30 : decode cX7_isAtSign 30 = .ok (.iconst 0, 1) := by decide +kernel
theorem dX7_isAtSign_31 : decode cX7_isAtSign 31 = .ok (.ireturn, 1) := by decide +kernel
set_option maxRecDepth 100000 in
set_option maxHeartbeats 4000000 in
theorem kX7_isAtSign {E : KE} {l : Launch} (hE : mx_ok E) (i1 : Int32) (hT : xOK E) (M : MM) {q : Bool} (hf : fX7_isAtSign i1 M = some q) : mx_Met E l yX7_isAtSign cX7_isAtSign 2 (some .boolean) 0 [.ref (E.2.1.2.1 3), .int i1] M (some (.int (mx_b q))) M := by
  refine mx_enter hE (by decide) (Nat.le_of_ble_eq_true rfl) ?_
  intro p e s m below meth c C hM hn ls hl
  have hx := C.1.1
  have hb := C.1.2.1
  have hown := C.1.2.2.2.1
  have hts := C.1.2.2.2.2
  have hl : lv_has ls 2 [(0, .ref (E.2.1.2.1 3)), (1, .int i1)] := hl
  rw [fX7_isAtSign] at hf
  refine lv_aload_n hx hb dX7_isAtSign_0 rfl (lv_at hl 0 rfl) ?_
  refine gX7_13 C hM (xt_3 hT) (f := (2, 4)) rfl (v := .ref (E.2.1.2.1 4)) rfl dX7_isAtSign_1 ?_
  refine lv_aload_n hx hb dX7_isAtSign_4 rfl (lv_at hl 0 rfl) ?_
  refine gX7_45 C hM (xt_3 hT) (f := (0, 0)) rfl (v := .int (M.1 3 7)) rfl dX7_isAtSign_5 ?_
  obtain ⟨hg8, hf⟩ := mx_gd hf
  refine mx_iald C hM (xt_4 hT) (mx_in_vp hg8) dX7_isAtSign_8 ?_
  refine lv_iconst (v := (5 : Int32)) hx hb dX7_isAtSign_9 (by decide) ?_
  refine lv_icmp_ne (tgt := 30) hx hb dX7_isAtSign_10 (by decide) (fun hc10 => ?_) (fun hc10 => ?_)
  · replace hf := mx_iff hc10 hf
    refine lv_iconst (v := (0 : Int32)) hx hb dX7_isAtSign_30 (by decide) ?_
    exact mx_zretR C hM (b := false) rfl hf dX7_isAtSign_31
  · replace hf := mx_ift hc10 hf
    refine lv_aload_n hx hb dX7_isAtSign_13 rfl (lv_at hl 0 rfl) ?_
    refine gX7_20 C hM (xt_3 hT) (f := (2, 6)) rfl (v := .ref (E.2.1.2.1 6)) rfl dX7_isAtSign_14 ?_
    refine lv_aload_n hx hb dX7_isAtSign_17 rfl (lv_at hl 0 rfl) ?_
    refine gX7_45 C hM (xt_3 hT) (f := (0, 0)) rfl (v := .int (M.1 3 7)) rfl dX7_isAtSign_18 ?_
    obtain ⟨hg21, hf⟩ := mx_gd hf
    refine mx_iald C hM (xt_6 hT) (mx_in_vp hg21) dX7_isAtSign_21 ?_
    refine lv_iload_n hx hb dX7_isAtSign_22 rfl (lv_at hl 1 rfl) ?_
    refine lv_icmp_ne (tgt := 30) hx hb dX7_isAtSign_23 (by decide) (fun hc23 => ?_) (fun hc23 => ?_)
    · replace hf := mx_iff hc23 hf
      refine lv_iconst (v := (0 : Int32)) hx hb dX7_isAtSign_30 (by decide) ?_
      exact mx_zretR C hM (b := false) rfl hf dX7_isAtSign_31
    · replace hf := mx_ift hc23 hf
      refine lv_iconst (v := (1 : Int32)) hx hb dX7_isAtSign_26 (by decide) ?_
      refine lv_goto (tgt := 31) hx hb dX7_isAtSign_27 (by decide) ?_
      exact mx_zretR C hM (b := true) rfl hf dX7_isAtSign_31
theorem dX7_takeSign_0 : decode cX7_takeSign 0 = .ok (.aload_n 0, 1) := by decide +kernel
theorem dX7_takeSign_1 : decode cX7_takeSign 1 = .ok (.iload_n 1, 1) := by decide +kernel
theorem dX7_takeSign_2 : decode cX7_takeSign 2 = .ok (.invokevirtual 85, 3) := by decide +kernel
theorem dX7_takeSign_5 : decode cX7_takeSign 5 = .ok (.ifCond .ne 9, 3) := by decide +kernel
theorem dX7_takeSign_8 : decode cX7_takeSign 8 = .ok (.aload_n 0, 1) := by decide +kernel
theorem dX7_takeSign_9 : decode cX7_takeSign 9 = .ok (.iconst 1, 1) := by decide +kernel
theorem dX7_takeSign_10 : decode cX7_takeSign 10 = .ok (.invokevirtual 89, 3) := by decide +kernel
theorem dX7_takeSign_13 : decode cX7_takeSign 13 = .ok (.ireturn, 1) := by decide +kernel
theorem dX7_takeSign_14 : decode cX7_takeSign 14 = .ok (.aload_n 0, 1) := by decide +kernel
theorem dX7_takeSign_15 : decode cX7_takeSign 15 = .ok (.invokevirtual 92, 3) := by decide +kernel
theorem dX7_takeSign_18 : decode cX7_takeSign 18 = .ok (.iconst 1, 1) := by decide +kernel
theorem dX7_takeSign_19 : decode cX7_takeSign 19 = .ok (.ireturn, 1) := by decide +kernel
set_option maxRecDepth 100000 in
set_option maxHeartbeats 4000000 in
theorem kX7_takeSign {E : KE} {l : Launch} (hE : mx_ok E) (i1 : Int32) (hT : xOK E) (M : MM) {q : (Bool × MM)} (hf : fX7_takeSign i1 M = some q) : mx_Met E l yX7_takeSign cX7_takeSign 2 (some .boolean) 1 [.ref (E.2.1.2.1 3), .int i1] M (some (.int (mx_b q.1))) q.2 := by
  refine mx_enter hE (by decide) (Nat.le_of_ble_eq_true rfl) ?_
  intro p e s m below meth c C hM hn ls hl
  have hx := C.1.1
  have hb := C.1.2.1
  have hown := C.1.2.2.2.1
  have hts := C.1.2.2.2.2
  have hl : lv_has ls 2 [(0, .ref (E.2.1.2.1 3)), (1, .int i1)] := hl
  rw [fX7_takeSign] at hf
  refine lv_aload_n hx hb dX7_takeSign_0 rfl (lv_at hl 0 rfl) ?_
  refine lv_iload_n hx hb dX7_takeSign_1 rfl (lv_at hl 1 rfl) ?_
  obtain ⟨q2, hq2, hf⟩ := mx_bd hf
  refine mx_callV C hM hl.1 yo_X7_isAtSign (h' := 0) (by decide) qw_618 qw_620 qs_26 (ci := 7) (q := (RX7, TX7, 12)) rfl (xt_3 hT) (As := [.int i1]) (rest := []) (st1 := [.int (mx_b q2)]) (kX7_isAtSign C.2.2.2.1 i1 hT M hq2) rfl rfl rfl (Nat.le_of_ble_eq_true rfl) dX7_takeSign_2 (fun H locs hM => ?_)
  refine lv_if_ne (tgt := 14) hx hb dX7_takeSign_5 (by decide) (fun hc5 => ?_) (fun hc5 => ?_)
  · replace hf := mx_iff hc5 hf
    refine lv_aload_n hx hb dX7_takeSign_14 rfl (lv_at hl 0 rfl) ?_
    obtain ⟨q15, hq15, hf⟩ := mx_bd hf
    refine mx_callV C hM hl.1 yo_X7_advance (h' := 0) (by decide) qw_590 qw_567 qs_14 (ci := 7) (q := (RX7, TX7, 12)) rfl (xt_3 hT) (As := []) (rest := []) (st1 := []) (kX7_advance C.2.2.2.1 hT M hq15) rfl rfl rfl (Nat.le_of_ble_eq_true rfl) dX7_takeSign_15 (fun H locs hM => ?_)
    refine lv_iconst (v := (1 : Int32)) hx hb dX7_takeSign_18 (by decide) ?_
    exact mx_zret C hM (b := true) rfl hf dX7_takeSign_19
  · replace hf := mx_ift hc5 hf
    refine lv_aload_n hx hb dX7_takeSign_8 rfl (lv_at hl 0 rfl) ?_
    refine lv_iconst (v := (1 : Int32)) hx hb dX7_takeSign_9 (by decide) ?_
    obtain ⟨q10, hq10, hf⟩ := mx_bd hf
    refine mx_callV C hM hl.1 yo_X7_fail (h' := 0) (by decide) qw_589 qw_563 qs_13 (ci := 7) (q := (RX7, TX7, 12)) rfl (xt_3 hT) (As := [.int (1 : Int32)]) (rest := []) (st1 := [.int (mx_b q10.1)]) (kX7_fail C.2.2.2.1 (1 : Int32) hT M hq10) rfl rfl rfl (Nat.le_of_ble_eq_true rfl) dX7_takeSign_10 (fun H locs hM => ?_)
    exact mx_zret C hM (b := q10.1) rfl hf dX7_takeSign_13
theorem dX1_failBehindAll_0 : decode cX1_failBehindAll 0 = .ok (.aload_n 1, 1) := by decide +kernel
theorem dX1_failBehindAll_1 : decode cX1_failBehindAll 1 = .ok (.iconst 2, 1) := by decide +kernel
theorem dX1_failBehindAll_2 : decode cX1_failBehindAll 2 = .ok (.invokevirtual 30, 3) := by decide +kernel
theorem dX1_failBehindAll_5 : decode cX1_failBehindAll 5 = .ok (.ifCond .eq 19, 3) := by decide +kernel
theorem dX1_failBehindAll_8 : decode cX1_failBehindAll 8 = .ok (.aload_n 2, 1) := by decide +kernel
theorem dX1_failBehindAll_9 : decode cX1_failBehindAll 9 = .ok (.aload_n 1, 1) := by decide +kernel
theorem dX1_failBehindAll_10 : decode cX1_failBehindAll 10 = .ok (.invokevirtual 48, 3) := by decide +kernel
theorem dX1_failBehindAll_13 : decode cX1_failBehindAll 13 = .ok (.invokevirtual 52, 3) := by decide +kernel
theorem dX1_failBehindAll_16 : decode cX1_failBehindAll 16 = .ok (.iconst (-1), 1) := by decide +kernel
theorem dX1_failBehindAll_17 : decode cX1_failBehindAll 17 = .ok (.if_icmp .eq 7, 3) := by decide +kernel
theorem dX1_failBehindAll_20 : decode cX1_failBehindAll 20 = .ok (.iconst 1, 1) := by decide +kernel
theorem dX1_failBehindAll_21 : decode cX1_failBehindAll 21 = .ok (.goto 4, 3) := by decide +kernel
theorem dX1_failBehindAll_24 : decode cX1_failBehindAll 24 = .ok (.iconst 0, 1) := by decide +kernel
theorem dX1_failBehindAll_25 : decode cX1_failBehindAll 25 = .ok (.istore_n 3, 1) := by decide +kernel
theorem dX1_failBehindAll_26 : decode cX1_failBehindAll 26 = .ok (.iload_n 3, 1) := by decide +kernel
theorem dX1_failBehindAll_27 : decode cX1_failBehindAll 27 = .ok (.ifCond .ne 13, 3) := by decide +kernel
theorem dX1_failBehindAll_30 : decode cX1_failBehindAll 30 = .ok (.aload_n 1, 1) := by decide +kernel
theorem dX1_failBehindAll_31 : decode cX1_failBehindAll 31 = .ok (.invokevirtual 58, 3) := by decide +kernel
theorem dX1_failBehindAll_34 : decode cX1_failBehindAll 34 = .ok (.getstatic 62, 3) := by decide +kernel
theorem dX1_failBehindAll_37 : decode cX1_failBehindAll 37 = .ok (.if_acmp .ne 9, 3) := by decide +kernel
theorem dX1_failBehindAll_40 : decode cX1_failBehindAll 40 = .ok (.aload_n 1, 1) := by decide +kernel
theorem dX1_failBehindAll_41 : decode cX1_failBehindAll 41 = .ok (.iconst 4, 1) := by decide +kernel
theorem dX1_failBehindAll_42 : decode cX1_failBehindAll 42 = .ok (.invokevirtual 68, 3) := by decide +kernel
theorem dX1_failBehindAll_45 : decode cX1_failBehindAll 45 = .ok (.ireturn, 1) := by decide +kernel
theorem dX1_failBehindAll_46 : decode cX1_failBehindAll 46 = .ok (.aload_n 1, 1) := by decide +kernel
theorem dX1_failBehindAll_47 : decode cX1_failBehindAll 47 = .ok (.aload_n 1, 1) := by decide +kernel
theorem dX1_failBehindAll_48 : decode cX1_failBehindAll 48 = .ok (.iconst 2, 1) := by decide +kernel
theorem dX1_failBehindAll_49 : decode cX1_failBehindAll 49 = .ok (.invokevirtual 30, 3) := by decide +kernel
theorem dX1_failBehindAll_52 : decode cX1_failBehindAll 52 = .ok (.ifCond .eq 7, 3) := by decide +kernel
theorem dX1_failBehindAll_55 : decode cX1_failBehindAll 55 = .ok (.iconst 3, 1) := by decide +kernel
theorem dX1_failBehindAll_56 : decode cX1_failBehindAll 56 = .ok (.goto 4, 3) := by decide +kernel
theorem dX1_failBehindAll_59 : decode cX1_failBehindAll 59 = .ok (.iconst 1, 1) := by decide +kernel
theorem dX1_failBehindAll_60 : decode cX1_failBehindAll 60 = .ok (.invokevirtual 68, 3) := by decide +kernel
theorem dX1_failBehindAll_63 : decode cX1_failBehindAll 63 = .ok (.ireturn, 1) := by decide +kernel
set_option maxRecDepth 100000 in
set_option maxHeartbeats 4000000 in
theorem wfX1_failBehindAll_60 {E : KE} {p : Program} {l : Launch} {e : Env} {s : State} {m : MethodId} {args : Array Value} {below : List Frame} {meth : Method} {c : Code} {q : (Bool × MM)} (C : mx_C E p m c cX1_failBehindAll 4 s args RX1 meth (some .boolean))  (hT : xOK E)   : ∀ (is1 : Int32) (M : MM) (H : Heap) (locs : List Loc) (ls : Array Slot), fX1_failBehindAll_60 is1 M = some q → mx_H E s M H locs → lv_has ls 4 [] → W p l e (mx_rm 1) s m args below meth c H locs 0 0 (mx_Z E below args s (some (.int (mx_b q.1))) q.2) (F0 m 60 ls [.int is1, .ref (E.2.1.2.1 3)]) := by
  have hx := C.1.1
  have hb := C.1.2.1
  have hown := C.1.2.2.2.1
  have hts := C.1.2.2.2.2
  intro is1 M H locs ls hf hM hl
  rw [fX1_failBehindAll_60] at hf
  obtain ⟨q60, hq60, hf⟩ := mx_bd hf
  refine mx_callVN C hM hl.1 yo_X7_fail (h' := 0) (by decide) (nw_1127 hT C) qw_563 qs_13 (ci := 7) (q := (RX7, TX7, 12)) rfl (xt_3 hT) (As := [.int is1]) (rest := []) (st1 := [.int (mx_b q60.1)]) (kX7_fail C.2.2.2.1 is1 hT M hq60) rfl rfl rfl (Nat.le_of_ble_eq_true rfl) dX1_failBehindAll_60 (fun H locs hM => ?_)
  exact mx_zret C hM (b := q60.1) rfl hf dX1_failBehindAll_63
set_option maxRecDepth 100000 in
set_option maxHeartbeats 4000000 in
theorem wfX1_failBehindAll_40 {E : KE} {p : Program} {l : Launch} {e : Env} {s : State} {m : MethodId} {args : Array Value} {below : List Frame} {meth : Method} {c : Code} {q : (Bool × MM)} (C : mx_C E p m c cX1_failBehindAll 4 s args RX1 meth (some .boolean))  (hT : xOK E)   : ∀ (M : MM) (H : Heap) (locs : List Loc) (ls : Array Slot), fX1_failBehindAll_40 M = some q → mx_H E s M H locs → lv_has ls 4 [(1, .ref (E.2.1.2.1 3))] → W p l e (mx_rm 1) s m args below meth c H locs 0 0 (mx_Z E below args s (some (.int (mx_b q.1))) q.2) (F0 m 40 ls []) := by
  have hx := C.1.1
  have hb := C.1.2.1
  have hown := C.1.2.2.2.1
  have hts := C.1.2.2.2.2
  intro M H locs ls hf hM hl
  rw [fX1_failBehindAll_40] at hf
  refine lv_aload_n hx hb dX1_failBehindAll_40 rfl (lv_at hl 0 rfl) ?_
  refine lv_iconst (v := (4 : Int32)) hx hb dX1_failBehindAll_41 (by decide) ?_
  obtain ⟨q42, hq42, hf⟩ := mx_bd hf
  refine mx_callVN C hM hl.1 yo_X7_fail (h' := 0) (by decide) (nw_1127 hT C) qw_563 qs_13 (ci := 7) (q := (RX7, TX7, 12)) rfl (xt_3 hT) (As := [.int (4 : Int32)]) (rest := []) (st1 := [.int (mx_b q42.1)]) (kX7_fail C.2.2.2.1 (4 : Int32) hT M hq42) rfl rfl rfl (Nat.le_of_ble_eq_true rfl) dX1_failBehindAll_42 (fun H locs hM => ?_)
  exact mx_zret C hM (b := q42.1) rfl hf dX1_failBehindAll_45
set_option maxRecDepth 100000 in
set_option maxHeartbeats 4000000 in
theorem wfX1_failBehindAll_25 {E : KE} {p : Program} {l : Launch} {e : Env} {s : State} {m : MethodId} {args : Array Value} {below : List Frame} {meth : Method} {c : Code} {q : (Bool × MM)} (C : mx_C E p m c cX1_failBehindAll 4 s args RX1 meth (some .boolean))  (hT : xOK E)   : ∀ (bs0 : Bool) (M : MM) (H : Heap) (locs : List Loc) (ls : Array Slot), fX1_failBehindAll_25 bs0 M = some q → mx_H E s M H locs → lv_has ls 4 [(1, .ref (E.2.1.2.1 3))] → W p l e (mx_rm 1) s m args below meth c H locs 0 0 (mx_Z E below args s (some (.int (mx_b q.1))) q.2) (F0 m 25 ls [.int (mx_b bs0)]) := by
  have hx := C.1.1
  have hb := C.1.2.1
  have hown := C.1.2.2.2.1
  have hts := C.1.2.2.2.2
  intro bs0 M H locs ls hf hM hl
  rw [fX1_failBehindAll_25] at hf
  refine lv_istore_n (lv' := [(3, .int (mx_b bs0)), (1, .ref (E.2.1.2.1 3))]) hx hb dX1_failBehindAll_25 rfl hl (by decide) rfl (fun ls hl => ?_)
  refine lv_iload_n hx hb dX1_failBehindAll_26 rfl (lv_at hl 0 rfl) ?_
  refine lv_if_ne (tgt := 40) hx hb dX1_failBehindAll_27 (by decide) (fun hc27 => ?_) (fun hc27 => ?_)
  · replace hf := mx_iff hc27 hf
    exact wfX1_failBehindAll_40 C hT M _ _ _ hf hM (lv_sub hl [1] rfl)
  · replace hf := mx_ift hc27 hf
    refine lv_aload_n hx hb dX1_failBehindAll_30 rfl (lv_at hl 1 rfl) ?_
    obtain ⟨q31, hq31, hf⟩ := mx_bd hf
    refine mx_callVN C hM hl.1 yo_X7_key (h' := 0) (by decide) (nw_1100 hT C) qw_549 qs_11 (ci := 7) (q := (RX7, TX7, 12)) rfl (xt_3 hT) (As := []) (rest := []) (st1 := [.ref (E.2.1.2.2.1 q31)]) (kX7_key C.2.2.2.1 hT M hq31) rfl rfl rfl (Nat.le_of_ble_eq_true rfl) dX1_failBehindAll_31 (fun H locs hM => ?_)
    refine xw_get C hT (w := 11) (by decide) hM (hts _ qw_1101) dX1_failBehindAll_34 ?_
    obtain ⟨hw37a, hf⟩ := mx_gd hf
    refine xw_ne (tgt := 46) C hT hw37a (by decide) dX1_failBehindAll_37 (by decide) (fun hc37 => ?_) (fun hc37 => ?_)
    · replace hf := mx_iff hc37 hf
      refine lv_aload_n hx hb dX1_failBehindAll_46 rfl (lv_at hl 1 rfl) ?_
      refine lv_aload_n hx hb dX1_failBehindAll_47 rfl (lv_at hl 1 rfl) ?_
      refine lv_iconst (v := (2 : Int32)) hx hb dX1_failBehindAll_48 (by decide) ?_
      obtain ⟨q49, hq49, hf⟩ := mx_bd hf
      refine mx_callVN C hM hl.1 yo_X7_isAt (h' := 0) (by decide) (nw_1095 hT C) qw_539 qs_9 (ci := 7) (q := (RX7, TX7, 12)) rfl (xt_3 hT) (As := [.int (2 : Int32)]) (rest := [.ref (E.2.1.2.1 3)]) (st1 := [.int (mx_b q49), .ref (E.2.1.2.1 3)]) (kX7_isAt C.2.2.2.1 (2 : Int32) hT M hq49) rfl rfl rfl (Nat.le_of_ble_eq_true rfl) dX1_failBehindAll_49 (fun H locs hM => ?_)
      refine lv_if_eq (tgt := 59) hx hb dX1_failBehindAll_52 (by decide) (fun hc52 => ?_) (fun hc52 => ?_)
      · replace hf := mx_ift hc52 hf
        refine lv_iconst (v := (1 : Int32)) hx hb dX1_failBehindAll_59 (by decide) ?_
        exact wfX1_failBehindAll_60 C hT (1 : Int32) M _ _ _ hf hM (lv_sub hl [] rfl)
      · replace hf := mx_iff hc52 hf
        refine lv_iconst (v := (3 : Int32)) hx hb dX1_failBehindAll_55 (by decide) ?_
        refine lv_goto (tgt := 60) hx hb dX1_failBehindAll_56 (by decide) ?_
        exact wfX1_failBehindAll_60 C hT (3 : Int32) M _ _ _ hf hM (lv_sub hl [] rfl)
    · replace hf := mx_ift hc37 hf
      exact wfX1_failBehindAll_40 C hT M _ _ _ hf hM (lv_sub hl [1] rfl)
set_option maxRecDepth 100000 in
set_option maxHeartbeats 4000000 in
theorem wfX1_failBehindAll_24 {E : KE} {p : Program} {l : Launch} {e : Env} {s : State} {m : MethodId} {args : Array Value} {below : List Frame} {meth : Method} {c : Code} {q : (Bool × MM)} (C : mx_C E p m c cX1_failBehindAll 4 s args RX1 meth (some .boolean))  (hT : xOK E)  (k25 : Bool → MM → Option (Bool × MM)) (hk25 : ∀ (bs0 : Bool) (M : MM) (H : Heap) (locs : List Loc) (ls : Array Slot), k25 bs0 M = some q → mx_H E s M H locs → lv_has ls 4 [(1, .ref (E.2.1.2.1 3))] → W p l e (mx_rm 1) s m args below meth c H locs 0 0 (mx_Z E below args s (some (.int (mx_b q.1))) q.2) (F0 m 25 ls [.int (mx_b bs0)])) : ∀ (M : MM) (H : Heap) (locs : List Loc) (ls : Array Slot), fX1_failBehindAll_24 k25 M = some q → mx_H E s M H locs → lv_has ls 4 [(1, .ref (E.2.1.2.1 3))] → W p l e (mx_rm 1) s m args below meth c H locs 0 0 (mx_Z E below args s (some (.int (mx_b q.1))) q.2) (F0 m 24 ls []) := by
  have hx := C.1.1
  have hb := C.1.2.1
  have hown := C.1.2.2.2.1
  have hts := C.1.2.2.2.2
  intro M H locs ls hf hM hl
  rw [fX1_failBehindAll_24] at hf
  refine lv_iconst (v := (0 : Int32)) hx hb dX1_failBehindAll_24 (by decide) ?_
  exact hk25 false M _ _ _ hf hM (lv_sub hl [0] rfl)
set_option maxRecDepth 100000 in
set_option maxHeartbeats 4000000 in
theorem kX1_failBehindAll {E : KE} {l : Launch} (hE : mx_ok E)  (hT : xOK E) (M : MM) {q : (Bool × MM)} (hf : fX1_failBehindAll M = some q) : mx_Met E l yX1_failBehindAll cX1_failBehindAll 4 (some .boolean) 1 [.ref (E.2.1.2.1 138), .ref (E.2.1.2.1 3), .ref (E.2.1.2.1 9)] M (some (.int (mx_b q.1))) q.2 := by
  refine mx_enter hE (by decide) (Nat.le_of_ble_eq_true rfl) ?_
  intro p e s m below meth c C hM hn ls hl
  have hx := C.1.1
  have hb := C.1.2.1
  have hown := C.1.2.2.2.1
  have hts := C.1.2.2.2.2
  have hl : lv_has ls 4 [(0, .ref (E.2.1.2.1 138)), (1, .ref (E.2.1.2.1 3)), (2, .ref (E.2.1.2.1 9))] := hl
  rw [fX1_failBehindAll] at hf
  refine lv_aload_n hx hb dX1_failBehindAll_0 rfl (lv_at hl 1 rfl) ?_
  refine lv_iconst (v := (2 : Int32)) hx hb dX1_failBehindAll_1 (by decide) ?_
  obtain ⟨q2, hq2, hf⟩ := mx_bd hf
  refine mx_callVN C hM hl.1 yo_X7_isAt (h' := 0) (by decide) (nw_1095 hT C) qw_539 qs_9 (ci := 7) (q := (RX7, TX7, 12)) rfl (xt_3 hT) (As := [.int (2 : Int32)]) (rest := []) (st1 := [.int (mx_b q2)]) (kX7_isAt C.2.2.2.1 (2 : Int32) hT M hq2) rfl rfl rfl (Nat.le_of_ble_eq_true rfl) dX1_failBehindAll_2 (fun H locs hM => ?_)
  refine lv_if_eq (tgt := 24) hx hb dX1_failBehindAll_5 (by decide) (fun hc5 => ?_) (fun hc5 => ?_)
  · replace hf := mx_ift hc5 hf
    exact wfX1_failBehindAll_24 C hT (fun bs0' M' => fX1_failBehindAll_25 bs0' M') (fun bs0' M' H locs ls hf hM hl => wfX1_failBehindAll_25 C hT bs0' M' H locs ls hf hM hl) M _ _ _ hf hM (lv_sub hl [1] rfl)
  · replace hf := mx_iff hc5 hf
    refine lv_aload_n hx hb dX1_failBehindAll_8 rfl (lv_at hl 2 rfl) ?_
    refine lv_aload_n hx hb dX1_failBehindAll_9 rfl (lv_at hl 1 rfl) ?_
    obtain ⟨q10, hq10, hf⟩ := mx_bd hf
    refine mx_callVN C hM hl.1 yo_X7_name (h' := 0) (by decide) (nw_1103 hT C) qw_571 qs_15 (ci := 7) (q := (RX7, TX7, 12)) rfl (xt_3 hT) (As := []) (rest := [.ref (E.2.1.2.1 9)]) (st1 := [.long q10, .ref (E.2.1.2.1 9)]) (kX7_name C.2.2.2.1 hT M hq10) rfl rfl rfl (Nat.le_of_ble_eq_true rfl) dX1_failBehindAll_10 (fun H locs hM => ?_)
    obtain ⟨q13, hq13, hf⟩ := mx_bd hf
    refine mx_callVN C hM hl.1 yo_X3_personNamed (h' := 0) (by decide) (nw_1104 hT C) qw_579 qs_17 (ci := 3) (q := (RX3, TX3, 18)) rfl (xt_9 hT) (As := [.long q10]) (rest := []) (st1 := [.int q13]) (kX3_personNamed C.2.2.2.1 9 q10 hT xiI_9 M hq13) rfl rfl rfl (Nat.le_of_ble_eq_true rfl) dX1_failBehindAll_13 (fun H locs hM => ?_)
    refine lv_iconst (v := (-1 : Int32)) hx hb dX1_failBehindAll_16 (by decide) ?_
    refine lv_icmp_eq (tgt := 24) hx hb dX1_failBehindAll_17 (by decide) (fun hc17 => ?_) (fun hc17 => ?_)
    · replace hf := mx_ift hc17 hf
      exact wfX1_failBehindAll_24 C hT (fun bs0' M' => fX1_failBehindAll_25 bs0' M') (fun bs0' M' H locs ls hf hM hl => wfX1_failBehindAll_25 C hT bs0' M' H locs ls hf hM hl) M _ _ _ hf hM (lv_sub hl [1] rfl)
    · replace hf := mx_iff hc17 hf
      refine lv_iconst (v := (1 : Int32)) hx hb dX1_failBehindAll_20 (by decide) ?_
      refine lv_goto (tgt := 25) hx hb dX1_failBehindAll_21 (by decide) ?_
      exact wfX1_failBehindAll_25 C hT true M _ _ _ hf hM (lv_sub hl [1] rfl)
theorem dX1_readFrom_0 : decode cX1_readFrom 0 = .ok (.aload_n 0, 1) := by decide +kernel
theorem dX1_readFrom_1 : decode cX1_readFrom 1 = .ok (.iconst 0, 1) := by decide +kernel
theorem dX1_readFrom_2 : decode cX1_readFrom 2 = .ok (.putfield 24, 3) := by decide +kernel
theorem dX1_readFrom_5 : decode cX1_readFrom 5 = .ok (.aload_n 0, 1) := by decide +kernel
theorem dX1_readFrom_6 : decode cX1_readFrom 6 = .ok (.getfield 24, 3) := by decide +kernel
theorem dX1_readFrom_9 : decode cX1_readFrom 9 = .ok (.bipush 40, 2) := by decide +kernel
theorem dX1_readFrom_11 : decode cX1_readFrom 11 = .ok (.if_icmp .ge 55, 3) := by decide +kernel
theorem dX1_readFrom_14 : decode cX1_readFrom 14 = .ok (.aload_n 1, 1) := by decide +kernel
theorem dX1_readFrom_15 : decode cX1_readFrom 15 = .ok (.iconst 1, 1) := by decide +kernel
theorem dX1_readFrom_16 : decode cX1_readFrom 16 = .ok (.invokevirtual 30, 3) := by decide +kernel
theorem dX1_readFrom_19 : decode cX1_readFrom 19 = .ok (.ifCond .eq 5, 3) := by decide +kernel
theorem dX1_readFrom_22 : decode cX1_readFrom 22 = .ok (.iconst 1, 1) := by decide +kernel
theorem dX1_readFrom_23 : decode cX1_readFrom 23 = .ok (.ireturn, 1) := by decide +kernel
theorem dX1_readFrom_24 : decode cX1_readFrom 24 = .ok (.aload_n 0, 1) := by decide +kernel
theorem dX1_readFrom_25 : decode cX1_readFrom 25 = .ok (.aload_n 1, 1) := by decide +kernel
theorem dX1_readFrom_26 : decode cX1_readFrom 26 = .ok (.aload_n 2, 1) := by decide +kernel
theorem dX1_readFrom_27 : decode cX1_readFrom 27 = .ok (.invokevirtual 34, 3) := by decide +kernel
theorem dX1_readFrom_30 : decode cX1_readFrom 30 = .ok (.ifCond .eq 21, 3) := by decide +kernel
theorem dX1_readFrom_33 : decode cX1_readFrom 33 = .ok (.aload_n 0, 1) := by decide +kernel
theorem dX1_readFrom_34 : decode cX1_readFrom 34 = .ok (.aload_n 1, 1) := by decide +kernel
theorem dX1_readFrom_35 : decode cX1_readFrom 35 = .ok (.aload_n 2, 1) := by decide +kernel
theorem dX1_readFrom_36 : decode cX1_readFrom 36 = .ok (.invokevirtual 38, 3) := by decide +kernel
theorem dX1_readFrom_39 : decode cX1_readFrom 39 = .ok (.ifCond .eq 12, 3) := by decide +kernel
theorem dX1_readFrom_42 : decode cX1_readFrom 42 = .ok (.aload_n 1, 1) := by decide +kernel
theorem dX1_readFrom_43 : decode cX1_readFrom 43 = .ok (.bipush 59, 2) := by decide +kernel
theorem dX1_readFrom_45 : decode cX1_readFrom 45 = .ok (.invokevirtual 41, 3) := by decide +kernel
theorem dX1_readFrom_48 : decode cX1_readFrom 48 = .ok (.ifCond .ne 5, 3) := by decide +kernel
theorem dX1_readFrom_51 : decode cX1_readFrom 51 = .ok (.iconst 0, 1) := by decide +kernel
theorem dX1_readFrom_52 : decode cX1_readFrom 52 = .ok (.ireturn, 1) := by decide +kernel
theorem dX1_readFrom_53 : decode cX1_readFrom 53 = .ok (.aload_n 0, 1) := by decide +kernel
theorem dX1_readFrom_54 : decode cX1_readFrom 54 = .ok (.dup, 1) := by decide +kernel
theorem dX1_readFrom_55 : decode cX1_readFrom 55 = .ok (.getfield 24, 3) := by decide +kernel
theorem dX1_readFrom_58 : decode cX1_readFrom 58 = .ok (.iconst 1, 1) := by decide +kernel
theorem dX1_readFrom_59 : decode cX1_readFrom 59 = .ok (.iadd, 1) := by decide +kernel
theorem dX1_readFrom_60 : decode cX1_readFrom 60 = .ok (.putfield 24, 3) := by decide +kernel
theorem dX1_readFrom_63 : decode cX1_readFrom 63 = .ok (.goto (-58), 3) := by decide +kernel
theorem dX1_readFrom_66 : decode cX1_readFrom 66 = .ok (.aload_n 1, 1) := by decide +kernel
theorem dX1_readFrom_67 : decode cX1_readFrom 67 = .ok (.iconst 1, 1) := by decide +kernel
theorem dX1_readFrom_68 : decode cX1_readFrom 68 = .ok (.invokevirtual 30, 3) := by decide +kernel
theorem dX1_readFrom_71 : decode cX1_readFrom 71 = .ok (.ifCond .ne 12, 3) := by decide +kernel
theorem dX1_readFrom_74 : decode cX1_readFrom 74 = .ok (.aload_n 0, 1) := by decide +kernel
theorem dX1_readFrom_75 : decode cX1_readFrom 75 = .ok (.aload_n 1, 1) := by decide +kernel
theorem dX1_readFrom_76 : decode cX1_readFrom 76 = .ok (.aload_n 2, 1) := by decide +kernel
theorem dX1_readFrom_77 : decode cX1_readFrom 77 = .ok (.invokevirtual 45, 3) := by decide +kernel
theorem dX1_readFrom_80 : decode cX1_readFrom 80 = .ok (.ifCond .eq 7, 3) := by decide +kernel
theorem dX1_readFrom_83 : decode cX1_readFrom 83 = .ok (.iconst 1, 1) := by decide +kernel
theorem dX1_readFrom_84 : decode cX1_readFrom 84 = .ok (.goto 4, 3) := by decide +kernel
theorem dX1_readFrom_87 : decode cX1_readFrom 87 = .ok (.iconst 0, 1) := by decide +kernel
theorem dX1_readFrom_88 : decode cX1_readFrom 88 = .ok (.ireturn, 1) := by decide +kernel
set_option maxRecDepth 100000 in
set_option maxHeartbeats 4000000 in
theorem wfX1_readFrom_5 {E : KE} {p : Program} {l : Launch} {e : Env} {s : State} {m : MethodId} {args : Array Value} {below : List Frame} {meth : Method} {c : Code} {q : (Bool × MM)} (C : mx_C E p m c cX1_readFrom 3 s args RX1 meth (some .boolean))  (hT : xOK E)   : ∀ (n : Nat) (M : MM) (H : Heap) (locs : List Loc) (ls : Array Slot), fX1_readFrom_5 n M = some q → mx_H E s M H locs → lv_has ls 3 [(0, .ref (E.2.1.2.1 138)), (1, .ref (E.2.1.2.1 3)), (2, .ref (E.2.1.2.1 9))] → W p l e (mx_rm 4) s m args below meth c H locs 0 0 (mx_Z E below args s (some (.int (mx_b q.1))) q.2) (F0 m 5 ls []) := by
  have hx := C.1.1
  have hb := C.1.2.1
  have hown := C.1.2.2.2.1
  have hts := C.1.2.2.2.2
  intro n
  induction n with
  | zero =>
    intro M H locs ls hf hM hl
    rw [fX1_readFrom_5] at hf
    cases hf
  | succ n ih =>
    intro M H locs ls hf hM hl
    rw [fX1_readFrom_5] at hf
    refine lv_aload_n hx hb dX1_readFrom_5 rfl (lv_at hl 0 rfl) ?_
    refine gX1_24 C hM (xt_138 hT) (f := (0, 0)) rfl (v := .int (M.1 138 4)) rfl dX1_readFrom_6 ?_
    refine lv_bipush (v := (40 : Int32)) hx hb dX1_readFrom_9 (by decide) ?_
    refine lv_icmp_ge (tgt := 66) hx hb dX1_readFrom_11 (by decide) (fun hc11 => ?_) (fun hc11 => ?_)
    · replace hf := mx_ift hc11 hf
      refine lv_aload_n hx hb dX1_readFrom_66 rfl (lv_at hl 1 rfl) ?_
      refine lv_iconst (v := (1 : Int32)) hx hb dX1_readFrom_67 (by decide) ?_
      obtain ⟨q68, hq68, hf⟩ := mx_bd hf
      refine mx_callVN C hM hl.1 yo_X7_isAt (h' := 0) (by decide) (nw_1095 hT C) qw_539 qs_9 (ci := 7) (q := (RX7, TX7, 12)) rfl (xt_3 hT) (As := [.int (1 : Int32)]) (rest := []) (st1 := [.int (mx_b q68)]) (kX7_isAt C.2.2.2.1 (1 : Int32) hT M hq68) rfl rfl rfl (Nat.le_of_ble_eq_true rfl) dX1_readFrom_68 (fun H locs hM => ?_)
      refine lv_if_ne (tgt := 83) hx hb dX1_readFrom_71 (by decide) (fun hc71 => ?_) (fun hc71 => ?_)
      · replace hf := mx_iff hc71 hf
        refine lv_iconst (v := (1 : Int32)) hx hb dX1_readFrom_83 (by decide) ?_
        refine lv_goto (tgt := 88) hx hb dX1_readFrom_84 (by decide) ?_
        exact mx_zret C hM (b := true) rfl hf dX1_readFrom_88
      · replace hf := mx_ift hc71 hf
        refine lv_aload_n hx hb dX1_readFrom_74 rfl (lv_at hl 0 rfl) ?_
        refine lv_aload_n hx hb dX1_readFrom_75 rfl (lv_at hl 1 rfl) ?_
        refine lv_aload_n hx hb dX1_readFrom_76 rfl (lv_at hl 2 rfl) ?_
        obtain ⟨q77, hq77, hf⟩ := mx_bd hf
        refine mx_callV C hM hl.1 yo_X1_failBehindAll (h' := 1) (by decide) qw_1129 qw_1131 qs_93 (ci := 1) (q := (RX1, TX1, 10)) rfl (xt_138 hT) (As := [.ref (E.2.1.2.1 3), .ref (E.2.1.2.1 9)]) (rest := []) (st1 := [.int (mx_b q77.1)]) (kX1_failBehindAll C.2.2.2.1 hT M hq77) rfl rfl rfl (Nat.le_of_ble_eq_true rfl) dX1_readFrom_77 (fun H locs hM => ?_)
        refine lv_if_eq (tgt := 87) hx hb dX1_readFrom_80 (by decide) (fun hc80 => ?_) (fun hc80 => ?_)
        · replace hf := mx_ift hc80 hf
          refine lv_iconst (v := (0 : Int32)) hx hb dX1_readFrom_87 (by decide) ?_
          exact mx_zret C hM (b := false) rfl hf dX1_readFrom_88
        · replace hf := mx_iff hc80 hf
          refine lv_iconst (v := (1 : Int32)) hx hb dX1_readFrom_83 (by decide) ?_
          refine lv_goto (tgt := 88) hx hb dX1_readFrom_84 (by decide) ?_
          exact mx_zret C hM (b := true) rfl hf dX1_readFrom_88
    · replace hf := mx_iff hc11 hf
      refine lv_aload_n hx hb dX1_readFrom_14 rfl (lv_at hl 1 rfl) ?_
      refine lv_iconst (v := (1 : Int32)) hx hb dX1_readFrom_15 (by decide) ?_
      obtain ⟨q16, hq16, hf⟩ := mx_bd hf
      refine mx_callVN C hM hl.1 yo_X7_isAt (h' := 0) (by decide) (nw_1095 hT C) qw_539 qs_9 (ci := 7) (q := (RX7, TX7, 12)) rfl (xt_3 hT) (As := [.int (1 : Int32)]) (rest := []) (st1 := [.int (mx_b q16)]) (kX7_isAt C.2.2.2.1 (1 : Int32) hT M hq16) rfl rfl rfl (Nat.le_of_ble_eq_true rfl) dX1_readFrom_16 (fun H locs hM => ?_)
      refine lv_if_eq (tgt := 24) hx hb dX1_readFrom_19 (by decide) (fun hc19 => ?_) (fun hc19 => ?_)
      · replace hf := mx_ift hc19 hf
        refine lv_aload_n hx hb dX1_readFrom_24 rfl (lv_at hl 0 rfl) ?_
        refine lv_aload_n hx hb dX1_readFrom_25 rfl (lv_at hl 1 rfl) ?_
        refine lv_aload_n hx hb dX1_readFrom_26 rfl (lv_at hl 2 rfl) ?_
        obtain ⟨q27, hq27, hf⟩ := mx_bd hf
        refine mx_callV C hM hl.1 yo_X1_takeWho (h' := 2) (by decide) qw_1096 qw_1098 qs_88 (ci := 1) (q := (RX1, TX1, 10)) rfl (xt_138 hT) (As := [.ref (E.2.1.2.1 3), .ref (E.2.1.2.1 9)]) (rest := []) (st1 := [.int (mx_b q27.1)]) (kX1_takeWho C.2.2.2.1 hT M hq27) rfl rfl rfl (Nat.le_of_ble_eq_true rfl) dX1_readFrom_27 (fun H locs hM => ?_)
        refine lv_if_eq (tgt := 51) hx hb dX1_readFrom_30 (by decide) (fun hc30 => ?_) (fun hc30 => ?_)
        · replace hf := mx_ift hc30 hf
          refine lv_iconst (v := (0 : Int32)) hx hb dX1_readFrom_51 (by decide) ?_
          exact mx_zret C hM (b := false) rfl hf dX1_readFrom_52
        · replace hf := mx_iff hc30 hf
          refine lv_aload_n hx hb dX1_readFrom_33 rfl (lv_at hl 0 rfl) ?_
          refine lv_aload_n hx hb dX1_readFrom_34 rfl (lv_at hl 1 rfl) ?_
          refine lv_aload_n hx hb dX1_readFrom_35 rfl (lv_at hl 2 rfl) ?_
          obtain ⟨q36, hq36, hf⟩ := mx_bd hf
          refine mx_callV C hM hl.1 yo_X1_readAct (h' := 3) (by decide) qw_1106 qw_1108 qs_89 (ci := 1) (q := (RX1, TX1, 10)) rfl (xt_138 hT) (As := [.ref (E.2.1.2.1 3), .ref (E.2.1.2.1 9)]) (rest := []) (st1 := [.int (mx_b q36.1)]) (kX1_readAct C.2.2.2.1 hT q27.2 hq36) rfl rfl rfl (Nat.le_of_ble_eq_true rfl) dX1_readFrom_36 (fun H locs hM => ?_)
          refine lv_if_eq (tgt := 51) hx hb dX1_readFrom_39 (by decide) (fun hc39 => ?_) (fun hc39 => ?_)
          · replace hf := mx_ift hc39 hf
            refine lv_iconst (v := (0 : Int32)) hx hb dX1_readFrom_51 (by decide) ?_
            exact mx_zret C hM (b := false) rfl hf dX1_readFrom_52
          · replace hf := mx_iff hc39 hf
            refine lv_aload_n hx hb dX1_readFrom_42 rfl (lv_at hl 1 rfl) ?_
            refine lv_bipush (v := (59 : Int32)) hx hb dX1_readFrom_43 (by decide) ?_
            obtain ⟨q45, hq45, hf⟩ := mx_bd hf
            refine mx_callVN C hM hl.1 yo_X7_takeSign (h' := 1) (by decide) (nw_1128 hT C) qw_616 qs_25 (ci := 7) (q := (RX7, TX7, 12)) rfl (xt_3 hT) (As := [.int (59 : Int32)]) (rest := []) (st1 := [.int (mx_b q45.1)]) (kX7_takeSign C.2.2.2.1 (59 : Int32) hT q36.2 hq45) rfl rfl rfl (Nat.le_of_ble_eq_true rfl) dX1_readFrom_45 (fun H locs hM => ?_)
            refine lv_if_ne (tgt := 53) hx hb dX1_readFrom_48 (by decide) (fun hc48 => ?_) (fun hc48 => ?_)
            · replace hf := mx_iff hc48 hf
              refine lv_aload_n hx hb dX1_readFrom_53 rfl (lv_at hl 0 rfl) ?_
              refine lv_dup hx hb dX1_readFrom_54 rfl ?_
              refine gX1_24 C hM (xt_138 hT) (f := (0, 0)) rfl (v := .int (q45.2.1 138 4)) rfl dX1_readFrom_55 ?_
              refine lv_iconst (v := (1 : Int32)) hx hb dX1_readFrom_58 (by decide) ?_
              refine lv_iadd hx hb dX1_readFrom_59 ?_
              refine pX1_24 C hM (xt_138 hT) rfl rfl rfl dX1_readFrom_60 (fun H locs hM => ?_)
              refine lv_goto (tgt := 5) hx hb dX1_readFrom_63 (by decide) ?_
              exact ih (mx_si q45.2 138 4 ((q45.2.1 138 4) + (1 : Int32))) _ _ _ hf hM (lv_sub hl [0, 1, 2] rfl)
            · replace hf := mx_ift hc48 hf
              refine lv_iconst (v := (0 : Int32)) hx hb dX1_readFrom_51 (by decide) ?_
              exact mx_zret C hM (b := false) rfl hf dX1_readFrom_52
      · replace hf := mx_iff hc19 hf
        refine lv_iconst (v := (1 : Int32)) hx hb dX1_readFrom_22 (by decide) ?_
        exact mx_zret C hM (b := true) rfl hf dX1_readFrom_23
set_option maxRecDepth 100000 in
set_option maxHeartbeats 4000000 in
theorem kX1_readFrom {E : KE} {l : Launch} (hE : mx_ok E)  (hT : xOK E) (M : MM) {q : (Bool × MM)} (hf : fX1_readFrom M = some q) : mx_Met E l yX1_readFrom cX1_readFrom 3 (some .boolean) 4 [.ref (E.2.1.2.1 138), .ref (E.2.1.2.1 3), .ref (E.2.1.2.1 9)] M (some (.int (mx_b q.1))) q.2 := by
  refine mx_enter hE (by decide) (Nat.le_of_ble_eq_true rfl) ?_
  intro p e s m below meth c C hM hn ls hl
  have hx := C.1.1
  have hb := C.1.2.1
  have hown := C.1.2.2.2.1
  have hts := C.1.2.2.2.2
  have hl : lv_has ls 3 [(0, .ref (E.2.1.2.1 138)), (1, .ref (E.2.1.2.1 3)), (2, .ref (E.2.1.2.1 9))] := hl
  rw [fX1_readFrom] at hf
  refine lv_aload_n hx hb dX1_readFrom_0 rfl (lv_at hl 0 rfl) ?_
  refine lv_iconst (v := (0 : Int32)) hx hb dX1_readFrom_1 (by decide) ?_
  refine pX1_24 C hM (xt_138 hT) rfl rfl rfl dX1_readFrom_2 (fun H locs hM => ?_)
  exact wfX1_readFrom_5 C hT mx_fu (mx_si M 138 4 (0 : Int32)) _ _ _ hf hM (lv_sub hl [0, 1, 2] rfl)
theorem dX9_farTo_0 : decode cX9_farTo 0 = .ok (.aload_n 0, 1) := by decide +kernel
theorem dX9_farTo_1 : decode cX9_farTo 1 = .ok (.getfield 9, 3) := by decide +kernel
theorem dX9_farTo_4 : decode cX9_farTo 4 = .ok (.iload_n 1, 1) := by decide +kernel
theorem dX9_farTo_5 : decode cX9_farTo 5 = .ok (.iaload, 1) := by decide +kernel
theorem dX9_farTo_6 : decode cX9_farTo 6 = .ok (.iload_n 2, 1) := by decide +kernel
theorem dX9_farTo_7 : decode cX9_farTo 7 = .ok (.isub, 1) := by decide +kernel
theorem dX9_farTo_8 : decode cX9_farTo 8 = .ok (.invokestatic 97, 3) := by decide +kernel
theorem dX9_farTo_11 : decode cX9_farTo 11 = .ok (.aload_n 0, 1) := by decide +kernel
theorem dX9_farTo_12 : decode cX9_farTo 12 = .ok (.getfield 15, 3) := by decide +kernel
theorem dX9_farTo_15 : decode cX9_farTo 15 = .ok (.iload_n 1, 1) := by decide +kernel
theorem dX9_farTo_16 : decode cX9_farTo 16 = .ok (.iaload, 1) := by decide +kernel
theorem dX9_farTo_17 : decode cX9_farTo 17 = .ok (.iload_n 3, 1) := by decide +kernel
theorem dX9_farTo_18 : decode cX9_farTo 18 = .ok (.isub, 1) := by decide +kernel
theorem dX9_farTo_19 : decode cX9_farTo 19 = .ok (.invokestatic 97, 3) := by decide +kernel
theorem dX9_farTo_22 : decode cX9_farTo 22 = .ok (.iadd, 1) := by decide +kernel
theorem dX9_farTo_23 : decode cX9_farTo 23 = .ok (.ireturn, 1) := by decide +kernel
set_option maxRecDepth 100000 in
set_option maxHeartbeats 4000000 in
theorem kX9_farTo {E : KE} {l : Launch} (hE : mx_ok E) (o : Nat) (i1 : Int32) (i2 : Int32) (i3 : Int32) (hT : xOK E) (ho : xt_isS o = true) (M : MM) {q : Int32} (hf : fX9_farTo o i1 i2 i3 M = some q) : mx_Met E l yX9_farTo cX9_farTo 4 (some .int) 1 [.ref (E.2.1.2.1 o), .int i1, .int i2, .int i3] M (some (.int q)) M := by
  refine mx_enter hE (by decide) (Nat.le_of_ble_eq_true rfl) ?_
  intro p e s m below meth c C hM hn ls hl
  have hx := C.1.1
  have hb := C.1.2.1
  have hown := C.1.2.2.2.1
  have hts := C.1.2.2.2.2
  have hl : lv_has ls 4 [(0, .ref (E.2.1.2.1 o)), (1, .int i1), (2, .int i2), (3, .int i3)] := hl
  rw [fX9_farTo] at hf
  refine lv_aload_n hx hb dX9_farTo_0 rfl (lv_at hl 0 rfl) ?_
  refine gX9_9 C hM (xoS hT ho) (f := (2, o + 1)) rfl (v := .ref (E.2.1.2.1 (o + 1))) rfl dX9_farTo_1 ?_
  refine lv_iload_n hx hb dX9_farTo_4 rfl (lv_at hl 1 rfl) ?_
  obtain ⟨hg5, hf⟩ := mx_gd hf
  refine mx_iald C hM (xaS_1 hT ho) (mx_in_vp hg5) dX9_farTo_5 ?_
  refine lv_iload_n hx hb dX9_farTo_6 rfl (lv_at hl 2 rfl) ?_
  refine lv_isub hx hb dX9_farTo_7 ?_
  refine va_mabs hx hb (C.1.2.2.1.trans hl.1.symm) hown (hts _ qw_705) (hts _ qw_706) (hts _ qw_21) (hts _ qw_707) (by decide) (Nat.le_of_ble_eq_true rfl) (Nat.le_refl 0) (Nat.le_refl 0) dX9_farTo_8 ?_
  refine lv_aload_n hx hb dX9_farTo_11 rfl (lv_at hl 0 rfl) ?_
  refine gX9_15 C hM (xoS hT ho) (f := (2, o + 2)) rfl (v := .ref (E.2.1.2.1 (o + 2))) rfl dX9_farTo_12 ?_
  refine lv_iload_n hx hb dX9_farTo_15 rfl (lv_at hl 1 rfl) ?_
  obtain ⟨hg16, hf⟩ := mx_gd hf
  refine mx_iald C hM (xaS_2 hT ho) (mx_in_vp hg16) dX9_farTo_16 ?_
  refine lv_iload_n hx hb dX9_farTo_17 rfl (lv_at hl 3 rfl) ?_
  refine lv_isub hx hb dX9_farTo_18 ?_
  refine va_mabs hx hb (C.1.2.2.1.trans hl.1.symm) hown (hts _ qw_705) (hts _ qw_706) (hts _ qw_21) (hts _ qw_707) (by decide) (Nat.le_of_ble_eq_true rfl) (Nat.le_refl 0) (Nat.le_refl 0) dX9_farTo_19 ?_
  refine lv_iadd hx hb dX9_farTo_22 ?_
  exact mx_iretR C hM hf dX9_farTo_23
theorem dX9_walkTo_0 : decode cX9_walkTo 0 = .ok (.aload_n 0, 1) := by decide +kernel
theorem dX9_walkTo_1 : decode cX9_walkTo 1 = .ok (.iload_n 1, 1) := by decide +kernel
theorem dX9_walkTo_2 : decode cX9_walkTo 2 = .ok (.iload_n 2, 1) := by decide +kernel
theorem dX9_walkTo_3 : decode cX9_walkTo 3 = .ok (.iload_n 3, 1) := by decide +kernel
theorem dX9_walkTo_4 : decode cX9_walkTo 4 = .ok (.invokevirtual 103, 3) := by decide +kernel
theorem dX9_walkTo_7 : decode cX9_walkTo 7 = .ok (.istore 4, 2) := by decide +kernel
theorem dX9_walkTo_9 : decode cX9_walkTo 9 = .ok (.iload 4, 2) := by decide +kernel
theorem dX9_walkTo_11 : decode cX9_walkTo 11 = .ok (.ifCond .ne 5, 3) := by decide +kernel
theorem dX9_walkTo_14 : decode cX9_walkTo 14 = .ok (.iconst 1, 1) := by decide +kernel
theorem dX9_walkTo_15 : decode cX9_walkTo 15 = .ok (.ireturn, 1) := by decide +kernel
theorem dX9_walkTo_16 : decode cX9_walkTo 16 = .ok (.iload 4, 2) := by decide +kernel
theorem dX9_walkTo_18 : decode cX9_walkTo 18 = .ok (.aload_n 0, 1) := by decide +kernel
theorem dX9_walkTo_19 : decode cX9_walkTo 19 = .ok (.getfield 18, 3) := by decide +kernel
theorem dX9_walkTo_22 : decode cX9_walkTo 22 = .ok (.iload_n 1, 1) := by decide +kernel
theorem dX9_walkTo_23 : decode cX9_walkTo 23 = .ok (.iaload, 1) := by decide +kernel
theorem dX9_walkTo_24 : decode cX9_walkTo 24 = .ok (.if_icmp .le 5, 3) := by decide +kernel
theorem dX9_walkTo_27 : decode cX9_walkTo 27 = .ok (.iconst 2, 1) := by decide +kernel
theorem dX9_walkTo_28 : decode cX9_walkTo 28 = .ok (.ireturn, 1) := by decide +kernel
theorem dX9_walkTo_29 : decode cX9_walkTo 29 = .ok (.aload_n 0, 1) := by decide +kernel
theorem dX9_walkTo_30 : decode cX9_walkTo 30 = .ok (.getfield 9, 3) := by decide +kernel
theorem dX9_walkTo_33 : decode cX9_walkTo 33 = .ok (.iload_n 1, 1) := by decide +kernel
theorem dX9_walkTo_34 : decode cX9_walkTo 34 = .ok (.iload_n 2, 1) := by decide +kernel
theorem dX9_walkTo_35 : decode cX9_walkTo 35 = .ok (.iastore, 1) := by decide +kernel
theorem dX9_walkTo_36 : decode cX9_walkTo 36 = .ok (.aload_n 0, 1) := by decide +kernel
theorem dX9_walkTo_37 : decode cX9_walkTo 37 = .ok (.getfield 15, 3) := by decide +kernel
theorem dX9_walkTo_40 : decode cX9_walkTo 40 = .ok (.iload_n 1, 1) := by decide +kernel
theorem dX9_walkTo_41 : decode cX9_walkTo 41 = .ok (.iload_n 3, 1) := by decide +kernel
theorem dX9_walkTo_42 : decode cX9_walkTo 42 = .ok (.iastore, 1) := by decide +kernel
theorem dX9_walkTo_43 : decode cX9_walkTo 43 = .ok (.aload_n 0, 1) := by decide +kernel
theorem dX9_walkTo_44 : decode cX9_walkTo 44 = .ok (.getfield 18, 3) := by decide +kernel
theorem dX9_walkTo_47 : decode cX9_walkTo 47 = .ok (.iload_n 1, 1) := by decide +kernel
theorem dX9_walkTo_48 : decode cX9_walkTo 48 = .ok (.dup2, 1) := by decide +kernel
theorem dX9_walkTo_49 : decode cX9_walkTo 49 = .ok (.iaload, 1) := by decide +kernel
theorem dX9_walkTo_50 : decode cX9_walkTo 50 = .ok (.iload 4, 2) := by decide +kernel
theorem dX9_walkTo_52 : decode cX9_walkTo 52 = .ok (.isub, 1) := by decide +kernel
theorem dX9_walkTo_53 : decode cX9_walkTo 53 = .ok (.iastore, 1) := by decide +kernel
theorem dX9_walkTo_54 : decode cX9_walkTo 54 = .ok (.aload_n 0, 1) := by decide +kernel
theorem dX9_walkTo_55 : decode cX9_walkTo 55 = .ok (.dup, 1) := by decide +kernel
theorem dX9_walkTo_56 : decode cX9_walkTo 56 = .ok (.getfield 64, 3) := by decide +kernel
theorem dX9_walkTo_59 : decode cX9_walkTo 59 = .ok (.iload 4, 2) := by decide +kernel
theorem dX9_walkTo_61 : decode cX9_walkTo 61 = .ok (.iadd, 1) := by decide +kernel
theorem dX9_walkTo_62 : decode cX9_walkTo 62 = .ok (.putfield 64, 3) := by decide +kernel
theorem dX9_walkTo_65 : decode cX9_walkTo 65 = .ok (.iconst 0, 1) := by decide +kernel
theorem dX9_walkTo_66 : decode cX9_walkTo 66 = .ok (.ireturn, 1) := by decide +kernel
set_option maxRecDepth 100000 in
set_option maxHeartbeats 4000000 in
theorem kX9_walkTo {E : KE} {l : Launch} (hE : mx_ok E) (o : Nat) (i1 : Int32) (i2 : Int32) (i3 : Int32) (hT : xOK E) (ho : xt_isS o = true) (M : MM) {q : (Int32 × MM)} (hf : fX9_walkTo o i1 i2 i3 M = some q) : mx_Met E l yX9_walkTo cX9_walkTo 5 (some .int) 2 [.ref (E.2.1.2.1 o), .int i1, .int i2, .int i3] M (some (.int q.1)) q.2 := by
  refine mx_enter hE (by decide) (Nat.le_of_ble_eq_true rfl) ?_
  intro p e s m below meth c C hM hn ls hl
  have hx := C.1.1
  have hb := C.1.2.1
  have hown := C.1.2.2.2.1
  have hts := C.1.2.2.2.2
  have hl : lv_has ls 5 [(0, .ref (E.2.1.2.1 o)), (1, .int i1), (2, .int i2), (3, .int i3)] := hl
  rw [fX9_walkTo] at hf
  refine lv_aload_n hx hb dX9_walkTo_0 rfl (lv_at hl 0 rfl) ?_
  refine lv_iload_n hx hb dX9_walkTo_1 rfl (lv_at hl 1 rfl) ?_
  refine lv_iload_n hx hb dX9_walkTo_2 rfl (lv_at hl 2 rfl) ?_
  refine lv_iload_n hx hb dX9_walkTo_3 rfl (lv_at hl 3 rfl) ?_
  obtain ⟨q4, hq4, hf⟩ := mx_bd hf
  refine mx_callV C hM hl.1 yo_X9_farTo (h' := 1) (by decide) qw_701 qw_703 qs_41 (ci := 9) (q := (RX9, TX9, 13)) rfl (xoS hT ho) (As := [.int i1, .int i2, .int i3]) (rest := []) (st1 := [.int q4]) (kX9_farTo C.2.2.2.1 o i1 i2 i3 hT ho M hq4) rfl rfl rfl (Nat.le_of_ble_eq_true rfl) dX9_walkTo_4 (fun H locs hM => ?_)
  refine lv_istore (lv' := [(4, .int q4), (0, .ref (E.2.1.2.1 o)), (1, .int i1), (2, .int i2), (3, .int i3)]) hx hb dX9_walkTo_7 hl (by decide) rfl (fun ls hl => ?_)
  refine lv_iload hx hb dX9_walkTo_9 (lv_at hl 0 rfl) ?_
  refine lv_if_ne (tgt := 16) hx hb dX9_walkTo_11 (by decide) (fun hc11 => ?_) (fun hc11 => ?_)
  · replace hf := mx_iff hc11 hf
    refine lv_iload hx hb dX9_walkTo_16 (lv_at hl 0 rfl) ?_
    refine lv_aload_n hx hb dX9_walkTo_18 rfl (lv_at hl 1 rfl) ?_
    refine gX9_18 C hM (xoS hT ho) (f := (2, o + 3)) rfl (v := .ref (E.2.1.2.1 (o + 3))) rfl dX9_walkTo_19 ?_
    refine lv_iload_n hx hb dX9_walkTo_22 rfl (lv_at hl 2 rfl) ?_
    obtain ⟨hg23, hf⟩ := mx_gd hf
    refine mx_iald C hM (xaS_3 hT ho) (mx_in_vp hg23) dX9_walkTo_23 ?_
    refine lv_icmp_le (tgt := 29) hx hb dX9_walkTo_24 (by decide) (fun hc24 => ?_) (fun hc24 => ?_)
    · replace hf := mx_ift hc24 hf
      refine lv_aload_n hx hb dX9_walkTo_29 rfl (lv_at hl 1 rfl) ?_
      refine gX9_9 C hM (xoS hT ho) (f := (2, o + 1)) rfl (v := .ref (E.2.1.2.1 (o + 1))) rfl dX9_walkTo_30 ?_
      refine lv_iload_n hx hb dX9_walkTo_33 rfl (lv_at hl 2 rfl) ?_
      refine lv_iload_n hx hb dX9_walkTo_34 rfl (lv_at hl 3 rfl) ?_
      obtain ⟨hg35, hf⟩ := mx_gd hf
      refine mx_iast C hM (xaS_1 hT ho) (mx_in_vp hg35) dX9_walkTo_35 (fun H locs hM => ?_)
      refine lv_aload_n hx hb dX9_walkTo_36 rfl (lv_at hl 1 rfl) ?_
      refine gX9_15 C hM (xoS hT ho) (f := (2, o + 2)) rfl (v := .ref (E.2.1.2.1 (o + 2))) rfl dX9_walkTo_37 ?_
      refine lv_iload_n hx hb dX9_walkTo_40 rfl (lv_at hl 2 rfl) ?_
      refine lv_iload_n hx hb dX9_walkTo_41 rfl (lv_at hl 4 rfl) ?_
      obtain ⟨hg42, hf⟩ := mx_gd hf
      refine mx_iast C hM (xaS_2 hT ho) (mx_in_vp hg42) dX9_walkTo_42 (fun H locs hM => ?_)
      refine lv_aload_n hx hb dX9_walkTo_43 rfl (lv_at hl 1 rfl) ?_
      refine gX9_18 C hM (xoS hT ho) (f := (2, o + 3)) rfl (v := .ref (E.2.1.2.1 (o + 3))) rfl dX9_walkTo_44 ?_
      refine lv_iload_n hx hb dX9_walkTo_47 rfl (lv_at hl 2 rfl) ?_
      refine lv_dup2_11 hx hb dX9_walkTo_48 rfl rfl ?_
      obtain ⟨hg49, hf⟩ := mx_gd hf
      refine mx_iald C hM (xaS_3 hT ho) (mx_in_vp hg49) dX9_walkTo_49 ?_
      refine lv_iload hx hb dX9_walkTo_50 (lv_at hl 0 rfl) ?_
      refine lv_isub hx hb dX9_walkTo_52 ?_
      obtain ⟨hg53, hf⟩ := mx_gd hf
      refine mx_iast C hM (xaS_3 hT ho) (mx_in_vp hg53) dX9_walkTo_53 (fun H locs hM => ?_)
      refine lv_aload_n hx hb dX9_walkTo_54 rfl (lv_at hl 1 rfl) ?_
      refine lv_dup hx hb dX9_walkTo_55 rfl ?_
      refine gX9_64 C hM (xoS hT ho) (f := (0, 0)) rfl (v := .int ((mx_si (mx_si (mx_si M (o + 1) i1.toNatClampNeg i2) (o + 2) i1.toNatClampNeg i3) (o + 3) i1.toNatClampNeg (((mx_si (mx_si M (o + 1) i1.toNatClampNeg i2) (o + 2) i1.toNatClampNeg i3).1 (o + 3) i1.toNatClampNeg) - q4)).1 o 11)) rfl dX9_walkTo_56 ?_
      refine lv_iload hx hb dX9_walkTo_59 (lv_at hl 0 rfl) ?_
      refine lv_iadd hx hb dX9_walkTo_61 ?_
      refine pX9_64 C hM (xoS hT ho) rfl rfl rfl dX9_walkTo_62 (fun H locs hM => ?_)
      refine lv_iconst (v := (0 : Int32)) hx hb dX9_walkTo_65 (by decide) ?_
      exact mx_iret C hM hf dX9_walkTo_66
    · replace hf := mx_iff hc24 hf
      refine lv_iconst (v := (2 : Int32)) hx hb dX9_walkTo_27 (by decide) ?_
      exact mx_iret C hM hf dX9_walkTo_28
  · replace hf := mx_ift hc11 hf
    refine lv_iconst (v := (1 : Int32)) hx hb dX9_walkTo_14 (by decide) ?_
    exact mx_iret C hM hf dX9_walkTo_15
theorem dX9_isKeptBy_0 : decode cX9_isKeptBy 0 = .ok (.aload_n 0, 1) := by decide +kernel
theorem dX9_isKeptBy_1 : decode cX9_isKeptBy 1 = .ok (.getfield 24, 3) := by decide +kernel
theorem dX9_isKeptBy_4 : decode cX9_isKeptBy 4 = .ok (.iload_n 1, 1) := by decide +kernel
theorem dX9_isKeptBy_5 : decode cX9_isKeptBy 5 = .ok (.iaload, 1) := by decide +kernel
theorem dX9_isKeptBy_6 : decode cX9_isKeptBy 6 = .ok (.ifCond .ne 17, 3) := by decide +kernel
theorem dX9_isKeptBy_9 : decode cX9_isKeptBy 9 = .ok (.aload_n 0, 1) := by decide +kernel
theorem dX9_isKeptBy_10 : decode cX9_isKeptBy 10 = .ok (.getfield 21, 3) := by decide +kernel
theorem dX9_isKeptBy_13 : decode cX9_isKeptBy 13 = .ok (.iload_n 1, 1) := by decide +kernel
theorem dX9_isKeptBy_14 : decode cX9_isKeptBy 14 = .ok (.iaload, 1) := by decide +kernel
theorem dX9_isKeptBy_15 : decode cX9_isKeptBy 15 = .ok (.iload_n 2, 1) := by decide +kernel
theorem dX9_isKeptBy_16 : decode cX9_isKeptBy 16 = .ok (.if_icmp .ne 7, 3) := by decide +kernel
theorem dX9_isKeptBy_19 : decode cX9_isKeptBy 19 = .ok (.iconst 1, 1) := by decide +kernel
theorem dX9_isKeptBy_20 : decode cX9_isKeptBy 20 = .ok (.goto 4, 3) := by decide +kernel
theorem dX9_isKeptBy_23 : decode cX9_isKeptBy 23 = .ok (.iconst 0, 1) := by decide +kernel
theorem dX9_isKeptBy_24 : decode cX9_isKeptBy 24 = .ok (.ireturn, 1) := by decide +kernel
set_option maxRecDepth 100000 in
set_option maxHeartbeats 4000000 in
theorem kX9_isKeptBy {E : KE} {l : Launch} (hE : mx_ok E) (o : Nat) (i1 : Int32) (i2 : Int32) (hT : xOK E) (ho : xt_isS o = true) (M : MM) {q : Bool} (hf : fX9_isKeptBy o i1 i2 M = some q) : mx_Met E l yX9_isKeptBy cX9_isKeptBy 3 (some .boolean) 0 [.ref (E.2.1.2.1 o), .int i1, .int i2] M (some (.int (mx_b q))) M := by
  refine mx_enter hE (by decide) (Nat.le_of_ble_eq_true rfl) ?_
  intro p e s m below meth c C hM hn ls hl
  have hx := C.1.1
  have hb := C.1.2.1
  have hown := C.1.2.2.2.1
  have hts := C.1.2.2.2.2
  have hl : lv_has ls 3 [(0, .ref (E.2.1.2.1 o)), (1, .int i1), (2, .int i2)] := hl
  rw [fX9_isKeptBy] at hf
  refine lv_aload_n hx hb dX9_isKeptBy_0 rfl (lv_at hl 0 rfl) ?_
  refine gX9_24 C hM (xoS hT ho) (f := (2, o + 5)) rfl (v := .ref (E.2.1.2.1 (o + 5))) rfl dX9_isKeptBy_1 ?_
  refine lv_iload_n hx hb dX9_isKeptBy_4 rfl (lv_at hl 1 rfl) ?_
  obtain ⟨hg5, hf⟩ := mx_gd hf
  refine mx_iald C hM (xaS_5 hT ho) (mx_in_vp hg5) dX9_isKeptBy_5 ?_
  refine lv_if_ne (tgt := 23) hx hb dX9_isKeptBy_6 (by decide) (fun hc6 => ?_) (fun hc6 => ?_)
  · replace hf := mx_iff hc6 hf
    refine lv_iconst (v := (0 : Int32)) hx hb dX9_isKeptBy_23 (by decide) ?_
    exact mx_zretR C hM (b := false) rfl hf dX9_isKeptBy_24
  · replace hf := mx_ift hc6 hf
    refine lv_aload_n hx hb dX9_isKeptBy_9 rfl (lv_at hl 0 rfl) ?_
    refine gX9_21 C hM (xoS hT ho) (f := (2, o + 4)) rfl (v := .ref (E.2.1.2.1 (o + 4))) rfl dX9_isKeptBy_10 ?_
    refine lv_iload_n hx hb dX9_isKeptBy_13 rfl (lv_at hl 1 rfl) ?_
    obtain ⟨hg14, hf⟩ := mx_gd hf
    refine mx_iald C hM (xaS_4 hT ho) (mx_in_vp hg14) dX9_isKeptBy_14 ?_
    refine lv_iload_n hx hb dX9_isKeptBy_15 rfl (lv_at hl 2 rfl) ?_
    refine lv_icmp_ne (tgt := 23) hx hb dX9_isKeptBy_16 (by decide) (fun hc16 => ?_) (fun hc16 => ?_)
    · replace hf := mx_iff hc16 hf
      refine lv_iconst (v := (0 : Int32)) hx hb dX9_isKeptBy_23 (by decide) ?_
      exact mx_zretR C hM (b := false) rfl hf dX9_isKeptBy_24
    · replace hf := mx_ift hc16 hf
      refine lv_iconst (v := (1 : Int32)) hx hb dX9_isKeptBy_19 (by decide) ?_
      refine lv_goto (tgt := 24) hx hb dX9_isKeptBy_20 (by decide) ?_
      exact mx_zretR C hM (b := true) rfl hf dX9_isKeptBy_24
theorem dX3_isPerson_0 : decode cX3_isPerson 0 = .ok (.iload_n 1, 1) := by decide +kernel
theorem dX3_isPerson_1 : decode cX3_isPerson 1 = .ok (.ifCond .lt 15, 3) := by decide +kernel
theorem dX3_isPerson_4 : decode cX3_isPerson 4 = .ok (.iload_n 1, 1) := by decide +kernel
theorem dX3_isPerson_5 : decode cX3_isPerson 5 = .ok (.aload_n 0, 1) := by decide +kernel
theorem dX3_isPerson_6 : decode cX3_isPerson 6 = .ok (.getfield 50, 3) := by decide +kernel
theorem dX3_isPerson_9 : decode cX3_isPerson 9 = .ok (.if_icmp .ge 7, 3) := by decide +kernel
theorem dX3_isPerson_12 : decode cX3_isPerson 12 = .ok (.iconst 1, 1) := by decide +kernel
theorem dX3_isPerson_13 : decode cX3_isPerson 13 = .ok (.goto 4, 3) := by decide +kernel
theorem dX3_isPerson_16 : decode cX3_isPerson 16 = .ok (.iconst 0, 1) := by decide +kernel
theorem dX3_isPerson_17 : decode cX3_isPerson 17 = .ok (.ireturn, 1) := by decide +kernel
set_option maxRecDepth 100000 in
set_option maxHeartbeats 4000000 in
theorem kX3_isPerson {E : KE} {l : Launch} (hE : mx_ok E) (i1 : Int32) (hT : xOK E) (M : MM) {q : Bool} (hf : fX3_isPerson i1 M = some q) : mx_Met E l yX3_isPerson cX3_isPerson 2 (some .boolean) 0 [.ref (E.2.1.2.1 9), .int i1] M (some (.int (mx_b q))) M := by
  refine mx_enter hE (by decide) (Nat.le_of_ble_eq_true rfl) ?_
  intro p e s m below meth c C hM hn ls hl
  have hx := C.1.1
  have hb := C.1.2.1
  have hown := C.1.2.2.2.1
  have hts := C.1.2.2.2.2
  have hl : lv_has ls 2 [(0, .ref (E.2.1.2.1 9)), (1, .int i1)] := hl
  rw [fX3_isPerson] at hf
  refine lv_iload_n hx hb dX3_isPerson_0 rfl (lv_at hl 1 rfl) ?_
  refine lv_if_lt (tgt := 16) hx hb dX3_isPerson_1 (by decide) (fun hc1 => ?_) (fun hc1 => ?_)
  · replace hf := mx_ift hc1 hf
    refine lv_iconst (v := (0 : Int32)) hx hb dX3_isPerson_16 (by decide) ?_
    exact mx_zretR C hM (b := false) rfl hf dX3_isPerson_17
  · replace hf := mx_iff hc1 hf
    refine lv_iload_n hx hb dX3_isPerson_4 rfl (lv_at hl 1 rfl) ?_
    refine lv_aload_n hx hb dX3_isPerson_5 rfl (lv_at hl 0 rfl) ?_
    refine gX3_50 C hM (xt_9 hT) (f := (0, 0)) rfl (v := .int (M.1 9 0)) rfl dX3_isPerson_6 ?_
    refine lv_icmp_ge (tgt := 16) hx hb dX3_isPerson_9 (by decide) (fun hc9 => ?_) (fun hc9 => ?_)
    · replace hf := mx_ift hc9 hf
      refine lv_iconst (v := (0 : Int32)) hx hb dX3_isPerson_16 (by decide) ?_
      exact mx_zretR C hM (b := false) rfl hf dX3_isPerson_17
    · replace hf := mx_iff hc9 hf
      refine lv_iconst (v := (1 : Int32)) hx hb dX3_isPerson_12 (by decide) ?_
      refine lv_goto (tgt := 17) hx hb dX3_isPerson_13 (by decide) ?_
      exact mx_zretR C hM (b := true) rfl hf dX3_isPerson_17
theorem dX9_isBy_0 : decode cX9_isBy 0 = .ok (.aload_n 0, 1) := by decide +kernel
theorem dX9_isBy_1 : decode cX9_isBy 1 = .ok (.getfield 36, 3) := by decide +kernel
theorem dX9_isBy_4 : decode cX9_isBy 4 = .ok (.iload_n 2, 1) := by decide +kernel
theorem dX9_isBy_5 : decode cX9_isBy 5 = .ok (.invokevirtual 90, 3) := by decide +kernel
theorem dX9_isBy_8 : decode cX9_isBy 8 = .ok (.ifCond .eq 37, 3) := by decide +kernel
theorem dX9_isBy_11 : decode cX9_isBy 11 = .ok (.aload_n 0, 1) := by decide +kernel
theorem dX9_isBy_12 : decode cX9_isBy 12 = .ok (.getfield 9, 3) := by decide +kernel
theorem dX9_isBy_15 : decode cX9_isBy 15 = .ok (.iload_n 1, 1) := by decide +kernel
theorem dX9_isBy_16 : decode cX9_isBy 16 = .ok (.iaload, 1) := by decide +kernel
theorem dX9_isBy_17 : decode cX9_isBy 17 = .ok (.aload_n 0, 1) := by decide +kernel
theorem dX9_isBy_18 : decode cX9_isBy 18 = .ok (.getfield 9, 3) := by decide +kernel
theorem dX9_isBy_21 : decode cX9_isBy 21 = .ok (.iload_n 2, 1) := by decide +kernel
theorem dX9_isBy_22 : decode cX9_isBy 22 = .ok (.iaload, 1) := by decide +kernel
theorem dX9_isBy_23 : decode cX9_isBy 23 = .ok (.if_icmp .ne 22, 3) := by decide +kernel
theorem dX9_isBy_26 : decode cX9_isBy 26 = .ok (.aload_n 0, 1) := by decide +kernel
theorem dX9_isBy_27 : decode cX9_isBy 27 = .ok (.getfield 15, 3) := by decide +kernel
theorem dX9_isBy_30 : decode cX9_isBy 30 = .ok (.iload_n 1, 1) := by decide +kernel
theorem dX9_isBy_31 : decode cX9_isBy 31 = .ok (.iaload, 1) := by decide +kernel
theorem dX9_isBy_32 : decode cX9_isBy 32 = .ok (.aload_n 0, 1) := by decide +kernel
theorem dX9_isBy_33 : decode cX9_isBy 33 = .ok (.getfield 15, 3) := by decide +kernel
theorem dX9_isBy_36 : decode cX9_isBy 36 = .ok (.iload_n 2, 1) := by decide +kernel
theorem dX9_isBy_37 : decode cX9_isBy 37 = .ok (.iaload, 1) := by decide +kernel
theorem dX9_isBy_38 : decode cX9_isBy 38 = .ok (.if_icmp .ne 7, 3) := by decide +kernel
theorem dX9_isBy_41 : decode cX9_isBy 41 = .ok (.iconst 1, 1) := by decide +kernel
theorem dX9_isBy_42 : decode cX9_isBy 42 = .ok (.goto 4, 3) := by decide +kernel
theorem dX9_isBy_45 : decode cX9_isBy 45 = .ok (.iconst 0, 1) := by decide +kernel
theorem dX9_isBy_46 : decode cX9_isBy 46 = .ok (.ireturn, 1) := by decide +kernel
set_option maxRecDepth 100000 in
set_option maxHeartbeats 4000000 in
theorem kX9_isBy {E : KE} {l : Launch} (hE : mx_ok E) (o : Nat) (i1 : Int32) (i2 : Int32) (hT : xOK E) (ho : xt_isS o = true) (M : MM) {q : Bool} (hf : fX9_isBy o i1 i2 M = some q) : mx_Met E l yX9_isBy cX9_isBy 3 (some .boolean) 1 [.ref (E.2.1.2.1 o), .int i1, .int i2] M (some (.int (mx_b q))) M := by
  refine mx_enter hE (by decide) (Nat.le_of_ble_eq_true rfl) ?_
  intro p e s m below meth c C hM hn ls hl
  have hx := C.1.1
  have hb := C.1.2.1
  have hown := C.1.2.2.2.1
  have hts := C.1.2.2.2.2
  have hl : lv_has ls 3 [(0, .ref (E.2.1.2.1 o)), (1, .int i1), (2, .int i2)] := hl
  rw [fX9_isBy] at hf
  refine lv_aload_n hx hb dX9_isBy_0 rfl (lv_at hl 0 rfl) ?_
  refine gX9_36 C hM (xoS hT ho) (f := (2, 9)) rfl (v := .ref (E.2.1.2.1 9)) rfl dX9_isBy_1 ?_
  refine lv_iload_n hx hb dX9_isBy_4 rfl (lv_at hl 2 rfl) ?_
  obtain ⟨q5, hq5, hf⟩ := mx_bd hf
  refine mx_callVN C hM hl.1 yo_X3_isPerson (h' := 0) (by decide) (nw_737 hT C) qw_663 qs_34 (ci := 3) (q := (RX3, TX3, 18)) rfl (xt_9 hT) (As := [.int i2]) (rest := []) (st1 := [.int (mx_b q5)]) (kX3_isPerson C.2.2.2.1 i2 hT M hq5) rfl rfl rfl (Nat.le_of_ble_eq_true rfl) dX9_isBy_5 (fun H locs hM => ?_)
  refine lv_if_eq (tgt := 45) hx hb dX9_isBy_8 (by decide) (fun hc8 => ?_) (fun hc8 => ?_)
  · replace hf := mx_ift hc8 hf
    refine lv_iconst (v := (0 : Int32)) hx hb dX9_isBy_45 (by decide) ?_
    exact mx_zretR C hM (b := false) rfl hf dX9_isBy_46
  · replace hf := mx_iff hc8 hf
    refine lv_aload_n hx hb dX9_isBy_11 rfl (lv_at hl 0 rfl) ?_
    refine gX9_9 C hM (xoS hT ho) (f := (2, o + 1)) rfl (v := .ref (E.2.1.2.1 (o + 1))) rfl dX9_isBy_12 ?_
    refine lv_iload_n hx hb dX9_isBy_15 rfl (lv_at hl 1 rfl) ?_
    obtain ⟨hg16, hf⟩ := mx_gd hf
    refine mx_iald C hM (xaS_1 hT ho) (mx_in_vp hg16) dX9_isBy_16 ?_
    refine lv_aload_n hx hb dX9_isBy_17 rfl (lv_at hl 0 rfl) ?_
    refine gX9_9 C hM (xoS hT ho) (f := (2, o + 1)) rfl (v := .ref (E.2.1.2.1 (o + 1))) rfl dX9_isBy_18 ?_
    refine lv_iload_n hx hb dX9_isBy_21 rfl (lv_at hl 2 rfl) ?_
    obtain ⟨hg22, hf⟩ := mx_gd hf
    refine mx_iald C hM (xaS_1 hT ho) (mx_in_vp hg22) dX9_isBy_22 ?_
    refine lv_icmp_ne (tgt := 45) hx hb dX9_isBy_23 (by decide) (fun hc23 => ?_) (fun hc23 => ?_)
    · replace hf := mx_iff hc23 hf
      refine lv_iconst (v := (0 : Int32)) hx hb dX9_isBy_45 (by decide) ?_
      exact mx_zretR C hM (b := false) rfl hf dX9_isBy_46
    · replace hf := mx_ift hc23 hf
      refine lv_aload_n hx hb dX9_isBy_26 rfl (lv_at hl 0 rfl) ?_
      refine gX9_15 C hM (xoS hT ho) (f := (2, o + 2)) rfl (v := .ref (E.2.1.2.1 (o + 2))) rfl dX9_isBy_27 ?_
      refine lv_iload_n hx hb dX9_isBy_30 rfl (lv_at hl 1 rfl) ?_
      obtain ⟨hg31, hf⟩ := mx_gd hf
      refine mx_iald C hM (xaS_2 hT ho) (mx_in_vp hg31) dX9_isBy_31 ?_
      refine lv_aload_n hx hb dX9_isBy_32 rfl (lv_at hl 0 rfl) ?_
      refine gX9_15 C hM (xoS hT ho) (f := (2, o + 2)) rfl (v := .ref (E.2.1.2.1 (o + 2))) rfl dX9_isBy_33 ?_
      refine lv_iload_n hx hb dX9_isBy_36 rfl (lv_at hl 2 rfl) ?_
      obtain ⟨hg37, hf⟩ := mx_gd hf
      refine mx_iald C hM (xaS_2 hT ho) (mx_in_vp hg37) dX9_isBy_37 ?_
      refine lv_icmp_ne (tgt := 45) hx hb dX9_isBy_38 (by decide) (fun hc38 => ?_) (fun hc38 => ?_)
      · replace hf := mx_iff hc38 hf
        refine lv_iconst (v := (0 : Int32)) hx hb dX9_isBy_45 (by decide) ?_
        exact mx_zretR C hM (b := false) rfl hf dX9_isBy_46
      · replace hf := mx_ift hc38 hf
        refine lv_iconst (v := (1 : Int32)) hx hb dX9_isBy_41 (by decide) ?_
        refine lv_goto (tgt := 46) hx hb dX9_isBy_42 (by decide) ?_
        exact mx_zretR C hM (b := true) rfl hf dX9_isBy_46
theorem dX9_passOn_0 : decode cX9_passOn 0 = .ok (.iload_n 1, 1) := by decide +kernel
theorem dX9_passOn_1 : decode cX9_passOn 1 = .ok (.iload_n 3, 1) := by decide +kernel
theorem dX9_passOn_2 : decode cX9_passOn 2 = .ok (.if_icmp .ne 5, 3) := by decide +kernel
theorem dX9_passOn_5 : decode cX9_passOn 5 = .ok (.iconst 1, 1) := by decide +kernel
theorem dX9_passOn_6 : decode cX9_passOn 6 = .ok (.ireturn, 1) := by decide +kernel
theorem dX9_passOn_7 : decode cX9_passOn 7 = .ok (.aload_n 0, 1) := by decide +kernel
theorem dX9_passOn_8 : decode cX9_passOn 8 = .ok (.iload_n 2, 1) := by decide +kernel
theorem dX9_passOn_9 : decode cX9_passOn 9 = .ok (.iload_n 1, 1) := by decide +kernel
theorem dX9_passOn_10 : decode cX9_passOn 10 = .ok (.invokevirtual 79, 3) := by decide +kernel
theorem dX9_passOn_13 : decode cX9_passOn 13 = .ok (.ifCond .ne 5, 3) := by decide +kernel
theorem dX9_passOn_16 : decode cX9_passOn 16 = .ok (.iconst 2, 1) := by decide +kernel
theorem dX9_passOn_17 : decode cX9_passOn 17 = .ok (.ireturn, 1) := by decide +kernel
theorem dX9_passOn_18 : decode cX9_passOn 18 = .ok (.aload_n 0, 1) := by decide +kernel
theorem dX9_passOn_19 : decode cX9_passOn 19 = .ok (.iload_n 1, 1) := by decide +kernel
theorem dX9_passOn_20 : decode cX9_passOn 20 = .ok (.iload_n 3, 1) := by decide +kernel
theorem dX9_passOn_21 : decode cX9_passOn 21 = .ok (.invokevirtual 107, 3) := by decide +kernel
theorem dX9_passOn_24 : decode cX9_passOn 24 = .ok (.ifCond .ne 5, 3) := by decide +kernel
theorem dX9_passOn_27 : decode cX9_passOn 27 = .ok (.iconst 3, 1) := by decide +kernel
theorem dX9_passOn_28 : decode cX9_passOn 28 = .ok (.ireturn, 1) := by decide +kernel
theorem dX9_passOn_29 : decode cX9_passOn 29 = .ok (.aload_n 0, 1) := by decide +kernel
theorem dX9_passOn_30 : decode cX9_passOn 30 = .ok (.getfield 21, 3) := by decide +kernel
theorem dX9_passOn_33 : decode cX9_passOn 33 = .ok (.iload_n 2, 1) := by decide +kernel
theorem dX9_passOn_34 : decode cX9_passOn 34 = .ok (.iload_n 3, 1) := by decide +kernel
theorem dX9_passOn_35 : decode cX9_passOn 35 = .ok (.iastore, 1) := by decide +kernel
theorem dX9_passOn_36 : decode cX9_passOn 36 = .ok (.aload_n 0, 1) := by decide +kernel
theorem dX9_passOn_37 : decode cX9_passOn 37 = .ok (.dup, 1) := by decide +kernel
theorem dX9_passOn_38 : decode cX9_passOn 38 = .ok (.getfield 61, 3) := by decide +kernel
theorem dX9_passOn_41 : decode cX9_passOn 41 = .ok (.iconst 1, 1) := by decide +kernel
theorem dX9_passOn_42 : decode cX9_passOn 42 = .ok (.iadd, 1) := by decide +kernel
theorem dX9_passOn_43 : decode cX9_passOn 43 = .ok (.putfield 61, 3) := by decide +kernel
theorem dX9_passOn_46 : decode cX9_passOn 46 = .ok (.iconst 0, 1) := by decide +kernel
theorem dX9_passOn_47 : decode cX9_passOn 47 = .ok (.ireturn, 1) := by decide +kernel
set_option maxRecDepth 100000 in
set_option maxHeartbeats 4000000 in
theorem kX9_passOn {E : KE} {l : Launch} (hE : mx_ok E) (o : Nat) (i1 : Int32) (i2 : Int32) (i3 : Int32) (hT : xOK E) (ho : xt_isS o = true) (M : MM) {q : (Int32 × MM)} (hf : fX9_passOn o i1 i2 i3 M = some q) : mx_Met E l yX9_passOn cX9_passOn 4 (some .int) 2 [.ref (E.2.1.2.1 o), .int i1, .int i2, .int i3] M (some (.int q.1)) q.2 := by
  refine mx_enter hE (by decide) (Nat.le_of_ble_eq_true rfl) ?_
  intro p e s m below meth c C hM hn ls hl
  have hx := C.1.1
  have hb := C.1.2.1
  have hown := C.1.2.2.2.1
  have hts := C.1.2.2.2.2
  have hl : lv_has ls 4 [(0, .ref (E.2.1.2.1 o)), (1, .int i1), (2, .int i2), (3, .int i3)] := hl
  rw [fX9_passOn] at hf
  refine lv_iload_n hx hb dX9_passOn_0 rfl (lv_at hl 1 rfl) ?_
  refine lv_iload_n hx hb dX9_passOn_1 rfl (lv_at hl 3 rfl) ?_
  refine lv_icmp_ne (tgt := 7) hx hb dX9_passOn_2 (by decide) (fun hc2 => ?_) (fun hc2 => ?_)
  · replace hf := mx_iff hc2 hf
    refine lv_aload_n hx hb dX9_passOn_7 rfl (lv_at hl 0 rfl) ?_
    refine lv_iload_n hx hb dX9_passOn_8 rfl (lv_at hl 2 rfl) ?_
    refine lv_iload_n hx hb dX9_passOn_9 rfl (lv_at hl 1 rfl) ?_
    obtain ⟨q10, hq10, hf⟩ := mx_bd hf
    refine mx_callV C hM hl.1 yo_X9_isKeptBy (h' := 0) (by decide) qw_729 qw_731 qs_46 (ci := 9) (q := (RX9, TX9, 13)) rfl (xoS hT ho) (As := [.int i2, .int i1]) (rest := []) (st1 := [.int (mx_b q10)]) (kX9_isKeptBy C.2.2.2.1 o i2 i1 hT ho M hq10) rfl rfl rfl (Nat.le_of_ble_eq_true rfl) dX9_passOn_10 (fun H locs hM => ?_)
    refine lv_if_ne (tgt := 18) hx hb dX9_passOn_13 (by decide) (fun hc13 => ?_) (fun hc13 => ?_)
    · replace hf := mx_iff hc13 hf
      refine lv_aload_n hx hb dX9_passOn_18 rfl (lv_at hl 0 rfl) ?_
      refine lv_iload_n hx hb dX9_passOn_19 rfl (lv_at hl 1 rfl) ?_
      refine lv_iload_n hx hb dX9_passOn_20 rfl (lv_at hl 3 rfl) ?_
      obtain ⟨q21, hq21, hf⟩ := mx_bd hf
      refine mx_callV C hM hl.1 yo_X9_isBy (h' := 1) (by decide) qw_733 qw_735 qs_47 (ci := 9) (q := (RX9, TX9, 13)) rfl (xoS hT ho) (As := [.int i1, .int i3]) (rest := []) (st1 := [.int (mx_b q21)]) (kX9_isBy C.2.2.2.1 o i1 i3 hT ho M hq21) rfl rfl rfl (Nat.le_of_ble_eq_true rfl) dX9_passOn_21 (fun H locs hM => ?_)
      refine lv_if_ne (tgt := 29) hx hb dX9_passOn_24 (by decide) (fun hc24 => ?_) (fun hc24 => ?_)
      · replace hf := mx_iff hc24 hf
        refine lv_aload_n hx hb dX9_passOn_29 rfl (lv_at hl 0 rfl) ?_
        refine gX9_21 C hM (xoS hT ho) (f := (2, o + 4)) rfl (v := .ref (E.2.1.2.1 (o + 4))) rfl dX9_passOn_30 ?_
        refine lv_iload_n hx hb dX9_passOn_33 rfl (lv_at hl 2 rfl) ?_
        refine lv_iload_n hx hb dX9_passOn_34 rfl (lv_at hl 3 rfl) ?_
        obtain ⟨hg35, hf⟩ := mx_gd hf
        refine mx_iast C hM (xaS_4 hT ho) (mx_in_vp hg35) dX9_passOn_35 (fun H locs hM => ?_)
        refine lv_aload_n hx hb dX9_passOn_36 rfl (lv_at hl 0 rfl) ?_
        refine lv_dup hx hb dX9_passOn_37 rfl ?_
        refine gX9_61 C hM (xoS hT ho) (f := (0, 0)) rfl (v := .int ((mx_si M (o + 4) i2.toNatClampNeg i3).1 o 10)) rfl dX9_passOn_38 ?_
        refine lv_iconst (v := (1 : Int32)) hx hb dX9_passOn_41 (by decide) ?_
        refine lv_iadd hx hb dX9_passOn_42 ?_
        refine pX9_61 C hM (xoS hT ho) rfl rfl rfl dX9_passOn_43 (fun H locs hM => ?_)
        refine lv_iconst (v := (0 : Int32)) hx hb dX9_passOn_46 (by decide) ?_
        exact mx_iret C hM hf dX9_passOn_47
      · replace hf := mx_ift hc24 hf
        refine lv_iconst (v := (3 : Int32)) hx hb dX9_passOn_27 (by decide) ?_
        exact mx_iret C hM hf dX9_passOn_28
    · replace hf := mx_ift hc13 hf
      refine lv_iconst (v := (2 : Int32)) hx hb dX9_passOn_16 (by decide) ?_
      exact mx_iret C hM hf dX9_passOn_17
  · replace hf := mx_ift hc2 hf
    refine lv_iconst (v := (1 : Int32)) hx hb dX9_passOn_5 (by decide) ?_
    exact mx_iret C hM hf dX9_passOn_6
theorem dX9_wornBy_0 : decode cX9_wornBy 0 = .ok (.iconst 0, 1) := by decide +kernel
theorem dX9_wornBy_1 : decode cX9_wornBy 1 = .ok (.istore_n 2, 1) := by decide +kernel
theorem dX9_wornBy_2 : decode cX9_wornBy 2 = .ok (.iload_n 2, 1) := by decide +kernel
theorem dX9_wornBy_3 : decode cX9_wornBy 3 = .ok (.aload_n 0, 1) := by decide +kernel
theorem dX9_wornBy_4 : decode cX9_wornBy 4 = .ok (.getfield 36, 3) := by decide +kernel
theorem dX9_wornBy_7 : decode cX9_wornBy 7 = .ok (.getfield 52, 3) := by decide +kernel
theorem dX9_wornBy_10 : decode cX9_wornBy 10 = .ok (.if_icmp .ge 31, 3) := by decide +kernel
theorem dX9_wornBy_13 : decode cX9_wornBy 13 = .ok (.aload_n 0, 1) := by decide +kernel
theorem dX9_wornBy_14 : decode cX9_wornBy 14 = .ok (.getfield 24, 3) := by decide +kernel
theorem dX9_wornBy_17 : decode cX9_wornBy 17 = .ok (.iload_n 2, 1) := by decide +kernel
theorem dX9_wornBy_18 : decode cX9_wornBy 18 = .ok (.iaload, 1) := by decide +kernel
theorem dX9_wornBy_19 : decode cX9_wornBy 19 = .ok (.iconst 1, 1) := by decide +kernel
theorem dX9_wornBy_20 : decode cX9_wornBy 20 = .ok (.if_icmp .ne 15, 3) := by decide +kernel
theorem dX9_wornBy_23 : decode cX9_wornBy 23 = .ok (.aload_n 0, 1) := by decide +kernel
theorem dX9_wornBy_24 : decode cX9_wornBy 24 = .ok (.getfield 21, 3) := by decide +kernel
theorem dX9_wornBy_27 : decode cX9_wornBy 27 = .ok (.iload_n 2, 1) := by decide +kernel
theorem dX9_wornBy_28 : decode cX9_wornBy 28 = .ok (.iaload, 1) := by decide +kernel
theorem dX9_wornBy_29 : decode cX9_wornBy 29 = .ok (.iload_n 1, 1) := by decide +kernel
theorem dX9_wornBy_30 : decode cX9_wornBy 30 = .ok (.if_icmp .ne 5, 3) := by decide +kernel
theorem dX9_wornBy_33 : decode cX9_wornBy 33 = .ok (.iload_n 2, 1) := by decide +kernel
theorem dX9_wornBy_34 : decode cX9_wornBy 34 = .ok (.ireturn, 1) := by decide +kernel
theorem dX9_wornBy_35 : decode cX9_wornBy 35 = .ok (.iinc 2 1, 3) := by decide +kernel
theorem dX9_wornBy_38 : decode cX9_wornBy 38 = .ok (.goto (-36), 3) := by decide +kernel
theorem dX9_wornBy_41 : decode cX9_wornBy 41 = .ok (.iconst (-1), 1) := by decide +kernel
theorem dX9_wornBy_42 : decode cX9_wornBy 42 = .ok (.ireturn, 1) := by decide +kernel
set_option maxRecDepth 100000 in
set_option maxHeartbeats 4000000 in
theorem wfX9_wornBy_2 {E : KE} {p : Program} {l : Launch} {e : Env} {s : State} {m : MethodId} {args : Array Value} {below : List Frame} {meth : Method} {c : Code} {q : Int32} (C : mx_C E p m c cX9_wornBy 3 s args RX9 meth (some .int)) (o : Nat) (i1 : Int32) (M : MM) (hT : xOK E) (ho : xt_isS o = true)   : ∀ (n : Nat) (i2 : Int32) (H : Heap) (locs : List Loc) (ls : Array Slot), fX9_wornBy_2 o i1 M n i2 = some q → mx_H E s M H locs → lv_has ls 3 [(0, .ref (E.2.1.2.1 o)), (1, .int i1), (2, .int i2)] → W p l e (mx_rm 0) s m args below meth c H locs 0 0 (mx_Z E below args s (some (.int q)) M) (F0 m 2 ls []) := by
  have hx := C.1.1
  have hb := C.1.2.1
  have hown := C.1.2.2.2.1
  have hts := C.1.2.2.2.2
  intro n
  induction n with
  | zero =>
    intro i2 H locs ls hf hM hl
    rw [fX9_wornBy_2] at hf
    cases hf
  | succ n ih =>
    intro i2 H locs ls hf hM hl
    rw [fX9_wornBy_2] at hf
    refine lv_iload_n hx hb dX9_wornBy_2 rfl (lv_at hl 2 rfl) ?_
    refine lv_aload_n hx hb dX9_wornBy_3 rfl (lv_at hl 0 rfl) ?_
    refine gX9_36 C hM (xoS hT ho) (f := (2, 9)) rfl (v := .ref (E.2.1.2.1 9)) rfl dX9_wornBy_4 ?_
    refine gX9_52 C hT hM (xt_9 hT) (f := (0, 0)) rfl (v := .int (M.1 9 1)) rfl dX9_wornBy_7 ?_
    refine lv_icmp_ge (tgt := 41) hx hb dX9_wornBy_10 (by decide) (fun hc10 => ?_) (fun hc10 => ?_)
    · replace hf := mx_ift hc10 hf
      refine lv_iconst (v := (-1 : Int32)) hx hb dX9_wornBy_41 (by decide) ?_
      exact mx_iretR C hM hf dX9_wornBy_42
    · replace hf := mx_iff hc10 hf
      refine lv_aload_n hx hb dX9_wornBy_13 rfl (lv_at hl 0 rfl) ?_
      refine gX9_24 C hM (xoS hT ho) (f := (2, o + 5)) rfl (v := .ref (E.2.1.2.1 (o + 5))) rfl dX9_wornBy_14 ?_
      refine lv_iload_n hx hb dX9_wornBy_17 rfl (lv_at hl 2 rfl) ?_
      obtain ⟨hg18, hf⟩ := mx_gd hf
      refine mx_iald C hM (xaS_5 hT ho) (mx_in_vp hg18) dX9_wornBy_18 ?_
      refine lv_iconst (v := (1 : Int32)) hx hb dX9_wornBy_19 (by decide) ?_
      refine lv_icmp_ne (tgt := 35) hx hb dX9_wornBy_20 (by decide) (fun hc20 => ?_) (fun hc20 => ?_)
      · replace hf := mx_iff hc20 hf
        refine lv_iinc (v := (i2 + (1 : Int32))) (lv' := [(2, .int (i2 + (1 : Int32))), (0, .ref (E.2.1.2.1 o)), (1, .int i1)]) hx hb dX9_wornBy_35 hl (k := 2) rfl rfl (by decide) rfl (fun ls hl => ?_)
        refine lv_goto (tgt := 2) hx hb dX9_wornBy_38 (by decide) ?_
        exact ih (i2 + (1 : Int32)) _ _ _ hf hM (lv_sub hl [1, 2, 0] rfl)
      · replace hf := mx_ift hc20 hf
        refine lv_aload_n hx hb dX9_wornBy_23 rfl (lv_at hl 0 rfl) ?_
        refine gX9_21 C hM (xoS hT ho) (f := (2, o + 4)) rfl (v := .ref (E.2.1.2.1 (o + 4))) rfl dX9_wornBy_24 ?_
        refine lv_iload_n hx hb dX9_wornBy_27 rfl (lv_at hl 2 rfl) ?_
        obtain ⟨hg28, hf⟩ := mx_gd hf
        refine mx_iald C hM (xaS_4 hT ho) (mx_in_vp hg28) dX9_wornBy_28 ?_
        refine lv_iload_n hx hb dX9_wornBy_29 rfl (lv_at hl 1 rfl) ?_
        refine lv_icmp_ne (tgt := 35) hx hb dX9_wornBy_30 (by decide) (fun hc30 => ?_) (fun hc30 => ?_)
        · replace hf := mx_iff hc30 hf
          refine lv_iinc (v := (i2 + (1 : Int32))) (lv' := [(2, .int (i2 + (1 : Int32))), (0, .ref (E.2.1.2.1 o)), (1, .int i1)]) hx hb dX9_wornBy_35 hl (k := 2) rfl rfl (by decide) rfl (fun ls hl => ?_)
          refine lv_goto (tgt := 2) hx hb dX9_wornBy_38 (by decide) ?_
          exact ih (i2 + (1 : Int32)) _ _ _ hf hM (lv_sub hl [1, 2, 0] rfl)
        · replace hf := mx_ift hc30 hf
          refine lv_iload_n hx hb dX9_wornBy_33 rfl (lv_at hl 2 rfl) ?_
          exact mx_iretR C hM hf dX9_wornBy_34
set_option maxRecDepth 100000 in
set_option maxHeartbeats 4000000 in
theorem kX9_wornBy {E : KE} {l : Launch} (hE : mx_ok E) (o : Nat) (i1 : Int32) (hT : xOK E) (ho : xt_isS o = true) (M : MM) {q : Int32} (hf : fX9_wornBy o i1 M = some q) : mx_Met E l yX9_wornBy cX9_wornBy 3 (some .int) 0 [.ref (E.2.1.2.1 o), .int i1] M (some (.int q)) M := by
  refine mx_enter hE (by decide) (Nat.le_of_ble_eq_true rfl) ?_
  intro p e s m below meth c C hM hn ls hl
  have hx := C.1.1
  have hb := C.1.2.1
  have hown := C.1.2.2.2.1
  have hts := C.1.2.2.2.2
  have hl : lv_has ls 3 [(0, .ref (E.2.1.2.1 o)), (1, .int i1)] := hl
  rw [fX9_wornBy] at hf
  refine lv_iconst (v := (0 : Int32)) hx hb dX9_wornBy_0 (by decide) ?_
  refine lv_istore_n (lv' := [(2, .int (0 : Int32)), (0, .ref (E.2.1.2.1 o)), (1, .int i1)]) hx hb dX9_wornBy_1 rfl hl (by decide) rfl (fun ls hl => ?_)
  exact wfX9_wornBy_2 C o i1 M hT ho mx_fu (0 : Int32) _ _ _ hf hM (lv_sub hl [1, 2, 0] rfl)
