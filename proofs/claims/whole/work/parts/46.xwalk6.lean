theorem dX12_end_0 : decode cX12_end 0 = .ok (.aload_n 0, 1) := by decide +kernel
theorem dX12_end_1 : decode cX12_end 1 = .ok (.getfield 10, 3) := by decide +kernel
theorem dX12_end_4 : decode cX12_end 4 = .ok (.iload_n 1, 1) := by decide +kernel
theorem dX12_end_5 : decode cX12_end 5 = .ok (.invokevirtual 123, 3) := by decide +kernel
theorem dX12_end_8 : decode cX12_end 8 = .ok (.ireturn, 1) := by decide +kernel
set_option maxRecDepth 100000 in
set_option maxHeartbeats 4000000 in
theorem kX12_end {E : KE} {l : Launch} (hE : mx_ok E) (i1 : Int32) (hT : xOK E) (M : MM) {q : (Bool × MM)} (hf : fX12_end i1 M = some q) : mx_Met E l yX12_end cX12_end 2 (some .boolean) 1 [.ref (E.2.1.2.1 0), .int i1] M (some (.int (mx_b q.1))) q.2 := by
  refine mx_enter hE (by decide) (Nat.le_of_ble_eq_true rfl) ?_
  intro p e s m below meth c C hM hn ls hl
  have hx := C.1.1
  have hb := C.1.2.1
  have hown := C.1.2.2.2.1
  have hts := C.1.2.2.2.2
  have hl : lv_has ls 2 [(0, .ref (E.2.1.2.1 0)), (1, .int i1)] := hl
  rw [fX12_end] at hf
  refine lv_aload_n hx hb dX12_end_0 rfl (lv_at hl 0 rfl) ?_
  refine gX12_10 C hM (xt_0 hT) (f := (2, 1)) rfl (v := .ref (E.2.1.2.1 1)) rfl dX12_end_1 ?_
  refine lv_iload_n hx hb dX12_end_4 rfl (lv_at hl 1 rfl) ?_
  obtain ⟨q5, hq5, hf⟩ := mx_bd hf
  refine mx_callVN C hM hl.1 yo_X10_cut (h' := 0) (by decide) (nw_489 hT C) qw_491 qs_2 (ci := 10) (q := (RX10, TX10, 2)) rfl (xt_1 hT) (As := [.int i1]) (rest := []) (st1 := [.int (mx_b q5.1)]) (kX10_cut C.2.2.2.1 i1 hT M hq5) rfl rfl rfl (Nat.le_of_ble_eq_true rfl) dX12_end_5 (fun H locs hM => ?_)
  exact mx_zret C hM (b := q5.1) rfl hf dX12_end_8
theorem dX12_island_0 : decode cX12_island 0 = .ok (.aload_n 0, 1) := by decide +kernel
theorem dX12_island_1 : decode cX12_island 1 = .ok (.getfield 21, 3) := by decide +kernel
theorem dX12_island_4 : decode cX12_island 4 = .ok (.sipush 900, 3) := by decide +kernel
theorem dX12_island_7 : decode cX12_island 7 = .ok (.invokevirtual 127, 3) := by decide +kernel
theorem dX12_island_10 : decode cX12_island 10 = .ok (.aload_n 0, 1) := by decide +kernel
theorem dX12_island_11 : decode cX12_island 11 = .ok (.getfield 32, 3) := by decide +kernel
theorem dX12_island_14 : decode cX12_island 14 = .ok (.aload_n 0, 1) := by decide +kernel
theorem dX12_island_15 : decode cX12_island 15 = .ok (.getfield 21, 3) := by decide +kernel
theorem dX12_island_18 : decode cX12_island 18 = .ok (.invokevirtual 130, 3) := by decide +kernel
theorem dX12_island_21 : decode cX12_island 21 = .ok (.istore_n 1, 1) := by decide +kernel
theorem dX12_island_22 : decode cX12_island 22 = .ok (.aload_n 0, 1) := by decide +kernel
theorem dX12_island_23 : decode cX12_island 23 = .ok (.getfield 10, 3) := by decide +kernel
theorem dX12_island_26 : decode cX12_island 26 = .ok (.invokevirtual 134, 3) := by decide +kernel
theorem dX12_island_29 : decode cX12_island 29 = .ok (.aload_n 0, 1) := by decide +kernel
theorem dX12_island_30 : decode cX12_island 30 = .ok (.aload_n 0, 1) := by decide +kernel
theorem dX12_island_31 : decode cX12_island 31 = .ok (.getfield 21, 3) := by decide +kernel
theorem dX12_island_34 : decode cX12_island 34 = .ok (.getfield 137, 3) := by decide +kernel
theorem dX12_island_37 : decode cX12_island 37 = .ok (.putfield 140, 3) := by decide +kernel
theorem dX12_island_40 : decode cX12_island 40 = .ok (.iload_n 1, 1) := by decide +kernel
theorem dX12_island_41 : decode cX12_island 41 = .ok (.ifCond .ne 13, 3) := by decide +kernel
theorem dX12_island_44 : decode cX12_island 44 = .ok (.iconst (-1), 1) := by decide +kernel
theorem dX12_island_45 : decode cX12_island 45 = .ok (.aload_n 0, 1) := by decide +kernel
theorem dX12_island_46 : decode cX12_island 46 = .ok (.getfield 21, 3) := by decide +kernel
theorem dX12_island_49 : decode cX12_island 49 = .ok (.getfield 141, 3) := by decide +kernel
theorem dX12_island_52 : decode cX12_island 52 = .ok (.isub, 1) := by decide +kernel
theorem dX12_island_53 : decode cX12_island 53 = .ok (.ireturn, 1) := by decide +kernel
theorem dX12_island_54 : decode cX12_island 54 = .ok (.aload_n 0, 1) := by decide +kernel
theorem dX12_island_55 : decode cX12_island 55 = .ok (.getfield 28, 3) := by decide +kernel
theorem dX12_island_58 : decode cX12_island 58 = .ok (.aload_n 0, 1) := by decide +kernel
theorem dX12_island_59 : decode cX12_island 59 = .ok (.getfield 32, 3) := by decide +kernel
theorem dX12_island_62 : decode cX12_island 62 = .ok (.invokevirtual 144, 3) := by decide +kernel
theorem dX12_island_65 : decode cX12_island 65 = .ok (.aload_n 0, 1) := by decide +kernel
theorem dX12_island_66 : decode cX12_island 66 = .ok (.getfield 40, 3) := by decide +kernel
theorem dX12_island_69 : decode cX12_island 69 = .ok (.invokevirtual 147, 3) := by decide +kernel
theorem dX12_island_72 : decode cX12_island 72 = .ok (.aload_n 0, 1) := by decide +kernel
theorem dX12_island_73 : decode cX12_island 73 = .ok (.getfield 60, 3) := by decide +kernel
theorem dX12_island_76 : decode cX12_island 76 = .ok (.invokevirtual 150, 3) := by decide +kernel
theorem dX12_island_79 : decode cX12_island 79 = .ok (.aload_n 0, 1) := by decide +kernel
theorem dX12_island_80 : decode cX12_island 80 = .ok (.getfield 53, 3) := by decide +kernel
theorem dX12_island_83 : decode cX12_island 83 = .ok (.invokevirtual 151, 3) := by decide +kernel
theorem dX12_island_86 : decode cX12_island 86 = .ok (.aload_n 0, 1) := by decide +kernel
theorem dX12_island_87 : decode cX12_island 87 = .ok (.getfield 28, 3) := by decide +kernel
theorem dX12_island_90 : decode cX12_island 90 = .ok (.getfield 152, 3) := by decide +kernel
theorem dX12_island_93 : decode cX12_island 93 = .ok (.ireturn, 1) := by decide +kernel
set_option maxRecDepth 100000 in
set_option maxHeartbeats 4000000 in
theorem kX12_island {E : KE} {l : Launch} (hE : mx_ok E)  (hT : xOK E) (M : MM) {q : (Int32 × MM)} (hf : fX12_island M = some q) : mx_Met E l yX12_island cX12_island 2 (some .int) 6 [.ref (E.2.1.2.1 0)] M (some (.int q.1)) q.2 := by
  refine mx_enter hE (by decide) (Nat.le_of_ble_eq_true rfl) ?_
  intro p e s m below meth c C hM hn ls hl
  have hx := C.1.1
  have hb := C.1.2.1
  have hown := C.1.2.2.2.1
  have hts := C.1.2.2.2.2
  have hl : lv_has ls 2 [(0, .ref (E.2.1.2.1 0))] := hl
  rw [fX12_island] at hf
  refine lv_aload_n hx hb dX12_island_0 rfl (lv_at hl 0 rfl) ?_
  refine gX12_21 C hM (xt_0 hT) (f := (2, 3)) rfl (v := .ref (E.2.1.2.1 3)) rfl dX12_island_1 ?_
  refine lv_sipush (v := (900 : Int32)) hx hb dX12_island_4 (by decide) ?_
  obtain ⟨q7, hq7, hf⟩ := mx_bd hf
  refine mx_callVN C hM hl.1 yo_X7_open (h' := 3) (by decide) (nw_497 hT C) qw_499 qs_3 (ci := 7) (q := (RX7, TX7, 12)) rfl (xt_3 hT) (As := [.int (900 : Int32)]) (rest := []) (st1 := []) (kX7_open C.2.2.2.1 (900 : Int32) hT M hq7) rfl rfl rfl (Nat.le_of_ble_eq_true rfl) dX12_island_7 (fun H locs hM => ?_)
  refine lv_aload_n hx hb dX12_island_10 rfl (lv_at hl 0 rfl) ?_
  refine gX12_32 C hM (xt_0 hT) (f := (2, 19)) rfl (v := .ref (E.2.1.2.1 19)) rfl dX12_island_11 ?_
  refine lv_aload_n hx hb dX12_island_14 rfl (lv_at hl 0 rfl) ?_
  refine gX12_21 C hM (xt_0 hT) (f := (2, 3)) rfl (v := .ref (E.2.1.2.1 3)) rfl dX12_island_15 ?_
  obtain ⟨q18, hq18, hf⟩ := mx_bd hf
  refine mx_callVN C hM hl.1 yo_X3_readFrom (h' := 5) (by decide) (nw_529 hT C) qw_531 qs_7 (ci := 3) (q := (RX3, TX3, 18)) rfl (xt_19 hT) (As := [.ref (E.2.1.2.1 3)]) (rest := []) (st1 := [.int (mx_b q18.1)]) (kX3_readFrom C.2.2.2.1 hT q7 hq18) rfl rfl rfl (Nat.le_of_ble_eq_true rfl) dX12_island_18 (fun H locs hM => ?_)
  refine lv_istore_n (lv' := [(1, .int (mx_b q18.1)), (0, .ref (E.2.1.2.1 0))]) hx hb dX12_island_21 rfl hl (by decide) rfl (fun ls hl => ?_)
  refine lv_aload_n hx hb dX12_island_22 rfl (lv_at hl 1 rfl) ?_
  refine gX12_10 C hM (xt_0 hT) (f := (2, 1)) rfl (v := .ref (E.2.1.2.1 1)) rfl dX12_island_23 ?_
  obtain ⟨q26, hq26, hf⟩ := mx_bd hf
  refine mx_callVN C hM hl.1 yo_X10_clear (h' := 0) (by decide) (nw_622 hT C) qw_624 qs_27 (ci := 10) (q := (RX10, TX10, 2)) rfl (xt_1 hT) (As := []) (rest := []) (st1 := []) (kX10_clear C.2.2.2.1 hT q18.2 hq26) rfl rfl rfl (Nat.le_of_ble_eq_true rfl) dX12_island_26 (fun H locs hM => ?_)
  refine lv_aload_n hx hb dX12_island_29 rfl (lv_at hl 1 rfl) ?_
  refine lv_aload_n hx hb dX12_island_30 rfl (lv_at hl 1 rfl) ?_
  refine gX12_21 C hM (xt_0 hT) (f := (2, 3)) rfl (v := .ref (E.2.1.2.1 3)) rfl dX12_island_31 ?_
  refine gX12_137 C hT hM (xt_3 hT) (f := (0, 0)) rfl (v := .int (q26.1 3 10)) rfl dX12_island_34 ?_
  refine pX12_140 C hM (xt_0 hT) rfl rfl rfl dX12_island_37 (fun H locs hM => ?_)
  refine lv_iload_n hx hb dX12_island_40 rfl (lv_at hl 0 rfl) ?_
  refine lv_if_ne (tgt := 54) hx hb dX12_island_41 (by decide) (fun hc41 => ?_) (fun hc41 => ?_)
  · replace hf := mx_iff hc41 hf
    refine lv_aload_n hx hb dX12_island_54 rfl (lv_at hl 1 rfl) ?_
    refine gX12_28 C hM (xt_0 hT) (f := (2, 9)) rfl (v := .ref (E.2.1.2.1 9)) rfl dX12_island_55 ?_
    refine lv_aload_n hx hb dX12_island_58 rfl (lv_at hl 1 rfl) ?_
    refine gX12_32 C hM (xt_0 hT) (f := (2, 19)) rfl (v := .ref (E.2.1.2.1 19)) rfl dX12_island_59 ?_
    obtain ⟨q62, hq62, hf⟩ := mx_bd hf
    refine mx_callVN C hM hl.1 yo_X3_copyFrom (h' := 1) (by decide) (nw_626 hT C) qw_628 qs_28 (ci := 3) (q := (RX3, TX3, 18)) rfl (xt_9 hT) (As := [.ref (E.2.1.2.1 19)]) (rest := []) (st1 := []) (kX3_copyFrom C.2.2.2.1 9 19 hT xiI_9 xiI_19 (mx_si q26 0 18 (q26.1 3 10)) hq62) rfl rfl rfl (Nat.le_of_ble_eq_true rfl) dX12_island_62 (fun H locs hM => ?_)
    refine lv_aload_n hx hb dX12_island_65 rfl (lv_at hl 1 rfl) ?_
    refine gX12_40 C hM (xt_0 hT) (f := (2, 29)) rfl (v := .ref (E.2.1.2.1 29)) rfl dX12_island_66 ?_
    obtain ⟨q69, hq69, hf⟩ := mx_bd hf
    refine mx_callVN C hM hl.1 yo_X9_begin (h' := 1) (by decide) (nw_633 hT C) qw_635 qs_29 (ci := 9) (q := (RX9, TX9, 13)) rfl (xt_29 hT) (As := []) (rest := []) (st1 := []) (kX9_begin C.2.2.2.1 hT q62 hq69) rfl rfl rfl (Nat.le_of_ble_eq_true rfl) dX12_island_69 (fun H locs hM => ?_)
    refine lv_aload_n hx hb dX12_island_72 rfl (lv_at hl 1 rfl) ?_
    refine gX12_60 C hM (xt_0 hT) (f := (2, 130)) rfl (v := .ref (E.2.1.2.1 130)) rfl dX12_island_73 ?_
    obtain ⟨q76, hq76, hf⟩ := mx_bd hf
    refine mx_callVN C hM hl.1 yo_X8_clear (h' := 0) (by decide) (nw_641 hT C) qw_643 qs_31 (ci := 8) (q := (RX8, TX8, 5)) rfl (xt_130 hT) (As := []) (rest := []) (st1 := []) (kX8_clear C.2.2.2.1 130 hT xiN_130 q69 hq76) rfl rfl rfl (Nat.le_of_ble_eq_true rfl) dX12_island_76 (fun H locs hM => ?_)
    refine lv_aload_n hx hb dX12_island_79 rfl (lv_at hl 1 rfl) ?_
    refine gX12_53 C hM (xt_0 hT) (f := (2, 56)) rfl (v := .ref (E.2.1.2.1 56)) rfl dX12_island_80 ?_
    obtain ⟨q83, hq83, hf⟩ := mx_bd hf
    refine mx_callVN C hM hl.1 yo_X5_clear (h' := 0) (by decide) (nw_645 hT C) qw_647 qs_32 (ci := 5) (q := (RX5, TX5, 2)) rfl (xt_56 hT) (As := []) (rest := []) (st1 := []) (kX5_clear C.2.2.2.1 hT q76 hq83) rfl rfl rfl (Nat.le_of_ble_eq_true rfl) dX12_island_83 (fun H locs hM => ?_)
    refine lv_aload_n hx hb dX12_island_86 rfl (lv_at hl 1 rfl) ?_
    refine gX12_28 C hM (xt_0 hT) (f := (2, 9)) rfl (v := .ref (E.2.1.2.1 9)) rfl dX12_island_87 ?_
    refine gX12_152 C hT hM (xt_9 hT) (f := (0, 0)) rfl (v := .int (q83.1 9 14)) rfl dX12_island_90 ?_
    exact mx_iret C hM hf dX12_island_93
  · replace hf := mx_ift hc41 hf
    refine lv_iconst (v := (-1 : Int32)) hx hb dX12_island_44 (by decide) ?_
    refine lv_aload_n hx hb dX12_island_45 rfl (lv_at hl 1 rfl) ?_
    refine gX12_21 C hM (xt_0 hT) (f := (2, 3)) rfl (v := .ref (E.2.1.2.1 3)) rfl dX12_island_46 ?_
    refine gX12_141 C hT hM (xt_3 hT) (f := (0, 0)) rfl (v := .int ((mx_si q26 0 18 (q26.1 3 10)).1 3 11)) rfl dX12_island_49 ?_
    refine lv_isub hx hb dX12_island_52 ?_
    exact mx_iret C hM hf dX12_island_53
theorem dX12_fault_0 : decode cX12_fault 0 = .ok (.aload_n 0, 1) := by decide +kernel
theorem dX12_fault_1 : decode cX12_fault 1 = .ok (.getfield 140, 3) := by decide +kernel
theorem dX12_fault_4 : decode cX12_fault 4 = .ok (.ireturn, 1) := by decide +kernel
set_option maxRecDepth 100000 in
set_option maxHeartbeats 4000000 in
theorem kX12_fault {E : KE} {l : Launch} (hE : mx_ok E)  (hT : xOK E) (M : MM) {q : Int32} (hf : fX12_fault M = some q) : mx_Met E l yX12_fault cX12_fault 1 (some .int) 0 [.ref (E.2.1.2.1 0)] M (some (.int q)) M := by
  refine mx_enter hE (by decide) (Nat.le_of_ble_eq_true rfl) ?_
  intro p e s m below meth c C hM hn ls hl
  have hx := C.1.1
  have hb := C.1.2.1
  have hown := C.1.2.2.2.1
  have hts := C.1.2.2.2.2
  have hl : lv_has ls 1 [(0, .ref (E.2.1.2.1 0))] := hl
  rw [fX12_fault] at hf
  refine lv_aload_n hx hb dX12_fault_0 rfl (lv_at hl 0 rfl) ?_
  refine gX12_140 C hM (xt_0 hT) (f := (0, 0)) rfl (v := .int (M.1 0 18)) rfl dX12_fault_1 ?_
  exact mx_iretR C hM hf dX12_fault_4
theorem dX12_fits_0 : decode cX12_fits 0 = .ok (.aload_n 0, 1) := by decide +kernel
theorem dX12_fits_1 : decode cX12_fits 1 = .ok (.getfield 28, 3) := by decide +kernel
theorem dX12_fits_4 : decode cX12_fits 4 = .ok (.iload_n 1, 1) := by decide +kernel
theorem dX12_fits_5 : decode cX12_fits 5 = .ok (.invokevirtual 183, 3) := by decide +kernel
theorem dX12_fits_8 : decode cX12_fits 8 = .ok (.ifCond .eq 14, 3) := by decide +kernel
theorem dX12_fits_11 : decode cX12_fits 11 = .ok (.aload_n 0, 1) := by decide +kernel
theorem dX12_fits_12 : decode cX12_fits 12 = .ok (.getfield 28, 3) := by decide +kernel
theorem dX12_fits_15 : decode cX12_fits 15 = .ok (.iload_n 2, 1) := by decide +kernel
theorem dX12_fits_16 : decode cX12_fits 16 = .ok (.invokevirtual 154, 3) := by decide +kernel
theorem dX12_fits_19 : decode cX12_fits 19 = .ok (.ifCond .ne 5, 3) := by decide +kernel
theorem dX12_fits_22 : decode cX12_fits 22 = .ok (.iconst (-1), 1) := by decide +kernel
theorem dX12_fits_23 : decode cX12_fits 23 = .ok (.ireturn, 1) := by decide +kernel
theorem dX12_fits_24 : decode cX12_fits 24 = .ok (.aload_n 0, 1) := by decide +kernel
theorem dX12_fits_25 : decode cX12_fits 25 = .ok (.getfield 28, 3) := by decide +kernel
theorem dX12_fits_28 : decode cX12_fits 28 = .ok (.aload_n 0, 1) := by decide +kernel
theorem dX12_fits_29 : decode cX12_fits 29 = .ok (.getfield 28, 3) := by decide +kernel
theorem dX12_fits_32 : decode cX12_fits 32 = .ok (.getfield 186, 3) := by decide +kernel
theorem dX12_fits_35 : decode cX12_fits 35 = .ok (.iload_n 1, 1) := by decide +kernel
theorem dX12_fits_36 : decode cX12_fits 36 = .ok (.iaload, 1) := by decide +kernel
theorem dX12_fits_37 : decode cX12_fits 37 = .ok (.iload_n 2, 1) := by decide +kernel
theorem dX12_fits_38 : decode cX12_fits 38 = .ok (.invokevirtual 210, 3) := by decide +kernel
theorem dX12_fits_41 : decode cX12_fits 41 = .ok (.ireturn, 1) := by decide +kernel
set_option maxRecDepth 100000 in
set_option maxHeartbeats 4000000 in
theorem kX12_fits {E : KE} {l : Launch} (hE : mx_ok E) (i1 : Int32) (i2 : Int32) (hT : xOK E) (M : MM) {q : Int32} (hf : fX12_fits i1 i2 M = some q) : mx_Met E l yX12_fits cX12_fits 3 (some .int) 1 [.ref (E.2.1.2.1 0), .int i1, .int i2] M (some (.int q)) M := by
  refine mx_enter hE (by decide) (Nat.le_of_ble_eq_true rfl) ?_
  intro p e s m below meth c C hM hn ls hl
  have hx := C.1.1
  have hb := C.1.2.1
  have hown := C.1.2.2.2.1
  have hts := C.1.2.2.2.2
  have hl : lv_has ls 3 [(0, .ref (E.2.1.2.1 0)), (1, .int i1), (2, .int i2)] := hl
  rw [fX12_fits] at hf
  refine lv_aload_n hx hb dX12_fits_0 rfl (lv_at hl 0 rfl) ?_
  refine gX12_28 C hM (xt_0 hT) (f := (2, 9)) rfl (v := .ref (E.2.1.2.1 9)) rfl dX12_fits_1 ?_
  refine lv_iload_n hx hb dX12_fits_4 rfl (lv_at hl 1 rfl) ?_
  obtain ⟨q5, hq5, hf⟩ := mx_bd hf
  refine mx_callVN C hM hl.1 yo_X3_isRing (h' := 0) (by decide) (nw_657 hT C) qw_659 qs_33 (ci := 3) (q := (RX3, TX3, 18)) rfl (xt_9 hT) (As := [.int i1]) (rest := []) (st1 := [.int (mx_b q5)]) (kX3_isRing C.2.2.2.1 i1 hT M hq5) rfl rfl rfl (Nat.le_of_ble_eq_true rfl) dX12_fits_5 (fun H locs hM => ?_)
  refine lv_if_eq (tgt := 22) hx hb dX12_fits_8 (by decide) (fun hc8 => ?_) (fun hc8 => ?_)
  · replace hf := mx_ift hc8 hf
    refine lv_iconst (v := (-1 : Int32)) hx hb dX12_fits_22 (by decide) ?_
    exact mx_iretR C hM hf dX12_fits_23
  · replace hf := mx_iff hc8 hf
    refine lv_aload_n hx hb dX12_fits_11 rfl (lv_at hl 0 rfl) ?_
    refine gX12_28 C hM (xt_0 hT) (f := (2, 9)) rfl (v := .ref (E.2.1.2.1 9)) rfl dX12_fits_12 ?_
    refine lv_iload_n hx hb dX12_fits_15 rfl (lv_at hl 2 rfl) ?_
    obtain ⟨q16, hq16, hf⟩ := mx_bd hf
    refine mx_callVN C hM hl.1 yo_X3_isPerson (h' := 0) (by decide) (nw_661 hT C) qw_663 qs_34 (ci := 3) (q := (RX3, TX3, 18)) rfl (xt_9 hT) (As := [.int i2]) (rest := []) (st1 := [.int (mx_b q16)]) (kX3_isPerson C.2.2.2.1 i2 hT M hq16) rfl rfl rfl (Nat.le_of_ble_eq_true rfl) dX12_fits_16 (fun H locs hM => ?_)
    refine lv_if_ne (tgt := 24) hx hb dX12_fits_19 (by decide) (fun hc19 => ?_) (fun hc19 => ?_)
    · replace hf := mx_iff hc19 hf
      refine lv_aload_n hx hb dX12_fits_24 rfl (lv_at hl 0 rfl) ?_
      refine gX12_28 C hM (xt_0 hT) (f := (2, 9)) rfl (v := .ref (E.2.1.2.1 9)) rfl dX12_fits_25 ?_
      refine lv_aload_n hx hb dX12_fits_28 rfl (lv_at hl 0 rfl) ?_
      refine gX12_28 C hM (xt_0 hT) (f := (2, 9)) rfl (v := .ref (E.2.1.2.1 9)) rfl dX12_fits_29 ?_
      refine gX12_186 C hT hM (xt_9 hT) (f := (2, 15)) rfl (v := .ref (E.2.1.2.1 15)) rfl dX12_fits_32 ?_
      refine lv_iload_n hx hb dX12_fits_35 rfl (lv_at hl 1 rfl) ?_
      obtain ⟨hg36, hf⟩ := mx_gd hf
      refine mx_iald C hM (xt_15 hT) (mx_in_vp hg36) dX12_fits_36 ?_
      refine lv_iload_n hx hb dX12_fits_37 rfl (lv_at hl 2 rfl) ?_
      obtain ⟨q38, hq38, hf⟩ := mx_bd hf
      refine mx_callVN C hM hl.1 yo_X3_feel (h' := 0) (by decide) (nw_665 hT C) qw_667 qs_35 (ci := 3) (q := (RX3, TX3, 18)) rfl (xt_9 hT) (As := [.int (M.1 15 i1.toNatClampNeg), .int i2]) (rest := []) (st1 := [.int q38]) (kX3_feel C.2.2.2.1 (M.1 15 i1.toNatClampNeg) i2 hT M hq38) rfl rfl rfl (Nat.le_of_ble_eq_true rfl) dX12_fits_38 (fun H locs hM => ?_)
      exact mx_iretR C hM hf dX12_fits_41
    · replace hf := mx_ift hc19 hf
      refine lv_iconst (v := (-1 : Int32)) hx hb dX12_fits_22 (by decide) ?_
      exact mx_iretR C hM hf dX12_fits_23
theorem dX12_now_0 : decode cX12_now 0 = .ok (.iload_n 1, 1) := by decide +kernel
theorem dX12_now_1 : decode cX12_now 1 = .ok (.tableswitch 103 0 6 #[43, 51, 60, 69, 78, 87, 95], 43) := by decide +kernel
theorem dX12_now_44 : decode cX12_now 44 = .ok (.aload_n 0, 1) := by decide +kernel
theorem dX12_now_45 : decode cX12_now 45 = .ok (.getfield 40, 3) := by decide +kernel
theorem dX12_now_48 : decode cX12_now 48 = .ok (.getfield 214, 3) := by decide +kernel
theorem dX12_now_51 : decode cX12_now 51 = .ok (.ireturn, 1) := by decide +kernel
theorem dX12_now_52 : decode cX12_now 52 = .ok (.aload_n 0, 1) := by decide +kernel
theorem dX12_now_53 : decode cX12_now 53 = .ok (.getfield 40, 3) := by decide +kernel
theorem dX12_now_56 : decode cX12_now 56 = .ok (.iconst 1, 1) := by decide +kernel
theorem dX12_now_57 : decode cX12_now 57 = .ok (.invokevirtual 217, 3) := by decide +kernel
theorem dX12_now_60 : decode cX12_now 60 = .ok (.ireturn, 1) := by decide +kernel
theorem dX12_now_61 : decode cX12_now 61 = .ok (.aload_n 0, 1) := by decide +kernel
theorem dX12_now_62 : decode cX12_now 62 = .ok (.getfield 40, 3) := by decide +kernel
theorem dX12_now_65 : decode cX12_now 65 = .ok (.iconst 2, 1) := by decide +kernel
theorem dX12_now_66 : decode cX12_now 66 = .ok (.invokevirtual 217, 3) := by decide +kernel
theorem dX12_now_69 : decode cX12_now 69 = .ok (.ireturn, 1) := by decide +kernel
theorem dX12_now_70 : decode cX12_now 70 = .ok (.aload_n 0, 1) := by decide +kernel
theorem dX12_now_71 : decode cX12_now 71 = .ok (.getfield 40, 3) := by decide +kernel
theorem dX12_now_74 : decode cX12_now 74 = .ok (.iconst 1, 1) := by decide +kernel
theorem dX12_now_75 : decode cX12_now 75 = .ok (.invokevirtual 220, 3) := by decide +kernel
theorem dX12_now_78 : decode cX12_now 78 = .ok (.ireturn, 1) := by decide +kernel
theorem dX12_now_79 : decode cX12_now 79 = .ok (.aload_n 0, 1) := by decide +kernel
theorem dX12_now_80 : decode cX12_now 80 = .ok (.getfield 40, 3) := by decide +kernel
theorem dX12_now_83 : decode cX12_now 83 = .ok (.iconst 2, 1) := by decide +kernel
theorem dX12_now_84 : decode cX12_now 84 = .ok (.invokevirtual 220, 3) := by decide +kernel
theorem dX12_now_87 : decode cX12_now 87 = .ok (.ireturn, 1) := by decide +kernel
theorem dX12_now_88 : decode cX12_now 88 = .ok (.aload_n 0, 1) := by decide +kernel
theorem dX12_now_89 : decode cX12_now 89 = .ok (.getfield 40, 3) := by decide +kernel
theorem dX12_now_92 : decode cX12_now 92 = .ok (.getfield 223, 3) := by decide +kernel
theorem dX12_now_95 : decode cX12_now 95 = .ok (.ireturn, 1) := by decide +kernel
theorem dX12_now_96 : decode cX12_now 96 = .ok (.aload_n 0, 1) := by decide +kernel
theorem dX12_now_97 : decode cX12_now 97 = .ok (.getfield 40, 3) := by decide +kernel
theorem dX12_now_100 : decode cX12_now 100 = .ok (.getfield 226, 3) := by decide +kernel
theorem dX12_now_103 : decode cX12_now 103 = .ok (.ireturn, 1) := by decide +kernel
theorem dX12_now_104 : decode cX12_now 104 = .ok (.iconst (-1), 1) := by decide +kernel
theorem dX12_now_105 : decode cX12_now 105 = .ok (.ireturn, 1) := by decide +kernel
set_option maxRecDepth 100000 in
set_option maxHeartbeats 4000000 in
theorem kX12_now {E : KE} {l : Launch} (hE : mx_ok E) (i1 : Int32) (hT : xOK E) (M : MM) {q : Int32} (hf : fX12_now i1 M = some q) : mx_Met E l yX12_now cX12_now 2 (some .int) 2 [.ref (E.2.1.2.1 0), .int i1] M (some (.int q)) M := by
  refine mx_enter hE (by decide) (Nat.le_of_ble_eq_true rfl) ?_
  intro p e s m below meth c C hM hn ls hl
  have hx := C.1.1
  have hb := C.1.2.1
  have hown := C.1.2.2.2.1
  have hts := C.1.2.2.2.2
  have hl : lv_has ls 2 [(0, .ref (E.2.1.2.1 0)), (1, .int i1)] := hl
  rw [fX12_now] at hf
  refine lv_iload_n hx hb dX12_now_0 rfl (lv_at hl 1 rfl) ?_
  by_cases hs0 : i1 = 0
  · replace hf := mx_ift hs0 hf
    refine lv_tableIn (tgt := 44) hx hb dX12_now_1 (by rw [hs0]; decide) (by rw [hs0]; decide) (by rw [hs0]; rfl) (by decide) ?_
    refine lv_aload_n hx hb dX12_now_44 rfl (lv_at hl 0 rfl) ?_
    refine gX12_40 C hM (xt_0 hT) (f := (2, 29)) rfl (v := .ref (E.2.1.2.1 29)) rfl dX12_now_45 ?_
    refine gX12_214 C hT hM (xt_29 hT) (f := (0, 0)) rfl (v := .int (M.1 29 9)) rfl dX12_now_48 ?_
    exact mx_iretR C hM hf dX12_now_51
  replace hf := mx_iff hs0 hf
  by_cases hs1 : i1 = 1
  · replace hf := mx_ift hs1 hf
    refine lv_tableIn (tgt := 52) hx hb dX12_now_1 (by rw [hs1]; decide) (by rw [hs1]; decide) (by rw [hs1]; rfl) (by decide) ?_
    refine lv_aload_n hx hb dX12_now_52 rfl (lv_at hl 0 rfl) ?_
    refine gX12_40 C hM (xt_0 hT) (f := (2, 29)) rfl (v := .ref (E.2.1.2.1 29)) rfl dX12_now_53 ?_
    refine lv_iconst (v := (1 : Int32)) hx hb dX12_now_56 (by decide) ?_
    obtain ⟨q57, hq57, hf⟩ := mx_bd hf
    refine mx_callVN C hM hl.1 yo_X9_ringsThatAre (h' := 1) (by decide) (nw_673 hT C) qw_675 qs_36 (ci := 9) (q := (RX9, TX9, 13)) rfl (xt_29 hT) (As := [.int (1 : Int32)]) (rest := []) (st1 := [.int q57]) (kX9_ringsThatAre C.2.2.2.1 29 (1 : Int32) hT xiS_29 M hq57) rfl rfl rfl (Nat.le_of_ble_eq_true rfl) dX12_now_57 (fun H locs hM => ?_)
    exact mx_iretR C hM hf dX12_now_60
  replace hf := mx_iff hs1 hf
  by_cases hs2 : i1 = 2
  · replace hf := mx_ift hs2 hf
    refine lv_tableIn (tgt := 61) hx hb dX12_now_1 (by rw [hs2]; decide) (by rw [hs2]; decide) (by rw [hs2]; rfl) (by decide) ?_
    refine lv_aload_n hx hb dX12_now_61 rfl (lv_at hl 0 rfl) ?_
    refine gX12_40 C hM (xt_0 hT) (f := (2, 29)) rfl (v := .ref (E.2.1.2.1 29)) rfl dX12_now_62 ?_
    refine lv_iconst (v := (2 : Int32)) hx hb dX12_now_65 (by decide) ?_
    obtain ⟨q66, hq66, hf⟩ := mx_bd hf
    refine mx_callVN C hM hl.1 yo_X9_ringsThatAre (h' := 1) (by decide) (nw_673 hT C) qw_675 qs_36 (ci := 9) (q := (RX9, TX9, 13)) rfl (xt_29 hT) (As := [.int (2 : Int32)]) (rest := []) (st1 := [.int q66]) (kX9_ringsThatAre C.2.2.2.1 29 (2 : Int32) hT xiS_29 M hq66) rfl rfl rfl (Nat.le_of_ble_eq_true rfl) dX12_now_66 (fun H locs hM => ?_)
    exact mx_iretR C hM hf dX12_now_69
  replace hf := mx_iff hs2 hf
  by_cases hs3 : i1 = 3
  · replace hf := mx_ift hs3 hf
    refine lv_tableIn (tgt := 70) hx hb dX12_now_1 (by rw [hs3]; decide) (by rw [hs3]; decide) (by rw [hs3]; rfl) (by decide) ?_
    refine lv_aload_n hx hb dX12_now_70 rfl (lv_at hl 0 rfl) ?_
    refine gX12_40 C hM (xt_0 hT) (f := (2, 29)) rfl (v := .ref (E.2.1.2.1 29)) rfl dX12_now_71 ?_
    refine lv_iconst (v := (1 : Int32)) hx hb dX12_now_74 (by decide) ?_
    obtain ⟨q75, hq75, hf⟩ := mx_bd hf
    refine mx_callVN C hM hl.1 yo_X9_ringsThatWere (h' := 1) (by decide) (nw_681 hT C) qw_683 qs_38 (ci := 9) (q := (RX9, TX9, 13)) rfl (xt_29 hT) (As := [.int (1 : Int32)]) (rest := []) (st1 := [.int q75]) (kX9_ringsThatWere C.2.2.2.1 29 (1 : Int32) hT xiS_29 M hq75) rfl rfl rfl (Nat.le_of_ble_eq_true rfl) dX12_now_75 (fun H locs hM => ?_)
    exact mx_iretR C hM hf dX12_now_78
  replace hf := mx_iff hs3 hf
  by_cases hs4 : i1 = 4
  · replace hf := mx_ift hs4 hf
    refine lv_tableIn (tgt := 79) hx hb dX12_now_1 (by rw [hs4]; decide) (by rw [hs4]; decide) (by rw [hs4]; rfl) (by decide) ?_
    refine lv_aload_n hx hb dX12_now_79 rfl (lv_at hl 0 rfl) ?_
    refine gX12_40 C hM (xt_0 hT) (f := (2, 29)) rfl (v := .ref (E.2.1.2.1 29)) rfl dX12_now_80 ?_
    refine lv_iconst (v := (2 : Int32)) hx hb dX12_now_83 (by decide) ?_
    obtain ⟨q84, hq84, hf⟩ := mx_bd hf
    refine mx_callVN C hM hl.1 yo_X9_ringsThatWere (h' := 1) (by decide) (nw_681 hT C) qw_683 qs_38 (ci := 9) (q := (RX9, TX9, 13)) rfl (xt_29 hT) (As := [.int (2 : Int32)]) (rest := []) (st1 := [.int q84]) (kX9_ringsThatWere C.2.2.2.1 29 (2 : Int32) hT xiS_29 M hq84) rfl rfl rfl (Nat.le_of_ble_eq_true rfl) dX12_now_84 (fun H locs hM => ?_)
    exact mx_iretR C hM hf dX12_now_87
  replace hf := mx_iff hs4 hf
  by_cases hs5 : i1 = 5
  · replace hf := mx_ift hs5 hf
    refine lv_tableIn (tgt := 88) hx hb dX12_now_1 (by rw [hs5]; decide) (by rw [hs5]; decide) (by rw [hs5]; rfl) (by decide) ?_
    refine lv_aload_n hx hb dX12_now_88 rfl (lv_at hl 0 rfl) ?_
    refine gX12_40 C hM (xt_0 hT) (f := (2, 29)) rfl (v := .ref (E.2.1.2.1 29)) rfl dX12_now_89 ?_
    refine gX12_223 C hT hM (xt_29 hT) (f := (0, 0)) rfl (v := .int (M.1 29 10)) rfl dX12_now_92 ?_
    exact mx_iretR C hM hf dX12_now_95
  replace hf := mx_iff hs5 hf
  by_cases hs6 : i1 = 6
  · replace hf := mx_ift hs6 hf
    refine lv_tableIn (tgt := 96) hx hb dX12_now_1 (by rw [hs6]; decide) (by rw [hs6]; decide) (by rw [hs6]; rfl) (by decide) ?_
    refine lv_aload_n hx hb dX12_now_96 rfl (lv_at hl 0 rfl) ?_
    refine gX12_40 C hM (xt_0 hT) (f := (2, 29)) rfl (v := .ref (E.2.1.2.1 29)) rfl dX12_now_97 ?_
    refine gX12_226 C hT hM (xt_29 hT) (f := (0, 0)) rfl (v := .int (M.1 29 11)) rfl dX12_now_100 ?_
    exact mx_iretR C hM hf dX12_now_103
  replace hf := mx_iff hs6 hf
  refine lv_tableOut (tgt := 104) hx hb dX12_now_1 (by have hh := And.intro trivial trivial; have hh0 := lv_neT hs0 (by decide : (0 : Int32).toInt = 0); have hh1 := lv_neT hs1 (by decide : (1 : Int32).toInt = 1); have hh2 := lv_neT hs2 (by decide : (2 : Int32).toInt = 2); have hh3 := lv_neT hs3 (by decide : (3 : Int32).toInt = 3); have hh4 := lv_neT hs4 (by decide : (4 : Int32).toInt = 4); have hh5 := lv_neT hs5 (by decide : (5 : Int32).toInt = 5); have hh6 := lv_neT hs6 (by decide : (6 : Int32).toInt = 6); omega) (by decide) ?_
  refine lv_iconst (v := (-1 : Int32)) hx hb dX12_now_104 (by decide) ?_
  exact mx_iretR C hM hf dX12_now_105
theorem dX12_isPlace_0 : decode cX12_isPlace 0 = .ok (.iload_n 0, 1) := by decide +kernel
theorem dX12_isPlace_1 : decode cX12_isPlace 1 = .ok (.ifCond .lt 23, 3) := by decide +kernel
theorem dX12_isPlace_4 : decode cX12_isPlace 4 = .ok (.iload_n 0, 1) := by decide +kernel
theorem dX12_isPlace_5 : decode cX12_isPlace 5 = .ok (.bipush 20, 2) := by decide +kernel
theorem dX12_isPlace_7 : decode cX12_isPlace 7 = .ok (.if_icmp .gt 17, 3) := by decide +kernel
theorem dX12_isPlace_10 : decode cX12_isPlace 10 = .ok (.iload_n 1, 1) := by decide +kernel
theorem dX12_isPlace_11 : decode cX12_isPlace 11 = .ok (.ifCond .lt 13, 3) := by decide +kernel
theorem dX12_isPlace_14 : decode cX12_isPlace 14 = .ok (.iload_n 1, 1) := by decide +kernel
theorem dX12_isPlace_15 : decode cX12_isPlace 15 = .ok (.bipush 20, 2) := by decide +kernel
theorem dX12_isPlace_17 : decode cX12_isPlace 17 = .ok (.if_icmp .gt 7, 3) := by decide +kernel
theorem dX12_isPlace_20 : decode cX12_isPlace 20 = .ok (.iconst 1, 1) := by decide +kernel
theorem dX12_isPlace_21 : decode cX12_isPlace 21 = .ok (.goto 4, 3) := by decide +kernel
theorem dX12_isPlace_24 : decode cX12_isPlace 24 = .ok (.iconst 0, 1) := by decide +kernel
theorem dX12_isPlace_25 : decode cX12_isPlace 25 = .ok (.ireturn, 1) := by decide +kernel
set_option maxRecDepth 100000 in
set_option maxHeartbeats 4000000 in
theorem kX12_isPlace {E : KE} {l : Launch} (hE : mx_ok E) (i0 : Int32) (i1 : Int32) (hT : xOK E) (M : MM) {q : Bool} (hf : fX12_isPlace i0 i1 M = some q) : mx_Met E l yX12_isPlace cX12_isPlace 2 (some .boolean) 0 [.int i0, .int i1] M (some (.int (mx_b q))) M := by
  refine mx_enter hE (by decide) (Nat.le_of_ble_eq_true rfl) ?_
  intro p e s m below meth c C hM hn ls hl
  have hx := C.1.1
  have hb := C.1.2.1
  have hown := C.1.2.2.2.1
  have hts := C.1.2.2.2.2
  have hl : lv_has ls 2 [(0, .int i0), (1, .int i1)] := hl
  rw [fX12_isPlace] at hf
  refine lv_iload_n hx hb dX12_isPlace_0 rfl (lv_at hl 0 rfl) ?_
  refine lv_if_lt (tgt := 24) hx hb dX12_isPlace_1 (by decide) (fun hc1 => ?_) (fun hc1 => ?_)
  · replace hf := mx_ift hc1 hf
    refine lv_iconst (v := (0 : Int32)) hx hb dX12_isPlace_24 (by decide) ?_
    exact mx_zretR C hM (b := false) rfl hf dX12_isPlace_25
  · replace hf := mx_iff hc1 hf
    refine lv_iload_n hx hb dX12_isPlace_4 rfl (lv_at hl 0 rfl) ?_
    refine lv_bipush (v := (20 : Int32)) hx hb dX12_isPlace_5 (by decide) ?_
    refine lv_icmp_gt (tgt := 24) hx hb dX12_isPlace_7 (by decide) (fun hc7 => ?_) (fun hc7 => ?_)
    · replace hf := mx_ift hc7 hf
      refine lv_iconst (v := (0 : Int32)) hx hb dX12_isPlace_24 (by decide) ?_
      exact mx_zretR C hM (b := false) rfl hf dX12_isPlace_25
    · replace hf := mx_iff hc7 hf
      refine lv_iload_n hx hb dX12_isPlace_10 rfl (lv_at hl 1 rfl) ?_
      refine lv_if_lt (tgt := 24) hx hb dX12_isPlace_11 (by decide) (fun hc11 => ?_) (fun hc11 => ?_)
      · replace hf := mx_ift hc11 hf
        refine lv_iconst (v := (0 : Int32)) hx hb dX12_isPlace_24 (by decide) ?_
        exact mx_zretR C hM (b := false) rfl hf dX12_isPlace_25
      · replace hf := mx_iff hc11 hf
        refine lv_iload_n hx hb dX12_isPlace_14 rfl (lv_at hl 1 rfl) ?_
        refine lv_bipush (v := (20 : Int32)) hx hb dX12_isPlace_15 (by decide) ?_
        refine lv_icmp_gt (tgt := 24) hx hb dX12_isPlace_17 (by decide) (fun hc17 => ?_) (fun hc17 => ?_)
        · replace hf := mx_ift hc17 hf
          refine lv_iconst (v := (0 : Int32)) hx hb dX12_isPlace_24 (by decide) ?_
          exact mx_zretR C hM (b := false) rfl hf dX12_isPlace_25
        · replace hf := mx_iff hc17 hf
          refine lv_iconst (v := (1 : Int32)) hx hb dX12_isPlace_20 (by decide) ?_
          refine lv_goto (tgt := 25) hx hb dX12_isPlace_21 (by decide) ?_
          exact mx_zretR C hM (b := true) rfl hf dX12_isPlace_25
theorem dX12_keptIfDone_0 : decode cX12_keptIfDone 0 = .ok (.iload_n 1, 1) := by decide +kernel
theorem dX12_keptIfDone_1 : decode cX12_keptIfDone 1 = .ok (.ifCond .ne 14, 3) := by decide +kernel
theorem dX12_keptIfDone_4 : decode cX12_keptIfDone 4 = .ok (.aload_n 0, 1) := by decide +kernel
theorem dX12_keptIfDone_5 : decode cX12_keptIfDone 5 = .ok (.getfield 53, 3) := by decide +kernel
theorem dX12_keptIfDone_8 : decode cX12_keptIfDone 8 = .ok (.aload_n 0, 1) := by decide +kernel
theorem dX12_keptIfDone_9 : decode cX12_keptIfDone 9 = .ok (.getfield 44, 3) := by decide +kernel
theorem dX12_keptIfDone_12 : decode cX12_keptIfDone 12 = .ok (.invokevirtual 342, 3) := by decide +kernel
theorem dX12_keptIfDone_15 : decode cX12_keptIfDone 15 = .ok (.iload_n 1, 1) := by decide +kernel
theorem dX12_keptIfDone_16 : decode cX12_keptIfDone 16 = .ok (.ireturn, 1) := by decide +kernel
set_option maxRecDepth 100000 in
set_option maxHeartbeats 4000000 in
theorem kX12_keptIfDone {E : KE} {l : Launch} (hE : mx_ok E) (i1 : Int32) (hT : xOK E) (M : MM) {q : (Int32 × MM)} (hf : fX12_keptIfDone i1 M = some q) : mx_Met E l yX12_keptIfDone cX12_keptIfDone 2 (some .int) 3 [.ref (E.2.1.2.1 0), .int i1] M (some (.int q.1)) q.2 := by
  refine mx_enter hE (by decide) (Nat.le_of_ble_eq_true rfl) ?_
  intro p e s m below meth c C hM hn ls hl
  have hx := C.1.1
  have hb := C.1.2.1
  have hown := C.1.2.2.2.1
  have hts := C.1.2.2.2.2
  have hl : lv_has ls 2 [(0, .ref (E.2.1.2.1 0)), (1, .int i1)] := hl
  rw [fX12_keptIfDone] at hf
  refine lv_iload_n hx hb dX12_keptIfDone_0 rfl (lv_at hl 1 rfl) ?_
  refine lv_if_ne (tgt := 15) hx hb dX12_keptIfDone_1 (by decide) (fun hc1 => ?_) (fun hc1 => ?_)
  · replace hf := mx_iff hc1 hf
    refine lv_iload_n hx hb dX12_keptIfDone_15 rfl (lv_at hl 1 rfl) ?_
    exact mx_iret C hM hf dX12_keptIfDone_16
  · replace hf := mx_ift hc1 hf
    refine lv_aload_n hx hb dX12_keptIfDone_4 rfl (lv_at hl 0 rfl) ?_
    refine gX12_53 C hM (xt_0 hT) (f := (2, 56)) rfl (v := .ref (E.2.1.2.1 56)) rfl dX12_keptIfDone_5 ?_
    refine lv_aload_n hx hb dX12_keptIfDone_8 rfl (lv_at hl 0 rfl) ?_
    refine gX12_44 C hM (xt_0 hT) (f := (2, 38)) rfl (v := .ref (E.2.1.2.1 38)) rfl dX12_keptIfDone_9 ?_
    obtain ⟨q12, hq12, hf⟩ := mx_bd hf
    refine mx_callVN C hM hl.1 yo_X5_push (h' := 2) (by decide) (nw_712 hT C) qw_714 qs_43 (ci := 5) (q := (RX5, TX5, 2)) rfl (xt_56 hT) (As := [.ref (E.2.1.2.1 38)]) (rest := []) (st1 := []) (kX5_push C.2.2.2.1 38 hT xiS_38 M hq12) rfl rfl rfl (Nat.le_of_ble_eq_true rfl) dX12_keptIfDone_12 (fun H locs hM => ?_)
    refine lv_iload_n hx hb dX12_keptIfDone_15 rfl (lv_at hl 1 rfl) ?_
    exact mx_iret C hM hf dX12_keptIfDone_16
theorem dX12_go_0 : decode cX12_go 0 = .ok (.aload_n 0, 1) := by decide +kernel
theorem dX12_go_1 : decode cX12_go 1 = .ok (.getfield 28, 3) := by decide +kernel
theorem dX12_go_4 : decode cX12_go 4 = .ok (.iload_n 1, 1) := by decide +kernel
theorem dX12_go_5 : decode cX12_go 5 = .ok (.invokevirtual 154, 3) := by decide +kernel
theorem dX12_go_8 : decode cX12_go 8 = .ok (.ifCond .eq 11, 3) := by decide +kernel
theorem dX12_go_11 : decode cX12_go 11 = .ok (.iload_n 2, 1) := by decide +kernel
theorem dX12_go_12 : decode cX12_go 12 = .ok (.iload_n 3, 1) := by decide +kernel
theorem dX12_go_13 : decode cX12_go 13 = .ok (.invokestatic 229, 3) := by decide +kernel
theorem dX12_go_16 : decode cX12_go 16 = .ok (.ifCond .ne 5, 3) := by decide +kernel
theorem dX12_go_19 : decode cX12_go 19 = .ok (.iconst (-1), 1) := by decide +kernel
theorem dX12_go_20 : decode cX12_go 20 = .ok (.ireturn, 1) := by decide +kernel
theorem dX12_go_21 : decode cX12_go 21 = .ok (.aload_n 0, 1) := by decide +kernel
theorem dX12_go_22 : decode cX12_go 22 = .ok (.getfield 44, 3) := by decide +kernel
theorem dX12_go_25 : decode cX12_go 25 = .ok (.aload_n 0, 1) := by decide +kernel
theorem dX12_go_26 : decode cX12_go 26 = .ok (.getfield 40, 3) := by decide +kernel
theorem dX12_go_29 : decode cX12_go 29 = .ok (.invokevirtual 233, 3) := by decide +kernel
theorem dX12_go_32 : decode cX12_go 32 = .ok (.aload_n 0, 1) := by decide +kernel
theorem dX12_go_33 : decode cX12_go 33 = .ok (.aload_n 0, 1) := by decide +kernel
theorem dX12_go_34 : decode cX12_go 34 = .ok (.getfield 40, 3) := by decide +kernel
theorem dX12_go_37 : decode cX12_go 37 = .ok (.iload_n 1, 1) := by decide +kernel
theorem dX12_go_38 : decode cX12_go 38 = .ok (.iload_n 2, 1) := by decide +kernel
theorem dX12_go_39 : decode cX12_go 39 = .ok (.iload_n 3, 1) := by decide +kernel
theorem dX12_go_40 : decode cX12_go 40 = .ok (.invokevirtual 236, 3) := by decide +kernel
theorem dX12_go_43 : decode cX12_go 43 = .ok (.invokevirtual 240, 3) := by decide +kernel
theorem dX12_go_46 : decode cX12_go 46 = .ok (.ireturn, 1) := by decide +kernel
set_option maxRecDepth 100000 in
set_option maxHeartbeats 4000000 in
theorem kX12_go {E : KE} {l : Launch} (hE : mx_ok E) (i1 : Int32) (i2 : Int32) (i3 : Int32) (hT : xOK E) (M : MM) {q : (Int32 × MM)} (hf : fX12_go i1 i2 i3 M = some q) : mx_Met E l yX12_go cX12_go 4 (some .int) 4 [.ref (E.2.1.2.1 0), .int i1, .int i2, .int i3] M (some (.int q.1)) q.2 := by
  refine mx_enter hE (by decide) (Nat.le_of_ble_eq_true rfl) ?_
  intro p e s m below meth c C hM hn ls hl
  have hx := C.1.1
  have hb := C.1.2.1
  have hown := C.1.2.2.2.1
  have hts := C.1.2.2.2.2
  have hl : lv_has ls 4 [(0, .ref (E.2.1.2.1 0)), (1, .int i1), (2, .int i2), (3, .int i3)] := hl
  rw [fX12_go] at hf
  refine lv_aload_n hx hb dX12_go_0 rfl (lv_at hl 0 rfl) ?_
  refine gX12_28 C hM (xt_0 hT) (f := (2, 9)) rfl (v := .ref (E.2.1.2.1 9)) rfl dX12_go_1 ?_
  refine lv_iload_n hx hb dX12_go_4 rfl (lv_at hl 1 rfl) ?_
  obtain ⟨q5, hq5, hf⟩ := mx_bd hf
  refine mx_callVN C hM hl.1 yo_X3_isPerson (h' := 0) (by decide) (nw_661 hT C) qw_663 qs_34 (ci := 3) (q := (RX3, TX3, 18)) rfl (xt_9 hT) (As := [.int i1]) (rest := []) (st1 := [.int (mx_b q5)]) (kX3_isPerson C.2.2.2.1 i1 hT M hq5) rfl rfl rfl (Nat.le_of_ble_eq_true rfl) dX12_go_5 (fun H locs hM => ?_)
  refine lv_if_eq (tgt := 19) hx hb dX12_go_8 (by decide) (fun hc8 => ?_) (fun hc8 => ?_)
  · replace hf := mx_ift hc8 hf
    refine lv_iconst (v := (-1 : Int32)) hx hb dX12_go_19 (by decide) ?_
    exact mx_iret C hM hf dX12_go_20
  · replace hf := mx_iff hc8 hf
    refine lv_iload_n hx hb dX12_go_11 rfl (lv_at hl 2 rfl) ?_
    refine lv_iload_n hx hb dX12_go_12 rfl (lv_at hl 3 rfl) ?_
    obtain ⟨q13, hq13, hf⟩ := mx_bd hf
    refine mx_callS C hM hl.1 yo_X12_isPlace (h' := 0) (by decide) qw_689 qw_690 (As := [.int i2, .int i3]) (rest := []) (st1 := [.int (mx_b q13)]) (kX12_isPlace C.2.2.2.1 i2 i3 hT M hq13) rfl rfl rfl (Nat.le_of_ble_eq_true rfl) dX12_go_13 (fun H locs hM => ?_)
    refine lv_if_ne (tgt := 21) hx hb dX12_go_16 (by decide) (fun hc16 => ?_) (fun hc16 => ?_)
    · replace hf := mx_iff hc16 hf
      refine lv_aload_n hx hb dX12_go_21 rfl (lv_at hl 0 rfl) ?_
      refine gX12_44 C hM (xt_0 hT) (f := (2, 38)) rfl (v := .ref (E.2.1.2.1 38)) rfl dX12_go_22 ?_
      refine lv_aload_n hx hb dX12_go_25 rfl (lv_at hl 0 rfl) ?_
      refine gX12_40 C hM (xt_0 hT) (f := (2, 29)) rfl (v := .ref (E.2.1.2.1 29)) rfl dX12_go_26 ?_
      obtain ⟨q29, hq29, hf⟩ := mx_bd hf
      refine mx_callVN C hM hl.1 yo_X9_copyFrom (h' := 1) (by decide) (nw_692 hT C) qw_694 qs_39 (ci := 9) (q := (RX9, TX9, 13)) rfl (xt_38 hT) (As := [.ref (E.2.1.2.1 29)]) (rest := []) (st1 := []) (kX9_copyFrom C.2.2.2.1 38 29 hT xiS_38 xiS_29 M hq29) rfl rfl rfl (Nat.le_of_ble_eq_true rfl) dX12_go_29 (fun H locs hM => ?_)
      refine lv_aload_n hx hb dX12_go_32 rfl (lv_at hl 0 rfl) ?_
      refine lv_aload_n hx hb dX12_go_33 rfl (lv_at hl 0 rfl) ?_
      refine gX12_40 C hM (xt_0 hT) (f := (2, 29)) rfl (v := .ref (E.2.1.2.1 29)) rfl dX12_go_34 ?_
      refine lv_iload_n hx hb dX12_go_37 rfl (lv_at hl 1 rfl) ?_
      refine lv_iload_n hx hb dX12_go_38 rfl (lv_at hl 2 rfl) ?_
      refine lv_iload_n hx hb dX12_go_39 rfl (lv_at hl 3 rfl) ?_
      obtain ⟨q40, hq40, hf⟩ := mx_bd hf
      refine mx_callVN C hM hl.1 yo_X9_walkTo (h' := 2) (by decide) (nw_697 hT C) qw_699 qs_40 (ci := 9) (q := (RX9, TX9, 13)) rfl (xt_29 hT) (As := [.int i1, .int i2, .int i3]) (rest := [.ref (E.2.1.2.1 0)]) (st1 := [.int q40.1, .ref (E.2.1.2.1 0)]) (kX9_walkTo C.2.2.2.1 29 i1 i2 i3 hT xiS_29 q29 hq40) rfl rfl rfl (Nat.le_of_ble_eq_true rfl) dX12_go_40 (fun H locs hM => ?_)
      obtain ⟨q43, hq43, hf⟩ := mx_bd hf
      refine mx_callV C hM hl.1 yo_X12_keptIfDone (h' := 3) (by decide) qw_708 qw_710 qs_42 (ci := 12) (q := (RX12, TX12, 19)) rfl (xt_0 hT) (As := [.int q40.1]) (rest := []) (st1 := [.int q43.1]) (kX12_keptIfDone C.2.2.2.1 q40.1 hT q40.2 hq43) rfl rfl rfl (Nat.le_of_ble_eq_true rfl) dX12_go_43 (fun H locs hM => ?_)
      exact mx_iret C hM hf dX12_go_46
    · replace hf := mx_ift hc16 hf
      refine lv_iconst (v := (-1 : Int32)) hx hb dX12_go_19 (by decide) ?_
      exact mx_iret C hM hf dX12_go_20
theorem dX12_hand_0 : decode cX12_hand 0 = .ok (.aload_n 0, 1) := by decide +kernel
theorem dX12_hand_1 : decode cX12_hand 1 = .ok (.getfield 28, 3) := by decide +kernel
theorem dX12_hand_4 : decode cX12_hand 4 = .ok (.iload_n 1, 1) := by decide +kernel
theorem dX12_hand_5 : decode cX12_hand 5 = .ok (.invokevirtual 154, 3) := by decide +kernel
theorem dX12_hand_8 : decode cX12_hand 8 = .ok (.ifCond .eq 25, 3) := by decide +kernel
theorem dX12_hand_11 : decode cX12_hand 11 = .ok (.aload_n 0, 1) := by decide +kernel
theorem dX12_hand_12 : decode cX12_hand 12 = .ok (.getfield 28, 3) := by decide +kernel
theorem dX12_hand_15 : decode cX12_hand 15 = .ok (.iload_n 2, 1) := by decide +kernel
theorem dX12_hand_16 : decode cX12_hand 16 = .ok (.invokevirtual 183, 3) := by decide +kernel
theorem dX12_hand_19 : decode cX12_hand 19 = .ok (.ifCond .eq 14, 3) := by decide +kernel
theorem dX12_hand_22 : decode cX12_hand 22 = .ok (.aload_n 0, 1) := by decide +kernel
theorem dX12_hand_23 : decode cX12_hand 23 = .ok (.getfield 28, 3) := by decide +kernel
theorem dX12_hand_26 : decode cX12_hand 26 = .ok (.iload_n 3, 1) := by decide +kernel
theorem dX12_hand_27 : decode cX12_hand 27 = .ok (.invokevirtual 154, 3) := by decide +kernel
theorem dX12_hand_30 : decode cX12_hand 30 = .ok (.ifCond .ne 5, 3) := by decide +kernel
theorem dX12_hand_33 : decode cX12_hand 33 = .ok (.iconst (-1), 1) := by decide +kernel
theorem dX12_hand_34 : decode cX12_hand 34 = .ok (.ireturn, 1) := by decide +kernel
theorem dX12_hand_35 : decode cX12_hand 35 = .ok (.aload_n 0, 1) := by decide +kernel
theorem dX12_hand_36 : decode cX12_hand 36 = .ok (.getfield 44, 3) := by decide +kernel
theorem dX12_hand_39 : decode cX12_hand 39 = .ok (.aload_n 0, 1) := by decide +kernel
theorem dX12_hand_40 : decode cX12_hand 40 = .ok (.getfield 40, 3) := by decide +kernel
theorem dX12_hand_43 : decode cX12_hand 43 = .ok (.invokevirtual 233, 3) := by decide +kernel
theorem dX12_hand_46 : decode cX12_hand 46 = .ok (.aload_n 0, 1) := by decide +kernel
theorem dX12_hand_47 : decode cX12_hand 47 = .ok (.aload_n 0, 1) := by decide +kernel
theorem dX12_hand_48 : decode cX12_hand 48 = .ok (.getfield 40, 3) := by decide +kernel
theorem dX12_hand_51 : decode cX12_hand 51 = .ok (.iload_n 1, 1) := by decide +kernel
theorem dX12_hand_52 : decode cX12_hand 52 = .ok (.iload_n 2, 1) := by decide +kernel
theorem dX12_hand_53 : decode cX12_hand 53 = .ok (.iload_n 3, 1) := by decide +kernel
theorem dX12_hand_54 : decode cX12_hand 54 = .ok (.invokevirtual 243, 3) := by decide +kernel
theorem dX12_hand_57 : decode cX12_hand 57 = .ok (.invokevirtual 240, 3) := by decide +kernel
theorem dX12_hand_60 : decode cX12_hand 60 = .ok (.ireturn, 1) := by decide +kernel
set_option maxRecDepth 100000 in
set_option maxHeartbeats 4000000 in
theorem kX12_hand {E : KE} {l : Launch} (hE : mx_ok E) (i1 : Int32) (i2 : Int32) (i3 : Int32) (hT : xOK E) (M : MM) {q : (Int32 × MM)} (hf : fX12_hand i1 i2 i3 M = some q) : mx_Met E l yX12_hand cX12_hand 4 (some .int) 4 [.ref (E.2.1.2.1 0), .int i1, .int i2, .int i3] M (some (.int q.1)) q.2 := by
  refine mx_enter hE (by decide) (Nat.le_of_ble_eq_true rfl) ?_
  intro p e s m below meth c C hM hn ls hl
  have hx := C.1.1
  have hb := C.1.2.1
  have hown := C.1.2.2.2.1
  have hts := C.1.2.2.2.2
  have hl : lv_has ls 4 [(0, .ref (E.2.1.2.1 0)), (1, .int i1), (2, .int i2), (3, .int i3)] := hl
  rw [fX12_hand] at hf
  refine lv_aload_n hx hb dX12_hand_0 rfl (lv_at hl 0 rfl) ?_
  refine gX12_28 C hM (xt_0 hT) (f := (2, 9)) rfl (v := .ref (E.2.1.2.1 9)) rfl dX12_hand_1 ?_
  refine lv_iload_n hx hb dX12_hand_4 rfl (lv_at hl 1 rfl) ?_
  obtain ⟨q5, hq5, hf⟩ := mx_bd hf
  refine mx_callVN C hM hl.1 yo_X3_isPerson (h' := 0) (by decide) (nw_661 hT C) qw_663 qs_34 (ci := 3) (q := (RX3, TX3, 18)) rfl (xt_9 hT) (As := [.int i1]) (rest := []) (st1 := [.int (mx_b q5)]) (kX3_isPerson C.2.2.2.1 i1 hT M hq5) rfl rfl rfl (Nat.le_of_ble_eq_true rfl) dX12_hand_5 (fun H locs hM => ?_)
  refine lv_if_eq (tgt := 33) hx hb dX12_hand_8 (by decide) (fun hc8 => ?_) (fun hc8 => ?_)
  · replace hf := mx_ift hc8 hf
    refine lv_iconst (v := (-1 : Int32)) hx hb dX12_hand_33 (by decide) ?_
    exact mx_iret C hM hf dX12_hand_34
  · replace hf := mx_iff hc8 hf
    refine lv_aload_n hx hb dX12_hand_11 rfl (lv_at hl 0 rfl) ?_
    refine gX12_28 C hM (xt_0 hT) (f := (2, 9)) rfl (v := .ref (E.2.1.2.1 9)) rfl dX12_hand_12 ?_
    refine lv_iload_n hx hb dX12_hand_15 rfl (lv_at hl 2 rfl) ?_
    obtain ⟨q16, hq16, hf⟩ := mx_bd hf
    refine mx_callVN C hM hl.1 yo_X3_isRing (h' := 0) (by decide) (nw_657 hT C) qw_659 qs_33 (ci := 3) (q := (RX3, TX3, 18)) rfl (xt_9 hT) (As := [.int i2]) (rest := []) (st1 := [.int (mx_b q16)]) (kX3_isRing C.2.2.2.1 i2 hT M hq16) rfl rfl rfl (Nat.le_of_ble_eq_true rfl) dX12_hand_16 (fun H locs hM => ?_)
    refine lv_if_eq (tgt := 33) hx hb dX12_hand_19 (by decide) (fun hc19 => ?_) (fun hc19 => ?_)
    · replace hf := mx_ift hc19 hf
      refine lv_iconst (v := (-1 : Int32)) hx hb dX12_hand_33 (by decide) ?_
      exact mx_iret C hM hf dX12_hand_34
    · replace hf := mx_iff hc19 hf
      refine lv_aload_n hx hb dX12_hand_22 rfl (lv_at hl 0 rfl) ?_
      refine gX12_28 C hM (xt_0 hT) (f := (2, 9)) rfl (v := .ref (E.2.1.2.1 9)) rfl dX12_hand_23 ?_
      refine lv_iload_n hx hb dX12_hand_26 rfl (lv_at hl 3 rfl) ?_
      obtain ⟨q27, hq27, hf⟩ := mx_bd hf
      refine mx_callVN C hM hl.1 yo_X3_isPerson (h' := 0) (by decide) (nw_661 hT C) qw_663 qs_34 (ci := 3) (q := (RX3, TX3, 18)) rfl (xt_9 hT) (As := [.int i3]) (rest := []) (st1 := [.int (mx_b q27)]) (kX3_isPerson C.2.2.2.1 i3 hT M hq27) rfl rfl rfl (Nat.le_of_ble_eq_true rfl) dX12_hand_27 (fun H locs hM => ?_)
      refine lv_if_ne (tgt := 35) hx hb dX12_hand_30 (by decide) (fun hc30 => ?_) (fun hc30 => ?_)
      · replace hf := mx_iff hc30 hf
        refine lv_aload_n hx hb dX12_hand_35 rfl (lv_at hl 0 rfl) ?_
        refine gX12_44 C hM (xt_0 hT) (f := (2, 38)) rfl (v := .ref (E.2.1.2.1 38)) rfl dX12_hand_36 ?_
        refine lv_aload_n hx hb dX12_hand_39 rfl (lv_at hl 0 rfl) ?_
        refine gX12_40 C hM (xt_0 hT) (f := (2, 29)) rfl (v := .ref (E.2.1.2.1 29)) rfl dX12_hand_40 ?_
        obtain ⟨q43, hq43, hf⟩ := mx_bd hf
        refine mx_callVN C hM hl.1 yo_X9_copyFrom (h' := 1) (by decide) (nw_692 hT C) qw_694 qs_39 (ci := 9) (q := (RX9, TX9, 13)) rfl (xt_38 hT) (As := [.ref (E.2.1.2.1 29)]) (rest := []) (st1 := []) (kX9_copyFrom C.2.2.2.1 38 29 hT xiS_38 xiS_29 M hq43) rfl rfl rfl (Nat.le_of_ble_eq_true rfl) dX12_hand_43 (fun H locs hM => ?_)
        refine lv_aload_n hx hb dX12_hand_46 rfl (lv_at hl 0 rfl) ?_
        refine lv_aload_n hx hb dX12_hand_47 rfl (lv_at hl 0 rfl) ?_
        refine gX12_40 C hM (xt_0 hT) (f := (2, 29)) rfl (v := .ref (E.2.1.2.1 29)) rfl dX12_hand_48 ?_
        refine lv_iload_n hx hb dX12_hand_51 rfl (lv_at hl 1 rfl) ?_
        refine lv_iload_n hx hb dX12_hand_52 rfl (lv_at hl 2 rfl) ?_
        refine lv_iload_n hx hb dX12_hand_53 rfl (lv_at hl 3 rfl) ?_
        obtain ⟨q54, hq54, hf⟩ := mx_bd hf
        refine mx_callVN C hM hl.1 yo_X9_passOn (h' := 2) (by decide) (nw_725 hT C) qw_727 qs_45 (ci := 9) (q := (RX9, TX9, 13)) rfl (xt_29 hT) (As := [.int i1, .int i2, .int i3]) (rest := [.ref (E.2.1.2.1 0)]) (st1 := [.int q54.1, .ref (E.2.1.2.1 0)]) (kX9_passOn C.2.2.2.1 29 i1 i2 i3 hT xiS_29 q43 hq54) rfl rfl rfl (Nat.le_of_ble_eq_true rfl) dX12_hand_54 (fun H locs hM => ?_)
        obtain ⟨q57, hq57, hf⟩ := mx_bd hf
        refine mx_callV C hM hl.1 yo_X12_keptIfDone (h' := 3) (by decide) qw_708 qw_710 qs_42 (ci := 12) (q := (RX12, TX12, 19)) rfl (xt_0 hT) (As := [.int q54.1]) (rest := []) (st1 := [.int q57.1]) (kX12_keptIfDone C.2.2.2.1 q54.1 hT q54.2 hq57) rfl rfl rfl (Nat.le_of_ble_eq_true rfl) dX12_hand_57 (fun H locs hM => ?_)
        exact mx_iret C hM hf dX12_hand_60
      · replace hf := mx_ift hc30 hf
        refine lv_iconst (v := (-1 : Int32)) hx hb dX12_hand_33 (by decide) ?_
        exact mx_iret C hM hf dX12_hand_34
theorem dX12_wear_0 : decode cX12_wear 0 = .ok (.aload_n 0, 1) := by decide +kernel
theorem dX12_wear_1 : decode cX12_wear 1 = .ok (.getfield 28, 3) := by decide +kernel
theorem dX12_wear_4 : decode cX12_wear 4 = .ok (.iload_n 1, 1) := by decide +kernel
theorem dX12_wear_5 : decode cX12_wear 5 = .ok (.invokevirtual 154, 3) := by decide +kernel
theorem dX12_wear_8 : decode cX12_wear 8 = .ok (.ifCond .eq 14, 3) := by decide +kernel
theorem dX12_wear_11 : decode cX12_wear 11 = .ok (.aload_n 0, 1) := by decide +kernel
theorem dX12_wear_12 : decode cX12_wear 12 = .ok (.getfield 28, 3) := by decide +kernel
theorem dX12_wear_15 : decode cX12_wear 15 = .ok (.iload_n 2, 1) := by decide +kernel
theorem dX12_wear_16 : decode cX12_wear 16 = .ok (.invokevirtual 183, 3) := by decide +kernel
theorem dX12_wear_19 : decode cX12_wear 19 = .ok (.ifCond .ne 5, 3) := by decide +kernel
theorem dX12_wear_22 : decode cX12_wear 22 = .ok (.iconst (-1), 1) := by decide +kernel
theorem dX12_wear_23 : decode cX12_wear 23 = .ok (.ireturn, 1) := by decide +kernel
theorem dX12_wear_24 : decode cX12_wear 24 = .ok (.aload_n 0, 1) := by decide +kernel
theorem dX12_wear_25 : decode cX12_wear 25 = .ok (.getfield 44, 3) := by decide +kernel
theorem dX12_wear_28 : decode cX12_wear 28 = .ok (.aload_n 0, 1) := by decide +kernel
theorem dX12_wear_29 : decode cX12_wear 29 = .ok (.getfield 40, 3) := by decide +kernel
theorem dX12_wear_32 : decode cX12_wear 32 = .ok (.invokevirtual 233, 3) := by decide +kernel
theorem dX12_wear_35 : decode cX12_wear 35 = .ok (.aload_n 0, 1) := by decide +kernel
theorem dX12_wear_36 : decode cX12_wear 36 = .ok (.aload_n 0, 1) := by decide +kernel
theorem dX12_wear_37 : decode cX12_wear 37 = .ok (.getfield 40, 3) := by decide +kernel
theorem dX12_wear_40 : decode cX12_wear 40 = .ok (.iload_n 1, 1) := by decide +kernel
theorem dX12_wear_41 : decode cX12_wear 41 = .ok (.iload_n 2, 1) := by decide +kernel
theorem dX12_wear_42 : decode cX12_wear 42 = .ok (.invokevirtual 246, 3) := by decide +kernel
theorem dX12_wear_45 : decode cX12_wear 45 = .ok (.invokevirtual 240, 3) := by decide +kernel
theorem dX12_wear_48 : decode cX12_wear 48 = .ok (.ireturn, 1) := by decide +kernel
set_option maxRecDepth 100000 in
set_option maxHeartbeats 4000000 in
theorem kX12_wear {E : KE} {l : Launch} (hE : mx_ok E) (i1 : Int32) (i2 : Int32) (hT : xOK E) (M : MM) {q : (Int32 × MM)} (hf : fX12_wear i1 i2 M = some q) : mx_Met E l yX12_wear cX12_wear 3 (some .int) 4 [.ref (E.2.1.2.1 0), .int i1, .int i2] M (some (.int q.1)) q.2 := by
  refine mx_enter hE (by decide) (Nat.le_of_ble_eq_true rfl) ?_
  intro p e s m below meth c C hM hn ls hl
  have hx := C.1.1
  have hb := C.1.2.1
  have hown := C.1.2.2.2.1
  have hts := C.1.2.2.2.2
  have hl : lv_has ls 3 [(0, .ref (E.2.1.2.1 0)), (1, .int i1), (2, .int i2)] := hl
  rw [fX12_wear] at hf
  refine lv_aload_n hx hb dX12_wear_0 rfl (lv_at hl 0 rfl) ?_
  refine gX12_28 C hM (xt_0 hT) (f := (2, 9)) rfl (v := .ref (E.2.1.2.1 9)) rfl dX12_wear_1 ?_
  refine lv_iload_n hx hb dX12_wear_4 rfl (lv_at hl 1 rfl) ?_
  obtain ⟨q5, hq5, hf⟩ := mx_bd hf
  refine mx_callVN C hM hl.1 yo_X3_isPerson (h' := 0) (by decide) (nw_661 hT C) qw_663 qs_34 (ci := 3) (q := (RX3, TX3, 18)) rfl (xt_9 hT) (As := [.int i1]) (rest := []) (st1 := [.int (mx_b q5)]) (kX3_isPerson C.2.2.2.1 i1 hT M hq5) rfl rfl rfl (Nat.le_of_ble_eq_true rfl) dX12_wear_5 (fun H locs hM => ?_)
  refine lv_if_eq (tgt := 22) hx hb dX12_wear_8 (by decide) (fun hc8 => ?_) (fun hc8 => ?_)
  · replace hf := mx_ift hc8 hf
    refine lv_iconst (v := (-1 : Int32)) hx hb dX12_wear_22 (by decide) ?_
    exact mx_iret C hM hf dX12_wear_23
  · replace hf := mx_iff hc8 hf
    refine lv_aload_n hx hb dX12_wear_11 rfl (lv_at hl 0 rfl) ?_
    refine gX12_28 C hM (xt_0 hT) (f := (2, 9)) rfl (v := .ref (E.2.1.2.1 9)) rfl dX12_wear_12 ?_
    refine lv_iload_n hx hb dX12_wear_15 rfl (lv_at hl 2 rfl) ?_
    obtain ⟨q16, hq16, hf⟩ := mx_bd hf
    refine mx_callVN C hM hl.1 yo_X3_isRing (h' := 0) (by decide) (nw_657 hT C) qw_659 qs_33 (ci := 3) (q := (RX3, TX3, 18)) rfl (xt_9 hT) (As := [.int i2]) (rest := []) (st1 := [.int (mx_b q16)]) (kX3_isRing C.2.2.2.1 i2 hT M hq16) rfl rfl rfl (Nat.le_of_ble_eq_true rfl) dX12_wear_16 (fun H locs hM => ?_)
    refine lv_if_ne (tgt := 24) hx hb dX12_wear_19 (by decide) (fun hc19 => ?_) (fun hc19 => ?_)
    · replace hf := mx_iff hc19 hf
      refine lv_aload_n hx hb dX12_wear_24 rfl (lv_at hl 0 rfl) ?_
      refine gX12_44 C hM (xt_0 hT) (f := (2, 38)) rfl (v := .ref (E.2.1.2.1 38)) rfl dX12_wear_25 ?_
      refine lv_aload_n hx hb dX12_wear_28 rfl (lv_at hl 0 rfl) ?_
      refine gX12_40 C hM (xt_0 hT) (f := (2, 29)) rfl (v := .ref (E.2.1.2.1 29)) rfl dX12_wear_29 ?_
      obtain ⟨q32, hq32, hf⟩ := mx_bd hf
      refine mx_callVN C hM hl.1 yo_X9_copyFrom (h' := 1) (by decide) (nw_692 hT C) qw_694 qs_39 (ci := 9) (q := (RX9, TX9, 13)) rfl (xt_38 hT) (As := [.ref (E.2.1.2.1 29)]) (rest := []) (st1 := []) (kX9_copyFrom C.2.2.2.1 38 29 hT xiS_38 xiS_29 M hq32) rfl rfl rfl (Nat.le_of_ble_eq_true rfl) dX12_wear_32 (fun H locs hM => ?_)
      refine lv_aload_n hx hb dX12_wear_35 rfl (lv_at hl 0 rfl) ?_
      refine lv_aload_n hx hb dX12_wear_36 rfl (lv_at hl 0 rfl) ?_
      refine gX12_40 C hM (xt_0 hT) (f := (2, 29)) rfl (v := .ref (E.2.1.2.1 29)) rfl dX12_wear_37 ?_
      refine lv_iload_n hx hb dX12_wear_40 rfl (lv_at hl 1 rfl) ?_
      refine lv_iload_n hx hb dX12_wear_41 rfl (lv_at hl 2 rfl) ?_
      obtain ⟨q42, hq42, hf⟩ := mx_bd hf
      refine mx_callVN C hM hl.1 yo_X9_putOn (h' := 1) (by decide) (nw_742 hT C) qw_744 qs_48 (ci := 9) (q := (RX9, TX9, 13)) rfl (xt_29 hT) (As := [.int i1, .int i2]) (rest := [.ref (E.2.1.2.1 0)]) (st1 := [.int q42.1, .ref (E.2.1.2.1 0)]) (kX9_putOn C.2.2.2.1 29 i1 i2 hT xiS_29 q32 hq42) rfl rfl rfl (Nat.le_of_ble_eq_true rfl) dX12_wear_42 (fun H locs hM => ?_)
      obtain ⟨q45, hq45, hf⟩ := mx_bd hf
      refine mx_callV C hM hl.1 yo_X12_keptIfDone (h' := 3) (by decide) qw_708 qw_710 qs_42 (ci := 12) (q := (RX12, TX12, 19)) rfl (xt_0 hT) (As := [.int q42.1]) (rest := []) (st1 := [.int q45.1]) (kX12_keptIfDone C.2.2.2.1 q42.1 hT q42.2 hq45) rfl rfl rfl (Nat.le_of_ble_eq_true rfl) dX12_wear_45 (fun H locs hM => ?_)
      exact mx_iret C hM hf dX12_wear_48
    · replace hf := mx_ift hc19 hf
      refine lv_iconst (v := (-1 : Int32)) hx hb dX12_wear_22 (by decide) ?_
      exact mx_iret C hM hf dX12_wear_23
theorem dX12_doff_0 : decode cX12_doff 0 = .ok (.aload_n 0, 1) := by decide +kernel
theorem dX12_doff_1 : decode cX12_doff 1 = .ok (.getfield 28, 3) := by decide +kernel
theorem dX12_doff_4 : decode cX12_doff 4 = .ok (.iload_n 1, 1) := by decide +kernel
theorem dX12_doff_5 : decode cX12_doff 5 = .ok (.invokevirtual 154, 3) := by decide +kernel
theorem dX12_doff_8 : decode cX12_doff 8 = .ok (.ifCond .ne 5, 3) := by decide +kernel
theorem dX12_doff_11 : decode cX12_doff 11 = .ok (.iconst (-1), 1) := by decide +kernel
theorem dX12_doff_12 : decode cX12_doff 12 = .ok (.ireturn, 1) := by decide +kernel
theorem dX12_doff_13 : decode cX12_doff 13 = .ok (.aload_n 0, 1) := by decide +kernel
theorem dX12_doff_14 : decode cX12_doff 14 = .ok (.getfield 44, 3) := by decide +kernel
theorem dX12_doff_17 : decode cX12_doff 17 = .ok (.aload_n 0, 1) := by decide +kernel
theorem dX12_doff_18 : decode cX12_doff 18 = .ok (.getfield 40, 3) := by decide +kernel
theorem dX12_doff_21 : decode cX12_doff 21 = .ok (.invokevirtual 233, 3) := by decide +kernel
theorem dX12_doff_24 : decode cX12_doff 24 = .ok (.aload_n 0, 1) := by decide +kernel
theorem dX12_doff_25 : decode cX12_doff 25 = .ok (.aload_n 0, 1) := by decide +kernel
theorem dX12_doff_26 : decode cX12_doff 26 = .ok (.getfield 40, 3) := by decide +kernel
theorem dX12_doff_29 : decode cX12_doff 29 = .ok (.iload_n 1, 1) := by decide +kernel
theorem dX12_doff_30 : decode cX12_doff 30 = .ok (.invokevirtual 249, 3) := by decide +kernel
theorem dX12_doff_33 : decode cX12_doff 33 = .ok (.invokevirtual 240, 3) := by decide +kernel
theorem dX12_doff_36 : decode cX12_doff 36 = .ok (.ireturn, 1) := by decide +kernel
set_option maxRecDepth 100000 in
set_option maxHeartbeats 4000000 in
theorem kX12_doff {E : KE} {l : Launch} (hE : mx_ok E) (i1 : Int32) (hT : xOK E) (M : MM) {q : (Int32 × MM)} (hf : fX12_doff i1 M = some q) : mx_Met E l yX12_doff cX12_doff 2 (some .int) 4 [.ref (E.2.1.2.1 0), .int i1] M (some (.int q.1)) q.2 := by
  refine mx_enter hE (by decide) (Nat.le_of_ble_eq_true rfl) ?_
  intro p e s m below meth c C hM hn ls hl
  have hx := C.1.1
  have hb := C.1.2.1
  have hown := C.1.2.2.2.1
  have hts := C.1.2.2.2.2
  have hl : lv_has ls 2 [(0, .ref (E.2.1.2.1 0)), (1, .int i1)] := hl
  rw [fX12_doff] at hf
  refine lv_aload_n hx hb dX12_doff_0 rfl (lv_at hl 0 rfl) ?_
  refine gX12_28 C hM (xt_0 hT) (f := (2, 9)) rfl (v := .ref (E.2.1.2.1 9)) rfl dX12_doff_1 ?_
  refine lv_iload_n hx hb dX12_doff_4 rfl (lv_at hl 1 rfl) ?_
  obtain ⟨q5, hq5, hf⟩ := mx_bd hf
  refine mx_callVN C hM hl.1 yo_X3_isPerson (h' := 0) (by decide) (nw_661 hT C) qw_663 qs_34 (ci := 3) (q := (RX3, TX3, 18)) rfl (xt_9 hT) (As := [.int i1]) (rest := []) (st1 := [.int (mx_b q5)]) (kX3_isPerson C.2.2.2.1 i1 hT M hq5) rfl rfl rfl (Nat.le_of_ble_eq_true rfl) dX12_doff_5 (fun H locs hM => ?_)
  refine lv_if_ne (tgt := 13) hx hb dX12_doff_8 (by decide) (fun hc8 => ?_) (fun hc8 => ?_)
  · replace hf := mx_iff hc8 hf
    refine lv_aload_n hx hb dX12_doff_13 rfl (lv_at hl 0 rfl) ?_
    refine gX12_44 C hM (xt_0 hT) (f := (2, 38)) rfl (v := .ref (E.2.1.2.1 38)) rfl dX12_doff_14 ?_
    refine lv_aload_n hx hb dX12_doff_17 rfl (lv_at hl 0 rfl) ?_
    refine gX12_40 C hM (xt_0 hT) (f := (2, 29)) rfl (v := .ref (E.2.1.2.1 29)) rfl dX12_doff_18 ?_
    obtain ⟨q21, hq21, hf⟩ := mx_bd hf
    refine mx_callVN C hM hl.1 yo_X9_copyFrom (h' := 1) (by decide) (nw_692 hT C) qw_694 qs_39 (ci := 9) (q := (RX9, TX9, 13)) rfl (xt_38 hT) (As := [.ref (E.2.1.2.1 29)]) (rest := []) (st1 := []) (kX9_copyFrom C.2.2.2.1 38 29 hT xiS_38 xiS_29 M hq21) rfl rfl rfl (Nat.le_of_ble_eq_true rfl) dX12_doff_21 (fun H locs hM => ?_)
    refine lv_aload_n hx hb dX12_doff_24 rfl (lv_at hl 0 rfl) ?_
    refine lv_aload_n hx hb dX12_doff_25 rfl (lv_at hl 0 rfl) ?_
    refine gX12_40 C hM (xt_0 hT) (f := (2, 29)) rfl (v := .ref (E.2.1.2.1 29)) rfl dX12_doff_26 ?_
    refine lv_iload_n hx hb dX12_doff_29 rfl (lv_at hl 1 rfl) ?_
    obtain ⟨q30, hq30, hf⟩ := mx_bd hf
    refine mx_callVN C hM hl.1 yo_X9_takeOff (h' := 1) (by decide) (nw_755 hT C) qw_757 qs_50 (ci := 9) (q := (RX9, TX9, 13)) rfl (xt_29 hT) (As := [.int i1]) (rest := [.ref (E.2.1.2.1 0)]) (st1 := [.int q30.1, .ref (E.2.1.2.1 0)]) (kX9_takeOff C.2.2.2.1 29 i1 hT xiS_29 q21 hq30) rfl rfl rfl (Nat.le_of_ble_eq_true rfl) dX12_doff_30 (fun H locs hM => ?_)
    obtain ⟨q33, hq33, hf⟩ := mx_bd hf
    refine mx_callV C hM hl.1 yo_X12_keptIfDone (h' := 3) (by decide) qw_708 qw_710 qs_42 (ci := 12) (q := (RX12, TX12, 19)) rfl (xt_0 hT) (As := [.int q30.1]) (rest := []) (st1 := [.int q33.1]) (kX12_keptIfDone C.2.2.2.1 q30.1 hT q30.2 hq33) rfl rfl rfl (Nat.le_of_ble_eq_true rfl) dX12_doff_33 (fun H locs hM => ?_)
    exact mx_iret C hM hf dX12_doff_36
  · replace hf := mx_ift hc8 hf
    refine lv_iconst (v := (-1 : Int32)) hx hb dX12_doff_11 (by decide) ?_
    exact mx_iret C hM hf dX12_doff_12
theorem dX12_find_0 : decode cX12_find 0 = .ok (.aload_n 0, 1) := by decide +kernel
theorem dX12_find_1 : decode cX12_find 1 = .ok (.getfield 28, 3) := by decide +kernel
theorem dX12_find_4 : decode cX12_find 4 = .ok (.iload_n 1, 1) := by decide +kernel
theorem dX12_find_5 : decode cX12_find 5 = .ok (.invokevirtual 154, 3) := by decide +kernel
theorem dX12_find_8 : decode cX12_find 8 = .ok (.ifCond .eq 14, 3) := by decide +kernel
theorem dX12_find_11 : decode cX12_find 11 = .ok (.aload_n 0, 1) := by decide +kernel
theorem dX12_find_12 : decode cX12_find 12 = .ok (.getfield 28, 3) := by decide +kernel
theorem dX12_find_15 : decode cX12_find 15 = .ok (.iload_n 2, 1) := by decide +kernel
theorem dX12_find_16 : decode cX12_find 16 = .ok (.invokevirtual 183, 3) := by decide +kernel
theorem dX12_find_19 : decode cX12_find 19 = .ok (.ifCond .ne 5, 3) := by decide +kernel
theorem dX12_find_22 : decode cX12_find 22 = .ok (.iconst (-1), 1) := by decide +kernel
theorem dX12_find_23 : decode cX12_find 23 = .ok (.ireturn, 1) := by decide +kernel
theorem dX12_find_24 : decode cX12_find 24 = .ok (.aload_n 0, 1) := by decide +kernel
theorem dX12_find_25 : decode cX12_find 25 = .ok (.getfield 44, 3) := by decide +kernel
theorem dX12_find_28 : decode cX12_find 28 = .ok (.aload_n 0, 1) := by decide +kernel
theorem dX12_find_29 : decode cX12_find 29 = .ok (.getfield 40, 3) := by decide +kernel
theorem dX12_find_32 : decode cX12_find 32 = .ok (.invokevirtual 233, 3) := by decide +kernel
theorem dX12_find_35 : decode cX12_find 35 = .ok (.aload_n 0, 1) := by decide +kernel
theorem dX12_find_36 : decode cX12_find 36 = .ok (.aload_n 0, 1) := by decide +kernel
theorem dX12_find_37 : decode cX12_find 37 = .ok (.getfield 40, 3) := by decide +kernel
theorem dX12_find_40 : decode cX12_find 40 = .ok (.iload_n 1, 1) := by decide +kernel
theorem dX12_find_41 : decode cX12_find 41 = .ok (.iload_n 2, 1) := by decide +kernel
theorem dX12_find_42 : decode cX12_find 42 = .ok (.invokevirtual 252, 3) := by decide +kernel
theorem dX12_find_45 : decode cX12_find 45 = .ok (.invokevirtual 240, 3) := by decide +kernel
theorem dX12_find_48 : decode cX12_find 48 = .ok (.ireturn, 1) := by decide +kernel
set_option maxRecDepth 100000 in
set_option maxHeartbeats 4000000 in
theorem kX12_find {E : KE} {l : Launch} (hE : mx_ok E) (i1 : Int32) (i2 : Int32) (hT : xOK E) (M : MM) {q : (Int32 × MM)} (hf : fX12_find i1 i2 M = some q) : mx_Met E l yX12_find cX12_find 3 (some .int) 4 [.ref (E.2.1.2.1 0), .int i1, .int i2] M (some (.int q.1)) q.2 := by
  refine mx_enter hE (by decide) (Nat.le_of_ble_eq_true rfl) ?_
  intro p e s m below meth c C hM hn ls hl
  have hx := C.1.1
  have hb := C.1.2.1
  have hown := C.1.2.2.2.1
  have hts := C.1.2.2.2.2
  have hl : lv_has ls 3 [(0, .ref (E.2.1.2.1 0)), (1, .int i1), (2, .int i2)] := hl
  rw [fX12_find] at hf
  refine lv_aload_n hx hb dX12_find_0 rfl (lv_at hl 0 rfl) ?_
  refine gX12_28 C hM (xt_0 hT) (f := (2, 9)) rfl (v := .ref (E.2.1.2.1 9)) rfl dX12_find_1 ?_
  refine lv_iload_n hx hb dX12_find_4 rfl (lv_at hl 1 rfl) ?_
  obtain ⟨q5, hq5, hf⟩ := mx_bd hf
  refine mx_callVN C hM hl.1 yo_X3_isPerson (h' := 0) (by decide) (nw_661 hT C) qw_663 qs_34 (ci := 3) (q := (RX3, TX3, 18)) rfl (xt_9 hT) (As := [.int i1]) (rest := []) (st1 := [.int (mx_b q5)]) (kX3_isPerson C.2.2.2.1 i1 hT M hq5) rfl rfl rfl (Nat.le_of_ble_eq_true rfl) dX12_find_5 (fun H locs hM => ?_)
  refine lv_if_eq (tgt := 22) hx hb dX12_find_8 (by decide) (fun hc8 => ?_) (fun hc8 => ?_)
  · replace hf := mx_ift hc8 hf
    refine lv_iconst (v := (-1 : Int32)) hx hb dX12_find_22 (by decide) ?_
    exact mx_iret C hM hf dX12_find_23
  · replace hf := mx_iff hc8 hf
    refine lv_aload_n hx hb dX12_find_11 rfl (lv_at hl 0 rfl) ?_
    refine gX12_28 C hM (xt_0 hT) (f := (2, 9)) rfl (v := .ref (E.2.1.2.1 9)) rfl dX12_find_12 ?_
    refine lv_iload_n hx hb dX12_find_15 rfl (lv_at hl 2 rfl) ?_
    obtain ⟨q16, hq16, hf⟩ := mx_bd hf
    refine mx_callVN C hM hl.1 yo_X3_isRing (h' := 0) (by decide) (nw_657 hT C) qw_659 qs_33 (ci := 3) (q := (RX3, TX3, 18)) rfl (xt_9 hT) (As := [.int i2]) (rest := []) (st1 := [.int (mx_b q16)]) (kX3_isRing C.2.2.2.1 i2 hT M hq16) rfl rfl rfl (Nat.le_of_ble_eq_true rfl) dX12_find_16 (fun H locs hM => ?_)
    refine lv_if_ne (tgt := 24) hx hb dX12_find_19 (by decide) (fun hc19 => ?_) (fun hc19 => ?_)
    · replace hf := mx_iff hc19 hf
      refine lv_aload_n hx hb dX12_find_24 rfl (lv_at hl 0 rfl) ?_
      refine gX12_44 C hM (xt_0 hT) (f := (2, 38)) rfl (v := .ref (E.2.1.2.1 38)) rfl dX12_find_25 ?_
      refine lv_aload_n hx hb dX12_find_28 rfl (lv_at hl 0 rfl) ?_
      refine gX12_40 C hM (xt_0 hT) (f := (2, 29)) rfl (v := .ref (E.2.1.2.1 29)) rfl dX12_find_29 ?_
      obtain ⟨q32, hq32, hf⟩ := mx_bd hf
      refine mx_callVN C hM hl.1 yo_X9_copyFrom (h' := 1) (by decide) (nw_692 hT C) qw_694 qs_39 (ci := 9) (q := (RX9, TX9, 13)) rfl (xt_38 hT) (As := [.ref (E.2.1.2.1 29)]) (rest := []) (st1 := []) (kX9_copyFrom C.2.2.2.1 38 29 hT xiS_38 xiS_29 M hq32) rfl rfl rfl (Nat.le_of_ble_eq_true rfl) dX12_find_32 (fun H locs hM => ?_)
      refine lv_aload_n hx hb dX12_find_35 rfl (lv_at hl 0 rfl) ?_
      refine lv_aload_n hx hb dX12_find_36 rfl (lv_at hl 0 rfl) ?_
      refine gX12_40 C hM (xt_0 hT) (f := (2, 29)) rfl (v := .ref (E.2.1.2.1 29)) rfl dX12_find_37 ?_
      refine lv_iload_n hx hb dX12_find_40 rfl (lv_at hl 1 rfl) ?_
      refine lv_iload_n hx hb dX12_find_41 rfl (lv_at hl 2 rfl) ?_
      obtain ⟨q42, hq42, hf⟩ := mx_bd hf
      refine mx_callVN C hM hl.1 yo_X9_pickUp (h' := 2) (by decide) (nw_763 hT C) qw_765 qs_51 (ci := 9) (q := (RX9, TX9, 13)) rfl (xt_29 hT) (As := [.int i1, .int i2]) (rest := [.ref (E.2.1.2.1 0)]) (st1 := [.int q42.1, .ref (E.2.1.2.1 0)]) (kX9_pickUp C.2.2.2.1 29 i1 i2 hT xiS_29 q32 hq42) rfl rfl rfl (Nat.le_of_ble_eq_true rfl) dX12_find_42 (fun H locs hM => ?_)
      obtain ⟨q45, hq45, hf⟩ := mx_bd hf
      refine mx_callV C hM hl.1 yo_X12_keptIfDone (h' := 3) (by decide) qw_708 qw_710 qs_42 (ci := 12) (q := (RX12, TX12, 19)) rfl (xt_0 hT) (As := [.int q42.1]) (rest := []) (st1 := [.int q45.1]) (kX12_keptIfDone C.2.2.2.1 q42.1 hT q42.2 hq45) rfl rfl rfl (Nat.le_of_ble_eq_true rfl) dX12_find_45 (fun H locs hM => ?_)
      exact mx_iret C hM hf dX12_find_48
    · replace hf := mx_ift hc19 hf
      refine lv_iconst (v := (-1 : Int32)) hx hb dX12_find_22 (by decide) ?_
      exact mx_iret C hM hf dX12_find_23
theorem dX12_keptIfSome_0 : decode cX12_keptIfSome 0 = .ok (.iload_n 1, 1) := by decide +kernel
theorem dX12_keptIfSome_1 : decode cX12_keptIfSome 1 = .ok (.ifCond .le 14, 3) := by decide +kernel
theorem dX12_keptIfSome_4 : decode cX12_keptIfSome 4 = .ok (.aload_n 0, 1) := by decide +kernel
theorem dX12_keptIfSome_5 : decode cX12_keptIfSome 5 = .ok (.getfield 53, 3) := by decide +kernel
theorem dX12_keptIfSome_8 : decode cX12_keptIfSome 8 = .ok (.aload_n 0, 1) := by decide +kernel
theorem dX12_keptIfSome_9 : decode cX12_keptIfSome 9 = .ok (.getfield 44, 3) := by decide +kernel
theorem dX12_keptIfSome_12 : decode cX12_keptIfSome 12 = .ok (.invokevirtual 342, 3) := by decide +kernel
theorem dX12_keptIfSome_15 : decode cX12_keptIfSome 15 = .ok (.iload_n 1, 1) := by decide +kernel
theorem dX12_keptIfSome_16 : decode cX12_keptIfSome 16 = .ok (.ireturn, 1) := by decide +kernel
set_option maxRecDepth 100000 in
set_option maxHeartbeats 4000000 in
theorem kX12_keptIfSome {E : KE} {l : Launch} (hE : mx_ok E) (i1 : Int32) (hT : xOK E) (M : MM) {q : (Int32 × MM)} (hf : fX12_keptIfSome i1 M = some q) : mx_Met E l yX12_keptIfSome cX12_keptIfSome 2 (some .int) 3 [.ref (E.2.1.2.1 0), .int i1] M (some (.int q.1)) q.2 := by
  refine mx_enter hE (by decide) (Nat.le_of_ble_eq_true rfl) ?_
  intro p e s m below meth c C hM hn ls hl
  have hx := C.1.1
  have hb := C.1.2.1
  have hown := C.1.2.2.2.1
  have hts := C.1.2.2.2.2
  have hl : lv_has ls 2 [(0, .ref (E.2.1.2.1 0)), (1, .int i1)] := hl
  rw [fX12_keptIfSome] at hf
  refine lv_iload_n hx hb dX12_keptIfSome_0 rfl (lv_at hl 1 rfl) ?_
  refine lv_if_le (tgt := 15) hx hb dX12_keptIfSome_1 (by decide) (fun hc1 => ?_) (fun hc1 => ?_)
  · replace hf := mx_ift hc1 hf
    refine lv_iload_n hx hb dX12_keptIfSome_15 rfl (lv_at hl 1 rfl) ?_
    exact mx_iret C hM hf dX12_keptIfSome_16
  · replace hf := mx_iff hc1 hf
    refine lv_aload_n hx hb dX12_keptIfSome_4 rfl (lv_at hl 0 rfl) ?_
    refine gX12_53 C hM (xt_0 hT) (f := (2, 56)) rfl (v := .ref (E.2.1.2.1 56)) rfl dX12_keptIfSome_5 ?_
    refine lv_aload_n hx hb dX12_keptIfSome_8 rfl (lv_at hl 0 rfl) ?_
    refine gX12_44 C hM (xt_0 hT) (f := (2, 38)) rfl (v := .ref (E.2.1.2.1 38)) rfl dX12_keptIfSome_9 ?_
    obtain ⟨q12, hq12, hf⟩ := mx_bd hf
    refine mx_callVN C hM hl.1 yo_X5_push (h' := 2) (by decide) (nw_712 hT C) qw_714 qs_43 (ci := 5) (q := (RX5, TX5, 2)) rfl (xt_56 hT) (As := [.ref (E.2.1.2.1 38)]) (rest := []) (st1 := []) (kX5_push C.2.2.2.1 38 hT xiS_38 M hq12) rfl rfl rfl (Nat.le_of_ble_eq_true rfl) dX12_keptIfSome_12 (fun H locs hM => ?_)
    refine lv_iload_n hx hb dX12_keptIfSome_15 rfl (lv_at hl 1 rfl) ?_
    exact mx_iret C hM hf dX12_keptIfSome_16
theorem dX12_days_0 : decode cX12_days 0 = .ok (.iload_n 1, 1) := by decide +kernel
theorem dX12_days_1 : decode cX12_days 1 = .ok (.iconst 1, 1) := by decide +kernel
theorem dX12_days_2 : decode cX12_days 2 = .ok (.if_icmp .lt 9, 3) := by decide +kernel
theorem dX12_days_5 : decode cX12_days 5 = .ok (.iload_n 1, 1) := by decide +kernel
theorem dX12_days_6 : decode cX12_days 6 = .ok (.bipush 60, 2) := by decide +kernel
theorem dX12_days_8 : decode cX12_days 8 = .ok (.if_icmp .le 5, 3) := by decide +kernel
theorem dX12_days_11 : decode cX12_days 11 = .ok (.iconst (-1), 1) := by decide +kernel
theorem dX12_days_12 : decode cX12_days 12 = .ok (.ireturn, 1) := by decide +kernel
theorem dX12_days_13 : decode cX12_days 13 = .ok (.aload_n 0, 1) := by decide +kernel
theorem dX12_days_14 : decode cX12_days 14 = .ok (.getfield 44, 3) := by decide +kernel
theorem dX12_days_17 : decode cX12_days 17 = .ok (.aload_n 0, 1) := by decide +kernel
theorem dX12_days_18 : decode cX12_days 18 = .ok (.getfield 40, 3) := by decide +kernel
theorem dX12_days_21 : decode cX12_days 21 = .ok (.invokevirtual 233, 3) := by decide +kernel
theorem dX12_days_24 : decode cX12_days 24 = .ok (.aload_n 0, 1) := by decide +kernel
theorem dX12_days_25 : decode cX12_days 25 = .ok (.aload_n 0, 1) := by decide +kernel
theorem dX12_days_26 : decode cX12_days 26 = .ok (.getfield 40, 3) := by decide +kernel
theorem dX12_days_29 : decode cX12_days 29 = .ok (.iload_n 1, 1) := by decide +kernel
theorem dX12_days_30 : decode cX12_days 30 = .ok (.invokevirtual 255, 3) := by decide +kernel
theorem dX12_days_33 : decode cX12_days 33 = .ok (.invokevirtual 258, 3) := by decide +kernel
theorem dX12_days_36 : decode cX12_days 36 = .ok (.ireturn, 1) := by decide +kernel
set_option maxRecDepth 100000 in
set_option maxHeartbeats 4000000 in
theorem kX12_days {E : KE} {l : Launch} (hE : mx_ok E) (i1 : Int32) (hT : xOK E) (M : MM) {q : (Int32 × MM)} (hf : fX12_days i1 M = some q) : mx_Met E l yX12_days cX12_days 2 (some .int) 4 [.ref (E.2.1.2.1 0), .int i1] M (some (.int q.1)) q.2 := by
  refine mx_enter hE (by decide) (Nat.le_of_ble_eq_true rfl) ?_
  intro p e s m below meth c C hM hn ls hl
  have hx := C.1.1
  have hb := C.1.2.1
  have hown := C.1.2.2.2.1
  have hts := C.1.2.2.2.2
  have hl : lv_has ls 2 [(0, .ref (E.2.1.2.1 0)), (1, .int i1)] := hl
  rw [fX12_days] at hf
  refine lv_iload_n hx hb dX12_days_0 rfl (lv_at hl 1 rfl) ?_
  refine lv_iconst (v := (1 : Int32)) hx hb dX12_days_1 (by decide) ?_
  refine lv_icmp_lt (tgt := 11) hx hb dX12_days_2 (by decide) (fun hc2 => ?_) (fun hc2 => ?_)
  · replace hf := mx_ift hc2 hf
    refine lv_iconst (v := (-1 : Int32)) hx hb dX12_days_11 (by decide) ?_
    exact mx_iret C hM hf dX12_days_12
  · replace hf := mx_iff hc2 hf
    refine lv_iload_n hx hb dX12_days_5 rfl (lv_at hl 1 rfl) ?_
    refine lv_bipush (v := (60 : Int32)) hx hb dX12_days_6 (by decide) ?_
    refine lv_icmp_le (tgt := 13) hx hb dX12_days_8 (by decide) (fun hc8 => ?_) (fun hc8 => ?_)
    · replace hf := mx_ift hc8 hf
      refine lv_aload_n hx hb dX12_days_13 rfl (lv_at hl 0 rfl) ?_
      refine gX12_44 C hM (xt_0 hT) (f := (2, 38)) rfl (v := .ref (E.2.1.2.1 38)) rfl dX12_days_14 ?_
      refine lv_aload_n hx hb dX12_days_17 rfl (lv_at hl 0 rfl) ?_
      refine gX12_40 C hM (xt_0 hT) (f := (2, 29)) rfl (v := .ref (E.2.1.2.1 29)) rfl dX12_days_18 ?_
      obtain ⟨q21, hq21, hf⟩ := mx_bd hf
      refine mx_callVN C hM hl.1 yo_X9_copyFrom (h' := 1) (by decide) (nw_692 hT C) qw_694 qs_39 (ci := 9) (q := (RX9, TX9, 13)) rfl (xt_38 hT) (As := [.ref (E.2.1.2.1 29)]) (rest := []) (st1 := []) (kX9_copyFrom C.2.2.2.1 38 29 hT xiS_38 xiS_29 M hq21) rfl rfl rfl (Nat.le_of_ble_eq_true rfl) dX12_days_21 (fun H locs hM => ?_)
      refine lv_aload_n hx hb dX12_days_24 rfl (lv_at hl 0 rfl) ?_
      refine lv_aload_n hx hb dX12_days_25 rfl (lv_at hl 0 rfl) ?_
      refine gX12_40 C hM (xt_0 hT) (f := (2, 29)) rfl (v := .ref (E.2.1.2.1 29)) rfl dX12_days_26 ?_
      refine lv_iload_n hx hb dX12_days_29 rfl (lv_at hl 1 rfl) ?_
      obtain ⟨q30, hq30, hf⟩ := mx_bd hf
      refine mx_callVN C hM hl.1 yo_X9_passDays (h' := 3) (by decide) (nw_771 hT C) qw_773 qs_52 (ci := 9) (q := (RX9, TX9, 13)) rfl (xt_29 hT) (As := [.int i1]) (rest := [.ref (E.2.1.2.1 0)]) (st1 := [.int q30.1, .ref (E.2.1.2.1 0)]) (kX9_passDays C.2.2.2.1 29 i1 hT xiS_29 q21 hq30) rfl rfl rfl (Nat.le_of_ble_eq_true rfl) dX12_days_30 (fun H locs hM => ?_)
      obtain ⟨q33, hq33, hf⟩ := mx_bd hf
      refine mx_callV C hM hl.1 yo_X12_keptIfSome (h' := 3) (by decide) qw_797 qw_799 qs_57 (ci := 12) (q := (RX12, TX12, 19)) rfl (xt_0 hT) (As := [.int q30.1]) (rest := []) (st1 := [.int q33.1]) (kX12_keptIfSome C.2.2.2.1 q30.1 hT q30.2 hq33) rfl rfl rfl (Nat.le_of_ble_eq_true rfl) dX12_days_33 (fun H locs hM => ?_)
      exact mx_iret C hM hf dX12_days_36
    · replace hf := mx_iff hc8 hf
      refine lv_iconst (v := (-1 : Int32)) hx hb dX12_days_11 (by decide) ?_
      exact mx_iret C hM hf dX12_days_12
theorem dX12_undo_0 : decode cX12_undo 0 = .ok (.aload_n 0, 1) := by decide +kernel
theorem dX12_undo_1 : decode cX12_undo 1 = .ok (.getfield 53, 3) := by decide +kernel
theorem dX12_undo_4 : decode cX12_undo 4 = .ok (.getfield 261, 3) := by decide +kernel
theorem dX12_undo_7 : decode cX12_undo 7 = .ok (.ifCond .ne 5, 3) := by decide +kernel
theorem dX12_undo_10 : decode cX12_undo 10 = .ok (.iconst (-1), 1) := by decide +kernel
theorem dX12_undo_11 : decode cX12_undo 11 = .ok (.ireturn, 1) := by decide +kernel
theorem dX12_undo_12 : decode cX12_undo 12 = .ok (.aload_n 0, 1) := by decide +kernel
theorem dX12_undo_13 : decode cX12_undo 13 = .ok (.getfield 53, 3) := by decide +kernel
theorem dX12_undo_16 : decode cX12_undo 16 = .ok (.aload_n 0, 1) := by decide +kernel
theorem dX12_undo_17 : decode cX12_undo 17 = .ok (.getfield 40, 3) := by decide +kernel
theorem dX12_undo_20 : decode cX12_undo 20 = .ok (.invokevirtual 263, 3) := by decide +kernel
theorem dX12_undo_23 : decode cX12_undo 23 = .ok (.aload_n 0, 1) := by decide +kernel
theorem dX12_undo_24 : decode cX12_undo 24 = .ok (.getfield 53, 3) := by decide +kernel
theorem dX12_undo_27 : decode cX12_undo 27 = .ok (.getfield 261, 3) := by decide +kernel
theorem dX12_undo_30 : decode cX12_undo 30 = .ok (.ireturn, 1) := by decide +kernel
set_option maxRecDepth 100000 in
set_option maxHeartbeats 4000000 in
theorem kX12_undo {E : KE} {l : Launch} (hE : mx_ok E)  (hT : xOK E) (M : MM) {q : (Int32 × MM)} (hf : fX12_undo M = some q) : mx_Met E l yX12_undo cX12_undo 1 (some .int) 3 [.ref (E.2.1.2.1 0)] M (some (.int q.1)) q.2 := by
  refine mx_enter hE (by decide) (Nat.le_of_ble_eq_true rfl) ?_
  intro p e s m below meth c C hM hn ls hl
  have hx := C.1.1
  have hb := C.1.2.1
  have hown := C.1.2.2.2.1
  have hts := C.1.2.2.2.2
  have hl : lv_has ls 1 [(0, .ref (E.2.1.2.1 0))] := hl
  rw [fX12_undo] at hf
  refine lv_aload_n hx hb dX12_undo_0 rfl (lv_at hl 0 rfl) ?_
  refine gX12_53 C hM (xt_0 hT) (f := (2, 56)) rfl (v := .ref (E.2.1.2.1 56)) rfl dX12_undo_1 ?_
  refine gX12_261 C hT hM (xt_56 hT) (f := (0, 0)) rfl (v := .int (M.1 56 1)) rfl dX12_undo_4 ?_
  refine lv_if_ne (tgt := 12) hx hb dX12_undo_7 (by decide) (fun hc7 => ?_) (fun hc7 => ?_)
  · replace hf := mx_iff hc7 hf
    refine lv_aload_n hx hb dX12_undo_12 rfl (lv_at hl 0 rfl) ?_
    refine gX12_53 C hM (xt_0 hT) (f := (2, 56)) rfl (v := .ref (E.2.1.2.1 56)) rfl dX12_undo_13 ?_
    refine lv_aload_n hx hb dX12_undo_16 rfl (lv_at hl 0 rfl) ?_
    refine gX12_40 C hM (xt_0 hT) (f := (2, 29)) rfl (v := .ref (E.2.1.2.1 29)) rfl dX12_undo_17 ?_
    obtain ⟨q20, hq20, hf⟩ := mx_bd hf
    refine mx_callVN C hM hl.1 yo_X5_takeBack (h' := 2) (by decide) (nw_805 hT C) qw_807 qs_58 (ci := 5) (q := (RX5, TX5, 2)) rfl (xt_56 hT) (As := [.ref (E.2.1.2.1 29)]) (rest := []) (st1 := []) (kX5_takeBack C.2.2.2.1 hT M hq20) rfl rfl rfl (Nat.le_of_ble_eq_true rfl) dX12_undo_20 (fun H locs hM => ?_)
    refine lv_aload_n hx hb dX12_undo_23 rfl (lv_at hl 0 rfl) ?_
    refine gX12_53 C hM (xt_0 hT) (f := (2, 56)) rfl (v := .ref (E.2.1.2.1 56)) rfl dX12_undo_24 ?_
    refine gX12_261 C hT hM (xt_56 hT) (f := (0, 0)) rfl (v := .int (q20.1 56 1)) rfl dX12_undo_27 ?_
    exact mx_iret C hM hf dX12_undo_30
  · replace hf := mx_ift hc7 hf
    refine lv_iconst (v := (-1 : Int32)) hx hb dX12_undo_10 (by decide) ?_
    exact mx_iret C hM hf dX12_undo_11
theorem dX12_reach_0 : decode cX12_reach 0 = .ok (.aload_n 0, 1) := by decide +kernel
theorem dX12_reach_1 : decode cX12_reach 1 = .ok (.getfield 28, 3) := by decide +kernel
theorem dX12_reach_4 : decode cX12_reach 4 = .ok (.iload_n 1, 1) := by decide +kernel
theorem dX12_reach_5 : decode cX12_reach 5 = .ok (.invokevirtual 183, 3) := by decide +kernel
theorem dX12_reach_8 : decode cX12_reach 8 = .ok (.ifCond .eq 14, 3) := by decide +kernel
theorem dX12_reach_11 : decode cX12_reach 11 = .ok (.aload_n 0, 1) := by decide +kernel
theorem dX12_reach_12 : decode cX12_reach 12 = .ok (.getfield 40, 3) := by decide +kernel
theorem dX12_reach_15 : decode cX12_reach 15 = .ok (.iload_n 1, 1) := by decide +kernel
theorem dX12_reach_16 : decode cX12_reach 16 = .ok (.invokevirtual 266, 3) := by decide +kernel
theorem dX12_reach_19 : decode cX12_reach 19 = .ok (.goto 4, 3) := by decide +kernel
theorem dX12_reach_22 : decode cX12_reach 22 = .ok (.iconst (-1), 1) := by decide +kernel
theorem dX12_reach_23 : decode cX12_reach 23 = .ok (.ireturn, 1) := by decide +kernel
set_option maxRecDepth 100000 in
set_option maxHeartbeats 4000000 in
theorem kX12_reach {E : KE} {l : Launch} (hE : mx_ok E) (i1 : Int32) (hT : xOK E) (M : MM) {q : Int32} (hf : fX12_reach i1 M = some q) : mx_Met E l yX12_reach cX12_reach 2 (some .int) 3 [.ref (E.2.1.2.1 0), .int i1] M (some (.int q)) M := by
  refine mx_enter hE (by decide) (Nat.le_of_ble_eq_true rfl) ?_
  intro p e s m below meth c C hM hn ls hl
  have hx := C.1.1
  have hb := C.1.2.1
  have hown := C.1.2.2.2.1
  have hts := C.1.2.2.2.2
  have hl : lv_has ls 2 [(0, .ref (E.2.1.2.1 0)), (1, .int i1)] := hl
  rw [fX12_reach] at hf
  refine lv_aload_n hx hb dX12_reach_0 rfl (lv_at hl 0 rfl) ?_
  refine gX12_28 C hM (xt_0 hT) (f := (2, 9)) rfl (v := .ref (E.2.1.2.1 9)) rfl dX12_reach_1 ?_
  refine lv_iload_n hx hb dX12_reach_4 rfl (lv_at hl 1 rfl) ?_
  obtain ⟨q5, hq5, hf⟩ := mx_bd hf
  refine mx_callVN C hM hl.1 yo_X3_isRing (h' := 0) (by decide) (nw_657 hT C) qw_659 qs_33 (ci := 3) (q := (RX3, TX3, 18)) rfl (xt_9 hT) (As := [.int i1]) (rest := []) (st1 := [.int (mx_b q5)]) (kX3_isRing C.2.2.2.1 i1 hT M hq5) rfl rfl rfl (Nat.le_of_ble_eq_true rfl) dX12_reach_5 (fun H locs hM => ?_)
  refine lv_if_eq (tgt := 22) hx hb dX12_reach_8 (by decide) (fun hc8 => ?_) (fun hc8 => ?_)
  · replace hf := mx_ift hc8 hf
    refine lv_iconst (v := (-1 : Int32)) hx hb dX12_reach_22 (by decide) ?_
    exact mx_iretR C hM hf dX12_reach_23
  · replace hf := mx_iff hc8 hf
    refine lv_aload_n hx hb dX12_reach_11 rfl (lv_at hl 0 rfl) ?_
    refine gX12_40 C hM (xt_0 hT) (f := (2, 29)) rfl (v := .ref (E.2.1.2.1 29)) rfl dX12_reach_12 ?_
    refine lv_iload_n hx hb dX12_reach_15 rfl (lv_at hl 1 rfl) ?_
    obtain ⟨q16, hq16, hf⟩ := mx_bd hf
    refine mx_callVN C hM hl.1 yo_X9_daysTillMet (h' := 2) (by decide) (nw_813 hT C) qw_815 qs_59 (ci := 9) (q := (RX9, TX9, 13)) rfl (xt_29 hT) (As := [.int i1]) (rest := []) (st1 := [.int q16]) (kX9_daysTillMet C.2.2.2.1 i1 hT M hq16) rfl rfl rfl (Nat.le_of_ble_eq_true rfl) dX12_reach_16 (fun H locs hM => ?_)
    refine lv_goto (tgt := 23) hx hb dX12_reach_19 (by decide) ?_
    exact mx_iretR C hM hf dX12_reach_23
theorem dX12_inTime_0 : decode cX12_inTime 0 = .ok (.iconst 0, 1) := by decide +kernel
theorem dX12_inTime_1 : decode cX12_inTime 1 = .ok (.istore_n 1, 1) := by decide +kernel
theorem dX12_inTime_2 : decode cX12_inTime 2 = .ok (.iconst 0, 1) := by decide +kernel
theorem dX12_inTime_3 : decode cX12_inTime 3 = .ok (.istore_n 2, 1) := by decide +kernel
theorem dX12_inTime_4 : decode cX12_inTime 4 = .ok (.iload_n 2, 1) := by decide +kernel
theorem dX12_inTime_5 : decode cX12_inTime 5 = .ok (.aload_n 0, 1) := by decide +kernel
theorem dX12_inTime_6 : decode cX12_inTime 6 = .ok (.getfield 28, 3) := by decide +kernel
theorem dX12_inTime_9 : decode cX12_inTime 9 = .ok (.getfield 269, 3) := by decide +kernel
theorem dX12_inTime_12 : decode cX12_inTime 12 = .ok (.if_icmp .ge 55, 3) := by decide +kernel
theorem dX12_inTime_15 : decode cX12_inTime 15 = .ok (.aload_n 0, 1) := by decide +kernel
theorem dX12_inTime_16 : decode cX12_inTime 16 = .ok (.getfield 40, 3) := by decide +kernel
theorem dX12_inTime_19 : decode cX12_inTime 19 = .ok (.getfield 201, 3) := by decide +kernel
theorem dX12_inTime_22 : decode cX12_inTime 22 = .ok (.iload_n 2, 1) := by decide +kernel
theorem dX12_inTime_23 : decode cX12_inTime 23 = .ok (.iaload, 1) := by decide +kernel
theorem dX12_inTime_24 : decode cX12_inTime 24 = .ok (.ifCond .ne 37, 3) := by decide +kernel
theorem dX12_inTime_27 : decode cX12_inTime 27 = .ok (.aload_n 0, 1) := by decide +kernel
theorem dX12_inTime_28 : decode cX12_inTime 28 = .ok (.getfield 40, 3) := by decide +kernel
theorem dX12_inTime_31 : decode cX12_inTime 31 = .ok (.getfield 214, 3) := by decide +kernel
theorem dX12_inTime_34 : decode cX12_inTime 34 = .ok (.aload_n 0, 1) := by decide +kernel
theorem dX12_inTime_35 : decode cX12_inTime 35 = .ok (.getfield 40, 3) := by decide +kernel
theorem dX12_inTime_38 : decode cX12_inTime 38 = .ok (.iload_n 2, 1) := by decide +kernel
theorem dX12_inTime_39 : decode cX12_inTime 39 = .ok (.invokevirtual 266, 3) := by decide +kernel
theorem dX12_inTime_42 : decode cX12_inTime 42 = .ok (.iadd, 1) := by decide +kernel
theorem dX12_inTime_43 : decode cX12_inTime 43 = .ok (.aload_n 0, 1) := by decide +kernel
theorem dX12_inTime_44 : decode cX12_inTime 44 = .ok (.getfield 28, 3) := by decide +kernel
theorem dX12_inTime_47 : decode cX12_inTime 47 = .ok (.getfield 195, 3) := by decide +kernel
theorem dX12_inTime_50 : decode cX12_inTime 50 = .ok (.iload_n 2, 1) := by decide +kernel
theorem dX12_inTime_51 : decode cX12_inTime 51 = .ok (.iaload, 1) := by decide +kernel
theorem dX12_inTime_52 : decode cX12_inTime 52 = .ok (.if_icmp .gt 9, 3) := by decide +kernel
theorem dX12_inTime_55 : decode cX12_inTime 55 = .ok (.iload_n 1, 1) := by decide +kernel
theorem dX12_inTime_56 : decode cX12_inTime 56 = .ok (.iconst 1, 1) := by decide +kernel
theorem dX12_inTime_57 : decode cX12_inTime 57 = .ok (.iload_n 2, 1) := by decide +kernel
theorem dX12_inTime_58 : decode cX12_inTime 58 = .ok (.ishl, 1) := by decide +kernel
theorem dX12_inTime_59 : decode cX12_inTime 59 = .ok (.ior, 1) := by decide +kernel
theorem dX12_inTime_60 : decode cX12_inTime 60 = .ok (.istore_n 1, 1) := by decide +kernel
theorem dX12_inTime_61 : decode cX12_inTime 61 = .ok (.iinc 2 1, 3) := by decide +kernel
theorem dX12_inTime_64 : decode cX12_inTime 64 = .ok (.goto (-60), 3) := by decide +kernel
theorem dX12_inTime_67 : decode cX12_inTime 67 = .ok (.iload_n 1, 1) := by decide +kernel
theorem dX12_inTime_68 : decode cX12_inTime 68 = .ok (.ireturn, 1) := by decide +kernel
set_option maxRecDepth 100000 in
set_option maxHeartbeats 4000000 in
theorem wfX12_inTime_4 {E : KE} {p : Program} {l : Launch} {e : Env} {s : State} {m : MethodId} {args : Array Value} {below : List Frame} {meth : Method} {c : Code} {q : Int32} (C : mx_C E p m c cX12_inTime 3 s args RX12 meth (some .int)) (M : MM) (hT : xOK E)   : ∀ (n : Nat) (i1 : Int32) (i2 : Int32) (H : Heap) (locs : List Loc) (ls : Array Slot), fX12_inTime_4 M n i1 i2 = some q → mx_H E s M H locs → lv_has ls 3 [(0, .ref (E.2.1.2.1 0)), (1, .int i1), (2, .int i2)] → W p l e (mx_rm 3) s m args below meth c H locs 0 0 (mx_Z E below args s (some (.int q)) M) (F0 m 4 ls []) := by
  have hx := C.1.1
  have hb := C.1.2.1
  have hown := C.1.2.2.2.1
  have hts := C.1.2.2.2.2
  intro n
  induction n with
  | zero =>
    intro i1 i2 H locs ls hf hM hl
    rw [fX12_inTime_4] at hf
    cases hf
  | succ n ih =>
    intro i1 i2 H locs ls hf hM hl
    rw [fX12_inTime_4] at hf
    refine lv_iload_n hx hb dX12_inTime_4 rfl (lv_at hl 2 rfl) ?_
    refine lv_aload_n hx hb dX12_inTime_5 rfl (lv_at hl 0 rfl) ?_
    refine gX12_28 C hM (xt_0 hT) (f := (2, 9)) rfl (v := .ref (E.2.1.2.1 9)) rfl dX12_inTime_6 ?_
    refine gX12_269 C hT hM (xt_9 hT) (f := (0, 0)) rfl (v := .int (M.1 9 1)) rfl dX12_inTime_9 ?_
    refine lv_icmp_ge (tgt := 67) hx hb dX12_inTime_12 (by decide) (fun hc12 => ?_) (fun hc12 => ?_)
    · replace hf := mx_ift hc12 hf
      refine lv_iload_n hx hb dX12_inTime_67 rfl (lv_at hl 1 rfl) ?_
      exact mx_iretR C hM hf dX12_inTime_68
    · replace hf := mx_iff hc12 hf
      refine lv_aload_n hx hb dX12_inTime_15 rfl (lv_at hl 0 rfl) ?_
      refine gX12_40 C hM (xt_0 hT) (f := (2, 29)) rfl (v := .ref (E.2.1.2.1 29)) rfl dX12_inTime_16 ?_
      refine gX12_201 C hT hM (xt_29 hT) (f := (2, 37)) rfl (v := .ref (E.2.1.2.1 37)) rfl dX12_inTime_19 ?_
      refine lv_iload_n hx hb dX12_inTime_22 rfl (lv_at hl 2 rfl) ?_
      obtain ⟨hg23, hf⟩ := mx_gd hf
      refine mx_iald C hM (xt_37 hT) (mx_in_vp hg23) dX12_inTime_23 ?_
      refine lv_if_ne (tgt := 61) hx hb dX12_inTime_24 (by decide) (fun hc24 => ?_) (fun hc24 => ?_)
      · replace hf := mx_iff hc24 hf
        refine lv_iinc (v := (i2 + (1 : Int32))) (lv' := [(2, .int (i2 + (1 : Int32))), (0, .ref (E.2.1.2.1 0)), (1, .int i1)]) hx hb dX12_inTime_61 hl (k := 2) rfl rfl (by decide) rfl (fun ls hl => ?_)
        refine lv_goto (tgt := 4) hx hb dX12_inTime_64 (by decide) ?_
        exact ih i1 (i2 + (1 : Int32)) _ _ _ hf hM (lv_sub hl [1, 2, 0] rfl)
      · replace hf := mx_ift hc24 hf
        refine lv_aload_n hx hb dX12_inTime_27 rfl (lv_at hl 0 rfl) ?_
        refine gX12_40 C hM (xt_0 hT) (f := (2, 29)) rfl (v := .ref (E.2.1.2.1 29)) rfl dX12_inTime_28 ?_
        refine gX12_214 C hT hM (xt_29 hT) (f := (0, 0)) rfl (v := .int (M.1 29 9)) rfl dX12_inTime_31 ?_
        refine lv_aload_n hx hb dX12_inTime_34 rfl (lv_at hl 0 rfl) ?_
        refine gX12_40 C hM (xt_0 hT) (f := (2, 29)) rfl (v := .ref (E.2.1.2.1 29)) rfl dX12_inTime_35 ?_
        refine lv_iload_n hx hb dX12_inTime_38 rfl (lv_at hl 2 rfl) ?_
        obtain ⟨q39, hq39, hf⟩ := mx_bd hf
        refine mx_callVN C hM hl.1 yo_X9_daysTillMet (h' := 2) (by decide) (nw_813 hT C) qw_815 qs_59 (ci := 9) (q := (RX9, TX9, 13)) rfl (xt_29 hT) (As := [.int i2]) (rest := [.int (M.1 29 9)]) (st1 := [.int q39, .int (M.1 29 9)]) (kX9_daysTillMet C.2.2.2.1 i2 hT M hq39) rfl rfl rfl (Nat.le_of_ble_eq_true rfl) dX12_inTime_39 (fun H locs hM => ?_)
        refine lv_iadd hx hb dX12_inTime_42 ?_
        refine lv_aload_n hx hb dX12_inTime_43 rfl (lv_at hl 0 rfl) ?_
        refine gX12_28 C hM (xt_0 hT) (f := (2, 9)) rfl (v := .ref (E.2.1.2.1 9)) rfl dX12_inTime_44 ?_
        refine gX12_195 C hT hM (xt_9 hT) (f := (2, 18)) rfl (v := .ref (E.2.1.2.1 18)) rfl dX12_inTime_47 ?_
        refine lv_iload_n hx hb dX12_inTime_50 rfl (lv_at hl 2 rfl) ?_
        obtain ⟨hg51, hf⟩ := mx_gd hf
        refine mx_iald C hM (xt_18 hT) (mx_in_vp hg51) dX12_inTime_51 ?_
        refine lv_icmp_gt (tgt := 61) hx hb dX12_inTime_52 (by decide) (fun hc52 => ?_) (fun hc52 => ?_)
        · replace hf := mx_ift hc52 hf
          refine lv_iinc (v := (i2 + (1 : Int32))) (lv' := [(2, .int (i2 + (1 : Int32))), (0, .ref (E.2.1.2.1 0)), (1, .int i1)]) hx hb dX12_inTime_61 hl (k := 2) rfl rfl (by decide) rfl (fun ls hl => ?_)
          refine lv_goto (tgt := 4) hx hb dX12_inTime_64 (by decide) ?_
          exact ih i1 (i2 + (1 : Int32)) _ _ _ hf hM (lv_sub hl [1, 2, 0] rfl)
        · replace hf := mx_iff hc52 hf
          refine lv_iload_n hx hb dX12_inTime_55 rfl (lv_at hl 1 rfl) ?_
          refine lv_iconst (v := (1 : Int32)) hx hb dX12_inTime_56 (by decide) ?_
          refine lv_iload_n hx hb dX12_inTime_57 rfl (lv_at hl 2 rfl) ?_
          refine lv_ishl hx hb dX12_inTime_58 ?_
          refine lv_ior hx hb dX12_inTime_59 ?_
          refine lv_istore_n (lv' := [(1, .int (i1 ||| ((1 : Int32) <<< (i2 &&& 31)))), (0, .ref (E.2.1.2.1 0)), (2, .int i2)]) hx hb dX12_inTime_60 rfl hl (by decide) rfl (fun ls hl => ?_)
          refine lv_iinc (v := (i2 + (1 : Int32))) (lv' := [(2, .int (i2 + (1 : Int32))), (1, .int (i1 ||| ((1 : Int32) <<< (i2 &&& 31)))), (0, .ref (E.2.1.2.1 0))]) hx hb dX12_inTime_61 hl (k := 2) rfl rfl (by decide) rfl (fun ls hl => ?_)
          refine lv_goto (tgt := 4) hx hb dX12_inTime_64 (by decide) ?_
          exact ih (i1 ||| ((1 : Int32) <<< (i2 &&& 31))) (i2 + (1 : Int32)) _ _ _ hf hM (lv_sub hl [2, 1, 0] rfl)
set_option maxRecDepth 100000 in
set_option maxHeartbeats 4000000 in
theorem kX12_inTime {E : KE} {l : Launch} (hE : mx_ok E)  (hT : xOK E) (M : MM) {q : Int32} (hf : fX12_inTime M = some q) : mx_Met E l yX12_inTime cX12_inTime 3 (some .int) 3 [.ref (E.2.1.2.1 0)] M (some (.int q)) M := by
  refine mx_enter hE (by decide) (Nat.le_of_ble_eq_true rfl) ?_
  intro p e s m below meth c C hM hn ls hl
  have hx := C.1.1
  have hb := C.1.2.1
  have hown := C.1.2.2.2.1
  have hts := C.1.2.2.2.2
  have hl : lv_has ls 3 [(0, .ref (E.2.1.2.1 0))] := hl
  rw [fX12_inTime] at hf
  refine lv_iconst (v := (0 : Int32)) hx hb dX12_inTime_0 (by decide) ?_
  refine lv_istore_n (lv' := [(1, .int (0 : Int32)), (0, .ref (E.2.1.2.1 0))]) hx hb dX12_inTime_1 rfl hl (by decide) rfl (fun ls hl => ?_)
  refine lv_iconst (v := (0 : Int32)) hx hb dX12_inTime_2 (by decide) ?_
  refine lv_istore_n (lv' := [(2, .int (0 : Int32)), (1, .int (0 : Int32)), (0, .ref (E.2.1.2.1 0))]) hx hb dX12_inTime_3 rfl hl (by decide) rfl (fun ls hl => ?_)
  exact wfX12_inTime_4 C M hT mx_fu (0 : Int32) (0 : Int32) _ _ _ hf hM (lv_sub hl [2, 1, 0] rfl)
theorem dX12_tour_0 : decode cX12_tour 0 = .ok (.aload_n 0, 1) := by decide +kernel
theorem dX12_tour_1 : decode cX12_tour 1 = .ok (.getfield 28, 3) := by decide +kernel
theorem dX12_tour_4 : decode cX12_tour 4 = .ok (.iload_n 1, 1) := by decide +kernel
theorem dX12_tour_5 : decode cX12_tour 5 = .ok (.invokevirtual 154, 3) := by decide +kernel
theorem dX12_tour_8 : decode cX12_tour 8 = .ok (.ifCond .eq 18, 3) := by decide +kernel
theorem dX12_tour_11 : decode cX12_tour 11 = .ok (.aload_n 0, 1) := by decide +kernel
theorem dX12_tour_12 : decode cX12_tour 12 = .ok (.getfield 77, 3) := by decide +kernel
theorem dX12_tour_15 : decode cX12_tour 15 = .ok (.aload_n 0, 1) := by decide +kernel
theorem dX12_tour_16 : decode cX12_tour 16 = .ok (.getfield 40, 3) := by decide +kernel
theorem dX12_tour_19 : decode cX12_tour 19 = .ok (.iload_n 1, 1) := by decide +kernel
theorem dX12_tour_20 : decode cX12_tour 20 = .ok (.invokevirtual 272, 3) := by decide +kernel
theorem dX12_tour_23 : decode cX12_tour 23 = .ok (.goto 4, 3) := by decide +kernel
theorem dX12_tour_26 : decode cX12_tour 26 = .ok (.iconst (-1), 1) := by decide +kernel
theorem dX12_tour_27 : decode cX12_tour 27 = .ok (.ireturn, 1) := by decide +kernel
set_option maxRecDepth 100000 in
set_option maxHeartbeats 4000000 in
theorem kX12_tour {E : KE} {l : Launch} (hE : mx_ok E) (i1 : Int32) (hT : xOK E) (M : MM) {q : (Int32 × MM)} (hf : fX12_tour i1 M = some q) : mx_Met E l yX12_tour cX12_tour 2 (some .int) 7 [.ref (E.2.1.2.1 0), .int i1] M (some (.int q.1)) q.2 := by
  refine mx_enter hE (by decide) (Nat.le_of_ble_eq_true rfl) ?_
  intro p e s m below meth c C hM hn ls hl
  have hx := C.1.1
  have hb := C.1.2.1
  have hown := C.1.2.2.2.1
  have hts := C.1.2.2.2.2
  have hl : lv_has ls 2 [(0, .ref (E.2.1.2.1 0)), (1, .int i1)] := hl
  rw [fX12_tour] at hf
  refine lv_aload_n hx hb dX12_tour_0 rfl (lv_at hl 0 rfl) ?_
  refine gX12_28 C hM (xt_0 hT) (f := (2, 9)) rfl (v := .ref (E.2.1.2.1 9)) rfl dX12_tour_1 ?_
  refine lv_iload_n hx hb dX12_tour_4 rfl (lv_at hl 1 rfl) ?_
  obtain ⟨q5, hq5, hf⟩ := mx_bd hf
  refine mx_callVN C hM hl.1 yo_X3_isPerson (h' := 0) (by decide) (nw_661 hT C) qw_663 qs_34 (ci := 3) (q := (RX3, TX3, 18)) rfl (xt_9 hT) (As := [.int i1]) (rest := []) (st1 := [.int (mx_b q5)]) (kX3_isPerson C.2.2.2.1 i1 hT M hq5) rfl rfl rfl (Nat.le_of_ble_eq_true rfl) dX12_tour_5 (fun H locs hM => ?_)
  refine lv_if_eq (tgt := 26) hx hb dX12_tour_8 (by decide) (fun hc8 => ?_) (fun hc8 => ?_)
  · replace hf := mx_ift hc8 hf
    refine lv_iconst (v := (-1 : Int32)) hx hb dX12_tour_26 (by decide) ?_
    exact mx_iret C hM hf dX12_tour_27
  · replace hf := mx_iff hc8 hf
    refine lv_aload_n hx hb dX12_tour_11 rfl (lv_at hl 0 rfl) ?_
    refine gX12_77 C hM (xt_0 hT) (f := (2, 143)) rfl (v := .ref (E.2.1.2.1 143)) rfl dX12_tour_12 ?_
    refine lv_aload_n hx hb dX12_tour_15 rfl (lv_at hl 0 rfl) ?_
    refine gX12_40 C hM (xt_0 hT) (f := (2, 29)) rfl (v := .ref (E.2.1.2.1 29)) rfl dX12_tour_16 ?_
    refine lv_iload_n hx hb dX12_tour_19 rfl (lv_at hl 1 rfl) ?_
    obtain ⟨q20, hq20, hf⟩ := mx_bd hf
    refine mx_callVN C hM hl.1 yo_X6_planTour (h' := 6) (by decide) (nw_833 hT C) qw_835 qs_62 (ci := 6) (q := (RX6, TX6, 7)) rfl (xt_143 hT) (As := [.ref (E.2.1.2.1 29), .int i1]) (rest := []) (st1 := [.int q20.1]) (kX6_planTour C.2.2.2.1 i1 hT M hq20) rfl rfl rfl (Nat.le_of_ble_eq_true rfl) dX12_tour_20 (fun H locs hM => ?_)
    refine lv_goto (tgt := 27) hx hb dX12_tour_23 (by decide) ?_
    exact mx_iret C hM hf dX12_tour_27
theorem dX12_tourAt_0 : decode cX12_tourAt 0 = .ok (.iload_n 1, 1) := by decide +kernel
theorem dX12_tourAt_1 : decode cX12_tourAt 1 = .ok (.ifCond .lt 14, 3) := by decide +kernel
theorem dX12_tourAt_4 : decode cX12_tourAt 4 = .ok (.iload_n 1, 1) := by decide +kernel
theorem dX12_tourAt_5 : decode cX12_tourAt 5 = .ok (.aload_n 0, 1) := by decide +kernel
theorem dX12_tourAt_6 : decode cX12_tourAt 6 = .ok (.getfield 77, 3) := by decide +kernel
theorem dX12_tourAt_9 : decode cX12_tourAt 9 = .ok (.getfield 276, 3) := by decide +kernel
theorem dX12_tourAt_12 : decode cX12_tourAt 12 = .ok (.if_icmp .lt 7, 3) := by decide +kernel
theorem dX12_tourAt_15 : decode cX12_tourAt 15 = .ok (.iconst (-1), 1) := by decide +kernel
theorem dX12_tourAt_16 : decode cX12_tourAt 16 = .ok (.goto 12, 3) := by decide +kernel
theorem dX12_tourAt_19 : decode cX12_tourAt 19 = .ok (.aload_n 0, 1) := by decide +kernel
theorem dX12_tourAt_20 : decode cX12_tourAt 20 = .ok (.getfield 77, 3) := by decide +kernel
theorem dX12_tourAt_23 : decode cX12_tourAt 23 = .ok (.getfield 279, 3) := by decide +kernel
theorem dX12_tourAt_26 : decode cX12_tourAt 26 = .ok (.iload_n 1, 1) := by decide +kernel
theorem dX12_tourAt_27 : decode cX12_tourAt 27 = .ok (.iaload, 1) := by decide +kernel
theorem dX12_tourAt_28 : decode cX12_tourAt 28 = .ok (.ireturn, 1) := by decide +kernel
set_option maxRecDepth 100000 in
set_option maxHeartbeats 4000000 in
theorem kX12_tourAt {E : KE} {l : Launch} (hE : mx_ok E) (i1 : Int32) (hT : xOK E) (M : MM) {q : Int32} (hf : fX12_tourAt i1 M = some q) : mx_Met E l yX12_tourAt cX12_tourAt 2 (some .int) 0 [.ref (E.2.1.2.1 0), .int i1] M (some (.int q)) M := by
  refine mx_enter hE (by decide) (Nat.le_of_ble_eq_true rfl) ?_
  intro p e s m below meth c C hM hn ls hl
  have hx := C.1.1
  have hb := C.1.2.1
  have hown := C.1.2.2.2.1
  have hts := C.1.2.2.2.2
  have hl : lv_has ls 2 [(0, .ref (E.2.1.2.1 0)), (1, .int i1)] := hl
  rw [fX12_tourAt] at hf
  refine lv_iload_n hx hb dX12_tourAt_0 rfl (lv_at hl 1 rfl) ?_
  refine lv_if_lt (tgt := 15) hx hb dX12_tourAt_1 (by decide) (fun hc1 => ?_) (fun hc1 => ?_)
  · replace hf := mx_ift hc1 hf
    refine lv_iconst (v := (-1 : Int32)) hx hb dX12_tourAt_15 (by decide) ?_
    refine lv_goto (tgt := 28) hx hb dX12_tourAt_16 (by decide) ?_
    exact mx_iretR C hM hf dX12_tourAt_28
  · replace hf := mx_iff hc1 hf
    refine lv_iload_n hx hb dX12_tourAt_4 rfl (lv_at hl 1 rfl) ?_
    refine lv_aload_n hx hb dX12_tourAt_5 rfl (lv_at hl 0 rfl) ?_
    refine gX12_77 C hM (xt_0 hT) (f := (2, 143)) rfl (v := .ref (E.2.1.2.1 143)) rfl dX12_tourAt_6 ?_
    refine gX12_276 C hT hM (xt_143 hT) (f := (0, 0)) rfl (v := .int (M.1 143 1)) rfl dX12_tourAt_9 ?_
    refine lv_icmp_lt (tgt := 19) hx hb dX12_tourAt_12 (by decide) (fun hc12 => ?_) (fun hc12 => ?_)
    · replace hf := mx_ift hc12 hf
      refine lv_aload_n hx hb dX12_tourAt_19 rfl (lv_at hl 0 rfl) ?_
      refine gX12_77 C hM (xt_0 hT) (f := (2, 143)) rfl (v := .ref (E.2.1.2.1 143)) rfl dX12_tourAt_20 ?_
      refine gX12_279 C hT hM (xt_143 hT) (f := (2, 144)) rfl (v := .ref (E.2.1.2.1 144)) rfl dX12_tourAt_23 ?_
      refine lv_iload_n hx hb dX12_tourAt_26 rfl (lv_at hl 1 rfl) ?_
      obtain ⟨hg27, hf⟩ := mx_gd hf
      refine mx_iald C hM (xt_144 hT) (mx_in_vp hg27) dX12_tourAt_27 ?_
      exact mx_iretR C hM hf dX12_tourAt_28
    · replace hf := mx_iff hc12 hf
      refine lv_iconst (v := (-1 : Int32)) hx hb dX12_tourAt_15 (by decide) ?_
      refine lv_goto (tgt := 28) hx hb dX12_tourAt_16 (by decide) ?_
      exact mx_iretR C hM hf dX12_tourAt_28
theorem dX12_keepers_0 : decode cX12_keepers 0 = .ok (.aload_n 0, 1) := by decide +kernel
theorem dX12_keepers_1 : decode cX12_keepers 1 = .ok (.getfield 77, 3) := by decide +kernel
theorem dX12_keepers_4 : decode cX12_keepers 4 = .ok (.aload_n 0, 1) := by decide +kernel
theorem dX12_keepers_5 : decode cX12_keepers 5 = .ok (.getfield 40, 3) := by decide +kernel
theorem dX12_keepers_8 : decode cX12_keepers 8 = .ok (.invokevirtual 282, 3) := by decide +kernel
theorem dX12_keepers_11 : decode cX12_keepers 11 = .ok (.ireturn, 1) := by decide +kernel
set_option maxRecDepth 100000 in
set_option maxHeartbeats 4000000 in
theorem kX12_keepers {E : KE} {l : Launch} (hE : mx_ok E)  (hT : xOK E) (M : MM) {q : (Int32 × MM)} (hf : fX12_keepers M = some q) : mx_Met E l yX12_keepers cX12_keepers 1 (some .int) 7 [.ref (E.2.1.2.1 0)] M (some (.int q.1)) q.2 := by
  refine mx_enter hE (by decide) (Nat.le_of_ble_eq_true rfl) ?_
  intro p e s m below meth c C hM hn ls hl
  have hx := C.1.1
  have hb := C.1.2.1
  have hown := C.1.2.2.2.1
  have hts := C.1.2.2.2.2
  have hl : lv_has ls 1 [(0, .ref (E.2.1.2.1 0))] := hl
  rw [fX12_keepers] at hf
  refine lv_aload_n hx hb dX12_keepers_0 rfl (lv_at hl 0 rfl) ?_
  refine gX12_77 C hM (xt_0 hT) (f := (2, 143)) rfl (v := .ref (E.2.1.2.1 143)) rfl dX12_keepers_1 ?_
  refine lv_aload_n hx hb dX12_keepers_4 rfl (lv_at hl 0 rfl) ?_
  refine gX12_40 C hM (xt_0 hT) (f := (2, 29)) rfl (v := .ref (E.2.1.2.1 29)) rfl dX12_keepers_5 ?_
  obtain ⟨q8, hq8, hf⟩ := mx_bd hf
  refine mx_callVN C hM hl.1 yo_X6_planKeepers (h' := 6) (by decide) (nw_873 hT C) qw_875 qs_68 (ci := 6) (q := (RX6, TX6, 7)) rfl (xt_143 hT) (As := [.ref (E.2.1.2.1 29)]) (rest := []) (st1 := [.int q8.1]) (kX6_planKeepers C.2.2.2.1 hT M hq8) rfl rfl rfl (Nat.le_of_ble_eq_true rfl) dX12_keepers_8 (fun H locs hM => ?_)
  exact mx_iret C hM hf dX12_keepers_11
theorem dX12_keeperOf_0 : decode cX12_keeperOf 0 = .ok (.iload_n 1, 1) := by decide +kernel
theorem dX12_keeperOf_1 : decode cX12_keeperOf 1 = .ok (.ifCond .lt 9, 3) := by decide +kernel
theorem dX12_keeperOf_4 : decode cX12_keeperOf 4 = .ok (.iload_n 1, 1) := by decide +kernel
theorem dX12_keeperOf_5 : decode cX12_keeperOf 5 = .ok (.bipush 7, 2) := by decide +kernel
theorem dX12_keeperOf_7 : decode cX12_keeperOf 7 = .ok (.if_icmp .lt 7, 3) := by decide +kernel
theorem dX12_keeperOf_10 : decode cX12_keeperOf 10 = .ok (.iconst (-1), 1) := by decide +kernel
theorem dX12_keeperOf_11 : decode cX12_keeperOf 11 = .ok (.goto 12, 3) := by decide +kernel
theorem dX12_keeperOf_14 : decode cX12_keeperOf 14 = .ok (.aload_n 0, 1) := by decide +kernel
theorem dX12_keeperOf_15 : decode cX12_keeperOf 15 = .ok (.getfield 77, 3) := by decide +kernel
theorem dX12_keeperOf_18 : decode cX12_keeperOf 18 = .ok (.getfield 286, 3) := by decide +kernel
theorem dX12_keeperOf_21 : decode cX12_keeperOf 21 = .ok (.iload_n 1, 1) := by decide +kernel
theorem dX12_keeperOf_22 : decode cX12_keeperOf 22 = .ok (.iaload, 1) := by decide +kernel
theorem dX12_keeperOf_23 : decode cX12_keeperOf 23 = .ok (.ireturn, 1) := by decide +kernel
set_option maxRecDepth 100000 in
set_option maxHeartbeats 4000000 in
theorem kX12_keeperOf {E : KE} {l : Launch} (hE : mx_ok E) (i1 : Int32) (hT : xOK E) (M : MM) {q : Int32} (hf : fX12_keeperOf i1 M = some q) : mx_Met E l yX12_keeperOf cX12_keeperOf 2 (some .int) 0 [.ref (E.2.1.2.1 0), .int i1] M (some (.int q)) M := by
  refine mx_enter hE (by decide) (Nat.le_of_ble_eq_true rfl) ?_
  intro p e s m below meth c C hM hn ls hl
  have hx := C.1.1
  have hb := C.1.2.1
  have hown := C.1.2.2.2.1
  have hts := C.1.2.2.2.2
  have hl : lv_has ls 2 [(0, .ref (E.2.1.2.1 0)), (1, .int i1)] := hl
  rw [fX12_keeperOf] at hf
  refine lv_iload_n hx hb dX12_keeperOf_0 rfl (lv_at hl 1 rfl) ?_
  refine lv_if_lt (tgt := 10) hx hb dX12_keeperOf_1 (by decide) (fun hc1 => ?_) (fun hc1 => ?_)
  · replace hf := mx_ift hc1 hf
    refine lv_iconst (v := (-1 : Int32)) hx hb dX12_keeperOf_10 (by decide) ?_
    refine lv_goto (tgt := 23) hx hb dX12_keeperOf_11 (by decide) ?_
    exact mx_iretR C hM hf dX12_keeperOf_23
  · replace hf := mx_iff hc1 hf
    refine lv_iload_n hx hb dX12_keeperOf_4 rfl (lv_at hl 1 rfl) ?_
    refine lv_bipush (v := (7 : Int32)) hx hb dX12_keeperOf_5 (by decide) ?_
    refine lv_icmp_lt (tgt := 14) hx hb dX12_keeperOf_7 (by decide) (fun hc7 => ?_) (fun hc7 => ?_)
    · replace hf := mx_ift hc7 hf
      refine lv_aload_n hx hb dX12_keeperOf_14 rfl (lv_at hl 0 rfl) ?_
      refine gX12_77 C hM (xt_0 hT) (f := (2, 143)) rfl (v := .ref (E.2.1.2.1 143)) rfl dX12_keeperOf_15 ?_
      refine gX12_286 C hT hM (xt_143 hT) (f := (2, 145)) rfl (v := .ref (E.2.1.2.1 145)) rfl dX12_keeperOf_18 ?_
      refine lv_iload_n hx hb dX12_keeperOf_21 rfl (lv_at hl 1 rfl) ?_
      obtain ⟨hg22, hf⟩ := mx_gd hf
      refine mx_iald C hM (xt_145 hT) (mx_in_vp hg22) dX12_keeperOf_22 ?_
      exact mx_iretR C hM hf dX12_keeperOf_23
    · replace hf := mx_iff hc7 hf
      refine lv_iconst (v := (-1 : Int32)) hx hb dX12_keeperOf_10 (by decide) ?_
      refine lv_goto (tgt := 23) hx hb dX12_keeperOf_11 (by decide) ?_
      exact mx_iretR C hM hf dX12_keeperOf_23
theorem dX12_sizes_0 : decode cX12_sizes 0 = .ok (.aload_n 0, 1) := by decide +kernel
theorem dX12_sizes_1 : decode cX12_sizes 1 = .ok (.getfield 84, 3) := by decide +kernel
theorem dX12_sizes_4 : decode cX12_sizes 4 = .ok (.aload_n 0, 1) := by decide +kernel
theorem dX12_sizes_5 : decode cX12_sizes 5 = .ok (.getfield 28, 3) := by decide +kernel
theorem dX12_sizes_8 : decode cX12_sizes 8 = .ok (.aload_n 0, 1) := by decide +kernel
theorem dX12_sizes_9 : decode cX12_sizes 9 = .ok (.getfield 10, 3) := by decide +kernel
theorem dX12_sizes_12 : decode cX12_sizes 12 = .ok (.invokevirtual 289, 3) := by decide +kernel
theorem dX12_sizes_15 : decode cX12_sizes 15 = .ok (.istore_n 1, 1) := by decide +kernel
theorem dX12_sizes_16 : decode cX12_sizes 16 = .ok (.aload_n 0, 1) := by decide +kernel
theorem dX12_sizes_17 : decode cX12_sizes 17 = .ok (.getfield 10, 3) := by decide +kernel
theorem dX12_sizes_20 : decode cX12_sizes 20 = .ok (.invokevirtual 134, 3) := by decide +kernel
theorem dX12_sizes_23 : decode cX12_sizes 23 = .ok (.iload_n 1, 1) := by decide +kernel
theorem dX12_sizes_24 : decode cX12_sizes 24 = .ok (.ireturn, 1) := by decide +kernel
set_option maxRecDepth 100000 in
set_option maxHeartbeats 4000000 in
theorem kX12_sizes {E : KE} {l : Launch} (hE : mx_ok E)  (hT : xOK E) (M : MM) {q : (Int32 × MM)} (hf : fX12_sizes M = some q) : mx_Met E l yX12_sizes cX12_sizes 2 (some .int) 4 [.ref (E.2.1.2.1 0)] M (some (.int q.1)) q.2 := by
  refine mx_enter hE (by decide) (Nat.le_of_ble_eq_true rfl) ?_
  intro p e s m below meth c C hM hn ls hl
  have hx := C.1.1
  have hb := C.1.2.1
  have hown := C.1.2.2.2.1
  have hts := C.1.2.2.2.2
  have hl : lv_has ls 2 [(0, .ref (E.2.1.2.1 0))] := hl
  rw [fX12_sizes] at hf
  refine lv_aload_n hx hb dX12_sizes_0 rfl (lv_at hl 0 rfl) ?_
  refine gX12_84 C hM (xt_0 hT) (f := (2, 149)) rfl (v := .ref (E.2.1.2.1 149)) rfl dX12_sizes_1 ?_
  refine lv_aload_n hx hb dX12_sizes_4 rfl (lv_at hl 0 rfl) ?_
  refine gX12_28 C hM (xt_0 hT) (f := (2, 9)) rfl (v := .ref (E.2.1.2.1 9)) rfl dX12_sizes_5 ?_
  refine lv_aload_n hx hb dX12_sizes_8 rfl (lv_at hl 0 rfl) ?_
  refine gX12_10 C hM (xt_0 hT) (f := (2, 1)) rfl (v := .ref (E.2.1.2.1 1)) rfl dX12_sizes_9 ?_
  obtain ⟨q12, hq12, hf⟩ := mx_bd hf
  refine mx_callVN C hM hl.1 yo_X2_readTries (h' := 3) (by decide) (nw_905 hT C) qw_907 qs_73 (ci := 2) (q := (RX2, TX2, 4)) rfl (xt_149 hT) (As := [.ref (E.2.1.2.1 9), .ref (E.2.1.2.1 1)]) (rest := []) (st1 := [.int q12.1]) (kX2_readTries C.2.2.2.1 hT M hq12) rfl rfl rfl (Nat.le_of_ble_eq_true rfl) dX12_sizes_12 (fun H locs hM => ?_)
  refine lv_istore_n (lv' := [(1, .int q12.1), (0, .ref (E.2.1.2.1 0))]) hx hb dX12_sizes_15 rfl hl (by decide) rfl (fun ls hl => ?_)
  refine lv_aload_n hx hb dX12_sizes_16 rfl (lv_at hl 1 rfl) ?_
  refine gX12_10 C hM (xt_0 hT) (f := (2, 1)) rfl (v := .ref (E.2.1.2.1 1)) rfl dX12_sizes_17 ?_
  obtain ⟨q20, hq20, hf⟩ := mx_bd hf
  refine mx_callVN C hM hl.1 yo_X10_clear (h' := 0) (by decide) (nw_622 hT C) qw_624 qs_27 (ci := 10) (q := (RX10, TX10, 2)) rfl (xt_1 hT) (As := []) (rest := []) (st1 := []) (kX10_clear C.2.2.2.1 hT q12.2 hq20) rfl rfl rfl (Nat.le_of_ble_eq_true rfl) dX12_sizes_20 (fun H locs hM => ?_)
  refine lv_iload_n hx hb dX12_sizes_23 rfl (lv_at hl 0 rfl) ?_
  exact mx_iret C hM hf dX12_sizes_24
theorem dX12_sizeLeast_0 : decode cX12_sizeLeast 0 = .ok (.aload_n 0, 1) := by decide +kernel
theorem dX12_sizeLeast_1 : decode cX12_sizeLeast 1 = .ok (.getfield 84, 3) := by decide +kernel
theorem dX12_sizeLeast_4 : decode cX12_sizeLeast 4 = .ok (.getfield 293, 3) := by decide +kernel
theorem dX12_sizeLeast_7 : decode cX12_sizeLeast 7 = .ok (.ireturn, 1) := by decide +kernel
set_option maxRecDepth 100000 in
set_option maxHeartbeats 4000000 in
theorem kX12_sizeLeast {E : KE} {l : Launch} (hE : mx_ok E)  (hT : xOK E) (M : MM) {q : Int32} (hf : fX12_sizeLeast M = some q) : mx_Met E l yX12_sizeLeast cX12_sizeLeast 1 (some .int) 0 [.ref (E.2.1.2.1 0)] M (some (.int q)) M := by
  refine mx_enter hE (by decide) (Nat.le_of_ble_eq_true rfl) ?_
  intro p e s m below meth c C hM hn ls hl
  have hx := C.1.1
  have hb := C.1.2.1
  have hown := C.1.2.2.2.1
  have hts := C.1.2.2.2.2
  have hl : lv_has ls 1 [(0, .ref (E.2.1.2.1 0))] := hl
  rw [fX12_sizeLeast] at hf
  refine lv_aload_n hx hb dX12_sizeLeast_0 rfl (lv_at hl 0 rfl) ?_
  refine gX12_84 C hM (xt_0 hT) (f := (2, 149)) rfl (v := .ref (E.2.1.2.1 149)) rfl dX12_sizeLeast_1 ?_
  refine gX12_293 C hT hM (xt_149 hT) (f := (0, 0)) rfl (v := .int (M.1 149 0)) rfl dX12_sizeLeast_4 ?_
  exact mx_iretR C hM hf dX12_sizeLeast_7
theorem dX12_knuckle_0 : decode cX12_knuckle 0 = .ok (.aload_n 0, 1) := by decide +kernel
theorem dX12_knuckle_1 : decode cX12_knuckle 1 = .ok (.getfield 84, 3) := by decide +kernel
theorem dX12_knuckle_4 : decode cX12_knuckle 4 = .ok (.getfield 296, 3) := by decide +kernel
theorem dX12_knuckle_7 : decode cX12_knuckle 7 = .ok (.ireturn, 1) := by decide +kernel
set_option maxRecDepth 100000 in
set_option maxHeartbeats 4000000 in
theorem kX12_knuckle {E : KE} {l : Launch} (hE : mx_ok E)  (hT : xOK E) (M : MM) {q : Int32} (hf : fX12_knuckle M = some q) : mx_Met E l yX12_knuckle cX12_knuckle 1 (some .int) 0 [.ref (E.2.1.2.1 0)] M (some (.int q)) M := by
  refine mx_enter hE (by decide) (Nat.le_of_ble_eq_true rfl) ?_
  intro p e s m below meth c C hM hn ls hl
  have hx := C.1.1
  have hb := C.1.2.1
  have hown := C.1.2.2.2.1
  have hts := C.1.2.2.2.2
  have hl : lv_has ls 1 [(0, .ref (E.2.1.2.1 0))] := hl
  rw [fX12_knuckle] at hf
  refine lv_aload_n hx hb dX12_knuckle_0 rfl (lv_at hl 0 rfl) ?_
  refine gX12_84 C hM (xt_0 hT) (f := (2, 149)) rfl (v := .ref (E.2.1.2.1 149)) rfl dX12_knuckle_1 ?_
  refine gX12_296 C hT hM (xt_149 hT) (f := (0, 0)) rfl (v := .int (M.1 149 1)) rfl dX12_knuckle_4 ?_
  exact mx_iretR C hM hf dX12_knuckle_7
theorem dX12_ways_0 : decode cX12_ways 0 = .ok (.aload_n 0, 1) := by decide +kernel
theorem dX12_ways_1 : decode cX12_ways 1 = .ok (.getfield 84, 3) := by decide +kernel
theorem dX12_ways_4 : decode cX12_ways 4 = .ok (.aload_n 0, 1) := by decide +kernel
theorem dX12_ways_5 : decode cX12_ways 5 = .ok (.getfield 28, 3) := by decide +kernel
theorem dX12_ways_8 : decode cX12_ways 8 = .ok (.invokevirtual 299, 3) := by decide +kernel
theorem dX12_ways_11 : decode cX12_ways 11 = .ok (.ireturn, 1) := by decide +kernel
set_option maxRecDepth 100000 in
set_option maxHeartbeats 4000000 in
theorem kX12_ways {E : KE} {l : Launch} (hE : mx_ok E)  (hT : xOK E) (M : MM) {q : (Int32 × MM)} (hf : fX12_ways M = some q) : mx_Met E l yX12_ways cX12_ways 1 (some .int) 5 [.ref (E.2.1.2.1 0)] M (some (.int q.1)) q.2 := by
  refine mx_enter hE (by decide) (Nat.le_of_ble_eq_true rfl) ?_
  intro p e s m below meth c C hM hn ls hl
  have hx := C.1.1
  have hb := C.1.2.1
  have hown := C.1.2.2.2.1
  have hts := C.1.2.2.2.2
  have hl : lv_has ls 1 [(0, .ref (E.2.1.2.1 0))] := hl
  rw [fX12_ways] at hf
  refine lv_aload_n hx hb dX12_ways_0 rfl (lv_at hl 0 rfl) ?_
  refine gX12_84 C hM (xt_0 hT) (f := (2, 149)) rfl (v := .ref (E.2.1.2.1 149)) rfl dX12_ways_1 ?_
  refine lv_aload_n hx hb dX12_ways_4 rfl (lv_at hl 0 rfl) ?_
  refine gX12_28 C hM (xt_0 hT) (f := (2, 9)) rfl (v := .ref (E.2.1.2.1 9)) rfl dX12_ways_5 ?_
  obtain ⟨q8, hq8, hf⟩ := mx_bd hf
  refine mx_callVN C hM hl.1 yo_X2_waysToGive (h' := 4) (by decide) (nw_940 hT C) qw_942 qs_74 (ci := 2) (q := (RX2, TX2, 4)) rfl (xt_149 hT) (As := [.ref (E.2.1.2.1 9)]) (rest := []) (st1 := [.int q8.1]) (kX2_waysToGive C.2.2.2.1 hT M hq8) rfl rfl rfl (Nat.le_of_ble_eq_true rfl) dX12_ways_8 (fun H locs hM => ?_)
  exact mx_iret C hM hf dX12_ways_11
theorem dX12_likely_0 : decode cX12_likely 0 = .ok (.aload_n 0, 1) := by decide +kernel
theorem dX12_likely_1 : decode cX12_likely 1 = .ok (.getfield 28, 3) := by decide +kernel
theorem dX12_likely_4 : decode cX12_likely 4 = .ok (.iload_n 1, 1) := by decide +kernel
theorem dX12_likely_5 : decode cX12_likely 5 = .ok (.invokevirtual 183, 3) := by decide +kernel
theorem dX12_likely_8 : decode cX12_likely 8 = .ok (.ifCond .eq 18, 3) := by decide +kernel
theorem dX12_likely_11 : decode cX12_likely 11 = .ok (.aload_n 0, 1) := by decide +kernel
theorem dX12_likely_12 : decode cX12_likely 12 = .ok (.getfield 84, 3) := by decide +kernel
theorem dX12_likely_15 : decode cX12_likely 15 = .ok (.aload_n 0, 1) := by decide +kernel
theorem dX12_likely_16 : decode cX12_likely 16 = .ok (.getfield 28, 3) := by decide +kernel
theorem dX12_likely_19 : decode cX12_likely 19 = .ok (.iload_n 1, 1) := by decide +kernel
theorem dX12_likely_20 : decode cX12_likely 20 = .ok (.invokevirtual 303, 3) := by decide +kernel
theorem dX12_likely_23 : decode cX12_likely 23 = .ok (.goto 4, 3) := by decide +kernel
theorem dX12_likely_26 : decode cX12_likely 26 = .ok (.iconst (-1), 1) := by decide +kernel
theorem dX12_likely_27 : decode cX12_likely 27 = .ok (.ireturn, 1) := by decide +kernel
set_option maxRecDepth 100000 in
set_option maxHeartbeats 4000000 in
theorem kX12_likely {E : KE} {l : Launch} (hE : mx_ok E) (i1 : Int32) (hT : xOK E) (M : MM) {q : (Int32 × MM)} (hf : fX12_likely i1 M = some q) : mx_Met E l yX12_likely cX12_likely 2 (some .int) 6 [.ref (E.2.1.2.1 0), .int i1] M (some (.int q.1)) q.2 := by
  refine mx_enter hE (by decide) (Nat.le_of_ble_eq_true rfl) ?_
  intro p e s m below meth c C hM hn ls hl
  have hx := C.1.1
  have hb := C.1.2.1
  have hown := C.1.2.2.2.1
  have hts := C.1.2.2.2.2
  have hl : lv_has ls 2 [(0, .ref (E.2.1.2.1 0)), (1, .int i1)] := hl
  rw [fX12_likely] at hf
  refine lv_aload_n hx hb dX12_likely_0 rfl (lv_at hl 0 rfl) ?_
  refine gX12_28 C hM (xt_0 hT) (f := (2, 9)) rfl (v := .ref (E.2.1.2.1 9)) rfl dX12_likely_1 ?_
  refine lv_iload_n hx hb dX12_likely_4 rfl (lv_at hl 1 rfl) ?_
  obtain ⟨q5, hq5, hf⟩ := mx_bd hf
  refine mx_callVN C hM hl.1 yo_X3_isRing (h' := 0) (by decide) (nw_657 hT C) qw_659 qs_33 (ci := 3) (q := (RX3, TX3, 18)) rfl (xt_9 hT) (As := [.int i1]) (rest := []) (st1 := [.int (mx_b q5)]) (kX3_isRing C.2.2.2.1 i1 hT M hq5) rfl rfl rfl (Nat.le_of_ble_eq_true rfl) dX12_likely_5 (fun H locs hM => ?_)
  refine lv_if_eq (tgt := 26) hx hb dX12_likely_8 (by decide) (fun hc8 => ?_) (fun hc8 => ?_)
  · replace hf := mx_ift hc8 hf
    refine lv_iconst (v := (-1 : Int32)) hx hb dX12_likely_26 (by decide) ?_
    exact mx_iret C hM hf dX12_likely_27
  · replace hf := mx_iff hc8 hf
    refine lv_aload_n hx hb dX12_likely_11 rfl (lv_at hl 0 rfl) ?_
    refine gX12_84 C hM (xt_0 hT) (f := (2, 149)) rfl (v := .ref (E.2.1.2.1 149)) rfl dX12_likely_12 ?_
    refine lv_aload_n hx hb dX12_likely_15 rfl (lv_at hl 0 rfl) ?_
    refine gX12_28 C hM (xt_0 hT) (f := (2, 9)) rfl (v := .ref (E.2.1.2.1 9)) rfl dX12_likely_16 ?_
    refine lv_iload_n hx hb dX12_likely_19 rfl (lv_at hl 1 rfl) ?_
    obtain ⟨q20, hq20, hf⟩ := mx_bd hf
    refine mx_callVN C hM hl.1 yo_X2_likeliest (h' := 5) (by decide) (nw_959 hT C) qw_961 qs_77 (ci := 2) (q := (RX2, TX2, 4)) rfl (xt_149 hT) (As := [.ref (E.2.1.2.1 9), .int i1]) (rest := []) (st1 := [.int q20.1]) (kX2_likeliest C.2.2.2.1 i1 hT M hq20) rfl rfl rfl (Nat.le_of_ble_eq_true rfl) dX12_likely_20 (fun H locs hM => ?_)
    refine lv_goto (tgt := 27) hx hb dX12_likely_23 (by decide) ?_
    exact mx_iret C hM hf dX12_likely_27
theorem dX12_chain_0 : decode cX12_chain 0 = .ok (.aload_n 0, 1) := by decide +kernel
theorem dX12_chain_1 : decode cX12_chain 1 = .ok (.getfield 28, 3) := by decide +kernel
theorem dX12_chain_4 : decode cX12_chain 4 = .ok (.iload_n 1, 1) := by decide +kernel
theorem dX12_chain_5 : decode cX12_chain 5 = .ok (.invokevirtual 154, 3) := by decide +kernel
theorem dX12_chain_8 : decode cX12_chain 8 = .ok (.ifCond .eq 21, 3) := by decide +kernel
theorem dX12_chain_11 : decode cX12_chain 11 = .ok (.aload_n 0, 1) := by decide +kernel
theorem dX12_chain_12 : decode cX12_chain 12 = .ok (.getfield 77, 3) := by decide +kernel
theorem dX12_chain_15 : decode cX12_chain 15 = .ok (.aload_n 0, 1) := by decide +kernel
theorem dX12_chain_16 : decode cX12_chain 16 = .ok (.getfield 40, 3) := by decide +kernel
theorem dX12_chain_19 : decode cX12_chain 19 = .ok (.iload_n 1, 1) := by decide +kernel
theorem dX12_chain_20 : decode cX12_chain 20 = .ok (.invokevirtual 307, 3) := by decide +kernel
theorem dX12_chain_23 : decode cX12_chain 23 = .ok (.invokestatic 310, 3) := by decide +kernel
theorem dX12_chain_26 : decode cX12_chain 26 = .ok (.goto 4, 3) := by decide +kernel
theorem dX12_chain_29 : decode cX12_chain 29 = .ok (.iconst (-1), 1) := by decide +kernel
theorem dX12_chain_30 : decode cX12_chain 30 = .ok (.ireturn, 1) := by decide +kernel
set_option maxRecDepth 100000 in
set_option maxHeartbeats 4000000 in
theorem kX12_chain {E : KE} {l : Launch} (hE : mx_ok E) (i1 : Int32) (hT : xOK E) (M : MM) {q : (Int32 × MM)} (hf : fX12_chain i1 M = some q) : mx_Met E l yX12_chain cX12_chain 2 (some .int) 2 [.ref (E.2.1.2.1 0), .int i1] M (some (.int q.1)) q.2 := by
  refine mx_enter hE (by decide) (Nat.le_of_ble_eq_true rfl) ?_
  intro p e s m below meth c C hM hn ls hl
  have hx := C.1.1
  have hb := C.1.2.1
  have hown := C.1.2.2.2.1
  have hts := C.1.2.2.2.2
  have hl : lv_has ls 2 [(0, .ref (E.2.1.2.1 0)), (1, .int i1)] := hl
  rw [fX12_chain] at hf
  refine lv_aload_n hx hb dX12_chain_0 rfl (lv_at hl 0 rfl) ?_
  refine gX12_28 C hM (xt_0 hT) (f := (2, 9)) rfl (v := .ref (E.2.1.2.1 9)) rfl dX12_chain_1 ?_
  refine lv_iload_n hx hb dX12_chain_4 rfl (lv_at hl 1 rfl) ?_
  obtain ⟨q5, hq5, hf⟩ := mx_bd hf
  refine mx_callVN C hM hl.1 yo_X3_isPerson (h' := 0) (by decide) (nw_661 hT C) qw_663 qs_34 (ci := 3) (q := (RX3, TX3, 18)) rfl (xt_9 hT) (As := [.int i1]) (rest := []) (st1 := [.int (mx_b q5)]) (kX3_isPerson C.2.2.2.1 i1 hT M hq5) rfl rfl rfl (Nat.le_of_ble_eq_true rfl) dX12_chain_5 (fun H locs hM => ?_)
  refine lv_if_eq (tgt := 29) hx hb dX12_chain_8 (by decide) (fun hc8 => ?_) (fun hc8 => ?_)
  · replace hf := mx_ift hc8 hf
    refine lv_iconst (v := (-1 : Int32)) hx hb dX12_chain_29 (by decide) ?_
    exact mx_iret C hM hf dX12_chain_30
  · replace hf := mx_iff hc8 hf
    refine lv_aload_n hx hb dX12_chain_11 rfl (lv_at hl 0 rfl) ?_
    refine gX12_77 C hM (xt_0 hT) (f := (2, 143)) rfl (v := .ref (E.2.1.2.1 143)) rfl dX12_chain_12 ?_
    refine lv_aload_n hx hb dX12_chain_15 rfl (lv_at hl 0 rfl) ?_
    refine gX12_40 C hM (xt_0 hT) (f := (2, 29)) rfl (v := .ref (E.2.1.2.1 29)) rfl dX12_chain_16 ?_
    refine lv_iload_n hx hb dX12_chain_19 rfl (lv_at hl 1 rfl) ?_
    obtain ⟨q20, hq20, hf⟩ := mx_bd hf
    refine mx_callVN C hM hl.1 yo_X6_chainFrom (h' := 1) (by decide) (nw_971 hT C) qw_973 qs_79 (ci := 6) (q := (RX6, TX6, 7)) rfl (xt_143 hT) (As := [.ref (E.2.1.2.1 29), .int i1]) (rest := []) (st1 := [.int q20.1]) (kX6_chainFrom C.2.2.2.1 i1 hT M hq20) rfl rfl rfl (Nat.le_of_ble_eq_true rfl) dX12_chain_20 (fun H locs hM => ?_)
    obtain ⟨q23, hq23, hf⟩ := mx_bd hf
    refine mx_callS C hM hl.1 yo_J6_bitCount_0f7a4 (h' := 0) (by decide) qw_978 qw_788 (As := [.int q20.1]) (rest := []) (st1 := [.int q23]) (kJ6_bitCount_0f7a4 C.2.2.2.1 q20.1 q20.2 hq23) rfl rfl rfl (Nat.le_of_ble_eq_true rfl) dX12_chain_23 (fun H locs hM => ?_)
    refine lv_goto (tgt := 30) hx hb dX12_chain_26 (by decide) ?_
    exact mx_iret C hM hf dX12_chain_30
theorem dX12_closed_0 : decode cX12_closed 0 = .ok (.aload_n 0, 1) := by decide +kernel
theorem dX12_closed_1 : decode cX12_closed 1 = .ok (.getfield 28, 3) := by decide +kernel
theorem dX12_closed_4 : decode cX12_closed 4 = .ok (.iload_n 1, 1) := by decide +kernel
theorem dX12_closed_5 : decode cX12_closed 5 = .ok (.invokevirtual 154, 3) := by decide +kernel
theorem dX12_closed_8 : decode cX12_closed 8 = .ok (.ifCond .ne 5, 3) := by decide +kernel
theorem dX12_closed_11 : decode cX12_closed 11 = .ok (.iconst (-1), 1) := by decide +kernel
theorem dX12_closed_12 : decode cX12_closed 12 = .ok (.ireturn, 1) := by decide +kernel
theorem dX12_closed_13 : decode cX12_closed 13 = .ok (.aload_n 0, 1) := by decide +kernel
theorem dX12_closed_14 : decode cX12_closed 14 = .ok (.getfield 77, 3) := by decide +kernel
theorem dX12_closed_17 : decode cX12_closed 17 = .ok (.aload_n 0, 1) := by decide +kernel
theorem dX12_closed_18 : decode cX12_closed 18 = .ok (.getfield 40, 3) := by decide +kernel
theorem dX12_closed_21 : decode cX12_closed 21 = .ok (.iload_n 1, 1) := by decide +kernel
theorem dX12_closed_22 : decode cX12_closed 22 = .ok (.invokevirtual 307, 3) := by decide +kernel
theorem dX12_closed_25 : decode cX12_closed 25 = .ok (.pop, 1) := by decide +kernel
theorem dX12_closed_26 : decode cX12_closed 26 = .ok (.aload_n 0, 1) := by decide +kernel
theorem dX12_closed_27 : decode cX12_closed 27 = .ok (.getfield 77, 3) := by decide +kernel
theorem dX12_closed_30 : decode cX12_closed 30 = .ok (.getfield 315, 3) := by decide +kernel
theorem dX12_closed_33 : decode cX12_closed 33 = .ok (.iload_n 1, 1) := by decide +kernel
theorem dX12_closed_34 : decode cX12_closed 34 = .ok (.if_icmp .ne 7, 3) := by decide +kernel
theorem dX12_closed_37 : decode cX12_closed 37 = .ok (.iconst 1, 1) := by decide +kernel
theorem dX12_closed_38 : decode cX12_closed 38 = .ok (.goto 4, 3) := by decide +kernel
theorem dX12_closed_41 : decode cX12_closed 41 = .ok (.iconst 0, 1) := by decide +kernel
theorem dX12_closed_42 : decode cX12_closed 42 = .ok (.ireturn, 1) := by decide +kernel
set_option maxRecDepth 100000 in
set_option maxHeartbeats 4000000 in
theorem kX12_closed {E : KE} {l : Launch} (hE : mx_ok E) (i1 : Int32) (hT : xOK E) (M : MM) {q : (Int32 × MM)} (hf : fX12_closed i1 M = some q) : mx_Met E l yX12_closed cX12_closed 2 (some .int) 2 [.ref (E.2.1.2.1 0), .int i1] M (some (.int q.1)) q.2 := by
  refine mx_enter hE (by decide) (Nat.le_of_ble_eq_true rfl) ?_
  intro p e s m below meth c C hM hn ls hl
  have hx := C.1.1
  have hb := C.1.2.1
  have hown := C.1.2.2.2.1
  have hts := C.1.2.2.2.2
  have hl : lv_has ls 2 [(0, .ref (E.2.1.2.1 0)), (1, .int i1)] := hl
  rw [fX12_closed] at hf
  refine lv_aload_n hx hb dX12_closed_0 rfl (lv_at hl 0 rfl) ?_
  refine gX12_28 C hM (xt_0 hT) (f := (2, 9)) rfl (v := .ref (E.2.1.2.1 9)) rfl dX12_closed_1 ?_
  refine lv_iload_n hx hb dX12_closed_4 rfl (lv_at hl 1 rfl) ?_
  obtain ⟨q5, hq5, hf⟩ := mx_bd hf
  refine mx_callVN C hM hl.1 yo_X3_isPerson (h' := 0) (by decide) (nw_661 hT C) qw_663 qs_34 (ci := 3) (q := (RX3, TX3, 18)) rfl (xt_9 hT) (As := [.int i1]) (rest := []) (st1 := [.int (mx_b q5)]) (kX3_isPerson C.2.2.2.1 i1 hT M hq5) rfl rfl rfl (Nat.le_of_ble_eq_true rfl) dX12_closed_5 (fun H locs hM => ?_)
  refine lv_if_ne (tgt := 13) hx hb dX12_closed_8 (by decide) (fun hc8 => ?_) (fun hc8 => ?_)
  · replace hf := mx_iff hc8 hf
    refine lv_aload_n hx hb dX12_closed_13 rfl (lv_at hl 0 rfl) ?_
    refine gX12_77 C hM (xt_0 hT) (f := (2, 143)) rfl (v := .ref (E.2.1.2.1 143)) rfl dX12_closed_14 ?_
    refine lv_aload_n hx hb dX12_closed_17 rfl (lv_at hl 0 rfl) ?_
    refine gX12_40 C hM (xt_0 hT) (f := (2, 29)) rfl (v := .ref (E.2.1.2.1 29)) rfl dX12_closed_18 ?_
    refine lv_iload_n hx hb dX12_closed_21 rfl (lv_at hl 1 rfl) ?_
    obtain ⟨q22, hq22, hf⟩ := mx_bd hf
    refine mx_callVN C hM hl.1 yo_X6_chainFrom (h' := 1) (by decide) (nw_971 hT C) qw_973 qs_79 (ci := 6) (q := (RX6, TX6, 7)) rfl (xt_143 hT) (As := [.ref (E.2.1.2.1 29), .int i1]) (rest := []) (st1 := [.int q22.1]) (kX6_chainFrom C.2.2.2.1 i1 hT M hq22) rfl rfl rfl (Nat.le_of_ble_eq_true rfl) dX12_closed_22 (fun H locs hM => ?_)
    refine lv_pop hx hb dX12_closed_25 rfl ?_
    refine lv_aload_n hx hb dX12_closed_26 rfl (lv_at hl 0 rfl) ?_
    refine gX12_77 C hM (xt_0 hT) (f := (2, 143)) rfl (v := .ref (E.2.1.2.1 143)) rfl dX12_closed_27 ?_
    refine gX12_315 C hT hM (xt_143 hT) (f := (0, 0)) rfl (v := .int (q22.2.1 143 3)) rfl dX12_closed_30 ?_
    refine lv_iload_n hx hb dX12_closed_33 rfl (lv_at hl 1 rfl) ?_
    refine lv_icmp_ne (tgt := 41) hx hb dX12_closed_34 (by decide) (fun hc34 => ?_) (fun hc34 => ?_)
    · replace hf := mx_iff hc34 hf
      refine lv_iconst (v := (0 : Int32)) hx hb dX12_closed_41 (by decide) ?_
      exact mx_iret C hM hf dX12_closed_42
    · replace hf := mx_ift hc34 hf
      refine lv_iconst (v := (1 : Int32)) hx hb dX12_closed_37 (by decide) ?_
      refine lv_goto (tgt := 42) hx hb dX12_closed_38 (by decide) ?_
      exact mx_iret C hM hf dX12_closed_42
  · replace hf := mx_ift hc8 hf
    refine lv_iconst (v := (-1 : Int32)) hx hb dX12_closed_11 (by decide) ?_
    exact mx_iret C hM hf dX12_closed_12
theorem dX12_note_0 : decode cX12_note 0 = .ok (.aload_n 0, 1) := by decide +kernel
theorem dX12_note_1 : decode cX12_note 1 = .ok (.getfield 28, 3) := by decide +kernel
theorem dX12_note_4 : decode cX12_note 4 = .ok (.iload_n 1, 1) := by decide +kernel
theorem dX12_note_5 : decode cX12_note 5 = .ok (.invokevirtual 154, 3) := by decide +kernel
theorem dX12_note_8 : decode cX12_note 8 = .ok (.ifCond .ne 5, 3) := by decide +kernel
theorem dX12_note_11 : decode cX12_note 11 = .ok (.iconst (-1), 1) := by decide +kernel
theorem dX12_note_12 : decode cX12_note 12 = .ok (.ireturn, 1) := by decide +kernel
theorem dX12_note_13 : decode cX12_note 13 = .ok (.aload_n 0, 1) := by decide +kernel
theorem dX12_note_14 : decode cX12_note 14 = .ok (.getfield 91, 3) := by decide +kernel
theorem dX12_note_17 : decode cX12_note 17 = .ok (.aload_n 0, 1) := by decide +kernel
theorem dX12_note_18 : decode cX12_note 18 = .ok (.getfield 40, 3) := by decide +kernel
theorem dX12_note_21 : decode cX12_note 21 = .ok (.iload_n 1, 1) := by decide +kernel
theorem dX12_note_22 : decode cX12_note 22 = .ok (.invokevirtual 318, 3) := by decide +kernel
theorem dX12_note_25 : decode cX12_note 25 = .ok (.aload_n 0, 1) := by decide +kernel
theorem dX12_note_26 : decode cX12_note 26 = .ok (.getfield 91, 3) := by decide +kernel
theorem dX12_note_29 : decode cX12_note 29 = .ok (.getfield 322, 3) := by decide +kernel
theorem dX12_note_32 : decode cX12_note 32 = .ok (.ireturn, 1) := by decide +kernel
set_option maxRecDepth 100000 in
set_option maxHeartbeats 4000000 in
theorem kX12_note {E : KE} {l : Launch} (hE : mx_ok E) (i1 : Int32) (hT : xOK E) (M : MM) {q : (Int32 × MM)} (hf : fX12_note i1 M = some q) : mx_Met E l yX12_note cX12_note 2 (some .int) 12 [.ref (E.2.1.2.1 0), .int i1] M (some (.int q.1)) q.2 := by
  refine mx_enter hE (by decide) (Nat.le_of_ble_eq_true rfl) ?_
  intro p e s m below meth c C hM hn ls hl
  have hx := C.1.1
  have hb := C.1.2.1
  have hown := C.1.2.2.2.1
  have hts := C.1.2.2.2.2
  have hl : lv_has ls 2 [(0, .ref (E.2.1.2.1 0)), (1, .int i1)] := hl
  rw [fX12_note] at hf
  refine lv_aload_n hx hb dX12_note_0 rfl (lv_at hl 0 rfl) ?_
  refine gX12_28 C hM (xt_0 hT) (f := (2, 9)) rfl (v := .ref (E.2.1.2.1 9)) rfl dX12_note_1 ?_
  refine lv_iload_n hx hb dX12_note_4 rfl (lv_at hl 1 rfl) ?_
  obtain ⟨q5, hq5, hf⟩ := mx_bd hf
  refine mx_callVN C hM hl.1 yo_X3_isPerson (h' := 0) (by decide) (nw_661 hT C) qw_663 qs_34 (ci := 3) (q := (RX3, TX3, 18)) rfl (xt_9 hT) (As := [.int i1]) (rest := []) (st1 := [.int (mx_b q5)]) (kX3_isPerson C.2.2.2.1 i1 hT M hq5) rfl rfl rfl (Nat.le_of_ble_eq_true rfl) dX12_note_5 (fun H locs hM => ?_)
  refine lv_if_ne (tgt := 13) hx hb dX12_note_8 (by decide) (fun hc8 => ?_) (fun hc8 => ?_)
  · replace hf := mx_iff hc8 hf
    refine lv_aload_n hx hb dX12_note_13 rfl (lv_at hl 0 rfl) ?_
    refine gX12_91 C hM (xt_0 hT) (f := (2, 152)) rfl (v := .ref (E.2.1.2.1 152)) rfl dX12_note_14 ?_
    refine lv_aload_n hx hb dX12_note_17 rfl (lv_at hl 0 rfl) ?_
    refine gX12_40 C hM (xt_0 hT) (f := (2, 29)) rfl (v := .ref (E.2.1.2.1 29)) rfl dX12_note_18 ?_
    refine lv_iload_n hx hb dX12_note_21 rfl (lv_at hl 1 rfl) ?_
    obtain ⟨q22, hq22, hf⟩ := mx_bd hf
    refine mx_callVN C hM hl.1 yo_X4_write (h' := 11) (by decide) (nw_987 hT C) qw_989 qs_80 (ci := 4) (q := (RX4, TX4, 2)) rfl (xt_152 hT) (As := [.ref (E.2.1.2.1 29), .int i1]) (rest := []) (st1 := []) (kX4_write C.2.2.2.1 i1 hT M hq22) rfl rfl rfl (Nat.le_of_ble_eq_true rfl) dX12_note_22 (fun H locs hM => ?_)
    refine lv_aload_n hx hb dX12_note_25 rfl (lv_at hl 0 rfl) ?_
    refine gX12_91 C hM (xt_0 hT) (f := (2, 152)) rfl (v := .ref (E.2.1.2.1 152)) rfl dX12_note_26 ?_
    refine gX12_322 C hT hM (xt_152 hT) (f := (0, 0)) rfl (v := .int (q22.1 152 1)) rfl dX12_note_29 ?_
    exact mx_iret C hM hf dX12_note_32
  · replace hf := mx_ift hc8 hf
    refine lv_iconst (v := (-1 : Int32)) hx hb dX12_note_11 (by decide) ?_
    exact mx_iret C hM hf dX12_note_12
theorem dX12_byteAt_0 : decode cX12_byteAt 0 = .ok (.iload_n 1, 1) := by decide +kernel
theorem dX12_byteAt_1 : decode cX12_byteAt 1 = .ok (.ifCond .lt 14, 3) := by decide +kernel
theorem dX12_byteAt_4 : decode cX12_byteAt 4 = .ok (.iload_n 1, 1) := by decide +kernel
theorem dX12_byteAt_5 : decode cX12_byteAt 5 = .ok (.aload_n 0, 1) := by decide +kernel
theorem dX12_byteAt_6 : decode cX12_byteAt 6 = .ok (.getfield 91, 3) := by decide +kernel
theorem dX12_byteAt_9 : decode cX12_byteAt 9 = .ok (.getfield 322, 3) := by decide +kernel
theorem dX12_byteAt_12 : decode cX12_byteAt 12 = .ok (.if_icmp .lt 7, 3) := by decide +kernel
theorem dX12_byteAt_15 : decode cX12_byteAt 15 = .ok (.iconst (-1), 1) := by decide +kernel
theorem dX12_byteAt_16 : decode cX12_byteAt 16 = .ok (.goto 12, 3) := by decide +kernel
theorem dX12_byteAt_19 : decode cX12_byteAt 19 = .ok (.aload_n 0, 1) := by decide +kernel
theorem dX12_byteAt_20 : decode cX12_byteAt 20 = .ok (.getfield 91, 3) := by decide +kernel
theorem dX12_byteAt_23 : decode cX12_byteAt 23 = .ok (.getfield 323, 3) := by decide +kernel
theorem dX12_byteAt_26 : decode cX12_byteAt 26 = .ok (.iload_n 1, 1) := by decide +kernel
theorem dX12_byteAt_27 : decode cX12_byteAt 27 = .ok (.baload, 1) := by decide +kernel
theorem dX12_byteAt_28 : decode cX12_byteAt 28 = .ok (.ireturn, 1) := by decide +kernel
set_option maxRecDepth 100000 in
set_option maxHeartbeats 4000000 in
theorem kX12_byteAt {E : KE} {l : Launch} (hE : mx_ok E) (i1 : Int32) (hT : xOK E) (M : MM) {q : Int32} (hf : fX12_byteAt i1 M = some q) : mx_Met E l yX12_byteAt cX12_byteAt 2 (some .int) 0 [.ref (E.2.1.2.1 0), .int i1] M (some (.int q)) M := by
  refine mx_enter hE (by decide) (Nat.le_of_ble_eq_true rfl) ?_
  intro p e s m below meth c C hM hn ls hl
  have hx := C.1.1
  have hb := C.1.2.1
  have hown := C.1.2.2.2.1
  have hts := C.1.2.2.2.2
  have hl : lv_has ls 2 [(0, .ref (E.2.1.2.1 0)), (1, .int i1)] := hl
  rw [fX12_byteAt] at hf
  refine lv_iload_n hx hb dX12_byteAt_0 rfl (lv_at hl 1 rfl) ?_
  refine lv_if_lt (tgt := 15) hx hb dX12_byteAt_1 (by decide) (fun hc1 => ?_) (fun hc1 => ?_)
  · replace hf := mx_ift hc1 hf
    refine lv_iconst (v := (-1 : Int32)) hx hb dX12_byteAt_15 (by decide) ?_
    refine lv_goto (tgt := 28) hx hb dX12_byteAt_16 (by decide) ?_
    exact mx_iretR C hM hf dX12_byteAt_28
  · replace hf := mx_iff hc1 hf
    refine lv_iload_n hx hb dX12_byteAt_4 rfl (lv_at hl 1 rfl) ?_
    refine lv_aload_n hx hb dX12_byteAt_5 rfl (lv_at hl 0 rfl) ?_
    refine gX12_91 C hM (xt_0 hT) (f := (2, 152)) rfl (v := .ref (E.2.1.2.1 152)) rfl dX12_byteAt_6 ?_
    refine gX12_322 C hT hM (xt_152 hT) (f := (0, 0)) rfl (v := .int (M.1 152 1)) rfl dX12_byteAt_9 ?_
    refine lv_icmp_lt (tgt := 19) hx hb dX12_byteAt_12 (by decide) (fun hc12 => ?_) (fun hc12 => ?_)
    · replace hf := mx_ift hc12 hf
      refine lv_aload_n hx hb dX12_byteAt_19 rfl (lv_at hl 0 rfl) ?_
      refine gX12_91 C hM (xt_0 hT) (f := (2, 152)) rfl (v := .ref (E.2.1.2.1 152)) rfl dX12_byteAt_20 ?_
      refine gX12_323 C hT hM (xt_152 hT) (f := (2, 153)) rfl (v := .ref (E.2.1.2.1 153)) rfl dX12_byteAt_23 ?_
      refine lv_iload_n hx hb dX12_byteAt_26 rfl (lv_at hl 1 rfl) ?_
      obtain ⟨hg27, hf⟩ := mx_gd hf
      refine mx_bald C hM (xt_153 hT) (mx_in_vp hg27) dX12_byteAt_27 ?_
      exact mx_iretR C hM hf dX12_byteAt_28
    · replace hf := mx_iff hc12 hf
      refine lv_iconst (v := (-1 : Int32)) hx hb dX12_byteAt_15 (by decide) ?_
      refine lv_goto (tgt := 28) hx hb dX12_byteAt_16 (by decide) ?_
      exact mx_iretR C hM hf dX12_byteAt_28
theorem dX12_drawn_0 : decode cX12_drawn 0 = .ok (.iload_n 1, 1) := by decide +kernel
theorem dX12_drawn_1 : decode cX12_drawn 1 = .ok (.iconst 1, 1) := by decide +kernel
theorem dX12_drawn_2 : decode cX12_drawn 2 = .ok (.if_icmp .lt 9, 3) := by decide +kernel
theorem dX12_drawn_5 : decode cX12_drawn 5 = .ok (.iload_n 1, 1) := by decide +kernel
theorem dX12_drawn_6 : decode cX12_drawn 6 = .ok (.bipush 60, 2) := by decide +kernel
theorem dX12_drawn_8 : decode cX12_drawn 8 = .ok (.if_icmp .le 5, 3) := by decide +kernel
theorem dX12_drawn_11 : decode cX12_drawn 11 = .ok (.iconst (-1), 1) := by decide +kernel
theorem dX12_drawn_12 : decode cX12_drawn 12 = .ok (.ireturn, 1) := by decide +kernel
theorem dX12_drawn_13 : decode cX12_drawn 13 = .ok (.aload_n 0, 1) := by decide +kernel
theorem dX12_drawn_14 : decode cX12_drawn 14 = .ok (.getfield 44, 3) := by decide +kernel
theorem dX12_drawn_17 : decode cX12_drawn 17 = .ok (.aload_n 0, 1) := by decide +kernel
theorem dX12_drawn_18 : decode cX12_drawn 18 = .ok (.getfield 40, 3) := by decide +kernel
theorem dX12_drawn_21 : decode cX12_drawn 21 = .ok (.invokevirtual 233, 3) := by decide +kernel
theorem dX12_drawn_24 : decode cX12_drawn 24 = .ok (.aload_n 0, 1) := by decide +kernel
theorem dX12_drawn_25 : decode cX12_drawn 25 = .ok (.aload_n 0, 1) := by decide +kernel
theorem dX12_drawn_26 : decode cX12_drawn 26 = .ok (.getfield 40, 3) := by decide +kernel
theorem dX12_drawn_29 : decode cX12_drawn 29 = .ok (.iload_n 1, 1) := by decide +kernel
theorem dX12_drawn_30 : decode cX12_drawn 30 = .ok (.iload_n 2, 1) := by decide +kernel
theorem dX12_drawn_31 : decode cX12_drawn 31 = .ok (.invokevirtual 327, 3) := by decide +kernel
theorem dX12_drawn_34 : decode cX12_drawn 34 = .ok (.invokevirtual 258, 3) := by decide +kernel
theorem dX12_drawn_37 : decode cX12_drawn 37 = .ok (.ireturn, 1) := by decide +kernel
set_option maxRecDepth 100000 in
set_option maxHeartbeats 4000000 in
theorem kX12_drawn {E : KE} {l : Launch} (hE : mx_ok E) (i1 : Int32) (i2 : Int32) (hT : xOK E) (M : MM) {q : (Int32 × MM)} (hf : fX12_drawn i1 i2 M = some q) : mx_Met E l yX12_drawn cX12_drawn 3 (some .int) 5 [.ref (E.2.1.2.1 0), .int i1, .int i2] M (some (.int q.1)) q.2 := by
  refine mx_enter hE (by decide) (Nat.le_of_ble_eq_true rfl) ?_
  intro p e s m below meth c C hM hn ls hl
  have hx := C.1.1
  have hb := C.1.2.1
  have hown := C.1.2.2.2.1
  have hts := C.1.2.2.2.2
  have hl : lv_has ls 3 [(0, .ref (E.2.1.2.1 0)), (1, .int i1), (2, .int i2)] := hl
  rw [fX12_drawn] at hf
  refine lv_iload_n hx hb dX12_drawn_0 rfl (lv_at hl 1 rfl) ?_
  refine lv_iconst (v := (1 : Int32)) hx hb dX12_drawn_1 (by decide) ?_
  refine lv_icmp_lt (tgt := 11) hx hb dX12_drawn_2 (by decide) (fun hc2 => ?_) (fun hc2 => ?_)
  · replace hf := mx_ift hc2 hf
    refine lv_iconst (v := (-1 : Int32)) hx hb dX12_drawn_11 (by decide) ?_
    exact mx_iret C hM hf dX12_drawn_12
  · replace hf := mx_iff hc2 hf
    refine lv_iload_n hx hb dX12_drawn_5 rfl (lv_at hl 1 rfl) ?_
    refine lv_bipush (v := (60 : Int32)) hx hb dX12_drawn_6 (by decide) ?_
    refine lv_icmp_le (tgt := 13) hx hb dX12_drawn_8 (by decide) (fun hc8 => ?_) (fun hc8 => ?_)
    · replace hf := mx_ift hc8 hf
      refine lv_aload_n hx hb dX12_drawn_13 rfl (lv_at hl 0 rfl) ?_
      refine gX12_44 C hM (xt_0 hT) (f := (2, 38)) rfl (v := .ref (E.2.1.2.1 38)) rfl dX12_drawn_14 ?_
      refine lv_aload_n hx hb dX12_drawn_17 rfl (lv_at hl 0 rfl) ?_
      refine gX12_40 C hM (xt_0 hT) (f := (2, 29)) rfl (v := .ref (E.2.1.2.1 29)) rfl dX12_drawn_18 ?_
      obtain ⟨q21, hq21, hf⟩ := mx_bd hf
      refine mx_callVN C hM hl.1 yo_X9_copyFrom (h' := 1) (by decide) (nw_692 hT C) qw_694 qs_39 (ci := 9) (q := (RX9, TX9, 13)) rfl (xt_38 hT) (As := [.ref (E.2.1.2.1 29)]) (rest := []) (st1 := []) (kX9_copyFrom C.2.2.2.1 38 29 hT xiS_38 xiS_29 M hq21) rfl rfl rfl (Nat.le_of_ble_eq_true rfl) dX12_drawn_21 (fun H locs hM => ?_)
      refine lv_aload_n hx hb dX12_drawn_24 rfl (lv_at hl 0 rfl) ?_
      refine lv_aload_n hx hb dX12_drawn_25 rfl (lv_at hl 0 rfl) ?_
      refine gX12_40 C hM (xt_0 hT) (f := (2, 29)) rfl (v := .ref (E.2.1.2.1 29)) rfl dX12_drawn_26 ?_
      refine lv_iload_n hx hb dX12_drawn_29 rfl (lv_at hl 1 rfl) ?_
      refine lv_iload_n hx hb dX12_drawn_30 rfl (lv_at hl 2 rfl) ?_
      obtain ⟨q31, hq31, hf⟩ := mx_bd hf
      refine mx_callVN C hM hl.1 yo_X9_drawDays (h' := 4) (by decide) (nw_1065 hT C) qw_1067 qs_84 (ci := 9) (q := (RX9, TX9, 13)) rfl (xt_29 hT) (As := [.int i1, .int i2]) (rest := [.ref (E.2.1.2.1 0)]) (st1 := [.int q31.1, .ref (E.2.1.2.1 0)]) (kX9_drawDays C.2.2.2.1 29 i1 i2 hT xiS_29 q21 hq31) rfl rfl rfl (Nat.le_of_ble_eq_true rfl) dX12_drawn_31 (fun H locs hM => ?_)
      obtain ⟨q34, hq34, hf⟩ := mx_bd hf
      refine mx_callV C hM hl.1 yo_X12_keptIfSome (h' := 3) (by decide) qw_797 qw_799 qs_57 (ci := 12) (q := (RX12, TX12, 19)) rfl (xt_0 hT) (As := [.int q31.1]) (rest := []) (st1 := [.int q34.1]) (kX12_keptIfSome C.2.2.2.1 q31.1 hT q31.2 hq34) rfl rfl rfl (Nat.le_of_ble_eq_true rfl) dX12_drawn_34 (fun H locs hM => ?_)
      exact mx_iret C hM hf dX12_drawn_37
    · replace hf := mx_iff hc8 hf
      refine lv_iconst (v := (-1 : Int32)) hx hb dX12_drawn_11 (by decide) ?_
      exact mx_iret C hM hf dX12_drawn_12
theorem dX12_odds_0 : decode cX12_odds 0 = .ok (.aload_n 0, 1) := by decide +kernel
theorem dX12_odds_1 : decode cX12_odds 1 = .ok (.getfield 28, 3) := by decide +kernel
theorem dX12_odds_4 : decode cX12_odds 4 = .ok (.iload_n 1, 1) := by decide +kernel
theorem dX12_odds_5 : decode cX12_odds 5 = .ok (.invokevirtual 183, 3) := by decide +kernel
theorem dX12_odds_8 : decode cX12_odds 8 = .ok (.ifCond .eq 14, 3) := by decide +kernel
theorem dX12_odds_11 : decode cX12_odds 11 = .ok (.iload_n 2, 1) := by decide +kernel
theorem dX12_odds_12 : decode cX12_odds 12 = .ok (.iconst 1, 1) := by decide +kernel
theorem dX12_odds_13 : decode cX12_odds 13 = .ok (.if_icmp .lt 9, 3) := by decide +kernel
theorem dX12_odds_16 : decode cX12_odds 16 = .ok (.iload_n 2, 1) := by decide +kernel
theorem dX12_odds_17 : decode cX12_odds 17 = .ok (.bipush 30, 2) := by decide +kernel
theorem dX12_odds_19 : decode cX12_odds 19 = .ok (.if_icmp .le 5, 3) := by decide +kernel
theorem dX12_odds_22 : decode cX12_odds 22 = .ok (.iconst (-1), 1) := by decide +kernel
theorem dX12_odds_23 : decode cX12_odds 23 = .ok (.ireturn, 1) := by decide +kernel
theorem dX12_odds_24 : decode cX12_odds 24 = .ok (.iconst 0, 1) := by decide +kernel
theorem dX12_odds_25 : decode cX12_odds 25 = .ok (.istore 4, 2) := by decide +kernel
theorem dX12_odds_27 : decode cX12_odds 27 = .ok (.iconst 0, 1) := by decide +kernel
theorem dX12_odds_28 : decode cX12_odds 28 = .ok (.istore 5, 2) := by decide +kernel
theorem dX12_odds_30 : decode cX12_odds 30 = .ok (.iload 5, 2) := by decide +kernel
theorem dX12_odds_32 : decode cX12_odds 32 = .ok (.iload_n 2, 1) := by decide +kernel
theorem dX12_odds_33 : decode cX12_odds 33 = .ok (.if_icmp .ge 48, 3) := by decide +kernel
theorem dX12_odds_36 : decode cX12_odds 36 = .ok (.aload_n 0, 1) := by decide +kernel
theorem dX12_odds_37 : decode cX12_odds 37 = .ok (.getfield 47, 3) := by decide +kernel
theorem dX12_odds_40 : decode cX12_odds 40 = .ok (.aload_n 0, 1) := by decide +kernel
theorem dX12_odds_41 : decode cX12_odds 41 = .ok (.getfield 40, 3) := by decide +kernel
theorem dX12_odds_44 : decode cX12_odds 44 = .ok (.invokevirtual 233, 3) := by decide +kernel
theorem dX12_odds_47 : decode cX12_odds 47 = .ok (.aload_n 0, 1) := by decide +kernel
theorem dX12_odds_48 : decode cX12_odds 48 = .ok (.getfield 47, 3) := by decide +kernel
theorem dX12_odds_51 : decode cX12_odds 51 = .ok (.bipush 20, 2) := by decide +kernel
theorem dX12_odds_53 : decode cX12_odds 53 = .ok (.iload_n 3, 1) := by decide +kernel
theorem dX12_odds_54 : decode cX12_odds 54 = .ok (.iload 5, 2) := by decide +kernel
theorem dX12_odds_56 : decode cX12_odds 56 = .ok (.iadd, 1) := by decide +kernel
theorem dX12_odds_57 : decode cX12_odds 57 = .ok (.invokevirtual 327, 3) := by decide +kernel
theorem dX12_odds_60 : decode cX12_odds 60 = .ok (.pop, 1) := by decide +kernel
theorem dX12_odds_61 : decode cX12_odds 61 = .ok (.aload_n 0, 1) := by decide +kernel
theorem dX12_odds_62 : decode cX12_odds 62 = .ok (.getfield 47, 3) := by decide +kernel
theorem dX12_odds_65 : decode cX12_odds 65 = .ok (.iload_n 1, 1) := by decide +kernel
theorem dX12_odds_66 : decode cX12_odds 66 = .ok (.invokevirtual 330, 3) := by decide +kernel
theorem dX12_odds_69 : decode cX12_odds 69 = .ok (.ifCond .eq 6, 3) := by decide +kernel
theorem dX12_odds_72 : decode cX12_odds 72 = .ok (.iinc 4 1, 3) := by decide +kernel
theorem dX12_odds_75 : decode cX12_odds 75 = .ok (.iinc 5 1, 3) := by decide +kernel
theorem dX12_odds_78 : decode cX12_odds 78 = .ok (.goto (-48), 3) := by decide +kernel
theorem dX12_odds_81 : decode cX12_odds 81 = .ok (.iload 4, 2) := by decide +kernel
theorem dX12_odds_83 : decode cX12_odds 83 = .ok (.ireturn, 1) := by decide +kernel
set_option maxRecDepth 100000 in
set_option maxHeartbeats 4000000 in
theorem wfX12_odds_30 {E : KE} {p : Program} {l : Launch} {e : Env} {s : State} {m : MethodId} {args : Array Value} {below : List Frame} {meth : Method} {c : Code} {q : (Int32 × MM)} (C : mx_C E p m c cX12_odds 6 s args RX12 meth (some .int)) (i1 : Int32) (i2 : Int32) (i3 : Int32) (hT : xOK E)   : ∀ (n : Nat) (i4 : Int32) (i5 : Int32) (M : MM) (H : Heap) (locs : List Loc) (ls : Array Slot), fX12_odds_30 i1 i2 i3 n i4 i5 M = some q → mx_H E s M H locs → lv_has ls 6 [(0, .ref (E.2.1.2.1 0)), (1, .int i1), (2, .int i2), (3, .int i3), (4, .int i4), (5, .int i5)] → W p l e (mx_rm 5) s m args below meth c H locs 0 0 (mx_Z E below args s (some (.int q.1)) q.2) (F0 m 30 ls []) := by
  have hx := C.1.1
  have hb := C.1.2.1
  have hown := C.1.2.2.2.1
  have hts := C.1.2.2.2.2
  intro n
  induction n with
  | zero =>
    intro i4 i5 M H locs ls hf hM hl
    rw [fX12_odds_30] at hf
    cases hf
  | succ n ih =>
    intro i4 i5 M H locs ls hf hM hl
    rw [fX12_odds_30] at hf
    refine lv_iload hx hb dX12_odds_30 (lv_at hl 5 rfl) ?_
    refine lv_iload_n hx hb dX12_odds_32 rfl (lv_at hl 2 rfl) ?_
    refine lv_icmp_ge (tgt := 81) hx hb dX12_odds_33 (by decide) (fun hc33 => ?_) (fun hc33 => ?_)
    · replace hf := mx_ift hc33 hf
      refine lv_iload hx hb dX12_odds_81 (lv_at hl 4 rfl) ?_
      exact mx_iret C hM hf dX12_odds_83
    · replace hf := mx_iff hc33 hf
      refine lv_aload_n hx hb dX12_odds_36 rfl (lv_at hl 0 rfl) ?_
      refine gX12_47 C hM (xt_0 hT) (f := (2, 47)) rfl (v := .ref (E.2.1.2.1 47)) rfl dX12_odds_37 ?_
      refine lv_aload_n hx hb dX12_odds_40 rfl (lv_at hl 0 rfl) ?_
      refine gX12_40 C hM (xt_0 hT) (f := (2, 29)) rfl (v := .ref (E.2.1.2.1 29)) rfl dX12_odds_41 ?_
      obtain ⟨q44, hq44, hf⟩ := mx_bd hf
      refine mx_callVN C hM hl.1 yo_X9_copyFrom (h' := 1) (by decide) (nw_692 hT C) qw_694 qs_39 (ci := 9) (q := (RX9, TX9, 13)) rfl (xt_47 hT) (As := [.ref (E.2.1.2.1 29)]) (rest := []) (st1 := []) (kX9_copyFrom C.2.2.2.1 47 29 hT xiS_47 xiS_29 M hq44) rfl rfl rfl (Nat.le_of_ble_eq_true rfl) dX12_odds_44 (fun H locs hM => ?_)
      refine lv_aload_n hx hb dX12_odds_47 rfl (lv_at hl 0 rfl) ?_
      refine gX12_47 C hM (xt_0 hT) (f := (2, 47)) rfl (v := .ref (E.2.1.2.1 47)) rfl dX12_odds_48 ?_
      refine lv_bipush (v := (20 : Int32)) hx hb dX12_odds_51 (by decide) ?_
      refine lv_iload_n hx hb dX12_odds_53 rfl (lv_at hl 3 rfl) ?_
      refine lv_iload hx hb dX12_odds_54 (lv_at hl 5 rfl) ?_
      refine lv_iadd hx hb dX12_odds_56 ?_
      obtain ⟨q57, hq57, hf⟩ := mx_bd hf
      refine mx_callVN C hM hl.1 yo_X9_drawDays (h' := 4) (by decide) (nw_1065 hT C) qw_1067 qs_84 (ci := 9) (q := (RX9, TX9, 13)) rfl (xt_47 hT) (As := [.int (20 : Int32), .int (i3 + i5)]) (rest := []) (st1 := [.int q57.1]) (kX9_drawDays C.2.2.2.1 47 (20 : Int32) (i3 + i5) hT xiS_47 q44 hq57) rfl rfl rfl (Nat.le_of_ble_eq_true rfl) dX12_odds_57 (fun H locs hM => ?_)
      refine lv_pop hx hb dX12_odds_60 rfl ?_
      refine lv_aload_n hx hb dX12_odds_61 rfl (lv_at hl 0 rfl) ?_
      refine gX12_47 C hM (xt_0 hT) (f := (2, 47)) rfl (v := .ref (E.2.1.2.1 47)) rfl dX12_odds_62 ?_
      refine lv_iload_n hx hb dX12_odds_65 rfl (lv_at hl 1 rfl) ?_
      obtain ⟨q66, hq66, hf⟩ := mx_bd hf
      refine mx_callVN C hM hl.1 yo_X9_isWithOwner (h' := 0) (by decide) (nw_1086 hT C) qw_781 qs_54 (ci := 9) (q := (RX9, TX9, 13)) rfl (xt_47 hT) (As := [.int i1]) (rest := []) (st1 := [.int (mx_b q66)]) (kX9_isWithOwner C.2.2.2.1 47 i1 hT xiS_47 q57.2 hq66) rfl rfl rfl (Nat.le_of_ble_eq_true rfl) dX12_odds_66 (fun H locs hM => ?_)
      refine lv_if_eq (tgt := 75) hx hb dX12_odds_69 (by decide) (fun hc69 => ?_) (fun hc69 => ?_)
      · replace hf := mx_ift hc69 hf
        refine lv_iinc (v := (i5 + (1 : Int32))) (lv' := [(5, .int (i5 + (1 : Int32))), (0, .ref (E.2.1.2.1 0)), (1, .int i1), (2, .int i2), (3, .int i3), (4, .int i4)]) hx hb dX12_odds_75 hl (k := 5) rfl rfl (by decide) rfl (fun ls hl => ?_)
        refine lv_goto (tgt := 30) hx hb dX12_odds_78 (by decide) ?_
        exact ih i4 (i5 + (1 : Int32)) q57.2 _ _ _ hf hM (lv_sub hl [1, 2, 3, 4, 5, 0] rfl)
      · replace hf := mx_iff hc69 hf
        refine lv_iinc (v := (i4 + (1 : Int32))) (lv' := [(4, .int (i4 + (1 : Int32))), (0, .ref (E.2.1.2.1 0)), (1, .int i1), (2, .int i2), (3, .int i3), (5, .int i5)]) hx hb dX12_odds_72 hl (k := 4) rfl rfl (by decide) rfl (fun ls hl => ?_)
        refine lv_iinc (v := (i5 + (1 : Int32))) (lv' := [(5, .int (i5 + (1 : Int32))), (4, .int (i4 + (1 : Int32))), (0, .ref (E.2.1.2.1 0)), (1, .int i1), (2, .int i2), (3, .int i3)]) hx hb dX12_odds_75 hl (k := 5) rfl rfl (by decide) rfl (fun ls hl => ?_)
        refine lv_goto (tgt := 30) hx hb dX12_odds_78 (by decide) ?_
        exact ih (i4 + (1 : Int32)) (i5 + (1 : Int32)) q57.2 _ _ _ hf hM (lv_sub hl [2, 3, 4, 5, 1, 0] rfl)
set_option maxRecDepth 100000 in
set_option maxHeartbeats 4000000 in
theorem kX12_odds {E : KE} {l : Launch} (hE : mx_ok E) (i1 : Int32) (i2 : Int32) (i3 : Int32) (hT : xOK E) (M : MM) {q : (Int32 × MM)} (hf : fX12_odds i1 i2 i3 M = some q) : mx_Met E l yX12_odds cX12_odds 6 (some .int) 5 [.ref (E.2.1.2.1 0), .int i1, .int i2, .int i3] M (some (.int q.1)) q.2 := by
  refine mx_enter hE (by decide) (Nat.le_of_ble_eq_true rfl) ?_
  intro p e s m below meth c C hM hn ls hl
  have hx := C.1.1
  have hb := C.1.2.1
  have hown := C.1.2.2.2.1
  have hts := C.1.2.2.2.2
  have hl : lv_has ls 6 [(0, .ref (E.2.1.2.1 0)), (1, .int i1), (2, .int i2), (3, .int i3)] := hl
  rw [fX12_odds] at hf
  refine lv_aload_n hx hb dX12_odds_0 rfl (lv_at hl 0 rfl) ?_
  refine gX12_28 C hM (xt_0 hT) (f := (2, 9)) rfl (v := .ref (E.2.1.2.1 9)) rfl dX12_odds_1 ?_
  refine lv_iload_n hx hb dX12_odds_4 rfl (lv_at hl 1 rfl) ?_
  obtain ⟨q5, hq5, hf⟩ := mx_bd hf
  refine mx_callVN C hM hl.1 yo_X3_isRing (h' := 0) (by decide) (nw_657 hT C) qw_659 qs_33 (ci := 3) (q := (RX3, TX3, 18)) rfl (xt_9 hT) (As := [.int i1]) (rest := []) (st1 := [.int (mx_b q5)]) (kX3_isRing C.2.2.2.1 i1 hT M hq5) rfl rfl rfl (Nat.le_of_ble_eq_true rfl) dX12_odds_5 (fun H locs hM => ?_)
  refine lv_if_eq (tgt := 22) hx hb dX12_odds_8 (by decide) (fun hc8 => ?_) (fun hc8 => ?_)
  · replace hf := mx_ift hc8 hf
    refine lv_iconst (v := (-1 : Int32)) hx hb dX12_odds_22 (by decide) ?_
    exact mx_iret C hM hf dX12_odds_23
  · replace hf := mx_iff hc8 hf
    refine lv_iload_n hx hb dX12_odds_11 rfl (lv_at hl 2 rfl) ?_
    refine lv_iconst (v := (1 : Int32)) hx hb dX12_odds_12 (by decide) ?_
    refine lv_icmp_lt (tgt := 22) hx hb dX12_odds_13 (by decide) (fun hc13 => ?_) (fun hc13 => ?_)
    · replace hf := mx_ift hc13 hf
      refine lv_iconst (v := (-1 : Int32)) hx hb dX12_odds_22 (by decide) ?_
      exact mx_iret C hM hf dX12_odds_23
    · replace hf := mx_iff hc13 hf
      refine lv_iload_n hx hb dX12_odds_16 rfl (lv_at hl 2 rfl) ?_
      refine lv_bipush (v := (30 : Int32)) hx hb dX12_odds_17 (by decide) ?_
      refine lv_icmp_le (tgt := 24) hx hb dX12_odds_19 (by decide) (fun hc19 => ?_) (fun hc19 => ?_)
      · replace hf := mx_ift hc19 hf
        refine lv_iconst (v := (0 : Int32)) hx hb dX12_odds_24 (by decide) ?_
        refine lv_istore (lv' := [(4, .int (0 : Int32)), (0, .ref (E.2.1.2.1 0)), (1, .int i1), (2, .int i2), (3, .int i3)]) hx hb dX12_odds_25 hl (by decide) rfl (fun ls hl => ?_)
        refine lv_iconst (v := (0 : Int32)) hx hb dX12_odds_27 (by decide) ?_
        refine lv_istore (lv' := [(5, .int (0 : Int32)), (4, .int (0 : Int32)), (0, .ref (E.2.1.2.1 0)), (1, .int i1), (2, .int i2), (3, .int i3)]) hx hb dX12_odds_28 hl (by decide) rfl (fun ls hl => ?_)
        exact wfX12_odds_30 C i1 i2 i3 hT mx_fu (0 : Int32) (0 : Int32) M _ _ _ hf hM (lv_sub hl [2, 3, 4, 5, 1, 0] rfl)
      · replace hf := mx_iff hc19 hf
        refine lv_iconst (v := (-1 : Int32)) hx hb dX12_odds_22 (by decide) ?_
        exact mx_iret C hM hf dX12_odds_23
theorem dX12_book_0 : decode cX12_book 0 = .ok (.iload_n 1, 1) := by decide +kernel
theorem dX12_book_1 : decode cX12_book 1 = .ok (.ifCond .eq 12, 3) := by decide +kernel
theorem dX12_book_4 : decode cX12_book 4 = .ok (.iload_n 1, 1) := by decide +kernel
theorem dX12_book_5 : decode cX12_book 5 = .ok (.iconst 1, 1) := by decide +kernel
theorem dX12_book_6 : decode cX12_book 6 = .ok (.if_icmp .eq 7, 3) := by decide +kernel
theorem dX12_book_9 : decode cX12_book 9 = .ok (.sipush (-1000), 3) := by decide +kernel
theorem dX12_book_12 : decode cX12_book 12 = .ok (.ireturn, 1) := by decide +kernel
theorem dX12_book_13 : decode cX12_book 13 = .ok (.aload_n 0, 1) := by decide +kernel
theorem dX12_book_14 : decode cX12_book 14 = .ok (.getfield 21, 3) := by decide +kernel
theorem dX12_book_17 : decode cX12_book 17 = .ok (.sipush 400, 3) := by decide +kernel
theorem dX12_book_20 : decode cX12_book 20 = .ok (.invokevirtual 127, 3) := by decide +kernel
theorem dX12_book_23 : decode cX12_book 23 = .ok (.aload_n 0, 1) := by decide +kernel
theorem dX12_book_24 : decode cX12_book 24 = .ok (.getfield 70, 3) := by decide +kernel
theorem dX12_book_27 : decode cX12_book 27 = .ok (.aload_n 0, 1) := by decide +kernel
theorem dX12_book_28 : decode cX12_book 28 = .ok (.getfield 21, 3) := by decide +kernel
theorem dX12_book_31 : decode cX12_book 31 = .ok (.aload_n 0, 1) := by decide +kernel
theorem dX12_book_32 : decode cX12_book 32 = .ok (.getfield 28, 3) := by decide +kernel
theorem dX12_book_35 : decode cX12_book 35 = .ok (.invokevirtual 333, 3) := by decide +kernel
theorem dX12_book_38 : decode cX12_book 38 = .ok (.istore_n 2, 1) := by decide +kernel
theorem dX12_book_39 : decode cX12_book 39 = .ok (.aload_n 0, 1) := by decide +kernel
theorem dX12_book_40 : decode cX12_book 40 = .ok (.getfield 10, 3) := by decide +kernel
theorem dX12_book_43 : decode cX12_book 43 = .ok (.invokevirtual 134, 3) := by decide +kernel
theorem dX12_book_46 : decode cX12_book 46 = .ok (.aload_n 0, 1) := by decide +kernel
theorem dX12_book_47 : decode cX12_book 47 = .ok (.aload_n 0, 1) := by decide +kernel
theorem dX12_book_48 : decode cX12_book 48 = .ok (.getfield 21, 3) := by decide +kernel
theorem dX12_book_51 : decode cX12_book 51 = .ok (.getfield 137, 3) := by decide +kernel
theorem dX12_book_54 : decode cX12_book 54 = .ok (.putfield 140, 3) := by decide +kernel
theorem dX12_book_57 : decode cX12_book 57 = .ok (.iload_n 2, 1) := by decide +kernel
theorem dX12_book_58 : decode cX12_book 58 = .ok (.ifCond .ne 14, 3) := by decide +kernel
theorem dX12_book_61 : decode cX12_book 61 = .ok (.bipush (-2), 2) := by decide +kernel
theorem dX12_book_63 : decode cX12_book 63 = .ok (.aload_n 0, 1) := by decide +kernel
theorem dX12_book_64 : decode cX12_book 64 = .ok (.getfield 21, 3) := by decide +kernel
theorem dX12_book_67 : decode cX12_book 67 = .ok (.getfield 141, 3) := by decide +kernel
theorem dX12_book_70 : decode cX12_book 70 = .ok (.isub, 1) := by decide +kernel
theorem dX12_book_71 : decode cX12_book 71 = .ok (.ireturn, 1) := by decide +kernel
theorem dX12_book_72 : decode cX12_book 72 = .ok (.aload_n 0, 1) := by decide +kernel
theorem dX12_book_73 : decode cX12_book 73 = .ok (.getfield 47, 3) := by decide +kernel
theorem dX12_book_76 : decode cX12_book 76 = .ok (.aload_n 0, 1) := by decide +kernel
theorem dX12_book_77 : decode cX12_book 77 = .ok (.getfield 40, 3) := by decide +kernel
theorem dX12_book_80 : decode cX12_book 80 = .ok (.invokevirtual 233, 3) := by decide +kernel
theorem dX12_book_83 : decode cX12_book 83 = .ok (.aload_n 0, 1) := by decide +kernel
theorem dX12_book_84 : decode cX12_book 84 = .ok (.getfield 70, 3) := by decide +kernel
theorem dX12_book_87 : decode cX12_book 87 = .ok (.aload_n 0, 1) := by decide +kernel
theorem dX12_book_88 : decode cX12_book 88 = .ok (.getfield 47, 3) := by decide +kernel
theorem dX12_book_91 : decode cX12_book 91 = .ok (.invokevirtual 336, 3) := by decide +kernel
theorem dX12_book_94 : decode cX12_book 94 = .ok (.istore_n 3, 1) := by decide +kernel
theorem dX12_book_95 : decode cX12_book 95 = .ok (.iload_n 1, 1) := by decide +kernel
theorem dX12_book_96 : decode cX12_book 96 = .ok (.iconst 1, 1) := by decide +kernel
theorem dX12_book_97 : decode cX12_book 97 = .ok (.if_icmp .ne 35, 3) := by decide +kernel
theorem dX12_book_100 : decode cX12_book 100 = .ok (.aload_n 0, 1) := by decide +kernel
theorem dX12_book_101 : decode cX12_book 101 = .ok (.getfield 70, 3) := by decide +kernel
theorem dX12_book_104 : decode cX12_book 104 = .ok (.getfield 339, 3) := by decide +kernel
theorem dX12_book_107 : decode cX12_book 107 = .ok (.ifCond .le 25, 3) := by decide +kernel
theorem dX12_book_110 : decode cX12_book 110 = .ok (.aload_n 0, 1) := by decide +kernel
theorem dX12_book_111 : decode cX12_book 111 = .ok (.getfield 53, 3) := by decide +kernel
theorem dX12_book_114 : decode cX12_book 114 = .ok (.aload_n 0, 1) := by decide +kernel
theorem dX12_book_115 : decode cX12_book 115 = .ok (.getfield 40, 3) := by decide +kernel
theorem dX12_book_118 : decode cX12_book 118 = .ok (.invokevirtual 342, 3) := by decide +kernel
theorem dX12_book_121 : decode cX12_book 121 = .ok (.aload_n 0, 1) := by decide +kernel
theorem dX12_book_122 : decode cX12_book 122 = .ok (.getfield 40, 3) := by decide +kernel
theorem dX12_book_125 : decode cX12_book 125 = .ok (.aload_n 0, 1) := by decide +kernel
theorem dX12_book_126 : decode cX12_book 126 = .ok (.getfield 47, 3) := by decide +kernel
theorem dX12_book_129 : decode cX12_book 129 = .ok (.invokevirtual 233, 3) := by decide +kernel
theorem dX12_book_132 : decode cX12_book 132 = .ok (.iload_n 3, 1) := by decide +kernel
theorem dX12_book_133 : decode cX12_book 133 = .ok (.ireturn, 1) := by decide +kernel
set_option maxRecDepth 100000 in
set_option maxHeartbeats 4000000 in
theorem wfX12_book_13 {E : KE} {p : Program} {l : Launch} {e : Env} {s : State} {m : MethodId} {args : Array Value} {below : List Frame} {meth : Method} {c : Code} {q : (Int32 × MM)} (C : mx_C E p m c cX12_book 4 s args RX12 meth (some .int)) (i1 : Int32) (hT : xOK E)   : ∀ (M : MM) (H : Heap) (locs : List Loc) (ls : Array Slot), fX12_book_13 i1 M = some q → mx_H E s M H locs → lv_has ls 4 [(0, .ref (E.2.1.2.1 0)), (1, .int i1)] → W p l e (mx_rm 7) s m args below meth c H locs 0 0 (mx_Z E below args s (some (.int q.1)) q.2) (F0 m 13 ls []) := by
  have hx := C.1.1
  have hb := C.1.2.1
  have hown := C.1.2.2.2.1
  have hts := C.1.2.2.2.2
  intro M H locs ls hf hM hl
  rw [fX12_book_13] at hf
  refine lv_aload_n hx hb dX12_book_13 rfl (lv_at hl 0 rfl) ?_
  refine gX12_21 C hM (xt_0 hT) (f := (2, 3)) rfl (v := .ref (E.2.1.2.1 3)) rfl dX12_book_14 ?_
  refine lv_sipush (v := (400 : Int32)) hx hb dX12_book_17 (by decide) ?_
  obtain ⟨q20, hq20, hf⟩ := mx_bd hf
  refine mx_callVN C hM hl.1 yo_X7_open (h' := 3) (by decide) (nw_497 hT C) qw_499 qs_3 (ci := 7) (q := (RX7, TX7, 12)) rfl (xt_3 hT) (As := [.int (400 : Int32)]) (rest := []) (st1 := []) (kX7_open C.2.2.2.1 (400 : Int32) hT M hq20) rfl rfl rfl (Nat.le_of_ble_eq_true rfl) dX12_book_20 (fun H locs hM => ?_)
  refine lv_aload_n hx hb dX12_book_23 rfl (lv_at hl 0 rfl) ?_
  refine gX12_70 C hM (xt_0 hT) (f := (2, 138)) rfl (v := .ref (E.2.1.2.1 138)) rfl dX12_book_24 ?_
  refine lv_aload_n hx hb dX12_book_27 rfl (lv_at hl 0 rfl) ?_
  refine gX12_21 C hM (xt_0 hT) (f := (2, 3)) rfl (v := .ref (E.2.1.2.1 3)) rfl dX12_book_28 ?_
  refine lv_aload_n hx hb dX12_book_31 rfl (lv_at hl 0 rfl) ?_
  refine gX12_28 C hM (xt_0 hT) (f := (2, 9)) rfl (v := .ref (E.2.1.2.1 9)) rfl dX12_book_32 ?_
  obtain ⟨q35, hq35, hf⟩ := mx_bd hf
  refine mx_callVN C hM hl.1 yo_X1_readFrom (h' := 4) (by decide) (nw_1091 hT C) qw_1093 qs_87 (ci := 1) (q := (RX1, TX1, 10)) rfl (xt_138 hT) (As := [.ref (E.2.1.2.1 3), .ref (E.2.1.2.1 9)]) (rest := []) (st1 := [.int (mx_b q35.1)]) (kX1_readFrom C.2.2.2.1 hT q20 hq35) rfl rfl rfl (Nat.le_of_ble_eq_true rfl) dX12_book_35 (fun H locs hM => ?_)
  refine lv_istore_n (lv' := [(2, .int (mx_b q35.1)), (0, .ref (E.2.1.2.1 0)), (1, .int i1)]) hx hb dX12_book_38 rfl hl (by decide) rfl (fun ls hl => ?_)
  refine lv_aload_n hx hb dX12_book_39 rfl (lv_at hl 1 rfl) ?_
  refine gX12_10 C hM (xt_0 hT) (f := (2, 1)) rfl (v := .ref (E.2.1.2.1 1)) rfl dX12_book_40 ?_
  obtain ⟨q43, hq43, hf⟩ := mx_bd hf
  refine mx_callVN C hM hl.1 yo_X10_clear (h' := 0) (by decide) (nw_622 hT C) qw_624 qs_27 (ci := 10) (q := (RX10, TX10, 2)) rfl (xt_1 hT) (As := []) (rest := []) (st1 := []) (kX10_clear C.2.2.2.1 hT q35.2 hq43) rfl rfl rfl (Nat.le_of_ble_eq_true rfl) dX12_book_43 (fun H locs hM => ?_)
  refine lv_aload_n hx hb dX12_book_46 rfl (lv_at hl 1 rfl) ?_
  refine lv_aload_n hx hb dX12_book_47 rfl (lv_at hl 1 rfl) ?_
  refine gX12_21 C hM (xt_0 hT) (f := (2, 3)) rfl (v := .ref (E.2.1.2.1 3)) rfl dX12_book_48 ?_
  refine gX12_137 C hT hM (xt_3 hT) (f := (0, 0)) rfl (v := .int (q43.1 3 10)) rfl dX12_book_51 ?_
  refine pX12_140 C hM (xt_0 hT) rfl rfl rfl dX12_book_54 (fun H locs hM => ?_)
  refine lv_iload_n hx hb dX12_book_57 rfl (lv_at hl 0 rfl) ?_
  refine lv_if_ne (tgt := 72) hx hb dX12_book_58 (by decide) (fun hc58 => ?_) (fun hc58 => ?_)
  · replace hf := mx_iff hc58 hf
    refine lv_aload_n hx hb dX12_book_72 rfl (lv_at hl 1 rfl) ?_
    refine gX12_47 C hM (xt_0 hT) (f := (2, 47)) rfl (v := .ref (E.2.1.2.1 47)) rfl dX12_book_73 ?_
    refine lv_aload_n hx hb dX12_book_76 rfl (lv_at hl 1 rfl) ?_
    refine gX12_40 C hM (xt_0 hT) (f := (2, 29)) rfl (v := .ref (E.2.1.2.1 29)) rfl dX12_book_77 ?_
    obtain ⟨q80, hq80, hf⟩ := mx_bd hf
    refine mx_callVN C hM hl.1 yo_X9_copyFrom (h' := 1) (by decide) (nw_692 hT C) qw_694 qs_39 (ci := 9) (q := (RX9, TX9, 13)) rfl (xt_47 hT) (As := [.ref (E.2.1.2.1 29)]) (rest := []) (st1 := []) (kX9_copyFrom C.2.2.2.1 47 29 hT xiS_47 xiS_29 (mx_si q43 0 18 (q43.1 3 10)) hq80) rfl rfl rfl (Nat.le_of_ble_eq_true rfl) dX12_book_80 (fun H locs hM => ?_)
    refine lv_aload_n hx hb dX12_book_83 rfl (lv_at hl 1 rfl) ?_
    refine gX12_70 C hM (xt_0 hT) (f := (2, 138)) rfl (v := .ref (E.2.1.2.1 138)) rfl dX12_book_84 ?_
    refine lv_aload_n hx hb dX12_book_87 rfl (lv_at hl 1 rfl) ?_
    refine gX12_47 C hM (xt_0 hT) (f := (2, 47)) rfl (v := .ref (E.2.1.2.1 47)) rfl dX12_book_88 ?_
    obtain ⟨q91, hq91, hf⟩ := mx_bd hf
    refine mx_callVN C hM hl.1 yo_X1_judge (h' := 6) (by decide) (nw_1133 hT C) qw_1135 qs_94 (ci := 1) (q := (RX1, TX1, 10)) rfl (xt_138 hT) (As := [.ref (E.2.1.2.1 47)]) (rest := []) (st1 := [.int q91.1]) (kX1_judge C.2.2.2.1 hT q80 hq91) rfl rfl rfl (Nat.le_of_ble_eq_true rfl) dX12_book_91 (fun H locs hM => ?_)
    refine lv_istore_n (lv' := [(3, .int q91.1), (2, .int (mx_b q35.1)), (0, .ref (E.2.1.2.1 0)), (1, .int i1)]) hx hb dX12_book_94 rfl hl (by decide) rfl (fun ls hl => ?_)
    refine lv_iload_n hx hb dX12_book_95 rfl (lv_at hl 3 rfl) ?_
    refine lv_iconst (v := (1 : Int32)) hx hb dX12_book_96 (by decide) ?_
    refine lv_icmp_ne (tgt := 132) hx hb dX12_book_97 (by decide) (fun hc97 => ?_) (fun hc97 => ?_)
    · replace hf := mx_iff hc97 hf
      refine lv_iload_n hx hb dX12_book_132 rfl (lv_at hl 0 rfl) ?_
      exact mx_iret C hM hf dX12_book_133
    · replace hf := mx_ift hc97 hf
      refine lv_aload_n hx hb dX12_book_100 rfl (lv_at hl 2 rfl) ?_
      refine gX12_70 C hM (xt_0 hT) (f := (2, 138)) rfl (v := .ref (E.2.1.2.1 138)) rfl dX12_book_101 ?_
      refine gX12_339 C hT hM (xt_138 hT) (f := (0, 0)) rfl (v := .int (q91.2.1 138 7)) rfl dX12_book_104 ?_
      refine lv_if_le (tgt := 132) hx hb dX12_book_107 (by decide) (fun hc107 => ?_) (fun hc107 => ?_)
      · replace hf := mx_ift hc107 hf
        refine lv_iload_n hx hb dX12_book_132 rfl (lv_at hl 0 rfl) ?_
        exact mx_iret C hM hf dX12_book_133
      · replace hf := mx_iff hc107 hf
        refine lv_aload_n hx hb dX12_book_110 rfl (lv_at hl 2 rfl) ?_
        refine gX12_53 C hM (xt_0 hT) (f := (2, 56)) rfl (v := .ref (E.2.1.2.1 56)) rfl dX12_book_111 ?_
        refine lv_aload_n hx hb dX12_book_114 rfl (lv_at hl 2 rfl) ?_
        refine gX12_40 C hM (xt_0 hT) (f := (2, 29)) rfl (v := .ref (E.2.1.2.1 29)) rfl dX12_book_115 ?_
        obtain ⟨q118, hq118, hf⟩ := mx_bd hf
        refine mx_callVN C hM hl.1 yo_X5_push (h' := 2) (by decide) (nw_712 hT C) qw_714 qs_43 (ci := 5) (q := (RX5, TX5, 2)) rfl (xt_56 hT) (As := [.ref (E.2.1.2.1 29)]) (rest := []) (st1 := []) (kX5_push C.2.2.2.1 29 hT xiS_29 q91.2 hq118) rfl rfl rfl (Nat.le_of_ble_eq_true rfl) dX12_book_118 (fun H locs hM => ?_)
        refine lv_aload_n hx hb dX12_book_121 rfl (lv_at hl 2 rfl) ?_
        refine gX12_40 C hM (xt_0 hT) (f := (2, 29)) rfl (v := .ref (E.2.1.2.1 29)) rfl dX12_book_122 ?_
        refine lv_aload_n hx hb dX12_book_125 rfl (lv_at hl 2 rfl) ?_
        refine gX12_47 C hM (xt_0 hT) (f := (2, 47)) rfl (v := .ref (E.2.1.2.1 47)) rfl dX12_book_126 ?_
        obtain ⟨q129, hq129, hf⟩ := mx_bd hf
        refine mx_callVN C hM hl.1 yo_X9_copyFrom (h' := 1) (by decide) (nw_692 hT C) qw_694 qs_39 (ci := 9) (q := (RX9, TX9, 13)) rfl (xt_29 hT) (As := [.ref (E.2.1.2.1 47)]) (rest := []) (st1 := []) (kX9_copyFrom C.2.2.2.1 29 47 hT xiS_29 xiS_47 q118 hq129) rfl rfl rfl (Nat.le_of_ble_eq_true rfl) dX12_book_129 (fun H locs hM => ?_)
        refine lv_iload_n hx hb dX12_book_132 rfl (lv_at hl 0 rfl) ?_
        exact mx_iret C hM hf dX12_book_133
  · replace hf := mx_ift hc58 hf
    refine lv_bipush (v := (-2 : Int32)) hx hb dX12_book_61 (by decide) ?_
    refine lv_aload_n hx hb dX12_book_63 rfl (lv_at hl 1 rfl) ?_
    refine gX12_21 C hM (xt_0 hT) (f := (2, 3)) rfl (v := .ref (E.2.1.2.1 3)) rfl dX12_book_64 ?_
    refine gX12_141 C hT hM (xt_3 hT) (f := (0, 0)) rfl (v := .int ((mx_si q43 0 18 (q43.1 3 10)).1 3 11)) rfl dX12_book_67 ?_
    refine lv_isub hx hb dX12_book_70 ?_
    exact mx_iret C hM hf dX12_book_71
set_option maxRecDepth 100000 in
set_option maxHeartbeats 4000000 in
theorem kX12_book {E : KE} {l : Launch} (hE : mx_ok E) (i1 : Int32) (hT : xOK E) (M : MM) {q : (Int32 × MM)} (hf : fX12_book i1 M = some q) : mx_Met E l yX12_book cX12_book 4 (some .int) 7 [.ref (E.2.1.2.1 0), .int i1] M (some (.int q.1)) q.2 := by
  refine mx_enter hE (by decide) (Nat.le_of_ble_eq_true rfl) ?_
  intro p e s m below meth c C hM hn ls hl
  have hx := C.1.1
  have hb := C.1.2.1
  have hown := C.1.2.2.2.1
  have hts := C.1.2.2.2.2
  have hl : lv_has ls 4 [(0, .ref (E.2.1.2.1 0)), (1, .int i1)] := hl
  rw [fX12_book] at hf
  refine lv_iload_n hx hb dX12_book_0 rfl (lv_at hl 1 rfl) ?_
  refine lv_if_eq (tgt := 13) hx hb dX12_book_1 (by decide) (fun hc1 => ?_) (fun hc1 => ?_)
  · replace hf := mx_ift hc1 hf
    exact wfX12_book_13 C i1 hT M _ _ _ hf hM (lv_sub hl [0, 1] rfl)
  · replace hf := mx_iff hc1 hf
    refine lv_iload_n hx hb dX12_book_4 rfl (lv_at hl 1 rfl) ?_
    refine lv_iconst (v := (1 : Int32)) hx hb dX12_book_5 (by decide) ?_
    refine lv_icmp_eq (tgt := 13) hx hb dX12_book_6 (by decide) (fun hc6 => ?_) (fun hc6 => ?_)
    · replace hf := mx_ift hc6 hf
      exact wfX12_book_13 C i1 hT M _ _ _ hf hM (lv_sub hl [0, 1] rfl)
    · replace hf := mx_iff hc6 hf
      refine lv_sipush (v := (-1000 : Int32)) hx hb dX12_book_9 (by decide) ?_
      exact mx_iret C hM hf dX12_book_12
theorem dX12_told_0 : decode cX12_told 0 = .ok (.aload_n 0, 1) := by decide +kernel
theorem dX12_told_1 : decode cX12_told 1 = .ok (.getfield 70, 3) := by decide +kernel
theorem dX12_told_4 : decode cX12_told 4 = .ok (.getfield 345, 3) := by decide +kernel
theorem dX12_told_7 : decode cX12_told 7 = .ok (.ifCond .ne 5, 3) := by decide +kernel
theorem dX12_told_10 : decode cX12_told 10 = .ok (.iconst (-1), 1) := by decide +kernel
theorem dX12_told_11 : decode cX12_told 11 = .ok (.ireturn, 1) := by decide +kernel
theorem dX12_told_12 : decode cX12_told 12 = .ok (.iload_n 1, 1) := by decide +kernel
theorem dX12_told_13 : decode cX12_told 13 = .ok (.tableswitch 63 0 3 #[31, 39, 47, 55], 31) := by decide +kernel
theorem dX12_told_44 : decode cX12_told 44 = .ok (.aload_n 0, 1) := by decide +kernel
theorem dX12_told_45 : decode cX12_told 45 = .ok (.getfield 70, 3) := by decide +kernel
theorem dX12_told_48 : decode cX12_told 48 = .ok (.getfield 349, 3) := by decide +kernel
theorem dX12_told_51 : decode cX12_told 51 = .ok (.ireturn, 1) := by decide +kernel
theorem dX12_told_52 : decode cX12_told 52 = .ok (.aload_n 0, 1) := by decide +kernel
theorem dX12_told_53 : decode cX12_told 53 = .ok (.getfield 70, 3) := by decide +kernel
theorem dX12_told_56 : decode cX12_told 56 = .ok (.getfield 339, 3) := by decide +kernel
theorem dX12_told_59 : decode cX12_told 59 = .ok (.ireturn, 1) := by decide +kernel
theorem dX12_told_60 : decode cX12_told 60 = .ok (.aload_n 0, 1) := by decide +kernel
theorem dX12_told_61 : decode cX12_told 61 = .ok (.getfield 70, 3) := by decide +kernel
theorem dX12_told_64 : decode cX12_told 64 = .ok (.getfield 352, 3) := by decide +kernel
theorem dX12_told_67 : decode cX12_told 67 = .ok (.ireturn, 1) := by decide +kernel
theorem dX12_told_68 : decode cX12_told 68 = .ok (.aload_n 0, 1) := by decide +kernel
theorem dX12_told_69 : decode cX12_told 69 = .ok (.getfield 70, 3) := by decide +kernel
theorem dX12_told_72 : decode cX12_told 72 = .ok (.getfield 355, 3) := by decide +kernel
theorem dX12_told_75 : decode cX12_told 75 = .ok (.ireturn, 1) := by decide +kernel
theorem dX12_told_76 : decode cX12_told 76 = .ok (.iconst (-1), 1) := by decide +kernel
theorem dX12_told_77 : decode cX12_told 77 = .ok (.ireturn, 1) := by decide +kernel
set_option maxRecDepth 100000 in
set_option maxHeartbeats 4000000 in
theorem kX12_told {E : KE} {l : Launch} (hE : mx_ok E) (i1 : Int32) (hT : xOK E) (M : MM) {q : Int32} (hf : fX12_told i1 M = some q) : mx_Met E l yX12_told cX12_told 2 (some .int) 0 [.ref (E.2.1.2.1 0), .int i1] M (some (.int q)) M := by
  refine mx_enter hE (by decide) (Nat.le_of_ble_eq_true rfl) ?_
  intro p e s m below meth c C hM hn ls hl
  have hx := C.1.1
  have hb := C.1.2.1
  have hown := C.1.2.2.2.1
  have hts := C.1.2.2.2.2
  have hl : lv_has ls 2 [(0, .ref (E.2.1.2.1 0)), (1, .int i1)] := hl
  rw [fX12_told] at hf
  refine lv_aload_n hx hb dX12_told_0 rfl (lv_at hl 0 rfl) ?_
  refine gX12_70 C hM (xt_0 hT) (f := (2, 138)) rfl (v := .ref (E.2.1.2.1 138)) rfl dX12_told_1 ?_
  refine gX12_345 C hT hM (xt_138 hT) (f := (0, 0)) rfl (v := .int (M.1 138 5)) rfl dX12_told_4 ?_
  refine lv_if_ne (tgt := 12) hx hb dX12_told_7 (by decide) (fun hc7 => ?_) (fun hc7 => ?_)
  · replace hf := mx_iff hc7 hf
    refine lv_iload_n hx hb dX12_told_12 rfl (lv_at hl 1 rfl) ?_
    by_cases hs0 : i1 = 0
    · replace hf := mx_ift hs0 hf
      refine lv_tableIn (tgt := 44) hx hb dX12_told_13 (by rw [hs0]; decide) (by rw [hs0]; decide) (by rw [hs0]; rfl) (by decide) ?_
      refine lv_aload_n hx hb dX12_told_44 rfl (lv_at hl 0 rfl) ?_
      refine gX12_70 C hM (xt_0 hT) (f := (2, 138)) rfl (v := .ref (E.2.1.2.1 138)) rfl dX12_told_45 ?_
      refine gX12_349 C hT hM (xt_138 hT) (f := (0, 0)) rfl (v := .int (M.1 138 6)) rfl dX12_told_48 ?_
      exact mx_iretR C hM hf dX12_told_51
    replace hf := mx_iff hs0 hf
    by_cases hs1 : i1 = 1
    · replace hf := mx_ift hs1 hf
      refine lv_tableIn (tgt := 52) hx hb dX12_told_13 (by rw [hs1]; decide) (by rw [hs1]; decide) (by rw [hs1]; rfl) (by decide) ?_
      refine lv_aload_n hx hb dX12_told_52 rfl (lv_at hl 0 rfl) ?_
      refine gX12_70 C hM (xt_0 hT) (f := (2, 138)) rfl (v := .ref (E.2.1.2.1 138)) rfl dX12_told_53 ?_
      refine gX12_339 C hT hM (xt_138 hT) (f := (0, 0)) rfl (v := .int (M.1 138 7)) rfl dX12_told_56 ?_
      exact mx_iretR C hM hf dX12_told_59
    replace hf := mx_iff hs1 hf
    by_cases hs2 : i1 = 2
    · replace hf := mx_ift hs2 hf
      refine lv_tableIn (tgt := 60) hx hb dX12_told_13 (by rw [hs2]; decide) (by rw [hs2]; decide) (by rw [hs2]; rfl) (by decide) ?_
      refine lv_aload_n hx hb dX12_told_60 rfl (lv_at hl 0 rfl) ?_
      refine gX12_70 C hM (xt_0 hT) (f := (2, 138)) rfl (v := .ref (E.2.1.2.1 138)) rfl dX12_told_61 ?_
      refine gX12_352 C hT hM (xt_138 hT) (f := (0, 0)) rfl (v := .int (M.1 138 8)) rfl dX12_told_64 ?_
      exact mx_iretR C hM hf dX12_told_67
    replace hf := mx_iff hs2 hf
    by_cases hs3 : i1 = 3
    · replace hf := mx_ift hs3 hf
      refine lv_tableIn (tgt := 68) hx hb dX12_told_13 (by rw [hs3]; decide) (by rw [hs3]; decide) (by rw [hs3]; rfl) (by decide) ?_
      refine lv_aload_n hx hb dX12_told_68 rfl (lv_at hl 0 rfl) ?_
      refine gX12_70 C hM (xt_0 hT) (f := (2, 138)) rfl (v := .ref (E.2.1.2.1 138)) rfl dX12_told_69 ?_
      refine gX12_355 C hT hM (xt_138 hT) (f := (0, 0)) rfl (v := .int (M.1 138 9)) rfl dX12_told_72 ?_
      exact mx_iretR C hM hf dX12_told_75
    replace hf := mx_iff hs3 hf
    refine lv_tableOut (tgt := 76) hx hb dX12_told_13 (by have hh := And.intro trivial trivial; have hh0 := lv_neT hs0 (by decide : (0 : Int32).toInt = 0); have hh1 := lv_neT hs1 (by decide : (1 : Int32).toInt = 1); have hh2 := lv_neT hs2 (by decide : (2 : Int32).toInt = 2); have hh3 := lv_neT hs3 (by decide : (3 : Int32).toInt = 3); omega) (by decide) ?_
    refine lv_iconst (v := (-1 : Int32)) hx hb dX12_told_76 (by decide) ?_
    exact mx_iretR C hM hf dX12_told_77
  · replace hf := mx_ift hc7 hf
    refine lv_iconst (v := (-1 : Int32)) hx hb dX12_told_10 (by decide) ?_
    exact mx_iretR C hM hf dX12_told_11
