theorem dX12_find_0 : decode cX12_find 0 = .ok (.aload_n 0, 1) := by decide +kernel
theorem dX12_find_1 : decode cX12_find 1 = .ok (.getfield 28, 3) := by decide +kernel
theorem dX12_find_4 : decode cX12_find 4 = .ok (.iload_n 1, 1) := by decide +kernel
theorem dX12_find_5 : decode cX12_find 5 = .ok (.invokevirtual 154, 3) := by decide +kernel
theorem dX12_find_8 : decode cX12_find 8 = .ok (.ifCond .eq 14, 3) := by decide +kernel
theorem dX12_find_11 : decode cX12_find 11 = .ok (.aload_n 0, 1) := by decide +kernel
theorem dX12_find_12 : decode cX12_find 12 = .ok (.getfield 28, 3) := by decide +kernel
theorem dX12_find_15 : decode cX12_find 15 = .ok (.iload_n 2, 1) := by decide +kernel
theorem dX12_find_16 : decode cX12_find 16 = .ok (.invokevirtual 183, 3) := by decide +kernel
theorem dX12_find_19 : decode cX12_find 19 = .ok (.ifCond .ne 5, 3) := by decide +kernel
theorem dX12_find_22 : decode cX12_find 22 = .ok (.iconst (-1), 1) := by decide +kernel
theorem dX12_find_23 : decode cX12_find 23 = .ok (.ireturn, 1) := by decide +kernel
theorem dX12_find_24 : decode cX12_find 24 = .ok (.aload_n 0, 1) := by decide +kernel
theorem dX12_find_25 : decode cX12_find 25 = .ok (.getfield 44, 3) := by decide +kernel
theorem dX12_find_28 : decode cX12_find 28 = .ok (.aload_n 0, 1) := by decide +kernel
theorem dX12_find_29 : decode cX12_find 29 = .ok (.getfield 40, 3) := by decide +kernel
theorem dX12_find_32 : decode cX12_find 32 = .ok (.invokevirtual 233, 3) := by decide +kernel
theorem dX12_find_35 : decode cX12_find 35 = .ok (.aload_n 0, 1) := by decide +kernel
theorem dX12_find_36 : decode cX12_find 36 = .ok (.aload_n 0, 1) := by decide +kernel
theorem dX12_find_37 : decode cX12_find 37 = .ok (.getfield 40, 3) := by decide +kernel
theorem dX12_find_40 : decode cX12_find 40 = .ok (.iload_n 1, 1) := by decide +kernel
theorem dX12_find_41 : decode cX12_find 41 = .ok (.iload_n 2, 1) := by decide +kernel
theorem dX12_find_42 : decode cX12_find 42 = .ok (.invokevirtual 252, 3) := by decide +kernel
theorem dX12_find_45 : decode cX12_find 45 = .ok (.invokevirtual 240, 3) := by decide +kernel
theorem dX12_find_48 : decode cX12_find 48 = .ok (.ireturn, 1) := by decide +kernel
set_option maxRecDepth 100000 in
set_option maxHeartbeats 4000000 in
theorem kX12_find {E : KE} {l : Launch} (hE : mx_ok E) (i1 : Int32) (i2 : Int32) (hT : xOK E) (M : MM) {q : (Int32 × MM)} (hf : fX12_find i1 i2 M = some q) : mx_Met E l yX12_find cX12_find 3 (some .int) 4 [.ref (E.2.1.2.1 0), .int i1, .int i2] M (some (.int q.1)) q.2 := by
  refine mx_enter hE (by decide) (Nat.le_of_ble_eq_true rfl) ?_
  intro p e s m below meth c C hM hn ls hl
  have hx := C.1.1
  have hb := C.1.2.1
  have hown := C.1.2.2.2.1
  have hts := C.1.2.2.2.2
  have hl : lv_has ls 3 [(0, .ref (E.2.1.2.1 0)), (1, .int i1), (2, .int i2)] := hl
  rw [fX12_find] at hf
  refine lv_aload_n hx hb dX12_find_0 rfl (lv_at hl 0 rfl) ?_
  refine gX12_28 C hM (xt_0 hT) (f := (2, 9)) rfl (v := .ref (E.2.1.2.1 9)) rfl dX12_find_1 ?_
  refine lv_iload_n hx hb dX12_find_4 rfl (lv_at hl 1 rfl) ?_
  obtain ⟨q5, hq5, hf⟩ := mx_bd hf
  refine mx_callVN C hM hl.1 yo_X3_isPerson (h' := 0) (by decide) (nw_662 hT C) qw_664 qs_34 (ci := 3) (q := (RX3, TX3, 18)) rfl (xt_9 hT) (As := [.int i1]) (rest := []) (st1 := [.int (mx_b q5)]) (kX3_isPerson C.2.2.2.1 i1 hT M hq5) rfl rfl rfl (Nat.le_of_ble_eq_true rfl) dX12_find_5 (fun H locs hM => ?_)
  refine lv_if_eq (tgt := 22) hx hb dX12_find_8 (by decide) (fun hc8 => ?_) (fun hc8 => ?_)
  · replace hf := mx_ift hc8 hf
    refine lv_iconst (v := (-1 : Int32)) hx hb dX12_find_22 (by decide) ?_
    exact mx_iret C hM hf dX12_find_23
  · replace hf := mx_iff hc8 hf
    refine lv_aload_n hx hb dX12_find_11 rfl (lv_at hl 0 rfl) ?_
    refine gX12_28 C hM (xt_0 hT) (f := (2, 9)) rfl (v := .ref (E.2.1.2.1 9)) rfl dX12_find_12 ?_
    refine lv_iload_n hx hb dX12_find_15 rfl (lv_at hl 2 rfl) ?_
    obtain ⟨q16, hq16, hf⟩ := mx_bd hf
    refine mx_callVN C hM hl.1 yo_X3_isRing (h' := 0) (by decide) (nw_658 hT C) qw_660 qs_33 (ci := 3) (q := (RX3, TX3, 18)) rfl (xt_9 hT) (As := [.int i2]) (rest := []) (st1 := [.int (mx_b q16)]) (kX3_isRing C.2.2.2.1 i2 hT M hq16) rfl rfl rfl (Nat.le_of_ble_eq_true rfl) dX12_find_16 (fun H locs hM => ?_)
    refine lv_if_ne (tgt := 24) hx hb dX12_find_19 (by decide) (fun hc19 => ?_) (fun hc19 => ?_)
    · replace hf := mx_iff hc19 hf
      refine lv_aload_n hx hb dX12_find_24 rfl (lv_at hl 0 rfl) ?_
      refine gX12_44 C hM (xt_0 hT) (f := (2, 38)) rfl (v := .ref (E.2.1.2.1 38)) rfl dX12_find_25 ?_
      refine lv_aload_n hx hb dX12_find_28 rfl (lv_at hl 0 rfl) ?_
      refine gX12_40 C hM (xt_0 hT) (f := (2, 29)) rfl (v := .ref (E.2.1.2.1 29)) rfl dX12_find_29 ?_
      obtain ⟨q32, hq32, hf⟩ := mx_bd hf
      refine mx_callVN C hM hl.1 yo_X9_copyFrom (h' := 1) (by decide) (nw_693 hT C) qw_695 qs_39 (ci := 9) (q := (RX9, TX9, 13)) rfl (xt_38 hT) (As := [.ref (E.2.1.2.1 29)]) (rest := []) (st1 := []) (kX9_copyFrom C.2.2.2.1 38 29 hT xiS_38 xiS_29 M hq32) rfl rfl rfl (Nat.le_of_ble_eq_true rfl) dX12_find_32 (fun H locs hM => ?_)
      refine lv_aload_n hx hb dX12_find_35 rfl (lv_at hl 0 rfl) ?_
      refine lv_aload_n hx hb dX12_find_36 rfl (lv_at hl 0 rfl) ?_
      refine gX12_40 C hM (xt_0 hT) (f := (2, 29)) rfl (v := .ref (E.2.1.2.1 29)) rfl dX12_find_37 ?_
      refine lv_iload_n hx hb dX12_find_40 rfl (lv_at hl 1 rfl) ?_
      refine lv_iload_n hx hb dX12_find_41 rfl (lv_at hl 2 rfl) ?_
      obtain ⟨q42, hq42, hf⟩ := mx_bd hf
      refine mx_callVN C hM hl.1 yo_X9_pickUp (h' := 2) (by decide) (nw_763 hT C) qw_765 qs_51 (ci := 9) (q := (RX9, TX9, 13)) rfl (xt_29 hT) (As := [.int i1, .int i2]) (rest := [.ref (E.2.1.2.1 0)]) (st1 := [.int q42.1, .ref (E.2.1.2.1 0)]) (kX9_pickUp C.2.2.2.1 29 i1 i2 hT xiS_29 q32 hq42) rfl rfl rfl (Nat.le_of_ble_eq_true rfl) dX12_find_42 (fun H locs hM => ?_)
      obtain ⟨q45, hq45, hf⟩ := mx_bd hf
      refine mx_callV C hM hl.1 yo_X12_keptIfDone (h' := 3) (by decide) qw_709 qw_711 qs_42 (ci := 12) (q := (RX12, TX12, 19)) rfl (xt_0 hT) (As := [.int q42.1]) (rest := []) (st1 := [.int q45.1]) (kX12_keptIfDone C.2.2.2.1 q42.1 hT q42.2 hq45) rfl rfl rfl (Nat.le_of_ble_eq_true rfl) dX12_find_45 (fun H locs hM => ?_)
      exact mx_iret C hM hf dX12_find_48
    · replace hf := mx_ift hc19 hf
      refine lv_iconst (v := (-1 : Int32)) hx hb dX12_find_22 (by decide) ?_
      exact mx_iret C hM hf dX12_find_23
theorem dX12_keptIfSome_0 : decode cX12_keptIfSome 0 = .ok (.iload_n 1, 1) := by decide +kernel
theorem dX12_keptIfSome_1 : decode cX12_keptIfSome 1 = .ok (.ifCond .le 14, 3) := by decide +kernel
theorem dX12_keptIfSome_4 : decode cX12_keptIfSome 4 = .ok (.aload_n 0, 1) := by decide +kernel
theorem dX12_keptIfSome_5 : decode cX12_keptIfSome 5 = .ok (.getfield 53, 3) := by decide +kernel
theorem dX12_keptIfSome_8 : decode cX12_keptIfSome 8 = .ok (.aload_n 0, 1) := by decide +kernel
theorem dX12_keptIfSome_9 : decode cX12_keptIfSome 9 = .ok (.getfield 44, 3) := by decide +kernel
theorem dX12_keptIfSome_12 : decode cX12_keptIfSome 12 = .ok (.invokevirtual 339, 3) := by decide +kernel
theorem dX12_keptIfSome_15 : decode cX12_keptIfSome 15 = .ok (.iload_n 1, 1) := by decide +kernel
theorem dX12_keptIfSome_16 : decode cX12_keptIfSome 16 = .ok (.ireturn, 1) := by decide +kernel
set_option maxRecDepth 100000 in
set_option maxHeartbeats 4000000 in
theorem kX12_keptIfSome {E : KE} {l : Launch} (hE : mx_ok E) (i1 : Int32) (hT : xOK E) (M : MM) {q : (Int32 × MM)} (hf : fX12_keptIfSome i1 M = some q) : mx_Met E l yX12_keptIfSome cX12_keptIfSome 2 (some .int) 3 [.ref (E.2.1.2.1 0), .int i1] M (some (.int q.1)) q.2 := by
  refine mx_enter hE (by decide) (Nat.le_of_ble_eq_true rfl) ?_
  intro p e s m below meth c C hM hn ls hl
  have hx := C.1.1
  have hb := C.1.2.1
  have hown := C.1.2.2.2.1
  have hts := C.1.2.2.2.2
  have hl : lv_has ls 2 [(0, .ref (E.2.1.2.1 0)), (1, .int i1)] := hl
  rw [fX12_keptIfSome] at hf
  refine lv_iload_n hx hb dX12_keptIfSome_0 rfl (lv_at hl 1 rfl) ?_
  refine lv_if_le (tgt := 15) hx hb dX12_keptIfSome_1 (by decide) (fun hc1 => ?_) (fun hc1 => ?_)
  · replace hf := mx_ift hc1 hf
    refine lv_iload_n hx hb dX12_keptIfSome_15 rfl (lv_at hl 1 rfl) ?_
    exact mx_iret C hM hf dX12_keptIfSome_16
  · replace hf := mx_iff hc1 hf
    refine lv_aload_n hx hb dX12_keptIfSome_4 rfl (lv_at hl 0 rfl) ?_
    refine gX12_53 C hM (xt_0 hT) (f := (2, 56)) rfl (v := .ref (E.2.1.2.1 56)) rfl dX12_keptIfSome_5 ?_
    refine lv_aload_n hx hb dX12_keptIfSome_8 rfl (lv_at hl 0 rfl) ?_
    refine gX12_44 C hM (xt_0 hT) (f := (2, 38)) rfl (v := .ref (E.2.1.2.1 38)) rfl dX12_keptIfSome_9 ?_
    obtain ⟨q12, hq12, hf⟩ := mx_bd hf
    refine mx_callVN C hM hl.1 yo_X5_push (h' := 2) (by decide) (nw_713 hT C) qw_715 qs_43 (ci := 5) (q := (RX5, TX5, 2)) rfl (xt_56 hT) (As := [.ref (E.2.1.2.1 38)]) (rest := []) (st1 := []) (kX5_push C.2.2.2.1 38 hT xiS_38 M hq12) rfl rfl rfl (Nat.le_of_ble_eq_true rfl) dX12_keptIfSome_12 (fun H locs hM => ?_)
    refine lv_iload_n hx hb dX12_keptIfSome_15 rfl (lv_at hl 1 rfl) ?_
    exact mx_iret C hM hf dX12_keptIfSome_16
theorem dX12_days_0 : decode cX12_days 0 = .ok (.iload_n 1, 1) := by decide +kernel
theorem dX12_days_1 : decode cX12_days 1 = .ok (.iconst 1, 1) := by decide +kernel
theorem dX12_days_2 : decode cX12_days 2 = .ok (.if_icmp .lt 9, 3) := by decide +kernel
theorem dX12_days_5 : decode cX12_days 5 = .ok (.iload_n 1, 1) := by decide +kernel
theorem dX12_days_6 : decode cX12_days 6 = .ok (.bipush 60, 2) := by decide +kernel
theorem dX12_days_8 : decode cX12_days 8 = .ok (.if_icmp .le 5, 3) := by decide +kernel
theorem dX12_days_11 : decode cX12_days 11 = .ok (.iconst (-1), 1) := by decide +kernel
theorem dX12_days_12 : decode cX12_days 12 = .ok (.ireturn, 1) := by decide +kernel
theorem dX12_days_13 : decode cX12_days 13 = .ok (.aload_n 0, 1) := by decide +kernel
theorem dX12_days_14 : decode cX12_days 14 = .ok (.getfield 44, 3) := by decide +kernel
theorem dX12_days_17 : decode cX12_days 17 = .ok (.aload_n 0, 1) := by decide +kernel
theorem dX12_days_18 : decode cX12_days 18 = .ok (.getfield 40, 3) := by decide +kernel
theorem dX12_days_21 : decode cX12_days 21 = .ok (.invokevirtual 233, 3) := by decide +kernel
theorem dX12_days_24 : decode cX12_days 24 = .ok (.aload_n 0, 1) := by decide +kernel
theorem dX12_days_25 : decode cX12_days 25 = .ok (.aload_n 0, 1) := by decide +kernel
theorem dX12_days_26 : decode cX12_days 26 = .ok (.getfield 40, 3) := by decide +kernel
theorem dX12_days_29 : decode cX12_days 29 = .ok (.iload_n 1, 1) := by decide +kernel
theorem dX12_days_30 : decode cX12_days 30 = .ok (.invokevirtual 255, 3) := by decide +kernel
theorem dX12_days_33 : decode cX12_days 33 = .ok (.invokevirtual 258, 3) := by decide +kernel
theorem dX12_days_36 : decode cX12_days 36 = .ok (.ireturn, 1) := by decide +kernel
set_option maxRecDepth 100000 in
set_option maxHeartbeats 4000000 in
theorem kX12_days {E : KE} {l : Launch} (hE : mx_ok E) (i1 : Int32) (hT : xOK E) (M : MM) {q : (Int32 × MM)} (hf : fX12_days i1 M = some q) : mx_Met E l yX12_days cX12_days 2 (some .int) 4 [.ref (E.2.1.2.1 0), .int i1] M (some (.int q.1)) q.2 := by
  refine mx_enter hE (by decide) (Nat.le_of_ble_eq_true rfl) ?_
  intro p e s m below meth c C hM hn ls hl
  have hx := C.1.1
  have hb := C.1.2.1
  have hown := C.1.2.2.2.1
  have hts := C.1.2.2.2.2
  have hl : lv_has ls 2 [(0, .ref (E.2.1.2.1 0)), (1, .int i1)] := hl
  rw [fX12_days] at hf
  refine lv_iload_n hx hb dX12_days_0 rfl (lv_at hl 1 rfl) ?_
  refine lv_iconst (v := (1 : Int32)) hx hb dX12_days_1 (by decide) ?_
  refine lv_icmp_lt (tgt := 11) hx hb dX12_days_2 (by decide) (fun hc2 => ?_) (fun hc2 => ?_)
  · replace hf := mx_ift hc2 hf
    refine lv_iconst (v := (-1 : Int32)) hx hb dX12_days_11 (by decide) ?_
    exact mx_iret C hM hf dX12_days_12
  · replace hf := mx_iff hc2 hf
    refine lv_iload_n hx hb dX12_days_5 rfl (lv_at hl 1 rfl) ?_
    refine lv_bipush (v := (60 : Int32)) hx hb dX12_days_6 (by decide) ?_
    refine lv_icmp_le (tgt := 13) hx hb dX12_days_8 (by decide) (fun hc8 => ?_) (fun hc8 => ?_)
    · replace hf := mx_ift hc8 hf
      refine lv_aload_n hx hb dX12_days_13 rfl (lv_at hl 0 rfl) ?_
      refine gX12_44 C hM (xt_0 hT) (f := (2, 38)) rfl (v := .ref (E.2.1.2.1 38)) rfl dX12_days_14 ?_
      refine lv_aload_n hx hb dX12_days_17 rfl (lv_at hl 0 rfl) ?_
      refine gX12_40 C hM (xt_0 hT) (f := (2, 29)) rfl (v := .ref (E.2.1.2.1 29)) rfl dX12_days_18 ?_
      obtain ⟨q21, hq21, hf⟩ := mx_bd hf
      refine mx_callVN C hM hl.1 yo_X9_copyFrom (h' := 1) (by decide) (nw_693 hT C) qw_695 qs_39 (ci := 9) (q := (RX9, TX9, 13)) rfl (xt_38 hT) (As := [.ref (E.2.1.2.1 29)]) (rest := []) (st1 := []) (kX9_copyFrom C.2.2.2.1 38 29 hT xiS_38 xiS_29 M hq21) rfl rfl rfl (Nat.le_of_ble_eq_true rfl) dX12_days_21 (fun H locs hM => ?_)
      refine lv_aload_n hx hb dX12_days_24 rfl (lv_at hl 0 rfl) ?_
      refine lv_aload_n hx hb dX12_days_25 rfl (lv_at hl 0 rfl) ?_
      refine gX12_40 C hM (xt_0 hT) (f := (2, 29)) rfl (v := .ref (E.2.1.2.1 29)) rfl dX12_days_26 ?_
      refine lv_iload_n hx hb dX12_days_29 rfl (lv_at hl 1 rfl) ?_
      obtain ⟨q30, hq30, hf⟩ := mx_bd hf
      refine mx_callVN C hM hl.1 yo_X9_passDays (h' := 3) (by decide) (nw_771 hT C) qw_773 qs_52 (ci := 9) (q := (RX9, TX9, 13)) rfl (xt_29 hT) (As := [.int i1]) (rest := [.ref (E.2.1.2.1 0)]) (st1 := [.int q30.1, .ref (E.2.1.2.1 0)]) (kX9_passDays C.2.2.2.1 29 i1 hT xiS_29 q21 hq30) rfl rfl rfl (Nat.le_of_ble_eq_true rfl) dX12_days_30 (fun H locs hM => ?_)
      obtain ⟨q33, hq33, hf⟩ := mx_bd hf
      refine mx_callV C hM hl.1 yo_X12_keptIfSome (h' := 3) (by decide) qw_793 qw_795 qs_56 (ci := 12) (q := (RX12, TX12, 19)) rfl (xt_0 hT) (As := [.int q30.1]) (rest := []) (st1 := [.int q33.1]) (kX12_keptIfSome C.2.2.2.1 q30.1 hT q30.2 hq33) rfl rfl rfl (Nat.le_of_ble_eq_true rfl) dX12_days_33 (fun H locs hM => ?_)
      exact mx_iret C hM hf dX12_days_36
    · replace hf := mx_iff hc8 hf
      refine lv_iconst (v := (-1 : Int32)) hx hb dX12_days_11 (by decide) ?_
      exact mx_iret C hM hf dX12_days_12
theorem dX12_undo_0 : decode cX12_undo 0 = .ok (.aload_n 0, 1) := by decide +kernel
theorem dX12_undo_1 : decode cX12_undo 1 = .ok (.getfield 53, 3) := by decide +kernel
theorem dX12_undo_4 : decode cX12_undo 4 = .ok (.getfield 261, 3) := by decide +kernel
theorem dX12_undo_7 : decode cX12_undo 7 = .ok (.ifCond .ne 5, 3) := by decide +kernel
theorem dX12_undo_10 : decode cX12_undo 10 = .ok (.iconst (-1), 1) := by decide +kernel
theorem dX12_undo_11 : decode cX12_undo 11 = .ok (.ireturn, 1) := by decide +kernel
theorem dX12_undo_12 : decode cX12_undo 12 = .ok (.aload_n 0, 1) := by decide +kernel
theorem dX12_undo_13 : decode cX12_undo 13 = .ok (.getfield 53, 3) := by decide +kernel
theorem dX12_undo_16 : decode cX12_undo 16 = .ok (.aload_n 0, 1) := by decide +kernel
theorem dX12_undo_17 : decode cX12_undo 17 = .ok (.getfield 40, 3) := by decide +kernel
theorem dX12_undo_20 : decode cX12_undo 20 = .ok (.invokevirtual 263, 3) := by decide +kernel
theorem dX12_undo_23 : decode cX12_undo 23 = .ok (.aload_n 0, 1) := by decide +kernel
theorem dX12_undo_24 : decode cX12_undo 24 = .ok (.getfield 53, 3) := by decide +kernel
theorem dX12_undo_27 : decode cX12_undo 27 = .ok (.getfield 261, 3) := by decide +kernel
theorem dX12_undo_30 : decode cX12_undo 30 = .ok (.ireturn, 1) := by decide +kernel
set_option maxRecDepth 100000 in
set_option maxHeartbeats 4000000 in
theorem kX12_undo {E : KE} {l : Launch} (hE : mx_ok E)  (hT : xOK E) (M : MM) {q : (Int32 × MM)} (hf : fX12_undo M = some q) : mx_Met E l yX12_undo cX12_undo 1 (some .int) 3 [.ref (E.2.1.2.1 0)] M (some (.int q.1)) q.2 := by
  refine mx_enter hE (by decide) (Nat.le_of_ble_eq_true rfl) ?_
  intro p e s m below meth c C hM hn ls hl
  have hx := C.1.1
  have hb := C.1.2.1
  have hown := C.1.2.2.2.1
  have hts := C.1.2.2.2.2
  have hl : lv_has ls 1 [(0, .ref (E.2.1.2.1 0))] := hl
  rw [fX12_undo] at hf
  refine lv_aload_n hx hb dX12_undo_0 rfl (lv_at hl 0 rfl) ?_
  refine gX12_53 C hM (xt_0 hT) (f := (2, 56)) rfl (v := .ref (E.2.1.2.1 56)) rfl dX12_undo_1 ?_
  refine gX12_261 C hT hM (xt_56 hT) (f := (0, 0)) rfl (v := .int (M.1 56 1)) rfl dX12_undo_4 ?_
  refine lv_if_ne (tgt := 12) hx hb dX12_undo_7 (by decide) (fun hc7 => ?_) (fun hc7 => ?_)
  · replace hf := mx_iff hc7 hf
    refine lv_aload_n hx hb dX12_undo_12 rfl (lv_at hl 0 rfl) ?_
    refine gX12_53 C hM (xt_0 hT) (f := (2, 56)) rfl (v := .ref (E.2.1.2.1 56)) rfl dX12_undo_13 ?_
    refine lv_aload_n hx hb dX12_undo_16 rfl (lv_at hl 0 rfl) ?_
    refine gX12_40 C hM (xt_0 hT) (f := (2, 29)) rfl (v := .ref (E.2.1.2.1 29)) rfl dX12_undo_17 ?_
    obtain ⟨q20, hq20, hf⟩ := mx_bd hf
    refine mx_callVN C hM hl.1 yo_X5_takeBack (h' := 2) (by decide) (nw_801 hT C) qw_803 qs_57 (ci := 5) (q := (RX5, TX5, 2)) rfl (xt_56 hT) (As := [.ref (E.2.1.2.1 29)]) (rest := []) (st1 := []) (kX5_takeBack C.2.2.2.1 hT M hq20) rfl rfl rfl (Nat.le_of_ble_eq_true rfl) dX12_undo_20 (fun H locs hM => ?_)
    refine lv_aload_n hx hb dX12_undo_23 rfl (lv_at hl 0 rfl) ?_
    refine gX12_53 C hM (xt_0 hT) (f := (2, 56)) rfl (v := .ref (E.2.1.2.1 56)) rfl dX12_undo_24 ?_
    refine gX12_261 C hT hM (xt_56 hT) (f := (0, 0)) rfl (v := .int (q20.1 56 1)) rfl dX12_undo_27 ?_
    exact mx_iret C hM hf dX12_undo_30
  · replace hf := mx_ift hc7 hf
    refine lv_iconst (v := (-1 : Int32)) hx hb dX12_undo_10 (by decide) ?_
    exact mx_iret C hM hf dX12_undo_11
theorem dX12_reach_0 : decode cX12_reach 0 = .ok (.aload_n 0, 1) := by decide +kernel
theorem dX12_reach_1 : decode cX12_reach 1 = .ok (.getfield 28, 3) := by decide +kernel
theorem dX12_reach_4 : decode cX12_reach 4 = .ok (.iload_n 1, 1) := by decide +kernel
theorem dX12_reach_5 : decode cX12_reach 5 = .ok (.invokevirtual 183, 3) := by decide +kernel
theorem dX12_reach_8 : decode cX12_reach 8 = .ok (.ifCond .eq 14, 3) := by decide +kernel
theorem dX12_reach_11 : decode cX12_reach 11 = .ok (.aload_n 0, 1) := by decide +kernel
theorem dX12_reach_12 : decode cX12_reach 12 = .ok (.getfield 40, 3) := by decide +kernel
theorem dX12_reach_15 : decode cX12_reach 15 = .ok (.iload_n 1, 1) := by decide +kernel
theorem dX12_reach_16 : decode cX12_reach 16 = .ok (.invokevirtual 266, 3) := by decide +kernel
theorem dX12_reach_19 : decode cX12_reach 19 = .ok (.goto 4, 3) := by decide +kernel
theorem dX12_reach_22 : decode cX12_reach 22 = .ok (.iconst (-1), 1) := by decide +kernel
theorem dX12_reach_23 : decode cX12_reach 23 = .ok (.ireturn, 1) := by decide +kernel
set_option maxRecDepth 100000 in
set_option maxHeartbeats 4000000 in
theorem kX12_reach {E : KE} {l : Launch} (hE : mx_ok E) (i1 : Int32) (hT : xOK E) (M : MM) {q : Int32} (hf : fX12_reach i1 M = some q) : mx_Met E l yX12_reach cX12_reach 2 (some .int) 3 [.ref (E.2.1.2.1 0), .int i1] M (some (.int q)) M := by
  refine mx_enter hE (by decide) (Nat.le_of_ble_eq_true rfl) ?_
  intro p e s m below meth c C hM hn ls hl
  have hx := C.1.1
  have hb := C.1.2.1
  have hown := C.1.2.2.2.1
  have hts := C.1.2.2.2.2
  have hl : lv_has ls 2 [(0, .ref (E.2.1.2.1 0)), (1, .int i1)] := hl
  rw [fX12_reach] at hf
  refine lv_aload_n hx hb dX12_reach_0 rfl (lv_at hl 0 rfl) ?_
  refine gX12_28 C hM (xt_0 hT) (f := (2, 9)) rfl (v := .ref (E.2.1.2.1 9)) rfl dX12_reach_1 ?_
  refine lv_iload_n hx hb dX12_reach_4 rfl (lv_at hl 1 rfl) ?_
  obtain ⟨q5, hq5, hf⟩ := mx_bd hf
  refine mx_callVN C hM hl.1 yo_X3_isRing (h' := 0) (by decide) (nw_658 hT C) qw_660 qs_33 (ci := 3) (q := (RX3, TX3, 18)) rfl (xt_9 hT) (As := [.int i1]) (rest := []) (st1 := [.int (mx_b q5)]) (kX3_isRing C.2.2.2.1 i1 hT M hq5) rfl rfl rfl (Nat.le_of_ble_eq_true rfl) dX12_reach_5 (fun H locs hM => ?_)
  refine lv_if_eq (tgt := 22) hx hb dX12_reach_8 (by decide) (fun hc8 => ?_) (fun hc8 => ?_)
  · replace hf := mx_ift hc8 hf
    refine lv_iconst (v := (-1 : Int32)) hx hb dX12_reach_22 (by decide) ?_
    exact mx_iretR C hM hf dX12_reach_23
  · replace hf := mx_iff hc8 hf
    refine lv_aload_n hx hb dX12_reach_11 rfl (lv_at hl 0 rfl) ?_
    refine gX12_40 C hM (xt_0 hT) (f := (2, 29)) rfl (v := .ref (E.2.1.2.1 29)) rfl dX12_reach_12 ?_
    refine lv_iload_n hx hb dX12_reach_15 rfl (lv_at hl 1 rfl) ?_
    obtain ⟨q16, hq16, hf⟩ := mx_bd hf
    refine mx_callVN C hM hl.1 yo_X9_daysTillMet (h' := 2) (by decide) (nw_809 hT C) qw_811 qs_58 (ci := 9) (q := (RX9, TX9, 13)) rfl (xt_29 hT) (As := [.int i1]) (rest := []) (st1 := [.int q16]) (kX9_daysTillMet C.2.2.2.1 i1 hT M hq16) rfl rfl rfl (Nat.le_of_ble_eq_true rfl) dX12_reach_16 (fun H locs hM => ?_)
    refine lv_goto (tgt := 23) hx hb dX12_reach_19 (by decide) ?_
    exact mx_iretR C hM hf dX12_reach_23
theorem dX12_inTime_0 : decode cX12_inTime 0 = .ok (.iconst 0, 1) := by decide +kernel
theorem dX12_inTime_1 : decode cX12_inTime 1 = .ok (.istore_n 1, 1) := by decide +kernel
theorem dX12_inTime_2 : decode cX12_inTime 2 = .ok (.iconst 0, 1) := by decide +kernel
theorem dX12_inTime_3 : decode cX12_inTime 3 = .ok (.istore_n 2, 1) := by decide +kernel
theorem dX12_inTime_4 : decode cX12_inTime 4 = .ok (.iload_n 2, 1) := by decide +kernel
theorem dX12_inTime_5 : decode cX12_inTime 5 = .ok (.aload_n 0, 1) := by decide +kernel
theorem dX12_inTime_6 : decode cX12_inTime 6 = .ok (.getfield 28, 3) := by decide +kernel
theorem dX12_inTime_9 : decode cX12_inTime 9 = .ok (.getfield 269, 3) := by decide +kernel
theorem dX12_inTime_12 : decode cX12_inTime 12 = .ok (.if_icmp .ge 55, 3) := by decide +kernel
theorem dX12_inTime_15 : decode cX12_inTime 15 = .ok (.aload_n 0, 1) := by decide +kernel
theorem dX12_inTime_16 : decode cX12_inTime 16 = .ok (.getfield 40, 3) := by decide +kernel
theorem dX12_inTime_19 : decode cX12_inTime 19 = .ok (.getfield 201, 3) := by decide +kernel
theorem dX12_inTime_22 : decode cX12_inTime 22 = .ok (.iload_n 2, 1) := by decide +kernel
theorem dX12_inTime_23 : decode cX12_inTime 23 = .ok (.iaload, 1) := by decide +kernel
theorem dX12_inTime_24 : decode cX12_inTime 24 = .ok (.ifCond .ne 37, 3) := by decide +kernel
theorem dX12_inTime_27 : decode cX12_inTime 27 = .ok (.aload_n 0, 1) := by decide +kernel
theorem dX12_inTime_28 : decode cX12_inTime 28 = .ok (.getfield 40, 3) := by decide +kernel
theorem dX12_inTime_31 : decode cX12_inTime 31 = .ok (.getfield 214, 3) := by decide +kernel
theorem dX12_inTime_34 : decode cX12_inTime 34 = .ok (.aload_n 0, 1) := by decide +kernel
theorem dX12_inTime_35 : decode cX12_inTime 35 = .ok (.getfield 40, 3) := by decide +kernel
theorem dX12_inTime_38 : decode cX12_inTime 38 = .ok (.iload_n 2, 1) := by decide +kernel
theorem dX12_inTime_39 : decode cX12_inTime 39 = .ok (.invokevirtual 266, 3) := by decide +kernel
theorem dX12_inTime_42 : decode cX12_inTime 42 = .ok (.iadd, 1) := by decide +kernel
theorem dX12_inTime_43 : decode cX12_inTime 43 = .ok (.aload_n 0, 1) := by decide +kernel
theorem dX12_inTime_44 : decode cX12_inTime 44 = .ok (.getfield 28, 3) := by decide +kernel
theorem dX12_inTime_47 : decode cX12_inTime 47 = .ok (.getfield 195, 3) := by decide +kernel
theorem dX12_inTime_50 : decode cX12_inTime 50 = .ok (.iload_n 2, 1) := by decide +kernel
theorem dX12_inTime_51 : decode cX12_inTime 51 = .ok (.iaload, 1) := by decide +kernel
theorem dX12_inTime_52 : decode cX12_inTime 52 = .ok (.if_icmp .gt 9, 3) := by decide +kernel
theorem dX12_inTime_55 : decode cX12_inTime 55 = .ok (.iload_n 1, 1) := by decide +kernel
theorem dX12_inTime_56 : decode cX12_inTime 56 = .ok (.iconst 1, 1) := by decide +kernel
theorem dX12_inTime_57 : decode cX12_inTime 57 = .ok (.iload_n 2, 1) := by decide +kernel
theorem dX12_inTime_58 : decode cX12_inTime 58 = .ok (.ishl, 1) := by decide +kernel
theorem dX12_inTime_59 : decode cX12_inTime 59 = .ok (.ior, 1) := by decide +kernel
theorem dX12_inTime_60 : decode cX12_inTime 60 = .ok (.istore_n 1, 1) := by decide +kernel
theorem dX12_inTime_61 : decode cX12_inTime 61 = .ok (.iinc 2 1, 3) := by decide +kernel
theorem dX12_inTime_64 : decode cX12_inTime 64 = .ok (.goto (-60), 3) := by decide +kernel
theorem dX12_inTime_67 : decode cX12_inTime 67 = .ok (.iload_n 1, 1) := by decide +kernel
theorem dX12_inTime_68 : decode cX12_inTime 68 = .ok (.ireturn, 1) := by decide +kernel
set_option maxRecDepth 100000 in
set_option maxHeartbeats 4000000 in
theorem wfX12_inTime_4 {E : KE} {p : Program} {l : Launch} {e : Env} {s : State} {m : MethodId} {args : Array Value} {below : List Frame} {meth : Method} {c : Code} {q : Int32} (C : mx_C E p m c cX12_inTime 3 s args RX12 meth (some .int)) (M : MM) (hT : xOK E)   : ∀ (n : Nat) (i1 : Int32) (i2 : Int32) (H : Heap) (locs : List Loc) (ls : Array Slot), fX12_inTime_4 M n i1 i2 = some q → mx_H E s M H locs → lv_has ls 3 [(0, .ref (E.2.1.2.1 0)), (1, .int i1), (2, .int i2)] → W p l e (mx_rm 3) s m args below meth c H locs 0 0 (mx_Z E below args s (some (.int q)) M) (F0 m 4 ls []) := by
  have hx := C.1.1
  have hb := C.1.2.1
  have hown := C.1.2.2.2.1
  have hts := C.1.2.2.2.2
  intro n
  induction n with
  | zero =>
    intro i1 i2 H locs ls hf hM hl
    rw [fX12_inTime_4] at hf
    cases hf
  | succ n ih =>
    intro i1 i2 H locs ls hf hM hl
    rw [fX12_inTime_4] at hf
    refine lv_iload_n hx hb dX12_inTime_4 rfl (lv_at hl 2 rfl) ?_
    refine lv_aload_n hx hb dX12_inTime_5 rfl (lv_at hl 0 rfl) ?_
    refine gX12_28 C hM (xt_0 hT) (f := (2, 9)) rfl (v := .ref (E.2.1.2.1 9)) rfl dX12_inTime_6 ?_
    refine gX12_269 C hT hM (xt_9 hT) (f := (0, 0)) rfl (v := .int (M.1 9 1)) rfl dX12_inTime_9 ?_
    refine lv_icmp_ge (tgt := 67) hx hb dX12_inTime_12 (by decide) (fun hc12 => ?_) (fun hc12 => ?_)
    · replace hf := mx_ift hc12 hf
      refine lv_iload_n hx hb dX12_inTime_67 rfl (lv_at hl 1 rfl) ?_
      exact mx_iretR C hM hf dX12_inTime_68
    · replace hf := mx_iff hc12 hf
      refine lv_aload_n hx hb dX12_inTime_15 rfl (lv_at hl 0 rfl) ?_
      refine gX12_40 C hM (xt_0 hT) (f := (2, 29)) rfl (v := .ref (E.2.1.2.1 29)) rfl dX12_inTime_16 ?_
      refine gX12_201 C hT hM (xt_29 hT) (f := (2, 37)) rfl (v := .ref (E.2.1.2.1 37)) rfl dX12_inTime_19 ?_
      refine lv_iload_n hx hb dX12_inTime_22 rfl (lv_at hl 2 rfl) ?_
      obtain ⟨hg23, hf⟩ := mx_gd hf
      refine mx_iald C hM (xt_37 hT) (mx_in_vp hg23) dX12_inTime_23 ?_
      refine lv_if_ne (tgt := 61) hx hb dX12_inTime_24 (by decide) (fun hc24 => ?_) (fun hc24 => ?_)
      · replace hf := mx_iff hc24 hf
        refine lv_iinc (v := (i2 + (1 : Int32))) (lv' := [(2, .int (i2 + (1 : Int32))), (0, .ref (E.2.1.2.1 0)), (1, .int i1)]) hx hb dX12_inTime_61 hl (k := 2) rfl rfl (by decide) rfl (fun ls hl => ?_)
        refine lv_goto (tgt := 4) hx hb dX12_inTime_64 (by decide) ?_
        exact ih i1 (i2 + (1 : Int32)) _ _ _ hf hM (lv_sub hl [1, 2, 0] rfl)
      · replace hf := mx_ift hc24 hf
        refine lv_aload_n hx hb dX12_inTime_27 rfl (lv_at hl 0 rfl) ?_
        refine gX12_40 C hM (xt_0 hT) (f := (2, 29)) rfl (v := .ref (E.2.1.2.1 29)) rfl dX12_inTime_28 ?_
        refine gX12_214 C hT hM (xt_29 hT) (f := (0, 0)) rfl (v := .int (M.1 29 9)) rfl dX12_inTime_31 ?_
        refine lv_aload_n hx hb dX12_inTime_34 rfl (lv_at hl 0 rfl) ?_
        refine gX12_40 C hM (xt_0 hT) (f := (2, 29)) rfl (v := .ref (E.2.1.2.1 29)) rfl dX12_inTime_35 ?_
        refine lv_iload_n hx hb dX12_inTime_38 rfl (lv_at hl 2 rfl) ?_
        obtain ⟨q39, hq39, hf⟩ := mx_bd hf
        refine mx_callVN C hM hl.1 yo_X9_daysTillMet (h' := 2) (by decide) (nw_809 hT C) qw_811 qs_58 (ci := 9) (q := (RX9, TX9, 13)) rfl (xt_29 hT) (As := [.int i2]) (rest := [.int (M.1 29 9)]) (st1 := [.int q39, .int (M.1 29 9)]) (kX9_daysTillMet C.2.2.2.1 i2 hT M hq39) rfl rfl rfl (Nat.le_of_ble_eq_true rfl) dX12_inTime_39 (fun H locs hM => ?_)
        refine lv_iadd hx hb dX12_inTime_42 ?_
        refine lv_aload_n hx hb dX12_inTime_43 rfl (lv_at hl 0 rfl) ?_
        refine gX12_28 C hM (xt_0 hT) (f := (2, 9)) rfl (v := .ref (E.2.1.2.1 9)) rfl dX12_inTime_44 ?_
        refine gX12_195 C hT hM (xt_9 hT) (f := (2, 18)) rfl (v := .ref (E.2.1.2.1 18)) rfl dX12_inTime_47 ?_
        refine lv_iload_n hx hb dX12_inTime_50 rfl (lv_at hl 2 rfl) ?_
        obtain ⟨hg51, hf⟩ := mx_gd hf
        refine mx_iald C hM (xt_18 hT) (mx_in_vp hg51) dX12_inTime_51 ?_
        refine lv_icmp_gt (tgt := 61) hx hb dX12_inTime_52 (by decide) (fun hc52 => ?_) (fun hc52 => ?_)
        · replace hf := mx_ift hc52 hf
          refine lv_iinc (v := (i2 + (1 : Int32))) (lv' := [(2, .int (i2 + (1 : Int32))), (0, .ref (E.2.1.2.1 0)), (1, .int i1)]) hx hb dX12_inTime_61 hl (k := 2) rfl rfl (by decide) rfl (fun ls hl => ?_)
          refine lv_goto (tgt := 4) hx hb dX12_inTime_64 (by decide) ?_
          exact ih i1 (i2 + (1 : Int32)) _ _ _ hf hM (lv_sub hl [1, 2, 0] rfl)
        · replace hf := mx_iff hc52 hf
          refine lv_iload_n hx hb dX12_inTime_55 rfl (lv_at hl 1 rfl) ?_
          refine lv_iconst (v := (1 : Int32)) hx hb dX12_inTime_56 (by decide) ?_
          refine lv_iload_n hx hb dX12_inTime_57 rfl (lv_at hl 2 rfl) ?_
          refine lv_ishl hx hb dX12_inTime_58 ?_
          refine lv_ior hx hb dX12_inTime_59 ?_
          refine lv_istore_n (lv' := [(1, .int (i1 ||| ((1 : Int32) <<< (i2 &&& 31)))), (0, .ref (E.2.1.2.1 0)), (2, .int i2)]) hx hb dX12_inTime_60 rfl hl (by decide) rfl (fun ls hl => ?_)
          refine lv_iinc (v := (i2 + (1 : Int32))) (lv' := [(2, .int (i2 + (1 : Int32))), (1, .int (i1 ||| ((1 : Int32) <<< (i2 &&& 31)))), (0, .ref (E.2.1.2.1 0))]) hx hb dX12_inTime_61 hl (k := 2) rfl rfl (by decide) rfl (fun ls hl => ?_)
          refine lv_goto (tgt := 4) hx hb dX12_inTime_64 (by decide) ?_
          exact ih (i1 ||| ((1 : Int32) <<< (i2 &&& 31))) (i2 + (1 : Int32)) _ _ _ hf hM (lv_sub hl [2, 1, 0] rfl)
set_option maxRecDepth 100000 in
set_option maxHeartbeats 4000000 in
theorem kX12_inTime {E : KE} {l : Launch} (hE : mx_ok E)  (hT : xOK E) (M : MM) {q : Int32} (hf : fX12_inTime M = some q) : mx_Met E l yX12_inTime cX12_inTime 3 (some .int) 3 [.ref (E.2.1.2.1 0)] M (some (.int q)) M := by
  refine mx_enter hE (by decide) (Nat.le_of_ble_eq_true rfl) ?_
  intro p e s m below meth c C hM hn ls hl
  have hx := C.1.1
  have hb := C.1.2.1
  have hown := C.1.2.2.2.1
  have hts := C.1.2.2.2.2
  have hl : lv_has ls 3 [(0, .ref (E.2.1.2.1 0))] := hl
  rw [fX12_inTime] at hf
  refine lv_iconst (v := (0 : Int32)) hx hb dX12_inTime_0 (by decide) ?_
  refine lv_istore_n (lv' := [(1, .int (0 : Int32)), (0, .ref (E.2.1.2.1 0))]) hx hb dX12_inTime_1 rfl hl (by decide) rfl (fun ls hl => ?_)
  refine lv_iconst (v := (0 : Int32)) hx hb dX12_inTime_2 (by decide) ?_
  refine lv_istore_n (lv' := [(2, .int (0 : Int32)), (1, .int (0 : Int32)), (0, .ref (E.2.1.2.1 0))]) hx hb dX12_inTime_3 rfl hl (by decide) rfl (fun ls hl => ?_)
  exact wfX12_inTime_4 C M hT mx_fu (0 : Int32) (0 : Int32) _ _ _ hf hM (lv_sub hl [2, 1, 0] rfl)
theorem dX12_tour_0 : decode cX12_tour 0 = .ok (.aload_n 0, 1) := by decide +kernel
theorem dX12_tour_1 : decode cX12_tour 1 = .ok (.getfield 28, 3) := by decide +kernel
theorem dX12_tour_4 : decode cX12_tour 4 = .ok (.iload_n 1, 1) := by decide +kernel
theorem dX12_tour_5 : decode cX12_tour 5 = .ok (.invokevirtual 154, 3) := by decide +kernel
theorem dX12_tour_8 : decode cX12_tour 8 = .ok (.ifCond .eq 18, 3) := by decide +kernel
theorem dX12_tour_11 : decode cX12_tour 11 = .ok (.aload_n 0, 1) := by decide +kernel
theorem dX12_tour_12 : decode cX12_tour 12 = .ok (.getfield 77, 3) := by decide +kernel
theorem dX12_tour_15 : decode cX12_tour 15 = .ok (.aload_n 0, 1) := by decide +kernel
theorem dX12_tour_16 : decode cX12_tour 16 = .ok (.getfield 40, 3) := by decide +kernel
theorem dX12_tour_19 : decode cX12_tour 19 = .ok (.iload_n 1, 1) := by decide +kernel
theorem dX12_tour_20 : decode cX12_tour 20 = .ok (.invokevirtual 272, 3) := by decide +kernel
theorem dX12_tour_23 : decode cX12_tour 23 = .ok (.goto 4, 3) := by decide +kernel
theorem dX12_tour_26 : decode cX12_tour 26 = .ok (.iconst (-1), 1) := by decide +kernel
theorem dX12_tour_27 : decode cX12_tour 27 = .ok (.ireturn, 1) := by decide +kernel
set_option maxRecDepth 100000 in
set_option maxHeartbeats 4000000 in
theorem kX12_tour {E : KE} {l : Launch} (hE : mx_ok E) (i1 : Int32) (hT : xOK E) (M : MM) {q : (Int32 × MM)} (hf : fX12_tour i1 M = some q) : mx_Met E l yX12_tour cX12_tour 2 (some .int) 7 [.ref (E.2.1.2.1 0), .int i1] M (some (.int q.1)) q.2 := by
  refine mx_enter hE (by decide) (Nat.le_of_ble_eq_true rfl) ?_
  intro p e s m below meth c C hM hn ls hl
  have hx := C.1.1
  have hb := C.1.2.1
  have hown := C.1.2.2.2.1
  have hts := C.1.2.2.2.2
  have hl : lv_has ls 2 [(0, .ref (E.2.1.2.1 0)), (1, .int i1)] := hl
  rw [fX12_tour] at hf
  refine lv_aload_n hx hb dX12_tour_0 rfl (lv_at hl 0 rfl) ?_
  refine gX12_28 C hM (xt_0 hT) (f := (2, 9)) rfl (v := .ref (E.2.1.2.1 9)) rfl dX12_tour_1 ?_
  refine lv_iload_n hx hb dX12_tour_4 rfl (lv_at hl 1 rfl) ?_
  obtain ⟨q5, hq5, hf⟩ := mx_bd hf
  refine mx_callVN C hM hl.1 yo_X3_isPerson (h' := 0) (by decide) (nw_662 hT C) qw_664 qs_34 (ci := 3) (q := (RX3, TX3, 18)) rfl (xt_9 hT) (As := [.int i1]) (rest := []) (st1 := [.int (mx_b q5)]) (kX3_isPerson C.2.2.2.1 i1 hT M hq5) rfl rfl rfl (Nat.le_of_ble_eq_true rfl) dX12_tour_5 (fun H locs hM => ?_)
  refine lv_if_eq (tgt := 26) hx hb dX12_tour_8 (by decide) (fun hc8 => ?_) (fun hc8 => ?_)
  · replace hf := mx_ift hc8 hf
    refine lv_iconst (v := (-1 : Int32)) hx hb dX12_tour_26 (by decide) ?_
    exact mx_iret C hM hf dX12_tour_27
  · replace hf := mx_iff hc8 hf
    refine lv_aload_n hx hb dX12_tour_11 rfl (lv_at hl 0 rfl) ?_
    refine gX12_77 C hM (xt_0 hT) (f := (2, 143)) rfl (v := .ref (E.2.1.2.1 143)) rfl dX12_tour_12 ?_
    refine lv_aload_n hx hb dX12_tour_15 rfl (lv_at hl 0 rfl) ?_
    refine gX12_40 C hM (xt_0 hT) (f := (2, 29)) rfl (v := .ref (E.2.1.2.1 29)) rfl dX12_tour_16 ?_
    refine lv_iload_n hx hb dX12_tour_19 rfl (lv_at hl 1 rfl) ?_
    obtain ⟨q20, hq20, hf⟩ := mx_bd hf
    refine mx_callVN C hM hl.1 yo_X6_planTour (h' := 6) (by decide) (nw_830 hT C) qw_832 qs_61 (ci := 6) (q := (RX6, TX6, 7)) rfl (xt_143 hT) (As := [.ref (E.2.1.2.1 29), .int i1]) (rest := []) (st1 := [.int q20.1]) (kX6_planTour C.2.2.2.1 i1 hT M hq20) rfl rfl rfl (Nat.le_of_ble_eq_true rfl) dX12_tour_20 (fun H locs hM => ?_)
    refine lv_goto (tgt := 27) hx hb dX12_tour_23 (by decide) ?_
    exact mx_iret C hM hf dX12_tour_27
theorem dX12_tourAt_0 : decode cX12_tourAt 0 = .ok (.iload_n 1, 1) := by decide +kernel
theorem dX12_tourAt_1 : decode cX12_tourAt 1 = .ok (.ifCond .lt 14, 3) := by decide +kernel
theorem dX12_tourAt_4 : decode cX12_tourAt 4 = .ok (.iload_n 1, 1) := by decide +kernel
theorem dX12_tourAt_5 : decode cX12_tourAt 5 = .ok (.aload_n 0, 1) := by decide +kernel
theorem dX12_tourAt_6 : decode cX12_tourAt 6 = .ok (.getfield 77, 3) := by decide +kernel
theorem dX12_tourAt_9 : decode cX12_tourAt 9 = .ok (.getfield 276, 3) := by decide +kernel
theorem dX12_tourAt_12 : decode cX12_tourAt 12 = .ok (.if_icmp .lt 7, 3) := by decide +kernel
theorem dX12_tourAt_15 : decode cX12_tourAt 15 = .ok (.iconst (-1), 1) := by decide +kernel
theorem dX12_tourAt_16 : decode cX12_tourAt 16 = .ok (.goto 12, 3) := by decide +kernel
theorem dX12_tourAt_19 : decode cX12_tourAt 19 = .ok (.aload_n 0, 1) := by decide +kernel
theorem dX12_tourAt_20 : decode cX12_tourAt 20 = .ok (.getfield 77, 3) := by decide +kernel
theorem dX12_tourAt_23 : decode cX12_tourAt 23 = .ok (.getfield 279, 3) := by decide +kernel
theorem dX12_tourAt_26 : decode cX12_tourAt 26 = .ok (.iload_n 1, 1) := by decide +kernel
theorem dX12_tourAt_27 : decode cX12_tourAt 27 = .ok (.iaload, 1) := by decide +kernel
theorem dX12_tourAt_28 : decode cX12_tourAt 28 = .ok (.ireturn, 1) := by decide +kernel
set_option maxRecDepth 100000 in
set_option maxHeartbeats 4000000 in
theorem kX12_tourAt {E : KE} {l : Launch} (hE : mx_ok E) (i1 : Int32) (hT : xOK E) (M : MM) {q : Int32} (hf : fX12_tourAt i1 M = some q) : mx_Met E l yX12_tourAt cX12_tourAt 2 (some .int) 0 [.ref (E.2.1.2.1 0), .int i1] M (some (.int q)) M := by
  refine mx_enter hE (by decide) (Nat.le_of_ble_eq_true rfl) ?_
  intro p e s m below meth c C hM hn ls hl
  have hx := C.1.1
  have hb := C.1.2.1
  have hown := C.1.2.2.2.1
  have hts := C.1.2.2.2.2
  have hl : lv_has ls 2 [(0, .ref (E.2.1.2.1 0)), (1, .int i1)] := hl
  rw [fX12_tourAt] at hf
  refine lv_iload_n hx hb dX12_tourAt_0 rfl (lv_at hl 1 rfl) ?_
  refine lv_if_lt (tgt := 15) hx hb dX12_tourAt_1 (by decide) (fun hc1 => ?_) (fun hc1 => ?_)
  · replace hf := mx_ift hc1 hf
    refine lv_iconst (v := (-1 : Int32)) hx hb dX12_tourAt_15 (by decide) ?_
    refine lv_goto (tgt := 28) hx hb dX12_tourAt_16 (by decide) ?_
    exact mx_iretR C hM hf dX12_tourAt_28
  · replace hf := mx_iff hc1 hf
    refine lv_iload_n hx hb dX12_tourAt_4 rfl (lv_at hl 1 rfl) ?_
    refine lv_aload_n hx hb dX12_tourAt_5 rfl (lv_at hl 0 rfl) ?_
    refine gX12_77 C hM (xt_0 hT) (f := (2, 143)) rfl (v := .ref (E.2.1.2.1 143)) rfl dX12_tourAt_6 ?_
    refine gX12_276 C hT hM (xt_143 hT) (f := (0, 0)) rfl (v := .int (M.1 143 1)) rfl dX12_tourAt_9 ?_
    refine lv_icmp_lt (tgt := 19) hx hb dX12_tourAt_12 (by decide) (fun hc12 => ?_) (fun hc12 => ?_)
    · replace hf := mx_ift hc12 hf
      refine lv_aload_n hx hb dX12_tourAt_19 rfl (lv_at hl 0 rfl) ?_
      refine gX12_77 C hM (xt_0 hT) (f := (2, 143)) rfl (v := .ref (E.2.1.2.1 143)) rfl dX12_tourAt_20 ?_
      refine gX12_279 C hT hM (xt_143 hT) (f := (2, 144)) rfl (v := .ref (E.2.1.2.1 144)) rfl dX12_tourAt_23 ?_
      refine lv_iload_n hx hb dX12_tourAt_26 rfl (lv_at hl 1 rfl) ?_
      obtain ⟨hg27, hf⟩ := mx_gd hf
      refine mx_iald C hM (xt_144 hT) (mx_in_vp hg27) dX12_tourAt_27 ?_
      exact mx_iretR C hM hf dX12_tourAt_28
    · replace hf := mx_iff hc12 hf
      refine lv_iconst (v := (-1 : Int32)) hx hb dX12_tourAt_15 (by decide) ?_
      refine lv_goto (tgt := 28) hx hb dX12_tourAt_16 (by decide) ?_
      exact mx_iretR C hM hf dX12_tourAt_28
theorem dX12_keepers_0 : decode cX12_keepers 0 = .ok (.aload_n 0, 1) := by decide +kernel
theorem dX12_keepers_1 : decode cX12_keepers 1 = .ok (.getfield 77, 3) := by decide +kernel
theorem dX12_keepers_4 : decode cX12_keepers 4 = .ok (.aload_n 0, 1) := by decide +kernel
theorem dX12_keepers_5 : decode cX12_keepers 5 = .ok (.getfield 40, 3) := by decide +kernel
theorem dX12_keepers_8 : decode cX12_keepers 8 = .ok (.invokevirtual 282, 3) := by decide +kernel
theorem dX12_keepers_11 : decode cX12_keepers 11 = .ok (.ireturn, 1) := by decide +kernel
set_option maxRecDepth 100000 in
set_option maxHeartbeats 4000000 in
theorem kX12_keepers {E : KE} {l : Launch} (hE : mx_ok E)  (hT : xOK E) (M : MM) {q : (Int32 × MM)} (hf : fX12_keepers M = some q) : mx_Met E l yX12_keepers cX12_keepers 1 (some .int) 7 [.ref (E.2.1.2.1 0)] M (some (.int q.1)) q.2 := by
  refine mx_enter hE (by decide) (Nat.le_of_ble_eq_true rfl) ?_
  intro p e s m below meth c C hM hn ls hl
  have hx := C.1.1
  have hb := C.1.2.1
  have hown := C.1.2.2.2.1
  have hts := C.1.2.2.2.2
  have hl : lv_has ls 1 [(0, .ref (E.2.1.2.1 0))] := hl
  rw [fX12_keepers] at hf
  refine lv_aload_n hx hb dX12_keepers_0 rfl (lv_at hl 0 rfl) ?_
  refine gX12_77 C hM (xt_0 hT) (f := (2, 143)) rfl (v := .ref (E.2.1.2.1 143)) rfl dX12_keepers_1 ?_
  refine lv_aload_n hx hb dX12_keepers_4 rfl (lv_at hl 0 rfl) ?_
  refine gX12_40 C hM (xt_0 hT) (f := (2, 29)) rfl (v := .ref (E.2.1.2.1 29)) rfl dX12_keepers_5 ?_
  obtain ⟨q8, hq8, hf⟩ := mx_bd hf
  refine mx_callVN C hM hl.1 yo_X6_planKeepers (h' := 6) (by decide) (nw_867 hT C) qw_869 qs_66 (ci := 6) (q := (RX6, TX6, 7)) rfl (xt_143 hT) (As := [.ref (E.2.1.2.1 29)]) (rest := []) (st1 := [.int q8.1]) (kX6_planKeepers C.2.2.2.1 hT M hq8) rfl rfl rfl (Nat.le_of_ble_eq_true rfl) dX12_keepers_8 (fun H locs hM => ?_)
  exact mx_iret C hM hf dX12_keepers_11
theorem dX12_keeperOf_0 : decode cX12_keeperOf 0 = .ok (.iload_n 1, 1) := by decide +kernel
theorem dX12_keeperOf_1 : decode cX12_keeperOf 1 = .ok (.ifCond .lt 9, 3) := by decide +kernel
theorem dX12_keeperOf_4 : decode cX12_keeperOf 4 = .ok (.iload_n 1, 1) := by decide +kernel
theorem dX12_keeperOf_5 : decode cX12_keeperOf 5 = .ok (.bipush 7, 2) := by decide +kernel
theorem dX12_keeperOf_7 : decode cX12_keeperOf 7 = .ok (.if_icmp .lt 7, 3) := by decide +kernel
theorem dX12_keeperOf_10 : decode cX12_keeperOf 10 = .ok (.iconst (-1), 1) := by decide +kernel
theorem dX12_keeperOf_11 : decode cX12_keeperOf 11 = .ok (.goto 12, 3) := by decide +kernel
theorem dX12_keeperOf_14 : decode cX12_keeperOf 14 = .ok (.aload_n 0, 1) := by decide +kernel
theorem dX12_keeperOf_15 : decode cX12_keeperOf 15 = .ok (.getfield 77, 3) := by decide +kernel
theorem dX12_keeperOf_18 : decode cX12_keeperOf 18 = .ok (.getfield 286, 3) := by decide +kernel
theorem dX12_keeperOf_21 : decode cX12_keeperOf 21 = .ok (.iload_n 1, 1) := by decide +kernel
theorem dX12_keeperOf_22 : decode cX12_keeperOf 22 = .ok (.iaload, 1) := by decide +kernel
theorem dX12_keeperOf_23 : decode cX12_keeperOf 23 = .ok (.ireturn, 1) := by decide +kernel
set_option maxRecDepth 100000 in
set_option maxHeartbeats 4000000 in
theorem kX12_keeperOf {E : KE} {l : Launch} (hE : mx_ok E) (i1 : Int32) (hT : xOK E) (M : MM) {q : Int32} (hf : fX12_keeperOf i1 M = some q) : mx_Met E l yX12_keeperOf cX12_keeperOf 2 (some .int) 0 [.ref (E.2.1.2.1 0), .int i1] M (some (.int q)) M := by
  refine mx_enter hE (by decide) (Nat.le_of_ble_eq_true rfl) ?_
  intro p e s m below meth c C hM hn ls hl
  have hx := C.1.1
  have hb := C.1.2.1
  have hown := C.1.2.2.2.1
  have hts := C.1.2.2.2.2
  have hl : lv_has ls 2 [(0, .ref (E.2.1.2.1 0)), (1, .int i1)] := hl
  rw [fX12_keeperOf] at hf
  refine lv_iload_n hx hb dX12_keeperOf_0 rfl (lv_at hl 1 rfl) ?_
  refine lv_if_lt (tgt := 10) hx hb dX12_keeperOf_1 (by decide) (fun hc1 => ?_) (fun hc1 => ?_)
  · replace hf := mx_ift hc1 hf
    refine lv_iconst (v := (-1 : Int32)) hx hb dX12_keeperOf_10 (by decide) ?_
    refine lv_goto (tgt := 23) hx hb dX12_keeperOf_11 (by decide) ?_
    exact mx_iretR C hM hf dX12_keeperOf_23
  · replace hf := mx_iff hc1 hf
    refine lv_iload_n hx hb dX12_keeperOf_4 rfl (lv_at hl 1 rfl) ?_
    refine lv_bipush (v := (7 : Int32)) hx hb dX12_keeperOf_5 (by decide) ?_
    refine lv_icmp_lt (tgt := 14) hx hb dX12_keeperOf_7 (by decide) (fun hc7 => ?_) (fun hc7 => ?_)
    · replace hf := mx_ift hc7 hf
      refine lv_aload_n hx hb dX12_keeperOf_14 rfl (lv_at hl 0 rfl) ?_
      refine gX12_77 C hM (xt_0 hT) (f := (2, 143)) rfl (v := .ref (E.2.1.2.1 143)) rfl dX12_keeperOf_15 ?_
      refine gX12_286 C hT hM (xt_143 hT) (f := (2, 145)) rfl (v := .ref (E.2.1.2.1 145)) rfl dX12_keeperOf_18 ?_
      refine lv_iload_n hx hb dX12_keeperOf_21 rfl (lv_at hl 1 rfl) ?_
      obtain ⟨hg22, hf⟩ := mx_gd hf
      refine mx_iald C hM (xt_145 hT) (mx_in_vp hg22) dX12_keeperOf_22 ?_
      exact mx_iretR C hM hf dX12_keeperOf_23
    · replace hf := mx_iff hc7 hf
      refine lv_iconst (v := (-1 : Int32)) hx hb dX12_keeperOf_10 (by decide) ?_
      refine lv_goto (tgt := 23) hx hb dX12_keeperOf_11 (by decide) ?_
      exact mx_iretR C hM hf dX12_keeperOf_23
theorem dX12_sizes_0 : decode cX12_sizes 0 = .ok (.aload_n 0, 1) := by decide +kernel
theorem dX12_sizes_1 : decode cX12_sizes 1 = .ok (.getfield 84, 3) := by decide +kernel
theorem dX12_sizes_4 : decode cX12_sizes 4 = .ok (.aload_n 0, 1) := by decide +kernel
theorem dX12_sizes_5 : decode cX12_sizes 5 = .ok (.getfield 28, 3) := by decide +kernel
theorem dX12_sizes_8 : decode cX12_sizes 8 = .ok (.aload_n 0, 1) := by decide +kernel
theorem dX12_sizes_9 : decode cX12_sizes 9 = .ok (.getfield 10, 3) := by decide +kernel
theorem dX12_sizes_12 : decode cX12_sizes 12 = .ok (.invokevirtual 289, 3) := by decide +kernel
theorem dX12_sizes_15 : decode cX12_sizes 15 = .ok (.istore_n 1, 1) := by decide +kernel
theorem dX12_sizes_16 : decode cX12_sizes 16 = .ok (.aload_n 0, 1) := by decide +kernel
theorem dX12_sizes_17 : decode cX12_sizes 17 = .ok (.getfield 10, 3) := by decide +kernel
theorem dX12_sizes_20 : decode cX12_sizes 20 = .ok (.invokevirtual 134, 3) := by decide +kernel
theorem dX12_sizes_23 : decode cX12_sizes 23 = .ok (.iload_n 1, 1) := by decide +kernel
theorem dX12_sizes_24 : decode cX12_sizes 24 = .ok (.ireturn, 1) := by decide +kernel
set_option maxRecDepth 100000 in
set_option maxHeartbeats 4000000 in
theorem kX12_sizes {E : KE} {l : Launch} (hE : mx_ok E)  (hT : xOK E) (M : MM) {q : (Int32 × MM)} (hf : fX12_sizes M = some q) : mx_Met E l yX12_sizes cX12_sizes 2 (some .int) 4 [.ref (E.2.1.2.1 0)] M (some (.int q.1)) q.2 := by
  refine mx_enter hE (by decide) (Nat.le_of_ble_eq_true rfl) ?_
  intro p e s m below meth c C hM hn ls hl
  have hx := C.1.1
  have hb := C.1.2.1
  have hown := C.1.2.2.2.1
  have hts := C.1.2.2.2.2
  have hl : lv_has ls 2 [(0, .ref (E.2.1.2.1 0))] := hl
  rw [fX12_sizes] at hf
  refine lv_aload_n hx hb dX12_sizes_0 rfl (lv_at hl 0 rfl) ?_
  refine gX12_84 C hM (xt_0 hT) (f := (2, 149)) rfl (v := .ref (E.2.1.2.1 149)) rfl dX12_sizes_1 ?_
  refine lv_aload_n hx hb dX12_sizes_4 rfl (lv_at hl 0 rfl) ?_
  refine gX12_28 C hM (xt_0 hT) (f := (2, 9)) rfl (v := .ref (E.2.1.2.1 9)) rfl dX12_sizes_5 ?_
  refine lv_aload_n hx hb dX12_sizes_8 rfl (lv_at hl 0 rfl) ?_
  refine gX12_10 C hM (xt_0 hT) (f := (2, 1)) rfl (v := .ref (E.2.1.2.1 1)) rfl dX12_sizes_9 ?_
  obtain ⟨q12, hq12, hf⟩ := mx_bd hf
  refine mx_callVN C hM hl.1 yo_X2_readTries (h' := 3) (by decide) (nw_899 hT C) qw_901 qs_71 (ci := 2) (q := (RX2, TX2, 4)) rfl (xt_149 hT) (As := [.ref (E.2.1.2.1 9), .ref (E.2.1.2.1 1)]) (rest := []) (st1 := [.int q12.1]) (kX2_readTries C.2.2.2.1 hT M hq12) rfl rfl rfl (Nat.le_of_ble_eq_true rfl) dX12_sizes_12 (fun H locs hM => ?_)
  refine lv_istore_n (lv' := [(1, .int q12.1), (0, .ref (E.2.1.2.1 0))]) hx hb dX12_sizes_15 rfl hl (by decide) rfl (fun ls hl => ?_)
  refine lv_aload_n hx hb dX12_sizes_16 rfl (lv_at hl 1 rfl) ?_
  refine gX12_10 C hM (xt_0 hT) (f := (2, 1)) rfl (v := .ref (E.2.1.2.1 1)) rfl dX12_sizes_17 ?_
  obtain ⟨q20, hq20, hf⟩ := mx_bd hf
  refine mx_callVN C hM hl.1 yo_X10_clear (h' := 0) (by decide) (nw_623 hT C) qw_625 qs_27 (ci := 10) (q := (RX10, TX10, 2)) rfl (xt_1 hT) (As := []) (rest := []) (st1 := []) (kX10_clear C.2.2.2.1 hT q12.2 hq20) rfl rfl rfl (Nat.le_of_ble_eq_true rfl) dX12_sizes_20 (fun H locs hM => ?_)
  refine lv_iload_n hx hb dX12_sizes_23 rfl (lv_at hl 0 rfl) ?_
  exact mx_iret C hM hf dX12_sizes_24
theorem dX12_sizeLeast_0 : decode cX12_sizeLeast 0 = .ok (.aload_n 0, 1) := by decide +kernel
theorem dX12_sizeLeast_1 : decode cX12_sizeLeast 1 = .ok (.getfield 84, 3) := by decide +kernel
theorem dX12_sizeLeast_4 : decode cX12_sizeLeast 4 = .ok (.getfield 293, 3) := by decide +kernel
theorem dX12_sizeLeast_7 : decode cX12_sizeLeast 7 = .ok (.ireturn, 1) := by decide +kernel
set_option maxRecDepth 100000 in
set_option maxHeartbeats 4000000 in
theorem kX12_sizeLeast {E : KE} {l : Launch} (hE : mx_ok E)  (hT : xOK E) (M : MM) {q : Int32} (hf : fX12_sizeLeast M = some q) : mx_Met E l yX12_sizeLeast cX12_sizeLeast 1 (some .int) 0 [.ref (E.2.1.2.1 0)] M (some (.int q)) M := by
  refine mx_enter hE (by decide) (Nat.le_of_ble_eq_true rfl) ?_
  intro p e s m below meth c C hM hn ls hl
  have hx := C.1.1
  have hb := C.1.2.1
  have hown := C.1.2.2.2.1
  have hts := C.1.2.2.2.2
  have hl : lv_has ls 1 [(0, .ref (E.2.1.2.1 0))] := hl
  rw [fX12_sizeLeast] at hf
  refine lv_aload_n hx hb dX12_sizeLeast_0 rfl (lv_at hl 0 rfl) ?_
  refine gX12_84 C hM (xt_0 hT) (f := (2, 149)) rfl (v := .ref (E.2.1.2.1 149)) rfl dX12_sizeLeast_1 ?_
  refine gX12_293 C hT hM (xt_149 hT) (f := (0, 0)) rfl (v := .int (M.1 149 0)) rfl dX12_sizeLeast_4 ?_
  exact mx_iretR C hM hf dX12_sizeLeast_7
theorem dX12_knuckle_0 : decode cX12_knuckle 0 = .ok (.aload_n 0, 1) := by decide +kernel
theorem dX12_knuckle_1 : decode cX12_knuckle 1 = .ok (.getfield 84, 3) := by decide +kernel
theorem dX12_knuckle_4 : decode cX12_knuckle 4 = .ok (.getfield 296, 3) := by decide +kernel
theorem dX12_knuckle_7 : decode cX12_knuckle 7 = .ok (.ireturn, 1) := by decide +kernel
set_option maxRecDepth 100000 in
set_option maxHeartbeats 4000000 in
theorem kX12_knuckle {E : KE} {l : Launch} (hE : mx_ok E)  (hT : xOK E) (M : MM) {q : Int32} (hf : fX12_knuckle M = some q) : mx_Met E l yX12_knuckle cX12_knuckle 1 (some .int) 0 [.ref (E.2.1.2.1 0)] M (some (.int q)) M := by
  refine mx_enter hE (by decide) (Nat.le_of_ble_eq_true rfl) ?_
  intro p e s m below meth c C hM hn ls hl
  have hx := C.1.1
  have hb := C.1.2.1
  have hown := C.1.2.2.2.1
  have hts := C.1.2.2.2.2
  have hl : lv_has ls 1 [(0, .ref (E.2.1.2.1 0))] := hl
  rw [fX12_knuckle] at hf
  refine lv_aload_n hx hb dX12_knuckle_0 rfl (lv_at hl 0 rfl) ?_
  refine gX12_84 C hM (xt_0 hT) (f := (2, 149)) rfl (v := .ref (E.2.1.2.1 149)) rfl dX12_knuckle_1 ?_
  refine gX12_296 C hT hM (xt_149 hT) (f := (0, 0)) rfl (v := .int (M.1 149 1)) rfl dX12_knuckle_4 ?_
  exact mx_iretR C hM hf dX12_knuckle_7
theorem dX12_ways_0 : decode cX12_ways 0 = .ok (.aload_n 0, 1) := by decide +kernel
theorem dX12_ways_1 : decode cX12_ways 1 = .ok (.getfield 84, 3) := by decide +kernel
theorem dX12_ways_4 : decode cX12_ways 4 = .ok (.aload_n 0, 1) := by decide +kernel
theorem dX12_ways_5 : decode cX12_ways 5 = .ok (.getfield 28, 3) := by decide +kernel
theorem dX12_ways_8 : decode cX12_ways 8 = .ok (.invokevirtual 299, 3) := by decide +kernel
theorem dX12_ways_11 : decode cX12_ways 11 = .ok (.ireturn, 1) := by decide +kernel
set_option maxRecDepth 100000 in
set_option maxHeartbeats 4000000 in
theorem kX12_ways {E : KE} {l : Launch} (hE : mx_ok E)  (hT : xOK E) (M : MM) {q : (Int32 × MM)} (hf : fX12_ways M = some q) : mx_Met E l yX12_ways cX12_ways 1 (some .int) 5 [.ref (E.2.1.2.1 0)] M (some (.int q.1)) q.2 := by
  refine mx_enter hE (by decide) (Nat.le_of_ble_eq_true rfl) ?_
  intro p e s m below meth c C hM hn ls hl
  have hx := C.1.1
  have hb := C.1.2.1
  have hown := C.1.2.2.2.1
  have hts := C.1.2.2.2.2
  have hl : lv_has ls 1 [(0, .ref (E.2.1.2.1 0))] := hl
  rw [fX12_ways] at hf
  refine lv_aload_n hx hb dX12_ways_0 rfl (lv_at hl 0 rfl) ?_
  refine gX12_84 C hM (xt_0 hT) (f := (2, 149)) rfl (v := .ref (E.2.1.2.1 149)) rfl dX12_ways_1 ?_
  refine lv_aload_n hx hb dX12_ways_4 rfl (lv_at hl 0 rfl) ?_
  refine gX12_28 C hM (xt_0 hT) (f := (2, 9)) rfl (v := .ref (E.2.1.2.1 9)) rfl dX12_ways_5 ?_
  obtain ⟨q8, hq8, hf⟩ := mx_bd hf
  refine mx_callVN C hM hl.1 yo_X2_waysToGive (h' := 4) (by decide) (nw_938 hT C) qw_940 qs_72 (ci := 2) (q := (RX2, TX2, 4)) rfl (xt_149 hT) (As := [.ref (E.2.1.2.1 9)]) (rest := []) (st1 := [.int q8.1]) (kX2_waysToGive C.2.2.2.1 hT M hq8) rfl rfl rfl (Nat.le_of_ble_eq_true rfl) dX12_ways_8 (fun H locs hM => ?_)
  exact mx_iret C hM hf dX12_ways_11
theorem dX12_likely_0 : decode cX12_likely 0 = .ok (.aload_n 0, 1) := by decide +kernel
theorem dX12_likely_1 : decode cX12_likely 1 = .ok (.getfield 28, 3) := by decide +kernel
theorem dX12_likely_4 : decode cX12_likely 4 = .ok (.iload_n 1, 1) := by decide +kernel
theorem dX12_likely_5 : decode cX12_likely 5 = .ok (.invokevirtual 183, 3) := by decide +kernel
theorem dX12_likely_8 : decode cX12_likely 8 = .ok (.ifCond .eq 18, 3) := by decide +kernel
theorem dX12_likely_11 : decode cX12_likely 11 = .ok (.aload_n 0, 1) := by decide +kernel
theorem dX12_likely_12 : decode cX12_likely 12 = .ok (.getfield 84, 3) := by decide +kernel
theorem dX12_likely_15 : decode cX12_likely 15 = .ok (.aload_n 0, 1) := by decide +kernel
theorem dX12_likely_16 : decode cX12_likely 16 = .ok (.getfield 28, 3) := by decide +kernel
theorem dX12_likely_19 : decode cX12_likely 19 = .ok (.iload_n 1, 1) := by decide +kernel
theorem dX12_likely_20 : decode cX12_likely 20 = .ok (.invokevirtual 303, 3) := by decide +kernel
theorem dX12_likely_23 : decode cX12_likely 23 = .ok (.goto 4, 3) := by decide +kernel
theorem dX12_likely_26 : decode cX12_likely 26 = .ok (.iconst (-1), 1) := by decide +kernel
theorem dX12_likely_27 : decode cX12_likely 27 = .ok (.ireturn, 1) := by decide +kernel
set_option maxRecDepth 100000 in
set_option maxHeartbeats 4000000 in
theorem kX12_likely {E : KE} {l : Launch} (hE : mx_ok E) (i1 : Int32) (hT : xOK E) (M : MM) {q : (Int32 × MM)} (hf : fX12_likely i1 M = some q) : mx_Met E l yX12_likely cX12_likely 2 (some .int) 6 [.ref (E.2.1.2.1 0), .int i1] M (some (.int q.1)) q.2 := by
  refine mx_enter hE (by decide) (Nat.le_of_ble_eq_true rfl) ?_
  intro p e s m below meth c C hM hn ls hl
  have hx := C.1.1
  have hb := C.1.2.1
  have hown := C.1.2.2.2.1
  have hts := C.1.2.2.2.2
  have hl : lv_has ls 2 [(0, .ref (E.2.1.2.1 0)), (1, .int i1)] := hl
  rw [fX12_likely] at hf
  refine lv_aload_n hx hb dX12_likely_0 rfl (lv_at hl 0 rfl) ?_
  refine gX12_28 C hM (xt_0 hT) (f := (2, 9)) rfl (v := .ref (E.2.1.2.1 9)) rfl dX12_likely_1 ?_
  refine lv_iload_n hx hb dX12_likely_4 rfl (lv_at hl 1 rfl) ?_
  obtain ⟨q5, hq5, hf⟩ := mx_bd hf
  refine mx_callVN C hM hl.1 yo_X3_isRing (h' := 0) (by decide) (nw_658 hT C) qw_660 qs_33 (ci := 3) (q := (RX3, TX3, 18)) rfl (xt_9 hT) (As := [.int i1]) (rest := []) (st1 := [.int (mx_b q5)]) (kX3_isRing C.2.2.2.1 i1 hT M hq5) rfl rfl rfl (Nat.le_of_ble_eq_true rfl) dX12_likely_5 (fun H locs hM => ?_)
  refine lv_if_eq (tgt := 26) hx hb dX12_likely_8 (by decide) (fun hc8 => ?_) (fun hc8 => ?_)
  · replace hf := mx_ift hc8 hf
    refine lv_iconst (v := (-1 : Int32)) hx hb dX12_likely_26 (by decide) ?_
    exact mx_iret C hM hf dX12_likely_27
  · replace hf := mx_iff hc8 hf
    refine lv_aload_n hx hb dX12_likely_11 rfl (lv_at hl 0 rfl) ?_
    refine gX12_84 C hM (xt_0 hT) (f := (2, 149)) rfl (v := .ref (E.2.1.2.1 149)) rfl dX12_likely_12 ?_
    refine lv_aload_n hx hb dX12_likely_15 rfl (lv_at hl 0 rfl) ?_
    refine gX12_28 C hM (xt_0 hT) (f := (2, 9)) rfl (v := .ref (E.2.1.2.1 9)) rfl dX12_likely_16 ?_
    refine lv_iload_n hx hb dX12_likely_19 rfl (lv_at hl 1 rfl) ?_
    obtain ⟨q20, hq20, hf⟩ := mx_bd hf
    refine mx_callVN C hM hl.1 yo_X2_likeliest (h' := 5) (by decide) (nw_957 hT C) qw_959 qs_75 (ci := 2) (q := (RX2, TX2, 4)) rfl (xt_149 hT) (As := [.ref (E.2.1.2.1 9), .int i1]) (rest := []) (st1 := [.int q20.1]) (kX2_likeliest C.2.2.2.1 i1 hT M hq20) rfl rfl rfl (Nat.le_of_ble_eq_true rfl) dX12_likely_20 (fun H locs hM => ?_)
    refine lv_goto (tgt := 27) hx hb dX12_likely_23 (by decide) ?_
    exact mx_iret C hM hf dX12_likely_27
theorem dX12_chain_0 : decode cX12_chain 0 = .ok (.aload_n 0, 1) := by decide +kernel
theorem dX12_chain_1 : decode cX12_chain 1 = .ok (.getfield 28, 3) := by decide +kernel
theorem dX12_chain_4 : decode cX12_chain 4 = .ok (.iload_n 1, 1) := by decide +kernel
theorem dX12_chain_5 : decode cX12_chain 5 = .ok (.invokevirtual 154, 3) := by decide +kernel
theorem dX12_chain_8 : decode cX12_chain 8 = .ok (.ifCond .eq 21, 3) := by decide +kernel
theorem dX12_chain_11 : decode cX12_chain 11 = .ok (.aload_n 0, 1) := by decide +kernel
theorem dX12_chain_12 : decode cX12_chain 12 = .ok (.getfield 77, 3) := by decide +kernel
theorem dX12_chain_15 : decode cX12_chain 15 = .ok (.aload_n 0, 1) := by decide +kernel
theorem dX12_chain_16 : decode cX12_chain 16 = .ok (.getfield 40, 3) := by decide +kernel
theorem dX12_chain_19 : decode cX12_chain 19 = .ok (.iload_n 1, 1) := by decide +kernel
theorem dX12_chain_20 : decode cX12_chain 20 = .ok (.invokevirtual 307, 3) := by decide +kernel
theorem dX12_chain_23 : decode cX12_chain 23 = .ok (.invokestatic 310, 3) := by decide +kernel
theorem dX12_chain_26 : decode cX12_chain 26 = .ok (.goto 4, 3) := by decide +kernel
theorem dX12_chain_29 : decode cX12_chain 29 = .ok (.iconst (-1), 1) := by decide +kernel
theorem dX12_chain_30 : decode cX12_chain 30 = .ok (.ireturn, 1) := by decide +kernel
set_option maxRecDepth 100000 in
set_option maxHeartbeats 4000000 in
theorem kX12_chain {E : KE} {l : Launch} (hE : mx_ok E) (i1 : Int32) (hT : xOK E) (M : MM) {q : (Int32 × MM)} (hf : fX12_chain i1 M = some q) : mx_Met E l yX12_chain cX12_chain 2 (some .int) 2 [.ref (E.2.1.2.1 0), .int i1] M (some (.int q.1)) q.2 := by
  refine mx_enter hE (by decide) (Nat.le_of_ble_eq_true rfl) ?_
  intro p e s m below meth c C hM hn ls hl
  have hx := C.1.1
  have hb := C.1.2.1
  have hown := C.1.2.2.2.1
  have hts := C.1.2.2.2.2
  have hl : lv_has ls 2 [(0, .ref (E.2.1.2.1 0)), (1, .int i1)] := hl
  rw [fX12_chain] at hf
  refine lv_aload_n hx hb dX12_chain_0 rfl (lv_at hl 0 rfl) ?_
  refine gX12_28 C hM (xt_0 hT) (f := (2, 9)) rfl (v := .ref (E.2.1.2.1 9)) rfl dX12_chain_1 ?_
  refine lv_iload_n hx hb dX12_chain_4 rfl (lv_at hl 1 rfl) ?_
  obtain ⟨q5, hq5, hf⟩ := mx_bd hf
  refine mx_callVN C hM hl.1 yo_X3_isPerson (h' := 0) (by decide) (nw_662 hT C) qw_664 qs_34 (ci := 3) (q := (RX3, TX3, 18)) rfl (xt_9 hT) (As := [.int i1]) (rest := []) (st1 := [.int (mx_b q5)]) (kX3_isPerson C.2.2.2.1 i1 hT M hq5) rfl rfl rfl (Nat.le_of_ble_eq_true rfl) dX12_chain_5 (fun H locs hM => ?_)
  refine lv_if_eq (tgt := 29) hx hb dX12_chain_8 (by decide) (fun hc8 => ?_) (fun hc8 => ?_)
  · replace hf := mx_ift hc8 hf
    refine lv_iconst (v := (-1 : Int32)) hx hb dX12_chain_29 (by decide) ?_
    exact mx_iret C hM hf dX12_chain_30
  · replace hf := mx_iff hc8 hf
    refine lv_aload_n hx hb dX12_chain_11 rfl (lv_at hl 0 rfl) ?_
    refine gX12_77 C hM (xt_0 hT) (f := (2, 143)) rfl (v := .ref (E.2.1.2.1 143)) rfl dX12_chain_12 ?_
    refine lv_aload_n hx hb dX12_chain_15 rfl (lv_at hl 0 rfl) ?_
    refine gX12_40 C hM (xt_0 hT) (f := (2, 29)) rfl (v := .ref (E.2.1.2.1 29)) rfl dX12_chain_16 ?_
    refine lv_iload_n hx hb dX12_chain_19 rfl (lv_at hl 1 rfl) ?_
    obtain ⟨q20, hq20, hf⟩ := mx_bd hf
    refine mx_callVN C hM hl.1 yo_X6_chainFrom (h' := 1) (by decide) (nw_969 hT C) qw_971 qs_77 (ci := 6) (q := (RX6, TX6, 7)) rfl (xt_143 hT) (As := [.ref (E.2.1.2.1 29), .int i1]) (rest := []) (st1 := [.int q20.1]) (kX6_chainFrom C.2.2.2.1 i1 hT M hq20) rfl rfl rfl (Nat.le_of_ble_eq_true rfl) dX12_chain_20 (fun H locs hM => ?_)
    obtain ⟨q23, hq23, hf⟩ := mx_bd hf
    refine mx_callS C hM hl.1 yo_J6_bitCount_0f7a4 (h' := 0) (by decide) qw_976 qw_784 (As := [.int q20.1]) (rest := []) (st1 := [.int q23]) (kJ6_bitCount_0f7a4 C.2.2.2.1 q20.1 q20.2 hq23) rfl rfl rfl (Nat.le_of_ble_eq_true rfl) dX12_chain_23 (fun H locs hM => ?_)
    refine lv_goto (tgt := 30) hx hb dX12_chain_26 (by decide) ?_
    exact mx_iret C hM hf dX12_chain_30
theorem dX12_closed_0 : decode cX12_closed 0 = .ok (.aload_n 0, 1) := by decide +kernel
theorem dX12_closed_1 : decode cX12_closed 1 = .ok (.getfield 28, 3) := by decide +kernel
theorem dX12_closed_4 : decode cX12_closed 4 = .ok (.iload_n 1, 1) := by decide +kernel
theorem dX12_closed_5 : decode cX12_closed 5 = .ok (.invokevirtual 154, 3) := by decide +kernel
theorem dX12_closed_8 : decode cX12_closed 8 = .ok (.ifCond .ne 5, 3) := by decide +kernel
theorem dX12_closed_11 : decode cX12_closed 11 = .ok (.iconst (-1), 1) := by decide +kernel
theorem dX12_closed_12 : decode cX12_closed 12 = .ok (.ireturn, 1) := by decide +kernel
theorem dX12_closed_13 : decode cX12_closed 13 = .ok (.aload_n 0, 1) := by decide +kernel
theorem dX12_closed_14 : decode cX12_closed 14 = .ok (.getfield 77, 3) := by decide +kernel
theorem dX12_closed_17 : decode cX12_closed 17 = .ok (.aload_n 0, 1) := by decide +kernel
theorem dX12_closed_18 : decode cX12_closed 18 = .ok (.getfield 40, 3) := by decide +kernel
theorem dX12_closed_21 : decode cX12_closed 21 = .ok (.iload_n 1, 1) := by decide +kernel
theorem dX12_closed_22 : decode cX12_closed 22 = .ok (.invokevirtual 307, 3) := by decide +kernel
theorem dX12_closed_25 : decode cX12_closed 25 = .ok (.pop, 1) := by decide +kernel
theorem dX12_closed_26 : decode cX12_closed 26 = .ok (.aload_n 0, 1) := by decide +kernel
theorem dX12_closed_27 : decode cX12_closed 27 = .ok (.getfield 77, 3) := by decide +kernel
theorem dX12_closed_30 : decode cX12_closed 30 = .ok (.getfield 315, 3) := by decide +kernel
theorem dX12_closed_33 : decode cX12_closed 33 = .ok (.iload_n 1, 1) := by decide +kernel
theorem dX12_closed_34 : decode cX12_closed 34 = .ok (.if_icmp .ne 7, 3) := by decide +kernel
theorem dX12_closed_37 : decode cX12_closed 37 = .ok (.iconst 1, 1) := by decide +kernel
theorem dX12_closed_38 : decode cX12_closed 38 = .ok (.goto 4, 3) := by decide +kernel
theorem dX12_closed_41 : decode cX12_closed 41 = .ok (.iconst 0, 1) := by decide +kernel
theorem dX12_closed_42 : decode cX12_closed 42 = .ok (.ireturn, 1) := by decide +kernel
set_option maxRecDepth 100000 in
set_option maxHeartbeats 4000000 in
theorem kX12_closed {E : KE} {l : Launch} (hE : mx_ok E) (i1 : Int32) (hT : xOK E) (M : MM) {q : (Int32 × MM)} (hf : fX12_closed i1 M = some q) : mx_Met E l yX12_closed cX12_closed 2 (some .int) 2 [.ref (E.2.1.2.1 0), .int i1] M (some (.int q.1)) q.2 := by
  refine mx_enter hE (by decide) (Nat.le_of_ble_eq_true rfl) ?_
  intro p e s m below meth c C hM hn ls hl
  have hx := C.1.1
  have hb := C.1.2.1
  have hown := C.1.2.2.2.1
  have hts := C.1.2.2.2.2
  have hl : lv_has ls 2 [(0, .ref (E.2.1.2.1 0)), (1, .int i1)] := hl
  rw [fX12_closed] at hf
  refine lv_aload_n hx hb dX12_closed_0 rfl (lv_at hl 0 rfl) ?_
  refine gX12_28 C hM (xt_0 hT) (f := (2, 9)) rfl (v := .ref (E.2.1.2.1 9)) rfl dX12_closed_1 ?_
  refine lv_iload_n hx hb dX12_closed_4 rfl (lv_at hl 1 rfl) ?_
  obtain ⟨q5, hq5, hf⟩ := mx_bd hf
  refine mx_callVN C hM hl.1 yo_X3_isPerson (h' := 0) (by decide) (nw_662 hT C) qw_664 qs_34 (ci := 3) (q := (RX3, TX3, 18)) rfl (xt_9 hT) (As := [.int i1]) (rest := []) (st1 := [.int (mx_b q5)]) (kX3_isPerson C.2.2.2.1 i1 hT M hq5) rfl rfl rfl (Nat.le_of_ble_eq_true rfl) dX12_closed_5 (fun H locs hM => ?_)
  refine lv_if_ne (tgt := 13) hx hb dX12_closed_8 (by decide) (fun hc8 => ?_) (fun hc8 => ?_)
  · replace hf := mx_iff hc8 hf
    refine lv_aload_n hx hb dX12_closed_13 rfl (lv_at hl 0 rfl) ?_
    refine gX12_77 C hM (xt_0 hT) (f := (2, 143)) rfl (v := .ref (E.2.1.2.1 143)) rfl dX12_closed_14 ?_
    refine lv_aload_n hx hb dX12_closed_17 rfl (lv_at hl 0 rfl) ?_
    refine gX12_40 C hM (xt_0 hT) (f := (2, 29)) rfl (v := .ref (E.2.1.2.1 29)) rfl dX12_closed_18 ?_
    refine lv_iload_n hx hb dX12_closed_21 rfl (lv_at hl 1 rfl) ?_
    obtain ⟨q22, hq22, hf⟩ := mx_bd hf
    refine mx_callVN C hM hl.1 yo_X6_chainFrom (h' := 1) (by decide) (nw_969 hT C) qw_971 qs_77 (ci := 6) (q := (RX6, TX6, 7)) rfl (xt_143 hT) (As := [.ref (E.2.1.2.1 29), .int i1]) (rest := []) (st1 := [.int q22.1]) (kX6_chainFrom C.2.2.2.1 i1 hT M hq22) rfl rfl rfl (Nat.le_of_ble_eq_true rfl) dX12_closed_22 (fun H locs hM => ?_)
    refine lv_pop hx hb dX12_closed_25 rfl ?_
    refine lv_aload_n hx hb dX12_closed_26 rfl (lv_at hl 0 rfl) ?_
    refine gX12_77 C hM (xt_0 hT) (f := (2, 143)) rfl (v := .ref (E.2.1.2.1 143)) rfl dX12_closed_27 ?_
    refine gX12_315 C hT hM (xt_143 hT) (f := (0, 0)) rfl (v := .int (q22.2.1 143 3)) rfl dX12_closed_30 ?_
    refine lv_iload_n hx hb dX12_closed_33 rfl (lv_at hl 1 rfl) ?_
    refine lv_icmp_ne (tgt := 41) hx hb dX12_closed_34 (by decide) (fun hc34 => ?_) (fun hc34 => ?_)
    · replace hf := mx_iff hc34 hf
      refine lv_iconst (v := (0 : Int32)) hx hb dX12_closed_41 (by decide) ?_
      exact mx_iret C hM hf dX12_closed_42
    · replace hf := mx_ift hc34 hf
      refine lv_iconst (v := (1 : Int32)) hx hb dX12_closed_37 (by decide) ?_
      refine lv_goto (tgt := 42) hx hb dX12_closed_38 (by decide) ?_
      exact mx_iret C hM hf dX12_closed_42
  · replace hf := mx_ift hc8 hf
    refine lv_iconst (v := (-1 : Int32)) hx hb dX12_closed_11 (by decide) ?_
    exact mx_iret C hM hf dX12_closed_12
theorem dX12_byteAt_0 : decode cX12_byteAt 0 = .ok (.iload_n 1, 1) := by decide +kernel
theorem dX12_byteAt_1 : decode cX12_byteAt 1 = .ok (.ifCond .lt 14, 3) := by decide +kernel
theorem dX12_byteAt_4 : decode cX12_byteAt 4 = .ok (.iload_n 1, 1) := by decide +kernel
theorem dX12_byteAt_5 : decode cX12_byteAt 5 = .ok (.aload_n 0, 1) := by decide +kernel
theorem dX12_byteAt_6 : decode cX12_byteAt 6 = .ok (.getfield 91, 3) := by decide +kernel
theorem dX12_byteAt_9 : decode cX12_byteAt 9 = .ok (.getfield 322, 3) := by decide +kernel
theorem dX12_byteAt_12 : decode cX12_byteAt 12 = .ok (.if_icmp .lt 7, 3) := by decide +kernel
theorem dX12_byteAt_15 : decode cX12_byteAt 15 = .ok (.iconst (-1), 1) := by decide +kernel
theorem dX12_byteAt_16 : decode cX12_byteAt 16 = .ok (.goto 12, 3) := by decide +kernel
theorem dX12_byteAt_19 : decode cX12_byteAt 19 = .ok (.aload_n 0, 1) := by decide +kernel
theorem dX12_byteAt_20 : decode cX12_byteAt 20 = .ok (.getfield 91, 3) := by decide +kernel
theorem dX12_byteAt_23 : decode cX12_byteAt 23 = .ok (.getfield 323, 3) := by decide +kernel
theorem dX12_byteAt_26 : decode cX12_byteAt 26 = .ok (.iload_n 1, 1) := by decide +kernel
theorem dX12_byteAt_27 : decode cX12_byteAt 27 = .ok (.baload, 1) := by decide +kernel
theorem dX12_byteAt_28 : decode cX12_byteAt 28 = .ok (.ireturn, 1) := by decide +kernel
set_option maxRecDepth 100000 in
set_option maxHeartbeats 4000000 in
theorem kX12_byteAt {E : KE} {l : Launch} (hE : mx_ok E) (i1 : Int32) (hT : xOK E) (M : MM) {q : Int32} (hf : fX12_byteAt i1 M = some q) : mx_Met E l yX12_byteAt cX12_byteAt 2 (some .int) 0 [.ref (E.2.1.2.1 0), .int i1] M (some (.int q)) M := by
  refine mx_enter hE (by decide) (Nat.le_of_ble_eq_true rfl) ?_
  intro p e s m below meth c C hM hn ls hl
  have hx := C.1.1
  have hb := C.1.2.1
  have hown := C.1.2.2.2.1
  have hts := C.1.2.2.2.2
  have hl : lv_has ls 2 [(0, .ref (E.2.1.2.1 0)), (1, .int i1)] := hl
  rw [fX12_byteAt] at hf
  refine lv_iload_n hx hb dX12_byteAt_0 rfl (lv_at hl 1 rfl) ?_
  refine lv_if_lt (tgt := 15) hx hb dX12_byteAt_1 (by decide) (fun hc1 => ?_) (fun hc1 => ?_)
  · replace hf := mx_ift hc1 hf
    refine lv_iconst (v := (-1 : Int32)) hx hb dX12_byteAt_15 (by decide) ?_
    refine lv_goto (tgt := 28) hx hb dX12_byteAt_16 (by decide) ?_
    exact mx_iretR C hM hf dX12_byteAt_28
  · replace hf := mx_iff hc1 hf
    refine lv_iload_n hx hb dX12_byteAt_4 rfl (lv_at hl 1 rfl) ?_
    refine lv_aload_n hx hb dX12_byteAt_5 rfl (lv_at hl 0 rfl) ?_
    refine gX12_91 C hM (xt_0 hT) (f := (2, 152)) rfl (v := .ref (E.2.1.2.1 152)) rfl dX12_byteAt_6 ?_
    refine gX12_322 C hT hM (xt_152 hT) (f := (0, 0)) rfl (v := .int (M.1 152 1)) rfl dX12_byteAt_9 ?_
    refine lv_icmp_lt (tgt := 19) hx hb dX12_byteAt_12 (by decide) (fun hc12 => ?_) (fun hc12 => ?_)
    · replace hf := mx_ift hc12 hf
      refine lv_aload_n hx hb dX12_byteAt_19 rfl (lv_at hl 0 rfl) ?_
      refine gX12_91 C hM (xt_0 hT) (f := (2, 152)) rfl (v := .ref (E.2.1.2.1 152)) rfl dX12_byteAt_20 ?_
      refine gX12_323 C hT hM (xt_152 hT) (f := (2, 153)) rfl (v := .ref (E.2.1.2.1 153)) rfl dX12_byteAt_23 ?_
      refine lv_iload_n hx hb dX12_byteAt_26 rfl (lv_at hl 1 rfl) ?_
      obtain ⟨hg27, hf⟩ := mx_gd hf
      refine mx_bald C hM (xt_153 hT) (mx_in_vp hg27) dX12_byteAt_27 ?_
      exact mx_iretR C hM hf dX12_byteAt_28
    · replace hf := mx_iff hc12 hf
      refine lv_iconst (v := (-1 : Int32)) hx hb dX12_byteAt_15 (by decide) ?_
      refine lv_goto (tgt := 28) hx hb dX12_byteAt_16 (by decide) ?_
      exact mx_iretR C hM hf dX12_byteAt_28
theorem dX12_drawn_0 : decode cX12_drawn 0 = .ok (.iload_n 1, 1) := by decide +kernel
theorem dX12_drawn_1 : decode cX12_drawn 1 = .ok (.iconst 1, 1) := by decide +kernel
theorem dX12_drawn_2 : decode cX12_drawn 2 = .ok (.if_icmp .lt 9, 3) := by decide +kernel
theorem dX12_drawn_5 : decode cX12_drawn 5 = .ok (.iload_n 1, 1) := by decide +kernel
theorem dX12_drawn_6 : decode cX12_drawn 6 = .ok (.bipush 60, 2) := by decide +kernel
theorem dX12_drawn_8 : decode cX12_drawn 8 = .ok (.if_icmp .le 5, 3) := by decide +kernel
theorem dX12_drawn_11 : decode cX12_drawn 11 = .ok (.iconst (-1), 1) := by decide +kernel
theorem dX12_drawn_12 : decode cX12_drawn 12 = .ok (.ireturn, 1) := by decide +kernel
theorem dX12_drawn_13 : decode cX12_drawn 13 = .ok (.aload_n 0, 1) := by decide +kernel
theorem dX12_drawn_14 : decode cX12_drawn 14 = .ok (.getfield 44, 3) := by decide +kernel
theorem dX12_drawn_17 : decode cX12_drawn 17 = .ok (.aload_n 0, 1) := by decide +kernel
theorem dX12_drawn_18 : decode cX12_drawn 18 = .ok (.getfield 40, 3) := by decide +kernel
theorem dX12_drawn_21 : decode cX12_drawn 21 = .ok (.invokevirtual 233, 3) := by decide +kernel
theorem dX12_drawn_24 : decode cX12_drawn 24 = .ok (.aload_n 0, 1) := by decide +kernel
theorem dX12_drawn_25 : decode cX12_drawn 25 = .ok (.aload_n 0, 1) := by decide +kernel
theorem dX12_drawn_26 : decode cX12_drawn 26 = .ok (.getfield 40, 3) := by decide +kernel
theorem dX12_drawn_29 : decode cX12_drawn 29 = .ok (.iload_n 1, 1) := by decide +kernel
theorem dX12_drawn_30 : decode cX12_drawn 30 = .ok (.iload_n 2, 1) := by decide +kernel
theorem dX12_drawn_31 : decode cX12_drawn 31 = .ok (.invokevirtual 327, 3) := by decide +kernel
theorem dX12_drawn_34 : decode cX12_drawn 34 = .ok (.invokevirtual 258, 3) := by decide +kernel
theorem dX12_drawn_37 : decode cX12_drawn 37 = .ok (.ireturn, 1) := by decide +kernel
set_option maxRecDepth 100000 in
set_option maxHeartbeats 4000000 in
theorem kX12_drawn {E : KE} {l : Launch} (hE : mx_ok E) (i1 : Int32) (i2 : Int32) (hT : xOK E) (M : MM) {q : (Int32 × MM)} (hf : fX12_drawn i1 i2 M = some q) : mx_Met E l yX12_drawn cX12_drawn 3 (some .int) 6 [.ref (E.2.1.2.1 0), .int i1, .int i2] M (some (.int q.1)) q.2 := by
  refine mx_enter hE (by decide) (Nat.le_of_ble_eq_true rfl) ?_
  intro p e s m below meth c C hM hn ls hl
  have hx := C.1.1
  have hb := C.1.2.1
  have hown := C.1.2.2.2.1
  have hts := C.1.2.2.2.2
  have hl : lv_has ls 3 [(0, .ref (E.2.1.2.1 0)), (1, .int i1), (2, .int i2)] := hl
  rw [fX12_drawn] at hf
  refine lv_iload_n hx hb dX12_drawn_0 rfl (lv_at hl 1 rfl) ?_
  refine lv_iconst (v := (1 : Int32)) hx hb dX12_drawn_1 (by decide) ?_
  refine lv_icmp_lt (tgt := 11) hx hb dX12_drawn_2 (by decide) (fun hc2 => ?_) (fun hc2 => ?_)
  · replace hf := mx_ift hc2 hf
    refine lv_iconst (v := (-1 : Int32)) hx hb dX12_drawn_11 (by decide) ?_
    exact mx_iret C hM hf dX12_drawn_12
  · replace hf := mx_iff hc2 hf
    refine lv_iload_n hx hb dX12_drawn_5 rfl (lv_at hl 1 rfl) ?_
    refine lv_bipush (v := (60 : Int32)) hx hb dX12_drawn_6 (by decide) ?_
    refine lv_icmp_le (tgt := 13) hx hb dX12_drawn_8 (by decide) (fun hc8 => ?_) (fun hc8 => ?_)
    · replace hf := mx_ift hc8 hf
      refine lv_aload_n hx hb dX12_drawn_13 rfl (lv_at hl 0 rfl) ?_
      refine gX12_44 C hM (xt_0 hT) (f := (2, 38)) rfl (v := .ref (E.2.1.2.1 38)) rfl dX12_drawn_14 ?_
      refine lv_aload_n hx hb dX12_drawn_17 rfl (lv_at hl 0 rfl) ?_
      refine gX12_40 C hM (xt_0 hT) (f := (2, 29)) rfl (v := .ref (E.2.1.2.1 29)) rfl dX12_drawn_18 ?_
      obtain ⟨q21, hq21, hf⟩ := mx_bd hf
      refine mx_callVN C hM hl.1 yo_X9_copyFrom (h' := 1) (by decide) (nw_693 hT C) qw_695 qs_39 (ci := 9) (q := (RX9, TX9, 13)) rfl (xt_38 hT) (As := [.ref (E.2.1.2.1 29)]) (rest := []) (st1 := []) (kX9_copyFrom C.2.2.2.1 38 29 hT xiS_38 xiS_29 M hq21) rfl rfl rfl (Nat.le_of_ble_eq_true rfl) dX12_drawn_21 (fun H locs hM => ?_)
      refine lv_aload_n hx hb dX12_drawn_24 rfl (lv_at hl 0 rfl) ?_
      refine lv_aload_n hx hb dX12_drawn_25 rfl (lv_at hl 0 rfl) ?_
      refine gX12_40 C hM (xt_0 hT) (f := (2, 29)) rfl (v := .ref (E.2.1.2.1 29)) rfl dX12_drawn_26 ?_
      refine lv_iload_n hx hb dX12_drawn_29 rfl (lv_at hl 1 rfl) ?_
      refine lv_iload_n hx hb dX12_drawn_30 rfl (lv_at hl 2 rfl) ?_
      obtain ⟨q31, hq31, hf⟩ := mx_bd hf
      refine mx_callVN C hM hl.1 yo_X9_drawDays (h' := 5) (by decide) (nw_1063 hT C) qw_1065 qs_82 (ci := 9) (q := (RX9, TX9, 13)) rfl (xt_29 hT) (As := [.int i1, .int i2]) (rest := [.ref (E.2.1.2.1 0)]) (st1 := [.int q31.1, .ref (E.2.1.2.1 0)]) (kX9_drawDays C.2.2.2.1 29 i1 i2 hT xiS_29 q21 hq31) rfl rfl rfl (Nat.le_of_ble_eq_true rfl) dX12_drawn_31 (fun H locs hM => ?_)
      obtain ⟨q34, hq34, hf⟩ := mx_bd hf
      refine mx_callV C hM hl.1 yo_X12_keptIfSome (h' := 3) (by decide) qw_793 qw_795 qs_56 (ci := 12) (q := (RX12, TX12, 19)) rfl (xt_0 hT) (As := [.int q31.1]) (rest := []) (st1 := [.int q34.1]) (kX12_keptIfSome C.2.2.2.1 q31.1 hT q31.2 hq34) rfl rfl rfl (Nat.le_of_ble_eq_true rfl) dX12_drawn_34 (fun H locs hM => ?_)
      exact mx_iret C hM hf dX12_drawn_37
    · replace hf := mx_iff hc8 hf
      refine lv_iconst (v := (-1 : Int32)) hx hb dX12_drawn_11 (by decide) ?_
      exact mx_iret C hM hf dX12_drawn_12
theorem dX12_odds_0 : decode cX12_odds 0 = .ok (.aload_n 0, 1) := by decide +kernel
theorem dX12_odds_1 : decode cX12_odds 1 = .ok (.getfield 28, 3) := by decide +kernel
theorem dX12_odds_4 : decode cX12_odds 4 = .ok (.iload_n 1, 1) := by decide +kernel
theorem dX12_odds_5 : decode cX12_odds 5 = .ok (.invokevirtual 183, 3) := by decide +kernel
theorem dX12_odds_8 : decode cX12_odds 8 = .ok (.ifCond .eq 14, 3) := by decide +kernel
theorem dX12_odds_11 : decode cX12_odds 11 = .ok (.iload_n 2, 1) := by decide +kernel
theorem dX12_odds_12 : decode cX12_odds 12 = .ok (.iconst 1, 1) := by decide +kernel
theorem dX12_odds_13 : decode cX12_odds 13 = .ok (.if_icmp .lt 9, 3) := by decide +kernel
theorem dX12_odds_16 : decode cX12_odds 16 = .ok (.iload_n 2, 1) := by decide +kernel
theorem dX12_odds_17 : decode cX12_odds 17 = .ok (.bipush 30, 2) := by decide +kernel
theorem dX12_odds_19 : decode cX12_odds 19 = .ok (.if_icmp .le 5, 3) := by decide +kernel
theorem dX12_odds_22 : decode cX12_odds 22 = .ok (.iconst (-1), 1) := by decide +kernel
theorem dX12_odds_23 : decode cX12_odds 23 = .ok (.ireturn, 1) := by decide +kernel
theorem dX12_odds_24 : decode cX12_odds 24 = .ok (.iconst 0, 1) := by decide +kernel
theorem dX12_odds_25 : decode cX12_odds 25 = .ok (.istore 4, 2) := by decide +kernel
theorem dX12_odds_27 : decode cX12_odds 27 = .ok (.iconst 0, 1) := by decide +kernel
theorem dX12_odds_28 : decode cX12_odds 28 = .ok (.istore 5, 2) := by decide +kernel
theorem dX12_odds_30 : decode cX12_odds 30 = .ok (.iload 5, 2) := by decide +kernel
theorem dX12_odds_32 : decode cX12_odds 32 = .ok (.iload_n 2, 1) := by decide +kernel
theorem dX12_odds_33 : decode cX12_odds 33 = .ok (.if_icmp .ge 58, 3) := by decide +kernel
theorem dX12_odds_36 : decode cX12_odds 36 = .ok (.aload_n 0, 1) := by decide +kernel
theorem dX12_odds_37 : decode cX12_odds 37 = .ok (.getfield 47, 3) := by decide +kernel
theorem dX12_odds_40 : decode cX12_odds 40 = .ok (.aload_n 0, 1) := by decide +kernel
theorem dX12_odds_41 : decode cX12_odds 41 = .ok (.getfield 40, 3) := by decide +kernel
theorem dX12_odds_44 : decode cX12_odds 44 = .ok (.invokevirtual 233, 3) := by decide +kernel
theorem dX12_odds_47 : decode cX12_odds 47 = .ok (.aload_n 0, 1) := by decide +kernel
theorem dX12_odds_48 : decode cX12_odds 48 = .ok (.getfield 47, 3) := by decide +kernel
theorem dX12_odds_51 : decode cX12_odds 51 = .ok (.bipush 20, 2) := by decide +kernel
theorem dX12_odds_53 : decode cX12_odds 53 = .ok (.iload_n 3, 1) := by decide +kernel
theorem dX12_odds_54 : decode cX12_odds 54 = .ok (.iload 5, 2) := by decide +kernel
theorem dX12_odds_56 : decode cX12_odds 56 = .ok (.iadd, 1) := by decide +kernel
theorem dX12_odds_57 : decode cX12_odds 57 = .ok (.invokevirtual 327, 3) := by decide +kernel
theorem dX12_odds_60 : decode cX12_odds 60 = .ok (.pop, 1) := by decide +kernel
theorem dX12_odds_61 : decode cX12_odds 61 = .ok (.aload_n 0, 1) := by decide +kernel
theorem dX12_odds_62 : decode cX12_odds 62 = .ok (.getfield 47, 3) := by decide +kernel
theorem dX12_odds_65 : decode cX12_odds 65 = .ok (.getfield 192, 3) := by decide +kernel
theorem dX12_odds_68 : decode cX12_odds 68 = .ok (.iload_n 1, 1) := by decide +kernel
theorem dX12_odds_69 : decode cX12_odds 69 = .ok (.iaload, 1) := by decide +kernel
theorem dX12_odds_70 : decode cX12_odds 70 = .ok (.aload_n 0, 1) := by decide +kernel
theorem dX12_odds_71 : decode cX12_odds 71 = .ok (.getfield 28, 3) := by decide +kernel
theorem dX12_odds_74 : decode cX12_odds 74 = .ok (.getfield 189, 3) := by decide +kernel
theorem dX12_odds_77 : decode cX12_odds 77 = .ok (.iload_n 1, 1) := by decide +kernel
theorem dX12_odds_78 : decode cX12_odds 78 = .ok (.iaload, 1) := by decide +kernel
theorem dX12_odds_79 : decode cX12_odds 79 = .ok (.if_icmp .ne 6, 3) := by decide +kernel
theorem dX12_odds_82 : decode cX12_odds 82 = .ok (.iinc 4 1, 3) := by decide +kernel
theorem dX12_odds_85 : decode cX12_odds 85 = .ok (.iinc 5 1, 3) := by decide +kernel
theorem dX12_odds_88 : decode cX12_odds 88 = .ok (.goto (-58), 3) := by decide +kernel
theorem dX12_odds_91 : decode cX12_odds 91 = .ok (.iload 4, 2) := by decide +kernel
theorem dX12_odds_93 : decode cX12_odds 93 = .ok (.ireturn, 1) := by decide +kernel
set_option maxRecDepth 100000 in
set_option maxHeartbeats 4000000 in
theorem wfX12_odds_30 {E : KE} {p : Program} {l : Launch} {e : Env} {s : State} {m : MethodId} {args : Array Value} {below : List Frame} {meth : Method} {c : Code} {q : (Int32 × MM)} (C : mx_C E p m c cX12_odds 6 s args RX12 meth (some .int)) (i1 : Int32) (i2 : Int32) (i3 : Int32) (hT : xOK E)   : ∀ (n : Nat) (i4 : Int32) (i5 : Int32) (M : MM) (H : Heap) (locs : List Loc) (ls : Array Slot), fX12_odds_30 i1 i2 i3 n i4 i5 M = some q → mx_H E s M H locs → lv_has ls 6 [(0, .ref (E.2.1.2.1 0)), (1, .int i1), (2, .int i2), (3, .int i3), (4, .int i4), (5, .int i5)] → W p l e (mx_rm 6) s m args below meth c H locs 0 0 (mx_Z E below args s (some (.int q.1)) q.2) (F0 m 30 ls []) := by
  have hx := C.1.1
  have hb := C.1.2.1
  have hown := C.1.2.2.2.1
  have hts := C.1.2.2.2.2
  intro n
  induction n with
  | zero =>
    intro i4 i5 M H locs ls hf hM hl
    rw [fX12_odds_30] at hf
    cases hf
  | succ n ih =>
    intro i4 i5 M H locs ls hf hM hl
    rw [fX12_odds_30] at hf
    refine lv_iload hx hb dX12_odds_30 (lv_at hl 5 rfl) ?_
    refine lv_iload_n hx hb dX12_odds_32 rfl (lv_at hl 2 rfl) ?_
    refine lv_icmp_ge (tgt := 91) hx hb dX12_odds_33 (by decide) (fun hc33 => ?_) (fun hc33 => ?_)
    · replace hf := mx_ift hc33 hf
      refine lv_iload hx hb dX12_odds_91 (lv_at hl 4 rfl) ?_
      exact mx_iret C hM hf dX12_odds_93
    · replace hf := mx_iff hc33 hf
      refine lv_aload_n hx hb dX12_odds_36 rfl (lv_at hl 0 rfl) ?_
      refine gX12_47 C hM (xt_0 hT) (f := (2, 47)) rfl (v := .ref (E.2.1.2.1 47)) rfl dX12_odds_37 ?_
      refine lv_aload_n hx hb dX12_odds_40 rfl (lv_at hl 0 rfl) ?_
      refine gX12_40 C hM (xt_0 hT) (f := (2, 29)) rfl (v := .ref (E.2.1.2.1 29)) rfl dX12_odds_41 ?_
      obtain ⟨q44, hq44, hf⟩ := mx_bd hf
      refine mx_callVN C hM hl.1 yo_X9_copyFrom (h' := 1) (by decide) (nw_693 hT C) qw_695 qs_39 (ci := 9) (q := (RX9, TX9, 13)) rfl (xt_47 hT) (As := [.ref (E.2.1.2.1 29)]) (rest := []) (st1 := []) (kX9_copyFrom C.2.2.2.1 47 29 hT xiS_47 xiS_29 M hq44) rfl rfl rfl (Nat.le_of_ble_eq_true rfl) dX12_odds_44 (fun H locs hM => ?_)
      refine lv_aload_n hx hb dX12_odds_47 rfl (lv_at hl 0 rfl) ?_
      refine gX12_47 C hM (xt_0 hT) (f := (2, 47)) rfl (v := .ref (E.2.1.2.1 47)) rfl dX12_odds_48 ?_
      refine lv_bipush (v := (20 : Int32)) hx hb dX12_odds_51 (by decide) ?_
      refine lv_iload_n hx hb dX12_odds_53 rfl (lv_at hl 3 rfl) ?_
      refine lv_iload hx hb dX12_odds_54 (lv_at hl 5 rfl) ?_
      refine lv_iadd hx hb dX12_odds_56 ?_
      obtain ⟨q57, hq57, hf⟩ := mx_bd hf
      refine mx_callVN C hM hl.1 yo_X9_drawDays (h' := 5) (by decide) (nw_1063 hT C) qw_1065 qs_82 (ci := 9) (q := (RX9, TX9, 13)) rfl (xt_47 hT) (As := [.int (20 : Int32), .int (i3 + i5)]) (rest := []) (st1 := [.int q57.1]) (kX9_drawDays C.2.2.2.1 47 (20 : Int32) (i3 + i5) hT xiS_47 q44 hq57) rfl rfl rfl (Nat.le_of_ble_eq_true rfl) dX12_odds_57 (fun H locs hM => ?_)
      refine lv_pop hx hb dX12_odds_60 rfl ?_
      refine lv_aload_n hx hb dX12_odds_61 rfl (lv_at hl 0 rfl) ?_
      refine gX12_47 C hM (xt_0 hT) (f := (2, 47)) rfl (v := .ref (E.2.1.2.1 47)) rfl dX12_odds_62 ?_
      refine gX12_192 C hT hM (xt_47 hT) (f := (2, 51)) rfl (v := .ref (E.2.1.2.1 51)) rfl dX12_odds_65 ?_
      refine lv_iload_n hx hb dX12_odds_68 rfl (lv_at hl 1 rfl) ?_
      obtain ⟨hg69, hf⟩ := mx_gd hf
      refine mx_iald C hM (xt_51 hT) (mx_in_vp hg69) dX12_odds_69 ?_
      refine lv_aload_n hx hb dX12_odds_70 rfl (lv_at hl 0 rfl) ?_
      refine gX12_28 C hM (xt_0 hT) (f := (2, 9)) rfl (v := .ref (E.2.1.2.1 9)) rfl dX12_odds_71 ?_
      refine gX12_189 C hT hM (xt_9 hT) (f := (2, 16)) rfl (v := .ref (E.2.1.2.1 16)) rfl dX12_odds_74 ?_
      refine lv_iload_n hx hb dX12_odds_77 rfl (lv_at hl 1 rfl) ?_
      obtain ⟨hg78, hf⟩ := mx_gd hf
      refine mx_iald C hM (xt_16 hT) (mx_in_vp hg78) dX12_odds_78 ?_
      refine lv_icmp_ne (tgt := 85) hx hb dX12_odds_79 (by decide) (fun hc79 => ?_) (fun hc79 => ?_)
      · replace hf := mx_iff hc79 hf
        refine lv_iinc (v := (i5 + (1 : Int32))) (lv' := [(5, .int (i5 + (1 : Int32))), (0, .ref (E.2.1.2.1 0)), (1, .int i1), (2, .int i2), (3, .int i3), (4, .int i4)]) hx hb dX12_odds_85 hl (k := 5) rfl rfl (by decide) rfl (fun ls hl => ?_)
        refine lv_goto (tgt := 30) hx hb dX12_odds_88 (by decide) ?_
        exact ih i4 (i5 + (1 : Int32)) q57.2 _ _ _ hf hM (lv_sub hl [1, 2, 3, 4, 5, 0] rfl)
      · replace hf := mx_ift hc79 hf
        refine lv_iinc (v := (i4 + (1 : Int32))) (lv' := [(4, .int (i4 + (1 : Int32))), (0, .ref (E.2.1.2.1 0)), (1, .int i1), (2, .int i2), (3, .int i3), (5, .int i5)]) hx hb dX12_odds_82 hl (k := 4) rfl rfl (by decide) rfl (fun ls hl => ?_)
        refine lv_iinc (v := (i5 + (1 : Int32))) (lv' := [(5, .int (i5 + (1 : Int32))), (4, .int (i4 + (1 : Int32))), (0, .ref (E.2.1.2.1 0)), (1, .int i1), (2, .int i2), (3, .int i3)]) hx hb dX12_odds_85 hl (k := 5) rfl rfl (by decide) rfl (fun ls hl => ?_)
        refine lv_goto (tgt := 30) hx hb dX12_odds_88 (by decide) ?_
        exact ih (i4 + (1 : Int32)) (i5 + (1 : Int32)) q57.2 _ _ _ hf hM (lv_sub hl [2, 3, 4, 5, 1, 0] rfl)
set_option maxRecDepth 100000 in
set_option maxHeartbeats 4000000 in
theorem kX12_odds {E : KE} {l : Launch} (hE : mx_ok E) (i1 : Int32) (i2 : Int32) (i3 : Int32) (hT : xOK E) (M : MM) {q : (Int32 × MM)} (hf : fX12_odds i1 i2 i3 M = some q) : mx_Met E l yX12_odds cX12_odds 6 (some .int) 6 [.ref (E.2.1.2.1 0), .int i1, .int i2, .int i3] M (some (.int q.1)) q.2 := by
  refine mx_enter hE (by decide) (Nat.le_of_ble_eq_true rfl) ?_
  intro p e s m below meth c C hM hn ls hl
  have hx := C.1.1
  have hb := C.1.2.1
  have hown := C.1.2.2.2.1
  have hts := C.1.2.2.2.2
  have hl : lv_has ls 6 [(0, .ref (E.2.1.2.1 0)), (1, .int i1), (2, .int i2), (3, .int i3)] := hl
  rw [fX12_odds] at hf
  refine lv_aload_n hx hb dX12_odds_0 rfl (lv_at hl 0 rfl) ?_
  refine gX12_28 C hM (xt_0 hT) (f := (2, 9)) rfl (v := .ref (E.2.1.2.1 9)) rfl dX12_odds_1 ?_
  refine lv_iload_n hx hb dX12_odds_4 rfl (lv_at hl 1 rfl) ?_
  obtain ⟨q5, hq5, hf⟩ := mx_bd hf
  refine mx_callVN C hM hl.1 yo_X3_isRing (h' := 0) (by decide) (nw_658 hT C) qw_660 qs_33 (ci := 3) (q := (RX3, TX3, 18)) rfl (xt_9 hT) (As := [.int i1]) (rest := []) (st1 := [.int (mx_b q5)]) (kX3_isRing C.2.2.2.1 i1 hT M hq5) rfl rfl rfl (Nat.le_of_ble_eq_true rfl) dX12_odds_5 (fun H locs hM => ?_)
  refine lv_if_eq (tgt := 22) hx hb dX12_odds_8 (by decide) (fun hc8 => ?_) (fun hc8 => ?_)
  · replace hf := mx_ift hc8 hf
    refine lv_iconst (v := (-1 : Int32)) hx hb dX12_odds_22 (by decide) ?_
    exact mx_iret C hM hf dX12_odds_23
  · replace hf := mx_iff hc8 hf
    refine lv_iload_n hx hb dX12_odds_11 rfl (lv_at hl 2 rfl) ?_
    refine lv_iconst (v := (1 : Int32)) hx hb dX12_odds_12 (by decide) ?_
    refine lv_icmp_lt (tgt := 22) hx hb dX12_odds_13 (by decide) (fun hc13 => ?_) (fun hc13 => ?_)
    · replace hf := mx_ift hc13 hf
      refine lv_iconst (v := (-1 : Int32)) hx hb dX12_odds_22 (by decide) ?_
      exact mx_iret C hM hf dX12_odds_23
    · replace hf := mx_iff hc13 hf
      refine lv_iload_n hx hb dX12_odds_16 rfl (lv_at hl 2 rfl) ?_
      refine lv_bipush (v := (30 : Int32)) hx hb dX12_odds_17 (by decide) ?_
      refine lv_icmp_le (tgt := 24) hx hb dX12_odds_19 (by decide) (fun hc19 => ?_) (fun hc19 => ?_)
      · replace hf := mx_ift hc19 hf
        refine lv_iconst (v := (0 : Int32)) hx hb dX12_odds_24 (by decide) ?_
        refine lv_istore (lv' := [(4, .int (0 : Int32)), (0, .ref (E.2.1.2.1 0)), (1, .int i1), (2, .int i2), (3, .int i3)]) hx hb dX12_odds_25 hl (by decide) rfl (fun ls hl => ?_)
        refine lv_iconst (v := (0 : Int32)) hx hb dX12_odds_27 (by decide) ?_
        refine lv_istore (lv' := [(5, .int (0 : Int32)), (4, .int (0 : Int32)), (0, .ref (E.2.1.2.1 0)), (1, .int i1), (2, .int i2), (3, .int i3)]) hx hb dX12_odds_28 hl (by decide) rfl (fun ls hl => ?_)
        exact wfX12_odds_30 C i1 i2 i3 hT mx_fu (0 : Int32) (0 : Int32) M _ _ _ hf hM (lv_sub hl [2, 3, 4, 5, 1, 0] rfl)
      · replace hf := mx_iff hc19 hf
        refine lv_iconst (v := (-1 : Int32)) hx hb dX12_odds_22 (by decide) ?_
        exact mx_iret C hM hf dX12_odds_23
theorem dX12_book_0 : decode cX12_book 0 = .ok (.iload_n 1, 1) := by decide +kernel
theorem dX12_book_1 : decode cX12_book 1 = .ok (.ifCond .eq 12, 3) := by decide +kernel
theorem dX12_book_4 : decode cX12_book 4 = .ok (.iload_n 1, 1) := by decide +kernel
theorem dX12_book_5 : decode cX12_book 5 = .ok (.iconst 1, 1) := by decide +kernel
theorem dX12_book_6 : decode cX12_book 6 = .ok (.if_icmp .eq 7, 3) := by decide +kernel
theorem dX12_book_9 : decode cX12_book 9 = .ok (.sipush (-1000), 3) := by decide +kernel
theorem dX12_book_12 : decode cX12_book 12 = .ok (.ireturn, 1) := by decide +kernel
theorem dX12_book_13 : decode cX12_book 13 = .ok (.aload_n 0, 1) := by decide +kernel
theorem dX12_book_14 : decode cX12_book 14 = .ok (.getfield 21, 3) := by decide +kernel
theorem dX12_book_17 : decode cX12_book 17 = .ok (.sipush 400, 3) := by decide +kernel
theorem dX12_book_20 : decode cX12_book 20 = .ok (.invokevirtual 127, 3) := by decide +kernel
theorem dX12_book_23 : decode cX12_book 23 = .ok (.aload_n 0, 1) := by decide +kernel
theorem dX12_book_24 : decode cX12_book 24 = .ok (.getfield 70, 3) := by decide +kernel
theorem dX12_book_27 : decode cX12_book 27 = .ok (.aload_n 0, 1) := by decide +kernel
theorem dX12_book_28 : decode cX12_book 28 = .ok (.getfield 21, 3) := by decide +kernel
theorem dX12_book_31 : decode cX12_book 31 = .ok (.aload_n 0, 1) := by decide +kernel
theorem dX12_book_32 : decode cX12_book 32 = .ok (.getfield 28, 3) := by decide +kernel
theorem dX12_book_35 : decode cX12_book 35 = .ok (.invokevirtual 330, 3) := by decide +kernel
theorem dX12_book_38 : decode cX12_book 38 = .ok (.istore_n 2, 1) := by decide +kernel
theorem dX12_book_39 : decode cX12_book 39 = .ok (.aload_n 0, 1) := by decide +kernel
theorem dX12_book_40 : decode cX12_book 40 = .ok (.getfield 10, 3) := by decide +kernel
theorem dX12_book_43 : decode cX12_book 43 = .ok (.invokevirtual 134, 3) := by decide +kernel
theorem dX12_book_46 : decode cX12_book 46 = .ok (.aload_n 0, 1) := by decide +kernel
theorem dX12_book_47 : decode cX12_book 47 = .ok (.aload_n 0, 1) := by decide +kernel
theorem dX12_book_48 : decode cX12_book 48 = .ok (.getfield 21, 3) := by decide +kernel
theorem dX12_book_51 : decode cX12_book 51 = .ok (.getfield 137, 3) := by decide +kernel
theorem dX12_book_54 : decode cX12_book 54 = .ok (.putfield 140, 3) := by decide +kernel
theorem dX12_book_57 : decode cX12_book 57 = .ok (.iload_n 2, 1) := by decide +kernel
theorem dX12_book_58 : decode cX12_book 58 = .ok (.ifCond .ne 14, 3) := by decide +kernel
theorem dX12_book_61 : decode cX12_book 61 = .ok (.bipush (-2), 2) := by decide +kernel
theorem dX12_book_63 : decode cX12_book 63 = .ok (.aload_n 0, 1) := by decide +kernel
theorem dX12_book_64 : decode cX12_book 64 = .ok (.getfield 21, 3) := by decide +kernel
theorem dX12_book_67 : decode cX12_book 67 = .ok (.getfield 141, 3) := by decide +kernel
theorem dX12_book_70 : decode cX12_book 70 = .ok (.isub, 1) := by decide +kernel
theorem dX12_book_71 : decode cX12_book 71 = .ok (.ireturn, 1) := by decide +kernel
theorem dX12_book_72 : decode cX12_book 72 = .ok (.aload_n 0, 1) := by decide +kernel
theorem dX12_book_73 : decode cX12_book 73 = .ok (.getfield 47, 3) := by decide +kernel
theorem dX12_book_76 : decode cX12_book 76 = .ok (.aload_n 0, 1) := by decide +kernel
theorem dX12_book_77 : decode cX12_book 77 = .ok (.getfield 40, 3) := by decide +kernel
theorem dX12_book_80 : decode cX12_book 80 = .ok (.invokevirtual 233, 3) := by decide +kernel
theorem dX12_book_83 : decode cX12_book 83 = .ok (.aload_n 0, 1) := by decide +kernel
theorem dX12_book_84 : decode cX12_book 84 = .ok (.getfield 70, 3) := by decide +kernel
theorem dX12_book_87 : decode cX12_book 87 = .ok (.aload_n 0, 1) := by decide +kernel
theorem dX12_book_88 : decode cX12_book 88 = .ok (.getfield 47, 3) := by decide +kernel
theorem dX12_book_91 : decode cX12_book 91 = .ok (.invokevirtual 333, 3) := by decide +kernel
theorem dX12_book_94 : decode cX12_book 94 = .ok (.istore_n 3, 1) := by decide +kernel
theorem dX12_book_95 : decode cX12_book 95 = .ok (.iload_n 1, 1) := by decide +kernel
theorem dX12_book_96 : decode cX12_book 96 = .ok (.iconst 1, 1) := by decide +kernel
theorem dX12_book_97 : decode cX12_book 97 = .ok (.if_icmp .ne 35, 3) := by decide +kernel
theorem dX12_book_100 : decode cX12_book 100 = .ok (.aload_n 0, 1) := by decide +kernel
theorem dX12_book_101 : decode cX12_book 101 = .ok (.getfield 70, 3) := by decide +kernel
theorem dX12_book_104 : decode cX12_book 104 = .ok (.getfield 336, 3) := by decide +kernel
theorem dX12_book_107 : decode cX12_book 107 = .ok (.ifCond .le 25, 3) := by decide +kernel
theorem dX12_book_110 : decode cX12_book 110 = .ok (.aload_n 0, 1) := by decide +kernel
theorem dX12_book_111 : decode cX12_book 111 = .ok (.getfield 53, 3) := by decide +kernel
theorem dX12_book_114 : decode cX12_book 114 = .ok (.aload_n 0, 1) := by decide +kernel
theorem dX12_book_115 : decode cX12_book 115 = .ok (.getfield 40, 3) := by decide +kernel
theorem dX12_book_118 : decode cX12_book 118 = .ok (.invokevirtual 339, 3) := by decide +kernel
theorem dX12_book_121 : decode cX12_book 121 = .ok (.aload_n 0, 1) := by decide +kernel
theorem dX12_book_122 : decode cX12_book 122 = .ok (.getfield 40, 3) := by decide +kernel
theorem dX12_book_125 : decode cX12_book 125 = .ok (.aload_n 0, 1) := by decide +kernel
theorem dX12_book_126 : decode cX12_book 126 = .ok (.getfield 47, 3) := by decide +kernel
theorem dX12_book_129 : decode cX12_book 129 = .ok (.invokevirtual 233, 3) := by decide +kernel
theorem dX12_book_132 : decode cX12_book 132 = .ok (.iload_n 3, 1) := by decide +kernel
theorem dX12_book_133 : decode cX12_book 133 = .ok (.ireturn, 1) := by decide +kernel
set_option maxRecDepth 100000 in
set_option maxHeartbeats 4000000 in
theorem wfX12_book_13 {E : KE} {p : Program} {l : Launch} {e : Env} {s : State} {m : MethodId} {args : Array Value} {below : List Frame} {meth : Method} {c : Code} {q : (Int32 × MM)} (C : mx_C E p m c cX12_book 4 s args RX12 meth (some .int)) (i1 : Int32) (hT : xOK E)   : ∀ (M : MM) (H : Heap) (locs : List Loc) (ls : Array Slot), fX12_book_13 i1 M = some q → mx_H E s M H locs → lv_has ls 4 [(0, .ref (E.2.1.2.1 0)), (1, .int i1)] → W p l e (mx_rm 7) s m args below meth c H locs 0 0 (mx_Z E below args s (some (.int q.1)) q.2) (F0 m 13 ls []) := by
  have hx := C.1.1
  have hb := C.1.2.1
  have hown := C.1.2.2.2.1
  have hts := C.1.2.2.2.2
  intro M H locs ls hf hM hl
  rw [fX12_book_13] at hf
  refine lv_aload_n hx hb dX12_book_13 rfl (lv_at hl 0 rfl) ?_
  refine gX12_21 C hM (xt_0 hT) (f := (2, 3)) rfl (v := .ref (E.2.1.2.1 3)) rfl dX12_book_14 ?_
  refine lv_sipush (v := (400 : Int32)) hx hb dX12_book_17 (by decide) ?_
  obtain ⟨q20, hq20, hf⟩ := mx_bd hf
  refine mx_callVN C hM hl.1 yo_X7_open (h' := 3) (by decide) (nw_498 hT C) qw_500 qs_3 (ci := 7) (q := (RX7, TX7, 12)) rfl (xt_3 hT) (As := [.int (400 : Int32)]) (rest := []) (st1 := []) (kX7_open C.2.2.2.1 (400 : Int32) hT M hq20) rfl rfl rfl (Nat.le_of_ble_eq_true rfl) dX12_book_20 (fun H locs hM => ?_)
  refine lv_aload_n hx hb dX12_book_23 rfl (lv_at hl 0 rfl) ?_
  refine gX12_70 C hM (xt_0 hT) (f := (2, 138)) rfl (v := .ref (E.2.1.2.1 138)) rfl dX12_book_24 ?_
  refine lv_aload_n hx hb dX12_book_27 rfl (lv_at hl 0 rfl) ?_
  refine gX12_21 C hM (xt_0 hT) (f := (2, 3)) rfl (v := .ref (E.2.1.2.1 3)) rfl dX12_book_28 ?_
  refine lv_aload_n hx hb dX12_book_31 rfl (lv_at hl 0 rfl) ?_
  refine gX12_28 C hM (xt_0 hT) (f := (2, 9)) rfl (v := .ref (E.2.1.2.1 9)) rfl dX12_book_32 ?_
  obtain ⟨q35, hq35, hf⟩ := mx_bd hf
  refine mx_callVN C hM hl.1 yo_X1_readFrom (h' := 4) (by decide) (nw_1088 hT C) qw_1090 qs_85 (ci := 1) (q := (RX1, TX1, 10)) rfl (xt_138 hT) (As := [.ref (E.2.1.2.1 3), .ref (E.2.1.2.1 9)]) (rest := []) (st1 := [.int (mx_b q35.1)]) (kX1_readFrom C.2.2.2.1 hT q20 hq35) rfl rfl rfl (Nat.le_of_ble_eq_true rfl) dX12_book_35 (fun H locs hM => ?_)
  refine lv_istore_n (lv' := [(2, .int (mx_b q35.1)), (0, .ref (E.2.1.2.1 0)), (1, .int i1)]) hx hb dX12_book_38 rfl hl (by decide) rfl (fun ls hl => ?_)
  refine lv_aload_n hx hb dX12_book_39 rfl (lv_at hl 1 rfl) ?_
  refine gX12_10 C hM (xt_0 hT) (f := (2, 1)) rfl (v := .ref (E.2.1.2.1 1)) rfl dX12_book_40 ?_
  obtain ⟨q43, hq43, hf⟩ := mx_bd hf
  refine mx_callVN C hM hl.1 yo_X10_clear (h' := 0) (by decide) (nw_623 hT C) qw_625 qs_27 (ci := 10) (q := (RX10, TX10, 2)) rfl (xt_1 hT) (As := []) (rest := []) (st1 := []) (kX10_clear C.2.2.2.1 hT q35.2 hq43) rfl rfl rfl (Nat.le_of_ble_eq_true rfl) dX12_book_43 (fun H locs hM => ?_)
  refine lv_aload_n hx hb dX12_book_46 rfl (lv_at hl 1 rfl) ?_
  refine lv_aload_n hx hb dX12_book_47 rfl (lv_at hl 1 rfl) ?_
  refine gX12_21 C hM (xt_0 hT) (f := (2, 3)) rfl (v := .ref (E.2.1.2.1 3)) rfl dX12_book_48 ?_
  refine gX12_137 C hT hM (xt_3 hT) (f := (0, 0)) rfl (v := .int (q43.1 3 10)) rfl dX12_book_51 ?_
  refine pX12_140 C hM (xt_0 hT) rfl rfl rfl dX12_book_54 (fun H locs hM => ?_)
  refine lv_iload_n hx hb dX12_book_57 rfl (lv_at hl 0 rfl) ?_
  refine lv_if_ne (tgt := 72) hx hb dX12_book_58 (by decide) (fun hc58 => ?_) (fun hc58 => ?_)
  · replace hf := mx_iff hc58 hf
    refine lv_aload_n hx hb dX12_book_72 rfl (lv_at hl 1 rfl) ?_
    refine gX12_47 C hM (xt_0 hT) (f := (2, 47)) rfl (v := .ref (E.2.1.2.1 47)) rfl dX12_book_73 ?_
    refine lv_aload_n hx hb dX12_book_76 rfl (lv_at hl 1 rfl) ?_
    refine gX12_40 C hM (xt_0 hT) (f := (2, 29)) rfl (v := .ref (E.2.1.2.1 29)) rfl dX12_book_77 ?_
    obtain ⟨q80, hq80, hf⟩ := mx_bd hf
    refine mx_callVN C hM hl.1 yo_X9_copyFrom (h' := 1) (by decide) (nw_693 hT C) qw_695 qs_39 (ci := 9) (q := (RX9, TX9, 13)) rfl (xt_47 hT) (As := [.ref (E.2.1.2.1 29)]) (rest := []) (st1 := []) (kX9_copyFrom C.2.2.2.1 47 29 hT xiS_47 xiS_29 (mx_si q43 0 18 (q43.1 3 10)) hq80) rfl rfl rfl (Nat.le_of_ble_eq_true rfl) dX12_book_80 (fun H locs hM => ?_)
    refine lv_aload_n hx hb dX12_book_83 rfl (lv_at hl 1 rfl) ?_
    refine gX12_70 C hM (xt_0 hT) (f := (2, 138)) rfl (v := .ref (E.2.1.2.1 138)) rfl dX12_book_84 ?_
    refine lv_aload_n hx hb dX12_book_87 rfl (lv_at hl 1 rfl) ?_
    refine gX12_47 C hM (xt_0 hT) (f := (2, 47)) rfl (v := .ref (E.2.1.2.1 47)) rfl dX12_book_88 ?_
    obtain ⟨q91, hq91, hf⟩ := mx_bd hf
    refine mx_callVN C hM hl.1 yo_X1_judge (h' := 6) (by decide) (nw_1130 hT C) qw_1132 qs_92 (ci := 1) (q := (RX1, TX1, 10)) rfl (xt_138 hT) (As := [.ref (E.2.1.2.1 47)]) (rest := []) (st1 := [.int q91.1]) (kX1_judge C.2.2.2.1 hT q80 hq91) rfl rfl rfl (Nat.le_of_ble_eq_true rfl) dX12_book_91 (fun H locs hM => ?_)
    refine lv_istore_n (lv' := [(3, .int q91.1), (2, .int (mx_b q35.1)), (0, .ref (E.2.1.2.1 0)), (1, .int i1)]) hx hb dX12_book_94 rfl hl (by decide) rfl (fun ls hl => ?_)
    refine lv_iload_n hx hb dX12_book_95 rfl (lv_at hl 3 rfl) ?_
    refine lv_iconst (v := (1 : Int32)) hx hb dX12_book_96 (by decide) ?_
    refine lv_icmp_ne (tgt := 132) hx hb dX12_book_97 (by decide) (fun hc97 => ?_) (fun hc97 => ?_)
    · replace hf := mx_iff hc97 hf
      refine lv_iload_n hx hb dX12_book_132 rfl (lv_at hl 0 rfl) ?_
      exact mx_iret C hM hf dX12_book_133
    · replace hf := mx_ift hc97 hf
      refine lv_aload_n hx hb dX12_book_100 rfl (lv_at hl 2 rfl) ?_
      refine gX12_70 C hM (xt_0 hT) (f := (2, 138)) rfl (v := .ref (E.2.1.2.1 138)) rfl dX12_book_101 ?_
      refine gX12_336 C hT hM (xt_138 hT) (f := (0, 0)) rfl (v := .int (q91.2.1 138 7)) rfl dX12_book_104 ?_
      refine lv_if_le (tgt := 132) hx hb dX12_book_107 (by decide) (fun hc107 => ?_) (fun hc107 => ?_)
      · replace hf := mx_ift hc107 hf
        refine lv_iload_n hx hb dX12_book_132 rfl (lv_at hl 0 rfl) ?_
        exact mx_iret C hM hf dX12_book_133
      · replace hf := mx_iff hc107 hf
        refine lv_aload_n hx hb dX12_book_110 rfl (lv_at hl 2 rfl) ?_
        refine gX12_53 C hM (xt_0 hT) (f := (2, 56)) rfl (v := .ref (E.2.1.2.1 56)) rfl dX12_book_111 ?_
        refine lv_aload_n hx hb dX12_book_114 rfl (lv_at hl 2 rfl) ?_
        refine gX12_40 C hM (xt_0 hT) (f := (2, 29)) rfl (v := .ref (E.2.1.2.1 29)) rfl dX12_book_115 ?_
        obtain ⟨q118, hq118, hf⟩ := mx_bd hf
        refine mx_callVN C hM hl.1 yo_X5_push (h' := 2) (by decide) (nw_713 hT C) qw_715 qs_43 (ci := 5) (q := (RX5, TX5, 2)) rfl (xt_56 hT) (As := [.ref (E.2.1.2.1 29)]) (rest := []) (st1 := []) (kX5_push C.2.2.2.1 29 hT xiS_29 q91.2 hq118) rfl rfl rfl (Nat.le_of_ble_eq_true rfl) dX12_book_118 (fun H locs hM => ?_)
        refine lv_aload_n hx hb dX12_book_121 rfl (lv_at hl 2 rfl) ?_
        refine gX12_40 C hM (xt_0 hT) (f := (2, 29)) rfl (v := .ref (E.2.1.2.1 29)) rfl dX12_book_122 ?_
        refine lv_aload_n hx hb dX12_book_125 rfl (lv_at hl 2 rfl) ?_
        refine gX12_47 C hM (xt_0 hT) (f := (2, 47)) rfl (v := .ref (E.2.1.2.1 47)) rfl dX12_book_126 ?_
        obtain ⟨q129, hq129, hf⟩ := mx_bd hf
        refine mx_callVN C hM hl.1 yo_X9_copyFrom (h' := 1) (by decide) (nw_693 hT C) qw_695 qs_39 (ci := 9) (q := (RX9, TX9, 13)) rfl (xt_29 hT) (As := [.ref (E.2.1.2.1 47)]) (rest := []) (st1 := []) (kX9_copyFrom C.2.2.2.1 29 47 hT xiS_29 xiS_47 q118 hq129) rfl rfl rfl (Nat.le_of_ble_eq_true rfl) dX12_book_129 (fun H locs hM => ?_)
        refine lv_iload_n hx hb dX12_book_132 rfl (lv_at hl 0 rfl) ?_
        exact mx_iret C hM hf dX12_book_133
  · replace hf := mx_ift hc58 hf
    refine lv_bipush (v := (-2 : Int32)) hx hb dX12_book_61 (by decide) ?_
    refine lv_aload_n hx hb dX12_book_63 rfl (lv_at hl 1 rfl) ?_
    refine gX12_21 C hM (xt_0 hT) (f := (2, 3)) rfl (v := .ref (E.2.1.2.1 3)) rfl dX12_book_64 ?_
    refine gX12_141 C hT hM (xt_3 hT) (f := (0, 0)) rfl (v := .int ((mx_si q43 0 18 (q43.1 3 10)).1 3 11)) rfl dX12_book_67 ?_
    refine lv_isub hx hb dX12_book_70 ?_
    exact mx_iret C hM hf dX12_book_71
set_option maxRecDepth 100000 in
set_option maxHeartbeats 4000000 in
theorem kX12_book {E : KE} {l : Launch} (hE : mx_ok E) (i1 : Int32) (hT : xOK E) (M : MM) {q : (Int32 × MM)} (hf : fX12_book i1 M = some q) : mx_Met E l yX12_book cX12_book 4 (some .int) 7 [.ref (E.2.1.2.1 0), .int i1] M (some (.int q.1)) q.2 := by
  refine mx_enter hE (by decide) (Nat.le_of_ble_eq_true rfl) ?_
  intro p e s m below meth c C hM hn ls hl
  have hx := C.1.1
  have hb := C.1.2.1
  have hown := C.1.2.2.2.1
  have hts := C.1.2.2.2.2
  have hl : lv_has ls 4 [(0, .ref (E.2.1.2.1 0)), (1, .int i1)] := hl
  rw [fX12_book] at hf
  refine lv_iload_n hx hb dX12_book_0 rfl (lv_at hl 1 rfl) ?_
  refine lv_if_eq (tgt := 13) hx hb dX12_book_1 (by decide) (fun hc1 => ?_) (fun hc1 => ?_)
  · replace hf := mx_ift hc1 hf
    exact wfX12_book_13 C i1 hT M _ _ _ hf hM (lv_sub hl [0, 1] rfl)
  · replace hf := mx_iff hc1 hf
    refine lv_iload_n hx hb dX12_book_4 rfl (lv_at hl 1 rfl) ?_
    refine lv_iconst (v := (1 : Int32)) hx hb dX12_book_5 (by decide) ?_
    refine lv_icmp_eq (tgt := 13) hx hb dX12_book_6 (by decide) (fun hc6 => ?_) (fun hc6 => ?_)
    · replace hf := mx_ift hc6 hf
      exact wfX12_book_13 C i1 hT M _ _ _ hf hM (lv_sub hl [0, 1] rfl)
    · replace hf := mx_iff hc6 hf
      refine lv_sipush (v := (-1000 : Int32)) hx hb dX12_book_9 (by decide) ?_
      exact mx_iret C hM hf dX12_book_12
theorem dX12_told_0 : decode cX12_told 0 = .ok (.aload_n 0, 1) := by decide +kernel
theorem dX12_told_1 : decode cX12_told 1 = .ok (.getfield 70, 3) := by decide +kernel
theorem dX12_told_4 : decode cX12_told 4 = .ok (.getfield 342, 3) := by decide +kernel
theorem dX12_told_7 : decode cX12_told 7 = .ok (.ifCond .ne 5, 3) := by decide +kernel
theorem dX12_told_10 : decode cX12_told 10 = .ok (.iconst (-1), 1) := by decide +kernel
theorem dX12_told_11 : decode cX12_told 11 = .ok (.ireturn, 1) := by decide +kernel
theorem dX12_told_12 : decode cX12_told 12 = .ok (.iload_n 1, 1) := by decide +kernel
theorem dX12_told_13 : decode cX12_told 13 = .ok (.tableswitch 63 0 3 #[31, 39, 47, 55], 31) := by decide +kernel
theorem dX12_told_44 : decode cX12_told 44 = .ok (.aload_n 0, 1) := by decide +kernel
theorem dX12_told_45 : decode cX12_told 45 = .ok (.getfield 70, 3) := by decide +kernel
theorem dX12_told_48 : decode cX12_told 48 = .ok (.getfield 346, 3) := by decide +kernel
theorem dX12_told_51 : decode cX12_told 51 = .ok (.ireturn, 1) := by decide +kernel
theorem dX12_told_52 : decode cX12_told 52 = .ok (.aload_n 0, 1) := by decide +kernel
theorem dX12_told_53 : decode cX12_told 53 = .ok (.getfield 70, 3) := by decide +kernel
theorem dX12_told_56 : decode cX12_told 56 = .ok (.getfield 336, 3) := by decide +kernel
theorem dX12_told_59 : decode cX12_told 59 = .ok (.ireturn, 1) := by decide +kernel
theorem dX12_told_60 : decode cX12_told 60 = .ok (.aload_n 0, 1) := by decide +kernel
theorem dX12_told_61 : decode cX12_told 61 = .ok (.getfield 70, 3) := by decide +kernel
theorem dX12_told_64 : decode cX12_told 64 = .ok (.getfield 349, 3) := by decide +kernel
theorem dX12_told_67 : decode cX12_told 67 = .ok (.ireturn, 1) := by decide +kernel
theorem dX12_told_68 : decode cX12_told 68 = .ok (.aload_n 0, 1) := by decide +kernel
theorem dX12_told_69 : decode cX12_told 69 = .ok (.getfield 70, 3) := by decide +kernel
theorem dX12_told_72 : decode cX12_told 72 = .ok (.getfield 352, 3) := by decide +kernel
theorem dX12_told_75 : decode cX12_told 75 = .ok (.ireturn, 1) := by decide +kernel
theorem dX12_told_76 : decode cX12_told 76 = .ok (.iconst (-1), 1) := by decide +kernel
theorem dX12_told_77 : decode cX12_told 77 = .ok (.ireturn, 1) := by decide +kernel
set_option maxRecDepth 100000 in
set_option maxHeartbeats 4000000 in
theorem kX12_told {E : KE} {l : Launch} (hE : mx_ok E) (i1 : Int32) (hT : xOK E) (M : MM) {q : Int32} (hf : fX12_told i1 M = some q) : mx_Met E l yX12_told cX12_told 2 (some .int) 0 [.ref (E.2.1.2.1 0), .int i1] M (some (.int q)) M := by
  refine mx_enter hE (by decide) (Nat.le_of_ble_eq_true rfl) ?_
  intro p e s m below meth c C hM hn ls hl
  have hx := C.1.1
  have hb := C.1.2.1
  have hown := C.1.2.2.2.1
  have hts := C.1.2.2.2.2
  have hl : lv_has ls 2 [(0, .ref (E.2.1.2.1 0)), (1, .int i1)] := hl
  rw [fX12_told] at hf
  refine lv_aload_n hx hb dX12_told_0 rfl (lv_at hl 0 rfl) ?_
  refine gX12_70 C hM (xt_0 hT) (f := (2, 138)) rfl (v := .ref (E.2.1.2.1 138)) rfl dX12_told_1 ?_
  refine gX12_342 C hT hM (xt_138 hT) (f := (0, 0)) rfl (v := .int (M.1 138 5)) rfl dX12_told_4 ?_
  refine lv_if_ne (tgt := 12) hx hb dX12_told_7 (by decide) (fun hc7 => ?_) (fun hc7 => ?_)
  · replace hf := mx_iff hc7 hf
    refine lv_iload_n hx hb dX12_told_12 rfl (lv_at hl 1 rfl) ?_
    by_cases hs0 : i1 = 0
    · replace hf := mx_ift hs0 hf
      refine lv_tableIn (tgt := 44) hx hb dX12_told_13 (by rw [hs0]; decide) (by rw [hs0]; decide) (by rw [hs0]; rfl) (by decide) ?_
      refine lv_aload_n hx hb dX12_told_44 rfl (lv_at hl 0 rfl) ?_
      refine gX12_70 C hM (xt_0 hT) (f := (2, 138)) rfl (v := .ref (E.2.1.2.1 138)) rfl dX12_told_45 ?_
      refine gX12_346 C hT hM (xt_138 hT) (f := (0, 0)) rfl (v := .int (M.1 138 6)) rfl dX12_told_48 ?_
      exact mx_iretR C hM hf dX12_told_51
    replace hf := mx_iff hs0 hf
    by_cases hs1 : i1 = 1
    · replace hf := mx_ift hs1 hf
      refine lv_tableIn (tgt := 52) hx hb dX12_told_13 (by rw [hs1]; decide) (by rw [hs1]; decide) (by rw [hs1]; rfl) (by decide) ?_
      refine lv_aload_n hx hb dX12_told_52 rfl (lv_at hl 0 rfl) ?_
      refine gX12_70 C hM (xt_0 hT) (f := (2, 138)) rfl (v := .ref (E.2.1.2.1 138)) rfl dX12_told_53 ?_
      refine gX12_336 C hT hM (xt_138 hT) (f := (0, 0)) rfl (v := .int (M.1 138 7)) rfl dX12_told_56 ?_
      exact mx_iretR C hM hf dX12_told_59
    replace hf := mx_iff hs1 hf
    by_cases hs2 : i1 = 2
    · replace hf := mx_ift hs2 hf
      refine lv_tableIn (tgt := 60) hx hb dX12_told_13 (by rw [hs2]; decide) (by rw [hs2]; decide) (by rw [hs2]; rfl) (by decide) ?_
      refine lv_aload_n hx hb dX12_told_60 rfl (lv_at hl 0 rfl) ?_
      refine gX12_70 C hM (xt_0 hT) (f := (2, 138)) rfl (v := .ref (E.2.1.2.1 138)) rfl dX12_told_61 ?_
      refine gX12_349 C hT hM (xt_138 hT) (f := (0, 0)) rfl (v := .int (M.1 138 8)) rfl dX12_told_64 ?_
      exact mx_iretR C hM hf dX12_told_67
    replace hf := mx_iff hs2 hf
    by_cases hs3 : i1 = 3
    · replace hf := mx_ift hs3 hf
      refine lv_tableIn (tgt := 68) hx hb dX12_told_13 (by rw [hs3]; decide) (by rw [hs3]; decide) (by rw [hs3]; rfl) (by decide) ?_
      refine lv_aload_n hx hb dX12_told_68 rfl (lv_at hl 0 rfl) ?_
      refine gX12_70 C hM (xt_0 hT) (f := (2, 138)) rfl (v := .ref (E.2.1.2.1 138)) rfl dX12_told_69 ?_
      refine gX12_352 C hT hM (xt_138 hT) (f := (0, 0)) rfl (v := .int (M.1 138 9)) rfl dX12_told_72 ?_
      exact mx_iretR C hM hf dX12_told_75
    replace hf := mx_iff hs3 hf
    refine lv_tableOut (tgt := 76) hx hb dX12_told_13 (by have hh := And.intro trivial trivial; have hh0 := lv_neT hs0 (by decide : (0 : Int32).toInt = 0); have hh1 := lv_neT hs1 (by decide : (1 : Int32).toInt = 1); have hh2 := lv_neT hs2 (by decide : (2 : Int32).toInt = 2); have hh3 := lv_neT hs3 (by decide : (3 : Int32).toInt = 3); omega) (by decide) ?_
    refine lv_iconst (v := (-1 : Int32)) hx hb dX12_told_76 (by decide) ?_
    exact mx_iretR C hM hf dX12_told_77
  · replace hf := mx_ift hc7 hf
    refine lv_iconst (v := (-1 : Int32)) hx hb dX12_told_10 (by decide) ?_
    exact mx_iretR C hM hf dX12_told_11
theorem dX12_said_0 : decode cX12_said 0 = .ok (.aload_n 0, 1) := by decide +kernel
theorem dX12_said_1 : decode cX12_said 1 = .ok (.getfield 60, 3) := by decide +kernel
theorem dX12_said_4 : decode cX12_said 4 = .ok (.getfield 359, 3) := by decide +kernel
theorem dX12_said_7 : decode cX12_said 7 = .ok (.ifCond .eq 8, 3) := by decide +kernel
theorem dX12_said_10 : decode cX12_said 10 = .ok (.iload_n 1, 1) := by decide +kernel
theorem dX12_said_11 : decode cX12_said 11 = .ok (.iconst (-1), 1) := by decide +kernel
theorem dX12_said_12 : decode cX12_said 12 = .ok (.if_icmp .ge 5, 3) := by decide +kernel
theorem dX12_said_15 : decode cX12_said 15 = .ok (.iconst (-1), 1) := by decide +kernel
theorem dX12_said_16 : decode cX12_said 16 = .ok (.ireturn, 1) := by decide +kernel
theorem dX12_said_17 : decode cX12_said 17 = .ok (.iconst 0, 1) := by decide +kernel
theorem dX12_said_18 : decode cX12_said 18 = .ok (.istore_n 2, 1) := by decide +kernel
theorem dX12_said_19 : decode cX12_said 19 = .ok (.iconst 0, 1) := by decide +kernel
theorem dX12_said_20 : decode cX12_said 20 = .ok (.istore_n 3, 1) := by decide +kernel
theorem dX12_said_21 : decode cX12_said 21 = .ok (.iload_n 3, 1) := by decide +kernel
theorem dX12_said_22 : decode cX12_said 22 = .ok (.aload_n 0, 1) := by decide +kernel
theorem dX12_said_23 : decode cX12_said 23 = .ok (.getfield 28, 3) := by decide +kernel
theorem dX12_said_26 : decode cX12_said 26 = .ok (.getfield 362, 3) := by decide +kernel
theorem dX12_said_29 : decode cX12_said 29 = .ok (.if_icmp .ge 34, 3) := by decide +kernel
theorem dX12_said_32 : decode cX12_said 32 = .ok (.aload_n 0, 1) := by decide +kernel
theorem dX12_said_33 : decode cX12_said 33 = .ok (.getfield 60, 3) := by decide +kernel
theorem dX12_said_36 : decode cX12_said 36 = .ok (.aload_n 0, 1) := by decide +kernel
theorem dX12_said_37 : decode cX12_said 37 = .ok (.getfield 40, 3) := by decide +kernel
theorem dX12_said_40 : decode cX12_said 40 = .ok (.iload_n 3, 1) := by decide +kernel
theorem dX12_said_41 : decode cX12_said 41 = .ok (.invokevirtual 365, 3) := by decide +kernel
theorem dX12_said_44 : decode cX12_said 44 = .ok (.ifCond .eq 13, 3) := by decide +kernel
theorem dX12_said_47 : decode cX12_said 47 = .ok (.iload_n 2, 1) := by decide +kernel
theorem dX12_said_48 : decode cX12_said 48 = .ok (.iload_n 1, 1) := by decide +kernel
theorem dX12_said_49 : decode cX12_said 49 = .ok (.if_icmp .ne 5, 3) := by decide +kernel
theorem dX12_said_52 : decode cX12_said 52 = .ok (.iload_n 3, 1) := by decide +kernel
theorem dX12_said_53 : decode cX12_said 53 = .ok (.ireturn, 1) := by decide +kernel
theorem dX12_said_54 : decode cX12_said 54 = .ok (.iinc 2 1, 3) := by decide +kernel
theorem dX12_said_57 : decode cX12_said 57 = .ok (.iinc 3 1, 3) := by decide +kernel
theorem dX12_said_60 : decode cX12_said 60 = .ok (.goto (-39), 3) := by decide +kernel
theorem dX12_said_63 : decode cX12_said 63 = .ok (.iload_n 1, 1) := by decide +kernel
theorem dX12_said_64 : decode cX12_said 64 = .ok (.iconst (-1), 1) := by decide +kernel
theorem dX12_said_65 : decode cX12_said 65 = .ok (.if_icmp .ne 7, 3) := by decide +kernel
theorem dX12_said_68 : decode cX12_said 68 = .ok (.iload_n 2, 1) := by decide +kernel
theorem dX12_said_69 : decode cX12_said 69 = .ok (.goto 4, 3) := by decide +kernel
theorem dX12_said_72 : decode cX12_said 72 = .ok (.iconst (-1), 1) := by decide +kernel
theorem dX12_said_73 : decode cX12_said 73 = .ok (.ireturn, 1) := by decide +kernel
set_option maxRecDepth 100000 in
set_option maxHeartbeats 4000000 in
theorem wfX12_said_21 {E : KE} {p : Program} {l : Launch} {e : Env} {s : State} {m : MethodId} {args : Array Value} {below : List Frame} {meth : Method} {c : Code} {q : Int32} (C : mx_C E p m c cX12_said 4 s args RX12 meth (some .int)) (i1 : Int32) (M : MM) (hT : xOK E)   : ∀ (n : Nat) (i2 : Int32) (i3 : Int32) (H : Heap) (locs : List Loc) (ls : Array Slot), fX12_said_21 i1 M n i2 i3 = some q → mx_H E s M H locs → lv_has ls 4 [(0, .ref (E.2.1.2.1 0)), (1, .int i1), (2, .int i2), (3, .int i3)] → W p l e (mx_rm 5) s m args below meth c H locs 0 0 (mx_Z E below args s (some (.int q)) M) (F0 m 21 ls []) := by
  have hx := C.1.1
  have hb := C.1.2.1
  have hown := C.1.2.2.2.1
  have hts := C.1.2.2.2.2
  intro n
  induction n with
  | zero =>
    intro i2 i3 H locs ls hf hM hl
    rw [fX12_said_21] at hf
    cases hf
  | succ n ih =>
    intro i2 i3 H locs ls hf hM hl
    rw [fX12_said_21] at hf
    refine lv_iload_n hx hb dX12_said_21 rfl (lv_at hl 3 rfl) ?_
    refine lv_aload_n hx hb dX12_said_22 rfl (lv_at hl 0 rfl) ?_
    refine gX12_28 C hM (xt_0 hT) (f := (2, 9)) rfl (v := .ref (E.2.1.2.1 9)) rfl dX12_said_23 ?_
    refine gX12_362 C hT hM (xt_9 hT) (f := (0, 0)) rfl (v := .int (M.1 9 0)) rfl dX12_said_26 ?_
    refine lv_icmp_ge (tgt := 63) hx hb dX12_said_29 (by decide) (fun hc29 => ?_) (fun hc29 => ?_)
    · replace hf := mx_ift hc29 hf
      refine lv_iload_n hx hb dX12_said_63 rfl (lv_at hl 1 rfl) ?_
      refine lv_iconst (v := (-1 : Int32)) hx hb dX12_said_64 (by decide) ?_
      refine lv_icmp_ne (tgt := 72) hx hb dX12_said_65 (by decide) (fun hc65 => ?_) (fun hc65 => ?_)
      · replace hf := mx_iff hc65 hf
        refine lv_iconst (v := (-1 : Int32)) hx hb dX12_said_72 (by decide) ?_
        exact mx_iretR C hM hf dX12_said_73
      · replace hf := mx_ift hc65 hf
        refine lv_iload_n hx hb dX12_said_68 rfl (lv_at hl 2 rfl) ?_
        refine lv_goto (tgt := 73) hx hb dX12_said_69 (by decide) ?_
        exact mx_iretR C hM hf dX12_said_73
    · replace hf := mx_iff hc29 hf
      refine lv_aload_n hx hb dX12_said_32 rfl (lv_at hl 0 rfl) ?_
      refine gX12_60 C hM (xt_0 hT) (f := (2, 130)) rfl (v := .ref (E.2.1.2.1 130)) rfl dX12_said_33 ?_
      refine lv_aload_n hx hb dX12_said_36 rfl (lv_at hl 0 rfl) ?_
      refine gX12_40 C hM (xt_0 hT) (f := (2, 29)) rfl (v := .ref (E.2.1.2.1 29)) rfl dX12_said_37 ?_
      refine lv_iload_n hx hb dX12_said_40 rfl (lv_at hl 3 rfl) ?_
      obtain ⟨q41, hq41, hf⟩ := mx_bd hf
      refine mx_callVN C hM hl.1 yo_X8_holdsOf (h' := 4) (by decide) (nw_1219 hT C) qw_1221 qs_102 (ci := 8) (q := (RX8, TX8, 5)) rfl (xt_130 hT) (As := [.ref (E.2.1.2.1 29), .int i3]) (rest := []) (st1 := [.int (mx_b q41)]) (kX8_holdsOf C.2.2.2.1 i3 hT M hq41) rfl rfl rfl (Nat.le_of_ble_eq_true rfl) dX12_said_41 (fun H locs hM => ?_)
      refine lv_if_eq (tgt := 57) hx hb dX12_said_44 (by decide) (fun hc44 => ?_) (fun hc44 => ?_)
      · replace hf := mx_ift hc44 hf
        refine lv_iinc (v := (i3 + (1 : Int32))) (lv' := [(3, .int (i3 + (1 : Int32))), (0, .ref (E.2.1.2.1 0)), (1, .int i1), (2, .int i2)]) hx hb dX12_said_57 hl (k := 3) rfl rfl (by decide) rfl (fun ls hl => ?_)
        refine lv_goto (tgt := 21) hx hb dX12_said_60 (by decide) ?_
        exact ih i2 (i3 + (1 : Int32)) _ _ _ hf hM (lv_sub hl [1, 2, 3, 0] rfl)
      · replace hf := mx_iff hc44 hf
        refine lv_iload_n hx hb dX12_said_47 rfl (lv_at hl 2 rfl) ?_
        refine lv_iload_n hx hb dX12_said_48 rfl (lv_at hl 1 rfl) ?_
        refine lv_icmp_ne (tgt := 54) hx hb dX12_said_49 (by decide) (fun hc49 => ?_) (fun hc49 => ?_)
        · replace hf := mx_iff hc49 hf
          refine lv_iinc (v := (i2 + (1 : Int32))) (lv' := [(2, .int (i2 + (1 : Int32))), (0, .ref (E.2.1.2.1 0)), (1, .int i1), (3, .int i3)]) hx hb dX12_said_54 hl (k := 2) rfl rfl (by decide) rfl (fun ls hl => ?_)
          refine lv_iinc (v := (i3 + (1 : Int32))) (lv' := [(3, .int (i3 + (1 : Int32))), (2, .int (i2 + (1 : Int32))), (0, .ref (E.2.1.2.1 0)), (1, .int i1)]) hx hb dX12_said_57 hl (k := 3) rfl rfl (by decide) rfl (fun ls hl => ?_)
          refine lv_goto (tgt := 21) hx hb dX12_said_60 (by decide) ?_
          exact ih (i2 + (1 : Int32)) (i3 + (1 : Int32)) _ _ _ hf hM (lv_sub hl [2, 3, 1, 0] rfl)
        · replace hf := mx_ift hc49 hf
          refine lv_iload_n hx hb dX12_said_52 rfl (lv_at hl 3 rfl) ?_
          exact mx_iretR C hM hf dX12_said_53
set_option maxRecDepth 100000 in
set_option maxHeartbeats 4000000 in
theorem kX12_said {E : KE} {l : Launch} (hE : mx_ok E) (i1 : Int32) (hT : xOK E) (M : MM) {q : Int32} (hf : fX12_said i1 M = some q) : mx_Met E l yX12_said cX12_said 4 (some .int) 5 [.ref (E.2.1.2.1 0), .int i1] M (some (.int q)) M := by
  refine mx_enter hE (by decide) (Nat.le_of_ble_eq_true rfl) ?_
  intro p e s m below meth c C hM hn ls hl
  have hx := C.1.1
  have hb := C.1.2.1
  have hown := C.1.2.2.2.1
  have hts := C.1.2.2.2.2
  have hl : lv_has ls 4 [(0, .ref (E.2.1.2.1 0)), (1, .int i1)] := hl
  rw [fX12_said] at hf
  refine lv_aload_n hx hb dX12_said_0 rfl (lv_at hl 0 rfl) ?_
  refine gX12_60 C hM (xt_0 hT) (f := (2, 130)) rfl (v := .ref (E.2.1.2.1 130)) rfl dX12_said_1 ?_
  refine gX12_359 C hT hM (xt_130 hT) (f := (0, 0)) rfl (v := .int (M.1 130 4)) rfl dX12_said_4 ?_
  refine lv_if_eq (tgt := 15) hx hb dX12_said_7 (by decide) (fun hc7 => ?_) (fun hc7 => ?_)
  · replace hf := mx_ift hc7 hf
    refine lv_iconst (v := (-1 : Int32)) hx hb dX12_said_15 (by decide) ?_
    exact mx_iretR C hM hf dX12_said_16
  · replace hf := mx_iff hc7 hf
    refine lv_iload_n hx hb dX12_said_10 rfl (lv_at hl 1 rfl) ?_
    refine lv_iconst (v := (-1 : Int32)) hx hb dX12_said_11 (by decide) ?_
    refine lv_icmp_ge (tgt := 17) hx hb dX12_said_12 (by decide) (fun hc12 => ?_) (fun hc12 => ?_)
    · replace hf := mx_ift hc12 hf
      refine lv_iconst (v := (0 : Int32)) hx hb dX12_said_17 (by decide) ?_
      refine lv_istore_n (lv' := [(2, .int (0 : Int32)), (0, .ref (E.2.1.2.1 0)), (1, .int i1)]) hx hb dX12_said_18 rfl hl (by decide) rfl (fun ls hl => ?_)
      refine lv_iconst (v := (0 : Int32)) hx hb dX12_said_19 (by decide) ?_
      refine lv_istore_n (lv' := [(3, .int (0 : Int32)), (2, .int (0 : Int32)), (0, .ref (E.2.1.2.1 0)), (1, .int i1)]) hx hb dX12_said_20 rfl hl (by decide) rfl (fun ls hl => ?_)
      exact wfX12_said_21 C i1 M hT mx_fu (0 : Int32) (0 : Int32) _ _ _ hf hM (lv_sub hl [2, 3, 1, 0] rfl)
    · replace hf := mx_iff hc12 hf
      refine lv_iconst (v := (-1 : Int32)) hx hb dX12_said_15 (by decide) ?_
      exact mx_iretR C hM hf dX12_said_16
theorem dX12_image_0 : decode cX12_image 0 = .ok (.iload_n 1, 1) := by decide +kernel
theorem dX12_image_1 : decode cX12_image 1 = .ok (.ifCond .lt 8, 3) := by decide +kernel
theorem dX12_image_4 : decode cX12_image 4 = .ok (.iload_n 1, 1) := by decide +kernel
theorem dX12_image_5 : decode cX12_image 5 = .ok (.iconst 2, 1) := by decide +kernel
theorem dX12_image_6 : decode cX12_image 6 = .ok (.if_icmp .lt 5, 3) := by decide +kernel
theorem dX12_image_9 : decode cX12_image 9 = .ok (.iconst 0, 1) := by decide +kernel
theorem dX12_image_10 : decode cX12_image 10 = .ok (.ireturn, 1) := by decide +kernel
theorem dX12_image_11 : decode cX12_image 11 = .ok (.aload_n 0, 1) := by decide +kernel
theorem dX12_image_12 : decode cX12_image 12 = .ok (.getfield 95, 3) := by decide +kernel
theorem dX12_image_15 : decode cX12_image 15 = .ok (.iload_n 1, 1) := by decide +kernel
theorem dX12_image_16 : decode cX12_image 16 = .ok (.aaload, 1) := by decide +kernel
theorem dX12_image_17 : decode cX12_image 17 = .ok (.aload_n 0, 1) := by decide +kernel
theorem dX12_image_18 : decode cX12_image 18 = .ok (.getfield 28, 3) := by decide +kernel
theorem dX12_image_21 : decode cX12_image 21 = .ok (.invokevirtual 144, 3) := by decide +kernel
theorem dX12_image_24 : decode cX12_image 24 = .ok (.aload_n 0, 1) := by decide +kernel
theorem dX12_image_25 : decode cX12_image 25 = .ok (.getfield 99, 3) := by decide +kernel
theorem dX12_image_28 : decode cX12_image 28 = .ok (.iload_n 1, 1) := by decide +kernel
theorem dX12_image_29 : decode cX12_image 29 = .ok (.aaload, 1) := by decide +kernel
theorem dX12_image_30 : decode cX12_image 30 = .ok (.aload_n 0, 1) := by decide +kernel
theorem dX12_image_31 : decode cX12_image 31 = .ok (.getfield 40, 3) := by decide +kernel
theorem dX12_image_34 : decode cX12_image 34 = .ok (.invokevirtual 233, 3) := by decide +kernel
theorem dX12_image_37 : decode cX12_image 37 = .ok (.aload_n 0, 1) := by decide +kernel
theorem dX12_image_38 : decode cX12_image 38 = .ok (.getfield 103, 3) := by decide +kernel
theorem dX12_image_41 : decode cX12_image 41 = .ok (.iload_n 1, 1) := by decide +kernel
theorem dX12_image_42 : decode cX12_image 42 = .ok (.aaload, 1) := by decide +kernel
theorem dX12_image_43 : decode cX12_image 43 = .ok (.aload_n 0, 1) := by decide +kernel
theorem dX12_image_44 : decode cX12_image 44 = .ok (.getfield 60, 3) := by decide +kernel
theorem dX12_image_47 : decode cX12_image 47 = .ok (.invokevirtual 356, 3) := by decide +kernel
theorem dX12_image_50 : decode cX12_image 50 = .ok (.aload_n 0, 1) := by decide +kernel
theorem dX12_image_51 : decode cX12_image 51 = .ok (.getfield 107, 3) := by decide +kernel
theorem dX12_image_54 : decode cX12_image 54 = .ok (.iload_n 1, 1) := by decide +kernel
theorem dX12_image_55 : decode cX12_image 55 = .ok (.iconst 1, 1) := by decide +kernel
theorem dX12_image_56 : decode cX12_image 56 = .ok (.bastore, 1) := by decide +kernel
theorem dX12_image_57 : decode cX12_image 57 = .ok (.iconst 1, 1) := by decide +kernel
theorem dX12_image_58 : decode cX12_image 58 = .ok (.ireturn, 1) := by decide +kernel
set_option maxRecDepth 100000 in
set_option maxHeartbeats 4000000 in
theorem kX12_image {E : KE} {l : Launch} (hE : mx_ok E) (i1 : Int32) (hT : xOK E) (M : MM) {q : (Bool × MM)} (hf : fX12_image i1 M = some q) : mx_Met E l yX12_image cX12_image 2 (some .boolean) 2 [.ref (E.2.1.2.1 0), .int i1] M (some (.int (mx_b q.1))) q.2 := by
  refine mx_enter hE (by decide) (Nat.le_of_ble_eq_true rfl) ?_
  intro p e s m below meth c C hM hn ls hl
  have hx := C.1.1
  have hb := C.1.2.1
  have hown := C.1.2.2.2.1
  have hts := C.1.2.2.2.2
  have hl : lv_has ls 2 [(0, .ref (E.2.1.2.1 0)), (1, .int i1)] := hl
  rw [fX12_image] at hf
  refine lv_iload_n hx hb dX12_image_0 rfl (lv_at hl 1 rfl) ?_
  refine lv_if_lt (tgt := 9) hx hb dX12_image_1 (by decide) (fun hc1 => ?_) (fun hc1 => ?_)
  · replace hf := mx_ift hc1 hf
    refine lv_iconst (v := (0 : Int32)) hx hb dX12_image_9 (by decide) ?_
    exact mx_zret C hM (b := false) rfl hf dX12_image_10
  · replace hf := mx_iff hc1 hf
    refine lv_iload_n hx hb dX12_image_4 rfl (lv_at hl 1 rfl) ?_
    refine lv_iconst (v := (2 : Int32)) hx hb dX12_image_5 (by decide) ?_
    refine lv_icmp_lt (tgt := 11) hx hb dX12_image_6 (by decide) (fun hc6 => ?_) (fun hc6 => ?_)
    · replace hf := mx_ift hc6 hf
      refine lv_aload_n hx hb dX12_image_11 rfl (lv_at hl 0 rfl) ?_
      refine gX12_95 C hM (xt_0 hT) (f := (2, 154)) rfl (v := .ref (E.2.1.2.1 154)) rfl dX12_image_12 ?_
      refine lv_iload_n hx hb dX12_image_15 rfl (lv_at hl 1 rfl) ?_
      obtain ⟨hg16, hf⟩ := mx_gd hf
      refine mx_aald5 C hM (xt_154 hT) (mx_in_vp hg16) dX12_image_16 ?_
      refine lv_aload_n hx hb dX12_image_17 rfl (lv_at hl 0 rfl) ?_
      refine gX12_28 C hM (xt_0 hT) (f := (2, 9)) rfl (v := .ref (E.2.1.2.1 9)) rfl dX12_image_18 ?_
      obtain ⟨hr21, hf⟩ := mx_gd hf
      obtain ⟨q21, hq21, hf⟩ := mx_bd hf
      refine mx_callVN C hM hl.1 yo_X3_copyFrom (h' := 1) (by decide) (nw_627 hT C) qw_629 qs_28 (ci := 3) (q := (RX3, TX3, 18)) rfl (xoI hT hr21) (As := [.ref (E.2.1.2.1 9)]) (rest := []) (st1 := []) (kX3_copyFrom C.2.2.2.1 (M.2.2 154 i1.toNatClampNeg) 9 hT hr21 xiI_9 M hq21) rfl rfl rfl (Nat.le_of_ble_eq_true rfl) dX12_image_21 (fun H locs hM => ?_)
      refine lv_aload_n hx hb dX12_image_24 rfl (lv_at hl 0 rfl) ?_
      refine gX12_99 C hM (xt_0 hT) (f := (2, 155)) rfl (v := .ref (E.2.1.2.1 155)) rfl dX12_image_25 ?_
      refine lv_iload_n hx hb dX12_image_28 rfl (lv_at hl 1 rfl) ?_
      obtain ⟨hg29, hf⟩ := mx_gd hf
      refine mx_aald4 C hM (xt_155 hT) (mx_in_vp hg29) dX12_image_29 ?_
      refine lv_aload_n hx hb dX12_image_30 rfl (lv_at hl 0 rfl) ?_
      refine gX12_40 C hM (xt_0 hT) (f := (2, 29)) rfl (v := .ref (E.2.1.2.1 29)) rfl dX12_image_31 ?_
      obtain ⟨hr34, hf⟩ := mx_gd hf
      obtain ⟨q34, hq34, hf⟩ := mx_bd hf
      refine mx_callVN C hM hl.1 yo_X9_copyFrom (h' := 1) (by decide) (nw_693 hT C) qw_695 qs_39 (ci := 9) (q := (RX9, TX9, 13)) rfl (xoS hT hr34) (As := [.ref (E.2.1.2.1 29)]) (rest := []) (st1 := []) (kX9_copyFrom C.2.2.2.1 (q21.2.2 155 i1.toNatClampNeg) 29 hT hr34 xiS_29 q21 hq34) rfl rfl rfl (Nat.le_of_ble_eq_true rfl) dX12_image_34 (fun H locs hM => ?_)
      refine lv_aload_n hx hb dX12_image_37 rfl (lv_at hl 0 rfl) ?_
      refine gX12_103 C hM (xt_0 hT) (f := (2, 156)) rfl (v := .ref (E.2.1.2.1 156)) rfl dX12_image_38 ?_
      refine lv_iload_n hx hb dX12_image_41 rfl (lv_at hl 1 rfl) ?_
      obtain ⟨hg42, hf⟩ := mx_gd hf
      refine mx_aald6 C hM (xt_156 hT) (mx_in_vp hg42) dX12_image_42 ?_
      refine lv_aload_n hx hb dX12_image_43 rfl (lv_at hl 0 rfl) ?_
      refine gX12_60 C hM (xt_0 hT) (f := (2, 130)) rfl (v := .ref (E.2.1.2.1 130)) rfl dX12_image_44 ?_
      obtain ⟨hr47, hf⟩ := mx_gd hf
      obtain ⟨q47, hq47, hf⟩ := mx_bd hf
      refine mx_callVN C hM hl.1 yo_X8_copyFrom (h' := 1) (by decide) (nw_1210 hT C) qw_1212 qs_101 (ci := 8) (q := (RX8, TX8, 5)) rfl (xoN hT hr47) (As := [.ref (E.2.1.2.1 130)]) (rest := []) (st1 := []) (kX8_copyFrom C.2.2.2.1 (q34.2.2 156 i1.toNatClampNeg) 130 hT hr47 xiN_130 q34 hq47) rfl rfl rfl (Nat.le_of_ble_eq_true rfl) dX12_image_47 (fun H locs hM => ?_)
      refine lv_aload_n hx hb dX12_image_50 rfl (lv_at hl 0 rfl) ?_
      refine gX12_107 C hM (xt_0 hT) (f := (2, 157)) rfl (v := .ref (E.2.1.2.1 157)) rfl dX12_image_51 ?_
      refine lv_iload_n hx hb dX12_image_54 rfl (lv_at hl 1 rfl) ?_
      refine lv_iconst (v := (1 : Int32)) hx hb dX12_image_55 (by decide) ?_
      obtain ⟨hg56, hf⟩ := mx_gd hf
      refine mx_zast C hM (xt_157 hT) (mx_in_vp hg56) dX12_image_56 (fun H locs hM => ?_)
      refine lv_iconst (v := (1 : Int32)) hx hb dX12_image_57 (by decide) ?_
      exact mx_zret C hM (b := true) rfl hf dX12_image_58
    · replace hf := mx_iff hc6 hf
      refine lv_iconst (v := (0 : Int32)) hx hb dX12_image_9 (by decide) ?_
      exact mx_zret C hM (b := false) rfl hf dX12_image_10
theorem dX12_restore_0 : decode cX12_restore 0 = .ok (.iload_n 1, 1) := by decide +kernel
theorem dX12_restore_1 : decode cX12_restore 1 = .ok (.ifCond .lt 17, 3) := by decide +kernel
theorem dX12_restore_4 : decode cX12_restore 4 = .ok (.iload_n 1, 1) := by decide +kernel
theorem dX12_restore_5 : decode cX12_restore 5 = .ok (.iconst 2, 1) := by decide +kernel
theorem dX12_restore_6 : decode cX12_restore 6 = .ok (.if_icmp .ge 12, 3) := by decide +kernel
theorem dX12_restore_9 : decode cX12_restore 9 = .ok (.aload_n 0, 1) := by decide +kernel
theorem dX12_restore_10 : decode cX12_restore 10 = .ok (.getfield 107, 3) := by decide +kernel
theorem dX12_restore_13 : decode cX12_restore 13 = .ok (.iload_n 1, 1) := by decide +kernel
theorem dX12_restore_14 : decode cX12_restore 14 = .ok (.baload, 1) := by decide +kernel
theorem dX12_restore_15 : decode cX12_restore 15 = .ok (.ifCond .ne 5, 3) := by decide +kernel
theorem dX12_restore_18 : decode cX12_restore 18 = .ok (.iconst 0, 1) := by decide +kernel
theorem dX12_restore_19 : decode cX12_restore 19 = .ok (.ireturn, 1) := by decide +kernel
theorem dX12_restore_20 : decode cX12_restore 20 = .ok (.aload_n 0, 1) := by decide +kernel
theorem dX12_restore_21 : decode cX12_restore 21 = .ok (.getfield 28, 3) := by decide +kernel
theorem dX12_restore_24 : decode cX12_restore 24 = .ok (.aload_n 0, 1) := by decide +kernel
theorem dX12_restore_25 : decode cX12_restore 25 = .ok (.getfield 95, 3) := by decide +kernel
theorem dX12_restore_28 : decode cX12_restore 28 = .ok (.iload_n 1, 1) := by decide +kernel
theorem dX12_restore_29 : decode cX12_restore 29 = .ok (.aaload, 1) := by decide +kernel
theorem dX12_restore_30 : decode cX12_restore 30 = .ok (.invokevirtual 144, 3) := by decide +kernel
theorem dX12_restore_33 : decode cX12_restore 33 = .ok (.aload_n 0, 1) := by decide +kernel
theorem dX12_restore_34 : decode cX12_restore 34 = .ok (.getfield 40, 3) := by decide +kernel
theorem dX12_restore_37 : decode cX12_restore 37 = .ok (.aload_n 0, 1) := by decide +kernel
theorem dX12_restore_38 : decode cX12_restore 38 = .ok (.getfield 99, 3) := by decide +kernel
theorem dX12_restore_41 : decode cX12_restore 41 = .ok (.iload_n 1, 1) := by decide +kernel
theorem dX12_restore_42 : decode cX12_restore 42 = .ok (.aaload, 1) := by decide +kernel
theorem dX12_restore_43 : decode cX12_restore 43 = .ok (.invokevirtual 233, 3) := by decide +kernel
theorem dX12_restore_46 : decode cX12_restore 46 = .ok (.aload_n 0, 1) := by decide +kernel
theorem dX12_restore_47 : decode cX12_restore 47 = .ok (.getfield 60, 3) := by decide +kernel
theorem dX12_restore_50 : decode cX12_restore 50 = .ok (.aload_n 0, 1) := by decide +kernel
theorem dX12_restore_51 : decode cX12_restore 51 = .ok (.getfield 103, 3) := by decide +kernel
theorem dX12_restore_54 : decode cX12_restore 54 = .ok (.iload_n 1, 1) := by decide +kernel
theorem dX12_restore_55 : decode cX12_restore 55 = .ok (.aaload, 1) := by decide +kernel
theorem dX12_restore_56 : decode cX12_restore 56 = .ok (.invokevirtual 356, 3) := by decide +kernel
theorem dX12_restore_59 : decode cX12_restore 59 = .ok (.aload_n 0, 1) := by decide +kernel
theorem dX12_restore_60 : decode cX12_restore 60 = .ok (.getfield 53, 3) := by decide +kernel
theorem dX12_restore_63 : decode cX12_restore 63 = .ok (.invokevirtual 151, 3) := by decide +kernel
theorem dX12_restore_66 : decode cX12_restore 66 = .ok (.iconst 1, 1) := by decide +kernel
theorem dX12_restore_67 : decode cX12_restore 67 = .ok (.ireturn, 1) := by decide +kernel
set_option maxRecDepth 100000 in
set_option maxHeartbeats 4000000 in
theorem kX12_restore {E : KE} {l : Launch} (hE : mx_ok E) (i1 : Int32) (hT : xOK E) (M : MM) {q : (Bool × MM)} (hf : fX12_restore i1 M = some q) : mx_Met E l yX12_restore cX12_restore 2 (some .boolean) 2 [.ref (E.2.1.2.1 0), .int i1] M (some (.int (mx_b q.1))) q.2 := by
  refine mx_enter hE (by decide) (Nat.le_of_ble_eq_true rfl) ?_
  intro p e s m below meth c C hM hn ls hl
  have hx := C.1.1
  have hb := C.1.2.1
  have hown := C.1.2.2.2.1
  have hts := C.1.2.2.2.2
  have hl : lv_has ls 2 [(0, .ref (E.2.1.2.1 0)), (1, .int i1)] := hl
  rw [fX12_restore] at hf
  refine lv_iload_n hx hb dX12_restore_0 rfl (lv_at hl 1 rfl) ?_
  refine lv_if_lt (tgt := 18) hx hb dX12_restore_1 (by decide) (fun hc1 => ?_) (fun hc1 => ?_)
  · replace hf := mx_ift hc1 hf
    refine lv_iconst (v := (0 : Int32)) hx hb dX12_restore_18 (by decide) ?_
    exact mx_zret C hM (b := false) rfl hf dX12_restore_19
  · replace hf := mx_iff hc1 hf
    refine lv_iload_n hx hb dX12_restore_4 rfl (lv_at hl 1 rfl) ?_
    refine lv_iconst (v := (2 : Int32)) hx hb dX12_restore_5 (by decide) ?_
    refine lv_icmp_ge (tgt := 18) hx hb dX12_restore_6 (by decide) (fun hc6 => ?_) (fun hc6 => ?_)
    · replace hf := mx_ift hc6 hf
      refine lv_iconst (v := (0 : Int32)) hx hb dX12_restore_18 (by decide) ?_
      exact mx_zret C hM (b := false) rfl hf dX12_restore_19
    · replace hf := mx_iff hc6 hf
      refine lv_aload_n hx hb dX12_restore_9 rfl (lv_at hl 0 rfl) ?_
      refine gX12_107 C hM (xt_0 hT) (f := (2, 157)) rfl (v := .ref (E.2.1.2.1 157)) rfl dX12_restore_10 ?_
      refine lv_iload_n hx hb dX12_restore_13 rfl (lv_at hl 1 rfl) ?_
      obtain ⟨hg14, hf⟩ := mx_gd hf
      refine mx_zald C hM (xt_157 hT) (mx_in_vp hg14) dX12_restore_14 ?_
      refine lv_if_ne (tgt := 20) hx hb dX12_restore_15 (by decide) (fun hc15 => ?_) (fun hc15 => ?_)
      · replace hf := mx_iff hc15 hf
        refine lv_aload_n hx hb dX12_restore_20 rfl (lv_at hl 0 rfl) ?_
        refine gX12_28 C hM (xt_0 hT) (f := (2, 9)) rfl (v := .ref (E.2.1.2.1 9)) rfl dX12_restore_21 ?_
        refine lv_aload_n hx hb dX12_restore_24 rfl (lv_at hl 0 rfl) ?_
        refine gX12_95 C hM (xt_0 hT) (f := (2, 154)) rfl (v := .ref (E.2.1.2.1 154)) rfl dX12_restore_25 ?_
        refine lv_iload_n hx hb dX12_restore_28 rfl (lv_at hl 1 rfl) ?_
        obtain ⟨hg29, hf⟩ := mx_gd hf
        refine mx_aald5 C hM (xt_154 hT) (mx_in_vp hg29) dX12_restore_29 ?_
        obtain ⟨hr30_0, hf⟩ := mx_gd hf
        obtain ⟨q30, hq30, hf⟩ := mx_bd hf
        refine mx_callVN C hM hl.1 yo_X3_copyFrom (h' := 1) (by decide) (nw_627 hT C) qw_629 qs_28 (ci := 3) (q := (RX3, TX3, 18)) rfl (xt_9 hT) (As := [.ref (E.2.1.2.1 (M.2.2 154 i1.toNatClampNeg))]) (rest := []) (st1 := []) (kX3_copyFrom C.2.2.2.1 9 (M.2.2 154 i1.toNatClampNeg) hT xiI_9 hr30_0 M hq30) rfl rfl rfl (Nat.le_of_ble_eq_true rfl) dX12_restore_30 (fun H locs hM => ?_)
        refine lv_aload_n hx hb dX12_restore_33 rfl (lv_at hl 0 rfl) ?_
        refine gX12_40 C hM (xt_0 hT) (f := (2, 29)) rfl (v := .ref (E.2.1.2.1 29)) rfl dX12_restore_34 ?_
        refine lv_aload_n hx hb dX12_restore_37 rfl (lv_at hl 0 rfl) ?_
        refine gX12_99 C hM (xt_0 hT) (f := (2, 155)) rfl (v := .ref (E.2.1.2.1 155)) rfl dX12_restore_38 ?_
        refine lv_iload_n hx hb dX12_restore_41 rfl (lv_at hl 1 rfl) ?_
        obtain ⟨hg42, hf⟩ := mx_gd hf
        refine mx_aald4 C hM (xt_155 hT) (mx_in_vp hg42) dX12_restore_42 ?_
        obtain ⟨hr43_0, hf⟩ := mx_gd hf
        obtain ⟨q43, hq43, hf⟩ := mx_bd hf
        refine mx_callVN C hM hl.1 yo_X9_copyFrom (h' := 1) (by decide) (nw_693 hT C) qw_695 qs_39 (ci := 9) (q := (RX9, TX9, 13)) rfl (xt_29 hT) (As := [.ref (E.2.1.2.1 (q30.2.2 155 i1.toNatClampNeg))]) (rest := []) (st1 := []) (kX9_copyFrom C.2.2.2.1 29 (q30.2.2 155 i1.toNatClampNeg) hT xiS_29 hr43_0 q30 hq43) rfl rfl rfl (Nat.le_of_ble_eq_true rfl) dX12_restore_43 (fun H locs hM => ?_)
        refine lv_aload_n hx hb dX12_restore_46 rfl (lv_at hl 0 rfl) ?_
        refine gX12_60 C hM (xt_0 hT) (f := (2, 130)) rfl (v := .ref (E.2.1.2.1 130)) rfl dX12_restore_47 ?_
        refine lv_aload_n hx hb dX12_restore_50 rfl (lv_at hl 0 rfl) ?_
        refine gX12_103 C hM (xt_0 hT) (f := (2, 156)) rfl (v := .ref (E.2.1.2.1 156)) rfl dX12_restore_51 ?_
        refine lv_iload_n hx hb dX12_restore_54 rfl (lv_at hl 1 rfl) ?_
        obtain ⟨hg55, hf⟩ := mx_gd hf
        refine mx_aald6 C hM (xt_156 hT) (mx_in_vp hg55) dX12_restore_55 ?_
        obtain ⟨hr56_0, hf⟩ := mx_gd hf
        obtain ⟨q56, hq56, hf⟩ := mx_bd hf
        refine mx_callVN C hM hl.1 yo_X8_copyFrom (h' := 1) (by decide) (nw_1210 hT C) qw_1212 qs_101 (ci := 8) (q := (RX8, TX8, 5)) rfl (xt_130 hT) (As := [.ref (E.2.1.2.1 (q43.2.2 156 i1.toNatClampNeg))]) (rest := []) (st1 := []) (kX8_copyFrom C.2.2.2.1 130 (q43.2.2 156 i1.toNatClampNeg) hT xiN_130 hr56_0 q43 hq56) rfl rfl rfl (Nat.le_of_ble_eq_true rfl) dX12_restore_56 (fun H locs hM => ?_)
        refine lv_aload_n hx hb dX12_restore_59 rfl (lv_at hl 0 rfl) ?_
        refine gX12_53 C hM (xt_0 hT) (f := (2, 56)) rfl (v := .ref (E.2.1.2.1 56)) rfl dX12_restore_60 ?_
        obtain ⟨q63, hq63, hf⟩ := mx_bd hf
        refine mx_callVN C hM hl.1 yo_X5_clear (h' := 0) (by decide) (nw_646 hT C) qw_648 qs_32 (ci := 5) (q := (RX5, TX5, 2)) rfl (xt_56 hT) (As := []) (rest := []) (st1 := []) (kX5_clear C.2.2.2.1 hT q56 hq63) rfl rfl rfl (Nat.le_of_ble_eq_true rfl) dX12_restore_63 (fun H locs hM => ?_)
        refine lv_iconst (v := (1 : Int32)) hx hb dX12_restore_66 (by decide) ?_
        exact mx_zret C hM (b := true) rfl hf dX12_restore_67
      · replace hf := mx_ift hc15 hf
        refine lv_iconst (v := (0 : Int32)) hx hb dX12_restore_18 (by decide) ?_
        exact mx_zret C hM (b := false) rfl hf dX12_restore_19
theorem dX12_count_0 : decode cX12_count 0 = .ok (.iload_n 1, 1) := by decide +kernel
theorem dX12_count_1 : decode cX12_count 1 = .ok (.tableswitch 87 0 5 #[39, 47, 55, 63, 71, 79], 39) := by decide +kernel
theorem dX12_count_40 : decode cX12_count 40 = .ok (.aload_n 0, 1) := by decide +kernel
theorem dX12_count_41 : decode cX12_count 41 = .ok (.getfield 28, 3) := by decide +kernel
theorem dX12_count_44 : decode cX12_count 44 = .ok (.getfield 362, 3) := by decide +kernel
theorem dX12_count_47 : decode cX12_count 47 = .ok (.ireturn, 1) := by decide +kernel
theorem dX12_count_48 : decode cX12_count 48 = .ok (.aload_n 0, 1) := by decide +kernel
theorem dX12_count_49 : decode cX12_count 49 = .ok (.getfield 28, 3) := by decide +kernel
theorem dX12_count_52 : decode cX12_count 52 = .ok (.getfield 269, 3) := by decide +kernel
theorem dX12_count_55 : decode cX12_count 55 = .ok (.ireturn, 1) := by decide +kernel
theorem dX12_count_56 : decode cX12_count 56 = .ok (.aload_n 0, 1) := by decide +kernel
theorem dX12_count_57 : decode cX12_count 57 = .ok (.getfield 28, 3) := by decide +kernel
theorem dX12_count_60 : decode cX12_count 60 = .ok (.getfield 369, 3) := by decide +kernel
theorem dX12_count_63 : decode cX12_count 63 = .ok (.ireturn, 1) := by decide +kernel
theorem dX12_count_64 : decode cX12_count 64 = .ok (.aload_n 0, 1) := by decide +kernel
theorem dX12_count_65 : decode cX12_count 65 = .ok (.getfield 28, 3) := by decide +kernel
theorem dX12_count_68 : decode cX12_count 68 = .ok (.getfield 372, 3) := by decide +kernel
theorem dX12_count_71 : decode cX12_count 71 = .ok (.ireturn, 1) := by decide +kernel
theorem dX12_count_72 : decode cX12_count 72 = .ok (.aload_n 0, 1) := by decide +kernel
theorem dX12_count_73 : decode cX12_count 73 = .ok (.getfield 28, 3) := by decide +kernel
theorem dX12_count_76 : decode cX12_count 76 = .ok (.getfield 375, 3) := by decide +kernel
theorem dX12_count_79 : decode cX12_count 79 = .ok (.ireturn, 1) := by decide +kernel
theorem dX12_count_80 : decode cX12_count 80 = .ok (.aload_n 0, 1) := by decide +kernel
theorem dX12_count_81 : decode cX12_count 81 = .ok (.getfield 10, 3) := by decide +kernel
theorem dX12_count_84 : decode cX12_count 84 = .ok (.getfield 119, 3) := by decide +kernel
theorem dX12_count_87 : decode cX12_count 87 = .ok (.ireturn, 1) := by decide +kernel
theorem dX12_count_88 : decode cX12_count 88 = .ok (.iconst (-1), 1) := by decide +kernel
theorem dX12_count_89 : decode cX12_count 89 = .ok (.ireturn, 1) := by decide +kernel
set_option maxRecDepth 100000 in
set_option maxHeartbeats 4000000 in
theorem kX12_count {E : KE} {l : Launch} (hE : mx_ok E) (i1 : Int32) (hT : xOK E) (M : MM) {q : Int32} (hf : fX12_count i1 M = some q) : mx_Met E l yX12_count cX12_count 2 (some .int) 0 [.ref (E.2.1.2.1 0), .int i1] M (some (.int q)) M := by
  refine mx_enter hE (by decide) (Nat.le_of_ble_eq_true rfl) ?_
  intro p e s m below meth c C hM hn ls hl
  have hx := C.1.1
  have hb := C.1.2.1
  have hown := C.1.2.2.2.1
  have hts := C.1.2.2.2.2
  have hl : lv_has ls 2 [(0, .ref (E.2.1.2.1 0)), (1, .int i1)] := hl
  rw [fX12_count] at hf
  refine lv_iload_n hx hb dX12_count_0 rfl (lv_at hl 1 rfl) ?_
  by_cases hs0 : i1 = 0
  · replace hf := mx_ift hs0 hf
    refine lv_tableIn (tgt := 40) hx hb dX12_count_1 (by rw [hs0]; decide) (by rw [hs0]; decide) (by rw [hs0]; rfl) (by decide) ?_
    refine lv_aload_n hx hb dX12_count_40 rfl (lv_at hl 0 rfl) ?_
    refine gX12_28 C hM (xt_0 hT) (f := (2, 9)) rfl (v := .ref (E.2.1.2.1 9)) rfl dX12_count_41 ?_
    refine gX12_362 C hT hM (xt_9 hT) (f := (0, 0)) rfl (v := .int (M.1 9 0)) rfl dX12_count_44 ?_
    exact mx_iretR C hM hf dX12_count_47
  replace hf := mx_iff hs0 hf
  by_cases hs1 : i1 = 1
  · replace hf := mx_ift hs1 hf
    refine lv_tableIn (tgt := 48) hx hb dX12_count_1 (by rw [hs1]; decide) (by rw [hs1]; decide) (by rw [hs1]; rfl) (by decide) ?_
    refine lv_aload_n hx hb dX12_count_48 rfl (lv_at hl 0 rfl) ?_
    refine gX12_28 C hM (xt_0 hT) (f := (2, 9)) rfl (v := .ref (E.2.1.2.1 9)) rfl dX12_count_49 ?_
    refine gX12_269 C hT hM (xt_9 hT) (f := (0, 0)) rfl (v := .int (M.1 9 1)) rfl dX12_count_52 ?_
    exact mx_iretR C hM hf dX12_count_55
  replace hf := mx_iff hs1 hf
  by_cases hs2 : i1 = 2
  · replace hf := mx_ift hs2 hf
    refine lv_tableIn (tgt := 56) hx hb dX12_count_1 (by rw [hs2]; decide) (by rw [hs2]; decide) (by rw [hs2]; rfl) (by decide) ?_
    refine lv_aload_n hx hb dX12_count_56 rfl (lv_at hl 0 rfl) ?_
    refine gX12_28 C hM (xt_0 hT) (f := (2, 9)) rfl (v := .ref (E.2.1.2.1 9)) rfl dX12_count_57 ?_
    refine gX12_369 C hT hM (xt_9 hT) (f := (0, 0)) rfl (v := .int (M.1 9 11)) rfl dX12_count_60 ?_
    exact mx_iretR C hM hf dX12_count_63
  replace hf := mx_iff hs2 hf
  by_cases hs3 : i1 = 3
  · replace hf := mx_ift hs3 hf
    refine lv_tableIn (tgt := 64) hx hb dX12_count_1 (by rw [hs3]; decide) (by rw [hs3]; decide) (by rw [hs3]; rfl) (by decide) ?_
    refine lv_aload_n hx hb dX12_count_64 rfl (lv_at hl 0 rfl) ?_
    refine gX12_28 C hM (xt_0 hT) (f := (2, 9)) rfl (v := .ref (E.2.1.2.1 9)) rfl dX12_count_65 ?_
    refine gX12_372 C hT hM (xt_9 hT) (f := (0, 0)) rfl (v := .int (M.1 9 12)) rfl dX12_count_68 ?_
    exact mx_iretR C hM hf dX12_count_71
  replace hf := mx_iff hs3 hf
  by_cases hs4 : i1 = 4
  · replace hf := mx_ift hs4 hf
    refine lv_tableIn (tgt := 72) hx hb dX12_count_1 (by rw [hs4]; decide) (by rw [hs4]; decide) (by rw [hs4]; rfl) (by decide) ?_
    refine lv_aload_n hx hb dX12_count_72 rfl (lv_at hl 0 rfl) ?_
    refine gX12_28 C hM (xt_0 hT) (f := (2, 9)) rfl (v := .ref (E.2.1.2.1 9)) rfl dX12_count_73 ?_
    refine gX12_375 C hT hM (xt_9 hT) (f := (0, 0)) rfl (v := .int (M.1 9 13)) rfl dX12_count_76 ?_
    exact mx_iretR C hM hf dX12_count_79
  replace hf := mx_iff hs4 hf
  by_cases hs5 : i1 = 5
  · replace hf := mx_ift hs5 hf
    refine lv_tableIn (tgt := 80) hx hb dX12_count_1 (by rw [hs5]; decide) (by rw [hs5]; decide) (by rw [hs5]; rfl) (by decide) ?_
    refine lv_aload_n hx hb dX12_count_80 rfl (lv_at hl 0 rfl) ?_
    refine gX12_10 C hM (xt_0 hT) (f := (2, 1)) rfl (v := .ref (E.2.1.2.1 1)) rfl dX12_count_81 ?_
    refine gX12_119 C hT hM (xt_1 hT) (f := (0, 0)) rfl (v := .int (M.1 1 1)) rfl dX12_count_84 ?_
    exact mx_iretR C hM hf dX12_count_87
  replace hf := mx_iff hs5 hf
  refine lv_tableOut (tgt := 88) hx hb dX12_count_1 (by have hh := And.intro trivial trivial; have hh0 := lv_neT hs0 (by decide : (0 : Int32).toInt = 0); have hh1 := lv_neT hs1 (by decide : (1 : Int32).toInt = 1); have hh2 := lv_neT hs2 (by decide : (2 : Int32).toInt = 2); have hh3 := lv_neT hs3 (by decide : (3 : Int32).toInt = 3); have hh4 := lv_neT hs4 (by decide : (4 : Int32).toInt = 4); have hh5 := lv_neT hs5 (by decide : (5 : Int32).toInt = 5); omega) (by decide) ?_
  refine lv_iconst (v := (-1 : Int32)) hx hb dX12_count_88 (by decide) ?_
  exact mx_iretR C hM hf dX12_count_89
