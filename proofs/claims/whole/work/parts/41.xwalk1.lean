theorem dX3_feel_0 : decode cX3_feel 0 = .ok (.iload_n 1, 1) := by decide +kernel
theorem dX3_feel_1 : decode cX3_feel 1 = .ok (.aload_n 0, 1) := by decide +kernel
theorem dX3_feel_2 : decode cX3_feel 2 = .ok (.getfield 22, 3) := by decide +kernel
theorem dX3_feel_5 : decode cX3_feel 5 = .ok (.iload_n 2, 1) := by decide +kernel
theorem dX3_feel_6 : decode cX3_feel 6 = .ok (.iaload, 1) := by decide +kernel
theorem dX3_feel_7 : decode cX3_feel 7 = .ok (.isub, 1) := by decide +kernel
theorem dX3_feel_8 : decode cX3_feel 8 = .ok (.istore_n 3, 1) := by decide +kernel
theorem dX3_feel_9 : decode cX3_feel 9 = .ok (.iload_n 3, 1) := by decide +kernel
theorem dX3_feel_10 : decode cX3_feel 10 = .ok (.aload_n 0, 1) := by decide +kernel
theorem dX3_feel_11 : decode cX3_feel 11 = .ok (.getfield 40, 3) := by decide +kernel
theorem dX3_feel_14 : decode cX3_feel 14 = .ok (.ineg, 1) := by decide +kernel
theorem dX3_feel_15 : decode cX3_feel 15 = .ok (.if_icmp .ge 5, 3) := by decide +kernel
theorem dX3_feel_18 : decode cX3_feel 18 = .ok (.iconst 0, 1) := by decide +kernel
theorem dX3_feel_19 : decode cX3_feel 19 = .ok (.ireturn, 1) := by decide +kernel
theorem dX3_feel_20 : decode cX3_feel 20 = .ok (.iload_n 3, 1) := by decide +kernel
theorem dX3_feel_21 : decode cX3_feel 21 = .ok (.aload_n 0, 1) := by decide +kernel
theorem dX3_feel_22 : decode cX3_feel 22 = .ok (.getfield 40, 3) := by decide +kernel
theorem dX3_feel_25 : decode cX3_feel 25 = .ok (.if_icmp .le 7, 3) := by decide +kernel
theorem dX3_feel_28 : decode cX3_feel 28 = .ok (.iconst 2, 1) := by decide +kernel
theorem dX3_feel_29 : decode cX3_feel 29 = .ok (.goto 4, 3) := by decide +kernel
theorem dX3_feel_32 : decode cX3_feel 32 = .ok (.iconst 1, 1) := by decide +kernel
theorem dX3_feel_33 : decode cX3_feel 33 = .ok (.ireturn, 1) := by decide +kernel
set_option maxRecDepth 100000 in
set_option maxHeartbeats 4000000 in
theorem kX3_feel {E : KE} {l : Launch} (hE : mx_ok E) (i1 : Int32) (i2 : Int32) (hT : xOK E) (M : MM) {q : Int32} (hf : fX3_feel i1 i2 M = some q) : mx_Met E l yX3_feel cX3_feel 4 (some .int) 0 [.ref (E.2.1.2.1 9), .int i1, .int i2] M (some (.int q)) M := by
  refine mx_enter hE (by decide) (Nat.le_of_ble_eq_true rfl) ?_
  intro p e s m below meth c C hM hn ls hl
  have hx := C.1.1
  have hb := C.1.2.1
  have hown := C.1.2.2.2.1
  have hts := C.1.2.2.2.2
  have hl : lv_has ls 4 [(0, .ref (E.2.1.2.1 9)), (1, .int i1), (2, .int i2)] := hl
  rw [fX3_feel] at hf
  refine lv_iload_n hx hb dX3_feel_0 rfl (lv_at hl 1 rfl) ?_
  refine lv_aload_n hx hb dX3_feel_1 rfl (lv_at hl 0 rfl) ?_
  refine gX3_22 C hM (xt_9 hT) (f := (2, 13)) rfl (v := .ref (E.2.1.2.1 13)) rfl dX3_feel_2 ?_
  refine lv_iload_n hx hb dX3_feel_5 rfl (lv_at hl 2 rfl) ?_
  obtain ⟨hg6, hf⟩ := mx_gd hf
  refine mx_iald C hM (xt_13 hT) (mx_in_vp hg6) dX3_feel_6 ?_
  refine lv_isub hx hb dX3_feel_7 ?_
  refine lv_istore_n (lv' := [(3, .int (i1 - (M.1 13 i2.toNatClampNeg))), (0, .ref (E.2.1.2.1 9)), (1, .int i1), (2, .int i2)]) hx hb dX3_feel_8 rfl hl (by decide) rfl (fun ls hl => ?_)
  refine lv_iload_n hx hb dX3_feel_9 rfl (lv_at hl 0 rfl) ?_
  refine lv_aload_n hx hb dX3_feel_10 rfl (lv_at hl 1 rfl) ?_
  refine gX3_40 C hM (xt_9 hT) (f := (0, 0)) rfl (v := .int (M.1 9 11)) rfl dX3_feel_11 ?_
  refine lv_ineg hx hb dX3_feel_14 ?_
  refine lv_icmp_ge (tgt := 20) hx hb dX3_feel_15 (by decide) (fun hc15 => ?_) (fun hc15 => ?_)
  · replace hf := mx_ift hc15 hf
    refine lv_iload_n hx hb dX3_feel_20 rfl (lv_at hl 0 rfl) ?_
    refine lv_aload_n hx hb dX3_feel_21 rfl (lv_at hl 1 rfl) ?_
    refine gX3_40 C hM (xt_9 hT) (f := (0, 0)) rfl (v := .int (M.1 9 11)) rfl dX3_feel_22 ?_
    refine lv_icmp_le (tgt := 32) hx hb dX3_feel_25 (by decide) (fun hc25 => ?_) (fun hc25 => ?_)
    · replace hf := mx_ift hc25 hf
      refine lv_iconst (v := (1 : Int32)) hx hb dX3_feel_32 (by decide) ?_
      exact mx_iretR C hM hf dX3_feel_33
    · replace hf := mx_iff hc25 hf
      refine lv_iconst (v := (2 : Int32)) hx hb dX3_feel_28 (by decide) ?_
      refine lv_goto (tgt := 33) hx hb dX3_feel_29 (by decide) ?_
      exact mx_iretR C hM hf dX3_feel_33
  · replace hf := mx_iff hc15 hf
    refine lv_iconst (v := (0 : Int32)) hx hb dX3_feel_18 (by decide) ?_
    exact mx_iretR C hM hf dX3_feel_19
theorem dX9_putOn_0 : decode cX9_putOn 0 = .ok (.aload_n 0, 1) := by decide +kernel
theorem dX9_putOn_1 : decode cX9_putOn 1 = .ok (.iload_n 2, 1) := by decide +kernel
theorem dX9_putOn_2 : decode cX9_putOn 2 = .ok (.iload_n 1, 1) := by decide +kernel
theorem dX9_putOn_3 : decode cX9_putOn 3 = .ok (.invokevirtual 79, 3) := by decide +kernel
theorem dX9_putOn_6 : decode cX9_putOn 6 = .ok (.ifCond .ne 5, 3) := by decide +kernel
theorem dX9_putOn_9 : decode cX9_putOn 9 = .ok (.iconst 1, 1) := by decide +kernel
theorem dX9_putOn_10 : decode cX9_putOn 10 = .ok (.ireturn, 1) := by decide +kernel
theorem dX9_putOn_11 : decode cX9_putOn 11 = .ok (.aload_n 0, 1) := by decide +kernel
theorem dX9_putOn_12 : decode cX9_putOn 12 = .ok (.iload_n 1, 1) := by decide +kernel
theorem dX9_putOn_13 : decode cX9_putOn 13 = .ok (.invokevirtual 110, 3) := by decide +kernel
theorem dX9_putOn_16 : decode cX9_putOn 16 = .ok (.iconst (-1), 1) := by decide +kernel
theorem dX9_putOn_17 : decode cX9_putOn 17 = .ok (.if_icmp .eq 5, 3) := by decide +kernel
theorem dX9_putOn_20 : decode cX9_putOn 20 = .ok (.iconst 2, 1) := by decide +kernel
theorem dX9_putOn_21 : decode cX9_putOn 21 = .ok (.ireturn, 1) := by decide +kernel
theorem dX9_putOn_22 : decode cX9_putOn 22 = .ok (.aload_n 0, 1) := by decide +kernel
theorem dX9_putOn_23 : decode cX9_putOn 23 = .ok (.getfield 36, 3) := by decide +kernel
theorem dX9_putOn_26 : decode cX9_putOn 26 = .ok (.aload_n 0, 1) := by decide +kernel
theorem dX9_putOn_27 : decode cX9_putOn 27 = .ok (.getfield 36, 3) := by decide +kernel
theorem dX9_putOn_30 : decode cX9_putOn 30 = .ok (.getfield 113, 3) := by decide +kernel
theorem dX9_putOn_33 : decode cX9_putOn 33 = .ok (.iload_n 2, 1) := by decide +kernel
theorem dX9_putOn_34 : decode cX9_putOn 34 = .ok (.iaload, 1) := by decide +kernel
theorem dX9_putOn_35 : decode cX9_putOn 35 = .ok (.iload_n 1, 1) := by decide +kernel
theorem dX9_putOn_36 : decode cX9_putOn 36 = .ok (.invokevirtual 116, 3) := by decide +kernel
theorem dX9_putOn_39 : decode cX9_putOn 39 = .ok (.iconst 1, 1) := by decide +kernel
theorem dX9_putOn_40 : decode cX9_putOn 40 = .ok (.if_icmp .eq 5, 3) := by decide +kernel
theorem dX9_putOn_43 : decode cX9_putOn 43 = .ok (.iconst 3, 1) := by decide +kernel
theorem dX9_putOn_44 : decode cX9_putOn 44 = .ok (.ireturn, 1) := by decide +kernel
theorem dX9_putOn_45 : decode cX9_putOn 45 = .ok (.aload_n 0, 1) := by decide +kernel
theorem dX9_putOn_46 : decode cX9_putOn 46 = .ok (.getfield 24, 3) := by decide +kernel
theorem dX9_putOn_49 : decode cX9_putOn 49 = .ok (.iload_n 2, 1) := by decide +kernel
theorem dX9_putOn_50 : decode cX9_putOn 50 = .ok (.iconst 1, 1) := by decide +kernel
theorem dX9_putOn_51 : decode cX9_putOn 51 = .ok (.iastore, 1) := by decide +kernel
theorem dX9_putOn_52 : decode cX9_putOn 52 = .ok (.iconst 0, 1) := by decide +kernel
theorem dX9_putOn_53 : decode cX9_putOn 53 = .ok (.ireturn, 1) := by decide +kernel
set_option maxRecDepth 100000 in
set_option maxHeartbeats 4000000 in
theorem kX9_putOn {E : KE} {l : Launch} (hE : mx_ok E) (o : Nat) (i1 : Int32) (i2 : Int32) (hT : xOK E) (ho : xt_isS o = true) (M : MM) {q : (Int32 × MM)} (hf : fX9_putOn o i1 i2 M = some q) : mx_Met E l yX9_putOn cX9_putOn 3 (some .int) 1 [.ref (E.2.1.2.1 o), .int i1, .int i2] M (some (.int q.1)) q.2 := by
  refine mx_enter hE (by decide) (Nat.le_of_ble_eq_true rfl) ?_
  intro p e s m below meth c C hM hn ls hl
  have hx := C.1.1
  have hb := C.1.2.1
  have hown := C.1.2.2.2.1
  have hts := C.1.2.2.2.2
  have hl : lv_has ls 3 [(0, .ref (E.2.1.2.1 o)), (1, .int i1), (2, .int i2)] := hl
  rw [fX9_putOn] at hf
  refine lv_aload_n hx hb dX9_putOn_0 rfl (lv_at hl 0 rfl) ?_
  refine lv_iload_n hx hb dX9_putOn_1 rfl (lv_at hl 2 rfl) ?_
  refine lv_iload_n hx hb dX9_putOn_2 rfl (lv_at hl 1 rfl) ?_
  obtain ⟨q3, hq3, hf⟩ := mx_bd hf
  refine mx_callV C hM hl.1 yo_X9_isKeptBy (h' := 0) (by decide) qw_729 qw_731 qs_46 (ci := 9) (q := (RX9, TX9, 13)) rfl (xoS hT ho) (As := [.int i2, .int i1]) (rest := []) (st1 := [.int (mx_b q3)]) (kX9_isKeptBy C.2.2.2.1 o i2 i1 hT ho M hq3) rfl rfl rfl (Nat.le_of_ble_eq_true rfl) dX9_putOn_3 (fun H locs hM => ?_)
  refine lv_if_ne (tgt := 11) hx hb dX9_putOn_6 (by decide) (fun hc6 => ?_) (fun hc6 => ?_)
  · replace hf := mx_iff hc6 hf
    refine lv_aload_n hx hb dX9_putOn_11 rfl (lv_at hl 0 rfl) ?_
    refine lv_iload_n hx hb dX9_putOn_12 rfl (lv_at hl 1 rfl) ?_
    obtain ⟨q13, hq13, hf⟩ := mx_bd hf
    refine mx_callV C hM hl.1 yo_X9_wornBy (h' := 0) (by decide) qw_746 qw_748 qs_49 (ci := 9) (q := (RX9, TX9, 13)) rfl (xoS hT ho) (As := [.int i1]) (rest := []) (st1 := [.int q13]) (kX9_wornBy C.2.2.2.1 o i1 hT ho M hq13) rfl rfl rfl (Nat.le_of_ble_eq_true rfl) dX9_putOn_13 (fun H locs hM => ?_)
    refine lv_iconst (v := (-1 : Int32)) hx hb dX9_putOn_16 (by decide) ?_
    refine lv_icmp_eq (tgt := 22) hx hb dX9_putOn_17 (by decide) (fun hc17 => ?_) (fun hc17 => ?_)
    · replace hf := mx_ift hc17 hf
      refine lv_aload_n hx hb dX9_putOn_22 rfl (lv_at hl 0 rfl) ?_
      refine gX9_36 C hM (xoS hT ho) (f := (2, 9)) rfl (v := .ref (E.2.1.2.1 9)) rfl dX9_putOn_23 ?_
      refine lv_aload_n hx hb dX9_putOn_26 rfl (lv_at hl 0 rfl) ?_
      refine gX9_36 C hM (xoS hT ho) (f := (2, 9)) rfl (v := .ref (E.2.1.2.1 9)) rfl dX9_putOn_27 ?_
      refine gX9_113 C hT hM (xt_9 hT) (f := (2, 15)) rfl (v := .ref (E.2.1.2.1 15)) rfl dX9_putOn_30 ?_
      refine lv_iload_n hx hb dX9_putOn_33 rfl (lv_at hl 2 rfl) ?_
      obtain ⟨hg34, hf⟩ := mx_gd hf
      refine mx_iald C hM (xt_15 hT) (mx_in_vp hg34) dX9_putOn_34 ?_
      refine lv_iload_n hx hb dX9_putOn_35 rfl (lv_at hl 1 rfl) ?_
      obtain ⟨q36, hq36, hf⟩ := mx_bd hf
      refine mx_callVN C hM hl.1 yo_X3_feel (h' := 0) (by decide) (nw_750 hT C) qw_667 qs_35 (ci := 3) (q := (RX3, TX3, 18)) rfl (xt_9 hT) (As := [.int (M.1 15 i2.toNatClampNeg), .int i1]) (rest := []) (st1 := [.int q36]) (kX3_feel C.2.2.2.1 (M.1 15 i2.toNatClampNeg) i1 hT M hq36) rfl rfl rfl (Nat.le_of_ble_eq_true rfl) dX9_putOn_36 (fun H locs hM => ?_)
      refine lv_iconst (v := (1 : Int32)) hx hb dX9_putOn_39 (by decide) ?_
      refine lv_icmp_eq (tgt := 45) hx hb dX9_putOn_40 (by decide) (fun hc40 => ?_) (fun hc40 => ?_)
      · replace hf := mx_ift hc40 hf
        refine lv_aload_n hx hb dX9_putOn_45 rfl (lv_at hl 0 rfl) ?_
        refine gX9_24 C hM (xoS hT ho) (f := (2, o + 5)) rfl (v := .ref (E.2.1.2.1 (o + 5))) rfl dX9_putOn_46 ?_
        refine lv_iload_n hx hb dX9_putOn_49 rfl (lv_at hl 2 rfl) ?_
        refine lv_iconst (v := (1 : Int32)) hx hb dX9_putOn_50 (by decide) ?_
        obtain ⟨hg51, hf⟩ := mx_gd hf
        refine mx_iast C hM (xaS_5 hT ho) (mx_in_vp hg51) dX9_putOn_51 (fun H locs hM => ?_)
        refine lv_iconst (v := (0 : Int32)) hx hb dX9_putOn_52 (by decide) ?_
        exact mx_iret C hM hf dX9_putOn_53
      · replace hf := mx_iff hc40 hf
        refine lv_iconst (v := (3 : Int32)) hx hb dX9_putOn_43 (by decide) ?_
        exact mx_iret C hM hf dX9_putOn_44
    · replace hf := mx_iff hc17 hf
      refine lv_iconst (v := (2 : Int32)) hx hb dX9_putOn_20 (by decide) ?_
      exact mx_iret C hM hf dX9_putOn_21
  · replace hf := mx_ift hc6 hf
    refine lv_iconst (v := (1 : Int32)) hx hb dX9_putOn_9 (by decide) ?_
    exact mx_iret C hM hf dX9_putOn_10
theorem dX9_takeOff_0 : decode cX9_takeOff 0 = .ok (.aload_n 0, 1) := by decide +kernel
theorem dX9_takeOff_1 : decode cX9_takeOff 1 = .ok (.iload_n 1, 1) := by decide +kernel
theorem dX9_takeOff_2 : decode cX9_takeOff 2 = .ok (.invokevirtual 110, 3) := by decide +kernel
theorem dX9_takeOff_5 : decode cX9_takeOff 5 = .ok (.istore_n 2, 1) := by decide +kernel
theorem dX9_takeOff_6 : decode cX9_takeOff 6 = .ok (.iload_n 2, 1) := by decide +kernel
theorem dX9_takeOff_7 : decode cX9_takeOff 7 = .ok (.iconst (-1), 1) := by decide +kernel
theorem dX9_takeOff_8 : decode cX9_takeOff 8 = .ok (.if_icmp .ne 5, 3) := by decide +kernel
theorem dX9_takeOff_11 : decode cX9_takeOff 11 = .ok (.iconst 1, 1) := by decide +kernel
theorem dX9_takeOff_12 : decode cX9_takeOff 12 = .ok (.ireturn, 1) := by decide +kernel
theorem dX9_takeOff_13 : decode cX9_takeOff 13 = .ok (.aload_n 0, 1) := by decide +kernel
theorem dX9_takeOff_14 : decode cX9_takeOff 14 = .ok (.getfield 24, 3) := by decide +kernel
theorem dX9_takeOff_17 : decode cX9_takeOff 17 = .ok (.iload_n 2, 1) := by decide +kernel
theorem dX9_takeOff_18 : decode cX9_takeOff 18 = .ok (.iconst 0, 1) := by decide +kernel
theorem dX9_takeOff_19 : decode cX9_takeOff 19 = .ok (.iastore, 1) := by decide +kernel
theorem dX9_takeOff_20 : decode cX9_takeOff 20 = .ok (.iconst 0, 1) := by decide +kernel
theorem dX9_takeOff_21 : decode cX9_takeOff 21 = .ok (.ireturn, 1) := by decide +kernel
set_option maxRecDepth 100000 in
set_option maxHeartbeats 4000000 in
theorem kX9_takeOff {E : KE} {l : Launch} (hE : mx_ok E) (o : Nat) (i1 : Int32) (hT : xOK E) (ho : xt_isS o = true) (M : MM) {q : (Int32 × MM)} (hf : fX9_takeOff o i1 M = some q) : mx_Met E l yX9_takeOff cX9_takeOff 3 (some .int) 1 [.ref (E.2.1.2.1 o), .int i1] M (some (.int q.1)) q.2 := by
  refine mx_enter hE (by decide) (Nat.le_of_ble_eq_true rfl) ?_
  intro p e s m below meth c C hM hn ls hl
  have hx := C.1.1
  have hb := C.1.2.1
  have hown := C.1.2.2.2.1
  have hts := C.1.2.2.2.2
  have hl : lv_has ls 3 [(0, .ref (E.2.1.2.1 o)), (1, .int i1)] := hl
  rw [fX9_takeOff] at hf
  refine lv_aload_n hx hb dX9_takeOff_0 rfl (lv_at hl 0 rfl) ?_
  refine lv_iload_n hx hb dX9_takeOff_1 rfl (lv_at hl 1 rfl) ?_
  obtain ⟨q2, hq2, hf⟩ := mx_bd hf
  refine mx_callV C hM hl.1 yo_X9_wornBy (h' := 0) (by decide) qw_746 qw_748 qs_49 (ci := 9) (q := (RX9, TX9, 13)) rfl (xoS hT ho) (As := [.int i1]) (rest := []) (st1 := [.int q2]) (kX9_wornBy C.2.2.2.1 o i1 hT ho M hq2) rfl rfl rfl (Nat.le_of_ble_eq_true rfl) dX9_takeOff_2 (fun H locs hM => ?_)
  refine lv_istore_n (lv' := [(2, .int q2), (0, .ref (E.2.1.2.1 o)), (1, .int i1)]) hx hb dX9_takeOff_5 rfl hl (by decide) rfl (fun ls hl => ?_)
  refine lv_iload_n hx hb dX9_takeOff_6 rfl (lv_at hl 0 rfl) ?_
  refine lv_iconst (v := (-1 : Int32)) hx hb dX9_takeOff_7 (by decide) ?_
  refine lv_icmp_ne (tgt := 13) hx hb dX9_takeOff_8 (by decide) (fun hc8 => ?_) (fun hc8 => ?_)
  · replace hf := mx_iff hc8 hf
    refine lv_aload_n hx hb dX9_takeOff_13 rfl (lv_at hl 1 rfl) ?_
    refine gX9_24 C hM (xoS hT ho) (f := (2, o + 5)) rfl (v := .ref (E.2.1.2.1 (o + 5))) rfl dX9_takeOff_14 ?_
    refine lv_iload_n hx hb dX9_takeOff_17 rfl (lv_at hl 0 rfl) ?_
    refine lv_iconst (v := (0 : Int32)) hx hb dX9_takeOff_18 (by decide) ?_
    obtain ⟨hg19, hf⟩ := mx_gd hf
    refine mx_iast C hM (xaS_5 hT ho) (mx_in_vp hg19) dX9_takeOff_19 (fun H locs hM => ?_)
    refine lv_iconst (v := (0 : Int32)) hx hb dX9_takeOff_20 (by decide) ?_
    exact mx_iret C hM hf dX9_takeOff_21
  · replace hf := mx_ift hc8 hf
    refine lv_iconst (v := (1 : Int32)) hx hb dX9_takeOff_11 (by decide) ?_
    exact mx_iret C hM hf dX9_takeOff_12
theorem dX9_pickUp_0 : decode cX9_pickUp 0 = .ok (.aload_n 0, 1) := by decide +kernel
theorem dX9_pickUp_1 : decode cX9_pickUp 1 = .ok (.getfield 24, 3) := by decide +kernel
theorem dX9_pickUp_4 : decode cX9_pickUp 4 = .ok (.iload_n 2, 1) := by decide +kernel
theorem dX9_pickUp_5 : decode cX9_pickUp 5 = .ok (.iaload, 1) := by decide +kernel
theorem dX9_pickUp_6 : decode cX9_pickUp 6 = .ok (.iconst 2, 1) := by decide +kernel
theorem dX9_pickUp_7 : decode cX9_pickUp 7 = .ok (.if_icmp .eq 5, 3) := by decide +kernel
theorem dX9_pickUp_10 : decode cX9_pickUp 10 = .ok (.iconst 1, 1) := by decide +kernel
theorem dX9_pickUp_11 : decode cX9_pickUp 11 = .ok (.ireturn, 1) := by decide +kernel
theorem dX9_pickUp_12 : decode cX9_pickUp 12 = .ok (.aload_n 0, 1) := by decide +kernel
theorem dX9_pickUp_13 : decode cX9_pickUp 13 = .ok (.iload_n 1, 1) := by decide +kernel
theorem dX9_pickUp_14 : decode cX9_pickUp 14 = .ok (.aload_n 0, 1) := by decide +kernel
theorem dX9_pickUp_15 : decode cX9_pickUp 15 = .ok (.getfield 27, 3) := by decide +kernel
theorem dX9_pickUp_18 : decode cX9_pickUp 18 = .ok (.iload_n 2, 1) := by decide +kernel
theorem dX9_pickUp_19 : decode cX9_pickUp 19 = .ok (.iaload, 1) := by decide +kernel
theorem dX9_pickUp_20 : decode cX9_pickUp 20 = .ok (.aload_n 0, 1) := by decide +kernel
theorem dX9_pickUp_21 : decode cX9_pickUp 21 = .ok (.getfield 30, 3) := by decide +kernel
theorem dX9_pickUp_24 : decode cX9_pickUp 24 = .ok (.iload_n 2, 1) := by decide +kernel
theorem dX9_pickUp_25 : decode cX9_pickUp 25 = .ok (.iaload, 1) := by decide +kernel
theorem dX9_pickUp_26 : decode cX9_pickUp 26 = .ok (.invokevirtual 103, 3) := by decide +kernel
theorem dX9_pickUp_29 : decode cX9_pickUp 29 = .ok (.ifCond .eq 5, 3) := by decide +kernel
theorem dX9_pickUp_32 : decode cX9_pickUp 32 = .ok (.iconst 2, 1) := by decide +kernel
theorem dX9_pickUp_33 : decode cX9_pickUp 33 = .ok (.ireturn, 1) := by decide +kernel
theorem dX9_pickUp_34 : decode cX9_pickUp 34 = .ok (.aload_n 0, 1) := by decide +kernel
theorem dX9_pickUp_35 : decode cX9_pickUp 35 = .ok (.getfield 24, 3) := by decide +kernel
theorem dX9_pickUp_38 : decode cX9_pickUp 38 = .ok (.iload_n 2, 1) := by decide +kernel
theorem dX9_pickUp_39 : decode cX9_pickUp 39 = .ok (.iconst 0, 1) := by decide +kernel
theorem dX9_pickUp_40 : decode cX9_pickUp 40 = .ok (.iastore, 1) := by decide +kernel
theorem dX9_pickUp_41 : decode cX9_pickUp 41 = .ok (.aload_n 0, 1) := by decide +kernel
theorem dX9_pickUp_42 : decode cX9_pickUp 42 = .ok (.getfield 21, 3) := by decide +kernel
theorem dX9_pickUp_45 : decode cX9_pickUp 45 = .ok (.iload_n 2, 1) := by decide +kernel
theorem dX9_pickUp_46 : decode cX9_pickUp 46 = .ok (.iload_n 1, 1) := by decide +kernel
theorem dX9_pickUp_47 : decode cX9_pickUp 47 = .ok (.iastore, 1) := by decide +kernel
theorem dX9_pickUp_48 : decode cX9_pickUp 48 = .ok (.iconst 0, 1) := by decide +kernel
theorem dX9_pickUp_49 : decode cX9_pickUp 49 = .ok (.ireturn, 1) := by decide +kernel
set_option maxRecDepth 100000 in
set_option maxHeartbeats 4000000 in
theorem kX9_pickUp {E : KE} {l : Launch} (hE : mx_ok E) (o : Nat) (i1 : Int32) (i2 : Int32) (hT : xOK E) (ho : xt_isS o = true) (M : MM) {q : (Int32 × MM)} (hf : fX9_pickUp o i1 i2 M = some q) : mx_Met E l yX9_pickUp cX9_pickUp 3 (some .int) 2 [.ref (E.2.1.2.1 o), .int i1, .int i2] M (some (.int q.1)) q.2 := by
  refine mx_enter hE (by decide) (Nat.le_of_ble_eq_true rfl) ?_
  intro p e s m below meth c C hM hn ls hl
  have hx := C.1.1
  have hb := C.1.2.1
  have hown := C.1.2.2.2.1
  have hts := C.1.2.2.2.2
  have hl : lv_has ls 3 [(0, .ref (E.2.1.2.1 o)), (1, .int i1), (2, .int i2)] := hl
  rw [fX9_pickUp] at hf
  refine lv_aload_n hx hb dX9_pickUp_0 rfl (lv_at hl 0 rfl) ?_
  refine gX9_24 C hM (xoS hT ho) (f := (2, o + 5)) rfl (v := .ref (E.2.1.2.1 (o + 5))) rfl dX9_pickUp_1 ?_
  refine lv_iload_n hx hb dX9_pickUp_4 rfl (lv_at hl 2 rfl) ?_
  obtain ⟨hg5, hf⟩ := mx_gd hf
  refine mx_iald C hM (xaS_5 hT ho) (mx_in_vp hg5) dX9_pickUp_5 ?_
  refine lv_iconst (v := (2 : Int32)) hx hb dX9_pickUp_6 (by decide) ?_
  refine lv_icmp_eq (tgt := 12) hx hb dX9_pickUp_7 (by decide) (fun hc7 => ?_) (fun hc7 => ?_)
  · replace hf := mx_ift hc7 hf
    refine lv_aload_n hx hb dX9_pickUp_12 rfl (lv_at hl 0 rfl) ?_
    refine lv_iload_n hx hb dX9_pickUp_13 rfl (lv_at hl 1 rfl) ?_
    refine lv_aload_n hx hb dX9_pickUp_14 rfl (lv_at hl 0 rfl) ?_
    refine gX9_27 C hM (xoS hT ho) (f := (2, o + 6)) rfl (v := .ref (E.2.1.2.1 (o + 6))) rfl dX9_pickUp_15 ?_
    refine lv_iload_n hx hb dX9_pickUp_18 rfl (lv_at hl 2 rfl) ?_
    obtain ⟨hg19, hf⟩ := mx_gd hf
    refine mx_iald C hM (xaS_6 hT ho) (mx_in_vp hg19) dX9_pickUp_19 ?_
    refine lv_aload_n hx hb dX9_pickUp_20 rfl (lv_at hl 0 rfl) ?_
    refine gX9_30 C hM (xoS hT ho) (f := (2, o + 7)) rfl (v := .ref (E.2.1.2.1 (o + 7))) rfl dX9_pickUp_21 ?_
    refine lv_iload_n hx hb dX9_pickUp_24 rfl (lv_at hl 2 rfl) ?_
    obtain ⟨hg25, hf⟩ := mx_gd hf
    refine mx_iald C hM (xaS_7 hT ho) (mx_in_vp hg25) dX9_pickUp_25 ?_
    obtain ⟨q26, hq26, hf⟩ := mx_bd hf
    refine mx_callV C hM hl.1 yo_X9_farTo (h' := 1) (by decide) qw_701 qw_703 qs_41 (ci := 9) (q := (RX9, TX9, 13)) rfl (xoS hT ho) (As := [.int i1, .int (M.1 (o + 6) i2.toNatClampNeg), .int (M.1 (o + 7) i2.toNatClampNeg)]) (rest := []) (st1 := [.int q26]) (kX9_farTo C.2.2.2.1 o i1 (M.1 (o + 6) i2.toNatClampNeg) (M.1 (o + 7) i2.toNatClampNeg) hT ho M hq26) rfl rfl rfl (Nat.le_of_ble_eq_true rfl) dX9_pickUp_26 (fun H locs hM => ?_)
    refine lv_if_eq (tgt := 34) hx hb dX9_pickUp_29 (by decide) (fun hc29 => ?_) (fun hc29 => ?_)
    · replace hf := mx_ift hc29 hf
      refine lv_aload_n hx hb dX9_pickUp_34 rfl (lv_at hl 0 rfl) ?_
      refine gX9_24 C hM (xoS hT ho) (f := (2, o + 5)) rfl (v := .ref (E.2.1.2.1 (o + 5))) rfl dX9_pickUp_35 ?_
      refine lv_iload_n hx hb dX9_pickUp_38 rfl (lv_at hl 2 rfl) ?_
      refine lv_iconst (v := (0 : Int32)) hx hb dX9_pickUp_39 (by decide) ?_
      obtain ⟨hg40, hf⟩ := mx_gd hf
      refine mx_iast C hM (xaS_5 hT ho) (mx_in_vp hg40) dX9_pickUp_40 (fun H locs hM => ?_)
      refine lv_aload_n hx hb dX9_pickUp_41 rfl (lv_at hl 0 rfl) ?_
      refine gX9_21 C hM (xoS hT ho) (f := (2, o + 4)) rfl (v := .ref (E.2.1.2.1 (o + 4))) rfl dX9_pickUp_42 ?_
      refine lv_iload_n hx hb dX9_pickUp_45 rfl (lv_at hl 2 rfl) ?_
      refine lv_iload_n hx hb dX9_pickUp_46 rfl (lv_at hl 1 rfl) ?_
      obtain ⟨hg47, hf⟩ := mx_gd hf
      refine mx_iast C hM (xaS_4 hT ho) (mx_in_vp hg47) dX9_pickUp_47 (fun H locs hM => ?_)
      refine lv_iconst (v := (0 : Int32)) hx hb dX9_pickUp_48 (by decide) ?_
      exact mx_iret C hM hf dX9_pickUp_49
    · replace hf := mx_iff hc29 hf
      refine lv_iconst (v := (2 : Int32)) hx hb dX9_pickUp_32 (by decide) ?_
      exact mx_iret C hM hf dX9_pickUp_33
  · replace hf := mx_iff hc7 hf
    refine lv_iconst (v := (1 : Int32)) hx hb dX9_pickUp_10 (by decide) ?_
    exact mx_iret C hM hf dX9_pickUp_11
theorem dX9_isWithOwner_0 : decode cX9_isWithOwner 0 = .ok (.aload_n 0, 1) := by decide +kernel
theorem dX9_isWithOwner_1 : decode cX9_isWithOwner 1 = .ok (.getfield 21, 3) := by decide +kernel
theorem dX9_isWithOwner_4 : decode cX9_isWithOwner 4 = .ok (.iload_n 1, 1) := by decide +kernel
theorem dX9_isWithOwner_5 : decode cX9_isWithOwner 5 = .ok (.iaload, 1) := by decide +kernel
theorem dX9_isWithOwner_6 : decode cX9_isWithOwner 6 = .ok (.aload_n 0, 1) := by decide +kernel
theorem dX9_isWithOwner_7 : decode cX9_isWithOwner 7 = .ok (.getfield 36, 3) := by decide +kernel
theorem dX9_isWithOwner_10 : decode cX9_isWithOwner 10 = .ok (.getfield 87, 3) := by decide +kernel
theorem dX9_isWithOwner_13 : decode cX9_isWithOwner 13 = .ok (.iload_n 1, 1) := by decide +kernel
theorem dX9_isWithOwner_14 : decode cX9_isWithOwner 14 = .ok (.iaload, 1) := by decide +kernel
theorem dX9_isWithOwner_15 : decode cX9_isWithOwner 15 = .ok (.if_icmp .ne 7, 3) := by decide +kernel
theorem dX9_isWithOwner_18 : decode cX9_isWithOwner 18 = .ok (.iconst 1, 1) := by decide +kernel
theorem dX9_isWithOwner_19 : decode cX9_isWithOwner 19 = .ok (.goto 4, 3) := by decide +kernel
theorem dX9_isWithOwner_22 : decode cX9_isWithOwner 22 = .ok (.iconst 0, 1) := by decide +kernel
theorem dX9_isWithOwner_23 : decode cX9_isWithOwner 23 = .ok (.ireturn, 1) := by decide +kernel
set_option maxRecDepth 100000 in
set_option maxHeartbeats 4000000 in
theorem kX9_isWithOwner {E : KE} {l : Launch} (hE : mx_ok E) (o : Nat) (i1 : Int32) (hT : xOK E) (ho : xt_isS o = true) (M : MM) {q : Bool} (hf : fX9_isWithOwner o i1 M = some q) : mx_Met E l yX9_isWithOwner cX9_isWithOwner 2 (some .boolean) 0 [.ref (E.2.1.2.1 o), .int i1] M (some (.int (mx_b q))) M := by
  refine mx_enter hE (by decide) (Nat.le_of_ble_eq_true rfl) ?_
  intro p e s m below meth c C hM hn ls hl
  have hx := C.1.1
  have hb := C.1.2.1
  have hown := C.1.2.2.2.1
  have hts := C.1.2.2.2.2
  have hl : lv_has ls 2 [(0, .ref (E.2.1.2.1 o)), (1, .int i1)] := hl
  rw [fX9_isWithOwner] at hf
  refine lv_aload_n hx hb dX9_isWithOwner_0 rfl (lv_at hl 0 rfl) ?_
  refine gX9_21 C hM (xoS hT ho) (f := (2, o + 4)) rfl (v := .ref (E.2.1.2.1 (o + 4))) rfl dX9_isWithOwner_1 ?_
  refine lv_iload_n hx hb dX9_isWithOwner_4 rfl (lv_at hl 1 rfl) ?_
  obtain ⟨hg5, hf⟩ := mx_gd hf
  refine mx_iald C hM (xaS_4 hT ho) (mx_in_vp hg5) dX9_isWithOwner_5 ?_
  refine lv_aload_n hx hb dX9_isWithOwner_6 rfl (lv_at hl 0 rfl) ?_
  refine gX9_36 C hM (xoS hT ho) (f := (2, 9)) rfl (v := .ref (E.2.1.2.1 9)) rfl dX9_isWithOwner_7 ?_
  refine gX9_87 C hT hM (xt_9 hT) (f := (2, 16)) rfl (v := .ref (E.2.1.2.1 16)) rfl dX9_isWithOwner_10 ?_
  refine lv_iload_n hx hb dX9_isWithOwner_13 rfl (lv_at hl 1 rfl) ?_
  obtain ⟨hg14, hf⟩ := mx_gd hf
  refine mx_iald C hM (xt_16 hT) (mx_in_vp hg14) dX9_isWithOwner_14 ?_
  refine lv_icmp_ne (tgt := 22) hx hb dX9_isWithOwner_15 (by decide) (fun hc15 => ?_) (fun hc15 => ?_)
  · replace hf := mx_iff hc15 hf
    refine lv_iconst (v := (0 : Int32)) hx hb dX9_isWithOwner_22 (by decide) ?_
    exact mx_zretR C hM (b := false) rfl hf dX9_isWithOwner_23
  · replace hf := mx_ift hc15 hf
    refine lv_iconst (v := (1 : Int32)) hx hb dX9_isWithOwner_18 (by decide) ?_
    refine lv_goto (tgt := 23) hx hb dX9_isWithOwner_19 (by decide) ?_
    exact mx_zretR C hM (b := true) rfl hf dX9_isWithOwner_23
theorem dX9_keptBy_0 : decode cX9_keptBy 0 = .ok (.iconst 0, 1) := by decide +kernel
theorem dX9_keptBy_1 : decode cX9_keptBy 1 = .ok (.istore_n 2, 1) := by decide +kernel
theorem dX9_keptBy_2 : decode cX9_keptBy 2 = .ok (.iconst 0, 1) := by decide +kernel
theorem dX9_keptBy_3 : decode cX9_keptBy 3 = .ok (.istore_n 3, 1) := by decide +kernel
theorem dX9_keptBy_4 : decode cX9_keptBy 4 = .ok (.iload_n 3, 1) := by decide +kernel
theorem dX9_keptBy_5 : decode cX9_keptBy 5 = .ok (.aload_n 0, 1) := by decide +kernel
theorem dX9_keptBy_6 : decode cX9_keptBy 6 = .ok (.getfield 36, 3) := by decide +kernel
theorem dX9_keptBy_9 : decode cX9_keptBy 9 = .ok (.getfield 52, 3) := by decide +kernel
theorem dX9_keptBy_12 : decode cX9_keptBy 12 = .ok (.if_icmp .ge 24, 3) := by decide +kernel
theorem dX9_keptBy_15 : decode cX9_keptBy 15 = .ok (.aload_n 0, 1) := by decide +kernel
theorem dX9_keptBy_16 : decode cX9_keptBy 16 = .ok (.iload_n 3, 1) := by decide +kernel
theorem dX9_keptBy_17 : decode cX9_keptBy 17 = .ok (.iload_n 1, 1) := by decide +kernel
theorem dX9_keptBy_18 : decode cX9_keptBy 18 = .ok (.invokevirtual 79, 3) := by decide +kernel
theorem dX9_keptBy_21 : decode cX9_keptBy 21 = .ok (.ifCond .eq 9, 3) := by decide +kernel
theorem dX9_keptBy_24 : decode cX9_keptBy 24 = .ok (.iload_n 2, 1) := by decide +kernel
theorem dX9_keptBy_25 : decode cX9_keptBy 25 = .ok (.iconst 1, 1) := by decide +kernel
theorem dX9_keptBy_26 : decode cX9_keptBy 26 = .ok (.iload_n 3, 1) := by decide +kernel
theorem dX9_keptBy_27 : decode cX9_keptBy 27 = .ok (.ishl, 1) := by decide +kernel
theorem dX9_keptBy_28 : decode cX9_keptBy 28 = .ok (.ior, 1) := by decide +kernel
theorem dX9_keptBy_29 : decode cX9_keptBy 29 = .ok (.istore_n 2, 1) := by decide +kernel
theorem dX9_keptBy_30 : decode cX9_keptBy 30 = .ok (.iinc 3 1, 3) := by decide +kernel
theorem dX9_keptBy_33 : decode cX9_keptBy 33 = .ok (.goto (-29), 3) := by decide +kernel
theorem dX9_keptBy_36 : decode cX9_keptBy 36 = .ok (.iload_n 2, 1) := by decide +kernel
theorem dX9_keptBy_37 : decode cX9_keptBy 37 = .ok (.ireturn, 1) := by decide +kernel
set_option maxRecDepth 100000 in
set_option maxHeartbeats 4000000 in
theorem wfX9_keptBy_4 {E : KE} {p : Program} {l : Launch} {e : Env} {s : State} {m : MethodId} {args : Array Value} {below : List Frame} {meth : Method} {c : Code} {q : Int32} (C : mx_C E p m c cX9_keptBy 4 s args RX9 meth (some .int)) (o : Nat) (i1 : Int32) (M : MM) (hT : xOK E) (ho : xt_isS o = true)   : ∀ (n : Nat) (i2 : Int32) (i3 : Int32) (H : Heap) (locs : List Loc) (ls : Array Slot), fX9_keptBy_4 o i1 M n i2 i3 = some q → mx_H E s M H locs → lv_has ls 4 [(0, .ref (E.2.1.2.1 o)), (1, .int i1), (2, .int i2), (3, .int i3)] → W p l e (mx_rm 1) s m args below meth c H locs 0 0 (mx_Z E below args s (some (.int q)) M) (F0 m 4 ls []) := by
  have hx := C.1.1
  have hb := C.1.2.1
  have hown := C.1.2.2.2.1
  have hts := C.1.2.2.2.2
  intro n
  induction n with
  | zero =>
    intro i2 i3 H locs ls hf hM hl
    rw [fX9_keptBy_4] at hf
    cases hf
  | succ n ih =>
    intro i2 i3 H locs ls hf hM hl
    rw [fX9_keptBy_4] at hf
    refine lv_iload_n hx hb dX9_keptBy_4 rfl (lv_at hl 3 rfl) ?_
    refine lv_aload_n hx hb dX9_keptBy_5 rfl (lv_at hl 0 rfl) ?_
    refine gX9_36 C hM (xoS hT ho) (f := (2, 9)) rfl (v := .ref (E.2.1.2.1 9)) rfl dX9_keptBy_6 ?_
    refine gX9_52 C hT hM (xt_9 hT) (f := (0, 0)) rfl (v := .int (M.1 9 1)) rfl dX9_keptBy_9 ?_
    refine lv_icmp_ge (tgt := 36) hx hb dX9_keptBy_12 (by decide) (fun hc12 => ?_) (fun hc12 => ?_)
    · replace hf := mx_ift hc12 hf
      refine lv_iload_n hx hb dX9_keptBy_36 rfl (lv_at hl 2 rfl) ?_
      exact mx_iretR C hM hf dX9_keptBy_37
    · replace hf := mx_iff hc12 hf
      refine lv_aload_n hx hb dX9_keptBy_15 rfl (lv_at hl 0 rfl) ?_
      refine lv_iload_n hx hb dX9_keptBy_16 rfl (lv_at hl 3 rfl) ?_
      refine lv_iload_n hx hb dX9_keptBy_17 rfl (lv_at hl 1 rfl) ?_
      obtain ⟨q18, hq18, hf⟩ := mx_bd hf
      refine mx_callV C hM hl.1 yo_X9_isKeptBy (h' := 0) (by decide) qw_729 qw_731 qs_46 (ci := 9) (q := (RX9, TX9, 13)) rfl (xoS hT ho) (As := [.int i3, .int i1]) (rest := []) (st1 := [.int (mx_b q18)]) (kX9_isKeptBy C.2.2.2.1 o i3 i1 hT ho M hq18) rfl rfl rfl (Nat.le_of_ble_eq_true rfl) dX9_keptBy_18 (fun H locs hM => ?_)
      refine lv_if_eq (tgt := 30) hx hb dX9_keptBy_21 (by decide) (fun hc21 => ?_) (fun hc21 => ?_)
      · replace hf := mx_ift hc21 hf
        refine lv_iinc (v := (i3 + (1 : Int32))) (lv' := [(3, .int (i3 + (1 : Int32))), (0, .ref (E.2.1.2.1 o)), (1, .int i1), (2, .int i2)]) hx hb dX9_keptBy_30 hl (k := 3) rfl rfl (by decide) rfl (fun ls hl => ?_)
        refine lv_goto (tgt := 4) hx hb dX9_keptBy_33 (by decide) ?_
        exact ih i2 (i3 + (1 : Int32)) _ _ _ hf hM (lv_sub hl [1, 2, 3, 0] rfl)
      · replace hf := mx_iff hc21 hf
        refine lv_iload_n hx hb dX9_keptBy_24 rfl (lv_at hl 2 rfl) ?_
        refine lv_iconst (v := (1 : Int32)) hx hb dX9_keptBy_25 (by decide) ?_
        refine lv_iload_n hx hb dX9_keptBy_26 rfl (lv_at hl 3 rfl) ?_
        refine lv_ishl hx hb dX9_keptBy_27 ?_
        refine lv_ior hx hb dX9_keptBy_28 ?_
        refine lv_istore_n (lv' := [(2, .int (i2 ||| ((1 : Int32) <<< (i3 &&& 31)))), (0, .ref (E.2.1.2.1 o)), (1, .int i1), (3, .int i3)]) hx hb dX9_keptBy_29 rfl hl (by decide) rfl (fun ls hl => ?_)
        refine lv_iinc (v := (i3 + (1 : Int32))) (lv' := [(3, .int (i3 + (1 : Int32))), (2, .int (i2 ||| ((1 : Int32) <<< (i3 &&& 31)))), (0, .ref (E.2.1.2.1 o)), (1, .int i1)]) hx hb dX9_keptBy_30 hl (k := 3) rfl rfl (by decide) rfl (fun ls hl => ?_)
        refine lv_goto (tgt := 4) hx hb dX9_keptBy_33 (by decide) ?_
        exact ih (i2 ||| ((1 : Int32) <<< (i3 &&& 31))) (i3 + (1 : Int32)) _ _ _ hf hM (lv_sub hl [2, 3, 1, 0] rfl)
set_option maxRecDepth 100000 in
set_option maxHeartbeats 4000000 in
theorem kX9_keptBy {E : KE} {l : Launch} (hE : mx_ok E) (o : Nat) (i1 : Int32) (hT : xOK E) (ho : xt_isS o = true) (M : MM) {q : Int32} (hf : fX9_keptBy o i1 M = some q) : mx_Met E l yX9_keptBy cX9_keptBy 4 (some .int) 1 [.ref (E.2.1.2.1 o), .int i1] M (some (.int q)) M := by
  refine mx_enter hE (by decide) (Nat.le_of_ble_eq_true rfl) ?_
  intro p e s m below meth c C hM hn ls hl
  have hx := C.1.1
  have hb := C.1.2.1
  have hown := C.1.2.2.2.1
  have hts := C.1.2.2.2.2
  have hl : lv_has ls 4 [(0, .ref (E.2.1.2.1 o)), (1, .int i1)] := hl
  rw [fX9_keptBy] at hf
  refine lv_iconst (v := (0 : Int32)) hx hb dX9_keptBy_0 (by decide) ?_
  refine lv_istore_n (lv' := [(2, .int (0 : Int32)), (0, .ref (E.2.1.2.1 o)), (1, .int i1)]) hx hb dX9_keptBy_1 rfl hl (by decide) rfl (fun ls hl => ?_)
  refine lv_iconst (v := (0 : Int32)) hx hb dX9_keptBy_2 (by decide) ?_
  refine lv_istore_n (lv' := [(3, .int (0 : Int32)), (2, .int (0 : Int32)), (0, .ref (E.2.1.2.1 o)), (1, .int i1)]) hx hb dX9_keptBy_3 rfl hl (by decide) rfl (fun ls hl => ?_)
  exact wfX9_keptBy_4 C o i1 M hT ho mx_fu (0 : Int32) (0 : Int32) _ _ _ hf hM (lv_sub hl [2, 3, 1, 0] rfl)
theorem dX9_loseGreatest_0 : decode cX9_loseGreatest 0 = .ok (.aload_n 0, 1) := by decide +kernel
theorem dX9_loseGreatest_1 : decode cX9_loseGreatest 1 = .ok (.getfield 36, 3) := by decide +kernel
theorem dX9_loseGreatest_4 : decode cX9_loseGreatest 4 = .ok (.getfield 52, 3) := by decide +kernel
theorem dX9_loseGreatest_7 : decode cX9_loseGreatest 7 = .ok (.iconst 1, 1) := by decide +kernel
theorem dX9_loseGreatest_8 : decode cX9_loseGreatest 8 = .ok (.isub, 1) := by decide +kernel
theorem dX9_loseGreatest_9 : decode cX9_loseGreatest 9 = .ok (.istore_n 3, 1) := by decide +kernel
theorem dX9_loseGreatest_10 : decode cX9_loseGreatest 10 = .ok (.iload_n 3, 1) := by decide +kernel
theorem dX9_loseGreatest_11 : decode cX9_loseGreatest 11 = .ok (.ifCond .lt 57, 3) := by decide +kernel
theorem dX9_loseGreatest_14 : decode cX9_loseGreatest 14 = .ok (.iload_n 2, 1) := by decide +kernel
theorem dX9_loseGreatest_15 : decode cX9_loseGreatest 15 = .ok (.iload_n 3, 1) := by decide +kernel
theorem dX9_loseGreatest_16 : decode cX9_loseGreatest 16 = .ok (.ishr, 1) := by decide +kernel
theorem dX9_loseGreatest_17 : decode cX9_loseGreatest 17 = .ok (.iconst 1, 1) := by decide +kernel
theorem dX9_loseGreatest_18 : decode cX9_loseGreatest 18 = .ok (.iand, 1) := by decide +kernel
theorem dX9_loseGreatest_19 : decode cX9_loseGreatest 19 = .ok (.iconst 1, 1) := by decide +kernel
theorem dX9_loseGreatest_20 : decode cX9_loseGreatest 20 = .ok (.if_icmp .ne 42, 3) := by decide +kernel
theorem dX9_loseGreatest_23 : decode cX9_loseGreatest 23 = .ok (.aload_n 0, 1) := by decide +kernel
theorem dX9_loseGreatest_24 : decode cX9_loseGreatest 24 = .ok (.getfield 24, 3) := by decide +kernel
theorem dX9_loseGreatest_27 : decode cX9_loseGreatest 27 = .ok (.iload_n 3, 1) := by decide +kernel
theorem dX9_loseGreatest_28 : decode cX9_loseGreatest 28 = .ok (.iconst 2, 1) := by decide +kernel
theorem dX9_loseGreatest_29 : decode cX9_loseGreatest 29 = .ok (.iastore, 1) := by decide +kernel
theorem dX9_loseGreatest_30 : decode cX9_loseGreatest 30 = .ok (.aload_n 0, 1) := by decide +kernel
theorem dX9_loseGreatest_31 : decode cX9_loseGreatest 31 = .ok (.getfield 21, 3) := by decide +kernel
theorem dX9_loseGreatest_34 : decode cX9_loseGreatest 34 = .ok (.iload_n 3, 1) := by decide +kernel
theorem dX9_loseGreatest_35 : decode cX9_loseGreatest 35 = .ok (.iconst (-1), 1) := by decide +kernel
theorem dX9_loseGreatest_36 : decode cX9_loseGreatest 36 = .ok (.iastore, 1) := by decide +kernel
theorem dX9_loseGreatest_37 : decode cX9_loseGreatest 37 = .ok (.aload_n 0, 1) := by decide +kernel
theorem dX9_loseGreatest_38 : decode cX9_loseGreatest 38 = .ok (.getfield 27, 3) := by decide +kernel
theorem dX9_loseGreatest_41 : decode cX9_loseGreatest 41 = .ok (.iload_n 3, 1) := by decide +kernel
theorem dX9_loseGreatest_42 : decode cX9_loseGreatest 42 = .ok (.aload_n 0, 1) := by decide +kernel
theorem dX9_loseGreatest_43 : decode cX9_loseGreatest 43 = .ok (.getfield 9, 3) := by decide +kernel
theorem dX9_loseGreatest_46 : decode cX9_loseGreatest 46 = .ok (.iload_n 1, 1) := by decide +kernel
theorem dX9_loseGreatest_47 : decode cX9_loseGreatest 47 = .ok (.iaload, 1) := by decide +kernel
theorem dX9_loseGreatest_48 : decode cX9_loseGreatest 48 = .ok (.iastore, 1) := by decide +kernel
theorem dX9_loseGreatest_49 : decode cX9_loseGreatest 49 = .ok (.aload_n 0, 1) := by decide +kernel
theorem dX9_loseGreatest_50 : decode cX9_loseGreatest 50 = .ok (.getfield 30, 3) := by decide +kernel
theorem dX9_loseGreatest_53 : decode cX9_loseGreatest 53 = .ok (.iload_n 3, 1) := by decide +kernel
theorem dX9_loseGreatest_54 : decode cX9_loseGreatest 54 = .ok (.aload_n 0, 1) := by decide +kernel
theorem dX9_loseGreatest_55 : decode cX9_loseGreatest 55 = .ok (.getfield 15, 3) := by decide +kernel
theorem dX9_loseGreatest_58 : decode cX9_loseGreatest 58 = .ok (.iload_n 1, 1) := by decide +kernel
theorem dX9_loseGreatest_59 : decode cX9_loseGreatest 59 = .ok (.iaload, 1) := by decide +kernel
theorem dX9_loseGreatest_60 : decode cX9_loseGreatest 60 = .ok (.iastore, 1) := by decide +kernel
theorem dX9_loseGreatest_61 : decode cX9_loseGreatest 61 = .ok (.return_, 1) := by decide +kernel
theorem dX9_loseGreatest_62 : decode cX9_loseGreatest 62 = .ok (.iinc 3 (-1), 3) := by decide +kernel
theorem dX9_loseGreatest_65 : decode cX9_loseGreatest 65 = .ok (.goto (-55), 3) := by decide +kernel
theorem dX9_loseGreatest_68 : decode cX9_loseGreatest 68 = .ok (.return_, 1) := by decide +kernel
set_option maxRecDepth 100000 in
set_option maxHeartbeats 4000000 in
theorem wfX9_loseGreatest_10 {E : KE} {p : Program} {l : Launch} {e : Env} {s : State} {m : MethodId} {args : Array Value} {below : List Frame} {meth : Method} {c : Code} {q : MM} (C : mx_C E p m c cX9_loseGreatest 4 s args RX9 meth none) (o : Nat) (i1 : Int32) (i2 : Int32) (hT : xOK E) (ho : xt_isS o = true)   : ∀ (n : Nat) (i3 : Int32) (M : MM) (H : Heap) (locs : List Loc) (ls : Array Slot), fX9_loseGreatest_10 o i1 i2 n i3 M = some q → mx_H E s M H locs → lv_has ls 4 [(0, .ref (E.2.1.2.1 o)), (1, .int i1), (2, .int i2), (3, .int i3)] → W p l e (mx_rm 0) s m args below meth c H locs 0 0 (mx_Z E below args s none q) (F0 m 10 ls []) := by
  have hx := C.1.1
  have hb := C.1.2.1
  have hown := C.1.2.2.2.1
  have hts := C.1.2.2.2.2
  intro n
  induction n with
  | zero =>
    intro i3 M H locs ls hf hM hl
    rw [fX9_loseGreatest_10] at hf
    cases hf
  | succ n ih =>
    intro i3 M H locs ls hf hM hl
    rw [fX9_loseGreatest_10] at hf
    refine lv_iload_n hx hb dX9_loseGreatest_10 rfl (lv_at hl 3 rfl) ?_
    refine lv_if_lt (tgt := 68) hx hb dX9_loseGreatest_11 (by decide) (fun hc11 => ?_) (fun hc11 => ?_)
    · replace hf := mx_ift hc11 hf
      exact mx_vret C hM hf dX9_loseGreatest_68
    · replace hf := mx_iff hc11 hf
      refine lv_iload_n hx hb dX9_loseGreatest_14 rfl (lv_at hl 2 rfl) ?_
      refine lv_iload_n hx hb dX9_loseGreatest_15 rfl (lv_at hl 3 rfl) ?_
      refine lv_ishr hx hb dX9_loseGreatest_16 ?_
      refine lv_iconst (v := (1 : Int32)) hx hb dX9_loseGreatest_17 (by decide) ?_
      refine lv_iand hx hb dX9_loseGreatest_18 ?_
      refine lv_iconst (v := (1 : Int32)) hx hb dX9_loseGreatest_19 (by decide) ?_
      refine lv_icmp_ne (tgt := 62) hx hb dX9_loseGreatest_20 (by decide) (fun hc20 => ?_) (fun hc20 => ?_)
      · replace hf := mx_iff hc20 hf
        refine lv_iinc (v := (i3 + (-1 : Int32))) (lv' := [(3, .int (i3 + (-1 : Int32))), (0, .ref (E.2.1.2.1 o)), (1, .int i1), (2, .int i2)]) hx hb dX9_loseGreatest_62 hl (k := 3) rfl rfl (by decide) rfl (fun ls hl => ?_)
        refine lv_goto (tgt := 10) hx hb dX9_loseGreatest_65 (by decide) ?_
        exact ih (i3 + (-1 : Int32)) M _ _ _ hf hM (lv_sub hl [1, 2, 3, 0] rfl)
      · replace hf := mx_ift hc20 hf
        refine lv_aload_n hx hb dX9_loseGreatest_23 rfl (lv_at hl 0 rfl) ?_
        refine gX9_24 C hM (xoS hT ho) (f := (2, o + 5)) rfl (v := .ref (E.2.1.2.1 (o + 5))) rfl dX9_loseGreatest_24 ?_
        refine lv_iload_n hx hb dX9_loseGreatest_27 rfl (lv_at hl 3 rfl) ?_
        refine lv_iconst (v := (2 : Int32)) hx hb dX9_loseGreatest_28 (by decide) ?_
        obtain ⟨hg29, hf⟩ := mx_gd hf
        refine mx_iast C hM (xaS_5 hT ho) (mx_in_vp hg29) dX9_loseGreatest_29 (fun H locs hM => ?_)
        refine lv_aload_n hx hb dX9_loseGreatest_30 rfl (lv_at hl 0 rfl) ?_
        refine gX9_21 C hM (xoS hT ho) (f := (2, o + 4)) rfl (v := .ref (E.2.1.2.1 (o + 4))) rfl dX9_loseGreatest_31 ?_
        refine lv_iload_n hx hb dX9_loseGreatest_34 rfl (lv_at hl 3 rfl) ?_
        refine lv_iconst (v := (-1 : Int32)) hx hb dX9_loseGreatest_35 (by decide) ?_
        obtain ⟨hg36, hf⟩ := mx_gd hf
        refine mx_iast C hM (xaS_4 hT ho) (mx_in_vp hg36) dX9_loseGreatest_36 (fun H locs hM => ?_)
        refine lv_aload_n hx hb dX9_loseGreatest_37 rfl (lv_at hl 0 rfl) ?_
        refine gX9_27 C hM (xoS hT ho) (f := (2, o + 6)) rfl (v := .ref (E.2.1.2.1 (o + 6))) rfl dX9_loseGreatest_38 ?_
        refine lv_iload_n hx hb dX9_loseGreatest_41 rfl (lv_at hl 3 rfl) ?_
        refine lv_aload_n hx hb dX9_loseGreatest_42 rfl (lv_at hl 0 rfl) ?_
        refine gX9_9 C hM (xoS hT ho) (f := (2, o + 1)) rfl (v := .ref (E.2.1.2.1 (o + 1))) rfl dX9_loseGreatest_43 ?_
        refine lv_iload_n hx hb dX9_loseGreatest_46 rfl (lv_at hl 1 rfl) ?_
        obtain ⟨hg47, hf⟩ := mx_gd hf
        refine mx_iald C hM (xaS_1 hT ho) (mx_in_vp hg47) dX9_loseGreatest_47 ?_
        obtain ⟨hg48, hf⟩ := mx_gd hf
        refine mx_iast C hM (xaS_6 hT ho) (mx_in_vp hg48) dX9_loseGreatest_48 (fun H locs hM => ?_)
        refine lv_aload_n hx hb dX9_loseGreatest_49 rfl (lv_at hl 0 rfl) ?_
        refine gX9_30 C hM (xoS hT ho) (f := (2, o + 7)) rfl (v := .ref (E.2.1.2.1 (o + 7))) rfl dX9_loseGreatest_50 ?_
        refine lv_iload_n hx hb dX9_loseGreatest_53 rfl (lv_at hl 3 rfl) ?_
        refine lv_aload_n hx hb dX9_loseGreatest_54 rfl (lv_at hl 0 rfl) ?_
        refine gX9_15 C hM (xoS hT ho) (f := (2, o + 2)) rfl (v := .ref (E.2.1.2.1 (o + 2))) rfl dX9_loseGreatest_55 ?_
        refine lv_iload_n hx hb dX9_loseGreatest_58 rfl (lv_at hl 1 rfl) ?_
        obtain ⟨hg59, hf⟩ := mx_gd hf
        refine mx_iald C hM (xaS_2 hT ho) (mx_in_vp hg59) dX9_loseGreatest_59 ?_
        obtain ⟨hg60, hf⟩ := mx_gd hf
        refine mx_iast C hM (xaS_7 hT ho) (mx_in_vp hg60) dX9_loseGreatest_60 (fun H locs hM => ?_)
        exact mx_vret C hM hf dX9_loseGreatest_61
set_option maxRecDepth 100000 in
set_option maxHeartbeats 4000000 in
theorem kX9_loseGreatest {E : KE} {l : Launch} (hE : mx_ok E) (o : Nat) (i1 : Int32) (i2 : Int32) (hT : xOK E) (ho : xt_isS o = true) (M : MM) {q : MM} (hf : fX9_loseGreatest o i1 i2 M = some q) : mx_Met E l yX9_loseGreatest cX9_loseGreatest 4 none 0 [.ref (E.2.1.2.1 o), .int i1, .int i2] M none q := by
  refine mx_enter hE (by decide) (Nat.le_of_ble_eq_true rfl) ?_
  intro p e s m below meth c C hM hn ls hl
  have hx := C.1.1
  have hb := C.1.2.1
  have hown := C.1.2.2.2.1
  have hts := C.1.2.2.2.2
  have hl : lv_has ls 4 [(0, .ref (E.2.1.2.1 o)), (1, .int i1), (2, .int i2)] := hl
  rw [fX9_loseGreatest] at hf
  refine lv_aload_n hx hb dX9_loseGreatest_0 rfl (lv_at hl 0 rfl) ?_
  refine gX9_36 C hM (xoS hT ho) (f := (2, 9)) rfl (v := .ref (E.2.1.2.1 9)) rfl dX9_loseGreatest_1 ?_
  refine gX9_52 C hT hM (xt_9 hT) (f := (0, 0)) rfl (v := .int (M.1 9 1)) rfl dX9_loseGreatest_4 ?_
  refine lv_iconst (v := (1 : Int32)) hx hb dX9_loseGreatest_7 (by decide) ?_
  refine lv_isub hx hb dX9_loseGreatest_8 ?_
  refine lv_istore_n (lv' := [(3, .int ((M.1 9 1) - (1 : Int32))), (0, .ref (E.2.1.2.1 o)), (1, .int i1), (2, .int i2)]) hx hb dX9_loseGreatest_9 rfl hl (by decide) rfl (fun ls hl => ?_)
  exact wfX9_loseGreatest_10 C o i1 i2 hT ho mx_fu ((M.1 9 1) - (1 : Int32)) M _ _ _ hf hM (lv_sub hl [1, 2, 3, 0] rfl)
theorem dX9_rest_0 : decode cX9_rest 0 = .ok (.iconst 0, 1) := by decide +kernel
theorem dX9_rest_1 : decode cX9_rest 1 = .ok (.istore_n 1, 1) := by decide +kernel
theorem dX9_rest_2 : decode cX9_rest 2 = .ok (.iload_n 1, 1) := by decide +kernel
theorem dX9_rest_3 : decode cX9_rest 3 = .ok (.aload_n 0, 1) := by decide +kernel
theorem dX9_rest_4 : decode cX9_rest 4 = .ok (.getfield 36, 3) := by decide +kernel
theorem dX9_rest_7 : decode cX9_rest 7 = .ok (.getfield 40, 3) := by decide +kernel
theorem dX9_rest_10 : decode cX9_rest 10 = .ok (.if_icmp .ge 22, 3) := by decide +kernel
theorem dX9_rest_13 : decode cX9_rest 13 = .ok (.aload_n 0, 1) := by decide +kernel
theorem dX9_rest_14 : decode cX9_rest 14 = .ok (.getfield 18, 3) := by decide +kernel
theorem dX9_rest_17 : decode cX9_rest 17 = .ok (.iload_n 1, 1) := by decide +kernel
theorem dX9_rest_18 : decode cX9_rest 18 = .ok (.aload_n 0, 1) := by decide +kernel
theorem dX9_rest_19 : decode cX9_rest 19 = .ok (.getfield 36, 3) := by decide +kernel
theorem dX9_rest_22 : decode cX9_rest 22 = .ok (.getfield 76, 3) := by decide +kernel
theorem dX9_rest_25 : decode cX9_rest 25 = .ok (.iastore, 1) := by decide +kernel
theorem dX9_rest_26 : decode cX9_rest 26 = .ok (.iinc 1 1, 3) := by decide +kernel
theorem dX9_rest_29 : decode cX9_rest 29 = .ok (.goto (-27), 3) := by decide +kernel
theorem dX9_rest_32 : decode cX9_rest 32 = .ok (.return_, 1) := by decide +kernel
set_option maxRecDepth 100000 in
set_option maxHeartbeats 4000000 in
theorem wfX9_rest_2 {E : KE} {p : Program} {l : Launch} {e : Env} {s : State} {m : MethodId} {args : Array Value} {below : List Frame} {meth : Method} {c : Code} {q : MM} (C : mx_C E p m c cX9_rest 2 s args RX9 meth none) (o : Nat) (hT : xOK E) (ho : xt_isS o = true)   : ∀ (n : Nat) (i1 : Int32) (M : MM) (H : Heap) (locs : List Loc) (ls : Array Slot), fX9_rest_2 o n i1 M = some q → mx_H E s M H locs → lv_has ls 2 [(0, .ref (E.2.1.2.1 o)), (1, .int i1)] → W p l e (mx_rm 0) s m args below meth c H locs 0 0 (mx_Z E below args s none q) (F0 m 2 ls []) := by
  have hx := C.1.1
  have hb := C.1.2.1
  have hown := C.1.2.2.2.1
  have hts := C.1.2.2.2.2
  intro n
  induction n with
  | zero =>
    intro i1 M H locs ls hf hM hl
    rw [fX9_rest_2] at hf
    cases hf
  | succ n ih =>
    intro i1 M H locs ls hf hM hl
    rw [fX9_rest_2] at hf
    refine lv_iload_n hx hb dX9_rest_2 rfl (lv_at hl 1 rfl) ?_
    refine lv_aload_n hx hb dX9_rest_3 rfl (lv_at hl 0 rfl) ?_
    refine gX9_36 C hM (xoS hT ho) (f := (2, 9)) rfl (v := .ref (E.2.1.2.1 9)) rfl dX9_rest_4 ?_
    refine gX9_40 C hT hM (xt_9 hT) (f := (0, 0)) rfl (v := .int (M.1 9 0)) rfl dX9_rest_7 ?_
    refine lv_icmp_ge (tgt := 32) hx hb dX9_rest_10 (by decide) (fun hc10 => ?_) (fun hc10 => ?_)
    · replace hf := mx_ift hc10 hf
      exact mx_vret C hM hf dX9_rest_32
    · replace hf := mx_iff hc10 hf
      refine lv_aload_n hx hb dX9_rest_13 rfl (lv_at hl 0 rfl) ?_
      refine gX9_18 C hM (xoS hT ho) (f := (2, o + 3)) rfl (v := .ref (E.2.1.2.1 (o + 3))) rfl dX9_rest_14 ?_
      refine lv_iload_n hx hb dX9_rest_17 rfl (lv_at hl 1 rfl) ?_
      refine lv_aload_n hx hb dX9_rest_18 rfl (lv_at hl 0 rfl) ?_
      refine gX9_36 C hM (xoS hT ho) (f := (2, 9)) rfl (v := .ref (E.2.1.2.1 9)) rfl dX9_rest_19 ?_
      refine gX9_76 C hT hM (xt_9 hT) (f := (0, 0)) rfl (v := .int (M.1 9 12)) rfl dX9_rest_22 ?_
      obtain ⟨hg25, hf⟩ := mx_gd hf
      refine mx_iast C hM (xaS_3 hT ho) (mx_in_vp hg25) dX9_rest_25 (fun H locs hM => ?_)
      refine lv_iinc (v := (i1 + (1 : Int32))) (lv' := [(1, .int (i1 + (1 : Int32))), (0, .ref (E.2.1.2.1 o))]) hx hb dX9_rest_26 hl (k := 1) rfl rfl (by decide) rfl (fun ls hl => ?_)
      refine lv_goto (tgt := 2) hx hb dX9_rest_29 (by decide) ?_
      exact ih (i1 + (1 : Int32)) (mx_si M (o + 3) i1.toNatClampNeg (M.1 9 12)) _ _ _ hf hM (lv_sub hl [1, 0] rfl)
set_option maxRecDepth 100000 in
set_option maxHeartbeats 4000000 in
theorem kX9_rest {E : KE} {l : Launch} (hE : mx_ok E) (o : Nat) (hT : xOK E) (ho : xt_isS o = true) (M : MM) {q : MM} (hf : fX9_rest o M = some q) : mx_Met E l yX9_rest cX9_rest 2 none 0 [.ref (E.2.1.2.1 o)] M none q := by
  refine mx_enter hE (by decide) (Nat.le_of_ble_eq_true rfl) ?_
  intro p e s m below meth c C hM hn ls hl
  have hx := C.1.1
  have hb := C.1.2.1
  have hown := C.1.2.2.2.1
  have hts := C.1.2.2.2.2
  have hl : lv_has ls 2 [(0, .ref (E.2.1.2.1 o))] := hl
  rw [fX9_rest] at hf
  refine lv_iconst (v := (0 : Int32)) hx hb dX9_rest_0 (by decide) ?_
  refine lv_istore_n (lv' := [(1, .int (0 : Int32)), (0, .ref (E.2.1.2.1 o))]) hx hb dX9_rest_1 rfl hl (by decide) rfl (fun ls hl => ?_)
  exact wfX9_rest_2 C o hT ho mx_fu (0 : Int32) M _ _ _ hf hM (lv_sub hl [1, 0] rfl)
theorem dX9_passDay_0 : decode cX9_passDay 0 = .ok (.iconst 0, 1) := by decide +kernel
theorem dX9_passDay_1 : decode cX9_passDay 1 = .ok (.istore_n 1, 1) := by decide +kernel
theorem dX9_passDay_2 : decode cX9_passDay 2 = .ok (.iload_n 1, 1) := by decide +kernel
theorem dX9_passDay_3 : decode cX9_passDay 3 = .ok (.aload_n 0, 1) := by decide +kernel
theorem dX9_passDay_4 : decode cX9_passDay 4 = .ok (.getfield 36, 3) := by decide +kernel
theorem dX9_passDay_7 : decode cX9_passDay 7 = .ok (.getfield 52, 3) := by decide +kernel
theorem dX9_passDay_10 : decode cX9_passDay 10 = .ok (.if_icmp .ge 44, 3) := by decide +kernel
theorem dX9_passDay_13 : decode cX9_passDay 13 = .ok (.aload_n 0, 1) := by decide +kernel
theorem dX9_passDay_14 : decode cX9_passDay 14 = .ok (.getfield 36, 3) := by decide +kernel
theorem dX9_passDay_17 : decode cX9_passDay 17 = .ok (.getfield 123, 3) := by decide +kernel
theorem dX9_passDay_20 : decode cX9_passDay 20 = .ok (.iload_n 1, 1) := by decide +kernel
theorem dX9_passDay_21 : decode cX9_passDay 21 = .ok (.iaload, 1) := by decide +kernel
theorem dX9_passDay_22 : decode cX9_passDay 22 = .ok (.aload_n 0, 1) := by decide +kernel
theorem dX9_passDay_23 : decode cX9_passDay 23 = .ok (.getfield 58, 3) := by decide +kernel
theorem dX9_passDay_26 : decode cX9_passDay 26 = .ok (.if_icmp .ne 22, 3) := by decide +kernel
theorem dX9_passDay_29 : decode cX9_passDay 29 = .ok (.aload_n 0, 1) := by decide +kernel
theorem dX9_passDay_30 : decode cX9_passDay 30 = .ok (.getfield 33, 3) := by decide +kernel
theorem dX9_passDay_33 : decode cX9_passDay 33 = .ok (.iload_n 1, 1) := by decide +kernel
theorem dX9_passDay_34 : decode cX9_passDay 34 = .ok (.aload_n 0, 1) := by decide +kernel
theorem dX9_passDay_35 : decode cX9_passDay 35 = .ok (.iload_n 1, 1) := by decide +kernel
theorem dX9_passDay_36 : decode cX9_passDay 36 = .ok (.invokevirtual 126, 3) := by decide +kernel
theorem dX9_passDay_39 : decode cX9_passDay 39 = .ok (.ifCond .eq 7, 3) := by decide +kernel
theorem dX9_passDay_42 : decode cX9_passDay 42 = .ok (.iconst 1, 1) := by decide +kernel
theorem dX9_passDay_43 : decode cX9_passDay 43 = .ok (.goto 4, 3) := by decide +kernel
theorem dX9_passDay_46 : decode cX9_passDay 46 = .ok (.iconst 2, 1) := by decide +kernel
theorem dX9_passDay_47 : decode cX9_passDay 47 = .ok (.iastore, 1) := by decide +kernel
theorem dX9_passDay_48 : decode cX9_passDay 48 = .ok (.iinc 1 1, 3) := by decide +kernel
theorem dX9_passDay_51 : decode cX9_passDay 51 = .ok (.goto (-49), 3) := by decide +kernel
theorem dX9_passDay_54 : decode cX9_passDay 54 = .ok (.iconst 0, 1) := by decide +kernel
theorem dX9_passDay_55 : decode cX9_passDay 55 = .ok (.istore_n 1, 1) := by decide +kernel
theorem dX9_passDay_56 : decode cX9_passDay 56 = .ok (.iload_n 1, 1) := by decide +kernel
theorem dX9_passDay_57 : decode cX9_passDay 57 = .ok (.aload_n 0, 1) := by decide +kernel
theorem dX9_passDay_58 : decode cX9_passDay 58 = .ok (.getfield 36, 3) := by decide +kernel
theorem dX9_passDay_61 : decode cX9_passDay 61 = .ok (.getfield 40, 3) := by decide +kernel
theorem dX9_passDay_64 : decode cX9_passDay 64 = .ok (.if_icmp .ge 35, 3) := by decide +kernel
theorem dX9_passDay_67 : decode cX9_passDay 67 = .ok (.aload_n 0, 1) := by decide +kernel
theorem dX9_passDay_68 : decode cX9_passDay 68 = .ok (.iload_n 1, 1) := by decide +kernel
theorem dX9_passDay_69 : decode cX9_passDay 69 = .ok (.invokevirtual 129, 3) := by decide +kernel
theorem dX9_passDay_72 : decode cX9_passDay 72 = .ok (.istore_n 2, 1) := by decide +kernel
theorem dX9_passDay_73 : decode cX9_passDay 73 = .ok (.iload_n 2, 1) := by decide +kernel
theorem dX9_passDay_74 : decode cX9_passDay 74 = .ok (.invokestatic 132, 3) := by decide +kernel
theorem dX9_passDay_77 : decode cX9_passDay 77 = .ok (.aload_n 0, 1) := by decide +kernel
theorem dX9_passDay_78 : decode cX9_passDay 78 = .ok (.getfield 36, 3) := by decide +kernel
theorem dX9_passDay_81 : decode cX9_passDay 81 = .ok (.getfield 137, 3) := by decide +kernel
theorem dX9_passDay_84 : decode cX9_passDay 84 = .ok (.if_icmp .lt 9, 3) := by decide +kernel
theorem dX9_passDay_87 : decode cX9_passDay 87 = .ok (.aload_n 0, 1) := by decide +kernel
theorem dX9_passDay_88 : decode cX9_passDay 88 = .ok (.iload_n 1, 1) := by decide +kernel
theorem dX9_passDay_89 : decode cX9_passDay 89 = .ok (.iload_n 2, 1) := by decide +kernel
theorem dX9_passDay_90 : decode cX9_passDay 90 = .ok (.invokevirtual 140, 3) := by decide +kernel
theorem dX9_passDay_93 : decode cX9_passDay 93 = .ok (.iinc 1 1, 3) := by decide +kernel
theorem dX9_passDay_96 : decode cX9_passDay 96 = .ok (.goto (-40), 3) := by decide +kernel
theorem dX9_passDay_99 : decode cX9_passDay 99 = .ok (.aload_n 0, 1) := by decide +kernel
theorem dX9_passDay_100 : decode cX9_passDay 100 = .ok (.dup, 1) := by decide +kernel
theorem dX9_passDay_101 : decode cX9_passDay 101 = .ok (.getfield 58, 3) := by decide +kernel
theorem dX9_passDay_104 : decode cX9_passDay 104 = .ok (.iconst 1, 1) := by decide +kernel
theorem dX9_passDay_105 : decode cX9_passDay 105 = .ok (.iadd, 1) := by decide +kernel
theorem dX9_passDay_106 : decode cX9_passDay 106 = .ok (.putfield 58, 3) := by decide +kernel
theorem dX9_passDay_109 : decode cX9_passDay 109 = .ok (.aload_n 0, 1) := by decide +kernel
theorem dX9_passDay_110 : decode cX9_passDay 110 = .ok (.invokevirtual 67, 3) := by decide +kernel
theorem dX9_passDay_113 : decode cX9_passDay 113 = .ok (.return_, 1) := by decide +kernel
set_option maxRecDepth 100000 in
set_option maxHeartbeats 4000000 in
theorem wfX9_passDay_56 {E : KE} {p : Program} {l : Launch} {e : Env} {s : State} {m : MethodId} {args : Array Value} {below : List Frame} {meth : Method} {c : Code} {q : MM} (C : mx_C E p m c cX9_passDay 3 s args RX9 meth none) (o : Nat) (hT : xOK E) (ho : xt_isS o = true)   : ∀ (n : Nat) (i1 : Int32) (M : MM) (H : Heap) (locs : List Loc) (ls : Array Slot), fX9_passDay_56 o n i1 M = some q → mx_H E s M H locs → lv_has ls 3 [(0, .ref (E.2.1.2.1 o)), (1, .int i1)] → W p l e (mx_rm 2) s m args below meth c H locs 0 0 (mx_Z E below args s none q) (F0 m 56 ls []) := by
  have hx := C.1.1
  have hb := C.1.2.1
  have hown := C.1.2.2.2.1
  have hts := C.1.2.2.2.2
  intro n
  induction n with
  | zero =>
    intro i1 M H locs ls hf hM hl
    rw [fX9_passDay_56] at hf
    cases hf
  | succ n ih =>
    intro i1 M H locs ls hf hM hl
    rw [fX9_passDay_56] at hf
    refine lv_iload_n hx hb dX9_passDay_56 rfl (lv_at hl 1 rfl) ?_
    refine lv_aload_n hx hb dX9_passDay_57 rfl (lv_at hl 0 rfl) ?_
    refine gX9_36 C hM (xoS hT ho) (f := (2, 9)) rfl (v := .ref (E.2.1.2.1 9)) rfl dX9_passDay_58 ?_
    refine gX9_40 C hT hM (xt_9 hT) (f := (0, 0)) rfl (v := .int (M.1 9 0)) rfl dX9_passDay_61 ?_
    refine lv_icmp_ge (tgt := 99) hx hb dX9_passDay_64 (by decide) (fun hc64 => ?_) (fun hc64 => ?_)
    · replace hf := mx_ift hc64 hf
      refine lv_aload_n hx hb dX9_passDay_99 rfl (lv_at hl 0 rfl) ?_
      refine lv_dup hx hb dX9_passDay_100 rfl ?_
      refine gX9_58 C hM (xoS hT ho) (f := (0, 0)) rfl (v := .int (M.1 o 9)) rfl dX9_passDay_101 ?_
      refine lv_iconst (v := (1 : Int32)) hx hb dX9_passDay_104 (by decide) ?_
      refine lv_iadd hx hb dX9_passDay_105 ?_
      refine pX9_58 C hM (xoS hT ho) rfl rfl rfl dX9_passDay_106 (fun H locs hM => ?_)
      refine lv_aload_n hx hb dX9_passDay_109 rfl (lv_at hl 0 rfl) ?_
      obtain ⟨q110, hq110, hf⟩ := mx_bd hf
      refine mx_callV C hM hl.1 yo_X9_rest (h' := 0) (by decide) qw_637 qw_639 qs_30 (ci := 9) (q := (RX9, TX9, 13)) rfl (xoS hT ho) (As := []) (rest := []) (st1 := []) (kX9_rest C.2.2.2.1 o hT ho (mx_si M o 9 ((M.1 o 9) + (1 : Int32))) hq110) rfl rfl rfl (Nat.le_of_ble_eq_true rfl) dX9_passDay_110 (fun H locs hM => ?_)
      exact mx_vret C hM hf dX9_passDay_113
    · replace hf := mx_iff hc64 hf
      refine lv_aload_n hx hb dX9_passDay_67 rfl (lv_at hl 0 rfl) ?_
      refine lv_iload_n hx hb dX9_passDay_68 rfl (lv_at hl 1 rfl) ?_
      obtain ⟨q69, hq69, hf⟩ := mx_bd hf
      refine mx_callV C hM hl.1 yo_X9_keptBy (h' := 1) (by decide) qw_783 qw_785 qs_55 (ci := 9) (q := (RX9, TX9, 13)) rfl (xoS hT ho) (As := [.int i1]) (rest := []) (st1 := [.int q69]) (kX9_keptBy C.2.2.2.1 o i1 hT ho M hq69) rfl rfl rfl (Nat.le_of_ble_eq_true rfl) dX9_passDay_69 (fun H locs hM => ?_)
      refine lv_istore_n (lv' := [(2, .int q69), (0, .ref (E.2.1.2.1 o)), (1, .int i1)]) hx hb dX9_passDay_72 rfl hl (by decide) rfl (fun ls hl => ?_)
      refine lv_iload_n hx hb dX9_passDay_73 rfl (lv_at hl 0 rfl) ?_
      obtain ⟨q74, hq74, hf⟩ := mx_bd hf
      refine mx_callS C hM hl.1 yo_J6_bitCount_0f7a4 (h' := 0) (by decide) qw_787 qw_788 (As := [.int q69]) (rest := []) (st1 := [.int q74]) (kJ6_bitCount_0f7a4 C.2.2.2.1 q69 M hq74) rfl rfl rfl (Nat.le_of_ble_eq_true rfl) dX9_passDay_74 (fun H locs hM => ?_)
      refine lv_aload_n hx hb dX9_passDay_77 rfl (lv_at hl 1 rfl) ?_
      refine gX9_36 C hM (xoS hT ho) (f := (2, 9)) rfl (v := .ref (E.2.1.2.1 9)) rfl dX9_passDay_78 ?_
      refine gX9_137 C hT hM (xt_9 hT) (f := (0, 0)) rfl (v := .int (M.1 9 13)) rfl dX9_passDay_81 ?_
      refine lv_icmp_lt (tgt := 93) hx hb dX9_passDay_84 (by decide) (fun hc84 => ?_) (fun hc84 => ?_)
      · replace hf := mx_ift hc84 hf
        refine lv_iinc (v := (i1 + (1 : Int32))) (lv' := [(1, .int (i1 + (1 : Int32))), (2, .int q69), (0, .ref (E.2.1.2.1 o))]) hx hb dX9_passDay_93 hl (k := 2) rfl rfl (by decide) rfl (fun ls hl => ?_)
        refine lv_goto (tgt := 56) hx hb dX9_passDay_96 (by decide) ?_
        exact ih (i1 + (1 : Int32)) M _ _ _ hf hM (lv_sub hl [2, 0] rfl)
      · replace hf := mx_iff hc84 hf
        refine lv_aload_n hx hb dX9_passDay_87 rfl (lv_at hl 1 rfl) ?_
        refine lv_iload_n hx hb dX9_passDay_88 rfl (lv_at hl 2 rfl) ?_
        refine lv_iload_n hx hb dX9_passDay_89 rfl (lv_at hl 0 rfl) ?_
        obtain ⟨q90, hq90, hf⟩ := mx_bd hf
        refine mx_callV C hM hl.1 yo_X9_loseGreatest (h' := 0) (by decide) qw_793 qw_795 qs_56 (ci := 9) (q := (RX9, TX9, 13)) rfl (xoS hT ho) (As := [.int i1, .int q69]) (rest := []) (st1 := []) (kX9_loseGreatest C.2.2.2.1 o i1 q69 hT ho M hq90) rfl rfl rfl (Nat.le_of_ble_eq_true rfl) dX9_passDay_90 (fun H locs hM => ?_)
        refine lv_iinc (v := (i1 + (1 : Int32))) (lv' := [(1, .int (i1 + (1 : Int32))), (2, .int q69), (0, .ref (E.2.1.2.1 o))]) hx hb dX9_passDay_93 hl (k := 2) rfl rfl (by decide) rfl (fun ls hl => ?_)
        refine lv_goto (tgt := 56) hx hb dX9_passDay_96 (by decide) ?_
        exact ih (i1 + (1 : Int32)) q90 _ _ _ hf hM (lv_sub hl [2, 0] rfl)
set_option maxRecDepth 100000 in
set_option maxHeartbeats 4000000 in
theorem wfX9_passDay_47 {E : KE} {p : Program} {l : Launch} {e : Env} {s : State} {m : MethodId} {args : Array Value} {below : List Frame} {meth : Method} {c : Code} {q : MM} (C : mx_C E p m c cX9_passDay 3 s args RX9 meth none) (o : Nat) (hT : xOK E) (ho : xt_isS o = true)  (k2 : Int32 → MM → Option MM) (hk2 : ∀ (i1 : Int32) (M : MM) (H : Heap) (locs : List Loc) (ls : Array Slot), k2 i1 M = some q → mx_H E s M H locs → lv_has ls 3 [(0, .ref (E.2.1.2.1 o)), (1, .int i1)] → W p l e (mx_rm 2) s m args below meth c H locs 0 0 (mx_Z E below args s none q) (F0 m 2 ls [])) : ∀ (i1 : Int32) (is1 : Int32) (is2 : Int32) (M : MM) (H : Heap) (locs : List Loc) (ls : Array Slot), fX9_passDay_47 o k2 i1 is1 is2 M = some q → mx_H E s M H locs → lv_has ls 3 [(0, .ref (E.2.1.2.1 o)), (1, .int i1)] → W p l e (mx_rm 2) s m args below meth c H locs 0 0 (mx_Z E below args s none q) (F0 m 47 ls [.int is2, .int is1, .ref (E.2.1.2.1 (o + 8))]) := by
  have hx := C.1.1
  have hb := C.1.2.1
  have hown := C.1.2.2.2.1
  have hts := C.1.2.2.2.2
  intro i1 is1 is2 M H locs ls hf hM hl
  rw [fX9_passDay_47] at hf
  obtain ⟨hg47, hf⟩ := mx_gd hf
  refine mx_iast C hM (xaS_8 hT ho) (mx_in_vp hg47) dX9_passDay_47 (fun H locs hM => ?_)
  refine lv_iinc (v := (i1 + (1 : Int32))) (lv' := [(1, .int (i1 + (1 : Int32))), (0, .ref (E.2.1.2.1 o))]) hx hb dX9_passDay_48 hl (k := 1) rfl rfl (by decide) rfl (fun ls hl => ?_)
  refine lv_goto (tgt := 2) hx hb dX9_passDay_51 (by decide) ?_
  exact hk2 (i1 + (1 : Int32)) (mx_si M (o + 8) is1.toNatClampNeg is2) _ _ _ hf hM (lv_sub hl [1, 0] rfl)
set_option maxRecDepth 100000 in
set_option maxHeartbeats 4000000 in
theorem wfX9_passDay_2 {E : KE} {p : Program} {l : Launch} {e : Env} {s : State} {m : MethodId} {args : Array Value} {below : List Frame} {meth : Method} {c : Code} {q : MM} (C : mx_C E p m c cX9_passDay 3 s args RX9 meth none) (o : Nat) (hT : xOK E) (ho : xt_isS o = true)   : ∀ (n : Nat) (i1 : Int32) (M : MM) (H : Heap) (locs : List Loc) (ls : Array Slot), fX9_passDay_2 o n i1 M = some q → mx_H E s M H locs → lv_has ls 3 [(0, .ref (E.2.1.2.1 o)), (1, .int i1)] → W p l e (mx_rm 2) s m args below meth c H locs 0 0 (mx_Z E below args s none q) (F0 m 2 ls []) := by
  have hx := C.1.1
  have hb := C.1.2.1
  have hown := C.1.2.2.2.1
  have hts := C.1.2.2.2.2
  intro n
  induction n with
  | zero =>
    intro i1 M H locs ls hf hM hl
    rw [fX9_passDay_2] at hf
    cases hf
  | succ n ih =>
    intro i1 M H locs ls hf hM hl
    rw [fX9_passDay_2] at hf
    refine lv_iload_n hx hb dX9_passDay_2 rfl (lv_at hl 1 rfl) ?_
    refine lv_aload_n hx hb dX9_passDay_3 rfl (lv_at hl 0 rfl) ?_
    refine gX9_36 C hM (xoS hT ho) (f := (2, 9)) rfl (v := .ref (E.2.1.2.1 9)) rfl dX9_passDay_4 ?_
    refine gX9_52 C hT hM (xt_9 hT) (f := (0, 0)) rfl (v := .int (M.1 9 1)) rfl dX9_passDay_7 ?_
    refine lv_icmp_ge (tgt := 54) hx hb dX9_passDay_10 (by decide) (fun hc10 => ?_) (fun hc10 => ?_)
    · replace hf := mx_ift hc10 hf
      refine lv_iconst (v := (0 : Int32)) hx hb dX9_passDay_54 (by decide) ?_
      refine lv_istore_n (lv' := [(1, .int (0 : Int32)), (0, .ref (E.2.1.2.1 o))]) hx hb dX9_passDay_55 rfl hl (by decide) rfl (fun ls hl => ?_)
      exact wfX9_passDay_56 C o hT ho mx_fu (0 : Int32) M _ _ _ hf hM (lv_sub hl [1, 0] rfl)
    · replace hf := mx_iff hc10 hf
      refine lv_aload_n hx hb dX9_passDay_13 rfl (lv_at hl 0 rfl) ?_
      refine gX9_36 C hM (xoS hT ho) (f := (2, 9)) rfl (v := .ref (E.2.1.2.1 9)) rfl dX9_passDay_14 ?_
      refine gX9_123 C hT hM (xt_9 hT) (f := (2, 18)) rfl (v := .ref (E.2.1.2.1 18)) rfl dX9_passDay_17 ?_
      refine lv_iload_n hx hb dX9_passDay_20 rfl (lv_at hl 1 rfl) ?_
      obtain ⟨hg21, hf⟩ := mx_gd hf
      refine mx_iald C hM (xt_18 hT) (mx_in_vp hg21) dX9_passDay_21 ?_
      refine lv_aload_n hx hb dX9_passDay_22 rfl (lv_at hl 0 rfl) ?_
      refine gX9_58 C hM (xoS hT ho) (f := (0, 0)) rfl (v := .int (M.1 o 9)) rfl dX9_passDay_23 ?_
      refine lv_icmp_ne (tgt := 48) hx hb dX9_passDay_26 (by decide) (fun hc26 => ?_) (fun hc26 => ?_)
      · replace hf := mx_iff hc26 hf
        refine lv_iinc (v := (i1 + (1 : Int32))) (lv' := [(1, .int (i1 + (1 : Int32))), (0, .ref (E.2.1.2.1 o))]) hx hb dX9_passDay_48 hl (k := 1) rfl rfl (by decide) rfl (fun ls hl => ?_)
        refine lv_goto (tgt := 2) hx hb dX9_passDay_51 (by decide) ?_
        exact ih (i1 + (1 : Int32)) M _ _ _ hf hM (lv_sub hl [1, 0] rfl)
      · replace hf := mx_ift hc26 hf
        refine lv_aload_n hx hb dX9_passDay_29 rfl (lv_at hl 0 rfl) ?_
        refine gX9_33 C hM (xoS hT ho) (f := (2, o + 8)) rfl (v := .ref (E.2.1.2.1 (o + 8))) rfl dX9_passDay_30 ?_
        refine lv_iload_n hx hb dX9_passDay_33 rfl (lv_at hl 1 rfl) ?_
        refine lv_aload_n hx hb dX9_passDay_34 rfl (lv_at hl 0 rfl) ?_
        refine lv_iload_n hx hb dX9_passDay_35 rfl (lv_at hl 1 rfl) ?_
        obtain ⟨q36, hq36, hf⟩ := mx_bd hf
        refine mx_callV C hM hl.1 yo_X9_isWithOwner (h' := 0) (by decide) qw_779 qw_781 qs_54 (ci := 9) (q := (RX9, TX9, 13)) rfl (xoS hT ho) (As := [.int i1]) (rest := [.int i1, .ref (E.2.1.2.1 (o + 8))]) (st1 := [.int (mx_b q36), .int i1, .ref (E.2.1.2.1 (o + 8))]) (kX9_isWithOwner C.2.2.2.1 o i1 hT ho M hq36) rfl rfl rfl (Nat.le_of_ble_eq_true rfl) dX9_passDay_36 (fun H locs hM => ?_)
        refine lv_if_eq (tgt := 46) hx hb dX9_passDay_39 (by decide) (fun hc39 => ?_) (fun hc39 => ?_)
        · replace hf := mx_ift hc39 hf
          refine lv_iconst (v := (2 : Int32)) hx hb dX9_passDay_46 (by decide) ?_
          exact wfX9_passDay_47 C o hT ho (fX9_passDay_2 o n) ih i1 i1 (2 : Int32) M _ _ _ hf hM (lv_sub hl [0, 1] rfl)
        · replace hf := mx_iff hc39 hf
          refine lv_iconst (v := (1 : Int32)) hx hb dX9_passDay_42 (by decide) ?_
          refine lv_goto (tgt := 47) hx hb dX9_passDay_43 (by decide) ?_
          exact wfX9_passDay_47 C o hT ho (fX9_passDay_2 o n) ih i1 i1 (1 : Int32) M _ _ _ hf hM (lv_sub hl [0, 1] rfl)
set_option maxRecDepth 100000 in
set_option maxHeartbeats 4000000 in
theorem kX9_passDay {E : KE} {l : Launch} (hE : mx_ok E) (o : Nat) (hT : xOK E) (ho : xt_isS o = true) (M : MM) {q : MM} (hf : fX9_passDay o M = some q) : mx_Met E l yX9_passDay cX9_passDay 3 none 2 [.ref (E.2.1.2.1 o)] M none q := by
  refine mx_enter hE (by decide) (Nat.le_of_ble_eq_true rfl) ?_
  intro p e s m below meth c C hM hn ls hl
  have hx := C.1.1
  have hb := C.1.2.1
  have hown := C.1.2.2.2.1
  have hts := C.1.2.2.2.2
  have hl : lv_has ls 3 [(0, .ref (E.2.1.2.1 o))] := hl
  rw [fX9_passDay] at hf
  refine lv_iconst (v := (0 : Int32)) hx hb dX9_passDay_0 (by decide) ?_
  refine lv_istore_n (lv' := [(1, .int (0 : Int32)), (0, .ref (E.2.1.2.1 o))]) hx hb dX9_passDay_1 rfl hl (by decide) rfl (fun ls hl => ?_)
  exact wfX9_passDay_2 C o hT ho mx_fu (0 : Int32) M _ _ _ hf hM (lv_sub hl [1, 0] rfl)
theorem dX9_passDays_0 : decode cX9_passDays 0 = .ok (.iconst 0, 1) := by decide +kernel
theorem dX9_passDays_1 : decode cX9_passDays 1 = .ok (.istore_n 2, 1) := by decide +kernel
theorem dX9_passDays_2 : decode cX9_passDays 2 = .ok (.iload_n 2, 1) := by decide +kernel
theorem dX9_passDays_3 : decode cX9_passDays 3 = .ok (.iload_n 1, 1) := by decide +kernel
theorem dX9_passDays_4 : decode cX9_passDays 4 = .ok (.if_icmp .ge 23, 3) := by decide +kernel
theorem dX9_passDays_7 : decode cX9_passDays 7 = .ok (.aload_n 0, 1) := by decide +kernel
theorem dX9_passDays_8 : decode cX9_passDays 8 = .ok (.getfield 58, 3) := by decide +kernel
theorem dX9_passDays_11 : decode cX9_passDays 11 = .ok (.sipush 400, 3) := by decide +kernel
theorem dX9_passDays_14 : decode cX9_passDays 14 = .ok (.if_icmp .ge 13, 3) := by decide +kernel
theorem dX9_passDays_17 : decode cX9_passDays 17 = .ok (.aload_n 0, 1) := by decide +kernel
theorem dX9_passDays_18 : decode cX9_passDays 18 = .ok (.invokevirtual 120, 3) := by decide +kernel
theorem dX9_passDays_21 : decode cX9_passDays 21 = .ok (.iinc 2 1, 3) := by decide +kernel
theorem dX9_passDays_24 : decode cX9_passDays 24 = .ok (.goto (-22), 3) := by decide +kernel
theorem dX9_passDays_27 : decode cX9_passDays 27 = .ok (.iload_n 2, 1) := by decide +kernel
theorem dX9_passDays_28 : decode cX9_passDays 28 = .ok (.ireturn, 1) := by decide +kernel
set_option maxRecDepth 100000 in
set_option maxHeartbeats 4000000 in
theorem wfX9_passDays_2 {E : KE} {p : Program} {l : Launch} {e : Env} {s : State} {m : MethodId} {args : Array Value} {below : List Frame} {meth : Method} {c : Code} {q : (Int32 × MM)} (C : mx_C E p m c cX9_passDays 3 s args RX9 meth (some .int)) (o : Nat) (i1 : Int32) (hT : xOK E) (ho : xt_isS o = true)   : ∀ (n : Nat) (i2 : Int32) (M : MM) (H : Heap) (locs : List Loc) (ls : Array Slot), fX9_passDays_2 o i1 n i2 M = some q → mx_H E s M H locs → lv_has ls 3 [(0, .ref (E.2.1.2.1 o)), (1, .int i1), (2, .int i2)] → W p l e (mx_rm 3) s m args below meth c H locs 0 0 (mx_Z E below args s (some (.int q.1)) q.2) (F0 m 2 ls []) := by
  have hx := C.1.1
  have hb := C.1.2.1
  have hown := C.1.2.2.2.1
  have hts := C.1.2.2.2.2
  intro n
  induction n with
  | zero =>
    intro i2 M H locs ls hf hM hl
    rw [fX9_passDays_2] at hf
    cases hf
  | succ n ih =>
    intro i2 M H locs ls hf hM hl
    rw [fX9_passDays_2] at hf
    refine lv_iload_n hx hb dX9_passDays_2 rfl (lv_at hl 2 rfl) ?_
    refine lv_iload_n hx hb dX9_passDays_3 rfl (lv_at hl 1 rfl) ?_
    refine lv_icmp_ge (tgt := 27) hx hb dX9_passDays_4 (by decide) (fun hc4 => ?_) (fun hc4 => ?_)
    · replace hf := mx_ift hc4 hf
      refine lv_iload_n hx hb dX9_passDays_27 rfl (lv_at hl 2 rfl) ?_
      exact mx_iret C hM hf dX9_passDays_28
    · replace hf := mx_iff hc4 hf
      refine lv_aload_n hx hb dX9_passDays_7 rfl (lv_at hl 0 rfl) ?_
      refine gX9_58 C hM (xoS hT ho) (f := (0, 0)) rfl (v := .int (M.1 o 9)) rfl dX9_passDays_8 ?_
      refine lv_sipush (v := (400 : Int32)) hx hb dX9_passDays_11 (by decide) ?_
      refine lv_icmp_ge (tgt := 27) hx hb dX9_passDays_14 (by decide) (fun hc14 => ?_) (fun hc14 => ?_)
      · replace hf := mx_ift hc14 hf
        refine lv_iload_n hx hb dX9_passDays_27 rfl (lv_at hl 2 rfl) ?_
        exact mx_iret C hM hf dX9_passDays_28
      · replace hf := mx_iff hc14 hf
        refine lv_aload_n hx hb dX9_passDays_17 rfl (lv_at hl 0 rfl) ?_
        obtain ⟨q18, hq18, hf⟩ := mx_bd hf
        refine mx_callV C hM hl.1 yo_X9_passDay (h' := 2) (by decide) qw_775 qw_777 qs_53 (ci := 9) (q := (RX9, TX9, 13)) rfl (xoS hT ho) (As := []) (rest := []) (st1 := []) (kX9_passDay C.2.2.2.1 o hT ho M hq18) rfl rfl rfl (Nat.le_of_ble_eq_true rfl) dX9_passDays_18 (fun H locs hM => ?_)
        refine lv_iinc (v := (i2 + (1 : Int32))) (lv' := [(2, .int (i2 + (1 : Int32))), (0, .ref (E.2.1.2.1 o)), (1, .int i1)]) hx hb dX9_passDays_21 hl (k := 2) rfl rfl (by decide) rfl (fun ls hl => ?_)
        refine lv_goto (tgt := 2) hx hb dX9_passDays_24 (by decide) ?_
        exact ih (i2 + (1 : Int32)) q18 _ _ _ hf hM (lv_sub hl [1, 2, 0] rfl)
set_option maxRecDepth 100000 in
set_option maxHeartbeats 4000000 in
theorem kX9_passDays {E : KE} {l : Launch} (hE : mx_ok E) (o : Nat) (i1 : Int32) (hT : xOK E) (ho : xt_isS o = true) (M : MM) {q : (Int32 × MM)} (hf : fX9_passDays o i1 M = some q) : mx_Met E l yX9_passDays cX9_passDays 3 (some .int) 3 [.ref (E.2.1.2.1 o), .int i1] M (some (.int q.1)) q.2 := by
  refine mx_enter hE (by decide) (Nat.le_of_ble_eq_true rfl) ?_
  intro p e s m below meth c C hM hn ls hl
  have hx := C.1.1
  have hb := C.1.2.1
  have hown := C.1.2.2.2.1
  have hts := C.1.2.2.2.2
  have hl : lv_has ls 3 [(0, .ref (E.2.1.2.1 o)), (1, .int i1)] := hl
  rw [fX9_passDays] at hf
  refine lv_iconst (v := (0 : Int32)) hx hb dX9_passDays_0 (by decide) ?_
  refine lv_istore_n (lv' := [(2, .int (0 : Int32)), (0, .ref (E.2.1.2.1 o)), (1, .int i1)]) hx hb dX9_passDays_1 rfl hl (by decide) rfl (fun ls hl => ?_)
  exact wfX9_passDays_2 C o i1 hT ho mx_fu (0 : Int32) M _ _ _ hf hM (lv_sub hl [1, 2, 0] rfl)
theorem dX1_liveDays_0 : decode cX1_liveDays 0 = .ok (.iload_n 1, 1) := by decide +kernel
theorem dX1_liveDays_1 : decode cX1_liveDays 1 = .ok (.sipush 400, 3) := by decide +kernel
theorem dX1_liveDays_4 : decode cX1_liveDays 4 = .ok (.aload_n 0, 1) := by decide +kernel
theorem dX1_liveDays_5 : decode cX1_liveDays 5 = .ok (.getfield 118, 3) := by decide +kernel
theorem dX1_liveDays_8 : decode cX1_liveDays 8 = .ok (.isub, 1) := by decide +kernel
theorem dX1_liveDays_9 : decode cX1_liveDays 9 = .ok (.if_icmp .le 5, 3) := by decide +kernel
theorem dX1_liveDays_12 : decode cX1_liveDays 12 = .ok (.iconst 1, 1) := by decide +kernel
theorem dX1_liveDays_13 : decode cX1_liveDays 13 = .ok (.ireturn, 1) := by decide +kernel
theorem dX1_liveDays_14 : decode cX1_liveDays 14 = .ok (.aload_n 0, 1) := by decide +kernel
theorem dX1_liveDays_15 : decode cX1_liveDays 15 = .ok (.iload_n 1, 1) := by decide +kernel
theorem dX1_liveDays_16 : decode cX1_liveDays 16 = .ok (.invokevirtual 157, 3) := by decide +kernel
theorem dX1_liveDays_19 : decode cX1_liveDays 19 = .ok (.pop, 1) := by decide +kernel
theorem dX1_liveDays_20 : decode cX1_liveDays 20 = .ok (.iconst 0, 1) := by decide +kernel
theorem dX1_liveDays_21 : decode cX1_liveDays 21 = .ok (.ireturn, 1) := by decide +kernel
set_option maxRecDepth 100000 in
set_option maxHeartbeats 4000000 in
theorem kX1_liveDays {E : KE} {l : Launch} (hE : mx_ok E) (i1 : Int32) (hT : xOK E) (M : MM) {q : (Int32 × MM)} (hf : fX1_liveDays i1 M = some q) : mx_Met E l yX1_liveDays cX1_liveDays 2 (some .int) 4 [.ref (E.2.1.2.1 47), .int i1] M (some (.int q.1)) q.2 := by
  refine mx_enter hE (by decide) (Nat.le_of_ble_eq_true rfl) ?_
  intro p e s m below meth c C hM hn ls hl
  have hx := C.1.1
  have hb := C.1.2.1
  have hown := C.1.2.2.2.1
  have hts := C.1.2.2.2.2
  have hl : lv_has ls 2 [(0, .ref (E.2.1.2.1 47)), (1, .int i1)] := hl
  rw [fX1_liveDays] at hf
  refine lv_iload_n hx hb dX1_liveDays_0 rfl (lv_at hl 1 rfl) ?_
  refine lv_sipush (v := (400 : Int32)) hx hb dX1_liveDays_1 (by decide) ?_
  refine lv_aload_n hx hb dX1_liveDays_4 rfl (lv_at hl 0 rfl) ?_
  refine gX1_118 C hT hM (xt_47 hT) (f := (0, 0)) rfl (v := .int (M.1 47 9)) rfl dX1_liveDays_5 ?_
  refine lv_isub hx hb dX1_liveDays_8 ?_
  refine lv_icmp_le (tgt := 14) hx hb dX1_liveDays_9 (by decide) (fun hc9 => ?_) (fun hc9 => ?_)
  · replace hf := mx_ift hc9 hf
    refine lv_aload_n hx hb dX1_liveDays_14 rfl (lv_at hl 0 rfl) ?_
    refine lv_iload_n hx hb dX1_liveDays_15 rfl (lv_at hl 1 rfl) ?_
    obtain ⟨q16, hq16, hf⟩ := mx_bd hf
    refine mx_callVN C hM hl.1 yo_X9_passDays (h' := 3) (by decide) (nw_1149 hT C) qw_773 qs_52 (ci := 9) (q := (RX9, TX9, 13)) rfl (xt_47 hT) (As := [.int i1]) (rest := []) (st1 := [.int q16.1]) (kX9_passDays C.2.2.2.1 47 i1 hT xiS_47 M hq16) rfl rfl rfl (Nat.le_of_ble_eq_true rfl) dX1_liveDays_16 (fun H locs hM => ?_)
    refine lv_pop hx hb dX1_liveDays_19 rfl ?_
    refine lv_iconst (v := (0 : Int32)) hx hb dX1_liveDays_20 (by decide) ?_
    exact mx_iret C hM hf dX1_liveDays_21
  · replace hf := mx_iff hc9 hf
    refine lv_iconst (v := (1 : Int32)) hx hb dX1_liveDays_12 (by decide) ?_
    exact mx_iret C hM hf dX1_liveDays_13
theorem dX1_live_0 : decode cX1_live 0 = .ok (.aload_n 0, 1) := by decide +kernel
theorem dX1_live_1 : decode cX1_live 1 = .ok (.getfield 15, 3) := by decide +kernel
theorem dX1_live_4 : decode cX1_live 4 = .ok (.iload_n 2, 1) := by decide +kernel
theorem dX1_live_5 : decode cX1_live 5 = .ok (.iaload, 1) := by decide +kernel
theorem dX1_live_6 : decode cX1_live 6 = .ok (.istore_n 3, 1) := by decide +kernel
theorem dX1_live_7 : decode cX1_live 7 = .ok (.aload_n 0, 1) := by decide +kernel
theorem dX1_live_8 : decode cX1_live 8 = .ok (.getfield 11, 3) := by decide +kernel
theorem dX1_live_11 : decode cX1_live 11 = .ok (.iload_n 2, 1) := by decide +kernel
theorem dX1_live_12 : decode cX1_live 12 = .ok (.iaload, 1) := by decide +kernel
theorem dX1_live_13 : decode cX1_live 13 = .ok (.lookupswitch 117 #[(0, 51), (10, 69), (20, 87), (30, 99), (40, 105)], 51) := by decide +kernel
theorem dX1_live_64 : decode cX1_live 64 = .ok (.aload_n 1, 1) := by decide +kernel
theorem dX1_live_65 : decode cX1_live 65 = .ok (.iload_n 3, 1) := by decide +kernel
theorem dX1_live_66 : decode cX1_live 66 = .ok (.aload_n 0, 1) := by decide +kernel
theorem dX1_live_67 : decode cX1_live 67 = .ok (.getfield 18, 3) := by decide +kernel
theorem dX1_live_70 : decode cX1_live 70 = .ok (.iload_n 2, 1) := by decide +kernel
theorem dX1_live_71 : decode cX1_live 71 = .ok (.iaload, 1) := by decide +kernel
theorem dX1_live_72 : decode cX1_live 72 = .ok (.aload_n 0, 1) := by decide +kernel
theorem dX1_live_73 : decode cX1_live 73 = .ok (.getfield 21, 3) := by decide +kernel
theorem dX1_live_76 : decode cX1_live 76 = .ok (.iload_n 2, 1) := by decide +kernel
theorem dX1_live_77 : decode cX1_live 77 = .ok (.iaload, 1) := by decide +kernel
theorem dX1_live_78 : decode cX1_live 78 = .ok (.invokevirtual 137, 3) := by decide +kernel
theorem dX1_live_81 : decode cX1_live 81 = .ok (.ireturn, 1) := by decide +kernel
theorem dX1_live_82 : decode cX1_live 82 = .ok (.aload_n 1, 1) := by decide +kernel
theorem dX1_live_83 : decode cX1_live 83 = .ok (.iload_n 3, 1) := by decide +kernel
theorem dX1_live_84 : decode cX1_live 84 = .ok (.aload_n 0, 1) := by decide +kernel
theorem dX1_live_85 : decode cX1_live 85 = .ok (.getfield 18, 3) := by decide +kernel
theorem dX1_live_88 : decode cX1_live 88 = .ok (.iload_n 2, 1) := by decide +kernel
theorem dX1_live_89 : decode cX1_live 89 = .ok (.iaload, 1) := by decide +kernel
theorem dX1_live_90 : decode cX1_live 90 = .ok (.aload_n 0, 1) := by decide +kernel
theorem dX1_live_91 : decode cX1_live 91 = .ok (.getfield 21, 3) := by decide +kernel
theorem dX1_live_94 : decode cX1_live 94 = .ok (.iload_n 2, 1) := by decide +kernel
theorem dX1_live_95 : decode cX1_live 95 = .ok (.iaload, 1) := by decide +kernel
theorem dX1_live_96 : decode cX1_live 96 = .ok (.invokevirtual 141, 3) := by decide +kernel
theorem dX1_live_99 : decode cX1_live 99 = .ok (.ireturn, 1) := by decide +kernel
theorem dX1_live_100 : decode cX1_live 100 = .ok (.aload_n 1, 1) := by decide +kernel
theorem dX1_live_101 : decode cX1_live 101 = .ok (.iload_n 3, 1) := by decide +kernel
theorem dX1_live_102 : decode cX1_live 102 = .ok (.aload_n 0, 1) := by decide +kernel
theorem dX1_live_103 : decode cX1_live 103 = .ok (.getfield 18, 3) := by decide +kernel
theorem dX1_live_106 : decode cX1_live 106 = .ok (.iload_n 2, 1) := by decide +kernel
theorem dX1_live_107 : decode cX1_live 107 = .ok (.iaload, 1) := by decide +kernel
theorem dX1_live_108 : decode cX1_live 108 = .ok (.invokevirtual 144, 3) := by decide +kernel
theorem dX1_live_111 : decode cX1_live 111 = .ok (.ireturn, 1) := by decide +kernel
theorem dX1_live_112 : decode cX1_live 112 = .ok (.aload_n 1, 1) := by decide +kernel
theorem dX1_live_113 : decode cX1_live 113 = .ok (.iload_n 3, 1) := by decide +kernel
theorem dX1_live_114 : decode cX1_live 114 = .ok (.invokevirtual 148, 3) := by decide +kernel
theorem dX1_live_117 : decode cX1_live 117 = .ok (.ireturn, 1) := by decide +kernel
theorem dX1_live_118 : decode cX1_live 118 = .ok (.aload_n 1, 1) := by decide +kernel
theorem dX1_live_119 : decode cX1_live 119 = .ok (.iload_n 3, 1) := by decide +kernel
theorem dX1_live_120 : decode cX1_live 120 = .ok (.aload_n 0, 1) := by decide +kernel
theorem dX1_live_121 : decode cX1_live 121 = .ok (.getfield 18, 3) := by decide +kernel
theorem dX1_live_124 : decode cX1_live 124 = .ok (.iload_n 2, 1) := by decide +kernel
theorem dX1_live_125 : decode cX1_live 125 = .ok (.iaload, 1) := by decide +kernel
theorem dX1_live_126 : decode cX1_live 126 = .ok (.invokevirtual 151, 3) := by decide +kernel
theorem dX1_live_129 : decode cX1_live 129 = .ok (.ireturn, 1) := by decide +kernel
theorem dX1_live_130 : decode cX1_live 130 = .ok (.aload_n 1, 1) := by decide +kernel
theorem dX1_live_131 : decode cX1_live 131 = .ok (.aload_n 0, 1) := by decide +kernel
theorem dX1_live_132 : decode cX1_live 132 = .ok (.getfield 18, 3) := by decide +kernel
theorem dX1_live_135 : decode cX1_live 135 = .ok (.iload_n 2, 1) := by decide +kernel
theorem dX1_live_136 : decode cX1_live 136 = .ok (.iaload, 1) := by decide +kernel
theorem dX1_live_137 : decode cX1_live 137 = .ok (.invokestatic 154, 3) := by decide +kernel
theorem dX1_live_140 : decode cX1_live 140 = .ok (.ireturn, 1) := by decide +kernel
set_option maxRecDepth 100000 in
set_option maxHeartbeats 4000000 in
theorem kX1_live {E : KE} {l : Launch} (hE : mx_ok E) (i2 : Int32) (hT : xOK E) (M : MM) {q : (Int32 × MM)} (hf : fX1_live i2 M = some q) : mx_Met E l yX1_live cX1_live 4 (some .int) 5 [.ref (E.2.1.2.1 138), .ref (E.2.1.2.1 47), .int i2] M (some (.int q.1)) q.2 := by
  refine mx_enter hE (by decide) (Nat.le_of_ble_eq_true rfl) ?_
  intro p e s m below meth c C hM hn ls hl
  have hx := C.1.1
  have hb := C.1.2.1
  have hown := C.1.2.2.2.1
  have hts := C.1.2.2.2.2
  have hl : lv_has ls 4 [(0, .ref (E.2.1.2.1 138)), (1, .ref (E.2.1.2.1 47)), (2, .int i2)] := hl
  rw [fX1_live] at hf
  refine lv_aload_n hx hb dX1_live_0 rfl (lv_at hl 0 rfl) ?_
  refine gX1_15 C hM (xt_138 hT) (f := (2, 140)) rfl (v := .ref (E.2.1.2.1 140)) rfl dX1_live_1 ?_
  refine lv_iload_n hx hb dX1_live_4 rfl (lv_at hl 2 rfl) ?_
  obtain ⟨hg5, hf⟩ := mx_gd hf
  refine mx_iald C hM (xt_140 hT) (mx_in_vp hg5) dX1_live_5 ?_
  refine lv_istore_n (lv' := [(3, .int (M.1 140 i2.toNatClampNeg)), (0, .ref (E.2.1.2.1 138)), (1, .ref (E.2.1.2.1 47)), (2, .int i2)]) hx hb dX1_live_6 rfl hl (by decide) rfl (fun ls hl => ?_)
  refine lv_aload_n hx hb dX1_live_7 rfl (lv_at hl 1 rfl) ?_
  refine gX1_11 C hM (xt_138 hT) (f := (2, 139)) rfl (v := .ref (E.2.1.2.1 139)) rfl dX1_live_8 ?_
  refine lv_iload_n hx hb dX1_live_11 rfl (lv_at hl 3 rfl) ?_
  obtain ⟨hg12, hf⟩ := mx_gd hf
  refine mx_iald C hM (xt_139 hT) (mx_in_vp hg12) dX1_live_12 ?_
  by_cases hs0 : (M.1 139 i2.toNatClampNeg) = 0
  · replace hf := mx_ift hs0 hf
    refine lv_lookup (tgt := 64) hx hb dX1_live_13 (by decide) (by rw [hs0] <;> rfl) (by decide) ?_
    refine lv_aload_n hx hb dX1_live_64 rfl (lv_at hl 2 rfl) ?_
    refine lv_iload_n hx hb dX1_live_65 rfl (lv_at hl 0 rfl) ?_
    refine lv_aload_n hx hb dX1_live_66 rfl (lv_at hl 1 rfl) ?_
    refine gX1_18 C hM (xt_138 hT) (f := (2, 141)) rfl (v := .ref (E.2.1.2.1 141)) rfl dX1_live_67 ?_
    refine lv_iload_n hx hb dX1_live_70 rfl (lv_at hl 3 rfl) ?_
    obtain ⟨hg71, hf⟩ := mx_gd hf
    refine mx_iald C hM (xt_141 hT) (mx_in_vp hg71) dX1_live_71 ?_
    refine lv_aload_n hx hb dX1_live_72 rfl (lv_at hl 1 rfl) ?_
    refine gX1_21 C hM (xt_138 hT) (f := (2, 142)) rfl (v := .ref (E.2.1.2.1 142)) rfl dX1_live_73 ?_
    refine lv_iload_n hx hb dX1_live_76 rfl (lv_at hl 3 rfl) ?_
    obtain ⟨hg77, hf⟩ := mx_gd hf
    refine mx_iald C hM (xt_142 hT) (mx_in_vp hg77) dX1_live_77 ?_
    obtain ⟨q78, hq78, hf⟩ := mx_bd hf
    refine mx_callVN C hM hl.1 yo_X9_walkTo (h' := 2) (by decide) (nw_1141 hT C) qw_699 qs_40 (ci := 9) (q := (RX9, TX9, 13)) rfl (xt_47 hT) (As := [.int (M.1 140 i2.toNatClampNeg), .int (M.1 141 i2.toNatClampNeg), .int (M.1 142 i2.toNatClampNeg)]) (rest := []) (st1 := [.int q78.1]) (kX9_walkTo C.2.2.2.1 47 (M.1 140 i2.toNatClampNeg) (M.1 141 i2.toNatClampNeg) (M.1 142 i2.toNatClampNeg) hT xiS_47 M hq78) rfl rfl rfl (Nat.le_of_ble_eq_true rfl) dX1_live_78 (fun H locs hM => ?_)
    exact mx_iret C hM hf dX1_live_81
  replace hf := mx_iff hs0 hf
  by_cases hs1 : (M.1 139 i2.toNatClampNeg) = 10
  · replace hf := mx_ift hs1 hf
    refine lv_lookup (tgt := 82) hx hb dX1_live_13 (by decide) (by rw [hs1] <;> rfl) (by decide) ?_
    refine lv_aload_n hx hb dX1_live_82 rfl (lv_at hl 2 rfl) ?_
    refine lv_iload_n hx hb dX1_live_83 rfl (lv_at hl 0 rfl) ?_
    refine lv_aload_n hx hb dX1_live_84 rfl (lv_at hl 1 rfl) ?_
    refine gX1_18 C hM (xt_138 hT) (f := (2, 141)) rfl (v := .ref (E.2.1.2.1 141)) rfl dX1_live_85 ?_
    refine lv_iload_n hx hb dX1_live_88 rfl (lv_at hl 3 rfl) ?_
    obtain ⟨hg89, hf⟩ := mx_gd hf
    refine mx_iald C hM (xt_141 hT) (mx_in_vp hg89) dX1_live_89 ?_
    refine lv_aload_n hx hb dX1_live_90 rfl (lv_at hl 1 rfl) ?_
    refine gX1_21 C hM (xt_138 hT) (f := (2, 142)) rfl (v := .ref (E.2.1.2.1 142)) rfl dX1_live_91 ?_
    refine lv_iload_n hx hb dX1_live_94 rfl (lv_at hl 3 rfl) ?_
    obtain ⟨hg95, hf⟩ := mx_gd hf
    refine mx_iald C hM (xt_142 hT) (mx_in_vp hg95) dX1_live_95 ?_
    obtain ⟨q96, hq96, hf⟩ := mx_bd hf
    refine mx_callVN C hM hl.1 yo_X9_passOn (h' := 2) (by decide) (nw_1142 hT C) qw_727 qs_45 (ci := 9) (q := (RX9, TX9, 13)) rfl (xt_47 hT) (As := [.int (M.1 140 i2.toNatClampNeg), .int (M.1 141 i2.toNatClampNeg), .int (M.1 142 i2.toNatClampNeg)]) (rest := []) (st1 := [.int q96.1]) (kX9_passOn C.2.2.2.1 47 (M.1 140 i2.toNatClampNeg) (M.1 141 i2.toNatClampNeg) (M.1 142 i2.toNatClampNeg) hT xiS_47 M hq96) rfl rfl rfl (Nat.le_of_ble_eq_true rfl) dX1_live_96 (fun H locs hM => ?_)
    exact mx_iret C hM hf dX1_live_99
  replace hf := mx_iff hs1 hf
  by_cases hs2 : (M.1 139 i2.toNatClampNeg) = 20
  · replace hf := mx_ift hs2 hf
    refine lv_lookup (tgt := 100) hx hb dX1_live_13 (by decide) (by rw [hs2] <;> rfl) (by decide) ?_
    refine lv_aload_n hx hb dX1_live_100 rfl (lv_at hl 2 rfl) ?_
    refine lv_iload_n hx hb dX1_live_101 rfl (lv_at hl 0 rfl) ?_
    refine lv_aload_n hx hb dX1_live_102 rfl (lv_at hl 1 rfl) ?_
    refine gX1_18 C hM (xt_138 hT) (f := (2, 141)) rfl (v := .ref (E.2.1.2.1 141)) rfl dX1_live_103 ?_
    refine lv_iload_n hx hb dX1_live_106 rfl (lv_at hl 3 rfl) ?_
    obtain ⟨hg107, hf⟩ := mx_gd hf
    refine mx_iald C hM (xt_141 hT) (mx_in_vp hg107) dX1_live_107 ?_
    obtain ⟨q108, hq108, hf⟩ := mx_bd hf
    refine mx_callVN C hM hl.1 yo_X9_putOn (h' := 1) (by decide) (nw_1143 hT C) qw_744 qs_48 (ci := 9) (q := (RX9, TX9, 13)) rfl (xt_47 hT) (As := [.int (M.1 140 i2.toNatClampNeg), .int (M.1 141 i2.toNatClampNeg)]) (rest := []) (st1 := [.int q108.1]) (kX9_putOn C.2.2.2.1 47 (M.1 140 i2.toNatClampNeg) (M.1 141 i2.toNatClampNeg) hT xiS_47 M hq108) rfl rfl rfl (Nat.le_of_ble_eq_true rfl) dX1_live_108 (fun H locs hM => ?_)
    exact mx_iret C hM hf dX1_live_111
  replace hf := mx_iff hs2 hf
  by_cases hs3 : (M.1 139 i2.toNatClampNeg) = 30
  · replace hf := mx_ift hs3 hf
    refine lv_lookup (tgt := 112) hx hb dX1_live_13 (by decide) (by rw [hs3] <;> rfl) (by decide) ?_
    refine lv_aload_n hx hb dX1_live_112 rfl (lv_at hl 2 rfl) ?_
    refine lv_iload_n hx hb dX1_live_113 rfl (lv_at hl 0 rfl) ?_
    obtain ⟨q114, hq114, hf⟩ := mx_bd hf
    refine mx_callVN C hM hl.1 yo_X9_takeOff (h' := 1) (by decide) (nw_1144 hT C) qw_757 qs_50 (ci := 9) (q := (RX9, TX9, 13)) rfl (xt_47 hT) (As := [.int (M.1 140 i2.toNatClampNeg)]) (rest := []) (st1 := [.int q114.1]) (kX9_takeOff C.2.2.2.1 47 (M.1 140 i2.toNatClampNeg) hT xiS_47 M hq114) rfl rfl rfl (Nat.le_of_ble_eq_true rfl) dX1_live_114 (fun H locs hM => ?_)
    exact mx_iret C hM hf dX1_live_117
  replace hf := mx_iff hs3 hf
  by_cases hs4 : (M.1 139 i2.toNatClampNeg) = 40
  · replace hf := mx_ift hs4 hf
    refine lv_lookup (tgt := 118) hx hb dX1_live_13 (by decide) (by rw [hs4] <;> rfl) (by decide) ?_
    refine lv_aload_n hx hb dX1_live_118 rfl (lv_at hl 2 rfl) ?_
    refine lv_iload_n hx hb dX1_live_119 rfl (lv_at hl 0 rfl) ?_
    refine lv_aload_n hx hb dX1_live_120 rfl (lv_at hl 1 rfl) ?_
    refine gX1_18 C hM (xt_138 hT) (f := (2, 141)) rfl (v := .ref (E.2.1.2.1 141)) rfl dX1_live_121 ?_
    refine lv_iload_n hx hb dX1_live_124 rfl (lv_at hl 3 rfl) ?_
    obtain ⟨hg125, hf⟩ := mx_gd hf
    refine mx_iald C hM (xt_141 hT) (mx_in_vp hg125) dX1_live_125 ?_
    obtain ⟨q126, hq126, hf⟩ := mx_bd hf
    refine mx_callVN C hM hl.1 yo_X9_pickUp (h' := 2) (by decide) (nw_1145 hT C) qw_765 qs_51 (ci := 9) (q := (RX9, TX9, 13)) rfl (xt_47 hT) (As := [.int (M.1 140 i2.toNatClampNeg), .int (M.1 141 i2.toNatClampNeg)]) (rest := []) (st1 := [.int q126.1]) (kX9_pickUp C.2.2.2.1 47 (M.1 140 i2.toNatClampNeg) (M.1 141 i2.toNatClampNeg) hT xiS_47 M hq126) rfl rfl rfl (Nat.le_of_ble_eq_true rfl) dX1_live_126 (fun H locs hM => ?_)
    exact mx_iret C hM hf dX1_live_129
  replace hf := mx_iff hs4 hf
  refine lv_lookup (tgt := 130) (off := 117) hx hb dX1_live_13 (by decide) (by rw [lv_osw hs0 (by decide), lv_osw hs1 (by decide), lv_osw hs2 (by decide), lv_osw hs3 (by decide), lv_osw hs4 (by decide)] <;> rfl) (by decide) ?_
  refine lv_aload_n hx hb dX1_live_130 rfl (lv_at hl 2 rfl) ?_
  refine lv_aload_n hx hb dX1_live_131 rfl (lv_at hl 1 rfl) ?_
  refine gX1_18 C hM (xt_138 hT) (f := (2, 141)) rfl (v := .ref (E.2.1.2.1 141)) rfl dX1_live_132 ?_
  refine lv_iload_n hx hb dX1_live_135 rfl (lv_at hl 3 rfl) ?_
  obtain ⟨hg136, hf⟩ := mx_gd hf
  refine mx_iald C hM (xt_141 hT) (mx_in_vp hg136) dX1_live_136 ?_
  obtain ⟨q137, hq137, hf⟩ := mx_bd hf
  refine mx_callS C hM hl.1 yo_X1_liveDays (h' := 4) (by decide) qw_1146 qw_1147 (As := [.ref (E.2.1.2.1 47), .int (M.1 141 i2.toNatClampNeg)]) (rest := []) (st1 := [.int q137.1]) (kX1_liveDays C.2.2.2.1 (M.1 141 i2.toNatClampNeg) hT M hq137) rfl rfl rfl (Nat.le_of_ble_eq_true rfl) dX1_live_137 (fun H locs hM => ?_)
  exact mx_iret C hM hf dX1_live_140
theorem dX9_ringsWith_0 : decode cX9_ringsWith 0 = .ok (.iconst 0, 1) := by decide +kernel
theorem dX9_ringsWith_1 : decode cX9_ringsWith 1 = .ok (.istore_n 3, 1) := by decide +kernel
theorem dX9_ringsWith_2 : decode cX9_ringsWith 2 = .ok (.iconst 0, 1) := by decide +kernel
theorem dX9_ringsWith_3 : decode cX9_ringsWith 3 = .ok (.istore 4, 2) := by decide +kernel
theorem dX9_ringsWith_5 : decode cX9_ringsWith 5 = .ok (.iload 4, 2) := by decide +kernel
theorem dX9_ringsWith_7 : decode cX9_ringsWith 7 = .ok (.aload_n 0, 1) := by decide +kernel
theorem dX9_ringsWith_8 : decode cX9_ringsWith 8 = .ok (.getfield 36, 3) := by decide +kernel
theorem dX9_ringsWith_11 : decode cX9_ringsWith 11 = .ok (.getfield 52, 3) := by decide +kernel
theorem dX9_ringsWith_14 : decode cX9_ringsWith 14 = .ok (.if_icmp .ge 24, 3) := by decide +kernel
theorem dX9_ringsWith_17 : decode cX9_ringsWith 17 = .ok (.aload_n 1, 1) := by decide +kernel
theorem dX9_ringsWith_18 : decode cX9_ringsWith 18 = .ok (.iload 4, 2) := by decide +kernel
theorem dX9_ringsWith_20 : decode cX9_ringsWith 20 = .ok (.iaload, 1) := by decide +kernel
theorem dX9_ringsWith_21 : decode cX9_ringsWith 21 = .ok (.iload_n 2, 1) := by decide +kernel
theorem dX9_ringsWith_22 : decode cX9_ringsWith 22 = .ok (.if_icmp .ne 10, 3) := by decide +kernel
theorem dX9_ringsWith_25 : decode cX9_ringsWith 25 = .ok (.iload_n 3, 1) := by decide +kernel
theorem dX9_ringsWith_26 : decode cX9_ringsWith 26 = .ok (.iconst 1, 1) := by decide +kernel
theorem dX9_ringsWith_27 : decode cX9_ringsWith 27 = .ok (.iload 4, 2) := by decide +kernel
theorem dX9_ringsWith_29 : decode cX9_ringsWith 29 = .ok (.ishl, 1) := by decide +kernel
theorem dX9_ringsWith_30 : decode cX9_ringsWith 30 = .ok (.ior, 1) := by decide +kernel
theorem dX9_ringsWith_31 : decode cX9_ringsWith 31 = .ok (.istore_n 3, 1) := by decide +kernel
theorem dX9_ringsWith_32 : decode cX9_ringsWith 32 = .ok (.iinc 4 1, 3) := by decide +kernel
theorem dX9_ringsWith_35 : decode cX9_ringsWith 35 = .ok (.goto (-30), 3) := by decide +kernel
theorem dX9_ringsWith_38 : decode cX9_ringsWith 38 = .ok (.iload_n 3, 1) := by decide +kernel
theorem dX9_ringsWith_39 : decode cX9_ringsWith 39 = .ok (.ireturn, 1) := by decide +kernel
set_option maxRecDepth 100000 in
set_option maxHeartbeats 4000000 in
theorem wfX9_ringsWith_5 {E : KE} {p : Program} {l : Launch} {e : Env} {s : State} {m : MethodId} {args : Array Value} {below : List Frame} {meth : Method} {c : Code} {q : Int32} (C : mx_C E p m c cX9_ringsWith 5 s args RX9 meth (some .int)) (o : Nat) (a1 : Nat) (i2 : Int32) (M : MM) (hT : xOK E) (ho : xt_isS o = true) (ha1 : E.1[a1]? = some (.inr (0, 7)))   : ∀ (n : Nat) (i3 : Int32) (i4 : Int32) (H : Heap) (locs : List Loc) (ls : Array Slot), fX9_ringsWith_5 o a1 i2 M n i3 i4 = some q → mx_H E s M H locs → lv_has ls 5 [(0, .ref (E.2.1.2.1 o)), (1, .ref (E.2.1.2.1 a1)), (2, .int i2), (3, .int i3), (4, .int i4)] → W p l e (mx_rm 0) s m args below meth c H locs 0 0 (mx_Z E below args s (some (.int q)) M) (F0 m 5 ls []) := by
  have hx := C.1.1
  have hb := C.1.2.1
  have hown := C.1.2.2.2.1
  have hts := C.1.2.2.2.2
  intro n
  induction n with
  | zero =>
    intro i3 i4 H locs ls hf hM hl
    rw [fX9_ringsWith_5] at hf
    cases hf
  | succ n ih =>
    intro i3 i4 H locs ls hf hM hl
    rw [fX9_ringsWith_5] at hf
    refine lv_iload hx hb dX9_ringsWith_5 (lv_at hl 4 rfl) ?_
    refine lv_aload_n hx hb dX9_ringsWith_7 rfl (lv_at hl 0 rfl) ?_
    refine gX9_36 C hM (xoS hT ho) (f := (2, 9)) rfl (v := .ref (E.2.1.2.1 9)) rfl dX9_ringsWith_8 ?_
    refine gX9_52 C hT hM (xt_9 hT) (f := (0, 0)) rfl (v := .int (M.1 9 1)) rfl dX9_ringsWith_11 ?_
    refine lv_icmp_ge (tgt := 38) hx hb dX9_ringsWith_14 (by decide) (fun hc14 => ?_) (fun hc14 => ?_)
    · replace hf := mx_ift hc14 hf
      refine lv_iload_n hx hb dX9_ringsWith_38 rfl (lv_at hl 3 rfl) ?_
      exact mx_iretR C hM hf dX9_ringsWith_39
    · replace hf := mx_iff hc14 hf
      refine lv_aload_n hx hb dX9_ringsWith_17 rfl (lv_at hl 1 rfl) ?_
      refine lv_iload hx hb dX9_ringsWith_18 (lv_at hl 4 rfl) ?_
      obtain ⟨hg20, hf⟩ := mx_gd hf
      refine mx_iald C hM ha1 (mx_in_vp hg20) dX9_ringsWith_20 ?_
      refine lv_iload_n hx hb dX9_ringsWith_21 rfl (lv_at hl 2 rfl) ?_
      refine lv_icmp_ne (tgt := 32) hx hb dX9_ringsWith_22 (by decide) (fun hc22 => ?_) (fun hc22 => ?_)
      · replace hf := mx_iff hc22 hf
        refine lv_iinc (v := (i4 + (1 : Int32))) (lv' := [(4, .int (i4 + (1 : Int32))), (0, .ref (E.2.1.2.1 o)), (1, .ref (E.2.1.2.1 a1)), (2, .int i2), (3, .int i3)]) hx hb dX9_ringsWith_32 hl (k := 4) rfl rfl (by decide) rfl (fun ls hl => ?_)
        refine lv_goto (tgt := 5) hx hb dX9_ringsWith_35 (by decide) ?_
        exact ih i3 (i4 + (1 : Int32)) _ _ _ hf hM (lv_sub hl [1, 2, 3, 4, 0] rfl)
      · replace hf := mx_ift hc22 hf
        refine lv_iload_n hx hb dX9_ringsWith_25 rfl (lv_at hl 3 rfl) ?_
        refine lv_iconst (v := (1 : Int32)) hx hb dX9_ringsWith_26 (by decide) ?_
        refine lv_iload hx hb dX9_ringsWith_27 (lv_at hl 4 rfl) ?_
        refine lv_ishl hx hb dX9_ringsWith_29 ?_
        refine lv_ior hx hb dX9_ringsWith_30 ?_
        refine lv_istore_n (lv' := [(3, .int (i3 ||| ((1 : Int32) <<< (i4 &&& 31)))), (0, .ref (E.2.1.2.1 o)), (1, .ref (E.2.1.2.1 a1)), (2, .int i2), (4, .int i4)]) hx hb dX9_ringsWith_31 rfl hl (by decide) rfl (fun ls hl => ?_)
        refine lv_iinc (v := (i4 + (1 : Int32))) (lv' := [(4, .int (i4 + (1 : Int32))), (3, .int (i3 ||| ((1 : Int32) <<< (i4 &&& 31)))), (0, .ref (E.2.1.2.1 o)), (1, .ref (E.2.1.2.1 a1)), (2, .int i2)]) hx hb dX9_ringsWith_32 hl (k := 4) rfl rfl (by decide) rfl (fun ls hl => ?_)
        refine lv_goto (tgt := 5) hx hb dX9_ringsWith_35 (by decide) ?_
        exact ih (i3 ||| ((1 : Int32) <<< (i4 &&& 31))) (i4 + (1 : Int32)) _ _ _ hf hM (lv_sub hl [2, 3, 4, 1, 0] rfl)
set_option maxRecDepth 100000 in
set_option maxHeartbeats 4000000 in
theorem kX9_ringsWith {E : KE} {l : Launch} (hE : mx_ok E) (o : Nat) (a1 : Nat) (i2 : Int32) (hT : xOK E) (ho : xt_isS o = true) (ha1 : E.1[a1]? = some (.inr (0, 7))) (M : MM) {q : Int32} (hf : fX9_ringsWith o a1 i2 M = some q) : mx_Met E l yX9_ringsWith cX9_ringsWith 5 (some .int) 0 [.ref (E.2.1.2.1 o), .ref (E.2.1.2.1 a1), .int i2] M (some (.int q)) M := by
  refine mx_enter hE (by decide) (Nat.le_of_ble_eq_true rfl) ?_
  intro p e s m below meth c C hM hn ls hl
  have hx := C.1.1
  have hb := C.1.2.1
  have hown := C.1.2.2.2.1
  have hts := C.1.2.2.2.2
  have hl : lv_has ls 5 [(0, .ref (E.2.1.2.1 o)), (1, .ref (E.2.1.2.1 a1)), (2, .int i2)] := hl
  rw [fX9_ringsWith] at hf
  refine lv_iconst (v := (0 : Int32)) hx hb dX9_ringsWith_0 (by decide) ?_
  refine lv_istore_n (lv' := [(3, .int (0 : Int32)), (0, .ref (E.2.1.2.1 o)), (1, .ref (E.2.1.2.1 a1)), (2, .int i2)]) hx hb dX9_ringsWith_1 rfl hl (by decide) rfl (fun ls hl => ?_)
  refine lv_iconst (v := (0 : Int32)) hx hb dX9_ringsWith_2 (by decide) ?_
  refine lv_istore (lv' := [(4, .int (0 : Int32)), (3, .int (0 : Int32)), (0, .ref (E.2.1.2.1 o)), (1, .ref (E.2.1.2.1 a1)), (2, .int i2)]) hx hb dX9_ringsWith_3 hl (by decide) rfl (fun ls hl => ?_)
  exact wfX9_ringsWith_5 C o a1 i2 M hT ho ha1 mx_fu (0 : Int32) (0 : Int32) _ _ _ hf hM (lv_sub hl [2, 3, 4, 1, 0] rfl)
theorem dX9_ringsThatAre_0 : decode cX9_ringsThatAre 0 = .ok (.aload_n 0, 1) := by decide +kernel
theorem dX9_ringsThatAre_1 : decode cX9_ringsThatAre 1 = .ok (.aload_n 0, 1) := by decide +kernel
theorem dX9_ringsThatAre_2 : decode cX9_ringsThatAre 2 = .ok (.getfield 24, 3) := by decide +kernel
theorem dX9_ringsThatAre_5 : decode cX9_ringsThatAre 5 = .ok (.iload_n 1, 1) := by decide +kernel
theorem dX9_ringsThatAre_6 : decode cX9_ringsThatAre 6 = .ok (.invokevirtual 93, 3) := by decide +kernel
theorem dX9_ringsThatAre_9 : decode cX9_ringsThatAre 9 = .ok (.ireturn, 1) := by decide +kernel
set_option maxRecDepth 100000 in
set_option maxHeartbeats 4000000 in
theorem kX9_ringsThatAre {E : KE} {l : Launch} (hE : mx_ok E) (o : Nat) (i1 : Int32) (hT : xOK E) (ho : xt_isS o = true) (M : MM) {q : Int32} (hf : fX9_ringsThatAre o i1 M = some q) : mx_Met E l yX9_ringsThatAre cX9_ringsThatAre 2 (some .int) 1 [.ref (E.2.1.2.1 o), .int i1] M (some (.int q)) M := by
  refine mx_enter hE (by decide) (Nat.le_of_ble_eq_true rfl) ?_
  intro p e s m below meth c C hM hn ls hl
  have hx := C.1.1
  have hb := C.1.2.1
  have hown := C.1.2.2.2.1
  have hts := C.1.2.2.2.2
  have hl : lv_has ls 2 [(0, .ref (E.2.1.2.1 o)), (1, .int i1)] := hl
  rw [fX9_ringsThatAre] at hf
  refine lv_aload_n hx hb dX9_ringsThatAre_0 rfl (lv_at hl 0 rfl) ?_
  refine lv_aload_n hx hb dX9_ringsThatAre_1 rfl (lv_at hl 0 rfl) ?_
  refine gX9_24 C hM (xoS hT ho) (f := (2, o + 5)) rfl (v := .ref (E.2.1.2.1 (o + 5))) rfl dX9_ringsThatAre_2 ?_
  refine lv_iload_n hx hb dX9_ringsThatAre_5 rfl (lv_at hl 1 rfl) ?_
  obtain ⟨q6, hq6, hf⟩ := mx_bd hf
  refine mx_callV C hM hl.1 yo_X9_ringsWith (h' := 0) (by decide) qw_677 qw_679 qs_37 (ci := 9) (q := (RX9, TX9, 13)) rfl (xoS hT ho) (As := [.ref (E.2.1.2.1 (o + 5)), .int i1]) (rest := []) (st1 := [.int q6]) (kX9_ringsWith C.2.2.2.1 o (o + 5) i1 hT ho (xaS_5 hT ho) M hq6) rfl rfl rfl (Nat.le_of_ble_eq_true rfl) dX9_ringsThatAre_6 (fun H locs hM => ?_)
  exact mx_iretR C hM hf dX9_ringsThatAre_9
theorem dX1_judge_0 : decode cX1_judge 0 = .ok (.aload_n 0, 1) := by decide +kernel
theorem dX1_judge_1 : decode cX1_judge 1 = .ok (.iconst 0, 1) := by decide +kernel
theorem dX1_judge_2 : decode cX1_judge 2 = .ok (.putfield 108, 3) := by decide +kernel
theorem dX1_judge_5 : decode cX1_judge 5 = .ok (.aload_n 0, 1) := by decide +kernel
theorem dX1_judge_6 : decode cX1_judge 6 = .ok (.iconst 0, 1) := by decide +kernel
theorem dX1_judge_7 : decode cX1_judge 7 = .ok (.putfield 111, 3) := by decide +kernel
theorem dX1_judge_10 : decode cX1_judge 10 = .ok (.iconst 0, 1) := by decide +kernel
theorem dX1_judge_11 : decode cX1_judge 11 = .ok (.istore_n 2, 1) := by decide +kernel
theorem dX1_judge_12 : decode cX1_judge 12 = .ok (.iload_n 2, 1) := by decide +kernel
theorem dX1_judge_13 : decode cX1_judge 13 = .ok (.aload_n 0, 1) := by decide +kernel
theorem dX1_judge_14 : decode cX1_judge 14 = .ok (.getfield 24, 3) := by decide +kernel
theorem dX1_judge_17 : decode cX1_judge 17 = .ok (.if_icmp .ge 52, 3) := by decide +kernel
theorem dX1_judge_20 : decode cX1_judge 20 = .ok (.aload_n 0, 1) := by decide +kernel
theorem dX1_judge_21 : decode cX1_judge 21 = .ok (.getfield 108, 3) := by decide +kernel
theorem dX1_judge_24 : decode cX1_judge 24 = .ok (.ifCond .ne 45, 3) := by decide +kernel
theorem dX1_judge_27 : decode cX1_judge 27 = .ok (.aload_n 0, 1) := by decide +kernel
theorem dX1_judge_28 : decode cX1_judge 28 = .ok (.aload_n 1, 1) := by decide +kernel
theorem dX1_judge_29 : decode cX1_judge 29 = .ok (.iload_n 2, 1) := by decide +kernel
theorem dX1_judge_30 : decode cX1_judge 30 = .ok (.invokevirtual 114, 3) := by decide +kernel
theorem dX1_judge_33 : decode cX1_judge 33 = .ok (.istore_n 3, 1) := by decide +kernel
theorem dX1_judge_34 : decode cX1_judge 34 = .ok (.iload_n 3, 1) := by decide +kernel
theorem dX1_judge_35 : decode cX1_judge 35 = .ok (.ifCond .ne 16, 3) := by decide +kernel
theorem dX1_judge_38 : decode cX1_judge 38 = .ok (.aload_n 0, 1) := by decide +kernel
theorem dX1_judge_39 : decode cX1_judge 39 = .ok (.dup, 1) := by decide +kernel
theorem dX1_judge_40 : decode cX1_judge 40 = .ok (.getfield 111, 3) := by decide +kernel
theorem dX1_judge_43 : decode cX1_judge 43 = .ok (.iconst 1, 1) := by decide +kernel
theorem dX1_judge_44 : decode cX1_judge 44 = .ok (.iadd, 1) := by decide +kernel
theorem dX1_judge_45 : decode cX1_judge 45 = .ok (.putfield 111, 3) := by decide +kernel
theorem dX1_judge_48 : decode cX1_judge 48 = .ok (.goto 15, 3) := by decide +kernel
theorem dX1_judge_51 : decode cX1_judge 51 = .ok (.aload_n 0, 1) := by decide +kernel
theorem dX1_judge_52 : decode cX1_judge 52 = .ok (.aload_n 0, 1) := by decide +kernel
theorem dX1_judge_53 : decode cX1_judge 53 = .ok (.getfield 11, 3) := by decide +kernel
theorem dX1_judge_56 : decode cX1_judge 56 = .ok (.iload_n 2, 1) := by decide +kernel
theorem dX1_judge_57 : decode cX1_judge 57 = .ok (.iaload, 1) := by decide +kernel
theorem dX1_judge_58 : decode cX1_judge 58 = .ok (.iload_n 3, 1) := by decide +kernel
theorem dX1_judge_59 : decode cX1_judge 59 = .ok (.iadd, 1) := by decide +kernel
theorem dX1_judge_60 : decode cX1_judge 60 = .ok (.putfield 108, 3) := by decide +kernel
theorem dX1_judge_63 : decode cX1_judge 63 = .ok (.iinc 2 1, 3) := by decide +kernel
theorem dX1_judge_66 : decode cX1_judge 66 = .ok (.goto (-54), 3) := by decide +kernel
theorem dX1_judge_69 : decode cX1_judge 69 = .ok (.aload_n 0, 1) := by decide +kernel
theorem dX1_judge_70 : decode cX1_judge 70 = .ok (.aload_n 1, 1) := by decide +kernel
theorem dX1_judge_71 : decode cX1_judge 71 = .ok (.getfield 118, 3) := by decide +kernel
theorem dX1_judge_74 : decode cX1_judge 74 = .ok (.putfield 123, 3) := by decide +kernel
theorem dX1_judge_77 : decode cX1_judge 77 = .ok (.aload_n 0, 1) := by decide +kernel
theorem dX1_judge_78 : decode cX1_judge 78 = .ok (.aload_n 1, 1) := by decide +kernel
theorem dX1_judge_79 : decode cX1_judge 79 = .ok (.iconst 2, 1) := by decide +kernel
theorem dX1_judge_80 : decode cX1_judge 80 = .ok (.invokevirtual 126, 3) := by decide +kernel
theorem dX1_judge_83 : decode cX1_judge 83 = .ok (.putfield 130, 3) := by decide +kernel
theorem dX1_judge_86 : decode cX1_judge 86 = .ok (.aload_n 0, 1) := by decide +kernel
theorem dX1_judge_87 : decode cX1_judge 87 = .ok (.iconst 1, 1) := by decide +kernel
theorem dX1_judge_88 : decode cX1_judge 88 = .ok (.putfield 133, 3) := by decide +kernel
theorem dX1_judge_91 : decode cX1_judge 91 = .ok (.aload_n 0, 1) := by decide +kernel
theorem dX1_judge_92 : decode cX1_judge 92 = .ok (.getfield 108, 3) := by decide +kernel
theorem dX1_judge_95 : decode cX1_judge 95 = .ok (.ifCond .ne 7, 3) := by decide +kernel
theorem dX1_judge_98 : decode cX1_judge 98 = .ok (.iconst (-1), 1) := by decide +kernel
theorem dX1_judge_99 : decode cX1_judge 99 = .ok (.goto 7, 3) := by decide +kernel
theorem dX1_judge_102 : decode cX1_judge 102 = .ok (.aload_n 0, 1) := by decide +kernel
theorem dX1_judge_103 : decode cX1_judge 103 = .ok (.getfield 111, 3) := by decide +kernel
theorem dX1_judge_106 : decode cX1_judge 106 = .ok (.ireturn, 1) := by decide +kernel
set_option maxRecDepth 100000 in
set_option maxHeartbeats 4000000 in
theorem wfX1_judge_69 {E : KE} {p : Program} {l : Launch} {e : Env} {s : State} {m : MethodId} {args : Array Value} {below : List Frame} {meth : Method} {c : Code} {q : (Int32 × MM)} (C : mx_C E p m c cX1_judge 4 s args RX1 meth (some .int))  (hT : xOK E)   : ∀ (M : MM) (H : Heap) (locs : List Loc) (ls : Array Slot), fX1_judge_69 M = some q → mx_H E s M H locs → lv_has ls 4 [(0, .ref (E.2.1.2.1 138)), (1, .ref (E.2.1.2.1 47))] → W p l e (mx_rm 6) s m args below meth c H locs 0 0 (mx_Z E below args s (some (.int q.1)) q.2) (F0 m 69 ls []) := by
  have hx := C.1.1
  have hb := C.1.2.1
  have hown := C.1.2.2.2.1
  have hts := C.1.2.2.2.2
  intro M H locs ls hf hM hl
  rw [fX1_judge_69] at hf
  refine lv_aload_n hx hb dX1_judge_69 rfl (lv_at hl 0 rfl) ?_
  refine lv_aload_n hx hb dX1_judge_70 rfl (lv_at hl 1 rfl) ?_
  refine gX1_118 C hT hM (xt_47 hT) (f := (0, 0)) rfl (v := .int (M.1 47 9)) rfl dX1_judge_71 ?_
  refine pX1_123 C hM (xt_138 hT) rfl rfl rfl dX1_judge_74 (fun H locs hM => ?_)
  refine lv_aload_n hx hb dX1_judge_77 rfl (lv_at hl 0 rfl) ?_
  refine lv_aload_n hx hb dX1_judge_78 rfl (lv_at hl 1 rfl) ?_
  refine lv_iconst (v := (2 : Int32)) hx hb dX1_judge_79 (by decide) ?_
  obtain ⟨q80, hq80, hf⟩ := mx_bd hf
  refine mx_callVN C hM hl.1 yo_X9_ringsThatAre (h' := 1) (by decide) (nw_1150 hT C) qw_675 qs_36 (ci := 9) (q := (RX9, TX9, 13)) rfl (xt_47 hT) (As := [.int (2 : Int32)]) (rest := [.ref (E.2.1.2.1 138)]) (st1 := [.int q80, .ref (E.2.1.2.1 138)]) (kX9_ringsThatAre C.2.2.2.1 47 (2 : Int32) hT xiS_47 (mx_si M 138 8 (M.1 47 9)) hq80) rfl rfl rfl (Nat.le_of_ble_eq_true rfl) dX1_judge_80 (fun H locs hM => ?_)
  refine pX1_130 C hM (xt_138 hT) rfl rfl rfl dX1_judge_83 (fun H locs hM => ?_)
  refine lv_aload_n hx hb dX1_judge_86 rfl (lv_at hl 0 rfl) ?_
  refine lv_iconst (v := (1 : Int32)) hx hb dX1_judge_87 (by decide) ?_
  refine pX1_133 C hM (xt_138 hT) rfl (by decide) (by decide) dX1_judge_88 (fun H locs hM => ?_)
  refine lv_aload_n hx hb dX1_judge_91 rfl (lv_at hl 0 rfl) ?_
  refine gX1_108 C hM (xt_138 hT) (f := (0, 0)) rfl (v := .int ((mx_si (mx_si (mx_si M 138 8 (M.1 47 9)) 138 9 q80) 138 5 (1 : Int32)).1 138 6)) rfl dX1_judge_92 ?_
  refine lv_if_ne (tgt := 102) hx hb dX1_judge_95 (by decide) (fun hc95 => ?_) (fun hc95 => ?_)
  · replace hf := mx_iff hc95 hf
    refine lv_aload_n hx hb dX1_judge_102 rfl (lv_at hl 0 rfl) ?_
    refine gX1_111 C hM (xt_138 hT) (f := (0, 0)) rfl (v := .int ((mx_si (mx_si (mx_si M 138 8 (M.1 47 9)) 138 9 q80) 138 5 (1 : Int32)).1 138 7)) rfl dX1_judge_103 ?_
    exact mx_iret C hM hf dX1_judge_106
  · replace hf := mx_ift hc95 hf
    refine lv_iconst (v := (-1 : Int32)) hx hb dX1_judge_98 (by decide) ?_
    refine lv_goto (tgt := 106) hx hb dX1_judge_99 (by decide) ?_
    exact mx_iret C hM hf dX1_judge_106
set_option maxRecDepth 100000 in
set_option maxHeartbeats 4000000 in
theorem wfX1_judge_12 {E : KE} {p : Program} {l : Launch} {e : Env} {s : State} {m : MethodId} {args : Array Value} {below : List Frame} {meth : Method} {c : Code} {q : (Int32 × MM)} (C : mx_C E p m c cX1_judge 4 s args RX1 meth (some .int))  (hT : xOK E)   : ∀ (n : Nat) (i2 : Int32) (M : MM) (H : Heap) (locs : List Loc) (ls : Array Slot), fX1_judge_12 n i2 M = some q → mx_H E s M H locs → lv_has ls 4 [(0, .ref (E.2.1.2.1 138)), (1, .ref (E.2.1.2.1 47)), (2, .int i2)] → W p l e (mx_rm 6) s m args below meth c H locs 0 0 (mx_Z E below args s (some (.int q.1)) q.2) (F0 m 12 ls []) := by
  have hx := C.1.1
  have hb := C.1.2.1
  have hown := C.1.2.2.2.1
  have hts := C.1.2.2.2.2
  intro n
  induction n with
  | zero =>
    intro i2 M H locs ls hf hM hl
    rw [fX1_judge_12] at hf
    cases hf
  | succ n ih =>
    intro i2 M H locs ls hf hM hl
    rw [fX1_judge_12] at hf
    refine lv_iload_n hx hb dX1_judge_12 rfl (lv_at hl 2 rfl) ?_
    refine lv_aload_n hx hb dX1_judge_13 rfl (lv_at hl 0 rfl) ?_
    refine gX1_24 C hM (xt_138 hT) (f := (0, 0)) rfl (v := .int (M.1 138 4)) rfl dX1_judge_14 ?_
    refine lv_icmp_ge (tgt := 69) hx hb dX1_judge_17 (by decide) (fun hc17 => ?_) (fun hc17 => ?_)
    · replace hf := mx_ift hc17 hf
      exact wfX1_judge_69 C hT M _ _ _ hf hM (lv_sub hl [0, 1] rfl)
    · replace hf := mx_iff hc17 hf
      refine lv_aload_n hx hb dX1_judge_20 rfl (lv_at hl 0 rfl) ?_
      refine gX1_108 C hM (xt_138 hT) (f := (0, 0)) rfl (v := .int (M.1 138 6)) rfl dX1_judge_21 ?_
      refine lv_if_ne (tgt := 69) hx hb dX1_judge_24 (by decide) (fun hc24 => ?_) (fun hc24 => ?_)
      · replace hf := mx_iff hc24 hf
        exact wfX1_judge_69 C hT M _ _ _ hf hM (lv_sub hl [0, 1] rfl)
      · replace hf := mx_ift hc24 hf
        refine lv_aload_n hx hb dX1_judge_27 rfl (lv_at hl 0 rfl) ?_
        refine lv_aload_n hx hb dX1_judge_28 rfl (lv_at hl 1 rfl) ?_
        refine lv_iload_n hx hb dX1_judge_29 rfl (lv_at hl 2 rfl) ?_
        obtain ⟨q30, hq30, hf⟩ := mx_bd hf
        refine mx_callV C hM hl.1 yo_X1_live (h' := 5) (by decide) qw_1137 qw_1139 qs_95 (ci := 1) (q := (RX1, TX1, 10)) rfl (xt_138 hT) (As := [.ref (E.2.1.2.1 47), .int i2]) (rest := []) (st1 := [.int q30.1]) (kX1_live C.2.2.2.1 i2 hT M hq30) rfl rfl rfl (Nat.le_of_ble_eq_true rfl) dX1_judge_30 (fun H locs hM => ?_)
        refine lv_istore_n (lv' := [(3, .int q30.1), (0, .ref (E.2.1.2.1 138)), (1, .ref (E.2.1.2.1 47)), (2, .int i2)]) hx hb dX1_judge_33 rfl hl (by decide) rfl (fun ls hl => ?_)
        refine lv_iload_n hx hb dX1_judge_34 rfl (lv_at hl 0 rfl) ?_
        refine lv_if_ne (tgt := 51) hx hb dX1_judge_35 (by decide) (fun hc35 => ?_) (fun hc35 => ?_)
        · replace hf := mx_iff hc35 hf
          refine lv_aload_n hx hb dX1_judge_51 rfl (lv_at hl 1 rfl) ?_
          refine lv_aload_n hx hb dX1_judge_52 rfl (lv_at hl 1 rfl) ?_
          refine gX1_11 C hM (xt_138 hT) (f := (2, 139)) rfl (v := .ref (E.2.1.2.1 139)) rfl dX1_judge_53 ?_
          refine lv_iload_n hx hb dX1_judge_56 rfl (lv_at hl 3 rfl) ?_
          obtain ⟨hg57, hf⟩ := mx_gd hf
          refine mx_iald C hM (xt_139 hT) (mx_in_vp hg57) dX1_judge_57 ?_
          refine lv_iload_n hx hb dX1_judge_58 rfl (lv_at hl 0 rfl) ?_
          refine lv_iadd hx hb dX1_judge_59 ?_
          refine pX1_108 C hM (xt_138 hT) rfl rfl rfl dX1_judge_60 (fun H locs hM => ?_)
          refine lv_iinc (v := (i2 + (1 : Int32))) (lv' := [(2, .int (i2 + (1 : Int32))), (3, .int q30.1), (0, .ref (E.2.1.2.1 138)), (1, .ref (E.2.1.2.1 47))]) hx hb dX1_judge_63 hl (k := 3) rfl rfl (by decide) rfl (fun ls hl => ?_)
          refine lv_goto (tgt := 12) hx hb dX1_judge_66 (by decide) ?_
          exact ih (i2 + (1 : Int32)) (mx_si q30.2 138 6 ((q30.2.1 139 i2.toNatClampNeg) + q30.1)) _ _ _ hf hM (lv_sub hl [2, 3, 0] rfl)
        · replace hf := mx_ift hc35 hf
          refine lv_aload_n hx hb dX1_judge_38 rfl (lv_at hl 1 rfl) ?_
          refine lv_dup hx hb dX1_judge_39 rfl ?_
          refine gX1_111 C hM (xt_138 hT) (f := (0, 0)) rfl (v := .int (q30.2.1 138 7)) rfl dX1_judge_40 ?_
          refine lv_iconst (v := (1 : Int32)) hx hb dX1_judge_43 (by decide) ?_
          refine lv_iadd hx hb dX1_judge_44 ?_
          refine pX1_111 C hM (xt_138 hT) rfl rfl rfl dX1_judge_45 (fun H locs hM => ?_)
          refine lv_goto (tgt := 63) hx hb dX1_judge_48 (by decide) ?_
          refine lv_iinc (v := (i2 + (1 : Int32))) (lv' := [(2, .int (i2 + (1 : Int32))), (3, .int q30.1), (0, .ref (E.2.1.2.1 138)), (1, .ref (E.2.1.2.1 47))]) hx hb dX1_judge_63 hl (k := 3) rfl rfl (by decide) rfl (fun ls hl => ?_)
          refine lv_goto (tgt := 12) hx hb dX1_judge_66 (by decide) ?_
          exact ih (i2 + (1 : Int32)) (mx_si q30.2 138 7 ((q30.2.1 138 7) + (1 : Int32))) _ _ _ hf hM (lv_sub hl [2, 3, 0] rfl)
set_option maxRecDepth 100000 in
set_option maxHeartbeats 4000000 in
theorem kX1_judge {E : KE} {l : Launch} (hE : mx_ok E)  (hT : xOK E) (M : MM) {q : (Int32 × MM)} (hf : fX1_judge M = some q) : mx_Met E l yX1_judge cX1_judge 4 (some .int) 6 [.ref (E.2.1.2.1 138), .ref (E.2.1.2.1 47)] M (some (.int q.1)) q.2 := by
  refine mx_enter hE (by decide) (Nat.le_of_ble_eq_true rfl) ?_
  intro p e s m below meth c C hM hn ls hl
  have hx := C.1.1
  have hb := C.1.2.1
  have hown := C.1.2.2.2.1
  have hts := C.1.2.2.2.2
  have hl : lv_has ls 4 [(0, .ref (E.2.1.2.1 138)), (1, .ref (E.2.1.2.1 47))] := hl
  rw [fX1_judge] at hf
  refine lv_aload_n hx hb dX1_judge_0 rfl (lv_at hl 0 rfl) ?_
  refine lv_iconst (v := (0 : Int32)) hx hb dX1_judge_1 (by decide) ?_
  refine pX1_108 C hM (xt_138 hT) rfl rfl rfl dX1_judge_2 (fun H locs hM => ?_)
  refine lv_aload_n hx hb dX1_judge_5 rfl (lv_at hl 0 rfl) ?_
  refine lv_iconst (v := (0 : Int32)) hx hb dX1_judge_6 (by decide) ?_
  refine pX1_111 C hM (xt_138 hT) rfl rfl rfl dX1_judge_7 (fun H locs hM => ?_)
  refine lv_iconst (v := (0 : Int32)) hx hb dX1_judge_10 (by decide) ?_
  refine lv_istore_n (lv' := [(2, .int (0 : Int32)), (0, .ref (E.2.1.2.1 138)), (1, .ref (E.2.1.2.1 47))]) hx hb dX1_judge_11 rfl hl (by decide) rfl (fun ls hl => ?_)
  exact wfX1_judge_12 C hT mx_fu (0 : Int32) (mx_si (mx_si M 138 6 (0 : Int32)) 138 7 (0 : Int32)) _ _ _ hf hM (lv_sub hl [1, 2, 0] rfl)
theorem dX10_at_0 : decode cX10_at 0 = .ok (.iload_n 1, 1) := by decide +kernel
theorem dX10_at_1 : decode cX10_at 1 = .ok (.ifCond .lt 11, 3) := by decide +kernel
theorem dX10_at_4 : decode cX10_at 4 = .ok (.iload_n 1, 1) := by decide +kernel
theorem dX10_at_5 : decode cX10_at 5 = .ok (.aload_n 0, 1) := by decide +kernel
theorem dX10_at_6 : decode cX10_at 6 = .ok (.getfield 15, 3) := by decide +kernel
theorem dX10_at_9 : decode cX10_at 9 = .ok (.if_icmp .lt 7, 3) := by decide +kernel
theorem dX10_at_12 : decode cX10_at 12 = .ok (.iconst (-1), 1) := by decide +kernel
theorem dX10_at_13 : decode cX10_at 13 = .ok (.goto 13, 3) := by decide +kernel
theorem dX10_at_16 : decode cX10_at 16 = .ok (.aload_n 0, 1) := by decide +kernel
theorem dX10_at_17 : decode cX10_at 17 = .ok (.getfield 11, 3) := by decide +kernel
theorem dX10_at_20 : decode cX10_at 20 = .ok (.iload_n 1, 1) := by decide +kernel
theorem dX10_at_21 : decode cX10_at 21 = .ok (.baload, 1) := by decide +kernel
theorem dX10_at_22 : decode cX10_at 22 = .ok (.sipush 255, 3) := by decide +kernel
theorem dX10_at_25 : decode cX10_at 25 = .ok (.iand, 1) := by decide +kernel
theorem dX10_at_26 : decode cX10_at 26 = .ok (.ireturn, 1) := by decide +kernel
set_option maxRecDepth 100000 in
set_option maxHeartbeats 4000000 in
theorem kX10_at {E : KE} {l : Launch} (hE : mx_ok E) (i1 : Int32) (hT : xOK E) (M : MM) {q : Int32} (hf : fX10_at i1 M = some q) : mx_Met E l yX10_at cX10_at 2 (some .int) 0 [.ref (E.2.1.2.1 1), .int i1] M (some (.int q)) M := by
  refine mx_enter hE (by decide) (Nat.le_of_ble_eq_true rfl) ?_
  intro p e s m below meth c C hM hn ls hl
  have hx := C.1.1
  have hb := C.1.2.1
  have hown := C.1.2.2.2.1
  have hts := C.1.2.2.2.2
  have hl : lv_has ls 2 [(0, .ref (E.2.1.2.1 1)), (1, .int i1)] := hl
  rw [fX10_at] at hf
  refine lv_iload_n hx hb dX10_at_0 rfl (lv_at hl 1 rfl) ?_
  refine lv_if_lt (tgt := 12) hx hb dX10_at_1 (by decide) (fun hc1 => ?_) (fun hc1 => ?_)
  · replace hf := mx_ift hc1 hf
    refine lv_iconst (v := (-1 : Int32)) hx hb dX10_at_12 (by decide) ?_
    refine lv_goto (tgt := 26) hx hb dX10_at_13 (by decide) ?_
    exact mx_iretR C hM hf dX10_at_26
  · replace hf := mx_iff hc1 hf
    refine lv_iload_n hx hb dX10_at_4 rfl (lv_at hl 1 rfl) ?_
    refine lv_aload_n hx hb dX10_at_5 rfl (lv_at hl 0 rfl) ?_
    refine gX10_15 C hM (xt_1 hT) (f := (0, 0)) rfl (v := .int (M.1 1 1)) rfl dX10_at_6 ?_
    refine lv_icmp_lt (tgt := 16) hx hb dX10_at_9 (by decide) (fun hc9 => ?_) (fun hc9 => ?_)
    · replace hf := mx_ift hc9 hf
      refine lv_aload_n hx hb dX10_at_16 rfl (lv_at hl 0 rfl) ?_
      refine gX10_11 C hM (xt_1 hT) (f := (2, 2)) rfl (v := .ref (E.2.1.2.1 2)) rfl dX10_at_17 ?_
      refine lv_iload_n hx hb dX10_at_20 rfl (lv_at hl 1 rfl) ?_
      obtain ⟨hg21, hf⟩ := mx_gd hf
      refine mx_bald C hM (xt_2 hT) (mx_in_vp hg21) dX10_at_21 ?_
      refine lv_sipush (v := (255 : Int32)) hx hb dX10_at_22 (by decide) ?_
      refine lv_iand hx hb dX10_at_25 ?_
      exact mx_iretR C hM hf dX10_at_26
    · replace hf := mx_iff hc9 hf
      refine lv_iconst (v := (-1 : Int32)) hx hb dX10_at_12 (by decide) ?_
      refine lv_goto (tgt := 26) hx hb dX10_at_13 (by decide) ?_
      exact mx_iretR C hM hf dX10_at_26
theorem dX2_areTries_0 : decode cX2_areTries 0 = .ok (.aload_n 1, 1) := by decide +kernel
theorem dX2_areTries_1 : decode cX2_areTries 1 = .ok (.getfield 43, 3) := by decide +kernel
theorem dX2_areTries_4 : decode cX2_areTries 4 = .ok (.istore_n 2, 1) := by decide +kernel
theorem dX2_areTries_5 : decode cX2_areTries 5 = .ok (.iload_n 2, 1) := by decide +kernel
theorem dX2_areTries_6 : decode cX2_areTries 6 = .ok (.iconst 2, 1) := by decide +kernel
theorem dX2_areTries_7 : decode cX2_areTries 7 = .ok (.if_icmp .lt 15, 3) := by decide +kernel
theorem dX2_areTries_10 : decode cX2_areTries 10 = .ok (.iload_n 2, 1) := by decide +kernel
theorem dX2_areTries_11 : decode cX2_areTries 11 = .ok (.bipush 16, 2) := by decide +kernel
theorem dX2_areTries_13 : decode cX2_areTries 13 = .ok (.if_icmp .gt 9, 3) := by decide +kernel
theorem dX2_areTries_16 : decode cX2_areTries 16 = .ok (.iload_n 2, 1) := by decide +kernel
theorem dX2_areTries_17 : decode cX2_areTries 17 = .ok (.iconst 2, 1) := by decide +kernel
theorem dX2_areTries_18 : decode cX2_areTries 18 = .ok (.irem, 1) := by decide +kernel
theorem dX2_areTries_19 : decode cX2_areTries 19 = .ok (.ifCond .eq 5, 3) := by decide +kernel
theorem dX2_areTries_22 : decode cX2_areTries 22 = .ok (.iconst 0, 1) := by decide +kernel
theorem dX2_areTries_23 : decode cX2_areTries 23 = .ok (.ireturn, 1) := by decide +kernel
theorem dX2_areTries_24 : decode cX2_areTries 24 = .ok (.iconst 0, 1) := by decide +kernel
theorem dX2_areTries_25 : decode cX2_areTries 25 = .ok (.istore_n 3, 1) := by decide +kernel
theorem dX2_areTries_26 : decode cX2_areTries 26 = .ok (.iload_n 3, 1) := by decide +kernel
theorem dX2_areTries_27 : decode cX2_areTries 27 = .ok (.iload_n 2, 1) := by decide +kernel
theorem dX2_areTries_28 : decode cX2_areTries 28 = .ok (.if_icmp .ge 34, 3) := by decide +kernel
theorem dX2_areTries_31 : decode cX2_areTries 31 = .ok (.aload_n 0, 1) := by decide +kernel
theorem dX2_areTries_32 : decode cX2_areTries 32 = .ok (.aload_n 1, 1) := by decide +kernel
theorem dX2_areTries_33 : decode cX2_areTries 33 = .ok (.iload_n 3, 1) := by decide +kernel
theorem dX2_areTries_34 : decode cX2_areTries 34 = .ok (.invokevirtual 48, 3) := by decide +kernel
theorem dX2_areTries_37 : decode cX2_areTries 37 = .ok (.invokevirtual 51, 3) := by decide +kernel
theorem dX2_areTries_40 : decode cX2_areTries 40 = .ok (.ifCond .eq 14, 3) := by decide +kernel
theorem dX2_areTries_43 : decode cX2_areTries 43 = .ok (.aload_n 1, 1) := by decide +kernel
theorem dX2_areTries_44 : decode cX2_areTries 44 = .ok (.iload_n 3, 1) := by decide +kernel
theorem dX2_areTries_45 : decode cX2_areTries 45 = .ok (.iconst 1, 1) := by decide +kernel
theorem dX2_areTries_46 : decode cX2_areTries 46 = .ok (.iadd, 1) := by decide +kernel
theorem dX2_areTries_47 : decode cX2_areTries 47 = .ok (.invokevirtual 48, 3) := by decide +kernel
theorem dX2_areTries_50 : decode cX2_areTries 50 = .ok (.iconst 2, 1) := by decide +kernel
theorem dX2_areTries_51 : decode cX2_areTries 51 = .ok (.if_icmp .le 5, 3) := by decide +kernel
theorem dX2_areTries_54 : decode cX2_areTries 54 = .ok (.iconst 0, 1) := by decide +kernel
theorem dX2_areTries_55 : decode cX2_areTries 55 = .ok (.ireturn, 1) := by decide +kernel
theorem dX2_areTries_56 : decode cX2_areTries 56 = .ok (.iinc 3 2, 3) := by decide +kernel
theorem dX2_areTries_59 : decode cX2_areTries 59 = .ok (.goto (-33), 3) := by decide +kernel
theorem dX2_areTries_62 : decode cX2_areTries 62 = .ok (.iconst 1, 1) := by decide +kernel
theorem dX2_areTries_63 : decode cX2_areTries 63 = .ok (.ireturn, 1) := by decide +kernel
set_option maxRecDepth 100000 in
set_option maxHeartbeats 4000000 in
theorem wfX2_areTries_26 {E : KE} {p : Program} {l : Launch} {e : Env} {s : State} {m : MethodId} {args : Array Value} {below : List Frame} {meth : Method} {c : Code} {q : Bool} (C : mx_C E p m c cX2_areTries 4 s args RX2 meth (some .boolean)) (M : MM) (hT : xOK E) (i2 : Int32)  : ∀ (n : Nat) (i3 : Int32) (H : Heap) (locs : List Loc) (ls : Array Slot), fX2_areTries_26 M i2 n i3 = some q → mx_H E s M H locs → lv_has ls 4 [(0, .ref (E.2.1.2.1 9)), (1, .ref (E.2.1.2.1 1)), (2, .int i2), (3, .int i3)] → W p l e (mx_rm 1) s m args below meth c H locs 0 0 (mx_Z E below args s (some (.int (mx_b q))) M) (F0 m 26 ls []) := by
  have hx := C.1.1
  have hb := C.1.2.1
  have hown := C.1.2.2.2.1
  have hts := C.1.2.2.2.2
  intro n
  induction n with
  | zero =>
    intro i3 H locs ls hf hM hl
    rw [fX2_areTries_26] at hf
    cases hf
  | succ n ih =>
    intro i3 H locs ls hf hM hl
    rw [fX2_areTries_26] at hf
    refine lv_iload_n hx hb dX2_areTries_26 rfl (lv_at hl 3 rfl) ?_
    refine lv_iload_n hx hb dX2_areTries_27 rfl (lv_at hl 2 rfl) ?_
    refine lv_icmp_ge (tgt := 62) hx hb dX2_areTries_28 (by decide) (fun hc28 => ?_) (fun hc28 => ?_)
    · replace hf := mx_ift hc28 hf
      refine lv_iconst (v := (1 : Int32)) hx hb dX2_areTries_62 (by decide) ?_
      exact mx_zretR C hM (b := true) rfl hf dX2_areTries_63
    · replace hf := mx_iff hc28 hf
      refine lv_aload_n hx hb dX2_areTries_31 rfl (lv_at hl 0 rfl) ?_
      refine lv_aload_n hx hb dX2_areTries_32 rfl (lv_at hl 1 rfl) ?_
      refine lv_iload_n hx hb dX2_areTries_33 rfl (lv_at hl 3 rfl) ?_
      obtain ⟨q34, hq34, hf⟩ := mx_bd hf
      refine mx_callVN C hM hl.1 yo_X10_at (h' := 0) (by decide) (nw_912 hT C) qw_507 qs_5 (ci := 10) (q := (RX10, TX10, 2)) rfl (xt_1 hT) (As := [.int i3]) (rest := [.ref (E.2.1.2.1 9)]) (st1 := [.int q34, .ref (E.2.1.2.1 9)]) (kX10_at C.2.2.2.1 i3 hT M hq34) rfl rfl rfl (Nat.le_of_ble_eq_true rfl) dX2_areTries_34 (fun H locs hM => ?_)
      obtain ⟨q37, hq37, hf⟩ := mx_bd hf
      refine mx_callVN C hM hl.1 yo_X3_isPerson (h' := 0) (by decide) (nw_913 hT C) qw_663 qs_34 (ci := 3) (q := (RX3, TX3, 18)) rfl (xt_9 hT) (As := [.int q34]) (rest := []) (st1 := [.int (mx_b q37)]) (kX3_isPerson C.2.2.2.1 q34 hT M hq37) rfl rfl rfl (Nat.le_of_ble_eq_true rfl) dX2_areTries_37 (fun H locs hM => ?_)
      refine lv_if_eq (tgt := 54) hx hb dX2_areTries_40 (by decide) (fun hc40 => ?_) (fun hc40 => ?_)
      · replace hf := mx_ift hc40 hf
        refine lv_iconst (v := (0 : Int32)) hx hb dX2_areTries_54 (by decide) ?_
        exact mx_zretR C hM (b := false) rfl hf dX2_areTries_55
      · replace hf := mx_iff hc40 hf
        refine lv_aload_n hx hb dX2_areTries_43 rfl (lv_at hl 1 rfl) ?_
        refine lv_iload_n hx hb dX2_areTries_44 rfl (lv_at hl 3 rfl) ?_
        refine lv_iconst (v := (1 : Int32)) hx hb dX2_areTries_45 (by decide) ?_
        refine lv_iadd hx hb dX2_areTries_46 ?_
        obtain ⟨q47, hq47, hf⟩ := mx_bd hf
        refine mx_callVN C hM hl.1 yo_X10_at (h' := 0) (by decide) (nw_912 hT C) qw_507 qs_5 (ci := 10) (q := (RX10, TX10, 2)) rfl (xt_1 hT) (As := [.int (i3 + (1 : Int32))]) (rest := []) (st1 := [.int q47]) (kX10_at C.2.2.2.1 (i3 + (1 : Int32)) hT M hq47) rfl rfl rfl (Nat.le_of_ble_eq_true rfl) dX2_areTries_47 (fun H locs hM => ?_)
        refine lv_iconst (v := (2 : Int32)) hx hb dX2_areTries_50 (by decide) ?_
        refine lv_icmp_le (tgt := 56) hx hb dX2_areTries_51 (by decide) (fun hc51 => ?_) (fun hc51 => ?_)
        · replace hf := mx_ift hc51 hf
          refine lv_iinc (v := (i3 + (2 : Int32))) (lv' := [(3, .int (i3 + (2 : Int32))), (0, .ref (E.2.1.2.1 9)), (1, .ref (E.2.1.2.1 1)), (2, .int i2)]) hx hb dX2_areTries_56 hl (k := 3) rfl rfl (by decide) rfl (fun ls hl => ?_)
          refine lv_goto (tgt := 26) hx hb dX2_areTries_59 (by decide) ?_
          exact ih (i3 + (2 : Int32)) _ _ _ hf hM (lv_sub hl [1, 2, 3, 0] rfl)
        · replace hf := mx_iff hc51 hf
          refine lv_iconst (v := (0 : Int32)) hx hb dX2_areTries_54 (by decide) ?_
          exact mx_zretR C hM (b := false) rfl hf dX2_areTries_55
set_option maxRecDepth 100000 in
set_option maxHeartbeats 4000000 in
theorem kX2_areTries {E : KE} {l : Launch} (hE : mx_ok E)  (hT : xOK E) (M : MM) {q : Bool} (hf : fX2_areTries M = some q) : mx_Met E l yX2_areTries cX2_areTries 4 (some .boolean) 1 [.ref (E.2.1.2.1 9), .ref (E.2.1.2.1 1)] M (some (.int (mx_b q))) M := by
  refine mx_enter hE (by decide) (Nat.le_of_ble_eq_true rfl) ?_
  intro p e s m below meth c C hM hn ls hl
  have hx := C.1.1
  have hb := C.1.2.1
  have hown := C.1.2.2.2.1
  have hts := C.1.2.2.2.2
  have hl : lv_has ls 4 [(0, .ref (E.2.1.2.1 9)), (1, .ref (E.2.1.2.1 1))] := hl
  rw [fX2_areTries] at hf
  refine lv_aload_n hx hb dX2_areTries_0 rfl (lv_at hl 1 rfl) ?_
  refine gX2_43 C hT hM (xt_1 hT) (f := (0, 0)) rfl (v := .int (M.1 1 1)) rfl dX2_areTries_1 ?_
  refine lv_istore_n (lv' := [(2, .int (M.1 1 1)), (0, .ref (E.2.1.2.1 9)), (1, .ref (E.2.1.2.1 1))]) hx hb dX2_areTries_4 rfl hl (by decide) rfl (fun ls hl => ?_)
  refine lv_iload_n hx hb dX2_areTries_5 rfl (lv_at hl 0 rfl) ?_
  refine lv_iconst (v := (2 : Int32)) hx hb dX2_areTries_6 (by decide) ?_
  refine lv_icmp_lt (tgt := 22) hx hb dX2_areTries_7 (by decide) (fun hc7 => ?_) (fun hc7 => ?_)
  · replace hf := mx_ift hc7 hf
    refine lv_iconst (v := (0 : Int32)) hx hb dX2_areTries_22 (by decide) ?_
    exact mx_zretR C hM (b := false) rfl hf dX2_areTries_23
  · replace hf := mx_iff hc7 hf
    refine lv_iload_n hx hb dX2_areTries_10 rfl (lv_at hl 0 rfl) ?_
    refine lv_bipush (v := (16 : Int32)) hx hb dX2_areTries_11 (by decide) ?_
    refine lv_icmp_gt (tgt := 22) hx hb dX2_areTries_13 (by decide) (fun hc13 => ?_) (fun hc13 => ?_)
    · replace hf := mx_ift hc13 hf
      refine lv_iconst (v := (0 : Int32)) hx hb dX2_areTries_22 (by decide) ?_
      exact mx_zretR C hM (b := false) rfl hf dX2_areTries_23
    · replace hf := mx_iff hc13 hf
      refine lv_iload_n hx hb dX2_areTries_16 rfl (lv_at hl 0 rfl) ?_
      refine lv_iconst (v := (2 : Int32)) hx hb dX2_areTries_17 (by decide) ?_
      refine lv_irem hx hb dX2_areTries_18 (by decide) ?_
      refine lv_if_eq (tgt := 24) hx hb dX2_areTries_19 (by decide) (fun hc19 => ?_) (fun hc19 => ?_)
      · replace hf := mx_ift hc19 hf
        refine lv_iconst (v := (0 : Int32)) hx hb dX2_areTries_24 (by decide) ?_
        refine lv_istore_n (lv' := [(3, .int (0 : Int32)), (2, .int (M.1 1 1)), (0, .ref (E.2.1.2.1 9)), (1, .ref (E.2.1.2.1 1))]) hx hb dX2_areTries_25 rfl hl (by decide) rfl (fun ls hl => ?_)
        exact wfX2_areTries_26 C M hT (M.1 1 1) mx_fu (0 : Int32) _ _ _ hf hM (lv_sub hl [2, 3, 1, 0] rfl)
      · replace hf := mx_iff hc19 hf
        refine lv_iconst (v := (0 : Int32)) hx hb dX2_areTries_22 (by decide) ?_
        exact mx_zretR C hM (b := false) rfl hf dX2_areTries_23
theorem dX2_isJustSo_0 : decode cX2_isJustSo 0 = .ok (.iconst 0, 1) := by decide +kernel
theorem dX2_isJustSo_1 : decode cX2_isJustSo 1 = .ok (.istore_n 3, 1) := by decide +kernel
theorem dX2_isJustSo_2 : decode cX2_isJustSo 2 = .ok (.iload_n 3, 1) := by decide +kernel
theorem dX2_isJustSo_3 : decode cX2_isJustSo 3 = .ok (.aload_n 1, 1) := by decide +kernel
theorem dX2_isJustSo_4 : decode cX2_isJustSo 4 = .ok (.getfield 43, 3) := by decide +kernel
theorem dX2_isJustSo_7 : decode cX2_isJustSo 7 = .ok (.if_icmp .ge 31, 3) := by decide +kernel
theorem dX2_isJustSo_10 : decode cX2_isJustSo 10 = .ok (.aload_n 0, 1) := by decide +kernel
theorem dX2_isJustSo_11 : decode cX2_isJustSo 11 = .ok (.iload_n 2, 1) := by decide +kernel
theorem dX2_isJustSo_12 : decode cX2_isJustSo 12 = .ok (.aload_n 1, 1) := by decide +kernel
theorem dX2_isJustSo_13 : decode cX2_isJustSo 13 = .ok (.iload_n 3, 1) := by decide +kernel
theorem dX2_isJustSo_14 : decode cX2_isJustSo 14 = .ok (.invokevirtual 48, 3) := by decide +kernel
theorem dX2_isJustSo_17 : decode cX2_isJustSo 17 = .ok (.invokevirtual 57, 3) := by decide +kernel
theorem dX2_isJustSo_20 : decode cX2_isJustSo 20 = .ok (.aload_n 1, 1) := by decide +kernel
theorem dX2_isJustSo_21 : decode cX2_isJustSo 21 = .ok (.iload_n 3, 1) := by decide +kernel
theorem dX2_isJustSo_22 : decode cX2_isJustSo 22 = .ok (.iconst 1, 1) := by decide +kernel
theorem dX2_isJustSo_23 : decode cX2_isJustSo 23 = .ok (.iadd, 1) := by decide +kernel
theorem dX2_isJustSo_24 : decode cX2_isJustSo 24 = .ok (.invokevirtual 48, 3) := by decide +kernel
theorem dX2_isJustSo_27 : decode cX2_isJustSo 27 = .ok (.if_icmp .eq 5, 3) := by decide +kernel
theorem dX2_isJustSo_30 : decode cX2_isJustSo 30 = .ok (.iconst 0, 1) := by decide +kernel
theorem dX2_isJustSo_31 : decode cX2_isJustSo 31 = .ok (.ireturn, 1) := by decide +kernel
theorem dX2_isJustSo_32 : decode cX2_isJustSo 32 = .ok (.iinc 3 2, 3) := by decide +kernel
theorem dX2_isJustSo_35 : decode cX2_isJustSo 35 = .ok (.goto (-33), 3) := by decide +kernel
theorem dX2_isJustSo_38 : decode cX2_isJustSo 38 = .ok (.iconst 1, 1) := by decide +kernel
theorem dX2_isJustSo_39 : decode cX2_isJustSo 39 = .ok (.ireturn, 1) := by decide +kernel
set_option maxRecDepth 100000 in
set_option maxHeartbeats 4000000 in
theorem wfX2_isJustSo_2 {E : KE} {p : Program} {l : Launch} {e : Env} {s : State} {m : MethodId} {args : Array Value} {below : List Frame} {meth : Method} {c : Code} {q : Bool} (C : mx_C E p m c cX2_isJustSo 4 s args RX2 meth (some .boolean)) (i2 : Int32) (M : MM) (hT : xOK E)   : ∀ (n : Nat) (i3 : Int32) (H : Heap) (locs : List Loc) (ls : Array Slot), fX2_isJustSo_2 i2 M n i3 = some q → mx_H E s M H locs → lv_has ls 4 [(0, .ref (E.2.1.2.1 9)), (1, .ref (E.2.1.2.1 1)), (2, .int i2), (3, .int i3)] → W p l e (mx_rm 1) s m args below meth c H locs 0 0 (mx_Z E below args s (some (.int (mx_b q))) M) (F0 m 2 ls []) := by
  have hx := C.1.1
  have hb := C.1.2.1
  have hown := C.1.2.2.2.1
  have hts := C.1.2.2.2.2
  intro n
  induction n with
  | zero =>
    intro i3 H locs ls hf hM hl
    rw [fX2_isJustSo_2] at hf
    cases hf
  | succ n ih =>
    intro i3 H locs ls hf hM hl
    rw [fX2_isJustSo_2] at hf
    refine lv_iload_n hx hb dX2_isJustSo_2 rfl (lv_at hl 3 rfl) ?_
    refine lv_aload_n hx hb dX2_isJustSo_3 rfl (lv_at hl 1 rfl) ?_
    refine gX2_43 C hT hM (xt_1 hT) (f := (0, 0)) rfl (v := .int (M.1 1 1)) rfl dX2_isJustSo_4 ?_
    refine lv_icmp_ge (tgt := 38) hx hb dX2_isJustSo_7 (by decide) (fun hc7 => ?_) (fun hc7 => ?_)
    · replace hf := mx_ift hc7 hf
      refine lv_iconst (v := (1 : Int32)) hx hb dX2_isJustSo_38 (by decide) ?_
      exact mx_zretR C hM (b := true) rfl hf dX2_isJustSo_39
    · replace hf := mx_iff hc7 hf
      refine lv_aload_n hx hb dX2_isJustSo_10 rfl (lv_at hl 0 rfl) ?_
      refine lv_iload_n hx hb dX2_isJustSo_11 rfl (lv_at hl 2 rfl) ?_
      refine lv_aload_n hx hb dX2_isJustSo_12 rfl (lv_at hl 1 rfl) ?_
      refine lv_iload_n hx hb dX2_isJustSo_13 rfl (lv_at hl 3 rfl) ?_
      obtain ⟨q14, hq14, hf⟩ := mx_bd hf
      refine mx_callVN C hM hl.1 yo_X10_at (h' := 0) (by decide) (nw_912 hT C) qw_507 qs_5 (ci := 10) (q := (RX10, TX10, 2)) rfl (xt_1 hT) (As := [.int i3]) (rest := [.int i2, .ref (E.2.1.2.1 9)]) (st1 := [.int q14, .int i2, .ref (E.2.1.2.1 9)]) (kX10_at C.2.2.2.1 i3 hT M hq14) rfl rfl rfl (Nat.le_of_ble_eq_true rfl) dX2_isJustSo_14 (fun H locs hM => ?_)
      obtain ⟨q17, hq17, hf⟩ := mx_bd hf
      refine mx_callVN C hM hl.1 yo_X3_feel (h' := 0) (by decide) (nw_917 hT C) qw_667 qs_35 (ci := 3) (q := (RX3, TX3, 18)) rfl (xt_9 hT) (As := [.int i2, .int q14]) (rest := []) (st1 := [.int q17]) (kX3_feel C.2.2.2.1 i2 q14 hT M hq17) rfl rfl rfl (Nat.le_of_ble_eq_true rfl) dX2_isJustSo_17 (fun H locs hM => ?_)
      refine lv_aload_n hx hb dX2_isJustSo_20 rfl (lv_at hl 1 rfl) ?_
      refine lv_iload_n hx hb dX2_isJustSo_21 rfl (lv_at hl 3 rfl) ?_
      refine lv_iconst (v := (1 : Int32)) hx hb dX2_isJustSo_22 (by decide) ?_
      refine lv_iadd hx hb dX2_isJustSo_23 ?_
      obtain ⟨q24, hq24, hf⟩ := mx_bd hf
      refine mx_callVN C hM hl.1 yo_X10_at (h' := 0) (by decide) (nw_912 hT C) qw_507 qs_5 (ci := 10) (q := (RX10, TX10, 2)) rfl (xt_1 hT) (As := [.int (i3 + (1 : Int32))]) (rest := [.int q17]) (st1 := [.int q24, .int q17]) (kX10_at C.2.2.2.1 (i3 + (1 : Int32)) hT M hq24) rfl rfl rfl (Nat.le_of_ble_eq_true rfl) dX2_isJustSo_24 (fun H locs hM => ?_)
      refine lv_icmp_eq (tgt := 32) hx hb dX2_isJustSo_27 (by decide) (fun hc27 => ?_) (fun hc27 => ?_)
      · replace hf := mx_ift hc27 hf
        refine lv_iinc (v := (i3 + (2 : Int32))) (lv' := [(3, .int (i3 + (2 : Int32))), (0, .ref (E.2.1.2.1 9)), (1, .ref (E.2.1.2.1 1)), (2, .int i2)]) hx hb dX2_isJustSo_32 hl (k := 3) rfl rfl (by decide) rfl (fun ls hl => ?_)
        refine lv_goto (tgt := 2) hx hb dX2_isJustSo_35 (by decide) ?_
        exact ih (i3 + (2 : Int32)) _ _ _ hf hM (lv_sub hl [1, 2, 3, 0] rfl)
      · replace hf := mx_iff hc27 hf
        refine lv_iconst (v := (0 : Int32)) hx hb dX2_isJustSo_30 (by decide) ?_
        exact mx_zretR C hM (b := false) rfl hf dX2_isJustSo_31
set_option maxRecDepth 100000 in
set_option maxHeartbeats 4000000 in
theorem kX2_isJustSo {E : KE} {l : Launch} (hE : mx_ok E) (i2 : Int32) (hT : xOK E) (M : MM) {q : Bool} (hf : fX2_isJustSo i2 M = some q) : mx_Met E l yX2_isJustSo cX2_isJustSo 4 (some .boolean) 1 [.ref (E.2.1.2.1 9), .ref (E.2.1.2.1 1), .int i2] M (some (.int (mx_b q))) M := by
  refine mx_enter hE (by decide) (Nat.le_of_ble_eq_true rfl) ?_
  intro p e s m below meth c C hM hn ls hl
  have hx := C.1.1
  have hb := C.1.2.1
  have hown := C.1.2.2.2.1
  have hts := C.1.2.2.2.2
  have hl : lv_has ls 4 [(0, .ref (E.2.1.2.1 9)), (1, .ref (E.2.1.2.1 1)), (2, .int i2)] := hl
  rw [fX2_isJustSo] at hf
  refine lv_iconst (v := (0 : Int32)) hx hb dX2_isJustSo_0 (by decide) ?_
  refine lv_istore_n (lv' := [(3, .int (0 : Int32)), (0, .ref (E.2.1.2.1 9)), (1, .ref (E.2.1.2.1 1)), (2, .int i2)]) hx hb dX2_isJustSo_1 rfl hl (by decide) rfl (fun ls hl => ?_)
  exact wfX2_isJustSo_2 C i2 M hT mx_fu (0 : Int32) _ _ _ hf hM (lv_sub hl [1, 2, 3, 0] rfl)
theorem dX2_mostLeftBy_0 : decode cX2_mostLeftBy 0 = .ok (.iconst 0, 1) := by decide +kernel
theorem dX2_mostLeftBy_1 : decode cX2_mostLeftBy 1 = .ok (.istore_n 3, 1) := by decide +kernel
theorem dX2_mostLeftBy_2 : decode cX2_mostLeftBy 2 = .ok (.iconst 0, 1) := by decide +kernel
theorem dX2_mostLeftBy_3 : decode cX2_mostLeftBy 3 = .ok (.istore 4, 2) := by decide +kernel
theorem dX2_mostLeftBy_5 : decode cX2_mostLeftBy 5 = .ok (.iconst 0, 1) := by decide +kernel
theorem dX2_mostLeftBy_6 : decode cX2_mostLeftBy 6 = .ok (.istore 5, 2) := by decide +kernel
theorem dX2_mostLeftBy_8 : decode cX2_mostLeftBy 8 = .ok (.iconst 1, 1) := by decide +kernel
theorem dX2_mostLeftBy_9 : decode cX2_mostLeftBy 9 = .ok (.istore 6, 2) := by decide +kernel
theorem dX2_mostLeftBy_11 : decode cX2_mostLeftBy 11 = .ok (.iload 6, 2) := by decide +kernel
theorem dX2_mostLeftBy_13 : decode cX2_mostLeftBy 13 = .ok (.bipush 20, 2) := by decide +kernel
theorem dX2_mostLeftBy_15 : decode cX2_mostLeftBy 15 = .ok (.if_icmp .gt 73, 3) := by decide +kernel
theorem dX2_mostLeftBy_18 : decode cX2_mostLeftBy 18 = .ok (.iload_n 1, 1) := by decide +kernel
theorem dX2_mostLeftBy_19 : decode cX2_mostLeftBy 19 = .ok (.iload 6, 2) := by decide +kernel
theorem dX2_mostLeftBy_21 : decode cX2_mostLeftBy 21 = .ok (.ishr, 1) := by decide +kernel
theorem dX2_mostLeftBy_22 : decode cX2_mostLeftBy 22 = .ok (.iconst 1, 1) := by decide +kernel
theorem dX2_mostLeftBy_23 : decode cX2_mostLeftBy 23 = .ok (.iand, 1) := by decide +kernel
theorem dX2_mostLeftBy_24 : decode cX2_mostLeftBy 24 = .ok (.iconst 1, 1) := by decide +kernel
theorem dX2_mostLeftBy_25 : decode cX2_mostLeftBy 25 = .ok (.if_icmp .ne 57, 3) := by decide +kernel
theorem dX2_mostLeftBy_28 : decode cX2_mostLeftBy 28 = .ok (.aload_n 0, 1) := by decide +kernel
theorem dX2_mostLeftBy_29 : decode cX2_mostLeftBy 29 = .ok (.iload 6, 2) := by decide +kernel
theorem dX2_mostLeftBy_31 : decode cX2_mostLeftBy 31 = .ok (.iload_n 2, 1) := by decide +kernel
theorem dX2_mostLeftBy_32 : decode cX2_mostLeftBy 32 = .ok (.invokevirtual 57, 3) := by decide +kernel
theorem dX2_mostLeftBy_35 : decode cX2_mostLeftBy 35 = .ok (.istore 7, 2) := by decide +kernel
theorem dX2_mostLeftBy_37 : decode cX2_mostLeftBy 37 = .ok (.iload_n 3, 1) := by decide +kernel
theorem dX2_mostLeftBy_38 : decode cX2_mostLeftBy 38 = .ok (.iload 7, 2) := by decide +kernel
theorem dX2_mostLeftBy_40 : decode cX2_mostLeftBy 40 = .ok (.ifCond .ne 7, 3) := by decide +kernel
theorem dX2_mostLeftBy_43 : decode cX2_mostLeftBy 43 = .ok (.iconst 1, 1) := by decide +kernel
theorem dX2_mostLeftBy_44 : decode cX2_mostLeftBy 44 = .ok (.goto 4, 3) := by decide +kernel
theorem dX2_mostLeftBy_47 : decode cX2_mostLeftBy 47 = .ok (.iconst 0, 1) := by decide +kernel
theorem dX2_mostLeftBy_48 : decode cX2_mostLeftBy 48 = .ok (.iadd, 1) := by decide +kernel
theorem dX2_mostLeftBy_49 : decode cX2_mostLeftBy 49 = .ok (.istore_n 3, 1) := by decide +kernel
theorem dX2_mostLeftBy_50 : decode cX2_mostLeftBy 50 = .ok (.iload 4, 2) := by decide +kernel
theorem dX2_mostLeftBy_52 : decode cX2_mostLeftBy 52 = .ok (.iload 7, 2) := by decide +kernel
theorem dX2_mostLeftBy_54 : decode cX2_mostLeftBy 54 = .ok (.iconst 1, 1) := by decide +kernel
theorem dX2_mostLeftBy_55 : decode cX2_mostLeftBy 55 = .ok (.if_icmp .ne 7, 3) := by decide +kernel
theorem dX2_mostLeftBy_58 : decode cX2_mostLeftBy 58 = .ok (.iconst 1, 1) := by decide +kernel
theorem dX2_mostLeftBy_59 : decode cX2_mostLeftBy 59 = .ok (.goto 4, 3) := by decide +kernel
theorem dX2_mostLeftBy_62 : decode cX2_mostLeftBy 62 = .ok (.iconst 0, 1) := by decide +kernel
theorem dX2_mostLeftBy_63 : decode cX2_mostLeftBy 63 = .ok (.iadd, 1) := by decide +kernel
theorem dX2_mostLeftBy_64 : decode cX2_mostLeftBy 64 = .ok (.istore 4, 2) := by decide +kernel
theorem dX2_mostLeftBy_66 : decode cX2_mostLeftBy 66 = .ok (.iload 5, 2) := by decide +kernel
theorem dX2_mostLeftBy_68 : decode cX2_mostLeftBy 68 = .ok (.iload 7, 2) := by decide +kernel
theorem dX2_mostLeftBy_70 : decode cX2_mostLeftBy 70 = .ok (.iconst 2, 1) := by decide +kernel
theorem dX2_mostLeftBy_71 : decode cX2_mostLeftBy 71 = .ok (.if_icmp .ne 7, 3) := by decide +kernel
theorem dX2_mostLeftBy_74 : decode cX2_mostLeftBy 74 = .ok (.iconst 1, 1) := by decide +kernel
theorem dX2_mostLeftBy_75 : decode cX2_mostLeftBy 75 = .ok (.goto 4, 3) := by decide +kernel
theorem dX2_mostLeftBy_78 : decode cX2_mostLeftBy 78 = .ok (.iconst 0, 1) := by decide +kernel
theorem dX2_mostLeftBy_79 : decode cX2_mostLeftBy 79 = .ok (.iadd, 1) := by decide +kernel
theorem dX2_mostLeftBy_80 : decode cX2_mostLeftBy 80 = .ok (.istore 5, 2) := by decide +kernel
theorem dX2_mostLeftBy_82 : decode cX2_mostLeftBy 82 = .ok (.iinc 6 1, 3) := by decide +kernel
theorem dX2_mostLeftBy_85 : decode cX2_mostLeftBy 85 = .ok (.goto (-74), 3) := by decide +kernel
theorem dX2_mostLeftBy_88 : decode cX2_mostLeftBy 88 = .ok (.iload_n 3, 1) := by decide +kernel
theorem dX2_mostLeftBy_89 : decode cX2_mostLeftBy 89 = .ok (.iload 4, 2) := by decide +kernel
theorem dX2_mostLeftBy_91 : decode cX2_mostLeftBy 91 = .ok (.iload 5, 2) := by decide +kernel
theorem dX2_mostLeftBy_93 : decode cX2_mostLeftBy 93 = .ok (.invokestatic 68, 3) := by decide +kernel
theorem dX2_mostLeftBy_96 : decode cX2_mostLeftBy 96 = .ok (.invokestatic 68, 3) := by decide +kernel
theorem dX2_mostLeftBy_99 : decode cX2_mostLeftBy 99 = .ok (.ireturn, 1) := by decide +kernel
set_option maxRecDepth 100000 in
set_option maxHeartbeats 4000000 in
theorem wfX2_mostLeftBy_63 {E : KE} {p : Program} {l : Launch} {e : Env} {s : State} {m : MethodId} {args : Array Value} {below : List Frame} {meth : Method} {c : Code} {q : Int32} (C : mx_C E p m c cX2_mostLeftBy 8 s args RX2 meth (some .int)) (i1 : Int32) (i2 : Int32) (M : MM) (hT : xOK E)  (k11 : Int32 → Int32 → Int32 → Int32 → Option Int32) (hk11 : ∀ (i3 : Int32) (i4 : Int32) (i5 : Int32) (i6 : Int32) (H : Heap) (locs : List Loc) (ls : Array Slot), k11 i3 i4 i5 i6 = some q → mx_H E s M H locs → lv_has ls 8 [(0, .ref (E.2.1.2.1 9)), (1, .int i1), (2, .int i2), (3, .int i3), (4, .int i4), (5, .int i5), (6, .int i6)] → W p l e (mx_rm 1) s m args below meth c H locs 0 0 (mx_Z E below args s (some (.int q)) M) (F0 m 11 ls [])) : ∀ (i3 : Int32) (i5 : Int32) (i6 : Int32) (i7 : Int32) (is0 : Int32) (bs1 : Bool) (H : Heap) (locs : List Loc) (ls : Array Slot), fX2_mostLeftBy_63 i1 i2 M k11 i3 i5 i6 i7 is0 bs1 = some q → mx_H E s M H locs → lv_has ls 8 [(0, .ref (E.2.1.2.1 9)), (1, .int i1), (2, .int i2), (3, .int i3), (5, .int i5), (6, .int i6), (7, .int i7)] → W p l e (mx_rm 1) s m args below meth c H locs 0 0 (mx_Z E below args s (some (.int q)) M) (F0 m 63 ls [.int (mx_b bs1), .int is0]) := by
  have hx := C.1.1
  have hb := C.1.2.1
  have hown := C.1.2.2.2.1
  have hts := C.1.2.2.2.2
  intro i3 i5 i6 i7 is0 bs1 H locs ls hf hM hl
  rw [fX2_mostLeftBy_63] at hf
  refine lv_iadd hx hb dX2_mostLeftBy_63 ?_
  refine lv_istore (lv' := [(4, .int (is0 + (mx_b bs1))), (0, .ref (E.2.1.2.1 9)), (1, .int i1), (2, .int i2), (3, .int i3), (5, .int i5), (6, .int i6), (7, .int i7)]) hx hb dX2_mostLeftBy_64 hl (by decide) rfl (fun ls hl => ?_)
  refine lv_iload hx hb dX2_mostLeftBy_66 (lv_at hl 5 rfl) ?_
  refine lv_iload hx hb dX2_mostLeftBy_68 (lv_at hl 7 rfl) ?_
  refine lv_iconst (v := (2 : Int32)) hx hb dX2_mostLeftBy_70 (by decide) ?_
  refine lv_icmp_ne (tgt := 78) hx hb dX2_mostLeftBy_71 (by decide) (fun hc71 => ?_) (fun hc71 => ?_)
  · replace hf := mx_iff hc71 hf
    refine lv_iconst (v := (0 : Int32)) hx hb dX2_mostLeftBy_78 (by decide) ?_
    refine lv_iadd hx hb dX2_mostLeftBy_79 ?_
    refine lv_istore (lv' := [(5, .int (i5 + (0 : Int32))), (4, .int (is0 + (mx_b bs1))), (0, .ref (E.2.1.2.1 9)), (1, .int i1), (2, .int i2), (3, .int i3), (6, .int i6), (7, .int i7)]) hx hb dX2_mostLeftBy_80 hl (by decide) rfl (fun ls hl => ?_)
    refine lv_iinc (v := (i6 + (1 : Int32))) (lv' := [(6, .int (i6 + (1 : Int32))), (5, .int (i5 + (0 : Int32))), (4, .int (is0 + (mx_b bs1))), (0, .ref (E.2.1.2.1 9)), (1, .int i1), (2, .int i2), (3, .int i3), (7, .int i7)]) hx hb dX2_mostLeftBy_82 hl (k := 6) rfl rfl (by decide) rfl (fun ls hl => ?_)
    refine lv_goto (tgt := 11) hx hb dX2_mostLeftBy_85 (by decide) ?_
    exact hk11 i3 (is0 + (mx_b bs1)) (i5 + (0 : Int32)) (i6 + (1 : Int32)) _ _ _ hf hM (lv_sub hl [3, 4, 5, 6, 2, 1, 0] rfl)
  · replace hf := mx_ift hc71 hf
    refine lv_iconst (v := (1 : Int32)) hx hb dX2_mostLeftBy_74 (by decide) ?_
    refine lv_goto (tgt := 79) hx hb dX2_mostLeftBy_75 (by decide) ?_
    refine lv_iadd hx hb dX2_mostLeftBy_79 ?_
    refine lv_istore (lv' := [(5, .int (i5 + (1 : Int32))), (4, .int (is0 + (mx_b bs1))), (0, .ref (E.2.1.2.1 9)), (1, .int i1), (2, .int i2), (3, .int i3), (6, .int i6), (7, .int i7)]) hx hb dX2_mostLeftBy_80 hl (by decide) rfl (fun ls hl => ?_)
    refine lv_iinc (v := (i6 + (1 : Int32))) (lv' := [(6, .int (i6 + (1 : Int32))), (5, .int (i5 + (1 : Int32))), (4, .int (is0 + (mx_b bs1))), (0, .ref (E.2.1.2.1 9)), (1, .int i1), (2, .int i2), (3, .int i3), (7, .int i7)]) hx hb dX2_mostLeftBy_82 hl (k := 6) rfl rfl (by decide) rfl (fun ls hl => ?_)
    refine lv_goto (tgt := 11) hx hb dX2_mostLeftBy_85 (by decide) ?_
    exact hk11 i3 (is0 + (mx_b bs1)) (i5 + (1 : Int32)) (i6 + (1 : Int32)) _ _ _ hf hM (lv_sub hl [3, 4, 5, 6, 2, 1, 0] rfl)
set_option maxRecDepth 100000 in
set_option maxHeartbeats 4000000 in
theorem wfX2_mostLeftBy_48 {E : KE} {p : Program} {l : Launch} {e : Env} {s : State} {m : MethodId} {args : Array Value} {below : List Frame} {meth : Method} {c : Code} {q : Int32} (C : mx_C E p m c cX2_mostLeftBy 8 s args RX2 meth (some .int)) (i1 : Int32) (i2 : Int32) (M : MM) (hT : xOK E)  (k11 : Int32 → Int32 → Int32 → Int32 → Option Int32) (hk11 : ∀ (i3 : Int32) (i4 : Int32) (i5 : Int32) (i6 : Int32) (H : Heap) (locs : List Loc) (ls : Array Slot), k11 i3 i4 i5 i6 = some q → mx_H E s M H locs → lv_has ls 8 [(0, .ref (E.2.1.2.1 9)), (1, .int i1), (2, .int i2), (3, .int i3), (4, .int i4), (5, .int i5), (6, .int i6)] → W p l e (mx_rm 1) s m args below meth c H locs 0 0 (mx_Z E below args s (some (.int q)) M) (F0 m 11 ls [])) : ∀ (i4 : Int32) (i5 : Int32) (i6 : Int32) (i7 : Int32) (is0 : Int32) (bs1 : Bool) (H : Heap) (locs : List Loc) (ls : Array Slot), fX2_mostLeftBy_48 i1 i2 M k11 i4 i5 i6 i7 is0 bs1 = some q → mx_H E s M H locs → lv_has ls 8 [(0, .ref (E.2.1.2.1 9)), (1, .int i1), (2, .int i2), (4, .int i4), (5, .int i5), (6, .int i6), (7, .int i7)] → W p l e (mx_rm 1) s m args below meth c H locs 0 0 (mx_Z E below args s (some (.int q)) M) (F0 m 48 ls [.int (mx_b bs1), .int is0]) := by
  have hx := C.1.1
  have hb := C.1.2.1
  have hown := C.1.2.2.2.1
  have hts := C.1.2.2.2.2
  intro i4 i5 i6 i7 is0 bs1 H locs ls hf hM hl
  rw [fX2_mostLeftBy_48] at hf
  refine lv_iadd hx hb dX2_mostLeftBy_48 ?_
  refine lv_istore_n (lv' := [(3, .int (is0 + (mx_b bs1))), (0, .ref (E.2.1.2.1 9)), (1, .int i1), (2, .int i2), (4, .int i4), (5, .int i5), (6, .int i6), (7, .int i7)]) hx hb dX2_mostLeftBy_49 rfl hl (by decide) rfl (fun ls hl => ?_)
  refine lv_iload hx hb dX2_mostLeftBy_50 (lv_at hl 4 rfl) ?_
  refine lv_iload hx hb dX2_mostLeftBy_52 (lv_at hl 7 rfl) ?_
  refine lv_iconst (v := (1 : Int32)) hx hb dX2_mostLeftBy_54 (by decide) ?_
  refine lv_icmp_ne (tgt := 62) hx hb dX2_mostLeftBy_55 (by decide) (fun hc55 => ?_) (fun hc55 => ?_)
  · replace hf := mx_iff hc55 hf
    refine lv_iconst (v := (0 : Int32)) hx hb dX2_mostLeftBy_62 (by decide) ?_
    exact wfX2_mostLeftBy_63 C i1 i2 M hT k11 hk11 (is0 + (mx_b bs1)) i5 i6 i7 i4 false _ _ _ hf hM (lv_sub hl [1, 2, 3, 0, 5, 6, 7] rfl)
  · replace hf := mx_ift hc55 hf
    refine lv_iconst (v := (1 : Int32)) hx hb dX2_mostLeftBy_58 (by decide) ?_
    refine lv_goto (tgt := 63) hx hb dX2_mostLeftBy_59 (by decide) ?_
    exact wfX2_mostLeftBy_63 C i1 i2 M hT k11 hk11 (is0 + (mx_b bs1)) i5 i6 i7 i4 true _ _ _ hf hM (lv_sub hl [1, 2, 3, 0, 5, 6, 7] rfl)
set_option maxRecDepth 100000 in
set_option maxHeartbeats 4000000 in
theorem wfX2_mostLeftBy_11 {E : KE} {p : Program} {l : Launch} {e : Env} {s : State} {m : MethodId} {args : Array Value} {below : List Frame} {meth : Method} {c : Code} {q : Int32} (C : mx_C E p m c cX2_mostLeftBy 8 s args RX2 meth (some .int)) (i1 : Int32) (i2 : Int32) (M : MM) (hT : xOK E)   : ∀ (n : Nat) (i3 : Int32) (i4 : Int32) (i5 : Int32) (i6 : Int32) (H : Heap) (locs : List Loc) (ls : Array Slot), fX2_mostLeftBy_11 i1 i2 M n i3 i4 i5 i6 = some q → mx_H E s M H locs → lv_has ls 8 [(0, .ref (E.2.1.2.1 9)), (1, .int i1), (2, .int i2), (3, .int i3), (4, .int i4), (5, .int i5), (6, .int i6)] → W p l e (mx_rm 1) s m args below meth c H locs 0 0 (mx_Z E below args s (some (.int q)) M) (F0 m 11 ls []) := by
  have hx := C.1.1
  have hb := C.1.2.1
  have hown := C.1.2.2.2.1
  have hts := C.1.2.2.2.2
  intro n
  induction n with
  | zero =>
    intro i3 i4 i5 i6 H locs ls hf hM hl
    rw [fX2_mostLeftBy_11] at hf
    cases hf
  | succ n ih =>
    intro i3 i4 i5 i6 H locs ls hf hM hl
    rw [fX2_mostLeftBy_11] at hf
    refine lv_iload hx hb dX2_mostLeftBy_11 (lv_at hl 6 rfl) ?_
    refine lv_bipush (v := (20 : Int32)) hx hb dX2_mostLeftBy_13 (by decide) ?_
    refine lv_icmp_gt (tgt := 88) hx hb dX2_mostLeftBy_15 (by decide) (fun hc15 => ?_) (fun hc15 => ?_)
    · replace hf := mx_ift hc15 hf
      refine lv_iload_n hx hb dX2_mostLeftBy_88 rfl (lv_at hl 3 rfl) ?_
      refine lv_iload hx hb dX2_mostLeftBy_89 (lv_at hl 4 rfl) ?_
      refine lv_iload hx hb dX2_mostLeftBy_91 (lv_at hl 5 rfl) ?_
      refine va_mmax hx hb (C.1.2.2.1.trans hl.1.symm) hown (hts _ qw_924) (hts _ qw_925) (hts _ qw_21) (hts _ qw_926) (by decide) (Nat.le_of_ble_eq_true rfl) (Nat.le_refl 0) (Nat.le_refl 0) dX2_mostLeftBy_93 ?_
      refine va_mmax hx hb (C.1.2.2.1.trans hl.1.symm) hown (hts _ qw_924) (hts _ qw_925) (hts _ qw_21) (hts _ qw_926) (by decide) (Nat.le_of_ble_eq_true rfl) (Nat.le_refl 0) (Nat.le_refl 0) dX2_mostLeftBy_96 ?_
      exact mx_iretR C hM hf dX2_mostLeftBy_99
    · replace hf := mx_iff hc15 hf
      refine lv_iload_n hx hb dX2_mostLeftBy_18 rfl (lv_at hl 1 rfl) ?_
      refine lv_iload hx hb dX2_mostLeftBy_19 (lv_at hl 6 rfl) ?_
      refine lv_ishr hx hb dX2_mostLeftBy_21 ?_
      refine lv_iconst (v := (1 : Int32)) hx hb dX2_mostLeftBy_22 (by decide) ?_
      refine lv_iand hx hb dX2_mostLeftBy_23 ?_
      refine lv_iconst (v := (1 : Int32)) hx hb dX2_mostLeftBy_24 (by decide) ?_
      refine lv_icmp_ne (tgt := 82) hx hb dX2_mostLeftBy_25 (by decide) (fun hc25 => ?_) (fun hc25 => ?_)
      · replace hf := mx_iff hc25 hf
        refine lv_iinc (v := (i6 + (1 : Int32))) (lv' := [(6, .int (i6 + (1 : Int32))), (0, .ref (E.2.1.2.1 9)), (1, .int i1), (2, .int i2), (3, .int i3), (4, .int i4), (5, .int i5)]) hx hb dX2_mostLeftBy_82 hl (k := 6) rfl rfl (by decide) rfl (fun ls hl => ?_)
        refine lv_goto (tgt := 11) hx hb dX2_mostLeftBy_85 (by decide) ?_
        exact ih i3 i4 i5 (i6 + (1 : Int32)) _ _ _ hf hM (lv_sub hl [1, 2, 3, 4, 5, 6, 0] rfl)
      · replace hf := mx_ift hc25 hf
        refine lv_aload_n hx hb dX2_mostLeftBy_28 rfl (lv_at hl 0 rfl) ?_
        refine lv_iload hx hb dX2_mostLeftBy_29 (lv_at hl 6 rfl) ?_
        refine lv_iload_n hx hb dX2_mostLeftBy_31 rfl (lv_at hl 2 rfl) ?_
        obtain ⟨q32, hq32, hf⟩ := mx_bd hf
        refine mx_callVN C hM hl.1 yo_X3_feel (h' := 0) (by decide) (nw_917 hT C) qw_667 qs_35 (ci := 3) (q := (RX3, TX3, 18)) rfl (xt_9 hT) (As := [.int i6, .int i2]) (rest := []) (st1 := [.int q32]) (kX3_feel C.2.2.2.1 i6 i2 hT M hq32) rfl rfl rfl (Nat.le_of_ble_eq_true rfl) dX2_mostLeftBy_32 (fun H locs hM => ?_)
        refine lv_istore (lv' := [(7, .int q32), (0, .ref (E.2.1.2.1 9)), (1, .int i1), (2, .int i2), (3, .int i3), (4, .int i4), (5, .int i5), (6, .int i6)]) hx hb dX2_mostLeftBy_35 hl (by decide) rfl (fun ls hl => ?_)
        refine lv_iload_n hx hb dX2_mostLeftBy_37 rfl (lv_at hl 4 rfl) ?_
        refine lv_iload hx hb dX2_mostLeftBy_38 (lv_at hl 0 rfl) ?_
        refine lv_if_ne (tgt := 47) hx hb dX2_mostLeftBy_40 (by decide) (fun hc40 => ?_) (fun hc40 => ?_)
        · replace hf := mx_iff hc40 hf
          refine lv_iconst (v := (0 : Int32)) hx hb dX2_mostLeftBy_47 (by decide) ?_
          exact wfX2_mostLeftBy_48 C i1 i2 M hT (fX2_mostLeftBy_11 i1 i2 M n) ih i4 i5 i6 q32 i3 false _ _ _ hf hM (lv_sub hl [1, 2, 3, 5, 6, 7, 0] rfl)
        · replace hf := mx_ift hc40 hf
          refine lv_iconst (v := (1 : Int32)) hx hb dX2_mostLeftBy_43 (by decide) ?_
          refine lv_goto (tgt := 48) hx hb dX2_mostLeftBy_44 (by decide) ?_
          exact wfX2_mostLeftBy_48 C i1 i2 M hT (fX2_mostLeftBy_11 i1 i2 M n) ih i4 i5 i6 q32 i3 true _ _ _ hf hM (lv_sub hl [1, 2, 3, 5, 6, 7, 0] rfl)
set_option maxRecDepth 100000 in
set_option maxHeartbeats 4000000 in
theorem kX2_mostLeftBy {E : KE} {l : Launch} (hE : mx_ok E) (i1 : Int32) (i2 : Int32) (hT : xOK E) (M : MM) {q : Int32} (hf : fX2_mostLeftBy i1 i2 M = some q) : mx_Met E l yX2_mostLeftBy cX2_mostLeftBy 8 (some .int) 1 [.ref (E.2.1.2.1 9), .int i1, .int i2] M (some (.int q)) M := by
  refine mx_enter hE (by decide) (Nat.le_of_ble_eq_true rfl) ?_
  intro p e s m below meth c C hM hn ls hl
  have hx := C.1.1
  have hb := C.1.2.1
  have hown := C.1.2.2.2.1
  have hts := C.1.2.2.2.2
  have hl : lv_has ls 8 [(0, .ref (E.2.1.2.1 9)), (1, .int i1), (2, .int i2)] := hl
  rw [fX2_mostLeftBy] at hf
  refine lv_iconst (v := (0 : Int32)) hx hb dX2_mostLeftBy_0 (by decide) ?_
  refine lv_istore_n (lv' := [(3, .int (0 : Int32)), (0, .ref (E.2.1.2.1 9)), (1, .int i1), (2, .int i2)]) hx hb dX2_mostLeftBy_1 rfl hl (by decide) rfl (fun ls hl => ?_)
  refine lv_iconst (v := (0 : Int32)) hx hb dX2_mostLeftBy_2 (by decide) ?_
  refine lv_istore (lv' := [(4, .int (0 : Int32)), (3, .int (0 : Int32)), (0, .ref (E.2.1.2.1 9)), (1, .int i1), (2, .int i2)]) hx hb dX2_mostLeftBy_3 hl (by decide) rfl (fun ls hl => ?_)
  refine lv_iconst (v := (0 : Int32)) hx hb dX2_mostLeftBy_5 (by decide) ?_
  refine lv_istore (lv' := [(5, .int (0 : Int32)), (4, .int (0 : Int32)), (3, .int (0 : Int32)), (0, .ref (E.2.1.2.1 9)), (1, .int i1), (2, .int i2)]) hx hb dX2_mostLeftBy_6 hl (by decide) rfl (fun ls hl => ?_)
  refine lv_iconst (v := (1 : Int32)) hx hb dX2_mostLeftBy_8 (by decide) ?_
  refine lv_istore (lv' := [(6, .int (1 : Int32)), (5, .int (0 : Int32)), (4, .int (0 : Int32)), (3, .int (0 : Int32)), (0, .ref (E.2.1.2.1 9)), (1, .int i1), (2, .int i2)]) hx hb dX2_mostLeftBy_9 hl (by decide) rfl (fun ls hl => ?_)
  exact wfX2_mostLeftBy_11 C i1 i2 M hT mx_fu (0 : Int32) (0 : Int32) (0 : Int32) (1 : Int32) _ _ _ hf hM (lv_sub hl [4, 5, 6, 3, 2, 1, 0] rfl)
theorem dX2_bestToTry_0 : decode cX2_bestToTry 0 = .ok (.iconst (-1), 1) := by decide +kernel
theorem dX2_bestToTry_1 : decode cX2_bestToTry 1 = .ok (.istore_n 2, 1) := by decide +kernel
theorem dX2_bestToTry_2 : decode cX2_bestToTry 2 = .ok (.bipush 21, 2) := by decide +kernel
theorem dX2_bestToTry_4 : decode cX2_bestToTry 4 = .ok (.istore_n 3, 1) := by decide +kernel
theorem dX2_bestToTry_5 : decode cX2_bestToTry 5 = .ok (.iconst 0, 1) := by decide +kernel
theorem dX2_bestToTry_6 : decode cX2_bestToTry 6 = .ok (.istore 4, 2) := by decide +kernel
theorem dX2_bestToTry_8 : decode cX2_bestToTry 8 = .ok (.iload 4, 2) := by decide +kernel
theorem dX2_bestToTry_10 : decode cX2_bestToTry 10 = .ok (.aload_n 0, 1) := by decide +kernel
theorem dX2_bestToTry_11 : decode cX2_bestToTry 11 = .ok (.getfield 61, 3) := by decide +kernel
theorem dX2_bestToTry_14 : decode cX2_bestToTry 14 = .ok (.if_icmp .ge 30, 3) := by decide +kernel
theorem dX2_bestToTry_17 : decode cX2_bestToTry 17 = .ok (.aload_n 0, 1) := by decide +kernel
theorem dX2_bestToTry_18 : decode cX2_bestToTry 18 = .ok (.iload_n 1, 1) := by decide +kernel
theorem dX2_bestToTry_19 : decode cX2_bestToTry 19 = .ok (.iload 4, 2) := by decide +kernel
theorem dX2_bestToTry_21 : decode cX2_bestToTry 21 = .ok (.invokestatic 64, 3) := by decide +kernel
theorem dX2_bestToTry_24 : decode cX2_bestToTry 24 = .ok (.istore 5, 2) := by decide +kernel
theorem dX2_bestToTry_26 : decode cX2_bestToTry 26 = .ok (.iload 5, 2) := by decide +kernel
theorem dX2_bestToTry_28 : decode cX2_bestToTry 28 = .ok (.iload_n 3, 1) := by decide +kernel
theorem dX2_bestToTry_29 : decode cX2_bestToTry 29 = .ok (.if_icmp .ge 9, 3) := by decide +kernel
theorem dX2_bestToTry_32 : decode cX2_bestToTry 32 = .ok (.iload 5, 2) := by decide +kernel
theorem dX2_bestToTry_34 : decode cX2_bestToTry 34 = .ok (.istore_n 3, 1) := by decide +kernel
theorem dX2_bestToTry_35 : decode cX2_bestToTry 35 = .ok (.iload 4, 2) := by decide +kernel
theorem dX2_bestToTry_37 : decode cX2_bestToTry 37 = .ok (.istore_n 2, 1) := by decide +kernel
theorem dX2_bestToTry_38 : decode cX2_bestToTry 38 = .ok (.iinc 4 1, 3) := by decide +kernel
theorem dX2_bestToTry_41 : decode cX2_bestToTry 41 = .ok (.goto (-33), 3) := by decide +kernel
theorem dX2_bestToTry_44 : decode cX2_bestToTry 44 = .ok (.iload_n 2, 1) := by decide +kernel
theorem dX2_bestToTry_45 : decode cX2_bestToTry 45 = .ok (.ireturn, 1) := by decide +kernel
set_option maxRecDepth 100000 in
set_option maxHeartbeats 4000000 in
theorem wfX2_bestToTry_8 {E : KE} {p : Program} {l : Launch} {e : Env} {s : State} {m : MethodId} {args : Array Value} {below : List Frame} {meth : Method} {c : Code} {q : Int32} (C : mx_C E p m c cX2_bestToTry 6 s args RX2 meth (some .int)) (i1 : Int32) (M : MM) (hT : xOK E)   : ∀ (n : Nat) (i2 : Int32) (i3 : Int32) (i4 : Int32) (H : Heap) (locs : List Loc) (ls : Array Slot), fX2_bestToTry_8 i1 M n i2 i3 i4 = some q → mx_H E s M H locs → lv_has ls 6 [(0, .ref (E.2.1.2.1 9)), (1, .int i1), (2, .int i2), (3, .int i3), (4, .int i4)] → W p l e (mx_rm 2) s m args below meth c H locs 0 0 (mx_Z E below args s (some (.int q)) M) (F0 m 8 ls []) := by
  have hx := C.1.1
  have hb := C.1.2.1
  have hown := C.1.2.2.2.1
  have hts := C.1.2.2.2.2
  intro n
  induction n with
  | zero =>
    intro i2 i3 i4 H locs ls hf hM hl
    rw [fX2_bestToTry_8] at hf
    cases hf
  | succ n ih =>
    intro i2 i3 i4 H locs ls hf hM hl
    rw [fX2_bestToTry_8] at hf
    refine lv_iload hx hb dX2_bestToTry_8 (lv_at hl 4 rfl) ?_
    refine lv_aload_n hx hb dX2_bestToTry_10 rfl (lv_at hl 0 rfl) ?_
    refine gX2_61 C hT hM (xt_9 hT) (f := (0, 0)) rfl (v := .int (M.1 9 0)) rfl dX2_bestToTry_11 ?_
    refine lv_icmp_ge (tgt := 44) hx hb dX2_bestToTry_14 (by decide) (fun hc14 => ?_) (fun hc14 => ?_)
    · replace hf := mx_ift hc14 hf
      refine lv_iload_n hx hb dX2_bestToTry_44 rfl (lv_at hl 2 rfl) ?_
      exact mx_iretR C hM hf dX2_bestToTry_45
    · replace hf := mx_iff hc14 hf
      refine lv_aload_n hx hb dX2_bestToTry_17 rfl (lv_at hl 0 rfl) ?_
      refine lv_iload_n hx hb dX2_bestToTry_18 rfl (lv_at hl 1 rfl) ?_
      refine lv_iload hx hb dX2_bestToTry_19 (lv_at hl 4 rfl) ?_
      obtain ⟨q21, hq21, hf⟩ := mx_bd hf
      refine mx_callS C hM hl.1 yo_X2_mostLeftBy (h' := 1) (by decide) qw_921 qw_922 (As := [.ref (E.2.1.2.1 9), .int i1, .int i4]) (rest := []) (st1 := [.int q21]) (kX2_mostLeftBy C.2.2.2.1 i1 i4 hT M hq21) rfl rfl rfl (Nat.le_of_ble_eq_true rfl) dX2_bestToTry_21 (fun H locs hM => ?_)
      refine lv_istore (lv' := [(5, .int q21), (0, .ref (E.2.1.2.1 9)), (1, .int i1), (2, .int i2), (3, .int i3), (4, .int i4)]) hx hb dX2_bestToTry_24 hl (by decide) rfl (fun ls hl => ?_)
      refine lv_iload hx hb dX2_bestToTry_26 (lv_at hl 0 rfl) ?_
      refine lv_iload_n hx hb dX2_bestToTry_28 rfl (lv_at hl 4 rfl) ?_
      refine lv_icmp_ge (tgt := 38) hx hb dX2_bestToTry_29 (by decide) (fun hc29 => ?_) (fun hc29 => ?_)
      · replace hf := mx_ift hc29 hf
        refine lv_iinc (v := (i4 + (1 : Int32))) (lv' := [(4, .int (i4 + (1 : Int32))), (5, .int q21), (0, .ref (E.2.1.2.1 9)), (1, .int i1), (2, .int i2), (3, .int i3)]) hx hb dX2_bestToTry_38 hl (k := 5) rfl rfl (by decide) rfl (fun ls hl => ?_)
        refine lv_goto (tgt := 8) hx hb dX2_bestToTry_41 (by decide) ?_
        exact ih i2 i3 (i4 + (1 : Int32)) _ _ _ hf hM (lv_sub hl [2, 3, 4, 5, 0] rfl)
      · replace hf := mx_iff hc29 hf
        refine lv_iload hx hb dX2_bestToTry_32 (lv_at hl 0 rfl) ?_
        refine lv_istore_n (lv' := [(3, .int q21), (5, .int q21), (0, .ref (E.2.1.2.1 9)), (1, .int i1), (2, .int i2), (4, .int i4)]) hx hb dX2_bestToTry_34 rfl hl (by decide) rfl (fun ls hl => ?_)
        refine lv_iload hx hb dX2_bestToTry_35 (lv_at hl 5 rfl) ?_
        refine lv_istore_n (lv' := [(2, .int i4), (3, .int q21), (5, .int q21), (0, .ref (E.2.1.2.1 9)), (1, .int i1), (4, .int i4)]) hx hb dX2_bestToTry_37 rfl hl (by decide) rfl (fun ls hl => ?_)
        refine lv_iinc (v := (i4 + (1 : Int32))) (lv' := [(4, .int (i4 + (1 : Int32))), (2, .int i4), (3, .int q21), (5, .int q21), (0, .ref (E.2.1.2.1 9)), (1, .int i1)]) hx hb dX2_bestToTry_38 hl (k := 5) rfl rfl (by decide) rfl (fun ls hl => ?_)
        refine lv_goto (tgt := 8) hx hb dX2_bestToTry_41 (by decide) ?_
        exact ih i4 q21 (i4 + (1 : Int32)) _ _ _ hf hM (lv_sub hl [4, 5, 1, 2, 0] rfl)
set_option maxRecDepth 100000 in
set_option maxHeartbeats 4000000 in
theorem kX2_bestToTry {E : KE} {l : Launch} (hE : mx_ok E) (i1 : Int32) (hT : xOK E) (M : MM) {q : Int32} (hf : fX2_bestToTry i1 M = some q) : mx_Met E l yX2_bestToTry cX2_bestToTry 6 (some .int) 2 [.ref (E.2.1.2.1 9), .int i1] M (some (.int q)) M := by
  refine mx_enter hE (by decide) (Nat.le_of_ble_eq_true rfl) ?_
  intro p e s m below meth c C hM hn ls hl
  have hx := C.1.1
  have hb := C.1.2.1
  have hown := C.1.2.2.2.1
  have hts := C.1.2.2.2.2
  have hl : lv_has ls 6 [(0, .ref (E.2.1.2.1 9)), (1, .int i1)] := hl
  rw [fX2_bestToTry] at hf
  refine lv_iconst (v := (-1 : Int32)) hx hb dX2_bestToTry_0 (by decide) ?_
  refine lv_istore_n (lv' := [(2, .int (-1 : Int32)), (0, .ref (E.2.1.2.1 9)), (1, .int i1)]) hx hb dX2_bestToTry_1 rfl hl (by decide) rfl (fun ls hl => ?_)
  refine lv_bipush (v := (21 : Int32)) hx hb dX2_bestToTry_2 (by decide) ?_
  refine lv_istore_n (lv' := [(3, .int (21 : Int32)), (2, .int (-1 : Int32)), (0, .ref (E.2.1.2.1 9)), (1, .int i1)]) hx hb dX2_bestToTry_4 rfl hl (by decide) rfl (fun ls hl => ?_)
  refine lv_iconst (v := (0 : Int32)) hx hb dX2_bestToTry_5 (by decide) ?_
  refine lv_istore (lv' := [(4, .int (0 : Int32)), (3, .int (21 : Int32)), (2, .int (-1 : Int32)), (0, .ref (E.2.1.2.1 9)), (1, .int i1)]) hx hb dX2_bestToTry_6 hl (by decide) rfl (fun ls hl => ?_)
  exact wfX2_bestToTry_8 C i1 M hT mx_fu (-1 : Int32) (21 : Int32) (0 : Int32) _ _ _ hf hM (lv_sub hl [3, 4, 2, 1, 0] rfl)
theorem dX2_readTries_0 : decode cX2_readTries 0 = .ok (.aload_n 1, 1) := by decide +kernel
theorem dX2_readTries_1 : decode cX2_readTries 1 = .ok (.aload_n 2, 1) := by decide +kernel
theorem dX2_readTries_2 : decode cX2_readTries 2 = .ok (.invokestatic 25, 3) := by decide +kernel
theorem dX2_readTries_5 : decode cX2_readTries 5 = .ok (.ifCond .ne 5, 3) := by decide +kernel
theorem dX2_readTries_8 : decode cX2_readTries 8 = .ok (.iconst (-1), 1) := by decide +kernel
theorem dX2_readTries_9 : decode cX2_readTries 9 = .ok (.ireturn, 1) := by decide +kernel
theorem dX2_readTries_10 : decode cX2_readTries 10 = .ok (.iconst 0, 1) := by decide +kernel
theorem dX2_readTries_11 : decode cX2_readTries 11 = .ok (.istore_n 3, 1) := by decide +kernel
theorem dX2_readTries_12 : decode cX2_readTries 12 = .ok (.bipush 20, 2) := by decide +kernel
theorem dX2_readTries_14 : decode cX2_readTries 14 = .ok (.istore 4, 2) := by decide +kernel
theorem dX2_readTries_16 : decode cX2_readTries 16 = .ok (.iload 4, 2) := by decide +kernel
theorem dX2_readTries_18 : decode cX2_readTries 18 = .ok (.iconst 1, 1) := by decide +kernel
theorem dX2_readTries_19 : decode cX2_readTries 19 = .ok (.if_icmp .lt 32, 3) := by decide +kernel
theorem dX2_readTries_22 : decode cX2_readTries 22 = .ok (.aload_n 1, 1) := by decide +kernel
theorem dX2_readTries_23 : decode cX2_readTries 23 = .ok (.aload_n 2, 1) := by decide +kernel
theorem dX2_readTries_24 : decode cX2_readTries 24 = .ok (.iload 4, 2) := by decide +kernel
theorem dX2_readTries_26 : decode cX2_readTries 26 = .ok (.invokestatic 29, 3) := by decide +kernel
theorem dX2_readTries_29 : decode cX2_readTries 29 = .ok (.ifCond .eq 16, 3) := by decide +kernel
theorem dX2_readTries_32 : decode cX2_readTries 32 = .ok (.iload_n 3, 1) := by decide +kernel
theorem dX2_readTries_33 : decode cX2_readTries 33 = .ok (.iconst 1, 1) := by decide +kernel
theorem dX2_readTries_34 : decode cX2_readTries 34 = .ok (.iload 4, 2) := by decide +kernel
theorem dX2_readTries_36 : decode cX2_readTries 36 = .ok (.ishl, 1) := by decide +kernel
theorem dX2_readTries_37 : decode cX2_readTries 37 = .ok (.ior, 1) := by decide +kernel
theorem dX2_readTries_38 : decode cX2_readTries 38 = .ok (.istore_n 3, 1) := by decide +kernel
theorem dX2_readTries_39 : decode cX2_readTries 39 = .ok (.aload_n 0, 1) := by decide +kernel
theorem dX2_readTries_40 : decode cX2_readTries 40 = .ok (.iload 4, 2) := by decide +kernel
theorem dX2_readTries_42 : decode cX2_readTries 42 = .ok (.putfield 9, 3) := by decide +kernel
theorem dX2_readTries_45 : decode cX2_readTries 45 = .ok (.iinc 4 (-1), 3) := by decide +kernel
theorem dX2_readTries_48 : decode cX2_readTries 48 = .ok (.goto (-32), 3) := by decide +kernel
theorem dX2_readTries_51 : decode cX2_readTries 51 = .ok (.iload_n 3, 1) := by decide +kernel
theorem dX2_readTries_52 : decode cX2_readTries 52 = .ok (.ifCond .eq 12, 3) := by decide +kernel
theorem dX2_readTries_55 : decode cX2_readTries 55 = .ok (.aload_n 0, 1) := by decide +kernel
theorem dX2_readTries_56 : decode cX2_readTries 56 = .ok (.aload_n 1, 1) := by decide +kernel
theorem dX2_readTries_57 : decode cX2_readTries 57 = .ok (.iload_n 3, 1) := by decide +kernel
theorem dX2_readTries_58 : decode cX2_readTries 58 = .ok (.invokestatic 33, 3) := by decide +kernel
theorem dX2_readTries_61 : decode cX2_readTries 61 = .ok (.putfield 15, 3) := by decide +kernel
theorem dX2_readTries_64 : decode cX2_readTries 64 = .ok (.iload_n 3, 1) := by decide +kernel
theorem dX2_readTries_65 : decode cX2_readTries 65 = .ok (.invokestatic 37, 3) := by decide +kernel
theorem dX2_readTries_68 : decode cX2_readTries 68 = .ok (.ireturn, 1) := by decide +kernel
set_option maxRecDepth 100000 in
set_option maxHeartbeats 4000000 in
theorem wfX2_readTries_64 {E : KE} {p : Program} {l : Launch} {e : Env} {s : State} {m : MethodId} {args : Array Value} {below : List Frame} {meth : Method} {c : Code} {q : (Int32 × MM)} (C : mx_C E p m c cX2_readTries 5 s args RX2 meth (some .int))  (hT : xOK E)   : ∀ (i3 : Int32) (M : MM) (H : Heap) (locs : List Loc) (ls : Array Slot), fX2_readTries_64 i3 M = some q → mx_H E s M H locs → lv_has ls 5 [(3, .int i3)] → W p l e (mx_rm 3) s m args below meth c H locs 0 0 (mx_Z E below args s (some (.int q.1)) q.2) (F0 m 64 ls []) := by
  have hx := C.1.1
  have hb := C.1.2.1
  have hown := C.1.2.2.2.1
  have hts := C.1.2.2.2.2
  intro i3 M H locs ls hf hM hl
  rw [fX2_readTries_64] at hf
  refine lv_iload_n hx hb dX2_readTries_64 rfl (lv_at hl 0 rfl) ?_
  obtain ⟨q65, hq65, hf⟩ := mx_bd hf
  refine mx_callS C hM hl.1 yo_J6_bitCount_0f7a4 (h' := 0) (by decide) qw_927 qw_788 (As := [.int i3]) (rest := []) (st1 := [.int q65]) (kJ6_bitCount_0f7a4 C.2.2.2.1 i3 M hq65) rfl rfl rfl (Nat.le_of_ble_eq_true rfl) dX2_readTries_65 (fun H locs hM => ?_)
  exact mx_iret C hM hf dX2_readTries_68
set_option maxRecDepth 100000 in
set_option maxHeartbeats 4000000 in
theorem wfX2_readTries_16 {E : KE} {p : Program} {l : Launch} {e : Env} {s : State} {m : MethodId} {args : Array Value} {below : List Frame} {meth : Method} {c : Code} {q : (Int32 × MM)} (C : mx_C E p m c cX2_readTries 5 s args RX2 meth (some .int))  (hT : xOK E)   : ∀ (n : Nat) (i3 : Int32) (i4 : Int32) (M : MM) (H : Heap) (locs : List Loc) (ls : Array Slot), fX2_readTries_16 n i3 i4 M = some q → mx_H E s M H locs → lv_has ls 5 [(0, .ref (E.2.1.2.1 149)), (1, .ref (E.2.1.2.1 9)), (2, .ref (E.2.1.2.1 1)), (3, .int i3), (4, .int i4)] → W p l e (mx_rm 3) s m args below meth c H locs 0 0 (mx_Z E below args s (some (.int q.1)) q.2) (F0 m 16 ls []) := by
  have hx := C.1.1
  have hb := C.1.2.1
  have hown := C.1.2.2.2.1
  have hts := C.1.2.2.2.2
  intro n
  induction n with
  | zero =>
    intro i3 i4 M H locs ls hf hM hl
    rw [fX2_readTries_16] at hf
    cases hf
  | succ n ih =>
    intro i3 i4 M H locs ls hf hM hl
    rw [fX2_readTries_16] at hf
    refine lv_iload hx hb dX2_readTries_16 (lv_at hl 4 rfl) ?_
    refine lv_iconst (v := (1 : Int32)) hx hb dX2_readTries_18 (by decide) ?_
    refine lv_icmp_lt (tgt := 51) hx hb dX2_readTries_19 (by decide) (fun hc19 => ?_) (fun hc19 => ?_)
    · replace hf := mx_ift hc19 hf
      refine lv_iload_n hx hb dX2_readTries_51 rfl (lv_at hl 3 rfl) ?_
      refine lv_if_eq (tgt := 64) hx hb dX2_readTries_52 (by decide) (fun hc52 => ?_) (fun hc52 => ?_)
      · replace hf := mx_ift hc52 hf
        exact wfX2_readTries_64 C hT i3 M _ _ _ hf hM (lv_sub hl [3] rfl)
      · replace hf := mx_iff hc52 hf
        refine lv_aload_n hx hb dX2_readTries_55 rfl (lv_at hl 0 rfl) ?_
        refine lv_aload_n hx hb dX2_readTries_56 rfl (lv_at hl 1 rfl) ?_
        refine lv_iload_n hx hb dX2_readTries_57 rfl (lv_at hl 3 rfl) ?_
        obtain ⟨q58, hq58, hf⟩ := mx_bd hf
        refine mx_callS C hM hl.1 yo_X2_bestToTry (h' := 2) (by decide) qw_918 qw_919 (As := [.ref (E.2.1.2.1 9), .int i3]) (rest := [.ref (E.2.1.2.1 149)]) (st1 := [.int q58, .ref (E.2.1.2.1 149)]) (kX2_bestToTry C.2.2.2.1 i3 hT M hq58) rfl rfl rfl (Nat.le_of_ble_eq_true rfl) dX2_readTries_58 (fun H locs hM => ?_)
        refine pX2_15 C hM (xt_149 hT) rfl rfl rfl dX2_readTries_61 (fun H locs hM => ?_)
        exact wfX2_readTries_64 C hT i3 (mx_si M 149 1 q58) _ _ _ hf hM (lv_sub hl [3] rfl)
    · replace hf := mx_iff hc19 hf
      refine lv_aload_n hx hb dX2_readTries_22 rfl (lv_at hl 1 rfl) ?_
      refine lv_aload_n hx hb dX2_readTries_23 rfl (lv_at hl 2 rfl) ?_
      refine lv_iload hx hb dX2_readTries_24 (lv_at hl 4 rfl) ?_
      obtain ⟨q26, hq26, hf⟩ := mx_bd hf
      refine mx_callS C hM hl.1 yo_X2_isJustSo (h' := 1) (by decide) qw_914 qw_915 (As := [.ref (E.2.1.2.1 9), .ref (E.2.1.2.1 1), .int i4]) (rest := []) (st1 := [.int (mx_b q26)]) (kX2_isJustSo C.2.2.2.1 i4 hT M hq26) rfl rfl rfl (Nat.le_of_ble_eq_true rfl) dX2_readTries_26 (fun H locs hM => ?_)
      refine lv_if_eq (tgt := 45) hx hb dX2_readTries_29 (by decide) (fun hc29 => ?_) (fun hc29 => ?_)
      · replace hf := mx_ift hc29 hf
        refine lv_iinc (v := (i4 + (-1 : Int32))) (lv' := [(4, .int (i4 + (-1 : Int32))), (0, .ref (E.2.1.2.1 149)), (1, .ref (E.2.1.2.1 9)), (2, .ref (E.2.1.2.1 1)), (3, .int i3)]) hx hb dX2_readTries_45 hl (k := 4) rfl rfl (by decide) rfl (fun ls hl => ?_)
        refine lv_goto (tgt := 16) hx hb dX2_readTries_48 (by decide) ?_
        exact ih i3 (i4 + (-1 : Int32)) M _ _ _ hf hM (lv_sub hl [1, 2, 3, 4, 0] rfl)
      · replace hf := mx_iff hc29 hf
        refine lv_iload_n hx hb dX2_readTries_32 rfl (lv_at hl 3 rfl) ?_
        refine lv_iconst (v := (1 : Int32)) hx hb dX2_readTries_33 (by decide) ?_
        refine lv_iload hx hb dX2_readTries_34 (lv_at hl 4 rfl) ?_
        refine lv_ishl hx hb dX2_readTries_36 ?_
        refine lv_ior hx hb dX2_readTries_37 ?_
        refine lv_istore_n (lv' := [(3, .int (i3 ||| ((1 : Int32) <<< (i4 &&& 31)))), (0, .ref (E.2.1.2.1 149)), (1, .ref (E.2.1.2.1 9)), (2, .ref (E.2.1.2.1 1)), (4, .int i4)]) hx hb dX2_readTries_38 rfl hl (by decide) rfl (fun ls hl => ?_)
        refine lv_aload_n hx hb dX2_readTries_39 rfl (lv_at hl 1 rfl) ?_
        refine lv_iload hx hb dX2_readTries_40 (lv_at hl 4 rfl) ?_
        refine pX2_9 C hM (xt_149 hT) rfl rfl rfl dX2_readTries_42 (fun H locs hM => ?_)
        refine lv_iinc (v := (i4 + (-1 : Int32))) (lv' := [(4, .int (i4 + (-1 : Int32))), (3, .int (i3 ||| ((1 : Int32) <<< (i4 &&& 31)))), (0, .ref (E.2.1.2.1 149)), (1, .ref (E.2.1.2.1 9)), (2, .ref (E.2.1.2.1 1))]) hx hb dX2_readTries_45 hl (k := 4) rfl rfl (by decide) rfl (fun ls hl => ?_)
        refine lv_goto (tgt := 16) hx hb dX2_readTries_48 (by decide) ?_
        exact ih (i3 ||| ((1 : Int32) <<< (i4 &&& 31))) (i4 + (-1 : Int32)) (mx_si M 149 0 i4) _ _ _ hf hM (lv_sub hl [2, 3, 4, 1, 0] rfl)
set_option maxRecDepth 100000 in
set_option maxHeartbeats 4000000 in
theorem kX2_readTries {E : KE} {l : Launch} (hE : mx_ok E)  (hT : xOK E) (M : MM) {q : (Int32 × MM)} (hf : fX2_readTries M = some q) : mx_Met E l yX2_readTries cX2_readTries 5 (some .int) 3 [.ref (E.2.1.2.1 149), .ref (E.2.1.2.1 9), .ref (E.2.1.2.1 1)] M (some (.int q.1)) q.2 := by
  refine mx_enter hE (by decide) (Nat.le_of_ble_eq_true rfl) ?_
  intro p e s m below meth c C hM hn ls hl
  have hx := C.1.1
  have hb := C.1.2.1
  have hown := C.1.2.2.2.1
  have hts := C.1.2.2.2.2
  have hl : lv_has ls 5 [(0, .ref (E.2.1.2.1 149)), (1, .ref (E.2.1.2.1 9)), (2, .ref (E.2.1.2.1 1))] := hl
  rw [fX2_readTries] at hf
  refine lv_aload_n hx hb dX2_readTries_0 rfl (lv_at hl 1 rfl) ?_
  refine lv_aload_n hx hb dX2_readTries_1 rfl (lv_at hl 2 rfl) ?_
  obtain ⟨q2, hq2, hf⟩ := mx_bd hf
  refine mx_callS C hM hl.1 yo_X2_areTries (h' := 1) (by decide) qw_909 qw_910 (As := [.ref (E.2.1.2.1 9), .ref (E.2.1.2.1 1)]) (rest := []) (st1 := [.int (mx_b q2)]) (kX2_areTries C.2.2.2.1 hT M hq2) rfl rfl rfl (Nat.le_of_ble_eq_true rfl) dX2_readTries_2 (fun H locs hM => ?_)
  refine lv_if_ne (tgt := 10) hx hb dX2_readTries_5 (by decide) (fun hc5 => ?_) (fun hc5 => ?_)
  · replace hf := mx_iff hc5 hf
    refine lv_iconst (v := (0 : Int32)) hx hb dX2_readTries_10 (by decide) ?_
    refine lv_istore_n (lv' := [(3, .int (0 : Int32)), (0, .ref (E.2.1.2.1 149)), (1, .ref (E.2.1.2.1 9)), (2, .ref (E.2.1.2.1 1))]) hx hb dX2_readTries_11 rfl hl (by decide) rfl (fun ls hl => ?_)
    refine lv_bipush (v := (20 : Int32)) hx hb dX2_readTries_12 (by decide) ?_
    refine lv_istore (lv' := [(4, .int (20 : Int32)), (3, .int (0 : Int32)), (0, .ref (E.2.1.2.1 149)), (1, .ref (E.2.1.2.1 9)), (2, .ref (E.2.1.2.1 1))]) hx hb dX2_readTries_14 hl (by decide) rfl (fun ls hl => ?_)
    exact wfX2_readTries_16 C hT mx_fu (0 : Int32) (20 : Int32) M _ _ _ hf hM (lv_sub hl [2, 3, 4, 1, 0] rfl)
  · replace hf := mx_ift hc5 hf
    refine lv_iconst (v := (-1 : Int32)) hx hb dX2_readTries_8 (by decide) ?_
    exact mx_iret C hM hf dX2_readTries_9
theorem dX2_mayHave_0 : decode cX2_mayHave 0 = .ok (.iload_n 1, 1) := by decide +kernel
theorem dX2_mayHave_1 : decode cX2_mayHave 1 = .ok (.iload_n 2, 1) := by decide +kernel
theorem dX2_mayHave_2 : decode cX2_mayHave 2 = .ok (.ishr, 1) := by decide +kernel
theorem dX2_mayHave_3 : decode cX2_mayHave 3 = .ok (.iconst 1, 1) := by decide +kernel
theorem dX2_mayHave_4 : decode cX2_mayHave 4 = .ok (.iand, 1) := by decide +kernel
theorem dX2_mayHave_5 : decode cX2_mayHave 5 = .ok (.ifCond .ne 22, 3) := by decide +kernel
theorem dX2_mayHave_8 : decode cX2_mayHave 8 = .ok (.aload_n 0, 1) := by decide +kernel
theorem dX2_mayHave_9 : decode cX2_mayHave 9 = .ok (.aload_n 0, 1) := by decide +kernel
theorem dX2_mayHave_10 : decode cX2_mayHave 10 = .ok (.getfield 87, 3) := by decide +kernel
theorem dX2_mayHave_13 : decode cX2_mayHave 13 = .ok (.iload_n 3, 1) := by decide +kernel
theorem dX2_mayHave_14 : decode cX2_mayHave 14 = .ok (.iaload, 1) := by decide +kernel
theorem dX2_mayHave_15 : decode cX2_mayHave 15 = .ok (.iload_n 2, 1) := by decide +kernel
theorem dX2_mayHave_16 : decode cX2_mayHave 16 = .ok (.invokevirtual 57, 3) := by decide +kernel
theorem dX2_mayHave_19 : decode cX2_mayHave 19 = .ok (.iconst 1, 1) := by decide +kernel
theorem dX2_mayHave_20 : decode cX2_mayHave 20 = .ok (.if_icmp .ne 7, 3) := by decide +kernel
theorem dX2_mayHave_23 : decode cX2_mayHave 23 = .ok (.iconst 1, 1) := by decide +kernel
theorem dX2_mayHave_24 : decode cX2_mayHave 24 = .ok (.goto 4, 3) := by decide +kernel
theorem dX2_mayHave_27 : decode cX2_mayHave 27 = .ok (.iconst 0, 1) := by decide +kernel
theorem dX2_mayHave_28 : decode cX2_mayHave 28 = .ok (.ireturn, 1) := by decide +kernel
set_option maxRecDepth 100000 in
set_option maxHeartbeats 4000000 in
theorem kX2_mayHave {E : KE} {l : Launch} (hE : mx_ok E) (i1 : Int32) (i2 : Int32) (i3 : Int32) (hT : xOK E) (M : MM) {q : Bool} (hf : fX2_mayHave i1 i2 i3 M = some q) : mx_Met E l yX2_mayHave cX2_mayHave 4 (some .boolean) 1 [.ref (E.2.1.2.1 9), .int i1, .int i2, .int i3] M (some (.int (mx_b q))) M := by
  refine mx_enter hE (by decide) (Nat.le_of_ble_eq_true rfl) ?_
  intro p e s m below meth c C hM hn ls hl
  have hx := C.1.1
  have hb := C.1.2.1
  have hown := C.1.2.2.2.1
  have hts := C.1.2.2.2.2
  have hl : lv_has ls 4 [(0, .ref (E.2.1.2.1 9)), (1, .int i1), (2, .int i2), (3, .int i3)] := hl
  rw [fX2_mayHave] at hf
  refine lv_iload_n hx hb dX2_mayHave_0 rfl (lv_at hl 1 rfl) ?_
  refine lv_iload_n hx hb dX2_mayHave_1 rfl (lv_at hl 2 rfl) ?_
  refine lv_ishr hx hb dX2_mayHave_2 ?_
  refine lv_iconst (v := (1 : Int32)) hx hb dX2_mayHave_3 (by decide) ?_
  refine lv_iand hx hb dX2_mayHave_4 ?_
  refine lv_if_ne (tgt := 27) hx hb dX2_mayHave_5 (by decide) (fun hc5 => ?_) (fun hc5 => ?_)
  · replace hf := mx_iff hc5 hf
    refine lv_iconst (v := (0 : Int32)) hx hb dX2_mayHave_27 (by decide) ?_
    exact mx_zretR C hM (b := false) rfl hf dX2_mayHave_28
  · replace hf := mx_ift hc5 hf
    refine lv_aload_n hx hb dX2_mayHave_8 rfl (lv_at hl 0 rfl) ?_
    refine lv_aload_n hx hb dX2_mayHave_9 rfl (lv_at hl 0 rfl) ?_
    refine gX2_87 C hT hM (xt_9 hT) (f := (2, 15)) rfl (v := .ref (E.2.1.2.1 15)) rfl dX2_mayHave_10 ?_
    refine lv_iload_n hx hb dX2_mayHave_13 rfl (lv_at hl 3 rfl) ?_
    obtain ⟨hg14, hf⟩ := mx_gd hf
    refine mx_iald C hM (xt_15 hT) (mx_in_vp hg14) dX2_mayHave_14 ?_
    refine lv_iload_n hx hb dX2_mayHave_15 rfl (lv_at hl 2 rfl) ?_
    obtain ⟨q16, hq16, hf⟩ := mx_bd hf
    refine mx_callVN C hM hl.1 yo_X3_feel (h' := 0) (by decide) (nw_917 hT C) qw_667 qs_35 (ci := 3) (q := (RX3, TX3, 18)) rfl (xt_9 hT) (As := [.int (M.1 15 i3.toNatClampNeg), .int i2]) (rest := []) (st1 := [.int q16]) (kX3_feel C.2.2.2.1 (M.1 15 i3.toNatClampNeg) i2 hT M hq16) rfl rfl rfl (Nat.le_of_ble_eq_true rfl) dX2_mayHave_16 (fun H locs hM => ?_)
    refine lv_iconst (v := (1 : Int32)) hx hb dX2_mayHave_19 (by decide) ?_
    refine lv_icmp_ne (tgt := 27) hx hb dX2_mayHave_20 (by decide) (fun hc20 => ?_) (fun hc20 => ?_)
    · replace hf := mx_iff hc20 hf
      refine lv_iconst (v := (0 : Int32)) hx hb dX2_mayHave_27 (by decide) ?_
      exact mx_zretR C hM (b := false) rfl hf dX2_mayHave_28
    · replace hf := mx_ift hc20 hf
      refine lv_iconst (v := (1 : Int32)) hx hb dX2_mayHave_23 (by decide) ?_
      refine lv_goto (tgt := 28) hx hb dX2_mayHave_24 (by decide) ?_
      exact mx_zretR C hM (b := true) rfl hf dX2_mayHave_28
