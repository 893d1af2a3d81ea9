theorem dX13_fits_0 : decode cX13_fits 0 = .ok (.aload_n 0, 1) := by decide +kernel
theorem dX13_fits_1 : decode cX13_fits 1 = .ok (.iconst 0, 1) := by decide +kernel
theorem dX13_fits_2 : decode cX13_fits 2 = .ok (.putfield 1, 3) := by decide +kernel
theorem dX13_fits_5 : decode cX13_fits 5 = .ok (.aload_n 0, 1) := by decide +kernel
theorem dX13_fits_6 : decode cX13_fits 6 = .ok (.iload_n 1, 1) := by decide +kernel
theorem dX13_fits_7 : decode cX13_fits 7 = .ok (.invokevirtual 289, 3) := by decide +kernel
theorem dX13_fits_10 : decode cX13_fits 10 = .ok (.ifCond .eq 28, 3) := by decide +kernel
theorem dX13_fits_13 : decode cX13_fits 13 = .ok (.aload_n 0, 1) := by decide +kernel
theorem dX13_fits_14 : decode cX13_fits 14 = .ok (.iload_n 2, 1) := by decide +kernel
theorem dX13_fits_15 : decode cX13_fits 15 = .ok (.invokevirtual 273, 3) := by decide +kernel
theorem dX13_fits_18 : decode cX13_fits 18 = .ok (.ifCond .eq 20, 3) := by decide +kernel
theorem dX13_fits_21 : decode cX13_fits 21 = .ok (.aload_n 0, 1) := by decide +kernel
theorem dX13_fits_22 : decode cX13_fits 22 = .ok (.aload_n 0, 1) := by decide +kernel
theorem dX13_fits_23 : decode cX13_fits 23 = .ok (.getfield 33, 3) := by decide +kernel
theorem dX13_fits_26 : decode cX13_fits 26 = .ok (.bipush 26, 2) := by decide +kernel
theorem dX13_fits_28 : decode cX13_fits 28 = .ok (.iload_n 1, 1) := by decide +kernel
theorem dX13_fits_29 : decode cX13_fits 29 = .ok (.iadd, 1) := by decide +kernel
theorem dX13_fits_30 : decode cX13_fits 30 = .ok (.iaload, 1) := by decide +kernel
theorem dX13_fits_31 : decode cX13_fits 31 = .ok (.iload_n 2, 1) := by decide +kernel
theorem dX13_fits_32 : decode cX13_fits 32 = .ok (.invokevirtual 270, 3) := by decide +kernel
theorem dX13_fits_35 : decode cX13_fits 35 = .ok (.goto 4, 3) := by decide +kernel
theorem dX13_fits_38 : decode cX13_fits 38 = .ok (.iconst (-1), 1) := by decide +kernel
theorem dX13_fits_39 : decode cX13_fits 39 = .ok (.ireturn, 1) := by decide +kernel
set_option maxRecDepth 100000 in
set_option maxHeartbeats 4000000 in
theorem kX13_fits {E : KE} {l : Launch} (hE : mx_ok E) (i1 : Int32) (i2 : Int32) (hT : E.1 = mt) (M : MM) {q : (Int32 × MM)} (hf : fX13_fits i1 i2 M = some q) : mx_Met E l yX13_fits cX13_fits 3 (some .int) 2 [.ref (E.2.1.2.1 0), .int i1, .int i2] M (some (.int q.1)) q.2 := by
  refine mx_enter hE (by decide) (Nat.le_of_ble_eq_true rfl) ?_
  intro p e s m below meth c C hM hn ls hl
  have hx := C.1.1
  have hb := C.1.2.1
  have hown := C.1.2.2.2.1
  have hts := C.1.2.2.2.2
  have hl : lv_has ls 3 [(0, .ref (E.2.1.2.1 0)), (1, .int i1), (2, .int i2)] := hl
  rw [fX13_fits] at hf
  refine lv_aload_n hx hb dX13_fits_0 rfl (lv_at hl 0 rfl) ?_
  refine lv_iconst (v := (0 : Int32)) hx hb dX13_fits_1 (by decide) ?_
  refine p13_1 C hT hM dX13_fits_2 (fun H locs hM => ?_)
  refine lv_aload_n hx hb dX13_fits_5 rfl (lv_at hl 0 rfl) ?_
  refine lv_iload_n hx hb dX13_fits_6 rfl (lv_at hl 1 rfl) ?_
  obtain ⟨q7, hq7, hf⟩ := mx_bd hf
  refine mx_callV C hM hl.1 yo_X13_isRing (h' := 1) (by decide) qw_1674 qw_1676 qs_136 (ci := 13) (q := (RX13, TX13, 52)) rfl (mt_0 hT) (As := [.int i1]) (rest := []) (st1 := [.int (mx_b q7)]) (kX13_isRing C.2.2.2.1 i1 hT (mx_si M 0 0 (0 : Int32)) hq7) rfl rfl rfl (Nat.le_of_ble_eq_true rfl) dX13_fits_7 (fun H locs hM => ?_)
  refine lv_if_eq (tgt := 38) hx hb dX13_fits_10 (by decide) (fun hc10 => ?_) (fun hc10 => ?_)
  · replace hf := mx_ift hc10 hf
    refine lv_iconst (v := (-1 : Int32)) hx hb dX13_fits_38 (by decide) ?_
    exact mx_iret C hM hf dX13_fits_39
  · replace hf := mx_iff hc10 hf
    refine lv_aload_n hx hb dX13_fits_13 rfl (lv_at hl 0 rfl) ?_
    refine lv_iload_n hx hb dX13_fits_14 rfl (lv_at hl 2 rfl) ?_
    obtain ⟨q15, hq15, hf⟩ := mx_bd hf
    refine mx_callV C hM hl.1 yo_X13_isPerson (h' := 1) (by decide) qw_1646 qw_1648 qs_130 (ci := 13) (q := (RX13, TX13, 52)) rfl (mt_0 hT) (As := [.int i2]) (rest := []) (st1 := [.int (mx_b q15)]) (kX13_isPerson C.2.2.2.1 i2 hT (mx_si M 0 0 (0 : Int32)) hq15) rfl rfl rfl (Nat.le_of_ble_eq_true rfl) dX13_fits_15 (fun H locs hM => ?_)
    refine lv_if_eq (tgt := 38) hx hb dX13_fits_18 (by decide) (fun hc18 => ?_) (fun hc18 => ?_)
    · replace hf := mx_ift hc18 hf
      refine lv_iconst (v := (-1 : Int32)) hx hb dX13_fits_38 (by decide) ?_
      exact mx_iret C hM hf dX13_fits_39
    · replace hf := mx_iff hc18 hf
      refine lv_aload_n hx hb dX13_fits_21 rfl (lv_at hl 0 rfl) ?_
      refine lv_aload_n hx hb dX13_fits_22 rfl (lv_at hl 0 rfl) ?_
      refine g13_33 C hT hM dX13_fits_23 ?_
      refine lv_bipush (v := (26 : Int32)) hx hb dX13_fits_26 (by decide) ?_
      refine lv_iload_n hx hb dX13_fits_28 rfl (lv_at hl 1 rfl) ?_
      refine lv_iadd hx hb dX13_fits_29 ?_
      obtain ⟨hg30, hf⟩ := mx_gd hf
      refine mx_iald C hM (mt_2 hT) (mx_in_vp hg30) dX13_fits_30 ?_
      refine lv_iload_n hx hb dX13_fits_31 rfl (lv_at hl 2 rfl) ?_
      obtain ⟨q32, hq32, hf⟩ := mx_bd hf
      refine mx_callV C hM hl.1 yo_X13_feels (h' := 0) (by decide) qw_1682 qw_1684 qs_137 (ci := 13) (q := (RX13, TX13, 52)) rfl (mt_0 hT) (As := [.int ((mx_si M 0 0 (0 : Int32)).1 2 ((26 : Int32) + i1).toNatClampNeg), .int i2]) (rest := []) (st1 := [.int q32]) (kX13_feels C.2.2.2.1 ((mx_si M 0 0 (0 : Int32)).1 2 ((26 : Int32) + i1).toNatClampNeg) i2 hT (mx_si M 0 0 (0 : Int32)) hq32) rfl rfl rfl (Nat.le_of_ble_eq_true rfl) dX13_fits_32 (fun H locs hM => ?_)
      refine lv_goto (tgt := 39) hx hb dX13_fits_35 (by decide) ?_
      exact mx_iret C hM hf dX13_fits_39
theorem dX13_now_0 : decode cX13_now 0 = .ok (.aload_n 0, 1) := by decide +kernel
theorem dX13_now_1 : decode cX13_now 1 = .ok (.iconst 0, 1) := by decide +kernel
theorem dX13_now_2 : decode cX13_now 2 = .ok (.putfield 1, 3) := by decide +kernel
theorem dX13_now_5 : decode cX13_now 5 = .ok (.iload_n 1, 1) := by decide +kernel
theorem dX13_now_6 : decode cX13_now 6 = .ok (.tableswitch 98 0 6 #[42, 50, 58, 66, 74, 82, 90], 42) := by decide +kernel
theorem dX13_now_48 : decode cX13_now 48 = .ok (.aload_n 0, 1) := by decide +kernel
theorem dX13_now_49 : decode cX13_now 49 = .ok (.getfield 33, 3) := by decide +kernel
theorem dX13_now_52 : decode cX13_now 52 = .ok (.bipush 54, 2) := by decide +kernel
theorem dX13_now_54 : decode cX13_now 54 = .ok (.iaload, 1) := by decide +kernel
theorem dX13_now_55 : decode cX13_now 55 = .ok (.ireturn, 1) := by decide +kernel
theorem dX13_now_56 : decode cX13_now 56 = .ok (.aload_n 0, 1) := by decide +kernel
theorem dX13_now_57 : decode cX13_now 57 = .ok (.bipush 85, 2) := by decide +kernel
theorem dX13_now_59 : decode cX13_now 59 = .ok (.iconst 1, 1) := by decide +kernel
theorem dX13_now_60 : decode cX13_now 60 = .ok (.invokevirtual 292, 3) := by decide +kernel
theorem dX13_now_63 : decode cX13_now 63 = .ok (.ireturn, 1) := by decide +kernel
theorem dX13_now_64 : decode cX13_now 64 = .ok (.aload_n 0, 1) := by decide +kernel
theorem dX13_now_65 : decode cX13_now 65 = .ok (.bipush 85, 2) := by decide +kernel
theorem dX13_now_67 : decode cX13_now 67 = .ok (.iconst 2, 1) := by decide +kernel
theorem dX13_now_68 : decode cX13_now 68 = .ok (.invokevirtual 292, 3) := by decide +kernel
theorem dX13_now_71 : decode cX13_now 71 = .ok (.ireturn, 1) := by decide +kernel
theorem dX13_now_72 : decode cX13_now 72 = .ok (.aload_n 0, 1) := by decide +kernel
theorem dX13_now_73 : decode cX13_now 73 = .ok (.bipush 92, 2) := by decide +kernel
theorem dX13_now_75 : decode cX13_now 75 = .ok (.iconst 1, 1) := by decide +kernel
theorem dX13_now_76 : decode cX13_now 76 = .ok (.invokevirtual 292, 3) := by decide +kernel
theorem dX13_now_79 : decode cX13_now 79 = .ok (.ireturn, 1) := by decide +kernel
theorem dX13_now_80 : decode cX13_now 80 = .ok (.aload_n 0, 1) := by decide +kernel
theorem dX13_now_81 : decode cX13_now 81 = .ok (.bipush 92, 2) := by decide +kernel
theorem dX13_now_83 : decode cX13_now 83 = .ok (.iconst 2, 1) := by decide +kernel
theorem dX13_now_84 : decode cX13_now 84 = .ok (.invokevirtual 292, 3) := by decide +kernel
theorem dX13_now_87 : decode cX13_now 87 = .ok (.ireturn, 1) := by decide +kernel
theorem dX13_now_88 : decode cX13_now 88 = .ok (.aload_n 0, 1) := by decide +kernel
theorem dX13_now_89 : decode cX13_now 89 = .ok (.getfield 33, 3) := by decide +kernel
theorem dX13_now_92 : decode cX13_now 92 = .ok (.bipush 55, 2) := by decide +kernel
theorem dX13_now_94 : decode cX13_now 94 = .ok (.iaload, 1) := by decide +kernel
theorem dX13_now_95 : decode cX13_now 95 = .ok (.ireturn, 1) := by decide +kernel
theorem dX13_now_96 : decode cX13_now 96 = .ok (.aload_n 0, 1) := by decide +kernel
theorem dX13_now_97 : decode cX13_now 97 = .ok (.getfield 33, 3) := by decide +kernel
theorem dX13_now_100 : decode cX13_now 100 = .ok (.bipush 56, 2) := by decide +kernel
theorem dX13_now_102 : decode cX13_now 102 = .ok (.iaload, 1) := by decide +kernel
theorem dX13_now_103 : decode cX13_now 103 = .ok (.ireturn, 1) := by decide +kernel
theorem dX13_now_104 : decode cX13_now 104 = .ok (.iconst (-1), 1) := by decide +kernel
theorem dX13_now_105 : decode cX13_now 105 = .ok (.ireturn, 1) := by decide +kernel
set_option maxRecDepth 100000 in
set_option maxHeartbeats 4000000 in
theorem kX13_now {E : KE} {l : Launch} (hE : mx_ok E) (i1 : Int32) (hT : E.1 = mt) (M : MM) {q : (Int32 × MM)} (hf : fX13_now i1 M = some q) : mx_Met E l yX13_now cX13_now 2 (some .int) 1 [.ref (E.2.1.2.1 0), .int i1] M (some (.int q.1)) q.2 := by
  refine mx_enter hE (by decide) (Nat.le_of_ble_eq_true rfl) ?_
  intro p e s m below meth c C hM hn ls hl
  have hx := C.1.1
  have hb := C.1.2.1
  have hown := C.1.2.2.2.1
  have hts := C.1.2.2.2.2
  have hl : lv_has ls 2 [(0, .ref (E.2.1.2.1 0)), (1, .int i1)] := hl
  rw [fX13_now] at hf
  refine lv_aload_n hx hb dX13_now_0 rfl (lv_at hl 0 rfl) ?_
  refine lv_iconst (v := (0 : Int32)) hx hb dX13_now_1 (by decide) ?_
  refine p13_1 C hT hM dX13_now_2 (fun H locs hM => ?_)
  refine lv_iload_n hx hb dX13_now_5 rfl (lv_at hl 1 rfl) ?_
  by_cases hs0 : i1 = 0
  · replace hf := mx_ift hs0 hf
    refine lv_tableIn (tgt := 48) hx hb dX13_now_6 (by rw [hs0]; decide) (by rw [hs0]; decide) (by rw [hs0]; rfl) (by decide) ?_
    refine lv_aload_n hx hb dX13_now_48 rfl (lv_at hl 0 rfl) ?_
    refine g13_33 C hT hM dX13_now_49 ?_
    refine lv_bipush (v := (54 : Int32)) hx hb dX13_now_52 (by decide) ?_
    refine mx_ialdL C hM (mt_2 hT) (j := 54) (by decide) (mx_in_vp (by decide)) dX13_now_54 ?_
    exact mx_iret C hM hf dX13_now_55
  replace hf := mx_iff hs0 hf
  by_cases hs1 : i1 = 1
  · replace hf := mx_ift hs1 hf
    refine lv_tableIn (tgt := 56) hx hb dX13_now_6 (by rw [hs1]; decide) (by rw [hs1]; decide) (by rw [hs1]; rfl) (by decide) ?_
    refine lv_aload_n hx hb dX13_now_56 rfl (lv_at hl 0 rfl) ?_
    refine lv_bipush (v := (85 : Int32)) hx hb dX13_now_57 (by decide) ?_
    refine lv_iconst (v := (1 : Int32)) hx hb dX13_now_59 (by decide) ?_
    obtain ⟨q60, hq60, hf⟩ := mx_bd hf
    refine mx_callV C hM hl.1 yo_X13_ringsBy (h' := 0) (by decide) qw_1690 qw_1692 qs_138 (ci := 13) (q := (RX13, TX13, 52)) rfl (mt_0 hT) (As := [.int (85 : Int32), .int (1 : Int32)]) (rest := []) (st1 := [.int q60]) (kX13_ringsBy C.2.2.2.1 (85 : Int32) (1 : Int32) hT (mx_si M 0 0 (0 : Int32)) hq60) rfl rfl rfl (Nat.le_of_ble_eq_true rfl) dX13_now_60 (fun H locs hM => ?_)
    exact mx_iret C hM hf dX13_now_63
  replace hf := mx_iff hs1 hf
  by_cases hs2 : i1 = 2
  · replace hf := mx_ift hs2 hf
    refine lv_tableIn (tgt := 64) hx hb dX13_now_6 (by rw [hs2]; decide) (by rw [hs2]; decide) (by rw [hs2]; rfl) (by decide) ?_
    refine lv_aload_n hx hb dX13_now_64 rfl (lv_at hl 0 rfl) ?_
    refine lv_bipush (v := (85 : Int32)) hx hb dX13_now_65 (by decide) ?_
    refine lv_iconst (v := (2 : Int32)) hx hb dX13_now_67 (by decide) ?_
    obtain ⟨q68, hq68, hf⟩ := mx_bd hf
    refine mx_callV C hM hl.1 yo_X13_ringsBy (h' := 0) (by decide) qw_1690 qw_1692 qs_138 (ci := 13) (q := (RX13, TX13, 52)) rfl (mt_0 hT) (As := [.int (85 : Int32), .int (2 : Int32)]) (rest := []) (st1 := [.int q68]) (kX13_ringsBy C.2.2.2.1 (85 : Int32) (2 : Int32) hT (mx_si M 0 0 (0 : Int32)) hq68) rfl rfl rfl (Nat.le_of_ble_eq_true rfl) dX13_now_68 (fun H locs hM => ?_)
    exact mx_iret C hM hf dX13_now_71
  replace hf := mx_iff hs2 hf
  by_cases hs3 : i1 = 3
  · replace hf := mx_ift hs3 hf
    refine lv_tableIn (tgt := 72) hx hb dX13_now_6 (by rw [hs3]; decide) (by rw [hs3]; decide) (by rw [hs3]; rfl) (by decide) ?_
    refine lv_aload_n hx hb dX13_now_72 rfl (lv_at hl 0 rfl) ?_
    refine lv_bipush (v := (92 : Int32)) hx hb dX13_now_73 (by decide) ?_
    refine lv_iconst (v := (1 : Int32)) hx hb dX13_now_75 (by decide) ?_
    obtain ⟨q76, hq76, hf⟩ := mx_bd hf
    refine mx_callV C hM hl.1 yo_X13_ringsBy (h' := 0) (by decide) qw_1690 qw_1692 qs_138 (ci := 13) (q := (RX13, TX13, 52)) rfl (mt_0 hT) (As := [.int (92 : Int32), .int (1 : Int32)]) (rest := []) (st1 := [.int q76]) (kX13_ringsBy C.2.2.2.1 (92 : Int32) (1 : Int32) hT (mx_si M 0 0 (0 : Int32)) hq76) rfl rfl rfl (Nat.le_of_ble_eq_true rfl) dX13_now_76 (fun H locs hM => ?_)
    exact mx_iret C hM hf dX13_now_79
  replace hf := mx_iff hs3 hf
  by_cases hs4 : i1 = 4
  · replace hf := mx_ift hs4 hf
    refine lv_tableIn (tgt := 80) hx hb dX13_now_6 (by rw [hs4]; decide) (by rw [hs4]; decide) (by rw [hs4]; rfl) (by decide) ?_
    refine lv_aload_n hx hb dX13_now_80 rfl (lv_at hl 0 rfl) ?_
    refine lv_bipush (v := (92 : Int32)) hx hb dX13_now_81 (by decide) ?_
    refine lv_iconst (v := (2 : Int32)) hx hb dX13_now_83 (by decide) ?_
    obtain ⟨q84, hq84, hf⟩ := mx_bd hf
    refine mx_callV C hM hl.1 yo_X13_ringsBy (h' := 0) (by decide) qw_1690 qw_1692 qs_138 (ci := 13) (q := (RX13, TX13, 52)) rfl (mt_0 hT) (As := [.int (92 : Int32), .int (2 : Int32)]) (rest := []) (st1 := [.int q84]) (kX13_ringsBy C.2.2.2.1 (92 : Int32) (2 : Int32) hT (mx_si M 0 0 (0 : Int32)) hq84) rfl rfl rfl (Nat.le_of_ble_eq_true rfl) dX13_now_84 (fun H locs hM => ?_)
    exact mx_iret C hM hf dX13_now_87
  replace hf := mx_iff hs4 hf
  by_cases hs5 : i1 = 5
  · replace hf := mx_ift hs5 hf
    refine lv_tableIn (tgt := 88) hx hb dX13_now_6 (by rw [hs5]; decide) (by rw [hs5]; decide) (by rw [hs5]; rfl) (by decide) ?_
    refine lv_aload_n hx hb dX13_now_88 rfl (lv_at hl 0 rfl) ?_
    refine g13_33 C hT hM dX13_now_89 ?_
    refine lv_bipush (v := (55 : Int32)) hx hb dX13_now_92 (by decide) ?_
    refine mx_ialdL C hM (mt_2 hT) (j := 55) (by decide) (mx_in_vp (by decide)) dX13_now_94 ?_
    exact mx_iret C hM hf dX13_now_95
  replace hf := mx_iff hs5 hf
  by_cases hs6 : i1 = 6
  · replace hf := mx_ift hs6 hf
    refine lv_tableIn (tgt := 96) hx hb dX13_now_6 (by rw [hs6]; decide) (by rw [hs6]; decide) (by rw [hs6]; rfl) (by decide) ?_
    refine lv_aload_n hx hb dX13_now_96 rfl (lv_at hl 0 rfl) ?_
    refine g13_33 C hT hM dX13_now_97 ?_
    refine lv_bipush (v := (56 : Int32)) hx hb dX13_now_100 (by decide) ?_
    refine mx_ialdL C hM (mt_2 hT) (j := 56) (by decide) (mx_in_vp (by decide)) dX13_now_102 ?_
    exact mx_iret C hM hf dX13_now_103
  replace hf := mx_iff hs6 hf
  refine lv_tableOut (tgt := 104) hx hb dX13_now_6 (by have hh := And.intro trivial trivial; have hh0 := lv_neT hs0 (by decide : (0 : Int32).toInt = 0); have hh1 := lv_neT hs1 (by decide : (1 : Int32).toInt = 1); have hh2 := lv_neT hs2 (by decide : (2 : Int32).toInt = 2); have hh3 := lv_neT hs3 (by decide : (3 : Int32).toInt = 3); have hh4 := lv_neT hs4 (by decide : (4 : Int32).toInt = 4); have hh5 := lv_neT hs5 (by decide : (5 : Int32).toInt = 5); have hh6 := lv_neT hs6 (by decide : (6 : Int32).toInt = 6); omega) (by decide) ?_
  refine lv_iconst (v := (-1 : Int32)) hx hb dX13_now_104 (by decide) ?_
  exact mx_iret C hM hf dX13_now_105
theorem dX13_whyGo_0 : decode cX13_whyGo 0 = .ok (.aload_n 0, 1) := by decide +kernel
theorem dX13_whyGo_1 : decode cX13_whyGo 1 = .ok (.iload_n 1, 1) := by decide +kernel
theorem dX13_whyGo_2 : decode cX13_whyGo 2 = .ok (.iload_n 2, 1) := by decide +kernel
theorem dX13_whyGo_3 : decode cX13_whyGo 3 = .ok (.iload_n 3, 1) := by decide +kernel
theorem dX13_whyGo_4 : decode cX13_whyGo 4 = .ok (.invokevirtual 266, 3) := by decide +kernel
theorem dX13_whyGo_7 : decode cX13_whyGo 7 = .ok (.istore 4, 2) := by decide +kernel
theorem dX13_whyGo_9 : decode cX13_whyGo 9 = .ok (.iload 4, 2) := by decide +kernel
theorem dX13_whyGo_11 : decode cX13_whyGo 11 = .ok (.ifCond .ne 7, 3) := by decide +kernel
theorem dX13_whyGo_14 : decode cX13_whyGo 14 = .ok (.iconst 1, 1) := by decide +kernel
theorem dX13_whyGo_15 : decode cX13_whyGo 15 = .ok (.goto 22, 3) := by decide +kernel
theorem dX13_whyGo_18 : decode cX13_whyGo 18 = .ok (.iload 4, 2) := by decide +kernel
theorem dX13_whyGo_20 : decode cX13_whyGo 20 = .ok (.aload_n 0, 1) := by decide +kernel
theorem dX13_whyGo_21 : decode cX13_whyGo 21 = .ok (.getfield 33, 3) := by decide +kernel
theorem dX13_whyGo_24 : decode cX13_whyGo 24 = .ok (.bipush 71, 2) := by decide +kernel
theorem dX13_whyGo_26 : decode cX13_whyGo 26 = .ok (.iload_n 1, 1) := by decide +kernel
theorem dX13_whyGo_27 : decode cX13_whyGo 27 = .ok (.iadd, 1) := by decide +kernel
theorem dX13_whyGo_28 : decode cX13_whyGo 28 = .ok (.iaload, 1) := by decide +kernel
theorem dX13_whyGo_29 : decode cX13_whyGo 29 = .ok (.if_icmp .le 7, 3) := by decide +kernel
theorem dX13_whyGo_32 : decode cX13_whyGo 32 = .ok (.iconst 2, 1) := by decide +kernel
theorem dX13_whyGo_33 : decode cX13_whyGo 33 = .ok (.goto 4, 3) := by decide +kernel
theorem dX13_whyGo_36 : decode cX13_whyGo 36 = .ok (.iconst 0, 1) := by decide +kernel
theorem dX13_whyGo_37 : decode cX13_whyGo 37 = .ok (.ireturn, 1) := by decide +kernel
set_option maxRecDepth 100000 in
set_option maxHeartbeats 4000000 in
theorem kX13_whyGo {E : KE} {l : Launch} (hE : mx_ok E) (i1 : Int32) (i2 : Int32) (i3 : Int32) (hT : E.1 = mt) (M : MM) {q : Int32} (hf : fX13_whyGo i1 i2 i3 M = some q) : mx_Met E l yX13_whyGo cX13_whyGo 5 (some .int) 2 [.ref (E.2.1.2.1 0), .int i1, .int i2, .int i3] M (some (.int q)) M := by
  refine mx_enter hE (by decide) (Nat.le_of_ble_eq_true rfl) ?_
  intro p e s m below meth c C hM hn ls hl
  have hx := C.1.1
  have hb := C.1.2.1
  have hown := C.1.2.2.2.1
  have hts := C.1.2.2.2.2
  have hl : lv_has ls 5 [(0, .ref (E.2.1.2.1 0)), (1, .int i1), (2, .int i2), (3, .int i3)] := hl
  rw [fX13_whyGo] at hf
  refine lv_aload_n hx hb dX13_whyGo_0 rfl (lv_at hl 0 rfl) ?_
  refine lv_iload_n hx hb dX13_whyGo_1 rfl (lv_at hl 1 rfl) ?_
  refine lv_iload_n hx hb dX13_whyGo_2 rfl (lv_at hl 2 rfl) ?_
  refine lv_iload_n hx hb dX13_whyGo_3 rfl (lv_at hl 3 rfl) ?_
  obtain ⟨q4, hq4, hf⟩ := mx_bd hf
  refine mx_callV C hM hl.1 yo_X13_farBy (h' := 1) (by decide) qw_1702 qw_1704 qs_140 (ci := 13) (q := (RX13, TX13, 52)) rfl (mt_0 hT) (As := [.int i1, .int i2, .int i3]) (rest := []) (st1 := [.int q4]) (kX13_farBy C.2.2.2.1 i1 i2 i3 hT M hq4) rfl rfl rfl (Nat.le_of_ble_eq_true rfl) dX13_whyGo_4 (fun H locs hM => ?_)
  refine lv_istore (lv' := [(4, .int q4), (0, .ref (E.2.1.2.1 0)), (1, .int i1), (2, .int i2), (3, .int i3)]) hx hb dX13_whyGo_7 hl (by decide) rfl (fun ls hl => ?_)
  refine lv_iload hx hb dX13_whyGo_9 (lv_at hl 0 rfl) ?_
  refine lv_if_ne (tgt := 18) hx hb dX13_whyGo_11 (by decide) (fun hc11 => ?_) (fun hc11 => ?_)
  · replace hf := mx_iff hc11 hf
    refine lv_iload hx hb dX13_whyGo_18 (lv_at hl 0 rfl) ?_
    refine lv_aload_n hx hb dX13_whyGo_20 rfl (lv_at hl 1 rfl) ?_
    refine g13_33 C hT hM dX13_whyGo_21 ?_
    refine lv_bipush (v := (71 : Int32)) hx hb dX13_whyGo_24 (by decide) ?_
    refine lv_iload_n hx hb dX13_whyGo_26 rfl (lv_at hl 2 rfl) ?_
    refine lv_iadd hx hb dX13_whyGo_27 ?_
    obtain ⟨hg28, hf⟩ := mx_gd hf
    refine mx_iald C hM (mt_2 hT) (mx_in_vp hg28) dX13_whyGo_28 ?_
    refine lv_icmp_le (tgt := 36) hx hb dX13_whyGo_29 (by decide) (fun hc29 => ?_) (fun hc29 => ?_)
    · replace hf := mx_ift hc29 hf
      refine lv_iconst (v := (0 : Int32)) hx hb dX13_whyGo_36 (by decide) ?_
      exact mx_iretR C hM hf dX13_whyGo_37
    · replace hf := mx_iff hc29 hf
      refine lv_iconst (v := (2 : Int32)) hx hb dX13_whyGo_32 (by decide) ?_
      refine lv_goto (tgt := 37) hx hb dX13_whyGo_33 (by decide) ?_
      exact mx_iretR C hM hf dX13_whyGo_37
  · replace hf := mx_ift hc11 hf
    refine lv_iconst (v := (1 : Int32)) hx hb dX13_whyGo_14 (by decide) ?_
    refine lv_goto (tgt := 37) hx hb dX13_whyGo_15 (by decide) ?_
    exact mx_iretR C hM hf dX13_whyGo_37
theorem dX13_goes_0 : decode cX13_goes 0 = .ok (.aload_n 0, 1) := by decide +kernel
theorem dX13_goes_1 : decode cX13_goes 1 = .ok (.iload_n 1, 1) := by decide +kernel
theorem dX13_goes_2 : decode cX13_goes 2 = .ok (.iload_n 2, 1) := by decide +kernel
theorem dX13_goes_3 : decode cX13_goes 3 = .ok (.iload_n 3, 1) := by decide +kernel
theorem dX13_goes_4 : decode cX13_goes 4 = .ok (.invokevirtual 266, 3) := by decide +kernel
theorem dX13_goes_7 : decode cX13_goes 7 = .ok (.istore 4, 2) := by decide +kernel
theorem dX13_goes_9 : decode cX13_goes 9 = .ok (.aload_n 0, 1) := by decide +kernel
theorem dX13_goes_10 : decode cX13_goes 10 = .ok (.getfield 33, 3) := by decide +kernel
theorem dX13_goes_13 : decode cX13_goes 13 = .ok (.bipush 71, 2) := by decide +kernel
theorem dX13_goes_15 : decode cX13_goes 15 = .ok (.iload_n 1, 1) := by decide +kernel
theorem dX13_goes_16 : decode cX13_goes 16 = .ok (.iadd, 1) := by decide +kernel
theorem dX13_goes_17 : decode cX13_goes 17 = .ok (.dup2, 1) := by decide +kernel
theorem dX13_goes_18 : decode cX13_goes 18 = .ok (.iaload, 1) := by decide +kernel
theorem dX13_goes_19 : decode cX13_goes 19 = .ok (.iload 4, 2) := by decide +kernel
theorem dX13_goes_21 : decode cX13_goes 21 = .ok (.isub, 1) := by decide +kernel
theorem dX13_goes_22 : decode cX13_goes 22 = .ok (.iastore, 1) := by decide +kernel
theorem dX13_goes_23 : decode cX13_goes 23 = .ok (.aload_n 0, 1) := by decide +kernel
theorem dX13_goes_24 : decode cX13_goes 24 = .ok (.getfield 33, 3) := by decide +kernel
theorem dX13_goes_27 : decode cX13_goes 27 = .ok (.bipush 56, 2) := by decide +kernel
theorem dX13_goes_29 : decode cX13_goes 29 = .ok (.dup2, 1) := by decide +kernel
theorem dX13_goes_30 : decode cX13_goes 30 = .ok (.iaload, 1) := by decide +kernel
theorem dX13_goes_31 : decode cX13_goes 31 = .ok (.iload 4, 2) := by decide +kernel
theorem dX13_goes_33 : decode cX13_goes 33 = .ok (.iadd, 1) := by decide +kernel
theorem dX13_goes_34 : decode cX13_goes 34 = .ok (.iastore, 1) := by decide +kernel
theorem dX13_goes_35 : decode cX13_goes 35 = .ok (.aload_n 0, 1) := by decide +kernel
theorem dX13_goes_36 : decode cX13_goes 36 = .ok (.getfield 33, 3) := by decide +kernel
theorem dX13_goes_39 : decode cX13_goes 39 = .ok (.bipush 57, 2) := by decide +kernel
theorem dX13_goes_41 : decode cX13_goes 41 = .ok (.iload_n 1, 1) := by decide +kernel
theorem dX13_goes_42 : decode cX13_goes 42 = .ok (.iadd, 1) := by decide +kernel
theorem dX13_goes_43 : decode cX13_goes 43 = .ok (.iload_n 2, 1) := by decide +kernel
theorem dX13_goes_44 : decode cX13_goes 44 = .ok (.iastore, 1) := by decide +kernel
theorem dX13_goes_45 : decode cX13_goes 45 = .ok (.aload_n 0, 1) := by decide +kernel
theorem dX13_goes_46 : decode cX13_goes 46 = .ok (.getfield 33, 3) := by decide +kernel
theorem dX13_goes_49 : decode cX13_goes 49 = .ok (.bipush 64, 2) := by decide +kernel
theorem dX13_goes_51 : decode cX13_goes 51 = .ok (.iload_n 1, 1) := by decide +kernel
theorem dX13_goes_52 : decode cX13_goes 52 = .ok (.iadd, 1) := by decide +kernel
theorem dX13_goes_53 : decode cX13_goes 53 = .ok (.iload_n 3, 1) := by decide +kernel
theorem dX13_goes_54 : decode cX13_goes 54 = .ok (.iastore, 1) := by decide +kernel
theorem dX13_goes_55 : decode cX13_goes 55 = .ok (.return_, 1) := by decide +kernel
set_option maxRecDepth 100000 in
set_option maxHeartbeats 4000000 in
theorem kX13_goes {E : KE} {l : Launch} (hE : mx_ok E) (i1 : Int32) (i2 : Int32) (i3 : Int32) (hT : E.1 = mt) (M : MM) {q : MM} (hf : fX13_goes i1 i2 i3 M = some q) : mx_Met E l yX13_goes cX13_goes 5 none 2 [.ref (E.2.1.2.1 0), .int i1, .int i2, .int i3] M none q := by
  refine mx_enter hE (by decide) (Nat.le_of_ble_eq_true rfl) ?_
  intro p e s m below meth c C hM hn ls hl
  have hx := C.1.1
  have hb := C.1.2.1
  have hown := C.1.2.2.2.1
  have hts := C.1.2.2.2.2
  have hl : lv_has ls 5 [(0, .ref (E.2.1.2.1 0)), (1, .int i1), (2, .int i2), (3, .int i3)] := hl
  rw [fX13_goes] at hf
  refine lv_aload_n hx hb dX13_goes_0 rfl (lv_at hl 0 rfl) ?_
  refine lv_iload_n hx hb dX13_goes_1 rfl (lv_at hl 1 rfl) ?_
  refine lv_iload_n hx hb dX13_goes_2 rfl (lv_at hl 2 rfl) ?_
  refine lv_iload_n hx hb dX13_goes_3 rfl (lv_at hl 3 rfl) ?_
  obtain ⟨q4, hq4, hf⟩ := mx_bd hf
  refine mx_callV C hM hl.1 yo_X13_farBy (h' := 1) (by decide) qw_1702 qw_1704 qs_140 (ci := 13) (q := (RX13, TX13, 52)) rfl (mt_0 hT) (As := [.int i1, .int i2, .int i3]) (rest := []) (st1 := [.int q4]) (kX13_farBy C.2.2.2.1 i1 i2 i3 hT M hq4) rfl rfl rfl (Nat.le_of_ble_eq_true rfl) dX13_goes_4 (fun H locs hM => ?_)
  refine lv_istore (lv' := [(4, .int q4), (0, .ref (E.2.1.2.1 0)), (1, .int i1), (2, .int i2), (3, .int i3)]) hx hb dX13_goes_7 hl (by decide) rfl (fun ls hl => ?_)
  refine lv_aload_n hx hb dX13_goes_9 rfl (lv_at hl 1 rfl) ?_
  refine g13_33 C hT hM dX13_goes_10 ?_
  refine lv_bipush (v := (71 : Int32)) hx hb dX13_goes_13 (by decide) ?_
  refine lv_iload_n hx hb dX13_goes_15 rfl (lv_at hl 2 rfl) ?_
  refine lv_iadd hx hb dX13_goes_16 ?_
  refine lv_dup2_11 hx hb dX13_goes_17 rfl rfl ?_
  obtain ⟨hg18, hf⟩ := mx_gd hf
  refine mx_iald C hM (mt_2 hT) (mx_in_vp hg18) dX13_goes_18 ?_
  refine lv_iload hx hb dX13_goes_19 (lv_at hl 0 rfl) ?_
  refine lv_isub hx hb dX13_goes_21 ?_
  obtain ⟨hg22, hf⟩ := mx_gd hf
  refine mx_iast C hM (mt_2 hT) (mx_in_vp hg22) dX13_goes_22 (fun H locs hM => ?_)
  refine lv_aload_n hx hb dX13_goes_23 rfl (lv_at hl 1 rfl) ?_
  refine g13_33 C hT hM dX13_goes_24 ?_
  refine lv_bipush (v := (56 : Int32)) hx hb dX13_goes_27 (by decide) ?_
  refine lv_dup2_11 hx hb dX13_goes_29 rfl rfl ?_
  refine mx_ialdL C hM (mt_2 hT) (j := 56) (by decide) (mx_in_vp (by decide)) dX13_goes_30 ?_
  refine lv_iload hx hb dX13_goes_31 (lv_at hl 0 rfl) ?_
  refine lv_iadd hx hb dX13_goes_33 ?_
  refine mx_iastL C hM (mt_2 hT) (j := 56) (by decide) (mx_in_vp (by decide)) dX13_goes_34 (fun H locs hM => ?_)
  refine lv_aload_n hx hb dX13_goes_35 rfl (lv_at hl 1 rfl) ?_
  refine g13_33 C hT hM dX13_goes_36 ?_
  refine lv_bipush (v := (57 : Int32)) hx hb dX13_goes_39 (by decide) ?_
  refine lv_iload_n hx hb dX13_goes_41 rfl (lv_at hl 2 rfl) ?_
  refine lv_iadd hx hb dX13_goes_42 ?_
  refine lv_iload_n hx hb dX13_goes_43 rfl (lv_at hl 3 rfl) ?_
  obtain ⟨hg44, hf⟩ := mx_gd hf
  refine mx_iast C hM (mt_2 hT) (mx_in_vp hg44) dX13_goes_44 (fun H locs hM => ?_)
  refine lv_aload_n hx hb dX13_goes_45 rfl (lv_at hl 1 rfl) ?_
  refine g13_33 C hT hM dX13_goes_46 ?_
  refine lv_bipush (v := (64 : Int32)) hx hb dX13_goes_49 (by decide) ?_
  refine lv_iload_n hx hb dX13_goes_51 rfl (lv_at hl 2 rfl) ?_
  refine lv_iadd hx hb dX13_goes_52 ?_
  refine lv_iload_n hx hb dX13_goes_53 rfl (lv_at hl 4 rfl) ?_
  obtain ⟨hg54, hf⟩ := mx_gd hf
  refine mx_iast C hM (mt_2 hT) (mx_in_vp hg54) dX13_goes_54 (fun H locs hM => ?_)
  exact mx_vret C hM hf dX13_goes_55
theorem dX13_whyHand_0 : decode cX13_whyHand 0 = .ok (.iload_n 1, 1) := by decide +kernel
theorem dX13_whyHand_1 : decode cX13_whyHand 1 = .ok (.iload_n 3, 1) := by decide +kernel
theorem dX13_whyHand_2 : decode cX13_whyHand 2 = .ok (.if_icmp .ne 7, 3) := by decide +kernel
theorem dX13_whyHand_5 : decode cX13_whyHand 5 = .ok (.iconst 1, 1) := by decide +kernel
theorem dX13_whyHand_6 : decode cX13_whyHand 6 = .ok (.goto 30, 3) := by decide +kernel
theorem dX13_whyHand_9 : decode cX13_whyHand 9 = .ok (.aload_n 0, 1) := by decide +kernel
theorem dX13_whyHand_10 : decode cX13_whyHand 10 = .ok (.iload_n 1, 1) := by decide +kernel
theorem dX13_whyHand_11 : decode cX13_whyHand 11 = .ok (.iload_n 2, 1) := by decide +kernel
theorem dX13_whyHand_12 : decode cX13_whyHand 12 = .ok (.invokevirtual 259, 3) := by decide +kernel
theorem dX13_whyHand_15 : decode cX13_whyHand 15 = .ok (.ifCond .ne 7, 3) := by decide +kernel
theorem dX13_whyHand_18 : decode cX13_whyHand 18 = .ok (.iconst 2, 1) := by decide +kernel
theorem dX13_whyHand_19 : decode cX13_whyHand 19 = .ok (.goto 17, 3) := by decide +kernel
theorem dX13_whyHand_22 : decode cX13_whyHand 22 = .ok (.aload_n 0, 1) := by decide +kernel
theorem dX13_whyHand_23 : decode cX13_whyHand 23 = .ok (.iload_n 1, 1) := by decide +kernel
theorem dX13_whyHand_24 : decode cX13_whyHand 24 = .ok (.iload_n 3, 1) := by decide +kernel
theorem dX13_whyHand_25 : decode cX13_whyHand 25 = .ok (.invokevirtual 295, 3) := by decide +kernel
theorem dX13_whyHand_28 : decode cX13_whyHand 28 = .ok (.ifCond .le 7, 3) := by decide +kernel
theorem dX13_whyHand_31 : decode cX13_whyHand 31 = .ok (.iconst 3, 1) := by decide +kernel
theorem dX13_whyHand_32 : decode cX13_whyHand 32 = .ok (.goto 4, 3) := by decide +kernel
theorem dX13_whyHand_35 : decode cX13_whyHand 35 = .ok (.iconst 0, 1) := by decide +kernel
theorem dX13_whyHand_36 : decode cX13_whyHand 36 = .ok (.ireturn, 1) := by decide +kernel
set_option maxRecDepth 100000 in
set_option maxHeartbeats 4000000 in
theorem kX13_whyHand {E : KE} {l : Launch} (hE : mx_ok E) (i1 : Int32) (i2 : Int32) (i3 : Int32) (hT : E.1 = mt) (M : MM) {q : Int32} (hf : fX13_whyHand i1 i2 i3 M = some q) : mx_Met E l yX13_whyHand cX13_whyHand 4 (some .int) 3 [.ref (E.2.1.2.1 0), .int i1, .int i2, .int i3] M (some (.int q)) M := by
  refine mx_enter hE (by decide) (Nat.le_of_ble_eq_true rfl) ?_
  intro p e s m below meth c C hM hn ls hl
  have hx := C.1.1
  have hb := C.1.2.1
  have hown := C.1.2.2.2.1
  have hts := C.1.2.2.2.2
  have hl : lv_has ls 4 [(0, .ref (E.2.1.2.1 0)), (1, .int i1), (2, .int i2), (3, .int i3)] := hl
  rw [fX13_whyHand] at hf
  refine lv_iload_n hx hb dX13_whyHand_0 rfl (lv_at hl 1 rfl) ?_
  refine lv_iload_n hx hb dX13_whyHand_1 rfl (lv_at hl 3 rfl) ?_
  refine lv_icmp_ne (tgt := 9) hx hb dX13_whyHand_2 (by decide) (fun hc2 => ?_) (fun hc2 => ?_)
  · replace hf := mx_iff hc2 hf
    refine lv_aload_n hx hb dX13_whyHand_9 rfl (lv_at hl 0 rfl) ?_
    refine lv_iload_n hx hb dX13_whyHand_10 rfl (lv_at hl 1 rfl) ?_
    refine lv_iload_n hx hb dX13_whyHand_11 rfl (lv_at hl 2 rfl) ?_
    obtain ⟨q12, hq12, hf⟩ := mx_bd hf
    refine mx_callV C hM hl.1 yo_X13_keeps (h' := 0) (by decide) qw_1658 qw_1660 qs_133 (ci := 13) (q := (RX13, TX13, 52)) rfl (mt_0 hT) (As := [.int i1, .int i2]) (rest := []) (st1 := [.int (mx_b q12)]) (kX13_keeps C.2.2.2.1 i1 i2 hT M hq12) rfl rfl rfl (Nat.le_of_ble_eq_true rfl) dX13_whyHand_12 (fun H locs hM => ?_)
    refine lv_if_ne (tgt := 22) hx hb dX13_whyHand_15 (by decide) (fun hc15 => ?_) (fun hc15 => ?_)
    · replace hf := mx_iff hc15 hf
      refine lv_aload_n hx hb dX13_whyHand_22 rfl (lv_at hl 0 rfl) ?_
      refine lv_iload_n hx hb dX13_whyHand_23 rfl (lv_at hl 1 rfl) ?_
      refine lv_iload_n hx hb dX13_whyHand_24 rfl (lv_at hl 3 rfl) ?_
      obtain ⟨q25, hq25, hf⟩ := mx_bd hf
      refine mx_callV C hM hl.1 yo_X13_farOf (h' := 2) (by decide) qw_1725 qw_1727 qs_144 (ci := 13) (q := (RX13, TX13, 52)) rfl (mt_0 hT) (As := [.int i1, .int i3]) (rest := []) (st1 := [.int q25]) (kX13_farOf C.2.2.2.1 i1 i3 hT M hq25) rfl rfl rfl (Nat.le_of_ble_eq_true rfl) dX13_whyHand_25 (fun H locs hM => ?_)
      refine lv_if_le (tgt := 35) hx hb dX13_whyHand_28 (by decide) (fun hc28 => ?_) (fun hc28 => ?_)
      · replace hf := mx_ift hc28 hf
        refine lv_iconst (v := (0 : Int32)) hx hb dX13_whyHand_35 (by decide) ?_
        exact mx_iretR C hM hf dX13_whyHand_36
      · replace hf := mx_iff hc28 hf
        refine lv_iconst (v := (3 : Int32)) hx hb dX13_whyHand_31 (by decide) ?_
        refine lv_goto (tgt := 36) hx hb dX13_whyHand_32 (by decide) ?_
        exact mx_iretR C hM hf dX13_whyHand_36
    · replace hf := mx_ift hc15 hf
      refine lv_iconst (v := (2 : Int32)) hx hb dX13_whyHand_18 (by decide) ?_
      refine lv_goto (tgt := 36) hx hb dX13_whyHand_19 (by decide) ?_
      exact mx_iretR C hM hf dX13_whyHand_36
  · replace hf := mx_ift hc2 hf
    refine lv_iconst (v := (1 : Int32)) hx hb dX13_whyHand_5 (by decide) ?_
    refine lv_goto (tgt := 36) hx hb dX13_whyHand_6 (by decide) ?_
    exact mx_iretR C hM hf dX13_whyHand_36
theorem dX13_hands_0 : decode cX13_hands 0 = .ok (.aload_n 0, 1) := by decide +kernel
theorem dX13_hands_1 : decode cX13_hands 1 = .ok (.getfield 33, 3) := by decide +kernel
theorem dX13_hands_4 : decode cX13_hands 4 = .ok (.bipush 78, 2) := by decide +kernel
theorem dX13_hands_6 : decode cX13_hands 6 = .ok (.iload_n 1, 1) := by decide +kernel
theorem dX13_hands_7 : decode cX13_hands 7 = .ok (.iadd, 1) := by decide +kernel
theorem dX13_hands_8 : decode cX13_hands 8 = .ok (.iload_n 2, 1) := by decide +kernel
theorem dX13_hands_9 : decode cX13_hands 9 = .ok (.iastore, 1) := by decide +kernel
theorem dX13_hands_10 : decode cX13_hands 10 = .ok (.aload_n 0, 1) := by decide +kernel
theorem dX13_hands_11 : decode cX13_hands 11 = .ok (.getfield 33, 3) := by decide +kernel
theorem dX13_hands_14 : decode cX13_hands 14 = .ok (.bipush 55, 2) := by decide +kernel
theorem dX13_hands_16 : decode cX13_hands 16 = .ok (.dup2, 1) := by decide +kernel
theorem dX13_hands_17 : decode cX13_hands 17 = .ok (.iaload, 1) := by decide +kernel
theorem dX13_hands_18 : decode cX13_hands 18 = .ok (.iconst 1, 1) := by decide +kernel
theorem dX13_hands_19 : decode cX13_hands 19 = .ok (.iadd, 1) := by decide +kernel
theorem dX13_hands_20 : decode cX13_hands 20 = .ok (.iastore, 1) := by decide +kernel
theorem dX13_hands_21 : decode cX13_hands 21 = .ok (.return_, 1) := by decide +kernel
set_option maxRecDepth 100000 in
set_option maxHeartbeats 4000000 in
theorem kX13_hands {E : KE} {l : Launch} (hE : mx_ok E) (i1 : Int32) (i2 : Int32) (hT : E.1 = mt) (M : MM) {q : MM} (hf : fX13_hands i1 i2 M = some q) : mx_Met E l yX13_hands cX13_hands 3 none 0 [.ref (E.2.1.2.1 0), .int i1, .int i2] M none q := by
  refine mx_enter hE (by decide) (Nat.le_of_ble_eq_true rfl) ?_
  intro p e s m below meth c C hM hn ls hl
  have hx := C.1.1
  have hb := C.1.2.1
  have hown := C.1.2.2.2.1
  have hts := C.1.2.2.2.2
  have hl : lv_has ls 3 [(0, .ref (E.2.1.2.1 0)), (1, .int i1), (2, .int i2)] := hl
  rw [fX13_hands] at hf
  refine lv_aload_n hx hb dX13_hands_0 rfl (lv_at hl 0 rfl) ?_
  refine g13_33 C hT hM dX13_hands_1 ?_
  refine lv_bipush (v := (78 : Int32)) hx hb dX13_hands_4 (by decide) ?_
  refine lv_iload_n hx hb dX13_hands_6 rfl (lv_at hl 1 rfl) ?_
  refine lv_iadd hx hb dX13_hands_7 ?_
  refine lv_iload_n hx hb dX13_hands_8 rfl (lv_at hl 2 rfl) ?_
  obtain ⟨hg9, hf⟩ := mx_gd hf
  refine mx_iast C hM (mt_2 hT) (mx_in_vp hg9) dX13_hands_9 (fun H locs hM => ?_)
  refine lv_aload_n hx hb dX13_hands_10 rfl (lv_at hl 0 rfl) ?_
  refine g13_33 C hT hM dX13_hands_11 ?_
  refine lv_bipush (v := (55 : Int32)) hx hb dX13_hands_14 (by decide) ?_
  refine lv_dup2_11 hx hb dX13_hands_16 rfl rfl ?_
  refine mx_ialdL C hM (mt_2 hT) (j := 55) (by decide) (mx_in_vp (by decide)) dX13_hands_17 ?_
  refine lv_iconst (v := (1 : Int32)) hx hb dX13_hands_18 (by decide) ?_
  refine lv_iadd hx hb dX13_hands_19 ?_
  refine mx_iastL C hM (mt_2 hT) (j := 55) (by decide) (mx_in_vp (by decide)) dX13_hands_20 (fun H locs hM => ?_)
  exact mx_vret C hM hf dX13_hands_21
theorem dX13_whyWear_0 : decode cX13_whyWear 0 = .ok (.aload_n 0, 1) := by decide +kernel
theorem dX13_whyWear_1 : decode cX13_whyWear 1 = .ok (.iload_n 1, 1) := by decide +kernel
theorem dX13_whyWear_2 : decode cX13_whyWear 2 = .ok (.iload_n 2, 1) := by decide +kernel
theorem dX13_whyWear_3 : decode cX13_whyWear 3 = .ok (.invokevirtual 259, 3) := by decide +kernel
theorem dX13_whyWear_6 : decode cX13_whyWear 6 = .ok (.ifCond .ne 7, 3) := by decide +kernel
theorem dX13_whyWear_9 : decode cX13_whyWear 9 = .ok (.iconst 1, 1) := by decide +kernel
theorem dX13_whyWear_10 : decode cX13_whyWear 10 = .ok (.goto 29, 3) := by decide +kernel
theorem dX13_whyWear_13 : decode cX13_whyWear 13 = .ok (.aload_n 0, 1) := by decide +kernel
theorem dX13_whyWear_14 : decode cX13_whyWear 14 = .ok (.iload_n 1, 1) := by decide +kernel
theorem dX13_whyWear_15 : decode cX13_whyWear 15 = .ok (.invokevirtual 283, 3) := by decide +kernel
theorem dX13_whyWear_18 : decode cX13_whyWear 18 = .ok (.ifCond .lt 7, 3) := by decide +kernel
theorem dX13_whyWear_21 : decode cX13_whyWear 21 = .ok (.iconst 2, 1) := by decide +kernel
theorem dX13_whyWear_22 : decode cX13_whyWear 22 = .ok (.goto 17, 3) := by decide +kernel
theorem dX13_whyWear_25 : decode cX13_whyWear 25 = .ok (.aload_n 0, 1) := by decide +kernel
theorem dX13_whyWear_26 : decode cX13_whyWear 26 = .ok (.iload_n 2, 1) := by decide +kernel
theorem dX13_whyWear_27 : decode cX13_whyWear 27 = .ok (.iload_n 1, 1) := by decide +kernel
theorem dX13_whyWear_28 : decode cX13_whyWear 28 = .ok (.invokevirtual 298, 3) := by decide +kernel
theorem dX13_whyWear_31 : decode cX13_whyWear 31 = .ok (.ifCond .eq 7, 3) := by decide +kernel
theorem dX13_whyWear_34 : decode cX13_whyWear 34 = .ok (.iconst 0, 1) := by decide +kernel
theorem dX13_whyWear_35 : decode cX13_whyWear 35 = .ok (.goto 4, 3) := by decide +kernel
theorem dX13_whyWear_38 : decode cX13_whyWear 38 = .ok (.iconst 3, 1) := by decide +kernel
theorem dX13_whyWear_39 : decode cX13_whyWear 39 = .ok (.ireturn, 1) := by decide +kernel
set_option maxRecDepth 100000 in
set_option maxHeartbeats 4000000 in
theorem kX13_whyWear {E : KE} {l : Launch} (hE : mx_ok E) (i1 : Int32) (i2 : Int32) (hT : E.1 = mt) (M : MM) {q : Int32} (hf : fX13_whyWear i1 i2 M = some q) : mx_Met E l yX13_whyWear cX13_whyWear 3 (some .int) 2 [.ref (E.2.1.2.1 0), .int i1, .int i2] M (some (.int q)) M := by
  refine mx_enter hE (by decide) (Nat.le_of_ble_eq_true rfl) ?_
  intro p e s m below meth c C hM hn ls hl
  have hx := C.1.1
  have hb := C.1.2.1
  have hown := C.1.2.2.2.1
  have hts := C.1.2.2.2.2
  have hl : lv_has ls 3 [(0, .ref (E.2.1.2.1 0)), (1, .int i1), (2, .int i2)] := hl
  rw [fX13_whyWear] at hf
  refine lv_aload_n hx hb dX13_whyWear_0 rfl (lv_at hl 0 rfl) ?_
  refine lv_iload_n hx hb dX13_whyWear_1 rfl (lv_at hl 1 rfl) ?_
  refine lv_iload_n hx hb dX13_whyWear_2 rfl (lv_at hl 2 rfl) ?_
  obtain ⟨q3, hq3, hf⟩ := mx_bd hf
  refine mx_callV C hM hl.1 yo_X13_keeps (h' := 0) (by decide) qw_1658 qw_1660 qs_133 (ci := 13) (q := (RX13, TX13, 52)) rfl (mt_0 hT) (As := [.int i1, .int i2]) (rest := []) (st1 := [.int (mx_b q3)]) (kX13_keeps C.2.2.2.1 i1 i2 hT M hq3) rfl rfl rfl (Nat.le_of_ble_eq_true rfl) dX13_whyWear_3 (fun H locs hM => ?_)
  refine lv_if_ne (tgt := 13) hx hb dX13_whyWear_6 (by decide) (fun hc6 => ?_) (fun hc6 => ?_)
  · replace hf := mx_iff hc6 hf
    refine lv_aload_n hx hb dX13_whyWear_13 rfl (lv_at hl 0 rfl) ?_
    refine lv_iload_n hx hb dX13_whyWear_14 rfl (lv_at hl 1 rfl) ?_
    obtain ⟨q15, hq15, hf⟩ := mx_bd hf
    refine mx_callV C hM hl.1 yo_X13_wornBy (h' := 0) (by decide) qw_1662 qw_1664 qs_134 (ci := 13) (q := (RX13, TX13, 52)) rfl (mt_0 hT) (As := [.int i1]) (rest := []) (st1 := [.int q15]) (kX13_wornBy C.2.2.2.1 i1 hT M hq15) rfl rfl rfl (Nat.le_of_ble_eq_true rfl) dX13_whyWear_15 (fun H locs hM => ?_)
    refine lv_if_lt (tgt := 25) hx hb dX13_whyWear_18 (by decide) (fun hc18 => ?_) (fun hc18 => ?_)
    · replace hf := mx_ift hc18 hf
      refine lv_aload_n hx hb dX13_whyWear_25 rfl (lv_at hl 0 rfl) ?_
      refine lv_iload_n hx hb dX13_whyWear_26 rfl (lv_at hl 2 rfl) ?_
      refine lv_iload_n hx hb dX13_whyWear_27 rfl (lv_at hl 1 rfl) ?_
      obtain ⟨q28, hq28, hf⟩ := mx_bd hf
      refine mx_callV C hM hl.1 yo_X13_isFit (h' := 1) (by decide) qw_1741 qw_1743 qs_147 (ci := 13) (q := (RX13, TX13, 52)) rfl (mt_0 hT) (As := [.int i2, .int i1]) (rest := []) (st1 := [.int (mx_b q28)]) (kX13_isFit C.2.2.2.1 i2 i1 hT M hq28) rfl rfl rfl (Nat.le_of_ble_eq_true rfl) dX13_whyWear_28 (fun H locs hM => ?_)
      refine lv_if_eq (tgt := 38) hx hb dX13_whyWear_31 (by decide) (fun hc31 => ?_) (fun hc31 => ?_)
      · replace hf := mx_ift hc31 hf
        refine lv_iconst (v := (3 : Int32)) hx hb dX13_whyWear_38 (by decide) ?_
        exact mx_iretR C hM hf dX13_whyWear_39
      · replace hf := mx_iff hc31 hf
        refine lv_iconst (v := (0 : Int32)) hx hb dX13_whyWear_34 (by decide) ?_
        refine lv_goto (tgt := 39) hx hb dX13_whyWear_35 (by decide) ?_
        exact mx_iretR C hM hf dX13_whyWear_39
    · replace hf := mx_iff hc18 hf
      refine lv_iconst (v := (2 : Int32)) hx hb dX13_whyWear_21 (by decide) ?_
      refine lv_goto (tgt := 39) hx hb dX13_whyWear_22 (by decide) ?_
      exact mx_iretR C hM hf dX13_whyWear_39
  · replace hf := mx_ift hc6 hf
    refine lv_iconst (v := (1 : Int32)) hx hb dX13_whyWear_9 (by decide) ?_
    refine lv_goto (tgt := 39) hx hb dX13_whyWear_10 (by decide) ?_
    exact mx_iretR C hM hf dX13_whyWear_39
theorem dX13_whyFind_0 : decode cX13_whyFind 0 = .ok (.aload_n 0, 1) := by decide +kernel
theorem dX13_whyFind_1 : decode cX13_whyFind 1 = .ok (.getfield 33, 3) := by decide +kernel
theorem dX13_whyFind_4 : decode cX13_whyFind 4 = .ok (.bipush 85, 2) := by decide +kernel
theorem dX13_whyFind_6 : decode cX13_whyFind 6 = .ok (.iload_n 2, 1) := by decide +kernel
theorem dX13_whyFind_7 : decode cX13_whyFind 7 = .ok (.iadd, 1) := by decide +kernel
theorem dX13_whyFind_8 : decode cX13_whyFind 8 = .ok (.iaload, 1) := by decide +kernel
theorem dX13_whyFind_9 : decode cX13_whyFind 9 = .ok (.iconst 2, 1) := by decide +kernel
theorem dX13_whyFind_10 : decode cX13_whyFind 10 = .ok (.if_icmp .eq 7, 3) := by decide +kernel
theorem dX13_whyFind_13 : decode cX13_whyFind 13 = .ok (.iconst 1, 1) := by decide +kernel
theorem dX13_whyFind_14 : decode cX13_whyFind 14 = .ok (.goto 34, 3) := by decide +kernel
theorem dX13_whyFind_17 : decode cX13_whyFind 17 = .ok (.aload_n 0, 1) := by decide +kernel
theorem dX13_whyFind_18 : decode cX13_whyFind 18 = .ok (.iload_n 1, 1) := by decide +kernel
theorem dX13_whyFind_19 : decode cX13_whyFind 19 = .ok (.aload_n 0, 1) := by decide +kernel
theorem dX13_whyFind_20 : decode cX13_whyFind 20 = .ok (.getfield 33, 3) := by decide +kernel
theorem dX13_whyFind_23 : decode cX13_whyFind 23 = .ok (.bipush 99, 2) := by decide +kernel
theorem dX13_whyFind_25 : decode cX13_whyFind 25 = .ok (.iload_n 2, 1) := by decide +kernel
theorem dX13_whyFind_26 : decode cX13_whyFind 26 = .ok (.iadd, 1) := by decide +kernel
theorem dX13_whyFind_27 : decode cX13_whyFind 27 = .ok (.iaload, 1) := by decide +kernel
theorem dX13_whyFind_28 : decode cX13_whyFind 28 = .ok (.aload_n 0, 1) := by decide +kernel
theorem dX13_whyFind_29 : decode cX13_whyFind 29 = .ok (.getfield 33, 3) := by decide +kernel
theorem dX13_whyFind_32 : decode cX13_whyFind 32 = .ok (.bipush 106, 2) := by decide +kernel
theorem dX13_whyFind_34 : decode cX13_whyFind 34 = .ok (.iload_n 2, 1) := by decide +kernel
theorem dX13_whyFind_35 : decode cX13_whyFind 35 = .ok (.iadd, 1) := by decide +kernel
theorem dX13_whyFind_36 : decode cX13_whyFind 36 = .ok (.iaload, 1) := by decide +kernel
theorem dX13_whyFind_37 : decode cX13_whyFind 37 = .ok (.invokevirtual 266, 3) := by decide +kernel
theorem dX13_whyFind_40 : decode cX13_whyFind 40 = .ok (.ifCond .le 7, 3) := by decide +kernel
theorem dX13_whyFind_43 : decode cX13_whyFind 43 = .ok (.iconst 2, 1) := by decide +kernel
theorem dX13_whyFind_44 : decode cX13_whyFind 44 = .ok (.goto 4, 3) := by decide +kernel
theorem dX13_whyFind_47 : decode cX13_whyFind 47 = .ok (.iconst 0, 1) := by decide +kernel
theorem dX13_whyFind_48 : decode cX13_whyFind 48 = .ok (.ireturn, 1) := by decide +kernel
set_option maxRecDepth 100000 in
set_option maxHeartbeats 4000000 in
theorem kX13_whyFind {E : KE} {l : Launch} (hE : mx_ok E) (i1 : Int32) (i2 : Int32) (hT : E.1 = mt) (M : MM) {q : Int32} (hf : fX13_whyFind i1 i2 M = some q) : mx_Met E l yX13_whyFind cX13_whyFind 3 (some .int) 2 [.ref (E.2.1.2.1 0), .int i1, .int i2] M (some (.int q)) M := by
  refine mx_enter hE (by decide) (Nat.le_of_ble_eq_true rfl) ?_
  intro p e s m below meth c C hM hn ls hl
  have hx := C.1.1
  have hb := C.1.2.1
  have hown := C.1.2.2.2.1
  have hts := C.1.2.2.2.2
  have hl : lv_has ls 3 [(0, .ref (E.2.1.2.1 0)), (1, .int i1), (2, .int i2)] := hl
  rw [fX13_whyFind] at hf
  refine lv_aload_n hx hb dX13_whyFind_0 rfl (lv_at hl 0 rfl) ?_
  refine g13_33 C hT hM dX13_whyFind_1 ?_
  refine lv_bipush (v := (85 : Int32)) hx hb dX13_whyFind_4 (by decide) ?_
  refine lv_iload_n hx hb dX13_whyFind_6 rfl (lv_at hl 2 rfl) ?_
  refine lv_iadd hx hb dX13_whyFind_7 ?_
  obtain ⟨hg8, hf⟩ := mx_gd hf
  refine mx_iald C hM (mt_2 hT) (mx_in_vp hg8) dX13_whyFind_8 ?_
  refine lv_iconst (v := (2 : Int32)) hx hb dX13_whyFind_9 (by decide) ?_
  refine lv_icmp_eq (tgt := 17) hx hb dX13_whyFind_10 (by decide) (fun hc10 => ?_) (fun hc10 => ?_)
  · replace hf := mx_ift hc10 hf
    refine lv_aload_n hx hb dX13_whyFind_17 rfl (lv_at hl 0 rfl) ?_
    refine lv_iload_n hx hb dX13_whyFind_18 rfl (lv_at hl 1 rfl) ?_
    refine lv_aload_n hx hb dX13_whyFind_19 rfl (lv_at hl 0 rfl) ?_
    refine g13_33 C hT hM dX13_whyFind_20 ?_
    refine lv_bipush (v := (99 : Int32)) hx hb dX13_whyFind_23 (by decide) ?_
    refine lv_iload_n hx hb dX13_whyFind_25 rfl (lv_at hl 2 rfl) ?_
    refine lv_iadd hx hb dX13_whyFind_26 ?_
    obtain ⟨hg27, hf⟩ := mx_gd hf
    refine mx_iald C hM (mt_2 hT) (mx_in_vp hg27) dX13_whyFind_27 ?_
    refine lv_aload_n hx hb dX13_whyFind_28 rfl (lv_at hl 0 rfl) ?_
    refine g13_33 C hT hM dX13_whyFind_29 ?_
    refine lv_bipush (v := (106 : Int32)) hx hb dX13_whyFind_32 (by decide) ?_
    refine lv_iload_n hx hb dX13_whyFind_34 rfl (lv_at hl 2 rfl) ?_
    refine lv_iadd hx hb dX13_whyFind_35 ?_
    obtain ⟨hg36, hf⟩ := mx_gd hf
    refine mx_iald C hM (mt_2 hT) (mx_in_vp hg36) dX13_whyFind_36 ?_
    obtain ⟨q37, hq37, hf⟩ := mx_bd hf
    refine mx_callV C hM hl.1 yo_X13_farBy (h' := 1) (by decide) qw_1702 qw_1704 qs_140 (ci := 13) (q := (RX13, TX13, 52)) rfl (mt_0 hT) (As := [.int i1, .int (M.1 2 ((99 : Int32) + i2).toNatClampNeg), .int (M.1 2 ((106 : Int32) + i2).toNatClampNeg)]) (rest := []) (st1 := [.int q37]) (kX13_farBy C.2.2.2.1 i1 (M.1 2 ((99 : Int32) + i2).toNatClampNeg) (M.1 2 ((106 : Int32) + i2).toNatClampNeg) hT M hq37) rfl rfl rfl (Nat.le_of_ble_eq_true rfl) dX13_whyFind_37 (fun H locs hM => ?_)
    refine lv_if_le (tgt := 47) hx hb dX13_whyFind_40 (by decide) (fun hc40 => ?_) (fun hc40 => ?_)
    · replace hf := mx_ift hc40 hf
      refine lv_iconst (v := (0 : Int32)) hx hb dX13_whyFind_47 (by decide) ?_
      exact mx_iretR C hM hf dX13_whyFind_48
    · replace hf := mx_iff hc40 hf
      refine lv_iconst (v := (2 : Int32)) hx hb dX13_whyFind_43 (by decide) ?_
      refine lv_goto (tgt := 48) hx hb dX13_whyFind_44 (by decide) ?_
      exact mx_iretR C hM hf dX13_whyFind_48
  · replace hf := mx_iff hc10 hf
    refine lv_iconst (v := (1 : Int32)) hx hb dX13_whyFind_13 (by decide) ?_
    refine lv_goto (tgt := 48) hx hb dX13_whyFind_14 (by decide) ?_
    exact mx_iretR C hM hf dX13_whyFind_48
theorem dX13_finds_0 : decode cX13_finds 0 = .ok (.aload_n 0, 1) := by decide +kernel
theorem dX13_finds_1 : decode cX13_finds 1 = .ok (.getfield 33, 3) := by decide +kernel
theorem dX13_finds_4 : decode cX13_finds 4 = .ok (.bipush 85, 2) := by decide +kernel
theorem dX13_finds_6 : decode cX13_finds 6 = .ok (.iload_n 2, 1) := by decide +kernel
theorem dX13_finds_7 : decode cX13_finds 7 = .ok (.iadd, 1) := by decide +kernel
theorem dX13_finds_8 : decode cX13_finds 8 = .ok (.iconst 0, 1) := by decide +kernel
theorem dX13_finds_9 : decode cX13_finds 9 = .ok (.iastore, 1) := by decide +kernel
theorem dX13_finds_10 : decode cX13_finds 10 = .ok (.aload_n 0, 1) := by decide +kernel
theorem dX13_finds_11 : decode cX13_finds 11 = .ok (.getfield 33, 3) := by decide +kernel
theorem dX13_finds_14 : decode cX13_finds 14 = .ok (.bipush 78, 2) := by decide +kernel
theorem dX13_finds_16 : decode cX13_finds 16 = .ok (.iload_n 2, 1) := by decide +kernel
theorem dX13_finds_17 : decode cX13_finds 17 = .ok (.iadd, 1) := by decide +kernel
theorem dX13_finds_18 : decode cX13_finds 18 = .ok (.iload_n 1, 1) := by decide +kernel
theorem dX13_finds_19 : decode cX13_finds 19 = .ok (.iastore, 1) := by decide +kernel
theorem dX13_finds_20 : decode cX13_finds 20 = .ok (.aload_n 0, 1) := by decide +kernel
theorem dX13_finds_21 : decode cX13_finds 21 = .ok (.getfield 33, 3) := by decide +kernel
theorem dX13_finds_24 : decode cX13_finds 24 = .ok (.bipush 99, 2) := by decide +kernel
theorem dX13_finds_26 : decode cX13_finds 26 = .ok (.iload_n 2, 1) := by decide +kernel
theorem dX13_finds_27 : decode cX13_finds 27 = .ok (.iadd, 1) := by decide +kernel
theorem dX13_finds_28 : decode cX13_finds 28 = .ok (.iconst 0, 1) := by decide +kernel
theorem dX13_finds_29 : decode cX13_finds 29 = .ok (.iastore, 1) := by decide +kernel
theorem dX13_finds_30 : decode cX13_finds 30 = .ok (.aload_n 0, 1) := by decide +kernel
theorem dX13_finds_31 : decode cX13_finds 31 = .ok (.getfield 33, 3) := by decide +kernel
theorem dX13_finds_34 : decode cX13_finds 34 = .ok (.bipush 106, 2) := by decide +kernel
theorem dX13_finds_36 : decode cX13_finds 36 = .ok (.iload_n 2, 1) := by decide +kernel
theorem dX13_finds_37 : decode cX13_finds 37 = .ok (.iadd, 1) := by decide +kernel
theorem dX13_finds_38 : decode cX13_finds 38 = .ok (.iconst 0, 1) := by decide +kernel
theorem dX13_finds_39 : decode cX13_finds 39 = .ok (.iastore, 1) := by decide +kernel
theorem dX13_finds_40 : decode cX13_finds 40 = .ok (.return_, 1) := by decide +kernel
set_option maxRecDepth 100000 in
set_option maxHeartbeats 4000000 in
theorem kX13_finds {E : KE} {l : Launch} (hE : mx_ok E) (i1 : Int32) (i2 : Int32) (hT : E.1 = mt) (M : MM) {q : MM} (hf : fX13_finds i1 i2 M = some q) : mx_Met E l yX13_finds cX13_finds 3 none 0 [.ref (E.2.1.2.1 0), .int i1, .int i2] M none q := by
  refine mx_enter hE (by decide) (Nat.le_of_ble_eq_true rfl) ?_
  intro p e s m below meth c C hM hn ls hl
  have hx := C.1.1
  have hb := C.1.2.1
  have hown := C.1.2.2.2.1
  have hts := C.1.2.2.2.2
  have hl : lv_has ls 3 [(0, .ref (E.2.1.2.1 0)), (1, .int i1), (2, .int i2)] := hl
  rw [fX13_finds] at hf
  refine lv_aload_n hx hb dX13_finds_0 rfl (lv_at hl 0 rfl) ?_
  refine g13_33 C hT hM dX13_finds_1 ?_
  refine lv_bipush (v := (85 : Int32)) hx hb dX13_finds_4 (by decide) ?_
  refine lv_iload_n hx hb dX13_finds_6 rfl (lv_at hl 2 rfl) ?_
  refine lv_iadd hx hb dX13_finds_7 ?_
  refine lv_iconst (v := (0 : Int32)) hx hb dX13_finds_8 (by decide) ?_
  obtain ⟨hg9, hf⟩ := mx_gd hf
  refine mx_iast C hM (mt_2 hT) (mx_in_vp hg9) dX13_finds_9 (fun H locs hM => ?_)
  refine lv_aload_n hx hb dX13_finds_10 rfl (lv_at hl 0 rfl) ?_
  refine g13_33 C hT hM dX13_finds_11 ?_
  refine lv_bipush (v := (78 : Int32)) hx hb dX13_finds_14 (by decide) ?_
  refine lv_iload_n hx hb dX13_finds_16 rfl (lv_at hl 2 rfl) ?_
  refine lv_iadd hx hb dX13_finds_17 ?_
  refine lv_iload_n hx hb dX13_finds_18 rfl (lv_at hl 1 rfl) ?_
  obtain ⟨hg19, hf⟩ := mx_gd hf
  refine mx_iast C hM (mt_2 hT) (mx_in_vp hg19) dX13_finds_19 (fun H locs hM => ?_)
  refine lv_aload_n hx hb dX13_finds_20 rfl (lv_at hl 0 rfl) ?_
  refine g13_33 C hT hM dX13_finds_21 ?_
  refine lv_bipush (v := (99 : Int32)) hx hb dX13_finds_24 (by decide) ?_
  refine lv_iload_n hx hb dX13_finds_26 rfl (lv_at hl 2 rfl) ?_
  refine lv_iadd hx hb dX13_finds_27 ?_
  refine lv_iconst (v := (0 : Int32)) hx hb dX13_finds_28 (by decide) ?_
  obtain ⟨hg29, hf⟩ := mx_gd hf
  refine mx_iast C hM (mt_2 hT) (mx_in_vp hg29) dX13_finds_29 (fun H locs hM => ?_)
  refine lv_aload_n hx hb dX13_finds_30 rfl (lv_at hl 0 rfl) ?_
  refine g13_33 C hT hM dX13_finds_31 ?_
  refine lv_bipush (v := (106 : Int32)) hx hb dX13_finds_34 (by decide) ?_
  refine lv_iload_n hx hb dX13_finds_36 rfl (lv_at hl 2 rfl) ?_
  refine lv_iadd hx hb dX13_finds_37 ?_
  refine lv_iconst (v := (0 : Int32)) hx hb dX13_finds_38 (by decide) ?_
  obtain ⟨hg39, hf⟩ := mx_gd hf
  refine mx_iast C hM (mt_2 hT) (mx_in_vp hg39) dX13_finds_39 (fun H locs hM => ?_)
  exact mx_vret C hM hf dX13_finds_40
theorem dX13_day_0 : decode cX13_day 0 = .ok (.iconst 0, 1) := by decide +kernel
theorem dX13_day_1 : decode cX13_day 1 = .ok (.istore_n 1, 1) := by decide +kernel
theorem dX13_day_2 : decode cX13_day 2 = .ok (.iload_n 1, 1) := by decide +kernel
theorem dX13_day_3 : decode cX13_day 3 = .ok (.aload_n 0, 1) := by decide +kernel
theorem dX13_day_4 : decode cX13_day 4 = .ok (.getfield 33, 3) := by decide +kernel
theorem dX13_day_7 : decode cX13_day 7 = .ok (.iconst 1, 1) := by decide +kernel
theorem dX13_day_8 : decode cX13_day 8 = .ok (.iaload, 1) := by decide +kernel
theorem dX13_day_9 : decode cX13_day 9 = .ok (.if_icmp .ge 59, 3) := by decide +kernel
theorem dX13_day_12 : decode cX13_day 12 = .ok (.aload_n 0, 1) := by decide +kernel
theorem dX13_day_13 : decode cX13_day 13 = .ok (.getfield 33, 3) := by decide +kernel
theorem dX13_day_16 : decode cX13_day 16 = .ok (.bipush 47, 2) := by decide +kernel
theorem dX13_day_18 : decode cX13_day 18 = .ok (.iload_n 1, 1) := by decide +kernel
theorem dX13_day_19 : decode cX13_day 19 = .ok (.iadd, 1) := by decide +kernel
theorem dX13_day_20 : decode cX13_day 20 = .ok (.iaload, 1) := by decide +kernel
theorem dX13_day_21 : decode cX13_day 21 = .ok (.aload_n 0, 1) := by decide +kernel
theorem dX13_day_22 : decode cX13_day 22 = .ok (.getfield 33, 3) := by decide +kernel
theorem dX13_day_25 : decode cX13_day 25 = .ok (.bipush 54, 2) := by decide +kernel
theorem dX13_day_27 : decode cX13_day 27 = .ok (.iaload, 1) := by decide +kernel
theorem dX13_day_28 : decode cX13_day 28 = .ok (.if_icmp .ne 34, 3) := by decide +kernel
theorem dX13_day_31 : decode cX13_day 31 = .ok (.aload_n 0, 1) := by decide +kernel
theorem dX13_day_32 : decode cX13_day 32 = .ok (.getfield 33, 3) := by decide +kernel
theorem dX13_day_35 : decode cX13_day 35 = .ok (.bipush 92, 2) := by decide +kernel
theorem dX13_day_37 : decode cX13_day 37 = .ok (.iload_n 1, 1) := by decide +kernel
theorem dX13_day_38 : decode cX13_day 38 = .ok (.iadd, 1) := by decide +kernel
theorem dX13_day_39 : decode cX13_day 39 = .ok (.aload_n 0, 1) := by decide +kernel
theorem dX13_day_40 : decode cX13_day 40 = .ok (.aload_n 0, 1) := by decide +kernel
theorem dX13_day_41 : decode cX13_day 41 = .ok (.getfield 33, 3) := by decide +kernel
theorem dX13_day_44 : decode cX13_day 44 = .ok (.bipush 33, 2) := by decide +kernel
theorem dX13_day_46 : decode cX13_day 46 = .ok (.iload_n 1, 1) := by decide +kernel
theorem dX13_day_47 : decode cX13_day 47 = .ok (.iadd, 1) := by decide +kernel
theorem dX13_day_48 : decode cX13_day 48 = .ok (.iaload, 1) := by decide +kernel
theorem dX13_day_49 : decode cX13_day 49 = .ok (.iload_n 1, 1) := by decide +kernel
theorem dX13_day_50 : decode cX13_day 50 = .ok (.invokevirtual 301, 3) := by decide +kernel
theorem dX13_day_53 : decode cX13_day 53 = .ok (.ifCond .eq 7, 3) := by decide +kernel
theorem dX13_day_56 : decode cX13_day 56 = .ok (.iconst 1, 1) := by decide +kernel
theorem dX13_day_57 : decode cX13_day 57 = .ok (.goto 4, 3) := by decide +kernel
theorem dX13_day_60 : decode cX13_day 60 = .ok (.iconst 2, 1) := by decide +kernel
theorem dX13_day_61 : decode cX13_day 61 = .ok (.iastore, 1) := by decide +kernel
theorem dX13_day_62 : decode cX13_day 62 = .ok (.iinc 1 1, 3) := by decide +kernel
theorem dX13_day_65 : decode cX13_day 65 = .ok (.goto (-63), 3) := by decide +kernel
theorem dX13_day_68 : decode cX13_day 68 = .ok (.iconst 0, 1) := by decide +kernel
theorem dX13_day_69 : decode cX13_day 69 = .ok (.istore_n 1, 1) := by decide +kernel
theorem dX13_day_70 : decode cX13_day 70 = .ok (.iload_n 1, 1) := by decide +kernel
theorem dX13_day_71 : decode cX13_day 71 = .ok (.aload_n 0, 1) := by decide +kernel
theorem dX13_day_72 : decode cX13_day 72 = .ok (.getfield 33, 3) := by decide +kernel
theorem dX13_day_75 : decode cX13_day 75 = .ok (.iconst 0, 1) := by decide +kernel
theorem dX13_day_76 : decode cX13_day 76 = .ok (.iaload, 1) := by decide +kernel
theorem dX13_day_77 : decode cX13_day 77 = .ok (.if_icmp .ge 125, 3) := by decide +kernel
theorem dX13_day_80 : decode cX13_day 80 = .ok (.aload_n 0, 1) := by decide +kernel
theorem dX13_day_81 : decode cX13_day 81 = .ok (.getfield 33, 3) := by decide +kernel
theorem dX13_day_84 : decode cX13_day 84 = .ok (.bipush 71, 2) := by decide +kernel
theorem dX13_day_86 : decode cX13_day 86 = .ok (.iload_n 1, 1) := by decide +kernel
theorem dX13_day_87 : decode cX13_day 87 = .ok (.iadd, 1) := by decide +kernel
theorem dX13_day_88 : decode cX13_day 88 = .ok (.aload_n 0, 1) := by decide +kernel
theorem dX13_day_89 : decode cX13_day 89 = .ok (.getfield 33, 3) := by decide +kernel
theorem dX13_day_92 : decode cX13_day 92 = .ok (.iconst 3, 1) := by decide +kernel
theorem dX13_day_93 : decode cX13_day 93 = .ok (.iaload, 1) := by decide +kernel
theorem dX13_day_94 : decode cX13_day 94 = .ok (.iastore, 1) := by decide +kernel
theorem dX13_day_95 : decode cX13_day 95 = .ok (.aload_n 0, 1) := by decide +kernel
theorem dX13_day_96 : decode cX13_day 96 = .ok (.iload_n 1, 1) := by decide +kernel
theorem dX13_day_97 : decode cX13_day 97 = .ok (.invokevirtual 280, 3) := by decide +kernel
theorem dX13_day_100 : decode cX13_day 100 = .ok (.istore_n 2, 1) := by decide +kernel
theorem dX13_day_101 : decode cX13_day 101 = .ok (.iload_n 2, 1) := by decide +kernel
theorem dX13_day_102 : decode cX13_day 102 = .ok (.invokestatic 304, 3) := by decide +kernel
theorem dX13_day_105 : decode cX13_day 105 = .ok (.aload_n 0, 1) := by decide +kernel
theorem dX13_day_106 : decode cX13_day 106 = .ok (.getfield 33, 3) := by decide +kernel
theorem dX13_day_109 : decode cX13_day 109 = .ok (.iconst 4, 1) := by decide +kernel
theorem dX13_day_110 : decode cX13_day 110 = .ok (.iaload, 1) := by decide +kernel
theorem dX13_day_111 : decode cX13_day 111 = .ok (.if_icmp .ge 6, 3) := by decide +kernel
theorem dX13_day_114 : decode cX13_day 114 = .ok (.goto 82, 3) := by decide +kernel
theorem dX13_day_117 : decode cX13_day 117 = .ok (.aload_n 0, 1) := by decide +kernel
theorem dX13_day_118 : decode cX13_day 118 = .ok (.getfield 33, 3) := by decide +kernel
theorem dX13_day_121 : decode cX13_day 121 = .ok (.iconst 1, 1) := by decide +kernel
theorem dX13_day_122 : decode cX13_day 122 = .ok (.iaload, 1) := by decide +kernel
theorem dX13_day_123 : decode cX13_day 123 = .ok (.iconst 1, 1) := by decide +kernel
theorem dX13_day_124 : decode cX13_day 124 = .ok (.isub, 1) := by decide +kernel
theorem dX13_day_125 : decode cX13_day 125 = .ok (.istore_n 3, 1) := by decide +kernel
theorem dX13_day_126 : decode cX13_day 126 = .ok (.iload_n 2, 1) := by decide +kernel
theorem dX13_day_127 : decode cX13_day 127 = .ok (.iload_n 3, 1) := by decide +kernel
theorem dX13_day_128 : decode cX13_day 128 = .ok (.invokestatic 218, 3) := by decide +kernel
theorem dX13_day_131 : decode cX13_day 131 = .ok (.ifCond .ne 9, 3) := by decide +kernel
theorem dX13_day_134 : decode cX13_day 134 = .ok (.iinc 3 (-1), 3) := by decide +kernel
theorem dX13_day_137 : decode cX13_day 137 = .ok (.goto (-11), 3) := by decide +kernel
theorem dX13_day_140 : decode cX13_day 140 = .ok (.aload_n 0, 1) := by decide +kernel
theorem dX13_day_141 : decode cX13_day 141 = .ok (.getfield 33, 3) := by decide +kernel
theorem dX13_day_144 : decode cX13_day 144 = .ok (.bipush 85, 2) := by decide +kernel
theorem dX13_day_146 : decode cX13_day 146 = .ok (.iload_n 3, 1) := by decide +kernel
theorem dX13_day_147 : decode cX13_day 147 = .ok (.iadd, 1) := by decide +kernel
theorem dX13_day_148 : decode cX13_day 148 = .ok (.iconst 2, 1) := by decide +kernel
theorem dX13_day_149 : decode cX13_day 149 = .ok (.iastore, 1) := by decide +kernel
theorem dX13_day_150 : decode cX13_day 150 = .ok (.aload_n 0, 1) := by decide +kernel
theorem dX13_day_151 : decode cX13_day 151 = .ok (.getfield 33, 3) := by decide +kernel
theorem dX13_day_154 : decode cX13_day 154 = .ok (.bipush 78, 2) := by decide +kernel
theorem dX13_day_156 : decode cX13_day 156 = .ok (.iload_n 3, 1) := by decide +kernel
theorem dX13_day_157 : decode cX13_day 157 = .ok (.iadd, 1) := by decide +kernel
theorem dX13_day_158 : decode cX13_day 158 = .ok (.iconst 0, 1) := by decide +kernel
theorem dX13_day_159 : decode cX13_day 159 = .ok (.iastore, 1) := by decide +kernel
theorem dX13_day_160 : decode cX13_day 160 = .ok (.aload_n 0, 1) := by decide +kernel
theorem dX13_day_161 : decode cX13_day 161 = .ok (.getfield 33, 3) := by decide +kernel
theorem dX13_day_164 : decode cX13_day 164 = .ok (.bipush 99, 2) := by decide +kernel
theorem dX13_day_166 : decode cX13_day 166 = .ok (.iload_n 3, 1) := by decide +kernel
theorem dX13_day_167 : decode cX13_day 167 = .ok (.iadd, 1) := by decide +kernel
theorem dX13_day_168 : decode cX13_day 168 = .ok (.aload_n 0, 1) := by decide +kernel
theorem dX13_day_169 : decode cX13_day 169 = .ok (.getfield 33, 3) := by decide +kernel
theorem dX13_day_172 : decode cX13_day 172 = .ok (.bipush 57, 2) := by decide +kernel
theorem dX13_day_174 : decode cX13_day 174 = .ok (.iload_n 1, 1) := by decide +kernel
theorem dX13_day_175 : decode cX13_day 175 = .ok (.iadd, 1) := by decide +kernel
theorem dX13_day_176 : decode cX13_day 176 = .ok (.iaload, 1) := by decide +kernel
theorem dX13_day_177 : decode cX13_day 177 = .ok (.iastore, 1) := by decide +kernel
theorem dX13_day_178 : decode cX13_day 178 = .ok (.aload_n 0, 1) := by decide +kernel
theorem dX13_day_179 : decode cX13_day 179 = .ok (.getfield 33, 3) := by decide +kernel
theorem dX13_day_182 : decode cX13_day 182 = .ok (.bipush 106, 2) := by decide +kernel
theorem dX13_day_184 : decode cX13_day 184 = .ok (.iload_n 3, 1) := by decide +kernel
theorem dX13_day_185 : decode cX13_day 185 = .ok (.iadd, 1) := by decide +kernel
theorem dX13_day_186 : decode cX13_day 186 = .ok (.aload_n 0, 1) := by decide +kernel
theorem dX13_day_187 : decode cX13_day 187 = .ok (.getfield 33, 3) := by decide +kernel
theorem dX13_day_190 : decode cX13_day 190 = .ok (.bipush 64, 2) := by decide +kernel
theorem dX13_day_192 : decode cX13_day 192 = .ok (.iload_n 1, 1) := by decide +kernel
theorem dX13_day_193 : decode cX13_day 193 = .ok (.iadd, 1) := by decide +kernel
theorem dX13_day_194 : decode cX13_day 194 = .ok (.iaload, 1) := by decide +kernel
theorem dX13_day_195 : decode cX13_day 195 = .ok (.iastore, 1) := by decide +kernel
theorem dX13_day_196 : decode cX13_day 196 = .ok (.iinc 1 1, 3) := by decide +kernel
theorem dX13_day_199 : decode cX13_day 199 = .ok (.goto (-129), 3) := by decide +kernel
theorem dX13_day_202 : decode cX13_day 202 = .ok (.aload_n 0, 1) := by decide +kernel
theorem dX13_day_203 : decode cX13_day 203 = .ok (.getfield 33, 3) := by decide +kernel
theorem dX13_day_206 : decode cX13_day 206 = .ok (.bipush 54, 2) := by decide +kernel
theorem dX13_day_208 : decode cX13_day 208 = .ok (.dup2, 1) := by decide +kernel
theorem dX13_day_209 : decode cX13_day 209 = .ok (.iaload, 1) := by decide +kernel
theorem dX13_day_210 : decode cX13_day 210 = .ok (.iconst 1, 1) := by decide +kernel
theorem dX13_day_211 : decode cX13_day 211 = .ok (.iadd, 1) := by decide +kernel
theorem dX13_day_212 : decode cX13_day 212 = .ok (.iastore, 1) := by decide +kernel
theorem dX13_day_213 : decode cX13_day 213 = .ok (.return_, 1) := by decide +kernel
set_option maxRecDepth 100000 in
set_option maxHeartbeats 4000000 in
theorem wfX13_day_126 {E : KE} {p : Program} {l : Launch} {e : Env} {s : State} {m : MethodId} {args : Array Value} {below : List Frame} {meth : Method} {c : Code} {q : MM} (C : mx_C E p m c cX13_day 4 s args RX13 meth none)  (hT : E.1 = mt) (i2 : Int32) (k70 : Int32 → MM → Option MM) (hk70 : ∀ (i1 : Int32) (M : MM) (H : Heap) (locs : List Loc) (ls : Array Slot), k70 i1 M = some q → mx_H E s M H locs → lv_has ls 4 [(0, .ref (E.2.1.2.1 0)), (1, .int i1)] → W p l e (mx_rm 2) s m args below meth c H locs 0 0 (mx_Z E below args s none q) (F0 m 70 ls [])) : ∀ (n : Nat) (i1 : Int32) (i3 : Int32) (M : MM) (H : Heap) (locs : List Loc) (ls : Array Slot), fX13_day_126 i2 k70 n i1 i3 M = some q → mx_H E s M H locs → lv_has ls 4 [(0, .ref (E.2.1.2.1 0)), (1, .int i1), (2, .int i2), (3, .int i3)] → W p l e (mx_rm 2) s m args below meth c H locs 0 0 (mx_Z E below args s none q) (F0 m 126 ls []) := by
  have hx := C.1.1
  have hb := C.1.2.1
  have hown := C.1.2.2.2.1
  have hts := C.1.2.2.2.2
  intro n
  induction n with
  | zero =>
    intro i1 i3 M H locs ls hf hM hl
    rw [fX13_day_126] at hf
    cases hf
  | succ n ih =>
    intro i1 i3 M H locs ls hf hM hl
    rw [fX13_day_126] at hf
    refine lv_iload_n hx hb dX13_day_126 rfl (lv_at hl 2 rfl) ?_
    refine lv_iload_n hx hb dX13_day_127 rfl (lv_at hl 3 rfl) ?_
    obtain ⟨q128, hq128, hf⟩ := mx_bd hf
    refine mx_callS C hM hl.1 yo_X13_bitOf (h' := 0) (by decide) qw_1627 qw_1628 (As := [.int i2, .int i3]) (rest := []) (st1 := [.int (mx_b q128)]) (kX13_bitOf C.2.2.2.1 i2 i3 hT M hq128) rfl rfl rfl (Nat.le_of_ble_eq_true rfl) dX13_day_128 (fun H locs hM => ?_)
    refine lv_if_ne (tgt := 140) hx hb dX13_day_131 (by decide) (fun hc131 => ?_) (fun hc131 => ?_)
    · replace hf := mx_iff hc131 hf
      refine lv_aload_n hx hb dX13_day_140 rfl (lv_at hl 0 rfl) ?_
      refine g13_33 C hT hM dX13_day_141 ?_
      refine lv_bipush (v := (85 : Int32)) hx hb dX13_day_144 (by decide) ?_
      refine lv_iload_n hx hb dX13_day_146 rfl (lv_at hl 3 rfl) ?_
      refine lv_iadd hx hb dX13_day_147 ?_
      refine lv_iconst (v := (2 : Int32)) hx hb dX13_day_148 (by decide) ?_
      obtain ⟨hg149, hf⟩ := mx_gd hf
      refine mx_iast C hM (mt_2 hT) (mx_in_vp hg149) dX13_day_149 (fun H locs hM => ?_)
      refine lv_aload_n hx hb dX13_day_150 rfl (lv_at hl 0 rfl) ?_
      refine g13_33 C hT hM dX13_day_151 ?_
      refine lv_bipush (v := (78 : Int32)) hx hb dX13_day_154 (by decide) ?_
      refine lv_iload_n hx hb dX13_day_156 rfl (lv_at hl 3 rfl) ?_
      refine lv_iadd hx hb dX13_day_157 ?_
      refine lv_iconst (v := (0 : Int32)) hx hb dX13_day_158 (by decide) ?_
      obtain ⟨hg159, hf⟩ := mx_gd hf
      refine mx_iast C hM (mt_2 hT) (mx_in_vp hg159) dX13_day_159 (fun H locs hM => ?_)
      refine lv_aload_n hx hb dX13_day_160 rfl (lv_at hl 0 rfl) ?_
      refine g13_33 C hT hM dX13_day_161 ?_
      refine lv_bipush (v := (99 : Int32)) hx hb dX13_day_164 (by decide) ?_
      refine lv_iload_n hx hb dX13_day_166 rfl (lv_at hl 3 rfl) ?_
      refine lv_iadd hx hb dX13_day_167 ?_
      refine lv_aload_n hx hb dX13_day_168 rfl (lv_at hl 0 rfl) ?_
      refine g13_33 C hT hM dX13_day_169 ?_
      refine lv_bipush (v := (57 : Int32)) hx hb dX13_day_172 (by decide) ?_
      refine lv_iload_n hx hb dX13_day_174 rfl (lv_at hl 1 rfl) ?_
      refine lv_iadd hx hb dX13_day_175 ?_
      obtain ⟨hg176, hf⟩ := mx_gd hf
      refine mx_iald C hM (mt_2 hT) (mx_in_vp hg176) dX13_day_176 ?_
      obtain ⟨hg177, hf⟩ := mx_gd hf
      refine mx_iast C hM (mt_2 hT) (mx_in_vp hg177) dX13_day_177 (fun H locs hM => ?_)
      refine lv_aload_n hx hb dX13_day_178 rfl (lv_at hl 0 rfl) ?_
      refine g13_33 C hT hM dX13_day_179 ?_
      refine lv_bipush (v := (106 : Int32)) hx hb dX13_day_182 (by decide) ?_
      refine lv_iload_n hx hb dX13_day_184 rfl (lv_at hl 3 rfl) ?_
      refine lv_iadd hx hb dX13_day_185 ?_
      refine lv_aload_n hx hb dX13_day_186 rfl (lv_at hl 0 rfl) ?_
      refine g13_33 C hT hM dX13_day_187 ?_
      refine lv_bipush (v := (64 : Int32)) hx hb dX13_day_190 (by decide) ?_
      refine lv_iload_n hx hb dX13_day_192 rfl (lv_at hl 1 rfl) ?_
      refine lv_iadd hx hb dX13_day_193 ?_
      obtain ⟨hg194, hf⟩ := mx_gd hf
      refine mx_iald C hM (mt_2 hT) (mx_in_vp hg194) dX13_day_194 ?_
      obtain ⟨hg195, hf⟩ := mx_gd hf
      refine mx_iast C hM (mt_2 hT) (mx_in_vp hg195) dX13_day_195 (fun H locs hM => ?_)
      refine lv_iinc (v := (i1 + (1 : Int32))) (lv' := [(1, .int (i1 + (1 : Int32))), (0, .ref (E.2.1.2.1 0)), (2, .int i2), (3, .int i3)]) hx hb dX13_day_196 hl (k := 1) rfl rfl (by decide) rfl (fun ls hl => ?_)
      refine lv_goto (tgt := 70) hx hb dX13_day_199 (by decide) ?_
      exact hk70 (i1 + (1 : Int32)) (mx_si (mx_si (mx_si (mx_si M 2 ((85 : Int32) + i3).toNatClampNeg (2 : Int32)) 2 ((78 : Int32) + i3).toNatClampNeg (0 : Int32)) 2 ((99 : Int32) + i3).toNatClampNeg ((mx_si (mx_si M 2 ((85 : Int32) + i3).toNatClampNeg (2 : Int32)) 2 ((78 : Int32) + i3).toNatClampNeg (0 : Int32)).1 2 ((57 : Int32) + i1).toNatClampNeg)) 2 ((106 : Int32) + i3).toNatClampNeg ((mx_si (mx_si (mx_si M 2 ((85 : Int32) + i3).toNatClampNeg (2 : Int32)) 2 ((78 : Int32) + i3).toNatClampNeg (0 : Int32)) 2 ((99 : Int32) + i3).toNatClampNeg ((mx_si (mx_si M 2 ((85 : Int32) + i3).toNatClampNeg (2 : Int32)) 2 ((78 : Int32) + i3).toNatClampNeg (0 : Int32)).1 2 ((57 : Int32) + i1).toNatClampNeg)).1 2 ((64 : Int32) + i1).toNatClampNeg)) _ _ _ hf hM (lv_sub hl [1, 0] rfl)
    · replace hf := mx_ift hc131 hf
      refine lv_iinc (v := (i3 + (-1 : Int32))) (lv' := [(3, .int (i3 + (-1 : Int32))), (0, .ref (E.2.1.2.1 0)), (1, .int i1), (2, .int i2)]) hx hb dX13_day_134 hl (k := 3) rfl rfl (by decide) rfl (fun ls hl => ?_)
      refine lv_goto (tgt := 126) hx hb dX13_day_137 (by decide) ?_
      exact ih i1 (i3 + (-1 : Int32)) M _ _ _ hf hM (lv_sub hl [1, 2, 3, 0] rfl)
set_option maxRecDepth 100000 in
set_option maxHeartbeats 4000000 in
theorem wfX13_day_70 {E : KE} {p : Program} {l : Launch} {e : Env} {s : State} {m : MethodId} {args : Array Value} {below : List Frame} {meth : Method} {c : Code} {q : MM} (C : mx_C E p m c cX13_day 4 s args RX13 meth none)  (hT : E.1 = mt)   : ∀ (n : Nat) (i1 : Int32) (M : MM) (H : Heap) (locs : List Loc) (ls : Array Slot), fX13_day_70 n i1 M = some q → mx_H E s M H locs → lv_has ls 4 [(0, .ref (E.2.1.2.1 0)), (1, .int i1)] → W p l e (mx_rm 2) s m args below meth c H locs 0 0 (mx_Z E below args s none q) (F0 m 70 ls []) := by
  have hx := C.1.1
  have hb := C.1.2.1
  have hown := C.1.2.2.2.1
  have hts := C.1.2.2.2.2
  intro n
  induction n with
  | zero =>
    intro i1 M H locs ls hf hM hl
    rw [fX13_day_70] at hf
    cases hf
  | succ n ih =>
    intro i1 M H locs ls hf hM hl
    rw [fX13_day_70] at hf
    refine lv_iload_n hx hb dX13_day_70 rfl (lv_at hl 1 rfl) ?_
    refine lv_aload_n hx hb dX13_day_71 rfl (lv_at hl 0 rfl) ?_
    refine g13_33 C hT hM dX13_day_72 ?_
    refine lv_iconst (v := (0 : Int32)) hx hb dX13_day_75 (by decide) ?_
    refine mx_ialdL C hM (mt_2 hT) (j := 0) (by decide) (mx_in_vp (by decide)) dX13_day_76 ?_
    refine lv_icmp_ge (tgt := 202) hx hb dX13_day_77 (by decide) (fun hc77 => ?_) (fun hc77 => ?_)
    · replace hf := mx_ift hc77 hf
      refine lv_aload_n hx hb dX13_day_202 rfl (lv_at hl 0 rfl) ?_
      refine g13_33 C hT hM dX13_day_203 ?_
      refine lv_bipush (v := (54 : Int32)) hx hb dX13_day_206 (by decide) ?_
      refine lv_dup2_11 hx hb dX13_day_208 rfl rfl ?_
      refine mx_ialdL C hM (mt_2 hT) (j := 54) (by decide) (mx_in_vp (by decide)) dX13_day_209 ?_
      refine lv_iconst (v := (1 : Int32)) hx hb dX13_day_210 (by decide) ?_
      refine lv_iadd hx hb dX13_day_211 ?_
      refine mx_iastL C hM (mt_2 hT) (j := 54) (by decide) (mx_in_vp (by decide)) dX13_day_212 (fun H locs hM => ?_)
      exact mx_vret C hM hf dX13_day_213
    · replace hf := mx_iff hc77 hf
      refine lv_aload_n hx hb dX13_day_80 rfl (lv_at hl 0 rfl) ?_
      refine g13_33 C hT hM dX13_day_81 ?_
      refine lv_bipush (v := (71 : Int32)) hx hb dX13_day_84 (by decide) ?_
      refine lv_iload_n hx hb dX13_day_86 rfl (lv_at hl 1 rfl) ?_
      refine lv_iadd hx hb dX13_day_87 ?_
      refine lv_aload_n hx hb dX13_day_88 rfl (lv_at hl 0 rfl) ?_
      refine g13_33 C hT hM dX13_day_89 ?_
      refine lv_iconst (v := (3 : Int32)) hx hb dX13_day_92 (by decide) ?_
      refine mx_ialdL C hM (mt_2 hT) (j := 3) (by decide) (mx_in_vp (by decide)) dX13_day_93 ?_
      obtain ⟨hg94, hf⟩ := mx_gd hf
      refine mx_iast C hM (mt_2 hT) (mx_in_vp hg94) dX13_day_94 (fun H locs hM => ?_)
      refine lv_aload_n hx hb dX13_day_95 rfl (lv_at hl 0 rfl) ?_
      refine lv_iload_n hx hb dX13_day_96 rfl (lv_at hl 1 rfl) ?_
      obtain ⟨q97, hq97, hf⟩ := mx_bd hf
      refine mx_callV C hM hl.1 yo_X13_keptBy (h' := 1) (by decide) qw_1654 qw_1656 qs_132 (ci := 13) (q := (RX13, TX13, 52)) rfl (mt_0 hT) (As := [.int i1]) (rest := []) (st1 := [.int q97]) (kX13_keptBy C.2.2.2.1 i1 hT (mx_si M 2 ((71 : Int32) + i1).toNatClampNeg (M.1 2 3)) hq97) rfl rfl rfl (Nat.le_of_ble_eq_true rfl) dX13_day_97 (fun H locs hM => ?_)
      refine lv_istore_n (lv' := [(2, .int q97), (0, .ref (E.2.1.2.1 0)), (1, .int i1)]) hx hb dX13_day_100 rfl hl (by decide) rfl (fun ls hl => ?_)
      refine lv_iload_n hx hb dX13_day_101 rfl (lv_at hl 0 rfl) ?_
      obtain ⟨q102, hq102, hf⟩ := mx_bd hf
      refine mx_callS C hM hl.1 yo_X13_bits (h' := 0) (by decide) qw_1777 qw_1778 (As := [.int q97]) (rest := []) (st1 := [.int q102]) (kX13_bits C.2.2.2.1 q97 hT (mx_si M 2 ((71 : Int32) + i1).toNatClampNeg (M.1 2 3)) hq102) rfl rfl rfl (Nat.le_of_ble_eq_true rfl) dX13_day_102 (fun H locs hM => ?_)
      refine lv_aload_n hx hb dX13_day_105 rfl (lv_at hl 1 rfl) ?_
      refine g13_33 C hT hM dX13_day_106 ?_
      refine lv_iconst (v := (4 : Int32)) hx hb dX13_day_109 (by decide) ?_
      refine mx_ialdL C hM (mt_2 hT) (j := 4) (by decide) (mx_in_vp (by decide)) dX13_day_110 ?_
      refine lv_icmp_ge (tgt := 117) hx hb dX13_day_111 (by decide) (fun hc111 => ?_) (fun hc111 => ?_)
      · replace hf := mx_ift hc111 hf
        refine lv_aload_n hx hb dX13_day_117 rfl (lv_at hl 1 rfl) ?_
        refine g13_33 C hT hM dX13_day_118 ?_
        refine lv_iconst (v := (1 : Int32)) hx hb dX13_day_121 (by decide) ?_
        refine mx_ialdL C hM (mt_2 hT) (j := 1) (by decide) (mx_in_vp (by decide)) dX13_day_122 ?_
        refine lv_iconst (v := (1 : Int32)) hx hb dX13_day_123 (by decide) ?_
        refine lv_isub hx hb dX13_day_124 ?_
        refine lv_istore_n (lv' := [(3, .int (((mx_si M 2 ((71 : Int32) + i1).toNatClampNeg (M.1 2 3)).1 2 1) - (1 : Int32))), (2, .int q97), (0, .ref (E.2.1.2.1 0)), (1, .int i1)]) hx hb dX13_day_125 rfl hl (by decide) rfl (fun ls hl => ?_)
        exact wfX13_day_126 C hT q97 (fX13_day_70 n) ih mx_fu i1 (((mx_si M 2 ((71 : Int32) + i1).toNatClampNeg (M.1 2 3)).1 2 1) - (1 : Int32)) (mx_si M 2 ((71 : Int32) + i1).toNatClampNeg (M.1 2 3)) _ _ _ hf hM (lv_sub hl [2, 3, 1, 0] rfl)
      · replace hf := mx_iff hc111 hf
        refine lv_goto (tgt := 196) hx hb dX13_day_114 (by decide) ?_
        refine lv_iinc (v := (i1 + (1 : Int32))) (lv' := [(1, .int (i1 + (1 : Int32))), (2, .int q97), (0, .ref (E.2.1.2.1 0))]) hx hb dX13_day_196 hl (k := 2) rfl rfl (by decide) rfl (fun ls hl => ?_)
        refine lv_goto (tgt := 70) hx hb dX13_day_199 (by decide) ?_
        exact ih (i1 + (1 : Int32)) (mx_si M 2 ((71 : Int32) + i1).toNatClampNeg (M.1 2 3)) _ _ _ hf hM (lv_sub hl [2, 0] rfl)
set_option maxRecDepth 100000 in
set_option maxHeartbeats 4000000 in
theorem wfX13_day_61 {E : KE} {p : Program} {l : Launch} {e : Env} {s : State} {m : MethodId} {args : Array Value} {below : List Frame} {meth : Method} {c : Code} {q : MM} (C : mx_C E p m c cX13_day 4 s args RX13 meth none)  (hT : E.1 = mt)  (k2 : Int32 → MM → Option MM) (hk2 : ∀ (i1 : Int32) (M : MM) (H : Heap) (locs : List Loc) (ls : Array Slot), k2 i1 M = some q → mx_H E s M H locs → lv_has ls 4 [(0, .ref (E.2.1.2.1 0)), (1, .int i1)] → W p l e (mx_rm 2) s m args below meth c H locs 0 0 (mx_Z E below args s none q) (F0 m 2 ls [])) : ∀ (i1 : Int32) (is1 : Int32) (is2 : Int32) (M : MM) (H : Heap) (locs : List Loc) (ls : Array Slot), fX13_day_61 k2 i1 is1 is2 M = some q → mx_H E s M H locs → lv_has ls 4 [(0, .ref (E.2.1.2.1 0)), (1, .int i1)] → W p l e (mx_rm 2) s m args below meth c H locs 0 0 (mx_Z E below args s none q) (F0 m 61 ls [.int is2, .int is1, .ref (E.2.1.2.1 2)]) := by
  have hx := C.1.1
  have hb := C.1.2.1
  have hown := C.1.2.2.2.1
  have hts := C.1.2.2.2.2
  intro i1 is1 is2 M H locs ls hf hM hl
  rw [fX13_day_61] at hf
  obtain ⟨hg61, hf⟩ := mx_gd hf
  refine mx_iast C hM (mt_2 hT) (mx_in_vp hg61) dX13_day_61 (fun H locs hM => ?_)
  refine lv_iinc (v := (i1 + (1 : Int32))) (lv' := [(1, .int (i1 + (1 : Int32))), (0, .ref (E.2.1.2.1 0))]) hx hb dX13_day_62 hl (k := 1) rfl rfl (by decide) rfl (fun ls hl => ?_)
  refine lv_goto (tgt := 2) hx hb dX13_day_65 (by decide) ?_
  exact hk2 (i1 + (1 : Int32)) (mx_si M 2 is1.toNatClampNeg is2) _ _ _ hf hM (lv_sub hl [1, 0] rfl)
set_option maxRecDepth 100000 in
set_option maxHeartbeats 4000000 in
theorem wfX13_day_2 {E : KE} {p : Program} {l : Launch} {e : Env} {s : State} {m : MethodId} {args : Array Value} {below : List Frame} {meth : Method} {c : Code} {q : MM} (C : mx_C E p m c cX13_day 4 s args RX13 meth none)  (hT : E.1 = mt)   : ∀ (n : Nat) (i1 : Int32) (M : MM) (H : Heap) (locs : List Loc) (ls : Array Slot), fX13_day_2 n i1 M = some q → mx_H E s M H locs → lv_has ls 4 [(0, .ref (E.2.1.2.1 0)), (1, .int i1)] → W p l e (mx_rm 2) s m args below meth c H locs 0 0 (mx_Z E below args s none q) (F0 m 2 ls []) := by
  have hx := C.1.1
  have hb := C.1.2.1
  have hown := C.1.2.2.2.1
  have hts := C.1.2.2.2.2
  intro n
  induction n with
  | zero =>
    intro i1 M H locs ls hf hM hl
    rw [fX13_day_2] at hf
    cases hf
  | succ n ih =>
    intro i1 M H locs ls hf hM hl
    rw [fX13_day_2] at hf
    refine lv_iload_n hx hb dX13_day_2 rfl (lv_at hl 1 rfl) ?_
    refine lv_aload_n hx hb dX13_day_3 rfl (lv_at hl 0 rfl) ?_
    refine g13_33 C hT hM dX13_day_4 ?_
    refine lv_iconst (v := (1 : Int32)) hx hb dX13_day_7 (by decide) ?_
    refine mx_ialdL C hM (mt_2 hT) (j := 1) (by decide) (mx_in_vp (by decide)) dX13_day_8 ?_
    refine lv_icmp_ge (tgt := 68) hx hb dX13_day_9 (by decide) (fun hc9 => ?_) (fun hc9 => ?_)
    · replace hf := mx_ift hc9 hf
      refine lv_iconst (v := (0 : Int32)) hx hb dX13_day_68 (by decide) ?_
      refine lv_istore_n (lv' := [(1, .int (0 : Int32)), (0, .ref (E.2.1.2.1 0))]) hx hb dX13_day_69 rfl hl (by decide) rfl (fun ls hl => ?_)
      exact wfX13_day_70 C hT mx_fu (0 : Int32) M _ _ _ hf hM (lv_sub hl [1, 0] rfl)
    · replace hf := mx_iff hc9 hf
      refine lv_aload_n hx hb dX13_day_12 rfl (lv_at hl 0 rfl) ?_
      refine g13_33 C hT hM dX13_day_13 ?_
      refine lv_bipush (v := (47 : Int32)) hx hb dX13_day_16 (by decide) ?_
      refine lv_iload_n hx hb dX13_day_18 rfl (lv_at hl 1 rfl) ?_
      refine lv_iadd hx hb dX13_day_19 ?_
      obtain ⟨hg20, hf⟩ := mx_gd hf
      refine mx_iald C hM (mt_2 hT) (mx_in_vp hg20) dX13_day_20 ?_
      refine lv_aload_n hx hb dX13_day_21 rfl (lv_at hl 0 rfl) ?_
      refine g13_33 C hT hM dX13_day_22 ?_
      refine lv_bipush (v := (54 : Int32)) hx hb dX13_day_25 (by decide) ?_
      refine mx_ialdL C hM (mt_2 hT) (j := 54) (by decide) (mx_in_vp (by decide)) dX13_day_27 ?_
      refine lv_icmp_ne (tgt := 62) hx hb dX13_day_28 (by decide) (fun hc28 => ?_) (fun hc28 => ?_)
      · replace hf := mx_iff hc28 hf
        refine lv_iinc (v := (i1 + (1 : Int32))) (lv' := [(1, .int (i1 + (1 : Int32))), (0, .ref (E.2.1.2.1 0))]) hx hb dX13_day_62 hl (k := 1) rfl rfl (by decide) rfl (fun ls hl => ?_)
        refine lv_goto (tgt := 2) hx hb dX13_day_65 (by decide) ?_
        exact ih (i1 + (1 : Int32)) M _ _ _ hf hM (lv_sub hl [1, 0] rfl)
      · replace hf := mx_ift hc28 hf
        refine lv_aload_n hx hb dX13_day_31 rfl (lv_at hl 0 rfl) ?_
        refine g13_33 C hT hM dX13_day_32 ?_
        refine lv_bipush (v := (92 : Int32)) hx hb dX13_day_35 (by decide) ?_
        refine lv_iload_n hx hb dX13_day_37 rfl (lv_at hl 1 rfl) ?_
        refine lv_iadd hx hb dX13_day_38 ?_
        refine lv_aload_n hx hb dX13_day_39 rfl (lv_at hl 0 rfl) ?_
        refine lv_aload_n hx hb dX13_day_40 rfl (lv_at hl 0 rfl) ?_
        refine g13_33 C hT hM dX13_day_41 ?_
        refine lv_bipush (v := (33 : Int32)) hx hb dX13_day_44 (by decide) ?_
        refine lv_iload_n hx hb dX13_day_46 rfl (lv_at hl 1 rfl) ?_
        refine lv_iadd hx hb dX13_day_47 ?_
        obtain ⟨hg48, hf⟩ := mx_gd hf
        refine mx_iald C hM (mt_2 hT) (mx_in_vp hg48) dX13_day_48 ?_
        refine lv_iload_n hx hb dX13_day_49 rfl (lv_at hl 1 rfl) ?_
        obtain ⟨q50, hq50, hf⟩ := mx_bd hf
        refine mx_callV C hM hl.1 yo_X13_has (h' := 0) (by decide) qw_1773 qw_1775 qs_152 (ci := 13) (q := (RX13, TX13, 52)) rfl (mt_0 hT) (As := [.int (M.1 2 ((33 : Int32) + i1).toNatClampNeg), .int i1]) (rest := [.int ((92 : Int32) + i1), .ref (E.2.1.2.1 2)]) (st1 := [.int (mx_b q50), .int ((92 : Int32) + i1), .ref (E.2.1.2.1 2)]) (kX13_has C.2.2.2.1 (M.1 2 ((33 : Int32) + i1).toNatClampNeg) i1 hT M hq50) rfl rfl rfl (Nat.le_of_ble_eq_true rfl) dX13_day_50 (fun H locs hM => ?_)
        refine lv_if_eq (tgt := 60) hx hb dX13_day_53 (by decide) (fun hc53 => ?_) (fun hc53 => ?_)
        · replace hf := mx_ift hc53 hf
          refine lv_iconst (v := (2 : Int32)) hx hb dX13_day_60 (by decide) ?_
          exact wfX13_day_61 C hT (fX13_day_2 n) ih i1 ((92 : Int32) + i1) (2 : Int32) M _ _ _ hf hM (lv_sub hl [0, 1] rfl)
        · replace hf := mx_iff hc53 hf
          refine lv_iconst (v := (1 : Int32)) hx hb dX13_day_56 (by decide) ?_
          refine lv_goto (tgt := 61) hx hb dX13_day_57 (by decide) ?_
          exact wfX13_day_61 C hT (fX13_day_2 n) ih i1 ((92 : Int32) + i1) (1 : Int32) M _ _ _ hf hM (lv_sub hl [0, 1] rfl)
set_option maxRecDepth 100000 in
set_option maxHeartbeats 4000000 in
theorem kX13_day {E : KE} {l : Launch} (hE : mx_ok E)  (hT : E.1 = mt) (M : MM) {q : MM} (hf : fX13_day M = some q) : mx_Met E l yX13_day cX13_day 4 none 2 [.ref (E.2.1.2.1 0)] M none q := by
  refine mx_enter hE (by decide) (Nat.le_of_ble_eq_true rfl) ?_
  intro p e s m below meth c C hM hn ls hl
  have hx := C.1.1
  have hb := C.1.2.1
  have hown := C.1.2.2.2.1
  have hts := C.1.2.2.2.2
  have hl : lv_has ls 4 [(0, .ref (E.2.1.2.1 0))] := hl
  rw [fX13_day] at hf
  refine lv_iconst (v := (0 : Int32)) hx hb dX13_day_0 (by decide) ?_
  refine lv_istore_n (lv' := [(1, .int (0 : Int32)), (0, .ref (E.2.1.2.1 0))]) hx hb dX13_day_1 rfl hl (by decide) rfl (fun ls hl => ?_)
  exact wfX13_day_2 C hT mx_fu (0 : Int32) M _ _ _ hf hM (lv_sub hl [1, 0] rfl)
theorem dX13_goesOn_0 : decode cX13_goesOn 0 = .ok (.iconst 0, 1) := by decide +kernel
theorem dX13_goesOn_1 : decode cX13_goesOn 1 = .ok (.istore_n 2, 1) := by decide +kernel
theorem dX13_goesOn_2 : decode cX13_goesOn 2 = .ok (.iload_n 2, 1) := by decide +kernel
theorem dX13_goesOn_3 : decode cX13_goesOn 3 = .ok (.iload_n 1, 1) := by decide +kernel
theorem dX13_goesOn_4 : decode cX13_goesOn 4 = .ok (.if_icmp .ge 26, 3) := by decide +kernel
theorem dX13_goesOn_7 : decode cX13_goesOn 7 = .ok (.aload_n 0, 1) := by decide +kernel
theorem dX13_goesOn_8 : decode cX13_goesOn 8 = .ok (.getfield 33, 3) := by decide +kernel
theorem dX13_goesOn_11 : decode cX13_goesOn 11 = .ok (.bipush 54, 2) := by decide +kernel
theorem dX13_goesOn_13 : decode cX13_goesOn 13 = .ok (.iaload, 1) := by decide +kernel
theorem dX13_goesOn_14 : decode cX13_goesOn 14 = .ok (.sipush 400, 3) := by decide +kernel
theorem dX13_goesOn_17 : decode cX13_goesOn 17 = .ok (.if_icmp .ge 13, 3) := by decide +kernel
theorem dX13_goesOn_20 : decode cX13_goesOn 20 = .ok (.aload_n 0, 1) := by decide +kernel
theorem dX13_goesOn_21 : decode cX13_goesOn 21 = .ok (.invokevirtual 307, 3) := by decide +kernel
theorem dX13_goesOn_24 : decode cX13_goesOn 24 = .ok (.iinc 2 1, 3) := by decide +kernel
theorem dX13_goesOn_27 : decode cX13_goesOn 27 = .ok (.goto (-25), 3) := by decide +kernel
theorem dX13_goesOn_30 : decode cX13_goesOn 30 = .ok (.iload_n 2, 1) := by decide +kernel
theorem dX13_goesOn_31 : decode cX13_goesOn 31 = .ok (.ireturn, 1) := by decide +kernel
set_option maxRecDepth 100000 in
set_option maxHeartbeats 4000000 in
theorem wfX13_goesOn_2 {E : KE} {p : Program} {l : Launch} {e : Env} {s : State} {m : MethodId} {args : Array Value} {below : List Frame} {meth : Method} {c : Code} {q : (Int32 × MM)} (C : mx_C E p m c cX13_goesOn 3 s args RX13 meth (some .int)) (i1 : Int32) (hT : E.1 = mt)   : ∀ (n : Nat) (i2 : Int32) (M : MM) (H : Heap) (locs : List Loc) (ls : Array Slot), fX13_goesOn_2 i1 n i2 M = some q → mx_H E s M H locs → lv_has ls 3 [(0, .ref (E.2.1.2.1 0)), (1, .int i1), (2, .int i2)] → W p l e (mx_rm 3) s m args below meth c H locs 0 0 (mx_Z E below args s (some (.int q.1)) q.2) (F0 m 2 ls []) := by
  have hx := C.1.1
  have hb := C.1.2.1
  have hown := C.1.2.2.2.1
  have hts := C.1.2.2.2.2
  intro n
  induction n with
  | zero =>
    intro i2 M H locs ls hf hM hl
    rw [fX13_goesOn_2] at hf
    cases hf
  | succ n ih =>
    intro i2 M H locs ls hf hM hl
    rw [fX13_goesOn_2] at hf
    refine lv_iload_n hx hb dX13_goesOn_2 rfl (lv_at hl 2 rfl) ?_
    refine lv_iload_n hx hb dX13_goesOn_3 rfl (lv_at hl 1 rfl) ?_
    refine lv_icmp_ge (tgt := 30) hx hb dX13_goesOn_4 (by decide) (fun hc4 => ?_) (fun hc4 => ?_)
    · replace hf := mx_ift hc4 hf
      refine lv_iload_n hx hb dX13_goesOn_30 rfl (lv_at hl 2 rfl) ?_
      exact mx_iret C hM hf dX13_goesOn_31
    · replace hf := mx_iff hc4 hf
      refine lv_aload_n hx hb dX13_goesOn_7 rfl (lv_at hl 0 rfl) ?_
      refine g13_33 C hT hM dX13_goesOn_8 ?_
      refine lv_bipush (v := (54 : Int32)) hx hb dX13_goesOn_11 (by decide) ?_
      refine mx_ialdL C hM (mt_2 hT) (j := 54) (by decide) (mx_in_vp (by decide)) dX13_goesOn_13 ?_
      refine lv_sipush (v := (400 : Int32)) hx hb dX13_goesOn_14 (by decide) ?_
      refine lv_icmp_ge (tgt := 30) hx hb dX13_goesOn_17 (by decide) (fun hc17 => ?_) (fun hc17 => ?_)
      · replace hf := mx_ift hc17 hf
        refine lv_iload_n hx hb dX13_goesOn_30 rfl (lv_at hl 2 rfl) ?_
        exact mx_iret C hM hf dX13_goesOn_31
      · replace hf := mx_iff hc17 hf
        refine lv_aload_n hx hb dX13_goesOn_20 rfl (lv_at hl 0 rfl) ?_
        obtain ⟨q21, hq21, hf⟩ := mx_bd hf
        refine mx_callV C hM hl.1 yo_X13_day (h' := 2) (by decide) qw_1769 qw_1771 qs_151 (ci := 13) (q := (RX13, TX13, 52)) rfl (mt_0 hT) (As := []) (rest := []) (st1 := []) (kX13_day C.2.2.2.1  hT M hq21) rfl rfl rfl (Nat.le_of_ble_eq_true rfl) dX13_goesOn_21 (fun H locs hM => ?_)
        refine lv_iinc (v := (i2 + (1 : Int32))) (lv' := [(2, .int (i2 + (1 : Int32))), (0, .ref (E.2.1.2.1 0)), (1, .int i1)]) hx hb dX13_goesOn_24 hl (k := 2) rfl rfl (by decide) rfl (fun ls hl => ?_)
        refine lv_goto (tgt := 2) hx hb dX13_goesOn_27 (by decide) ?_
        exact ih (i2 + (1 : Int32)) q21 _ _ _ hf hM (lv_sub hl [1, 2, 0] rfl)
set_option maxRecDepth 100000 in
set_option maxHeartbeats 4000000 in
theorem kX13_goesOn {E : KE} {l : Launch} (hE : mx_ok E) (i1 : Int32) (hT : E.1 = mt) (M : MM) {q : (Int32 × MM)} (hf : fX13_goesOn i1 M = some q) : mx_Met E l yX13_goesOn cX13_goesOn 3 (some .int) 3 [.ref (E.2.1.2.1 0), .int i1] M (some (.int q.1)) q.2 := by
  refine mx_enter hE (by decide) (Nat.le_of_ble_eq_true rfl) ?_
  intro p e s m below meth c C hM hn ls hl
  have hx := C.1.1
  have hb := C.1.2.1
  have hown := C.1.2.2.2.1
  have hts := C.1.2.2.2.2
  have hl : lv_has ls 3 [(0, .ref (E.2.1.2.1 0)), (1, .int i1)] := hl
  rw [fX13_goesOn] at hf
  refine lv_iconst (v := (0 : Int32)) hx hb dX13_goesOn_0 (by decide) ?_
  refine lv_istore_n (lv' := [(2, .int (0 : Int32)), (0, .ref (E.2.1.2.1 0)), (1, .int i1)]) hx hb dX13_goesOn_1 rfl hl (by decide) rfl (fun ls hl => ?_)
  exact wfX13_goesOn_2 C i1 hT mx_fu (0 : Int32) M _ _ _ hf hM (lv_sub hl [1, 2, 0] rfl)
theorem dX13_keep_0 : decode cX13_keep 0 = .ok (.aload_n 0, 1) := by decide +kernel
theorem dX13_keep_1 : decode cX13_keep 1 = .ok (.getfield 256, 3) := by decide +kernel
theorem dX13_keep_4 : decode cX13_keep 4 = .ok (.bipush 8, 2) := by decide +kernel
theorem dX13_keep_6 : decode cX13_keep 6 = .ok (.if_icmp .ne 39, 3) := by decide +kernel
theorem dX13_keep_9 : decode cX13_keep 9 = .ok (.iconst 0, 1) := by decide +kernel
theorem dX13_keep_10 : decode cX13_keep 10 = .ok (.istore_n 1, 1) := by decide +kernel
theorem dX13_keep_11 : decode cX13_keep 11 = .ok (.iload_n 1, 1) := by decide +kernel
theorem dX13_keep_12 : decode cX13_keep 12 = .ok (.sipush 413, 3) := by decide +kernel
theorem dX13_keep_15 : decode cX13_keep 15 = .ok (.if_icmp .ge 24, 3) := by decide +kernel
theorem dX13_keep_18 : decode cX13_keep 18 = .ok (.aload_n 0, 1) := by decide +kernel
theorem dX13_keep_19 : decode cX13_keep 19 = .ok (.getfield 50, 3) := by decide +kernel
theorem dX13_keep_22 : decode cX13_keep 22 = .ok (.iload_n 1, 1) := by decide +kernel
theorem dX13_keep_23 : decode cX13_keep 23 = .ok (.aload_n 0, 1) := by decide +kernel
theorem dX13_keep_24 : decode cX13_keep 24 = .ok (.getfield 50, 3) := by decide +kernel
theorem dX13_keep_27 : decode cX13_keep 27 = .ok (.iload_n 1, 1) := by decide +kernel
theorem dX13_keep_28 : decode cX13_keep 28 = .ok (.bipush 59, 2) := by decide +kernel
theorem dX13_keep_30 : decode cX13_keep 30 = .ok (.iadd, 1) := by decide +kernel
theorem dX13_keep_31 : decode cX13_keep 31 = .ok (.iaload, 1) := by decide +kernel
theorem dX13_keep_32 : decode cX13_keep 32 = .ok (.iastore, 1) := by decide +kernel
theorem dX13_keep_33 : decode cX13_keep 33 = .ok (.iinc 1 1, 3) := by decide +kernel
theorem dX13_keep_36 : decode cX13_keep 36 = .ok (.goto (-25), 3) := by decide +kernel
theorem dX13_keep_39 : decode cX13_keep 39 = .ok (.aload_n 0, 1) := by decide +kernel
theorem dX13_keep_40 : decode cX13_keep 40 = .ok (.bipush 7, 2) := by decide +kernel
theorem dX13_keep_42 : decode cX13_keep 42 = .ok (.putfield 256, 3) := by decide +kernel
theorem dX13_keep_45 : decode cX13_keep 45 = .ok (.iconst 0, 1) := by decide +kernel
theorem dX13_keep_46 : decode cX13_keep 46 = .ok (.istore_n 1, 1) := by decide +kernel
theorem dX13_keep_47 : decode cX13_keep 47 = .ok (.iload_n 1, 1) := by decide +kernel
theorem dX13_keep_48 : decode cX13_keep 48 = .ok (.bipush 59, 2) := by decide +kernel
theorem dX13_keep_50 : decode cX13_keep 50 = .ok (.if_icmp .ge 32, 3) := by decide +kernel
theorem dX13_keep_53 : decode cX13_keep 53 = .ok (.aload_n 0, 1) := by decide +kernel
theorem dX13_keep_54 : decode cX13_keep 54 = .ok (.getfield 50, 3) := by decide +kernel
theorem dX13_keep_57 : decode cX13_keep 57 = .ok (.bipush 59, 2) := by decide +kernel
theorem dX13_keep_59 : decode cX13_keep 59 = .ok (.aload_n 0, 1) := by decide +kernel
theorem dX13_keep_60 : decode cX13_keep 60 = .ok (.getfield 256, 3) := by decide +kernel
theorem dX13_keep_63 : decode cX13_keep 63 = .ok (.imul, 1) := by decide +kernel
theorem dX13_keep_64 : decode cX13_keep 64 = .ok (.iload_n 1, 1) := by decide +kernel
theorem dX13_keep_65 : decode cX13_keep 65 = .ok (.iadd, 1) := by decide +kernel
theorem dX13_keep_66 : decode cX13_keep 66 = .ok (.aload_n 0, 1) := by decide +kernel
theorem dX13_keep_67 : decode cX13_keep 67 = .ok (.getfield 33, 3) := by decide +kernel
theorem dX13_keep_70 : decode cX13_keep 70 = .ok (.bipush 54, 2) := by decide +kernel
theorem dX13_keep_72 : decode cX13_keep 72 = .ok (.iload_n 1, 1) := by decide +kernel
theorem dX13_keep_73 : decode cX13_keep 73 = .ok (.iadd, 1) := by decide +kernel
theorem dX13_keep_74 : decode cX13_keep 74 = .ok (.iaload, 1) := by decide +kernel
theorem dX13_keep_75 : decode cX13_keep 75 = .ok (.iastore, 1) := by decide +kernel
theorem dX13_keep_76 : decode cX13_keep 76 = .ok (.iinc 1 1, 3) := by decide +kernel
theorem dX13_keep_79 : decode cX13_keep 79 = .ok (.goto (-32), 3) := by decide +kernel
theorem dX13_keep_82 : decode cX13_keep 82 = .ok (.aload_n 0, 1) := by decide +kernel
theorem dX13_keep_83 : decode cX13_keep 83 = .ok (.dup, 1) := by decide +kernel
theorem dX13_keep_84 : decode cX13_keep 84 = .ok (.getfield 256, 3) := by decide +kernel
theorem dX13_keep_87 : decode cX13_keep 87 = .ok (.iconst 1, 1) := by decide +kernel
theorem dX13_keep_88 : decode cX13_keep 88 = .ok (.iadd, 1) := by decide +kernel
theorem dX13_keep_89 : decode cX13_keep 89 = .ok (.putfield 256, 3) := by decide +kernel
theorem dX13_keep_92 : decode cX13_keep 92 = .ok (.return_, 1) := by decide +kernel
set_option maxRecDepth 100000 in
set_option maxHeartbeats 4000000 in
theorem wfX13_keep_47 {E : KE} {p : Program} {l : Launch} {e : Env} {s : State} {m : MethodId} {args : Array Value} {below : List Frame} {meth : Method} {c : Code} {q : MM} (C : mx_C E p m c cX13_keep 2 s args RX13 meth none)  (hT : E.1 = mt)   : ∀ (n : Nat) (i1 : Int32) (M : MM) (H : Heap) (locs : List Loc) (ls : Array Slot), fX13_keep_47 n i1 M = some q → mx_H E s M H locs → lv_has ls 2 [(0, .ref (E.2.1.2.1 0)), (1, .int i1)] → W p l e (mx_rm 0) s m args below meth c H locs 0 0 (mx_Z E below args s none q) (F0 m 47 ls []) := by
  have hx := C.1.1
  have hb := C.1.2.1
  have hown := C.1.2.2.2.1
  have hts := C.1.2.2.2.2
  intro n
  induction n with
  | zero =>
    intro i1 M H locs ls hf hM hl
    rw [fX13_keep_47] at hf
    cases hf
  | succ n ih =>
    intro i1 M H locs ls hf hM hl
    rw [fX13_keep_47] at hf
    refine lv_iload_n hx hb dX13_keep_47 rfl (lv_at hl 1 rfl) ?_
    refine lv_bipush (v := (59 : Int32)) hx hb dX13_keep_48 (by decide) ?_
    refine lv_icmp_ge (tgt := 82) hx hb dX13_keep_50 (by decide) (fun hc50 => ?_) (fun hc50 => ?_)
    · replace hf := mx_ift hc50 hf
      refine lv_aload_n hx hb dX13_keep_82 rfl (lv_at hl 0 rfl) ?_
      refine lv_dup hx hb dX13_keep_83 rfl ?_
      refine g13_256 C hT hM dX13_keep_84 ?_
      refine lv_iconst (v := (1 : Int32)) hx hb dX13_keep_87 (by decide) ?_
      refine lv_iadd hx hb dX13_keep_88 ?_
      refine p13_256 C hT hM dX13_keep_89 (fun H locs hM => ?_)
      exact mx_vret C hM hf dX13_keep_92
    · replace hf := mx_iff hc50 hf
      refine lv_aload_n hx hb dX13_keep_53 rfl (lv_at hl 0 rfl) ?_
      refine g13_50 C hT hM dX13_keep_54 ?_
      refine lv_bipush (v := (59 : Int32)) hx hb dX13_keep_57 (by decide) ?_
      refine lv_aload_n hx hb dX13_keep_59 rfl (lv_at hl 0 rfl) ?_
      refine g13_256 C hT hM dX13_keep_60 ?_
      refine lv_imul hx hb dX13_keep_63 ?_
      refine lv_iload_n hx hb dX13_keep_64 rfl (lv_at hl 1 rfl) ?_
      refine lv_iadd hx hb dX13_keep_65 ?_
      refine lv_aload_n hx hb dX13_keep_66 rfl (lv_at hl 0 rfl) ?_
      refine g13_33 C hT hM dX13_keep_67 ?_
      refine lv_bipush (v := (54 : Int32)) hx hb dX13_keep_70 (by decide) ?_
      refine lv_iload_n hx hb dX13_keep_72 rfl (lv_at hl 1 rfl) ?_
      refine lv_iadd hx hb dX13_keep_73 ?_
      obtain ⟨hg74, hf⟩ := mx_gd hf
      refine mx_iald C hM (mt_2 hT) (mx_in_vp hg74) dX13_keep_74 ?_
      obtain ⟨hg75, hf⟩ := mx_gd hf
      refine mx_iast C hM (mt_7 hT) (mx_in_vp hg75) dX13_keep_75 (fun H locs hM => ?_)
      refine lv_iinc (v := (i1 + (1 : Int32))) (lv' := [(1, .int (i1 + (1 : Int32))), (0, .ref (E.2.1.2.1 0))]) hx hb dX13_keep_76 hl (k := 1) rfl rfl (by decide) rfl (fun ls hl => ?_)
      refine lv_goto (tgt := 47) hx hb dX13_keep_79 (by decide) ?_
      exact ih (i1 + (1 : Int32)) (mx_si M 7 (((59 : Int32) * (M.1 0 23)) + i1).toNatClampNeg (M.1 2 ((54 : Int32) + i1).toNatClampNeg)) _ _ _ hf hM (lv_sub hl [1, 0] rfl)
set_option maxRecDepth 100000 in
set_option maxHeartbeats 4000000 in
theorem wfX13_keep_11 {E : KE} {p : Program} {l : Launch} {e : Env} {s : State} {m : MethodId} {args : Array Value} {below : List Frame} {meth : Method} {c : Code} {q : MM} (C : mx_C E p m c cX13_keep 2 s args RX13 meth none)  (hT : E.1 = mt)  (k47 : Int32 → MM → Option MM) (hk47 : ∀ (i1 : Int32) (M : MM) (H : Heap) (locs : List Loc) (ls : Array Slot), k47 i1 M = some q → mx_H E s M H locs → lv_has ls 2 [(0, .ref (E.2.1.2.1 0)), (1, .int i1)] → W p l e (mx_rm 0) s m args below meth c H locs 0 0 (mx_Z E below args s none q) (F0 m 47 ls [])) : ∀ (n : Nat) (i1 : Int32) (M : MM) (H : Heap) (locs : List Loc) (ls : Array Slot), fX13_keep_11 k47 n i1 M = some q → mx_H E s M H locs → lv_has ls 2 [(0, .ref (E.2.1.2.1 0)), (1, .int i1)] → W p l e (mx_rm 0) s m args below meth c H locs 0 0 (mx_Z E below args s none q) (F0 m 11 ls []) := by
  have hx := C.1.1
  have hb := C.1.2.1
  have hown := C.1.2.2.2.1
  have hts := C.1.2.2.2.2
  intro n
  induction n with
  | zero =>
    intro i1 M H locs ls hf hM hl
    rw [fX13_keep_11] at hf
    cases hf
  | succ n ih =>
    intro i1 M H locs ls hf hM hl
    rw [fX13_keep_11] at hf
    refine lv_iload_n hx hb dX13_keep_11 rfl (lv_at hl 1 rfl) ?_
    refine lv_sipush (v := (413 : Int32)) hx hb dX13_keep_12 (by decide) ?_
    refine lv_icmp_ge (tgt := 39) hx hb dX13_keep_15 (by decide) (fun hc15 => ?_) (fun hc15 => ?_)
    · replace hf := mx_ift hc15 hf
      refine lv_aload_n hx hb dX13_keep_39 rfl (lv_at hl 0 rfl) ?_
      refine lv_bipush (v := (7 : Int32)) hx hb dX13_keep_40 (by decide) ?_
      refine p13_256 C hT hM dX13_keep_42 (fun H locs hM => ?_)
      refine lv_iconst (v := (0 : Int32)) hx hb dX13_keep_45 (by decide) ?_
      refine lv_istore_n (lv' := [(1, .int (0 : Int32)), (0, .ref (E.2.1.2.1 0))]) hx hb dX13_keep_46 rfl hl (by decide) rfl (fun ls hl => ?_)
      exact hk47 (0 : Int32) (mx_si M 0 23 (7 : Int32)) _ _ _ hf hM (lv_sub hl [1, 0] rfl)
    · replace hf := mx_iff hc15 hf
      refine lv_aload_n hx hb dX13_keep_18 rfl (lv_at hl 0 rfl) ?_
      refine g13_50 C hT hM dX13_keep_19 ?_
      refine lv_iload_n hx hb dX13_keep_22 rfl (lv_at hl 1 rfl) ?_
      refine lv_aload_n hx hb dX13_keep_23 rfl (lv_at hl 0 rfl) ?_
      refine g13_50 C hT hM dX13_keep_24 ?_
      refine lv_iload_n hx hb dX13_keep_27 rfl (lv_at hl 1 rfl) ?_
      refine lv_bipush (v := (59 : Int32)) hx hb dX13_keep_28 (by decide) ?_
      refine lv_iadd hx hb dX13_keep_30 ?_
      obtain ⟨hg31, hf⟩ := mx_gd hf
      refine mx_iald C hM (mt_7 hT) (mx_in_vp hg31) dX13_keep_31 ?_
      obtain ⟨hg32, hf⟩ := mx_gd hf
      refine mx_iast C hM (mt_7 hT) (mx_in_vp hg32) dX13_keep_32 (fun H locs hM => ?_)
      refine lv_iinc (v := (i1 + (1 : Int32))) (lv' := [(1, .int (i1 + (1 : Int32))), (0, .ref (E.2.1.2.1 0))]) hx hb dX13_keep_33 hl (k := 1) rfl rfl (by decide) rfl (fun ls hl => ?_)
      refine lv_goto (tgt := 11) hx hb dX13_keep_36 (by decide) ?_
      exact ih (i1 + (1 : Int32)) (mx_si M 7 i1.toNatClampNeg (M.1 7 (i1 + (59 : Int32)).toNatClampNeg)) _ _ _ hf hM (lv_sub hl [1, 0] rfl)
set_option maxRecDepth 100000 in
set_option maxHeartbeats 4000000 in
theorem kX13_keep {E : KE} {l : Launch} (hE : mx_ok E)  (hT : E.1 = mt) (M : MM) {q : MM} (hf : fX13_keep M = some q) : mx_Met E l yX13_keep cX13_keep 2 none 0 [.ref (E.2.1.2.1 0)] M none q := by
  refine mx_enter hE (by decide) (Nat.le_of_ble_eq_true rfl) ?_
  intro p e s m below meth c C hM hn ls hl
  have hx := C.1.1
  have hb := C.1.2.1
  have hown := C.1.2.2.2.1
  have hts := C.1.2.2.2.2
  have hl : lv_has ls 2 [(0, .ref (E.2.1.2.1 0))] := hl
  rw [fX13_keep] at hf
  refine lv_aload_n hx hb dX13_keep_0 rfl (lv_at hl 0 rfl) ?_
  refine g13_256 C hT hM dX13_keep_1 ?_
  refine lv_bipush (v := (8 : Int32)) hx hb dX13_keep_4 (by decide) ?_
  refine lv_icmp_ne (tgt := 45) hx hb dX13_keep_6 (by decide) (fun hc6 => ?_) (fun hc6 => ?_)
  · replace hf := mx_iff hc6 hf
    refine lv_iconst (v := (0 : Int32)) hx hb dX13_keep_45 (by decide) ?_
    refine lv_istore_n (lv' := [(1, .int (0 : Int32)), (0, .ref (E.2.1.2.1 0))]) hx hb dX13_keep_46 rfl hl (by decide) rfl (fun ls hl => ?_)
    exact wfX13_keep_47 C hT mx_fu (0 : Int32) M _ _ _ hf hM (lv_sub hl [1, 0] rfl)
  · replace hf := mx_ift hc6 hf
    refine lv_iconst (v := (0 : Int32)) hx hb dX13_keep_9 (by decide) ?_
    refine lv_istore_n (lv' := [(1, .int (0 : Int32)), (0, .ref (E.2.1.2.1 0))]) hx hb dX13_keep_10 rfl hl (by decide) rfl (fun ls hl => ?_)
    exact wfX13_keep_11 C hT (fun i1' M' => fX13_keep_47 mx_fu i1' M') (fun i1' M' H locs ls hf hM hl => wfX13_keep_47 C hT mx_fu i1' M' H locs ls hf hM hl) mx_fu (0 : Int32) M _ _ _ hf hM (lv_sub hl [1, 0] rfl)
theorem dX13_go_0 : decode cX13_go 0 = .ok (.aload_n 0, 1) := by decide +kernel
theorem dX13_go_1 : decode cX13_go 1 = .ok (.iconst 0, 1) := by decide +kernel
theorem dX13_go_2 : decode cX13_go 2 = .ok (.putfield 1, 3) := by decide +kernel
theorem dX13_go_5 : decode cX13_go 5 = .ok (.aload_n 0, 1) := by decide +kernel
theorem dX13_go_6 : decode cX13_go 6 = .ok (.iload_n 1, 1) := by decide +kernel
theorem dX13_go_7 : decode cX13_go 7 = .ok (.invokevirtual 273, 3) := by decide +kernel
theorem dX13_go_10 : decode cX13_go 10 = .ok (.ifCond .eq 23, 3) := by decide +kernel
theorem dX13_go_13 : decode cX13_go 13 = .ok (.iload_n 2, 1) := by decide +kernel
theorem dX13_go_14 : decode cX13_go 14 = .ok (.iconst 0, 1) := by decide +kernel
theorem dX13_go_15 : decode cX13_go 15 = .ok (.bipush 20, 2) := by decide +kernel
theorem dX13_go_17 : decode cX13_go 17 = .ok (.invokestatic 193, 3) := by decide +kernel
theorem dX13_go_20 : decode cX13_go 20 = .ok (.ifCond .eq 13, 3) := by decide +kernel
theorem dX13_go_23 : decode cX13_go 23 = .ok (.iload_n 3, 1) := by decide +kernel
theorem dX13_go_24 : decode cX13_go 24 = .ok (.iconst 0, 1) := by decide +kernel
theorem dX13_go_25 : decode cX13_go 25 = .ok (.bipush 20, 2) := by decide +kernel
theorem dX13_go_27 : decode cX13_go 27 = .ok (.invokestatic 193, 3) := by decide +kernel
theorem dX13_go_30 : decode cX13_go 30 = .ok (.ifCond .ne 5, 3) := by decide +kernel
theorem dX13_go_33 : decode cX13_go 33 = .ok (.iconst (-1), 1) := by decide +kernel
theorem dX13_go_34 : decode cX13_go 34 = .ok (.ireturn, 1) := by decide +kernel
theorem dX13_go_35 : decode cX13_go 35 = .ok (.aload_n 0, 1) := by decide +kernel
theorem dX13_go_36 : decode cX13_go 36 = .ok (.iload_n 1, 1) := by decide +kernel
theorem dX13_go_37 : decode cX13_go 37 = .ok (.iload_n 2, 1) := by decide +kernel
theorem dX13_go_38 : decode cX13_go 38 = .ok (.iload_n 3, 1) := by decide +kernel
theorem dX13_go_39 : decode cX13_go 39 = .ok (.invokevirtual 310, 3) := by decide +kernel
theorem dX13_go_42 : decode cX13_go 42 = .ok (.istore 4, 2) := by decide +kernel
theorem dX13_go_44 : decode cX13_go 44 = .ok (.iload 4, 2) := by decide +kernel
theorem dX13_go_46 : decode cX13_go 46 = .ok (.ifCond .le 6, 3) := by decide +kernel
theorem dX13_go_49 : decode cX13_go 49 = .ok (.iload 4, 2) := by decide +kernel
theorem dX13_go_51 : decode cX13_go 51 = .ok (.ireturn, 1) := by decide +kernel
theorem dX13_go_52 : decode cX13_go 52 = .ok (.aload_n 0, 1) := by decide +kernel
theorem dX13_go_53 : decode cX13_go 53 = .ok (.invokevirtual 313, 3) := by decide +kernel
theorem dX13_go_56 : decode cX13_go 56 = .ok (.aload_n 0, 1) := by decide +kernel
theorem dX13_go_57 : decode cX13_go 57 = .ok (.iload_n 1, 1) := by decide +kernel
theorem dX13_go_58 : decode cX13_go 58 = .ok (.iload_n 2, 1) := by decide +kernel
theorem dX13_go_59 : decode cX13_go 59 = .ok (.iload_n 3, 1) := by decide +kernel
theorem dX13_go_60 : decode cX13_go 60 = .ok (.invokevirtual 316, 3) := by decide +kernel
theorem dX13_go_63 : decode cX13_go 63 = .ok (.iconst 0, 1) := by decide +kernel
theorem dX13_go_64 : decode cX13_go 64 = .ok (.ireturn, 1) := by decide +kernel
set_option maxRecDepth 100000 in
set_option maxHeartbeats 4000000 in
theorem kX13_go {E : KE} {l : Launch} (hE : mx_ok E) (i1 : Int32) (i2 : Int32) (i3 : Int32) (hT : E.1 = mt) (M : MM) {q : (Int32 × MM)} (hf : fX13_go i1 i2 i3 M = some q) : mx_Met E l yX13_go cX13_go 5 (some .int) 3 [.ref (E.2.1.2.1 0), .int i1, .int i2, .int i3] M (some (.int q.1)) q.2 := by
  refine mx_enter hE (by decide) (Nat.le_of_ble_eq_true rfl) ?_
  intro p e s m below meth c C hM hn ls hl
  have hx := C.1.1
  have hb := C.1.2.1
  have hown := C.1.2.2.2.1
  have hts := C.1.2.2.2.2
  have hl : lv_has ls 5 [(0, .ref (E.2.1.2.1 0)), (1, .int i1), (2, .int i2), (3, .int i3)] := hl
  rw [fX13_go] at hf
  refine lv_aload_n hx hb dX13_go_0 rfl (lv_at hl 0 rfl) ?_
  refine lv_iconst (v := (0 : Int32)) hx hb dX13_go_1 (by decide) ?_
  refine p13_1 C hT hM dX13_go_2 (fun H locs hM => ?_)
  refine lv_aload_n hx hb dX13_go_5 rfl (lv_at hl 0 rfl) ?_
  refine lv_iload_n hx hb dX13_go_6 rfl (lv_at hl 1 rfl) ?_
  obtain ⟨q7, hq7, hf⟩ := mx_bd hf
  refine mx_callV C hM hl.1 yo_X13_isPerson (h' := 1) (by decide) qw_1646 qw_1648 qs_130 (ci := 13) (q := (RX13, TX13, 52)) rfl (mt_0 hT) (As := [.int i1]) (rest := []) (st1 := [.int (mx_b q7)]) (kX13_isPerson C.2.2.2.1 i1 hT (mx_si M 0 0 (0 : Int32)) hq7) rfl rfl rfl (Nat.le_of_ble_eq_true rfl) dX13_go_7 (fun H locs hM => ?_)
  refine lv_if_eq (tgt := 33) hx hb dX13_go_10 (by decide) (fun hc10 => ?_) (fun hc10 => ?_)
  · replace hf := mx_ift hc10 hf
    refine lv_iconst (v := (-1 : Int32)) hx hb dX13_go_33 (by decide) ?_
    exact mx_iret C hM hf dX13_go_34
  · replace hf := mx_iff hc10 hf
    refine lv_iload_n hx hb dX13_go_13 rfl (lv_at hl 2 rfl) ?_
    refine lv_iconst (v := (0 : Int32)) hx hb dX13_go_14 (by decide) ?_
    refine lv_bipush (v := (20 : Int32)) hx hb dX13_go_15 (by decide) ?_
    obtain ⟨q17, hq17, hf⟩ := mx_bd hf
    refine mx_callS C hM hl.1 yo_X13_isIn (h' := 0) (by decide) qw_1608 qw_1609 (As := [.int i2, .int (0 : Int32), .int (20 : Int32)]) (rest := []) (st1 := [.int (mx_b q17)]) (kX13_isIn C.2.2.2.1 i2 (0 : Int32) (20 : Int32) hT (mx_si M 0 0 (0 : Int32)) hq17) rfl rfl rfl (Nat.le_of_ble_eq_true rfl) dX13_go_17 (fun H locs hM => ?_)
    refine lv_if_eq (tgt := 33) hx hb dX13_go_20 (by decide) (fun hc20 => ?_) (fun hc20 => ?_)
    · replace hf := mx_ift hc20 hf
      refine lv_iconst (v := (-1 : Int32)) hx hb dX13_go_33 (by decide) ?_
      exact mx_iret C hM hf dX13_go_34
    · replace hf := mx_iff hc20 hf
      refine lv_iload_n hx hb dX13_go_23 rfl (lv_at hl 3 rfl) ?_
      refine lv_iconst (v := (0 : Int32)) hx hb dX13_go_24 (by decide) ?_
      refine lv_bipush (v := (20 : Int32)) hx hb dX13_go_25 (by decide) ?_
      obtain ⟨q27, hq27, hf⟩ := mx_bd hf
      refine mx_callS C hM hl.1 yo_X13_isIn (h' := 0) (by decide) qw_1608 qw_1609 (As := [.int i3, .int (0 : Int32), .int (20 : Int32)]) (rest := []) (st1 := [.int (mx_b q27)]) (kX13_isIn C.2.2.2.1 i3 (0 : Int32) (20 : Int32) hT (mx_si M 0 0 (0 : Int32)) hq27) rfl rfl rfl (Nat.le_of_ble_eq_true rfl) dX13_go_27 (fun H locs hM => ?_)
      refine lv_if_ne (tgt := 35) hx hb dX13_go_30 (by decide) (fun hc30 => ?_) (fun hc30 => ?_)
      · replace hf := mx_iff hc30 hf
        refine lv_aload_n hx hb dX13_go_35 rfl (lv_at hl 0 rfl) ?_
        refine lv_iload_n hx hb dX13_go_36 rfl (lv_at hl 1 rfl) ?_
        refine lv_iload_n hx hb dX13_go_37 rfl (lv_at hl 2 rfl) ?_
        refine lv_iload_n hx hb dX13_go_38 rfl (lv_at hl 3 rfl) ?_
        obtain ⟨q39, hq39, hf⟩ := mx_bd hf
        refine mx_callV C hM hl.1 yo_X13_whyGo (h' := 2) (by decide) qw_1698 qw_1700 qs_139 (ci := 13) (q := (RX13, TX13, 52)) rfl (mt_0 hT) (As := [.int i1, .int i2, .int i3]) (rest := []) (st1 := [.int q39]) (kX13_whyGo C.2.2.2.1 i1 i2 i3 hT (mx_si M 0 0 (0 : Int32)) hq39) rfl rfl rfl (Nat.le_of_ble_eq_true rfl) dX13_go_39 (fun H locs hM => ?_)
        refine lv_istore (lv' := [(4, .int q39), (0, .ref (E.2.1.2.1 0)), (1, .int i1), (2, .int i2), (3, .int i3)]) hx hb dX13_go_42 hl (by decide) rfl (fun ls hl => ?_)
        refine lv_iload hx hb dX13_go_44 (lv_at hl 0 rfl) ?_
        refine lv_if_le (tgt := 52) hx hb dX13_go_46 (by decide) (fun hc46 => ?_) (fun hc46 => ?_)
        · replace hf := mx_ift hc46 hf
          refine lv_aload_n hx hb dX13_go_52 rfl (lv_at hl 1 rfl) ?_
          obtain ⟨q53, hq53, hf⟩ := mx_bd hf
          refine mx_callV C hM hl.1 yo_X13_keep (h' := 0) (by decide) qw_1709 qw_1711 qs_141 (ci := 13) (q := (RX13, TX13, 52)) rfl (mt_0 hT) (As := []) (rest := []) (st1 := []) (kX13_keep C.2.2.2.1  hT (mx_si M 0 0 (0 : Int32)) hq53) rfl rfl rfl (Nat.le_of_ble_eq_true rfl) dX13_go_53 (fun H locs hM => ?_)
          refine lv_aload_n hx hb dX13_go_56 rfl (lv_at hl 1 rfl) ?_
          refine lv_iload_n hx hb dX13_go_57 rfl (lv_at hl 2 rfl) ?_
          refine lv_iload_n hx hb dX13_go_58 rfl (lv_at hl 3 rfl) ?_
          refine lv_iload_n hx hb dX13_go_59 rfl (lv_at hl 4 rfl) ?_
          obtain ⟨q60, hq60, hf⟩ := mx_bd hf
          refine mx_callV C hM hl.1 yo_X13_goes (h' := 2) (by decide) qw_1713 qw_1715 qs_142 (ci := 13) (q := (RX13, TX13, 52)) rfl (mt_0 hT) (As := [.int i1, .int i2, .int i3]) (rest := []) (st1 := []) (kX13_goes C.2.2.2.1 i1 i2 i3 hT q53 hq60) rfl rfl rfl (Nat.le_of_ble_eq_true rfl) dX13_go_60 (fun H locs hM => ?_)
          refine lv_iconst (v := (0 : Int32)) hx hb dX13_go_63 (by decide) ?_
          exact mx_iret C hM hf dX13_go_64
        · replace hf := mx_iff hc46 hf
          refine lv_iload hx hb dX13_go_49 (lv_at hl 0 rfl) ?_
          exact mx_iret C hM hf dX13_go_51
      · replace hf := mx_ift hc30 hf
        refine lv_iconst (v := (-1 : Int32)) hx hb dX13_go_33 (by decide) ?_
        exact mx_iret C hM hf dX13_go_34
theorem dX13_hand_0 : decode cX13_hand 0 = .ok (.aload_n 0, 1) := by decide +kernel
theorem dX13_hand_1 : decode cX13_hand 1 = .ok (.iconst 0, 1) := by decide +kernel
theorem dX13_hand_2 : decode cX13_hand 2 = .ok (.putfield 1, 3) := by decide +kernel
theorem dX13_hand_5 : decode cX13_hand 5 = .ok (.aload_n 0, 1) := by decide +kernel
theorem dX13_hand_6 : decode cX13_hand 6 = .ok (.iload_n 1, 1) := by decide +kernel
theorem dX13_hand_7 : decode cX13_hand 7 = .ok (.invokevirtual 273, 3) := by decide +kernel
theorem dX13_hand_10 : decode cX13_hand 10 = .ok (.ifCond .eq 19, 3) := by decide +kernel
theorem dX13_hand_13 : decode cX13_hand 13 = .ok (.aload_n 0, 1) := by decide +kernel
theorem dX13_hand_14 : decode cX13_hand 14 = .ok (.iload_n 2, 1) := by decide +kernel
theorem dX13_hand_15 : decode cX13_hand 15 = .ok (.invokevirtual 289, 3) := by decide +kernel
theorem dX13_hand_18 : decode cX13_hand 18 = .ok (.ifCond .eq 11, 3) := by decide +kernel
theorem dX13_hand_21 : decode cX13_hand 21 = .ok (.aload_n 0, 1) := by decide +kernel
theorem dX13_hand_22 : decode cX13_hand 22 = .ok (.iload_n 3, 1) := by decide +kernel
theorem dX13_hand_23 : decode cX13_hand 23 = .ok (.invokevirtual 273, 3) := by decide +kernel
theorem dX13_hand_26 : decode cX13_hand 26 = .ok (.ifCond .ne 5, 3) := by decide +kernel
theorem dX13_hand_29 : decode cX13_hand 29 = .ok (.iconst (-1), 1) := by decide +kernel
theorem dX13_hand_30 : decode cX13_hand 30 = .ok (.ireturn, 1) := by decide +kernel
theorem dX13_hand_31 : decode cX13_hand 31 = .ok (.aload_n 0, 1) := by decide +kernel
theorem dX13_hand_32 : decode cX13_hand 32 = .ok (.iload_n 1, 1) := by decide +kernel
theorem dX13_hand_33 : decode cX13_hand 33 = .ok (.iload_n 2, 1) := by decide +kernel
theorem dX13_hand_34 : decode cX13_hand 34 = .ok (.iload_n 3, 1) := by decide +kernel
theorem dX13_hand_35 : decode cX13_hand 35 = .ok (.invokevirtual 320, 3) := by decide +kernel
theorem dX13_hand_38 : decode cX13_hand 38 = .ok (.istore 4, 2) := by decide +kernel
theorem dX13_hand_40 : decode cX13_hand 40 = .ok (.iload 4, 2) := by decide +kernel
theorem dX13_hand_42 : decode cX13_hand 42 = .ok (.ifCond .le 6, 3) := by decide +kernel
theorem dX13_hand_45 : decode cX13_hand 45 = .ok (.iload 4, 2) := by decide +kernel
theorem dX13_hand_47 : decode cX13_hand 47 = .ok (.ireturn, 1) := by decide +kernel
theorem dX13_hand_48 : decode cX13_hand 48 = .ok (.aload_n 0, 1) := by decide +kernel
theorem dX13_hand_49 : decode cX13_hand 49 = .ok (.invokevirtual 313, 3) := by decide +kernel
theorem dX13_hand_52 : decode cX13_hand 52 = .ok (.aload_n 0, 1) := by decide +kernel
theorem dX13_hand_53 : decode cX13_hand 53 = .ok (.iload_n 2, 1) := by decide +kernel
theorem dX13_hand_54 : decode cX13_hand 54 = .ok (.iload_n 3, 1) := by decide +kernel
theorem dX13_hand_55 : decode cX13_hand 55 = .ok (.invokevirtual 323, 3) := by decide +kernel
theorem dX13_hand_58 : decode cX13_hand 58 = .ok (.iconst 0, 1) := by decide +kernel
theorem dX13_hand_59 : decode cX13_hand 59 = .ok (.ireturn, 1) := by decide +kernel
set_option maxRecDepth 100000 in
set_option maxHeartbeats 4000000 in
theorem kX13_hand {E : KE} {l : Launch} (hE : mx_ok E) (i1 : Int32) (i2 : Int32) (i3 : Int32) (hT : E.1 = mt) (M : MM) {q : (Int32 × MM)} (hf : fX13_hand i1 i2 i3 M = some q) : mx_Met E l yX13_hand cX13_hand 5 (some .int) 4 [.ref (E.2.1.2.1 0), .int i1, .int i2, .int i3] M (some (.int q.1)) q.2 := by
  refine mx_enter hE (by decide) (Nat.le_of_ble_eq_true rfl) ?_
  intro p e s m below meth c C hM hn ls hl
  have hx := C.1.1
  have hb := C.1.2.1
  have hown := C.1.2.2.2.1
  have hts := C.1.2.2.2.2
  have hl : lv_has ls 5 [(0, .ref (E.2.1.2.1 0)), (1, .int i1), (2, .int i2), (3, .int i3)] := hl
  rw [fX13_hand] at hf
  refine lv_aload_n hx hb dX13_hand_0 rfl (lv_at hl 0 rfl) ?_
  refine lv_iconst (v := (0 : Int32)) hx hb dX13_hand_1 (by decide) ?_
  refine p13_1 C hT hM dX13_hand_2 (fun H locs hM => ?_)
  refine lv_aload_n hx hb dX13_hand_5 rfl (lv_at hl 0 rfl) ?_
  refine lv_iload_n hx hb dX13_hand_6 rfl (lv_at hl 1 rfl) ?_
  obtain ⟨q7, hq7, hf⟩ := mx_bd hf
  refine mx_callV C hM hl.1 yo_X13_isPerson (h' := 1) (by decide) qw_1646 qw_1648 qs_130 (ci := 13) (q := (RX13, TX13, 52)) rfl (mt_0 hT) (As := [.int i1]) (rest := []) (st1 := [.int (mx_b q7)]) (kX13_isPerson C.2.2.2.1 i1 hT (mx_si M 0 0 (0 : Int32)) hq7) rfl rfl rfl (Nat.le_of_ble_eq_true rfl) dX13_hand_7 (fun H locs hM => ?_)
  refine lv_if_eq (tgt := 29) hx hb dX13_hand_10 (by decide) (fun hc10 => ?_) (fun hc10 => ?_)
  · replace hf := mx_ift hc10 hf
    refine lv_iconst (v := (-1 : Int32)) hx hb dX13_hand_29 (by decide) ?_
    exact mx_iret C hM hf dX13_hand_30
  · replace hf := mx_iff hc10 hf
    refine lv_aload_n hx hb dX13_hand_13 rfl (lv_at hl 0 rfl) ?_
    refine lv_iload_n hx hb dX13_hand_14 rfl (lv_at hl 2 rfl) ?_
    obtain ⟨q15, hq15, hf⟩ := mx_bd hf
    refine mx_callV C hM hl.1 yo_X13_isRing (h' := 1) (by decide) qw_1674 qw_1676 qs_136 (ci := 13) (q := (RX13, TX13, 52)) rfl (mt_0 hT) (As := [.int i2]) (rest := []) (st1 := [.int (mx_b q15)]) (kX13_isRing C.2.2.2.1 i2 hT (mx_si M 0 0 (0 : Int32)) hq15) rfl rfl rfl (Nat.le_of_ble_eq_true rfl) dX13_hand_15 (fun H locs hM => ?_)
    refine lv_if_eq (tgt := 29) hx hb dX13_hand_18 (by decide) (fun hc18 => ?_) (fun hc18 => ?_)
    · replace hf := mx_ift hc18 hf
      refine lv_iconst (v := (-1 : Int32)) hx hb dX13_hand_29 (by decide) ?_
      exact mx_iret C hM hf dX13_hand_30
    · replace hf := mx_iff hc18 hf
      refine lv_aload_n hx hb dX13_hand_21 rfl (lv_at hl 0 rfl) ?_
      refine lv_iload_n hx hb dX13_hand_22 rfl (lv_at hl 3 rfl) ?_
      obtain ⟨q23, hq23, hf⟩ := mx_bd hf
      refine mx_callV C hM hl.1 yo_X13_isPerson (h' := 1) (by decide) qw_1646 qw_1648 qs_130 (ci := 13) (q := (RX13, TX13, 52)) rfl (mt_0 hT) (As := [.int i3]) (rest := []) (st1 := [.int (mx_b q23)]) (kX13_isPerson C.2.2.2.1 i3 hT (mx_si M 0 0 (0 : Int32)) hq23) rfl rfl rfl (Nat.le_of_ble_eq_true rfl) dX13_hand_23 (fun H locs hM => ?_)
      refine lv_if_ne (tgt := 31) hx hb dX13_hand_26 (by decide) (fun hc26 => ?_) (fun hc26 => ?_)
      · replace hf := mx_iff hc26 hf
        refine lv_aload_n hx hb dX13_hand_31 rfl (lv_at hl 0 rfl) ?_
        refine lv_iload_n hx hb dX13_hand_32 rfl (lv_at hl 1 rfl) ?_
        refine lv_iload_n hx hb dX13_hand_33 rfl (lv_at hl 2 rfl) ?_
        refine lv_iload_n hx hb dX13_hand_34 rfl (lv_at hl 3 rfl) ?_
        obtain ⟨q35, hq35, hf⟩ := mx_bd hf
        refine mx_callV C hM hl.1 yo_X13_whyHand (h' := 3) (by decide) qw_1721 qw_1723 qs_143 (ci := 13) (q := (RX13, TX13, 52)) rfl (mt_0 hT) (As := [.int i1, .int i2, .int i3]) (rest := []) (st1 := [.int q35]) (kX13_whyHand C.2.2.2.1 i1 i2 i3 hT (mx_si M 0 0 (0 : Int32)) hq35) rfl rfl rfl (Nat.le_of_ble_eq_true rfl) dX13_hand_35 (fun H locs hM => ?_)
        refine lv_istore (lv' := [(4, .int q35), (0, .ref (E.2.1.2.1 0)), (1, .int i1), (2, .int i2), (3, .int i3)]) hx hb dX13_hand_38 hl (by decide) rfl (fun ls hl => ?_)
        refine lv_iload hx hb dX13_hand_40 (lv_at hl 0 rfl) ?_
        refine lv_if_le (tgt := 48) hx hb dX13_hand_42 (by decide) (fun hc42 => ?_) (fun hc42 => ?_)
        · replace hf := mx_ift hc42 hf
          refine lv_aload_n hx hb dX13_hand_48 rfl (lv_at hl 1 rfl) ?_
          obtain ⟨q49, hq49, hf⟩ := mx_bd hf
          refine mx_callV C hM hl.1 yo_X13_keep (h' := 0) (by decide) qw_1709 qw_1711 qs_141 (ci := 13) (q := (RX13, TX13, 52)) rfl (mt_0 hT) (As := []) (rest := []) (st1 := []) (kX13_keep C.2.2.2.1  hT (mx_si M 0 0 (0 : Int32)) hq49) rfl rfl rfl (Nat.le_of_ble_eq_true rfl) dX13_hand_49 (fun H locs hM => ?_)
          refine lv_aload_n hx hb dX13_hand_52 rfl (lv_at hl 1 rfl) ?_
          refine lv_iload_n hx hb dX13_hand_53 rfl (lv_at hl 3 rfl) ?_
          refine lv_iload_n hx hb dX13_hand_54 rfl (lv_at hl 4 rfl) ?_
          obtain ⟨q55, hq55, hf⟩ := mx_bd hf
          refine mx_callV C hM hl.1 yo_X13_hands (h' := 0) (by decide) qw_1729 qw_1731 qs_145 (ci := 13) (q := (RX13, TX13, 52)) rfl (mt_0 hT) (As := [.int i2, .int i3]) (rest := []) (st1 := []) (kX13_hands C.2.2.2.1 i2 i3 hT q49 hq55) rfl rfl rfl (Nat.le_of_ble_eq_true rfl) dX13_hand_55 (fun H locs hM => ?_)
          refine lv_iconst (v := (0 : Int32)) hx hb dX13_hand_58 (by decide) ?_
          exact mx_iret C hM hf dX13_hand_59
        · replace hf := mx_iff hc42 hf
          refine lv_iload hx hb dX13_hand_45 (lv_at hl 0 rfl) ?_
          exact mx_iret C hM hf dX13_hand_47
      · replace hf := mx_ift hc26 hf
        refine lv_iconst (v := (-1 : Int32)) hx hb dX13_hand_29 (by decide) ?_
        exact mx_iret C hM hf dX13_hand_30
theorem dX13_wear_0 : decode cX13_wear 0 = .ok (.aload_n 0, 1) := by decide +kernel
theorem dX13_wear_1 : decode cX13_wear 1 = .ok (.iconst 0, 1) := by decide +kernel
theorem dX13_wear_2 : decode cX13_wear 2 = .ok (.putfield 1, 3) := by decide +kernel
theorem dX13_wear_5 : decode cX13_wear 5 = .ok (.aload_n 0, 1) := by decide +kernel
theorem dX13_wear_6 : decode cX13_wear 6 = .ok (.iload_n 1, 1) := by decide +kernel
theorem dX13_wear_7 : decode cX13_wear 7 = .ok (.invokevirtual 273, 3) := by decide +kernel
theorem dX13_wear_10 : decode cX13_wear 10 = .ok (.ifCond .eq 11, 3) := by decide +kernel
theorem dX13_wear_13 : decode cX13_wear 13 = .ok (.aload_n 0, 1) := by decide +kernel
theorem dX13_wear_14 : decode cX13_wear 14 = .ok (.iload_n 2, 1) := by decide +kernel
theorem dX13_wear_15 : decode cX13_wear 15 = .ok (.invokevirtual 289, 3) := by decide +kernel
theorem dX13_wear_18 : decode cX13_wear 18 = .ok (.ifCond .ne 5, 3) := by decide +kernel
theorem dX13_wear_21 : decode cX13_wear 21 = .ok (.iconst (-1), 1) := by decide +kernel
theorem dX13_wear_22 : decode cX13_wear 22 = .ok (.ireturn, 1) := by decide +kernel
theorem dX13_wear_23 : decode cX13_wear 23 = .ok (.aload_n 0, 1) := by decide +kernel
theorem dX13_wear_24 : decode cX13_wear 24 = .ok (.iload_n 1, 1) := by decide +kernel
theorem dX13_wear_25 : decode cX13_wear 25 = .ok (.iload_n 2, 1) := by decide +kernel
theorem dX13_wear_26 : decode cX13_wear 26 = .ok (.invokevirtual 327, 3) := by decide +kernel
theorem dX13_wear_29 : decode cX13_wear 29 = .ok (.istore_n 3, 1) := by decide +kernel
theorem dX13_wear_30 : decode cX13_wear 30 = .ok (.iload_n 3, 1) := by decide +kernel
theorem dX13_wear_31 : decode cX13_wear 31 = .ok (.ifCond .le 5, 3) := by decide +kernel
theorem dX13_wear_34 : decode cX13_wear 34 = .ok (.iload_n 3, 1) := by decide +kernel
theorem dX13_wear_35 : decode cX13_wear 35 = .ok (.ireturn, 1) := by decide +kernel
theorem dX13_wear_36 : decode cX13_wear 36 = .ok (.aload_n 0, 1) := by decide +kernel
theorem dX13_wear_37 : decode cX13_wear 37 = .ok (.invokevirtual 313, 3) := by decide +kernel
theorem dX13_wear_40 : decode cX13_wear 40 = .ok (.aload_n 0, 1) := by decide +kernel
theorem dX13_wear_41 : decode cX13_wear 41 = .ok (.getfield 33, 3) := by decide +kernel
theorem dX13_wear_44 : decode cX13_wear 44 = .ok (.bipush 85, 2) := by decide +kernel
theorem dX13_wear_46 : decode cX13_wear 46 = .ok (.iload_n 2, 1) := by decide +kernel
theorem dX13_wear_47 : decode cX13_wear 47 = .ok (.iadd, 1) := by decide +kernel
theorem dX13_wear_48 : decode cX13_wear 48 = .ok (.iconst 1, 1) := by decide +kernel
theorem dX13_wear_49 : decode cX13_wear 49 = .ok (.iastore, 1) := by decide +kernel
theorem dX13_wear_50 : decode cX13_wear 50 = .ok (.iconst 0, 1) := by decide +kernel
theorem dX13_wear_51 : decode cX13_wear 51 = .ok (.ireturn, 1) := by decide +kernel
set_option maxRecDepth 100000 in
set_option maxHeartbeats 4000000 in
theorem kX13_wear {E : KE} {l : Launch} (hE : mx_ok E) (i1 : Int32) (i2 : Int32) (hT : E.1 = mt) (M : MM) {q : (Int32 × MM)} (hf : fX13_wear i1 i2 M = some q) : mx_Met E l yX13_wear cX13_wear 4 (some .int) 3 [.ref (E.2.1.2.1 0), .int i1, .int i2] M (some (.int q.1)) q.2 := by
  refine mx_enter hE (by decide) (Nat.le_of_ble_eq_true rfl) ?_
  intro p e s m below meth c C hM hn ls hl
  have hx := C.1.1
  have hb := C.1.2.1
  have hown := C.1.2.2.2.1
  have hts := C.1.2.2.2.2
  have hl : lv_has ls 4 [(0, .ref (E.2.1.2.1 0)), (1, .int i1), (2, .int i2)] := hl
  rw [fX13_wear] at hf
  refine lv_aload_n hx hb dX13_wear_0 rfl (lv_at hl 0 rfl) ?_
  refine lv_iconst (v := (0 : Int32)) hx hb dX13_wear_1 (by decide) ?_
  refine p13_1 C hT hM dX13_wear_2 (fun H locs hM => ?_)
  refine lv_aload_n hx hb dX13_wear_5 rfl (lv_at hl 0 rfl) ?_
  refine lv_iload_n hx hb dX13_wear_6 rfl (lv_at hl 1 rfl) ?_
  obtain ⟨q7, hq7, hf⟩ := mx_bd hf
  refine mx_callV C hM hl.1 yo_X13_isPerson (h' := 1) (by decide) qw_1646 qw_1648 qs_130 (ci := 13) (q := (RX13, TX13, 52)) rfl (mt_0 hT) (As := [.int i1]) (rest := []) (st1 := [.int (mx_b q7)]) (kX13_isPerson C.2.2.2.1 i1 hT (mx_si M 0 0 (0 : Int32)) hq7) rfl rfl rfl (Nat.le_of_ble_eq_true rfl) dX13_wear_7 (fun H locs hM => ?_)
  refine lv_if_eq (tgt := 21) hx hb dX13_wear_10 (by decide) (fun hc10 => ?_) (fun hc10 => ?_)
  · replace hf := mx_ift hc10 hf
    refine lv_iconst (v := (-1 : Int32)) hx hb dX13_wear_21 (by decide) ?_
    exact mx_iret C hM hf dX13_wear_22
  · replace hf := mx_iff hc10 hf
    refine lv_aload_n hx hb dX13_wear_13 rfl (lv_at hl 0 rfl) ?_
    refine lv_iload_n hx hb dX13_wear_14 rfl (lv_at hl 2 rfl) ?_
    obtain ⟨q15, hq15, hf⟩ := mx_bd hf
    refine mx_callV C hM hl.1 yo_X13_isRing (h' := 1) (by decide) qw_1674 qw_1676 qs_136 (ci := 13) (q := (RX13, TX13, 52)) rfl (mt_0 hT) (As := [.int i2]) (rest := []) (st1 := [.int (mx_b q15)]) (kX13_isRing C.2.2.2.1 i2 hT (mx_si M 0 0 (0 : Int32)) hq15) rfl rfl rfl (Nat.le_of_ble_eq_true rfl) dX13_wear_15 (fun H locs hM => ?_)
    refine lv_if_ne (tgt := 23) hx hb dX13_wear_18 (by decide) (fun hc18 => ?_) (fun hc18 => ?_)
    · replace hf := mx_iff hc18 hf
      refine lv_aload_n hx hb dX13_wear_23 rfl (lv_at hl 0 rfl) ?_
      refine lv_iload_n hx hb dX13_wear_24 rfl (lv_at hl 1 rfl) ?_
      refine lv_iload_n hx hb dX13_wear_25 rfl (lv_at hl 2 rfl) ?_
      obtain ⟨q26, hq26, hf⟩ := mx_bd hf
      refine mx_callV C hM hl.1 yo_X13_whyWear (h' := 2) (by decide) qw_1737 qw_1739 qs_146 (ci := 13) (q := (RX13, TX13, 52)) rfl (mt_0 hT) (As := [.int i1, .int i2]) (rest := []) (st1 := [.int q26]) (kX13_whyWear C.2.2.2.1 i1 i2 hT (mx_si M 0 0 (0 : Int32)) hq26) rfl rfl rfl (Nat.le_of_ble_eq_true rfl) dX13_wear_26 (fun H locs hM => ?_)
      refine lv_istore_n (lv' := [(3, .int q26), (0, .ref (E.2.1.2.1 0)), (1, .int i1), (2, .int i2)]) hx hb dX13_wear_29 rfl hl (by decide) rfl (fun ls hl => ?_)
      refine lv_iload_n hx hb dX13_wear_30 rfl (lv_at hl 0 rfl) ?_
      refine lv_if_le (tgt := 36) hx hb dX13_wear_31 (by decide) (fun hc31 => ?_) (fun hc31 => ?_)
      · replace hf := mx_ift hc31 hf
        refine lv_aload_n hx hb dX13_wear_36 rfl (lv_at hl 1 rfl) ?_
        obtain ⟨q37, hq37, hf⟩ := mx_bd hf
        refine mx_callV C hM hl.1 yo_X13_keep (h' := 0) (by decide) qw_1709 qw_1711 qs_141 (ci := 13) (q := (RX13, TX13, 52)) rfl (mt_0 hT) (As := []) (rest := []) (st1 := []) (kX13_keep C.2.2.2.1  hT (mx_si M 0 0 (0 : Int32)) hq37) rfl rfl rfl (Nat.le_of_ble_eq_true rfl) dX13_wear_37 (fun H locs hM => ?_)
        refine lv_aload_n hx hb dX13_wear_40 rfl (lv_at hl 1 rfl) ?_
        refine g13_33 C hT hM dX13_wear_41 ?_
        refine lv_bipush (v := (85 : Int32)) hx hb dX13_wear_44 (by decide) ?_
        refine lv_iload_n hx hb dX13_wear_46 rfl (lv_at hl 3 rfl) ?_
        refine lv_iadd hx hb dX13_wear_47 ?_
        refine lv_iconst (v := (1 : Int32)) hx hb dX13_wear_48 (by decide) ?_
        obtain ⟨hg49, hf⟩ := mx_gd hf
        refine mx_iast C hM (mt_2 hT) (mx_in_vp hg49) dX13_wear_49 (fun H locs hM => ?_)
        refine lv_iconst (v := (0 : Int32)) hx hb dX13_wear_50 (by decide) ?_
        exact mx_iret C hM hf dX13_wear_51
      · replace hf := mx_iff hc31 hf
        refine lv_iload_n hx hb dX13_wear_34 rfl (lv_at hl 0 rfl) ?_
        exact mx_iret C hM hf dX13_wear_35
    · replace hf := mx_ift hc18 hf
      refine lv_iconst (v := (-1 : Int32)) hx hb dX13_wear_21 (by decide) ?_
      exact mx_iret C hM hf dX13_wear_22
theorem dX13_doff_0 : decode cX13_doff 0 = .ok (.aload_n 0, 1) := by decide +kernel
theorem dX13_doff_1 : decode cX13_doff 1 = .ok (.iconst 0, 1) := by decide +kernel
theorem dX13_doff_2 : decode cX13_doff 2 = .ok (.putfield 1, 3) := by decide +kernel
theorem dX13_doff_5 : decode cX13_doff 5 = .ok (.aload_n 0, 1) := by decide +kernel
theorem dX13_doff_6 : decode cX13_doff 6 = .ok (.iload_n 1, 1) := by decide +kernel
theorem dX13_doff_7 : decode cX13_doff 7 = .ok (.invokevirtual 273, 3) := by decide +kernel
theorem dX13_doff_10 : decode cX13_doff 10 = .ok (.ifCond .ne 5, 3) := by decide +kernel
theorem dX13_doff_13 : decode cX13_doff 13 = .ok (.iconst (-1), 1) := by decide +kernel
theorem dX13_doff_14 : decode cX13_doff 14 = .ok (.ireturn, 1) := by decide +kernel
theorem dX13_doff_15 : decode cX13_doff 15 = .ok (.aload_n 0, 1) := by decide +kernel
theorem dX13_doff_16 : decode cX13_doff 16 = .ok (.iload_n 1, 1) := by decide +kernel
theorem dX13_doff_17 : decode cX13_doff 17 = .ok (.invokevirtual 283, 3) := by decide +kernel
theorem dX13_doff_20 : decode cX13_doff 20 = .ok (.ifCond .ge 5, 3) := by decide +kernel
theorem dX13_doff_23 : decode cX13_doff 23 = .ok (.iconst 1, 1) := by decide +kernel
theorem dX13_doff_24 : decode cX13_doff 24 = .ok (.ireturn, 1) := by decide +kernel
theorem dX13_doff_25 : decode cX13_doff 25 = .ok (.aload_n 0, 1) := by decide +kernel
theorem dX13_doff_26 : decode cX13_doff 26 = .ok (.invokevirtual 313, 3) := by decide +kernel
theorem dX13_doff_29 : decode cX13_doff 29 = .ok (.aload_n 0, 1) := by decide +kernel
theorem dX13_doff_30 : decode cX13_doff 30 = .ok (.getfield 33, 3) := by decide +kernel
theorem dX13_doff_33 : decode cX13_doff 33 = .ok (.bipush 85, 2) := by decide +kernel
theorem dX13_doff_35 : decode cX13_doff 35 = .ok (.aload_n 0, 1) := by decide +kernel
theorem dX13_doff_36 : decode cX13_doff 36 = .ok (.iload_n 1, 1) := by decide +kernel
theorem dX13_doff_37 : decode cX13_doff 37 = .ok (.invokevirtual 283, 3) := by decide +kernel
theorem dX13_doff_40 : decode cX13_doff 40 = .ok (.iadd, 1) := by decide +kernel
theorem dX13_doff_41 : decode cX13_doff 41 = .ok (.iconst 0, 1) := by decide +kernel
theorem dX13_doff_42 : decode cX13_doff 42 = .ok (.iastore, 1) := by decide +kernel
theorem dX13_doff_43 : decode cX13_doff 43 = .ok (.iconst 0, 1) := by decide +kernel
theorem dX13_doff_44 : decode cX13_doff 44 = .ok (.ireturn, 1) := by decide +kernel
set_option maxRecDepth 100000 in
set_option maxHeartbeats 4000000 in
theorem kX13_doff {E : KE} {l : Launch} (hE : mx_ok E) (i1 : Int32) (hT : E.1 = mt) (M : MM) {q : (Int32 × MM)} (hf : fX13_doff i1 M = some q) : mx_Met E l yX13_doff cX13_doff 2 (some .int) 2 [.ref (E.2.1.2.1 0), .int i1] M (some (.int q.1)) q.2 := by
  refine mx_enter hE (by decide) (Nat.le_of_ble_eq_true rfl) ?_
  intro p e s m below meth c C hM hn ls hl
  have hx := C.1.1
  have hb := C.1.2.1
  have hown := C.1.2.2.2.1
  have hts := C.1.2.2.2.2
  have hl : lv_has ls 2 [(0, .ref (E.2.1.2.1 0)), (1, .int i1)] := hl
  rw [fX13_doff] at hf
  refine lv_aload_n hx hb dX13_doff_0 rfl (lv_at hl 0 rfl) ?_
  refine lv_iconst (v := (0 : Int32)) hx hb dX13_doff_1 (by decide) ?_
  refine p13_1 C hT hM dX13_doff_2 (fun H locs hM => ?_)
  refine lv_aload_n hx hb dX13_doff_5 rfl (lv_at hl 0 rfl) ?_
  refine lv_iload_n hx hb dX13_doff_6 rfl (lv_at hl 1 rfl) ?_
  obtain ⟨q7, hq7, hf⟩ := mx_bd hf
  refine mx_callV C hM hl.1 yo_X13_isPerson (h' := 1) (by decide) qw_1646 qw_1648 qs_130 (ci := 13) (q := (RX13, TX13, 52)) rfl (mt_0 hT) (As := [.int i1]) (rest := []) (st1 := [.int (mx_b q7)]) (kX13_isPerson C.2.2.2.1 i1 hT (mx_si M 0 0 (0 : Int32)) hq7) rfl rfl rfl (Nat.le_of_ble_eq_true rfl) dX13_doff_7 (fun H locs hM => ?_)
  refine lv_if_ne (tgt := 15) hx hb dX13_doff_10 (by decide) (fun hc10 => ?_) (fun hc10 => ?_)
  · replace hf := mx_iff hc10 hf
    refine lv_aload_n hx hb dX13_doff_15 rfl (lv_at hl 0 rfl) ?_
    refine lv_iload_n hx hb dX13_doff_16 rfl (lv_at hl 1 rfl) ?_
    obtain ⟨q17, hq17, hf⟩ := mx_bd hf
    refine mx_callV C hM hl.1 yo_X13_wornBy (h' := 0) (by decide) qw_1662 qw_1664 qs_134 (ci := 13) (q := (RX13, TX13, 52)) rfl (mt_0 hT) (As := [.int i1]) (rest := []) (st1 := [.int q17]) (kX13_wornBy C.2.2.2.1 i1 hT (mx_si M 0 0 (0 : Int32)) hq17) rfl rfl rfl (Nat.le_of_ble_eq_true rfl) dX13_doff_17 (fun H locs hM => ?_)
    refine lv_if_ge (tgt := 25) hx hb dX13_doff_20 (by decide) (fun hc20 => ?_) (fun hc20 => ?_)
    · replace hf := mx_ift hc20 hf
      refine lv_aload_n hx hb dX13_doff_25 rfl (lv_at hl 0 rfl) ?_
      obtain ⟨q26, hq26, hf⟩ := mx_bd hf
      refine mx_callV C hM hl.1 yo_X13_keep (h' := 0) (by decide) qw_1709 qw_1711 qs_141 (ci := 13) (q := (RX13, TX13, 52)) rfl (mt_0 hT) (As := []) (rest := []) (st1 := []) (kX13_keep C.2.2.2.1  hT (mx_si M 0 0 (0 : Int32)) hq26) rfl rfl rfl (Nat.le_of_ble_eq_true rfl) dX13_doff_26 (fun H locs hM => ?_)
      refine lv_aload_n hx hb dX13_doff_29 rfl (lv_at hl 0 rfl) ?_
      refine g13_33 C hT hM dX13_doff_30 ?_
      refine lv_bipush (v := (85 : Int32)) hx hb dX13_doff_33 (by decide) ?_
      refine lv_aload_n hx hb dX13_doff_35 rfl (lv_at hl 0 rfl) ?_
      refine lv_iload_n hx hb dX13_doff_36 rfl (lv_at hl 1 rfl) ?_
      obtain ⟨q37, hq37, hf⟩ := mx_bd hf
      refine mx_callV C hM hl.1 yo_X13_wornBy (h' := 0) (by decide) qw_1662 qw_1664 qs_134 (ci := 13) (q := (RX13, TX13, 52)) rfl (mt_0 hT) (As := [.int i1]) (rest := [.int (85 : Int32), .ref (E.2.1.2.1 2)]) (st1 := [.int q37, .int (85 : Int32), .ref (E.2.1.2.1 2)]) (kX13_wornBy C.2.2.2.1 i1 hT q26 hq37) rfl rfl rfl (Nat.le_of_ble_eq_true rfl) dX13_doff_37 (fun H locs hM => ?_)
      refine lv_iadd hx hb dX13_doff_40 ?_
      refine lv_iconst (v := (0 : Int32)) hx hb dX13_doff_41 (by decide) ?_
      obtain ⟨hg42, hf⟩ := mx_gd hf
      refine mx_iast C hM (mt_2 hT) (mx_in_vp hg42) dX13_doff_42 (fun H locs hM => ?_)
      refine lv_iconst (v := (0 : Int32)) hx hb dX13_doff_43 (by decide) ?_
      exact mx_iret C hM hf dX13_doff_44
    · replace hf := mx_iff hc20 hf
      refine lv_iconst (v := (1 : Int32)) hx hb dX13_doff_23 (by decide) ?_
      exact mx_iret C hM hf dX13_doff_24
  · replace hf := mx_ift hc10 hf
    refine lv_iconst (v := (-1 : Int32)) hx hb dX13_doff_13 (by decide) ?_
    exact mx_iret C hM hf dX13_doff_14
theorem dX13_find_0 : decode cX13_find 0 = .ok (.aload_n 0, 1) := by decide +kernel
theorem dX13_find_1 : decode cX13_find 1 = .ok (.iconst 0, 1) := by decide +kernel
theorem dX13_find_2 : decode cX13_find 2 = .ok (.putfield 1, 3) := by decide +kernel
theorem dX13_find_5 : decode cX13_find 5 = .ok (.aload_n 0, 1) := by decide +kernel
theorem dX13_find_6 : decode cX13_find 6 = .ok (.iload_n 1, 1) := by decide +kernel
theorem dX13_find_7 : decode cX13_find 7 = .ok (.invokevirtual 273, 3) := by decide +kernel
theorem dX13_find_10 : decode cX13_find 10 = .ok (.ifCond .eq 11, 3) := by decide +kernel
theorem dX13_find_13 : decode cX13_find 13 = .ok (.aload_n 0, 1) := by decide +kernel
theorem dX13_find_14 : decode cX13_find 14 = .ok (.iload_n 2, 1) := by decide +kernel
theorem dX13_find_15 : decode cX13_find 15 = .ok (.invokevirtual 289, 3) := by decide +kernel
theorem dX13_find_18 : decode cX13_find 18 = .ok (.ifCond .ne 5, 3) := by decide +kernel
theorem dX13_find_21 : decode cX13_find 21 = .ok (.iconst (-1), 1) := by decide +kernel
theorem dX13_find_22 : decode cX13_find 22 = .ok (.ireturn, 1) := by decide +kernel
theorem dX13_find_23 : decode cX13_find 23 = .ok (.aload_n 0, 1) := by decide +kernel
theorem dX13_find_24 : decode cX13_find 24 = .ok (.iload_n 1, 1) := by decide +kernel
theorem dX13_find_25 : decode cX13_find 25 = .ok (.iload_n 2, 1) := by decide +kernel
theorem dX13_find_26 : decode cX13_find 26 = .ok (.invokevirtual 330, 3) := by decide +kernel
theorem dX13_find_29 : decode cX13_find 29 = .ok (.istore_n 3, 1) := by decide +kernel
theorem dX13_find_30 : decode cX13_find 30 = .ok (.iload_n 3, 1) := by decide +kernel
theorem dX13_find_31 : decode cX13_find 31 = .ok (.ifCond .le 5, 3) := by decide +kernel
theorem dX13_find_34 : decode cX13_find 34 = .ok (.iload_n 3, 1) := by decide +kernel
theorem dX13_find_35 : decode cX13_find 35 = .ok (.ireturn, 1) := by decide +kernel
theorem dX13_find_36 : decode cX13_find 36 = .ok (.aload_n 0, 1) := by decide +kernel
theorem dX13_find_37 : decode cX13_find 37 = .ok (.invokevirtual 313, 3) := by decide +kernel
theorem dX13_find_40 : decode cX13_find 40 = .ok (.aload_n 0, 1) := by decide +kernel
theorem dX13_find_41 : decode cX13_find 41 = .ok (.iload_n 1, 1) := by decide +kernel
theorem dX13_find_42 : decode cX13_find 42 = .ok (.iload_n 2, 1) := by decide +kernel
theorem dX13_find_43 : decode cX13_find 43 = .ok (.invokevirtual 333, 3) := by decide +kernel
theorem dX13_find_46 : decode cX13_find 46 = .ok (.iconst 0, 1) := by decide +kernel
theorem dX13_find_47 : decode cX13_find 47 = .ok (.ireturn, 1) := by decide +kernel
set_option maxRecDepth 100000 in
set_option maxHeartbeats 4000000 in
theorem kX13_find {E : KE} {l : Launch} (hE : mx_ok E) (i1 : Int32) (i2 : Int32) (hT : E.1 = mt) (M : MM) {q : (Int32 × MM)} (hf : fX13_find i1 i2 M = some q) : mx_Met E l yX13_find cX13_find 4 (some .int) 3 [.ref (E.2.1.2.1 0), .int i1, .int i2] M (some (.int q.1)) q.2 := by
  refine mx_enter hE (by decide) (Nat.le_of_ble_eq_true rfl) ?_
  intro p e s m below meth c C hM hn ls hl
  have hx := C.1.1
  have hb := C.1.2.1
  have hown := C.1.2.2.2.1
  have hts := C.1.2.2.2.2
  have hl : lv_has ls 4 [(0, .ref (E.2.1.2.1 0)), (1, .int i1), (2, .int i2)] := hl
  rw [fX13_find] at hf
  refine lv_aload_n hx hb dX13_find_0 rfl (lv_at hl 0 rfl) ?_
  refine lv_iconst (v := (0 : Int32)) hx hb dX13_find_1 (by decide) ?_
  refine p13_1 C hT hM dX13_find_2 (fun H locs hM => ?_)
  refine lv_aload_n hx hb dX13_find_5 rfl (lv_at hl 0 rfl) ?_
  refine lv_iload_n hx hb dX13_find_6 rfl (lv_at hl 1 rfl) ?_
  obtain ⟨q7, hq7, hf⟩ := mx_bd hf
  refine mx_callV C hM hl.1 yo_X13_isPerson (h' := 1) (by decide) qw_1646 qw_1648 qs_130 (ci := 13) (q := (RX13, TX13, 52)) rfl (mt_0 hT) (As := [.int i1]) (rest := []) (st1 := [.int (mx_b q7)]) (kX13_isPerson C.2.2.2.1 i1 hT (mx_si M 0 0 (0 : Int32)) hq7) rfl rfl rfl (Nat.le_of_ble_eq_true rfl) dX13_find_7 (fun H locs hM => ?_)
  refine lv_if_eq (tgt := 21) hx hb dX13_find_10 (by decide) (fun hc10 => ?_) (fun hc10 => ?_)
  · replace hf := mx_ift hc10 hf
    refine lv_iconst (v := (-1 : Int32)) hx hb dX13_find_21 (by decide) ?_
    exact mx_iret C hM hf dX13_find_22
  · replace hf := mx_iff hc10 hf
    refine lv_aload_n hx hb dX13_find_13 rfl (lv_at hl 0 rfl) ?_
    refine lv_iload_n hx hb dX13_find_14 rfl (lv_at hl 2 rfl) ?_
    obtain ⟨q15, hq15, hf⟩ := mx_bd hf
    refine mx_callV C hM hl.1 yo_X13_isRing (h' := 1) (by decide) qw_1674 qw_1676 qs_136 (ci := 13) (q := (RX13, TX13, 52)) rfl (mt_0 hT) (As := [.int i2]) (rest := []) (st1 := [.int (mx_b q15)]) (kX13_isRing C.2.2.2.1 i2 hT (mx_si M 0 0 (0 : Int32)) hq15) rfl rfl rfl (Nat.le_of_ble_eq_true rfl) dX13_find_15 (fun H locs hM => ?_)
    refine lv_if_ne (tgt := 23) hx hb dX13_find_18 (by decide) (fun hc18 => ?_) (fun hc18 => ?_)
    · replace hf := mx_iff hc18 hf
      refine lv_aload_n hx hb dX13_find_23 rfl (lv_at hl 0 rfl) ?_
      refine lv_iload_n hx hb dX13_find_24 rfl (lv_at hl 1 rfl) ?_
      refine lv_iload_n hx hb dX13_find_25 rfl (lv_at hl 2 rfl) ?_
      obtain ⟨q26, hq26, hf⟩ := mx_bd hf
      refine mx_callV C hM hl.1 yo_X13_whyFind (h' := 2) (by decide) qw_1753 qw_1755 qs_148 (ci := 13) (q := (RX13, TX13, 52)) rfl (mt_0 hT) (As := [.int i1, .int i2]) (rest := []) (st1 := [.int q26]) (kX13_whyFind C.2.2.2.1 i1 i2 hT (mx_si M 0 0 (0 : Int32)) hq26) rfl rfl rfl (Nat.le_of_ble_eq_true rfl) dX13_find_26 (fun H locs hM => ?_)
      refine lv_istore_n (lv' := [(3, .int q26), (0, .ref (E.2.1.2.1 0)), (1, .int i1), (2, .int i2)]) hx hb dX13_find_29 rfl hl (by decide) rfl (fun ls hl => ?_)
      refine lv_iload_n hx hb dX13_find_30 rfl (lv_at hl 0 rfl) ?_
      refine lv_if_le (tgt := 36) hx hb dX13_find_31 (by decide) (fun hc31 => ?_) (fun hc31 => ?_)
      · replace hf := mx_ift hc31 hf
        refine lv_aload_n hx hb dX13_find_36 rfl (lv_at hl 1 rfl) ?_
        obtain ⟨q37, hq37, hf⟩ := mx_bd hf
        refine mx_callV C hM hl.1 yo_X13_keep (h' := 0) (by decide) qw_1709 qw_1711 qs_141 (ci := 13) (q := (RX13, TX13, 52)) rfl (mt_0 hT) (As := []) (rest := []) (st1 := []) (kX13_keep C.2.2.2.1  hT (mx_si M 0 0 (0 : Int32)) hq37) rfl rfl rfl (Nat.le_of_ble_eq_true rfl) dX13_find_37 (fun H locs hM => ?_)
        refine lv_aload_n hx hb dX13_find_40 rfl (lv_at hl 1 rfl) ?_
        refine lv_iload_n hx hb dX13_find_41 rfl (lv_at hl 2 rfl) ?_
        refine lv_iload_n hx hb dX13_find_42 rfl (lv_at hl 3 rfl) ?_
        obtain ⟨q43, hq43, hf⟩ := mx_bd hf
        refine mx_callV C hM hl.1 yo_X13_finds (h' := 0) (by decide) qw_1757 qw_1759 qs_149 (ci := 13) (q := (RX13, TX13, 52)) rfl (mt_0 hT) (As := [.int i1, .int i2]) (rest := []) (st1 := []) (kX13_finds C.2.2.2.1 i1 i2 hT q37 hq43) rfl rfl rfl (Nat.le_of_ble_eq_true rfl) dX13_find_43 (fun H locs hM => ?_)
        refine lv_iconst (v := (0 : Int32)) hx hb dX13_find_46 (by decide) ?_
        exact mx_iret C hM hf dX13_find_47
      · replace hf := mx_iff hc31 hf
        refine lv_iload_n hx hb dX13_find_34 rfl (lv_at hl 0 rfl) ?_
        exact mx_iret C hM hf dX13_find_35
    · replace hf := mx_ift hc18 hf
      refine lv_iconst (v := (-1 : Int32)) hx hb dX13_find_21 (by decide) ?_
      exact mx_iret C hM hf dX13_find_22
theorem dX13_days_0 : decode cX13_days 0 = .ok (.aload_n 0, 1) := by decide +kernel
theorem dX13_days_1 : decode cX13_days 1 = .ok (.iconst 0, 1) := by decide +kernel
theorem dX13_days_2 : decode cX13_days 2 = .ok (.putfield 1, 3) := by decide +kernel
theorem dX13_days_5 : decode cX13_days 5 = .ok (.iload_n 1, 1) := by decide +kernel
theorem dX13_days_6 : decode cX13_days 6 = .ok (.iconst 1, 1) := by decide +kernel
theorem dX13_days_7 : decode cX13_days 7 = .ok (.bipush 60, 2) := by decide +kernel
theorem dX13_days_9 : decode cX13_days 9 = .ok (.invokestatic 193, 3) := by decide +kernel
theorem dX13_days_12 : decode cX13_days 12 = .ok (.ifCond .ne 5, 3) := by decide +kernel
theorem dX13_days_15 : decode cX13_days 15 = .ok (.iconst (-1), 1) := by decide +kernel
theorem dX13_days_16 : decode cX13_days 16 = .ok (.ireturn, 1) := by decide +kernel
theorem dX13_days_17 : decode cX13_days 17 = .ok (.aload_n 0, 1) := by decide +kernel
theorem dX13_days_18 : decode cX13_days 18 = .ok (.getfield 33, 3) := by decide +kernel
theorem dX13_days_21 : decode cX13_days 21 = .ok (.bipush 54, 2) := by decide +kernel
theorem dX13_days_23 : decode cX13_days 23 = .ok (.iaload, 1) := by decide +kernel
theorem dX13_days_24 : decode cX13_days 24 = .ok (.sipush 400, 3) := by decide +kernel
theorem dX13_days_27 : decode cX13_days 27 = .ok (.if_icmp .ne 5, 3) := by decide +kernel
theorem dX13_days_30 : decode cX13_days 30 = .ok (.iconst 0, 1) := by decide +kernel
theorem dX13_days_31 : decode cX13_days 31 = .ok (.ireturn, 1) := by decide +kernel
theorem dX13_days_32 : decode cX13_days 32 = .ok (.aload_n 0, 1) := by decide +kernel
theorem dX13_days_33 : decode cX13_days 33 = .ok (.invokevirtual 313, 3) := by decide +kernel
theorem dX13_days_36 : decode cX13_days 36 = .ok (.aload_n 0, 1) := by decide +kernel
theorem dX13_days_37 : decode cX13_days 37 = .ok (.iload_n 1, 1) := by decide +kernel
theorem dX13_days_38 : decode cX13_days 38 = .ok (.invokevirtual 336, 3) := by decide +kernel
theorem dX13_days_41 : decode cX13_days 41 = .ok (.ireturn, 1) := by decide +kernel
set_option maxRecDepth 100000 in
set_option maxHeartbeats 4000000 in
theorem kX13_days {E : KE} {l : Launch} (hE : mx_ok E) (i1 : Int32) (hT : E.1 = mt) (M : MM) {q : (Int32 × MM)} (hf : fX13_days i1 M = some q) : mx_Met E l yX13_days cX13_days 2 (some .int) 4 [.ref (E.2.1.2.1 0), .int i1] M (some (.int q.1)) q.2 := by
  refine mx_enter hE (by decide) (Nat.le_of_ble_eq_true rfl) ?_
  intro p e s m below meth c C hM hn ls hl
  have hx := C.1.1
  have hb := C.1.2.1
  have hown := C.1.2.2.2.1
  have hts := C.1.2.2.2.2
  have hl : lv_has ls 2 [(0, .ref (E.2.1.2.1 0)), (1, .int i1)] := hl
  rw [fX13_days] at hf
  refine lv_aload_n hx hb dX13_days_0 rfl (lv_at hl 0 rfl) ?_
  refine lv_iconst (v := (0 : Int32)) hx hb dX13_days_1 (by decide) ?_
  refine p13_1 C hT hM dX13_days_2 (fun H locs hM => ?_)
  refine lv_iload_n hx hb dX13_days_5 rfl (lv_at hl 1 rfl) ?_
  refine lv_iconst (v := (1 : Int32)) hx hb dX13_days_6 (by decide) ?_
  refine lv_bipush (v := (60 : Int32)) hx hb dX13_days_7 (by decide) ?_
  obtain ⟨q9, hq9, hf⟩ := mx_bd hf
  refine mx_callS C hM hl.1 yo_X13_isIn (h' := 0) (by decide) qw_1608 qw_1609 (As := [.int i1, .int (1 : Int32), .int (60 : Int32)]) (rest := []) (st1 := [.int (mx_b q9)]) (kX13_isIn C.2.2.2.1 i1 (1 : Int32) (60 : Int32) hT (mx_si M 0 0 (0 : Int32)) hq9) rfl rfl rfl (Nat.le_of_ble_eq_true rfl) dX13_days_9 (fun H locs hM => ?_)
  refine lv_if_ne (tgt := 17) hx hb dX13_days_12 (by decide) (fun hc12 => ?_) (fun hc12 => ?_)
  · replace hf := mx_iff hc12 hf
    refine lv_aload_n hx hb dX13_days_17 rfl (lv_at hl 0 rfl) ?_
    refine g13_33 C hT hM dX13_days_18 ?_
    refine lv_bipush (v := (54 : Int32)) hx hb dX13_days_21 (by decide) ?_
    refine mx_ialdL C hM (mt_2 hT) (j := 54) (by decide) (mx_in_vp (by decide)) dX13_days_23 ?_
    refine lv_sipush (v := (400 : Int32)) hx hb dX13_days_24 (by decide) ?_
    refine lv_icmp_ne (tgt := 32) hx hb dX13_days_27 (by decide) (fun hc27 => ?_) (fun hc27 => ?_)
    · replace hf := mx_iff hc27 hf
      refine lv_aload_n hx hb dX13_days_32 rfl (lv_at hl 0 rfl) ?_
      obtain ⟨q33, hq33, hf⟩ := mx_bd hf
      refine mx_callV C hM hl.1 yo_X13_keep (h' := 0) (by decide) qw_1709 qw_1711 qs_141 (ci := 13) (q := (RX13, TX13, 52)) rfl (mt_0 hT) (As := []) (rest := []) (st1 := []) (kX13_keep C.2.2.2.1  hT (mx_si M 0 0 (0 : Int32)) hq33) rfl rfl rfl (Nat.le_of_ble_eq_true rfl) dX13_days_33 (fun H locs hM => ?_)
      refine lv_aload_n hx hb dX13_days_36 rfl (lv_at hl 0 rfl) ?_
      refine lv_iload_n hx hb dX13_days_37 rfl (lv_at hl 1 rfl) ?_
      obtain ⟨q38, hq38, hf⟩ := mx_bd hf
      refine mx_callV C hM hl.1 yo_X13_goesOn (h' := 3) (by decide) qw_1765 qw_1767 qs_150 (ci := 13) (q := (RX13, TX13, 52)) rfl (mt_0 hT) (As := [.int i1]) (rest := []) (st1 := [.int q38.1]) (kX13_goesOn C.2.2.2.1 i1 hT q33 hq38) rfl rfl rfl (Nat.le_of_ble_eq_true rfl) dX13_days_38 (fun H locs hM => ?_)
      exact mx_iret C hM hf dX13_days_41
    · replace hf := mx_ift hc27 hf
      refine lv_iconst (v := (0 : Int32)) hx hb dX13_days_30 (by decide) ?_
      exact mx_iret C hM hf dX13_days_31
  · replace hf := mx_ift hc12 hf
    refine lv_iconst (v := (-1 : Int32)) hx hb dX13_days_15 (by decide) ?_
    exact mx_iret C hM hf dX13_days_16
theorem dX13_undo_0 : decode cX13_undo 0 = .ok (.aload_n 0, 1) := by decide +kernel
theorem dX13_undo_1 : decode cX13_undo 1 = .ok (.iconst 0, 1) := by decide +kernel
theorem dX13_undo_2 : decode cX13_undo 2 = .ok (.putfield 1, 3) := by decide +kernel
theorem dX13_undo_5 : decode cX13_undo 5 = .ok (.aload_n 0, 1) := by decide +kernel
theorem dX13_undo_6 : decode cX13_undo 6 = .ok (.getfield 256, 3) := by decide +kernel
theorem dX13_undo_9 : decode cX13_undo 9 = .ok (.ifCond .ne 5, 3) := by decide +kernel
theorem dX13_undo_12 : decode cX13_undo 12 = .ok (.iconst (-1), 1) := by decide +kernel
theorem dX13_undo_13 : decode cX13_undo 13 = .ok (.ireturn, 1) := by decide +kernel
theorem dX13_undo_14 : decode cX13_undo 14 = .ok (.aload_n 0, 1) := by decide +kernel
theorem dX13_undo_15 : decode cX13_undo 15 = .ok (.dup, 1) := by decide +kernel
theorem dX13_undo_16 : decode cX13_undo 16 = .ok (.getfield 256, 3) := by decide +kernel
theorem dX13_undo_19 : decode cX13_undo 19 = .ok (.iconst 1, 1) := by decide +kernel
theorem dX13_undo_20 : decode cX13_undo 20 = .ok (.isub, 1) := by decide +kernel
theorem dX13_undo_21 : decode cX13_undo 21 = .ok (.putfield 256, 3) := by decide +kernel
theorem dX13_undo_24 : decode cX13_undo 24 = .ok (.iconst 0, 1) := by decide +kernel
theorem dX13_undo_25 : decode cX13_undo 25 = .ok (.istore_n 1, 1) := by decide +kernel
theorem dX13_undo_26 : decode cX13_undo 26 = .ok (.iload_n 1, 1) := by decide +kernel
theorem dX13_undo_27 : decode cX13_undo 27 = .ok (.bipush 59, 2) := by decide +kernel
theorem dX13_undo_29 : decode cX13_undo 29 = .ok (.if_icmp .ge 32, 3) := by decide +kernel
theorem dX13_undo_32 : decode cX13_undo 32 = .ok (.aload_n 0, 1) := by decide +kernel
theorem dX13_undo_33 : decode cX13_undo 33 = .ok (.getfield 33, 3) := by decide +kernel
theorem dX13_undo_36 : decode cX13_undo 36 = .ok (.bipush 54, 2) := by decide +kernel
theorem dX13_undo_38 : decode cX13_undo 38 = .ok (.iload_n 1, 1) := by decide +kernel
theorem dX13_undo_39 : decode cX13_undo 39 = .ok (.iadd, 1) := by decide +kernel
theorem dX13_undo_40 : decode cX13_undo 40 = .ok (.aload_n 0, 1) := by decide +kernel
theorem dX13_undo_41 : decode cX13_undo 41 = .ok (.getfield 50, 3) := by decide +kernel
theorem dX13_undo_44 : decode cX13_undo 44 = .ok (.bipush 59, 2) := by decide +kernel
theorem dX13_undo_46 : decode cX13_undo 46 = .ok (.aload_n 0, 1) := by decide +kernel
theorem dX13_undo_47 : decode cX13_undo 47 = .ok (.getfield 256, 3) := by decide +kernel
theorem dX13_undo_50 : decode cX13_undo 50 = .ok (.imul, 1) := by decide +kernel
theorem dX13_undo_51 : decode cX13_undo 51 = .ok (.iload_n 1, 1) := by decide +kernel
theorem dX13_undo_52 : decode cX13_undo 52 = .ok (.iadd, 1) := by decide +kernel
theorem dX13_undo_53 : decode cX13_undo 53 = .ok (.iaload, 1) := by decide +kernel
theorem dX13_undo_54 : decode cX13_undo 54 = .ok (.iastore, 1) := by decide +kernel
theorem dX13_undo_55 : decode cX13_undo 55 = .ok (.iinc 1 1, 3) := by decide +kernel
theorem dX13_undo_58 : decode cX13_undo 58 = .ok (.goto (-32), 3) := by decide +kernel
theorem dX13_undo_61 : decode cX13_undo 61 = .ok (.aload_n 0, 1) := by decide +kernel
theorem dX13_undo_62 : decode cX13_undo 62 = .ok (.getfield 256, 3) := by decide +kernel
theorem dX13_undo_65 : decode cX13_undo 65 = .ok (.ireturn, 1) := by decide +kernel
set_option maxRecDepth 100000 in
set_option maxHeartbeats 4000000 in
theorem wfX13_undo_26 {E : KE} {p : Program} {l : Launch} {e : Env} {s : State} {m : MethodId} {args : Array Value} {below : List Frame} {meth : Method} {c : Code} {q : (Int32 × MM)} (C : mx_C E p m c cX13_undo 2 s args RX13 meth (some .int))  (hT : E.1 = mt)   : ∀ (n : Nat) (i1 : Int32) (M : MM) (H : Heap) (locs : List Loc) (ls : Array Slot), fX13_undo_26 n i1 M = some q → mx_H E s M H locs → lv_has ls 2 [(0, .ref (E.2.1.2.1 0)), (1, .int i1)] → W p l e (mx_rm 0) s m args below meth c H locs 0 0 (mx_Z E below args s (some (.int q.1)) q.2) (F0 m 26 ls []) := by
  have hx := C.1.1
  have hb := C.1.2.1
  have hown := C.1.2.2.2.1
  have hts := C.1.2.2.2.2
  intro n
  induction n with
  | zero =>
    intro i1 M H locs ls hf hM hl
    rw [fX13_undo_26] at hf
    cases hf
  | succ n ih =>
    intro i1 M H locs ls hf hM hl
    rw [fX13_undo_26] at hf
    refine lv_iload_n hx hb dX13_undo_26 rfl (lv_at hl 1 rfl) ?_
    refine lv_bipush (v := (59 : Int32)) hx hb dX13_undo_27 (by decide) ?_
    refine lv_icmp_ge (tgt := 61) hx hb dX13_undo_29 (by decide) (fun hc29 => ?_) (fun hc29 => ?_)
    · replace hf := mx_ift hc29 hf
      refine lv_aload_n hx hb dX13_undo_61 rfl (lv_at hl 0 rfl) ?_
      refine g13_256 C hT hM dX13_undo_62 ?_
      exact mx_iret C hM hf dX13_undo_65
    · replace hf := mx_iff hc29 hf
      refine lv_aload_n hx hb dX13_undo_32 rfl (lv_at hl 0 rfl) ?_
      refine g13_33 C hT hM dX13_undo_33 ?_
      refine lv_bipush (v := (54 : Int32)) hx hb dX13_undo_36 (by decide) ?_
      refine lv_iload_n hx hb dX13_undo_38 rfl (lv_at hl 1 rfl) ?_
      refine lv_iadd hx hb dX13_undo_39 ?_
      refine lv_aload_n hx hb dX13_undo_40 rfl (lv_at hl 0 rfl) ?_
      refine g13_50 C hT hM dX13_undo_41 ?_
      refine lv_bipush (v := (59 : Int32)) hx hb dX13_undo_44 (by decide) ?_
      refine lv_aload_n hx hb dX13_undo_46 rfl (lv_at hl 0 rfl) ?_
      refine g13_256 C hT hM dX13_undo_47 ?_
      refine lv_imul hx hb dX13_undo_50 ?_
      refine lv_iload_n hx hb dX13_undo_51 rfl (lv_at hl 1 rfl) ?_
      refine lv_iadd hx hb dX13_undo_52 ?_
      obtain ⟨hg53, hf⟩ := mx_gd hf
      refine mx_iald C hM (mt_7 hT) (mx_in_vp hg53) dX13_undo_53 ?_
      obtain ⟨hg54, hf⟩ := mx_gd hf
      refine mx_iast C hM (mt_2 hT) (mx_in_vp hg54) dX13_undo_54 (fun H locs hM => ?_)
      refine lv_iinc (v := (i1 + (1 : Int32))) (lv' := [(1, .int (i1 + (1 : Int32))), (0, .ref (E.2.1.2.1 0))]) hx hb dX13_undo_55 hl (k := 1) rfl rfl (by decide) rfl (fun ls hl => ?_)
      refine lv_goto (tgt := 26) hx hb dX13_undo_58 (by decide) ?_
      exact ih (i1 + (1 : Int32)) (mx_si M 2 ((54 : Int32) + i1).toNatClampNeg (M.1 7 (((59 : Int32) * (M.1 0 23)) + i1).toNatClampNeg)) _ _ _ hf hM (lv_sub hl [1, 0] rfl)
set_option maxRecDepth 100000 in
set_option maxHeartbeats 4000000 in
theorem kX13_undo {E : KE} {l : Launch} (hE : mx_ok E)  (hT : E.1 = mt) (M : MM) {q : (Int32 × MM)} (hf : fX13_undo M = some q) : mx_Met E l yX13_undo cX13_undo 2 (some .int) 0 [.ref (E.2.1.2.1 0)] M (some (.int q.1)) q.2 := by
  refine mx_enter hE (by decide) (Nat.le_of_ble_eq_true rfl) ?_
  intro p e s m below meth c C hM hn ls hl
  have hx := C.1.1
  have hb := C.1.2.1
  have hown := C.1.2.2.2.1
  have hts := C.1.2.2.2.2
  have hl : lv_has ls 2 [(0, .ref (E.2.1.2.1 0))] := hl
  rw [fX13_undo] at hf
  refine lv_aload_n hx hb dX13_undo_0 rfl (lv_at hl 0 rfl) ?_
  refine lv_iconst (v := (0 : Int32)) hx hb dX13_undo_1 (by decide) ?_
  refine p13_1 C hT hM dX13_undo_2 (fun H locs hM => ?_)
  refine lv_aload_n hx hb dX13_undo_5 rfl (lv_at hl 0 rfl) ?_
  refine g13_256 C hT hM dX13_undo_6 ?_
  refine lv_if_ne (tgt := 14) hx hb dX13_undo_9 (by decide) (fun hc9 => ?_) (fun hc9 => ?_)
  · replace hf := mx_iff hc9 hf
    refine lv_aload_n hx hb dX13_undo_14 rfl (lv_at hl 0 rfl) ?_
    refine lv_dup hx hb dX13_undo_15 rfl ?_
    refine g13_256 C hT hM dX13_undo_16 ?_
    refine lv_iconst (v := (1 : Int32)) hx hb dX13_undo_19 (by decide) ?_
    refine lv_isub hx hb dX13_undo_20 ?_
    refine p13_256 C hT hM dX13_undo_21 (fun H locs hM => ?_)
    refine lv_iconst (v := (0 : Int32)) hx hb dX13_undo_24 (by decide) ?_
    refine lv_istore_n (lv' := [(1, .int (0 : Int32)), (0, .ref (E.2.1.2.1 0))]) hx hb dX13_undo_25 rfl hl (by decide) rfl (fun ls hl => ?_)
    exact wfX13_undo_26 C hT mx_fu (0 : Int32) (mx_si (mx_si M 0 0 (0 : Int32)) 0 23 (((mx_si M 0 0 (0 : Int32)).1 0 23) - (1 : Int32))) _ _ _ hf hM (lv_sub hl [1, 0] rfl)
  · replace hf := mx_ift hc9 hf
    refine lv_iconst (v := (-1 : Int32)) hx hb dX13_undo_12 (by decide) ?_
    exact mx_iret C hM hf dX13_undo_13
