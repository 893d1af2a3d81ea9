theorem dX13_readRing_0 : decode cX13_readRing 0 = .ok (.aload_n 0, 1) := by decide +kernel
theorem dX13_readRing_1 : decode cX13_readRing 1 = .ok (.getfield 37, 3) := by decide +kernel
theorem dX13_readRing_4 : decode cX13_readRing 4 = .ok (.iconst 1, 1) := by decide +kernel
theorem dX13_readRing_5 : decode cX13_readRing 5 = .ok (.iaload, 1) := by decide +kernel
theorem dX13_readRing_6 : decode cX13_readRing 6 = .ok (.istore_n 1, 1) := by decide +kernel
theorem dX13_readRing_7 : decode cX13_readRing 7 = .ok (.iload_n 1, 1) := by decide +kernel
theorem dX13_readRing_8 : decode cX13_readRing 8 = .ok (.bipush 7, 2) := by decide +kernel
theorem dX13_readRing_10 : decode cX13_readRing 10 = .ok (.if_icmp .ne 9, 3) := by decide +kernel
theorem dX13_readRing_13 : decode cX13_readRing 13 = .ok (.aload_n 0, 1) := by decide +kernel
theorem dX13_readRing_14 : decode cX13_readRing 14 = .ok (.iconst 4, 1) := by decide +kernel
theorem dX13_readRing_15 : decode cX13_readRing 15 = .ok (.invokevirtual 187, 3) := by decide +kernel
theorem dX13_readRing_18 : decode cX13_readRing 18 = .ok (.ireturn, 1) := by decide +kernel
theorem dX13_readRing_19 : decode cX13_readRing 19 = .ok (.aload_n 0, 1) := by decide +kernel
theorem dX13_readRing_20 : decode cX13_readRing 20 = .ok (.invokevirtual 190, 3) := by decide +kernel
theorem dX13_readRing_23 : decode cX13_readRing 23 = .ok (.aload_n 0, 1) := by decide +kernel
theorem dX13_readRing_24 : decode cX13_readRing 24 = .ok (.bipush 21, 2) := by decide +kernel
theorem dX13_readRing_26 : decode cX13_readRing 26 = .ok (.iload_n 1, 1) := by decide +kernel
theorem dX13_readRing_27 : decode cX13_readRing 27 = .ok (.iadd, 1) := by decide +kernel
theorem dX13_readRing_28 : decode cX13_readRing 28 = .ok (.invokevirtual 238, 3) := by decide +kernel
theorem dX13_readRing_31 : decode cX13_readRing 31 = .ok (.ifCond .eq 32, 3) := by decide +kernel
theorem dX13_readRing_34 : decode cX13_readRing 34 = .ok (.aload_n 0, 1) := by decide +kernel
theorem dX13_readRing_35 : decode cX13_readRing 35 = .ok (.bipush 26, 2) := by decide +kernel
theorem dX13_readRing_37 : decode cX13_readRing 37 = .ok (.iload_n 1, 1) := by decide +kernel
theorem dX13_readRing_38 : decode cX13_readRing 38 = .ok (.iadd, 1) := by decide +kernel
theorem dX13_readRing_39 : decode cX13_readRing 39 = .ok (.iconst 1, 1) := by decide +kernel
theorem dX13_readRing_40 : decode cX13_readRing 40 = .ok (.bipush 20, 2) := by decide +kernel
theorem dX13_readRing_42 : decode cX13_readRing 42 = .ok (.invokevirtual 221, 3) := by decide +kernel
theorem dX13_readRing_45 : decode cX13_readRing 45 = .ok (.ifCond .eq 18, 3) := by decide +kernel
theorem dX13_readRing_48 : decode cX13_readRing 48 = .ok (.aload_n 0, 1) := by decide +kernel
theorem dX13_readRing_49 : decode cX13_readRing 49 = .ok (.bipush 14, 2) := by decide +kernel
theorem dX13_readRing_51 : decode cX13_readRing 51 = .ok (.aload_n 0, 1) := by decide +kernel
theorem dX13_readRing_52 : decode cX13_readRing 52 = .ok (.getfield 37, 3) := by decide +kernel
theorem dX13_readRing_55 : decode cX13_readRing 55 = .ok (.iconst 0, 1) := by decide +kernel
theorem dX13_readRing_56 : decode cX13_readRing 56 = .ok (.iaload, 1) := by decide +kernel
theorem dX13_readRing_57 : decode cX13_readRing 57 = .ok (.invokevirtual 241, 3) := by decide +kernel
theorem dX13_readRing_60 : decode cX13_readRing 60 = .ok (.ifCond .ne 5, 3) := by decide +kernel
theorem dX13_readRing_63 : decode cX13_readRing 63 = .ok (.iconst 0, 1) := by decide +kernel
theorem dX13_readRing_64 : decode cX13_readRing 64 = .ok (.ireturn, 1) := by decide +kernel
theorem dX13_readRing_65 : decode cX13_readRing 65 = .ok (.aload_n 0, 1) := by decide +kernel
theorem dX13_readRing_66 : decode cX13_readRing 66 = .ok (.getfield 37, 3) := by decide +kernel
theorem dX13_readRing_69 : decode cX13_readRing 69 = .ok (.bipush 33, 2) := by decide +kernel
theorem dX13_readRing_71 : decode cX13_readRing 71 = .ok (.iload_n 1, 1) := by decide +kernel
theorem dX13_readRing_72 : decode cX13_readRing 72 = .ok (.iadd, 1) := by decide +kernel
theorem dX13_readRing_73 : decode cX13_readRing 73 = .ok (.aload_n 0, 1) := by decide +kernel
theorem dX13_readRing_74 : decode cX13_readRing 74 = .ok (.getfield 197, 3) := by decide +kernel
theorem dX13_readRing_77 : decode cX13_readRing 77 = .ok (.iastore, 1) := by decide +kernel
theorem dX13_readRing_78 : decode cX13_readRing 78 = .ok (.aload_n 0, 1) := by decide +kernel
theorem dX13_readRing_79 : decode cX13_readRing 79 = .ok (.bipush 14, 2) := by decide +kernel
theorem dX13_readRing_81 : decode cX13_readRing 81 = .ok (.aload_n 0, 1) := by decide +kernel
theorem dX13_readRing_82 : decode cX13_readRing 82 = .ok (.getfield 37, 3) := by decide +kernel
theorem dX13_readRing_85 : decode cX13_readRing 85 = .ok (.iconst 0, 1) := by decide +kernel
theorem dX13_readRing_86 : decode cX13_readRing 86 = .ok (.iaload, 1) := by decide +kernel
theorem dX13_readRing_87 : decode cX13_readRing 87 = .ok (.invokevirtual 241, 3) := by decide +kernel
theorem dX13_readRing_90 : decode cX13_readRing 90 = .ok (.ifCond .ne 5, 3) := by decide +kernel
theorem dX13_readRing_93 : decode cX13_readRing 93 = .ok (.iconst 0, 1) := by decide +kernel
theorem dX13_readRing_94 : decode cX13_readRing 94 = .ok (.ireturn, 1) := by decide +kernel
theorem dX13_readRing_95 : decode cX13_readRing 95 = .ok (.aload_n 0, 1) := by decide +kernel
theorem dX13_readRing_96 : decode cX13_readRing 96 = .ok (.getfield 37, 3) := by decide +kernel
theorem dX13_readRing_99 : decode cX13_readRing 99 = .ok (.bipush 40, 2) := by decide +kernel
theorem dX13_readRing_101 : decode cX13_readRing 101 = .ok (.iload_n 1, 1) := by decide +kernel
theorem dX13_readRing_102 : decode cX13_readRing 102 = .ok (.iadd, 1) := by decide +kernel
theorem dX13_readRing_103 : decode cX13_readRing 103 = .ok (.aload_n 0, 1) := by decide +kernel
theorem dX13_readRing_104 : decode cX13_readRing 104 = .ok (.getfield 197, 3) := by decide +kernel
theorem dX13_readRing_107 : decode cX13_readRing 107 = .ok (.iastore, 1) := by decide +kernel
theorem dX13_readRing_108 : decode cX13_readRing 108 = .ok (.aload_n 0, 1) := by decide +kernel
theorem dX13_readRing_109 : decode cX13_readRing 109 = .ok (.bipush 47, 2) := by decide +kernel
theorem dX13_readRing_111 : decode cX13_readRing 111 = .ok (.iload_n 1, 1) := by decide +kernel
theorem dX13_readRing_112 : decode cX13_readRing 112 = .ok (.iadd, 1) := by decide +kernel
theorem dX13_readRing_113 : decode cX13_readRing 113 = .ok (.iconst 0, 1) := by decide +kernel
theorem dX13_readRing_114 : decode cX13_readRing 114 = .ok (.sipush 300, 3) := by decide +kernel
theorem dX13_readRing_117 : decode cX13_readRing 117 = .ok (.invokevirtual 221, 3) := by decide +kernel
theorem dX13_readRing_120 : decode cX13_readRing 120 = .ok (.ifCond .ne 5, 3) := by decide +kernel
theorem dX13_readRing_123 : decode cX13_readRing 123 = .ok (.iconst 0, 1) := by decide +kernel
theorem dX13_readRing_124 : decode cX13_readRing 124 = .ok (.ireturn, 1) := by decide +kernel
theorem dX13_readRing_125 : decode cX13_readRing 125 = .ok (.aload_n 0, 1) := by decide +kernel
theorem dX13_readRing_126 : decode cX13_readRing 126 = .ok (.getfield 37, 3) := by decide +kernel
theorem dX13_readRing_129 : decode cX13_readRing 129 = .ok (.iconst 1, 1) := by decide +kernel
theorem dX13_readRing_130 : decode cX13_readRing 130 = .ok (.dup2, 1) := by decide +kernel
theorem dX13_readRing_131 : decode cX13_readRing 131 = .ok (.iaload, 1) := by decide +kernel
theorem dX13_readRing_132 : decode cX13_readRing 132 = .ok (.iconst 1, 1) := by decide +kernel
theorem dX13_readRing_133 : decode cX13_readRing 133 = .ok (.iadd, 1) := by decide +kernel
theorem dX13_readRing_134 : decode cX13_readRing 134 = .ok (.iastore, 1) := by decide +kernel
theorem dX13_readRing_135 : decode cX13_readRing 135 = .ok (.iconst 1, 1) := by decide +kernel
theorem dX13_readRing_136 : decode cX13_readRing 136 = .ok (.ireturn, 1) := by decide +kernel
set_option maxRecDepth 100000 in
set_option maxHeartbeats 4000000 in
theorem kX13_readRing {E : KE} {l : Launch} (hE : mx_ok E)  (hT : E.1 = mt) (M : MM) {q : (Bool × MM)} (hf : fX13_readRing M = some q) : mx_Met E l yX13_readRing cX13_readRing 2 (some .boolean) 4 [.ref (E.2.1.2.1 0)] M (some (.int (mx_b q.1))) q.2 := by
  refine mx_enter hE (by decide) (Nat.le_of_ble_eq_true rfl) ?_
  intro p e s m below meth c C hM hn ls hl
  have hx := C.1.1
  have hb := C.1.2.1
  have hown := C.1.2.2.2.1
  have hts := C.1.2.2.2.2
  have hl : lv_has ls 2 [(0, .ref (E.2.1.2.1 0))] := hl
  rw [fX13_readRing] at hf
  refine lv_aload_n hx hb dX13_readRing_0 rfl (lv_at hl 0 rfl) ?_
  refine g13_37 C hT hM dX13_readRing_1 ?_
  refine lv_iconst (v := (1 : Int32)) hx hb dX13_readRing_4 (by decide) ?_
  refine mx_ialdL C hM (mt_3 hT) (j := 1) (by decide) (mx_in_vp (by decide)) dX13_readRing_5 ?_
  refine lv_istore_n (lv' := [(1, .int (M.1 3 1)), (0, .ref (E.2.1.2.1 0))]) hx hb dX13_readRing_6 rfl hl (by decide) rfl (fun ls hl => ?_)
  refine lv_iload_n hx hb dX13_readRing_7 rfl (lv_at hl 0 rfl) ?_
  refine lv_bipush (v := (7 : Int32)) hx hb dX13_readRing_8 (by decide) ?_
  refine lv_icmp_ne (tgt := 19) hx hb dX13_readRing_10 (by decide) (fun hc10 => ?_) (fun hc10 => ?_)
  · replace hf := mx_iff hc10 hf
    refine lv_aload_n hx hb dX13_readRing_19 rfl (lv_at hl 1 rfl) ?_
    obtain ⟨q20, hq20, hf⟩ := mx_bd hf
    refine mx_callV C hM hl.1 yo_X13_next (h' := 1) (by decide) qw_1558 qw_1560 qs_113 (ci := 13) (q := (RX13, TX13, 52)) rfl (mt_0 hT) (As := []) (rest := []) (st1 := []) (kX13_next C.2.2.2.1  hT M hq20) rfl rfl rfl (Nat.le_of_ble_eq_true rfl) dX13_readRing_20 (fun H locs hM => ?_)
    refine lv_aload_n hx hb dX13_readRing_23 rfl (lv_at hl 1 rfl) ?_
    refine lv_bipush (v := (21 : Int32)) hx hb dX13_readRing_24 (by decide) ?_
    refine lv_iload_n hx hb dX13_readRing_26 rfl (lv_at hl 0 rfl) ?_
    refine lv_iadd hx hb dX13_readRing_27 ?_
    obtain ⟨q28, hq28, hf⟩ := mx_bd hf
    refine mx_callV C hM hl.1 yo_X13_fresh (h' := 2) (by decide) qw_1588 qw_1590 qs_119 (ci := 13) (q := (RX13, TX13, 52)) rfl (mt_0 hT) (As := [.int ((21 : Int32) + (M.1 3 1))]) (rest := []) (st1 := [.int (mx_b q28.1)]) (kX13_fresh C.2.2.2.1 ((21 : Int32) + (M.1 3 1)) hT q20 hq28) rfl rfl rfl (Nat.le_of_ble_eq_true rfl) dX13_readRing_28 (fun H locs hM => ?_)
    refine lv_if_eq (tgt := 63) hx hb dX13_readRing_31 (by decide) (fun hc31 => ?_) (fun hc31 => ?_)
    · replace hf := mx_ift hc31 hf
      refine lv_iconst (v := (0 : Int32)) hx hb dX13_readRing_63 (by decide) ?_
      exact mx_zret C hM (b := false) rfl hf dX13_readRing_64
    · replace hf := mx_iff hc31 hf
      refine lv_aload_n hx hb dX13_readRing_34 rfl (lv_at hl 1 rfl) ?_
      refine lv_bipush (v := (26 : Int32)) hx hb dX13_readRing_35 (by decide) ?_
      refine lv_iload_n hx hb dX13_readRing_37 rfl (lv_at hl 0 rfl) ?_
      refine lv_iadd hx hb dX13_readRing_38 ?_
      refine lv_iconst (v := (1 : Int32)) hx hb dX13_readRing_39 (by decide) ?_
      refine lv_bipush (v := (20 : Int32)) hx hb dX13_readRing_40 (by decide) ?_
      obtain ⟨q42, hq42, hf⟩ := mx_bd hf
      refine mx_callV C hM hl.1 yo_X13_puts (h' := 3) (by decide) qw_1600 qw_1602 qs_122 (ci := 13) (q := (RX13, TX13, 52)) rfl (mt_0 hT) (As := [.int ((26 : Int32) + (M.1 3 1)), .int (1 : Int32), .int (20 : Int32)]) (rest := []) (st1 := [.int (mx_b q42.1)]) (kX13_puts C.2.2.2.1 ((26 : Int32) + (M.1 3 1)) (1 : Int32) (20 : Int32) hT q28.2 hq42) rfl rfl rfl (Nat.le_of_ble_eq_true rfl) dX13_readRing_42 (fun H locs hM => ?_)
      refine lv_if_eq (tgt := 63) hx hb dX13_readRing_45 (by decide) (fun hc45 => ?_) (fun hc45 => ?_)
      · replace hf := mx_ift hc45 hf
        refine lv_iconst (v := (0 : Int32)) hx hb dX13_readRing_63 (by decide) ?_
        exact mx_zret C hM (b := false) rfl hf dX13_readRing_64
      · replace hf := mx_iff hc45 hf
        refine lv_aload_n hx hb dX13_readRing_48 rfl (lv_at hl 1 rfl) ?_
        refine lv_bipush (v := (14 : Int32)) hx hb dX13_readRing_49 (by decide) ?_
        refine lv_aload_n hx hb dX13_readRing_51 rfl (lv_at hl 1 rfl) ?_
        refine g13_37 C hT hM dX13_readRing_52 ?_
        refine lv_iconst (v := (0 : Int32)) hx hb dX13_readRing_55 (by decide) ?_
        refine mx_ialdL C hM (mt_3 hT) (j := 0) (by decide) (mx_in_vp (by decide)) dX13_readRing_56 ?_
        obtain ⟨q57, hq57, hf⟩ := mx_bd hf
        refine mx_callV C hM hl.1 yo_X13_takesName (h' := 2) (by decide) qw_1615 qw_1617 qs_125 (ci := 13) (q := (RX13, TX13, 52)) rfl (mt_0 hT) (As := [.int (14 : Int32), .int (q42.2.1 3 0)]) (rest := []) (st1 := [.int (mx_b q57.1)]) (kX13_takesName C.2.2.2.1 (14 : Int32) (q42.2.1 3 0) hT q42.2 hq57) rfl rfl rfl (Nat.le_of_ble_eq_true rfl) dX13_readRing_57 (fun H locs hM => ?_)
        refine lv_if_ne (tgt := 65) hx hb dX13_readRing_60 (by decide) (fun hc60 => ?_) (fun hc60 => ?_)
        · replace hf := mx_iff hc60 hf
          refine lv_aload_n hx hb dX13_readRing_65 rfl (lv_at hl 1 rfl) ?_
          refine g13_37 C hT hM dX13_readRing_66 ?_
          refine lv_bipush (v := (33 : Int32)) hx hb dX13_readRing_69 (by decide) ?_
          refine lv_iload_n hx hb dX13_readRing_71 rfl (lv_at hl 0 rfl) ?_
          refine lv_iadd hx hb dX13_readRing_72 ?_
          refine lv_aload_n hx hb dX13_readRing_73 rfl (lv_at hl 1 rfl) ?_
          refine g13_197 C hT hM dX13_readRing_74 ?_
          obtain ⟨hg77, hf⟩ := mx_gd hf
          refine mx_iast C hM (mt_3 hT) (mx_in_vp hg77) dX13_readRing_77 (fun H locs hM => ?_)
          refine lv_aload_n hx hb dX13_readRing_78 rfl (lv_at hl 1 rfl) ?_
          refine lv_bipush (v := (14 : Int32)) hx hb dX13_readRing_79 (by decide) ?_
          refine lv_aload_n hx hb dX13_readRing_81 rfl (lv_at hl 1 rfl) ?_
          refine g13_37 C hT hM dX13_readRing_82 ?_
          refine lv_iconst (v := (0 : Int32)) hx hb dX13_readRing_85 (by decide) ?_
          refine mx_ialdL C hM (mt_3 hT) (j := 0) (by decide) (mx_in_vp (by decide)) dX13_readRing_86 ?_
          obtain ⟨q87, hq87, hf⟩ := mx_bd hf
          refine mx_callV C hM hl.1 yo_X13_takesName (h' := 2) (by decide) qw_1615 qw_1617 qs_125 (ci := 13) (q := (RX13, TX13, 52)) rfl (mt_0 hT) (As := [.int (14 : Int32), .int ((mx_si q57.2 3 ((33 : Int32) + (M.1 3 1)).toNatClampNeg (q57.2.1 0 18)).1 3 0)]) (rest := []) (st1 := [.int (mx_b q87.1)]) (kX13_takesName C.2.2.2.1 (14 : Int32) ((mx_si q57.2 3 ((33 : Int32) + (M.1 3 1)).toNatClampNeg (q57.2.1 0 18)).1 3 0) hT (mx_si q57.2 3 ((33 : Int32) + (M.1 3 1)).toNatClampNeg (q57.2.1 0 18)) hq87) rfl rfl rfl (Nat.le_of_ble_eq_true rfl) dX13_readRing_87 (fun H locs hM => ?_)
          refine lv_if_ne (tgt := 95) hx hb dX13_readRing_90 (by decide) (fun hc90 => ?_) (fun hc90 => ?_)
          · replace hf := mx_iff hc90 hf
            refine lv_aload_n hx hb dX13_readRing_95 rfl (lv_at hl 1 rfl) ?_
            refine g13_37 C hT hM dX13_readRing_96 ?_
            refine lv_bipush (v := (40 : Int32)) hx hb dX13_readRing_99 (by decide) ?_
            refine lv_iload_n hx hb dX13_readRing_101 rfl (lv_at hl 0 rfl) ?_
            refine lv_iadd hx hb dX13_readRing_102 ?_
            refine lv_aload_n hx hb dX13_readRing_103 rfl (lv_at hl 1 rfl) ?_
            refine g13_197 C hT hM dX13_readRing_104 ?_
            obtain ⟨hg107, hf⟩ := mx_gd hf
            refine mx_iast C hM (mt_3 hT) (mx_in_vp hg107) dX13_readRing_107 (fun H locs hM => ?_)
            refine lv_aload_n hx hb dX13_readRing_108 rfl (lv_at hl 1 rfl) ?_
            refine lv_bipush (v := (47 : Int32)) hx hb dX13_readRing_109 (by decide) ?_
            refine lv_iload_n hx hb dX13_readRing_111 rfl (lv_at hl 0 rfl) ?_
            refine lv_iadd hx hb dX13_readRing_112 ?_
            refine lv_iconst (v := (0 : Int32)) hx hb dX13_readRing_113 (by decide) ?_
            refine lv_sipush (v := (300 : Int32)) hx hb dX13_readRing_114 (by decide) ?_
            obtain ⟨q117, hq117, hf⟩ := mx_bd hf
            refine mx_callV C hM hl.1 yo_X13_puts (h' := 3) (by decide) qw_1600 qw_1602 qs_122 (ci := 13) (q := (RX13, TX13, 52)) rfl (mt_0 hT) (As := [.int ((47 : Int32) + (M.1 3 1)), .int (0 : Int32), .int (300 : Int32)]) (rest := []) (st1 := [.int (mx_b q117.1)]) (kX13_puts C.2.2.2.1 ((47 : Int32) + (M.1 3 1)) (0 : Int32) (300 : Int32) hT (mx_si q87.2 3 ((40 : Int32) + (M.1 3 1)).toNatClampNeg (q87.2.1 0 18)) hq117) rfl rfl rfl (Nat.le_of_ble_eq_true rfl) dX13_readRing_117 (fun H locs hM => ?_)
            refine lv_if_ne (tgt := 125) hx hb dX13_readRing_120 (by decide) (fun hc120 => ?_) (fun hc120 => ?_)
            · replace hf := mx_iff hc120 hf
              refine lv_aload_n hx hb dX13_readRing_125 rfl (lv_at hl 1 rfl) ?_
              refine g13_37 C hT hM dX13_readRing_126 ?_
              refine lv_iconst (v := (1 : Int32)) hx hb dX13_readRing_129 (by decide) ?_
              refine lv_dup2_11 hx hb dX13_readRing_130 rfl rfl ?_
              refine mx_ialdL C hM (mt_3 hT) (j := 1) (by decide) (mx_in_vp (by decide)) dX13_readRing_131 ?_
              refine lv_iconst (v := (1 : Int32)) hx hb dX13_readRing_132 (by decide) ?_
              refine lv_iadd hx hb dX13_readRing_133 ?_
              refine mx_iastL C hM (mt_3 hT) (j := 1) (by decide) (mx_in_vp (by decide)) dX13_readRing_134 (fun H locs hM => ?_)
              refine lv_iconst (v := (1 : Int32)) hx hb dX13_readRing_135 (by decide) ?_
              exact mx_zret C hM (b := true) rfl hf dX13_readRing_136
            · replace hf := mx_ift hc120 hf
              refine lv_iconst (v := (0 : Int32)) hx hb dX13_readRing_123 (by decide) ?_
              exact mx_zret C hM (b := false) rfl hf dX13_readRing_124
          · replace hf := mx_ift hc90 hf
            refine lv_iconst (v := (0 : Int32)) hx hb dX13_readRing_93 (by decide) ?_
            exact mx_zret C hM (b := false) rfl hf dX13_readRing_94
        · replace hf := mx_ift hc60 hf
          refine lv_iconst (v := (0 : Int32)) hx hb dX13_readRing_63 (by decide) ?_
          exact mx_zret C hM (b := false) rfl hf dX13_readRing_64
  · replace hf := mx_ift hc10 hf
    refine lv_aload_n hx hb dX13_readRing_13 rfl (lv_at hl 1 rfl) ?_
    refine lv_iconst (v := (4 : Int32)) hx hb dX13_readRing_14 (by decide) ?_
    obtain ⟨q15, hq15, hf⟩ := mx_bd hf
    refine mx_callV C hM hl.1 yo_X13_bad (h' := 0) (by decide) qw_1584 qw_1586 qs_118 (ci := 13) (q := (RX13, TX13, 52)) rfl (mt_0 hT) (As := [.int (4 : Int32)]) (rest := []) (st1 := [.int (mx_b q15.1)]) (kX13_bad C.2.2.2.1 (4 : Int32) hT M hq15) rfl rfl rfl (Nat.le_of_ble_eq_true rfl) dX13_readRing_15 (fun H locs hM => ?_)
    exact mx_zret C hM (b := q15.1) rfl hf dX13_readRing_18
theorem dX13_line_0 : decode cX13_line 0 = .ok (.aload_n 0, 1) := by decide +kernel
theorem dX13_line_1 : decode cX13_line 1 = .ok (.ldc2_w 102, 3) := by decide +kernel
theorem dX13_line_4 : decode cX13_line 4 = .ok (.invokevirtual 224, 3) := by decide +kernel
theorem dX13_line_7 : decode cX13_line 7 = .ok (.ifCond .eq 8, 3) := by decide +kernel
theorem dX13_line_10 : decode cX13_line 10 = .ok (.aload_n 0, 1) := by decide +kernel
theorem dX13_line_11 : decode cX13_line 11 = .ok (.invokevirtual 228, 3) := by decide +kernel
theorem dX13_line_14 : decode cX13_line 14 = .ok (.ireturn, 1) := by decide +kernel
theorem dX13_line_15 : decode cX13_line 15 = .ok (.aload_n 0, 1) := by decide +kernel
theorem dX13_line_16 : decode cX13_line 16 = .ok (.ldc2_w 104, 3) := by decide +kernel
theorem dX13_line_19 : decode cX13_line 19 = .ok (.invokevirtual 224, 3) := by decide +kernel
theorem dX13_line_22 : decode cX13_line 22 = .ok (.ifCond .eq 8, 3) := by decide +kernel
theorem dX13_line_25 : decode cX13_line 25 = .ok (.aload_n 0, 1) := by decide +kernel
theorem dX13_line_26 : decode cX13_line 26 = .ok (.invokevirtual 231, 3) := by decide +kernel
theorem dX13_line_29 : decode cX13_line 29 = .ok (.ireturn, 1) := by decide +kernel
theorem dX13_line_30 : decode cX13_line 30 = .ok (.aload_n 0, 1) := by decide +kernel
theorem dX13_line_31 : decode cX13_line 31 = .ok (.ldc2_w 106, 3) := by decide +kernel
theorem dX13_line_34 : decode cX13_line 34 = .ok (.invokevirtual 224, 3) := by decide +kernel
theorem dX13_line_37 : decode cX13_line 37 = .ok (.ifCond .eq 12, 3) := by decide +kernel
theorem dX13_line_40 : decode cX13_line 40 = .ok (.aload_n 0, 1) := by decide +kernel
theorem dX13_line_41 : decode cX13_line 41 = .ok (.iconst 0, 1) := by decide +kernel
theorem dX13_line_42 : decode cX13_line 42 = .ok (.iconst 2, 1) := by decide +kernel
theorem dX13_line_43 : decode cX13_line 43 = .ok (.iconst 0, 1) := by decide +kernel
theorem dX13_line_44 : decode cX13_line 44 = .ok (.iconst 5, 1) := by decide +kernel
theorem dX13_line_45 : decode cX13_line 45 = .ok (.invokevirtual 234, 3) := by decide +kernel
theorem dX13_line_48 : decode cX13_line 48 = .ok (.ireturn, 1) := by decide +kernel
theorem dX13_line_49 : decode cX13_line 49 = .ok (.aload_n 0, 1) := by decide +kernel
theorem dX13_line_50 : decode cX13_line 50 = .ok (.ldc2_w 108, 3) := by decide +kernel
theorem dX13_line_53 : decode cX13_line 53 = .ok (.invokevirtual 224, 3) := by decide +kernel
theorem dX13_line_56 : decode cX13_line 56 = .ok (.ifCond .eq 13, 3) := by decide +kernel
theorem dX13_line_59 : decode cX13_line 59 = .ok (.aload_n 0, 1) := by decide +kernel
theorem dX13_line_60 : decode cX13_line 60 = .ok (.iconst 1, 1) := by decide +kernel
theorem dX13_line_61 : decode cX13_line 61 = .ok (.iconst 3, 1) := by decide +kernel
theorem dX13_line_62 : decode cX13_line 62 = .ok (.iconst 1, 1) := by decide +kernel
theorem dX13_line_63 : decode cX13_line 63 = .ok (.bipush 20, 2) := by decide +kernel
theorem dX13_line_65 : decode cX13_line 65 = .ok (.invokevirtual 234, 3) := by decide +kernel
theorem dX13_line_68 : decode cX13_line 68 = .ok (.ireturn, 1) := by decide +kernel
theorem dX13_line_69 : decode cX13_line 69 = .ok (.aload_n 0, 1) := by decide +kernel
theorem dX13_line_70 : decode cX13_line 70 = .ok (.ldc2_w 110, 3) := by decide +kernel
theorem dX13_line_73 : decode cX13_line 73 = .ok (.invokevirtual 224, 3) := by decide +kernel
theorem dX13_line_76 : decode cX13_line 76 = .ok (.ifCond .eq 15, 3) := by decide +kernel
theorem dX13_line_79 : decode cX13_line 79 = .ok (.aload_n 0, 1) := by decide +kernel
theorem dX13_line_80 : decode cX13_line 80 = .ok (.iconst 2, 1) := by decide +kernel
theorem dX13_line_81 : decode cX13_line 81 = .ok (.iconst 4, 1) := by decide +kernel
theorem dX13_line_82 : decode cX13_line 82 = .ok (.iconst 2, 1) := by decide +kernel
theorem dX13_line_83 : decode cX13_line 83 = .ok (.bipush 9, 2) := by decide +kernel
theorem dX13_line_85 : decode cX13_line 85 = .ok (.invokevirtual 234, 3) := by decide +kernel
theorem dX13_line_88 : decode cX13_line 88 = .ok (.goto 8, 3) := by decide +kernel
theorem dX13_line_91 : decode cX13_line 91 = .ok (.aload_n 0, 1) := by decide +kernel
theorem dX13_line_92 : decode cX13_line 92 = .ok (.iconst 1, 1) := by decide +kernel
theorem dX13_line_93 : decode cX13_line 93 = .ok (.invokevirtual 187, 3) := by decide +kernel
theorem dX13_line_96 : decode cX13_line 96 = .ok (.ireturn, 1) := by decide +kernel
set_option maxRecDepth 100000 in
set_option maxHeartbeats 4000000 in
theorem kX13_line {E : KE} {l : Launch} (hE : mx_ok E)  (hT : E.1 = mt) (M : MM) {q : (Bool × MM)} (hf : fX13_line M = some q) : mx_Met E l yX13_line cX13_line 1 (some .boolean) 5 [.ref (E.2.1.2.1 0)] M (some (.int (mx_b q.1))) q.2 := by
  refine mx_enter hE (by decide) (Nat.le_of_ble_eq_true rfl) ?_
  intro p e s m below meth c C hM hn ls hl
  have hx := C.1.1
  have hb := C.1.2.1
  have hown := C.1.2.2.2.1
  have hts := C.1.2.2.2.2
  have hl : lv_has ls 1 [(0, .ref (E.2.1.2.1 0))] := hl
  rw [fX13_line] at hf
  refine lv_aload_n hx hb dX13_line_0 rfl (lv_at hl 0 rfl) ?_
  refine lv_ldc2 (v := (123581014175598)) hx hb hown (hts _ qw_1366) dX13_line_1 ?_
  obtain ⟨q4, hq4, hf⟩ := mx_bd hf
  refine mx_callV C hM hl.1 yo_X13_isWord (h' := 0) (by decide) qw_1576 qw_1578 qs_116 (ci := 13) (q := (RX13, TX13, 52)) rfl (mt_0 hT) (As := [.long (123581014175598 : Int64)]) (rest := []) (st1 := [.int (mx_b q4)]) (kX13_isWord C.2.2.2.1 (123581014175598 : Int64) hT M hq4) rfl rfl rfl (Nat.le_of_ble_eq_true rfl) dX13_line_4 (fun H locs hM => ?_)
  refine lv_if_eq (tgt := 15) hx hb dX13_line_7 (by decide) (fun hc7 => ?_) (fun hc7 => ?_)
  · replace hf := mx_ift hc7 hf
    refine lv_aload_n hx hb dX13_line_15 rfl (lv_at hl 0 rfl) ?_
    refine lv_ldc2 (v := (1919512167)) hx hb hown (hts _ qw_1367) dX13_line_16 ?_
    obtain ⟨q19, hq19, hf⟩ := mx_bd hf
    refine mx_callV C hM hl.1 yo_X13_isWord (h' := 0) (by decide) qw_1576 qw_1578 qs_116 (ci := 13) (q := (RX13, TX13, 52)) rfl (mt_0 hT) (As := [.long (1919512167 : Int64)]) (rest := []) (st1 := [.int (mx_b q19)]) (kX13_isWord C.2.2.2.1 (1919512167 : Int64) hT M hq19) rfl rfl rfl (Nat.le_of_ble_eq_true rfl) dX13_line_19 (fun H locs hM => ?_)
    refine lv_if_eq (tgt := 30) hx hb dX13_line_22 (by decide) (fun hc22 => ?_) (fun hc22 => ?_)
    · replace hf := mx_ift hc22 hf
      refine lv_aload_n hx hb dX13_line_30 rfl (lv_at hl 0 rfl) ?_
      refine lv_ldc2 (v := (6711668)) hx hb hown (hts _ qw_1368) dX13_line_31 ?_
      obtain ⟨q34, hq34, hf⟩ := mx_bd hf
      refine mx_callV C hM hl.1 yo_X13_isWord (h' := 0) (by decide) qw_1576 qw_1578 qs_116 (ci := 13) (q := (RX13, TX13, 52)) rfl (mt_0 hT) (As := [.long (6711668 : Int64)]) (rest := []) (st1 := [.int (mx_b q34)]) (kX13_isWord C.2.2.2.1 (6711668 : Int64) hT M hq34) rfl rfl rfl (Nat.le_of_ble_eq_true rfl) dX13_line_34 (fun H locs hM => ?_)
      refine lv_if_eq (tgt := 49) hx hb dX13_line_37 (by decide) (fun hc37 => ?_) (fun hc37 => ?_)
      · replace hf := mx_ift hc37 hf
        refine lv_aload_n hx hb dX13_line_49 rfl (lv_at hl 0 rfl) ?_
        refine lv_ldc2 (v := (2002873451)) hx hb hown (hts _ qw_1369) dX13_line_50 ?_
        obtain ⟨q53, hq53, hf⟩ := mx_bd hf
        refine mx_callV C hM hl.1 yo_X13_isWord (h' := 0) (by decide) qw_1576 qw_1578 qs_116 (ci := 13) (q := (RX13, TX13, 52)) rfl (mt_0 hT) (As := [.long (2002873451 : Int64)]) (rest := []) (st1 := [.int (mx_b q53)]) (kX13_isWord C.2.2.2.1 (2002873451 : Int64) hT M hq53) rfl rfl rfl (Nat.le_of_ble_eq_true rfl) dX13_line_53 (fun H locs hM => ?_)
        refine lv_if_eq (tgt := 69) hx hb dX13_line_56 (by decide) (fun hc56 => ?_) (fun hc56 => ?_)
        · replace hf := mx_ift hc56 hf
          refine lv_aload_n hx hb dX13_line_69 rfl (lv_at hl 0 rfl) ?_
          refine lv_ldc2 (v := (117001056382053)) hx hb hown (hts _ qw_1370) dX13_line_70 ?_
          obtain ⟨q73, hq73, hf⟩ := mx_bd hf
          refine mx_callV C hM hl.1 yo_X13_isWord (h' := 0) (by decide) qw_1576 qw_1578 qs_116 (ci := 13) (q := (RX13, TX13, 52)) rfl (mt_0 hT) (As := [.long (117001056382053 : Int64)]) (rest := []) (st1 := [.int (mx_b q73)]) (kX13_isWord C.2.2.2.1 (117001056382053 : Int64) hT M hq73) rfl rfl rfl (Nat.le_of_ble_eq_true rfl) dX13_line_73 (fun H locs hM => ?_)
          refine lv_if_eq (tgt := 91) hx hb dX13_line_76 (by decide) (fun hc76 => ?_) (fun hc76 => ?_)
          · replace hf := mx_ift hc76 hf
            refine lv_aload_n hx hb dX13_line_91 rfl (lv_at hl 0 rfl) ?_
            refine lv_iconst (v := (1 : Int32)) hx hb dX13_line_92 (by decide) ?_
            obtain ⟨q93, hq93, hf⟩ := mx_bd hf
            refine mx_callV C hM hl.1 yo_X13_bad (h' := 0) (by decide) qw_1584 qw_1586 qs_118 (ci := 13) (q := (RX13, TX13, 52)) rfl (mt_0 hT) (As := [.int (1 : Int32)]) (rest := []) (st1 := [.int (mx_b q93.1)]) (kX13_bad C.2.2.2.1 (1 : Int32) hT M hq93) rfl rfl rfl (Nat.le_of_ble_eq_true rfl) dX13_line_93 (fun H locs hM => ?_)
            exact mx_zret C hM (b := q93.1) rfl hf dX13_line_96
          · replace hf := mx_iff hc76 hf
            refine lv_aload_n hx hb dX13_line_79 rfl (lv_at hl 0 rfl) ?_
            refine lv_iconst (v := (2 : Int32)) hx hb dX13_line_80 (by decide) ?_
            refine lv_iconst (v := (4 : Int32)) hx hb dX13_line_81 (by decide) ?_
            refine lv_iconst (v := (2 : Int32)) hx hb dX13_line_82 (by decide) ?_
            refine lv_bipush (v := (9 : Int32)) hx hb dX13_line_83 (by decide) ?_
            obtain ⟨q85, hq85, hf⟩ := mx_bd hf
            refine mx_callV C hM hl.1 yo_X13_once (h' := 4) (by decide) qw_1623 qw_1625 qs_127 (ci := 13) (q := (RX13, TX13, 52)) rfl (mt_0 hT) (As := [.int (2 : Int32), .int (4 : Int32), .int (2 : Int32), .int (9 : Int32)]) (rest := []) (st1 := [.int (mx_b q85.1)]) (kX13_once C.2.2.2.1 (2 : Int32) (4 : Int32) (2 : Int32) (9 : Int32) hT M hq85) rfl rfl rfl (Nat.le_of_ble_eq_true rfl) dX13_line_85 (fun H locs hM => ?_)
            refine lv_goto (tgt := 96) hx hb dX13_line_88 (by decide) ?_
            exact mx_zret C hM (b := q85.1) rfl hf dX13_line_96
        · replace hf := mx_iff hc56 hf
          refine lv_aload_n hx hb dX13_line_59 rfl (lv_at hl 0 rfl) ?_
          refine lv_iconst (v := (1 : Int32)) hx hb dX13_line_60 (by decide) ?_
          refine lv_iconst (v := (3 : Int32)) hx hb dX13_line_61 (by decide) ?_
          refine lv_iconst (v := (1 : Int32)) hx hb dX13_line_62 (by decide) ?_
          refine lv_bipush (v := (20 : Int32)) hx hb dX13_line_63 (by decide) ?_
          obtain ⟨q65, hq65, hf⟩ := mx_bd hf
          refine mx_callV C hM hl.1 yo_X13_once (h' := 4) (by decide) qw_1623 qw_1625 qs_127 (ci := 13) (q := (RX13, TX13, 52)) rfl (mt_0 hT) (As := [.int (1 : Int32), .int (3 : Int32), .int (1 : Int32), .int (20 : Int32)]) (rest := []) (st1 := [.int (mx_b q65.1)]) (kX13_once C.2.2.2.1 (1 : Int32) (3 : Int32) (1 : Int32) (20 : Int32) hT M hq65) rfl rfl rfl (Nat.le_of_ble_eq_true rfl) dX13_line_65 (fun H locs hM => ?_)
          exact mx_zret C hM (b := q65.1) rfl hf dX13_line_68
      · replace hf := mx_iff hc37 hf
        refine lv_aload_n hx hb dX13_line_40 rfl (lv_at hl 0 rfl) ?_
        refine lv_iconst (v := (0 : Int32)) hx hb dX13_line_41 (by decide) ?_
        refine lv_iconst (v := (2 : Int32)) hx hb dX13_line_42 (by decide) ?_
        refine lv_iconst (v := (0 : Int32)) hx hb dX13_line_43 (by decide) ?_
        refine lv_iconst (v := (5 : Int32)) hx hb dX13_line_44 (by decide) ?_
        obtain ⟨q45, hq45, hf⟩ := mx_bd hf
        refine mx_callV C hM hl.1 yo_X13_once (h' := 4) (by decide) qw_1623 qw_1625 qs_127 (ci := 13) (q := (RX13, TX13, 52)) rfl (mt_0 hT) (As := [.int (0 : Int32), .int (2 : Int32), .int (0 : Int32), .int (5 : Int32)]) (rest := []) (st1 := [.int (mx_b q45.1)]) (kX13_once C.2.2.2.1 (0 : Int32) (2 : Int32) (0 : Int32) (5 : Int32) hT M hq45) rfl rfl rfl (Nat.le_of_ble_eq_true rfl) dX13_line_45 (fun H locs hM => ?_)
        exact mx_zret C hM (b := q45.1) rfl hf dX13_line_48
    · replace hf := mx_iff hc22 hf
      refine lv_aload_n hx hb dX13_line_25 rfl (lv_at hl 0 rfl) ?_
      obtain ⟨q26, hq26, hf⟩ := mx_bd hf
      refine mx_callV C hM hl.1 yo_X13_readRing (h' := 4) (by decide) qw_1611 qw_1613 qs_124 (ci := 13) (q := (RX13, TX13, 52)) rfl (mt_0 hT) (As := []) (rest := []) (st1 := [.int (mx_b q26.1)]) (kX13_readRing C.2.2.2.1  hT M hq26) rfl rfl rfl (Nat.le_of_ble_eq_true rfl) dX13_line_26 (fun H locs hM => ?_)
      exact mx_zret C hM (b := q26.1) rfl hf dX13_line_29
  · replace hf := mx_iff hc7 hf
    refine lv_aload_n hx hb dX13_line_10 rfl (lv_at hl 0 rfl) ?_
    obtain ⟨q11, hq11, hf⟩ := mx_bd hf
    refine mx_callV C hM hl.1 yo_X13_readPerson (h' := 4) (by decide) qw_1580 qw_1582 qs_117 (ci := 13) (q := (RX13, TX13, 52)) rfl (mt_0 hT) (As := []) (rest := []) (st1 := [.int (mx_b q11.1)]) (kX13_readPerson C.2.2.2.1  hT M hq11) rfl rfl rfl (Nat.le_of_ble_eq_true rfl) dX13_line_11 (fun H locs hM => ?_)
    exact mx_zret C hM (b := q11.1) rfl hf dX13_line_14
theorem dX13_island_0 : decode cX13_island 0 = .ok (.aload_n 0, 1) := by decide +kernel
theorem dX13_island_1 : decode cX13_island 1 = .ok (.iconst 0, 1) := by decide +kernel
theorem dX13_island_2 : decode cX13_island 2 = .ok (.putfield 1, 3) := by decide +kernel
theorem dX13_island_5 : decode cX13_island 5 = .ok (.aload_n 0, 1) := by decide +kernel
theorem dX13_island_6 : decode cX13_island 6 = .ok (.sipush 900, 3) := by decide +kernel
theorem dX13_island_9 : decode cX13_island 9 = .ok (.invokevirtual 244, 3) := by decide +kernel
theorem dX13_island_12 : decode cX13_island 12 = .ok (.aload_n 0, 1) := by decide +kernel
theorem dX13_island_13 : decode cX13_island 13 = .ok (.iconst 0, 1) := by decide +kernel
theorem dX13_island_14 : decode cX13_island 14 = .ok (.putfield 178, 3) := by decide +kernel
theorem dX13_island_17 : decode cX13_island 17 = .ok (.aload_n 0, 1) := by decide +kernel
theorem dX13_island_18 : decode cX13_island 18 = .ok (.iconst 0, 1) := by decide +kernel
theorem dX13_island_19 : decode cX13_island 19 = .ok (.putfield 247, 3) := by decide +kernel
theorem dX13_island_22 : decode cX13_island 22 = .ok (.aload_n 0, 1) := by decide +kernel
theorem dX13_island_23 : decode cX13_island 23 = .ok (.iconst 0, 1) := by decide +kernel
theorem dX13_island_24 : decode cX13_island 24 = .ok (.putfield 215, 3) := by decide +kernel
theorem dX13_island_27 : decode cX13_island 27 = .ok (.aload_n 0, 1) := by decide +kernel
theorem dX13_island_28 : decode cX13_island 28 = .ok (.invokevirtual 148, 3) := by decide +kernel
theorem dX13_island_31 : decode cX13_island 31 = .ok (.aload_n 0, 1) := by decide +kernel
theorem dX13_island_32 : decode cX13_island 32 = .ok (.invokevirtual 190, 3) := by decide +kernel
theorem dX13_island_35 : decode cX13_island 35 = .ok (.aload_n 0, 1) := by decide +kernel
theorem dX13_island_36 : decode cX13_island 36 = .ok (.getfield 161, 3) := by decide +kernel
theorem dX13_island_39 : decode cX13_island 39 = .ok (.ifCond .eq 39, 3) := by decide +kernel
theorem dX13_island_42 : decode cX13_island 42 = .ok (.aload_n 0, 1) := by decide +kernel
theorem dX13_island_43 : decode cX13_island 43 = .ok (.invokevirtual 250, 3) := by decide +kernel
theorem dX13_island_46 : decode cX13_island 46 = .ok (.ifCond .eq 12, 3) := by decide +kernel
theorem dX13_island_49 : decode cX13_island 49 = .ok (.aload_n 0, 1) := by decide +kernel
theorem dX13_island_50 : decode cX13_island 50 = .ok (.bipush 59, 2) := by decide +kernel
theorem dX13_island_52 : decode cX13_island 52 = .ok (.invokevirtual 253, 3) := by decide +kernel
theorem dX13_island_55 : decode cX13_island 55 = .ok (.ifCond .ne 10, 3) := by decide +kernel
theorem dX13_island_58 : decode cX13_island 58 = .ok (.iconst (-1), 1) := by decide +kernel
theorem dX13_island_59 : decode cX13_island 59 = .ok (.aload_n 0, 1) := by decide +kernel
theorem dX13_island_60 : decode cX13_island 60 = .ok (.getfield 181, 3) := by decide +kernel
theorem dX13_island_63 : decode cX13_island 63 = .ok (.isub, 1) := by decide +kernel
theorem dX13_island_64 : decode cX13_island 64 = .ok (.ireturn, 1) := by decide +kernel
theorem dX13_island_65 : decode cX13_island 65 = .ok (.aload_n 0, 1) := by decide +kernel
theorem dX13_island_66 : decode cX13_island 66 = .ok (.dup, 1) := by decide +kernel
theorem dX13_island_67 : decode cX13_island 67 = .ok (.getfield 247, 3) := by decide +kernel
theorem dX13_island_70 : decode cX13_island 70 = .ok (.iconst 1, 1) := by decide +kernel
theorem dX13_island_71 : decode cX13_island 71 = .ok (.iadd, 1) := by decide +kernel
theorem dX13_island_72 : decode cX13_island 72 = .ok (.putfield 247, 3) := by decide +kernel
theorem dX13_island_75 : decode cX13_island 75 = .ok (.goto (-40), 3) := by decide +kernel
theorem dX13_island_78 : decode cX13_island 78 = .ok (.iconst 0, 1) := by decide +kernel
theorem dX13_island_79 : decode cX13_island 79 = .ok (.istore_n 1, 1) := by decide +kernel
theorem dX13_island_80 : decode cX13_island 80 = .ok (.iload_n 1, 1) := by decide +kernel
theorem dX13_island_81 : decode cX13_island 81 = .ok (.sipush 294, 3) := by decide +kernel
theorem dX13_island_84 : decode cX13_island 84 = .ok (.if_icmp .ge 31, 3) := by decide +kernel
theorem dX13_island_87 : decode cX13_island 87 = .ok (.aload_n 0, 1) := by decide +kernel
theorem dX13_island_88 : decode cX13_island 88 = .ok (.getfield 33, 3) := by decide +kernel
theorem dX13_island_91 : decode cX13_island 91 = .ok (.iload_n 1, 1) := by decide +kernel
theorem dX13_island_92 : decode cX13_island 92 = .ok (.iload_n 1, 1) := by decide +kernel
theorem dX13_island_93 : decode cX13_island 93 = .ok (.bipush 54, 2) := by decide +kernel
theorem dX13_island_95 : decode cX13_island 95 = .ok (.if_icmp .ge 12, 3) := by decide +kernel
theorem dX13_island_98 : decode cX13_island 98 = .ok (.aload_n 0, 1) := by decide +kernel
theorem dX13_island_99 : decode cX13_island 99 = .ok (.getfield 37, 3) := by decide +kernel
theorem dX13_island_102 : decode cX13_island 102 = .ok (.iload_n 1, 1) := by decide +kernel
theorem dX13_island_103 : decode cX13_island 103 = .ok (.iaload, 1) := by decide +kernel
theorem dX13_island_104 : decode cX13_island 104 = .ok (.goto 4, 3) := by decide +kernel
theorem dX13_island_107 : decode cX13_island 107 = .ok (.iconst 0, 1) := by decide +kernel
theorem dX13_island_108 : decode cX13_island 108 = .ok (.iastore, 1) := by decide +kernel
theorem dX13_island_109 : decode cX13_island 109 = .ok (.iinc 1 1, 3) := by decide +kernel
theorem dX13_island_112 : decode cX13_island 112 = .ok (.goto (-32), 3) := by decide +kernel
theorem dX13_island_115 : decode cX13_island 115 = .ok (.iconst 0, 1) := by decide +kernel
theorem dX13_island_116 : decode cX13_island 116 = .ok (.istore_n 1, 1) := by decide +kernel
theorem dX13_island_117 : decode cX13_island 117 = .ok (.iload_n 1, 1) := by decide +kernel
theorem dX13_island_118 : decode cX13_island 118 = .ok (.bipush 14, 2) := by decide +kernel
theorem dX13_island_120 : decode cX13_island 120 = .ok (.if_icmp .ge 24, 3) := by decide +kernel
theorem dX13_island_123 : decode cX13_island 123 = .ok (.aload_n 0, 1) := by decide +kernel
theorem dX13_island_124 : decode cX13_island 124 = .ok (.getfield 43, 3) := by decide +kernel
theorem dX13_island_127 : decode cX13_island 127 = .ok (.iload_n 1, 1) := by decide +kernel
theorem dX13_island_128 : decode cX13_island 128 = .ok (.aload_n 0, 1) := by decide +kernel
theorem dX13_island_129 : decode cX13_island 129 = .ok (.getfield 43, 3) := by decide +kernel
theorem dX13_island_132 : decode cX13_island 132 = .ok (.bipush 14, 2) := by decide +kernel
theorem dX13_island_134 : decode cX13_island 134 = .ok (.iload_n 1, 1) := by decide +kernel
theorem dX13_island_135 : decode cX13_island 135 = .ok (.iadd, 1) := by decide +kernel
theorem dX13_island_136 : decode cX13_island 136 = .ok (.laload, 1) := by decide +kernel
theorem dX13_island_137 : decode cX13_island 137 = .ok (.lastore, 1) := by decide +kernel
theorem dX13_island_138 : decode cX13_island 138 = .ok (.iinc 1 1, 3) := by decide +kernel
theorem dX13_island_141 : decode cX13_island 141 = .ok (.goto (-24), 3) := by decide +kernel
theorem dX13_island_144 : decode cX13_island 144 = .ok (.iconst 0, 1) := by decide +kernel
theorem dX13_island_145 : decode cX13_island 145 = .ok (.istore_n 1, 1) := by decide +kernel
theorem dX13_island_146 : decode cX13_island 146 = .ok (.iload_n 1, 1) := by decide +kernel
theorem dX13_island_147 : decode cX13_island 147 = .ok (.bipush 7, 2) := by decide +kernel
theorem dX13_island_149 : decode cX13_island 149 = .ok (.if_icmp .ge 77, 3) := by decide +kernel
theorem dX13_island_152 : decode cX13_island 152 = .ok (.aload_n 0, 1) := by decide +kernel
theorem dX13_island_153 : decode cX13_island 153 = .ok (.getfield 33, 3) := by decide +kernel
theorem dX13_island_156 : decode cX13_island 156 = .ok (.bipush 57, 2) := by decide +kernel
theorem dX13_island_158 : decode cX13_island 158 = .ok (.iload_n 1, 1) := by decide +kernel
theorem dX13_island_159 : decode cX13_island 159 = .ok (.iadd, 1) := by decide +kernel
theorem dX13_island_160 : decode cX13_island 160 = .ok (.aload_n 0, 1) := by decide +kernel
theorem dX13_island_161 : decode cX13_island 161 = .ok (.getfield 33, 3) := by decide +kernel
theorem dX13_island_164 : decode cX13_island 164 = .ok (.iconst 5, 1) := by decide +kernel
theorem dX13_island_165 : decode cX13_island 165 = .ok (.iload_n 1, 1) := by decide +kernel
theorem dX13_island_166 : decode cX13_island 166 = .ok (.iadd, 1) := by decide +kernel
theorem dX13_island_167 : decode cX13_island 167 = .ok (.iaload, 1) := by decide +kernel
theorem dX13_island_168 : decode cX13_island 168 = .ok (.iastore, 1) := by decide +kernel
theorem dX13_island_169 : decode cX13_island 169 = .ok (.aload_n 0, 1) := by decide +kernel
theorem dX13_island_170 : decode cX13_island 170 = .ok (.getfield 33, 3) := by decide +kernel
theorem dX13_island_173 : decode cX13_island 173 = .ok (.bipush 64, 2) := by decide +kernel
theorem dX13_island_175 : decode cX13_island 175 = .ok (.iload_n 1, 1) := by decide +kernel
theorem dX13_island_176 : decode cX13_island 176 = .ok (.iadd, 1) := by decide +kernel
theorem dX13_island_177 : decode cX13_island 177 = .ok (.aload_n 0, 1) := by decide +kernel
theorem dX13_island_178 : decode cX13_island 178 = .ok (.getfield 33, 3) := by decide +kernel
theorem dX13_island_181 : decode cX13_island 181 = .ok (.bipush 12, 2) := by decide +kernel
theorem dX13_island_183 : decode cX13_island 183 = .ok (.iload_n 1, 1) := by decide +kernel
theorem dX13_island_184 : decode cX13_island 184 = .ok (.iadd, 1) := by decide +kernel
theorem dX13_island_185 : decode cX13_island 185 = .ok (.iaload, 1) := by decide +kernel
theorem dX13_island_186 : decode cX13_island 186 = .ok (.iastore, 1) := by decide +kernel
theorem dX13_island_187 : decode cX13_island 187 = .ok (.aload_n 0, 1) := by decide +kernel
theorem dX13_island_188 : decode cX13_island 188 = .ok (.getfield 33, 3) := by decide +kernel
theorem dX13_island_191 : decode cX13_island 191 = .ok (.bipush 71, 2) := by decide +kernel
theorem dX13_island_193 : decode cX13_island 193 = .ok (.iload_n 1, 1) := by decide +kernel
theorem dX13_island_194 : decode cX13_island 194 = .ok (.iadd, 1) := by decide +kernel
theorem dX13_island_195 : decode cX13_island 195 = .ok (.aload_n 0, 1) := by decide +kernel
theorem dX13_island_196 : decode cX13_island 196 = .ok (.getfield 33, 3) := by decide +kernel
theorem dX13_island_199 : decode cX13_island 199 = .ok (.iconst 3, 1) := by decide +kernel
theorem dX13_island_200 : decode cX13_island 200 = .ok (.iaload, 1) := by decide +kernel
theorem dX13_island_201 : decode cX13_island 201 = .ok (.iastore, 1) := by decide +kernel
theorem dX13_island_202 : decode cX13_island 202 = .ok (.aload_n 0, 1) := by decide +kernel
theorem dX13_island_203 : decode cX13_island 203 = .ok (.getfield 33, 3) := by decide +kernel
theorem dX13_island_206 : decode cX13_island 206 = .ok (.bipush 78, 2) := by decide +kernel
theorem dX13_island_208 : decode cX13_island 208 = .ok (.iload_n 1, 1) := by decide +kernel
theorem dX13_island_209 : decode cX13_island 209 = .ok (.iadd, 1) := by decide +kernel
theorem dX13_island_210 : decode cX13_island 210 = .ok (.aload_n 0, 1) := by decide +kernel
theorem dX13_island_211 : decode cX13_island 211 = .ok (.getfield 33, 3) := by decide +kernel
theorem dX13_island_214 : decode cX13_island 214 = .ok (.bipush 40, 2) := by decide +kernel
theorem dX13_island_216 : decode cX13_island 216 = .ok (.iload_n 1, 1) := by decide +kernel
theorem dX13_island_217 : decode cX13_island 217 = .ok (.iadd, 1) := by decide +kernel
theorem dX13_island_218 : decode cX13_island 218 = .ok (.iaload, 1) := by decide +kernel
theorem dX13_island_219 : decode cX13_island 219 = .ok (.iastore, 1) := by decide +kernel
theorem dX13_island_220 : decode cX13_island 220 = .ok (.iinc 1 1, 3) := by decide +kernel
theorem dX13_island_223 : decode cX13_island 223 = .ok (.goto (-77), 3) := by decide +kernel
theorem dX13_island_226 : decode cX13_island 226 = .ok (.aload_n 0, 1) := by decide +kernel
theorem dX13_island_227 : decode cX13_island 227 = .ok (.iconst 0, 1) := by decide +kernel
theorem dX13_island_228 : decode cX13_island 228 = .ok (.putfield 256, 3) := by decide +kernel
theorem dX13_island_231 : decode cX13_island 231 = .ok (.aload_n 0, 1) := by decide +kernel
theorem dX13_island_232 : decode cX13_island 232 = .ok (.getfield 247, 3) := by decide +kernel
theorem dX13_island_235 : decode cX13_island 235 = .ok (.ireturn, 1) := by decide +kernel
set_option maxRecDepth 100000 in
set_option maxHeartbeats 4000000 in
theorem wfX13_island_146 {E : KE} {p : Program} {l : Launch} {e : Env} {s : State} {m : MethodId} {args : Array Value} {below : List Frame} {meth : Method} {c : Code} {q : (Int32 × MM)} (C : mx_C E p m c cX13_island 2 s args RX13 meth (some .int))  (hT : E.1 = mt)   : ∀ (n : Nat) (i1 : Int32) (M : MM) (H : Heap) (locs : List Loc) (ls : Array Slot), fX13_island_146 n i1 M = some q → mx_H E s M H locs → lv_has ls 2 [(0, .ref (E.2.1.2.1 0)), (1, .int i1)] → W p l e (mx_rm 6) s m args below meth c H locs 0 0 (mx_Z E below args s (some (.int q.1)) q.2) (F0 m 146 ls []) := by
  have hx := C.1.1
  have hb := C.1.2.1
  have hown := C.1.2.2.2.1
  have hts := C.1.2.2.2.2
  intro n
  induction n with
  | zero =>
    intro i1 M H locs ls hf hM hl
    rw [fX13_island_146] at hf
    cases hf
  | succ n ih =>
    intro i1 M H locs ls hf hM hl
    rw [fX13_island_146] at hf
    refine lv_iload_n hx hb dX13_island_146 rfl (lv_at hl 1 rfl) ?_
    refine lv_bipush (v := (7 : Int32)) hx hb dX13_island_147 (by decide) ?_
    refine lv_icmp_ge (tgt := 226) hx hb dX13_island_149 (by decide) (fun hc149 => ?_) (fun hc149 => ?_)
    · replace hf := mx_ift hc149 hf
      refine lv_aload_n hx hb dX13_island_226 rfl (lv_at hl 0 rfl) ?_
      refine lv_iconst (v := (0 : Int32)) hx hb dX13_island_227 (by decide) ?_
      refine p13_256 C hT hM dX13_island_228 (fun H locs hM => ?_)
      refine lv_aload_n hx hb dX13_island_231 rfl (lv_at hl 0 rfl) ?_
      refine g13_247 C hT hM dX13_island_232 ?_
      exact mx_iret C hM hf dX13_island_235
    · replace hf := mx_iff hc149 hf
      refine lv_aload_n hx hb dX13_island_152 rfl (lv_at hl 0 rfl) ?_
      refine g13_33 C hT hM dX13_island_153 ?_
      refine lv_bipush (v := (57 : Int32)) hx hb dX13_island_156 (by decide) ?_
      refine lv_iload_n hx hb dX13_island_158 rfl (lv_at hl 1 rfl) ?_
      refine lv_iadd hx hb dX13_island_159 ?_
      refine lv_aload_n hx hb dX13_island_160 rfl (lv_at hl 0 rfl) ?_
      refine g13_33 C hT hM dX13_island_161 ?_
      refine lv_iconst (v := (5 : Int32)) hx hb dX13_island_164 (by decide) ?_
      refine lv_iload_n hx hb dX13_island_165 rfl (lv_at hl 1 rfl) ?_
      refine lv_iadd hx hb dX13_island_166 ?_
      obtain ⟨hg167, hf⟩ := mx_gd hf
      refine mx_iald C hM (mt_2 hT) (mx_in_vp hg167) dX13_island_167 ?_
      obtain ⟨hg168, hf⟩ := mx_gd hf
      refine mx_iast C hM (mt_2 hT) (mx_in_vp hg168) dX13_island_168 (fun H locs hM => ?_)
      refine lv_aload_n hx hb dX13_island_169 rfl (lv_at hl 0 rfl) ?_
      refine g13_33 C hT hM dX13_island_170 ?_
      refine lv_bipush (v := (64 : Int32)) hx hb dX13_island_173 (by decide) ?_
      refine lv_iload_n hx hb dX13_island_175 rfl (lv_at hl 1 rfl) ?_
      refine lv_iadd hx hb dX13_island_176 ?_
      refine lv_aload_n hx hb dX13_island_177 rfl (lv_at hl 0 rfl) ?_
      refine g13_33 C hT hM dX13_island_178 ?_
      refine lv_bipush (v := (12 : Int32)) hx hb dX13_island_181 (by decide) ?_
      refine lv_iload_n hx hb dX13_island_183 rfl (lv_at hl 1 rfl) ?_
      refine lv_iadd hx hb dX13_island_184 ?_
      obtain ⟨hg185, hf⟩ := mx_gd hf
      refine mx_iald C hM (mt_2 hT) (mx_in_vp hg185) dX13_island_185 ?_
      obtain ⟨hg186, hf⟩ := mx_gd hf
      refine mx_iast C hM (mt_2 hT) (mx_in_vp hg186) dX13_island_186 (fun H locs hM => ?_)
      refine lv_aload_n hx hb dX13_island_187 rfl (lv_at hl 0 rfl) ?_
      refine g13_33 C hT hM dX13_island_188 ?_
      refine lv_bipush (v := (71 : Int32)) hx hb dX13_island_191 (by decide) ?_
      refine lv_iload_n hx hb dX13_island_193 rfl (lv_at hl 1 rfl) ?_
      refine lv_iadd hx hb dX13_island_194 ?_
      refine lv_aload_n hx hb dX13_island_195 rfl (lv_at hl 0 rfl) ?_
      refine g13_33 C hT hM dX13_island_196 ?_
      refine lv_iconst (v := (3 : Int32)) hx hb dX13_island_199 (by decide) ?_
      refine mx_ialdL C hM (mt_2 hT) (j := 3) (by decide) (mx_in_vp (by decide)) dX13_island_200 ?_
      obtain ⟨hg201, hf⟩ := mx_gd hf
      refine mx_iast C hM (mt_2 hT) (mx_in_vp hg201) dX13_island_201 (fun H locs hM => ?_)
      refine lv_aload_n hx hb dX13_island_202 rfl (lv_at hl 0 rfl) ?_
      refine g13_33 C hT hM dX13_island_203 ?_
      refine lv_bipush (v := (78 : Int32)) hx hb dX13_island_206 (by decide) ?_
      refine lv_iload_n hx hb dX13_island_208 rfl (lv_at hl 1 rfl) ?_
      refine lv_iadd hx hb dX13_island_209 ?_
      refine lv_aload_n hx hb dX13_island_210 rfl (lv_at hl 0 rfl) ?_
      refine g13_33 C hT hM dX13_island_211 ?_
      refine lv_bipush (v := (40 : Int32)) hx hb dX13_island_214 (by decide) ?_
      refine lv_iload_n hx hb dX13_island_216 rfl (lv_at hl 1 rfl) ?_
      refine lv_iadd hx hb dX13_island_217 ?_
      obtain ⟨hg218, hf⟩ := mx_gd hf
      refine mx_iald C hM (mt_2 hT) (mx_in_vp hg218) dX13_island_218 ?_
      obtain ⟨hg219, hf⟩ := mx_gd hf
      refine mx_iast C hM (mt_2 hT) (mx_in_vp hg219) dX13_island_219 (fun H locs hM => ?_)
      refine lv_iinc (v := (i1 + (1 : Int32))) (lv' := [(1, .int (i1 + (1 : Int32))), (0, .ref (E.2.1.2.1 0))]) hx hb dX13_island_220 hl (k := 1) rfl rfl (by decide) rfl (fun ls hl => ?_)
      refine lv_goto (tgt := 146) hx hb dX13_island_223 (by decide) ?_
      exact ih (i1 + (1 : Int32)) (mx_si (mx_si (mx_si (mx_si M 2 ((57 : Int32) + i1).toNatClampNeg (M.1 2 ((5 : Int32) + i1).toNatClampNeg)) 2 ((64 : Int32) + i1).toNatClampNeg ((mx_si M 2 ((57 : Int32) + i1).toNatClampNeg (M.1 2 ((5 : Int32) + i1).toNatClampNeg)).1 2 ((12 : Int32) + i1).toNatClampNeg)) 2 ((71 : Int32) + i1).toNatClampNeg ((mx_si (mx_si M 2 ((57 : Int32) + i1).toNatClampNeg (M.1 2 ((5 : Int32) + i1).toNatClampNeg)) 2 ((64 : Int32) + i1).toNatClampNeg ((mx_si M 2 ((57 : Int32) + i1).toNatClampNeg (M.1 2 ((5 : Int32) + i1).toNatClampNeg)).1 2 ((12 : Int32) + i1).toNatClampNeg)).1 2 3)) 2 ((78 : Int32) + i1).toNatClampNeg ((mx_si (mx_si (mx_si M 2 ((57 : Int32) + i1).toNatClampNeg (M.1 2 ((5 : Int32) + i1).toNatClampNeg)) 2 ((64 : Int32) + i1).toNatClampNeg ((mx_si M 2 ((57 : Int32) + i1).toNatClampNeg (M.1 2 ((5 : Int32) + i1).toNatClampNeg)).1 2 ((12 : Int32) + i1).toNatClampNeg)) 2 ((71 : Int32) + i1).toNatClampNeg ((mx_si (mx_si M 2 ((57 : Int32) + i1).toNatClampNeg (M.1 2 ((5 : Int32) + i1).toNatClampNeg)) 2 ((64 : Int32) + i1).toNatClampNeg ((mx_si M 2 ((57 : Int32) + i1).toNatClampNeg (M.1 2 ((5 : Int32) + i1).toNatClampNeg)).1 2 ((12 : Int32) + i1).toNatClampNeg)).1 2 3)).1 2 ((40 : Int32) + i1).toNatClampNeg)) _ _ _ hf hM (lv_sub hl [1, 0] rfl)
set_option maxRecDepth 100000 in
set_option maxHeartbeats 4000000 in
theorem wfX13_island_117 {E : KE} {p : Program} {l : Launch} {e : Env} {s : State} {m : MethodId} {args : Array Value} {below : List Frame} {meth : Method} {c : Code} {q : (Int32 × MM)} (C : mx_C E p m c cX13_island 2 s args RX13 meth (some .int))  (hT : E.1 = mt)   : ∀ (n : Nat) (i1 : Int32) (M : MM) (H : Heap) (locs : List Loc) (ls : Array Slot), fX13_island_117 n i1 M = some q → mx_H E s M H locs → lv_has ls 2 [(0, .ref (E.2.1.2.1 0)), (1, .int i1)] → W p l e (mx_rm 6) s m args below meth c H locs 0 0 (mx_Z E below args s (some (.int q.1)) q.2) (F0 m 117 ls []) := by
  have hx := C.1.1
  have hb := C.1.2.1
  have hown := C.1.2.2.2.1
  have hts := C.1.2.2.2.2
  intro n
  induction n with
  | zero =>
    intro i1 M H locs ls hf hM hl
    rw [fX13_island_117] at hf
    cases hf
  | succ n ih =>
    intro i1 M H locs ls hf hM hl
    rw [fX13_island_117] at hf
    refine lv_iload_n hx hb dX13_island_117 rfl (lv_at hl 1 rfl) ?_
    refine lv_bipush (v := (14 : Int32)) hx hb dX13_island_118 (by decide) ?_
    refine lv_icmp_ge (tgt := 144) hx hb dX13_island_120 (by decide) (fun hc120 => ?_) (fun hc120 => ?_)
    · replace hf := mx_ift hc120 hf
      refine lv_iconst (v := (0 : Int32)) hx hb dX13_island_144 (by decide) ?_
      refine lv_istore_n (lv' := [(1, .int (0 : Int32)), (0, .ref (E.2.1.2.1 0))]) hx hb dX13_island_145 rfl hl (by decide) rfl (fun ls hl => ?_)
      exact wfX13_island_146 C hT mx_fu (0 : Int32) M _ _ _ hf hM (lv_sub hl [1, 0] rfl)
    · replace hf := mx_iff hc120 hf
      refine lv_aload_n hx hb dX13_island_123 rfl (lv_at hl 0 rfl) ?_
      refine g13_43 C hT hM dX13_island_124 ?_
      refine lv_iload_n hx hb dX13_island_127 rfl (lv_at hl 1 rfl) ?_
      refine lv_aload_n hx hb dX13_island_128 rfl (lv_at hl 0 rfl) ?_
      refine g13_43 C hT hM dX13_island_129 ?_
      refine lv_bipush (v := (14 : Int32)) hx hb dX13_island_132 (by decide) ?_
      refine lv_iload_n hx hb dX13_island_134 rfl (lv_at hl 1 rfl) ?_
      refine lv_iadd hx hb dX13_island_135 ?_
      obtain ⟨hg136, hf⟩ := mx_gd hf
      refine mx_lald C hM (mt_5 hT) (mx_in_vp hg136) dX13_island_136 ?_
      obtain ⟨hg137, hf⟩ := mx_gd hf
      refine mx_last C hM (mt_5 hT) (mx_in_vp hg137) dX13_island_137 (fun H locs hM => ?_)
      refine lv_iinc (v := (i1 + (1 : Int32))) (lv' := [(1, .int (i1 + (1 : Int32))), (0, .ref (E.2.1.2.1 0))]) hx hb dX13_island_138 hl (k := 1) rfl rfl (by decide) rfl (fun ls hl => ?_)
      refine lv_goto (tgt := 117) hx hb dX13_island_141 (by decide) ?_
      exact ih (i1 + (1 : Int32)) (mx_sl M 5 i1.toNatClampNeg (M.2.1 5 ((14 : Int32) + i1).toNatClampNeg)) _ _ _ hf hM (lv_sub hl [1, 0] rfl)
set_option maxRecDepth 100000 in
set_option maxHeartbeats 4000000 in
theorem wfX13_island_108 {E : KE} {p : Program} {l : Launch} {e : Env} {s : State} {m : MethodId} {args : Array Value} {below : List Frame} {meth : Method} {c : Code} {q : (Int32 × MM)} (C : mx_C E p m c cX13_island 2 s args RX13 meth (some .int))  (hT : E.1 = mt)  (k80 : Int32 → MM → Option (Int32 × MM)) (hk80 : ∀ (i1 : Int32) (M : MM) (H : Heap) (locs : List Loc) (ls : Array Slot), k80 i1 M = some q → mx_H E s M H locs → lv_has ls 2 [(0, .ref (E.2.1.2.1 0)), (1, .int i1)] → W p l e (mx_rm 6) s m args below meth c H locs 0 0 (mx_Z E below args s (some (.int q.1)) q.2) (F0 m 80 ls [])) : ∀ (i1 : Int32) (is1 : Int32) (is2 : Int32) (M : MM) (H : Heap) (locs : List Loc) (ls : Array Slot), fX13_island_108 k80 i1 is1 is2 M = some q → mx_H E s M H locs → lv_has ls 2 [(0, .ref (E.2.1.2.1 0)), (1, .int i1)] → W p l e (mx_rm 6) s m args below meth c H locs 0 0 (mx_Z E below args s (some (.int q.1)) q.2) (F0 m 108 ls [.int is2, .int is1, .ref (E.2.1.2.1 2)]) := by
  have hx := C.1.1
  have hb := C.1.2.1
  have hown := C.1.2.2.2.1
  have hts := C.1.2.2.2.2
  intro i1 is1 is2 M H locs ls hf hM hl
  rw [fX13_island_108] at hf
  obtain ⟨hg108, hf⟩ := mx_gd hf
  refine mx_iast C hM (mt_2 hT) (mx_in_vp hg108) dX13_island_108 (fun H locs hM => ?_)
  refine lv_iinc (v := (i1 + (1 : Int32))) (lv' := [(1, .int (i1 + (1 : Int32))), (0, .ref (E.2.1.2.1 0))]) hx hb dX13_island_109 hl (k := 1) rfl rfl (by decide) rfl (fun ls hl => ?_)
  refine lv_goto (tgt := 80) hx hb dX13_island_112 (by decide) ?_
  exact hk80 (i1 + (1 : Int32)) (mx_si M 2 is1.toNatClampNeg is2) _ _ _ hf hM (lv_sub hl [1, 0] rfl)
set_option maxRecDepth 100000 in
set_option maxHeartbeats 4000000 in
theorem wfX13_island_80 {E : KE} {p : Program} {l : Launch} {e : Env} {s : State} {m : MethodId} {args : Array Value} {below : List Frame} {meth : Method} {c : Code} {q : (Int32 × MM)} (C : mx_C E p m c cX13_island 2 s args RX13 meth (some .int))  (hT : E.1 = mt)   : ∀ (n : Nat) (i1 : Int32) (M : MM) (H : Heap) (locs : List Loc) (ls : Array Slot), fX13_island_80 n i1 M = some q → mx_H E s M H locs → lv_has ls 2 [(0, .ref (E.2.1.2.1 0)), (1, .int i1)] → W p l e (mx_rm 6) s m args below meth c H locs 0 0 (mx_Z E below args s (some (.int q.1)) q.2) (F0 m 80 ls []) := by
  have hx := C.1.1
  have hb := C.1.2.1
  have hown := C.1.2.2.2.1
  have hts := C.1.2.2.2.2
  intro n
  induction n with
  | zero =>
    intro i1 M H locs ls hf hM hl
    rw [fX13_island_80] at hf
    cases hf
  | succ n ih =>
    intro i1 M H locs ls hf hM hl
    rw [fX13_island_80] at hf
    refine lv_iload_n hx hb dX13_island_80 rfl (lv_at hl 1 rfl) ?_
    refine lv_sipush (v := (294 : Int32)) hx hb dX13_island_81 (by decide) ?_
    refine lv_icmp_ge (tgt := 115) hx hb dX13_island_84 (by decide) (fun hc84 => ?_) (fun hc84 => ?_)
    · replace hf := mx_ift hc84 hf
      refine lv_iconst (v := (0 : Int32)) hx hb dX13_island_115 (by decide) ?_
      refine lv_istore_n (lv' := [(1, .int (0 : Int32)), (0, .ref (E.2.1.2.1 0))]) hx hb dX13_island_116 rfl hl (by decide) rfl (fun ls hl => ?_)
      exact wfX13_island_117 C hT mx_fu (0 : Int32) M _ _ _ hf hM (lv_sub hl [1, 0] rfl)
    · replace hf := mx_iff hc84 hf
      refine lv_aload_n hx hb dX13_island_87 rfl (lv_at hl 0 rfl) ?_
      refine g13_33 C hT hM dX13_island_88 ?_
      refine lv_iload_n hx hb dX13_island_91 rfl (lv_at hl 1 rfl) ?_
      refine lv_iload_n hx hb dX13_island_92 rfl (lv_at hl 1 rfl) ?_
      refine lv_bipush (v := (54 : Int32)) hx hb dX13_island_93 (by decide) ?_
      refine lv_icmp_ge (tgt := 107) hx hb dX13_island_95 (by decide) (fun hc95 => ?_) (fun hc95 => ?_)
      · replace hf := mx_ift hc95 hf
        refine lv_iconst (v := (0 : Int32)) hx hb dX13_island_107 (by decide) ?_
        exact wfX13_island_108 C hT (fX13_island_80 n) ih i1 i1 (0 : Int32) M _ _ _ hf hM (lv_sub hl [0, 1] rfl)
      · replace hf := mx_iff hc95 hf
        refine lv_aload_n hx hb dX13_island_98 rfl (lv_at hl 0 rfl) ?_
        refine g13_37 C hT hM dX13_island_99 ?_
        refine lv_iload_n hx hb dX13_island_102 rfl (lv_at hl 1 rfl) ?_
        obtain ⟨hg103, hf⟩ := mx_gd hf
        refine mx_iald C hM (mt_3 hT) (mx_in_vp hg103) dX13_island_103 ?_
        refine lv_goto (tgt := 108) hx hb dX13_island_104 (by decide) ?_
        exact wfX13_island_108 C hT (fX13_island_80 n) ih i1 i1 (M.1 3 i1.toNatClampNeg) M _ _ _ hf hM (lv_sub hl [0, 1] rfl)
set_option maxRecDepth 100000 in
set_option maxHeartbeats 4000000 in
theorem wfX13_island_35 {E : KE} {p : Program} {l : Launch} {e : Env} {s : State} {m : MethodId} {args : Array Value} {below : List Frame} {meth : Method} {c : Code} {q : (Int32 × MM)} (C : mx_C E p m c cX13_island 2 s args RX13 meth (some .int))  (hT : E.1 = mt)   : ∀ (n : Nat) (M : MM) (H : Heap) (locs : List Loc) (ls : Array Slot), fX13_island_35 n M = some q → mx_H E s M H locs → lv_has ls 2 [(0, .ref (E.2.1.2.1 0))] → W p l e (mx_rm 6) s m args below meth c H locs 0 0 (mx_Z E below args s (some (.int q.1)) q.2) (F0 m 35 ls []) := by
  have hx := C.1.1
  have hb := C.1.2.1
  have hown := C.1.2.2.2.1
  have hts := C.1.2.2.2.2
  intro n
  induction n with
  | zero =>
    intro M H locs ls hf hM hl
    rw [fX13_island_35] at hf
    cases hf
  | succ n ih =>
    intro M H locs ls hf hM hl
    rw [fX13_island_35] at hf
    refine lv_aload_n hx hb dX13_island_35 rfl (lv_at hl 0 rfl) ?_
    refine g13_161 C hT hM dX13_island_36 ?_
    refine lv_if_eq (tgt := 78) hx hb dX13_island_39 (by decide) (fun hc39 => ?_) (fun hc39 => ?_)
    · replace hf := mx_ift hc39 hf
      refine lv_iconst (v := (0 : Int32)) hx hb dX13_island_78 (by decide) ?_
      refine lv_istore_n (lv' := [(1, .int (0 : Int32)), (0, .ref (E.2.1.2.1 0))]) hx hb dX13_island_79 rfl hl (by decide) rfl (fun ls hl => ?_)
      exact wfX13_island_80 C hT mx_fu (0 : Int32) M _ _ _ hf hM (lv_sub hl [1, 0] rfl)
    · replace hf := mx_iff hc39 hf
      refine lv_aload_n hx hb dX13_island_42 rfl (lv_at hl 0 rfl) ?_
      obtain ⟨q43, hq43, hf⟩ := mx_bd hf
      refine mx_callV C hM hl.1 yo_X13_line (h' := 5) (by decide) qw_1572 qw_1574 qs_115 (ci := 13) (q := (RX13, TX13, 52)) rfl (mt_0 hT) (As := []) (rest := []) (st1 := [.int (mx_b q43.1)]) (kX13_line C.2.2.2.1  hT M hq43) rfl rfl rfl (Nat.le_of_ble_eq_true rfl) dX13_island_43 (fun H locs hM => ?_)
      refine lv_if_eq (tgt := 58) hx hb dX13_island_46 (by decide) (fun hc46 => ?_) (fun hc46 => ?_)
      · replace hf := mx_ift hc46 hf
        refine lv_iconst (v := (-1 : Int32)) hx hb dX13_island_58 (by decide) ?_
        refine lv_aload_n hx hb dX13_island_59 rfl (lv_at hl 0 rfl) ?_
        refine g13_181 C hT hM dX13_island_60 ?_
        refine lv_isub hx hb dX13_island_63 ?_
        exact mx_iret C hM hf dX13_island_64
      · replace hf := mx_iff hc46 hf
        refine lv_aload_n hx hb dX13_island_49 rfl (lv_at hl 0 rfl) ?_
        refine lv_bipush (v := (59 : Int32)) hx hb dX13_island_50 (by decide) ?_
        obtain ⟨q52, hq52, hf⟩ := mx_bd hf
        refine mx_callV C hM hl.1 yo_X13_sign (h' := 2) (by decide) qw_1630 qw_1632 qs_128 (ci := 13) (q := (RX13, TX13, 52)) rfl (mt_0 hT) (As := [.int (59 : Int32)]) (rest := []) (st1 := [.int (mx_b q52.1)]) (kX13_sign C.2.2.2.1 (59 : Int32) hT q43.2 hq52) rfl rfl rfl (Nat.le_of_ble_eq_true rfl) dX13_island_52 (fun H locs hM => ?_)
        refine lv_if_ne (tgt := 65) hx hb dX13_island_55 (by decide) (fun hc55 => ?_) (fun hc55 => ?_)
        · replace hf := mx_iff hc55 hf
          refine lv_aload_n hx hb dX13_island_65 rfl (lv_at hl 0 rfl) ?_
          refine lv_dup hx hb dX13_island_66 rfl ?_
          refine g13_247 C hT hM dX13_island_67 ?_
          refine lv_iconst (v := (1 : Int32)) hx hb dX13_island_70 (by decide) ?_
          refine lv_iadd hx hb dX13_island_71 ?_
          refine p13_247 C hT hM dX13_island_72 (fun H locs hM => ?_)
          refine lv_goto (tgt := 35) hx hb dX13_island_75 (by decide) ?_
          exact ih (mx_si q52.2 0 19 ((q52.2.1 0 19) + (1 : Int32))) _ _ _ hf hM (lv_sub hl [0] rfl)
        · replace hf := mx_ift hc55 hf
          refine lv_iconst (v := (-1 : Int32)) hx hb dX13_island_58 (by decide) ?_
          refine lv_aload_n hx hb dX13_island_59 rfl (lv_at hl 0 rfl) ?_
          refine g13_181 C hT hM dX13_island_60 ?_
          refine lv_isub hx hb dX13_island_63 ?_
          exact mx_iret C hM hf dX13_island_64
set_option maxRecDepth 100000 in
set_option maxHeartbeats 4000000 in
theorem kX13_island {E : KE} {l : Launch} (hE : mx_ok E)  (hT : E.1 = mt) (M : MM) {q : (Int32 × MM)} (hf : fX13_island M = some q) : mx_Met E l yX13_island cX13_island 2 (some .int) 6 [.ref (E.2.1.2.1 0)] M (some (.int q.1)) q.2 := by
  refine mx_enter hE (by decide) (Nat.le_of_ble_eq_true rfl) ?_
  intro p e s m below meth c C hM hn ls hl
  have hx := C.1.1
  have hb := C.1.2.1
  have hown := C.1.2.2.2.1
  have hts := C.1.2.2.2.2
  have hl : lv_has ls 2 [(0, .ref (E.2.1.2.1 0))] := hl
  rw [fX13_island] at hf
  refine lv_aload_n hx hb dX13_island_0 rfl (lv_at hl 0 rfl) ?_
  refine lv_iconst (v := (0 : Int32)) hx hb dX13_island_1 (by decide) ?_
  refine p13_1 C hT hM dX13_island_2 (fun H locs hM => ?_)
  refine lv_aload_n hx hb dX13_island_5 rfl (lv_at hl 0 rfl) ?_
  refine lv_sipush (v := (900 : Int32)) hx hb dX13_island_6 (by decide) ?_
  obtain ⟨q9, hq9, hf⟩ := mx_bd hf
  refine mx_callV C hM hl.1 yo_X13_taken (h' := 0) (by decide) qw_1554 qw_1556 qs_112 (ci := 13) (q := (RX13, TX13, 52)) rfl (mt_0 hT) (As := [.int (900 : Int32)]) (rest := []) (st1 := []) (kX13_taken C.2.2.2.1 (900 : Int32) hT (mx_si M 0 0 (0 : Int32)) hq9) rfl rfl rfl (Nat.le_of_ble_eq_true rfl) dX13_island_9 (fun H locs hM => ?_)
  refine lv_aload_n hx hb dX13_island_12 rfl (lv_at hl 0 rfl) ?_
  refine lv_iconst (v := (0 : Int32)) hx hb dX13_island_13 (by decide) ?_
  refine p13_178 C hT hM dX13_island_14 (fun H locs hM => ?_)
  refine lv_aload_n hx hb dX13_island_17 rfl (lv_at hl 0 rfl) ?_
  refine lv_iconst (v := (0 : Int32)) hx hb dX13_island_18 (by decide) ?_
  refine p13_247 C hT hM dX13_island_19 (fun H locs hM => ?_)
  refine lv_aload_n hx hb dX13_island_22 rfl (lv_at hl 0 rfl) ?_
  refine lv_iconst (v := (0 : Int32)) hx hb dX13_island_23 (by decide) ?_
  refine p13_215 C hT hM dX13_island_24 (fun H locs hM => ?_)
  refine lv_aload_n hx hb dX13_island_27 rfl (lv_at hl 0 rfl) ?_
  obtain ⟨q28, hq28, hf⟩ := mx_bd hf
  refine mx_callV C hM hl.1 yo_X13_clears (h' := 0) (by decide) qw_1389 qw_1391 qs_111 (ci := 13) (q := (RX13, TX13, 52)) rfl (mt_0 hT) (As := []) (rest := []) (st1 := []) (kX13_clears C.2.2.2.1  hT (mx_si (mx_si (mx_si q9 0 15 (0 : Int32)) 0 19 (0 : Int32)) 0 20 (0 : Int32)) hq28) rfl rfl rfl (Nat.le_of_ble_eq_true rfl) dX13_island_28 (fun H locs hM => ?_)
  refine lv_aload_n hx hb dX13_island_31 rfl (lv_at hl 0 rfl) ?_
  obtain ⟨q32, hq32, hf⟩ := mx_bd hf
  refine mx_callV C hM hl.1 yo_X13_next (h' := 1) (by decide) qw_1558 qw_1560 qs_113 (ci := 13) (q := (RX13, TX13, 52)) rfl (mt_0 hT) (As := []) (rest := []) (st1 := []) (kX13_next C.2.2.2.1  hT q28 hq32) rfl rfl rfl (Nat.le_of_ble_eq_true rfl) dX13_island_32 (fun H locs hM => ?_)
  exact wfX13_island_35 C hT mx_fu q32 _ _ _ hf hM (lv_sub hl [0] rfl)
theorem dX13_fault_0 : decode cX13_fault 0 = .ok (.aload_n 0, 1) := by decide +kernel
theorem dX13_fault_1 : decode cX13_fault 1 = .ok (.iconst 0, 1) := by decide +kernel
theorem dX13_fault_2 : decode cX13_fault 2 = .ok (.putfield 1, 3) := by decide +kernel
theorem dX13_fault_5 : decode cX13_fault 5 = .ok (.aload_n 0, 1) := by decide +kernel
theorem dX13_fault_6 : decode cX13_fault 6 = .ok (.getfield 178, 3) := by decide +kernel
theorem dX13_fault_9 : decode cX13_fault 9 = .ok (.ireturn, 1) := by decide +kernel
set_option maxRecDepth 100000 in
set_option maxHeartbeats 4000000 in
theorem kX13_fault {E : KE} {l : Launch} (hE : mx_ok E)  (hT : E.1 = mt) (M : MM) {q : (Int32 × MM)} (hf : fX13_fault M = some q) : mx_Met E l yX13_fault cX13_fault 1 (some .int) 0 [.ref (E.2.1.2.1 0)] M (some (.int q.1)) q.2 := by
  refine mx_enter hE (by decide) (Nat.le_of_ble_eq_true rfl) ?_
  intro p e s m below meth c C hM hn ls hl
  have hx := C.1.1
  have hb := C.1.2.1
  have hown := C.1.2.2.2.1
  have hts := C.1.2.2.2.2
  have hl : lv_has ls 1 [(0, .ref (E.2.1.2.1 0))] := hl
  rw [fX13_fault] at hf
  refine lv_aload_n hx hb dX13_fault_0 rfl (lv_at hl 0 rfl) ?_
  refine lv_iconst (v := (0 : Int32)) hx hb dX13_fault_1 (by decide) ?_
  refine p13_1 C hT hM dX13_fault_2 (fun H locs hM => ?_)
  refine lv_aload_n hx hb dX13_fault_5 rfl (lv_at hl 0 rfl) ?_
  refine g13_178 C hT hM dX13_fault_6 ?_
  exact mx_iret C hM hf dX13_fault_9
theorem dX13_isPerson_0 : decode cX13_isPerson 0 = .ok (.iload_n 1, 1) := by decide +kernel
theorem dX13_isPerson_1 : decode cX13_isPerson 1 = .ok (.iconst 0, 1) := by decide +kernel
theorem dX13_isPerson_2 : decode cX13_isPerson 2 = .ok (.aload_n 0, 1) := by decide +kernel
theorem dX13_isPerson_3 : decode cX13_isPerson 3 = .ok (.getfield 33, 3) := by decide +kernel
theorem dX13_isPerson_6 : decode cX13_isPerson 6 = .ok (.iconst 0, 1) := by decide +kernel
theorem dX13_isPerson_7 : decode cX13_isPerson 7 = .ok (.iaload, 1) := by decide +kernel
theorem dX13_isPerson_8 : decode cX13_isPerson 8 = .ok (.iconst 1, 1) := by decide +kernel
theorem dX13_isPerson_9 : decode cX13_isPerson 9 = .ok (.isub, 1) := by decide +kernel
theorem dX13_isPerson_10 : decode cX13_isPerson 10 = .ok (.invokestatic 193, 3) := by decide +kernel
theorem dX13_isPerson_13 : decode cX13_isPerson 13 = .ok (.ireturn, 1) := by decide +kernel
set_option maxRecDepth 100000 in
set_option maxHeartbeats 4000000 in
theorem kX13_isPerson {E : KE} {l : Launch} (hE : mx_ok E) (i1 : Int32) (hT : E.1 = mt) (M : MM) {q : Bool} (hf : fX13_isPerson i1 M = some q) : mx_Met E l yX13_isPerson cX13_isPerson 2 (some .boolean) 1 [.ref (E.2.1.2.1 0), .int i1] M (some (.int (mx_b q))) M := by
  refine mx_enter hE (by decide) (Nat.le_of_ble_eq_true rfl) ?_
  intro p e s m below meth c C hM hn ls hl
  have hx := C.1.1
  have hb := C.1.2.1
  have hown := C.1.2.2.2.1
  have hts := C.1.2.2.2.2
  have hl : lv_has ls 2 [(0, .ref (E.2.1.2.1 0)), (1, .int i1)] := hl
  rw [fX13_isPerson] at hf
  refine lv_iload_n hx hb dX13_isPerson_0 rfl (lv_at hl 1 rfl) ?_
  refine lv_iconst (v := (0 : Int32)) hx hb dX13_isPerson_1 (by decide) ?_
  refine lv_aload_n hx hb dX13_isPerson_2 rfl (lv_at hl 0 rfl) ?_
  refine g13_33 C hT hM dX13_isPerson_3 ?_
  refine lv_iconst (v := (0 : Int32)) hx hb dX13_isPerson_6 (by decide) ?_
  refine mx_ialdL C hM (mt_2 hT) (j := 0) (by decide) (mx_in_vp (by decide)) dX13_isPerson_7 ?_
  refine lv_iconst (v := (1 : Int32)) hx hb dX13_isPerson_8 (by decide) ?_
  refine lv_isub hx hb dX13_isPerson_9 ?_
  obtain ⟨q10, hq10, hf⟩ := mx_bd hf
  refine mx_callS C hM hl.1 yo_X13_isIn (h' := 0) (by decide) qw_1608 qw_1609 (As := [.int i1, .int (0 : Int32), .int ((M.1 2 0) - (1 : Int32))]) (rest := []) (st1 := [.int (mx_b q10)]) (kX13_isIn C.2.2.2.1 i1 (0 : Int32) ((M.1 2 0) - (1 : Int32)) hT M hq10) rfl rfl rfl (Nat.le_of_ble_eq_true rfl) dX13_isPerson_10 (fun H locs hM => ?_)
  exact mx_zretR C hM (b := q10) rfl hf dX13_isPerson_13
theorem dX13_isRing_0 : decode cX13_isRing 0 = .ok (.iload_n 1, 1) := by decide +kernel
theorem dX13_isRing_1 : decode cX13_isRing 1 = .ok (.iconst 0, 1) := by decide +kernel
theorem dX13_isRing_2 : decode cX13_isRing 2 = .ok (.aload_n 0, 1) := by decide +kernel
theorem dX13_isRing_3 : decode cX13_isRing 3 = .ok (.getfield 33, 3) := by decide +kernel
theorem dX13_isRing_6 : decode cX13_isRing 6 = .ok (.iconst 1, 1) := by decide +kernel
theorem dX13_isRing_7 : decode cX13_isRing 7 = .ok (.iaload, 1) := by decide +kernel
theorem dX13_isRing_8 : decode cX13_isRing 8 = .ok (.iconst 1, 1) := by decide +kernel
theorem dX13_isRing_9 : decode cX13_isRing 9 = .ok (.isub, 1) := by decide +kernel
theorem dX13_isRing_10 : decode cX13_isRing 10 = .ok (.invokestatic 193, 3) := by decide +kernel
theorem dX13_isRing_13 : decode cX13_isRing 13 = .ok (.ireturn, 1) := by decide +kernel
set_option maxRecDepth 100000 in
set_option maxHeartbeats 4000000 in
theorem kX13_isRing {E : KE} {l : Launch} (hE : mx_ok E) (i1 : Int32) (hT : E.1 = mt) (M : MM) {q : Bool} (hf : fX13_isRing i1 M = some q) : mx_Met E l yX13_isRing cX13_isRing 2 (some .boolean) 1 [.ref (E.2.1.2.1 0), .int i1] M (some (.int (mx_b q))) M := by
  refine mx_enter hE (by decide) (Nat.le_of_ble_eq_true rfl) ?_
  intro p e s m below meth c C hM hn ls hl
  have hx := C.1.1
  have hb := C.1.2.1
  have hown := C.1.2.2.2.1
  have hts := C.1.2.2.2.2
  have hl : lv_has ls 2 [(0, .ref (E.2.1.2.1 0)), (1, .int i1)] := hl
  rw [fX13_isRing] at hf
  refine lv_iload_n hx hb dX13_isRing_0 rfl (lv_at hl 1 rfl) ?_
  refine lv_iconst (v := (0 : Int32)) hx hb dX13_isRing_1 (by decide) ?_
  refine lv_aload_n hx hb dX13_isRing_2 rfl (lv_at hl 0 rfl) ?_
  refine g13_33 C hT hM dX13_isRing_3 ?_
  refine lv_iconst (v := (1 : Int32)) hx hb dX13_isRing_6 (by decide) ?_
  refine mx_ialdL C hM (mt_2 hT) (j := 1) (by decide) (mx_in_vp (by decide)) dX13_isRing_7 ?_
  refine lv_iconst (v := (1 : Int32)) hx hb dX13_isRing_8 (by decide) ?_
  refine lv_isub hx hb dX13_isRing_9 ?_
  obtain ⟨q10, hq10, hf⟩ := mx_bd hf
  refine mx_callS C hM hl.1 yo_X13_isIn (h' := 0) (by decide) qw_1608 qw_1609 (As := [.int i1, .int (0 : Int32), .int ((M.1 2 1) - (1 : Int32))]) (rest := []) (st1 := [.int (mx_b q10)]) (kX13_isIn C.2.2.2.1 i1 (0 : Int32) ((M.1 2 1) - (1 : Int32)) hT M hq10) rfl rfl rfl (Nat.le_of_ble_eq_true rfl) dX13_isRing_10 (fun H locs hM => ?_)
  exact mx_zretR C hM (b := q10) rfl hf dX13_isRing_13
theorem dX13_keeps_0 : decode cX13_keeps 0 = .ok (.aload_n 0, 1) := by decide +kernel
theorem dX13_keeps_1 : decode cX13_keeps 1 = .ok (.getfield 33, 3) := by decide +kernel
theorem dX13_keeps_4 : decode cX13_keeps 4 = .ok (.bipush 85, 2) := by decide +kernel
theorem dX13_keeps_6 : decode cX13_keeps 6 = .ok (.iload_n 2, 1) := by decide +kernel
theorem dX13_keeps_7 : decode cX13_keeps 7 = .ok (.iadd, 1) := by decide +kernel
theorem dX13_keeps_8 : decode cX13_keeps 8 = .ok (.iaload, 1) := by decide +kernel
theorem dX13_keeps_9 : decode cX13_keeps 9 = .ok (.ifCond .ne 20, 3) := by decide +kernel
theorem dX13_keeps_12 : decode cX13_keeps 12 = .ok (.aload_n 0, 1) := by decide +kernel
theorem dX13_keeps_13 : decode cX13_keeps 13 = .ok (.getfield 33, 3) := by decide +kernel
theorem dX13_keeps_16 : decode cX13_keeps 16 = .ok (.bipush 78, 2) := by decide +kernel
theorem dX13_keeps_18 : decode cX13_keeps 18 = .ok (.iload_n 2, 1) := by decide +kernel
theorem dX13_keeps_19 : decode cX13_keeps 19 = .ok (.iadd, 1) := by decide +kernel
theorem dX13_keeps_20 : decode cX13_keeps 20 = .ok (.iaload, 1) := by decide +kernel
theorem dX13_keeps_21 : decode cX13_keeps 21 = .ok (.iload_n 1, 1) := by decide +kernel
theorem dX13_keeps_22 : decode cX13_keeps 22 = .ok (.if_icmp .ne 7, 3) := by decide +kernel
theorem dX13_keeps_25 : decode cX13_keeps 25 = .ok (.iconst 1, 1) := by decide +kernel
theorem dX13_keeps_26 : decode cX13_keeps 26 = .ok (.goto 4, 3) := by decide +kernel
theorem dX13_keeps_29 : decode cX13_keeps 29 = .ok (.iconst 0, 1) := by decide +kernel
theorem dX13_keeps_30 : decode cX13_keeps 30 = .ok (.ireturn, 1) := by decide +kernel
set_option maxRecDepth 100000 in
set_option maxHeartbeats 4000000 in
theorem kX13_keeps {E : KE} {l : Launch} (hE : mx_ok E) (i1 : Int32) (i2 : Int32) (hT : E.1 = mt) (M : MM) {q : Bool} (hf : fX13_keeps i1 i2 M = some q) : mx_Met E l yX13_keeps cX13_keeps 3 (some .boolean) 0 [.ref (E.2.1.2.1 0), .int i1, .int i2] M (some (.int (mx_b q))) M := by
  refine mx_enter hE (by decide) (Nat.le_of_ble_eq_true rfl) ?_
  intro p e s m below meth c C hM hn ls hl
  have hx := C.1.1
  have hb := C.1.2.1
  have hown := C.1.2.2.2.1
  have hts := C.1.2.2.2.2
  have hl : lv_has ls 3 [(0, .ref (E.2.1.2.1 0)), (1, .int i1), (2, .int i2)] := hl
  rw [fX13_keeps] at hf
  refine lv_aload_n hx hb dX13_keeps_0 rfl (lv_at hl 0 rfl) ?_
  refine g13_33 C hT hM dX13_keeps_1 ?_
  refine lv_bipush (v := (85 : Int32)) hx hb dX13_keeps_4 (by decide) ?_
  refine lv_iload_n hx hb dX13_keeps_6 rfl (lv_at hl 2 rfl) ?_
  refine lv_iadd hx hb dX13_keeps_7 ?_
  obtain ⟨hg8, hf⟩ := mx_gd hf
  refine mx_iald C hM (mt_2 hT) (mx_in_vp hg8) dX13_keeps_8 ?_
  refine lv_if_ne (tgt := 29) hx hb dX13_keeps_9 (by decide) (fun hc9 => ?_) (fun hc9 => ?_)
  · replace hf := mx_iff hc9 hf
    refine lv_iconst (v := (0 : Int32)) hx hb dX13_keeps_29 (by decide) ?_
    exact mx_zretR C hM (b := false) rfl hf dX13_keeps_30
  · replace hf := mx_ift hc9 hf
    refine lv_aload_n hx hb dX13_keeps_12 rfl (lv_at hl 0 rfl) ?_
    refine g13_33 C hT hM dX13_keeps_13 ?_
    refine lv_bipush (v := (78 : Int32)) hx hb dX13_keeps_16 (by decide) ?_
    refine lv_iload_n hx hb dX13_keeps_18 rfl (lv_at hl 2 rfl) ?_
    refine lv_iadd hx hb dX13_keeps_19 ?_
    obtain ⟨hg20, hf⟩ := mx_gd hf
    refine mx_iald C hM (mt_2 hT) (mx_in_vp hg20) dX13_keeps_20 ?_
    refine lv_iload_n hx hb dX13_keeps_21 rfl (lv_at hl 1 rfl) ?_
    refine lv_icmp_ne (tgt := 29) hx hb dX13_keeps_22 (by decide) (fun hc22 => ?_) (fun hc22 => ?_)
    · replace hf := mx_iff hc22 hf
      refine lv_iconst (v := (0 : Int32)) hx hb dX13_keeps_29 (by decide) ?_
      exact mx_zretR C hM (b := false) rfl hf dX13_keeps_30
    · replace hf := mx_ift hc22 hf
      refine lv_iconst (v := (1 : Int32)) hx hb dX13_keeps_25 (by decide) ?_
      refine lv_goto (tgt := 30) hx hb dX13_keeps_26 (by decide) ?_
      exact mx_zretR C hM (b := true) rfl hf dX13_keeps_30
theorem dX13_has_0 : decode cX13_has 0 = .ok (.aload_n 0, 1) := by decide +kernel
theorem dX13_has_1 : decode cX13_has 1 = .ok (.getfield 33, 3) := by decide +kernel
theorem dX13_has_4 : decode cX13_has 4 = .ok (.bipush 85, 2) := by decide +kernel
theorem dX13_has_6 : decode cX13_has 6 = .ok (.iload_n 2, 1) := by decide +kernel
theorem dX13_has_7 : decode cX13_has 7 = .ok (.iadd, 1) := by decide +kernel
theorem dX13_has_8 : decode cX13_has 8 = .ok (.iaload, 1) := by decide +kernel
theorem dX13_has_9 : decode cX13_has 9 = .ok (.iconst 2, 1) := by decide +kernel
theorem dX13_has_10 : decode cX13_has 10 = .ok (.if_icmp .eq 20, 3) := by decide +kernel
theorem dX13_has_13 : decode cX13_has 13 = .ok (.aload_n 0, 1) := by decide +kernel
theorem dX13_has_14 : decode cX13_has 14 = .ok (.getfield 33, 3) := by decide +kernel
theorem dX13_has_17 : decode cX13_has 17 = .ok (.bipush 78, 2) := by decide +kernel
theorem dX13_has_19 : decode cX13_has 19 = .ok (.iload_n 2, 1) := by decide +kernel
theorem dX13_has_20 : decode cX13_has 20 = .ok (.iadd, 1) := by decide +kernel
theorem dX13_has_21 : decode cX13_has 21 = .ok (.iaload, 1) := by decide +kernel
theorem dX13_has_22 : decode cX13_has 22 = .ok (.iload_n 1, 1) := by decide +kernel
theorem dX13_has_23 : decode cX13_has 23 = .ok (.if_icmp .ne 7, 3) := by decide +kernel
theorem dX13_has_26 : decode cX13_has 26 = .ok (.iconst 1, 1) := by decide +kernel
theorem dX13_has_27 : decode cX13_has 27 = .ok (.goto 4, 3) := by decide +kernel
theorem dX13_has_30 : decode cX13_has 30 = .ok (.iconst 0, 1) := by decide +kernel
theorem dX13_has_31 : decode cX13_has 31 = .ok (.ireturn, 1) := by decide +kernel
set_option maxRecDepth 100000 in
set_option maxHeartbeats 4000000 in
theorem kX13_has {E : KE} {l : Launch} (hE : mx_ok E) (i1 : Int32) (i2 : Int32) (hT : E.1 = mt) (M : MM) {q : Bool} (hf : fX13_has i1 i2 M = some q) : mx_Met E l yX13_has cX13_has 3 (some .boolean) 0 [.ref (E.2.1.2.1 0), .int i1, .int i2] M (some (.int (mx_b q))) M := by
  refine mx_enter hE (by decide) (Nat.le_of_ble_eq_true rfl) ?_
  intro p e s m below meth c C hM hn ls hl
  have hx := C.1.1
  have hb := C.1.2.1
  have hown := C.1.2.2.2.1
  have hts := C.1.2.2.2.2
  have hl : lv_has ls 3 [(0, .ref (E.2.1.2.1 0)), (1, .int i1), (2, .int i2)] := hl
  rw [fX13_has] at hf
  refine lv_aload_n hx hb dX13_has_0 rfl (lv_at hl 0 rfl) ?_
  refine g13_33 C hT hM dX13_has_1 ?_
  refine lv_bipush (v := (85 : Int32)) hx hb dX13_has_4 (by decide) ?_
  refine lv_iload_n hx hb dX13_has_6 rfl (lv_at hl 2 rfl) ?_
  refine lv_iadd hx hb dX13_has_7 ?_
  obtain ⟨hg8, hf⟩ := mx_gd hf
  refine mx_iald C hM (mt_2 hT) (mx_in_vp hg8) dX13_has_8 ?_
  refine lv_iconst (v := (2 : Int32)) hx hb dX13_has_9 (by decide) ?_
  refine lv_icmp_eq (tgt := 30) hx hb dX13_has_10 (by decide) (fun hc10 => ?_) (fun hc10 => ?_)
  · replace hf := mx_ift hc10 hf
    refine lv_iconst (v := (0 : Int32)) hx hb dX13_has_30 (by decide) ?_
    exact mx_zretR C hM (b := false) rfl hf dX13_has_31
  · replace hf := mx_iff hc10 hf
    refine lv_aload_n hx hb dX13_has_13 rfl (lv_at hl 0 rfl) ?_
    refine g13_33 C hT hM dX13_has_14 ?_
    refine lv_bipush (v := (78 : Int32)) hx hb dX13_has_17 (by decide) ?_
    refine lv_iload_n hx hb dX13_has_19 rfl (lv_at hl 2 rfl) ?_
    refine lv_iadd hx hb dX13_has_20 ?_
    obtain ⟨hg21, hf⟩ := mx_gd hf
    refine mx_iald C hM (mt_2 hT) (mx_in_vp hg21) dX13_has_21 ?_
    refine lv_iload_n hx hb dX13_has_22 rfl (lv_at hl 1 rfl) ?_
    refine lv_icmp_ne (tgt := 30) hx hb dX13_has_23 (by decide) (fun hc23 => ?_) (fun hc23 => ?_)
    · replace hf := mx_iff hc23 hf
      refine lv_iconst (v := (0 : Int32)) hx hb dX13_has_30 (by decide) ?_
      exact mx_zretR C hM (b := false) rfl hf dX13_has_31
    · replace hf := mx_ift hc23 hf
      refine lv_iconst (v := (1 : Int32)) hx hb dX13_has_26 (by decide) ?_
      refine lv_goto (tgt := 31) hx hb dX13_has_27 (by decide) ?_
      exact mx_zretR C hM (b := true) rfl hf dX13_has_31
theorem dX13_keptBy_0 : decode cX13_keptBy 0 = .ok (.iconst 0, 1) := by decide +kernel
theorem dX13_keptBy_1 : decode cX13_keptBy 1 = .ok (.istore_n 2, 1) := by decide +kernel
theorem dX13_keptBy_2 : decode cX13_keptBy 2 = .ok (.iconst 0, 1) := by decide +kernel
theorem dX13_keptBy_3 : decode cX13_keptBy 3 = .ok (.istore_n 3, 1) := by decide +kernel
theorem dX13_keptBy_4 : decode cX13_keptBy 4 = .ok (.iload_n 3, 1) := by decide +kernel
theorem dX13_keptBy_5 : decode cX13_keptBy 5 = .ok (.aload_n 0, 1) := by decide +kernel
theorem dX13_keptBy_6 : decode cX13_keptBy 6 = .ok (.getfield 33, 3) := by decide +kernel
theorem dX13_keptBy_9 : decode cX13_keptBy 9 = .ok (.iconst 1, 1) := by decide +kernel
theorem dX13_keptBy_10 : decode cX13_keptBy 10 = .ok (.iaload, 1) := by decide +kernel
theorem dX13_keptBy_11 : decode cX13_keptBy 11 = .ok (.if_icmp .ge 28, 3) := by decide +kernel
theorem dX13_keptBy_14 : decode cX13_keptBy 14 = .ok (.iload_n 2, 1) := by decide +kernel
theorem dX13_keptBy_15 : decode cX13_keptBy 15 = .ok (.aload_n 0, 1) := by decide +kernel
theorem dX13_keptBy_16 : decode cX13_keptBy 16 = .ok (.iload_n 1, 1) := by decide +kernel
theorem dX13_keptBy_17 : decode cX13_keptBy 17 = .ok (.iload_n 3, 1) := by decide +kernel
theorem dX13_keptBy_18 : decode cX13_keptBy 18 = .ok (.invokevirtual 259, 3) := by decide +kernel
theorem dX13_keptBy_21 : decode cX13_keptBy 21 = .ok (.ifCond .eq 9, 3) := by decide +kernel
theorem dX13_keptBy_24 : decode cX13_keptBy 24 = .ok (.iconst 1, 1) := by decide +kernel
theorem dX13_keptBy_25 : decode cX13_keptBy 25 = .ok (.iload_n 3, 1) := by decide +kernel
theorem dX13_keptBy_26 : decode cX13_keptBy 26 = .ok (.ishl, 1) := by decide +kernel
theorem dX13_keptBy_27 : decode cX13_keptBy 27 = .ok (.goto 4, 3) := by decide +kernel
theorem dX13_keptBy_30 : decode cX13_keptBy 30 = .ok (.iconst 0, 1) := by decide +kernel
theorem dX13_keptBy_31 : decode cX13_keptBy 31 = .ok (.ior, 1) := by decide +kernel
theorem dX13_keptBy_32 : decode cX13_keptBy 32 = .ok (.istore_n 2, 1) := by decide +kernel
theorem dX13_keptBy_33 : decode cX13_keptBy 33 = .ok (.iinc 3 1, 3) := by decide +kernel
theorem dX13_keptBy_36 : decode cX13_keptBy 36 = .ok (.goto (-32), 3) := by decide +kernel
theorem dX13_keptBy_39 : decode cX13_keptBy 39 = .ok (.iload_n 2, 1) := by decide +kernel
theorem dX13_keptBy_40 : decode cX13_keptBy 40 = .ok (.ireturn, 1) := by decide +kernel
set_option maxRecDepth 100000 in
set_option maxHeartbeats 4000000 in
theorem wfX13_keptBy_4 {E : KE} {p : Program} {l : Launch} {e : Env} {s : State} {m : MethodId} {args : Array Value} {below : List Frame} {meth : Method} {c : Code} {q : Int32} (C : mx_C E p m c cX13_keptBy 4 s args RX13 meth (some .int)) (i1 : Int32) (M : MM) (hT : E.1 = mt)   : ∀ (n : Nat) (i2 : Int32) (i3 : Int32) (H : Heap) (locs : List Loc) (ls : Array Slot), fX13_keptBy_4 i1 M n i2 i3 = some q → mx_H E s M H locs → lv_has ls 4 [(0, .ref (E.2.1.2.1 0)), (1, .int i1), (2, .int i2), (3, .int i3)] → W p l e (mx_rm 1) s m args below meth c H locs 0 0 (mx_Z E below args s (some (.int q)) M) (F0 m 4 ls []) := by
  have hx := C.1.1
  have hb := C.1.2.1
  have hown := C.1.2.2.2.1
  have hts := C.1.2.2.2.2
  intro n
  induction n with
  | zero =>
    intro i2 i3 H locs ls hf hM hl
    rw [fX13_keptBy_4] at hf
    cases hf
  | succ n ih =>
    intro i2 i3 H locs ls hf hM hl
    rw [fX13_keptBy_4] at hf
    refine lv_iload_n hx hb dX13_keptBy_4 rfl (lv_at hl 3 rfl) ?_
    refine lv_aload_n hx hb dX13_keptBy_5 rfl (lv_at hl 0 rfl) ?_
    refine g13_33 C hT hM dX13_keptBy_6 ?_
    refine lv_iconst (v := (1 : Int32)) hx hb dX13_keptBy_9 (by decide) ?_
    refine mx_ialdL C hM (mt_2 hT) (j := 1) (by decide) (mx_in_vp (by decide)) dX13_keptBy_10 ?_
    refine lv_icmp_ge (tgt := 39) hx hb dX13_keptBy_11 (by decide) (fun hc11 => ?_) (fun hc11 => ?_)
    · replace hf := mx_ift hc11 hf
      refine lv_iload_n hx hb dX13_keptBy_39 rfl (lv_at hl 2 rfl) ?_
      exact mx_iretR C hM hf dX13_keptBy_40
    · replace hf := mx_iff hc11 hf
      refine lv_iload_n hx hb dX13_keptBy_14 rfl (lv_at hl 2 rfl) ?_
      refine lv_aload_n hx hb dX13_keptBy_15 rfl (lv_at hl 0 rfl) ?_
      refine lv_iload_n hx hb dX13_keptBy_16 rfl (lv_at hl 1 rfl) ?_
      refine lv_iload_n hx hb dX13_keptBy_17 rfl (lv_at hl 3 rfl) ?_
      obtain ⟨q18, hq18, hf⟩ := mx_bd hf
      refine mx_callV C hM hl.1 yo_X13_keeps (h' := 0) (by decide) qw_1658 qw_1660 qs_133 (ci := 13) (q := (RX13, TX13, 52)) rfl (mt_0 hT) (As := [.int i1, .int i3]) (rest := [.int i2]) (st1 := [.int (mx_b q18), .int i2]) (kX13_keeps C.2.2.2.1 i1 i3 hT M hq18) rfl rfl rfl (Nat.le_of_ble_eq_true rfl) dX13_keptBy_18 (fun H locs hM => ?_)
      refine lv_if_eq (tgt := 30) hx hb dX13_keptBy_21 (by decide) (fun hc21 => ?_) (fun hc21 => ?_)
      · replace hf := mx_ift hc21 hf
        refine lv_iconst (v := (0 : Int32)) hx hb dX13_keptBy_30 (by decide) ?_
        refine lv_ior hx hb dX13_keptBy_31 ?_
        refine lv_istore_n (lv' := [(2, .int (i2 ||| (0 : Int32))), (0, .ref (E.2.1.2.1 0)), (1, .int i1), (3, .int i3)]) hx hb dX13_keptBy_32 rfl hl (by decide) rfl (fun ls hl => ?_)
        refine lv_iinc (v := (i3 + (1 : Int32))) (lv' := [(3, .int (i3 + (1 : Int32))), (2, .int (i2 ||| (0 : Int32))), (0, .ref (E.2.1.2.1 0)), (1, .int i1)]) hx hb dX13_keptBy_33 hl (k := 3) rfl rfl (by decide) rfl (fun ls hl => ?_)
        refine lv_goto (tgt := 4) hx hb dX13_keptBy_36 (by decide) ?_
        exact ih (i2 ||| (0 : Int32)) (i3 + (1 : Int32)) _ _ _ hf hM (lv_sub hl [2, 3, 1, 0] rfl)
      · replace hf := mx_iff hc21 hf
        refine lv_iconst (v := (1 : Int32)) hx hb dX13_keptBy_24 (by decide) ?_
        refine lv_iload_n hx hb dX13_keptBy_25 rfl (lv_at hl 3 rfl) ?_
        refine lv_ishl hx hb dX13_keptBy_26 ?_
        refine lv_goto (tgt := 31) hx hb dX13_keptBy_27 (by decide) ?_
        refine lv_ior hx hb dX13_keptBy_31 ?_
        refine lv_istore_n (lv' := [(2, .int (i2 ||| ((1 : Int32) <<< (i3 &&& 31)))), (0, .ref (E.2.1.2.1 0)), (1, .int i1), (3, .int i3)]) hx hb dX13_keptBy_32 rfl hl (by decide) rfl (fun ls hl => ?_)
        refine lv_iinc (v := (i3 + (1 : Int32))) (lv' := [(3, .int (i3 + (1 : Int32))), (2, .int (i2 ||| ((1 : Int32) <<< (i3 &&& 31)))), (0, .ref (E.2.1.2.1 0)), (1, .int i1)]) hx hb dX13_keptBy_33 hl (k := 3) rfl rfl (by decide) rfl (fun ls hl => ?_)
        refine lv_goto (tgt := 4) hx hb dX13_keptBy_36 (by decide) ?_
        exact ih (i2 ||| ((1 : Int32) <<< (i3 &&& 31))) (i3 + (1 : Int32)) _ _ _ hf hM (lv_sub hl [2, 3, 1, 0] rfl)
set_option maxRecDepth 100000 in
set_option maxHeartbeats 4000000 in
theorem kX13_keptBy {E : KE} {l : Launch} (hE : mx_ok E) (i1 : Int32) (hT : E.1 = mt) (M : MM) {q : Int32} (hf : fX13_keptBy i1 M = some q) : mx_Met E l yX13_keptBy cX13_keptBy 4 (some .int) 1 [.ref (E.2.1.2.1 0), .int i1] M (some (.int q)) M := by
  refine mx_enter hE (by decide) (Nat.le_of_ble_eq_true rfl) ?_
  intro p e s m below meth c C hM hn ls hl
  have hx := C.1.1
  have hb := C.1.2.1
  have hown := C.1.2.2.2.1
  have hts := C.1.2.2.2.2
  have hl : lv_has ls 4 [(0, .ref (E.2.1.2.1 0)), (1, .int i1)] := hl
  rw [fX13_keptBy] at hf
  refine lv_iconst (v := (0 : Int32)) hx hb dX13_keptBy_0 (by decide) ?_
  refine lv_istore_n (lv' := [(2, .int (0 : Int32)), (0, .ref (E.2.1.2.1 0)), (1, .int i1)]) hx hb dX13_keptBy_1 rfl hl (by decide) rfl (fun ls hl => ?_)
  refine lv_iconst (v := (0 : Int32)) hx hb dX13_keptBy_2 (by decide) ?_
  refine lv_istore_n (lv' := [(3, .int (0 : Int32)), (2, .int (0 : Int32)), (0, .ref (E.2.1.2.1 0)), (1, .int i1)]) hx hb dX13_keptBy_3 rfl hl (by decide) rfl (fun ls hl => ?_)
  exact wfX13_keptBy_4 C i1 M hT mx_fu (0 : Int32) (0 : Int32) _ _ _ hf hM (lv_sub hl [2, 3, 1, 0] rfl)
theorem dX13_wornBy_0 : decode cX13_wornBy 0 = .ok (.iconst 0, 1) := by decide +kernel
theorem dX13_wornBy_1 : decode cX13_wornBy 1 = .ok (.istore_n 2, 1) := by decide +kernel
theorem dX13_wornBy_2 : decode cX13_wornBy 2 = .ok (.iload_n 2, 1) := by decide +kernel
theorem dX13_wornBy_3 : decode cX13_wornBy 3 = .ok (.aload_n 0, 1) := by decide +kernel
theorem dX13_wornBy_4 : decode cX13_wornBy 4 = .ok (.getfield 33, 3) := by decide +kernel
theorem dX13_wornBy_7 : decode cX13_wornBy 7 = .ok (.iconst 1, 1) := by decide +kernel
theorem dX13_wornBy_8 : decode cX13_wornBy 8 = .ok (.iaload, 1) := by decide +kernel
theorem dX13_wornBy_9 : decode cX13_wornBy 9 = .ok (.if_icmp .ge 37, 3) := by decide +kernel
theorem dX13_wornBy_12 : decode cX13_wornBy 12 = .ok (.aload_n 0, 1) := by decide +kernel
theorem dX13_wornBy_13 : decode cX13_wornBy 13 = .ok (.getfield 33, 3) := by decide +kernel
theorem dX13_wornBy_16 : decode cX13_wornBy 16 = .ok (.bipush 85, 2) := by decide +kernel
theorem dX13_wornBy_18 : decode cX13_wornBy 18 = .ok (.iload_n 2, 1) := by decide +kernel
theorem dX13_wornBy_19 : decode cX13_wornBy 19 = .ok (.iadd, 1) := by decide +kernel
theorem dX13_wornBy_20 : decode cX13_wornBy 20 = .ok (.iaload, 1) := by decide +kernel
theorem dX13_wornBy_21 : decode cX13_wornBy 21 = .ok (.iconst 1, 1) := by decide +kernel
theorem dX13_wornBy_22 : decode cX13_wornBy 22 = .ok (.if_icmp .ne 18, 3) := by decide +kernel
theorem dX13_wornBy_25 : decode cX13_wornBy 25 = .ok (.aload_n 0, 1) := by decide +kernel
theorem dX13_wornBy_26 : decode cX13_wornBy 26 = .ok (.getfield 33, 3) := by decide +kernel
theorem dX13_wornBy_29 : decode cX13_wornBy 29 = .ok (.bipush 78, 2) := by decide +kernel
theorem dX13_wornBy_31 : decode cX13_wornBy 31 = .ok (.iload_n 2, 1) := by decide +kernel
theorem dX13_wornBy_32 : decode cX13_wornBy 32 = .ok (.iadd, 1) := by decide +kernel
theorem dX13_wornBy_33 : decode cX13_wornBy 33 = .ok (.iaload, 1) := by decide +kernel
theorem dX13_wornBy_34 : decode cX13_wornBy 34 = .ok (.iload_n 1, 1) := by decide +kernel
theorem dX13_wornBy_35 : decode cX13_wornBy 35 = .ok (.if_icmp .ne 5, 3) := by decide +kernel
theorem dX13_wornBy_38 : decode cX13_wornBy 38 = .ok (.iload_n 2, 1) := by decide +kernel
theorem dX13_wornBy_39 : decode cX13_wornBy 39 = .ok (.ireturn, 1) := by decide +kernel
theorem dX13_wornBy_40 : decode cX13_wornBy 40 = .ok (.iinc 2 1, 3) := by decide +kernel
theorem dX13_wornBy_43 : decode cX13_wornBy 43 = .ok (.goto (-41), 3) := by decide +kernel
theorem dX13_wornBy_46 : decode cX13_wornBy 46 = .ok (.iconst (-1), 1) := by decide +kernel
theorem dX13_wornBy_47 : decode cX13_wornBy 47 = .ok (.ireturn, 1) := by decide +kernel
set_option maxRecDepth 100000 in
set_option maxHeartbeats 4000000 in
theorem wfX13_wornBy_2 {E : KE} {p : Program} {l : Launch} {e : Env} {s : State} {m : MethodId} {args : Array Value} {below : List Frame} {meth : Method} {c : Code} {q : Int32} (C : mx_C E p m c cX13_wornBy 3 s args RX13 meth (some .int)) (i1 : Int32) (M : MM) (hT : E.1 = mt)   : ∀ (n : Nat) (i2 : Int32) (H : Heap) (locs : List Loc) (ls : Array Slot), fX13_wornBy_2 i1 M n i2 = some q → mx_H E s M H locs → lv_has ls 3 [(0, .ref (E.2.1.2.1 0)), (1, .int i1), (2, .int i2)] → W p l e (mx_rm 0) s m args below meth c H locs 0 0 (mx_Z E below args s (some (.int q)) M) (F0 m 2 ls []) := by
  have hx := C.1.1
  have hb := C.1.2.1
  have hown := C.1.2.2.2.1
  have hts := C.1.2.2.2.2
  intro n
  induction n with
  | zero =>
    intro i2 H locs ls hf hM hl
    rw [fX13_wornBy_2] at hf
    cases hf
  | succ n ih =>
    intro i2 H locs ls hf hM hl
    rw [fX13_wornBy_2] at hf
    refine lv_iload_n hx hb dX13_wornBy_2 rfl (lv_at hl 2 rfl) ?_
    refine lv_aload_n hx hb dX13_wornBy_3 rfl (lv_at hl 0 rfl) ?_
    refine g13_33 C hT hM dX13_wornBy_4 ?_
    refine lv_iconst (v := (1 : Int32)) hx hb dX13_wornBy_7 (by decide) ?_
    refine mx_ialdL C hM (mt_2 hT) (j := 1) (by decide) (mx_in_vp (by decide)) dX13_wornBy_8 ?_
    refine lv_icmp_ge (tgt := 46) hx hb dX13_wornBy_9 (by decide) (fun hc9 => ?_) (fun hc9 => ?_)
    · replace hf := mx_ift hc9 hf
      refine lv_iconst (v := (-1 : Int32)) hx hb dX13_wornBy_46 (by decide) ?_
      exact mx_iretR C hM hf dX13_wornBy_47
    · replace hf := mx_iff hc9 hf
      refine lv_aload_n hx hb dX13_wornBy_12 rfl (lv_at hl 0 rfl) ?_
      refine g13_33 C hT hM dX13_wornBy_13 ?_
      refine lv_bipush (v := (85 : Int32)) hx hb dX13_wornBy_16 (by decide) ?_
      refine lv_iload_n hx hb dX13_wornBy_18 rfl (lv_at hl 2 rfl) ?_
      refine lv_iadd hx hb dX13_wornBy_19 ?_
      obtain ⟨hg20, hf⟩ := mx_gd hf
      refine mx_iald C hM (mt_2 hT) (mx_in_vp hg20) dX13_wornBy_20 ?_
      refine lv_iconst (v := (1 : Int32)) hx hb dX13_wornBy_21 (by decide) ?_
      refine lv_icmp_ne (tgt := 40) hx hb dX13_wornBy_22 (by decide) (fun hc22 => ?_) (fun hc22 => ?_)
      · replace hf := mx_iff hc22 hf
        refine lv_iinc (v := (i2 + (1 : Int32))) (lv' := [(2, .int (i2 + (1 : Int32))), (0, .ref (E.2.1.2.1 0)), (1, .int i1)]) hx hb dX13_wornBy_40 hl (k := 2) rfl rfl (by decide) rfl (fun ls hl => ?_)
        refine lv_goto (tgt := 2) hx hb dX13_wornBy_43 (by decide) ?_
        exact ih (i2 + (1 : Int32)) _ _ _ hf hM (lv_sub hl [1, 2, 0] rfl)
      · replace hf := mx_ift hc22 hf
        refine lv_aload_n hx hb dX13_wornBy_25 rfl (lv_at hl 0 rfl) ?_
        refine g13_33 C hT hM dX13_wornBy_26 ?_
        refine lv_bipush (v := (78 : Int32)) hx hb dX13_wornBy_29 (by decide) ?_
        refine lv_iload_n hx hb dX13_wornBy_31 rfl (lv_at hl 2 rfl) ?_
        refine lv_iadd hx hb dX13_wornBy_32 ?_
        obtain ⟨hg33, hf⟩ := mx_gd hf
        refine mx_iald C hM (mt_2 hT) (mx_in_vp hg33) dX13_wornBy_33 ?_
        refine lv_iload_n hx hb dX13_wornBy_34 rfl (lv_at hl 1 rfl) ?_
        refine lv_icmp_ne (tgt := 40) hx hb dX13_wornBy_35 (by decide) (fun hc35 => ?_) (fun hc35 => ?_)
        · replace hf := mx_iff hc35 hf
          refine lv_iinc (v := (i2 + (1 : Int32))) (lv' := [(2, .int (i2 + (1 : Int32))), (0, .ref (E.2.1.2.1 0)), (1, .int i1)]) hx hb dX13_wornBy_40 hl (k := 2) rfl rfl (by decide) rfl (fun ls hl => ?_)
          refine lv_goto (tgt := 2) hx hb dX13_wornBy_43 (by decide) ?_
          exact ih (i2 + (1 : Int32)) _ _ _ hf hM (lv_sub hl [1, 2, 0] rfl)
        · replace hf := mx_ift hc35 hf
          refine lv_iload_n hx hb dX13_wornBy_38 rfl (lv_at hl 2 rfl) ?_
          exact mx_iretR C hM hf dX13_wornBy_39
set_option maxRecDepth 100000 in
set_option maxHeartbeats 4000000 in
theorem kX13_wornBy {E : KE} {l : Launch} (hE : mx_ok E) (i1 : Int32) (hT : E.1 = mt) (M : MM) {q : Int32} (hf : fX13_wornBy i1 M = some q) : mx_Met E l yX13_wornBy cX13_wornBy 3 (some .int) 0 [.ref (E.2.1.2.1 0), .int i1] M (some (.int q)) M := by
  refine mx_enter hE (by decide) (Nat.le_of_ble_eq_true rfl) ?_
  intro p e s m below meth c C hM hn ls hl
  have hx := C.1.1
  have hb := C.1.2.1
  have hown := C.1.2.2.2.1
  have hts := C.1.2.2.2.2
  have hl : lv_has ls 3 [(0, .ref (E.2.1.2.1 0)), (1, .int i1)] := hl
  rw [fX13_wornBy] at hf
  refine lv_iconst (v := (0 : Int32)) hx hb dX13_wornBy_0 (by decide) ?_
  refine lv_istore_n (lv' := [(2, .int (0 : Int32)), (0, .ref (E.2.1.2.1 0)), (1, .int i1)]) hx hb dX13_wornBy_1 rfl hl (by decide) rfl (fun ls hl => ?_)
  exact wfX13_wornBy_2 C i1 M hT mx_fu (0 : Int32) _ _ _ hf hM (lv_sub hl [1, 2, 0] rfl)
theorem dX13_ownedBy_0 : decode cX13_ownedBy 0 = .ok (.iconst 0, 1) := by decide +kernel
theorem dX13_ownedBy_1 : decode cX13_ownedBy 1 = .ok (.istore_n 2, 1) := by decide +kernel
theorem dX13_ownedBy_2 : decode cX13_ownedBy 2 = .ok (.iconst 0, 1) := by decide +kernel
theorem dX13_ownedBy_3 : decode cX13_ownedBy 3 = .ok (.istore_n 3, 1) := by decide +kernel
theorem dX13_ownedBy_4 : decode cX13_ownedBy 4 = .ok (.iload_n 3, 1) := by decide +kernel
theorem dX13_ownedBy_5 : decode cX13_ownedBy 5 = .ok (.aload_n 0, 1) := by decide +kernel
theorem dX13_ownedBy_6 : decode cX13_ownedBy 6 = .ok (.getfield 33, 3) := by decide +kernel
theorem dX13_ownedBy_9 : decode cX13_ownedBy 9 = .ok (.iconst 1, 1) := by decide +kernel
theorem dX13_ownedBy_10 : decode cX13_ownedBy 10 = .ok (.iaload, 1) := by decide +kernel
theorem dX13_ownedBy_11 : decode cX13_ownedBy 11 = .ok (.if_icmp .ge 32, 3) := by decide +kernel
theorem dX13_ownedBy_14 : decode cX13_ownedBy 14 = .ok (.iload_n 2, 1) := by decide +kernel
theorem dX13_ownedBy_15 : decode cX13_ownedBy 15 = .ok (.aload_n 0, 1) := by decide +kernel
theorem dX13_ownedBy_16 : decode cX13_ownedBy 16 = .ok (.getfield 33, 3) := by decide +kernel
theorem dX13_ownedBy_19 : decode cX13_ownedBy 19 = .ok (.bipush 33, 2) := by decide +kernel
theorem dX13_ownedBy_21 : decode cX13_ownedBy 21 = .ok (.iload_n 3, 1) := by decide +kernel
theorem dX13_ownedBy_22 : decode cX13_ownedBy 22 = .ok (.iadd, 1) := by decide +kernel
theorem dX13_ownedBy_23 : decode cX13_ownedBy 23 = .ok (.iaload, 1) := by decide +kernel
theorem dX13_ownedBy_24 : decode cX13_ownedBy 24 = .ok (.iload_n 1, 1) := by decide +kernel
theorem dX13_ownedBy_25 : decode cX13_ownedBy 25 = .ok (.if_icmp .ne 9, 3) := by decide +kernel
theorem dX13_ownedBy_28 : decode cX13_ownedBy 28 = .ok (.iconst 1, 1) := by decide +kernel
theorem dX13_ownedBy_29 : decode cX13_ownedBy 29 = .ok (.iload_n 3, 1) := by decide +kernel
theorem dX13_ownedBy_30 : decode cX13_ownedBy 30 = .ok (.ishl, 1) := by decide +kernel
theorem dX13_ownedBy_31 : decode cX13_ownedBy 31 = .ok (.goto 4, 3) := by decide +kernel
theorem dX13_ownedBy_34 : decode cX13_ownedBy 34 = .ok (.iconst 0, 1) := by decide +kernel
theorem dX13_ownedBy_35 : decode cX13_ownedBy 35 = .ok (.ior, 1) := by decide +kernel
theorem dX13_ownedBy_36 : decode cX13_ownedBy 36 = .ok (.istore_n 2, 1) := by decide +kernel
theorem dX13_ownedBy_37 : decode cX13_ownedBy 37 = .ok (.iinc 3 1, 3) := by decide +kernel
theorem dX13_ownedBy_40 : decode cX13_ownedBy 40 = .ok (.goto (-36), 3) := by decide +kernel
theorem dX13_ownedBy_43 : decode cX13_ownedBy 43 = .ok (.iload_n 2, 1) := by decide +kernel
theorem dX13_ownedBy_44 : decode cX13_ownedBy 44 = .ok (.ireturn, 1) := by decide +kernel
set_option maxRecDepth 100000 in
set_option maxHeartbeats 4000000 in
theorem wfX13_ownedBy_4 {E : KE} {p : Program} {l : Launch} {e : Env} {s : State} {m : MethodId} {args : Array Value} {below : List Frame} {meth : Method} {c : Code} {q : Int32} (C : mx_C E p m c cX13_ownedBy 4 s args RX13 meth (some .int)) (i1 : Int32) (M : MM) (hT : E.1 = mt)   : ∀ (n : Nat) (i2 : Int32) (i3 : Int32) (H : Heap) (locs : List Loc) (ls : Array Slot), fX13_ownedBy_4 i1 M n i2 i3 = some q → mx_H E s M H locs → lv_has ls 4 [(0, .ref (E.2.1.2.1 0)), (1, .int i1), (2, .int i2), (3, .int i3)] → W p l e (mx_rm 0) s m args below meth c H locs 0 0 (mx_Z E below args s (some (.int q)) M) (F0 m 4 ls []) := by
  have hx := C.1.1
  have hb := C.1.2.1
  have hown := C.1.2.2.2.1
  have hts := C.1.2.2.2.2
  intro n
  induction n with
  | zero =>
    intro i2 i3 H locs ls hf hM hl
    rw [fX13_ownedBy_4] at hf
    cases hf
  | succ n ih =>
    intro i2 i3 H locs ls hf hM hl
    rw [fX13_ownedBy_4] at hf
    refine lv_iload_n hx hb dX13_ownedBy_4 rfl (lv_at hl 3 rfl) ?_
    refine lv_aload_n hx hb dX13_ownedBy_5 rfl (lv_at hl 0 rfl) ?_
    refine g13_33 C hT hM dX13_ownedBy_6 ?_
    refine lv_iconst (v := (1 : Int32)) hx hb dX13_ownedBy_9 (by decide) ?_
    refine mx_ialdL C hM (mt_2 hT) (j := 1) (by decide) (mx_in_vp (by decide)) dX13_ownedBy_10 ?_
    refine lv_icmp_ge (tgt := 43) hx hb dX13_ownedBy_11 (by decide) (fun hc11 => ?_) (fun hc11 => ?_)
    · replace hf := mx_ift hc11 hf
      refine lv_iload_n hx hb dX13_ownedBy_43 rfl (lv_at hl 2 rfl) ?_
      exact mx_iretR C hM hf dX13_ownedBy_44
    · replace hf := mx_iff hc11 hf
      refine lv_iload_n hx hb dX13_ownedBy_14 rfl (lv_at hl 2 rfl) ?_
      refine lv_aload_n hx hb dX13_ownedBy_15 rfl (lv_at hl 0 rfl) ?_
      refine g13_33 C hT hM dX13_ownedBy_16 ?_
      refine lv_bipush (v := (33 : Int32)) hx hb dX13_ownedBy_19 (by decide) ?_
      refine lv_iload_n hx hb dX13_ownedBy_21 rfl (lv_at hl 3 rfl) ?_
      refine lv_iadd hx hb dX13_ownedBy_22 ?_
      obtain ⟨hg23, hf⟩ := mx_gd hf
      refine mx_iald C hM (mt_2 hT) (mx_in_vp hg23) dX13_ownedBy_23 ?_
      refine lv_iload_n hx hb dX13_ownedBy_24 rfl (lv_at hl 1 rfl) ?_
      refine lv_icmp_ne (tgt := 34) hx hb dX13_ownedBy_25 (by decide) (fun hc25 => ?_) (fun hc25 => ?_)
      · replace hf := mx_iff hc25 hf
        refine lv_iconst (v := (0 : Int32)) hx hb dX13_ownedBy_34 (by decide) ?_
        refine lv_ior hx hb dX13_ownedBy_35 ?_
        refine lv_istore_n (lv' := [(2, .int (i2 ||| (0 : Int32))), (0, .ref (E.2.1.2.1 0)), (1, .int i1), (3, .int i3)]) hx hb dX13_ownedBy_36 rfl hl (by decide) rfl (fun ls hl => ?_)
        refine lv_iinc (v := (i3 + (1 : Int32))) (lv' := [(3, .int (i3 + (1 : Int32))), (2, .int (i2 ||| (0 : Int32))), (0, .ref (E.2.1.2.1 0)), (1, .int i1)]) hx hb dX13_ownedBy_37 hl (k := 3) rfl rfl (by decide) rfl (fun ls hl => ?_)
        refine lv_goto (tgt := 4) hx hb dX13_ownedBy_40 (by decide) ?_
        exact ih (i2 ||| (0 : Int32)) (i3 + (1 : Int32)) _ _ _ hf hM (lv_sub hl [2, 3, 1, 0] rfl)
      · replace hf := mx_ift hc25 hf
        refine lv_iconst (v := (1 : Int32)) hx hb dX13_ownedBy_28 (by decide) ?_
        refine lv_iload_n hx hb dX13_ownedBy_29 rfl (lv_at hl 3 rfl) ?_
        refine lv_ishl hx hb dX13_ownedBy_30 ?_
        refine lv_goto (tgt := 35) hx hb dX13_ownedBy_31 (by decide) ?_
        refine lv_ior hx hb dX13_ownedBy_35 ?_
        refine lv_istore_n (lv' := [(2, .int (i2 ||| ((1 : Int32) <<< (i3 &&& 31)))), (0, .ref (E.2.1.2.1 0)), (1, .int i1), (3, .int i3)]) hx hb dX13_ownedBy_36 rfl hl (by decide) rfl (fun ls hl => ?_)
        refine lv_iinc (v := (i3 + (1 : Int32))) (lv' := [(3, .int (i3 + (1 : Int32))), (2, .int (i2 ||| ((1 : Int32) <<< (i3 &&& 31)))), (0, .ref (E.2.1.2.1 0)), (1, .int i1)]) hx hb dX13_ownedBy_37 hl (k := 3) rfl rfl (by decide) rfl (fun ls hl => ?_)
        refine lv_goto (tgt := 4) hx hb dX13_ownedBy_40 (by decide) ?_
        exact ih (i2 ||| ((1 : Int32) <<< (i3 &&& 31))) (i3 + (1 : Int32)) _ _ _ hf hM (lv_sub hl [2, 3, 1, 0] rfl)
set_option maxRecDepth 100000 in
set_option maxHeartbeats 4000000 in
theorem kX13_ownedBy {E : KE} {l : Launch} (hE : mx_ok E) (i1 : Int32) (hT : E.1 = mt) (M : MM) {q : Int32} (hf : fX13_ownedBy i1 M = some q) : mx_Met E l yX13_ownedBy cX13_ownedBy 4 (some .int) 0 [.ref (E.2.1.2.1 0), .int i1] M (some (.int q)) M := by
  refine mx_enter hE (by decide) (Nat.le_of_ble_eq_true rfl) ?_
  intro p e s m below meth c C hM hn ls hl
  have hx := C.1.1
  have hb := C.1.2.1
  have hown := C.1.2.2.2.1
  have hts := C.1.2.2.2.2
  have hl : lv_has ls 4 [(0, .ref (E.2.1.2.1 0)), (1, .int i1)] := hl
  rw [fX13_ownedBy] at hf
  refine lv_iconst (v := (0 : Int32)) hx hb dX13_ownedBy_0 (by decide) ?_
  refine lv_istore_n (lv' := [(2, .int (0 : Int32)), (0, .ref (E.2.1.2.1 0)), (1, .int i1)]) hx hb dX13_ownedBy_1 rfl hl (by decide) rfl (fun ls hl => ?_)
  refine lv_iconst (v := (0 : Int32)) hx hb dX13_ownedBy_2 (by decide) ?_
  refine lv_istore_n (lv' := [(3, .int (0 : Int32)), (2, .int (0 : Int32)), (0, .ref (E.2.1.2.1 0)), (1, .int i1)]) hx hb dX13_ownedBy_3 rfl hl (by decide) rfl (fun ls hl => ?_)
  exact wfX13_ownedBy_4 C i1 M hT mx_fu (0 : Int32) (0 : Int32) _ _ _ hf hM (lv_sub hl [2, 3, 1, 0] rfl)
theorem dX13_farBy_0 : decode cX13_farBy 0 = .ok (.aload_n 0, 1) := by decide +kernel
theorem dX13_farBy_1 : decode cX13_farBy 1 = .ok (.getfield 33, 3) := by decide +kernel
theorem dX13_farBy_4 : decode cX13_farBy 4 = .ok (.bipush 57, 2) := by decide +kernel
theorem dX13_farBy_6 : decode cX13_farBy 6 = .ok (.iload_n 1, 1) := by decide +kernel
theorem dX13_farBy_7 : decode cX13_farBy 7 = .ok (.iadd, 1) := by decide +kernel
theorem dX13_farBy_8 : decode cX13_farBy 8 = .ok (.iaload, 1) := by decide +kernel
theorem dX13_farBy_9 : decode cX13_farBy 9 = .ok (.iload_n 2, 1) := by decide +kernel
theorem dX13_farBy_10 : decode cX13_farBy 10 = .ok (.isub, 1) := by decide +kernel
theorem dX13_farBy_11 : decode cX13_farBy 11 = .ok (.invokestatic 262, 3) := by decide +kernel
theorem dX13_farBy_14 : decode cX13_farBy 14 = .ok (.aload_n 0, 1) := by decide +kernel
theorem dX13_farBy_15 : decode cX13_farBy 15 = .ok (.getfield 33, 3) := by decide +kernel
theorem dX13_farBy_18 : decode cX13_farBy 18 = .ok (.bipush 64, 2) := by decide +kernel
theorem dX13_farBy_20 : decode cX13_farBy 20 = .ok (.iload_n 1, 1) := by decide +kernel
theorem dX13_farBy_21 : decode cX13_farBy 21 = .ok (.iadd, 1) := by decide +kernel
theorem dX13_farBy_22 : decode cX13_farBy 22 = .ok (.iaload, 1) := by decide +kernel
theorem dX13_farBy_23 : decode cX13_farBy 23 = .ok (.iload_n 3, 1) := by decide +kernel
theorem dX13_farBy_24 : decode cX13_farBy 24 = .ok (.isub, 1) := by decide +kernel
theorem dX13_farBy_25 : decode cX13_farBy 25 = .ok (.invokestatic 262, 3) := by decide +kernel
theorem dX13_farBy_28 : decode cX13_farBy 28 = .ok (.iadd, 1) := by decide +kernel
theorem dX13_farBy_29 : decode cX13_farBy 29 = .ok (.ireturn, 1) := by decide +kernel
set_option maxRecDepth 100000 in
set_option maxHeartbeats 4000000 in
theorem kX13_farBy {E : KE} {l : Launch} (hE : mx_ok E) (i1 : Int32) (i2 : Int32) (i3 : Int32) (hT : E.1 = mt) (M : MM) {q : Int32} (hf : fX13_farBy i1 i2 i3 M = some q) : mx_Met E l yX13_farBy cX13_farBy 4 (some .int) 1 [.ref (E.2.1.2.1 0), .int i1, .int i2, .int i3] M (some (.int q)) M := by
  refine mx_enter hE (by decide) (Nat.le_of_ble_eq_true rfl) ?_
  intro p e s m below meth c C hM hn ls hl
  have hx := C.1.1
  have hb := C.1.2.1
  have hown := C.1.2.2.2.1
  have hts := C.1.2.2.2.2
  have hl : lv_has ls 4 [(0, .ref (E.2.1.2.1 0)), (1, .int i1), (2, .int i2), (3, .int i3)] := hl
  rw [fX13_farBy] at hf
  refine lv_aload_n hx hb dX13_farBy_0 rfl (lv_at hl 0 rfl) ?_
  refine g13_33 C hT hM dX13_farBy_1 ?_
  refine lv_bipush (v := (57 : Int32)) hx hb dX13_farBy_4 (by decide) ?_
  refine lv_iload_n hx hb dX13_farBy_6 rfl (lv_at hl 1 rfl) ?_
  refine lv_iadd hx hb dX13_farBy_7 ?_
  obtain ⟨hg8, hf⟩ := mx_gd hf
  refine mx_iald C hM (mt_2 hT) (mx_in_vp hg8) dX13_farBy_8 ?_
  refine lv_iload_n hx hb dX13_farBy_9 rfl (lv_at hl 2 rfl) ?_
  refine lv_isub hx hb dX13_farBy_10 ?_
  obtain ⟨q11, hq11, hf⟩ := mx_bd hf
  refine mx_callS C hM hl.1 yo_X13_absolute (h' := 0) (by decide) qw_1706 qw_1707 (As := [.int ((M.1 2 ((57 : Int32) + i1).toNatClampNeg) - i2)]) (rest := []) (st1 := [.int q11]) (kX13_absolute C.2.2.2.1 ((M.1 2 ((57 : Int32) + i1).toNatClampNeg) - i2) hT M hq11) rfl rfl rfl (Nat.le_of_ble_eq_true rfl) dX13_farBy_11 (fun H locs hM => ?_)
  refine lv_aload_n hx hb dX13_farBy_14 rfl (lv_at hl 0 rfl) ?_
  refine g13_33 C hT hM dX13_farBy_15 ?_
  refine lv_bipush (v := (64 : Int32)) hx hb dX13_farBy_18 (by decide) ?_
  refine lv_iload_n hx hb dX13_farBy_20 rfl (lv_at hl 1 rfl) ?_
  refine lv_iadd hx hb dX13_farBy_21 ?_
  obtain ⟨hg22, hf⟩ := mx_gd hf
  refine mx_iald C hM (mt_2 hT) (mx_in_vp hg22) dX13_farBy_22 ?_
  refine lv_iload_n hx hb dX13_farBy_23 rfl (lv_at hl 3 rfl) ?_
  refine lv_isub hx hb dX13_farBy_24 ?_
  obtain ⟨q25, hq25, hf⟩ := mx_bd hf
  refine mx_callS C hM hl.1 yo_X13_absolute (h' := 0) (by decide) qw_1706 qw_1707 (As := [.int ((M.1 2 ((64 : Int32) + i1).toNatClampNeg) - i3)]) (rest := [.int q11]) (st1 := [.int q25, .int q11]) (kX13_absolute C.2.2.2.1 ((M.1 2 ((64 : Int32) + i1).toNatClampNeg) - i3) hT M hq25) rfl rfl rfl (Nat.le_of_ble_eq_true rfl) dX13_farBy_25 (fun H locs hM => ?_)
  refine lv_iadd hx hb dX13_farBy_28 ?_
  exact mx_iretR C hM hf dX13_farBy_29
theorem dX13_farOf_0 : decode cX13_farOf 0 = .ok (.aload_n 0, 1) := by decide +kernel
theorem dX13_farOf_1 : decode cX13_farOf 1 = .ok (.iload_n 1, 1) := by decide +kernel
theorem dX13_farOf_2 : decode cX13_farOf 2 = .ok (.aload_n 0, 1) := by decide +kernel
theorem dX13_farOf_3 : decode cX13_farOf 3 = .ok (.getfield 33, 3) := by decide +kernel
theorem dX13_farOf_6 : decode cX13_farOf 6 = .ok (.bipush 57, 2) := by decide +kernel
theorem dX13_farOf_8 : decode cX13_farOf 8 = .ok (.iload_n 2, 1) := by decide +kernel
theorem dX13_farOf_9 : decode cX13_farOf 9 = .ok (.iadd, 1) := by decide +kernel
theorem dX13_farOf_10 : decode cX13_farOf 10 = .ok (.iaload, 1) := by decide +kernel
theorem dX13_farOf_11 : decode cX13_farOf 11 = .ok (.aload_n 0, 1) := by decide +kernel
theorem dX13_farOf_12 : decode cX13_farOf 12 = .ok (.getfield 33, 3) := by decide +kernel
theorem dX13_farOf_15 : decode cX13_farOf 15 = .ok (.bipush 64, 2) := by decide +kernel
theorem dX13_farOf_17 : decode cX13_farOf 17 = .ok (.iload_n 2, 1) := by decide +kernel
theorem dX13_farOf_18 : decode cX13_farOf 18 = .ok (.iadd, 1) := by decide +kernel
theorem dX13_farOf_19 : decode cX13_farOf 19 = .ok (.iaload, 1) := by decide +kernel
theorem dX13_farOf_20 : decode cX13_farOf 20 = .ok (.invokevirtual 266, 3) := by decide +kernel
theorem dX13_farOf_23 : decode cX13_farOf 23 = .ok (.ireturn, 1) := by decide +kernel
set_option maxRecDepth 100000 in
set_option maxHeartbeats 4000000 in
theorem kX13_farOf {E : KE} {l : Launch} (hE : mx_ok E) (i1 : Int32) (i2 : Int32) (hT : E.1 = mt) (M : MM) {q : Int32} (hf : fX13_farOf i1 i2 M = some q) : mx_Met E l yX13_farOf cX13_farOf 3 (some .int) 2 [.ref (E.2.1.2.1 0), .int i1, .int i2] M (some (.int q)) M := by
  refine mx_enter hE (by decide) (Nat.le_of_ble_eq_true rfl) ?_
  intro p e s m below meth c C hM hn ls hl
  have hx := C.1.1
  have hb := C.1.2.1
  have hown := C.1.2.2.2.1
  have hts := C.1.2.2.2.2
  have hl : lv_has ls 3 [(0, .ref (E.2.1.2.1 0)), (1, .int i1), (2, .int i2)] := hl
  rw [fX13_farOf] at hf
  refine lv_aload_n hx hb dX13_farOf_0 rfl (lv_at hl 0 rfl) ?_
  refine lv_iload_n hx hb dX13_farOf_1 rfl (lv_at hl 1 rfl) ?_
  refine lv_aload_n hx hb dX13_farOf_2 rfl (lv_at hl 0 rfl) ?_
  refine g13_33 C hT hM dX13_farOf_3 ?_
  refine lv_bipush (v := (57 : Int32)) hx hb dX13_farOf_6 (by decide) ?_
  refine lv_iload_n hx hb dX13_farOf_8 rfl (lv_at hl 2 rfl) ?_
  refine lv_iadd hx hb dX13_farOf_9 ?_
  obtain ⟨hg10, hf⟩ := mx_gd hf
  refine mx_iald C hM (mt_2 hT) (mx_in_vp hg10) dX13_farOf_10 ?_
  refine lv_aload_n hx hb dX13_farOf_11 rfl (lv_at hl 0 rfl) ?_
  refine g13_33 C hT hM dX13_farOf_12 ?_
  refine lv_bipush (v := (64 : Int32)) hx hb dX13_farOf_15 (by decide) ?_
  refine lv_iload_n hx hb dX13_farOf_17 rfl (lv_at hl 2 rfl) ?_
  refine lv_iadd hx hb dX13_farOf_18 ?_
  obtain ⟨hg19, hf⟩ := mx_gd hf
  refine mx_iald C hM (mt_2 hT) (mx_in_vp hg19) dX13_farOf_19 ?_
  obtain ⟨q20, hq20, hf⟩ := mx_bd hf
  refine mx_callV C hM hl.1 yo_X13_farBy (h' := 1) (by decide) qw_1702 qw_1704 qs_140 (ci := 13) (q := (RX13, TX13, 52)) rfl (mt_0 hT) (As := [.int i1, .int (M.1 2 ((57 : Int32) + i2).toNatClampNeg), .int (M.1 2 ((64 : Int32) + i2).toNatClampNeg)]) (rest := []) (st1 := [.int q20]) (kX13_farBy C.2.2.2.1 i1 (M.1 2 ((57 : Int32) + i2).toNatClampNeg) (M.1 2 ((64 : Int32) + i2).toNatClampNeg) hT M hq20) rfl rfl rfl (Nat.le_of_ble_eq_true rfl) dX13_farOf_20 (fun H locs hM => ?_)
  exact mx_iretR C hM hf dX13_farOf_23
theorem dX13_feels_0 : decode cX13_feels 0 = .ok (.iload_n 1, 1) := by decide +kernel
theorem dX13_feels_1 : decode cX13_feels 1 = .ok (.aload_n 0, 1) := by decide +kernel
theorem dX13_feels_2 : decode cX13_feels 2 = .ok (.getfield 33, 3) := by decide +kernel
theorem dX13_feels_5 : decode cX13_feels 5 = .ok (.bipush 19, 2) := by decide +kernel
theorem dX13_feels_7 : decode cX13_feels 7 = .ok (.iload_n 2, 1) := by decide +kernel
theorem dX13_feels_8 : decode cX13_feels 8 = .ok (.iadd, 1) := by decide +kernel
theorem dX13_feels_9 : decode cX13_feels 9 = .ok (.iaload, 1) := by decide +kernel
theorem dX13_feels_10 : decode cX13_feels 10 = .ok (.aload_n 0, 1) := by decide +kernel
theorem dX13_feels_11 : decode cX13_feels 11 = .ok (.getfield 33, 3) := by decide +kernel
theorem dX13_feels_14 : decode cX13_feels 14 = .ok (.iconst 2, 1) := by decide +kernel
theorem dX13_feels_15 : decode cX13_feels 15 = .ok (.iaload, 1) := by decide +kernel
theorem dX13_feels_16 : decode cX13_feels 16 = .ok (.isub, 1) := by decide +kernel
theorem dX13_feels_17 : decode cX13_feels 17 = .ok (.if_icmp .ge 7, 3) := by decide +kernel
theorem dX13_feels_20 : decode cX13_feels 20 = .ok (.iconst 0, 1) := by decide +kernel
theorem dX13_feels_21 : decode cX13_feels 21 = .ok (.goto 28, 3) := by decide +kernel
theorem dX13_feels_24 : decode cX13_feels 24 = .ok (.iload_n 1, 1) := by decide +kernel
theorem dX13_feels_25 : decode cX13_feels 25 = .ok (.aload_n 0, 1) := by decide +kernel
theorem dX13_feels_26 : decode cX13_feels 26 = .ok (.getfield 33, 3) := by decide +kernel
theorem dX13_feels_29 : decode cX13_feels 29 = .ok (.bipush 19, 2) := by decide +kernel
theorem dX13_feels_31 : decode cX13_feels 31 = .ok (.iload_n 2, 1) := by decide +kernel
theorem dX13_feels_32 : decode cX13_feels 32 = .ok (.iadd, 1) := by decide +kernel
theorem dX13_feels_33 : decode cX13_feels 33 = .ok (.iaload, 1) := by decide +kernel
theorem dX13_feels_34 : decode cX13_feels 34 = .ok (.aload_n 0, 1) := by decide +kernel
theorem dX13_feels_35 : decode cX13_feels 35 = .ok (.getfield 33, 3) := by decide +kernel
theorem dX13_feels_38 : decode cX13_feels 38 = .ok (.iconst 2, 1) := by decide +kernel
theorem dX13_feels_39 : decode cX13_feels 39 = .ok (.iaload, 1) := by decide +kernel
theorem dX13_feels_40 : decode cX13_feels 40 = .ok (.iadd, 1) := by decide +kernel
theorem dX13_feels_41 : decode cX13_feels 41 = .ok (.if_icmp .le 7, 3) := by decide +kernel
theorem dX13_feels_44 : decode cX13_feels 44 = .ok (.iconst 2, 1) := by decide +kernel
theorem dX13_feels_45 : decode cX13_feels 45 = .ok (.goto 4, 3) := by decide +kernel
theorem dX13_feels_48 : decode cX13_feels 48 = .ok (.iconst 1, 1) := by decide +kernel
theorem dX13_feels_49 : decode cX13_feels 49 = .ok (.ireturn, 1) := by decide +kernel
set_option maxRecDepth 100000 in
set_option maxHeartbeats 4000000 in
theorem kX13_feels {E : KE} {l : Launch} (hE : mx_ok E) (i1 : Int32) (i2 : Int32) (hT : E.1 = mt) (M : MM) {q : Int32} (hf : fX13_feels i1 i2 M = some q) : mx_Met E l yX13_feels cX13_feels 3 (some .int) 0 [.ref (E.2.1.2.1 0), .int i1, .int i2] M (some (.int q)) M := by
  refine mx_enter hE (by decide) (Nat.le_of_ble_eq_true rfl) ?_
  intro p e s m below meth c C hM hn ls hl
  have hx := C.1.1
  have hb := C.1.2.1
  have hown := C.1.2.2.2.1
  have hts := C.1.2.2.2.2
  have hl : lv_has ls 3 [(0, .ref (E.2.1.2.1 0)), (1, .int i1), (2, .int i2)] := hl
  rw [fX13_feels] at hf
  refine lv_iload_n hx hb dX13_feels_0 rfl (lv_at hl 1 rfl) ?_
  refine lv_aload_n hx hb dX13_feels_1 rfl (lv_at hl 0 rfl) ?_
  refine g13_33 C hT hM dX13_feels_2 ?_
  refine lv_bipush (v := (19 : Int32)) hx hb dX13_feels_5 (by decide) ?_
  refine lv_iload_n hx hb dX13_feels_7 rfl (lv_at hl 2 rfl) ?_
  refine lv_iadd hx hb dX13_feels_8 ?_
  obtain ⟨hg9, hf⟩ := mx_gd hf
  refine mx_iald C hM (mt_2 hT) (mx_in_vp hg9) dX13_feels_9 ?_
  refine lv_aload_n hx hb dX13_feels_10 rfl (lv_at hl 0 rfl) ?_
  refine g13_33 C hT hM dX13_feels_11 ?_
  refine lv_iconst (v := (2 : Int32)) hx hb dX13_feels_14 (by decide) ?_
  refine mx_ialdL C hM (mt_2 hT) (j := 2) (by decide) (mx_in_vp (by decide)) dX13_feels_15 ?_
  refine lv_isub hx hb dX13_feels_16 ?_
  refine lv_icmp_ge (tgt := 24) hx hb dX13_feels_17 (by decide) (fun hc17 => ?_) (fun hc17 => ?_)
  · replace hf := mx_ift hc17 hf
    refine lv_iload_n hx hb dX13_feels_24 rfl (lv_at hl 1 rfl) ?_
    refine lv_aload_n hx hb dX13_feels_25 rfl (lv_at hl 0 rfl) ?_
    refine g13_33 C hT hM dX13_feels_26 ?_
    refine lv_bipush (v := (19 : Int32)) hx hb dX13_feels_29 (by decide) ?_
    refine lv_iload_n hx hb dX13_feels_31 rfl (lv_at hl 2 rfl) ?_
    refine lv_iadd hx hb dX13_feels_32 ?_
    obtain ⟨hg33, hf⟩ := mx_gd hf
    refine mx_iald C hM (mt_2 hT) (mx_in_vp hg33) dX13_feels_33 ?_
    refine lv_aload_n hx hb dX13_feels_34 rfl (lv_at hl 0 rfl) ?_
    refine g13_33 C hT hM dX13_feels_35 ?_
    refine lv_iconst (v := (2 : Int32)) hx hb dX13_feels_38 (by decide) ?_
    refine mx_ialdL C hM (mt_2 hT) (j := 2) (by decide) (mx_in_vp (by decide)) dX13_feels_39 ?_
    refine lv_iadd hx hb dX13_feels_40 ?_
    refine lv_icmp_le (tgt := 48) hx hb dX13_feels_41 (by decide) (fun hc41 => ?_) (fun hc41 => ?_)
    · replace hf := mx_ift hc41 hf
      refine lv_iconst (v := (1 : Int32)) hx hb dX13_feels_48 (by decide) ?_
      exact mx_iretR C hM hf dX13_feels_49
    · replace hf := mx_iff hc41 hf
      refine lv_iconst (v := (2 : Int32)) hx hb dX13_feels_44 (by decide) ?_
      refine lv_goto (tgt := 49) hx hb dX13_feels_45 (by decide) ?_
      exact mx_iretR C hM hf dX13_feels_49
  · replace hf := mx_iff hc17 hf
    refine lv_iconst (v := (0 : Int32)) hx hb dX13_feels_20 (by decide) ?_
    refine lv_goto (tgt := 49) hx hb dX13_feels_21 (by decide) ?_
    exact mx_iretR C hM hf dX13_feels_49
theorem dX13_isFit_0 : decode cX13_isFit 0 = .ok (.aload_n 0, 1) := by decide +kernel
theorem dX13_isFit_1 : decode cX13_isFit 1 = .ok (.aload_n 0, 1) := by decide +kernel
theorem dX13_isFit_2 : decode cX13_isFit 2 = .ok (.getfield 33, 3) := by decide +kernel
theorem dX13_isFit_5 : decode cX13_isFit 5 = .ok (.bipush 26, 2) := by decide +kernel
theorem dX13_isFit_7 : decode cX13_isFit 7 = .ok (.iload_n 1, 1) := by decide +kernel
theorem dX13_isFit_8 : decode cX13_isFit 8 = .ok (.iadd, 1) := by decide +kernel
theorem dX13_isFit_9 : decode cX13_isFit 9 = .ok (.iaload, 1) := by decide +kernel
theorem dX13_isFit_10 : decode cX13_isFit 10 = .ok (.iload_n 2, 1) := by decide +kernel
theorem dX13_isFit_11 : decode cX13_isFit 11 = .ok (.invokevirtual 270, 3) := by decide +kernel
theorem dX13_isFit_14 : decode cX13_isFit 14 = .ok (.iconst 1, 1) := by decide +kernel
theorem dX13_isFit_15 : decode cX13_isFit 15 = .ok (.if_icmp .ne 7, 3) := by decide +kernel
theorem dX13_isFit_18 : decode cX13_isFit 18 = .ok (.iconst 1, 1) := by decide +kernel
theorem dX13_isFit_19 : decode cX13_isFit 19 = .ok (.goto 4, 3) := by decide +kernel
theorem dX13_isFit_22 : decode cX13_isFit 22 = .ok (.iconst 0, 1) := by decide +kernel
theorem dX13_isFit_23 : decode cX13_isFit 23 = .ok (.ireturn, 1) := by decide +kernel
set_option maxRecDepth 100000 in
set_option maxHeartbeats 4000000 in
theorem kX13_isFit {E : KE} {l : Launch} (hE : mx_ok E) (i1 : Int32) (i2 : Int32) (hT : E.1 = mt) (M : MM) {q : Bool} (hf : fX13_isFit i1 i2 M = some q) : mx_Met E l yX13_isFit cX13_isFit 3 (some .boolean) 1 [.ref (E.2.1.2.1 0), .int i1, .int i2] M (some (.int (mx_b q))) M := by
  refine mx_enter hE (by decide) (Nat.le_of_ble_eq_true rfl) ?_
  intro p e s m below meth c C hM hn ls hl
  have hx := C.1.1
  have hb := C.1.2.1
  have hown := C.1.2.2.2.1
  have hts := C.1.2.2.2.2
  have hl : lv_has ls 3 [(0, .ref (E.2.1.2.1 0)), (1, .int i1), (2, .int i2)] := hl
  rw [fX13_isFit] at hf
  refine lv_aload_n hx hb dX13_isFit_0 rfl (lv_at hl 0 rfl) ?_
  refine lv_aload_n hx hb dX13_isFit_1 rfl (lv_at hl 0 rfl) ?_
  refine g13_33 C hT hM dX13_isFit_2 ?_
  refine lv_bipush (v := (26 : Int32)) hx hb dX13_isFit_5 (by decide) ?_
  refine lv_iload_n hx hb dX13_isFit_7 rfl (lv_at hl 1 rfl) ?_
  refine lv_iadd hx hb dX13_isFit_8 ?_
  obtain ⟨hg9, hf⟩ := mx_gd hf
  refine mx_iald C hM (mt_2 hT) (mx_in_vp hg9) dX13_isFit_9 ?_
  refine lv_iload_n hx hb dX13_isFit_10 rfl (lv_at hl 2 rfl) ?_
  obtain ⟨q11, hq11, hf⟩ := mx_bd hf
  refine mx_callV C hM hl.1 yo_X13_feels (h' := 0) (by decide) qw_1682 qw_1684 qs_137 (ci := 13) (q := (RX13, TX13, 52)) rfl (mt_0 hT) (As := [.int (M.1 2 ((26 : Int32) + i1).toNatClampNeg), .int i2]) (rest := []) (st1 := [.int q11]) (kX13_feels C.2.2.2.1 (M.1 2 ((26 : Int32) + i1).toNatClampNeg) i2 hT M hq11) rfl rfl rfl (Nat.le_of_ble_eq_true rfl) dX13_isFit_11 (fun H locs hM => ?_)
  refine lv_iconst (v := (1 : Int32)) hx hb dX13_isFit_14 (by decide) ?_
  refine lv_icmp_ne (tgt := 22) hx hb dX13_isFit_15 (by decide) (fun hc15 => ?_) (fun hc15 => ?_)
  · replace hf := mx_iff hc15 hf
    refine lv_iconst (v := (0 : Int32)) hx hb dX13_isFit_22 (by decide) ?_
    exact mx_zretR C hM (b := false) rfl hf dX13_isFit_23
  · replace hf := mx_ift hc15 hf
    refine lv_iconst (v := (1 : Int32)) hx hb dX13_isFit_18 (by decide) ?_
    refine lv_goto (tgt := 23) hx hb dX13_isFit_19 (by decide) ?_
    exact mx_zretR C hM (b := true) rfl hf dX13_isFit_23
theorem dX13_ringsBy_0 : decode cX13_ringsBy 0 = .ok (.iconst 0, 1) := by decide +kernel
theorem dX13_ringsBy_1 : decode cX13_ringsBy 1 = .ok (.istore_n 3, 1) := by decide +kernel
theorem dX13_ringsBy_2 : decode cX13_ringsBy 2 = .ok (.iconst 0, 1) := by decide +kernel
theorem dX13_ringsBy_3 : decode cX13_ringsBy 3 = .ok (.istore 4, 2) := by decide +kernel
theorem dX13_ringsBy_5 : decode cX13_ringsBy 5 = .ok (.iload 4, 2) := by decide +kernel
theorem dX13_ringsBy_7 : decode cX13_ringsBy 7 = .ok (.aload_n 0, 1) := by decide +kernel
theorem dX13_ringsBy_8 : decode cX13_ringsBy 8 = .ok (.getfield 33, 3) := by decide +kernel
theorem dX13_ringsBy_11 : decode cX13_ringsBy 11 = .ok (.iconst 1, 1) := by decide +kernel
theorem dX13_ringsBy_12 : decode cX13_ringsBy 12 = .ok (.iaload, 1) := by decide +kernel
theorem dX13_ringsBy_13 : decode cX13_ringsBy 13 = .ok (.if_icmp .ge 33, 3) := by decide +kernel
theorem dX13_ringsBy_16 : decode cX13_ringsBy 16 = .ok (.iload_n 3, 1) := by decide +kernel
theorem dX13_ringsBy_17 : decode cX13_ringsBy 17 = .ok (.aload_n 0, 1) := by decide +kernel
theorem dX13_ringsBy_18 : decode cX13_ringsBy 18 = .ok (.getfield 33, 3) := by decide +kernel
theorem dX13_ringsBy_21 : decode cX13_ringsBy 21 = .ok (.iload_n 1, 1) := by decide +kernel
theorem dX13_ringsBy_22 : decode cX13_ringsBy 22 = .ok (.iload 4, 2) := by decide +kernel
theorem dX13_ringsBy_24 : decode cX13_ringsBy 24 = .ok (.iadd, 1) := by decide +kernel
theorem dX13_ringsBy_25 : decode cX13_ringsBy 25 = .ok (.iaload, 1) := by decide +kernel
theorem dX13_ringsBy_26 : decode cX13_ringsBy 26 = .ok (.iload_n 2, 1) := by decide +kernel
theorem dX13_ringsBy_27 : decode cX13_ringsBy 27 = .ok (.if_icmp .ne 10, 3) := by decide +kernel
theorem dX13_ringsBy_30 : decode cX13_ringsBy 30 = .ok (.iconst 1, 1) := by decide +kernel
theorem dX13_ringsBy_31 : decode cX13_ringsBy 31 = .ok (.iload 4, 2) := by decide +kernel
theorem dX13_ringsBy_33 : decode cX13_ringsBy 33 = .ok (.ishl, 1) := by decide +kernel
theorem dX13_ringsBy_34 : decode cX13_ringsBy 34 = .ok (.goto 4, 3) := by decide +kernel
theorem dX13_ringsBy_37 : decode cX13_ringsBy 37 = .ok (.iconst 0, 1) := by decide +kernel
theorem dX13_ringsBy_38 : decode cX13_ringsBy 38 = .ok (.ior, 1) := by decide +kernel
theorem dX13_ringsBy_39 : decode cX13_ringsBy 39 = .ok (.istore_n 3, 1) := by decide +kernel
theorem dX13_ringsBy_40 : decode cX13_ringsBy 40 = .ok (.iinc 4 1, 3) := by decide +kernel
theorem dX13_ringsBy_43 : decode cX13_ringsBy 43 = .ok (.goto (-38), 3) := by decide +kernel
theorem dX13_ringsBy_46 : decode cX13_ringsBy 46 = .ok (.iload_n 3, 1) := by decide +kernel
theorem dX13_ringsBy_47 : decode cX13_ringsBy 47 = .ok (.ireturn, 1) := by decide +kernel
set_option maxRecDepth 100000 in
set_option maxHeartbeats 4000000 in
theorem wfX13_ringsBy_5 {E : KE} {p : Program} {l : Launch} {e : Env} {s : State} {m : MethodId} {args : Array Value} {below : List Frame} {meth : Method} {c : Code} {q : Int32} (C : mx_C E p m c cX13_ringsBy 5 s args RX13 meth (some .int)) (i1 : Int32) (i2 : Int32) (M : MM) (hT : E.1 = mt)   : ∀ (n : Nat) (i3 : Int32) (i4 : Int32) (H : Heap) (locs : List Loc) (ls : Array Slot), fX13_ringsBy_5 i1 i2 M n i3 i4 = some q → mx_H E s M H locs → lv_has ls 5 [(0, .ref (E.2.1.2.1 0)), (1, .int i1), (2, .int i2), (3, .int i3), (4, .int i4)] → W p l e (mx_rm 0) s m args below meth c H locs 0 0 (mx_Z E below args s (some (.int q)) M) (F0 m 5 ls []) := by
  have hx := C.1.1
  have hb := C.1.2.1
  have hown := C.1.2.2.2.1
  have hts := C.1.2.2.2.2
  intro n
  induction n with
  | zero =>
    intro i3 i4 H locs ls hf hM hl
    rw [fX13_ringsBy_5] at hf
    cases hf
  | succ n ih =>
    intro i3 i4 H locs ls hf hM hl
    rw [fX13_ringsBy_5] at hf
    refine lv_iload hx hb dX13_ringsBy_5 (lv_at hl 4 rfl) ?_
    refine lv_aload_n hx hb dX13_ringsBy_7 rfl (lv_at hl 0 rfl) ?_
    refine g13_33 C hT hM dX13_ringsBy_8 ?_
    refine lv_iconst (v := (1 : Int32)) hx hb dX13_ringsBy_11 (by decide) ?_
    refine mx_ialdL C hM (mt_2 hT) (j := 1) (by decide) (mx_in_vp (by decide)) dX13_ringsBy_12 ?_
    refine lv_icmp_ge (tgt := 46) hx hb dX13_ringsBy_13 (by decide) (fun hc13 => ?_) (fun hc13 => ?_)
    · replace hf := mx_ift hc13 hf
      refine lv_iload_n hx hb dX13_ringsBy_46 rfl (lv_at hl 3 rfl) ?_
      exact mx_iretR C hM hf dX13_ringsBy_47
    · replace hf := mx_iff hc13 hf
      refine lv_iload_n hx hb dX13_ringsBy_16 rfl (lv_at hl 3 rfl) ?_
      refine lv_aload_n hx hb dX13_ringsBy_17 rfl (lv_at hl 0 rfl) ?_
      refine g13_33 C hT hM dX13_ringsBy_18 ?_
      refine lv_iload_n hx hb dX13_ringsBy_21 rfl (lv_at hl 1 rfl) ?_
      refine lv_iload hx hb dX13_ringsBy_22 (lv_at hl 4 rfl) ?_
      refine lv_iadd hx hb dX13_ringsBy_24 ?_
      obtain ⟨hg25, hf⟩ := mx_gd hf
      refine mx_iald C hM (mt_2 hT) (mx_in_vp hg25) dX13_ringsBy_25 ?_
      refine lv_iload_n hx hb dX13_ringsBy_26 rfl (lv_at hl 2 rfl) ?_
      refine lv_icmp_ne (tgt := 37) hx hb dX13_ringsBy_27 (by decide) (fun hc27 => ?_) (fun hc27 => ?_)
      · replace hf := mx_iff hc27 hf
        refine lv_iconst (v := (0 : Int32)) hx hb dX13_ringsBy_37 (by decide) ?_
        refine lv_ior hx hb dX13_ringsBy_38 ?_
        refine lv_istore_n (lv' := [(3, .int (i3 ||| (0 : Int32))), (0, .ref (E.2.1.2.1 0)), (1, .int i1), (2, .int i2), (4, .int i4)]) hx hb dX13_ringsBy_39 rfl hl (by decide) rfl (fun ls hl => ?_)
        refine lv_iinc (v := (i4 + (1 : Int32))) (lv' := [(4, .int (i4 + (1 : Int32))), (3, .int (i3 ||| (0 : Int32))), (0, .ref (E.2.1.2.1 0)), (1, .int i1), (2, .int i2)]) hx hb dX13_ringsBy_40 hl (k := 4) rfl rfl (by decide) rfl (fun ls hl => ?_)
        refine lv_goto (tgt := 5) hx hb dX13_ringsBy_43 (by decide) ?_
        exact ih (i3 ||| (0 : Int32)) (i4 + (1 : Int32)) _ _ _ hf hM (lv_sub hl [2, 3, 4, 1, 0] rfl)
      · replace hf := mx_ift hc27 hf
        refine lv_iconst (v := (1 : Int32)) hx hb dX13_ringsBy_30 (by decide) ?_
        refine lv_iload hx hb dX13_ringsBy_31 (lv_at hl 4 rfl) ?_
        refine lv_ishl hx hb dX13_ringsBy_33 ?_
        refine lv_goto (tgt := 38) hx hb dX13_ringsBy_34 (by decide) ?_
        refine lv_ior hx hb dX13_ringsBy_38 ?_
        refine lv_istore_n (lv' := [(3, .int (i3 ||| ((1 : Int32) <<< (i4 &&& 31)))), (0, .ref (E.2.1.2.1 0)), (1, .int i1), (2, .int i2), (4, .int i4)]) hx hb dX13_ringsBy_39 rfl hl (by decide) rfl (fun ls hl => ?_)
        refine lv_iinc (v := (i4 + (1 : Int32))) (lv' := [(4, .int (i4 + (1 : Int32))), (3, .int (i3 ||| ((1 : Int32) <<< (i4 &&& 31)))), (0, .ref (E.2.1.2.1 0)), (1, .int i1), (2, .int i2)]) hx hb dX13_ringsBy_40 hl (k := 4) rfl rfl (by decide) rfl (fun ls hl => ?_)
        refine lv_goto (tgt := 5) hx hb dX13_ringsBy_43 (by decide) ?_
        exact ih (i3 ||| ((1 : Int32) <<< (i4 &&& 31))) (i4 + (1 : Int32)) _ _ _ hf hM (lv_sub hl [2, 3, 4, 1, 0] rfl)
set_option maxRecDepth 100000 in
set_option maxHeartbeats 4000000 in
theorem kX13_ringsBy {E : KE} {l : Launch} (hE : mx_ok E) (i1 : Int32) (i2 : Int32) (hT : E.1 = mt) (M : MM) {q : Int32} (hf : fX13_ringsBy i1 i2 M = some q) : mx_Met E l yX13_ringsBy cX13_ringsBy 5 (some .int) 0 [.ref (E.2.1.2.1 0), .int i1, .int i2] M (some (.int q)) M := by
  refine mx_enter hE (by decide) (Nat.le_of_ble_eq_true rfl) ?_
  intro p e s m below meth c C hM hn ls hl
  have hx := C.1.1
  have hb := C.1.2.1
  have hown := C.1.2.2.2.1
  have hts := C.1.2.2.2.2
  have hl : lv_has ls 5 [(0, .ref (E.2.1.2.1 0)), (1, .int i1), (2, .int i2)] := hl
  rw [fX13_ringsBy] at hf
  refine lv_iconst (v := (0 : Int32)) hx hb dX13_ringsBy_0 (by decide) ?_
  refine lv_istore_n (lv' := [(3, .int (0 : Int32)), (0, .ref (E.2.1.2.1 0)), (1, .int i1), (2, .int i2)]) hx hb dX13_ringsBy_1 rfl hl (by decide) rfl (fun ls hl => ?_)
  refine lv_iconst (v := (0 : Int32)) hx hb dX13_ringsBy_2 (by decide) ?_
  refine lv_istore (lv' := [(4, .int (0 : Int32)), (3, .int (0 : Int32)), (0, .ref (E.2.1.2.1 0)), (1, .int i1), (2, .int i2)]) hx hb dX13_ringsBy_3 hl (by decide) rfl (fun ls hl => ?_)
  exact wfX13_ringsBy_5 C i1 i2 M hT mx_fu (0 : Int32) (0 : Int32) _ _ _ hf hM (lv_sub hl [2, 3, 4, 1, 0] rfl)
theorem dX13_person_0 : decode cX13_person 0 = .ok (.aload_n 0, 1) := by decide +kernel
theorem dX13_person_1 : decode cX13_person 1 = .ok (.aload_n 0, 1) := by decide +kernel
theorem dX13_person_2 : decode cX13_person 2 = .ok (.iload_n 1, 1) := by decide +kernel
theorem dX13_person_3 : decode cX13_person 3 = .ok (.invokevirtual 273, 3) := by decide +kernel
theorem dX13_person_6 : decode cX13_person 6 = .ok (.ifCond .eq 13, 3) := by decide +kernel
theorem dX13_person_9 : decode cX13_person 9 = .ok (.iload_n 2, 1) := by decide +kernel
theorem dX13_person_10 : decode cX13_person 10 = .ok (.iconst 0, 1) := by decide +kernel
theorem dX13_person_11 : decode cX13_person 11 = .ok (.bipush 6, 2) := by decide +kernel
theorem dX13_person_13 : decode cX13_person 13 = .ok (.invokestatic 193, 3) := by decide +kernel
theorem dX13_person_16 : decode cX13_person 16 = .ok (.ifCond .ne 7, 3) := by decide +kernel
theorem dX13_person_19 : decode cX13_person 19 = .ok (.iconst 1, 1) := by decide +kernel
theorem dX13_person_20 : decode cX13_person 20 = .ok (.goto 4, 3) := by decide +kernel
theorem dX13_person_23 : decode cX13_person 23 = .ok (.iconst 0, 1) := by decide +kernel
theorem dX13_person_24 : decode cX13_person 24 = .ok (.invokevirtual 276, 3) := by decide +kernel
theorem dX13_person_27 : decode cX13_person 27 = .ok (.ifCond .eq 5, 3) := by decide +kernel
theorem dX13_person_30 : decode cX13_person 30 = .ok (.iconst 0, 1) := by decide +kernel
theorem dX13_person_31 : decode cX13_person 31 = .ok (.ireturn, 1) := by decide +kernel
theorem dX13_person_32 : decode cX13_person 32 = .ok (.iload_n 2, 1) := by decide +kernel
theorem dX13_person_33 : decode cX13_person 33 = .ok (.tableswitch 91 0 5 #[39, 49, 59, 69, 79, 85], 39) := by decide +kernel
theorem dX13_person_72 : decode cX13_person 72 = .ok (.aload_n 0, 1) := by decide +kernel
theorem dX13_person_73 : decode cX13_person 73 = .ok (.getfield 33, 3) := by decide +kernel
theorem dX13_person_76 : decode cX13_person 76 = .ok (.bipush 57, 2) := by decide +kernel
theorem dX13_person_78 : decode cX13_person 78 = .ok (.iload_n 1, 1) := by decide +kernel
theorem dX13_person_79 : decode cX13_person 79 = .ok (.iadd, 1) := by decide +kernel
theorem dX13_person_80 : decode cX13_person 80 = .ok (.iaload, 1) := by decide +kernel
theorem dX13_person_81 : decode cX13_person 81 = .ok (.ireturn, 1) := by decide +kernel
theorem dX13_person_82 : decode cX13_person 82 = .ok (.aload_n 0, 1) := by decide +kernel
theorem dX13_person_83 : decode cX13_person 83 = .ok (.getfield 33, 3) := by decide +kernel
theorem dX13_person_86 : decode cX13_person 86 = .ok (.bipush 64, 2) := by decide +kernel
theorem dX13_person_88 : decode cX13_person 88 = .ok (.iload_n 1, 1) := by decide +kernel
theorem dX13_person_89 : decode cX13_person 89 = .ok (.iadd, 1) := by decide +kernel
theorem dX13_person_90 : decode cX13_person 90 = .ok (.iaload, 1) := by decide +kernel
theorem dX13_person_91 : decode cX13_person 91 = .ok (.ireturn, 1) := by decide +kernel
theorem dX13_person_92 : decode cX13_person 92 = .ok (.aload_n 0, 1) := by decide +kernel
theorem dX13_person_93 : decode cX13_person 93 = .ok (.getfield 33, 3) := by decide +kernel
theorem dX13_person_96 : decode cX13_person 96 = .ok (.bipush 19, 2) := by decide +kernel
theorem dX13_person_98 : decode cX13_person 98 = .ok (.iload_n 1, 1) := by decide +kernel
theorem dX13_person_99 : decode cX13_person 99 = .ok (.iadd, 1) := by decide +kernel
theorem dX13_person_100 : decode cX13_person 100 = .ok (.iaload, 1) := by decide +kernel
theorem dX13_person_101 : decode cX13_person 101 = .ok (.ireturn, 1) := by decide +kernel
theorem dX13_person_102 : decode cX13_person 102 = .ok (.aload_n 0, 1) := by decide +kernel
theorem dX13_person_103 : decode cX13_person 103 = .ok (.getfield 33, 3) := by decide +kernel
theorem dX13_person_106 : decode cX13_person 106 = .ok (.bipush 71, 2) := by decide +kernel
theorem dX13_person_108 : decode cX13_person 108 = .ok (.iload_n 1, 1) := by decide +kernel
theorem dX13_person_109 : decode cX13_person 109 = .ok (.iadd, 1) := by decide +kernel
theorem dX13_person_110 : decode cX13_person 110 = .ok (.iaload, 1) := by decide +kernel
theorem dX13_person_111 : decode cX13_person 111 = .ok (.ireturn, 1) := by decide +kernel
theorem dX13_person_112 : decode cX13_person 112 = .ok (.aload_n 0, 1) := by decide +kernel
theorem dX13_person_113 : decode cX13_person 113 = .ok (.iload_n 1, 1) := by decide +kernel
theorem dX13_person_114 : decode cX13_person 114 = .ok (.invokevirtual 280, 3) := by decide +kernel
theorem dX13_person_117 : decode cX13_person 117 = .ok (.ireturn, 1) := by decide +kernel
theorem dX13_person_118 : decode cX13_person 118 = .ok (.aload_n 0, 1) := by decide +kernel
theorem dX13_person_119 : decode cX13_person 119 = .ok (.iload_n 1, 1) := by decide +kernel
theorem dX13_person_120 : decode cX13_person 120 = .ok (.invokevirtual 283, 3) := by decide +kernel
theorem dX13_person_123 : decode cX13_person 123 = .ok (.ireturn, 1) := by decide +kernel
theorem dX13_person_124 : decode cX13_person 124 = .ok (.aload_n 0, 1) := by decide +kernel
theorem dX13_person_125 : decode cX13_person 125 = .ok (.iload_n 1, 1) := by decide +kernel
theorem dX13_person_126 : decode cX13_person 126 = .ok (.invokevirtual 286, 3) := by decide +kernel
theorem dX13_person_129 : decode cX13_person 129 = .ok (.ireturn, 1) := by decide +kernel
set_option maxRecDepth 100000 in
set_option maxHeartbeats 4000000 in
theorem wfX13_person_24 {E : KE} {p : Program} {l : Launch} {e : Env} {s : State} {m : MethodId} {args : Array Value} {below : List Frame} {meth : Method} {c : Code} {q : (Int32 × MM)} (C : mx_C E p m c cX13_person 3 s args RX13 meth (some .int)) (i1 : Int32) (i2 : Int32) (hT : E.1 = mt)   : ∀ (bs1 : Bool) (M : MM) (H : Heap) (locs : List Loc) (ls : Array Slot), fX13_person_24 i1 i2 bs1 M = some q → mx_H E s M H locs → lv_has ls 3 [(0, .ref (E.2.1.2.1 0)), (1, .int i1), (2, .int i2)] → W p l e (mx_rm 2) s m args below meth c H locs 0 0 (mx_Z E below args s (some (.int q.1)) q.2) (F0 m 24 ls [.int (mx_b bs1), .ref (E.2.1.2.1 0)]) := by
  have hx := C.1.1
  have hb := C.1.2.1
  have hown := C.1.2.2.2.1
  have hts := C.1.2.2.2.2
  intro bs1 M H locs ls hf hM hl
  rw [fX13_person_24] at hf
  obtain ⟨q24, hq24, hf⟩ := mx_bd hf
  refine mx_callV C hM hl.1 yo_X13_throwsIf (h' := 0) (by decide) qw_1650 qw_1652 qs_131 (ci := 13) (q := (RX13, TX13, 52)) rfl (mt_0 hT) (As := [.int (mx_b bs1)]) (rest := []) (st1 := [.int (mx_b q24.1)]) (kX13_throwsIf C.2.2.2.1 (mx_b bs1) hT M hq24) rfl rfl rfl (Nat.le_of_ble_eq_true rfl) dX13_person_24 (fun H locs hM => ?_)
  refine lv_if_eq (tgt := 32) hx hb dX13_person_27 (by decide) (fun hc27 => ?_) (fun hc27 => ?_)
  · replace hf := mx_ift hc27 hf
    refine lv_iload_n hx hb dX13_person_32 rfl (lv_at hl 2 rfl) ?_
    by_cases hs0 : i2 = 0
    · replace hf := mx_ift hs0 hf
      refine lv_tableIn (tgt := 72) hx hb dX13_person_33 (by rw [hs0]; decide) (by rw [hs0]; decide) (by rw [hs0]; rfl) (by decide) ?_
      refine lv_aload_n hx hb dX13_person_72 rfl (lv_at hl 0 rfl) ?_
      refine g13_33 C hT hM dX13_person_73 ?_
      refine lv_bipush (v := (57 : Int32)) hx hb dX13_person_76 (by decide) ?_
      refine lv_iload_n hx hb dX13_person_78 rfl (lv_at hl 1 rfl) ?_
      refine lv_iadd hx hb dX13_person_79 ?_
      obtain ⟨hg80, hf⟩ := mx_gd hf
      refine mx_iald C hM (mt_2 hT) (mx_in_vp hg80) dX13_person_80 ?_
      exact mx_iret C hM hf dX13_person_81
    replace hf := mx_iff hs0 hf
    by_cases hs1 : i2 = 1
    · replace hf := mx_ift hs1 hf
      refine lv_tableIn (tgt := 82) hx hb dX13_person_33 (by rw [hs1]; decide) (by rw [hs1]; decide) (by rw [hs1]; rfl) (by decide) ?_
      refine lv_aload_n hx hb dX13_person_82 rfl (lv_at hl 0 rfl) ?_
      refine g13_33 C hT hM dX13_person_83 ?_
      refine lv_bipush (v := (64 : Int32)) hx hb dX13_person_86 (by decide) ?_
      refine lv_iload_n hx hb dX13_person_88 rfl (lv_at hl 1 rfl) ?_
      refine lv_iadd hx hb dX13_person_89 ?_
      obtain ⟨hg90, hf⟩ := mx_gd hf
      refine mx_iald C hM (mt_2 hT) (mx_in_vp hg90) dX13_person_90 ?_
      exact mx_iret C hM hf dX13_person_91
    replace hf := mx_iff hs1 hf
    by_cases hs2 : i2 = 2
    · replace hf := mx_ift hs2 hf
      refine lv_tableIn (tgt := 92) hx hb dX13_person_33 (by rw [hs2]; decide) (by rw [hs2]; decide) (by rw [hs2]; rfl) (by decide) ?_
      refine lv_aload_n hx hb dX13_person_92 rfl (lv_at hl 0 rfl) ?_
      refine g13_33 C hT hM dX13_person_93 ?_
      refine lv_bipush (v := (19 : Int32)) hx hb dX13_person_96 (by decide) ?_
      refine lv_iload_n hx hb dX13_person_98 rfl (lv_at hl 1 rfl) ?_
      refine lv_iadd hx hb dX13_person_99 ?_
      obtain ⟨hg100, hf⟩ := mx_gd hf
      refine mx_iald C hM (mt_2 hT) (mx_in_vp hg100) dX13_person_100 ?_
      exact mx_iret C hM hf dX13_person_101
    replace hf := mx_iff hs2 hf
    by_cases hs3 : i2 = 3
    · replace hf := mx_ift hs3 hf
      refine lv_tableIn (tgt := 102) hx hb dX13_person_33 (by rw [hs3]; decide) (by rw [hs3]; decide) (by rw [hs3]; rfl) (by decide) ?_
      refine lv_aload_n hx hb dX13_person_102 rfl (lv_at hl 0 rfl) ?_
      refine g13_33 C hT hM dX13_person_103 ?_
      refine lv_bipush (v := (71 : Int32)) hx hb dX13_person_106 (by decide) ?_
      refine lv_iload_n hx hb dX13_person_108 rfl (lv_at hl 1 rfl) ?_
      refine lv_iadd hx hb dX13_person_109 ?_
      obtain ⟨hg110, hf⟩ := mx_gd hf
      refine mx_iald C hM (mt_2 hT) (mx_in_vp hg110) dX13_person_110 ?_
      exact mx_iret C hM hf dX13_person_111
    replace hf := mx_iff hs3 hf
    by_cases hs4 : i2 = 4
    · replace hf := mx_ift hs4 hf
      refine lv_tableIn (tgt := 112) hx hb dX13_person_33 (by rw [hs4]; decide) (by rw [hs4]; decide) (by rw [hs4]; rfl) (by decide) ?_
      refine lv_aload_n hx hb dX13_person_112 rfl (lv_at hl 0 rfl) ?_
      refine lv_iload_n hx hb dX13_person_113 rfl (lv_at hl 1 rfl) ?_
      obtain ⟨q114, hq114, hf⟩ := mx_bd hf
      refine mx_callV C hM hl.1 yo_X13_keptBy (h' := 1) (by decide) qw_1654 qw_1656 qs_132 (ci := 13) (q := (RX13, TX13, 52)) rfl (mt_0 hT) (As := [.int i1]) (rest := []) (st1 := [.int q114]) (kX13_keptBy C.2.2.2.1 i1 hT q24.2 hq114) rfl rfl rfl (Nat.le_of_ble_eq_true rfl) dX13_person_114 (fun H locs hM => ?_)
      exact mx_iret C hM hf dX13_person_117
    replace hf := mx_iff hs4 hf
    by_cases hs5 : i2 = 5
    · replace hf := mx_ift hs5 hf
      refine lv_tableIn (tgt := 118) hx hb dX13_person_33 (by rw [hs5]; decide) (by rw [hs5]; decide) (by rw [hs5]; rfl) (by decide) ?_
      refine lv_aload_n hx hb dX13_person_118 rfl (lv_at hl 0 rfl) ?_
      refine lv_iload_n hx hb dX13_person_119 rfl (lv_at hl 1 rfl) ?_
      obtain ⟨q120, hq120, hf⟩ := mx_bd hf
      refine mx_callV C hM hl.1 yo_X13_wornBy (h' := 0) (by decide) qw_1662 qw_1664 qs_134 (ci := 13) (q := (RX13, TX13, 52)) rfl (mt_0 hT) (As := [.int i1]) (rest := []) (st1 := [.int q120]) (kX13_wornBy C.2.2.2.1 i1 hT q24.2 hq120) rfl rfl rfl (Nat.le_of_ble_eq_true rfl) dX13_person_120 (fun H locs hM => ?_)
      exact mx_iret C hM hf dX13_person_123
    replace hf := mx_iff hs5 hf
    refine lv_tableOut (tgt := 124) hx hb dX13_person_33 (by have hh := And.intro trivial trivial; have hh0 := lv_neT hs0 (by decide : (0 : Int32).toInt = 0); have hh1 := lv_neT hs1 (by decide : (1 : Int32).toInt = 1); have hh2 := lv_neT hs2 (by decide : (2 : Int32).toInt = 2); have hh3 := lv_neT hs3 (by decide : (3 : Int32).toInt = 3); have hh4 := lv_neT hs4 (by decide : (4 : Int32).toInt = 4); have hh5 := lv_neT hs5 (by decide : (5 : Int32).toInt = 5); omega) (by decide) ?_
    refine lv_aload_n hx hb dX13_person_124 rfl (lv_at hl 0 rfl) ?_
    refine lv_iload_n hx hb dX13_person_125 rfl (lv_at hl 1 rfl) ?_
    obtain ⟨q126, hq126, hf⟩ := mx_bd hf
    refine mx_callV C hM hl.1 yo_X13_ownedBy (h' := 0) (by decide) qw_1666 qw_1668 qs_135 (ci := 13) (q := (RX13, TX13, 52)) rfl (mt_0 hT) (As := [.int i1]) (rest := []) (st1 := [.int q126]) (kX13_ownedBy C.2.2.2.1 i1 hT q24.2 hq126) rfl rfl rfl (Nat.le_of_ble_eq_true rfl) dX13_person_126 (fun H locs hM => ?_)
    exact mx_iret C hM hf dX13_person_129
  · replace hf := mx_iff hc27 hf
    refine lv_iconst (v := (0 : Int32)) hx hb dX13_person_30 (by decide) ?_
    exact mx_iret C hM hf dX13_person_31
set_option maxRecDepth 100000 in
set_option maxHeartbeats 4000000 in
theorem wfX13_person_19 {E : KE} {p : Program} {l : Launch} {e : Env} {s : State} {m : MethodId} {args : Array Value} {below : List Frame} {meth : Method} {c : Code} {q : (Int32 × MM)} (C : mx_C E p m c cX13_person 3 s args RX13 meth (some .int)) (i1 : Int32) (i2 : Int32) (hT : E.1 = mt)  (k24 : Bool → MM → Option (Int32 × MM)) (hk24 : ∀ (bs1 : Bool) (M : MM) (H : Heap) (locs : List Loc) (ls : Array Slot), k24 bs1 M = some q → mx_H E s M H locs → lv_has ls 3 [(0, .ref (E.2.1.2.1 0)), (1, .int i1), (2, .int i2)] → W p l e (mx_rm 2) s m args below meth c H locs 0 0 (mx_Z E below args s (some (.int q.1)) q.2) (F0 m 24 ls [.int (mx_b bs1), .ref (E.2.1.2.1 0)])) : ∀ (M : MM) (H : Heap) (locs : List Loc) (ls : Array Slot), fX13_person_19 i1 i2 k24 M = some q → mx_H E s M H locs → lv_has ls 3 [(0, .ref (E.2.1.2.1 0)), (1, .int i1), (2, .int i2)] → W p l e (mx_rm 2) s m args below meth c H locs 0 0 (mx_Z E below args s (some (.int q.1)) q.2) (F0 m 19 ls [.ref (E.2.1.2.1 0)]) := by
  have hx := C.1.1
  have hb := C.1.2.1
  have hown := C.1.2.2.2.1
  have hts := C.1.2.2.2.2
  intro M H locs ls hf hM hl
  rw [fX13_person_19] at hf
  refine lv_iconst (v := (1 : Int32)) hx hb dX13_person_19 (by decide) ?_
  refine lv_goto (tgt := 24) hx hb dX13_person_20 (by decide) ?_
  exact hk24 true M _ _ _ hf hM (lv_sub hl [0, 1, 2] rfl)
set_option maxRecDepth 100000 in
set_option maxHeartbeats 4000000 in
theorem kX13_person {E : KE} {l : Launch} (hE : mx_ok E) (i1 : Int32) (i2 : Int32) (hT : E.1 = mt) (M : MM) {q : (Int32 × MM)} (hf : fX13_person i1 i2 M = some q) : mx_Met E l yX13_person cX13_person 3 (some .int) 2 [.ref (E.2.1.2.1 0), .int i1, .int i2] M (some (.int q.1)) q.2 := by
  refine mx_enter hE (by decide) (Nat.le_of_ble_eq_true rfl) ?_
  intro p e s m below meth c C hM hn ls hl
  have hx := C.1.1
  have hb := C.1.2.1
  have hown := C.1.2.2.2.1
  have hts := C.1.2.2.2.2
  have hl : lv_has ls 3 [(0, .ref (E.2.1.2.1 0)), (1, .int i1), (2, .int i2)] := hl
  rw [fX13_person] at hf
  refine lv_aload_n hx hb dX13_person_0 rfl (lv_at hl 0 rfl) ?_
  refine lv_aload_n hx hb dX13_person_1 rfl (lv_at hl 0 rfl) ?_
  refine lv_iload_n hx hb dX13_person_2 rfl (lv_at hl 1 rfl) ?_
  obtain ⟨q3, hq3, hf⟩ := mx_bd hf
  refine mx_callV C hM hl.1 yo_X13_isPerson (h' := 1) (by decide) qw_1646 qw_1648 qs_130 (ci := 13) (q := (RX13, TX13, 52)) rfl (mt_0 hT) (As := [.int i1]) (rest := [.ref (E.2.1.2.1 0)]) (st1 := [.int (mx_b q3), .ref (E.2.1.2.1 0)]) (kX13_isPerson C.2.2.2.1 i1 hT M hq3) rfl rfl rfl (Nat.le_of_ble_eq_true rfl) dX13_person_3 (fun H locs hM => ?_)
  refine lv_if_eq (tgt := 19) hx hb dX13_person_6 (by decide) (fun hc6 => ?_) (fun hc6 => ?_)
  · replace hf := mx_ift hc6 hf
    exact wfX13_person_19 C i1 i2 hT (fun bs1' M' => fX13_person_24 i1 i2 bs1' M') (fun bs1' M' H locs ls hf hM hl => wfX13_person_24 C i1 i2 hT bs1' M' H locs ls hf hM hl) M _ _ _ hf hM (lv_sub hl [0, 1, 2] rfl)
  · replace hf := mx_iff hc6 hf
    refine lv_iload_n hx hb dX13_person_9 rfl (lv_at hl 2 rfl) ?_
    refine lv_iconst (v := (0 : Int32)) hx hb dX13_person_10 (by decide) ?_
    refine lv_bipush (v := (6 : Int32)) hx hb dX13_person_11 (by decide) ?_
    obtain ⟨q13, hq13, hf⟩ := mx_bd hf
    refine mx_callS C hM hl.1 yo_X13_isIn (h' := 0) (by decide) qw_1608 qw_1609 (As := [.int i2, .int (0 : Int32), .int (6 : Int32)]) (rest := [.ref (E.2.1.2.1 0)]) (st1 := [.int (mx_b q13), .ref (E.2.1.2.1 0)]) (kX13_isIn C.2.2.2.1 i2 (0 : Int32) (6 : Int32) hT M hq13) rfl rfl rfl (Nat.le_of_ble_eq_true rfl) dX13_person_13 (fun H locs hM => ?_)
    refine lv_if_ne (tgt := 23) hx hb dX13_person_16 (by decide) (fun hc16 => ?_) (fun hc16 => ?_)
    · replace hf := mx_iff hc16 hf
      refine lv_iconst (v := (0 : Int32)) hx hb dX13_person_23 (by decide) ?_
      exact wfX13_person_24 C i1 i2 hT false M _ _ _ hf hM (lv_sub hl [0, 1, 2] rfl)
    · replace hf := mx_ift hc16 hf
      exact wfX13_person_19 C i1 i2 hT (fun bs1' M' => fX13_person_24 i1 i2 bs1' M') (fun bs1' M' H locs ls hf hM hl => wfX13_person_24 C i1 i2 hT bs1' M' H locs ls hf hM hl) M _ _ _ hf hM (lv_sub hl [0, 1, 2] rfl)
theorem dX13_ring_0 : decode cX13_ring 0 = .ok (.aload_n 0, 1) := by decide +kernel
theorem dX13_ring_1 : decode cX13_ring 1 = .ok (.aload_n 0, 1) := by decide +kernel
theorem dX13_ring_2 : decode cX13_ring 2 = .ok (.iload_n 1, 1) := by decide +kernel
theorem dX13_ring_3 : decode cX13_ring 3 = .ok (.invokevirtual 289, 3) := by decide +kernel
theorem dX13_ring_6 : decode cX13_ring 6 = .ok (.ifCond .eq 13, 3) := by decide +kernel
theorem dX13_ring_9 : decode cX13_ring 9 = .ok (.iload_n 2, 1) := by decide +kernel
theorem dX13_ring_10 : decode cX13_ring 10 = .ok (.iconst 0, 1) := by decide +kernel
theorem dX13_ring_11 : decode cX13_ring 11 = .ok (.bipush 7, 2) := by decide +kernel
theorem dX13_ring_13 : decode cX13_ring 13 = .ok (.invokestatic 193, 3) := by decide +kernel
theorem dX13_ring_16 : decode cX13_ring 16 = .ok (.ifCond .ne 7, 3) := by decide +kernel
theorem dX13_ring_19 : decode cX13_ring 19 = .ok (.iconst 1, 1) := by decide +kernel
theorem dX13_ring_20 : decode cX13_ring 20 = .ok (.goto 4, 3) := by decide +kernel
theorem dX13_ring_23 : decode cX13_ring 23 = .ok (.iconst 0, 1) := by decide +kernel
theorem dX13_ring_24 : decode cX13_ring 24 = .ok (.invokevirtual 276, 3) := by decide +kernel
theorem dX13_ring_27 : decode cX13_ring 27 = .ok (.ifCond .eq 5, 3) := by decide +kernel
theorem dX13_ring_30 : decode cX13_ring 30 = .ok (.iconst 0, 1) := by decide +kernel
theorem dX13_ring_31 : decode cX13_ring 31 = .ok (.ireturn, 1) := by decide +kernel
theorem dX13_ring_32 : decode cX13_ring 32 = .ok (.aload_n 0, 1) := by decide +kernel
theorem dX13_ring_33 : decode cX13_ring 33 = .ok (.getfield 33, 3) := by decide +kernel
theorem dX13_ring_36 : decode cX13_ring 36 = .ok (.bipush 85, 2) := by decide +kernel
theorem dX13_ring_38 : decode cX13_ring 38 = .ok (.iload_n 1, 1) := by decide +kernel
theorem dX13_ring_39 : decode cX13_ring 39 = .ok (.iadd, 1) := by decide +kernel
theorem dX13_ring_40 : decode cX13_ring 40 = .ok (.iaload, 1) := by decide +kernel
theorem dX13_ring_41 : decode cX13_ring 41 = .ok (.iconst 2, 1) := by decide +kernel
theorem dX13_ring_42 : decode cX13_ring 42 = .ok (.if_icmp .ne 7, 3) := by decide +kernel
theorem dX13_ring_45 : decode cX13_ring 45 = .ok (.iconst 1, 1) := by decide +kernel
theorem dX13_ring_46 : decode cX13_ring 46 = .ok (.goto 4, 3) := by decide +kernel
theorem dX13_ring_49 : decode cX13_ring 49 = .ok (.iconst 0, 1) := by decide +kernel
theorem dX13_ring_50 : decode cX13_ring 50 = .ok (.istore_n 3, 1) := by decide +kernel
theorem dX13_ring_51 : decode cX13_ring 51 = .ok (.iload_n 2, 1) := by decide +kernel
theorem dX13_ring_52 : decode cX13_ring 52 = .ok (.tableswitch 146 0 6 #[44, 54, 64, 82, 92, 102, 112], 44) := by decide +kernel
theorem dX13_ring_96 : decode cX13_ring 96 = .ok (.aload_n 0, 1) := by decide +kernel
theorem dX13_ring_97 : decode cX13_ring 97 = .ok (.getfield 33, 3) := by decide +kernel
theorem dX13_ring_100 : decode cX13_ring 100 = .ok (.bipush 26, 2) := by decide +kernel
theorem dX13_ring_102 : decode cX13_ring 102 = .ok (.iload_n 1, 1) := by decide +kernel
theorem dX13_ring_103 : decode cX13_ring 103 = .ok (.iadd, 1) := by decide +kernel
theorem dX13_ring_104 : decode cX13_ring 104 = .ok (.iaload, 1) := by decide +kernel
theorem dX13_ring_105 : decode cX13_ring 105 = .ok (.ireturn, 1) := by decide +kernel
theorem dX13_ring_106 : decode cX13_ring 106 = .ok (.aload_n 0, 1) := by decide +kernel
theorem dX13_ring_107 : decode cX13_ring 107 = .ok (.getfield 33, 3) := by decide +kernel
theorem dX13_ring_110 : decode cX13_ring 110 = .ok (.bipush 33, 2) := by decide +kernel
theorem dX13_ring_112 : decode cX13_ring 112 = .ok (.iload_n 1, 1) := by decide +kernel
theorem dX13_ring_113 : decode cX13_ring 113 = .ok (.iadd, 1) := by decide +kernel
theorem dX13_ring_114 : decode cX13_ring 114 = .ok (.iaload, 1) := by decide +kernel
theorem dX13_ring_115 : decode cX13_ring 115 = .ok (.ireturn, 1) := by decide +kernel
theorem dX13_ring_116 : decode cX13_ring 116 = .ok (.iload_n 3, 1) := by decide +kernel
theorem dX13_ring_117 : decode cX13_ring 117 = .ok (.ifCond .eq 7, 3) := by decide +kernel
theorem dX13_ring_120 : decode cX13_ring 120 = .ok (.iconst (-1), 1) := by decide +kernel
theorem dX13_ring_121 : decode cX13_ring 121 = .ok (.goto 12, 3) := by decide +kernel
theorem dX13_ring_124 : decode cX13_ring 124 = .ok (.aload_n 0, 1) := by decide +kernel
theorem dX13_ring_125 : decode cX13_ring 125 = .ok (.getfield 33, 3) := by decide +kernel
theorem dX13_ring_128 : decode cX13_ring 128 = .ok (.bipush 78, 2) := by decide +kernel
theorem dX13_ring_130 : decode cX13_ring 130 = .ok (.iload_n 1, 1) := by decide +kernel
theorem dX13_ring_131 : decode cX13_ring 131 = .ok (.iadd, 1) := by decide +kernel
theorem dX13_ring_132 : decode cX13_ring 132 = .ok (.iaload, 1) := by decide +kernel
theorem dX13_ring_133 : decode cX13_ring 133 = .ok (.ireturn, 1) := by decide +kernel
theorem dX13_ring_134 : decode cX13_ring 134 = .ok (.aload_n 0, 1) := by decide +kernel
theorem dX13_ring_135 : decode cX13_ring 135 = .ok (.getfield 33, 3) := by decide +kernel
theorem dX13_ring_138 : decode cX13_ring 138 = .ok (.bipush 47, 2) := by decide +kernel
theorem dX13_ring_140 : decode cX13_ring 140 = .ok (.iload_n 1, 1) := by decide +kernel
theorem dX13_ring_141 : decode cX13_ring 141 = .ok (.iadd, 1) := by decide +kernel
theorem dX13_ring_142 : decode cX13_ring 142 = .ok (.iaload, 1) := by decide +kernel
theorem dX13_ring_143 : decode cX13_ring 143 = .ok (.ireturn, 1) := by decide +kernel
theorem dX13_ring_144 : decode cX13_ring 144 = .ok (.aload_n 0, 1) := by decide +kernel
theorem dX13_ring_145 : decode cX13_ring 145 = .ok (.getfield 33, 3) := by decide +kernel
theorem dX13_ring_148 : decode cX13_ring 148 = .ok (.bipush 85, 2) := by decide +kernel
theorem dX13_ring_150 : decode cX13_ring 150 = .ok (.iload_n 1, 1) := by decide +kernel
theorem dX13_ring_151 : decode cX13_ring 151 = .ok (.iadd, 1) := by decide +kernel
theorem dX13_ring_152 : decode cX13_ring 152 = .ok (.iaload, 1) := by decide +kernel
theorem dX13_ring_153 : decode cX13_ring 153 = .ok (.ireturn, 1) := by decide +kernel
theorem dX13_ring_154 : decode cX13_ring 154 = .ok (.aload_n 0, 1) := by decide +kernel
theorem dX13_ring_155 : decode cX13_ring 155 = .ok (.getfield 33, 3) := by decide +kernel
theorem dX13_ring_158 : decode cX13_ring 158 = .ok (.bipush 92, 2) := by decide +kernel
theorem dX13_ring_160 : decode cX13_ring 160 = .ok (.iload_n 1, 1) := by decide +kernel
theorem dX13_ring_161 : decode cX13_ring 161 = .ok (.iadd, 1) := by decide +kernel
theorem dX13_ring_162 : decode cX13_ring 162 = .ok (.iaload, 1) := by decide +kernel
theorem dX13_ring_163 : decode cX13_ring 163 = .ok (.ireturn, 1) := by decide +kernel
theorem dX13_ring_164 : decode cX13_ring 164 = .ok (.iload_n 3, 1) := by decide +kernel
theorem dX13_ring_165 : decode cX13_ring 165 = .ok (.ifCond .eq 15, 3) := by decide +kernel
theorem dX13_ring_168 : decode cX13_ring 168 = .ok (.aload_n 0, 1) := by decide +kernel
theorem dX13_ring_169 : decode cX13_ring 169 = .ok (.getfield 33, 3) := by decide +kernel
theorem dX13_ring_172 : decode cX13_ring 172 = .ok (.bipush 99, 2) := by decide +kernel
theorem dX13_ring_174 : decode cX13_ring 174 = .ok (.iload_n 1, 1) := by decide +kernel
theorem dX13_ring_175 : decode cX13_ring 175 = .ok (.iadd, 1) := by decide +kernel
theorem dX13_ring_176 : decode cX13_ring 176 = .ok (.iaload, 1) := by decide +kernel
theorem dX13_ring_177 : decode cX13_ring 177 = .ok (.goto 20, 3) := by decide +kernel
theorem dX13_ring_180 : decode cX13_ring 180 = .ok (.aload_n 0, 1) := by decide +kernel
theorem dX13_ring_181 : decode cX13_ring 181 = .ok (.getfield 33, 3) := by decide +kernel
theorem dX13_ring_184 : decode cX13_ring 184 = .ok (.bipush 57, 2) := by decide +kernel
theorem dX13_ring_186 : decode cX13_ring 186 = .ok (.aload_n 0, 1) := by decide +kernel
theorem dX13_ring_187 : decode cX13_ring 187 = .ok (.getfield 33, 3) := by decide +kernel
theorem dX13_ring_190 : decode cX13_ring 190 = .ok (.bipush 78, 2) := by decide +kernel
theorem dX13_ring_192 : decode cX13_ring 192 = .ok (.iload_n 1, 1) := by decide +kernel
theorem dX13_ring_193 : decode cX13_ring 193 = .ok (.iadd, 1) := by decide +kernel
theorem dX13_ring_194 : decode cX13_ring 194 = .ok (.iaload, 1) := by decide +kernel
theorem dX13_ring_195 : decode cX13_ring 195 = .ok (.iadd, 1) := by decide +kernel
theorem dX13_ring_196 : decode cX13_ring 196 = .ok (.iaload, 1) := by decide +kernel
theorem dX13_ring_197 : decode cX13_ring 197 = .ok (.ireturn, 1) := by decide +kernel
theorem dX13_ring_198 : decode cX13_ring 198 = .ok (.iload_n 3, 1) := by decide +kernel
theorem dX13_ring_199 : decode cX13_ring 199 = .ok (.ifCond .eq 15, 3) := by decide +kernel
theorem dX13_ring_202 : decode cX13_ring 202 = .ok (.aload_n 0, 1) := by decide +kernel
theorem dX13_ring_203 : decode cX13_ring 203 = .ok (.getfield 33, 3) := by decide +kernel
theorem dX13_ring_206 : decode cX13_ring 206 = .ok (.bipush 106, 2) := by decide +kernel
theorem dX13_ring_208 : decode cX13_ring 208 = .ok (.iload_n 1, 1) := by decide +kernel
theorem dX13_ring_209 : decode cX13_ring 209 = .ok (.iadd, 1) := by decide +kernel
theorem dX13_ring_210 : decode cX13_ring 210 = .ok (.iaload, 1) := by decide +kernel
theorem dX13_ring_211 : decode cX13_ring 211 = .ok (.goto 20, 3) := by decide +kernel
theorem dX13_ring_214 : decode cX13_ring 214 = .ok (.aload_n 0, 1) := by decide +kernel
theorem dX13_ring_215 : decode cX13_ring 215 = .ok (.getfield 33, 3) := by decide +kernel
theorem dX13_ring_218 : decode cX13_ring 218 = .ok (.bipush 64, 2) := by decide +kernel
theorem dX13_ring_220 : decode cX13_ring 220 = .ok (.aload_n 0, 1) := by decide +kernel
theorem dX13_ring_221 : decode cX13_ring 221 = .ok (.getfield 33, 3) := by decide +kernel
theorem dX13_ring_224 : decode cX13_ring 224 = .ok (.bipush 78, 2) := by decide +kernel
theorem dX13_ring_226 : decode cX13_ring 226 = .ok (.iload_n 1, 1) := by decide +kernel
theorem dX13_ring_227 : decode cX13_ring 227 = .ok (.iadd, 1) := by decide +kernel
theorem dX13_ring_228 : decode cX13_ring 228 = .ok (.iaload, 1) := by decide +kernel
theorem dX13_ring_229 : decode cX13_ring 229 = .ok (.iadd, 1) := by decide +kernel
theorem dX13_ring_230 : decode cX13_ring 230 = .ok (.iaload, 1) := by decide +kernel
theorem dX13_ring_231 : decode cX13_ring 231 = .ok (.ireturn, 1) := by decide +kernel
set_option maxRecDepth 100000 in
set_option maxHeartbeats 4000000 in
theorem wfX13_ring_50 {E : KE} {p : Program} {l : Launch} {e : Env} {s : State} {m : MethodId} {args : Array Value} {below : List Frame} {meth : Method} {c : Code} {q : (Int32 × MM)} (C : mx_C E p m c cX13_ring 4 s args RX13 meth (some .int)) (i1 : Int32) (i2 : Int32) (hT : E.1 = mt)   : ∀ (bs0 : Bool) (M : MM) (H : Heap) (locs : List Loc) (ls : Array Slot), fX13_ring_50 i1 i2 bs0 M = some q → mx_H E s M H locs → lv_has ls 4 [(0, .ref (E.2.1.2.1 0)), (1, .int i1), (2, .int i2)] → W p l e (mx_rm 2) s m args below meth c H locs 0 0 (mx_Z E below args s (some (.int q.1)) q.2) (F0 m 50 ls [.int (mx_b bs0)]) := by
  have hx := C.1.1
  have hb := C.1.2.1
  have hown := C.1.2.2.2.1
  have hts := C.1.2.2.2.2
  intro bs0 M H locs ls hf hM hl
  rw [fX13_ring_50] at hf
  refine lv_istore_n (lv' := [(3, .int (mx_b bs0)), (0, .ref (E.2.1.2.1 0)), (1, .int i1), (2, .int i2)]) hx hb dX13_ring_50 rfl hl (by decide) rfl (fun ls hl => ?_)
  refine lv_iload_n hx hb dX13_ring_51 rfl (lv_at hl 3 rfl) ?_
  by_cases hs0 : i2 = 0
  · replace hf := mx_ift hs0 hf
    refine lv_tableIn (tgt := 96) hx hb dX13_ring_52 (by rw [hs0]; decide) (by rw [hs0]; decide) (by rw [hs0]; rfl) (by decide) ?_
    refine lv_aload_n hx hb dX13_ring_96 rfl (lv_at hl 1 rfl) ?_
    refine g13_33 C hT hM dX13_ring_97 ?_
    refine lv_bipush (v := (26 : Int32)) hx hb dX13_ring_100 (by decide) ?_
    refine lv_iload_n hx hb dX13_ring_102 rfl (lv_at hl 2 rfl) ?_
    refine lv_iadd hx hb dX13_ring_103 ?_
    obtain ⟨hg104, hf⟩ := mx_gd hf
    refine mx_iald C hM (mt_2 hT) (mx_in_vp hg104) dX13_ring_104 ?_
    exact mx_iret C hM hf dX13_ring_105
  replace hf := mx_iff hs0 hf
  by_cases hs1 : i2 = 1
  · replace hf := mx_ift hs1 hf
    refine lv_tableIn (tgt := 106) hx hb dX13_ring_52 (by rw [hs1]; decide) (by rw [hs1]; decide) (by rw [hs1]; rfl) (by decide) ?_
    refine lv_aload_n hx hb dX13_ring_106 rfl (lv_at hl 1 rfl) ?_
    refine g13_33 C hT hM dX13_ring_107 ?_
    refine lv_bipush (v := (33 : Int32)) hx hb dX13_ring_110 (by decide) ?_
    refine lv_iload_n hx hb dX13_ring_112 rfl (lv_at hl 2 rfl) ?_
    refine lv_iadd hx hb dX13_ring_113 ?_
    obtain ⟨hg114, hf⟩ := mx_gd hf
    refine mx_iald C hM (mt_2 hT) (mx_in_vp hg114) dX13_ring_114 ?_
    exact mx_iret C hM hf dX13_ring_115
  replace hf := mx_iff hs1 hf
  by_cases hs2 : i2 = 2
  · replace hf := mx_ift hs2 hf
    refine lv_tableIn (tgt := 116) hx hb dX13_ring_52 (by rw [hs2]; decide) (by rw [hs2]; decide) (by rw [hs2]; rfl) (by decide) ?_
    refine lv_iload_n hx hb dX13_ring_116 rfl (lv_at hl 0 rfl) ?_
    refine lv_if_eq (tgt := 124) hx hb dX13_ring_117 (by decide) (fun hc117 => ?_) (fun hc117 => ?_)
    · replace hf := mx_ift hc117 hf
      refine lv_aload_n hx hb dX13_ring_124 rfl (lv_at hl 1 rfl) ?_
      refine g13_33 C hT hM dX13_ring_125 ?_
      refine lv_bipush (v := (78 : Int32)) hx hb dX13_ring_128 (by decide) ?_
      refine lv_iload_n hx hb dX13_ring_130 rfl (lv_at hl 2 rfl) ?_
      refine lv_iadd hx hb dX13_ring_131 ?_
      obtain ⟨hg132, hf⟩ := mx_gd hf
      refine mx_iald C hM (mt_2 hT) (mx_in_vp hg132) dX13_ring_132 ?_
      exact mx_iret C hM hf dX13_ring_133
    · replace hf := mx_iff hc117 hf
      refine lv_iconst (v := (-1 : Int32)) hx hb dX13_ring_120 (by decide) ?_
      refine lv_goto (tgt := 133) hx hb dX13_ring_121 (by decide) ?_
      exact mx_iret C hM hf dX13_ring_133
  replace hf := mx_iff hs2 hf
  by_cases hs3 : i2 = 3
  · replace hf := mx_ift hs3 hf
    refine lv_tableIn (tgt := 134) hx hb dX13_ring_52 (by rw [hs3]; decide) (by rw [hs3]; decide) (by rw [hs3]; rfl) (by decide) ?_
    refine lv_aload_n hx hb dX13_ring_134 rfl (lv_at hl 1 rfl) ?_
    refine g13_33 C hT hM dX13_ring_135 ?_
    refine lv_bipush (v := (47 : Int32)) hx hb dX13_ring_138 (by decide) ?_
    refine lv_iload_n hx hb dX13_ring_140 rfl (lv_at hl 2 rfl) ?_
    refine lv_iadd hx hb dX13_ring_141 ?_
    obtain ⟨hg142, hf⟩ := mx_gd hf
    refine mx_iald C hM (mt_2 hT) (mx_in_vp hg142) dX13_ring_142 ?_
    exact mx_iret C hM hf dX13_ring_143
  replace hf := mx_iff hs3 hf
  by_cases hs4 : i2 = 4
  · replace hf := mx_ift hs4 hf
    refine lv_tableIn (tgt := 144) hx hb dX13_ring_52 (by rw [hs4]; decide) (by rw [hs4]; decide) (by rw [hs4]; rfl) (by decide) ?_
    refine lv_aload_n hx hb dX13_ring_144 rfl (lv_at hl 1 rfl) ?_
    refine g13_33 C hT hM dX13_ring_145 ?_
    refine lv_bipush (v := (85 : Int32)) hx hb dX13_ring_148 (by decide) ?_
    refine lv_iload_n hx hb dX13_ring_150 rfl (lv_at hl 2 rfl) ?_
    refine lv_iadd hx hb dX13_ring_151 ?_
    obtain ⟨hg152, hf⟩ := mx_gd hf
    refine mx_iald C hM (mt_2 hT) (mx_in_vp hg152) dX13_ring_152 ?_
    exact mx_iret C hM hf dX13_ring_153
  replace hf := mx_iff hs4 hf
  by_cases hs5 : i2 = 5
  · replace hf := mx_ift hs5 hf
    refine lv_tableIn (tgt := 154) hx hb dX13_ring_52 (by rw [hs5]; decide) (by rw [hs5]; decide) (by rw [hs5]; rfl) (by decide) ?_
    refine lv_aload_n hx hb dX13_ring_154 rfl (lv_at hl 1 rfl) ?_
    refine g13_33 C hT hM dX13_ring_155 ?_
    refine lv_bipush (v := (92 : Int32)) hx hb dX13_ring_158 (by decide) ?_
    refine lv_iload_n hx hb dX13_ring_160 rfl (lv_at hl 2 rfl) ?_
    refine lv_iadd hx hb dX13_ring_161 ?_
    obtain ⟨hg162, hf⟩ := mx_gd hf
    refine mx_iald C hM (mt_2 hT) (mx_in_vp hg162) dX13_ring_162 ?_
    exact mx_iret C hM hf dX13_ring_163
  replace hf := mx_iff hs5 hf
  by_cases hs6 : i2 = 6
  · replace hf := mx_ift hs6 hf
    refine lv_tableIn (tgt := 164) hx hb dX13_ring_52 (by rw [hs6]; decide) (by rw [hs6]; decide) (by rw [hs6]; rfl) (by decide) ?_
    refine lv_iload_n hx hb dX13_ring_164 rfl (lv_at hl 0 rfl) ?_
    refine lv_if_eq (tgt := 180) hx hb dX13_ring_165 (by decide) (fun hc165 => ?_) (fun hc165 => ?_)
    · replace hf := mx_ift hc165 hf
      refine lv_aload_n hx hb dX13_ring_180 rfl (lv_at hl 1 rfl) ?_
      refine g13_33 C hT hM dX13_ring_181 ?_
      refine lv_bipush (v := (57 : Int32)) hx hb dX13_ring_184 (by decide) ?_
      refine lv_aload_n hx hb dX13_ring_186 rfl (lv_at hl 1 rfl) ?_
      refine g13_33 C hT hM dX13_ring_187 ?_
      refine lv_bipush (v := (78 : Int32)) hx hb dX13_ring_190 (by decide) ?_
      refine lv_iload_n hx hb dX13_ring_192 rfl (lv_at hl 2 rfl) ?_
      refine lv_iadd hx hb dX13_ring_193 ?_
      obtain ⟨hg194, hf⟩ := mx_gd hf
      refine mx_iald C hM (mt_2 hT) (mx_in_vp hg194) dX13_ring_194 ?_
      refine lv_iadd hx hb dX13_ring_195 ?_
      obtain ⟨hg196, hf⟩ := mx_gd hf
      refine mx_iald C hM (mt_2 hT) (mx_in_vp hg196) dX13_ring_196 ?_
      exact mx_iret C hM hf dX13_ring_197
    · replace hf := mx_iff hc165 hf
      refine lv_aload_n hx hb dX13_ring_168 rfl (lv_at hl 1 rfl) ?_
      refine g13_33 C hT hM dX13_ring_169 ?_
      refine lv_bipush (v := (99 : Int32)) hx hb dX13_ring_172 (by decide) ?_
      refine lv_iload_n hx hb dX13_ring_174 rfl (lv_at hl 2 rfl) ?_
      refine lv_iadd hx hb dX13_ring_175 ?_
      obtain ⟨hg176, hf⟩ := mx_gd hf
      refine mx_iald C hM (mt_2 hT) (mx_in_vp hg176) dX13_ring_176 ?_
      refine lv_goto (tgt := 197) hx hb dX13_ring_177 (by decide) ?_
      exact mx_iret C hM hf dX13_ring_197
  replace hf := mx_iff hs6 hf
  refine lv_tableOut (tgt := 198) hx hb dX13_ring_52 (by have hh := And.intro trivial trivial; have hh0 := lv_neT hs0 (by decide : (0 : Int32).toInt = 0); have hh1 := lv_neT hs1 (by decide : (1 : Int32).toInt = 1); have hh2 := lv_neT hs2 (by decide : (2 : Int32).toInt = 2); have hh3 := lv_neT hs3 (by decide : (3 : Int32).toInt = 3); have hh4 := lv_neT hs4 (by decide : (4 : Int32).toInt = 4); have hh5 := lv_neT hs5 (by decide : (5 : Int32).toInt = 5); have hh6 := lv_neT hs6 (by decide : (6 : Int32).toInt = 6); omega) (by decide) ?_
  refine lv_iload_n hx hb dX13_ring_198 rfl (lv_at hl 0 rfl) ?_
  refine lv_if_eq (tgt := 214) hx hb dX13_ring_199 (by decide) (fun hc199 => ?_) (fun hc199 => ?_)
  · replace hf := mx_ift hc199 hf
    refine lv_aload_n hx hb dX13_ring_214 rfl (lv_at hl 1 rfl) ?_
    refine g13_33 C hT hM dX13_ring_215 ?_
    refine lv_bipush (v := (64 : Int32)) hx hb dX13_ring_218 (by decide) ?_
    refine lv_aload_n hx hb dX13_ring_220 rfl (lv_at hl 1 rfl) ?_
    refine g13_33 C hT hM dX13_ring_221 ?_
    refine lv_bipush (v := (78 : Int32)) hx hb dX13_ring_224 (by decide) ?_
    refine lv_iload_n hx hb dX13_ring_226 rfl (lv_at hl 2 rfl) ?_
    refine lv_iadd hx hb dX13_ring_227 ?_
    obtain ⟨hg228, hf⟩ := mx_gd hf
    refine mx_iald C hM (mt_2 hT) (mx_in_vp hg228) dX13_ring_228 ?_
    refine lv_iadd hx hb dX13_ring_229 ?_
    obtain ⟨hg230, hf⟩ := mx_gd hf
    refine mx_iald C hM (mt_2 hT) (mx_in_vp hg230) dX13_ring_230 ?_
    exact mx_iret C hM hf dX13_ring_231
  · replace hf := mx_iff hc199 hf
    refine lv_aload_n hx hb dX13_ring_202 rfl (lv_at hl 1 rfl) ?_
    refine g13_33 C hT hM dX13_ring_203 ?_
    refine lv_bipush (v := (106 : Int32)) hx hb dX13_ring_206 (by decide) ?_
    refine lv_iload_n hx hb dX13_ring_208 rfl (lv_at hl 2 rfl) ?_
    refine lv_iadd hx hb dX13_ring_209 ?_
    obtain ⟨hg210, hf⟩ := mx_gd hf
    refine mx_iald C hM (mt_2 hT) (mx_in_vp hg210) dX13_ring_210 ?_
    refine lv_goto (tgt := 231) hx hb dX13_ring_211 (by decide) ?_
    exact mx_iret C hM hf dX13_ring_231
set_option maxRecDepth 100000 in
set_option maxHeartbeats 4000000 in
theorem wfX13_ring_24 {E : KE} {p : Program} {l : Launch} {e : Env} {s : State} {m : MethodId} {args : Array Value} {below : List Frame} {meth : Method} {c : Code} {q : (Int32 × MM)} (C : mx_C E p m c cX13_ring 4 s args RX13 meth (some .int)) (i1 : Int32) (i2 : Int32) (hT : E.1 = mt)   : ∀ (bs1 : Bool) (M : MM) (H : Heap) (locs : List Loc) (ls : Array Slot), fX13_ring_24 i1 i2 bs1 M = some q → mx_H E s M H locs → lv_has ls 4 [(0, .ref (E.2.1.2.1 0)), (1, .int i1), (2, .int i2)] → W p l e (mx_rm 2) s m args below meth c H locs 0 0 (mx_Z E below args s (some (.int q.1)) q.2) (F0 m 24 ls [.int (mx_b bs1), .ref (E.2.1.2.1 0)]) := by
  have hx := C.1.1
  have hb := C.1.2.1
  have hown := C.1.2.2.2.1
  have hts := C.1.2.2.2.2
  intro bs1 M H locs ls hf hM hl
  rw [fX13_ring_24] at hf
  obtain ⟨q24, hq24, hf⟩ := mx_bd hf
  refine mx_callV C hM hl.1 yo_X13_throwsIf (h' := 0) (by decide) qw_1650 qw_1652 qs_131 (ci := 13) (q := (RX13, TX13, 52)) rfl (mt_0 hT) (As := [.int (mx_b bs1)]) (rest := []) (st1 := [.int (mx_b q24.1)]) (kX13_throwsIf C.2.2.2.1 (mx_b bs1) hT M hq24) rfl rfl rfl (Nat.le_of_ble_eq_true rfl) dX13_ring_24 (fun H locs hM => ?_)
  refine lv_if_eq (tgt := 32) hx hb dX13_ring_27 (by decide) (fun hc27 => ?_) (fun hc27 => ?_)
  · replace hf := mx_ift hc27 hf
    refine lv_aload_n hx hb dX13_ring_32 rfl (lv_at hl 0 rfl) ?_
    refine g13_33 C hT hM dX13_ring_33 ?_
    refine lv_bipush (v := (85 : Int32)) hx hb dX13_ring_36 (by decide) ?_
    refine lv_iload_n hx hb dX13_ring_38 rfl (lv_at hl 1 rfl) ?_
    refine lv_iadd hx hb dX13_ring_39 ?_
    obtain ⟨hg40, hf⟩ := mx_gd hf
    refine mx_iald C hM (mt_2 hT) (mx_in_vp hg40) dX13_ring_40 ?_
    refine lv_iconst (v := (2 : Int32)) hx hb dX13_ring_41 (by decide) ?_
    refine lv_icmp_ne (tgt := 49) hx hb dX13_ring_42 (by decide) (fun hc42 => ?_) (fun hc42 => ?_)
    · replace hf := mx_iff hc42 hf
      refine lv_iconst (v := (0 : Int32)) hx hb dX13_ring_49 (by decide) ?_
      exact wfX13_ring_50 C i1 i2 hT false q24.2 _ _ _ hf hM (lv_sub hl [0, 1, 2] rfl)
    · replace hf := mx_ift hc42 hf
      refine lv_iconst (v := (1 : Int32)) hx hb dX13_ring_45 (by decide) ?_
      refine lv_goto (tgt := 50) hx hb dX13_ring_46 (by decide) ?_
      exact wfX13_ring_50 C i1 i2 hT true q24.2 _ _ _ hf hM (lv_sub hl [0, 1, 2] rfl)
  · replace hf := mx_iff hc27 hf
    refine lv_iconst (v := (0 : Int32)) hx hb dX13_ring_30 (by decide) ?_
    exact mx_iret C hM hf dX13_ring_31
set_option maxRecDepth 100000 in
set_option maxHeartbeats 4000000 in
theorem wfX13_ring_19 {E : KE} {p : Program} {l : Launch} {e : Env} {s : State} {m : MethodId} {args : Array Value} {below : List Frame} {meth : Method} {c : Code} {q : (Int32 × MM)} (C : mx_C E p m c cX13_ring 4 s args RX13 meth (some .int)) (i1 : Int32) (i2 : Int32) (hT : E.1 = mt)  (k24 : Bool → MM → Option (Int32 × MM)) (hk24 : ∀ (bs1 : Bool) (M : MM) (H : Heap) (locs : List Loc) (ls : Array Slot), k24 bs1 M = some q → mx_H E s M H locs → lv_has ls 4 [(0, .ref (E.2.1.2.1 0)), (1, .int i1), (2, .int i2)] → W p l e (mx_rm 2) s m args below meth c H locs 0 0 (mx_Z E below args s (some (.int q.1)) q.2) (F0 m 24 ls [.int (mx_b bs1), .ref (E.2.1.2.1 0)])) : ∀ (M : MM) (H : Heap) (locs : List Loc) (ls : Array Slot), fX13_ring_19 i1 i2 k24 M = some q → mx_H E s M H locs → lv_has ls 4 [(0, .ref (E.2.1.2.1 0)), (1, .int i1), (2, .int i2)] → W p l e (mx_rm 2) s m args below meth c H locs 0 0 (mx_Z E below args s (some (.int q.1)) q.2) (F0 m 19 ls [.ref (E.2.1.2.1 0)]) := by
  have hx := C.1.1
  have hb := C.1.2.1
  have hown := C.1.2.2.2.1
  have hts := C.1.2.2.2.2
  intro M H locs ls hf hM hl
  rw [fX13_ring_19] at hf
  refine lv_iconst (v := (1 : Int32)) hx hb dX13_ring_19 (by decide) ?_
  refine lv_goto (tgt := 24) hx hb dX13_ring_20 (by decide) ?_
  exact hk24 true M _ _ _ hf hM (lv_sub hl [0, 1, 2] rfl)
set_option maxRecDepth 100000 in
set_option maxHeartbeats 4000000 in
theorem kX13_ring {E : KE} {l : Launch} (hE : mx_ok E) (i1 : Int32) (i2 : Int32) (hT : E.1 = mt) (M : MM) {q : (Int32 × MM)} (hf : fX13_ring i1 i2 M = some q) : mx_Met E l yX13_ring cX13_ring 4 (some .int) 2 [.ref (E.2.1.2.1 0), .int i1, .int i2] M (some (.int q.1)) q.2 := by
  refine mx_enter hE (by decide) (Nat.le_of_ble_eq_true rfl) ?_
  intro p e s m below meth c C hM hn ls hl
  have hx := C.1.1
  have hb := C.1.2.1
  have hown := C.1.2.2.2.1
  have hts := C.1.2.2.2.2
  have hl : lv_has ls 4 [(0, .ref (E.2.1.2.1 0)), (1, .int i1), (2, .int i2)] := hl
  rw [fX13_ring] at hf
  refine lv_aload_n hx hb dX13_ring_0 rfl (lv_at hl 0 rfl) ?_
  refine lv_aload_n hx hb dX13_ring_1 rfl (lv_at hl 0 rfl) ?_
  refine lv_iload_n hx hb dX13_ring_2 rfl (lv_at hl 1 rfl) ?_
  obtain ⟨q3, hq3, hf⟩ := mx_bd hf
  refine mx_callV C hM hl.1 yo_X13_isRing (h' := 1) (by decide) qw_1674 qw_1676 qs_136 (ci := 13) (q := (RX13, TX13, 52)) rfl (mt_0 hT) (As := [.int i1]) (rest := [.ref (E.2.1.2.1 0)]) (st1 := [.int (mx_b q3), .ref (E.2.1.2.1 0)]) (kX13_isRing C.2.2.2.1 i1 hT M hq3) rfl rfl rfl (Nat.le_of_ble_eq_true rfl) dX13_ring_3 (fun H locs hM => ?_)
  refine lv_if_eq (tgt := 19) hx hb dX13_ring_6 (by decide) (fun hc6 => ?_) (fun hc6 => ?_)
  · replace hf := mx_ift hc6 hf
    exact wfX13_ring_19 C i1 i2 hT (fun bs1' M' => fX13_ring_24 i1 i2 bs1' M') (fun bs1' M' H locs ls hf hM hl => wfX13_ring_24 C i1 i2 hT bs1' M' H locs ls hf hM hl) M _ _ _ hf hM (lv_sub hl [0, 1, 2] rfl)
  · replace hf := mx_iff hc6 hf
    refine lv_iload_n hx hb dX13_ring_9 rfl (lv_at hl 2 rfl) ?_
    refine lv_iconst (v := (0 : Int32)) hx hb dX13_ring_10 (by decide) ?_
    refine lv_bipush (v := (7 : Int32)) hx hb dX13_ring_11 (by decide) ?_
    obtain ⟨q13, hq13, hf⟩ := mx_bd hf
    refine mx_callS C hM hl.1 yo_X13_isIn (h' := 0) (by decide) qw_1608 qw_1609 (As := [.int i2, .int (0 : Int32), .int (7 : Int32)]) (rest := [.ref (E.2.1.2.1 0)]) (st1 := [.int (mx_b q13), .ref (E.2.1.2.1 0)]) (kX13_isIn C.2.2.2.1 i2 (0 : Int32) (7 : Int32) hT M hq13) rfl rfl rfl (Nat.le_of_ble_eq_true rfl) dX13_ring_13 (fun H locs hM => ?_)
    refine lv_if_ne (tgt := 23) hx hb dX13_ring_16 (by decide) (fun hc16 => ?_) (fun hc16 => ?_)
    · replace hf := mx_iff hc16 hf
      refine lv_iconst (v := (0 : Int32)) hx hb dX13_ring_23 (by decide) ?_
      exact wfX13_ring_24 C i1 i2 hT false M _ _ _ hf hM (lv_sub hl [0, 1, 2] rfl)
    · replace hf := mx_ift hc16 hf
      exact wfX13_ring_19 C i1 i2 hT (fun bs1' M' => fX13_ring_24 i1 i2 bs1' M') (fun bs1' M' H locs ls hf hM hl => wfX13_ring_24 C i1 i2 hT bs1' M' H locs ls hf hM hl) M _ _ _ hf hM (lv_sub hl [0, 1, 2] rfl)
