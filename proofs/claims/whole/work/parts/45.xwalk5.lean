theorem dX8_readAll_0 : decode cX8_readAll 0 = .ok (.aload_n 0, 1) := by decide +kernel
theorem dX8_readAll_1 : decode cX8_readAll 1 = .ok (.aload_n 1, 1) := by decide +kernel
theorem dX8_readAll_2 : decode cX8_readAll 2 = .ok (.aload_n 2, 1) := by decide +kernel
theorem dX8_readAll_3 : decode cX8_readAll 3 = .ok (.iload_n 3, 1) := by decide +kernel
theorem dX8_readAll_4 : decode cX8_readAll 4 = .ok (.invokevirtual 74, 3) := by decide +kernel
theorem dX8_readAll_7 : decode cX8_readAll 7 = .ok (.ifCond .ne 5, 3) := by decide +kernel
theorem dX8_readAll_10 : decode cX8_readAll 10 = .ok (.iconst 0, 1) := by decide +kernel
theorem dX8_readAll_11 : decode cX8_readAll 11 = .ok (.ireturn, 1) := by decide +kernel
theorem dX8_readAll_12 : decode cX8_readAll 12 = .ok (.iconst 0, 1) := by decide +kernel
theorem dX8_readAll_13 : decode cX8_readAll 13 = .ok (.istore 4, 2) := by decide +kernel
theorem dX8_readAll_15 : decode cX8_readAll 15 = .ok (.iload 4, 2) := by decide +kernel
theorem dX8_readAll_17 : decode cX8_readAll 17 = .ok (.bipush 20, 2) := by decide +kernel
theorem dX8_readAll_19 : decode cX8_readAll 19 = .ok (.if_icmp .gt 44, 3) := by decide +kernel
theorem dX8_readAll_22 : decode cX8_readAll 22 = .ok (.aload_n 1, 1) := by decide +kernel
theorem dX8_readAll_23 : decode cX8_readAll 23 = .ok (.invokevirtual 60, 3) := by decide +kernel
theorem dX8_readAll_26 : decode cX8_readAll 26 = .ok (.getstatic 77, 3) := by decide +kernel
theorem dX8_readAll_29 : decode cX8_readAll 29 = .ok (.if_acmp .ne 34, 3) := by decide +kernel
theorem dX8_readAll_32 : decode cX8_readAll 32 = .ok (.aload_n 1, 1) := by decide +kernel
theorem dX8_readAll_33 : decode cX8_readAll 33 = .ok (.invokevirtual 67, 3) := by decide +kernel
theorem dX8_readAll_36 : decode cX8_readAll 36 = .ok (.aload_n 0, 1) := by decide +kernel
theorem dX8_readAll_37 : decode cX8_readAll 37 = .ok (.aload_n 1, 1) := by decide +kernel
theorem dX8_readAll_38 : decode cX8_readAll 38 = .ok (.aload_n 2, 1) := by decide +kernel
theorem dX8_readAll_39 : decode cX8_readAll 39 = .ok (.iload_n 3, 1) := by decide +kernel
theorem dX8_readAll_40 : decode cX8_readAll 40 = .ok (.invokevirtual 74, 3) := by decide +kernel
theorem dX8_readAll_43 : decode cX8_readAll 43 = .ok (.ifCond .ne 5, 3) := by decide +kernel
theorem dX8_readAll_46 : decode cX8_readAll 46 = .ok (.iconst 0, 1) := by decide +kernel
theorem dX8_readAll_47 : decode cX8_readAll 47 = .ok (.ireturn, 1) := by decide +kernel
theorem dX8_readAll_48 : decode cX8_readAll 48 = .ok (.aload_n 0, 1) := by decide +kernel
theorem dX8_readAll_49 : decode cX8_readAll 49 = .ok (.getstatic 77, 3) := by decide +kernel
theorem dX8_readAll_52 : decode cX8_readAll 52 = .ok (.iconst 0, 1) := by decide +kernel
theorem dX8_readAll_53 : decode cX8_readAll 53 = .ok (.iconst 0, 1) := by decide +kernel
theorem dX8_readAll_54 : decode cX8_readAll 54 = .ok (.invokevirtual 70, 3) := by decide +kernel
theorem dX8_readAll_57 : decode cX8_readAll 57 = .ok (.iinc 4 1, 3) := by decide +kernel
theorem dX8_readAll_60 : decode cX8_readAll 60 = .ok (.goto (-45), 3) := by decide +kernel
theorem dX8_readAll_63 : decode cX8_readAll 63 = .ok (.iconst 1, 1) := by decide +kernel
theorem dX8_readAll_64 : decode cX8_readAll 64 = .ok (.ireturn, 1) := by decide +kernel
set_option maxRecDepth 100000 in
set_option maxHeartbeats 4000000 in
theorem wfX8_readAll_15 {E : KE} {p : Program} {l : Launch} {e : Env} {s : State} {m : MethodId} {args : Array Value} {below : List Frame} {meth : Method} {c : Code} {q : (Bool × MM)} (C : mx_C E p m c cX8_readAll 5 s args RX8 meth (some .boolean)) (ro : Int32 → MM → Option (Bool × MM)) (i3 : Int32) (hT : xOK E) (h : Nat) (h_ro : Nat) (hl_ro : h_ro < h) (hy_ro : ∀ (d : Int32) (M : MM) (q : Bool × MM), ro d M = some q → mx_Met E l yX8_readOne cX8_readOne 6 (some .boolean) h_ro [.ref (E.2.1.2.1 134), .ref (E.2.1.2.1 3), .ref (E.2.1.2.1 9), .int d] M (some (.int (mx_b q.1))) q.2) (hl_h : 10 < h)   : ∀ (n : Nat) (i4 : Int32) (M : MM) (H : Heap) (locs : List Loc) (ls : Array Slot), fX8_readAll_15 ro i3 n i4 M = some q → mx_H E s M H locs → lv_has ls 5 [(0, .ref (E.2.1.2.1 134)), (1, .ref (E.2.1.2.1 3)), (2, .ref (E.2.1.2.1 9)), (3, .int i3), (4, .int i4)] → W p l e (mx_rm h) s m args below meth c H locs 0 0 (mx_Z E below args s (some (.int (mx_b q.1))) q.2) (F0 m 15 ls []) := by
  have hx := C.1.1
  have hb := C.1.2.1
  have hown := C.1.2.2.2.1
  have hts := C.1.2.2.2.2
  intro n
  induction n with
  | zero =>
    intro i4 M H locs ls hf hM hl
    rw [fX8_readAll_15] at hf
    cases hf
  | succ n ih =>
    intro i4 M H locs ls hf hM hl
    rw [fX8_readAll_15] at hf
    refine lv_iload hx hb dX8_readAll_15 (lv_at hl 4 rfl) ?_
    refine lv_bipush (v := (20 : Int32)) hx hb dX8_readAll_17 (by decide) ?_
    refine lv_icmp_gt (tgt := 63) hx hb dX8_readAll_19 (by decide) (fun hc19 => ?_) (fun hc19 => ?_)
    · replace hf := mx_ift hc19 hf
      refine lv_iconst (v := (1 : Int32)) hx hb dX8_readAll_63 (by decide) ?_
      exact mx_zret C hM (b := true) rfl hf dX8_readAll_64
    · replace hf := mx_iff hc19 hf
      refine lv_aload_n hx hb dX8_readAll_22 rfl (lv_at hl 1 rfl) ?_
      obtain ⟨q23, hq23, hf⟩ := mx_bd hf
      refine mx_callVN C hM hl.1 yo_X7_key (h' := 0) (by omega) (nw_1177 hT C) qw_549 qs_11 (ci := 7) (q := (RX7, TX7, 12)) rfl (xt_3 hT) (As := []) (rest := []) (st1 := [.ref (E.2.1.2.2.1 q23)]) (kX7_key C.2.2.2.1 hT M hq23) rfl rfl rfl (Nat.le_of_ble_eq_true rfl) dX8_readAll_23 (fun H locs hM => ?_)
      refine xw_get C hT (w := 13) (by decide) hM (hts _ qw_1208) dX8_readAll_26 ?_
      obtain ⟨hw29a, hf⟩ := mx_gd hf
      refine xw_ne (tgt := 63) C hT hw29a (by decide) dX8_readAll_29 (by decide) (fun hc29 => ?_) (fun hc29 => ?_)
      · replace hf := mx_iff hc29 hf
        refine lv_iconst (v := (1 : Int32)) hx hb dX8_readAll_63 (by decide) ?_
        exact mx_zret C hM (b := true) rfl hf dX8_readAll_64
      · replace hf := mx_ift hc29 hf
        refine lv_aload_n hx hb dX8_readAll_32 rfl (lv_at hl 1 rfl) ?_
        obtain ⟨q33, hq33, hf⟩ := mx_bd hf
        refine mx_callVN C hM hl.1 yo_X7_advance (h' := 0) (by omega) (nw_1184 hT C) qw_567 qs_14 (ci := 7) (q := (RX7, TX7, 12)) rfl (xt_3 hT) (As := []) (rest := []) (st1 := []) (kX7_advance C.2.2.2.1 hT M hq33) rfl rfl rfl (Nat.le_of_ble_eq_true rfl) dX8_readAll_33 (fun H locs hM => ?_)
        refine lv_aload_n hx hb dX8_readAll_36 rfl (lv_at hl 0 rfl) ?_
        refine lv_aload_n hx hb dX8_readAll_37 rfl (lv_at hl 1 rfl) ?_
        refine lv_aload_n hx hb dX8_readAll_38 rfl (lv_at hl 2 rfl) ?_
        refine lv_iload_n hx hb dX8_readAll_39 rfl (lv_at hl 3 rfl) ?_
        obtain ⟨q40, hq40, hf⟩ := mx_bd hf
        refine mx_callV C hM hl.1 yo_X8_readOne (h' := h_ro) hl_ro qw_1172 qw_1174 qs_99 (ci := 8) (q := (RX8, TX8, 5)) rfl (xt_134 hT) (As := [.ref (E.2.1.2.1 3), .ref (E.2.1.2.1 9), .int i3]) (rest := []) (st1 := [.int (mx_b q40.1)]) (hy_ro i3 q33 _ hq40) rfl rfl rfl (Nat.le_of_ble_eq_true rfl) dX8_readAll_40 (fun H locs hM => ?_)
        refine lv_if_ne (tgt := 48) hx hb dX8_readAll_43 (by decide) (fun hc43 => ?_) (fun hc43 => ?_)
        · replace hf := mx_iff hc43 hf
          refine lv_aload_n hx hb dX8_readAll_48 rfl (lv_at hl 0 rfl) ?_
          refine xw_get C hT (w := 13) (by decide) hM (hts _ qw_1208) dX8_readAll_49 ?_
          refine lv_iconst (v := (0 : Int32)) hx hb dX8_readAll_52 (by decide) ?_
          refine lv_iconst (v := (0 : Int32)) hx hb dX8_readAll_53 (by decide) ?_
          obtain ⟨q54, hq54, hf⟩ := mx_bd hf
          refine mx_callV C hM hl.1 yo_X8_put (h' := 0) (by omega) qw_1188 qw_1190 qs_100 (ci := 8) (q := (RX8, TX8, 5)) rfl (xt_134 hT) (As := [.ref (E.2.1.2.2.1 13), .int (0 : Int32), .int (0 : Int32)]) (rest := []) (st1 := []) (kX8_put C.2.2.2.1 13 (0 : Int32) (0 : Int32) hT q40.2 hq54) rfl rfl rfl (Nat.le_of_ble_eq_true rfl) dX8_readAll_54 (fun H locs hM => ?_)
          refine lv_iinc (v := (i4 + (1 : Int32))) (lv' := [(4, .int (i4 + (1 : Int32))), (0, .ref (E.2.1.2.1 134)), (1, .ref (E.2.1.2.1 3)), (2, .ref (E.2.1.2.1 9)), (3, .int i3)]) hx hb dX8_readAll_57 hl (k := 4) rfl rfl (by decide) rfl (fun ls hl => ?_)
          refine lv_goto (tgt := 15) hx hb dX8_readAll_60 (by decide) ?_
          exact ih (i4 + (1 : Int32)) q54 _ _ _ hf hM (lv_sub hl [1, 2, 3, 4, 0] rfl)
        · replace hf := mx_ift hc43 hf
          refine lv_iconst (v := (0 : Int32)) hx hb dX8_readAll_46 (by decide) ?_
          exact mx_zret C hM (b := false) rfl hf dX8_readAll_47
set_option maxRecDepth 100000 in
set_option maxHeartbeats 4000000 in
theorem kX8_readAll {E : KE} {l : Launch} (hE : mx_ok E) (ro : Int32 → MM → Option (Bool × MM)) (i3 : Int32) (hT : xOK E) (h : Nat) (h_ro : Nat) (hl_ro : h_ro < h) (hy_ro : ∀ (d : Int32) (M : MM) (q : Bool × MM), ro d M = some q → mx_Met E l yX8_readOne cX8_readOne 6 (some .boolean) h_ro [.ref (E.2.1.2.1 134), .ref (E.2.1.2.1 3), .ref (E.2.1.2.1 9), .int d] M (some (.int (mx_b q.1))) q.2) (hl_h : 10 < h) (M : MM) {q : (Bool × MM)} (hf : fX8_readAll ro i3 M = some q) : mx_Met E l yX8_readAll cX8_readAll 5 (some .boolean) h [.ref (E.2.1.2.1 134), .ref (E.2.1.2.1 3), .ref (E.2.1.2.1 9), .int i3] M (some (.int (mx_b q.1))) q.2 := by
  refine mx_enter hE (by decide) (Nat.le_of_ble_eq_true rfl) ?_
  intro p e s m below meth c C hM hn ls hl
  have hx := C.1.1
  have hb := C.1.2.1
  have hown := C.1.2.2.2.1
  have hts := C.1.2.2.2.2
  have hl : lv_has ls 5 [(0, .ref (E.2.1.2.1 134)), (1, .ref (E.2.1.2.1 3)), (2, .ref (E.2.1.2.1 9)), (3, .int i3)] := hl
  rw [fX8_readAll] at hf
  refine lv_aload_n hx hb dX8_readAll_0 rfl (lv_at hl 0 rfl) ?_
  refine lv_aload_n hx hb dX8_readAll_1 rfl (lv_at hl 1 rfl) ?_
  refine lv_aload_n hx hb dX8_readAll_2 rfl (lv_at hl 2 rfl) ?_
  refine lv_iload_n hx hb dX8_readAll_3 rfl (lv_at hl 3 rfl) ?_
  obtain ⟨q4, hq4, hf⟩ := mx_bd hf
  refine mx_callV C hM hl.1 yo_X8_readOne (h' := h_ro) hl_ro qw_1172 qw_1174 qs_99 (ci := 8) (q := (RX8, TX8, 5)) rfl (xt_134 hT) (As := [.ref (E.2.1.2.1 3), .ref (E.2.1.2.1 9), .int i3]) (rest := []) (st1 := [.int (mx_b q4.1)]) (hy_ro i3 M _ hq4) rfl rfl rfl (Nat.le_of_ble_eq_true rfl) dX8_readAll_4 (fun H locs hM => ?_)
  refine lv_if_ne (tgt := 12) hx hb dX8_readAll_7 (by decide) (fun hc7 => ?_) (fun hc7 => ?_)
  · replace hf := mx_iff hc7 hf
    refine lv_iconst (v := (0 : Int32)) hx hb dX8_readAll_12 (by decide) ?_
    refine lv_istore (lv' := [(4, .int (0 : Int32)), (0, .ref (E.2.1.2.1 134)), (1, .ref (E.2.1.2.1 3)), (2, .ref (E.2.1.2.1 9)), (3, .int i3)]) hx hb dX8_readAll_13 hl (by decide) rfl (fun ls hl => ?_)
    exact wfX8_readAll_15 C ro i3 hT h h_ro hl_ro hy_ro hl_h mx_fu (0 : Int32) q4.2 _ _ _ hf hM (lv_sub hl [1, 2, 3, 4, 0] rfl)
  · replace hf := mx_ift hc7 hf
    refine lv_iconst (v := (0 : Int32)) hx hb dX8_readAll_10 (by decide) ?_
    exact mx_zret C hM (b := false) rfl hf dX8_readAll_11
theorem dX8_readCond_0 : decode cX8_readCond 0 = .ok (.aload_n 0, 1) := by decide +kernel
theorem dX8_readCond_1 : decode cX8_readCond 1 = .ok (.aload_n 1, 1) := by decide +kernel
theorem dX8_readCond_2 : decode cX8_readCond 2 = .ok (.aload_n 2, 1) := by decide +kernel
theorem dX8_readCond_3 : decode cX8_readCond 3 = .ok (.iload_n 3, 1) := by decide +kernel
theorem dX8_readCond_4 : decode cX8_readCond 4 = .ok (.invokevirtual 57, 3) := by decide +kernel
theorem dX8_readCond_7 : decode cX8_readCond 7 = .ok (.ifCond .ne 5, 3) := by decide +kernel
theorem dX8_readCond_10 : decode cX8_readCond 10 = .ok (.iconst 0, 1) := by decide +kernel
theorem dX8_readCond_11 : decode cX8_readCond 11 = .ok (.ireturn, 1) := by decide +kernel
theorem dX8_readCond_12 : decode cX8_readCond 12 = .ok (.iconst 0, 1) := by decide +kernel
theorem dX8_readCond_13 : decode cX8_readCond 13 = .ok (.istore 4, 2) := by decide +kernel
theorem dX8_readCond_15 : decode cX8_readCond 15 = .ok (.iload 4, 2) := by decide +kernel
theorem dX8_readCond_17 : decode cX8_readCond 17 = .ok (.bipush 20, 2) := by decide +kernel
theorem dX8_readCond_19 : decode cX8_readCond 19 = .ok (.if_icmp .gt 44, 3) := by decide +kernel
theorem dX8_readCond_22 : decode cX8_readCond 22 = .ok (.aload_n 1, 1) := by decide +kernel
theorem dX8_readCond_23 : decode cX8_readCond 23 = .ok (.invokevirtual 60, 3) := by decide +kernel
theorem dX8_readCond_26 : decode cX8_readCond 26 = .ok (.getstatic 64, 3) := by decide +kernel
theorem dX8_readCond_29 : decode cX8_readCond 29 = .ok (.if_acmp .ne 34, 3) := by decide +kernel
theorem dX8_readCond_32 : decode cX8_readCond 32 = .ok (.aload_n 1, 1) := by decide +kernel
theorem dX8_readCond_33 : decode cX8_readCond 33 = .ok (.invokevirtual 67, 3) := by decide +kernel
theorem dX8_readCond_36 : decode cX8_readCond 36 = .ok (.aload_n 0, 1) := by decide +kernel
theorem dX8_readCond_37 : decode cX8_readCond 37 = .ok (.aload_n 1, 1) := by decide +kernel
theorem dX8_readCond_38 : decode cX8_readCond 38 = .ok (.aload_n 2, 1) := by decide +kernel
theorem dX8_readCond_39 : decode cX8_readCond 39 = .ok (.iload_n 3, 1) := by decide +kernel
theorem dX8_readCond_40 : decode cX8_readCond 40 = .ok (.invokevirtual 57, 3) := by decide +kernel
theorem dX8_readCond_43 : decode cX8_readCond 43 = .ok (.ifCond .ne 5, 3) := by decide +kernel
theorem dX8_readCond_46 : decode cX8_readCond 46 = .ok (.iconst 0, 1) := by decide +kernel
theorem dX8_readCond_47 : decode cX8_readCond 47 = .ok (.ireturn, 1) := by decide +kernel
theorem dX8_readCond_48 : decode cX8_readCond 48 = .ok (.aload_n 0, 1) := by decide +kernel
theorem dX8_readCond_49 : decode cX8_readCond 49 = .ok (.getstatic 64, 3) := by decide +kernel
theorem dX8_readCond_52 : decode cX8_readCond 52 = .ok (.iconst 0, 1) := by decide +kernel
theorem dX8_readCond_53 : decode cX8_readCond 53 = .ok (.iconst 0, 1) := by decide +kernel
theorem dX8_readCond_54 : decode cX8_readCond 54 = .ok (.invokevirtual 70, 3) := by decide +kernel
theorem dX8_readCond_57 : decode cX8_readCond 57 = .ok (.iinc 4 1, 3) := by decide +kernel
theorem dX8_readCond_60 : decode cX8_readCond 60 = .ok (.goto (-45), 3) := by decide +kernel
theorem dX8_readCond_63 : decode cX8_readCond 63 = .ok (.iconst 1, 1) := by decide +kernel
theorem dX8_readCond_64 : decode cX8_readCond 64 = .ok (.ireturn, 1) := by decide +kernel
set_option maxRecDepth 100000 in
set_option maxHeartbeats 4000000 in
theorem wfX8_readCond_15 {E : KE} {p : Program} {l : Launch} {e : Env} {s : State} {m : MethodId} {args : Array Value} {below : List Frame} {meth : Method} {c : Code} {q : (Bool × MM)} (C : mx_C E p m c cX8_readCond 5 s args RX8 meth (some .boolean)) (ra : Int32 → MM → Option (Bool × MM)) (i3 : Int32) (hT : xOK E) (h : Nat) (h_ra : Nat) (hl_ra : h_ra < h) (hy_ra : ∀ (d : Int32) (M : MM) (q : Bool × MM), ra d M = some q → mx_Met E l yX8_readAll cX8_readAll 5 (some .boolean) h_ra [.ref (E.2.1.2.1 134), .ref (E.2.1.2.1 3), .ref (E.2.1.2.1 9), .int d] M (some (.int (mx_b q.1))) q.2) (hl_h : 10 < h)   : ∀ (n : Nat) (i4 : Int32) (M : MM) (H : Heap) (locs : List Loc) (ls : Array Slot), fX8_readCond_15 ra i3 n i4 M = some q → mx_H E s M H locs → lv_has ls 5 [(0, .ref (E.2.1.2.1 134)), (1, .ref (E.2.1.2.1 3)), (2, .ref (E.2.1.2.1 9)), (3, .int i3), (4, .int i4)] → W p l e (mx_rm h) s m args below meth c H locs 0 0 (mx_Z E below args s (some (.int (mx_b q.1))) q.2) (F0 m 15 ls []) := by
  have hx := C.1.1
  have hb := C.1.2.1
  have hown := C.1.2.2.2.1
  have hts := C.1.2.2.2.2
  intro n
  induction n with
  | zero =>
    intro i4 M H locs ls hf hM hl
    rw [fX8_readCond_15] at hf
    cases hf
  | succ n ih =>
    intro i4 M H locs ls hf hM hl
    rw [fX8_readCond_15] at hf
    refine lv_iload hx hb dX8_readCond_15 (lv_at hl 4 rfl) ?_
    refine lv_bipush (v := (20 : Int32)) hx hb dX8_readCond_17 (by decide) ?_
    refine lv_icmp_gt (tgt := 63) hx hb dX8_readCond_19 (by decide) (fun hc19 => ?_) (fun hc19 => ?_)
    · replace hf := mx_ift hc19 hf
      refine lv_iconst (v := (1 : Int32)) hx hb dX8_readCond_63 (by decide) ?_
      exact mx_zret C hM (b := true) rfl hf dX8_readCond_64
    · replace hf := mx_iff hc19 hf
      refine lv_aload_n hx hb dX8_readCond_22 rfl (lv_at hl 1 rfl) ?_
      obtain ⟨q23, hq23, hf⟩ := mx_bd hf
      refine mx_callVN C hM hl.1 yo_X7_key (h' := 0) (by omega) (nw_1177 hT C) qw_549 qs_11 (ci := 7) (q := (RX7, TX7, 12)) rfl (xt_3 hT) (As := []) (rest := []) (st1 := [.ref (E.2.1.2.2.1 q23)]) (kX7_key C.2.2.2.1 hT M hq23) rfl rfl rfl (Nat.le_of_ble_eq_true rfl) dX8_readCond_23 (fun H locs hM => ?_)
      refine xw_get C hT (w := 12) (by decide) hM (hts _ qw_1210) dX8_readCond_26 ?_
      obtain ⟨hw29a, hf⟩ := mx_gd hf
      refine xw_ne (tgt := 63) C hT hw29a (by decide) dX8_readCond_29 (by decide) (fun hc29 => ?_) (fun hc29 => ?_)
      · replace hf := mx_iff hc29 hf
        refine lv_iconst (v := (1 : Int32)) hx hb dX8_readCond_63 (by decide) ?_
        exact mx_zret C hM (b := true) rfl hf dX8_readCond_64
      · replace hf := mx_ift hc29 hf
        refine lv_aload_n hx hb dX8_readCond_32 rfl (lv_at hl 1 rfl) ?_
        obtain ⟨q33, hq33, hf⟩ := mx_bd hf
        refine mx_callVN C hM hl.1 yo_X7_advance (h' := 0) (by omega) (nw_1184 hT C) qw_567 qs_14 (ci := 7) (q := (RX7, TX7, 12)) rfl (xt_3 hT) (As := []) (rest := []) (st1 := []) (kX7_advance C.2.2.2.1 hT M hq33) rfl rfl rfl (Nat.le_of_ble_eq_true rfl) dX8_readCond_33 (fun H locs hM => ?_)
        refine lv_aload_n hx hb dX8_readCond_36 rfl (lv_at hl 0 rfl) ?_
        refine lv_aload_n hx hb dX8_readCond_37 rfl (lv_at hl 1 rfl) ?_
        refine lv_aload_n hx hb dX8_readCond_38 rfl (lv_at hl 2 rfl) ?_
        refine lv_iload_n hx hb dX8_readCond_39 rfl (lv_at hl 3 rfl) ?_
        obtain ⟨q40, hq40, hf⟩ := mx_bd hf
        refine mx_callV C hM hl.1 yo_X8_readAll (h' := h_ra) hl_ra qw_1168 qw_1170 qs_98 (ci := 8) (q := (RX8, TX8, 5)) rfl (xt_134 hT) (As := [.ref (E.2.1.2.1 3), .ref (E.2.1.2.1 9), .int i3]) (rest := []) (st1 := [.int (mx_b q40.1)]) (hy_ra i3 q33 _ hq40) rfl rfl rfl (Nat.le_of_ble_eq_true rfl) dX8_readCond_40 (fun H locs hM => ?_)
        refine lv_if_ne (tgt := 48) hx hb dX8_readCond_43 (by decide) (fun hc43 => ?_) (fun hc43 => ?_)
        · replace hf := mx_iff hc43 hf
          refine lv_aload_n hx hb dX8_readCond_48 rfl (lv_at hl 0 rfl) ?_
          refine xw_get C hT (w := 12) (by decide) hM (hts _ qw_1210) dX8_readCond_49 ?_
          refine lv_iconst (v := (0 : Int32)) hx hb dX8_readCond_52 (by decide) ?_
          refine lv_iconst (v := (0 : Int32)) hx hb dX8_readCond_53 (by decide) ?_
          obtain ⟨q54, hq54, hf⟩ := mx_bd hf
          refine mx_callV C hM hl.1 yo_X8_put (h' := 0) (by omega) qw_1188 qw_1190 qs_100 (ci := 8) (q := (RX8, TX8, 5)) rfl (xt_134 hT) (As := [.ref (E.2.1.2.2.1 12), .int (0 : Int32), .int (0 : Int32)]) (rest := []) (st1 := []) (kX8_put C.2.2.2.1 12 (0 : Int32) (0 : Int32) hT q40.2 hq54) rfl rfl rfl (Nat.le_of_ble_eq_true rfl) dX8_readCond_54 (fun H locs hM => ?_)
          refine lv_iinc (v := (i4 + (1 : Int32))) (lv' := [(4, .int (i4 + (1 : Int32))), (0, .ref (E.2.1.2.1 134)), (1, .ref (E.2.1.2.1 3)), (2, .ref (E.2.1.2.1 9)), (3, .int i3)]) hx hb dX8_readCond_57 hl (k := 4) rfl rfl (by decide) rfl (fun ls hl => ?_)
          refine lv_goto (tgt := 15) hx hb dX8_readCond_60 (by decide) ?_
          exact ih (i4 + (1 : Int32)) q54 _ _ _ hf hM (lv_sub hl [1, 2, 3, 4, 0] rfl)
        · replace hf := mx_ift hc43 hf
          refine lv_iconst (v := (0 : Int32)) hx hb dX8_readCond_46 (by decide) ?_
          exact mx_zret C hM (b := false) rfl hf dX8_readCond_47
set_option maxRecDepth 100000 in
set_option maxHeartbeats 4000000 in
theorem kX8_readCond {E : KE} {l : Launch} (hE : mx_ok E) (ra : Int32 → MM → Option (Bool × MM)) (i3 : Int32) (hT : xOK E) (h : Nat) (h_ra : Nat) (hl_ra : h_ra < h) (hy_ra : ∀ (d : Int32) (M : MM) (q : Bool × MM), ra d M = some q → mx_Met E l yX8_readAll cX8_readAll 5 (some .boolean) h_ra [.ref (E.2.1.2.1 134), .ref (E.2.1.2.1 3), .ref (E.2.1.2.1 9), .int d] M (some (.int (mx_b q.1))) q.2) (hl_h : 10 < h) (M : MM) {q : (Bool × MM)} (hf : fX8_readCond ra i3 M = some q) : mx_Met E l yX8_readCond cX8_readCond 5 (some .boolean) h [.ref (E.2.1.2.1 134), .ref (E.2.1.2.1 3), .ref (E.2.1.2.1 9), .int i3] M (some (.int (mx_b q.1))) q.2 := by
  refine mx_enter hE (by decide) (Nat.le_of_ble_eq_true rfl) ?_
  intro p e s m below meth c C hM hn ls hl
  have hx := C.1.1
  have hb := C.1.2.1
  have hown := C.1.2.2.2.1
  have hts := C.1.2.2.2.2
  have hl : lv_has ls 5 [(0, .ref (E.2.1.2.1 134)), (1, .ref (E.2.1.2.1 3)), (2, .ref (E.2.1.2.1 9)), (3, .int i3)] := hl
  rw [fX8_readCond] at hf
  refine lv_aload_n hx hb dX8_readCond_0 rfl (lv_at hl 0 rfl) ?_
  refine lv_aload_n hx hb dX8_readCond_1 rfl (lv_at hl 1 rfl) ?_
  refine lv_aload_n hx hb dX8_readCond_2 rfl (lv_at hl 2 rfl) ?_
  refine lv_iload_n hx hb dX8_readCond_3 rfl (lv_at hl 3 rfl) ?_
  obtain ⟨q4, hq4, hf⟩ := mx_bd hf
  refine mx_callV C hM hl.1 yo_X8_readAll (h' := h_ra) hl_ra qw_1168 qw_1170 qs_98 (ci := 8) (q := (RX8, TX8, 5)) rfl (xt_134 hT) (As := [.ref (E.2.1.2.1 3), .ref (E.2.1.2.1 9), .int i3]) (rest := []) (st1 := [.int (mx_b q4.1)]) (hy_ra i3 M _ hq4) rfl rfl rfl (Nat.le_of_ble_eq_true rfl) dX8_readCond_4 (fun H locs hM => ?_)
  refine lv_if_ne (tgt := 12) hx hb dX8_readCond_7 (by decide) (fun hc7 => ?_) (fun hc7 => ?_)
  · replace hf := mx_iff hc7 hf
    refine lv_iconst (v := (0 : Int32)) hx hb dX8_readCond_12 (by decide) ?_
    refine lv_istore (lv' := [(4, .int (0 : Int32)), (0, .ref (E.2.1.2.1 134)), (1, .ref (E.2.1.2.1 3)), (2, .ref (E.2.1.2.1 9)), (3, .int i3)]) hx hb dX8_readCond_13 hl (by decide) rfl (fun ls hl => ?_)
    exact wfX8_readCond_15 C ra i3 hT h h_ra hl_ra hy_ra hl_h mx_fu (0 : Int32) q4.2 _ _ _ hf hM (lv_sub hl [1, 2, 3, 4, 0] rfl)
  · replace hf := mx_ift hc7 hf
    refine lv_iconst (v := (0 : Int32)) hx hb dX8_readCond_10 (by decide) ?_
    exact mx_zret C hM (b := false) rfl hf dX8_readCond_11
theorem xR1_met {E : KE} {l : Launch} (hE : mx_ok E) (hT : xOK E) : ∀ (n : Nat) (d : Int32) (M : MM) (q : Bool × MM), xR1 n d M = some q → mx_Met E l yX8_readOne cX8_readOne 6 (some .boolean) (11 + 3 * n) [.ref (E.2.1.2.1 134), .ref (E.2.1.2.1 3), .ref (E.2.1.2.1 9), .int d] M (some (.int (mx_b q.1))) q.2 := by
  intro n
  induction n with
  | zero =>
    intro d M q hf
    cases hf
  | succ n ih =>
    intro d M q hf
    exact kX8_readOne hE _ _ d hT (11 + 3 * (n + 1)) (11 + 3 * n + 2) (by omega) (fun d M q hf => kX8_readCond hE _ d hT (11 + 3 * n + 2) (11 + 3 * n + 1) (by omega) (fun d M q hf => kX8_readAll hE _ d hT (11 + 3 * n + 1) (11 + 3 * n) (by omega) ih (by omega) M hf) (by omega) M hf) (11 + 3 * n) (by omega) ih (by omega) M hf
theorem kX8_readCondT {E : KE} {l : Launch} (hE : mx_ok E) (i3 : Int32) (hT : xOK E) (M : MM) {q : Bool × MM} (hf : fX8_readCondT i3 M = some q) : mx_Met E l yX8_readCond cX8_readCond 5 (some .boolean) 75 [.ref (E.2.1.2.1 134), .ref (E.2.1.2.1 3), .ref (E.2.1.2.1 9), .int i3] M (some (.int (mx_b q.1))) q.2 :=
  kX8_readCond hE _ i3 hT 75 74 (by omega) (fun d M q hf => kX8_readAll hE _ d hT 74 (11 + 3 * 18) (by omega) (xR1_met hE hT 18) (by omega) M hf) (by omega) M hf
theorem dX8_readFrom_0 : decode cX8_readFrom 0 = .ok (.aload_n 0, 1) := by decide +kernel
theorem dX8_readFrom_1 : decode cX8_readFrom 1 = .ok (.invokevirtual 41, 3) := by decide +kernel
theorem dX8_readFrom_4 : decode cX8_readFrom 4 = .ok (.aload_n 0, 1) := by decide +kernel
theorem dX8_readFrom_5 : decode cX8_readFrom 5 = .ok (.aload_n 1, 1) := by decide +kernel
theorem dX8_readFrom_6 : decode cX8_readFrom 6 = .ok (.aload_n 2, 1) := by decide +kernel
theorem dX8_readFrom_7 : decode cX8_readFrom 7 = .ok (.iconst 1, 1) := by decide +kernel
theorem dX8_readFrom_8 : decode cX8_readFrom 8 = .ok (.invokevirtual 44, 3) := by decide +kernel
theorem dX8_readFrom_11 : decode cX8_readFrom 11 = .ok (.ifCond .ne 5, 3) := by decide +kernel
theorem dX8_readFrom_14 : decode cX8_readFrom 14 = .ok (.iconst 0, 1) := by decide +kernel
theorem dX8_readFrom_15 : decode cX8_readFrom 15 = .ok (.ireturn, 1) := by decide +kernel
theorem dX8_readFrom_16 : decode cX8_readFrom 16 = .ok (.aload_n 1, 1) := by decide +kernel
theorem dX8_readFrom_17 : decode cX8_readFrom 17 = .ok (.iconst 1, 1) := by decide +kernel
theorem dX8_readFrom_18 : decode cX8_readFrom 18 = .ok (.invokevirtual 50, 3) := by decide +kernel
theorem dX8_readFrom_21 : decode cX8_readFrom 21 = .ok (.ifCond .ne 11, 3) := by decide +kernel
theorem dX8_readFrom_24 : decode cX8_readFrom 24 = .ok (.aload_n 1, 1) := by decide +kernel
theorem dX8_readFrom_25 : decode cX8_readFrom 25 = .ok (.iconst 1, 1) := by decide +kernel
theorem dX8_readFrom_26 : decode cX8_readFrom 26 = .ok (.invokevirtual 54, 3) := by decide +kernel
theorem dX8_readFrom_29 : decode cX8_readFrom 29 = .ok (.ifCond .eq 7, 3) := by decide +kernel
theorem dX8_readFrom_32 : decode cX8_readFrom 32 = .ok (.iconst 1, 1) := by decide +kernel
theorem dX8_readFrom_33 : decode cX8_readFrom 33 = .ok (.goto 4, 3) := by decide +kernel
theorem dX8_readFrom_36 : decode cX8_readFrom 36 = .ok (.iconst 0, 1) := by decide +kernel
theorem dX8_readFrom_37 : decode cX8_readFrom 37 = .ok (.ireturn, 1) := by decide +kernel
set_option maxRecDepth 100000 in
set_option maxHeartbeats 4000000 in
theorem kX8_readFrom {E : KE} {l : Launch} (hE : mx_ok E)  (hT : xOK E) (M : MM) {q : (Bool × MM)} (hf : fX8_readFrom M = some q) : mx_Met E l yX8_readFrom cX8_readFrom 3 (some .boolean) 76 [.ref (E.2.1.2.1 134), .ref (E.2.1.2.1 3), .ref (E.2.1.2.1 9)] M (some (.int (mx_b q.1))) q.2 := by
  refine mx_enter hE (by decide) (Nat.le_of_ble_eq_true rfl) ?_
  intro p e s m below meth c C hM hn ls hl
  have hx := C.1.1
  have hb := C.1.2.1
  have hown := C.1.2.2.2.1
  have hts := C.1.2.2.2.2
  have hl : lv_has ls 3 [(0, .ref (E.2.1.2.1 134)), (1, .ref (E.2.1.2.1 3)), (2, .ref (E.2.1.2.1 9))] := hl
  rw [fX8_readFrom] at hf
  refine lv_aload_n hx hb dX8_readFrom_0 rfl (lv_at hl 0 rfl) ?_
  obtain ⟨q1, hq1, hf⟩ := mx_bd hf
  refine mx_callV C hM hl.1 yo_X8_clear (h' := 0) (by decide) qw_1163 qw_643 qs_31 (ci := 8) (q := (RX8, TX8, 5)) rfl (xt_134 hT) (As := []) (rest := []) (st1 := []) (kX8_clear C.2.2.2.1 134 hT xiN_134 M hq1) rfl rfl rfl (Nat.le_of_ble_eq_true rfl) dX8_readFrom_1 (fun H locs hM => ?_)
  refine lv_aload_n hx hb dX8_readFrom_4 rfl (lv_at hl 0 rfl) ?_
  refine lv_aload_n hx hb dX8_readFrom_5 rfl (lv_at hl 1 rfl) ?_
  refine lv_aload_n hx hb dX8_readFrom_6 rfl (lv_at hl 2 rfl) ?_
  refine lv_iconst (v := (1 : Int32)) hx hb dX8_readFrom_7 (by decide) ?_
  obtain ⟨q8, hq8, hf⟩ := mx_bd hf
  refine mx_callV C hM hl.1 yo_X8_readCond (h' := 75) (by decide) qw_1164 qw_1166 qs_97 (ci := 8) (q := (RX8, TX8, 5)) rfl (xt_134 hT) (As := [.ref (E.2.1.2.1 3), .ref (E.2.1.2.1 9), .int (1 : Int32)]) (rest := []) (st1 := [.int (mx_b q8.1)]) (kX8_readCondT C.2.2.2.1 (1 : Int32) hT q1 hq8) rfl rfl rfl (Nat.le_of_ble_eq_true rfl) dX8_readFrom_8 (fun H locs hM => ?_)
  refine lv_if_ne (tgt := 16) hx hb dX8_readFrom_11 (by decide) (fun hc11 => ?_) (fun hc11 => ?_)
  · replace hf := mx_iff hc11 hf
    refine lv_aload_n hx hb dX8_readFrom_16 rfl (lv_at hl 1 rfl) ?_
    refine lv_iconst (v := (1 : Int32)) hx hb dX8_readFrom_17 (by decide) ?_
    obtain ⟨q18, hq18, hf⟩ := mx_bd hf
    refine mx_callVN C hM hl.1 yo_X7_isAt (h' := 0) (by decide) (nw_1212 hT C) qw_539 qs_9 (ci := 7) (q := (RX7, TX7, 12)) rfl (xt_3 hT) (As := [.int (1 : Int32)]) (rest := []) (st1 := [.int (mx_b q18)]) (kX7_isAt C.2.2.2.1 (1 : Int32) hT q8.2 hq18) rfl rfl rfl (Nat.le_of_ble_eq_true rfl) dX8_readFrom_18 (fun H locs hM => ?_)
    refine lv_if_ne (tgt := 32) hx hb dX8_readFrom_21 (by decide) (fun hc21 => ?_) (fun hc21 => ?_)
    · replace hf := mx_iff hc21 hf
      refine lv_iconst (v := (1 : Int32)) hx hb dX8_readFrom_32 (by decide) ?_
      refine lv_goto (tgt := 37) hx hb dX8_readFrom_33 (by decide) ?_
      exact mx_zret C hM (b := true) rfl hf dX8_readFrom_37
    · replace hf := mx_ift hc21 hf
      refine lv_aload_n hx hb dX8_readFrom_24 rfl (lv_at hl 1 rfl) ?_
      refine lv_iconst (v := (1 : Int32)) hx hb dX8_readFrom_25 (by decide) ?_
      obtain ⟨q26, hq26, hf⟩ := mx_bd hf
      refine mx_callVN C hM hl.1 yo_X7_fail (h' := 0) (by decide) (nw_1183 hT C) qw_563 qs_13 (ci := 7) (q := (RX7, TX7, 12)) rfl (xt_3 hT) (As := [.int (1 : Int32)]) (rest := []) (st1 := [.int (mx_b q26.1)]) (kX7_fail C.2.2.2.1 (1 : Int32) hT q8.2 hq26) rfl rfl rfl (Nat.le_of_ble_eq_true rfl) dX8_readFrom_26 (fun H locs hM => ?_)
      refine lv_if_eq (tgt := 36) hx hb dX8_readFrom_29 (by decide) (fun hc29 => ?_) (fun hc29 => ?_)
      · replace hf := mx_ift hc29 hf
        refine lv_iconst (v := (0 : Int32)) hx hb dX8_readFrom_36 (by decide) ?_
        exact mx_zret C hM (b := false) rfl hf dX8_readFrom_37
      · replace hf := mx_iff hc29 hf
        refine lv_iconst (v := (1 : Int32)) hx hb dX8_readFrom_32 (by decide) ?_
        refine lv_goto (tgt := 37) hx hb dX8_readFrom_33 (by decide) ?_
        exact mx_zret C hM (b := true) rfl hf dX8_readFrom_37
  · replace hf := mx_ift hc11 hf
    refine lv_iconst (v := (0 : Int32)) hx hb dX8_readFrom_14 (by decide) ?_
    exact mx_zret C hM (b := false) rfl hf dX8_readFrom_15
theorem dX9_ringsThatWere_0 : decode cX9_ringsThatWere 0 = .ok (.aload_n 0, 1) := by decide +kernel
theorem dX9_ringsThatWere_1 : decode cX9_ringsThatWere 1 = .ok (.aload_n 0, 1) := by decide +kernel
theorem dX9_ringsThatWere_2 : decode cX9_ringsThatWere 2 = .ok (.getfield 33, 3) := by decide +kernel
theorem dX9_ringsThatWere_5 : decode cX9_ringsThatWere 5 = .ok (.iload_n 1, 1) := by decide +kernel
theorem dX9_ringsThatWere_6 : decode cX9_ringsThatWere 6 = .ok (.invokevirtual 93, 3) := by decide +kernel
theorem dX9_ringsThatWere_9 : decode cX9_ringsThatWere 9 = .ok (.ireturn, 1) := by decide +kernel
set_option maxRecDepth 100000 in
set_option maxHeartbeats 4000000 in
theorem kX9_ringsThatWere {E : KE} {l : Launch} (hE : mx_ok E) (o : Nat) (i1 : Int32) (hT : xOK E) (ho : xt_isS o = true) (M : MM) {q : Int32} (hf : fX9_ringsThatWere o i1 M = some q) : mx_Met E l yX9_ringsThatWere cX9_ringsThatWere 2 (some .int) 1 [.ref (E.2.1.2.1 o), .int i1] M (some (.int q)) M := by
  refine mx_enter hE (by decide) (Nat.le_of_ble_eq_true rfl) ?_
  intro p e s m below meth c C hM hn ls hl
  have hx := C.1.1
  have hb := C.1.2.1
  have hown := C.1.2.2.2.1
  have hts := C.1.2.2.2.2
  have hl : lv_has ls 2 [(0, .ref (E.2.1.2.1 o)), (1, .int i1)] := hl
  rw [fX9_ringsThatWere] at hf
  refine lv_aload_n hx hb dX9_ringsThatWere_0 rfl (lv_at hl 0 rfl) ?_
  refine lv_aload_n hx hb dX9_ringsThatWere_1 rfl (lv_at hl 0 rfl) ?_
  refine gX9_33 C hM (xoS hT ho) (f := (2, o + 8)) rfl (v := .ref (E.2.1.2.1 (o + 8))) rfl dX9_ringsThatWere_2 ?_
  refine lv_iload_n hx hb dX9_ringsThatWere_5 rfl (lv_at hl 1 rfl) ?_
  obtain ⟨q6, hq6, hf⟩ := mx_bd hf
  refine mx_callV C hM hl.1 yo_X9_ringsWith (h' := 0) (by decide) qw_677 qw_679 qs_37 (ci := 9) (q := (RX9, TX9, 13)) rfl (xoS hT ho) (As := [.ref (E.2.1.2.1 (o + 8)), .int i1]) (rest := []) (st1 := [.int q6]) (kX9_ringsWith C.2.2.2.1 o (o + 8) i1 hT ho (xaS_8 hT ho) M hq6) rfl rfl rfl (Nat.le_of_ble_eq_true rfl) dX9_ringsThatWere_6 (fun H locs hM => ?_)
  exact mx_iretR C hM hf dX9_ringsThatWere_9
theorem dX8_isHappy_0 : decode cX8_isHappy 0 = .ok (.aload_n 0, 1) := by decide +kernel
theorem dX8_isHappy_1 : decode cX8_isHappy 1 = .ok (.getfield 152, 3) := by decide +kernel
theorem dX8_isHappy_4 : decode cX8_isHappy 4 = .ok (.iload_n 1, 1) := by decide +kernel
theorem dX8_isHappy_5 : decode cX8_isHappy 5 = .ok (.invokevirtual 156, 3) := by decide +kernel
theorem dX8_isHappy_8 : decode cX8_isHappy 8 = .ok (.istore_n 2, 1) := by decide +kernel
theorem dX8_isHappy_9 : decode cX8_isHappy 9 = .ok (.iload_n 2, 1) := by decide +kernel
theorem dX8_isHappy_10 : decode cX8_isHappy 10 = .ok (.aload_n 0, 1) := by decide +kernel
theorem dX8_isHappy_11 : decode cX8_isHappy 11 = .ok (.iconst 1, 1) := by decide +kernel
theorem dX8_isHappy_12 : decode cX8_isHappy 12 = .ok (.invokevirtual 182, 3) := by decide +kernel
theorem dX8_isHappy_15 : decode cX8_isHappy 15 = .ok (.iand, 1) := by decide +kernel
theorem dX8_isHappy_16 : decode cX8_isHappy 16 = .ok (.ifCond .eq 7, 3) := by decide +kernel
theorem dX8_isHappy_19 : decode cX8_isHappy 19 = .ok (.iconst 1, 1) := by decide +kernel
theorem dX8_isHappy_20 : decode cX8_isHappy 20 = .ok (.goto 4, 3) := by decide +kernel
theorem dX8_isHappy_23 : decode cX8_isHappy 23 = .ok (.iconst 0, 1) := by decide +kernel
theorem dX8_isHappy_24 : decode cX8_isHappy 24 = .ok (.istore_n 3, 1) := by decide +kernel
theorem dX8_isHappy_25 : decode cX8_isHappy 25 = .ok (.iload_n 3, 1) := by decide +kernel
theorem dX8_isHappy_26 : decode cX8_isHappy 26 = .ok (.ifCond .eq 17, 3) := by decide +kernel
theorem dX8_isHappy_29 : decode cX8_isHappy 29 = .ok (.iload_n 2, 1) := by decide +kernel
theorem dX8_isHappy_30 : decode cX8_isHappy 30 = .ok (.aload_n 0, 1) := by decide +kernel
theorem dX8_isHappy_31 : decode cX8_isHappy 31 = .ok (.iconst 2, 1) := by decide +kernel
theorem dX8_isHappy_32 : decode cX8_isHappy 32 = .ok (.invokevirtual 182, 3) := by decide +kernel
theorem dX8_isHappy_35 : decode cX8_isHappy 35 = .ok (.iand, 1) := by decide +kernel
theorem dX8_isHappy_36 : decode cX8_isHappy 36 = .ok (.ifCond .ne 7, 3) := by decide +kernel
theorem dX8_isHappy_39 : decode cX8_isHappy 39 = .ok (.iconst 1, 1) := by decide +kernel
theorem dX8_isHappy_40 : decode cX8_isHappy 40 = .ok (.goto 4, 3) := by decide +kernel
theorem dX8_isHappy_43 : decode cX8_isHappy 43 = .ok (.iconst 0, 1) := by decide +kernel
theorem dX8_isHappy_44 : decode cX8_isHappy 44 = .ok (.ireturn, 1) := by decide +kernel
set_option maxRecDepth 100000 in
set_option maxHeartbeats 4000000 in
theorem wfX8_isHappy_24 {E : KE} {p : Program} {l : Launch} {e : Env} {s : State} {m : MethodId} {args : Array Value} {below : List Frame} {meth : Method} {c : Code} {q : Bool} (C : mx_C E p m c cX8_isHappy 4 s args RX8 meth (some .boolean)) (i1 : Int32) (M : MM) (hT : xOK E)   : ∀ (i2 : Int32) (bs0 : Bool) (H : Heap) (locs : List Loc) (ls : Array Slot), fX8_isHappy_24 i1 M i2 bs0 = some q → mx_H E s M H locs → lv_has ls 4 [(0, .ref (E.2.1.2.1 29)), (2, .int i2)] → W p l e (mx_rm 2) s m args below meth c H locs 0 0 (mx_Z E below args s (some (.int (mx_b q))) M) (F0 m 24 ls [.int (mx_b bs0)]) := by
  have hx := C.1.1
  have hb := C.1.2.1
  have hown := C.1.2.2.2.1
  have hts := C.1.2.2.2.2
  intro i2 bs0 H locs ls hf hM hl
  rw [fX8_isHappy_24] at hf
  refine lv_istore_n (lv' := [(3, .int (mx_b bs0)), (0, .ref (E.2.1.2.1 29)), (2, .int i2)]) hx hb dX8_isHappy_24 rfl hl (by decide) rfl (fun ls hl => ?_)
  refine lv_iload_n hx hb dX8_isHappy_25 rfl (lv_at hl 0 rfl) ?_
  refine lv_if_eq (tgt := 43) hx hb dX8_isHappy_26 (by decide) (fun hc26 => ?_) (fun hc26 => ?_)
  · replace hf := mx_ift hc26 hf
    refine lv_iconst (v := (0 : Int32)) hx hb dX8_isHappy_43 (by decide) ?_
    exact mx_zretR C hM (b := false) rfl hf dX8_isHappy_44
  · replace hf := mx_iff hc26 hf
    refine lv_iload_n hx hb dX8_isHappy_29 rfl (lv_at hl 2 rfl) ?_
    refine lv_aload_n hx hb dX8_isHappy_30 rfl (lv_at hl 1 rfl) ?_
    refine lv_iconst (v := (2 : Int32)) hx hb dX8_isHappy_31 (by decide) ?_
    obtain ⟨q32, hq32, hf⟩ := mx_bd hf
    refine mx_callVN C hM hl.1 yo_X9_ringsThatWere (h' := 1) (by decide) (nw_1238 hT C) qw_683 qs_38 (ci := 9) (q := (RX9, TX9, 13)) rfl (xt_29 hT) (As := [.int (2 : Int32)]) (rest := [.int i2]) (st1 := [.int q32, .int i2]) (kX9_ringsThatWere C.2.2.2.1 29 (2 : Int32) hT xiS_29 M hq32) rfl rfl rfl (Nat.le_of_ble_eq_true rfl) dX8_isHappy_32 (fun H locs hM => ?_)
    refine lv_iand hx hb dX8_isHappy_35 ?_
    refine lv_if_ne (tgt := 43) hx hb dX8_isHappy_36 (by decide) (fun hc36 => ?_) (fun hc36 => ?_)
    · replace hf := mx_iff hc36 hf
      refine lv_iconst (v := (0 : Int32)) hx hb dX8_isHappy_43 (by decide) ?_
      exact mx_zretR C hM (b := false) rfl hf dX8_isHappy_44
    · replace hf := mx_ift hc36 hf
      refine lv_iconst (v := (1 : Int32)) hx hb dX8_isHappy_39 (by decide) ?_
      refine lv_goto (tgt := 44) hx hb dX8_isHappy_40 (by decide) ?_
      exact mx_zretR C hM (b := true) rfl hf dX8_isHappy_44
set_option maxRecDepth 100000 in
set_option maxHeartbeats 4000000 in
theorem kX8_isHappy {E : KE} {l : Launch} (hE : mx_ok E) (i1 : Int32) (hT : xOK E) (M : MM) {q : Bool} (hf : fX8_isHappy i1 M = some q) : mx_Met E l yX8_isHappy cX8_isHappy 4 (some .boolean) 2 [.ref (E.2.1.2.1 29), .int i1] M (some (.int (mx_b q))) M := by
  refine mx_enter hE (by decide) (Nat.le_of_ble_eq_true rfl) ?_
  intro p e s m below meth c C hM hn ls hl
  have hx := C.1.1
  have hb := C.1.2.1
  have hown := C.1.2.2.2.1
  have hts := C.1.2.2.2.2
  have hl : lv_has ls 4 [(0, .ref (E.2.1.2.1 29)), (1, .int i1)] := hl
  rw [fX8_isHappy] at hf
  refine lv_aload_n hx hb dX8_isHappy_0 rfl (lv_at hl 0 rfl) ?_
  refine gX8_152 C hT hM (xt_29 hT) (f := (2, 9)) rfl (v := .ref (E.2.1.2.1 9)) rfl dX8_isHappy_1 ?_
  refine lv_iload_n hx hb dX8_isHappy_4 rfl (lv_at hl 1 rfl) ?_
  obtain ⟨q5, hq5, hf⟩ := mx_bd hf
  refine mx_callVN C hM hl.1 yo_X3_ownedBy (h' := 0) (by decide) (nw_1234 hT C) qw_1236 qs_106 (ci := 3) (q := (RX3, TX3, 18)) rfl (xt_9 hT) (As := [.int i1]) (rest := []) (st1 := [.int q5]) (kX3_ownedBy C.2.2.2.1 i1 hT M hq5) rfl rfl rfl (Nat.le_of_ble_eq_true rfl) dX8_isHappy_5 (fun H locs hM => ?_)
  refine lv_istore_n (lv' := [(2, .int q5), (0, .ref (E.2.1.2.1 29)), (1, .int i1)]) hx hb dX8_isHappy_8 rfl hl (by decide) rfl (fun ls hl => ?_)
  refine lv_iload_n hx hb dX8_isHappy_9 rfl (lv_at hl 0 rfl) ?_
  refine lv_aload_n hx hb dX8_isHappy_10 rfl (lv_at hl 1 rfl) ?_
  refine lv_iconst (v := (1 : Int32)) hx hb dX8_isHappy_11 (by decide) ?_
  obtain ⟨q12, hq12, hf⟩ := mx_bd hf
  refine mx_callVN C hM hl.1 yo_X9_ringsThatWere (h' := 1) (by decide) (nw_1238 hT C) qw_683 qs_38 (ci := 9) (q := (RX9, TX9, 13)) rfl (xt_29 hT) (As := [.int (1 : Int32)]) (rest := [.int q5]) (st1 := [.int q12, .int q5]) (kX9_ringsThatWere C.2.2.2.1 29 (1 : Int32) hT xiS_29 M hq12) rfl rfl rfl (Nat.le_of_ble_eq_true rfl) dX8_isHappy_12 (fun H locs hM => ?_)
  refine lv_iand hx hb dX8_isHappy_15 ?_
  refine lv_if_eq (tgt := 23) hx hb dX8_isHappy_16 (by decide) (fun hc16 => ?_) (fun hc16 => ?_)
  · replace hf := mx_ift hc16 hf
    refine lv_iconst (v := (0 : Int32)) hx hb dX8_isHappy_23 (by decide) ?_
    exact wfX8_isHappy_24 C i1 M hT q5 false _ _ _ hf hM (lv_sub hl [1, 0] rfl)
  · replace hf := mx_iff hc16 hf
    refine lv_iconst (v := (1 : Int32)) hx hb dX8_isHappy_19 (by decide) ?_
    refine lv_goto (tgt := 24) hx hb dX8_isHappy_20 (by decide) ?_
    exact wfX8_isHappy_24 C i1 M hT q5 true _ _ _ hf hM (lv_sub hl [1, 0] rfl)
theorem dX9_hasRing_0 : decode cX9_hasRing 0 = .ok (.aload_n 0, 1) := by decide +kernel
theorem dX9_hasRing_1 : decode cX9_hasRing 1 = .ok (.getfield 36, 3) := by decide +kernel
theorem dX9_hasRing_4 : decode cX9_hasRing 4 = .ok (.iload_n 2, 1) := by decide +kernel
theorem dX9_hasRing_5 : decode cX9_hasRing 5 = .ok (.invokevirtual 83, 3) := by decide +kernel
theorem dX9_hasRing_8 : decode cX9_hasRing 8 = .ok (.ifCond .eq 17, 3) := by decide +kernel
theorem dX9_hasRing_11 : decode cX9_hasRing 11 = .ok (.aload_n 0, 1) := by decide +kernel
theorem dX9_hasRing_12 : decode cX9_hasRing 12 = .ok (.getfield 21, 3) := by decide +kernel
theorem dX9_hasRing_15 : decode cX9_hasRing 15 = .ok (.iload_n 2, 1) := by decide +kernel
theorem dX9_hasRing_16 : decode cX9_hasRing 16 = .ok (.iaload, 1) := by decide +kernel
theorem dX9_hasRing_17 : decode cX9_hasRing 17 = .ok (.iload_n 1, 1) := by decide +kernel
theorem dX9_hasRing_18 : decode cX9_hasRing 18 = .ok (.if_icmp .ne 7, 3) := by decide +kernel
theorem dX9_hasRing_21 : decode cX9_hasRing 21 = .ok (.iconst 1, 1) := by decide +kernel
theorem dX9_hasRing_22 : decode cX9_hasRing 22 = .ok (.goto 4, 3) := by decide +kernel
theorem dX9_hasRing_25 : decode cX9_hasRing 25 = .ok (.iconst 0, 1) := by decide +kernel
theorem dX9_hasRing_26 : decode cX9_hasRing 26 = .ok (.ireturn, 1) := by decide +kernel
set_option maxRecDepth 100000 in
set_option maxHeartbeats 4000000 in
theorem kX9_hasRing {E : KE} {l : Launch} (hE : mx_ok E) (o : Nat) (i1 : Int32) (i2 : Int32) (hT : xOK E) (ho : xt_isS o = true) (M : MM) {q : Bool} (hf : fX9_hasRing o i1 i2 M = some q) : mx_Met E l yX9_hasRing cX9_hasRing 3 (some .boolean) 1 [.ref (E.2.1.2.1 o), .int i1, .int i2] M (some (.int (mx_b q))) M := by
  refine mx_enter hE (by decide) (Nat.le_of_ble_eq_true rfl) ?_
  intro p e s m below meth c C hM hn ls hl
  have hx := C.1.1
  have hb := C.1.2.1
  have hown := C.1.2.2.2.1
  have hts := C.1.2.2.2.2
  have hl : lv_has ls 3 [(0, .ref (E.2.1.2.1 o)), (1, .int i1), (2, .int i2)] := hl
  rw [fX9_hasRing] at hf
  refine lv_aload_n hx hb dX9_hasRing_0 rfl (lv_at hl 0 rfl) ?_
  refine gX9_36 C hM (xoS hT ho) (f := (2, 9)) rfl (v := .ref (E.2.1.2.1 9)) rfl dX9_hasRing_1 ?_
  refine lv_iload_n hx hb dX9_hasRing_4 rfl (lv_at hl 2 rfl) ?_
  obtain ⟨q5, hq5, hf⟩ := mx_bd hf
  refine mx_callVN C hM hl.1 yo_X3_isRing (h' := 0) (by decide) (nw_1243 hT C) qw_659 qs_33 (ci := 3) (q := (RX3, TX3, 18)) rfl (xt_9 hT) (As := [.int i2]) (rest := []) (st1 := [.int (mx_b q5)]) (kX3_isRing C.2.2.2.1 i2 hT M hq5) rfl rfl rfl (Nat.le_of_ble_eq_true rfl) dX9_hasRing_5 (fun H locs hM => ?_)
  refine lv_if_eq (tgt := 25) hx hb dX9_hasRing_8 (by decide) (fun hc8 => ?_) (fun hc8 => ?_)
  · replace hf := mx_ift hc8 hf
    refine lv_iconst (v := (0 : Int32)) hx hb dX9_hasRing_25 (by decide) ?_
    exact mx_zretR C hM (b := false) rfl hf dX9_hasRing_26
  · replace hf := mx_iff hc8 hf
    refine lv_aload_n hx hb dX9_hasRing_11 rfl (lv_at hl 0 rfl) ?_
    refine gX9_21 C hM (xoS hT ho) (f := (2, o + 4)) rfl (v := .ref (E.2.1.2.1 (o + 4))) rfl dX9_hasRing_12 ?_
    refine lv_iload_n hx hb dX9_hasRing_15 rfl (lv_at hl 2 rfl) ?_
    obtain ⟨hg16, hf⟩ := mx_gd hf
    refine mx_iald C hM (xaS_4 hT ho) (mx_in_vp hg16) dX9_hasRing_16 ?_
    refine lv_iload_n hx hb dX9_hasRing_17 rfl (lv_at hl 1 rfl) ?_
    refine lv_icmp_ne (tgt := 25) hx hb dX9_hasRing_18 (by decide) (fun hc18 => ?_) (fun hc18 => ?_)
    · replace hf := mx_iff hc18 hf
      refine lv_iconst (v := (0 : Int32)) hx hb dX9_hasRing_25 (by decide) ?_
      exact mx_zretR C hM (b := false) rfl hf dX9_hasRing_26
    · replace hf := mx_ift hc18 hf
      refine lv_iconst (v := (1 : Int32)) hx hb dX9_hasRing_21 (by decide) ?_
      refine lv_goto (tgt := 26) hx hb dX9_hasRing_22 (by decide) ?_
      exact mx_zretR C hM (b := true) rfl hf dX9_hasRing_26
theorem dX8_compares_0 : decode cX8_compares 0 = .ok (.aload_n 0, 1) := by decide +kernel
theorem dX8_compares_1 : decode cX8_compares 1 = .ok (.getfield 17, 3) := by decide +kernel
theorem dX8_compares_4 : decode cX8_compares 4 = .ok (.iload_n 2, 1) := by decide +kernel
theorem dX8_compares_5 : decode cX8_compares 5 = .ok (.iaload, 1) := by decide +kernel
theorem dX8_compares_6 : decode cX8_compares 6 = .ok (.lookupswitch 58 #[(60, 26), (61, 42)], 26) := by decide +kernel
theorem dX8_compares_32 : decode cX8_compares 32 = .ok (.iload_n 1, 1) := by decide +kernel
theorem dX8_compares_33 : decode cX8_compares 33 = .ok (.aload_n 0, 1) := by decide +kernel
theorem dX8_compares_34 : decode cX8_compares 34 = .ok (.getfield 21, 3) := by decide +kernel
theorem dX8_compares_37 : decode cX8_compares 37 = .ok (.iload_n 2, 1) := by decide +kernel
theorem dX8_compares_38 : decode cX8_compares 38 = .ok (.iaload, 1) := by decide +kernel
theorem dX8_compares_39 : decode cX8_compares 39 = .ok (.if_icmp .ge 7, 3) := by decide +kernel
theorem dX8_compares_42 : decode cX8_compares 42 = .ok (.iconst 1, 1) := by decide +kernel
theorem dX8_compares_43 : decode cX8_compares 43 = .ok (.goto 4, 3) := by decide +kernel
theorem dX8_compares_46 : decode cX8_compares 46 = .ok (.iconst 0, 1) := by decide +kernel
theorem dX8_compares_47 : decode cX8_compares 47 = .ok (.ireturn, 1) := by decide +kernel
theorem dX8_compares_48 : decode cX8_compares 48 = .ok (.iload_n 1, 1) := by decide +kernel
theorem dX8_compares_49 : decode cX8_compares 49 = .ok (.aload_n 0, 1) := by decide +kernel
theorem dX8_compares_50 : decode cX8_compares 50 = .ok (.getfield 21, 3) := by decide +kernel
theorem dX8_compares_53 : decode cX8_compares 53 = .ok (.iload_n 2, 1) := by decide +kernel
theorem dX8_compares_54 : decode cX8_compares 54 = .ok (.iaload, 1) := by decide +kernel
theorem dX8_compares_55 : decode cX8_compares 55 = .ok (.if_icmp .ne 7, 3) := by decide +kernel
theorem dX8_compares_58 : decode cX8_compares 58 = .ok (.iconst 1, 1) := by decide +kernel
theorem dX8_compares_59 : decode cX8_compares 59 = .ok (.goto 4, 3) := by decide +kernel
theorem dX8_compares_62 : decode cX8_compares 62 = .ok (.iconst 0, 1) := by decide +kernel
theorem dX8_compares_63 : decode cX8_compares 63 = .ok (.ireturn, 1) := by decide +kernel
theorem dX8_compares_64 : decode cX8_compares 64 = .ok (.iload_n 1, 1) := by decide +kernel
theorem dX8_compares_65 : decode cX8_compares 65 = .ok (.aload_n 0, 1) := by decide +kernel
theorem dX8_compares_66 : decode cX8_compares 66 = .ok (.getfield 21, 3) := by decide +kernel
theorem dX8_compares_69 : decode cX8_compares 69 = .ok (.iload_n 2, 1) := by decide +kernel
theorem dX8_compares_70 : decode cX8_compares 70 = .ok (.iaload, 1) := by decide +kernel
theorem dX8_compares_71 : decode cX8_compares 71 = .ok (.if_icmp .le 7, 3) := by decide +kernel
theorem dX8_compares_74 : decode cX8_compares 74 = .ok (.iconst 1, 1) := by decide +kernel
theorem dX8_compares_75 : decode cX8_compares 75 = .ok (.goto 4, 3) := by decide +kernel
theorem dX8_compares_78 : decode cX8_compares 78 = .ok (.iconst 0, 1) := by decide +kernel
theorem dX8_compares_79 : decode cX8_compares 79 = .ok (.ireturn, 1) := by decide +kernel
set_option maxRecDepth 100000 in
set_option maxHeartbeats 4000000 in
theorem kX8_compares {E : KE} {l : Launch} (hE : mx_ok E) (i1 : Int32) (i2 : Int32) (hT : xOK E) (M : MM) {q : Bool} (hf : fX8_compares i1 i2 M = some q) : mx_Met E l yX8_compares cX8_compares 3 (some .boolean) 0 [.ref (E.2.1.2.1 130), .int i1, .int i2] M (some (.int (mx_b q))) M := by
  refine mx_enter hE (by decide) (Nat.le_of_ble_eq_true rfl) ?_
  intro p e s m below meth c C hM hn ls hl
  have hx := C.1.1
  have hb := C.1.2.1
  have hown := C.1.2.2.2.1
  have hts := C.1.2.2.2.2
  have hl : lv_has ls 3 [(0, .ref (E.2.1.2.1 130)), (1, .int i1), (2, .int i2)] := hl
  rw [fX8_compares] at hf
  refine lv_aload_n hx hb dX8_compares_0 rfl (lv_at hl 0 rfl) ?_
  refine gX8_17 C hM (xt_130 hT) (f := (2, 132)) rfl (v := .ref (E.2.1.2.1 132)) rfl dX8_compares_1 ?_
  refine lv_iload_n hx hb dX8_compares_4 rfl (lv_at hl 2 rfl) ?_
  obtain ⟨hg5, hf⟩ := mx_gd hf
  refine mx_iald C hM (xt_132 hT) (mx_in_vp hg5) dX8_compares_5 ?_
  by_cases hs0 : (M.1 132 i2.toNatClampNeg) = 60
  · replace hf := mx_ift hs0 hf
    refine lv_lookup (tgt := 32) hx hb dX8_compares_6 (by decide) (by rw [hs0] <;> rfl) (by decide) ?_
    refine lv_iload_n hx hb dX8_compares_32 rfl (lv_at hl 1 rfl) ?_
    refine lv_aload_n hx hb dX8_compares_33 rfl (lv_at hl 0 rfl) ?_
    refine gX8_21 C hM (xt_130 hT) (f := (2, 133)) rfl (v := .ref (E.2.1.2.1 133)) rfl dX8_compares_34 ?_
    refine lv_iload_n hx hb dX8_compares_37 rfl (lv_at hl 2 rfl) ?_
    obtain ⟨hg38, hf⟩ := mx_gd hf
    refine mx_iald C hM (xt_133 hT) (mx_in_vp hg38) dX8_compares_38 ?_
    refine lv_icmp_ge (tgt := 46) hx hb dX8_compares_39 (by decide) (fun hc39 => ?_) (fun hc39 => ?_)
    · replace hf := mx_ift hc39 hf
      refine lv_iconst (v := (0 : Int32)) hx hb dX8_compares_46 (by decide) ?_
      exact mx_zretR C hM (b := false) rfl hf dX8_compares_47
    · replace hf := mx_iff hc39 hf
      refine lv_iconst (v := (1 : Int32)) hx hb dX8_compares_42 (by decide) ?_
      refine lv_goto (tgt := 47) hx hb dX8_compares_43 (by decide) ?_
      exact mx_zretR C hM (b := true) rfl hf dX8_compares_47
  replace hf := mx_iff hs0 hf
  by_cases hs1 : (M.1 132 i2.toNatClampNeg) = 61
  · replace hf := mx_ift hs1 hf
    refine lv_lookup (tgt := 48) hx hb dX8_compares_6 (by decide) (by rw [hs1] <;> rfl) (by decide) ?_
    refine lv_iload_n hx hb dX8_compares_48 rfl (lv_at hl 1 rfl) ?_
    refine lv_aload_n hx hb dX8_compares_49 rfl (lv_at hl 0 rfl) ?_
    refine gX8_21 C hM (xt_130 hT) (f := (2, 133)) rfl (v := .ref (E.2.1.2.1 133)) rfl dX8_compares_50 ?_
    refine lv_iload_n hx hb dX8_compares_53 rfl (lv_at hl 2 rfl) ?_
    obtain ⟨hg54, hf⟩ := mx_gd hf
    refine mx_iald C hM (xt_133 hT) (mx_in_vp hg54) dX8_compares_54 ?_
    refine lv_icmp_ne (tgt := 62) hx hb dX8_compares_55 (by decide) (fun hc55 => ?_) (fun hc55 => ?_)
    · replace hf := mx_iff hc55 hf
      refine lv_iconst (v := (0 : Int32)) hx hb dX8_compares_62 (by decide) ?_
      exact mx_zretR C hM (b := false) rfl hf dX8_compares_63
    · replace hf := mx_ift hc55 hf
      refine lv_iconst (v := (1 : Int32)) hx hb dX8_compares_58 (by decide) ?_
      refine lv_goto (tgt := 63) hx hb dX8_compares_59 (by decide) ?_
      exact mx_zretR C hM (b := true) rfl hf dX8_compares_63
  replace hf := mx_iff hs1 hf
  refine lv_lookup (tgt := 64) (off := 58) hx hb dX8_compares_6 (by decide) (by rw [lv_osw hs0 (by decide), lv_osw hs1 (by decide)] <;> rfl) (by decide) ?_
  refine lv_iload_n hx hb dX8_compares_64 rfl (lv_at hl 1 rfl) ?_
  refine lv_aload_n hx hb dX8_compares_65 rfl (lv_at hl 0 rfl) ?_
  refine gX8_21 C hM (xt_130 hT) (f := (2, 133)) rfl (v := .ref (E.2.1.2.1 133)) rfl dX8_compares_66 ?_
  refine lv_iload_n hx hb dX8_compares_69 rfl (lv_at hl 2 rfl) ?_
  obtain ⟨hg70, hf⟩ := mx_gd hf
  refine mx_iald C hM (xt_133 hT) (mx_in_vp hg70) dX8_compares_70 ?_
  refine lv_icmp_le (tgt := 78) hx hb dX8_compares_71 (by decide) (fun hc71 => ?_) (fun hc71 => ?_)
  · replace hf := mx_ift hc71 hf
    refine lv_iconst (v := (0 : Int32)) hx hb dX8_compares_78 (by decide) ?_
    exact mx_zretR C hM (b := false) rfl hf dX8_compares_79
  · replace hf := mx_iff hc71 hf
    refine lv_iconst (v := (1 : Int32)) hx hb dX8_compares_74 (by decide) ?_
    refine lv_goto (tgt := 79) hx hb dX8_compares_75 (by decide) ?_
    exact mx_zretR C hM (b := true) rfl hf dX8_compares_79
theorem dX8_isSo_0 : decode cX8_isSo 0 = .ok (.getstatic 98, 3) := by decide +kernel
theorem dX8_isSo_3 : decode cX8_isSo 3 = .ok (.aload_n 0, 1) := by decide +kernel
theorem dX8_isSo_4 : decode cX8_isSo 4 = .ok (.getfield 13, 3) := by decide +kernel
theorem dX8_isSo_7 : decode cX8_isSo 7 = .ok (.iload_n 3, 1) := by decide +kernel
theorem dX8_isSo_8 : decode cX8_isSo 8 = .ok (.aaload, 1) := by decide +kernel
theorem dX8_isSo_9 : decode cX8_isSo 9 = .ok (.invokevirtual 103, 3) := by decide +kernel
theorem dX8_isSo_12 : decode cX8_isSo 12 = .ok (.iaload, 1) := by decide +kernel
theorem dX8_isSo_13 : decode cX8_isSo 13 = .ok (.tableswitch 161 12 20 #[51, 66, 72, 89, 101, 113, 127, 139, 154], 51) := by decide +kernel
theorem dX8_isSo_64 : decode cX8_isSo 64 = .ok (.aload_n 1, 1) := by decide +kernel
theorem dX8_isSo_65 : decode cX8_isSo 65 = .ok (.iload_n 2, 1) := by decide +kernel
theorem dX8_isSo_66 : decode cX8_isSo 66 = .ok (.invokevirtual 142, 3) := by decide +kernel
theorem dX8_isSo_69 : decode cX8_isSo 69 = .ok (.iconst (-1), 1) := by decide +kernel
theorem dX8_isSo_70 : decode cX8_isSo 70 = .ok (.if_icmp .eq 7, 3) := by decide +kernel
theorem dX8_isSo_73 : decode cX8_isSo 73 = .ok (.iconst 1, 1) := by decide +kernel
theorem dX8_isSo_74 : decode cX8_isSo 74 = .ok (.goto 4, 3) := by decide +kernel
theorem dX8_isSo_77 : decode cX8_isSo 77 = .ok (.iconst 0, 1) := by decide +kernel
theorem dX8_isSo_78 : decode cX8_isSo 78 = .ok (.ireturn, 1) := by decide +kernel
theorem dX8_isSo_79 : decode cX8_isSo 79 = .ok (.aload_n 1, 1) := by decide +kernel
theorem dX8_isSo_80 : decode cX8_isSo 80 = .ok (.iload_n 2, 1) := by decide +kernel
theorem dX8_isSo_81 : decode cX8_isSo 81 = .ok (.invokestatic 148, 3) := by decide +kernel
theorem dX8_isSo_84 : decode cX8_isSo 84 = .ok (.ireturn, 1) := by decide +kernel
theorem dX8_isSo_85 : decode cX8_isSo 85 = .ok (.aload_n 1, 1) := by decide +kernel
theorem dX8_isSo_86 : decode cX8_isSo 86 = .ok (.getfield 152, 3) := by decide +kernel
theorem dX8_isSo_89 : decode cX8_isSo 89 = .ok (.iload_n 2, 1) := by decide +kernel
theorem dX8_isSo_90 : decode cX8_isSo 90 = .ok (.invokevirtual 156, 3) := by decide +kernel
theorem dX8_isSo_93 : decode cX8_isSo 93 = .ok (.ifCond .ne 7, 3) := by decide +kernel
theorem dX8_isSo_96 : decode cX8_isSo 96 = .ok (.iconst 1, 1) := by decide +kernel
theorem dX8_isSo_97 : decode cX8_isSo 97 = .ok (.goto 4, 3) := by decide +kernel
theorem dX8_isSo_100 : decode cX8_isSo 100 = .ok (.iconst 0, 1) := by decide +kernel
theorem dX8_isSo_101 : decode cX8_isSo 101 = .ok (.ireturn, 1) := by decide +kernel
theorem dX8_isSo_102 : decode cX8_isSo 102 = .ok (.aload_n 1, 1) := by decide +kernel
theorem dX8_isSo_103 : decode cX8_isSo 103 = .ok (.iload_n 2, 1) := by decide +kernel
theorem dX8_isSo_104 : decode cX8_isSo 104 = .ok (.aload_n 0, 1) := by decide +kernel
theorem dX8_isSo_105 : decode cX8_isSo 105 = .ok (.getfield 21, 3) := by decide +kernel
theorem dX8_isSo_108 : decode cX8_isSo 108 = .ok (.iload_n 3, 1) := by decide +kernel
theorem dX8_isSo_109 : decode cX8_isSo 109 = .ok (.iaload, 1) := by decide +kernel
theorem dX8_isSo_110 : decode cX8_isSo 110 = .ok (.invokevirtual 159, 3) := by decide +kernel
theorem dX8_isSo_113 : decode cX8_isSo 113 = .ok (.ireturn, 1) := by decide +kernel
theorem dX8_isSo_114 : decode cX8_isSo 114 = .ok (.aload_n 1, 1) := by decide +kernel
theorem dX8_isSo_115 : decode cX8_isSo 115 = .ok (.iload_n 2, 1) := by decide +kernel
theorem dX8_isSo_116 : decode cX8_isSo 116 = .ok (.aload_n 0, 1) := by decide +kernel
theorem dX8_isSo_117 : decode cX8_isSo 117 = .ok (.getfield 21, 3) := by decide +kernel
theorem dX8_isSo_120 : decode cX8_isSo 120 = .ok (.iload_n 3, 1) := by decide +kernel
theorem dX8_isSo_121 : decode cX8_isSo 121 = .ok (.iaload, 1) := by decide +kernel
theorem dX8_isSo_122 : decode cX8_isSo 122 = .ok (.invokevirtual 162, 3) := by decide +kernel
theorem dX8_isSo_125 : decode cX8_isSo 125 = .ok (.ireturn, 1) := by decide +kernel
theorem dX8_isSo_126 : decode cX8_isSo 126 = .ok (.aload_n 0, 1) := by decide +kernel
theorem dX8_isSo_127 : decode cX8_isSo 127 = .ok (.aload_n 1, 1) := by decide +kernel
theorem dX8_isSo_128 : decode cX8_isSo 128 = .ok (.iload_n 2, 1) := by decide +kernel
theorem dX8_isSo_129 : decode cX8_isSo 129 = .ok (.invokevirtual 165, 3) := by decide +kernel
theorem dX8_isSo_132 : decode cX8_isSo 132 = .ok (.invokestatic 168, 3) := by decide +kernel
theorem dX8_isSo_135 : decode cX8_isSo 135 = .ok (.iload_n 3, 1) := by decide +kernel
theorem dX8_isSo_136 : decode cX8_isSo 136 = .ok (.invokevirtual 173, 3) := by decide +kernel
theorem dX8_isSo_139 : decode cX8_isSo 139 = .ok (.ireturn, 1) := by decide +kernel
theorem dX8_isSo_140 : decode cX8_isSo 140 = .ok (.aload_n 0, 1) := by decide +kernel
theorem dX8_isSo_141 : decode cX8_isSo 141 = .ok (.aload_n 1, 1) := by decide +kernel
theorem dX8_isSo_142 : decode cX8_isSo 142 = .ok (.getfield 176, 3) := by decide +kernel
theorem dX8_isSo_145 : decode cX8_isSo 145 = .ok (.iload_n 2, 1) := by decide +kernel
theorem dX8_isSo_146 : decode cX8_isSo 146 = .ok (.iaload, 1) := by decide +kernel
theorem dX8_isSo_147 : decode cX8_isSo 147 = .ok (.iload_n 3, 1) := by decide +kernel
theorem dX8_isSo_148 : decode cX8_isSo 148 = .ok (.invokevirtual 173, 3) := by decide +kernel
theorem dX8_isSo_151 : decode cX8_isSo 151 = .ok (.ireturn, 1) := by decide +kernel
theorem dX8_isSo_152 : decode cX8_isSo 152 = .ok (.aload_n 0, 1) := by decide +kernel
theorem dX8_isSo_153 : decode cX8_isSo 153 = .ok (.aload_n 1, 1) := by decide +kernel
theorem dX8_isSo_154 : decode cX8_isSo 154 = .ok (.getfield 152, 3) := by decide +kernel
theorem dX8_isSo_157 : decode cX8_isSo 157 = .ok (.getfield 179, 3) := by decide +kernel
theorem dX8_isSo_160 : decode cX8_isSo 160 = .ok (.iload_n 2, 1) := by decide +kernel
theorem dX8_isSo_161 : decode cX8_isSo 161 = .ok (.iaload, 1) := by decide +kernel
theorem dX8_isSo_162 : decode cX8_isSo 162 = .ok (.iload_n 3, 1) := by decide +kernel
theorem dX8_isSo_163 : decode cX8_isSo 163 = .ok (.invokevirtual 173, 3) := by decide +kernel
theorem dX8_isSo_166 : decode cX8_isSo 166 = .ok (.ireturn, 1) := by decide +kernel
theorem dX8_isSo_167 : decode cX8_isSo 167 = .ok (.aload_n 0, 1) := by decide +kernel
theorem dX8_isSo_168 : decode cX8_isSo 168 = .ok (.iload_n 2, 1) := by decide +kernel
theorem dX8_isSo_169 : decode cX8_isSo 169 = .ok (.iload_n 3, 1) := by decide +kernel
theorem dX8_isSo_170 : decode cX8_isSo 170 = .ok (.invokevirtual 173, 3) := by decide +kernel
theorem dX8_isSo_173 : decode cX8_isSo 173 = .ok (.ireturn, 1) := by decide +kernel
theorem dX8_isSo_174 : decode cX8_isSo 174 = .ok (.iconst 0, 1) := by decide +kernel
theorem dX8_isSo_175 : decode cX8_isSo 175 = .ok (.ireturn, 1) := by decide +kernel
set_option maxRecDepth 100000 in
set_option maxHeartbeats 4000000 in
theorem kX8_isSo {E : KE} {l : Launch} (hE : mx_ok E) (i2 : Int32) (i3 : Int32) (hT : xOK E) (M : MM) {q : Bool} (hf : fX8_isSo i2 i3 M = some q) : mx_Met E l yX8_isSo cX8_isSo 4 (some .boolean) 3 [.ref (E.2.1.2.1 130), .ref (E.2.1.2.1 29), .int i2, .int i3] M (some (.int (mx_b q))) M := by
  refine mx_enter hE (by decide) (Nat.le_of_ble_eq_true rfl) ?_
  intro p e s m below meth c C hM hn ls hl
  have hx := C.1.1
  have hb := C.1.2.1
  have hown := C.1.2.2.2.1
  have hts := C.1.2.2.2.2
  have hl : lv_has ls 4 [(0, .ref (E.2.1.2.1 130)), (1, .ref (E.2.1.2.1 29)), (2, .int i2), (3, .int i3)] := hl
  rw [fX8_isSo] at hf
  refine xw_sw C hT hM (hts _ qw_1181) dX8_isSo_0 ?_
  refine lv_aload_n hx hb dX8_isSo_3 rfl (lv_at hl 0 rfl) ?_
  refine gX8_13 C hM (xt_130 hT) (f := (2, 131)) rfl (v := .ref (E.2.1.2.1 131)) rfl dX8_isSo_4 ?_
  refine lv_iload_n hx hb dX8_isSo_7 rfl (lv_at hl 3 rfl) ?_
  obtain ⟨hg8, hf⟩ := mx_gd hf
  refine mx_aaldW C hM (xt_131 hT) (mx_in_vp hg8) dX8_isSo_8 ?_
  obtain ⟨hw9, hf⟩ := mx_gd hf
  refine xw_ord C hT hw9 hM hl.1 (by decide) qw_1182 (st1 := [.int (nI (M.2.2 131 i3.toNatClampNeg)), .ref (E.2.1.2.2.1 25)]) (rest := [.ref (E.2.1.2.2.1 25)]) rfl rfl (Nat.le_of_ble_eq_true rfl) dX8_isSo_9 (fun H locs hM => ?_)
  refine xw_swa C hT hM hw9 dX8_isSo_12 ?_
  by_cases hs0 : (xsw (M.2.2 131 i3.toNatClampNeg)) = 12
  · replace hf := mx_ift hs0 hf
    refine lv_tableIn (tgt := 64) hx hb dX8_isSo_13 (by rw [hs0]; decide) (by rw [hs0]; decide) (by rw [hs0]; rfl) (by decide) ?_
    refine lv_aload_n hx hb dX8_isSo_64 rfl (lv_at hl 1 rfl) ?_
    refine lv_iload_n hx hb dX8_isSo_65 rfl (lv_at hl 2 rfl) ?_
    obtain ⟨q66, hq66, hf⟩ := mx_bd hf
    refine mx_callVN C hM hl.1 yo_X9_wornBy (h' := 0) (by decide) (nw_1230 hT C) qw_748 qs_49 (ci := 9) (q := (RX9, TX9, 13)) rfl (xt_29 hT) (As := [.int i2]) (rest := []) (st1 := [.int q66]) (kX9_wornBy C.2.2.2.1 29 i2 hT xiS_29 M hq66) rfl rfl rfl (Nat.le_of_ble_eq_true rfl) dX8_isSo_66 (fun H locs hM => ?_)
    refine lv_iconst (v := (-1 : Int32)) hx hb dX8_isSo_69 (by decide) ?_
    refine lv_icmp_eq (tgt := 77) hx hb dX8_isSo_70 (by decide) (fun hc70 => ?_) (fun hc70 => ?_)
    · replace hf := mx_ift hc70 hf
      refine lv_iconst (v := (0 : Int32)) hx hb dX8_isSo_77 (by decide) ?_
      exact mx_zretR C hM (b := false) rfl hf dX8_isSo_78
    · replace hf := mx_iff hc70 hf
      refine lv_iconst (v := (1 : Int32)) hx hb dX8_isSo_73 (by decide) ?_
      refine lv_goto (tgt := 78) hx hb dX8_isSo_74 (by decide) ?_
      exact mx_zretR C hM (b := true) rfl hf dX8_isSo_78
  replace hf := mx_iff hs0 hf
  by_cases hs1 : (xsw (M.2.2 131 i3.toNatClampNeg)) = 13
  · replace hf := mx_ift hs1 hf
    refine lv_tableIn (tgt := 79) hx hb dX8_isSo_13 (by rw [hs1]; decide) (by rw [hs1]; decide) (by rw [hs1]; rfl) (by decide) ?_
    refine lv_aload_n hx hb dX8_isSo_79 rfl (lv_at hl 1 rfl) ?_
    refine lv_iload_n hx hb dX8_isSo_80 rfl (lv_at hl 2 rfl) ?_
    obtain ⟨q81, hq81, hf⟩ := mx_bd hf
    refine mx_callS C hM hl.1 yo_X8_isHappy (h' := 2) (by decide) qw_1231 qw_1232 (As := [.ref (E.2.1.2.1 29), .int i2]) (rest := []) (st1 := [.int (mx_b q81)]) (kX8_isHappy C.2.2.2.1 i2 hT M hq81) rfl rfl rfl (Nat.le_of_ble_eq_true rfl) dX8_isSo_81 (fun H locs hM => ?_)
    exact mx_zretR C hM (b := q81) rfl hf dX8_isSo_84
  replace hf := mx_iff hs1 hf
  by_cases hs2 : (xsw (M.2.2 131 i3.toNatClampNeg)) = 14
  · replace hf := mx_ift hs2 hf
    refine lv_tableIn (tgt := 85) hx hb dX8_isSo_13 (by rw [hs2]; decide) (by rw [hs2]; decide) (by rw [hs2]; rfl) (by decide) ?_
    refine lv_aload_n hx hb dX8_isSo_85 rfl (lv_at hl 1 rfl) ?_
    refine gX8_152 C hT hM (xt_29 hT) (f := (2, 9)) rfl (v := .ref (E.2.1.2.1 9)) rfl dX8_isSo_86 ?_
    refine lv_iload_n hx hb dX8_isSo_89 rfl (lv_at hl 2 rfl) ?_
    obtain ⟨q90, hq90, hf⟩ := mx_bd hf
    refine mx_callVN C hM hl.1 yo_X3_ownedBy (h' := 0) (by decide) (nw_1234 hT C) qw_1236 qs_106 (ci := 3) (q := (RX3, TX3, 18)) rfl (xt_9 hT) (As := [.int i2]) (rest := []) (st1 := [.int q90]) (kX3_ownedBy C.2.2.2.1 i2 hT M hq90) rfl rfl rfl (Nat.le_of_ble_eq_true rfl) dX8_isSo_90 (fun H locs hM => ?_)
    refine lv_if_ne (tgt := 100) hx hb dX8_isSo_93 (by decide) (fun hc93 => ?_) (fun hc93 => ?_)
    · replace hf := mx_iff hc93 hf
      refine lv_iconst (v := (0 : Int32)) hx hb dX8_isSo_100 (by decide) ?_
      exact mx_zretR C hM (b := false) rfl hf dX8_isSo_101
    · replace hf := mx_ift hc93 hf
      refine lv_iconst (v := (1 : Int32)) hx hb dX8_isSo_96 (by decide) ?_
      refine lv_goto (tgt := 101) hx hb dX8_isSo_97 (by decide) ?_
      exact mx_zretR C hM (b := true) rfl hf dX8_isSo_101
  replace hf := mx_iff hs2 hf
  by_cases hs3 : (xsw (M.2.2 131 i3.toNatClampNeg)) = 15
  · replace hf := mx_ift hs3 hf
    refine lv_tableIn (tgt := 102) hx hb dX8_isSo_13 (by rw [hs3]; decide) (by rw [hs3]; decide) (by rw [hs3]; rfl) (by decide) ?_
    refine lv_aload_n hx hb dX8_isSo_102 rfl (lv_at hl 1 rfl) ?_
    refine lv_iload_n hx hb dX8_isSo_103 rfl (lv_at hl 2 rfl) ?_
    refine lv_aload_n hx hb dX8_isSo_104 rfl (lv_at hl 0 rfl) ?_
    refine gX8_21 C hM (xt_130 hT) (f := (2, 133)) rfl (v := .ref (E.2.1.2.1 133)) rfl dX8_isSo_105 ?_
    refine lv_iload_n hx hb dX8_isSo_108 rfl (lv_at hl 3 rfl) ?_
    obtain ⟨hg109, hf⟩ := mx_gd hf
    refine mx_iald C hM (xt_133 hT) (mx_in_vp hg109) dX8_isSo_109 ?_
    obtain ⟨q110, hq110, hf⟩ := mx_bd hf
    refine mx_callVN C hM hl.1 yo_X9_hasRing (h' := 1) (by decide) (nw_1239 hT C) qw_1241 qs_107 (ci := 9) (q := (RX9, TX9, 13)) rfl (xt_29 hT) (As := [.int i2, .int (M.1 133 i3.toNatClampNeg)]) (rest := []) (st1 := [.int (mx_b q110)]) (kX9_hasRing C.2.2.2.1 29 i2 (M.1 133 i3.toNatClampNeg) hT xiS_29 M hq110) rfl rfl rfl (Nat.le_of_ble_eq_true rfl) dX8_isSo_110 (fun H locs hM => ?_)
    exact mx_zretR C hM (b := q110) rfl hf dX8_isSo_113
  replace hf := mx_iff hs3 hf
  by_cases hs4 : (xsw (M.2.2 131 i3.toNatClampNeg)) = 16
  · replace hf := mx_ift hs4 hf
    refine lv_tableIn (tgt := 114) hx hb dX8_isSo_13 (by rw [hs4]; decide) (by rw [hs4]; decide) (by rw [hs4]; rfl) (by decide) ?_
    refine lv_aload_n hx hb dX8_isSo_114 rfl (lv_at hl 1 rfl) ?_
    refine lv_iload_n hx hb dX8_isSo_115 rfl (lv_at hl 2 rfl) ?_
    refine lv_aload_n hx hb dX8_isSo_116 rfl (lv_at hl 0 rfl) ?_
    refine gX8_21 C hM (xt_130 hT) (f := (2, 133)) rfl (v := .ref (E.2.1.2.1 133)) rfl dX8_isSo_117 ?_
    refine lv_iload_n hx hb dX8_isSo_120 rfl (lv_at hl 3 rfl) ?_
    obtain ⟨hg121, hf⟩ := mx_gd hf
    refine mx_iald C hM (xt_133 hT) (mx_in_vp hg121) dX8_isSo_121 ?_
    obtain ⟨q122, hq122, hf⟩ := mx_bd hf
    refine mx_callVN C hM hl.1 yo_X9_isBy (h' := 1) (by decide) (nw_1244 hT C) qw_735 qs_47 (ci := 9) (q := (RX9, TX9, 13)) rfl (xt_29 hT) (As := [.int i2, .int (M.1 133 i3.toNatClampNeg)]) (rest := []) (st1 := [.int (mx_b q122)]) (kX9_isBy C.2.2.2.1 29 i2 (M.1 133 i3.toNatClampNeg) hT xiS_29 M hq122) rfl rfl rfl (Nat.le_of_ble_eq_true rfl) dX8_isSo_122 (fun H locs hM => ?_)
    exact mx_zretR C hM (b := q122) rfl hf dX8_isSo_125
  replace hf := mx_iff hs4 hf
  by_cases hs5 : (xsw (M.2.2 131 i3.toNatClampNeg)) = 17
  · replace hf := mx_ift hs5 hf
    refine lv_tableIn (tgt := 126) hx hb dX8_isSo_13 (by rw [hs5]; decide) (by rw [hs5]; decide) (by rw [hs5]; rfl) (by decide) ?_
    refine lv_aload_n hx hb dX8_isSo_126 rfl (lv_at hl 0 rfl) ?_
    refine lv_aload_n hx hb dX8_isSo_127 rfl (lv_at hl 1 rfl) ?_
    refine lv_iload_n hx hb dX8_isSo_128 rfl (lv_at hl 2 rfl) ?_
    obtain ⟨q129, hq129, hf⟩ := mx_bd hf
    refine mx_callVN C hM hl.1 yo_X9_keptBy (h' := 1) (by decide) (nw_1245 hT C) qw_785 qs_55 (ci := 9) (q := (RX9, TX9, 13)) rfl (xt_29 hT) (As := [.int i2]) (rest := [.ref (E.2.1.2.1 130)]) (st1 := [.int q129, .ref (E.2.1.2.1 130)]) (kX9_keptBy C.2.2.2.1 29 i2 hT xiS_29 M hq129) rfl rfl rfl (Nat.le_of_ble_eq_true rfl) dX8_isSo_129 (fun H locs hM => ?_)
    obtain ⟨q132, hq132, hf⟩ := mx_bd hf
    refine mx_callS C hM hl.1 yo_J6_bitCount_0f7a4 (h' := 0) (by decide) qw_1246 qw_788 (As := [.int q129]) (rest := [.ref (E.2.1.2.1 130)]) (st1 := [.int q132, .ref (E.2.1.2.1 130)]) (kJ6_bitCount_0f7a4 C.2.2.2.1 q129 M hq132) rfl rfl rfl (Nat.le_of_ble_eq_true rfl) dX8_isSo_132 (fun H locs hM => ?_)
    refine lv_iload_n hx hb dX8_isSo_135 rfl (lv_at hl 3 rfl) ?_
    obtain ⟨q136, hq136, hf⟩ := mx_bd hf
    refine mx_callV C hM hl.1 yo_X8_compares (h' := 0) (by decide) qw_1247 qw_1249 qs_108 (ci := 8) (q := (RX8, TX8, 5)) rfl (xt_130 hT) (As := [.int q132, .int i3]) (rest := []) (st1 := [.int (mx_b q136)]) (kX8_compares C.2.2.2.1 q132 i3 hT M hq136) rfl rfl rfl (Nat.le_of_ble_eq_true rfl) dX8_isSo_136 (fun H locs hM => ?_)
    exact mx_zretR C hM (b := q136) rfl hf dX8_isSo_139
  replace hf := mx_iff hs5 hf
  by_cases hs6 : (xsw (M.2.2 131 i3.toNatClampNeg)) = 18
  · replace hf := mx_ift hs6 hf
    refine lv_tableIn (tgt := 140) hx hb dX8_isSo_13 (by rw [hs6]; decide) (by rw [hs6]; decide) (by rw [hs6]; rfl) (by decide) ?_
    refine lv_aload_n hx hb dX8_isSo_140 rfl (lv_at hl 0 rfl) ?_
    refine lv_aload_n hx hb dX8_isSo_141 rfl (lv_at hl 1 rfl) ?_
    refine gX8_176 C hT hM (xt_29 hT) (f := (2, 32)) rfl (v := .ref (E.2.1.2.1 32)) rfl dX8_isSo_142 ?_
    refine lv_iload_n hx hb dX8_isSo_145 rfl (lv_at hl 2 rfl) ?_
    obtain ⟨hg146, hf⟩ := mx_gd hf
    refine mx_iald C hM (xt_32 hT) (mx_in_vp hg146) dX8_isSo_146 ?_
    refine lv_iload_n hx hb dX8_isSo_147 rfl (lv_at hl 3 rfl) ?_
    obtain ⟨q148, hq148, hf⟩ := mx_bd hf
    refine mx_callV C hM hl.1 yo_X8_compares (h' := 0) (by decide) qw_1247 qw_1249 qs_108 (ci := 8) (q := (RX8, TX8, 5)) rfl (xt_130 hT) (As := [.int (M.1 32 i2.toNatClampNeg), .int i3]) (rest := []) (st1 := [.int (mx_b q148)]) (kX8_compares C.2.2.2.1 (M.1 32 i2.toNatClampNeg) i3 hT M hq148) rfl rfl rfl (Nat.le_of_ble_eq_true rfl) dX8_isSo_148 (fun H locs hM => ?_)
    exact mx_zretR C hM (b := q148) rfl hf dX8_isSo_151
  replace hf := mx_iff hs6 hf
  by_cases hs7 : (xsw (M.2.2 131 i3.toNatClampNeg)) = 19
  · replace hf := mx_ift hs7 hf
    refine lv_tableIn (tgt := 152) hx hb dX8_isSo_13 (by rw [hs7]; decide) (by rw [hs7]; decide) (by rw [hs7]; rfl) (by decide) ?_
    refine lv_aload_n hx hb dX8_isSo_152 rfl (lv_at hl 0 rfl) ?_
    refine lv_aload_n hx hb dX8_isSo_153 rfl (lv_at hl 1 rfl) ?_
    refine gX8_152 C hT hM (xt_29 hT) (f := (2, 9)) rfl (v := .ref (E.2.1.2.1 9)) rfl dX8_isSo_154 ?_
    refine gX8_179 C hT hM (xt_9 hT) (f := (2, 13)) rfl (v := .ref (E.2.1.2.1 13)) rfl dX8_isSo_157 ?_
    refine lv_iload_n hx hb dX8_isSo_160 rfl (lv_at hl 2 rfl) ?_
    obtain ⟨hg161, hf⟩ := mx_gd hf
    refine mx_iald C hM (xt_13 hT) (mx_in_vp hg161) dX8_isSo_161 ?_
    refine lv_iload_n hx hb dX8_isSo_162 rfl (lv_at hl 3 rfl) ?_
    obtain ⟨q163, hq163, hf⟩ := mx_bd hf
    refine mx_callV C hM hl.1 yo_X8_compares (h' := 0) (by decide) qw_1247 qw_1249 qs_108 (ci := 8) (q := (RX8, TX8, 5)) rfl (xt_130 hT) (As := [.int (M.1 13 i2.toNatClampNeg), .int i3]) (rest := []) (st1 := [.int (mx_b q163)]) (kX8_compares C.2.2.2.1 (M.1 13 i2.toNatClampNeg) i3 hT M hq163) rfl rfl rfl (Nat.le_of_ble_eq_true rfl) dX8_isSo_163 (fun H locs hM => ?_)
    exact mx_zretR C hM (b := q163) rfl hf dX8_isSo_166
  replace hf := mx_iff hs7 hf
  by_cases hs8 : (xsw (M.2.2 131 i3.toNatClampNeg)) = 20
  · replace hf := mx_ift hs8 hf
    refine lv_tableIn (tgt := 167) hx hb dX8_isSo_13 (by rw [hs8]; decide) (by rw [hs8]; decide) (by rw [hs8]; rfl) (by decide) ?_
    refine lv_aload_n hx hb dX8_isSo_167 rfl (lv_at hl 0 rfl) ?_
    refine lv_iload_n hx hb dX8_isSo_168 rfl (lv_at hl 2 rfl) ?_
    refine lv_iload_n hx hb dX8_isSo_169 rfl (lv_at hl 3 rfl) ?_
    obtain ⟨q170, hq170, hf⟩ := mx_bd hf
    refine mx_callV C hM hl.1 yo_X8_compares (h' := 0) (by decide) qw_1247 qw_1249 qs_108 (ci := 8) (q := (RX8, TX8, 5)) rfl (xt_130 hT) (As := [.int i2, .int i3]) (rest := []) (st1 := [.int (mx_b q170)]) (kX8_compares C.2.2.2.1 i2 i3 hT M hq170) rfl rfl rfl (Nat.le_of_ble_eq_true rfl) dX8_isSo_170 (fun H locs hM => ?_)
    exact mx_zretR C hM (b := q170) rfl hf dX8_isSo_173
  replace hf := mx_iff hs8 hf
  refine lv_tableOut (tgt := 174) hx hb dX8_isSo_13 (by have hh := And.intro trivial trivial; have hh0 := lv_neT hs0 (by decide : (12 : Int32).toInt = 12); have hh1 := lv_neT hs1 (by decide : (13 : Int32).toInt = 13); have hh2 := lv_neT hs2 (by decide : (14 : Int32).toInt = 14); have hh3 := lv_neT hs3 (by decide : (15 : Int32).toInt = 15); have hh4 := lv_neT hs4 (by decide : (16 : Int32).toInt = 16); have hh5 := lv_neT hs5 (by decide : (17 : Int32).toInt = 17); have hh6 := lv_neT hs6 (by decide : (18 : Int32).toInt = 18); have hh7 := lv_neT hs7 (by decide : (19 : Int32).toInt = 19); have hh8 := lv_neT hs8 (by decide : (20 : Int32).toInt = 20); omega) (by decide) ?_
  refine lv_iconst (v := (0 : Int32)) hx hb dX8_isSo_174 (by decide) ?_
  exact mx_zretR C hM (b := false) rfl hf dX8_isSo_175
theorem dX8_holdsOf_0 : decode cX8_holdsOf 0 = .ok (.lconst 0, 1) := by decide +kernel
theorem dX8_holdsOf_1 : decode cX8_holdsOf 1 = .ok (.lstore_n 3, 1) := by decide +kernel
theorem dX8_holdsOf_2 : decode cX8_holdsOf 2 = .ok (.iconst 0, 1) := by decide +kernel
theorem dX8_holdsOf_3 : decode cX8_holdsOf 3 = .ok (.istore 5, 2) := by decide +kernel
theorem dX8_holdsOf_5 : decode cX8_holdsOf 5 = .ok (.iload 5, 2) := by decide +kernel
theorem dX8_holdsOf_7 : decode cX8_holdsOf 7 = .ok (.aload_n 0, 1) := by decide +kernel
theorem dX8_holdsOf_8 : decode cX8_holdsOf 8 = .ok (.getfield 28, 3) := by decide +kernel
theorem dX8_holdsOf_11 : decode cX8_holdsOf 11 = .ok (.if_icmp .ge 130, 3) := by decide +kernel
theorem dX8_holdsOf_14 : decode cX8_holdsOf 14 = .ok (.lload_n 3, 1) := by decide +kernel
theorem dX8_holdsOf_15 : decode cX8_holdsOf 15 = .ok (.lconst 1, 1) := by decide +kernel
theorem dX8_holdsOf_16 : decode cX8_holdsOf 16 = .ok (.land, 1) := by decide +kernel
theorem dX8_holdsOf_17 : decode cX8_holdsOf 17 = .ok (.lstore 6, 2) := by decide +kernel
theorem dX8_holdsOf_19 : decode cX8_holdsOf 19 = .ok (.lload_n 3, 1) := by decide +kernel
theorem dX8_holdsOf_20 : decode cX8_holdsOf 20 = .ok (.iconst 1, 1) := by decide +kernel
theorem dX8_holdsOf_21 : decode cX8_holdsOf 21 = .ok (.lushr, 1) := by decide +kernel
theorem dX8_holdsOf_22 : decode cX8_holdsOf 22 = .ok (.lconst 1, 1) := by decide +kernel
theorem dX8_holdsOf_23 : decode cX8_holdsOf 23 = .ok (.land, 1) := by decide +kernel
theorem dX8_holdsOf_24 : decode cX8_holdsOf 24 = .ok (.lstore 8, 2) := by decide +kernel
theorem dX8_holdsOf_26 : decode cX8_holdsOf 26 = .ok (.getstatic 98, 3) := by decide +kernel
theorem dX8_holdsOf_29 : decode cX8_holdsOf 29 = .ok (.aload_n 0, 1) := by decide +kernel
theorem dX8_holdsOf_30 : decode cX8_holdsOf 30 = .ok (.getfield 13, 3) := by decide +kernel
theorem dX8_holdsOf_33 : decode cX8_holdsOf 33 = .ok (.iload 5, 2) := by decide +kernel
theorem dX8_holdsOf_35 : decode cX8_holdsOf 35 = .ok (.aaload, 1) := by decide +kernel
theorem dX8_holdsOf_36 : decode cX8_holdsOf 36 = .ok (.invokevirtual 103, 3) := by decide +kernel
theorem dX8_holdsOf_39 : decode cX8_holdsOf 39 = .ok (.iaload, 1) := by decide +kernel
theorem dX8_holdsOf_40 : decode cX8_holdsOf 40 = .ok (.lookupswitch 73 #[(11, 36), (21, 43), (22, 58)], 36) := by decide +kernel
theorem dX8_holdsOf_76 : decode cX8_holdsOf 76 = .ok (.lload_n 3, 1) := by decide +kernel
theorem dX8_holdsOf_77 : decode cX8_holdsOf 77 = .ok (.lconst 1, 1) := by decide +kernel
theorem dX8_holdsOf_78 : decode cX8_holdsOf 78 = .ok (.lxor, 1) := by decide +kernel
theorem dX8_holdsOf_79 : decode cX8_holdsOf 79 = .ok (.lstore_n 3, 1) := by decide +kernel
theorem dX8_holdsOf_80 : decode cX8_holdsOf 80 = .ok (.goto 55, 3) := by decide +kernel
theorem dX8_holdsOf_83 : decode cX8_holdsOf 83 = .ok (.lload_n 3, 1) := by decide +kernel
theorem dX8_holdsOf_84 : decode cX8_holdsOf 84 = .ok (.iconst 2, 1) := by decide +kernel
theorem dX8_holdsOf_85 : decode cX8_holdsOf 85 = .ok (.lushr, 1) := by decide +kernel
theorem dX8_holdsOf_86 : decode cX8_holdsOf 86 = .ok (.iconst 1, 1) := by decide +kernel
theorem dX8_holdsOf_87 : decode cX8_holdsOf 87 = .ok (.lshl, 1) := by decide +kernel
theorem dX8_holdsOf_88 : decode cX8_holdsOf 88 = .ok (.lload 6, 2) := by decide +kernel
theorem dX8_holdsOf_90 : decode cX8_holdsOf 90 = .ok (.lload 8, 2) := by decide +kernel
theorem dX8_holdsOf_92 : decode cX8_holdsOf 92 = .ok (.land, 1) := by decide +kernel
theorem dX8_holdsOf_93 : decode cX8_holdsOf 93 = .ok (.lor, 1) := by decide +kernel
theorem dX8_holdsOf_94 : decode cX8_holdsOf 94 = .ok (.lstore_n 3, 1) := by decide +kernel
theorem dX8_holdsOf_95 : decode cX8_holdsOf 95 = .ok (.goto 40, 3) := by decide +kernel
theorem dX8_holdsOf_98 : decode cX8_holdsOf 98 = .ok (.lload_n 3, 1) := by decide +kernel
theorem dX8_holdsOf_99 : decode cX8_holdsOf 99 = .ok (.iconst 2, 1) := by decide +kernel
theorem dX8_holdsOf_100 : decode cX8_holdsOf 100 = .ok (.lushr, 1) := by decide +kernel
theorem dX8_holdsOf_101 : decode cX8_holdsOf 101 = .ok (.iconst 1, 1) := by decide +kernel
theorem dX8_holdsOf_102 : decode cX8_holdsOf 102 = .ok (.lshl, 1) := by decide +kernel
theorem dX8_holdsOf_103 : decode cX8_holdsOf 103 = .ok (.lload 6, 2) := by decide +kernel
theorem dX8_holdsOf_105 : decode cX8_holdsOf 105 = .ok (.lor, 1) := by decide +kernel
theorem dX8_holdsOf_106 : decode cX8_holdsOf 106 = .ok (.lload 8, 2) := by decide +kernel
theorem dX8_holdsOf_108 : decode cX8_holdsOf 108 = .ok (.lor, 1) := by decide +kernel
theorem dX8_holdsOf_109 : decode cX8_holdsOf 109 = .ok (.lstore_n 3, 1) := by decide +kernel
theorem dX8_holdsOf_110 : decode cX8_holdsOf 110 = .ok (.goto 25, 3) := by decide +kernel
theorem dX8_holdsOf_113 : decode cX8_holdsOf 113 = .ok (.lload_n 3, 1) := by decide +kernel
theorem dX8_holdsOf_114 : decode cX8_holdsOf 114 = .ok (.iconst 1, 1) := by decide +kernel
theorem dX8_holdsOf_115 : decode cX8_holdsOf 115 = .ok (.lshl, 1) := by decide +kernel
theorem dX8_holdsOf_116 : decode cX8_holdsOf 116 = .ok (.aload_n 0, 1) := by decide +kernel
theorem dX8_holdsOf_117 : decode cX8_holdsOf 117 = .ok (.aload_n 1, 1) := by decide +kernel
theorem dX8_holdsOf_118 : decode cX8_holdsOf 118 = .ok (.iload_n 2, 1) := by decide +kernel
theorem dX8_holdsOf_119 : decode cX8_holdsOf 119 = .ok (.iload 5, 2) := by decide +kernel
theorem dX8_holdsOf_121 : decode cX8_holdsOf 121 = .ok (.invokevirtual 138, 3) := by decide +kernel
theorem dX8_holdsOf_124 : decode cX8_holdsOf 124 = .ok (.ifCond .eq 7, 3) := by decide +kernel
theorem dX8_holdsOf_127 : decode cX8_holdsOf 127 = .ok (.iconst 1, 1) := by decide +kernel
theorem dX8_holdsOf_128 : decode cX8_holdsOf 128 = .ok (.goto 4, 3) := by decide +kernel
theorem dX8_holdsOf_131 : decode cX8_holdsOf 131 = .ok (.iconst 0, 1) := by decide +kernel
theorem dX8_holdsOf_132 : decode cX8_holdsOf 132 = .ok (.i2l, 1) := by decide +kernel
theorem dX8_holdsOf_133 : decode cX8_holdsOf 133 = .ok (.lor, 1) := by decide +kernel
theorem dX8_holdsOf_134 : decode cX8_holdsOf 134 = .ok (.lstore_n 3, 1) := by decide +kernel
theorem dX8_holdsOf_135 : decode cX8_holdsOf 135 = .ok (.iinc 5 1, 3) := by decide +kernel
theorem dX8_holdsOf_138 : decode cX8_holdsOf 138 = .ok (.goto (-133), 3) := by decide +kernel
theorem dX8_holdsOf_141 : decode cX8_holdsOf 141 = .ok (.lload_n 3, 1) := by decide +kernel
theorem dX8_holdsOf_142 : decode cX8_holdsOf 142 = .ok (.lconst 1, 1) := by decide +kernel
theorem dX8_holdsOf_143 : decode cX8_holdsOf 143 = .ok (.land, 1) := by decide +kernel
theorem dX8_holdsOf_144 : decode cX8_holdsOf 144 = .ok (.lconst 1, 1) := by decide +kernel
theorem dX8_holdsOf_145 : decode cX8_holdsOf 145 = .ok (.lcmp, 1) := by decide +kernel
theorem dX8_holdsOf_146 : decode cX8_holdsOf 146 = .ok (.ifCond .ne 7, 3) := by decide +kernel
theorem dX8_holdsOf_149 : decode cX8_holdsOf 149 = .ok (.iconst 1, 1) := by decide +kernel
theorem dX8_holdsOf_150 : decode cX8_holdsOf 150 = .ok (.goto 4, 3) := by decide +kernel
theorem dX8_holdsOf_153 : decode cX8_holdsOf 153 = .ok (.iconst 0, 1) := by decide +kernel
theorem dX8_holdsOf_154 : decode cX8_holdsOf 154 = .ok (.ireturn, 1) := by decide +kernel
set_option maxRecDepth 100000 in
set_option maxHeartbeats 4000000 in
theorem wfX8_holdsOf_5 {E : KE} {p : Program} {l : Launch} {e : Env} {s : State} {m : MethodId} {args : Array Value} {below : List Frame} {meth : Method} {c : Code} {q : Bool} (C : mx_C E p m c cX8_holdsOf 10 s args RX8 meth (some .boolean)) (i2 : Int32) (M : MM) (hT : xOK E)   : ∀ (n : Nat) (l3 : Int64) (i5 : Int32) (H : Heap) (locs : List Loc) (ls : Array Slot), fX8_holdsOf_5 i2 M n l3 i5 = some q → mx_H E s M H locs → lv_has ls 10 [(0, .ref (E.2.1.2.1 130)), (1, .ref (E.2.1.2.1 29)), (2, .int i2), (3, .long l3), (5, .int i5)] → W p l e (mx_rm 4) s m args below meth c H locs 0 0 (mx_Z E below args s (some (.int (mx_b q))) M) (F0 m 5 ls []) := by
  have hx := C.1.1
  have hb := C.1.2.1
  have hown := C.1.2.2.2.1
  have hts := C.1.2.2.2.2
  intro n
  induction n with
  | zero =>
    intro l3 i5 H locs ls hf hM hl
    rw [fX8_holdsOf_5] at hf
    cases hf
  | succ n ih =>
    intro l3 i5 H locs ls hf hM hl
    rw [fX8_holdsOf_5] at hf
    refine lv_iload hx hb dX8_holdsOf_5 (lv_at hl 4 rfl) ?_
    refine lv_aload_n hx hb dX8_holdsOf_7 rfl (lv_at hl 0 rfl) ?_
    refine gX8_28 C hM (xt_130 hT) (f := (0, 0)) rfl (v := .int (M.1 130 3)) rfl dX8_holdsOf_8 ?_
    refine lv_icmp_ge (tgt := 141) hx hb dX8_holdsOf_11 (by decide) (fun hc11 => ?_) (fun hc11 => ?_)
    · replace hf := mx_ift hc11 hf
      refine lv_lload_n hx hb dX8_holdsOf_141 rfl (lv_at hl 3 rfl) ?_
      refine lv_lconst (v := 1) hx hb dX8_holdsOf_142 (by decide) ?_
      refine lv_land hx hb dX8_holdsOf_143 ?_
      refine lv_lconst (v := 1) hx hb dX8_holdsOf_144 (by decide) ?_
      refine W.lcmp hx hb dX8_holdsOf_145 ?_
      refine lv_if_ne (tgt := 153) hx hb dX8_holdsOf_146 (by decide) (fun hc146 => ?_) (fun hc146 => ?_)
      · replace hf := mx_iff hc146 hf
        refine lv_iconst (v := (0 : Int32)) hx hb dX8_holdsOf_153 (by decide) ?_
        exact mx_zretR C hM (b := false) rfl hf dX8_holdsOf_154
      · replace hf := mx_ift hc146 hf
        refine lv_iconst (v := (1 : Int32)) hx hb dX8_holdsOf_149 (by decide) ?_
        refine lv_goto (tgt := 154) hx hb dX8_holdsOf_150 (by decide) ?_
        exact mx_zretR C hM (b := true) rfl hf dX8_holdsOf_154
    · replace hf := mx_iff hc11 hf
      refine lv_lload_n hx hb dX8_holdsOf_14 rfl (lv_at hl 3 rfl) ?_
      refine lv_lconst (v := 1) hx hb dX8_holdsOf_15 (by decide) ?_
      refine lv_land hx hb dX8_holdsOf_16 ?_
      refine lv_lstore (lv' := [(6, .long (l3 &&& (1 : Int64))), (0, .ref (E.2.1.2.1 130)), (1, .ref (E.2.1.2.1 29)), (2, .int i2), (3, .long l3), (5, .int i5)]) hx hb dX8_holdsOf_17 hl (by decide) rfl (fun ls hl => ?_)
      refine lv_lload_n hx hb dX8_holdsOf_19 rfl (lv_at hl 4 rfl) ?_
      refine lv_iconst (v := (1 : Int32)) hx hb dX8_holdsOf_20 (by decide) ?_
      refine lv_lushr (v := (mx_lushr l3 (1 : Int32))) hx hb dX8_holdsOf_21 rfl ?_
      refine lv_lconst (v := 1) hx hb dX8_holdsOf_22 (by decide) ?_
      refine lv_land hx hb dX8_holdsOf_23 ?_
      refine lv_lstore (lv' := [(8, .long ((mx_lushr l3 (1 : Int32)) &&& (1 : Int64))), (6, .long (l3 &&& (1 : Int64))), (0, .ref (E.2.1.2.1 130)), (1, .ref (E.2.1.2.1 29)), (2, .int i2), (3, .long l3), (5, .int i5)]) hx hb dX8_holdsOf_24 hl (by decide) rfl (fun ls hl => ?_)
      refine xw_sw C hT hM (hts _ qw_1181) dX8_holdsOf_26 ?_
      refine lv_aload_n hx hb dX8_holdsOf_29 rfl (lv_at hl 2 rfl) ?_
      refine gX8_13 C hM (xt_130 hT) (f := (2, 131)) rfl (v := .ref (E.2.1.2.1 131)) rfl dX8_holdsOf_30 ?_
      refine lv_iload hx hb dX8_holdsOf_33 (lv_at hl 6 rfl) ?_
      obtain ⟨hg35, hf⟩ := mx_gd hf
      refine mx_aaldW C hM (xt_131 hT) (mx_in_vp hg35) dX8_holdsOf_35 ?_
      obtain ⟨hw36, hf⟩ := mx_gd hf
      refine xw_ord C hT hw36 hM hl.1 (by decide) qw_1182 (st1 := [.int (nI (M.2.2 131 i5.toNatClampNeg)), .ref (E.2.1.2.2.1 25)]) (rest := [.ref (E.2.1.2.2.1 25)]) rfl rfl (Nat.le_of_ble_eq_true rfl) dX8_holdsOf_36 (fun H locs hM => ?_)
      refine xw_swa C hT hM hw36 dX8_holdsOf_39 ?_
      by_cases hs0 : (xsw (M.2.2 131 i5.toNatClampNeg)) = 11
      · replace hf := mx_ift hs0 hf
        refine lv_lookup (tgt := 76) hx hb dX8_holdsOf_40 (by decide) (by rw [hs0] <;> rfl) (by decide) ?_
        refine lv_lload_n hx hb dX8_holdsOf_76 rfl (lv_at hl 5 rfl) ?_
        refine lv_lconst (v := 1) hx hb dX8_holdsOf_77 (by decide) ?_
        refine lv_lxor hx hb dX8_holdsOf_78 ?_
        refine lv_lstore_n (lv' := [(3, .long (l3 ^^^ (1 : Int64))), (8, .long ((mx_lushr l3 (1 : Int32)) &&& (1 : Int64))), (6, .long (l3 &&& (1 : Int64))), (0, .ref (E.2.1.2.1 130)), (1, .ref (E.2.1.2.1 29)), (2, .int i2), (5, .int i5)]) hx hb dX8_holdsOf_79 rfl hl (by decide) rfl (fun ls hl => ?_)
        refine lv_goto (tgt := 135) hx hb dX8_holdsOf_80 (by decide) ?_
        refine lv_iinc (v := (i5 + (1 : Int32))) (lv' := [(5, .int (i5 + (1 : Int32))), (3, .long (l3 ^^^ (1 : Int64))), (8, .long ((mx_lushr l3 (1 : Int32)) &&& (1 : Int64))), (6, .long (l3 &&& (1 : Int64))), (0, .ref (E.2.1.2.1 130)), (1, .ref (E.2.1.2.1 29)), (2, .int i2)]) hx hb dX8_holdsOf_135 hl (k := 6) rfl rfl (by decide) rfl (fun ls hl => ?_)
        refine lv_goto (tgt := 5) hx hb dX8_holdsOf_138 (by decide) ?_
        exact ih (l3 ^^^ (1 : Int64)) (i5 + (1 : Int32)) _ _ _ hf hM (lv_sub hl [4, 5, 6, 1, 0] rfl)
      replace hf := mx_iff hs0 hf
      by_cases hs1 : (xsw (M.2.2 131 i5.toNatClampNeg)) = 21
      · replace hf := mx_ift hs1 hf
        refine lv_lookup (tgt := 83) hx hb dX8_holdsOf_40 (by decide) (by rw [hs1] <;> rfl) (by decide) ?_
        refine lv_lload_n hx hb dX8_holdsOf_83 rfl (lv_at hl 5 rfl) ?_
        refine lv_iconst (v := (2 : Int32)) hx hb dX8_holdsOf_84 (by decide) ?_
        refine lv_lushr (v := (mx_lushr l3 (2 : Int32))) hx hb dX8_holdsOf_85 rfl ?_
        refine lv_iconst (v := (1 : Int32)) hx hb dX8_holdsOf_86 (by decide) ?_
        refine lv_lshl (v := ((mx_lushr l3 (2 : Int32)) <<< ((1 : Int32).toInt64 &&& 63))) hx hb dX8_holdsOf_87 rfl ?_
        refine lv_lload hx hb dX8_holdsOf_88 (lv_at hl 1 rfl) ?_
        refine lv_lload hx hb dX8_holdsOf_90 (lv_at hl 0 rfl) ?_
        refine lv_land hx hb dX8_holdsOf_92 ?_
        refine lv_lor hx hb dX8_holdsOf_93 ?_
        refine lv_lstore_n (lv' := [(3, .long (((mx_lushr l3 (2 : Int32)) <<< ((1 : Int32).toInt64 &&& 63)) ||| ((l3 &&& (1 : Int64)) &&& ((mx_lushr l3 (1 : Int32)) &&& (1 : Int64))))), (8, .long ((mx_lushr l3 (1 : Int32)) &&& (1 : Int64))), (6, .long (l3 &&& (1 : Int64))), (0, .ref (E.2.1.2.1 130)), (1, .ref (E.2.1.2.1 29)), (2, .int i2), (5, .int i5)]) hx hb dX8_holdsOf_94 rfl hl (by decide) rfl (fun ls hl => ?_)
        refine lv_goto (tgt := 135) hx hb dX8_holdsOf_95 (by decide) ?_
        refine lv_iinc (v := (i5 + (1 : Int32))) (lv' := [(5, .int (i5 + (1 : Int32))), (3, .long (((mx_lushr l3 (2 : Int32)) <<< ((1 : Int32).toInt64 &&& 63)) ||| ((l3 &&& (1 : Int64)) &&& ((mx_lushr l3 (1 : Int32)) &&& (1 : Int64))))), (8, .long ((mx_lushr l3 (1 : Int32)) &&& (1 : Int64))), (6, .long (l3 &&& (1 : Int64))), (0, .ref (E.2.1.2.1 130)), (1, .ref (E.2.1.2.1 29)), (2, .int i2)]) hx hb dX8_holdsOf_135 hl (k := 6) rfl rfl (by decide) rfl (fun ls hl => ?_)
        refine lv_goto (tgt := 5) hx hb dX8_holdsOf_138 (by decide) ?_
        exact ih (((mx_lushr l3 (2 : Int32)) <<< ((1 : Int32).toInt64 &&& 63)) ||| ((l3 &&& (1 : Int64)) &&& ((mx_lushr l3 (1 : Int32)) &&& (1 : Int64)))) (i5 + (1 : Int32)) _ _ _ hf hM (lv_sub hl [4, 5, 6, 1, 0] rfl)
      replace hf := mx_iff hs1 hf
      by_cases hs2 : (xsw (M.2.2 131 i5.toNatClampNeg)) = 22
      · replace hf := mx_ift hs2 hf
        refine lv_lookup (tgt := 98) hx hb dX8_holdsOf_40 (by decide) (by rw [hs2] <;> rfl) (by decide) ?_
        refine lv_lload_n hx hb dX8_holdsOf_98 rfl (lv_at hl 5 rfl) ?_
        refine lv_iconst (v := (2 : Int32)) hx hb dX8_holdsOf_99 (by decide) ?_
        refine lv_lushr (v := (mx_lushr l3 (2 : Int32))) hx hb dX8_holdsOf_100 rfl ?_
        refine lv_iconst (v := (1 : Int32)) hx hb dX8_holdsOf_101 (by decide) ?_
        refine lv_lshl (v := ((mx_lushr l3 (2 : Int32)) <<< ((1 : Int32).toInt64 &&& 63))) hx hb dX8_holdsOf_102 rfl ?_
        refine lv_lload hx hb dX8_holdsOf_103 (lv_at hl 1 rfl) ?_
        refine lv_lor hx hb dX8_holdsOf_105 ?_
        refine lv_lload hx hb dX8_holdsOf_106 (lv_at hl 0 rfl) ?_
        refine lv_lor hx hb dX8_holdsOf_108 ?_
        refine lv_lstore_n (lv' := [(3, .long ((((mx_lushr l3 (2 : Int32)) <<< ((1 : Int32).toInt64 &&& 63)) ||| (l3 &&& (1 : Int64))) ||| ((mx_lushr l3 (1 : Int32)) &&& (1 : Int64)))), (8, .long ((mx_lushr l3 (1 : Int32)) &&& (1 : Int64))), (6, .long (l3 &&& (1 : Int64))), (0, .ref (E.2.1.2.1 130)), (1, .ref (E.2.1.2.1 29)), (2, .int i2), (5, .int i5)]) hx hb dX8_holdsOf_109 rfl hl (by decide) rfl (fun ls hl => ?_)
        refine lv_goto (tgt := 135) hx hb dX8_holdsOf_110 (by decide) ?_
        refine lv_iinc (v := (i5 + (1 : Int32))) (lv' := [(5, .int (i5 + (1 : Int32))), (3, .long ((((mx_lushr l3 (2 : Int32)) <<< ((1 : Int32).toInt64 &&& 63)) ||| (l3 &&& (1 : Int64))) ||| ((mx_lushr l3 (1 : Int32)) &&& (1 : Int64)))), (8, .long ((mx_lushr l3 (1 : Int32)) &&& (1 : Int64))), (6, .long (l3 &&& (1 : Int64))), (0, .ref (E.2.1.2.1 130)), (1, .ref (E.2.1.2.1 29)), (2, .int i2)]) hx hb dX8_holdsOf_135 hl (k := 6) rfl rfl (by decide) rfl (fun ls hl => ?_)
        refine lv_goto (tgt := 5) hx hb dX8_holdsOf_138 (by decide) ?_
        exact ih ((((mx_lushr l3 (2 : Int32)) <<< ((1 : Int32).toInt64 &&& 63)) ||| (l3 &&& (1 : Int64))) ||| ((mx_lushr l3 (1 : Int32)) &&& (1 : Int64))) (i5 + (1 : Int32)) _ _ _ hf hM (lv_sub hl [4, 5, 6, 1, 0] rfl)
      replace hf := mx_iff hs2 hf
      refine lv_lookup (tgt := 113) (off := 73) hx hb dX8_holdsOf_40 (by decide) (by rw [lv_osw hs0 (by decide), lv_osw hs1 (by decide), lv_osw hs2 (by decide)] <;> rfl) (by decide) ?_
      refine lv_lload_n hx hb dX8_holdsOf_113 rfl (lv_at hl 5 rfl) ?_
      refine lv_iconst (v := (1 : Int32)) hx hb dX8_holdsOf_114 (by decide) ?_
      refine lv_lshl (v := (l3 <<< ((1 : Int32).toInt64 &&& 63))) hx hb dX8_holdsOf_115 rfl ?_
      refine lv_aload_n hx hb dX8_holdsOf_116 rfl (lv_at hl 2 rfl) ?_
      refine lv_aload_n hx hb dX8_holdsOf_117 rfl (lv_at hl 3 rfl) ?_
      refine lv_iload_n hx hb dX8_holdsOf_118 rfl (lv_at hl 4 rfl) ?_
      refine lv_iload hx hb dX8_holdsOf_119 (lv_at hl 6 rfl) ?_
      obtain ⟨q121, hq121, hf⟩ := mx_bd hf
      refine mx_callV C hM hl.1 yo_X8_isSo (h' := 3) (by decide) qw_1226 qw_1228 qs_105 (ci := 8) (q := (RX8, TX8, 5)) rfl (xt_130 hT) (As := [.ref (E.2.1.2.1 29), .int i2, .int i5]) (rest := [.long (l3 <<< ((1 : Int32).toInt64 &&& 63))]) (st1 := [.int (mx_b q121), .long (l3 <<< ((1 : Int32).toInt64 &&& 63))]) (kX8_isSo C.2.2.2.1 i2 i5 hT M hq121) rfl rfl rfl (Nat.le_of_ble_eq_true rfl) dX8_holdsOf_121 (fun H locs hM => ?_)
      refine lv_if_eq (tgt := 131) hx hb dX8_holdsOf_124 (by decide) (fun hc124 => ?_) (fun hc124 => ?_)
      · replace hf := mx_ift hc124 hf
        refine lv_iconst (v := (0 : Int32)) hx hb dX8_holdsOf_131 (by decide) ?_
        refine lv_i2l (v := ((0 : Int32).toInt64)) hx hb dX8_holdsOf_132 rfl ?_
        refine lv_lor hx hb dX8_holdsOf_133 ?_
        refine lv_lstore_n (lv' := [(3, .long ((l3 <<< ((1 : Int32).toInt64 &&& 63)) ||| ((0 : Int32).toInt64))), (8, .long ((mx_lushr l3 (1 : Int32)) &&& (1 : Int64))), (6, .long (l3 &&& (1 : Int64))), (0, .ref (E.2.1.2.1 130)), (1, .ref (E.2.1.2.1 29)), (2, .int i2), (5, .int i5)]) hx hb dX8_holdsOf_134 rfl hl (by decide) rfl (fun ls hl => ?_)
        refine lv_iinc (v := (i5 + (1 : Int32))) (lv' := [(5, .int (i5 + (1 : Int32))), (3, .long ((l3 <<< ((1 : Int32).toInt64 &&& 63)) ||| ((0 : Int32).toInt64))), (8, .long ((mx_lushr l3 (1 : Int32)) &&& (1 : Int64))), (6, .long (l3 &&& (1 : Int64))), (0, .ref (E.2.1.2.1 130)), (1, .ref (E.2.1.2.1 29)), (2, .int i2)]) hx hb dX8_holdsOf_135 hl (k := 6) rfl rfl (by decide) rfl (fun ls hl => ?_)
        refine lv_goto (tgt := 5) hx hb dX8_holdsOf_138 (by decide) ?_
        exact ih ((l3 <<< ((1 : Int32).toInt64 &&& 63)) ||| ((0 : Int32).toInt64)) (i5 + (1 : Int32)) _ _ _ hf hM (lv_sub hl [4, 5, 6, 1, 0] rfl)
      · replace hf := mx_iff hc124 hf
        refine lv_iconst (v := (1 : Int32)) hx hb dX8_holdsOf_127 (by decide) ?_
        refine lv_goto (tgt := 132) hx hb dX8_holdsOf_128 (by decide) ?_
        refine lv_i2l (v := ((1 : Int32).toInt64)) hx hb dX8_holdsOf_132 rfl ?_
        refine lv_lor hx hb dX8_holdsOf_133 ?_
        refine lv_lstore_n (lv' := [(3, .long ((l3 <<< ((1 : Int32).toInt64 &&& 63)) ||| ((1 : Int32).toInt64))), (8, .long ((mx_lushr l3 (1 : Int32)) &&& (1 : Int64))), (6, .long (l3 &&& (1 : Int64))), (0, .ref (E.2.1.2.1 130)), (1, .ref (E.2.1.2.1 29)), (2, .int i2), (5, .int i5)]) hx hb dX8_holdsOf_134 rfl hl (by decide) rfl (fun ls hl => ?_)
        refine lv_iinc (v := (i5 + (1 : Int32))) (lv' := [(5, .int (i5 + (1 : Int32))), (3, .long ((l3 <<< ((1 : Int32).toInt64 &&& 63)) ||| ((1 : Int32).toInt64))), (8, .long ((mx_lushr l3 (1 : Int32)) &&& (1 : Int64))), (6, .long (l3 &&& (1 : Int64))), (0, .ref (E.2.1.2.1 130)), (1, .ref (E.2.1.2.1 29)), (2, .int i2)]) hx hb dX8_holdsOf_135 hl (k := 6) rfl rfl (by decide) rfl (fun ls hl => ?_)
        refine lv_goto (tgt := 5) hx hb dX8_holdsOf_138 (by decide) ?_
        exact ih ((l3 <<< ((1 : Int32).toInt64 &&& 63)) ||| ((1 : Int32).toInt64)) (i5 + (1 : Int32)) _ _ _ hf hM (lv_sub hl [4, 5, 6, 1, 0] rfl)
set_option maxRecDepth 100000 in
set_option maxHeartbeats 4000000 in
theorem kX8_holdsOf {E : KE} {l : Launch} (hE : mx_ok E) (i2 : Int32) (hT : xOK E) (M : MM) {q : Bool} (hf : fX8_holdsOf i2 M = some q) : mx_Met E l yX8_holdsOf cX8_holdsOf 10 (some .boolean) 4 [.ref (E.2.1.2.1 130), .ref (E.2.1.2.1 29), .int i2] M (some (.int (mx_b q))) M := by
  refine mx_enter hE (by decide) (Nat.le_of_ble_eq_true rfl) ?_
  intro p e s m below meth c C hM hn ls hl
  have hx := C.1.1
  have hb := C.1.2.1
  have hown := C.1.2.2.2.1
  have hts := C.1.2.2.2.2
  have hl : lv_has ls 10 [(0, .ref (E.2.1.2.1 130)), (1, .ref (E.2.1.2.1 29)), (2, .int i2)] := hl
  rw [fX8_holdsOf] at hf
  refine lv_lconst (v := 0) hx hb dX8_holdsOf_0 (by decide) ?_
  refine lv_lstore_n (lv' := [(3, .long (0 : Int64)), (0, .ref (E.2.1.2.1 130)), (1, .ref (E.2.1.2.1 29)), (2, .int i2)]) hx hb dX8_holdsOf_1 rfl hl (by decide) rfl (fun ls hl => ?_)
  refine lv_iconst (v := (0 : Int32)) hx hb dX8_holdsOf_2 (by decide) ?_
  refine lv_istore (lv' := [(5, .int (0 : Int32)), (3, .long (0 : Int64)), (0, .ref (E.2.1.2.1 130)), (1, .ref (E.2.1.2.1 29)), (2, .int i2)]) hx hb dX8_holdsOf_3 hl (by decide) rfl (fun ls hl => ?_)
  exact wfX8_holdsOf_5 C i2 M hT mx_fu (0 : Int64) (0 : Int32) _ _ _ hf hM (lv_sub hl [2, 3, 4, 1, 0] rfl)
theorem dX9_begin_0 : decode cX9_begin 0 = .ok (.iconst 0, 1) := by decide +kernel
theorem dX9_begin_1 : decode cX9_begin 1 = .ok (.istore_n 1, 1) := by decide +kernel
theorem dX9_begin_2 : decode cX9_begin 2 = .ok (.iload_n 1, 1) := by decide +kernel
theorem dX9_begin_3 : decode cX9_begin 3 = .ok (.aload_n 0, 1) := by decide +kernel
theorem dX9_begin_4 : decode cX9_begin 4 = .ok (.getfield 36, 3) := by decide +kernel
theorem dX9_begin_7 : decode cX9_begin 7 = .ok (.getfield 40, 3) := by decide +kernel
theorem dX9_begin_10 : decode cX9_begin 10 = .ok (.if_icmp .ge 39, 3) := by decide +kernel
theorem dX9_begin_13 : decode cX9_begin 13 = .ok (.aload_n 0, 1) := by decide +kernel
theorem dX9_begin_14 : decode cX9_begin 14 = .ok (.getfield 9, 3) := by decide +kernel
theorem dX9_begin_17 : decode cX9_begin 17 = .ok (.iload_n 1, 1) := by decide +kernel
theorem dX9_begin_18 : decode cX9_begin 18 = .ok (.aload_n 0, 1) := by decide +kernel
theorem dX9_begin_19 : decode cX9_begin 19 = .ok (.getfield 36, 3) := by decide +kernel
theorem dX9_begin_22 : decode cX9_begin 22 = .ok (.getfield 46, 3) := by decide +kernel
theorem dX9_begin_25 : decode cX9_begin 25 = .ok (.iload_n 1, 1) := by decide +kernel
theorem dX9_begin_26 : decode cX9_begin 26 = .ok (.iaload, 1) := by decide +kernel
theorem dX9_begin_27 : decode cX9_begin 27 = .ok (.iastore, 1) := by decide +kernel
theorem dX9_begin_28 : decode cX9_begin 28 = .ok (.aload_n 0, 1) := by decide +kernel
theorem dX9_begin_29 : decode cX9_begin 29 = .ok (.getfield 15, 3) := by decide +kernel
theorem dX9_begin_32 : decode cX9_begin 32 = .ok (.iload_n 1, 1) := by decide +kernel
theorem dX9_begin_33 : decode cX9_begin 33 = .ok (.aload_n 0, 1) := by decide +kernel
theorem dX9_begin_34 : decode cX9_begin 34 = .ok (.getfield 36, 3) := by decide +kernel
theorem dX9_begin_37 : decode cX9_begin 37 = .ok (.getfield 49, 3) := by decide +kernel
theorem dX9_begin_40 : decode cX9_begin 40 = .ok (.iload_n 1, 1) := by decide +kernel
theorem dX9_begin_41 : decode cX9_begin 41 = .ok (.iaload, 1) := by decide +kernel
theorem dX9_begin_42 : decode cX9_begin 42 = .ok (.iastore, 1) := by decide +kernel
theorem dX9_begin_43 : decode cX9_begin 43 = .ok (.iinc 1 1, 3) := by decide +kernel
theorem dX9_begin_46 : decode cX9_begin 46 = .ok (.goto (-44), 3) := by decide +kernel
theorem dX9_begin_49 : decode cX9_begin 49 = .ok (.iconst 0, 1) := by decide +kernel
theorem dX9_begin_50 : decode cX9_begin 50 = .ok (.istore_n 1, 1) := by decide +kernel
theorem dX9_begin_51 : decode cX9_begin 51 = .ok (.iload_n 1, 1) := by decide +kernel
theorem dX9_begin_52 : decode cX9_begin 52 = .ok (.aload_n 0, 1) := by decide +kernel
theorem dX9_begin_53 : decode cX9_begin 53 = .ok (.getfield 36, 3) := by decide +kernel
theorem dX9_begin_56 : decode cX9_begin 56 = .ok (.getfield 52, 3) := by decide +kernel
theorem dX9_begin_59 : decode cX9_begin 59 = .ok (.if_icmp .ge 38, 3) := by decide +kernel
theorem dX9_begin_62 : decode cX9_begin 62 = .ok (.aload_n 0, 1) := by decide +kernel
theorem dX9_begin_63 : decode cX9_begin 63 = .ok (.getfield 21, 3) := by decide +kernel
theorem dX9_begin_66 : decode cX9_begin 66 = .ok (.iload_n 1, 1) := by decide +kernel
theorem dX9_begin_67 : decode cX9_begin 67 = .ok (.aload_n 0, 1) := by decide +kernel
theorem dX9_begin_68 : decode cX9_begin 68 = .ok (.getfield 36, 3) := by decide +kernel
theorem dX9_begin_71 : decode cX9_begin 71 = .ok (.getfield 55, 3) := by decide +kernel
theorem dX9_begin_74 : decode cX9_begin 74 = .ok (.iload_n 1, 1) := by decide +kernel
theorem dX9_begin_75 : decode cX9_begin 75 = .ok (.iaload, 1) := by decide +kernel
theorem dX9_begin_76 : decode cX9_begin 76 = .ok (.iastore, 1) := by decide +kernel
theorem dX9_begin_77 : decode cX9_begin 77 = .ok (.aload_n 0, 1) := by decide +kernel
theorem dX9_begin_78 : decode cX9_begin 78 = .ok (.getfield 24, 3) := by decide +kernel
theorem dX9_begin_81 : decode cX9_begin 81 = .ok (.iload_n 1, 1) := by decide +kernel
theorem dX9_begin_82 : decode cX9_begin 82 = .ok (.iconst 0, 1) := by decide +kernel
theorem dX9_begin_83 : decode cX9_begin 83 = .ok (.iastore, 1) := by decide +kernel
theorem dX9_begin_84 : decode cX9_begin 84 = .ok (.aload_n 0, 1) := by decide +kernel
theorem dX9_begin_85 : decode cX9_begin 85 = .ok (.getfield 33, 3) := by decide +kernel
theorem dX9_begin_88 : decode cX9_begin 88 = .ok (.iload_n 1, 1) := by decide +kernel
theorem dX9_begin_89 : decode cX9_begin 89 = .ok (.iconst 0, 1) := by decide +kernel
theorem dX9_begin_90 : decode cX9_begin 90 = .ok (.iastore, 1) := by decide +kernel
theorem dX9_begin_91 : decode cX9_begin 91 = .ok (.iinc 1 1, 3) := by decide +kernel
theorem dX9_begin_94 : decode cX9_begin 94 = .ok (.goto (-43), 3) := by decide +kernel
theorem dX9_begin_97 : decode cX9_begin 97 = .ok (.aload_n 0, 1) := by decide +kernel
theorem dX9_begin_98 : decode cX9_begin 98 = .ok (.iconst 0, 1) := by decide +kernel
theorem dX9_begin_99 : decode cX9_begin 99 = .ok (.putfield 58, 3) := by decide +kernel
theorem dX9_begin_102 : decode cX9_begin 102 = .ok (.aload_n 0, 1) := by decide +kernel
theorem dX9_begin_103 : decode cX9_begin 103 = .ok (.iconst 0, 1) := by decide +kernel
theorem dX9_begin_104 : decode cX9_begin 104 = .ok (.putfield 61, 3) := by decide +kernel
theorem dX9_begin_107 : decode cX9_begin 107 = .ok (.aload_n 0, 1) := by decide +kernel
theorem dX9_begin_108 : decode cX9_begin 108 = .ok (.iconst 0, 1) := by decide +kernel
theorem dX9_begin_109 : decode cX9_begin 109 = .ok (.putfield 64, 3) := by decide +kernel
theorem dX9_begin_112 : decode cX9_begin 112 = .ok (.aload_n 0, 1) := by decide +kernel
theorem dX9_begin_113 : decode cX9_begin 113 = .ok (.invokevirtual 67, 3) := by decide +kernel
theorem dX9_begin_116 : decode cX9_begin 116 = .ok (.return_, 1) := by decide +kernel
set_option maxRecDepth 100000 in
set_option maxHeartbeats 4000000 in
theorem wfX9_begin_51 {E : KE} {p : Program} {l : Launch} {e : Env} {s : State} {m : MethodId} {args : Array Value} {below : List Frame} {meth : Method} {c : Code} {q : MM} (C : mx_C E p m c cX9_begin 2 s args RX9 meth none)  (hT : xOK E)   : ∀ (n : Nat) (i1 : Int32) (M : MM) (H : Heap) (locs : List Loc) (ls : Array Slot), fX9_begin_51 n i1 M = some q → mx_H E s M H locs → lv_has ls 2 [(0, .ref (E.2.1.2.1 29)), (1, .int i1)] → W p l e (mx_rm 1) s m args below meth c H locs 0 0 (mx_Z E below args s none q) (F0 m 51 ls []) := by
  have hx := C.1.1
  have hb := C.1.2.1
  have hown := C.1.2.2.2.1
  have hts := C.1.2.2.2.2
  intro n
  induction n with
  | zero =>
    intro i1 M H locs ls hf hM hl
    rw [fX9_begin_51] at hf
    cases hf
  | succ n ih =>
    intro i1 M H locs ls hf hM hl
    rw [fX9_begin_51] at hf
    refine lv_iload_n hx hb dX9_begin_51 rfl (lv_at hl 1 rfl) ?_
    refine lv_aload_n hx hb dX9_begin_52 rfl (lv_at hl 0 rfl) ?_
    refine gX9_36 C hM (xt_29 hT) (f := (2, 9)) rfl (v := .ref (E.2.1.2.1 9)) rfl dX9_begin_53 ?_
    refine gX9_52 C hT hM (xt_9 hT) (f := (0, 0)) rfl (v := .int (M.1 9 1)) rfl dX9_begin_56 ?_
    refine lv_icmp_ge (tgt := 97) hx hb dX9_begin_59 (by decide) (fun hc59 => ?_) (fun hc59 => ?_)
    · replace hf := mx_ift hc59 hf
      refine lv_aload_n hx hb dX9_begin_97 rfl (lv_at hl 0 rfl) ?_
      refine lv_iconst (v := (0 : Int32)) hx hb dX9_begin_98 (by decide) ?_
      refine pX9_58 C hM (xt_29 hT) rfl rfl rfl dX9_begin_99 (fun H locs hM => ?_)
      refine lv_aload_n hx hb dX9_begin_102 rfl (lv_at hl 0 rfl) ?_
      refine lv_iconst (v := (0 : Int32)) hx hb dX9_begin_103 (by decide) ?_
      refine pX9_61 C hM (xt_29 hT) rfl rfl rfl dX9_begin_104 (fun H locs hM => ?_)
      refine lv_aload_n hx hb dX9_begin_107 rfl (lv_at hl 0 rfl) ?_
      refine lv_iconst (v := (0 : Int32)) hx hb dX9_begin_108 (by decide) ?_
      refine pX9_64 C hM (xt_29 hT) rfl rfl rfl dX9_begin_109 (fun H locs hM => ?_)
      refine lv_aload_n hx hb dX9_begin_112 rfl (lv_at hl 0 rfl) ?_
      obtain ⟨q113, hq113, hf⟩ := mx_bd hf
      refine mx_callV C hM hl.1 yo_X9_rest (h' := 0) (by decide) qw_637 qw_639 qs_30 (ci := 9) (q := (RX9, TX9, 13)) rfl (xt_29 hT) (As := []) (rest := []) (st1 := []) (kX9_rest C.2.2.2.1 29 hT xiS_29 (mx_si (mx_si (mx_si M 29 9 (0 : Int32)) 29 10 (0 : Int32)) 29 11 (0 : Int32)) hq113) rfl rfl rfl (Nat.le_of_ble_eq_true rfl) dX9_begin_113 (fun H locs hM => ?_)
      exact mx_vret C hM hf dX9_begin_116
    · replace hf := mx_iff hc59 hf
      refine lv_aload_n hx hb dX9_begin_62 rfl (lv_at hl 0 rfl) ?_
      refine gX9_21 C hM (xt_29 hT) (f := (2, 33)) rfl (v := .ref (E.2.1.2.1 33)) rfl dX9_begin_63 ?_
      refine lv_iload_n hx hb dX9_begin_66 rfl (lv_at hl 1 rfl) ?_
      refine lv_aload_n hx hb dX9_begin_67 rfl (lv_at hl 0 rfl) ?_
      refine gX9_36 C hM (xt_29 hT) (f := (2, 9)) rfl (v := .ref (E.2.1.2.1 9)) rfl dX9_begin_68 ?_
      refine gX9_55 C hT hM (xt_9 hT) (f := (2, 17)) rfl (v := .ref (E.2.1.2.1 17)) rfl dX9_begin_71 ?_
      refine lv_iload_n hx hb dX9_begin_74 rfl (lv_at hl 1 rfl) ?_
      obtain ⟨hg75, hf⟩ := mx_gd hf
      refine mx_iald C hM (xt_17 hT) (mx_in_vp hg75) dX9_begin_75 ?_
      obtain ⟨hg76, hf⟩ := mx_gd hf
      refine mx_iast C hM (xt_33 hT) (mx_in_vp hg76) dX9_begin_76 (fun H locs hM => ?_)
      refine lv_aload_n hx hb dX9_begin_77 rfl (lv_at hl 0 rfl) ?_
      refine gX9_24 C hM (xt_29 hT) (f := (2, 34)) rfl (v := .ref (E.2.1.2.1 34)) rfl dX9_begin_78 ?_
      refine lv_iload_n hx hb dX9_begin_81 rfl (lv_at hl 1 rfl) ?_
      refine lv_iconst (v := (0 : Int32)) hx hb dX9_begin_82 (by decide) ?_
      obtain ⟨hg83, hf⟩ := mx_gd hf
      refine mx_iast C hM (xt_34 hT) (mx_in_vp hg83) dX9_begin_83 (fun H locs hM => ?_)
      refine lv_aload_n hx hb dX9_begin_84 rfl (lv_at hl 0 rfl) ?_
      refine gX9_33 C hM (xt_29 hT) (f := (2, 37)) rfl (v := .ref (E.2.1.2.1 37)) rfl dX9_begin_85 ?_
      refine lv_iload_n hx hb dX9_begin_88 rfl (lv_at hl 1 rfl) ?_
      refine lv_iconst (v := (0 : Int32)) hx hb dX9_begin_89 (by decide) ?_
      obtain ⟨hg90, hf⟩ := mx_gd hf
      refine mx_iast C hM (xt_37 hT) (mx_in_vp hg90) dX9_begin_90 (fun H locs hM => ?_)
      refine lv_iinc (v := (i1 + (1 : Int32))) (lv' := [(1, .int (i1 + (1 : Int32))), (0, .ref (E.2.1.2.1 29))]) hx hb dX9_begin_91 hl (k := 1) rfl rfl (by decide) rfl (fun ls hl => ?_)
      refine lv_goto (tgt := 51) hx hb dX9_begin_94 (by decide) ?_
      exact ih (i1 + (1 : Int32)) (mx_si (mx_si (mx_si M 33 i1.toNatClampNeg (M.1 17 i1.toNatClampNeg)) 34 i1.toNatClampNeg (0 : Int32)) 37 i1.toNatClampNeg (0 : Int32)) _ _ _ hf hM (lv_sub hl [1, 0] rfl)
set_option maxRecDepth 100000 in
set_option maxHeartbeats 4000000 in
theorem wfX9_begin_2 {E : KE} {p : Program} {l : Launch} {e : Env} {s : State} {m : MethodId} {args : Array Value} {below : List Frame} {meth : Method} {c : Code} {q : MM} (C : mx_C E p m c cX9_begin 2 s args RX9 meth none)  (hT : xOK E)   : ∀ (n : Nat) (i1 : Int32) (M : MM) (H : Heap) (locs : List Loc) (ls : Array Slot), fX9_begin_2 n i1 M = some q → mx_H E s M H locs → lv_has ls 2 [(0, .ref (E.2.1.2.1 29)), (1, .int i1)] → W p l e (mx_rm 1) s m args below meth c H locs 0 0 (mx_Z E below args s none q) (F0 m 2 ls []) := by
  have hx := C.1.1
  have hb := C.1.2.1
  have hown := C.1.2.2.2.1
  have hts := C.1.2.2.2.2
  intro n
  induction n with
  | zero =>
    intro i1 M H locs ls hf hM hl
    rw [fX9_begin_2] at hf
    cases hf
  | succ n ih =>
    intro i1 M H locs ls hf hM hl
    rw [fX9_begin_2] at hf
    refine lv_iload_n hx hb dX9_begin_2 rfl (lv_at hl 1 rfl) ?_
    refine lv_aload_n hx hb dX9_begin_3 rfl (lv_at hl 0 rfl) ?_
    refine gX9_36 C hM (xt_29 hT) (f := (2, 9)) rfl (v := .ref (E.2.1.2.1 9)) rfl dX9_begin_4 ?_
    refine gX9_40 C hT hM (xt_9 hT) (f := (0, 0)) rfl (v := .int (M.1 9 0)) rfl dX9_begin_7 ?_
    refine lv_icmp_ge (tgt := 49) hx hb dX9_begin_10 (by decide) (fun hc10 => ?_) (fun hc10 => ?_)
    · replace hf := mx_ift hc10 hf
      refine lv_iconst (v := (0 : Int32)) hx hb dX9_begin_49 (by decide) ?_
      refine lv_istore_n (lv' := [(1, .int (0 : Int32)), (0, .ref (E.2.1.2.1 29))]) hx hb dX9_begin_50 rfl hl (by decide) rfl (fun ls hl => ?_)
      exact wfX9_begin_51 C hT mx_fu (0 : Int32) M _ _ _ hf hM (lv_sub hl [1, 0] rfl)
    · replace hf := mx_iff hc10 hf
      refine lv_aload_n hx hb dX9_begin_13 rfl (lv_at hl 0 rfl) ?_
      refine gX9_9 C hM (xt_29 hT) (f := (2, 30)) rfl (v := .ref (E.2.1.2.1 30)) rfl dX9_begin_14 ?_
      refine lv_iload_n hx hb dX9_begin_17 rfl (lv_at hl 1 rfl) ?_
      refine lv_aload_n hx hb dX9_begin_18 rfl (lv_at hl 0 rfl) ?_
      refine gX9_36 C hM (xt_29 hT) (f := (2, 9)) rfl (v := .ref (E.2.1.2.1 9)) rfl dX9_begin_19 ?_
      refine gX9_46 C hT hM (xt_9 hT) (f := (2, 11)) rfl (v := .ref (E.2.1.2.1 11)) rfl dX9_begin_22 ?_
      refine lv_iload_n hx hb dX9_begin_25 rfl (lv_at hl 1 rfl) ?_
      obtain ⟨hg26, hf⟩ := mx_gd hf
      refine mx_iald C hM (xt_11 hT) (mx_in_vp hg26) dX9_begin_26 ?_
      obtain ⟨hg27, hf⟩ := mx_gd hf
      refine mx_iast C hM (xt_30 hT) (mx_in_vp hg27) dX9_begin_27 (fun H locs hM => ?_)
      refine lv_aload_n hx hb dX9_begin_28 rfl (lv_at hl 0 rfl) ?_
      refine gX9_15 C hM (xt_29 hT) (f := (2, 31)) rfl (v := .ref (E.2.1.2.1 31)) rfl dX9_begin_29 ?_
      refine lv_iload_n hx hb dX9_begin_32 rfl (lv_at hl 1 rfl) ?_
      refine lv_aload_n hx hb dX9_begin_33 rfl (lv_at hl 0 rfl) ?_
      refine gX9_36 C hM (xt_29 hT) (f := (2, 9)) rfl (v := .ref (E.2.1.2.1 9)) rfl dX9_begin_34 ?_
      refine gX9_49 C hT hM (xt_9 hT) (f := (2, 12)) rfl (v := .ref (E.2.1.2.1 12)) rfl dX9_begin_37 ?_
      refine lv_iload_n hx hb dX9_begin_40 rfl (lv_at hl 1 rfl) ?_
      obtain ⟨hg41, hf⟩ := mx_gd hf
      refine mx_iald C hM (xt_12 hT) (mx_in_vp hg41) dX9_begin_41 ?_
      obtain ⟨hg42, hf⟩ := mx_gd hf
      refine mx_iast C hM (xt_31 hT) (mx_in_vp hg42) dX9_begin_42 (fun H locs hM => ?_)
      refine lv_iinc (v := (i1 + (1 : Int32))) (lv' := [(1, .int (i1 + (1 : Int32))), (0, .ref (E.2.1.2.1 29))]) hx hb dX9_begin_43 hl (k := 1) rfl rfl (by decide) rfl (fun ls hl => ?_)
      refine lv_goto (tgt := 2) hx hb dX9_begin_46 (by decide) ?_
      exact ih (i1 + (1 : Int32)) (mx_si (mx_si M 30 i1.toNatClampNeg (M.1 11 i1.toNatClampNeg)) 31 i1.toNatClampNeg ((mx_si M 30 i1.toNatClampNeg (M.1 11 i1.toNatClampNeg)).1 12 i1.toNatClampNeg)) _ _ _ hf hM (lv_sub hl [1, 0] rfl)
set_option maxRecDepth 100000 in
set_option maxHeartbeats 4000000 in
theorem kX9_begin {E : KE} {l : Launch} (hE : mx_ok E)  (hT : xOK E) (M : MM) {q : MM} (hf : fX9_begin M = some q) : mx_Met E l yX9_begin cX9_begin 2 none 1 [.ref (E.2.1.2.1 29)] M none q := by
  refine mx_enter hE (by decide) (Nat.le_of_ble_eq_true rfl) ?_
  intro p e s m below meth c C hM hn ls hl
  have hx := C.1.1
  have hb := C.1.2.1
  have hown := C.1.2.2.2.1
  have hts := C.1.2.2.2.2
  have hl : lv_has ls 2 [(0, .ref (E.2.1.2.1 29))] := hl
  rw [fX9_begin] at hf
  refine lv_iconst (v := (0 : Int32)) hx hb dX9_begin_0 (by decide) ?_
  refine lv_istore_n (lv' := [(1, .int (0 : Int32)), (0, .ref (E.2.1.2.1 29))]) hx hb dX9_begin_1 rfl hl (by decide) rfl (fun ls hl => ?_)
  exact wfX9_begin_2 C hT mx_fu (0 : Int32) M _ _ _ hf hM (lv_sub hl [1, 0] rfl)
theorem dX9_ringX_0 : decode cX9_ringX 0 = .ok (.aload_n 0, 1) := by decide +kernel
theorem dX9_ringX_1 : decode cX9_ringX 1 = .ok (.getfield 21, 3) := by decide +kernel
theorem dX9_ringX_4 : decode cX9_ringX 4 = .ok (.iload_n 1, 1) := by decide +kernel
theorem dX9_ringX_5 : decode cX9_ringX 5 = .ok (.iaload, 1) := by decide +kernel
theorem dX9_ringX_6 : decode cX9_ringX 6 = .ok (.istore_n 2, 1) := by decide +kernel
theorem dX9_ringX_7 : decode cX9_ringX 7 = .ok (.aload_n 0, 1) := by decide +kernel
theorem dX9_ringX_8 : decode cX9_ringX 8 = .ok (.getfield 36, 3) := by decide +kernel
theorem dX9_ringX_11 : decode cX9_ringX 11 = .ok (.iload_n 2, 1) := by decide +kernel
theorem dX9_ringX_12 : decode cX9_ringX 12 = .ok (.invokevirtual 90, 3) := by decide +kernel
theorem dX9_ringX_15 : decode cX9_ringX 15 = .ok (.ifCond .eq 12, 3) := by decide +kernel
theorem dX9_ringX_18 : decode cX9_ringX 18 = .ok (.aload_n 0, 1) := by decide +kernel
theorem dX9_ringX_19 : decode cX9_ringX 19 = .ok (.getfield 9, 3) := by decide +kernel
theorem dX9_ringX_22 : decode cX9_ringX 22 = .ok (.iload_n 2, 1) := by decide +kernel
theorem dX9_ringX_23 : decode cX9_ringX 23 = .ok (.iaload, 1) := by decide +kernel
theorem dX9_ringX_24 : decode cX9_ringX 24 = .ok (.goto 9, 3) := by decide +kernel
theorem dX9_ringX_27 : decode cX9_ringX 27 = .ok (.aload_n 0, 1) := by decide +kernel
theorem dX9_ringX_28 : decode cX9_ringX 28 = .ok (.getfield 27, 3) := by decide +kernel
theorem dX9_ringX_31 : decode cX9_ringX 31 = .ok (.iload_n 1, 1) := by decide +kernel
theorem dX9_ringX_32 : decode cX9_ringX 32 = .ok (.iaload, 1) := by decide +kernel
theorem dX9_ringX_33 : decode cX9_ringX 33 = .ok (.ireturn, 1) := by decide +kernel
set_option maxRecDepth 100000 in
set_option maxHeartbeats 4000000 in
theorem kX9_ringX {E : KE} {l : Launch} (hE : mx_ok E) (i1 : Int32) (hT : xOK E) (M : MM) {q : Int32} (hf : fX9_ringX i1 M = some q) : mx_Met E l yX9_ringX cX9_ringX 3 (some .int) 1 [.ref (E.2.1.2.1 29), .int i1] M (some (.int q)) M := by
  refine mx_enter hE (by decide) (Nat.le_of_ble_eq_true rfl) ?_
  intro p e s m below meth c C hM hn ls hl
  have hx := C.1.1
  have hb := C.1.2.1
  have hown := C.1.2.2.2.1
  have hts := C.1.2.2.2.2
  have hl : lv_has ls 3 [(0, .ref (E.2.1.2.1 29)), (1, .int i1)] := hl
  rw [fX9_ringX] at hf
  refine lv_aload_n hx hb dX9_ringX_0 rfl (lv_at hl 0 rfl) ?_
  refine gX9_21 C hM (xt_29 hT) (f := (2, 33)) rfl (v := .ref (E.2.1.2.1 33)) rfl dX9_ringX_1 ?_
  refine lv_iload_n hx hb dX9_ringX_4 rfl (lv_at hl 1 rfl) ?_
  obtain ⟨hg5, hf⟩ := mx_gd hf
  refine mx_iald C hM (xt_33 hT) (mx_in_vp hg5) dX9_ringX_5 ?_
  refine lv_istore_n (lv' := [(2, .int (M.1 33 i1.toNatClampNeg)), (0, .ref (E.2.1.2.1 29)), (1, .int i1)]) hx hb dX9_ringX_6 rfl hl (by decide) rfl (fun ls hl => ?_)
  refine lv_aload_n hx hb dX9_ringX_7 rfl (lv_at hl 1 rfl) ?_
  refine gX9_36 C hM (xt_29 hT) (f := (2, 9)) rfl (v := .ref (E.2.1.2.1 9)) rfl dX9_ringX_8 ?_
  refine lv_iload_n hx hb dX9_ringX_11 rfl (lv_at hl 0 rfl) ?_
  obtain ⟨q12, hq12, hf⟩ := mx_bd hf
  refine mx_callVN C hM hl.1 yo_X3_isPerson (h' := 0) (by decide) (nw_737 hT C) qw_663 qs_34 (ci := 3) (q := (RX3, TX3, 18)) rfl (xt_9 hT) (As := [.int (M.1 33 i1.toNatClampNeg)]) (rest := []) (st1 := [.int (mx_b q12)]) (kX3_isPerson C.2.2.2.1 (M.1 33 i1.toNatClampNeg) hT M hq12) rfl rfl rfl (Nat.le_of_ble_eq_true rfl) dX9_ringX_12 (fun H locs hM => ?_)
  refine lv_if_eq (tgt := 27) hx hb dX9_ringX_15 (by decide) (fun hc15 => ?_) (fun hc15 => ?_)
  · replace hf := mx_ift hc15 hf
    refine lv_aload_n hx hb dX9_ringX_27 rfl (lv_at hl 1 rfl) ?_
    refine gX9_27 C hM (xt_29 hT) (f := (2, 35)) rfl (v := .ref (E.2.1.2.1 35)) rfl dX9_ringX_28 ?_
    refine lv_iload_n hx hb dX9_ringX_31 rfl (lv_at hl 2 rfl) ?_
    obtain ⟨hg32, hf⟩ := mx_gd hf
    refine mx_iald C hM (xt_35 hT) (mx_in_vp hg32) dX9_ringX_32 ?_
    exact mx_iretR C hM hf dX9_ringX_33
  · replace hf := mx_iff hc15 hf
    refine lv_aload_n hx hb dX9_ringX_18 rfl (lv_at hl 1 rfl) ?_
    refine gX9_9 C hM (xt_29 hT) (f := (2, 30)) rfl (v := .ref (E.2.1.2.1 30)) rfl dX9_ringX_19 ?_
    refine lv_iload_n hx hb dX9_ringX_22 rfl (lv_at hl 0 rfl) ?_
    obtain ⟨hg23, hf⟩ := mx_gd hf
    refine mx_iald C hM (xt_30 hT) (mx_in_vp hg23) dX9_ringX_23 ?_
    refine lv_goto (tgt := 33) hx hb dX9_ringX_24 (by decide) ?_
    exact mx_iretR C hM hf dX9_ringX_33
theorem dX9_ringY_0 : decode cX9_ringY 0 = .ok (.aload_n 0, 1) := by decide +kernel
theorem dX9_ringY_1 : decode cX9_ringY 1 = .ok (.getfield 21, 3) := by decide +kernel
theorem dX9_ringY_4 : decode cX9_ringY 4 = .ok (.iload_n 1, 1) := by decide +kernel
theorem dX9_ringY_5 : decode cX9_ringY 5 = .ok (.iaload, 1) := by decide +kernel
theorem dX9_ringY_6 : decode cX9_ringY 6 = .ok (.istore_n 2, 1) := by decide +kernel
theorem dX9_ringY_7 : decode cX9_ringY 7 = .ok (.aload_n 0, 1) := by decide +kernel
theorem dX9_ringY_8 : decode cX9_ringY 8 = .ok (.getfield 36, 3) := by decide +kernel
theorem dX9_ringY_11 : decode cX9_ringY 11 = .ok (.iload_n 2, 1) := by decide +kernel
theorem dX9_ringY_12 : decode cX9_ringY 12 = .ok (.invokevirtual 90, 3) := by decide +kernel
theorem dX9_ringY_15 : decode cX9_ringY 15 = .ok (.ifCond .eq 12, 3) := by decide +kernel
theorem dX9_ringY_18 : decode cX9_ringY 18 = .ok (.aload_n 0, 1) := by decide +kernel
theorem dX9_ringY_19 : decode cX9_ringY 19 = .ok (.getfield 15, 3) := by decide +kernel
theorem dX9_ringY_22 : decode cX9_ringY 22 = .ok (.iload_n 2, 1) := by decide +kernel
theorem dX9_ringY_23 : decode cX9_ringY 23 = .ok (.iaload, 1) := by decide +kernel
theorem dX9_ringY_24 : decode cX9_ringY 24 = .ok (.goto 9, 3) := by decide +kernel
theorem dX9_ringY_27 : decode cX9_ringY 27 = .ok (.aload_n 0, 1) := by decide +kernel
theorem dX9_ringY_28 : decode cX9_ringY 28 = .ok (.getfield 30, 3) := by decide +kernel
theorem dX9_ringY_31 : decode cX9_ringY 31 = .ok (.iload_n 1, 1) := by decide +kernel
theorem dX9_ringY_32 : decode cX9_ringY 32 = .ok (.iaload, 1) := by decide +kernel
theorem dX9_ringY_33 : decode cX9_ringY 33 = .ok (.ireturn, 1) := by decide +kernel
set_option maxRecDepth 100000 in
set_option maxHeartbeats 4000000 in
theorem kX9_ringY {E : KE} {l : Launch} (hE : mx_ok E) (i1 : Int32) (hT : xOK E) (M : MM) {q : Int32} (hf : fX9_ringY i1 M = some q) : mx_Met E l yX9_ringY cX9_ringY 3 (some .int) 1 [.ref (E.2.1.2.1 29), .int i1] M (some (.int q)) M := by
  refine mx_enter hE (by decide) (Nat.le_of_ble_eq_true rfl) ?_
  intro p e s m below meth c C hM hn ls hl
  have hx := C.1.1
  have hb := C.1.2.1
  have hown := C.1.2.2.2.1
  have hts := C.1.2.2.2.2
  have hl : lv_has ls 3 [(0, .ref (E.2.1.2.1 29)), (1, .int i1)] := hl
  rw [fX9_ringY] at hf
  refine lv_aload_n hx hb dX9_ringY_0 rfl (lv_at hl 0 rfl) ?_
  refine gX9_21 C hM (xt_29 hT) (f := (2, 33)) rfl (v := .ref (E.2.1.2.1 33)) rfl dX9_ringY_1 ?_
  refine lv_iload_n hx hb dX9_ringY_4 rfl (lv_at hl 1 rfl) ?_
  obtain ⟨hg5, hf⟩ := mx_gd hf
  refine mx_iald C hM (xt_33 hT) (mx_in_vp hg5) dX9_ringY_5 ?_
  refine lv_istore_n (lv' := [(2, .int (M.1 33 i1.toNatClampNeg)), (0, .ref (E.2.1.2.1 29)), (1, .int i1)]) hx hb dX9_ringY_6 rfl hl (by decide) rfl (fun ls hl => ?_)
  refine lv_aload_n hx hb dX9_ringY_7 rfl (lv_at hl 1 rfl) ?_
  refine gX9_36 C hM (xt_29 hT) (f := (2, 9)) rfl (v := .ref (E.2.1.2.1 9)) rfl dX9_ringY_8 ?_
  refine lv_iload_n hx hb dX9_ringY_11 rfl (lv_at hl 0 rfl) ?_
  obtain ⟨q12, hq12, hf⟩ := mx_bd hf
  refine mx_callVN C hM hl.1 yo_X3_isPerson (h' := 0) (by decide) (nw_737 hT C) qw_663 qs_34 (ci := 3) (q := (RX3, TX3, 18)) rfl (xt_9 hT) (As := [.int (M.1 33 i1.toNatClampNeg)]) (rest := []) (st1 := [.int (mx_b q12)]) (kX3_isPerson C.2.2.2.1 (M.1 33 i1.toNatClampNeg) hT M hq12) rfl rfl rfl (Nat.le_of_ble_eq_true rfl) dX9_ringY_12 (fun H locs hM => ?_)
  refine lv_if_eq (tgt := 27) hx hb dX9_ringY_15 (by decide) (fun hc15 => ?_) (fun hc15 => ?_)
  · replace hf := mx_ift hc15 hf
    refine lv_aload_n hx hb dX9_ringY_27 rfl (lv_at hl 1 rfl) ?_
    refine gX9_30 C hM (xt_29 hT) (f := (2, 36)) rfl (v := .ref (E.2.1.2.1 36)) rfl dX9_ringY_28 ?_
    refine lv_iload_n hx hb dX9_ringY_31 rfl (lv_at hl 2 rfl) ?_
    obtain ⟨hg32, hf⟩ := mx_gd hf
    refine mx_iald C hM (xt_36 hT) (mx_in_vp hg32) dX9_ringY_32 ?_
    exact mx_iretR C hM hf dX9_ringY_33
  · replace hf := mx_iff hc15 hf
    refine lv_aload_n hx hb dX9_ringY_18 rfl (lv_at hl 1 rfl) ?_
    refine gX9_15 C hM (xt_29 hT) (f := (2, 31)) rfl (v := .ref (E.2.1.2.1 31)) rfl dX9_ringY_19 ?_
    refine lv_iload_n hx hb dX9_ringY_22 rfl (lv_at hl 0 rfl) ?_
    obtain ⟨hg23, hf⟩ := mx_gd hf
    refine mx_iald C hM (xt_31 hT) (mx_in_vp hg23) dX9_ringY_23 ?_
    refine lv_goto (tgt := 33) hx hb dX9_ringY_24 (by decide) ?_
    exact mx_iretR C hM hf dX9_ringY_33
theorem dX9_draw_0 : decode cX9_draw 0 = .ok (.aload_n 0, 1) := by decide +kernel
theorem dX9_draw_1 : decode cX9_draw 1 = .ok (.aload_n 0, 1) := by decide +kernel
theorem dX9_draw_2 : decode cX9_draw 2 = .ok (.getfield 144, 3) := by decide +kernel
theorem dX9_draw_5 : decode cX9_draw 5 = .ok (.ldc 151, 2) := by decide +kernel
theorem dX9_draw_7 : decode cX9_draw 7 = .ok (.imul, 1) := by decide +kernel
theorem dX9_draw_8 : decode cX9_draw 8 = .ok (.sipush 12345, 3) := by decide +kernel
theorem dX9_draw_11 : decode cX9_draw 11 = .ok (.iadd, 1) := by decide +kernel
theorem dX9_draw_12 : decode cX9_draw 12 = .ok (.putfield 144, 3) := by decide +kernel
theorem dX9_draw_15 : decode cX9_draw 15 = .ok (.iload_n 1, 1) := by decide +kernel
theorem dX9_draw_16 : decode cX9_draw 16 = .ok (.iconst 1, 1) := by decide +kernel
theorem dX9_draw_17 : decode cX9_draw 17 = .ok (.if_icmp .ge 7, 3) := by decide +kernel
theorem dX9_draw_20 : decode cX9_draw 20 = .ok (.iconst 0, 1) := by decide +kernel
theorem dX9_draw_21 : decode cX9_draw 21 = .ok (.goto 12, 3) := by decide +kernel
theorem dX9_draw_24 : decode cX9_draw 24 = .ok (.aload_n 0, 1) := by decide +kernel
theorem dX9_draw_25 : decode cX9_draw 25 = .ok (.getfield 144, 3) := by decide +kernel
theorem dX9_draw_28 : decode cX9_draw 28 = .ok (.bipush 8, 2) := by decide +kernel
theorem dX9_draw_30 : decode cX9_draw 30 = .ok (.iushr, 1) := by decide +kernel
theorem dX9_draw_31 : decode cX9_draw 31 = .ok (.iload_n 1, 1) := by decide +kernel
theorem dX9_draw_32 : decode cX9_draw 32 = .ok (.irem, 1) := by decide +kernel
theorem dX9_draw_33 : decode cX9_draw 33 = .ok (.ireturn, 1) := by decide +kernel
set_option maxRecDepth 100000 in
set_option maxHeartbeats 4000000 in
theorem kX9_draw {E : KE} {l : Launch} (hE : mx_ok E) (o : Nat) (i1 : Int32) (hT : xOK E) (ho : xt_isS o = true) (M : MM) {q : (Int32 × MM)} (hf : fX9_draw o i1 M = some q) : mx_Met E l yX9_draw cX9_draw 2 (some .int) 0 [.ref (E.2.1.2.1 o), .int i1] M (some (.int q.1)) q.2 := by
  refine mx_enter hE (by decide) (Nat.le_of_ble_eq_true rfl) ?_
  intro p e s m below meth c C hM hn ls hl
  have hx := C.1.1
  have hb := C.1.2.1
  have hown := C.1.2.2.2.1
  have hts := C.1.2.2.2.2
  have hl : lv_has ls 2 [(0, .ref (E.2.1.2.1 o)), (1, .int i1)] := hl
  rw [fX9_draw] at hf
  refine lv_aload_n hx hb dX9_draw_0 rfl (lv_at hl 0 rfl) ?_
  refine lv_aload_n hx hb dX9_draw_1 rfl (lv_at hl 0 rfl) ?_
  refine gX9_144 C hM (xoS hT ho) (f := (0, 0)) rfl (v := .int (M.1 o 12)) rfl dX9_draw_2 ?_
  refine lv_ldc (v := (1103515245)) hx hb hown (hts _ qw_1077) dX9_draw_5 ?_
  refine lv_imul hx hb dX9_draw_7 ?_
  refine lv_sipush (v := (12345 : Int32)) hx hb dX9_draw_8 (by decide) ?_
  refine lv_iadd hx hb dX9_draw_11 ?_
  refine pX9_144 C hM (xoS hT ho) rfl rfl rfl dX9_draw_12 (fun H locs hM => ?_)
  refine lv_iload_n hx hb dX9_draw_15 rfl (lv_at hl 1 rfl) ?_
  refine lv_iconst (v := (1 : Int32)) hx hb dX9_draw_16 (by decide) ?_
  refine lv_icmp_ge (tgt := 24) hx hb dX9_draw_17 (by decide) (fun hc17 => ?_) (fun hc17 => ?_)
  · replace hf := mx_ift hc17 hf
    refine lv_aload_n hx hb dX9_draw_24 rfl (lv_at hl 0 rfl) ?_
    refine gX9_144 C hM (xoS hT ho) (f := (0, 0)) rfl (v := .int ((mx_si M o 12 (((M.1 o 12) * (1103515245 : Int32)) + (12345 : Int32))).1 o 12)) rfl dX9_draw_25 ?_
    refine lv_bipush (v := (8 : Int32)) hx hb dX9_draw_28 (by decide) ?_
    refine lv_iushr (v := (mx_ushr ((mx_si M o 12 (((M.1 o 12) * (1103515245 : Int32)) + (12345 : Int32))).1 o 12) (8 : Int32))) hx hb dX9_draw_30 rfl ?_
    refine lv_iload_n hx hb dX9_draw_31 rfl (lv_at hl 1 rfl) ?_
    obtain ⟨hz32, hf⟩ := mx_gn hf
    refine lv_irem hx hb dX9_draw_32 hz32 ?_
    exact mx_iret C hM hf dX9_draw_33
  · replace hf := mx_iff hc17 hf
    refine lv_iconst (v := (0 : Int32)) hx hb dX9_draw_20 (by decide) ?_
    refine lv_goto (tgt := 33) hx hb dX9_draw_21 (by decide) ?_
    exact mx_iret C hM hf dX9_draw_33
theorem dX9_drawAct_0 : decode cX9_drawAct 0 = .ok (.aload_n 0, 1) := by decide +kernel
theorem dX9_drawAct_1 : decode cX9_drawAct 1 = .ok (.bipush 6, 2) := by decide +kernel
theorem dX9_drawAct_3 : decode cX9_drawAct 3 = .ok (.invokevirtual 152, 3) := by decide +kernel
theorem dX9_drawAct_6 : decode cX9_drawAct 6 = .ok (.tableswitch 143 0 4 #[34, 34, 59, 104, 134], 34) := by decide +kernel
theorem dX9_drawAct_40 : decode cX9_drawAct 40 = .ok (.aload_n 0, 1) := by decide +kernel
theorem dX9_drawAct_41 : decode cX9_drawAct 41 = .ok (.bipush 21, 2) := by decide +kernel
theorem dX9_drawAct_43 : decode cX9_drawAct 43 = .ok (.invokevirtual 152, 3) := by decide +kernel
theorem dX9_drawAct_46 : decode cX9_drawAct 46 = .ok (.istore_n 2, 1) := by decide +kernel
theorem dX9_drawAct_47 : decode cX9_drawAct 47 = .ok (.aload_n 0, 1) := by decide +kernel
theorem dX9_drawAct_48 : decode cX9_drawAct 48 = .ok (.bipush 21, 2) := by decide +kernel
theorem dX9_drawAct_50 : decode cX9_drawAct 50 = .ok (.invokevirtual 152, 3) := by decide +kernel
theorem dX9_drawAct_53 : decode cX9_drawAct 53 = .ok (.istore_n 3, 1) := by decide +kernel
theorem dX9_drawAct_54 : decode cX9_drawAct 54 = .ok (.aload_n 0, 1) := by decide +kernel
theorem dX9_drawAct_55 : decode cX9_drawAct 55 = .ok (.iload_n 1, 1) := by decide +kernel
theorem dX9_drawAct_56 : decode cX9_drawAct 56 = .ok (.iload_n 2, 1) := by decide +kernel
theorem dX9_drawAct_57 : decode cX9_drawAct 57 = .ok (.iload_n 3, 1) := by decide +kernel
theorem dX9_drawAct_58 : decode cX9_drawAct 58 = .ok (.invokevirtual 155, 3) := by decide +kernel
theorem dX9_drawAct_61 : decode cX9_drawAct 61 = .ok (.pop, 1) := by decide +kernel
theorem dX9_drawAct_62 : decode cX9_drawAct 62 = .ok (.goto 87, 3) := by decide +kernel
theorem dX9_drawAct_65 : decode cX9_drawAct 65 = .ok (.aload_n 0, 1) := by decide +kernel
theorem dX9_drawAct_66 : decode cX9_drawAct 66 = .ok (.getfield 36, 3) := by decide +kernel
theorem dX9_drawAct_69 : decode cX9_drawAct 69 = .ok (.getfield 52, 3) := by decide +kernel
theorem dX9_drawAct_72 : decode cX9_drawAct 72 = .ok (.ifCond .le 77, 3) := by decide +kernel
theorem dX9_drawAct_75 : decode cX9_drawAct 75 = .ok (.aload_n 0, 1) := by decide +kernel
theorem dX9_drawAct_76 : decode cX9_drawAct 76 = .ok (.aload_n 0, 1) := by decide +kernel
theorem dX9_drawAct_77 : decode cX9_drawAct 77 = .ok (.getfield 36, 3) := by decide +kernel
theorem dX9_drawAct_80 : decode cX9_drawAct 80 = .ok (.getfield 52, 3) := by decide +kernel
theorem dX9_drawAct_83 : decode cX9_drawAct 83 = .ok (.invokevirtual 152, 3) := by decide +kernel
theorem dX9_drawAct_86 : decode cX9_drawAct 86 = .ok (.istore 4, 2) := by decide +kernel
theorem dX9_drawAct_88 : decode cX9_drawAct 88 = .ok (.aload_n 0, 1) := by decide +kernel
theorem dX9_drawAct_89 : decode cX9_drawAct 89 = .ok (.iload_n 1, 1) := by decide +kernel
theorem dX9_drawAct_90 : decode cX9_drawAct 90 = .ok (.iload 4, 2) := by decide +kernel
theorem dX9_drawAct_92 : decode cX9_drawAct 92 = .ok (.aload_n 0, 1) := by decide +kernel
theorem dX9_drawAct_93 : decode cX9_drawAct 93 = .ok (.aload_n 0, 1) := by decide +kernel
theorem dX9_drawAct_94 : decode cX9_drawAct 94 = .ok (.getfield 36, 3) := by decide +kernel
theorem dX9_drawAct_97 : decode cX9_drawAct 97 = .ok (.getfield 40, 3) := by decide +kernel
theorem dX9_drawAct_100 : decode cX9_drawAct 100 = .ok (.invokevirtual 152, 3) := by decide +kernel
theorem dX9_drawAct_103 : decode cX9_drawAct 103 = .ok (.invokevirtual 158, 3) := by decide +kernel
theorem dX9_drawAct_106 : decode cX9_drawAct 106 = .ok (.pop, 1) := by decide +kernel
theorem dX9_drawAct_107 : decode cX9_drawAct 107 = .ok (.goto 42, 3) := by decide +kernel
theorem dX9_drawAct_110 : decode cX9_drawAct 110 = .ok (.aload_n 0, 1) := by decide +kernel
theorem dX9_drawAct_111 : decode cX9_drawAct 111 = .ok (.getfield 36, 3) := by decide +kernel
theorem dX9_drawAct_114 : decode cX9_drawAct 114 = .ok (.getfield 52, 3) := by decide +kernel
theorem dX9_drawAct_117 : decode cX9_drawAct 117 = .ok (.ifCond .le 32, 3) := by decide +kernel
theorem dX9_drawAct_120 : decode cX9_drawAct 120 = .ok (.aload_n 0, 1) := by decide +kernel
theorem dX9_drawAct_121 : decode cX9_drawAct 121 = .ok (.iload_n 1, 1) := by decide +kernel
theorem dX9_drawAct_122 : decode cX9_drawAct 122 = .ok (.aload_n 0, 1) := by decide +kernel
theorem dX9_drawAct_123 : decode cX9_drawAct 123 = .ok (.aload_n 0, 1) := by decide +kernel
theorem dX9_drawAct_124 : decode cX9_drawAct 124 = .ok (.getfield 36, 3) := by decide +kernel
theorem dX9_drawAct_127 : decode cX9_drawAct 127 = .ok (.getfield 52, 3) := by decide +kernel
theorem dX9_drawAct_130 : decode cX9_drawAct 130 = .ok (.invokevirtual 152, 3) := by decide +kernel
theorem dX9_drawAct_133 : decode cX9_drawAct 133 = .ok (.invokevirtual 161, 3) := by decide +kernel
theorem dX9_drawAct_136 : decode cX9_drawAct 136 = .ok (.pop, 1) := by decide +kernel
theorem dX9_drawAct_137 : decode cX9_drawAct 137 = .ok (.goto 12, 3) := by decide +kernel
theorem dX9_drawAct_140 : decode cX9_drawAct 140 = .ok (.aload_n 0, 1) := by decide +kernel
theorem dX9_drawAct_141 : decode cX9_drawAct 141 = .ok (.iload_n 1, 1) := by decide +kernel
theorem dX9_drawAct_142 : decode cX9_drawAct 142 = .ok (.invokevirtual 164, 3) := by decide +kernel
theorem dX9_drawAct_145 : decode cX9_drawAct 145 = .ok (.pop, 1) := by decide +kernel
theorem dX9_drawAct_146 : decode cX9_drawAct 146 = .ok (.goto 3, 3) := by decide +kernel
theorem dX9_drawAct_149 : decode cX9_drawAct 149 = .ok (.return_, 1) := by decide +kernel
set_option maxRecDepth 100000 in
set_option maxHeartbeats 4000000 in
theorem kX9_drawAct {E : KE} {l : Launch} (hE : mx_ok E) (o : Nat) (i1 : Int32) (hT : xOK E) (ho : xt_isS o = true) (M : MM) {q : MM} (hf : fX9_drawAct o i1 M = some q) : mx_Met E l yX9_drawAct cX9_drawAct 5 none 3 [.ref (E.2.1.2.1 o), .int i1] M none q := by
  refine mx_enter hE (by decide) (Nat.le_of_ble_eq_true rfl) ?_
  intro p e s m below meth c C hM hn ls hl
  have hx := C.1.1
  have hb := C.1.2.1
  have hown := C.1.2.2.2.1
  have hts := C.1.2.2.2.2
  have hl : lv_has ls 5 [(0, .ref (E.2.1.2.1 o)), (1, .int i1)] := hl
  rw [fX9_drawAct] at hf
  refine lv_aload_n hx hb dX9_drawAct_0 rfl (lv_at hl 0 rfl) ?_
  refine lv_bipush (v := (6 : Int32)) hx hb dX9_drawAct_1 (by decide) ?_
  obtain ⟨q3, hq3, hf⟩ := mx_bd hf
  refine mx_callV C hM hl.1 yo_X9_draw (h' := 0) (by decide) qw_1073 qw_1075 qs_86 (ci := 9) (q := (RX9, TX9, 13)) rfl (xoS hT ho) (As := [.int (6 : Int32)]) (rest := []) (st1 := [.int q3.1]) (kX9_draw C.2.2.2.1 o (6 : Int32) hT ho M hq3) rfl rfl rfl (Nat.le_of_ble_eq_true rfl) dX9_drawAct_3 (fun H locs hM => ?_)
  by_cases hs0 : q3.1 = 0
  · replace hf := mx_ift hs0 hf
    refine lv_tableIn (tgt := 40) hx hb dX9_drawAct_6 (by rw [hs0]; decide) (by rw [hs0]; decide) (by rw [hs0]; rfl) (by decide) ?_
    refine lv_aload_n hx hb dX9_drawAct_40 rfl (lv_at hl 0 rfl) ?_
    refine lv_bipush (v := (21 : Int32)) hx hb dX9_drawAct_41 (by decide) ?_
    obtain ⟨q43, hq43, hf⟩ := mx_bd hf
    refine mx_callV C hM hl.1 yo_X9_draw (h' := 0) (by decide) qw_1073 qw_1075 qs_86 (ci := 9) (q := (RX9, TX9, 13)) rfl (xoS hT ho) (As := [.int (21 : Int32)]) (rest := []) (st1 := [.int q43.1]) (kX9_draw C.2.2.2.1 o (21 : Int32) hT ho q3.2 hq43) rfl rfl rfl (Nat.le_of_ble_eq_true rfl) dX9_drawAct_43 (fun H locs hM => ?_)
    refine lv_istore_n (lv' := [(2, .int q43.1), (0, .ref (E.2.1.2.1 o)), (1, .int i1)]) hx hb dX9_drawAct_46 rfl hl (by decide) rfl (fun ls hl => ?_)
    refine lv_aload_n hx hb dX9_drawAct_47 rfl (lv_at hl 1 rfl) ?_
    refine lv_bipush (v := (21 : Int32)) hx hb dX9_drawAct_48 (by decide) ?_
    obtain ⟨q50, hq50, hf⟩ := mx_bd hf
    refine mx_callV C hM hl.1 yo_X9_draw (h' := 0) (by decide) qw_1073 qw_1075 qs_86 (ci := 9) (q := (RX9, TX9, 13)) rfl (xoS hT ho) (As := [.int (21 : Int32)]) (rest := []) (st1 := [.int q50.1]) (kX9_draw C.2.2.2.1 o (21 : Int32) hT ho q43.2 hq50) rfl rfl rfl (Nat.le_of_ble_eq_true rfl) dX9_drawAct_50 (fun H locs hM => ?_)
    refine lv_istore_n (lv' := [(3, .int q50.1), (2, .int q43.1), (0, .ref (E.2.1.2.1 o)), (1, .int i1)]) hx hb dX9_drawAct_53 rfl hl (by decide) rfl (fun ls hl => ?_)
    refine lv_aload_n hx hb dX9_drawAct_54 rfl (lv_at hl 2 rfl) ?_
    refine lv_iload_n hx hb dX9_drawAct_55 rfl (lv_at hl 3 rfl) ?_
    refine lv_iload_n hx hb dX9_drawAct_56 rfl (lv_at hl 1 rfl) ?_
    refine lv_iload_n hx hb dX9_drawAct_57 rfl (lv_at hl 0 rfl) ?_
    obtain ⟨q58, hq58, hf⟩ := mx_bd hf
    refine mx_callV C hM hl.1 yo_X9_walkTo (h' := 2) (by decide) qw_1078 qw_699 qs_40 (ci := 9) (q := (RX9, TX9, 13)) rfl (xoS hT ho) (As := [.int i1, .int q43.1, .int q50.1]) (rest := []) (st1 := [.int q58.1]) (kX9_walkTo C.2.2.2.1 o i1 q43.1 q50.1 hT ho q50.2 hq58) rfl rfl rfl (Nat.le_of_ble_eq_true rfl) dX9_drawAct_58 (fun H locs hM => ?_)
    refine lv_pop hx hb dX9_drawAct_61 rfl ?_
    refine lv_goto (tgt := 149) hx hb dX9_drawAct_62 (by decide) ?_
    exact mx_vret C hM hf dX9_drawAct_149
  replace hf := mx_iff hs0 hf
  by_cases hs1 : q3.1 = 1
  · replace hf := mx_ift hs1 hf
    refine lv_tableIn (tgt := 40) hx hb dX9_drawAct_6 (by rw [hs1]; decide) (by rw [hs1]; decide) (by rw [hs1]; rfl) (by decide) ?_
    refine lv_aload_n hx hb dX9_drawAct_40 rfl (lv_at hl 0 rfl) ?_
    refine lv_bipush (v := (21 : Int32)) hx hb dX9_drawAct_41 (by decide) ?_
    obtain ⟨q43, hq43, hf⟩ := mx_bd hf
    refine mx_callV C hM hl.1 yo_X9_draw (h' := 0) (by decide) qw_1073 qw_1075 qs_86 (ci := 9) (q := (RX9, TX9, 13)) rfl (xoS hT ho) (As := [.int (21 : Int32)]) (rest := []) (st1 := [.int q43.1]) (kX9_draw C.2.2.2.1 o (21 : Int32) hT ho q3.2 hq43) rfl rfl rfl (Nat.le_of_ble_eq_true rfl) dX9_drawAct_43 (fun H locs hM => ?_)
    refine lv_istore_n (lv' := [(2, .int q43.1), (0, .ref (E.2.1.2.1 o)), (1, .int i1)]) hx hb dX9_drawAct_46 rfl hl (by decide) rfl (fun ls hl => ?_)
    refine lv_aload_n hx hb dX9_drawAct_47 rfl (lv_at hl 1 rfl) ?_
    refine lv_bipush (v := (21 : Int32)) hx hb dX9_drawAct_48 (by decide) ?_
    obtain ⟨q50, hq50, hf⟩ := mx_bd hf
    refine mx_callV C hM hl.1 yo_X9_draw (h' := 0) (by decide) qw_1073 qw_1075 qs_86 (ci := 9) (q := (RX9, TX9, 13)) rfl (xoS hT ho) (As := [.int (21 : Int32)]) (rest := []) (st1 := [.int q50.1]) (kX9_draw C.2.2.2.1 o (21 : Int32) hT ho q43.2 hq50) rfl rfl rfl (Nat.le_of_ble_eq_true rfl) dX9_drawAct_50 (fun H locs hM => ?_)
    refine lv_istore_n (lv' := [(3, .int q50.1), (2, .int q43.1), (0, .ref (E.2.1.2.1 o)), (1, .int i1)]) hx hb dX9_drawAct_53 rfl hl (by decide) rfl (fun ls hl => ?_)
    refine lv_aload_n hx hb dX9_drawAct_54 rfl (lv_at hl 2 rfl) ?_
    refine lv_iload_n hx hb dX9_drawAct_55 rfl (lv_at hl 3 rfl) ?_
    refine lv_iload_n hx hb dX9_drawAct_56 rfl (lv_at hl 1 rfl) ?_
    refine lv_iload_n hx hb dX9_drawAct_57 rfl (lv_at hl 0 rfl) ?_
    obtain ⟨q58, hq58, hf⟩ := mx_bd hf
    refine mx_callV C hM hl.1 yo_X9_walkTo (h' := 2) (by decide) qw_1078 qw_699 qs_40 (ci := 9) (q := (RX9, TX9, 13)) rfl (xoS hT ho) (As := [.int i1, .int q43.1, .int q50.1]) (rest := []) (st1 := [.int q58.1]) (kX9_walkTo C.2.2.2.1 o i1 q43.1 q50.1 hT ho q50.2 hq58) rfl rfl rfl (Nat.le_of_ble_eq_true rfl) dX9_drawAct_58 (fun H locs hM => ?_)
    refine lv_pop hx hb dX9_drawAct_61 rfl ?_
    refine lv_goto (tgt := 149) hx hb dX9_drawAct_62 (by decide) ?_
    exact mx_vret C hM hf dX9_drawAct_149
  replace hf := mx_iff hs1 hf
  by_cases hs2 : q3.1 = 2
  · replace hf := mx_ift hs2 hf
    refine lv_tableIn (tgt := 65) hx hb dX9_drawAct_6 (by rw [hs2]; decide) (by rw [hs2]; decide) (by rw [hs2]; rfl) (by decide) ?_
    refine lv_aload_n hx hb dX9_drawAct_65 rfl (lv_at hl 0 rfl) ?_
    refine gX9_36 C hM (xoS hT ho) (f := (2, 9)) rfl (v := .ref (E.2.1.2.1 9)) rfl dX9_drawAct_66 ?_
    refine gX9_52 C hT hM (xt_9 hT) (f := (0, 0)) rfl (v := .int (q3.2.1 9 1)) rfl dX9_drawAct_69 ?_
    refine lv_if_le (tgt := 149) hx hb dX9_drawAct_72 (by decide) (fun hc72 => ?_) (fun hc72 => ?_)
    · replace hf := mx_ift hc72 hf
      exact mx_vret C hM hf dX9_drawAct_149
    · replace hf := mx_iff hc72 hf
      refine lv_aload_n hx hb dX9_drawAct_75 rfl (lv_at hl 0 rfl) ?_
      refine lv_aload_n hx hb dX9_drawAct_76 rfl (lv_at hl 0 rfl) ?_
      refine gX9_36 C hM (xoS hT ho) (f := (2, 9)) rfl (v := .ref (E.2.1.2.1 9)) rfl dX9_drawAct_77 ?_
      refine gX9_52 C hT hM (xt_9 hT) (f := (0, 0)) rfl (v := .int (q3.2.1 9 1)) rfl dX9_drawAct_80 ?_
      obtain ⟨q83, hq83, hf⟩ := mx_bd hf
      refine mx_callV C hM hl.1 yo_X9_draw (h' := 0) (by decide) qw_1073 qw_1075 qs_86 (ci := 9) (q := (RX9, TX9, 13)) rfl (xoS hT ho) (As := [.int (q3.2.1 9 1)]) (rest := []) (st1 := [.int q83.1]) (kX9_draw C.2.2.2.1 o (q3.2.1 9 1) hT ho q3.2 hq83) rfl rfl rfl (Nat.le_of_ble_eq_true rfl) dX9_drawAct_83 (fun H locs hM => ?_)
      refine lv_istore (lv' := [(4, .int q83.1), (0, .ref (E.2.1.2.1 o)), (1, .int i1)]) hx hb dX9_drawAct_86 hl (by decide) rfl (fun ls hl => ?_)
      refine lv_aload_n hx hb dX9_drawAct_88 rfl (lv_at hl 1 rfl) ?_
      refine lv_iload_n hx hb dX9_drawAct_89 rfl (lv_at hl 2 rfl) ?_
      refine lv_iload hx hb dX9_drawAct_90 (lv_at hl 0 rfl) ?_
      refine lv_aload_n hx hb dX9_drawAct_92 rfl (lv_at hl 1 rfl) ?_
      refine lv_aload_n hx hb dX9_drawAct_93 rfl (lv_at hl 1 rfl) ?_
      refine gX9_36 C hM (xoS hT ho) (f := (2, 9)) rfl (v := .ref (E.2.1.2.1 9)) rfl dX9_drawAct_94 ?_
      refine gX9_40 C hT hM (xt_9 hT) (f := (0, 0)) rfl (v := .int (q83.2.1 9 0)) rfl dX9_drawAct_97 ?_
      obtain ⟨q100, hq100, hf⟩ := mx_bd hf
      refine mx_callV C hM hl.1 yo_X9_draw (h' := 0) (by decide) qw_1073 qw_1075 qs_86 (ci := 9) (q := (RX9, TX9, 13)) rfl (xoS hT ho) (As := [.int (q83.2.1 9 0)]) (rest := [.int q83.1, .int i1, .ref (E.2.1.2.1 o)]) (st1 := [.int q100.1, .int q83.1, .int i1, .ref (E.2.1.2.1 o)]) (kX9_draw C.2.2.2.1 o (q83.2.1 9 0) hT ho q83.2 hq100) rfl rfl rfl (Nat.le_of_ble_eq_true rfl) dX9_drawAct_100 (fun H locs hM => ?_)
      obtain ⟨q103, hq103, hf⟩ := mx_bd hf
      refine mx_callV C hM hl.1 yo_X9_passOn (h' := 2) (by decide) qw_1079 qw_727 qs_45 (ci := 9) (q := (RX9, TX9, 13)) rfl (xoS hT ho) (As := [.int i1, .int q83.1, .int q100.1]) (rest := []) (st1 := [.int q103.1]) (kX9_passOn C.2.2.2.1 o i1 q83.1 q100.1 hT ho q100.2 hq103) rfl rfl rfl (Nat.le_of_ble_eq_true rfl) dX9_drawAct_103 (fun H locs hM => ?_)
      refine lv_pop hx hb dX9_drawAct_106 rfl ?_
      refine lv_goto (tgt := 149) hx hb dX9_drawAct_107 (by decide) ?_
      exact mx_vret C hM hf dX9_drawAct_149
  replace hf := mx_iff hs2 hf
  by_cases hs3 : q3.1 = 3
  · replace hf := mx_ift hs3 hf
    refine lv_tableIn (tgt := 110) hx hb dX9_drawAct_6 (by rw [hs3]; decide) (by rw [hs3]; decide) (by rw [hs3]; rfl) (by decide) ?_
    refine lv_aload_n hx hb dX9_drawAct_110 rfl (lv_at hl 0 rfl) ?_
    refine gX9_36 C hM (xoS hT ho) (f := (2, 9)) rfl (v := .ref (E.2.1.2.1 9)) rfl dX9_drawAct_111 ?_
    refine gX9_52 C hT hM (xt_9 hT) (f := (0, 0)) rfl (v := .int (q3.2.1 9 1)) rfl dX9_drawAct_114 ?_
    refine lv_if_le (tgt := 149) hx hb dX9_drawAct_117 (by decide) (fun hc117 => ?_) (fun hc117 => ?_)
    · replace hf := mx_ift hc117 hf
      exact mx_vret C hM hf dX9_drawAct_149
    · replace hf := mx_iff hc117 hf
      refine lv_aload_n hx hb dX9_drawAct_120 rfl (lv_at hl 0 rfl) ?_
      refine lv_iload_n hx hb dX9_drawAct_121 rfl (lv_at hl 1 rfl) ?_
      refine lv_aload_n hx hb dX9_drawAct_122 rfl (lv_at hl 0 rfl) ?_
      refine lv_aload_n hx hb dX9_drawAct_123 rfl (lv_at hl 0 rfl) ?_
      refine gX9_36 C hM (xoS hT ho) (f := (2, 9)) rfl (v := .ref (E.2.1.2.1 9)) rfl dX9_drawAct_124 ?_
      refine gX9_52 C hT hM (xt_9 hT) (f := (0, 0)) rfl (v := .int (q3.2.1 9 1)) rfl dX9_drawAct_127 ?_
      obtain ⟨q130, hq130, hf⟩ := mx_bd hf
      refine mx_callV C hM hl.1 yo_X9_draw (h' := 0) (by decide) qw_1073 qw_1075 qs_86 (ci := 9) (q := (RX9, TX9, 13)) rfl (xoS hT ho) (As := [.int (q3.2.1 9 1)]) (rest := [.int i1, .ref (E.2.1.2.1 o)]) (st1 := [.int q130.1, .int i1, .ref (E.2.1.2.1 o)]) (kX9_draw C.2.2.2.1 o (q3.2.1 9 1) hT ho q3.2 hq130) rfl rfl rfl (Nat.le_of_ble_eq_true rfl) dX9_drawAct_130 (fun H locs hM => ?_)
      obtain ⟨q133, hq133, hf⟩ := mx_bd hf
      refine mx_callV C hM hl.1 yo_X9_putOn (h' := 1) (by decide) qw_1080 qw_744 qs_48 (ci := 9) (q := (RX9, TX9, 13)) rfl (xoS hT ho) (As := [.int i1, .int q130.1]) (rest := []) (st1 := [.int q133.1]) (kX9_putOn C.2.2.2.1 o i1 q130.1 hT ho q130.2 hq133) rfl rfl rfl (Nat.le_of_ble_eq_true rfl) dX9_drawAct_133 (fun H locs hM => ?_)
      refine lv_pop hx hb dX9_drawAct_136 rfl ?_
      refine lv_goto (tgt := 149) hx hb dX9_drawAct_137 (by decide) ?_
      exact mx_vret C hM hf dX9_drawAct_149
  replace hf := mx_iff hs3 hf
  by_cases hs4 : q3.1 = 4
  · replace hf := mx_ift hs4 hf
    refine lv_tableIn (tgt := 140) hx hb dX9_drawAct_6 (by rw [hs4]; decide) (by rw [hs4]; decide) (by rw [hs4]; rfl) (by decide) ?_
    refine lv_aload_n hx hb dX9_drawAct_140 rfl (lv_at hl 0 rfl) ?_
    refine lv_iload_n hx hb dX9_drawAct_141 rfl (lv_at hl 1 rfl) ?_
    obtain ⟨q142, hq142, hf⟩ := mx_bd hf
    refine mx_callV C hM hl.1 yo_X9_takeOff (h' := 1) (by decide) qw_1081 qw_757 qs_50 (ci := 9) (q := (RX9, TX9, 13)) rfl (xoS hT ho) (As := [.int i1]) (rest := []) (st1 := [.int q142.1]) (kX9_takeOff C.2.2.2.1 o i1 hT ho q3.2 hq142) rfl rfl rfl (Nat.le_of_ble_eq_true rfl) dX9_drawAct_142 (fun H locs hM => ?_)
    refine lv_pop hx hb dX9_drawAct_145 rfl ?_
    refine lv_goto (tgt := 149) hx hb dX9_drawAct_146 (by decide) ?_
    exact mx_vret C hM hf dX9_drawAct_149
  replace hf := mx_iff hs4 hf
  refine lv_tableOut (tgt := 149) hx hb dX9_drawAct_6 (by have hh := And.intro trivial trivial; have hh0 := lv_neT hs0 (by decide : (0 : Int32).toInt = 0); have hh1 := lv_neT hs1 (by decide : (1 : Int32).toInt = 1); have hh2 := lv_neT hs2 (by decide : (2 : Int32).toInt = 2); have hh3 := lv_neT hs3 (by decide : (3 : Int32).toInt = 3); have hh4 := lv_neT hs4 (by decide : (4 : Int32).toInt = 4); omega) (by decide) ?_
  exact mx_vret C hM hf dX9_drawAct_149
theorem dX9_drawDays_0 : decode cX9_drawDays 0 = .ok (.aload_n 0, 1) := by decide +kernel
theorem dX9_drawDays_1 : decode cX9_drawDays 1 = .ok (.iload_n 2, 1) := by decide +kernel
theorem dX9_drawDays_2 : decode cX9_drawDays 2 = .ok (.putfield 144, 3) := by decide +kernel
theorem dX9_drawDays_5 : decode cX9_drawDays 5 = .ok (.iconst 0, 1) := by decide +kernel
theorem dX9_drawDays_6 : decode cX9_drawDays 6 = .ok (.istore_n 3, 1) := by decide +kernel
theorem dX9_drawDays_7 : decode cX9_drawDays 7 = .ok (.iload_n 3, 1) := by decide +kernel
theorem dX9_drawDays_8 : decode cX9_drawDays 8 = .ok (.iload_n 1, 1) := by decide +kernel
theorem dX9_drawDays_9 : decode cX9_drawDays 9 = .ok (.if_icmp .ge 50, 3) := by decide +kernel
theorem dX9_drawDays_12 : decode cX9_drawDays 12 = .ok (.aload_n 0, 1) := by decide +kernel
theorem dX9_drawDays_13 : decode cX9_drawDays 13 = .ok (.getfield 58, 3) := by decide +kernel
theorem dX9_drawDays_16 : decode cX9_drawDays 16 = .ok (.sipush 400, 3) := by decide +kernel
theorem dX9_drawDays_19 : decode cX9_drawDays 19 = .ok (.if_icmp .ge 40, 3) := by decide +kernel
theorem dX9_drawDays_22 : decode cX9_drawDays 22 = .ok (.iconst 0, 1) := by decide +kernel
theorem dX9_drawDays_23 : decode cX9_drawDays 23 = .ok (.istore 4, 2) := by decide +kernel
theorem dX9_drawDays_25 : decode cX9_drawDays 25 = .ok (.iload 4, 2) := by decide +kernel
theorem dX9_drawDays_27 : decode cX9_drawDays 27 = .ok (.aload_n 0, 1) := by decide +kernel
theorem dX9_drawDays_28 : decode cX9_drawDays 28 = .ok (.getfield 36, 3) := by decide +kernel
theorem dX9_drawDays_31 : decode cX9_drawDays 31 = .ok (.getfield 40, 3) := by decide +kernel
theorem dX9_drawDays_34 : decode cX9_drawDays 34 = .ok (.if_icmp .ge 15, 3) := by decide +kernel
theorem dX9_drawDays_37 : decode cX9_drawDays 37 = .ok (.aload_n 0, 1) := by decide +kernel
theorem dX9_drawDays_38 : decode cX9_drawDays 38 = .ok (.iload 4, 2) := by decide +kernel
theorem dX9_drawDays_40 : decode cX9_drawDays 40 = .ok (.invokevirtual 147, 3) := by decide +kernel
theorem dX9_drawDays_43 : decode cX9_drawDays 43 = .ok (.iinc 4 1, 3) := by decide +kernel
theorem dX9_drawDays_46 : decode cX9_drawDays 46 = .ok (.goto (-21), 3) := by decide +kernel
theorem dX9_drawDays_49 : decode cX9_drawDays 49 = .ok (.aload_n 0, 1) := by decide +kernel
theorem dX9_drawDays_50 : decode cX9_drawDays 50 = .ok (.invokevirtual 120, 3) := by decide +kernel
theorem dX9_drawDays_53 : decode cX9_drawDays 53 = .ok (.iinc 3 1, 3) := by decide +kernel
theorem dX9_drawDays_56 : decode cX9_drawDays 56 = .ok (.goto (-49), 3) := by decide +kernel
theorem dX9_drawDays_59 : decode cX9_drawDays 59 = .ok (.iload_n 3, 1) := by decide +kernel
theorem dX9_drawDays_60 : decode cX9_drawDays 60 = .ok (.ireturn, 1) := by decide +kernel
set_option maxRecDepth 100000 in
set_option maxHeartbeats 4000000 in
theorem wfX9_drawDays_25 {E : KE} {p : Program} {l : Launch} {e : Env} {s : State} {m : MethodId} {args : Array Value} {below : List Frame} {meth : Method} {c : Code} {q : (Int32 × MM)} (C : mx_C E p m c cX9_drawDays 5 s args RX9 meth (some .int)) (o : Nat) (i1 : Int32) (i2 : Int32) (hT : xOK E) (ho : xt_isS o = true)  (k7 : Int32 → MM → Option (Int32 × MM)) (hk7 : ∀ (i3 : Int32) (M : MM) (H : Heap) (locs : List Loc) (ls : Array Slot), k7 i3 M = some q → mx_H E s M H locs → lv_has ls 5 [(0, .ref (E.2.1.2.1 o)), (1, .int i1), (3, .int i3)] → W p l e (mx_rm 4) s m args below meth c H locs 0 0 (mx_Z E below args s (some (.int q.1)) q.2) (F0 m 7 ls [])) : ∀ (n : Nat) (i3 : Int32) (i4 : Int32) (M : MM) (H : Heap) (locs : List Loc) (ls : Array Slot), fX9_drawDays_25 o i1 i2 k7 n i3 i4 M = some q → mx_H E s M H locs → lv_has ls 5 [(0, .ref (E.2.1.2.1 o)), (1, .int i1), (3, .int i3), (4, .int i4)] → W p l e (mx_rm 4) s m args below meth c H locs 0 0 (mx_Z E below args s (some (.int q.1)) q.2) (F0 m 25 ls []) := by
  have hx := C.1.1
  have hb := C.1.2.1
  have hown := C.1.2.2.2.1
  have hts := C.1.2.2.2.2
  intro n
  induction n with
  | zero =>
    intro i3 i4 M H locs ls hf hM hl
    rw [fX9_drawDays_25] at hf
    cases hf
  | succ n ih =>
    intro i3 i4 M H locs ls hf hM hl
    rw [fX9_drawDays_25] at hf
    refine lv_iload hx hb dX9_drawDays_25 (lv_at hl 3 rfl) ?_
    refine lv_aload_n hx hb dX9_drawDays_27 rfl (lv_at hl 0 rfl) ?_
    refine gX9_36 C hM (xoS hT ho) (f := (2, 9)) rfl (v := .ref (E.2.1.2.1 9)) rfl dX9_drawDays_28 ?_
    refine gX9_40 C hT hM (xt_9 hT) (f := (0, 0)) rfl (v := .int (M.1 9 0)) rfl dX9_drawDays_31 ?_
    refine lv_icmp_ge (tgt := 49) hx hb dX9_drawDays_34 (by decide) (fun hc34 => ?_) (fun hc34 => ?_)
    · replace hf := mx_ift hc34 hf
      refine lv_aload_n hx hb dX9_drawDays_49 rfl (lv_at hl 0 rfl) ?_
      obtain ⟨q50, hq50, hf⟩ := mx_bd hf
      refine mx_callV C hM hl.1 yo_X9_passDay (h' := 2) (by decide) qw_775 qw_777 qs_53 (ci := 9) (q := (RX9, TX9, 13)) rfl (xoS hT ho) (As := []) (rest := []) (st1 := []) (kX9_passDay C.2.2.2.1 o hT ho M hq50) rfl rfl rfl (Nat.le_of_ble_eq_true rfl) dX9_drawDays_50 (fun H locs hM => ?_)
      refine lv_iinc (v := (i3 + (1 : Int32))) (lv' := [(3, .int (i3 + (1 : Int32))), (0, .ref (E.2.1.2.1 o)), (1, .int i1), (4, .int i4)]) hx hb dX9_drawDays_53 hl (k := 2) rfl rfl (by decide) rfl (fun ls hl => ?_)
      refine lv_goto (tgt := 7) hx hb dX9_drawDays_56 (by decide) ?_
      exact hk7 (i3 + (1 : Int32)) q50 _ _ _ hf hM (lv_sub hl [1, 2, 0] rfl)
    · replace hf := mx_iff hc34 hf
      refine lv_aload_n hx hb dX9_drawDays_37 rfl (lv_at hl 0 rfl) ?_
      refine lv_iload hx hb dX9_drawDays_38 (lv_at hl 3 rfl) ?_
      obtain ⟨q40, hq40, hf⟩ := mx_bd hf
      refine mx_callV C hM hl.1 yo_X9_drawAct (h' := 3) (by decide) qw_1069 qw_1071 qs_85 (ci := 9) (q := (RX9, TX9, 13)) rfl (xoS hT ho) (As := [.int i4]) (rest := []) (st1 := []) (kX9_drawAct C.2.2.2.1 o i4 hT ho M hq40) rfl rfl rfl (Nat.le_of_ble_eq_true rfl) dX9_drawDays_40 (fun H locs hM => ?_)
      refine lv_iinc (v := (i4 + (1 : Int32))) (lv' := [(4, .int (i4 + (1 : Int32))), (0, .ref (E.2.1.2.1 o)), (1, .int i1), (3, .int i3)]) hx hb dX9_drawDays_43 hl (k := 3) rfl rfl (by decide) rfl (fun ls hl => ?_)
      refine lv_goto (tgt := 25) hx hb dX9_drawDays_46 (by decide) ?_
      exact ih i3 (i4 + (1 : Int32)) q40 _ _ _ hf hM (lv_sub hl [1, 2, 3, 0] rfl)
set_option maxRecDepth 100000 in
set_option maxHeartbeats 4000000 in
theorem wfX9_drawDays_7 {E : KE} {p : Program} {l : Launch} {e : Env} {s : State} {m : MethodId} {args : Array Value} {below : List Frame} {meth : Method} {c : Code} {q : (Int32 × MM)} (C : mx_C E p m c cX9_drawDays 5 s args RX9 meth (some .int)) (o : Nat) (i1 : Int32) (i2 : Int32) (hT : xOK E) (ho : xt_isS o = true)   : ∀ (n : Nat) (i3 : Int32) (M : MM) (H : Heap) (locs : List Loc) (ls : Array Slot), fX9_drawDays_7 o i1 i2 n i3 M = some q → mx_H E s M H locs → lv_has ls 5 [(0, .ref (E.2.1.2.1 o)), (1, .int i1), (3, .int i3)] → W p l e (mx_rm 4) s m args below meth c H locs 0 0 (mx_Z E below args s (some (.int q.1)) q.2) (F0 m 7 ls []) := by
  have hx := C.1.1
  have hb := C.1.2.1
  have hown := C.1.2.2.2.1
  have hts := C.1.2.2.2.2
  intro n
  induction n with
  | zero =>
    intro i3 M H locs ls hf hM hl
    rw [fX9_drawDays_7] at hf
    cases hf
  | succ n ih =>
    intro i3 M H locs ls hf hM hl
    rw [fX9_drawDays_7] at hf
    refine lv_iload_n hx hb dX9_drawDays_7 rfl (lv_at hl 2 rfl) ?_
    refine lv_iload_n hx hb dX9_drawDays_8 rfl (lv_at hl 1 rfl) ?_
    refine lv_icmp_ge (tgt := 59) hx hb dX9_drawDays_9 (by decide) (fun hc9 => ?_) (fun hc9 => ?_)
    · replace hf := mx_ift hc9 hf
      refine lv_iload_n hx hb dX9_drawDays_59 rfl (lv_at hl 2 rfl) ?_
      exact mx_iret C hM hf dX9_drawDays_60
    · replace hf := mx_iff hc9 hf
      refine lv_aload_n hx hb dX9_drawDays_12 rfl (lv_at hl 0 rfl) ?_
      refine gX9_58 C hM (xoS hT ho) (f := (0, 0)) rfl (v := .int (M.1 o 9)) rfl dX9_drawDays_13 ?_
      refine lv_sipush (v := (400 : Int32)) hx hb dX9_drawDays_16 (by decide) ?_
      refine lv_icmp_ge (tgt := 59) hx hb dX9_drawDays_19 (by decide) (fun hc19 => ?_) (fun hc19 => ?_)
      · replace hf := mx_ift hc19 hf
        refine lv_iload_n hx hb dX9_drawDays_59 rfl (lv_at hl 2 rfl) ?_
        exact mx_iret C hM hf dX9_drawDays_60
      · replace hf := mx_iff hc19 hf
        refine lv_iconst (v := (0 : Int32)) hx hb dX9_drawDays_22 (by decide) ?_
        refine lv_istore (lv' := [(4, .int (0 : Int32)), (0, .ref (E.2.1.2.1 o)), (1, .int i1), (3, .int i3)]) hx hb dX9_drawDays_23 hl (by decide) rfl (fun ls hl => ?_)
        exact wfX9_drawDays_25 C o i1 i2 hT ho (fX9_drawDays_7 o i1 i2 n) ih mx_fu i3 (0 : Int32) M _ _ _ hf hM (lv_sub hl [1, 2, 3, 0] rfl)
set_option maxRecDepth 100000 in
set_option maxHeartbeats 4000000 in
theorem kX9_drawDays {E : KE} {l : Launch} (hE : mx_ok E) (o : Nat) (i1 : Int32) (i2 : Int32) (hT : xOK E) (ho : xt_isS o = true) (M : MM) {q : (Int32 × MM)} (hf : fX9_drawDays o i1 i2 M = some q) : mx_Met E l yX9_drawDays cX9_drawDays 5 (some .int) 4 [.ref (E.2.1.2.1 o), .int i1, .int i2] M (some (.int q.1)) q.2 := by
  refine mx_enter hE (by decide) (Nat.le_of_ble_eq_true rfl) ?_
  intro p e s m below meth c C hM hn ls hl
  have hx := C.1.1
  have hb := C.1.2.1
  have hown := C.1.2.2.2.1
  have hts := C.1.2.2.2.2
  have hl : lv_has ls 5 [(0, .ref (E.2.1.2.1 o)), (1, .int i1), (2, .int i2)] := hl
  rw [fX9_drawDays] at hf
  refine lv_aload_n hx hb dX9_drawDays_0 rfl (lv_at hl 0 rfl) ?_
  refine lv_iload_n hx hb dX9_drawDays_1 rfl (lv_at hl 2 rfl) ?_
  refine pX9_144 C hM (xoS hT ho) rfl rfl rfl dX9_drawDays_2 (fun H locs hM => ?_)
  refine lv_iconst (v := (0 : Int32)) hx hb dX9_drawDays_5 (by decide) ?_
  refine lv_istore_n (lv' := [(3, .int (0 : Int32)), (0, .ref (E.2.1.2.1 o)), (1, .int i1), (2, .int i2)]) hx hb dX9_drawDays_6 rfl hl (by decide) rfl (fun ls hl => ?_)
  exact wfX9_drawDays_7 C o i1 i2 hT ho mx_fu (0 : Int32) (mx_si M o 12 i2) _ _ _ hf hM (lv_sub hl [1, 2, 0] rfl)
theorem dX9_daysTillMet_0 : decode cX9_daysTillMet 0 = .ok (.aload_n 0, 1) := by decide +kernel
theorem dX9_daysTillMet_1 : decode cX9_daysTillMet 1 = .ok (.getfield 36, 3) := by decide +kernel
theorem dX9_daysTillMet_4 : decode cX9_daysTillMet 4 = .ok (.getfield 87, 3) := by decide +kernel
theorem dX9_daysTillMet_7 : decode cX9_daysTillMet 7 = .ok (.iload_n 1, 1) := by decide +kernel
theorem dX9_daysTillMet_8 : decode cX9_daysTillMet 8 = .ok (.iaload, 1) := by decide +kernel
theorem dX9_daysTillMet_9 : decode cX9_daysTillMet 9 = .ok (.istore_n 2, 1) := by decide +kernel
theorem dX9_daysTillMet_10 : decode cX9_daysTillMet 10 = .ok (.aload_n 0, 1) := by decide +kernel
theorem dX9_daysTillMet_11 : decode cX9_daysTillMet 11 = .ok (.iload_n 2, 1) := by decide +kernel
theorem dX9_daysTillMet_12 : decode cX9_daysTillMet 12 = .ok (.aload_n 0, 1) := by decide +kernel
theorem dX9_daysTillMet_13 : decode cX9_daysTillMet 13 = .ok (.iload_n 1, 1) := by decide +kernel
theorem dX9_daysTillMet_14 : decode cX9_daysTillMet 14 = .ok (.invokevirtual 167, 3) := by decide +kernel
theorem dX9_daysTillMet_17 : decode cX9_daysTillMet 17 = .ok (.aload_n 0, 1) := by decide +kernel
theorem dX9_daysTillMet_18 : decode cX9_daysTillMet 18 = .ok (.iload_n 1, 1) := by decide +kernel
theorem dX9_daysTillMet_19 : decode cX9_daysTillMet 19 = .ok (.invokevirtual 170, 3) := by decide +kernel
theorem dX9_daysTillMet_22 : decode cX9_daysTillMet 22 = .ok (.invokevirtual 103, 3) := by decide +kernel
theorem dX9_daysTillMet_25 : decode cX9_daysTillMet 25 = .ok (.istore_n 3, 1) := by decide +kernel
theorem dX9_daysTillMet_26 : decode cX9_daysTillMet 26 = .ok (.aload_n 0, 1) := by decide +kernel
theorem dX9_daysTillMet_27 : decode cX9_daysTillMet 27 = .ok (.getfield 24, 3) := by decide +kernel
theorem dX9_daysTillMet_30 : decode cX9_daysTillMet 30 = .ok (.iload_n 1, 1) := by decide +kernel
theorem dX9_daysTillMet_31 : decode cX9_daysTillMet 31 = .ok (.iaload, 1) := by decide +kernel
theorem dX9_daysTillMet_32 : decode cX9_daysTillMet 32 = .ok (.iconst 2, 1) := by decide +kernel
theorem dX9_daysTillMet_33 : decode cX9_daysTillMet 33 = .ok (.if_icmp .ne 13, 3) := by decide +kernel
theorem dX9_daysTillMet_36 : decode cX9_daysTillMet 36 = .ok (.aload_n 0, 1) := by decide +kernel
theorem dX9_daysTillMet_37 : decode cX9_daysTillMet 37 = .ok (.getfield 36, 3) := by decide +kernel
theorem dX9_daysTillMet_40 : decode cX9_daysTillMet 40 = .ok (.getfield 76, 3) := by decide +kernel
theorem dX9_daysTillMet_43 : decode cX9_daysTillMet 43 = .ok (.goto 12, 3) := by decide +kernel
theorem dX9_daysTillMet_46 : decode cX9_daysTillMet 46 = .ok (.iconst 2, 1) := by decide +kernel
theorem dX9_daysTillMet_47 : decode cX9_daysTillMet 47 = .ok (.aload_n 0, 1) := by decide +kernel
theorem dX9_daysTillMet_48 : decode cX9_daysTillMet 48 = .ok (.getfield 36, 3) := by decide +kernel
theorem dX9_daysTillMet_51 : decode cX9_daysTillMet 51 = .ok (.getfield 76, 3) := by decide +kernel
theorem dX9_daysTillMet_54 : decode cX9_daysTillMet 54 = .ok (.imul, 1) := by decide +kernel
theorem dX9_daysTillMet_55 : decode cX9_daysTillMet 55 = .ok (.istore 4, 2) := by decide +kernel
theorem dX9_daysTillMet_57 : decode cX9_daysTillMet 57 = .ok (.iload_n 3, 1) := by decide +kernel
theorem dX9_daysTillMet_58 : decode cX9_daysTillMet 58 = .ok (.ifCond .eq 9, 3) := by decide +kernel
theorem dX9_daysTillMet_61 : decode cX9_daysTillMet 61 = .ok (.iload 4, 2) := by decide +kernel
theorem dX9_daysTillMet_63 : decode cX9_daysTillMet 63 = .ok (.iconst 1, 1) := by decide +kernel
theorem dX9_daysTillMet_64 : decode cX9_daysTillMet 64 = .ok (.if_icmp .ge 7, 3) := by decide +kernel
theorem dX9_daysTillMet_67 : decode cX9_daysTillMet 67 = .ok (.iconst 0, 1) := by decide +kernel
theorem dX9_daysTillMet_68 : decode cX9_daysTillMet 68 = .ok (.goto 9, 3) := by decide +kernel
theorem dX9_daysTillMet_71 : decode cX9_daysTillMet 71 = .ok (.iload_n 3, 1) := by decide +kernel
theorem dX9_daysTillMet_72 : decode cX9_daysTillMet 72 = .ok (.iconst 1, 1) := by decide +kernel
theorem dX9_daysTillMet_73 : decode cX9_daysTillMet 73 = .ok (.isub, 1) := by decide +kernel
theorem dX9_daysTillMet_74 : decode cX9_daysTillMet 74 = .ok (.iload 4, 2) := by decide +kernel
theorem dX9_daysTillMet_76 : decode cX9_daysTillMet 76 = .ok (.idiv, 1) := by decide +kernel
theorem dX9_daysTillMet_77 : decode cX9_daysTillMet 77 = .ok (.ireturn, 1) := by decide +kernel
set_option maxRecDepth 100000 in
set_option maxHeartbeats 4000000 in
theorem wfX9_daysTillMet_55 {E : KE} {p : Program} {l : Launch} {e : Env} {s : State} {m : MethodId} {args : Array Value} {below : List Frame} {meth : Method} {c : Code} {q : Int32} (C : mx_C E p m c cX9_daysTillMet 5 s args RX9 meth (some .int)) (i1 : Int32) (M : MM) (hT : xOK E)   : ∀ (i3 : Int32) (is0 : Int32) (H : Heap) (locs : List Loc) (ls : Array Slot), fX9_daysTillMet_55 i1 M i3 is0 = some q → mx_H E s M H locs → lv_has ls 5 [(3, .int i3)] → W p l e (mx_rm 2) s m args below meth c H locs 0 0 (mx_Z E below args s (some (.int q)) M) (F0 m 55 ls [.int is0]) := by
  have hx := C.1.1
  have hb := C.1.2.1
  have hown := C.1.2.2.2.1
  have hts := C.1.2.2.2.2
  intro i3 is0 H locs ls hf hM hl
  rw [fX9_daysTillMet_55] at hf
  refine lv_istore (lv' := [(4, .int is0), (3, .int i3)]) hx hb dX9_daysTillMet_55 hl (by decide) rfl (fun ls hl => ?_)
  refine lv_iload_n hx hb dX9_daysTillMet_57 rfl (lv_at hl 1 rfl) ?_
  refine lv_if_eq (tgt := 67) hx hb dX9_daysTillMet_58 (by decide) (fun hc58 => ?_) (fun hc58 => ?_)
  · replace hf := mx_ift hc58 hf
    refine lv_iconst (v := (0 : Int32)) hx hb dX9_daysTillMet_67 (by decide) ?_
    refine lv_goto (tgt := 77) hx hb dX9_daysTillMet_68 (by decide) ?_
    exact mx_iretR C hM hf dX9_daysTillMet_77
  · replace hf := mx_iff hc58 hf
    refine lv_iload hx hb dX9_daysTillMet_61 (lv_at hl 0 rfl) ?_
    refine lv_iconst (v := (1 : Int32)) hx hb dX9_daysTillMet_63 (by decide) ?_
    refine lv_icmp_ge (tgt := 71) hx hb dX9_daysTillMet_64 (by decide) (fun hc64 => ?_) (fun hc64 => ?_)
    · replace hf := mx_ift hc64 hf
      refine lv_iload_n hx hb dX9_daysTillMet_71 rfl (lv_at hl 1 rfl) ?_
      refine lv_iconst (v := (1 : Int32)) hx hb dX9_daysTillMet_72 (by decide) ?_
      refine lv_isub hx hb dX9_daysTillMet_73 ?_
      refine lv_iload hx hb dX9_daysTillMet_74 (lv_at hl 0 rfl) ?_
      obtain ⟨hz76, hf⟩ := mx_gn hf
      refine lv_idiv hx hb dX9_daysTillMet_76 hz76 ?_
      exact mx_iretR C hM hf dX9_daysTillMet_77
    · replace hf := mx_iff hc64 hf
      refine lv_iconst (v := (0 : Int32)) hx hb dX9_daysTillMet_67 (by decide) ?_
      refine lv_goto (tgt := 77) hx hb dX9_daysTillMet_68 (by decide) ?_
      exact mx_iretR C hM hf dX9_daysTillMet_77
set_option maxRecDepth 100000 in
set_option maxHeartbeats 4000000 in
theorem kX9_daysTillMet {E : KE} {l : Launch} (hE : mx_ok E) (i1 : Int32) (hT : xOK E) (M : MM) {q : Int32} (hf : fX9_daysTillMet i1 M = some q) : mx_Met E l yX9_daysTillMet cX9_daysTillMet 5 (some .int) 2 [.ref (E.2.1.2.1 29), .int i1] M (some (.int q)) M := by
  refine mx_enter hE (by decide) (Nat.le_of_ble_eq_true rfl) ?_
  intro p e s m below meth c C hM hn ls hl
  have hx := C.1.1
  have hb := C.1.2.1
  have hown := C.1.2.2.2.1
  have hts := C.1.2.2.2.2
  have hl : lv_has ls 5 [(0, .ref (E.2.1.2.1 29)), (1, .int i1)] := hl
  rw [fX9_daysTillMet] at hf
  refine lv_aload_n hx hb dX9_daysTillMet_0 rfl (lv_at hl 0 rfl) ?_
  refine gX9_36 C hM (xt_29 hT) (f := (2, 9)) rfl (v := .ref (E.2.1.2.1 9)) rfl dX9_daysTillMet_1 ?_
  refine gX9_87 C hT hM (xt_9 hT) (f := (2, 16)) rfl (v := .ref (E.2.1.2.1 16)) rfl dX9_daysTillMet_4 ?_
  refine lv_iload_n hx hb dX9_daysTillMet_7 rfl (lv_at hl 1 rfl) ?_
  obtain ⟨hg8, hf⟩ := mx_gd hf
  refine mx_iald C hM (xt_16 hT) (mx_in_vp hg8) dX9_daysTillMet_8 ?_
  refine lv_istore_n (lv' := [(2, .int (M.1 16 i1.toNatClampNeg)), (0, .ref (E.2.1.2.1 29)), (1, .int i1)]) hx hb dX9_daysTillMet_9 rfl hl (by decide) rfl (fun ls hl => ?_)
  refine lv_aload_n hx hb dX9_daysTillMet_10 rfl (lv_at hl 1 rfl) ?_
  refine lv_iload_n hx hb dX9_daysTillMet_11 rfl (lv_at hl 0 rfl) ?_
  refine lv_aload_n hx hb dX9_daysTillMet_12 rfl (lv_at hl 1 rfl) ?_
  refine lv_iload_n hx hb dX9_daysTillMet_13 rfl (lv_at hl 2 rfl) ?_
  obtain ⟨q14, hq14, hf⟩ := mx_bd hf
  refine mx_callV C hM hl.1 yo_X9_ringX (h' := 1) (by decide) qw_817 qw_819 qs_60 (ci := 9) (q := (RX9, TX9, 13)) rfl (xt_29 hT) (As := [.int i1]) (rest := [.int (M.1 16 i1.toNatClampNeg), .ref (E.2.1.2.1 29)]) (st1 := [.int q14, .int (M.1 16 i1.toNatClampNeg), .ref (E.2.1.2.1 29)]) (kX9_ringX C.2.2.2.1 i1 hT M hq14) rfl rfl rfl (Nat.le_of_ble_eq_true rfl) dX9_daysTillMet_14 (fun H locs hM => ?_)
  refine lv_aload_n hx hb dX9_daysTillMet_17 rfl (lv_at hl 1 rfl) ?_
  refine lv_iload_n hx hb dX9_daysTillMet_18 rfl (lv_at hl 2 rfl) ?_
  obtain ⟨q19, hq19, hf⟩ := mx_bd hf
  refine mx_callV C hM hl.1 yo_X9_ringY (h' := 1) (by decide) qw_821 qw_823 qs_61 (ci := 9) (q := (RX9, TX9, 13)) rfl (xt_29 hT) (As := [.int i1]) (rest := [.int q14, .int (M.1 16 i1.toNatClampNeg), .ref (E.2.1.2.1 29)]) (st1 := [.int q19, .int q14, .int (M.1 16 i1.toNatClampNeg), .ref (E.2.1.2.1 29)]) (kX9_ringY C.2.2.2.1 i1 hT M hq19) rfl rfl rfl (Nat.le_of_ble_eq_true rfl) dX9_daysTillMet_19 (fun H locs hM => ?_)
  obtain ⟨q22, hq22, hf⟩ := mx_bd hf
  refine mx_callV C hM hl.1 yo_X9_farTo (h' := 1) (by decide) qw_701 qw_703 qs_41 (ci := 9) (q := (RX9, TX9, 13)) rfl (xt_29 hT) (As := [.int (M.1 16 i1.toNatClampNeg), .int q14, .int q19]) (rest := []) (st1 := [.int q22]) (kX9_farTo C.2.2.2.1 29 (M.1 16 i1.toNatClampNeg) q14 q19 hT xiS_29 M hq22) rfl rfl rfl (Nat.le_of_ble_eq_true rfl) dX9_daysTillMet_22 (fun H locs hM => ?_)
  refine lv_istore_n (lv' := [(3, .int q22), (2, .int (M.1 16 i1.toNatClampNeg)), (0, .ref (E.2.1.2.1 29)), (1, .int i1)]) hx hb dX9_daysTillMet_25 rfl hl (by decide) rfl (fun ls hl => ?_)
  refine lv_aload_n hx hb dX9_daysTillMet_26 rfl (lv_at hl 2 rfl) ?_
  refine gX9_24 C hM (xt_29 hT) (f := (2, 34)) rfl (v := .ref (E.2.1.2.1 34)) rfl dX9_daysTillMet_27 ?_
  refine lv_iload_n hx hb dX9_daysTillMet_30 rfl (lv_at hl 3 rfl) ?_
  obtain ⟨hg31, hf⟩ := mx_gd hf
  refine mx_iald C hM (xt_34 hT) (mx_in_vp hg31) dX9_daysTillMet_31 ?_
  refine lv_iconst (v := (2 : Int32)) hx hb dX9_daysTillMet_32 (by decide) ?_
  refine lv_icmp_ne (tgt := 46) hx hb dX9_daysTillMet_33 (by decide) (fun hc33 => ?_) (fun hc33 => ?_)
  · replace hf := mx_iff hc33 hf
    refine lv_iconst (v := (2 : Int32)) hx hb dX9_daysTillMet_46 (by decide) ?_
    refine lv_aload_n hx hb dX9_daysTillMet_47 rfl (lv_at hl 2 rfl) ?_
    refine gX9_36 C hM (xt_29 hT) (f := (2, 9)) rfl (v := .ref (E.2.1.2.1 9)) rfl dX9_daysTillMet_48 ?_
    refine gX9_76 C hT hM (xt_9 hT) (f := (0, 0)) rfl (v := .int (M.1 9 12)) rfl dX9_daysTillMet_51 ?_
    refine lv_imul hx hb dX9_daysTillMet_54 ?_
    exact wfX9_daysTillMet_55 C i1 M hT q22 ((2 : Int32) * (M.1 9 12)) _ _ _ hf hM (lv_sub hl [0] rfl)
  · replace hf := mx_ift hc33 hf
    refine lv_aload_n hx hb dX9_daysTillMet_36 rfl (lv_at hl 2 rfl) ?_
    refine gX9_36 C hM (xt_29 hT) (f := (2, 9)) rfl (v := .ref (E.2.1.2.1 9)) rfl dX9_daysTillMet_37 ?_
    refine gX9_76 C hT hM (xt_9 hT) (f := (0, 0)) rfl (v := .int (M.1 9 12)) rfl dX9_daysTillMet_40 ?_
    refine lv_goto (tgt := 55) hx hb dX9_daysTillMet_43 (by decide) ?_
    exact wfX9_daysTillMet_55 C i1 M hT q22 (M.1 9 12) _ _ _ hf hM (lv_sub hl [0] rfl)
theorem dX10_hasRoom_0 : decode cX10_hasRoom 0 = .ok (.aload_n 0, 1) := by decide +kernel
theorem dX10_hasRoom_1 : decode cX10_hasRoom 1 = .ok (.getfield 15, 3) := by decide +kernel
theorem dX10_hasRoom_4 : decode cX10_hasRoom 4 = .ok (.bipush 20, 2) := by decide +kernel
theorem dX10_hasRoom_6 : decode cX10_hasRoom 6 = .ok (.iadd, 1) := by decide +kernel
theorem dX10_hasRoom_7 : decode cX10_hasRoom 7 = .ok (.sipush 940, 3) := by decide +kernel
theorem dX10_hasRoom_10 : decode cX10_hasRoom 10 = .ok (.if_icmp .gt 7, 3) := by decide +kernel
theorem dX10_hasRoom_13 : decode cX10_hasRoom 13 = .ok (.iconst 1, 1) := by decide +kernel
theorem dX10_hasRoom_14 : decode cX10_hasRoom 14 = .ok (.goto 4, 3) := by decide +kernel
theorem dX10_hasRoom_17 : decode cX10_hasRoom 17 = .ok (.iconst 0, 1) := by decide +kernel
theorem dX10_hasRoom_18 : decode cX10_hasRoom 18 = .ok (.ireturn, 1) := by decide +kernel
set_option maxRecDepth 100000 in
set_option maxHeartbeats 4000000 in
theorem kX10_hasRoom {E : KE} {l : Launch} (hE : mx_ok E)  (hT : xOK E) (M : MM) {q : Bool} (hf : fX10_hasRoom M = some q) : mx_Met E l yX10_hasRoom cX10_hasRoom 1 (some .boolean) 0 [.ref (E.2.1.2.1 1)] M (some (.int (mx_b q))) M := by
  refine mx_enter hE (by decide) (Nat.le_of_ble_eq_true rfl) ?_
  intro p e s m below meth c C hM hn ls hl
  have hx := C.1.1
  have hb := C.1.2.1
  have hown := C.1.2.2.2.1
  have hts := C.1.2.2.2.2
  have hl : lv_has ls 1 [(0, .ref (E.2.1.2.1 1))] := hl
  rw [fX10_hasRoom] at hf
  refine lv_aload_n hx hb dX10_hasRoom_0 rfl (lv_at hl 0 rfl) ?_
  refine gX10_15 C hM (xt_1 hT) (f := (0, 0)) rfl (v := .int (M.1 1 1)) rfl dX10_hasRoom_1 ?_
  refine lv_bipush (v := (20 : Int32)) hx hb dX10_hasRoom_4 (by decide) ?_
  refine lv_iadd hx hb dX10_hasRoom_6 ?_
  refine lv_sipush (v := (940 : Int32)) hx hb dX10_hasRoom_7 (by decide) ?_
  refine lv_icmp_gt (tgt := 17) hx hb dX10_hasRoom_10 (by decide) (fun hc10 => ?_) (fun hc10 => ?_)
  · replace hf := mx_ift hc10 hf
    refine lv_iconst (v := (0 : Int32)) hx hb dX10_hasRoom_17 (by decide) ?_
    exact mx_zretR C hM (b := false) rfl hf dX10_hasRoom_18
  · replace hf := mx_iff hc10 hf
    refine lv_iconst (v := (1 : Int32)) hx hb dX10_hasRoom_13 (by decide) ?_
    refine lv_goto (tgt := 18) hx hb dX10_hasRoom_14 (by decide) ?_
    exact mx_zretR C hM (b := true) rfl hf dX10_hasRoom_18
theorem dX10_add_0 : decode cX10_add 0 = .ok (.bipush 24, 2) := by decide +kernel
theorem dX10_add_2 : decode cX10_add 2 = .ok (.istore_n 2, 1) := by decide +kernel
theorem dX10_add_3 : decode cX10_add 3 = .ok (.iload_n 2, 1) := by decide +kernel
theorem dX10_add_4 : decode cX10_add 4 = .ok (.ifCond .lt 42, 3) := by decide +kernel
theorem dX10_add_7 : decode cX10_add 7 = .ok (.aload_n 0, 1) := by decide +kernel
theorem dX10_add_8 : decode cX10_add 8 = .ok (.getfield 15, 3) := by decide +kernel
theorem dX10_add_11 : decode cX10_add 11 = .ok (.sipush 940, 3) := by decide +kernel
theorem dX10_add_14 : decode cX10_add 14 = .ok (.if_icmp .ge 32, 3) := by decide +kernel
theorem dX10_add_17 : decode cX10_add 17 = .ok (.aload_n 0, 1) := by decide +kernel
theorem dX10_add_18 : decode cX10_add 18 = .ok (.getfield 11, 3) := by decide +kernel
theorem dX10_add_21 : decode cX10_add 21 = .ok (.aload_n 0, 1) := by decide +kernel
theorem dX10_add_22 : decode cX10_add 22 = .ok (.getfield 15, 3) := by decide +kernel
theorem dX10_add_25 : decode cX10_add 25 = .ok (.iload_n 1, 1) := by decide +kernel
theorem dX10_add_26 : decode cX10_add 26 = .ok (.iload_n 2, 1) := by decide +kernel
theorem dX10_add_27 : decode cX10_add 27 = .ok (.iushr, 1) := by decide +kernel
theorem dX10_add_28 : decode cX10_add 28 = .ok (.i2b, 1) := by decide +kernel
theorem dX10_add_29 : decode cX10_add 29 = .ok (.bastore, 1) := by decide +kernel
theorem dX10_add_30 : decode cX10_add 30 = .ok (.aload_n 0, 1) := by decide +kernel
theorem dX10_add_31 : decode cX10_add 31 = .ok (.dup, 1) := by decide +kernel
theorem dX10_add_32 : decode cX10_add 32 = .ok (.getfield 15, 3) := by decide +kernel
theorem dX10_add_35 : decode cX10_add 35 = .ok (.iconst 1, 1) := by decide +kernel
theorem dX10_add_36 : decode cX10_add 36 = .ok (.iadd, 1) := by decide +kernel
theorem dX10_add_37 : decode cX10_add 37 = .ok (.putfield 15, 3) := by decide +kernel
theorem dX10_add_40 : decode cX10_add 40 = .ok (.iinc 2 (-8), 3) := by decide +kernel
theorem dX10_add_43 : decode cX10_add 43 = .ok (.goto (-40), 3) := by decide +kernel
theorem dX10_add_46 : decode cX10_add 46 = .ok (.return_, 1) := by decide +kernel
set_option maxRecDepth 100000 in
set_option maxHeartbeats 4000000 in
theorem wfX10_add_3 {E : KE} {p : Program} {l : Launch} {e : Env} {s : State} {m : MethodId} {args : Array Value} {below : List Frame} {meth : Method} {c : Code} {q : MM} (C : mx_C E p m c cX10_add 3 s args RX10 meth none) (i1 : Int32) (hT : xOK E)   : ∀ (n : Nat) (i2 : Int32) (M : MM) (H : Heap) (locs : List Loc) (ls : Array Slot), fX10_add_3 i1 n i2 M = some q → mx_H E s M H locs → lv_has ls 3 [(0, .ref (E.2.1.2.1 1)), (1, .int i1), (2, .int i2)] → W p l e (mx_rm 0) s m args below meth c H locs 0 0 (mx_Z E below args s none q) (F0 m 3 ls []) := by
  have hx := C.1.1
  have hb := C.1.2.1
  have hown := C.1.2.2.2.1
  have hts := C.1.2.2.2.2
  intro n
  induction n with
  | zero =>
    intro i2 M H locs ls hf hM hl
    rw [fX10_add_3] at hf
    cases hf
  | succ n ih =>
    intro i2 M H locs ls hf hM hl
    rw [fX10_add_3] at hf
    refine lv_iload_n hx hb dX10_add_3 rfl (lv_at hl 2 rfl) ?_
    refine lv_if_lt (tgt := 46) hx hb dX10_add_4 (by decide) (fun hc4 => ?_) (fun hc4 => ?_)
    · replace hf := mx_ift hc4 hf
      exact mx_vret C hM hf dX10_add_46
    · replace hf := mx_iff hc4 hf
      refine lv_aload_n hx hb dX10_add_7 rfl (lv_at hl 0 rfl) ?_
      refine gX10_15 C hM (xt_1 hT) (f := (0, 0)) rfl (v := .int (M.1 1 1)) rfl dX10_add_8 ?_
      refine lv_sipush (v := (940 : Int32)) hx hb dX10_add_11 (by decide) ?_
      refine lv_icmp_ge (tgt := 46) hx hb dX10_add_14 (by decide) (fun hc14 => ?_) (fun hc14 => ?_)
      · replace hf := mx_ift hc14 hf
        exact mx_vret C hM hf dX10_add_46
      · replace hf := mx_iff hc14 hf
        refine lv_aload_n hx hb dX10_add_17 rfl (lv_at hl 0 rfl) ?_
        refine gX10_11 C hM (xt_1 hT) (f := (2, 2)) rfl (v := .ref (E.2.1.2.1 2)) rfl dX10_add_18 ?_
        refine lv_aload_n hx hb dX10_add_21 rfl (lv_at hl 0 rfl) ?_
        refine gX10_15 C hM (xt_1 hT) (f := (0, 0)) rfl (v := .int (M.1 1 1)) rfl dX10_add_22 ?_
        refine lv_iload_n hx hb dX10_add_25 rfl (lv_at hl 1 rfl) ?_
        refine lv_iload_n hx hb dX10_add_26 rfl (lv_at hl 2 rfl) ?_
        refine lv_iushr (v := (mx_ushr i1 i2)) hx hb dX10_add_27 rfl ?_
        refine lv_i2b (v := ((mx_ushr i1 i2).toInt8.toInt32)) hx hb dX10_add_28 rfl ?_
        obtain ⟨hg29, hf⟩ := mx_gd hf
        refine mx_bast C hM (xt_2 hT) (mx_in_vp hg29) dX10_add_29 (fun H locs hM => ?_)
        refine lv_aload_n hx hb dX10_add_30 rfl (lv_at hl 0 rfl) ?_
        refine lv_dup hx hb dX10_add_31 rfl ?_
        refine gX10_15 C hM (xt_1 hT) (f := (0, 0)) rfl (v := .int ((mx_si M 2 (M.1 1 1).toNatClampNeg (((mx_ushr i1 i2).toInt8.toInt32).toInt8.toInt32)).1 1 1)) rfl dX10_add_32 ?_
        refine lv_iconst (v := (1 : Int32)) hx hb dX10_add_35 (by decide) ?_
        refine lv_iadd hx hb dX10_add_36 ?_
        refine pX10_15 C hM (xt_1 hT) rfl rfl rfl dX10_add_37 (fun H locs hM => ?_)
        refine lv_iinc (v := (i2 + (-8 : Int32))) (lv' := [(2, .int (i2 + (-8 : Int32))), (0, .ref (E.2.1.2.1 1)), (1, .int i1)]) hx hb dX10_add_40 hl (k := 2) rfl rfl (by decide) rfl (fun ls hl => ?_)
        refine lv_goto (tgt := 3) hx hb dX10_add_43 (by decide) ?_
        exact ih (i2 + (-8 : Int32)) (mx_si (mx_si M 2 (M.1 1 1).toNatClampNeg (((mx_ushr i1 i2).toInt8.toInt32).toInt8.toInt32)) 1 1 (((mx_si M 2 (M.1 1 1).toNatClampNeg (((mx_ushr i1 i2).toInt8.toInt32).toInt8.toInt32)).1 1 1) + (1 : Int32))) _ _ _ hf hM (lv_sub hl [1, 2, 0] rfl)
set_option maxRecDepth 100000 in
set_option maxHeartbeats 4000000 in
theorem kX10_add {E : KE} {l : Launch} (hE : mx_ok E) (i1 : Int32) (hT : xOK E) (M : MM) {q : MM} (hf : fX10_add i1 M = some q) : mx_Met E l yX10_add cX10_add 3 none 0 [.ref (E.2.1.2.1 1), .int i1] M none q := by
  refine mx_enter hE (by decide) (Nat.le_of_ble_eq_true rfl) ?_
  intro p e s m below meth c C hM hn ls hl
  have hx := C.1.1
  have hb := C.1.2.1
  have hown := C.1.2.2.2.1
  have hts := C.1.2.2.2.2
  have hl : lv_has ls 3 [(0, .ref (E.2.1.2.1 1)), (1, .int i1)] := hl
  rw [fX10_add] at hf
  refine lv_bipush (v := (24 : Int32)) hx hb dX10_add_0 (by decide) ?_
  refine lv_istore_n (lv' := [(2, .int (24 : Int32)), (0, .ref (E.2.1.2.1 1)), (1, .int i1)]) hx hb dX10_add_2 rfl hl (by decide) rfl (fun ls hl => ?_)
  exact wfX10_add_3 C i1 hT mx_fu (24 : Int32) M _ _ _ hf hM (lv_sub hl [1, 2, 0] rfl)
theorem dX10_cut_0 : decode cX10_cut 0 = .ok (.iload_n 1, 1) := by decide +kernel
theorem dX10_cut_1 : decode cX10_cut 1 = .ok (.ifCond .lt 11, 3) := by decide +kernel
theorem dX10_cut_4 : decode cX10_cut 4 = .ok (.iload_n 1, 1) := by decide +kernel
theorem dX10_cut_5 : decode cX10_cut 5 = .ok (.aload_n 0, 1) := by decide +kernel
theorem dX10_cut_6 : decode cX10_cut 6 = .ok (.getfield 15, 3) := by decide +kernel
theorem dX10_cut_9 : decode cX10_cut 9 = .ok (.if_icmp .le 5, 3) := by decide +kernel
theorem dX10_cut_12 : decode cX10_cut 12 = .ok (.iconst 0, 1) := by decide +kernel
theorem dX10_cut_13 : decode cX10_cut 13 = .ok (.ireturn, 1) := by decide +kernel
theorem dX10_cut_14 : decode cX10_cut 14 = .ok (.aload_n 0, 1) := by decide +kernel
theorem dX10_cut_15 : decode cX10_cut 15 = .ok (.iload_n 1, 1) := by decide +kernel
theorem dX10_cut_16 : decode cX10_cut 16 = .ok (.putfield 15, 3) := by decide +kernel
theorem dX10_cut_19 : decode cX10_cut 19 = .ok (.iconst 1, 1) := by decide +kernel
theorem dX10_cut_20 : decode cX10_cut 20 = .ok (.ireturn, 1) := by decide +kernel
set_option maxRecDepth 100000 in
set_option maxHeartbeats 4000000 in
theorem kX10_cut {E : KE} {l : Launch} (hE : mx_ok E) (i1 : Int32) (hT : xOK E) (M : MM) {q : (Bool × MM)} (hf : fX10_cut i1 M = some q) : mx_Met E l yX10_cut cX10_cut 2 (some .boolean) 0 [.ref (E.2.1.2.1 1), .int i1] M (some (.int (mx_b q.1))) q.2 := by
  refine mx_enter hE (by decide) (Nat.le_of_ble_eq_true rfl) ?_
  intro p e s m below meth c C hM hn ls hl
  have hx := C.1.1
  have hb := C.1.2.1
  have hown := C.1.2.2.2.1
  have hts := C.1.2.2.2.2
  have hl : lv_has ls 2 [(0, .ref (E.2.1.2.1 1)), (1, .int i1)] := hl
  rw [fX10_cut] at hf
  refine lv_iload_n hx hb dX10_cut_0 rfl (lv_at hl 1 rfl) ?_
  refine lv_if_lt (tgt := 12) hx hb dX10_cut_1 (by decide) (fun hc1 => ?_) (fun hc1 => ?_)
  · replace hf := mx_ift hc1 hf
    refine lv_iconst (v := (0 : Int32)) hx hb dX10_cut_12 (by decide) ?_
    exact mx_zret C hM (b := false) rfl hf dX10_cut_13
  · replace hf := mx_iff hc1 hf
    refine lv_iload_n hx hb dX10_cut_4 rfl (lv_at hl 1 rfl) ?_
    refine lv_aload_n hx hb dX10_cut_5 rfl (lv_at hl 0 rfl) ?_
    refine gX10_15 C hM (xt_1 hT) (f := (0, 0)) rfl (v := .int (M.1 1 1)) rfl dX10_cut_6 ?_
    refine lv_icmp_le (tgt := 14) hx hb dX10_cut_9 (by decide) (fun hc9 => ?_) (fun hc9 => ?_)
    · replace hf := mx_ift hc9 hf
      refine lv_aload_n hx hb dX10_cut_14 rfl (lv_at hl 0 rfl) ?_
      refine lv_iload_n hx hb dX10_cut_15 rfl (lv_at hl 1 rfl) ?_
      refine pX10_15 C hM (xt_1 hT) rfl rfl rfl dX10_cut_16 (fun H locs hM => ?_)
      refine lv_iconst (v := (1 : Int32)) hx hb dX10_cut_19 (by decide) ?_
      exact mx_zret C hM (b := true) rfl hf dX10_cut_20
    · replace hf := mx_iff hc9 hf
      refine lv_iconst (v := (0 : Int32)) hx hb dX10_cut_12 (by decide) ?_
      exact mx_zret C hM (b := false) rfl hf dX10_cut_13
theorem dX10_clear_0 : decode cX10_clear 0 = .ok (.aload_n 0, 1) := by decide +kernel
theorem dX10_clear_1 : decode cX10_clear 1 = .ok (.iconst 0, 1) := by decide +kernel
theorem dX10_clear_2 : decode cX10_clear 2 = .ok (.putfield 15, 3) := by decide +kernel
theorem dX10_clear_5 : decode cX10_clear 5 = .ok (.return_, 1) := by decide +kernel
set_option maxRecDepth 100000 in
set_option maxHeartbeats 4000000 in
theorem kX10_clear {E : KE} {l : Launch} (hE : mx_ok E)  (hT : xOK E) (M : MM) {q : MM} (hf : fX10_clear M = some q) : mx_Met E l yX10_clear cX10_clear 1 none 0 [.ref (E.2.1.2.1 1)] M none q := by
  refine mx_enter hE (by decide) (Nat.le_of_ble_eq_true rfl) ?_
  intro p e s m below meth c C hM hn ls hl
  have hx := C.1.1
  have hb := C.1.2.1
  have hown := C.1.2.2.2.1
  have hts := C.1.2.2.2.2
  have hl : lv_has ls 1 [(0, .ref (E.2.1.2.1 1))] := hl
  rw [fX10_clear] at hf
  refine lv_aload_n hx hb dX10_clear_0 rfl (lv_at hl 0 rfl) ?_
  refine lv_iconst (v := (0 : Int32)) hx hb dX10_clear_1 (by decide) ?_
  refine pX10_15 C hM (xt_1 hT) rfl rfl rfl dX10_clear_2 (fun H locs hM => ?_)
  exact mx_vret C hM hf dX10_clear_5
theorem dX12_feed_0 : decode cX12_feed 0 = .ok (.aload_n 0, 1) := by decide +kernel
theorem dX12_feed_1 : decode cX12_feed 1 = .ok (.getfield 10, 3) := by decide +kernel
theorem dX12_feed_4 : decode cX12_feed 4 = .ok (.invokevirtual 111, 3) := by decide +kernel
theorem dX12_feed_7 : decode cX12_feed 7 = .ok (.ifCond .ne 5, 3) := by decide +kernel
theorem dX12_feed_10 : decode cX12_feed 10 = .ok (.iconst (-1), 1) := by decide +kernel
theorem dX12_feed_11 : decode cX12_feed 11 = .ok (.ireturn, 1) := by decide +kernel
theorem dX12_feed_12 : decode cX12_feed 12 = .ok (.aload_n 0, 1) := by decide +kernel
theorem dX12_feed_13 : decode cX12_feed 13 = .ok (.getfield 10, 3) := by decide +kernel
theorem dX12_feed_16 : decode cX12_feed 16 = .ok (.iload_n 1, 1) := by decide +kernel
theorem dX12_feed_17 : decode cX12_feed 17 = .ok (.invokevirtual 115, 3) := by decide +kernel
theorem dX12_feed_20 : decode cX12_feed 20 = .ok (.aload_n 0, 1) := by decide +kernel
theorem dX12_feed_21 : decode cX12_feed 21 = .ok (.getfield 10, 3) := by decide +kernel
theorem dX12_feed_24 : decode cX12_feed 24 = .ok (.iload_n 2, 1) := by decide +kernel
theorem dX12_feed_25 : decode cX12_feed 25 = .ok (.invokevirtual 115, 3) := by decide +kernel
theorem dX12_feed_28 : decode cX12_feed 28 = .ok (.aload_n 0, 1) := by decide +kernel
theorem dX12_feed_29 : decode cX12_feed 29 = .ok (.getfield 10, 3) := by decide +kernel
theorem dX12_feed_32 : decode cX12_feed 32 = .ok (.iload_n 3, 1) := by decide +kernel
theorem dX12_feed_33 : decode cX12_feed 33 = .ok (.invokevirtual 115, 3) := by decide +kernel
theorem dX12_feed_36 : decode cX12_feed 36 = .ok (.aload_n 0, 1) := by decide +kernel
theorem dX12_feed_37 : decode cX12_feed 37 = .ok (.getfield 10, 3) := by decide +kernel
theorem dX12_feed_40 : decode cX12_feed 40 = .ok (.iload 4, 2) := by decide +kernel
theorem dX12_feed_42 : decode cX12_feed 42 = .ok (.invokevirtual 115, 3) := by decide +kernel
theorem dX12_feed_45 : decode cX12_feed 45 = .ok (.aload_n 0, 1) := by decide +kernel
theorem dX12_feed_46 : decode cX12_feed 46 = .ok (.getfield 10, 3) := by decide +kernel
theorem dX12_feed_49 : decode cX12_feed 49 = .ok (.iload 5, 2) := by decide +kernel
theorem dX12_feed_51 : decode cX12_feed 51 = .ok (.invokevirtual 115, 3) := by decide +kernel
theorem dX12_feed_54 : decode cX12_feed 54 = .ok (.aload_n 0, 1) := by decide +kernel
theorem dX12_feed_55 : decode cX12_feed 55 = .ok (.getfield 10, 3) := by decide +kernel
theorem dX12_feed_58 : decode cX12_feed 58 = .ok (.getfield 119, 3) := by decide +kernel
theorem dX12_feed_61 : decode cX12_feed 61 = .ok (.ireturn, 1) := by decide +kernel
set_option maxRecDepth 100000 in
set_option maxHeartbeats 4000000 in
theorem kX12_feed {E : KE} {l : Launch} (hE : mx_ok E) (i1 : Int32) (i2 : Int32) (i3 : Int32) (i4 : Int32) (i5 : Int32) (hT : xOK E) (M : MM) {q : (Int32 × MM)} (hf : fX12_feed i1 i2 i3 i4 i5 M = some q) : mx_Met E l yX12_feed cX12_feed 6 (some .int) 1 [.ref (E.2.1.2.1 0), .int i1, .int i2, .int i3, .int i4, .int i5] M (some (.int q.1)) q.2 := by
  refine mx_enter hE (by decide) (Nat.le_of_ble_eq_true rfl) ?_
  intro p e s m below meth c C hM hn ls hl
  have hx := C.1.1
  have hb := C.1.2.1
  have hown := C.1.2.2.2.1
  have hts := C.1.2.2.2.2
  have hl : lv_has ls 6 [(0, .ref (E.2.1.2.1 0)), (1, .int i1), (2, .int i2), (3, .int i3), (4, .int i4), (5, .int i5)] := hl
  rw [fX12_feed] at hf
  refine lv_aload_n hx hb dX12_feed_0 rfl (lv_at hl 0 rfl) ?_
  refine gX12_10 C hM (xt_0 hT) (f := (2, 1)) rfl (v := .ref (E.2.1.2.1 1)) rfl dX12_feed_1 ?_
  obtain ⟨q4, hq4, hf⟩ := mx_bd hf
  refine mx_callVN C hM hl.1 yo_X10_hasRoom (h' := 0) (by decide) (nw_477 hT C) qw_479 qs_0 (ci := 10) (q := (RX10, TX10, 2)) rfl (xt_1 hT) (As := []) (rest := []) (st1 := [.int (mx_b q4)]) (kX10_hasRoom C.2.2.2.1 hT M hq4) rfl rfl rfl (Nat.le_of_ble_eq_true rfl) dX12_feed_4 (fun H locs hM => ?_)
  refine lv_if_ne (tgt := 12) hx hb dX12_feed_7 (by decide) (fun hc7 => ?_) (fun hc7 => ?_)
  · replace hf := mx_iff hc7 hf
    refine lv_aload_n hx hb dX12_feed_12 rfl (lv_at hl 0 rfl) ?_
    refine gX12_10 C hM (xt_0 hT) (f := (2, 1)) rfl (v := .ref (E.2.1.2.1 1)) rfl dX12_feed_13 ?_
    refine lv_iload_n hx hb dX12_feed_16 rfl (lv_at hl 1 rfl) ?_
    obtain ⟨q17, hq17, hf⟩ := mx_bd hf
    refine mx_callVN C hM hl.1 yo_X10_add (h' := 0) (by decide) (nw_481 hT C) qw_483 qs_1 (ci := 10) (q := (RX10, TX10, 2)) rfl (xt_1 hT) (As := [.int i1]) (rest := []) (st1 := []) (kX10_add C.2.2.2.1 i1 hT M hq17) rfl rfl rfl (Nat.le_of_ble_eq_true rfl) dX12_feed_17 (fun H locs hM => ?_)
    refine lv_aload_n hx hb dX12_feed_20 rfl (lv_at hl 0 rfl) ?_
    refine gX12_10 C hM (xt_0 hT) (f := (2, 1)) rfl (v := .ref (E.2.1.2.1 1)) rfl dX12_feed_21 ?_
    refine lv_iload_n hx hb dX12_feed_24 rfl (lv_at hl 2 rfl) ?_
    obtain ⟨q25, hq25, hf⟩ := mx_bd hf
    refine mx_callVN C hM hl.1 yo_X10_add (h' := 0) (by decide) (nw_481 hT C) qw_483 qs_1 (ci := 10) (q := (RX10, TX10, 2)) rfl (xt_1 hT) (As := [.int i2]) (rest := []) (st1 := []) (kX10_add C.2.2.2.1 i2 hT q17 hq25) rfl rfl rfl (Nat.le_of_ble_eq_true rfl) dX12_feed_25 (fun H locs hM => ?_)
    refine lv_aload_n hx hb dX12_feed_28 rfl (lv_at hl 0 rfl) ?_
    refine gX12_10 C hM (xt_0 hT) (f := (2, 1)) rfl (v := .ref (E.2.1.2.1 1)) rfl dX12_feed_29 ?_
    refine lv_iload_n hx hb dX12_feed_32 rfl (lv_at hl 3 rfl) ?_
    obtain ⟨q33, hq33, hf⟩ := mx_bd hf
    refine mx_callVN C hM hl.1 yo_X10_add (h' := 0) (by decide) (nw_481 hT C) qw_483 qs_1 (ci := 10) (q := (RX10, TX10, 2)) rfl (xt_1 hT) (As := [.int i3]) (rest := []) (st1 := []) (kX10_add C.2.2.2.1 i3 hT q25 hq33) rfl rfl rfl (Nat.le_of_ble_eq_true rfl) dX12_feed_33 (fun H locs hM => ?_)
    refine lv_aload_n hx hb dX12_feed_36 rfl (lv_at hl 0 rfl) ?_
    refine gX12_10 C hM (xt_0 hT) (f := (2, 1)) rfl (v := .ref (E.2.1.2.1 1)) rfl dX12_feed_37 ?_
    refine lv_iload hx hb dX12_feed_40 (lv_at hl 4 rfl) ?_
    obtain ⟨q42, hq42, hf⟩ := mx_bd hf
    refine mx_callVN C hM hl.1 yo_X10_add (h' := 0) (by decide) (nw_481 hT C) qw_483 qs_1 (ci := 10) (q := (RX10, TX10, 2)) rfl (xt_1 hT) (As := [.int i4]) (rest := []) (st1 := []) (kX10_add C.2.2.2.1 i4 hT q33 hq42) rfl rfl rfl (Nat.le_of_ble_eq_true rfl) dX12_feed_42 (fun H locs hM => ?_)
    refine lv_aload_n hx hb dX12_feed_45 rfl (lv_at hl 0 rfl) ?_
    refine gX12_10 C hM (xt_0 hT) (f := (2, 1)) rfl (v := .ref (E.2.1.2.1 1)) rfl dX12_feed_46 ?_
    refine lv_iload hx hb dX12_feed_49 (lv_at hl 5 rfl) ?_
    obtain ⟨q51, hq51, hf⟩ := mx_bd hf
    refine mx_callVN C hM hl.1 yo_X10_add (h' := 0) (by decide) (nw_481 hT C) qw_483 qs_1 (ci := 10) (q := (RX10, TX10, 2)) rfl (xt_1 hT) (As := [.int i5]) (rest := []) (st1 := []) (kX10_add C.2.2.2.1 i5 hT q42 hq51) rfl rfl rfl (Nat.le_of_ble_eq_true rfl) dX12_feed_51 (fun H locs hM => ?_)
    refine lv_aload_n hx hb dX12_feed_54 rfl (lv_at hl 0 rfl) ?_
    refine gX12_10 C hM (xt_0 hT) (f := (2, 1)) rfl (v := .ref (E.2.1.2.1 1)) rfl dX12_feed_55 ?_
    refine gX12_119 C hT hM (xt_1 hT) (f := (0, 0)) rfl (v := .int (q51.1 1 1)) rfl dX12_feed_58 ?_
    exact mx_iret C hM hf dX12_feed_61
  · replace hf := mx_ift hc7 hf
    refine lv_iconst (v := (-1 : Int32)) hx hb dX12_feed_10 (by decide) ?_
    exact mx_iret C hM hf dX12_feed_11
