theorem dX6_planKeepers_0 : decode cX6_planKeepers 0 = .ok (.iconst 0, 1) := by decide +kernel
theorem dX6_planKeepers_1 : decode cX6_planKeepers 1 = .ok (.istore_n 2, 1) := by decide +kernel
theorem dX6_planKeepers_2 : decode cX6_planKeepers 2 = .ok (.iconst 0, 1) := by decide +kernel
theorem dX6_planKeepers_3 : decode cX6_planKeepers 3 = .ok (.istore_n 3, 1) := by decide +kernel
theorem dX6_planKeepers_4 : decode cX6_planKeepers 4 = .ok (.iload_n 3, 1) := by decide +kernel
theorem dX6_planKeepers_5 : decode cX6_planKeepers 5 = .ok (.aload_n 1, 1) := by decide +kernel
theorem dX6_planKeepers_6 : decode cX6_planKeepers 6 = .ok (.getfield 35, 3) := by decide +kernel
theorem dX6_planKeepers_9 : decode cX6_planKeepers 9 = .ok (.getfield 54, 3) := by decide +kernel
theorem dX6_planKeepers_12 : decode cX6_planKeepers 12 = .ok (.if_icmp .ge 29, 3) := by decide +kernel
theorem dX6_planKeepers_15 : decode cX6_planKeepers 15 = .ok (.aload_n 1, 1) := by decide +kernel
theorem dX6_planKeepers_16 : decode cX6_planKeepers 16 = .ok (.getfield 84, 3) := by decide +kernel
theorem dX6_planKeepers_19 : decode cX6_planKeepers 19 = .ok (.iload_n 3, 1) := by decide +kernel
theorem dX6_planKeepers_20 : decode cX6_planKeepers 20 = .ok (.iaload, 1) := by decide +kernel
theorem dX6_planKeepers_21 : decode cX6_planKeepers 21 = .ok (.iconst 2, 1) := by decide +kernel
theorem dX6_planKeepers_22 : decode cX6_planKeepers 22 = .ok (.if_icmp .eq 13, 3) := by decide +kernel
theorem dX6_planKeepers_25 : decode cX6_planKeepers 25 = .ok (.aload_n 0, 1) := by decide +kernel
theorem dX6_planKeepers_26 : decode cX6_planKeepers 26 = .ok (.getfield 28, 3) := by decide +kernel
theorem dX6_planKeepers_29 : decode cX6_planKeepers 29 = .ok (.iload_n 2, 1) := by decide +kernel
theorem dX6_planKeepers_30 : decode cX6_planKeepers 30 = .ok (.iload_n 3, 1) := by decide +kernel
theorem dX6_planKeepers_31 : decode cX6_planKeepers 31 = .ok (.iastore, 1) := by decide +kernel
theorem dX6_planKeepers_32 : decode cX6_planKeepers 32 = .ok (.iinc 2 1, 3) := by decide +kernel
theorem dX6_planKeepers_35 : decode cX6_planKeepers 35 = .ok (.iinc 3 1, 3) := by decide +kernel
theorem dX6_planKeepers_38 : decode cX6_planKeepers 38 = .ok (.goto (-34), 3) := by decide +kernel
theorem dX6_planKeepers_41 : decode cX6_planKeepers 41 = .ok (.iconst 1, 1) := by decide +kernel
theorem dX6_planKeepers_42 : decode cX6_planKeepers 42 = .ok (.aload_n 1, 1) := by decide +kernel
theorem dX6_planKeepers_43 : decode cX6_planKeepers 43 = .ok (.getfield 35, 3) := by decide +kernel
theorem dX6_planKeepers_46 : decode cX6_planKeepers 46 = .ok (.getfield 41, 3) := by decide +kernel
theorem dX6_planKeepers_49 : decode cX6_planKeepers 49 = .ok (.ishl, 1) := by decide +kernel
theorem dX6_planKeepers_50 : decode cX6_planKeepers 50 = .ok (.iconst 1, 1) := by decide +kernel
theorem dX6_planKeepers_51 : decode cX6_planKeepers 51 = .ok (.isub, 1) := by decide +kernel
theorem dX6_planKeepers_52 : decode cX6_planKeepers 52 = .ok (.istore_n 3, 1) := by decide +kernel
theorem dX6_planKeepers_53 : decode cX6_planKeepers 53 = .ok (.iload_n 3, 1) := by decide +kernel
theorem dX6_planKeepers_54 : decode cX6_planKeepers 54 = .ok (.ifCond .lt 22, 3) := by decide +kernel
theorem dX6_planKeepers_57 : decode cX6_planKeepers 57 = .ok (.aload_n 0, 1) := by decide +kernel
theorem dX6_planKeepers_58 : decode cX6_planKeepers 58 = .ok (.getfield 25, 3) := by decide +kernel
theorem dX6_planKeepers_61 : decode cX6_planKeepers 61 = .ok (.iload_n 3, 1) := by decide +kernel
theorem dX6_planKeepers_62 : decode cX6_planKeepers 62 = .ok (.aload_n 0, 1) := by decide +kernel
theorem dX6_planKeepers_63 : decode cX6_planKeepers 63 = .ok (.aload_n 1, 1) := by decide +kernel
theorem dX6_planKeepers_64 : decode cX6_planKeepers 64 = .ok (.iload_n 3, 1) := by decide +kernel
theorem dX6_planKeepers_65 : decode cX6_planKeepers 65 = .ok (.iload_n 2, 1) := by decide +kernel
theorem dX6_planKeepers_66 : decode cX6_planKeepers 66 = .ok (.invokevirtual 87, 3) := by decide +kernel
theorem dX6_planKeepers_69 : decode cX6_planKeepers 69 = .ok (.iastore, 1) := by decide +kernel
theorem dX6_planKeepers_70 : decode cX6_planKeepers 70 = .ok (.iinc 3 (-1), 3) := by decide +kernel
theorem dX6_planKeepers_73 : decode cX6_planKeepers 73 = .ok (.goto (-20), 3) := by decide +kernel
theorem dX6_planKeepers_76 : decode cX6_planKeepers 76 = .ok (.aload_n 0, 1) := by decide +kernel
theorem dX6_planKeepers_77 : decode cX6_planKeepers 77 = .ok (.getfield 25, 3) := by decide +kernel
theorem dX6_planKeepers_80 : decode cX6_planKeepers 80 = .ok (.iconst 0, 1) := by decide +kernel
theorem dX6_planKeepers_81 : decode cX6_planKeepers 81 = .ok (.iaload, 1) := by decide +kernel
theorem dX6_planKeepers_82 : decode cX6_planKeepers 82 = .ok (.ldc 64, 2) := by decide +kernel
theorem dX6_planKeepers_84 : decode cX6_planKeepers 84 = .ok (.if_icmp .lt 5, 3) := by decide +kernel
theorem dX6_planKeepers_87 : decode cX6_planKeepers 87 = .ok (.iconst (-1), 1) := by decide +kernel
theorem dX6_planKeepers_88 : decode cX6_planKeepers 88 = .ok (.ireturn, 1) := by decide +kernel
theorem dX6_planKeepers_89 : decode cX6_planKeepers 89 = .ok (.aload_n 0, 1) := by decide +kernel
theorem dX6_planKeepers_90 : decode cX6_planKeepers 90 = .ok (.aload_n 1, 1) := by decide +kernel
theorem dX6_planKeepers_91 : decode cX6_planKeepers 91 = .ok (.iload_n 2, 1) := by decide +kernel
theorem dX6_planKeepers_92 : decode cX6_planKeepers 92 = .ok (.invokevirtual 90, 3) := by decide +kernel
theorem dX6_planKeepers_95 : decode cX6_planKeepers 95 = .ok (.aload_n 0, 1) := by decide +kernel
theorem dX6_planKeepers_96 : decode cX6_planKeepers 96 = .ok (.getfield 25, 3) := by decide +kernel
theorem dX6_planKeepers_99 : decode cX6_planKeepers 99 = .ok (.iconst 0, 1) := by decide +kernel
theorem dX6_planKeepers_100 : decode cX6_planKeepers 100 = .ok (.iaload, 1) := by decide +kernel
theorem dX6_planKeepers_101 : decode cX6_planKeepers 101 = .ok (.ireturn, 1) := by decide +kernel
set_option maxRecDepth 100000 in
set_option maxHeartbeats 4000000 in
theorem wfX6_planKeepers_53 {E : KE} {p : Program} {l : Launch} {e : Env} {s : State} {m : MethodId} {args : Array Value} {below : List Frame} {meth : Method} {c : Code} {q : (Int32 × MM)} (C : mx_C E p m c cX6_planKeepers 4 s args RX6 meth (some .int))  (hT : xOK E) (i2 : Int32)  : ∀ (n : Nat) (i3 : Int32) (M : MM) (H : Heap) (locs : List Loc) (ls : Array Slot), fX6_planKeepers_53 i2 n i3 M = some q → mx_H E s M H locs → lv_has ls 4 [(0, .ref (E.2.1.2.1 143)), (1, .ref (E.2.1.2.1 29)), (2, .int i2), (3, .int i3)] → W p l e (mx_rm 6) s m args below meth c H locs 0 0 (mx_Z E below args s (some (.int q.1)) q.2) (F0 m 53 ls []) := by
  have hx := C.1.1
  have hb := C.1.2.1
  have hown := C.1.2.2.2.1
  have hts := C.1.2.2.2.2
  intro n
  induction n with
  | zero =>
    intro i3 M H locs ls hf hM hl
    rw [fX6_planKeepers_53] at hf
    cases hf
  | succ n ih =>
    intro i3 M H locs ls hf hM hl
    rw [fX6_planKeepers_53] at hf
    refine lv_iload_n hx hb dX6_planKeepers_53 rfl (lv_at hl 3 rfl) ?_
    refine lv_if_lt (tgt := 76) hx hb dX6_planKeepers_54 (by decide) (fun hc54 => ?_) (fun hc54 => ?_)
    · replace hf := mx_ift hc54 hf
      refine lv_aload_n hx hb dX6_planKeepers_76 rfl (lv_at hl 0 rfl) ?_
      refine gX6_25 C hM (xt_143 hT) (f := (2, 147)) rfl (v := .ref (E.2.1.2.1 147)) rfl dX6_planKeepers_77 ?_
      refine lv_iconst (v := (0 : Int32)) hx hb dX6_planKeepers_80 (by decide) ?_
      refine mx_ialdL C hM (xt_147 hT) (j := 0) (by decide) (mx_in_vp (by decide)) dX6_planKeepers_81 ?_
      refine lv_ldc (v := (1000000)) hx hb hown (hts _ qw_845) dX6_planKeepers_82 ?_
      refine lv_icmp_lt (tgt := 89) hx hb dX6_planKeepers_84 (by decide) (fun hc84 => ?_) (fun hc84 => ?_)
      · replace hf := mx_ift hc84 hf
        refine lv_aload_n hx hb dX6_planKeepers_89 rfl (lv_at hl 0 rfl) ?_
        refine lv_aload_n hx hb dX6_planKeepers_90 rfl (lv_at hl 1 rfl) ?_
        refine lv_iload_n hx hb dX6_planKeepers_91 rfl (lv_at hl 2 rfl) ?_
        obtain ⟨q92, hq92, hf⟩ := mx_bd hf
        refine mx_callV C hM hl.1 yo_X6_followKeepers (h' := 5) (by decide) qw_889 qw_891 qs_71 (ci := 6) (q := (RX6, TX6, 7)) rfl (xt_143 hT) (As := [.ref (E.2.1.2.1 29), .int i2]) (rest := []) (st1 := []) (kX6_followKeepers C.2.2.2.1 i2 hT M hq92) rfl rfl rfl (Nat.le_of_ble_eq_true rfl) dX6_planKeepers_92 (fun H locs hM => ?_)
        refine lv_aload_n hx hb dX6_planKeepers_95 rfl (lv_at hl 0 rfl) ?_
        refine gX6_25 C hM (xt_143 hT) (f := (2, 147)) rfl (v := .ref (E.2.1.2.1 147)) rfl dX6_planKeepers_96 ?_
        refine lv_iconst (v := (0 : Int32)) hx hb dX6_planKeepers_99 (by decide) ?_
        refine mx_ialdL C hM (xt_147 hT) (j := 0) (by decide) (mx_in_vp (by decide)) dX6_planKeepers_100 ?_
        exact mx_iret C hM hf dX6_planKeepers_101
      · replace hf := mx_iff hc84 hf
        refine lv_iconst (v := (-1 : Int32)) hx hb dX6_planKeepers_87 (by decide) ?_
        exact mx_iret C hM hf dX6_planKeepers_88
    · replace hf := mx_iff hc54 hf
      refine lv_aload_n hx hb dX6_planKeepers_57 rfl (lv_at hl 0 rfl) ?_
      refine gX6_25 C hM (xt_143 hT) (f := (2, 147)) rfl (v := .ref (E.2.1.2.1 147)) rfl dX6_planKeepers_58 ?_
      refine lv_iload_n hx hb dX6_planKeepers_61 rfl (lv_at hl 3 rfl) ?_
      refine lv_aload_n hx hb dX6_planKeepers_62 rfl (lv_at hl 0 rfl) ?_
      refine lv_aload_n hx hb dX6_planKeepers_63 rfl (lv_at hl 1 rfl) ?_
      refine lv_iload_n hx hb dX6_planKeepers_64 rfl (lv_at hl 3 rfl) ?_
      refine lv_iload_n hx hb dX6_planKeepers_65 rfl (lv_at hl 2 rfl) ?_
      obtain ⟨q66, hq66, hf⟩ := mx_bd hf
      refine mx_callV C hM hl.1 yo_X6_leastKeepers (h' := 4) (by decide) qw_877 qw_879 qs_69 (ci := 6) (q := (RX6, TX6, 7)) rfl (xt_143 hT) (As := [.ref (E.2.1.2.1 29), .int i3, .int i2]) (rest := [.int i3, .ref (E.2.1.2.1 147)]) (st1 := [.int q66, .int i3, .ref (E.2.1.2.1 147)]) (kX6_leastKeepers C.2.2.2.1 i3 i2 hT M hq66) rfl rfl rfl (Nat.le_of_ble_eq_true rfl) dX6_planKeepers_66 (fun H locs hM => ?_)
      obtain ⟨hg69, hf⟩ := mx_gd hf
      refine mx_iast C hM (xt_147 hT) (mx_in_vp hg69) dX6_planKeepers_69 (fun H locs hM => ?_)
      refine lv_iinc (v := (i3 + (-1 : Int32))) (lv' := [(3, .int (i3 + (-1 : Int32))), (0, .ref (E.2.1.2.1 143)), (1, .ref (E.2.1.2.1 29)), (2, .int i2)]) hx hb dX6_planKeepers_70 hl (k := 3) rfl rfl (by decide) rfl (fun ls hl => ?_)
      refine lv_goto (tgt := 53) hx hb dX6_planKeepers_73 (by decide) ?_
      exact ih (i3 + (-1 : Int32)) (mx_si M 147 i3.toNatClampNeg q66) _ _ _ hf hM (lv_sub hl [1, 2, 3, 0] rfl)
set_option maxRecDepth 100000 in
set_option maxHeartbeats 4000000 in
theorem wfX6_planKeepers_4 {E : KE} {p : Program} {l : Launch} {e : Env} {s : State} {m : MethodId} {args : Array Value} {below : List Frame} {meth : Method} {c : Code} {q : (Int32 × MM)} (C : mx_C E p m c cX6_planKeepers 4 s args RX6 meth (some .int))  (hT : xOK E)   : ∀ (n : Nat) (i2 : Int32) (i3 : Int32) (M : MM) (H : Heap) (locs : List Loc) (ls : Array Slot), fX6_planKeepers_4 n i2 i3 M = some q → mx_H E s M H locs → lv_has ls 4 [(0, .ref (E.2.1.2.1 143)), (1, .ref (E.2.1.2.1 29)), (2, .int i2), (3, .int i3)] → W p l e (mx_rm 6) s m args below meth c H locs 0 0 (mx_Z E below args s (some (.int q.1)) q.2) (F0 m 4 ls []) := by
  have hx := C.1.1
  have hb := C.1.2.1
  have hown := C.1.2.2.2.1
  have hts := C.1.2.2.2.2
  intro n
  induction n with
  | zero =>
    intro i2 i3 M H locs ls hf hM hl
    rw [fX6_planKeepers_4] at hf
    cases hf
  | succ n ih =>
    intro i2 i3 M H locs ls hf hM hl
    rw [fX6_planKeepers_4] at hf
    refine lv_iload_n hx hb dX6_planKeepers_4 rfl (lv_at hl 3 rfl) ?_
    refine lv_aload_n hx hb dX6_planKeepers_5 rfl (lv_at hl 1 rfl) ?_
    refine gX6_35 C hT hM (xt_29 hT) (f := (2, 9)) rfl (v := .ref (E.2.1.2.1 9)) rfl dX6_planKeepers_6 ?_
    refine gX6_54 C hT hM (xt_9 hT) (f := (0, 0)) rfl (v := .int (M.1 9 1)) rfl dX6_planKeepers_9 ?_
    refine lv_icmp_ge (tgt := 41) hx hb dX6_planKeepers_12 (by decide) (fun hc12 => ?_) (fun hc12 => ?_)
    · replace hf := mx_ift hc12 hf
      refine lv_iconst (v := (1 : Int32)) hx hb dX6_planKeepers_41 (by decide) ?_
      refine lv_aload_n hx hb dX6_planKeepers_42 rfl (lv_at hl 1 rfl) ?_
      refine gX6_35 C hT hM (xt_29 hT) (f := (2, 9)) rfl (v := .ref (E.2.1.2.1 9)) rfl dX6_planKeepers_43 ?_
      refine gX6_41 C hT hM (xt_9 hT) (f := (0, 0)) rfl (v := .int (M.1 9 0)) rfl dX6_planKeepers_46 ?_
      refine lv_ishl hx hb dX6_planKeepers_49 ?_
      refine lv_iconst (v := (1 : Int32)) hx hb dX6_planKeepers_50 (by decide) ?_
      refine lv_isub hx hb dX6_planKeepers_51 ?_
      refine lv_istore_n (lv' := [(3, .int (((1 : Int32) <<< ((M.1 9 0) &&& 31)) - (1 : Int32))), (0, .ref (E.2.1.2.1 143)), (1, .ref (E.2.1.2.1 29)), (2, .int i2)]) hx hb dX6_planKeepers_52 rfl hl (by decide) rfl (fun ls hl => ?_)
      exact wfX6_planKeepers_53 C hT i2 mx_fu (((1 : Int32) <<< ((M.1 9 0) &&& 31)) - (1 : Int32)) M _ _ _ hf hM (lv_sub hl [1, 2, 3, 0] rfl)
    · replace hf := mx_iff hc12 hf
      refine lv_aload_n hx hb dX6_planKeepers_15 rfl (lv_at hl 1 rfl) ?_
      refine gX6_84 C hT hM (xt_29 hT) (f := (2, 34)) rfl (v := .ref (E.2.1.2.1 34)) rfl dX6_planKeepers_16 ?_
      refine lv_iload_n hx hb dX6_planKeepers_19 rfl (lv_at hl 3 rfl) ?_
      obtain ⟨hg20, hf⟩ := mx_gd hf
      refine mx_iald C hM (xt_34 hT) (mx_in_vp hg20) dX6_planKeepers_20 ?_
      refine lv_iconst (v := (2 : Int32)) hx hb dX6_planKeepers_21 (by decide) ?_
      refine lv_icmp_eq (tgt := 35) hx hb dX6_planKeepers_22 (by decide) (fun hc22 => ?_) (fun hc22 => ?_)
      · replace hf := mx_ift hc22 hf
        refine lv_iinc (v := (i3 + (1 : Int32))) (lv' := [(3, .int (i3 + (1 : Int32))), (0, .ref (E.2.1.2.1 143)), (1, .ref (E.2.1.2.1 29)), (2, .int i2)]) hx hb dX6_planKeepers_35 hl (k := 3) rfl rfl (by decide) rfl (fun ls hl => ?_)
        refine lv_goto (tgt := 4) hx hb dX6_planKeepers_38 (by decide) ?_
        exact ih i2 (i3 + (1 : Int32)) M _ _ _ hf hM (lv_sub hl [1, 2, 3, 0] rfl)
      · replace hf := mx_iff hc22 hf
        refine lv_aload_n hx hb dX6_planKeepers_25 rfl (lv_at hl 0 rfl) ?_
        refine gX6_28 C hM (xt_143 hT) (f := (2, 148)) rfl (v := .ref (E.2.1.2.1 148)) rfl dX6_planKeepers_26 ?_
        refine lv_iload_n hx hb dX6_planKeepers_29 rfl (lv_at hl 2 rfl) ?_
        refine lv_iload_n hx hb dX6_planKeepers_30 rfl (lv_at hl 3 rfl) ?_
        obtain ⟨hg31, hf⟩ := mx_gd hf
        refine mx_iast C hM (xt_148 hT) (mx_in_vp hg31) dX6_planKeepers_31 (fun H locs hM => ?_)
        refine lv_iinc (v := (i2 + (1 : Int32))) (lv' := [(2, .int (i2 + (1 : Int32))), (0, .ref (E.2.1.2.1 143)), (1, .ref (E.2.1.2.1 29)), (3, .int i3)]) hx hb dX6_planKeepers_32 hl (k := 2) rfl rfl (by decide) rfl (fun ls hl => ?_)
        refine lv_iinc (v := (i3 + (1 : Int32))) (lv' := [(3, .int (i3 + (1 : Int32))), (2, .int (i2 + (1 : Int32))), (0, .ref (E.2.1.2.1 143)), (1, .ref (E.2.1.2.1 29))]) hx hb dX6_planKeepers_35 hl (k := 3) rfl rfl (by decide) rfl (fun ls hl => ?_)
        refine lv_goto (tgt := 4) hx hb dX6_planKeepers_38 (by decide) ?_
        exact ih (i2 + (1 : Int32)) (i3 + (1 : Int32)) (mx_si M 148 i2.toNatClampNeg i3) _ _ _ hf hM (lv_sub hl [2, 3, 1, 0] rfl)
set_option maxRecDepth 100000 in
set_option maxHeartbeats 4000000 in
theorem kX6_planKeepers {E : KE} {l : Launch} (hE : mx_ok E)  (hT : xOK E) (M : MM) {q : (Int32 × MM)} (hf : fX6_planKeepers M = some q) : mx_Met E l yX6_planKeepers cX6_planKeepers 4 (some .int) 6 [.ref (E.2.1.2.1 143), .ref (E.2.1.2.1 29)] M (some (.int q.1)) q.2 := by
  refine mx_enter hE (by decide) (Nat.le_of_ble_eq_true rfl) ?_
  intro p e s m below meth c C hM hn ls hl
  have hx := C.1.1
  have hb := C.1.2.1
  have hown := C.1.2.2.2.1
  have hts := C.1.2.2.2.2
  have hl : lv_has ls 4 [(0, .ref (E.2.1.2.1 143)), (1, .ref (E.2.1.2.1 29))] := hl
  rw [fX6_planKeepers] at hf
  refine lv_iconst (v := (0 : Int32)) hx hb dX6_planKeepers_0 (by decide) ?_
  refine lv_istore_n (lv' := [(2, .int (0 : Int32)), (0, .ref (E.2.1.2.1 143)), (1, .ref (E.2.1.2.1 29))]) hx hb dX6_planKeepers_1 rfl hl (by decide) rfl (fun ls hl => ?_)
  refine lv_iconst (v := (0 : Int32)) hx hb dX6_planKeepers_2 (by decide) ?_
  refine lv_istore_n (lv' := [(3, .int (0 : Int32)), (2, .int (0 : Int32)), (0, .ref (E.2.1.2.1 143)), (1, .ref (E.2.1.2.1 29))]) hx hb dX6_planKeepers_3 rfl hl (by decide) rfl (fun ls hl => ?_)
  exact wfX6_planKeepers_4 C hT mx_fu (0 : Int32) (0 : Int32) M _ _ _ hf hM (lv_sub hl [2, 3, 1, 0] rfl)
theorem dX6_keeperOfFirst_0 : decode cX6_keeperOfFirst 0 = .ok (.iconst 0, 1) := by decide +kernel
theorem dX6_keeperOfFirst_1 : decode cX6_keeperOfFirst 1 = .ok (.istore_n 2, 1) := by decide +kernel
theorem dX6_keeperOfFirst_2 : decode cX6_keeperOfFirst 2 = .ok (.iload_n 2, 1) := by decide +kernel
theorem dX6_keeperOfFirst_3 : decode cX6_keeperOfFirst 3 = .ok (.aload_n 0, 1) := by decide +kernel
theorem dX6_keeperOfFirst_4 : decode cX6_keeperOfFirst 4 = .ok (.getfield 35, 3) := by decide +kernel
theorem dX6_keeperOfFirst_7 : decode cX6_keeperOfFirst 7 = .ok (.getfield 54, 3) := by decide +kernel
theorem dX6_keeperOfFirst_10 : decode cX6_keeperOfFirst 10 = .ok (.if_icmp .ge 39, 3) := by decide +kernel
theorem dX6_keeperOfFirst_13 : decode cX6_keeperOfFirst 13 = .ok (.aload_n 0, 1) := by decide +kernel
theorem dX6_keeperOfFirst_14 : decode cX6_keeperOfFirst 14 = .ok (.getfield 35, 3) := by decide +kernel
theorem dX6_keeperOfFirst_17 : decode cX6_keeperOfFirst 17 = .ok (.getfield 61, 3) := by decide +kernel
theorem dX6_keeperOfFirst_20 : decode cX6_keeperOfFirst 20 = .ok (.iload_n 2, 1) := by decide +kernel
theorem dX6_keeperOfFirst_21 : decode cX6_keeperOfFirst 21 = .ok (.iaload, 1) := by decide +kernel
theorem dX6_keeperOfFirst_22 : decode cX6_keeperOfFirst 22 = .ok (.iload_n 1, 1) := by decide +kernel
theorem dX6_keeperOfFirst_23 : decode cX6_keeperOfFirst 23 = .ok (.if_icmp .ne 20, 3) := by decide +kernel
theorem dX6_keeperOfFirst_26 : decode cX6_keeperOfFirst 26 = .ok (.aload_n 0, 1) := by decide +kernel
theorem dX6_keeperOfFirst_27 : decode cX6_keeperOfFirst 27 = .ok (.getfield 84, 3) := by decide +kernel
theorem dX6_keeperOfFirst_30 : decode cX6_keeperOfFirst 30 = .ok (.iload_n 2, 1) := by decide +kernel
theorem dX6_keeperOfFirst_31 : decode cX6_keeperOfFirst 31 = .ok (.iaload, 1) := by decide +kernel
theorem dX6_keeperOfFirst_32 : decode cX6_keeperOfFirst 32 = .ok (.iconst 2, 1) := by decide +kernel
theorem dX6_keeperOfFirst_33 : decode cX6_keeperOfFirst 33 = .ok (.if_icmp .eq 10, 3) := by decide +kernel
theorem dX6_keeperOfFirst_36 : decode cX6_keeperOfFirst 36 = .ok (.aload_n 0, 1) := by decide +kernel
theorem dX6_keeperOfFirst_37 : decode cX6_keeperOfFirst 37 = .ok (.getfield 113, 3) := by decide +kernel
theorem dX6_keeperOfFirst_40 : decode cX6_keeperOfFirst 40 = .ok (.iload_n 2, 1) := by decide +kernel
theorem dX6_keeperOfFirst_41 : decode cX6_keeperOfFirst 41 = .ok (.iaload, 1) := by decide +kernel
theorem dX6_keeperOfFirst_42 : decode cX6_keeperOfFirst 42 = .ok (.ireturn, 1) := by decide +kernel
theorem dX6_keeperOfFirst_43 : decode cX6_keeperOfFirst 43 = .ok (.iinc 2 1, 3) := by decide +kernel
theorem dX6_keeperOfFirst_46 : decode cX6_keeperOfFirst 46 = .ok (.goto (-44), 3) := by decide +kernel
theorem dX6_keeperOfFirst_49 : decode cX6_keeperOfFirst 49 = .ok (.iconst (-1), 1) := by decide +kernel
theorem dX6_keeperOfFirst_50 : decode cX6_keeperOfFirst 50 = .ok (.ireturn, 1) := by decide +kernel
set_option maxRecDepth 100000 in
set_option maxHeartbeats 4000000 in
theorem wfX6_keeperOfFirst_2 {E : KE} {p : Program} {l : Launch} {e : Env} {s : State} {m : MethodId} {args : Array Value} {below : List Frame} {meth : Method} {c : Code} {q : Int32} (C : mx_C E p m c cX6_keeperOfFirst 3 s args RX6 meth (some .int)) (i1 : Int32) (M : MM) (hT : xOK E)   : ∀ (n : Nat) (i2 : Int32) (H : Heap) (locs : List Loc) (ls : Array Slot), fX6_keeperOfFirst_2 i1 M n i2 = some q → mx_H E s M H locs → lv_has ls 3 [(0, .ref (E.2.1.2.1 29)), (1, .int i1), (2, .int i2)] → W p l e (mx_rm 0) s m args below meth c H locs 0 0 (mx_Z E below args s (some (.int q)) M) (F0 m 2 ls []) := by
  have hx := C.1.1
  have hb := C.1.2.1
  have hown := C.1.2.2.2.1
  have hts := C.1.2.2.2.2
  intro n
  induction n with
  | zero =>
    intro i2 H locs ls hf hM hl
    rw [fX6_keeperOfFirst_2] at hf
    cases hf
  | succ n ih =>
    intro i2 H locs ls hf hM hl
    rw [fX6_keeperOfFirst_2] at hf
    refine lv_iload_n hx hb dX6_keeperOfFirst_2 rfl (lv_at hl 2 rfl) ?_
    refine lv_aload_n hx hb dX6_keeperOfFirst_3 rfl (lv_at hl 0 rfl) ?_
    refine gX6_35 C hT hM (xt_29 hT) (f := (2, 9)) rfl (v := .ref (E.2.1.2.1 9)) rfl dX6_keeperOfFirst_4 ?_
    refine gX6_54 C hT hM (xt_9 hT) (f := (0, 0)) rfl (v := .int (M.1 9 1)) rfl dX6_keeperOfFirst_7 ?_
    refine lv_icmp_ge (tgt := 49) hx hb dX6_keeperOfFirst_10 (by decide) (fun hc10 => ?_) (fun hc10 => ?_)
    · replace hf := mx_ift hc10 hf
      refine lv_iconst (v := (-1 : Int32)) hx hb dX6_keeperOfFirst_49 (by decide) ?_
      exact mx_iretR C hM hf dX6_keeperOfFirst_50
    · replace hf := mx_iff hc10 hf
      refine lv_aload_n hx hb dX6_keeperOfFirst_13 rfl (lv_at hl 0 rfl) ?_
      refine gX6_35 C hT hM (xt_29 hT) (f := (2, 9)) rfl (v := .ref (E.2.1.2.1 9)) rfl dX6_keeperOfFirst_14 ?_
      refine gX6_61 C hT hM (xt_9 hT) (f := (2, 16)) rfl (v := .ref (E.2.1.2.1 16)) rfl dX6_keeperOfFirst_17 ?_
      refine lv_iload_n hx hb dX6_keeperOfFirst_20 rfl (lv_at hl 2 rfl) ?_
      obtain ⟨hg21, hf⟩ := mx_gd hf
      refine mx_iald C hM (xt_16 hT) (mx_in_vp hg21) dX6_keeperOfFirst_21 ?_
      refine lv_iload_n hx hb dX6_keeperOfFirst_22 rfl (lv_at hl 1 rfl) ?_
      refine lv_icmp_ne (tgt := 43) hx hb dX6_keeperOfFirst_23 (by decide) (fun hc23 => ?_) (fun hc23 => ?_)
      · replace hf := mx_iff hc23 hf
        refine lv_iinc (v := (i2 + (1 : Int32))) (lv' := [(2, .int (i2 + (1 : Int32))), (0, .ref (E.2.1.2.1 29)), (1, .int i1)]) hx hb dX6_keeperOfFirst_43 hl (k := 2) rfl rfl (by decide) rfl (fun ls hl => ?_)
        refine lv_goto (tgt := 2) hx hb dX6_keeperOfFirst_46 (by decide) ?_
        exact ih (i2 + (1 : Int32)) _ _ _ hf hM (lv_sub hl [1, 2, 0] rfl)
      · replace hf := mx_ift hc23 hf
        refine lv_aload_n hx hb dX6_keeperOfFirst_26 rfl (lv_at hl 0 rfl) ?_
        refine gX6_84 C hT hM (xt_29 hT) (f := (2, 34)) rfl (v := .ref (E.2.1.2.1 34)) rfl dX6_keeperOfFirst_27 ?_
        refine lv_iload_n hx hb dX6_keeperOfFirst_30 rfl (lv_at hl 2 rfl) ?_
        obtain ⟨hg31, hf⟩ := mx_gd hf
        refine mx_iald C hM (xt_34 hT) (mx_in_vp hg31) dX6_keeperOfFirst_31 ?_
        refine lv_iconst (v := (2 : Int32)) hx hb dX6_keeperOfFirst_32 (by decide) ?_
        refine lv_icmp_eq (tgt := 43) hx hb dX6_keeperOfFirst_33 (by decide) (fun hc33 => ?_) (fun hc33 => ?_)
        · replace hf := mx_ift hc33 hf
          refine lv_iinc (v := (i2 + (1 : Int32))) (lv' := [(2, .int (i2 + (1 : Int32))), (0, .ref (E.2.1.2.1 29)), (1, .int i1)]) hx hb dX6_keeperOfFirst_43 hl (k := 2) rfl rfl (by decide) rfl (fun ls hl => ?_)
          refine lv_goto (tgt := 2) hx hb dX6_keeperOfFirst_46 (by decide) ?_
          exact ih (i2 + (1 : Int32)) _ _ _ hf hM (lv_sub hl [1, 2, 0] rfl)
        · replace hf := mx_iff hc33 hf
          refine lv_aload_n hx hb dX6_keeperOfFirst_36 rfl (lv_at hl 0 rfl) ?_
          refine gX6_113 C hT hM (xt_29 hT) (f := (2, 33)) rfl (v := .ref (E.2.1.2.1 33)) rfl dX6_keeperOfFirst_37 ?_
          refine lv_iload_n hx hb dX6_keeperOfFirst_40 rfl (lv_at hl 2 rfl) ?_
          obtain ⟨hg41, hf⟩ := mx_gd hf
          refine mx_iald C hM (xt_33 hT) (mx_in_vp hg41) dX6_keeperOfFirst_41 ?_
          exact mx_iretR C hM hf dX6_keeperOfFirst_42
set_option maxRecDepth 100000 in
set_option maxHeartbeats 4000000 in
theorem kX6_keeperOfFirst {E : KE} {l : Launch} (hE : mx_ok E) (i1 : Int32) (hT : xOK E) (M : MM) {q : Int32} (hf : fX6_keeperOfFirst i1 M = some q) : mx_Met E l yX6_keeperOfFirst cX6_keeperOfFirst 3 (some .int) 0 [.ref (E.2.1.2.1 29), .int i1] M (some (.int q)) M := by
  refine mx_enter hE (by decide) (Nat.le_of_ble_eq_true rfl) ?_
  intro p e s m below meth c C hM hn ls hl
  have hx := C.1.1
  have hb := C.1.2.1
  have hown := C.1.2.2.2.1
  have hts := C.1.2.2.2.2
  have hl : lv_has ls 3 [(0, .ref (E.2.1.2.1 29)), (1, .int i1)] := hl
  rw [fX6_keeperOfFirst] at hf
  refine lv_iconst (v := (0 : Int32)) hx hb dX6_keeperOfFirst_0 (by decide) ?_
  refine lv_istore_n (lv' := [(2, .int (0 : Int32)), (0, .ref (E.2.1.2.1 29)), (1, .int i1)]) hx hb dX6_keeperOfFirst_1 rfl hl (by decide) rfl (fun ls hl => ?_)
  exact wfX6_keeperOfFirst_2 C i1 M hT mx_fu (0 : Int32) _ _ _ hf hM (lv_sub hl [1, 2, 0] rfl)
theorem dX6_chainFrom_0 : decode cX6_chainFrom 0 = .ok (.iconst 1, 1) := by decide +kernel
theorem dX6_chainFrom_1 : decode cX6_chainFrom 1 = .ok (.iload_n 2, 1) := by decide +kernel
theorem dX6_chainFrom_2 : decode cX6_chainFrom 2 = .ok (.ishl, 1) := by decide +kernel
theorem dX6_chainFrom_3 : decode cX6_chainFrom 3 = .ok (.istore_n 3, 1) := by decide +kernel
theorem dX6_chainFrom_4 : decode cX6_chainFrom 4 = .ok (.aload_n 0, 1) := by decide +kernel
theorem dX6_chainFrom_5 : decode cX6_chainFrom 5 = .ok (.aload_n 1, 1) := by decide +kernel
theorem dX6_chainFrom_6 : decode cX6_chainFrom 6 = .ok (.iload_n 2, 1) := by decide +kernel
theorem dX6_chainFrom_7 : decode cX6_chainFrom 7 = .ok (.invokestatic 110, 3) := by decide +kernel
theorem dX6_chainFrom_10 : decode cX6_chainFrom 10 = .ok (.putfield 18, 3) := by decide +kernel
theorem dX6_chainFrom_13 : decode cX6_chainFrom 13 = .ok (.iconst 0, 1) := by decide +kernel
theorem dX6_chainFrom_14 : decode cX6_chainFrom 14 = .ok (.istore 4, 2) := by decide +kernel
theorem dX6_chainFrom_16 : decode cX6_chainFrom 16 = .ok (.iload 4, 2) := by decide +kernel
theorem dX6_chainFrom_18 : decode cX6_chainFrom 18 = .ok (.bipush 7, 2) := by decide +kernel
theorem dX6_chainFrom_20 : decode cX6_chainFrom 20 = .ok (.if_icmp .ge 49, 3) := by decide +kernel
theorem dX6_chainFrom_23 : decode cX6_chainFrom 23 = .ok (.aload_n 0, 1) := by decide +kernel
theorem dX6_chainFrom_24 : decode cX6_chainFrom 24 = .ok (.getfield 18, 3) := by decide +kernel
theorem dX6_chainFrom_27 : decode cX6_chainFrom 27 = .ok (.iconst (-1), 1) := by decide +kernel
theorem dX6_chainFrom_28 : decode cX6_chainFrom 28 = .ok (.if_icmp .eq 41, 3) := by decide +kernel
theorem dX6_chainFrom_31 : decode cX6_chainFrom 31 = .ok (.iload_n 3, 1) := by decide +kernel
theorem dX6_chainFrom_32 : decode cX6_chainFrom 32 = .ok (.aload_n 0, 1) := by decide +kernel
theorem dX6_chainFrom_33 : decode cX6_chainFrom 33 = .ok (.getfield 18, 3) := by decide +kernel
theorem dX6_chainFrom_36 : decode cX6_chainFrom 36 = .ok (.ishr, 1) := by decide +kernel
theorem dX6_chainFrom_37 : decode cX6_chainFrom 37 = .ok (.iconst 1, 1) := by decide +kernel
theorem dX6_chainFrom_38 : decode cX6_chainFrom 38 = .ok (.iand, 1) := by decide +kernel
theorem dX6_chainFrom_39 : decode cX6_chainFrom 39 = .ok (.ifCond .ne 30, 3) := by decide +kernel
theorem dX6_chainFrom_42 : decode cX6_chainFrom 42 = .ok (.iload_n 3, 1) := by decide +kernel
theorem dX6_chainFrom_43 : decode cX6_chainFrom 43 = .ok (.iconst 1, 1) := by decide +kernel
theorem dX6_chainFrom_44 : decode cX6_chainFrom 44 = .ok (.aload_n 0, 1) := by decide +kernel
theorem dX6_chainFrom_45 : decode cX6_chainFrom 45 = .ok (.getfield 18, 3) := by decide +kernel
theorem dX6_chainFrom_48 : decode cX6_chainFrom 48 = .ok (.ishl, 1) := by decide +kernel
theorem dX6_chainFrom_49 : decode cX6_chainFrom 49 = .ok (.ior, 1) := by decide +kernel
theorem dX6_chainFrom_50 : decode cX6_chainFrom 50 = .ok (.istore_n 3, 1) := by decide +kernel
theorem dX6_chainFrom_51 : decode cX6_chainFrom 51 = .ok (.aload_n 0, 1) := by decide +kernel
theorem dX6_chainFrom_52 : decode cX6_chainFrom 52 = .ok (.aload_n 1, 1) := by decide +kernel
theorem dX6_chainFrom_53 : decode cX6_chainFrom 53 = .ok (.aload_n 0, 1) := by decide +kernel
theorem dX6_chainFrom_54 : decode cX6_chainFrom 54 = .ok (.getfield 18, 3) := by decide +kernel
theorem dX6_chainFrom_57 : decode cX6_chainFrom 57 = .ok (.invokestatic 110, 3) := by decide +kernel
theorem dX6_chainFrom_60 : decode cX6_chainFrom 60 = .ok (.putfield 18, 3) := by decide +kernel
theorem dX6_chainFrom_63 : decode cX6_chainFrom 63 = .ok (.iinc 4 1, 3) := by decide +kernel
theorem dX6_chainFrom_66 : decode cX6_chainFrom 66 = .ok (.goto (-50), 3) := by decide +kernel
theorem dX6_chainFrom_69 : decode cX6_chainFrom 69 = .ok (.iload_n 3, 1) := by decide +kernel
theorem dX6_chainFrom_70 : decode cX6_chainFrom 70 = .ok (.ireturn, 1) := by decide +kernel
set_option maxRecDepth 100000 in
set_option maxHeartbeats 4000000 in
theorem wfX6_chainFrom_16 {E : KE} {p : Program} {l : Launch} {e : Env} {s : State} {m : MethodId} {args : Array Value} {below : List Frame} {meth : Method} {c : Code} {q : (Int32 × MM)} (C : mx_C E p m c cX6_chainFrom 5 s args RX6 meth (some .int)) (i2 : Int32) (hT : xOK E)   : ∀ (n : Nat) (i3 : Int32) (i4 : Int32) (M : MM) (H : Heap) (locs : List Loc) (ls : Array Slot), fX6_chainFrom_16 i2 n i3 i4 M = some q → mx_H E s M H locs → lv_has ls 5 [(0, .ref (E.2.1.2.1 143)), (1, .ref (E.2.1.2.1 29)), (3, .int i3), (4, .int i4)] → W p l e (mx_rm 1) s m args below meth c H locs 0 0 (mx_Z E below args s (some (.int q.1)) q.2) (F0 m 16 ls []) := by
  have hx := C.1.1
  have hb := C.1.2.1
  have hown := C.1.2.2.2.1
  have hts := C.1.2.2.2.2
  intro n
  induction n with
  | zero =>
    intro i3 i4 M H locs ls hf hM hl
    rw [fX6_chainFrom_16] at hf
    cases hf
  | succ n ih =>
    intro i3 i4 M H locs ls hf hM hl
    rw [fX6_chainFrom_16] at hf
    refine lv_iload hx hb dX6_chainFrom_16 (lv_at hl 3 rfl) ?_
    refine lv_bipush (v := (7 : Int32)) hx hb dX6_chainFrom_18 (by decide) ?_
    refine lv_icmp_ge (tgt := 69) hx hb dX6_chainFrom_20 (by decide) (fun hc20 => ?_) (fun hc20 => ?_)
    · replace hf := mx_ift hc20 hf
      refine lv_iload_n hx hb dX6_chainFrom_69 rfl (lv_at hl 2 rfl) ?_
      exact mx_iret C hM hf dX6_chainFrom_70
    · replace hf := mx_iff hc20 hf
      refine lv_aload_n hx hb dX6_chainFrom_23 rfl (lv_at hl 0 rfl) ?_
      refine gX6_18 C hM (xt_143 hT) (f := (0, 0)) rfl (v := .int (M.1 143 3)) rfl dX6_chainFrom_24 ?_
      refine lv_iconst (v := (-1 : Int32)) hx hb dX6_chainFrom_27 (by decide) ?_
      refine lv_icmp_eq (tgt := 69) hx hb dX6_chainFrom_28 (by decide) (fun hc28 => ?_) (fun hc28 => ?_)
      · replace hf := mx_ift hc28 hf
        refine lv_iload_n hx hb dX6_chainFrom_69 rfl (lv_at hl 2 rfl) ?_
        exact mx_iret C hM hf dX6_chainFrom_70
      · replace hf := mx_iff hc28 hf
        refine lv_iload_n hx hb dX6_chainFrom_31 rfl (lv_at hl 2 rfl) ?_
        refine lv_aload_n hx hb dX6_chainFrom_32 rfl (lv_at hl 0 rfl) ?_
        refine gX6_18 C hM (xt_143 hT) (f := (0, 0)) rfl (v := .int (M.1 143 3)) rfl dX6_chainFrom_33 ?_
        refine lv_ishr hx hb dX6_chainFrom_36 ?_
        refine lv_iconst (v := (1 : Int32)) hx hb dX6_chainFrom_37 (by decide) ?_
        refine lv_iand hx hb dX6_chainFrom_38 ?_
        refine lv_if_ne (tgt := 69) hx hb dX6_chainFrom_39 (by decide) (fun hc39 => ?_) (fun hc39 => ?_)
        · replace hf := mx_iff hc39 hf
          refine lv_iload_n hx hb dX6_chainFrom_69 rfl (lv_at hl 2 rfl) ?_
          exact mx_iret C hM hf dX6_chainFrom_70
        · replace hf := mx_ift hc39 hf
          refine lv_iload_n hx hb dX6_chainFrom_42 rfl (lv_at hl 2 rfl) ?_
          refine lv_iconst (v := (1 : Int32)) hx hb dX6_chainFrom_43 (by decide) ?_
          refine lv_aload_n hx hb dX6_chainFrom_44 rfl (lv_at hl 0 rfl) ?_
          refine gX6_18 C hM (xt_143 hT) (f := (0, 0)) rfl (v := .int (M.1 143 3)) rfl dX6_chainFrom_45 ?_
          refine lv_ishl hx hb dX6_chainFrom_48 ?_
          refine lv_ior hx hb dX6_chainFrom_49 ?_
          refine lv_istore_n (lv' := [(3, .int (i3 ||| ((1 : Int32) <<< ((M.1 143 3) &&& 31)))), (0, .ref (E.2.1.2.1 143)), (1, .ref (E.2.1.2.1 29)), (4, .int i4)]) hx hb dX6_chainFrom_50 rfl hl (by decide) rfl (fun ls hl => ?_)
          refine lv_aload_n hx hb dX6_chainFrom_51 rfl (lv_at hl 1 rfl) ?_
          refine lv_aload_n hx hb dX6_chainFrom_52 rfl (lv_at hl 2 rfl) ?_
          refine lv_aload_n hx hb dX6_chainFrom_53 rfl (lv_at hl 1 rfl) ?_
          refine gX6_18 C hM (xt_143 hT) (f := (0, 0)) rfl (v := .int (M.1 143 3)) rfl dX6_chainFrom_54 ?_
          obtain ⟨q57, hq57, hf⟩ := mx_bd hf
          refine mx_callS C hM hl.1 yo_X6_keeperOfFirst (h' := 0) (by decide) qw_975 qw_976 (As := [.ref (E.2.1.2.1 29), .int (M.1 143 3)]) (rest := [.ref (E.2.1.2.1 143)]) (st1 := [.int q57, .ref (E.2.1.2.1 143)]) (kX6_keeperOfFirst C.2.2.2.1 (M.1 143 3) hT M hq57) rfl rfl rfl (Nat.le_of_ble_eq_true rfl) dX6_chainFrom_57 (fun H locs hM => ?_)
          refine pX6_18 C hM (xt_143 hT) rfl rfl rfl dX6_chainFrom_60 (fun H locs hM => ?_)
          refine lv_iinc (v := (i4 + (1 : Int32))) (lv' := [(4, .int (i4 + (1 : Int32))), (3, .int (i3 ||| ((1 : Int32) <<< ((M.1 143 3) &&& 31)))), (0, .ref (E.2.1.2.1 143)), (1, .ref (E.2.1.2.1 29))]) hx hb dX6_chainFrom_63 hl (k := 3) rfl rfl (by decide) rfl (fun ls hl => ?_)
          refine lv_goto (tgt := 16) hx hb dX6_chainFrom_66 (by decide) ?_
          exact ih (i3 ||| ((1 : Int32) <<< ((M.1 143 3) &&& 31))) (i4 + (1 : Int32)) (mx_si M 143 3 q57) _ _ _ hf hM (lv_sub hl [2, 3, 1, 0] rfl)
set_option maxRecDepth 100000 in
set_option maxHeartbeats 4000000 in
theorem kX6_chainFrom {E : KE} {l : Launch} (hE : mx_ok E) (i2 : Int32) (hT : xOK E) (M : MM) {q : (Int32 × MM)} (hf : fX6_chainFrom i2 M = some q) : mx_Met E l yX6_chainFrom cX6_chainFrom 5 (some .int) 1 [.ref (E.2.1.2.1 143), .ref (E.2.1.2.1 29), .int i2] M (some (.int q.1)) q.2 := by
  refine mx_enter hE (by decide) (Nat.le_of_ble_eq_true rfl) ?_
  intro p e s m below meth c C hM hn ls hl
  have hx := C.1.1
  have hb := C.1.2.1
  have hown := C.1.2.2.2.1
  have hts := C.1.2.2.2.2
  have hl : lv_has ls 5 [(0, .ref (E.2.1.2.1 143)), (1, .ref (E.2.1.2.1 29)), (2, .int i2)] := hl
  rw [fX6_chainFrom] at hf
  refine lv_iconst (v := (1 : Int32)) hx hb dX6_chainFrom_0 (by decide) ?_
  refine lv_iload_n hx hb dX6_chainFrom_1 rfl (lv_at hl 2 rfl) ?_
  refine lv_ishl hx hb dX6_chainFrom_2 ?_
  refine lv_istore_n (lv' := [(3, .int ((1 : Int32) <<< (i2 &&& 31))), (0, .ref (E.2.1.2.1 143)), (1, .ref (E.2.1.2.1 29)), (2, .int i2)]) hx hb dX6_chainFrom_3 rfl hl (by decide) rfl (fun ls hl => ?_)
  refine lv_aload_n hx hb dX6_chainFrom_4 rfl (lv_at hl 1 rfl) ?_
  refine lv_aload_n hx hb dX6_chainFrom_5 rfl (lv_at hl 2 rfl) ?_
  refine lv_iload_n hx hb dX6_chainFrom_6 rfl (lv_at hl 3 rfl) ?_
  obtain ⟨q7, hq7, hf⟩ := mx_bd hf
  refine mx_callS C hM hl.1 yo_X6_keeperOfFirst (h' := 0) (by decide) qw_975 qw_976 (As := [.ref (E.2.1.2.1 29), .int i2]) (rest := [.ref (E.2.1.2.1 143)]) (st1 := [.int q7, .ref (E.2.1.2.1 143)]) (kX6_keeperOfFirst C.2.2.2.1 i2 hT M hq7) rfl rfl rfl (Nat.le_of_ble_eq_true rfl) dX6_chainFrom_7 (fun H locs hM => ?_)
  refine pX6_18 C hM (xt_143 hT) rfl rfl rfl dX6_chainFrom_10 (fun H locs hM => ?_)
  refine lv_iconst (v := (0 : Int32)) hx hb dX6_chainFrom_13 (by decide) ?_
  refine lv_istore (lv' := [(4, .int (0 : Int32)), (3, .int ((1 : Int32) <<< (i2 &&& 31))), (0, .ref (E.2.1.2.1 143)), (1, .ref (E.2.1.2.1 29)), (2, .int i2)]) hx hb dX6_chainFrom_14 hl (by decide) rfl (fun ls hl => ?_)
  exact wfX6_chainFrom_16 C i2 hT mx_fu ((1 : Int32) <<< (i2 &&& 31)) (0 : Int32) (mx_si M 143 3 q7) _ _ _ hf hM (lv_sub hl [2, 3, 1, 0] rfl)
theorem dX7_isBlank_0 : decode cX7_isBlank 0 = .ok (.iload_n 0, 1) := by decide +kernel
theorem dX7_isBlank_1 : decode cX7_isBlank 1 = .ok (.bipush 32, 2) := by decide +kernel
theorem dX7_isBlank_3 : decode cX7_isBlank 3 = .ok (.if_icmp .eq 9, 3) := by decide +kernel
theorem dX7_isBlank_6 : decode cX7_isBlank 6 = .ok (.iload_n 0, 1) := by decide +kernel
theorem dX7_isBlank_7 : decode cX7_isBlank 7 = .ok (.bipush 10, 2) := by decide +kernel
theorem dX7_isBlank_9 : decode cX7_isBlank 9 = .ok (.if_icmp .ne 7, 3) := by decide +kernel
theorem dX7_isBlank_12 : decode cX7_isBlank 12 = .ok (.iconst 1, 1) := by decide +kernel
theorem dX7_isBlank_13 : decode cX7_isBlank 13 = .ok (.goto 4, 3) := by decide +kernel
theorem dX7_isBlank_16 : decode cX7_isBlank 16 = .ok (.iconst 0, 1) := by decide +kernel
theorem dX7_isBlank_17 : decode cX7_isBlank 17 = .ok (.ireturn, 1) := by decide +kernel
set_option maxRecDepth 100000 in
set_option maxHeartbeats 4000000 in
theorem kX7_isBlank {E : KE} {l : Launch} (hE : mx_ok E) (i0 : Int32) (hT : xOK E) (M : MM) {q : Bool} (hf : fX7_isBlank i0 M = some q) : mx_Met E l yX7_isBlank cX7_isBlank 1 (some .boolean) 0 [.int i0] M (some (.int (mx_b q))) M := by
  refine mx_enter hE (by decide) (Nat.le_of_ble_eq_true rfl) ?_
  intro p e s m below meth c C hM hn ls hl
  have hx := C.1.1
  have hb := C.1.2.1
  have hown := C.1.2.2.2.1
  have hts := C.1.2.2.2.2
  have hl : lv_has ls 1 [(0, .int i0)] := hl
  rw [fX7_isBlank] at hf
  refine lv_iload_n hx hb dX7_isBlank_0 rfl (lv_at hl 0 rfl) ?_
  refine lv_bipush (v := (32 : Int32)) hx hb dX7_isBlank_1 (by decide) ?_
  refine lv_icmp_eq (tgt := 12) hx hb dX7_isBlank_3 (by decide) (fun hc3 => ?_) (fun hc3 => ?_)
  · replace hf := mx_ift hc3 hf
    refine lv_iconst (v := (1 : Int32)) hx hb dX7_isBlank_12 (by decide) ?_
    refine lv_goto (tgt := 17) hx hb dX7_isBlank_13 (by decide) ?_
    exact mx_zretR C hM (b := true) rfl hf dX7_isBlank_17
  · replace hf := mx_iff hc3 hf
    refine lv_iload_n hx hb dX7_isBlank_6 rfl (lv_at hl 0 rfl) ?_
    refine lv_bipush (v := (10 : Int32)) hx hb dX7_isBlank_7 (by decide) ?_
    refine lv_icmp_ne (tgt := 16) hx hb dX7_isBlank_9 (by decide) (fun hc9 => ?_) (fun hc9 => ?_)
    · replace hf := mx_iff hc9 hf
      refine lv_iconst (v := (0 : Int32)) hx hb dX7_isBlank_16 (by decide) ?_
      exact mx_zretR C hM (b := false) rfl hf dX7_isBlank_17
    · replace hf := mx_ift hc9 hf
      refine lv_iconst (v := (1 : Int32)) hx hb dX7_isBlank_12 (by decide) ?_
      refine lv_goto (tgt := 17) hx hb dX7_isBlank_13 (by decide) ?_
      exact mx_zretR C hM (b := true) rfl hf dX7_isBlank_17
theorem dX7_isLetter_0 : decode cX7_isLetter 0 = .ok (.iload_n 0, 1) := by decide +kernel
theorem dX7_isLetter_1 : decode cX7_isLetter 1 = .ok (.bipush 97, 2) := by decide +kernel
theorem dX7_isLetter_3 : decode cX7_isLetter 3 = .ok (.if_icmp .lt 13, 3) := by decide +kernel
theorem dX7_isLetter_6 : decode cX7_isLetter 6 = .ok (.iload_n 0, 1) := by decide +kernel
theorem dX7_isLetter_7 : decode cX7_isLetter 7 = .ok (.bipush 122, 2) := by decide +kernel
theorem dX7_isLetter_9 : decode cX7_isLetter 9 = .ok (.if_icmp .gt 7, 3) := by decide +kernel
theorem dX7_isLetter_12 : decode cX7_isLetter 12 = .ok (.iconst 1, 1) := by decide +kernel
theorem dX7_isLetter_13 : decode cX7_isLetter 13 = .ok (.goto 4, 3) := by decide +kernel
theorem dX7_isLetter_16 : decode cX7_isLetter 16 = .ok (.iconst 0, 1) := by decide +kernel
theorem dX7_isLetter_17 : decode cX7_isLetter 17 = .ok (.ireturn, 1) := by decide +kernel
set_option maxRecDepth 100000 in
set_option maxHeartbeats 4000000 in
theorem kX7_isLetter {E : KE} {l : Launch} (hE : mx_ok E) (i0 : Int32) (hT : xOK E) (M : MM) {q : Bool} (hf : fX7_isLetter i0 M = some q) : mx_Met E l yX7_isLetter cX7_isLetter 1 (some .boolean) 0 [.int i0] M (some (.int (mx_b q))) M := by
  refine mx_enter hE (by decide) (Nat.le_of_ble_eq_true rfl) ?_
  intro p e s m below meth c C hM hn ls hl
  have hx := C.1.1
  have hb := C.1.2.1
  have hown := C.1.2.2.2.1
  have hts := C.1.2.2.2.2
  have hl : lv_has ls 1 [(0, .int i0)] := hl
  rw [fX7_isLetter] at hf
  refine lv_iload_n hx hb dX7_isLetter_0 rfl (lv_at hl 0 rfl) ?_
  refine lv_bipush (v := (97 : Int32)) hx hb dX7_isLetter_1 (by decide) ?_
  refine lv_icmp_lt (tgt := 16) hx hb dX7_isLetter_3 (by decide) (fun hc3 => ?_) (fun hc3 => ?_)
  · replace hf := mx_ift hc3 hf
    refine lv_iconst (v := (0 : Int32)) hx hb dX7_isLetter_16 (by decide) ?_
    exact mx_zretR C hM (b := false) rfl hf dX7_isLetter_17
  · replace hf := mx_iff hc3 hf
    refine lv_iload_n hx hb dX7_isLetter_6 rfl (lv_at hl 0 rfl) ?_
    refine lv_bipush (v := (122 : Int32)) hx hb dX7_isLetter_7 (by decide) ?_
    refine lv_icmp_gt (tgt := 16) hx hb dX7_isLetter_9 (by decide) (fun hc9 => ?_) (fun hc9 => ?_)
    · replace hf := mx_ift hc9 hf
      refine lv_iconst (v := (0 : Int32)) hx hb dX7_isLetter_16 (by decide) ?_
      exact mx_zretR C hM (b := false) rfl hf dX7_isLetter_17
    · replace hf := mx_iff hc9 hf
      refine lv_iconst (v := (1 : Int32)) hx hb dX7_isLetter_12 (by decide) ?_
      refine lv_goto (tgt := 17) hx hb dX7_isLetter_13 (by decide) ?_
      exact mx_zretR C hM (b := true) rfl hf dX7_isLetter_17
theorem dX7_isDigit_0 : decode cX7_isDigit 0 = .ok (.iload_n 0, 1) := by decide +kernel
theorem dX7_isDigit_1 : decode cX7_isDigit 1 = .ok (.bipush 48, 2) := by decide +kernel
theorem dX7_isDigit_3 : decode cX7_isDigit 3 = .ok (.if_icmp .lt 13, 3) := by decide +kernel
theorem dX7_isDigit_6 : decode cX7_isDigit 6 = .ok (.iload_n 0, 1) := by decide +kernel
theorem dX7_isDigit_7 : decode cX7_isDigit 7 = .ok (.bipush 57, 2) := by decide +kernel
theorem dX7_isDigit_9 : decode cX7_isDigit 9 = .ok (.if_icmp .gt 7, 3) := by decide +kernel
theorem dX7_isDigit_12 : decode cX7_isDigit 12 = .ok (.iconst 1, 1) := by decide +kernel
theorem dX7_isDigit_13 : decode cX7_isDigit 13 = .ok (.goto 4, 3) := by decide +kernel
theorem dX7_isDigit_16 : decode cX7_isDigit 16 = .ok (.iconst 0, 1) := by decide +kernel
theorem dX7_isDigit_17 : decode cX7_isDigit 17 = .ok (.ireturn, 1) := by decide +kernel
set_option maxRecDepth 100000 in
set_option maxHeartbeats 4000000 in
theorem kX7_isDigit {E : KE} {l : Launch} (hE : mx_ok E) (i0 : Int32) (hT : xOK E) (M : MM) {q : Bool} (hf : fX7_isDigit i0 M = some q) : mx_Met E l yX7_isDigit cX7_isDigit 1 (some .boolean) 0 [.int i0] M (some (.int (mx_b q))) M := by
  refine mx_enter hE (by decide) (Nat.le_of_ble_eq_true rfl) ?_
  intro p e s m below meth c C hM hn ls hl
  have hx := C.1.1
  have hb := C.1.2.1
  have hown := C.1.2.2.2.1
  have hts := C.1.2.2.2.2
  have hl : lv_has ls 1 [(0, .int i0)] := hl
  rw [fX7_isDigit] at hf
  refine lv_iload_n hx hb dX7_isDigit_0 rfl (lv_at hl 0 rfl) ?_
  refine lv_bipush (v := (48 : Int32)) hx hb dX7_isDigit_1 (by decide) ?_
  refine lv_icmp_lt (tgt := 16) hx hb dX7_isDigit_3 (by decide) (fun hc3 => ?_) (fun hc3 => ?_)
  · replace hf := mx_ift hc3 hf
    refine lv_iconst (v := (0 : Int32)) hx hb dX7_isDigit_16 (by decide) ?_
    exact mx_zretR C hM (b := false) rfl hf dX7_isDigit_17
  · replace hf := mx_iff hc3 hf
    refine lv_iload_n hx hb dX7_isDigit_6 rfl (lv_at hl 0 rfl) ?_
    refine lv_bipush (v := (57 : Int32)) hx hb dX7_isDigit_7 (by decide) ?_
    refine lv_icmp_gt (tgt := 16) hx hb dX7_isDigit_9 (by decide) (fun hc9 => ?_) (fun hc9 => ?_)
    · replace hf := mx_ift hc9 hf
      refine lv_iconst (v := (0 : Int32)) hx hb dX7_isDigit_16 (by decide) ?_
      exact mx_zretR C hM (b := false) rfl hf dX7_isDigit_17
    · replace hf := mx_iff hc9 hf
      refine lv_iconst (v := (1 : Int32)) hx hb dX7_isDigit_12 (by decide) ?_
      refine lv_goto (tgt := 17) hx hb dX7_isDigit_13 (by decide) ?_
      exact mx_zretR C hM (b := true) rfl hf dX7_isDigit_17
theorem dX11_coded_0 : decode cX11_coded 0 = .ok (.iconst 0, 1) := by decide +kernel
theorem dX11_coded_1 : decode cX11_coded 1 = .ok (.istore_n 2, 1) := by decide +kernel
theorem dX11_coded_2 : decode cX11_coded 2 = .ok (.iload_n 2, 1) := by decide +kernel
theorem dX11_coded_3 : decode cX11_coded 3 = .ok (.getstatic 111, 3) := by decide +kernel
theorem dX11_coded_6 : decode cX11_coded 6 = .ok (.arraylength, 1) := by decide +kernel
theorem dX11_coded_7 : decode cX11_coded 7 = .ok (.if_icmp .ge 28, 3) := by decide +kernel
theorem dX11_coded_10 : decode cX11_coded 10 = .ok (.getstatic 111, 3) := by decide +kernel
theorem dX11_coded_13 : decode cX11_coded 13 = .ok (.iload_n 2, 1) := by decide +kernel
theorem dX11_coded_14 : decode cX11_coded 14 = .ok (.aaload, 1) := by decide +kernel
theorem dX11_coded_15 : decode cX11_coded 15 = .ok (.getfield 107, 3) := by decide +kernel
theorem dX11_coded_18 : decode cX11_coded 18 = .ok (.lload_n 0, 1) := by decide +kernel
theorem dX11_coded_19 : decode cX11_coded 19 = .ok (.lcmp, 1) := by decide +kernel
theorem dX11_coded_20 : decode cX11_coded 20 = .ok (.ifCond .ne 9, 3) := by decide +kernel
theorem dX11_coded_23 : decode cX11_coded 23 = .ok (.getstatic 111, 3) := by decide +kernel
theorem dX11_coded_26 : decode cX11_coded 26 = .ok (.iload_n 2, 1) := by decide +kernel
theorem dX11_coded_27 : decode cX11_coded 27 = .ok (.aaload, 1) := by decide +kernel
theorem dX11_coded_28 : decode cX11_coded 28 = .ok (.areturn, 1) := by decide +kernel
theorem dX11_coded_29 : decode cX11_coded 29 = .ok (.iinc 2 1, 3) := by decide +kernel
theorem dX11_coded_32 : decode cX11_coded 32 = .ok (.goto (-30), 3) := by decide +kernel
theorem dX11_coded_35 : decode cX11_coded 35 = .ok (.getstatic 3, 3) := by decide +kernel
theorem dX11_coded_38 : decode cX11_coded 38 = .ok (.areturn, 1) := by decide +kernel
set_option maxRecDepth 100000 in
set_option maxHeartbeats 4000000 in
theorem wfX11_coded_2 {E : KE} {p : Program} {l : Launch} {e : Env} {s : State} {m : MethodId} {args : Array Value} {below : List Frame} {meth : Method} {c : Code} {q : Nat} (C : mx_C E p m c cX11_coded 3 s args RX11 meth (some (.object "RingKeepers$Word"))) (l0 : Int64) (M : MM) (hT : xOK E)   : ∀ (n : Nat) (i2 : Int32) (H : Heap) (locs : List Loc) (ls : Array Slot), fX11_coded_2 l0 M n i2 = some q → mx_H E s M H locs → lv_has ls 3 [(0, .long l0), (2, .int i2)] → W p l e (mx_rm 0) s m args below meth c H locs 0 0 (mx_Z E below args s (some (.ref (E.2.1.2.2.1 q))) M) (F0 m 2 ls []) := by
  have hx := C.1.1
  have hb := C.1.2.1
  have hown := C.1.2.2.2.1
  have hts := C.1.2.2.2.2
  intro n
  induction n with
  | zero =>
    intro i2 H locs ls hf hM hl
    rw [fX11_coded_2] at hf
    cases hf
  | succ n ih =>
    intro i2 H locs ls hf hM hl
    rw [fX11_coded_2] at hf
    refine lv_iload_n hx hb dX11_coded_2 rfl (lv_at hl 1 rfl) ?_
    refine xw_all C hT hM (hts _ qw_526) dX11_coded_3 ?_
    refine xw_alln C hT hM dX11_coded_6 ?_
    refine lv_icmp_ge (tgt := 35) hx hb dX11_coded_7 (by decide) (fun hc7 => ?_) (fun hc7 => ?_)
    · replace hf := mx_ift hc7 hf
      refine xw_get C hT (w := 0) (by decide) hM (hts _ qw_528) dX11_coded_35 ?_
      exact mx_wretR C hM hf dX11_coded_38
    · replace hf := mx_iff hc7 hf
      refine xw_all C hT hM (hts _ qw_526) dX11_coded_10 ?_
      refine lv_iload_n hx hb dX11_coded_13 rfl (lv_at hl 1 rfl) ?_
      obtain ⟨hg14, hf⟩ := mx_gd hf
      refine xw_alla C hT hM (mx_in_vp hg14) dX11_coded_14 ?_
      obtain ⟨hw15, hf⟩ := mx_gd hf
      refine xw_code C hT hw15 hM (hts _ qw_2031) dX11_coded_15 ?_
      refine lv_lload_n hx hb dX11_coded_18 rfl (lv_at hl 0 rfl) ?_
      refine W.lcmp hx hb dX11_coded_19 ?_
      refine lv_if_ne (tgt := 29) hx hb dX11_coded_20 (by decide) (fun hc20 => ?_) (fun hc20 => ?_)
      · replace hf := mx_iff hc20 hf
        refine lv_iinc (v := (i2 + (1 : Int32))) (lv' := [(2, .int (i2 + (1 : Int32))), (0, .long l0)]) hx hb dX11_coded_29 hl (k := 1) rfl rfl (by decide) rfl (fun ls hl => ?_)
        refine lv_goto (tgt := 2) hx hb dX11_coded_32 (by decide) ?_
        exact ih (i2 + (1 : Int32)) _ _ _ hf hM (lv_sub hl [1, 0] rfl)
      · replace hf := mx_ift hc20 hf
        refine xw_all C hT hM (hts _ qw_526) dX11_coded_23 ?_
        refine lv_iload_n hx hb dX11_coded_26 rfl (lv_at hl 1 rfl) ?_
        obtain ⟨hg27, hf⟩ := mx_gd hf
        refine xw_alla C hT hM (mx_in_vp hg27) dX11_coded_27 ?_
        exact mx_wretR C hM hf dX11_coded_28
set_option maxRecDepth 100000 in
set_option maxHeartbeats 4000000 in
theorem kX11_coded {E : KE} {l : Launch} (hE : mx_ok E) (l0 : Int64) (hT : xOK E) (M : MM) {q : Nat} (hf : fX11_coded l0 M = some q) : mx_Met E l yX11_coded cX11_coded 3 (some (.object "RingKeepers$Word")) 0 [.long l0] M (some (.ref (E.2.1.2.2.1 q))) M := by
  refine mx_enter hE (by decide) (Nat.le_of_ble_eq_true rfl) ?_
  intro p e s m below meth c C hM hn ls hl
  have hx := C.1.1
  have hb := C.1.2.1
  have hown := C.1.2.2.2.1
  have hts := C.1.2.2.2.2
  have hl : lv_has ls 3 [(0, .long l0)] := hl
  rw [fX11_coded] at hf
  refine lv_iconst (v := (0 : Int32)) hx hb dX11_coded_0 (by decide) ?_
  refine lv_istore_n (lv' := [(2, .int (0 : Int32)), (0, .long l0)]) hx hb dX11_coded_1 rfl hl (by decide) rfl (fun ls hl => ?_)
  exact wfX11_coded_2 C l0 M hT mx_fu (0 : Int32) _ _ _ hf hM (lv_sub hl [1, 0] rfl)
theorem dX7_scanRun_0 : decode cX7_scanRun 0 = .ok (.iconst 0, 1) := by decide +kernel
theorem dX7_scanRun_1 : decode cX7_scanRun 1 = .ok (.istore_n 2, 1) := by decide +kernel
theorem dX7_scanRun_2 : decode cX7_scanRun 2 = .ok (.iconst 0, 1) := by decide +kernel
theorem dX7_scanRun_3 : decode cX7_scanRun 3 = .ok (.istore_n 3, 1) := by decide +kernel
theorem dX7_scanRun_4 : decode cX7_scanRun 4 = .ok (.lconst 0, 1) := by decide +kernel
theorem dX7_scanRun_5 : decode cX7_scanRun 5 = .ok (.lstore 4, 2) := by decide +kernel
theorem dX7_scanRun_7 : decode cX7_scanRun 7 = .ok (.iconst 0, 1) := by decide +kernel
theorem dX7_scanRun_8 : decode cX7_scanRun 8 = .ok (.istore 6, 2) := by decide +kernel
theorem dX7_scanRun_10 : decode cX7_scanRun 10 = .ok (.iload_n 1, 1) := by decide +kernel
theorem dX7_scanRun_11 : decode cX7_scanRun 11 = .ok (.istore 7, 2) := by decide +kernel
theorem dX7_scanRun_13 : decode cX7_scanRun 13 = .ok (.iload 7, 2) := by decide +kernel
theorem dX7_scanRun_15 : decode cX7_scanRun 15 = .ok (.aload_n 0, 1) := by decide +kernel
theorem dX7_scanRun_16 : decode cX7_scanRun 16 = .ok (.getfield 33, 3) := by decide +kernel
theorem dX7_scanRun_19 : decode cX7_scanRun 19 = .ok (.getfield 61, 3) := by decide +kernel
theorem dX7_scanRun_22 : decode cX7_scanRun 22 = .ok (.if_icmp .ge 75, 3) := by decide +kernel
theorem dX7_scanRun_25 : decode cX7_scanRun 25 = .ok (.aload_n 0, 1) := by decide +kernel
theorem dX7_scanRun_26 : decode cX7_scanRun 26 = .ok (.getfield 33, 3) := by decide +kernel
theorem dX7_scanRun_29 : decode cX7_scanRun 29 = .ok (.iload 7, 2) := by decide +kernel
theorem dX7_scanRun_31 : decode cX7_scanRun 31 = .ok (.invokevirtual 64, 3) := by decide +kernel
theorem dX7_scanRun_34 : decode cX7_scanRun 34 = .ok (.istore 8, 2) := by decide +kernel
theorem dX7_scanRun_36 : decode cX7_scanRun 36 = .ok (.iload 8, 2) := by decide +kernel
theorem dX7_scanRun_38 : decode cX7_scanRun 38 = .ok (.invokestatic 70, 3) := by decide +kernel
theorem dX7_scanRun_41 : decode cX7_scanRun 41 = .ok (.ifCond .eq 26, 3) := by decide +kernel
theorem dX7_scanRun_44 : decode cX7_scanRun 44 = .ok (.iinc 2 1, 3) := by decide +kernel
theorem dX7_scanRun_47 : decode cX7_scanRun 47 = .ok (.lload 4, 2) := by decide +kernel
theorem dX7_scanRun_49 : decode cX7_scanRun 49 = .ok (.ldc2_w 79, 3) := by decide +kernel
theorem dX7_scanRun_52 : decode cX7_scanRun 52 = .ok (.lmul, 1) := by decide +kernel
theorem dX7_scanRun_53 : decode cX7_scanRun 53 = .ok (.iload 8, 2) := by decide +kernel
theorem dX7_scanRun_55 : decode cX7_scanRun 55 = .ok (.bipush 97, 2) := by decide +kernel
theorem dX7_scanRun_57 : decode cX7_scanRun 57 = .ok (.isub, 1) := by decide +kernel
theorem dX7_scanRun_58 : decode cX7_scanRun 58 = .ok (.iconst 1, 1) := by decide +kernel
theorem dX7_scanRun_59 : decode cX7_scanRun 59 = .ok (.iadd, 1) := by decide +kernel
theorem dX7_scanRun_60 : decode cX7_scanRun 60 = .ok (.i2l, 1) := by decide +kernel
theorem dX7_scanRun_61 : decode cX7_scanRun 61 = .ok (.ladd, 1) := by decide +kernel
theorem dX7_scanRun_62 : decode cX7_scanRun 62 = .ok (.lstore 4, 2) := by decide +kernel
theorem dX7_scanRun_64 : decode cX7_scanRun 64 = .ok (.goto 27, 3) := by decide +kernel
theorem dX7_scanRun_67 : decode cX7_scanRun 67 = .ok (.iload 8, 2) := by decide +kernel
theorem dX7_scanRun_69 : decode cX7_scanRun 69 = .ok (.invokestatic 73, 3) := by decide +kernel
theorem dX7_scanRun_72 : decode cX7_scanRun 72 = .ok (.ifCond .eq 25, 3) := by decide +kernel
theorem dX7_scanRun_75 : decode cX7_scanRun 75 = .ok (.iinc 3 1, 3) := by decide +kernel
theorem dX7_scanRun_78 : decode cX7_scanRun 78 = .ok (.iload 6, 2) := by decide +kernel
theorem dX7_scanRun_80 : decode cX7_scanRun 80 = .ok (.bipush 10, 2) := by decide +kernel
theorem dX7_scanRun_82 : decode cX7_scanRun 82 = .ok (.imul, 1) := by decide +kernel
theorem dX7_scanRun_83 : decode cX7_scanRun 83 = .ok (.iload 8, 2) := by decide +kernel
theorem dX7_scanRun_85 : decode cX7_scanRun 85 = .ok (.bipush 48, 2) := by decide +kernel
theorem dX7_scanRun_87 : decode cX7_scanRun 87 = .ok (.isub, 1) := by decide +kernel
theorem dX7_scanRun_88 : decode cX7_scanRun 88 = .ok (.iadd, 1) := by decide +kernel
theorem dX7_scanRun_89 : decode cX7_scanRun 89 = .ok (.istore 6, 2) := by decide +kernel
theorem dX7_scanRun_91 : decode cX7_scanRun 91 = .ok (.iinc 7 1, 3) := by decide +kernel
theorem dX7_scanRun_94 : decode cX7_scanRun 94 = .ok (.goto (-81), 3) := by decide +kernel
theorem dX7_scanRun_97 : decode cX7_scanRun 97 = .ok (.aload_n 0, 1) := by decide +kernel
theorem dX7_scanRun_98 : decode cX7_scanRun 98 = .ok (.getfield 23, 3) := by decide +kernel
theorem dX7_scanRun_101 : decode cX7_scanRun 101 = .ok (.aload_n 0, 1) := by decide +kernel
theorem dX7_scanRun_102 : decode cX7_scanRun 102 = .ok (.getfield 48, 3) := by decide +kernel
theorem dX7_scanRun_105 : decode cX7_scanRun 105 = .ok (.lload 4, 2) := by decide +kernel
theorem dX7_scanRun_107 : decode cX7_scanRun 107 = .ok (.lastore, 1) := by decide +kernel
theorem dX7_scanRun_108 : decode cX7_scanRun 108 = .ok (.aload_n 0, 1) := by decide +kernel
theorem dX7_scanRun_109 : decode cX7_scanRun 109 = .ok (.getfield 20, 3) := by decide +kernel
theorem dX7_scanRun_112 : decode cX7_scanRun 112 = .ok (.aload_n 0, 1) := by decide +kernel
theorem dX7_scanRun_113 : decode cX7_scanRun 113 = .ok (.getfield 48, 3) := by decide +kernel
theorem dX7_scanRun_116 : decode cX7_scanRun 116 = .ok (.iload 6, 2) := by decide +kernel
theorem dX7_scanRun_118 : decode cX7_scanRun 118 = .ok (.iastore, 1) := by decide +kernel
theorem dX7_scanRun_119 : decode cX7_scanRun 119 = .ok (.iload_n 3, 1) := by decide +kernel
theorem dX7_scanRun_120 : decode cX7_scanRun 120 = .ok (.ifCond .ne 55, 3) := by decide +kernel
theorem dX7_scanRun_123 : decode cX7_scanRun 123 = .ok (.iload_n 2, 1) := by decide +kernel
theorem dX7_scanRun_124 : decode cX7_scanRun 124 = .ok (.bipush 7, 2) := by decide +kernel
theorem dX7_scanRun_126 : decode cX7_scanRun 126 = .ok (.if_icmp .gt 49, 3) := by decide +kernel
theorem dX7_scanRun_129 : decode cX7_scanRun 129 = .ok (.aload_n 0, 1) := by decide +kernel
theorem dX7_scanRun_130 : decode cX7_scanRun 130 = .ok (.getfield 29, 3) := by decide +kernel
theorem dX7_scanRun_133 : decode cX7_scanRun 133 = .ok (.aload_n 0, 1) := by decide +kernel
theorem dX7_scanRun_134 : decode cX7_scanRun 134 = .ok (.getfield 48, 3) := by decide +kernel
theorem dX7_scanRun_137 : decode cX7_scanRun 137 = .ok (.lload 4, 2) := by decide +kernel
theorem dX7_scanRun_139 : decode cX7_scanRun 139 = .ok (.invokestatic 81, 3) := by decide +kernel
theorem dX7_scanRun_142 : decode cX7_scanRun 142 = .ok (.aastore, 1) := by decide +kernel
theorem dX7_scanRun_143 : decode cX7_scanRun 143 = .ok (.aload_n 0, 1) := by decide +kernel
theorem dX7_scanRun_144 : decode cX7_scanRun 144 = .ok (.getfield 13, 3) := by decide +kernel
theorem dX7_scanRun_147 : decode cX7_scanRun 147 = .ok (.aload_n 0, 1) := by decide +kernel
theorem dX7_scanRun_148 : decode cX7_scanRun 148 = .ok (.getfield 48, 3) := by decide +kernel
theorem dX7_scanRun_151 : decode cX7_scanRun 151 = .ok (.aload_n 0, 1) := by decide +kernel
theorem dX7_scanRun_152 : decode cX7_scanRun 152 = .ok (.getfield 29, 3) := by decide +kernel
theorem dX7_scanRun_155 : decode cX7_scanRun 155 = .ok (.aload_n 0, 1) := by decide +kernel
theorem dX7_scanRun_156 : decode cX7_scanRun 156 = .ok (.getfield 48, 3) := by decide +kernel
theorem dX7_scanRun_159 : decode cX7_scanRun 159 = .ok (.aaload, 1) := by decide +kernel
theorem dX7_scanRun_160 : decode cX7_scanRun 160 = .ok (.getstatic 37, 3) := by decide +kernel
theorem dX7_scanRun_163 : decode cX7_scanRun 163 = .ok (.if_acmp .ne 7, 3) := by decide +kernel
theorem dX7_scanRun_166 : decode cX7_scanRun 166 = .ok (.iconst 2, 1) := by decide +kernel
theorem dX7_scanRun_167 : decode cX7_scanRun 167 = .ok (.goto 4, 3) := by decide +kernel
theorem dX7_scanRun_170 : decode cX7_scanRun 170 = .ok (.iconst 3, 1) := by decide +kernel
theorem dX7_scanRun_171 : decode cX7_scanRun 171 = .ok (.iastore, 1) := by decide +kernel
theorem dX7_scanRun_172 : decode cX7_scanRun 172 = .ok (.goto 26, 3) := by decide +kernel
theorem dX7_scanRun_175 : decode cX7_scanRun 175 = .ok (.aload_n 0, 1) := by decide +kernel
theorem dX7_scanRun_176 : decode cX7_scanRun 176 = .ok (.getfield 13, 3) := by decide +kernel
theorem dX7_scanRun_179 : decode cX7_scanRun 179 = .ok (.aload_n 0, 1) := by decide +kernel
theorem dX7_scanRun_180 : decode cX7_scanRun 180 = .ok (.getfield 48, 3) := by decide +kernel
theorem dX7_scanRun_183 : decode cX7_scanRun 183 = .ok (.iload_n 2, 1) := by decide +kernel
theorem dX7_scanRun_184 : decode cX7_scanRun 184 = .ok (.ifCond .ne 12, 3) := by decide +kernel
theorem dX7_scanRun_187 : decode cX7_scanRun 187 = .ok (.iload_n 3, 1) := by decide +kernel
theorem dX7_scanRun_188 : decode cX7_scanRun 188 = .ok (.iconst 3, 1) := by decide +kernel
theorem dX7_scanRun_189 : decode cX7_scanRun 189 = .ok (.if_icmp .gt 7, 3) := by decide +kernel
theorem dX7_scanRun_192 : decode cX7_scanRun 192 = .ok (.iconst 4, 1) := by decide +kernel
theorem dX7_scanRun_193 : decode cX7_scanRun 193 = .ok (.goto 4, 3) := by decide +kernel
theorem dX7_scanRun_196 : decode cX7_scanRun 196 = .ok (.iconst 0, 1) := by decide +kernel
theorem dX7_scanRun_197 : decode cX7_scanRun 197 = .ok (.iastore, 1) := by decide +kernel
theorem dX7_scanRun_198 : decode cX7_scanRun 198 = .ok (.iload_n 1, 1) := by decide +kernel
theorem dX7_scanRun_199 : decode cX7_scanRun 199 = .ok (.iload_n 2, 1) := by decide +kernel
theorem dX7_scanRun_200 : decode cX7_scanRun 200 = .ok (.iadd, 1) := by decide +kernel
theorem dX7_scanRun_201 : decode cX7_scanRun 201 = .ok (.iload_n 3, 1) := by decide +kernel
theorem dX7_scanRun_202 : decode cX7_scanRun 202 = .ok (.iadd, 1) := by decide +kernel
theorem dX7_scanRun_203 : decode cX7_scanRun 203 = .ok (.ireturn, 1) := by decide +kernel
set_option maxRecDepth 100000 in
set_option maxHeartbeats 4000000 in
theorem wfX7_scanRun_198 {E : KE} {p : Program} {l : Launch} {e : Env} {s : State} {m : MethodId} {args : Array Value} {below : List Frame} {meth : Method} {c : Code} {q : (Int32 × MM)} (C : mx_C E p m c cX7_scanRun 9 s args RX7 meth (some .int)) (i1 : Int32) (hT : xOK E)   : ∀ (i2 : Int32) (i3 : Int32) (M : MM) (H : Heap) (locs : List Loc) (ls : Array Slot), fX7_scanRun_198 i1 i2 i3 M = some q → mx_H E s M H locs → lv_has ls 9 [(1, .int i1), (2, .int i2), (3, .int i3)] → W p l e (mx_rm 1) s m args below meth c H locs 0 0 (mx_Z E below args s (some (.int q.1)) q.2) (F0 m 198 ls []) := by
  have hx := C.1.1
  have hb := C.1.2.1
  have hown := C.1.2.2.2.1
  have hts := C.1.2.2.2.2
  intro i2 i3 M H locs ls hf hM hl
  rw [fX7_scanRun_198] at hf
  refine lv_iload_n hx hb dX7_scanRun_198 rfl (lv_at hl 0 rfl) ?_
  refine lv_iload_n hx hb dX7_scanRun_199 rfl (lv_at hl 1 rfl) ?_
  refine lv_iadd hx hb dX7_scanRun_200 ?_
  refine lv_iload_n hx hb dX7_scanRun_201 rfl (lv_at hl 2 rfl) ?_
  refine lv_iadd hx hb dX7_scanRun_202 ?_
  exact mx_iret C hM hf dX7_scanRun_203
set_option maxRecDepth 100000 in
set_option maxHeartbeats 4000000 in
theorem wfX7_scanRun_197 {E : KE} {p : Program} {l : Launch} {e : Env} {s : State} {m : MethodId} {args : Array Value} {below : List Frame} {meth : Method} {c : Code} {q : (Int32 × MM)} (C : mx_C E p m c cX7_scanRun 9 s args RX7 meth (some .int)) (i1 : Int32) (hT : xOK E)  (k198 : Int32 → Int32 → MM → Option (Int32 × MM)) (hk198 : ∀ (i2 : Int32) (i3 : Int32) (M : MM) (H : Heap) (locs : List Loc) (ls : Array Slot), k198 i2 i3 M = some q → mx_H E s M H locs → lv_has ls 9 [(1, .int i1), (2, .int i2), (3, .int i3)] → W p l e (mx_rm 1) s m args below meth c H locs 0 0 (mx_Z E below args s (some (.int q.1)) q.2) (F0 m 198 ls [])) : ∀ (i2 : Int32) (i3 : Int32) (is1 : Int32) (is2 : Int32) (M : MM) (H : Heap) (locs : List Loc) (ls : Array Slot), fX7_scanRun_197 i1 k198 i2 i3 is1 is2 M = some q → mx_H E s M H locs → lv_has ls 9 [(1, .int i1), (2, .int i2), (3, .int i3)] → W p l e (mx_rm 1) s m args below meth c H locs 0 0 (mx_Z E below args s (some (.int q.1)) q.2) (F0 m 197 ls [.int is2, .int is1, .ref (E.2.1.2.1 4)]) := by
  have hx := C.1.1
  have hb := C.1.2.1
  have hown := C.1.2.2.2.1
  have hts := C.1.2.2.2.2
  intro i2 i3 is1 is2 M H locs ls hf hM hl
  rw [fX7_scanRun_197] at hf
  obtain ⟨hg197, hf⟩ := mx_gd hf
  refine mx_iast C hM (xt_4 hT) (mx_in_vp hg197) dX7_scanRun_197 (fun H locs hM => ?_)
  exact hk198 i2 i3 (mx_si M 4 is1.toNatClampNeg is2) _ _ _ hf hM (lv_sub hl [0, 1, 2] rfl)
set_option maxRecDepth 100000 in
set_option maxHeartbeats 4000000 in
theorem wfX7_scanRun_196 {E : KE} {p : Program} {l : Launch} {e : Env} {s : State} {m : MethodId} {args : Array Value} {below : List Frame} {meth : Method} {c : Code} {q : (Int32 × MM)} (C : mx_C E p m c cX7_scanRun 9 s args RX7 meth (some .int)) (i1 : Int32) (hT : xOK E)  (k197 : Int32 → Int32 → Int32 → Int32 → MM → Option (Int32 × MM)) (hk197 : ∀ (i2 : Int32) (i3 : Int32) (is1 : Int32) (is2 : Int32) (M : MM) (H : Heap) (locs : List Loc) (ls : Array Slot), k197 i2 i3 is1 is2 M = some q → mx_H E s M H locs → lv_has ls 9 [(1, .int i1), (2, .int i2), (3, .int i3)] → W p l e (mx_rm 1) s m args below meth c H locs 0 0 (mx_Z E below args s (some (.int q.1)) q.2) (F0 m 197 ls [.int is2, .int is1, .ref (E.2.1.2.1 4)])) : ∀ (i2 : Int32) (i3 : Int32) (is1 : Int32) (M : MM) (H : Heap) (locs : List Loc) (ls : Array Slot), fX7_scanRun_196 i1 k197 i2 i3 is1 M = some q → mx_H E s M H locs → lv_has ls 9 [(1, .int i1), (2, .int i2), (3, .int i3)] → W p l e (mx_rm 1) s m args below meth c H locs 0 0 (mx_Z E below args s (some (.int q.1)) q.2) (F0 m 196 ls [.int is1, .ref (E.2.1.2.1 4)]) := by
  have hx := C.1.1
  have hb := C.1.2.1
  have hown := C.1.2.2.2.1
  have hts := C.1.2.2.2.2
  intro i2 i3 is1 M H locs ls hf hM hl
  rw [fX7_scanRun_196] at hf
  refine lv_iconst (v := (0 : Int32)) hx hb dX7_scanRun_196 (by decide) ?_
  exact hk197 i2 i3 is1 (0 : Int32) M _ _ _ hf hM (lv_sub hl [0, 1, 2] rfl)
set_option maxRecDepth 100000 in
set_option maxHeartbeats 4000000 in
theorem wfX7_scanRun_175 {E : KE} {p : Program} {l : Launch} {e : Env} {s : State} {m : MethodId} {args : Array Value} {below : List Frame} {meth : Method} {c : Code} {q : (Int32 × MM)} (C : mx_C E p m c cX7_scanRun 9 s args RX7 meth (some .int)) (i1 : Int32) (hT : xOK E)  (k198 : Int32 → Int32 → MM → Option (Int32 × MM)) (hk198 : ∀ (i2 : Int32) (i3 : Int32) (M : MM) (H : Heap) (locs : List Loc) (ls : Array Slot), k198 i2 i3 M = some q → mx_H E s M H locs → lv_has ls 9 [(1, .int i1), (2, .int i2), (3, .int i3)] → W p l e (mx_rm 1) s m args below meth c H locs 0 0 (mx_Z E below args s (some (.int q.1)) q.2) (F0 m 198 ls [])) : ∀ (i2 : Int32) (i3 : Int32) (M : MM) (H : Heap) (locs : List Loc) (ls : Array Slot), fX7_scanRun_175 i1 k198 i2 i3 M = some q → mx_H E s M H locs → lv_has ls 9 [(0, .ref (E.2.1.2.1 3)), (1, .int i1), (2, .int i2), (3, .int i3)] → W p l e (mx_rm 1) s m args below meth c H locs 0 0 (mx_Z E below args s (some (.int q.1)) q.2) (F0 m 175 ls []) := by
  have hx := C.1.1
  have hb := C.1.2.1
  have hown := C.1.2.2.2.1
  have hts := C.1.2.2.2.2
  intro i2 i3 M H locs ls hf hM hl
  rw [fX7_scanRun_175] at hf
  refine lv_aload_n hx hb dX7_scanRun_175 rfl (lv_at hl 0 rfl) ?_
  refine gX7_13 C hM (xt_3 hT) (f := (2, 4)) rfl (v := .ref (E.2.1.2.1 4)) rfl dX7_scanRun_176 ?_
  refine lv_aload_n hx hb dX7_scanRun_179 rfl (lv_at hl 0 rfl) ?_
  refine gX7_48 C hM (xt_3 hT) (f := (0, 0)) rfl (v := .int (M.1 3 6)) rfl dX7_scanRun_180 ?_
  refine lv_iload_n hx hb dX7_scanRun_183 rfl (lv_at hl 2 rfl) ?_
  refine lv_if_ne (tgt := 196) hx hb dX7_scanRun_184 (by decide) (fun hc184 => ?_) (fun hc184 => ?_)
  · replace hf := mx_iff hc184 hf
    exact wfX7_scanRun_196 C i1 hT (fun i2' i3' is1' is2' M' => fX7_scanRun_197 i1 k198 i2' i3' is1' is2' M') (fun i2' i3' is1' is2' M' H locs ls hf hM hl => wfX7_scanRun_197 C i1 hT k198 hk198 i2' i3' is1' is2' M' H locs ls hf hM hl) i2 i3 (M.1 3 6) M _ _ _ hf hM (lv_sub hl [1, 2, 3] rfl)
  · replace hf := mx_ift hc184 hf
    refine lv_iload_n hx hb dX7_scanRun_187 rfl (lv_at hl 3 rfl) ?_
    refine lv_iconst (v := (3 : Int32)) hx hb dX7_scanRun_188 (by decide) ?_
    refine lv_icmp_gt (tgt := 196) hx hb dX7_scanRun_189 (by decide) (fun hc189 => ?_) (fun hc189 => ?_)
    · replace hf := mx_ift hc189 hf
      exact wfX7_scanRun_196 C i1 hT (fun i2' i3' is1' is2' M' => fX7_scanRun_197 i1 k198 i2' i3' is1' is2' M') (fun i2' i3' is1' is2' M' H locs ls hf hM hl => wfX7_scanRun_197 C i1 hT k198 hk198 i2' i3' is1' is2' M' H locs ls hf hM hl) i2 i3 (M.1 3 6) M _ _ _ hf hM (lv_sub hl [1, 2, 3] rfl)
    · replace hf := mx_iff hc189 hf
      refine lv_iconst (v := (4 : Int32)) hx hb dX7_scanRun_192 (by decide) ?_
      refine lv_goto (tgt := 197) hx hb dX7_scanRun_193 (by decide) ?_
      exact wfX7_scanRun_197 C i1 hT k198 hk198 i2 i3 (M.1 3 6) (4 : Int32) M _ _ _ hf hM (lv_sub hl [1, 2, 3] rfl)
set_option maxRecDepth 100000 in
set_option maxHeartbeats 4000000 in
theorem wfX7_scanRun_171 {E : KE} {p : Program} {l : Launch} {e : Env} {s : State} {m : MethodId} {args : Array Value} {below : List Frame} {meth : Method} {c : Code} {q : (Int32 × MM)} (C : mx_C E p m c cX7_scanRun 9 s args RX7 meth (some .int)) (i1 : Int32) (hT : xOK E)  (k198 : Int32 → Int32 → MM → Option (Int32 × MM)) (hk198 : ∀ (i2 : Int32) (i3 : Int32) (M : MM) (H : Heap) (locs : List Loc) (ls : Array Slot), k198 i2 i3 M = some q → mx_H E s M H locs → lv_has ls 9 [(1, .int i1), (2, .int i2), (3, .int i3)] → W p l e (mx_rm 1) s m args below meth c H locs 0 0 (mx_Z E below args s (some (.int q.1)) q.2) (F0 m 198 ls [])) : ∀ (i2 : Int32) (i3 : Int32) (is1 : Int32) (is2 : Int32) (M : MM) (H : Heap) (locs : List Loc) (ls : Array Slot), fX7_scanRun_171 i1 k198 i2 i3 is1 is2 M = some q → mx_H E s M H locs → lv_has ls 9 [(1, .int i1), (2, .int i2), (3, .int i3)] → W p l e (mx_rm 1) s m args below meth c H locs 0 0 (mx_Z E below args s (some (.int q.1)) q.2) (F0 m 171 ls [.int is2, .int is1, .ref (E.2.1.2.1 4)]) := by
  have hx := C.1.1
  have hb := C.1.2.1
  have hown := C.1.2.2.2.1
  have hts := C.1.2.2.2.2
  intro i2 i3 is1 is2 M H locs ls hf hM hl
  rw [fX7_scanRun_171] at hf
  obtain ⟨hg171, hf⟩ := mx_gd hf
  refine mx_iast C hM (xt_4 hT) (mx_in_vp hg171) dX7_scanRun_171 (fun H locs hM => ?_)
  refine lv_goto (tgt := 198) hx hb dX7_scanRun_172 (by decide) ?_
  exact hk198 i2 i3 (mx_si M 4 is1.toNatClampNeg is2) _ _ _ hf hM (lv_sub hl [0, 1, 2] rfl)
set_option maxRecDepth 100000 in
set_option maxHeartbeats 4000000 in
theorem wfX7_scanRun_97 {E : KE} {p : Program} {l : Launch} {e : Env} {s : State} {m : MethodId} {args : Array Value} {below : List Frame} {meth : Method} {c : Code} {q : (Int32 × MM)} (C : mx_C E p m c cX7_scanRun 9 s args RX7 meth (some .int)) (i1 : Int32) (hT : xOK E)   : ∀ (i2 : Int32) (i3 : Int32) (l4 : Int64) (i6 : Int32) (M : MM) (H : Heap) (locs : List Loc) (ls : Array Slot), fX7_scanRun_97 i1 i2 i3 l4 i6 M = some q → mx_H E s M H locs → lv_has ls 9 [(0, .ref (E.2.1.2.1 3)), (1, .int i1), (2, .int i2), (3, .int i3), (4, .long l4), (6, .int i6)] → W p l e (mx_rm 1) s m args below meth c H locs 0 0 (mx_Z E below args s (some (.int q.1)) q.2) (F0 m 97 ls []) := by
  have hx := C.1.1
  have hb := C.1.2.1
  have hown := C.1.2.2.2.1
  have hts := C.1.2.2.2.2
  intro i2 i3 l4 i6 M H locs ls hf hM hl
  rw [fX7_scanRun_97] at hf
  refine lv_aload_n hx hb dX7_scanRun_97 rfl (lv_at hl 0 rfl) ?_
  refine gX7_23 C hM (xt_3 hT) (f := (2, 7)) rfl (v := .ref (E.2.1.2.1 7)) rfl dX7_scanRun_98 ?_
  refine lv_aload_n hx hb dX7_scanRun_101 rfl (lv_at hl 0 rfl) ?_
  refine gX7_48 C hM (xt_3 hT) (f := (0, 0)) rfl (v := .int (M.1 3 6)) rfl dX7_scanRun_102 ?_
  refine lv_lload hx hb dX7_scanRun_105 (lv_at hl 4 rfl) ?_
  obtain ⟨hg107, hf⟩ := mx_gd hf
  refine mx_last C hM (xt_7 hT) (mx_in_vp hg107) dX7_scanRun_107 (fun H locs hM => ?_)
  refine lv_aload_n hx hb dX7_scanRun_108 rfl (lv_at hl 0 rfl) ?_
  refine gX7_20 C hM (xt_3 hT) (f := (2, 6)) rfl (v := .ref (E.2.1.2.1 6)) rfl dX7_scanRun_109 ?_
  refine lv_aload_n hx hb dX7_scanRun_112 rfl (lv_at hl 0 rfl) ?_
  refine gX7_48 C hM (xt_3 hT) (f := (0, 0)) rfl (v := .int ((mx_sl M 7 (M.1 3 6).toNatClampNeg l4).1 3 6)) rfl dX7_scanRun_113 ?_
  refine lv_iload hx hb dX7_scanRun_116 (lv_at hl 5 rfl) ?_
  obtain ⟨hg118, hf⟩ := mx_gd hf
  refine mx_iast C hM (xt_6 hT) (mx_in_vp hg118) dX7_scanRun_118 (fun H locs hM => ?_)
  refine lv_iload_n hx hb dX7_scanRun_119 rfl (lv_at hl 3 rfl) ?_
  refine lv_if_ne (tgt := 175) hx hb dX7_scanRun_120 (by decide) (fun hc120 => ?_) (fun hc120 => ?_)
  · replace hf := mx_iff hc120 hf
    exact wfX7_scanRun_175 C i1 hT (fun i2' i3' M' => fX7_scanRun_198 i1 i2' i3' M') (fun i2' i3' M' H locs ls hf hM hl => wfX7_scanRun_198 C i1 hT i2' i3' M' H locs ls hf hM hl) i2 i3 (mx_si (mx_sl M 7 (M.1 3 6).toNatClampNeg l4) 6 ((mx_sl M 7 (M.1 3 6).toNatClampNeg l4).1 3 6).toNatClampNeg i6) _ _ _ hf hM (lv_sub hl [0, 1, 2, 3] rfl)
  · replace hf := mx_ift hc120 hf
    refine lv_iload_n hx hb dX7_scanRun_123 rfl (lv_at hl 2 rfl) ?_
    refine lv_bipush (v := (7 : Int32)) hx hb dX7_scanRun_124 (by decide) ?_
    refine lv_icmp_gt (tgt := 175) hx hb dX7_scanRun_126 (by decide) (fun hc126 => ?_) (fun hc126 => ?_)
    · replace hf := mx_ift hc126 hf
      exact wfX7_scanRun_175 C i1 hT (fun i2' i3' M' => fX7_scanRun_198 i1 i2' i3' M') (fun i2' i3' M' H locs ls hf hM hl => wfX7_scanRun_198 C i1 hT i2' i3' M' H locs ls hf hM hl) i2 i3 (mx_si (mx_sl M 7 (M.1 3 6).toNatClampNeg l4) 6 ((mx_sl M 7 (M.1 3 6).toNatClampNeg l4).1 3 6).toNatClampNeg i6) _ _ _ hf hM (lv_sub hl [0, 1, 2, 3] rfl)
    · replace hf := mx_iff hc126 hf
      refine lv_aload_n hx hb dX7_scanRun_129 rfl (lv_at hl 0 rfl) ?_
      refine gX7_29 C hM (xt_3 hT) (f := (2, 8)) rfl (v := .ref (E.2.1.2.1 8)) rfl dX7_scanRun_130 ?_
      refine lv_aload_n hx hb dX7_scanRun_133 rfl (lv_at hl 0 rfl) ?_
      refine gX7_48 C hM (xt_3 hT) (f := (0, 0)) rfl (v := .int ((mx_si (mx_sl M 7 (M.1 3 6).toNatClampNeg l4) 6 ((mx_sl M 7 (M.1 3 6).toNatClampNeg l4).1 3 6).toNatClampNeg i6).1 3 6)) rfl dX7_scanRun_134 ?_
      refine lv_lload hx hb dX7_scanRun_137 (lv_at hl 4 rfl) ?_
      obtain ⟨q139, hq139, hf⟩ := mx_bd hf
      refine mx_callSN C hM hl.1 yo_X11_coded (h' := 0) (by decide) (nw_523 hT C) qw_524 (As := [.long l4]) (rest := [.int ((mx_si (mx_sl M 7 (M.1 3 6).toNatClampNeg l4) 6 ((mx_sl M 7 (M.1 3 6).toNatClampNeg l4).1 3 6).toNatClampNeg i6).1 3 6), .ref (E.2.1.2.1 8)]) (st1 := [.ref (E.2.1.2.2.1 q139), .int ((mx_si (mx_sl M 7 (M.1 3 6).toNatClampNeg l4) 6 ((mx_sl M 7 (M.1 3 6).toNatClampNeg l4).1 3 6).toNatClampNeg i6).1 3 6), .ref (E.2.1.2.1 8)]) (kX11_coded C.2.2.2.1 l4 hT (mx_si (mx_sl M 7 (M.1 3 6).toNatClampNeg l4) 6 ((mx_sl M 7 (M.1 3 6).toNatClampNeg l4).1 3 6).toNatClampNeg i6) hq139) rfl rfl rfl (Nat.le_of_ble_eq_true rfl) dX7_scanRun_139 (fun H locs hM => ?_)
      obtain ⟨hg142, hf⟩ := mx_gd hf
      obtain ⟨hw142, hf⟩ := mx_gd hf
      refine xw_aast C hT hM (xt_8 hT) hw142 (j := ((mx_si (mx_sl M 7 (M.1 3 6).toNatClampNeg l4) 6 ((mx_sl M 7 (M.1 3 6).toNatClampNeg l4).1 3 6).toNatClampNeg i6).1 3 6).toNatClampNeg) rfl (mx_in_vp hg142) dX7_scanRun_142 (fun H locs hM => ?_)
      refine lv_aload_n hx hb dX7_scanRun_143 rfl (lv_at hl 0 rfl) ?_
      refine gX7_13 C hM (xt_3 hT) (f := (2, 4)) rfl (v := .ref (E.2.1.2.1 4)) rfl dX7_scanRun_144 ?_
      refine lv_aload_n hx hb dX7_scanRun_147 rfl (lv_at hl 0 rfl) ?_
      refine gX7_48 C hM (xt_3 hT) (f := (0, 0)) rfl (v := .int ((mx_sr (mx_si (mx_sl M 7 (M.1 3 6).toNatClampNeg l4) 6 ((mx_sl M 7 (M.1 3 6).toNatClampNeg l4).1 3 6).toNatClampNeg i6) 8 (((mx_si (mx_sl M 7 (M.1 3 6).toNatClampNeg l4) 6 ((mx_sl M 7 (M.1 3 6).toNatClampNeg l4).1 3 6).toNatClampNeg i6).1 3 6).toNatClampNeg) q139).1 3 6)) rfl dX7_scanRun_148 ?_
      refine lv_aload_n hx hb dX7_scanRun_151 rfl (lv_at hl 0 rfl) ?_
      refine gX7_29 C hM (xt_3 hT) (f := (2, 8)) rfl (v := .ref (E.2.1.2.1 8)) rfl dX7_scanRun_152 ?_
      refine lv_aload_n hx hb dX7_scanRun_155 rfl (lv_at hl 0 rfl) ?_
      refine gX7_48 C hM (xt_3 hT) (f := (0, 0)) rfl (v := .int ((mx_sr (mx_si (mx_sl M 7 (M.1 3 6).toNatClampNeg l4) 6 ((mx_sl M 7 (M.1 3 6).toNatClampNeg l4).1 3 6).toNatClampNeg i6) 8 (((mx_si (mx_sl M 7 (M.1 3 6).toNatClampNeg l4) 6 ((mx_sl M 7 (M.1 3 6).toNatClampNeg l4).1 3 6).toNatClampNeg i6).1 3 6).toNatClampNeg) q139).1 3 6)) rfl dX7_scanRun_156 ?_
      obtain ⟨hg159, hf⟩ := mx_gd hf
      refine mx_aaldW C hM (xt_8 hT) (mx_in_vp hg159) dX7_scanRun_159 ?_
      refine xw_get C hT (w := 0) (by decide) hM (hts _ qw_60) dX7_scanRun_160 ?_
      obtain ⟨hw163a, hf⟩ := mx_gd hf
      refine xw_ne (tgt := 170) C hT hw163a (by decide) dX7_scanRun_163 (by decide) (fun hc163 => ?_) (fun hc163 => ?_)
      · replace hf := mx_iff hc163 hf
        refine lv_iconst (v := (3 : Int32)) hx hb dX7_scanRun_170 (by decide) ?_
        exact wfX7_scanRun_171 C i1 hT (fun i2' i3' M' => fX7_scanRun_198 i1 i2' i3' M') (fun i2' i3' M' H locs ls hf hM hl => wfX7_scanRun_198 C i1 hT i2' i3' M' H locs ls hf hM hl) i2 i3 ((mx_sr (mx_si (mx_sl M 7 (M.1 3 6).toNatClampNeg l4) 6 ((mx_sl M 7 (M.1 3 6).toNatClampNeg l4).1 3 6).toNatClampNeg i6) 8 (((mx_si (mx_sl M 7 (M.1 3 6).toNatClampNeg l4) 6 ((mx_sl M 7 (M.1 3 6).toNatClampNeg l4).1 3 6).toNatClampNeg i6).1 3 6).toNatClampNeg) q139).1 3 6) (3 : Int32) (mx_sr (mx_si (mx_sl M 7 (M.1 3 6).toNatClampNeg l4) 6 ((mx_sl M 7 (M.1 3 6).toNatClampNeg l4).1 3 6).toNatClampNeg i6) 8 (((mx_si (mx_sl M 7 (M.1 3 6).toNatClampNeg l4) 6 ((mx_sl M 7 (M.1 3 6).toNatClampNeg l4).1 3 6).toNatClampNeg i6).1 3 6).toNatClampNeg) q139) _ _ _ hf hM (lv_sub hl [1, 2, 3] rfl)
      · replace hf := mx_ift hc163 hf
        refine lv_iconst (v := (2 : Int32)) hx hb dX7_scanRun_166 (by decide) ?_
        refine lv_goto (tgt := 171) hx hb dX7_scanRun_167 (by decide) ?_
        exact wfX7_scanRun_171 C i1 hT (fun i2' i3' M' => fX7_scanRun_198 i1 i2' i3' M') (fun i2' i3' M' H locs ls hf hM hl => wfX7_scanRun_198 C i1 hT i2' i3' M' H locs ls hf hM hl) i2 i3 ((mx_sr (mx_si (mx_sl M 7 (M.1 3 6).toNatClampNeg l4) 6 ((mx_sl M 7 (M.1 3 6).toNatClampNeg l4).1 3 6).toNatClampNeg i6) 8 (((mx_si (mx_sl M 7 (M.1 3 6).toNatClampNeg l4) 6 ((mx_sl M 7 (M.1 3 6).toNatClampNeg l4).1 3 6).toNatClampNeg i6).1 3 6).toNatClampNeg) q139).1 3 6) (2 : Int32) (mx_sr (mx_si (mx_sl M 7 (M.1 3 6).toNatClampNeg l4) 6 ((mx_sl M 7 (M.1 3 6).toNatClampNeg l4).1 3 6).toNatClampNeg i6) 8 (((mx_si (mx_sl M 7 (M.1 3 6).toNatClampNeg l4) 6 ((mx_sl M 7 (M.1 3 6).toNatClampNeg l4).1 3 6).toNatClampNeg i6).1 3 6).toNatClampNeg) q139) _ _ _ hf hM (lv_sub hl [1, 2, 3] rfl)
set_option maxRecDepth 100000 in
set_option maxHeartbeats 4000000 in
theorem wfX7_scanRun_13 {E : KE} {p : Program} {l : Launch} {e : Env} {s : State} {m : MethodId} {args : Array Value} {below : List Frame} {meth : Method} {c : Code} {q : (Int32 × MM)} (C : mx_C E p m c cX7_scanRun 9 s args RX7 meth (some .int)) (i1 : Int32) (hT : xOK E)   : ∀ (n : Nat) (i2 : Int32) (i3 : Int32) (l4 : Int64) (i6 : Int32) (i7 : Int32) (M : MM) (H : Heap) (locs : List Loc) (ls : Array Slot), fX7_scanRun_13 i1 n i2 i3 l4 i6 i7 M = some q → mx_H E s M H locs → lv_has ls 9 [(0, .ref (E.2.1.2.1 3)), (1, .int i1), (2, .int i2), (3, .int i3), (4, .long l4), (6, .int i6), (7, .int i7)] → W p l e (mx_rm 1) s m args below meth c H locs 0 0 (mx_Z E below args s (some (.int q.1)) q.2) (F0 m 13 ls []) := by
  have hx := C.1.1
  have hb := C.1.2.1
  have hown := C.1.2.2.2.1
  have hts := C.1.2.2.2.2
  intro n
  induction n with
  | zero =>
    intro i2 i3 l4 i6 i7 M H locs ls hf hM hl
    rw [fX7_scanRun_13] at hf
    cases hf
  | succ n ih =>
    intro i2 i3 l4 i6 i7 M H locs ls hf hM hl
    rw [fX7_scanRun_13] at hf
    refine lv_iload hx hb dX7_scanRun_13 (lv_at hl 6 rfl) ?_
    refine lv_aload_n hx hb dX7_scanRun_15 rfl (lv_at hl 0 rfl) ?_
    refine gX7_33 C hM (xt_3 hT) (f := (2, 1)) rfl (v := .ref (E.2.1.2.1 1)) rfl dX7_scanRun_16 ?_
    refine gX7_61 C hT hM (xt_1 hT) (f := (0, 0)) rfl (v := .int (M.1 1 1)) rfl dX7_scanRun_19 ?_
    refine lv_icmp_ge (tgt := 97) hx hb dX7_scanRun_22 (by decide) (fun hc22 => ?_) (fun hc22 => ?_)
    · replace hf := mx_ift hc22 hf
      exact wfX7_scanRun_97 C i1 hT i2 i3 l4 i6 M _ _ _ hf hM (lv_sub hl [0, 1, 2, 3, 4, 5] rfl)
    · replace hf := mx_iff hc22 hf
      refine lv_aload_n hx hb dX7_scanRun_25 rfl (lv_at hl 0 rfl) ?_
      refine gX7_33 C hM (xt_3 hT) (f := (2, 1)) rfl (v := .ref (E.2.1.2.1 1)) rfl dX7_scanRun_26 ?_
      refine lv_iload hx hb dX7_scanRun_29 (lv_at hl 6 rfl) ?_
      obtain ⟨q31, hq31, hf⟩ := mx_bd hf
      refine mx_callVN C hM hl.1 yo_X10_at (h' := 0) (by decide) (nw_505 hT C) qw_507 qs_5 (ci := 10) (q := (RX10, TX10, 2)) rfl (xt_1 hT) (As := [.int i7]) (rest := []) (st1 := [.int q31]) (kX10_at C.2.2.2.1 i7 hT M hq31) rfl rfl rfl (Nat.le_of_ble_eq_true rfl) dX7_scanRun_31 (fun H locs hM => ?_)
      refine lv_istore (lv' := [(8, .int q31), (0, .ref (E.2.1.2.1 3)), (1, .int i1), (2, .int i2), (3, .int i3), (4, .long l4), (6, .int i6), (7, .int i7)]) hx hb dX7_scanRun_34 hl (by decide) rfl (fun ls hl => ?_)
      refine lv_iload hx hb dX7_scanRun_36 (lv_at hl 0 rfl) ?_
      obtain ⟨q38, hq38, hf⟩ := mx_bd hf
      refine mx_callS C hM hl.1 yo_X7_isLetter (h' := 0) (by decide) qw_512 qw_513 (As := [.int q31]) (rest := []) (st1 := [.int (mx_b q38)]) (kX7_isLetter C.2.2.2.1 q31 hT M hq38) rfl rfl rfl (Nat.le_of_ble_eq_true rfl) dX7_scanRun_38 (fun H locs hM => ?_)
      refine lv_if_eq (tgt := 67) hx hb dX7_scanRun_41 (by decide) (fun hc41 => ?_) (fun hc41 => ?_)
      · replace hf := mx_ift hc41 hf
        refine lv_iload hx hb dX7_scanRun_67 (lv_at hl 0 rfl) ?_
        obtain ⟨q69, hq69, hf⟩ := mx_bd hf
        refine mx_callS C hM hl.1 yo_X7_isDigit (h' := 0) (by decide) qw_515 qw_516 (As := [.int q31]) (rest := []) (st1 := [.int (mx_b q69)]) (kX7_isDigit C.2.2.2.1 q31 hT M hq69) rfl rfl rfl (Nat.le_of_ble_eq_true rfl) dX7_scanRun_69 (fun H locs hM => ?_)
        refine lv_if_eq (tgt := 97) hx hb dX7_scanRun_72 (by decide) (fun hc72 => ?_) (fun hc72 => ?_)
        · replace hf := mx_ift hc72 hf
          exact wfX7_scanRun_97 C i1 hT i2 i3 l4 i6 M _ _ _ hf hM (lv_sub hl [1, 2, 3, 4, 5, 6] rfl)
        · replace hf := mx_iff hc72 hf
          refine lv_iinc (v := (i3 + (1 : Int32))) (lv' := [(3, .int (i3 + (1 : Int32))), (8, .int q31), (0, .ref (E.2.1.2.1 3)), (1, .int i1), (2, .int i2), (4, .long l4), (6, .int i6), (7, .int i7)]) hx hb dX7_scanRun_75 hl (k := 4) rfl rfl (by decide) rfl (fun ls hl => ?_)
          refine lv_iload hx hb dX7_scanRun_78 (lv_at hl 6 rfl) ?_
          refine lv_bipush (v := (10 : Int32)) hx hb dX7_scanRun_80 (by decide) ?_
          refine lv_imul hx hb dX7_scanRun_82 ?_
          refine lv_iload hx hb dX7_scanRun_83 (lv_at hl 1 rfl) ?_
          refine lv_bipush (v := (48 : Int32)) hx hb dX7_scanRun_85 (by decide) ?_
          refine lv_isub hx hb dX7_scanRun_87 ?_
          refine lv_iadd hx hb dX7_scanRun_88 ?_
          refine lv_istore (lv' := [(6, .int ((i6 * (10 : Int32)) + (q31 - (48 : Int32)))), (3, .int (i3 + (1 : Int32))), (8, .int q31), (0, .ref (E.2.1.2.1 3)), (1, .int i1), (2, .int i2), (4, .long l4), (7, .int i7)]) hx hb dX7_scanRun_89 hl (by decide) rfl (fun ls hl => ?_)
          refine lv_iinc (v := (i7 + (1 : Int32))) (lv' := [(7, .int (i7 + (1 : Int32))), (6, .int ((i6 * (10 : Int32)) + (q31 - (48 : Int32)))), (3, .int (i3 + (1 : Int32))), (8, .int q31), (0, .ref (E.2.1.2.1 3)), (1, .int i1), (2, .int i2), (4, .long l4)]) hx hb dX7_scanRun_91 hl (k := 7) rfl rfl (by decide) rfl (fun ls hl => ?_)
          refine lv_goto (tgt := 13) hx hb dX7_scanRun_94 (by decide) ?_
          exact ih i2 (i3 + (1 : Int32)) l4 ((i6 * (10 : Int32)) + (q31 - (48 : Int32))) (i7 + (1 : Int32)) M _ _ _ hf hM (lv_sub hl [4, 5, 6, 2, 7, 1, 0] rfl)
      · replace hf := mx_iff hc41 hf
        refine lv_iinc (v := (i2 + (1 : Int32))) (lv' := [(2, .int (i2 + (1 : Int32))), (8, .int q31), (0, .ref (E.2.1.2.1 3)), (1, .int i1), (3, .int i3), (4, .long l4), (6, .int i6), (7, .int i7)]) hx hb dX7_scanRun_44 hl (k := 3) rfl rfl (by decide) rfl (fun ls hl => ?_)
        refine lv_lload hx hb dX7_scanRun_47 (lv_at hl 5 rfl) ?_
        refine lv_ldc2 (v := (32)) hx hb hown (hts _ qw_522) dX7_scanRun_49 ?_
        refine lv_lmul hx hb dX7_scanRun_52 ?_
        refine lv_iload hx hb dX7_scanRun_53 (lv_at hl 1 rfl) ?_
        refine lv_bipush (v := (97 : Int32)) hx hb dX7_scanRun_55 (by decide) ?_
        refine lv_isub hx hb dX7_scanRun_57 ?_
        refine lv_iconst (v := (1 : Int32)) hx hb dX7_scanRun_58 (by decide) ?_
        refine lv_iadd hx hb dX7_scanRun_59 ?_
        refine lv_i2l (v := (((q31 - (97 : Int32)) + (1 : Int32)).toInt64)) hx hb dX7_scanRun_60 rfl ?_
        refine lv_ladd hx hb dX7_scanRun_61 ?_
        refine lv_lstore (lv' := [(4, .long ((l4 * (32 : Int64)) + (((q31 - (97 : Int32)) + (1 : Int32)).toInt64))), (2, .int (i2 + (1 : Int32))), (8, .int q31), (0, .ref (E.2.1.2.1 3)), (1, .int i1), (3, .int i3), (6, .int i6), (7, .int i7)]) hx hb dX7_scanRun_62 hl (by decide) rfl (fun ls hl => ?_)
        refine lv_goto (tgt := 91) hx hb dX7_scanRun_64 (by decide) ?_
        refine lv_iinc (v := (i7 + (1 : Int32))) (lv' := [(7, .int (i7 + (1 : Int32))), (4, .long ((l4 * (32 : Int64)) + (((q31 - (97 : Int32)) + (1 : Int32)).toInt64))), (2, .int (i2 + (1 : Int32))), (8, .int q31), (0, .ref (E.2.1.2.1 3)), (1, .int i1), (3, .int i3), (6, .int i6)]) hx hb dX7_scanRun_91 hl (k := 7) rfl rfl (by decide) rfl (fun ls hl => ?_)
        refine lv_goto (tgt := 13) hx hb dX7_scanRun_94 (by decide) ?_
        exact ih (i2 + (1 : Int32)) i3 ((l4 * (32 : Int64)) + (((q31 - (97 : Int32)) + (1 : Int32)).toInt64)) i6 (i7 + (1 : Int32)) M _ _ _ hf hM (lv_sub hl [4, 5, 2, 6, 1, 7, 0] rfl)
set_option maxRecDepth 100000 in
set_option maxHeartbeats 4000000 in
theorem kX7_scanRun {E : KE} {l : Launch} (hE : mx_ok E) (i1 : Int32) (hT : xOK E) (M : MM) {q : (Int32 × MM)} (hf : fX7_scanRun i1 M = some q) : mx_Met E l yX7_scanRun cX7_scanRun 9 (some .int) 1 [.ref (E.2.1.2.1 3), .int i1] M (some (.int q.1)) q.2 := by
  refine mx_enter hE (by decide) (Nat.le_of_ble_eq_true rfl) ?_
  intro p e s m below meth c C hM hn ls hl
  have hx := C.1.1
  have hb := C.1.2.1
  have hown := C.1.2.2.2.1
  have hts := C.1.2.2.2.2
  have hl : lv_has ls 9 [(0, .ref (E.2.1.2.1 3)), (1, .int i1)] := hl
  rw [fX7_scanRun] at hf
  refine lv_iconst (v := (0 : Int32)) hx hb dX7_scanRun_0 (by decide) ?_
  refine lv_istore_n (lv' := [(2, .int (0 : Int32)), (0, .ref (E.2.1.2.1 3)), (1, .int i1)]) hx hb dX7_scanRun_1 rfl hl (by decide) rfl (fun ls hl => ?_)
  refine lv_iconst (v := (0 : Int32)) hx hb dX7_scanRun_2 (by decide) ?_
  refine lv_istore_n (lv' := [(3, .int (0 : Int32)), (2, .int (0 : Int32)), (0, .ref (E.2.1.2.1 3)), (1, .int i1)]) hx hb dX7_scanRun_3 rfl hl (by decide) rfl (fun ls hl => ?_)
  refine lv_lconst (v := 0) hx hb dX7_scanRun_4 (by decide) ?_
  refine lv_lstore (lv' := [(4, .long (0 : Int64)), (3, .int (0 : Int32)), (2, .int (0 : Int32)), (0, .ref (E.2.1.2.1 3)), (1, .int i1)]) hx hb dX7_scanRun_5 hl (by decide) rfl (fun ls hl => ?_)
  refine lv_iconst (v := (0 : Int32)) hx hb dX7_scanRun_7 (by decide) ?_
  refine lv_istore (lv' := [(6, .int (0 : Int32)), (4, .long (0 : Int64)), (3, .int (0 : Int32)), (2, .int (0 : Int32)), (0, .ref (E.2.1.2.1 3)), (1, .int i1)]) hx hb dX7_scanRun_8 hl (by decide) rfl (fun ls hl => ?_)
  refine lv_iload_n hx hb dX7_scanRun_10 rfl (lv_at hl 5 rfl) ?_
  refine lv_istore (lv' := [(7, .int i1), (6, .int (0 : Int32)), (4, .long (0 : Int64)), (3, .int (0 : Int32)), (2, .int (0 : Int32)), (0, .ref (E.2.1.2.1 3)), (1, .int i1)]) hx hb dX7_scanRun_11 hl (by decide) rfl (fun ls hl => ?_)
  exact wfX7_scanRun_13 C i1 hT mx_fu (0 : Int32) (0 : Int32) (0 : Int64) (0 : Int32) i1 M _ _ _ hf hM (lv_sub hl [5, 6, 4, 3, 2, 1, 0] rfl)
theorem dX7_scan_0 : decode cX7_scan 0 = .ok (.iload_n 1, 1) := by decide +kernel
theorem dX7_scan_1 : decode cX7_scan 1 = .ok (.istore_n 2, 1) := by decide +kernel
theorem dX7_scan_2 : decode cX7_scan 2 = .ok (.iload_n 2, 1) := by decide +kernel
theorem dX7_scan_3 : decode cX7_scan 3 = .ok (.aload_n 0, 1) := by decide +kernel
theorem dX7_scan_4 : decode cX7_scan 4 = .ok (.getfield 33, 3) := by decide +kernel
theorem dX7_scan_7 : decode cX7_scan 7 = .ok (.getfield 61, 3) := by decide +kernel
theorem dX7_scan_10 : decode cX7_scan 10 = .ok (.if_icmp .ge 23, 3) := by decide +kernel
theorem dX7_scan_13 : decode cX7_scan 13 = .ok (.aload_n 0, 1) := by decide +kernel
theorem dX7_scan_14 : decode cX7_scan 14 = .ok (.getfield 33, 3) := by decide +kernel
theorem dX7_scan_17 : decode cX7_scan 17 = .ok (.iload_n 2, 1) := by decide +kernel
theorem dX7_scan_18 : decode cX7_scan 18 = .ok (.invokevirtual 64, 3) := by decide +kernel
theorem dX7_scan_21 : decode cX7_scan 21 = .ok (.invokestatic 66, 3) := by decide +kernel
theorem dX7_scan_24 : decode cX7_scan 24 = .ok (.ifCond .eq 9, 3) := by decide +kernel
theorem dX7_scan_27 : decode cX7_scan 27 = .ok (.iinc 2 1, 3) := by decide +kernel
theorem dX7_scan_30 : decode cX7_scan 30 = .ok (.goto (-28), 3) := by decide +kernel
theorem dX7_scan_33 : decode cX7_scan 33 = .ok (.aload_n 0, 1) := by decide +kernel
theorem dX7_scan_34 : decode cX7_scan 34 = .ok (.getfield 17, 3) := by decide +kernel
theorem dX7_scan_37 : decode cX7_scan 37 = .ok (.aload_n 0, 1) := by decide +kernel
theorem dX7_scan_38 : decode cX7_scan 38 = .ok (.getfield 48, 3) := by decide +kernel
theorem dX7_scan_41 : decode cX7_scan 41 = .ok (.iload_n 2, 1) := by decide +kernel
theorem dX7_scan_42 : decode cX7_scan 42 = .ok (.iastore, 1) := by decide +kernel
theorem dX7_scan_43 : decode cX7_scan 43 = .ok (.aload_n 0, 1) := by decide +kernel
theorem dX7_scan_44 : decode cX7_scan 44 = .ok (.getfield 29, 3) := by decide +kernel
theorem dX7_scan_47 : decode cX7_scan 47 = .ok (.aload_n 0, 1) := by decide +kernel
theorem dX7_scan_48 : decode cX7_scan 48 = .ok (.getfield 48, 3) := by decide +kernel
theorem dX7_scan_51 : decode cX7_scan 51 = .ok (.getstatic 37, 3) := by decide +kernel
theorem dX7_scan_54 : decode cX7_scan 54 = .ok (.aastore, 1) := by decide +kernel
theorem dX7_scan_55 : decode cX7_scan 55 = .ok (.aload_n 0, 1) := by decide +kernel
theorem dX7_scan_56 : decode cX7_scan 56 = .ok (.getfield 33, 3) := by decide +kernel
theorem dX7_scan_59 : decode cX7_scan 59 = .ok (.getfield 61, 3) := by decide +kernel
theorem dX7_scan_62 : decode cX7_scan 62 = .ok (.aload_n 0, 1) := by decide +kernel
theorem dX7_scan_63 : decode cX7_scan 63 = .ok (.getfield 41, 3) := by decide +kernel
theorem dX7_scan_66 : decode cX7_scan 66 = .ok (.if_icmp .le 37, 3) := by decide +kernel
theorem dX7_scan_69 : decode cX7_scan 69 = .ok (.iload_n 2, 1) := by decide +kernel
theorem dX7_scan_70 : decode cX7_scan 70 = .ok (.aload_n 0, 1) := by decide +kernel
theorem dX7_scan_71 : decode cX7_scan 71 = .ok (.getfield 41, 3) := by decide +kernel
theorem dX7_scan_74 : decode cX7_scan 74 = .ok (.if_icmp .lt 29, 3) := by decide +kernel
theorem dX7_scan_77 : decode cX7_scan 77 = .ok (.aload_n 0, 1) := by decide +kernel
theorem dX7_scan_78 : decode cX7_scan 78 = .ok (.getfield 17, 3) := by decide +kernel
theorem dX7_scan_81 : decode cX7_scan 81 = .ok (.aload_n 0, 1) := by decide +kernel
theorem dX7_scan_82 : decode cX7_scan 82 = .ok (.getfield 48, 3) := by decide +kernel
theorem dX7_scan_85 : decode cX7_scan 85 = .ok (.aload_n 0, 1) := by decide +kernel
theorem dX7_scan_86 : decode cX7_scan 86 = .ok (.getfield 41, 3) := by decide +kernel
theorem dX7_scan_89 : decode cX7_scan 89 = .ok (.iastore, 1) := by decide +kernel
theorem dX7_scan_90 : decode cX7_scan 90 = .ok (.aload_n 0, 1) := by decide +kernel
theorem dX7_scan_91 : decode cX7_scan 91 = .ok (.getfield 13, 3) := by decide +kernel
theorem dX7_scan_94 : decode cX7_scan 94 = .ok (.aload_n 0, 1) := by decide +kernel
theorem dX7_scan_95 : decode cX7_scan 95 = .ok (.getfield 48, 3) := by decide +kernel
theorem dX7_scan_98 : decode cX7_scan 98 = .ok (.iconst 0, 1) := by decide +kernel
theorem dX7_scan_99 : decode cX7_scan 99 = .ok (.iastore, 1) := by decide +kernel
theorem dX7_scan_100 : decode cX7_scan 100 = .ok (.goto 94, 3) := by decide +kernel
theorem dX7_scan_103 : decode cX7_scan 103 = .ok (.iload_n 2, 1) := by decide +kernel
theorem dX7_scan_104 : decode cX7_scan 104 = .ok (.aload_n 0, 1) := by decide +kernel
theorem dX7_scan_105 : decode cX7_scan 105 = .ok (.getfield 33, 3) := by decide +kernel
theorem dX7_scan_108 : decode cX7_scan 108 = .ok (.getfield 61, 3) := by decide +kernel
theorem dX7_scan_111 : decode cX7_scan 111 = .ok (.if_icmp .lt 16, 3) := by decide +kernel
theorem dX7_scan_114 : decode cX7_scan 114 = .ok (.aload_n 0, 1) := by decide +kernel
theorem dX7_scan_115 : decode cX7_scan 115 = .ok (.getfield 13, 3) := by decide +kernel
theorem dX7_scan_118 : decode cX7_scan 118 = .ok (.aload_n 0, 1) := by decide +kernel
theorem dX7_scan_119 : decode cX7_scan 119 = .ok (.getfield 48, 3) := by decide +kernel
theorem dX7_scan_122 : decode cX7_scan 122 = .ok (.iconst 1, 1) := by decide +kernel
theorem dX7_scan_123 : decode cX7_scan 123 = .ok (.iastore, 1) := by decide +kernel
theorem dX7_scan_124 : decode cX7_scan 124 = .ok (.goto 70, 3) := by decide +kernel
theorem dX7_scan_127 : decode cX7_scan 127 = .ok (.aload_n 0, 1) := by decide +kernel
theorem dX7_scan_128 : decode cX7_scan 128 = .ok (.getfield 33, 3) := by decide +kernel
theorem dX7_scan_131 : decode cX7_scan 131 = .ok (.iload_n 2, 1) := by decide +kernel
theorem dX7_scan_132 : decode cX7_scan 132 = .ok (.invokevirtual 64, 3) := by decide +kernel
theorem dX7_scan_135 : decode cX7_scan 135 = .ok (.invokestatic 70, 3) := by decide +kernel
theorem dX7_scan_138 : decode cX7_scan 138 = .ok (.ifCond .ne 17, 3) := by decide +kernel
theorem dX7_scan_141 : decode cX7_scan 141 = .ok (.aload_n 0, 1) := by decide +kernel
theorem dX7_scan_142 : decode cX7_scan 142 = .ok (.getfield 33, 3) := by decide +kernel
theorem dX7_scan_145 : decode cX7_scan 145 = .ok (.iload_n 2, 1) := by decide +kernel
theorem dX7_scan_146 : decode cX7_scan 146 = .ok (.invokevirtual 64, 3) := by decide +kernel
theorem dX7_scan_149 : decode cX7_scan 149 = .ok (.invokestatic 73, 3) := by decide +kernel
theorem dX7_scan_152 : decode cX7_scan 152 = .ok (.ifCond .eq 12, 3) := by decide +kernel
theorem dX7_scan_155 : decode cX7_scan 155 = .ok (.aload_n 0, 1) := by decide +kernel
theorem dX7_scan_156 : decode cX7_scan 156 = .ok (.iload_n 2, 1) := by decide +kernel
theorem dX7_scan_157 : decode cX7_scan 157 = .ok (.invokevirtual 76, 3) := by decide +kernel
theorem dX7_scan_160 : decode cX7_scan 160 = .ok (.istore_n 2, 1) := by decide +kernel
theorem dX7_scan_161 : decode cX7_scan 161 = .ok (.goto 33, 3) := by decide +kernel
theorem dX7_scan_164 : decode cX7_scan 164 = .ok (.aload_n 0, 1) := by decide +kernel
theorem dX7_scan_165 : decode cX7_scan 165 = .ok (.getfield 20, 3) := by decide +kernel
theorem dX7_scan_168 : decode cX7_scan 168 = .ok (.aload_n 0, 1) := by decide +kernel
theorem dX7_scan_169 : decode cX7_scan 169 = .ok (.getfield 48, 3) := by decide +kernel
theorem dX7_scan_172 : decode cX7_scan 172 = .ok (.aload_n 0, 1) := by decide +kernel
theorem dX7_scan_173 : decode cX7_scan 173 = .ok (.getfield 33, 3) := by decide +kernel
theorem dX7_scan_176 : decode cX7_scan 176 = .ok (.iload_n 2, 1) := by decide +kernel
theorem dX7_scan_177 : decode cX7_scan 177 = .ok (.invokevirtual 64, 3) := by decide +kernel
theorem dX7_scan_180 : decode cX7_scan 180 = .ok (.iastore, 1) := by decide +kernel
theorem dX7_scan_181 : decode cX7_scan 181 = .ok (.aload_n 0, 1) := by decide +kernel
theorem dX7_scan_182 : decode cX7_scan 182 = .ok (.getfield 13, 3) := by decide +kernel
theorem dX7_scan_185 : decode cX7_scan 185 = .ok (.aload_n 0, 1) := by decide +kernel
theorem dX7_scan_186 : decode cX7_scan 186 = .ok (.getfield 48, 3) := by decide +kernel
theorem dX7_scan_189 : decode cX7_scan 189 = .ok (.iconst 5, 1) := by decide +kernel
theorem dX7_scan_190 : decode cX7_scan 190 = .ok (.iastore, 1) := by decide +kernel
theorem dX7_scan_191 : decode cX7_scan 191 = .ok (.iinc 2 1, 3) := by decide +kernel
theorem dX7_scan_194 : decode cX7_scan 194 = .ok (.iload_n 2, 1) := by decide +kernel
theorem dX7_scan_195 : decode cX7_scan 195 = .ok (.ireturn, 1) := by decide +kernel
set_option maxRecDepth 100000 in
set_option maxHeartbeats 4000000 in
theorem wfX7_scan_155 {E : KE} {p : Program} {l : Launch} {e : Env} {s : State} {m : MethodId} {args : Array Value} {below : List Frame} {meth : Method} {c : Code} {q : (Int32 × MM)} (C : mx_C E p m c cX7_scan 3 s args RX7 meth (some .int)) (i1 : Int32) (hT : xOK E)   : ∀ (i2 : Int32) (M : MM) (H : Heap) (locs : List Loc) (ls : Array Slot), fX7_scan_155 i1 i2 M = some q → mx_H E s M H locs → lv_has ls 3 [(0, .ref (E.2.1.2.1 3)), (2, .int i2)] → W p l e (mx_rm 2) s m args below meth c H locs 0 0 (mx_Z E below args s (some (.int q.1)) q.2) (F0 m 155 ls []) := by
  have hx := C.1.1
  have hb := C.1.2.1
  have hown := C.1.2.2.2.1
  have hts := C.1.2.2.2.2
  intro i2 M H locs ls hf hM hl
  rw [fX7_scan_155] at hf
  refine lv_aload_n hx hb dX7_scan_155 rfl (lv_at hl 0 rfl) ?_
  refine lv_iload_n hx hb dX7_scan_156 rfl (lv_at hl 1 rfl) ?_
  obtain ⟨q157, hq157, hf⟩ := mx_bd hf
  refine mx_callV C hM hl.1 yo_X7_scanRun (h' := 1) (by decide) qw_518 qw_520 qs_6 (ci := 7) (q := (RX7, TX7, 12)) rfl (xt_3 hT) (As := [.int i2]) (rest := []) (st1 := [.int q157.1]) (kX7_scanRun C.2.2.2.1 i2 hT M hq157) rfl rfl rfl (Nat.le_of_ble_eq_true rfl) dX7_scan_157 (fun H locs hM => ?_)
  refine lv_istore_n (lv' := [(2, .int q157.1), (0, .ref (E.2.1.2.1 3))]) hx hb dX7_scan_160 rfl hl (by decide) rfl (fun ls hl => ?_)
  refine lv_goto (tgt := 194) hx hb dX7_scan_161 (by decide) ?_
  refine lv_iload_n hx hb dX7_scan_194 rfl (lv_at hl 0 rfl) ?_
  exact mx_iret C hM hf dX7_scan_195
set_option maxRecDepth 100000 in
set_option maxHeartbeats 4000000 in
theorem wfX7_scan_103 {E : KE} {p : Program} {l : Launch} {e : Env} {s : State} {m : MethodId} {args : Array Value} {below : List Frame} {meth : Method} {c : Code} {q : (Int32 × MM)} (C : mx_C E p m c cX7_scan 3 s args RX7 meth (some .int)) (i1 : Int32) (hT : xOK E)   : ∀ (i2 : Int32) (M : MM) (H : Heap) (locs : List Loc) (ls : Array Slot), fX7_scan_103 i1 i2 M = some q → mx_H E s M H locs → lv_has ls 3 [(0, .ref (E.2.1.2.1 3)), (2, .int i2)] → W p l e (mx_rm 2) s m args below meth c H locs 0 0 (mx_Z E below args s (some (.int q.1)) q.2) (F0 m 103 ls []) := by
  have hx := C.1.1
  have hb := C.1.2.1
  have hown := C.1.2.2.2.1
  have hts := C.1.2.2.2.2
  intro i2 M H locs ls hf hM hl
  rw [fX7_scan_103] at hf
  refine lv_iload_n hx hb dX7_scan_103 rfl (lv_at hl 1 rfl) ?_
  refine lv_aload_n hx hb dX7_scan_104 rfl (lv_at hl 0 rfl) ?_
  refine gX7_33 C hM (xt_3 hT) (f := (2, 1)) rfl (v := .ref (E.2.1.2.1 1)) rfl dX7_scan_105 ?_
  refine gX7_61 C hT hM (xt_1 hT) (f := (0, 0)) rfl (v := .int (M.1 1 1)) rfl dX7_scan_108 ?_
  refine lv_icmp_lt (tgt := 127) hx hb dX7_scan_111 (by decide) (fun hc111 => ?_) (fun hc111 => ?_)
  · replace hf := mx_ift hc111 hf
    refine lv_aload_n hx hb dX7_scan_127 rfl (lv_at hl 0 rfl) ?_
    refine gX7_33 C hM (xt_3 hT) (f := (2, 1)) rfl (v := .ref (E.2.1.2.1 1)) rfl dX7_scan_128 ?_
    refine lv_iload_n hx hb dX7_scan_131 rfl (lv_at hl 1 rfl) ?_
    obtain ⟨q132, hq132, hf⟩ := mx_bd hf
    refine mx_callVN C hM hl.1 yo_X10_at (h' := 0) (by decide) (nw_505 hT C) qw_507 qs_5 (ci := 10) (q := (RX10, TX10, 2)) rfl (xt_1 hT) (As := [.int i2]) (rest := []) (st1 := [.int q132]) (kX10_at C.2.2.2.1 i2 hT M hq132) rfl rfl rfl (Nat.le_of_ble_eq_true rfl) dX7_scan_132 (fun H locs hM => ?_)
    obtain ⟨q135, hq135, hf⟩ := mx_bd hf
    refine mx_callS C hM hl.1 yo_X7_isLetter (h' := 0) (by decide) qw_512 qw_513 (As := [.int q132]) (rest := []) (st1 := [.int (mx_b q135)]) (kX7_isLetter C.2.2.2.1 q132 hT M hq135) rfl rfl rfl (Nat.le_of_ble_eq_true rfl) dX7_scan_135 (fun H locs hM => ?_)
    refine lv_if_ne (tgt := 155) hx hb dX7_scan_138 (by decide) (fun hc138 => ?_) (fun hc138 => ?_)
    · replace hf := mx_iff hc138 hf
      exact wfX7_scan_155 C i1 hT i2 M _ _ _ hf hM (lv_sub hl [0, 1] rfl)
    · replace hf := mx_ift hc138 hf
      refine lv_aload_n hx hb dX7_scan_141 rfl (lv_at hl 0 rfl) ?_
      refine gX7_33 C hM (xt_3 hT) (f := (2, 1)) rfl (v := .ref (E.2.1.2.1 1)) rfl dX7_scan_142 ?_
      refine lv_iload_n hx hb dX7_scan_145 rfl (lv_at hl 1 rfl) ?_
      obtain ⟨q146, hq146, hf⟩ := mx_bd hf
      refine mx_callVN C hM hl.1 yo_X10_at (h' := 0) (by decide) (nw_505 hT C) qw_507 qs_5 (ci := 10) (q := (RX10, TX10, 2)) rfl (xt_1 hT) (As := [.int i2]) (rest := []) (st1 := [.int q146]) (kX10_at C.2.2.2.1 i2 hT M hq146) rfl rfl rfl (Nat.le_of_ble_eq_true rfl) dX7_scan_146 (fun H locs hM => ?_)
      obtain ⟨q149, hq149, hf⟩ := mx_bd hf
      refine mx_callS C hM hl.1 yo_X7_isDigit (h' := 0) (by decide) qw_515 qw_516 (As := [.int q146]) (rest := []) (st1 := [.int (mx_b q149)]) (kX7_isDigit C.2.2.2.1 q146 hT M hq149) rfl rfl rfl (Nat.le_of_ble_eq_true rfl) dX7_scan_149 (fun H locs hM => ?_)
      refine lv_if_eq (tgt := 164) hx hb dX7_scan_152 (by decide) (fun hc152 => ?_) (fun hc152 => ?_)
      · replace hf := mx_ift hc152 hf
        refine lv_aload_n hx hb dX7_scan_164 rfl (lv_at hl 0 rfl) ?_
        refine gX7_20 C hM (xt_3 hT) (f := (2, 6)) rfl (v := .ref (E.2.1.2.1 6)) rfl dX7_scan_165 ?_
        refine lv_aload_n hx hb dX7_scan_168 rfl (lv_at hl 0 rfl) ?_
        refine gX7_48 C hM (xt_3 hT) (f := (0, 0)) rfl (v := .int (M.1 3 6)) rfl dX7_scan_169 ?_
        refine lv_aload_n hx hb dX7_scan_172 rfl (lv_at hl 0 rfl) ?_
        refine gX7_33 C hM (xt_3 hT) (f := (2, 1)) rfl (v := .ref (E.2.1.2.1 1)) rfl dX7_scan_173 ?_
        refine lv_iload_n hx hb dX7_scan_176 rfl (lv_at hl 1 rfl) ?_
        obtain ⟨q177, hq177, hf⟩ := mx_bd hf
        refine mx_callVN C hM hl.1 yo_X10_at (h' := 0) (by decide) (nw_505 hT C) qw_507 qs_5 (ci := 10) (q := (RX10, TX10, 2)) rfl (xt_1 hT) (As := [.int i2]) (rest := [.int (M.1 3 6), .ref (E.2.1.2.1 6)]) (st1 := [.int q177, .int (M.1 3 6), .ref (E.2.1.2.1 6)]) (kX10_at C.2.2.2.1 i2 hT M hq177) rfl rfl rfl (Nat.le_of_ble_eq_true rfl) dX7_scan_177 (fun H locs hM => ?_)
        obtain ⟨hg180, hf⟩ := mx_gd hf
        refine mx_iast C hM (xt_6 hT) (mx_in_vp hg180) dX7_scan_180 (fun H locs hM => ?_)
        refine lv_aload_n hx hb dX7_scan_181 rfl (lv_at hl 0 rfl) ?_
        refine gX7_13 C hM (xt_3 hT) (f := (2, 4)) rfl (v := .ref (E.2.1.2.1 4)) rfl dX7_scan_182 ?_
        refine lv_aload_n hx hb dX7_scan_185 rfl (lv_at hl 0 rfl) ?_
        refine gX7_48 C hM (xt_3 hT) (f := (0, 0)) rfl (v := .int ((mx_si M 6 (M.1 3 6).toNatClampNeg q177).1 3 6)) rfl dX7_scan_186 ?_
        refine lv_iconst (v := (5 : Int32)) hx hb dX7_scan_189 (by decide) ?_
        obtain ⟨hg190, hf⟩ := mx_gd hf
        refine mx_iast C hM (xt_4 hT) (mx_in_vp hg190) dX7_scan_190 (fun H locs hM => ?_)
        refine lv_iinc (v := (i2 + (1 : Int32))) (lv' := [(2, .int (i2 + (1 : Int32))), (0, .ref (E.2.1.2.1 3))]) hx hb dX7_scan_191 hl (k := 1) rfl rfl (by decide) rfl (fun ls hl => ?_)
        refine lv_iload_n hx hb dX7_scan_194 rfl (lv_at hl 0 rfl) ?_
        exact mx_iret C hM hf dX7_scan_195
      · replace hf := mx_iff hc152 hf
        exact wfX7_scan_155 C i1 hT i2 M _ _ _ hf hM (lv_sub hl [0, 1] rfl)
  · replace hf := mx_iff hc111 hf
    refine lv_aload_n hx hb dX7_scan_114 rfl (lv_at hl 0 rfl) ?_
    refine gX7_13 C hM (xt_3 hT) (f := (2, 4)) rfl (v := .ref (E.2.1.2.1 4)) rfl dX7_scan_115 ?_
    refine lv_aload_n hx hb dX7_scan_118 rfl (lv_at hl 0 rfl) ?_
    refine gX7_48 C hM (xt_3 hT) (f := (0, 0)) rfl (v := .int (M.1 3 6)) rfl dX7_scan_119 ?_
    refine lv_iconst (v := (1 : Int32)) hx hb dX7_scan_122 (by decide) ?_
    obtain ⟨hg123, hf⟩ := mx_gd hf
    refine mx_iast C hM (xt_4 hT) (mx_in_vp hg123) dX7_scan_123 (fun H locs hM => ?_)
    refine lv_goto (tgt := 194) hx hb dX7_scan_124 (by decide) ?_
    refine lv_iload_n hx hb dX7_scan_194 rfl (lv_at hl 1 rfl) ?_
    exact mx_iret C hM hf dX7_scan_195
set_option maxRecDepth 100000 in
set_option maxHeartbeats 4000000 in
theorem wfX7_scan_33 {E : KE} {p : Program} {l : Launch} {e : Env} {s : State} {m : MethodId} {args : Array Value} {below : List Frame} {meth : Method} {c : Code} {q : (Int32 × MM)} (C : mx_C E p m c cX7_scan 3 s args RX7 meth (some .int)) (i1 : Int32) (hT : xOK E)   : ∀ (i2 : Int32) (M : MM) (H : Heap) (locs : List Loc) (ls : Array Slot), fX7_scan_33 i1 i2 M = some q → mx_H E s M H locs → lv_has ls 3 [(0, .ref (E.2.1.2.1 3)), (2, .int i2)] → W p l e (mx_rm 2) s m args below meth c H locs 0 0 (mx_Z E below args s (some (.int q.1)) q.2) (F0 m 33 ls []) := by
  have hx := C.1.1
  have hb := C.1.2.1
  have hown := C.1.2.2.2.1
  have hts := C.1.2.2.2.2
  intro i2 M H locs ls hf hM hl
  rw [fX7_scan_33] at hf
  refine lv_aload_n hx hb dX7_scan_33 rfl (lv_at hl 0 rfl) ?_
  refine gX7_17 C hM (xt_3 hT) (f := (2, 5)) rfl (v := .ref (E.2.1.2.1 5)) rfl dX7_scan_34 ?_
  refine lv_aload_n hx hb dX7_scan_37 rfl (lv_at hl 0 rfl) ?_
  refine gX7_48 C hM (xt_3 hT) (f := (0, 0)) rfl (v := .int (M.1 3 6)) rfl dX7_scan_38 ?_
  refine lv_iload_n hx hb dX7_scan_41 rfl (lv_at hl 1 rfl) ?_
  obtain ⟨hg42, hf⟩ := mx_gd hf
  refine mx_iast C hM (xt_5 hT) (mx_in_vp hg42) dX7_scan_42 (fun H locs hM => ?_)
  refine lv_aload_n hx hb dX7_scan_43 rfl (lv_at hl 0 rfl) ?_
  refine gX7_29 C hM (xt_3 hT) (f := (2, 8)) rfl (v := .ref (E.2.1.2.1 8)) rfl dX7_scan_44 ?_
  refine lv_aload_n hx hb dX7_scan_47 rfl (lv_at hl 0 rfl) ?_
  refine gX7_48 C hM (xt_3 hT) (f := (0, 0)) rfl (v := .int ((mx_si M 5 (M.1 3 6).toNatClampNeg i2).1 3 6)) rfl dX7_scan_48 ?_
  refine xw_get C hT (w := 0) (by decide) hM (hts _ qw_60) dX7_scan_51 ?_
  obtain ⟨hg54, hf⟩ := mx_gd hf
  refine xw_aast C hT hM (xt_8 hT) (by decide) (j := ((mx_si M 5 (M.1 3 6).toNatClampNeg i2).1 3 6).toNatClampNeg) rfl (mx_in_vp hg54) dX7_scan_54 (fun H locs hM => ?_)
  refine lv_aload_n hx hb dX7_scan_55 rfl (lv_at hl 0 rfl) ?_
  refine gX7_33 C hM (xt_3 hT) (f := (2, 1)) rfl (v := .ref (E.2.1.2.1 1)) rfl dX7_scan_56 ?_
  refine gX7_61 C hT hM (xt_1 hT) (f := (0, 0)) rfl (v := .int ((mx_sr (mx_si M 5 (M.1 3 6).toNatClampNeg i2) 8 (((mx_si M 5 (M.1 3 6).toNatClampNeg i2).1 3 6).toNatClampNeg) 0).1 1 1)) rfl dX7_scan_59 ?_
  refine lv_aload_n hx hb dX7_scan_62 rfl (lv_at hl 0 rfl) ?_
  refine gX7_41 C hM (xt_3 hT) (f := (0, 0)) rfl (v := .int ((mx_sr (mx_si M 5 (M.1 3 6).toNatClampNeg i2) 8 (((mx_si M 5 (M.1 3 6).toNatClampNeg i2).1 3 6).toNatClampNeg) 0).1 3 8)) rfl dX7_scan_63 ?_
  refine lv_icmp_le (tgt := 103) hx hb dX7_scan_66 (by decide) (fun hc66 => ?_) (fun hc66 => ?_)
  · replace hf := mx_ift hc66 hf
    exact wfX7_scan_103 C i1 hT i2 (mx_sr (mx_si M 5 (M.1 3 6).toNatClampNeg i2) 8 (((mx_si M 5 (M.1 3 6).toNatClampNeg i2).1 3 6).toNatClampNeg) 0) _ _ _ hf hM (lv_sub hl [0, 1] rfl)
  · replace hf := mx_iff hc66 hf
    refine lv_iload_n hx hb dX7_scan_69 rfl (lv_at hl 1 rfl) ?_
    refine lv_aload_n hx hb dX7_scan_70 rfl (lv_at hl 0 rfl) ?_
    refine gX7_41 C hM (xt_3 hT) (f := (0, 0)) rfl (v := .int ((mx_sr (mx_si M 5 (M.1 3 6).toNatClampNeg i2) 8 (((mx_si M 5 (M.1 3 6).toNatClampNeg i2).1 3 6).toNatClampNeg) 0).1 3 8)) rfl dX7_scan_71 ?_
    refine lv_icmp_lt (tgt := 103) hx hb dX7_scan_74 (by decide) (fun hc74 => ?_) (fun hc74 => ?_)
    · replace hf := mx_ift hc74 hf
      exact wfX7_scan_103 C i1 hT i2 (mx_sr (mx_si M 5 (M.1 3 6).toNatClampNeg i2) 8 (((mx_si M 5 (M.1 3 6).toNatClampNeg i2).1 3 6).toNatClampNeg) 0) _ _ _ hf hM (lv_sub hl [0, 1] rfl)
    · replace hf := mx_iff hc74 hf
      refine lv_aload_n hx hb dX7_scan_77 rfl (lv_at hl 0 rfl) ?_
      refine gX7_17 C hM (xt_3 hT) (f := (2, 5)) rfl (v := .ref (E.2.1.2.1 5)) rfl dX7_scan_78 ?_
      refine lv_aload_n hx hb dX7_scan_81 rfl (lv_at hl 0 rfl) ?_
      refine gX7_48 C hM (xt_3 hT) (f := (0, 0)) rfl (v := .int ((mx_sr (mx_si M 5 (M.1 3 6).toNatClampNeg i2) 8 (((mx_si M 5 (M.1 3 6).toNatClampNeg i2).1 3 6).toNatClampNeg) 0).1 3 6)) rfl dX7_scan_82 ?_
      refine lv_aload_n hx hb dX7_scan_85 rfl (lv_at hl 0 rfl) ?_
      refine gX7_41 C hM (xt_3 hT) (f := (0, 0)) rfl (v := .int ((mx_sr (mx_si M 5 (M.1 3 6).toNatClampNeg i2) 8 (((mx_si M 5 (M.1 3 6).toNatClampNeg i2).1 3 6).toNatClampNeg) 0).1 3 8)) rfl dX7_scan_86 ?_
      obtain ⟨hg89, hf⟩ := mx_gd hf
      refine mx_iast C hM (xt_5 hT) (mx_in_vp hg89) dX7_scan_89 (fun H locs hM => ?_)
      refine lv_aload_n hx hb dX7_scan_90 rfl (lv_at hl 0 rfl) ?_
      refine gX7_13 C hM (xt_3 hT) (f := (2, 4)) rfl (v := .ref (E.2.1.2.1 4)) rfl dX7_scan_91 ?_
      refine lv_aload_n hx hb dX7_scan_94 rfl (lv_at hl 0 rfl) ?_
      refine gX7_48 C hM (xt_3 hT) (f := (0, 0)) rfl (v := .int ((mx_si (mx_sr (mx_si M 5 (M.1 3 6).toNatClampNeg i2) 8 (((mx_si M 5 (M.1 3 6).toNatClampNeg i2).1 3 6).toNatClampNeg) 0) 5 ((mx_sr (mx_si M 5 (M.1 3 6).toNatClampNeg i2) 8 (((mx_si M 5 (M.1 3 6).toNatClampNeg i2).1 3 6).toNatClampNeg) 0).1 3 6).toNatClampNeg ((mx_sr (mx_si M 5 (M.1 3 6).toNatClampNeg i2) 8 (((mx_si M 5 (M.1 3 6).toNatClampNeg i2).1 3 6).toNatClampNeg) 0).1 3 8)).1 3 6)) rfl dX7_scan_95 ?_
      refine lv_iconst (v := (0 : Int32)) hx hb dX7_scan_98 (by decide) ?_
      obtain ⟨hg99, hf⟩ := mx_gd hf
      refine mx_iast C hM (xt_4 hT) (mx_in_vp hg99) dX7_scan_99 (fun H locs hM => ?_)
      refine lv_goto (tgt := 194) hx hb dX7_scan_100 (by decide) ?_
      refine lv_iload_n hx hb dX7_scan_194 rfl (lv_at hl 1 rfl) ?_
      exact mx_iret C hM hf dX7_scan_195
set_option maxRecDepth 100000 in
set_option maxHeartbeats 4000000 in
theorem wfX7_scan_2 {E : KE} {p : Program} {l : Launch} {e : Env} {s : State} {m : MethodId} {args : Array Value} {below : List Frame} {meth : Method} {c : Code} {q : (Int32 × MM)} (C : mx_C E p m c cX7_scan 3 s args RX7 meth (some .int)) (i1 : Int32) (hT : xOK E)   : ∀ (n : Nat) (i2 : Int32) (M : MM) (H : Heap) (locs : List Loc) (ls : Array Slot), fX7_scan_2 i1 n i2 M = some q → mx_H E s M H locs → lv_has ls 3 [(0, .ref (E.2.1.2.1 3)), (2, .int i2)] → W p l e (mx_rm 2) s m args below meth c H locs 0 0 (mx_Z E below args s (some (.int q.1)) q.2) (F0 m 2 ls []) := by
  have hx := C.1.1
  have hb := C.1.2.1
  have hown := C.1.2.2.2.1
  have hts := C.1.2.2.2.2
  intro n
  induction n with
  | zero =>
    intro i2 M H locs ls hf hM hl
    rw [fX7_scan_2] at hf
    cases hf
  | succ n ih =>
    intro i2 M H locs ls hf hM hl
    rw [fX7_scan_2] at hf
    refine lv_iload_n hx hb dX7_scan_2 rfl (lv_at hl 1 rfl) ?_
    refine lv_aload_n hx hb dX7_scan_3 rfl (lv_at hl 0 rfl) ?_
    refine gX7_33 C hM (xt_3 hT) (f := (2, 1)) rfl (v := .ref (E.2.1.2.1 1)) rfl dX7_scan_4 ?_
    refine gX7_61 C hT hM (xt_1 hT) (f := (0, 0)) rfl (v := .int (M.1 1 1)) rfl dX7_scan_7 ?_
    refine lv_icmp_ge (tgt := 33) hx hb dX7_scan_10 (by decide) (fun hc10 => ?_) (fun hc10 => ?_)
    · replace hf := mx_ift hc10 hf
      exact wfX7_scan_33 C i1 hT i2 M _ _ _ hf hM (lv_sub hl [0, 1] rfl)
    · replace hf := mx_iff hc10 hf
      refine lv_aload_n hx hb dX7_scan_13 rfl (lv_at hl 0 rfl) ?_
      refine gX7_33 C hM (xt_3 hT) (f := (2, 1)) rfl (v := .ref (E.2.1.2.1 1)) rfl dX7_scan_14 ?_
      refine lv_iload_n hx hb dX7_scan_17 rfl (lv_at hl 1 rfl) ?_
      obtain ⟨q18, hq18, hf⟩ := mx_bd hf
      refine mx_callVN C hM hl.1 yo_X10_at (h' := 0) (by decide) (nw_505 hT C) qw_507 qs_5 (ci := 10) (q := (RX10, TX10, 2)) rfl (xt_1 hT) (As := [.int i2]) (rest := []) (st1 := [.int q18]) (kX10_at C.2.2.2.1 i2 hT M hq18) rfl rfl rfl (Nat.le_of_ble_eq_true rfl) dX7_scan_18 (fun H locs hM => ?_)
      obtain ⟨q21, hq21, hf⟩ := mx_bd hf
      refine mx_callS C hM hl.1 yo_X7_isBlank (h' := 0) (by decide) qw_509 qw_510 (As := [.int q18]) (rest := []) (st1 := [.int (mx_b q21)]) (kX7_isBlank C.2.2.2.1 q18 hT M hq21) rfl rfl rfl (Nat.le_of_ble_eq_true rfl) dX7_scan_21 (fun H locs hM => ?_)
      refine lv_if_eq (tgt := 33) hx hb dX7_scan_24 (by decide) (fun hc24 => ?_) (fun hc24 => ?_)
      · replace hf := mx_ift hc24 hf
        exact wfX7_scan_33 C i1 hT i2 M _ _ _ hf hM (lv_sub hl [0, 1] rfl)
      · replace hf := mx_iff hc24 hf
        refine lv_iinc (v := (i2 + (1 : Int32))) (lv' := [(2, .int (i2 + (1 : Int32))), (0, .ref (E.2.1.2.1 3))]) hx hb dX7_scan_27 hl (k := 1) rfl rfl (by decide) rfl (fun ls hl => ?_)
        refine lv_goto (tgt := 2) hx hb dX7_scan_30 (by decide) ?_
        exact ih (i2 + (1 : Int32)) M _ _ _ hf hM (lv_sub hl [1, 0] rfl)
set_option maxRecDepth 100000 in
set_option maxHeartbeats 4000000 in
theorem kX7_scan {E : KE} {l : Launch} (hE : mx_ok E) (i1 : Int32) (hT : xOK E) (M : MM) {q : (Int32 × MM)} (hf : fX7_scan i1 M = some q) : mx_Met E l yX7_scan cX7_scan 3 (some .int) 2 [.ref (E.2.1.2.1 3), .int i1] M (some (.int q.1)) q.2 := by
  refine mx_enter hE (by decide) (Nat.le_of_ble_eq_true rfl) ?_
  intro p e s m below meth c C hM hn ls hl
  have hx := C.1.1
  have hb := C.1.2.1
  have hown := C.1.2.2.2.1
  have hts := C.1.2.2.2.2
  have hl : lv_has ls 3 [(0, .ref (E.2.1.2.1 3)), (1, .int i1)] := hl
  rw [fX7_scan] at hf
  refine lv_iload_n hx hb dX7_scan_0 rfl (lv_at hl 1 rfl) ?_
  refine lv_istore_n (lv' := [(2, .int i1), (0, .ref (E.2.1.2.1 3)), (1, .int i1)]) hx hb dX7_scan_1 rfl hl (by decide) rfl (fun ls hl => ?_)
  exact wfX7_scan_2 C i1 hT mx_fu i1 M _ _ _ hf hM (lv_sub hl [1, 0] rfl)
theorem dX7_open_0 : decode cX7_open 0 = .ok (.aload_n 0, 1) := by decide +kernel
theorem dX7_open_1 : decode cX7_open 1 = .ok (.iload_n 1, 1) := by decide +kernel
theorem dX7_open_2 : decode cX7_open 2 = .ok (.putfield 41, 3) := by decide +kernel
theorem dX7_open_5 : decode cX7_open 5 = .ok (.aload_n 0, 1) := by decide +kernel
theorem dX7_open_6 : decode cX7_open 6 = .ok (.iconst 0, 1) := by decide +kernel
theorem dX7_open_7 : decode cX7_open 7 = .ok (.putfield 45, 3) := by decide +kernel
theorem dX7_open_10 : decode cX7_open 10 = .ok (.aload_n 0, 1) := by decide +kernel
theorem dX7_open_11 : decode cX7_open 11 = .ok (.iconst 0, 1) := by decide +kernel
theorem dX7_open_12 : decode cX7_open 12 = .ok (.putfield 48, 3) := by decide +kernel
theorem dX7_open_15 : decode cX7_open 15 = .ok (.aload_n 0, 1) := by decide +kernel
theorem dX7_open_16 : decode cX7_open 16 = .ok (.iconst 0, 1) := by decide +kernel
theorem dX7_open_17 : decode cX7_open 17 = .ok (.putfield 51, 3) := by decide +kernel
theorem dX7_open_20 : decode cX7_open 20 = .ok (.aload_n 0, 1) := by decide +kernel
theorem dX7_open_21 : decode cX7_open 21 = .ok (.iconst 0, 1) := by decide +kernel
theorem dX7_open_22 : decode cX7_open 22 = .ok (.putfield 54, 3) := by decide +kernel
theorem dX7_open_25 : decode cX7_open 25 = .ok (.iconst 0, 1) := by decide +kernel
theorem dX7_open_26 : decode cX7_open 26 = .ok (.istore_n 2, 1) := by decide +kernel
theorem dX7_open_27 : decode cX7_open 27 = .ok (.iconst 1, 1) := by decide +kernel
theorem dX7_open_28 : decode cX7_open 28 = .ok (.istore_n 3, 1) := by decide +kernel
theorem dX7_open_29 : decode cX7_open 29 = .ok (.iload_n 3, 1) := by decide +kernel
theorem dX7_open_30 : decode cX7_open 30 = .ok (.ifCond .eq 63, 3) := by decide +kernel
theorem dX7_open_33 : decode cX7_open 33 = .ok (.aload_n 0, 1) := by decide +kernel
theorem dX7_open_34 : decode cX7_open 34 = .ok (.getfield 48, 3) := by decide +kernel
theorem dX7_open_37 : decode cX7_open 37 = .ok (.sipush 941, 3) := by decide +kernel
theorem dX7_open_40 : decode cX7_open 40 = .ok (.if_icmp .ge 53, 3) := by decide +kernel
theorem dX7_open_43 : decode cX7_open 43 = .ok (.aload_n 0, 1) := by decide +kernel
theorem dX7_open_44 : decode cX7_open 44 = .ok (.iload_n 2, 1) := by decide +kernel
theorem dX7_open_45 : decode cX7_open 45 = .ok (.invokevirtual 57, 3) := by decide +kernel
theorem dX7_open_48 : decode cX7_open 48 = .ok (.istore_n 2, 1) := by decide +kernel
theorem dX7_open_49 : decode cX7_open 49 = .ok (.aload_n 0, 1) := by decide +kernel
theorem dX7_open_50 : decode cX7_open 50 = .ok (.getfield 13, 3) := by decide +kernel
theorem dX7_open_53 : decode cX7_open 53 = .ok (.aload_n 0, 1) := by decide +kernel
theorem dX7_open_54 : decode cX7_open 54 = .ok (.getfield 48, 3) := by decide +kernel
theorem dX7_open_57 : decode cX7_open 57 = .ok (.iaload, 1) := by decide +kernel
theorem dX7_open_58 : decode cX7_open 58 = .ok (.ifCond .eq 20, 3) := by decide +kernel
theorem dX7_open_61 : decode cX7_open 61 = .ok (.aload_n 0, 1) := by decide +kernel
theorem dX7_open_62 : decode cX7_open 62 = .ok (.getfield 13, 3) := by decide +kernel
theorem dX7_open_65 : decode cX7_open 65 = .ok (.aload_n 0, 1) := by decide +kernel
theorem dX7_open_66 : decode cX7_open 66 = .ok (.getfield 48, 3) := by decide +kernel
theorem dX7_open_69 : decode cX7_open 69 = .ok (.iaload, 1) := by decide +kernel
theorem dX7_open_70 : decode cX7_open 70 = .ok (.iconst 1, 1) := by decide +kernel
theorem dX7_open_71 : decode cX7_open 71 = .ok (.if_icmp .eq 7, 3) := by decide +kernel
theorem dX7_open_74 : decode cX7_open 74 = .ok (.iconst 1, 1) := by decide +kernel
theorem dX7_open_75 : decode cX7_open 75 = .ok (.goto 4, 3) := by decide +kernel
theorem dX7_open_78 : decode cX7_open 78 = .ok (.iconst 0, 1) := by decide +kernel
theorem dX7_open_79 : decode cX7_open 79 = .ok (.istore_n 3, 1) := by decide +kernel
theorem dX7_open_80 : decode cX7_open 80 = .ok (.aload_n 0, 1) := by decide +kernel
theorem dX7_open_81 : decode cX7_open 81 = .ok (.dup, 1) := by decide +kernel
theorem dX7_open_82 : decode cX7_open 82 = .ok (.getfield 48, 3) := by decide +kernel
theorem dX7_open_85 : decode cX7_open 85 = .ok (.iconst 1, 1) := by decide +kernel
theorem dX7_open_86 : decode cX7_open 86 = .ok (.iadd, 1) := by decide +kernel
theorem dX7_open_87 : decode cX7_open 87 = .ok (.putfield 48, 3) := by decide +kernel
theorem dX7_open_90 : decode cX7_open 90 = .ok (.goto (-61), 3) := by decide +kernel
theorem dX7_open_93 : decode cX7_open 93 = .ok (.return_, 1) := by decide +kernel
set_option maxRecDepth 100000 in
set_option maxHeartbeats 4000000 in
theorem wfX7_open_79 {E : KE} {p : Program} {l : Launch} {e : Env} {s : State} {m : MethodId} {args : Array Value} {below : List Frame} {meth : Method} {c : Code} {q : MM} (C : mx_C E p m c cX7_open 4 s args RX7 meth none) (i1 : Int32) (hT : xOK E)  (k29 : Int32 → Bool → MM → Option MM) (hk29 : ∀ (i2 : Int32) (b3 : Bool) (M : MM) (H : Heap) (locs : List Loc) (ls : Array Slot), k29 i2 b3 M = some q → mx_H E s M H locs → lv_has ls 4 [(0, .ref (E.2.1.2.1 3)), (2, .int i2), (3, .int (mx_b b3))] → W p l e (mx_rm 3) s m args below meth c H locs 0 0 (mx_Z E below args s none q) (F0 m 29 ls [])) : ∀ (i2 : Int32) (bs0 : Bool) (M : MM) (H : Heap) (locs : List Loc) (ls : Array Slot), fX7_open_79 i1 k29 i2 bs0 M = some q → mx_H E s M H locs → lv_has ls 4 [(0, .ref (E.2.1.2.1 3)), (2, .int i2)] → W p l e (mx_rm 3) s m args below meth c H locs 0 0 (mx_Z E below args s none q) (F0 m 79 ls [.int (mx_b bs0)]) := by
  have hx := C.1.1
  have hb := C.1.2.1
  have hown := C.1.2.2.2.1
  have hts := C.1.2.2.2.2
  intro i2 bs0 M H locs ls hf hM hl
  rw [fX7_open_79] at hf
  refine lv_istore_n (lv' := [(3, .int (mx_b bs0)), (0, .ref (E.2.1.2.1 3)), (2, .int i2)]) hx hb dX7_open_79 rfl hl (by decide) rfl (fun ls hl => ?_)
  refine lv_aload_n hx hb dX7_open_80 rfl (lv_at hl 1 rfl) ?_
  refine lv_dup hx hb dX7_open_81 rfl ?_
  refine gX7_48 C hM (xt_3 hT) (f := (0, 0)) rfl (v := .int (M.1 3 6)) rfl dX7_open_82 ?_
  refine lv_iconst (v := (1 : Int32)) hx hb dX7_open_85 (by decide) ?_
  refine lv_iadd hx hb dX7_open_86 ?_
  refine pX7_48 C hM (xt_3 hT) rfl rfl rfl dX7_open_87 (fun H locs hM => ?_)
  refine lv_goto (tgt := 29) hx hb dX7_open_90 (by decide) ?_
  exact hk29 i2 bs0 (mx_si M 3 6 ((M.1 3 6) + (1 : Int32))) _ _ _ hf hM (lv_sub hl [1, 2, 0] rfl)
set_option maxRecDepth 100000 in
set_option maxHeartbeats 4000000 in
theorem wfX7_open_78 {E : KE} {p : Program} {l : Launch} {e : Env} {s : State} {m : MethodId} {args : Array Value} {below : List Frame} {meth : Method} {c : Code} {q : MM} (C : mx_C E p m c cX7_open 4 s args RX7 meth none) (i1 : Int32) (hT : xOK E)  (k79 : Int32 → Bool → MM → Option MM) (hk79 : ∀ (i2 : Int32) (bs0 : Bool) (M : MM) (H : Heap) (locs : List Loc) (ls : Array Slot), k79 i2 bs0 M = some q → mx_H E s M H locs → lv_has ls 4 [(0, .ref (E.2.1.2.1 3)), (2, .int i2)] → W p l e (mx_rm 3) s m args below meth c H locs 0 0 (mx_Z E below args s none q) (F0 m 79 ls [.int (mx_b bs0)])) : ∀ (i2 : Int32) (M : MM) (H : Heap) (locs : List Loc) (ls : Array Slot), fX7_open_78 i1 k79 i2 M = some q → mx_H E s M H locs → lv_has ls 4 [(0, .ref (E.2.1.2.1 3)), (2, .int i2)] → W p l e (mx_rm 3) s m args below meth c H locs 0 0 (mx_Z E below args s none q) (F0 m 78 ls []) := by
  have hx := C.1.1
  have hb := C.1.2.1
  have hown := C.1.2.2.2.1
  have hts := C.1.2.2.2.2
  intro i2 M H locs ls hf hM hl
  rw [fX7_open_78] at hf
  refine lv_iconst (v := (0 : Int32)) hx hb dX7_open_78 (by decide) ?_
  exact hk79 i2 false M _ _ _ hf hM (lv_sub hl [0, 1] rfl)
set_option maxRecDepth 100000 in
set_option maxHeartbeats 4000000 in
theorem wfX7_open_29 {E : KE} {p : Program} {l : Launch} {e : Env} {s : State} {m : MethodId} {args : Array Value} {below : List Frame} {meth : Method} {c : Code} {q : MM} (C : mx_C E p m c cX7_open 4 s args RX7 meth none) (i1 : Int32) (hT : xOK E)   : ∀ (n : Nat) (i2 : Int32) (b3 : Bool) (M : MM) (H : Heap) (locs : List Loc) (ls : Array Slot), fX7_open_29 i1 n i2 b3 M = some q → mx_H E s M H locs → lv_has ls 4 [(0, .ref (E.2.1.2.1 3)), (2, .int i2), (3, .int (mx_b b3))] → W p l e (mx_rm 3) s m args below meth c H locs 0 0 (mx_Z E below args s none q) (F0 m 29 ls []) := by
  have hx := C.1.1
  have hb := C.1.2.1
  have hown := C.1.2.2.2.1
  have hts := C.1.2.2.2.2
  intro n
  induction n with
  | zero =>
    intro i2 b3 M H locs ls hf hM hl
    rw [fX7_open_29] at hf
    cases hf
  | succ n ih =>
    intro i2 b3 M H locs ls hf hM hl
    rw [fX7_open_29] at hf
    refine lv_iload_n hx hb dX7_open_29 rfl (lv_at hl 2 rfl) ?_
    refine lv_if_eq (tgt := 93) hx hb dX7_open_30 (by decide) (fun hc30 => ?_) (fun hc30 => ?_)
    · replace hf := mx_ift hc30 hf
      exact mx_vret C hM hf dX7_open_93
    · replace hf := mx_iff hc30 hf
      refine lv_aload_n hx hb dX7_open_33 rfl (lv_at hl 0 rfl) ?_
      refine gX7_48 C hM (xt_3 hT) (f := (0, 0)) rfl (v := .int (M.1 3 6)) rfl dX7_open_34 ?_
      refine lv_sipush (v := (941 : Int32)) hx hb dX7_open_37 (by decide) ?_
      refine lv_icmp_ge (tgt := 93) hx hb dX7_open_40 (by decide) (fun hc40 => ?_) (fun hc40 => ?_)
      · replace hf := mx_ift hc40 hf
        exact mx_vret C hM hf dX7_open_93
      · replace hf := mx_iff hc40 hf
        refine lv_aload_n hx hb dX7_open_43 rfl (lv_at hl 0 rfl) ?_
        refine lv_iload_n hx hb dX7_open_44 rfl (lv_at hl 1 rfl) ?_
        obtain ⟨q45, hq45, hf⟩ := mx_bd hf
        refine mx_callV C hM hl.1 yo_X7_scan (h' := 2) (by decide) qw_501 qw_503 qs_4 (ci := 7) (q := (RX7, TX7, 12)) rfl (xt_3 hT) (As := [.int i2]) (rest := []) (st1 := [.int q45.1]) (kX7_scan C.2.2.2.1 i2 hT M hq45) rfl rfl rfl (Nat.le_of_ble_eq_true rfl) dX7_open_45 (fun H locs hM => ?_)
        refine lv_istore_n (lv' := [(2, .int q45.1), (0, .ref (E.2.1.2.1 3)), (3, .int (mx_b b3))]) hx hb dX7_open_48 rfl hl (by decide) rfl (fun ls hl => ?_)
        refine lv_aload_n hx hb dX7_open_49 rfl (lv_at hl 1 rfl) ?_
        refine gX7_13 C hM (xt_3 hT) (f := (2, 4)) rfl (v := .ref (E.2.1.2.1 4)) rfl dX7_open_50 ?_
        refine lv_aload_n hx hb dX7_open_53 rfl (lv_at hl 1 rfl) ?_
        refine gX7_48 C hM (xt_3 hT) (f := (0, 0)) rfl (v := .int (q45.2.1 3 6)) rfl dX7_open_54 ?_
        obtain ⟨hg57, hf⟩ := mx_gd hf
        refine mx_iald C hM (xt_4 hT) (mx_in_vp hg57) dX7_open_57 ?_
        refine lv_if_eq (tgt := 78) hx hb dX7_open_58 (by decide) (fun hc58 => ?_) (fun hc58 => ?_)
        · replace hf := mx_ift hc58 hf
          exact wfX7_open_78 C i1 hT (fun i2' bs0' M' => fX7_open_79 i1 (fX7_open_29 i1 n) i2' bs0' M') (fun i2' bs0' M' H locs ls hf hM hl => wfX7_open_79 C i1 hT (fX7_open_29 i1 n) ih i2' bs0' M' H locs ls hf hM hl) q45.1 q45.2 _ _ _ hf hM (lv_sub hl [1, 0] rfl)
        · replace hf := mx_iff hc58 hf
          refine lv_aload_n hx hb dX7_open_61 rfl (lv_at hl 1 rfl) ?_
          refine gX7_13 C hM (xt_3 hT) (f := (2, 4)) rfl (v := .ref (E.2.1.2.1 4)) rfl dX7_open_62 ?_
          refine lv_aload_n hx hb dX7_open_65 rfl (lv_at hl 1 rfl) ?_
          refine gX7_48 C hM (xt_3 hT) (f := (0, 0)) rfl (v := .int (q45.2.1 3 6)) rfl dX7_open_66 ?_
          obtain ⟨hg69, hf⟩ := mx_gd hf
          refine mx_iald C hM (xt_4 hT) (mx_in_vp hg69) dX7_open_69 ?_
          refine lv_iconst (v := (1 : Int32)) hx hb dX7_open_70 (by decide) ?_
          refine lv_icmp_eq (tgt := 78) hx hb dX7_open_71 (by decide) (fun hc71 => ?_) (fun hc71 => ?_)
          · replace hf := mx_ift hc71 hf
            exact wfX7_open_78 C i1 hT (fun i2' bs0' M' => fX7_open_79 i1 (fX7_open_29 i1 n) i2' bs0' M') (fun i2' bs0' M' H locs ls hf hM hl => wfX7_open_79 C i1 hT (fX7_open_29 i1 n) ih i2' bs0' M' H locs ls hf hM hl) q45.1 q45.2 _ _ _ hf hM (lv_sub hl [1, 0] rfl)
          · replace hf := mx_iff hc71 hf
            refine lv_iconst (v := (1 : Int32)) hx hb dX7_open_74 (by decide) ?_
            refine lv_goto (tgt := 79) hx hb dX7_open_75 (by decide) ?_
            exact wfX7_open_79 C i1 hT (fX7_open_29 i1 n) ih q45.1 true q45.2 _ _ _ hf hM (lv_sub hl [1, 0] rfl)
set_option maxRecDepth 100000 in
set_option maxHeartbeats 4000000 in
theorem kX7_open {E : KE} {l : Launch} (hE : mx_ok E) (i1 : Int32) (hT : xOK E) (M : MM) {q : MM} (hf : fX7_open i1 M = some q) : mx_Met E l yX7_open cX7_open 4 none 3 [.ref (E.2.1.2.1 3), .int i1] M none q := by
  refine mx_enter hE (by decide) (Nat.le_of_ble_eq_true rfl) ?_
  intro p e s m below meth c C hM hn ls hl
  have hx := C.1.1
  have hb := C.1.2.1
  have hown := C.1.2.2.2.1
  have hts := C.1.2.2.2.2
  have hl : lv_has ls 4 [(0, .ref (E.2.1.2.1 3)), (1, .int i1)] := hl
  rw [fX7_open] at hf
  refine lv_aload_n hx hb dX7_open_0 rfl (lv_at hl 0 rfl) ?_
  refine lv_iload_n hx hb dX7_open_1 rfl (lv_at hl 1 rfl) ?_
  refine pX7_41 C hM (xt_3 hT) rfl rfl rfl dX7_open_2 (fun H locs hM => ?_)
  refine lv_aload_n hx hb dX7_open_5 rfl (lv_at hl 0 rfl) ?_
  refine lv_iconst (v := (0 : Int32)) hx hb dX7_open_6 (by decide) ?_
  refine pX7_45 C hM (xt_3 hT) rfl rfl rfl dX7_open_7 (fun H locs hM => ?_)
  refine lv_aload_n hx hb dX7_open_10 rfl (lv_at hl 0 rfl) ?_
  refine lv_iconst (v := (0 : Int32)) hx hb dX7_open_11 (by decide) ?_
  refine pX7_48 C hM (xt_3 hT) rfl rfl rfl dX7_open_12 (fun H locs hM => ?_)
  refine lv_aload_n hx hb dX7_open_15 rfl (lv_at hl 0 rfl) ?_
  refine lv_iconst (v := (0 : Int32)) hx hb dX7_open_16 (by decide) ?_
  refine pX7_51 C hM (xt_3 hT) rfl rfl rfl dX7_open_17 (fun H locs hM => ?_)
  refine lv_aload_n hx hb dX7_open_20 rfl (lv_at hl 0 rfl) ?_
  refine lv_iconst (v := (0 : Int32)) hx hb dX7_open_21 (by decide) ?_
  refine pX7_54 C hM (xt_3 hT) rfl rfl rfl dX7_open_22 (fun H locs hM => ?_)
  refine lv_iconst (v := (0 : Int32)) hx hb dX7_open_25 (by decide) ?_
  refine lv_istore_n (lv' := [(2, .int (0 : Int32)), (0, .ref (E.2.1.2.1 3)), (1, .int i1)]) hx hb dX7_open_26 rfl hl (by decide) rfl (fun ls hl => ?_)
  refine lv_iconst (v := (1 : Int32)) hx hb dX7_open_27 (by decide) ?_
  refine lv_istore_n (lv' := [(3, .int (1 : Int32)), (2, .int (0 : Int32)), (0, .ref (E.2.1.2.1 3)), (1, .int i1)]) hx hb dX7_open_28 rfl hl (by decide) rfl (fun ls hl => ?_)
  exact wfX7_open_29 C i1 hT mx_fu (0 : Int32) true (mx_si (mx_si (mx_si (mx_si (mx_si M 3 8 i1) 3 7 (0 : Int32)) 3 6 (0 : Int32)) 3 10 (0 : Int32)) 3 11 (0 : Int32)) _ _ _ hf hM (lv_sub hl [2, 1, 0] rfl)
theorem dX8_clear_0 : decode cX8_clear 0 = .ok (.aload_n 0, 1) := by decide +kernel
theorem dX8_clear_1 : decode cX8_clear 1 = .ok (.iconst 0, 1) := by decide +kernel
theorem dX8_clear_2 : decode cX8_clear 2 = .ok (.putfield 28, 3) := by decide +kernel
theorem dX8_clear_5 : decode cX8_clear 5 = .ok (.aload_n 0, 1) := by decide +kernel
theorem dX8_clear_6 : decode cX8_clear 6 = .ok (.iconst 0, 1) := by decide +kernel
theorem dX8_clear_7 : decode cX8_clear 7 = .ok (.putfield 32, 3) := by decide +kernel
theorem dX8_clear_10 : decode cX8_clear 10 = .ok (.return_, 1) := by decide +kernel
set_option maxRecDepth 100000 in
set_option maxHeartbeats 4000000 in
theorem kX8_clear {E : KE} {l : Launch} (hE : mx_ok E) (o : Nat) (hT : xOK E) (ho : xt_isN o = true) (M : MM) {q : MM} (hf : fX8_clear o M = some q) : mx_Met E l yX8_clear cX8_clear 1 none 0 [.ref (E.2.1.2.1 o)] M none q := by
  refine mx_enter hE (by decide) (Nat.le_of_ble_eq_true rfl) ?_
  intro p e s m below meth c C hM hn ls hl
  have hx := C.1.1
  have hb := C.1.2.1
  have hown := C.1.2.2.2.1
  have hts := C.1.2.2.2.2
  have hl : lv_has ls 1 [(0, .ref (E.2.1.2.1 o))] := hl
  rw [fX8_clear] at hf
  refine lv_aload_n hx hb dX8_clear_0 rfl (lv_at hl 0 rfl) ?_
  refine lv_iconst (v := (0 : Int32)) hx hb dX8_clear_1 (by decide) ?_
  refine pX8_28 C hM (xoN hT ho) rfl rfl rfl dX8_clear_2 (fun H locs hM => ?_)
  refine lv_aload_n hx hb dX8_clear_5 rfl (lv_at hl 0 rfl) ?_
  refine lv_iconst (v := (0 : Int32)) hx hb dX8_clear_6 (by decide) ?_
  refine pX8_32 C hM (xoN hT ho) rfl rfl rfl dX8_clear_7 (fun H locs hM => ?_)
  exact mx_vret C hM hf dX8_clear_10
theorem dX8_copyFrom_0 : decode cX8_copyFrom 0 = .ok (.aload_n 0, 1) := by decide +kernel
theorem dX8_copyFrom_1 : decode cX8_copyFrom 1 = .ok (.aload_n 1, 1) := by decide +kernel
theorem dX8_copyFrom_2 : decode cX8_copyFrom 2 = .ok (.getfield 28, 3) := by decide +kernel
theorem dX8_copyFrom_5 : decode cX8_copyFrom 5 = .ok (.putfield 28, 3) := by decide +kernel
theorem dX8_copyFrom_8 : decode cX8_copyFrom 8 = .ok (.aload_n 0, 1) := by decide +kernel
theorem dX8_copyFrom_9 : decode cX8_copyFrom 9 = .ok (.aload_n 1, 1) := by decide +kernel
theorem dX8_copyFrom_10 : decode cX8_copyFrom 10 = .ok (.getfield 32, 3) := by decide +kernel
theorem dX8_copyFrom_13 : decode cX8_copyFrom 13 = .ok (.putfield 32, 3) := by decide +kernel
theorem dX8_copyFrom_16 : decode cX8_copyFrom 16 = .ok (.iconst 0, 1) := by decide +kernel
theorem dX8_copyFrom_17 : decode cX8_copyFrom 17 = .ok (.istore_n 2, 1) := by decide +kernel
theorem dX8_copyFrom_18 : decode cX8_copyFrom 18 = .ok (.iload_n 2, 1) := by decide +kernel
theorem dX8_copyFrom_19 : decode cX8_copyFrom 19 = .ok (.bipush 40, 2) := by decide +kernel
theorem dX8_copyFrom_21 : decode cX8_copyFrom 21 = .ok (.if_icmp .ge 21, 3) := by decide +kernel
theorem dX8_copyFrom_24 : decode cX8_copyFrom 24 = .ok (.aload_n 0, 1) := by decide +kernel
theorem dX8_copyFrom_25 : decode cX8_copyFrom 25 = .ok (.getfield 13, 3) := by decide +kernel
theorem dX8_copyFrom_28 : decode cX8_copyFrom 28 = .ok (.iload_n 2, 1) := by decide +kernel
theorem dX8_copyFrom_29 : decode cX8_copyFrom 29 = .ok (.aload_n 1, 1) := by decide +kernel
theorem dX8_copyFrom_30 : decode cX8_copyFrom 30 = .ok (.getfield 13, 3) := by decide +kernel
theorem dX8_copyFrom_33 : decode cX8_copyFrom 33 = .ok (.iload_n 2, 1) := by decide +kernel
theorem dX8_copyFrom_34 : decode cX8_copyFrom 34 = .ok (.aaload, 1) := by decide +kernel
theorem dX8_copyFrom_35 : decode cX8_copyFrom 35 = .ok (.aastore, 1) := by decide +kernel
theorem dX8_copyFrom_36 : decode cX8_copyFrom 36 = .ok (.iinc 2 1, 3) := by decide +kernel
theorem dX8_copyFrom_39 : decode cX8_copyFrom 39 = .ok (.goto (-21), 3) := by decide +kernel
theorem dX8_copyFrom_42 : decode cX8_copyFrom 42 = .ok (.aload_n 1, 1) := by decide +kernel
theorem dX8_copyFrom_43 : decode cX8_copyFrom 43 = .ok (.getfield 17, 3) := by decide +kernel
theorem dX8_copyFrom_46 : decode cX8_copyFrom 46 = .ok (.iconst 0, 1) := by decide +kernel
theorem dX8_copyFrom_47 : decode cX8_copyFrom 47 = .ok (.aload_n 0, 1) := by decide +kernel
theorem dX8_copyFrom_48 : decode cX8_copyFrom 48 = .ok (.getfield 17, 3) := by decide +kernel
theorem dX8_copyFrom_51 : decode cX8_copyFrom 51 = .ok (.iconst 0, 1) := by decide +kernel
theorem dX8_copyFrom_52 : decode cX8_copyFrom 52 = .ok (.bipush 40, 2) := by decide +kernel
theorem dX8_copyFrom_54 : decode cX8_copyFrom 54 = .ok (.invokestatic 35, 3) := by decide +kernel
theorem dX8_copyFrom_57 : decode cX8_copyFrom 57 = .ok (.aload_n 1, 1) := by decide +kernel
theorem dX8_copyFrom_58 : decode cX8_copyFrom 58 = .ok (.getfield 21, 3) := by decide +kernel
theorem dX8_copyFrom_61 : decode cX8_copyFrom 61 = .ok (.iconst 0, 1) := by decide +kernel
theorem dX8_copyFrom_62 : decode cX8_copyFrom 62 = .ok (.aload_n 0, 1) := by decide +kernel
theorem dX8_copyFrom_63 : decode cX8_copyFrom 63 = .ok (.getfield 21, 3) := by decide +kernel
theorem dX8_copyFrom_66 : decode cX8_copyFrom 66 = .ok (.iconst 0, 1) := by decide +kernel
theorem dX8_copyFrom_67 : decode cX8_copyFrom 67 = .ok (.bipush 40, 2) := by decide +kernel
theorem dX8_copyFrom_69 : decode cX8_copyFrom 69 = .ok (.invokestatic 35, 3) := by decide +kernel
theorem dX8_copyFrom_72 : decode cX8_copyFrom 72 = .ok (.return_, 1) := by decide +kernel
set_option maxRecDepth 100000 in
set_option maxHeartbeats 4000000 in
theorem wfX8_copyFrom_18 {E : KE} {p : Program} {l : Launch} {e : Env} {s : State} {m : MethodId} {args : Array Value} {below : List Frame} {meth : Method} {c : Code} {q : MM} (C : mx_C E p m c cX8_copyFrom 3 s args RX8 meth none) (o : Nat) (o1 : Nat) (hT : xOK E) (ho : xt_isN o = true) (ho1 : xt_isN o1 = true)   : ∀ (n : Nat) (i2 : Int32) (M : MM) (H : Heap) (locs : List Loc) (ls : Array Slot), fX8_copyFrom_18 o o1 n i2 M = some q → mx_H E s M H locs → lv_has ls 3 [(0, .ref (E.2.1.2.1 o)), (1, .ref (E.2.1.2.1 o1)), (2, .int i2)] → W p l e (mx_rm 1) s m args below meth c H locs 0 0 (mx_Z E below args s none q) (F0 m 18 ls []) := by
  have hx := C.1.1
  have hb := C.1.2.1
  have hown := C.1.2.2.2.1
  have hts := C.1.2.2.2.2
  intro n
  induction n with
  | zero =>
    intro i2 M H locs ls hf hM hl
    rw [fX8_copyFrom_18] at hf
    cases hf
  | succ n ih =>
    intro i2 M H locs ls hf hM hl
    rw [fX8_copyFrom_18] at hf
    refine lv_iload_n hx hb dX8_copyFrom_18 rfl (lv_at hl 2 rfl) ?_
    refine lv_bipush (v := (40 : Int32)) hx hb dX8_copyFrom_19 (by decide) ?_
    refine lv_icmp_ge (tgt := 42) hx hb dX8_copyFrom_21 (by decide) (fun hc21 => ?_) (fun hc21 => ?_)
    · replace hf := mx_ift hc21 hf
      refine lv_aload_n hx hb dX8_copyFrom_42 rfl (lv_at hl 1 rfl) ?_
      refine gX8_17 C hM (xoN hT ho1) (f := (2, o1 + 2)) rfl (v := .ref (E.2.1.2.1 (o1 + 2))) rfl dX8_copyFrom_43 ?_
      refine lv_iconst (v := (0 : Int32)) hx hb dX8_copyFrom_46 (by decide) ?_
      refine lv_aload_n hx hb dX8_copyFrom_47 rfl (lv_at hl 0 rfl) ?_
      refine gX8_17 C hM (xoN hT ho) (f := (2, o + 2)) rfl (v := .ref (E.2.1.2.1 (o + 2))) rfl dX8_copyFrom_48 ?_
      refine lv_iconst (v := (0 : Int32)) hx hb dX8_copyFrom_51 (by decide) ?_
      refine lv_bipush (v := (40 : Int32)) hx hb dX8_copyFrom_52 (by decide) ?_
      refine mx_cpiR C hM hl.1 qw_1217 (xaN_2 hT ho1) (xaN_2 hT ho) (n := (40 : Int32)) (by decide) (by decide) (by decide) dX8_copyFrom_54 (fun H locs hM => ?_)
      refine lv_aload_n hx hb dX8_copyFrom_57 rfl (lv_at hl 1 rfl) ?_
      refine gX8_21 C hM (xoN hT ho1) (f := (2, o1 + 3)) rfl (v := .ref (E.2.1.2.1 (o1 + 3))) rfl dX8_copyFrom_58 ?_
      refine lv_iconst (v := (0 : Int32)) hx hb dX8_copyFrom_61 (by decide) ?_
      refine lv_aload_n hx hb dX8_copyFrom_62 rfl (lv_at hl 0 rfl) ?_
      refine gX8_21 C hM (xoN hT ho) (f := (2, o + 3)) rfl (v := .ref (E.2.1.2.1 (o + 3))) rfl dX8_copyFrom_63 ?_
      refine lv_iconst (v := (0 : Int32)) hx hb dX8_copyFrom_66 (by decide) ?_
      refine lv_bipush (v := (40 : Int32)) hx hb dX8_copyFrom_67 (by decide) ?_
      refine mx_cpiR C hM hl.1 qw_1217 (xaN_3 hT ho1) (xaN_3 hT ho) (n := (40 : Int32)) (by decide) (by decide) (by decide) dX8_copyFrom_69 (fun H locs hM => ?_)
      exact mx_vret C hM hf dX8_copyFrom_72
    · replace hf := mx_iff hc21 hf
      refine lv_aload_n hx hb dX8_copyFrom_24 rfl (lv_at hl 0 rfl) ?_
      refine gX8_13 C hM (xoN hT ho) (f := (2, o + 1)) rfl (v := .ref (E.2.1.2.1 (o + 1))) rfl dX8_copyFrom_25 ?_
      refine lv_iload_n hx hb dX8_copyFrom_28 rfl (lv_at hl 2 rfl) ?_
      refine lv_aload_n hx hb dX8_copyFrom_29 rfl (lv_at hl 1 rfl) ?_
      refine gX8_13 C hM (xoN hT ho1) (f := (2, o1 + 1)) rfl (v := .ref (E.2.1.2.1 (o1 + 1))) rfl dX8_copyFrom_30 ?_
      refine lv_iload_n hx hb dX8_copyFrom_33 rfl (lv_at hl 2 rfl) ?_
      obtain ⟨hg34, hf⟩ := mx_gd hf
      refine mx_aaldW C hM (xaN_1 hT ho1) (mx_in_vp hg34) dX8_copyFrom_34 ?_
      obtain ⟨hg35, hf⟩ := mx_gd hf
      obtain ⟨hw35, hf⟩ := mx_gd hf
      refine xw_aast C hT hM (xaN_1 hT ho) hw35 (j := i2.toNatClampNeg) rfl (mx_in_vp hg35) dX8_copyFrom_35 (fun H locs hM => ?_)
      refine lv_iinc (v := (i2 + (1 : Int32))) (lv' := [(2, .int (i2 + (1 : Int32))), (0, .ref (E.2.1.2.1 o)), (1, .ref (E.2.1.2.1 o1))]) hx hb dX8_copyFrom_36 hl (k := 2) rfl rfl (by decide) rfl (fun ls hl => ?_)
      refine lv_goto (tgt := 18) hx hb dX8_copyFrom_39 (by decide) ?_
      exact ih (i2 + (1 : Int32)) (mx_sr M (o + 1) i2.toNatClampNeg (M.2.2 (o1 + 1) i2.toNatClampNeg)) _ _ _ hf hM (lv_sub hl [1, 2, 0] rfl)
set_option maxRecDepth 100000 in
set_option maxHeartbeats 4000000 in
theorem kX8_copyFrom {E : KE} {l : Launch} (hE : mx_ok E) (o : Nat) (o1 : Nat) (hT : xOK E) (ho : xt_isN o = true) (ho1 : xt_isN o1 = true) (M : MM) {q : MM} (hf : fX8_copyFrom o o1 M = some q) : mx_Met E l yX8_copyFrom cX8_copyFrom 3 none 1 [.ref (E.2.1.2.1 o), .ref (E.2.1.2.1 o1)] M none q := by
  refine mx_enter hE (by decide) (Nat.le_of_ble_eq_true rfl) ?_
  intro p e s m below meth c C hM hn ls hl
  have hx := C.1.1
  have hb := C.1.2.1
  have hown := C.1.2.2.2.1
  have hts := C.1.2.2.2.2
  have hl : lv_has ls 3 [(0, .ref (E.2.1.2.1 o)), (1, .ref (E.2.1.2.1 o1))] := hl
  rw [fX8_copyFrom] at hf
  refine lv_aload_n hx hb dX8_copyFrom_0 rfl (lv_at hl 0 rfl) ?_
  refine lv_aload_n hx hb dX8_copyFrom_1 rfl (lv_at hl 1 rfl) ?_
  refine gX8_28 C hM (xoN hT ho1) (f := (0, 0)) rfl (v := .int (M.1 o1 3)) rfl dX8_copyFrom_2 ?_
  refine pX8_28 C hM (xoN hT ho) rfl rfl rfl dX8_copyFrom_5 (fun H locs hM => ?_)
  refine lv_aload_n hx hb dX8_copyFrom_8 rfl (lv_at hl 0 rfl) ?_
  refine lv_aload_n hx hb dX8_copyFrom_9 rfl (lv_at hl 1 rfl) ?_
  refine gX8_32 C hM (xoN hT ho1) (f := (0, 0)) rfl (v := .int ((mx_si M o 3 (M.1 o1 3)).1 o1 4)) rfl dX8_copyFrom_10 ?_
  refine pX8_32 C hM (xoN hT ho) rfl rfl rfl dX8_copyFrom_13 (fun H locs hM => ?_)
  refine lv_iconst (v := (0 : Int32)) hx hb dX8_copyFrom_16 (by decide) ?_
  refine lv_istore_n (lv' := [(2, .int (0 : Int32)), (0, .ref (E.2.1.2.1 o)), (1, .ref (E.2.1.2.1 o1))]) hx hb dX8_copyFrom_17 rfl hl (by decide) rfl (fun ls hl => ?_)
  exact wfX8_copyFrom_18 C o o1 hT ho ho1 mx_fu (0 : Int32) (mx_si (mx_si M o 3 (M.1 o1 3)) o 4 ((mx_si M o 3 (M.1 o1 3)).1 o1 4)) _ _ _ hf hM (lv_sub hl [1, 2, 0] rfl)
theorem dX8_put_0 : decode cX8_put 0 = .ok (.aload_n 0, 1) := by decide +kernel
theorem dX8_put_1 : decode cX8_put 1 = .ok (.getfield 28, 3) := by decide +kernel
theorem dX8_put_4 : decode cX8_put 4 = .ok (.bipush 40, 2) := by decide +kernel
theorem dX8_put_6 : decode cX8_put 6 = .ok (.if_icmp .ge 43, 3) := by decide +kernel
theorem dX8_put_9 : decode cX8_put 9 = .ok (.aload_n 0, 1) := by decide +kernel
theorem dX8_put_10 : decode cX8_put 10 = .ok (.getfield 13, 3) := by decide +kernel
theorem dX8_put_13 : decode cX8_put 13 = .ok (.aload_n 0, 1) := by decide +kernel
theorem dX8_put_14 : decode cX8_put 14 = .ok (.getfield 28, 3) := by decide +kernel
theorem dX8_put_17 : decode cX8_put 17 = .ok (.aload_n 1, 1) := by decide +kernel
theorem dX8_put_18 : decode cX8_put 18 = .ok (.aastore, 1) := by decide +kernel
theorem dX8_put_19 : decode cX8_put 19 = .ok (.aload_n 0, 1) := by decide +kernel
theorem dX8_put_20 : decode cX8_put 20 = .ok (.getfield 17, 3) := by decide +kernel
theorem dX8_put_23 : decode cX8_put 23 = .ok (.aload_n 0, 1) := by decide +kernel
theorem dX8_put_24 : decode cX8_put 24 = .ok (.getfield 28, 3) := by decide +kernel
theorem dX8_put_27 : decode cX8_put 27 = .ok (.iload_n 2, 1) := by decide +kernel
theorem dX8_put_28 : decode cX8_put 28 = .ok (.iastore, 1) := by decide +kernel
theorem dX8_put_29 : decode cX8_put 29 = .ok (.aload_n 0, 1) := by decide +kernel
theorem dX8_put_30 : decode cX8_put 30 = .ok (.getfield 21, 3) := by decide +kernel
theorem dX8_put_33 : decode cX8_put 33 = .ok (.aload_n 0, 1) := by decide +kernel
theorem dX8_put_34 : decode cX8_put 34 = .ok (.getfield 28, 3) := by decide +kernel
theorem dX8_put_37 : decode cX8_put 37 = .ok (.iload_n 3, 1) := by decide +kernel
theorem dX8_put_38 : decode cX8_put 38 = .ok (.iastore, 1) := by decide +kernel
theorem dX8_put_39 : decode cX8_put 39 = .ok (.aload_n 0, 1) := by decide +kernel
theorem dX8_put_40 : decode cX8_put 40 = .ok (.dup, 1) := by decide +kernel
theorem dX8_put_41 : decode cX8_put 41 = .ok (.getfield 28, 3) := by decide +kernel
theorem dX8_put_44 : decode cX8_put 44 = .ok (.iconst 1, 1) := by decide +kernel
theorem dX8_put_45 : decode cX8_put 45 = .ok (.iadd, 1) := by decide +kernel
theorem dX8_put_46 : decode cX8_put 46 = .ok (.putfield 28, 3) := by decide +kernel
theorem dX8_put_49 : decode cX8_put 49 = .ok (.return_, 1) := by decide +kernel
set_option maxRecDepth 100000 in
set_option maxHeartbeats 4000000 in
theorem kX8_put {E : KE} {l : Launch} (hE : mx_ok E) (w1 : Nat) (i2 : Int32) (i3 : Int32) (hT : xOK E) (M : MM) {q : MM} (hf : fX8_put w1 i2 i3 M = some q) : mx_Met E l yX8_put cX8_put 4 none 0 [.ref (E.2.1.2.1 134), .ref (E.2.1.2.2.1 w1), .int i2, .int i3] M none q := by
  refine mx_enter hE (by decide) (Nat.le_of_ble_eq_true rfl) ?_
  intro p e s m below meth c C hM hn ls hl
  have hx := C.1.1
  have hb := C.1.2.1
  have hown := C.1.2.2.2.1
  have hts := C.1.2.2.2.2
  have hl : lv_has ls 4 [(0, .ref (E.2.1.2.1 134)), (1, .ref (E.2.1.2.2.1 w1)), (2, .int i2), (3, .int i3)] := hl
  rw [fX8_put] at hf
  refine lv_aload_n hx hb dX8_put_0 rfl (lv_at hl 0 rfl) ?_
  refine gX8_28 C hM (xt_134 hT) (f := (0, 0)) rfl (v := .int (M.1 134 3)) rfl dX8_put_1 ?_
  refine lv_bipush (v := (40 : Int32)) hx hb dX8_put_4 (by decide) ?_
  refine lv_icmp_ge (tgt := 49) hx hb dX8_put_6 (by decide) (fun hc6 => ?_) (fun hc6 => ?_)
  · replace hf := mx_ift hc6 hf
    exact mx_vret C hM hf dX8_put_49
  · replace hf := mx_iff hc6 hf
    refine lv_aload_n hx hb dX8_put_9 rfl (lv_at hl 0 rfl) ?_
    refine gX8_13 C hM (xt_134 hT) (f := (2, 135)) rfl (v := .ref (E.2.1.2.1 135)) rfl dX8_put_10 ?_
    refine lv_aload_n hx hb dX8_put_13 rfl (lv_at hl 0 rfl) ?_
    refine gX8_28 C hM (xt_134 hT) (f := (0, 0)) rfl (v := .int (M.1 134 3)) rfl dX8_put_14 ?_
    refine lv_aload_n hx hb dX8_put_17 rfl (lv_at hl 1 rfl) ?_
    obtain ⟨hg18, hf⟩ := mx_gd hf
    obtain ⟨hw18, hf⟩ := mx_gd hf
    refine xw_aast C hT hM (xt_135 hT) hw18 (j := (M.1 134 3).toNatClampNeg) rfl (mx_in_vp hg18) dX8_put_18 (fun H locs hM => ?_)
    refine lv_aload_n hx hb dX8_put_19 rfl (lv_at hl 0 rfl) ?_
    refine gX8_17 C hM (xt_134 hT) (f := (2, 136)) rfl (v := .ref (E.2.1.2.1 136)) rfl dX8_put_20 ?_
    refine lv_aload_n hx hb dX8_put_23 rfl (lv_at hl 0 rfl) ?_
    refine gX8_28 C hM (xt_134 hT) (f := (0, 0)) rfl (v := .int ((mx_sr M 135 ((M.1 134 3).toNatClampNeg) w1).1 134 3)) rfl dX8_put_24 ?_
    refine lv_iload_n hx hb dX8_put_27 rfl (lv_at hl 2 rfl) ?_
    obtain ⟨hg28, hf⟩ := mx_gd hf
    refine mx_iast C hM (xt_136 hT) (mx_in_vp hg28) dX8_put_28 (fun H locs hM => ?_)
    refine lv_aload_n hx hb dX8_put_29 rfl (lv_at hl 0 rfl) ?_
    refine gX8_21 C hM (xt_134 hT) (f := (2, 137)) rfl (v := .ref (E.2.1.2.1 137)) rfl dX8_put_30 ?_
    refine lv_aload_n hx hb dX8_put_33 rfl (lv_at hl 0 rfl) ?_
    refine gX8_28 C hM (xt_134 hT) (f := (0, 0)) rfl (v := .int ((mx_si (mx_sr M 135 ((M.1 134 3).toNatClampNeg) w1) 136 ((mx_sr M 135 ((M.1 134 3).toNatClampNeg) w1).1 134 3).toNatClampNeg i2).1 134 3)) rfl dX8_put_34 ?_
    refine lv_iload_n hx hb dX8_put_37 rfl (lv_at hl 3 rfl) ?_
    obtain ⟨hg38, hf⟩ := mx_gd hf
    refine mx_iast C hM (xt_137 hT) (mx_in_vp hg38) dX8_put_38 (fun H locs hM => ?_)
    refine lv_aload_n hx hb dX8_put_39 rfl (lv_at hl 0 rfl) ?_
    refine lv_dup hx hb dX8_put_40 rfl ?_
    refine gX8_28 C hM (xt_134 hT) (f := (0, 0)) rfl (v := .int ((mx_si (mx_si (mx_sr M 135 ((M.1 134 3).toNatClampNeg) w1) 136 ((mx_sr M 135 ((M.1 134 3).toNatClampNeg) w1).1 134 3).toNatClampNeg i2) 137 ((mx_si (mx_sr M 135 ((M.1 134 3).toNatClampNeg) w1) 136 ((mx_sr M 135 ((M.1 134 3).toNatClampNeg) w1).1 134 3).toNatClampNeg i2).1 134 3).toNatClampNeg i3).1 134 3)) rfl dX8_put_41 ?_
    refine lv_iconst (v := (1 : Int32)) hx hb dX8_put_44 (by decide) ?_
    refine lv_iadd hx hb dX8_put_45 ?_
    refine pX8_28 C hM (xt_134 hT) rfl rfl rfl dX8_put_46 (fun H locs hM => ?_)
    exact mx_vret C hM hf dX8_put_49
theorem dX8_beginsOne_0 : decode cX8_beginsOne 0 = .ok (.getstatic 98, 3) := by decide +kernel
theorem dX8_beginsOne_3 : decode cX8_beginsOne 3 = .ok (.aload_n 0, 1) := by decide +kernel
theorem dX8_beginsOne_4 : decode cX8_beginsOne 4 = .ok (.invokevirtual 103, 3) := by decide +kernel
theorem dX8_beginsOne_7 : decode cX8_beginsOne 7 = .ok (.iaload, 1) := by decide +kernel
theorem dX8_beginsOne_8 : decode cX8_beginsOne 8 = .ok (.tableswitch 58 11 20 #[56, 56, 56, 56, 56, 56, 56, 56, 56, 56], 56) := by decide +kernel
theorem dX8_beginsOne_64 : decode cX8_beginsOne 64 = .ok (.iconst 1, 1) := by decide +kernel
theorem dX8_beginsOne_65 : decode cX8_beginsOne 65 = .ok (.ireturn, 1) := by decide +kernel
theorem dX8_beginsOne_66 : decode cX8_beginsOne 66 = .ok (.iconst 0, 1) := by decide +kernel
theorem dX8_beginsOne_67 : decode cX8_beginsOne 67 = .ok (.ireturn, 1) := by decide +kernel
set_option maxRecDepth 100000 in
set_option maxHeartbeats 4000000 in
theorem kX8_beginsOne {E : KE} {l : Launch} (hE : mx_ok E) (w0 : Nat) (hT : xOK E) (M : MM) {q : Bool} (hf : fX8_beginsOne w0 M = some q) : mx_Met E l yX8_beginsOne cX8_beginsOne 1 (some .boolean) 1 [.ref (E.2.1.2.2.1 w0)] M (some (.int (mx_b q))) M := by
  refine mx_enter hE (by decide) (Nat.le_of_ble_eq_true rfl) ?_
  intro p e s m below meth c C hM hn ls hl
  have hx := C.1.1
  have hb := C.1.2.1
  have hown := C.1.2.2.2.1
  have hts := C.1.2.2.2.2
  have hl : lv_has ls 1 [(0, .ref (E.2.1.2.2.1 w0))] := hl
  rw [fX8_beginsOne] at hf
  refine xw_sw C hT hM (hts _ qw_1181) dX8_beginsOne_0 ?_
  refine lv_aload_n hx hb dX8_beginsOne_3 rfl (lv_at hl 0 rfl) ?_
  obtain ⟨hw4, hf⟩ := mx_gd hf
  refine xw_ord C hT hw4 hM hl.1 (by decide) qw_1182 (st1 := [.int (nI w0), .ref (E.2.1.2.2.1 25)]) (rest := [.ref (E.2.1.2.2.1 25)]) rfl rfl (Nat.le_of_ble_eq_true rfl) dX8_beginsOne_4 (fun H locs hM => ?_)
  refine xw_swa C hT hM hw4 dX8_beginsOne_7 ?_
  by_cases hs0 : (xsw w0) = 11
  · replace hf := mx_ift hs0 hf
    refine lv_tableIn (tgt := 64) hx hb dX8_beginsOne_8 (by rw [hs0]; decide) (by rw [hs0]; decide) (by rw [hs0]; rfl) (by decide) ?_
    refine lv_iconst (v := (1 : Int32)) hx hb dX8_beginsOne_64 (by decide) ?_
    exact mx_zretR C hM (b := true) rfl hf dX8_beginsOne_65
  replace hf := mx_iff hs0 hf
  by_cases hs1 : (xsw w0) = 12
  · replace hf := mx_ift hs1 hf
    refine lv_tableIn (tgt := 64) hx hb dX8_beginsOne_8 (by rw [hs1]; decide) (by rw [hs1]; decide) (by rw [hs1]; rfl) (by decide) ?_
    refine lv_iconst (v := (1 : Int32)) hx hb dX8_beginsOne_64 (by decide) ?_
    exact mx_zretR C hM (b := true) rfl hf dX8_beginsOne_65
  replace hf := mx_iff hs1 hf
  by_cases hs2 : (xsw w0) = 13
  · replace hf := mx_ift hs2 hf
    refine lv_tableIn (tgt := 64) hx hb dX8_beginsOne_8 (by rw [hs2]; decide) (by rw [hs2]; decide) (by rw [hs2]; rfl) (by decide) ?_
    refine lv_iconst (v := (1 : Int32)) hx hb dX8_beginsOne_64 (by decide) ?_
    exact mx_zretR C hM (b := true) rfl hf dX8_beginsOne_65
  replace hf := mx_iff hs2 hf
  by_cases hs3 : (xsw w0) = 14
  · replace hf := mx_ift hs3 hf
    refine lv_tableIn (tgt := 64) hx hb dX8_beginsOne_8 (by rw [hs3]; decide) (by rw [hs3]; decide) (by rw [hs3]; rfl) (by decide) ?_
    refine lv_iconst (v := (1 : Int32)) hx hb dX8_beginsOne_64 (by decide) ?_
    exact mx_zretR C hM (b := true) rfl hf dX8_beginsOne_65
  replace hf := mx_iff hs3 hf
  by_cases hs4 : (xsw w0) = 15
  · replace hf := mx_ift hs4 hf
    refine lv_tableIn (tgt := 64) hx hb dX8_beginsOne_8 (by rw [hs4]; decide) (by rw [hs4]; decide) (by rw [hs4]; rfl) (by decide) ?_
    refine lv_iconst (v := (1 : Int32)) hx hb dX8_beginsOne_64 (by decide) ?_
    exact mx_zretR C hM (b := true) rfl hf dX8_beginsOne_65
  replace hf := mx_iff hs4 hf
  by_cases hs5 : (xsw w0) = 16
  · replace hf := mx_ift hs5 hf
    refine lv_tableIn (tgt := 64) hx hb dX8_beginsOne_8 (by rw [hs5]; decide) (by rw [hs5]; decide) (by rw [hs5]; rfl) (by decide) ?_
    refine lv_iconst (v := (1 : Int32)) hx hb dX8_beginsOne_64 (by decide) ?_
    exact mx_zretR C hM (b := true) rfl hf dX8_beginsOne_65
  replace hf := mx_iff hs5 hf
  by_cases hs6 : (xsw w0) = 17
  · replace hf := mx_ift hs6 hf
    refine lv_tableIn (tgt := 64) hx hb dX8_beginsOne_8 (by rw [hs6]; decide) (by rw [hs6]; decide) (by rw [hs6]; rfl) (by decide) ?_
    refine lv_iconst (v := (1 : Int32)) hx hb dX8_beginsOne_64 (by decide) ?_
    exact mx_zretR C hM (b := true) rfl hf dX8_beginsOne_65
  replace hf := mx_iff hs6 hf
  by_cases hs7 : (xsw w0) = 18
  · replace hf := mx_ift hs7 hf
    refine lv_tableIn (tgt := 64) hx hb dX8_beginsOne_8 (by rw [hs7]; decide) (by rw [hs7]; decide) (by rw [hs7]; rfl) (by decide) ?_
    refine lv_iconst (v := (1 : Int32)) hx hb dX8_beginsOne_64 (by decide) ?_
    exact mx_zretR C hM (b := true) rfl hf dX8_beginsOne_65
  replace hf := mx_iff hs7 hf
  by_cases hs8 : (xsw w0) = 19
  · replace hf := mx_ift hs8 hf
    refine lv_tableIn (tgt := 64) hx hb dX8_beginsOne_8 (by rw [hs8]; decide) (by rw [hs8]; decide) (by rw [hs8]; rfl) (by decide) ?_
    refine lv_iconst (v := (1 : Int32)) hx hb dX8_beginsOne_64 (by decide) ?_
    exact mx_zretR C hM (b := true) rfl hf dX8_beginsOne_65
  replace hf := mx_iff hs8 hf
  by_cases hs9 : (xsw w0) = 20
  · replace hf := mx_ift hs9 hf
    refine lv_tableIn (tgt := 64) hx hb dX8_beginsOne_8 (by rw [hs9]; decide) (by rw [hs9]; decide) (by rw [hs9]; rfl) (by decide) ?_
    refine lv_iconst (v := (1 : Int32)) hx hb dX8_beginsOne_64 (by decide) ?_
    exact mx_zretR C hM (b := true) rfl hf dX8_beginsOne_65
  replace hf := mx_iff hs9 hf
  refine lv_tableOut (tgt := 66) hx hb dX8_beginsOne_8 (by have hh := And.intro trivial trivial; have hh0 := lv_neT hs0 (by decide : (11 : Int32).toInt = 11); have hh1 := lv_neT hs1 (by decide : (12 : Int32).toInt = 12); have hh2 := lv_neT hs2 (by decide : (13 : Int32).toInt = 13); have hh3 := lv_neT hs3 (by decide : (14 : Int32).toInt = 14); have hh4 := lv_neT hs4 (by decide : (15 : Int32).toInt = 15); have hh5 := lv_neT hs5 (by decide : (16 : Int32).toInt = 16); have hh6 := lv_neT hs6 (by decide : (17 : Int32).toInt = 17); have hh7 := lv_neT hs7 (by decide : (18 : Int32).toInt = 18); have hh8 := lv_neT hs8 (by decide : (19 : Int32).toInt = 19); have hh9 := lv_neT hs9 (by decide : (20 : Int32).toInt = 20); omega) (by decide) ?_
  refine lv_iconst (v := (0 : Int32)) hx hb dX8_beginsOne_66 (by decide) ?_
  exact mx_zretR C hM (b := false) rfl hf dX8_beginsOne_67
theorem dX8_putTaken_0 : decode cX8_putTaken 0 = .ok (.aload_n 0, 1) := by decide +kernel
theorem dX8_putTaken_1 : decode cX8_putTaken 1 = .ok (.aload_n 2, 1) := by decide +kernel
theorem dX8_putTaken_2 : decode cX8_putTaken 2 = .ok (.iload_n 3, 1) := by decide +kernel
theorem dX8_putTaken_3 : decode cX8_putTaken 3 = .ok (.aload_n 1, 1) := by decide +kernel
theorem dX8_putTaken_4 : decode cX8_putTaken 4 = .ok (.getfield 135, 3) := by decide +kernel
theorem dX8_putTaken_7 : decode cX8_putTaken 7 = .ok (.invokevirtual 70, 3) := by decide +kernel
theorem dX8_putTaken_10 : decode cX8_putTaken 10 = .ok (.iconst 1, 1) := by decide +kernel
theorem dX8_putTaken_11 : decode cX8_putTaken 11 = .ok (.ireturn, 1) := by decide +kernel
set_option maxRecDepth 100000 in
set_option maxHeartbeats 4000000 in
theorem kX8_putTaken {E : KE} {l : Launch} (hE : mx_ok E) (w2 : Nat) (i3 : Int32) (hT : xOK E) (M : MM) {q : (Bool × MM)} (hf : fX8_putTaken w2 i3 M = some q) : mx_Met E l yX8_putTaken cX8_putTaken 4 (some .boolean) 1 [.ref (E.2.1.2.1 134), .ref (E.2.1.2.1 3), .ref (E.2.1.2.2.1 w2), .int i3] M (some (.int (mx_b q.1))) q.2 := by
  refine mx_enter hE (by decide) (Nat.le_of_ble_eq_true rfl) ?_
  intro p e s m below meth c C hM hn ls hl
  have hx := C.1.1
  have hb := C.1.2.1
  have hown := C.1.2.2.2.1
  have hts := C.1.2.2.2.2
  have hl : lv_has ls 4 [(0, .ref (E.2.1.2.1 134)), (1, .ref (E.2.1.2.1 3)), (2, .ref (E.2.1.2.2.1 w2)), (3, .int i3)] := hl
  rw [fX8_putTaken] at hf
  refine lv_aload_n hx hb dX8_putTaken_0 rfl (lv_at hl 0 rfl) ?_
  refine lv_aload_n hx hb dX8_putTaken_1 rfl (lv_at hl 2 rfl) ?_
  refine lv_iload_n hx hb dX8_putTaken_2 rfl (lv_at hl 3 rfl) ?_
  refine lv_aload_n hx hb dX8_putTaken_3 rfl (lv_at hl 1 rfl) ?_
  refine gX8_135 C hT hM (xt_3 hT) (f := (0, 0)) rfl (v := .int (M.1 3 9)) rfl dX8_putTaken_4 ?_
  obtain ⟨q7, hq7, hf⟩ := mx_bd hf
  refine mx_callV C hM hl.1 yo_X8_put (h' := 0) (by decide) qw_1188 qw_1190 qs_100 (ci := 8) (q := (RX8, TX8, 5)) rfl (xt_134 hT) (As := [.ref (E.2.1.2.2.1 w2), .int i3, .int (M.1 3 9)]) (rest := []) (st1 := []) (kX8_put C.2.2.2.1 w2 i3 (M.1 3 9) hT M hq7) rfl rfl rfl (Nat.le_of_ble_eq_true rfl) dX8_putTaken_7 (fun H locs hM => ?_)
  refine lv_iconst (v := (1 : Int32)) hx hb dX8_putTaken_10 (by decide) ?_
  exact mx_zret C hM (b := true) rfl hf dX8_putTaken_11
theorem dX8_signAt_0 : decode cX8_signAt 0 = .ok (.aload_n 0, 1) := by decide +kernel
theorem dX8_signAt_1 : decode cX8_signAt 1 = .ok (.bipush 60, 2) := by decide +kernel
theorem dX8_signAt_3 : decode cX8_signAt 3 = .ok (.invokevirtual 80, 3) := by decide +kernel
theorem dX8_signAt_6 : decode cX8_signAt 6 = .ok (.ifCond .eq 6, 3) := by decide +kernel
theorem dX8_signAt_9 : decode cX8_signAt 9 = .ok (.bipush 60, 2) := by decide +kernel
theorem dX8_signAt_11 : decode cX8_signAt 11 = .ok (.ireturn, 1) := by decide +kernel
theorem dX8_signAt_12 : decode cX8_signAt 12 = .ok (.aload_n 0, 1) := by decide +kernel
theorem dX8_signAt_13 : decode cX8_signAt 13 = .ok (.bipush 61, 2) := by decide +kernel
theorem dX8_signAt_15 : decode cX8_signAt 15 = .ok (.invokevirtual 80, 3) := by decide +kernel
theorem dX8_signAt_18 : decode cX8_signAt 18 = .ok (.ifCond .eq 8, 3) := by decide +kernel
theorem dX8_signAt_21 : decode cX8_signAt 21 = .ok (.bipush 61, 2) := by decide +kernel
theorem dX8_signAt_23 : decode cX8_signAt 23 = .ok (.goto 5, 3) := by decide +kernel
theorem dX8_signAt_26 : decode cX8_signAt 26 = .ok (.bipush 62, 2) := by decide +kernel
theorem dX8_signAt_28 : decode cX8_signAt 28 = .ok (.ireturn, 1) := by decide +kernel
set_option maxRecDepth 100000 in
set_option maxHeartbeats 4000000 in
theorem kX8_signAt {E : KE} {l : Launch} (hE : mx_ok E)  (hT : xOK E) (M : MM) {q : Int32} (hf : fX8_signAt M = some q) : mx_Met E l yX8_signAt cX8_signAt 1 (some .char) 1 [.ref (E.2.1.2.1 3)] M (some (.int q)) M := by
  refine mx_enter hE (by decide) (Nat.le_of_ble_eq_true rfl) ?_
  intro p e s m below meth c C hM hn ls hl
  have hx := C.1.1
  have hb := C.1.2.1
  have hown := C.1.2.2.2.1
  have hts := C.1.2.2.2.2
  have hl : lv_has ls 1 [(0, .ref (E.2.1.2.1 3))] := hl
  rw [fX8_signAt] at hf
  refine lv_aload_n hx hb dX8_signAt_0 rfl (lv_at hl 0 rfl) ?_
  refine lv_bipush (v := (60 : Int32)) hx hb dX8_signAt_1 (by decide) ?_
  obtain ⟨q3, hq3, hf⟩ := mx_bd hf
  refine mx_callVN C hM hl.1 yo_X7_isAtSign (h' := 0) (by decide) (nw_1176 hT C) qw_620 qs_26 (ci := 7) (q := (RX7, TX7, 12)) rfl (xt_3 hT) (As := [.int (60 : Int32)]) (rest := []) (st1 := [.int (mx_b q3)]) (kX7_isAtSign C.2.2.2.1 (60 : Int32) hT M hq3) rfl rfl rfl (Nat.le_of_ble_eq_true rfl) dX8_signAt_3 (fun H locs hM => ?_)
  refine lv_if_eq (tgt := 12) hx hb dX8_signAt_6 (by decide) (fun hc6 => ?_) (fun hc6 => ?_)
  · replace hf := mx_ift hc6 hf
    refine lv_aload_n hx hb dX8_signAt_12 rfl (lv_at hl 0 rfl) ?_
    refine lv_bipush (v := (61 : Int32)) hx hb dX8_signAt_13 (by decide) ?_
    obtain ⟨q15, hq15, hf⟩ := mx_bd hf
    refine mx_callVN C hM hl.1 yo_X7_isAtSign (h' := 0) (by decide) (nw_1176 hT C) qw_620 qs_26 (ci := 7) (q := (RX7, TX7, 12)) rfl (xt_3 hT) (As := [.int (61 : Int32)]) (rest := []) (st1 := [.int (mx_b q15)]) (kX7_isAtSign C.2.2.2.1 (61 : Int32) hT M hq15) rfl rfl rfl (Nat.le_of_ble_eq_true rfl) dX8_signAt_15 (fun H locs hM => ?_)
    refine lv_if_eq (tgt := 26) hx hb dX8_signAt_18 (by decide) (fun hc18 => ?_) (fun hc18 => ?_)
    · replace hf := mx_ift hc18 hf
      refine lv_bipush (v := (62 : Int32)) hx hb dX8_signAt_26 (by decide) ?_
      exact mx_cretR C hM (by decide) hf dX8_signAt_28
    · replace hf := mx_iff hc18 hf
      refine lv_bipush (v := (61 : Int32)) hx hb dX8_signAt_21 (by decide) ?_
      refine lv_goto (tgt := 28) hx hb dX8_signAt_23 (by decide) ?_
      exact mx_cretR C hM (by decide) hf dX8_signAt_28
  · replace hf := mx_iff hc6 hf
    refine lv_bipush (v := (60 : Int32)) hx hb dX8_signAt_9 (by decide) ?_
    exact mx_cretR C hM (by decide) hf dX8_signAt_11
theorem dX8_readPlain_0 : decode cX8_readPlain 0 = .ok (.getstatic 98, 3) := by decide +kernel
theorem dX8_readPlain_3 : decode cX8_readPlain 3 = .ok (.aload_n 3, 1) := by decide +kernel
theorem dX8_readPlain_4 : decode cX8_readPlain 4 = .ok (.invokevirtual 103, 3) := by decide +kernel
theorem dX8_readPlain_7 : decode cX8_readPlain 7 = .ok (.iaload, 1) := by decide +kernel
theorem dX8_readPlain_8 : decode cX8_readPlain 8 = .ok (.tableswitch 107 12 16 #[36, 36, 36, 45, 76], 36) := by decide +kernel
theorem dX8_readPlain_44 : decode cX8_readPlain 44 = .ok (.aload_n 0, 1) := by decide +kernel
theorem dX8_readPlain_45 : decode cX8_readPlain 45 = .ok (.aload_n 3, 1) := by decide +kernel
theorem dX8_readPlain_46 : decode cX8_readPlain 46 = .ok (.iconst 0, 1) := by decide +kernel
theorem dX8_readPlain_47 : decode cX8_readPlain 47 = .ok (.iconst 0, 1) := by decide +kernel
theorem dX8_readPlain_48 : decode cX8_readPlain 48 = .ok (.invokevirtual 70, 3) := by decide +kernel
theorem dX8_readPlain_51 : decode cX8_readPlain 51 = .ok (.iconst 1, 1) := by decide +kernel
theorem dX8_readPlain_52 : decode cX8_readPlain 52 = .ok (.ireturn, 1) := by decide +kernel
theorem dX8_readPlain_53 : decode cX8_readPlain 53 = .ok (.aload_n 1, 1) := by decide +kernel
theorem dX8_readPlain_54 : decode cX8_readPlain 54 = .ok (.aload_n 2, 1) := by decide +kernel
theorem dX8_readPlain_55 : decode cX8_readPlain 55 = .ok (.aload_n 1, 1) := by decide +kernel
theorem dX8_readPlain_56 : decode cX8_readPlain 56 = .ok (.invokevirtual 107, 3) := by decide +kernel
theorem dX8_readPlain_59 : decode cX8_readPlain 59 = .ok (.invokevirtual 111, 3) := by decide +kernel
theorem dX8_readPlain_62 : decode cX8_readPlain 62 = .ok (.invokevirtual 117, 3) := by decide +kernel
theorem dX8_readPlain_65 : decode cX8_readPlain 65 = .ok (.ifCond .eq 17, 3) := by decide +kernel
theorem dX8_readPlain_68 : decode cX8_readPlain 68 = .ok (.aload_n 0, 1) := by decide +kernel
theorem dX8_readPlain_69 : decode cX8_readPlain 69 = .ok (.aload_n 1, 1) := by decide +kernel
theorem dX8_readPlain_70 : decode cX8_readPlain 70 = .ok (.aload_n 3, 1) := by decide +kernel
theorem dX8_readPlain_71 : decode cX8_readPlain 71 = .ok (.iconst 0, 1) := by decide +kernel
theorem dX8_readPlain_72 : decode cX8_readPlain 72 = .ok (.invokevirtual 120, 3) := by decide +kernel
theorem dX8_readPlain_75 : decode cX8_readPlain 75 = .ok (.ifCond .eq 7, 3) := by decide +kernel
theorem dX8_readPlain_78 : decode cX8_readPlain 78 = .ok (.iconst 1, 1) := by decide +kernel
theorem dX8_readPlain_79 : decode cX8_readPlain 79 = .ok (.goto 4, 3) := by decide +kernel
theorem dX8_readPlain_82 : decode cX8_readPlain 82 = .ok (.iconst 0, 1) := by decide +kernel
theorem dX8_readPlain_83 : decode cX8_readPlain 83 = .ok (.ireturn, 1) := by decide +kernel
theorem dX8_readPlain_84 : decode cX8_readPlain 84 = .ok (.aload_n 1, 1) := by decide +kernel
theorem dX8_readPlain_85 : decode cX8_readPlain 85 = .ok (.aload_n 2, 1) := by decide +kernel
theorem dX8_readPlain_86 : decode cX8_readPlain 86 = .ok (.aload_n 1, 1) := by decide +kernel
theorem dX8_readPlain_87 : decode cX8_readPlain 87 = .ok (.invokevirtual 107, 3) := by decide +kernel
theorem dX8_readPlain_90 : decode cX8_readPlain 90 = .ok (.invokevirtual 124, 3) := by decide +kernel
theorem dX8_readPlain_93 : decode cX8_readPlain 93 = .ok (.invokevirtual 117, 3) := by decide +kernel
theorem dX8_readPlain_96 : decode cX8_readPlain 96 = .ok (.ifCond .eq 17, 3) := by decide +kernel
theorem dX8_readPlain_99 : decode cX8_readPlain 99 = .ok (.aload_n 0, 1) := by decide +kernel
theorem dX8_readPlain_100 : decode cX8_readPlain 100 = .ok (.aload_n 1, 1) := by decide +kernel
theorem dX8_readPlain_101 : decode cX8_readPlain 101 = .ok (.aload_n 3, 1) := by decide +kernel
theorem dX8_readPlain_102 : decode cX8_readPlain 102 = .ok (.iconst 0, 1) := by decide +kernel
theorem dX8_readPlain_103 : decode cX8_readPlain 103 = .ok (.invokevirtual 120, 3) := by decide +kernel
theorem dX8_readPlain_106 : decode cX8_readPlain 106 = .ok (.ifCond .eq 7, 3) := by decide +kernel
theorem dX8_readPlain_109 : decode cX8_readPlain 109 = .ok (.iconst 1, 1) := by decide +kernel
theorem dX8_readPlain_110 : decode cX8_readPlain 110 = .ok (.goto 4, 3) := by decide +kernel
theorem dX8_readPlain_113 : decode cX8_readPlain 113 = .ok (.iconst 0, 1) := by decide +kernel
theorem dX8_readPlain_114 : decode cX8_readPlain 114 = .ok (.ireturn, 1) := by decide +kernel
theorem dX8_readPlain_115 : decode cX8_readPlain 115 = .ok (.aload_n 1, 1) := by decide +kernel
theorem dX8_readPlain_116 : decode cX8_readPlain 116 = .ok (.invokestatic 127, 3) := by decide +kernel
theorem dX8_readPlain_119 : decode cX8_readPlain 119 = .ok (.istore 4, 2) := by decide +kernel
theorem dX8_readPlain_121 : decode cX8_readPlain 121 = .ok (.aload_n 1, 1) := by decide +kernel
theorem dX8_readPlain_122 : decode cX8_readPlain 122 = .ok (.iload 4, 2) := by decide +kernel
theorem dX8_readPlain_124 : decode cX8_readPlain 124 = .ok (.invokevirtual 88, 3) := by decide +kernel
theorem dX8_readPlain_127 : decode cX8_readPlain 127 = .ok (.ifCond .eq 29, 3) := by decide +kernel
theorem dX8_readPlain_130 : decode cX8_readPlain 130 = .ok (.aload_n 1, 1) := by decide +kernel
theorem dX8_readPlain_131 : decode cX8_readPlain 131 = .ok (.iconst 0, 1) := by decide +kernel
theorem dX8_readPlain_132 : decode cX8_readPlain 132 = .ok (.sipush 999, 3) := by decide +kernel
theorem dX8_readPlain_135 : decode cX8_readPlain 135 = .ok (.invokevirtual 131, 3) := by decide +kernel
theorem dX8_readPlain_138 : decode cX8_readPlain 138 = .ok (.ifCond .eq 18, 3) := by decide +kernel
theorem dX8_readPlain_141 : decode cX8_readPlain 141 = .ok (.aload_n 0, 1) := by decide +kernel
theorem dX8_readPlain_142 : decode cX8_readPlain 142 = .ok (.aload_n 1, 1) := by decide +kernel
theorem dX8_readPlain_143 : decode cX8_readPlain 143 = .ok (.aload_n 3, 1) := by decide +kernel
theorem dX8_readPlain_144 : decode cX8_readPlain 144 = .ok (.iload 4, 2) := by decide +kernel
theorem dX8_readPlain_146 : decode cX8_readPlain 146 = .ok (.invokevirtual 120, 3) := by decide +kernel
theorem dX8_readPlain_149 : decode cX8_readPlain 149 = .ok (.ifCond .eq 7, 3) := by decide +kernel
theorem dX8_readPlain_152 : decode cX8_readPlain 152 = .ok (.iconst 1, 1) := by decide +kernel
theorem dX8_readPlain_153 : decode cX8_readPlain 153 = .ok (.goto 4, 3) := by decide +kernel
theorem dX8_readPlain_156 : decode cX8_readPlain 156 = .ok (.iconst 0, 1) := by decide +kernel
theorem dX8_readPlain_157 : decode cX8_readPlain 157 = .ok (.ireturn, 1) := by decide +kernel
set_option maxRecDepth 100000 in
set_option maxHeartbeats 4000000 in
theorem kX8_readPlain {E : KE} {l : Launch} (hE : mx_ok E) (w3 : Nat) (hT : xOK E) (M : MM) {q : (Bool × MM)} (hf : fX8_readPlain w3 M = some q) : mx_Met E l yX8_readPlain cX8_readPlain 5 (some .boolean) 2 [.ref (E.2.1.2.1 134), .ref (E.2.1.2.1 3), .ref (E.2.1.2.1 9), .ref (E.2.1.2.2.1 w3)] M (some (.int (mx_b q.1))) q.2 := by
  refine mx_enter hE (by decide) (Nat.le_of_ble_eq_true rfl) ?_
  intro p e s m below meth c C hM hn ls hl
  have hx := C.1.1
  have hb := C.1.2.1
  have hown := C.1.2.2.2.1
  have hts := C.1.2.2.2.2
  have hl : lv_has ls 5 [(0, .ref (E.2.1.2.1 134)), (1, .ref (E.2.1.2.1 3)), (2, .ref (E.2.1.2.1 9)), (3, .ref (E.2.1.2.2.1 w3))] := hl
  rw [fX8_readPlain] at hf
  refine xw_sw C hT hM (hts _ qw_1181) dX8_readPlain_0 ?_
  refine lv_aload_n hx hb dX8_readPlain_3 rfl (lv_at hl 3 rfl) ?_
  obtain ⟨hw4, hf⟩ := mx_gd hf
  refine xw_ord C hT hw4 hM hl.1 (by decide) qw_1182 (st1 := [.int (nI w3), .ref (E.2.1.2.2.1 25)]) (rest := [.ref (E.2.1.2.2.1 25)]) rfl rfl (Nat.le_of_ble_eq_true rfl) dX8_readPlain_4 (fun H locs hM => ?_)
  refine xw_swa C hT hM hw4 dX8_readPlain_7 ?_
  by_cases hs0 : (xsw w3) = 12
  · replace hf := mx_ift hs0 hf
    refine lv_tableIn (tgt := 44) hx hb dX8_readPlain_8 (by rw [hs0]; decide) (by rw [hs0]; decide) (by rw [hs0]; rfl) (by decide) ?_
    refine lv_aload_n hx hb dX8_readPlain_44 rfl (lv_at hl 0 rfl) ?_
    refine lv_aload_n hx hb dX8_readPlain_45 rfl (lv_at hl 3 rfl) ?_
    refine lv_iconst (v := (0 : Int32)) hx hb dX8_readPlain_46 (by decide) ?_
    refine lv_iconst (v := (0 : Int32)) hx hb dX8_readPlain_47 (by decide) ?_
    obtain ⟨q48, hq48, hf⟩ := mx_bd hf
    refine mx_callV C hM hl.1 yo_X8_put (h' := 0) (by decide) qw_1188 qw_1190 qs_100 (ci := 8) (q := (RX8, TX8, 5)) rfl (xt_134 hT) (As := [.ref (E.2.1.2.2.1 w3), .int (0 : Int32), .int (0 : Int32)]) (rest := []) (st1 := []) (kX8_put C.2.2.2.1 w3 (0 : Int32) (0 : Int32) hT M hq48) rfl rfl rfl (Nat.le_of_ble_eq_true rfl) dX8_readPlain_48 (fun H locs hM => ?_)
    refine lv_iconst (v := (1 : Int32)) hx hb dX8_readPlain_51 (by decide) ?_
    exact mx_zret C hM (b := true) rfl hf dX8_readPlain_52
  replace hf := mx_iff hs0 hf
  by_cases hs1 : (xsw w3) = 13
  · replace hf := mx_ift hs1 hf
    refine lv_tableIn (tgt := 44) hx hb dX8_readPlain_8 (by rw [hs1]; decide) (by rw [hs1]; decide) (by rw [hs1]; rfl) (by decide) ?_
    refine lv_aload_n hx hb dX8_readPlain_44 rfl (lv_at hl 0 rfl) ?_
    refine lv_aload_n hx hb dX8_readPlain_45 rfl (lv_at hl 3 rfl) ?_
    refine lv_iconst (v := (0 : Int32)) hx hb dX8_readPlain_46 (by decide) ?_
    refine lv_iconst (v := (0 : Int32)) hx hb dX8_readPlain_47 (by decide) ?_
    obtain ⟨q48, hq48, hf⟩ := mx_bd hf
    refine mx_callV C hM hl.1 yo_X8_put (h' := 0) (by decide) qw_1188 qw_1190 qs_100 (ci := 8) (q := (RX8, TX8, 5)) rfl (xt_134 hT) (As := [.ref (E.2.1.2.2.1 w3), .int (0 : Int32), .int (0 : Int32)]) (rest := []) (st1 := []) (kX8_put C.2.2.2.1 w3 (0 : Int32) (0 : Int32) hT M hq48) rfl rfl rfl (Nat.le_of_ble_eq_true rfl) dX8_readPlain_48 (fun H locs hM => ?_)
    refine lv_iconst (v := (1 : Int32)) hx hb dX8_readPlain_51 (by decide) ?_
    exact mx_zret C hM (b := true) rfl hf dX8_readPlain_52
  replace hf := mx_iff hs1 hf
  by_cases hs2 : (xsw w3) = 14
  · replace hf := mx_ift hs2 hf
    refine lv_tableIn (tgt := 44) hx hb dX8_readPlain_8 (by rw [hs2]; decide) (by rw [hs2]; decide) (by rw [hs2]; rfl) (by decide) ?_
    refine lv_aload_n hx hb dX8_readPlain_44 rfl (lv_at hl 0 rfl) ?_
    refine lv_aload_n hx hb dX8_readPlain_45 rfl (lv_at hl 3 rfl) ?_
    refine lv_iconst (v := (0 : Int32)) hx hb dX8_readPlain_46 (by decide) ?_
    refine lv_iconst (v := (0 : Int32)) hx hb dX8_readPlain_47 (by decide) ?_
    obtain ⟨q48, hq48, hf⟩ := mx_bd hf
    refine mx_callV C hM hl.1 yo_X8_put (h' := 0) (by decide) qw_1188 qw_1190 qs_100 (ci := 8) (q := (RX8, TX8, 5)) rfl (xt_134 hT) (As := [.ref (E.2.1.2.2.1 w3), .int (0 : Int32), .int (0 : Int32)]) (rest := []) (st1 := []) (kX8_put C.2.2.2.1 w3 (0 : Int32) (0 : Int32) hT M hq48) rfl rfl rfl (Nat.le_of_ble_eq_true rfl) dX8_readPlain_48 (fun H locs hM => ?_)
    refine lv_iconst (v := (1 : Int32)) hx hb dX8_readPlain_51 (by decide) ?_
    exact mx_zret C hM (b := true) rfl hf dX8_readPlain_52
  replace hf := mx_iff hs2 hf
  by_cases hs3 : (xsw w3) = 15
  · replace hf := mx_ift hs3 hf
    refine lv_tableIn (tgt := 53) hx hb dX8_readPlain_8 (by rw [hs3]; decide) (by rw [hs3]; decide) (by rw [hs3]; rfl) (by decide) ?_
    refine lv_aload_n hx hb dX8_readPlain_53 rfl (lv_at hl 1 rfl) ?_
    refine lv_aload_n hx hb dX8_readPlain_54 rfl (lv_at hl 2 rfl) ?_
    refine lv_aload_n hx hb dX8_readPlain_55 rfl (lv_at hl 1 rfl) ?_
    obtain ⟨q56, hq56, hf⟩ := mx_bd hf
    refine mx_callVN C hM hl.1 yo_X7_name (h' := 0) (by decide) (nw_1196 hT C) qw_571 qs_15 (ci := 7) (q := (RX7, TX7, 12)) rfl (xt_3 hT) (As := []) (rest := [.ref (E.2.1.2.1 9), .ref (E.2.1.2.1 3)]) (st1 := [.long q56, .ref (E.2.1.2.1 9), .ref (E.2.1.2.1 3)]) (kX7_name C.2.2.2.1 hT M hq56) rfl rfl rfl (Nat.le_of_ble_eq_true rfl) dX8_readPlain_56 (fun H locs hM => ?_)
    obtain ⟨q59, hq59, hf⟩ := mx_bd hf
    refine mx_callVN C hM hl.1 yo_X3_ringNamed (h' := 0) (by decide) (nw_1197 hT C) qw_583 qs_18 (ci := 3) (q := (RX3, TX3, 18)) rfl (xt_9 hT) (As := [.long q56]) (rest := [.ref (E.2.1.2.1 3)]) (st1 := [.int q59, .ref (E.2.1.2.1 3)]) (kX3_ringNamed C.2.2.2.1 9 q56 hT xiI_9 M hq59) rfl rfl rfl (Nat.le_of_ble_eq_true rfl) dX8_readPlain_59 (fun H locs hM => ?_)
    obtain ⟨q62, hq62, hf⟩ := mx_bd hf
    refine mx_callVN C hM hl.1 yo_X7_takeNamed (h' := 1) (by decide) (nw_1198 hT C) qw_597 qs_21 (ci := 7) (q := (RX7, TX7, 12)) rfl (xt_3 hT) (As := [.int q59]) (rest := []) (st1 := [.int (mx_b q62.1)]) (kX7_takeNamed C.2.2.2.1 q59 hT M hq62) rfl rfl rfl (Nat.le_of_ble_eq_true rfl) dX8_readPlain_62 (fun H locs hM => ?_)
    refine lv_if_eq (tgt := 82) hx hb dX8_readPlain_65 (by decide) (fun hc65 => ?_) (fun hc65 => ?_)
    · replace hf := mx_ift hc65 hf
      refine lv_iconst (v := (0 : Int32)) hx hb dX8_readPlain_82 (by decide) ?_
      exact mx_zret C hM (b := false) rfl hf dX8_readPlain_83
    · replace hf := mx_iff hc65 hf
      refine lv_aload_n hx hb dX8_readPlain_68 rfl (lv_at hl 0 rfl) ?_
      refine lv_aload_n hx hb dX8_readPlain_69 rfl (lv_at hl 1 rfl) ?_
      refine lv_aload_n hx hb dX8_readPlain_70 rfl (lv_at hl 3 rfl) ?_
      refine lv_iconst (v := (0 : Int32)) hx hb dX8_readPlain_71 (by decide) ?_
      obtain ⟨q72, hq72, hf⟩ := mx_bd hf
      refine mx_callV C hM hl.1 yo_X8_putTaken (h' := 1) (by decide) qw_1199 qw_1201 qs_102 (ci := 8) (q := (RX8, TX8, 5)) rfl (xt_134 hT) (As := [.ref (E.2.1.2.1 3), .ref (E.2.1.2.2.1 w3), .int (0 : Int32)]) (rest := []) (st1 := [.int (mx_b q72.1)]) (kX8_putTaken C.2.2.2.1 w3 (0 : Int32) hT q62.2 hq72) rfl rfl rfl (Nat.le_of_ble_eq_true rfl) dX8_readPlain_72 (fun H locs hM => ?_)
      refine lv_if_eq (tgt := 82) hx hb dX8_readPlain_75 (by decide) (fun hc75 => ?_) (fun hc75 => ?_)
      · replace hf := mx_ift hc75 hf
        refine lv_iconst (v := (0 : Int32)) hx hb dX8_readPlain_82 (by decide) ?_
        exact mx_zret C hM (b := false) rfl hf dX8_readPlain_83
      · replace hf := mx_iff hc75 hf
        refine lv_iconst (v := (1 : Int32)) hx hb dX8_readPlain_78 (by decide) ?_
        refine lv_goto (tgt := 83) hx hb dX8_readPlain_79 (by decide) ?_
        exact mx_zret C hM (b := true) rfl hf dX8_readPlain_83
  replace hf := mx_iff hs3 hf
  by_cases hs4 : (xsw w3) = 16
  · replace hf := mx_ift hs4 hf
    refine lv_tableIn (tgt := 84) hx hb dX8_readPlain_8 (by rw [hs4]; decide) (by rw [hs4]; decide) (by rw [hs4]; rfl) (by decide) ?_
    refine lv_aload_n hx hb dX8_readPlain_84 rfl (lv_at hl 1 rfl) ?_
    refine lv_aload_n hx hb dX8_readPlain_85 rfl (lv_at hl 2 rfl) ?_
    refine lv_aload_n hx hb dX8_readPlain_86 rfl (lv_at hl 1 rfl) ?_
    obtain ⟨q87, hq87, hf⟩ := mx_bd hf
    refine mx_callVN C hM hl.1 yo_X7_name (h' := 0) (by decide) (nw_1196 hT C) qw_571 qs_15 (ci := 7) (q := (RX7, TX7, 12)) rfl (xt_3 hT) (As := []) (rest := [.ref (E.2.1.2.1 9), .ref (E.2.1.2.1 3)]) (st1 := [.long q87, .ref (E.2.1.2.1 9), .ref (E.2.1.2.1 3)]) (kX7_name C.2.2.2.1 hT M hq87) rfl rfl rfl (Nat.le_of_ble_eq_true rfl) dX8_readPlain_87 (fun H locs hM => ?_)
    obtain ⟨q90, hq90, hf⟩ := mx_bd hf
    refine mx_callVN C hM hl.1 yo_X3_personNamed (h' := 0) (by decide) (nw_1203 hT C) qw_579 qs_17 (ci := 3) (q := (RX3, TX3, 18)) rfl (xt_9 hT) (As := [.long q87]) (rest := [.ref (E.2.1.2.1 3)]) (st1 := [.int q90, .ref (E.2.1.2.1 3)]) (kX3_personNamed C.2.2.2.1 9 q87 hT xiI_9 M hq90) rfl rfl rfl (Nat.le_of_ble_eq_true rfl) dX8_readPlain_90 (fun H locs hM => ?_)
    obtain ⟨q93, hq93, hf⟩ := mx_bd hf
    refine mx_callVN C hM hl.1 yo_X7_takeNamed (h' := 1) (by decide) (nw_1198 hT C) qw_597 qs_21 (ci := 7) (q := (RX7, TX7, 12)) rfl (xt_3 hT) (As := [.int q90]) (rest := []) (st1 := [.int (mx_b q93.1)]) (kX7_takeNamed C.2.2.2.1 q90 hT M hq93) rfl rfl rfl (Nat.le_of_ble_eq_true rfl) dX8_readPlain_93 (fun H locs hM => ?_)
    refine lv_if_eq (tgt := 113) hx hb dX8_readPlain_96 (by decide) (fun hc96 => ?_) (fun hc96 => ?_)
    · replace hf := mx_ift hc96 hf
      refine lv_iconst (v := (0 : Int32)) hx hb dX8_readPlain_113 (by decide) ?_
      exact mx_zret C hM (b := false) rfl hf dX8_readPlain_114
    · replace hf := mx_iff hc96 hf
      refine lv_aload_n hx hb dX8_readPlain_99 rfl (lv_at hl 0 rfl) ?_
      refine lv_aload_n hx hb dX8_readPlain_100 rfl (lv_at hl 1 rfl) ?_
      refine lv_aload_n hx hb dX8_readPlain_101 rfl (lv_at hl 3 rfl) ?_
      refine lv_iconst (v := (0 : Int32)) hx hb dX8_readPlain_102 (by decide) ?_
      obtain ⟨q103, hq103, hf⟩ := mx_bd hf
      refine mx_callV C hM hl.1 yo_X8_putTaken (h' := 1) (by decide) qw_1199 qw_1201 qs_102 (ci := 8) (q := (RX8, TX8, 5)) rfl (xt_134 hT) (As := [.ref (E.2.1.2.1 3), .ref (E.2.1.2.2.1 w3), .int (0 : Int32)]) (rest := []) (st1 := [.int (mx_b q103.1)]) (kX8_putTaken C.2.2.2.1 w3 (0 : Int32) hT q93.2 hq103) rfl rfl rfl (Nat.le_of_ble_eq_true rfl) dX8_readPlain_103 (fun H locs hM => ?_)
      refine lv_if_eq (tgt := 113) hx hb dX8_readPlain_106 (by decide) (fun hc106 => ?_) (fun hc106 => ?_)
      · replace hf := mx_ift hc106 hf
        refine lv_iconst (v := (0 : Int32)) hx hb dX8_readPlain_113 (by decide) ?_
        exact mx_zret C hM (b := false) rfl hf dX8_readPlain_114
      · replace hf := mx_iff hc106 hf
        refine lv_iconst (v := (1 : Int32)) hx hb dX8_readPlain_109 (by decide) ?_
        refine lv_goto (tgt := 114) hx hb dX8_readPlain_110 (by decide) ?_
        exact mx_zret C hM (b := true) rfl hf dX8_readPlain_114
  replace hf := mx_iff hs4 hf
  refine lv_tableOut (tgt := 115) hx hb dX8_readPlain_8 (by have hh := And.intro trivial trivial; have hh0 := lv_neT hs0 (by decide : (12 : Int32).toInt = 12); have hh1 := lv_neT hs1 (by decide : (13 : Int32).toInt = 13); have hh2 := lv_neT hs2 (by decide : (14 : Int32).toInt = 14); have hh3 := lv_neT hs3 (by decide : (15 : Int32).toInt = 15); have hh4 := lv_neT hs4 (by decide : (16 : Int32).toInt = 16); omega) (by decide) ?_
  refine lv_aload_n hx hb dX8_readPlain_115 rfl (lv_at hl 1 rfl) ?_
  obtain ⟨q116, hq116, hf⟩ := mx_bd hf
  refine mx_callS C hM hl.1 yo_X8_signAt (h' := 1) (by decide) qw_1204 qw_1205 (As := [.ref (E.2.1.2.1 3)]) (rest := []) (st1 := [.int q116]) (kX8_signAt C.2.2.2.1 hT M hq116) rfl rfl rfl (Nat.le_of_ble_eq_true rfl) dX8_readPlain_116 (fun H locs hM => ?_)
  refine lv_istore (lv' := [(4, .int q116), (0, .ref (E.2.1.2.1 134)), (1, .ref (E.2.1.2.1 3)), (2, .ref (E.2.1.2.1 9)), (3, .ref (E.2.1.2.2.1 w3))]) hx hb dX8_readPlain_119 hl (by decide) rfl (fun ls hl => ?_)
  refine lv_aload_n hx hb dX8_readPlain_121 rfl (lv_at hl 2 rfl) ?_
  refine lv_iload hx hb dX8_readPlain_122 (lv_at hl 0 rfl) ?_
  obtain ⟨q124, hq124, hf⟩ := mx_bd hf
  refine mx_callVN C hM hl.1 yo_X7_takeSign (h' := 1) (by decide) (nw_1185 hT C) qw_616 qs_25 (ci := 7) (q := (RX7, TX7, 12)) rfl (xt_3 hT) (As := [.int q116]) (rest := []) (st1 := [.int (mx_b q124.1)]) (kX7_takeSign C.2.2.2.1 q116 hT M hq124) rfl rfl rfl (Nat.le_of_ble_eq_true rfl) dX8_readPlain_124 (fun H locs hM => ?_)
  refine lv_if_eq (tgt := 156) hx hb dX8_readPlain_127 (by decide) (fun hc127 => ?_) (fun hc127 => ?_)
  · replace hf := mx_ift hc127 hf
    refine lv_iconst (v := (0 : Int32)) hx hb dX8_readPlain_156 (by decide) ?_
    exact mx_zret C hM (b := false) rfl hf dX8_readPlain_157
  · replace hf := mx_iff hc127 hf
    refine lv_aload_n hx hb dX8_readPlain_130 rfl (lv_at hl 2 rfl) ?_
    refine lv_iconst (v := (0 : Int32)) hx hb dX8_readPlain_131 (by decide) ?_
    refine lv_sipush (v := (999 : Int32)) hx hb dX8_readPlain_132 (by decide) ?_
    obtain ⟨q135, hq135, hf⟩ := mx_bd hf
    refine mx_callVN C hM hl.1 yo_X7_takeNumber (h' := 1) (by decide) (nw_1207 hT C) qw_587 qs_19 (ci := 7) (q := (RX7, TX7, 12)) rfl (xt_3 hT) (As := [.int (0 : Int32), .int (999 : Int32)]) (rest := []) (st1 := [.int (mx_b q135.1)]) (kX7_takeNumber C.2.2.2.1 (0 : Int32) (999 : Int32) hT q124.2 hq135) rfl rfl rfl (Nat.le_of_ble_eq_true rfl) dX8_readPlain_135 (fun H locs hM => ?_)
    refine lv_if_eq (tgt := 156) hx hb dX8_readPlain_138 (by decide) (fun hc138 => ?_) (fun hc138 => ?_)
    · replace hf := mx_ift hc138 hf
      refine lv_iconst (v := (0 : Int32)) hx hb dX8_readPlain_156 (by decide) ?_
      exact mx_zret C hM (b := false) rfl hf dX8_readPlain_157
    · replace hf := mx_iff hc138 hf
      refine lv_aload_n hx hb dX8_readPlain_141 rfl (lv_at hl 1 rfl) ?_
      refine lv_aload_n hx hb dX8_readPlain_142 rfl (lv_at hl 2 rfl) ?_
      refine lv_aload_n hx hb dX8_readPlain_143 rfl (lv_at hl 4 rfl) ?_
      refine lv_iload hx hb dX8_readPlain_144 (lv_at hl 0 rfl) ?_
      obtain ⟨q146, hq146, hf⟩ := mx_bd hf
      refine mx_callV C hM hl.1 yo_X8_putTaken (h' := 1) (by decide) qw_1199 qw_1201 qs_102 (ci := 8) (q := (RX8, TX8, 5)) rfl (xt_134 hT) (As := [.ref (E.2.1.2.1 3), .ref (E.2.1.2.2.1 w3), .int q116]) (rest := []) (st1 := [.int (mx_b q146.1)]) (kX8_putTaken C.2.2.2.1 w3 q116 hT q135.2 hq146) rfl rfl rfl (Nat.le_of_ble_eq_true rfl) dX8_readPlain_146 (fun H locs hM => ?_)
      refine lv_if_eq (tgt := 156) hx hb dX8_readPlain_149 (by decide) (fun hc149 => ?_) (fun hc149 => ?_)
      · replace hf := mx_ift hc149 hf
        refine lv_iconst (v := (0 : Int32)) hx hb dX8_readPlain_156 (by decide) ?_
        exact mx_zret C hM (b := false) rfl hf dX8_readPlain_157
      · replace hf := mx_iff hc149 hf
        refine lv_iconst (v := (1 : Int32)) hx hb dX8_readPlain_152 (by decide) ?_
        refine lv_goto (tgt := 157) hx hb dX8_readPlain_153 (by decide) ?_
        exact mx_zret C hM (b := true) rfl hf dX8_readPlain_157
theorem dX8_readOne_0 : decode cX8_readOne 0 = .ok (.aload_n 1, 1) := by decide +kernel
theorem dX8_readOne_1 : decode cX8_readOne 1 = .ok (.bipush 40, 2) := by decide +kernel
theorem dX8_readOne_3 : decode cX8_readOne 3 = .ok (.invokevirtual 80, 3) := by decide +kernel
theorem dX8_readOne_6 : decode cX8_readOne 6 = .ok (.istore 4, 2) := by decide +kernel
theorem dX8_readOne_8 : decode cX8_readOne 8 = .ok (.iload 4, 2) := by decide +kernel
theorem dX8_readOne_10 : decode cX8_readOne 10 = .ok (.ifCond .ne 19, 3) := by decide +kernel
theorem dX8_readOne_13 : decode cX8_readOne 13 = .ok (.aload_n 1, 1) := by decide +kernel
theorem dX8_readOne_14 : decode cX8_readOne 14 = .ok (.invokevirtual 60, 3) := by decide +kernel
theorem dX8_readOne_17 : decode cX8_readOne 17 = .ok (.invokestatic 84, 3) := by decide +kernel
theorem dX8_readOne_20 : decode cX8_readOne 20 = .ok (.ifCond .ne 9, 3) := by decide +kernel
theorem dX8_readOne_23 : decode cX8_readOne 23 = .ok (.aload_n 1, 1) := by decide +kernel
theorem dX8_readOne_24 : decode cX8_readOne 24 = .ok (.iconst 1, 1) := by decide +kernel
theorem dX8_readOne_25 : decode cX8_readOne 25 = .ok (.invokevirtual 54, 3) := by decide +kernel
theorem dX8_readOne_28 : decode cX8_readOne 28 = .ok (.ireturn, 1) := by decide +kernel
theorem dX8_readOne_29 : decode cX8_readOne 29 = .ok (.aload_n 0, 1) := by decide +kernel
theorem dX8_readOne_30 : decode cX8_readOne 30 = .ok (.getfield 32, 3) := by decide +kernel
theorem dX8_readOne_33 : decode cX8_readOne 33 = .ok (.bipush 20, 2) := by decide +kernel
theorem dX8_readOne_35 : decode cX8_readOne 35 = .ok (.if_icmp .ge 9, 3) := by decide +kernel
theorem dX8_readOne_38 : decode cX8_readOne 38 = .ok (.iload_n 3, 1) := by decide +kernel
theorem dX8_readOne_39 : decode cX8_readOne 39 = .ok (.bipush 8, 2) := by decide +kernel
theorem dX8_readOne_41 : decode cX8_readOne 41 = .ok (.if_icmp .le 9, 3) := by decide +kernel
theorem dX8_readOne_44 : decode cX8_readOne 44 = .ok (.aload_n 1, 1) := by decide +kernel
theorem dX8_readOne_45 : decode cX8_readOne 45 = .ok (.iconst 4, 1) := by decide +kernel
theorem dX8_readOne_46 : decode cX8_readOne 46 = .ok (.invokevirtual 54, 3) := by decide +kernel
theorem dX8_readOne_49 : decode cX8_readOne 49 = .ok (.ireturn, 1) := by decide +kernel
theorem dX8_readOne_50 : decode cX8_readOne 50 = .ok (.aload_n 0, 1) := by decide +kernel
theorem dX8_readOne_51 : decode cX8_readOne 51 = .ok (.dup, 1) := by decide +kernel
theorem dX8_readOne_52 : decode cX8_readOne 52 = .ok (.getfield 32, 3) := by decide +kernel
theorem dX8_readOne_55 : decode cX8_readOne 55 = .ok (.iconst 1, 1) := by decide +kernel
theorem dX8_readOne_56 : decode cX8_readOne 56 = .ok (.iadd, 1) := by decide +kernel
theorem dX8_readOne_57 : decode cX8_readOne 57 = .ok (.putfield 32, 3) := by decide +kernel
theorem dX8_readOne_60 : decode cX8_readOne 60 = .ok (.aload_n 1, 1) := by decide +kernel
theorem dX8_readOne_61 : decode cX8_readOne 61 = .ok (.invokevirtual 60, 3) := by decide +kernel
theorem dX8_readOne_64 : decode cX8_readOne 64 = .ok (.astore 5, 2) := by decide +kernel
theorem dX8_readOne_66 : decode cX8_readOne 66 = .ok (.aload_n 1, 1) := by decide +kernel
theorem dX8_readOne_67 : decode cX8_readOne 67 = .ok (.invokevirtual 67, 3) := by decide +kernel
theorem dX8_readOne_70 : decode cX8_readOne 70 = .ok (.iload 4, 2) := by decide +kernel
theorem dX8_readOne_72 : decode cX8_readOne 72 = .ok (.ifCond .eq 30, 3) := by decide +kernel
theorem dX8_readOne_75 : decode cX8_readOne 75 = .ok (.aload_n 0, 1) := by decide +kernel
theorem dX8_readOne_76 : decode cX8_readOne 76 = .ok (.aload_n 1, 1) := by decide +kernel
theorem dX8_readOne_77 : decode cX8_readOne 77 = .ok (.aload_n 2, 1) := by decide +kernel
theorem dX8_readOne_78 : decode cX8_readOne 78 = .ok (.iload_n 3, 1) := by decide +kernel
theorem dX8_readOne_79 : decode cX8_readOne 79 = .ok (.iconst 1, 1) := by decide +kernel
theorem dX8_readOne_80 : decode cX8_readOne 80 = .ok (.iadd, 1) := by decide +kernel
theorem dX8_readOne_81 : decode cX8_readOne 81 = .ok (.invokevirtual 44, 3) := by decide +kernel
theorem dX8_readOne_84 : decode cX8_readOne 84 = .ok (.ifCond .eq 16, 3) := by decide +kernel
theorem dX8_readOne_87 : decode cX8_readOne 87 = .ok (.aload_n 1, 1) := by decide +kernel
theorem dX8_readOne_88 : decode cX8_readOne 88 = .ok (.bipush 41, 2) := by decide +kernel
theorem dX8_readOne_90 : decode cX8_readOne 90 = .ok (.invokevirtual 88, 3) := by decide +kernel
theorem dX8_readOne_93 : decode cX8_readOne 93 = .ok (.ifCond .eq 7, 3) := by decide +kernel
theorem dX8_readOne_96 : decode cX8_readOne 96 = .ok (.iconst 1, 1) := by decide +kernel
theorem dX8_readOne_97 : decode cX8_readOne 97 = .ok (.goto 4, 3) := by decide +kernel
theorem dX8_readOne_100 : decode cX8_readOne 100 = .ok (.iconst 0, 1) := by decide +kernel
theorem dX8_readOne_101 : decode cX8_readOne 101 = .ok (.ireturn, 1) := by decide +kernel
theorem dX8_readOne_102 : decode cX8_readOne 102 = .ok (.aload 5, 2) := by decide +kernel
theorem dX8_readOne_104 : decode cX8_readOne 104 = .ok (.getstatic 91, 3) := by decide +kernel
theorem dX8_readOne_107 : decode cX8_readOne 107 = .ok (.if_acmp .ne 28, 3) := by decide +kernel
theorem dX8_readOne_110 : decode cX8_readOne 110 = .ok (.aload_n 0, 1) := by decide +kernel
theorem dX8_readOne_111 : decode cX8_readOne 111 = .ok (.aload_n 1, 1) := by decide +kernel
theorem dX8_readOne_112 : decode cX8_readOne 112 = .ok (.aload_n 2, 1) := by decide +kernel
theorem dX8_readOne_113 : decode cX8_readOne 113 = .ok (.iload_n 3, 1) := by decide +kernel
theorem dX8_readOne_114 : decode cX8_readOne 114 = .ok (.iconst 1, 1) := by decide +kernel
theorem dX8_readOne_115 : decode cX8_readOne 115 = .ok (.iadd, 1) := by decide +kernel
theorem dX8_readOne_116 : decode cX8_readOne 116 = .ok (.invokevirtual 74, 3) := by decide +kernel
theorem dX8_readOne_119 : decode cX8_readOne 119 = .ok (.ifCond .ne 5, 3) := by decide +kernel
theorem dX8_readOne_122 : decode cX8_readOne 122 = .ok (.iconst 0, 1) := by decide +kernel
theorem dX8_readOne_123 : decode cX8_readOne 123 = .ok (.ireturn, 1) := by decide +kernel
theorem dX8_readOne_124 : decode cX8_readOne 124 = .ok (.aload_n 0, 1) := by decide +kernel
theorem dX8_readOne_125 : decode cX8_readOne 125 = .ok (.getstatic 91, 3) := by decide +kernel
theorem dX8_readOne_128 : decode cX8_readOne 128 = .ok (.iconst 0, 1) := by decide +kernel
theorem dX8_readOne_129 : decode cX8_readOne 129 = .ok (.iconst 0, 1) := by decide +kernel
theorem dX8_readOne_130 : decode cX8_readOne 130 = .ok (.invokevirtual 70, 3) := by decide +kernel
theorem dX8_readOne_133 : decode cX8_readOne 133 = .ok (.iconst 1, 1) := by decide +kernel
theorem dX8_readOne_134 : decode cX8_readOne 134 = .ok (.ireturn, 1) := by decide +kernel
theorem dX8_readOne_135 : decode cX8_readOne 135 = .ok (.aload_n 0, 1) := by decide +kernel
theorem dX8_readOne_136 : decode cX8_readOne 136 = .ok (.aload_n 1, 1) := by decide +kernel
theorem dX8_readOne_137 : decode cX8_readOne 137 = .ok (.aload_n 2, 1) := by decide +kernel
theorem dX8_readOne_138 : decode cX8_readOne 138 = .ok (.aload 5, 2) := by decide +kernel
theorem dX8_readOne_140 : decode cX8_readOne 140 = .ok (.invokevirtual 94, 3) := by decide +kernel
theorem dX8_readOne_143 : decode cX8_readOne 143 = .ok (.ireturn, 1) := by decide +kernel
set_option maxRecDepth 100000 in
set_option maxHeartbeats 4000000 in
theorem wfX8_readOne_44 {E : KE} {p : Program} {l : Launch} {e : Env} {s : State} {m : MethodId} {args : Array Value} {below : List Frame} {meth : Method} {c : Code} {q : (Bool × MM)} (C : mx_C E p m c cX8_readOne 6 s args RX8 meth (some .boolean)) (rc : Int32 → MM → Option (Bool × MM)) (ro : Int32 → MM → Option (Bool × MM)) (i3 : Int32) (hT : xOK E) (h : Nat) (h_rc : Nat) (hl_rc : h_rc < h) (hy_rc : ∀ (d : Int32) (M : MM) (q : Bool × MM), rc d M = some q → mx_Met E l yX8_readCond cX8_readCond 5 (some .boolean) h_rc [.ref (E.2.1.2.1 134), .ref (E.2.1.2.1 3), .ref (E.2.1.2.1 9), .int d] M (some (.int (mx_b q.1))) q.2) (h_ro : Nat) (hl_ro : h_ro < h) (hy_ro : ∀ (d : Int32) (M : MM) (q : Bool × MM), ro d M = some q → mx_Met E l yX8_readOne cX8_readOne 6 (some .boolean) h_ro [.ref (E.2.1.2.1 134), .ref (E.2.1.2.1 3), .ref (E.2.1.2.1 9), .int d] M (some (.int (mx_b q.1))) q.2) (hl_h : 10 < h)   : ∀ (M : MM) (H : Heap) (locs : List Loc) (ls : Array Slot), fX8_readOne_44 rc ro i3 M = some q → mx_H E s M H locs → lv_has ls 6 [(1, .ref (E.2.1.2.1 3))] → W p l e (mx_rm h) s m args below meth c H locs 0 0 (mx_Z E below args s (some (.int (mx_b q.1))) q.2) (F0 m 44 ls []) := by
  have hx := C.1.1
  have hb := C.1.2.1
  have hown := C.1.2.2.2.1
  have hts := C.1.2.2.2.2
  intro M H locs ls hf hM hl
  rw [fX8_readOne_44] at hf
  refine lv_aload_n hx hb dX8_readOne_44 rfl (lv_at hl 0 rfl) ?_
  refine lv_iconst (v := (4 : Int32)) hx hb dX8_readOne_45 (by decide) ?_
  obtain ⟨q46, hq46, hf⟩ := mx_bd hf
  refine mx_callVN C hM hl.1 yo_X7_fail (h' := 0) (by omega) (nw_1183 hT C) qw_563 qs_13 (ci := 7) (q := (RX7, TX7, 12)) rfl (xt_3 hT) (As := [.int (4 : Int32)]) (rest := []) (st1 := [.int (mx_b q46.1)]) (kX7_fail C.2.2.2.1 (4 : Int32) hT M hq46) rfl rfl rfl (Nat.le_of_ble_eq_true rfl) dX8_readOne_46 (fun H locs hM => ?_)
  exact mx_zret C hM (b := q46.1) rfl hf dX8_readOne_49
set_option maxRecDepth 100000 in
set_option maxHeartbeats 4000000 in
theorem wfX8_readOne_29 {E : KE} {p : Program} {l : Launch} {e : Env} {s : State} {m : MethodId} {args : Array Value} {below : List Frame} {meth : Method} {c : Code} {q : (Bool × MM)} (C : mx_C E p m c cX8_readOne 6 s args RX8 meth (some .boolean)) (rc : Int32 → MM → Option (Bool × MM)) (ro : Int32 → MM → Option (Bool × MM)) (i3 : Int32) (hT : xOK E) (h : Nat) (h_rc : Nat) (hl_rc : h_rc < h) (hy_rc : ∀ (d : Int32) (M : MM) (q : Bool × MM), rc d M = some q → mx_Met E l yX8_readCond cX8_readCond 5 (some .boolean) h_rc [.ref (E.2.1.2.1 134), .ref (E.2.1.2.1 3), .ref (E.2.1.2.1 9), .int d] M (some (.int (mx_b q.1))) q.2) (h_ro : Nat) (hl_ro : h_ro < h) (hy_ro : ∀ (d : Int32) (M : MM) (q : Bool × MM), ro d M = some q → mx_Met E l yX8_readOne cX8_readOne 6 (some .boolean) h_ro [.ref (E.2.1.2.1 134), .ref (E.2.1.2.1 3), .ref (E.2.1.2.1 9), .int d] M (some (.int (mx_b q.1))) q.2) (hl_h : 10 < h)   : ∀ (b4 : Bool) (M : MM) (H : Heap) (locs : List Loc) (ls : Array Slot), fX8_readOne_29 rc ro i3 b4 M = some q → mx_H E s M H locs → lv_has ls 6 [(0, .ref (E.2.1.2.1 134)), (1, .ref (E.2.1.2.1 3)), (2, .ref (E.2.1.2.1 9)), (3, .int i3), (4, .int (mx_b b4))] → W p l e (mx_rm h) s m args below meth c H locs 0 0 (mx_Z E below args s (some (.int (mx_b q.1))) q.2) (F0 m 29 ls []) := by
  have hx := C.1.1
  have hb := C.1.2.1
  have hown := C.1.2.2.2.1
  have hts := C.1.2.2.2.2
  intro b4 M H locs ls hf hM hl
  rw [fX8_readOne_29] at hf
  refine lv_aload_n hx hb dX8_readOne_29 rfl (lv_at hl 0 rfl) ?_
  refine gX8_32 C hM (xt_134 hT) (f := (0, 0)) rfl (v := .int (M.1 134 4)) rfl dX8_readOne_30 ?_
  refine lv_bipush (v := (20 : Int32)) hx hb dX8_readOne_33 (by decide) ?_
  refine lv_icmp_ge (tgt := 44) hx hb dX8_readOne_35 (by decide) (fun hc35 => ?_) (fun hc35 => ?_)
  · replace hf := mx_ift hc35 hf
    exact wfX8_readOne_44 C rc ro i3 hT h h_rc hl_rc hy_rc h_ro hl_ro hy_ro hl_h M _ _ _ hf hM (lv_sub hl [1] rfl)
  · replace hf := mx_iff hc35 hf
    refine lv_iload_n hx hb dX8_readOne_38 rfl (lv_at hl 3 rfl) ?_
    refine lv_bipush (v := (8 : Int32)) hx hb dX8_readOne_39 (by decide) ?_
    refine lv_icmp_le (tgt := 50) hx hb dX8_readOne_41 (by decide) (fun hc41 => ?_) (fun hc41 => ?_)
    · replace hf := mx_ift hc41 hf
      refine lv_aload_n hx hb dX8_readOne_50 rfl (lv_at hl 0 rfl) ?_
      refine lv_dup hx hb dX8_readOne_51 rfl ?_
      refine gX8_32 C hM (xt_134 hT) (f := (0, 0)) rfl (v := .int (M.1 134 4)) rfl dX8_readOne_52 ?_
      refine lv_iconst (v := (1 : Int32)) hx hb dX8_readOne_55 (by decide) ?_
      refine lv_iadd hx hb dX8_readOne_56 ?_
      refine pX8_32 C hM (xt_134 hT) rfl rfl rfl dX8_readOne_57 (fun H locs hM => ?_)
      refine lv_aload_n hx hb dX8_readOne_60 rfl (lv_at hl 1 rfl) ?_
      obtain ⟨q61, hq61, hf⟩ := mx_bd hf
      refine mx_callVN C hM hl.1 yo_X7_key (h' := 0) (by omega) (nw_1177 hT C) qw_549 qs_11 (ci := 7) (q := (RX7, TX7, 12)) rfl (xt_3 hT) (As := []) (rest := []) (st1 := [.ref (E.2.1.2.2.1 q61)]) (kX7_key C.2.2.2.1 hT (mx_si M 134 4 ((M.1 134 4) + (1 : Int32))) hq61) rfl rfl rfl (Nat.le_of_ble_eq_true rfl) dX8_readOne_61 (fun H locs hM => ?_)
      refine lv_astore (lv' := [(5, .ref (E.2.1.2.2.1 q61)), (0, .ref (E.2.1.2.1 134)), (1, .ref (E.2.1.2.1 3)), (2, .ref (E.2.1.2.1 9)), (3, .int i3), (4, .int (mx_b b4))]) hx hb dX8_readOne_64 hl (by decide) rfl (fun ls hl => ?_)
      refine lv_aload_n hx hb dX8_readOne_66 rfl (lv_at hl 2 rfl) ?_
      obtain ⟨q67, hq67, hf⟩ := mx_bd hf
      refine mx_callVN C hM hl.1 yo_X7_advance (h' := 0) (by omega) (nw_1184 hT C) qw_567 qs_14 (ci := 7) (q := (RX7, TX7, 12)) rfl (xt_3 hT) (As := []) (rest := []) (st1 := []) (kX7_advance C.2.2.2.1 hT (mx_si M 134 4 ((M.1 134 4) + (1 : Int32))) hq67) rfl rfl rfl (Nat.le_of_ble_eq_true rfl) dX8_readOne_67 (fun H locs hM => ?_)
      refine lv_iload hx hb dX8_readOne_70 (lv_at hl 5 rfl) ?_
      refine lv_if_eq (tgt := 102) hx hb dX8_readOne_72 (by decide) (fun hc72 => ?_) (fun hc72 => ?_)
      · replace hf := mx_ift hc72 hf
        refine lv_aload hx hb dX8_readOne_102 (lv_at hl 0 rfl) ?_
        refine xw_get C hT (w := 14) (by decide) hM (hts _ qw_1186) dX8_readOne_104 ?_
        obtain ⟨hw107a, hf⟩ := mx_gd hf
        refine xw_ne (tgt := 135) C hT hw107a (by decide) dX8_readOne_107 (by decide) (fun hc107 => ?_) (fun hc107 => ?_)
        · replace hf := mx_iff hc107 hf
          refine lv_aload_n hx hb dX8_readOne_135 rfl (lv_at hl 1 rfl) ?_
          refine lv_aload_n hx hb dX8_readOne_136 rfl (lv_at hl 2 rfl) ?_
          refine lv_aload_n hx hb dX8_readOne_137 rfl (lv_at hl 3 rfl) ?_
          refine lv_aload hx hb dX8_readOne_138 (lv_at hl 0 rfl) ?_
          obtain ⟨q140, hq140, hf⟩ := mx_bd hf
          refine mx_callV C hM hl.1 yo_X8_readPlain (h' := 2) (by omega) qw_1192 qw_1194 qs_101 (ci := 8) (q := (RX8, TX8, 5)) rfl (xt_134 hT) (As := [.ref (E.2.1.2.1 3), .ref (E.2.1.2.1 9), .ref (E.2.1.2.2.1 q61)]) (rest := []) (st1 := [.int (mx_b q140.1)]) (kX8_readPlain C.2.2.2.1 q61 hT q67 hq140) rfl rfl rfl (Nat.le_of_ble_eq_true rfl) dX8_readOne_140 (fun H locs hM => ?_)
          exact mx_zret C hM (b := q140.1) rfl hf dX8_readOne_143
        · replace hf := mx_ift hc107 hf
          refine lv_aload_n hx hb dX8_readOne_110 rfl (lv_at hl 1 rfl) ?_
          refine lv_aload_n hx hb dX8_readOne_111 rfl (lv_at hl 2 rfl) ?_
          refine lv_aload_n hx hb dX8_readOne_112 rfl (lv_at hl 3 rfl) ?_
          refine lv_iload_n hx hb dX8_readOne_113 rfl (lv_at hl 4 rfl) ?_
          refine lv_iconst (v := (1 : Int32)) hx hb dX8_readOne_114 (by decide) ?_
          refine lv_iadd hx hb dX8_readOne_115 ?_
          obtain ⟨q116, hq116, hf⟩ := mx_bd hf
          refine mx_callV C hM hl.1 yo_X8_readOne (h' := h_ro) hl_ro qw_1172 qw_1174 qs_99 (ci := 8) (q := (RX8, TX8, 5)) rfl (xt_134 hT) (As := [.ref (E.2.1.2.1 3), .ref (E.2.1.2.1 9), .int (i3 + (1 : Int32))]) (rest := []) (st1 := [.int (mx_b q116.1)]) (hy_ro (i3 + (1 : Int32)) q67 _ hq116) rfl rfl rfl (Nat.le_of_ble_eq_true rfl) dX8_readOne_116 (fun H locs hM => ?_)
          refine lv_if_ne (tgt := 124) hx hb dX8_readOne_119 (by decide) (fun hc119 => ?_) (fun hc119 => ?_)
          · replace hf := mx_iff hc119 hf
            refine lv_aload_n hx hb dX8_readOne_124 rfl (lv_at hl 1 rfl) ?_
            refine xw_get C hT (w := 14) (by decide) hM (hts _ qw_1186) dX8_readOne_125 ?_
            refine lv_iconst (v := (0 : Int32)) hx hb dX8_readOne_128 (by decide) ?_
            refine lv_iconst (v := (0 : Int32)) hx hb dX8_readOne_129 (by decide) ?_
            obtain ⟨q130, hq130, hf⟩ := mx_bd hf
            refine mx_callV C hM hl.1 yo_X8_put (h' := 0) (by omega) qw_1188 qw_1190 qs_100 (ci := 8) (q := (RX8, TX8, 5)) rfl (xt_134 hT) (As := [.ref (E.2.1.2.2.1 14), .int (0 : Int32), .int (0 : Int32)]) (rest := []) (st1 := []) (kX8_put C.2.2.2.1 14 (0 : Int32) (0 : Int32) hT q116.2 hq130) rfl rfl rfl (Nat.le_of_ble_eq_true rfl) dX8_readOne_130 (fun H locs hM => ?_)
            refine lv_iconst (v := (1 : Int32)) hx hb dX8_readOne_133 (by decide) ?_
            exact mx_zret C hM (b := true) rfl hf dX8_readOne_134
          · replace hf := mx_ift hc119 hf
            refine lv_iconst (v := (0 : Int32)) hx hb dX8_readOne_122 (by decide) ?_
            exact mx_zret C hM (b := false) rfl hf dX8_readOne_123
      · replace hf := mx_iff hc72 hf
        refine lv_aload_n hx hb dX8_readOne_75 rfl (lv_at hl 1 rfl) ?_
        refine lv_aload_n hx hb dX8_readOne_76 rfl (lv_at hl 2 rfl) ?_
        refine lv_aload_n hx hb dX8_readOne_77 rfl (lv_at hl 3 rfl) ?_
        refine lv_iload_n hx hb dX8_readOne_78 rfl (lv_at hl 4 rfl) ?_
        refine lv_iconst (v := (1 : Int32)) hx hb dX8_readOne_79 (by decide) ?_
        refine lv_iadd hx hb dX8_readOne_80 ?_
        obtain ⟨q81, hq81, hf⟩ := mx_bd hf
        refine mx_callV C hM hl.1 yo_X8_readCond (h' := h_rc) hl_rc qw_1164 qw_1166 qs_97 (ci := 8) (q := (RX8, TX8, 5)) rfl (xt_134 hT) (As := [.ref (E.2.1.2.1 3), .ref (E.2.1.2.1 9), .int (i3 + (1 : Int32))]) (rest := []) (st1 := [.int (mx_b q81.1)]) (hy_rc (i3 + (1 : Int32)) q67 _ hq81) rfl rfl rfl (Nat.le_of_ble_eq_true rfl) dX8_readOne_81 (fun H locs hM => ?_)
        refine lv_if_eq (tgt := 100) hx hb dX8_readOne_84 (by decide) (fun hc84 => ?_) (fun hc84 => ?_)
        · replace hf := mx_ift hc84 hf
          refine lv_iconst (v := (0 : Int32)) hx hb dX8_readOne_100 (by decide) ?_
          exact mx_zret C hM (b := false) rfl hf dX8_readOne_101
        · replace hf := mx_iff hc84 hf
          refine lv_aload_n hx hb dX8_readOne_87 rfl (lv_at hl 2 rfl) ?_
          refine lv_bipush (v := (41 : Int32)) hx hb dX8_readOne_88 (by decide) ?_
          obtain ⟨q90, hq90, hf⟩ := mx_bd hf
          refine mx_callVN C hM hl.1 yo_X7_takeSign (h' := 1) (by omega) (nw_1185 hT C) qw_616 qs_25 (ci := 7) (q := (RX7, TX7, 12)) rfl (xt_3 hT) (As := [.int (41 : Int32)]) (rest := []) (st1 := [.int (mx_b q90.1)]) (kX7_takeSign C.2.2.2.1 (41 : Int32) hT q81.2 hq90) rfl rfl rfl (Nat.le_of_ble_eq_true rfl) dX8_readOne_90 (fun H locs hM => ?_)
          refine lv_if_eq (tgt := 100) hx hb dX8_readOne_93 (by decide) (fun hc93 => ?_) (fun hc93 => ?_)
          · replace hf := mx_ift hc93 hf
            refine lv_iconst (v := (0 : Int32)) hx hb dX8_readOne_100 (by decide) ?_
            exact mx_zret C hM (b := false) rfl hf dX8_readOne_101
          · replace hf := mx_iff hc93 hf
            refine lv_iconst (v := (1 : Int32)) hx hb dX8_readOne_96 (by decide) ?_
            refine lv_goto (tgt := 101) hx hb dX8_readOne_97 (by decide) ?_
            exact mx_zret C hM (b := true) rfl hf dX8_readOne_101
    · replace hf := mx_iff hc41 hf
      exact wfX8_readOne_44 C rc ro i3 hT h h_rc hl_rc hy_rc h_ro hl_ro hy_ro hl_h M _ _ _ hf hM (lv_sub hl [1] rfl)
set_option maxRecDepth 100000 in
set_option maxHeartbeats 4000000 in
theorem kX8_readOne {E : KE} {l : Launch} (hE : mx_ok E) (rc : Int32 → MM → Option (Bool × MM)) (ro : Int32 → MM → Option (Bool × MM)) (i3 : Int32) (hT : xOK E) (h : Nat) (h_rc : Nat) (hl_rc : h_rc < h) (hy_rc : ∀ (d : Int32) (M : MM) (q : Bool × MM), rc d M = some q → mx_Met E l yX8_readCond cX8_readCond 5 (some .boolean) h_rc [.ref (E.2.1.2.1 134), .ref (E.2.1.2.1 3), .ref (E.2.1.2.1 9), .int d] M (some (.int (mx_b q.1))) q.2) (h_ro : Nat) (hl_ro : h_ro < h) (hy_ro : ∀ (d : Int32) (M : MM) (q : Bool × MM), ro d M = some q → mx_Met E l yX8_readOne cX8_readOne 6 (some .boolean) h_ro [.ref (E.2.1.2.1 134), .ref (E.2.1.2.1 3), .ref (E.2.1.2.1 9), .int d] M (some (.int (mx_b q.1))) q.2) (hl_h : 10 < h) (M : MM) {q : (Bool × MM)} (hf : fX8_readOne rc ro i3 M = some q) : mx_Met E l yX8_readOne cX8_readOne 6 (some .boolean) h [.ref (E.2.1.2.1 134), .ref (E.2.1.2.1 3), .ref (E.2.1.2.1 9), .int i3] M (some (.int (mx_b q.1))) q.2 := by
  refine mx_enter hE (by decide) (Nat.le_of_ble_eq_true rfl) ?_
  intro p e s m below meth c C hM hn ls hl
  have hx := C.1.1
  have hb := C.1.2.1
  have hown := C.1.2.2.2.1
  have hts := C.1.2.2.2.2
  have hl : lv_has ls 6 [(0, .ref (E.2.1.2.1 134)), (1, .ref (E.2.1.2.1 3)), (2, .ref (E.2.1.2.1 9)), (3, .int i3)] := hl
  rw [fX8_readOne] at hf
  refine lv_aload_n hx hb dX8_readOne_0 rfl (lv_at hl 1 rfl) ?_
  refine lv_bipush (v := (40 : Int32)) hx hb dX8_readOne_1 (by decide) ?_
  obtain ⟨q3, hq3, hf⟩ := mx_bd hf
  refine mx_callVN C hM hl.1 yo_X7_isAtSign (h' := 0) (by omega) (nw_1176 hT C) qw_620 qs_26 (ci := 7) (q := (RX7, TX7, 12)) rfl (xt_3 hT) (As := [.int (40 : Int32)]) (rest := []) (st1 := [.int (mx_b q3)]) (kX7_isAtSign C.2.2.2.1 (40 : Int32) hT M hq3) rfl rfl rfl (Nat.le_of_ble_eq_true rfl) dX8_readOne_3 (fun H locs hM => ?_)
  refine lv_istore (lv' := [(4, .int (mx_b q3)), (0, .ref (E.2.1.2.1 134)), (1, .ref (E.2.1.2.1 3)), (2, .ref (E.2.1.2.1 9)), (3, .int i3)]) hx hb dX8_readOne_6 hl (by decide) rfl (fun ls hl => ?_)
  refine lv_iload hx hb dX8_readOne_8 (lv_at hl 0 rfl) ?_
  refine lv_if_ne (tgt := 29) hx hb dX8_readOne_10 (by decide) (fun hc10 => ?_) (fun hc10 => ?_)
  · replace hf := mx_iff hc10 hf
    exact wfX8_readOne_29 C rc ro i3 hT h h_rc hl_rc hy_rc h_ro hl_ro hy_ro hl_h q3 M _ _ _ hf hM (lv_sub hl [1, 2, 3, 4, 0] rfl)
  · replace hf := mx_ift hc10 hf
    refine lv_aload_n hx hb dX8_readOne_13 rfl (lv_at hl 2 rfl) ?_
    obtain ⟨q14, hq14, hf⟩ := mx_bd hf
    refine mx_callVN C hM hl.1 yo_X7_key (h' := 0) (by omega) (nw_1177 hT C) qw_549 qs_11 (ci := 7) (q := (RX7, TX7, 12)) rfl (xt_3 hT) (As := []) (rest := []) (st1 := [.ref (E.2.1.2.2.1 q14)]) (kX7_key C.2.2.2.1 hT M hq14) rfl rfl rfl (Nat.le_of_ble_eq_true rfl) dX8_readOne_14 (fun H locs hM => ?_)
    obtain ⟨q17, hq17, hf⟩ := mx_bd hf
    refine mx_callS C hM hl.1 yo_X8_beginsOne (h' := 1) (by omega) qw_1178 qw_1179 (As := [.ref (E.2.1.2.2.1 q14)]) (rest := []) (st1 := [.int (mx_b q17)]) (kX8_beginsOne C.2.2.2.1 q14 hT M hq17) rfl rfl rfl (Nat.le_of_ble_eq_true rfl) dX8_readOne_17 (fun H locs hM => ?_)
    refine lv_if_ne (tgt := 29) hx hb dX8_readOne_20 (by decide) (fun hc20 => ?_) (fun hc20 => ?_)
    · replace hf := mx_iff hc20 hf
      exact wfX8_readOne_29 C rc ro i3 hT h h_rc hl_rc hy_rc h_ro hl_ro hy_ro hl_h q3 M _ _ _ hf hM (lv_sub hl [1, 2, 3, 4, 0] rfl)
    · replace hf := mx_ift hc20 hf
      refine lv_aload_n hx hb dX8_readOne_23 rfl (lv_at hl 2 rfl) ?_
      refine lv_iconst (v := (1 : Int32)) hx hb dX8_readOne_24 (by decide) ?_
      obtain ⟨q25, hq25, hf⟩ := mx_bd hf
      refine mx_callVN C hM hl.1 yo_X7_fail (h' := 0) (by omega) (nw_1183 hT C) qw_563 qs_13 (ci := 7) (q := (RX7, TX7, 12)) rfl (xt_3 hT) (As := [.int (1 : Int32)]) (rest := []) (st1 := [.int (mx_b q25.1)]) (kX7_fail C.2.2.2.1 (1 : Int32) hT M hq25) rfl rfl rfl (Nat.le_of_ble_eq_true rfl) dX8_readOne_25 (fun H locs hM => ?_)
      exact mx_zret C hM (b := q25.1) rfl hf dX8_readOne_28
