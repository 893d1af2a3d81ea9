/-! the small constructors -/
theorem yo_X1_init : mx_Y yX1_init cX1_init 1 none 0 := ⟨qw_306, qw_10, by decide +kernel, by decide⟩
theorem dX1_init_0 : decode cX1_init 0 = .ok (.aload_n 0, 1) := by decide +kernel
theorem dX1_init_1 : decode cX1_init 1 = .ok (.invokespecial 3, 3) := by decide +kernel
theorem dX1_init_4 : decode cX1_init 4 = .ok (.aload_n 0, 1) := by decide +kernel
theorem dX1_init_5 : decode cX1_init 5 = .ok (.bipush 40, 2) := by decide +kernel
theorem dX1_init_7 : decode cX1_init 7 = .ok (.newarray .int, 2) := by decide +kernel
theorem dX1_init_9 : decode cX1_init 9 = .ok (.putfield 11, 3) := by decide +kernel
theorem dX1_init_12 : decode cX1_init 12 = .ok (.aload_n 0, 1) := by decide +kernel
theorem dX1_init_13 : decode cX1_init 13 = .ok (.bipush 40, 2) := by decide +kernel
theorem dX1_init_15 : decode cX1_init 15 = .ok (.newarray .int, 2) := by decide +kernel
theorem dX1_init_17 : decode cX1_init 17 = .ok (.putfield 15, 3) := by decide +kernel
theorem dX1_init_20 : decode cX1_init 20 = .ok (.aload_n 0, 1) := by decide +kernel
theorem dX1_init_21 : decode cX1_init 21 = .ok (.bipush 40, 2) := by decide +kernel
theorem dX1_init_23 : decode cX1_init 23 = .ok (.newarray .int, 2) := by decide +kernel
theorem dX1_init_25 : decode cX1_init 25 = .ok (.putfield 18, 3) := by decide +kernel
theorem dX1_init_28 : decode cX1_init 28 = .ok (.aload_n 0, 1) := by decide +kernel
theorem dX1_init_29 : decode cX1_init 29 = .ok (.bipush 40, 2) := by decide +kernel
theorem dX1_init_31 : decode cX1_init 31 = .ok (.newarray .int, 2) := by decide +kernel
theorem dX1_init_33 : decode cX1_init 33 = .ok (.putfield 21, 3) := by decide +kernel
theorem dX1_init_36 : decode cX1_init 36 = .ok (.return_, 1) := by decide +kernel
set_option maxRecDepth 100000 in
theorem kX1_init {X : XE} {l : Launch} (hX : cw_ok X (cw_g X)) (T : List CN) (a : Nat) (ha0 : T[a]? = some (.inl (1, [(3, 0, 0), (3, 0, 0), (3, 0, 0), (3, 0, 0), (0, 0, 0), (0, 0, 0), (0, 0, 0), (0, 0, 0), (0, 0, 0), (0, 0, 0)]))) : cw_Met X (cw_g X) l yX1_init cX1_init 1 1 4 160 [.ref (X.2.1 a)] T (T.set a (.inl (1, [(2, T.length, 0), (2, T.length + 1, 0), (2, T.length + 2, 0), (2, T.length + 3, 0), (0, 0, 0), (0, 0, 0), (0, 0, 0), (0, 0, 0), (0, 0, 0), (0, 0, 0)])) ++ [.inr (0, 40, 0, 0, 0, 0), .inr (0, 40, 0, 0, 0, 0), .inr (0, 40, 0, 0, 0, 0), .inr (0, 40, 0, 0, 0, 0)]) := by
  have ha : a < T.length := (List.getElem?_eq_some_iff.mp ha0).1
  refine cw_enter hX (by decide) (Nat.le_of_ble_eq_true rfl) rfl (by omega) ?_
  intro p e s m below meth c C hM ls hl
  have hx := C.1.1
  have hb := C.1.2.1
  have hl : lv_has ls 1 [(0, .ref (X.2.1 a))] := hl
  rw [cw_start ha0] at hM
  refine lv_aload_n hx hb dX1_init_0 rfl (lv_at hl 0 rfl) ?_
  refine cw_oi C hl.1 qw_307 qoi_1 qoi_2 (by decide) dX1_init_1 rfl ?_
  refine lv_aload_n hx hb dX1_init_4 rfl (lv_at hl 0 rfl) ?_
  refine lv_bipush (v := (nI 40)) hx hb dX1_init_5 (by decide) ?_
  refine cn_newI C hM (N := 40) (v := 0) (L' := [.inr (0, 40, 0, 0, 0, 0)]) (a1 := T.length) (nI_pos (by decide)) (nI_clamp (by decide)) (by decide) (by decide) (by decide) rfl rfl dX1_init_7 rfl (fun H hM => ?_)
  refine cn_put C ha hM cl_1 (j := 0) (f := (2, T.length, 0)) (fs' := [(2, T.length, 0), (3, 0, 0), (3, 0, 0), (3, 0, 0), (0, 0, 0), (0, 0, 0), (0, 0, 0), (0, 0, 0), (0, 0, 0), (0, 0, 0)]) (by decide) qw_308 rfl rfl rfl rfl (Nat.le_of_ble_eq_true rfl) rfl dX1_init_9 rfl (fun H locs hM => ?_)
  refine lv_aload_n hx hb dX1_init_12 rfl (lv_at hl 0 rfl) ?_
  refine lv_bipush (v := (nI 40)) hx hb dX1_init_13 (by decide) ?_
  refine cn_newI C hM (N := 40) (v := 0) (L' := [.inr (0, 40, 0, 0, 0, 0), .inr (0, 40, 0, 0, 0, 0)]) (a1 := T.length + 1) (nI_pos (by decide)) (nI_clamp (by decide)) (by decide) (by decide) (by decide) rfl rfl dX1_init_15 rfl (fun H hM => ?_)
  refine cn_put C ha hM cl_1 (j := 1) (f := (2, T.length + 1, 0)) (fs' := [(2, T.length, 0), (2, T.length + 1, 0), (3, 0, 0), (3, 0, 0), (0, 0, 0), (0, 0, 0), (0, 0, 0), (0, 0, 0), (0, 0, 0), (0, 0, 0)]) (by decide) qw_309 rfl rfl rfl rfl (Nat.le_of_ble_eq_true rfl) rfl dX1_init_17 rfl (fun H locs hM => ?_)
  refine lv_aload_n hx hb dX1_init_20 rfl (lv_at hl 0 rfl) ?_
  refine lv_bipush (v := (nI 40)) hx hb dX1_init_21 (by decide) ?_
  refine cn_newI C hM (N := 40) (v := 0) (L' := [.inr (0, 40, 0, 0, 0, 0), .inr (0, 40, 0, 0, 0, 0), .inr (0, 40, 0, 0, 0, 0)]) (a1 := T.length + 2) (nI_pos (by decide)) (nI_clamp (by decide)) (by decide) (by decide) (by decide) rfl rfl dX1_init_23 rfl (fun H hM => ?_)
  refine cn_put C ha hM cl_1 (j := 2) (f := (2, T.length + 2, 0)) (fs' := [(2, T.length, 0), (2, T.length + 1, 0), (2, T.length + 2, 0), (3, 0, 0), (0, 0, 0), (0, 0, 0), (0, 0, 0), (0, 0, 0), (0, 0, 0), (0, 0, 0)]) (by decide) qw_310 rfl rfl rfl rfl (Nat.le_of_ble_eq_true rfl) rfl dX1_init_25 rfl (fun H locs hM => ?_)
  refine lv_aload_n hx hb dX1_init_28 rfl (lv_at hl 0 rfl) ?_
  refine lv_bipush (v := (nI 40)) hx hb dX1_init_29 (by decide) ?_
  refine cn_newI C hM (N := 40) (v := 0) (L' := [.inr (0, 40, 0, 0, 0, 0), .inr (0, 40, 0, 0, 0, 0), .inr (0, 40, 0, 0, 0, 0), .inr (0, 40, 0, 0, 0, 0)]) (a1 := T.length + 3) (nI_pos (by decide)) (nI_clamp (by decide)) (by decide) (by decide) (by decide) rfl rfl dX1_init_31 rfl (fun H hM => ?_)
  refine cn_put C ha hM cl_1 (j := 3) (f := (2, T.length + 3, 0)) (fs' := [(2, T.length, 0), (2, T.length + 1, 0), (2, T.length + 2, 0), (2, T.length + 3, 0), (0, 0, 0), (0, 0, 0), (0, 0, 0), (0, 0, 0), (0, 0, 0), (0, 0, 0)]) (by decide) qw_311 rfl rfl rfl rfl (Nat.le_of_ble_eq_true rfl) rfl dX1_init_33 rfl (fun H locs hM => ?_)
  exact cw_ret C hM rfl rfl rfl dX1_init_36
theorem yo_X2_init : mx_Y yX2_init cX2_init 1 none 0 := ⟨qw_380, qw_12, by decide +kernel, by decide⟩
theorem dX2_init_0 : decode cX2_init 0 = .ok (.aload_n 0, 1) := by decide +kernel
theorem dX2_init_1 : decode cX2_init 1 = .ok (.invokespecial 3, 3) := by decide +kernel
theorem dX2_init_4 : decode cX2_init 4 = .ok (.aload_n 0, 1) := by decide +kernel
theorem dX2_init_5 : decode cX2_init 5 = .ok (.iconst (-1), 1) := by decide +kernel
theorem dX2_init_6 : decode cX2_init 6 = .ok (.putfield 9, 3) := by decide +kernel
theorem dX2_init_9 : decode cX2_init 9 = .ok (.aload_n 0, 1) := by decide +kernel
theorem dX2_init_10 : decode cX2_init 10 = .ok (.iconst (-1), 1) := by decide +kernel
theorem dX2_init_11 : decode cX2_init 11 = .ok (.putfield 15, 3) := by decide +kernel
theorem dX2_init_14 : decode cX2_init 14 = .ok (.aload_n 0, 1) := by decide +kernel
theorem dX2_init_15 : decode cX2_init 15 = .ok (.sipush 128, 3) := by decide +kernel
theorem dX2_init_18 : decode cX2_init 18 = .ok (.newarray .int, 2) := by decide +kernel
theorem dX2_init_20 : decode cX2_init 20 = .ok (.putfield 18, 3) := by decide +kernel
theorem dX2_init_23 : decode cX2_init 23 = .ok (.aload_n 0, 1) := by decide +kernel
theorem dX2_init_24 : decode cX2_init 24 = .ok (.bipush 7, 2) := by decide +kernel
theorem dX2_init_26 : decode cX2_init 26 = .ok (.newarray .int, 2) := by decide +kernel
theorem dX2_init_28 : decode cX2_init 28 = .ok (.putfield 22, 3) := by decide +kernel
theorem dX2_init_31 : decode cX2_init 31 = .ok (.return_, 1) := by decide +kernel
set_option maxRecDepth 100000 in
theorem kX2_init {X : XE} {l : Launch} (hX : cw_ok X (cw_g X)) (T : List CN) (a : Nat) (ha0 : T[a]? = some (.inl (2, [(0, 0, 0), (0, 0, 0), (3, 0, 0), (3, 0, 0)]))) : cw_Met X (cw_g X) l yX2_init cX2_init 1 1 2 135 [.ref (X.2.1 a)] T (T.set a (.inl (2, [(0, 0, (-1 : Int32)), (0, 0, (-1 : Int32)), (2, T.length, 0), (2, T.length + 1, 0)])) ++ [.inr (0, 128, 0, 0, 0, 0), .inr (0, 7, 0, 0, 0, 0)]) := by
  have ha : a < T.length := (List.getElem?_eq_some_iff.mp ha0).1
  refine cw_enter hX (by decide) (Nat.le_of_ble_eq_true rfl) rfl (by omega) ?_
  intro p e s m below meth c C hM ls hl
  have hx := C.1.1
  have hb := C.1.2.1
  have hl : lv_has ls 1 [(0, .ref (X.2.1 a))] := hl
  rw [cw_start ha0] at hM
  refine lv_aload_n hx hb dX2_init_0 rfl (lv_at hl 0 rfl) ?_
  refine cw_oi C hl.1 qw_381 qoi_1 qoi_2 (by decide) dX2_init_1 rfl ?_
  refine lv_aload_n hx hb dX2_init_4 rfl (lv_at hl 0 rfl) ?_
  refine lv_iconst (v := (-1 : Int32)) hx hb dX2_init_5 (by decide) ?_
  refine cn_put C ha hM cl_2 (j := 0) (f := (0, 0, (-1 : Int32))) (fs' := [(0, 0, (-1 : Int32)), (0, 0, 0), (3, 0, 0), (3, 0, 0)]) (by decide) qw_382 rfl rfl rfl rfl (Nat.le_of_ble_eq_true rfl) rfl dX2_init_6 rfl (fun H locs hM => ?_)
  refine lv_aload_n hx hb dX2_init_9 rfl (lv_at hl 0 rfl) ?_
  refine lv_iconst (v := (-1 : Int32)) hx hb dX2_init_10 (by decide) ?_
  refine cn_put C ha hM cl_2 (j := 1) (f := (0, 0, (-1 : Int32))) (fs' := [(0, 0, (-1 : Int32)), (0, 0, (-1 : Int32)), (3, 0, 0), (3, 0, 0)]) (by decide) qw_384 rfl rfl rfl rfl (Nat.le_of_ble_eq_true rfl) rfl dX2_init_11 rfl (fun H locs hM => ?_)
  refine lv_aload_n hx hb dX2_init_14 rfl (lv_at hl 0 rfl) ?_
  refine lv_sipush (v := (nI 128)) hx hb dX2_init_15 (by decide) ?_
  refine cn_newI C hM (N := 128) (v := 0) (L' := [.inr (0, 128, 0, 0, 0, 0)]) (a1 := T.length) (nI_pos (by decide)) (nI_clamp (by decide)) (by decide) (by decide) (by decide) rfl rfl dX2_init_18 rfl (fun H hM => ?_)
  refine cn_put C ha hM cl_2 (j := 2) (f := (2, T.length, 0)) (fs' := [(0, 0, (-1 : Int32)), (0, 0, (-1 : Int32)), (2, T.length, 0), (3, 0, 0)]) (by decide) qw_386 rfl rfl rfl rfl (Nat.le_of_ble_eq_true rfl) rfl dX2_init_20 rfl (fun H locs hM => ?_)
  refine lv_aload_n hx hb dX2_init_23 rfl (lv_at hl 0 rfl) ?_
  refine lv_bipush (v := (nI 7)) hx hb dX2_init_24 (by decide) ?_
  refine cn_newI C hM (N := 7) (v := 0) (L' := [.inr (0, 128, 0, 0, 0, 0), .inr (0, 7, 0, 0, 0, 0)]) (a1 := T.length + 1) (nI_pos (by decide)) (nI_clamp (by decide)) (by decide) (by decide) (by decide) rfl rfl dX2_init_26 rfl (fun H hM => ?_)
  refine cn_put C ha hM cl_2 (j := 3) (f := (2, T.length + 1, 0)) (fs' := [(0, 0, (-1 : Int32)), (0, 0, (-1 : Int32)), (2, T.length, 0), (2, T.length + 1, 0)]) (by decide) qw_387 rfl rfl rfl rfl (Nat.le_of_ble_eq_true rfl) rfl dX2_init_28 rfl (fun H locs hM => ?_)
  exact cw_ret C hM rfl rfl rfl dX2_init_31
theorem yo_X3_init : mx_Y yX3_init cX3_init 1 none 0 := ⟨qw_110, qw_6, by decide +kernel, by decide⟩
theorem dX3_init_0 : decode cX3_init 0 = .ok (.aload_n 0, 1) := by decide +kernel
theorem dX3_init_1 : decode cX3_init 1 = .ok (.invokespecial 3, 3) := by decide +kernel
theorem dX3_init_4 : decode cX3_init 4 = .ok (.aload_n 0, 1) := by decide +kernel
theorem dX3_init_5 : decode cX3_init 5 = .ok (.bipush 7, 2) := by decide +kernel
theorem dX3_init_7 : decode cX3_init 7 = .ok (.newarray .long, 2) := by decide +kernel
theorem dX3_init_9 : decode cX3_init 9 = .ok (.putfield 9, 3) := by decide +kernel
theorem dX3_init_12 : decode cX3_init 12 = .ok (.aload_n 0, 1) := by decide +kernel
theorem dX3_init_13 : decode cX3_init 13 = .ok (.bipush 7, 2) := by decide +kernel
theorem dX3_init_15 : decode cX3_init 15 = .ok (.newarray .int, 2) := by decide +kernel
theorem dX3_init_17 : decode cX3_init 17 = .ok (.putfield 15, 3) := by decide +kernel
theorem dX3_init_20 : decode cX3_init 20 = .ok (.aload_n 0, 1) := by decide +kernel
theorem dX3_init_21 : decode cX3_init 21 = .ok (.bipush 7, 2) := by decide +kernel
theorem dX3_init_23 : decode cX3_init 23 = .ok (.newarray .int, 2) := by decide +kernel
theorem dX3_init_25 : decode cX3_init 25 = .ok (.putfield 19, 3) := by decide +kernel
theorem dX3_init_28 : decode cX3_init 28 = .ok (.aload_n 0, 1) := by decide +kernel
theorem dX3_init_29 : decode cX3_init 29 = .ok (.bipush 7, 2) := by decide +kernel
theorem dX3_init_31 : decode cX3_init 31 = .ok (.newarray .int, 2) := by decide +kernel
theorem dX3_init_33 : decode cX3_init 33 = .ok (.putfield 22, 3) := by decide +kernel
theorem dX3_init_36 : decode cX3_init 36 = .ok (.aload_n 0, 1) := by decide +kernel
theorem dX3_init_37 : decode cX3_init 37 = .ok (.bipush 7, 2) := by decide +kernel
theorem dX3_init_39 : decode cX3_init 39 = .ok (.newarray .long, 2) := by decide +kernel
theorem dX3_init_41 : decode cX3_init 41 = .ok (.putfield 25, 3) := by decide +kernel
theorem dX3_init_44 : decode cX3_init 44 = .ok (.aload_n 0, 1) := by decide +kernel
theorem dX3_init_45 : decode cX3_init 45 = .ok (.bipush 7, 2) := by decide +kernel
theorem dX3_init_47 : decode cX3_init 47 = .ok (.newarray .int, 2) := by decide +kernel
theorem dX3_init_49 : decode cX3_init 49 = .ok (.putfield 28, 3) := by decide +kernel
theorem dX3_init_52 : decode cX3_init 52 = .ok (.aload_n 0, 1) := by decide +kernel
theorem dX3_init_53 : decode cX3_init 53 = .ok (.bipush 7, 2) := by decide +kernel
theorem dX3_init_55 : decode cX3_init 55 = .ok (.newarray .int, 2) := by decide +kernel
theorem dX3_init_57 : decode cX3_init 57 = .ok (.putfield 31, 3) := by decide +kernel
theorem dX3_init_60 : decode cX3_init 60 = .ok (.aload_n 0, 1) := by decide +kernel
theorem dX3_init_61 : decode cX3_init 61 = .ok (.bipush 7, 2) := by decide +kernel
theorem dX3_init_63 : decode cX3_init 63 = .ok (.newarray .int, 2) := by decide +kernel
theorem dX3_init_65 : decode cX3_init 65 = .ok (.putfield 34, 3) := by decide +kernel
theorem dX3_init_68 : decode cX3_init 68 = .ok (.aload_n 0, 1) := by decide +kernel
theorem dX3_init_69 : decode cX3_init 69 = .ok (.bipush 7, 2) := by decide +kernel
theorem dX3_init_71 : decode cX3_init 71 = .ok (.newarray .int, 2) := by decide +kernel
theorem dX3_init_73 : decode cX3_init 73 = .ok (.putfield 37, 3) := by decide +kernel
theorem dX3_init_76 : decode cX3_init 76 = .ok (.aload_n 0, 1) := by decide +kernel
theorem dX3_init_77 : decode cX3_init 77 = .ok (.iconst 1, 1) := by decide +kernel
theorem dX3_init_78 : decode cX3_init 78 = .ok (.putfield 40, 3) := by decide +kernel
theorem dX3_init_81 : decode cX3_init 81 = .ok (.aload_n 0, 1) := by decide +kernel
theorem dX3_init_82 : decode cX3_init 82 = .ok (.iconst 5, 1) := by decide +kernel
theorem dX3_init_83 : decode cX3_init 83 = .ok (.putfield 44, 3) := by decide +kernel
theorem dX3_init_86 : decode cX3_init 86 = .ok (.aload_n 0, 1) := by decide +kernel
theorem dX3_init_87 : decode cX3_init 87 = .ok (.iconst 4, 1) := by decide +kernel
theorem dX3_init_88 : decode cX3_init 88 = .ok (.putfield 47, 3) := by decide +kernel
theorem dX3_init_91 : decode cX3_init 91 = .ok (.return_, 1) := by decide +kernel
set_option maxRecDepth 100000 in
theorem kX3_init {X : XE} {l : Launch} (hX : cw_ok X (cw_g X)) (T : List CN) (a : Nat) (ha0 : T[a]? = some (.inl (3, [(0, 0, 0), (0, 0, 0), (3, 0, 0), (3, 0, 0), (3, 0, 0), (3, 0, 0), (3, 0, 0), (3, 0, 0), (3, 0, 0), (3, 0, 0), (3, 0, 0), (0, 0, 0), (0, 0, 0), (0, 0, 0), (0, 0, 0), (0, 0, 0), (0, 0, 0), (0, 0, 0)]))) : cw_Met X (cw_g X) l yX3_init cX3_init 1 1 9 63 [.ref (X.2.1 a)] T (T.set a (.inl (3, [(0, 0, 0), (0, 0, 0), (2, T.length, 0), (2, T.length + 1, 0), (2, T.length + 2, 0), (2, T.length + 3, 0), (2, T.length + 4, 0), (2, T.length + 5, 0), (2, T.length + 6, 0), (2, T.length + 7, 0), (2, T.length + 8, 0), (0, 0, (nI 1)), (0, 0, (nI 5)), (0, 0, (nI 4)), (0, 0, 0), (0, 0, 0), (0, 0, 0), (0, 0, 0)])) ++ [.inr (2, 7, 0, 0, 0, 0), .inr (0, 7, 0, 0, 0, 0), .inr (0, 7, 0, 0, 0, 0), .inr (0, 7, 0, 0, 0, 0), .inr (2, 7, 0, 0, 0, 0), .inr (0, 7, 0, 0, 0, 0), .inr (0, 7, 0, 0, 0, 0), .inr (0, 7, 0, 0, 0, 0), .inr (0, 7, 0, 0, 0, 0)]) := by
  have ha : a < T.length := (List.getElem?_eq_some_iff.mp ha0).1
  refine cw_enter hX (by decide) (Nat.le_of_ble_eq_true rfl) rfl (by omega) ?_
  intro p e s m below meth c C hM ls hl
  have hx := C.1.1
  have hb := C.1.2.1
  have hl : lv_has ls 1 [(0, .ref (X.2.1 a))] := hl
  rw [cw_start ha0] at hM
  refine lv_aload_n hx hb dX3_init_0 rfl (lv_at hl 0 rfl) ?_
  refine cw_oi C hl.1 qw_111 qoi_1 qoi_2 (by decide) dX3_init_1 rfl ?_
  refine lv_aload_n hx hb dX3_init_4 rfl (lv_at hl 0 rfl) ?_
  refine lv_bipush (v := (nI 7)) hx hb dX3_init_5 (by decide) ?_
  refine cn_newJ C hM (N := 7) (v := 0) (L' := [.inr (2, 7, 0, 0, 0, 0)]) (a1 := T.length) (nI_pos (by decide)) (nI_clamp (by decide)) (by decide) (by decide) (by decide) rfl rfl dX3_init_7 rfl (fun H hM => ?_)
  refine cn_put C ha hM cl_3 (j := 2) (f := (2, T.length, 0)) (fs' := [(0, 0, 0), (0, 0, 0), (2, T.length, 0), (3, 0, 0), (3, 0, 0), (3, 0, 0), (3, 0, 0), (3, 0, 0), (3, 0, 0), (3, 0, 0), (3, 0, 0), (0, 0, 0), (0, 0, 0), (0, 0, 0), (0, 0, 0), (0, 0, 0), (0, 0, 0), (0, 0, 0)]) (by decide) qw_123 rfl rfl rfl rfl (Nat.le_of_ble_eq_true rfl) rfl dX3_init_9 rfl (fun H locs hM => ?_)
  refine lv_aload_n hx hb dX3_init_12 rfl (lv_at hl 0 rfl) ?_
  refine lv_bipush (v := (nI 7)) hx hb dX3_init_13 (by decide) ?_
  refine cn_newI C hM (N := 7) (v := 0) (L' := [.inr (2, 7, 0, 0, 0, 0), .inr (0, 7, 0, 0, 0, 0)]) (a1 := T.length + 1) (nI_pos (by decide)) (nI_clamp (by decide)) (by decide) (by decide) (by decide) rfl rfl dX3_init_15 rfl (fun H hM => ?_)
  refine cn_put C ha hM cl_3 (j := 3) (f := (2, T.length + 1, 0)) (fs' := [(0, 0, 0), (0, 0, 0), (2, T.length, 0), (2, T.length + 1, 0), (3, 0, 0), (3, 0, 0), (3, 0, 0), (3, 0, 0), (3, 0, 0), (3, 0, 0), (3, 0, 0), (0, 0, 0), (0, 0, 0), (0, 0, 0), (0, 0, 0), (0, 0, 0), (0, 0, 0), (0, 0, 0)]) (by decide) qw_125 rfl rfl rfl rfl (Nat.le_of_ble_eq_true rfl) rfl dX3_init_17 rfl (fun H locs hM => ?_)
  refine lv_aload_n hx hb dX3_init_20 rfl (lv_at hl 0 rfl) ?_
  refine lv_bipush (v := (nI 7)) hx hb dX3_init_21 (by decide) ?_
  refine cn_newI C hM (N := 7) (v := 0) (L' := [.inr (2, 7, 0, 0, 0, 0), .inr (0, 7, 0, 0, 0, 0), .inr (0, 7, 0, 0, 0, 0)]) (a1 := T.length + 2) (nI_pos (by decide)) (nI_clamp (by decide)) (by decide) (by decide) (by decide) rfl rfl dX3_init_23 rfl (fun H hM => ?_)
  refine cn_put C ha hM cl_3 (j := 4) (f := (2, T.length + 2, 0)) (fs' := [(0, 0, 0), (0, 0, 0), (2, T.length, 0), (2, T.length + 1, 0), (2, T.length + 2, 0), (3, 0, 0), (3, 0, 0), (3, 0, 0), (3, 0, 0), (3, 0, 0), (3, 0, 0), (0, 0, 0), (0, 0, 0), (0, 0, 0), (0, 0, 0), (0, 0, 0), (0, 0, 0), (0, 0, 0)]) (by decide) qw_127 rfl rfl rfl rfl (Nat.le_of_ble_eq_true rfl) rfl dX3_init_25 rfl (fun H locs hM => ?_)
  refine lv_aload_n hx hb dX3_init_28 rfl (lv_at hl 0 rfl) ?_
  refine lv_bipush (v := (nI 7)) hx hb dX3_init_29 (by decide) ?_
  refine cn_newI C hM (N := 7) (v := 0) (L' := [.inr (2, 7, 0, 0, 0, 0), .inr (0, 7, 0, 0, 0, 0), .inr (0, 7, 0, 0, 0, 0), .inr (0, 7, 0, 0, 0, 0)]) (a1 := T.length + 3) (nI_pos (by decide)) (nI_clamp (by decide)) (by decide) (by decide) (by decide) rfl rfl dX3_init_31 rfl (fun H hM => ?_)
  refine cn_put C ha hM cl_3 (j := 5) (f := (2, T.length + 3, 0)) (fs' := [(0, 0, 0), (0, 0, 0), (2, T.length, 0), (2, T.length + 1, 0), (2, T.length + 2, 0), (2, T.length + 3, 0), (3, 0, 0), (3, 0, 0), (3, 0, 0), (3, 0, 0), (3, 0, 0), (0, 0, 0), (0, 0, 0), (0, 0, 0), (0, 0, 0), (0, 0, 0), (0, 0, 0), (0, 0, 0)]) (by decide) qw_129 rfl rfl rfl rfl (Nat.le_of_ble_eq_true rfl) rfl dX3_init_33 rfl (fun H locs hM => ?_)
  refine lv_aload_n hx hb dX3_init_36 rfl (lv_at hl 0 rfl) ?_
  refine lv_bipush (v := (nI 7)) hx hb dX3_init_37 (by decide) ?_
  refine cn_newJ C hM (N := 7) (v := 0) (L' := [.inr (2, 7, 0, 0, 0, 0), .inr (0, 7, 0, 0, 0, 0), .inr (0, 7, 0, 0, 0, 0), .inr (0, 7, 0, 0, 0, 0), .inr (2, 7, 0, 0, 0, 0)]) (a1 := T.length + 4) (nI_pos (by decide)) (nI_clamp (by decide)) (by decide) (by decide) (by decide) rfl rfl dX3_init_39 rfl (fun H hM => ?_)
  refine cn_put C ha hM cl_3 (j := 6) (f := (2, T.length + 4, 0)) (fs' := [(0, 0, 0), (0, 0, 0), (2, T.length, 0), (2, T.length + 1, 0), (2, T.length + 2, 0), (2, T.length + 3, 0), (2, T.length + 4, 0), (3, 0, 0), (3, 0, 0), (3, 0, 0), (3, 0, 0), (0, 0, 0), (0, 0, 0), (0, 0, 0), (0, 0, 0), (0, 0, 0), (0, 0, 0), (0, 0, 0)]) (by decide) qw_132 rfl rfl rfl rfl (Nat.le_of_ble_eq_true rfl) rfl dX3_init_41 rfl (fun H locs hM => ?_)
  refine lv_aload_n hx hb dX3_init_44 rfl (lv_at hl 0 rfl) ?_
  refine lv_bipush (v := (nI 7)) hx hb dX3_init_45 (by decide) ?_
  refine cn_newI C hM (N := 7) (v := 0) (L' := [.inr (2, 7, 0, 0, 0, 0), .inr (0, 7, 0, 0, 0, 0), .inr (0, 7, 0, 0, 0, 0), .inr (0, 7, 0, 0, 0, 0), .inr (2, 7, 0, 0, 0, 0), .inr (0, 7, 0, 0, 0, 0)]) (a1 := T.length + 5) (nI_pos (by decide)) (nI_clamp (by decide)) (by decide) (by decide) (by decide) rfl rfl dX3_init_47 rfl (fun H hM => ?_)
  refine cn_put C ha hM cl_3 (j := 7) (f := (2, T.length + 5, 0)) (fs' := [(0, 0, 0), (0, 0, 0), (2, T.length, 0), (2, T.length + 1, 0), (2, T.length + 2, 0), (2, T.length + 3, 0), (2, T.length + 4, 0), (2, T.length + 5, 0), (3, 0, 0), (3, 0, 0), (3, 0, 0), (0, 0, 0), (0, 0, 0), (0, 0, 0), (0, 0, 0), (0, 0, 0), (0, 0, 0), (0, 0, 0)]) (by decide) qw_134 rfl rfl rfl rfl (Nat.le_of_ble_eq_true rfl) rfl dX3_init_49 rfl (fun H locs hM => ?_)
  refine lv_aload_n hx hb dX3_init_52 rfl (lv_at hl 0 rfl) ?_
  refine lv_bipush (v := (nI 7)) hx hb dX3_init_53 (by decide) ?_
  refine cn_newI C hM (N := 7) (v := 0) (L' := [.inr (2, 7, 0, 0, 0, 0), .inr (0, 7, 0, 0, 0, 0), .inr (0, 7, 0, 0, 0, 0), .inr (0, 7, 0, 0, 0, 0), .inr (2, 7, 0, 0, 0, 0), .inr (0, 7, 0, 0, 0, 0), .inr (0, 7, 0, 0, 0, 0)]) (a1 := T.length + 6) (nI_pos (by decide)) (nI_clamp (by decide)) (by decide) (by decide) (by decide) rfl rfl dX3_init_55 rfl (fun H hM => ?_)
  refine cn_put C ha hM cl_3 (j := 8) (f := (2, T.length + 6, 0)) (fs' := [(0, 0, 0), (0, 0, 0), (2, T.length, 0), (2, T.length + 1, 0), (2, T.length + 2, 0), (2, T.length + 3, 0), (2, T.length + 4, 0), (2, T.length + 5, 0), (2, T.length + 6, 0), (3, 0, 0), (3, 0, 0), (0, 0, 0), (0, 0, 0), (0, 0, 0), (0, 0, 0), (0, 0, 0), (0, 0, 0), (0, 0, 0)]) (by decide) qw_138 rfl rfl rfl rfl (Nat.le_of_ble_eq_true rfl) rfl dX3_init_57 rfl (fun H locs hM => ?_)
  refine lv_aload_n hx hb dX3_init_60 rfl (lv_at hl 0 rfl) ?_
  refine lv_bipush (v := (nI 7)) hx hb dX3_init_61 (by decide) ?_
  refine cn_newI C hM (N := 7) (v := 0) (L' := [.inr (2, 7, 0, 0, 0, 0), .inr (0, 7, 0, 0, 0, 0), .inr (0, 7, 0, 0, 0, 0), .inr (0, 7, 0, 0, 0, 0), .inr (2, 7, 0, 0, 0, 0), .inr (0, 7, 0, 0, 0, 0), .inr (0, 7, 0, 0, 0, 0), .inr (0, 7, 0, 0, 0, 0)]) (a1 := T.length + 7) (nI_pos (by decide)) (nI_clamp (by decide)) (by decide) (by decide) (by decide) rfl rfl dX3_init_63 rfl (fun H hM => ?_)
  refine cn_put C ha hM cl_3 (j := 9) (f := (2, T.length + 7, 0)) (fs' := [(0, 0, 0), (0, 0, 0), (2, T.length, 0), (2, T.length + 1, 0), (2, T.length + 2, 0), (2, T.length + 3, 0), (2, T.length + 4, 0), (2, T.length + 5, 0), (2, T.length + 6, 0), (2, T.length + 7, 0), (3, 0, 0), (0, 0, 0), (0, 0, 0), (0, 0, 0), (0, 0, 0), (0, 0, 0), (0, 0, 0), (0, 0, 0)]) (by decide) qw_143 rfl rfl rfl rfl (Nat.le_of_ble_eq_true rfl) rfl dX3_init_65 rfl (fun H locs hM => ?_)
  refine lv_aload_n hx hb dX3_init_68 rfl (lv_at hl 0 rfl) ?_
  refine lv_bipush (v := (nI 7)) hx hb dX3_init_69 (by decide) ?_
  refine cn_newI C hM (N := 7) (v := 0) (L' := [.inr (2, 7, 0, 0, 0, 0), .inr (0, 7, 0, 0, 0, 0), .inr (0, 7, 0, 0, 0, 0), .inr (0, 7, 0, 0, 0, 0), .inr (2, 7, 0, 0, 0, 0), .inr (0, 7, 0, 0, 0, 0), .inr (0, 7, 0, 0, 0, 0), .inr (0, 7, 0, 0, 0, 0), .inr (0, 7, 0, 0, 0, 0)]) (a1 := T.length + 8) (nI_pos (by decide)) (nI_clamp (by decide)) (by decide) (by decide) (by decide) rfl rfl dX3_init_71 rfl (fun H hM => ?_)
  refine cn_put C ha hM cl_3 (j := 10) (f := (2, T.length + 8, 0)) (fs' := [(0, 0, 0), (0, 0, 0), (2, T.length, 0), (2, T.length + 1, 0), (2, T.length + 2, 0), (2, T.length + 3, 0), (2, T.length + 4, 0), (2, T.length + 5, 0), (2, T.length + 6, 0), (2, T.length + 7, 0), (2, T.length + 8, 0), (0, 0, 0), (0, 0, 0), (0, 0, 0), (0, 0, 0), (0, 0, 0), (0, 0, 0), (0, 0, 0)]) (by decide) qw_145 rfl rfl rfl rfl (Nat.le_of_ble_eq_true rfl) rfl dX3_init_73 rfl (fun H locs hM => ?_)
  refine lv_aload_n hx hb dX3_init_76 rfl (lv_at hl 0 rfl) ?_
  refine lv_iconst (v := (nI 1)) hx hb dX3_init_77 (by decide) ?_
  refine cn_put C ha hM cl_3 (j := 11) (f := (0, 0, (nI 1))) (fs' := [(0, 0, 0), (0, 0, 0), (2, T.length, 0), (2, T.length + 1, 0), (2, T.length + 2, 0), (2, T.length + 3, 0), (2, T.length + 4, 0), (2, T.length + 5, 0), (2, T.length + 6, 0), (2, T.length + 7, 0), (2, T.length + 8, 0), (0, 0, (nI 1)), (0, 0, 0), (0, 0, 0), (0, 0, 0), (0, 0, 0), (0, 0, 0), (0, 0, 0)]) (by decide) qw_148 rfl rfl rfl rfl (Nat.le_of_ble_eq_true rfl) rfl dX3_init_78 rfl (fun H locs hM => ?_)
  refine lv_aload_n hx hb dX3_init_81 rfl (lv_at hl 0 rfl) ?_
  refine lv_iconst (v := (nI 5)) hx hb dX3_init_82 (by decide) ?_
  refine cn_put C ha hM cl_3 (j := 12) (f := (0, 0, (nI 5))) (fs' := [(0, 0, 0), (0, 0, 0), (2, T.length, 0), (2, T.length + 1, 0), (2, T.length + 2, 0), (2, T.length + 3, 0), (2, T.length + 4, 0), (2, T.length + 5, 0), (2, T.length + 6, 0), (2, T.length + 7, 0), (2, T.length + 8, 0), (0, 0, (nI 1)), (0, 0, (nI 5)), (0, 0, 0), (0, 0, 0), (0, 0, 0), (0, 0, 0), (0, 0, 0)]) (by decide) qw_150 rfl rfl rfl rfl (Nat.le_of_ble_eq_true rfl) rfl dX3_init_83 rfl (fun H locs hM => ?_)
  refine lv_aload_n hx hb dX3_init_86 rfl (lv_at hl 0 rfl) ?_
  refine lv_iconst (v := (nI 4)) hx hb dX3_init_87 (by decide) ?_
  refine cn_put C ha hM cl_3 (j := 13) (f := (0, 0, (nI 4))) (fs' := [(0, 0, 0), (0, 0, 0), (2, T.length, 0), (2, T.length + 1, 0), (2, T.length + 2, 0), (2, T.length + 3, 0), (2, T.length + 4, 0), (2, T.length + 5, 0), (2, T.length + 6, 0), (2, T.length + 7, 0), (2, T.length + 8, 0), (0, 0, (nI 1)), (0, 0, (nI 5)), (0, 0, (nI 4)), (0, 0, 0), (0, 0, 0), (0, 0, 0), (0, 0, 0)]) (by decide) qw_153 rfl rfl rfl rfl (Nat.le_of_ble_eq_true rfl) rfl dX3_init_88 rfl (fun H locs hM => ?_)
  exact cw_ret C hM rfl rfl rfl dX3_init_91
theorem yo_X4_init : mx_Y yX4_init cX4_init 1 none 0 := ⟨qw_401, qw_13, by decide +kernel, by decide⟩
theorem dX4_init_0 : decode cX4_init 0 = .ok (.aload_n 0, 1) := by decide +kernel
theorem dX4_init_1 : decode cX4_init 1 = .ok (.invokespecial 3, 3) := by decide +kernel
theorem dX4_init_4 : decode cX4_init 4 = .ok (.aload_n 0, 1) := by decide +kernel
theorem dX4_init_5 : decode cX4_init 5 = .ok (.sipush 128, 3) := by decide +kernel
theorem dX4_init_8 : decode cX4_init 8 = .ok (.newarray .byte, 2) := by decide +kernel
theorem dX4_init_10 : decode cX4_init 10 = .ok (.putfield 11, 3) := by decide +kernel
theorem dX4_init_13 : decode cX4_init 13 = .ok (.return_, 1) := by decide +kernel
set_option maxRecDepth 100000 in
theorem kX4_init {X : XE} {l : Launch} (hX : cw_ok X (cw_g X)) (T : List CN) (a : Nat) (ha0 : T[a]? = some (.inl (4, [(3, 0, 0), (0, 0, 0)]))) : cw_Met X (cw_g X) l yX4_init cX4_init 1 1 1 128 [.ref (X.2.1 a)] T (T.set a (.inl (4, [(2, T.length, 0), (0, 0, 0)])) ++ [.inr (1, 128, 0, 0, 0, 0)]) := by
  have ha : a < T.length := (List.getElem?_eq_some_iff.mp ha0).1
  refine cw_enter hX (by decide) (Nat.le_of_ble_eq_true rfl) rfl (by omega) ?_
  intro p e s m below meth c C hM ls hl
  have hx := C.1.1
  have hb := C.1.2.1
  have hl : lv_has ls 1 [(0, .ref (X.2.1 a))] := hl
  rw [cw_start ha0] at hM
  refine lv_aload_n hx hb dX4_init_0 rfl (lv_at hl 0 rfl) ?_
  refine cw_oi C hl.1 qw_402 qoi_1 qoi_2 (by decide) dX4_init_1 rfl ?_
  refine lv_aload_n hx hb dX4_init_4 rfl (lv_at hl 0 rfl) ?_
  refine lv_sipush (v := (nI 128)) hx hb dX4_init_5 (by decide) ?_
  refine cn_newB C hM (N := 128) (v := 0) (L' := [.inr (1, 128, 0, 0, 0, 0)]) (a1 := T.length) (nI_pos (by decide)) (nI_clamp (by decide)) (by decide) (by decide) (by decide) rfl rfl dX4_init_8 rfl (fun H hM => ?_)
  refine cn_put C ha hM cl_4 (j := 0) (f := (2, T.length, 0)) (fs' := [(2, T.length, 0), (0, 0, 0)]) (by decide) qw_403 rfl rfl rfl rfl (Nat.le_of_ble_eq_true rfl) rfl dX4_init_10 rfl (fun H locs hM => ?_)
  exact cw_ret C hM rfl rfl rfl dX4_init_13
theorem yo_X6_init : mx_Y yX6_init cX6_init 2 none 0 := ⟨qw_348, qw_11, by decide +kernel, by decide⟩
theorem dX6_init_0 : decode cX6_init 0 = .ok (.aload_n 0, 1) := by decide +kernel
theorem dX6_init_1 : decode cX6_init 1 = .ok (.invokespecial 3, 3) := by decide +kernel
theorem dX6_init_4 : decode cX6_init 4 = .ok (.aload_n 0, 1) := by decide +kernel
theorem dX6_init_5 : decode cX6_init 5 = .ok (.bipush 7, 2) := by decide +kernel
theorem dX6_init_7 : decode cX6_init 7 = .ok (.newarray .int, 2) := by decide +kernel
theorem dX6_init_9 : decode cX6_init 9 = .ok (.putfield 9, 3) := by decide +kernel
theorem dX6_init_12 : decode cX6_init 12 = .ok (.aload_n 0, 1) := by decide +kernel
theorem dX6_init_13 : decode cX6_init 13 = .ok (.bipush 7, 2) := by decide +kernel
theorem dX6_init_15 : decode cX6_init 15 = .ok (.newarray .int, 2) := by decide +kernel
theorem dX6_init_17 : decode cX6_init 17 = .ok (.putfield 15, 3) := by decide +kernel
theorem dX6_init_20 : decode cX6_init 20 = .ok (.aload_n 0, 1) := by decide +kernel
theorem dX6_init_21 : decode cX6_init 21 = .ok (.iconst (-1), 1) := by decide +kernel
theorem dX6_init_22 : decode cX6_init 22 = .ok (.putfield 18, 3) := by decide +kernel
theorem dX6_init_25 : decode cX6_init 25 = .ok (.aload_n 0, 1) := by decide +kernel
theorem dX6_init_26 : decode cX6_init 26 = .ok (.sipush 896, 3) := by decide +kernel
theorem dX6_init_29 : decode cX6_init 29 = .ok (.newarray .int, 2) := by decide +kernel
theorem dX6_init_31 : decode cX6_init 31 = .ok (.putfield 22, 3) := by decide +kernel
theorem dX6_init_34 : decode cX6_init 34 = .ok (.aload_n 0, 1) := by decide +kernel
theorem dX6_init_35 : decode cX6_init 35 = .ok (.sipush 128, 3) := by decide +kernel
theorem dX6_init_38 : decode cX6_init 38 = .ok (.newarray .int, 2) := by decide +kernel
theorem dX6_init_40 : decode cX6_init 40 = .ok (.putfield 25, 3) := by decide +kernel
theorem dX6_init_43 : decode cX6_init 43 = .ok (.aload_n 0, 1) := by decide +kernel
theorem dX6_init_44 : decode cX6_init 44 = .ok (.bipush 7, 2) := by decide +kernel
theorem dX6_init_46 : decode cX6_init 46 = .ok (.newarray .int, 2) := by decide +kernel
theorem dX6_init_48 : decode cX6_init 48 = .ok (.putfield 28, 3) := by decide +kernel
theorem dX6_init_51 : decode cX6_init 51 = .ok (.iconst 0, 1) := by decide +kernel
theorem dX6_init_52 : decode cX6_init 52 = .ok (.istore_n 1, 1) := by decide +kernel
theorem dX6_init_53 : decode cX6_init 53 = .ok (.iload_n 1, 1) := by decide +kernel
theorem dX6_init_54 : decode cX6_init 54 = .ok (.bipush 7, 2) := by decide +kernel
theorem dX6_init_56 : decode cX6_init 56 = .ok (.if_icmp .ge 16, 3) := by decide +kernel
theorem dX6_init_59 : decode cX6_init 59 = .ok (.aload_n 0, 1) := by decide +kernel
theorem dX6_init_60 : decode cX6_init 60 = .ok (.getfield 15, 3) := by decide +kernel
theorem dX6_init_63 : decode cX6_init 63 = .ok (.iload_n 1, 1) := by decide +kernel
theorem dX6_init_64 : decode cX6_init 64 = .ok (.iconst (-1), 1) := by decide +kernel
theorem dX6_init_65 : decode cX6_init 65 = .ok (.iastore, 1) := by decide +kernel
theorem dX6_init_66 : decode cX6_init 66 = .ok (.iinc 1 1, 3) := by decide +kernel
theorem dX6_init_69 : decode cX6_init 69 = .ok (.goto (-16), 3) := by decide +kernel
theorem dX6_init_72 : decode cX6_init 72 = .ok (.return_, 1) := by decide +kernel
set_option maxRecDepth 100000 in
theorem wX6_init_l {X : XE} {p : Program} {l : Launch} {e : Env} {s : State} {m : MethodId} {args : Array Value} {below : List Frame} {meth : Method} {c : Code} (C : cw_C X (cw_g X) p m c cX6_init 2 s args RX6 meth) (T : List CN) (a : Nat) (ha : a < T.length) : ∀ (d j : Nat), j + d = 7 → ∀ (H : Heap) (locs : List Loc) (ls : Array Slot), cw_H X s (T.set a (.inl (6, [(2, T.length, 0), (0, 0, 0), (2, T.length + 1, 0), (0, 0, (-1 : Int32)), (2, T.length + 2, 0), (2, T.length + 3, 0), (2, T.length + 4, 0)])) ++ [.inr (0, 7, 0, 0, 0, 0), .inr (0, 7, j, 0, 0, -1), .inr (0, 896, 0, 0, 0, 0), .inr (0, 128, 0, 0, 0, 0), .inr (0, 7, 0, 0, 0, 0)]) H locs 5 → lv_has ls 2 [(1, .int (nI j)), (0, .ref (X.2.1 a))] → W p l e (cw_rm 1 5 1045) s m args below meth c H locs 5 1045 (cw_Z X below args s 5 1045 (T.set a (.inl (6, [(2, T.length, 0), (0, 0, 0), (2, T.length + 1, 0), (0, 0, (-1 : Int32)), (2, T.length + 2, 0), (2, T.length + 3, 0), (2, T.length + 4, 0)])) ++ [.inr (0, 7, 0, 0, 0, 0), .inr (0, 7, 7, 0, 0, -1), .inr (0, 896, 0, 0, 0, 0), .inr (0, 128, 0, 0, 0, 0), .inr (0, 7, 0, 0, 0, 0)])) (F0 m 53 ls []) := by
  have hx := C.1.1
  have hb := C.1.2.1
  intro d
  induction d with
  | zero =>
    intro j hj H locs ls hM hl
    have hj2 : j = 7 := by omega
    subst hj2
    refine lv_iload_n hx hb dX6_init_53 rfl (lv_at hl 0 rfl) ?_
    refine lv_bipush (v := (nI 7)) hx hb dX6_init_54 (by decide) ?_
    refine lv_icmp_ge (tgt := 72) hx hb dX6_init_56 (by decide) (fun hc => ?_) (fun hc => absurd (nI_le (Nat.le_refl _) (by decide)) hc)
    exact cw_ret C hM rfl rfl rfl dX6_init_72
  | succ d ih =>
    intro j hj H locs ls hM hl
    refine lv_iload_n hx hb dX6_init_53 rfl (lv_at hl 0 rfl) ?_
    refine lv_bipush (v := (nI 7)) hx hb dX6_init_54 (by decide) ?_
    refine lv_icmp_ge (tgt := 72) hx hb dX6_init_56 (by decide) (fun hc => absurd hc (nI_ge (by omega) (by decide))) (fun hc => ?_)
    refine lv_aload_n hx hb dX6_init_59 rfl (lv_at hl 1 rfl) ?_
    refine cn_get C ha hM cl_6 (j := 2) (f := (2, T.length + 1, 0)) rfl (by decide) qw_354 rfl dX6_init_60 rfl ?_
    refine lv_iload_n hx hb dX6_init_63 rfl (lv_at hl 0 rfl) ?_
    refine lv_iconst (v := (-1 : Int32)) hx hb dX6_init_64 (by decide) ?_
    refine cn_iast C hM (i := 1) (L' := [.inr (0, 7, 0, 0, 0, 0), .inr (0, 7, j + 1, 0, 0, -1), .inr (0, 896, 0, 0, 0, 0), .inr (0, 128, 0, 0, 0, 0), .inr (0, 7, 0, 0, 0, 0)]) rfl (nI_clamp (by omega)) (vp_in_nI (by omega) (by decide)) rfl dX6_init_65 rfl (fun H locs hM => ?_)
    refine lv_iinc (v := nI (j + 1)) (lv' := [(1, .int (nI (j + 1))), (0, .ref (X.2.1 a))]) hx hb dX6_init_66 hl (k := 0) rfl (nI_1 j) (by decide) rfl (fun ls hl => ?_)
    refine lv_goto (tgt := 53) hx hb dX6_init_69 (by decide) ?_
    exact ih (j + 1) (by omega) H locs ls hM hl
set_option maxRecDepth 100000 in
theorem kX6_init {X : XE} {l : Launch} (hX : cw_ok X (cw_g X)) (T : List CN) (a : Nat) (ha0 : T[a]? = some (.inl (6, [(3, 0, 0), (0, 0, 0), (3, 0, 0), (0, 0, 0), (3, 0, 0), (3, 0, 0), (3, 0, 0)]))) : cw_Met X (cw_g X) l yX6_init cX6_init 2 1 5 1045 [.ref (X.2.1 a)] T (T.set a (.inl (6, [(2, T.length, 0), (0, 0, 0), (2, T.length + 1, 0), (0, 0, (-1 : Int32)), (2, T.length + 2, 0), (2, T.length + 3, 0), (2, T.length + 4, 0)])) ++ [.inr (0, 7, 0, 0, 0, 0), .inr (0, 7, 7, 0, 0, -1), .inr (0, 896, 0, 0, 0, 0), .inr (0, 128, 0, 0, 0, 0), .inr (0, 7, 0, 0, 0, 0)]) := by
  have ha : a < T.length := (List.getElem?_eq_some_iff.mp ha0).1
  refine cw_enter hX (by decide) (Nat.le_of_ble_eq_true rfl) rfl (by omega) ?_
  intro p e s m below meth c C hM ls hl
  have hx := C.1.1
  have hb := C.1.2.1
  have hl : lv_has ls 2 [(0, .ref (X.2.1 a))] := hl
  rw [cw_start ha0] at hM
  refine lv_aload_n hx hb dX6_init_0 rfl (lv_at hl 0 rfl) ?_
  refine cw_oi C hl.1 qw_349 qoi_1 qoi_2 (by decide) dX6_init_1 rfl ?_
  refine lv_aload_n hx hb dX6_init_4 rfl (lv_at hl 0 rfl) ?_
  refine lv_bipush (v := (nI 7)) hx hb dX6_init_5 (by decide) ?_
  refine cn_newI C hM (N := 7) (v := 0) (L' := [.inr (0, 7, 0, 0, 0, 0)]) (a1 := T.length) (nI_pos (by decide)) (nI_clamp (by decide)) (by decide) (by decide) (by decide) rfl rfl dX6_init_7 rfl (fun H hM => ?_)
  refine cn_put C ha hM cl_6 (j := 0) (f := (2, T.length, 0)) (fs' := [(2, T.length, 0), (0, 0, 0), (3, 0, 0), (0, 0, 0), (3, 0, 0), (3, 0, 0), (3, 0, 0)]) (by decide) qw_350 rfl rfl rfl rfl (Nat.le_of_ble_eq_true rfl) rfl dX6_init_9 rfl (fun H locs hM => ?_)
  refine lv_aload_n hx hb dX6_init_12 rfl (lv_at hl 0 rfl) ?_
  refine lv_bipush (v := (nI 7)) hx hb dX6_init_13 (by decide) ?_
  refine cn_newI C hM (N := 7) (v := -1) (L' := [.inr (0, 7, 0, 0, 0, 0), .inr (0, 7, 0, 0, 0, -1)]) (a1 := T.length + 1) (nI_pos (by decide)) (nI_clamp (by decide)) (by decide) (by decide) (by decide) rfl rfl dX6_init_15 rfl (fun H hM => ?_)
  refine cn_put C ha hM cl_6 (j := 2) (f := (2, T.length + 1, 0)) (fs' := [(2, T.length, 0), (0, 0, 0), (2, T.length + 1, 0), (0, 0, 0), (3, 0, 0), (3, 0, 0), (3, 0, 0)]) (by decide) qw_354 rfl rfl rfl rfl (Nat.le_of_ble_eq_true rfl) rfl dX6_init_17 rfl (fun H locs hM => ?_)
  refine lv_aload_n hx hb dX6_init_20 rfl (lv_at hl 0 rfl) ?_
  refine lv_iconst (v := (-1 : Int32)) hx hb dX6_init_21 (by decide) ?_
  refine cn_put C ha hM cl_6 (j := 3) (f := (0, 0, (-1 : Int32))) (fs' := [(2, T.length, 0), (0, 0, 0), (2, T.length + 1, 0), (0, 0, (-1 : Int32)), (3, 0, 0), (3, 0, 0), (3, 0, 0)]) (by decide) qw_356 rfl rfl rfl rfl (Nat.le_of_ble_eq_true rfl) rfl dX6_init_22 rfl (fun H locs hM => ?_)
  refine lv_aload_n hx hb dX6_init_25 rfl (lv_at hl 0 rfl) ?_
  refine lv_sipush (v := (nI 896)) hx hb dX6_init_26 (by decide) ?_
  refine cn_newI C hM (N := 896) (v := 0) (L' := [.inr (0, 7, 0, 0, 0, 0), .inr (0, 7, 0, 0, 0, -1), .inr (0, 896, 0, 0, 0, 0)]) (a1 := T.length + 2) (nI_pos (by decide)) (nI_clamp (by decide)) (by decide) (by decide) (by decide) rfl rfl dX6_init_29 rfl (fun H hM => ?_)
  refine cn_put C ha hM cl_6 (j := 4) (f := (2, T.length + 2, 0)) (fs' := [(2, T.length, 0), (0, 0, 0), (2, T.length + 1, 0), (0, 0, (-1 : Int32)), (2, T.length + 2, 0), (3, 0, 0), (3, 0, 0)]) (by decide) qw_358 rfl rfl rfl rfl (Nat.le_of_ble_eq_true rfl) rfl dX6_init_31 rfl (fun H locs hM => ?_)
  refine lv_aload_n hx hb dX6_init_34 rfl (lv_at hl 0 rfl) ?_
  refine lv_sipush (v := (nI 128)) hx hb dX6_init_35 (by decide) ?_
  refine cn_newI C hM (N := 128) (v := 0) (L' := [.inr (0, 7, 0, 0, 0, 0), .inr (0, 7, 0, 0, 0, -1), .inr (0, 896, 0, 0, 0, 0), .inr (0, 128, 0, 0, 0, 0)]) (a1 := T.length + 3) (nI_pos (by decide)) (nI_clamp (by decide)) (by decide) (by decide) (by decide) rfl rfl dX6_init_38 rfl (fun H hM => ?_)
  refine cn_put C ha hM cl_6 (j := 5) (f := (2, T.length + 3, 0)) (fs' := [(2, T.length, 0), (0, 0, 0), (2, T.length + 1, 0), (0, 0, (-1 : Int32)), (2, T.length + 2, 0), (2, T.length + 3, 0), (3, 0, 0)]) (by decide) qw_359 rfl rfl rfl rfl (Nat.le_of_ble_eq_true rfl) rfl dX6_init_40 rfl (fun H locs hM => ?_)
  refine lv_aload_n hx hb dX6_init_43 rfl (lv_at hl 0 rfl) ?_
  refine lv_bipush (v := (nI 7)) hx hb dX6_init_44 (by decide) ?_
  refine cn_newI C hM (N := 7) (v := 0) (L' := [.inr (0, 7, 0, 0, 0, 0), .inr (0, 7, 0, 0, 0, -1), .inr (0, 896, 0, 0, 0, 0), .inr (0, 128, 0, 0, 0, 0), .inr (0, 7, 0, 0, 0, 0)]) (a1 := T.length + 4) (nI_pos (by decide)) (nI_clamp (by decide)) (by decide) (by decide) (by decide) rfl rfl dX6_init_46 rfl (fun H hM => ?_)
  refine cn_put C ha hM cl_6 (j := 6) (f := (2, T.length + 4, 0)) (fs' := [(2, T.length, 0), (0, 0, 0), (2, T.length + 1, 0), (0, 0, (-1 : Int32)), (2, T.length + 2, 0), (2, T.length + 3, 0), (2, T.length + 4, 0)]) (by decide) qw_360 rfl rfl rfl rfl (Nat.le_of_ble_eq_true rfl) rfl dX6_init_48 rfl (fun H locs hM => ?_)
  refine lv_iconst (v := (nI 0)) hx hb dX6_init_51 (by decide) ?_
  refine lv_istore_n (lv' := [(1, .int (nI 0)), (0, .ref (X.2.1 a))]) hx hb dX6_init_52 rfl hl (by decide) rfl (fun ls hl => ?_)
  exact wX6_init_l C T a ha 7 0 rfl _ _ _ hM hl
theorem yo_X7_init : mx_Y yX7_init cX7_init 3 none 1 := ⟨qw_56, qw_3, by decide +kernel, by decide⟩
theorem dX7_init_0 : decode cX7_init 0 = .ok (.aload_n 0, 1) := by decide +kernel
theorem dX7_init_1 : decode cX7_init 1 = .ok (.invokespecial 5, 3) := by decide +kernel
theorem dX7_init_4 : decode cX7_init 4 = .ok (.aload_n 0, 1) := by decide +kernel
theorem dX7_init_5 : decode cX7_init 5 = .ok (.sipush 941, 3) := by decide +kernel
theorem dX7_init_8 : decode cX7_init 8 = .ok (.newarray .int, 2) := by decide +kernel
theorem dX7_init_10 : decode cX7_init 10 = .ok (.putfield 13, 3) := by decide +kernel
theorem dX7_init_13 : decode cX7_init 13 = .ok (.aload_n 0, 1) := by decide +kernel
theorem dX7_init_14 : decode cX7_init 14 = .ok (.sipush 941, 3) := by decide +kernel
theorem dX7_init_17 : decode cX7_init 17 = .ok (.newarray .int, 2) := by decide +kernel
theorem dX7_init_19 : decode cX7_init 19 = .ok (.putfield 17, 3) := by decide +kernel
theorem dX7_init_22 : decode cX7_init 22 = .ok (.aload_n 0, 1) := by decide +kernel
theorem dX7_init_23 : decode cX7_init 23 = .ok (.sipush 941, 3) := by decide +kernel
theorem dX7_init_26 : decode cX7_init 26 = .ok (.newarray .int, 2) := by decide +kernel
theorem dX7_init_28 : decode cX7_init 28 = .ok (.putfield 20, 3) := by decide +kernel
theorem dX7_init_31 : decode cX7_init 31 = .ok (.aload_n 0, 1) := by decide +kernel
theorem dX7_init_32 : decode cX7_init 32 = .ok (.sipush 941, 3) := by decide +kernel
theorem dX7_init_35 : decode cX7_init 35 = .ok (.newarray .long, 2) := by decide +kernel
theorem dX7_init_37 : decode cX7_init 37 = .ok (.putfield 23, 3) := by decide +kernel
theorem dX7_init_40 : decode cX7_init 40 = .ok (.aload_n 0, 1) := by decide +kernel
theorem dX7_init_41 : decode cX7_init 41 = .ok (.sipush 941, 3) := by decide +kernel
theorem dX7_init_44 : decode cX7_init 44 = .ok (.anewarray 27, 3) := by decide +kernel
theorem dX7_init_47 : decode cX7_init 47 = .ok (.putfield 29, 3) := by decide +kernel
theorem dX7_init_50 : decode cX7_init 50 = .ok (.aload_n 0, 1) := by decide +kernel
theorem dX7_init_51 : decode cX7_init 51 = .ok (.aload_n 1, 1) := by decide +kernel
theorem dX7_init_52 : decode cX7_init 52 = .ok (.putfield 33, 3) := by decide +kernel
theorem dX7_init_55 : decode cX7_init 55 = .ok (.iconst 0, 1) := by decide +kernel
theorem dX7_init_56 : decode cX7_init 56 = .ok (.istore_n 2, 1) := by decide +kernel
theorem dX7_init_57 : decode cX7_init 57 = .ok (.iload_n 2, 1) := by decide +kernel
theorem dX7_init_58 : decode cX7_init 58 = .ok (.sipush 941, 3) := by decide +kernel
theorem dX7_init_61 : decode cX7_init 61 = .ok (.if_icmp .ge 18, 3) := by decide +kernel
theorem dX7_init_64 : decode cX7_init 64 = .ok (.aload_n 0, 1) := by decide +kernel
theorem dX7_init_65 : decode cX7_init 65 = .ok (.getfield 29, 3) := by decide +kernel
theorem dX7_init_68 : decode cX7_init 68 = .ok (.iload_n 2, 1) := by decide +kernel
theorem dX7_init_69 : decode cX7_init 69 = .ok (.getstatic 37, 3) := by decide +kernel
theorem dX7_init_72 : decode cX7_init 72 = .ok (.aastore, 1) := by decide +kernel
theorem dX7_init_73 : decode cX7_init 73 = .ok (.iinc 2 1, 3) := by decide +kernel
theorem dX7_init_76 : decode cX7_init 76 = .ok (.goto (-19), 3) := by decide +kernel
theorem dX7_init_79 : decode cX7_init 79 = .ok (.return_, 1) := by decide +kernel
set_option maxRecDepth 100000 in
theorem wX7_init_l {X : XE} {p : Program} {l : Launch} {e : Env} {s : State} {m : MethodId} {args : Array Value} {below : List Frame} {meth : Method} {c : Code} (C : cw_C X (cw_g X) p m c cX7_init 3 s args RX7 meth) (T : List CN) (a : Nat) (g : Nat) (ha : a < T.length) : ∀ (d j : Nat), j + d = 941 → ∀ (H : Heap) (locs : List Loc) (ls : Array Slot), cw_H X s (T.set a (.inl (7, [(2, g, 0), (2, T.length, 0), (2, T.length + 1, 0), (2, T.length + 2, 0), (2, T.length + 3, 0), (2, T.length + 4, 0), (0, 0, 0), (0, 0, 0), (0, 0, 0), (0, 0, 0), (0, 0, 0), (0, 0, 0)])) ++ [.inr (0, 941, 0, 0, 0, 0), .inr (0, 941, 0, 0, 0, 0), .inr (0, 941, 0, 0, 0, 0), .inr (2, 941, 0, 0, 0, 0), .inr (7, 941, j, 0, 0, 0)]) H locs 5 → lv_has ls 3 [(2, .int (nI j)), (0, .ref (X.2.1 a)), (1, .ref (X.2.1 g))] → W p l e (cw_rm 1 5 4705) s m args below meth c H locs 5 4705 (cw_Z X below args s 5 4705 (T.set a (.inl (7, [(2, g, 0), (2, T.length, 0), (2, T.length + 1, 0), (2, T.length + 2, 0), (2, T.length + 3, 0), (2, T.length + 4, 0), (0, 0, 0), (0, 0, 0), (0, 0, 0), (0, 0, 0), (0, 0, 0), (0, 0, 0)])) ++ [.inr (0, 941, 0, 0, 0, 0), .inr (0, 941, 0, 0, 0, 0), .inr (0, 941, 0, 0, 0, 0), .inr (2, 941, 0, 0, 0, 0), .inr (7, 941, 941, 0, 0, 0)])) (F0 m 57 ls []) := by
  have hx := C.1.1
  have hb := C.1.2.1
  intro d
  induction d with
  | zero =>
    intro j hj H locs ls hM hl
    have hj2 : j = 941 := by omega
    subst hj2
    refine lv_iload_n hx hb dX7_init_57 rfl (lv_at hl 0 rfl) ?_
    refine lv_sipush (v := (nI 941)) hx hb dX7_init_58 (by decide) ?_
    refine lv_icmp_ge (tgt := 79) hx hb dX7_init_61 (by decide) (fun hc => ?_) (fun hc => absurd (nI_le (Nat.le_refl _) (by decide)) hc)
    exact cw_ret C hM rfl rfl rfl dX7_init_79
  | succ d ih =>
    intro j hj H locs ls hM hl
    refine lv_iload_n hx hb dX7_init_57 rfl (lv_at hl 0 rfl) ?_
    refine lv_sipush (v := (nI 941)) hx hb dX7_init_58 (by decide) ?_
    refine lv_icmp_ge (tgt := 79) hx hb dX7_init_61 (by decide) (fun hc => absurd hc (nI_ge (by omega) (by decide))) (fun hc => ?_)
    refine lv_aload_n hx hb dX7_init_64 rfl (lv_at hl 1 rfl) ?_
    refine cn_get C ha hM cl_7 (j := 5) (f := (2, T.length + 4, 0)) rfl (by decide) qw_67 rfl dX7_init_65 rfl ?_
    refine lv_iload_n hx hb dX7_init_68 rfl (lv_at hl 0 rfl) ?_
    refine cw_other C C.2.2.1 hM qw_60 dX7_init_69 rfl ?_
    refine cn_wast C C.2.2.1 hM (i := 4) (L' := [.inr (0, 941, 0, 0, 0, 0), .inr (0, 941, 0, 0, 0, 0), .inr (0, 941, 0, 0, 0, 0), .inr (2, 941, 0, 0, 0, 0), .inr (7, 941, j + 1, 0, 0, 0)]) rfl (nI_clamp (by omega)) (vp_in_nI (by omega) (by decide)) rfl dX7_init_72 rfl (fun H locs hM => ?_)
    refine lv_iinc (v := nI (j + 1)) (lv' := [(2, .int (nI (j + 1))), (0, .ref (X.2.1 a)), (1, .ref (X.2.1 g))]) hx hb dX7_init_73 hl (k := 0) rfl (nI_1 j) (by decide) rfl (fun ls hl => ?_)
    refine lv_goto (tgt := 57) hx hb dX7_init_76 (by decide) ?_
    exact ih (j + 1) (by omega) H locs ls hM hl
set_option maxRecDepth 100000 in
theorem kX7_init {X : XE} {l : Launch} (hX : cw_ok X (cw_g X)) (T : List CN) (a : Nat) (g : Nat) (ha0 : T[a]? = some (.inl (7, [(3, 0, 0), (3, 0, 0), (3, 0, 0), (3, 0, 0), (3, 0, 0), (3, 0, 0), (0, 0, 0), (0, 0, 0), (0, 0, 0), (0, 0, 0), (0, 0, 0), (0, 0, 0)]))) : cw_Met X (cw_g X) l yX7_init cX7_init 3 1 5 4705 [.ref (X.2.1 a), .ref (X.2.1 g)] T (T.set a (.inl (7, [(2, g, 0), (2, T.length, 0), (2, T.length + 1, 0), (2, T.length + 2, 0), (2, T.length + 3, 0), (2, T.length + 4, 0), (0, 0, 0), (0, 0, 0), (0, 0, 0), (0, 0, 0), (0, 0, 0), (0, 0, 0)])) ++ [.inr (0, 941, 0, 0, 0, 0), .inr (0, 941, 0, 0, 0, 0), .inr (0, 941, 0, 0, 0, 0), .inr (2, 941, 0, 0, 0, 0), .inr (7, 941, 941, 0, 0, 0)]) := by
  have ha : a < T.length := (List.getElem?_eq_some_iff.mp ha0).1
  refine cw_enter hX (by decide) (Nat.le_of_ble_eq_true rfl) rfl (by omega) ?_
  intro p e s m below meth c C hM ls hl
  have hx := C.1.1
  have hb := C.1.2.1
  have hl : lv_has ls 3 [(0, .ref (X.2.1 a)), (1, .ref (X.2.1 g))] := hl
  rw [cw_start ha0] at hM
  refine lv_aload_n hx hb dX7_init_0 rfl (lv_at hl 0 rfl) ?_
  refine cw_oi C hl.1 qw_57 qoi_1 qoi_2 (by decide) dX7_init_1 rfl ?_
  refine lv_aload_n hx hb dX7_init_4 rfl (lv_at hl 0 rfl) ?_
  refine lv_sipush (v := (nI 941)) hx hb dX7_init_5 (by decide) ?_
  refine cn_newI C hM (N := 941) (v := 0) (L' := [.inr (0, 941, 0, 0, 0, 0)]) (a1 := T.length) (nI_pos (by decide)) (nI_clamp (by decide)) (by decide) (by decide) (by decide) rfl rfl dX7_init_8 rfl (fun H hM => ?_)
  refine cn_put C ha hM cl_7 (j := 1) (f := (2, T.length, 0)) (fs' := [(3, 0, 0), (2, T.length, 0), (3, 0, 0), (3, 0, 0), (3, 0, 0), (3, 0, 0), (0, 0, 0), (0, 0, 0), (0, 0, 0), (0, 0, 0), (0, 0, 0), (0, 0, 0)]) (by decide) qw_63 rfl rfl rfl rfl (Nat.le_of_ble_eq_true rfl) rfl dX7_init_10 rfl (fun H locs hM => ?_)
  refine lv_aload_n hx hb dX7_init_13 rfl (lv_at hl 0 rfl) ?_
  refine lv_sipush (v := (nI 941)) hx hb dX7_init_14 (by decide) ?_
  refine cn_newI C hM (N := 941) (v := 0) (L' := [.inr (0, 941, 0, 0, 0, 0), .inr (0, 941, 0, 0, 0, 0)]) (a1 := T.length + 1) (nI_pos (by decide)) (nI_clamp (by decide)) (by decide) (by decide) (by decide) rfl rfl dX7_init_17 rfl (fun H hM => ?_)
  refine cn_put C ha hM cl_7 (j := 2) (f := (2, T.length + 1, 0)) (fs' := [(3, 0, 0), (2, T.length, 0), (2, T.length + 1, 0), (3, 0, 0), (3, 0, 0), (3, 0, 0), (0, 0, 0), (0, 0, 0), (0, 0, 0), (0, 0, 0), (0, 0, 0), (0, 0, 0)]) (by decide) qw_64 rfl rfl rfl rfl (Nat.le_of_ble_eq_true rfl) rfl dX7_init_19 rfl (fun H locs hM => ?_)
  refine lv_aload_n hx hb dX7_init_22 rfl (lv_at hl 0 rfl) ?_
  refine lv_sipush (v := (nI 941)) hx hb dX7_init_23 (by decide) ?_
  refine cn_newI C hM (N := 941) (v := 0) (L' := [.inr (0, 941, 0, 0, 0, 0), .inr (0, 941, 0, 0, 0, 0), .inr (0, 941, 0, 0, 0, 0)]) (a1 := T.length + 2) (nI_pos (by decide)) (nI_clamp (by decide)) (by decide) (by decide) (by decide) rfl rfl dX7_init_26 rfl (fun H hM => ?_)
  refine cn_put C ha hM cl_7 (j := 3) (f := (2, T.length + 2, 0)) (fs' := [(3, 0, 0), (2, T.length, 0), (2, T.length + 1, 0), (2, T.length + 2, 0), (3, 0, 0), (3, 0, 0), (0, 0, 0), (0, 0, 0), (0, 0, 0), (0, 0, 0), (0, 0, 0), (0, 0, 0)]) (by decide) qw_65 rfl rfl rfl rfl (Nat.le_of_ble_eq_true rfl) rfl dX7_init_28 rfl (fun H locs hM => ?_)
  refine lv_aload_n hx hb dX7_init_31 rfl (lv_at hl 0 rfl) ?_
  refine lv_sipush (v := (nI 941)) hx hb dX7_init_32 (by decide) ?_
  refine cn_newJ C hM (N := 941) (v := 0) (L' := [.inr (0, 941, 0, 0, 0, 0), .inr (0, 941, 0, 0, 0, 0), .inr (0, 941, 0, 0, 0, 0), .inr (2, 941, 0, 0, 0, 0)]) (a1 := T.length + 3) (nI_pos (by decide)) (nI_clamp (by decide)) (by decide) (by decide) (by decide) rfl rfl dX7_init_35 rfl (fun H hM => ?_)
  refine cn_put C ha hM cl_7 (j := 4) (f := (2, T.length + 3, 0)) (fs' := [(3, 0, 0), (2, T.length, 0), (2, T.length + 1, 0), (2, T.length + 2, 0), (2, T.length + 3, 0), (3, 0, 0), (0, 0, 0), (0, 0, 0), (0, 0, 0), (0, 0, 0), (0, 0, 0), (0, 0, 0)]) (by decide) qw_66 rfl rfl rfl rfl (Nat.le_of_ble_eq_true rfl) rfl dX7_init_37 rfl (fun H locs hM => ?_)
  refine lv_aload_n hx hb dX7_init_40 rfl (lv_at hl 0 rfl) ?_
  refine lv_sipush (v := (nI 941)) hx hb dX7_init_41 (by decide) ?_
  refine cn_newQ C hM (t := 7) (N := 941) (a := 0) (b := 0) (L' := [.inr (0, 941, 0, 0, 0, 0), .inr (0, 941, 0, 0, 0, 0), .inr (0, 941, 0, 0, 0, 0), .inr (2, 941, 0, 0, 0, 0), .inr (7, 941, 0, 0, 0, 0)]) (a1 := T.length + 4) qw_58 C.2.2.1.2.2.2.2 rfl rfl (nI_pos (by decide)) (nI_clamp (by decide)) (by decide) (by decide) (by decide) rfl rfl dX7_init_44 rfl (fun H hM => ?_)
  refine cn_put C ha hM cl_7 (j := 5) (f := (2, T.length + 4, 0)) (fs' := [(3, 0, 0), (2, T.length, 0), (2, T.length + 1, 0), (2, T.length + 2, 0), (2, T.length + 3, 0), (2, T.length + 4, 0), (0, 0, 0), (0, 0, 0), (0, 0, 0), (0, 0, 0), (0, 0, 0), (0, 0, 0)]) (by decide) qw_67 rfl rfl rfl rfl (Nat.le_of_ble_eq_true rfl) rfl dX7_init_47 rfl (fun H locs hM => ?_)
  refine lv_aload_n hx hb dX7_init_50 rfl (lv_at hl 0 rfl) ?_
  refine lv_aload_n hx hb dX7_init_51 rfl (lv_at hl 1 rfl) ?_
  refine cn_put C ha hM cl_7 (j := 0) (f := (2, g, 0)) (fs' := [(2, g, 0), (2, T.length, 0), (2, T.length + 1, 0), (2, T.length + 2, 0), (2, T.length + 3, 0), (2, T.length + 4, 0), (0, 0, 0), (0, 0, 0), (0, 0, 0), (0, 0, 0), (0, 0, 0), (0, 0, 0)]) (by decide) qw_62 rfl rfl rfl rfl (Nat.le_of_ble_eq_true rfl) rfl dX7_init_52 rfl (fun H locs hM => ?_)
  refine lv_iconst (v := (nI 0)) hx hb dX7_init_55 (by decide) ?_
  refine lv_istore_n (lv' := [(2, .int (nI 0)), (0, .ref (X.2.1 a)), (1, .ref (X.2.1 g))]) hx hb dX7_init_56 rfl hl (by decide) rfl (fun ls hl => ?_)
  exact wX7_init_l C T a g ha 941 0 rfl _ _ _ hM hl
theorem yo_X8_init : mx_Y yX8_init cX8_init 2 none 0 := ⟨qw_281, qw_9, by decide +kernel, by decide⟩
theorem dX8_init_0 : decode cX8_init 0 = .ok (.aload_n 0, 1) := by decide +kernel
theorem dX8_init_1 : decode cX8_init 1 = .ok (.invokespecial 5, 3) := by decide +kernel
theorem dX8_init_4 : decode cX8_init 4 = .ok (.aload_n 0, 1) := by decide +kernel
theorem dX8_init_5 : decode cX8_init 5 = .ok (.bipush 40, 2) := by decide +kernel
theorem dX8_init_7 : decode cX8_init 7 = .ok (.anewarray 11, 3) := by decide +kernel
theorem dX8_init_10 : decode cX8_init 10 = .ok (.putfield 13, 3) := by decide +kernel
theorem dX8_init_13 : decode cX8_init 13 = .ok (.aload_n 0, 1) := by decide +kernel
theorem dX8_init_14 : decode cX8_init 14 = .ok (.bipush 40, 2) := by decide +kernel
theorem dX8_init_16 : decode cX8_init 16 = .ok (.newarray .int, 2) := by decide +kernel
theorem dX8_init_18 : decode cX8_init 18 = .ok (.putfield 17, 3) := by decide +kernel
theorem dX8_init_21 : decode cX8_init 21 = .ok (.aload_n 0, 1) := by decide +kernel
theorem dX8_init_22 : decode cX8_init 22 = .ok (.bipush 40, 2) := by decide +kernel
theorem dX8_init_24 : decode cX8_init 24 = .ok (.newarray .int, 2) := by decide +kernel
theorem dX8_init_26 : decode cX8_init 26 = .ok (.putfield 21, 3) := by decide +kernel
theorem dX8_init_29 : decode cX8_init 29 = .ok (.iconst 0, 1) := by decide +kernel
theorem dX8_init_30 : decode cX8_init 30 = .ok (.istore_n 1, 1) := by decide +kernel
theorem dX8_init_31 : decode cX8_init 31 = .ok (.iload_n 1, 1) := by decide +kernel
theorem dX8_init_32 : decode cX8_init 32 = .ok (.bipush 40, 2) := by decide +kernel
theorem dX8_init_34 : decode cX8_init 34 = .ok (.if_icmp .ge 18, 3) := by decide +kernel
theorem dX8_init_37 : decode cX8_init 37 = .ok (.aload_n 0, 1) := by decide +kernel
theorem dX8_init_38 : decode cX8_init 38 = .ok (.getfield 13, 3) := by decide +kernel
theorem dX8_init_41 : decode cX8_init 41 = .ok (.iload_n 1, 1) := by decide +kernel
theorem dX8_init_42 : decode cX8_init 42 = .ok (.getstatic 24, 3) := by decide +kernel
theorem dX8_init_45 : decode cX8_init 45 = .ok (.aastore, 1) := by decide +kernel
theorem dX8_init_46 : decode cX8_init 46 = .ok (.iinc 1 1, 3) := by decide +kernel
theorem dX8_init_49 : decode cX8_init 49 = .ok (.goto (-18), 3) := by decide +kernel
theorem dX8_init_52 : decode cX8_init 52 = .ok (.return_, 1) := by decide +kernel
set_option maxRecDepth 100000 in
theorem wX8_init_l {X : XE} {p : Program} {l : Launch} {e : Env} {s : State} {m : MethodId} {args : Array Value} {below : List Frame} {meth : Method} {c : Code} (C : cw_C X (cw_g X) p m c cX8_init 2 s args RX8 meth) (T : List CN) (a : Nat) (ha : a < T.length) : ∀ (d j : Nat), j + d = 40 → ∀ (H : Heap) (locs : List Loc) (ls : Array Slot), cw_H X s (T.set a (.inl (8, [(2, T.length, 0), (2, T.length + 1, 0), (2, T.length + 2, 0), (0, 0, 0), (0, 0, 0)])) ++ [.inr (7, 40, j, 0, 0, 0), .inr (0, 40, 0, 0, 0, 0), .inr (0, 40, 0, 0, 0, 0)]) H locs 3 → lv_has ls 2 [(1, .int (nI j)), (0, .ref (X.2.1 a))] → W p l e (cw_rm 1 3 120) s m args below meth c H locs 3 120 (cw_Z X below args s 3 120 (T.set a (.inl (8, [(2, T.length, 0), (2, T.length + 1, 0), (2, T.length + 2, 0), (0, 0, 0), (0, 0, 0)])) ++ [.inr (7, 40, 40, 0, 0, 0), .inr (0, 40, 0, 0, 0, 0), .inr (0, 40, 0, 0, 0, 0)])) (F0 m 31 ls []) := by
  have hx := C.1.1
  have hb := C.1.2.1
  intro d
  induction d with
  | zero =>
    intro j hj H locs ls hM hl
    have hj2 : j = 40 := by omega
    subst hj2
    refine lv_iload_n hx hb dX8_init_31 rfl (lv_at hl 0 rfl) ?_
    refine lv_bipush (v := (nI 40)) hx hb dX8_init_32 (by decide) ?_
    refine lv_icmp_ge (tgt := 52) hx hb dX8_init_34 (by decide) (fun hc => ?_) (fun hc => absurd (nI_le (Nat.le_refl _) (by decide)) hc)
    exact cw_ret C hM rfl rfl rfl dX8_init_52
  | succ d ih =>
    intro j hj H locs ls hM hl
    refine lv_iload_n hx hb dX8_init_31 rfl (lv_at hl 0 rfl) ?_
    refine lv_bipush (v := (nI 40)) hx hb dX8_init_32 (by decide) ?_
    refine lv_icmp_ge (tgt := 52) hx hb dX8_init_34 (by decide) (fun hc => absurd hc (nI_ge (by omega) (by decide))) (fun hc => ?_)
    refine lv_aload_n hx hb dX8_init_37 rfl (lv_at hl 1 rfl) ?_
    refine cn_get C ha hM cl_8 (j := 0) (f := (2, T.length, 0)) rfl (by decide) qw_285 rfl dX8_init_38 rfl ?_
    refine lv_iload_n hx hb dX8_init_41 rfl (lv_at hl 0 rfl) ?_
    refine cw_other C C.2.2.1 hM qw_284 dX8_init_42 rfl ?_
    refine cn_wast C C.2.2.1 hM (i := 0) (L' := [.inr (7, 40, j + 1, 0, 0, 0), .inr (0, 40, 0, 0, 0, 0), .inr (0, 40, 0, 0, 0, 0)]) rfl (nI_clamp (by omega)) (vp_in_nI (by omega) (by decide)) rfl dX8_init_45 rfl (fun H locs hM => ?_)
    refine lv_iinc (v := nI (j + 1)) (lv' := [(1, .int (nI (j + 1))), (0, .ref (X.2.1 a))]) hx hb dX8_init_46 hl (k := 0) rfl (nI_1 j) (by decide) rfl (fun ls hl => ?_)
    refine lv_goto (tgt := 31) hx hb dX8_init_49 (by decide) ?_
    exact ih (j + 1) (by omega) H locs ls hM hl
set_option maxRecDepth 100000 in
theorem kX8_init {X : XE} {l : Launch} (hX : cw_ok X (cw_g X)) (T : List CN) (a : Nat) (ha0 : T[a]? = some (.inl (8, [(3, 0, 0), (3, 0, 0), (3, 0, 0), (0, 0, 0), (0, 0, 0)]))) : cw_Met X (cw_g X) l yX8_init cX8_init 2 1 3 120 [.ref (X.2.1 a)] T (T.set a (.inl (8, [(2, T.length, 0), (2, T.length + 1, 0), (2, T.length + 2, 0), (0, 0, 0), (0, 0, 0)])) ++ [.inr (7, 40, 40, 0, 0, 0), .inr (0, 40, 0, 0, 0, 0), .inr (0, 40, 0, 0, 0, 0)]) := by
  have ha : a < T.length := (List.getElem?_eq_some_iff.mp ha0).1
  refine cw_enter hX (by decide) (Nat.le_of_ble_eq_true rfl) rfl (by omega) ?_
  intro p e s m below meth c C hM ls hl
  have hx := C.1.1
  have hb := C.1.2.1
  have hl : lv_has ls 2 [(0, .ref (X.2.1 a))] := hl
  rw [cw_start ha0] at hM
  refine lv_aload_n hx hb dX8_init_0 rfl (lv_at hl 0 rfl) ?_
  refine cw_oi C hl.1 qw_282 qoi_1 qoi_2 (by decide) dX8_init_1 rfl ?_
  refine lv_aload_n hx hb dX8_init_4 rfl (lv_at hl 0 rfl) ?_
  refine lv_bipush (v := (nI 40)) hx hb dX8_init_5 (by decide) ?_
  refine cn_newQ C hM (t := 7) (N := 40) (a := 0) (b := 0) (L' := [.inr (7, 40, 0, 0, 0, 0)]) (a1 := T.length) qw_283 C.2.2.1.2.2.2.2 rfl rfl (nI_pos (by decide)) (nI_clamp (by decide)) (by decide) (by decide) (by decide) rfl rfl dX8_init_7 rfl (fun H hM => ?_)
  refine cn_put C ha hM cl_8 (j := 0) (f := (2, T.length, 0)) (fs' := [(2, T.length, 0), (3, 0, 0), (3, 0, 0), (0, 0, 0), (0, 0, 0)]) (by decide) qw_285 rfl rfl rfl rfl (Nat.le_of_ble_eq_true rfl) rfl dX8_init_10 rfl (fun H locs hM => ?_)
  refine lv_aload_n hx hb dX8_init_13 rfl (lv_at hl 0 rfl) ?_
  refine lv_bipush (v := (nI 40)) hx hb dX8_init_14 (by decide) ?_
  refine cn_newI C hM (N := 40) (v := 0) (L' := [.inr (7, 40, 0, 0, 0, 0), .inr (0, 40, 0, 0, 0, 0)]) (a1 := T.length + 1) (nI_pos (by decide)) (nI_clamp (by decide)) (by decide) (by decide) (by decide) rfl rfl dX8_init_16 rfl (fun H hM => ?_)
  refine cn_put C ha hM cl_8 (j := 1) (f := (2, T.length + 1, 0)) (fs' := [(2, T.length, 0), (2, T.length + 1, 0), (3, 0, 0), (0, 0, 0), (0, 0, 0)]) (by decide) qw_286 rfl rfl rfl rfl (Nat.le_of_ble_eq_true rfl) rfl dX8_init_18 rfl (fun H locs hM => ?_)
  refine lv_aload_n hx hb dX8_init_21 rfl (lv_at hl 0 rfl) ?_
  refine lv_bipush (v := (nI 40)) hx hb dX8_init_22 (by decide) ?_
  refine cn_newI C hM (N := 40) (v := 0) (L' := [.inr (7, 40, 0, 0, 0, 0), .inr (0, 40, 0, 0, 0, 0), .inr (0, 40, 0, 0, 0, 0)]) (a1 := T.length + 2) (nI_pos (by decide)) (nI_clamp (by decide)) (by decide) (by decide) (by decide) rfl rfl dX8_init_24 rfl (fun H hM => ?_)
  refine cn_put C ha hM cl_8 (j := 2) (f := (2, T.length + 2, 0)) (fs' := [(2, T.length, 0), (2, T.length + 1, 0), (2, T.length + 2, 0), (0, 0, 0), (0, 0, 0)]) (by decide) qw_287 rfl rfl rfl rfl (Nat.le_of_ble_eq_true rfl) rfl dX8_init_26 rfl (fun H locs hM => ?_)
  refine lv_iconst (v := (nI 0)) hx hb dX8_init_29 (by decide) ?_
  refine lv_istore_n (lv' := [(1, .int (nI 0)), (0, .ref (X.2.1 a))]) hx hb dX8_init_30 rfl hl (by decide) rfl (fun ls hl => ?_)
  exact wX8_init_l C T a ha 40 0 rfl _ _ _ hM hl
theorem yo_X9_init : mx_Y yX9_init cX9_init 2 none 1 := ⟨qw_202, qw_7, by decide +kernel, by decide⟩
theorem dX9_init_0 : decode cX9_init 0 = .ok (.aload_n 0, 1) := by decide +kernel
theorem dX9_init_1 : decode cX9_init 1 = .ok (.invokespecial 3, 3) := by decide +kernel
theorem dX9_init_4 : decode cX9_init 4 = .ok (.aload_n 0, 1) := by decide +kernel
theorem dX9_init_5 : decode cX9_init 5 = .ok (.bipush 7, 2) := by decide +kernel
theorem dX9_init_7 : decode cX9_init 7 = .ok (.newarray .int, 2) := by decide +kernel
theorem dX9_init_9 : decode cX9_init 9 = .ok (.putfield 9, 3) := by decide +kernel
theorem dX9_init_12 : decode cX9_init 12 = .ok (.aload_n 0, 1) := by decide +kernel
theorem dX9_init_13 : decode cX9_init 13 = .ok (.bipush 7, 2) := by decide +kernel
theorem dX9_init_15 : decode cX9_init 15 = .ok (.newarray .int, 2) := by decide +kernel
theorem dX9_init_17 : decode cX9_init 17 = .ok (.putfield 15, 3) := by decide +kernel
theorem dX9_init_20 : decode cX9_init 20 = .ok (.aload_n 0, 1) := by decide +kernel
theorem dX9_init_21 : decode cX9_init 21 = .ok (.bipush 7, 2) := by decide +kernel
theorem dX9_init_23 : decode cX9_init 23 = .ok (.newarray .int, 2) := by decide +kernel
theorem dX9_init_25 : decode cX9_init 25 = .ok (.putfield 18, 3) := by decide +kernel
theorem dX9_init_28 : decode cX9_init 28 = .ok (.aload_n 0, 1) := by decide +kernel
theorem dX9_init_29 : decode cX9_init 29 = .ok (.bipush 7, 2) := by decide +kernel
theorem dX9_init_31 : decode cX9_init 31 = .ok (.newarray .int, 2) := by decide +kernel
theorem dX9_init_33 : decode cX9_init 33 = .ok (.putfield 21, 3) := by decide +kernel
theorem dX9_init_36 : decode cX9_init 36 = .ok (.aload_n 0, 1) := by decide +kernel
theorem dX9_init_37 : decode cX9_init 37 = .ok (.bipush 7, 2) := by decide +kernel
theorem dX9_init_39 : decode cX9_init 39 = .ok (.newarray .int, 2) := by decide +kernel
theorem dX9_init_41 : decode cX9_init 41 = .ok (.putfield 24, 3) := by decide +kernel
theorem dX9_init_44 : decode cX9_init 44 = .ok (.aload_n 0, 1) := by decide +kernel
theorem dX9_init_45 : decode cX9_init 45 = .ok (.bipush 7, 2) := by decide +kernel
theorem dX9_init_47 : decode cX9_init 47 = .ok (.newarray .int, 2) := by decide +kernel
theorem dX9_init_49 : decode cX9_init 49 = .ok (.putfield 27, 3) := by decide +kernel
theorem dX9_init_52 : decode cX9_init 52 = .ok (.aload_n 0, 1) := by decide +kernel
theorem dX9_init_53 : decode cX9_init 53 = .ok (.bipush 7, 2) := by decide +kernel
theorem dX9_init_55 : decode cX9_init 55 = .ok (.newarray .int, 2) := by decide +kernel
theorem dX9_init_57 : decode cX9_init 57 = .ok (.putfield 30, 3) := by decide +kernel
theorem dX9_init_60 : decode cX9_init 60 = .ok (.aload_n 0, 1) := by decide +kernel
theorem dX9_init_61 : decode cX9_init 61 = .ok (.bipush 7, 2) := by decide +kernel
theorem dX9_init_63 : decode cX9_init 63 = .ok (.newarray .int, 2) := by decide +kernel
theorem dX9_init_65 : decode cX9_init 65 = .ok (.putfield 33, 3) := by decide +kernel
theorem dX9_init_68 : decode cX9_init 68 = .ok (.aload_n 0, 1) := by decide +kernel
theorem dX9_init_69 : decode cX9_init 69 = .ok (.aload_n 1, 1) := by decide +kernel
theorem dX9_init_70 : decode cX9_init 70 = .ok (.putfield 36, 3) := by decide +kernel
theorem dX9_init_73 : decode cX9_init 73 = .ok (.return_, 1) := by decide +kernel
set_option maxRecDepth 100000 in
theorem kX9_init {X : XE} {l : Launch} (hX : cw_ok X (cw_g X)) (T : List CN) (a : Nat) (g : Nat) (ha0 : T[a]? = some (.inl (9, [(3, 0, 0), (3, 0, 0), (3, 0, 0), (3, 0, 0), (3, 0, 0), (3, 0, 0), (3, 0, 0), (3, 0, 0), (3, 0, 0), (0, 0, 0), (0, 0, 0), (0, 0, 0), (0, 0, 0)]))) : cw_Met X (cw_g X) l yX9_init cX9_init 2 1 8 56 [.ref (X.2.1 a), .ref (X.2.1 g)] T (T.set a (.inl (9, [(2, g, 0), (2, T.length, 0), (2, T.length + 1, 0), (2, T.length + 2, 0), (2, T.length + 3, 0), (2, T.length + 4, 0), (2, T.length + 5, 0), (2, T.length + 6, 0), (2, T.length + 7, 0), (0, 0, 0), (0, 0, 0), (0, 0, 0), (0, 0, 0)])) ++ [.inr (0, 7, 0, 0, 0, 0), .inr (0, 7, 0, 0, 0, 0), .inr (0, 7, 0, 0, 0, 0), .inr (0, 7, 0, 0, 0, 0), .inr (0, 7, 0, 0, 0, 0), .inr (0, 7, 0, 0, 0, 0), .inr (0, 7, 0, 0, 0, 0), .inr (0, 7, 0, 0, 0, 0)]) := by
  have ha : a < T.length := (List.getElem?_eq_some_iff.mp ha0).1
  refine cw_enter hX (by decide) (Nat.le_of_ble_eq_true rfl) rfl (by omega) ?_
  intro p e s m below meth c C hM ls hl
  have hx := C.1.1
  have hb := C.1.2.1
  have hl : lv_has ls 2 [(0, .ref (X.2.1 a)), (1, .ref (X.2.1 g))] := hl
  rw [cw_start ha0] at hM
  refine lv_aload_n hx hb dX9_init_0 rfl (lv_at hl 0 rfl) ?_
  refine cw_oi C hl.1 qw_203 qoi_1 qoi_2 (by decide) dX9_init_1 rfl ?_
  refine lv_aload_n hx hb dX9_init_4 rfl (lv_at hl 0 rfl) ?_
  refine lv_bipush (v := (nI 7)) hx hb dX9_init_5 (by decide) ?_
  refine cn_newI C hM (N := 7) (v := 0) (L' := [.inr (0, 7, 0, 0, 0, 0)]) (a1 := T.length) (nI_pos (by decide)) (nI_clamp (by decide)) (by decide) (by decide) (by decide) rfl rfl dX9_init_7 rfl (fun H hM => ?_)
  refine cn_put C ha hM cl_9 (j := 1) (f := (2, T.length, 0)) (fs' := [(3, 0, 0), (2, T.length, 0), (3, 0, 0), (3, 0, 0), (3, 0, 0), (3, 0, 0), (3, 0, 0), (3, 0, 0), (3, 0, 0), (0, 0, 0), (0, 0, 0), (0, 0, 0), (0, 0, 0)]) (by decide) qw_208 rfl rfl rfl rfl (Nat.le_of_ble_eq_true rfl) rfl dX9_init_9 rfl (fun H locs hM => ?_)
  refine lv_aload_n hx hb dX9_init_12 rfl (lv_at hl 0 rfl) ?_
  refine lv_bipush (v := (nI 7)) hx hb dX9_init_13 (by decide) ?_
  refine cn_newI C hM (N := 7) (v := 0) (L' := [.inr (0, 7, 0, 0, 0, 0), .inr (0, 7, 0, 0, 0, 0)]) (a1 := T.length + 1) (nI_pos (by decide)) (nI_clamp (by decide)) (by decide) (by decide) (by decide) rfl rfl dX9_init_15 rfl (fun H hM => ?_)
  refine cn_put C ha hM cl_9 (j := 2) (f := (2, T.length + 1, 0)) (fs' := [(3, 0, 0), (2, T.length, 0), (2, T.length + 1, 0), (3, 0, 0), (3, 0, 0), (3, 0, 0), (3, 0, 0), (3, 0, 0), (3, 0, 0), (0, 0, 0), (0, 0, 0), (0, 0, 0), (0, 0, 0)]) (by decide) qw_210 rfl rfl rfl rfl (Nat.le_of_ble_eq_true rfl) rfl dX9_init_17 rfl (fun H locs hM => ?_)
  refine lv_aload_n hx hb dX9_init_20 rfl (lv_at hl 0 rfl) ?_
  refine lv_bipush (v := (nI 7)) hx hb dX9_init_21 (by decide) ?_
  refine cn_newI C hM (N := 7) (v := 0) (L' := [.inr (0, 7, 0, 0, 0, 0), .inr (0, 7, 0, 0, 0, 0), .inr (0, 7, 0, 0, 0, 0)]) (a1 := T.length + 2) (nI_pos (by decide)) (nI_clamp (by decide)) (by decide) (by decide) (by decide) rfl rfl dX9_init_23 rfl (fun H hM => ?_)
  refine cn_put C ha hM cl_9 (j := 3) (f := (2, T.length + 2, 0)) (fs' := [(3, 0, 0), (2, T.length, 0), (2, T.length + 1, 0), (2, T.length + 2, 0), (3, 0, 0), (3, 0, 0), (3, 0, 0), (3, 0, 0), (3, 0, 0), (0, 0, 0), (0, 0, 0), (0, 0, 0), (0, 0, 0)]) (by decide) qw_212 rfl rfl rfl rfl (Nat.le_of_ble_eq_true rfl) rfl dX9_init_25 rfl (fun H locs hM => ?_)
  refine lv_aload_n hx hb dX9_init_28 rfl (lv_at hl 0 rfl) ?_
  refine lv_bipush (v := (nI 7)) hx hb dX9_init_29 (by decide) ?_
  refine cn_newI C hM (N := 7) (v := 0) (L' := [.inr (0, 7, 0, 0, 0, 0), .inr (0, 7, 0, 0, 0, 0), .inr (0, 7, 0, 0, 0, 0), .inr (0, 7, 0, 0, 0, 0)]) (a1 := T.length + 3) (nI_pos (by decide)) (nI_clamp (by decide)) (by decide) (by decide) (by decide) rfl rfl dX9_init_31 rfl (fun H hM => ?_)
  refine cn_put C ha hM cl_9 (j := 4) (f := (2, T.length + 3, 0)) (fs' := [(3, 0, 0), (2, T.length, 0), (2, T.length + 1, 0), (2, T.length + 2, 0), (2, T.length + 3, 0), (3, 0, 0), (3, 0, 0), (3, 0, 0), (3, 0, 0), (0, 0, 0), (0, 0, 0), (0, 0, 0), (0, 0, 0)]) (by decide) qw_215 rfl rfl rfl rfl (Nat.le_of_ble_eq_true rfl) rfl dX9_init_33 rfl (fun H locs hM => ?_)
  refine lv_aload_n hx hb dX9_init_36 rfl (lv_at hl 0 rfl) ?_
  refine lv_bipush (v := (nI 7)) hx hb dX9_init_37 (by decide) ?_
  refine cn_newI C hM (N := 7) (v := 0) (L' := [.inr (0, 7, 0, 0, 0, 0), .inr (0, 7, 0, 0, 0, 0), .inr (0, 7, 0, 0, 0, 0), .inr (0, 7, 0, 0, 0, 0), .inr (0, 7, 0, 0, 0, 0)]) (a1 := T.length + 4) (nI_pos (by decide)) (nI_clamp (by decide)) (by decide) (by decide) (by decide) rfl rfl dX9_init_39 rfl (fun H hM => ?_)
  refine cn_put C ha hM cl_9 (j := 5) (f := (2, T.length + 4, 0)) (fs' := [(3, 0, 0), (2, T.length, 0), (2, T.length + 1, 0), (2, T.length + 2, 0), (2, T.length + 3, 0), (2, T.length + 4, 0), (3, 0, 0), (3, 0, 0), (3, 0, 0), (0, 0, 0), (0, 0, 0), (0, 0, 0), (0, 0, 0)]) (by decide) qw_218 rfl rfl rfl rfl (Nat.le_of_ble_eq_true rfl) rfl dX9_init_41 rfl (fun H locs hM => ?_)
  refine lv_aload_n hx hb dX9_init_44 rfl (lv_at hl 0 rfl) ?_
  refine lv_bipush (v := (nI 7)) hx hb dX9_init_45 (by decide) ?_
  refine cn_newI C hM (N := 7) (v := 0) (L' := [.inr (0, 7, 0, 0, 0, 0), .inr (0, 7, 0, 0, 0, 0), .inr (0, 7, 0, 0, 0, 0), .inr (0, 7, 0, 0, 0, 0), .inr (0, 7, 0, 0, 0, 0), .inr (0, 7, 0, 0, 0, 0)]) (a1 := T.length + 5) (nI_pos (by decide)) (nI_clamp (by decide)) (by decide) (by decide) (by decide) rfl rfl dX9_init_47 rfl (fun H hM => ?_)
  refine cn_put C ha hM cl_9 (j := 6) (f := (2, T.length + 5, 0)) (fs' := [(3, 0, 0), (2, T.length, 0), (2, T.length + 1, 0), (2, T.length + 2, 0), (2, T.length + 3, 0), (2, T.length + 4, 0), (2, T.length + 5, 0), (3, 0, 0), (3, 0, 0), (0, 0, 0), (0, 0, 0), (0, 0, 0), (0, 0, 0)]) (by decide) qw_221 rfl rfl rfl rfl (Nat.le_of_ble_eq_true rfl) rfl dX9_init_49 rfl (fun H locs hM => ?_)
  refine lv_aload_n hx hb dX9_init_52 rfl (lv_at hl 0 rfl) ?_
  refine lv_bipush (v := (nI 7)) hx hb dX9_init_53 (by decide) ?_
  refine cn_newI C hM (N := 7) (v := 0) (L' := [.inr (0, 7, 0, 0, 0, 0), .inr (0, 7, 0, 0, 0, 0), .inr (0, 7, 0, 0, 0, 0), .inr (0, 7, 0, 0, 0, 0), .inr (0, 7, 0, 0, 0, 0), .inr (0, 7, 0, 0, 0, 0), .inr (0, 7, 0, 0, 0, 0)]) (a1 := T.length + 6) (nI_pos (by decide)) (nI_clamp (by decide)) (by decide) (by decide) (by decide) rfl rfl dX9_init_55 rfl (fun H hM => ?_)
  refine cn_put C ha hM cl_9 (j := 7) (f := (2, T.length + 6, 0)) (fs' := [(3, 0, 0), (2, T.length, 0), (2, T.length + 1, 0), (2, T.length + 2, 0), (2, T.length + 3, 0), (2, T.length + 4, 0), (2, T.length + 5, 0), (2, T.length + 6, 0), (3, 0, 0), (0, 0, 0), (0, 0, 0), (0, 0, 0), (0, 0, 0)]) (by decide) qw_222 rfl rfl rfl rfl (Nat.le_of_ble_eq_true rfl) rfl dX9_init_57 rfl (fun H locs hM => ?_)
  refine lv_aload_n hx hb dX9_init_60 rfl (lv_at hl 0 rfl) ?_
  refine lv_bipush (v := (nI 7)) hx hb dX9_init_61 (by decide) ?_
  refine cn_newI C hM (N := 7) (v := 0) (L' := [.inr (0, 7, 0, 0, 0, 0), .inr (0, 7, 0, 0, 0, 0), .inr (0, 7, 0, 0, 0, 0), .inr (0, 7, 0, 0, 0, 0), .inr (0, 7, 0, 0, 0, 0), .inr (0, 7, 0, 0, 0, 0), .inr (0, 7, 0, 0, 0, 0), .inr (0, 7, 0, 0, 0, 0)]) (a1 := T.length + 7) (nI_pos (by decide)) (nI_clamp (by decide)) (by decide) (by decide) (by decide) rfl rfl dX9_init_63 rfl (fun H hM => ?_)
  refine cn_put C ha hM cl_9 (j := 8) (f := (2, T.length + 7, 0)) (fs' := [(3, 0, 0), (2, T.length, 0), (2, T.length + 1, 0), (2, T.length + 2, 0), (2, T.length + 3, 0), (2, T.length + 4, 0), (2, T.length + 5, 0), (2, T.length + 6, 0), (2, T.length + 7, 0), (0, 0, 0), (0, 0, 0), (0, 0, 0), (0, 0, 0)]) (by decide) qw_223 rfl rfl rfl rfl (Nat.le_of_ble_eq_true rfl) rfl dX9_init_65 rfl (fun H locs hM => ?_)
  refine lv_aload_n hx hb dX9_init_68 rfl (lv_at hl 0 rfl) ?_
  refine lv_aload_n hx hb dX9_init_69 rfl (lv_at hl 1 rfl) ?_
  refine cn_put C ha hM cl_9 (j := 0) (f := (2, g, 0)) (fs' := [(2, g, 0), (2, T.length, 0), (2, T.length + 1, 0), (2, T.length + 2, 0), (2, T.length + 3, 0), (2, T.length + 4, 0), (2, T.length + 5, 0), (2, T.length + 6, 0), (2, T.length + 7, 0), (0, 0, 0), (0, 0, 0), (0, 0, 0), (0, 0, 0)]) (by decide) qw_204 rfl rfl rfl rfl (Nat.le_of_ble_eq_true rfl) rfl dX9_init_70 rfl (fun H locs hM => ?_)
  exact cw_ret C hM rfl rfl rfl dX9_init_73
theorem yo_X10_init : mx_Y yX10_init cX10_init 1 none 0 := ⟨qw_39, qw_2, by decide +kernel, by decide⟩
theorem dX10_init_0 : decode cX10_init 0 = .ok (.aload_n 0, 1) := by decide +kernel
theorem dX10_init_1 : decode cX10_init 1 = .ok (.invokespecial 3, 3) := by decide +kernel
theorem dX10_init_4 : decode cX10_init 4 = .ok (.aload_n 0, 1) := by decide +kernel
theorem dX10_init_5 : decode cX10_init 5 = .ok (.sipush 940, 3) := by decide +kernel
theorem dX10_init_8 : decode cX10_init 8 = .ok (.newarray .byte, 2) := by decide +kernel
theorem dX10_init_10 : decode cX10_init 10 = .ok (.putfield 11, 3) := by decide +kernel
theorem dX10_init_13 : decode cX10_init 13 = .ok (.return_, 1) := by decide +kernel
set_option maxRecDepth 100000 in
theorem kX10_init {X : XE} {l : Launch} (hX : cw_ok X (cw_g X)) (T : List CN) (a : Nat) (ha0 : T[a]? = some (.inl (10, [(3, 0, 0), (0, 0, 0)]))) : cw_Met X (cw_g X) l yX10_init cX10_init 1 1 1 940 [.ref (X.2.1 a)] T (T.set a (.inl (10, [(2, T.length, 0), (0, 0, 0)])) ++ [.inr (1, 940, 0, 0, 0, 0)]) := by
  have ha : a < T.length := (List.getElem?_eq_some_iff.mp ha0).1
  refine cw_enter hX (by decide) (Nat.le_of_ble_eq_true rfl) rfl (by omega) ?_
  intro p e s m below meth c C hM ls hl
  have hx := C.1.1
  have hb := C.1.2.1
  have hl : lv_has ls 1 [(0, .ref (X.2.1 a))] := hl
  rw [cw_start ha0] at hM
  refine lv_aload_n hx hb dX10_init_0 rfl (lv_at hl 0 rfl) ?_
  refine cw_oi C hl.1 qw_40 qoi_1 qoi_2 (by decide) dX10_init_1 rfl ?_
  refine lv_aload_n hx hb dX10_init_4 rfl (lv_at hl 0 rfl) ?_
  refine lv_sipush (v := (nI 940)) hx hb dX10_init_5 (by decide) ?_
  refine cn_newB C hM (N := 940) (v := 0) (L' := [.inr (1, 940, 0, 0, 0, 0)]) (a1 := T.length) (nI_pos (by decide)) (nI_clamp (by decide)) (by decide) (by decide) (by decide) rfl rfl dX10_init_8 rfl (fun H hM => ?_)
  refine cn_put C ha hM cl_10 (j := 0) (f := (2, T.length, 0)) (fs' := [(2, T.length, 0), (0, 0, 0)]) (by decide) qw_41 rfl rfl rfl rfl (Nat.le_of_ble_eq_true rfl) rfl dX10_init_10 rfl (fun H locs hM => ?_)
  exact cw_ret C hM rfl rfl rfl dX10_init_13
