/-! the law: its cases -/
set_option maxRecDepth 100000 in
theorem lc_0 {X1 X2 : XE} {X Y : MM} {P N : Nat} {w : Int64} {p : Program} {l : Launch} {e : Env} {s : State} {m : MethodId} {below : List Frame} {meth : Method} {c : Code} {H : Heap} {locs : List Loc} {cells slots : Nat} {Q : State → Prop} {b L i : Nat} {xs : Nat → Int32} {ls : Array Slot} (C : LwC X1 X2 p m c s b L xs) (hM : LwS X1 X2 s X Y w H locs) (hI : Inv X Y P N) (hi : i + 6 ≤ L) (hf : cells ≤ 601024 ∧ slots ≤ 7293034) (hl : lv_has ls 7 [(4, .int (nI i)), (0, .ref b), (1, .ref (X1.2.1 0)), (2, .ref (X2.2.1 0)), (3, .ref (s.heap.size + 226))])
    (kk : ∀ (H : Heap) (locs : List Loc) (X Y : MM) (P N : Nat), Inv X Y P N → LwS X1 X2 s X Y w H locs → W p l e room_1 s m #[Value.ref b] below meth c H locs cells slots Q (F0 m 1321 ls [])) : W p l e room_1 s m #[Value.ref b] below meth c H locs cells slots Q (F0 m 212 ls []) := by
  have hx := C.1.1
  have hb := C.1.2.1
  have h1 : ∀ k, X1.2.1 k = X1.2.1 0 + k := fun k => by have := C.2.2.2.2.1 k; have := C.2.2.2.2.1 0; omega
  have h2 : ∀ k, X2.2.1 k = X2.2.1 0 + k := fun k => by have := C.2.2.2.2.2.1 k; have := C.2.2.2.2.2.1 0; omega
  obtain ⟨v, X', Y', e1, e2, P', N', hI⟩ := q_feed (a := xs (i + 1)) (b := xs (i + 2)) (c := xs (i + 3)) (d := xs (i + 4)) (e := xs (i + 5)) hI
  refine lv_aload_n hx hb dL_law_212 rfl (lv_at hl 2 rfl) ?_
  refine lw_arg C hM (k := 1) (by omega) hl (by decide) dL_law_213 dL_law_214 dL_law_216 dL_law_217 dL_law_218 ?_
  refine lw_arg C hM (k := 2) (by omega) hl (by decide) dL_law_219 dL_law_220 dL_law_222 dL_law_223 dL_law_224 ?_
  refine lw_arg C hM (k := 3) (by omega) hl (by decide) dL_law_225 dL_law_226 dL_law_228 dL_law_229 dL_law_230 ?_
  refine lw_arg C hM (k := 4) (by omega) hl (by decide) dL_law_231 dL_law_232 dL_law_234 dL_law_235 dL_law_236 ?_
  refine lw_arg C hM (k := 5) (by omega) hl (by decide) dL_law_237 dL_law_238 dL_law_240 dL_law_241 dL_law_242 ?_
  refine lw_c1 C hM (As := [.int (xs (i + 1)), .int (xs (i + 2)), .int (xs (i + 3)), .int (xs (i + 4)), .int (xs (i + 5))]) (h' := 1) hl.1 yo_X12_feed (by decide) qw_473 qw_474 qw_475 (kX12_feed (lE1_ok h1) (xs (i + 1)) (xs (i + 2)) (xs (i + 3)) (xs (i + 4)) (xs (i + 5)) (lE1_x X1) _ e1) rfl rfl rfl (Nat.le_of_ble_eq_true rfl) dL_law_243 hf (fun H locs hM => ?_)
  refine lv_aload_n hx hb dL_law_246 rfl (lv_at hl 3 rfl) ?_
  refine lw_arg C hM (k := 1) (by omega) hl (by decide) dL_law_247 dL_law_248 dL_law_250 dL_law_251 dL_law_252 ?_
  refine lw_arg C hM (k := 2) (by omega) hl (by decide) dL_law_253 dL_law_254 dL_law_256 dL_law_257 dL_law_258 ?_
  refine lw_arg C hM (k := 3) (by omega) hl (by decide) dL_law_259 dL_law_260 dL_law_262 dL_law_263 dL_law_264 ?_
  refine lw_arg C hM (k := 4) (by omega) hl (by decide) dL_law_265 dL_law_266 dL_law_268 dL_law_269 dL_law_270 ?_
  refine lw_arg C hM (k := 5) (by omega) hl (by decide) dL_law_271 dL_law_272 dL_law_274 dL_law_275 dL_law_276 ?_
  refine lw_c2 C hM (As := [.int (xs (i + 1)), .int (xs (i + 2)), .int (xs (i + 3)), .int (xs (i + 4)), .int (xs (i + 5))]) (h' := 1) hl.1 yo_X13_feed (by decide) qw_1348 qw_1349 qw_1350 (kX13_feed (lE2_ok h2) (xs (i + 1)) (xs (i + 2)) (xs (i + 3)) (xs (i + 4)) (xs (i + 5)) rfl _ e2) rfl rfl rfl (Nat.le_of_ble_eq_true rfl) dL_law_277 hf (fun H locs hM => ?_)
  exact lv_icmp_eq (tgt := 1321) hx hb dL_law_280 (by decide) (fun _ => kk _ _ _ _ _ _ hI hM) (fun h => absurd rfl h)
set_option maxRecDepth 100000 in
theorem lc_1 {X1 X2 : XE} {X Y : MM} {P N : Nat} {w : Int64} {p : Program} {l : Launch} {e : Env} {s : State} {m : MethodId} {below : List Frame} {meth : Method} {c : Code} {H : Heap} {locs : List Loc} {cells slots : Nat} {Q : State → Prop} {b L i : Nat} {xs : Nat → Int32} {ls : Array Slot} (C : LwC X1 X2 p m c s b L xs) (hM : LwS X1 X2 s X Y w H locs) (hI : Inv X Y P N) (hi : i + 6 ≤ L) (hf : cells ≤ 601024 ∧ slots ≤ 7293034) (hl : lv_has ls 7 [(4, .int (nI i)), (0, .ref b), (1, .ref (X1.2.1 0)), (2, .ref (X2.2.1 0)), (3, .ref (s.heap.size + 226))])
    (kk : ∀ (H : Heap) (locs : List Loc) (X Y : MM) (P N : Nat), Inv X Y P N → LwS X1 X2 s X Y w H locs → W p l e room_1 s m #[Value.ref b] below meth c H locs cells slots Q (F0 m 1321 ls [])) : W p l e room_1 s m #[Value.ref b] below meth c H locs cells slots Q (F0 m 285 ls []) := by
  have hx := C.1.1
  have hb := C.1.2.1
  have h1 : ∀ k, X1.2.1 k = X1.2.1 0 + k := fun k => by have := C.2.2.2.2.1 k; have := C.2.2.2.2.1 0; omega
  have h2 : ∀ k, X2.2.1 k = X2.2.1 0 + k := fun k => by have := C.2.2.2.2.2.1 k; have := C.2.2.2.2.2.1 0; omega
  obtain ⟨v, X', Y', e1, e2, P', N', hI⟩ := q_end (i := xs (i + 1)) hI
  refine lv_aload_n hx hb dL_law_285 rfl (lv_at hl 2 rfl) ?_
  refine lw_arg C hM (k := 1) (by omega) hl (by decide) dL_law_286 dL_law_287 dL_law_289 dL_law_290 dL_law_291 ?_
  refine lw_c1 C hM (As := [.int (xs (i + 1))]) (h' := 1) hl.1 yo_X12_end (by decide) qw_485 qw_486 qw_487 (kX12_end (lE1_ok h1) (xs (i + 1)) (lE1_x X1) _ e1) rfl rfl rfl (Nat.le_of_ble_eq_true rfl) dL_law_292 hf (fun H locs hM => ?_)
  refine lv_aload_n hx hb dL_law_295 rfl (lv_at hl 3 rfl) ?_
  refine lw_arg C hM (k := 1) (by omega) hl (by decide) dL_law_296 dL_law_297 dL_law_299 dL_law_300 dL_law_301 ?_
  refine lw_c2 C hM (As := [.int (xs (i + 1))]) (h' := 0) hl.1 yo_X13_end (by decide) qw_1357 qw_1358 qw_1359 (kX13_end (lE2_ok h2) (xs (i + 1)) rfl _ e2) rfl rfl rfl (Nat.le_of_ble_eq_true rfl) dL_law_302 hf (fun H locs hM => ?_)
  exact lv_icmp_eq (tgt := 1321) hx hb dL_law_305 (by decide) (fun _ => kk _ _ _ _ _ _ hI hM) (fun h => absurd rfl h)
set_option maxRecDepth 100000 in
theorem lc_2 {X1 X2 : XE} {X Y : MM} {P N : Nat} {w : Int64} {p : Program} {l : Launch} {e : Env} {s : State} {m : MethodId} {below : List Frame} {meth : Method} {c : Code} {H : Heap} {locs : List Loc} {cells slots : Nat} {Q : State → Prop} {b L i : Nat} {xs : Nat → Int32} {ls : Array Slot} (C : LwC X1 X2 p m c s b L xs) (hM : LwS X1 X2 s X Y w H locs) (hI : Inv X Y P N) (hi : i + 6 ≤ L) (hf : cells ≤ 601024 ∧ slots ≤ 7293034) (hl : lv_has ls 7 [(4, .int (nI i)), (0, .ref b), (1, .ref (X1.2.1 0)), (2, .ref (X2.2.1 0)), (3, .ref (s.heap.size + 226))])
    (kk : ∀ (H : Heap) (locs : List Loc) (X Y : MM) (P N : Nat), Inv X Y P N → LwS X1 X2 s X Y w H locs → W p l e room_1 s m #[Value.ref b] below meth c H locs cells slots Q (F0 m 1321 ls [])) : W p l e room_1 s m #[Value.ref b] below meth c H locs cells slots Q (F0 m 310 ls []) := by
  have hx := C.1.1
  have hb := C.1.2.1
  have h1 : ∀ k, X1.2.1 k = X1.2.1 0 + k := fun k => by have := C.2.2.2.2.1 k; have := C.2.2.2.2.1 0; omega
  have h2 : ∀ k, X2.2.1 k = X2.2.1 0 + k := fun k => by have := C.2.2.2.2.2.1 k; have := C.2.2.2.2.2.1 0; omega
  obtain ⟨v, X', Y', e1, e2, P', N', hI⟩ := q_island hI
  refine lv_aload_n hx hb dL_law_310 rfl (lv_at hl 2 rfl) ?_
  refine lw_c1 C hM (As := []) (h' := 6) hl.1 yo_X12_island (by decide) qw_493 qw_494 qw_495 (kX12_island (lE1_ok h1) (lE1_x X1) _ e1) rfl rfl rfl (Nat.le_of_ble_eq_true rfl) dL_law_311 hf (fun H locs hM => ?_)
  refine lv_aload_n hx hb dL_law_314 rfl (lv_at hl 3 rfl) ?_
  refine lw_c2 C hM (As := []) (h' := 6) hl.1 yo_X13_island (by decide) qw_1550 qw_1551 qw_1552 (kX13_island (lE2_ok h2) rfl _ e2) rfl rfl rfl (Nat.le_of_ble_eq_true rfl) dL_law_315 hf (fun H locs hM => ?_)
  exact lv_icmp_eq (tgt := 1321) hx hb dL_law_318 (by decide) (fun _ => kk _ _ _ _ _ _ hI hM) (fun h => absurd rfl h)
set_option maxRecDepth 100000 in
theorem lc_3 {X1 X2 : XE} {X Y : MM} {P N : Nat} {w : Int64} {p : Program} {l : Launch} {e : Env} {s : State} {m : MethodId} {below : List Frame} {meth : Method} {c : Code} {H : Heap} {locs : List Loc} {cells slots : Nat} {Q : State → Prop} {b L i : Nat} {xs : Nat → Int32} {ls : Array Slot} (C : LwC X1 X2 p m c s b L xs) (hM : LwS X1 X2 s X Y w H locs) (hI : Inv X Y P N) (hi : i + 6 ≤ L) (hf : cells ≤ 601024 ∧ slots ≤ 7293034) (hl : lv_has ls 7 [(4, .int (nI i)), (0, .ref b), (1, .ref (X1.2.1 0)), (2, .ref (X2.2.1 0)), (3, .ref (s.heap.size + 226))])
    (kk : ∀ (H : Heap) (locs : List Loc) (X Y : MM) (P N : Nat), Inv X Y P N → LwS X1 X2 s X Y w H locs → W p l e room_1 s m #[Value.ref b] below meth c H locs cells slots Q (F0 m 1321 ls [])) : W p l e room_1 s m #[Value.ref b] below meth c H locs cells slots Q (F0 m 323 ls []) := by
  have hx := C.1.1
  have hb := C.1.2.1
  have h1 : ∀ k, X1.2.1 k = X1.2.1 0 + k := fun k => by have := C.2.2.2.2.1 k; have := C.2.2.2.2.1 0; omega
  have h2 : ∀ k, X2.2.1 k = X2.2.1 0 + k := fun k => by have := C.2.2.2.2.2.1 k; have := C.2.2.2.2.2.1 0; omega
  obtain ⟨v, Y', e1, e2, P', N', hI⟩ := q_fault hI
  refine lv_aload_n hx hb dL_law_323 rfl (lv_at hl 2 rfl) ?_
  refine lw_c1 C hM (As := []) (h' := 0) hl.1 yo_X12_fault (by decide) qw_649 qw_650 qw_651 (kX12_fault (lE1_ok h1) (lE1_x X1) _ e1) rfl rfl rfl (Nat.le_of_ble_eq_true rfl) dL_law_324 hf (fun H locs hM => ?_)
  refine lv_aload_n hx hb dL_law_327 rfl (lv_at hl 3 rfl) ?_
  refine lw_c2 C hM (As := []) (h' := 0) hl.1 yo_X13_fault (by decide) qw_1638 qw_1639 qw_1640 (kX13_fault (lE2_ok h2) rfl _ e2) rfl rfl rfl (Nat.le_of_ble_eq_true rfl) dL_law_328 hf (fun H locs hM => ?_)
  exact lv_icmp_eq (tgt := 1321) hx hb dL_law_331 (by decide) (fun _ => kk _ _ _ _ _ _ hI hM) (fun h => absurd rfl h)
set_option maxRecDepth 100000 in
theorem lc_6 {X1 X2 : XE} {X Y : MM} {P N : Nat} {w : Int64} {p : Program} {l : Launch} {e : Env} {s : State} {m : MethodId} {below : List Frame} {meth : Method} {c : Code} {H : Heap} {locs : List Loc} {cells slots : Nat} {Q : State → Prop} {b L i : Nat} {xs : Nat → Int32} {ls : Array Slot} (C : LwC X1 X2 p m c s b L xs) (hM : LwS X1 X2 s X Y w H locs) (hI : Inv X Y P N) (hi : i + 6 ≤ L) (hf : cells ≤ 601024 ∧ slots ≤ 7293034) (hl : lv_has ls 7 [(4, .int (nI i)), (0, .ref b), (1, .ref (X1.2.1 0)), (2, .ref (X2.2.1 0)), (3, .ref (s.heap.size + 226))])
    (kk : ∀ (H : Heap) (locs : List Loc) (X Y : MM) (P N : Nat), Inv X Y P N → LwS X1 X2 s X Y w H locs → W p l e room_1 s m #[Value.ref b] below meth c H locs cells slots Q (F0 m 1321 ls [])) : W p l e room_1 s m #[Value.ref b] below meth c H locs cells slots Q (F0 m 472 ls []) := by
  have hx := C.1.1
  have hb := C.1.2.1
  have h1 : ∀ k, X1.2.1 k = X1.2.1 0 + k := fun k => by have := C.2.2.2.2.1 k; have := C.2.2.2.2.1 0; omega
  have h2 : ∀ k, X2.2.1 k = X2.2.1 0 + k := fun k => by have := C.2.2.2.2.2.1 k; have := C.2.2.2.2.2.1 0; omega
  obtain ⟨v, Y', e1, e2, P', N', hI⟩ := q_fits (r := xs (i + 1)) (p := xs (i + 2)) hI
  refine lv_aload_n hx hb dL_law_472 rfl (lv_at hl 2 rfl) ?_
  refine lw_arg C hM (k := 1) (by omega) hl (by decide) dL_law_473 dL_law_474 dL_law_476 dL_law_477 dL_law_478 ?_
  refine lw_arg C hM (k := 2) (by omega) hl (by decide) dL_law_479 dL_law_480 dL_law_482 dL_law_483 dL_law_484 ?_
  refine lw_c1 C hM (As := [.int (xs (i + 1)), .int (xs (i + 2))]) (h' := 1) hl.1 yo_X12_fits (by decide) qw_653 qw_654 qw_655 (kX12_fits (lE1_ok h1) (xs (i + 1)) (xs (i + 2)) (lE1_x X1) _ e1) rfl rfl rfl (Nat.le_of_ble_eq_true rfl) dL_law_485 hf (fun H locs hM => ?_)
  refine lv_aload_n hx hb dL_law_488 rfl (lv_at hl 3 rfl) ?_
  refine lw_arg C hM (k := 1) (by omega) hl (by decide) dL_law_489 dL_law_490 dL_law_492 dL_law_493 dL_law_494 ?_
  refine lw_arg C hM (k := 2) (by omega) hl (by decide) dL_law_495 dL_law_496 dL_law_498 dL_law_499 dL_law_500 ?_
  refine lw_c2 C hM (As := [.int (xs (i + 1)), .int (xs (i + 2))]) (h' := 2) hl.1 yo_X13_fits (by decide) qw_1678 qw_1679 qw_1680 (kX13_fits (lE2_ok h2) (xs (i + 1)) (xs (i + 2)) rfl _ e2) rfl rfl rfl (Nat.le_of_ble_eq_true rfl) dL_law_501 hf (fun H locs hM => ?_)
  exact lv_icmp_eq (tgt := 1321) hx hb dL_law_504 (by decide) (fun _ => kk _ _ _ _ _ _ hI hM) (fun h => absurd rfl h)
set_option maxRecDepth 100000 in
theorem lc_7 {X1 X2 : XE} {X Y : MM} {P N : Nat} {w : Int64} {p : Program} {l : Launch} {e : Env} {s : State} {m : MethodId} {below : List Frame} {meth : Method} {c : Code} {H : Heap} {locs : List Loc} {cells slots : Nat} {Q : State → Prop} {b L i : Nat} {xs : Nat → Int32} {ls : Array Slot} (C : LwC X1 X2 p m c s b L xs) (hM : LwS X1 X2 s X Y w H locs) (hI : Inv X Y P N) (hi : i + 6 ≤ L) (hf : cells ≤ 601024 ∧ slots ≤ 7293034) (hl : lv_has ls 7 [(4, .int (nI i)), (0, .ref b), (1, .ref (X1.2.1 0)), (2, .ref (X2.2.1 0)), (3, .ref (s.heap.size + 226))])
    (kk : ∀ (H : Heap) (locs : List Loc) (X Y : MM) (P N : Nat), Inv X Y P N → LwS X1 X2 s X Y w H locs → W p l e room_1 s m #[Value.ref b] below meth c H locs cells slots Q (F0 m 1321 ls [])) : W p l e room_1 s m #[Value.ref b] below meth c H locs cells slots Q (F0 m 509 ls []) := by
  have hx := C.1.1
  have hb := C.1.2.1
  have h1 : ∀ k, X1.2.1 k = X1.2.1 0 + k := fun k => by have := C.2.2.2.2.1 k; have := C.2.2.2.2.1 0; omega
  have h2 : ∀ k, X2.2.1 k = X2.2.1 0 + k := fun k => by have := C.2.2.2.2.2.1 k; have := C.2.2.2.2.2.1 0; omega
  obtain ⟨v, Y', e1, e2, P', N', hI⟩ := q_now (i := xs (i + 1)) hI
  refine lv_aload_n hx hb dL_law_509 rfl (lv_at hl 2 rfl) ?_
  refine lw_arg C hM (k := 1) (by omega) hl (by decide) dL_law_510 dL_law_511 dL_law_513 dL_law_514 dL_law_515 ?_
  refine lw_c1 C hM (As := [.int (xs (i + 1))]) (h' := 2) hl.1 yo_X12_now (by decide) qw_669 qw_670 qw_671 (kX12_now (lE1_ok h1) (xs (i + 1)) (lE1_x X1) _ e1) rfl rfl rfl (Nat.le_of_ble_eq_true rfl) dL_law_516 hf (fun H locs hM => ?_)
  refine lv_aload_n hx hb dL_law_519 rfl (lv_at hl 3 rfl) ?_
  refine lw_arg C hM (k := 1) (by omega) hl (by decide) dL_law_520 dL_law_521 dL_law_523 dL_law_524 dL_law_525 ?_
  refine lw_c2 C hM (As := [.int (xs (i + 1))]) (h' := 1) hl.1 yo_X13_now (by decide) qw_1686 qw_1687 qw_1688 (kX13_now (lE2_ok h2) (xs (i + 1)) rfl _ e2) rfl rfl rfl (Nat.le_of_ble_eq_true rfl) dL_law_526 hf (fun H locs hM => ?_)
  exact lv_icmp_eq (tgt := 1321) hx hb dL_law_529 (by decide) (fun _ => kk _ _ _ _ _ _ hI hM) (fun h => absurd rfl h)
set_option maxRecDepth 100000 in
theorem lc_8 {X1 X2 : XE} {X Y : MM} {P N : Nat} {w : Int64} {p : Program} {l : Launch} {e : Env} {s : State} {m : MethodId} {below : List Frame} {meth : Method} {c : Code} {H : Heap} {locs : List Loc} {cells slots : Nat} {Q : State → Prop} {b L i : Nat} {xs : Nat → Int32} {ls : Array Slot} (C : LwC X1 X2 p m c s b L xs) (hM : LwS X1 X2 s X Y w H locs) (hI : Inv X Y P N) (hi : i + 6 ≤ L) (hf : cells ≤ 601024 ∧ slots ≤ 7293034) (hl : lv_has ls 7 [(4, .int (nI i)), (0, .ref b), (1, .ref (X1.2.1 0)), (2, .ref (X2.2.1 0)), (3, .ref (s.heap.size + 226))])
    (kk : ∀ (H : Heap) (locs : List Loc) (X Y : MM) (P N : Nat), Inv X Y P N → LwS X1 X2 s X Y w H locs → W p l e room_1 s m #[Value.ref b] below meth c H locs cells slots Q (F0 m 1321 ls [])) : W p l e room_1 s m #[Value.ref b] below meth c H locs cells slots Q (F0 m 534 ls []) := by
  have hx := C.1.1
  have hb := C.1.2.1
  have h1 : ∀ k, X1.2.1 k = X1.2.1 0 + k := fun k => by have := C.2.2.2.2.1 k; have := C.2.2.2.2.1 0; omega
  have h2 : ∀ k, X2.2.1 k = X2.2.1 0 + k := fun k => by have := C.2.2.2.2.2.1 k; have := C.2.2.2.2.2.1 0; omega
  obtain ⟨v, X', Y', e1, e2, P', N', hI⟩ := q_go (p := xs (i + 1)) (x := xs (i + 2)) (y := xs (i + 3)) hI
  refine lv_aload_n hx hb dL_law_534 rfl (lv_at hl 2 rfl) ?_
  refine lw_arg C hM (k := 1) (by omega) hl (by decide) dL_law_535 dL_law_536 dL_law_538 dL_law_539 dL_law_540 ?_
  refine lw_arg C hM (k := 2) (by omega) hl (by decide) dL_law_541 dL_law_542 dL_law_544 dL_law_545 dL_law_546 ?_
  refine lw_arg C hM (k := 3) (by omega) hl (by decide) dL_law_547 dL_law_548 dL_law_550 dL_law_551 dL_law_552 ?_
  refine lw_c1 C hM (As := [.int (xs (i + 1)), .int (xs (i + 2)), .int (xs (i + 3))]) (h' := 4) hl.1 yo_X12_go (by decide) qw_685 qw_686 qw_687 (kX12_go (lE1_ok h1) (xs (i + 1)) (xs (i + 2)) (xs (i + 3)) (lE1_x X1) _ e1) rfl rfl rfl (Nat.le_of_ble_eq_true rfl) dL_law_553 hf (fun H locs hM => ?_)
  refine lv_aload_n hx hb dL_law_556 rfl (lv_at hl 3 rfl) ?_
  refine lw_arg C hM (k := 1) (by omega) hl (by decide) dL_law_557 dL_law_558 dL_law_560 dL_law_561 dL_law_562 ?_
  refine lw_arg C hM (k := 2) (by omega) hl (by decide) dL_law_563 dL_law_564 dL_law_566 dL_law_567 dL_law_568 ?_
  refine lw_arg C hM (k := 3) (by omega) hl (by decide) dL_law_569 dL_law_570 dL_law_572 dL_law_573 dL_law_574 ?_
  refine lw_c2 C hM (As := [.int (xs (i + 1)), .int (xs (i + 2)), .int (xs (i + 3))]) (h' := 3) hl.1 yo_X13_go (by decide) qw_1694 qw_1695 qw_1696 (kX13_go (lE2_ok h2) (xs (i + 1)) (xs (i + 2)) (xs (i + 3)) rfl _ e2) rfl rfl rfl (Nat.le_of_ble_eq_true rfl) dL_law_575 hf (fun H locs hM => ?_)
  exact lv_icmp_eq (tgt := 1321) hx hb dL_law_578 (by decide) (fun _ => kk _ _ _ _ _ _ hI hM) (fun h => absurd rfl h)
set_option maxRecDepth 100000 in
theorem lc_9 {X1 X2 : XE} {X Y : MM} {P N : Nat} {w : Int64} {p : Program} {l : Launch} {e : Env} {s : State} {m : MethodId} {below : List Frame} {meth : Method} {c : Code} {H : Heap} {locs : List Loc} {cells slots : Nat} {Q : State → Prop} {b L i : Nat} {xs : Nat → Int32} {ls : Array Slot} (C : LwC X1 X2 p m c s b L xs) (hM : LwS X1 X2 s X Y w H locs) (hI : Inv X Y P N) (hi : i + 6 ≤ L) (hf : cells ≤ 601024 ∧ slots ≤ 7293034) (hl : lv_has ls 7 [(4, .int (nI i)), (0, .ref b), (1, .ref (X1.2.1 0)), (2, .ref (X2.2.1 0)), (3, .ref (s.heap.size + 226))])
    (kk : ∀ (H : Heap) (locs : List Loc) (X Y : MM) (P N : Nat), Inv X Y P N → LwS X1 X2 s X Y w H locs → W p l e room_1 s m #[Value.ref b] below meth c H locs cells slots Q (F0 m 1321 ls [])) : W p l e room_1 s m #[Value.ref b] below meth c H locs cells slots Q (F0 m 583 ls []) := by
  have hx := C.1.1
  have hb := C.1.2.1
  have h1 : ∀ k, X1.2.1 k = X1.2.1 0 + k := fun k => by have := C.2.2.2.2.1 k; have := C.2.2.2.2.1 0; omega
  have h2 : ∀ k, X2.2.1 k = X2.2.1 0 + k := fun k => by have := C.2.2.2.2.2.1 k; have := C.2.2.2.2.2.1 0; omega
  obtain ⟨v, X', Y', e1, e2, P', N', hI⟩ := q_hand (p := xs (i + 1)) (r := xs (i + 2)) (q := xs (i + 3)) hI
  refine lv_aload_n hx hb dL_law_583 rfl (lv_at hl 2 rfl) ?_
  refine lw_arg C hM (k := 1) (by omega) hl (by decide) dL_law_584 dL_law_585 dL_law_587 dL_law_588 dL_law_589 ?_
  refine lw_arg C hM (k := 2) (by omega) hl (by decide) dL_law_590 dL_law_591 dL_law_593 dL_law_594 dL_law_595 ?_
  refine lw_arg C hM (k := 3) (by omega) hl (by decide) dL_law_596 dL_law_597 dL_law_599 dL_law_600 dL_law_601 ?_
  refine lw_c1 C hM (As := [.int (xs (i + 1)), .int (xs (i + 2)), .int (xs (i + 3))]) (h' := 4) hl.1 yo_X12_hand (by decide) qw_721 qw_722 qw_723 (kX12_hand (lE1_ok h1) (xs (i + 1)) (xs (i + 2)) (xs (i + 3)) (lE1_x X1) _ e1) rfl rfl rfl (Nat.le_of_ble_eq_true rfl) dL_law_602 hf (fun H locs hM => ?_)
  refine lv_aload_n hx hb dL_law_605 rfl (lv_at hl 3 rfl) ?_
  refine lw_arg C hM (k := 1) (by omega) hl (by decide) dL_law_606 dL_law_607 dL_law_609 dL_law_610 dL_law_611 ?_
  refine lw_arg C hM (k := 2) (by omega) hl (by decide) dL_law_612 dL_law_613 dL_law_615 dL_law_616 dL_law_617 ?_
  refine lw_arg C hM (k := 3) (by omega) hl (by decide) dL_law_618 dL_law_619 dL_law_621 dL_law_622 dL_law_623 ?_
  refine lw_c2 C hM (As := [.int (xs (i + 1)), .int (xs (i + 2)), .int (xs (i + 3))]) (h' := 4) hl.1 yo_X13_hand (by decide) qw_1717 qw_1718 qw_1719 (kX13_hand (lE2_ok h2) (xs (i + 1)) (xs (i + 2)) (xs (i + 3)) rfl _ e2) rfl rfl rfl (Nat.le_of_ble_eq_true rfl) dL_law_624 hf (fun H locs hM => ?_)
  exact lv_icmp_eq (tgt := 1321) hx hb dL_law_627 (by decide) (fun _ => kk _ _ _ _ _ _ hI hM) (fun h => absurd rfl h)
set_option maxRecDepth 100000 in
theorem lc_10 {X1 X2 : XE} {X Y : MM} {P N : Nat} {w : Int64} {p : Program} {l : Launch} {e : Env} {s : State} {m : MethodId} {below : List Frame} {meth : Method} {c : Code} {H : Heap} {locs : List Loc} {cells slots : Nat} {Q : State → Prop} {b L i : Nat} {xs : Nat → Int32} {ls : Array Slot} (C : LwC X1 X2 p m c s b L xs) (hM : LwS X1 X2 s X Y w H locs) (hI : Inv X Y P N) (hi : i + 6 ≤ L) (hf : cells ≤ 601024 ∧ slots ≤ 7293034) (hl : lv_has ls 7 [(4, .int (nI i)), (0, .ref b), (1, .ref (X1.2.1 0)), (2, .ref (X2.2.1 0)), (3, .ref (s.heap.size + 226))])
    (kk : ∀ (H : Heap) (locs : List Loc) (X Y : MM) (P N : Nat), Inv X Y P N → LwS X1 X2 s X Y w H locs → W p l e room_1 s m #[Value.ref b] below meth c H locs cells slots Q (F0 m 1321 ls [])) : W p l e room_1 s m #[Value.ref b] below meth c H locs cells slots Q (F0 m 632 ls []) := by
  have hx := C.1.1
  have hb := C.1.2.1
  have h1 : ∀ k, X1.2.1 k = X1.2.1 0 + k := fun k => by have := C.2.2.2.2.1 k; have := C.2.2.2.2.1 0; omega
  have h2 : ∀ k, X2.2.1 k = X2.2.1 0 + k := fun k => by have := C.2.2.2.2.2.1 k; have := C.2.2.2.2.2.1 0; omega
  obtain ⟨v, X', Y', e1, e2, P', N', hI⟩ := q_wear (p := xs (i + 1)) (r := xs (i + 2)) hI
  refine lv_aload_n hx hb dL_law_632 rfl (lv_at hl 2 rfl) ?_
  refine lw_arg C hM (k := 1) (by omega) hl (by decide) dL_law_633 dL_law_634 dL_law_636 dL_law_637 dL_law_638 ?_
  refine lw_arg C hM (k := 2) (by omega) hl (by decide) dL_law_639 dL_law_640 dL_law_642 dL_law_643 dL_law_644 ?_
  refine lw_c1 C hM (As := [.int (xs (i + 1)), .int (xs (i + 2))]) (h' := 4) hl.1 yo_X12_wear (by decide) qw_738 qw_739 qw_740 (kX12_wear (lE1_ok h1) (xs (i + 1)) (xs (i + 2)) (lE1_x X1) _ e1) rfl rfl rfl (Nat.le_of_ble_eq_true rfl) dL_law_645 hf (fun H locs hM => ?_)
  refine lv_aload_n hx hb dL_law_648 rfl (lv_at hl 3 rfl) ?_
  refine lw_arg C hM (k := 1) (by omega) hl (by decide) dL_law_649 dL_law_650 dL_law_652 dL_law_653 dL_law_654 ?_
  refine lw_arg C hM (k := 2) (by omega) hl (by decide) dL_law_655 dL_law_656 dL_law_658 dL_law_659 dL_law_660 ?_
  refine lw_c2 C hM (As := [.int (xs (i + 1)), .int (xs (i + 2))]) (h' := 3) hl.1 yo_X13_wear (by decide) qw_1733 qw_1734 qw_1735 (kX13_wear (lE2_ok h2) (xs (i + 1)) (xs (i + 2)) rfl _ e2) rfl rfl rfl (Nat.le_of_ble_eq_true rfl) dL_law_661 hf (fun H locs hM => ?_)
  exact lv_icmp_eq (tgt := 1321) hx hb dL_law_664 (by decide) (fun _ => kk _ _ _ _ _ _ hI hM) (fun h => absurd rfl h)
set_option maxRecDepth 100000 in
theorem lc_11 {X1 X2 : XE} {X Y : MM} {P N : Nat} {w : Int64} {p : Program} {l : Launch} {e : Env} {s : State} {m : MethodId} {below : List Frame} {meth : Method} {c : Code} {H : Heap} {locs : List Loc} {cells slots : Nat} {Q : State → Prop} {b L i : Nat} {xs : Nat → Int32} {ls : Array Slot} (C : LwC X1 X2 p m c s b L xs) (hM : LwS X1 X2 s X Y w H locs) (hI : Inv X Y P N) (hi : i + 6 ≤ L) (hf : cells ≤ 601024 ∧ slots ≤ 7293034) (hl : lv_has ls 7 [(4, .int (nI i)), (0, .ref b), (1, .ref (X1.2.1 0)), (2, .ref (X2.2.1 0)), (3, .ref (s.heap.size + 226))])
    (kk : ∀ (H : Heap) (locs : List Loc) (X Y : MM) (P N : Nat), Inv X Y P N → LwS X1 X2 s X Y w H locs → W p l e room_1 s m #[Value.ref b] below meth c H locs cells slots Q (F0 m 1321 ls [])) : W p l e room_1 s m #[Value.ref b] below meth c H locs cells slots Q (F0 m 669 ls []) := by
  have hx := C.1.1
  have hb := C.1.2.1
  have h1 : ∀ k, X1.2.1 k = X1.2.1 0 + k := fun k => by have := C.2.2.2.2.1 k; have := C.2.2.2.2.1 0; omega
  have h2 : ∀ k, X2.2.1 k = X2.2.1 0 + k := fun k => by have := C.2.2.2.2.2.1 k; have := C.2.2.2.2.2.1 0; omega
  obtain ⟨v, X', Y', e1, e2, P', N', hI⟩ := q_doff (p := xs (i + 1)) hI
  refine lv_aload_n hx hb dL_law_669 rfl (lv_at hl 2 rfl) ?_
  refine lw_arg C hM (k := 1) (by omega) hl (by decide) dL_law_670 dL_law_671 dL_law_673 dL_law_674 dL_law_675 ?_
  refine lw_c1 C hM (As := [.int (xs (i + 1))]) (h' := 4) hl.1 yo_X12_doff (by decide) qw_751 qw_752 qw_753 (kX12_doff (lE1_ok h1) (xs (i + 1)) (lE1_x X1) _ e1) rfl rfl rfl (Nat.le_of_ble_eq_true rfl) dL_law_676 hf (fun H locs hM => ?_)
  refine lv_aload_n hx hb dL_law_679 rfl (lv_at hl 3 rfl) ?_
  refine lw_arg C hM (k := 1) (by omega) hl (by decide) dL_law_680 dL_law_681 dL_law_683 dL_law_684 dL_law_685 ?_
  refine lw_c2 C hM (As := [.int (xs (i + 1))]) (h' := 2) hl.1 yo_X13_doff (by decide) qw_1745 qw_1746 qw_1747 (kX13_doff (lE2_ok h2) (xs (i + 1)) rfl _ e2) rfl rfl rfl (Nat.le_of_ble_eq_true rfl) dL_law_686 hf (fun H locs hM => ?_)
  exact lv_icmp_eq (tgt := 1321) hx hb dL_law_689 (by decide) (fun _ => kk _ _ _ _ _ _ hI hM) (fun h => absurd rfl h)
set_option maxRecDepth 100000 in
theorem lc_12 {X1 X2 : XE} {X Y : MM} {P N : Nat} {w : Int64} {p : Program} {l : Launch} {e : Env} {s : State} {m : MethodId} {below : List Frame} {meth : Method} {c : Code} {H : Heap} {locs : List Loc} {cells slots : Nat} {Q : State → Prop} {b L i : Nat} {xs : Nat → Int32} {ls : Array Slot} (C : LwC X1 X2 p m c s b L xs) (hM : LwS X1 X2 s X Y w H locs) (hI : Inv X Y P N) (hi : i + 6 ≤ L) (hf : cells ≤ 601024 ∧ slots ≤ 7293034) (hl : lv_has ls 7 [(4, .int (nI i)), (0, .ref b), (1, .ref (X1.2.1 0)), (2, .ref (X2.2.1 0)), (3, .ref (s.heap.size + 226))])
    (kk : ∀ (H : Heap) (locs : List Loc) (X Y : MM) (P N : Nat), Inv X Y P N → LwS X1 X2 s X Y w H locs → W p l e room_1 s m #[Value.ref b] below meth c H locs cells slots Q (F0 m 1321 ls [])) : W p l e room_1 s m #[Value.ref b] below meth c H locs cells slots Q (F0 m 694 ls []) := by
  have hx := C.1.1
  have hb := C.1.2.1
  have h1 : ∀ k, X1.2.1 k = X1.2.1 0 + k := fun k => by have := C.2.2.2.2.1 k; have := C.2.2.2.2.1 0; omega
  have h2 : ∀ k, X2.2.1 k = X2.2.1 0 + k := fun k => by have := C.2.2.2.2.2.1 k; have := C.2.2.2.2.2.1 0; omega
  obtain ⟨v, X', Y', e1, e2, P', N', hI⟩ := q_find (p := xs (i + 1)) (r := xs (i + 2)) hI
  refine lv_aload_n hx hb dL_law_694 rfl (lv_at hl 2 rfl) ?_
  refine lw_arg C hM (k := 1) (by omega) hl (by decide) dL_law_695 dL_law_696 dL_law_698 dL_law_699 dL_law_700 ?_
  refine lw_arg C hM (k := 2) (by omega) hl (by decide) dL_law_701 dL_law_702 dL_law_704 dL_law_705 dL_law_706 ?_
  refine lw_c1 C hM (As := [.int (xs (i + 1)), .int (xs (i + 2))]) (h' := 4) hl.1 yo_X12_find (by decide) qw_759 qw_760 qw_761 (kX12_find (lE1_ok h1) (xs (i + 1)) (xs (i + 2)) (lE1_x X1) _ e1) rfl rfl rfl (Nat.le_of_ble_eq_true rfl) dL_law_707 hf (fun H locs hM => ?_)
  refine lv_aload_n hx hb dL_law_710 rfl (lv_at hl 3 rfl) ?_
  refine lw_arg C hM (k := 1) (by omega) hl (by decide) dL_law_711 dL_law_712 dL_law_714 dL_law_715 dL_law_716 ?_
  refine lw_arg C hM (k := 2) (by omega) hl (by decide) dL_law_717 dL_law_718 dL_law_720 dL_law_721 dL_law_722 ?_
  refine lw_c2 C hM (As := [.int (xs (i + 1)), .int (xs (i + 2))]) (h' := 3) hl.1 yo_X13_find (by decide) qw_1749 qw_1750 qw_1751 (kX13_find (lE2_ok h2) (xs (i + 1)) (xs (i + 2)) rfl _ e2) rfl rfl rfl (Nat.le_of_ble_eq_true rfl) dL_law_723 hf (fun H locs hM => ?_)
  exact lv_icmp_eq (tgt := 1321) hx hb dL_law_726 (by decide) (fun _ => kk _ _ _ _ _ _ hI hM) (fun h => absurd rfl h)
set_option maxRecDepth 100000 in
theorem lc_13 {X1 X2 : XE} {X Y : MM} {P N : Nat} {w : Int64} {p : Program} {l : Launch} {e : Env} {s : State} {m : MethodId} {below : List Frame} {meth : Method} {c : Code} {H : Heap} {locs : List Loc} {cells slots : Nat} {Q : State → Prop} {b L i : Nat} {xs : Nat → Int32} {ls : Array Slot} (C : LwC X1 X2 p m c s b L xs) (hM : LwS X1 X2 s X Y w H locs) (hI : Inv X Y P N) (hi : i + 6 ≤ L) (hf : cells ≤ 601024 ∧ slots ≤ 7293034) (hl : lv_has ls 7 [(4, .int (nI i)), (0, .ref b), (1, .ref (X1.2.1 0)), (2, .ref (X2.2.1 0)), (3, .ref (s.heap.size + 226))])
    (kk : ∀ (H : Heap) (locs : List Loc) (X Y : MM) (P N : Nat), Inv X Y P N → LwS X1 X2 s X Y w H locs → W p l e room_1 s m #[Value.ref b] below meth c H locs cells slots Q (F0 m 1321 ls [])) : W p l e room_1 s m #[Value.ref b] below meth c H locs cells slots Q (F0 m 731 ls []) := by
  have hx := C.1.1
  have hb := C.1.2.1
  have h1 : ∀ k, X1.2.1 k = X1.2.1 0 + k := fun k => by have := C.2.2.2.2.1 k; have := C.2.2.2.2.1 0; omega
  have h2 : ∀ k, X2.2.1 k = X2.2.1 0 + k := fun k => by have := C.2.2.2.2.2.1 k; have := C.2.2.2.2.2.1 0; omega
  obtain ⟨v, X', Y', e1, e2, P', N', hI⟩ := q_days (i := xs (i + 1)) hI
  refine lv_aload_n hx hb dL_law_731 rfl (lv_at hl 2 rfl) ?_
  refine lw_arg C hM (k := 1) (by omega) hl (by decide) dL_law_732 dL_law_733 dL_law_735 dL_law_736 dL_law_737 ?_
  refine lw_c1 C hM (As := [.int (xs (i + 1))]) (h' := 4) hl.1 yo_X12_days (by decide) qw_767 qw_768 qw_769 (kX12_days (lE1_ok h1) (xs (i + 1)) (lE1_x X1) _ e1) rfl rfl rfl (Nat.le_of_ble_eq_true rfl) dL_law_738 hf (fun H locs hM => ?_)
  refine lv_aload_n hx hb dL_law_741 rfl (lv_at hl 3 rfl) ?_
  refine lw_arg C hM (k := 1) (by omega) hl (by decide) dL_law_742 dL_law_743 dL_law_745 dL_law_746 dL_law_747 ?_
  refine lw_c2 C hM (As := [.int (xs (i + 1))]) (h' := 4) hl.1 yo_X13_days (by decide) qw_1761 qw_1762 qw_1763 (kX13_days (lE2_ok h2) (xs (i + 1)) rfl _ e2) rfl rfl rfl (Nat.le_of_ble_eq_true rfl) dL_law_748 hf (fun H locs hM => ?_)
  exact lv_icmp_eq (tgt := 1321) hx hb dL_law_751 (by decide) (fun _ => kk _ _ _ _ _ _ hI hM) (fun h => absurd rfl h)
set_option maxRecDepth 100000 in
theorem lc_14 {X1 X2 : XE} {X Y : MM} {P N : Nat} {w : Int64} {p : Program} {l : Launch} {e : Env} {s : State} {m : MethodId} {below : List Frame} {meth : Method} {c : Code} {H : Heap} {locs : List Loc} {cells slots : Nat} {Q : State → Prop} {b L i : Nat} {xs : Nat → Int32} {ls : Array Slot} (C : LwC X1 X2 p m c s b L xs) (hM : LwS X1 X2 s X Y w H locs) (hI : Inv X Y P N) (hi : i + 6 ≤ L) (hf : cells ≤ 601024 ∧ slots ≤ 7293034) (hl : lv_has ls 7 [(4, .int (nI i)), (0, .ref b), (1, .ref (X1.2.1 0)), (2, .ref (X2.2.1 0)), (3, .ref (s.heap.size + 226))])
    (kk : ∀ (H : Heap) (locs : List Loc) (X Y : MM) (P N : Nat), Inv X Y P N → LwS X1 X2 s X Y w H locs → W p l e room_1 s m #[Value.ref b] below meth c H locs cells slots Q (F0 m 1321 ls [])) : W p l e room_1 s m #[Value.ref b] below meth c H locs cells slots Q (F0 m 756 ls []) := by
  have hx := C.1.1
  have hb := C.1.2.1
  have h1 : ∀ k, X1.2.1 k = X1.2.1 0 + k := fun k => by have := C.2.2.2.2.1 k; have := C.2.2.2.2.1 0; omega
  have h2 : ∀ k, X2.2.1 k = X2.2.1 0 + k := fun k => by have := C.2.2.2.2.2.1 k; have := C.2.2.2.2.2.1 0; omega
  obtain ⟨v, X', Y', e1, e2, P', N', hI⟩ := q_undo hI
  refine lv_aload_n hx hb dL_law_756 rfl (lv_at hl 2 rfl) ?_
  refine lw_c1 C hM (As := []) (h' := 3) hl.1 yo_X12_undo (by decide) qw_801 qw_802 qw_803 (kX12_undo (lE1_ok h1) (lE1_x X1) _ e1) rfl rfl rfl (Nat.le_of_ble_eq_true rfl) dL_law_757 hf (fun H locs hM => ?_)
  refine lv_aload_n hx hb dL_law_760 rfl (lv_at hl 3 rfl) ?_
  refine lw_c2 C hM (As := []) (h' := 0) hl.1 yo_X13_undo (by decide) qw_1780 qw_1781 qw_1782 (kX13_undo (lE2_ok h2) rfl _ e2) rfl rfl rfl (Nat.le_of_ble_eq_true rfl) dL_law_761 hf (fun H locs hM => ?_)
  exact lv_icmp_eq (tgt := 1321) hx hb dL_law_764 (by decide) (fun _ => kk _ _ _ _ _ _ hI hM) (fun h => absurd rfl h)
set_option maxRecDepth 100000 in
theorem lc_15 {X1 X2 : XE} {X Y : MM} {P N : Nat} {w : Int64} {p : Program} {l : Launch} {e : Env} {s : State} {m : MethodId} {below : List Frame} {meth : Method} {c : Code} {H : Heap} {locs : List Loc} {cells slots : Nat} {Q : State → Prop} {b L i : Nat} {xs : Nat → Int32} {ls : Array Slot} (C : LwC X1 X2 p m c s b L xs) (hM : LwS X1 X2 s X Y w H locs) (hI : Inv X Y P N) (hi : i + 6 ≤ L) (hf : cells ≤ 601024 ∧ slots ≤ 7293034) (hl : lv_has ls 7 [(4, .int (nI i)), (0, .ref b), (1, .ref (X1.2.1 0)), (2, .ref (X2.2.1 0)), (3, .ref (s.heap.size + 226))])
    (kk : ∀ (H : Heap) (locs : List Loc) (X Y : MM) (P N : Nat), Inv X Y P N → LwS X1 X2 s X Y w H locs → W p l e room_1 s m #[Value.ref b] below meth c H locs cells slots Q (F0 m 1321 ls [])) : W p l e room_1 s m #[Value.ref b] below meth c H locs cells slots Q (F0 m 769 ls []) := by
  have hx := C.1.1
  have hb := C.1.2.1
  have h1 : ∀ k, X1.2.1 k = X1.2.1 0 + k := fun k => by have := C.2.2.2.2.1 k; have := C.2.2.2.2.1 0; omega
  have h2 : ∀ k, X2.2.1 k = X2.2.1 0 + k := fun k => by have := C.2.2.2.2.2.1 k; have := C.2.2.2.2.2.1 0; omega
  obtain ⟨v, Y', e1, e2, P', N', hI⟩ := q_reach (i := xs (i + 1)) hI
  refine lv_aload_n hx hb dL_law_769 rfl (lv_at hl 2 rfl) ?_
  refine lw_arg C hM (k := 1) (by omega) hl (by decide) dL_law_770 dL_law_771 dL_law_773 dL_law_774 dL_law_775 ?_
  refine lw_c1 C hM (As := [.int (xs (i + 1))]) (h' := 3) hl.1 yo_X12_reach (by decide) qw_809 qw_810 qw_811 (kX12_reach (lE1_ok h1) (xs (i + 1)) (lE1_x X1) _ e1) rfl rfl rfl (Nat.le_of_ble_eq_true rfl) dL_law_776 hf (fun H locs hM => ?_)
  refine lv_aload_n hx hb dL_law_779 rfl (lv_at hl 3 rfl) ?_
  refine lw_arg C hM (k := 1) (by omega) hl (by decide) dL_law_780 dL_law_781 dL_law_783 dL_law_784 dL_law_785 ?_
  refine lw_c2 C hM (As := [.int (xs (i + 1))]) (h' := 4) hl.1 yo_X13_reach (by decide) qw_1784 qw_1785 qw_1786 (kX13_reach (lE2_ok h2) (xs (i + 1)) rfl _ e2) rfl rfl rfl (Nat.le_of_ble_eq_true rfl) dL_law_786 hf (fun H locs hM => ?_)
  exact lv_icmp_eq (tgt := 1321) hx hb dL_law_789 (by decide) (fun _ => kk _ _ _ _ _ _ hI hM) (fun h => absurd rfl h)
set_option maxRecDepth 100000 in
theorem lc_16 {X1 X2 : XE} {X Y : MM} {P N : Nat} {w : Int64} {p : Program} {l : Launch} {e : Env} {s : State} {m : MethodId} {below : List Frame} {meth : Method} {c : Code} {H : Heap} {locs : List Loc} {cells slots : Nat} {Q : State → Prop} {b L i : Nat} {xs : Nat → Int32} {ls : Array Slot} (C : LwC X1 X2 p m c s b L xs) (hM : LwS X1 X2 s X Y w H locs) (hI : Inv X Y P N) (hi : i + 6 ≤ L) (hf : cells ≤ 601024 ∧ slots ≤ 7293034) (hl : lv_has ls 7 [(4, .int (nI i)), (0, .ref b), (1, .ref (X1.2.1 0)), (2, .ref (X2.2.1 0)), (3, .ref (s.heap.size + 226))])
    (kk : ∀ (H : Heap) (locs : List Loc) (X Y : MM) (P N : Nat), Inv X Y P N → LwS X1 X2 s X Y w H locs → W p l e room_1 s m #[Value.ref b] below meth c H locs cells slots Q (F0 m 1321 ls [])) : W p l e room_1 s m #[Value.ref b] below meth c H locs cells slots Q (F0 m 794 ls []) := by
  have hx := C.1.1
  have hb := C.1.2.1
  have h1 : ∀ k, X1.2.1 k = X1.2.1 0 + k := fun k => by have := C.2.2.2.2.1 k; have := C.2.2.2.2.1 0; omega
  have h2 : ∀ k, X2.2.1 k = X2.2.1 0 + k := fun k => by have := C.2.2.2.2.2.1 k; have := C.2.2.2.2.2.1 0; omega
  obtain ⟨v, Y', e1, e2, P', N', hI⟩ := q_inTime hI
  refine lv_aload_n hx hb dL_law_794 rfl (lv_at hl 2 rfl) ?_
  refine lw_c1 C hM (As := []) (h' := 3) hl.1 yo_X12_inTime (by decide) qw_825 qw_826 qw_827 (kX12_inTime (lE1_ok h1) (lE1_x X1) _ e1) rfl rfl rfl (Nat.le_of_ble_eq_true rfl) dL_law_795 hf (fun H locs hM => ?_)
  refine lv_aload_n hx hb dL_law_798 rfl (lv_at hl 3 rfl) ?_
  refine lw_c2 C hM (As := []) (h' := 4) hl.1 yo_X13_inTime (by decide) qw_1799 qw_1800 qw_1801 (kX13_inTime (lE2_ok h2) rfl _ e2) rfl rfl rfl (Nat.le_of_ble_eq_true rfl) dL_law_799 hf (fun H locs hM => ?_)
  exact lv_icmp_eq (tgt := 1321) hx hb dL_law_802 (by decide) (fun _ => kk _ _ _ _ _ _ hI hM) (fun h => absurd rfl h)
set_option maxRecDepth 100000 in
theorem lc_17 {X1 X2 : XE} {X Y : MM} {P N : Nat} {w : Int64} {p : Program} {l : Launch} {e : Env} {s : State} {m : MethodId} {below : List Frame} {meth : Method} {c : Code} {H : Heap} {locs : List Loc} {cells slots : Nat} {Q : State → Prop} {b L i : Nat} {xs : Nat → Int32} {ls : Array Slot} (C : LwC X1 X2 p m c s b L xs) (hM : LwS X1 X2 s X Y w H locs) (hI : Inv X Y P N) (hi : i + 6 ≤ L) (hf : cells ≤ 601024 ∧ slots ≤ 7293034) (hl : lv_has ls 7 [(4, .int (nI i)), (0, .ref b), (1, .ref (X1.2.1 0)), (2, .ref (X2.2.1 0)), (3, .ref (s.heap.size + 226))])
    (kk : ∀ (H : Heap) (locs : List Loc) (X Y : MM) (P N : Nat), Inv X Y P N → LwS X1 X2 s X Y w H locs → W p l e room_1 s m #[Value.ref b] below meth c H locs cells slots Q (F0 m 1321 ls [])) : W p l e room_1 s m #[Value.ref b] below meth c H locs cells slots Q (F0 m 807 ls []) := by
  have hx := C.1.1
  have hb := C.1.2.1
  have h1 : ∀ k, X1.2.1 k = X1.2.1 0 + k := fun k => by have := C.2.2.2.2.1 k; have := C.2.2.2.2.1 0; omega
  have h2 : ∀ k, X2.2.1 k = X2.2.1 0 + k := fun k => by have := C.2.2.2.2.2.1 k; have := C.2.2.2.2.2.1 0; omega
  obtain ⟨v, X', Y', e1, e2, P', N', hI⟩ := q_tour (i := xs (i + 1)) hI
  refine lv_aload_n hx hb dL_law_807 rfl (lv_at hl 2 rfl) ?_
  refine lw_arg C hM (k := 1) (by omega) hl (by decide) dL_law_808 dL_law_809 dL_law_811 dL_law_812 dL_law_813 ?_
  refine lw_c1 C hM (As := [.int (xs (i + 1))]) (h' := 7) hl.1 yo_X12_tour (by decide) qw_829 qw_830 qw_831 (kX12_tour (lE1_ok h1) (xs (i + 1)) (lE1_x X1) _ e1) rfl rfl rfl (Nat.le_of_ble_eq_true rfl) dL_law_814 hf (fun H locs hM => ?_)
  refine lv_aload_n hx hb dL_law_817 rfl (lv_at hl 3 rfl) ?_
  refine lw_arg C hM (k := 1) (by omega) hl (by decide) dL_law_818 dL_law_819 dL_law_821 dL_law_822 dL_law_823 ?_
  refine lw_c2 C hM (As := [.int (xs (i + 1))]) (h' := 3) hl.1 yo_X13_tour (by decide) qw_1803 qw_1804 qw_1805 (kX13_tour (lE2_ok h2) (xs (i + 1)) rfl _ e2) rfl rfl rfl (Nat.le_of_ble_eq_true rfl) dL_law_824 hf (fun H locs hM => ?_)
  exact lv_icmp_eq (tgt := 1321) hx hb dL_law_827 (by decide) (fun _ => kk _ _ _ _ _ _ hI hM) (fun h => absurd rfl h)
set_option maxRecDepth 100000 in
theorem lc_18 {X1 X2 : XE} {X Y : MM} {P N : Nat} {w : Int64} {p : Program} {l : Launch} {e : Env} {s : State} {m : MethodId} {below : List Frame} {meth : Method} {c : Code} {H : Heap} {locs : List Loc} {cells slots : Nat} {Q : State → Prop} {b L i : Nat} {xs : Nat → Int32} {ls : Array Slot} (C : LwC X1 X2 p m c s b L xs) (hM : LwS X1 X2 s X Y w H locs) (hI : Inv X Y P N) (hi : i + 6 ≤ L) (hf : cells ≤ 601024 ∧ slots ≤ 7293034) (hl : lv_has ls 7 [(4, .int (nI i)), (0, .ref b), (1, .ref (X1.2.1 0)), (2, .ref (X2.2.1 0)), (3, .ref (s.heap.size + 226))])
    (kk : ∀ (H : Heap) (locs : List Loc) (X Y : MM) (P N : Nat), Inv X Y P N → LwS X1 X2 s X Y w H locs → W p l e room_1 s m #[Value.ref b] below meth c H locs cells slots Q (F0 m 1321 ls [])) : W p l e room_1 s m #[Value.ref b] below meth c H locs cells slots Q (F0 m 832 ls []) := by
  have hx := C.1.1
  have hb := C.1.2.1
  have h1 : ∀ k, X1.2.1 k = X1.2.1 0 + k := fun k => by have := C.2.2.2.2.1 k; have := C.2.2.2.2.1 0; omega
  have h2 : ∀ k, X2.2.1 k = X2.2.1 0 + k := fun k => by have := C.2.2.2.2.2.1 k; have := C.2.2.2.2.2.1 0; omega
  obtain ⟨v, Y', e1, e2, P', N', hI⟩ := q_tourAt (i := xs (i + 1)) hI
  refine lv_aload_n hx hb dL_law_832 rfl (lv_at hl 2 rfl) ?_
  refine lw_arg C hM (k := 1) (by omega) hl (by decide) dL_law_833 dL_law_834 dL_law_836 dL_law_837 dL_law_838 ?_
  refine lw_c1 C hM (As := [.int (xs (i + 1))]) (h' := 0) hl.1 yo_X12_tourAt (by decide) qw_865 qw_866 qw_867 (kX12_tourAt (lE1_ok h1) (xs (i + 1)) (lE1_x X1) _ e1) rfl rfl rfl (Nat.le_of_ble_eq_true rfl) dL_law_839 hf (fun H locs hM => ?_)
  refine lv_aload_n hx hb dL_law_842 rfl (lv_at hl 3 rfl) ?_
  refine lw_arg C hM (k := 1) (by omega) hl (by decide) dL_law_843 dL_law_844 dL_law_846 dL_law_847 dL_law_848 ?_
  refine lw_c2 C hM (As := [.int (xs (i + 1))]) (h' := 1) hl.1 yo_X13_tourAt (by decide) qw_1812 qw_1813 qw_1814 (kX13_tourAt (lE2_ok h2) (xs (i + 1)) rfl _ e2) rfl rfl rfl (Nat.le_of_ble_eq_true rfl) dL_law_849 hf (fun H locs hM => ?_)
  exact lv_icmp_eq (tgt := 1321) hx hb dL_law_852 (by decide) (fun _ => kk _ _ _ _ _ _ hI hM) (fun h => absurd rfl h)
set_option maxRecDepth 100000 in
theorem lc_19 {X1 X2 : XE} {X Y : MM} {P N : Nat} {w : Int64} {p : Program} {l : Launch} {e : Env} {s : State} {m : MethodId} {below : List Frame} {meth : Method} {c : Code} {H : Heap} {locs : List Loc} {cells slots : Nat} {Q : State → Prop} {b L i : Nat} {xs : Nat → Int32} {ls : Array Slot} (C : LwC X1 X2 p m c s b L xs) (hM : LwS X1 X2 s X Y w H locs) (hI : Inv X Y P N) (hi : i + 6 ≤ L) (hf : cells ≤ 601024 ∧ slots ≤ 7293034) (hl : lv_has ls 7 [(4, .int (nI i)), (0, .ref b), (1, .ref (X1.2.1 0)), (2, .ref (X2.2.1 0)), (3, .ref (s.heap.size + 226))])
    (kk : ∀ (H : Heap) (locs : List Loc) (X Y : MM) (P N : Nat), Inv X Y P N → LwS X1 X2 s X Y w H locs → W p l e room_1 s m #[Value.ref b] below meth c H locs cells slots Q (F0 m 1321 ls [])) : W p l e room_1 s m #[Value.ref b] below meth c H locs cells slots Q (F0 m 857 ls []) := by
  have hx := C.1.1
  have hb := C.1.2.1
  have h1 : ∀ k, X1.2.1 k = X1.2.1 0 + k := fun k => by have := C.2.2.2.2.1 k; have := C.2.2.2.2.1 0; omega
  have h2 : ∀ k, X2.2.1 k = X2.2.1 0 + k := fun k => by have := C.2.2.2.2.2.1 k; have := C.2.2.2.2.2.1 0; omega
  obtain ⟨v, X', Y', e1, e2, P', N', hI⟩ := q_keepers hI
  refine lv_aload_n hx hb dL_law_857 rfl (lv_at hl 2 rfl) ?_
  refine lw_c1 C hM (As := []) (h' := 7) hl.1 yo_X12_keepers (by decide) qw_869 qw_870 qw_871 (kX12_keepers (lE1_ok h1) (lE1_x X1) _ e1) rfl rfl rfl (Nat.le_of_ble_eq_true rfl) dL_law_858 hf (fun H locs hM => ?_)
  refine lv_aload_n hx hb dL_law_861 rfl (lv_at hl 3 rfl) ?_
  refine lw_c2 C hM (As := []) (h' := 4) hl.1 yo_X13_keepers (by decide) qw_1816 qw_1817 qw_1818 (kX13_keepers (lE2_ok h2) rfl _ e2) rfl rfl rfl (Nat.le_of_ble_eq_true rfl) dL_law_862 hf (fun H locs hM => ?_)
  exact lv_icmp_eq (tgt := 1321) hx hb dL_law_865 (by decide) (fun _ => kk _ _ _ _ _ _ hI hM) (fun h => absurd rfl h)
set_option maxRecDepth 100000 in
theorem lc_20 {X1 X2 : XE} {X Y : MM} {P N : Nat} {w : Int64} {p : Program} {l : Launch} {e : Env} {s : State} {m : MethodId} {below : List Frame} {meth : Method} {c : Code} {H : Heap} {locs : List Loc} {cells slots : Nat} {Q : State → Prop} {b L i : Nat} {xs : Nat → Int32} {ls : Array Slot} (C : LwC X1 X2 p m c s b L xs) (hM : LwS X1 X2 s X Y w H locs) (hI : Inv X Y P N) (hi : i + 6 ≤ L) (hf : cells ≤ 601024 ∧ slots ≤ 7293034) (hl : lv_has ls 7 [(4, .int (nI i)), (0, .ref b), (1, .ref (X1.2.1 0)), (2, .ref (X2.2.1 0)), (3, .ref (s.heap.size + 226))])
    (kk : ∀ (H : Heap) (locs : List Loc) (X Y : MM) (P N : Nat), Inv X Y P N → LwS X1 X2 s X Y w H locs → W p l e room_1 s m #[Value.ref b] below meth c H locs cells slots Q (F0 m 1321 ls [])) : W p l e room_1 s m #[Value.ref b] below meth c H locs cells slots Q (F0 m 870 ls []) := by
  have hx := C.1.1
  have hb := C.1.2.1
  have h1 : ∀ k, X1.2.1 k = X1.2.1 0 + k := fun k => by have := C.2.2.2.2.1 k; have := C.2.2.2.2.1 0; omega
  have h2 : ∀ k, X2.2.1 k = X2.2.1 0 + k := fun k => by have := C.2.2.2.2.2.1 k; have := C.2.2.2.2.2.1 0; omega
  obtain ⟨v, Y', e1, e2, P', N', hI⟩ := q_keeperOf (i := xs (i + 1)) hI
  refine lv_aload_n hx hb dL_law_870 rfl (lv_at hl 2 rfl) ?_
  refine lw_arg C hM (k := 1) (by omega) hl (by decide) dL_law_871 dL_law_872 dL_law_874 dL_law_875 dL_law_876 ?_
  refine lw_c1 C hM (As := [.int (xs (i + 1))]) (h' := 0) hl.1 yo_X12_keeperOf (by decide) qw_897 qw_898 qw_899 (kX12_keeperOf (lE1_ok h1) (xs (i + 1)) (lE1_x X1) _ e1) rfl rfl rfl (Nat.le_of_ble_eq_true rfl) dL_law_877 hf (fun H locs hM => ?_)
  refine lv_aload_n hx hb dL_law_880 rfl (lv_at hl 3 rfl) ?_
  refine lw_arg C hM (k := 1) (by omega) hl (by decide) dL_law_881 dL_law_882 dL_law_884 dL_law_885 dL_law_886 ?_
  refine lw_c2 C hM (As := [.int (xs (i + 1))]) (h' := 1) hl.1 yo_X13_keeperOf (by decide) qw_1831 qw_1832 qw_1833 (kX13_keeperOf (lE2_ok h2) (xs (i + 1)) rfl _ e2) rfl rfl rfl (Nat.le_of_ble_eq_true rfl) dL_law_887 hf (fun H locs hM => ?_)
  exact lv_icmp_eq (tgt := 1321) hx hb dL_law_890 (by decide) (fun _ => kk _ _ _ _ _ _ hI hM) (fun h => absurd rfl h)
set_option maxRecDepth 100000 in
theorem lc_21 {X1 X2 : XE} {X Y : MM} {P N : Nat} {w : Int64} {p : Program} {l : Launch} {e : Env} {s : State} {m : MethodId} {below : List Frame} {meth : Method} {c : Code} {H : Heap} {locs : List Loc} {cells slots : Nat} {Q : State → Prop} {b L i : Nat} {xs : Nat → Int32} {ls : Array Slot} (C : LwC X1 X2 p m c s b L xs) (hM : LwS X1 X2 s X Y w H locs) (hI : Inv X Y P N) (hi : i + 6 ≤ L) (hf : cells ≤ 601024 ∧ slots ≤ 7293034) (hl : lv_has ls 7 [(4, .int (nI i)), (0, .ref b), (1, .ref (X1.2.1 0)), (2, .ref (X2.2.1 0)), (3, .ref (s.heap.size + 226))])
    (kk : ∀ (H : Heap) (locs : List Loc) (X Y : MM) (P N : Nat), Inv X Y P N → LwS X1 X2 s X Y w H locs → W p l e room_1 s m #[Value.ref b] below meth c H locs cells slots Q (F0 m 1321 ls [])) : W p l e room_1 s m #[Value.ref b] below meth c H locs cells slots Q (F0 m 895 ls []) := by
  have hx := C.1.1
  have hb := C.1.2.1
  have h1 : ∀ k, X1.2.1 k = X1.2.1 0 + k := fun k => by have := C.2.2.2.2.1 k; have := C.2.2.2.2.1 0; omega
  have h2 : ∀ k, X2.2.1 k = X2.2.1 0 + k := fun k => by have := C.2.2.2.2.2.1 k; have := C.2.2.2.2.2.1 0; omega
  obtain ⟨v, X', Y', e1, e2, P', N', hI⟩ := q_sizes hI
  refine lv_aload_n hx hb dL_law_895 rfl (lv_at hl 2 rfl) ?_
  refine lw_c1 C hM (As := []) (h' := 4) hl.1 yo_X12_sizes (by decide) qw_901 qw_902 qw_903 (kX12_sizes (lE1_ok h1) (lE1_x X1) _ e1) rfl rfl rfl (Nat.le_of_ble_eq_true rfl) dL_law_896 hf (fun H locs hM => ?_)
  refine lv_aload_n hx hb dL_law_899 rfl (lv_at hl 3 rfl) ?_
  refine lw_c2 C hM (As := []) (h' := 3) hl.1 yo_X13_sizes (by decide) qw_1835 qw_1836 qw_1837 (kX13_sizes (lE2_ok h2) rfl _ e2) rfl rfl rfl (Nat.le_of_ble_eq_true rfl) dL_law_900 hf (fun H locs hM => ?_)
  exact lv_icmp_eq (tgt := 1321) hx hb dL_law_903 (by decide) (fun _ => kk _ _ _ _ _ _ hI hM) (fun h => absurd rfl h)
set_option maxRecDepth 100000 in
theorem lc_22 {X1 X2 : XE} {X Y : MM} {P N : Nat} {w : Int64} {p : Program} {l : Launch} {e : Env} {s : State} {m : MethodId} {below : List Frame} {meth : Method} {c : Code} {H : Heap} {locs : List Loc} {cells slots : Nat} {Q : State → Prop} {b L i : Nat} {xs : Nat → Int32} {ls : Array Slot} (C : LwC X1 X2 p m c s b L xs) (hM : LwS X1 X2 s X Y w H locs) (hI : Inv X Y P N) (hi : i + 6 ≤ L) (hf : cells ≤ 601024 ∧ slots ≤ 7293034) (hl : lv_has ls 7 [(4, .int (nI i)), (0, .ref b), (1, .ref (X1.2.1 0)), (2, .ref (X2.2.1 0)), (3, .ref (s.heap.size + 226))])
    (kk : ∀ (H : Heap) (locs : List Loc) (X Y : MM) (P N : Nat), Inv X Y P N → LwS X1 X2 s X Y w H locs → W p l e room_1 s m #[Value.ref b] below meth c H locs cells slots Q (F0 m 1321 ls [])) : W p l e room_1 s m #[Value.ref b] below meth c H locs cells slots Q (F0 m 908 ls []) := by
  have hx := C.1.1
  have hb := C.1.2.1
  have h1 : ∀ k, X1.2.1 k = X1.2.1 0 + k := fun k => by have := C.2.2.2.2.1 k; have := C.2.2.2.2.1 0; omega
  have h2 : ∀ k, X2.2.1 k = X2.2.1 0 + k := fun k => by have := C.2.2.2.2.2.1 k; have := C.2.2.2.2.2.1 0; omega
  obtain ⟨v, Y', e1, e2, P', N', hI⟩ := q_sizeLeast hI
  refine lv_aload_n hx hb dL_law_908 rfl (lv_at hl 2 rfl) ?_
  refine lw_c1 C hM (As := []) (h' := 0) hl.1 yo_X12_sizeLeast (by decide) qw_928 qw_929 qw_930 (kX12_sizeLeast (lE1_ok h1) (lE1_x X1) _ e1) rfl rfl rfl (Nat.le_of_ble_eq_true rfl) dL_law_909 hf (fun H locs hM => ?_)
  refine lv_aload_n hx hb dL_law_912 rfl (lv_at hl 3 rfl) ?_
  refine lw_c2 C hM (As := []) (h' := 0) hl.1 yo_X13_sizeLeast (by decide) qw_1851 qw_1852 qw_1853 (kX13_sizeLeast (lE2_ok h2) rfl _ e2) rfl rfl rfl (Nat.le_of_ble_eq_true rfl) dL_law_913 hf (fun H locs hM => ?_)
  exact lv_icmp_eq (tgt := 1321) hx hb dL_law_916 (by decide) (fun _ => kk _ _ _ _ _ _ hI hM) (fun h => absurd rfl h)
set_option maxRecDepth 100000 in
theorem lc_23 {X1 X2 : XE} {X Y : MM} {P N : Nat} {w : Int64} {p : Program} {l : Launch} {e : Env} {s : State} {m : MethodId} {below : List Frame} {meth : Method} {c : Code} {H : Heap} {locs : List Loc} {cells slots : Nat} {Q : State → Prop} {b L i : Nat} {xs : Nat → Int32} {ls : Array Slot} (C : LwC X1 X2 p m c s b L xs) (hM : LwS X1 X2 s X Y w H locs) (hI : Inv X Y P N) (hi : i + 6 ≤ L) (hf : cells ≤ 601024 ∧ slots ≤ 7293034) (hl : lv_has ls 7 [(4, .int (nI i)), (0, .ref b), (1, .ref (X1.2.1 0)), (2, .ref (X2.2.1 0)), (3, .ref (s.heap.size + 226))])
    (kk : ∀ (H : Heap) (locs : List Loc) (X Y : MM) (P N : Nat), Inv X Y P N → LwS X1 X2 s X Y w H locs → W p l e room_1 s m #[Value.ref b] below meth c H locs cells slots Q (F0 m 1321 ls [])) : W p l e room_1 s m #[Value.ref b] below meth c H locs cells slots Q (F0 m 921 ls []) := by
  have hx := C.1.1
  have hb := C.1.2.1
  have h1 : ∀ k, X1.2.1 k = X1.2.1 0 + k := fun k => by have := C.2.2.2.2.1 k; have := C.2.2.2.2.1 0; omega
  have h2 : ∀ k, X2.2.1 k = X2.2.1 0 + k := fun k => by have := C.2.2.2.2.2.1 k; have := C.2.2.2.2.2.1 0; omega
  obtain ⟨v, Y', e1, e2, P', N', hI⟩ := q_knuckle hI
  refine lv_aload_n hx hb dL_law_921 rfl (lv_at hl 2 rfl) ?_
  refine lw_c1 C hM (As := []) (h' := 0) hl.1 yo_X12_knuckle (by decide) qw_932 qw_933 qw_934 (kX12_knuckle (lE1_ok h1) (lE1_x X1) _ e1) rfl rfl rfl (Nat.le_of_ble_eq_true rfl) dL_law_922 hf (fun H locs hM => ?_)
  refine lv_aload_n hx hb dL_law_925 rfl (lv_at hl 3 rfl) ?_
  refine lw_c2 C hM (As := []) (h' := 0) hl.1 yo_X13_knuckle (by decide) qw_1855 qw_1856 qw_1857 (kX13_knuckle (lE2_ok h2) rfl _ e2) rfl rfl rfl (Nat.le_of_ble_eq_true rfl) dL_law_926 hf (fun H locs hM => ?_)
  exact lv_icmp_eq (tgt := 1321) hx hb dL_law_929 (by decide) (fun _ => kk _ _ _ _ _ _ hI hM) (fun h => absurd rfl h)
set_option maxRecDepth 100000 in
theorem lc_24 {X1 X2 : XE} {X Y : MM} {P N : Nat} {w : Int64} {p : Program} {l : Launch} {e : Env} {s : State} {m : MethodId} {below : List Frame} {meth : Method} {c : Code} {H : Heap} {locs : List Loc} {cells slots : Nat} {Q : State → Prop} {b L i : Nat} {xs : Nat → Int32} {ls : Array Slot} (C : LwC X1 X2 p m c s b L xs) (hM : LwS X1 X2 s X Y w H locs) (hI : Inv X Y P N) (hi : i + 6 ≤ L) (hf : cells ≤ 601024 ∧ slots ≤ 7293034) (hl : lv_has ls 7 [(4, .int (nI i)), (0, .ref b), (1, .ref (X1.2.1 0)), (2, .ref (X2.2.1 0)), (3, .ref (s.heap.size + 226))])
    (kk : ∀ (H : Heap) (locs : List Loc) (X Y : MM) (P N : Nat), Inv X Y P N → LwS X1 X2 s X Y w H locs → W p l e room_1 s m #[Value.ref b] below meth c H locs cells slots Q (F0 m 1321 ls [])) : W p l e room_1 s m #[Value.ref b] below meth c H locs cells slots Q (F0 m 934 ls []) := by
  have hx := C.1.1
  have hb := C.1.2.1
  have h1 : ∀ k, X1.2.1 k = X1.2.1 0 + k := fun k => by have := C.2.2.2.2.1 k; have := C.2.2.2.2.1 0; omega
  have h2 : ∀ k, X2.2.1 k = X2.2.1 0 + k := fun k => by have := C.2.2.2.2.2.1 k; have := C.2.2.2.2.2.1 0; omega
  obtain ⟨v, X', Y', e1, e2, P', N', hI⟩ := q_ways hI
  refine lv_aload_n hx hb dL_law_934 rfl (lv_at hl 2 rfl) ?_
  refine lw_c1 C hM (As := []) (h' := 5) hl.1 yo_X12_ways (by decide) qw_936 qw_937 qw_938 (kX12_ways (lE1_ok h1) (lE1_x X1) _ e1) rfl rfl rfl (Nat.le_of_ble_eq_true rfl) dL_law_935 hf (fun H locs hM => ?_)
  refine lv_aload_n hx hb dL_law_938 rfl (lv_at hl 3 rfl) ?_
  refine lw_c2 C hM (As := []) (h' := 3) hl.1 yo_X13_ways (by decide) qw_1859 qw_1860 qw_1861 (kX13_ways (lE2_ok h2) rfl _ e2) rfl rfl rfl (Nat.le_of_ble_eq_true rfl) dL_law_939 hf (fun H locs hM => ?_)
  exact lv_icmp_eq (tgt := 1321) hx hb dL_law_942 (by decide) (fun _ => kk _ _ _ _ _ _ hI hM) (fun h => absurd rfl h)
set_option maxRecDepth 100000 in
theorem lc_25 {X1 X2 : XE} {X Y : MM} {P N : Nat} {w : Int64} {p : Program} {l : Launch} {e : Env} {s : State} {m : MethodId} {below : List Frame} {meth : Method} {c : Code} {H : Heap} {locs : List Loc} {cells slots : Nat} {Q : State → Prop} {b L i : Nat} {xs : Nat → Int32} {ls : Array Slot} (C : LwC X1 X2 p m c s b L xs) (hM : LwS X1 X2 s X Y w H locs) (hI : Inv X Y P N) (hi : i + 6 ≤ L) (hf : cells ≤ 601024 ∧ slots ≤ 7293034) (hl : lv_has ls 7 [(4, .int (nI i)), (0, .ref b), (1, .ref (X1.2.1 0)), (2, .ref (X2.2.1 0)), (3, .ref (s.heap.size + 226))])
    (kk : ∀ (H : Heap) (locs : List Loc) (X Y : MM) (P N : Nat), Inv X Y P N → LwS X1 X2 s X Y w H locs → W p l e room_1 s m #[Value.ref b] below meth c H locs cells slots Q (F0 m 1321 ls [])) : W p l e room_1 s m #[Value.ref b] below meth c H locs cells slots Q (F0 m 947 ls []) := by
  have hx := C.1.1
  have hb := C.1.2.1
  have h1 : ∀ k, X1.2.1 k = X1.2.1 0 + k := fun k => by have := C.2.2.2.2.1 k; have := C.2.2.2.2.1 0; omega
  have h2 : ∀ k, X2.2.1 k = X2.2.1 0 + k := fun k => by have := C.2.2.2.2.2.1 k; have := C.2.2.2.2.2.1 0; omega
  obtain ⟨v, X', Y', e1, e2, P', N', hI⟩ := q_likely (i := xs (i + 1)) hI
  refine lv_aload_n hx hb dL_law_947 rfl (lv_at hl 2 rfl) ?_
  refine lw_arg C hM (k := 1) (by omega) hl (by decide) dL_law_948 dL_law_949 dL_law_951 dL_law_952 dL_law_953 ?_
  refine lw_c1 C hM (As := [.int (xs (i + 1))]) (h' := 6) hl.1 yo_X12_likely (by decide) qw_955 qw_956 qw_957 (kX12_likely (lE1_ok h1) (xs (i + 1)) (lE1_x X1) _ e1) rfl rfl rfl (Nat.le_of_ble_eq_true rfl) dL_law_954 hf (fun H locs hM => ?_)
  refine lv_aload_n hx hb dL_law_957 rfl (lv_at hl 3 rfl) ?_
  refine lw_arg C hM (k := 1) (by omega) hl (by decide) dL_law_958 dL_law_959 dL_law_961 dL_law_962 dL_law_963 ?_
  refine lw_c2 C hM (As := [.int (xs (i + 1))]) (h' := 3) hl.1 yo_X13_likely (by decide) qw_1867 qw_1868 qw_1869 (kX13_likely (lE2_ok h2) (xs (i + 1)) rfl _ e2) rfl rfl rfl (Nat.le_of_ble_eq_true rfl) dL_law_964 hf (fun H locs hM => ?_)
  exact lv_icmp_eq (tgt := 1321) hx hb dL_law_967 (by decide) (fun _ => kk _ _ _ _ _ _ hI hM) (fun h => absurd rfl h)
set_option maxRecDepth 100000 in
theorem lc_26 {X1 X2 : XE} {X Y : MM} {P N : Nat} {w : Int64} {p : Program} {l : Launch} {e : Env} {s : State} {m : MethodId} {below : List Frame} {meth : Method} {c : Code} {H : Heap} {locs : List Loc} {cells slots : Nat} {Q : State → Prop} {b L i : Nat} {xs : Nat → Int32} {ls : Array Slot} (C : LwC X1 X2 p m c s b L xs) (hM : LwS X1 X2 s X Y w H locs) (hI : Inv X Y P N) (hi : i + 6 ≤ L) (hf : cells ≤ 601024 ∧ slots ≤ 7293034) (hl : lv_has ls 7 [(4, .int (nI i)), (0, .ref b), (1, .ref (X1.2.1 0)), (2, .ref (X2.2.1 0)), (3, .ref (s.heap.size + 226))])
    (kk : ∀ (H : Heap) (locs : List Loc) (X Y : MM) (P N : Nat), Inv X Y P N → LwS X1 X2 s X Y w H locs → W p l e room_1 s m #[Value.ref b] below meth c H locs cells slots Q (F0 m 1321 ls [])) : W p l e room_1 s m #[Value.ref b] below meth c H locs cells slots Q (F0 m 972 ls []) := by
  have hx := C.1.1
  have hb := C.1.2.1
  have h1 : ∀ k, X1.2.1 k = X1.2.1 0 + k := fun k => by have := C.2.2.2.2.1 k; have := C.2.2.2.2.1 0; omega
  have h2 : ∀ k, X2.2.1 k = X2.2.1 0 + k := fun k => by have := C.2.2.2.2.2.1 k; have := C.2.2.2.2.2.1 0; omega
  obtain ⟨v, X', Y', e1, e2, P', N', hI⟩ := q_chain (i := xs (i + 1)) hI
  refine lv_aload_n hx hb dL_law_972 rfl (lv_at hl 2 rfl) ?_
  refine lw_arg C hM (k := 1) (by omega) hl (by decide) dL_law_973 dL_law_974 dL_law_976 dL_law_977 dL_law_978 ?_
  refine lw_c1 C hM (As := [.int (xs (i + 1))]) (h' := 2) hl.1 yo_X12_chain (by decide) qw_967 qw_968 qw_969 (kX12_chain (lE1_ok h1) (xs (i + 1)) (lE1_x X1) _ e1) rfl rfl rfl (Nat.le_of_ble_eq_true rfl) dL_law_979 hf (fun H locs hM => ?_)
  refine lv_aload_n hx hb dL_law_982 rfl (lv_at hl 3 rfl) ?_
  refine lw_arg C hM (k := 1) (by omega) hl (by decide) dL_law_983 dL_law_984 dL_law_986 dL_law_987 dL_law_988 ?_
  refine lw_c2 C hM (As := [.int (xs (i + 1))]) (h' := 2) hl.1 yo_X13_chain (by decide) qw_1875 qw_1876 qw_1877 (kX13_chain (lE2_ok h2) (xs (i + 1)) rfl _ e2) rfl rfl rfl (Nat.le_of_ble_eq_true rfl) dL_law_989 hf (fun H locs hM => ?_)
  exact lv_icmp_eq (tgt := 1321) hx hb dL_law_992 (by decide) (fun _ => kk _ _ _ _ _ _ hI hM) (fun h => absurd rfl h)
set_option maxRecDepth 100000 in
theorem lc_27 {X1 X2 : XE} {X Y : MM} {P N : Nat} {w : Int64} {p : Program} {l : Launch} {e : Env} {s : State} {m : MethodId} {below : List Frame} {meth : Method} {c : Code} {H : Heap} {locs : List Loc} {cells slots : Nat} {Q : State → Prop} {b L i : Nat} {xs : Nat → Int32} {ls : Array Slot} (C : LwC X1 X2 p m c s b L xs) (hM : LwS X1 X2 s X Y w H locs) (hI : Inv X Y P N) (hi : i + 6 ≤ L) (hf : cells ≤ 601024 ∧ slots ≤ 7293034) (hl : lv_has ls 7 [(4, .int (nI i)), (0, .ref b), (1, .ref (X1.2.1 0)), (2, .ref (X2.2.1 0)), (3, .ref (s.heap.size + 226))])
    (kk : ∀ (H : Heap) (locs : List Loc) (X Y : MM) (P N : Nat), Inv X Y P N → LwS X1 X2 s X Y w H locs → W p l e room_1 s m #[Value.ref b] below meth c H locs cells slots Q (F0 m 1321 ls [])) : W p l e room_1 s m #[Value.ref b] below meth c H locs cells slots Q (F0 m 997 ls []) := by
  have hx := C.1.1
  have hb := C.1.2.1
  have h1 : ∀ k, X1.2.1 k = X1.2.1 0 + k := fun k => by have := C.2.2.2.2.1 k; have := C.2.2.2.2.1 0; omega
  have h2 : ∀ k, X2.2.1 k = X2.2.1 0 + k := fun k => by have := C.2.2.2.2.2.1 k; have := C.2.2.2.2.2.1 0; omega
  obtain ⟨v, X', Y', e1, e2, P', N', hI⟩ := q_closed (i := xs (i + 1)) hI
  refine lv_aload_n hx hb dL_law_997 rfl (lv_at hl 2 rfl) ?_
  refine lw_arg C hM (k := 1) (by omega) hl (by decide) dL_law_998 dL_law_999 dL_law_1001 dL_law_1002 dL_law_1003 ?_
  refine lw_c1 C hM (As := [.int (xs (i + 1))]) (h' := 2) hl.1 yo_X12_closed (by decide) qw_979 qw_980 qw_981 (kX12_closed (lE1_ok h1) (xs (i + 1)) (lE1_x X1) _ e1) rfl rfl rfl (Nat.le_of_ble_eq_true rfl) dL_law_1004 hf (fun H locs hM => ?_)
  refine lv_aload_n hx hb dL_law_1007 rfl (lv_at hl 3 rfl) ?_
  refine lw_arg C hM (k := 1) (by omega) hl (by decide) dL_law_1008 dL_law_1009 dL_law_1011 dL_law_1012 dL_law_1013 ?_
  refine lw_c2 C hM (As := [.int (xs (i + 1))]) (h' := 2) hl.1 yo_X13_closed (by decide) qw_1887 qw_1888 qw_1889 (kX13_closed (lE2_ok h2) (xs (i + 1)) rfl _ e2) rfl rfl rfl (Nat.le_of_ble_eq_true rfl) dL_law_1014 hf (fun H locs hM => ?_)
  exact lv_icmp_eq (tgt := 1321) hx hb dL_law_1017 (by decide) (fun _ => kk _ _ _ _ _ _ hI hM) (fun h => absurd rfl h)
set_option maxRecDepth 100000 in
theorem lc_28 {X1 X2 : XE} {X Y : MM} {P N : Nat} {w : Int64} {p : Program} {l : Launch} {e : Env} {s : State} {m : MethodId} {below : List Frame} {meth : Method} {c : Code} {H : Heap} {locs : List Loc} {cells slots : Nat} {Q : State → Prop} {b L i : Nat} {xs : Nat → Int32} {ls : Array Slot} (C : LwC X1 X2 p m c s b L xs) (hM : LwS X1 X2 s X Y w H locs) (hI : Inv X Y P N) (hi : i + 6 ≤ L) (hf : cells ≤ 601024 ∧ slots ≤ 7293034) (hl : lv_has ls 7 [(4, .int (nI i)), (0, .ref b), (1, .ref (X1.2.1 0)), (2, .ref (X2.2.1 0)), (3, .ref (s.heap.size + 226))])
    (kk : ∀ (H : Heap) (locs : List Loc) (X Y : MM) (P N : Nat), Inv X Y P N → LwS X1 X2 s X Y w H locs → W p l e room_1 s m #[Value.ref b] below meth c H locs cells slots Q (F0 m 1321 ls [])) : W p l e room_1 s m #[Value.ref b] below meth c H locs cells slots Q (F0 m 1022 ls []) := by
  have hx := C.1.1
  have hb := C.1.2.1
  have h1 : ∀ k, X1.2.1 k = X1.2.1 0 + k := fun k => by have := C.2.2.2.2.1 k; have := C.2.2.2.2.1 0; omega
  have h2 : ∀ k, X2.2.1 k = X2.2.1 0 + k := fun k => by have := C.2.2.2.2.2.1 k; have := C.2.2.2.2.2.1 0; omega
  obtain ⟨v, X', Y', e1, e2, P', N', hI⟩ := q_note (i := xs (i + 1)) hI
  refine lv_aload_n hx hb dL_law_1022 rfl (lv_at hl 2 rfl) ?_
  refine lw_arg C hM (k := 1) (by omega) hl (by decide) dL_law_1023 dL_law_1024 dL_law_1026 dL_law_1027 dL_law_1028 ?_
  refine lw_c1 C hM (As := [.int (xs (i + 1))]) (h' := 12) hl.1 yo_X12_note (by decide) qw_983 qw_984 qw_985 (kX12_note (lE1_ok h1) (xs (i + 1)) (lE1_x X1) _ e1) rfl rfl rfl (Nat.le_of_ble_eq_true rfl) dL_law_1029 hf (fun H locs hM => ?_)
  refine lv_aload_n hx hb dL_law_1032 rfl (lv_at hl 3 rfl) ?_
  refine lw_arg C hM (k := 1) (by omega) hl (by decide) dL_law_1033 dL_law_1034 dL_law_1036 dL_law_1037 dL_law_1038 ?_
  refine lw_c2 C hM (As := [.int (xs (i + 1))]) (h' := 3) hl.1 yo_X13_note (by decide) qw_1891 qw_1892 qw_1893 (kX13_note (lE2_ok h2) (xs (i + 1)) rfl _ e2) rfl rfl rfl (Nat.le_of_ble_eq_true rfl) dL_law_1039 hf (fun H locs hM => ?_)
  exact lv_icmp_eq (tgt := 1321) hx hb dL_law_1042 (by decide) (fun _ => kk _ _ _ _ _ _ hI hM) (fun h => absurd rfl h)
set_option maxRecDepth 100000 in
theorem lc_29 {X1 X2 : XE} {X Y : MM} {P N : Nat} {w : Int64} {p : Program} {l : Launch} {e : Env} {s : State} {m : MethodId} {below : List Frame} {meth : Method} {c : Code} {H : Heap} {locs : List Loc} {cells slots : Nat} {Q : State → Prop} {b L i : Nat} {xs : Nat → Int32} {ls : Array Slot} (C : LwC X1 X2 p m c s b L xs) (hM : LwS X1 X2 s X Y w H locs) (hI : Inv X Y P N) (hi : i + 6 ≤ L) (hf : cells ≤ 601024 ∧ slots ≤ 7293034) (hl : lv_has ls 7 [(4, .int (nI i)), (0, .ref b), (1, .ref (X1.2.1 0)), (2, .ref (X2.2.1 0)), (3, .ref (s.heap.size + 226))])
    (kk : ∀ (H : Heap) (locs : List Loc) (X Y : MM) (P N : Nat), Inv X Y P N → LwS X1 X2 s X Y w H locs → W p l e room_1 s m #[Value.ref b] below meth c H locs cells slots Q (F0 m 1321 ls [])) : W p l e room_1 s m #[Value.ref b] below meth c H locs cells slots Q (F0 m 1047 ls []) := by
  have hx := C.1.1
  have hb := C.1.2.1
  have h1 : ∀ k, X1.2.1 k = X1.2.1 0 + k := fun k => by have := C.2.2.2.2.1 k; have := C.2.2.2.2.1 0; omega
  have h2 : ∀ k, X2.2.1 k = X2.2.1 0 + k := fun k => by have := C.2.2.2.2.2.1 k; have := C.2.2.2.2.2.1 0; omega
  obtain ⟨v, Y', e1, e2, P', N', hI⟩ := q_byteAt (i := xs (i + 1)) hI
  refine lv_aload_n hx hb dL_law_1047 rfl (lv_at hl 2 rfl) ?_
  refine lw_arg C hM (k := 1) (by omega) hl (by decide) dL_law_1048 dL_law_1049 dL_law_1051 dL_law_1052 dL_law_1053 ?_
  refine lw_c1 C hM (As := [.int (xs (i + 1))]) (h' := 0) hl.1 yo_X12_byteAt (by decide) qw_1057 qw_1058 qw_1059 (kX12_byteAt (lE1_ok h1) (xs (i + 1)) (lE1_x X1) _ e1) rfl rfl rfl (Nat.le_of_ble_eq_true rfl) dL_law_1054 hf (fun H locs hM => ?_)
  refine lv_aload_n hx hb dL_law_1057 rfl (lv_at hl 3 rfl) ?_
  refine lw_arg C hM (k := 1) (by omega) hl (by decide) dL_law_1058 dL_law_1059 dL_law_1061 dL_law_1062 dL_law_1063 ?_
  refine lw_c2 C hM (As := [.int (xs (i + 1))]) (h' := 1) hl.1 yo_X13_byteAt (by decide) qw_1909 qw_1910 qw_1911 (kX13_byteAt (lE2_ok h2) (xs (i + 1)) rfl _ e2) rfl rfl rfl (Nat.le_of_ble_eq_true rfl) dL_law_1064 hf (fun H locs hM => ?_)
  exact lv_icmp_eq (tgt := 1321) hx hb dL_law_1067 (by decide) (fun _ => kk _ _ _ _ _ _ hI hM) (fun h => absurd rfl h)
set_option maxRecDepth 100000 in
theorem lc_30 {X1 X2 : XE} {X Y : MM} {P N : Nat} {w : Int64} {p : Program} {l : Launch} {e : Env} {s : State} {m : MethodId} {below : List Frame} {meth : Method} {c : Code} {H : Heap} {locs : List Loc} {cells slots : Nat} {Q : State → Prop} {b L i : Nat} {xs : Nat → Int32} {ls : Array Slot} (C : LwC X1 X2 p m c s b L xs) (hM : LwS X1 X2 s X Y w H locs) (hI : Inv X Y P N) (hi : i + 6 ≤ L) (hf : cells ≤ 601024 ∧ slots ≤ 7293034) (hl : lv_has ls 7 [(4, .int (nI i)), (0, .ref b), (1, .ref (X1.2.1 0)), (2, .ref (X2.2.1 0)), (3, .ref (s.heap.size + 226))])
    (kk : ∀ (H : Heap) (locs : List Loc) (X Y : MM) (P N : Nat), Inv X Y P N → LwS X1 X2 s X Y w H locs → W p l e room_1 s m #[Value.ref b] below meth c H locs cells slots Q (F0 m 1321 ls [])) : W p l e room_1 s m #[Value.ref b] below meth c H locs cells slots Q (F0 m 1072 ls []) := by
  have hx := C.1.1
  have hb := C.1.2.1
  have h1 : ∀ k, X1.2.1 k = X1.2.1 0 + k := fun k => by have := C.2.2.2.2.1 k; have := C.2.2.2.2.1 0; omega
  have h2 : ∀ k, X2.2.1 k = X2.2.1 0 + k := fun k => by have := C.2.2.2.2.2.1 k; have := C.2.2.2.2.2.1 0; omega
  obtain ⟨v, X', Y', e1, e2, P', N', hI⟩ := q_drawn (i := xs (i + 1)) (x := xs (i + 2)) hI
  refine lv_aload_n hx hb dL_law_1072 rfl (lv_at hl 2 rfl) ?_
  refine lw_arg C hM (k := 1) (by omega) hl (by decide) dL_law_1073 dL_law_1074 dL_law_1076 dL_law_1077 dL_law_1078 ?_
  refine lw_arg C hM (k := 2) (by omega) hl (by decide) dL_law_1079 dL_law_1080 dL_law_1082 dL_law_1083 dL_law_1084 ?_
  refine lw_c1 C hM (As := [.int (xs (i + 1)), .int (xs (i + 2))]) (h' := 5) hl.1 yo_X12_drawn (by decide) qw_1061 qw_1062 qw_1063 (kX12_drawn (lE1_ok h1) (xs (i + 1)) (xs (i + 2)) (lE1_x X1) _ e1) rfl rfl rfl (Nat.le_of_ble_eq_true rfl) dL_law_1085 hf (fun H locs hM => ?_)
  refine lv_aload_n hx hb dL_law_1088 rfl (lv_at hl 3 rfl) ?_
  refine lw_arg C hM (k := 1) (by omega) hl (by decide) dL_law_1089 dL_law_1090 dL_law_1092 dL_law_1093 dL_law_1094 ?_
  refine lw_arg C hM (k := 2) (by omega) hl (by decide) dL_law_1095 dL_law_1096 dL_law_1098 dL_law_1099 dL_law_1100 ?_
  refine lw_c2 C hM (As := [.int (xs (i + 1)), .int (xs (i + 2))]) (h' := 6) hl.1 yo_X13_drawn (by decide) qw_1913 qw_1914 qw_1915 (kX13_drawn (lE2_ok h2) (xs (i + 1)) (xs (i + 2)) rfl _ e2) rfl rfl rfl (Nat.le_of_ble_eq_true rfl) dL_law_1101 hf (fun H locs hM => ?_)
  exact lv_icmp_eq (tgt := 1321) hx hb dL_law_1104 (by decide) (fun _ => kk _ _ _ _ _ _ hI hM) (fun h => absurd rfl h)
set_option maxRecDepth 100000 in
theorem lc_31 {X1 X2 : XE} {X Y : MM} {P N : Nat} {w : Int64} {p : Program} {l : Launch} {e : Env} {s : State} {m : MethodId} {below : List Frame} {meth : Method} {c : Code} {H : Heap} {locs : List Loc} {cells slots : Nat} {Q : State → Prop} {b L i : Nat} {xs : Nat → Int32} {ls : Array Slot} (C : LwC X1 X2 p m c s b L xs) (hM : LwS X1 X2 s X Y w H locs) (hI : Inv X Y P N) (hi : i + 6 ≤ L) (hf : cells ≤ 601024 ∧ slots ≤ 7293034) (hl : lv_has ls 7 [(4, .int (nI i)), (0, .ref b), (1, .ref (X1.2.1 0)), (2, .ref (X2.2.1 0)), (3, .ref (s.heap.size + 226))])
    (kk : ∀ (H : Heap) (locs : List Loc) (X Y : MM) (P N : Nat), Inv X Y P N → LwS X1 X2 s X Y w H locs → W p l e room_1 s m #[Value.ref b] below meth c H locs cells slots Q (F0 m 1321 ls [])) : W p l e room_1 s m #[Value.ref b] below meth c H locs cells slots Q (F0 m 1109 ls []) := by
  have hx := C.1.1
  have hb := C.1.2.1
  have h1 : ∀ k, X1.2.1 k = X1.2.1 0 + k := fun k => by have := C.2.2.2.2.1 k; have := C.2.2.2.2.1 0; omega
  have h2 : ∀ k, X2.2.1 k = X2.2.1 0 + k := fun k => by have := C.2.2.2.2.2.1 k; have := C.2.2.2.2.2.1 0; omega
  obtain ⟨v, X', Y', e1, e2, P', N', hI⟩ := q_odds (i := xs (i + 1)) (n := xs (i + 2)) (x := xs (i + 3)) hI
  refine lv_aload_n hx hb dL_law_1109 rfl (lv_at hl 2 rfl) ?_
  refine lw_arg C hM (k := 1) (by omega) hl (by decide) dL_law_1110 dL_law_1111 dL_law_1113 dL_law_1114 dL_law_1115 ?_
  refine lw_arg C hM (k := 2) (by omega) hl (by decide) dL_law_1116 dL_law_1117 dL_law_1119 dL_law_1120 dL_law_1121 ?_
  refine lw_arg C hM (k := 3) (by omega) hl (by decide) dL_law_1122 dL_law_1123 dL_law_1125 dL_law_1126 dL_law_1127 ?_
  refine lw_c1 C hM (As := [.int (xs (i + 1)), .int (xs (i + 2)), .int (xs (i + 3))]) (h' := 5) hl.1 yo_X12_odds (by decide) qw_1082 qw_1083 qw_1084 (kX12_odds (lE1_ok h1) (xs (i + 1)) (xs (i + 2)) (xs (i + 3)) (lE1_x X1) _ e1) rfl rfl rfl (Nat.le_of_ble_eq_true rfl) dL_law_1128 hf (fun H locs hM => ?_)
  refine lv_aload_n hx hb dL_law_1131 rfl (lv_at hl 3 rfl) ?_
  refine lw_arg C hM (k := 1) (by omega) hl (by decide) dL_law_1132 dL_law_1133 dL_law_1135 dL_law_1136 dL_law_1137 ?_
  refine lw_arg C hM (k := 2) (by omega) hl (by decide) dL_law_1138 dL_law_1139 dL_law_1141 dL_law_1142 dL_law_1143 ?_
  refine lw_arg C hM (k := 3) (by omega) hl (by decide) dL_law_1144 dL_law_1145 dL_law_1147 dL_law_1148 dL_law_1149 ?_
  refine lw_c2 C hM (As := [.int (xs (i + 1)), .int (xs (i + 2)), .int (xs (i + 3))]) (h' := 6) hl.1 yo_X13_odds (by decide) qw_1930 qw_1931 qw_1932 (kX13_odds (lE2_ok h2) (xs (i + 1)) (xs (i + 2)) (xs (i + 3)) rfl _ e2) rfl rfl rfl (Nat.le_of_ble_eq_true rfl) dL_law_1150 hf (fun H locs hM => ?_)
  exact lv_icmp_eq (tgt := 1321) hx hb dL_law_1153 (by decide) (fun _ => kk _ _ _ _ _ _ hI hM) (fun h => absurd rfl h)
set_option maxRecDepth 100000 in
theorem lc_32 {X1 X2 : XE} {X Y : MM} {P N : Nat} {w : Int64} {p : Program} {l : Launch} {e : Env} {s : State} {m : MethodId} {below : List Frame} {meth : Method} {c : Code} {H : Heap} {locs : List Loc} {cells slots : Nat} {Q : State → Prop} {b L i : Nat} {xs : Nat → Int32} {ls : Array Slot} (C : LwC X1 X2 p m c s b L xs) (hM : LwS X1 X2 s X Y w H locs) (hI : Inv X Y P N) (hi : i + 6 ≤ L) (hf : cells ≤ 601024 ∧ slots ≤ 7293034) (hl : lv_has ls 7 [(4, .int (nI i)), (0, .ref b), (1, .ref (X1.2.1 0)), (2, .ref (X2.2.1 0)), (3, .ref (s.heap.size + 226))])
    (kk : ∀ (H : Heap) (locs : List Loc) (X Y : MM) (P N : Nat), Inv X Y P N → LwS X1 X2 s X Y w H locs → W p l e room_1 s m #[Value.ref b] below meth c H locs cells slots Q (F0 m 1321 ls [])) : W p l e room_1 s m #[Value.ref b] below meth c H locs cells slots Q (F0 m 1158 ls []) := by
  have hx := C.1.1
  have hb := C.1.2.1
  have h1 : ∀ k, X1.2.1 k = X1.2.1 0 + k := fun k => by have := C.2.2.2.2.1 k; have := C.2.2.2.2.1 0; omega
  have h2 : ∀ k, X2.2.1 k = X2.2.1 0 + k := fun k => by have := C.2.2.2.2.2.1 k; have := C.2.2.2.2.2.1 0; omega
  obtain ⟨v, X', Y', e1, e2, P', N', hI⟩ := q_book (i := xs (i + 1)) hI
  refine lv_aload_n hx hb dL_law_1158 rfl (lv_at hl 2 rfl) ?_
  refine lw_arg C hM (k := 1) (by omega) hl (by decide) dL_law_1159 dL_law_1160 dL_law_1162 dL_law_1163 dL_law_1164 ?_
  refine lw_c1 C hM (As := [.int (xs (i + 1))]) (h' := 7) hl.1 yo_X12_book (by decide) qw_1087 qw_1088 qw_1089 (kX12_book (lE1_ok h1) (xs (i + 1)) (lE1_x X1) _ e1) rfl rfl rfl (Nat.le_of_ble_eq_true rfl) dL_law_1165 hf (fun H locs hM => ?_)
  refine lv_aload_n hx hb dL_law_1168 rfl (lv_at hl 3 rfl) ?_
  refine lw_arg C hM (k := 1) (by omega) hl (by decide) dL_law_1169 dL_law_1170 dL_law_1172 dL_law_1173 dL_law_1174 ?_
  refine lw_c2 C hM (As := [.int (xs (i + 1))]) (h' := 5) hl.1 yo_X13_book (by decide) qw_1942 qw_1943 qw_1944 (kX13_book (lE2_ok h2) (xs (i + 1)) rfl _ e2) rfl rfl rfl (Nat.le_of_ble_eq_true rfl) dL_law_1175 hf (fun H locs hM => ?_)
  exact lv_icmp_eq (tgt := 1321) hx hb dL_law_1178 (by decide) (fun _ => kk _ _ _ _ _ _ hI hM) (fun h => absurd rfl h)
set_option maxRecDepth 100000 in
theorem lc_33 {X1 X2 : XE} {X Y : MM} {P N : Nat} {w : Int64} {p : Program} {l : Launch} {e : Env} {s : State} {m : MethodId} {below : List Frame} {meth : Method} {c : Code} {H : Heap} {locs : List Loc} {cells slots : Nat} {Q : State → Prop} {b L i : Nat} {xs : Nat → Int32} {ls : Array Slot} (C : LwC X1 X2 p m c s b L xs) (hM : LwS X1 X2 s X Y w H locs) (hI : Inv X Y P N) (hi : i + 6 ≤ L) (hf : cells ≤ 601024 ∧ slots ≤ 7293034) (hl : lv_has ls 7 [(4, .int (nI i)), (0, .ref b), (1, .ref (X1.2.1 0)), (2, .ref (X2.2.1 0)), (3, .ref (s.heap.size + 226))])
    (kk : ∀ (H : Heap) (locs : List Loc) (X Y : MM) (P N : Nat), Inv X Y P N → LwS X1 X2 s X Y w H locs → W p l e room_1 s m #[Value.ref b] below meth c H locs cells slots Q (F0 m 1321 ls [])) : W p l e room_1 s m #[Value.ref b] below meth c H locs cells slots Q (F0 m 1183 ls []) := by
  have hx := C.1.1
  have hb := C.1.2.1
  have h1 : ∀ k, X1.2.1 k = X1.2.1 0 + k := fun k => by have := C.2.2.2.2.1 k; have := C.2.2.2.2.1 0; omega
  have h2 : ∀ k, X2.2.1 k = X2.2.1 0 + k := fun k => by have := C.2.2.2.2.2.1 k; have := C.2.2.2.2.2.1 0; omega
  obtain ⟨v, Y', e1, e2, P', N', hI⟩ := q_told (i := xs (i + 1)) hI
  refine lv_aload_n hx hb dL_law_1183 rfl (lv_at hl 2 rfl) ?_
  refine lw_arg C hM (k := 1) (by omega) hl (by decide) dL_law_1184 dL_law_1185 dL_law_1187 dL_law_1188 dL_law_1189 ?_
  refine lw_c1 C hM (As := [.int (xs (i + 1))]) (h' := 0) hl.1 yo_X12_told (by decide) qw_1151 qw_1152 qw_1153 (kX12_told (lE1_ok h1) (xs (i + 1)) (lE1_x X1) _ e1) rfl rfl rfl (Nat.le_of_ble_eq_true rfl) dL_law_1190 hf (fun H locs hM => ?_)
  refine lv_aload_n hx hb dL_law_1193 rfl (lv_at hl 3 rfl) ?_
  refine lw_arg C hM (k := 1) (by omega) hl (by decide) dL_law_1194 dL_law_1195 dL_law_1197 dL_law_1198 dL_law_1199 ?_
  refine lw_c2 C hM (As := [.int (xs (i + 1))]) (h' := 1) hl.1 yo_X13_told (by decide) qw_1954 qw_1955 qw_1956 (kX13_told (lE2_ok h2) (xs (i + 1)) rfl _ e2) rfl rfl rfl (Nat.le_of_ble_eq_true rfl) dL_law_1200 hf (fun H locs hM => ?_)
  exact lv_icmp_eq (tgt := 1321) hx hb dL_law_1203 (by decide) (fun _ => kk _ _ _ _ _ _ hI hM) (fun h => absurd rfl h)
set_option maxRecDepth 100000 in
theorem lc_34 {X1 X2 : XE} {X Y : MM} {P N : Nat} {w : Int64} {p : Program} {l : Launch} {e : Env} {s : State} {m : MethodId} {below : List Frame} {meth : Method} {c : Code} {H : Heap} {locs : List Loc} {cells slots : Nat} {Q : State → Prop} {b L i : Nat} {xs : Nat → Int32} {ls : Array Slot} (C : LwC X1 X2 p m c s b L xs) (hM : LwS X1 X2 s X Y w H locs) (hI : Inv X Y P N) (hi : i + 6 ≤ L) (hf : cells ≤ 601024 ∧ slots ≤ 7293034) (hl : lv_has ls 7 [(4, .int (nI i)), (0, .ref b), (1, .ref (X1.2.1 0)), (2, .ref (X2.2.1 0)), (3, .ref (s.heap.size + 226))])
    (kk : ∀ (H : Heap) (locs : List Loc) (X Y : MM) (P N : Nat), Inv X Y P N → LwS X1 X2 s X Y w H locs → W p l e room_1 s m #[Value.ref b] below meth c H locs cells slots Q (F0 m 1321 ls [])) : W p l e room_1 s m #[Value.ref b] below meth c H locs cells slots Q (F0 m 1208 ls []) := by
  have hx := C.1.1
  have hb := C.1.2.1
  have h1 : ∀ k, X1.2.1 k = X1.2.1 0 + k := fun k => by have := C.2.2.2.2.1 k; have := C.2.2.2.2.1 0; omega
  have h2 : ∀ k, X2.2.1 k = X2.2.1 0 + k := fun k => by have := C.2.2.2.2.2.1 k; have := C.2.2.2.2.2.1 0; omega
  obtain ⟨v, X', Y', e1, e2, P', N', hI⟩ := q_sentence hI
  refine lv_aload_n hx hb dL_law_1208 rfl (lv_at hl 2 rfl) ?_
  refine lw_c1 C hM (As := []) (h' := 77) hl.1 yo_X12_sentence (by decide) qw_1155 qw_1156 qw_1157 (kX12_sentence (lE1_ok h1) (lE1_x X1) _ e1) rfl rfl rfl (Nat.le_of_ble_eq_true rfl) dL_law_1209 hf (fun H locs hM => ?_)
  refine lv_aload_n hx hb dL_law_1212 rfl (lv_at hl 3 rfl) ?_
  refine lw_c2 C hM (As := []) (h' := 3) hl.1 yo_X13_sentence (by decide) qw_1958 qw_1959 qw_1960 (kX13_sentence (lE2_ok h2) rfl _ e2) rfl rfl rfl (Nat.le_of_ble_eq_true rfl) dL_law_1213 hf (fun H locs hM => ?_)
  exact lv_icmp_eq (tgt := 1321) hx hb dL_law_1216 (by decide) (fun _ => kk _ _ _ _ _ _ hI hM) (fun h => absurd rfl h)
set_option maxRecDepth 100000 in
theorem lc_35 {X1 X2 : XE} {X Y : MM} {P N : Nat} {w : Int64} {p : Program} {l : Launch} {e : Env} {s : State} {m : MethodId} {below : List Frame} {meth : Method} {c : Code} {H : Heap} {locs : List Loc} {cells slots : Nat} {Q : State → Prop} {b L i : Nat} {xs : Nat → Int32} {ls : Array Slot} (C : LwC X1 X2 p m c s b L xs) (hM : LwS X1 X2 s X Y w H locs) (hI : Inv X Y P N) (hi : i + 6 ≤ L) (hf : cells ≤ 601024 ∧ slots ≤ 7293034) (hl : lv_has ls 7 [(4, .int (nI i)), (0, .ref b), (1, .ref (X1.2.1 0)), (2, .ref (X2.2.1 0)), (3, .ref (s.heap.size + 226))])
    (kk : ∀ (H : Heap) (locs : List Loc) (X Y : MM) (P N : Nat), Inv X Y P N → LwS X1 X2 s X Y w H locs → W p l e room_1 s m #[Value.ref b] below meth c H locs cells slots Q (F0 m 1321 ls [])) : W p l e room_1 s m #[Value.ref b] below meth c H locs cells slots Q (F0 m 1221 ls []) := by
  have hx := C.1.1
  have hb := C.1.2.1
  have h1 : ∀ k, X1.2.1 k = X1.2.1 0 + k := fun k => by have := C.2.2.2.2.1 k; have := C.2.2.2.2.1 0; omega
  have h2 : ∀ k, X2.2.1 k = X2.2.1 0 + k := fun k => by have := C.2.2.2.2.2.1 k; have := C.2.2.2.2.2.1 0; omega
  obtain ⟨v, Y', e1, e2, P', N', hI⟩ := q_said (i := xs (i + 1)) hI
  refine lv_aload_n hx hb dL_law_1221 rfl (lv_at hl 2 rfl) ?_
  refine lw_arg C hM (k := 1) (by omega) hl (by decide) dL_law_1222 dL_law_1223 dL_law_1225 dL_law_1226 dL_law_1227 ?_
  refine lw_c1 C hM (As := [.int (xs (i + 1))]) (h' := 5) hl.1 yo_X12_said (by decide) qw_1218 qw_1219 qw_1220 (kX12_said (lE1_ok h1) (xs (i + 1)) (lE1_x X1) _ e1) rfl rfl rfl (Nat.le_of_ble_eq_true rfl) dL_law_1228 hf (fun H locs hM => ?_)
  refine lv_aload_n hx hb dL_law_1231 rfl (lv_at hl 3 rfl) ?_
  refine lw_arg C hM (k := 1) (by omega) hl (by decide) dL_law_1232 dL_law_1233 dL_law_1235 dL_law_1236 dL_law_1237 ?_
  refine lw_c2 C hM (As := [.int (xs (i + 1))]) (h' := 5) hl.1 yo_X13_said (by decide) qw_1986 qw_1987 qw_1988 (kX13_said (lE2_ok h2) (xs (i + 1)) rfl _ e2) rfl rfl rfl (Nat.le_of_ble_eq_true rfl) dL_law_1238 hf (fun H locs hM => ?_)
  exact lv_icmp_eq (tgt := 1321) hx hb dL_law_1241 (by decide) (fun _ => kk _ _ _ _ _ _ hI hM) (fun h => absurd rfl h)
set_option maxRecDepth 100000 in
theorem lc_36 {X1 X2 : XE} {X Y : MM} {P N : Nat} {w : Int64} {p : Program} {l : Launch} {e : Env} {s : State} {m : MethodId} {below : List Frame} {meth : Method} {c : Code} {H : Heap} {locs : List Loc} {cells slots : Nat} {Q : State → Prop} {b L i : Nat} {xs : Nat → Int32} {ls : Array Slot} (C : LwC X1 X2 p m c s b L xs) (hM : LwS X1 X2 s X Y w H locs) (hI : Inv X Y P N) (hi : i + 6 ≤ L) (hf : cells ≤ 601024 ∧ slots ≤ 7293034) (hl : lv_has ls 7 [(4, .int (nI i)), (0, .ref b), (1, .ref (X1.2.1 0)), (2, .ref (X2.2.1 0)), (3, .ref (s.heap.size + 226))])
    (kk : ∀ (H : Heap) (locs : List Loc) (X Y : MM) (P N : Nat), Inv X Y P N → LwS X1 X2 s X Y w H locs → W p l e room_1 s m #[Value.ref b] below meth c H locs cells slots Q (F0 m 1321 ls [])) : W p l e room_1 s m #[Value.ref b] below meth c H locs cells slots Q (F0 m 1246 ls []) := by
  have hx := C.1.1
  have hb := C.1.2.1
  have h1 : ∀ k, X1.2.1 k = X1.2.1 0 + k := fun k => by have := C.2.2.2.2.1 k; have := C.2.2.2.2.1 0; omega
  have h2 : ∀ k, X2.2.1 k = X2.2.1 0 + k := fun k => by have := C.2.2.2.2.2.1 k; have := C.2.2.2.2.2.1 0; omega
  obtain ⟨v, X', Y', e1, e2, P', N', hI⟩ := q_image (i := xs (i + 1)) hI
  refine lv_aload_n hx hb dL_law_1246 rfl (lv_at hl 2 rfl) ?_
  refine lw_arg C hM (k := 1) (by omega) hl (by decide) dL_law_1247 dL_law_1248 dL_law_1250 dL_law_1251 dL_law_1252 ?_
  refine lw_c1 C hM (As := [.int (xs (i + 1))]) (h' := 2) hl.1 yo_X12_image (by decide) qw_1251 qw_1252 qw_1253 (kX12_image (lE1_ok h1) (xs (i + 1)) (lE1_x X1) _ e1) rfl rfl rfl (Nat.le_of_ble_eq_true rfl) dL_law_1253 hf (fun H locs hM => ?_)
  refine lv_aload_n hx hb dL_law_1256 rfl (lv_at hl 3 rfl) ?_
  refine lw_arg C hM (k := 1) (by omega) hl (by decide) dL_law_1257 dL_law_1258 dL_law_1260 dL_law_1261 dL_law_1262 ?_
  refine lw_c2 C hM (As := [.int (xs (i + 1))]) (h' := 1) hl.1 yo_X13_image (by decide) qw_2002 qw_2003 qw_2004 (kX13_image (lE2_ok h2) (xs (i + 1)) rfl _ e2) rfl rfl rfl (Nat.le_of_ble_eq_true rfl) dL_law_1263 hf (fun H locs hM => ?_)
  exact lv_icmp_eq (tgt := 1321) hx hb dL_law_1266 (by decide) (fun _ => kk _ _ _ _ _ _ hI hM) (fun h => absurd rfl h)
set_option maxRecDepth 100000 in
theorem lc_37 {X1 X2 : XE} {X Y : MM} {P N : Nat} {w : Int64} {p : Program} {l : Launch} {e : Env} {s : State} {m : MethodId} {below : List Frame} {meth : Method} {c : Code} {H : Heap} {locs : List Loc} {cells slots : Nat} {Q : State → Prop} {b L i : Nat} {xs : Nat → Int32} {ls : Array Slot} (C : LwC X1 X2 p m c s b L xs) (hM : LwS X1 X2 s X Y w H locs) (hI : Inv X Y P N) (hi : i + 6 ≤ L) (hf : cells ≤ 601024 ∧ slots ≤ 7293034) (hl : lv_has ls 7 [(4, .int (nI i)), (0, .ref b), (1, .ref (X1.2.1 0)), (2, .ref (X2.2.1 0)), (3, .ref (s.heap.size + 226))])
    (kk : ∀ (H : Heap) (locs : List Loc) (X Y : MM) (P N : Nat), Inv X Y P N → LwS X1 X2 s X Y w H locs → W p l e room_1 s m #[Value.ref b] below meth c H locs cells slots Q (F0 m 1321 ls [])) : W p l e room_1 s m #[Value.ref b] below meth c H locs cells slots Q (F0 m 1271 ls []) := by
  have hx := C.1.1
  have hb := C.1.2.1
  have h1 : ∀ k, X1.2.1 k = X1.2.1 0 + k := fun k => by have := C.2.2.2.2.1 k; have := C.2.2.2.2.1 0; omega
  have h2 : ∀ k, X2.2.1 k = X2.2.1 0 + k := fun k => by have := C.2.2.2.2.2.1 k; have := C.2.2.2.2.2.1 0; omega
  obtain ⟨v, X', Y', e1, e2, P', N', hI⟩ := q_restore (i := xs (i + 1)) hI
  refine lv_aload_n hx hb dL_law_1271 rfl (lv_at hl 2 rfl) ?_
  refine lw_arg C hM (k := 1) (by omega) hl (by decide) dL_law_1272 dL_law_1273 dL_law_1275 dL_law_1276 dL_law_1277 ?_
  refine lw_c1 C hM (As := [.int (xs (i + 1))]) (h' := 2) hl.1 yo_X12_restore (by decide) qw_1255 qw_1256 qw_1257 (kX12_restore (lE1_ok h1) (xs (i + 1)) (lE1_x X1) _ e1) rfl rfl rfl (Nat.le_of_ble_eq_true rfl) dL_law_1278 hf (fun H locs hM => ?_)
  refine lv_aload_n hx hb dL_law_1281 rfl (lv_at hl 3 rfl) ?_
  refine lw_arg C hM (k := 1) (by omega) hl (by decide) dL_law_1282 dL_law_1283 dL_law_1285 dL_law_1286 dL_law_1287 ?_
  refine lw_c2 C hM (As := [.int (xs (i + 1))]) (h' := 1) hl.1 yo_X13_restore (by decide) qw_2006 qw_2007 qw_2008 (kX13_restore (lE2_ok h2) (xs (i + 1)) rfl _ e2) rfl rfl rfl (Nat.le_of_ble_eq_true rfl) dL_law_1288 hf (fun H locs hM => ?_)
  exact lv_icmp_eq (tgt := 1321) hx hb dL_law_1291 (by decide) (fun _ => kk _ _ _ _ _ _ hI hM) (fun h => absurd rfl h)
set_option maxRecDepth 100000 in
theorem lc_38 {X1 X2 : XE} {X Y : MM} {P N : Nat} {w : Int64} {p : Program} {l : Launch} {e : Env} {s : State} {m : MethodId} {below : List Frame} {meth : Method} {c : Code} {H : Heap} {locs : List Loc} {cells slots : Nat} {Q : State → Prop} {b L i : Nat} {xs : Nat → Int32} {ls : Array Slot} (C : LwC X1 X2 p m c s b L xs) (hM : LwS X1 X2 s X Y w H locs) (hI : Inv X Y P N) (hi : i + 6 ≤ L) (hf : cells ≤ 601024 ∧ slots ≤ 7293034) (hl : lv_has ls 7 [(4, .int (nI i)), (0, .ref b), (1, .ref (X1.2.1 0)), (2, .ref (X2.2.1 0)), (3, .ref (s.heap.size + 226))])
    (kk : ∀ (H : Heap) (locs : List Loc) (X Y : MM) (P N : Nat), Inv X Y P N → LwS X1 X2 s X Y w H locs → W p l e room_1 s m #[Value.ref b] below meth c H locs cells slots Q (F0 m 1321 ls [])) : W p l e room_1 s m #[Value.ref b] below meth c H locs cells slots Q (F0 m 1296 ls []) := by
  have hx := C.1.1
  have hb := C.1.2.1
  have h1 : ∀ k, X1.2.1 k = X1.2.1 0 + k := fun k => by have := C.2.2.2.2.1 k; have := C.2.2.2.2.1 0; omega
  have h2 : ∀ k, X2.2.1 k = X2.2.1 0 + k := fun k => by have := C.2.2.2.2.2.1 k; have := C.2.2.2.2.2.1 0; omega
  obtain ⟨v, Y', e1, e2, P', N', hI⟩ := q_count (i := xs (i + 1)) hI
  refine lv_aload_n hx hb dL_law_1296 rfl (lv_at hl 2 rfl) ?_
  refine lw_arg C hM (k := 1) (by omega) hl (by decide) dL_law_1297 dL_law_1298 dL_law_1300 dL_law_1301 dL_law_1302 ?_
  refine lw_c1 C hM (As := [.int (xs (i + 1))]) (h' := 0) hl.1 yo_X12_count (by decide) qw_1259 qw_1260 qw_1261 (kX12_count (lE1_ok h1) (xs (i + 1)) (lE1_x X1) _ e1) rfl rfl rfl (Nat.le_of_ble_eq_true rfl) dL_law_1303 hf (fun H locs hM => ?_)
  refine lv_aload_n hx hb dL_law_1306 rfl (lv_at hl 3 rfl) ?_
  refine lw_arg C hM (k := 1) (by omega) hl (by decide) dL_law_1307 dL_law_1308 dL_law_1310 dL_law_1311 dL_law_1312 ?_
  refine lw_c2 C hM (As := [.int (xs (i + 1))]) (h' := 1) hl.1 yo_X13_count (by decide) qw_2010 qw_2011 qw_2012 (kX13_count (lE2_ok h2) (xs (i + 1)) rfl _ e2) rfl rfl rfl (Nat.le_of_ble_eq_true rfl) dL_law_1313 hf (fun H locs hM => ?_)
  exact lv_icmp_eq (tgt := 1321) hx hb dL_law_1316 (by decide) (fun _ => kk _ _ _ _ _ _ hI hM) (fun h => absurd rfl h)
