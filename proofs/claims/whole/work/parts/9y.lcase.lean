/-! the law: person and ring -/
theorem qw_1344 : (Jvm.Cond.methodLink "RingKeepersLaw" (47 : Nat) ({ cls := "RingKeepersModel", name := "thrown", desc := "()I" } : Jvm.MethodName)) ∈ mx_wall := mx_w 1528 (by decide +kernel) (by decide +kernel)
theorem qw_1642 : (Jvm.Cond.methodLink "RingKeepersLaw" (46 : Nat) ({ cls := "RingKeepersModel", name := "person", desc := "(II)I" } : Jvm.MethodName)) ∈ mx_wall := mx_w 1826 (by decide +kernel) (by decide +kernel)
theorem qw_1670 : (Jvm.Cond.methodLink "RingKeepersLaw" (52 : Nat) ({ cls := "RingKeepersModel", name := "ring", desc := "(II)I" } : Jvm.MethodName)) ∈ mx_wall := mx_w 1854 (by decide +kernel) (by decide +kernel)
theorem dL_law_336 : decode cL_law 336 = .ok (.aload_n 1, 1) := by decide +kernel
theorem dL_law_337 : decode cL_law 337 = .ok (.aload_n 0, 1) := by decide +kernel
theorem dL_law_338 : decode cL_law 338 = .ok (.iload 4, 2) := by decide +kernel
theorem dL_law_340 : decode cL_law 340 = .ok (.iconst 1, 1) := by decide +kernel
theorem dL_law_341 : decode cL_law 341 = .ok (.iadd, 1) := by decide +kernel
theorem dL_law_342 : decode cL_law 342 = .ok (.iaload, 1) := by decide +kernel
theorem dL_law_343 : decode cL_law 343 = .ok (.aload_n 0, 1) := by decide +kernel
theorem dL_law_344 : decode cL_law 344 = .ok (.iload 4, 2) := by decide +kernel
theorem dL_law_346 : decode cL_law 346 = .ok (.iconst 2, 1) := by decide +kernel
theorem dL_law_347 : decode cL_law 347 = .ok (.iadd, 1) := by decide +kernel
theorem dL_law_348 : decode cL_law 348 = .ok (.iaload, 1) := by decide +kernel
theorem dL_law_349 : decode cL_law 349 = .ok (.aload_n 3, 1) := by decide +kernel
theorem dL_law_350 : decode cL_law 350 = .ok (.invokestatic 41, 3) := by decide +kernel
theorem dL_law_353 : decode cL_law 353 = .ok (.istore 5, 2) := by decide +kernel
theorem dL_law_355 : decode cL_law 355 = .ok (.aload_n 2, 1) := by decide +kernel
theorem dL_law_356 : decode cL_law 356 = .ok (.aload_n 0, 1) := by decide +kernel
theorem dL_law_357 : decode cL_law 357 = .ok (.iload 4, 2) := by decide +kernel
theorem dL_law_359 : decode cL_law 359 = .ok (.iconst 1, 1) := by decide +kernel
theorem dL_law_360 : decode cL_law 360 = .ok (.iadd, 1) := by decide +kernel
theorem dL_law_361 : decode cL_law 361 = .ok (.iaload, 1) := by decide +kernel
theorem dL_law_362 : decode cL_law 362 = .ok (.aload_n 0, 1) := by decide +kernel
theorem dL_law_363 : decode cL_law 363 = .ok (.iload 4, 2) := by decide +kernel
theorem dL_law_365 : decode cL_law 365 = .ok (.iconst 2, 1) := by decide +kernel
theorem dL_law_366 : decode cL_law 366 = .ok (.iadd, 1) := by decide +kernel
theorem dL_law_367 : decode cL_law 367 = .ok (.iaload, 1) := by decide +kernel
theorem dL_law_368 : decode cL_law 368 = .ok (.invokevirtual 46, 3) := by decide +kernel
theorem dL_law_371 : decode cL_law 371 = .ok (.istore 6, 2) := by decide +kernel
theorem dL_law_373 : decode cL_law 373 = .ok (.aload_n 2, 1) := by decide +kernel
theorem dL_law_374 : decode cL_law 374 = .ok (.invokevirtual 47, 3) := by decide +kernel
theorem dL_law_377 : decode cL_law 377 = .ok (.iload 5, 2) := by decide +kernel
theorem dL_law_379 : decode cL_law 379 = .ok (.if_icmp .eq 5, 3) := by decide +kernel
theorem dL_law_382 : decode cL_law 382 = .ok (.iconst 0, 1) := by decide +kernel
theorem dL_law_383 : decode cL_law 383 = .ok (.ireturn, 1) := by decide +kernel
theorem dL_law_384 : decode cL_law 384 = .ok (.iload 5, 2) := by decide +kernel
theorem dL_law_386 : decode cL_law 386 = .ok (.ifCond .ne 15, 3) := by decide +kernel
theorem dL_law_389 : decode cL_law 389 = .ok (.aload_n 3, 1) := by decide +kernel
theorem dL_law_390 : decode cL_law 390 = .ok (.iconst 0, 1) := by decide +kernel
theorem dL_law_391 : decode cL_law 391 = .ok (.laload, 1) := by decide +kernel
theorem dL_law_392 : decode cL_law 392 = .ok (.iload 6, 2) := by decide +kernel
theorem dL_law_394 : decode cL_law 394 = .ok (.i2l, 1) := by decide +kernel
theorem dL_law_395 : decode cL_law 395 = .ok (.lcmp, 1) := by decide +kernel
theorem dL_law_396 : decode cL_law 396 = .ok (.ifCond .eq 5, 3) := by decide +kernel
theorem dL_law_399 : decode cL_law 399 = .ok (.iconst 0, 1) := by decide +kernel
theorem dL_law_400 : decode cL_law 400 = .ok (.ireturn, 1) := by decide +kernel
theorem dL_law_401 : decode cL_law 401 = .ok (.goto 920, 3) := by decide +kernel
theorem dL_law_404 : decode cL_law 404 = .ok (.aload_n 1, 1) := by decide +kernel
theorem dL_law_405 : decode cL_law 405 = .ok (.aload_n 0, 1) := by decide +kernel
theorem dL_law_406 : decode cL_law 406 = .ok (.iload 4, 2) := by decide +kernel
theorem dL_law_408 : decode cL_law 408 = .ok (.iconst 1, 1) := by decide +kernel
theorem dL_law_409 : decode cL_law 409 = .ok (.iadd, 1) := by decide +kernel
theorem dL_law_410 : decode cL_law 410 = .ok (.iaload, 1) := by decide +kernel
theorem dL_law_411 : decode cL_law 411 = .ok (.aload_n 0, 1) := by decide +kernel
theorem dL_law_412 : decode cL_law 412 = .ok (.iload 4, 2) := by decide +kernel
theorem dL_law_414 : decode cL_law 414 = .ok (.iconst 2, 1) := by decide +kernel
theorem dL_law_415 : decode cL_law 415 = .ok (.iadd, 1) := by decide +kernel
theorem dL_law_416 : decode cL_law 416 = .ok (.iaload, 1) := by decide +kernel
theorem dL_law_417 : decode cL_law 417 = .ok (.aload_n 3, 1) := by decide +kernel
theorem dL_law_418 : decode cL_law 418 = .ok (.invokestatic 50, 3) := by decide +kernel
theorem dL_law_421 : decode cL_law 421 = .ok (.istore 5, 2) := by decide +kernel
theorem dL_law_423 : decode cL_law 423 = .ok (.aload_n 2, 1) := by decide +kernel
theorem dL_law_424 : decode cL_law 424 = .ok (.aload_n 0, 1) := by decide +kernel
theorem dL_law_425 : decode cL_law 425 = .ok (.iload 4, 2) := by decide +kernel
theorem dL_law_427 : decode cL_law 427 = .ok (.iconst 1, 1) := by decide +kernel
theorem dL_law_428 : decode cL_law 428 = .ok (.iadd, 1) := by decide +kernel
theorem dL_law_429 : decode cL_law 429 = .ok (.iaload, 1) := by decide +kernel
theorem dL_law_430 : decode cL_law 430 = .ok (.aload_n 0, 1) := by decide +kernel
theorem dL_law_431 : decode cL_law 431 = .ok (.iload 4, 2) := by decide +kernel
theorem dL_law_433 : decode cL_law 433 = .ok (.iconst 2, 1) := by decide +kernel
theorem dL_law_434 : decode cL_law 434 = .ok (.iadd, 1) := by decide +kernel
theorem dL_law_435 : decode cL_law 435 = .ok (.iaload, 1) := by decide +kernel
theorem dL_law_436 : decode cL_law 436 = .ok (.invokevirtual 52, 3) := by decide +kernel
theorem dL_law_439 : decode cL_law 439 = .ok (.istore 6, 2) := by decide +kernel
theorem dL_law_441 : decode cL_law 441 = .ok (.aload_n 2, 1) := by decide +kernel
theorem dL_law_442 : decode cL_law 442 = .ok (.invokevirtual 47, 3) := by decide +kernel
theorem dL_law_445 : decode cL_law 445 = .ok (.iload 5, 2) := by decide +kernel
theorem dL_law_447 : decode cL_law 447 = .ok (.if_icmp .eq 5, 3) := by decide +kernel
theorem dL_law_450 : decode cL_law 450 = .ok (.iconst 0, 1) := by decide +kernel
theorem dL_law_451 : decode cL_law 451 = .ok (.ireturn, 1) := by decide +kernel
theorem dL_law_452 : decode cL_law 452 = .ok (.iload 5, 2) := by decide +kernel
theorem dL_law_454 : decode cL_law 454 = .ok (.ifCond .ne 15, 3) := by decide +kernel
theorem dL_law_457 : decode cL_law 457 = .ok (.aload_n 3, 1) := by decide +kernel
theorem dL_law_458 : decode cL_law 458 = .ok (.iconst 0, 1) := by decide +kernel
theorem dL_law_459 : decode cL_law 459 = .ok (.laload, 1) := by decide +kernel
theorem dL_law_460 : decode cL_law 460 = .ok (.iload 6, 2) := by decide +kernel
theorem dL_law_462 : decode cL_law 462 = .ok (.i2l, 1) := by decide +kernel
theorem dL_law_463 : decode cL_law 463 = .ok (.lcmp, 1) := by decide +kernel
theorem dL_law_464 : decode cL_law 464 = .ok (.ifCond .eq 5, 3) := by decide +kernel
theorem dL_law_467 : decode cL_law 467 = .ok (.iconst 0, 1) := by decide +kernel
theorem dL_law_468 : decode cL_law 468 = .ok (.ireturn, 1) := by decide +kernel
theorem dL_law_469 : decode cL_law 469 = .ok (.goto 852, 3) := by decide +kernel
theorem mx_goodL {L : List Cond} (h : ∀ w ∈ L, w ∈ mx_wall) : GoodIn mx_wall L := fun w hw => ⟨h w hw, good_of_word (List.mem_filter.mp (h w hw)).2⟩
def sw_ok (y : MethodName) (yc : ByteArray) (ix : Nat) : Prop := Cond.codeWith y yc 5 (some .int) [(0, 10, 13, 13)] ∈ mx_wall ∧ Cond.methodLink R_law ix y ∈ mx_wall ∧ Cond.static y ∈ mx_wall ∧ Cond.initialized y.cls ∈ mx_wall ∧ (y.cls ≠ "java/lang/invoke/MethodHandle" ∧ y.cls ≠ "java/lang/invoke/VarHandle" ∧ (parseMethodDescriptor y.desc).map (fun d => d.parameters.length) = some 4)
theorem sw_person : sw_ok yL_person cL_person 41 := ⟨cw_L_person, mx_w 1447 (by decide +kernel) (by decide +kernel), mx_w 1448 (by decide +kernel) (by decide +kernel), mx_w 184 (by decide +kernel) (by decide +kernel), by decide +kernel⟩
theorem sw_ring : sw_ok yL_ring cL_ring 50 := ⟨cw_L_ring, mx_w 1519 (by decide +kernel) (by decide +kernel), mx_w 1520 (by decide +kernel) (by decide +kernel), mx_w 184 (by decide +kernel) (by decide +kernel), by decide +kernel⟩
theorem s_out1 {X : XE} {o : Nat} {w : Int64} {H : Heap} (h : H[o]? = some (vp_cell (X.2.2.2 2) (1, .inr (.inl (fun _ => w))))) : va_P X.1 mx_cl [sO X o w] H := by
  intro k q hq
  have hz : k < 1 := (List.getElem?_eq_some_iff.mp hq).1
  rw [show k = 0 by omega] at hq
  cases hq
  exact h
theorem lg_cmp_self (x : Int64) : lg_cmp x x = 0 := by simp [lg_cmp]
theorem lw_stat {X1 X2 : XE} {M1 M2 : MM} {w w' : Int64} {p : Program} {l : Launch} {e : Env} {s : State} {m : MethodId} {below : List Frame} {meth : Method} {c : Code} {H : Heap} {locs : List Loc} {cells slots : Nat} {Q : State → Prop} {pc b L ix : Nat} {xs : Nat → Int32} {ls : Array Slot} {y : MethodName} {yc : ByteArray} {i1 i2 r : Int32} {st0 : List Value} (C : LwC X1 X2 p m c s b L xs) (hV : vxG (lE1 X1) s) (hM : LwS X1 X2 s M1 M2 w H locs) (hl : ls.size = 7) (hix : ix < 100) (Y : sw_ok y yc ix)
    (hS : vx_Met l y (Cond.codeWith y yc 5 (some .int) [(0, 10, 13, 13)] :: mx_wall) (cw_rm 20 1 6) (va_Pc [.ref (X1.2.1 0), .int i1, .int i2, .ref (s.heap.size + 226)] (sPre X1 M1 w (s.heap.size + 226))) (sQ X1 M1 w' (s.heap.size + 226) r) (fun _ _ _ => False) 1 6 (sAf X1 (s.heap.size + 226)))
    (hst : st0 = [.ref (s.heap.size + 226), .int i2, .int i1, .ref (X1.2.1 0)]) (hz : 0 = 0) (hdg : decode code pc = .ok (.invokestatic ix, 3)) (hf : cells + 1 ≤ 601024 ∧ slots + 6 ≤ 7293034)
    (kk : ∀ (H : Heap) (locs : List Loc), LwS X1 X2 s M1 M2 w' H locs → W p l e room_1 s m #[Value.ref b] below meth c H locs (cells + 1) (slots + 6) Q (F0 m (pc + 3) ls [.int r])) : W p l e room_1 s m #[Value.ref b] below meth c H locs cells slots Q (F0 m pc ls st0) := by
  obtain ⟨S, hK1, hK2, hG, hx1, hx2, -, -, -⟩ := C
  obtain ⟨hP1, hP2, hO, hSS⟩ := hM
  have hx : ∀ k, X1.2.1 k = X1.2.1 0 + k := fun k => by have := hx1 k; have := hx1 0; omega
  have hts := S.2.2.2.2
  obtain ⟨y1, y2, y3, y4, y5⟩ := Y
  have hrun := vx_runSX (H := H) (locs := locs) (cells := cells) (slots := slots) (below := below) (meth := meth) (e := e) (rest := []) (g := F0 m pc ls st0) (R := room_1) (As := [.ref (X1.2.1 0), .int i1, .int i2, .ref (s.heap.size + 226)]) S hS (vx_cwSW 4 hts (mx_goodL (fun w hw => by
    rcases List.mem_append.mp hw with h | h
    · simp only [List.mem_cons, List.not_mem_nil, or_false] at h
      rcases h with rfl | rfl | rfl
      · exact y2
      · exact y3
      · exact y4
    · rcases List.mem_cons.mp h with rfl | h
      · exact y1
      · exact h)) rfl rfl rfl y5 (by decide)) ⟨s_blind hx, fun U hU hW => ⟨rfl, ⟨by rw [hU]; exact hP1, va_K.moved hW.alike hK1, (Et_ok hx).2 s U hW (by rw [hU]; exact hSS.1) (fun q h1 _ => by rw [hU]; exact hSS.2.1 q h1 (by omega)) ⟨hG, hV⟩⟩, by rw [hU]; exact hO⟩⟩ rfl rfl hl hst (lv_room (by decide)) hdg hf
  intro T hT Z
  rcases hrun T hT Z with ⟨v, st₀, t, T', LL, h0, X', hL, e1, e2, ⟨hv, hp, ho, hzz, hk⟩, st⟩ | ⟨q, st₀, t, T', LL, E, ce, h0, X', hL, e1, e2, hF, -⟩
  · cases hv
    rw [h0] at hzz hk
    have h10 := hx1 0
    have hA : ∀ q, sAf X1 (s.heap.size + 226) q → s.heap.size ≤ q := fun q h => by
      rcases h with h | h
      · have : X1.2.1 0 ≤ q := h.1
        omega
      · omega
    obtain ⟨t2, a1, b1⟩ := kk T'.heap (locs ++ LL) ⟨by rw [e1]; exact hp, by
      rw [e1]
      refine hP2.kept (fun k q hq => hk q.1 ((hP2 k q hq).lt) ?_)
      have g1 := mx_wsat hq
      have g2 := hx2 k
      have g3 : mt.length = 22 := rfl
      rw [g1.1]
      intro h3
      rcases h3 with h3 | h3
      · have : X1.2.1 0 ≤ X2.2.1 k ∧ X2.2.1 k < X1.2.1 0 + 204 := h3
        omega
      · omega, by rw [e1]; exact ho, ⟨Nat.le_trans hSS.1 (by rw [e1]; exact hzz), fun q g1 g2 => by rw [e1, hk q (Nat.lt_of_lt_of_le g1 hSS.1) (fun h => g2 (hA q h))]; exact hSS.2.1 q g1 g2, fun q hq => by
      rcases List.mem_append.mp hq with h | h
      · exact hSS.2.2 q h
      · exact hA _ (hL q h)⟩⟩ T' rfl X'
    exact ⟨t2, st t2 a1, b1⟩
  · exact hF.elim
set_option maxRecDepth 100000 in
theorem lcs_person {X1 X2 : XE} {p : Program} {l : Launch} {e : Env} {s : State} {m : MethodId} {below : List Frame} {meth : Method} {c : Code} {b L : Nat} {xs : Nat → Int32} {Q : State → Prop} (hst : l.stackTraces = false) (C : LwC X1 X2 p m c s b L xs) (hV : vxG (lE1 X1) s) : LwCase X1 X2 p l e s m below meth c b L Q 336 := by
  intro i H locs ls X Y P N w cells slots hM hI hi hf hl kk
  have hx := C.1.1
  have hb := C.1.2.1
  have h1 : ∀ k, X1.2.1 k = X1.2.1 0 + k := fun k => by have := C.2.2.2.2.1 k; have := C.2.2.2.2.1 0; omega
  have h2 : ∀ k, X2.2.1 k = X2.2.1 0 + k := fun k => by have := C.2.2.2.2.2.1 k; have := C.2.2.2.2.2.1 0; omega
  have ho : ¬ lA X1 204 (s.heap.size + 226) := fun h => by have h3 : X1.2.1 0 ≤ s.heap.size + 226 ∧ s.heap.size + 226 < X1.2.1 0 + 204 := h; have := C.2.2.2.2.1 0; omega
  have key : ∃ (r : Int32) (v : Int32) (w' : Int64) (Y' : MM), vx_Met l yL_person (Cond.codeWith yL_person cL_person 5 (some .int) [(0, 10, 13, 13)] :: mx_wall) (cw_rm 20 1 6) (va_Pc [.ref (X1.2.1 0), .int (xs (i + 1)), .int (xs (i + 2)), .ref (s.heap.size + 226)] (sPre X1 X w (s.heap.size + 226))) (sQ X1 X w' (s.heap.size + 226) r) (fun _ _ _ => False) 1 6 (sAf X1 (s.heap.size + 226)) ∧ fX13_person (xs (i + 1)) (xs (i + 2)) Y = some (v, Y') ∧ fX13_thrown Y' = some r ∧ Inv X Y' P N ∧ (¬ r = 0 ∨ w' = v.toInt64) := by
    rcases q_person (a := xs (i + 1)) (b := xs (i + 2)) hI with ⟨v, e1, e2⟩ | ⟨e1, e2⟩
    · exact ⟨0, v, v.toInt64, _, sA_person h1 ho _ _ X w e1, e2, by rw [fX13_thrown, mx_si_eq]; rfl, hI.th, Or.inr rfl⟩
    · exact ⟨1, 0, w, _, sB_person hst h1 ho _ _ X w e1, e2, by rw [fX13_thrown, mx_si_eq]; rfl, hI.th, Or.inl (by decide)⟩
  obtain ⟨r, v, w', Y', hS, e2, e3, hI', hw⟩ := key
  refine lv_aload_n hx hb dL_law_336 rfl (lv_at hl 2 rfl) ?_
  refine lw_arg C hM (k := 1) (by omega) hl (by decide) dL_law_337 dL_law_338 dL_law_340 dL_law_341 dL_law_342 ?_
  refine lw_arg C hM (k := 2) (by omega) hl (by decide) dL_law_343 dL_law_344 dL_law_346 dL_law_347 dL_law_348 ?_
  refine lv_aload_n hx hb dL_law_349 rfl (lv_at hl 4 rfl) ?_
  refine lw_stat (y := yL_person) C hV hM hl.1 (by decide) sw_person hS rfl rfl dL_law_350 hf (fun H locs hM => ?_)
  refine lv_istore (lv' := [(5, .int r), (4, .int (nI i)), (0, .ref b), (1, .ref (X1.2.1 0)), (2, .ref (X2.2.1 0)), (3, .ref (s.heap.size + 226))]) hx hb dL_law_353 hl (by decide) rfl (fun ls hl => ?_)
  have hlA := lv_sub hl [1, 2, 3, 4, 5, 0] rfl
  refine lv_aload_n hx hb dL_law_355 rfl (lv_at hl 4 rfl) ?_
  refine lw_arg C hM (k := 1) (by omega) hlA (by decide) dL_law_356 dL_law_357 dL_law_359 dL_law_360 dL_law_361 ?_
  refine lw_arg C hM (k := 2) (by omega) hlA (by decide) dL_law_362 dL_law_363 dL_law_365 dL_law_366 dL_law_367 ?_
  refine lw_c2 C hM (As := [.int (xs (i + 1)), .int (xs (i + 2))]) (h' := 2) hl.1 yo_X13_person (by decide) qw_1642 qw_1643 qw_1644 (kX13_person (lE2_ok h2) _ _ rfl _ e2) rfl rfl rfl (Nat.le_of_ble_eq_true rfl) dL_law_368 ⟨by omega, by omega⟩ (fun H locs hM => ?_)
  refine lv_istore (lv' := [(6, .int v), (5, .int r), (4, .int (nI i)), (0, .ref b), (1, .ref (X1.2.1 0)), (2, .ref (X2.2.1 0)), (3, .ref (s.heap.size + 226))]) hx hb dL_law_371 hl (by decide) rfl (fun ls hl => ?_)
  refine lv_aload_n hx hb dL_law_373 rfl (lv_at hl 5 rfl) ?_
  refine lw_c2 C hM (As := []) (h' := 0) hl.1 yo_X13_thrown (by decide) qw_1344 qw_1345 qw_1346 (kX13_thrown (lE2_ok h2) rfl _ e3) rfl rfl rfl (Nat.le_of_ble_eq_true rfl) dL_law_374 ⟨by omega, by omega⟩ (fun H locs hM => ?_)
  refine lv_iload hx hb dL_law_377 (lv_at hl 1 rfl) ?_
  refine lv_icmp_eq (tgt := 384) hx hb dL_law_379 (by decide) (fun _ => ?_) (fun h => absurd rfl h)
  refine lv_iload hx hb dL_law_384 (lv_at hl 1 rfl) ?_
  have fin : W p l e room_1 s m #[Value.ref b] below meth c H locs (cells + 1) (slots + 6) Q (F0 m 401 ls []) := by
    refine lv_goto (tgt := 1321) hx hb dL_law_401 (by decide) ?_
    exact kk H locs ls X Y' P N w' hI' hM (lv_sub hl [2, 3, 4, 5, 6] rfl)
  refine lv_if_ne (tgt := 401) hx hb dL_law_386 (by decide) (fun _ => fin) (fun h0 => ?_)
  have hw2 : w' = v.toInt64 := hw.resolve_left (fun h => h h0)
  refine lv_aload_n hx hb dL_law_389 rfl (lv_at hl 6 rfl) ?_
  refine lv_iconst (v := nI 0) hx hb dL_law_390 (by decide) ?_
  refine va_lald hx hb C.2.1 (ws := [sO X1 (s.heap.size + 226) w']) (s_out1 hM.2.2.1) 0 2 rfl rfl (vp_in_nI (by decide) (by decide)) dL_law_391 ?_
  refine lv_iload hx hb dL_law_392 (lv_at hl 0 rfl) ?_
  refine lv_i2l (v := v.toInt64) hx hb dL_law_394 rfl ?_
  refine W.lcmp hx hb dL_law_395 ?_
  exact lv_if_eq (tgt := 401) hx hb dL_law_396 (by decide) (fun _ => fin) (fun h => absurd (by rw [hw2]; exact lg_cmp_self _) h)
set_option maxRecDepth 100000 in
theorem lcs_ring {X1 X2 : XE} {p : Program} {l : Launch} {e : Env} {s : State} {m : MethodId} {below : List Frame} {meth : Method} {c : Code} {b L : Nat} {xs : Nat → Int32} {Q : State → Prop} (hst : l.stackTraces = false) (C : LwC X1 X2 p m c s b L xs) (hV : vxG (lE1 X1) s) : LwCase X1 X2 p l e s m below meth c b L Q 404 := by
  intro i H locs ls X Y P N w cells slots hM hI hi hf hl kk
  have hx := C.1.1
  have hb := C.1.2.1
  have h1 : ∀ k, X1.2.1 k = X1.2.1 0 + k := fun k => by have := C.2.2.2.2.1 k; have := C.2.2.2.2.1 0; omega
  have h2 : ∀ k, X2.2.1 k = X2.2.1 0 + k := fun k => by have := C.2.2.2.2.2.1 k; have := C.2.2.2.2.2.1 0; omega
  have ho : ¬ lA X1 204 (s.heap.size + 226) := fun h => by have h3 : X1.2.1 0 ≤ s.heap.size + 226 ∧ s.heap.size + 226 < X1.2.1 0 + 204 := h; have := C.2.2.2.2.1 0; omega
  have key : ∃ (r : Int32) (v : Int32) (w' : Int64) (Y' : MM), vx_Met l yL_ring (Cond.codeWith yL_ring cL_ring 5 (some .int) [(0, 10, 13, 13)] :: mx_wall) (cw_rm 20 1 6) (va_Pc [.ref (X1.2.1 0), .int (xs (i + 1)), .int (xs (i + 2)), .ref (s.heap.size + 226)] (sPre X1 X w (s.heap.size + 226))) (sQ X1 X w' (s.heap.size + 226) r) (fun _ _ _ => False) 1 6 (sAf X1 (s.heap.size + 226)) ∧ fX13_ring (xs (i + 1)) (xs (i + 2)) Y = some (v, Y') ∧ fX13_thrown Y' = some r ∧ Inv X Y' P N ∧ (¬ r = 0 ∨ w' = v.toInt64) := by
    rcases q_ring (a := xs (i + 1)) (b := xs (i + 2)) hI with ⟨v, e1, e2⟩ | ⟨e1, e2⟩
    · exact ⟨0, v, v.toInt64, _, sA_ring h1 ho _ _ X w e1, e2, by rw [fX13_thrown, mx_si_eq]; rfl, hI.th, Or.inr rfl⟩
    · exact ⟨1, 0, w, _, sB_ring hst h1 ho _ _ X w e1, e2, by rw [fX13_thrown, mx_si_eq]; rfl, hI.th, Or.inl (by decide)⟩
  obtain ⟨r, v, w', Y', hS, e2, e3, hI', hw⟩ := key
  refine lv_aload_n hx hb dL_law_404 rfl (lv_at hl 2 rfl) ?_
  refine lw_arg C hM (k := 1) (by omega) hl (by decide) dL_law_405 dL_law_406 dL_law_408 dL_law_409 dL_law_410 ?_
  refine lw_arg C hM (k := 2) (by omega) hl (by decide) dL_law_411 dL_law_412 dL_law_414 dL_law_415 dL_law_416 ?_
  refine lv_aload_n hx hb dL_law_417 rfl (lv_at hl 4 rfl) ?_
  refine lw_stat (y := yL_ring) C hV hM hl.1 (by decide) sw_ring hS rfl rfl dL_law_418 hf (fun H locs hM => ?_)
  refine lv_istore (lv' := [(5, .int r), (4, .int (nI i)), (0, .ref b), (1, .ref (X1.2.1 0)), (2, .ref (X2.2.1 0)), (3, .ref (s.heap.size + 226))]) hx hb dL_law_421 hl (by decide) rfl (fun ls hl => ?_)
  have hlA := lv_sub hl [1, 2, 3, 4, 5, 0] rfl
  refine lv_aload_n hx hb dL_law_423 rfl (lv_at hl 4 rfl) ?_
  refine lw_arg C hM (k := 1) (by omega) hlA (by decide) dL_law_424 dL_law_425 dL_law_427 dL_law_428 dL_law_429 ?_
  refine lw_arg C hM (k := 2) (by omega) hlA (by decide) dL_law_430 dL_law_431 dL_law_433 dL_law_434 dL_law_435 ?_
  refine lw_c2 C hM (As := [.int (xs (i + 1)), .int (xs (i + 2))]) (h' := 2) hl.1 yo_X13_ring (by decide) qw_1670 qw_1671 qw_1672 (kX13_ring (lE2_ok h2) _ _ rfl _ e2) rfl rfl rfl (Nat.le_of_ble_eq_true rfl) dL_law_436 ⟨by omega, by omega⟩ (fun H locs hM => ?_)
  refine lv_istore (lv' := [(6, .int v), (5, .int r), (4, .int (nI i)), (0, .ref b), (1, .ref (X1.2.1 0)), (2, .ref (X2.2.1 0)), (3, .ref (s.heap.size + 226))]) hx hb dL_law_439 hl (by decide) rfl (fun ls hl => ?_)
  refine lv_aload_n hx hb dL_law_441 rfl (lv_at hl 5 rfl) ?_
  refine lw_c2 C hM (As := []) (h' := 0) hl.1 yo_X13_thrown (by decide) qw_1344 qw_1345 qw_1346 (kX13_thrown (lE2_ok h2) rfl _ e3) rfl rfl rfl (Nat.le_of_ble_eq_true rfl) dL_law_442 ⟨by omega, by omega⟩ (fun H locs hM => ?_)
  refine lv_iload hx hb dL_law_445 (lv_at hl 1 rfl) ?_
  refine lv_icmp_eq (tgt := 452) hx hb dL_law_447 (by decide) (fun _ => ?_) (fun h => absurd rfl h)
  refine lv_iload hx hb dL_law_452 (lv_at hl 1 rfl) ?_
  have fin : W p l e room_1 s m #[Value.ref b] below meth c H locs (cells + 1) (slots + 6) Q (F0 m 469 ls []) := by
    refine lv_goto (tgt := 1321) hx hb dL_law_469 (by decide) ?_
    exact kk H locs ls X Y' P N w' hI' hM (lv_sub hl [2, 3, 4, 5, 6] rfl)
  refine lv_if_ne (tgt := 469) hx hb dL_law_454 (by decide) (fun _ => fin) (fun h0 => ?_)
  have hw2 : w' = v.toInt64 := hw.resolve_left (fun h => h h0)
  refine lv_aload_n hx hb dL_law_457 rfl (lv_at hl 6 rfl) ?_
  refine lv_iconst (v := nI 0) hx hb dL_law_458 (by decide) ?_
  refine va_lald hx hb C.2.1 (ws := [sO X1 (s.heap.size + 226) w']) (s_out1 hM.2.2.1) 0 2 rfl rfl (vp_in_nI (by decide) (by decide)) dL_law_459 ?_
  refine lv_iload hx hb dL_law_460 (lv_at hl 0 rfl) ?_
  refine lv_i2l (v := v.toInt64) hx hb dL_law_462 rfl ?_
  refine W.lcmp hx hb dL_law_463 ?_
  exact lv_if_eq (tgt := 469) hx hb dL_law_464 (by decide) (fun _ => fin) (fun h => absurd (by rw [hw2]; exact lg_cmp_self _) h)
