/-! the constructors with constructors within -/
theorem kX1_initN {X : XE} {l : Launch} (hX : cw_ok X (cw_g X)) {T : List CN} (a : Nat) (n : Nat) (hn : T.length = n) (ha0 : T[a]? = some (.inl (1, [(3, 0, 0), (3, 0, 0), (3, 0, 0), (3, 0, 0), (0, 0, 0), (0, 0, 0), (0, 0, 0), (0, 0, 0), (0, 0, 0), (0, 0, 0)]))) : cw_Met X (cw_g X) l yX1_init cX1_init 1 1 4 160 [.ref (X.2.1 a)] T (T.set a (.inl (1, [(2, n, 0), (2, n + 1, 0), (2, n + 2, 0), (2, n + 3, 0), (0, 0, 0), (0, 0, 0), (0, 0, 0), (0, 0, 0), (0, 0, 0), (0, 0, 0)])) ++ [.inr (0, 40, 0, 0, 0, 0), .inr (0, 40, 0, 0, 0, 0), .inr (0, 40, 0, 0, 0, 0), .inr (0, 40, 0, 0, 0, 0)]) := by
  subst hn
  exact kX1_init hX T a ha0
theorem kX2_initN {X : XE} {l : Launch} (hX : cw_ok X (cw_g X)) {T : List CN} (a : Nat) (n : Nat) (hn : T.length = n) (ha0 : T[a]? = some (.inl (2, [(0, 0, 0), (0, 0, 0), (3, 0, 0), (3, 0, 0)]))) : cw_Met X (cw_g X) l yX2_init cX2_init 1 1 2 135 [.ref (X.2.1 a)] T (T.set a (.inl (2, [(0, 0, (-1 : Int32)), (0, 0, (-1 : Int32)), (2, n, 0), (2, n + 1, 0)])) ++ [.inr (0, 128, 0, 0, 0, 0), .inr (0, 7, 0, 0, 0, 0)]) := by
  subst hn
  exact kX2_init hX T a ha0
theorem kX3_initN {X : XE} {l : Launch} (hX : cw_ok X (cw_g X)) {T : List CN} (a : Nat) (n : Nat) (hn : T.length = n) (ha0 : T[a]? = some (.inl (3, [(0, 0, 0), (0, 0, 0), (3, 0, 0), (3, 0, 0), (3, 0, 0), (3, 0, 0), (3, 0, 0), (3, 0, 0), (3, 0, 0), (3, 0, 0), (3, 0, 0), (0, 0, 0), (0, 0, 0), (0, 0, 0), (0, 0, 0), (0, 0, 0), (0, 0, 0), (0, 0, 0)]))) : cw_Met X (cw_g X) l yX3_init cX3_init 1 1 9 63 [.ref (X.2.1 a)] T (T.set a (.inl (3, [(0, 0, 0), (0, 0, 0), (2, n, 0), (2, n + 1, 0), (2, n + 2, 0), (2, n + 3, 0), (2, n + 4, 0), (2, n + 5, 0), (2, n + 6, 0), (2, n + 7, 0), (2, n + 8, 0), (0, 0, (nI 1)), (0, 0, (nI 5)), (0, 0, (nI 4)), (0, 0, 0), (0, 0, 0), (0, 0, 0), (0, 0, 0)])) ++ [.inr (2, 7, 0, 0, 0, 0), .inr (0, 7, 0, 0, 0, 0), .inr (0, 7, 0, 0, 0, 0), .inr (0, 7, 0, 0, 0, 0), .inr (2, 7, 0, 0, 0, 0), .inr (0, 7, 0, 0, 0, 0), .inr (0, 7, 0, 0, 0, 0), .inr (0, 7, 0, 0, 0, 0), .inr (0, 7, 0, 0, 0, 0)]) := by
  subst hn
  exact kX3_init hX T a ha0
theorem kX4_initN {X : XE} {l : Launch} (hX : cw_ok X (cw_g X)) {T : List CN} (a : Nat) (n : Nat) (hn : T.length = n) (ha0 : T[a]? = some (.inl (4, [(3, 0, 0), (0, 0, 0)]))) : cw_Met X (cw_g X) l yX4_init cX4_init 1 1 1 128 [.ref (X.2.1 a)] T (T.set a (.inl (4, [(2, n, 0), (0, 0, 0)])) ++ [.inr (1, 128, 0, 0, 0, 0)]) := by
  subst hn
  exact kX4_init hX T a ha0
theorem kX6_initN {X : XE} {l : Launch} (hX : cw_ok X (cw_g X)) {T : List CN} (a : Nat) (n : Nat) (hn : T.length = n) (ha0 : T[a]? = some (.inl (6, [(3, 0, 0), (0, 0, 0), (3, 0, 0), (0, 0, 0), (3, 0, 0), (3, 0, 0), (3, 0, 0)]))) : cw_Met X (cw_g X) l yX6_init cX6_init 2 1 5 1045 [.ref (X.2.1 a)] T (T.set a (.inl (6, [(2, n, 0), (0, 0, 0), (2, n + 1, 0), (0, 0, (-1 : Int32)), (2, n + 2, 0), (2, n + 3, 0), (2, n + 4, 0)])) ++ [.inr (0, 7, 0, 0, 0, 0), .inr (0, 7, 7, 0, 0, -1), .inr (0, 896, 0, 0, 0, 0), .inr (0, 128, 0, 0, 0, 0), .inr (0, 7, 0, 0, 0, 0)]) := by
  subst hn
  exact kX6_init hX T a ha0
theorem kX7_initN {X : XE} {l : Launch} (hX : cw_ok X (cw_g X)) {T : List CN} (a : Nat) (g : Nat) (n : Nat) (hn : T.length = n) (ha0 : T[a]? = some (.inl (7, [(3, 0, 0), (3, 0, 0), (3, 0, 0), (3, 0, 0), (3, 0, 0), (3, 0, 0), (0, 0, 0), (0, 0, 0), (0, 0, 0), (0, 0, 0), (0, 0, 0), (0, 0, 0)]))) : cw_Met X (cw_g X) l yX7_init cX7_init 3 1 5 4705 [.ref (X.2.1 a), .ref (X.2.1 g)] T (T.set a (.inl (7, [(2, g, 0), (2, n, 0), (2, n + 1, 0), (2, n + 2, 0), (2, n + 3, 0), (2, n + 4, 0), (0, 0, 0), (0, 0, 0), (0, 0, 0), (0, 0, 0), (0, 0, 0), (0, 0, 0)])) ++ [.inr (0, 941, 0, 0, 0, 0), .inr (0, 941, 0, 0, 0, 0), .inr (0, 941, 0, 0, 0, 0), .inr (2, 941, 0, 0, 0, 0), .inr (7, 941, 941, 0, 0, 0)]) := by
  subst hn
  exact kX7_init hX T a g ha0
theorem kX8_initN {X : XE} {l : Launch} (hX : cw_ok X (cw_g X)) {T : List CN} (a : Nat) (n : Nat) (hn : T.length = n) (ha0 : T[a]? = some (.inl (8, [(3, 0, 0), (3, 0, 0), (3, 0, 0), (0, 0, 0), (0, 0, 0)]))) : cw_Met X (cw_g X) l yX8_init cX8_init 2 1 3 120 [.ref (X.2.1 a)] T (T.set a (.inl (8, [(2, n, 0), (2, n + 1, 0), (2, n + 2, 0), (0, 0, 0), (0, 0, 0)])) ++ [.inr (7, 40, 40, 0, 0, 0), .inr (0, 40, 0, 0, 0, 0), .inr (0, 40, 0, 0, 0, 0)]) := by
  subst hn
  exact kX8_init hX T a ha0
theorem kX9_initN {X : XE} {l : Launch} (hX : cw_ok X (cw_g X)) {T : List CN} (a : Nat) (g : Nat) (n : Nat) (hn : T.length = n) (ha0 : T[a]? = some (.inl (9, [(3, 0, 0), (3, 0, 0), (3, 0, 0), (3, 0, 0), (3, 0, 0), (3, 0, 0), (3, 0, 0), (3, 0, 0), (3, 0, 0), (0, 0, 0), (0, 0, 0), (0, 0, 0), (0, 0, 0)]))) : cw_Met X (cw_g X) l yX9_init cX9_init 2 1 8 56 [.ref (X.2.1 a), .ref (X.2.1 g)] T (T.set a (.inl (9, [(2, g, 0), (2, n, 0), (2, n + 1, 0), (2, n + 2, 0), (2, n + 3, 0), (2, n + 4, 0), (2, n + 5, 0), (2, n + 6, 0), (2, n + 7, 0), (0, 0, 0), (0, 0, 0), (0, 0, 0), (0, 0, 0)])) ++ [.inr (0, 7, 0, 0, 0, 0), .inr (0, 7, 0, 0, 0, 0), .inr (0, 7, 0, 0, 0, 0), .inr (0, 7, 0, 0, 0, 0), .inr (0, 7, 0, 0, 0, 0), .inr (0, 7, 0, 0, 0, 0), .inr (0, 7, 0, 0, 0, 0), .inr (0, 7, 0, 0, 0, 0)]) := by
  subst hn
  exact kX9_init hX T a g ha0
theorem kX10_initN {X : XE} {l : Launch} (hX : cw_ok X (cw_g X)) {T : List CN} (a : Nat) (n : Nat) (hn : T.length = n) (ha0 : T[a]? = some (.inl (10, [(3, 0, 0), (0, 0, 0)]))) : cw_Met X (cw_g X) l yX10_init cX10_init 1 1 1 940 [.ref (X.2.1 a)] T (T.set a (.inl (10, [(2, n, 0), (0, 0, 0)])) ++ [.inr (1, 940, 0, 0, 0, 0)]) := by
  subst hn
  exact kX10_init hX T a ha0
theorem cw_last {A : List CN} {b : CN} {k : Nat} (h : A.length = k) : (A ++ [b])[k]? = some b := by
  subst h
  rw [List.getElem?_append_right (Nat.le_refl _), Nat.sub_self]
  rfl
theorem cw_setlast {A N : List CN} {b f : CN} {k : Nat} (h : A.length = k) : (A ++ [b]).set k f ++ N = A ++ f :: N := by
  subst h
  rw [List.set_append_right _ _ (Nat.le_refl _), Nat.sub_self]
  simp
theorem cw_len1 {A : List CN} {b : CN} {k n : Nat} (h : A.length = k) (hn : k + 1 = n) : (A ++ [b]).length = n := by
  rw [List.length_append, h]
  exact hn
theorem cw_len2 {A N : List CN} {b f : CN} {k n : Nat} (hN : N.length = n) : ((A ++ [b]).set k f ++ N).length = (A ++ [b]).length + n := by
  rw [List.length_append, List.length_set, hN]
def xst (g n : Nat) : CN := .inl (9, [(2, g, 0), (2, n, 0), (2, n + 1, 0), (2, n + 2, 0), (2, n + 3, 0), (2, n + 4, 0), (2, n + 5, 0), (2, n + 6, 0), (2, n + 7, 0), (0, 0, 0), (0, 0, 0), (0, 0, 0), (0, 0, 0)])
def xa8 : List CN := [.inr (0, 7, 0, 0, 0, 0), .inr (0, 7, 0, 0, 0, 0), .inr (0, 7, 0, 0, 0, 0), .inr (0, 7, 0, 0, 0, 0), .inr (0, 7, 0, 0, 0, 0), .inr (0, 7, 0, 0, 0, 0), .inr (0, 7, 0, 0, 0, 0), .inr (0, 7, 0, 0, 0, 0)]
def xps : Nat → List CN
  | 0 => []
  | j + 1 => xps j ++ (xst 9 (59 + 9 * j) :: xa8)
theorem xps_len : ∀ j, (xps j).length = 9 * j
  | 0 => rfl
  | j + 1 => by
    rw [xps, List.length_append, xps_len j]
    show 9 * j + 9 = _
    omega
theorem dX5_init_0 : decode cX5_init 0 = .ok (.aload_n 0, 1) := by decide +kernel
theorem dX5_init_1 : decode cX5_init 1 = .ok (.invokespecial 1, 3) := by decide +kernel
theorem dX5_init_4 : decode cX5_init 4 = .ok (.aload_n 0, 1) := by decide +kernel
theorem dX5_init_5 : decode cX5_init 5 = .ok (.bipush 8, 2) := by decide +kernel
theorem dX5_init_7 : decode cX5_init 7 = .ok (.anewarray 9, 3) := by decide +kernel
theorem dX5_init_10 : decode cX5_init 10 = .ok (.putfield 11, 3) := by decide +kernel
theorem dX5_init_13 : decode cX5_init 13 = .ok (.iconst 0, 1) := by decide +kernel
theorem dX5_init_14 : decode cX5_init 14 = .ok (.istore_n 2, 1) := by decide +kernel
theorem dX5_init_15 : decode cX5_init 15 = .ok (.iload_n 2, 1) := by decide +kernel
theorem dX5_init_16 : decode cX5_init 16 = .ok (.bipush 8, 2) := by decide +kernel
theorem dX5_init_18 : decode cX5_init 18 = .ok (.if_icmp .ge 23, 3) := by decide +kernel
theorem dX5_init_21 : decode cX5_init 21 = .ok (.aload_n 0, 1) := by decide +kernel
theorem dX5_init_22 : decode cX5_init 22 = .ok (.getfield 11, 3) := by decide +kernel
theorem dX5_init_25 : decode cX5_init 25 = .ok (.iload_n 2, 1) := by decide +kernel
theorem dX5_init_26 : decode cX5_init 26 = .ok (.new 9, 3) := by decide +kernel
theorem dX5_init_29 : decode cX5_init 29 = .ok (.dup, 1) := by decide +kernel
theorem dX5_init_30 : decode cX5_init 30 = .ok (.aload_n 1, 1) := by decide +kernel
theorem dX5_init_31 : decode cX5_init 31 = .ok (.invokespecial 15, 3) := by decide +kernel
theorem dX5_init_34 : decode cX5_init 34 = .ok (.aastore, 1) := by decide +kernel
theorem dX5_init_35 : decode cX5_init 35 = .ok (.iinc 2 1, 3) := by decide +kernel
theorem dX5_init_38 : decode cX5_init 38 = .ok (.goto (-23), 3) := by decide +kernel
theorem dX5_init_41 : decode cX5_init 41 = .ok (.return_, 1) := by decide +kernel
theorem yo_X5_init : mx_Y yX5_init cX5_init 3 none 1 := ⟨qw_264, qw_8, by decide +kernel, by decide⟩
theorem nc_268 {X : XE} {s : State} (h : cw_g X s) : va_Nw (Jvm.Cond.methodLinkNest "RingKeepers$Past" (15 : Nat) ({ cls := "RingKeepers$State", name := "<init>", desc := "(LRingKeepers$Island;)V" } : Jvm.MethodName) "RingKeepers") s := h.1.2.2.2.2.1 _ (List.mem_filter.mpr ⟨List.mem_of_getElem? (i := 452) (by decide +kernel), rfl⟩)
set_option maxRecDepth 100000 in
theorem wX5_init_l {X : XE} {p : Program} {l : Launch} {e : Env} {s : State} {m : MethodId} {args : Array Value} {below : List Frame} {meth : Method} {c : Code} (C : cw_C X (cw_g X) p m c cX5_init 3 s args RX5 meth) (T : List CN) (hT : T.length = 57) : ∀ (d j : Nat), j + d = 8 → ∀ (H : Heap) (locs : List Loc) (ls : Array Slot), cw_H X s (T.set 56 (.inl (5, [(2, 57, 0), (0, 0, 0)])) ++ (.inr (4, 8, j, 58, 9, 0) :: xps j)) H locs (1 + 9 * j) → lv_has ls 3 [(2, .int (nI j)), (0, .ref (X.2.1 56)), (1, .ref (X.2.1 9))] → W p l e (cw_rm 2 73 560) s m args below meth c H locs (1 + 9 * j) (8 + 69 * j) (cw_Z X below args s 73 560 (T.set 56 (.inl (5, [(2, 57, 0), (0, 0, 0)])) ++ (.inr (4, 8, 8, 58, 9, 0) :: xps 8))) (F0 m 15 ls []) := by
  have hx := C.1.1
  have hb := C.1.2.1
  have hX := C.2.2.2.1
  intro d
  induction d with
  | zero =>
    intro j hj H locs ls hM hl
    have hj2 : j = 8 := by omega
    subst hj2
    refine lv_iload_n hx hb dX5_init_15 rfl (lv_at hl 0 rfl) ?_
    refine lv_bipush (v := (nI 8)) hx hb dX5_init_16 (by decide) ?_
    refine lv_icmp_ge (tgt := 41) hx hb dX5_init_18 (by decide) (fun hc => ?_) (fun hc => absurd (nI_le (Nat.le_refl _) (by decide)) hc)
    exact cw_ret C hM rfl rfl rfl dX5_init_41
  | succ d ih =>
    intro j hj H locs ls hM hl
    refine lv_iload_n hx hb dX5_init_15 rfl (lv_at hl 0 rfl) ?_
    refine lv_bipush (v := (nI 8)) hx hb dX5_init_16 (by decide) ?_
    refine lv_icmp_ge (tgt := 41) hx hb dX5_init_18 (by decide) (fun hc => absurd hc (nI_ge (by omega) (by decide))) (fun hc => ?_)
    refine lv_aload_n hx hb dX5_init_21 rfl (lv_at hl 1 rfl) ?_
    refine cn_get C (by omega) hM cl_5 (j := 0) (f := (2, 57, 0)) rfl (by decide) qw_269 rfl dX5_init_22 rfl ?_
    refine lv_iload_n hx hb dX5_init_25 rfl (lv_at hl 0 rfl) ?_
    generalize hA : T.set 56 (.inl (5, [(2, 57, 0), (0, 0, 0)])) ++ (.inr (4, 8, j, 58, 9, 0) :: xps j) = A at hM
    have hAl : A.length = 58 + 9 * j := by
      rw [← hA, cw_lenN, hT, List.length_cons, xps_len]
      omega
    refine cw_new C hM cl_9 bl_9 qw_266 qw_199 qw_7 (a1 := 58 + 9 * j) (by simp only [cw_rm]; omega) (by simp only [cw_rm]; omega) hAl dX5_init_26 rfl (fun H hM => ?_)
    refine lv_dup hx hb dX5_init_29 rfl ?_
    refine lv_aload_n hx hb dX5_init_30 rfl (lv_at hl 2 rfl) ?_
    refine cw_call (y := yX9_init) (As := [.ref (X.2.1 9)]) C hM hl.1 yo_X9_init rfl (by decide) (nc_268 C.2.2.1) qw_201 (kX9_initN hX (58 + 9 * j) 9 (59 + 9 * j) (cw_len1 hAl (by omega)) (cw_last hAl)) (cw_len2 rfl) rfl rfl (Nat.le_of_ble_eq_true rfl) dX5_init_31 ⟨by omega, by omega⟩ rfl (fun H locs hM => ?_)
    rw [cw_setlast hAl] at hM
    have h57 : (A ++ xst 9 (59 + 9 * j) :: xa8)[57]? = some (.inr (4, 8, j, 58, 9, 0)) := by
      rw [List.getElem?_append_left (by omega), ← hA]
      have := cw_atL (T := T) (L := .inr (4, 8, j, 58, 9, 0) :: xps j) (a := 56) (d := .inl (5, [(2, 57, 0), (0, 0, 0)])) (i := 0)
      rw [hT] at this
      exact this
    have hk : (A ++ xst 9 (59 + 9 * j) :: xa8)[58 + 9 * j]? = some (xst 9 (59 + 9 * j)) := by
      rw [List.getElem?_append_right (by omega), hAl, Nat.sub_self]
      rfl
    refine cw_aast C (T := A ++ xst 9 (59 + 9 * j) :: xa8) hM h57 (fun _ => rfl) (r := (RX9, TX9, 13)) rfl rfl hk (by omega) (nI_clamp (by omega)) (vp_in_nI (by omega) (by decide)) dX5_init_34 rfl (fun H locs hM => ?_)
    refine lv_iinc (v := nI (j + 1)) (lv' := [(2, .int (nI (j + 1))), (0, .ref (X.2.1 56)), (1, .ref (X.2.1 9))]) hx hb dX5_init_35 hl (k := 0) rfl (nI_1 j) (by decide) rfl (fun ls hl => ?_)
    refine lv_goto (tgt := 15) hx hb dX5_init_38 (by decide) ?_
    have e1 : (A ++ xst 9 (59 + 9 * j) :: xa8).set 57 (.inr (4, 8, j + 1, 58, 9, 0)) = T.set 56 (.inl (5, [(2, 57, 0), (0, 0, 0)])) ++ (.inr (4, 8, j + 1, 58, 9, 0) :: xps (j + 1)) := by
      have h2 := cw_setL (T := T) (L := .inr (4, 8, j, 58, 9, 0) :: (xps j ++ (xst 9 (59 + 9 * j) :: xa8))) (a := 56) (d := .inl (5, [(2, 57, 0), (0, 0, 0)])) (i := 0) (x := .inr (4, 8, j + 1, 58, 9, 0))
      rw [hT] at h2
      rw [← hA, List.append_assoc]
      exact h2
    rw [e1] at hM
    have h3 := ih (j + 1) (by omega) H locs ls (by rw [show 1 + 9 * (j + 1) = 1 + 9 * j + 1 + 8 by omega]; exact hM) hl
    rw [show 1 + 9 * (j + 1) = 1 + 9 * j + 1 + 8 by omega, show 8 + 69 * (j + 1) = 8 + 69 * j + 13 + 56 by omega] at h3
    exact h3
set_option maxRecDepth 100000 in
theorem kX5_init {X : XE} {l : Launch} (hX : cw_ok X (cw_g X)) (T : List CN) (hT : T.length = 57) (ha0 : T[56]? = some (.inl (5, [(3, 0, 0), (0, 0, 0)]))) : cw_Met X (cw_g X) l yX5_init cX5_init 3 2 73 560 [.ref (X.2.1 56), .ref (X.2.1 9)] T (T.set 56 (.inl (5, [(2, 57, 0), (0, 0, 0)])) ++ (.inr (4, 8, 8, 58, 9, 0) :: xps 8)) := by
  have ha : 56 < T.length := by omega
  refine cw_enter hX (by decide) (Nat.le_of_ble_eq_true rfl) rfl (by omega) ?_
  intro p e s m below meth c C hM ls hl
  have hx := C.1.1
  have hb := C.1.2.1
  have hl : lv_has ls 3 [(0, .ref (X.2.1 56)), (1, .ref (X.2.1 9))] := hl
  rw [cw_start ha0] at hM
  refine lv_aload_n hx hb dX5_init_0 rfl (lv_at hl 0 rfl) ?_
  refine cw_oi C hl.1 qw_265 qoi_1 qoi_2 (by decide) dX5_init_1 rfl ?_
  refine lv_aload_n hx hb dX5_init_4 rfl (lv_at hl 0 rfl) ?_
  refine lv_bipush (v := (nI 8)) hx hb dX5_init_5 (by decide) ?_
  refine cn_newQ C hM (t := 4) (N := 8) (a := 58) (b := 9) (L' := [.inr (4, 8, 0, 58, 9, 0)]) (a1 := 57) qw_266 C.2.2.1.2.1 rfl rfl (nI_pos (by decide)) (nI_clamp (by decide)) (by decide) (by decide) (by decide) rfl (by rw [hT]; rfl) dX5_init_7 rfl (fun H hM => ?_)
  refine cn_put C ha hM cl_5 (j := 0) (f := (2, 57, 0)) (fs' := [(2, 57, 0), (0, 0, 0)]) (by decide) qw_269 rfl rfl rfl rfl (Nat.le_of_ble_eq_true rfl) rfl dX5_init_10 rfl (fun H locs hM => ?_)
  refine lv_iconst (v := (nI 0)) hx hb dX5_init_13 (by decide) ?_
  refine lv_istore_n (lv' := [(2, .int (nI 0)), (0, .ref (X.2.1 56)), (1, .ref (X.2.1 9))]) hx hb dX5_init_14 rfl hl (by decide) rfl (fun ls hl => ?_)
  exact wX5_init_l C T hT 8 0 rfl _ _ _ hM hl
