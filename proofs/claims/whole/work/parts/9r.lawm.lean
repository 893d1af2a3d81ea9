/-! the law: its loop -/
theorem dL_law_20 : decode cL_law 20 = .ok (.iconst 0, 1) := by decide +kernel
theorem dL_law_21 : decode cL_law 21 = .ok (.istore 4, 2) := by decide +kernel
theorem dL_law_23 : decode cL_law 23 = .ok (.iload 4, 2) := by decide +kernel
theorem dL_law_25 : decode cL_law 25 = .ok (.aload_n 0, 1) := by decide +kernel
theorem dL_law_26 : decode cL_law 26 = .ok (.arraylength, 1) := by decide +kernel
theorem dL_law_27 : decode cL_law 27 = .ok (.bipush 6, 2) := by decide +kernel
theorem dL_law_29 : decode cL_law 29 = .ok (.isub, 1) := by decide +kernel
theorem dL_law_30 : decode cL_law 30 = .ok (.if_icmp .gt 1297, 3) := by decide +kernel
theorem dL_law_33 : decode cL_law 33 = .ok (.aload_n 0, 1) := by decide +kernel
theorem dL_law_34 : decode cL_law 34 = .ok (.iload 4, 2) := by decide +kernel
theorem dL_law_36 : decode cL_law 36 = .ok (.iaload, 1) := by decide +kernel
theorem dL_law_37 : decode cL_law 37 = .ok (.bipush 63, 2) := by decide +kernel
theorem dL_law_39 : decode cL_law 39 = .ok (.iand, 1) := by decide +kernel
theorem dL_law_40 : decode cL_law 40 = .ok (.tableswitch 1281 0 38 #[172, 245, 270, 283, 296, 364, 432, 469, 494, 543, 592, 629, 654, 691, 716, 729, 754, 767, 792, 817, 830, 855, 868, 881, 894, 907, 932, 957, 982, 1007, 1032, 1069, 1118, 1143, 1168, 1181, 1206, 1231, 1256], 172) := by decide +kernel
theorem dL_law_1321 : decode cL_law 1321 = .ok (.iinc 4 6, 3) := by decide +kernel
theorem dL_law_1324 : decode cL_law 1324 = .ok (.goto (-1301), 3) := by decide +kernel
theorem dL_law_1327 : decode cL_law 1327 = .ok (.iconst 1, 1) := by decide +kernel
theorem dL_law_1328 : decode cL_law 1328 = .ok (.ireturn, 1) := by decide +kernel
theorem dL_law_0 : decode cL_law 0 = .ok (.new 8, 3) := by decide +kernel
theorem dL_law_3 : decode cL_law 3 = .ok (.dup, 1) := by decide +kernel
theorem dL_law_4 : decode cL_law 4 = .ok (.invokespecial 18, 3) := by decide +kernel
theorem dL_law_7 : decode cL_law 7 = .ok (.astore_n 1, 1) := by decide +kernel
theorem dL_law_8 : decode cL_law 8 = .ok (.new 19, 3) := by decide +kernel
theorem dL_law_11 : decode cL_law 11 = .ok (.dup, 1) := by decide +kernel
theorem dL_law_12 : decode cL_law 12 = .ok (.invokespecial 21, 3) := by decide +kernel
theorem dL_law_15 : decode cL_law 15 = .ok (.astore_n 2, 1) := by decide +kernel
theorem dL_law_16 : decode cL_law 16 = .ok (.iconst 1, 1) := by decide +kernel
theorem dL_law_17 : decode cL_law 17 = .ok (.newarray .long, 2) := by decide +kernel
theorem dL_law_19 : decode cL_law 19 = .ok (.astore_n 3, 1) := by decide +kernel
def lw_P (b : Addr) (xs : List Int32) (args : Array Value) (s : State) : Prop := args = #[.ref b] ∧ s.IntsAt b xs ∧ xs.length ≤ 3072 ∧ (Jvm.Cond.and given_1 narrow_1).before args s = true
def lw_Q (_ : Array Value) (s : State) (o : Outcome) (t : State) : Prop := o = .returned (some (.int 1)) ∧ Framed s o t [] 601024 7293034
def lw_Z (below : List Frame) (a : Array Value) (s : State) : State → Prop := fun t => ∃ o, t.status = .running ∧ Ended t below o ∧ lw_Q a s o t
/-- the law's own end, with 1 on the stack, nothing written that was there before, its room as the claim has it -/
theorem lw_ret {p : Program} {l : Launch} {e : Env} {s : State} {m : MethodId} {below : List Frame} {meth : Method} {c : Code} {b : Nat} (hx : p.tables.exec = Jvm.exec) (hb : c.code = code) (hr : meth.sig.returnType = ret) (hlocks : meth.locks = false) {pc : Nat} {H : Heap} {ls : Array Slot} (hdg : decode code pc = .ok (.ireturn, 1)) : W p l e room_1 s m #[Value.ref b] below meth c H [] 601024 7293034 (lw_Z below #[Value.ref b] s) (F0 m pc ls [.int 1]) := by
  intro T hT X
  obtain ⟨fs, hret, hrun, hended, hW, hframe⟩ := X.leave (v := some (.int 1)) (hlocks := hlocks) (fun h => by rw [hr] at h; cases h)
  have hmeth' : T.vm.method? m = some meth := X.method'
  refine ⟨T.setFrames fs, ?_, .returned (some (.int 1)), hrun, hended, rfl, ⟨_, rfl⟩, hW, hframe⟩
  jvm_step X.here [X.here.top, hx, hb, hdg, hmeth', hr, ret, narrow_b1]
  (try refine ⟨rfl, ?_⟩); (try refine ⟨rfl, ?_⟩)
  first | (intro acts; rw [hret _ acts rfl rfl rfl]) | rw [hret _ _ rfl rfl rfl]
  exact Steps.refl _
/-- what holds at the law's entry: the machine, the code, the tables' words (any of lw_tbl by 'hts w (by decide +kernel)'), the script of L ints xs at the cell b, what the Statement gives of the start (any of its parts by flat_of_before) -/
def lw_At (p : Program) (s : State) (m : MethodId) (meth : Method) (c : Code) (b L : Nat) (xs : Nat → Int32) : Prop :=
  p.tables.exec = Jvm.exec ∧ c.code = code ∧ meth.sig.returnType = ret ∧ c.maxLocals = 7 ∧ s.vm.findClass R_law = some m.cls ∧ (∀ w ∈ lw_tbl, w.before #[Value.ref b] s = true) ∧ va_X b L xs s s.heap ∧ b < s.heap.size ∧ meth.locks = false ∧ (Jvm.Cond.and given_1 narrow_1).before #[Value.ref b] s = true
def LwCase (X1 X2 : XE) (p : Program) (l : Launch) (e : Env) (s : State) (m : MethodId) (below : List Frame) (meth : Method) (c : Code) (b L : Nat) (Q : State → Prop) (pc0 : Nat) : Prop :=
  ∀ (i : Nat) (H : Heap) (locs : List Loc) (ls : Array Slot) (X Y : MM) (P N : Nat) (w : Int64) (cells slots : Nat), LwS X1 X2 s X Y w H locs → Inv X Y P N → i + 6 ≤ L → cells + 1 ≤ 601024 ∧ slots + 6 ≤ 7293034 → lv_has ls 7 [(4, .int (nI i)), (0, .ref b), (1, .ref (X1.2.1 0)), (2, .ref (X2.2.1 0)), (3, .ref (s.heap.size + 226))] →
    (∀ (H : Heap) (locs : List Loc) (ls : Array Slot) (X Y : MM) (P N : Nat) (w : Int64), Inv X Y P N → LwS X1 X2 s X Y w H locs → lv_has ls 7 [(4, .int (nI i)), (0, .ref b), (1, .ref (X1.2.1 0)), (2, .ref (X2.2.1 0)), (3, .ref (s.heap.size + 226))] → W p l e room_1 s m #[Value.ref b] below meth c H locs (cells + 1) (slots + 6) Q (F0 m 1321 ls [])) →
    W p l e room_1 s m #[Value.ref b] below meth c H locs cells slots Q (F0 m pc0 ls [])
theorem lw_wide {p : Program} {l : Launch} {e : Env} {R : Room} {s : State} {m : MethodId} {args : Array Value} {below : List Frame} {meth : Method} {c : Code} {H : Heap} {locs : List Loc} {cells slots k n : Nat} {Q : State → Prop} {g : JFrame} (h1 : cells ≤ k) (h2 : slots ≤ n) (kk : W p l e R s m args below meth c H locs k n Q g) : W p l e R s m args below meth c H locs cells slots Q g := fun T hT X => kk T hT (stand_widen X h1 h2)
theorem lw_end {L i : Nat} (hL : L ≤ 3072) (hi : i ≤ 3078) : nI L - 6 < nI i ↔ L < i + 6 := by
  have h : (nI L - 6).toInt = (L : Int) - 6 := by
    rw [Int32.toInt_sub, nI_toInt (by omega), show (6 : Int32).toInt = 6 from rfl]
    simp only [Int.bmod]
    omega
  rw [Int32.lt_iff_toInt_lt, h, nI_toInt (by omega)]
  omega

set_option maxRecDepth 100000 in
set_option maxHeartbeats 4000000 in
theorem lw_loop {X1 X2 : XE} {p : Program} {l : Launch} {e : Env} {s : State} {m : MethodId} {below : List Frame} {meth : Method} {c : Code} {b L : Nat} {xs : Nat → Int32} (C : LwC X1 X2 p m c s b L xs) (hr : meth.sig.returnType = ret) (hlocks : meth.locks = false) (h4 : LwCase X1 X2 p l e s m below meth c b L (lw_Z below #[Value.ref b] s) 336) (h5 : LwCase X1 X2 p l e s m below meth c b L (lw_Z below #[Value.ref b] s) 404) : ∀ (d k i : Nat), k + d = 512 → L < i + 6 + 6 * d → i ≤ 6 * k → ∀ (H : Heap) (locs : List Loc) (ls : Array Slot) (X Y : MM) (P N : Nat) (w : Int64), Inv X Y P N → LwS X1 X2 s X Y w H locs → lv_has ls 7 [(4, .int (nI i)), (0, .ref b), (1, .ref (X1.2.1 0)), (2, .ref (X2.2.1 0)), (3, .ref (s.heap.size + 226))] → W p l e room_1 s m #[Value.ref b] below meth c H locs (227 + k) (14900 + 6 * k) (lw_Z below #[Value.ref b] s) (F0 m 23 ls []) := by
  have hx := C.1.1
  have hb := C.1.2.1
  have hXs := C.2.2.2.2.2.2.1
  have hbl := C.2.2.2.2.2.2.2.1
  have hL := C.2.2.2.2.2.2.2.2
  intro d
  induction d with
  | zero =>
    intro k i hk hd hik H locs ls X Y P N w hI hM hl
    refine lv_iload hx hb dL_law_23 (lv_at hl 0 rfl) ?_
    refine lv_aload_n hx hb dL_law_25 rfl (lv_at hl 1 rfl) ?_
    refine va_slen (A := fun q => s.heap.size ≤ q) hx hb hXs hbl (fun h => by have : s.heap.size ≤ b := h; omega) hM.2.2.2 dL_law_26 ?_
    refine lv_bipush (v := (6 : Int32)) hx hb dL_law_27 (by decide) ?_
    refine lv_isub hx hb dL_law_29 ?_
    refine lv_icmp_gt (tgt := 1327) hx hb dL_law_30 (by decide) (fun hc => ?_) (fun hc => absurd ((lw_end hL (by omega)).mpr (by omega)) hc)
    refine lv_iconst (v := (1 : Int32)) hx hb dL_law_1327 (by decide) ?_
    refine va_forget (fun q hq => hM.2.2.2.2.2 q hq) ?_
    refine lw_wide (k := 601024) (n := 7293034) (by omega) (by omega) ?_
    exact lw_ret hx hb hr hlocks dL_law_1328
  | succ d ih =>
    intro k i hk hd hik H locs ls X Y P N w hI hM hl
    refine lv_iload hx hb dL_law_23 (lv_at hl 0 rfl) ?_
    refine lv_aload_n hx hb dL_law_25 rfl (lv_at hl 1 rfl) ?_
    refine va_slen (A := fun q => s.heap.size ≤ q) hx hb hXs hbl (fun h => by have : s.heap.size ≤ b := h; omega) hM.2.2.2 dL_law_26 ?_
    refine lv_bipush (v := (6 : Int32)) hx hb dL_law_27 (by decide) ?_
    refine lv_isub hx hb dL_law_29 ?_
    refine lv_icmp_gt (tgt := 1327) hx hb dL_law_30 (by decide) (fun hc => ?_) (fun hc => ?_)
    · refine lv_iconst (v := (1 : Int32)) hx hb dL_law_1327 (by decide) ?_
      refine va_forget (fun q hq => hM.2.2.2.2.2 q hq) ?_
      refine lw_wide (k := 601024) (n := 7293034) (by omega) (by omega) ?_
      exact lw_ret hx hb hr hlocks dL_law_1328
    · have hi : i + 6 ≤ L := by
        have := (not_congr (lw_end (L := L) (i := i) hL (by omega))).mp hc
        omega
      have hf : 227 + k + 1 ≤ 601024 ∧ 14900 + 6 * k + 6 ≤ 7293034 := ⟨by omega, by omega⟩
      have step : ∀ (H : Heap) (locs : List Loc) (ls : Array Slot) (X Y : MM) (P N : Nat) (w : Int64), Inv X Y P N → LwS X1 X2 s X Y w H locs → lv_has ls 7 [(4, .int (nI i)), (0, .ref b), (1, .ref (X1.2.1 0)), (2, .ref (X2.2.1 0)), (3, .ref (s.heap.size + 226))] → W p l e room_1 s m #[Value.ref b] below meth c H locs (227 + k + 1) (14900 + 6 * k + 6) (lw_Z below #[Value.ref b] s) (F0 m 1321 ls []) := by
        intro H locs ls X Y P N w hI hM hl
        refine lv_iinc (v := nI (i + 6)) (lv' := [(4, .int (nI (i + 6))), (0, .ref b), (1, .ref (X1.2.1 0)), (2, .ref (X2.2.1 0)), (3, .ref (s.heap.size + 226))]) hx hb dL_law_1321 hl (k := 0) rfl (nI_add i 6) (by decide) rfl (fun ls hl => ?_)
        refine lv_goto (tgt := 23) hx hb dL_law_1324 (by decide) ?_
        exact ih (k + 1) (i + 6) (by omega) (by omega) (by omega) H locs ls X Y P N w hI hM hl
      refine lv_aload_n hx hb dL_law_33 rfl (lv_at hl 1 rfl) ?_
      refine lv_iload hx hb dL_law_34 (lv_at hl 0 rfl) ?_
      refine va_sld (A := fun q => s.heap.size ≤ q) hx hb hXs hbl (fun h => by have : s.heap.size ≤ b := h; omega) hM.2.2.2 (vp_in_nI (by omega) (by omega)) dL_law_36 ?_
      rw [nI_clamp (by omega)]
      refine lv_bipush (v := (63 : Int32)) hx hb dL_law_37 (by decide) ?_
      refine lv_iand hx hb dL_law_39 ?_
      by_cases hs0 : (xs i &&& 63).toInt = 0
      · refine lv_tableIn (tgt := 212) hx hb dL_law_40 (by rw [hs0]; decide) (by rw [hs0]; decide) (by rw [hs0]; rfl) (by decide) ?_
        exact lc_0 C hM hI hi ⟨by omega, by omega⟩ hl (fun H locs X Y P N hI hM => lw_wide (Nat.le_succ _) (by omega) (step H locs ls X Y P N w hI hM hl))
      by_cases hs1 : (xs i &&& 63).toInt = 1
      · refine lv_tableIn (tgt := 285) hx hb dL_law_40 (by rw [hs1]; decide) (by rw [hs1]; decide) (by rw [hs1]; rfl) (by decide) ?_
        exact lc_1 C hM hI hi ⟨by omega, by omega⟩ hl (fun H locs X Y P N hI hM => lw_wide (Nat.le_succ _) (by omega) (step H locs ls X Y P N w hI hM hl))
      by_cases hs2 : (xs i &&& 63).toInt = 2
      · refine lv_tableIn (tgt := 310) hx hb dL_law_40 (by rw [hs2]; decide) (by rw [hs2]; decide) (by rw [hs2]; rfl) (by decide) ?_
        exact lc_2 C hM hI hi ⟨by omega, by omega⟩ hl (fun H locs X Y P N hI hM => lw_wide (Nat.le_succ _) (by omega) (step H locs ls X Y P N w hI hM hl))
      by_cases hs3 : (xs i &&& 63).toInt = 3
      · refine lv_tableIn (tgt := 323) hx hb dL_law_40 (by rw [hs3]; decide) (by rw [hs3]; decide) (by rw [hs3]; rfl) (by decide) ?_
        exact lc_3 C hM hI hi ⟨by omega, by omega⟩ hl (fun H locs X Y P N hI hM => lw_wide (Nat.le_succ _) (by omega) (step H locs ls X Y P N w hI hM hl))
      by_cases hs4 : (xs i &&& 63).toInt = 4
      · refine lv_tableIn (tgt := 336) hx hb dL_law_40 (by rw [hs4]; decide) (by rw [hs4]; decide) (by rw [hs4]; rfl) (by decide) ?_
        exact h4 i H locs ls X Y P N w _ _ hM hI hi hf hl step
      by_cases hs5 : (xs i &&& 63).toInt = 5
      · refine lv_tableIn (tgt := 404) hx hb dL_law_40 (by rw [hs5]; decide) (by rw [hs5]; decide) (by rw [hs5]; rfl) (by decide) ?_
        exact h5 i H locs ls X Y P N w _ _ hM hI hi hf hl step
      by_cases hs6 : (xs i &&& 63).toInt = 6
      · refine lv_tableIn (tgt := 472) hx hb dL_law_40 (by rw [hs6]; decide) (by rw [hs6]; decide) (by rw [hs6]; rfl) (by decide) ?_
        exact lc_6 C hM hI hi ⟨by omega, by omega⟩ hl (fun H locs X Y P N hI hM => lw_wide (Nat.le_succ _) (by omega) (step H locs ls X Y P N w hI hM hl))
      by_cases hs7 : (xs i &&& 63).toInt = 7
      · refine lv_tableIn (tgt := 509) hx hb dL_law_40 (by rw [hs7]; decide) (by rw [hs7]; decide) (by rw [hs7]; rfl) (by decide) ?_
        exact lc_7 C hM hI hi ⟨by omega, by omega⟩ hl (fun H locs X Y P N hI hM => lw_wide (Nat.le_succ _) (by omega) (step H locs ls X Y P N w hI hM hl))
      by_cases hs8 : (xs i &&& 63).toInt = 8
      · refine lv_tableIn (tgt := 534) hx hb dL_law_40 (by rw [hs8]; decide) (by rw [hs8]; decide) (by rw [hs8]; rfl) (by decide) ?_
        exact lc_8 C hM hI hi ⟨by omega, by omega⟩ hl (fun H locs X Y P N hI hM => lw_wide (Nat.le_succ _) (by omega) (step H locs ls X Y P N w hI hM hl))
      by_cases hs9 : (xs i &&& 63).toInt = 9
      · refine lv_tableIn (tgt := 583) hx hb dL_law_40 (by rw [hs9]; decide) (by rw [hs9]; decide) (by rw [hs9]; rfl) (by decide) ?_
        exact lc_9 C hM hI hi ⟨by omega, by omega⟩ hl (fun H locs X Y P N hI hM => lw_wide (Nat.le_succ _) (by omega) (step H locs ls X Y P N w hI hM hl))
      by_cases hs10 : (xs i &&& 63).toInt = 10
      · refine lv_tableIn (tgt := 632) hx hb dL_law_40 (by rw [hs10]; decide) (by rw [hs10]; decide) (by rw [hs10]; rfl) (by decide) ?_
        exact lc_10 C hM hI hi ⟨by omega, by omega⟩ hl (fun H locs X Y P N hI hM => lw_wide (Nat.le_succ _) (by omega) (step H locs ls X Y P N w hI hM hl))
      by_cases hs11 : (xs i &&& 63).toInt = 11
      · refine lv_tableIn (tgt := 669) hx hb dL_law_40 (by rw [hs11]; decide) (by rw [hs11]; decide) (by rw [hs11]; rfl) (by decide) ?_
        exact lc_11 C hM hI hi ⟨by omega, by omega⟩ hl (fun H locs X Y P N hI hM => lw_wide (Nat.le_succ _) (by omega) (step H locs ls X Y P N w hI hM hl))
      by_cases hs12 : (xs i &&& 63).toInt = 12
      · refine lv_tableIn (tgt := 694) hx hb dL_law_40 (by rw [hs12]; decide) (by rw [hs12]; decide) (by rw [hs12]; rfl) (by decide) ?_
        exact lc_12 C hM hI hi ⟨by omega, by omega⟩ hl (fun H locs X Y P N hI hM => lw_wide (Nat.le_succ _) (by omega) (step H locs ls X Y P N w hI hM hl))
      by_cases hs13 : (xs i &&& 63).toInt = 13
      · refine lv_tableIn (tgt := 731) hx hb dL_law_40 (by rw [hs13]; decide) (by rw [hs13]; decide) (by rw [hs13]; rfl) (by decide) ?_
        exact lc_13 C hM hI hi ⟨by omega, by omega⟩ hl (fun H locs X Y P N hI hM => lw_wide (Nat.le_succ _) (by omega) (step H locs ls X Y P N w hI hM hl))
      by_cases hs14 : (xs i &&& 63).toInt = 14
      · refine lv_tableIn (tgt := 756) hx hb dL_law_40 (by rw [hs14]; decide) (by rw [hs14]; decide) (by rw [hs14]; rfl) (by decide) ?_
        exact lc_14 C hM hI hi ⟨by omega, by omega⟩ hl (fun H locs X Y P N hI hM => lw_wide (Nat.le_succ _) (by omega) (step H locs ls X Y P N w hI hM hl))
      by_cases hs15 : (xs i &&& 63).toInt = 15
      · refine lv_tableIn (tgt := 769) hx hb dL_law_40 (by rw [hs15]; decide) (by rw [hs15]; decide) (by rw [hs15]; rfl) (by decide) ?_
        exact lc_15 C hM hI hi ⟨by omega, by omega⟩ hl (fun H locs X Y P N hI hM => lw_wide (Nat.le_succ _) (by omega) (step H locs ls X Y P N w hI hM hl))
      by_cases hs16 : (xs i &&& 63).toInt = 16
      · refine lv_tableIn (tgt := 794) hx hb dL_law_40 (by rw [hs16]; decide) (by rw [hs16]; decide) (by rw [hs16]; rfl) (by decide) ?_
        exact lc_16 C hM hI hi ⟨by omega, by omega⟩ hl (fun H locs X Y P N hI hM => lw_wide (Nat.le_succ _) (by omega) (step H locs ls X Y P N w hI hM hl))
      by_cases hs17 : (xs i &&& 63).toInt = 17
      · refine lv_tableIn (tgt := 807) hx hb dL_law_40 (by rw [hs17]; decide) (by rw [hs17]; decide) (by rw [hs17]; rfl) (by decide) ?_
        exact lc_17 C hM hI hi ⟨by omega, by omega⟩ hl (fun H locs X Y P N hI hM => lw_wide (Nat.le_succ _) (by omega) (step H locs ls X Y P N w hI hM hl))
      by_cases hs18 : (xs i &&& 63).toInt = 18
      · refine lv_tableIn (tgt := 832) hx hb dL_law_40 (by rw [hs18]; decide) (by rw [hs18]; decide) (by rw [hs18]; rfl) (by decide) ?_
        exact lc_18 C hM hI hi ⟨by omega, by omega⟩ hl (fun H locs X Y P N hI hM => lw_wide (Nat.le_succ _) (by omega) (step H locs ls X Y P N w hI hM hl))
      by_cases hs19 : (xs i &&& 63).toInt = 19
      · refine lv_tableIn (tgt := 857) hx hb dL_law_40 (by rw [hs19]; decide) (by rw [hs19]; decide) (by rw [hs19]; rfl) (by decide) ?_
        exact lc_19 C hM hI hi ⟨by omega, by omega⟩ hl (fun H locs X Y P N hI hM => lw_wide (Nat.le_succ _) (by omega) (step H locs ls X Y P N w hI hM hl))
      by_cases hs20 : (xs i &&& 63).toInt = 20
      · refine lv_tableIn (tgt := 870) hx hb dL_law_40 (by rw [hs20]; decide) (by rw [hs20]; decide) (by rw [hs20]; rfl) (by decide) ?_
        exact lc_20 C hM hI hi ⟨by omega, by omega⟩ hl (fun H locs X Y P N hI hM => lw_wide (Nat.le_succ _) (by omega) (step H locs ls X Y P N w hI hM hl))
      by_cases hs21 : (xs i &&& 63).toInt = 21
      · refine lv_tableIn (tgt := 895) hx hb dL_law_40 (by rw [hs21]; decide) (by rw [hs21]; decide) (by rw [hs21]; rfl) (by decide) ?_
        exact lc_21 C hM hI hi ⟨by omega, by omega⟩ hl (fun H locs X Y P N hI hM => lw_wide (Nat.le_succ _) (by omega) (step H locs ls X Y P N w hI hM hl))
      by_cases hs22 : (xs i &&& 63).toInt = 22
      · refine lv_tableIn (tgt := 908) hx hb dL_law_40 (by rw [hs22]; decide) (by rw [hs22]; decide) (by rw [hs22]; rfl) (by decide) ?_
        exact lc_22 C hM hI hi ⟨by omega, by omega⟩ hl (fun H locs X Y P N hI hM => lw_wide (Nat.le_succ _) (by omega) (step H locs ls X Y P N w hI hM hl))
      by_cases hs23 : (xs i &&& 63).toInt = 23
      · refine lv_tableIn (tgt := 921) hx hb dL_law_40 (by rw [hs23]; decide) (by rw [hs23]; decide) (by rw [hs23]; rfl) (by decide) ?_
        exact lc_23 C hM hI hi ⟨by omega, by omega⟩ hl (fun H locs X Y P N hI hM => lw_wide (Nat.le_succ _) (by omega) (step H locs ls X Y P N w hI hM hl))
      by_cases hs24 : (xs i &&& 63).toInt = 24
      · refine lv_tableIn (tgt := 934) hx hb dL_law_40 (by rw [hs24]; decide) (by rw [hs24]; decide) (by rw [hs24]; rfl) (by decide) ?_
        exact lc_24 C hM hI hi ⟨by omega, by omega⟩ hl (fun H locs X Y P N hI hM => lw_wide (Nat.le_succ _) (by omega) (step H locs ls X Y P N w hI hM hl))
      by_cases hs25 : (xs i &&& 63).toInt = 25
      · refine lv_tableIn (tgt := 947) hx hb dL_law_40 (by rw [hs25]; decide) (by rw [hs25]; decide) (by rw [hs25]; rfl) (by decide) ?_
        exact lc_25 C hM hI hi ⟨by omega, by omega⟩ hl (fun H locs X Y P N hI hM => lw_wide (Nat.le_succ _) (by omega) (step H locs ls X Y P N w hI hM hl))
      by_cases hs26 : (xs i &&& 63).toInt = 26
      · refine lv_tableIn (tgt := 972) hx hb dL_law_40 (by rw [hs26]; decide) (by rw [hs26]; decide) (by rw [hs26]; rfl) (by decide) ?_
        exact lc_26 C hM hI hi ⟨by omega, by omega⟩ hl (fun H locs X Y P N hI hM => lw_wide (Nat.le_succ _) (by omega) (step H locs ls X Y P N w hI hM hl))
      by_cases hs27 : (xs i &&& 63).toInt = 27
      · refine lv_tableIn (tgt := 997) hx hb dL_law_40 (by rw [hs27]; decide) (by rw [hs27]; decide) (by rw [hs27]; rfl) (by decide) ?_
        exact lc_27 C hM hI hi ⟨by omega, by omega⟩ hl (fun H locs X Y P N hI hM => lw_wide (Nat.le_succ _) (by omega) (step H locs ls X Y P N w hI hM hl))
      by_cases hs28 : (xs i &&& 63).toInt = 28
      · refine lv_tableIn (tgt := 1022) hx hb dL_law_40 (by rw [hs28]; decide) (by rw [hs28]; decide) (by rw [hs28]; rfl) (by decide) ?_
        exact lc_28 C hM hI hi ⟨by omega, by omega⟩ hl (fun H locs X Y P N hI hM => lw_wide (Nat.le_succ _) (by omega) (step H locs ls X Y P N w hI hM hl))
      by_cases hs29 : (xs i &&& 63).toInt = 29
      · refine lv_tableIn (tgt := 1047) hx hb dL_law_40 (by rw [hs29]; decide) (by rw [hs29]; decide) (by rw [hs29]; rfl) (by decide) ?_
        exact lc_29 C hM hI hi ⟨by omega, by omega⟩ hl (fun H locs X Y P N hI hM => lw_wide (Nat.le_succ _) (by omega) (step H locs ls X Y P N w hI hM hl))
      by_cases hs30 : (xs i &&& 63).toInt = 30
      · refine lv_tableIn (tgt := 1072) hx hb dL_law_40 (by rw [hs30]; decide) (by rw [hs30]; decide) (by rw [hs30]; rfl) (by decide) ?_
        exact lc_30 C hM hI hi ⟨by omega, by omega⟩ hl (fun H locs X Y P N hI hM => lw_wide (Nat.le_succ _) (by omega) (step H locs ls X Y P N w hI hM hl))
      by_cases hs31 : (xs i &&& 63).toInt = 31
      · refine lv_tableIn (tgt := 1109) hx hb dL_law_40 (by rw [hs31]; decide) (by rw [hs31]; decide) (by rw [hs31]; rfl) (by decide) ?_
        exact lc_31 C hM hI hi ⟨by omega, by omega⟩ hl (fun H locs X Y P N hI hM => lw_wide (Nat.le_succ _) (by omega) (step H locs ls X Y P N w hI hM hl))
      by_cases hs32 : (xs i &&& 63).toInt = 32
      · refine lv_tableIn (tgt := 1158) hx hb dL_law_40 (by rw [hs32]; decide) (by rw [hs32]; decide) (by rw [hs32]; rfl) (by decide) ?_
        exact lc_32 C hM hI hi ⟨by omega, by omega⟩ hl (fun H locs X Y P N hI hM => lw_wide (Nat.le_succ _) (by omega) (step H locs ls X Y P N w hI hM hl))
      by_cases hs33 : (xs i &&& 63).toInt = 33
      · refine lv_tableIn (tgt := 1183) hx hb dL_law_40 (by rw [hs33]; decide) (by rw [hs33]; decide) (by rw [hs33]; rfl) (by decide) ?_
        exact lc_33 C hM hI hi ⟨by omega, by omega⟩ hl (fun H locs X Y P N hI hM => lw_wide (Nat.le_succ _) (by omega) (step H locs ls X Y P N w hI hM hl))
      by_cases hs34 : (xs i &&& 63).toInt = 34
      · refine lv_tableIn (tgt := 1208) hx hb dL_law_40 (by rw [hs34]; decide) (by rw [hs34]; decide) (by rw [hs34]; rfl) (by decide) ?_
        exact lc_34 C hM hI hi ⟨by omega, by omega⟩ hl (fun H locs X Y P N hI hM => lw_wide (Nat.le_succ _) (by omega) (step H locs ls X Y P N w hI hM hl))
      by_cases hs35 : (xs i &&& 63).toInt = 35
      · refine lv_tableIn (tgt := 1221) hx hb dL_law_40 (by rw [hs35]; decide) (by rw [hs35]; decide) (by rw [hs35]; rfl) (by decide) ?_
        exact lc_35 C hM hI hi ⟨by omega, by omega⟩ hl (fun H locs X Y P N hI hM => lw_wide (Nat.le_succ _) (by omega) (step H locs ls X Y P N w hI hM hl))
      by_cases hs36 : (xs i &&& 63).toInt = 36
      · refine lv_tableIn (tgt := 1246) hx hb dL_law_40 (by rw [hs36]; decide) (by rw [hs36]; decide) (by rw [hs36]; rfl) (by decide) ?_
        exact lc_36 C hM hI hi ⟨by omega, by omega⟩ hl (fun H locs X Y P N hI hM => lw_wide (Nat.le_succ _) (by omega) (step H locs ls X Y P N w hI hM hl))
      by_cases hs37 : (xs i &&& 63).toInt = 37
      · refine lv_tableIn (tgt := 1271) hx hb dL_law_40 (by rw [hs37]; decide) (by rw [hs37]; decide) (by rw [hs37]; rfl) (by decide) ?_
        exact lc_37 C hM hI hi ⟨by omega, by omega⟩ hl (fun H locs X Y P N hI hM => lw_wide (Nat.le_succ _) (by omega) (step H locs ls X Y P N w hI hM hl))
      by_cases hs38 : (xs i &&& 63).toInt = 38
      · refine lv_tableIn (tgt := 1296) hx hb dL_law_40 (by rw [hs38]; decide) (by rw [hs38]; decide) (by rw [hs38]; rfl) (by decide) ?_
        exact lc_38 C hM hI hi ⟨by omega, by omega⟩ hl (fun H locs X Y P N hI hM => lw_wide (Nat.le_succ _) (by omega) (step H locs ls X Y P N w hI hM hl))
      exact lv_tableOut (tgt := 1321) hx hb dL_law_40 (by omega) (by decide) (lw_wide (Nat.le_succ _) (by omega) (step H locs ls X Y P N w hI hM hl))
