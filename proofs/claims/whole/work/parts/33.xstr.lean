
/-! String's own methods over the three constants of Note -/
def xsl (w : Nat) : Int32 := ([7, 4, 7] : List Int32).getD w 0
def xsn (w : Nat) : Nat := ([7, 4, 7] : List Nat).getD w 0
def xsb (w j : Nat) : Int32 := (([[32, 107, 101, 101, 112, 115, 32], [32, 102, 111, 114], [32, 119, 101, 97, 114, 115, 32]] : List (List Int32)).getD w []).getD j 0
theorem dJ0_coder_7d493_0 : decode cJ0_coder_7d493 0 = .ok (.getstatic 38, 3) := by decide +kernel
theorem dJ0_coder_7d493_3 : decode cJ0_coder_7d493 3 = .ok (.ifCond .eq 10, 3) := by decide +kernel
theorem dJ0_coder_7d493_6 : decode cJ0_coder_7d493 6 = .ok (.aload_n 0, 1) := by decide +kernel
theorem dJ0_coder_7d493_7 : decode cJ0_coder_7d493 7 = .ok (.getfield 15, 3) := by decide +kernel
theorem dJ0_coder_7d493_10 : decode cJ0_coder_7d493 10 = .ok (.goto 4, 3) := by decide +kernel
theorem dJ0_coder_7d493_13 : decode cJ0_coder_7d493 13 = .ok (.iconst 1, 1) := by decide +kernel
theorem dJ0_coder_7d493_14 : decode cJ0_coder_7d493 14 = .ok (.ireturn, 1) := by decide +kernel
theorem dJ0_isLatin1_aae02_0 : decode cJ0_isLatin1_aae02 0 = .ok (.getstatic 38, 3) := by decide +kernel
theorem dJ0_isLatin1_aae02_3 : decode cJ0_isLatin1_aae02 3 = .ok (.ifCond .eq 14, 3) := by decide +kernel
theorem dJ0_isLatin1_aae02_6 : decode cJ0_isLatin1_aae02 6 = .ok (.aload_n 0, 1) := by decide +kernel
theorem dJ0_isLatin1_aae02_7 : decode cJ0_isLatin1_aae02 7 = .ok (.getfield 15, 3) := by decide +kernel
theorem dJ0_isLatin1_aae02_10 : decode cJ0_isLatin1_aae02 10 = .ok (.ifCond .ne 7, 3) := by decide +kernel
theorem dJ0_isLatin1_aae02_13 : decode cJ0_isLatin1_aae02 13 = .ok (.iconst 1, 1) := by decide +kernel
theorem dJ0_isLatin1_aae02_14 : decode cJ0_isLatin1_aae02 14 = .ok (.goto 4, 3) := by decide +kernel
theorem dJ0_isLatin1_aae02_17 : decode cJ0_isLatin1_aae02 17 = .ok (.iconst 0, 1) := by decide +kernel
theorem dJ0_isLatin1_aae02_18 : decode cJ0_isLatin1_aae02 18 = .ok (.ireturn, 1) := by decide +kernel
theorem dJ0_length_8abf5_0 : decode cJ0_length_8abf5 0 = .ok (.aload_n 0, 1) := by decide +kernel
theorem dJ0_length_8abf5_1 : decode cJ0_length_8abf5 1 = .ok (.getfield 9, 3) := by decide +kernel
theorem dJ0_length_8abf5_4 : decode cJ0_length_8abf5 4 = .ok (.arraylength, 1) := by decide +kernel
theorem dJ0_length_8abf5_5 : decode cJ0_length_8abf5 5 = .ok (.aload_n 0, 1) := by decide +kernel
theorem dJ0_length_8abf5_6 : decode cJ0_length_8abf5 6 = .ok (.invokevirtual 335, 3) := by decide +kernel
theorem dJ0_length_8abf5_9 : decode cJ0_length_8abf5 9 = .ok (.ishr, 1) := by decide +kernel
theorem dJ0_length_8abf5_10 : decode cJ0_length_8abf5 10 = .ok (.ireturn, 1) := by decide +kernel
theorem dJ0_charAt_5068e_0 : decode cJ0_charAt_5068e 0 = .ok (.aload_n 0, 1) := by decide +kernel
theorem dJ0_charAt_5068e_1 : decode cJ0_charAt_5068e 1 = .ok (.invokevirtual 492, 3) := by decide +kernel
theorem dJ0_charAt_5068e_4 : decode cJ0_charAt_5068e 4 = .ok (.ifCond .eq 12, 3) := by decide +kernel
theorem dJ0_charAt_5068e_7 : decode cJ0_charAt_5068e 7 = .ok (.aload_n 0, 1) := by decide +kernel
theorem dJ0_charAt_5068e_8 : decode cJ0_charAt_5068e 8 = .ok (.getfield 9, 3) := by decide +kernel
theorem dJ0_charAt_5068e_11 : decode cJ0_charAt_5068e 11 = .ok (.iload_n 1, 1) := by decide +kernel
theorem dJ0_charAt_5068e_12 : decode cJ0_charAt_5068e 12 = .ok (.invokestatic 495, 3) := by decide +kernel
theorem dJ0_charAt_5068e_15 : decode cJ0_charAt_5068e 15 = .ok (.ireturn, 1) := by decide +kernel
theorem dJ0_charAt_5068e_16 : decode cJ0_charAt_5068e 16 = .ok (.aload_n 0, 1) := by decide +kernel
theorem dJ0_charAt_5068e_17 : decode cJ0_charAt_5068e 17 = .ok (.getfield 9, 3) := by decide +kernel
theorem dJ0_charAt_5068e_20 : decode cJ0_charAt_5068e 20 = .ok (.iload_n 1, 1) := by decide +kernel
theorem dJ0_charAt_5068e_21 : decode cJ0_charAt_5068e 21 = .ok (.invokestatic 498, 3) := by decide +kernel
theorem dJ0_charAt_5068e_24 : decode cJ0_charAt_5068e 24 = .ok (.ireturn, 1) := by decide +kernel
theorem dJ0_checkIndex_df160_0 : decode cJ0_checkIndex_df160 0 = .ok (.iload_n 0, 1) := by decide +kernel
theorem dJ0_checkIndex_df160_1 : decode cJ0_checkIndex_df160 1 = .ok (.iload_n 1, 1) := by decide +kernel
theorem dJ0_checkIndex_df160_2 : decode cJ0_checkIndex_df160 2 = .ok (.getstatic 1053, 3) := by decide +kernel
theorem dJ0_checkIndex_df160_5 : decode cJ0_checkIndex_df160 5 = .ok (.invokestatic 1059, 3) := by decide +kernel
theorem dJ0_checkIndex_df160_8 : decode cJ0_checkIndex_df160 8 = .ok (.pop, 1) := by decide +kernel
theorem dJ0_checkIndex_df160_9 : decode cJ0_checkIndex_df160 9 = .ok (.return_, 1) := by decide +kernel
theorem dJ1_charAt_3b067_0 : decode cJ1_charAt_3b067 0 = .ok (.iload_n 1, 1) := by decide +kernel
theorem dJ1_charAt_3b067_1 : decode cJ1_charAt_3b067 1 = .ok (.aload_n 0, 1) := by decide +kernel
theorem dJ1_charAt_3b067_2 : decode cJ1_charAt_3b067 2 = .ok (.arraylength, 1) := by decide +kernel
theorem dJ1_charAt_3b067_3 : decode cJ1_charAt_3b067 3 = .ok (.invokestatic 9, 3) := by decide +kernel
theorem dJ1_charAt_3b067_6 : decode cJ1_charAt_3b067 6 = .ok (.aload_n 0, 1) := by decide +kernel
theorem dJ1_charAt_3b067_7 : decode cJ1_charAt_3b067 7 = .ok (.iload_n 1, 1) := by decide +kernel
theorem dJ1_charAt_3b067_8 : decode cJ1_charAt_3b067 8 = .ok (.baload, 1) := by decide +kernel
theorem dJ1_charAt_3b067_9 : decode cJ1_charAt_3b067 9 = .ok (.sipush 255, 3) := by decide +kernel
theorem dJ1_charAt_3b067_12 : decode cJ1_charAt_3b067 12 = .ok (.iand, 1) := by decide +kernel
theorem dJ1_charAt_3b067_13 : decode cJ1_charAt_3b067 13 = .ok (.i2c, 1) := by decide +kernel
theorem dJ1_charAt_3b067_14 : decode cJ1_charAt_3b067 14 = .ok (.ireturn, 1) := by decide +kernel
theorem dJ3_checkIndex_8e157_0 : decode cJ3_checkIndex_8e157 0 = .ok (.iload_n 0, 1) := by decide +kernel
theorem dJ3_checkIndex_8e157_1 : decode cJ3_checkIndex_8e157 1 = .ok (.ifCond .lt 8, 3) := by decide +kernel
theorem dJ3_checkIndex_8e157_4 : decode cJ3_checkIndex_8e157 4 = .ok (.iload_n 0, 1) := by decide +kernel
theorem dJ3_checkIndex_8e157_5 : decode cJ3_checkIndex_8e157 5 = .ok (.iload_n 1, 1) := by decide +kernel
theorem dJ3_checkIndex_8e157_6 : decode cJ3_checkIndex_8e157 6 = .ok (.if_icmp .lt 10, 3) := by decide +kernel
theorem dJ3_checkIndex_8e157_9 : decode cJ3_checkIndex_8e157 9 = .ok (.aload_n 2, 1) := by decide +kernel
theorem dJ3_checkIndex_8e157_10 : decode cJ3_checkIndex_8e157 10 = .ok (.iload_n 0, 1) := by decide +kernel
theorem dJ3_checkIndex_8e157_11 : decode cJ3_checkIndex_8e157 11 = .ok (.iload_n 1, 1) := by decide +kernel
theorem dJ3_checkIndex_8e157_12 : decode cJ3_checkIndex_8e157 12 = .ok (.invokestatic 95, 3) := by decide +kernel
theorem dJ3_checkIndex_8e157_15 : decode cJ3_checkIndex_8e157 15 = .ok (.athrow, 1) := by decide +kernel
theorem dJ3_checkIndex_8e157_16 : decode cJ3_checkIndex_8e157 16 = .ok (.iload_n 0, 1) := by decide +kernel
theorem dJ3_checkIndex_8e157_17 : decode cJ3_checkIndex_8e157 17 = .ok (.ireturn, 1) := by decide +kernel
section XST
variable {p : Program} {l : Launch} {e : Env} {R : Room} {s : State} {m : MethodId} {args : Array Value} {below : List Frame} {meth : Method} {c : Code} {H : Heap} {locs : List Loc} {cells slots : Nat} {Q : State → Prop}
variable {cc : ByteArray} {nL pc : Nat} {ls : Array Slot} {rest : List Value} {E : KE} {M : MM} {own : String} {ret : Option FieldType}
/-- a method of any object -/
theorem mx_callR {h h' n index yL b : Nat} {Cn : String} {y : MethodName} {yc : ByteArray} {yr : Option FieldType} {As : List Value} {st0 st1 : List Value} {o : Option Value} {M' : MM} (C : mx_C E p m c cc nL s args own meth ret) (hM : mx_H E s M H locs) (hl : ls.size = nL) (Y : mx_Y y yc yL yr n) (hh : h' < h) (hlink : Cond.methodLink own index y ∈ mx_wall) (hins : Cond.instanceMethod y ∈ mx_wall) (hsel : Cond.selects Cn y y ∈ mx_wall) (hrv : ∃ cell : Cell, H[b]? = some cell ∧ cell.vm.isStatics = false ∧ s.vm.findClass Cn = some cell.cls)
    (hy : mx_Met E l y yc yL yr h' (.ref b :: As) M o M') (hn : As.length = n) (hst : st0 = As.reverse ++ .ref b :: rest) (hs1 : o.toList ++ rest = st1) (hW : (rest.map fun v => v.category).sum ≤ 8) (hdg : decode cc pc = .ok (.invokevirtual index, 3))
    (kk : ∀ (H : Heap) (locs : List Loc), mx_H E s M' H locs → W p l e (mx_rm h) s m args below meth c H locs 0 0 Q (F0 m (pc + 3) ls st1)) : W p l e (mx_rm h) s m args below meth c H locs 0 0 Q (F0 m pc ls st0) := by
  have hts := C.1.2.2.2.2
  subst hs1
  exact mx_back hM (va_runV C.1 hy ⟨mx_cb C Y hh hlink, hts _ hins, hts _ hsel⟩ ⟨mx_blind C.2.2.2.1, hrv, mx_pre C hM⟩ rfl hn hl hst (lv_room hW) hdg ⟨Nat.le_refl 0, Nat.le_refl 0⟩) kk
theorem mx_bretR {v q : Int32} (C : mx_C E p m c cc nL s args own meth (some .byte)) (hM : mx_H E s M H locs) (hn : narrow .byte (.int v) = .int v) (hf : some v = some q) (hdg : decode cc pc = .ok (.ireturn, 1)) : W p l e R s m args below meth c H locs 0 0 (mx_Z E below args s (some (.int q)) M) (F0 m pc ls [.int v]) := by
  cases hf
  obtain ⟨⟨hx, hb, hml, hown, hts⟩, hK, hG, hE, hlo, hr⟩ := C
  exact W.zret (v := v) hx hb hr hn (fun t ht hW => ⟨rfl, by rw [ht]; exact hM.1, hM.2.F ht⟩) hM.2.2.2 hdg
theorem yo_J0_coder : mx_Y yJ0_coder_7d493 cJ0_coder_7d493 1 (some .byte) 0 := ⟨qw_1013, qw_23, by decide +kernel, by decide⟩
theorem yo_J0_isLatin1 : mx_Y yJ0_isLatin1_aae02 cJ0_isLatin1_aae02 1 (some .boolean) 0 := ⟨qw_1023, qw_23, by decide +kernel, by decide⟩
theorem yo_J0_length : mx_Y yJ0_length_8abf5 cJ0_length_8abf5 1 (some .int) 0 := ⟨qw_1009, qw_23, by decide +kernel, by decide⟩
theorem yo_J0_charAt : mx_Y yJ0_charAt_5068e cJ0_charAt_5068e 2 (some .char) 1 := ⟨qw_1019, qw_23, by decide +kernel, by decide⟩
theorem yo_J0_checkIndex : mx_Y yJ0_checkIndex_df160 cJ0_checkIndex_df160 2 none 2 := ⟨qw_1029, qw_23, by decide +kernel, by decide⟩
theorem yo_J1_charAt : mx_Y yJ1_charAt_3b067 cJ1_charAt_3b067 2 (some .char) 2 := ⟨qw_1026, qw_24, by decide +kernel, by decide⟩
theorem yo_J3_checkIndex : mx_Y yJ3_checkIndex_8e157 cJ3_checkIndex_8e157 3 (some .int) 3 := ⟨qw_1034, qw_25, by decide +kernel, by decide⟩
theorem xk_coder {l : Launch} (hE : mx_ok E) (hT : xOK E) {w : Nat} (hw : w < 3) (M : MM) : mx_Met E l yJ0_coder_7d493 cJ0_coder_7d493 1 (some .byte) 0 [.ref (E.2.1.2.2.1 (30 + w))] M (some (.int 0)) M := by
  refine mx_enter hE (by decide) (Nat.le_of_ble_eq_true rfl) ?_
  intro p e s m below meth c C hM hn ls hl
  have hg := (hT.2 s C.2.2.1).2.2.2.2.2
  have hl : lv_has ls 1 [(0, .ref (E.2.1.2.2.1 (30 + w)))] := hl
  refine va_gets C.1.1 C.1.2.1 hg.2.2.2.2.1 hM.2 C.1.2.2.2.1 (C.1.2.2.2.2 _ qw_1014) (fun _ h => h) dJ0_coder_7d493_0 ?_
  refine lv_if_eq (tgt := 13) C.1.1 C.1.2.1 dJ0_coder_7d493_3 (by decide) (fun h => absurd h (by decide)) (fun h => ?_)
  refine lv_aload_n C.1.1 C.1.2.1 dJ0_coder_7d493_6 rfl (lv_at hl 0 rfl) ?_
  refine vk_getf C.1.1 C.1.2.1 (hg.1.1 w hw).2.1 hM.2 C.1.2.2.2.1 (C.1.2.2.2.2 _ qw_2034) (fun _ h => h) dJ0_coder_7d493_7 ?_
  refine lv_goto (tgt := 14) C.1.1 C.1.2.1 dJ0_coder_7d493_10 (by decide) ?_
  exact mx_bretR C hM (by decide) rfl dJ0_coder_7d493_14
theorem xk_isLatin1 {l : Launch} (hE : mx_ok E) (hT : xOK E) {w : Nat} (hw : w < 3) (M : MM) : mx_Met E l yJ0_isLatin1_aae02 cJ0_isLatin1_aae02 1 (some .boolean) 0 [.ref (E.2.1.2.2.1 (30 + w))] M (some (.int (mx_b true))) M := by
  refine mx_enter hE (by decide) (Nat.le_of_ble_eq_true rfl) ?_
  intro p e s m below meth c C hM hn ls hl
  have hg := (hT.2 s C.2.2.1).2.2.2.2.2
  have hl : lv_has ls 1 [(0, .ref (E.2.1.2.2.1 (30 + w)))] := hl
  refine va_gets C.1.1 C.1.2.1 hg.2.2.2.2.1 hM.2 C.1.2.2.2.1 (C.1.2.2.2.2 _ qw_1014) (fun _ h => h) dJ0_isLatin1_aae02_0 ?_
  refine lv_if_eq (tgt := 17) C.1.1 C.1.2.1 dJ0_isLatin1_aae02_3 (by decide) (fun h => absurd h (by decide)) (fun h => ?_)
  refine lv_aload_n C.1.1 C.1.2.1 dJ0_isLatin1_aae02_6 rfl (lv_at hl 0 rfl) ?_
  refine vk_getf C.1.1 C.1.2.1 (hg.1.1 w hw).2.1 hM.2 C.1.2.2.2.1 (C.1.2.2.2.2 _ qw_2034) (fun _ h => h) dJ0_isLatin1_aae02_7 ?_
  refine lv_if_ne (tgt := 17) C.1.1 C.1.2.1 dJ0_isLatin1_aae02_10 (by decide) (fun h => absurd rfl h) (fun h => ?_)
  refine lv_iconst (v := 1) C.1.1 C.1.2.1 dJ0_isLatin1_aae02_13 (by decide) ?_
  refine lv_goto (tgt := 18) C.1.1 C.1.2.1 dJ0_isLatin1_aae02_14 (by decide) ?_
  exact mx_zretR C hM (b := true) rfl rfl dJ0_isLatin1_aae02_18
theorem xs_len : ∀ w, w < 3 → Int32.ofNat (([7, 4, 7] : List Nat).getD w 0) >>> ((0 : Int32) &&& 31) = xsl w := by decide +kernel
theorem xk_length {l : Launch} (hE : mx_ok E) (hT : xOK E) {w : Nat} (hw : w < 3) (M : MM) : mx_Met E l yJ0_length_8abf5 cJ0_length_8abf5 1 (some .int) 1 [.ref (E.2.1.2.2.1 (30 + w))] M (some (.int (xsl w))) M := by
  refine mx_enter hE (by decide) (Nat.le_of_ble_eq_true rfl) ?_
  intro p e s m below meth c C hM hn ls hl
  have hg := (hT.2 s C.2.2.1).2.2.2.2.2
  have hl : lv_has ls 1 [(0, .ref (E.2.1.2.2.1 (30 + w)))] := hl
  refine lv_aload_n C.1.1 C.1.2.1 dJ0_length_8abf5_0 rfl (lv_at hl 0 rfl) ?_
  refine vk_getf C.1.1 C.1.2.1 (hg.1.1 w hw).2.2.1 hM.2 C.1.2.2.2.1 (C.1.2.2.2.2 _ qw_2033) (fun _ h => h) dJ0_length_8abf5_1 ?_
  refine va_tlen C.1.1 C.1.2.1 (hg.1.1 w hw).2.2.2 hM.2 rfl dJ0_length_8abf5_4 ?_
  refine lv_aload_n C.1.1 C.1.2.1 dJ0_length_8abf5_5 rfl (lv_at hl 0 rfl) ?_
  refine mx_callR C hM hl.1 yo_J0_coder (h' := 0) (by decide) qw_1010 qw_1011 qw_1012 (vk_recv hg.1 hw hM.2) (As := []) (rest := [.int (Int32.ofNat (([7, 4, 7] : List Nat).getD w 0))]) (st1 := [.int 0, .int (Int32.ofNat (([7, 4, 7] : List Nat).getD w 0))]) (xk_coder C.2.2.2.1 hT hw M) rfl rfl rfl (Nat.le_of_ble_eq_true rfl) dJ0_length_8abf5_6 (fun H locs hM => ?_)
  refine lv_ishr C.1.1 C.1.2.1 dJ0_length_8abf5_9 ?_
  exact mx_iretR C hM (by rw [xs_len w hw]) dJ0_length_8abf5_10
theorem xk_Pcheck {l : Launch} (hE : mx_ok E) {r : Option Nat} {i n : Int32} (h1 : 0 ≤ i) (h2 : i < n) (M : MM) : mx_Met E l yJ3_checkIndex_8e157 cJ3_checkIndex_8e157 3 (some .int) 0 [.int i, .int n, va_rf r] M (some (.int i)) M := by
  refine mx_enter hE (by decide) (by cases r <;> exact Nat.le_of_ble_eq_true rfl) ?_
  intro p e s m below meth c C hM hn ls hl
  have hl : lv_has ls 3 [(0, .int i), (1, .int n)] := lv_sub hl [0, 1] rfl
  refine lv_iload_n C.1.1 C.1.2.1 dJ3_checkIndex_8e157_0 rfl (lv_at hl 0 rfl) ?_
  refine lv_if_lt (tgt := 9) C.1.1 C.1.2.1 dJ3_checkIndex_8e157_1 (by decide) (fun h => absurd h (Int32.not_lt.mpr h1)) (fun h => ?_)
  refine lv_iload_n C.1.1 C.1.2.1 dJ3_checkIndex_8e157_4 rfl (lv_at hl 0 rfl) ?_
  refine lv_iload_n C.1.1 C.1.2.1 dJ3_checkIndex_8e157_5 rfl (lv_at hl 1 rfl) ?_
  refine lv_icmp_lt (tgt := 16) C.1.1 C.1.2.1 dJ3_checkIndex_8e157_6 (by decide) (fun h => ?_) (fun h => absurd h2 h)
  refine lv_iload_n C.1.1 C.1.2.1 dJ3_checkIndex_8e157_16 rfl (lv_at hl 0 rfl) ?_
  exact mx_iretR C hM rfl dJ3_checkIndex_8e157_17
theorem xk_Scheck {l : Launch} (hE : mx_ok E) (hT : xOK E) {i n : Int32} (h1 : 0 ≤ i) (h2 : i < n) (M : MM) : mx_Met E l yJ0_checkIndex_df160 cJ0_checkIndex_df160 2 none 1 [.int i, .int n] M none M := by
  refine mx_enter hE (by decide) (Nat.le_of_ble_eq_true rfl) ?_
  intro p e s m below meth c C hM hn ls hl
  have hg := (hT.2 s C.2.2.1).2.2.2.2.2
  have hl : lv_has ls 2 [(0, .int i), (1, .int n)] := hl
  have hZ : ∃ r : Option Nat, va_Z "jdk/internal/util/Preconditions" "SIOOBE_FORMATTER" "Ljava/util/function/BiFunction;" (va_rf r) E.2.2.1 s s.heap := by
    rcases hg.2.2.2.2.2 with h | ⟨t, h⟩
    · exact ⟨none, h⟩
    · exact ⟨some t, h⟩
  obtain ⟨r, hZ⟩ := hZ
  refine lv_iload_n C.1.1 C.1.2.1 dJ0_checkIndex_df160_0 rfl (lv_at hl 0 rfl) ?_
  refine lv_iload_n C.1.1 C.1.2.1 dJ0_checkIndex_df160_1 rfl (lv_at hl 1 rfl) ?_
  refine va_gets C.1.1 C.1.2.1 hZ hM.2 C.1.2.2.2.1 (C.1.2.2.2.2 _ qw_1030) (fun _ h => h) dJ0_checkIndex_df160_2 ?_
  refine mx_callS C hM hl.1 yo_J3_checkIndex (h' := 0) (by decide) qw_1032 qw_1033 (As := [.int i, .int n, va_rf r]) (rest := []) (st1 := [.int i]) (xk_Pcheck C.2.2.2.1 h1 h2 M) rfl rfl rfl (Nat.le_of_ble_eq_true rfl) dJ0_checkIndex_df160_5 (fun H locs hM => ?_)
  refine lv_pop C.1.1 C.1.2.1 dJ0_checkIndex_df160_8 rfl ?_
  exact mx_vret C hM rfl dJ0_checkIndex_df160_9
theorem xs_chr : ∀ w, w < 3 → ∀ j, j < xsn w → (((([[32, 107, 101, 101, 112, 115, 32], [32, 102, 111, 114], [32, 119, 101, 97, 114, 115, 32]] : List (List Int32)).getD w []).getD j 0 &&& 255).toUInt32 % 65536).toInt32 = xsb w j ∧ narrow .char (.int (xsb w j)) = .int (xsb w j) := by decide +kernel
theorem xk_L1charAt {l : Launch} (hE : mx_ok E) (hT : xOK E) {w : Nat} (hw : w < 3) {i : Int32} (hi : mx_in i (xsn w) = true) (M : MM) : mx_Met E l yJ1_charAt_3b067 cJ1_charAt_3b067 2 (some .char) 2 [.ref (E.2.1.2.2.1 (40 + w)), .int i] M (some (.int (xsb w i.toNatClampNeg))) M := by
  have hv := mx_in_vp hi
  simp only [mx_in, Bool.and_eq_true, decide_eq_true_eq] at hi
  have hlt : i < Int32.ofNat (xsn w) := by
    obtain ⟨j, hj, rfl⟩ := vp_in_of hv (by have : ∀ w, w < 3 → xsn w < 2 ^ 31 := by decide
                                           exact this w hw)
    exact nI_lt hj (by have : ∀ w, w < 3 → xsn w < 2 ^ 31 := by decide
                       exact this w hw)
  refine mx_enter hE (by decide) (Nat.le_of_ble_eq_true rfl) ?_
  intro p e s m below meth c C hM hn ls hl
  have hg := (hT.2 s C.2.2.1).2.2.2.2.2
  have hl : lv_has ls 2 [(0, .ref (E.2.1.2.2.1 (40 + w))), (1, .int i)] := hl
  refine lv_iload_n C.1.1 C.1.2.1 dJ1_charAt_3b067_0 rfl (lv_at hl 1 rfl) ?_
  refine lv_aload_n C.1.1 C.1.2.1 dJ1_charAt_3b067_1 rfl (lv_at hl 0 rfl) ?_
  refine va_tlen (v := Int32.ofNat (xsn w)) C.1.1 C.1.2.1 (hg.1.1 w hw).2.2.2 hM.2 rfl dJ1_charAt_3b067_2 ?_
  refine mx_callS C hM hl.1 yo_J0_checkIndex (h' := 1) (by decide) qw_1027 qw_1028 (As := [.int i, .int (Int32.ofNat (xsn w))]) (rest := []) (st1 := []) (xk_Scheck C.2.2.2.1 hT hi.1 hlt M) rfl rfl rfl (Nat.le_of_ble_eq_true rfl) dJ1_charAt_3b067_3 (fun H locs hM => ?_)
  refine lv_aload_n C.1.1 C.1.2.1 dJ1_charAt_3b067_6 rfl (lv_at hl 0 rfl) ?_
  refine lv_iload_n C.1.1 C.1.2.1 dJ1_charAt_3b067_7 rfl (lv_at hl 1 rfl) ?_
  refine va_tb C.1.1 C.1.2.1 (hg.1.1 w hw).2.2.2 hM.2 hv rfl dJ1_charAt_3b067_8 ?_
  refine lv_sipush (v := 255) C.1.1 C.1.2.1 dJ1_charAt_3b067_9 (by decide) ?_
  refine lv_iand C.1.1 C.1.2.1 dJ1_charAt_3b067_12 ?_
  have hc := xs_chr w hw i.toNatClampNeg hi.2
  refine lv_i2c (v := xsb w i.toNatClampNeg) C.1.1 C.1.2.1 dJ1_charAt_3b067_13 hc.1 ?_
  exact mx_cretR C hM hc.2 rfl dJ1_charAt_3b067_14
theorem xk_charAt {l : Launch} (hE : mx_ok E) (hT : xOK E) {w : Nat} (hw : w < 3) {i : Int32} (hi : mx_in i (xsn w) = true) (M : MM) : mx_Met E l yJ0_charAt_5068e cJ0_charAt_5068e 2 (some .char) 3 [.ref (E.2.1.2.2.1 (30 + w)), .int i] M (some (.int (xsb w i.toNatClampNeg))) M := by
  have hj : i.toNatClampNeg < xsn w := by
    simp only [mx_in, Bool.and_eq_true, decide_eq_true_eq] at hi
    exact hi.2
  refine mx_enter hE (by decide) (Nat.le_of_ble_eq_true rfl) ?_
  intro p e s m below meth c C hM hn ls hl
  have hg := (hT.2 s C.2.2.1).2.2.2.2.2
  have hl : lv_has ls 2 [(0, .ref (E.2.1.2.2.1 (30 + w))), (1, .int i)] := hl
  refine lv_aload_n C.1.1 C.1.2.1 dJ0_charAt_5068e_0 rfl (lv_at hl 0 rfl) ?_
  refine mx_callR C hM hl.1 yo_J0_isLatin1 (h' := 0) (by decide) qw_1020 qw_1021 qw_1022 (vk_recv hg.1 hw hM.2) (As := []) (rest := []) (st1 := [.int (mx_b true)]) (xk_isLatin1 C.2.2.2.1 hT hw M) rfl rfl rfl (Nat.le_of_ble_eq_true rfl) dJ0_charAt_5068e_1 (fun H locs hM => ?_)
  refine lv_if_eq (tgt := 16) C.1.1 C.1.2.1 dJ0_charAt_5068e_4 (by decide) (fun h => absurd h (by decide)) (fun h => ?_)
  refine lv_aload_n C.1.1 C.1.2.1 dJ0_charAt_5068e_7 rfl (lv_at hl 0 rfl) ?_
  refine vk_getf C.1.1 C.1.2.1 (hg.1.1 w hw).2.2.1 hM.2 C.1.2.2.2.1 (C.1.2.2.2.2 _ qw_2033) (fun _ h => h) dJ0_charAt_5068e_8 ?_
  refine lv_iload_n C.1.1 C.1.2.1 dJ0_charAt_5068e_11 rfl (lv_at hl 1 rfl) ?_
  refine mx_callS C hM hl.1 yo_J1_charAt (h' := 2) (by decide) qw_1024 qw_1025 (As := [.ref (E.2.1.2.2.1 (40 + w)), .int i]) (rest := []) (st1 := [.int (xsb w i.toNatClampNeg)]) (xk_L1charAt C.2.2.2.1 hT hw hi M) rfl rfl rfl (Nat.le_of_ble_eq_true rfl) dJ0_charAt_5068e_12 (fun H locs hM => ?_)
  exact mx_cretR C hM (xs_chr w hw _ hj).2 rfl dJ0_charAt_5068e_15
theorem xs_length {w index h : Nat} {st0 st1 : List Value} (C : mx_C E p m c cc nL s args own meth ret) (hT : xOK E) (hw : w < 3) (hM : mx_H E s M H locs) (hl : ls.size = nL) (hh : 1 < h) (hlink : Cond.methodLink own index yJ0_length_8abf5 ∈ mx_wall) (hst : st0 = .ref (E.2.1.2.2.1 (30 + w)) :: rest) (hs1 : .int (xsl w) :: rest = st1) (hW : (rest.map fun v => v.category).sum ≤ 8) (hdg : decode cc pc = .ok (.invokevirtual index, 3))
    (kk : ∀ (H : Heap) (locs : List Loc), mx_H E s M H locs → W p l e (mx_rm h) s m args below meth c H locs 0 0 Q (F0 m (pc + 3) ls st1)) : W p l e (mx_rm h) s m args below meth c H locs 0 0 Q (F0 m pc ls st0) :=
  mx_callR C hM hl yo_J0_length (h' := 1) hh hlink qw_1007 qw_1008 (vk_recv (hT.2 s C.2.2.1).2.2.2.2.2.1 hw hM.2) (As := []) (rest := rest) (st1 := st1) (xk_length C.2.2.2.1 hT hw M) rfl hst hs1 hW hdg kk
theorem xs_charAt {w index h : Nat} {i : Int32} {st0 st1 : List Value} (C : mx_C E p m c cc nL s args own meth ret) (hT : xOK E) (hw : w < 3) (hi : mx_in i (xsn w) = true) (hM : mx_H E s M H locs) (hl : ls.size = nL) (hh : 3 < h) (hlink : Cond.methodLink own index yJ0_charAt_5068e ∈ mx_wall) (hst : st0 = .int i :: .ref (E.2.1.2.2.1 (30 + w)) :: rest) (hs1 : .int (xsb w i.toNatClampNeg) :: rest = st1) (hW : (rest.map fun v => v.category).sum ≤ 8) (hdg : decode cc pc = .ok (.invokevirtual index, 3))
    (kk : ∀ (H : Heap) (locs : List Loc), mx_H E s M H locs → W p l e (mx_rm h) s m args below meth c H locs 0 0 Q (F0 m (pc + 3) ls st1)) : W p l e (mx_rm h) s m args below meth c H locs 0 0 Q (F0 m pc ls st0) :=
  mx_callR C hM hl yo_J0_charAt (h' := 3) hh hlink qw_1017 qw_1018 (vk_recv (hT.2 s C.2.2.1).2.2.2.2.2.1 hw hM.2) (As := [.int i]) (rest := rest) (st1 := st1) (xk_charAt C.2.2.2.1 hT hw hi M) rfl hst hs1 hW hdg kk
end XST
