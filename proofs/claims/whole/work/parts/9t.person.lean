/-! person and ring of the class, where they answer -/
section XKT
variable {p : Program} {l : Launch} {e : Env} {R : Room} {s : State} {m : MethodId} {args : Array Value} {below : List Frame} {meth : Method} {c : Code} {H : Heap} {locs : List Loc} {cells slots : Nat} {Q : State → Prop}
variable {cc : ByteArray} {nL pc : Nat} {ls : Array Slot} {rest : List Value} {E : KE} {M : MM} {own : String} {ret : Option FieldType}
theorem nw_130 (hT : xOK E) (C : mx_C E p m c cc nL s args own meth ret) : va_Nw (Jvm.Cond.fieldLinkNest "RingKeepers" (167 : Nat) "RingKeepers$Island" "finger" "[I" "RingKeepers") s := xnw hT C 314 (by decide +kernel) rfl
theorem nw_141 (hT : xOK E) (C : mx_C E p m c cc nL s args own meth ret) : va_Nw (Jvm.Cond.fieldLinkNest "RingKeepers" (189 : Nat) "RingKeepers$Island" "owner" "[I" "RingKeepers") s := xnw hT C 325 (by decide +kernel) rfl
theorem nw_209 (hT : xOK E) (C : mx_C E p m c cc nL s args own meth ret) : va_Nw (Jvm.Cond.fieldLinkNest "RingKeepers" (160 : Nat) "RingKeepers$State" "x" "[I" "RingKeepers") s := xnw hT C 393 (by decide +kernel) rfl
theorem nw_211 (hT : xOK E) (C : mx_C E p m c cc nL s args own meth ret) : va_Nw (Jvm.Cond.fieldLinkNest "RingKeepers" (164 : Nat) "RingKeepers$State" "y" "[I" "RingKeepers") s := xnw hT C 395 (by decide +kernel) rfl
theorem nw_213 (hT : xOK E) (C : mx_C E p m c cc nL s args own meth ret) : va_Nw (Jvm.Cond.fieldLinkNest "RingKeepers" (170 : Nat) "RingKeepers$State" "steps" "[I" "RingKeepers") s := xnw hT C 397 (by decide +kernel) rfl
theorem nw_216 (hT : xOK E) (C : mx_C E p m c cc nL s args own meth ret) : va_Nw (Jvm.Cond.fieldLinkNest "RingKeepers" (192 : Nat) "RingKeepers$State" "holder" "[I" "RingKeepers") s := xnw hT C 400 (by decide +kernel) rfl
theorem nw_219 (hT : xOK E) (C : mx_C E p m c cc nL s args own meth ret) : va_Nw (Jvm.Cond.fieldLinkNest "RingKeepers" (198 : Nat) "RingKeepers$State" "how" "[I" "RingKeepers") s := xnw hT C 403 (by decide +kernel) rfl
theorem nw_1332 (hT : xOK E) (C : mx_C E p m c cc nL s args own meth ret) : va_Nw (Jvm.Cond.methodLinkNest "RingKeepers" (173 : Nat) ({ cls := "RingKeepers$State", name := "keptBy", desc := "(I)I" } : Jvm.MethodName) "RingKeepers") s := xnw hT C 1516 (by decide +kernel) rfl
theorem nw_1333 (hT : xOK E) (C : mx_C E p m c cc nL s args own meth ret) : va_Nw (Jvm.Cond.methodLinkNest "RingKeepers" (177 : Nat) ({ cls := "RingKeepers$State", name := "wornBy", desc := "(I)I" } : Jvm.MethodName) "RingKeepers") s := xnw hT C 1517 (by decide +kernel) rfl
theorem nw_1334 (hT : xOK E) (C : mx_C E p m c cc nL s args own meth ret) : va_Nw (Jvm.Cond.methodLinkNest "RingKeepers" (180 : Nat) ({ cls := "RingKeepers$Island", name := "ownedBy", desc := "(I)I" } : Jvm.MethodName) "RingKeepers") s := xnw hT C 1518 (by decide +kernel) rfl
theorem nw_1342 (hT : xOK E) (C : mx_C E p m c cc nL s args own meth ret) : va_Nw (Jvm.Cond.methodLinkNest "RingKeepers" (204 : Nat) ({ cls := "RingKeepers$State", name := "ringX", desc := "(I)I" } : Jvm.MethodName) "RingKeepers") s := xnw hT C 1526 (by decide +kernel) rfl
theorem nw_1343 (hT : xOK E) (C : mx_C E p m c cc nL s args own meth ret) : va_Nw (Jvm.Cond.methodLinkNest "RingKeepers" (207 : Nat) ({ cls := "RingKeepers$State", name := "ringY", desc := "(I)I" } : Jvm.MethodName) "RingKeepers") s := xnw hT C 1527 (by decide +kernel) rfl
theorem gX12_160 {k : Nat} {fs : List (Nat × Nat)} {f : Nat × Nat} {v : Value} (C : mx_C E p m c cc nL s args RX12 meth ret) (hT : xOK E) (hM : mx_H E s M H locs) (hk : E.1[k]? = some (.inl (9, fs))) (hf : fs[1]? = some f) (hv : mx_fv E.2.1 M k 1 f = v) (hdg : decode cc pc = .ok (.getfield 160, 3)) (kk : W p l e R s m args below meth c H locs cells slots Q (F0 m (pc + 3) ls (v :: rest))) : W p l e R s m args below meth c H locs cells slots Q (F0 m pc ls (.ref (E.2.1.2.1 k) :: rest)) := by
  subst hv
  exact mx_getN C hM cl_9 hk hf (by decide) (nw_209 hT C) hdg kk
theorem gX12_164 {k : Nat} {fs : List (Nat × Nat)} {f : Nat × Nat} {v : Value} (C : mx_C E p m c cc nL s args RX12 meth ret) (hT : xOK E) (hM : mx_H E s M H locs) (hk : E.1[k]? = some (.inl (9, fs))) (hf : fs[2]? = some f) (hv : mx_fv E.2.1 M k 2 f = v) (hdg : decode cc pc = .ok (.getfield 164, 3)) (kk : W p l e R s m args below meth c H locs cells slots Q (F0 m (pc + 3) ls (v :: rest))) : W p l e R s m args below meth c H locs cells slots Q (F0 m pc ls (.ref (E.2.1.2.1 k) :: rest)) := by
  subst hv
  exact mx_getN C hM cl_9 hk hf (by decide) (nw_211 hT C) hdg kk
theorem gX12_167 {k : Nat} {fs : List (Nat × Nat)} {f : Nat × Nat} {v : Value} (C : mx_C E p m c cc nL s args RX12 meth ret) (hT : xOK E) (hM : mx_H E s M H locs) (hk : E.1[k]? = some (.inl (3, fs))) (hf : fs[5]? = some f) (hv : mx_fv E.2.1 M k 5 f = v) (hdg : decode cc pc = .ok (.getfield 167, 3)) (kk : W p l e R s m args below meth c H locs cells slots Q (F0 m (pc + 3) ls (v :: rest))) : W p l e R s m args below meth c H locs cells slots Q (F0 m pc ls (.ref (E.2.1.2.1 k) :: rest)) := by
  subst hv
  exact mx_getN C hM cl_3 hk hf (by decide) (nw_130 hT C) hdg kk
theorem gX12_170 {k : Nat} {fs : List (Nat × Nat)} {f : Nat × Nat} {v : Value} (C : mx_C E p m c cc nL s args RX12 meth ret) (hT : xOK E) (hM : mx_H E s M H locs) (hk : E.1[k]? = some (.inl (9, fs))) (hf : fs[3]? = some f) (hv : mx_fv E.2.1 M k 3 f = v) (hdg : decode cc pc = .ok (.getfield 170, 3)) (kk : W p l e R s m args below meth c H locs cells slots Q (F0 m (pc + 3) ls (v :: rest))) : W p l e R s m args below meth c H locs cells slots Q (F0 m pc ls (.ref (E.2.1.2.1 k) :: rest)) := by
  subst hv
  exact mx_getN C hM cl_9 hk hf (by decide) (nw_213 hT C) hdg kk
theorem gX12_189 {k : Nat} {fs : List (Nat × Nat)} {f : Nat × Nat} {v : Value} (C : mx_C E p m c cc nL s args RX12 meth ret) (hT : xOK E) (hM : mx_H E s M H locs) (hk : E.1[k]? = some (.inl (3, fs))) (hf : fs[8]? = some f) (hv : mx_fv E.2.1 M k 8 f = v) (hdg : decode cc pc = .ok (.getfield 189, 3)) (kk : W p l e R s m args below meth c H locs cells slots Q (F0 m (pc + 3) ls (v :: rest))) : W p l e R s m args below meth c H locs cells slots Q (F0 m pc ls (.ref (E.2.1.2.1 k) :: rest)) := by
  subst hv
  exact mx_getN C hM cl_3 hk hf (by decide) (nw_141 hT C) hdg kk
theorem gX12_192 {k : Nat} {fs : List (Nat × Nat)} {f : Nat × Nat} {v : Value} (C : mx_C E p m c cc nL s args RX12 meth ret) (hT : xOK E) (hM : mx_H E s M H locs) (hk : E.1[k]? = some (.inl (9, fs))) (hf : fs[4]? = some f) (hv : mx_fv E.2.1 M k 4 f = v) (hdg : decode cc pc = .ok (.getfield 192, 3)) (kk : W p l e R s m args below meth c H locs cells slots Q (F0 m (pc + 3) ls (v :: rest))) : W p l e R s m args below meth c H locs cells slots Q (F0 m pc ls (.ref (E.2.1.2.1 k) :: rest)) := by
  subst hv
  exact mx_getN C hM cl_9 hk hf (by decide) (nw_216 hT C) hdg kk
theorem gX12_198 {k : Nat} {fs : List (Nat × Nat)} {f : Nat × Nat} {v : Value} (C : mx_C E p m c cc nL s args RX12 meth ret) (hT : xOK E) (hM : mx_H E s M H locs) (hk : E.1[k]? = some (.inl (9, fs))) (hf : fs[5]? = some f) (hv : mx_fv E.2.1 M k 5 f = v) (hdg : decode cc pc = .ok (.getfield 198, 3)) (kk : W p l e R s m args below meth c H locs cells slots Q (F0 m (pc + 3) ls (v :: rest))) : W p l e R s m args below meth c H locs cells slots Q (F0 m pc ls (.ref (E.2.1.2.1 k) :: rest)) := by
  subst hv
  exact mx_getN C hM cl_9 hk hf (by decide) (nw_219 hT C) hdg kk
end XKT
theorem dX12_person_0 : decode cX12_person 0 = .ok (.aload_n 0, 1) := by decide +kernel
theorem dX12_person_1 : decode cX12_person 1 = .ok (.getfield 28, 3) := by decide +kernel
theorem dX12_person_4 : decode cX12_person 4 = .ok (.iload_n 1, 1) := by decide +kernel
theorem dX12_person_5 : decode cX12_person 5 = .ok (.invokevirtual 154, 3) := by decide +kernel
theorem dX12_person_8 : decode cX12_person 8 = .ok (.ifCond .ne 11, 3) := by decide +kernel
theorem dX12_person_11 : decode cX12_person 11 = .ok (.new 157, 3) := by decide +kernel
theorem dX12_person_14 : decode cX12_person 14 = .ok (.dup, 1) := by decide +kernel
theorem dX12_person_15 : decode cX12_person 15 = .ok (.invokespecial 159, 3) := by decide +kernel
theorem dX12_person_18 : decode cX12_person 18 = .ok (.athrow, 1) := by decide +kernel
theorem dX12_person_19 : decode cX12_person 19 = .ok (.iload_n 2, 1) := by decide +kernel
theorem dX12_person_20 : decode cX12_person 20 = .ok (.tableswitch 111 0 6 #[44, 54, 64, 74, 84, 93, 102], 44) := by decide +kernel
theorem dX12_person_64 : decode cX12_person 64 = .ok (.aload_n 0, 1) := by decide +kernel
theorem dX12_person_65 : decode cX12_person 65 = .ok (.getfield 40, 3) := by decide +kernel
theorem dX12_person_68 : decode cX12_person 68 = .ok (.getfield 160, 3) := by decide +kernel
theorem dX12_person_71 : decode cX12_person 71 = .ok (.iload_n 1, 1) := by decide +kernel
theorem dX12_person_72 : decode cX12_person 72 = .ok (.iaload, 1) := by decide +kernel
theorem dX12_person_73 : decode cX12_person 73 = .ok (.ireturn, 1) := by decide +kernel
theorem dX12_person_74 : decode cX12_person 74 = .ok (.aload_n 0, 1) := by decide +kernel
theorem dX12_person_75 : decode cX12_person 75 = .ok (.getfield 40, 3) := by decide +kernel
theorem dX12_person_78 : decode cX12_person 78 = .ok (.getfield 164, 3) := by decide +kernel
theorem dX12_person_81 : decode cX12_person 81 = .ok (.iload_n 1, 1) := by decide +kernel
theorem dX12_person_82 : decode cX12_person 82 = .ok (.iaload, 1) := by decide +kernel
theorem dX12_person_83 : decode cX12_person 83 = .ok (.ireturn, 1) := by decide +kernel
theorem dX12_person_84 : decode cX12_person 84 = .ok (.aload_n 0, 1) := by decide +kernel
theorem dX12_person_85 : decode cX12_person 85 = .ok (.getfield 28, 3) := by decide +kernel
theorem dX12_person_88 : decode cX12_person 88 = .ok (.getfield 167, 3) := by decide +kernel
theorem dX12_person_91 : decode cX12_person 91 = .ok (.iload_n 1, 1) := by decide +kernel
theorem dX12_person_92 : decode cX12_person 92 = .ok (.iaload, 1) := by decide +kernel
theorem dX12_person_93 : decode cX12_person 93 = .ok (.ireturn, 1) := by decide +kernel
theorem dX12_person_94 : decode cX12_person 94 = .ok (.aload_n 0, 1) := by decide +kernel
theorem dX12_person_95 : decode cX12_person 95 = .ok (.getfield 40, 3) := by decide +kernel
theorem dX12_person_98 : decode cX12_person 98 = .ok (.getfield 170, 3) := by decide +kernel
theorem dX12_person_101 : decode cX12_person 101 = .ok (.iload_n 1, 1) := by decide +kernel
theorem dX12_person_102 : decode cX12_person 102 = .ok (.iaload, 1) := by decide +kernel
theorem dX12_person_103 : decode cX12_person 103 = .ok (.ireturn, 1) := by decide +kernel
theorem dX12_person_104 : decode cX12_person 104 = .ok (.aload_n 0, 1) := by decide +kernel
theorem dX12_person_105 : decode cX12_person 105 = .ok (.getfield 40, 3) := by decide +kernel
theorem dX12_person_108 : decode cX12_person 108 = .ok (.iload_n 1, 1) := by decide +kernel
theorem dX12_person_109 : decode cX12_person 109 = .ok (.invokevirtual 173, 3) := by decide +kernel
theorem dX12_person_112 : decode cX12_person 112 = .ok (.ireturn, 1) := by decide +kernel
theorem dX12_person_113 : decode cX12_person 113 = .ok (.aload_n 0, 1) := by decide +kernel
theorem dX12_person_114 : decode cX12_person 114 = .ok (.getfield 40, 3) := by decide +kernel
theorem dX12_person_117 : decode cX12_person 117 = .ok (.iload_n 1, 1) := by decide +kernel
theorem dX12_person_118 : decode cX12_person 118 = .ok (.invokevirtual 177, 3) := by decide +kernel
theorem dX12_person_121 : decode cX12_person 121 = .ok (.ireturn, 1) := by decide +kernel
theorem dX12_person_122 : decode cX12_person 122 = .ok (.aload_n 0, 1) := by decide +kernel
theorem dX12_person_123 : decode cX12_person 123 = .ok (.getfield 28, 3) := by decide +kernel
theorem dX12_person_126 : decode cX12_person 126 = .ok (.iload_n 1, 1) := by decide +kernel
theorem dX12_person_127 : decode cX12_person 127 = .ok (.invokevirtual 180, 3) := by decide +kernel
theorem dX12_person_130 : decode cX12_person 130 = .ok (.ireturn, 1) := by decide +kernel
theorem dX12_person_131 : decode cX12_person 131 = .ok (.new 157, 3) := by decide +kernel
theorem dX12_person_134 : decode cX12_person 134 = .ok (.dup, 1) := by decide +kernel
theorem dX12_person_135 : decode cX12_person 135 = .ok (.invokespecial 159, 3) := by decide +kernel
theorem dX12_person_138 : decode cX12_person 138 = .ok (.athrow, 1) := by decide +kernel
def fX12_person (i1 : Int32) (i2 : Int32) (M : MM) : Option Int32 := (fX3_isPerson i1 M).bind fun q5 => if (mx_b q5) = 0 then none else if i2 = 0 then if mx_in i1 7 then some (M.1 30 i1.toNatClampNeg) else none else if i2 = 1 then if mx_in i1 7 then some (M.1 31 i1.toNatClampNeg) else none else if i2 = 2 then if mx_in i1 7 then some (M.1 13 i1.toNatClampNeg) else none else if i2 = 3 then if mx_in i1 7 then some (M.1 32 i1.toNatClampNeg) else none else if i2 = 4 then (fX9_keptBy 29 i1 M).bind fun q109 => some q109 else if i2 = 5 then (fX9_wornBy 29 i1 M).bind fun q118 => some q118 else if i2 = 6 then (fX3_ownedBy i1 M).bind fun q127 => some q127 else none
set_option maxRecDepth 100000 in
set_option maxHeartbeats 4000000 in
theorem kX12_person {E : KE} {l : Launch} (hE : mx_ok E) (i1 : Int32) (i2 : Int32) (hT : xOK E) (M : MM) {q : Int32} (hf : fX12_person i1 i2 M = some q) : mx_Met E l yX12_person cX12_person 3 (some .int) 2 [.ref (E.2.1.2.1 0), .int i1, .int i2] M (some (.int q)) M := by
  refine mx_enter hE (by decide) (Nat.le_of_ble_eq_true rfl) ?_
  intro p e s m below meth c C hM hn ls hl
  have hx := C.1.1
  have hb := C.1.2.1
  have hown := C.1.2.2.2.1
  have hts := C.1.2.2.2.2
  have hl : lv_has ls 3 [(0, .ref (E.2.1.2.1 0)), (1, .int i1), (2, .int i2)] := hl
  rw [fX12_person] at hf
  refine lv_aload_n hx hb dX12_person_0 rfl (lv_at hl 0 rfl) ?_
  refine gX12_28 C hM (xt_0 hT) (f := (2, 9)) rfl (v := .ref (E.2.1.2.1 9)) rfl dX12_person_1 ?_
  refine lv_iload_n hx hb dX12_person_4 rfl (lv_at hl 1 rfl) ?_
  obtain ⟨q5, hq5, hf⟩ := mx_bd hf
  refine mx_callVN C hM hl.1 yo_X3_isPerson (h' := 0) (by decide) (nw_661 hT C) qw_663 qs_34 (ci := 3) (q := (RX3, TX3, 18)) rfl (xt_9 hT) (As := [.int i1]) (rest := []) (st1 := [.int (mx_b q5)]) (kX3_isPerson C.2.2.2.1 i1 hT M hq5) rfl rfl rfl (Nat.le_of_ble_eq_true rfl) dX12_person_5 (fun H locs hM => ?_)
  refine lv_if_ne (tgt := 19) hx hb dX12_person_8 (by decide) (fun hc8 => ?_) (fun hc8 => ?_)
  · replace hf := mx_iff hc8 hf
    refine lv_iload_n hx hb dX12_person_19 rfl (lv_at hl 2 rfl) ?_
    by_cases hs0 : i2 = 0
    · replace hf := mx_ift hs0 hf
      refine lv_tableIn (tgt := 64) hx hb dX12_person_20 (by rw [hs0]; decide) (by rw [hs0]; decide) (by rw [hs0]; rfl) (by decide) ?_
      refine lv_aload_n hx hb dX12_person_64 rfl (lv_at hl 0 rfl) ?_
      refine gX12_40 C hM (xt_0 hT) (f := (2, 29)) rfl (v := .ref (E.2.1.2.1 29)) rfl dX12_person_65 ?_
      refine gX12_160 C hT hM (xt_29 hT) (f := (2, 30)) rfl (v := .ref (E.2.1.2.1 30)) rfl dX12_person_68 ?_
      refine lv_iload_n hx hb dX12_person_71 rfl (lv_at hl 1 rfl) ?_
      obtain ⟨hg72, hf⟩ := mx_gd hf
      refine mx_iald C hM (xt_30 hT) (mx_in_vp hg72) dX12_person_72 ?_
      exact mx_iretR C hM hf dX12_person_73
    replace hf := mx_iff hs0 hf
    by_cases hs1 : i2 = 1
    · replace hf := mx_ift hs1 hf
      refine lv_tableIn (tgt := 74) hx hb dX12_person_20 (by rw [hs1]; decide) (by rw [hs1]; decide) (by rw [hs1]; rfl) (by decide) ?_
      refine lv_aload_n hx hb dX12_person_74 rfl (lv_at hl 0 rfl) ?_
      refine gX12_40 C hM (xt_0 hT) (f := (2, 29)) rfl (v := .ref (E.2.1.2.1 29)) rfl dX12_person_75 ?_
      refine gX12_164 C hT hM (xt_29 hT) (f := (2, 31)) rfl (v := .ref (E.2.1.2.1 31)) rfl dX12_person_78 ?_
      refine lv_iload_n hx hb dX12_person_81 rfl (lv_at hl 1 rfl) ?_
      obtain ⟨hg82, hf⟩ := mx_gd hf
      refine mx_iald C hM (xt_31 hT) (mx_in_vp hg82) dX12_person_82 ?_
      exact mx_iretR C hM hf dX12_person_83
    replace hf := mx_iff hs1 hf
    by_cases hs2 : i2 = 2
    · replace hf := mx_ift hs2 hf
      refine lv_tableIn (tgt := 84) hx hb dX12_person_20 (by rw [hs2]; decide) (by rw [hs2]; decide) (by rw [hs2]; rfl) (by decide) ?_
      refine lv_aload_n hx hb dX12_person_84 rfl (lv_at hl 0 rfl) ?_
      refine gX12_28 C hM (xt_0 hT) (f := (2, 9)) rfl (v := .ref (E.2.1.2.1 9)) rfl dX12_person_85 ?_
      refine gX12_167 C hT hM (xt_9 hT) (f := (2, 13)) rfl (v := .ref (E.2.1.2.1 13)) rfl dX12_person_88 ?_
      refine lv_iload_n hx hb dX12_person_91 rfl (lv_at hl 1 rfl) ?_
      obtain ⟨hg92, hf⟩ := mx_gd hf
      refine mx_iald C hM (xt_13 hT) (mx_in_vp hg92) dX12_person_92 ?_
      exact mx_iretR C hM hf dX12_person_93
    replace hf := mx_iff hs2 hf
    by_cases hs3 : i2 = 3
    · replace hf := mx_ift hs3 hf
      refine lv_tableIn (tgt := 94) hx hb dX12_person_20 (by rw [hs3]; decide) (by rw [hs3]; decide) (by rw [hs3]; rfl) (by decide) ?_
      refine lv_aload_n hx hb dX12_person_94 rfl (lv_at hl 0 rfl) ?_
      refine gX12_40 C hM (xt_0 hT) (f := (2, 29)) rfl (v := .ref (E.2.1.2.1 29)) rfl dX12_person_95 ?_
      refine gX12_170 C hT hM (xt_29 hT) (f := (2, 32)) rfl (v := .ref (E.2.1.2.1 32)) rfl dX12_person_98 ?_
      refine lv_iload_n hx hb dX12_person_101 rfl (lv_at hl 1 rfl) ?_
      obtain ⟨hg102, hf⟩ := mx_gd hf
      refine mx_iald C hM (xt_32 hT) (mx_in_vp hg102) dX12_person_102 ?_
      exact mx_iretR C hM hf dX12_person_103
    replace hf := mx_iff hs3 hf
    by_cases hs4 : i2 = 4
    · replace hf := mx_ift hs4 hf
      refine lv_tableIn (tgt := 104) hx hb dX12_person_20 (by rw [hs4]; decide) (by rw [hs4]; decide) (by rw [hs4]; rfl) (by decide) ?_
      refine lv_aload_n hx hb dX12_person_104 rfl (lv_at hl 0 rfl) ?_
      refine gX12_40 C hM (xt_0 hT) (f := (2, 29)) rfl (v := .ref (E.2.1.2.1 29)) rfl dX12_person_105 ?_
      refine lv_iload_n hx hb dX12_person_108 rfl (lv_at hl 1 rfl) ?_
      obtain ⟨q109, hq109, hf⟩ := mx_bd hf
      refine mx_callVN C hM hl.1 yo_X9_keptBy (h' := 1) (by decide) (nw_1332 hT C) qw_785 qs_55 (ci := 9) (q := (RX9, TX9, 13)) rfl (xt_29 hT) (As := [.int i1]) (rest := []) (st1 := [.int q109]) (kX9_keptBy C.2.2.2.1 29 i1 hT xiS_29 M hq109) rfl rfl rfl (Nat.le_of_ble_eq_true rfl) dX12_person_109 (fun H locs hM => ?_)
      exact mx_iretR C hM hf dX12_person_112
    replace hf := mx_iff hs4 hf
    by_cases hs5 : i2 = 5
    · replace hf := mx_ift hs5 hf
      refine lv_tableIn (tgt := 113) hx hb dX12_person_20 (by rw [hs5]; decide) (by rw [hs5]; decide) (by rw [hs5]; rfl) (by decide) ?_
      refine lv_aload_n hx hb dX12_person_113 rfl (lv_at hl 0 rfl) ?_
      refine gX12_40 C hM (xt_0 hT) (f := (2, 29)) rfl (v := .ref (E.2.1.2.1 29)) rfl dX12_person_114 ?_
      refine lv_iload_n hx hb dX12_person_117 rfl (lv_at hl 1 rfl) ?_
      obtain ⟨q118, hq118, hf⟩ := mx_bd hf
      refine mx_callVN C hM hl.1 yo_X9_wornBy (h' := 0) (by decide) (nw_1333 hT C) qw_748 qs_49 (ci := 9) (q := (RX9, TX9, 13)) rfl (xt_29 hT) (As := [.int i1]) (rest := []) (st1 := [.int q118]) (kX9_wornBy C.2.2.2.1 29 i1 hT xiS_29 M hq118) rfl rfl rfl (Nat.le_of_ble_eq_true rfl) dX12_person_118 (fun H locs hM => ?_)
      exact mx_iretR C hM hf dX12_person_121
    replace hf := mx_iff hs5 hf
    by_cases hs6 : i2 = 6
    · replace hf := mx_ift hs6 hf
      refine lv_tableIn (tgt := 122) hx hb dX12_person_20 (by rw [hs6]; decide) (by rw [hs6]; decide) (by rw [hs6]; rfl) (by decide) ?_
      refine lv_aload_n hx hb dX12_person_122 rfl (lv_at hl 0 rfl) ?_
      refine gX12_28 C hM (xt_0 hT) (f := (2, 9)) rfl (v := .ref (E.2.1.2.1 9)) rfl dX12_person_123 ?_
      refine lv_iload_n hx hb dX12_person_126 rfl (lv_at hl 1 rfl) ?_
      obtain ⟨q127, hq127, hf⟩ := mx_bd hf
      refine mx_callVN C hM hl.1 yo_X3_ownedBy (h' := 0) (by decide) (nw_1334 hT C) qw_1236 qs_106 (ci := 3) (q := (RX3, TX3, 18)) rfl (xt_9 hT) (As := [.int i1]) (rest := []) (st1 := [.int q127]) (kX3_ownedBy C.2.2.2.1 i1 hT M hq127) rfl rfl rfl (Nat.le_of_ble_eq_true rfl) dX12_person_127 (fun H locs hM => ?_)
      exact mx_iretR C hM hf dX12_person_130
    replace hf := mx_iff hs6 hf
    refine lv_tableOut (tgt := 131) hx hb dX12_person_20 (by have hh := And.intro trivial trivial; have hh0 := lv_neT hs0 (by decide : (0 : Int32).toInt = 0); have hh1 := lv_neT hs1 (by decide : (1 : Int32).toInt = 1); have hh2 := lv_neT hs2 (by decide : (2 : Int32).toInt = 2); have hh3 := lv_neT hs3 (by decide : (3 : Int32).toInt = 3); have hh4 := lv_neT hs4 (by decide : (4 : Int32).toInt = 4); have hh5 := lv_neT hs5 (by decide : (5 : Int32).toInt = 5); have hh6 := lv_neT hs6 (by decide : (6 : Int32).toInt = 6); omega) (by decide) ?_
    cases hf
  · replace hf := mx_ift hc8 hf
    cases hf
theorem dX12_ring_0 : decode cX12_ring 0 = .ok (.aload_n 0, 1) := by decide +kernel
theorem dX12_ring_1 : decode cX12_ring 1 = .ok (.getfield 28, 3) := by decide +kernel
theorem dX12_ring_4 : decode cX12_ring 4 = .ok (.iload_n 1, 1) := by decide +kernel
theorem dX12_ring_5 : decode cX12_ring 5 = .ok (.invokevirtual 183, 3) := by decide +kernel
theorem dX12_ring_8 : decode cX12_ring 8 = .ok (.ifCond .ne 11, 3) := by decide +kernel
theorem dX12_ring_11 : decode cX12_ring 11 = .ok (.new 157, 3) := by decide +kernel
theorem dX12_ring_14 : decode cX12_ring 14 = .ok (.dup, 1) := by decide +kernel
theorem dX12_ring_15 : decode cX12_ring 15 = .ok (.invokespecial 159, 3) := by decide +kernel
theorem dX12_ring_18 : decode cX12_ring 18 = .ok (.athrow, 1) := by decide +kernel
theorem dX12_ring_19 : decode cX12_ring 19 = .ok (.iload_n 2, 1) := by decide +kernel
theorem dX12_ring_20 : decode cX12_ring 20 = .ok (.tableswitch 126 0 7 #[48, 58, 68, 78, 88, 98, 108, 117], 48) := by decide +kernel
theorem dX12_ring_68 : decode cX12_ring 68 = .ok (.aload_n 0, 1) := by decide +kernel
theorem dX12_ring_69 : decode cX12_ring 69 = .ok (.getfield 28, 3) := by decide +kernel
theorem dX12_ring_72 : decode cX12_ring 72 = .ok (.getfield 186, 3) := by decide +kernel
theorem dX12_ring_75 : decode cX12_ring 75 = .ok (.iload_n 1, 1) := by decide +kernel
theorem dX12_ring_76 : decode cX12_ring 76 = .ok (.iaload, 1) := by decide +kernel
theorem dX12_ring_77 : decode cX12_ring 77 = .ok (.ireturn, 1) := by decide +kernel
theorem dX12_ring_78 : decode cX12_ring 78 = .ok (.aload_n 0, 1) := by decide +kernel
theorem dX12_ring_79 : decode cX12_ring 79 = .ok (.getfield 28, 3) := by decide +kernel
theorem dX12_ring_82 : decode cX12_ring 82 = .ok (.getfield 189, 3) := by decide +kernel
theorem dX12_ring_85 : decode cX12_ring 85 = .ok (.iload_n 1, 1) := by decide +kernel
theorem dX12_ring_86 : decode cX12_ring 86 = .ok (.iaload, 1) := by decide +kernel
theorem dX12_ring_87 : decode cX12_ring 87 = .ok (.ireturn, 1) := by decide +kernel
theorem dX12_ring_88 : decode cX12_ring 88 = .ok (.aload_n 0, 1) := by decide +kernel
theorem dX12_ring_89 : decode cX12_ring 89 = .ok (.getfield 40, 3) := by decide +kernel
theorem dX12_ring_92 : decode cX12_ring 92 = .ok (.getfield 192, 3) := by decide +kernel
theorem dX12_ring_95 : decode cX12_ring 95 = .ok (.iload_n 1, 1) := by decide +kernel
theorem dX12_ring_96 : decode cX12_ring 96 = .ok (.iaload, 1) := by decide +kernel
theorem dX12_ring_97 : decode cX12_ring 97 = .ok (.ireturn, 1) := by decide +kernel
theorem dX12_ring_98 : decode cX12_ring 98 = .ok (.aload_n 0, 1) := by decide +kernel
theorem dX12_ring_99 : decode cX12_ring 99 = .ok (.getfield 28, 3) := by decide +kernel
theorem dX12_ring_102 : decode cX12_ring 102 = .ok (.getfield 195, 3) := by decide +kernel
theorem dX12_ring_105 : decode cX12_ring 105 = .ok (.iload_n 1, 1) := by decide +kernel
theorem dX12_ring_106 : decode cX12_ring 106 = .ok (.iaload, 1) := by decide +kernel
theorem dX12_ring_107 : decode cX12_ring 107 = .ok (.ireturn, 1) := by decide +kernel
theorem dX12_ring_108 : decode cX12_ring 108 = .ok (.aload_n 0, 1) := by decide +kernel
theorem dX12_ring_109 : decode cX12_ring 109 = .ok (.getfield 40, 3) := by decide +kernel
theorem dX12_ring_112 : decode cX12_ring 112 = .ok (.getfield 198, 3) := by decide +kernel
theorem dX12_ring_115 : decode cX12_ring 115 = .ok (.iload_n 1, 1) := by decide +kernel
theorem dX12_ring_116 : decode cX12_ring 116 = .ok (.iaload, 1) := by decide +kernel
theorem dX12_ring_117 : decode cX12_ring 117 = .ok (.ireturn, 1) := by decide +kernel
theorem dX12_ring_118 : decode cX12_ring 118 = .ok (.aload_n 0, 1) := by decide +kernel
theorem dX12_ring_119 : decode cX12_ring 119 = .ok (.getfield 40, 3) := by decide +kernel
theorem dX12_ring_122 : decode cX12_ring 122 = .ok (.getfield 201, 3) := by decide +kernel
theorem dX12_ring_125 : decode cX12_ring 125 = .ok (.iload_n 1, 1) := by decide +kernel
theorem dX12_ring_126 : decode cX12_ring 126 = .ok (.iaload, 1) := by decide +kernel
theorem dX12_ring_127 : decode cX12_ring 127 = .ok (.ireturn, 1) := by decide +kernel
theorem dX12_ring_128 : decode cX12_ring 128 = .ok (.aload_n 0, 1) := by decide +kernel
theorem dX12_ring_129 : decode cX12_ring 129 = .ok (.getfield 40, 3) := by decide +kernel
theorem dX12_ring_132 : decode cX12_ring 132 = .ok (.iload_n 1, 1) := by decide +kernel
theorem dX12_ring_133 : decode cX12_ring 133 = .ok (.invokevirtual 204, 3) := by decide +kernel
theorem dX12_ring_136 : decode cX12_ring 136 = .ok (.ireturn, 1) := by decide +kernel
theorem dX12_ring_137 : decode cX12_ring 137 = .ok (.aload_n 0, 1) := by decide +kernel
theorem dX12_ring_138 : decode cX12_ring 138 = .ok (.getfield 40, 3) := by decide +kernel
theorem dX12_ring_141 : decode cX12_ring 141 = .ok (.iload_n 1, 1) := by decide +kernel
theorem dX12_ring_142 : decode cX12_ring 142 = .ok (.invokevirtual 207, 3) := by decide +kernel
theorem dX12_ring_145 : decode cX12_ring 145 = .ok (.ireturn, 1) := by decide +kernel
theorem dX12_ring_146 : decode cX12_ring 146 = .ok (.new 157, 3) := by decide +kernel
theorem dX12_ring_149 : decode cX12_ring 149 = .ok (.dup, 1) := by decide +kernel
theorem dX12_ring_150 : decode cX12_ring 150 = .ok (.invokespecial 159, 3) := by decide +kernel
theorem dX12_ring_153 : decode cX12_ring 153 = .ok (.athrow, 1) := by decide +kernel
def fX12_ring (i1 : Int32) (i2 : Int32) (M : MM) : Option Int32 := (fX3_isRing i1 M).bind fun q5 => if (mx_b q5) = 0 then none else if i2 = 0 then if mx_in i1 7 then some (M.1 15 i1.toNatClampNeg) else none else if i2 = 1 then if mx_in i1 7 then some (M.1 16 i1.toNatClampNeg) else none else if i2 = 2 then if mx_in i1 7 then some (M.1 33 i1.toNatClampNeg) else none else if i2 = 3 then if mx_in i1 7 then some (M.1 18 i1.toNatClampNeg) else none else if i2 = 4 then if mx_in i1 7 then some (M.1 34 i1.toNatClampNeg) else none else if i2 = 5 then if mx_in i1 7 then some (M.1 37 i1.toNatClampNeg) else none else if i2 = 6 then (fX9_ringX i1 M).bind fun q133 => some q133 else if i2 = 7 then (fX9_ringY i1 M).bind fun q142 => some q142 else none
set_option maxRecDepth 100000 in
set_option maxHeartbeats 4000000 in
theorem kX12_ring {E : KE} {l : Launch} (hE : mx_ok E) (i1 : Int32) (i2 : Int32) (hT : xOK E) (M : MM) {q : Int32} (hf : fX12_ring i1 i2 M = some q) : mx_Met E l yX12_ring cX12_ring 3 (some .int) 2 [.ref (E.2.1.2.1 0), .int i1, .int i2] M (some (.int q)) M := by
  refine mx_enter hE (by decide) (Nat.le_of_ble_eq_true rfl) ?_
  intro p e s m below meth c C hM hn ls hl
  have hx := C.1.1
  have hb := C.1.2.1
  have hown := C.1.2.2.2.1
  have hts := C.1.2.2.2.2
  have hl : lv_has ls 3 [(0, .ref (E.2.1.2.1 0)), (1, .int i1), (2, .int i2)] := hl
  rw [fX12_ring] at hf
  refine lv_aload_n hx hb dX12_ring_0 rfl (lv_at hl 0 rfl) ?_
  refine gX12_28 C hM (xt_0 hT) (f := (2, 9)) rfl (v := .ref (E.2.1.2.1 9)) rfl dX12_ring_1 ?_
  refine lv_iload_n hx hb dX12_ring_4 rfl (lv_at hl 1 rfl) ?_
  obtain ⟨q5, hq5, hf⟩ := mx_bd hf
  refine mx_callVN C hM hl.1 yo_X3_isRing (h' := 0) (by decide) (nw_657 hT C) qw_659 qs_33 (ci := 3) (q := (RX3, TX3, 18)) rfl (xt_9 hT) (As := [.int i1]) (rest := []) (st1 := [.int (mx_b q5)]) (kX3_isRing C.2.2.2.1 i1 hT M hq5) rfl rfl rfl (Nat.le_of_ble_eq_true rfl) dX12_ring_5 (fun H locs hM => ?_)
  refine lv_if_ne (tgt := 19) hx hb dX12_ring_8 (by decide) (fun hc8 => ?_) (fun hc8 => ?_)
  · replace hf := mx_iff hc8 hf
    refine lv_iload_n hx hb dX12_ring_19 rfl (lv_at hl 2 rfl) ?_
    by_cases hs0 : i2 = 0
    · replace hf := mx_ift hs0 hf
      refine lv_tableIn (tgt := 68) hx hb dX12_ring_20 (by rw [hs0]; decide) (by rw [hs0]; decide) (by rw [hs0]; rfl) (by decide) ?_
      refine lv_aload_n hx hb dX12_ring_68 rfl (lv_at hl 0 rfl) ?_
      refine gX12_28 C hM (xt_0 hT) (f := (2, 9)) rfl (v := .ref (E.2.1.2.1 9)) rfl dX12_ring_69 ?_
      refine gX12_186 C hT hM (xt_9 hT) (f := (2, 15)) rfl (v := .ref (E.2.1.2.1 15)) rfl dX12_ring_72 ?_
      refine lv_iload_n hx hb dX12_ring_75 rfl (lv_at hl 1 rfl) ?_
      obtain ⟨hg76, hf⟩ := mx_gd hf
      refine mx_iald C hM (xt_15 hT) (mx_in_vp hg76) dX12_ring_76 ?_
      exact mx_iretR C hM hf dX12_ring_77
    replace hf := mx_iff hs0 hf
    by_cases hs1 : i2 = 1
    · replace hf := mx_ift hs1 hf
      refine lv_tableIn (tgt := 78) hx hb dX12_ring_20 (by rw [hs1]; decide) (by rw [hs1]; decide) (by rw [hs1]; rfl) (by decide) ?_
      refine lv_aload_n hx hb dX12_ring_78 rfl (lv_at hl 0 rfl) ?_
      refine gX12_28 C hM (xt_0 hT) (f := (2, 9)) rfl (v := .ref (E.2.1.2.1 9)) rfl dX12_ring_79 ?_
      refine gX12_189 C hT hM (xt_9 hT) (f := (2, 16)) rfl (v := .ref (E.2.1.2.1 16)) rfl dX12_ring_82 ?_
      refine lv_iload_n hx hb dX12_ring_85 rfl (lv_at hl 1 rfl) ?_
      obtain ⟨hg86, hf⟩ := mx_gd hf
      refine mx_iald C hM (xt_16 hT) (mx_in_vp hg86) dX12_ring_86 ?_
      exact mx_iretR C hM hf dX12_ring_87
    replace hf := mx_iff hs1 hf
    by_cases hs2 : i2 = 2
    · replace hf := mx_ift hs2 hf
      refine lv_tableIn (tgt := 88) hx hb dX12_ring_20 (by rw [hs2]; decide) (by rw [hs2]; decide) (by rw [hs2]; rfl) (by decide) ?_
      refine lv_aload_n hx hb dX12_ring_88 rfl (lv_at hl 0 rfl) ?_
      refine gX12_40 C hM (xt_0 hT) (f := (2, 29)) rfl (v := .ref (E.2.1.2.1 29)) rfl dX12_ring_89 ?_
      refine gX12_192 C hT hM (xt_29 hT) (f := (2, 33)) rfl (v := .ref (E.2.1.2.1 33)) rfl dX12_ring_92 ?_
      refine lv_iload_n hx hb dX12_ring_95 rfl (lv_at hl 1 rfl) ?_
      obtain ⟨hg96, hf⟩ := mx_gd hf
      refine mx_iald C hM (xt_33 hT) (mx_in_vp hg96) dX12_ring_96 ?_
      exact mx_iretR C hM hf dX12_ring_97
    replace hf := mx_iff hs2 hf
    by_cases hs3 : i2 = 3
    · replace hf := mx_ift hs3 hf
      refine lv_tableIn (tgt := 98) hx hb dX12_ring_20 (by rw [hs3]; decide) (by rw [hs3]; decide) (by rw [hs3]; rfl) (by decide) ?_
      refine lv_aload_n hx hb dX12_ring_98 rfl (lv_at hl 0 rfl) ?_
      refine gX12_28 C hM (xt_0 hT) (f := (2, 9)) rfl (v := .ref (E.2.1.2.1 9)) rfl dX12_ring_99 ?_
      refine gX12_195 C hT hM (xt_9 hT) (f := (2, 18)) rfl (v := .ref (E.2.1.2.1 18)) rfl dX12_ring_102 ?_
      refine lv_iload_n hx hb dX12_ring_105 rfl (lv_at hl 1 rfl) ?_
      obtain ⟨hg106, hf⟩ := mx_gd hf
      refine mx_iald C hM (xt_18 hT) (mx_in_vp hg106) dX12_ring_106 ?_
      exact mx_iretR C hM hf dX12_ring_107
    replace hf := mx_iff hs3 hf
    by_cases hs4 : i2 = 4
    · replace hf := mx_ift hs4 hf
      refine lv_tableIn (tgt := 108) hx hb dX12_ring_20 (by rw [hs4]; decide) (by rw [hs4]; decide) (by rw [hs4]; rfl) (by decide) ?_
      refine lv_aload_n hx hb dX12_ring_108 rfl (lv_at hl 0 rfl) ?_
      refine gX12_40 C hM (xt_0 hT) (f := (2, 29)) rfl (v := .ref (E.2.1.2.1 29)) rfl dX12_ring_109 ?_
      refine gX12_198 C hT hM (xt_29 hT) (f := (2, 34)) rfl (v := .ref (E.2.1.2.1 34)) rfl dX12_ring_112 ?_
      refine lv_iload_n hx hb dX12_ring_115 rfl (lv_at hl 1 rfl) ?_
      obtain ⟨hg116, hf⟩ := mx_gd hf
      refine mx_iald C hM (xt_34 hT) (mx_in_vp hg116) dX12_ring_116 ?_
      exact mx_iretR C hM hf dX12_ring_117
    replace hf := mx_iff hs4 hf
    by_cases hs5 : i2 = 5
    · replace hf := mx_ift hs5 hf
      refine lv_tableIn (tgt := 118) hx hb dX12_ring_20 (by rw [hs5]; decide) (by rw [hs5]; decide) (by rw [hs5]; rfl) (by decide) ?_
      refine lv_aload_n hx hb dX12_ring_118 rfl (lv_at hl 0 rfl) ?_
      refine gX12_40 C hM (xt_0 hT) (f := (2, 29)) rfl (v := .ref (E.2.1.2.1 29)) rfl dX12_ring_119 ?_
      refine gX12_201 C hT hM (xt_29 hT) (f := (2, 37)) rfl (v := .ref (E.2.1.2.1 37)) rfl dX12_ring_122 ?_
      refine lv_iload_n hx hb dX12_ring_125 rfl (lv_at hl 1 rfl) ?_
      obtain ⟨hg126, hf⟩ := mx_gd hf
      refine mx_iald C hM (xt_37 hT) (mx_in_vp hg126) dX12_ring_126 ?_
      exact mx_iretR C hM hf dX12_ring_127
    replace hf := mx_iff hs5 hf
    by_cases hs6 : i2 = 6
    · replace hf := mx_ift hs6 hf
      refine lv_tableIn (tgt := 128) hx hb dX12_ring_20 (by rw [hs6]; decide) (by rw [hs6]; decide) (by rw [hs6]; rfl) (by decide) ?_
      refine lv_aload_n hx hb dX12_ring_128 rfl (lv_at hl 0 rfl) ?_
      refine gX12_40 C hM (xt_0 hT) (f := (2, 29)) rfl (v := .ref (E.2.1.2.1 29)) rfl dX12_ring_129 ?_
      refine lv_iload_n hx hb dX12_ring_132 rfl (lv_at hl 1 rfl) ?_
      obtain ⟨q133, hq133, hf⟩ := mx_bd hf
      refine mx_callVN C hM hl.1 yo_X9_ringX (h' := 1) (by decide) (nw_1342 hT C) qw_819 qs_60 (ci := 9) (q := (RX9, TX9, 13)) rfl (xt_29 hT) (As := [.int i1]) (rest := []) (st1 := [.int q133]) (kX9_ringX C.2.2.2.1 i1 hT M hq133) rfl rfl rfl (Nat.le_of_ble_eq_true rfl) dX12_ring_133 (fun H locs hM => ?_)
      exact mx_iretR C hM hf dX12_ring_136
    replace hf := mx_iff hs6 hf
    by_cases hs7 : i2 = 7
    · replace hf := mx_ift hs7 hf
      refine lv_tableIn (tgt := 137) hx hb dX12_ring_20 (by rw [hs7]; decide) (by rw [hs7]; decide) (by rw [hs7]; rfl) (by decide) ?_
      refine lv_aload_n hx hb dX12_ring_137 rfl (lv_at hl 0 rfl) ?_
      refine gX12_40 C hM (xt_0 hT) (f := (2, 29)) rfl (v := .ref (E.2.1.2.1 29)) rfl dX12_ring_138 ?_
      refine lv_iload_n hx hb dX12_ring_141 rfl (lv_at hl 1 rfl) ?_
      obtain ⟨q142, hq142, hf⟩ := mx_bd hf
      refine mx_callVN C hM hl.1 yo_X9_ringY (h' := 1) (by decide) (nw_1343 hT C) qw_823 qs_61 (ci := 9) (q := (RX9, TX9, 13)) rfl (xt_29 hT) (As := [.int i1]) (rest := []) (st1 := [.int q142]) (kX9_ringY C.2.2.2.1 i1 hT M hq142) rfl rfl rfl (Nat.le_of_ble_eq_true rfl) dX12_ring_142 (fun H locs hM => ?_)
      exact mx_iretR C hM hf dX12_ring_145
    replace hf := mx_iff hs7 hf
    refine lv_tableOut (tgt := 146) hx hb dX12_ring_20 (by have hh := And.intro trivial trivial; have hh0 := lv_neT hs0 (by decide : (0 : Int32).toInt = 0); have hh1 := lv_neT hs1 (by decide : (1 : Int32).toInt = 1); have hh2 := lv_neT hs2 (by decide : (2 : Int32).toInt = 2); have hh3 := lv_neT hs3 (by decide : (3 : Int32).toInt = 3); have hh4 := lv_neT hs4 (by decide : (4 : Int32).toInt = 4); have hh5 := lv_neT hs5 (by decide : (5 : Int32).toInt = 5); have hh6 := lv_neT hs6 (by decide : (6 : Int32).toInt = 6); have hh7 := lv_neT hs7 (by decide : (7 : Int32).toInt = 7); omega) (by decide) ?_
    cases hf
  · replace hf := mx_ift hc8 hf
    cases hf
