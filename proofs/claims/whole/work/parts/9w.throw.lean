/-! person and ring of the class, where they throw -/
def NSE : String := "java/util/NoSuchElementException"
abbrev NSA : List Cond := vx_at0 RX12 159 NSE ["java/lang/RuntimeException", "java/lang/Exception"]
abbrev NSB : List Cond := NSA.filter (fun w => !goodWord w)
def isDC : Cond → Bool
  | .castable .. => true
  | .declares .. => true
  | _ => false
theorem ns_1 : ∀ w ∈ NSB, isDC w = true := by decide +kernel
set_option maxRecDepth 100000 in
theorem ns_7 : ∀ w ∈ NSB, w ∈ lw_tbl := by decide +kernel
theorem ns_8 : Cond.castable NSE NSE ∈ NSB := by decide +kernel
theorem ns_9 {w : Cond} (h : isDC w = true) : w.onTables = true := by
  cases w <;> first | rfl | (simp [isDC] at h)
set_option maxRecDepth 100000 in
theorem ns_2 : ∀ w ∈ NSA.filter goodWord, w ∈ lw_tbl := by decide +kernel
theorem ns_3 : ∀ w ∈ Cond.classLink RX12 157 NSE :: Cond.initialized NSE :: NSA, vx_ot w = true := by decide +kernel
theorem ns_4 : Cond.classLink RX12 157 NSE ∈ mx_wall := mx_w 1455 (by decide +kernel) (by decide +kernel)
theorem ns_5 : Cond.initialized NSE ∈ mx_wall := mx_w 204 (by decide +kernel) (by decide +kernel)
theorem ns_6 {args : Array Value} {s : State} (hts : ∀ w ∈ mx_wall, w.before args s = true) (hc : ∀ w ∈ NSB, va_Nw w s) : ∀ w ∈ NSA, w.before args s = true := by
  refine vx_hat (B := NSB) (fun w hw => hts w (List.mem_filter.mpr ⟨ns_2 w hw, (List.mem_filter.mp hw).2⟩)) (fun w hw => hw) (fun w hw => va_Nw.use (ns_9 (ns_1 w hw)) (hc w hw))
def vxX (E : KE) (M : MM) : String → State → State → Prop := fun C st t => C = NSE ∧ va_P E.2.1.1 mx_cl (mx_ws E.1 E.2.1 M) t.heap ∧ va_F E.2.2.1 st t
def vxG (E : KE) (s : State) : Prop := (∀ w ∈ NSB, va_Nw w s) ∧ vx_Zq Bundle.tN "UNASSIGNED_STACK" Bundle.steD E.2.2.1 s s.heap ∧ vx_Zq Bundle.tN "SUPPRESSED_SENTINEL" Bundle.listD E.2.2.1 s s.heap
section THR
variable {p : Program} {l : Launch} {e : Env} {R : Room} {s : State} {m : MethodId} {args : Array Value} {below : List Frame} {meth : Method} {c : Code} {H : Heap} {locs : List Loc} {cells slots : Nat} {Q : State → Prop}
variable {cc : ByteArray} {nL pc : Nat} {ls : Array Slot} {rest : List Value} {E : KE} {M : MM} {own : String} {ret : Option FieldType}
theorem lw_callVN {h' n index yL k ci : Nat} {host : String} {y : MethodName} {yc : ByteArray} {yr : Option FieldType} {q : vw_C} {fs : List (Nat × Nat)} {As : List Value} {st0 st1 : List Value} {o : Option Value} {M' : MM} (C : mx_C E p m c cc nL s args own meth ret) (hM : mx_H E s M H locs) (hl : ls.size = nL) (Y : mx_Y y yc yL yr n) (hR : h' + 1 ≤ R.frames ∧ 8 + (yL + 11) + 64 * h' ≤ R.locals) (hlink : va_Nw (.methodLinkNest own index y host) s) (hins : Cond.instanceMethod y ∈ mx_wall) (hsel : Cond.selects q.1 y y ∈ mx_wall) (hc : mx_cl[ci]? = some q) (hT : E.1[k]? = some (.inl (ci, fs)))
    (hy : mx_Met E l y yc yL yr h' (.ref (E.2.1.2.1 k) :: As) M o M') (hn : As.length = n) (hst : st0 = As.reverse ++ .ref (E.2.1.2.1 k) :: rest) (hs1 : o.toList ++ rest = st1) (hW : (rest.map fun v => v.category).sum ≤ 8) (hdg : decode cc pc = .ok (.invokevirtual index, 3)) (hf : cells ≤ R.cells ∧ slots ≤ R.slots)
    (kk : ∀ (H : Heap) (locs : List Loc), mx_H E s M' H locs → W p l e R s m args below meth c H locs cells slots Q (F0 m (pc + 3) ls st1)) : W p l e R s m args below meth c H locs cells slots Q (F0 m pc ls st0) := by
  have hts := C.1.2.2.2.2
  subst hs1
  exact lw_back (A := E.2.2.1) hM.2 (fun _ h => h) (va_runVN C.1 hy ⟨va_cnB n hts (mx_good Y.1) rfl rfl rfl hlink (hts _ Y.2.1) Y.2.2.1 hR, hts _ hins, hts _ hsel⟩ ⟨mx_blind C.2.2.2.1, mx_recv C.2.1 hM hc hT, mx_pre C hM⟩ rfl hn hl hst (lv_room hW) hdg ⟨by omega, by omega⟩) (fun H1 locs1 hP hS _ _ => kk H1 locs1 ⟨hP, hS⟩)
theorem vx_ns {Qc : Array Value → State → Outcome → State → Prop} (hst : l.stackTraces = false) (C : mx_C E p m c cc nL s args RX12 meth ret) (hG : vxG E s) (hM : mx_H E s M H locs) (hl : ls.size = nL) (htab : ∀ x ∈ c.exceptionTable.toList, False) (d0 : decode cc pc = .ok (.new 157, 3)) (d3 : decode cc (pc + 3) = .ok (.dup, 1)) (d4 : decode cc (pc + 4) = .ok (.invokespecial 159, 3)) (d7 : decode cc (pc + 7) = .ok (.athrow, 1)) : W p l e (cw_rm 8 1 6) s m args below meth c H locs 0 0 (vx_MQ below Qc (vxX E M) args s 1 6 E.2.2.1) (F0 m pc ls []) := by
  obtain ⟨⟨hx, hb, hml, hown, hts⟩, hK, hGs, hE, hlo, hr⟩ := C
  refine vx_throw0 hx hb hst (own := RX12) (cls := NSE) (names := ["java/lang/RuntimeException", "java/lang/Exception"]) (ik := 157) (ic := 159) (A := E.2.2.1) hown (by decide +kernel) (by decide +kernel) (hts _ ns_4) (hts _ ns_5) (ns_6 hts hG.1) ns_3 hG.2.1 hG.2.2 hM.2 (hl.trans hml.symm) d0 d3 d4 d7 (fun x hx => (htab x hx).elim) (by decide) (by decide) (by decide) (by decide) hlo (fun t _ hz hk => ⟨rfl, ?_, ?_⟩) hM.2.2.2 (by decide) (by decide)
  · exact hM.1.kept (fun k q hq => hk q.1 ((hM.1 k q hq).lt))
  · exact ⟨Nat.le_trans hM.2.1 hz, fun q h1 h2 => by rw [hk q (Nat.lt_of_lt_of_le h1 hM.2.1)]; exact hM.2.2.1 q h1 h2⟩
end THR
set_option maxRecDepth 100000 in
theorem tX12_person {E : KE} {l : Launch} (hst : l.stackTraces = false) (hE : mx_ok E) (hT : xOK E) (hG : ∀ s, E.2.2.2 s → vxG E s) (i1 i2 : Int32) (M : MM) (hf : fX3_isPerson i1 M = some false ∨ (fX3_isPerson i1 M = some true ∧ mx_in i2 7 = false)) : vx_Met l yX12_person (Cond.code yX12_person cX12_person 3 (some .int) :: mx_wall) (cw_rm 8 1 6) (va_Pc [.ref (E.2.1.2.1 0), .int i1, .int i2] (mx_Pre E M)) (fun _ _ _ _ => False) (vxX E M) 1 6 E.2.2.1 := by
  refine vx_ofW (cc := cX12_person) (maxL := 3) (ret := some .int) (by decide) rfl ?_
  intro p e s m args below meth c s₁ B hml htab hv
  obtain ⟨rfl, hP, hK, hGs⟩ := hv
  have hts0 := atoms_spec (ws := Cond.code yX12_person cX12_person 3 (some .int) :: mx_wall) B.pre
  have hown : s.vm.findClass RX12 = some m.cls := findClass_of_methodNamed B.named
  have hl := lv_entry [Value.ref (E.2.1.2.1 0), .int i1, .int i2] (n := 3) (Nat.le_of_ble_eq_true rfl)
  have C : mx_C E p m c cX12_person 3 s [Value.ref (E.2.1.2.1 0), .int i1, .int i2].toArray RX12 meth (some .int) := ⟨⟨B.exec, B.bytes, hml, hown, fun w hw => hts0 w (List.mem_cons_of_mem _ hw)⟩, hK, hGs, hE, B.notSynchronized, B.returns⟩
  have hM : mx_H E s M s.heap [] := ⟨hP, va_S.rf⟩
  rw [lg_entry_eq]
  generalize ((lg_sl [Value.ref (E.2.1.2.1 0), .int i1, .int i2] ++ List.replicate (3 - (lg_sl [Value.ref (E.2.1.2.1 0), .int i1, .int i2]).length) Slot.unset).toArray) = ls at hl
  have hl : lv_has ls 3 [(0, .ref (E.2.1.2.1 0)), (1, .int i1), (2, .int i2)] := hl
  have hx := C.1.1
  have hb := C.1.2.1
  have hq : ∃ q5, fX3_isPerson i1 M = some q5 := by
    rcases hf with h | h
    · exact ⟨_, h⟩
    · exact ⟨_, h.1⟩
  obtain ⟨q5, hq5⟩ := hq
  show W p l e (cw_rm 8 1 6) s m _ below meth c s.heap [] 0 0 _ _
  refine lv_aload_n hx hb dX12_person_0 rfl (lv_at hl 0 rfl) ?_
  refine gX12_28 C hM (xt_0 hT) (f := (2, 9)) rfl (v := .ref (E.2.1.2.1 9)) rfl dX12_person_1 ?_
  refine lv_iload_n hx hb dX12_person_4 rfl (lv_at hl 1 rfl) ?_
  refine lw_callVN C hM hl.1 yo_X3_isPerson (h' := 0) (by decide) (nw_661 hT C) qw_663 qs_34 (ci := 3) (q := (RX3, TX3, 18)) rfl (xt_9 hT) (As := [.int i1]) (rest := []) (st1 := [.int (mx_b q5)]) (kX3_isPerson C.2.2.2.1 i1 hT M hq5) rfl rfl rfl (Nat.le_of_ble_eq_true rfl) dX12_person_5 (by decide) (fun H locs hM => ?_)
  refine lv_if_ne (tgt := 19) hx hb dX12_person_8 (by decide) (fun hc8 => ?_) (fun hc8 => ?_)
  · have hb2 : mx_in i2 7 = false := by
      rcases hf with h | h
      · rw [hq5] at h
        cases h
        exact absurd rfl hc8
      · exact h.2
    refine lv_iload_n hx hb dX12_person_19 rfl (lv_at hl 2 rfl) ?_
    have hout : i2.toInt < 0 ∨ 6 < i2.toInt := by
      have g0 : i2.toInt ≠ 0 := fun h => by
        have h2 : i2 = nI 0 := Int32.toInt_inj.mp (h.trans (nI_toInt (by decide)).symm)
        rw [h2, pb_in (by decide) (by decide)] at hb2
        cases hb2
      have g1 : i2.toInt ≠ 1 := fun h => by
        have h2 : i2 = nI 1 := Int32.toInt_inj.mp (h.trans (nI_toInt (by decide)).symm)
        rw [h2, pb_in (by decide) (by decide)] at hb2
        cases hb2
      have g2 : i2.toInt ≠ 2 := fun h => by
        have h2 : i2 = nI 2 := Int32.toInt_inj.mp (h.trans (nI_toInt (by decide)).symm)
        rw [h2, pb_in (by decide) (by decide)] at hb2
        cases hb2
      have g3 : i2.toInt ≠ 3 := fun h => by
        have h2 : i2 = nI 3 := Int32.toInt_inj.mp (h.trans (nI_toInt (by decide)).symm)
        rw [h2, pb_in (by decide) (by decide)] at hb2
        cases hb2
      have g4 : i2.toInt ≠ 4 := fun h => by
        have h2 : i2 = nI 4 := Int32.toInt_inj.mp (h.trans (nI_toInt (by decide)).symm)
        rw [h2, pb_in (by decide) (by decide)] at hb2
        cases hb2
      have g5 : i2.toInt ≠ 5 := fun h => by
        have h2 : i2 = nI 5 := Int32.toInt_inj.mp (h.trans (nI_toInt (by decide)).symm)
        rw [h2, pb_in (by decide) (by decide)] at hb2
        cases hb2
      have g6 : i2.toInt ≠ 6 := fun h => by
        have h2 : i2 = nI 6 := Int32.toInt_inj.mp (h.trans (nI_toInt (by decide)).symm)
        rw [h2, pb_in (by decide) (by decide)] at hb2
        cases hb2
      omega
    refine lv_tableOut (tgt := 131) hx hb dX12_person_20 hout (by decide) ?_
    exact vx_ns hst C (hG s hGs) hM hl.1 htab dX12_person_131 dX12_person_134 dX12_person_135 dX12_person_138
  · exact vx_ns hst C (hG s hGs) hM hl.1 htab dX12_person_11 dX12_person_14 dX12_person_15 dX12_person_18
set_option maxRecDepth 100000 in
theorem tX12_ring {E : KE} {l : Launch} (hst : l.stackTraces = false) (hE : mx_ok E) (hT : xOK E) (hG : ∀ s, E.2.2.2 s → vxG E s) (i1 i2 : Int32) (M : MM) (hf : fX3_isRing i1 M = some false ∨ (fX3_isRing i1 M = some true ∧ mx_in i2 8 = false)) : vx_Met l yX12_ring (Cond.code yX12_ring cX12_ring 3 (some .int) :: mx_wall) (cw_rm 8 1 6) (va_Pc [.ref (E.2.1.2.1 0), .int i1, .int i2] (mx_Pre E M)) (fun _ _ _ _ => False) (vxX E M) 1 6 E.2.2.1 := by
  refine vx_ofW (cc := cX12_ring) (maxL := 3) (ret := some .int) (by decide) rfl ?_
  intro p e s m args below meth c s₁ B hml htab hv
  obtain ⟨rfl, hP, hK, hGs⟩ := hv
  have hts0 := atoms_spec (ws := Cond.code yX12_ring cX12_ring 3 (some .int) :: mx_wall) B.pre
  have hown : s.vm.findClass RX12 = some m.cls := findClass_of_methodNamed B.named
  have hl := lv_entry [Value.ref (E.2.1.2.1 0), .int i1, .int i2] (n := 3) (Nat.le_of_ble_eq_true rfl)
  have C : mx_C E p m c cX12_ring 3 s [Value.ref (E.2.1.2.1 0), .int i1, .int i2].toArray RX12 meth (some .int) := ⟨⟨B.exec, B.bytes, hml, hown, fun w hw => hts0 w (List.mem_cons_of_mem _ hw)⟩, hK, hGs, hE, B.notSynchronized, B.returns⟩
  have hM : mx_H E s M s.heap [] := ⟨hP, va_S.rf⟩
  rw [lg_entry_eq]
  generalize ((lg_sl [Value.ref (E.2.1.2.1 0), .int i1, .int i2] ++ List.replicate (3 - (lg_sl [Value.ref (E.2.1.2.1 0), .int i1, .int i2]).length) Slot.unset).toArray) = ls at hl
  have hl : lv_has ls 3 [(0, .ref (E.2.1.2.1 0)), (1, .int i1), (2, .int i2)] := hl
  have hx := C.1.1
  have hb := C.1.2.1
  have hq : ∃ q5, fX3_isRing i1 M = some q5 := by
    rcases hf with h | h
    · exact ⟨_, h⟩
    · exact ⟨_, h.1⟩
  obtain ⟨q5, hq5⟩ := hq
  show W p l e (cw_rm 8 1 6) s m _ below meth c s.heap [] 0 0 _ _
  refine lv_aload_n hx hb dX12_ring_0 rfl (lv_at hl 0 rfl) ?_
  refine gX12_28 C hM (xt_0 hT) (f := (2, 9)) rfl (v := .ref (E.2.1.2.1 9)) rfl dX12_ring_1 ?_
  refine lv_iload_n hx hb dX12_ring_4 rfl (lv_at hl 1 rfl) ?_
  refine lw_callVN C hM hl.1 yo_X3_isRing (h' := 0) (by decide) (nw_657 hT C) qw_659 qs_33 (ci := 3) (q := (RX3, TX3, 18)) rfl (xt_9 hT) (As := [.int i1]) (rest := []) (st1 := [.int (mx_b q5)]) (kX3_isRing C.2.2.2.1 i1 hT M hq5) rfl rfl rfl (Nat.le_of_ble_eq_true rfl) dX12_ring_5 (by decide) (fun H locs hM => ?_)
  refine lv_if_ne (tgt := 19) hx hb dX12_ring_8 (by decide) (fun hc8 => ?_) (fun hc8 => ?_)
  · have hb2 : mx_in i2 8 = false := by
      rcases hf with h | h
      · rw [hq5] at h
        cases h
        exact absurd rfl hc8
      · exact h.2
    refine lv_iload_n hx hb dX12_ring_19 rfl (lv_at hl 2 rfl) ?_
    have hout : i2.toInt < 0 ∨ 7 < i2.toInt := by
      have g0 : i2.toInt ≠ 0 := fun h => by
        have h2 : i2 = nI 0 := Int32.toInt_inj.mp (h.trans (nI_toInt (by decide)).symm)
        rw [h2, pb_in (by decide) (by decide)] at hb2
        cases hb2
      have g1 : i2.toInt ≠ 1 := fun h => by
        have h2 : i2 = nI 1 := Int32.toInt_inj.mp (h.trans (nI_toInt (by decide)).symm)
        rw [h2, pb_in (by decide) (by decide)] at hb2
        cases hb2
      have g2 : i2.toInt ≠ 2 := fun h => by
        have h2 : i2 = nI 2 := Int32.toInt_inj.mp (h.trans (nI_toInt (by decide)).symm)
        rw [h2, pb_in (by decide) (by decide)] at hb2
        cases hb2
      have g3 : i2.toInt ≠ 3 := fun h => by
        have h2 : i2 = nI 3 := Int32.toInt_inj.mp (h.trans (nI_toInt (by decide)).symm)
        rw [h2, pb_in (by decide) (by decide)] at hb2
        cases hb2
      have g4 : i2.toInt ≠ 4 := fun h => by
        have h2 : i2 = nI 4 := Int32.toInt_inj.mp (h.trans (nI_toInt (by decide)).symm)
        rw [h2, pb_in (by decide) (by decide)] at hb2
        cases hb2
      have g5 : i2.toInt ≠ 5 := fun h => by
        have h2 : i2 = nI 5 := Int32.toInt_inj.mp (h.trans (nI_toInt (by decide)).symm)
        rw [h2, pb_in (by decide) (by decide)] at hb2
        cases hb2
      have g6 : i2.toInt ≠ 6 := fun h => by
        have h2 : i2 = nI 6 := Int32.toInt_inj.mp (h.trans (nI_toInt (by decide)).symm)
        rw [h2, pb_in (by decide) (by decide)] at hb2
        cases hb2
      have g7 : i2.toInt ≠ 7 := fun h => by
        have h2 : i2 = nI 7 := Int32.toInt_inj.mp (h.trans (nI_toInt (by decide)).symm)
        rw [h2, pb_in (by decide) (by decide)] at hb2
        cases hb2
      omega
    refine lv_tableOut (tgt := 146) hx hb dX12_ring_20 hout (by decide) ?_
    exact vx_ns hst C (hG s hGs) hM hl.1 htab dX12_ring_146 dX12_ring_149 dX12_ring_150 dX12_ring_153
  · exact vx_ns hst C (hG s hGs) hM hl.1 htab dX12_ring_11 dX12_ring_14 dX12_ring_15 dX12_ring_18
