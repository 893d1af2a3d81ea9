/-! the law's two static methods that catch -/
theorem qw_1268 : (Jvm.Cond.instanceMethod ({ cls := "RingKeepers", name := "person", desc := "(II)I" } : Jvm.MethodName)) ∈ mx_wall := mx_w 1452 (by decide +kernel) (by decide +kernel)
theorem qw_1269 : (Jvm.Cond.selects "RingKeepers" ({ cls := "RingKeepers", name := "person", desc := "(II)I" } : Jvm.MethodName) ({ cls := "RingKeepers", name := "person", desc := "(II)I" } : Jvm.MethodName)) ∈ mx_wall := mx_w 1453 (by decide +kernel) (by decide +kernel)
theorem qw_1270 : (Jvm.Cond.code ({ cls := "RingKeepers", name := "person", desc := "(II)I" } : Jvm.MethodName) prog_1_method_6_code (3 : Nat) (Option.some Jvm.ClassFile.FieldType.int)) ∈ mx_wall := mx_w 1454 (by decide +kernel) (by decide +kernel)
theorem qw_1339 : (Jvm.Cond.instanceMethod ({ cls := "RingKeepers", name := "ring", desc := "(II)I" } : Jvm.MethodName)) ∈ mx_wall := mx_w 1523 (by decide +kernel) (by decide +kernel)
theorem qw_1340 : (Jvm.Cond.selects "RingKeepers" ({ cls := "RingKeepers", name := "ring", desc := "(II)I" } : Jvm.MethodName) ({ cls := "RingKeepers", name := "ring", desc := "(II)I" } : Jvm.MethodName)) ∈ mx_wall := mx_w 1524 (by decide +kernel) (by decide +kernel)
theorem qw_1341 : (Jvm.Cond.code ({ cls := "RingKeepers", name := "ring", desc := "(II)I" } : Jvm.MethodName) prog_1_method_7_code (3 : Nat) (Option.some Jvm.ClassFile.FieldType.int)) ∈ mx_wall := mx_w 1525 (by decide +kernel) (by decide +kernel)
theorem qw_1345 : (Jvm.Cond.instanceMethod ({ cls := "RingKeepersModel", name := "thrown", desc := "()I" } : Jvm.MethodName)) ∈ mx_wall := mx_w 1529 (by decide +kernel) (by decide +kernel)
theorem qw_1346 : (Jvm.Cond.selects "RingKeepersModel" ({ cls := "RingKeepersModel", name := "thrown", desc := "()I" } : Jvm.MethodName) ({ cls := "RingKeepersModel", name := "thrown", desc := "()I" } : Jvm.MethodName)) ∈ mx_wall := mx_w 1530 (by decide +kernel) (by decide +kernel)
theorem qw_1347 : (Jvm.Cond.code ({ cls := "RingKeepersModel", name := "thrown", desc := "()I" } : Jvm.MethodName) prog_15_method_1_code (1 : Nat) (Option.some Jvm.ClassFile.FieldType.int)) ∈ mx_wall := mx_w 1531 (by decide +kernel) (by decide +kernel)
theorem qw_1643 : (Jvm.Cond.instanceMethod ({ cls := "RingKeepersModel", name := "person", desc := "(II)I" } : Jvm.MethodName)) ∈ mx_wall := mx_w 1827 (by decide +kernel) (by decide +kernel)
theorem qw_1644 : (Jvm.Cond.selects "RingKeepersModel" ({ cls := "RingKeepersModel", name := "person", desc := "(II)I" } : Jvm.MethodName) ({ cls := "RingKeepersModel", name := "person", desc := "(II)I" } : Jvm.MethodName)) ∈ mx_wall := mx_w 1828 (by decide +kernel) (by decide +kernel)
theorem qw_1645 : (Jvm.Cond.code ({ cls := "RingKeepersModel", name := "person", desc := "(II)I" } : Jvm.MethodName) prog_15_method_49_code (3 : Nat) (Option.some Jvm.ClassFile.FieldType.int)) ∈ mx_wall := mx_w 1829 (by decide +kernel) (by decide +kernel)
theorem qw_1671 : (Jvm.Cond.instanceMethod ({ cls := "RingKeepersModel", name := "ring", desc := "(II)I" } : Jvm.MethodName)) ∈ mx_wall := mx_w 1855 (by decide +kernel) (by decide +kernel)
theorem qw_1672 : (Jvm.Cond.selects "RingKeepersModel" ({ cls := "RingKeepersModel", name := "ring", desc := "(II)I" } : Jvm.MethodName) ({ cls := "RingKeepersModel", name := "ring", desc := "(II)I" } : Jvm.MethodName)) ∈ mx_wall := mx_w 1856 (by decide +kernel) (by decide +kernel)
theorem qw_1673 : (Jvm.Cond.code ({ cls := "RingKeepersModel", name := "ring", desc := "(II)I" } : Jvm.MethodName) prog_15_method_50_code (4 : Nat) (Option.some Jvm.ClassFile.FieldType.int)) ∈ mx_wall := mx_w 1857 (by decide +kernel) (by decide +kernel)
theorem yo_X12_person : mx_Y yX12_person cX12_person 3 (some .int) 2 := ⟨qw_1270, qw_1, by decide +kernel, by decide⟩
theorem yo_X12_ring : mx_Y yX12_ring cX12_ring 3 (some .int) 2 := ⟨qw_1341, qw_1, by decide +kernel, by decide⟩
theorem yo_X13_person : mx_Y yX13_person cX13_person 3 (some .int) 2 := ⟨qw_1645, qw_14, by decide +kernel, by decide⟩
theorem yo_X13_ring : mx_Y yX13_ring cX13_ring 4 (some .int) 2 := ⟨qw_1673, qw_14, by decide +kernel, by decide⟩
theorem yo_X13_thrown : mx_Y yX13_thrown cX13_thrown 1 (some .int) 0 := ⟨qw_1347, qw_14, by decide +kernel, by decide⟩
theorem dL_person_0 : decode cL_person 0 = .ok (.aload_n 3, 1) := by decide +kernel
theorem dL_person_1 : decode cL_person 1 = .ok (.iconst 0, 1) := by decide +kernel
theorem dL_person_2 : decode cL_person 2 = .ok (.aload_n 0, 1) := by decide +kernel
theorem dL_person_3 : decode cL_person 3 = .ok (.iload_n 1, 1) := by decide +kernel
theorem dL_person_4 : decode cL_person 4 = .ok (.iload_n 2, 1) := by decide +kernel
theorem dL_person_5 : decode cL_person 5 = .ok (.invokevirtual 7, 3) := by decide +kernel
theorem dL_person_8 : decode cL_person 8 = .ok (.i2l, 1) := by decide +kernel
theorem dL_person_9 : decode cL_person 9 = .ok (.lastore, 1) := by decide +kernel
theorem dL_person_10 : decode cL_person 10 = .ok (.goto 7, 3) := by decide +kernel
theorem dL_person_13 : decode cL_person 13 = .ok (.astore 4, 2) := by decide +kernel
theorem dL_person_15 : decode cL_person 15 = .ok (.iconst 1, 1) := by decide +kernel
theorem dL_person_16 : decode cL_person 16 = .ok (.ireturn, 1) := by decide +kernel
theorem dL_person_17 : decode cL_person 17 = .ok (.iconst 0, 1) := by decide +kernel
theorem dL_person_18 : decode cL_person 18 = .ok (.ireturn, 1) := by decide +kernel
theorem dL_ring_0 : decode cL_ring 0 = .ok (.aload_n 3, 1) := by decide +kernel
theorem dL_ring_1 : decode cL_ring 1 = .ok (.iconst 0, 1) := by decide +kernel
theorem dL_ring_2 : decode cL_ring 2 = .ok (.aload_n 0, 1) := by decide +kernel
theorem dL_ring_3 : decode cL_ring 3 = .ok (.iload_n 1, 1) := by decide +kernel
theorem dL_ring_4 : decode cL_ring 4 = .ok (.iload_n 2, 1) := by decide +kernel
theorem dL_ring_5 : decode cL_ring 5 = .ok (.invokevirtual 15, 3) := by decide +kernel
theorem dL_ring_8 : decode cL_ring 8 = .ok (.i2l, 1) := by decide +kernel
theorem dL_ring_9 : decode cL_ring 9 = .ok (.lastore, 1) := by decide +kernel
theorem dL_ring_10 : decode cL_ring 10 = .ok (.goto 7, 3) := by decide +kernel
theorem dL_ring_13 : decode cL_ring 13 = .ok (.astore 4, 2) := by decide +kernel
theorem dL_ring_15 : decode cL_ring 15 = .ok (.iconst 1, 1) := by decide +kernel
theorem dL_ring_16 : decode cL_ring 16 = .ok (.ireturn, 1) := by decide +kernel
theorem dL_ring_17 : decode cL_ring 17 = .ok (.iconst 0, 1) := by decide +kernel
theorem dL_ring_18 : decode cL_ring 18 = .ok (.ireturn, 1) := by decide +kernel
def Et (X : XE) : KE := (xt, X, lA X 204, fun U => xg X (lA X 204) U ∧ vxG (lE1 X) U)
theorem vxG_moved {E : KE} {s U : State} (hW : s.WarmedH U.vm) (hq : ∀ q : Nat, q < s.heap.size → ¬ E.2.2.1 q → U.heap[q]? = s.heap[q]?) (h : vxG E s) : vxG E U := by
  obtain ⟨h1, h2, h3⟩ := h
  refine ⟨fun w hw => ?_, vx_Zq.moved hW.alike (vx_Zq.kept h2 hq), vx_Zq.moved hW.alike (vx_Zq.kept h3 hq)⟩
  have h0 := ns_1 w hw
  have h4 := h1 w hw
  cases w <;> first | exact va_Nw.warmD hW h4 | exact va_Nw.warmC hW h4 | (simp [isDC] at h0)
theorem Et_ok {X : XE} (h : ∀ k, X.2.1 k = X.2.1 0 + k) : mx_ok (Et X) := ⟨(lE1_ok h).1, fun s U hW _ hq hG => ⟨xg_moved hW hq hG.1, vxG_moved hW hq hG.2⟩⟩
theorem Et_x (X : XE) : xOK (Et X) := ⟨rfl, fun _ h => h.1⟩
abbrev sO (X : XE) (o : Nat) (w : Int64) : Nat × va_E := (o, .inl (X.2.2.2 2, 1, .inr (.inl (fun _ => w))))
def sAf (X : XE) (o : Nat) : Nat → Prop := fun q => lA X 204 q ∨ q = o
def sPre (X : XE) (M : MM) (w : Int64) (o : Nat) (U : State) : Prop := mx_Pre (Et X) M U ∧ va_at X.1 mx_cl (sO X o w) U.heap
def sQ (X : XE) (M : MM) (w : Int64) (o : Nat) (r : Int32) : Array Value → State → Outcome → State → Prop := fun _ st oc t => oc = .returned (some (.int r)) ∧ va_P X.1 mx_cl (mx_ws xt X M) t.heap ∧ va_at X.1 mx_cl (sO X o w) t.heap ∧ va_F (sAf X o) st t
theorem s_blind {X : XE} {M : MM} {w : Int64} {o : Nat} {av : List Value} (hx : ∀ k, X.2.1 k = X.2.1 0 + k) : FrameBlind (va_Pc av (sPre X M w o)) := by
  intro a U g mk q
  obtain ⟨q0, q1, q2⟩ := q
  exact ⟨q0, (mx_blind (Et_ok hx) a U g mk ⟨q0, q1⟩).2, q2⟩
section STA
variable {p : Program} {l : Launch} {e : Env} {R : Room} {s : State} {m : MethodId} {args : Array Value} {below : List Frame} {meth : Method} {c : Code} {H : Heap} {locs : List Loc} {cells slots mc ms : Nat} {Q : State → Prop}
variable {cc : ByteArray} {nL pc : Nat} {ls : Array Slot} {rest : List Value} {X : XE} {M : MM} {w : Int64} {o : Nat}
theorem vx_thr {st0 : List Value} {a : Array Value} {XC : String → State → State → Prop} {free : Addr → Prop} (hr : vx_Run p l e R s m args below meth c H locs cells slots mc ms (F0 m pc ls st0) rest ((fun _ _ _ _ => False : Array Value → State → Outcome → State → Prop) a) XC free)
    (kx : ∀ (q : Addr) (st t : State) (L : List Loc) (E : String) (ce : Cell), st.heap = H → (∀ z ∈ L, free z.base) → XC E st t → t.heap[q]? = some ce → ce.vm = .none → s.vm.findClass E = some ce.cls → vx_W p l e R s m args below meth c t.heap (locs ++ L) (cells + mc) (slots + ms) Q (F0 m pc ls rest) q) : W p l e R s m args below meth c H locs cells slots Q (F0 m pc ls st0) := by
  intro T hT Z
  rcases hr T hT Z with ⟨v, st₀, t, T', L, h0, X', hL, e1, e2, hF, st⟩ | ⟨q, st₀, t, T', L, E, ce, h0, X', hL, e1, e2, hx, hce, hcv, hcl, st⟩
  · exact hF.elim
  · obtain ⟨t2, a1, b1⟩ := kx q st₀ t L E ce h0 hL hx hce hcv hcl T' e1 X'
    exact ⟨t2, st.trans a1, b1⟩
theorem s_D (hx : ∀ k, X.2.1 k = X.2.1 0 + k) (ho : ¬ lA X 204 o) (e1 : va_E) : va_D (sAf X o) (mx_ws xt X M ++ [(o, e1)]) := by
  have hlen : (mx_ws xt X M).length = 204 := by simp only [mx_ws, List.length_mapIdx]; rfl
  have key : ∀ (i : Nat) (q : Nat × va_E), (mx_ws xt X M ++ [(o, e1)])[i]? = some q → (i < 204 ∧ q.1 = X.2.1 0 + i) ∨ (i = 204 ∧ q.1 = o) := by
    intro i q hq
    by_cases hi : i < 204
    · rw [List.getElem?_append_left (by omega)] at hq
      left
      exact ⟨hi, (mx_wsat hq).1.trans (hx i)⟩
    · rw [List.getElem?_append_right (by omega), hlen] at hq
      have hz : i - 204 < 1 := (List.getElem?_eq_some_iff.mp hq).1
      rw [show i - 204 = 0 by omega] at hq
      cases hq
      exact Or.inr ⟨by omega, rfl⟩
  have ho2 : ¬ (X.2.1 0 ≤ o ∧ o < X.2.1 0 + 204) := ho
  refine ⟨fun i j p q hp hq he => ?_, fun k q hq => ?_⟩
  · have h1 := key i p hp
    have h2 := key j q hq
    omega
  · rcases key k q hq with h | h
    · left
      show X.2.1 0 ≤ q.1 ∧ q.1 < X.2.1 0 + 204
      omega
    · exact Or.inr h.2
end STA
theorem ns_10 : Cond.classLink RL 13 NSE ∈ mx_wall := mx_w 1450 (by decide +kernel) (by decide +kernel)
theorem cw_L_person : Cond.codeWith yL_person cL_person 5 (some .int) [(0, 10, 13, 13)] ∈ mx_wall := mx_w 1449 (by decide +kernel) (by decide +kernel)
theorem cl_L_person : Cond.methodLink RL 7 yX12_person ∈ mx_wall := mx_w 1451 (by decide +kernel) (by decide +kernel)
set_option maxRecDepth 100000 in
theorem sA_person {X : XE} {l : Launch} (hx : ∀ k, X.2.1 k = X.2.1 0 + k) {o : Nat} (ho : ¬ lA X 204 o) (i1 i2 : Int32) (M : MM) (w : Int64) {v : Int32} (hf : fX12_person i1 i2 M = some v) : vx_Met l yL_person (Cond.codeWith yL_person cL_person 5 (some .int) [(0, 10, 13, 13)] :: mx_wall) (cw_rm 20 1 6) (va_Pc [.ref (X.2.1 0), .int i1, .int i2, .ref o] (sPre X M w o)) (sQ X M v.toInt64 o 0) (fun _ _ _ => False) 1 6 (sAf X o) := by
  refine vx_ofWH (cc := cL_person) (maxL := 5) (ret := some .int) (hh := [(0, 10, 13, 13)]) (by decide) rfl ?_
  intro p e s m args below meth c s₁ B hml hv
  obtain ⟨rfl, ⟨hP, hK, hG⟩, hO⟩ := hv
  have hts0 := atoms_spec (ws := Cond.codeWith yL_person cL_person 5 (some .int) [(0, 10, 13, 13)] :: mx_wall) B.pre
  have hown : s.vm.findClass RL = some m.cls := findClass_of_methodNamed B.named
  have hl := lv_entry [Value.ref (X.2.1 0), .int i1, .int i2, .ref o] (n := 5) (Nat.le_of_ble_eq_true rfl)
  have S : CallFix p m c cL_person 5 s [Value.ref (X.2.1 0), .int i1, .int i2, .ref o].toArray mx_wall RL := ⟨B.exec, B.bytes, hml, hown, fun w hw => hts0 w (List.mem_cons_of_mem _ hw)⟩
  have hlo := B.notSynchronized
  have hr := B.returns
  rw [lg_entry_eq]
  generalize ((lg_sl [Value.ref (X.2.1 0), .int i1, .int i2, .ref o] ++ List.replicate (5 - (lg_sl [Value.ref (X.2.1 0), .int i1, .int i2, .ref o]).length) Slot.unset).toArray) = ls at hl
  have hl : lv_has ls 5 [(0, .ref (X.2.1 0)), (1, .int i1), (2, .int i2), (3, .ref o)] := hl
  have hx1 := S.1
  have hb := S.2.1
  show W p l e (cw_rm 20 1 6) s m _ below meth c s.heap [] 0 0 _ _
  refine vx_ret ?_
  refine lv_aload_n hx1 hb dL_person_0 rfl (lv_at hl 3 rfl) ?_
  refine lv_iconst (v := nI 0) hx1 hb dL_person_1 (by decide) ?_
  refine lv_aload_n hx1 hb dL_person_2 rfl (lv_at hl 0 rfl) ?_
  refine lv_iload_n hx1 hb dL_person_3 rfl (lv_at hl 1 rfl) ?_
  refine lv_iload_n hx1 hb dL_person_4 rfl (lv_at hl 2 rfl) ?_
  refine lw_callV (E := Et X) (A := lA X 204) (k := 0) (ci := 12) (As := [.int i1, .int i2]) S hK hG (Et_ok hx) hP va_S.rf (fun _ h => h) (fun _ _ h => h) hl.1 yo_X12_person (h' := 2) (by decide) cl_L_person qw_1268 qw_1269 (q := (RX12, TX12, 19)) rfl (xt_0 (Et_x X)) (kX12_person (Et_ok hx) i1 i2 (Et_x X) M hf) rfl rfl rfl (Nat.le_of_ble_eq_true rfl) dL_person_5 (by decide) (fun H1 locs1 hP1 hS1 hz1 hk1 => ?_)
  refine lv_i2l (v := v.toInt64) hx1 hb dL_person_8 rfl ?_
  have hlt : o < s.heap.size := va_at.lt hO
  have hO1 : va_at X.1 mx_cl (sO X o w) H1 := hO.kept (hk1 o hlt ho)
  have hlen : (mx_ws xt X M).length = 204 := by simp only [mx_ws, List.length_mapIdx]; rfl
  have hPP : va_P X.1 mx_cl (mx_ws xt X M ++ [sO X o w]) H1 := hP1.app (fun k q hq => by
    have hz : k < 1 := (List.getElem?_eq_some_iff.mp hq).1
    rw [show k = 0 by omega] at hq
    cases hq
    exact hO1)
  refine va_last hx1 hb hK hPP (s_D hx ho _) (A := sAf X o) ⟨hS1.1, fun q h1 h2 => hS1.2.1 q h1 (fun h => h2 (Or.inl h)), fun q hq => Or.inl (hS1.2.2 q hq)⟩ 204 2 (by rw [List.getElem?_append_right (by omega), hlen]; rfl) rfl (vp_in_nI (by decide) (by decide)) dL_person_9 (fun H2 locs2 hP2 _ hS2 => ?_)
  refine lv_goto (tgt := 17) hx1 hb dL_person_10 (by decide) ?_
  refine lv_iconst (v := (0 : Int32)) hx1 hb dL_person_17 (by decide) ?_
  refine lw_wide (k := 1) (n := 6) (by decide) (by decide) ?_
  refine W.zret (v := (0 : Int32)) (ty := .int) hx1 hb hr rfl (fun t ht hW => ⟨rfl, ?_, ?_, hS2.F ht⟩) hS2.2.2 dL_person_18 hlo
  · rw [ht]
    intro k q hq
    refine hP2 k q ?_
    have hk : k < 204 := (mx_wsat hq).2
    rw [List.getElem?_set_ne (by omega), List.getElem?_append_left (by omega)]
    exact hq
  · rw [ht]
    have h9 := hP2 204 (o, .inl (X.2.2.2 2, 1, .inr (.inl (vp_updL (fun _ => w) (nI 0).toNatClampNeg v.toInt64)))) (by
      rw [List.getElem?_set_self (by rw [List.length_append, hlen]; exact Nat.le_refl _)]
      rfl)
    have h10 : H2[o]? = some (vp_cell (X.2.2.2 2) (1, .inr (.inl (vp_updL (fun _ => w) (nI 0).toNatClampNeg v.toInt64)))) := h9
    show H2[o]? = some (vp_cell (X.2.2.2 2) (1, .inr (.inl (fun _ => v.toInt64))))
    rw [h10, vp_cell_l, vp_cell_l]
    congr 1
set_option maxRecDepth 100000 in
theorem sB_person {X : XE} {l : Launch} (hst : l.stackTraces = false) (hx : ∀ k, X.2.1 k = X.2.1 0 + k) {o : Nat} (ho : ¬ lA X 204 o) (i1 i2 : Int32) (M : MM) (w : Int64) (hf : fX3_isPerson i1 M = some false ∨ (fX3_isPerson i1 M = some true ∧ mx_in i2 7 = false)) : vx_Met l yL_person (Cond.codeWith yL_person cL_person 5 (some .int) [(0, 10, 13, 13)] :: mx_wall) (cw_rm 20 1 6) (va_Pc [.ref (X.2.1 0), .int i1, .int i2, .ref o] (sPre X M w o)) (sQ X M w o 1) (fun _ _ _ => False) 1 6 (sAf X o) := by
  refine vx_ofWH (cc := cL_person) (maxL := 5) (ret := some .int) (hh := [(0, 10, 13, 13)]) (by decide) rfl ?_
  intro p e s m args below meth c s₁ B hml hv
  obtain ⟨rfl, ⟨hP, hK, hG⟩, hO⟩ := hv
  have hts0 := atoms_spec (ws := Cond.codeWith yL_person cL_person 5 (some .int) [(0, 10, 13, 13)] :: mx_wall) B.pre
  have hown : s.vm.findClass RL = some m.cls := findClass_of_methodNamed B.named
  have hl := lv_entry [Value.ref (X.2.1 0), .int i1, .int i2, .ref o] (n := 5) (Nat.le_of_ble_eq_true rfl)
  have hts : ∀ w ∈ mx_wall, w.before [Value.ref (X.2.1 0), .int i1, .int i2, .ref o].toArray s = true := fun w hw => hts0 w (List.mem_cons_of_mem _ hw)
  have S : CallFix p m c cL_person 5 s [Value.ref (X.2.1 0), .int i1, .int i2, .ref o].toArray mx_wall RL := ⟨B.exec, B.bytes, hml, hown, hts⟩
  have htab := vx_table (x := yL_person) B (hts0 _ List.mem_cons_self)
  have hlo := B.notSynchronized
  have hr := B.returns
  rw [lg_entry_eq]
  generalize ((lg_sl [Value.ref (X.2.1 0), .int i1, .int i2, .ref o] ++ List.replicate (5 - (lg_sl [Value.ref (X.2.1 0), .int i1, .int i2, .ref o]).length) Slot.unset).toArray) = ls at hl
  have hl : lv_has ls 5 [(0, .ref (X.2.1 0)), (1, .int i1), (2, .int i2), (3, .ref o)] := hl
  have hx1 := S.1
  have hb := S.2.1
  show W p l e (cw_rm 20 1 6) s m _ below meth c s.heap [] 0 0 _ _
  refine vx_ret ?_
  refine lv_aload_n hx1 hb dL_person_0 rfl (lv_at hl 3 rfl) ?_
  refine lv_iconst (v := nI 0) hx1 hb dL_person_1 (by decide) ?_
  refine lv_aload_n hx1 hb dL_person_2 rfl (lv_at hl 0 rfl) ?_
  refine lv_iload_n hx1 hb dL_person_3 rfl (lv_at hl 1 rfl) ?_
  refine lv_iload_n hx1 hb dL_person_4 rfl (lv_at hl 2 rfl) ?_
  refine vx_thr (a := #[]) (vx_runV (R := cw_rm 20 1 6) (C := RX12) (b := X.2.1 0) (As := [.int i1, .int i2]) S (tX12_person hst (Et_ok hx) (Et_x X) (fun s h => h.2) i1 i2 M hf) ⟨callB_of 2 hts (mx_good yo_X12_person.1) rfl rfl rfl (hts _ yo_X12_person.2.1) (hts _ cl_L_person) yo_X12_person.2.2.1 (by decide), hts _ qw_1268, hts _ qw_1269⟩ ⟨mx_blind (Et_ok hx), va_recv hK hP (ci := 12) (q := (RX12, TX12, 19)) rfl (mx_obj (E := Et X) (xt_0 (Et_x X))), fun U hU hW => ⟨rfl, by rw [hU]; exact hP, va_K.moved hW.alike hK, (Et_ok hx).2 s U hW (by rw [hU]; exact Nat.le_refl _) (fun q _ _ => by rw [hU]) hG⟩⟩ rfl rfl hl.1 rfl (lv_room (Nat.le_of_ble_eq_true rfl)) dL_person_5 ⟨by decide, by decide⟩) (fun q st t L E ce hs2 hL hX hce hcv hcl => ?_)
  obtain ⟨rfl, hP1, hz, hk⟩ := hX
  rw [hs2] at hz hk
  have hlt : o < s.heap.size := va_at.lt hO
  have hO1 : va_at X.1 mx_cl (sO X o w) t.heap := hO.kept (hk o hlt ho)
  refine vx_catch (own := RL) (name := NSE) hown [] ⟨0, 10, 13, 13⟩ [] htab (fun z hz => by cases hz) (by decide) (by decide) (hts _ ns_10) (va_Nw.use rfl (hG.2.1 _ ns_8)) hce hcv hcl ?_
  refine lv_astore (lv' := [(4, .ref q), (0, .ref (X.2.1 0)), (1, .int i1), (2, .int i2), (3, .ref o)]) hx1 hb dL_person_13 hl (by decide) rfl (fun ls hl => ?_)
  refine lv_iconst (v := (1 : Int32)) hx1 hb dL_person_15 (by decide) ?_
  exact W.zret (v := (1 : Int32)) (ty := .int) hx1 hb hr rfl (fun t2 ht hW => ⟨rfl, by rw [ht]; exact hP1, by rw [ht]; exact hO1, by rw [ht]; exact hz, fun q h1 h2 => by rw [ht]; exact hk q h1 (fun h => h2 (Or.inl h))⟩) (fun q hq => Or.inl (hL q (by simpa using hq))) dL_person_16 hlo
theorem cw_L_ring : Cond.codeWith yL_ring cL_ring 5 (some .int) [(0, 10, 13, 13)] ∈ mx_wall := mx_w 1521 (by decide +kernel) (by decide +kernel)
theorem cl_L_ring : Cond.methodLink RL 15 yX12_ring ∈ mx_wall := mx_w 1522 (by decide +kernel) (by decide +kernel)
set_option maxRecDepth 100000 in
theorem sA_ring {X : XE} {l : Launch} (hx : ∀ k, X.2.1 k = X.2.1 0 + k) {o : Nat} (ho : ¬ lA X 204 o) (i1 i2 : Int32) (M : MM) (w : Int64) {v : Int32} (hf : fX12_ring i1 i2 M = some v) : vx_Met l yL_ring (Cond.codeWith yL_ring cL_ring 5 (some .int) [(0, 10, 13, 13)] :: mx_wall) (cw_rm 20 1 6) (va_Pc [.ref (X.2.1 0), .int i1, .int i2, .ref o] (sPre X M w o)) (sQ X M v.toInt64 o 0) (fun _ _ _ => False) 1 6 (sAf X o) := by
  refine vx_ofWH (cc := cL_ring) (maxL := 5) (ret := some .int) (hh := [(0, 10, 13, 13)]) (by decide) rfl ?_
  intro p e s m args below meth c s₁ B hml hv
  obtain ⟨rfl, ⟨hP, hK, hG⟩, hO⟩ := hv
  have hts0 := atoms_spec (ws := Cond.codeWith yL_ring cL_ring 5 (some .int) [(0, 10, 13, 13)] :: mx_wall) B.pre
  have hown : s.vm.findClass RL = some m.cls := findClass_of_methodNamed B.named
  have hl := lv_entry [Value.ref (X.2.1 0), .int i1, .int i2, .ref o] (n := 5) (Nat.le_of_ble_eq_true rfl)
  have S : CallFix p m c cL_ring 5 s [Value.ref (X.2.1 0), .int i1, .int i2, .ref o].toArray mx_wall RL := ⟨B.exec, B.bytes, hml, hown, fun w hw => hts0 w (List.mem_cons_of_mem _ hw)⟩
  have hlo := B.notSynchronized
  have hr := B.returns
  rw [lg_entry_eq]
  generalize ((lg_sl [Value.ref (X.2.1 0), .int i1, .int i2, .ref o] ++ List.replicate (5 - (lg_sl [Value.ref (X.2.1 0), .int i1, .int i2, .ref o]).length) Slot.unset).toArray) = ls at hl
  have hl : lv_has ls 5 [(0, .ref (X.2.1 0)), (1, .int i1), (2, .int i2), (3, .ref o)] := hl
  have hx1 := S.1
  have hb := S.2.1
  show W p l e (cw_rm 20 1 6) s m _ below meth c s.heap [] 0 0 _ _
  refine vx_ret ?_
  refine lv_aload_n hx1 hb dL_ring_0 rfl (lv_at hl 3 rfl) ?_
  refine lv_iconst (v := nI 0) hx1 hb dL_ring_1 (by decide) ?_
  refine lv_aload_n hx1 hb dL_ring_2 rfl (lv_at hl 0 rfl) ?_
  refine lv_iload_n hx1 hb dL_ring_3 rfl (lv_at hl 1 rfl) ?_
  refine lv_iload_n hx1 hb dL_ring_4 rfl (lv_at hl 2 rfl) ?_
  refine lw_callV (E := Et X) (A := lA X 204) (k := 0) (ci := 12) (As := [.int i1, .int i2]) S hK hG (Et_ok hx) hP va_S.rf (fun _ h => h) (fun _ _ h => h) hl.1 yo_X12_ring (h' := 2) (by decide) cl_L_ring qw_1339 qw_1340 (q := (RX12, TX12, 19)) rfl (xt_0 (Et_x X)) (kX12_ring (Et_ok hx) i1 i2 (Et_x X) M hf) rfl rfl rfl (Nat.le_of_ble_eq_true rfl) dL_ring_5 (by decide) (fun H1 locs1 hP1 hS1 hz1 hk1 => ?_)
  refine lv_i2l (v := v.toInt64) hx1 hb dL_ring_8 rfl ?_
  have hlt : o < s.heap.size := va_at.lt hO
  have hO1 : va_at X.1 mx_cl (sO X o w) H1 := hO.kept (hk1 o hlt ho)
  have hlen : (mx_ws xt X M).length = 204 := by simp only [mx_ws, List.length_mapIdx]; rfl
  have hPP : va_P X.1 mx_cl (mx_ws xt X M ++ [sO X o w]) H1 := hP1.app (fun k q hq => by
    have hz : k < 1 := (List.getElem?_eq_some_iff.mp hq).1
    rw [show k = 0 by omega] at hq
    cases hq
    exact hO1)
  refine va_last hx1 hb hK hPP (s_D hx ho _) (A := sAf X o) ⟨hS1.1, fun q h1 h2 => hS1.2.1 q h1 (fun h => h2 (Or.inl h)), fun q hq => Or.inl (hS1.2.2 q hq)⟩ 204 2 (by rw [List.getElem?_append_right (by omega), hlen]; rfl) rfl (vp_in_nI (by decide) (by decide)) dL_ring_9 (fun H2 locs2 hP2 _ hS2 => ?_)
  refine lv_goto (tgt := 17) hx1 hb dL_ring_10 (by decide) ?_
  refine lv_iconst (v := (0 : Int32)) hx1 hb dL_ring_17 (by decide) ?_
  refine lw_wide (k := 1) (n := 6) (by decide) (by decide) ?_
  refine W.zret (v := (0 : Int32)) (ty := .int) hx1 hb hr rfl (fun t ht hW => ⟨rfl, ?_, ?_, hS2.F ht⟩) hS2.2.2 dL_ring_18 hlo
  · rw [ht]
    intro k q hq
    refine hP2 k q ?_
    have hk : k < 204 := (mx_wsat hq).2
    rw [List.getElem?_set_ne (by omega), List.getElem?_append_left (by omega)]
    exact hq
  · rw [ht]
    have h9 := hP2 204 (o, .inl (X.2.2.2 2, 1, .inr (.inl (vp_updL (fun _ => w) (nI 0).toNatClampNeg v.toInt64)))) (by
      rw [List.getElem?_set_self (by rw [List.length_append, hlen]; exact Nat.le_refl _)]
      rfl)
    have h10 : H2[o]? = some (vp_cell (X.2.2.2 2) (1, .inr (.inl (vp_updL (fun _ => w) (nI 0).toNatClampNeg v.toInt64)))) := h9
    show H2[o]? = some (vp_cell (X.2.2.2 2) (1, .inr (.inl (fun _ => v.toInt64))))
    rw [h10, vp_cell_l, vp_cell_l]
    congr 1
set_option maxRecDepth 100000 in
theorem sB_ring {X : XE} {l : Launch} (hst : l.stackTraces = false) (hx : ∀ k, X.2.1 k = X.2.1 0 + k) {o : Nat} (ho : ¬ lA X 204 o) (i1 i2 : Int32) (M : MM) (w : Int64) (hf : fX3_isRing i1 M = some false ∨ (fX3_isRing i1 M = some true ∧ mx_in i2 8 = false)) : vx_Met l yL_ring (Cond.codeWith yL_ring cL_ring 5 (some .int) [(0, 10, 13, 13)] :: mx_wall) (cw_rm 20 1 6) (va_Pc [.ref (X.2.1 0), .int i1, .int i2, .ref o] (sPre X M w o)) (sQ X M w o 1) (fun _ _ _ => False) 1 6 (sAf X o) := by
  refine vx_ofWH (cc := cL_ring) (maxL := 5) (ret := some .int) (hh := [(0, 10, 13, 13)]) (by decide) rfl ?_
  intro p e s m args below meth c s₁ B hml hv
  obtain ⟨rfl, ⟨hP, hK, hG⟩, hO⟩ := hv
  have hts0 := atoms_spec (ws := Cond.codeWith yL_ring cL_ring 5 (some .int) [(0, 10, 13, 13)] :: mx_wall) B.pre
  have hown : s.vm.findClass RL = some m.cls := findClass_of_methodNamed B.named
  have hl := lv_entry [Value.ref (X.2.1 0), .int i1, .int i2, .ref o] (n := 5) (Nat.le_of_ble_eq_true rfl)
  have hts : ∀ w ∈ mx_wall, w.before [Value.ref (X.2.1 0), .int i1, .int i2, .ref o].toArray s = true := fun w hw => hts0 w (List.mem_cons_of_mem _ hw)
  have S : CallFix p m c cL_ring 5 s [Value.ref (X.2.1 0), .int i1, .int i2, .ref o].toArray mx_wall RL := ⟨B.exec, B.bytes, hml, hown, hts⟩
  have htab := vx_table (x := yL_ring) B (hts0 _ List.mem_cons_self)
  have hlo := B.notSynchronized
  have hr := B.returns
  rw [lg_entry_eq]
  generalize ((lg_sl [Value.ref (X.2.1 0), .int i1, .int i2, .ref o] ++ List.replicate (5 - (lg_sl [Value.ref (X.2.1 0), .int i1, .int i2, .ref o]).length) Slot.unset).toArray) = ls at hl
  have hl : lv_has ls 5 [(0, .ref (X.2.1 0)), (1, .int i1), (2, .int i2), (3, .ref o)] := hl
  have hx1 := S.1
  have hb := S.2.1
  show W p l e (cw_rm 20 1 6) s m _ below meth c s.heap [] 0 0 _ _
  refine vx_ret ?_
  refine lv_aload_n hx1 hb dL_ring_0 rfl (lv_at hl 3 rfl) ?_
  refine lv_iconst (v := nI 0) hx1 hb dL_ring_1 (by decide) ?_
  refine lv_aload_n hx1 hb dL_ring_2 rfl (lv_at hl 0 rfl) ?_
  refine lv_iload_n hx1 hb dL_ring_3 rfl (lv_at hl 1 rfl) ?_
  refine lv_iload_n hx1 hb dL_ring_4 rfl (lv_at hl 2 rfl) ?_
  refine vx_thr (a := #[]) (vx_runV (R := cw_rm 20 1 6) (C := RX12) (b := X.2.1 0) (As := [.int i1, .int i2]) S (tX12_ring hst (Et_ok hx) (Et_x X) (fun s h => h.2) i1 i2 M hf) ⟨callB_of 2 hts (mx_good yo_X12_ring.1) rfl rfl rfl (hts _ yo_X12_ring.2.1) (hts _ cl_L_ring) yo_X12_ring.2.2.1 (by decide), hts _ qw_1339, hts _ qw_1340⟩ ⟨mx_blind (Et_ok hx), va_recv hK hP (ci := 12) (q := (RX12, TX12, 19)) rfl (mx_obj (E := Et X) (xt_0 (Et_x X))), fun U hU hW => ⟨rfl, by rw [hU]; exact hP, va_K.moved hW.alike hK, (Et_ok hx).2 s U hW (by rw [hU]; exact Nat.le_refl _) (fun q _ _ => by rw [hU]) hG⟩⟩ rfl rfl hl.1 rfl (lv_room (Nat.le_of_ble_eq_true rfl)) dL_ring_5 ⟨by decide, by decide⟩) (fun q st t L E ce hs2 hL hX hce hcv hcl => ?_)
  obtain ⟨rfl, hP1, hz, hk⟩ := hX
  rw [hs2] at hz hk
  have hlt : o < s.heap.size := va_at.lt hO
  have hO1 : va_at X.1 mx_cl (sO X o w) t.heap := hO.kept (hk o hlt ho)
  refine vx_catch (own := RL) (name := NSE) hown [] ⟨0, 10, 13, 13⟩ [] htab (fun z hz => by cases hz) (by decide) (by decide) (hts _ ns_10) (va_Nw.use rfl (hG.2.1 _ ns_8)) hce hcv hcl ?_
  refine lv_astore (lv' := [(4, .ref q), (0, .ref (X.2.1 0)), (1, .int i1), (2, .int i2), (3, .ref o)]) hx1 hb dL_ring_13 hl (by decide) rfl (fun ls hl => ?_)
  refine lv_iconst (v := (1 : Int32)) hx1 hb dL_ring_15 (by decide) ?_
  exact W.zret (v := (1 : Int32)) (ty := .int) hx1 hb hr rfl (fun t2 ht hW => ⟨rfl, by rw [ht]; exact hP1, by rw [ht]; exact hO1, by rw [ht]; exact hz, fun q h1 h2 => by rw [ht]; exact hk q h1 (fun h => h2 (Or.inl h))⟩) (fun q hq => Or.inl (hL q (by simpa using hq))) dL_ring_16 hlo
