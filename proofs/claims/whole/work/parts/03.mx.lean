/-! THE FLAT MEMORY: every cell of the system has a number; its ints are M.1 k j, its longs M.2.1 k j, its references (as numbers) M.2.2 k j. A table of descriptions says what each cell is. -/
abbrev MM : Type := (Nat → Nat → Int32) × (Nat → Nat → Int64) × (Nat → Nat → Nat)
/-- a cell: an object (class, fields: (0,_) int, (1,_) long, (2,k) the cell k), or an array (type, length): 0 int, 1 byte, 2 long, 3 boolean, 4.. references to cells, 9 references to constants -/
abbrev CD : Type := (Nat × List (Nat × Nat)) ⊕ (Nat × Nat)
/-- classes' numbers; cells' addresses; constants' addresses; array classes -/
abbrev XE : Type := va_G × (Nat → Nat) × (Nat → Nat) × (Nat → ClassId)
abbrev mx_cl : List vw_C := [(RX12, TX12, 19), (RX1, TX1, 10), (RX2, TX2, 4), (RX3, TX3, 18), (RX4, TX4, 2), (RX5, TX5, 2), (RX6, TX6, 7), (RX7, TX7, 12), (RX8, TX8, 5), (RX9, TX9, 13), (RX10, TX10, 2), (RX12, TX12, 19), (RX12, TX12, 19), (RX13, TX13, 52)]
abbrev mx_tys (X : XE) : List (ClassId × FieldType) := [(X.2.2.2 0, .int), (X.2.2.2 1, .byte), (X.2.2.2 2, .long), (X.2.2.2 3, .boolean), (X.2.2.2 4, .object RX9), (X.2.2.2 5, .object RX3), (X.2.2.2 6, .object RX8), (X.2.2.2 7, .object RX11)]
def mx_si (M : MM) (k j : Nat) (v : Int32) : MM := (fun a b => if a = k ∧ b = j then v else M.1 a b, M.2)
def mx_sl (M : MM) (k j : Nat) (v : Int64) : MM := (M.1, fun a b => if a = k ∧ b = j then v else M.2.1 a b, M.2.2)
def mx_sr (M : MM) (k j : Nat) (v : Nat) : MM := (M.1, M.2.1, fun a b => if a = k ∧ b = j then v else M.2.2 a b)
def mx_fv (X : XE) (M : MM) (k j : Nat) (f : Nat × Nat) : Value := match f.1 with
  | 0 => .int (M.1 k j)
  | 1 => .long (M.2.1 k j)
  | _ => .ref (X.2.1 f.2)
def mx_rad (X : XE) (t : Nat) : Nat → Nat := if t = 7 then X.2.2.1 else X.2.1
def mx_ct (X : XE) (M : MM) (k t : Nat) : (Nat → Int32) ⊕ (Nat → Int64) ⊕ (Nat → UInt32) ⊕ (Nat → UInt64) ⊕ (Nat → Option Nat) := match t with
  | 0 => .inl (M.1 k)
  | 1 => .inl (M.1 k)
  | 2 => .inr (.inl (M.2.1 k))
  | 3 => .inl (M.1 k)
  | t => .inr (.inr (.inr (.inr (fun i => some (mx_rad X t (M.2.2 k i))))))
def mx_E (X : XE) (M : MM) (k : Nat) (d : CD) : va_E := match d with
  | .inl o => .inr (o.1, o.2.mapIdx (fun j f => mx_fv X M k j f))
  | .inr a => .inl (X.2.2.2 a.1, a.2, mx_ct X M k a.1)
def mx_ws (T : List CD) (X : XE) (M : MM) : va_W := T.mapIdx (fun k d => (X.2.1 k, mx_E X M k d))
theorem mx_at {T : List CD} {X : XE} {M : MM} {k : Nat} {d : CD} (h : T[k]? = some d) : (mx_ws T X M)[k]? = some (X.2.1 k, mx_E X M k d) := by
  simp [mx_ws, List.getElem?_mapIdx, h]
theorem mx_set {T : List CD} {X : XE} {M M' : MM} {k : Nat} {d : CD} (h : T[k]? = some d) (ho : ∀ i e, i ≠ k → T[i]? = some e → mx_E X M' i e = mx_E X M i e) : (mx_ws T X M).set k (X.2.1 k, mx_E X M' k d) = mx_ws T X M' := by
  apply List.ext_getElem?
  intro i
  rw [List.getElem?_set]
  by_cases hi : k = i
  · subst hi
    have hl : k < T.length := (List.getElem?_eq_some_iff.mp h).1
    rw [if_pos rfl, if_pos (by simpa [mx_ws] using hl), mx_at h]
  · rw [if_neg hi]
    simp only [mx_ws, List.getElem?_mapIdx]
    cases hT : T[i]? with
    | none => rfl
    | some e =>
      simp only [Option.map_some]
      rw [ho i e (fun q => hi q.symm) hT]
theorem mx_ct_off {X : XE} {M M' : MM} {i : Nat} (h1 : M'.1 i = M.1 i) (h2 : M'.2.1 i = M.2.1 i) (h3 : M'.2.2 i = M.2.2 i) (t : Nat) : mx_ct X M' i t = mx_ct X M i t := by
  unfold mx_ct
  rw [h1, h2, h3]
theorem mx_E_off {X : XE} {M M' : MM} {i : Nat} (h1 : M'.1 i = M.1 i) (h2 : M'.2.1 i = M.2.1 i) (h3 : M'.2.2 i = M.2.2 i) (e : CD) : mx_E X M' i e = mx_E X M i e := by
  cases e with
  | inl o =>
    have : (fun (j : Nat) (f : Nat × Nat) => mx_fv X M' i j f) = fun (j : Nat) (f : Nat × Nat) => mx_fv X M i j f := by
      funext j f
      unfold mx_fv
      rw [h1, h2]
    simp only [mx_E, this]
  | inr a =>
    simp only [mx_E, mx_ct_off h1 h2 h3]
theorem mx_si_ne {M : MM} {k j i : Nat} {v : Int32} (h : i ≠ k) : (mx_si M k j v).1 i = M.1 i := by
  funext b
  simp [mx_si, h]
theorem mx_si_eq {M : MM} {k j : Nat} {v : Int32} : (mx_si M k j v).1 k = upd (M.1 k) j v := by
  funext b
  simp [mx_si, upd]
theorem mx_sl_ne {M : MM} {k j i : Nat} {v : Int64} (h : i ≠ k) : (mx_sl M k j v).2.1 i = M.2.1 i := by
  funext b
  simp [mx_sl, h]
theorem mx_sl_eq {M : MM} {k j : Nat} {v : Int64} : (mx_sl M k j v).2.1 k = vp_updL (M.2.1 k) j v := by
  funext b
  simp [mx_sl, vp_updL]
theorem mx_sr_ne {M : MM} {k j i : Nat} {v : Nat} (h : i ≠ k) : (mx_sr M k j v).2.2 i = M.2.2 i := by
  funext b
  simp [mx_sr, h]
theorem mx_setI {T : List CD} {X : XE} {M : MM} {k j : Nat} {v : Int32} {d : CD} (h : T[k]? = some d) : (mx_ws T X M).set k (X.2.1 k, mx_E X (mx_si M k j v) k d) = mx_ws T X (mx_si M k j v) :=
  mx_set h (fun _ e hi _ => mx_E_off (mx_si_ne hi) rfl rfl e)
theorem mx_setL {T : List CD} {X : XE} {M : MM} {k j : Nat} {v : Int64} {d : CD} (h : T[k]? = some d) : (mx_ws T X M).set k (X.2.1 k, mx_E X (mx_sl M k j v) k d) = mx_ws T X (mx_sl M k j v) :=
  mx_set h (fun i e hi _ => mx_E_off (M := M) (M' := mx_sl M k j v) rfl (mx_sl_ne hi) rfl e)
theorem mx_setR {T : List CD} {X : XE} {M : MM} {k j : Nat} {v : Nat} {d : CD} (h : T[k]? = some d) : (mx_ws T X M).set k (X.2.1 k, mx_E X (mx_sr M k j v) k d) = mx_ws T X (mx_sr M k j v) :=
  mx_set h (fun i e hi _ => mx_E_off (M := M) (M' := mx_sr M k j v) rfl rfl (mx_sr_ne hi) e)
theorem mx_fi {X : XE} {M : MM} {k j ci u : Nat} {v : Int32} {fs : List (Nat × Nat)} (h : fs[j]? = some (0, u)) : (.inr (ci, (fs.mapIdx (fun j f => mx_fv X M k j f)).set j (.int v)) : va_E) = mx_E X (mx_si M k j v) k (.inl (ci, fs)) := by
  have : (fs.mapIdx (fun j f => mx_fv X M k j f)).set j (.int v) = fs.mapIdx (fun i f => mx_fv X (mx_si M k j v) k i f) := by
    apply List.ext_getElem?
    intro i
    rw [List.getElem?_set]
    by_cases hi : j = i
    · subst hi
      have hl : j < fs.length := (List.getElem?_eq_some_iff.mp h).1
      rw [if_pos rfl, if_pos (by simpa using hl), List.getElem?_mapIdx, h]
      simp [mx_fv, mx_si]
    · rw [if_neg hi]
      simp only [List.getElem?_mapIdx]
      cases hT : fs[i]? with
      | none => rfl
      | some e =>
        have hi' : ¬ i = j := fun q => hi q.symm
        simp [mx_fv, mx_si, hi']
  simp only [mx_E, this]
theorem mx_fl {X : XE} {M : MM} {k j ci u : Nat} {v : Int64} {fs : List (Nat × Nat)} (h : fs[j]? = some (1, u)) : (.inr (ci, (fs.mapIdx (fun j f => mx_fv X M k j f)).set j (.long v)) : va_E) = mx_E X (mx_sl M k j v) k (.inl (ci, fs)) := by
  have : (fs.mapIdx (fun j f => mx_fv X M k j f)).set j (.long v) = fs.mapIdx (fun i f => mx_fv X (mx_sl M k j v) k i f) := by
    apply List.ext_getElem?
    intro i
    rw [List.getElem?_set]
    by_cases hi : j = i
    · subst hi
      have hl : j < fs.length := (List.getElem?_eq_some_iff.mp h).1
      rw [if_pos rfl, if_pos (by simpa using hl), List.getElem?_mapIdx, h]
      simp [mx_fv, mx_sl]
    · rw [if_neg hi]
      simp only [List.getElem?_mapIdx]
      cases hT : fs[i]? with
      | none => rfl
      | some e =>
        have hi' : ¬ i = j := fun q => hi q.symm
        simp [mx_fv, mx_sl, hi']
  simp only [mx_E, this]
/-! words: those of the tables that hold at every callee -/
def mx_wall : List Cond := lw_tbl.filter goodWord
theorem mx_w {w : Cond} (i : Nat) (h : lw_tbl[i]? = some w) (g : goodWord w = true) : w ∈ mx_wall := List.mem_filter.mpr ⟨List.mem_of_getElem? h, g⟩
theorem mx_ws_in {ws : List Cond} (ps : List Nat) (h : ws = ps.filterMap (fun i => lw_tbl[i]?)) (g : ws.all goodWord = true) : ∀ w ∈ ws, w ∈ mx_wall := by
  intro w hw
  have h1 := List.all_eq_true.mp g w hw
  rw [h] at hw
  obtain ⟨i, -, hi⟩ := List.mem_filterMap.mp hw
  exact mx_w i hi h1
theorem mx_good {w : Cond} (h : w ∈ mx_wall) : GoodIn mx_wall (w :: mx_wall) := by
  have key : ∀ v ∈ mx_wall, v ∈ mx_wall ∧ ((v.onTables && v.keeps) = true ∨ ∃ ty, v = .arrayClass ty) := fun v hv => ⟨hv, good_of_word (List.mem_filter.mp hv).2⟩
  intro v hv
  rcases List.mem_cons.mp hv with rfl | hv
  · exact key _ h
  · exact key v hv
/-- the words of a class: its place, its fields' words, their types, their names -/
def mx_Cl (ci : Nat) (Cn : String) (TT : u_T) (N : Nat) (ty : Nat → FieldType) : Prop :=
  mx_cl[ci]? = some (Cn, TT, N) ∧ (∀ w ∈ u_ws Cn TT N, w ∈ mx_wall) ∧ (∀ k, k < N → parseFieldDescriptor (TT k).2.2.1 = some (ty k)) ∧ ∀ a, a < N → ∀ b, b < N → a ≠ b → (TT a).2.1 ≠ (TT b).2.1
/-- a system: table, addresses, cells that may change, what holds of the start besides -/
abbrev KE : Type := List CD × XE × (Nat → Prop) × (State → Prop)
def mx_ok (E : KE) : Prop := (∀ M, va_D E.2.2.1 (mx_ws E.1 E.2.1 M)) ∧ ∀ s U : State, s.WarmedH U.vm → s.heap.size ≤ U.heap.size → (∀ q : Nat, q < s.heap.size → ¬ E.2.2.1 q → U.heap[q]? = s.heap[q]?) → E.2.2.2 s → E.2.2.2 U
def mx_H (E : KE) (s : State) (M : MM) (H : Heap) (locs : List Loc) : Prop := va_P E.2.1.1 mx_cl (mx_ws E.1 E.2.1 M) H ∧ va_S E.2.2.1 s.heap H locs
def mx_C (E : KE) (p : Program) (m : MethodId) (c : Code) (cc : ByteArray) (nL : Nat) (s : State) (args : Array Value) (own : String) (meth : Method) (ret : Option FieldType) : Prop :=
  CallFix p m c cc nL s args mx_wall own ∧ va_K E.2.1.1 mx_cl (mx_tys E.2.1) s ∧ E.2.2.2 s ∧ mx_ok E ∧ meth.locks = false ∧ meth.sig.returnType = ret
def mx_Pre (E : KE) (M : MM) (U : State) : Prop := va_P E.2.1.1 mx_cl (mx_ws E.1 E.2.1 M) U.heap ∧ va_K E.2.1.1 mx_cl (mx_tys E.2.1) U ∧ E.2.2.2 U
def mx_Post (E : KE) (o : Option Value) (M : MM) : Array Value → State → Outcome → State → Prop := fun _ st oc t => oc = .returned o ∧ va_P E.2.1.1 mx_cl (mx_ws E.1 E.2.1 M) t.heap ∧ va_F E.2.2.1 st t
def mx_rm (h : Nat) : Room := { frames := h, cells := 0, slots := 0, locals := 64 * h }
def mx_Met (E : KE) (l : Launch) (y : MethodName) (cc : ByteArray) (nL : Nat) (ret : Option FieldType) (h : Nat) (av : List Value) (M : MM) (o : Option Value) (M' : MM) : Prop :=
  Met l y (Cond.code y cc nL ret :: mx_wall) (mx_rm h) (va_Pc av (mx_Pre E M)) (mx_Post E o M') 0 0 E.2.2.1
/-- what a method's end must reach -/
def mx_Z (E : KE) (below : List Frame) (args : Array Value) (s : State) (o : Option Value) (M : MM) : State → Prop := MQ below (mx_Post E o M) args s 0 0 E.2.2.1
theorem mx_enter {E : KE} {l : Launch} {y : MethodName} {cc : ByteArray} {nL : Nat} {ret : Option FieldType} {h : Nat} {av : List Value} {M M' : MM} {o : Option Value} (hE : mx_ok E) (hy : plainName y.cls = true) (hn : (lg_sl av).length ≤ nL)
    (body : ∀ (p : Program) (e : Env) (s : State) (m : MethodId) (below : List Frame) (meth : Method) (c : Code), mx_C E p m c cc nL s av.toArray y.cls meth ret → mx_H E s M s.heap [] → (y.name = meth.name) →
      ∀ ls : Array Slot, lv_has ls nL (lv_args 0 av) → W p l e (mx_rm h) s m av.toArray below meth c s.heap [] 0 0 (mx_Z E below av.toArray s o M') (F0 m 0 ls [])) : mx_Met E l y cc nL ret h av M o M' := by
  refine Met.ofW (cc := cc) (maxL := nL) (ret := ret) hy rfl ?_
  intro p e s m args below meth c s₁ B hml hv
  obtain ⟨rfl, hP, hK, hG⟩ := hv
  have hts := atoms_spec (ws := Cond.code y cc nL ret :: mx_wall) B.pre
  have hown : s.vm.findClass y.cls = some m.cls := findClass_of_methodNamed B.named
  have hl := lv_entry av (n := nL) hn
  have hC : mx_C E p m c cc nL s av.toArray y.cls meth ret := ⟨⟨B.exec, B.bytes, hml, hown, fun w hw => hts w (List.mem_cons_of_mem _ hw)⟩, hK, hG, hE, B.notSynchronized, B.returns⟩
  have hb := body p e s m below meth c hC ⟨hP, va_S.rf⟩ (name_of_methodNamed B.named B.method).1.symm
  rw [lg_entry_eq]
  exact hb _ hl
