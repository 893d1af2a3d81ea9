/-! WHAT IS BEING BUILT: fields with values or nulls, arrays filled so far. A field: (0,_,v) the int v, (1,_,_) a long 0, (2,k,_) the cell k, (3,_,_) null. An array: (type, length, filled, a, b, v) -/
abbrev FD : Type := Nat × Nat × Int32
abbrev CN : Type := (Nat × List FD) ⊕ (Nat × Nat × Nat × Nat × Nat × Int32)
def cw_f (X : XE) (f : FD) : Value := match f.1 with
  | 0 => .int f.2.2
  | 1 => .long 0
  | 2 => .ref (X.2.1 f.2.1)
  | _ => .null
def cw_a (X : XE) (d : Nat × Nat × Nat × Nat × Nat × Int32) : (Nat → Int32) ⊕ (Nat → Int64) ⊕ (Nat → UInt32) ⊕ (Nat → UInt64) ⊕ (Nat → Option Nat) := match d.1 with
  | 0 => .inl (fun i => if i < d.2.2.1 then d.2.2.2.2.2 else 0)
  | 1 => .inl (fun i => if i < d.2.2.1 then d.2.2.2.2.2 else 0)
  | 2 => .inr (.inl (fun _ => 0))
  | 3 => .inl (fun i => if i < d.2.2.1 then d.2.2.2.2.2 else 0)
  | t => .inr (.inr (.inr (.inr (fun i => if i < d.2.2.1 then some (mx_rad X t (d.2.2.2.1 + d.2.2.2.2.1 * i)) else none))))
def cw_E (X : XE) (d : CN) : va_E := match d with
  | .inl o => .inr (o.1, o.2.map (cw_f X))
  | .inr a => .inl (X.2.2.2 a.1, a.2.1, cw_a X a)
def cw_ws (X : XE) (T : List CN) : va_W := T.mapIdx (fun k d => (X.2.1 k, cw_E X d))
theorem cw_at {X : XE} {T : List CN} {k : Nat} {d : CN} (h : T[k]? = some d) : (cw_ws X T)[k]? = some (X.2.1 k, cw_E X d) := by
  simp [cw_ws, List.getElem?_mapIdx, h]
theorem cw_set {X : XE} {T : List CN} {k : Nat} {d : CN} : (cw_ws X T).set k (X.2.1 k, cw_E X d) = cw_ws X (T.set k d) := by
  apply List.ext_getElem?
  intro i
  simp only [cw_ws, List.getElem?_set, List.getElem?_mapIdx, List.length_mapIdx]
  by_cases hi : k = i
  · subst hi
    by_cases hl : k < T.length
    · simp [hl]
    · simp [hl]
  · simp [hi]
theorem cw_app {X : XE} {T : List CN} {d : CN} : cw_ws X T ++ [(X.2.1 T.length, cw_E X d)] = cw_ws X (T ++ [d]) := by
  simp [cw_ws, List.mapIdx_append]
def cw_A (X : XE) : Nat → Prop := fun q => X.2.1 0 ≤ q
def cw_g (X : XE) (s : State) : Prop := xg X (cw_A X) s ∧ va_AO RX9 s ∧ va_AO RX3 s ∧ va_AO RX8 s ∧ va_AO RX11 s
def cw_ok (X : XE) (G : State → Prop) : Prop := (∀ k, X.2.1 k = X.2.1 0 + k) ∧ ∀ s U : State, s.WarmedH U.vm → s.heap.size ≤ U.heap.size → (∀ q : Nat, q < s.heap.size → ¬ cw_A X q → U.heap[q]? = s.heap[q]?) → G s → G U
theorem cw_D {X : XE} {G : State → Prop} (h : cw_ok X G) (T : List CN) : va_D (cw_A X) (cw_ws X T) := by
  have key : ∀ (i : Nat) (q : Nat × va_E), (cw_ws X T)[i]? = some q → q.1 = X.2.1 0 + i := by
    intro i q hq
    simp only [cw_ws, List.getElem?_mapIdx] at hq
    cases hT : T[i]? with
    | none => rw [hT] at hq; cases hq
    | some d =>
      rw [hT] at hq
      cases hq
      exact h.1 i
  constructor
  · intro i j p q hp hq he
    have h1 := key i p hp
    have h2 := key j q hq
    omega
  · intro k q hq
    have h1 := key k q hq
    show X.2.1 0 ≤ q.1
    omega
def cw_H (X : XE) (s : State) (T : List CN) (H : Heap) (locs : List Loc) (cells : Nat) : Prop := va_P X.1 mx_cl (cw_ws X T) H ∧ va_S (cw_A X) s.heap H locs ∧ s.heap.size + cells = X.2.1 0 + T.length ∧ 0 < T.length
def cw_C (X : XE) (G : State → Prop) (p : Program) (m : MethodId) (c : Code) (cc : ByteArray) (nL : Nat) (s : State) (args : Array Value) (own : String) (meth : Method) : Prop :=
  CallFix p m c cc nL s args mx_wall own ∧ va_K X.1 mx_cl (mx_tys X) s ∧ G s ∧ cw_ok X G ∧ meth.locks = false ∧ meth.sig.returnType = none ∧ meth.name = "<init>"
def cw_Pre (X : XE) (G : State → Prop) (T : List CN) (U : State) : Prop := va_P X.1 mx_cl (cw_ws X T) U.heap ∧ U.heap.size = X.2.1 0 + T.length ∧ va_K X.1 mx_cl (mx_tys X) U ∧ G U
def cw_Post (X : XE) (T : List CN) : Array Value → State → Outcome → State → Prop := fun _ st oc t => oc = .returned none ∧ va_P X.1 mx_cl (cw_ws X T) t.heap ∧ va_F (cw_A X) st t
def cw_rm (h mc ms : Nat) : Room := { frames := h, cells := mc, slots := ms, locals := 64 * h }
def cw_Met (X : XE) (G : State → Prop) (l : Launch) (y : MethodName) (cc : ByteArray) (nL h mc ms : Nat) (av : List Value) (T T' : List CN) : Prop :=
  Met l y (Cond.code y cc nL none :: mx_wall) (cw_rm h mc ms) (va_Pc av (cw_Pre X G T)) (cw_Post X T') mc ms (cw_A X)
def cw_Z (X : XE) (below : List Frame) (args : Array Value) (s : State) (mc ms : Nat) (T : List CN) : State → Prop := MQ below (cw_Post X T) args s mc ms (cw_A X)
theorem cw_enter {X : XE} {G : State → Prop} {l : Launch} {y : MethodName} {cc : ByteArray} {nL h mc ms : Nat} {av : List Value} {T T' : List CN} (hX : cw_ok X G) (hy : plainName y.cls = true) (hn : (lg_sl av).length ≤ nL) (hyn : y.name = "<init>") (hT : 0 < T.length)
    (body : ∀ (p : Program) (e : Env) (s : State) (m : MethodId) (below : List Frame) (meth : Method) (c : Code), cw_C X G p m c cc nL s av.toArray y.cls meth → cw_H X s T s.heap [] 0 →
      ∀ ls : Array Slot, lv_has ls nL (lv_args 0 av) → W p l e (cw_rm h mc ms) s m av.toArray below meth c s.heap [] 0 0 (cw_Z X below av.toArray s mc ms T') (F0 m 0 ls [])) : cw_Met X G l y cc nL h mc ms av T T' := by
  refine Met.ofW (cc := cc) (maxL := nL) (ret := none) hy rfl ?_
  intro p e s m args below meth c s₁ B hml hv
  obtain ⟨rfl, hP, hz, hK, hG⟩ := hv
  have hts := atoms_spec (ws := Cond.code y cc nL none :: mx_wall) B.pre
  have hown : s.vm.findClass y.cls = some m.cls := findClass_of_methodNamed B.named
  have hl := lv_entry av (n := nL) hn
  have hnm := (name_of_methodNamed B.named B.method).1
  have hC : cw_C X G p m c cc nL s av.toArray y.cls meth := ⟨⟨B.exec, B.bytes, hml, hown, fun w hw => hts w (List.mem_cons_of_mem _ hw)⟩, hK, hG, hX, B.notSynchronized, B.returns, by rw [hnm, hyn]⟩
  have hb := body p e s m below meth c hC ⟨hP, va_S.rf, hz, hT⟩
  rw [lg_entry_eq]
  exact hb _ hl
section CWR
variable {p : Program} {l : Launch} {e : Env} {R : Room} {s : State} {m : MethodId} {args : Array Value} {below : List Frame} {meth : Method} {c : Code} {H : Heap} {locs : List Loc} {cells slots : Nat} {Q : State → Prop}
variable {cc : ByteArray} {nL pc : Nat} {ls : Array Slot} {rest : List Value} {X : XE} {G : State → Prop} {T : List CN} {own : String}
theorem cw_W {g : JFrame} (kk : H.size ≤ s.heap.size + cells → W p l e R s m args below meth c H locs cells slots Q g) : W p l e R s m args below meth c H locs cells slots Q g := by
  intro T hT Y
  have h1 := Y.same.2.2.1
  have h2 : (T.setVm s.vm).heap.size = H.size := by rw [← hT]; rfl
  exact kk (by omega) T hT Y
theorem cw_size (hX : cw_ok X G) (hM : cw_H X s T H locs cells) (hz : H.size ≤ s.heap.size + cells) : H.size = X.2.1 0 + T.length := by
  obtain ⟨hP, hS, he, h0⟩ := hM
  have hg : T[T.length - 1]? = some (T[T.length - 1]'(by omega)) := List.getElem?_eq_getElem (by omega)
  have h1 := (hP _ _ (cw_at hg)).lt
  have h2 := hX.1 (T.length - 1)
  have h3 : X.2.1 (T.length - 1) < H.size := h1
  omega
theorem cw_pushed {d : CN} {H1 : Heap} (hX : cw_ok X G) (hM : cw_H X s T H locs cells) (hz : H.size = X.2.1 0 + T.length) (h1 : va_at X.1 mx_cl (H.size, cw_E X d) H1) (z1 : H1.size = H.size + 1) (o1 : ∀ q : Nat, q < H.size → H1[q]? = H[q]?) : cw_H X s (T ++ [d]) H1 locs (cells + 1) := by
  obtain ⟨hP, hS, he, h0⟩ := hM
  have ha : X.2.1 T.length = H.size := by rw [hX.1]; omega
  refine ⟨?_, ⟨Nat.le_trans hS.1 (by omega), fun x h1 h2 => (o1 x (Nat.lt_of_lt_of_le h1 hS.1)).trans (hS.2.1 x h1 h2), hS.2.2⟩, by rw [List.length_append]; simp only [List.length_cons, List.length_nil]; omega, by rw [List.length_append]; omega⟩
  rw [← cw_app]
  have hk : ∀ (k : Nat) (x : Nat × va_E), (cw_ws X T)[k]? = some x → H1[x.1]? = H[x.1]? := fun k x hx => o1 x.1 ((hP k x hx).lt)
  refine (hP.kept hk).app (fun k x hx => ?_)
  have hz : k < 1 := (List.getElem?_eq_some_iff.mp hx).1
  rw [show k = 0 by omega] at hx
  cases hx
  rw [ha]
  exact h1
/-- a new array of numbers -/
theorem cw_newa (C : cw_C X G p m c cc nL s args own meth) (hM : cw_H X s T H locs cells) {atype : ArrayType} {t N : Nat} {a b : Nat} {v n : Int32} {pc2 : Nat} {a1 : Nat} (harr : Cond.arrayClass (newarray.typeOf atype) ∈ mx_wall) (ht : (mx_tys X)[t]? = some (X.2.2.2 t, newarray.typeOf atype)) (hra : va_RA s (X.2.2.2 t) (newarray.typeOf atype) → s.vm.findClass ("[" ++ (newarray.typeOf atype).toString) = some (X.2.2.2 t)) (hc : vp_cell (X.2.2.2 t) (N, cw_a X (t, N, 0, a, b, v)) = arrV (X.2.2.2 t) N (fun _ => defaultValue (newarray.typeOf atype)))
    (hn : ¬ n < 0) (hN : n.toNatClampNeg = N) (hbytes : N * componentBytes (newarray.typeOf atype) ≤ 536870912) (hcells : cells + 1 ≤ R.cells) (hslots : slots + N ≤ R.slots) (ha1 : T.length = a1) (hdg : decode cc pc = .ok (.newarray atype, 2)) (hpc : pc + 2 = pc2)
    (kk : ∀ H : Heap, cw_H X s (T ++ [.inr (t, N, 0, a, b, v)]) H locs (cells + 1) → W p l e R s m args below meth c H locs (cells + 1) (slots + N) Q (F0 m pc2 ls (.ref (X.2.1 a1) :: rest))) : W p l e R s m args below meth c H locs cells slots Q (F0 m pc ls (.int n :: rest)) := by
  subst hpc
  subst ha1
  obtain ⟨⟨hx, hb, hml, hown, hts⟩, hK, hG, hX, hlo, hr, hin⟩ := C
  refine cw_W fun hz => ?_
  have hz := cw_size hX hM hz
  refine va_newaK hx hb (hts _ harr) rfl hdg rfl hn hN hbytes hcells hslots rfl fun H1 cA e1 z1 o1 hAr hNm => ?_
  have hA : X.2.2.2 t = cA := Option.some.inj ((hra (hK.2 t _ ht).2).symm.trans hNm)
  have h2 := kk H1 (cw_pushed hX hM hz (by
    show H1[H.size]? = some (vp_cell (X.2.2.2 t) (N, cw_a X (t, N, 0, a, b, v)))
    rw [hc, hA]
    exact e1) z1 o1)
  rw [show X.2.1 T.length = H.size from by rw [hX.1]; omega] at h2
  exact h2
/-- a new array of references -/
theorem cw_newq (C : cw_C X G p m c cc nL s args own meth) (hM : cw_H X s T H locs cells) {Cn : String} {index t N : Nat} {a b : Nat} {n : Int32} {pc2 a1 : Nat} (hcl : Cond.classLink own index Cn ∈ mx_wall) (hov : va_AO Cn s) (ht : (mx_tys X)[t]? = some (X.2.2.2 t, .object Cn)) (hc : cw_a X (t, N, 0, a, b, 0) = .inr (.inr (.inr (.inr (fun _ => none)))))
    (hn : ¬ n < 0) (hN : n.toNatClampNeg = N) (hbytes : N * 4 ≤ 536870912) (hcells : cells + 1 ≤ R.cells) (hslots : slots + N ≤ R.slots) (ha1 : T.length = a1) (hdg : decode cc pc = .ok (.anewarray index, 3)) (hpc : pc + 3 = pc2)
    (kk : ∀ H : Heap, cw_H X s (T ++ [.inr (t, N, 0, a, b, 0)]) H locs (cells + 1) → W p l e R s m args below meth c H locs (cells + 1) (slots + N) Q (F0 m pc2 ls (.ref (X.2.1 a1) :: rest))) : W p l e R s m args below meth c H locs cells slots Q (F0 m pc ls (.int n :: rest)) := by
  subst hpc
  subst ha1
  subst hN
  obtain ⟨⟨hx, hb, hml, hown, hts⟩, hK, hG, hX, hlo, hr, hin⟩ := C
  refine cw_W fun hz => ?_
  have hz := cw_size hX hM hz
  refine W.anew hx hb hown (hts _ hcl) (va_AO.use hov) rfl hdg rfl hn hbytes hcells hslots fun cA kA comp f1 f2 f3 f4 => ?_
  generalize hH1 : H.push ({ cls := cA, slots := Array.replicate n.toNatClampNeg .null, vm := .none } : Cell) = H1
  have z1 : H1.size = H.size + 1 := by rw [← hH1, Array.size_push]
  have e1 : H1[H.size]? = some (arrV cA n.toNatClampNeg (fun _ => .null)) := by rw [← hH1, Array.getElem?_push_size, ← arrV_new]
  have o1 : ∀ q : Nat, q < H.size → H1[q]? = H[q]? := fun q hq => by rw [← hH1, Array.getElem?_push, if_neg (Nat.ne_of_lt hq)]
  obtain ⟨kA', comp', g1, g2, g3, g4⟩ := (hK.2 t _ ht).2
  have hA : X.2.2.2 t = cA := Option.some.inj (g4.symm.trans f1)
  have h2 := kk H1 (cw_pushed hX hM hz (by
    show H1[H.size]? = some (vp_cell (X.2.2.2 t) (n.toNatClampNeg, cw_a X (t, n.toNatClampNeg, 0, a, b, 0)))
    rw [hc, hA]
    exact e1) z1 o1)
  rw [show X.2.1 T.length = H.size from by rw [hX.1]; omega] at h2
  exact h2
/-- a new object -/
theorem cw_new (C : cw_C X G p m c cc nL s args own meth) (hM : cw_H X s T H locs cells) {ci N index : Nat} {Cn : String} {TT : u_T} {ty : Nat → FieldType} (hc : mx_Cl ci Cn TT N ty) {fs : List FD} (hfs : ∀ j, j < N → defaultValue (ty j) = vp_V (fs.map (cw_f X)) j) (hcl : Cond.classLink own index Cn ∈ mx_wall) (hinst : Cond.instantiable Cn N ∈ mx_wall) (hini : Cond.initialized Cn ∈ mx_wall) {pc2 a1 : Nat} (hcells : cells + 1 ≤ R.cells) (hslots : slots + N ≤ R.slots) (ha1 : T.length = a1) (hdg : decode cc pc = .ok (.new index, 3)) (hpc : pc + 3 = pc2)
    (kk : ∀ H : Heap, cw_H X s (T ++ [.inl (ci, fs)]) H locs (cells + 1) → W p l e R s m args below meth c H locs (cells + 1) (slots + N) Q (F0 m pc2 ls (.ref (X.2.1 a1) :: rest))) : W p l e R s m args below meth c H locs cells slots Q (F0 m pc ls rest) := by
  subst hpc
  subst ha1
  obtain ⟨⟨hx, hb, hml, hown, hts⟩, hK, hG, hX, hlo, hr, hin⟩ := C
  refine cw_W fun hz => ?_
  have hz := cw_size hX hM hz
  have hKn := hK.1 ci _ hc.1
  refine W.newcK hx hb hown (hts _ hcl) (hts _ hinst) (hts _ hini) rfl hdg hcells hslots hKn.2.1 rfl fun H1 kC hkC e1 z1 o1 => ?_
  have h2 := kk H1 (cw_pushed hX hM hz (show va_at X.1 mx_cl (H.size, .inr (ci, fs.map (cw_f X))) H1 from ⟨_, hc.1, (u_born ty hts hc.2.1 hKn hkC e1 hc.2.2.1).to hfs⟩) z1 o1)
  rw [show X.2.1 T.length = H.size from by rw [hX.1]; omega] at h2
  exact h2
theorem cw_mapset {fs : List FD} {j : Nat} {f : FD} : (fs.map (cw_f X)).set j (cw_f X f) = (fs.set j f).map (cw_f X) := by
  apply List.ext_getElem?
  intro i
  simp only [List.getElem?_set, List.getElem?_map, List.length_map]
  by_cases hi : j = i
  · subst hi
    by_cases hl : j < fs.length <;> simp [hl]
  · simp [hi]
/-- a field of its own, final or not -/
theorem cw_put (C : cw_C X G p m c cc nL s args own meth) (hM : cw_H X s T H locs cells) {ci N k j index : Nat} {Cn : String} {TT : u_T} {ty : Nat → FieldType} (hc : mx_Cl ci Cn TT N ty) {fs : List FD} (hT : T[k]? = some (.inl (ci, fs))) (hj : j < N) (hlink : Cond.fieldLink own index (TT j).1 (TT j).2.1 (TT j).2.2.1 ∈ mx_wall) (hdecl : (TT j).1 = own) {f : FD} {v : Value} (hv : cw_f X f = v) (hn : narrow (ty j) v = v) (hfit : fits (ty j) v = true) (hl : j < fs.length) {pc2 : Nat} (hdg : decode cc pc = .ok (.putfield index, 3)) (hpc : pc + 3 = pc2)
    (kk : ∀ (H : Heap) (locs : List Loc), cw_H X s (T.set k (.inl (ci, fs.set j f))) H locs cells → W p l e R s m args below meth c H locs cells slots Q (F0 m pc2 ls rest)) : W p l e R s m args below meth c H locs cells slots Q (F0 m pc ls (v :: .ref (X.2.1 k) :: rest)) := by
  subst hpc
  subst hv
  obtain ⟨⟨hx, hb, hml, hown, hts⟩, hK, hG, hX, hlo, hr, hin⟩ := C
  obtain ⟨hP, hS, he, h0⟩ := hM
  have fin : ∀ (H1 : Heap) (locs1 : List Loc), va_P X.1 mx_cl ((cw_ws X T).set k (X.2.1 k, .inr (ci, (fs.map (cw_f X)).set j (cw_f X f)))) H1 → va_S (cw_A X) s.heap H1 locs1 → W p l e R s m args below meth c H1 locs1 cells slots Q (F0 m (pc + 3) ls rest) := by
    intro H1 locs1 hP1 hS1
    refine kk H1 locs1 ⟨?_, hS1, by rw [List.length_set]; exact he, by rw [List.length_set]; exact h0⟩
    rw [cw_mapset] at hP1
    rw [← cw_set]
    exact hP1
  cases hfin : (TT j).2.2.2 with
  | true => exact va_putF hx hb hts hc.2.1 ty hc.2.2.1 hc.2.2.2 hown hK hP (cw_D hX T) hS k (cw_at hT) hc.1 j hj (hts _ hlink) (fun _ h => h) hfin hin hdecl (hc.2.2.1 j hj) hn hfit (by simpa using hl) hdg (fun H1 locs1 hP1 hD hS1 => fin H1 locs1 hP1 hS1)
  | false => exact va_put hx hb hts hc.2.1 ty hc.2.2.1 hc.2.2.2 hown hK hP (cw_D hX T) hS k (cw_at hT) hc.1 j hj (hts _ hlink) (fun _ h => h) hfin (hc.2.2.1 j hj) hn hfit (by simpa using hl) hdg (fun H1 locs1 hP1 hD hS1 => fin H1 locs1 hP1 hS1)
theorem cw_get (C : cw_C X G p m c cc nL s args own meth) (hM : cw_H X s T H locs cells) {ci N k j index : Nat} {Cn : String} {TT : u_T} {ty : Nat → FieldType} (hc : mx_Cl ci Cn TT N ty) {fs : List FD} (hT : T[k]? = some (.inl (ci, fs))) {f : FD} (hf : fs[j]? = some f) (hj : j < N) (hlink : Cond.fieldLink own index (TT j).1 (TT j).2.1 (TT j).2.2.1 ∈ mx_wall) {v : Value} (hv : cw_f X f = v) {pc2 : Nat} (hdg : decode cc pc = .ok (.getfield index, 3)) (hpc : pc + 3 = pc2)
    (kk : W p l e R s m args below meth c H locs cells slots Q (F0 m pc2 ls (v :: rest))) : W p l e R s m args below meth c H locs cells slots Q (F0 m pc ls (.ref (X.2.1 k) :: rest)) := by
  subst hpc
  subst hv
  obtain ⟨⟨hx, hb, hml, hown, hts⟩, hK, hG, hX, hlo, hr, hin⟩ := C
  exact va_get hx hb hts hc.2.1 hown hK hM.1 k (cw_at hT) hc.1 j hj (hts _ hlink) (fun _ h => h) (by simp [hf]) hdg kk
/-- the next place of an array of ints -/
theorem cw_iast (C : cw_C X G p m c cc nL s args own meth) (hM : cw_H X s T H locs cells) {k n j : Nat} {v i : Int32} (hT : T[k]? = some (.inr (0, n, j, 0, 0, v))) (hi : i.toNatClampNeg = j) (hin : vp_in i n) {pc2 : Nat} (hdg : decode cc pc = .ok (.iastore, 1)) (hpc : pc + 1 = pc2)
    (kk : ∀ (H : Heap) (locs : List Loc), cw_H X s (T.set k (.inr (0, n, j + 1, 0, 0, v))) H locs cells → W p l e R s m args below meth c H locs cells slots Q (F0 m pc2 ls rest)) : W p l e R s m args below meth c H locs cells slots Q (F0 m pc ls (.int v :: .int i :: .ref (X.2.1 k) :: rest)) := by
  subst hpc
  subst hi
  obtain ⟨⟨hx, hb, hml, hown, hts⟩, hK, hG, hX, hlo, hr, hi2⟩ := C
  obtain ⟨hP, hS, he, h0⟩ := hM
  refine va_iast hx hb hK hP (cw_D hX T) hS k 0 (cw_at hT) rfl hin hdg (fun H1 locs1 hP1 hD hS1 => kk H1 locs1 ⟨?_, hS1, by rw [List.length_set]; exact he, by rw [List.length_set]; exact h0⟩)
  rw [← cw_set]
  have h2 : (.inl (X.2.2.2 0, n, .inl (upd (fun q => if q < i.toNatClampNeg then v else 0) i.toNatClampNeg v)) : va_E) = cw_E X (.inr (0, n, i.toNatClampNeg + 1, 0, 0, v)) := by
    simp only [cw_E, cw_a]
    congr 3
    refine congrArg Sum.inl ?_
    funext q
    simp only [upd]
    by_cases h1 : q = i.toNatClampNeg
    · rw [if_pos h1, if_pos (by omega)]
    · rw [if_neg h1]
      by_cases h3 : q < i.toNatClampNeg
      · rw [if_pos h3, if_pos (by omega)]
      · rw [if_neg h3, if_neg (by omega)]
  rw [← h2]
  exact hP1
theorem cw_up {g : Nat → Nat} (j : Nat) : va_up (fun q => if q < j then some (g q) else none) j (some (g j)) = fun q => if q < j + 1 then some (g q) else none := by
  funext q
  simp only [va_up]
  by_cases h1 : q = j
  · rw [if_pos h1, if_pos (by omega), h1]
  · rw [if_neg h1]
    by_cases h3 : q < j
    · rw [if_pos h3, if_pos (by omega)]
    · rw [if_neg h3, if_neg (by omega)]
/-- the next place of an array of the class's own objects -/
theorem cw_aast (C : cw_C X G p m c cc nL s args own meth) (hM : cw_H X s T H locs cells) {k n j t a b ci g : Nat} {i : Int32} {r : vw_C} {fs : List FD} (hT : T[k]? = some (.inr (t, n, j, a, b, 0))) (hct : ∀ j, cw_a X (t, n, j, a, b, 0) = .inr (.inr (.inr (.inr (fun q => if q < j then some (X.2.1 (a + b * q)) else none))))) (ht : (mx_tys X)[t]? = some (X.2.2.2 t, .object r.1)) (hc : mx_cl[ci]? = some r) (hv : T[g]? = some (.inl (ci, fs))) (hg : a + b * j = g) (hi : i.toNatClampNeg = j) (hin : vp_in i n) {pc2 : Nat} (hdg : decode cc pc = .ok (.aastore, 1)) (hpc : pc + 1 = pc2)
    (kk : ∀ (H : Heap) (locs : List Loc), cw_H X s (T.set k (.inr (t, n, j + 1, a, b, 0))) H locs cells → W p l e R s m args below meth c H locs cells slots Q (F0 m pc2 ls rest)) : W p l e R s m args below meth c H locs cells slots Q (F0 m pc ls (.ref (X.2.1 g) :: .int i :: .ref (X.2.1 k) :: rest)) := by
  subst hpc
  subst hi
  subst hg
  obtain ⟨⟨hx, hb, hml, hown, hts⟩, hK, hG, hX, hlo, hr, hi2⟩ := C
  obtain ⟨hP, hS, he, h0⟩ := hM
  have hT1 := cw_at (X := X) hT
  simp only [cw_E, hct] at hT1
  refine va_astq hx hb hK hP (cw_D hX T) hS k t (a + b * i.toNatClampNeg) ci hT1 ht (cw_at hv) hc hin hdg (fun H1 locs1 hP1 hD hS1 => kk H1 locs1 ⟨?_, hS1, by rw [List.length_set]; exact he, by rw [List.length_set]; exact h0⟩)
  rw [← cw_set]
  have h2 : (.inl (X.2.2.2 t, n, .inr (.inr (.inr (.inr (va_up (fun q => if q < i.toNatClampNeg then some (X.2.1 (a + b * q)) else none) i.toNatClampNeg (some (X.2.1 (a + b * i.toNatClampNeg)))))))) : va_E) = cw_E X (.inr (t, n, i.toNatClampNeg + 1, a, b, 0)) := by
    simp only [cw_E, hct]
    rw [cw_up (g := fun q => X.2.1 (a + b * q))]
  rw [← h2]
  exact hP1
/-- the next place of an array of words: OTHER -/
theorem cw_wast (C : cw_C X G p m c cc nL s args own meth) (hg : cw_g X s) (hM : cw_H X s T H locs cells) {k n j : Nat} {i : Int32} (hT : T[k]? = some (.inr (7, n, j, 0, 0, 0))) (hi : i.toNatClampNeg = j) (hin : vp_in i n) {pc2 : Nat} (hdg : decode cc pc = .ok (.aastore, 1)) (hpc : pc + 1 = pc2)
    (kk : ∀ (H : Heap) (locs : List Loc), cw_H X s (T.set k (.inr (7, n, j + 1, 0, 0, 0))) H locs cells → W p l e R s m args below meth c H locs cells slots Q (F0 m pc2 ls rest)) : W p l e R s m args below meth c H locs cells slots Q (F0 m pc ls (.ref (X.2.2.1 0) :: .int i :: .ref (X.2.1 k) :: rest)) := by
  subst hpc
  subst hi
  obtain ⟨⟨hx, hb, hml, hown, hts⟩, hK, hG, hX, hlo, hr, hi2⟩ := C
  obtain ⟨hP, hS, he, h0⟩ := hM
  have hO := (hg.1.1 0 (by decide)).2.1.kept hS.2.1
  obtain ⟨cellV, g1, g2, g3, -⟩ := hO
  have hct : ∀ j, cw_a X (7, n, j, 0, 0, 0) = .inr (.inr (.inr (.inr (fun q => if q < j then some (X.2.2.1 0) else none)))) := by
    intro j
    simp only [cw_a, mx_rad, if_true, Nat.zero_mul, Nat.add_zero]
  have hT1 := cw_at (X := X) hT
  simp only [cw_E, hct] at hT1
  refine vb_astq hx hb hK hP (cw_D hX T) hS k 7 (E := RX11) (C := RX11) hT1 rfl ⟨cellV, g1, g2, g3⟩ (fun comp c0 h1 h2 => by
    have h3 : comp = c0 := Option.some.inj (h1.symm.trans h2)
    rw [h3]
    exact va_asg _ _) hin hdg (fun H1 locs1 hP1 hD hS1 => kk H1 locs1 ⟨?_, hS1, by rw [List.length_set]; exact he, by rw [List.length_set]; exact h0⟩)
  rw [← cw_set]
  have h2 : (.inl (X.2.2.2 7, n, .inr (.inr (.inr (.inr (va_up (fun q => if q < i.toNatClampNeg then some (X.2.2.1 0) else none) i.toNatClampNeg (some (X.2.2.1 0))))))) : va_E) = cw_E X (.inr (7, n, i.toNatClampNeg + 1, 0, 0, 0)) := by
    simp only [cw_E, hct]
    rw [cw_up (g := fun _ => X.2.2.1 0)]
  rw [← h2]
  exact hP1
theorem cw_other (C : cw_C X G p m c cc nL s args own meth) (hg : cw_g X s) (hM : cw_H X s T H locs cells) {index pc2 : Nat} (hlink : Cond.fieldLink own index RX11 "OTHER" "LRingKeepers$Word;" ∈ mx_wall) (hdg : decode cc pc = .ok (.getstatic index, 3)) (hpc : pc + 3 = pc2)
    (kk : W p l e R s m args below meth c H locs cells slots Q (F0 m pc2 ls (.ref (X.2.2.1 0) :: rest))) : W p l e R s m args below meth c H locs cells slots Q (F0 m pc ls rest) := by
  subst hpc
  exact va_gets C.1.1 C.1.2.1 (hg.1.1 0 (by decide)).1 hM.2.1 C.1.2.2.2.1 (C.1.2.2.2.2 _ hlink) (fun _ h => h) hdg kk
/-- Object's constructor -/
theorem cw_oi {h mc ms : Nat} (C : cw_C X G p m c cc nL s args own meth) (hl : ls.size = nL) {index pc2 : Nat} {a : Addr} (hlink : Cond.methodLink own index Lib.objectInit ∈ mx_wall) (hins : Cond.instanceMethod Lib.objectInit ∈ mx_wall) (hcode : Cond.code Lib.objectInit ⟨#[0xb1]⟩ 1 none ∈ mx_wall) (hh : 1 ≤ h) (hdg : decode cc pc = .ok (.invokespecial index, 3)) (hpc : pc + 3 = pc2)
    (kk : W p l e (cw_rm h mc ms) s m args below meth c H locs cells slots Q (F0 m pc2 ls [])) : W p l e (cw_rm h mc ms) s m args below meth c H locs cells slots Q (F0 m pc ls [.ref a]) := by
  subst hpc
  obtain ⟨⟨hx, hb, hml, hown, hts⟩, hK, hG, hX, hlo, hr, hi2⟩ := C
  refine W.objInit hx hb hown (hts _ hlink) (hts _ hins) (hts _ hcode) rfl (hl.trans hml.symm) rfl hdg hh ?_ kk
  have h1 := lv_room (m := m) (pc := pc) (ls := ls) (rest := [.ref a]) (st := []) (by decide)
  simp only [cw_rm]
  simp only [List.map_nil, List.sum_nil] at h1 ⊢
  omega
theorem cw_ret {mc ms : Nat} {T' : List CN} (C : cw_C X G p m c cc nL s args own meth) (hM : cw_H X s T H locs cells) (hT : T = T') (hc : cells = mc) (hs : slots = ms) (hdg : decode cc pc = .ok (.return_, 1)) : W p l e R s m args below meth c H locs cells slots (cw_Z X below args s mc ms T') (F0 m pc ls []) := by
  subst hT
  subst hc
  subst hs
  obtain ⟨⟨hx, hb, hml, hown, hts⟩, hK, hG, hX, hlo, hr, hi2⟩ := C
  exact W.vret hx hb hr (fun t ht hW => ⟨rfl, by rw [ht]; exact hM.1, hM.2.1.F ht⟩) hM.2.1.2.2 hdg
theorem cw_blind {av : List Value} (hX : cw_ok X G) : FrameBlind (va_Pc av (cw_Pre X G T)) := by
  intro a U g mk q
  obtain ⟨q0, qP, qz, qK, qG⟩ := q
  exact ⟨q0, qP, qz, va_K.moved (u := U) (U := U.calling g mk a) (Vm.Alike.refl U.vm) qK, hX.2 U (U.calling g mk a) (State.WarmedH.refl U) (Nat.le_refl _) (fun _ _ _ => rfl) qG⟩
theorem cw_pre {av : List Value} (hK : va_K X.1 mx_cl (mx_tys X) s) (hG : G s) (hX : cw_ok X G) (hM : cw_H X s T H locs cells) (hz : H.size = X.2.1 0 + T.length) : ∀ U : State, U.heap = H → s.WarmedH U.vm → va_Pc av (cw_Pre X G T) av.toArray U := by
  intro U hU hW
  exact ⟨rfl, by rw [hU]; exact hM.1, by rw [hU]; exact hz, va_K.moved hW.alike hK, hX.2 s U hW (by rw [hU]; exact hM.2.1.1) (fun q h1 h2 => by rw [hU]; exact hM.2.1.2.1 q h1 h2) hG⟩
/-- a private constructor of a nest mate -/
theorem cw_call {h h' n index yL mc ms rc rs k pc2 : Nat} {host : String} {y : MethodName} {yc : ByteArray} {As st0 : List Value} {T' : List CN} (C : cw_C X G p m c cc nL s args own meth) (hM : cw_H X s T H locs cells) (hl : ls.size = nL) (Y : mx_Y y yc yL none n) (hyn : y.name = "<init>") (hh : h' < h) (hlink : va_Nw (.methodLinkNest own index y host) s) (hins : Cond.instanceMethod y ∈ mx_wall)
    (hy : cw_Met X G l y yc yL h' mc ms (.ref (X.2.1 k) :: As) T T') (hlen : T'.length = T.length + mc) (hn : As.length = n) (hst : st0 = As.reverse ++ .ref (X.2.1 k) :: rest) (hW : (rest.map fun v => v.category).sum ≤ 8) (hdg : decode cc pc = .ok (.invokespecial index, 3)) (hf : cells + mc ≤ rc ∧ slots + ms ≤ rs) (hpc : pc + 3 = pc2)
    (kk : ∀ (H : Heap) (locs : List Loc), cw_H X s T' H locs (cells + mc) → W p l e (cw_rm h rc rs) s m args below meth c H locs (cells + mc) (slots + ms) Q (F0 m pc2 ls rest)) : W p l e (cw_rm h rc rs) s m args below meth c H locs cells slots Q (F0 m pc ls st0) := by
  subst hpc
  obtain ⟨S, hK, hG, hX, hlo, hr, hi2⟩ := C
  have hts := S.2.2.2.2
  refine cw_W fun hz => ?_
  have hz := cw_size hX hM hz
  have hrun := va_runIN (H := H) (locs := locs) (cells := cells) (slots := slots) (below := below) (meth := meth) (e := e) (rest := rest) (g := F0 m pc ls st0) (R := cw_rm h rc rs) S hy ⟨va_cnB n hts (mx_good Y.1) rfl rfl rfl hlink (hts _ Y.2.1) Y.2.2.1 (by have := Y.2.2.2; simp only [cw_rm]; omega), hyn, hts _ hins⟩ ⟨cw_blind hX, cw_pre hK hG hX hM hz⟩ rfl hn hl hst (lv_room hW) hdg hf
  intro T1 hT1 Z
  obtain ⟨v, st₀, t, T2, L, h0, Z', hL, e1, e2, ⟨hv, hp, hz2, hk⟩, st⟩ := hrun T1 hT1 Z
  cases hv
  rw [h0] at hz2 hk
  obtain ⟨hP, hS, he, hp0⟩ := hM
  obtain ⟨t2, a1, b1⟩ := kk T2.heap (locs ++ L) ⟨by rw [e1]; exact hp, ⟨Nat.le_trans hS.1 (by rw [e1]; exact hz2), fun q h1 h2 => by rw [e1, hk q (Nat.lt_of_lt_of_le h1 hS.1) h2]; exact hS.2.1 q h1 h2, fun q hq => by
      rcases List.mem_append.mp hq with h | h
      · exact hS.2.2 q h
      · exact hL q h⟩, by omega, by omega⟩ T2 rfl Z'
  exact ⟨t2, st t2 a1, b1⟩
end CWR
